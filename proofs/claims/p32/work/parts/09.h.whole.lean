/-! START: the bundle out of what the Statement gives -/
theorem zt_of {args : Array Value} {s : State} {C n : String} {N : Nat} {f : Nat → Int32} {A : Nat → Prop} (hN : N < 2 ^ 31) (hl : (Cond.laysStatic C n "[I").before args s = true) (hini : (Cond.initialized C).before args s = true) (harr : (Cond.arrayOf (.static C n "[I") .int).before args s = true) (hlen : (Cond.eq (.length (.static C n "[I")) (.int (Int32.ofNat N))).before args s = true) (hel : ∀ j : Nat, j < N → (Cond.eq (.elem (.static C n "[I") (.int (Int32.ofNat j))) (.int (f j))).before args s = true) (hA : ∀ a : Nat, a < s.heap.size → ¬ A a) : ∃ t : Nat, zt C n t N f A s s.heap := by
  obtain ⟨t, ht, hT⟩ := va_Tof (ty := .int) (f := fun j => .int (f j)) hN harr (va_eqt hlen) (fun j hj => va_eqt (hel j hj)) hA
  exact ⟨t, va_Zref hl hini ht hA, hT⟩
theorem arr_of {args : Array Value} {s : State} {ty : FieldType} (h : (Cond.arrayClass ty).before args s = true) (ht : ∀ C, ty ≠ .object C) : ∃ cA : ClassId, ArrOfT s cA ty ∧ va_RA s cA ty := by
  obtain ⟨c, k, comp, h1, h2, h3⟩ := Cond.arrayClass_spec h
  refine ⟨c, fun n z => ⟨fun k h => (by cases h), k, h2, comp, h3⟩, ?_⟩
  cases ty with
  | object C => exact absurd rfl (ht C)
  | _ => exact h1
theorem arrq_of {args : Array Value} {s : State} {C : String} (h : (Cond.arrayOver (.object C)).before args s = true) : ∃ cA : ClassId, ArrOfT s cA (.object C) ∧ va_RA s cA (.object C) := by
  obtain ⟨comp, c, k, h1, h2, h3, h4, h5⟩ := Cond.arrayOver_spec h
  exact ⟨c, fun n z => ⟨fun k h => (by cases h), k, h3, comp, h4⟩, k, comp, h3, h4, h1, h5⟩
theorem enc_s (xs : Nat → Int32) (j : Nat) {f : Nat → Nat} : nI ((fun k => if k < 10 then f k else (xs (k - 10)).toBitVec.toNat) (10 + j)) = xs j := by
  show nI (if 10 + j < 10 then f (10 + j) else (xs (10 + j - 10)).toBitVec.toNat) = xs j
  rw [if_neg (by omega), show 10 + j - 10 = j by omega]
  apply Int32.toBitVec_inj.mp
  show BitVec.ofNat 32 (xs j).toBitVec.toNat = (xs j).toBitVec
  simp
theorem gx_start {s : State} {b : Nat} {A : Nat → Prop} (hts : ∀ w ∈ lw_tbl, w.before #[Value.ref b] s = true) (hgv : (Jvm.Cond.and given_1 narrow_1).before #[Value.ref b] s = true) (hA : ∀ a : Nat, a < s.heap.size → ¬ A a) {L : Nat} {xs : Nat → Int32} (hX : va_X b L xs s s.heap) (hbl : b < s.heap.size) : ∃ X : XT, GX X A s s.heap ∧ X.2.2 6 = b ∧ SC X L xs := by
  have hs := flat_of_before _ hgv
  obtain ⟨c0, iS0, hKn0⟩ := u_known (C := RX0) (T := TX0) (N := 5) (n := 5) hts inX0 (hts (.instantiable RX0 5) (by decide +kernel))
  obtain ⟨c1, iS1, hKn1⟩ := u_known (C := RX1) (T := TX1) (N := 2) (n := 2) hts inX1 (hts (.instantiable RX1 2) (by decide +kernel))
  obtain ⟨c2, iS2, hKn2⟩ := u_known (C := RX2) (T := TX2) (N := 4) (n := 4) hts inX2 (hts (.instantiable RX2 4) (by decide +kernel))
  obtain ⟨c3, iS3, hKn3⟩ := u_known (C := RX3) (T := TX3) (N := 13) (n := 13) hts inX3 (hts (.instantiable RX3 13) (by decide +kernel))
  obtain ⟨c4, iS4, hKn4⟩ := u_known (C := RX4) (T := TX4) (N := 6) (n := 6) hts inX4 (hts (.instantiable RX4 6) (by decide +kernel))
  obtain ⟨c5, iS5, hKn5⟩ := u_known (C := RX5) (T := TX5) (N := 3) (n := 3) hts inX5 (hts (.instantiable RX5 3) (by decide +kernel))
  obtain ⟨c6, iS6, hKn6⟩ := u_known (C := RX6) (T := TX6) (N := 3) (n := 3) hts inX6 (hts (.instantiable RX6 3) (by decide +kernel))
  obtain ⟨c7, iS7, hKn7⟩ := u_known (C := RX7) (T := TX7) (N := 4) (n := 4) hts inX7 (hts (.instantiable RX7 4) (by decide +kernel))
  obtain ⟨c8, iS8, hKn8⟩ := u_known (C := RX8) (T := TX8) (N := 2) (n := 2) hts inX8 (hts (.instantiable RX8 2) (by decide +kernel))
  obtain ⟨c9, iS9, hKn9⟩ := u_known (C := RX9) (T := TX9) (N := 5) (n := 5) hts inX9 (hts (.instantiable RX9 5) (by decide +kernel))
  obtain ⟨c10, iS10, hKn10⟩ := u_known (C := RX10) (T := TX10) (N := 13) (n := 13) hts inX10 (hts (.instantiable RX10 13) (by decide +kernel))
  obtain ⟨dC, dI, hKc⟩ : ∃ (dC : Nat → ClassId) (dI : Nat → Nat → Nat), ∀ (k : Nat) (q : vw_C), vwCl[k]? = some q → u_Kn s q.1 q.2.1 q.2.2 (dC k) (dI k) := by
    refine ⟨fun k => [c0, c1, c2, c3, c4, c5, c6, c7, c8, c9, c10].getD k c0, fun k => [iS0, iS1, iS2, iS3, iS4, iS5, iS6, iS7, iS8, iS9, iS10].getD k iS0, ?_⟩
    intro k q hq
    match k, hq with
    | 0, hq => cases hq; exact hKn0
    | 1, hq => cases hq; exact hKn1
    | 2, hq => cases hq; exact hKn2
    | 3, hq => cases hq; exact hKn3
    | 4, hq => cases hq; exact hKn4
    | 5, hq => cases hq; exact hKn5
    | 6, hq => cases hq; exact hKn6
    | 7, hq => cases hq; exact hKn7
    | 8, hq => cases hq; exact hKn8
    | 9, hq => cases hq; exact hKn9
    | 10, hq => cases hq; exact hKn10
    | k + 11, hq => simp [vwCl] at hq
  obtain ⟨cI, hI⟩ := arr_of (ty := .int) (hts (.arrayClass .int) (by decide +kernel)) (fun C h => by cases h)
  obtain ⟨cL, hL⟩ := arr_of (ty := .long) (hts (.arrayClass .long) (by decide +kernel)) (fun C h => by cases h)
  obtain ⟨cB, hB⟩ := arr_of (ty := .byte) (hts (.arrayClass .byte) (by decide +kernel)) (fun C h => by cases h)
  obtain ⟨cN, hN⟩ := arrq_of (C := RX5) (hts (.arrayOver (.object RX5)) (by decide +kernel))
  have m0 : ∀ j : Nat, j < 8 → Cond.eq (.elem (.static RX6 "FIRST" "[I") (.int (Int32.ofNat j))) (.int (tab0 j)) ∈ flatC (Jvm.Cond.and given_1 narrow_1) := by decide +kernel
  have m1 : ∀ j : Nat, j < 22 → Cond.eq (.elem (.static RX6 "LOW" "[I") (.int (Int32.ofNat j))) (.int (tab1 j)) ∈ flatC (Jvm.Cond.and given_1 narrow_1) := by decide +kernel
  have m2 : ∀ j : Nat, j < 22 → Cond.eq (.elem (.static RX6 "HIGH" "[I") (.int (Int32.ofNat j))) (.int (tab2 j)) ∈ flatC (Jvm.Cond.and given_1 narrow_1) := by decide +kernel
  have m3 : ∀ j : Nat, j < 7 → Cond.eq (.elem (.static RX3 "PLAIN_JUDGE" "[I") (.int (Int32.ofNat j))) (.int (tab3 j)) ∈ flatC (Jvm.Cond.and given_1 narrow_1) := by decide +kernel
  obtain ⟨t0, z0⟩ := zt_of (C := RX6) (n := "FIRST") (N := 8) (f := tab0) (A := A) (by decide) (hts (.laysStatic RX6 "FIRST" "[I") (by decide +kernel)) (hts (.initialized RX6) (by decide +kernel)) (hs _ (by decide +kernel)) (hs _ (by decide +kernel)) (fun j hj => hs _ (m0 j hj)) hA
  obtain ⟨t1, z1⟩ := zt_of (C := RX6) (n := "LOW") (N := 22) (f := tab1) (A := A) (by decide) (hts (.laysStatic RX6 "LOW" "[I") (by decide +kernel)) (hts (.initialized RX6) (by decide +kernel)) (hs _ (by decide +kernel)) (hs _ (by decide +kernel)) (fun j hj => hs _ (m1 j hj)) hA
  obtain ⟨t2, z2⟩ := zt_of (C := RX6) (n := "HIGH") (N := 22) (f := tab2) (A := A) (by decide) (hts (.laysStatic RX6 "HIGH" "[I") (by decide +kernel)) (hts (.initialized RX6) (by decide +kernel)) (hs _ (by decide +kernel)) (hs _ (by decide +kernel)) (fun j hj => hs _ (m2 j hj)) hA
  obtain ⟨t3, z3⟩ := zt_of (C := RX3) (n := "PLAIN_JUDGE") (N := 7) (f := tab3) (A := A) (by decide) (hts (.laysStatic RX3 "PLAIN_JUDGE" "[I") (by decide +kernel)) (hts (.initialized RX3) (by decide +kernel)) (hs _ (by decide +kernel)) (hs _ (by decide +kernel)) (fun j hj => hs _ (m3 j hj)) hA
  have zc : va_Z "java/lang/String" "COMPACT_STRINGS" "Z" (.int 1) A s s.heap := va_Zof (hts (.laysStatic "java/lang/String" "COMPACT_STRINGS" "Z") (by decide +kernel)) (hts (.initialized "java/lang/String") (by decide +kernel)) (va_eqi (hs _ (by decide +kernel))) hA
  have ms : ∀ j : Nat, j < 7 → Cond.eq (.elem (.field (.string RX6 45) "java/lang/String" "value" "[B") (.int (Int32.ofNat j))) (.int (strB.getD j 0)) ∈ flatC (Jvm.Cond.and given_1 narrow_1) := by decide +kernel
  obtain ⟨adK, adV, hSt, hSe⟩ := vk_Sof (args := #[Value.ref b]) (s := s) (N := 1) (tm := fun _ => .string RX6 45) (len := [7]) (byt := [strB]) (A := A)
    (fun i hi => by have h0 : i = 0 := by omega
                    subst h0; decide)
    (fun i hi => hs _ (by decide +kernel)) (fun i hi => hs _ (by decide +kernel)) (fun i hi => hs _ (by decide +kernel))
    (fun i hi => by have h0 : i = 0 := by omega
                    subst h0; exact hs _ (by decide +kernel))
    (fun i hi j hj => by have h0 : i = 0 := by omega
                         subst h0; exact hs _ (ms j hj))
    (fun i j hi hj hne => absurd (by omega) hne) hA
  have hR45 : vk_R RX6 45 "rbfkdhj" (adK 0) s := vk_R.of (hts (.stringRef RX6 45 "rbfkdhj") (by decide +kernel)) (hSe 0 (by omega))
  have nF : ∀ q ∈ nestF, Cond.fieldLinkNest q.1 q.2.1 q.2.2.1 q.2.2.2.1 q.2.2.2.2.1 q.2.2.2.2.2 ∈ lw_tbl := by decide +kernel
  have nM : ∀ q ∈ nestM, Cond.methodLinkNest q.1 q.2.1 q.2.2.1 q.2.2.2 ∈ lw_tbl := by decide +kernel
  refine ⟨((dC, dI), (fun k => [cI, cL, cB, cN].getD k cI), (fun k => if k < 10 then [t0, t1, t2, t3, adK 0, adV 0, b, L].getD k 0 else (xs (k - 10)).toBitVec.toNat)), ⟨⟨hKc, fun k q hq => ?_⟩, ⟨fun q hq => va_Nw.of rfl (hts _ (nF q hq)), fun q hq => va_Nw.of rfl (hts _ (nM q hq))⟩, ⟨z0, z1, z2, z3, zc, ⟨fun i hi => ?_, fun i j hi hj _ => by omega⟩⟩, hR45, ?_⟩, rfl, rfl, fun j => enc_s xs j (f := fun k => [t0, t1, t2, t3, adK 0, adV 0, b, L].getD k 0)⟩
  · match k, hq with
    | 0, hq => cases hq; exact hI
    | 1, hq => cases hq; exact hL
    | 2, hq => cases hq; exact hB
    | 3, hq => cases hq; exact hN
    | k + 4, hq => simp at hq
  · have h0 : i = 0 := by omega
    subst h0
    exact hSt.1 0 hi
  · obtain ⟨scr, h1, h2, h3, h4, h5⟩ := hX
    exact ⟨scr, h1, h2, h3, Nat.le_of_eq h4.symm, congrArg Nat.toInt32 h4, fun j hj => (h5 j hj).trans (congrArg (fun z => some (Value.int z)) (enc_s xs j (f := fun k => [t0, t1, t2, t3, adK 0, adV 0, b, L].getD k 0)).symm), hA b hbl⟩
theorem whole_start {p : Program} {e : Env} {s : State} {m : MethodId} {below : List Frame} {meth : Method} {c : Code} (l : Launch) (hflags : l.flags = flags0) {b L : Nat} {xs : Nat → Int32} (hL : L ≤ 260) (C0 : lw_At p s m meth c b L xs) : W p l e room_1 s m #[Value.ref b] below meth c s.heap [] 0 0 (lw_Z below #[Value.ref b] s) (entryFrame m ([Value.ref b] : List Value).toArray 12) := by
  obtain ⟨hx, hb, hr, hml, hown, hts, hX, hbl, hlocks, hgv⟩ := id C0
  obtain ⟨X, hG, h6, hsc⟩ := gx_start (A := fun q : Nat => s.heap.size ≤ q) hts hgv (fun a h => Nat.not_le.mpr h) hX hbl
  have hl := lv_entry ([.ref b]) (n := 12) (Nat.le_of_ble_eq_true rfl)
  rw [lg_entry_eq]
  generalize (lg_sl ([.ref b]) ++ List.replicate (12 - (lg_sl ([.ref b])).length) Slot.unset).toArray = ls at hl ⊢
  have hl : lv_has ls 12 [(0, .ref b)] := hl
  exact law_start X hL C0 (fun _ h => h) (fun _ h => h) hG (va_AO.of (hts (.arrayOver (.object RX5)) (by decide +kernel))) L xs hsc hL h6 ls hl
