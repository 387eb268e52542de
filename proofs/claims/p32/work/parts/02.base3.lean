/-! BASE 3: making arrays, copying out of a static table -/
theorem ra_inj {U : State} {t : FieldType} (ht : ∀ C, t ≠ .object C) {c1 c2 : ClassId} (h1 : va_RA U c1 t) (h2 : U.vm.findClass ("[" ++ t.toString) = some c2) : c2 = c1 := by
  cases t with
  | object C => exact absurd rfl (ht C)
  | _ => exact Option.some.inj (h2.symm.trans h1)
section XS
variable {p : Program} {l : Launch} {e : Env} {R : Room} {s : State} {m : MethodId} {args : Array Value} {below : List Frame} {meth : Method} {c : Code} {H : Heap} {locs : List Loc} {cells slots : Nat} {Q : State → Prop} {cc : ByteArray} {pc : Nat} {ls : Array Slot} {rest : List Value}
theorem lv_tabD (hexec : p.tables.exec = Jvm.exec) (hb : c.code = cc) {dflt lo hi : Int} {offs : Array Int} {len : Nat} {x : Int32} {tgt : Nat} (hdg : decode cc pc = .ok (.tableswitch dflt lo hi offs, len)) (h : lo ≤ x.toInt → x.toInt ≤ hi → offs[(x.toInt - lo).toNat]? = some dflt) (ht : (pc : Int) + dflt = (tgt : Int)) (k : W p l e R s m args below meth c H locs cells slots Q (F0 m tgt ls rest)) : W p l e R s m args below meth c H locs cells slots Q (F0 m pc ls (.int x :: rest)) := by
  by_cases h1 : x.toInt < lo
  · exact lv_tableOut hexec hb hdg (Or.inl h1) ht k
  · by_cases h2 : hi < x.toInt
    · exact lv_tableOut hexec hb hdg (Or.inr h2) ht k
    · exact lv_tableIn hexec hb hdg h1 h2 (h (by omega) (by omega)) ht k
end XS
section X3
variable {p : Program} {l : Launch} {e : Env} {R : Room} {s : State} {m : MethodId} {args : Array Value} {below : List Frame} {meth : Method} {c : Code} {H : Heap} {locs : List Loc} {cells slots : Nat} {Q : State → Prop}
variable {X : XT} {ws : va_W} {cc : ByteArray} {pc : Nat} {ls : Array Slot} {rest : List Value} {A : Nat → Prop} {as : List Nat} {own : String} {index nL a : Nat}
theorem x_newai {ws' : Nat → va_W} {N : Nat} (hexec : p.tables.exec = Jvm.exec) (hb : c.code = cc) (harr : (Cond.arrayClass .int).before args s = true) (hG : GX X A s s.heap) (hP : va_P X.1 vwCl ws H) (hD : aD A as) (has : ws.map Prod.fst = as) (hS : va_S A s.heap H locs) (hA : ∀ q : Nat, s.heap.size ≤ q → A q) {n : Int32} (hn : (decide (¬ n < 0) && decide (n.toNatClampNeg = N)) = true) (hbytes : N * componentBytes .int ≤ 536870912) (hcells : cells + 1 ≤ R.cells) (hslots : slots + N ≤ R.slots) (hdg : decode cc pc = .ok (.newarray .int, 2)) (hw : ∀ q, ws ++ [(q, .inl (X.2.1 0, N, .inl (fun _ => 0)))] = ws' q)
    (kk : ∀ (q : Nat) (H1 : Heap), va_P X.1 vwCl (ws' q) H1 → aD A ((ws' q).map Prod.fst) → va_S A s.heap H1 locs → W p l e R s m args below meth c H1 locs (cells + 1) (slots + N) Q (F0 m (pc + 2) ls (.ref q :: rest))) : W p l e R s m args below meth c H locs cells slots Q (F0 m pc ls (.int n :: rest)) := by
  rw [Bool.and_eq_true] at hn
  refine va_newa (ty := .int) (a0 := (N, .inl (fun _ => 0))) hexec hb (atype := .int) harr rfl hG.1 hP (hD.toD has) hS hA (fun cA => rfl) (of_decide_eq_true hn.1) (of_decide_eq_true hn.2) hbytes hcells hslots hdg (fun q cA H1 hK hP1 hD1 hS1 => ?_)
  have hc : cA = X.2.1 0 := Option.some.inj (((hK.2 4 (cA, .int) rfl).2).symm.trans ((hK.2 0 (X.2.1 0, .int) rfl).2))
  subst hc
  rw [hw q] at hP1 hD1
  exact kk q H1 hP1 (aD.ofD hD1) hS1
theorem x_newab {ws' : Nat → va_W} {N : Nat} (hexec : p.tables.exec = Jvm.exec) (hb : c.code = cc) (harr : (Cond.arrayClass .byte).before args s = true) (hG : GX X A s s.heap) (hP : va_P X.1 vwCl ws H) (hD : aD A as) (has : ws.map Prod.fst = as) (hS : va_S A s.heap H locs) (hA : ∀ q : Nat, s.heap.size ≤ q → A q) {n : Int32} (hn : (decide (¬ n < 0) && decide (n.toNatClampNeg = N)) = true) (hbytes : N * componentBytes .byte ≤ 536870912) (hcells : cells + 1 ≤ R.cells) (hslots : slots + N ≤ R.slots) (hdg : decode cc pc = .ok (.newarray .byte, 2)) (hw : ∀ q, ws ++ [(q, .inl (X.2.1 2, N, .inl (fun _ => 0)))] = ws' q)
    (kk : ∀ (q : Nat) (H1 : Heap), va_P X.1 vwCl (ws' q) H1 → aD A ((ws' q).map Prod.fst) → va_S A s.heap H1 locs → W p l e R s m args below meth c H1 locs (cells + 1) (slots + N) Q (F0 m (pc + 2) ls (.ref q :: rest))) : W p l e R s m args below meth c H locs cells slots Q (F0 m pc ls (.int n :: rest)) := by
  rw [Bool.and_eq_true] at hn
  refine va_newa (ty := .byte) (a0 := (N, .inl (fun _ => 0))) hexec hb (atype := .byte) harr rfl hG.1 hP (hD.toD has) hS hA (fun cA => rfl) (of_decide_eq_true hn.1) (of_decide_eq_true hn.2) hbytes hcells hslots hdg (fun q cA H1 hK hP1 hD1 hS1 => ?_)
  have hc : cA = X.2.1 2 := Option.some.inj (((hK.2 4 (cA, .byte) rfl).2).symm.trans ((hK.2 2 (X.2.1 2, .byte) rfl).2))
  subst hc
  rw [hw q] at hP1 hD1
  exact kk q H1 hP1 (aD.ofD hD1) hS1
theorem x_newal {ws' : Nat → va_W} {N : Nat} (hexec : p.tables.exec = Jvm.exec) (hb : c.code = cc) (harr : (Cond.arrayClass .long).before args s = true) (hG : GX X A s s.heap) (hP : va_P X.1 vwCl ws H) (hD : aD A as) (has : ws.map Prod.fst = as) (hS : va_S A s.heap H locs) (hA : ∀ q : Nat, s.heap.size ≤ q → A q) {n : Int32} (hn : (decide (¬ n < 0) && decide (n.toNatClampNeg = N)) = true) (hbytes : N * componentBytes .long ≤ 536870912) (hcells : cells + 1 ≤ R.cells) (hslots : slots + N ≤ R.slots) (hdg : decode cc pc = .ok (.newarray .long, 2)) (hw : ∀ q, ws ++ [(q, .inl (X.2.1 1, N, .inr (.inl (fun _ => 0))))] = ws' q)
    (kk : ∀ (q : Nat) (H1 : Heap), va_P X.1 vwCl (ws' q) H1 → aD A ((ws' q).map Prod.fst) → va_S A s.heap H1 locs → W p l e R s m args below meth c H1 locs (cells + 1) (slots + N) Q (F0 m (pc + 2) ls (.ref q :: rest))) : W p l e R s m args below meth c H locs cells slots Q (F0 m pc ls (.int n :: rest)) := by
  rw [Bool.and_eq_true] at hn
  refine va_newa (ty := .long) (a0 := (N, .inr (.inl (fun _ => 0)))) hexec hb (atype := .long) harr rfl hG.1 hP (hD.toD has) hS hA (fun cA => rfl) (of_decide_eq_true hn.1) (of_decide_eq_true hn.2) hbytes hcells hslots hdg (fun q cA H1 hK hP1 hD1 hS1 => ?_)
  have hc : cA = X.2.1 1 := Option.some.inj (((hK.2 4 (cA, .long) rfl).2).symm.trans ((hK.2 1 (X.2.1 1, .long) rfl).2))
  subst hc
  rw [hw q] at hP1 hD1
  exact kk q H1 hP1 (aD.ofD hD1) hS1
theorem x_newq {ws' : Nat → va_W} {N : Nat} (hexec : p.tables.exec = Jvm.exec) (hb : c.code = cc) (hown : s.vm.findClass own = some m.cls) (hclink : (Cond.classLink own index RX5).before args s = true) (hover : va_AO RX5 s) (hG : GX X A s s.heap) (hP : va_P X.1 vwCl ws H) (hD : aD A as) (has : ws.map Prod.fst = as) (hS : va_S A s.heap H locs) (hA : ∀ q : Nat, s.heap.size ≤ q → A q) {n : Int32} (hn : (decide (¬ n < 0) && decide (n.toNatClampNeg = N)) = true) (hbytes : N * 4 ≤ 536870912) (hcells : cells + 1 ≤ R.cells) (hslots : slots + N ≤ R.slots) (hdg : decode cc pc = .ok (.anewarray index, 3)) (hw : ∀ q, ws ++ [(q, .inl (X.2.1 3, N, .inr (.inr (.inr (.inr (fun _ => none))))))] = ws' q)
    (kk : ∀ (q : Nat) (H1 : Heap), va_P X.1 vwCl (ws' q) H1 → aD A ((ws' q).map Prod.fst) → va_S A s.heap H1 locs → W p l e R s m args below meth c H1 locs (cells + 1) (slots + N) Q (F0 m (pc + 3) ls (.ref q :: rest))) : W p l e R s m args below meth c H locs cells slots Q (F0 m pc ls (.int n :: rest)) := by
  rw [Bool.and_eq_true] at hn
  refine va_newq hexec hb hown hclink hover hG.1 hP (hD.toD has) hS hA (of_decide_eq_true hn.1) (of_decide_eq_true hn.2) hbytes hcells hslots hdg (fun q cA H1 hK hP1 hD1 hS1 => ?_)
  have h1 := (hK.2 4 (cA, .object RX5) rfl).2
  have h2 := (hK.2 3 (X.2.1 3, .object RX5) rfl).2
  obtain ⟨_, _, _, _, _, g1⟩ := h1
  obtain ⟨_, _, _, _, _, g2⟩ := h2
  have hc : cA = X.2.1 3 := Option.some.inj (g1.symm.trans g2)
  subst hc
  rw [hw q] at hP1 hD1
  exact kk q H1 hP1 (aD.ofD hD1) hS1
theorem x_copyt {ws' : va_W} (hexec : p.tables.exec = Jvm.exec) (hb : c.code = cc) (hml0 : c.maxLocals = nL) (hsz : ls.size = nL) (hown : s.vm.findClass own = some m.cls) (hlink : (Cond.methodLink own index arraycopyName).before args s = true) (hnat : (Cond.native arraycopyName).before args s = true) (hstat : (Cond.static arraycopyName).before args s = true) (hini : (Cond.initialized "java/lang/System").before args s = true)
    (hG : GX X A s s.heap) (hP : va_P X.1 vwCl ws H) (hD0 : aD A as) (has : ws.map Prod.fst = as) (hS : va_S A s.heap H locs) {b0 n0 : Nat} {f : Nat → Int32} (hX : va_T .int b0 n0 (fun j => .int (f j)) A s s.heap) (q1 : Nat) {n1 : Nat} {g : Nat → Int32} (ha1 : ws[q1]? = some (a, .inl (X.2.1 0, n1, .inl g)))
    {sp dp n : Int32} (hcd : ¬ sp < 0 ∧ ¬ dp < 0 ∧ ¬ n < 0 ∧ sp.toNatClampNeg + n.toNatClampNeg ≤ n0 ∧ dp.toNatClampNeg + n.toNatClampNeg ≤ n1)
    (hframes : 1 ≤ R.frames) (hlocals : (rest.map fun v => v.category).sum + (nativeFrameWords "java/lang/System" "arraycopy" 5 + 11) ≤ R.locals) (hdg : decode cc pc = .ok (.invokestatic index, 3)) {h : Nat → Int32} (hh : h = va_cpy f g sp.toNatClampNeg dp.toNatClampNeg n.toNatClampNeg) (hw : ws.set q1 (a, .inl (X.2.1 0, n1, .inl h)) = ws')
    (kk : ∀ (H1 : Heap) (locs1 : List Loc), va_P X.1 vwCl ws' H1 → va_S A s.heap H1 locs1 → W p l e R s m args below meth c H1 locs1 cells slots Q (F0 m (pc + 3) ls rest)) : W p l e R s m args below meth c H locs cells slots Q (F0 m pc ls (.int n :: .int dp :: .ref a :: .int sp :: .ref b0 :: rest)) := by
  subst hh; subst hw
  have hD := hD0.toD has
  have hml : c.maxLocals = ls.size := hml0.trans hsz.symm
  obtain ⟨h1, h2, h3, h4, h5⟩ := hcd
  have nn : ∀ z : Int32, ¬ z < 0 → z.toInt = (z.toNatClampNeg : Int) := by
    intro z hz
    have hz0 : (0 : Int) ≤ z.toInt := by
      have := Int32.not_lt.mp hz
      simpa using Int32.le_iff_toInt_le.mp this
    show z.toInt = ((z.toInt.toNat : Nat) : Int)
    omega
  intro T hT X1
  obtain ⟨scr, hs1, hs2, hs3, hs4, -, hs5, hbA⟩ := hX
  have hbl : b0 < s.heap.size := (Array.getElem?_eq_some_iff.mp hs1).1
  have hc0 : H[b0]? = some scr := by rw [hS.2.1 b0 hbl hbA]; exact hs1
  have hc1 : H[a]? = some (vp_cell (X.2.1 0) (n1, .inl g)) := hP q1 _ ha1
  obtain ⟨hs6, k0, hk0, cm0, hkk0⟩ := hs2
  obtain ⟨-, k1, hk1, cm1, hkk1⟩ := (hG.1.2 0 (X.2.1 0, .int) rfl).1 n1 (fun j => .int (g j))
  obtain ⟨vm', X', step⟩ := X1.arraycopy hexec hown hlink hnat hstat hini (src := b0) (dst := a) (cs := scr) (cd := vp_cell (X.2.1 0) (n1, .inl g)) (srcPos := sp) (destPos := dp) (n := n) (by rw [hT]; exact hc0) (by rw [hT]; exact hc1)
    hs6 (fun _ h => by cases h) hs3 (fun h => by cases h) hk0 hk1 hkk0 hkk1 (by simp [refKind]) h1 h2 h3
    (by rw [nn sp h1, nn n h3]; omega)
    (by rw [nn dp h2, nn n h3]; show ¬ _ > ((arrV (X.2.1 0) n1 (fun j => .int (g j))).slots.size : Int); rw [arrV_size]; omega)
    (fun vm₁ _ i hi => by
      have e : scr.slots.getD (sp.toNatClampNeg + i) .null = .int (f (sp.toNatClampNeg + i)) := by
        rw [Array.getD_eq_getD_getElem?, hs5 _ (by omega)]
        rfl
      refine ⟨?_, ?_⟩
      · rw [e]
        rfl
      · rw [e]
        exact trivial)
    (g := F0 m pc ls (.int n :: .int dp :: .ref a :: .int sp :: .ref b0 :: rest)) rfl (by rw [hml]) (rest := rest) rfl (by rw [hb]; exact hdg) hframes (by show 2 * 0 + _ + _ ≤ _; omega)
  have e1 : copied scr (vp_cell (X.2.1 0) (n1, .inl g)) sp dp n = vp_cell (X.2.1 0) (n1, .inl (va_cpy f g sp.toNatClampNeg dp.toNatClampNeg n.toNatClampNeg)) := va_copiedX (fun z => .int z) scr (X.2.1 0) f g hs5 h4
  rw [e1] at X' step
  have hl : a < H.size := (Array.getElem?_eq_some_iff.mp hc1).1
  have hheap : ((T.setVm vm').setCell a (vp_cell (X.2.1 0) (n1, .inl (va_cpy f g sp.toNatClampNeg dp.toNatClampNeg n.toNatClampNeg)))).heap = H.setIfInBounds a (vp_cell (X.2.1 0) (n1, .inl (va_cpy f g sp.toNatClampNeg dp.toNatClampNeg n.toNatClampNeg))) := by rw [← hT]; rfl
  have oq : ∀ q : Nat, q ≠ a → (H.setIfInBounds a (vp_cell (X.2.1 0) (n1, .inl (va_cpy f g sp.toNatClampNeg dp.toNatClampNeg n.toNatClampNeg))))[q]? = H[q]? := fun q hq => by simp [Array.getElem?_setIfInBounds, Ne.symm hq]
  obtain ⟨t, a1, b1⟩ := kk _ _ (hP.set hD ha1 (show (H.setIfInBounds a _)[a]? = some _ by simp [Array.getElem?_setIfInBounds, hl]) oq) ⟨by simp; exact hS.1, fun q g1 g2 => by
      rw [oq q (fun e => g2 (by rw [e]; exact hD.2 q1 _ ha1))]
      exact hS.2.1 q g1 g2, fun q hq => by
      rcases List.mem_append.mp hq with h | h
      · exact hS.2.2 q h
      · obtain ⟨z, -, hz⟩ := List.mem_map.mp h
        rw [← hz]
        exact hD.2 q1 _ ha1⟩ _ hheap X'
  exact ⟨t, step t a1, b1⟩
end X3
