/-! BASE 5: behind a call, in a long world: the callee's cells are put back at their places -/
def putc (ws : va_W) : List Nat → va_W → va_W
  | [], _ => ws
  | _ :: _, [] => ws
  | i :: is, c :: cs => putc (ws.set i c) is cs
theorem putc_len : ∀ (is : List Nat) (cs ws : va_W), (putc ws is cs).length = ws.length
  | [], cs, _ => by cases cs <;> rfl
  | _ :: _, [], _ => rfl
  | i :: is, c :: cs, ws => by rw [putc, putc_len is cs, List.length_set]
theorem putc_get : ∀ (is : List Nat) (cs ws : va_W), is.length = cs.length → va_nd is = true → ∀ (k : Nat) (q : Nat × va_E), (putc ws is cs)[k]? = some q → (∃ j : Nat, is[j]? = some k ∧ cs[j]? = some q) ∨ (k ∉ is ∧ ws[k]? = some q)
  | [], cs, ws, _, _, k, q, h => Or.inr ⟨List.not_mem_nil, by cases cs <;> exact h⟩
  | i :: is, [], ws, hl, _, k, q, h => by simp at hl
  | i :: is, c :: cs, ws, hl, hn, k, q, h => by
    rw [va_nd, Bool.and_eq_true] at hn
    have hni : i ∉ is := of_decide_eq_true hn.1
    rcases putc_get is cs (ws.set i c) (by simpa using hl) hn.2 k q h with ⟨j, h1, h2⟩ | ⟨h1, h2⟩
    · exact Or.inl ⟨j + 1, h1, h2⟩
    · by_cases e : i = k
      · subst e
        by_cases hlt : i < ws.length
        · rw [List.getElem?_set_self hlt] at h2
          exact Or.inl ⟨0, rfl, h2⟩
        · rw [List.set_eq_of_length_le (by omega)] at h2
          rw [List.getElem?_eq_none (by omega)] at h2
          cases h2
      · rw [List.getElem?_set_ne e] at h2
        exact Or.inr ⟨fun hm => by
          rcases List.mem_cons.mp hm with h3 | h3
          · exact e h3.symm
          · exact h1 h3, h2⟩
theorem x_join2 {A0 : Nat → Prop} {D : va_G} {cl : List vw_C} {ws wc w1 ws' : va_W} {H H1 : Heap} (hP : va_P D cl ws H) (hD : va_D A0 ws) (isC : List Nat) (hC : isC.map (fun i => ws[i]?) = wc.map some) (hnc : va_nd isC = true) (hlw : isC.length = w1.length)
    (hk : ∀ q : Nat, q < H.size → ¬ va_A wc H.size q → H1[q]? = H[q]?) (hF : ∀ q, va_A wc H.size q → A0 q) (hP1 : va_P D cl w1 H1) (hD1 : aD (va_A wc H.size) (w1.map Prod.fst)) (hp : putc ws isC w1 = ws') : va_P D cl ws' H1 ∧ aD A0 (ws'.map Prod.fst) := by
  subst hp
  have hD1' : va_D (va_A wc H.size) w1 := hD1.toD rfl
  have apart : ∀ (k : Nat) (q : Nat × va_E), ws[k]? = some q → k ∉ isC → q.1 < H.size ∧ ¬ va_A wc H.size q.1 := by
    intro k q hq hkc
    have hl := (hP k q hq).lt
    refine ⟨hl, fun h => ?_⟩
    rcases h with ⟨k2, e, h⟩ | h
    · have h1 : (isC.map (fun i => ws[i]?))[k2]? = some (some (q.1, e)) := by rw [hC, List.getElem?_map, h]; rfl
      rw [List.getElem?_map] at h1
      cases hi : isC[k2]? with
      | none => rw [hi] at h1; cases h1
      | some i =>
        rw [hi] at h1
        have hij := hD.1 k i q (q.1, e) hq (Option.some.inj h1) rfl
        subst hij
        exact hkc (List.mem_of_getElem? hi)
    · omega
  refine ⟨fun k q hq => ?_, aD.ofD ⟨fun i j x y hx hy hxy => ?_, fun k q hq => ?_⟩⟩
  · rcases putc_get isC w1 ws hlw hnc k q hq with ⟨j, -, h2⟩ | ⟨h1, h2⟩
    · exact hP1 j q h2
    · obtain ⟨g1, g2⟩ := apart k q h2 h1
      exact (hP k q h2).kept (hk q.1 g1 g2)
  · rcases putc_get isC w1 ws hlw hnc i x hx with ⟨a, h1, h2⟩ | ⟨h1, h2⟩
    · rcases putc_get isC w1 ws hlw hnc j y hy with ⟨b, h3, h4⟩ | ⟨h3, h4⟩
      · have hab := hD1'.1 a b x y h2 h4 hxy
        subst hab
        exact Option.some.inj (h1.symm.trans h3)
      · exact absurd (hD1'.2 a x h2) (by rw [hxy]; exact (apart j y h4 h3).2)
    · rcases putc_get isC w1 ws hlw hnc j y hy with ⟨b, h3, h4⟩ | ⟨h3, h4⟩
      · exact absurd (hD1'.2 b y h4) (by rw [← hxy]; exact (apart i x h2 h1).2)
      · exact hD.1 i j x y h2 h4 hxy
  · rcases putc_get isC w1 ws hlw hnc k q hq with ⟨j, -, h2⟩ | ⟨h1, h2⟩
    · exact hF q.1 (hD1'.2 j q h2)
    · exact hD.2 k q h2
section XC5
variable {p : Program} {l : Launch} {e : Env} {R : Room} {s : State} {m : MethodId} {args : Array Value} {below : List Frame} {meth : Method} {c : Code} {H : Heap} {locs : List Loc} {cells slots : Nat} {Q : State → Prop}
variable {y : MethodName} {w : List Cond} {rm : Room} {X : XT} {av : List Value} {ws wc : va_W} {cc : ByteArray} {pc : Nat} {ls : Array Slot} {rest st0 : List Value} {A : Nat → Prop} {as : List Nat} {Ts : List Cond} {own C : String} {index n nL maxL : Nat} {bytes : ByteArray} {ret : Option FieldType} {As : List Value} {b : Addr} {host : String}

theorem x_i5 {wc' ws' : va_W} {r : Int32} {a : Array Value} (hr : va_Run p l e R s m args below meth c H locs cells slots 0 0 (F0 m pc ls st0) rest (va_Qi (fun (r' : Int32) (_ : Unit) => r' = r) (fun _ t => va_P X.1 vwCl wc' t.heap ∧ aD (va_A wc H.size) (wc'.map Prod.fst)) (va_A wc H.size) a) (va_A wc H.size))
    (hP : va_P X.1 vwCl ws H) (hD : aD A as) (has : ws.map Prod.fst = as) (hS : va_S A s.heap H locs) (hF : ∀ q, va_A wc H.size q → A q) (isC : List Nat) (hC : isC.map (fun i => ws[i]?) = wc.map some) (hnc : va_nd isC = true) (hlw : isC.length = wc'.length) (hp : putc ws isC wc' = ws')
    (kk : ∀ (H1 : Heap) (locs1 : List Loc), va_P X.1 vwCl ws' H1 → aD A (ws'.map Prod.fst) → va_S A s.heap H1 locs1 → W p l e R s m args below meth c H1 locs1 cells slots Q (F0 m (pc + 3) ls (.int r :: rest))) : W p l e R s m args below meth c H locs cells slots Q (F0 m pc ls st0) := by
  refine va_calli hr hS (fun q _ h => hF q h) hF (fun r' u t H1 locs1 ht hvm hw hB hz hk hS1 => ?_)
  cases hw
  obtain ⟨hP1, hD1⟩ := hB
  rw [ht] at hP1
  obtain ⟨g1, g2⟩ := x_join2 hP (hD.toD has) isC hC hnc hlw hk hF hP1 hD1 hp
  exact kk H1 locs1 g1 g2 hS1

theorem x_l5 {wc' ws' : va_W} {r : Int64} {a : Array Value} (hr : va_Run p l e R s m args below meth c H locs cells slots 0 0 (F0 m pc ls st0) rest (va_Ql (fun (r' : Int64) (_ : Unit) => r' = r) (fun _ t => va_P X.1 vwCl wc' t.heap ∧ aD (va_A wc H.size) (wc'.map Prod.fst)) (va_A wc H.size) a) (va_A wc H.size))
    (hP : va_P X.1 vwCl ws H) (hD : aD A as) (has : ws.map Prod.fst = as) (hS : va_S A s.heap H locs) (hF : ∀ q, va_A wc H.size q → A q) (isC : List Nat) (hC : isC.map (fun i => ws[i]?) = wc.map some) (hnc : va_nd isC = true) (hlw : isC.length = wc'.length) (hp : putc ws isC wc' = ws')
    (kk : ∀ (H1 : Heap) (locs1 : List Loc), va_P X.1 vwCl ws' H1 → aD A (ws'.map Prod.fst) → va_S A s.heap H1 locs1 → W p l e R s m args below meth c H1 locs1 cells slots Q (F0 m (pc + 3) ls (.long r :: rest))) : W p l e R s m args below meth c H locs cells slots Q (F0 m pc ls st0) := by
  refine va_calll hr hS (fun q _ h => hF q h) hF (fun r' u t H1 locs1 ht hvm hw hB hz hk hS1 => ?_)
  cases hw
  obtain ⟨hP1, hD1⟩ := hB
  rw [ht] at hP1
  obtain ⟨g1, g2⟩ := x_join2 hP (hD.toD has) isC hC hnc hlw hk hF hP1 hD1 hp
  exact kk H1 locs1 g1 g2 hS1

end XC5
section X5
variable {p : Program} {l : Launch} {e : Env} {R : Room} {s : State} {m : MethodId} {args : Array Value} {below : List Frame} {meth : Method} {c : Code} {H : Heap} {locs : List Loc} {cells slots : Nat} {Q : State → Prop}
variable {y : MethodName} {w : List Cond} {rm : Room} {X : XT} {ws ws' wc : va_W} {cc : ByteArray} {pc : Nat} {ls : Array Slot} {rest st0 : List Value} {A : Nat → Prop} {as : List Nat} {Ts : List Cond} {own C : String} {index n nL maxL a : Nat} {bytes : ByteArray} {ret : Option FieldType} {As : List Value} {b : Addr} {host : String}

theorem xV_i5 (hexec : p.tables.exec = Jvm.exec) (hb : c.code = cc) (hml : c.maxLocals = nL) (hts : ∀ w ∈ Ts, w.before args s = true) (hown : s.vm.findClass own = some m.cls) (hG : GX X A s s.heap) (hA : ∀ q : Nat, s.heap.size ≤ q → A q) (hP : va_P X.1 vwCl ws H) (hD : aD A as) (has : ws.map Prod.fst = as) (hS : va_S A s.heap H locs) (hsz : ls.size = nL) {wc' ws2 : va_W} {r : Int32} (hM : MI l y w rm X (.ref b :: As) wc wc' r) (cw : CallW R s args own C index y bytes maxL ret w rm 0 0 n) (isC : List Nat) (hnc : va_nd isC = true) (hC : isC.map (fun i => ws[i]?) = wc.map some) (hlw : isC.length = wc'.length) (hp : putc ws isC wc' = ws2) {ci N : Nat} {T : u_T} {fs : List Value} (hcl : vwCl[ci]? = some (C, T, N)) (q0 : Nat) (hre : ws[q0]? = some (b, .inr (ci, fs))) (hln : As.length = n) (hst : st0 = As.reverse ++ .ref b :: rest) (hW : (rest.map fun v => v.category).sum ≤ 8) (hcs : cells + 0 ≤ R.cells ∧ slots + 0 ≤ R.slots) (hdg : decode cc pc = .ok (.invokevirtual index, 3))
    (kk : ∀ (H1 : Heap) (locs1 : List Loc), va_P X.1 vwCl ws2 H1 → aD A (ws2.map Prod.fst) → va_S A s.heap H1 locs1 → W p l e R s m args below meth c H1 locs1 cells slots Q (F0 m (pc + 3) ls (.int r :: rest))) : W p l e R s m args below meth c H locs cells slots Q (F0 m pc ls st0) := by
  obtain ⟨hF, hpre⟩ := x_pre (av := .ref b :: As) hG hA hP hD has hS isC hnc hC
  exact x_i5 (va_runV (b := b) (As := As) (rest := rest) ⟨hexec, hb, hml, hown, hts⟩ (hM H.size) cw ⟨cPre.blind X wc H.size (.ref b :: As), va_recv hG.1 hP hcl hre, hpre⟩ rfl hln hsz hst (lv_room hW) hdg hcs) hP hD has hS hF isC hC hnc hlw hp kk

theorem xV_l5 (hexec : p.tables.exec = Jvm.exec) (hb : c.code = cc) (hml : c.maxLocals = nL) (hts : ∀ w ∈ Ts, w.before args s = true) (hown : s.vm.findClass own = some m.cls) (hG : GX X A s s.heap) (hA : ∀ q : Nat, s.heap.size ≤ q → A q) (hP : va_P X.1 vwCl ws H) (hD : aD A as) (has : ws.map Prod.fst = as) (hS : va_S A s.heap H locs) (hsz : ls.size = nL) {wc' ws2 : va_W} {r : Int64} (hM : ML l y w rm X (.ref b :: As) wc wc' r) (cw : CallW R s args own C index y bytes maxL ret w rm 0 0 n) (isC : List Nat) (hnc : va_nd isC = true) (hC : isC.map (fun i => ws[i]?) = wc.map some) (hlw : isC.length = wc'.length) (hp : putc ws isC wc' = ws2) {ci N : Nat} {T : u_T} {fs : List Value} (hcl : vwCl[ci]? = some (C, T, N)) (q0 : Nat) (hre : ws[q0]? = some (b, .inr (ci, fs))) (hln : As.length = n) (hst : st0 = As.reverse ++ .ref b :: rest) (hW : (rest.map fun v => v.category).sum ≤ 8) (hcs : cells + 0 ≤ R.cells ∧ slots + 0 ≤ R.slots) (hdg : decode cc pc = .ok (.invokevirtual index, 3))
    (kk : ∀ (H1 : Heap) (locs1 : List Loc), va_P X.1 vwCl ws2 H1 → aD A (ws2.map Prod.fst) → va_S A s.heap H1 locs1 → W p l e R s m args below meth c H1 locs1 cells slots Q (F0 m (pc + 3) ls (.long r :: rest))) : W p l e R s m args below meth c H locs cells slots Q (F0 m pc ls st0) := by
  obtain ⟨hF, hpre⟩ := x_pre (av := .ref b :: As) hG hA hP hD has hS isC hnc hC
  exact x_l5 (va_runV (b := b) (As := As) (rest := rest) ⟨hexec, hb, hml, hown, hts⟩ (hM H.size) cw ⟨cPre.blind X wc H.size (.ref b :: As), va_recv hG.1 hP hcl hre, hpre⟩ rfl hln hsz hst (lv_room hW) hdg hcs) hP hD has hS hF isC hC hnc hlw hp kk

end X5
