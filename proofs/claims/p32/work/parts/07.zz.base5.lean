/-! BASE 5: behind a call, in a long world: the callee's cells are put back at their places (mask: which places; ns: the new cells, by place) -/
def zs : List Bool → va_W → va_W → va_W
  | false :: m, c :: ws, ns => c :: zs m ws ns
  | true :: m, _ :: ws, n :: ns => n :: zs m ws ns
  | _, ws, _ => ws
def ntrue : List Bool → Nat
  | [] => 0
  | false :: m => ntrue m
  | true :: m => ntrue m + 1
theorem zs_get : ∀ (m : List Bool) (ws ns : va_W), ntrue m = ns.length → ∀ (k : Nat) (q : Nat × va_E), (zs m ws ns)[k]? = some q → (m[k]? = some true ∧ ns[ntrue (m.take k)]? = some q) ∨ (¬ m[k]? = some true ∧ ws[k]? = some q)
  | [], ws, ns, _, k, q, h => Or.inr ⟨by simp, by cases ws <;> exact h⟩
  | false :: m, [], ns, _, k, q, h => by cases k <;> simp [zs] at h
  | true :: m, [], ns, _, k, q, h => by cases ns <;> cases k <;> simp [zs] at h
  | true :: m, c :: ws, [], hl, k, q, h => by simp [ntrue] at hl
  | false :: m, c :: ws, ns, hl, 0, q, h => Or.inr ⟨by simp, h⟩
  | false :: m, c :: ws, ns, hl, k + 1, q, h => by
    rcases zs_get m ws ns hl k q h with ⟨h1, h2⟩ | ⟨h1, h2⟩
    · exact Or.inl ⟨h1, h2⟩
    · exact Or.inr ⟨h1, h2⟩
  | true :: m, c :: ws, n :: ns, hl, 0, q, h => Or.inl ⟨rfl, h⟩
  | true :: m, c :: ws, n :: ns, hl, k + 1, q, h => by
    rcases zs_get m ws ns (Nat.succ.inj hl) k q h with ⟨h1, h2⟩ | ⟨h1, h2⟩
    · exact Or.inl ⟨h1, h2⟩
    · exact Or.inr ⟨h1, h2⟩
theorem ntrue_lt : ∀ (m : List Bool) (i j : Nat), m[i]? = some true → i < j → ntrue (m.take i) < ntrue (m.take j)
  | [], i, j, h, _ => by simp at h
  | b :: m, 0, 0, h, hl => absurd hl (by omega)
  | b :: m, 0, j + 1, h, _ => by
    have hb : b = true := by simpa using h
    subst hb
    exact Nat.succ_pos _
  | b :: m, i + 1, 0, h, hl => absurd hl (by omega)
  | false :: m, i + 1, j + 1, h, hl => ntrue_lt m i j h (by omega)
  | true :: m, i + 1, j + 1, h, hl => Nat.succ_lt_succ (ntrue_lt m i j h (by omega))
theorem x_join2 {A0 : Nat → Prop} {D : va_G} {cl : List vw_C} {ws wc w1 ws' : va_W} {H H1 : Heap} (hP : va_P D cl ws H) (hD : va_D A0 ws) (isC srt : List Nat) (mask : List Bool) (hC : isC.map (fun i => ws[i]?) = wc.map some)
    (hk : ∀ q : Nat, q < H.size → ¬ va_A wc H.size q → H1[q]? = H[q]?) (hF : ∀ q, va_A wc H.size q → A0 q) (hP1 : va_P D cl w1 H1) (hD1 : aD (va_A wc H.size) (w1.map Prod.fst))
    (hm : (isC.all (fun i => mask[i]? == some true) && va_nd srt && decide (ntrue mask = srt.length)) = true) (hS : srt.all (fun i => decide (i < w1.length)) = true) (hp : zs mask ws (srt.filterMap (fun j => w1[j]?)) = ws') : va_P D cl ws' H1 ∧ aD A0 (ws'.map Prod.fst) := by
  subst hp
  rw [Bool.and_eq_true, Bool.and_eq_true] at hm
  obtain ⟨⟨hm1, hm2⟩, hm3⟩ := hm
  have hm3 := of_decide_eq_true hm3
  have hss := is_map srt hS
  have hD1' : va_D (va_A wc H.size) (srt.filterMap (fun j => w1[j]?)) := (hD1.toD rfl).sub srt hm2 hss
  have hP1' : va_P D cl (srt.filterMap (fun j => w1[j]?)) H1 := hP1.sub srt rfl
  have hlen : ntrue mask = (srt.filterMap (fun j => w1[j]?)).length := by
    have h := congrArg List.length hss
    rw [List.length_map, List.length_map] at h
    rw [hm3, h]
  have apart : ∀ (k : Nat) (q : Nat × va_E), ws[k]? = some q → ¬ mask[k]? = some true → q.1 < H.size ∧ ¬ va_A wc H.size q.1 := by
    intro k q hq hkm
    have hkc : k ∉ isC := fun hc => hkm (by
      have h := List.all_eq_true.mp hm1 k hc
      exact eq_of_beq h)
    have hl := (hP k q hq).lt
    refine ⟨hl, fun h => ?_⟩
    rcases h with ⟨k2, e, h⟩ | h
    · have h1 : (isC.map (fun i => ws[i]?))[k2]? = some (some (q.1, e)) := by rw [hC, List.getElem?_map, h]; rfl
      rw [List.getElem?_map] at h1
      cases hi : isC[k2]? with
      | none => rw [hi] at h1; cases h1
      | some i =>
        rw [hi] at h1
        have hij := hD.1 k i q (q.1, e) hq (Option.some.inj h1) rfl
        subst hij
        exact hkc (List.mem_of_getElem? hi)
    · omega
  refine ⟨fun k q hq => ?_, aD.ofD ⟨fun i j x y hx hy hxy => ?_, fun k q hq => ?_⟩⟩
  · rcases zs_get mask ws _ hlen k q hq with ⟨-, h2⟩ | ⟨h1, h2⟩
    · exact hP1' _ q h2
    · obtain ⟨g1, g2⟩ := apart k q h2 h1
      exact (hP k q h2).kept (hk q.1 g1 g2)
  · rcases zs_get mask ws _ hlen i x hx with ⟨h1, h2⟩ | ⟨h1, h2⟩
    · rcases zs_get mask ws _ hlen j y hy with ⟨h3, h4⟩ | ⟨h3, h4⟩
      · have hab := hD1'.1 _ _ x y h2 h4 hxy
        rcases Nat.lt_trichotomy i j with hlt | heq | hlt
        · exact absurd hab (Nat.ne_of_lt (ntrue_lt mask i j h1 hlt))
        · exact heq
        · exact absurd hab.symm (Nat.ne_of_lt (ntrue_lt mask j i h3 hlt))
      · exact absurd (hD1'.2 _ x h2) (by rw [hxy]; exact (apart j y h4 h3).2)
    · rcases zs_get mask ws _ hlen j y hy with ⟨h3, h4⟩ | ⟨h3, h4⟩
      · exact absurd (hD1'.2 _ y h4) (by rw [← hxy]; exact (apart i x h2 h1).2)
      · exact hD.1 i j x y h2 h4 hxy
  · rcases zs_get mask ws _ hlen k q hq with ⟨-, h2⟩ | ⟨h1, h2⟩
    · exact hF q.1 (hD1'.2 _ q h2)
    · exact hD.2 k q h2
section XC5
variable {p : Program} {l : Launch} {e : Env} {R : Room} {s : State} {m : MethodId} {args : Array Value} {below : List Frame} {meth : Method} {c : Code} {H : Heap} {locs : List Loc} {cells slots : Nat} {Q : State → Prop}
variable {y : MethodName} {w : List Cond} {rm : Room} {X : XT} {av : List Value} {ws wc : va_W} {cc : ByteArray} {pc : Nat} {ls : Array Slot} {rest st0 : List Value} {A : Nat → Prop} {as : List Nat} {Ts : List Cond} {own C : String} {index n nL maxL : Nat} {bytes : ByteArray} {ret : Option FieldType} {As : List Value} {b : Addr} {host : String}

theorem x_i5 {wc' ws' : va_W} {r : Int32} {a : Array Value} (hr : va_Run p l e R s m args below meth c H locs cells slots 0 0 (F0 m pc ls st0) rest (va_Qi (fun (r' : Int32) (_ : Unit) => r' = r) (fun _ t => va_P X.1 vwCl wc' t.heap ∧ aD (va_A wc H.size) (wc'.map Prod.fst)) (va_A wc H.size) a) (va_A wc H.size))
    (hP : va_P X.1 vwCl ws H) (hD : aD A as) (has : ws.map Prod.fst = as) (hS : va_S A s.heap H locs) (hF : ∀ q, va_A wc H.size q → A q) (isC srt : List Nat) (mask : List Bool) (hC : isC.map (fun i => ws[i]?) = wc.map some) (hm : (isC.all (fun i => mask[i]? == some true) && va_nd srt && decide (ntrue mask = srt.length)) = true) (hsr : srt.all (fun i => decide (i < wc'.length)) = true) (hp : zs mask ws (srt.filterMap (fun j => wc'[j]?)) = ws')
    (kk : ∀ (H1 : Heap) (locs1 : List Loc), va_P X.1 vwCl ws' H1 → aD A (ws'.map Prod.fst) → va_S A s.heap H1 locs1 → W p l e R s m args below meth c H1 locs1 cells slots Q (F0 m (pc + 3) ls (.int r :: rest))) : W p l e R s m args below meth c H locs cells slots Q (F0 m pc ls st0) := by
  refine va_calli hr hS (fun q _ h => hF q h) hF (fun r' u t H1 locs1 ht hvm hw hB hz hk hS1 => ?_)
  cases hw
  obtain ⟨hP1, hD1⟩ := hB
  rw [ht] at hP1
  obtain ⟨g1, g2⟩ := x_join2 hP (hD.toD has) isC srt mask hC hk hF hP1 hD1 hm hsr hp
  exact kk H1 locs1 g1 g2 hS1

theorem x_l5 {wc' ws' : va_W} {r : Int64} {a : Array Value} (hr : va_Run p l e R s m args below meth c H locs cells slots 0 0 (F0 m pc ls st0) rest (va_Ql (fun (r' : Int64) (_ : Unit) => r' = r) (fun _ t => va_P X.1 vwCl wc' t.heap ∧ aD (va_A wc H.size) (wc'.map Prod.fst)) (va_A wc H.size) a) (va_A wc H.size))
    (hP : va_P X.1 vwCl ws H) (hD : aD A as) (has : ws.map Prod.fst = as) (hS : va_S A s.heap H locs) (hF : ∀ q, va_A wc H.size q → A q) (isC srt : List Nat) (mask : List Bool) (hC : isC.map (fun i => ws[i]?) = wc.map some) (hm : (isC.all (fun i => mask[i]? == some true) && va_nd srt && decide (ntrue mask = srt.length)) = true) (hsr : srt.all (fun i => decide (i < wc'.length)) = true) (hp : zs mask ws (srt.filterMap (fun j => wc'[j]?)) = ws')
    (kk : ∀ (H1 : Heap) (locs1 : List Loc), va_P X.1 vwCl ws' H1 → aD A (ws'.map Prod.fst) → va_S A s.heap H1 locs1 → W p l e R s m args below meth c H1 locs1 cells slots Q (F0 m (pc + 3) ls (.long r :: rest))) : W p l e R s m args below meth c H locs cells slots Q (F0 m pc ls st0) := by
  refine va_calll hr hS (fun q _ h => hF q h) hF (fun r' u t H1 locs1 ht hvm hw hB hz hk hS1 => ?_)
  cases hw
  obtain ⟨hP1, hD1⟩ := hB
  rw [ht] at hP1
  obtain ⟨g1, g2⟩ := x_join2 hP (hD.toD has) isC srt mask hC hk hF hP1 hD1 hm hsr hp
  exact kk H1 locs1 g1 g2 hS1

end XC5
section X5
variable {p : Program} {l : Launch} {e : Env} {R : Room} {s : State} {m : MethodId} {args : Array Value} {below : List Frame} {meth : Method} {c : Code} {H : Heap} {locs : List Loc} {cells slots : Nat} {Q : State → Prop}
variable {y : MethodName} {w : List Cond} {rm : Room} {X : XT} {ws ws' wc : va_W} {cc : ByteArray} {pc : Nat} {ls : Array Slot} {rest st0 : List Value} {A : Nat → Prop} {as : List Nat} {Ts : List Cond} {own C : String} {index n nL maxL a : Nat} {bytes : ByteArray} {ret : Option FieldType} {As : List Value} {b : Addr} {host : String}

theorem xV_i5 (hexec : p.tables.exec = Jvm.exec) (hb : c.code = cc) (hml : c.maxLocals = nL) (hts : ∀ w ∈ Ts, w.before args s = true) (hown : s.vm.findClass own = some m.cls) (hG : GX X A s s.heap) (hA : ∀ q : Nat, s.heap.size ≤ q → A q) (hP : va_P X.1 vwCl ws H) (hD : aD A as) (has : ws.map Prod.fst = as) (hS : va_S A s.heap H locs) (hsz : ls.size = nL) {wc' ws2 : va_W} {r : Int32} (hM : MI l y w rm X (.ref b :: As) wc wc' r) (cw : CallW R s args own C index y bytes maxL ret w rm 0 0 n) (isC srt : List Nat) (mask : List Bool) (hnc : va_nd isC = true) (hC : isC.map (fun i => ws[i]?) = wc.map some) (hm : (isC.all (fun i => mask[i]? == some true) && va_nd srt && decide (ntrue mask = srt.length)) = true) (hsr : srt.all (fun i => decide (i < wc'.length)) = true) (hp : zs mask ws (srt.filterMap (fun j => wc'[j]?)) = ws2) {ci N : Nat} {T : u_T} {fs : List Value} (hcl : vwCl[ci]? = some (C, T, N)) (q0 : Nat) (hre : ws[q0]? = some (b, .inr (ci, fs))) (hln : As.length = n) (hst : st0 = As.reverse ++ .ref b :: rest) (hW : (rest.map fun v => v.category).sum ≤ 8) (hcs : cells + 0 ≤ R.cells ∧ slots + 0 ≤ R.slots) (hdg : decode cc pc = .ok (.invokevirtual index, 3))
    (kk : ∀ (H1 : Heap) (locs1 : List Loc), va_P X.1 vwCl ws2 H1 → aD A (ws2.map Prod.fst) → va_S A s.heap H1 locs1 → W p l e R s m args below meth c H1 locs1 cells slots Q (F0 m (pc + 3) ls (.int r :: rest))) : W p l e R s m args below meth c H locs cells slots Q (F0 m pc ls st0) := by
  obtain ⟨hF, hpre⟩ := x_pre (av := .ref b :: As) hG hA hP hD has hS isC hnc hC
  exact x_i5 (va_runV (b := b) (As := As) (rest := rest) ⟨hexec, hb, hml, hown, hts⟩ (hM H.size) cw ⟨cPre.blind X wc H.size (.ref b :: As), va_recv hG.1 hP hcl hre, hpre⟩ rfl hln hsz hst (lv_room hW) hdg hcs) hP hD has hS hF isC srt mask hC hm hsr hp kk

theorem xV_l5 (hexec : p.tables.exec = Jvm.exec) (hb : c.code = cc) (hml : c.maxLocals = nL) (hts : ∀ w ∈ Ts, w.before args s = true) (hown : s.vm.findClass own = some m.cls) (hG : GX X A s s.heap) (hA : ∀ q : Nat, s.heap.size ≤ q → A q) (hP : va_P X.1 vwCl ws H) (hD : aD A as) (has : ws.map Prod.fst = as) (hS : va_S A s.heap H locs) (hsz : ls.size = nL) {wc' ws2 : va_W} {r : Int64} (hM : ML l y w rm X (.ref b :: As) wc wc' r) (cw : CallW R s args own C index y bytes maxL ret w rm 0 0 n) (isC srt : List Nat) (mask : List Bool) (hnc : va_nd isC = true) (hC : isC.map (fun i => ws[i]?) = wc.map some) (hm : (isC.all (fun i => mask[i]? == some true) && va_nd srt && decide (ntrue mask = srt.length)) = true) (hsr : srt.all (fun i => decide (i < wc'.length)) = true) (hp : zs mask ws (srt.filterMap (fun j => wc'[j]?)) = ws2) {ci N : Nat} {T : u_T} {fs : List Value} (hcl : vwCl[ci]? = some (C, T, N)) (q0 : Nat) (hre : ws[q0]? = some (b, .inr (ci, fs))) (hln : As.length = n) (hst : st0 = As.reverse ++ .ref b :: rest) (hW : (rest.map fun v => v.category).sum ≤ 8) (hcs : cells + 0 ≤ R.cells ∧ slots + 0 ≤ R.slots) (hdg : decode cc pc = .ok (.invokevirtual index, 3))
    (kk : ∀ (H1 : Heap) (locs1 : List Loc), va_P X.1 vwCl ws2 H1 → aD A (ws2.map Prod.fst) → va_S A s.heap H1 locs1 → W p l e R s m args below meth c H1 locs1 cells slots Q (F0 m (pc + 3) ls (.long r :: rest))) : W p l e R s m args below meth c H locs cells slots Q (F0 m pc ls st0) := by
  obtain ⟨hF, hpre⟩ := x_pre (av := .ref b :: As) hG hA hP hD has hS isC hnc hC
  exact x_l5 (va_runV (b := b) (As := As) (rest := rest) ⟨hexec, hb, hml, hown, hts⟩ (hM H.size) cw ⟨cPre.blind X wc H.size (.ref b :: As), va_recv hG.1 hP hcl hre, hpre⟩ rfl hln hsz hst (lv_room hW) hdg hcs) hP hD has hS hF isC srt mask hC hm hsr hp kk

theorem xS_i5 (hexec : p.tables.exec = Jvm.exec) (hb : c.code = cc) (hml : c.maxLocals = nL) (hts : ∀ w ∈ Ts, w.before args s = true) (hown : s.vm.findClass own = some m.cls) (hG : GX X A s s.heap) (hA : ∀ q : Nat, s.heap.size ≤ q → A q) (hP : va_P X.1 vwCl ws H) (hD : aD A as) (has : ws.map Prod.fst = as) (hS : va_S A s.heap H locs) (hsz : ls.size = nL) {wc' ws2 : va_W} {r : Int32} (hM : MI l y w rm X (As) wc wc' r) (cw : CallB R s args own index y bytes maxL ret w rm 0 0 n ∧ (Cond.static y).before args s = true) (isC srt : List Nat) (mask : List Bool) (hnc : va_nd isC = true) (hC : isC.map (fun i => ws[i]?) = wc.map some) (hm : (isC.all (fun i => mask[i]? == some true) && va_nd srt && decide (ntrue mask = srt.length)) = true) (hsr : srt.all (fun i => decide (i < wc'.length)) = true) (hp : zs mask ws (srt.filterMap (fun j => wc'[j]?)) = ws2) (hln : As.length = n) (hst : st0 = As.reverse ++ rest) (hW : (rest.map fun v => v.category).sum ≤ 8) (hcs : cells + 0 ≤ R.cells ∧ slots + 0 ≤ R.slots) (hdg : decode cc pc = .ok (.invokestatic index, 3))
    (kk : ∀ (H1 : Heap) (locs1 : List Loc), va_P X.1 vwCl ws2 H1 → aD A (ws2.map Prod.fst) → va_S A s.heap H1 locs1 → W p l e R s m args below meth c H1 locs1 cells slots Q (F0 m (pc + 3) ls (.int r :: rest))) : W p l e R s m args below meth c H locs cells slots Q (F0 m pc ls st0) := by
  obtain ⟨hF, hpre⟩ := x_pre (av := As) hG hA hP hD has hS isC hnc hC
  exact x_i5 (va_runS (As := As) (rest := rest) ⟨hexec, hb, hml, hown, hts⟩ (hM H.size) cw ⟨cPre.blind X wc H.size (As), hpre⟩ rfl hln hsz hst (lv_room hW) hdg hcs) hP hD has hS hF isC srt mask hC hm hsr hp kk

theorem xS_l5 (hexec : p.tables.exec = Jvm.exec) (hb : c.code = cc) (hml : c.maxLocals = nL) (hts : ∀ w ∈ Ts, w.before args s = true) (hown : s.vm.findClass own = some m.cls) (hG : GX X A s s.heap) (hA : ∀ q : Nat, s.heap.size ≤ q → A q) (hP : va_P X.1 vwCl ws H) (hD : aD A as) (has : ws.map Prod.fst = as) (hS : va_S A s.heap H locs) (hsz : ls.size = nL) {wc' ws2 : va_W} {r : Int64} (hM : ML l y w rm X (As) wc wc' r) (cw : CallB R s args own index y bytes maxL ret w rm 0 0 n ∧ (Cond.static y).before args s = true) (isC srt : List Nat) (mask : List Bool) (hnc : va_nd isC = true) (hC : isC.map (fun i => ws[i]?) = wc.map some) (hm : (isC.all (fun i => mask[i]? == some true) && va_nd srt && decide (ntrue mask = srt.length)) = true) (hsr : srt.all (fun i => decide (i < wc'.length)) = true) (hp : zs mask ws (srt.filterMap (fun j => wc'[j]?)) = ws2) (hln : As.length = n) (hst : st0 = As.reverse ++ rest) (hW : (rest.map fun v => v.category).sum ≤ 8) (hcs : cells + 0 ≤ R.cells ∧ slots + 0 ≤ R.slots) (hdg : decode cc pc = .ok (.invokestatic index, 3))
    (kk : ∀ (H1 : Heap) (locs1 : List Loc), va_P X.1 vwCl ws2 H1 → aD A (ws2.map Prod.fst) → va_S A s.heap H1 locs1 → W p l e R s m args below meth c H1 locs1 cells slots Q (F0 m (pc + 3) ls (.long r :: rest))) : W p l e R s m args below meth c H locs cells slots Q (F0 m pc ls st0) := by
  obtain ⟨hF, hpre⟩ := x_pre (av := As) hG hA hP hD has hS isC hnc hC
  exact x_l5 (va_runS (As := As) (rest := rest) ⟨hexec, hb, hml, hown, hts⟩ (hM H.size) cw ⟨cPre.blind X wc H.size (As), hpre⟩ rfl hln hsz hst (lv_room hW) hdg hcs) hP hD has hS hF isC srt mask hC hm hsr hp kk

end X5
