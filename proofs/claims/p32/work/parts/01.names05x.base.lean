/-! BASE: guards of the functional pictures, the bundle that every contract carries, contracts, calls -/
def gd {α : Type} (c : Prop) [Decidable c] (k : Option α) : Option α := if c then k else none
theorem gd_s {α : Type} {c : Prop} [Decidable c] {k : Option α} {o : α} (h : gd c k = some o) : c ∧ k = some o := by
  unfold gd at h
  by_cases hc : c
  · rw [if_pos hc] at h; exact ⟨hc, h⟩
  · rw [if_neg hc] at h; cases h
def gi {α : Type} (i : Int32) (n : Nat) (k : Option α) : Option α := if 0 ≤ i ∧ i.toNatClampNeg < n then k else none
theorem gi_s {α : Type} {i : Int32} {n : Nat} {k : Option α} {o : α} (h : gi i n k = some o) : vp_in i n ∧ k = some o := by
  unfold gi at h
  by_cases hc : 0 ≤ i ∧ i.toNatClampNeg < n
  · rw [if_pos hc] at h
    refine ⟨fun hx => ?_, h⟩
    rcases hx with hx | hx
    · exact absurd hc.1 (Int32.not_le.mpr hx)
    · exact absurd hc.2 (Nat.not_lt.mpr hx)
  · rw [if_neg hc] at h; cases h
def gz {α : Type} (r : Int32) (k : Option α) : Option α := if r = 0 ∨ r = 1 then k else none
theorem gz_s {α : Type} {r : Int32} {k : Option α} {o : α} (h : gz r k = some o) : narrow .boolean (.int r) = .int r ∧ k = some o := by
  unfold gz at h
  by_cases hc : r = 0 ∨ r = 1
  · rw [if_pos hc] at h
    refine ⟨?_, h⟩
    rcases hc with rfl | rfl <;> rfl
  · rw [if_neg hc] at h; cases h
def lb {α β : Type} (a : α) (k : α → Option β) : Option β := k a
theorem lb_s {α β : Type} {a x : α} {k : α → Option β} {o : β} (h : lb a k = some o) (e : x = a) : k x = some o := by
  subst e; exact h
theorem lb_g {α β : Type} {a : α} {k : α → Option β} {o : β} (h : lb a k = some o) : ∃ x, x = a ∧ k x = some o := ⟨a, rfl, h⟩
theorem ob_s {α β : Type} {x : Option α} {k : α → Option β} {o : β} (h : x.bind k = some o) : ∃ a, x = some a ∧ k a = some o := Option.bind_eq_some_iff.mp h
theorem xt {α : Type} {c : Prop} [Decidable c] {a b : Option α} {o : α} (h : (if c then a else b) = some o) (hc : c) : a = some o := by rw [if_pos hc] at h; exact h
theorem xf {α : Type} {c : Prop} [Decidable c] {a b : Option α} {o : α} (h : (if c then a else b) = some o) (hc : ¬ c) : b = some o := by rw [if_neg hc] at h; exact h
theorem xn {α : Type} {o : α} {P : Prop} (h : (none : Option α) = some o) : P := by cases h
def loopN {σ R : Type} (body : (σ → Option R) → σ → Option R) : Nat → σ → Option R
  | 0, _ => none
  | n + 1, s => body (loopN body n) s
def FUEL : Nat := 4096
/-! addresses apart -/
def aD (A : Nat → Prop) (as : List Nat) : Prop := (∀ (i j a : Nat), as[i]? = some a → as[j]? = some a → i = j) ∧ ∀ a : Nat, a ∈ as → A a
theorem aD.toD {A : Nat → Prop} {ws : va_W} {as : List Nat} (h : aD A as) (e : ws.map Prod.fst = as) : va_D A ws := by
  subst e
  refine ⟨fun i j p q hp hq hpq => h.1 i j p.1 ?_ ?_, fun k q hk => h.2 q.1 (List.mem_map.mpr ⟨q, List.mem_of_getElem? hk, rfl⟩)⟩
  · rw [List.getElem?_map, hp]; rfl
  · rw [List.getElem?_map, hq, hpq]; rfl
theorem aD.ofD {A : Nat → Prop} {ws : va_W} (h : va_D A ws) : aD A (ws.map Prod.fst) := by
  refine ⟨fun i j a hi hj => ?_, fun a ha => ?_⟩
  · rw [List.getElem?_map] at hi hj
    cases h1 : ws[i]? with
    | none => rw [h1] at hi; cases hi
    | some p =>
      cases h2 : ws[j]? with
      | none => rw [h2] at hj; cases hj
      | some q =>
        rw [h1] at hi; rw [h2] at hj
        exact h.1 i j p q h1 h2 ((Option.some.inj hi).trans (Option.some.inj hj).symm)
  · obtain ⟨q, hq, rfl⟩ := List.mem_map.mp ha
    obtain ⟨k, hk⟩ := List.getElem?_of_mem hq
    exact h.2 k q hk
theorem aD.weaken {A B : Nat → Prop} {as : List Nat} (h : aD A as) (hAB : ∀ a : Nat, a ∈ as → A a → B a) : aD B as := ⟨h.1, fun a ha => hAB a ha (h.2 a ha)⟩
theorem aD.sub {A : Nat → Prop} {as as' : List Nat} (h : aD A as) (is : List Nat) (hn : va_nd is = true) (hs : is.map (fun i => as[i]?) = as'.map some) : aD A as' := by
  have at' : ∀ (k a : Nat), as'[k]? = some a → ∃ i, is[k]? = some i ∧ as[i]? = some a := by
    intro k a hk
    have h1 : (is.map (fun i => as[i]?))[k]? = some (some a) := by rw [hs, List.getElem?_map, hk]; rfl
    rw [List.getElem?_map] at h1
    cases hi : is[k]? with
    | none => rw [hi] at h1; cases h1
    | some i => rw [hi] at h1; exact ⟨i, rfl, Option.some.inj h1⟩
  refine ⟨fun i j a hi hj => ?_, fun a ha => ?_⟩
  · obtain ⟨p, h1, h2⟩ := at' i a hi
    obtain ⟨q, h3, h4⟩ := at' j a hj
    have hpq := h.1 p q a h2 h4
    subst hpq
    exact va_nd_inj is hn i j p h1 h3
  · obtain ⟨k, hk⟩ := List.getElem?_of_mem ha
    obtain ⟨i, -, h2⟩ := at' k a hk
    exact h.2 a (List.mem_of_getElem? h2)
theorem is_map {α : Type} {ws : List α} : ∀ (is : List Nat), is.all (fun i => decide (i < ws.length)) = true → is.map (fun i => ws[i]?) = (is.filterMap (fun i => ws[i]?)).map some
  | [], _ => rfl
  | i :: is, h => by
    rw [List.all_cons, Bool.and_eq_true] at h
    have hi : i < ws.length := of_decide_eq_true h.1
    have hw : ws[i]? = some ws[i] := List.getElem?_eq_getElem hi
    rw [List.map_cons, List.filterMap_cons, hw, is_map is h.2]
    rfl
/-! the bundle: classes and array classes, nest mates' links, static tables, the string -/
abbrev XT : Type := va_G × (Nat → ClassId) × (Nat → Nat)
abbrev xTy (X : XT) : List (ClassId × FieldType) := [(X.2.1 0, .int), (X.2.1 1, .long), (X.2.1 2, .byte), (X.2.1 3, .object RX5)]
def nestF : List (String × Nat × String × String × String × String) := [("ThreeCards$Reader", 30, "ThreeCards$Text", "length", "I", "ThreeCards"), ("ThreeCards", 111, "ThreeCards$Text", "length", "I", "ThreeCards"), ("ThreeCards$Coins", 37, "ThreeCards$Fight", "rounds", "I", "ThreeCards"), ("ThreeCards$Cards", 45, "ThreeCards$Fight", "rounds", "I", "ThreeCards"), ("ThreeCards", 217, "ThreeCards$Fight", "rounds", "I", "ThreeCards"), ("ThreeCards$Seats", 42, "ThreeCards$Fight", "blowCount", "I", "ThreeCards"), ("ThreeCards$Buttons", 68, "ThreeCards$Fight", "blowCount", "I", "ThreeCards"), ("ThreeCards", 131, "ThreeCards$Fight", "blowCount", "I", "ThreeCards"), ("ThreeCards$Buttons", 44, "ThreeCards$Fight", "judgeCount", "I", "ThreeCards"), ("ThreeCards", 122, "ThreeCards$Fight", "judgeCount", "I", "ThreeCards"), ("ThreeCards$Cards", 61, "ThreeCards$Fight", "judgeCount", "I", "ThreeCards"), ("ThreeCards", 134, "ThreeCards$Fight", "seenBy", "[I", "ThreeCards"), ("ThreeCards", 201, "ThreeCards$Coins", "howMany", "I", "ThreeCards"), ("ThreeCards", 211, "ThreeCards$Seats", "best", "[I", "ThreeCards"), ("ThreeCards$Buttons", 81, "ThreeCards$Notes", "delays", "[I", "ThreeCards"), ("ThreeCards", 214, "ThreeCards$Notes", "delays", "[I", "ThreeCards")]
def nestM : List (String × Nat × MethodName × String) := [("ThreeCards", 9, ⟨"ThreeCards$Text", "<init>", "()V"⟩, "ThreeCards"), ("ThreeCards", 27, ⟨"ThreeCards$Fight", "<init>", "()V"⟩, "ThreeCards"), ("ThreeCards$Seats", 25, ⟨"ThreeCards$Fight", "isSeenFrom", "(II)Z"⟩, "ThreeCards"), ("ThreeCards$Cards", 25, ⟨"ThreeCards", "signOf", "(I)I"⟩, "ThreeCards"), ("ThreeCards$Cards", 29, ⟨"ThreeCards", "clip", "(II)I"⟩, "ThreeCards"), ("ThreeCards$Told", 45, ⟨"ThreeCards", "signOf", "(I)I"⟩, "ThreeCards"), ("ThreeCards$Reader", 65, ⟨"ThreeCards", "within", "(III)Z"⟩, "ThreeCards")]
def nestOK (U : State) : Prop := (∀ q ∈ nestF, va_Nw (.fieldLinkNest q.1 q.2.1 q.2.2.1 q.2.2.2.1 q.2.2.2.2.1 q.2.2.2.2.2) U) ∧ ∀ q ∈ nestM, va_Nw (.methodLinkNest q.1 q.2.1 q.2.2.1 q.2.2.2) U
theorem nestOK.warm {s U : State} (hW : s.WarmedH U.vm) (h : nestOK s) : nestOK U := ⟨fun q hq => va_Nw.warmF hW (h.1 q hq), fun q hq => va_Nw.warmM hW (h.2 q hq)⟩
theorem nestOK.same {u U : State} (hv : u.vm = U.vm) (h : nestOK u) : nestOK U := ⟨fun q hq => va_Nw.same rfl hv (h.1 q hq), fun q hq => va_Nw.same rfl hv (h.2 q hq)⟩
def tabL (l : List Int32) (j : Nat) : Int32 := l.getD j 0
def tab0 : Nat → Int32 := tabL [0, 1, 6, 9, 11, 13, 15, 22]
def tab1 : Nat → Int32 := tabL [1, 0, 0, 0, 1, 0, 0, 0, 0, 0, 0, 0, 0, 0, 0, 0, 0, 0, 0, 1, 0, 0]
def tab2 : Nat → Int32 := tabL [12, 11, 179, 1, 9, 11, 11, 1, 9, 11, 1, 11, 1, 1, 9, 11, 9, 9, 40, 9, 9, 99]
def tab3 : Nat → Int32 := tabL [0, 1, 0, 20, 1, 0, 0]
def strB : List Int32 := [114, 98, 102, 107, 100, 104, 106]
def zt (C n : String) (t N : Nat) (f : Nat → Int32) (A : Nat → Prop) (U : State) (H : Heap) : Prop := va_Z C n "[I" (.ref t) A U H ∧ va_T .int t N (fun j => .int (f j)) A U H
def stOK (X : XT) (A : Nat → Prop) (U : State) (H : Heap) : Prop :=
  zt RX6 "FIRST" (X.2.2 0) 8 tab0 A U H ∧ zt RX6 "LOW" (X.2.2 1) 22 tab1 A U H ∧ zt RX6 "HIGH" (X.2.2 2) 22 tab2 A U H ∧ zt RX3 "PLAIN_JUDGE" (X.2.2 3) 7 tab3 A U H ∧ va_Z "java/lang/String" "COMPACT_STRINGS" "Z" (.int 1) A U H ∧ vk_S 1 [7] [strB] (fun _ => X.2.2 4) (fun _ => X.2.2 5) A U H
theorem zt.moved {C n : String} {t N : Nat} {f : Nat → Int32} {A : Nat → Prop} {u U : State} {H : Heap} (hvm : u.vm.Alike U.vm) (h : zt C n t N f A u H) : zt C n t N f A U H := ⟨h.1.moved hvm, h.2.moved hvm⟩
theorem zt.kept {C n : String} {t N : Nat} {f : Nat → Int32} {A : Nat → Prop} {U : State} {H H1 : Heap} (h : zt C n t N f A U H) (hq : ∀ a : Nat, a < H.size → ¬ A a → H1[a]? = H[a]?) : zt C n t N f A U H1 := ⟨h.1.kept hq, h.2.kept hq⟩
theorem zt.narrow {C n : String} {t N : Nat} {f : Nat → Int32} {A B : Nat → Prop} {U : State} {H : Heap} (h : zt C n t N f A U H) (hAB : ∀ q, B q → A q) : zt C n t N f B U H := ⟨h.1.narrow hAB, h.2.narrow hAB⟩
theorem stOK.moved {X : XT} {A : Nat → Prop} {u U : State} {H : Heap} (hvm : u.vm.Alike U.vm) (h : stOK X A u H) : stOK X A U H := ⟨h.1.moved hvm, h.2.1.moved hvm, h.2.2.1.moved hvm, h.2.2.2.1.moved hvm, h.2.2.2.2.1.moved hvm, h.2.2.2.2.2.moved hvm⟩
theorem stOK.kept {X : XT} {A : Nat → Prop} {U : State} {H H1 : Heap} (h : stOK X A U H) (hq : ∀ a : Nat, a < H.size → ¬ A a → H1[a]? = H[a]?) : stOK X A U H1 := ⟨h.1.kept hq, h.2.1.kept hq, h.2.2.1.kept hq, h.2.2.2.1.kept hq, h.2.2.2.2.1.kept hq, h.2.2.2.2.2.kept hq⟩
theorem stOK.narrow {X : XT} {A B : Nat → Prop} {U : State} {H : Heap} (h : stOK X A U H) (hAB : ∀ q, B q → A q) : stOK X B U H := ⟨h.1.narrow hAB, h.2.1.narrow hAB, h.2.2.1.narrow hAB, h.2.2.2.1.narrow hAB, h.2.2.2.2.1.narrow hAB, h.2.2.2.2.2.narrow hAB⟩
/-- the script: its address, its length, its ints, among the static tables' numbers -/
abbrev scF (X : XT) : Nat → Int32 := fun j => nI (X.2.2 (10 + j))
def scT (X : XT) (A : Nat → Prop) (U : State) (H : Heap) : Prop := va_T .int (X.2.2 6) (X.2.2 7) (fun j => .int (scF X j)) A U H
theorem scT.moved {X : XT} {A : Nat → Prop} {u U : State} {H : Heap} (hvm : u.vm.Alike U.vm) (h : scT X A u H) : scT X A U H := va_T.moved hvm h
theorem scT.kept {X : XT} {A : Nat → Prop} {U : State} {H H1 : Heap} (h : scT X A U H) (hq : ∀ a : Nat, a < H.size → ¬ A a → H1[a]? = H[a]?) : scT X A U H1 := va_T.kept h hq
theorem scT.narrow {X : XT} {A B : Nat → Prop} {U : State} {H : Heap} (h : scT X A U H) (hAB : ∀ q, B q → A q) : scT X B U H := va_T.narrow h hAB
def GX (X : XT) (A : Nat → Prop) (U : State) (H : Heap) : Prop := va_K X.1 vwCl (xTy X) U ∧ nestOK U ∧ stOK X A U H ∧ vk_R RX6 45 "rbfkdhj" (X.2.2 4) U ∧ scT X A U H
theorem GX.call {X : XT} {A B : Nat → Prop} {s U : State} {H : Heap} {locs : List Loc} (h : GX X A s s.heap) (hS : va_S A s.heap H locs) (hU : U.heap = H) (hW : s.WarmedH U.vm) (hAB : ∀ q, B q → A q) : GX X B U U.heap := by
  refine ⟨h.1.moved hW.alike, h.2.1.warm hW, ?_, vk_R.warm hW h.2.2.2.1, ?_⟩
  · rw [hU]
    exact ((h.2.2.1.moved hW.alike).kept hS.2.1).narrow hAB
  · rw [hU]
    exact ((h.2.2.2.2.moved hW.alike).kept hS.2.1).narrow hAB
theorem GX.blind {X : XT} {A : Nat → Prop} {U : State} {g : JFrame} {mk : MethodId} {a : Array Value} (h : GX X A U U.heap) : GX X A (U.calling g mk a) (U.calling g mk a).heap :=
  ⟨h.1.moved (Vm.Alike.refl U.vm), h.2.1.same rfl, h.2.2.1.moved (Vm.Alike.refl U.vm), vk_R.same rfl h.2.2.2.1, h.2.2.2.2.moved (Vm.Alike.refl U.vm)⟩
/-! contracts -/
def cPre (X : XT) (ws : va_W) (sz : Nat) (U : State) : Prop := U.heap.size = sz ∧ va_P X.1 vwCl ws U.heap ∧ aD (fun _ => True) (ws.map Prod.fst) ∧ GX X (va_A ws sz) U U.heap
theorem cPre.blind (X : XT) (ws : va_W) (sz : Nat) (av : List Value) : FrameBlind (va_Pc av (cPre X ws sz)) := fun a U g mk h => ⟨h.1, h.2.1, h.2.2.1, h.2.2.2.1, GX.blind h.2.2.2.2⟩
def MI (l : Launch) (y : MethodName) (w : List Cond) (rm : Room) (X : XT) (av : List Value) (ws ws' : va_W) (r : Int32) : Prop :=
  ∀ sz : Nat, Met l y w rm (va_Pc av (cPre X ws sz)) (va_Qi (fun (r' : Int32) (_ : Unit) => r' = r) (fun _ t => va_P X.1 vwCl ws' t.heap ∧ aD (va_A ws sz) (ws'.map Prod.fst)) (va_A ws sz)) 0 0 (va_A ws sz)
def ML (l : Launch) (y : MethodName) (w : List Cond) (rm : Room) (X : XT) (av : List Value) (ws ws' : va_W) (r : Int64) : Prop :=
  ∀ sz : Nat, Met l y w rm (va_Pc av (cPre X ws sz)) (va_Ql (fun (r' : Int64) (_ : Unit) => r' = r) (fun _ t => va_P X.1 vwCl ws' t.heap ∧ aD (va_A ws sz) (ws'.map Prod.fst)) (va_A ws sz)) 0 0 (va_A ws sz)
def MC (l : Launch) (y : MethodName) (w : List Cond) (rm : Room) (X : XT) (av : List Value) (ws : va_W) (ws' : (Nat → Nat) → va_W) (mc ms : Nat) : Prop :=
  ∀ sz : Nat, Met l y w rm (va_Pc av (cPre X ws sz)) (va_Qv (fun (_ : Nat → Nat) => True) (fun u t => va_P X.1 vwCl (ws' u) t.heap ∧ aD (va_A ws sz) ((ws' u).map Prod.fst)) (va_A ws sz)) mc ms (va_A ws sz)
theorem aD.self {ws : va_W} {sz : Nat} (h : aD (fun _ => True) (ws.map Prod.fst)) : aD (va_A ws sz) (ws.map Prod.fst) := h.weaken (fun a ha _ => by
  obtain ⟨q, hq, rfl⟩ := List.mem_map.mp ha
  obtain ⟨k, hk⟩ := List.getElem?_of_mem hq
  exact va_A.in hk)
section XE
variable {l : Launch} {y : MethodName} {w w' : List Cond} {rm : Room} {X : XT} {av : List Value} {ws : va_W} {cc : ByteArray} {maxL : Nat} {rt : FieldType}
theorem MI_of {ws' : va_W} {r : Int32} (hy : plainName y.cls = true) (hw : w = .code y cc maxL (some rt) :: w') (hlen : (lg_sl av).length ≤ maxL)
    (body : ∀ (p : Program) (e : Env) (s : State) (m : MethodId) (below : List Frame) (meth : Method) (c : Code) (A : Nat → Prop) (Q : State → Prop) (ls : Array Slot), p.tables.exec = Jvm.exec → c.code = cc → c.maxLocals = maxL → (∀ w0 ∈ w, w0.before av.toArray s = true) → s.vm.findClass y.cls = some m.cls → (∀ q : Nat, s.heap.size ≤ q → A q) → aD A (ws.map Prod.fst) → GX X A s s.heap → va_P X.1 vwCl ws s.heap → va_S A s.heap s.heap [] → lv_has ls maxL (lv_args 0 av) →
      (∀ (H : Heap) (locs : List Loc) (ls : Array Slot) (pc : Nat), narrow rt (.int r) = .int r → va_P X.1 vwCl ws' H → aD A (ws'.map Prod.fst) → va_S A s.heap H locs → decode cc pc = .ok (.ireturn, 1) → W p l e rm s m av.toArray below meth c H locs 0 0 Q (F0 m pc ls [.int r])) →
      W p l e rm s m av.toArray below meth c s.heap [] 0 0 Q (F0 m 0 ls [])) : MI l y w rm X av ws ws' r := by
  intro sz
  refine Met.ofW (cc := cc) (maxL := maxL) (ret := some rt) hy hw ?_
  intro p e s m args below meth c s₁ B hml hv
  obtain ⟨rfl, hsz, hP, hD0, hG⟩ := hv
  subst hsz
  have hl := lv_entry av (n := maxL) hlen
  rw [lg_entry_eq]
  exact body p e s m below meth c (va_A ws s.heap.size) _ _ B.exec B.bytes hml (atoms_spec (ws := w) B.pre) (findClass_of_methodNamed B.named) (fun q h => Or.inr h) hD0.self hG hP va_S.rf hl
    (fun H locs ls pc hn hP' hD' hS' hd => W.zret B.exec B.bytes B.returns hn (fun t ht hW => ⟨⟨r, (), rfl, rfl, by rw [ht]; exact hP', hD'⟩, hS'.F ht⟩) hS'.2.2 hd B.notSynchronized)
theorem ML_of {ws' : va_W} {r : Int64} (hy : plainName y.cls = true) (hw : w = .code y cc maxL (some .long) :: w') (hlen : (lg_sl av).length ≤ maxL)
    (body : ∀ (p : Program) (e : Env) (s : State) (m : MethodId) (below : List Frame) (meth : Method) (c : Code) (A : Nat → Prop) (Q : State → Prop) (ls : Array Slot), p.tables.exec = Jvm.exec → c.code = cc → c.maxLocals = maxL → (∀ w0 ∈ w, w0.before av.toArray s = true) → s.vm.findClass y.cls = some m.cls → (∀ q : Nat, s.heap.size ≤ q → A q) → aD A (ws.map Prod.fst) → GX X A s s.heap → va_P X.1 vwCl ws s.heap → va_S A s.heap s.heap [] → lv_has ls maxL (lv_args 0 av) →
      (∀ (H : Heap) (locs : List Loc) (ls : Array Slot) (pc : Nat), va_P X.1 vwCl ws' H → aD A (ws'.map Prod.fst) → va_S A s.heap H locs → decode cc pc = .ok (.lreturn, 1) → W p l e rm s m av.toArray below meth c H locs 0 0 Q (F0 m pc ls [.long r])) →
      W p l e rm s m av.toArray below meth c s.heap [] 0 0 Q (F0 m 0 ls [])) : ML l y w rm X av ws ws' r := by
  intro sz
  refine Met.ofW (cc := cc) (maxL := maxL) (ret := some .long) hy hw ?_
  intro p e s m args below meth c s₁ B hml hv
  obtain ⟨rfl, hsz, hP, hD0, hG⟩ := hv
  subst hsz
  have hl := lv_entry av (n := maxL) hlen
  rw [lg_entry_eq]
  exact body p e s m below meth c (va_A ws s.heap.size) _ _ B.exec B.bytes hml (atoms_spec (ws := w) B.pre) (findClass_of_methodNamed B.named) (fun q h => Or.inr h) hD0.self hG hP va_S.rf hl
    (fun H locs ls pc hP' hD' hS' hd => W.lret B.exec B.bytes B.returns (fun t ht hW => ⟨⟨r, (), rfl, rfl, by rw [ht]; exact hP', hD'⟩, hS'.F ht⟩) hS'.2.2 hd B.notSynchronized)
theorem MC_of {ws' : (Nat → Nat) → va_W} {mc ms : Nat} (hy : plainName y.cls = true) (hw : w = .code y cc maxL none :: w') (hlen : (lg_sl av).length ≤ maxL)
    (body : ∀ (p : Program) (e : Env) (s : State) (m : MethodId) (below : List Frame) (meth : Method) (c : Code) (A : Nat → Prop) (Q : State → Prop) (ls : Array Slot), p.tables.exec = Jvm.exec → c.code = cc → c.maxLocals = maxL → (∀ w0 ∈ w, w0.before av.toArray s = true) → s.vm.findClass y.cls = some m.cls → meth.name = y.name → (∀ q : Nat, s.heap.size ≤ q → A q) → aD A (ws.map Prod.fst) → GX X A s s.heap → va_P X.1 vwCl ws s.heap → va_S A s.heap s.heap [] → lv_has ls maxL (lv_args 0 av) →
      (∀ (u : Nat → Nat) (H : Heap) (locs : List Loc) (ls : Array Slot) (pc : Nat), va_P X.1 vwCl (ws' u) H → aD A ((ws' u).map Prod.fst) → va_S A s.heap H locs → decode cc pc = .ok (.return_, 1) → W p l e rm s m av.toArray below meth c H locs mc ms Q (F0 m pc ls [])) →
      W p l e rm s m av.toArray below meth c s.heap [] 0 0 Q (F0 m 0 ls [])) : MC l y w rm X av ws ws' mc ms := by
  intro sz
  refine Met.ofW (cc := cc) (maxL := maxL) (ret := none) hy hw ?_
  intro p e s m args below meth c s₁ B hml hv
  obtain ⟨rfl, hsz, hP, hD0, hG⟩ := hv
  subst hsz
  have hl := lv_entry av (n := maxL) hlen
  rw [lg_entry_eq]
  exact body p e s m below meth c (va_A ws s.heap.size) _ _ B.exec B.bytes hml (atoms_spec (ws := w) B.pre) (findClass_of_methodNamed B.named) (name_of_methodNamed B.named B.method).1 (fun q h => Or.inr h) hD0.self hG hP va_S.rf hl
    (fun u H locs ls pc hP' hD' hS' hd => W.vret B.exec B.bytes B.returns (fun t ht hW => ⟨⟨u, rfl, trivial, by rw [ht]; exact hP', hD'⟩, hS'.F ht⟩) hS'.2.2 hd B.notSynchronized)
end XE
/-! behind a call -/
theorem x_join {A0 : Nat → Prop} {D : va_G} {cl : List vw_C} {ws wc w1 ws' : va_W} {H H1 : Heap} (hP : va_P D cl ws H) (hD : va_D A0 ws) (isC isR perm : List Nat) (hC : isC.map (fun i => ws[i]?) = wc.map some) (hR : isR.all (fun i => decide (i < ws.length)) = true) (hn : va_nd isR = true) (hdis : isR.all (fun i => !isC.contains i) = true)
    (hk : ∀ q : Nat, q < H.size → ¬ va_A wc H.size q → H1[q]? = H[q]?) (hF : ∀ q, va_A wc H.size q → A0 q) (hP1 : va_P D cl w1 H1) (hD1 : aD (va_A wc H.size) (w1.map Prod.fst)) (hnp : va_nd perm = true) (hp : perm.map (fun i => (isR.filterMap (fun i => ws[i]?) ++ w1)[i]?) = ws'.map some) : va_P D cl ws' H1 ∧ aD A0 (ws'.map Prod.fst) := by
  obtain ⟨h1, h2⟩ := va_join (wr := isR.filterMap (fun i => ws[i]?)) (w1 := w1) hP hD isC isR hC (is_map isR hR) hn (fun i hi hc => by
    have h := List.all_eq_true.mp hdis i hi
    rw [Bool.not_eq_true'] at h
    rw [List.contains_iff_mem.mpr hc] at h
    cases h) hk hF hP1 (hD1.toD rfl)
  refine ⟨fun k q hq => ?_, (h2.sub perm hnp hp) |> aD.ofD⟩
  have h3 : (perm.map (fun i => (isR.filterMap (fun i => ws[i]?) ++ w1)[i]?))[k]? = some (some q) := by rw [hp, List.getElem?_map, hq]; rfl
  rw [List.getElem?_map] at h3
  cases hi : perm[k]? with
  | none => rw [hi] at h3; cases h3
  | some i => rw [hi] at h3; exact h1 i q (Option.some.inj h3)
section XC
variable {p : Program} {l : Launch} {e : Env} {R : Room} {s : State} {m : MethodId} {args : Array Value} {below : List Frame} {meth : Method} {c : Code} {H : Heap} {locs : List Loc} {cells slots : Nat} {Q : State → Prop}
variable {y : MethodName} {w : List Cond} {rm : Room} {X : XT} {av : List Value} {ws wc : va_W} {cc : ByteArray} {pc : Nat} {ls : Array Slot} {rest st0 : List Value} {A : Nat → Prop} {as : List Nat} {Ts : List Cond} {own C : String} {index n nL maxL : Nat} {bytes : ByteArray} {ret : Option FieldType} {As : List Value} {b : Addr} {host : String}
theorem x_pre (hG : GX X A s s.heap) (hA : ∀ q : Nat, s.heap.size ≤ q → A q) (hP : va_P X.1 vwCl ws H) (hD : aD A as) (has : ws.map Prod.fst = as) (hS : va_S A s.heap H locs) (isC : List Nat) (hnc : va_nd isC = true) (hC : isC.map (fun i => ws[i]?) = wc.map some) : (∀ q, va_A wc H.size q → A q) ∧ ∀ U : State, U.heap = H → s.WarmedH U.vm → va_Pc av (cPre X wc H.size) av.toArray U := by
  have hF : ∀ q, va_A wc H.size q → A q := va_free (hD.toD has) hS hA isC hC
  refine ⟨hF, fun U hU hW => ⟨rfl, by rw [hU], ?_, ?_, hG.call hS hU hW hF⟩⟩
  · rw [hU]
    intro k q hq
    have h1 : (isC.map (fun i => ws[i]?))[k]? = some (some q) := by rw [hC, List.getElem?_map, hq]; rfl
    rw [List.getElem?_map] at h1
    cases hi : isC[k]? with
    | none => rw [hi] at h1; cases h1
    | some i => rw [hi] at h1; exact hP i q (Option.some.inj h1)
  · exact (aD.ofD ((hD.toD has).sub isC hnc hC)).weaken (fun _ _ _ => trivial)
theorem x_i {wc' ws' : va_W} {r : Int32} {a : Array Value} (hr : va_Run p l e R s m args below meth c H locs cells slots 0 0 (F0 m pc ls st0) rest (va_Qi (fun (r' : Int32) (_ : Unit) => r' = r) (fun _ t => va_P X.1 vwCl wc' t.heap ∧ aD (va_A wc H.size) (wc'.map Prod.fst)) (va_A wc H.size) a) (va_A wc H.size))
    (hP : va_P X.1 vwCl ws H) (hD : aD A as) (has : ws.map Prod.fst = as) (hS : va_S A s.heap H locs) (hF : ∀ q, va_A wc H.size q → A q) (isC isR perm : List Nat) (hC : isC.map (fun i => ws[i]?) = wc.map some) (hR : isR.all (fun i => decide (i < ws.length)) = true) (hn : va_nd isR = true) (hdis : isR.all (fun i => !isC.contains i) = true) (hnp : va_nd perm = true) (hp : perm.map (fun i => (isR.filterMap (fun i => ws[i]?) ++ wc')[i]?) = ws'.map some)
    (kk : ∀ (H1 : Heap) (locs1 : List Loc), va_P X.1 vwCl ws' H1 → aD A (ws'.map Prod.fst) → va_S A s.heap H1 locs1 → W p l e R s m args below meth c H1 locs1 cells slots Q (F0 m (pc + 3) ls (.int r :: rest))) : W p l e R s m args below meth c H locs cells slots Q (F0 m pc ls st0) := by
  refine va_calli hr hS (fun q _ h => hF q h) hF (fun r' u t H1 locs1 ht hvm hw hB hz hk hS1 => ?_)
  cases hw
  obtain ⟨hP1, hD1⟩ := hB
  rw [ht] at hP1
  obtain ⟨g1, g2⟩ := x_join hP (hD.toD has) isC isR perm hC hR hn hdis hk hF hP1 hD1 hnp hp
  exact kk H1 locs1 g1 g2 hS1
theorem x_l {wc' ws' : va_W} {r : Int64} {a : Array Value} (hr : va_Run p l e R s m args below meth c H locs cells slots 0 0 (F0 m pc ls st0) rest (va_Ql (fun (r' : Int64) (_ : Unit) => r' = r) (fun _ t => va_P X.1 vwCl wc' t.heap ∧ aD (va_A wc H.size) (wc'.map Prod.fst)) (va_A wc H.size) a) (va_A wc H.size))
    (hP : va_P X.1 vwCl ws H) (hD : aD A as) (has : ws.map Prod.fst = as) (hS : va_S A s.heap H locs) (hF : ∀ q, va_A wc H.size q → A q) (isC isR perm : List Nat) (hC : isC.map (fun i => ws[i]?) = wc.map some) (hR : isR.all (fun i => decide (i < ws.length)) = true) (hn : va_nd isR = true) (hdis : isR.all (fun i => !isC.contains i) = true) (hnp : va_nd perm = true) (hp : perm.map (fun i => (isR.filterMap (fun i => ws[i]?) ++ wc')[i]?) = ws'.map some)
    (kk : ∀ (H1 : Heap) (locs1 : List Loc), va_P X.1 vwCl ws' H1 → aD A (ws'.map Prod.fst) → va_S A s.heap H1 locs1 → W p l e R s m args below meth c H1 locs1 cells slots Q (F0 m (pc + 3) ls (.long r :: rest))) : W p l e R s m args below meth c H locs cells slots Q (F0 m pc ls st0) := by
  refine va_calll hr hS (fun q _ h => hF q h) hF (fun r' u t H1 locs1 ht hvm hw hB hz hk hS1 => ?_)
  cases hw
  obtain ⟨hP1, hD1⟩ := hB
  rw [ht] at hP1
  obtain ⟨g1, g2⟩ := x_join hP (hD.toD has) isC isR perm hC hR hn hdis hk hF hP1 hD1 hnp hp
  exact kk H1 locs1 g1 g2 hS1
theorem x_v {wc' ws' : (Nat → Nat) → va_W} {mc ms : Nat} {a : Array Value} (hr : va_Run p l e R s m args below meth c H locs cells slots mc ms (F0 m pc ls st0) rest (va_Qv (fun (_ : Nat → Nat) => True) (fun u t => va_P X.1 vwCl (wc' u) t.heap ∧ aD (va_A wc H.size) ((wc' u).map Prod.fst)) (va_A wc H.size) a) (va_A wc H.size))
    (hP : va_P X.1 vwCl ws H) (hD : aD A as) (has : ws.map Prod.fst = as) (hS : va_S A s.heap H locs) (hF : ∀ q, va_A wc H.size q → A q) (isC isR perm : List Nat) (hC : isC.map (fun i => ws[i]?) = wc.map some) (hR : isR.all (fun i => decide (i < ws.length)) = true) (hn : va_nd isR = true) (hdis : isR.all (fun i => !isC.contains i) = true) (hnp : va_nd perm = true) (hp : ∀ u, perm.map (fun i => (isR.filterMap (fun i => ws[i]?) ++ wc' u)[i]?) = (ws' u).map some)
    (kk : ∀ (u : Nat → Nat) (H1 : Heap) (locs1 : List Loc), va_P X.1 vwCl (ws' u) H1 → aD A ((ws' u).map Prod.fst) → va_S A s.heap H1 locs1 → W p l e R s m args below meth c H1 locs1 (cells + mc) (slots + ms) Q (F0 m (pc + 3) ls rest)) : W p l e R s m args below meth c H locs cells slots Q (F0 m pc ls st0) := by
  refine va_callv hr hS (fun q _ h => hF q h) hF (fun u t H1 locs1 ht hvm hw hB hz hk hS1 => ?_)
  obtain ⟨hP1, hD1⟩ := hB
  rw [ht] at hP1
  obtain ⟨g1, g2⟩ := x_join hP (hD.toD has) isC isR perm hC hR hn hdis hk hF hP1 hD1 hnp (hp u)
  exact kk u H1 locs1 g1 g2 hS1
end XC
