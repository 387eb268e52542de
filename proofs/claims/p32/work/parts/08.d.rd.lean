/-! READ: what the class reads out of such a text -/
def AtL (n : Nat) (t : Nat → Nat) (p : Nat) (L : List Nat) : Prop := p + L.length ≤ n ∧ ∀ k, k < L.length → t (p + k) = L.getD k 0
theorem AtL.left {n p : Nat} {t : Nat → Nat} {A B : List Nat} (h : AtL n t p (A ++ B)) : AtL n t p A := by
  obtain ⟨h1, h2⟩ := h
  rw [List.length_append] at h1
  exact ⟨by omega, fun k hk => by rw [h2 k (by rw [List.length_append]; omega), getD_l hk]⟩
theorem AtL.right {n p : Nat} {t : Nat → Nat} {A B : List Nat} (h : AtL n t p (A ++ B)) : AtL n t (p + A.length) B := by
  obtain ⟨h1, h2⟩ := h
  rw [List.length_append] at h1
  exact ⟨by omega, fun k hk => by rw [Nat.add_assoc, h2 (A.length + k) (by rw [List.length_append]; omega), getD_r]⟩
theorem AtL.hd {n p x : Nat} {t : Nat → Nat} {B : List Nat} (h : AtL n t p (x :: B)) : t p = x ∧ p < n := by
  obtain ⟨h1, h2⟩ := h
  rw [List.length_cons] at h1
  exact ⟨by have := h2 0 (by rw [List.length_cons]; omega); rw [Nat.add_zero] at this; exact this, by omega⟩
theorem AtL.tl {n p x : Nat} {t : Nat → Nat} {B : List Nat} (h : AtL n t p (x :: B)) : AtL n t (p + 1) B := AtL.right (A := [x]) (B := B) h
theorem dig_y {n p : Nat} {t : Nat → Nat} (h : p < n) (h1 : 48 ≤ t p) (h2 : t p ≤ 57) : dig n t p = true := by unfold dig; exact decide_eq_true ⟨h, h1, h2⟩
theorem dig_n {n p c : Nat} {t : Nat → Nat} (h : t p = c) (hc : c = 44 ∨ c = 59) : ¬ dig n t p = true := by
  intro hh
  have := (dig_p hh).2
  omega
theorem rd_num {n p v c : Nat} {t : Nat → Nat} (hv : v < 1000) (hc : c = 44 ∨ c = 59) (h : AtL n t p (numL v ++ [c])) : rdN n t 3 p 0 0 = (v, (numL v).length, p + (numL v).length) := by
  unfold numL at h ⊢
  by_cases c1 : v < 10
  · rw [if_pos c1] at h ⊢
    have a0 := AtL.hd (B := [c]) h
    have h1 := AtL.tl (B := [c]) h
    have a1 := AtL.hd (B := []) h1
    unfold rdN
    rw [if_pos (dig_y a0.2 (by omega) (by omega))]
    unfold rdN
    rw [if_neg (dig_n a1.1 hc), a0.1]
    show (0 * 10 + (48 + v) - 48, 0 + 1, p + 1) = (v, 1, p + 1)
    rw [show 0 * 10 + (48 + v) - 48 = v by omega]
  · rw [if_neg c1] at h ⊢
    by_cases c2 : v < 100
    · rw [if_pos c2] at h ⊢
      have a0 := AtL.hd (B := [48 + v % 10, c]) h
      have h1 := AtL.tl (B := [48 + v % 10, c]) h
      have a1 := AtL.hd (B := [c]) h1
      have h2 := AtL.tl (B := [c]) h1
      have a2 := AtL.hd (B := []) h2
      unfold rdN
      rw [if_pos (dig_y a0.2 (by omega) (by omega))]
      unfold rdN
      rw [if_pos (dig_y a1.2 (by omega) (by omega))]
      unfold rdN
      rw [if_neg (dig_n a2.1 hc), a0.1, a1.1]
      show ((0 * 10 + (48 + v / 10) - 48) * 10 + (48 + v % 10) - 48, 0 + 1 + 1, p + 1 + 1) = (v, 2, p + 2)
      rw [show (0 * 10 + (48 + v / 10) - 48) * 10 + (48 + v % 10) - 48 = v by omega]
    · rw [if_neg c2] at h ⊢
      have a0 := AtL.hd (B := [48 + v / 10 % 10, 48 + v % 10, c]) h
      have h1 := AtL.tl (B := [48 + v / 10 % 10, 48 + v % 10, c]) h
      have a1 := AtL.hd (B := [48 + v % 10, c]) h1
      have h2 := AtL.tl (B := [48 + v % 10, c]) h1
      have a2 := AtL.hd (B := [c]) h2
      unfold rdN
      rw [if_pos (dig_y a0.2 (by omega) (by omega))]
      unfold rdN
      rw [if_pos (dig_y a1.2 (by omega) (by omega))]
      unfold rdN
      rw [if_pos (dig_y a2.2 (by omega) (by omega))]
      unfold rdN
      rw [a0.1, a1.1, a2.1]
      show (((0 * 10 + (48 + v / 100) - 48) * 10 + (48 + v / 10 % 10) - 48) * 10 + (48 + v % 10) - 48, 0 + 1 + 1 + 1, p + 1 + 1 + 1) = (v, 3, p + 3)
      rw [show ((0 * 10 + (48 + v / 100) - 48) * 10 + (48 + v / 10 % 10) - 48) * 10 + (48 + v % 10) - 48 = v by omega]
theorem numL_len (v : Nat) : 1 ≤ (numL v).length ∧ (numL v).length ≤ 3 := by
  unfold numL
  split
  · exact ⟨by show 1 ≤ 1; omega, by show 1 ≤ 3; omega⟩
  · split
    · exact ⟨by show 1 ≤ 2; omega, by show 2 ≤ 3; omega⟩
    · exact ⟨by show 1 ≤ 3; omega, by show 3 ≤ 3; omega⟩
theorem pNum_w {n p v c : Nat} {t : Nat → Nat} (hv : v < 1000) (hc : c = 44 ∨ c = 59) (h : AtL n t p (numL v ++ [c])) : pNum n t p c = some (v, p + (numL v).length + 1) := by
  have h2 := AtL.hd (AtL.right h)
  unfold pNum
  rw [rd_num hv hc h]
  exact if_pos ⟨(numL_len v).1, h2.2, h2.1⟩
theorem pN_w {n : Nat} {t V : Nat → Nat} : ∀ (d p i : Nat) (g : Nat → Nat), AtL n t p (sepF V i d) → (∀ k, i ≤ k → k < i + d → V k < 1000) → ∃ o, pN n t d p i g = some o ∧ o.2 = p + (sepF V i d).length ∧ ∀ k, i ≤ k → k < i + d → o.1 k = V k := by
  intro d
  induction d with
  | zero => intro p i g h hV; exact ⟨(g, p), rfl, rfl, fun k h1 h2 => absurd h2 (by omega)⟩
  | succ d ih =>
    intro p i g h hV
    have es : sepF V i (d + 1) = (numL (V i) ++ [if d = 0 then 59 else 44]) ++ sepF V (i + 1) d := by rw [List.append_assoc]; rfl
    rw [es] at h ⊢
    have hc : (if d = 0 then 59 else 44) = 44 ∨ (if d = 0 then 59 else 44) = 59 := by split <;> omega
    have e1 := pNum_w (hV i (by omega) (by omega)) hc h.left
    have hl : (numL (V i) ++ [if d = 0 then 59 else 44]).length = (numL (V i)).length + 1 := by rw [List.length_append]; rfl
    obtain ⟨o, e2, e3, e4⟩ := ih (p + (numL (V i)).length + 1) (i + 1) (fun k => if k = i then V i else g k) (by have := h.right; rw [hl] at this; exact this) (fun k h1 h2 => hV k (by omega) (by omega))
    refine ⟨o, ?_, by rw [List.length_append, hl]; omega, fun k h1 h2 => ?_⟩
    · unfold pN
      rw [e1]
      exact e2
    · by_cases hk : k = i
      · rw [(pN_bd d _ _ _ o e2).1 k (by omega)]
        show (if k = i then V i else g k) = V k
        rw [if_pos hk, hk]
      · exact e4 k (by omega) (by omega)
theorem inR_c {f i c : Nat} {g h : Nat → Nat} (hh : ∀ k, i ≤ k → k < c → g k = h k) (H : inR f i c h) : inR f i c g := fun j h1 h2 => by rw [hh j h1 h2]; exact H j h1 h2
theorem rd_item {n : Nat} {t : Nat → Nat} {bytes : Nat → Int32} (hB : TB n t bytes (fun k => nI (t k))) (hn : n ≤ 500) {q p l m : Nat} {V : Nat → Nat} (hq : q < 7) (hl : kI l = nI q) (hm : m = ctL.getD q 0) (hin : inR (fiL.getD q 0) 0 (ctL.getD q 0) V) (hat : AtL n t p (itemL (l, m, V))) (nums : Nat → Int32) : ∃ nm, mX6_readItem (nI p) nums (nI n) bytes = some (1, nI (p + (itemL (l, m, V)).length), nm) ∧ ∀ k, k < ctL.getD q 0 → nm k = nI (V k) := by
  subst hm
  have h0 := AtL.hd (B := sepF V 0 (ctL.getD q 0)) hat
  obtain ⟨t1, t2, t3, t4, -⟩ := tab0_s q hq
  obtain ⟨o, e1, e2, e3⟩ := pN_w (n := n) (t := t) (V := V) (ctL.getD q 0) (p + 1) 0 (fun _ => 0) (AtL.tl (B := sepF V 0 (ctL.getD q 0)) hat) (fun k h1 h2 => by
    have h3 := (hin k h1 (by omega)).2
    have h4 := (tab12_s (fiL.getD q 0 + k) (by omega)).2.2.1
    omega)
  have hr : inR (fiL.getD q 0) 0 (ctL.getD q 0) o.1 := inR_c (fun k h1 h2 => e3 k h1 (by omega)) hin
  rcases X6_readItem_k hB hn nums h0.2 hq (by rw [h0.1]; exact hl) with ⟨-, h⟩ | ⟨o', c1, c2, nm, c3, c4⟩
  · exact absurd hr (h o e1)
  · rw [e1] at c1
    have hoo := Option.some.inj c1
    subst hoo
    refine ⟨nm, ?_, fun k hk => by rw [c4 k hk, e3 k (by omega) (by omega)]⟩
    rw [c3, e2]
    show some (1, nI (p + 1 + (sepF V 0 (ctL.getD q 0)).length), nm) = some (1, nI (p + ((sepF V 0 (ctL.getD q 0)).length + 1)), nm)
    rw [show p + 1 + (sepF V 0 (ctL.getD q 0)).length = p + ((sepF V 0 (ctL.getD q 0)).length + 1) by omega]
def Step (a : AT) (it : IT) (b : AT) : Prop :=
  (it.1 = 114 ∧ it.2.1 = 1 ∧ inR 0 0 1 it.2.2 ∧ b = setR a (it.2.2 0)) ∨
  (it.1 = 98 ∧ it.2.1 = 5 ∧ inR 1 0 5 it.2.2 ∧ aB a < 40 ∧ b = addB a it.2.2) ∨
  (it.1 = 102 ∧ it.2.1 = 3 ∧ inR 6 0 3 it.2.2 ∧ b = setF a (2 * it.2.2 0 + it.2.2 1) (it.2.2 2)) ∨
  (it.1 = 107 ∧ it.2.1 = 2 ∧ inR 9 0 2 it.2.2 ∧ dn a (2 * it.2.2 0) + dn a (2 * it.2.2 0 + 1) < 3 ∧ b = setD a (2 * it.2.2 0 + it.2.2 1)) ∨
  (it.1 = 100 ∧ it.2.1 = 2 ∧ inR 11 0 2 it.2.2 ∧ tk a (2 * it.2.2 0) + tk a (2 * it.2.2 0 + 1) < 3 ∧ b = setT a (2 * it.2.2 0 + it.2.2 1)) ∨
  (it.1 = 104 ∧ it.2.1 = 2 ∧ inR 13 0 2 it.2.2 ∧ b = setH a (it.2.2 0) (it.2.2 1)) ∨
  (it.1 = 106 ∧ it.2.1 = 7 ∧ inR 15 0 7 it.2.2 ∧ aJ a < 8 ∧ b = addJ a it.2.2)
theorem step_ok {n : Nat} {t : Nat → Nat} {bytes : Nat → Int32} (hB : TB n t bytes (fun k => nI (t k))) (hn : n ≤ 500) {a b : AT} (hA : OKD a) {it : IT} (hs : Step a it b) {p : Nat} (hat : AtL n t p (itemL it)) {rounds home noise bc jc : Int32} {cbl cjd cfw cdn ctk : Nat → Int32} (hC : RCr a rounds home noise bc jc cbl cjd cfw cdn ctk) (nums : Nat → Int32) : ∃ (nm : Nat → Int32) (ot : OT), mX6_readItem (nI p) nums (nI n) bytes = some (1, nI (p + (itemL it).length), nm) ∧ mX3_take (nI (t p)) rounds home noise bc jc cbl cdn cfw cjd ctk nm = some ot ∧ ot.1 = 1 ∧ OKD b ∧ CR1 b ot := by
  obtain ⟨l, m, V⟩ := it
  have h0 : t p = l := (AtL.hd (B := sepF V 0 m) hat).1
  rcases hs with ⟨s1, s2, s3, s4⟩ | ⟨s1, s2, s3, s5, s4⟩ | ⟨s1, s2, s3, s4⟩ | ⟨s1, s2, s3, s5, s4⟩ | ⟨s1, s2, s3, s5, s4⟩ | ⟨s1, s2, s3, s4⟩ | ⟨s1, s2, s3, s5, s4⟩ <;> (dsimp only at s1 s2 s3 s4; subst s1 s2; rw [h0])
  · obtain ⟨nm, e1, e2⟩ := rd_item hB hn (q := 0) (by omega) rfl rfl s3 hat nums
    subst s4
    refine ⟨nm, (1, cjd, jc, nI (V 0), cdn, home, noise, cfw, ctk, cbl, bc), e1, ?_, rfl, ⟨s3 0 (by omega) (by omega), hA.2⟩, ⟨rfl, hC.2⟩⟩
    unfold mX3_take
    rw [if_neg (by decide), if_neg (by decide), if_neg (by decide), if_neg (by decide), if_neg (by decide), if_pos (by decide), lb_d]
    show some (1, cjd, jc, nm 0, cdn, home, noise, cfw, ctk, cbl, bc) = _
    rw [e2 0 (by decide)]
  · obtain ⟨nm, e1, e2⟩ := rd_item hB hn (q := 1) (by omega) rfl rfl s3 hat nums
    have hbc := hC.2.2.2.1
    subst s4 hbc
    have hK : aB a ≤ 40 := hA.2.1
    have et : mX3_take (nI 98) rounds home noise (nI (aB a)) jc cbl cdn cfw cjd ctk nm = (mX3_addBlow (nI (aB a)) cbl nm).bind fun o9 => gz o9.1 <| some (o9.1, cjd, jc, rounds, cdn, home, noise, cfw, ctk, o9.2.1, o9.2.2) := by
      unfold mX3_take
      rw [if_pos (by decide)]
      all_goals rfl
    rw [X3_addBlow_s hK nm cbl, b_some] at et
    rw [if_pos s5, gz_1] at et
    have hv : ∀ k, k < 5 → loL.getD (1 + k) 0 ≤ V k ∧ V k ≤ hiL.getD (1 + k) 0 := fun k hk => s3 k (by omega) hk
    refine ⟨nm, (1, cjd, jc, rounds, cdn, home, noise, cfw, ctk, va_cpy nm cbl 0 (aB a * 5) 5, nI (aB a + 1)), e1, et, rfl, ⟨hA.1, by show aB a + 1 ≤ 40; omega, hA.2.2.1, hA.2.2.2.1, fun k hk => ?_, hA.2.2.2.2.2⟩, ⟨hC.1, hC.2.1, hC.2.2.1, rfl, hC.2.2.2.2.1, fun k hk => ?_, hC.2.2.2.2.2.2⟩⟩
    · show okBl (fun k => if 5 * aB a ≤ k ∧ k < 5 * aB a + 5 then V (k - 5 * aB a) else bl a k) k
      have hk2 : k < aB a + 1 := hk
      unfold okBl
      dsimp only
      by_cases hkB : k = aB a
      · subst hkB
        rw [if_pos (by omega), if_pos (by omega), if_pos (by omega), if_pos (by omega), if_pos (by omega), show 5 * aB a - 5 * aB a = 0 by omega, show 5 * aB a + 1 - 5 * aB a = 1 by omega, show 5 * aB a + 2 - 5 * aB a = 2 by omega, show 5 * aB a + 3 - 5 * aB a = 3 by omega, show 5 * aB a + 4 - 5 * aB a = 4 by omega]
        have w0 : V 0 ≤ 11 := (hv 0 (by omega)).2
        have w1 : V 1 ≤ 179 := (hv 1 (by omega)).2
        have w2 : V 2 ≤ 1 := (hv 2 (by omega)).2
        have w3 : 1 ≤ V 3 ∧ V 3 ≤ 9 := hv 3 (by omega)
        have w4 : V 4 ≤ 11 := (hv 4 (by omega)).2
        omega
      · have hb := hA.2.2.2.2.1 k (by omega)
        unfold okBl at hb
        rw [if_neg (by omega), if_neg (by omega), if_neg (by omega), if_neg (by omega), if_neg (by omega)]
        exact hb
    · have hk2 : k < 5 * (aB a + 1) := hk
      show va_cpy nm cbl 0 (aB a * 5) 5 k = nI (if 5 * aB a ≤ k ∧ k < 5 * aB a + 5 then V (k - 5 * aB a) else bl a k)
      unfold va_cpy
      by_cases hkB : 5 * aB a ≤ k ∧ k < 5 * aB a + 5
      · rw [if_pos (by omega), if_pos hkB, show 0 + (k - aB a * 5) = k - 5 * aB a by omega]
        exact e2 _ (show k - 5 * aB a < 5 by omega)
      · rw [if_neg (by omega), if_neg hkB]
        exact hC.2.2.2.2.2.1 k (by omega)
  · obtain ⟨nm, e1, e2⟩ := rd_item hB hn (q := 2) (by omega) rfl rfl s3 hat nums
    subst s4
    have k0 : V 0 ≤ 11 := (s3 0 (by omega) (by omega)).2
    have k1 : V 1 ≤ 1 := (s3 1 (by omega) (by omega)).2
    have k2 : V 2 ≤ 9 := (s3 2 (by omega) (by omega)).2
    refine ⟨nm, (1, cjd, jc, rounds, cdn, home, noise, upd cfw (2 * V 0 + V 1) (nI (V 2)), ctk, cbl, bc), e1, ?_, rfl, ⟨hA.1, hA.2.1, hA.2.2.1, hA.2.2.2.1, hA.2.2.2.2.1, hA.2.2.2.2.2.1, fun k hk => ?_, hA.2.2.2.2.2.2.2⟩, ⟨hC.1, hC.2.1, hC.2.2.1, hC.2.2.2.1, hC.2.2.2.2.1, hC.2.2.2.2.2.1, hC.2.2.2.2.2.2.1, fun k hk => ?_, hC.2.2.2.2.2.2.2.2⟩⟩
    · unfold mX3_take
      rw [if_neg (by decide), if_neg (by decide), if_pos (by decide)]
      show gi ((nm 0 * (2 : Int32)) + nm 1) 24 (lb (upd cfw ((nm 0 * (2 : Int32)) + nm 1).toNatClampNeg (nm 2)) fun g14 => some (1, cjd, jc, rounds, cdn, home, noise, g14, ctk, cbl, bc)) = _
      rw [e2 0 (by decide), e2 1 (by decide), e2 2 (by decide), n_lit 2, n_mul, n_add, gi_n (by omega) (by omega), n_cl (by omega), lb_d, Nat.mul_comm (V 0) 2]
    · show (if k = 2 * V 0 + V 1 then V 2 else fw a k) ≤ 9
      split
      · exact k2
      · exact hA.2.2.2.2.2.2.1 k hk
    · show upd cfw (2 * V 0 + V 1) (nI (V 2)) k = nI (if k = 2 * V 0 + V 1 then V 2 else fw a k)
      by_cases hk2 : k = 2 * V 0 + V 1
      · rw [hk2, upd_s, if_pos rfl]
      · rw [upd_n hk2, if_neg hk2]
        exact hC.2.2.2.2.2.2.2.1 k hk
  · obtain ⟨nm, e1, e2⟩ := rd_item hB hn (q := 3) (by omega) rfl rfl s3 hat nums
    subst s4
    have k0 : V 0 ≤ 11 := (s3 0 (by omega) (by omega)).2
    have k1 : V 1 ≤ 1 := (s3 1 (by omega) (by omega)).2
    have et : mX3_take (nI 107) rounds home noise bc jc cbl cdn cfw cjd ctk nm = (mX3_addOne (nm 0) (nm 1) cdn).bind fun o9 => gz o9.1 <| some (o9.1, cjd, jc, rounds, o9.2, home, noise, cfw, ctk, cbl, bc) := by
      unfold mX3_take
      rw [if_neg (by decide), if_neg (by decide), if_neg (by decide), if_neg (by decide),  if_pos (by decide)]
      rfl
    rw [e2 0 (by decide), e2 1 (by decide), X3_addOne_s (f := cdn) (u := dn a) (hC.2.2.2.2.2.2.2.2.1) k0 k1 (hA.2.2.2.2.2.2.2.1 _ (by omega)), b_some, if_pos s5, gz_1] at et
    refine ⟨nm, (1, cjd, jc, rounds, upd cdn (2 * V 0 + V 1) (nI (dn a (2 * V 0 + V 1) + 1)), home, noise, cfw, ctk, cbl, bc), e1, et, rfl, ⟨hA.1, hA.2.1, hA.2.2.1, hA.2.2.2.1, hA.2.2.2.2.1, hA.2.2.2.2.2.1, hA.2.2.2.2.2.2.1, fun r hr => ?_, hA.2.2.2.2.2.2.2.2⟩, ⟨hC.1, hC.2.1, hC.2.2.1, hC.2.2.2.1, hC.2.2.2.2.1, hC.2.2.2.2.2.1, hC.2.2.2.2.2.2.1, hC.2.2.2.2.2.2.2.1, fun k hk => ?_, hC.2.2.2.2.2.2.2.2.2⟩⟩
    · have hsr := hA.2.2.2.2.2.2.2.1 r hr
      have s5 : dn a (2 * V 0) + dn a (2 * V 0 + 1) < 3 := s5
      show (if 2 * r = 2 * V 0 + V 1 then dn a (2 * r) + 1 else dn a (2 * r)) + (if 2 * r + 1 = 2 * V 0 + V 1 then dn a (2 * r + 1) + 1 else dn a (2 * r + 1)) ≤ 3
      by_cases hr0 : r = V 0
      · rw [hr0]
        split <;> split <;> omega
      · rw [if_neg (by omega), if_neg (by omega)]
        exact hsr
    · show upd cdn (2 * V 0 + V 1) (nI (dn a (2 * V 0 + V 1) + 1)) k = nI (if k = 2 * V 0 + V 1 then dn a k + 1 else dn a k)
      by_cases hk2 : k = 2 * V 0 + V 1
      · rw [hk2, upd_s, if_pos rfl]
      · rw [upd_n hk2, if_neg hk2]
        exact hC.2.2.2.2.2.2.2.2.1 k hk
  · obtain ⟨nm, e1, e2⟩ := rd_item hB hn (q := 4) (by omega) rfl rfl s3 hat nums
    subst s4
    have k0 : V 0 ≤ 11 := (s3 0 (by omega) (by omega)).2
    have k1 : V 1 ≤ 1 := (s3 1 (by omega) (by omega)).2
    have et : mX3_take (nI 100) rounds home noise bc jc cbl cdn cfw cjd ctk nm = (mX3_addOne (nm 0) (nm 1) ctk).bind fun o9 => gz o9.1 <| some (o9.1, cjd, jc, rounds, cdn, home, noise, cfw, o9.2, cbl, bc) := by
      unfold mX3_take
      rw [if_neg (by decide),  if_pos (by decide)]
      rfl
    rw [e2 0 (by decide), e2 1 (by decide), X3_addOne_s (f := ctk) (u := tk a) (hC.2.2.2.2.2.2.2.2.2) k0 k1 (hA.2.2.2.2.2.2.2.2 _ (by omega)), b_some, if_pos s5, gz_1] at et
    refine ⟨nm, (1, cjd, jc, rounds, cdn, home, noise, cfw, upd ctk (2 * V 0 + V 1) (nI (tk a (2 * V 0 + V 1) + 1)), cbl, bc), e1, et, rfl, ⟨hA.1, hA.2.1, hA.2.2.1, hA.2.2.2.1, hA.2.2.2.2.1, hA.2.2.2.2.2.1, hA.2.2.2.2.2.2.1, hA.2.2.2.2.2.2.2.1, fun r hr => ?_⟩, ⟨hC.1, hC.2.1, hC.2.2.1, hC.2.2.2.1, hC.2.2.2.2.1, hC.2.2.2.2.2.1, hC.2.2.2.2.2.2.1, hC.2.2.2.2.2.2.2.1, hC.2.2.2.2.2.2.2.2.1, fun k hk => ?_⟩⟩
    · have hsr := hA.2.2.2.2.2.2.2.2 r hr
      have s5 : tk a (2 * V 0) + tk a (2 * V 0 + 1) < 3 := s5
      show (if 2 * r = 2 * V 0 + V 1 then tk a (2 * r) + 1 else tk a (2 * r)) + (if 2 * r + 1 = 2 * V 0 + V 1 then tk a (2 * r + 1) + 1 else tk a (2 * r + 1)) ≤ 3
      by_cases hr0 : r = V 0
      · rw [hr0]
        split <;> split <;> omega
      · rw [if_neg (by omega), if_neg (by omega)]
        exact hsr
    · show upd ctk (2 * V 0 + V 1) (nI (tk a (2 * V 0 + V 1) + 1)) k = nI (if k = 2 * V 0 + V 1 then tk a k + 1 else tk a k)
      by_cases hk2 : k = 2 * V 0 + V 1
      · rw [hk2, upd_s, if_pos rfl]
      · rw [upd_n hk2, if_neg hk2]
        exact hC.2.2.2.2.2.2.2.2.2 k hk
  · obtain ⟨nm, e1, e2⟩ := rd_item hB hn (q := 5) (by omega) rfl rfl s3 hat nums
    subst s4
    have k0 : V 0 ≤ 1 := (s3 0 (by omega) (by omega)).2
    have k1 : V 1 ≤ 9 := (s3 1 (by omega) (by omega)).2
    refine ⟨nm, (1, cjd, jc, rounds, cdn, nI (V 0), nI (V 1), cfw, ctk, cbl, bc), e1, ?_, rfl, ⟨hA.1, hA.2.1, hA.2.2.1, ⟨k0, k1⟩, hA.2.2.2.2⟩, ⟨hC.1, rfl, rfl, hC.2.2.2⟩⟩
    unfold mX3_take
    rw [if_neg (by decide), if_neg (by decide), if_neg (by decide), if_pos (by decide), lb_d, lb_d]
    show some (1, cjd, jc, rounds, cdn, nm 0, nm 1, cfw, ctk, cbl, bc) = _
    rw [e2 0 (by decide), e2 1 (by decide)]
  · obtain ⟨nm, e1, e2⟩ := rd_item hB hn (q := 6) (by omega) rfl rfl s3 hat nums
    have hjc := hC.2.2.2.2.1
    subst s4 hjc
    have hK : aJ a ≤ 8 := hA.2.2.1
    have et : mX3_take (nI 106) rounds home noise bc (nI (aJ a)) cbl cdn cfw cjd ctk nm = (mX3_addJudge (nI (aJ a)) cjd nm).bind fun o9 => gz o9.1 <| some (o9.1, o9.2.1, o9.2.2, rounds, cdn, home, noise, cfw, ctk, cbl, bc) := by
      unfold mX3_take
      rw [if_neg (by decide), if_neg (by decide), if_neg (by decide), if_neg (by decide), if_neg (by decide), if_neg (by decide)]
      all_goals rfl
    rw [X3_addJudge_s hK nm cjd, b_some] at et
    rw [if_pos s5, gz_1] at et
    have hv : ∀ k, k < 7 → loL.getD (15 + k) 0 ≤ V k ∧ V k ≤ hiL.getD (15 + k) 0 := fun k hk => s3 k (by omega) hk
    refine ⟨nm, (1, va_cpy nm cjd 0 (aJ a * 7) 7, nI (aJ a + 1), rounds, cdn, home, noise, cfw, ctk, cbl, bc), e1, et, rfl, ⟨hA.1, hA.2.1, by show aJ a + 1 ≤ 8; omega, hA.2.2.2.1, hA.2.2.2.2.1, fun k hk => ?_, hA.2.2.2.2.2.2⟩, ⟨hC.1, hC.2.1, hC.2.2.1, hC.2.2.2.1, rfl, hC.2.2.2.2.2.1, fun k hk => ?_, hC.2.2.2.2.2.2.2⟩⟩
    · show okJd (fun k => if 7 * aJ a ≤ k ∧ k < 7 * aJ a + 7 then V (k - 7 * aJ a) else jd a k) k
      have hk2 : k < aJ a + 1 := hk
      unfold okJd
      dsimp only
      by_cases hkB : k = aJ a
      · subst hkB
        rw [if_pos (by omega), if_pos (by omega), if_pos (by omega), if_pos (by omega), if_pos (by omega), if_pos (by omega), if_pos (by omega), show 7 * aJ a - 7 * aJ a = 0 by omega, show 7 * aJ a + 1 - 7 * aJ a = 1 by omega, show 7 * aJ a + 2 - 7 * aJ a = 2 by omega, show 7 * aJ a + 3 - 7 * aJ a = 3 by omega, show 7 * aJ a + 4 - 7 * aJ a = 4 by omega, show 7 * aJ a + 5 - 7 * aJ a = 5 by omega, show 7 * aJ a + 6 - 7 * aJ a = 6 by omega]
        have w0 : V 0 ≤ 11 := (hv 0 (by omega)).2
        have w1 : V 1 ≤ 9 := (hv 1 (by omega)).2
        have w2 : V 2 ≤ 9 := (hv 2 (by omega)).2
        have w3 : V 3 ≤ 40 := (hv 3 (by omega)).2
        have w4 : 1 ≤ V 4 ∧ V 4 ≤ 9 := hv 4 (by omega)
        have w5 : V 5 ≤ 9 := (hv 5 (by omega)).2
        have w6 : V 6 ≤ 99 := (hv 6 (by omega)).2
        omega
      · have hb := hA.2.2.2.2.2.1 k (by omega)
        unfold okJd at hb
        rw [if_neg (by omega), if_neg (by omega), if_neg (by omega), if_neg (by omega), if_neg (by omega), if_neg (by omega), if_neg (by omega)]
        exact hb
    · have hk2 : k < 7 * (aJ a + 1) := hk
      show va_cpy nm cjd 0 (aJ a * 7) 7 k = nI (if 7 * aJ a ≤ k ∧ k < 7 * aJ a + 7 then V (k - 7 * aJ a) else jd a k)
      unfold va_cpy
      by_cases hkB : 7 * aJ a ≤ k ∧ k < 7 * aJ a + 7
      · rw [if_pos (by omega), if_pos hkB, show 0 + (k - aJ a * 7) = k - 7 * aJ a by omega]
        exact e2 _ (show k - 7 * aJ a < 7 by omega)
      · rw [if_neg (by omega), if_neg hkB]
        exact hC.2.2.2.2.2.2.1 k (by omega)
def Run : AT → List IT → AT → Prop
  | a, [], b => b = a
  | a, it :: its, b => ∃ c, Step a it c ∧ Run c its b
theorem Run_app : ∀ (xs ys : List IT) (a b c : AT), Run a xs b → Run b ys c → Run a (xs ++ ys) c
  | [], ys, a, b, c, h, h2 => by
    have h : b = a := h
    subst h
    exact h2
  | x :: xs, ys, a, b, c, h, h2 => by
    obtain ⟨d, h3, h4⟩ := h
    exact ⟨d, h3, Run_app xs ys d b c h4 h2⟩
theorem Run_one {a b c : AT} {xs : List IT} {x : IT} (h : Run a xs b) (hs : Step b x c) : Run a (xs ++ [x]) c := Run_app xs [x] a b c h ⟨c, hs, rfl⟩
theorem itemL_pos (it : IT) : 1 ≤ (itemL it).length := Nat.succ_le_succ (Nat.zero_le _)
theorem read_run {n : Nat} {t : Nat → Nat} {bytes : Nat → Int32} (hB : TB n t bytes (fun k => nI (t k))) (hn : n ≤ 500) {b : AT} : ∀ (its : List IT) (l p m1 : Nat) {a : AT} {rounds home noise bc jc : Int32} {cbl cjd cfw cdn ctk : Nat → Int32} (nums : Nat → Int32), n - p < m1 → p + (txtL its).length = n → l ≤ p → AtL n t p (txtL its) → OKD a → Run a its b → RCr a rounds home noise bc jc cbl cjd cfw cdn ctk → ∃ oc : OC, mX6_readInto_L11 (nI n) bytes m1 (nI l) rounds home noise bc jc cfw cdn ctk (nI p) nums cjd cbl = some oc ∧ oc.1 = -4 ∧ OKD b ∧ OC1 b oc
  | [], l, p, m1, a, rounds, home, noise, bc, jc, cbl, cjd, cfw, cdn, ctk, nums, hm, hp, hl, hat, hA, hr, hC => by
    have hr : b = a := hr
    have hp : p + 0 = n := hp
    subst hr
    obtain ⟨m1, rfl⟩ : ∃ q, m1 = q + 1 := ⟨m1 - 1, by omega⟩
    refine ⟨(-4, rounds, home, noise, bc, jc, cfw, cdn, ctk, nI p, nums, cjd, cbl), ?_, rfl, hA, hC⟩
    rw [eX6_readInto_11]
    unfold mX6_readInto_B11
    rw [if_pos (show nI n ≤ nI p from (n_le (by omega) (by omega)).mpr (by omega)), ite_self]
  | it :: its, l, p, m1, a, rounds, home, noise, bc, jc, cbl, cjd, cfw, cdn, ctk, nums, hm, hp, hl, hat, hA, hr, hC => by
    obtain ⟨c, hs, hr⟩ := hr
    have hat : AtL n t p (itemL it ++ txtL its) := hat
    have hp : p + (itemL it ++ txtL its).length = n := hp
    rw [List.length_append] at hp
    have hpos := itemL_pos it
    obtain ⟨m1, rfl⟩ : ∃ q, m1 = q + 1 := ⟨m1 - 1, by omega⟩
    obtain ⟨nm, ot, e1, e2, e3, e4, e5⟩ := step_ok hB hn hA hs hat.left hC nums
    obtain ⟨oc, f1, f2⟩ := read_run hB hn its (l + 1) (p + (itemL it).length) m1 nm (by omega) (by omega) (by omega) hat.right e4 hr e5
    refine ⟨oc, ?_, f2⟩
    rw [eX6_readInto_11]
    unfold mX6_readInto_B11
    rw [if_neg (show ¬ (500 : Int32) ≤ nI l from fun hh => absurd ((n_le (a := 500) (by omega) (by omega)).mp hh) (by omega)), if_neg (show ¬ nI n ≤ nI p from fun hh => absurd ((n_le (by omega) (by omega)).mp hh) (by omega)), e1, b_some, if_neg (show ¬ (1 : Int32) = 0 by decide), X8_byteAt_s hB hn (by omega), b_some, if_pos (by omega), e2, b_some, if_neg (show ¬ ot.1 = 0 by rw [e3]; decide), nI_1, lb_d]
    exact f1
