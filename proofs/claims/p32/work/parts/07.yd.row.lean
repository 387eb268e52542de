/-! BUTTONS: the row of blows by second -/
theorem seenS_lt2 (a : AT) (k : Nat) : ∀ n, seenS a k n < 2 ^ n := by
  intro n
  induction n with
  | zero => show 0 < 2 ^ 0; omega
  | succ n ih =>
    show seenS a k n ||| (if seesB a n k = true then 1 <<< n else 0) < 2 ^ (n + 1)
    have h1 : seenS a k n < 2 ^ (n + 1) := Nat.lt_of_lt_of_le ih (Nat.pow_le_pow_right (by omega) (by omega))
    have h2 : (if seesB a n k = true then 1 <<< n else 0) < 2 ^ (n + 1) := by
      split
      · rw [Nat.one_shiftLeft]
        exact Nat.pow_lt_pow_right (by omega) (by omega)
      · exact Nat.pow_pos (by omega)
    exact Nat.or_lt_two_pow h1 h2
theorem seenS_bit (a : AT) (k j : Nat) : ∀ n, (seenS a k n).testBit j = decide (j < n ∧ seesB a j k = true) := by
  intro n
  induction n with
  | zero =>
    show (0 : Nat).testBit j = _
    rw [Nat.zero_testBit, decide_eq_false (fun hh => absurd hh.1 (by omega))]
  | succ n ih =>
    show (seenS a k n ||| (if seesB a n k = true then 1 <<< n else 0)).testBit j = _
    rw [Nat.testBit_or, ih]
    have e : (if seesB a n k = true then 1 <<< n else 0).testBit j = decide (n = j ∧ seesB a n k = true) := by
      by_cases h : seesB a n k = true
      · rw [if_pos h, Nat.one_shiftLeft, Nat.testBit_two_pow]
        by_cases h2 : n = j
        · rw [decide_eq_true h2, decide_eq_true ⟨h2, h⟩]
        · rw [decide_eq_false h2, decide_eq_false (fun hh => h2 hh.1)]
      · rw [if_neg h, Nat.zero_testBit, decide_eq_false (fun hh => h hh.2)]
    rw [e]
    by_cases h3 : j < n ∧ seesB a j k = true
    · rw [decide_eq_true h3, decide_eq_true (show j < n + 1 ∧ seesB a j k = true from ⟨by omega, h3.2⟩), Bool.true_or]
    · rw [decide_eq_false h3, Bool.false_or]
      by_cases h2 : n = j ∧ seesB a n k = true
      · have h4 : j < n + 1 ∧ seesB a j k = true := ⟨by omega, by rw [← h2.1]; exact h2.2⟩
        rw [decide_eq_true h2, decide_eq_true h4]
      · have h4 : ¬ (j < n + 1 ∧ seesB a j k = true) := by
          intro hh
          by_cases hj : j = n
          · exact h2 ⟨hj.symm, by rw [← hj]; exact hh.2⟩
          · exact h3 ⟨by omega, hh.2⟩
        rw [decide_eq_false h2, decide_eq_false h4]
theorem bit_tab : ∀ v, v < 256 → ∀ j, j < 8 → ((nI v >>> (nI j &&& 31)) &&& (1 : Int32)) = (if v.testBit j = true then 1 else 0) := by decide +kernel
theorem X3_isSeen_s {a : AT} {seenBy sums leads : Nat → Int32} (hA : OKD a) (hS : RCs a seenBy sums leads) {j k : Nat} (hj : j < aJ a) (hk : k < aB a) : mX3_isSeen (nI j) (nI k) seenBy = some (if seesB a j k = true then 1 else 0) := by
  have hJ := hA.2.2.1
  have hB := hA.2.1
  have hlt : seenS a k (aJ a) < 256 := Nat.lt_of_lt_of_le (seenS_lt2 a k (aJ a)) (show 2 ^ aJ a ≤ 2 ^ 8 from Nat.pow_le_pow_right (by omega) hJ)
  unfold mX3_isSeen
  rw [gi_n (by omega) (by omega), n_cl (by omega), hS.1 k hk, bit_tab _ hlt j (by omega), seenS_bit]
  by_cases h : seesB a j k = true
  · rw [if_pos h, decide_eq_true (show j < aJ a ∧ seesB a j k = true from ⟨hj, h⟩)]
    rfl
  · rw [if_neg h, decide_eq_false (show ¬ (j < aJ a ∧ seesB a j k = true) from fun hh => h hh.2)]
    rfl
def insN (rw' : Nat → Nat) (p k : Nat) : Nat → Nat := fun t => if t < p then rw' t else if t = p then k else rw' (t - 1)
theorem insN_sum (G : Nat → Nat) (rv : Nat → Nat) (p k m : Nat) (hp : p ≤ m) : sF (fun t => G (insN rv p k t)) 0 (m + 1) = sF (fun t => G (rv t)) 0 m + G k := by
  rw [show m + 1 = p + (1 + (m - p)) by omega, sF_app, sF_app, show m = p + (m - p) by omega, sF_app, show p + (m - p) - p = m - p by omega]
  have e1 : sF (fun t => G (insN rv p k t)) 0 p = sF (fun t => G (rv t)) 0 p := sF_cong p 0 (fun t _ ht => by unfold insN; rw [if_pos (by omega)])
  have e2 : sF (fun t => G (insN rv p k t)) (0 + p) 1 = G k := by
    show G (insN rv p k (0 + p)) + 0 = G k
    unfold insN
    rw [if_neg (by omega), if_pos (by omega), Nat.add_zero]
  have e3 : sF (fun t => G (insN rv p k t)) (0 + p + 1) (m - p) = sF (fun t => G (rv t)) (0 + p) (m - p) := by
    rw [sF_shift]
    refine sF_cong _ _ (fun t ht _ => ?_)
    show G (insN rv p k (t + 1)) = G (rv t)
    unfold insN
    rw [if_neg (by omega), if_neg (by omega), Nat.add_sub_cancel]
  rw [e1, e2, e3]
  omega
/-- a row of blows: known, by second, and the sum of anything over it -/
def RowOK (a : AT) (r c d m : Nat) (rv : Nat → Nat) : Prop := m ≤ d ∧ (∀ t, t < m → rv t < aB a) ∧ (∀ s t, s ≤ t → t < m → bl a (5 * rv s + 1) ≤ bl a (5 * rv t + 1)) ∧ ∀ G : Nat → Nat, sF (fun t => G (rv t)) 0 m = sF (fun k => if bl a (5 * k) = r ∧ bl a (5 * k + 2) = c then G k else 0) 0 d
theorem RowOK_skip {a : AT} {r c d m : Nat} {rv : Nat → Nat} (h : RowOK a r c d m rv) (hk : ¬ (bl a (5 * d) = r ∧ bl a (5 * d + 2) = c)) : RowOK a r c (d + 1) m rv := by
  refine ⟨by have := h.1; omega, h.2.1, h.2.2.1, fun G => ?_⟩
  rw [sF_snoc (fun k => if bl a (5 * k) = r ∧ bl a (5 * k + 2) = c then G k else 0) d 0, Nat.zero_add, if_neg hk, h.2.2.2 G]
  rfl
theorem RowOK_put {a : AT} {r c d m p : Nat} {rv : Nat → Nat} (h : RowOK a r c d m rv) (hd : d < aB a) (hk : bl a (5 * d) = r ∧ bl a (5 * d + 2) = c) (hp : p ≤ m) (h1 : ∀ t, p ≤ t → t < m → bl a (5 * d + 1) < bl a (5 * rv t + 1)) (h2 : p = 0 ∨ bl a (5 * rv (p - 1) + 1) ≤ bl a (5 * d + 1)) : RowOK a r c (d + 1) (m + 1) (insN rv p d) := by
  refine ⟨by have := h.1; omega, fun t ht => ?_, fun s t hst ht => ?_, fun G => ?_⟩
  · unfold insN
    by_cases c1 : t < p
    · rw [if_pos c1]
      exact h.2.1 t (by omega)
    · rw [if_neg c1]
      by_cases c2 : t = p
      · rw [if_pos c2]
        exact hd
      · rw [if_neg c2]
        exact h.2.1 (t - 1) (by omega)
  · unfold insN
    by_cases ca : s < p
    · rw [if_pos ca]
      have h3 : bl a (5 * rv (p - 1) + 1) ≤ bl a (5 * d + 1) := by rcases h2 with h2 | h2 <;> omega
      have h4 := h.2.2.1 s (p - 1) (by omega) (by omega)
      by_cases cb : t < p
      · rw [if_pos cb]; exact h.2.2.1 s t hst (by omega)
      · rw [if_neg cb]
        by_cases cc : t = p
        · rw [if_pos cc]; omega
        · rw [if_neg cc]; exact h.2.2.1 s (t - 1) (by omega) (by omega)
    · rw [if_neg ca, if_neg (show ¬ t < p by omega)]
      by_cases cc : t = p
      · rw [if_pos cc, if_pos (show s = p by omega)]; omega
      · rw [if_neg cc]
        by_cases cd : s = p
        · rw [if_pos cd]; have := h1 (t - 1) (by omega) (by omega); omega
        · rw [if_neg cd]; exact h.2.2.1 (s - 1) (t - 1) (by omega) (by omega)
  · rw [sF_snoc (fun k => if bl a (5 * k) = r ∧ bl a (5 * k + 2) = c then G k else 0) d 0, Nat.zero_add, if_pos hk, insN_sum G rv p d m hp, h.2.2.2 G]
theorem X0_put_s {a : AT} {blows : Nat → Int32} (hA : OKD a) (hC : ∀ k, k < 5 * aB a → blows k = nI (bl a k)) {r c d m : Nat} {rv : Nat → Nat} (h : RowOK a r c d m rv) (hd : d < aB a) (hk : bl a (5 * d) = r ∧ bl a (5 * d + 2) = c) {row : Nat → Int32} (hrow : ∀ t, t < m → row t = nI (rv t)) : ∃ row' rv', mX0_putIntoRow (nI d) (nI m) row blows = some (row', nI (m + 1)) ∧ RowOK a r c (d + 1) (m + 1) rv' ∧ ∀ t, t < m + 1 → row' t = nI (rv' t) := by
  have hB := hA.2.1
  have hm := h.1
  have key : ∀ (i f : Nat) (cur : Nat → Int32), i ≤ m → i < f → (∀ t, t < i → cur t = nI (rv t)) → (∀ t, i < t → t ≤ m → cur t = nI (rv (t - 1))) → (∀ t, i ≤ t → t < m → bl a (5 * d + 1) < bl a (5 * rv t + 1)) → ∃ row' rv', mX0_putIntoRow_L5 (nI d) blows f (nI i) cur (nI m) = some (row', nI (m + 1)) ∧ RowOK a r c (d + 1) (m + 1) rv' ∧ ∀ t, t < m + 1 → row' t = nI (rv' t) := by
    intro i
    induction i with
    | zero =>
      intro f cur hi hf h1 h2 h3
      obtain ⟨f, rfl⟩ : ∃ q, f = q + 1 := ⟨f - 1, by omega⟩
      refine ⟨upd cur 0 (nI d), insN rv 0 d, ?_, RowOK_put h hd hk (by omega) h3 (Or.inl rfl), fun t ht => ?_⟩
      · rw [eX0_putIntoRow_5]
        unfold mX0_putIntoRow_B5 mX0_putIntoRow_B57
        rw [if_pos (show nI 0 ≤ (0 : Int32) by decide), gi_n (by omega) (by omega), n_cl (by omega), lb_d, nI_1, lb_d]
      · unfold insN
        rw [if_neg (by omega)]
        by_cases c1 : t = 0
        · rw [c1, upd_s, if_pos rfl]
        · rw [upd_n c1, if_neg c1, h2 t (by omega) (by omega)]
    | succ i ih =>
      intro f cur hi hf h1 h2 h3
      obtain ⟨f, rfl⟩ : ∃ q, f = q + 1 := ⟨f - 1, by omega⟩
      have hb := h.2.1 i (by omega)
      have k1 := hA.2.2.2.2.1 (rv i) hb
      have k2 := hA.2.2.2.2.1 d hd
      unfold okBl at k1 k2
      have e5 : mX0_putIntoRow_L5 (nI d) blows (f + 1) (nI (i + 1)) cur (nI m) = if bl a (5 * rv i + 1) ≤ bl a (5 * d + 1) then mX0_putIntoRow_B57 (nI d) blows (nI (i + 1)) cur (nI m) else mX0_putIntoRow_L5 (nI d) blows f (nI i) (upd cur (i + 1) (nI (rv i))) (nI m) := by
        rw [eX0_putIntoRow_5]
        unfold mX0_putIntoRow_B5
        rw [if_neg (show ¬ nI (i + 1) ≤ (0 : Int32) from fun hh => absurd ((n_le (b := 0) (by omega) (by omega)).mp hh) (by omega)), pk_m1, n_lit 1, n_sub (by omega), Nat.add_sub_cancel, gi_n (by omega) (by omega), n_cl (by omega), h1 i (by omega), X3_blowPart_s hA hC hb (by omega), b_some, X3_blowPart_s hA hC hd (by omega), b_some]
        by_cases c1 : bl a (5 * rv i + 1) ≤ bl a (5 * d + 1)
        · rw [if_pos ((n_le (by omega) (by omega)).mpr c1), if_pos c1]
        · rw [if_neg (fun hh => c1 ((n_le (by omega) (by omega)).mp hh)), if_neg c1, gi_n (by omega) (by omega), gi_n (by omega) (by omega), n_cl (by omega), lb_d, lb_d]
      rw [e5]
      by_cases c1 : bl a (5 * rv i + 1) ≤ bl a (5 * d + 1)
      · rw [if_pos c1]
        refine ⟨upd cur (i + 1) (nI d), insN rv (i + 1) d, ?_, RowOK_put h hd hk (by omega) h3 (Or.inr c1), fun t ht => ?_⟩
        · unfold mX0_putIntoRow_B57
          rw [gi_n (by omega) (by omega), n_cl (by omega), lb_d, nI_1, lb_d]
        · unfold insN
          by_cases c2 : t < i + 1
          · rw [upd_n (by omega), if_pos c2, h1 t c2]
          · rw [if_neg c2]
            by_cases c3 : t = i + 1
            · rw [c3, upd_s, if_pos rfl]
            · rw [upd_n c3, if_neg c3, h2 t (by omega) (by omega)]
      · rw [if_neg c1]
        refine ih f _ (by omega) (by omega) (fun t ht => by rw [upd_n (by omega), h1 t (by omega)]) (fun t ht1 ht2 => ?_) (fun t ht1 ht2 => ?_)
        · by_cases c3 : t = i + 1
          · rw [c3, upd_s, Nat.add_sub_cancel]
          · rw [upd_n c3, h2 t (by omega) ht2]
        · by_cases c3 : t = i
          · rw [c3]; omega
          · exact h3 t (by omega) ht2
  unfold mX0_putIntoRow
  exact key m FUEL row (by omega) (by unfold FUEL; omega) hrow (fun t h1 h2 => absurd h1 (by omega)) (fun t h1 h2 => absurd h1 (by omega))
theorem X0_fill_s {a : AT} {blows : Nat → Int32} (hA : OKD a) (hC : ∀ k, k < 5 * aB a → blows k = nI (bl a k)) {r c : Nat} (hr : r < 12) (hc : c < 2) (rc : Int32) (row : Nat → Int32) : ∃ m row' rv, mX0_fillRow (nI r) (nI c) rc (nI (aB a)) row blows = some (nI m, row') ∧ RowOK a r c (aB a) m rv ∧ ∀ t, t < m → row' t = nI (rv t) := by
  have hB := hA.2.1
  have key : ∀ (d i f m : Nat) (row : Nat → Int32) (rv : Nat → Nat), i + d = aB a → d < f → RowOK a r c i m rv → (∀ t, t < m → row t = nI (rv t)) → ∃ m' row' rv', mX0_fillRow_L7 (nI r) (nI c) (nI (aB a)) blows f (nI i) (nI m) row = some (nI m', row') ∧ RowOK a r c (aB a) m' rv' ∧ ∀ t, t < m' → row' t = nI (rv' t) := by
    intro d
    induction d with
    | zero =>
      intro i f m row rv hi hf h1 h2
      obtain ⟨f, rfl⟩ : ∃ q, f = q + 1 := ⟨f - 1, by omega⟩
      have hi2 : i = aB a := by omega
      subst hi2
      refine ⟨m, row, rv, ?_, h1, h2⟩
      rw [eX0_fillRow_7]
      unfold mX0_fillRow_B7
      rw [if_pos ((n_le (by omega) (by omega)).mpr (by omega))]
    | succ d ih =>
      intro i f m row rv hi hf h1 h2
      obtain ⟨f, rfl⟩ : ∃ q, f = q + 1 := ⟨f - 1, by omega⟩
      have k1 := hA.2.2.2.2.1 i (by omega)
      unfold okBl at k1
      rw [eX0_fillRow_7]
      unfold mX0_fillRow_B7
      rw [if_neg (fun hh => absurd ((n_le (by omega) (by omega)).mp hh) (by omega)), show (0 : Int32) = nI 0 from rfl, n_lit 2, X3_blowPart_s hA hC (by omega) (by omega), b_some, X3_blowPart_s hA hC (by omega) (by omega), Nat.add_zero, nI_1]
      by_cases c1 : bl a (5 * i) = r
      · rw [if_pos ((n_eq (by omega) (by omega)).mpr c1), b_some]
        by_cases c2 : bl a (5 * i + 2) = c
        · rw [if_pos ((n_eq (by omega) (by omega)).mpr c2)]
          obtain ⟨row', rv', e1, e2, e3⟩ := X0_put_s hA hC h1 (show i < aB a by omega) ⟨c1, c2⟩ h2
          rw [e1, b_some, lb_d]
          exact ih (i + 1) f (m + 1) row' rv' (by omega) (by omega) e2 e3
        · rw [if_neg (fun hh => c2 ((n_eq (by omega) (by omega)).mp hh)), lb_d]
          exact ih (i + 1) f m row rv (by omega) (by omega) (RowOK_skip h1 (fun hh => c2 hh.2)) h2
      · rw [if_neg (fun hh => c1 ((n_eq (by omega) (by omega)).mp hh)), lb_d]
        exact ih (i + 1) f m row rv (by omega) (by omega) (RowOK_skip h1 (fun hh => c1 hh.1)) h2
  unfold mX0_fillRow
  exact key (aB a) 0 FUEL 0 row (fun _ => 0) (by omega) (by unfold FUEL; omega) ⟨Nat.le_refl _, fun t ht => absurd ht (by omega), fun s t _ ht => absurd ht (by omega), fun G => rfl⟩ (fun t ht => absurd ht (by omega))
