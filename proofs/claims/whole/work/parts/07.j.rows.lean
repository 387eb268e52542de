/-! API J: rows of what the others were told -/
def insR (rv : Nat → Int) (p : Nat) (x : Int) : Nat → Int := fun k => if k < p then rv k else if k = p then x else rv (k - 1)
theorem put_s {rv : Nat → Int} {x : Int} {c : Nat} (hc : c < 6) (hv : ∀ k, k < c → -21 ≤ rv k ∧ rv k ≤ 20) (hx : -21 ≤ x ∧ x ≤ 20) : ∀ (l n : Nat) (f : Nat → Int32), l ≤ c → l < n → (∀ k, k ≤ c → k ≠ l → f k = iI (insR rv l x k)) → (∀ k, l ≤ k → k < c → x < rv k) → ∃ (p : Nat) (g : Nat → Int32), p ≤ c ∧ (∀ k, p ≤ k → k < c → x < rv k) ∧ (p = 0 ∨ rv (p - 1) ≤ x) ∧ (∀ k, k < c + 1 → g k = iI (insR rv p x k)) ∧ mX9_putIntoRow_L5 (iI x) n (nI l) f (nI c) = some (g, nI (c + 1)) := by
  intro l
  have fin : ∀ (l : Nat) (f : Nat → Int32), l ≤ c → (∀ k, k ≤ c → k ≠ l → f k = iI (insR rv l x k)) → ∀ k, k < c + 1 → upd f l (iI x) k = iI (insR rv l x k) := by
    intro l f hl hf k hk
    rw [upd_d]
    by_cases h : k = l
    · rw [if_pos h, h]
      unfold insR
      rw [if_neg (by omega), if_pos rfl]
    · rw [if_neg h]
      exact hf k (by omega) h
  have b41 : ∀ (l : Nat) (f : Nat → Int32), l ≤ c → mX9_putIntoRow_B41 (iI x) (nI l) f (nI c) = some (upd f l (iI x), nI (c + 1)) := by
    intro l f hl
    unfold mX9_putIntoRow_B41
    simp only [gi_n (show l < 6 by omega) (show 6 ≤ 2147483648 by omega), lb_d, n_cl (show l < 2147483648 by omega), n_lit 1, n_add]
  induction l with
  | zero =>
    intro n f hl hn hf hs
    obtain ⟨n, rfl⟩ : ∃ q, n = q + 1 := ⟨n - 1, by omega⟩
    refine ⟨0, upd f 0 (iI x), by omega, hs, Or.inl rfl, fin 0 f hl hf, ?_⟩
    rw [eX9_putIntoRow_5]
    unfold mX9_putIntoRow_B5
    rw [if_pos (show nI 0 ≤ (0 : Int32) by decide)]
    exact b41 0 f hl
  | succ l ih =>
    intro n f hl hn hf hs
    obtain ⟨n, rfl⟩ : ∃ q, n = q + 1 := ⟨n - 1, by omega⟩
    have hv' := hv l (by omega)
    have e1 : nI (l + 1) - (1 : Int32) = nI l := by rw [n_lit 1, n_sub (by omega)]; rfl
    have e2 : nI (l + 1) + (-1 : Int32) = nI l := by rw [← Int32.sub_eq_add_neg]; exact e1
    have e3 : f l = iI (rv l) := by
      rw [hf l (by omega) (by omega)]
      unfold insR
      rw [if_pos (by omega)]
    rw [eX9_putIntoRow_5]
    unfold mX9_putIntoRow_B5
    rw [n_lit 0, if_neg (fun hh => absurd ((n_le (by omega) (by omega)).mp hh) (by omega)), e1]
    simp only [gi_n (show l < 6 by omega) (show 6 ≤ 2147483648 by omega), lb_d, n_cl (show l < 2147483648 by omega), e2, e3, gi_n (show l + 1 < 6 by omega) (show 6 ≤ 2147483648 by omega), n_cl (show l + 1 < 2147483648 by omega)]
    by_cases c1 : rv l ≤ x
    · rw [if_pos ((iI_le (by omega) (by omega) (by omega) (by omega)).mpr c1)]
      exact ⟨l + 1, upd f (l + 1) (iI x), hl, hs, Or.inr c1, fin (l + 1) f hl hf, b41 (l + 1) f hl⟩
    · rw [if_neg (fun hh => c1 ((iI_le (by omega) (by omega) (by omega) (by omega)).mp hh))]
      refine ih n (upd f (l + 1) (iI (rv l))) (by omega) (by omega) (fun k hk hk2 => ?_) (fun k hk hk2 => ?_)
      · rw [upd_d]
        by_cases h : k = l + 1
        · rw [if_pos h, h]
          unfold insR
          rw [if_neg (by omega), if_neg (by omega)]
          rfl
        · rw [if_neg h, hf k hk h]
          unfold insR
          by_cases h3 : k < l
          · rw [if_pos h3, if_pos (by omega)]
          · rw [if_neg h3, if_neg hk2, if_neg (by omega), if_neg h]
      · by_cases h : k = l
        · rw [h]; omega
        · exact hs k (by omega) hk2
