/-! API J: rows of what the others were told -/
def insR (rv : Nat → Int) (p : Nat) (x : Int) : Nat → Int := fun k => if k < p then rv k else if k = p then x else rv (k - 1)
theorem put_s {rv : Nat → Int} {x : Int} {c : Nat} (hc : c < 6) (hv : ∀ k, k < c → -21 ≤ rv k ∧ rv k ≤ 20) (hx : -21 ≤ x ∧ x ≤ 20) : ∀ (l n : Nat) (f : Nat → Int32), l ≤ c → l < n → (∀ k, k ≤ c → k ≠ l → f k = iI (insR rv l x k)) → (∀ k, l ≤ k → k < c → x < rv k) → ∃ (p : Nat) (g : Nat → Int32), p ≤ c ∧ (∀ k, p ≤ k → k < c → x < rv k) ∧ (p = 0 ∨ rv (p - 1) ≤ x) ∧ (∀ k, k < c + 1 → g k = iI (insR rv p x k)) ∧ mX9_putIntoRow_L5 (iI x) n (nI l) f (nI c) = some (g, nI (c + 1)) := by
  intro l
  have fin : ∀ (l : Nat) (f : Nat → Int32), l ≤ c → (∀ k, k ≤ c → k ≠ l → f k = iI (insR rv l x k)) → ∀ k, k < c + 1 → upd f l (iI x) k = iI (insR rv l x k) := by
    intro l f hl hf k hk
    rw [upd_d]
    by_cases h : k = l
    · rw [if_pos h, h]
      unfold insR
      rw [if_neg (by omega), if_pos rfl]
    · rw [if_neg h]
      exact hf k (by omega) h
  have b41 : ∀ (l : Nat) (f : Nat → Int32), l ≤ c → mX9_putIntoRow_B41 (iI x) (nI l) f (nI c) = some (upd f l (iI x), nI (c + 1)) := by
    intro l f hl
    unfold mX9_putIntoRow_B41
    simp only [gi_n (show l < 6 by omega) (show 6 ≤ 2147483648 by omega), lb_d, n_cl (show l < 2147483648 by omega), n_lit 1, n_add]
  induction l with
  | zero =>
    intro n f hl hn hf hs
    obtain ⟨n, rfl⟩ : ∃ q, n = q + 1 := ⟨n - 1, by omega⟩
    refine ⟨0, upd f 0 (iI x), by omega, hs, Or.inl rfl, fin 0 f hl hf, ?_⟩
    rw [eX9_putIntoRow_5]
    unfold mX9_putIntoRow_B5
    rw [if_pos (show nI 0 ≤ (0 : Int32) by decide)]
    exact b41 0 f hl
  | succ l ih =>
    intro n f hl hn hf hs
    obtain ⟨n, rfl⟩ : ∃ q, n = q + 1 := ⟨n - 1, by omega⟩
    have hv' := hv l (by omega)
    have e1 : nI (l + 1) - (1 : Int32) = nI l := by rw [n_lit 1, n_sub (by omega)]; rfl
    have e2 : nI (l + 1) + (-1 : Int32) = nI l := by rw [← Int32.sub_eq_add_neg]; exact e1
    have e3 : f l = iI (rv l) := by
      rw [hf l (by omega) (by omega)]
      unfold insR
      rw [if_pos (by omega)]
    rw [eX9_putIntoRow_5]
    unfold mX9_putIntoRow_B5
    rw [n_lit 0, if_neg (fun hh => absurd ((n_le (by omega) (by omega)).mp hh) (by omega)), e1]
    simp only [gi_n (show l < 6 by omega) (show 6 ≤ 2147483648 by omega), lb_d, n_cl (show l < 2147483648 by omega), e2, e3, gi_n (show l + 1 < 6 by omega) (show 6 ≤ 2147483648 by omega), n_cl (show l + 1 < 2147483648 by omega)]
    by_cases c1 : rv l ≤ x
    · rw [if_pos ((iI_le (by omega) (by omega) (by omega) (by omega)).mpr c1)]
      exact ⟨l + 1, upd f (l + 1) (iI x), hl, hs, Or.inr c1, fin (l + 1) f hl hf, b41 (l + 1) f hl⟩
    · rw [if_neg (fun hh => c1 ((iI_le (by omega) (by omega) (by omega) (by omega)).mp hh))]
      refine ih n (upd f (l + 1) (iI (rv l))) (by omega) (by omega) (fun k hk hk2 => ?_) (fun k hk hk2 => ?_)
      · rw [upd_d]
        by_cases h : k = l + 1
        · rw [if_pos h, h]
          unfold insR
          rw [if_neg (by omega), if_neg (by omega)]
          rfl
        · rw [if_neg h, hf k hk h]
          unfold insR
          by_cases h3 : k < l
          · rw [if_pos h3, if_pos (by omega)]
          · rw [if_neg h3, if_neg hk2, if_neg (by omega), if_neg h]
      · by_cases h : k = l
        · rw [h]; omega
        · exact hs k (by omega) hk2
theorem sZ_last (g : Nat → Int) : ∀ (d i : Nat), sZ g i (d + 1) = sZ g i d + g (i + d) := by
  intro d
  induction d with
  | zero => intro i; show g i + 0 = 0 + g (i + 0); rw [Nat.add_zero]; omega
  | succ d ih =>
    intro i
    have h := ih (i + 1)
    show g i + sZ g (i + 1) (d + 1) = (g i + sZ g (i + 1) d) + g (i + (d + 1))
    rw [h, show i + 1 + d = i + (d + 1) by omega]
    omega
theorem sZ_congr {g g' : Nat → Int} : ∀ (d i : Nat), (∀ k, i ≤ k → k < i + d → g k = g' k) → sZ g i d = sZ g' i d := by
  intro d
  induction d with
  | zero => intro i _; rfl
  | succ d ih =>
    intro i h
    show g i + sZ g (i + 1) d = g' i + sZ g' (i + 1) d
    rw [h i (by omega) (by omega), ih (i + 1) (fun k h1 h2 => h k (by omega) (by omega))]
theorem sZ_ins (G : Int → Int) (rv : Nat → Int) (x : Int) (p : Nat) : ∀ c, p ≤ c → sZ (fun k => G (insR rv p x k)) 0 (c + 1) = G x + sZ (fun k => G (rv k)) 0 c := by
  intro c
  induction c with
  | zero =>
    intro h
    have e : p = 0 := by omega
    subst e
    rw [sZ_last]
    show sZ _ 0 0 + G (insR rv 0 x (0 + 0)) = _
    rw [show insR rv 0 x (0 + 0) = x from rfl]
    show (0 : Int) + G x = G x + 0
    omega
  | succ c ih =>
    intro h
    rw [sZ_last]
    by_cases h2 : p = c + 1
    · have e : insR rv p x (0 + (c + 1)) = x := by
        unfold insR
        rw [if_neg (by omega), if_pos (by omega)]
      rw [e, sZ_congr (g' := fun k => G (rv k)) (c + 1) 0 (fun k h3 h4 => by
        show G (insR rv p x k) = G (rv k)
        unfold insR
        rw [if_pos (by omega)])]
      omega
    · have e : insR rv p x (0 + (c + 1)) = rv (0 + c) := by
        unfold insR
        rw [if_neg (by omega), if_neg (by omega), show 0 + (c + 1) - 1 = 0 + c by omega]
      rw [e, ih (by omega), sZ_last]
      show G x + _ + G (rv (0 + c)) = G x + (_ + G (rv (0 + c)))
      omega
def srt (rv : Nat → Int) (c : Nat) : Prop := ∀ a b, a ≤ b → b < c → rv a ≤ rv b
theorem srt_ins {rv : Nat → Int} {x : Int} {c p : Nat} (hs : srt rv c) (hp : p ≤ c) (h1 : ∀ k, p ≤ k → k < c → x < rv k) (h2 : p = 0 ∨ rv (p - 1) ≤ x) : srt (insR rv p x) (c + 1) := by
  intro a b hab hb
  unfold insR
  by_cases ca : a < p
  · rw [if_pos ca]
    have h3 : rv (p - 1) ≤ x := by omega
    have h4 := hs a (p - 1) (by omega) (by omega)
    by_cases cb : b < p
    · rw [if_pos cb]; exact hs a b hab (by omega)
    · rw [if_neg cb]
      by_cases cc : b = p
      · rw [if_pos cc]; omega
      · rw [if_neg cc]; exact hs a (b - 1) (by omega) (by omega)
  · rw [if_neg ca, if_neg (show ¬ b < p by omega)]
    by_cases cc : b = p
    · rw [if_pos cc, if_pos (show a = p by omega)]; omega
    · rw [if_neg cc]
      by_cases cd : a = p
      · rw [if_pos cd]; have := h1 (b - 1) (by omega) (by omega); omega
      · rw [if_neg cd]; exact hs (a - 1) (b - 1) (by omega) (by omega)
def oT (G : Int → Int) (tv : Nat → Int) (p t j : Nat) : Int := if j = p ∨ tv (24 * j + t) = -21 then 0 else G (tv (24 * j + t))
theorem X9_fillRow_s {tv : Nat → Int} {m mt : Nat → Int32} (h : okT tv m mt) {p t : Nat} (hp : p ≤ 5) (ht : t < 24) : ∀ (d i n c : Nat) (rv : Nat → Int) (f : Nat → Int32), i + d = 6 → d < n → c ≤ i → srt rv c → (∀ k, k < c → -20 ≤ rv k ∧ rv k ≤ 20) → (∀ k, k < c → f k = iI (rv k)) → ∃ (c' : Nat) (rv' : Nat → Int) (f' : Nat → Int32), c' ≤ 6 ∧ srt rv' c' ∧ (∀ k, k < c' → -20 ≤ rv' k ∧ rv' k ≤ 20) ∧ (∀ k, k < c' → f' k = iI (rv' k)) ∧ (∀ G : Int → Int, sZ (fun k => G (rv' k)) 0 c' = sZ (fun k => G (rv k)) 0 c + sZ (oT G tv p t) i d) ∧ mX9_fillRow_L7 (nI p) (nI t) m n (nI i) (nI c) f = some (nI c', f') := by
  intro d
  induction d with
  | zero =>
    intro i n c rv f hi hn hc h1 h2 h3
    obtain ⟨n, rfl⟩ : ∃ q, n = q + 1 := ⟨n - 1, by omega⟩
    refine ⟨c, rv, f, by omega, h1, h2, h3, fun G => by show _ = _ + (0 : Int); omega, ?_⟩
    rw [eX9_fillRow_7]
    unfold mX9_fillRow_B7
    rw [n_lit 6, if_pos ((n_le (by omega) (by omega)).mpr (by omega))]
  | succ d ih =>
    intro i n c rv f hi hn hc h1 h2 h3
    obtain ⟨n, rfl⟩ : ∃ q, n = q + 1 := ⟨n - 1, by omega⟩
    have z1 := (h (24 * i + t) (by omega)).1
    rw [eX9_fillRow_7]
    unfold mX9_fillRow_B7
    rw [n_lit 6, if_neg (fun hh => absurd ((n_le (by omega) (by omega)).mp hh) (by omega))]
    have skip : (i = p ∨ tv (24 * i + t) = -21) → ∃ (c' : Nat) (rv' : Nat → Int) (f' : Nat → Int32), c' ≤ 6 ∧ srt rv' c' ∧ (∀ k, k < c' → -20 ≤ rv' k ∧ rv' k ≤ 20) ∧ (∀ k, k < c' → f' k = iI (rv' k)) ∧ (∀ G : Int → Int, sZ (fun k => G (rv' k)) 0 c' = sZ (fun k => G (rv k)) 0 c + sZ (oT G tv p t) i (d + 1)) ∧ mX9_fillRow_L7 (nI p) (nI t) m n (nI (i + 1)) (nI c) f = some (nI c', f') := by
      intro hc'
      obtain ⟨c', rv', f', k1, k2, k3, k4, k5, k6⟩ := ih (i + 1) n c rv f (by omega) (by omega) (by omega) h1 h2 h3
      refine ⟨c', rv', f', k1, k2, k3, k4, fun G => ?_, k6⟩
      rw [k5 G]
      show _ = _ + (oT G tv p t i + sZ (oT G tv p t) (i + 1) d)
      have e : oT G tv p t i = 0 := by unfold oT; rw [if_pos hc']
      rw [e]; omega
    by_cases c1 : i = p
    · rw [if_pos (by rw [c1]), lb_d, n_lit 1, n_add]
      exact skip (Or.inl c1)
    · rw [if_neg (fun hh => c1 ((n_eq (by omega) (by omega)).mp hh)), X5_isTold_s h (by omega) ht, b_some]
      by_cases c2 : tv (24 * i + t) = -21
      · rw [if_pos c2, if_pos rfl, lb_d, n_lit 1, n_add]
        exact skip (Or.inr c2)
      · rw [if_neg c2, if_neg (show ¬ (1 : Int32) = 0 by decide), X5_toldOf_s h (by omega) ht, b_some]
        obtain ⟨u, g, q1, q2, q3, q4, q5⟩ := put_s (rv := rv) (x := tv (24 * i + t)) (c := c) (by omega) (fun k hk => by have := h2 k hk; omega) z1 c FUEL f (by omega) (by unfold FUEL; omega) (fun k hk hk2 => by
          rw [h3 k (by omega)]
          unfold insR
          rw [if_pos (by omega)]) (fun k hk hk2 => by omega)
        unfold mX9_putIntoRow
        rw [q5, b_some, lb_d, n_lit 1, n_add]
        obtain ⟨c', rv', f', k1, k2, k3, k4, k5, k6⟩ := ih (i + 1) n (c + 1) (insR rv u (tv (24 * i + t))) g (by omega) (by omega) (by omega) (srt_ins h1 q1 q2 q3) (fun k hk => by
          unfold insR
          split
          · exact h2 k (by omega)
          · split
            · omega
            · exact h2 (k - 1) (by omega)) q4
        refine ⟨c', rv', f', k1, k2, k3, k4, fun G => ?_, k6⟩
        rw [k5 G, sZ_ins G rv _ u c q1]
        show _ = _ + (oT G tv p t i + sZ (oT G tv p t) (i + 1) d)
        have e : oT G tv p t i = G (tv (24 * i + t)) := by unfold oT; rw [if_neg (by omega)]
        rw [e]; omega
