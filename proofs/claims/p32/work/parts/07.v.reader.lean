/-! READER: numbers -/
def TB (n : Nat) (t : Nat → Nat) (bytes text : Nat → Int32) : Prop := ∀ k, k < n → t k < 256 ∧ text k = nI (t k) ∧ bytes k = Int8.toInt32 (Int32.toInt8 (nI (t k)))
def dig (n : Nat) (t : Nat → Nat) (p : Nat) : Bool := decide (p < n ∧ 48 ≤ t p ∧ t p ≤ 57)
def rdN (n : Nat) (t : Nat → Nat) : Nat → Nat → Nat → Nat → Nat × Nat × Nat
  | 0, p, v, c => (v, c, p)
  | m + 1, p, v, c => if dig n t p = true then rdN n t m (p + 1) (v * 10 + t p - 48) (c + 1) else (v, c, p)
theorem rdN_bd (n : Nat) (t : Nat → Nat) : ∀ (m p v c : Nat), c ≤ (rdN n t m p v c).2.1 ∧ (rdN n t m p v c).2.1 ≤ c + m ∧ (rdN n t m p v c).2.2 + c = p + (rdN n t m p v c).2.1 ∧ (rdN n t m p v c).1 + 1 ≤ 10 ^ m * (v + 1) := by
  intro m
  induction m with
  | zero => intro p v c; exact ⟨Nat.le_refl _, Nat.le_refl _, rfl, by show v + 1 ≤ 10 ^ 0 * (v + 1); omega⟩
  | succ m ih =>
    intro p v c
    unfold rdN
    by_cases h : dig n t p = true
    · rw [if_pos h]
      obtain ⟨h1, h2, h3, h4⟩ := ih (p + 1) (v * 10 + t p - 48) (c + 1)
      unfold dig at h
      have h5 := (of_decide_eq_true h).2.2
      refine ⟨by omega, by omega, by omega, Nat.le_trans h4 ?_⟩
      rw [Nat.pow_succ, Nat.mul_assoc]
      exact Nat.mul_le_mul_left _ (by omega)
    · rw [if_neg h]
      have h6 : 1 ≤ 10 ^ (m + 1) := Nat.pow_pos (by omega)
      exact ⟨Nat.le_refl _, by show c ≤ c + (m + 1); omega, rfl, Nat.le_mul_of_pos_left (v + 1) h6⟩
theorem rdN_next (n : Nat) (t : Nat → Nat) : ∀ (m p v c : Nat), rdN n t (m + 1) p v c = if (rdN n t m p v c).2.1 = c + m ∧ dig n t (rdN n t m p v c).2.2 = true then ((rdN n t m p v c).1 * 10 + t (rdN n t m p v c).2.2 - 48, (rdN n t m p v c).2.1 + 1, (rdN n t m p v c).2.2 + 1) else rdN n t m p v c := by
  intro m
  induction m with
  | zero =>
    intro p v c
    show (if dig n t p = true then (v * 10 + t p - 48, c + 1, p + 1) else (v, c, p)) = if c = c + 0 ∧ dig n t p = true then (v * 10 + t p - 48, c + 1, p + 1) else (v, c, p)
    by_cases h : dig n t p = true
    · rw [if_pos h, if_pos ⟨rfl, h⟩]
    · rw [if_neg h, if_neg (fun hh => h hh.2)]
  | succ m ih =>
    intro p v c
    have e1 : rdN n t (m + 1 + 1) p v c = if dig n t p = true then rdN n t (m + 1) (p + 1) (v * 10 + t p - 48) (c + 1) else (v, c, p) := rfl
    have e2 : rdN n t (m + 1) p v c = if dig n t p = true then rdN n t m (p + 1) (v * 10 + t p - 48) (c + 1) else (v, c, p) := rfl
    rw [e1, e2]
    by_cases h : dig n t p = true
    · rw [if_pos h, if_pos h, ih (p + 1) (v * 10 + t p - 48) (c + 1), show c + 1 + m = c + (m + 1) by omega]
    · rw [if_neg h, if_neg h, if_neg (fun hh => absurd hh.1 (by show ¬ c = c + (m + 1); omega))]
/-- a number and what stands behind it -/
def pNum (n : Nat) (t : Nat → Nat) (p sep : Nat) : Option (Nat × Nat) := if 1 ≤ (rdN n t 3 p 0 0).2.1 ∧ (rdN n t 3 p 0 0).2.2 < n ∧ t (rdN n t 3 p 0 0).2.2 = sep then some ((rdN n t 3 p 0 0).1, (rdN n t 3 p 0 0).2.2 + 1) else none
def pN (n : Nat) (t : Nat → Nat) : Nat → Nat → Nat → (Nat → Nat) → Option ((Nat → Nat) × Nat)
  | 0, p, _, g => some (g, p)
  | d + 1, p, i, g => match pNum n t p (if d = 0 then 59 else 44) with
    | none => none
    | some o => pN n t d o.2 (i + 1) (fun k => if k = i then o.1 else g k)
theorem pNum_bd {n : Nat} {t : Nat → Nat} {p sep : Nat} {o : Nat × Nat} (h : pNum n t p sep = some o) : o.1 ≤ 999 ∧ p < o.2 ∧ o.2 ≤ n := by
  unfold pNum at h
  by_cases c : 1 ≤ (rdN n t 3 p 0 0).2.1 ∧ (rdN n t 3 p 0 0).2.2 < n ∧ t (rdN n t 3 p 0 0).2.2 = sep
  · rw [if_pos c] at h
    have h2 := (Option.some.inj h).symm
    subst h2
    have h3 := rdN_bd n t 3 p 0 0
    exact ⟨by show (rdN n t 3 p 0 0).1 ≤ 999; omega, by show p < (rdN n t 3 p 0 0).2.2 + 1; omega, by show (rdN n t 3 p 0 0).2.2 + 1 ≤ n; omega⟩
  · rw [if_neg c] at h
    cases h
theorem pN_bd {n : Nat} {t : Nat → Nat} : ∀ (d p i : Nat) (g : Nat → Nat) (o), pN n t d p i g = some o → (∀ k, (k < i ∨ i + d ≤ k) → o.1 k = g k) ∧ (∀ k, i ≤ k → k < i + d → o.1 k ≤ 999) ∧ p ≤ o.2 ∧ (1 ≤ d → p < o.2 ∧ o.2 ≤ n) := by
  intro d
  induction d with
  | zero =>
    intro p i g o h
    have h2 := (Option.some.inj h).symm
    subst h2
    exact ⟨fun _ _ => rfl, fun k h1 h2 => absurd h2 (by omega), Nat.le_refl _, fun h => absurd h (by omega)⟩
  | succ d ih =>
    intro p i g o h
    unfold pN at h
    cases hq : pNum n t p (if d = 0 then 59 else 44) with
    | none => rw [hq] at h; cases h
    | some v =>
      rw [hq] at h
      obtain ⟨b1, b2, b3⟩ := pNum_bd hq
      obtain ⟨h1, h2, h3, h4⟩ := ih _ _ _ _ h
      refine ⟨fun k hk => ?_, fun k hk1 hk2 => ?_, by omega, fun _ => ⟨by omega, ?_⟩⟩
      · rw [h1 k (by omega)]
        show (if k = i then v.1 else g k) = g k
        rw [if_neg (by omega)]
      · by_cases hki : k = i
        · rw [h1 k (by omega)]
          show (if k = i then v.1 else g k) ≤ 999
          rw [if_pos hki]
          exact b1
        · exact h2 k (by omega) (by omega)
      · by_cases hd : 1 ≤ d
        · exact (h4 hd).2
        · have hd0 : d = 0 := by omega
          subst hd0
          have h5 := Option.some.inj (show some _ = some o from h)
          rw [← h5]
          exact b3
theorem X8_byteAt_s {n : Nat} {t : Nat → Nat} {bytes text : Nat → Int32} (hB : TB n t bytes text) (hn : n ≤ 500) {p : Nat} (hp : p < 2147483648) : mX8_byteAt (nI p) (nI n) bytes = some (if p < n then nI (t p) else -1) := by
  unfold mX8_byteAt
  rw [if_neg (nI_pos (by omega))]
  by_cases h : p < n
  · obtain ⟨h1, -, h3⟩ := hB p h
    rw [if_neg (fun hh => absurd ((n_le (by omega) (by omega)).mp hh) (by omega)), if_pos h, gi_n (by omega) (by omega), n_cl (by omega), h3, sc_k8 _ h1, lb_d]
  · rw [if_pos ((n_le (by omega) (by omega)).mpr (by omega)), if_neg h]
theorem X11_byteAt_s {n : Nat} {t : Nat → Nat} {bytes text : Nat → Int32} (hB : TB n t bytes text) (hn : n ≤ 500) {p : Nat} (hp : p < 2147483648) : mX11_byteAt (nI p) (nI n) text = some (if p < n then nI (t p) else 0) := by
  unfold mX11_byteAt
  by_cases h : p < n
  · obtain ⟨h1, h2, -⟩ := hB p h
    rw [if_neg (fun hh => absurd ((n_le (by omega) (by omega)).mp hh) (by omega)), if_pos h, gi_n (by omega) (by omega), n_cl (by omega), h2, lb_d]
  · rw [if_pos ((n_le (by omega) (by omega)).mpr (by omega)), if_neg h]
theorem dig_if {n : Nat} {t : Nat → Nat} {p : Nat} (ht : p < n → t p < 256) {x : Int32} (hx : x = -1 ∨ x = 0) : (((48 : Int32) ≤ (if p < n then nI (t p) else x)) ∧ (if p < n then nI (t p) else x) ≤ (57 : Int32)) ↔ dig n t p = true := by
  unfold dig
  rw [decide_eq_true_eq, n_lit 48, n_lit 57]
  by_cases h : p < n
  · have h1 := ht h
    rw [if_pos h, n_le (by omega) (by omega), n_le (by omega) (by omega)]
    exact ⟨fun hh => ⟨h, hh⟩, fun hh => hh.2⟩
  · rw [if_neg h]
    refine ⟨fun hh => ?_, fun hh => absurd hh.1 h⟩
    rcases hx with hx | hx <;> subst hx <;> exact absurd hh.1 (by decide)
theorem X8_dig_s {n : Nat} {t : Nat → Nat} {bytes text : Nat → Int32} (hB : TB n t bytes text) (p : Nat) : mX10_within (if p < n then nI (t p) else -1) 48 57 = some (if dig n t p = true then 1 else 0) := by
  rw [X10_within_s]
  refine congrArg some (if_cg ?_ 1 0)
  exact dig_if (fun h => (hB p h).1) (Or.inl rfl)
theorem X11_dig_s {n : Nat} {t : Nat → Nat} {bytes text : Nat → Int32} (hB : TB n t bytes text) (p : Nat) : mX11_in (Int32.toInt64 (if p < n then nI (t p) else 0)) (48 : Int64) (57 : Int64) = some (if dig n t p = true then 1 else 0) := by
  rw [in_wl 48 57 (by decide) (by decide), X10_within_s]
  refine congrArg some (if_cg ?_ 1 0)
  exact dig_if (fun h => (hB p h).1) (Or.inr rfl)
theorem sep_if {n : Nat} {t : Nat → Nat} {p sep : Nat} (ht : p < n → t p < 256) (hs : sep = 59 ∨ sep = 44) {x : Int32} (hx : x = -1 ∨ x = 0) : (if p < n then nI (t p) else x) = nI sep ↔ (p < n ∧ t p = sep) := by
  by_cases h : p < n
  · have h1 := ht h
    rw [if_pos h, n_eq (by omega) (by omega)]
    exact ⟨fun hh => ⟨h, hh⟩, fun hh => hh.2⟩
  · rw [if_neg h]
    refine ⟨fun hh => ?_, fun hh => absurd hh.1 h⟩
    rcases hx with hx | hx <;> rcases hs with hs | hs <;> subst hx <;> subst hs <;> exact absurd hh (by decide)
theorem dig_p {n : Nat} {t : Nat → Nat} {p : Nat} (h : dig n t p = true) : p < n ∧ 48 ≤ t p ∧ t p ≤ 57 := by unfold dig at h; exact of_decide_eq_true h
theorem X6_readNumber_4 {n : Nat} {t : Nat → Nat} {bytes text : Nat → Int32} (hB : TB n t bytes text) (hn : n ≤ 500) : ∀ (m c p v f : Nat), m + c = 3 → p < 100000 → m < f → mX6_readNumber_L4 (nI n) bytes f (nI v) (nI c) (nI p) = mX6_readNumber_B66 (nI n) bytes (nI (rdN n t m p v c).1) (nI (rdN n t m p v c).2.1) (nI (rdN n t m p v c).2.2) := by
  intro m
  induction m with
  | zero =>
    intro c p v f hm hp hf
    obtain ⟨f, rfl⟩ : ∃ q, f = q + 1 := ⟨f - 1, by omega⟩
    rw [eX6_readNumber_4]
    unfold mX6_readNumber_B4
    rw [n_lit 3, if_pos ((n_le (by omega) (by omega)).mpr (by omega))]
    rfl
  | succ m ih =>
    intro c p v f hm hp hf
    obtain ⟨f, rfl⟩ : ∃ q, f = q + 1 := ⟨f - 1, by omega⟩
    rw [eX6_readNumber_4]
    unfold mX6_readNumber_B4 rdN
    rw [n_lit 3, if_neg (fun hh => absurd ((n_le (a := 3) (by omega) (by omega)).mp hh) (by omega)), X8_byteAt_s hB hn (by omega), b_some, X8_dig_s hB p, b_some, if10, b_some]
    by_cases h : dig n t p = true
    · have h2 := dig_p h
      rw [if_pos h, if_pos h, if_pos h2.1, n_lit 10, n_lit 48, n_lit 1, n_mul, n_add, n_sub (by omega), n_add, n_add, lb_d, lb_d, lb_d]
      exact ih (c + 1) (p + 1) _ f (by omega) (by omega) (by omega)
    · rw [if_neg h, if_neg h]
theorem X6_readNumber_s {n : Nat} {t : Nat → Nat} {bytes text : Nat → Int32} (hB : TB n t bytes text) (hn : n ≤ 500) {p : Nat} (hp : p < 100000) : mX6_readNumber (nI p) (nI n) bytes = some (if (rdN n t 3 p 0 0).2.1 = 0 then -1 else nI (rdN n t 3 p 0 0).1, nI (rdN n t 3 p 0 0).2.2) := by
  have h3 := rdN_bd n t 3 p 0 0
  unfold mX6_readNumber
  refine (X6_readNumber_4 hB hn 3 0 p 0 FUEL (by omega) hp (by unfold FUEL; omega)).trans ?_
  generalize rdN n t 3 p 0 0 = r at h3
  obtain ⟨v, c, q⟩ := r
  show mX6_readNumber_B66 (nI n) bytes (nI v) (nI c) (nI q) = some (if c = 0 then -1 else nI v, nI q)
  have h4 : c ≤ 3 := by have := h3.2.1; omega
  unfold mX6_readNumber_B66
  by_cases c0 : c = 0
  · subst c0
    rfl
  · rw [if_neg (show ¬ nI c = 0 from fun hh => c0 ((n_eq (b := 0) (by omega) (by omega)).mp hh)), if_neg c0]
theorem X11_figures_12 {n : Nat} {t : Nat → Nat} {bytes text : Nat → Int32} (hB : TB n t bytes text) (hn : n ≤ 500) (x0 : Int32) (k2) (i : Nat) (told : Nat → Int32) : ∀ (m c p v f : Nat), m + c = 4 → p < 100000 → m < f → mX11_figures_L12 x0 (nI n) text k2 f (nI i) (nI c) (nI v) (nI p) told = mX11_figures_B73 x0 (nI n) text k2 (nI i) (nI (rdN n t m p v c).2.1) (nI (rdN n t m p v c).1) (nI (rdN n t m p v c).2.2) told := by
  intro m
  induction m with
  | zero =>
    intro c p v f hm hp hf
    obtain ⟨f, rfl⟩ : ∃ q, f = q + 1 := ⟨f - 1, by omega⟩
    rw [eX11_figures_12]
    unfold mX11_figures_B12
    rw [X11_byteAt_s hB hn (by omega), b_some, X11_dig_s hB p, b_some, if10, n_lit 4, if_pos ((n_le (a := 4) (by omega) (by omega)).mpr (by omega)), ite_self]
    rfl
  | succ m ih =>
    intro c p v f hm hp hf
    obtain ⟨f, rfl⟩ : ∃ q, f = q + 1 := ⟨f - 1, by omega⟩
    rw [eX11_figures_12]
    unfold mX11_figures_B12 rdN
    rw [X11_byteAt_s hB hn (by omega), b_some, X11_dig_s hB p, b_some, if10, n_lit 4, if_neg (fun hh => absurd ((n_le (a := 4) (by omega) (by omega)).mp hh) (by omega)), b_some]
    by_cases h : dig n t p = true
    · have h2 := dig_p h
      rw [if_pos h, if_pos h, if_pos h2.1, n_lit 10, n_lit 48, n_lit 1, n_mul, Nat.mul_comm 10 v, n_add, n_sub (by omega), n_add, n_add, lb_d, lb_d, lb_d]
      exact ih (c + 1) (p + 1) _ f (by omega) (by omega) (by omega)
    · rw [if_neg h, if_neg h]
/-- one number of the model -/
theorem X11_figure_s {n : Nat} {t : Nat → Nat} {bytes text : Nat → Int32} (hB : TB n t bytes text) (hn : n ≤ 500) {cnt i : Nat} (hc : cnt ≤ 7) (hi : i < cnt) (k2) (told : Nat → Int32) {p : Nat} (hp : p < 100000) : (pNum n t p (if cnt - 1 ≤ i then 59 else 44) = none ∧ ∃ q, mX11_figures_L12 (nI cnt) (nI n) text k2 FUEL (nI i) (nI 0) (nI 0) (nI p) told = some (0, q, told)) ∨ (∃ o, pNum n t p (if cnt - 1 ≤ i then 59 else 44) = some o ∧ mX11_figures_L12 (nI cnt) (nI n) text k2 FUEL (nI i) (nI 0) (nI 0) (nI p) told = k2 (nI (i + 1)) (nI o.2) (upd told i (nI o.1))) := by
  obtain ⟨sep, hsep⟩ : ∃ s, s = (if cnt - 1 ≤ i then 59 else 44) := ⟨_, rfl⟩
  rw [← hsep]
  have h3 := rdN_bd n t 3 p 0 0
  have h4 := rdN_bd n t 4 p 0 0
  have e := rdN_next n t 3 p 0 0
  rw [X11_figures_12 hB hn (nI cnt) k2 i told 4 0 p 0 FUEL (by omega) hp (by unfold FUEL; omega)]
  unfold mX11_figures_B73
  rw [in_wl 1 3 (by decide) (by decide), X10_within_s, b_some, if10]
  by_cases hf : (rdN n t 3 p 0 0).2.1 = 0 + 3 ∧ dig n t (rdN n t 3 p 0 0).2.2 = true
  · rw [if_pos hf] at e
    have hd := dig_p hf.2
    refine Or.inl ⟨?_, nI (rdN n t 4 p 0 0).2.2, ?_⟩
    · unfold pNum
      rw [if_neg]
      intro hh
      have h9 := hh.2.2
      have hs : sep = 59 ∨ sep = 44 := by rw [hsep]; split <;> omega
      omega
    · rw [if_neg]
      intro hh
      have h9 := (n_le (a := (rdN n t 4 p 0 0).2.1) (b := 3) (by omega) (by omega)).mp hh.2
      rw [e] at h9
      have h10 : (rdN n t 3 p 0 0).2.1 + 1 ≤ 3 := h9
      omega
  · rw [if_neg hf] at e
    rw [e]
    have hs : sep = 59 ∨ sep = 44 := by rw [hsep]; split <;> omega
    have e107 : mX11_figures_B107 (nI cnt) (nI n) text k2 (nI i) (nI (rdN n t 3 p 0 0).1) (if (rdN n t 3 p 0 0).2.2 < n then nI (t (rdN n t 3 p 0 0).2.2) else 0) (nI sep) (nI (rdN n t 3 p 0 0).2.2) told = if (rdN n t 3 p 0 0).2.2 < n ∧ t (rdN n t 3 p 0 0).2.2 = sep then k2 (nI (i + 1)) (nI ((rdN n t 3 p 0 0).2.2 + 1)) (upd told i (nI (rdN n t 3 p 0 0).1)) else some (0, nI (rdN n t 3 p 0 0).2.2, told) := by
      unfold mX11_figures_B107
      have hq := sep_if (n := n) (t := t) (p := (rdN n t 3 p 0 0).2.2) (fun h => (hB _ h).1) hs (x := 0) (Or.inr rfl)
      by_cases c : (rdN n t 3 p 0 0).2.2 < n ∧ t (rdN n t 3 p 0 0).2.2 = sep
      · rw [if_pos (hq.mpr c), if_pos c, gi_n (by omega) (by omega), n_lit 1, n_add, n_add, lb_d, lb_d, lb_d, n_cl (by omega)]
      · rw [if_neg (fun hh => c (hq.mp hh)), if_neg c]
    have e99 : (if (nI cnt - (1 : Int32)) ≤ nI i then (mX11_figures_B107 (nI cnt) (nI n) text k2 (nI i) (nI (rdN n t 3 p 0 0).1) (if (rdN n t 3 p 0 0).2.2 < n then nI (t (rdN n t 3 p 0 0).2.2) else 0) (59 : Int32) (nI (rdN n t 3 p 0 0).2.2) told) else (mX11_figures_B107 (nI cnt) (nI n) text k2 (nI i) (nI (rdN n t 3 p 0 0).1) (if (rdN n t 3 p 0 0).2.2 < n then nI (t (rdN n t 3 p 0 0).2.2) else 0) (44 : Int32) (nI (rdN n t 3 p 0 0).2.2) told)) = mX11_figures_B107 (nI cnt) (nI n) text k2 (nI i) (nI (rdN n t 3 p 0 0).1) (if (rdN n t 3 p 0 0).2.2 < n then nI (t (rdN n t 3 p 0 0).2.2) else 0) (nI sep) (nI (rdN n t 3 p 0 0).2.2) told := by
      rw [n_lit 1, n_sub (by omega), hsep]
      by_cases c : cnt - 1 ≤ i
      · rw [if_pos ((n_le (by omega) (by omega)).mpr c), if_pos c]
        rfl
      · rw [if_neg (fun hh => c ((n_le (by omega) (by omega)).mp hh)), if_neg c]
        rfl
    by_cases c : 1 ≤ (rdN n t 3 p 0 0).2.1
    · rw [if_pos ⟨(n_le (a := 1) (by omega) (by omega)).mpr c, (n_le (b := 3) (by omega) (by omega)).mpr (by omega)⟩, X11_byteAt_s hB hn (by omega), b_some, e99, e107]
      unfold pNum
      by_cases c2 : (rdN n t 3 p 0 0).2.2 < n ∧ t (rdN n t 3 p 0 0).2.2 = sep
      · rw [if_pos c2, if_pos ⟨c, c2⟩]
        exact Or.inr ⟨_, rfl, rfl⟩
      · rw [if_neg c2, if_neg (fun hh => c2 hh.2)]
        exact Or.inl ⟨rfl, _, rfl⟩
    · rw [if_neg (fun hh => c ((n_le (a := 1) (by omega) (by omega)).mp hh.1))]
      unfold pNum
      rw [if_neg (fun hh => c hh.1)]
      exact Or.inl ⟨rfl, _, rfl⟩
theorem X11_figures_s {n : Nat} {t : Nat → Nat} {bytes text : Nat → Int32} (hB : TB n t bytes text) (hn : n ≤ 500) {cnt : Nat} (hc : cnt ≤ 7) : ∀ (d i f p : Nat) (g : Nat → Nat) (told : Nat → Int32), i + d = cnt → d < f → p < 50000 → (∀ k, k < i → told k = nI (g k)) → (pN n t d p i g = none ∧ ∃ q told', mX11_figures_L2 (nI cnt) (nI n) text f (nI i) (nI p) told = some (0, q, told')) ∨ (∃ o, pN n t d p i g = some o ∧ ∃ told', mX11_figures_L2 (nI cnt) (nI n) text f (nI i) (nI p) told = some (1, nI o.2, told') ∧ ∀ k, k < cnt → told' k = nI (o.1 k)) := by
  intro d
  induction d with
  | zero =>
    intro i f p g told hi hf hp h
    obtain ⟨f, rfl⟩ : ∃ q, f = q + 1 := ⟨f - 1, by omega⟩
    refine Or.inr ⟨(g, p), rfl, told, ?_, fun k hk => h k (by omega)⟩
    rw [eX11_figures_2]
    unfold mX11_figures_B2
    rw [if_pos ((n_le (by omega) (by omega)).mpr (by omega))]
  | succ d ih =>
    intro i f p g told hi hf hp h
    obtain ⟨f, rfl⟩ : ∃ q, f = q + 1 := ⟨f - 1, by omega⟩
    have e0 : mX11_figures_L2 (nI cnt) (nI n) text (f + 1) (nI i) (nI p) told = mX11_figures_L12 (nI cnt) (nI n) text (mX11_figures_L2 (nI cnt) (nI n) text f) FUEL (nI i) (nI 0) (nI 0) (nI p) told := by
      rw [eX11_figures_2]
      unfold mX11_figures_B2
      rw [if_neg (fun hh => absurd ((n_le (by omega) (by omega)).mp hh) (by omega))]
      rfl
    have es : (if cnt - 1 ≤ i then 59 else 44) = (if d = 0 then 59 else 44) := by
      by_cases hd : d = 0
      · rw [if_pos hd, if_pos (by omega)]
      · rw [if_neg hd, if_neg (by omega)]
    have h1 := X11_figure_s hB hn hc (show i < cnt by omega) (mX11_figures_L2 (nI cnt) (nI n) text f) told (show p < 100000 by omega)
    rw [es] at h1
    rw [e0]
    unfold pN
    rcases h1 with ⟨e1, q, e2⟩ | ⟨o, e1, e2⟩
    · rw [e1, e2]
      exact Or.inl ⟨rfl, q, told, rfl⟩
    · rw [e1, e2]
      have hb := pNum_bd e1
      exact ih (i + 1) f o.2 (fun k => if k = i then o.1 else g k) (upd told i (nI o.1)) (by omega) (by omega) (by omega) (fun k hk => by
        by_cases hki : k = i
        · rw [hki, upd_s]
          show _ = nI (if i = i then o.1 else g i)
          rw [if_pos rfl]
        · rw [upd_n hki, h k (by omega)]
          show _ = nI (if k = i then o.1 else g k)
          rw [if_neg hki])
