/-! HIDDEN: the same game, settled before -/
def hidA (t : Nat → Nat) (n : Nat) (z : Int) (q : Nat) : Nat := if Vv (rvN (t (2 * q))) n z ≤ Vv (rvN (t (2 * q + 1))) n z then 0 else 1
def hidV (t : Nat → Nat) (n : Nat) (z : Int) (q : Nat) : Nat := Vv (rvN (t (2 * q + hidA t n z q))) n z
def hidC (t : Nat → Nat) (n : Nat) (z : Int) : Nat := if hidV t n z 1 ≤ hidV t n z 0 then 0 else 1
theorem hidA_le (t : Nat → Nat) (n : Nat) (z : Int) (q : Nat) : hidA t n z q ≤ 1 := by unfold hidA; split <;> omega
theorem hidC_le (t : Nat → Nat) (n : Nat) (z : Int) : hidC t n z ≤ 1 := by unfold hidC; split <;> omega
def hidN (t : Nat → Nat) (n : Nat) (z : Int) (q : Nat) : Nat := if q = 0 then hidV t n z (hidC t n z) else if q = 1 then hidC t n z else hidA t n z (hidC t n z)
theorem X4_fixed_25 {t X l d : Nat} {z : Int} (ht : t ≤ 10) (hX : (X : Int) = 24 + z) (hz1 : -12 ≤ z) (hz2 : z ≤ 12) (hd : l + d + 1 ≤ 12) (x0 : Int32) (k11) {vals : Nat → Int32} (hv : ∀ k : Nat, X - (d + 1) ≤ k → k ≤ X + (d + 1) → vals k = nI (Vv (rvN t) l ((k : Int) - 24))) (av ab : Nat) : ∀ (e i m : Nat) (bf : Nat → Int32), X - d ≤ i → i + e = X + d + 1 → e < m → (∀ k : Nat, X - d ≤ k → k < i → bf k = nI (Vv (rvN t) (l + 1) ((k : Int) - 24))) → ∃ bf' : Nat → Int32, mX4_fixedValue_L25 x0 (iI z) (nI t) k11 m (nI d) (nI i) vals bf av ab = k11 (iI ((d : Int) - 1)) bf' vals ab av ∧ (∀ k : Nat, X - d ≤ k → k ≤ X + d → bf' k = nI (Vv (rvN t) (l + 1) ((k : Int) - 24))) := by
  have hg := rvN_ok ht
  have eX : (24 : Int32) + iI z = nI X := by rw [i_24, iI_add, nI_iI, hX]
  intro e
  induction e with
  | zero =>
    intro i m bf h1 hi hm h2
    obtain ⟨m, rfl⟩ : ∃ q, m = q + 1 := ⟨m - 1, by omega⟩
    refine ⟨bf, ?_, fun k hk hk2 => h2 k hk (by omega)⟩
    rw [eX4_fixedValue_25]
    unfold mX4_fixedValue_B25 mX4_stepBack
    rw [eX, n_add, if_pos ((n_lt (by omega) (by omega)).mpr (by omega)), b_some, i_m1, nI_iI, iI_add, lb_d]
    rfl
  | succ e ih =>
    intro i m bf h1 hi hm h2
    obtain ⟨m, rfl⟩ : ∃ q, m = q + 1 := ⟨m - 1, by omega⟩
    have e1 := hv (i + 1) (by omega) (by omega)
    have e2 := hv (i - 1) (by omega) (by omega)
    rw [show ((i + 1 : Nat) : Int) - 24 = (i : Int) - 24 + 1 by omega] at e1
    rw [show ((i - 1 : Nat) : Int) - 24 = (i : Int) - 24 - 1 by omega] at e2
    obtain ⟨bf', f1, f2⟩ := ih (i + 1) m (upd bf i (nI (Vv (rvN t) (l + 1) ((i : Int) - 24)))) (by omega) (by omega) (by omega) (fun k hk hk2 => by
      by_cases h : k = i
      · rw [h, upd_s]
      · rw [upd_n h, h2 k hk (by omega)])
    refine ⟨bf', ?_, f2⟩
    rw [eX4_fixedValue_25]
    unfold mX4_fixedValue_B25
    rw [eX, n_add, if_neg (fun hh => absurd ((n_lt (by omega) (by omega)).mp hh) (by omega)), n_lit 1, n_add, n_sub (by omega), gi_n (by omega) (by omega), gi_n (by omega) (by omega), n_cl (by omega), n_cl (by omega), e1, e2, X4_roundValue_s ht (Vv_le hg _ _) (Vv_le hg _ _), b_some, gi_n (by omega) (by omega), n_cl (by omega), lb_d, lb_d]
    exact f1
theorem X4_fixed_s {t X n : Nat} {z : Int} (ht : t ≤ 10) (hX : (X : Int) = 24 + z) (hz1 : -12 ≤ z) (hz2 : z ≤ 12) (hn : n ≤ 12) (bf vals : Nat → Int32) (av ab : Nat) : ∃ o, mX4_fixedValue (nI n) (iI z) (nI t) bf vals av ab = some o ∧ o.1 = nI (Vv (rvN t) n z) := by
  have eX : (24 : Int32) + iI z = nI X := by rw [i_24, iI_add, nI_iI, hX]
  have key : ∀ (d m l : Nat) (vals bf : Nat → Int32) (av ab : Nat), l + d = n → d < m → (∀ k : Nat, X - d ≤ k → k ≤ X + d → vals k = nI (Vv (rvN t) l ((k : Int) - 24))) → ∃ o, mX4_fixedValue_L11 (nI n) (iI z) (nI t) m (iI ((d : Int) - 1)) vals bf av ab = some o ∧ o.1 = nI (Vv (rvN t) n z) := by
    intro d
    induction d with
    | zero =>
      intro m l vals bf av ab hl hm hv
      obtain ⟨m, rfl⟩ : ∃ q, m = q + 1 := ⟨m - 1, by omega⟩
      refine ⟨(vals X, vals, bf, av, ab), ?_, ?_⟩
      · rw [eX4_fixedValue_11]
        unfold mX4_fixedValue_B11
        rw [i_0, if_pos ((iI_lt (by omega) (by omega) (by omega) (by omega)).mpr (by omega)), eX, gi_n (by omega) (by omega), n_cl (by omega), lb_d]
      · show vals X = _
        rw [hv X (by omega) (by omega), show (X : Int) - 24 = z by omega, show l = n by omega]
    | succ d ih =>
      intro m l vals bf av ab hl hm hv
      obtain ⟨m, rfl⟩ : ∃ q, m = q + 1 := ⟨m - 1, by omega⟩
      obtain ⟨bf', f1, f2⟩ := X4_fixed_25 ht hX hz1 hz2 (show l + d + 1 ≤ 12 by omega) (nI n) (mX4_fixedValue_L11 (nI n) (iI z) (nI t) m) hv av ab (2 * d + 1) (X - d) FUEL bf (by omega) (by omega) (by unfold FUEL; omega) (fun k hk hk2 => absurd hk2 (by omega))
      obtain ⟨o, g1, g2⟩ := ih m (l + 1) bf' vals ab av (by omega) (by omega) f2
      refine ⟨o, ?_, g2⟩
      rw [eX4_fixedValue_11]
      unfold mX4_fixedValue_B11
      rw [show iI (((d + 1 : Nat) : Int) - 1) = nI d by rw [nI_iI]; congr 1; omega, if_neg (nI_pos (by omega)), eX, n_sub (by omega), lb_d, f1]
      exact g1
  obtain ⟨f, e1, e2⟩ := X4_setEnds_s hn hz1 hz2 hX vals
  unfold mX4_fixedValue
  rw [e1, b_some, lb_d, show nI n - (1 : Int32) = iI ((n : Int) - 1) by rw [nI_iI, i_1, iI_sub]]
  exact key n FUEL 0 f bf av ab (by omega) (by unfold FUEL; omega) e2
theorem X4_answer_g {a b : Nat} (ha : a ≤ 1000000) (hb : b ≤ 1000000) (v o : Int32) : mX4_answer (nI a) (nI b) v o = some (nI (if a ≤ b then 0 else 1), nI (if a ≤ b then a else b)) := by
  unfold mX4_answer mX4_answer_B11 imin
  by_cases h : a ≤ b
  · rw [if_pos ((n_le (by omega) (by omega)).mpr h), if_pos h, if_neg (fun hh => absurd ((n_lt (by omega) (by omega)).mp hh) (by omega)), if_pos h]
    rfl
  · rw [if_neg (fun hh => h ((n_le (by omega) (by omega)).mp hh)), if_neg h, if_pos ((n_lt (by omega) (by omega)).mpr (by omega)), if_neg h]
    rfl
theorem hidV_le {t : Nat → Nat} (ht : ∀ k, k < 4 → t k ≤ 10) (n : Nat) (z : Int) {q : Nat} (hq : q ≤ 1) : hidV t n z q ≤ 1000000 := by
  have := hidA_le t n z q
  exact Vv_le (rvN_ok (ht _ (by omega))) n z
theorem X4_playHidden_s {odds : Nat → Int32} {t : Nat → Nat} (hT : ∀ k, k < 4 → t k ≤ 10 ∧ odds k = nI (t k)) {n : Nat} {z : Int} (hz1 : -12 ≤ z) (hz2 : z ≤ 12) (hn : n ≤ 12) (v zp op : Int32) (bf vals : Nat → Int32) (av ab : Nat) : ∃ o, mX4_playHidden (nI n) (iI z) v zp op bf vals odds av ab = some o ∧ o.2.2.2.2.1 = nI (hidA t n z (hidC t n z)) ∧ o.2.2.2.2.2.1 = nI (hidV t n z (hidC t n z)) ∧ o.2.2.2.2.2.2 = nI (hidC t n z) := by
  obtain ⟨X, hX⟩ : ∃ X : Nat, (X : Int) = 24 + z := ⟨(24 + z).toNat, by omega⟩
  have ht : ∀ k, k < 4 → t k ≤ 10 := fun k hk => (hT k hk).1
  have hb : ∀ k, k < 4 → Vv (rvN (t k)) n z ≤ 1000000 := fun k hk => Vv_le (rvN_ok (ht k hk)) n z
  obtain ⟨o0, e0, f0⟩ := X4_fixed_s (ht 0 (by omega)) hX hz1 hz2 hn bf vals av ab
  obtain ⟨o1, e1, f1⟩ := X4_fixed_s (ht 1 (by omega)) hX hz1 hz2 hn o0.2.2.1 o0.2.1 o0.2.2.2.1 o0.2.2.2.2
  obtain ⟨o2, e2, f2⟩ := X4_fixed_s (ht 2 (by omega)) hX hz1 hz2 hn o1.2.2.1 o1.2.1 o1.2.2.2.1 o1.2.2.2.2
  obtain ⟨o3, e3, f3⟩ := X4_fixed_s (ht 3 (by omega)) hX hz1 hz2 hn o2.2.2.1 o2.2.1 o2.2.2.2.1 o2.2.2.2.2
  have g0 : ∀ v o : Int32, mX4_answer (nI (Vv (rvN (t 0)) n z)) (nI (Vv (rvN (t 1)) n z)) v o = some (nI (hidA t n z 0), nI (hidV t n z 0)) := by
    intro v o
    rw [X4_answer_g (hb 0 (by omega)) (hb 1 (by omega))]
    unfold hidV hidA
    by_cases h : Vv (rvN (t 0)) n z ≤ Vv (rvN (t 1)) n z
    · rw [if_pos h, if_pos h]
    · rw [if_neg h, if_neg h]
  have g1 : ∀ v o : Int32, mX4_answer (nI (Vv (rvN (t 2)) n z)) (nI (Vv (rvN (t 3)) n z)) v o = some (nI (hidA t n z 1), nI (hidV t n z 1)) := by
    intro v o
    rw [X4_answer_g (hb 2 (by omega)) (hb 3 (by omega))]
    unfold hidV hidA
    by_cases h : Vv (rvN (t 2)) n z ≤ Vv (rvN (t 3)) n z
    · rw [if_pos h, if_pos h]
    · rw [if_neg h, if_neg h]
  have g2 : mX4_preferHeld (nI (hidV t n z 0)) (nI (hidA t n z 0)) (nI (hidV t n z 1)) zp (nI (hidA t n z 1)) = some (nI (hidC t n z), nI (hidA t n z (hidC t n z)), nI (hidV t n z (hidC t n z))) := by
    have h0 := hidV_le ht n z (show 0 ≤ 1 by omega)
    have h1 := hidV_le ht n z (show 1 ≤ 1 by omega)
    unfold mX4_preferHeld hidC
    by_cases h : hidV t n z 1 ≤ hidV t n z 0
    · rw [if_pos ((n_le (by omega) (by omega)).mpr h), if_pos h]
      rfl
    · rw [if_neg (fun hh => h ((n_le (by omega) (by omega)).mp hh)), if_neg h]
      rfl
  unfold mX4_playHidden
  rw [show (0 : Int32) = nI 0 from rfl, n_lit 1]
  rw [X5_tenths_g hT (by omega) (by omega), b_some, e0, b_some, X5_tenths_g hT (by omega) (by omega), b_some, e1, b_some, f0, f1, g0, b_some, X5_tenths_g hT (by omega) (by omega), b_some, e2, b_some, X5_tenths_g hT (by omega) (by omega), b_some, e3, b_some, f2, f3, g1, b_some]
  simp only []
  rw [g2, b_some]
  exact ⟨_, rfl, rfl, rfl, rfl⟩
theorem X11_always_16 {tens : Nat → Int32} {t : Nat → Nat} (hT : ∀ k, k < 4 → t k ≤ 10 ∧ tens k = nI (t k)) {q o : Nat} (hq : q ≤ 1) (ho : o ≤ 1) (x0 x1 : Int32) (k7) {l : Nat} {vals : Nat → Int32} (hv : ∀ k, k < 51 → vals k = nI (Vx (rvN (t (2 * q + o))) l k)) (w : Nat) : ∀ (d i n : Nat) (nx : Nat → Int32), 1 ≤ i → i + d = 50 → d < n → (∀ k, 1 ≤ k → k < i → nx k = nI (rvN (t (2 * q + o)) (Vx (rvN (t (2 * q + o))) l (k + 1)) (Vx (rvN (t (2 * q + o))) l (k - 1)))) → ∃ vals' nx', mX11_always_L16 x0 x1 (nI q) (nI o) tens k7 n (nI w) (nI i) vals nx = k7 (nI (w + 1)) vals' nx' ∧ ∀ k, k < 51 → vals' k = nI (Vx (rvN (t (2 * q + o))) (l + 1) k) := by
  have hg := rvN_ok (hT (2 * q + o) (by omega)).1
  intro d
  induction d with
  | zero =>
    intro i n nx h1 hi hn h2
    obtain ⟨n, rfl⟩ : ∃ q, n = q + 1 := ⟨n - 1, by omega⟩
    refine ⟨_, nx, ?_, Vx_next hv (fun k hk hk2 => h2 k hk (by omega))⟩
    rw [eX11_always_16]
    unfold mX11_always_B16
    rw [n_lit 50, if_pos ((n_le (by omega) (by omega)).mpr (by omega)), X11_takeNext_s, b_some, n_lit 1, n_add, lb_d]
  | succ d ih =>
    intro i n nx h1 hi hn h2
    obtain ⟨n, rfl⟩ : ∃ q, n = q + 1 := ⟨n - 1, by omega⟩
    have hL := Vx_le hg l (i + 1)
    have hR := Vx_le hg l (i - 1)
    have e1 := hv (i + 1) (by omega)
    have e2 := hv (i - 1) (by omega)
    obtain ⟨vals', nx', f1, f2⟩ := ih (i + 1) n (upd nx i (nI (rvN (t (2 * q + o)) (Vx (rvN (t (2 * q + o))) l (i + 1)) (Vx (rvN (t (2 * q + o))) l (i - 1))))) (by omega) (by omega) (by omega) (fun k hk hk2 => by
      by_cases h : k = i
      · rw [h, upd_s]
      · rw [upd_n h, h2 k hk (by omega)])
    refine ⟨vals', nx', ?_, f2⟩
    rw [eX11_always_16]
    unfold mX11_always_B16
    rw [n_lit 50, if_neg (fun hh => absurd ((n_le (a := 50) (by omega) (by omega)).mp hh) (by omega)), X11_roundBy_s hT h1 (by omega) hq ho hL hR e1 e2, b_some, gi_n (by omega) (by omega), n_cl (by omega), lb_d, n_lit 1, n_add, lb_d]
    exact f1
theorem X11_always_s {tens : Nat → Int32} {t : Nat → Nat} (hT : ∀ k, k < 4 → t k ≤ 10 ∧ tens k = nI (t k)) {n q o : Nat} {z : Int} (hn : n ≤ 12) (hz1 : -12 ≤ z) (hz2 : z ≤ 12) (hq : q ≤ 1) (ho : o ≤ 1) (nx vals : Nat → Int32) : ∃ om, mX11_always (nI n) (iI z) (nI q) (nI o) nx tens vals = some om ∧ om.1 = nI (Vv (rvN (t (2 * q + o))) n z) := by
  have key : ∀ (d i m : Nat) (vals nx : Nat → Int32), i + d = n → d < m → (∀ k, k < 51 → vals k = nI (Vx (rvN (t (2 * q + o))) i k)) → ∃ om, mX11_always_L7 (nI n) (iI z) (nI q) (nI o) tens m (nI i) vals nx = some om ∧ om.1 = nI (Vv (rvN (t (2 * q + o))) n z) := by
    intro d
    induction d with
    | zero =>
      intro i m vals nx hi hm hv
      obtain ⟨m, rfl⟩ : ∃ q, m = q + 1 := ⟨m - 1, by omega⟩
      obtain ⟨X, hX⟩ : ∃ X : Nat, (X : Int) = 25 + z := ⟨(25 + z).toNat, by omega⟩
      have eX : (25 : Int32) + iI z = nI X := by rw [i_25, iI_add, nI_iI, hX]
      refine ⟨(vals X, vals, nx), ?_, ?_⟩
      · rw [eX11_always_7]
        unfold mX11_always_B7
        rw [if_pos ((n_le (by omega) (by omega)).mpr (by omega)), eX, gi_n (by omega) (by omega), n_cl (by omega), lb_d]
      · show vals X = _
        rw [hv X (by omega), Vx_s _ _ _ (by omega) (by omega), show (X : Int) - 25 = z by omega, show i = n by omega]
    | succ d ih =>
      intro i m vals nx hi hm hv
      obtain ⟨m, rfl⟩ : ∃ q, m = q + 1 := ⟨m - 1, by omega⟩
      obtain ⟨vals', nx', e1, e2⟩ := X11_always_16 hT hq ho (nI n) (iI z) (mX11_always_L7 (nI n) (iI z) (nI q) (nI o) tens m) hv i 49 1 FUEL nx (by omega) (by omega) (by unfold FUEL; omega) (fun k hk hk2 => absurd hk2 (by omega))
      rw [eX11_always_7]
      unfold mX11_always_B7
      rw [if_neg (fun hh => absurd ((n_le (by omega) (by omega)).mp hh) (by omega)), n_lit 1, e1]
      exact ih (i + 1) m vals' nx' (by omega) (by omega) e2
  obtain ⟨g, e8, e9⟩ := X11_endValues_s vals
  unfold mX11_always
  rw [e8, b_some]
  exact key n 0 FUEL g nx (by omega) (by unfold FUEL; omega) e9
theorem X11_answerA_s {tens : Nat → Int32} {t : Nat → Nat} (hT : ∀ k, k < 4 → t k ≤ 10 ∧ tens k = nI (t k)) {n q : Nat} {z : Int} (hn : n ≤ 12) (hz1 : -12 ≤ z) (hz2 : z ≤ 12) (hq : q ≤ 1) (nx vals : Nat → Int32) : ∃ om, mX11_answerAlways (nI n) (iI z) (nI q) nx tens vals = some om ∧ om.1 = nI (hidA t n z q) := by
  have hb : ∀ k, k < 4 → Vv (rvN (t k)) n z ≤ 1000000 := fun k hk => Vv_le (rvN_ok (hT k hk).1) n z
  have b0 := hb (2 * q) (by omega)
  have b1 := hb (2 * q + 1) (by omega)
  obtain ⟨o1, e1, f1⟩ := X11_always_s hT hn hz1 hz2 hq (show 1 ≤ 1 by omega) nx vals
  obtain ⟨o0, e0, f0⟩ := X11_always_s hT hn hz1 hz2 hq (show 0 ≤ 1 by omega) o1.2.2 o1.2.1
  unfold mX11_answerAlways hidA
  rw [show (1 : Int32) = nI 1 from rfl, show (0 : Int32) = nI 0 from rfl, e1, b_some, e0, b_some, f0, f1, Nat.add_zero]
  by_cases h : Vv (rvN (t (2 * q))) n z ≤ Vv (rvN (t (2 * q + 1))) n z
  · rw [if_pos ((n_le (by omega) (by omega)).mpr h), if_pos h]
    exact ⟨_, rfl, rfl⟩
  · rw [if_neg (fun hh => h ((n_le (by omega) (by omega)).mp hh)), if_neg h]
    exact ⟨_, rfl, rfl⟩
theorem X11_hidden_66 {tens : Nat → Int32} {t : Nat → Nat} (hT : ∀ k, k < 4 → t k ≤ 10 ∧ tens k = nI (t k)) {n q : Nat} {z : Int} (hn : n ≤ 12) (hz1 : -12 ≤ z) (hz2 : z ≤ 12) (hq : q < 3) (nx vals : Nat → Int32) {s : Nat} (hs : s = hidC t n z) : ∃ om, mX11_hidden_B66 (nI n) (iI z) (nI q) tens (nI (hidV t n z 0)) (nI (hidV t n z 1)) (nI s) vals nx = some om ∧ om.1 = nI (hidN t n z q) := by
  subst hs
  have hc := hidC_le t n z
  obtain ⟨o, e, f⟩ := X11_answerA_s hT hn hz1 hz2 hc nx vals
  unfold mX11_hidden_B66 hidN
  rw [show (0 : Int32) = nI 0 from rfl, n_lit 1]
  by_cases h0 : q = 0
  · rw [if_pos ((n_eq (by omega) (by omega)).mpr h0), if_pos h0]
    by_cases h1 : hidC t n z = 1
    · rw [if_pos ((n_eq (by omega) (by omega)).mpr h1), h1]
      exact ⟨_, rfl, rfl⟩
    · rw [if_neg (fun hh => h1 ((n_eq (by omega) (by omega)).mp hh)), show hidC t n z = 0 by omega]
      exact ⟨_, rfl, rfl⟩
  · rw [if_neg (fun hh => h0 ((n_eq (by omega) (by omega)).mp hh)), if_neg h0]
    by_cases h1 : q = 1
    · rw [if_pos ((n_eq (by omega) (by omega)).mpr h1), if_pos h1]
      exact ⟨_, rfl, rfl⟩
    · rw [if_neg (fun hh => h1 ((n_eq (by omega) (by omega)).mp hh)), if_neg h1, e, b_some]
      exact ⟨_, rfl, f⟩
set_option maxRecDepth 100000 in
theorem api_hidden {c_text_length : Int32} {c_text_bytes : Nat → Int32} {c_laid_rounds : Int32} {c_laid_home : Int32} {c_laid_noise : Int32} {c_laid_blowCount : Int32} {c_laid_judgeCount : Int32} {c_laid_blows : Nat → Int32} {c_laid_judges : Nat → Int32} {c_laid_forward : Nat → Int32} {c_laid_downs : Nat → Int32} {c_laid_taken : Nat → Int32} {c_laid_seenBy : Nat → Int32} {c_laid_sums : Nat → Int32} {c_laid_leads : Nat → Int32} {c_bench_watchers : Nat → Int32} {c_notes_delays : Nat → Int32} {c_notes_margins : Nat → Int32} {c_notes_odds : Nat → Int32} {c_kept_0_delays : Nat → Int32} {c_kept_0_margins : Nat → Int32} {c_kept_0_odds : Nat → Int32} {c_kept_1_delays : Nat → Int32} {c_kept_1_margins : Nat → Int32} {c_kept_1_odds : Nat → Int32} {c_keptCount : Int32} {m_length : Int32} {m_text : Nat → Int32} {m_roundMany : Nat → Int32} {m_blowMany : Nat → Int32} {m_blows : Nat → Int32} {m_forwards : Nat → Int32} {m_downs : Nat → Int32} {m_takens : Nat → Int32} {m_homes : Nat → Int32} {m_noises : Nat → Int32} {m_judgeMany : Nat → Int32} {m_judges : Nat → Int32} {m_delays : Nat → Int32} {m_tolds : Nat → Int32} {m_tens : Nat → Int32} {m_keptMany : Int32} (x0 : Int32) (x1 : Int32) (x2 : Int32) (c_game_value : Int32) (c_game_zeroPushes : Int32) (c_game_onePushes : Int32) (c_game_before : Nat → Int32) (c_game_values : Nat → Int32) (ca_game_values : Nat) (ca_game_before : Nat) (m_nextValues : Nat → Int32) (m_values : Nat → Int32) (hR : RR c_text_length c_text_bytes c_laid_rounds c_laid_home c_laid_noise c_laid_blowCount c_laid_judgeCount c_laid_blows c_laid_judges c_laid_forward c_laid_downs c_laid_taken c_laid_seenBy c_laid_sums c_laid_leads c_bench_watchers c_notes_delays c_notes_margins c_notes_odds c_kept_0_delays c_kept_0_margins c_kept_0_odds c_kept_1_delays c_kept_1_margins c_kept_1_odds c_keptCount m_length m_text m_roundMany m_blowMany m_blows m_forwards m_downs m_takens m_homes m_noises m_judgeMany m_judges m_delays m_tolds m_tens m_keptMany) : ∃ (oc : Int32 × (Nat → Int32) × (Nat → Int32) × Nat × Nat × Int32 × Int32 × Int32) (om : Int32 × (Nat → Int32) × (Nat → Int32)), mX10_hidden x0 x1 x2 c_game_value c_game_zeroPushes c_game_onePushes c_game_before c_game_values c_notes_odds ca_game_values ca_game_before = some oc ∧ mX11_hidden x0 x1 x2 m_nextValues m_tens m_values = some om ∧ oc.1 = om.1 := by
  obtain ⟨-, -, -, K, hK, rfl, rfl, h0, h1, h2⟩ := hR
  have hC : ∀ k, k < 4 → (c_notes_odds k).toNatClampNeg ≤ 10 ∧ c_notes_odds k = nI ((c_notes_odds k).toNatClampNeg) := by
    intro k hk
    obtain ⟨v, hv, e1, e2⟩ := h0.2.2 k hk
    rw [e1, n_cl (by omega)]
    exact ⟨hv, rfl⟩
  have hM : ∀ k, k < 4 → (c_notes_odds k).toNatClampNeg ≤ 10 ∧ m_tens k = nI ((c_notes_odds k).toNatClampNeg) := by
    intro k hk
    obtain ⟨v, hv, e1, e2⟩ := h0.2.2 k hk
    rw [Nat.mul_zero, Nat.zero_add] at e2
    rw [e1, n_cl (by omega), e2]
    exact ⟨hv, rfl⟩
  unfold mX10_hidden mX11_hidden
  rw [X10_isGame_s, X11_gameL, b_some, if10]
  by_cases c1 : ((1 : Int32) ≤ x0 ∧ x0 ≤ 12) ∧ ((-12 : Int32) ≤ x1 ∧ x1 ≤ 12)
  · rw [if_pos c1]
    by_cases c3 : (0 : Int32) ≤ x2 ∧ x2 ≤ 2
    · rw [if_pos ⟨c1.1, c1.2, c3⟩, if_pos c3]
      obtain ⟨n, z, q, rfl, rfl, rfl, hn1, hn2, hz1, hz2, hq⟩ := game_in c1 c3
      obtain ⟨o, e1, e2, e3, e4⟩ := X4_playHidden_s hC hz1 hz2 hn2 c_game_value c_game_zeroPushes c_game_onePushes c_game_before c_game_values ca_game_values ca_game_before
      rw [e1, b_some]
      obtain ⟨o7, f1, f2⟩ := X11_answerA_s hM hn2 hz1 hz2 (show 0 ≤ 1 by omega) m_nextValues m_values
      obtain ⟨o9, f3, f4⟩ := X11_always_s hM hn2 hz1 hz2 (show 0 ≤ 1 by omega) (hidA_le _ n z 0) o7.2.2 o7.2.1
      obtain ⟨o11, f5, f6⟩ := X11_answerA_s hM hn2 hz1 hz2 (show 1 ≤ 1 by omega) o9.2.2 o9.2.1
      obtain ⟨o13, f7, f8⟩ := X11_always_s hM hn2 hz1 hz2 (show 1 ≤ 1 by omega) (hidA_le _ n z 1) o11.2.2 o11.2.1
      have v0 := hidV_le (fun k hk => (hC k hk).1) n z (show 0 ≤ 1 by omega)
      have v1 := hidV_le (fun k hk => (hC k hk).1) n z (show 1 ≤ 1 by omega)
      rw [show (0 : Int32) = nI 0 from rfl, show (1 : Int32) = nI 1 from rfl, f1, b_some, f2, f3, b_some, f5, b_some, f6, f7, b_some, f4, f8]
      have hm : ∃ om, (if nI (hidV (fun k => (c_notes_odds k).toNatClampNeg) n z 1) ≤ nI (hidV (fun k => (c_notes_odds k).toNatClampNeg) n z 0) then mX11_hidden_B66 (nI n) (iI z) (nI q) m_tens (nI (hidV (fun k => (c_notes_odds k).toNatClampNeg) n z 0)) (nI (hidV (fun k => (c_notes_odds k).toNatClampNeg) n z 1)) (nI 0) o13.2.1 o13.2.2 else mX11_hidden_B66 (nI n) (iI z) (nI q) m_tens (nI (hidV (fun k => (c_notes_odds k).toNatClampNeg) n z 0)) (nI (hidV (fun k => (c_notes_odds k).toNatClampNeg) n z 1)) (nI 1) o13.2.1 o13.2.2) = some om ∧ om.1 = nI (hidN (fun k => (c_notes_odds k).toNatClampNeg) n z q) := by
        by_cases h : hidV (fun k => (c_notes_odds k).toNatClampNeg) n z 1 ≤ hidV (fun k => (c_notes_odds k).toNatClampNeg) n z 0
        · rw [if_pos ((n_le (by omega) (by omega)).mpr h)]
          exact X11_hidden_66 hM hn2 hz1 hz2 hq _ _ (by unfold hidC; rw [if_pos h])
        · rw [if_neg (fun hh => h ((n_le (by omega) (by omega)).mp hh))]
          exact X11_hidden_66 hM hn2 hz1 hz2 hq _ _ (by unfold hidC; rw [if_neg h])
      obtain ⟨om, g1, g2⟩ := hm
      rw [e2, e3, e4, result_s hq, b_some]
      refine ⟨_, om, rfl, g1, ?_⟩
      rw [g2]
      rfl
    · rw [if_neg (fun h => c3 h.2.2), if_neg c3]
      exact ⟨_, _, rfl, rfl, rfl⟩
  · rw [if_neg (fun h => c1 ⟨h.1, h.2.1⟩), if_neg c1]
    exact ⟨_, _, rfl, rfl, rfl⟩
