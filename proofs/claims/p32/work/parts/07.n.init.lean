/-! INIT -/
theorem upd_0 (k : Nat) : upd (fun _ => (0 : Int32)) k (0 : Int32) = (fun _ => 0) := by
  funext j
  rw [upd_d]
  split <;> rfl
def plainA : AT := ((12, 0, 3, 0, 0), (fun _ => 0, fun k => [0, 1, 0, 20, 1, 0, 0].getD (k % 7) 0, fun _ => 0, fun _ => 0, fun _ => 0))
theorem plain_ok : OKA plainA := by
  refine ⟨⟨⟨by decide, by decide⟩, by decide, by decide, ⟨by decide, by decide⟩, fun k hk => absurd hk (by show ¬ k < 0; omega), fun j hj => ?_, fun k _ => by show 0 ≤ 9; omega, fun r _ => by show 0 + 0 ≤ 3; omega, fun r _ => by show 0 + 0 ≤ 3; omega⟩, by decide⟩
  have h3 : j < 3 := hj
  have : ∀ j : Nat, j < 3 → okJd (jd plainA) j := by unfold okJd; decide
  exact this j h3
theorem X3_addJudge_t3 {J : Nat} (hJ : J < 8) (f : Nat → Int32) : mX3_addJudge_p0t3 (nI J) f = some (1, va_cpy tab3 f 0 (J * 7) 7, nI (J + 1)) := by
  unfold mX3_addJudge_p0t3 gcp
  rw [n_lit 8, if_pos ((n_lt (by omega) (by omega)).mpr hJ), n_lit 7, n_mul, n_lit 1, n_add]
  rw [show (0 : Int32) = nI 0 from rfl, n_cl (by omega), n_cl (by omega), n_cl (by omega)]
  rw [if_pos ⟨fun hh => absurd ((n_lt (by omega) (by omega)).mp hh) (by omega), fun hh => absurd ((n_lt (by omega) (by omega)).mp hh) (by omega), fun hh => absurd ((n_lt (by omega) (by omega)).mp hh) (by omega), by omega, by omega⟩]
  rfl
def plainJ : Nat → Int32 := va_cpy tab3 (va_cpy tab3 (va_cpy tab3 (fun _ => 0) 0 (0 * 7) 7) 0 (1 * 7) 7) 0 (2 * 7) 7
theorem plainJ_s : ∀ k, k < 7 * aJ plainA → plainJ k = nI (jd plainA k) := by
  have h : ∀ k, k < 21 → plainJ k = nI (jd plainA k) := by unfold plainJ va_cpy; decide
  exact h
theorem X3_startPlain_s : ∃ s su le : Nat → Int32, mX3_startPlain 0 0 0 0 0 (fun _ => 0) (fun _ => 0) (fun _ => 0) (fun _ => 0) (fun _ => 0) (fun _ => 0) (fun _ => 0) (fun _ => 0) = some (12, 0, 0, 0, 3, (fun _ => 0), (fun _ => 0), (fun _ => 0), plainJ, s, su, le) ∧ RCs plainA s su le := by
  obtain ⟨s, su, le, e1, e2⟩ := X3_addUp_s (a := plainA) (blows := fun _ => 0) (judges := plainJ) (forward := fun _ => 0) plain_ok.1 (fun k hk => absurd hk (by show ¬ k < 5 * 0; omega)) plainJ_s (fun _ _ => rfl) (fun _ => 0) (fun _ => 0) (fun _ => 0)
  refine ⟨s, su, le, ?_, e2⟩
  have e3 : mX3_addUp 0 0 0 (nI 3) (fun _ => 0) (fun _ => 0) plainJ (fun _ => 0) (fun _ => 0) (fun _ => 0) = some (s, su, le) := e1
  have ef : (fun k : Nat => if k < 24 then (0 : Int32) else (fun _ => 0) k) = (fun _ => 0) := by funext k; split <;> rfl
  unfold mX3_startPlain mX3_clear
  rw [fill_s _ 24 (by omega), b_some, b_some, b_some, ef, b_some]
  show mX3_startPlain_L6 (fun _ => 0) (4092 + 1 + 1 + 1 + 1) (0 : Int32) (12 : Int32) (0 : Int32) (0 : Int32) (0 : Int32) (nI 0) (fun _ => 0) (fun _ => 0) (fun _ => 0) (fun _ => 0) (fun _ => 0) (fun _ => 0) (fun _ => 0) = _
  rw [eX3_startPlain_6]
  unfold mX3_startPlain_B6
  rw [if_neg (by decide), X3_addJudge_t3 (by omega), b_some, lb_d, eX3_startPlain_6]
  unfold mX3_startPlain_B6
  rw [if_neg (by decide)]
  simp only []
  rw [X3_addJudge_t3 (by omega), b_some, lb_d, eX3_startPlain_6]
  unfold mX3_startPlain_B6
  rw [if_neg (by decide)]
  simp only []
  rw [X3_addJudge_t3 (by omega), b_some, lb_d, eX3_startPlain_6]
  unfold mX3_startPlain_B6
  rw [if_pos (by decide)]
  simp only []
  change (mX3_addUp 0 0 0 (nI 3) (fun _ => 0) (fun _ => 0) plainJ (fun _ => 0) (fun _ => 0) (fun _ => 0)).bind _ = _
  rw [e3, b_some]
  rfl
theorem X7_init_s : ∃ w, mX7_init = some w ∧ RW w := by
  have in42 : ∀ (d q n : Nat) (i : Nat) (k34) (w : Nat → Int32), q + d = 12 → d < n → i < 12 → w i = nI (watchS i q) → mX7_init_L42 k34 n (nI i) (nI q) w = k34 (nI (i + 1)) (fun k => if k = i then nI (watchS i 12) else w k) := by
    intro d
    induction d with
    | zero =>
      intro q n i k34 w hq hn hi hw
      obtain ⟨n, rfl⟩ : ∃ q, n = q + 1 := ⟨n - 1, by omega⟩
      rw [eX7_init_42]
      unfold mX7_init_B42
      rw [n_lit 12, if_pos ((n_le (by omega) (by omega)).mpr (by omega)), n_lit 1, n_add, lb_d]
      congr 1
      funext k
      by_cases h : k = i
      · rw [if_pos h, h, hw, show q = 12 by omega]
      · rw [if_neg h]
    | succ d ih =>
      intro q n i k34 w hq hn hi hw
      obtain ⟨n, rfl⟩ : ∃ q, n = q + 1 := ⟨n - 1, by omega⟩
      have e : ∀ x : Nat, watchS i (q + 1) = watchS i q ||| x → mX7_init_B70 k34 (mX7_init_L42 k34 n) (nI i) (nI q) (nI i) (w (nI i).toNatClampNeg) (nI x) w = k34 (nI (i + 1)) (fun k => if k = i then nI (watchS i 12) else w k) := by
        intro x hx
        unfold mX7_init_B70
        rw [gi_n (by omega) (by omega), n_cl (by omega), hw, n_or, lb_d, n_lit 1, n_add, lb_d, ← hx]
        rw [ih (q + 1) n i k34 _ (by omega) (by omega) hi (by rw [upd_s])]
        congr 1
        funext k
        by_cases h : k = i
        · rw [if_pos h, if_pos h]
        · rw [if_neg h, if_neg h, upd_n h]
      rw [eX7_init_42]
      unfold mX7_init_B42
      rw [n_lit 12, if_neg (fun hh => absurd ((n_le (a := 12) (by omega) (by omega)).mp hh) (by omega)), gi_n (by omega) (by omega), X3_isSeenFrom_s (by omega) (by omega), b_some]
      by_cases h : nearB q i = true
      · rw [if_pos h, if_neg (by decide), n_bit q (by omega)]
        exact e _ (by show _ ||| _ = _; rw [if_pos h])
      · rw [if_neg h, if_pos rfl]
        exact e 0 (by show _ ||| _ = _; rw [if_neg h])
  have in34 : ∀ (d i n : Nat) (w : Nat → Int32), i + d = 12 → d < n → (∀ k, k < i → w k = nI (watchS k 12)) → (∀ k, i ≤ k → w k = 0) → ∃ w', mX7_init_L34 n (nI i) w = some w' ∧ RW w' := by
    intro d
    induction d with
    | zero =>
      intro i n w hi hn h1 h2
      obtain ⟨n, rfl⟩ : ∃ q, n = q + 1 := ⟨n - 1, by omega⟩
      refine ⟨w, ?_, fun side hs => h1 side (by omega)⟩
      rw [eX7_init_34]
      unfold mX7_init_B34
      rw [n_lit 12, if_pos ((n_le (by omega) (by omega)).mpr (by omega))]
    | succ d ih =>
      intro i n w hi hn h1 h2
      obtain ⟨n, rfl⟩ : ∃ q, n = q + 1 := ⟨n - 1, by omega⟩
      rw [eX7_init_34]
      unfold mX7_init_B34
      rw [n_lit 12, if_neg (fun hh => absurd ((n_le (a := 12) (by omega) (by omega)).mp hh) (by omega)), n_lit 0, in42 12 0 FUEL i _ w (by omega) (by unfold FUEL; omega) (by omega) (by rw [h2 i (by omega)]; rfl)]
      exact ih (i + 1) n _ (by omega) (by omega) (fun k hk => by
        by_cases h : k = i
        · rw [if_pos h, h]
        · rw [if_neg h, h1 k (by omega)]) (fun k hk => by rw [if_neg (by omega), h2 k (by omega)])
  unfold mX7_init
  exact in34 12 0 FUEL (fun _ => 0) (by omega) (by unfold FUEL; omega) (fun k hk => absurd hk (by omega)) (fun _ _ => rfl)
def fives : Nat → Int32 := upd (upd (upd (upd (fun _ => 0) 0 5) 1 5) 2 5) 3 5
theorem X5_init_s : mX5_init = some (fives, fun k => if k < 144 then (-21 : Int32) else 0) := by
  unfold mX5_init
  rw [fill_s _ 144 (by omega)]
  rfl
theorem X11_noFight_0 : mX11_noFight 0 (fun _ => 0) (fun _ => 0) (fun _ => 0) (fun _ => 0) (fun _ => 0) (fun _ => 0) (fun _ => 0) (fun _ => 0) = some (upd (fun _ => 0) 0 12, (fun _ => 0), (fun _ => 0), (fun _ => 0), (fun _ => 0), (fun _ => 0), (fun _ => 0), (fun _ => 0)) := by
  have key : ∀ (d i n : Nat) (rm : Nat → Int32), i + d = 24 → d < n → mX11_noFight_L38 (nI 0) n (nI i) rm (fun _ => 0) (fun _ => 0) (fun _ => 0) (fun _ => 0) (fun _ => 0) (fun _ => 0) (fun _ => 0) = some (rm, (fun _ => 0), (fun _ => 0), (fun _ => 0), (fun _ => 0), (fun _ => 0), (fun _ => 0), (fun _ => 0)) := by
    intro d
    induction d with
    | zero =>
      intro i n rm hi hn
      obtain ⟨n, rfl⟩ : ∃ q, n = q + 1 := ⟨n - 1, by omega⟩
      rw [eX11_noFight_38]
      unfold mX11_noFight_B38
      rw [n_lit 24, if_pos ((n_le (by omega) (by omega)).mpr (by omega))]
    | succ d ih =>
      intro i n rm hi hn
      obtain ⟨n, rfl⟩ : ∃ q, n = q + 1 := ⟨n - 1, by omega⟩
      rw [eX11_noFight_38]
      unfold mX11_noFight_B38
      rw [n_lit 24, if_neg (fun hh => absurd ((n_le (a := 24) (by omega) (by omega)).mp hh) (by omega)), n_mul, n_add, gi_n (by omega) (by omega), lb_d, gi_n (by omega) (by omega), lb_d, gi_n (by omega) (by omega), lb_d, lb_d, upd_0, n_lit 1, n_add]

      exact ih (i + 1) n rm (by omega) (by omega)
  unfold mX11_noFight
  have g0 : ∀ (k : Option ((Nat → Int32) × (Nat → Int32) × (Nat → Int32) × (Nat → Int32) × (Nat → Int32) × (Nat → Int32) × (Nat → Int32) × (Nat → Int32))), gi (0 : Int32) 2 k = k := fun k => gi_n (j := 0) (by omega) (by omega)
  rw [g0, lb_d, g0, lb_d, g0, lb_d, g0, lb_d, g0, lb_d, show (0 : Int32).toNatClampNeg = 0 from rfl, upd_0]
  exact key 24 0 FUEL _ (by omega) (by unfold FUEL; omega)
def plainK (f : Nat → Int32) (l : Nat) : Nat → Int32 := upd (upd (upd f (7 * l + 1) 1) (7 * l + 3) 20) (7 * l + 4) 1
theorem X11_init_260 : ∀ (d i n : Nat) (f1 f2 f3 f4 f5 f6 f7 f8 f9 f10 f11 : Nat → Int32), i + d = 4 → d < n → mX11_init_L260 n (nI i) f1 f2 f3 f4 f5 f6 f7 f8 f9 f10 f11 = some (f1, f2, f3, f4, f5, f6, f7, f8, f9, f10, fun k => if i ≤ k ∧ k < 4 then 5 else f11 k) := by
  intro d
  induction d with
  | zero =>
    intro i n f1 f2 f3 f4 f5 f6 f7 f8 f9 f10 f11 hi hn
    obtain ⟨n, rfl⟩ : ∃ q, n = q + 1 := ⟨n - 1, by omega⟩
    rw [eX11_init_260]
    unfold mX11_init_B260
    rw [n_lit 4, if_pos ((n_le (by omega) (by omega)).mpr (by omega)), show (fun k => if i ≤ k ∧ k < 4 then (5 : Int32) else f11 k) = f11 from by funext k; rw [if_neg (by omega)]]
  | succ d ih =>
    intro i n f1 f2 f3 f4 f5 f6 f7 f8 f9 f10 f11 hi hn
    obtain ⟨n, rfl⟩ : ∃ q, n = q + 1 := ⟨n - 1, by omega⟩
    rw [eX11_init_260]
    unfold mX11_init_B260
    rw [n_lit 4, if_neg (fun hh => absurd ((n_le (a := 4) (by omega) (by omega)).mp hh) (by omega)), gi_n (by omega) (by omega), lb_d, lb_d, n_lit 1, n_add, n_cl (by omega), ih (i + 1) n _ _ _ _ _ _ _ _ _ _ _ (by omega) (by omega)]
    congr 12
    funext k
    by_cases h : k = i
    · rw [if_neg (by omega), h, upd_s, if_pos (by omega)]
    · rw [upd_n h]
      by_cases h2 : i + 1 ≤ k ∧ k < 4
      · rw [if_pos h2, if_pos (by omega)]
      · rw [if_neg h2, if_neg (by omega)]
theorem X11_init_237 : ∀ (d i n : Nat) (f1 f2 f3 f4 f5 f6 f7 f8 f9 f10 f11 : Nat → Int32), i + d = 144 → d < n → mX11_init_L237 n (nI i) f1 f2 f3 f4 f5 f6 f7 f8 f9 f10 f11 = some (f1, f2, f3, f4, f5, f6, f7, f8, f9, (fun k => if i ≤ k ∧ k < 144 then -21 else f10 k), fun k => if 0 ≤ k ∧ k < 4 then 5 else f11 k) := by
  intro d
  induction d with
  | zero =>
    intro i n f1 f2 f3 f4 f5 f6 f7 f8 f9 f10 f11 hi hn
    obtain ⟨n, rfl⟩ : ∃ q, n = q + 1 := ⟨n - 1, by omega⟩
    rw [eX11_init_237]
    unfold mX11_init_B237
    rw [n_lit 144, if_pos ((n_le (by omega) (by omega)).mpr (by omega)), show (fun k => if i ≤ k ∧ k < 144 then (-21 : Int32) else f10 k) = f10 from by funext k; rw [if_neg (by omega)]]
    exact X11_init_260 4 0 FUEL _ _ _ _ _ _ _ _ _ _ _ (by omega) (by unfold FUEL; omega)
  | succ d ih =>
    intro i n f1 f2 f3 f4 f5 f6 f7 f8 f9 f10 f11 hi hn
    obtain ⟨n, rfl⟩ : ∃ q, n = q + 1 := ⟨n - 1, by omega⟩
    rw [eX11_init_237]
    unfold mX11_init_B237
    rw [n_lit 144, if_neg (fun hh => absurd ((n_le (a := 144) (by omega) (by omega)).mp hh) (by omega)), gi_n (by omega) (by omega), lb_d, lb_d, n_lit 1, n_add, n_cl (by omega), ih (i + 1) n _ _ _ _ _ _ _ _ _ _ _ (by omega) (by omega)]
    have e : (fun k => if i + 1 ≤ k ∧ k < 144 then (-21 : Int32) else upd f10 i (-21) k) = (fun k => if i ≤ k ∧ k < 144 then (-21 : Int32) else f10 k) := by
      funext k
      by_cases h : k = i
      · rw [if_neg (by omega), h, upd_s, if_pos (by omega)]
      · rw [upd_n h]
        by_cases h2 : i + 1 ≤ k ∧ k < 144
        · rw [if_pos h2, if_pos (by omega)]
        · rw [if_neg h2, if_neg (by omega)]
    rw [e]
theorem X11_init_s : mX11_init = some (upd (fun _ => 0) 0 12, (fun _ => 0), upd (fun _ => 0) 0 3, (fun _ => 0), (fun _ => 0), (fun _ => 0), (fun _ => 0), (fun _ => 0), plainK (plainK (plainK (fun _ => 0) 0) 1) 2, (fun k => if 0 ≤ k ∧ k < 144 then -21 else 0), (fun k => if 0 ≤ k ∧ k < 4 then 5 else 0)) := by
  have step : ∀ (i n : Nat) (f1 f2 f3 f4 f5 f6 f7 f8 f9 f10 f11 : Nat → Int32), i < 3 → mX11_init_L187 (n + 1) (nI i) f1 f2 f3 f4 f5 f6 f7 f8 f9 f10 f11 = mX11_init_L187 n (nI (i + 1)) f1 f2 f3 f4 f5 f6 f7 f8 (plainK f9 i) f10 f11 := by
    intro i n f1 f2 f3 f4 f5 f6 f7 f8 f9 f10 f11 hi
    rw [eX11_init_187]
    unfold mX11_init_B187
    rw [n_lit 3, if_neg (fun hh => absurd ((n_le (a := 3) (by omega) (by omega)).mp hh) (by omega)), n_lit 7, n_lit 1, n_lit 4, n_mul, n_add, n_add, n_add, gi_n (by omega) (by omega), lb_d, gi_n (by omega) (by omega), lb_d, gi_n (by omega) (by omega), lb_d, lb_d]

    rw [n_add, n_cl (by omega), n_cl (by omega), n_cl (by omega)]
    rfl
  unfold mX11_init
  rw [X11_noFight_0, b_some, lb_d]
  change mX11_init_L187 (4092 + 1 + 1 + 1 + 1) (nI 0) _ _ _ _ _ _ _ _ _ _ _ = _
  rw [step 0 _ _ _ _ _ _ _ _ _ _ _ _ (by omega), step 1 _ _ _ _ _ _ _ _ _ _ _ _ (by omega), step 2 _ _ _ _ _ _ _ _ _ _ _ _ (by omega), eX11_init_187]
  unfold mX11_init_B187
  rw [if_pos (by decide)]
  exact (X11_init_237 144 0 FUEL _ _ _ _ _ _ _ _ _ _ _ (by omega) (by unfold FUEL; omega)).trans rfl
set_option maxRecDepth 100000 in
theorem api_init : ∃ (oi0 : Int32 × Int32 × Int32 × (Nat → Int32) × (Nat → Int32) × (Nat → Int32) × Int32 × Int32 × Int32 × Int32 × Int32 × (Nat → Int32) × (Nat → Int32) × (Nat → Int32) × (Nat → Int32) × Int32 × Int32 × Int32 × Int32 × Int32 × Int32 × (Nat → Int32) × (Nat → Int32) × (Nat → Int32) × (Nat → Int32) × (Nat → Int32) × (Nat → Int32) × (Nat → Int32)) (oi1 : (Nat → Int32) × (Nat → Int32) × (Nat → Int32) × (Nat → Int32) × (Nat → Int32) × (Nat → Int32) × (Nat → Int32) × (Nat → Int32) × (Nat → Int32) × (Nat → Int32) × (Nat → Int32)), mX10_init = some oi0 ∧ mX11_init = some oi1 ∧ RR oi0.1 (fun _ => 0) oi0.2.2.2.2.2.2.2.2.2.2.2.2.2.2.2.2.1 oi0.2.2.2.2.2.2.2.2.2.2.2.2.2.2.2.2.2.1 oi0.2.2.2.2.2.2.2.2.2.2.2.2.2.2.2.2.2.2.1 oi0.2.2.2.2.2.2.2.2.2.2.2.2.2.2.2.2.2.2.2.1 oi0.2.2.2.2.2.2.2.2.2.2.2.2.2.2.2.2.2.2.2.2.1 (fun _ => 0) oi0.2.2.2.2.2.2.2.2.2.2.2.2.2.2.2.2.2.2.2.2.2.2.2.2.1 oi0.2.2.2.2.2.2.2.2.2.2.2.2.2.2.2.2.2.2.2.2.2.1 oi0.2.2.2.2.2.2.2.2.2.2.2.2.2.2.2.2.2.2.2.2.2.2.1 oi0.2.2.2.2.2.2.2.2.2.2.2.2.2.2.2.2.2.2.2.2.2.2.2.1 oi0.2.2.2.2.2.2.2.2.2.2.2.2.2.2.2.2.2.2.2.2.2.2.2.2.2.1 oi0.2.2.2.2.2.2.2.2.2.2.2.2.2.2.2.2.2.2.2.2.2.2.2.2.2.2.1 oi0.2.2.2.2.2.2.2.2.2.2.2.2.2.2.2.2.2.2.2.2.2.2.2.2.2.2.2 oi0.2.2.2.1 (fun _ => 0) oi0.2.2.2.2.2.1 oi0.2.2.2.2.1 (fun _ => 0) oi0.2.2.2.2.2.2.2.2.2.2.2.2.1 oi0.2.2.2.2.2.2.2.2.2.2.2.1 (fun _ => 0) oi0.2.2.2.2.2.2.2.2.2.2.2.2.2.2.1 oi0.2.2.2.2.2.2.2.2.2.2.2.2.2.1 oi0.2.2.2.2.2.2.2.2.2.2.2.2.2.2.2.1 (0 : Int32) (fun _ => 0) oi1.1 oi1.2.1 (fun _ => 0) oi1.2.2.2.2.2.1 oi1.2.2.2.2.2.2.1 oi1.2.2.2.2.2.2.2.1 oi1.2.2.2.1 oi1.2.2.2.2.1 oi1.2.2.1 oi1.2.2.2.2.2.2.2.2.1 (fun _ => 0) oi1.2.2.2.2.2.2.2.2.2.1 oi1.2.2.2.2.2.2.2.2.2.2 (0 : Int32) := by
  obtain ⟨s, su, le, e1, e2⟩ := X3_startPlain_s
  obtain ⟨w, e3, e4⟩ := X7_init_s
  have e5 : mX10_init = some (0, 0, 0, w, fives, (fun k => if k < 144 then (-21 : Int32) else 0), 0, 0, 0, 0, 0, fives, (fun k => if k < 144 then (-21 : Int32) else 0), fives, (fun k => if k < 144 then (-21 : Int32) else 0), 0, 12, 0, 0, 0, 3, (fun _ => 0), (fun _ => 0), (fun _ => 0), plainJ, s, su, le) := by
    unfold mX10_init mX8_init mX6_init mX3_init mX1_init mX2_init mX0_init mX9_init mX4_init
    rw [e1, e3, X5_init_s]
    rfl
  refine ⟨_, _, e5, X11_init_s, ⟨0, fun _ => 0, by omega, rfl, rfl, fun k hk => absurd hk (by omega)⟩, ⟨plainA, plain_ok, ⟨rfl, rfl, rfl, rfl, rfl, fun k hk => absurd hk (by show ¬ k < 5 * 0; omega), plainJ_s, fun _ _ => rfl, fun _ _ => rfl, fun _ _ => rfl⟩, e2, ⟨rfl, rfl, rfl, rfl, rfl, fun k hk => absurd hk (by show ¬ k < 5 * 0; omega), ?_, fun _ _ => rfl, fun _ _ => rfl, fun _ _ => rfl⟩⟩, e4, ⟨0, by omega, rfl, rfl, ⟨fun j _ => ⟨0, by omega, rfl, rfl⟩, fun k hk => ⟨-21, by omega, by omega, ?_, ?_⟩, fun k hk => ⟨5, by omega, ?_, ?_⟩⟩, fun h => absurd h (by omega), fun h => absurd h (by omega)⟩⟩
  · have h : ∀ k, k < 21 → plainK (plainK (plainK (fun _ => 0) 0) 1) 2 k = nI (jd plainA k) := by unfold plainK upd; decide
    exact h
  · show (if k < 144 then (-21 : Int32) else 0) = _
    rw [if_pos hk]
    rfl
  · show (if 0 ≤ 144 * 0 + k ∧ 144 * 0 + k < 144 then (-21 : Int32) else 0) = _
    rw [if_pos (by omega)]
    rfl
  · have h : ∀ k, k < 4 → fives k = nI 5 := by unfold fives upd; decide
    exact h k hk
  · show (if 0 ≤ 4 * 0 + k ∧ 4 * 0 + k < 4 then (5 : Int32) else 0) = _
    rw [if_pos (by omega)]
    rfl
