/-! odds of an end -/
def tW (e : Nat) (T1 T2 T3 : Nat → Nat) (i j k : Nat) : Nat := if endS i j k = e then T1 i * T2 j * T3 k else 0
def wW (e : Nat) (T1 T2 T3 : Nat → Nat) : Nat := sF (fun i => sF (fun j => sF (tW e T1 T2 T3 i j) 0 3) 0 3) 0 3
theorem X2_ways_s {e : Nat} (he : e < 3) {w : Nat → Int64} {T1 T2 T3 : Nat → Nat} (h1 : ∀ o, o < 3 → w o = lN (T1 o)) (h2 : ∀ o, o < 3 → w (3 + o) = lN (T2 o)) (h3 : ∀ o, o < 3 → w (6 + o) = lN (T3 o)) : mX2_waysToEnd (nI e) w = some (lN (wW e T1 T2 T3)) := by
  have k23 : ∀ (d k n acc i j : Nat) (k5 k14), k + d = 3 → d < n → i < 3 → j < 3 → mX2_waysToEnd_L23 (nI e) w k5 k14 n (lN acc) (nI i) (nI j) (nI k) = k14 (lN (acc + sF (tW e T1 T2 T3 i j) k d)) (nI i) (nI (j + 1)) := by
    intro d
    induction d with
    | zero =>
      intro k n acc i j k5 k14 hk hn hi hj
      obtain ⟨n, rfl⟩ : ∃ q, n = q + 1 := ⟨n - 1, by omega⟩
      rw [eX2_waysToEnd_23]
      unfold mX2_waysToEnd_B23
      rw [n_lit 3, if_pos ((n_le (by omega) (by omega)).mpr (by omega)), n_lit 1, n_add, lb_d]
      rfl
    | succ d ih =>
      intro k n acc i j k5 k14 hk hn hi hj
      obtain ⟨n, rfl⟩ : ∃ q, n = q + 1 := ⟨n - 1, by omega⟩
      have he2 : endS i j k < 3 := by unfold endS; split <;> (try split) <;> (try split) <;> omega
      have hs : sF (tW e T1 T2 T3 i j) k (d + 1) = tW e T1 T2 T3 i j k + sF (tW e T1 T2 T3 i j) (k + 1) d := rfl
      rw [eX2_waysToEnd_23]
      unfold mX2_waysToEnd_B23
      rw [n_lit 3, if_neg (fun hh => absurd ((n_le (a := 3) (by omega) (by omega)).mp hh) (by omega)), X1_endOf_s (by omega) (by omega) (by omega), b_some, n_lit 6, n_lit 1, n_add, n_add, n_add, gi_n (by omega) (by omega), gi_n (by omega) (by omega), gi_n (by omega) (by omega), n_cl (by omega), n_cl (by omega), n_cl (by omega), h1 i hi, h2 j hj, h3 k (by omega), lN_mul, lN_mul, lN_add, hs, ← Nat.add_assoc]

      unfold tW
      by_cases h : endS i j k = e
      · rw [if_pos ((n_eq (by omega) (by omega)).mpr h), if_pos h, lb_d, lb_d, ih (k + 1) n _ i j k5 k14 (by omega) (by omega) hi hj]
        rfl
      · rw [if_neg (fun hh => h ((n_eq (by omega) (by omega)).mp hh)), if_neg h, lb_d, ih (k + 1) n _ i j k5 k14 (by omega) (by omega) hi hj]
        rfl
  have k14 : ∀ (d j n acc i : Nat) (k5), j + d = 3 → d < n → i < 3 → mX2_waysToEnd_L14 (nI e) w k5 n (lN acc) (nI i) (nI j) = k5 (lN (acc + sF (fun j => sF (tW e T1 T2 T3 i j) 0 3) j d)) (nI (i + 1)) := by
    intro d
    induction d with
    | zero =>
      intro j n acc i k5 hj hn hi
      obtain ⟨n, rfl⟩ : ∃ q, n = q + 1 := ⟨n - 1, by omega⟩
      rw [eX2_waysToEnd_14]
      unfold mX2_waysToEnd_B14
      rw [n_lit 3, if_pos ((n_le (by omega) (by omega)).mpr (by omega)), n_lit 1, n_add, lb_d]
      rfl
    | succ d ih =>
      intro j n acc i k5 hj hn hi
      obtain ⟨n, rfl⟩ : ∃ q, n = q + 1 := ⟨n - 1, by omega⟩
      have hs : sF (fun j => sF (tW e T1 T2 T3 i j) 0 3) j (d + 1) = sF (tW e T1 T2 T3 i j) 0 3 + sF (fun j => sF (tW e T1 T2 T3 i j) 0 3) (j + 1) d := rfl
      rw [eX2_waysToEnd_14]
      unfold mX2_waysToEnd_B14
      rw [n_lit 3, if_neg (fun hh => absurd ((n_le (a := 3) (by omega) (by omega)).mp hh) (by omega)), n_lit 0, k23 3 0 FUEL acc i j _ _ (by omega) (by unfold FUEL; omega) hi (by omega), ih (j + 1) n _ i k5 (by omega) (by omega) hi, hs, Nat.add_assoc]
  have k5 : ∀ (d i n acc : Nat), i + d = 3 → d < n → mX2_waysToEnd_L5 (nI e) w n (lN acc) (nI i) = some (lN (acc + sF (fun i => sF (fun j => sF (tW e T1 T2 T3 i j) 0 3) 0 3) i d)) := by
    intro d
    induction d with
    | zero =>
      intro i n acc hi hn
      obtain ⟨n, rfl⟩ : ∃ q, n = q + 1 := ⟨n - 1, by omega⟩
      rw [eX2_waysToEnd_5]
      unfold mX2_waysToEnd_B5
      rw [n_lit 3, if_pos ((n_le (by omega) (by omega)).mpr (by omega))]
      rfl
    | succ d ih =>
      intro i n acc hi hn
      obtain ⟨n, rfl⟩ : ∃ q, n = q + 1 := ⟨n - 1, by omega⟩
      have hs : sF (fun i => sF (fun j => sF (tW e T1 T2 T3 i j) 0 3) 0 3) i (d + 1) = sF (fun j => sF (tW e T1 T2 T3 i j) 0 3) 0 3 + sF (fun i => sF (fun j => sF (tW e T1 T2 T3 i j) 0 3) 0 3) (i + 1) d := rfl
      rw [eX2_waysToEnd_5]
      unfold mX2_waysToEnd_B5
      rw [n_lit 3, if_neg (fun hh => absurd ((n_le (a := 3) (by omega) (by omega)).mp hh) (by omega)), n_lit 0, k14 3 0 FUEL acc i _ (by omega) (by unfold FUEL; omega) (by omega), ih (i + 1) n _ (by omega) (by omega), hs, Nat.add_assoc]
  unfold mX2_waysToEnd
  have h := k5 3 0 FUEL 0 (by omega) (by unfold FUEL; omega)
  rw [Nat.zero_add] at h
  exact h
theorem lcmp_0 {A : Nat} (hA : A < 2 ^ 62) : (lg_cmp (lN A) (0 : Int64)) = 0 ↔ A = 0 := by
  have e : lN A = 0 ↔ A = 0 := pk_lEQ (b := 0) (by omega) (by omega)
  unfold lg_cmp
  by_cases h0 : A = 0
  · subst h0
    exact ⟨fun _ => rfl, fun _ => by decide⟩
  · have h2 : lN A > 0 := (pk_lLT (a := 0) (b := A) (by omega) (by omega)).mpr (by omega)
    rw [if_pos h2]
    exact ⟨fun hh => absurd hh (by decide), fun hh => absurd hh h0⟩
theorem odd_gcd {A : Nat} (h : A % 2 = 1) (d : Nat) : Nat.gcd A (2 ^ d) = 1 := by
  have h2 : Nat.Coprime A 2 := by
    show Nat.gcd A 2 = 1
    rw [Nat.gcd_comm, Nat.gcd_rec, h, Nat.gcd_one_left]
  exact Nat.Coprime.pow_right d h2
theorem X2_odds_17 {x0 x1 : Int32} {M : Nat} (hM : M ≤ 36) (w : Nat → Int64) : ∀ (d i n A : Nat), i + d = M → d < n → A < 2 ^ 62 → mX2_oddsOf_L17 x0 x1 (nI M) w n (lN A) (lN (2 ^ d)) (nI i) = some (lN (if x1 = 0 then A / Nat.gcd A (2 ^ d) else 2 ^ d / Nat.gcd A (2 ^ d))) := by
  have fin : ∀ A B : Nat, Nat.gcd A B = 1 → mX2_oddsOf_B56 x0 x1 (nI M) w (lN A) (lN B) = some (lN (if x1 = 0 then A / Nat.gcd A B else B / Nat.gcd A B)) := by
    intro A B h
    unfold mX2_oddsOf_B56
    rw [h, Nat.div_one, Nat.div_one]
    split <;> rfl
  intro d
  induction d with
  | zero =>
    intro i n A hi hn hA
    obtain ⟨n, rfl⟩ : ∃ q, n = q + 1 := ⟨n - 1, by omega⟩
    rw [eX2_oddsOf_17]
    unfold mX2_oddsOf_B17
    rw [if_pos ((n_le (by omega) (by omega)).mpr (by omega))]
    exact fin A 1 (Nat.gcd_one_right A)
  | succ d ih =>
    intro i n A hi hn hA
    obtain ⟨n, rfl⟩ : ∃ q, n = q + 1 := ⟨n - 1, by omega⟩
    have h2 : (2 : Nat) ^ (d + 1) = 2 * 2 ^ d := by rw [Nat.pow_succ, Nat.mul_comm]
    have h3 : (2 : Nat) ^ (d + 1) < 2 ^ 62 := Nat.pow_lt_pow_right (by omega) (by omega)
    rw [eX2_oddsOf_17]
    unfold mX2_oddsOf_B17
    rw [if_neg (fun hh => absurd ((n_le (by omega) (by omega)).mp hh) (by omega)), show (2 : Int64) = lN 2 from rfl, pk_lRem (by omega) (by omega) (by omega)]
    by_cases h : A % 2 = 0
    · rw [if_pos ((lcmp_0 (by omega)).mpr h), pk_lDiv (by omega) (by omega) (by omega), pk_lDiv (by omega) (by omega) (by omega), lb_d, lb_d, lb_d, n_lit 1, n_add, h2, Nat.mul_div_cancel_left _ (by omega : 0 < 2), ih (i + 1) n (A / 2) (by omega) (by omega) (by omega)]
      obtain ⟨B, rfl⟩ : ∃ B, A = 2 * B := ⟨A / 2, by omega⟩
      rw [Nat.mul_div_cancel_left _ (by omega : 0 < 2), Nat.gcd_mul_left, Nat.mul_div_mul_left _ _ (by omega : 0 < 2), Nat.mul_div_mul_left _ _ (by omega : 0 < 2)]
    · rw [if_neg (fun hh => h ((lcmp_0 (by omega)).mp hh))]
      exact fin A _ (odd_gcd (by omega) _)
theorem X11_common_6 (x0 x1 : Int64) : ∀ (q n A B : Nat), A < 2 ^ 62 → B < 2 ^ 62 → B < 2 ^ q → 2 * q + 1 ≤ n → mX11_common_L6 x0 x1 n (lN A) (lN B) = some (lN (Nat.gcd A B)) := by
  have stop : ∀ (n A : Nat), 1 ≤ n → mX11_common_L6 x0 x1 n (lN A) (lN 0) = some (lN (Nat.gcd A 0)) := by
    intro n A hn
    obtain ⟨n, rfl⟩ : ∃ q, n = q + 1 := ⟨n - 1, by omega⟩
    rw [eX11_common_6]
    unfold mX11_common_B6
    rw [if_pos ((lcmp_0 (by omega)).mpr rfl), Nat.gcd_zero_right]
  have step : ∀ (n A B : Nat), 1 ≤ n → A < 2 ^ 62 → B < 2 ^ 62 → 0 < B → mX11_common_L6 x0 x1 n (lN A) (lN B) = mX11_common_L6 x0 x1 (n - 1) (lN B) (lN (A % B)) := by
    intro n A B hn hA hB h0
    obtain ⟨n, rfl⟩ : ∃ q, n = q + 1 := ⟨n - 1, by omega⟩
    rw [eX11_common_6]
    unfold mX11_common_B6 gd
    rw [if_neg (fun hh => absurd ((lcmp_0 hB).mp hh) (by omega)), if_pos (show ¬ lN B = 0 from fun hh => absurd ((pk_lEQ (b := 0) (by omega) (by omega)).mp hh) (by omega)), pk_lRem (by omega) h0 (by omega), lb_d, Nat.add_sub_cancel]
  have gs : ∀ A B : Nat, Nat.gcd B (A % B) = Nat.gcd A B := by
    intro A B
    rw [Nat.gcd_comm A B, Nat.gcd_rec B A, Nat.gcd_comm]
  intro q
  induction q with
  | zero =>
    intro n A B hA hB hq hn
    have hB0 : B = 0 := by have : (2 : Nat) ^ 0 = 1 := rfl; omega
    rw [hB0]
    exact stop n A (by omega)
  | succ q ih =>
    intro n A B hA hB hq hn
    have h2 : (2 : Nat) ^ (q + 1) = 2 * 2 ^ q := by rw [Nat.pow_succ, Nat.mul_comm]
    by_cases hB0 : B = 0
    · rw [hB0]
      exact stop n A (by omega)
    · have hc := Nat.mod_lt A (show B > 0 by omega)
      rw [step n A B (by omega) hA hB (by omega)]
      by_cases hC0 : A % B = 0
      · rw [hC0, stop (n - 1) B (by omega), ← gs A B, hC0]
      · rw [step (n - 1) B (A % B) (by omega) hB (by omega) (by omega), ih (n - 1 - 1) (A % B) (B % (A % B)) (by omega) (by have := Nat.mod_lt B (show A % B > 0 by omega); omega) (by
          have h5 := Nat.mod_lt B (show A % B > 0 by omega)
          by_cases h6 : A % B ≤ 2 ^ q
          · omega
          · have h7 : B % (A % B) = B - A % B := by
              rw [Nat.mod_eq_sub_mod (by omega), Nat.mod_eq_of_lt (by omega)]
            omega) (by omega), gs B (A % B), gs A B]
theorem X11_common_s {A B : Nat} (hA : A < 2 ^ 62) (hB : B < 2 ^ 62) : mX11_common (lN A) (lN B) = some (lN (Nat.gcd A B)) := by
  unfold mX11_common
  exact X11_common_6 _ _ 62 FUEL A B hA hB hB (by unfold FUEL; omega)
def caS (i : Nat) : Int := if i = 0 then 1 else if i = 1 then -1 else 0
theorem X11_cardAs_s {i : Nat} (hi : i < 3) : mX11_cardAs (nI i) = some (iI (caS i)) := by
  have h : ∀ i, i < 3 → mX11_cardAs (nI i) = some (iI (caS i)) := by decide
  exact h i hi
theorem own_caS : ∀ i, i < 3 → ownS (caS i) = i := by decide
theorem caS_in (i : Nat) : -2147483648 ≤ caS i ∧ caS i < 2147483648 := by unfold caS; split <;> (try split) <;> omega
theorem bit64 : ∀ M, M < 37 → (1 : Int64) <<< (Int32.toInt64 (nI M) &&& 63) = lN (2 ^ M) := by decide +kernel
theorem X11_coins_L {x0 x1 x2 x3 x5 : Int32} {blowMany blows downs forwards homes judgeMany judges noises roundMany takens : Nat → Int32} {e : Nat} (he : e < 3) {w : Nat → Int64} {T1 T2 T3 : Nat → Nat} (h1 : ∀ o, o < 3 → w o = lN (T1 o)) (h2 : ∀ o, o < 3 → w (3 + o) = lN (T2 o)) (h3 : ∀ o, o < 3 → w (6 + o) = lN (T3 o)) (ways nx : Nat → Int64) {M : Nat} (hM : M ≤ 36) (hb : wW e T1 T2 T3 < 2 ^ 62) : mX11_coins_L117 x0 x1 x2 x3 (nI e) x5 blowMany blows downs forwards homes judgeMany judges noises roundMany takens FUEL (nI M) (lN 0) (nI 0) ways nx w = some (lN (if x5 = 0 then wW e T1 T2 T3 / Nat.gcd (wW e T1 T2 T3) (2 ^ M) else 2 ^ M / Nat.gcd (wW e T1 T2 T3) (2 ^ M)), ways, nx, w) := by
  have hq : (2 : Nat) ^ M < 2 ^ 62 := Nat.pow_lt_pow_right (by omega) (by omega)
  have k23 : ∀ (d k n acc i j : Nat) (k5 k14), k + d = 3 → d < n → i < 3 → j < 3 → mX11_coins_L135 x0 x1 x2 x3 (nI e) x5 blowMany blows downs forwards homes judgeMany judges noises roundMany takens k5 k14 n (nI M) (lN acc) (nI i) (nI j) (nI k) ways nx w = k14 (nI M) (lN (acc + sF (tW e T1 T2 T3 i j) k d)) (nI i) (nI (j + 1)) ways nx w := by
    intro d
    induction d with
    | zero =>
      intro k n acc i j k5 k14 hk hn hi hj
      obtain ⟨n, rfl⟩ : ∃ q, n = q + 1 := ⟨n - 1, by omega⟩
      rw [eX11_coins_135]
      unfold mX11_coins_B135
      rw [n_lit 3, if_pos ((n_le (by omega) (by omega)).mpr (by omega)), n_lit 1, n_add, lb_d]
      rfl
    | succ d ih =>
      intro k n acc i j k5 k14 hk hn hi hj
      obtain ⟨n, rfl⟩ : ∃ q, n = q + 1 := ⟨n - 1, by omega⟩
      have he2 : endS i j k < 3 := by unfold endS; split <;> (try split) <;> (try split) <;> omega
      have hs : sF (tW e T1 T2 T3 i j) k (d + 1) = tW e T1 T2 T3 i j k + sF (tW e T1 T2 T3 i j) (k + 1) d := rfl
      rw [eX11_coins_135]
      unfold mX11_coins_B135 mX11_coins_B169
      rw [n_lit 3, if_neg (fun hh => absurd ((n_le (a := 3) (by omega) (by omega)).mp hh) (by omega)), X11_cardAs_s hi, b_some, X11_cardAs_s hj, b_some, X11_cardAs_s (by omega), b_some, X11_whoBy_s (caS_in i) (caS_in j) (caS_in k), b_some, own_caS i hi, own_caS j hj, own_caS k (by omega), hs, ← Nat.add_assoc]
      unfold tW
      by_cases h : endS i j k = e
      · rw [if_pos ((n_eq (by omega) (by omega)).mpr h), if_pos h, if_neg (by decide), n_lit 6, n_lit 1, n_add, n_add, n_add, gi_n (by omega) (by omega), gi_n (by omega) (by omega), gi_n (by omega) (by omega), n_cl (by omega), n_cl (by omega), n_cl (by omega), h1 i hi, h2 j hj, h3 k (by omega), lN_mul, lN_mul, lN_add, lb_d, lb_d, ih (k + 1) n _ i j k5 k14 (by omega) (by omega) hi hj]
        rfl
      · rw [if_neg (fun hh => h ((n_eq (by omega) (by omega)).mp hh)), if_neg h, if_pos rfl, show (0 : Int64) = lN 0 from rfl, lN_add, n_lit 1, n_add, lb_d, lb_d, ih (k + 1) n _ i j k5 k14 (by omega) (by omega) hi hj]
        rfl
  have k14 : ∀ (d j n acc i : Nat) (k5), j + d = 3 → d < n → i < 3 → mX11_coins_L126 x0 x1 x2 x3 (nI e) x5 blowMany blows downs forwards homes judgeMany judges noises roundMany takens k5 n (nI M) (lN acc) (nI i) (nI j) ways nx w = k5 (nI M) (lN (acc + sF (fun j => sF (tW e T1 T2 T3 i j) 0 3) j d)) (nI (i + 1)) ways nx w := by
    intro d
    induction d with
    | zero =>
      intro j n acc i k5 hj hn hi
      obtain ⟨n, rfl⟩ : ∃ q, n = q + 1 := ⟨n - 1, by omega⟩
      rw [eX11_coins_126]
      unfold mX11_coins_B126
      rw [n_lit 3, if_pos ((n_le (by omega) (by omega)).mpr (by omega)), n_lit 1, n_add, lb_d]
      rfl
    | succ d ih =>
      intro j n acc i k5 hj hn hi
      obtain ⟨n, rfl⟩ : ∃ q, n = q + 1 := ⟨n - 1, by omega⟩
      have hs : sF (fun j => sF (tW e T1 T2 T3 i j) 0 3) j (d + 1) = sF (tW e T1 T2 T3 i j) 0 3 + sF (fun j => sF (tW e T1 T2 T3 i j) 0 3) (j + 1) d := rfl
      rw [eX11_coins_126]
      unfold mX11_coins_B126
      rw [n_lit 3, if_neg (fun hh => absurd ((n_le (a := 3) (by omega) (by omega)).mp hh) (by omega)), n_lit 0, k23 3 0 FUEL acc i j _ _ (by omega) (by unfold FUEL; omega) hi (by omega), ih (j + 1) n _ i k5 (by omega) (by omega) hi, hs, Nat.add_assoc]
  have k5 : ∀ (d i n acc : Nat), i + d = 3 → d < n → acc + sF (fun i => sF (fun j => sF (tW e T1 T2 T3 i j) 0 3) 0 3) i d = wW e T1 T2 T3 → mX11_coins_L117 x0 x1 x2 x3 (nI e) x5 blowMany blows downs forwards homes judgeMany judges noises roundMany takens n (nI M) (lN acc) (nI i) ways nx w = some (lN (if x5 = 0 then wW e T1 T2 T3 / Nat.gcd (wW e T1 T2 T3) (2 ^ M) else 2 ^ M / Nat.gcd (wW e T1 T2 T3) (2 ^ M)), ways, nx, w) := by
    intro d
    induction d with
    | zero =>
      intro i n acc hi hn hacc
      obtain ⟨n, rfl⟩ : ∃ q, n = q + 1 := ⟨n - 1, by omega⟩
      have hacc2 : acc = wW e T1 T2 T3 := hacc
      subst hacc2
      have h0 : 0 < Nat.gcd (wW e T1 T2 T3) (2 ^ M) := Nat.gcd_pos_of_pos_right _ (Nat.pow_pos (by omega))
      have h9 : Nat.gcd (wW e T1 T2 T3) (2 ^ M) ≤ 2 ^ M := Nat.gcd_le_right _ (Nat.pow_pos (by omega))
      have hne : ¬ lN (Nat.gcd (wW e T1 T2 T3) (2 ^ M)) = 0 := fun hh => absurd ((pk_lEQ (b := 0) (by omega) (by omega)).mp hh) (by omega)
      rw [eX11_coins_117]
      unfold mX11_coins_B117 gd
      rw [n_lit 3, if_pos ((n_le (by omega) (by omega)).mpr (by omega)), bit64 M (by omega), lb_d, X11_common_s hb hq, b_some, if_pos hne, if_pos hne, pk_lDiv (by omega) h0 (by omega), pk_lDiv (by omega) h0 (by omega), lb_d, lb_d]
      by_cases c : x5 = 0
      · rw [if_pos c, if_pos c]
      · rw [if_neg c, if_neg c]
    | succ d ih =>
      intro i n acc hi hn hacc
      obtain ⟨n, rfl⟩ : ∃ q, n = q + 1 := ⟨n - 1, by omega⟩
      have hs : sF (fun i => sF (fun j => sF (tW e T1 T2 T3 i j) 0 3) 0 3) i (d + 1) = sF (fun j => sF (tW e T1 T2 T3 i j) 0 3) 0 3 + sF (fun i => sF (fun j => sF (tW e T1 T2 T3 i j) 0 3) 0 3) (i + 1) d := rfl
      rw [hs, ← Nat.add_assoc] at hacc
      rw [eX11_coins_117]
      unfold mX11_coins_B117
      rw [n_lit 3, if_neg (fun hh => absurd ((n_le (a := 3) (by omega) (by omega)).mp hh) (by omega)), show (0 : Int32) = nI 0 from rfl, k14 3 0 FUEL acc i _ (by omega) (by unfold FUEL; omega) (by omega)]
      exact ih (i + 1) n _ (by omega) (by omega) hacc
  exact k5 3 0 FUEL 0 (by omega) (by unfold FUEL; omega) (Nat.zero_add _)
theorem Gs_le {s : Int} {f : Int → Nat} (h : ∀ v, f v ≤ 1) : ∀ (N : Nat) (c : Int), Gs s N c f ≤ 2 ^ N := by
  intro N
  induction N with
  | zero => intro c; exact h c
  | succ N ih =>
    intro c
    have h1 := ih (c + s)
    have h2 := ih (c - s)
    show Gs s N (c + s) f + Gs s N (c - s) f ≤ 2 ^ (N + 1)
    rw [Nat.pow_succ]
    omega
theorem G3_le {a : AT} (hA : OKD a) (p j o : Nat) : G3 p a j o ≤ 4096 := by
  have hR := hA.1
  have h1 := Gs_le (s := sP p) (f := ownF o) (fun v => by unfold ownF; split <;> omega) (nS a j (aR a)) (cardS 2 a j)
  have h2 := nS_le (a := a) j (r := aR a)
  have h3 : (2 : Nat) ^ (nS a j (aR a)) ≤ 2 ^ 12 := Nat.pow_le_pow_right (by omega) (by omega)
  unfold G3
  omega
theorem wW_lt {T1 T2 T3 : Nat → Nat} (h1 : ∀ o, T1 o ≤ 4096) (h2 : ∀ o, T2 o ≤ 4096) (h3 : ∀ o, T3 o ≤ 4096) (e : Nat) : wW e T1 T2 T3 < 2 ^ 62 := by
  have ht : ∀ i j k, tW e T1 T2 T3 i j k ≤ 68719476736 := by
    intro i j k
    unfold tW
    split
    · exact Nat.mul_le_mul (Nat.mul_le_mul (h1 i) (h2 j)) (h3 k)
    · omega
  have ha : ∀ i j, sF (tW e T1 T2 T3 i j) 0 3 ≤ 68719476736 * 3 := fun i j => sF_le (N := 3) (fun k _ => ht i j k) 3 0 (by omega)
  have hb : ∀ i, sF (fun j => sF (tW e T1 T2 T3 i j) 0 3) 0 3 ≤ 68719476736 * 3 * 3 := fun i => sF_le (N := 3) (fun j _ => ha i j) 3 0 (by omega)
  have hc : wW e T1 T2 T3 ≤ 68719476736 * 3 * 3 * 3 := sF_le (N := 3) (fun i _ => hb i) 3 0 (by omega)
  omega
set_option maxRecDepth 100000 in
theorem api_coins {c_text_length : Int32} {c_text_bytes : Nat → Int32} {c_laid_rounds : Int32} {c_laid_home : Int32} {c_laid_noise : Int32} {c_laid_blowCount : Int32} {c_laid_judgeCount : Int32} {c_laid_blows : Nat → Int32} {c_laid_judges : Nat → Int32} {c_laid_forward : Nat → Int32} {c_laid_downs : Nat → Int32} {c_laid_taken : Nat → Int32} {c_laid_seenBy : Nat → Int32} {c_laid_sums : Nat → Int32} {c_laid_leads : Nat → Int32} {c_bench_watchers : Nat → Int32} {c_notes_delays : Nat → Int32} {c_notes_margins : Nat → Int32} {c_notes_odds : Nat → Int32} {c_kept_0_delays : Nat → Int32} {c_kept_0_margins : Nat → Int32} {c_kept_0_odds : Nat → Int32} {c_kept_1_delays : Nat → Int32} {c_kept_1_margins : Nat → Int32} {c_kept_1_odds : Nat → Int32} {c_keptCount : Int32} {m_length : Int32} {m_text : Nat → Int32} {m_roundMany : Nat → Int32} {m_blowMany : Nat → Int32} {m_blows : Nat → Int32} {m_forwards : Nat → Int32} {m_downs : Nat → Int32} {m_takens : Nat → Int32} {m_homes : Nat → Int32} {m_noises : Nat → Int32} {m_judgeMany : Nat → Int32} {m_judges : Nat → Int32} {m_delays : Nat → Int32} {m_tolds : Nat → Int32} {m_tens : Nat → Int32} {m_keptMany : Int32} (x0 : Int32) (x1 : Int32) (x2 : Int32) (x3 : Int32) (x4 : Int32) (x5 : Int32) (c_flips_howMany : Int32) (c_flips_ways : Nat → Int64) (m_nextWays : Nat → Int64) (m_tallies : Nat → Int64) (m_ways : Nat → Int64) (hR : RR c_text_length c_text_bytes c_laid_rounds c_laid_home c_laid_noise c_laid_blowCount c_laid_judgeCount c_laid_blows c_laid_judges c_laid_forward c_laid_downs c_laid_taken c_laid_seenBy c_laid_sums c_laid_leads c_bench_watchers c_notes_delays c_notes_margins c_notes_odds c_kept_0_delays c_kept_0_margins c_kept_0_odds c_kept_1_delays c_kept_1_margins c_kept_1_odds c_keptCount m_length m_text m_roundMany m_blowMany m_blows m_forwards m_downs m_takens m_homes m_noises m_judgeMany m_judges m_delays m_tolds m_tens m_keptMany) : ∃ (oc : Int64 × (Nat → Int64) × Int32) (om : Int64 × (Nat → Int64) × (Nat → Int64) × (Nat → Int64)), mX10_coins x0 x1 x2 x3 x4 x5 c_flips_howMany c_laid_rounds c_laid_judgeCount c_flips_ways c_laid_downs c_laid_judges c_laid_leads c_laid_taken = some oc ∧ mX11_coins x0 x1 x2 x3 x4 x5 m_blowMany m_blows m_downs m_forwards m_homes m_judgeMany m_judges m_nextWays m_noises m_roundMany m_takens m_tallies m_ways = some om ∧ oc.1 = om.1 := by
  obtain ⟨-, ⟨a, hA, ⟨rfl, rfl, rfl, rfl, rfl, hC⟩, hS, hM⟩, -⟩ := hR
  have h1 := hA.1.1
  have h2 := hA.1.2.2.1
  unfold mX10_coins mX11_coins
  rw [in_wl 0 1 (by decide) (by decide), wi_bind, wi_bind, X11_areThree_s x1 x2 x3 (aJ a) hM.2.2.1, th_bind, th_bind, in_wl (-1) 2 (by decide) (by decide), wi_bind, wi_bind]
  by_cases cr : (0 : Int32) ≤ x0 ∧ x0 ≤ 1
  · by_cases c0 : (isJ x1 (aJ a) ∧ isJ x2 (aJ a) ∧ isJ x3 (aJ a)) ∧ (¬ x1 = x2 ∧ ¬ x1 = x3 ∧ ¬ x2 = x3)
    · by_cases c1 : (-1 : Int32) ≤ x4 ∧ x4 ≤ 2
      · rw [if_pos cr, if_pos cr, if_pos c0, if_pos c0, if_pos c1, if_pos c1]
        obtain ⟨p, hp, rfl⟩ := w_n (b := 1) (by omega) cr
        obtain ⟨i, hi, rfl⟩ := w_J (by omega) c0.1.1
        obtain ⟨j, hj, rfl⟩ := w_J (by omega) c0.1.2.1
        obtain ⟨k, hk, rfl⟩ := w_J (by omega) c0.1.2.2
        obtain ⟨z, hz1, hz2, rfl⟩ := w_i (a := -1) (b := 2) (by omega) (by omega) (by omega) (show iI (-1) ≤ x4 ∧ x4 ≤ iI 2 from c1)
        have n1 := nS_le (a := a) i (r := aR a)
        have n2 := nS_le (a := a) j (r := aR a)
        have n3 := nS_le (a := a) k (r := aR a)
        obtain ⟨w1, e1, f1, g1⟩ := X2_tossOne_s hA.1 hC.2.1 hC.2.2.2.1 hC.2.2.2.2 hS hp hi (show 0 < 3 by omega) 0 (fun k => if k < 9 then 0 else c_flips_ways k) (fun o ho => if_pos (by omega))
        obtain ⟨w2, e2, f2, g2⟩ := X2_tossOne_s hA.1 hC.2.1 hC.2.2.2.1 hC.2.2.2.2 hS hp hj (show 1 < 3 by omega) (0 + nS a i (aR a)) w1 (fun o ho => by rw [g1 _ (by omega)]; exact if_pos (by omega))
        obtain ⟨w3, e3, f3, g3⟩ := X2_tossOne_s hA.1 hC.2.1 hC.2.2.2.1 hC.2.2.2.2 hS hp hk (show 2 < 3 by omega) (0 + nS a i (aR a) + nS a j (aR a)) w2 (fun o ho => by rw [g2 _ (by omega), g1 _ (by omega)]; exact if_pos (by omega))
        have et : mX2_toss (nI p) (nI i) (nI j) (nI k) c_flips_howMany (nI (aR a)) c_flips_ways c_laid_downs c_laid_judges c_laid_leads c_laid_taken = some (w3, nI (0 + nS a i (aR a) + nS a j (aR a) + nS a k (aR a))) := by
          unfold mX2_toss
          rw [fillL_s _ 9 (by omega), b_some, show (0 : Int32) = nI (3 * 0) from rfl, show (3 : Int32) = nI (3 * 1) from rfl, show (6 : Int32) = nI (3 * 2) from rfl, show mX2_tossOne (nI p) (nI i) (nI (3 * 0)) (nI (3 * 0)) = mX2_tossOne (nI p) (nI i) (nI (3 * 0)) (nI 0) from rfl, e1, b_some]
          simp only []
          rw [e2, b_some]
          simp only []
          rw [e3, b_some]
        have k1 : ∀ o, o < 3 → w3 o = lN (G3 p a i o) := fun o ho => by rw [g3 _ (by omega), g2 _ (by omega)]; have := f1 o ho; rw [show 3 * 0 + o = o by omega] at this; exact this
        have k2 : ∀ o, o < 3 → w3 (3 + o) = lN (G3 p a j o) := fun o ho => by rw [g3 _ (by omega)]; have := f2 o ho; exact this
        have k3 : ∀ o, o < 3 → w3 (6 + o) = lN (G3 p a k o) := fun o ho => f3 o ho
        rw [Nat.zero_add] at et
        unfold mX10_coins_B48 mX11_coins_B50
        by_cases cm : z = -1
        · subst cm
          rw [if_pos (show iI (-1) = (-1 : Int32) from rfl), if_neg (show ¬ (0 : Int32) ≤ iI (-1) by decide), in_wl 0 0 (by decide) (by decide), wi_bind, wi_bind]
          by_cases c5 : (0 : Int32) ≤ x5 ∧ x5 ≤ 0
          · rw [if_pos c5, if_pos c5, et, b_some, if_pos (show iI (-1) = (-1 : Int32) from rfl), X11_coinsOf_s hA.1 hM hi, b_some, X11_coinsOf_s hA.1 hM hj, b_some, X11_coinsOf_s hA.1 hM hk, b_some, n_add, n_add, lb_d, lb_d, if_neg (show ¬ (0 : Int32) ≤ iI (-1) by decide), lb_d]
            exact ⟨_, _, rfl, rfl, rfl⟩
          · rw [if_neg c5, if_neg c5]
            exact ⟨_, _, rfl, rfl, rfl⟩
        · obtain ⟨e, rfl⟩ : ∃ e : Nat, z = (e : Int) := ⟨z.toNat, by omega⟩
          have ne : ¬ iI (e : Int) = (-1 : Int32) := fun hh => cm ((iI_eq (by omega) (by omega) (by omega) (by omega)).mp (hh.trans i_m1))
          have pe : (0 : Int32) ≤ iI (e : Int) := by rw [i_0]; exact (iI_le (by omega) (by omega) (by omega) (by omega)).mpr (by omega)
          rw [if_neg ne, if_pos pe, in_wl 0 1 (by decide) (by decide), wi_bind, wi_bind]
          by_cases c5 : (0 : Int32) ≤ x5 ∧ x5 ≤ 1
          · have hb := wW_lt (G3_le hA.1 p i) (G3_le hA.1 p j) (G3_le hA.1 p k) e
            obtain ⟨o1, r1, s1, q1⟩ := X11_layWays_s hA.1 hM hp hi (show 0 < 3 by omega) m_nextWays m_tallies m_ways
            obtain ⟨o2, r2, s2, q2⟩ := X11_layWays_s hA.1 hM hp hj (show 1 < 3 by omega) o1.2.1 o1.2.2 o1.1
            obtain ⟨o3, r3, s3, q3⟩ := X11_layWays_s hA.1 hM hp hk (show 2 < 3 by omega) o2.2.1 o2.2.2 o2.1
            have t1 : ∀ o, o < 3 → o3.2.2 o = lN (G3 p a i o) := fun o ho => by rw [q3 _ (by omega), q2 _ (by omega)]; have := s1 o ho; rw [show 3 * 0 + o = o by omega] at this; exact this
            have t2 : ∀ o, o < 3 → o3.2.2 (3 + o) = lN (G3 p a j o) := fun o ho => by rw [q3 _ (by omega)]; have := s2 o ho; exact this
            have t3 : ∀ o, o < 3 → o3.2.2 (6 + o) = lN (G3 p a k o) := fun o ho => s3 o ho
            have hm : nS a i (aR a) + nS a j (aR a) + nS a k (aR a) ≤ 36 := by omega
            rw [if_pos c5, if_pos c5, et, b_some, if_neg ne, X11_coinsOf_s hA.1 hM hi, b_some, X11_coinsOf_s hA.1 hM hj, b_some, X11_coinsOf_s hA.1 hM hk, b_some, n_add, n_add, lb_d, if_pos pe, show (0 : Int32) = nI 0 from rfl, n_lit 1, n_lit 2, r1, b_some, r2, b_some, r3, b_some, ← nI_iI e]
            have ho : mX2_oddsOf (nI e) x5 (nI (nS a i (aR a) + nS a j (aR a) + nS a k (aR a))) w3 = some (lN (if x5 = 0 then wW e (G3 p a i) (G3 p a j) (G3 p a k) / Nat.gcd (wW e (G3 p a i) (G3 p a j) (G3 p a k)) (2 ^ (nS a i (aR a) + nS a j (aR a) + nS a k (aR a))) else 2 ^ (nS a i (aR a) + nS a j (aR a) + nS a k (aR a)) / Nat.gcd (wW e (G3 p a i) (G3 p a j) (G3 p a k)) (2 ^ (nS a i (aR a) + nS a j (aR a) + nS a k (aR a))))) := by
              unfold mX2_oddsOf
              rw [X2_ways_s (by omega) k1 k2 k3, b_some, bit64 _ (by omega), lb_d]
              exact X2_odds_17 hm w3 _ 0 FUEL _ (by omega) (by unfold FUEL; omega) hb
            have hl := X11_coins_L (x0 := nI p) (x1 := nI i) (x2 := nI j) (x3 := nI k) (x5 := x5) (blowMany := m_blowMany) (blows := m_blows) (downs := m_downs) (forwards := m_forwards) (homes := m_homes) (judgeMany := m_judgeMany) (judges := m_judges) (noises := m_noises) (roundMany := m_roundMany) (takens := m_takens) (show e < 3 by omega) t1 t2 t3 o3.1 o3.2.1 hm hb
            refine ⟨(_, w3, nI (nS a i (aR a) + nS a j (aR a) + nS a k (aR a))), _, ?_, hl, rfl⟩
            show (mX2_oddsOf (nI e) x5 (nI (nS a i (aR a) + nS a j (aR a) + nS a k (aR a))) w3).bind (fun o17 => some (o17, w3, nI (nS a i (aR a) + nS a j (aR a) + nS a k (aR a)))) = _
            rw [ho, b_some]
          · rw [if_neg c5, if_neg c5]
            exact ⟨_, _, rfl, rfl, rfl⟩
      · rw [if_pos cr, if_pos cr, if_pos c0, if_pos c0, if_neg c1, if_neg c1]
        exact ⟨_, _, rfl, rfl, rfl⟩
    · rw [if_pos cr, if_pos cr, if_neg c0, if_neg c0]
      exact ⟨_, _, rfl, rfl, rfl⟩
  · rw [if_neg cr, if_neg cr]
    exact ⟨_, _, rfl, rfl, rfl⟩
