/-! PLAIN: adding up, the first state -/
theorem X3_sumOf_l {sums : Nat → Int32} {j r c v : Nat} (hj : j < 8) (hr : r < 12) (hc : c < 2) (h : sums ((j * 12 + r) * 2 + c) = nI v) : mX3_sumOf (nI j) (nI r) (nI c) sums = some (nI v) := by
  unfold mX3_sumOf mX3_sumPlace
  rw [n_lit 12, n_lit 2, n_mul, n_add, n_mul, n_add]
  simp only [lb_d, b_some]
  rw [gi_n (by omega) (by omega), n_cl (by omega), h]
theorem X3_addUpBlow_95 {a : AT} {blows judges : Nat → Int32} (hA : OKD a) (hBl : ∀ k, k < 5 * aB a → blows k = nI (bl a k)) {j k : Nat} (hj : j < aJ a) (hk : k < aB a) (h m : Int32) (s su : Nat → Int32) (x : Int32) : mX3_addUpBlow_B95 (nI j) (nI k) h m blows judges x s su = some (s, upd su ((j * 12 + bl a (5 * k)) * 2 + bl a (5 * k + 2)) (su ((j * 12 + bl a (5 * k)) * 2 + bl a (5 * k + 2)) + x)) := by
  have hJ := hA.2.2.1
  have hb := hA.2.2.2.2.1 k hk
  unfold okBl at hb
  unfold mX3_addUpBlow_B95 mX3_sumPlace
  rw [show (0 : Int32) = nI 0 from rfl, n_lit 2, X3_blowPart_s hA hBl hk (by omega), b_some, X3_blowPart_s hA hBl hk (by omega), b_some, Nat.add_zero]
  simp only [lb_d, b_some]
  rw [n_lit 12, n_mul, n_add, n_mul, n_add, gi_n (by omega) (by omega), gi_n (by omega) (by omega), n_cl (by omega)]
theorem n_bit1 : ∀ n : Nat, n < 12 → nI 1 <<< (nI n &&& 31) = nI (1 <<< n) := by decide
theorem X3_addUpBlow_s {a : AT} {blows judges : Nat → Int32} (hA : OKD a) (hBl : ∀ k, k < 5 * aB a → blows k = nI (bl a k)) (hJd : ∀ k, k < 7 * aJ a → judges k = nI (jd a k)) {j k : Nat} (hj : j < aJ a) (hk : k < aB a) (s su : Nat → Int32) : mX3_addUpBlow (nI j) (nI k) (nI (aH a)) (nI (aN a)) blows judges s su = some (if seesB a j k = true then upd s k (s k ||| nI (1 <<< j)) else s, upd su ((j * 12 + bl a (5 * k)) * 2 + bl a (5 * k + 2)) (su ((j * 12 + bl a (5 * k)) * 2 + bl a (5 * k + 2)) + nI (gW a j (bl a (5 * k)) (bl a (5 * k + 2)) k))) := by
  have hJ := hA.2.2.1
  have hB := hA.2.1
  have hH := hA.2.2.2.1
  have hb := hA.2.2.2.2.1 k hk
  have hd := hA.2.2.2.2.2.1 j hj
  unfold okBl at hb
  unfold okJd at hd
  have e9 : ∀ (p : Nat), p < 7 → mX3_judgePart (nI j) (nI p) judges = some (nI (jd a (7 * j + p))) := fun p hp => X3_judgePart_s hA hJd hj hp
  have e8 : ∀ (p : Nat), p < 5 → mX3_blowPart (nI k) (nI p) blows = some (nI (bl a (5 * k + p))) := fun p hp => X3_blowPart_s hA hBl hk hp
  have hbit : nI 1 <<< (nI j &&& 31) = nI (1 <<< j) := n_bit1 j (by omega)
  unfold mX3_addUpBlow
  rw [show (0 : Int32) = nI 0 from rfl, n_lit 4, n_lit 2, n_lit 5, n_lit 1, n_lit 3, e9 0 (by omega), b_some, e8 4 (by omega), b_some, Nat.add_zero, X3_isSeenFrom_s (by omega) (by omega), b_some]
  rw [hbit, e8 2 (by omega), e9 5 (by omega), e9 1 (by omega), e8 3 (by omega), e8 1 (by omega), e9 4 (by omega)]
  have hs : seesB a j k = nearB (jd a (7 * j)) (bl a (5 * k + 4)) := rfl
  have hg : gW a j (bl a (5 * k)) (bl a (5 * k + 2)) k = if seesB a j k = true then jd a (7 * j + 1) * bl a (5 * k + 3) * (if bl a (5 * k + 1) < 170 then 1 else jd a (7 * j + 4)) else if aH a = bl a (5 * k + 2) then aN a * jd a (7 * j + 5) else 0 := by
    unfold gW
    rw [if_pos ⟨rfl, rfl⟩]
  rw [hg, hs]
  by_cases h : nearB (jd a (7 * j)) (bl a (5 * k + 4)) = true
  · rw [if_pos h, if_pos h, if_neg (by decide), if_pos h, gi_n (by omega) (by omega), gi_n (by omega) (by omega), lb_d, b_some, b_some, lb_d, b_some, n_cl (by omega), n_lit 170, n_mul]
    by_cases h7 : bl a (5 * k + 1) < 170
    · rw [if_pos ((n_lt (by omega) (by omega)).mpr h7), if_pos h7, Nat.mul_one, X3_addUpBlow_95 hA hBl hj hk]
    · rw [if_neg (fun hh => h7 ((n_lt (by omega) (by omega)).mp hh)), if_neg h7, b_some, n_mul, lb_d, X3_addUpBlow_95 hA hBl hj hk]
  · rw [if_neg h, if_neg h, if_pos (show (0 : Int32) = nI 0 from rfl), if_neg h, b_some]
    by_cases h7 : aH a = bl a (5 * k + 2)
    · rw [if_pos ((n_eq (by omega) (by omega)).mpr h7.symm), if_pos h7, b_some, n_mul, lb_d, X3_addUpBlow_95 hA hBl hj hk]
    · rw [if_neg (fun hh => h7 ((n_eq (by omega) (by omega)).mp hh).symm), if_neg h7, X3_addUpBlow_95 hA hBl hj hk]
theorem X3_addUp_82 {a : AT} {blows judges forward : Nat → Int32} (hA : OKD a) (hJd : ∀ k, k < 7 * aJ a → judges k = nI (jd a k)) {j : Nat} (hj : j < aJ a) (h m c2 c3 : Int32) (k10) (s su : Nat → Int32) (hsu : ∀ r c, r < 12 → c < 2 → su ((j * 12 + r) * 2 + c) = nI (sumS a j r c)) : ∀ (d r n : Nat) (le : Nat → Int32), r + d = 12 → d < n → ∃ le', mX3_addUp_L82 h m c2 c3 blows forward judges k10 n (nI j) (nI r) s su le = k10 (nI (j + 1)) s su le' ∧ (∀ k, k < j * 12 + r → le' k = le k) ∧ (∀ q, r ≤ q → q < 12 → le' (j * 12 + q) = iI (leadS a j q)) := by
  have hJ := hA.2.2.1
  intro d
  induction d with
  | zero =>
    intro r n le hr hn
    obtain ⟨n, rfl⟩ : ∃ q, n = q + 1 := ⟨n - 1, by omega⟩
    refine ⟨le, ?_, fun _ _ => rfl, fun q h1 h2 => absurd h1 (by omega)⟩
    rw [eX3_addUp_82]
    unfold mX3_addUp_B82
    rw [n_lit 12, if_pos ((n_le (by omega) (by omega)).mpr (by omega)), n_lit 1, n_add]
    rfl
  | succ d ih =>
    intro r n le hr hn
    obtain ⟨n, rfl⟩ : ∃ q, n = q + 1 := ⟨n - 1, by omega⟩
    have hl : ((nI (sumS a j r 0) - nI (sumS a j r 1)) + nI (jd a (7 * j + 3))) - (20 : Int32) = iI (leadS a j r) := by
      unfold leadS
      rw [nI_iI, nI_iI, nI_iI, i_20, iI_sub, iI_add, iI_sub]
    obtain ⟨le', e1, e2, e3⟩ := ih (r + 1) n (upd le (j * 12 + r) (iI (leadS a j r))) (by omega) (by omega)
    refine ⟨le', ?_, fun k hk => by rw [e2 k (by omega), upd_n (by omega)], fun q h1 h2 => ?_⟩
    · rw [eX3_addUp_82]
      unfold mX3_addUp_B82
      rw [n_lit 12, if_neg (fun hh => absurd ((n_le (a := 12) (by omega) (by omega)).mp hh) (by omega)), show (0 : Int32) = nI 0 from rfl, n_lit 3, X3_judgePart_s hA hJd hj (by omega), n_lit 1, X3_sumOf_l (by omega) (by omega) (by omega) (hsu r 0 (by omega) (by omega)), b_some, X3_sumOf_l (by omega) (by omega) (by omega) (hsu r 1 (by omega) (by omega)), b_some, n_mul, n_add, n_add]

      simp only [b_some, lb_d]
      rw [hl, gi_n (by omega) (by omega), n_cl (by omega)]
      exact e1
    · by_cases h : q = r
      · rw [h, e2 _ (by omega), upd_s]
      · exact e3 q (by omega) h2
theorem X3_addUp_60 {a : AT} {blows judges forward : Nat → Int32} (hA : OKD a) (hBl : ∀ k, k < 5 * aB a → blows k = nI (bl a k)) (hJd : ∀ k, k < 7 * aJ a → judges k = nI (jd a k)) {j : Nat} (hj : j < aJ a) (c3 : Int32) (k10) (le : Nat → Int32) : ∀ (d i n : Nat) (s su : Nat → Int32), i + d = aB a → d < n → (∀ r c, r < 12 → c < 2 → ∃ v, su ((j * 12 + r) * 2 + c) = nI v ∧ v + sF (gW a j r c) i d = sumS a j r c) → (∀ k, i ≤ k → k < aB a → s k = nI (seenS a k j)) → (∀ k, k < i → s k = nI (seenS a k (j + 1))) → ∃ s' su' le', mX3_addUp_L60 (nI (aH a)) (nI (aN a)) (nI (aB a)) c3 blows forward judges k10 n (nI j) (nI i) s su le = k10 (nI (j + 1)) s' su' le' ∧ (∀ k, k < j * 12 → le' k = le k) ∧ (∀ q, q < 12 → le' (j * 12 + q) = iI (leadS a j q)) ∧ (∀ k, k < j * 24 → su' k = su k) ∧ (∀ r c, r < 12 → c < 2 → su' ((j * 12 + r) * 2 + c) = nI (sumS a j r c)) ∧ (∀ k, k < aB a → s' k = nI (seenS a k (j + 1))) := by
  have hJ := hA.2.2.1
  have hB := hA.2.1
  intro d
  induction d with
  | zero =>
    intro i n s su hi hn h1 h2 h3
    obtain ⟨n, rfl⟩ : ∃ q, n = q + 1 := ⟨n - 1, by omega⟩
    have h4 : ∀ r c, r < 12 → c < 2 → su ((j * 12 + r) * 2 + c) = nI (sumS a j r c) := by
      intro r c hr hc
      obtain ⟨v, e1, e2⟩ := h1 r c hr hc
      rw [e1, ← e2]
      rfl
    obtain ⟨le', e1, e2, e3⟩ := X3_addUp_82 (blows := blows) (forward := forward) hA hJd hj (nI (aH a)) (nI (aN a)) (nI (aB a)) c3 k10 s su h4 12 0 FUEL le (by omega) (by unfold FUEL; omega)
    refine ⟨s, su, le', ?_, fun k hk => e2 k (by omega), fun q hq => e3 q (by omega) hq, fun _ _ => rfl, h4, fun k hk => h3 k (by omega)⟩
    rw [eX3_addUp_60]
    unfold mX3_addUp_B60
    rw [if_pos ((n_le (by omega) (by omega)).mpr (by omega))]
    exact e1
  | succ d ih =>
    intro i n s su hi hn h1 h2 h3
    obtain ⟨n, rfl⟩ : ∃ q, n = q + 1 := ⟨n - 1, by omega⟩
    have hb := hA.2.2.2.2.1 i (by omega)
    unfold okBl at hb
    have e0 := X3_addUpBlow_s hA hBl hJd hj (show i < aB a by omega) s su
    have ex : ∃ s1 su1, mX3_addUpBlow (nI j) (nI i) (nI (aH a)) (nI (aN a)) blows judges s su = some (s1, su1) ∧ s1 = (if seesB a j i = true then upd s i (s i ||| nI (1 <<< j)) else s) ∧ su1 = upd su ((j * 12 + bl a (5 * i)) * 2 + bl a (5 * i + 2)) (su ((j * 12 + bl a (5 * i)) * 2 + bl a (5 * i + 2)) + nI (gW a j (bl a (5 * i)) (bl a (5 * i + 2)) i)) := ⟨_, _, e0, rfl, rfl⟩
    obtain ⟨s1, su1, e0, es, eu⟩ := ex
    have g1 : ∀ r c, r < 12 → c < 2 → ∃ v, su1 ((j * 12 + r) * 2 + c) = nI v ∧ v + sF (gW a j r c) (i + 1) d = sumS a j r c := by
      intro r c hr hc
      obtain ⟨v, e1, e2⟩ := h1 r c hr hc
      have e3 : sF (gW a j r c) i (d + 1) = gW a j r c i + sF (gW a j r c) (i + 1) d := rfl
      by_cases hq : bl a (5 * i) = r ∧ bl a (5 * i + 2) = c
      · refine ⟨v + gW a j r c i, ?_, by omega⟩
        rw [eu, hq.1, hq.2, upd_s, e1, n_add]
      · refine ⟨v, ?_, ?_⟩
        · rw [eu, upd_n (by omega), e1]
        · have e4 : gW a j r c i = 0 := by unfold gW; rw [if_neg hq]
          omega
    have g2 : ∀ k, i + 1 ≤ k → k < aB a → s1 k = nI (seenS a k j) := by
      intro k hk hk2
      rw [es]
      split
      · rw [upd_n (by omega), h2 k (by omega) hk2]
      · rw [h2 k (by omega) hk2]
    have g3 : ∀ k, k < i + 1 → s1 k = nI (seenS a k (j + 1)) := by
      intro k hk
      by_cases hki : k = i
      · rw [es, hki]
        have e5 : seenS a i (j + 1) = seenS a i j ||| (if seesB a j i = true then 1 <<< j else 0) := rfl
        rw [e5]
        by_cases h : seesB a j i = true
        · rw [if_pos h, if_pos h, upd_s, h2 i (by omega) (by omega), n_or]
        · rw [if_neg h, if_neg h, h2 i (by omega) (by omega), Nat.or_zero]
      · rw [es]
        split
        · rw [upd_n hki, h3 k (by omega)]
        · rw [h3 k (by omega)]
    obtain ⟨s', su', le', f1, f2, f3, f4, f5, f6⟩ := ih (i + 1) n s1 su1 (by omega) (by omega) g1 g2 g3
    refine ⟨s', su', le', ?_, f2, f3, fun k hk => ?_, f5, f6⟩
    · rw [eX3_addUp_60]
      unfold mX3_addUp_B60
      rw [if_neg (fun hh => absurd ((n_le (by omega) (by omega)).mp hh) (by omega)), e0, b_some, lb_d, n_lit 1, n_add]
      exact f1
    · rw [f4 k hk, eu, upd_n (by omega)]
theorem X3_addUp_20 {a : AT} {blows judges forward : Nat → Int32} (hA : OKD a) (hBl : ∀ k, k < 5 * aB a → blows k = nI (bl a k)) (hJd : ∀ k, k < 7 * aJ a → judges k = nI (jd a k)) (hFw : ∀ k, k < 24 → forward k = nI (fw a k)) {j : Nat} (hj : j < aJ a) (c3 : Int32) (k10) (le s : Nat → Int32) (h2 : ∀ k, k < aB a → s k = nI (seenS a k j)) : ∀ (d i n : Nat) (su : Nat → Int32), i + d = 24 → d < n → (∀ k, k < i → su (j * 24 + k) = nI (jd a (7 * j + 2) * fw a k)) → ∃ s' su' le', mX3_addUp_L20 (nI (aH a)) (nI (aN a)) (nI (aB a)) c3 blows forward judges k10 n (nI j) (nI i) s su le = k10 (nI (j + 1)) s' su' le' ∧ (∀ k, k < j * 12 → le' k = le k) ∧ (∀ q, q < 12 → le' (j * 12 + q) = iI (leadS a j q)) ∧ (∀ k, k < j * 24 → su' k = su k) ∧ (∀ r c, r < 12 → c < 2 → su' ((j * 12 + r) * 2 + c) = nI (sumS a j r c)) ∧ (∀ k, k < aB a → s' k = nI (seenS a k (j + 1))) := by
  have hJ := hA.2.2.1
  have hB := hA.2.1
  intro d
  induction d with
  | zero =>
    intro i n su hi hn h1
    obtain ⟨n, rfl⟩ : ∃ q, n = q + 1 := ⟨n - 1, by omega⟩
    rw [eX3_addUp_20]
    unfold mX3_addUp_B20
    rw [n_lit 24, if_pos ((n_le (by omega) (by omega)).mpr (by omega))]
    refine X3_addUp_60 hA hBl hJd hj c3 k10 le (aB a) 0 FUEL s su (by omega) (by unfold FUEL; omega) (fun r c hr hc => ⟨jd a (7 * j + 2) * fw a (2 * r + c), ?_, rfl⟩) (fun k _ hk => h2 k hk) (fun k hk => absurd hk (by omega))
    rw [show (j * 12 + r) * 2 + c = j * 24 + (2 * r + c) by omega, h1 _ (by omega)]
  | succ d ih =>
    intro i n su hi hn h1
    obtain ⟨n, rfl⟩ : ∃ q, n = q + 1 := ⟨n - 1, by omega⟩
    obtain ⟨s', su', le', f1, f2, f3, f4, f5, f6⟩ := ih (i + 1) n (upd su (j * 24 + i) (nI (jd a (7 * j + 2) * fw a i))) (by omega) (by omega) (fun k hk => by
      by_cases hki : k = i
      · rw [hki, upd_s]
      · rw [upd_n (by omega), h1 k (by omega)])
    refine ⟨s', su', le', ?_, f2, f3, fun k hk => by rw [f4 k hk, upd_n (by omega)], f5, f6⟩
    rw [eX3_addUp_20]
    unfold mX3_addUp_B20
    rw [n_lit 24, if_neg (fun hh => absurd ((n_le (a := 24) (by omega) (by omega)).mp hh) (by omega)), n_lit 12, n_lit 2, X3_judgePart_s hA hJd hj (by omega), b_some, gi_n (by omega) (by omega), n_mul, n_mul, n_add, gi_n (by omega) (by omega), n_lit 1, n_add, n_cl (by omega), n_cl (by omega), hFw i (by omega), n_mul, show j * 12 * 2 + i = j * 24 + i by omega]
    exact f1
theorem X3_addUp_s {a : AT} {blows judges forward : Nat → Int32} (hA : OKD a) (hBl : ∀ k, k < 5 * aB a → blows k = nI (bl a k)) (hJd : ∀ k, k < 7 * aJ a → judges k = nI (jd a k)) (hFw : ∀ k, k < 24 → forward k = nI (fw a k)) (le s su : Nat → Int32) : ∃ s' su' le', mX3_addUp (nI (aH a)) (nI (aN a)) (nI (aB a)) (nI (aJ a)) blows forward judges le s su = some (s', su', le') ∧ RCs a s' su' le' := by
  have hJ := hA.2.2.1
  have hB := hA.2.1
  have key : ∀ (d j n : Nat) (s su le : Nat → Int32), j + d = aJ a → d < n → (∀ k, k < aB a → s k = nI (seenS a k j)) → (∀ i r c, i < j → r < 12 → c < 2 → su ((i * 12 + r) * 2 + c) = nI (sumS a i r c)) → (∀ i r, i < j → r < 12 → le (i * 12 + r) = iI (leadS a i r)) → ∃ s' su' le', mX3_addUp_L10 (nI (aH a)) (nI (aN a)) (nI (aB a)) (nI (aJ a)) blows forward judges n (nI j) s su le = some (s', su', le') ∧ RCs a s' su' le' := by
    intro d
    induction d with
    | zero =>
      intro j n s su le hj hn h1 h2 h3
      obtain ⟨n, rfl⟩ : ∃ q, n = q + 1 := ⟨n - 1, by omega⟩
      have hj2 : j = aJ a := by omega
      subst hj2
      refine ⟨s, su, le, ?_, h1, h2, h3⟩
      rw [eX3_addUp_10]
      unfold mX3_addUp_B10
      rw [if_pos ((n_le (by omega) (by omega)).mpr (by omega))]
    | succ d ih =>
      intro j n s su le hj hn h1 h2 h3
      obtain ⟨n, rfl⟩ : ∃ q, n = q + 1 := ⟨n - 1, by omega⟩
      obtain ⟨s1, su1, le1, f1, f2, f3, f4, f5, f6⟩ := X3_addUp_20 hA hBl hJd hFw (show j < aJ a by omega) (nI (aJ a)) (mX3_addUp_L10 (nI (aH a)) (nI (aN a)) (nI (aB a)) (nI (aJ a)) blows forward judges n) le s h1 24 0 FUEL su (by omega) (by unfold FUEL; omega) (fun k hk => absurd hk (by omega))
      obtain ⟨s', su', le', g1, g2⟩ := ih (j + 1) n s1 su1 le1 (by omega) (by omega) f6 (fun i r c hi hr hc => by
        by_cases hij : i = j
        · rw [hij]; exact f5 r c hr hc
        · rw [f4 _ (by omega)]; exact h2 i r c (by omega) hr hc) (fun i r hi hr => by
        by_cases hij : i = j
        · rw [hij]; exact f3 r hr
        · rw [f2 _ (by omega)]; exact h3 i r (by omega) hr)
      refine ⟨s', su', le', ?_, g2⟩
      rw [eX3_addUp_10]
      unfold mX3_addUp_B10
      rw [if_neg (fun hh => absurd ((n_le (by omega) (by omega)).mp hh) (by omega)), n_lit 0]
      exact f1.trans g1
  unfold mX3_addUp
  rw [n_lit 0, fill_s _ 40 (by omega), b_some]
  exact key (aJ a) 0 FUEL _ su le (by omega) (by unfold FUEL; omega) (fun k hk => by rw [if_pos (by omega)]; rfl) (fun i _ _ hi => absurd hi (by omega)) (fun i _ hi => absurd hi (by omega))
