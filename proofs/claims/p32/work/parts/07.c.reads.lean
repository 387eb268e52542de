/-! API C: reads of the fight -/
theorem wi_bind {β : Type} (x a b : Int32) (A B : Option β) : (mX10_within x a b).bind (fun o => if o = 0 then A else B) = if a ≤ x ∧ x ≤ b then B else A := by
  rw [X10_within_s, b_some, if10]
theorem jd_bind {β : Type} (x : Int32) (J : Nat) (A B : Option β) : (mX10_isJudge x (nI J)).bind (fun o => if o = 0 then A else B) = if isJ x J then B else A := by
  rw [X10_isJudge_s, b_some, if10]
theorem sc_bind {β : Type} (x y : Int32) (J R : Nat) (A B : Option β) : (mX10_isScored x y (nI R) (nI J)).bind (fun o => if o = 0 then A else B) = if isJ x J then (if isJ y R then B else A) else A := by
  rw [X10_isScored_s, X10_isJudge_s, b_some, if10]
  by_cases h : isJ x J
  · rw [if_pos h, if_pos h, jd_bind]
  · rw [if_neg h, if_neg h]
    rfl
theorem co_bind {β : Type} (x : Int32) (A B : Option β) : (mX10_isCorner x).bind (fun o => if o = 0 then A else B) = if (0 : Int32) ≤ x ∧ x ≤ 1 then B else A := by
  unfold mX10_isCorner
  rw [X10_within_s, b_some, gz_b, b_some, if10]
theorem w_R {x : Int32} {J n : Nat} (hJ : J ≤ n) (hn : n < 2147483648) (h : isJ x J) : ∃ j : Nat, j < J ∧ j < n ∧ x = nI j := by
  obtain ⟨j, h1, h2⟩ := w_J (show J < 2147483648 by omega) h
  exact ⟨j, h1, by omega, h2⟩
section CS
variable {a : AT} {rounds home noise blowCount judgeCount : Int32} {blows judges forward downs taken seenBy sums leads : Nat → Int32}
theorem X3_judgePart_s (hA : OKD a) (hC : ∀ k, k < 7 * aJ a → judges k = nI (jd a k)) {j p : Nat} (hj : j < aJ a) (hp : p < 7) : mX3_judgePart (nI j) (nI p) judges = some (nI (jd a (7 * j + p))) := by
  have hJ := hA.2.2.1
  unfold mX3_judgePart
  rw [n_lit 7, n_mul, n_add, gi_n (by omega) (by omega), lb_d, n_cl (by omega), hC _ (by omega), Nat.mul_comm j 7]
theorem X3_blowPart_s (hA : OKD a) (hC : ∀ k, k < 5 * aB a → blows k = nI (bl a k)) {j p : Nat} (hj : j < aB a) (hp : p < 5) : mX3_blowPart (nI j) (nI p) blows = some (nI (bl a (5 * j + p))) := by
  have hB := hA.2.1
  unfold mX3_blowPart
  rw [n_lit 5, n_mul, n_add, gi_n (by omega) (by omega), lb_d, n_cl (by omega), hC _ (by omega), Nat.mul_comm j 5]
theorem X3_sumOf_s (hA : OKD a) (hS : RCs a seenBy sums leads) {j r c : Nat} (hj : j < aJ a) (hr : r < 12) (hc : c < 2) : mX3_sumOf (nI j) (nI r) (nI c) sums = some (nI (sumS a j r c)) := by
  have hJ := hA.2.2.1
  unfold mX3_sumOf mX3_sumPlace
  rw [n_lit 12, n_lit 2, n_mul, n_add, n_mul, n_add]
  simp only [lb_d, b_some]
  rw [gi_n (by omega) (by omega), n_cl (by omega), hS.2.1 j r c hj hr hc]
theorem X3_leadOf_s (hA : OKD a) (hS : RCs a seenBy sums leads) {j r : Nat} (hj : j < aJ a) (hr : r < 12) : mX3_leadOf (nI j) (nI r) leads = some (iI (leadS a j r)) := by
  have hJ := hA.2.2.1
  unfold mX3_leadOf
  rw [n_lit 12, n_mul, n_add, gi_n (by omega) (by omega), lb_d, n_cl (by omega), hS.2.2 j r hj hr]
theorem X3_isClose_s (hA : OKD a) (hC : ∀ k, k < 7 * aJ a → judges k = nI (jd a k)) (hS : RCs a seenBy sums leads) {j r : Nat} (hj : j < aJ a) (hr : r < 12) : mX3_isClose (nI j) (nI r) judges leads = some (if closeB a j r = true then 1 else 0) := by
  have hl := leadS_in hA hj hr
  have hd := hA.2.2.2.2.2.1 j hj
  unfold okJd at hd
  unfold mX3_isClose
  rw [X3_leadOf_s hA hS hj hr, b_some, n_lit 6, X3_judgePart_s hA hC hj (by omega), b_some, iabs_i (by omega) (by omega), nI_iI]
  by_cases h : closeB a j r = true
  · rw [if_pos h, if_neg]
    intro hh
    have h2 := (iI_lt (by omega) (by omega) (by split <;> omega) (by split <;> omega)).mp hh
    unfold closeB at h
    have h := of_decide_eq_true h
    revert h2
    split <;> omega
  · rw [if_neg h, if_pos]
    apply (iI_lt (by omega) (by omega) (by split <;> omega) (by split <;> omega)).mpr
    unfold closeB at h
    have h : ¬ (-(jd a (7 * j + 6) : Int) ≤ leadS a j r ∧ leadS a j r ≤ jd a (7 * j + 6)) := fun hh => h (decide_eq_true hh)
    split <;> omega
end CS
set_option maxRecDepth 100000 in
theorem api_sum {c_text_length : Int32} {c_text_bytes : Nat → Int32} {c_laid_rounds : Int32} {c_laid_home : Int32} {c_laid_noise : Int32} {c_laid_blowCount : Int32} {c_laid_judgeCount : Int32} {c_laid_blows : Nat → Int32} {c_laid_judges : Nat → Int32} {c_laid_forward : Nat → Int32} {c_laid_downs : Nat → Int32} {c_laid_taken : Nat → Int32} {c_laid_seenBy : Nat → Int32} {c_laid_sums : Nat → Int32} {c_laid_leads : Nat → Int32} {c_bench_watchers : Nat → Int32} {c_notes_delays : Nat → Int32} {c_notes_margins : Nat → Int32} {c_notes_odds : Nat → Int32} {c_kept_0_delays : Nat → Int32} {c_kept_0_margins : Nat → Int32} {c_kept_0_odds : Nat → Int32} {c_kept_1_delays : Nat → Int32} {c_kept_1_margins : Nat → Int32} {c_kept_1_odds : Nat → Int32} {c_keptCount : Int32} {m_length : Int32} {m_text : Nat → Int32} {m_roundMany : Nat → Int32} {m_blowMany : Nat → Int32} {m_blows : Nat → Int32} {m_forwards : Nat → Int32} {m_downs : Nat → Int32} {m_takens : Nat → Int32} {m_homes : Nat → Int32} {m_noises : Nat → Int32} {m_judgeMany : Nat → Int32} {m_judges : Nat → Int32} {m_delays : Nat → Int32} {m_tolds : Nat → Int32} {m_tens : Nat → Int32} {m_keptMany : Int32} (x0 : Int32) (x1 : Int32) (x2 : Int32)  (hR : RR c_text_length c_text_bytes c_laid_rounds c_laid_home c_laid_noise c_laid_blowCount c_laid_judgeCount c_laid_blows c_laid_judges c_laid_forward c_laid_downs c_laid_taken c_laid_seenBy c_laid_sums c_laid_leads c_bench_watchers c_notes_delays c_notes_margins c_notes_odds c_kept_0_delays c_kept_0_margins c_kept_0_odds c_kept_1_delays c_kept_1_margins c_kept_1_odds c_keptCount m_length m_text m_roundMany m_blowMany m_blows m_forwards m_downs m_takens m_homes m_noises m_judgeMany m_judges m_delays m_tolds m_tens m_keptMany) : ∃ (oc : Int32) (om : Int32), mX10_sum x0 x1 x2 c_laid_rounds c_laid_judgeCount c_laid_sums = some oc ∧ mX11_sum x0 x1 x2 m_blowMany m_blows m_forwards m_homes m_judgeMany m_judges m_noises m_roundMany = some om ∧ oc = om := by
  obtain ⟨-, ⟨a, hA, ⟨rfl, rfl, rfl, rfl, rfl, hC⟩, hS, hM⟩, -⟩ := hR
  have h1 := hA.1.1
  have h2 := hA.1.2.2.1
  unfold mX10_sum mX11_sum
  rw [sc_bind, X11_isJudge_s x0 (aJ a) hM.2.2.1, jd_bind, X11_isRound_s x1 (aR a) hM.1, jd_bind, co_bind, in_wl 0 1 (by decide) (by decide), wi_bind]
  by_cases c0 : isJ x0 (aJ a)
  · by_cases c1 : isJ x1 (aR a)
    · by_cases c2 : (0 : Int32) ≤ x2 ∧ x2 ≤ 1
      · simp only [if_pos c0, if_pos c1, if_pos c2]
        obtain ⟨j, hj, rfl⟩ := w_J (by omega) c0
        obtain ⟨r, hr, rfl⟩ := w_J (by omega) c1
        obtain ⟨c, hc, rfl⟩ := w_n (b := 1) (by omega) c2
        rw [X3_sumOf_s hA.1 hS hj (by omega) (by omega), X11_sumOf_s hA.1 hM hj (by omega) (by omega)]
        exact ⟨_, _, rfl, rfl, rfl⟩
      · simp only [if_pos c0, if_pos c1, if_neg c2]
        exact ⟨_, _, rfl, rfl, rfl⟩
    · simp only [if_pos c0, if_neg c1]
      exact ⟨_, _, rfl, rfl, rfl⟩
  · simp only [if_neg c0]
    exact ⟨_, _, rfl, rfl, rfl⟩
set_option maxRecDepth 100000 in
theorem api_lead {c_text_length : Int32} {c_text_bytes : Nat → Int32} {c_laid_rounds : Int32} {c_laid_home : Int32} {c_laid_noise : Int32} {c_laid_blowCount : Int32} {c_laid_judgeCount : Int32} {c_laid_blows : Nat → Int32} {c_laid_judges : Nat → Int32} {c_laid_forward : Nat → Int32} {c_laid_downs : Nat → Int32} {c_laid_taken : Nat → Int32} {c_laid_seenBy : Nat → Int32} {c_laid_sums : Nat → Int32} {c_laid_leads : Nat → Int32} {c_bench_watchers : Nat → Int32} {c_notes_delays : Nat → Int32} {c_notes_margins : Nat → Int32} {c_notes_odds : Nat → Int32} {c_kept_0_delays : Nat → Int32} {c_kept_0_margins : Nat → Int32} {c_kept_0_odds : Nat → Int32} {c_kept_1_delays : Nat → Int32} {c_kept_1_margins : Nat → Int32} {c_kept_1_odds : Nat → Int32} {c_keptCount : Int32} {m_length : Int32} {m_text : Nat → Int32} {m_roundMany : Nat → Int32} {m_blowMany : Nat → Int32} {m_blows : Nat → Int32} {m_forwards : Nat → Int32} {m_downs : Nat → Int32} {m_takens : Nat → Int32} {m_homes : Nat → Int32} {m_noises : Nat → Int32} {m_judgeMany : Nat → Int32} {m_judges : Nat → Int32} {m_delays : Nat → Int32} {m_tolds : Nat → Int32} {m_tens : Nat → Int32} {m_keptMany : Int32} (x0 : Int32) (x1 : Int32)  (hR : RR c_text_length c_text_bytes c_laid_rounds c_laid_home c_laid_noise c_laid_blowCount c_laid_judgeCount c_laid_blows c_laid_judges c_laid_forward c_laid_downs c_laid_taken c_laid_seenBy c_laid_sums c_laid_leads c_bench_watchers c_notes_delays c_notes_margins c_notes_odds c_kept_0_delays c_kept_0_margins c_kept_0_odds c_kept_1_delays c_kept_1_margins c_kept_1_odds c_keptCount m_length m_text m_roundMany m_blowMany m_blows m_forwards m_downs m_takens m_homes m_noises m_judgeMany m_judges m_delays m_tolds m_tens m_keptMany) : ∃ (oc : Int32) (om : Int32), mX10_lead x0 x1 c_laid_rounds c_laid_judgeCount c_laid_leads = some oc ∧ mX11_lead x0 x1 m_blowMany m_blows m_forwards m_homes m_judgeMany m_judges m_noises m_roundMany = some om ∧ oc = om := by
  obtain ⟨-, ⟨a, hA, ⟨rfl, rfl, rfl, rfl, rfl, hC⟩, hS, hM⟩, -⟩ := hR
  have h1 := hA.1.1
  have h2 := hA.1.2.2.1
  unfold mX10_lead mX11_lead
  rw [sc_bind, X11_isJudge_s x0 (aJ a) hM.2.2.1, jd_bind, X11_isRound_s x1 (aR a) hM.1, jd_bind]
  by_cases c0 : isJ x0 (aJ a)
  · by_cases c1 : isJ x1 (aR a)
    · simp only [if_pos c0, if_pos c1]
      obtain ⟨j, hj, rfl⟩ := w_J (by omega) c0
      obtain ⟨r, hr, rfl⟩ := w_J (by omega) c1
      rw [X3_leadOf_s hA.1 hS hj (by omega), X11_leadOf_s hA.1 hM hj (by omega)]
      exact ⟨_, _, rfl, rfl, rfl⟩
    · simp only [if_pos c0, if_neg c1]
      exact ⟨_, _, rfl, rfl, rfl⟩
  · simp only [if_neg c0]
    exact ⟨_, _, rfl, rfl, rfl⟩
set_option maxRecDepth 100000 in
theorem api_close {c_text_length : Int32} {c_text_bytes : Nat → Int32} {c_laid_rounds : Int32} {c_laid_home : Int32} {c_laid_noise : Int32} {c_laid_blowCount : Int32} {c_laid_judgeCount : Int32} {c_laid_blows : Nat → Int32} {c_laid_judges : Nat → Int32} {c_laid_forward : Nat → Int32} {c_laid_downs : Nat → Int32} {c_laid_taken : Nat → Int32} {c_laid_seenBy : Nat → Int32} {c_laid_sums : Nat → Int32} {c_laid_leads : Nat → Int32} {c_bench_watchers : Nat → Int32} {c_notes_delays : Nat → Int32} {c_notes_margins : Nat → Int32} {c_notes_odds : Nat → Int32} {c_kept_0_delays : Nat → Int32} {c_kept_0_margins : Nat → Int32} {c_kept_0_odds : Nat → Int32} {c_kept_1_delays : Nat → Int32} {c_kept_1_margins : Nat → Int32} {c_kept_1_odds : Nat → Int32} {c_keptCount : Int32} {m_length : Int32} {m_text : Nat → Int32} {m_roundMany : Nat → Int32} {m_blowMany : Nat → Int32} {m_blows : Nat → Int32} {m_forwards : Nat → Int32} {m_downs : Nat → Int32} {m_takens : Nat → Int32} {m_homes : Nat → Int32} {m_noises : Nat → Int32} {m_judgeMany : Nat → Int32} {m_judges : Nat → Int32} {m_delays : Nat → Int32} {m_tolds : Nat → Int32} {m_tens : Nat → Int32} {m_keptMany : Int32} (x0 : Int32) (x1 : Int32)  (hR : RR c_text_length c_text_bytes c_laid_rounds c_laid_home c_laid_noise c_laid_blowCount c_laid_judgeCount c_laid_blows c_laid_judges c_laid_forward c_laid_downs c_laid_taken c_laid_seenBy c_laid_sums c_laid_leads c_bench_watchers c_notes_delays c_notes_margins c_notes_odds c_kept_0_delays c_kept_0_margins c_kept_0_odds c_kept_1_delays c_kept_1_margins c_kept_1_odds c_keptCount m_length m_text m_roundMany m_blowMany m_blows m_forwards m_downs m_takens m_homes m_noises m_judgeMany m_judges m_delays m_tolds m_tens m_keptMany) : ∃ (oc : Int32) (om : Int32), mX10_close x0 x1 c_laid_rounds c_laid_judgeCount c_laid_judges c_laid_leads = some oc ∧ mX11_close x0 x1 m_blowMany m_blows m_forwards m_homes m_judgeMany m_judges m_noises m_roundMany = some om ∧ oc = om := by
  obtain ⟨-, ⟨a, hA, ⟨rfl, rfl, rfl, rfl, rfl, hC⟩, hS, hM⟩, -⟩ := hR
  have h1 := hA.1.1
  have h2 := hA.1.2.2.1
  unfold mX10_close mX11_close
  rw [sc_bind, X11_isJudge_s x0 (aJ a) hM.2.2.1, jd_bind, X11_isRound_s x1 (aR a) hM.1, jd_bind]
  by_cases c0 : isJ x0 (aJ a)
  · by_cases c1 : isJ x1 (aR a)
    · simp only [if_pos c0, if_pos c1]
      obtain ⟨j, hj, rfl⟩ := w_J (by omega) c0
      obtain ⟨r, hr, rfl⟩ := w_J (by omega) c1
      rw [X3_isClose_s hA.1 hC.2.1 hS hj (by omega), X11_isClose_s hA.1 hM hj (by omega), b_some, if10]
      by_cases c3 : closeB a j r = true
      · simp only [if_pos c3]
        exact ⟨_, _, rfl, rfl, rfl⟩
      · simp only [if_neg c3]
        exact ⟨_, _, rfl, rfl, rfl⟩
    · simp only [if_pos c0, if_neg c1]
      exact ⟨_, _, rfl, rfl, rfl⟩
  · simp only [if_neg c0]
    exact ⟨_, _, rfl, rfl, rfl⟩
theorem seenS_lt (a : AT) (k : Nat) : ∀ n, n ≤ 8 → seenS a k n < 2 ^ n
  | 0, _ => by simp [seenS]
  | n + 1, h => by
    have h1 := seenS_lt a k n (by omega)
    rw [seenS]
    apply Nat.or_lt_two_pow
    · exact Nat.lt_of_lt_of_le h1 (Nat.pow_le_pow_right (by omega) (by omega))
    · split
      · rw [Nat.one_shiftLeft]
        exact Nat.pow_lt_pow_right (by omega) (by omega)
      · exact Nat.two_pow_pos _
theorem X11_blow_L {a : AT} {roundMany blowMany blows forwards downs takens homes noises judgeMany judges : Nat → Int32} {x1 : Int32} (hA : OKD a) (hM : RM a roundMany blowMany blows forwards downs takens homes noises judgeMany judges) {k : Nat} (hk : k < aB a) :
    ∀ (d i n : Nat), i + d = aJ a → d < n → mX11_blow_L53 (nI k) x1 blowMany blows judgeMany judges n (nI (seenS a k i)) (nI i) = some (nI (seenS a k (aJ a))) := by
  have hJ := hA.2.2.1
  intro d
  induction d with
  | zero =>
    intro i n hi hn
    obtain ⟨n, rfl⟩ : ∃ q, n = q + 1 := ⟨n - 1, by omega⟩
    rw [eX11_blow_53]
    unfold mX11_blow_B53
    rw [show (0 : Int32).toNatClampNeg = 0 from rfl, hM.2.2.1, if_pos ((n_le (by omega) (by omega)).mpr (by omega)), show i = aJ a by omega]
  | succ d ih =>
    intro i n hi hn
    obtain ⟨n, rfl⟩ : ∃ q, n = q + 1 := ⟨n - 1, by omega⟩
    rw [eX11_blow_53]
    unfold mX11_blow_B53
    rw [show (0 : Int32).toNatClampNeg = 0 from rfl, hM.2.2.1, if_neg (fun hh => absurd ((n_le (by omega) (by omega)).mp hh) (by omega)), X11_sees_s hA hM (by omega) hk, b_some, if10]
    simp only [lb_d]
    have h9 := ih (i + 1) n (by omega) (by omega)
    rw [seenS] at h9
    rw [n_bit i (by omega), n_lit 0, n_lit 1, n_add, n_or, n_or]
    by_cases c : seesB a i k = true
    · rw [if_pos c] at h9 ⊢
      exact h9
    · rw [if_neg c] at h9 ⊢
      exact h9
set_option maxRecDepth 100000 in
theorem api_blow {c_text_length : Int32} {c_text_bytes : Nat → Int32} {c_laid_rounds : Int32} {c_laid_home : Int32} {c_laid_noise : Int32} {c_laid_blowCount : Int32} {c_laid_judgeCount : Int32} {c_laid_blows : Nat → Int32} {c_laid_judges : Nat → Int32} {c_laid_forward : Nat → Int32} {c_laid_downs : Nat → Int32} {c_laid_taken : Nat → Int32} {c_laid_seenBy : Nat → Int32} {c_laid_sums : Nat → Int32} {c_laid_leads : Nat → Int32} {c_bench_watchers : Nat → Int32} {c_notes_delays : Nat → Int32} {c_notes_margins : Nat → Int32} {c_notes_odds : Nat → Int32} {c_kept_0_delays : Nat → Int32} {c_kept_0_margins : Nat → Int32} {c_kept_0_odds : Nat → Int32} {c_kept_1_delays : Nat → Int32} {c_kept_1_margins : Nat → Int32} {c_kept_1_odds : Nat → Int32} {c_keptCount : Int32} {m_length : Int32} {m_text : Nat → Int32} {m_roundMany : Nat → Int32} {m_blowMany : Nat → Int32} {m_blows : Nat → Int32} {m_forwards : Nat → Int32} {m_downs : Nat → Int32} {m_takens : Nat → Int32} {m_homes : Nat → Int32} {m_noises : Nat → Int32} {m_judgeMany : Nat → Int32} {m_judges : Nat → Int32} {m_delays : Nat → Int32} {m_tolds : Nat → Int32} {m_tens : Nat → Int32} {m_keptMany : Int32} (x0 : Int32) (x1 : Int32)  (hR : RR c_text_length c_text_bytes c_laid_rounds c_laid_home c_laid_noise c_laid_blowCount c_laid_judgeCount c_laid_blows c_laid_judges c_laid_forward c_laid_downs c_laid_taken c_laid_seenBy c_laid_sums c_laid_leads c_bench_watchers c_notes_delays c_notes_margins c_notes_odds c_kept_0_delays c_kept_0_margins c_kept_0_odds c_kept_1_delays c_kept_1_margins c_kept_1_odds c_keptCount m_length m_text m_roundMany m_blowMany m_blows m_forwards m_downs m_takens m_homes m_noises m_judgeMany m_judges m_delays m_tolds m_tens m_keptMany) : ∃ (oc : Int32) (om : Int32), mX10_blow x0 x1 c_laid_blowCount c_laid_blows c_laid_seenBy = some oc ∧ mX11_blow x0 x1 m_blowMany m_blows m_judgeMany m_judges = some om ∧ oc = om := by
  obtain ⟨-, ⟨a, hA, ⟨rfl, rfl, rfl, rfl, rfl, hC⟩, hS, hM⟩, -⟩ := hR
  have h1 := hA.1.1
  have h2 := hA.1.2.2.1
  have h3 := hA.1.2.1
  unfold mX10_blow mX11_blow
  rw [show (0 : Int32).toNatClampNeg = 0 from rfl, hM.2.1, show (0 : Int64) = Int32.toInt64 0 from by decide, in_w, wi_bind, wi_bind, wi_bind, in_wl 0 5 (by decide) (by decide), wi_bind]
  by_cases c0 : (0 : Int32) ≤ x0 ∧ x0 ≤ nI (aB a) - 1
  · by_cases c1 : (0 : Int32) ≤ x1 ∧ x1 ≤ 5
    · simp only [if_pos c0, if_pos c1]
      obtain ⟨k, hk, rfl⟩ := w_J (by omega) c0
      obtain ⟨p, hp, rfl⟩ := w_n (b := 5) (by omega) c1
      by_cases c5 : p = 5
      · subst c5
        rw [if_pos (show nI 5 = 5 from rfl), if_pos (show (5 : Int32) ≤ nI 5 from by decide), gi_n (by omega) (by omega), lb_d, n_cl (by omega), hS.1 k hk]
        rw [show (0 : Int32) = nI (seenS a k 0) from rfl, show nI (seenS a k 0) = (0 : Int32) from rfl]
        have h9 := X11_blow_L (x1 := nI 5) hA.1 hM hk (aJ a) 0 FUEL (by omega) (by unfold FUEL; omega)
        exact ⟨_, _, rfl, h9, rfl⟩
      · rw [if_neg (show ¬ nI p = (5 : Int32) from fun hh => c5 ((n_eq (by omega) (by omega)).mp (show nI p = nI 5 from hh))), if_neg (show ¬ (5 : Int32) ≤ nI p from fun hh => absurd ((n_le (by omega) (by omega)).mp (show nI 5 ≤ nI p from hh)) (by omega))]
        rw [X3_blowPart_s hA.1 hC.1 hk (by omega), n_lit 5, n_mul, n_add, gi_n (by omega) (by omega), lb_d, n_cl (by omega), hM.2.2.2.2.2.1 _ (by omega)]
        exact ⟨_, _, rfl, rfl, rfl⟩
    · simp only [if_pos c0, if_neg c1]
      exact ⟨_, _, rfl, rfl, rfl⟩
  · simp only [if_neg c0]
    exact ⟨_, _, rfl, rfl, rfl⟩
