/-! API A: asks of numbers, notes -/
theorem if_cg {α : Type} {c d : Prop} [Decidable c] [Decidable d] (h : c ↔ d) (x y : α) : (if c then x else y) = if d then x else y := by
  by_cases hc : c
  · rw [if_pos hc, if_pos (h.mp hc)]
  · rw [if_neg hc, if_neg (fun hd => hc (h.mpr hd))]
theorem t64_0 : Int32.toInt64 (nI 0) = 0 := by decide
theorem in_w (x a b : Int32) : mX11_in (Int32.toInt64 x) (Int32.toInt64 a) (Int32.toInt64 b) = mX10_within x a b := by
  rw [X11_in_s, X10_within_s]
  simp only [lI_of32]
  have hx := Int32.le_toInt x
  have hx2 := Int32.toInt_lt x
  have ha := Int32.le_toInt a
  have ha2 := Int32.toInt_lt a
  have hb := Int32.le_toInt b
  have hb2 := Int32.toInt_lt b
  have e : (lI a.toInt ≤ lI x.toInt ∧ lI x.toInt ≤ lI b.toInt) ↔ (a ≤ x ∧ x ≤ b) := by
    rw [lI_le (by omega) (by omega) (by omega) (by omega), lI_le (by omega) (by omega) (by omega) (by omega), ← Int32.le_iff_toInt_le, ← Int32.le_iff_toInt_le]
  exact congrArg some (if_cg e 1 0)
theorem in_wl {x : Int32} {a b : Int64} (a' b' : Int32) (ha : Int32.toInt64 a' = a) (hb : Int32.toInt64 b' = b) : mX11_in (Int32.toInt64 x) a b = mX10_within x a' b' := by
  subst ha; subst hb; exact in_w x a' b'
theorem w_n {x : Int32} {b : Nat} (hb : b < 2147483648) (h : (0 : Int32) ≤ x ∧ x ≤ nI b) : ∃ j : Nat, j ≤ b ∧ x = nI j := by
  obtain ⟨z, h1, h2, rfl⟩ := iI_of x
  rw [nI_iI, i_0, iI_le (by omega) (by omega) (by omega) (by omega), iI_le (by omega) (by omega) (by omega) (by omega)] at h
  exact ⟨z.toNat, by omega, by rw [nI_iI]; congr 1; omega⟩
theorem w_J {x : Int32} {J : Nat} (hJ : J < 2147483648) (h : (0 : Int32) ≤ x ∧ x ≤ nI J - 1) : ∃ j : Nat, j < J ∧ x = nI j := by
  obtain ⟨z, h1, h2, rfl⟩ := iI_of x
  rw [nI_iI, i_0, i_1, iI_sub, iI_le (by omega) (by omega) (by omega) (by omega), iI_le (by omega) (by omega) (by omega) (by omega)] at h
  exact ⟨z.toNat, by omega, by rw [nI_iI]; congr 1; omega⟩
theorem w_i {x : Int32} {a b : Int} (ha : -2147483648 ≤ a) (hb : b < 2147483648) (hab : a ≤ b) (h : iI a ≤ x ∧ x ≤ iI b) : ∃ z : Int, a ≤ z ∧ z ≤ b ∧ x = iI z := by
  obtain ⟨z, h1, h2, rfl⟩ := iI_of x
  rw [iI_le (by omega) (by omega) (by omega) (by omega), iI_le (by omega) (by omega) (by omega) (by omega)] at h
  exact ⟨z, h.1, h.2, rfl⟩
/-- who is a judge, which round there is -/
abbrev isJ (x : Int32) (J : Nat) : Prop := (0 : Int32) ≤ x ∧ x ≤ nI J - 1
theorem X10_isJudge_s (x : Int32) (J : Nat) : mX10_isJudge x (nI J) = some (if isJ x J then 1 else 0) := by
  unfold mX10_isJudge
  rw [X10_within_s, b_some, gz_b]
theorem X11_isJudge_s (x : Int32) (J : Nat) {f : Nat → Int32} (hf : f 0 = nI J) : mX11_isJudge x f = mX10_isJudge x (nI J) := by
  unfold mX11_isJudge mX10_isJudge
  rw [show (0 : Int32).toNatClampNeg = 0 from rfl, hf, show (0 : Int64) = Int32.toInt64 0 from by decide, in_w]
theorem X11_isRound_s (x : Int32) (J : Nat) {f : Nat → Int32} (hf : f 0 = nI J) : mX11_isRound x f = mX10_isJudge x (nI J) := by
  unfold mX11_isRound mX10_isJudge
  rw [show (0 : Int32).toNatClampNeg = 0 from rfl, hf, show (0 : Int64) = Int32.toInt64 0 from by decide, in_w]
theorem X10_isScored_s (x y : Int32) (J R : Nat) : mX10_isScored x y (nI R) (nI J) = (mX10_isJudge x (nI J)).bind fun o => if o = 0 then some 0 else mX10_isJudge y (nI R) := by
  unfold mX10_isScored
  congr 1
  funext o
  by_cases h : o = 0
  · rw [if_pos h, if_pos h]
  · rw [if_neg h, if_neg h]
    unfold mX10_isJudge
    rw [X10_within_s, b_some, b_some, if10, gz_b]
    by_cases h2 : (0 : Int32) ≤ y ∧ y ≤ nI R - 1
    · rw [if_pos h2, if_pos h2]
    · rw [if_neg h2, if_neg h2]
theorem X11_isName_s (x : Int32) : mX11_isName x = mX10_isName x := by
  unfold mX11_isName mX10_isName
  rw [in_wl 0 5 (by decide) (by decide)]
theorem X10_isName_s (x : Int32) : mX10_isName x = some (if (0 : Int32) ≤ x ∧ x ≤ 5 then 1 else 0) := by
  unfold mX10_isName
  rw [X10_within_s, b_some, gz_b]
set_option maxRecDepth 100000 in
theorem api_wipe {c_text_length : Int32} {c_text_bytes : Nat → Int32} {c_laid_rounds : Int32} {c_laid_home : Int32} {c_laid_noise : Int32} {c_laid_blowCount : Int32} {c_laid_judgeCount : Int32} {c_laid_blows : Nat → Int32} {c_laid_judges : Nat → Int32} {c_laid_forward : Nat → Int32} {c_laid_downs : Nat → Int32} {c_laid_taken : Nat → Int32} {c_laid_seenBy : Nat → Int32} {c_laid_sums : Nat → Int32} {c_laid_leads : Nat → Int32} {c_bench_watchers : Nat → Int32} {c_notes_delays : Nat → Int32} {c_notes_margins : Nat → Int32} {c_notes_odds : Nat → Int32} {c_kept_0_delays : Nat → Int32} {c_kept_0_margins : Nat → Int32} {c_kept_0_odds : Nat → Int32} {c_kept_1_delays : Nat → Int32} {c_kept_1_margins : Nat → Int32} {c_kept_1_odds : Nat → Int32} {c_keptCount : Int32} {m_length : Int32} {m_text : Nat → Int32} {m_roundMany : Nat → Int32} {m_blowMany : Nat → Int32} {m_blows : Nat → Int32} {m_forwards : Nat → Int32} {m_downs : Nat → Int32} {m_takens : Nat → Int32} {m_homes : Nat → Int32} {m_noises : Nat → Int32} {m_judgeMany : Nat → Int32} {m_judges : Nat → Int32} {m_delays : Nat → Int32} {m_tolds : Nat → Int32} {m_tens : Nat → Int32} {m_keptMany : Int32}   (hR : RR c_text_length c_text_bytes c_laid_rounds c_laid_home c_laid_noise c_laid_blowCount c_laid_judgeCount c_laid_blows c_laid_judges c_laid_forward c_laid_downs c_laid_taken c_laid_seenBy c_laid_sums c_laid_leads c_bench_watchers c_notes_delays c_notes_margins c_notes_odds c_kept_0_delays c_kept_0_margins c_kept_0_odds c_kept_1_delays c_kept_1_margins c_kept_1_odds c_keptCount m_length m_text m_roundMany m_blowMany m_blows m_forwards m_downs m_takens m_homes m_noises m_judgeMany m_judges m_delays m_tolds m_tens m_keptMany) : ∃ (oc : Int32 × Int32) (om : Int32 × Int32), mX10_wipe c_text_length = some oc ∧ mX11_wipe m_length = some om ∧ oc.1 = om.1 ∧ RR oc.2 c_text_bytes c_laid_rounds c_laid_home c_laid_noise c_laid_blowCount c_laid_judgeCount c_laid_blows c_laid_judges c_laid_forward c_laid_downs c_laid_taken c_laid_seenBy c_laid_sums c_laid_leads c_bench_watchers c_notes_delays c_notes_margins c_notes_odds c_kept_0_delays c_kept_0_margins c_kept_0_odds c_kept_1_delays c_kept_1_margins c_kept_1_odds c_keptCount om.2 m_text m_roundMany m_blowMany m_blows m_forwards m_downs m_takens m_homes m_noises m_judgeMany m_judges m_delays m_tolds m_tens m_keptMany := by
  obtain ⟨⟨n, t, hn, rfl, rfl, ht⟩, hF, hW, hN⟩ := hR
  exact ⟨_, _, rfl, rfl, rfl, ⟨0, t, by omega, rfl, rfl, fun k hk => absurd hk (by omega)⟩, hF, hW, hN⟩
theorem NR.upd_d {d m o md mt mo : Nat → Int32} {b j v : Nat} (h : NR d m o md mt mo b) (hv : v ≤ 9) (hj : j < 8) : NR (upd d j (nI v)) m o (upd md (8 * b + j) (nI v)) mt mo b := by
  refine ⟨fun i hi => ?_, h.2⟩
  by_cases e : i = j
  · subst e
    exact ⟨v, hv, upd_s, upd_s⟩
  · obtain ⟨w, h1, h2, h3⟩ := h.1 i hi
    exact ⟨w, h1, by rw [upd_n e]; exact h2, by rw [upd_n (by omega)]; exact h3⟩
theorem NR.far_d {d m o md mt mo : Nat → Int32} {b k : Nat} {x : Int32} (h : NR d m o md mt mo b) (hk : k < 8 * b ∨ 8 * b + 8 ≤ k) : NR d m o (upd md k x) mt mo b := by
  refine ⟨fun i hi => ?_, h.2⟩
  obtain ⟨w, h1, h2, h3⟩ := h.1 i hi
  exact ⟨w, h1, h2, by rw [upd_n (by omega)]; exact h3⟩
theorem NR.upd_m {d m o md mt mo : Nat → Int32} {b j : Nat} {z : Int} (h : NR d m o md mt mo b) (hz : -21 ≤ z ∧ z ≤ 20) (hj : j < 144) : NR d (upd m j (iI z)) o md (upd mt (144 * b + j) (iI z)) mo b := by
  refine ⟨h.1, fun i hi => ?_, h.2.2⟩
  by_cases e : i = j
  · subst e
    exact ⟨z, hz.1, hz.2, upd_s, upd_s⟩
  · obtain ⟨w, h1, h2, h3, h4⟩ := h.2.1 i hi
    exact ⟨w, h1, h2, by rw [upd_n e]; exact h3, by rw [upd_n (by omega)]; exact h4⟩
theorem NR.far_m {d m o md mt mo : Nat → Int32} {b k : Nat} {x : Int32} (h : NR d m o md mt mo b) (hk : k < 144 * b ∨ 144 * b + 144 ≤ k) : NR d m o md (upd mt k x) mo b := by
  refine ⟨h.1, fun i hi => ?_, h.2.2⟩
  obtain ⟨w, h1, h2, h3, h4⟩ := h.2.1 i hi
  exact ⟨w, h1, h2, h3, by rw [upd_n (by omega)]; exact h4⟩
theorem NR.upd_o {d m o md mt mo : Nat → Int32} {b j v : Nat} (h : NR d m o md mt mo b) (hv : v ≤ 10) (hj : j < 4) : NR d m (upd o j (nI v)) md mt (upd mo (4 * b + j) (nI v)) b := by
  refine ⟨h.1, h.2.1, fun i hi => ?_⟩
  by_cases e : i = j
  · subst e
    exact ⟨v, hv, upd_s, upd_s⟩
  · obtain ⟨w, h1, h2, h3⟩ := h.2.2 i hi
    exact ⟨w, h1, by rw [upd_n e]; exact h2, by rw [upd_n (by omega)]; exact h3⟩
theorem NR.far_o {d m o md mt mo : Nat → Int32} {b k : Nat} {x : Int32} (h : NR d m o md mt mo b) (hk : k < 4 * b ∨ 4 * b + 4 ≤ k) : NR d m o md mt (upd mo k x) b := by
  refine ⟨h.1, h.2.1, fun i hi => ?_⟩
  obtain ⟨w, h1, h2, h3⟩ := h.2.2 i hi
  exact ⟨w, h1, h2, by rw [upd_n (by omega)]; exact h3⟩
set_option maxRecDepth 100000 in
theorem api_delay {c_text_length : Int32} {c_text_bytes : Nat → Int32} {c_laid_rounds : Int32} {c_laid_home : Int32} {c_laid_noise : Int32} {c_laid_blowCount : Int32} {c_laid_judgeCount : Int32} {c_laid_blows : Nat → Int32} {c_laid_judges : Nat → Int32} {c_laid_forward : Nat → Int32} {c_laid_downs : Nat → Int32} {c_laid_taken : Nat → Int32} {c_laid_seenBy : Nat → Int32} {c_laid_sums : Nat → Int32} {c_laid_leads : Nat → Int32} {c_bench_watchers : Nat → Int32} {c_notes_delays : Nat → Int32} {c_notes_margins : Nat → Int32} {c_notes_odds : Nat → Int32} {c_kept_0_delays : Nat → Int32} {c_kept_0_margins : Nat → Int32} {c_kept_0_odds : Nat → Int32} {c_kept_1_delays : Nat → Int32} {c_kept_1_margins : Nat → Int32} {c_kept_1_odds : Nat → Int32} {c_keptCount : Int32} {m_length : Int32} {m_text : Nat → Int32} {m_roundMany : Nat → Int32} {m_blowMany : Nat → Int32} {m_blows : Nat → Int32} {m_forwards : Nat → Int32} {m_downs : Nat → Int32} {m_takens : Nat → Int32} {m_homes : Nat → Int32} {m_noises : Nat → Int32} {m_judgeMany : Nat → Int32} {m_judges : Nat → Int32} {m_delays : Nat → Int32} {m_tolds : Nat → Int32} {m_tens : Nat → Int32} {m_keptMany : Int32} (x0 : Int32) (x1 : Int32)  (hR : RR c_text_length c_text_bytes c_laid_rounds c_laid_home c_laid_noise c_laid_blowCount c_laid_judgeCount c_laid_blows c_laid_judges c_laid_forward c_laid_downs c_laid_taken c_laid_seenBy c_laid_sums c_laid_leads c_bench_watchers c_notes_delays c_notes_margins c_notes_odds c_kept_0_delays c_kept_0_margins c_kept_0_odds c_kept_1_delays c_kept_1_margins c_kept_1_odds c_keptCount m_length m_text m_roundMany m_blowMany m_blows m_forwards m_downs m_takens m_homes m_noises m_judgeMany m_judges m_delays m_tolds m_tens m_keptMany) : ∃ (oc : Int32 × (Nat → Int32)) (om : Int32 × (Nat → Int32)), mX10_delay x0 x1 c_laid_judgeCount c_notes_delays = some oc ∧ mX11_delay x0 x1 m_delays m_judgeMany = some om ∧ oc.1 = om.1 ∧ RR c_text_length c_text_bytes c_laid_rounds c_laid_home c_laid_noise c_laid_blowCount c_laid_judgeCount c_laid_blows c_laid_judges c_laid_forward c_laid_downs c_laid_taken c_laid_seenBy c_laid_sums c_laid_leads c_bench_watchers oc.2 c_notes_margins c_notes_odds c_kept_0_delays c_kept_0_margins c_kept_0_odds c_kept_1_delays c_kept_1_margins c_kept_1_odds c_keptCount m_length m_text m_roundMany m_blowMany m_blows m_forwards m_downs m_takens m_homes m_noises m_judgeMany m_judges om.2 m_tolds m_tens m_keptMany := by
  obtain ⟨hT, ⟨a, hA, hC, hS, hM⟩, hW, K, hK, rfl, rfl, h0, h1, h2⟩ := hR
  obtain ⟨hRb, hBb, hJb, -⟩ := hA.1
  have hJ : c_laid_judgeCount = nI (aJ a) := hC.2.2.2.2.1
  subst hJ
  unfold mX10_delay mX11_delay
  rw [X11_isJudge_s x0 (aJ a) hM.2.2.1]
  rw [X10_isJudge_s x0 (aJ a), b_some, b_some, if10, if10]
  by_cases hj : isJ x0 (aJ a)
  · rw [if_pos hj, if_pos hj, in_wl 0 9 (by decide) (by decide), X10_within_s, b_some, b_some, if10, if10]
    obtain ⟨j, hj1, rfl⟩ := w_J (by omega) hj
    by_cases hd : (0 : Int32) ≤ x1 ∧ x1 ≤ 9
    · rw [if_pos hd, if_pos hd]
      obtain ⟨v, hv, rfl⟩ := w_n (b := 9) (by omega) hd
      simp only [gi_n (show j < 8 by omega) (show 8 ≤ 2147483648 by omega), gi_n (show j < 24 by omega) (show 24 ≤ 2147483648 by omega), lb_d, n_cl (show j < 2147483648 by omega)]
      obtain ⟨w, hw, e1, e2⟩ := h0.1 j (by omega)
      rw [Nat.mul_zero, Nat.zero_add] at e2
      refine ⟨_, _, rfl, rfl, e1.trans e2.symm, hT, ⟨a, hA, hC, hS, hM⟩, hW, K, hK, rfl, rfl, ?_, fun h => ?_, fun h => ?_⟩
      · have h9 := h0.upd_d hv (show j < 8 by omega)
        rw [Nat.mul_zero, Nat.zero_add] at h9
        exact h9
      · exact (h1 h).far_d (by omega)
      · exact (h2 h).far_d (by omega)
    · rw [if_neg hd, if_neg hd]
      exact ⟨_, _, rfl, rfl, rfl, hT, ⟨a, hA, hC, hS, hM⟩, hW, K, hK, rfl, rfl, h0, h1, h2⟩
  · rw [if_neg hj, if_neg hj]
    exact ⟨_, _, rfl, rfl, rfl, hT, ⟨a, hA, hC, hS, hM⟩, hW, K, hK, rfl, rfl, h0, h1, h2⟩
set_option maxRecDepth 100000 in
theorem api_tell {c_text_length : Int32} {c_text_bytes : Nat → Int32} {c_laid_rounds : Int32} {c_laid_home : Int32} {c_laid_noise : Int32} {c_laid_blowCount : Int32} {c_laid_judgeCount : Int32} {c_laid_blows : Nat → Int32} {c_laid_judges : Nat → Int32} {c_laid_forward : Nat → Int32} {c_laid_downs : Nat → Int32} {c_laid_taken : Nat → Int32} {c_laid_seenBy : Nat → Int32} {c_laid_sums : Nat → Int32} {c_laid_leads : Nat → Int32} {c_bench_watchers : Nat → Int32} {c_notes_delays : Nat → Int32} {c_notes_margins : Nat → Int32} {c_notes_odds : Nat → Int32} {c_kept_0_delays : Nat → Int32} {c_kept_0_margins : Nat → Int32} {c_kept_0_odds : Nat → Int32} {c_kept_1_delays : Nat → Int32} {c_kept_1_margins : Nat → Int32} {c_kept_1_odds : Nat → Int32} {c_keptCount : Int32} {m_length : Int32} {m_text : Nat → Int32} {m_roundMany : Nat → Int32} {m_blowMany : Nat → Int32} {m_blows : Nat → Int32} {m_forwards : Nat → Int32} {m_downs : Nat → Int32} {m_takens : Nat → Int32} {m_homes : Nat → Int32} {m_noises : Nat → Int32} {m_judgeMany : Nat → Int32} {m_judges : Nat → Int32} {m_delays : Nat → Int32} {m_tolds : Nat → Int32} {m_tens : Nat → Int32} {m_keptMany : Int32} (x0 : Int32) (x1 : Int32) (x2 : Int32)  (hR : RR c_text_length c_text_bytes c_laid_rounds c_laid_home c_laid_noise c_laid_blowCount c_laid_judgeCount c_laid_blows c_laid_judges c_laid_forward c_laid_downs c_laid_taken c_laid_seenBy c_laid_sums c_laid_leads c_bench_watchers c_notes_delays c_notes_margins c_notes_odds c_kept_0_delays c_kept_0_margins c_kept_0_odds c_kept_1_delays c_kept_1_margins c_kept_1_odds c_keptCount m_length m_text m_roundMany m_blowMany m_blows m_forwards m_downs m_takens m_homes m_noises m_judgeMany m_judges m_delays m_tolds m_tens m_keptMany) : ∃ (oc : Int32 × (Nat → Int32)) (om : Int32 × (Nat → Int32)), mX10_tell x0 x1 x2 c_notes_margins = some oc ∧ mX11_tell x0 x1 x2 m_tolds = some om ∧ oc.1 = om.1 ∧ RR c_text_length c_text_bytes c_laid_rounds c_laid_home c_laid_noise c_laid_blowCount c_laid_judgeCount c_laid_blows c_laid_judges c_laid_forward c_laid_downs c_laid_taken c_laid_seenBy c_laid_sums c_laid_leads c_bench_watchers c_notes_delays oc.2 c_notes_odds c_kept_0_delays c_kept_0_margins c_kept_0_odds c_kept_1_delays c_kept_1_margins c_kept_1_odds c_keptCount m_length m_text m_roundMany m_blowMany m_blows m_forwards m_downs m_takens m_homes m_noises m_judgeMany m_judges m_delays om.2 m_tens m_keptMany := by
  obtain ⟨hT, hF, hW, K, hK, rfl, rfl, h0, h1, h2⟩ := hR
  unfold mX10_tell mX11_tell
  rw [X11_isName_s, X10_isName_s, b_some, b_some, if10, if10]
  by_cases c1 : (0 : Int32) ≤ x0 ∧ x0 ≤ 5
  · rw [if_pos c1, if_pos c1, in_wl 0 23 (by decide) (by decide), X10_within_s, b_some, b_some, if10, if10]
    by_cases c2 : (0 : Int32) ≤ x1 ∧ x1 ≤ 23
    · rw [if_pos c2, if_pos c2, in_wl (-21) 20 (by decide) (by decide), X10_within_s, b_some, b_some, if10, if10]
      by_cases c3 : (-21 : Int32) ≤ x2 ∧ x2 ≤ 20
      · rw [if_pos c3, if_pos c3]
        obtain ⟨p, hp, rfl⟩ := w_n (b := 5) (by omega) c1
        obtain ⟨q, hq, rfl⟩ := w_n (b := 23) (by omega) c2
        obtain ⟨z, hz1, hz2, rfl⟩ := w_i (a := -21) (b := 20) (by omega) (by omega) (by omega) c3
        unfold mX5_toldOf mX5_setTold mX11_toldOf
        rw [n_lit 24, n_mul, n_add, n_mul, n_add]
        have e24 : 24 * p + q = p * 24 + q := by omega
        simp only [e24, gi_n (show p * 24 + q < 144 by omega) (show 144 ≤ 2147483648 by omega), gi_n (show p * 24 + q < 432 by omega) (show 432 ≤ 2147483648 by omega), lb_d, b_some, n_cl (show p * 24 + q < 2147483648 by omega)]
        obtain ⟨w, -, -, e1, e2⟩ := h0.2.1 (p * 24 + q) (by omega)
        rw [Nat.mul_zero, Nat.zero_add] at e2
        refine ⟨_, _, rfl, rfl, e1.trans e2.symm, hT, hF, hW, K, hK, rfl, rfl, ?_, fun h => ?_, fun h => ?_⟩
        · have h9 := h0.upd_m ⟨hz1, hz2⟩ (show p * 24 + q < 144 by omega)
          rw [Nat.mul_zero, Nat.zero_add] at h9
          exact h9
        · exact (h1 h).far_m (by omega)
        · exact (h2 h).far_m (by omega)
      · rw [if_neg c3, if_neg c3]
        exact ⟨_, _, rfl, rfl, rfl, hT, hF, hW, K, hK, rfl, rfl, h0, h1, h2⟩
    · rw [if_neg c2, if_neg c2]
      exact ⟨_, _, rfl, rfl, rfl, hT, hF, hW, K, hK, rfl, rfl, h0, h1, h2⟩
  · rw [if_neg c1, if_neg c1]
    exact ⟨_, _, rfl, rfl, rfl, hT, hF, hW, K, hK, rfl, rfl, h0, h1, h2⟩
set_option maxRecDepth 100000 in
theorem api_tenths {c_text_length : Int32} {c_text_bytes : Nat → Int32} {c_laid_rounds : Int32} {c_laid_home : Int32} {c_laid_noise : Int32} {c_laid_blowCount : Int32} {c_laid_judgeCount : Int32} {c_laid_blows : Nat → Int32} {c_laid_judges : Nat → Int32} {c_laid_forward : Nat → Int32} {c_laid_downs : Nat → Int32} {c_laid_taken : Nat → Int32} {c_laid_seenBy : Nat → Int32} {c_laid_sums : Nat → Int32} {c_laid_leads : Nat → Int32} {c_bench_watchers : Nat → Int32} {c_notes_delays : Nat → Int32} {c_notes_margins : Nat → Int32} {c_notes_odds : Nat → Int32} {c_kept_0_delays : Nat → Int32} {c_kept_0_margins : Nat → Int32} {c_kept_0_odds : Nat → Int32} {c_kept_1_delays : Nat → Int32} {c_kept_1_margins : Nat → Int32} {c_kept_1_odds : Nat → Int32} {c_keptCount : Int32} {m_length : Int32} {m_text : Nat → Int32} {m_roundMany : Nat → Int32} {m_blowMany : Nat → Int32} {m_blows : Nat → Int32} {m_forwards : Nat → Int32} {m_downs : Nat → Int32} {m_takens : Nat → Int32} {m_homes : Nat → Int32} {m_noises : Nat → Int32} {m_judgeMany : Nat → Int32} {m_judges : Nat → Int32} {m_delays : Nat → Int32} {m_tolds : Nat → Int32} {m_tens : Nat → Int32} {m_keptMany : Int32} (x0 : Int32) (x1 : Int32) (x2 : Int32)  (hR : RR c_text_length c_text_bytes c_laid_rounds c_laid_home c_laid_noise c_laid_blowCount c_laid_judgeCount c_laid_blows c_laid_judges c_laid_forward c_laid_downs c_laid_taken c_laid_seenBy c_laid_sums c_laid_leads c_bench_watchers c_notes_delays c_notes_margins c_notes_odds c_kept_0_delays c_kept_0_margins c_kept_0_odds c_kept_1_delays c_kept_1_margins c_kept_1_odds c_keptCount m_length m_text m_roundMany m_blowMany m_blows m_forwards m_downs m_takens m_homes m_noises m_judgeMany m_judges m_delays m_tolds m_tens m_keptMany) : ∃ (oc : Int32 × (Nat → Int32)) (om : Int32 × (Nat → Int32)), mX10_tenths x0 x1 x2 c_notes_odds = some oc ∧ mX11_tenths x0 x1 x2 m_tens = some om ∧ oc.1 = om.1 ∧ RR c_text_length c_text_bytes c_laid_rounds c_laid_home c_laid_noise c_laid_blowCount c_laid_judgeCount c_laid_blows c_laid_judges c_laid_forward c_laid_downs c_laid_taken c_laid_seenBy c_laid_sums c_laid_leads c_bench_watchers c_notes_delays c_notes_margins oc.2 c_kept_0_delays c_kept_0_margins c_kept_0_odds c_kept_1_delays c_kept_1_margins c_kept_1_odds c_keptCount m_length m_text m_roundMany m_blowMany m_blows m_forwards m_downs m_takens m_homes m_noises m_judgeMany m_judges m_delays m_tolds om.2 m_keptMany := by
  obtain ⟨hT, hF, hW, K, hK, rfl, rfl, h0, h1, h2⟩ := hR
  unfold mX10_tenths mX11_tenths
  rw [in_wl 0 1 (by decide) (by decide), X10_within_s, b_some, b_some, if10, if10]
  by_cases c1 : (0 : Int32) ≤ x0 ∧ x0 ≤ 1
  · rw [if_pos c1, if_pos c1, in_wl 0 1 (by decide) (by decide), X10_within_s, b_some, b_some, if10, if10]
    by_cases c2 : (0 : Int32) ≤ x1 ∧ x1 ≤ 1
    · rw [if_pos c2, if_pos c2, in_wl 0 10 (by decide) (by decide), X10_within_s, b_some, b_some, if10, if10]
      by_cases c3 : (0 : Int32) ≤ x2 ∧ x2 ≤ 10
      · rw [if_pos c3, if_pos c3]
        obtain ⟨p, hp, rfl⟩ := w_n (b := 1) (by omega) c1
        obtain ⟨q, hq, rfl⟩ := w_n (b := 1) (by omega) c2
        obtain ⟨v, hv, rfl⟩ := w_n (b := 10) (by omega) c3
        unfold mX5_tenthsOf mX5_setTenths
        rw [n_lit 2, n_mul, n_add, n_mul, n_add]
        have e24 : 2 * p + q = p * 2 + q := by omega
        simp only [e24, gi_n (show p * 2 + q < 4 by omega) (show 4 ≤ 2147483648 by omega), gi_n (show p * 2 + q < 12 by omega) (show 12 ≤ 2147483648 by omega), lb_d, b_some, n_cl (show p * 2 + q < 2147483648 by omega)]
        obtain ⟨w, -, e1, e2⟩ := h0.2.2 (p * 2 + q) (by omega)
        rw [Nat.mul_zero, Nat.zero_add] at e2
        refine ⟨_, _, rfl, rfl, e1.trans e2.symm, hT, hF, hW, K, hK, rfl, rfl, ?_, fun h => ?_, fun h => ?_⟩
        · have h9 := h0.upd_o hv (show p * 2 + q < 4 by omega)
          rw [Nat.mul_zero, Nat.zero_add] at h9
          exact h9
        · exact (h1 h).far_o (by omega)
        · exact (h2 h).far_o (by omega)
      · rw [if_neg c3, if_neg c3]
        exact ⟨_, _, rfl, rfl, rfl, hT, hF, hW, K, hK, rfl, rfl, h0, h1, h2⟩
    · rw [if_neg c2, if_neg c2]
      exact ⟨_, _, rfl, rfl, rfl, hT, hF, hW, K, hK, rfl, rfl, h0, h1, h2⟩
  · rw [if_neg c1, if_neg c1]
    exact ⟨_, _, rfl, rfl, rfl, hT, hF, hW, K, hK, rfl, rfl, h0, h1, h2⟩
