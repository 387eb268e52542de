/-! REFUSED: calls that are refused leave all as it was -/
theorem nJ {x : Int32} {J : Nat} {k : Nat} (hx : x = nI k) (hk : J ≤ k) (hk2 : k < 2147483648) : ¬ isJ x J := by
  subst hx
  intro h
  obtain ⟨j, hj, e⟩ := w_J (by omega) h
  have := (n_eq (by omega) (by omega)).mp e
  omega
theorem nJm {J : Nat} : ¬ isJ (-1) J := fun h => absurd h.1 (by decide)
theorem rf_write (i_text_length : Int32) (f_text_bytes : Nat → Int32) : mX10_write (9) (0) i_text_length f_text_bytes = some ((-1 : Int32), f_text_bytes, i_text_length) := by
  unfold mX10_write
  rw [wi_bind, if_neg (by decide)]
theorem rf_blow (i_laid_blowCount : Int32) (f_laid_blows : Nat → Int32) (f_laid_seenBy : Nat → Int32) : mX10_blow (-1) (0) i_laid_blowCount f_laid_blows f_laid_seenBy = some (-1 : Int32) := by
  unfold mX10_blow
  rw [wi_bind, if_neg (fun h => absurd h.1 (by decide))]
theorem rf_sum {J : Nat} (hJ : J ≤ 5) {R : Nat} (hR : R ≤ 5) (f_laid_sums : Nat → Int32) : mX10_sum (8) (0) (0) (nI R) (nI J) f_laid_sums = some (-1 : Int32) := by
  unfold mX10_sum
  rw [sc_bind, if_neg (nJ (x := 8) (k := 8) rfl (by omega) (by omega))]
theorem rf_lead {J : Nat} (hJ : J ≤ 5) {R : Nat} (hR : R ≤ 5) (f_laid_leads : Nat → Int32) : mX10_lead (0) (12) (nI R) (nI J) f_laid_leads = some (-100001 : Int32) := by
  unfold mX10_lead
  rw [sc_bind, if_neg (nJ (x := 12) (k := 12) rfl (by omega) (by omega)), ite_self]
theorem rf_close {J : Nat} (hJ : J ≤ 5) {R : Nat} (hR : R ≤ 5) (f_laid_judges : Nat → Int32) (f_laid_leads : Nat → Int32) : mX10_close (0) (-1) (nI R) (nI J) f_laid_judges f_laid_leads = some (-1 : Int32) := by
  unfold mX10_close
  rw [sc_bind, if_neg nJm, ite_self]
theorem rf_margin {J : Nat} (hJ : J ≤ 5) {R : Nat} (hR : R ≤ 5) (f_laid_downs : Nat → Int32) (f_laid_judges : Nat → Int32) (f_laid_leads : Nat → Int32) : mX10_margin (4) (0) (0) (nI R) (nI J) f_laid_downs f_laid_judges f_laid_leads = some (-100001 : Int32) := by
  unfold mX10_margin
  rw [show mX10_isRule 4 = some 0 from by decide, b_some, if_pos rfl]
theorem rf_card {J : Nat} (hJ : J ≤ 5) {R : Nat} (hR : R ≤ 5) (f_laid_downs : Nat → Int32) (f_laid_judges : Nat → Int32) (f_laid_leads : Nat → Int32) (f_laid_taken : Nat → Int32) : mX10_card (0) (8) (nI R) (nI J) f_laid_downs f_laid_judges f_laid_leads f_laid_taken = some (-100001 : Int32) := by
  unfold mX10_card
  rw [show mX10_isRule 0 = some 1 from by decide, b_some, if_neg (show ¬ (1 : Int32) = 0 by decide), jd_bind, if_neg (nJ (x := 8) (k := 8) rfl (by omega) (by omega))]
theorem rf_points {J : Nat} (hJ : J ≤ 5) {R : Nat} (hR : R ≤ 5) (f_laid_downs : Nat → Int32) (f_laid_judges : Nat → Int32) (f_laid_leads : Nat → Int32) (f_laid_taken : Nat → Int32) : mX10_points (3) (0) (0) (nI R) (nI J) f_laid_downs f_laid_judges f_laid_leads f_laid_taken = some (-1 : Int32) := by
  unfold mX10_points
  rw [wi_bind, if_neg (by decide)]
theorem rf_end {J : Nat} (hJ : J ≤ 5) {R : Nat} (hR : R ≤ 5) (f_laid_downs : Nat → Int32) (f_laid_judges : Nat → Int32) (f_laid_leads : Nat → Int32) (f_laid_taken : Nat → Int32) : mX10_end (0) (0) (0) (1) (0) (nI R) (nI J) f_laid_downs f_laid_judges f_laid_leads f_laid_taken = some (-1 : Int32) := by
  unfold mX10_end
  rw [show mX10_isRule 0 = some 1 from by decide, b_some, if_neg (show ¬ (1 : Int32) = 0 by decide), th_bind, if_neg (fun h => h.2.1 rfl)]
theorem rf_others {J : Nat} (hJ : J ≤ 5) {R : Nat} (hR : R ≤ 5) (f_cards_owners : Nat → Int32) (f_laid_downs : Nat → Int32) (f_laid_judges : Nat → Int32) (f_laid_leads : Nat → Int32) (f_laid_taken : Nat → Int32) : mX10_others (0) (3) (nI R) (nI J) f_cards_owners f_laid_downs f_laid_judges f_laid_leads f_laid_taken = some ((-1 : Int32), f_cards_owners) := by
  unfold mX10_others
  rw [show mX10_isRule 0 = some 1 from by decide, b_some, if_neg (show ¬ (1 : Int32) = 0 by decide), wi_bind, if_neg (by decide)]
theorem rf_men {J : Nat} (hJ : J ≤ 5) {R : Nat} (hR : R ≤ 5) (i_laid_blowCount : Int32) (f_laid_blows : Nat → Int32) (f_laid_downs : Nat → Int32) (f_laid_judges : Nat → Int32) (f_laid_leads : Nat → Int32) (f_laid_taken : Nat → Int32) : mX10_men (4) (nI R) i_laid_blowCount (nI J) f_laid_blows f_laid_downs f_laid_judges f_laid_leads f_laid_taken = some (-1 : Int32) := by
  unfold mX10_men
  rw [show mX10_isRule 4 = some 0 from by decide, b_some, if_pos rfl]
theorem rf_coins {J : Nat} (hJ : J ≤ 5) {R : Nat} (hR : R ≤ 5) (i_flips_howMany : Int32) (f_flips_ways : Nat → Int64) (f_laid_downs : Nat → Int32) (f_laid_judges : Nat → Int32) (f_laid_leads : Nat → Int32) (f_laid_taken : Nat → Int32) : mX10_coins (2) (0) (1) (2) (0) (0) i_flips_howMany (nI R) (nI J) f_flips_ways f_laid_downs f_laid_judges f_laid_leads f_laid_taken = some ((-1 : Int64), f_flips_ways, i_flips_howMany) := by
  unfold mX10_coins
  rw [wi_bind, if_neg (by decide)]
theorem rf_seats {R : Nat} (hR : R ≤ 5) (i_laid_blowCount : Int32) (f_bench_best : Nat → Int32) (f_bench_shown : Nat → Int32) (f_bench_watchers : Nat → Int32) (f_laid_blows : Nat → Int32) : mX10_seats (5) (nI R) i_laid_blowCount f_bench_best f_bench_shown f_bench_watchers f_laid_blows = some ((-1 : Int32), f_bench_shown, f_bench_best) := by
  unfold mX10_seats
  rw [wi_bind, if_neg (by decide)]
theorem rf_delay {J : Nat} (hJ : J ≤ 5) (f_notes_delays : Nat → Int32) : mX10_delay (8) (0) (nI J) f_notes_delays = some ((-1 : Int32), f_notes_delays) := by
  unfold mX10_delay
  rw [jd_bind, if_neg (nJ (x := 8) (k := 8) rfl (by omega) (by omega))]
theorem rf_buttons {J : Nat} (hJ : J ≤ 5) {R : Nat} (hR : R ≤ 5) (i_laid_blowCount : Int32) (i_presses_rowCount : Int32) (f_laid_blows : Nat → Int32) (f_laid_seenBy : Nat → Int32) (f_notes_delays : Nat → Int32) (f_presses_heads : Nat → Int32) (f_presses_row : Nat → Int32) : mX10_buttons (0) (0) (0) (0) (nI R) i_laid_blowCount (nI J) i_presses_rowCount f_laid_blows f_laid_seenBy f_notes_delays f_presses_heads f_presses_row = some ((-1 : Int32), i_presses_rowCount, f_presses_row, f_presses_heads) := by
  unfold mX10_buttons
  rw [wi_bind, wi_bind, if_neg (show ¬ ((1 : Int32) ≤ 0 ∧ (0 : Int32) ≤ 8) by decide), ite_self]
theorem rf_tell (f_notes_margins : Nat → Int32) : mX10_tell (6) (0) (0) f_notes_margins = some ((-22 : Int32), f_notes_margins) := by
  unfold mX10_tell
  rw [show mX10_isName 6 = some 0 from by decide, b_some, if_pos rfl]
theorem rf_same (f_notes_margins : Nat → Int32) (f_told_ofOne : Nat → Int32) (f_told_ofOther : Nat → Int32) : mX10_same (0) (0) (0) f_notes_margins f_told_ofOne f_told_ofOther = some ((-1 : Int32), f_told_ofOne, f_told_ofOther) := by
  unfold mX10_same
  rw [show mX10_isName 0 = some 1 from by decide, b_some, if_neg (show ¬ (1 : Int32) = 0 by decide), b_some, if_neg (show ¬ (1 : Int32) = 0 by decide), if_pos rfl]
theorem rf_lean (i_told_rowCount : Int32) (f_notes_margins : Nat → Int32) (f_told_row : Nat → Int32) : mX10_lean (6) (0) i_told_rowCount f_notes_margins f_told_row = some ((-100001 : Int32), i_told_rowCount, f_told_row) := by
  unfold mX10_lean
  rw [show mX10_isName 6 = some 0 from by decide, b_some, if_pos rfl]
theorem rf_unlike (i_told_rowCount : Int32) (f_notes_margins : Nat → Int32) (f_told_row : Nat → Int32) : mX10_unlike (6) i_told_rowCount f_notes_margins f_told_row = some ((-1 : Int32), i_told_rowCount, f_told_row) := by
  unfold mX10_unlike
  rw [show mX10_isName 6 = some 0 from by decide, b_some, if_pos rfl]
theorem rf_added {R : Nat} (hR : R ≤ 5) (f_laid_downs : Nat → Int32) (f_laid_judges : Nat → Int32) (f_laid_leads : Nat → Int32) (f_laid_taken : Nat → Int32) : mX10_added (0) (0) (-1) (0) (0) (nI R) f_laid_downs f_laid_judges f_laid_leads f_laid_taken = some (-1 : Int32) := by
  unfold mX10_added
  rw [wi_bind, if_pos (by decide), show mX10_isCorner 0 = some 1 from by decide, b_some, if_neg (show ¬ (1 : Int32) = 0 by decide), show mX10_isToldSum (-1) = some 0 from by decide, b_some, if_pos rfl]
theorem rf_tenths (f_notes_odds : Nat → Int32) : mX10_tenths (2) (0) (0) f_notes_odds = some ((-1 : Int32), f_notes_odds) := by
  unfold mX10_tenths
  rw [wi_bind, if_neg (by decide)]
theorem rf_open (i_game_value : Int32) (i_game_zeroPushes : Int32) (i_game_onePushes : Int32) (f_game_before : Nat → Int32) (f_game_values : Nat → Int32) (f_notes_odds : Nat → Int32) (a_game_values : Nat) (a_game_before : Nat) : mX10_open (13) (0) (0) i_game_value i_game_zeroPushes i_game_onePushes f_game_before f_game_values f_notes_odds a_game_values a_game_before = some ((-1 : Int32), f_game_values, i_game_onePushes, i_game_value, i_game_zeroPushes, f_game_before, a_game_values, a_game_before) := by
  unfold mX10_open
  rw [show mX10_isGame 13 0 0 = some 0 from by decide, b_some, if_pos rfl]
theorem rf_hidden (i_game_value : Int32) (i_game_zeroPushes : Int32) (i_game_onePushes : Int32) (f_game_before : Nat → Int32) (f_game_values : Nat → Int32) (f_notes_odds : Nat → Int32) (a_game_values : Nat) (a_game_before : Nat) : mX10_hidden (0) (0) (0) i_game_value i_game_zeroPushes i_game_onePushes f_game_before f_game_values f_notes_odds a_game_values a_game_before = some ((-1 : Int32), f_game_values, f_game_before, a_game_values, a_game_before, i_game_onePushes, i_game_value, i_game_zeroPushes) := by
  unfold mX10_hidden
  rw [show mX10_isGame 0 0 0 = some 0 from by decide, b_some, if_pos rfl]
theorem rf_count {J : Nat} (hJ : J ≤ 5) {R : Nat} (hR : R ≤ 5) (i_keptCount : Int32) (i_laid_blowCount : Int32) (i_text_length : Int32) (f_notes_margins : Nat → Int32) : mX10_count (6) i_keptCount (nI R) i_laid_blowCount (nI J) i_text_length f_notes_margins = some (-1 : Int32) := by
  rfl
theorem told_le (m : Nat → Int32) : ∀ (d i : Nat), sF (cntT m) i d ≤ d := by
  intro d
  induction d with
  | zero => intro i; exact Nat.le_refl _
  | succ d ih =>
    intro i
    have h := ih (i + 1)
    have h2 : cntT m i ≤ 1 := by unfold cntT; split <;> omega
    show cntT m i + sF (cntT m) (i + 1) d ≤ d + 1
    omega
set_option maxRecDepth 100000 in
theorem cnt_ge {o_text_length : Int32} {o_text_bytes : Nat → Int32} {o_laid_rounds : Int32} {o_laid_home : Int32} {o_laid_noise : Int32} {o_laid_blowCount : Int32} {o_laid_judgeCount : Int32} {o_laid_blows : Nat → Int32} {o_laid_judges : Nat → Int32} {o_laid_forward : Nat → Int32} {o_laid_downs : Nat → Int32} {o_laid_taken : Nat → Int32} {o_laid_seenBy : Nat → Int32} {o_laid_sums : Nat → Int32} {o_laid_leads : Nat → Int32} {o_bench_watchers : Nat → Int32} {o_notes_delays : Nat → Int32} {o_notes_margins : Nat → Int32} {o_notes_odds : Nat → Int32} {o_kept_0_delays : Nat → Int32} {o_kept_0_margins : Nat → Int32} {o_kept_0_odds : Nat → Int32} {o_kept_1_delays : Nat → Int32} {o_kept_1_margins : Nat → Int32} {o_kept_1_odds : Nat → Int32} {o_keptCount : Int32} {q_text_length : Int32} {q_text_bytes : Nat → Int32} {q_laid_rounds : Int32} {q_laid_home : Int32} {q_laid_noise : Int32} {q_laid_blowCount : Int32} {q_laid_judgeCount : Int32} {q_laid_blows : Nat → Int32} {q_laid_judges : Nat → Int32} {q_laid_forward : Nat → Int32} {q_laid_downs : Nat → Int32} {q_laid_taken : Nat → Int32} {q_laid_seenBy : Nat → Int32} {q_laid_sums : Nat → Int32} {q_laid_leads : Nat → Int32} {q_bench_watchers : Nat → Int32} {q_notes_delays : Nat → Int32} {q_notes_margins : Nat → Int32} {q_notes_odds : Nat → Int32} {q_kept_0_delays : Nat → Int32} {q_kept_0_margins : Nat → Int32} {q_kept_0_odds : Nat → Int32} {q_kept_1_delays : Nat → Int32} {q_kept_1_margins : Nat → Int32} {q_kept_1_odds : Nat → Int32} {q_keptCount : Int32} (h : BOTH o_text_length o_text_bytes o_laid_rounds o_laid_home o_laid_noise o_laid_blowCount o_laid_judgeCount o_laid_blows o_laid_judges o_laid_forward o_laid_downs o_laid_taken o_laid_seenBy o_laid_sums o_laid_leads o_bench_watchers o_notes_delays o_notes_margins o_notes_odds o_kept_0_delays o_kept_0_margins o_kept_0_odds o_kept_1_delays o_kept_1_margins o_kept_1_odds o_keptCount q_text_length q_text_bytes q_laid_rounds q_laid_home q_laid_noise q_laid_blowCount q_laid_judgeCount q_laid_blows q_laid_judges q_laid_forward q_laid_downs q_laid_taken q_laid_seenBy q_laid_sums q_laid_leads q_bench_watchers q_notes_delays q_notes_margins q_notes_odds q_kept_0_delays q_kept_0_margins q_kept_0_odds q_kept_1_delays q_kept_1_margins q_kept_1_odds q_keptCount) {k : Nat} (hk : k < 6) {oc : Int32} (e : mX10_count (nI k) o_keptCount o_laid_rounds o_laid_blowCount o_laid_judgeCount o_text_length o_notes_margins = some oc) : ¬ oc < 0 := by
  obtain ⟨m_length, m_text, m_roundMany, m_blowMany, m_blows, m_forwards, m_downs, m_takens, m_homes, m_noises, m_judgeMany, m_judges, m_delays, m_tolds, m_tens, m_keptMany, ⟨⟨n, t, hn, rfl, rfl, ht⟩, ⟨a, hA, ⟨rfl, rfl, rfl, rfl, rfl, hC⟩, hS, hM⟩, hW, K, hK, rfl, rfl, h0, h1, h2⟩, -⟩ := h
  have b1 := hA.1.1.2
  have b2 := hA.1.2.1
  have b3 := hA.1.2.2.1
  have b4 := told_le o_notes_margins 144 0
  unfold mX10_count at e
  rw [X5_many_s, b_some] at e
  rcases (show k = 0 ∨ k = 1 ∨ k = 2 ∨ k = 3 ∨ k = 4 ∨ k = 5 by omega) with rfl | rfl | rfl | rfl | rfl | rfl
  · rw [if_pos (by decide)] at e
    rw [← Option.some.inj e]; exact nI_pos (by omega)
  · rw [if_neg (by decide), if_pos (by decide)] at e
    rw [← Option.some.inj e]; exact nI_pos (by omega)
  · rw [if_neg (by decide), if_neg (by decide), if_pos (by decide)] at e
    rw [← Option.some.inj e]; exact nI_pos (by omega)
  · rw [if_neg (by decide), if_neg (by decide), if_neg (by decide), if_pos (by decide)] at e
    rw [← Option.some.inj e]; exact nI_pos (by omega)
  · rw [if_neg (by decide), if_neg (by decide), if_neg (by decide), if_neg (by decide), if_pos (by decide)] at e
    rw [← Option.some.inj e]; exact nI_pos (by omega)
  · rw [if_neg (by decide), if_neg (by decide), if_neg (by decide), if_neg (by decide), if_neg (by decide), if_pos (by decide)] at e
    rw [← Option.some.inj e]; exact nI_pos (by omega)
theorem cnt_1 (i_keptCount : Int32) (i_laid_rounds : Int32) (i_laid_blowCount : Int32) (i_laid_judgeCount : Int32) (i_text_length : Int32) (f_notes_margins : Nat → Int32) : mX10_count 1 i_keptCount i_laid_rounds i_laid_blowCount i_laid_judgeCount i_text_length f_notes_margins = some i_laid_judgeCount := rfl
theorem cnt_4 (i_keptCount : Int32) (i_laid_rounds : Int32) (i_laid_blowCount : Int32) (i_laid_judgeCount : Int32) (i_text_length : Int32) (f_notes_margins : Nat → Int32) : ∃ oc, mX10_count 4 i_keptCount i_laid_rounds i_laid_blowCount i_laid_judgeCount i_text_length f_notes_margins = some oc ∧ ¬ (144 : Int32) < oc := by
  refine ⟨nI (sF (cntT f_notes_margins) 0 144), ?_, ?_⟩
  · unfold mX10_count
    rw [X5_many_s, b_some, if_neg (by decide), if_neg (by decide), if_neg (by decide), if_neg (by decide), if_pos rfl]
  · have h := told_le f_notes_margins 144 0
    exact fun hh => absurd ((n_lt (a := 144) (by omega) (by omega)).mp hh) (by omega)
set_option maxRecDepth 100000 in
theorem cnt_5 {o_text_length : Int32} {o_text_bytes : Nat → Int32} {o_laid_rounds : Int32} {o_laid_home : Int32} {o_laid_noise : Int32} {o_laid_blowCount : Int32} {o_laid_judgeCount : Int32} {o_laid_blows : Nat → Int32} {o_laid_judges : Nat → Int32} {o_laid_forward : Nat → Int32} {o_laid_downs : Nat → Int32} {o_laid_taken : Nat → Int32} {o_laid_seenBy : Nat → Int32} {o_laid_sums : Nat → Int32} {o_laid_leads : Nat → Int32} {o_bench_watchers : Nat → Int32} {o_notes_delays : Nat → Int32} {o_notes_margins : Nat → Int32} {o_notes_odds : Nat → Int32} {o_kept_0_delays : Nat → Int32} {o_kept_0_margins : Nat → Int32} {o_kept_0_odds : Nat → Int32} {o_kept_1_delays : Nat → Int32} {o_kept_1_margins : Nat → Int32} {o_kept_1_odds : Nat → Int32} {o_keptCount : Int32} {q_text_length : Int32} {q_text_bytes : Nat → Int32} {q_laid_rounds : Int32} {q_laid_home : Int32} {q_laid_noise : Int32} {q_laid_blowCount : Int32} {q_laid_judgeCount : Int32} {q_laid_blows : Nat → Int32} {q_laid_judges : Nat → Int32} {q_laid_forward : Nat → Int32} {q_laid_downs : Nat → Int32} {q_laid_taken : Nat → Int32} {q_laid_seenBy : Nat → Int32} {q_laid_sums : Nat → Int32} {q_laid_leads : Nat → Int32} {q_bench_watchers : Nat → Int32} {q_notes_delays : Nat → Int32} {q_notes_margins : Nat → Int32} {q_notes_odds : Nat → Int32} {q_kept_0_delays : Nat → Int32} {q_kept_0_margins : Nat → Int32} {q_kept_0_odds : Nat → Int32} {q_kept_1_delays : Nat → Int32} {q_kept_1_margins : Nat → Int32} {q_kept_1_odds : Nat → Int32} {q_keptCount : Int32} (h : BOTH o_text_length o_text_bytes o_laid_rounds o_laid_home o_laid_noise o_laid_blowCount o_laid_judgeCount o_laid_blows o_laid_judges o_laid_forward o_laid_downs o_laid_taken o_laid_seenBy o_laid_sums o_laid_leads o_bench_watchers o_notes_delays o_notes_margins o_notes_odds o_kept_0_delays o_kept_0_margins o_kept_0_odds o_kept_1_delays o_kept_1_margins o_kept_1_odds o_keptCount q_text_length q_text_bytes q_laid_rounds q_laid_home q_laid_noise q_laid_blowCount q_laid_judgeCount q_laid_blows q_laid_judges q_laid_forward q_laid_downs q_laid_taken q_laid_seenBy q_laid_sums q_laid_leads q_bench_watchers q_notes_delays q_notes_margins q_notes_odds q_kept_0_delays q_kept_0_margins q_kept_0_odds q_kept_1_delays q_kept_1_margins q_kept_1_odds q_keptCount) : ∃ oc, mX10_count 5 o_keptCount o_laid_rounds o_laid_blowCount o_laid_judgeCount o_text_length o_notes_margins = some oc ∧ oc ≤ (2 : Int32) := by
  refine ⟨o_keptCount, rfl, ?_⟩
  obtain ⟨m_length, m_text, m_roundMany, m_blowMany, m_blows, m_forwards, m_downs, m_takens, m_homes, m_noises, m_judgeMany, m_judges, m_delays, m_tolds, m_tens, m_keptMany, ⟨-, -, -, K, hK, rfl, -⟩, -⟩ := h
  exact (n_le (b := 2) (by omega) (by omega)).mpr hK
