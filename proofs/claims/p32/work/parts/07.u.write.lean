/-! WRITE -/
theorem low8 (y : Int64) : ∃ v : Nat, v < 256 ∧ Int64.toInt32 (y &&& (255 : Int64)) = nI v ∧ Int32.toInt8 (Int64.toInt32 y) = Int32.toInt8 (nI v) := by
  refine ⟨y.toBitVec.toNat % 256, Nat.mod_lt _ (by omega), ?_, ?_⟩
  · apply Int32.toBitVec_inj.mp
    rw [Int64.toBitVec_toInt32, Int64.toBitVec_and, BitVec.signExtend_eq_setWidth_of_le _ (by omega)]
    apply BitVec.eq_of_toNat_eq
    rw [BitVec.toNat_setWidth, BitVec.toNat_and]
    show (y.toBitVec.toNat &&& 255) % 2 ^ 32 = (y.toBitVec.toNat % 256) % 2 ^ 32
    rw [show (255 : Nat) = 2 ^ 8 - 1 from rfl, Nat.and_two_pow_sub_one_eq_mod]
  · apply Int8.toBitVec_inj.mp
    rw [Int32.toBitVec_toInt8, Int32.toBitVec_toInt8, Int64.toBitVec_toInt32, BitVec.signExtend_eq_setWidth_of_le _ (by omega), BitVec.signExtend_eq_setWidth_of_le _ (by omega), BitVec.signExtend_eq_setWidth_of_le _ (by omega)]
    apply BitVec.eq_of_toNat_eq
    rw [BitVec.toNat_setWidth, BitVec.toNat_setWidth, BitVec.toNat_setWidth]
    show y.toBitVec.toNat % 2 ^ 32 % 2 ^ 8 = (y.toBitVec.toNat % 256) % 2 ^ 32 % 2 ^ 8
    omega
/-- the text, so many bytes of it -/
def TX (n : Nat) (bytes text : Nat → Int32) : Prop := ∃ t : Nat → Nat, ∀ k, k < n → t k < 256 ∧ text k = nI (t k) ∧ bytes k = Int8.toInt32 (Int32.toInt8 (nI (t k)))
theorem TX_add {n : Nat} {bytes text : Nat → Int32} (h : TX n bytes text) (y : Int64) : TX (n + 1) (upd bytes n (vp_nar .byte (Int8.toInt32 (Int32.toInt8 (Int64.toInt32 y))))) (upd text n (Int64.toInt32 (y &&& (255 : Int64)))) := by
  obtain ⟨t, ht⟩ := h
  obtain ⟨v, h1, h2, h3⟩ := low8 y
  refine ⟨fun k => if k = n then v else t k, fun k hk => ?_⟩
  show (if k = n then v else t k) < 256 ∧ upd text n _ k = nI (if k = n then v else t k) ∧ upd bytes n _ k = Int8.toInt32 (Int32.toInt8 (nI (if k = n then v else t k)))
  by_cases hp : k = n
  · rw [if_pos hp, hp, upd_s, upd_s, pk_vb, h2, h3]
    exact ⟨h1, rfl, rfl⟩
  · rw [if_neg hp, upd_n hp, upd_n hp]
    exact ht k (by omega)
theorem write_both (x0 : Int32) (x1 : Int64) : ∀ (d m n : Nat) (bytes text : Nat → Int32), d < m → n + d ≤ 500 → TX n bytes text → ∃ bytes' text', mX8_append_L19 x0 x1 m (iI ((d : Int) - 1)) bytes (nI n) = some (1, bytes', nI (n + d)) ∧ mX11_write_L34 x0 x1 m (iI ((d : Int) - 1)) text (nI n) = some (nI (n + d), text', nI (n + d)) ∧ TX (n + d) bytes' text' := by
  intro d
  induction d with
  | zero =>
    intro m n bytes text hm hn h
    obtain ⟨m, rfl⟩ : ∃ q, m = q + 1 := ⟨m - 1, by omega⟩
    refine ⟨bytes, text, ?_, ?_, h⟩
    · rw [eX8_append_19]
      unfold mX8_append_B19
      rw [i_0, if_pos ((iI_lt (by omega) (by omega) (by omega) (by omega)).mpr (by omega))]
      rfl
    · rw [eX11_write_34]
      unfold mX11_write_B34
      rw [i_0, if_pos ((iI_lt (by omega) (by omega) (by omega) (by omega)).mpr (by omega))]
      rfl
  | succ d ih =>
    intro m n bytes text hm hn h
    obtain ⟨m, rfl⟩ : ∃ q, m = q + 1 := ⟨m - 1, by omega⟩
    have ed : iI (((d + 1 : Nat) : Int) - 1) = nI d := by rw [nI_iI]; congr 1; omega
    have em : nI d + (-1 : Int32) = iI ((d : Int) - 1) := by rw [nI_iI, i_m1, iI_add]; rfl
    obtain ⟨b', t', e1, e2, e3⟩ := ih m (n + 1) _ _ (by omega) (by omega) (TX_add h (x1 >>> (Int32.toInt64 ((8 : Int32) * nI d) &&& 63)))
    rw [show n + 1 + d = n + (d + 1) by omega] at e1 e2 e3
    refine ⟨b', t', ?_, ?_, e3⟩
    · rw [eX8_append_19]
      unfold mX8_append_B19
      rw [ed, if_neg (nI_pos (by omega)), gi_n (by omega) (by omega), lb_d, n_cl (by omega), em, n_lit 1, n_add, lb_d, lb_d]
      exact e1
    · rw [eX11_write_34]
      unfold mX11_write_B34
      rw [ed, if_neg (nI_pos (by omega)), gi_n (by omega) (by omega), lb_d, n_cl (by omega), em, n_lit 1, n_add, lb_d, lb_d]
      exact e2
set_option maxRecDepth 100000 in
theorem api_write {c_text_length : Int32} {c_text_bytes : Nat → Int32} {c_laid_rounds : Int32} {c_laid_home : Int32} {c_laid_noise : Int32} {c_laid_blowCount : Int32} {c_laid_judgeCount : Int32} {c_laid_blows : Nat → Int32} {c_laid_judges : Nat → Int32} {c_laid_forward : Nat → Int32} {c_laid_downs : Nat → Int32} {c_laid_taken : Nat → Int32} {c_laid_seenBy : Nat → Int32} {c_laid_sums : Nat → Int32} {c_laid_leads : Nat → Int32} {c_bench_watchers : Nat → Int32} {c_notes_delays : Nat → Int32} {c_notes_margins : Nat → Int32} {c_notes_odds : Nat → Int32} {c_kept_0_delays : Nat → Int32} {c_kept_0_margins : Nat → Int32} {c_kept_0_odds : Nat → Int32} {c_kept_1_delays : Nat → Int32} {c_kept_1_margins : Nat → Int32} {c_kept_1_odds : Nat → Int32} {c_keptCount : Int32} {m_length : Int32} {m_text : Nat → Int32} {m_roundMany : Nat → Int32} {m_blowMany : Nat → Int32} {m_blows : Nat → Int32} {m_forwards : Nat → Int32} {m_downs : Nat → Int32} {m_takens : Nat → Int32} {m_homes : Nat → Int32} {m_noises : Nat → Int32} {m_judgeMany : Nat → Int32} {m_judges : Nat → Int32} {m_delays : Nat → Int32} {m_tolds : Nat → Int32} {m_tens : Nat → Int32} {m_keptMany : Int32} (x0 : Int32) (x1 : Int64)  (hR : RR c_text_length c_text_bytes c_laid_rounds c_laid_home c_laid_noise c_laid_blowCount c_laid_judgeCount c_laid_blows c_laid_judges c_laid_forward c_laid_downs c_laid_taken c_laid_seenBy c_laid_sums c_laid_leads c_bench_watchers c_notes_delays c_notes_margins c_notes_odds c_kept_0_delays c_kept_0_margins c_kept_0_odds c_kept_1_delays c_kept_1_margins c_kept_1_odds c_keptCount m_length m_text m_roundMany m_blowMany m_blows m_forwards m_downs m_takens m_homes m_noises m_judgeMany m_judges m_delays m_tolds m_tens m_keptMany) : ∃ (oc : Int32 × (Nat → Int32) × Int32) (om : Int32 × (Nat → Int32) × Int32), mX10_write x0 x1 c_text_length c_text_bytes = some oc ∧ mX11_write x0 x1 m_length m_text = some om ∧ oc.1 = om.1 ∧ RR oc.2.2 oc.2.1 c_laid_rounds c_laid_home c_laid_noise c_laid_blowCount c_laid_judgeCount c_laid_blows c_laid_judges c_laid_forward c_laid_downs c_laid_taken c_laid_seenBy c_laid_sums c_laid_leads c_bench_watchers c_notes_delays c_notes_margins c_notes_odds c_kept_0_delays c_kept_0_margins c_kept_0_odds c_kept_1_delays c_kept_1_margins c_kept_1_odds c_keptCount om.2.2 om.2.1 m_roundMany m_blowMany m_blows m_forwards m_downs m_takens m_homes m_noises m_judgeMany m_judges m_delays m_tolds m_tens m_keptMany := by
  obtain ⟨⟨n, t, hn, rfl, rfl, ht⟩, hF, hW, hN⟩ := hR
  unfold mX10_write mX11_write
  rw [in_wl 1 8 (by decide) (by decide), wi_bind, wi_bind]
  by_cases c : (1 : Int32) ≤ x0 ∧ x0 ≤ 8
  · rw [if_pos c, if_pos c]
    obtain ⟨z, h1, h2, rfl⟩ := w_i (a := 1) (b := 8) (by omega) (by omega) (by omega) (show iI 1 ≤ x0 ∧ x0 ≤ iI 8 from c)
    obtain ⟨d, rfl⟩ : ∃ d : Nat, z = (d : Int) := ⟨z.toNat, by omega⟩
    rw [← nI_iI d]
    unfold mX8_append
    rw [n_lit 500, n_sub hn, n_add]
    by_cases c1 : n + d ≤ 500
    · rw [if_pos ((n_le (by omega) (by omega)).mpr (by omega)), if_pos ((n_le (by omega) (by omega)).mpr c1)]
      obtain ⟨b', t', e1, e2, t2, e3⟩ := write_both (nI d) x1 d FUEL n c_text_bytes m_text (by unfold FUEL; omega) c1 ⟨t, ht⟩
      have ed : nI d - (1 : Int32) = iI ((d : Int) - 1) := by rw [nI_iI, i_1, iI_sub]
      rw [ed, lb_d, lb_d, e1, b_some, e2, if_neg (show ¬ (1 : Int32) = 0 by decide)]
      exact ⟨_, _, rfl, rfl, rfl, ⟨n + d, t2, c1, rfl, rfl, e3⟩, hF, hW, hN⟩
    · rw [if_neg (fun hh => c1 (by have := (n_le (by omega) (by omega)).mp hh; omega)), if_neg (fun hh => c1 ((n_le (by omega) (by omega)).mp hh)), b_some, if_pos rfl]
      exact ⟨_, _, rfl, rfl, rfl, ⟨n, t, hn, rfl, rfl, ht⟩, hF, hW, hN⟩
  · rw [if_neg c, if_neg c]
    exact ⟨_, _, rfl, rfl, rfl, ⟨n, t, hn, rfl, rfl, ht⟩, hF, hW, hN⟩
