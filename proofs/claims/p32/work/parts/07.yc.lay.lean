/-! LAY -/
def CP (b i : Nat) (F f : Nat → Int32) : Prop := (∀ k, k < i → f k = F (b + k)) ∧ (∀ k, b ≤ k → f k = F k)
theorem CP_next {b i : Nat} {F f : Nat → Int32} (h : CP b i F f) (hi : i < b) : CP b (i + 1) F (upd f i (f (b + i))) := by
  refine ⟨fun k hk => ?_, fun k hk => ?_⟩
  · by_cases hki : k = i
    · rw [hki, upd_s, h.2 _ (by omega)]
    · rw [upd_n hki, h.1 k (by omega)]
  · rw [upd_n (by omega), h.2 k hk]
theorem CP_0 (b : Nat) (F : Nat → Int32) : CP b 0 F F := ⟨fun k hk => absurd hk (by omega), fun _ _ => rfl⟩
abbrev OL : Type := Int32 × (Nat → Int32) × (Nat → Int32) × (Nat → Int32) × (Nat → Int32) × (Nat → Int32) × (Nat → Int32) × (Nat → Int32) × (Nat → Int32) × Int32 × (Nat → Int32) × (Nat → Int32) × (Nat → Int32) × (Nat → Int32) × Int32
theorem X11_lay_203 (n : Int32) (text rm bm jm hms nss fws dns tks told jds bls : Nat → Int32) (pl kept : Int32) : ∀ (d i m : Nat) (del : Nat → Int32), i + d = 8 → d < m → (∀ k, k < i → del k = 0) → ∃ del', mX11_lay_L203 n text m (nI i) rm bm jm hms nss fws dns tks pl told jds bls del kept = some (jm 0, rm, bm, jm, hms, nss, fws, dns, tks, pl, told, jds, bls, del', 0) ∧ ∀ k, k < 8 → del' k = 0 := by
  intro d
  induction d with
  | zero =>
    intro i m del hi hm h
    obtain ⟨m, rfl⟩ : ∃ q, m = q + 1 := ⟨m - 1, by omega⟩
    refine ⟨del, ?_, fun k hk => h k (by omega)⟩
    rw [eX11_lay_203]
    unfold mX11_lay_B203
    rw [n_lit 8, if_pos ((n_le (by omega) (by omega)).mpr (by omega)), lb_d]
    rfl
  | succ d ih =>
    intro i m del hi hm h
    obtain ⟨m, rfl⟩ : ∃ q, m = q + 1 := ⟨m - 1, by omega⟩
    obtain ⟨del', e1, e2⟩ := ih (i + 1) m (upd del i 0) (by omega) (by omega) (fun k hk => by
      by_cases hki : k = i
      · rw [hki, upd_s]
      · rw [upd_n hki, h k (by omega)])
    refine ⟨del', ?_, e2⟩
    rw [eX11_lay_203]
    unfold mX11_lay_B203
    rw [n_lit 8, if_neg (fun hh => absurd ((n_le (a := 8) (by omega) (by omega)).mp hh) (by omega)), gi_n (by omega) (by omega), lb_d, nI_1, lb_d, n_cl (by omega)]
    exact e1
theorem X11_lay_144 (n : Int32) (text rm bm jm hms nss told jds bls del : Nat → Int32) (pl kept : Int32) (F D T : Nat → Int32) : ∀ (d i m : Nat) (fws dns tks : Nat → Int32), i + d = 24 → d < m → CP 24 i F fws → CP 24 i D dns → CP 24 i T tks → ∃ fws' dns' tks' del', mX11_lay_L144 n text m (nI i) rm bm jm hms nss fws dns tks pl told jds bls del kept = some (jm 0, rm, bm, jm, hms, nss, fws', dns', tks', pl, told, jds, bls, del', 0) ∧ CP 24 24 F fws' ∧ CP 24 24 D dns' ∧ CP 24 24 T tks' ∧ ∀ k, k < 8 → del' k = 0 := by
  intro d
  induction d with
  | zero =>
    intro i m fws dns tks hi hm h1 h2 h3
    obtain ⟨m, rfl⟩ : ∃ q, m = q + 1 := ⟨m - 1, by omega⟩
    obtain ⟨del', e1, e2⟩ := X11_lay_203 n text rm bm jm hms nss fws dns tks told jds bls pl kept 8 0 FUEL del (by omega) (by unfold FUEL; omega) (fun k hk => absurd hk (by omega))
    have hi2 : i = 24 := by omega
    subst hi2
    refine ⟨fws, dns, tks, del', ?_, h1, h2, h3, e2⟩
    rw [eX11_lay_144]
    unfold mX11_lay_B144
    rw [n_lit 24, if_pos ((n_le (by omega) (by omega)).mpr (by omega))]
    exact e1
  | succ d ih =>
    intro i m fws dns tks hi hm h1 h2 h3
    obtain ⟨m, rfl⟩ : ∃ q, m = q + 1 := ⟨m - 1, by omega⟩
    obtain ⟨fws', dns', tks', del', e1, e2⟩ := ih (i + 1) m _ _ _ (by omega) (by omega) (CP_next h1 (by omega)) (CP_next h2 (by omega)) (CP_next h3 (by omega))
    refine ⟨fws', dns', tks', del', ?_, e2⟩
    rw [eX11_lay_144]
    unfold mX11_lay_B144
    rw [n_lit 24, if_neg (fun hh => absurd ((n_le (a := 24) (by omega) (by omega)).mp hh) (by omega)), n_add, gi_n (by omega) (by omega), gi_n (by omega) (by omega), lb_d, gi_n (by omega) (by omega), gi_n (by omega) (by omega), lb_d, gi_n (by omega) (by omega), gi_n (by omega) (by omega), lb_d, nI_1, lb_d, n_cl (by omega), n_cl (by omega)]
    exact e1
theorem X11_lay_115 (n : Int32) (text rm bm jm hms nss fws dns tks told bls del : Nat → Int32) (pl kept : Int32) (J : Nat → Int32) : ∀ (d i m : Nat) (jds : Nat → Int32), i + d = 56 → d < m → CP 56 i J jds → ∃ jds' fws' dns' tks' del', mX11_lay_L115 n text m (nI i) rm bm jm hms nss fws dns tks pl told jds bls del kept = some (jm 0, rm, bm, jm, hms, nss, fws', dns', tks', pl, told, jds', bls, del', 0) ∧ CP 56 56 J jds' ∧ CP 24 24 fws fws' ∧ CP 24 24 dns dns' ∧ CP 24 24 tks tks' ∧ ∀ k, k < 8 → del' k = 0 := by
  intro d
  induction d with
  | zero =>
    intro i m jds hi hm h1
    obtain ⟨m, rfl⟩ : ∃ q, m = q + 1 := ⟨m - 1, by omega⟩
    obtain ⟨fws', dns', tks', del', e1, e2⟩ := X11_lay_144 n text rm bm jm hms nss told jds bls del pl kept fws dns tks 24 0 FUEL fws dns tks (by omega) (by unfold FUEL; omega) (CP_0 _ _) (CP_0 _ _) (CP_0 _ _)
    have hi2 : i = 56 := by omega
    subst hi2
    refine ⟨jds, fws', dns', tks', del', ?_, h1, e2⟩
    rw [eX11_lay_115]
    unfold mX11_lay_B115
    rw [n_lit 56, if_pos ((n_le (by omega) (by omega)).mpr (by omega))]
    exact e1
  | succ d ih =>
    intro i m jds hi hm h1
    obtain ⟨m, rfl⟩ : ∃ q, m = q + 1 := ⟨m - 1, by omega⟩
    obtain ⟨jds', fws', dns', tks', del', e1, e2⟩ := ih (i + 1) m _ (by omega) (by omega) (CP_next h1 (by omega))
    refine ⟨jds', fws', dns', tks', del', ?_, e2⟩
    rw [eX11_lay_115]
    unfold mX11_lay_B115
    rw [n_lit 56, if_neg (fun hh => absurd ((n_le (a := 56) (by omega) (by omega)).mp hh) (by omega)), n_add, gi_n (by omega) (by omega), gi_n (by omega) (by omega), lb_d, nI_1, lb_d, n_cl (by omega), n_cl (by omega)]
    exact e1
theorem X11_lay_84 (n : Int32) (text rm bm jm hms nss fws dns tks told jds del : Nat → Int32) (pl kept : Int32) (B : Nat → Int32) : ∀ (d i m : Nat) (bls : Nat → Int32), i + d = 200 → d < m → CP 200 i B bls → ∃ bls' jds' fws' dns' tks' del', mX11_lay_L84 n text m (nI i) rm bm jm hms nss fws dns tks pl told jds bls del kept = some (jm 0, rm, bm, jm, hms, nss, fws', dns', tks', pl, told, jds', bls', del', 0) ∧ CP 200 200 B bls' ∧ CP 56 56 jds jds' ∧ CP 24 24 fws fws' ∧ CP 24 24 dns dns' ∧ CP 24 24 tks tks' ∧ ∀ k, k < 8 → del' k = 0 := by
  intro d
  induction d with
  | zero =>
    intro i m bls hi hm h1
    obtain ⟨m, rfl⟩ : ∃ q, m = q + 1 := ⟨m - 1, by omega⟩
    obtain ⟨jds', fws', dns', tks', del', e1, e2⟩ := X11_lay_115 n text rm bm jm hms nss fws dns tks told bls del pl kept jds 56 0 FUEL jds (by omega) (by unfold FUEL; omega) (CP_0 _ _)
    have hi2 : i = 200 := by omega
    subst hi2
    refine ⟨bls, jds', fws', dns', tks', del', ?_, h1, e2⟩
    rw [eX11_lay_84]
    unfold mX11_lay_B84
    rw [n_lit 200, if_pos ((n_le (by omega) (by omega)).mpr (by omega))]
    exact e1
  | succ d ih =>
    intro i m bls hi hm h1
    obtain ⟨m, rfl⟩ : ∃ q, m = q + 1 := ⟨m - 1, by omega⟩
    obtain ⟨bls', jds', fws', dns', tks', del', e1, e2⟩ := ih (i + 1) m _ (by omega) (by omega) (CP_next h1 (by omega))
    refine ⟨bls', jds', fws', dns', tks', del', ?_, e2⟩
    rw [eX11_lay_84]
    unfold mX11_lay_B84
    rw [n_lit 200, if_neg (fun hh => absurd ((n_le (a := 200) (by omega) (by omega)).mp hh) (by omega)), n_add, gi_n (by omega) (by omega), gi_n (by omega) (by omega), lb_d, nI_1, lb_d, n_cl (by omega), n_cl (by omega)]
    exact e1
set_option maxRecDepth 100000 in
theorem api_lay {c_text_length : Int32} {c_text_bytes : Nat → Int32} {c_laid_rounds : Int32} {c_laid_home : Int32} {c_laid_noise : Int32} {c_laid_blowCount : Int32} {c_laid_judgeCount : Int32} {c_laid_blows : Nat → Int32} {c_laid_judges : Nat → Int32} {c_laid_forward : Nat → Int32} {c_laid_downs : Nat → Int32} {c_laid_taken : Nat → Int32} {c_laid_seenBy : Nat → Int32} {c_laid_sums : Nat → Int32} {c_laid_leads : Nat → Int32} {c_bench_watchers : Nat → Int32} {c_notes_delays : Nat → Int32} {c_notes_margins : Nat → Int32} {c_notes_odds : Nat → Int32} {c_kept_0_delays : Nat → Int32} {c_kept_0_margins : Nat → Int32} {c_kept_0_odds : Nat → Int32} {c_kept_1_delays : Nat → Int32} {c_kept_1_margins : Nat → Int32} {c_kept_1_odds : Nat → Int32} {c_keptCount : Int32} {m_length : Int32} {m_text : Nat → Int32} {m_roundMany : Nat → Int32} {m_blowMany : Nat → Int32} {m_blows : Nat → Int32} {m_forwards : Nat → Int32} {m_downs : Nat → Int32} {m_takens : Nat → Int32} {m_homes : Nat → Int32} {m_noises : Nat → Int32} {m_judgeMany : Nat → Int32} {m_judges : Nat → Int32} {m_delays : Nat → Int32} {m_tolds : Nat → Int32} {m_tens : Nat → Int32} {m_keptMany : Int32}  (c_draft_rounds : Int32) (c_draft_home : Int32) (c_draft_noise : Int32) (c_draft_blowCount : Int32) (c_draft_judgeCount : Int32) (c_reader_place : Int32) (c_draft_blows : Nat → Int32) (c_draft_downs : Nat → Int32) (c_draft_forward : Nat → Int32) (c_draft_judges : Nat → Int32) (c_draft_taken : Nat → Int32) (c_reader_numbers : Nat → Int32) (m_place : Int32) (m_told : Nat → Int32) (hR : RR c_text_length c_text_bytes c_laid_rounds c_laid_home c_laid_noise c_laid_blowCount c_laid_judgeCount c_laid_blows c_laid_judges c_laid_forward c_laid_downs c_laid_taken c_laid_seenBy c_laid_sums c_laid_leads c_bench_watchers c_notes_delays c_notes_margins c_notes_odds c_kept_0_delays c_kept_0_margins c_kept_0_odds c_kept_1_delays c_kept_1_margins c_kept_1_odds c_keptCount m_length m_text m_roundMany m_blowMany m_blows m_forwards m_downs m_takens m_homes m_noises m_judgeMany m_judges m_delays m_tolds m_tens m_keptMany) : ∃ (oc : Int32 × Int32 × Int32 × Int32 × Int32 × Int32 × (Nat → Int32) × (Nat → Int32) × (Nat → Int32) × Int32 × (Nat → Int32) × (Nat → Int32) × (Nat → Int32) × Int32 × Int32 × Int32 × Int32 × Int32 × (Nat → Int32) × (Nat → Int32) × (Nat → Int32) × (Nat → Int32) × (Nat → Int32) × (Nat → Int32) × (Nat → Int32) × (Nat → Int32) × (Nat → Int32) × Int32) (om : Int32 × (Nat → Int32) × (Nat → Int32) × (Nat → Int32) × (Nat → Int32) × (Nat → Int32) × (Nat → Int32) × (Nat → Int32) × (Nat → Int32) × Int32 × (Nat → Int32) × (Nat → Int32) × (Nat → Int32) × (Nat → Int32) × Int32), mX10_lay c_keptCount c_draft_rounds c_draft_home c_draft_noise c_draft_blowCount c_draft_judgeCount c_laid_rounds c_laid_home c_laid_noise c_laid_blowCount c_laid_judgeCount c_reader_place c_text_length c_draft_blows c_draft_downs c_draft_forward c_draft_judges c_draft_taken c_laid_blows c_laid_downs c_laid_forward c_laid_judges c_laid_leads c_laid_seenBy c_laid_sums c_laid_taken c_notes_delays c_reader_numbers c_text_bytes = some oc ∧ mX11_lay m_length m_keptMany m_place m_blowMany m_blows m_delays m_downs m_forwards m_homes m_judgeMany m_judges m_noises m_roundMany m_takens m_text m_told = some om ∧ oc.1 = om.1 ∧ RR c_text_length c_text_bytes oc.2.2.2.2.2.2.2.2.2.2.2.2.2.1 oc.2.2.2.2.2.2.2.2.2.2.2.2.2.2.1 oc.2.2.2.2.2.2.2.2.2.2.2.2.2.2.2.1 oc.2.2.2.2.2.2.2.2.2.2.2.2.2.2.2.2.1 oc.2.2.2.2.2.2.2.2.2.2.2.2.2.2.2.2.2.1 oc.2.2.2.2.2.2.2.2.2.2.2.2.2.2.2.2.2.2.2.2.2.2.1 oc.2.2.2.2.2.2.2.2.2.2.2.2.2.2.2.2.2.2.2.2.2.1 oc.2.2.2.2.2.2.2.2.2.2.2.2.2.2.2.2.2.2.1 oc.2.2.2.2.2.2.2.2.2.2.2.2.2.2.2.2.2.2.2.1 oc.2.2.2.2.2.2.2.2.2.2.2.2.2.2.2.2.2.2.2.2.1 oc.2.2.2.2.2.2.2.2.2.2.2.2.2.2.2.2.2.2.2.2.2.2.2.1 oc.2.2.2.2.2.2.2.2.2.2.2.2.2.2.2.2.2.2.2.2.2.2.2.2.1 oc.2.2.2.2.2.2.2.2.2.2.2.2.2.2.2.2.2.2.2.2.2.2.2.2.2.1 c_bench_watchers oc.2.2.2.2.2.2.2.2.2.2.2.2.2.2.2.2.2.2.2.2.2.2.2.2.2.2.1 c_notes_margins c_notes_odds c_kept_0_delays c_kept_0_margins c_kept_0_odds c_kept_1_delays c_kept_1_margins c_kept_1_odds oc.2.2.2.2.2.2.2.2.2.2.2.2.2.2.2.2.2.2.2.2.2.2.2.2.2.2.2 m_length m_text om.2.1 om.2.2.1 om.2.2.2.2.2.2.2.2.2.2.2.2.1 om.2.2.2.2.2.2.1 om.2.2.2.2.2.2.2.1 om.2.2.2.2.2.2.2.2.1 om.2.2.2.2.1 om.2.2.2.2.2.1 om.2.2.2.1 om.2.2.2.2.2.2.2.2.2.2.2.1 om.2.2.2.2.2.2.2.2.2.2.2.2.2.1 m_tolds m_tens om.2.2.2.2.2.2.2.2.2.2.2.2.2.2 := by
  obtain ⟨⟨n, t, hn, rfl, rfl, ht⟩, ⟨a, hA, hC, hS, hM⟩, hW, K, hK, rfl, rfl, h0, hk1, hk2⟩ := hR
  obtain ⟨om, e1, e2, e3⟩ := readInto_both (t := t) (bytes := c_text_bytes) (text := m_text) ht hn hA.1 hM m_told m_place
  obtain ⟨oc, f1, f2, f3⟩ := e3 c_reader_place c_reader_numbers c_draft_rounds c_draft_home c_draft_noise c_draft_blowCount c_draft_judgeCount c_draft_blows c_draft_downs c_draft_forward c_draft_judges c_draft_taken
  unfold mX10_lay mX11_lay
  rw [f1, b_some, e1, b_some, f2]
  by_cases c4 : om.1 = -4
  · rw [if_pos c4, if_pos c4]
    obtain ⟨a1, A1, A2, A3⟩ := f3 c4
    have j1 : oc.2.2.2.2.2.1 = nI (aJ a1) := A2.2.2.2.2.1
    have j2 : om.2.2.2.1 (1 : Int32).toNatClampNeg = nI (aJ a1) := A3.2.2.1
    have hJ := A1.2.2.1
    rw [j1, j2]
    by_cases c3 : 3 ≤ aJ a1
    · rw [if_pos (show (3 : Int32) ≤ nI (aJ a1) from (n_le (a := 3) (by omega) (by omega)).mpr c3), if_pos (show (3 : Int32) ≤ nI (aJ a1) from (n_le (a := 3) (by omega) (by omega)).mpr c3)]
      obtain ⟨o5, g1, g2, g3⟩ := e3 oc.2.2.2.2.2.2.2.2.2.1 oc.2.2.2.2.2.2.2.2.2.2.1 c_laid_rounds c_laid_home c_laid_noise c_laid_blowCount c_laid_judgeCount c_laid_blows c_laid_downs c_laid_forward c_laid_judges c_laid_taken
      obtain ⟨a2, B1, B2, B3⟩ := g3 c4
      have hJ2 := B1.2.2.1
      have j3 : nI (aJ a2) = nI (aJ a1) := B3.2.2.1.symm.trans A3.2.2.1
      have j4 : aJ a2 = aJ a1 := (n_eq (by omega) (by omega)).mp j3
      obtain ⟨s', su', le', k1, k2⟩ := X3_addUp_s (a := a2) (blows := o5.2.2.2.2.2.2.2.2.2.2.2.2) (judges := o5.2.2.2.2.2.2.2.2.2.2.2.1) (forward := o5.2.2.2.2.2.2.1) B1 B2.2.2.2.2.2.1 B2.2.2.2.2.2.2.1 B2.2.2.2.2.2.2.2.1 c_laid_leads c_laid_seenBy c_laid_sums
      rw [← B2.2.1, ← B2.2.2.1, ← B2.2.2.2.1, ← B2.2.2.2.2.1] at k1
      have hst : mX5_stopDelays c_notes_delays = some (fun k => if k < 8 then 0 else c_notes_delays k) := by
        unfold mX5_stopDelays
        rw [fill_s _ 8 (by omega), b_some]
      obtain ⟨bls', jds', fws', dns', tks', del', l1, l2, l3, l4, l5, l6, l7⟩ := X11_lay_84 (nI n) m_text (upd om.2.1 0 (om.2.1 1)) (upd om.2.2.1 0 (om.2.2.1 1)) (upd om.2.2.2.1 0 (nI (aJ a1))) (upd om.2.2.2.2.1 0 (om.2.2.2.2.1 1)) (upd om.2.2.2.2.2.1 0 (om.2.2.2.2.2.1 1)) om.2.2.2.2.2.2.1 om.2.2.2.2.2.2.2.1 om.2.2.2.2.2.2.2.2.1 om.2.2.2.2.2.2.2.2.2.2.1 om.2.2.2.2.2.2.2.2.2.2.2.1 m_delays om.2.2.2.2.2.2.2.2.2.1 (nI K) om.2.2.2.2.2.2.2.2.2.2.2.2 200 0 FUEL om.2.2.2.2.2.2.2.2.2.2.2.2 (by omega) (by unfold FUEL; omega) (CP_0 _ _)
      have hB5 := B1.2.1
      rw [g1, b_some, k1, b_some, hst, b_some, lb_d, lb_d, lb_d, lb_d, lb_d]
      refine ⟨_, _, rfl, l1, ?_, ⟨n, t, hn, rfl, rfl, ht⟩, ⟨a2, ⟨B1, by omega⟩, B2, k2, ⟨?_, ?_, ?_, ?_, ?_, fun k hk => ?_, fun k hk => ?_, fun k hk => ?_, fun k hk => ?_, fun k hk => ?_⟩⟩, hW, ⟨0, by omega, rfl, rfl, ⟨fun j hj => ⟨0, by omega, ?_, ?_⟩, h0.2.1, h0.2.2⟩, fun h => absurd h (by omega), fun h => absurd h (by omega)⟩⟩
      · show o5.2.2.2.2.2.1 = upd om.2.2.2.1 0 (nI (aJ a1)) 0
        rw [upd_s, B2.2.2.2.2.1, j4]
      · show upd om.2.1 0 (om.2.1 1) 0 = _
        rw [upd_s]
        exact B3.1
      · show upd om.2.2.1 0 (om.2.2.1 1) 0 = _
        rw [upd_s]
        exact B3.2.1
      · show upd om.2.2.2.1 0 (nI (aJ a1)) 0 = _
        rw [upd_s]
        exact j3.symm
      · show upd om.2.2.2.2.1 0 (om.2.2.2.2.1 1) 0 = _
        rw [upd_s]
        exact B3.2.2.2.1
      · show upd om.2.2.2.2.2.1 0 (om.2.2.2.2.2.1 1) 0 = _
        rw [upd_s]
        exact B3.2.2.2.2.1
      · exact (l2.1 k (by omega)).trans (B3.2.2.2.2.2.1 k hk)
      · exact (l3.1 k (by omega)).trans (B3.2.2.2.2.2.2.1 k hk)
      · exact (l4.1 k hk).trans (B3.2.2.2.2.2.2.2.1 k hk)
      · exact (l5.1 k hk).trans (B3.2.2.2.2.2.2.2.2.1 k hk)
      · exact (l6.1 k hk).trans (B3.2.2.2.2.2.2.2.2.2 k hk)
      · show (if j < 8 then (0 : Int32) else c_notes_delays j) = nI 0
        rw [if_pos hj]
        rfl
      · show del' (8 * 0 + j) = nI 0
        rw [Nat.mul_zero, Nat.zero_add, l7 j hj]
        rfl
    · rw [if_neg (show ¬ (3 : Int32) ≤ nI (aJ a1) from fun hh => c3 ((n_le (a := 3) (by omega) (by omega)).mp hh)), if_neg (show ¬ (3 : Int32) ≤ nI (aJ a1) from fun hh => c3 ((n_le (a := 3) (by omega) (by omega)).mp hh))]
      exact ⟨_, _, rfl, rfl, rfl, ⟨n, t, hn, rfl, rfl, ht⟩, ⟨a, hA, hC, hS, e2⟩, hW, K, hK, rfl, rfl, h0, hk1, hk2⟩
  · rw [if_neg c4, if_neg c4]
    exact ⟨_, _, rfl, rfl, rfl, ⟨n, t, hn, rfl, rfl, ht⟩, ⟨a, hA, hC, hS, e2⟩, hW, K, hK, rfl, rfl, h0, hk1, hk2⟩
