/-! API K: lean -/
theorem X9_mean_s {rv : Nat → Int} {f : Nat → Int32} {c : Nat} (hc : c ≤ 6) (hf : ∀ k, k < c → f k = iI (rv k)) : mX9_meanOfRow (nI c) f = (if nI c = 0 then (some 0) else (gd (¬ nI c = 0) <| lb (iI (sZ rv 0 c) / nI c) fun v_4 => some v_4)) := by
  have key : ∀ (d i n : Nat) (s : Int), i + d = c → d < n → mX9_meanOfRow_L4 (nI c) f n (iI s) (nI i) = (if nI c = 0 then (some 0) else (gd (¬ nI c = 0) <| lb (iI (s + sZ rv i d) / nI c) fun v_4 => some v_4)) := by
    intro d
    induction d with
    | zero =>
      intro i n s hi hn
      obtain ⟨n, rfl⟩ : ∃ q, n = q + 1 := ⟨n - 1, by omega⟩
      rw [eX9_meanOfRow_4]
      unfold mX9_meanOfRow_B4
      rw [if_pos ((n_le (by omega) (by omega)).mpr (by omega)), show s + sZ rv i 0 = s from Int.add_zero s]
    | succ d ih =>
      intro i n s hi hn
      obtain ⟨n, rfl⟩ : ∃ q, n = q + 1 := ⟨n - 1, by omega⟩
      rw [eX9_meanOfRow_4]
      unfold mX9_meanOfRow_B4
      rw [if_neg (fun hh => absurd ((n_le (by omega) (by omega)).mp hh) (by omega))]
      simp only [gi_n (show i < 6 by omega) (show 6 ≤ 2147483648 by omega), lb_d, n_cl (show i < 2147483648 by omega), hf i (by omega), n_lit 1, n_add, iI_add]
      rw [ih (i + 1) n (s + rv i) (by omega) (by omega), show sZ rv i (d + 1) = rv i + sZ rv (i + 1) d from rfl, Int.add_assoc]
      rfl
  unfold mX9_meanOfRow
  have h := key c 0 FUEL 0 (by omega) (by unfold FUEL; omega)
  rw [Int.zero_add] at h
  exact h
theorem sZ_one : ∀ (d i : Nat), sZ (fun _ => 1) i d = d := by
  intro d
  induction d with
  | zero => intro i; rfl
  | succ d ih => intro i; show 1 + sZ (fun _ => 1) (i + 1) d = _; rw [ih]; omega
def leanEnd (x0 : Int32) (mt : Nat → Int32) (k28 : Int32 → Int32 → Int32 → Option Int32) (l3 l4 l5 l6 l7 : Int32) : Option Int32 := (mX11_toldOf x0 l5 mt).bind fun o_10 => if o_10 ≤ -21 then (lb (l5 + 1) fun v_13 => k28 l3 l4 v_13) else (if l7 ≤ 0 then (lb (l5 + 1) fun v_15 => k28 l3 l4 v_15) else ((mX11_toldOf x0 l5 mt).bind fun o_16 => gd (¬ l7 = 0) <| lb (l3 + (o_16 - (l6 / l7))) fun v_19 => lb (l4 + 1) fun v_20 => lb (l5 + 1) fun v_21 => k28 v_19 v_20 v_21))
theorem X11_lean44_s {tv : Nat → Int} {m mt : Nat → Int32} (h : okT tv m mt) {p t : Nat} (hp : p ≤ 5) (ht : t < 24) (x1 : Int32) (k28 : Int32 → Int32 → Int32 → Option Int32) (l3 l4 : Int32) : ∀ (d i n : Nat) (s c : Int), i + d = 6 → d < n → mX11_lean_L44 (nI p) x1 mt k28 n l3 l4 (nI t) (iI s) (iI c) (nI i) = leanEnd (nI p) mt k28 l3 l4 (nI t) (iI (s + sZ (oT (fun z => z) tv p t) i d)) (iI (c + sZ (oT (fun _ => 1) tv p t) i d)) := by
  intro d
  induction d with
  | zero =>
    intro i n s c hi hn
    obtain ⟨n, rfl⟩ : ∃ q, n = q + 1 := ⟨n - 1, by omega⟩
    rw [eX11_lean_44]
    unfold mX11_lean_B44
    rw [n_lit 6, if_pos ((n_le (by omega) (by omega)).mpr (by omega)), show ∀ g, s + sZ g i 0 = s from fun g => Int.add_zero s, show ∀ g, c + sZ g i 0 = c from fun g => Int.add_zero c]
    rfl
  | succ d ih =>
    intro i n s c hi hn
    obtain ⟨n, rfl⟩ : ∃ q, n = q + 1 := ⟨n - 1, by omega⟩
    have z1 := (h (24 * i + t) (by omega)).1
    rw [eX11_lean_44]
    unfold mX11_lean_B44
    rw [n_lit 6, if_neg (fun hh => absurd ((n_le (by omega) (by omega)).mp hh) (by omega)), show ∀ g, sZ g i (d + 1) = g i + sZ g (i + 1) d from fun _ => rfl, show ∀ g, sZ g i (d + 1) = g i + sZ g (i + 1) d from fun _ => rfl]
    unfold oT
    by_cases c1 : i = p
    · rw [if_pos (by rw [c1]), lb_d, n_lit 1, n_add, if_pos (Or.inl c1), if_pos (Or.inl c1), Int.zero_add, Int.zero_add]
      exact ih (i + 1) n s c (by omega) (by omega)
    · rw [if_neg (fun hh => c1 ((n_eq (by omega) (by omega)).mp hh)), X11_toldOf_s h (by omega) ht, b_some, i_m21]
      by_cases c2 : tv (24 * i + t) = -21
      · rw [if_pos ((iI_le (by omega) (by omega) (by omega) (by omega)).mpr (by omega)), lb_d, n_lit 1, n_add, if_pos (Or.inr c2), if_pos (Or.inr c2), Int.zero_add, Int.zero_add]
        exact ih (i + 1) n s c (by omega) (by omega)
      · rw [if_neg (fun hh => absurd ((iI_le (by omega) (by omega) (by omega) (by omega)).mp hh) (by omega)), b_some, lb_d, lb_d, lb_d, iI_add, show (1 : Int32) = iI 1 from by decide, iI_add, if_neg (by omega), if_neg (by omega), ← Int.add_assoc, ← Int.add_assoc, show nI i + iI 1 = nI (i + 1) from by rw [show iI 1 = nI 1 from by decide, n_add]]
        exact ih (i + 1) n (s + tv (24 * i + t)) (c + 1) (by omega) (by omega)
theorem lean_s {tv : Nat → Int} {m mt : Nat → Int32} (h : okT tv m mt) {p : Nat} (hp : p ≤ 5) (x1 : Int32) : ∀ (d i n n' : Nat) (l3 l4 c0 : Int32) (f0 : Nat → Int32), i + d = 24 → d < n → d < n' → ∃ (oc : Int32 × Int32 × (Nat → Int32)) (om : Int32), mX9_leaning_L8 (nI p) x1 m n l3 l4 (nI i) c0 f0 = some oc ∧ mX11_lean_L28 (nI p) x1 mt n' l3 l4 (nI i) = some om ∧ oc.1 = om := by
  intro d
  induction d with
  | zero =>
    intro i n n' l3 l4 c0 f0 hi hn hn'
    obtain ⟨n, rfl⟩ : ∃ q, n = q + 1 := ⟨n - 1, by omega⟩
    obtain ⟨n', rfl⟩ : ∃ q, n' = q + 1 := ⟨n' - 1, by omega⟩
    rw [eX9_leaning_8, eX11_lean_28]
    unfold mX9_leaning_B8 mX11_lean_B28
    rw [n_lit 24, if_pos ((n_le (by omega) (by omega)).mpr (by omega)), if_pos ((n_le (by omega) (by omega)).mpr (by omega))]
    by_cases c1 : x1 = 0
    · rw [if_pos c1, if_pos c1]
      exact ⟨_, _, rfl, rfl, rfl⟩
    · rw [if_neg c1, if_neg c1]
      exact ⟨_, _, rfl, rfl, rfl⟩
  | succ d ih =>
    intro i n n' l3 l4 c0 f0 hi hn hn'
    obtain ⟨n, rfl⟩ : ∃ q, n = q + 1 := ⟨n - 1, by omega⟩
    obtain ⟨n', rfl⟩ : ∃ q, n' = q + 1 := ⟨n' - 1, by omega⟩
    have z1 := (h (24 * p + i) (by omega)).1
    rw [eX9_leaning_8, eX11_lean_28]
    unfold mX9_leaning_B8 mX11_lean_B28
    rw [n_lit 24, if_neg (fun hh => absurd ((n_le (by omega) (by omega)).mp hh) (by omega)), if_neg (fun hh => absurd ((n_le (by omega) (by omega)).mp hh) (by omega))]
    obtain ⟨c', rv', f', k1, k2, k3, k4, k5, k6⟩ := X9_fillRow_s h hp (show i < 24 by omega) 6 0 FUEL 0 (fun _ => 0) f0 (by omega) (by unfold FUEL; omega) (by omega) (fun a b _ hb => absurd hb (by omega)) (fun k hk => absurd hk (by omega)) (fun k hk => absurd hk (by omega))
    have q6 : mX9_fillRow (nI p) (nI i) c0 f0 m = some (nI c', f') := by
      unfold mX9_fillRow
      exact k6
    have qc := k5 (fun _ => 1)
    have qs := k5 (fun z => z)
    rw [sZ_one] at qc
    have qc' : (c' : Int) = 0 + sZ (oT (fun _ => 1) tv p i) 0 6 := qc
    have qs' : sZ rv' 0 c' = 0 + sZ (oT (fun z => z) tv p i) 0 6 := qs
    have y := X11_lean44_s h hp (show i < 24 by omega) x1 (mX11_lean_L28 (nI p) x1 mt n') l3 l4 6 0 FUEL 0 0 (by omega) (by unfold FUEL; omega)
    rw [← qc', ← qs', ← nI_iI] at y
    rw [q6, b_some, X5_isTold_s h hp (by omega), b_some]
    have y' : mX11_lean_L44 (nI p) x1 mt (mX11_lean_L28 (nI p) x1 mt n') FUEL l3 l4 (nI i) 0 0 0 = leanEnd (nI p) mt (mX11_lean_L28 (nI p) x1 mt n') l3 l4 (nI i) (iI (sZ rv' 0 c')) (nI c') := y
    rw [y']
    unfold leanEnd
    rw [X11_toldOf_s h hp (by omega), b_some, b_some, i_m21]
    by_cases c1 : tv (24 * p + i) = -21
    · rw [if_pos c1, if_pos rfl, if_pos ((iI_le (by omega) (by omega) (by omega) (by omega)).mpr (by omega)), lb_d, lb_d, n_lit 1, n_add]
      exact ih (i + 1) n n' l3 l4 _ _ (by omega) (by omega) (by omega)
    · rw [if_neg c1, if_neg (show ¬ (1 : Int32) = 0 by decide), if_neg (fun hh => absurd ((iI_le (by omega) (by omega) (by omega) (by omega)).mp hh) (by omega))]
      by_cases c2 : c' = 0
      · subst c2
        rw [if_pos (show nI 0 ≤ (0 : Int32) by decide), if_pos (show nI 0 ≤ (0 : Int32) by decide), lb_d, lb_d, n_lit 1, n_add]
        exact ih (i + 1) n n' l3 l4 _ _ (by omega) (by omega) (by omega)
      · have c3 : ¬ nI c' ≤ (0 : Int32) := fun hh => absurd ((n_le (b := 0) (by omega) (by omega)).mp hh) (by omega)
        have c4 : ¬ nI c' = (0 : Int32) := fun hh => absurd ((n_eq (b := 0) (by omega) (by omega)).mp hh) (by omega)
        rw [if_neg c3, if_neg c3, X5_toldOf_s h hp (by omega), b_some, X9_mean_s k1 k4, if_neg c4]
        unfold gd
        rw [if_pos c4, lb_d, b_some, lb_d, lb_d, lb_d, lb_d, lb_d, lb_d, n_lit 1, n_add, if_pos c4]
        exact ih (i + 1) n n' _ _ _ _ (by omega) (by omega) (by omega)
set_option maxRecDepth 100000 in
theorem api_lean {c_text_length : Int32} {c_text_bytes : Nat → Int32} {c_laid_rounds : Int32} {c_laid_home : Int32} {c_laid_noise : Int32} {c_laid_blowCount : Int32} {c_laid_judgeCount : Int32} {c_laid_blows : Nat → Int32} {c_laid_judges : Nat → Int32} {c_laid_forward : Nat → Int32} {c_laid_downs : Nat → Int32} {c_laid_taken : Nat → Int32} {c_laid_seenBy : Nat → Int32} {c_laid_sums : Nat → Int32} {c_laid_leads : Nat → Int32} {c_bench_watchers : Nat → Int32} {c_notes_delays : Nat → Int32} {c_notes_margins : Nat → Int32} {c_notes_odds : Nat → Int32} {c_kept_0_delays : Nat → Int32} {c_kept_0_margins : Nat → Int32} {c_kept_0_odds : Nat → Int32} {c_kept_1_delays : Nat → Int32} {c_kept_1_margins : Nat → Int32} {c_kept_1_odds : Nat → Int32} {c_keptCount : Int32} {m_length : Int32} {m_text : Nat → Int32} {m_roundMany : Nat → Int32} {m_blowMany : Nat → Int32} {m_blows : Nat → Int32} {m_forwards : Nat → Int32} {m_downs : Nat → Int32} {m_takens : Nat → Int32} {m_homes : Nat → Int32} {m_noises : Nat → Int32} {m_judgeMany : Nat → Int32} {m_judges : Nat → Int32} {m_delays : Nat → Int32} {m_tolds : Nat → Int32} {m_tens : Nat → Int32} {m_keptMany : Int32} (x0 : Int32) (x1 : Int32) (c_told_rowCount : Int32) (c_told_row : Nat → Int32) (hR : RR c_text_length c_text_bytes c_laid_rounds c_laid_home c_laid_noise c_laid_blowCount c_laid_judgeCount c_laid_blows c_laid_judges c_laid_forward c_laid_downs c_laid_taken c_laid_seenBy c_laid_sums c_laid_leads c_bench_watchers c_notes_delays c_notes_margins c_notes_odds c_kept_0_delays c_kept_0_margins c_kept_0_odds c_kept_1_delays c_kept_1_margins c_kept_1_odds c_keptCount m_length m_text m_roundMany m_blowMany m_blows m_forwards m_downs m_takens m_homes m_noises m_judgeMany m_judges m_delays m_tolds m_tens m_keptMany) : ∃ (oc : Int32 × Int32 × (Nat → Int32)) (om : Int32), mX10_lean x0 x1 c_told_rowCount c_notes_margins c_told_row = some oc ∧ mX11_lean x0 x1 m_tolds = some om ∧ oc.1 = om := by
  obtain ⟨hT, hF, hW, K, hK, rfl, rfl, h0, h1, h2⟩ := hR
  obtain ⟨tv, h⟩ := okT_of h0
  unfold mX10_lean mX11_lean
  rw [X11_isName_s, X10_isName_s, b_some, b_some, if10, if10]
  by_cases c1 : (0 : Int32) ≤ x0 ∧ x0 ≤ 5
  · rw [if_pos c1, if_pos c1, in_wl 0 1 (by decide) (by decide), X10_within_s, b_some, b_some, if10, if10]
    by_cases c4 : (0 : Int32) ≤ x1 ∧ x1 ≤ 1
    · rw [if_pos c4, if_pos c4]
      obtain ⟨p, hp, rfl⟩ := w_n (b := 5) (by omega) c1
      unfold mX9_leaning
      obtain ⟨oc, om, e1, e2, e3⟩ := lean_s h hp x1 24 0 FUEL FUEL 0 0 c_told_rowCount c_told_row (by omega) (by unfold FUEL; omega) (by unfold FUEL; omega)
      rw [show (mX9_leaning_L8 (nI p) x1 c_notes_margins FUEL 0 0 0 c_told_rowCount c_told_row) = some oc from e1, b_some]
      exact ⟨_, om, rfl, e2, e3⟩
    · rw [if_neg c4, if_neg c4]
      exact ⟨_, _, rfl, rfl, rfl⟩
  · rw [if_neg c1, if_neg c1]
    exact ⟨_, _, rfl, rfl, rfl⟩
