/-! API H: kept fights, counts, the text -/
def cpS (w a b i : Nat) (f : Nat → Int32) : Nat → Int32 := fun k => if w * b ≤ k ∧ k < w * b + i then f (w * a + (k - w * b)) else f k
theorem cpS_0 (w a b : Nat) (f : Nat → Int32) : cpS w a b 0 f = f := by
  funext k
  unfold cpS
  rw [if_neg (by omega)]
theorem cpS_step {w a b i : Nat} {f : Nat → Int32} (hi : i < w) (hab : w * a + w ≤ w * b ∨ w * b + w ≤ w * a) : upd (cpS w a b i f) (w * b + i) (cpS w a b i f (w * a + i)) = cpS w a b (i + 1) f := by
  have e : cpS w a b i f (w * a + i) = f (w * a + i) := by
    unfold cpS
    rw [if_neg (by omega)]
  rw [e]
  funext k
  rw [upd_d]
  by_cases h : k = w * b + i
  · subst h
    rw [if_pos rfl]
    unfold cpS
    rw [if_pos (by omega), show w * b + i - w * b = i by omega]
  · rw [if_neg h]
    unfold cpS
    by_cases h2 : w * b ≤ k ∧ k < w * b + i
    · rw [if_pos h2, if_pos (by omega)]
    · rw [if_neg h2, if_neg (by omega)]
theorem X11_copy_s {a b : Nat} (ha : a ≤ 2) (hb : b ≤ 2) (hab : a ≠ b) (de te to : Nat → Int32) : mX11_copy (nI a) (nI b) de te to = some (cpS 8 a b 8 de, cpS 144 a b 144 to, cpS 4 a b 4 te) := by
  have k3 : ∀ (d i n : Nat) (x y : Nat → Int32), i + d = 4 → d < n → mX11_copy_L77 (nI a) (nI b) n (nI i) x y (cpS 4 a b i te) = some (x, y, cpS 4 a b 4 te) := by
    intro d
    induction d with
    | zero =>
      intro i n x y hi hn
      obtain ⟨n, rfl⟩ : ∃ q, n = q + 1 := ⟨n - 1, by omega⟩
      rw [eX11_copy_77]
      unfold mX11_copy_B77
      rw [n_lit 4, if_pos ((n_le (by omega) (by omega)).mpr (by omega)), show i = 4 by omega]
    | succ d ih =>
      intro i n x y hi hn
      obtain ⟨n, rfl⟩ : ∃ q, n = q + 1 := ⟨n - 1, by omega⟩
      rw [eX11_copy_77]
      unfold mX11_copy_B77
      rw [n_lit 4, if_neg (fun hh => absurd ((n_le (by omega) (by omega)).mp hh) (by omega)), n_mul, n_add, n_mul, n_add]
      simp only [gi_n (show 4 * a + i < 12 by omega) (show 12 ≤ 2147483648 by omega), gi_n (show 4 * b + i < 12 by omega) (show 12 ≤ 2147483648 by omega), lb_d, n_cl (show 4 * a + i < 2147483648 by omega), n_cl (show 4 * b + i < 2147483648 by omega), n_lit 1, n_add, cpS_step (w := 4) (a := a) (b := b) (i := i) (f := te) (by omega) (by omega)]
      exact ih (i + 1) n x y (by omega) (by omega)
  have k2 : ∀ (d i n : Nat) (x : Nat → Int32), i + d = 144 → d < n → mX11_copy_L38 (nI a) (nI b) n (nI i) x (cpS 144 a b i to) te = some (x, cpS 144 a b 144 to, cpS 4 a b 4 te) := by
    intro d
    induction d with
    | zero =>
      intro i n x hi hn
      obtain ⟨n, rfl⟩ : ∃ q, n = q + 1 := ⟨n - 1, by omega⟩
      rw [eX11_copy_38]
      unfold mX11_copy_B38
      rw [n_lit 144, if_pos ((n_le (by omega) (by omega)).mpr (by omega)), show i = 144 by omega, n_lit 0]
      have h := k3 4 0 FUEL x (cpS 144 a b 144 to) (by omega) (by unfold FUEL; omega)
      rw [cpS_0] at h
      exact h
    | succ d ih =>
      intro i n x hi hn
      obtain ⟨n, rfl⟩ : ∃ q, n = q + 1 := ⟨n - 1, by omega⟩
      rw [eX11_copy_38]
      unfold mX11_copy_B38
      rw [n_lit 144, if_neg (fun hh => absurd ((n_le (by omega) (by omega)).mp hh) (by omega)), n_mul, n_add, n_mul, n_add]
      simp only [gi_n (show 144 * a + i < 432 by omega) (show 432 ≤ 2147483648 by omega), gi_n (show 144 * b + i < 432 by omega) (show 432 ≤ 2147483648 by omega), lb_d, n_cl (show 144 * a + i < 2147483648 by omega), n_cl (show 144 * b + i < 2147483648 by omega), n_lit 1, n_add, cpS_step (w := 144) (a := a) (b := b) (i := i) (f := to) (by omega) (by omega)]
      exact ih (i + 1) n x (by omega) (by omega)
  have k1 : ∀ (d i n : Nat), i + d = 8 → d < n → mX11_copy_L2 (nI a) (nI b) n (nI i) (cpS 8 a b i de) to te = some (cpS 8 a b 8 de, cpS 144 a b 144 to, cpS 4 a b 4 te) := by
    intro d
    induction d with
    | zero =>
      intro i n hi hn
      obtain ⟨n, rfl⟩ : ∃ q, n = q + 1 := ⟨n - 1, by omega⟩
      rw [eX11_copy_2]
      unfold mX11_copy_B2
      rw [n_lit 8, if_pos ((n_le (by omega) (by omega)).mpr (by omega)), show i = 8 by omega, n_lit 0]
      have h := k2 144 0 FUEL (cpS 8 a b 8 de) (by omega) (by unfold FUEL; omega)
      rw [cpS_0] at h
      exact h
    | succ d ih =>
      intro i n hi hn
      obtain ⟨n, rfl⟩ : ∃ q, n = q + 1 := ⟨n - 1, by omega⟩
      rw [eX11_copy_2]
      unfold mX11_copy_B2
      rw [n_lit 8, if_neg (fun hh => absurd ((n_le (by omega) (by omega)).mp hh) (by omega)), n_mul, n_add, n_mul, n_add]
      simp only [gi_n (show 8 * a + i < 24 by omega) (show 24 ≤ 2147483648 by omega), gi_n (show 8 * b + i < 24 by omega) (show 24 ≤ 2147483648 by omega), lb_d, n_cl (show 8 * a + i < 2147483648 by omega), n_cl (show 8 * b + i < 2147483648 by omega), n_lit 1, n_add, cpS_step (w := 8) (a := a) (b := b) (i := i) (f := de) (by omega) (by omega)]
      exact ih (i + 1) n (by omega) (by omega)
  unfold mX11_copy
  rw [n_lit 0]
  have h := k1 8 0 FUEL (by omega) (by unfold FUEL; omega)
  rw [cpS_0] at h
  exact h
theorem X5_copyFrom_s (d m o d' m' o' : Nat → Int32) : mX5_copyFrom d m o d' m' o' = some (va_cpy d' d 0 0 8, va_cpy m' m 0 0 144, va_cpy o' o 0 0 4) := by
  unfold mX5_copyFrom gcp
  rw [if_pos (by decide), lb_d, if_pos (by decide), lb_d, if_pos (by decide), lb_d]
  rfl
theorem NR.cp {d m o md mt mo : Nat → Int32} {a b : Nat} (h : NR d m o md mt mo a) (d' m' o' : Nat → Int32) : NR (va_cpy d d' 0 0 8) (va_cpy m m' 0 0 144) (va_cpy o o' 0 0 4) (cpS 8 a b 8 md) (cpS 144 a b 144 mt) (cpS 4 a b 4 mo) b := by
  refine ⟨fun j hj => ?_, fun j hj => ?_, fun j hj => ?_⟩
  · obtain ⟨v, h1, h2, h3⟩ := h.1 j hj
    refine ⟨v, h1, ?_, ?_⟩
    · unfold va_cpy; rw [if_pos (by omega), show 0 + (j - 0) = j by omega]; exact h2
    · unfold cpS; rw [if_pos (by omega), show 8 * b + j - 8 * b = j by omega]; exact h3
  · obtain ⟨v, h1, h1', h2, h3⟩ := h.2.1 j hj
    refine ⟨v, h1, h1', ?_, ?_⟩
    · unfold va_cpy; rw [if_pos (by omega), show 0 + (j - 0) = j by omega]; exact h2
    · unfold cpS; rw [if_pos (by omega), show 144 * b + j - 144 * b = j by omega]; exact h3
  · obtain ⟨v, h1, h2, h3⟩ := h.2.2 j hj
    refine ⟨v, h1, ?_, ?_⟩
    · unfold va_cpy; rw [if_pos (by omega), show 0 + (j - 0) = j by omega]; exact h2
    · unfold cpS; rw [if_pos (by omega), show 4 * b + j - 4 * b = j by omega]; exact h3
theorem NR.far {d m o md mt mo : Nat → Int32} {c : Nat} (h : NR d m o md mt mo c) (a b : Nat) (hcb : c ≠ b) : NR d m o (cpS 8 a b 8 md) (cpS 144 a b 144 mt) (cpS 4 a b 4 mo) c := by
  refine ⟨fun j hj => ?_, fun j hj => ?_, fun j hj => ?_⟩
  · obtain ⟨v, h1, h2, h3⟩ := h.1 j hj
    exact ⟨v, h1, h2, by unfold cpS; rw [if_neg (by omega)]; exact h3⟩
  · obtain ⟨v, h1, h1', h2, h3⟩ := h.2.1 j hj
    exact ⟨v, h1, h1', h2, by unfold cpS; rw [if_neg (by omega)]; exact h3⟩
  · obtain ⟨v, h1, h2, h3⟩ := h.2.2 j hj
    exact ⟨v, h1, h2, by unfold cpS; rw [if_neg (by omega)]; exact h3⟩
set_option maxRecDepth 100000 in
theorem api_keep {c_text_length : Int32} {c_text_bytes : Nat → Int32} {c_laid_rounds : Int32} {c_laid_home : Int32} {c_laid_noise : Int32} {c_laid_blowCount : Int32} {c_laid_judgeCount : Int32} {c_laid_blows : Nat → Int32} {c_laid_judges : Nat → Int32} {c_laid_forward : Nat → Int32} {c_laid_downs : Nat → Int32} {c_laid_taken : Nat → Int32} {c_laid_seenBy : Nat → Int32} {c_laid_sums : Nat → Int32} {c_laid_leads : Nat → Int32} {c_bench_watchers : Nat → Int32} {c_notes_delays : Nat → Int32} {c_notes_margins : Nat → Int32} {c_notes_odds : Nat → Int32} {c_kept_0_delays : Nat → Int32} {c_kept_0_margins : Nat → Int32} {c_kept_0_odds : Nat → Int32} {c_kept_1_delays : Nat → Int32} {c_kept_1_margins : Nat → Int32} {c_kept_1_odds : Nat → Int32} {c_keptCount : Int32} {m_length : Int32} {m_text : Nat → Int32} {m_roundMany : Nat → Int32} {m_blowMany : Nat → Int32} {m_blows : Nat → Int32} {m_forwards : Nat → Int32} {m_downs : Nat → Int32} {m_takens : Nat → Int32} {m_homes : Nat → Int32} {m_noises : Nat → Int32} {m_judgeMany : Nat → Int32} {m_judges : Nat → Int32} {m_delays : Nat → Int32} {m_tolds : Nat → Int32} {m_tens : Nat → Int32} {m_keptMany : Int32}   (hR : RR c_text_length c_text_bytes c_laid_rounds c_laid_home c_laid_noise c_laid_blowCount c_laid_judgeCount c_laid_blows c_laid_judges c_laid_forward c_laid_downs c_laid_taken c_laid_seenBy c_laid_sums c_laid_leads c_bench_watchers c_notes_delays c_notes_margins c_notes_odds c_kept_0_delays c_kept_0_margins c_kept_0_odds c_kept_1_delays c_kept_1_margins c_kept_1_odds c_keptCount m_length m_text m_roundMany m_blowMany m_blows m_forwards m_downs m_takens m_homes m_noises m_judgeMany m_judges m_delays m_tolds m_tens m_keptMany) : ∃ (oc : Int32 × (Nat → Int32) × (Nat → Int32) × (Nat → Int32) × (Nat → Int32) × (Nat → Int32) × (Nat → Int32) × Int32) (om : Int32 × Int32 × (Nat → Int32) × (Nat → Int32) × (Nat → Int32)), mX10_keep c_keptCount c_notes_delays c_notes_margins c_notes_odds c_kept_0_delays c_kept_0_margins c_kept_0_odds c_kept_1_delays c_kept_1_margins c_kept_1_odds = some oc ∧ mX11_keep m_keptMany m_delays m_tens m_tolds = some om ∧ oc.1 = om.1 ∧ RR c_text_length c_text_bytes c_laid_rounds c_laid_home c_laid_noise c_laid_blowCount c_laid_judgeCount c_laid_blows c_laid_judges c_laid_forward c_laid_downs c_laid_taken c_laid_seenBy c_laid_sums c_laid_leads c_bench_watchers c_notes_delays c_notes_margins c_notes_odds oc.2.1 oc.2.2.2.1 oc.2.2.2.2.2.1 oc.2.2.1 oc.2.2.2.2.1 oc.2.2.2.2.2.2.1 oc.2.2.2.2.2.2.2 m_length m_text m_roundMany m_blowMany m_blows m_forwards m_downs m_takens m_homes m_noises m_judgeMany m_judges om.2.2.1 om.2.2.2.1 om.2.2.2.2 om.2.1 := by
  obtain ⟨hT, hF, hW, K, hK, rfl, rfl, h0, h1, h2⟩ := hR
  unfold mX10_keep mX11_keep
  rcases (show K = 0 ∨ K = 1 ∨ K = 2 by omega) with rfl | rfl | rfl
  · rw [if_pos (show nI 0 < (2 : Int32) by decide), if_pos (show nI 0 = (0 : Int32) from rfl), X5_copyFrom_s, b_some, lb_d, if_neg (show ¬ nI 0 = (2 : Int32) by decide), lb_d, show nI 0 + (1 : Int32) = nI 1 from rfl, show (0 : Int32) = nI 0 from rfl, X11_copy_s (by omega) (by omega) (by omega), b_some]
    exact ⟨_, _, rfl, rfl, rfl, hT, hF, hW, 1, by omega, rfl, rfl, h0.far 0 1 (by omega), fun _ => h0.cp _ _ _, fun h => absurd h (by omega)⟩
  · rw [if_pos (show nI 1 < (2 : Int32) by decide), if_neg (show ¬ nI 1 = (0 : Int32) by decide), if_pos (show nI 1 = (1 : Int32) from rfl), X5_copyFrom_s, b_some, lb_d, if_neg (show ¬ nI 1 = (2 : Int32) by decide), lb_d, show nI 1 + (1 : Int32) = nI 2 from rfl, show (0 : Int32) = nI 0 from rfl, X11_copy_s (by omega) (by omega) (by omega), b_some]
    exact ⟨_, _, rfl, rfl, rfl, hT, hF, hW, 2, by omega, rfl, rfl, h0.far 0 2 (by omega), fun _ => (h1 (by omega)).far 0 2 (by omega), fun _ => h0.cp _ _ _⟩
  · rw [if_neg (show ¬ nI 2 < (2 : Int32) by decide), if_pos (show nI 2 = (2 : Int32) from rfl)]
    exact ⟨_, _, rfl, rfl, rfl, hT, hF, hW, 2, by omega, rfl, rfl, h0, h1, h2⟩
set_option maxRecDepth 100000 in
theorem api_back {c_text_length : Int32} {c_text_bytes : Nat → Int32} {c_laid_rounds : Int32} {c_laid_home : Int32} {c_laid_noise : Int32} {c_laid_blowCount : Int32} {c_laid_judgeCount : Int32} {c_laid_blows : Nat → Int32} {c_laid_judges : Nat → Int32} {c_laid_forward : Nat → Int32} {c_laid_downs : Nat → Int32} {c_laid_taken : Nat → Int32} {c_laid_seenBy : Nat → Int32} {c_laid_sums : Nat → Int32} {c_laid_leads : Nat → Int32} {c_bench_watchers : Nat → Int32} {c_notes_delays : Nat → Int32} {c_notes_margins : Nat → Int32} {c_notes_odds : Nat → Int32} {c_kept_0_delays : Nat → Int32} {c_kept_0_margins : Nat → Int32} {c_kept_0_odds : Nat → Int32} {c_kept_1_delays : Nat → Int32} {c_kept_1_margins : Nat → Int32} {c_kept_1_odds : Nat → Int32} {c_keptCount : Int32} {m_length : Int32} {m_text : Nat → Int32} {m_roundMany : Nat → Int32} {m_blowMany : Nat → Int32} {m_blows : Nat → Int32} {m_forwards : Nat → Int32} {m_downs : Nat → Int32} {m_takens : Nat → Int32} {m_homes : Nat → Int32} {m_noises : Nat → Int32} {m_judgeMany : Nat → Int32} {m_judges : Nat → Int32} {m_delays : Nat → Int32} {m_tolds : Nat → Int32} {m_tens : Nat → Int32} {m_keptMany : Int32}   (hR : RR c_text_length c_text_bytes c_laid_rounds c_laid_home c_laid_noise c_laid_blowCount c_laid_judgeCount c_laid_blows c_laid_judges c_laid_forward c_laid_downs c_laid_taken c_laid_seenBy c_laid_sums c_laid_leads c_bench_watchers c_notes_delays c_notes_margins c_notes_odds c_kept_0_delays c_kept_0_margins c_kept_0_odds c_kept_1_delays c_kept_1_margins c_kept_1_odds c_keptCount m_length m_text m_roundMany m_blowMany m_blows m_forwards m_downs m_takens m_homes m_noises m_judgeMany m_judges m_delays m_tolds m_tens m_keptMany) : ∃ (oc : Int32 × Int32 × (Nat → Int32) × (Nat → Int32) × (Nat → Int32)) (om : Int32 × (Nat → Int32) × (Nat → Int32) × (Nat → Int32) × Int32), mX10_back c_keptCount c_notes_delays c_notes_margins c_notes_odds c_kept_0_delays c_kept_0_margins c_kept_0_odds c_kept_1_delays c_kept_1_margins c_kept_1_odds = some oc ∧ mX11_back m_keptMany m_delays m_tens m_tolds = some om ∧ oc.1 = om.1 ∧ RR c_text_length c_text_bytes c_laid_rounds c_laid_home c_laid_noise c_laid_blowCount c_laid_judgeCount c_laid_blows c_laid_judges c_laid_forward c_laid_downs c_laid_taken c_laid_seenBy c_laid_sums c_laid_leads c_bench_watchers oc.2.2.1 oc.2.2.2.1 oc.2.2.2.2 c_kept_0_delays c_kept_0_margins c_kept_0_odds c_kept_1_delays c_kept_1_margins c_kept_1_odds oc.2.1 m_length m_text m_roundMany m_blowMany m_blows m_forwards m_downs m_takens m_homes m_noises m_judgeMany m_judges om.2.1 om.2.2.1 om.2.2.2.1 om.2.2.2.2 := by
  obtain ⟨hT, hF, hW, K, hK, rfl, rfl, h0, h1, h2⟩ := hR
  unfold mX10_back mX11_back
  rcases (show K = 0 ∨ K = 1 ∨ K = 2 by omega) with rfl | rfl | rfl
  · rw [if_neg (show ¬ (0 : Int32) < nI 0 by decide), if_pos (show nI 0 = (0 : Int32) from rfl)]
    exact ⟨_, _, rfl, rfl, rfl, hT, hF, hW, 0, by omega, rfl, rfl, h0, h1, h2⟩
  · rw [if_pos (show (0 : Int32) < nI 1 by decide), if_neg (show ¬ nI 1 = (0 : Int32) by decide), lb_d, show nI 1 - (1 : Int32) = nI 0 from by decide, if_pos (show nI 0 = (0 : Int32) from rfl), X5_copyFrom_s, b_some, show (0 : Int32) = nI 0 from rfl, X11_copy_s (by omega) (by omega) (by omega), b_some, lb_d]
    exact ⟨_, _, rfl, rfl, rfl, hT, hF, hW, 0, by omega, rfl, rfl, (h1 (by omega)).cp _ _ _, fun h => absurd h (by omega), fun h => absurd h (by omega)⟩
  · rw [if_pos (show (0 : Int32) < nI 2 by decide), if_neg (show ¬ nI 2 = (0 : Int32) by decide), lb_d, show nI 2 - (1 : Int32) = nI 1 from by decide, if_neg (show ¬ nI 1 = (0 : Int32) by decide), if_pos (show nI 1 = (1 : Int32) from rfl), X5_copyFrom_s, b_some, show (0 : Int32) = nI 0 from rfl, X11_copy_s (by omega) (by omega) (by omega), b_some, lb_d]
    exact ⟨_, _, rfl, rfl, rfl, hT, hF, hW, 1, by omega, rfl, rfl, (h2 (by omega)).cp _ _ _, fun _ => (h1 (by omega)).far 2 0 (by omega), fun h => absurd h (by omega)⟩
def cntT (m : Nat → Int32) (k : Nat) : Nat := if m k = iI (-21) then 0 else 1
theorem X5_many_s (m : Nat → Int32) : mX5_howManyTold m = some (nI (sF (cntT m) 0 144)) := by
  have key : ∀ (d i n acc : Nat), i + d = 144 → d < n → mX5_howManyTold_L4 m n (nI acc) (nI i) = some (nI (acc + sF (cntT m) i d)) := by
    intro d
    induction d with
    | zero =>
      intro i n acc hi hn
      obtain ⟨n, rfl⟩ : ∃ q, n = q + 1 := ⟨n - 1, by omega⟩
      rw [eX5_howManyTold_4]
      unfold mX5_howManyTold_B4
      rw [n_lit 144, if_pos ((n_le (by omega) (by omega)).mpr (by omega))]
      rfl
    | succ d ih =>
      intro i n acc hi hn
      obtain ⟨n, rfl⟩ : ∃ q, n = q + 1 := ⟨n - 1, by omega⟩
      rw [eX5_howManyTold_4]
      unfold mX5_howManyTold_B4
      rw [n_lit 144, if_neg (fun hh => absurd ((n_le (by omega) (by omega)).mp hh) (by omega)), gi_n (by omega) (by omega), n_cl (by omega), show (-21 : Int32) = iI (-21) from by decide]
      simp only [lb_d]
      rw [n_lit 0, n_lit 1, n_add, n_add, n_add, ih (i + 1) n _ (by omega) (by omega), ih (i + 1) n _ (by omega) (by omega), sF]
      unfold cntT
      split <;> rw [Nat.add_assoc]
  unfold mX5_howManyTold
  rw [n_lit 0, key 144 0 FUEL 0 (by omega) (by unfold FUEL; omega), Nat.zero_add]
theorem X11_many_s {m mt : Nat → Int32} (h : ∀ k, k < 144 → ∃ z : Int, -21 ≤ z ∧ z ≤ 20 ∧ m k = iI z ∧ mt k = iI z) {x0 len kept : Int32} {f1 f2 f3 : Nat → Int32} : mX11_count_L68 x0 len kept f1 f2 f3 mt FUEL (nI 0) (nI 0) = some (nI (sF (cntT m) 0 144)) := by
  have key : ∀ (d i n acc : Nat), i + d = 144 → d < n → mX11_count_L68 x0 len kept f1 f2 f3 mt n (nI acc) (nI i) = some (nI (acc + sF (cntT m) i d)) := by
    intro d
    induction d with
    | zero =>
      intro i n acc hi hn
      obtain ⟨n, rfl⟩ : ∃ q, n = q + 1 := ⟨n - 1, by omega⟩
      rw [eX11_count_68]
      unfold mX11_count_B68
      rw [n_lit 144, if_pos ((n_le (by omega) (by omega)).mpr (by omega))]
      rfl
    | succ d ih =>
      intro i n acc hi hn
      obtain ⟨n, rfl⟩ : ∃ q, n = q + 1 := ⟨n - 1, by omega⟩
      obtain ⟨z, z1, z2, z3, z4⟩ := h i (by omega)
      rw [eX11_count_68]
      unfold mX11_count_B68
      rw [n_lit 144, if_neg (fun hh => absurd ((n_le (by omega) (by omega)).mp hh) (by omega)), gi_n (by omega) (by omega), n_cl (by omega), z4, show (-21 : Int32) = iI (-21) from by decide]
      simp only [lb_d]
      rw [n_lit 0, n_lit 1, n_add, n_add, n_add, ih (i + 1) n _ (by omega) (by omega), ih (i + 1) n _ (by omega) (by omega), sF]
      unfold cntT
      rw [z3]
      by_cases c : z = -21
      · subst c
        rw [if_pos ((iI_le (by omega) (by omega) (by omega) (by omega)).mpr (by omega)), if_pos rfl, Nat.add_assoc]
      · rw [if_neg (fun hh => c (by have := (iI_le (by omega) (by omega) (by omega) (by omega)).mp hh; omega)), if_neg (fun hh => c ((iI_eq (by omega) (by omega) (by omega) (by omega)).mp hh)), Nat.add_assoc]
  rw [key 144 0 FUEL 0 (by omega) (by unfold FUEL; omega), Nat.zero_add]
set_option maxRecDepth 100000 in
theorem api_count {c_text_length : Int32} {c_text_bytes : Nat → Int32} {c_laid_rounds : Int32} {c_laid_home : Int32} {c_laid_noise : Int32} {c_laid_blowCount : Int32} {c_laid_judgeCount : Int32} {c_laid_blows : Nat → Int32} {c_laid_judges : Nat → Int32} {c_laid_forward : Nat → Int32} {c_laid_downs : Nat → Int32} {c_laid_taken : Nat → Int32} {c_laid_seenBy : Nat → Int32} {c_laid_sums : Nat → Int32} {c_laid_leads : Nat → Int32} {c_bench_watchers : Nat → Int32} {c_notes_delays : Nat → Int32} {c_notes_margins : Nat → Int32} {c_notes_odds : Nat → Int32} {c_kept_0_delays : Nat → Int32} {c_kept_0_margins : Nat → Int32} {c_kept_0_odds : Nat → Int32} {c_kept_1_delays : Nat → Int32} {c_kept_1_margins : Nat → Int32} {c_kept_1_odds : Nat → Int32} {c_keptCount : Int32} {m_length : Int32} {m_text : Nat → Int32} {m_roundMany : Nat → Int32} {m_blowMany : Nat → Int32} {m_blows : Nat → Int32} {m_forwards : Nat → Int32} {m_downs : Nat → Int32} {m_takens : Nat → Int32} {m_homes : Nat → Int32} {m_noises : Nat → Int32} {m_judgeMany : Nat → Int32} {m_judges : Nat → Int32} {m_delays : Nat → Int32} {m_tolds : Nat → Int32} {m_tens : Nat → Int32} {m_keptMany : Int32} (x0 : Int32)  (hR : RR c_text_length c_text_bytes c_laid_rounds c_laid_home c_laid_noise c_laid_blowCount c_laid_judgeCount c_laid_blows c_laid_judges c_laid_forward c_laid_downs c_laid_taken c_laid_seenBy c_laid_sums c_laid_leads c_bench_watchers c_notes_delays c_notes_margins c_notes_odds c_kept_0_delays c_kept_0_margins c_kept_0_odds c_kept_1_delays c_kept_1_margins c_kept_1_odds c_keptCount m_length m_text m_roundMany m_blowMany m_blows m_forwards m_downs m_takens m_homes m_noises m_judgeMany m_judges m_delays m_tolds m_tens m_keptMany) : ∃ (oc : Int32) (om : Int32), mX10_count x0 c_keptCount c_laid_rounds c_laid_blowCount c_laid_judgeCount c_text_length c_notes_margins = some oc ∧ mX11_count x0 m_length m_keptMany m_blowMany m_judgeMany m_roundMany m_tolds = some om ∧ oc = om := by
  obtain ⟨⟨n, t, hn, rfl, rfl, ht⟩, ⟨a, hA, ⟨rfl, rfl, rfl, rfl, rfl, hC⟩, hS, hM⟩, hW, K, hK, rfl, rfl, h0, h1, h2⟩ := hR
  have hm : ∀ k, k < 144 → ∃ z : Int, -21 ≤ z ∧ z ≤ 20 ∧ c_notes_margins k = iI z ∧ m_tolds k = iI z := by
    intro k hk
    obtain ⟨z, z1, z2, z3, z4⟩ := h0.2.1 k hk
    exact ⟨z, z1, z2, z3, by rw [Nat.mul_zero, Nat.zero_add] at z4; exact z4⟩
  unfold mX10_count mX11_count
  rw [X5_many_s, n_lit 0, X11_many_s hm, show (nI 0).toNatClampNeg = 0 from rfl, hM.1, hM.2.1, hM.2.2.1]
  simp only [lb_d, b_some]
  by_cases c0 : x0 = nI 0
  · rw [if_pos c0]; exact ⟨_, _, rfl, rfl, rfl⟩
  rw [if_neg c0]
  by_cases c1 : x0 = 1
  · rw [if_pos c1]; exact ⟨_, _, rfl, rfl, rfl⟩
  rw [if_neg c1]
  by_cases c2 : x0 = 2
  · rw [if_pos c2]; exact ⟨_, _, rfl, rfl, rfl⟩
  rw [if_neg c2]
  by_cases c3 : x0 = 3
  · rw [if_pos c3]; exact ⟨_, _, rfl, rfl, rfl⟩
  rw [if_neg c3]
  by_cases c4 : x0 = 4
  · rw [if_pos c4]; exact ⟨_, _, rfl, rfl, rfl⟩
  rw [if_neg c4]
  by_cases c5 : x0 = 5
  · rw [if_pos c5]; exact ⟨_, _, rfl, rfl, rfl⟩
  rw [if_neg c5]
  exact ⟨_, _, rfl, rfl, rfl⟩
