/-! API E: cards and points -/
def sZ (g : Nat → Int) : Nat → Nat → Int
  | _, 0 => 0
  | i, d + 1 => g i + sZ g (i + 1) d
theorem sZ_in {g : Nat → Int} {m : Int} {N : Nat} (h : ∀ k, k < N → -m ≤ g k ∧ g k ≤ m) : ∀ d i, i + d ≤ N → -(m * d) ≤ sZ g i d ∧ sZ g i d ≤ m * d
  | 0, _, _ => by simp [sZ]
  | d + 1, i, hi => by
    have h1 := h i (by omega)
    have h2 := sZ_in h d (i + 1) (by omega)
    have h3 : m * ((d + 1 : Nat) : Int) = m * d + m := by rw [Int.natCast_add, Int.mul_add]; simp
    rw [sZ]
    omega
def takS (a : AT) (c : Nat) : Nat := sF (fun r => tk a (2 * r + c)) 0 (aR a)
def cardS (p : Nat) (a : AT) (j : Nat) : Int := 2 * ((takS a 1 : Int) - takS a 0) + sZ (fun r => marginS p a j r false) 0 (aR a)
def lostS (c : Nat) (m : Int) : Int := if c = 0 then (if 0 < -m then -m else 0) else (if 0 < m then m else 0)
def pointsS (p : Nat) (a : AT) (j c : Nat) : Int := 20 * (aR a : Int) - 2 * takS a c - sZ (fun r => lostS c (marginS p a j r false)) 0 (aR a)
theorem takS_le {a : AT} (hA : OKD a) {c : Nat} (hc : c < 2) : takS a c ≤ 36 := by
  have h := sF_le (g := fun r => tk a (2 * r + c)) (m := 3) (N := aR a) (fun k hk => by
    have h1 := hA.2.2.2.2.2.2.2.2 k (by have := hA.1; omega)
    rcases (show c = 0 ∨ c = 1 by omega) with rfl | rfl
    · show tk a (2 * k) ≤ 3; omega
    · show tk a (2 * k + 1) ≤ 3; omega) (aR a) 0 (by omega)
  have := hA.1
  unfold takS
  omega
theorem cardS_in {a : AT} (hA : OKD a) (p j : Nat) : -1000 ≤ cardS p a j ∧ cardS p a j ≤ 1000 := by
  have h0 := takS_le hA (c := 0) (by omega)
  have h1 := takS_le hA (c := 1) (by omega)
  have h := sZ_in (g := fun r => marginS p a j r false) (m := 32) (N := aR a) (fun k hk => marginS_in hA p j (by have := hA.1; omega) false) (aR a) 0 (by omega)
  have := hA.1
  unfold cardS
  omega
section CE
variable {a : AT} {rounds home noise blowCount judgeCount : Int32} {cblows cjudges cforward cdowns ctaken seenBy sums leads : Nat → Int32} {roundMany blowMany blows forwards downs takens homes noises judgeMany judges : Nat → Int32}
theorem X3_takenOf_s (hA : OKD a) (ht : ∀ k, k < 24 → ctaken k = nI (tk a k)) {c : Nat} (hc : c < 2) : mX3_takenOf (nI c) (nI (aR a)) ctaken = some (nI (takS a c)) := by
  have hR := hA.1
  have key : ∀ (d i n acc : Nat), i + d = aR a → d < n → mX3_takenOf_L4 (nI c) (nI (aR a)) ctaken n (nI acc) (nI i) = some (nI (acc + sF (fun r => tk a (2 * r + c)) i d)) := by
    intro d
    induction d with
    | zero =>
      intro i n acc hi hn
      obtain ⟨n, rfl⟩ : ∃ q, n = q + 1 := ⟨n - 1, by omega⟩
      rw [eX3_takenOf_4]
      unfold mX3_takenOf_B4
      rw [if_pos ((n_le (by omega) (by omega)).mpr (by omega))]
      rfl
    | succ d ih =>
      intro i n acc hi hn
      obtain ⟨n, rfl⟩ : ∃ q, n = q + 1 := ⟨n - 1, by omega⟩
      rw [eX3_takenOf_4]
      unfold mX3_takenOf_B4
      rw [if_neg (fun hh => absurd ((n_le (by omega) (by omega)).mp hh) (by omega)), n_lit 2, n_lit 1, n_mul, n_add, n_add]
      simp only [gi_n (show i * 2 + c < 24 by omega) (show 24 ≤ 2147483648 by omega), lb_d, n_cl (show i * 2 + c < 2147483648 by omega), ht (i * 2 + c) (by omega), n_add]
      rw [ih (i + 1) n _ (by omega) (by omega), sF, Nat.add_assoc, Nat.mul_comm i 2]
  unfold mX3_takenOf
  rw [n_lit 0, key (aR a) 0 FUEL 0 (by omega) (by unfold FUEL; omega), Nat.zero_add]
  rfl
theorem X11_takenOf_s (hA : OKD a) (hR0 : roundMany 0 = nI (aR a)) (ht : ∀ k, k < 24 → takens k = nI (tk a k)) {c : Nat} (hc : c < 2) : mX11_takenOf (nI c) roundMany takens = some (nI (takS a c)) := by
  have hR := hA.1
  have key : ∀ (d i n acc : Nat), i + d = aR a → d < n → mX11_takenOf_L4 (nI c) roundMany takens n (nI acc) (nI i) = some (nI (acc + sF (fun r => tk a (2 * r + c)) i d)) := by
    intro d
    induction d with
    | zero =>
      intro i n acc hi hn
      obtain ⟨n, rfl⟩ : ∃ q, n = q + 1 := ⟨n - 1, by omega⟩
      rw [eX11_takenOf_4]
      unfold mX11_takenOf_B4
      rw [show (0 : Int32).toNatClampNeg = 0 from rfl, hR0, if_pos ((n_le (by omega) (by omega)).mpr (by omega))]
      rfl
    | succ d ih =>
      intro i n acc hi hn
      obtain ⟨n, rfl⟩ : ∃ q, n = q + 1 := ⟨n - 1, by omega⟩
      rw [eX11_takenOf_4]
      unfold mX11_takenOf_B4
      rw [show (0 : Int32).toNatClampNeg = 0 from rfl, hR0, if_neg (fun hh => absurd ((n_le (by omega) (by omega)).mp hh) (by omega)), n_lit 2, n_lit 1, n_mul, n_add, n_add]
      simp only [gi_n (show 2 * i + c < 48 by omega) (show 48 ≤ 2147483648 by omega), lb_d, n_cl (show 2 * i + c < 2147483648 by omega), ht (2 * i + c) (by omega), n_add]
      rw [ih (i + 1) n _ (by omega) (by omega), sF, Nat.add_assoc]
  unfold mX11_takenOf
  rw [n_lit 0, key (aR a) 0 FUEL 0 (by omega) (by unfold FUEL; omega), Nat.zero_add]
  rfl
theorem X1_cardBy_s (hA : OKD a) (hC : ∀ k, k < 7 * aJ a → cjudges k = nI (jd a k)) (hd : ∀ k, k < 24 → cdowns k = nI (dn a k)) (ht : ∀ k, k < 24 → ctaken k = nI (tk a k)) (hS : RCs a seenBy sums leads) {p j : Nat} (hp : p ≤ 3) (hj : j < aJ a) : mX1_cardBy (nI p) (nI j) (nI (aR a)) cdowns cjudges leads ctaken = some (iI (cardS p a j)) := by
  have hR := hA.1
  have key : ∀ (d i n : Nat) (acc : Int), i + d = aR a → d < n → mX1_cardBy_L23 (nI p) (nI j) (nI (aR a)) cdowns cjudges leads ctaken n (iI acc) (nI i) = some (iI (acc + sZ (fun r => marginS p a j r false) i d)) := by
    intro d
    induction d with
    | zero =>
      intro i n acc hi hn
      obtain ⟨n, rfl⟩ : ∃ q, n = q + 1 := ⟨n - 1, by omega⟩
      rw [eX1_cardBy_23]
      unfold mX1_cardBy_B23
      rw [if_pos ((n_le (by omega) (by omega)).mpr (by omega)), sZ, Int.add_zero]
    | succ d ih =>
      intro i n acc hi hn
      obtain ⟨n, rfl⟩ : ∃ q, n = q + 1 := ⟨n - 1, by omega⟩
      rw [eX1_cardBy_23]
      unfold mX1_cardBy_B23
      rw [if_neg (fun hh => absurd ((n_le (by omega) (by omega)).mp hh) (by omega)), X1_marginBy_s hA hC hd hS hp hj (by omega), b_some, lb_d, lb_d, iI_add, n_lit 1, n_add, ih (i + 1) n _ (by omega) (by omega), sZ, Int.add_assoc]
  unfold mX1_cardBy
  rw [show (1 : Int32) = nI 1 from rfl, X3_takenOf_s hA ht (by omega), b_some, show mX3_takenOf (0 : Int32) = mX3_takenOf (nI 0) from rfl, X3_takenOf_s hA ht (by omega), b_some, lb_d, nI_iI (takS a 1), nI_iI (takS a 0), iI_sub, i_2, iI_mul]
  exact key (aR a) 0 FUEL _ (by omega) (by unfold FUEL; omega)
theorem X11_cardOf_s (hA : OKD a) (hM : RM a roundMany blowMany blows forwards downs takens homes noises judgeMany judges) {p j : Nat} (hp : p ≤ 3) (hj : j < aJ a) : mX11_cardOf (nI p) (nI j) blowMany blows downs forwards homes judges noises roundMany takens = some (iI (cardS p a j)) := by
  have hR := hA.1
  have key : ∀ (d i n : Nat) (acc : Int), i + d = aR a → d < n → mX11_cardOf_L19 (nI p) (nI j) blowMany blows downs forwards homes judges noises roundMany takens n (iI acc) (nI i) = some (iI (acc + sZ (fun r => marginS p a j r false) i d)) := by
    intro d
    induction d with
    | zero =>
      intro i n acc hi hn
      obtain ⟨n, rfl⟩ : ∃ q, n = q + 1 := ⟨n - 1, by omega⟩
      rw [eX11_cardOf_19]
      unfold mX11_cardOf_B19
      rw [show (0 : Int32).toNatClampNeg = 0 from rfl, hM.1, if_pos ((n_le (by omega) (by omega)).mpr (by omega)), sZ, Int.add_zero]
    | succ d ih =>
      intro i n acc hi hn
      obtain ⟨n, rfl⟩ : ∃ q, n = q + 1 := ⟨n - 1, by omega⟩
      rw [eX11_cardOf_19]
      unfold mX11_cardOf_B19
      have hm := X11_margin0_s hA hM hp hj (show i < 12 by omega) false
      rw [if_neg (by decide)] at hm
      rw [show (0 : Int32).toNatClampNeg = 0 from rfl, hM.1, if_neg (fun hh => absurd ((n_le (by omega) (by omega)).mp hh) (by omega)), hm, b_some, lb_d, lb_d, iI_add, n_lit 1, n_add, ih (i + 1) n _ (by omega) (by omega), sZ, Int.add_assoc]
  unfold mX11_cardOf
  rw [show (1 : Int32) = nI 1 from rfl, X11_takenOf_s hA hM.1 hM.2.2.2.2.2.2.2.2.2 (by omega), b_some, show mX11_takenOf (0 : Int32) = mX11_takenOf (nI 0) from rfl, X11_takenOf_s hA hM.1 hM.2.2.2.2.2.2.2.2.2 (by omega), b_some, lb_d, nI_iI (takS a 1), nI_iI (takS a 0), i_2, iI_mul, iI_mul, iI_sub, show (2 : Int) * (takS a 1 : Int) - 2 * (takS a 0 : Int) = 2 * ((takS a 1 : Int) - takS a 0) by omega]
  exact key (aR a) 0 FUEL _ (by omega) (by unfold FUEL; omega)
theorem X1_pointsBy_s (hA : OKD a) (hC : ∀ k, k < 7 * aJ a → cjudges k = nI (jd a k)) (hd : ∀ k, k < 24 → cdowns k = nI (dn a k)) (ht : ∀ k, k < 24 → ctaken k = nI (tk a k)) (hS : RCs a seenBy sums leads) {p j c : Nat} (hp : p ≤ 3) (hj : j < aJ a) (hc : c < 2) : mX1_pointsBy (nI p) (nI j) (nI c) (nI (aR a)) cdowns cjudges leads ctaken = some (iI (pointsS p a j c)) := by
  have hR := hA.1
  have key : ∀ (d i n : Nat) (acc : Int), i + d = aR a → d < n → mX1_pointsBy_L26 (nI p) (nI j) (nI c) (nI (aR a)) cdowns cjudges leads ctaken n (iI acc) (nI i) = some (iI (acc - sZ (fun r => lostS c (marginS p a j r false)) i d)) := by
    intro d
    induction d with
    | zero =>
      intro i n acc hi hn
      obtain ⟨n, rfl⟩ : ∃ q, n = q + 1 := ⟨n - 1, by omega⟩
      rw [eX1_pointsBy_26]
      unfold mX1_pointsBy_B26
      rw [if_pos ((n_le (by omega) (by omega)).mpr (by omega)), sZ, Int.sub_zero]
    | succ d ih =>
      intro i n acc hi hn
      obtain ⟨n, rfl⟩ : ∃ q, n = q + 1 := ⟨n - 1, by omega⟩
      have hm := marginS_in hA p j (show i < 12 by omega) false
      rw [eX1_pointsBy_26]
      unfold mX1_pointsBy_B26 mX1_pointsBy_B63
      rw [if_neg (fun hh => absurd ((n_le (by omega) (by omega)).mp hh) (by omega)), X1_marginBy_s hA hC hd hS hp hj (by omega), b_some, n_lit 1, n_add, sZ, iI_neg]
      unfold lostS
      rw [show ∀ x y : Int, acc - (x + y) = acc - x - y from fun x y => by omega]
      by_cases c0 : c = 0
      · subst c0
        rw [if_pos (show nI 0 = (0 : Int32) from rfl), if_pos rfl, i_0, imax_i (by omega) (by omega), lb_d, lb_d, iI_sub, ih (i + 1) n _ (by omega) (by omega)]
        rfl
      · rw [if_neg (show ¬ nI c = (0 : Int32) from fun hh => c0 ((n_eq (by omega) (by omega)).mp (show nI c = nI 0 from hh))), if_neg c0, i_0, imax_i (by omega) (by omega), lb_d, lb_d, iI_sub, ih (i + 1) n _ (by omega) (by omega)]
        unfold lostS
        simp only [if_neg c0]
  unfold mX1_pointsBy
  rw [X3_takenOf_s hA ht hc, b_some, lb_d, nI_iI (takS a c), nI_iI (aR a), i_20, i_2, iI_mul, iI_mul, iI_sub, ← nI_iI (aR a)]
  exact key (aR a) 0 FUEL _ (by omega) (by unfold FUEL; omega)
theorem sZ_sub (g : Nat → Int) (m : Int) : ∀ d i, sZ (fun r => m - g r) i d = m * d - sZ g i d
  | 0, _ => by simp [sZ]
  | d + 1, i => by
    rw [sZ, sZ_sub g m d (i + 1), sZ]
    have h3 : m * ((d + 1 : Nat) : Int) = m * d + m := by rw [Int.natCast_add, Int.mul_add]; simp
    omega
theorem X11_pointsOf_s (hA : OKD a) (hM : RM a roundMany blowMany blows forwards downs takens homes noises judgeMany judges) {p j c : Nat} (hp : p ≤ 3) (hj : j < aJ a) (hc : c < 2) : mX11_pointsOf (nI p) (nI j) (nI c) blowMany blows downs forwards homes judges noises roundMany takens = some (iI (pointsS p a j c)) := by
  have hR := hA.1
  have key : ∀ (d i n : Nat) (acc : Int), i + d = aR a → d < n → mX11_pointsOf_L13 (nI p) (nI j) (nI c) blowMany blows downs forwards homes judges noises roundMany takens n (iI acc) (nI i) = some (iI (acc + sZ (fun r => 20 - lostS c (marginS p a j r false)) i d)) := by
    intro d
    induction d with
    | zero =>
      intro i n acc hi hn
      obtain ⟨n, rfl⟩ : ∃ q, n = q + 1 := ⟨n - 1, by omega⟩
      rw [eX11_pointsOf_13]
      unfold mX11_pointsOf_B13
      rw [show (0 : Int32).toNatClampNeg = 0 from rfl, hM.1, if_pos ((n_le (by omega) (by omega)).mpr (by omega)), sZ, Int.add_zero]
    | succ d ih =>
      intro i n acc hi hn
      obtain ⟨n, rfl⟩ : ∃ q, n = q + 1 := ⟨n - 1, by omega⟩
      have hmi := marginS_in hA p j (show i < 12 by omega) false
      have hm := X11_margin0_s hA hM hp hj (show i < 12 by omega) false
      rw [if_neg (by decide)] at hm
      have step : ∀ z : Int, -1000 ≤ z ∧ z ≤ 1000 → mX11_pointsOf_B47 (nI p) (nI j) (nI c) blowMany blows downs forwards homes judges noises roundMany takens (mX11_pointsOf_L13 (nI p) (nI j) (nI c) blowMany blows downs forwards homes judges noises roundMany takens n) (iI acc) (nI i) (iI z) = mX11_pointsOf_L13 (nI p) (nI j) (nI c) blowMany blows downs forwards homes judges noises roundMany takens n (iI (acc + (20 - if 0 < z then z else 0))) (nI (i + 1)) := by
        intro z hz
        unfold mX11_pointsOf_B47
        rw [i_0, i_20, n_lit 1, n_add]
        by_cases c1 : z ≤ 0
        · rw [if_pos ((iI_le (by omega) (by omega) (by omega) (by omega)).mpr c1), if_neg (by omega), lb_d, lb_d, iI_sub, iI_add]
        · rw [if_neg (fun hh => c1 ((iI_le (by omega) (by omega) (by omega) (by omega)).mp hh)), if_pos (by omega), lb_d, lb_d, iI_sub, iI_add]
      rw [eX11_pointsOf_13]
      unfold mX11_pointsOf_B13
      rw [show (0 : Int32).toNatClampNeg = 0 from rfl, hM.1, if_neg (fun hh => absurd ((n_le (by omega) (by omega)).mp hh) (by omega)), hm, b_some, sZ, iI_neg, ← Int.add_assoc]
      by_cases c0 : c = 0
      · subst c0
        rw [if_pos (show nI 0 = (0 : Int32) from rfl), step _ (by omega), ih (i + 1) n _ (by omega) (by omega)]
        rfl
      · rw [if_neg (show ¬ nI c = (0 : Int32) from fun hh => c0 ((n_eq (by omega) (by omega)).mp (show nI c = nI 0 from hh))), step _ (by omega), ih (i + 1) n _ (by omega) (by omega)]
        unfold lostS
        simp only [if_neg c0]
  unfold mX11_pointsOf
  rw [X11_takenOf_s hA hM.1 hM.2.2.2.2.2.2.2.2.2 hc, b_some, lb_d, nI_iI (takS a c), show (-2 : Int32) = iI (-2) from by rw [i_2, iI_neg], iI_mul]
  refine (key (aR a) 0 FUEL _ (by omega) (by unfold FUEL; omega)).trans ?_
  rw [sZ_sub]
  unfold pointsS
  congr 2
  omega
end CE
theorem ru_bind {β : Type} (x : Int32) (A B : Option β) : (mX10_isRule x).bind (fun o => if o = 0 then A else B) = if (0 : Int32) ≤ x ∧ x ≤ 3 then B else A := by
  unfold mX10_isRule
  rw [X10_within_s, b_some, gz_b, b_some, if10]
theorem X11_isRule_s (x : Int32) : mX11_isRule x = mX10_isRule x := by
  unfold mX11_isRule mX10_isRule
  rw [in_wl 0 3 (by decide) (by decide)]
theorem ts_bind {β : Type} (x : Int32) (A B : Option β) : (mX10_isToldSum x).bind (fun o => if o = 0 then A else B) = if (0 : Int32) ≤ x ∧ x ≤ 999 then B else A := by
  unfold mX10_isToldSum
  rw [X10_within_s, b_some, gz_b, b_some, if10]
theorem X11_areTold_s (x : Int32) : mX11_areTold x = mX10_isToldSum x := by
  unfold mX11_areTold mX10_isToldSum
  rw [in_wl 0 999 (by decide) (by decide)]
set_option maxRecDepth 100000 in
theorem api_margin {c_text_length : Int32} {c_text_bytes : Nat → Int32} {c_laid_rounds : Int32} {c_laid_home : Int32} {c_laid_noise : Int32} {c_laid_blowCount : Int32} {c_laid_judgeCount : Int32} {c_laid_blows : Nat → Int32} {c_laid_judges : Nat → Int32} {c_laid_forward : Nat → Int32} {c_laid_downs : Nat → Int32} {c_laid_taken : Nat → Int32} {c_laid_seenBy : Nat → Int32} {c_laid_sums : Nat → Int32} {c_laid_leads : Nat → Int32} {c_bench_watchers : Nat → Int32} {c_notes_delays : Nat → Int32} {c_notes_margins : Nat → Int32} {c_notes_odds : Nat → Int32} {c_kept_0_delays : Nat → Int32} {c_kept_0_margins : Nat → Int32} {c_kept_0_odds : Nat → Int32} {c_kept_1_delays : Nat → Int32} {c_kept_1_margins : Nat → Int32} {c_kept_1_odds : Nat → Int32} {c_keptCount : Int32} {m_length : Int32} {m_text : Nat → Int32} {m_roundMany : Nat → Int32} {m_blowMany : Nat → Int32} {m_blows : Nat → Int32} {m_forwards : Nat → Int32} {m_downs : Nat → Int32} {m_takens : Nat → Int32} {m_homes : Nat → Int32} {m_noises : Nat → Int32} {m_judgeMany : Nat → Int32} {m_judges : Nat → Int32} {m_delays : Nat → Int32} {m_tolds : Nat → Int32} {m_tens : Nat → Int32} {m_keptMany : Int32} (x0 : Int32) (x1 : Int32) (x2 : Int32)  (hR : RR c_text_length c_text_bytes c_laid_rounds c_laid_home c_laid_noise c_laid_blowCount c_laid_judgeCount c_laid_blows c_laid_judges c_laid_forward c_laid_downs c_laid_taken c_laid_seenBy c_laid_sums c_laid_leads c_bench_watchers c_notes_delays c_notes_margins c_notes_odds c_kept_0_delays c_kept_0_margins c_kept_0_odds c_kept_1_delays c_kept_1_margins c_kept_1_odds c_keptCount m_length m_text m_roundMany m_blowMany m_blows m_forwards m_downs m_takens m_homes m_noises m_judgeMany m_judges m_delays m_tolds m_tens m_keptMany) : ∃ (oc : Int32) (om : Int32), mX10_margin x0 x1 x2 c_laid_rounds c_laid_judgeCount c_laid_downs c_laid_judges c_laid_leads = some oc ∧ mX11_margin x0 x1 x2 m_blowMany m_blows m_downs m_forwards m_homes m_judgeMany m_judges m_noises m_roundMany = some om ∧ oc = om := by
  obtain ⟨-, ⟨a, hA, ⟨rfl, rfl, rfl, rfl, rfl, hC⟩, hS, hM⟩, -⟩ := hR
  have h1 := hA.1.1
  have h2 := hA.1.2.2.1
  unfold mX10_margin mX11_margin
  rw [X11_isRule_s, ru_bind, ru_bind, sc_bind, X11_isJudge_s x1 (aJ a) hM.2.2.1, jd_bind, X11_isRound_s x2 (aR a) hM.1, jd_bind]
  by_cases cr : (0 : Int32) ≤ x0 ∧ x0 ≤ 3
  · by_cases c0 : isJ x1 (aJ a)
    · by_cases c1 : isJ x2 (aR a)
      · simp only [if_pos cr, if_pos c0, if_pos c1]
        obtain ⟨p, hp, rfl⟩ := w_n (b := 3) (by omega) cr
        obtain ⟨j, hj, rfl⟩ := w_J (by omega) c0
        obtain ⟨r, hr, rfl⟩ := w_J (by omega) c1
        have hm := X11_margin0_s hA.1 hM hp hj (show r < 12 by omega) false
        rw [if_neg (by decide)] at hm
        rw [X1_marginBy_s hA.1 hC.2.1 hC.2.2.2.1 hS hp hj (by omega), hm]
        exact ⟨_, _, rfl, rfl, rfl⟩
      · simp only [if_pos cr, if_pos c0, if_neg c1]
        exact ⟨_, _, rfl, rfl, rfl⟩
    · simp only [if_pos cr, if_neg c0]
      exact ⟨_, _, rfl, rfl, rfl⟩
  · simp only [if_neg cr]
    exact ⟨_, _, rfl, rfl, rfl⟩
set_option maxRecDepth 100000 in
theorem api_card {c_text_length : Int32} {c_text_bytes : Nat → Int32} {c_laid_rounds : Int32} {c_laid_home : Int32} {c_laid_noise : Int32} {c_laid_blowCount : Int32} {c_laid_judgeCount : Int32} {c_laid_blows : Nat → Int32} {c_laid_judges : Nat → Int32} {c_laid_forward : Nat → Int32} {c_laid_downs : Nat → Int32} {c_laid_taken : Nat → Int32} {c_laid_seenBy : Nat → Int32} {c_laid_sums : Nat → Int32} {c_laid_leads : Nat → Int32} {c_bench_watchers : Nat → Int32} {c_notes_delays : Nat → Int32} {c_notes_margins : Nat → Int32} {c_notes_odds : Nat → Int32} {c_kept_0_delays : Nat → Int32} {c_kept_0_margins : Nat → Int32} {c_kept_0_odds : Nat → Int32} {c_kept_1_delays : Nat → Int32} {c_kept_1_margins : Nat → Int32} {c_kept_1_odds : Nat → Int32} {c_keptCount : Int32} {m_length : Int32} {m_text : Nat → Int32} {m_roundMany : Nat → Int32} {m_blowMany : Nat → Int32} {m_blows : Nat → Int32} {m_forwards : Nat → Int32} {m_downs : Nat → Int32} {m_takens : Nat → Int32} {m_homes : Nat → Int32} {m_noises : Nat → Int32} {m_judgeMany : Nat → Int32} {m_judges : Nat → Int32} {m_delays : Nat → Int32} {m_tolds : Nat → Int32} {m_tens : Nat → Int32} {m_keptMany : Int32} (x0 : Int32) (x1 : Int32)  (hR : RR c_text_length c_text_bytes c_laid_rounds c_laid_home c_laid_noise c_laid_blowCount c_laid_judgeCount c_laid_blows c_laid_judges c_laid_forward c_laid_downs c_laid_taken c_laid_seenBy c_laid_sums c_laid_leads c_bench_watchers c_notes_delays c_notes_margins c_notes_odds c_kept_0_delays c_kept_0_margins c_kept_0_odds c_kept_1_delays c_kept_1_margins c_kept_1_odds c_keptCount m_length m_text m_roundMany m_blowMany m_blows m_forwards m_downs m_takens m_homes m_noises m_judgeMany m_judges m_delays m_tolds m_tens m_keptMany) : ∃ (oc : Int32) (om : Int32), mX10_card x0 x1 c_laid_rounds c_laid_judgeCount c_laid_downs c_laid_judges c_laid_leads c_laid_taken = some oc ∧ mX11_card x0 x1 m_blowMany m_blows m_downs m_forwards m_homes m_judgeMany m_judges m_noises m_roundMany m_takens = some om ∧ oc = om := by
  obtain ⟨-, ⟨a, hA, ⟨rfl, rfl, rfl, rfl, rfl, hC⟩, hS, hM⟩, -⟩ := hR
  have h1 := hA.1.1
  have h2 := hA.1.2.2.1
  unfold mX10_card mX11_card
  rw [X11_isRule_s, ru_bind, ru_bind, X11_isJudge_s x1 (aJ a) hM.2.2.1, jd_bind, jd_bind]
  by_cases cr : (0 : Int32) ≤ x0 ∧ x0 ≤ 3
  · by_cases c0 : isJ x1 (aJ a)
    · simp only [if_pos cr, if_pos c0]
      obtain ⟨p, hp, rfl⟩ := w_n (b := 3) (by omega) cr
      obtain ⟨j, hj, rfl⟩ := w_J (by omega) c0
      rw [X1_cardBy_s hA.1 hC.2.1 hC.2.2.2.1 hC.2.2.2.2 hS hp hj, X11_cardOf_s hA.1 hM hp hj]
      exact ⟨_, _, rfl, rfl, rfl⟩
    · simp only [if_pos cr, if_neg c0]
      exact ⟨_, _, rfl, rfl, rfl⟩
  · simp only [if_neg cr]
    exact ⟨_, _, rfl, rfl, rfl⟩
set_option maxRecDepth 100000 in
theorem api_points {c_text_length : Int32} {c_text_bytes : Nat → Int32} {c_laid_rounds : Int32} {c_laid_home : Int32} {c_laid_noise : Int32} {c_laid_blowCount : Int32} {c_laid_judgeCount : Int32} {c_laid_blows : Nat → Int32} {c_laid_judges : Nat → Int32} {c_laid_forward : Nat → Int32} {c_laid_downs : Nat → Int32} {c_laid_taken : Nat → Int32} {c_laid_seenBy : Nat → Int32} {c_laid_sums : Nat → Int32} {c_laid_leads : Nat → Int32} {c_bench_watchers : Nat → Int32} {c_notes_delays : Nat → Int32} {c_notes_margins : Nat → Int32} {c_notes_odds : Nat → Int32} {c_kept_0_delays : Nat → Int32} {c_kept_0_margins : Nat → Int32} {c_kept_0_odds : Nat → Int32} {c_kept_1_delays : Nat → Int32} {c_kept_1_margins : Nat → Int32} {c_kept_1_odds : Nat → Int32} {c_keptCount : Int32} {m_length : Int32} {m_text : Nat → Int32} {m_roundMany : Nat → Int32} {m_blowMany : Nat → Int32} {m_blows : Nat → Int32} {m_forwards : Nat → Int32} {m_downs : Nat → Int32} {m_takens : Nat → Int32} {m_homes : Nat → Int32} {m_noises : Nat → Int32} {m_judgeMany : Nat → Int32} {m_judges : Nat → Int32} {m_delays : Nat → Int32} {m_tolds : Nat → Int32} {m_tens : Nat → Int32} {m_keptMany : Int32} (x0 : Int32) (x1 : Int32) (x2 : Int32)  (hR : RR c_text_length c_text_bytes c_laid_rounds c_laid_home c_laid_noise c_laid_blowCount c_laid_judgeCount c_laid_blows c_laid_judges c_laid_forward c_laid_downs c_laid_taken c_laid_seenBy c_laid_sums c_laid_leads c_bench_watchers c_notes_delays c_notes_margins c_notes_odds c_kept_0_delays c_kept_0_margins c_kept_0_odds c_kept_1_delays c_kept_1_margins c_kept_1_odds c_keptCount m_length m_text m_roundMany m_blowMany m_blows m_forwards m_downs m_takens m_homes m_noises m_judgeMany m_judges m_delays m_tolds m_tens m_keptMany) : ∃ (oc : Int32) (om : Int32), mX10_points x0 x1 x2 c_laid_rounds c_laid_judgeCount c_laid_downs c_laid_judges c_laid_leads c_laid_taken = some oc ∧ mX11_points x0 x1 x2 m_blowMany m_blows m_downs m_forwards m_homes m_judgeMany m_judges m_noises m_roundMany m_takens = some om ∧ oc = om := by
  obtain ⟨-, ⟨a, hA, ⟨rfl, rfl, rfl, rfl, rfl, hC⟩, hS, hM⟩, -⟩ := hR
  have h1 := hA.1.1
  have h2 := hA.1.2.2.1
  unfold mX10_points mX11_points
  rw [wi_bind, in_wl 0 2 (by decide) (by decide), wi_bind, X11_isJudge_s x1 (aJ a) hM.2.2.1, jd_bind, jd_bind, co_bind, in_wl 0 1 (by decide) (by decide), wi_bind]
  by_cases cr : (0 : Int32) ≤ x0 ∧ x0 ≤ 2
  · by_cases c0 : isJ x1 (aJ a)
    · by_cases c1 : (0 : Int32) ≤ x2 ∧ x2 ≤ 1
      · simp only [if_pos cr, if_pos c0, if_pos c1]
        obtain ⟨p, hp, rfl⟩ := w_n (b := 2) (by omega) cr
        obtain ⟨j, hj, rfl⟩ := w_J (by omega) c0
        obtain ⟨c, hc, rfl⟩ := w_n (b := 1) (by omega) c1
        rw [X1_pointsBy_s hA.1 hC.2.1 hC.2.2.2.1 hC.2.2.2.2 hS (by omega) hj (by omega), X11_pointsOf_s hA.1 hM (by omega) hj (by omega)]
        exact ⟨_, _, rfl, rfl, rfl⟩
      · simp only [if_pos cr, if_pos c0, if_neg c1]
        exact ⟨_, _, rfl, rfl, rfl⟩
    · simp only [if_pos cr, if_neg c0]
      exact ⟨_, _, rfl, rfl, rfl⟩
  · simp only [if_neg cr]
    exact ⟨_, _, rfl, rfl, rfl⟩
set_option maxRecDepth 100000 in
theorem api_added {c_text_length : Int32} {c_text_bytes : Nat → Int32} {c_laid_rounds : Int32} {c_laid_home : Int32} {c_laid_noise : Int32} {c_laid_blowCount : Int32} {c_laid_judgeCount : Int32} {c_laid_blows : Nat → Int32} {c_laid_judges : Nat → Int32} {c_laid_forward : Nat → Int32} {c_laid_downs : Nat → Int32} {c_laid_taken : Nat → Int32} {c_laid_seenBy : Nat → Int32} {c_laid_sums : Nat → Int32} {c_laid_leads : Nat → Int32} {c_bench_watchers : Nat → Int32} {c_notes_delays : Nat → Int32} {c_notes_margins : Nat → Int32} {c_notes_odds : Nat → Int32} {c_kept_0_delays : Nat → Int32} {c_kept_0_margins : Nat → Int32} {c_kept_0_odds : Nat → Int32} {c_kept_1_delays : Nat → Int32} {c_kept_1_margins : Nat → Int32} {c_kept_1_odds : Nat → Int32} {c_keptCount : Int32} {m_length : Int32} {m_text : Nat → Int32} {m_roundMany : Nat → Int32} {m_blowMany : Nat → Int32} {m_blows : Nat → Int32} {m_forwards : Nat → Int32} {m_downs : Nat → Int32} {m_takens : Nat → Int32} {m_homes : Nat → Int32} {m_noises : Nat → Int32} {m_judgeMany : Nat → Int32} {m_judges : Nat → Int32} {m_delays : Nat → Int32} {m_tolds : Nat → Int32} {m_tens : Nat → Int32} {m_keptMany : Int32} (x0 : Int32) (x1 : Int32) (x2 : Int32) (x3 : Int32) (x4 : Int32)  (hR : RR c_text_length c_text_bytes c_laid_rounds c_laid_home c_laid_noise c_laid_blowCount c_laid_judgeCount c_laid_blows c_laid_judges c_laid_forward c_laid_downs c_laid_taken c_laid_seenBy c_laid_sums c_laid_leads c_bench_watchers c_notes_delays c_notes_margins c_notes_odds c_kept_0_delays c_kept_0_margins c_kept_0_odds c_kept_1_delays c_kept_1_margins c_kept_1_odds c_keptCount m_length m_text m_roundMany m_blowMany m_blows m_forwards m_downs m_takens m_homes m_noises m_judgeMany m_judges m_delays m_tolds m_tens m_keptMany) : ∃ (oc : Int32) (om : Int32), mX10_added x0 x1 x2 x3 x4 c_laid_rounds c_laid_downs c_laid_judges c_laid_leads c_laid_taken = some oc ∧ mX11_added x0 x1 x2 x3 x4 m_blowMany m_blows m_downs m_forwards m_homes m_judges m_noises m_roundMany m_takens = some om ∧ oc = om := by
  obtain ⟨-, ⟨a, hA, ⟨rfl, rfl, rfl, rfl, rfl, hC⟩, hS, hM⟩, -⟩ := hR
  have h1 := hA.1.1
  have h2 := hA.1.2.2.1
  have h3 := hA.2
  unfold mX10_added mX11_added
  rw [X11_areTold_s, X11_areTold_s, X11_areTold_s, wi_bind, in_wl 0 2 (by decide) (by decide), wi_bind, co_bind, in_wl 0 1 (by decide) (by decide), wi_bind, ts_bind, ts_bind, ts_bind, ts_bind, ts_bind, ts_bind]
  by_cases cr : (0 : Int32) ≤ x0 ∧ x0 ≤ 2
  · by_cases c1 : (0 : Int32) ≤ x1 ∧ x1 ≤ 1
    · by_cases t2 : (0 : Int32) ≤ x2 ∧ x2 ≤ 999
      · by_cases t3 : (0 : Int32) ≤ x3 ∧ x3 ≤ 999
        · by_cases t4 : (0 : Int32) ≤ x4 ∧ x4 ≤ 999
          · simp only [if_pos cr, if_pos c1, if_pos t2, if_pos t3, if_pos t4]
            obtain ⟨p, hp, rfl⟩ := w_n (b := 2) (by omega) cr
            obtain ⟨c, hc, rfl⟩ := w_n (b := 1) (by omega) c1
            have k0 := X1_pointsBy_s hA.1 hC.2.1 hC.2.2.2.1 hC.2.2.2.2 hS (show p ≤ 3 by omega) (show 0 < aJ a by omega) (show c < 2 by omega)
            have k1 := X1_pointsBy_s hA.1 hC.2.1 hC.2.2.2.1 hC.2.2.2.2 hS (show p ≤ 3 by omega) (show 1 < aJ a by omega) (show c < 2 by omega)
            have k2 := X1_pointsBy_s hA.1 hC.2.1 hC.2.2.2.1 hC.2.2.2.2 hS (show p ≤ 3 by omega) (show 2 < aJ a by omega) (show c < 2 by omega)
            have m0 := X11_pointsOf_s hA.1 hM (show p ≤ 3 by omega) (show 0 < aJ a by omega) (show c < 2 by omega)
            have m1 := X11_pointsOf_s hA.1 hM (show p ≤ 3 by omega) (show 1 < aJ a by omega) (show c < 2 by omega)
            have m2 := X11_pointsOf_s hA.1 hM (show p ≤ 3 by omega) (show 2 < aJ a by omega) (show c < 2 by omega)
            have s0 : ∀ n, mX11_added_L50 (nI p) (nI c) x2 x3 x4 m_blowMany m_blows m_downs m_forwards m_homes m_judges m_noises m_roundMany m_takens (n + 1) (nI 0) = if iI (pointsS p a 0 c) = x2 then mX11_added_L50 (nI p) (nI c) x2 x3 x4 m_blowMany m_blows m_downs m_forwards m_homes m_judges m_noises m_roundMany m_takens n (nI 1) else some (nI 0) := by
              intro n
              rw [eX11_added_50]
              unfold mX11_added_B50 mX11_added_B78
              rw [n_lit 0, n_lit 1, n_lit 3, if_neg (show ¬ nI 3 ≤ nI 0 by decide), if_pos rfl, m0, b_some]
              rfl
            have s1 : ∀ n, mX11_added_L50 (nI p) (nI c) x2 x3 x4 m_blowMany m_blows m_downs m_forwards m_homes m_judges m_noises m_roundMany m_takens (n + 1) (nI 1) = if iI (pointsS p a 1 c) = x3 then mX11_added_L50 (nI p) (nI c) x2 x3 x4 m_blowMany m_blows m_downs m_forwards m_homes m_judges m_noises m_roundMany m_takens n (nI 2) else some (nI 1) := by
              intro n
              rw [eX11_added_50]
              unfold mX11_added_B50 mX11_added_B78
              rw [n_lit 0, n_lit 1, n_lit 3, if_neg (show ¬ nI 3 ≤ nI 1 by decide), if_neg (show ¬ nI 1 = nI 0 by decide), if_pos rfl, m1, b_some]
              rfl
            have s2 : ∀ n, mX11_added_L50 (nI p) (nI c) x2 x3 x4 m_blowMany m_blows m_downs m_forwards m_homes m_judges m_noises m_roundMany m_takens (n + 1) (nI 2) = if iI (pointsS p a 2 c) = x4 then mX11_added_L50 (nI p) (nI c) x2 x3 x4 m_blowMany m_blows m_downs m_forwards m_homes m_judges m_noises m_roundMany m_takens n (nI 3) else some (nI 2) := by
              intro n
              rw [eX11_added_50]
              unfold mX11_added_B50 mX11_added_B78
              rw [n_lit 0, n_lit 1, n_lit 3, if_neg (show ¬ nI 3 ≤ nI 2 by decide), if_neg (show ¬ nI 2 = nI 0 by decide), if_neg (show ¬ nI 2 = nI 1 by decide), m2, b_some]
              rfl
            have s3 : ∀ n, mX11_added_L50 (nI p) (nI c) x2 x3 x4 m_blowMany m_blows m_downs m_forwards m_homes m_judges m_noises m_roundMany m_takens (n + 1) (nI 3) = some (-4) := by
              intro n
              rw [eX11_added_50]
              unfold mX11_added_B50
              rw [n_lit 3, if_pos (show nI 3 ≤ nI 3 by decide)]
            obtain ⟨q, hq⟩ : ∃ q, FUEL = q + 1 + 1 + 1 + 1 := ⟨4092, rfl⟩
            rw [hq, n_lit 0, n_lit 1, n_lit 2, s0, s1, s2, s3, k0, k1, k2, b_some, b_some, b_some]
            by_cases e0 : iI (pointsS p a 0 c) = x2
            · rw [if_pos e0]
              by_cases e1 : iI (pointsS p a 1 c) = x3
              · rw [if_pos e1]
                by_cases e2 : iI (pointsS p a 2 c) = x4
                · rw [if_pos e2]
                  exact ⟨_, _, rfl, rfl, rfl⟩
                · rw [if_neg e2]
                  exact ⟨_, _, rfl, rfl, rfl⟩
              · rw [if_neg e1]
                exact ⟨_, _, rfl, rfl, rfl⟩
            · rw [if_neg e0]
              exact ⟨_, _, rfl, rfl, rfl⟩
          · simp only [if_pos cr, if_pos c1, if_pos t2, if_pos t3, if_neg t4]
            exact ⟨_, _, rfl, rfl, rfl⟩
        · simp only [if_pos cr, if_pos c1, if_pos t2, if_neg t3]
          exact ⟨_, _, rfl, rfl, rfl⟩
      · simp only [if_pos cr, if_pos c1, if_neg t2]
        exact ⟨_, _, rfl, rfl, rfl⟩
    · simp only [if_pos cr, if_neg c1]
      exact ⟨_, _, rfl, rfl, rfl⟩
  · simp only [if_neg cr]
    exact ⟨_, _, rfl, rfl, rfl⟩
