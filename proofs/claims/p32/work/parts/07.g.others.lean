/-! API G: others, men -/
/-- one more where three cards end so -/
def indS (p e : Nat) (a : AT) (x y z : Nat) : Nat := if endS (ownS (cardS p a x)) (ownS (cardS p a y)) (ownS (cardS p a z)) = e then 1 else 0
def cnt1 (p e : Nat) (a : AT) (x y : Nat) : Nat := sF (indS p e a x y) (y + 1) (aJ a - (y + 1))
def cnt2 (p e : Nat) (a : AT) (x : Nat) : Nat := sF (cnt1 p e a x) (x + 1) (aJ a - (x + 1))
section CG
variable {a : AT} {cjudges cdowns ctaken seenBy sums leads : Nat → Int32} {roundMany blowMany blows forwards downs takens homes noises judgeMany judges : Nat → Int32}
theorem X1_sets_L75 (hA : OKD a) {p e x y : Nat} {rounds : Int32} (he : e ≤ 2) {owners : Nat → Int32} (ho : ∀ j, j < aJ a → owners j = nI (ownS (cardS p a j))) (hx : x < aJ a) (hy : y < aJ a) (x0 : Int32) (k39 : Int32 → Int32 → (Nat → Int32) → Option (Int32 × (Nat → Int32))) (k57 : Int32 → Int32 → Int32 → (Nat → Int32) → Option (Int32 × (Nat → Int32))) :
    ∀ (d i n acc : Nat), i + d = aJ a → d < n → mX1_setsThatEnd_L75 x0 (nI e) rounds (nI (aJ a)) cdowns cjudges leads ctaken k39 k57 n (nI acc) (nI x) (nI y) (nI i) owners = k57 (nI (acc + sF (indS p e a x y) i d)) (nI x) (nI (y + 1)) owners := by
  have hJ := hA.2.2.1
  intro d
  induction d with
  | zero =>
    intro i n acc hi hn
    obtain ⟨n, rfl⟩ : ∃ q, n = q + 1 := ⟨n - 1, by omega⟩
    rw [eX1_setsThatEnd_75]
    unfold mX1_setsThatEnd_B75
    rw [if_pos ((n_le (by omega) (by omega)).mpr (by omega)), lb_d, n_lit 1, n_add]
    rfl
  | succ d ih =>
    intro i n acc hi hn
    obtain ⟨n, rfl⟩ : ∃ q, n = q + 1 := ⟨n - 1, by omega⟩
    rw [eX1_setsThatEnd_75]
    unfold mX1_setsThatEnd_B75
    rw [if_neg (fun hh => absurd ((n_le (by omega) (by omega)).mp hh) (by omega))]
    simp only [gi_n (show x < 8 by omega) (show 8 ≤ 2147483648 by omega), gi_n (show y < 8 by omega) (show 8 ≤ 2147483648 by omega), gi_n (show i < 8 by omega) (show 8 ≤ 2147483648 by omega), n_cl (show x < 2147483648 by omega), n_cl (show y < 2147483648 by omega), n_cl (show i < 2147483648 by omega), ho x hx, ho y hy, ho i (by omega), X1_endOf_s (ownS_le (cardS p a x)) (ownS_le (cardS p a y)) (ownS_le (cardS p a i)), b_some, lb_d, n_lit 1, n_lit 0, n_add]
    have hend : endS (ownS (cardS p a x)) (ownS (cardS p a y)) (ownS (cardS p a i)) ≤ 2 := by
      have q1 := ownS_le (cardS p a x)
      have q2 := ownS_le (cardS p a y)
      unfold endS
      split <;> (try split) <;> (try split) <;> omega
    by_cases c : endS (ownS (cardS p a x)) (ownS (cardS p a y)) (ownS (cardS p a i)) = e
    · rw [if_pos (by rw [c]), ih (i + 1) n _ (by omega) (by omega), sF, show indS p e a x y i = 1 from if_pos c, Nat.add_assoc]
    · rw [if_neg (fun hh => c ((n_eq (by omega) (by omega)).mp hh)), ih (i + 1) n _ (by omega) (by omega), sF, show indS p e a x y i = 0 from if_neg c, Nat.add_assoc]
theorem X1_sets_L57 (hA : OKD a) {p e x : Nat} {rounds : Int32} (he : e ≤ 2) {owners : Nat → Int32} (ho : ∀ j, j < aJ a → owners j = nI (ownS (cardS p a j))) (hx : x < aJ a) (x0 : Int32) (k39 : Int32 → Int32 → (Nat → Int32) → Option (Int32 × (Nat → Int32))) :
    ∀ (d i n acc : Nat), i + d = aJ a → d < n → mX1_setsThatEnd_L57 x0 (nI e) rounds (nI (aJ a)) cdowns cjudges leads ctaken k39 n (nI acc) (nI x) (nI i) owners = k39 (nI (acc + sF (cnt1 p e a x) i d)) (nI (x + 1)) owners := by
  have hJ := hA.2.2.1
  intro d
  induction d with
  | zero =>
    intro i n acc hi hn
    obtain ⟨n, rfl⟩ : ∃ q, n = q + 1 := ⟨n - 1, by omega⟩
    rw [eX1_setsThatEnd_57]
    unfold mX1_setsThatEnd_B57
    rw [if_pos ((n_le (by omega) (by omega)).mpr (by omega)), lb_d, n_lit 1, n_add]
    rfl
  | succ d ih =>
    intro i n acc hi hn
    obtain ⟨n, rfl⟩ : ∃ q, n = q + 1 := ⟨n - 1, by omega⟩
    rw [eX1_setsThatEnd_57]
    unfold mX1_setsThatEnd_B57
    rw [if_neg (fun hh => absurd ((n_le (by omega) (by omega)).mp hh) (by omega)), lb_d, n_lit 1, n_add, X1_sets_L75 hA he ho hx (show i < aJ a by omega) x0 k39 _ (aJ a - (i + 1)) (i + 1) FUEL acc (by omega) (by unfold FUEL; omega), ih (i + 1) n _ (by omega) (by omega), sF, Nat.add_assoc]
    rfl
theorem X1_sets_L39 (hA : OKD a) {p e : Nat} {rounds : Int32} (he : e ≤ 2) {owners : Nat → Int32} (ho : ∀ j, j < aJ a → owners j = nI (ownS (cardS p a j))) (x0 : Int32) :
    ∀ (d i n acc : Nat), i + d = aJ a → d < n → mX1_setsThatEnd_L39 x0 (nI e) rounds (nI (aJ a)) cdowns cjudges leads ctaken n (nI acc) (nI i) owners = some (nI (acc + sF (cnt2 p e a) i d), owners) := by
  have hJ := hA.2.2.1
  intro d
  induction d with
  | zero =>
    intro i n acc hi hn
    obtain ⟨n, rfl⟩ : ∃ q, n = q + 1 := ⟨n - 1, by omega⟩
    rw [eX1_setsThatEnd_39]
    unfold mX1_setsThatEnd_B39
    rw [if_pos ((n_le (by omega) (by omega)).mpr (by omega))]
    rfl
  | succ d ih =>
    intro i n acc hi hn
    obtain ⟨n, rfl⟩ : ∃ q, n = q + 1 := ⟨n - 1, by omega⟩
    rw [eX1_setsThatEnd_39]
    unfold mX1_setsThatEnd_B39
    rw [if_neg (fun hh => absurd ((n_le (by omega) (by omega)).mp hh) (by omega)), lb_d, n_lit 1, n_add, X1_sets_L57 hA he ho (show i < aJ a by omega) x0 _ (aJ a - (i + 1)) (i + 1) FUEL acc (by omega) (by unfold FUEL; omega), ih (i + 1) n _ (by omega) (by omega), sF, Nat.add_assoc]
    rfl
theorem X1_sets_s (hA : OKD a) (hC : ∀ k, k < 7 * aJ a → cjudges k = nI (jd a k)) (hd : ∀ k, k < 24 → cdowns k = nI (dn a k)) (ht : ∀ k, k < 24 → ctaken k = nI (tk a k)) (hS : RCs a seenBy sums leads) {p e : Nat} (hp : p ≤ 3) (he : e ≤ 2) (owners : Nat → Int32) : ∃ ow, mX1_setsThatEnd (nI p) (nI e) (nI (aR a)) (nI (aJ a)) owners cdowns cjudges leads ctaken = some (nI (sF (cnt2 p e a) 0 (aJ a)), ow) := by
  have hJ := hA.2.2.1
  have key : ∀ (d i n : Nat) (ow : Nat → Int32), i + d = aJ a → d < n → (∀ j, j < i → ow j = nI (ownS (cardS p a j))) → ∃ ow', mX1_setsThatEnd_L2 (nI p) (nI e) (nI (aR a)) (nI (aJ a)) cdowns cjudges leads ctaken n (nI i) ow = some (nI (sF (cnt2 p e a) 0 (aJ a)), ow') := by
    intro d
    induction d with
    | zero =>
      intro i n ow hi hn ho
      obtain ⟨n, rfl⟩ : ∃ q, n = q + 1 := ⟨n - 1, by omega⟩
      rw [eX1_setsThatEnd_2]
      unfold mX1_setsThatEnd_B2
      rw [if_pos ((n_le (by omega) (by omega)).mpr (by omega)), n_lit 0, X1_sets_L39 hA he (fun j hj => ho j (by omega)) _ (aJ a) 0 FUEL 0 (by omega) (by unfold FUEL; omega), Nat.zero_add]
      exact ⟨_, rfl⟩
    | succ d ih =>
      intro i n ow hi hn ho
      obtain ⟨n, rfl⟩ : ∃ q, n = q + 1 := ⟨n - 1, by omega⟩
      have hc := cardS_in hA p i
      rw [eX1_setsThatEnd_2]
      unfold mX1_setsThatEnd_B2
      rw [if_neg (fun hh => absurd ((n_le (by omega) (by omega)).mp hh) (by omega)), X1_cardBy_s hA hC hd ht hS hp (by omega), b_some, X1_ownerOf_s (by omega), b_some, gi_n (by omega) (by omega), lb_d, lb_d, n_lit 1, n_add, n_cl (by omega)]
      refine ih (i + 1) n _ (by omega) (by omega) (fun j hj => ?_)
      by_cases e1 : j = i
      · subst e1
        exact upd_s
      · rw [upd_n e1]
        exact ho j (by omega)
  unfold mX1_setsThatEnd
  rw [n_lit 0]
  exact key (aJ a) 0 FUEL owners (by omega) (by unfold FUEL; omega) (fun j hj => absurd hj (by omega))
theorem X11_others_L60 (hA : OKD a) (hM : RM a roundMany blowMany blows forwards downs takens homes noises judgeMany judges) {p e x y : Nat} (hp : p ≤ 3) (he : e ≤ 2) (hx : x < aJ a) (hy : y < aJ a) (k26 : Int32 → Int32 → Option Int32) (k43 : Int32 → Int32 → Int32 → Option Int32) :
    ∀ (d i n acc : Nat), i + d = aJ a → d < n → mX11_others_L60 (nI p) (nI e) blowMany blows downs forwards homes judgeMany judges noises roundMany takens k26 k43 n (nI acc) (nI x) (nI y) (nI i) = k43 (nI (acc + sF (indS p e a x y) i d)) (nI x) (nI (y + 1)) := by
  have hJ := hA.2.2.1
  intro d
  induction d with
  | zero =>
    intro i n acc hi hn
    obtain ⟨n, rfl⟩ : ∃ q, n = q + 1 := ⟨n - 1, by omega⟩
    rw [eX11_others_60]
    unfold mX11_others_B60
    rw [show (0 : Int32).toNatClampNeg = 0 from rfl, hM.2.2.1, if_pos ((n_le (by omega) (by omega)).mpr (by omega)), lb_d, n_lit 1, n_add]
    rfl
  | succ d ih =>
    intro i n acc hi hn
    obtain ⟨n, rfl⟩ : ∃ q, n = q + 1 := ⟨n - 1, by omega⟩
    have b1 := cardS_in hA p x
    have b2 := cardS_in hA p y
    have b3 := cardS_in hA p i
    rw [eX11_others_60]
    unfold mX11_others_B60
    rw [show (0 : Int32).toNatClampNeg = 0 from rfl, hM.2.2.1, if_neg (fun hh => absurd ((n_le (by omega) (by omega)).mp hh) (by omega)), X11_cardOf_s hA hM hp hx, X11_cardOf_s hA hM hp hy, X11_cardOf_s hA hM hp (show i < aJ a by omega), b_some, b_some, b_some, X11_whoBy_s (by omega) (by omega) (by omega), b_some]
    simp only [lb_d, n_lit 1, n_lit 0, n_add]
    have hend : endS (ownS (cardS p a x)) (ownS (cardS p a y)) (ownS (cardS p a i)) ≤ 2 := by
      have q1 := ownS_le (cardS p a x)
      have q2 := ownS_le (cardS p a y)
      unfold endS
      split <;> (try split) <;> (try split) <;> omega
    by_cases c : endS (ownS (cardS p a x)) (ownS (cardS p a y)) (ownS (cardS p a i)) = e
    · rw [if_pos (by rw [c]), ih (i + 1) n _ (by omega) (by omega), sF, show indS p e a x y i = 1 from if_pos c, Nat.add_assoc]
    · rw [if_neg (fun hh => c ((n_eq (by omega) (by omega)).mp hh)), ih (i + 1) n _ (by omega) (by omega), sF, show indS p e a x y i = 0 from if_neg c, Nat.add_assoc]
theorem X11_others_L43 (hA : OKD a) (hM : RM a roundMany blowMany blows forwards downs takens homes noises judgeMany judges) {p e x : Nat} (hp : p ≤ 3) (he : e ≤ 2) (hx : x < aJ a) (k26 : Int32 → Int32 → Option Int32) :
    ∀ (d i n acc : Nat), i + d = aJ a → d < n → mX11_others_L43 (nI p) (nI e) blowMany blows downs forwards homes judgeMany judges noises roundMany takens k26 n (nI acc) (nI x) (nI i) = k26 (nI (acc + sF (cnt1 p e a x) i d)) (nI (x + 1)) := by
  have hJ := hA.2.2.1
  intro d
  induction d with
  | zero =>
    intro i n acc hi hn
    obtain ⟨n, rfl⟩ : ∃ q, n = q + 1 := ⟨n - 1, by omega⟩
    rw [eX11_others_43]
    unfold mX11_others_B43
    rw [show (0 : Int32).toNatClampNeg = 0 from rfl, hM.2.2.1, if_pos ((n_le (by omega) (by omega)).mpr (by omega)), lb_d, n_lit 1, n_add]
    rfl
  | succ d ih =>
    intro i n acc hi hn
    obtain ⟨n, rfl⟩ : ∃ q, n = q + 1 := ⟨n - 1, by omega⟩
    rw [eX11_others_43]
    unfold mX11_others_B43
    rw [show (0 : Int32).toNatClampNeg = 0 from rfl, hM.2.2.1, if_neg (fun hh => absurd ((n_le (by omega) (by omega)).mp hh) (by omega)), lb_d, n_lit 1, n_add, X11_others_L60 hA hM hp he hx (show i < aJ a by omega) k26 _ (aJ a - (i + 1)) (i + 1) FUEL acc (by omega) (by unfold FUEL; omega), ih (i + 1) n _ (by omega) (by omega), sF, Nat.add_assoc]
    rfl
theorem X11_others_L26 (hA : OKD a) (hM : RM a roundMany blowMany blows forwards downs takens homes noises judgeMany judges) {p e : Nat} (hp : p ≤ 3) (he : e ≤ 2) :
    ∀ (d i n acc : Nat), i + d = aJ a → d < n → mX11_others_L26 (nI p) (nI e) blowMany blows downs forwards homes judgeMany judges noises roundMany takens n (nI acc) (nI i) = some (nI (acc + sF (cnt2 p e a) i d)) := by
  have hJ := hA.2.2.1
  intro d
  induction d with
  | zero =>
    intro i n acc hi hn
    obtain ⟨n, rfl⟩ : ∃ q, n = q + 1 := ⟨n - 1, by omega⟩
    rw [eX11_others_26]
    unfold mX11_others_B26
    rw [show (0 : Int32).toNatClampNeg = 0 from rfl, hM.2.2.1, if_pos ((n_le (by omega) (by omega)).mpr (by omega))]
    rfl
  | succ d ih =>
    intro i n acc hi hn
    obtain ⟨n, rfl⟩ : ∃ q, n = q + 1 := ⟨n - 1, by omega⟩
    rw [eX11_others_26]
    unfold mX11_others_B26
    rw [show (0 : Int32).toNatClampNeg = 0 from rfl, hM.2.2.1, if_neg (fun hh => absurd ((n_le (by omega) (by omega)).mp hh) (by omega)), lb_d, n_lit 1, n_add, X11_others_L43 hA hM hp he (show i < aJ a by omega) _ (aJ a - (i + 1)) (i + 1) FUEL acc (by omega) (by unfold FUEL; omega), ih (i + 1) n _ (by omega) (by omega), sF, Nat.add_assoc]
    rfl
end CG
set_option maxRecDepth 100000 in
theorem api_others {c_text_length : Int32} {c_text_bytes : Nat → Int32} {c_laid_rounds : Int32} {c_laid_home : Int32} {c_laid_noise : Int32} {c_laid_blowCount : Int32} {c_laid_judgeCount : Int32} {c_laid_blows : Nat → Int32} {c_laid_judges : Nat → Int32} {c_laid_forward : Nat → Int32} {c_laid_downs : Nat → Int32} {c_laid_taken : Nat → Int32} {c_laid_seenBy : Nat → Int32} {c_laid_sums : Nat → Int32} {c_laid_leads : Nat → Int32} {c_bench_watchers : Nat → Int32} {c_notes_delays : Nat → Int32} {c_notes_margins : Nat → Int32} {c_notes_odds : Nat → Int32} {c_kept_0_delays : Nat → Int32} {c_kept_0_margins : Nat → Int32} {c_kept_0_odds : Nat → Int32} {c_kept_1_delays : Nat → Int32} {c_kept_1_margins : Nat → Int32} {c_kept_1_odds : Nat → Int32} {c_keptCount : Int32} {m_length : Int32} {m_text : Nat → Int32} {m_roundMany : Nat → Int32} {m_blowMany : Nat → Int32} {m_blows : Nat → Int32} {m_forwards : Nat → Int32} {m_downs : Nat → Int32} {m_takens : Nat → Int32} {m_homes : Nat → Int32} {m_noises : Nat → Int32} {m_judgeMany : Nat → Int32} {m_judges : Nat → Int32} {m_delays : Nat → Int32} {m_tolds : Nat → Int32} {m_tens : Nat → Int32} {m_keptMany : Int32} (x0 : Int32) (x1 : Int32) (c_cards_owners : Nat → Int32) (hR : RR c_text_length c_text_bytes c_laid_rounds c_laid_home c_laid_noise c_laid_blowCount c_laid_judgeCount c_laid_blows c_laid_judges c_laid_forward c_laid_downs c_laid_taken c_laid_seenBy c_laid_sums c_laid_leads c_bench_watchers c_notes_delays c_notes_margins c_notes_odds c_kept_0_delays c_kept_0_margins c_kept_0_odds c_kept_1_delays c_kept_1_margins c_kept_1_odds c_keptCount m_length m_text m_roundMany m_blowMany m_blows m_forwards m_downs m_takens m_homes m_noises m_judgeMany m_judges m_delays m_tolds m_tens m_keptMany) : ∃ (oc : Int32 × (Nat → Int32)) (om : Int32), mX10_others x0 x1 c_laid_rounds c_laid_judgeCount c_cards_owners c_laid_downs c_laid_judges c_laid_leads c_laid_taken = some oc ∧ mX11_others x0 x1 m_blowMany m_blows m_downs m_forwards m_homes m_judgeMany m_judges m_noises m_roundMany m_takens = some om ∧ oc.1 = om := by
  obtain ⟨-, ⟨a, hA, ⟨rfl, rfl, rfl, rfl, rfl, hC⟩, hS, hM⟩, -⟩ := hR
  have h1 := hA.1.1
  have h2 := hA.1.2.2.1
  unfold mX10_others mX11_others
  rw [X11_isRule_s, ru_bind, ru_bind, wi_bind, in_wl 0 2 (by decide) (by decide), wi_bind]
  by_cases cr : (0 : Int32) ≤ x0 ∧ x0 ≤ 3
  · by_cases c1 : (0 : Int32) ≤ x1 ∧ x1 ≤ 2
    · rw [if_pos cr, if_pos cr, if_pos c1, if_pos c1]
      obtain ⟨p, hp, rfl⟩ := w_n (b := 3) (by omega) cr
      obtain ⟨e, he, rfl⟩ := w_n (b := 2) (by omega) c1
      obtain ⟨ow, ho⟩ := X1_sets_s hA.1 hC.2.1 hC.2.2.2.1 hC.2.2.2.2 hS hp he c_cards_owners
      rw [ho, b_some, n_lit 0, X11_others_L26 hA.1 hM hp he (aJ a) 0 FUEL 0 (by omega) (by unfold FUEL; omega), Nat.zero_add]
      exact ⟨_, _, rfl, rfl, rfl⟩
    · rw [if_pos cr, if_pos cr, if_neg c1, if_neg c1]
      exact ⟨_, _, rfl, rfl, rfl⟩
  · rw [if_neg cr, if_neg cr]
    exact ⟨_, _, rfl, rfl, rfl⟩
/-! men -/
def hW (a : AT) (k : Nat) : Int := if bl a (5 * k) < aR a then (if bl a (5 * k + 2) = 0 then (bl a (5 * k + 3) : Int) else -(bl a (5 * k + 3) : Int)) else 0
def hardS (a : AT) : Int := sZ (hW a) 0 (aB a)
theorem hardS_in {a : AT} (hA : OKD a) : -1000 ≤ hardS a ∧ hardS a ≤ 1000 := by
  have h := sZ_in (g := hW a) (m := 9) (N := aB a) (fun k hk => by
    have hb := hA.2.2.2.2.1 k hk
    unfold okBl at hb
    unfold hW
    split <;> (try split) <;> omega) (aB a) 0 (by omega)
  have := hA.2.1
  unfold hardS
  omega
def menS (p : Nat) (a : AT) : Nat → Nat
  | 0 => 0
  | n + 1 => menS p a n ||| (if ¬ ownS (hardS a) = 2 ∧ ¬ ownS (cardS p a n) = 2 ∧ ¬ ownS (cardS p a n) = ownS (hardS a) then 1 <<< n else 0)
theorem own2 {z : Int} : ownS z = 2 ↔ z = 0 := by
  rcases ownS_tri z with ⟨-, -, a3, a4⟩ | ⟨-, -, a3, a4⟩ | ⟨-, -, a3, a4⟩ <;> rw [a4]
  · exact ⟨fun h => absurd h (by decide), fun h => absurd h a3⟩
  · exact ⟨fun _ => a3, fun _ => rfl⟩
  · exact ⟨fun h => absurd h (by decide), fun h => absurd h a3⟩
theorem sg_own : ∀ x, x ≤ 2 → ∀ y, y ≤ 2 → (((if x = 2 then (0 : Int32) else if x = 1 then -1 else 1) = (if y = 2 then 0 else if y = 1 then -1 else 1)) = (x = y)) := by
  intro x hx y hy
  apply propext
  revert y
  revert x
  decide
section CM
variable {a : AT} {cblows cjudges cdowns ctaken seenBy sums leads : Nat → Int32} {roundMany blowMany blows forwards downs takens homes noises judgeMany judges : Nat → Int32}
theorem X3_hardness_s (hA : OKD a) (hb : ∀ k, k < 5 * aB a → cblows k = nI (bl a k)) : mX3_hardnessFor (nI (aR a)) (nI (aB a)) cblows = some (iI (hardS a)) := by
  have hR := hA.1
  have hB := hA.2.1
  have key : ∀ (d i n : Nat) (acc : Int), i + d = aB a → d < n → mX3_hardnessFor_L4 (nI (aR a)) (nI (aB a)) cblows n (iI acc) (nI i) = some (iI (acc + sZ (hW a) i d)) := by
    intro d
    induction d with
    | zero =>
      intro i n acc hi hn
      obtain ⟨n, rfl⟩ : ∃ q, n = q + 1 := ⟨n - 1, by omega⟩
      rw [eX3_hardnessFor_4]
      unfold mX3_hardnessFor_B4
      rw [if_pos ((n_le (by omega) (by omega)).mpr (by omega)), sZ, Int.add_zero]
    | succ d ih =>
      intro i n acc hi hn
      obtain ⟨n, rfl⟩ : ∃ q, n = q + 1 := ⟨n - 1, by omega⟩
      have hbl := hA.2.2.2.2.1 i (by omega)
      unfold okBl at hbl
      have f0 := X3_blowPart_s hA hb (show i < aB a by omega) (show 0 < 5 by omega)
      have f2 := X3_blowPart_s hA hb (show i < aB a by omega) (show 2 < 5 by omega)
      have f3 := X3_blowPart_s hA hb (show i < aB a by omega) (show 3 < 5 by omega)
      rw [eX3_hardnessFor_4]
      unfold mX3_hardnessFor_B4 mX3_isInRounds
      rw [if_neg (fun hh => absurd ((n_le (by omega) (by omega)).mp hh) (by omega)), n_lit 0, n_lit 2, n_lit 3, n_lit 1, f0, f2, f3]
      simp only [b_some, lb_d, n_add, Nat.add_zero]
      rw [sZ]
      unfold hW
      by_cases c : bl a (5 * i) < aR a
      · rw [if_neg (fun hh => absurd ((n_le (by omega) (by omega)).mp hh) (by omega)), b_some, if_neg (show ¬ nI 1 = nI 0 by decide), if_pos c]
        by_cases c2 : bl a (5 * i + 2) = 0
        · rw [if_pos (by rw [c2]), if_pos c2, nI_iI (bl a (5 * i + 3)), iI_add, ih (i + 1) n _ (by omega) (by omega), Int.add_assoc]
          rfl
        · rw [if_neg (fun hh => c2 ((n_eq (by omega) (by omega)).mp hh)), if_neg c2, nI_iI (bl a (5 * i + 3)), iI_neg, iI_add, ih (i + 1) n _ (by omega) (by omega), Int.add_assoc]
          rfl
      · rw [if_pos ((n_le (by omega) (by omega)).mpr (by omega)), b_some, if_pos rfl, if_neg c, ih (i + 1) n _ (by omega) (by omega), Int.zero_add]
        rfl
  unfold mX3_hardnessFor
  rw [i_0, show iI 0 = nI 0 from rfl, show mX3_hardnessFor_L4 (nI (aR a)) (nI (aB a)) cblows FUEL (nI 0) (nI 0) = mX3_hardnessFor_L4 (nI (aR a)) (nI (aB a)) cblows FUEL (iI 0) (nI 0) from rfl, key (aB a) 0 FUEL 0 (by omega) (by unfold FUEL; omega), Int.zero_add]
  rfl
theorem X1_men_L (hA : OKD a) (hC : ∀ k, k < 7 * aJ a → cjudges k = nI (jd a k)) (hd : ∀ k, k < 24 → cdowns k = nI (dn a k)) (ht : ∀ k, k < 24 → ctaken k = nI (tk a k)) (hS : RCs a seenBy sums leads) {p : Nat} (hp : p ≤ 3) {bc : Int32} :
    ∀ (d i n : Nat), i + d = aJ a → d < n → mX1_judgesAgainstHardness_L16 (nI p) (nI (aR a)) bc (nI (aJ a)) cblows cdowns cjudges leads ctaken n (nI (ownS (hardS a))) (nI (menS p a i)) (nI i) = some (nI (menS p a (aJ a))) := by
  have hJ := hA.2.2.1
  intro d
  induction d with
  | zero =>
    intro i n hi hn
    obtain ⟨n, rfl⟩ : ∃ q, n = q + 1 := ⟨n - 1, by omega⟩
    rw [eX1_judgesAgainstHardness_16]
    unfold mX1_judgesAgainstHardness_B16
    rw [if_pos ((n_le (by omega) (by omega)).mpr (by omega)), show i = aJ a by omega]
  | succ d ih =>
    intro i n hi hn
    obtain ⟨n, rfl⟩ : ∃ q, n = q + 1 := ⟨n - 1, by omega⟩
    have hc := cardS_in hA p i
    have o1 := ownS_le (hardS a)
    have o2 := ownS_le (cardS p a i)
    have h9 := ih (i + 1) n (by omega) (by omega)
    rw [menS] at h9
    rw [eX1_judgesAgainstHardness_16]
    unfold mX1_judgesAgainstHardness_B16
    rw [if_neg (fun hh => absurd ((n_le (by omega) (by omega)).mp hh) (by omega)), X1_cardBy_s hA hC hd ht hS hp (by omega), b_some, X1_ownerOf_s (by omega), b_some]
    simp only [lb_d, n_bit i (by omega)]
    simp only [n_lit 1, n_lit 2, n_add, n_or]
    by_cases c1 : ownS (hardS a) = 2
    · rw [if_pos (by rw [c1])]
      rw [if_neg (fun hh => hh.1 c1), Nat.or_zero] at h9
      exact h9
    · rw [if_neg (fun hh => c1 ((n_eq (by omega) (by omega)).mp hh))]
      by_cases c2 : ownS (cardS p a i) = 2
      · rw [if_pos (by rw [c2])]
        rw [if_neg (fun hh => hh.2.1 c2), Nat.or_zero] at h9
        exact h9
      · rw [if_neg (fun hh => c2 ((n_eq (by omega) (by omega)).mp hh))]
        by_cases c3 : ownS (cardS p a i) = ownS (hardS a)
        · rw [if_pos (by rw [c3])]
          rw [if_neg (fun hh => hh.2.2 c3), Nat.or_zero] at h9
          exact h9
        · rw [if_neg (fun hh => c3 ((n_eq (by omega) (by omega)).mp hh))]
          rw [if_pos ⟨c1, c2, c3⟩] at h9
          exact h9
theorem X11_men_L91 (hA : OKD a) (hM : RM a roundMany blowMany blows forwards downs takens homes noises judgeMany judges) {p : Nat} (hp : p ≤ 3) :
    ∀ (d i n : Nat), i + d = aJ a → d < n → mX11_men_L91 (nI p) blowMany blows downs forwards homes judgeMany judges noises roundMany takens n (iI (hardS a)) (nI (menS p a i)) (nI i) = some (nI (menS p a (aJ a))) := by
  have hJ := hA.2.2.1
  have hh0 := hardS_in hA
  intro d
  induction d with
  | zero =>
    intro i n hi hn
    obtain ⟨n, rfl⟩ : ∃ q, n = q + 1 := ⟨n - 1, by omega⟩
    rw [eX11_men_91]
    unfold mX11_men_B91
    rw [show (0 : Int32).toNatClampNeg = 0 from rfl, hM.2.2.1, if_pos ((n_le (by omega) (by omega)).mpr (by omega)), show i = aJ a by omega]
  | succ d ih =>
    intro i n hi hn
    obtain ⟨n, rfl⟩ : ∃ q, n = q + 1 := ⟨n - 1, by omega⟩
    have hc := cardS_in hA p i
    have h9 := ih (i + 1) n (by omega) (by omega)
    rw [menS] at h9
    rw [eX11_men_91]
    unfold mX11_men_B91
    rw [show (0 : Int32).toNatClampNeg = 0 from rfl, hM.2.2.1, if_neg (fun hh => absurd ((n_le (by omega) (by omega)).mp hh) (by omega)), X11_cardOf_s hA hM hp (by omega), b_some, X11_sign_s (by omega), b_some, X11_sign_s (by omega), b_some]
    simp only [lb_d, n_bit i (by omega), (i0le (z := hardS a) (by omega)).2.2, (i0le (z := cardS p a i) (by omega)).2.2]
    simp only [show nI i + (1 : Int32) = nI (i + 1) from n_add i 1, show (nI (menS p a i) ||| (0 : Int32)) = nI (menS p a i) from by rw [n_lit 0, n_or, Nat.or_zero], n_or]
    simp only [sg_own _ (ownS_le (cardS p a i)) _ (ownS_le (hardS a))]
    by_cases c1 : hardS a = 0
    · rw [if_pos c1]
      rw [if_neg (fun hh => hh.1 (own2.mpr c1)), Nat.or_zero] at h9
      exact h9
    · rw [if_neg c1]
      by_cases c2 : cardS p a i = 0
      · rw [if_pos c2]
        rw [if_neg (fun hh => hh.2.1 (own2.mpr c2)), Nat.or_zero] at h9
        exact h9
      · rw [if_neg c2]
        by_cases c3 : ownS (cardS p a i) = ownS (hardS a)
        · rw [if_pos c3]
          rw [if_neg (fun hh => hh.2.2 c3), Nat.or_zero] at h9
          exact h9
        · rw [if_neg c3]
          rw [if_pos ⟨fun hh => c1 (own2.mp hh), fun hh => c2 (own2.mp hh), c3⟩] at h9
          exact h9
end CM
set_option maxRecDepth 100000 in
theorem api_men {c_text_length : Int32} {c_text_bytes : Nat → Int32} {c_laid_rounds : Int32} {c_laid_home : Int32} {c_laid_noise : Int32} {c_laid_blowCount : Int32} {c_laid_judgeCount : Int32} {c_laid_blows : Nat → Int32} {c_laid_judges : Nat → Int32} {c_laid_forward : Nat → Int32} {c_laid_downs : Nat → Int32} {c_laid_taken : Nat → Int32} {c_laid_seenBy : Nat → Int32} {c_laid_sums : Nat → Int32} {c_laid_leads : Nat → Int32} {c_bench_watchers : Nat → Int32} {c_notes_delays : Nat → Int32} {c_notes_margins : Nat → Int32} {c_notes_odds : Nat → Int32} {c_kept_0_delays : Nat → Int32} {c_kept_0_margins : Nat → Int32} {c_kept_0_odds : Nat → Int32} {c_kept_1_delays : Nat → Int32} {c_kept_1_margins : Nat → Int32} {c_kept_1_odds : Nat → Int32} {c_keptCount : Int32} {m_length : Int32} {m_text : Nat → Int32} {m_roundMany : Nat → Int32} {m_blowMany : Nat → Int32} {m_blows : Nat → Int32} {m_forwards : Nat → Int32} {m_downs : Nat → Int32} {m_takens : Nat → Int32} {m_homes : Nat → Int32} {m_noises : Nat → Int32} {m_judgeMany : Nat → Int32} {m_judges : Nat → Int32} {m_delays : Nat → Int32} {m_tolds : Nat → Int32} {m_tens : Nat → Int32} {m_keptMany : Int32} (x0 : Int32)  (hR : RR c_text_length c_text_bytes c_laid_rounds c_laid_home c_laid_noise c_laid_blowCount c_laid_judgeCount c_laid_blows c_laid_judges c_laid_forward c_laid_downs c_laid_taken c_laid_seenBy c_laid_sums c_laid_leads c_bench_watchers c_notes_delays c_notes_margins c_notes_odds c_kept_0_delays c_kept_0_margins c_kept_0_odds c_kept_1_delays c_kept_1_margins c_kept_1_odds c_keptCount m_length m_text m_roundMany m_blowMany m_blows m_forwards m_downs m_takens m_homes m_noises m_judgeMany m_judges m_delays m_tolds m_tens m_keptMany) : ∃ (oc : Int32) (om : Int32), mX10_men x0 c_laid_rounds c_laid_blowCount c_laid_judgeCount c_laid_blows c_laid_downs c_laid_judges c_laid_leads c_laid_taken = some oc ∧ mX11_men x0 m_blowMany m_blows m_downs m_forwards m_homes m_judgeMany m_judges m_noises m_roundMany m_takens = some om ∧ oc = om := by
  obtain ⟨-, ⟨a, hA, ⟨rfl, rfl, rfl, rfl, rfl, hC⟩, hS, hM⟩, -⟩ := hR
  have h1 := hA.1.1
  have h2 := hA.1.2.2.1
  have hB := hA.1.2.1
  have hh0 := hardS_in hA.1
  unfold mX10_men mX11_men
  rw [X11_isRule_s, ru_bind, ru_bind]
  by_cases cr : (0 : Int32) ≤ x0 ∧ x0 ≤ 3
  · rw [if_pos cr, if_pos cr]
    obtain ⟨p, hp, rfl⟩ := w_n (b := 3) (by omega) cr
    have key : ∀ (d i n : Nat) (acc : Int), i + d = aB a → d < n → acc + sZ (hW a) i d = hardS a → mX11_men_L13 (nI p) m_blowMany m_blows m_downs m_forwards m_homes m_judgeMany m_judges m_noises m_roundMany m_takens n (iI acc) (nI i) = some (nI (menS p a (aJ a))) := by
      intro d
      induction d with
      | zero =>
        intro i n acc hi hn hz
        obtain ⟨n, rfl⟩ : ∃ q, n = q + 1 := ⟨n - 1, by omega⟩
        rw [eX11_men_13]
        unfold mX11_men_B13
        rw [show (0 : Int32).toNatClampNeg = 0 from rfl, hM.2.1, if_pos ((n_le (by omega) (by omega)).mpr (by omega))]
        rw [sZ, Int.add_zero] at hz
        rw [hz, n_lit 0]
        exact X11_men_L91 hA.1 hM hp (aJ a) 0 FUEL (by omega) (by unfold FUEL; omega)
      | succ d ih =>
        intro i n acc hi hn hz
        obtain ⟨n, rfl⟩ : ∃ q, n = q + 1 := ⟨n - 1, by omega⟩
        have hbl := hA.1.2.2.2.2.1 i (by omega)
        unfold okBl at hbl
        rw [sZ, ← Int.add_assoc] at hz
        have h9 := ih (i + 1) n _ (by omega) (by omega) hz
        rw [eX11_men_13]
        unfold mX11_men_B13 mX11_men_B54
        rw [show (0 : Int32).toNatClampNeg = 0 from rfl, hM.2.1, hM.1, if_neg (fun hh => absurd ((n_le (by omega) (by omega)).mp hh) (by omega))]
        simp only [n_lit 5, n_lit 2, n_lit 3, n_lit 1, n_mul, n_add, lb_d, gi_n (show 5 * i < 400 by omega) (show 400 ≤ 2147483648 by omega), gi_n (show 5 * i + 2 < 400 by omega) (show 400 ≤ 2147483648 by omega), gi_n (show 5 * i + 3 < 400 by omega) (show 400 ≤ 2147483648 by omega), n_cl (show 5 * i < 2147483648 by omega), n_cl (show 5 * i + 2 < 2147483648 by omega), n_cl (show 5 * i + 3 < 2147483648 by omega), hM.2.2.2.2.2.1 (5 * i) (by omega), hM.2.2.2.2.2.1 (5 * i + 2) (by omega), hM.2.2.2.2.2.1 (5 * i + 3) (by omega)]
        unfold hW at h9
        by_cases c : bl a (5 * i) < aR a
        · rw [if_neg (fun hh => absurd ((n_le (by omega) (by omega)).mp hh) (by omega))]
          rw [if_pos c] at h9
          by_cases c2 : bl a (5 * i + 2) = 0
          · rw [if_pos (show nI (bl a (5 * i + 2)) = (0 : Int32) from by rw [c2]; rfl), nI_iI (bl a (5 * i + 3)), iI_add]
            rw [if_pos c2] at h9
            exact h9
          · rw [if_neg (show ¬ nI (bl a (5 * i + 2)) = (0 : Int32) from fun hh => c2 ((n_eq (by omega) (by omega)).mp (show nI (bl a (5 * i + 2)) = nI 0 from hh))), nI_iI (bl a (5 * i + 3)), iI_neg, iI_add]
            rw [if_neg c2] at h9
            exact h9
        · rw [if_pos ((n_le (by omega) (by omega)).mpr (by omega))]
          rw [if_neg c, Int.add_zero] at h9
          have z1 : iI acc + (0 : Int32) = iI acc := by rw [i_0, iI_add, Int.add_zero]
          have z2 : iI acc + -(0 : Int32) = iI acc := by rw [i_0, iI_neg, iI_add]; simp
          rw [z1, z2]
          split <;> exact h9
    have e1 := key (aB a) 0 FUEL 0 (by omega) (by unfold FUEL; omega) (by unfold hardS; omega)
    have e2 : mX1_judgesAgainstHardness (nI p) (nI (aR a)) (nI (aB a)) (nI (aJ a)) c_laid_blows c_laid_downs c_laid_judges c_laid_leads c_laid_taken = some (nI (menS p a (aJ a))) := by
      unfold mX1_judgesAgainstHardness
      rw [X3_hardness_s hA.1 hC.1, b_some, X1_ownerOf_s (by omega), b_some]
      exact X1_men_L hA.1 hC.2.1 hC.2.2.2.1 hC.2.2.2.2 hS hp (aJ a) 0 FUEL (by omega) (by unfold FUEL; omega)
    rw [e2, b_some]
    exact ⟨_, _, rfl, e1, rfl⟩
  · rw [if_neg cr, if_neg cr]
    exact ⟨_, _, rfl, rfl, rfl⟩
