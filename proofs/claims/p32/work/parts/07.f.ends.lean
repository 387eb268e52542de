/-! API F: ends, others, men -/
def ownS (z : Int) : Nat := if z = 0 then 2 else if z ≤ 0 then 1 else 0
def endS (x y z : Nat) : Nat := if x = y then x else if x = z then x else if y = z then y else 2
def kindS (x y z : Nat) : Nat := if x = y ∧ y = z then 0 else if endS x y z = 2 then 3 else if x = 2 ∨ y = 2 ∨ z = 2 then 1 else 2
theorem ownS_tri (z : Int) : (z ≤ 0 ∧ ¬ 0 ≤ z ∧ ¬ z = 0 ∧ ownS z = 1) ∨ (z ≤ 0 ∧ 0 ≤ z ∧ z = 0 ∧ ownS z = 2) ∨ (¬ z ≤ 0 ∧ 0 ≤ z ∧ ¬ z = 0 ∧ ownS z = 0) := by
  unfold ownS
  rcases Int.lt_trichotomy z 0 with h | h | h
  · exact Or.inl ⟨by omega, by omega, by omega, by rw [if_neg (by omega), if_pos (by omega)]⟩
  · exact Or.inr (Or.inl ⟨by omega, by omega, h, by rw [if_pos h]⟩)
  · exact Or.inr (Or.inr ⟨by omega, by omega, by omega, by rw [if_neg (by omega), if_neg (by omega)]⟩)
theorem ownS_le (z : Int) : ownS z ≤ 2 := by rcases ownS_tri z with h | h | h <;> omega
theorem X1_ownerOf_s {z : Int} (hz : -2147483648 ≤ z ∧ z < 2147483648) : mX1_ownerOf (iI z) = some (nI (ownS z)) := by
  have e1 : (iI z = 0) = (z = 0) := by rw [i_0]; exact propext (iI_eq hz.1 hz.2 (by omega) (by omega))
  have e2 : (iI z ≤ 0) = (z ≤ 0) := by rw [i_0]; exact propext (iI_le hz.1 hz.2 (by omega) (by omega))
  unfold mX1_ownerOf
  simp only [e1, e2]
  rcases ownS_tri z with ⟨h1, h2, h3, h4⟩ | ⟨h1, h2, h3, h4⟩ | ⟨h1, h2, h3, h4⟩ <;> simp only [h1, h3, h4, if_true, if_false] <;> rfl
theorem X1_endOf_s {x y z : Nat} (hx : x ≤ 2) (hy : y ≤ 2) (hz : z ≤ 2) : mX1_endOf (nI x) (nI y) (nI z) = some (nI (endS x y z)) := by
  unfold mX1_endOf endS
  simp only [n_eq (show x < 2147483648 by omega) (show y < 2147483648 by omega), n_eq (show x < 2147483648 by omega) (show z < 2147483648 by omega), n_eq (show y < 2147483648 by omega) (show z < 2147483648 by omega)]
  split <;> (try split) <;> (try split) <;> rfl
theorem X1_kindOf_s : ∀ x, x ≤ 2 → ∀ y, y ≤ 2 → ∀ z, z ≤ 2 → mX1_kindOf (nI x) (nI y) (nI z) = some (nI (kindS x y z)) := by decide
theorem i0le {z : Int} (hz : -2147483648 ≤ z ∧ z < 2147483648) : ((iI z ≤ 0) = (z ≤ 0)) ∧ (((0 : Int32) ≤ iI z) = (0 ≤ z)) ∧ ((iI z = 0) = (z = 0)) := by
  rw [i_0]
  exact ⟨propext (iI_le hz.1 hz.2 (by omega) (by omega)), propext (iI_le (by omega) (by omega) hz.1 hz.2), propext (iI_eq hz.1 hz.2 (by omega) (by omega))⟩
theorem X11_whoBy_s {x y z : Int} (hx : -2147483648 ≤ x ∧ x < 2147483648) (hy : -2147483648 ≤ y ∧ y < 2147483648) (hz : -2147483648 ≤ z ∧ z < 2147483648) : mX11_whoBy (iI x) (iI y) (iI z) = some (nI (endS (ownS x) (ownS y) (ownS z))) := by
  obtain ⟨x1, x2, x3⟩ := i0le hx
  obtain ⟨y1, y2, y3⟩ := i0le hy
  obtain ⟨z1, z2, z3⟩ := i0le hz
  unfold mX11_whoBy mX11_whoBy_B9 mX11_whoBy_B18 mX11_whoBy_B28 mX11_whoBy_B39 mX11_whoBy_B48 mX11_whoBy_B58
  simp only [x1, x2, y1, y2, z1, z2, lb_d]
  rcases ownS_tri x with ⟨a1, a2, a3, a4⟩ | ⟨a1, a2, a3, a4⟩ | ⟨a1, a2, a3, a4⟩ <;> rcases ownS_tri y with ⟨b1, b2, b3, b4⟩ | ⟨b1, b2, b3, b4⟩ | ⟨b1, b2, b3, b4⟩ <;> rcases ownS_tri z with ⟨c1, c2, c3, c4⟩ | ⟨c1, c2, c3, c4⟩ | ⟨c1, c2, c3, c4⟩ <;> simp only [a1, a2, a4, b1, b2, b4, c1, c2, c4, if_true, if_false] <;> decide
theorem X11_sign_s {z : Int} (hz : -2147483648 ≤ z ∧ z < 2147483648) : mX11_sign (iI z) = some (if ownS z = 2 then 0 else if ownS z = 1 then -1 else 1) := by
  obtain ⟨z1, z2, z3⟩ := i0le hz
  unfold mX11_sign
  simp only [z1, z2]
  rcases ownS_tri z with ⟨h1, h2, h3, h4⟩ | ⟨h1, h2, h3, h4⟩ | ⟨h1, h2, h3, h4⟩ <;> simp only [h1, h2, h4, if_true, if_false] <;> decide
theorem X11_kindBy_s {x y z : Int} (hx : -2147483648 ≤ x ∧ x < 2147483648) (hy : -2147483648 ≤ y ∧ y < 2147483648) (hz : -2147483648 ≤ z ∧ z < 2147483648) : mX11_kindBy (iI x) (iI y) (iI z) = some (nI (kindS (ownS x) (ownS y) (ownS z))) := by
  obtain ⟨x1, x2, x3⟩ := i0le hx
  obtain ⟨y1, y2, y3⟩ := i0le hy
  obtain ⟨z1, z2, z3⟩ := i0le hz
  unfold mX11_kindBy mX11_kindBy_B16 mX11_kindBy_B25 mX11_kindBy_B35 mX11_kindBy_B68
  rw [X11_whoBy_s hx hy hz, X11_sign_s hx, X11_sign_s hy, X11_sign_s hz]
  simp only [x3, y3, z3, lb_d, b_some]
  rcases ownS_tri x with ⟨a1, a2, a3, a4⟩ | ⟨a1, a2, a3, a4⟩ | ⟨a1, a2, a3, a4⟩ <;> rcases ownS_tri y with ⟨b1, b2, b3, b4⟩ | ⟨b1, b2, b3, b4⟩ | ⟨b1, b2, b3, b4⟩ <;> rcases ownS_tri z with ⟨c1, c2, c3, c4⟩ | ⟨c1, c2, c3, c4⟩ | ⟨c1, c2, c3, c4⟩ <;> simp only [a3, a4, b3, b4, c3, c4, if_true, if_false] <;> decide
theorem th_bind {β : Type} (x y z : Int32) (J : Nat) (A B : Option β) : (mX10_areThree x y z (nI J)).bind (fun o => if o = 0 then A else B) = if (isJ x J ∧ isJ y J ∧ isJ z J) ∧ (¬ x = y ∧ ¬ x = z ∧ ¬ y = z) then B else A := by
  unfold mX10_areThree
  rw [jd_bind, jd_bind, jd_bind]
  by_cases h1 : isJ x J
  · rw [if_pos h1]
    by_cases h2 : isJ y J
    · rw [if_pos h2]
      by_cases h3 : isJ z J
      · rw [if_pos h3]
        by_cases e1 : x = y
        · rw [if_pos e1, if_neg (fun hh => hh.2.1 e1)]; rfl
        · rw [if_neg e1]
          by_cases e2 : x = z
          · rw [if_pos e2, if_neg (fun hh => hh.2.2.1 e2)]; rfl
          · rw [if_neg e2]
            by_cases e3 : y = z
            · rw [if_pos e3, if_neg (fun hh => hh.2.2.2 e3)]; rfl
            · rw [if_neg e3, if_pos ⟨⟨h1, h2, h3⟩, e1, e2, e3⟩]; rfl
      · rw [if_neg h3, if_neg (fun hh => h3 hh.1.2.2)]; rfl
    · rw [if_neg h2, if_neg (fun hh => h2 hh.1.2.1)]; rfl
  · rw [if_neg h1, if_neg (fun hh => h1 hh.1.1)]; rfl
theorem X11_areThree_s (x y z : Int32) (J : Nat) {f : Nat → Int32} (hf : f 0 = nI J) : mX11_areThree x y z f = mX10_areThree x y z (nI J) := by
  unfold mX11_areThree mX10_areThree
  rw [X11_isJudge_s x J hf, X11_isJudge_s y J hf, X11_isJudge_s z J hf]
set_option maxRecDepth 100000 in
theorem api_end {c_text_length : Int32} {c_text_bytes : Nat → Int32} {c_laid_rounds : Int32} {c_laid_home : Int32} {c_laid_noise : Int32} {c_laid_blowCount : Int32} {c_laid_judgeCount : Int32} {c_laid_blows : Nat → Int32} {c_laid_judges : Nat → Int32} {c_laid_forward : Nat → Int32} {c_laid_downs : Nat → Int32} {c_laid_taken : Nat → Int32} {c_laid_seenBy : Nat → Int32} {c_laid_sums : Nat → Int32} {c_laid_leads : Nat → Int32} {c_bench_watchers : Nat → Int32} {c_notes_delays : Nat → Int32} {c_notes_margins : Nat → Int32} {c_notes_odds : Nat → Int32} {c_kept_0_delays : Nat → Int32} {c_kept_0_margins : Nat → Int32} {c_kept_0_odds : Nat → Int32} {c_kept_1_delays : Nat → Int32} {c_kept_1_margins : Nat → Int32} {c_kept_1_odds : Nat → Int32} {c_keptCount : Int32} {m_length : Int32} {m_text : Nat → Int32} {m_roundMany : Nat → Int32} {m_blowMany : Nat → Int32} {m_blows : Nat → Int32} {m_forwards : Nat → Int32} {m_downs : Nat → Int32} {m_takens : Nat → Int32} {m_homes : Nat → Int32} {m_noises : Nat → Int32} {m_judgeMany : Nat → Int32} {m_judges : Nat → Int32} {m_delays : Nat → Int32} {m_tolds : Nat → Int32} {m_tens : Nat → Int32} {m_keptMany : Int32} (x0 : Int32) (x1 : Int32) (x2 : Int32) (x3 : Int32) (x4 : Int32)  (hR : RR c_text_length c_text_bytes c_laid_rounds c_laid_home c_laid_noise c_laid_blowCount c_laid_judgeCount c_laid_blows c_laid_judges c_laid_forward c_laid_downs c_laid_taken c_laid_seenBy c_laid_sums c_laid_leads c_bench_watchers c_notes_delays c_notes_margins c_notes_odds c_kept_0_delays c_kept_0_margins c_kept_0_odds c_kept_1_delays c_kept_1_margins c_kept_1_odds c_keptCount m_length m_text m_roundMany m_blowMany m_blows m_forwards m_downs m_takens m_homes m_noises m_judgeMany m_judges m_delays m_tolds m_tens m_keptMany) : ∃ (oc : Int32) (om : Int32), mX10_end x0 x1 x2 x3 x4 c_laid_rounds c_laid_judgeCount c_laid_downs c_laid_judges c_laid_leads c_laid_taken = some oc ∧ mX11_end x0 x1 x2 x3 x4 m_blowMany m_blows m_downs m_forwards m_homes m_judgeMany m_judges m_noises m_roundMany m_takens = some om ∧ oc = om := by
  obtain ⟨-, ⟨a, hA, ⟨rfl, rfl, rfl, rfl, rfl, hC⟩, hS, hM⟩, -⟩ := hR
  have h1 := hA.1.1
  have h2 := hA.1.2.2.1
  unfold mX10_end mX11_end
  rw [X11_isRule_s, ru_bind, ru_bind, X11_areThree_s x1 x2 x3 (aJ a) hM.2.2.1, th_bind, th_bind, wi_bind, in_wl 0 1 (by decide) (by decide), wi_bind]
  by_cases cr : (0 : Int32) ≤ x0 ∧ x0 ≤ 3
  · by_cases c0 : (isJ x1 (aJ a) ∧ isJ x2 (aJ a) ∧ isJ x3 (aJ a)) ∧ (¬ x1 = x2 ∧ ¬ x1 = x3 ∧ ¬ x2 = x3)
    · by_cases c1 : (0 : Int32) ≤ x4 ∧ x4 ≤ 1
      · rw [if_pos cr, if_pos cr, if_pos c0, if_pos c0, if_pos c1, if_pos c1]
        obtain ⟨p, hp, rfl⟩ := w_n (b := 3) (by omega) cr
        obtain ⟨i, hi, rfl⟩ := w_J (by omega) c0.1.1
        obtain ⟨j, hj, rfl⟩ := w_J (by omega) c0.1.2.1
        obtain ⟨k, hk, rfl⟩ := w_J (by omega) c0.1.2.2
        have b1 := cardS_in hA.1 p i
        have b2 := cardS_in hA.1 p j
        have b3 := cardS_in hA.1 p k
        have o1 := ownS_le (cardS p a i)
        have o2 := ownS_le (cardS p a j)
        have o3 := ownS_le (cardS p a k)
        simp only [X1_cardBy_s hA.1 hC.2.1 hC.2.2.2.1 hC.2.2.2.2 hS hp hi, X1_cardBy_s hA.1 hC.2.1 hC.2.2.2.1 hC.2.2.2.2 hS hp hj, X1_cardBy_s hA.1 hC.2.1 hC.2.2.2.1 hC.2.2.2.2 hS hp hk, X11_cardOf_s hA.1 hM hp hi, X11_cardOf_s hA.1 hM hp hj, X11_cardOf_s hA.1 hM hp hk, b_some,
          X1_ownerOf_s (show -2147483648 ≤ cardS p a i ∧ cardS p a i < 2147483648 by omega), X1_ownerOf_s (show -2147483648 ≤ cardS p a j ∧ cardS p a j < 2147483648 by omega), X1_ownerOf_s (show -2147483648 ≤ cardS p a k ∧ cardS p a k < 2147483648 by omega),
          X11_whoBy_s (show -2147483648 ≤ cardS p a i ∧ cardS p a i < 2147483648 by omega) (show -2147483648 ≤ cardS p a j ∧ cardS p a j < 2147483648 by omega) (show -2147483648 ≤ cardS p a k ∧ cardS p a k < 2147483648 by omega), X11_kindBy_s (show -2147483648 ≤ cardS p a i ∧ cardS p a i < 2147483648 by omega) (show -2147483648 ≤ cardS p a j ∧ cardS p a j < 2147483648 by omega) (show -2147483648 ≤ cardS p a k ∧ cardS p a k < 2147483648 by omega), X1_endOf_s o1 o2 o3, X1_kindOf_s _ o1 _ o2 _ o3]
        by_cases e : x4 = 0
        · rw [if_pos e]
          exact ⟨_, _, rfl, rfl, rfl⟩
        · rw [if_neg e]
          exact ⟨_, _, rfl, rfl, rfl⟩
      · rw [if_pos cr, if_pos cr, if_pos c0, if_pos c0, if_neg c1, if_neg c1]
        exact ⟨_, _, rfl, rfl, rfl⟩
    · rw [if_pos cr, if_pos cr, if_neg c0, if_neg c0]
      exact ⟨_, _, rfl, rfl, rfl⟩
  · rw [if_neg cr, if_neg cr]
    exact ⟨_, _, rfl, rfl, rfl⟩
