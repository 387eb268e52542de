/-! FIGHT: the law lays a fight, and it is laid -/
theorem and_pos (x : Int32) : ∃ m, m < 2147483648 ∧ x &&& (2147483647 : Int32) = nI m := by
  refine ⟨x.toBitVec.toNat % 2147483648, Nat.mod_lt _ (by omega), ?_⟩
  apply Int32.toBitVec_inj.mp
  rw [Int32.toBitVec_and]
  apply BitVec.eq_of_toNat_eq
  rw [BitVec.toNat_and]
  show (x.toBitVec.toNat &&& 2147483647) = (x.toBitVec.toNat % 2147483648) % 2 ^ 32
  rw [show (2147483647 : Nat) = 2 ^ 31 - 1 from rfl, Nat.and_two_pow_sub_one_eq_mod]
  omega
theorem and_one (x : Int32) : ∃ r, r < 2 ∧ x &&& (1 : Int32) = nI r := by
  refine ⟨x.toBitVec.toNat % 2, Nat.mod_lt _ (by omega), ?_⟩
  apply Int32.toBitVec_inj.mp
  rw [Int32.toBitVec_and]
  apply BitVec.eq_of_toNat_eq
  rw [BitVec.toNat_and]
  show (x.toBitVec.toNat &&& 1) = (x.toBitVec.toNat % 2) % 2 ^ 32
  rw [show (1 : Nat) = 2 ^ 1 - 1 from rfl, Nat.and_two_pow_sub_one_eq_mod]
  omega
theorem some_s (x : Int32) {c : Int32} {n : Nat} (hc : c = nI n) (h0 : 0 < n) (hn : n < 2147483648) : ∃ r, r < n ∧ mL_some x c = some (nI r) := by
  subst hc
  obtain ⟨m, hm, e⟩ := and_pos x
  refine ⟨m % n, Nat.mod_lt _ h0, ?_⟩
  unfold mL_some gd
  rw [if_pos (show ¬ nI n = 0 from fun hh => absurd ((n_eq (b := 0) (by omega) (by omega)).mp hh) (by omega)), lb_d, e, pk_rem (by omega) (by omega) (by omega)]
theorem cell_s {sL : Nat} (sX : Nat → Int32) (hL : sL ≤ 260) {i : Nat} (hi : i < 1000) {c : Int32} (hc : c = nI i) : ∃ y, mL_cell_p0t6 sL sX c = some y := by
  subst hc
  unfold mL_cell_p0t6
  by_cases h : nI sL ≤ nI i
  · rw [if_pos h]; exact ⟨_, rfl⟩
  · have h2 : ¬ sL ≤ i := fun hh => h ((n_le (by omega) (by omega)).mpr hh)
    rw [if_neg h, gi_n (by omega) (by omega)]; exact ⟨_, rfl⟩
def vL (l : List Nat) : Nat → Nat := fun k => l.getD k 0
theorem len_num {v : Nat} (h : v < 10) : (numL v).length = 1 := by unfold numL; rw [if_pos h]; rfl
theorem len_num2 {v : Nat} (h : v < 100) : (numL v).length ≤ 2 := by
  unfold numL
  split
  · show 1 ≤ 2; omega
  · show 2 ≤ 2; omega
theorem len_sep (V : Nat → Nat) (k d : Nat) : (sepF V k (d + 1)).length = (numL (V k)).length + ((sepF V (k + 1) d).length + 1) := by
  show (numL (V k) ++ _ :: sepF V (k + 1) d).length = _
  rw [List.length_append, List.length_cons]
theorem blow_step {sL : Nat} {sX : Nat → Int32} (hL : sL ≤ 260) {R B k : Nat} (hR : 1 ≤ R ∧ R ≤ 5) (hk : k < B) (hB : B ≤ 12) {its : List IT} {a : AT} (hr : Run clrA its a) (hab : aB a = k) (hlen : (txtL its).length ≤ 8 + 14 * k) : ∃ it c, Run clrA (its ++ [it]) c ∧ aB c = k + 1 ∧ aJ c = aJ a ∧ aR c = aR a ∧ dn c = dn a ∧ tk c = tk a ∧ (txtL (its ++ [it])).length ≤ 8 + 14 * (k + 1) ∧ ∀ (i_p0_keptCount : Int32) (i_p0_draft_rounds : Int32) (i_p0_draft_home : Int32) (i_p0_draft_noise : Int32) (i_p0_draft_blowCount : Int32) (i_p0_draft_judgeCount : Int32) (i_p0_laid_rounds : Int32) (i_p0_laid_home : Int32) (i_p0_laid_noise : Int32) (i_p0_laid_blowCount : Int32) (i_p0_laid_judgeCount : Int32) (i_p0_reader_place : Int32) (f_p0_draft_blows : Nat → Int32) (f_p0_draft_downs : Nat → Int32) (f_p0_draft_forward : Nat → Int32) (f_p0_draft_judges : Nat → Int32) (f_p0_draft_taken : Nat → Int32) (f_p0_laid_blows : Nat → Int32) (f_p0_laid_downs : Nat → Int32) (f_p0_laid_forward : Nat → Int32) (f_p0_laid_judges : Nat → Int32) (f_p0_laid_leads : Nat → Int32) (f_p0_laid_seenBy : Nat → Int32) (f_p0_laid_sums : Nat → Int32) (f_p0_laid_taken : Nat → Int32) (f_p0_notes_delays : Nat → Int32) (f_p0_reader_numbers : Nat → Int32) (n : Nat) (f : Nat → Int32) (len : Int32) (bytes b j : Nat → Int32), TC (txtL its) len bytes → f 0 = nI R → f 2 = nI B → ∃ b' bytes', TC (txtL (its ++ [it])) (nI (txtL (its ++ [it])).length) bytes' ∧ mL_fight_p1t6_L124 sL sX 0 i_p0_keptCount i_p0_draft_rounds i_p0_draft_home i_p0_draft_noise i_p0_draft_blowCount i_p0_draft_judgeCount i_p0_laid_rounds i_p0_laid_home i_p0_laid_noise i_p0_laid_blowCount i_p0_laid_judgeCount i_p0_reader_place f_p0_draft_blows f_p0_draft_downs f_p0_draft_forward f_p0_draft_judges f_p0_draft_taken f_p0_laid_blows f_p0_laid_downs f_p0_laid_forward f_p0_laid_judges f_p0_laid_leads f_p0_laid_seenBy f_p0_laid_sums f_p0_laid_taken f_p0_notes_delays f_p0_reader_numbers (n + 1) 1 (nI k) f len bytes b j = mL_fight_p1t6_L124 sL sX 0 i_p0_keptCount i_p0_draft_rounds i_p0_draft_home i_p0_draft_noise i_p0_draft_blowCount i_p0_draft_judgeCount i_p0_laid_rounds i_p0_laid_home i_p0_laid_noise i_p0_laid_blowCount i_p0_laid_judgeCount i_p0_reader_place f_p0_draft_blows f_p0_draft_downs f_p0_draft_forward f_p0_draft_judges f_p0_draft_taken f_p0_laid_blows f_p0_laid_downs f_p0_laid_forward f_p0_laid_judges f_p0_laid_leads f_p0_laid_seenBy f_p0_laid_sums f_p0_laid_taken f_p0_notes_delays f_p0_reader_numbers n 1 (nI (k + 1)) f (nI (txtL (its ++ [it])).length) bytes' b' j := by
  obtain ⟨y, hy⟩ := cell_s sX hL (i := 1 + k) (by omega) (c := ((0 : Int32) + 1) + nI k) (by rw [show (0 : Int32) + 1 = nI 1 from rfl, n_add])
  obtain ⟨r0, h0, e0⟩ := some_s y (c := nI R + 1) (n := R + 1) (nI_1 R) (by omega) (by omega)
  have h1 : ∃ r1, r1 < 180 ∧ ∀ {β : Type} (F : Int32 → Option β), (if ((y >>> ((4 : Int32) &&& 31)) &&& 3) = 0 then ((mL_some (y >>> ((6 : Int32) &&& 31)) 15).bind fun o => F (165 + o)) else ((mL_some (y >>> ((6 : Int32) &&& 31)) 24).bind fun o => F o)) = F (nI r1) := by
    by_cases c : ((y >>> ((4 : Int32) &&& 31)) &&& 3) = 0
    · obtain ⟨r, hr, e⟩ := some_s (y >>> ((6 : Int32) &&& 31)) (c := 15) (n := 15) rfl (by omega) (by omega)
      exact ⟨165 + r, by omega, fun F => by rw [if_pos c, e, b_some, n_lit 165, n_add]⟩
    · obtain ⟨r, hr, e⟩ := some_s (y >>> ((6 : Int32) &&& 31)) (c := 24) (n := 24) rfl (by omega) (by omega)
      exact ⟨r, by omega, fun F => by rw [if_neg c, e, b_some]⟩
  obtain ⟨r1, h1, e1⟩ := h1
  obtain ⟨r2, h2, e2⟩ := and_one (y >>> ((11 : Int32) &&& 31))
  obtain ⟨r3, h3, e3⟩ := some_s (y >>> ((12 : Int32) &&& 31)) (c := 9) (n := 9) rfl (by omega) (by omega)
  obtain ⟨r4, h4, e4⟩ := some_s (y >>> ((16 : Int32) &&& 31)) (c := 12) (n := 12) rfl (by omega) (by omega)
  have hin : inR 1 0 5 (vL [r0, r1, r2, 1 + r3, r4]) := by
    intro i _ hi
    rcases (show i = 0 ∨ i = 1 ∨ i = 2 ∨ i = 3 ∨ i = 4 by omega) with rfl | rfl | rfl | rfl | rfl
    · exact ⟨Nat.zero_le _, by show r0 ≤ 11; omega⟩
    · exact ⟨Nat.zero_le _, by show r1 ≤ 179; omega⟩
    · exact ⟨Nat.zero_le _, by show r2 ≤ 1; omega⟩
    · exact ⟨by show 1 ≤ 1 + r3; omega, by show 1 + r3 ≤ 9; omega⟩
    · exact ⟨Nat.zero_le _, by show r4 ≤ 11; omega⟩
  have hil : (itemL (98, 5, vL [r0, r1, r2, 1 + r3, r4])).length ≤ 14 := by
    show (sepF (vL [r0, r1, r2, 1 + r3, r4]) 0 5).length + 1 ≤ 14
    rw [len_sep, len_sep, len_sep, len_sep, len_sep]
    have l0 := len_num (v := r0) (by omega)
    have l1 := numL_len r1
    have l2 := len_num (v := r2) (by omega)
    have l3 := len_num (v := 1 + r3) (by omega)
    have l4 := len_num2 (v := r4) (by omega)
    show (numL r0).length + ((numL r1).length + ((numL r2).length + ((numL (1 + r3)).length + ((numL r4).length + (0 + 1) + 1) + 1) + 1) + 1) + 1 ≤ 14
    omega
  have hl2 : (txtL (its ++ [(98, 5, vL [r0, r1, r2, 1 + r3, r4])])).length = (txtL its).length + (itemL (98, 5, vL [r0, r1, r2, 1 + r3, r4])).length := by rw [txtL_app, List.length_append, txtL_one]
  refine ⟨(98, 5, vL [r0, r1, r2, 1 + r3, r4]), addB a (vL [r0, r1, r2, 1 + r3, r4]), Run_one hr (Or.inr (Or.inl ⟨rfl, rfl, hin, by omega, rfl⟩)), by show aB a + 1 = k + 1; omega, rfl, rfl, rfl, rfl, by omega, ?_⟩
  intro i_p0_keptCount i_p0_draft_rounds i_p0_draft_home i_p0_draft_noise i_p0_draft_blowCount i_p0_draft_judgeCount i_p0_laid_rounds i_p0_laid_home i_p0_laid_noise i_p0_laid_blowCount i_p0_laid_judgeCount i_p0_reader_place f_p0_draft_blows f_p0_draft_downs f_p0_draft_forward f_p0_draft_judges f_p0_draft_taken f_p0_laid_blows f_p0_laid_downs f_p0_laid_forward f_p0_laid_judges f_p0_laid_leads f_p0_laid_seenBy f_p0_laid_sums f_p0_laid_taken f_p0_notes_delays f_p0_reader_numbers n f len bytes b j hT f0 f2
  have hv : ∀ i, i < 5 → vL [r0, r1, r2, 1 + r3, r4] i < 1000 := fun i hi => by
    have h9 := (hin i (by omega) hi).2
    have h8 := (tab12_s (1 + i) (by omega)).2.2.1
    omega
  obtain ⟨b', i1, i2⟩ := item_s (l := 98) (M := 5) (vL [r0, r1, r2, 1 + r3, r4]) (by omega) (by omega) hv hT (by omega)
  rw [show txtL its ++ itemL (98, 5, vL [r0, r1, r2, 1 + r3, r4]) = txtL (its ++ [(98, 5, vL [r0, r1, r2, 1 + r3, r4])]) by rw [txtL_app, txtL_one]] at i1 i2
  have g0 : (5 : Int32) * nI k = nI (5 * k) := n_mul 5 k
  have g1 : nI (5 * k) + (1 : Int32) = nI (5 * k + 1) := n_add _ 1
  have g2 : nI (5 * k) + (2 : Int32) = nI (5 * k + 2) := n_add _ 2
  have g3 : nI (5 * k) + (3 : Int32) = nI (5 * k + 3) := n_add _ 3
  have g4 : nI (5 * k) + (4 : Int32) = nI (5 * k + 4) := n_add _ 4
  have g5 : (1 : Int32) + nI r3 = nI (1 + r3) := n_add 1 r3
  have i1 : mL_item 98 5 (nI r0) (nI r1) (nI r2) (nI (1 + r3)) (nI r4) 0 0 len bytes = some (1, b', nI (txtL (its ++ [(98, 5, vL [r0, r1, r2, 1 + r3, r4])])).length) := i1
  refine ⟨upd (upd (upd (upd (upd b (5 * k) (nI r0)) (5 * k + 1) (nI r1)) (5 * k + 2) (nI r2)) (5 * k + 3) (nI (1 + r3))) (5 * k + 4) (nI r4), b', i2, ?_⟩
  rw [eL_fight_p1t6_124]
  unfold mL_fight_p1t6_B124
  rw [show (2 : Int32).toNatClampNeg = 2 from rfl, f2, if_neg (fun hh => absurd ((n_le (by omega) (by omega)).mp hh) (by omega)), hy, b_some, show (0 : Int32).toNatClampNeg = 0 from rfl, f0, e0, b_some, g0, gi_n (by omega) (by omega), lb_d, n_cl (by omega), g1]
  refine (e1 (fun o => mL_fight_p1t6_B205 sL sX 0 i_p0_keptCount i_p0_draft_rounds i_p0_draft_home i_p0_draft_noise i_p0_draft_blowCount i_p0_draft_judgeCount i_p0_laid_rounds i_p0_laid_home i_p0_laid_noise i_p0_laid_blowCount i_p0_laid_judgeCount i_p0_reader_place f_p0_draft_blows f_p0_draft_downs f_p0_draft_forward f_p0_draft_judges f_p0_draft_taken f_p0_laid_blows f_p0_laid_downs f_p0_laid_forward f_p0_laid_judges f_p0_laid_leads f_p0_laid_seenBy f_p0_laid_sums f_p0_laid_taken f_p0_notes_delays f_p0_reader_numbers (mL_fight_p1t6_L124 sL sX 0 i_p0_keptCount i_p0_draft_rounds i_p0_draft_home i_p0_draft_noise i_p0_draft_blowCount i_p0_draft_judgeCount i_p0_laid_rounds i_p0_laid_home i_p0_laid_noise i_p0_laid_blowCount i_p0_laid_judgeCount i_p0_reader_place f_p0_draft_blows f_p0_draft_downs f_p0_draft_forward f_p0_draft_judges f_p0_draft_taken f_p0_laid_blows f_p0_laid_downs f_p0_laid_forward f_p0_laid_judges f_p0_laid_leads f_p0_laid_seenBy f_p0_laid_sums f_p0_laid_taken f_p0_notes_delays f_p0_reader_numbers n) 1 (nI k) y (nI (5 * k + 1)) o f len bytes (upd b (5 * k) (nI r0)) j)).trans ?_
  show mL_fight_p1t6_B205 sL sX 0 i_p0_keptCount i_p0_draft_rounds i_p0_draft_home i_p0_draft_noise i_p0_draft_blowCount i_p0_draft_judgeCount i_p0_laid_rounds i_p0_laid_home i_p0_laid_noise i_p0_laid_blowCount i_p0_laid_judgeCount i_p0_reader_place f_p0_draft_blows f_p0_draft_downs f_p0_draft_forward f_p0_draft_judges f_p0_draft_taken f_p0_laid_blows f_p0_laid_downs f_p0_laid_forward f_p0_laid_judges f_p0_laid_leads f_p0_laid_seenBy f_p0_laid_sums f_p0_laid_taken f_p0_notes_delays f_p0_reader_numbers (mL_fight_p1t6_L124 sL sX 0 i_p0_keptCount i_p0_draft_rounds i_p0_draft_home i_p0_draft_noise i_p0_draft_blowCount i_p0_draft_judgeCount i_p0_laid_rounds i_p0_laid_home i_p0_laid_noise i_p0_laid_blowCount i_p0_laid_judgeCount i_p0_reader_place f_p0_draft_blows f_p0_draft_downs f_p0_draft_forward f_p0_draft_judges f_p0_draft_taken f_p0_laid_blows f_p0_laid_downs f_p0_laid_forward f_p0_laid_judges f_p0_laid_leads f_p0_laid_seenBy f_p0_laid_sums f_p0_laid_taken f_p0_notes_delays f_p0_reader_numbers n) 1 (nI k) y (nI (5 * k + 1)) (nI r1) f len bytes (upd b (5 * k) (nI r0)) j = _
  unfold mL_fight_p1t6_B205
  rw [g0, g1, g2, g3, g4, gi_n (by omega) (by omega), lb_d, gi_n (by omega) (by omega), lb_d, e2, e3, b_some, g5, gi_n (by omega) (by omega), lb_d, e4, b_some, gi_n (by omega) (by omega), lb_d, if_neg (show ¬ (1 : Int32) = 0 by decide), gi_n (by omega) (by omega), gi_n (by omega) (by omega), gi_n (by omega) (by omega), gi_n (by omega) (by omega), gi_n (by omega) (by omega), n_cl (by omega), n_cl (by omega), n_cl (by omega), n_cl (by omega), n_cl (by omega)]
  have u0 : upd (upd (upd (upd (upd b (5 * k) (nI r0)) (5 * k + 1) (nI r1)) (5 * k + 2) (nI r2)) (5 * k + 3) (nI (1 + r3))) (5 * k + 4) (nI r4) (5 * k) = nI r0 := by rw [upd_n (by omega), upd_n (by omega), upd_n (by omega), upd_n (by omega), upd_s]
  have u1 : upd (upd (upd (upd (upd b (5 * k) (nI r0)) (5 * k + 1) (nI r1)) (5 * k + 2) (nI r2)) (5 * k + 3) (nI (1 + r3))) (5 * k + 4) (nI r4) (5 * k + 1) = nI r1 := by rw [upd_n (by omega), upd_n (by omega), upd_n (by omega), upd_s]
  have u2 : upd (upd (upd (upd (upd b (5 * k) (nI r0)) (5 * k + 1) (nI r1)) (5 * k + 2) (nI r2)) (5 * k + 3) (nI (1 + r3))) (5 * k + 4) (nI r4) (5 * k + 2) = nI r2 := by rw [upd_n (by omega), upd_n (by omega), upd_s]
  have u3 : upd (upd (upd (upd (upd b (5 * k) (nI r0)) (5 * k + 1) (nI r1)) (5 * k + 2) (nI r2)) (5 * k + 3) (nI (1 + r3))) (5 * k + 4) (nI r4) (5 * k + 3) = nI (1 + r3) := by rw [upd_n (by omega), upd_s]
  have u4 : upd (upd (upd (upd (upd b (5 * k) (nI r0)) (5 * k + 1) (nI r1)) (5 * k + 2) (nI r2)) (5 * k + 3) (nI (1 + r3))) (5 * k + 4) (nI r4) (5 * k + 4) = nI r4 := by rw [upd_s]
  rw [u0, u1, u2, u3, u4, i1, b_some, if_neg (show ¬ (1 : Int32) = 0 by decide), nI_1, lb_d]
theorem blows_loop {sL : Nat} {sX : Nat → Int32} (hL : sL ≤ 260) {R B : Nat} (hR : 1 ≤ R ∧ R ≤ 5) (hB : B ≤ 12) : ∀ (d k : Nat) (its : List IT) (a : AT), k + d = B → Run clrA its a → aB a = k → (txtL its).length ≤ 8 + 14 * k → ∃ its' a', Run clrA its' a' ∧ aJ a' = aJ a ∧ aR a' = aR a ∧ dn a' = dn a ∧ tk a' = tk a ∧ (txtL its').length ≤ 8 + 14 * B ∧ ∀ (i_p0_keptCount : Int32) (i_p0_draft_rounds : Int32) (i_p0_draft_home : Int32) (i_p0_draft_noise : Int32) (i_p0_draft_blowCount : Int32) (i_p0_draft_judgeCount : Int32) (i_p0_laid_rounds : Int32) (i_p0_laid_home : Int32) (i_p0_laid_noise : Int32) (i_p0_laid_blowCount : Int32) (i_p0_laid_judgeCount : Int32) (i_p0_reader_place : Int32) (f_p0_draft_blows : Nat → Int32) (f_p0_draft_downs : Nat → Int32) (f_p0_draft_forward : Nat → Int32) (f_p0_draft_judges : Nat → Int32) (f_p0_draft_taken : Nat → Int32) (f_p0_laid_blows : Nat → Int32) (f_p0_laid_downs : Nat → Int32) (f_p0_laid_forward : Nat → Int32) (f_p0_laid_judges : Nat → Int32) (f_p0_laid_leads : Nat → Int32) (f_p0_laid_seenBy : Nat → Int32) (f_p0_laid_sums : Nat → Int32) (f_p0_laid_taken : Nat → Int32) (f_p0_notes_delays : Nat → Int32) (f_p0_reader_numbers : Nat → Int32) (n : Nat) (f : Nat → Int32) (len : Int32) (bytes b j : Nat → Int32), TC (txtL its) len bytes → f 0 = nI R → f 2 = nI B → ∃ b' bytes', TC (txtL its') (nI (txtL its').length) bytes' ∧ mL_fight_p1t6_L124 sL sX 0 i_p0_keptCount i_p0_draft_rounds i_p0_draft_home i_p0_draft_noise i_p0_draft_blowCount i_p0_draft_judgeCount i_p0_laid_rounds i_p0_laid_home i_p0_laid_noise i_p0_laid_blowCount i_p0_laid_judgeCount i_p0_reader_place f_p0_draft_blows f_p0_draft_downs f_p0_draft_forward f_p0_draft_judges f_p0_draft_taken f_p0_laid_blows f_p0_laid_downs f_p0_laid_forward f_p0_laid_judges f_p0_laid_leads f_p0_laid_seenBy f_p0_laid_sums f_p0_laid_taken f_p0_notes_delays f_p0_reader_numbers (d + n) 1 (nI k) f len bytes b j = mL_fight_p1t6_L124 sL sX 0 i_p0_keptCount i_p0_draft_rounds i_p0_draft_home i_p0_draft_noise i_p0_draft_blowCount i_p0_draft_judgeCount i_p0_laid_rounds i_p0_laid_home i_p0_laid_noise i_p0_laid_blowCount i_p0_laid_judgeCount i_p0_reader_place f_p0_draft_blows f_p0_draft_downs f_p0_draft_forward f_p0_draft_judges f_p0_draft_taken f_p0_laid_blows f_p0_laid_downs f_p0_laid_forward f_p0_laid_judges f_p0_laid_leads f_p0_laid_seenBy f_p0_laid_sums f_p0_laid_taken f_p0_notes_delays f_p0_reader_numbers n 1 (nI B) f (nI (txtL its').length) bytes' b' j := by
  intro d
  induction d with
  | zero =>
    intro k its a hk hr hab hlen
    refine ⟨its, a, hr, rfl, rfl, rfl, rfl, by omega, ?_⟩
    intro i_p0_keptCount i_p0_draft_rounds i_p0_draft_home i_p0_draft_noise i_p0_draft_blowCount i_p0_draft_judgeCount i_p0_laid_rounds i_p0_laid_home i_p0_laid_noise i_p0_laid_blowCount i_p0_laid_judgeCount i_p0_reader_place f_p0_draft_blows f_p0_draft_downs f_p0_draft_forward f_p0_draft_judges f_p0_draft_taken f_p0_laid_blows f_p0_laid_downs f_p0_laid_forward f_p0_laid_judges f_p0_laid_leads f_p0_laid_seenBy f_p0_laid_sums f_p0_laid_taken f_p0_notes_delays f_p0_reader_numbers n f len bytes b j hT f0 f2
    have hT2 := hT
    obtain ⟨h1, rfl, h3⟩ := hT2
    exact ⟨b, bytes, hT, by rw [Nat.zero_add, show k = B by omega]⟩
  | succ d ih =>
    intro k its a hk hr hab hlen
    obtain ⟨it, c, s1, s2, s3, s4, s5, s6, s7, s8⟩ := blow_step hL hR (show k < B by omega) hB hr hab hlen
    obtain ⟨its', a', t1, t2, t3, t4, t5, t6, t7⟩ := ih (k + 1) (its ++ [it]) c (by omega) s1 s2 s7
    refine ⟨its', a', t1, t2.trans s3, t3.trans s4, t4.trans s5, t5.trans s6, t6, ?_⟩
    intro i_p0_keptCount i_p0_draft_rounds i_p0_draft_home i_p0_draft_noise i_p0_draft_blowCount i_p0_draft_judgeCount i_p0_laid_rounds i_p0_laid_home i_p0_laid_noise i_p0_laid_blowCount i_p0_laid_judgeCount i_p0_reader_place f_p0_draft_blows f_p0_draft_downs f_p0_draft_forward f_p0_draft_judges f_p0_draft_taken f_p0_laid_blows f_p0_laid_downs f_p0_laid_forward f_p0_laid_judges f_p0_laid_leads f_p0_laid_seenBy f_p0_laid_sums f_p0_laid_taken f_p0_notes_delays f_p0_reader_numbers n f len bytes b j hT f0 f2
    obtain ⟨b1, y1, e1, e2⟩ := s8 i_p0_keptCount i_p0_draft_rounds i_p0_draft_home i_p0_draft_noise i_p0_draft_blowCount i_p0_draft_judgeCount i_p0_laid_rounds i_p0_laid_home i_p0_laid_noise i_p0_laid_blowCount i_p0_laid_judgeCount i_p0_reader_place f_p0_draft_blows f_p0_draft_downs f_p0_draft_forward f_p0_draft_judges f_p0_draft_taken f_p0_laid_blows f_p0_laid_downs f_p0_laid_forward f_p0_laid_judges f_p0_laid_leads f_p0_laid_seenBy f_p0_laid_sums f_p0_laid_taken f_p0_notes_delays f_p0_reader_numbers (d + n) f len bytes b j hT f0 f2
    obtain ⟨b2, y2, e3, e4⟩ := t7 i_p0_keptCount i_p0_draft_rounds i_p0_draft_home i_p0_draft_noise i_p0_draft_blowCount i_p0_draft_judgeCount i_p0_laid_rounds i_p0_laid_home i_p0_laid_noise i_p0_laid_blowCount i_p0_laid_judgeCount i_p0_reader_place f_p0_draft_blows f_p0_draft_downs f_p0_draft_forward f_p0_draft_judges f_p0_draft_taken f_p0_laid_blows f_p0_laid_downs f_p0_laid_forward f_p0_laid_judges f_p0_laid_leads f_p0_laid_seenBy f_p0_laid_sums f_p0_laid_taken f_p0_notes_delays f_p0_reader_numbers n f _ y1 b1 j e1 f0 f2
    exact ⟨b2, y2, e3, by rw [show d + 1 + n = d + n + 1 by omega, e2, e4]⟩
theorem six_step {sL : Nat} {sX : Nat → Int32} (hL : sL ≤ 260) {R k L0 : Nat} (hR : 1 ≤ R ∧ R ≤ 5) (hk : k < 6) (h400 : L0 ≤ 400) {its : List IT} {a : AT} (hr : Run clrA its a) (ha : ∀ i, dn a i ≤ k ∧ tk a i ≤ k) (hlen : (txtL its).length ≤ L0 + 7 * k) : ∃ its2 c, Run clrA (its ++ its2) c ∧ aJ c = aJ a ∧ aR c = aR a ∧ (∀ i, dn c i ≤ k + 1 ∧ tk c i ≤ k + 1) ∧ (txtL (its ++ its2)).length ≤ L0 + 7 * (k + 1) ∧ ∀ (i_p0_keptCount : Int32) (i_p0_draft_rounds : Int32) (i_p0_draft_home : Int32) (i_p0_draft_noise : Int32) (i_p0_draft_blowCount : Int32) (i_p0_draft_judgeCount : Int32) (i_p0_laid_rounds : Int32) (i_p0_laid_home : Int32) (i_p0_laid_noise : Int32) (i_p0_laid_blowCount : Int32) (i_p0_laid_judgeCount : Int32) (i_p0_reader_place : Int32) (f_p0_draft_blows : Nat → Int32) (f_p0_draft_downs : Nat → Int32) (f_p0_draft_forward : Nat → Int32) (f_p0_draft_judges : Nat → Int32) (f_p0_draft_taken : Nat → Int32) (f_p0_laid_blows : Nat → Int32) (f_p0_laid_downs : Nat → Int32) (f_p0_laid_forward : Nat → Int32) (f_p0_laid_judges : Nat → Int32) (f_p0_laid_leads : Nat → Int32) (f_p0_laid_seenBy : Nat → Int32) (f_p0_laid_sums : Nat → Int32) (f_p0_laid_taken : Nat → Int32) (f_p0_notes_delays : Nat → Int32) (f_p0_reader_numbers : Nat → Int32) (n : Nat) (f : Nat → Int32) (len : Int32) (bytes b j : Nat → Int32), TC (txtL its) len bytes → f 0 = nI R → (∀ i, i < 10 → f (15 + i) = nI (dn a i) ∧ f (25 + i) = nI (tk a i)) → ∃ f' bytes', f' 0 = f 0 ∧ f' 1 = f 1 ∧ (∀ i, i < 10 → f' (15 + i) = nI (dn c i) ∧ f' (25 + i) = nI (tk c i)) ∧ TC (txtL (its ++ its2)) (nI (txtL (its ++ its2)).length) bytes' ∧ mL_fight_p1t6_L338 sL sX 0 i_p0_keptCount i_p0_draft_rounds i_p0_draft_home i_p0_draft_noise i_p0_draft_blowCount i_p0_draft_judgeCount i_p0_laid_rounds i_p0_laid_home i_p0_laid_noise i_p0_laid_blowCount i_p0_laid_judgeCount i_p0_reader_place f_p0_draft_blows f_p0_draft_downs f_p0_draft_forward f_p0_draft_judges f_p0_draft_taken f_p0_laid_blows f_p0_laid_downs f_p0_laid_forward f_p0_laid_judges f_p0_laid_leads f_p0_laid_seenBy f_p0_laid_sums f_p0_laid_taken f_p0_notes_delays f_p0_reader_numbers (n + 1) 1 (nI k) f len bytes b j = mL_fight_p1t6_L338 sL sX 0 i_p0_keptCount i_p0_draft_rounds i_p0_draft_home i_p0_draft_noise i_p0_draft_blowCount i_p0_draft_judgeCount i_p0_laid_rounds i_p0_laid_home i_p0_laid_noise i_p0_laid_blowCount i_p0_laid_judgeCount i_p0_reader_place f_p0_draft_blows f_p0_draft_downs f_p0_draft_forward f_p0_draft_judges f_p0_draft_taken f_p0_laid_blows f_p0_laid_downs f_p0_laid_forward f_p0_laid_judges f_p0_laid_leads f_p0_laid_seenBy f_p0_laid_sums f_p0_laid_taken f_p0_notes_delays f_p0_reader_numbers n 1 (nI (k + 1)) f' (nI (txtL (its ++ its2)).length) bytes' b j := by
  obtain ⟨y, hy⟩ := cell_s sX hL (i := 13 + k) (by omega) (c := ((0 : Int32) + 13) + nI k) (by rw [show (0 : Int32) + 13 = nI 13 from rfl, n_add])
  obtain ⟨r, hrR, er⟩ := some_s y (c := nI R) (n := R) rfl (by omega) (by omega)
  obtain ⟨c, hc, ec⟩ := and_one (y >>> ((3 : Int32) &&& 31))
  obtain ⟨q, hq, eq⟩ := some_s (y >>> ((4 : Int32) &&& 31)) (c := 3) (n := 3) rfl (by omega) (by omega)
  obtain ⟨v, hv, ev⟩ := some_s (y >>> ((6 : Int32) &&& 31)) (c := 10) (n := 10) rfl (by omega) (by omega)
  have hat : (2 : Int32) * nI r + nI c = nI (2 * r + c) := by rw [n_lit 2, n_mul, n_add]
  have hm : nI (2 * r + c) - nI (2 * r + c) / (2 : Int32) * (2 : Int32) = nI c := by rw [n_lit 2, pk_rem (by omega) (by omega) (by omega), show (2 * r + c) % 2 = c by omega]
  have hd : nI (2 * r + c) / (2 : Int32) = nI r := by rw [n_lit 2, pk_div (by omega) (by omega) (by omega), show (2 * r + c) / 2 = r by omega]
  have hil2 : ∀ l : Nat, (itemL (l, 2, vL [r, c])).length ≤ 7 := fun l => by
    show (sepF (vL [r, c]) 0 2).length + 1 ≤ 7
    rw [len_sep, len_sep]
    have l0 := len_num (v := r) (by omega)
    have l1 := len_num (v := c) (by omega)
    show (numL r).length + ((numL c).length + (0 + 1) + 1) + 1 ≤ 7
    omega
  have hin2 : ∀ q0, (q0 = 9 ∨ q0 = 11) → inR q0 0 2 (vL [r, c]) := fun q0 h0 i _ hi => by
    rcases (show i = 0 ∨ i = 1 by omega) with rfl | rfl
    · rcases h0 with rfl | rfl
      · exact ⟨Nat.zero_le _, by show r ≤ 11; omega⟩
      · exact ⟨Nat.zero_le _, by show r ≤ 11; omega⟩
    · rcases h0 with rfl | rfl
      · exact ⟨Nat.zero_le _, by show c ≤ 1; omega⟩
      · exact ⟨Nat.zero_le _, by show c ≤ 1; omega⟩
  have hv2 : ∀ i, i < 2 → vL [r, c] i < 1000 := fun i hi => by
    rcases (show i = 0 ∨ i = 1 by omega) with rfl | rfl
    · show r < 1000; omega
    · show c < 1000; omega
  rcases (show q = 0 ∨ q = 1 ∨ q = 2 by omega) with rfl | rfl | rfl
  · have hin : inR 6 0 3 (vL [r, c, v]) := by
      intro i _ hi
      rcases (show i = 0 ∨ i = 1 ∨ i = 2 by omega) with rfl | rfl | rfl
      · exact ⟨Nat.zero_le _, by show r ≤ 11; omega⟩
      · exact ⟨Nat.zero_le _, by show c ≤ 1; omega⟩
      · exact ⟨Nat.zero_le _, by show v ≤ 9; omega⟩
    have hil : (itemL (102, 3, vL [r, c, v])).length ≤ 7 := by
      show (sepF (vL [r, c, v]) 0 3).length + 1 ≤ 7
      rw [len_sep, len_sep, len_sep]
      have l0 := len_num (v := r) (by omega)
      have l1 := len_num (v := c) (by omega)
      have l2 := len_num (v := v) (by omega)
      show (numL r).length + ((numL c).length + ((numL v).length + (0 + 1) + 1) + 1) + 1 ≤ 7
      omega
    have hl2 : (txtL (its ++ [(102, 3, vL [r, c, v])])).length = (txtL its).length + (itemL (102, 3, vL [r, c, v])).length := by rw [txtL_app, List.length_append, txtL_one]
    refine ⟨[(102, 3, vL [r, c, v])], setF a (2 * r + c) v, Run_one hr (Or.inr (Or.inr (Or.inl ⟨rfl, rfl, hin, rfl⟩))), rfl, rfl, fun i => ⟨by have := (ha i).1; show dn a i ≤ k + 1; omega, by have := (ha i).2; show tk a i ≤ k + 1; omega⟩, by omega, ?_⟩
    intro i_p0_keptCount i_p0_draft_rounds i_p0_draft_home i_p0_draft_noise i_p0_draft_blowCount i_p0_draft_judgeCount i_p0_laid_rounds i_p0_laid_home i_p0_laid_noise i_p0_laid_blowCount i_p0_laid_judgeCount i_p0_reader_place f_p0_draft_blows f_p0_draft_downs f_p0_draft_forward f_p0_draft_judges f_p0_draft_taken f_p0_laid_blows f_p0_laid_downs f_p0_laid_forward f_p0_laid_judges f_p0_laid_leads f_p0_laid_seenBy f_p0_laid_sums f_p0_laid_taken f_p0_notes_delays f_p0_reader_numbers n f len bytes b j hT f0 hf
    obtain ⟨b', i1, i2⟩ := item_s (l := 102) (M := 3) (vL [r, c, v]) (by omega) (by omega) (fun i hi => by
      rcases (show i = 0 ∨ i = 1 ∨ i = 2 by omega) with rfl | rfl | rfl
      · show r < 1000; omega
      · show c < 1000; omega
      · show v < 1000; omega) hT (by omega)
    rw [show txtL its ++ itemL (102, 3, vL [r, c, v]) = txtL (its ++ [(102, 3, vL [r, c, v])]) by rw [txtL_app, txtL_one]] at i1 i2
    have i1 : mL_item 102 3 (nI r) (nI c) (nI v) 0 0 0 0 len bytes = some (1, b', nI (txtL (its ++ [(102, 3, vL [r, c, v])])).length) := i1
    have g5 : (5 : Int32) + nI (2 * r + c) = nI (5 + (2 * r + c)) := n_add 5 _
    refine ⟨upd f (5 + (2 * r + c)) (nI v), b', upd_n (by omega), upd_n (by omega), fun i hi => ⟨(upd_n (by omega)).trans (hf i hi).1, (upd_n (by omega)).trans (hf i hi).2⟩, i2, ?_⟩
    rw [eL_fight_p1t6_338]
    unfold mL_fight_p1t6_B338
    rw [if_neg (show ¬ (6 : Int32) ≤ nI k from fun hh => absurd ((n_le (a := 6) (by omega) (by omega)).mp hh) (by omega)), hy, b_some, show (0 : Int32).toNatClampNeg = 0 from rfl, f0, er, b_some, ec, hat, lb_d, eq, b_some, ev, b_some, if_pos (show nI 0 = 0 from rfl), g5, gi_n (by omega) (by omega), lb_d, n_cl (by omega), if_neg (show ¬ (1 : Int32) = 0 by decide), hm, hd, i1, b_some, if_neg (show ¬ (1 : Int32) = 0 by decide)]
    unfold mL_fight_p1t6_B446
    rw [nI_1, lb_d]
  · have hb : (5 : Int32) + 10 * nI 1 = nI 15 := rfl
    have hb1 : (6 : Int32) + 10 * nI 1 = nI 16 := rfl
    have hr2 : nI r * (2 : Int32) = nI (2 * r) := by rw [n_lit 2, n_mul, Nat.mul_comm]
    by_cases cs : dn a (2 * r) + dn a (2 * r + 1) < 3
    · have hl2 : (txtL (its ++ [(107, 2, vL [r, c])])).length = (txtL its).length + (itemL (107, 2, vL [r, c])).length := by rw [txtL_app, List.length_append, txtL_one]
      have hil := hil2 107
      refine ⟨[(107, 2, vL [r, c])], setD a (2 * r + c), Run_one hr (Or.inr (Or.inr (Or.inr (Or.inl ⟨rfl, rfl, hin2 _ (by omega), cs, rfl⟩)))), rfl, rfl, fun i => ?_, by omega, ?_⟩
      · have h1 := (ha i).1
        have h2 := (ha i).2
        exact ⟨by show (if i = 2 * r + c then dn a i + 1 else dn a i) ≤ k + 1; split <;> omega, by show tk a i ≤ k + 1; omega⟩
      intro i_p0_keptCount i_p0_draft_rounds i_p0_draft_home i_p0_draft_noise i_p0_draft_blowCount i_p0_draft_judgeCount i_p0_laid_rounds i_p0_laid_home i_p0_laid_noise i_p0_laid_blowCount i_p0_laid_judgeCount i_p0_reader_place f_p0_draft_blows f_p0_draft_downs f_p0_draft_forward f_p0_draft_judges f_p0_draft_taken f_p0_laid_blows f_p0_laid_downs f_p0_laid_forward f_p0_laid_judges f_p0_laid_leads f_p0_laid_seenBy f_p0_laid_sums f_p0_laid_taken f_p0_notes_delays f_p0_reader_numbers n f len bytes b j hT f0 hf
      obtain ⟨b', i1, i2⟩ := item_s (l := 107) (M := 2) (vL [r, c]) (by omega) (by omega) hv2 hT (by omega)
      rw [show txtL its ++ itemL (107, 2, vL [r, c]) = txtL (its ++ [(107, 2, vL [r, c])]) by rw [txtL_app, txtL_one]] at i1 i2
      have i1 : mL_item 107 2 (nI r) (nI c) 0 0 0 0 0 len bytes = some (1, b', nI (txtL (its ++ [(107, 2, vL [r, c])])).length) := i1
      have d0 := (ha (2 * r)).1
      have d1 := (ha (2 * r + 1)).1
      have d2 := (ha (2 * r + c)).1
      refine ⟨upd f (15 + (2 * r + c)) (nI (dn a (2 * r + c) + 1)), b', upd_n (by omega), upd_n (by omega), fun i hi => ?_, i2, ?_⟩
      · refine ⟨?_, (upd_n (by omega)).trans (hf i hi).2⟩
        show upd f (15 + (2 * r + c)) (nI (dn a (2 * r + c) + 1)) (15 + i) = nI (if i = 2 * r + c then dn a i + 1 else dn a i)
        by_cases hi2 : i = 2 * r + c
        · rw [if_pos hi2, hi2, upd_s]
        · rw [if_neg hi2, upd_n (by omega)]
          exact (hf i hi).1
      rw [eL_fight_p1t6_338]
      unfold mL_fight_p1t6_B338
      rw [if_neg (show ¬ (6 : Int32) ≤ nI k from fun hh => absurd ((n_le (a := 6) (by omega) (by omega)).mp hh) (by omega)), hy, b_some, show (0 : Int32).toNatClampNeg = 0 from rfl, f0, er, b_some, ec, hat, lb_d, eq, b_some, ev, b_some, if_neg (show ¬ nI 1 = 0 by decide), hd, hr2, hb, hb1, n_add, n_add, n_add, gi_n (by omega) (by omega), gi_n (by omega) (by omega), n_cl (by omega), n_cl (by omega), (hf (2 * r) (by omega)).1, show f (16 + 2 * r) = nI (dn a (2 * r + 1)) by rw [show 16 + 2 * r = 15 + (2 * r + 1) by omega]; exact (hf _ (by omega)).1, n_add, if_neg (show ¬ (3 : Int32) ≤ nI (dn a (2 * r) + dn a (2 * r + 1)) from fun hh => absurd ((n_le (a := 3) (by omega) (by omega)).mp hh) (by omega)), lb_d, gi_n (by omega) (by omega), gi_n (by omega) (by omega), n_cl (by omega), (hf (2 * r + c) (by omega)).1, nI_1, lb_d, if_neg (show ¬ (1 : Int32) = 0 by decide), if_pos (show nI 1 = (1 : Int32) from rfl)]
      unfold mL_fight_p1t6_B524
      rw [hm, hd, i1, b_some, if_neg (show ¬ (1 : Int32) = 0 by decide), nI_1, lb_d]
    · refine ⟨[], a, by rw [List.append_nil]; exact hr, rfl, rfl, fun i => ⟨by have := (ha i).1; omega, by have := (ha i).2; omega⟩, by rw [List.append_nil]; omega, ?_⟩
      intro i_p0_keptCount i_p0_draft_rounds i_p0_draft_home i_p0_draft_noise i_p0_draft_blowCount i_p0_draft_judgeCount i_p0_laid_rounds i_p0_laid_home i_p0_laid_noise i_p0_laid_blowCount i_p0_laid_judgeCount i_p0_reader_place f_p0_draft_blows f_p0_draft_downs f_p0_draft_forward f_p0_draft_judges f_p0_draft_taken f_p0_laid_blows f_p0_laid_downs f_p0_laid_forward f_p0_laid_judges f_p0_laid_leads f_p0_laid_seenBy f_p0_laid_sums f_p0_laid_taken f_p0_notes_delays f_p0_reader_numbers n f len bytes b j hT f0 hf
      have d0 := (ha (2 * r)).1
      have d1 := (ha (2 * r + 1)).1
      have hT2 := hT
      obtain ⟨h1, rfl, h3⟩ := hT2
      refine ⟨f, bytes, rfl, rfl, hf, by rw [List.append_nil]; exact hT, ?_⟩
      rw [List.append_nil, eL_fight_p1t6_338]
      unfold mL_fight_p1t6_B338
      rw [if_neg (show ¬ (6 : Int32) ≤ nI k from fun hh => absurd ((n_le (a := 6) (by omega) (by omega)).mp hh) (by omega)), hy, b_some, show (0 : Int32).toNatClampNeg = 0 from rfl, f0, er, b_some, ec, hat, lb_d, eq, b_some, ev, b_some, if_neg (show ¬ nI 1 = 0 by decide), hd, hr2, hb, hb1, n_add, n_add, gi_n (by omega) (by omega), gi_n (by omega) (by omega), n_cl (by omega), n_cl (by omega), (hf (2 * r) (by omega)).1, show f (16 + 2 * r) = nI (dn a (2 * r + 1)) by rw [show 16 + 2 * r = 15 + (2 * r + 1) by omega]; exact (hf _ (by omega)).1, n_add, if_pos (show (3 : Int32) ≤ nI (dn a (2 * r) + dn a (2 * r + 1)) from (n_le (a := 3) (by omega) (by omega)).mpr (by omega)), nI_1, lb_d]
  · have hb : (5 : Int32) + 10 * nI 2 = nI 25 := rfl
    have hb1 : (6 : Int32) + 10 * nI 2 = nI 26 := rfl
    have hr2 : nI r * (2 : Int32) = nI (2 * r) := by rw [n_lit 2, n_mul, Nat.mul_comm]
    by_cases cs : tk a (2 * r) + tk a (2 * r + 1) < 3
    · have hl2 : (txtL (its ++ [(100, 2, vL [r, c])])).length = (txtL its).length + (itemL (100, 2, vL [r, c])).length := by rw [txtL_app, List.length_append, txtL_one]
      have hil := hil2 100
      refine ⟨[(100, 2, vL [r, c])], setT a (2 * r + c), Run_one hr (Or.inr (Or.inr (Or.inr (Or.inr (Or.inl ⟨rfl, rfl, hin2 _ (by omega), cs, rfl⟩))))), rfl, rfl, fun i => ?_, by omega, ?_⟩
      · have h1 := (ha i).1
        have h2 := (ha i).2
        exact ⟨by show dn a i ≤ k + 1; omega, by show (if i = 2 * r + c then tk a i + 1 else tk a i) ≤ k + 1; split <;> omega⟩
      intro i_p0_keptCount i_p0_draft_rounds i_p0_draft_home i_p0_draft_noise i_p0_draft_blowCount i_p0_draft_judgeCount i_p0_laid_rounds i_p0_laid_home i_p0_laid_noise i_p0_laid_blowCount i_p0_laid_judgeCount i_p0_reader_place f_p0_draft_blows f_p0_draft_downs f_p0_draft_forward f_p0_draft_judges f_p0_draft_taken f_p0_laid_blows f_p0_laid_downs f_p0_laid_forward f_p0_laid_judges f_p0_laid_leads f_p0_laid_seenBy f_p0_laid_sums f_p0_laid_taken f_p0_notes_delays f_p0_reader_numbers n f len bytes b j hT f0 hf
      obtain ⟨b', i1, i2⟩ := item_s (l := 100) (M := 2) (vL [r, c]) (by omega) (by omega) hv2 hT (by omega)
      rw [show txtL its ++ itemL (100, 2, vL [r, c]) = txtL (its ++ [(100, 2, vL [r, c])]) by rw [txtL_app, txtL_one]] at i1 i2
      have i1 : mL_item 100 2 (nI r) (nI c) 0 0 0 0 0 len bytes = some (1, b', nI (txtL (its ++ [(100, 2, vL [r, c])])).length) := i1
      have d0 := (ha (2 * r)).2
      have d1 := (ha (2 * r + 1)).2
      have d2 := (ha (2 * r + c)).2
      refine ⟨upd f (25 + (2 * r + c)) (nI (tk a (2 * r + c) + 1)), b', upd_n (by omega), upd_n (by omega), fun i hi => ?_, i2, ?_⟩
      · refine ⟨(upd_n (by omega)).trans (hf i hi).1, ?_⟩
        show upd f (25 + (2 * r + c)) (nI (tk a (2 * r + c) + 1)) (25 + i) = nI (if i = 2 * r + c then tk a i + 1 else tk a i)
        by_cases hi2 : i = 2 * r + c
        · rw [if_pos hi2, hi2, upd_s]
        · rw [if_neg hi2, upd_n (by omega)]
          exact (hf i hi).2
      rw [eL_fight_p1t6_338]
      unfold mL_fight_p1t6_B338
      rw [if_neg (show ¬ (6 : Int32) ≤ nI k from fun hh => absurd ((n_le (a := 6) (by omega) (by omega)).mp hh) (by omega)), hy, b_some, show (0 : Int32).toNatClampNeg = 0 from rfl, f0, er, b_some, ec, hat, lb_d, eq, b_some, ev, b_some, if_neg (show ¬ nI 2 = 0 by decide), hd, hr2, hb, hb1, n_add, n_add, n_add, gi_n (by omega) (by omega), gi_n (by omega) (by omega), n_cl (by omega), n_cl (by omega), (hf (2 * r) (by omega)).2, show f (26 + 2 * r) = nI (tk a (2 * r + 1)) by rw [show 26 + 2 * r = 25 + (2 * r + 1) by omega]; exact (hf _ (by omega)).2, n_add, if_neg (show ¬ (3 : Int32) ≤ nI (tk a (2 * r) + tk a (2 * r + 1)) from fun hh => absurd ((n_le (a := 3) (by omega) (by omega)).mp hh) (by omega)), lb_d, gi_n (by omega) (by omega), gi_n (by omega) (by omega), n_cl (by omega), (hf (2 * r + c) (by omega)).2, nI_1, lb_d, if_neg (show ¬ (1 : Int32) = 0 by decide), if_neg (show ¬ nI 2 = (1 : Int32) by decide)]
      unfold mL_fight_p1t6_B524
      rw [hm, hd, i1, b_some, if_neg (show ¬ (1 : Int32) = 0 by decide), nI_1, lb_d]
    · refine ⟨[], a, by rw [List.append_nil]; exact hr, rfl, rfl, fun i => ⟨by have := (ha i).1; omega, by have := (ha i).2; omega⟩, by rw [List.append_nil]; omega, ?_⟩
      intro i_p0_keptCount i_p0_draft_rounds i_p0_draft_home i_p0_draft_noise i_p0_draft_blowCount i_p0_draft_judgeCount i_p0_laid_rounds i_p0_laid_home i_p0_laid_noise i_p0_laid_blowCount i_p0_laid_judgeCount i_p0_reader_place f_p0_draft_blows f_p0_draft_downs f_p0_draft_forward f_p0_draft_judges f_p0_draft_taken f_p0_laid_blows f_p0_laid_downs f_p0_laid_forward f_p0_laid_judges f_p0_laid_leads f_p0_laid_seenBy f_p0_laid_sums f_p0_laid_taken f_p0_notes_delays f_p0_reader_numbers n f len bytes b j hT f0 hf
      have d0 := (ha (2 * r)).2
      have d1 := (ha (2 * r + 1)).2
      have hT2 := hT
      obtain ⟨h1, rfl, h3⟩ := hT2
      refine ⟨f, bytes, rfl, rfl, hf, by rw [List.append_nil]; exact hT, ?_⟩
      rw [List.append_nil, eL_fight_p1t6_338]
      unfold mL_fight_p1t6_B338
      rw [if_neg (show ¬ (6 : Int32) ≤ nI k from fun hh => absurd ((n_le (a := 6) (by omega) (by omega)).mp hh) (by omega)), hy, b_some, show (0 : Int32).toNatClampNeg = 0 from rfl, f0, er, b_some, ec, hat, lb_d, eq, b_some, ev, b_some, if_neg (show ¬ nI 2 = 0 by decide), hd, hr2, hb, hb1, n_add, n_add, gi_n (by omega) (by omega), gi_n (by omega) (by omega), n_cl (by omega), n_cl (by omega), (hf (2 * r) (by omega)).2, show f (26 + 2 * r) = nI (tk a (2 * r + 1)) by rw [show 26 + 2 * r = 25 + (2 * r + 1) by omega]; exact (hf _ (by omega)).2, n_add, if_pos (show (3 : Int32) ≤ nI (tk a (2 * r) + tk a (2 * r + 1)) from (n_le (a := 3) (by omega) (by omega)).mpr (by omega)), nI_1, lb_d]
theorem six_loop {sL : Nat} {sX : Nat → Int32} (hL : sL ≤ 260) {R L0 : Nat} (hR : 1 ≤ R ∧ R ≤ 5) (h400 : L0 ≤ 400) : ∀ (d k : Nat) (its : List IT) (a : AT), k + d = 6 → Run clrA its a → (∀ i, dn a i ≤ k ∧ tk a i ≤ k) → (txtL its).length ≤ L0 + 7 * k → ∃ its' c, Run clrA its' c ∧ aJ c = aJ a ∧ aR c = aR a ∧ (txtL its').length ≤ L0 + 42 ∧ ∀ (i_p0_keptCount : Int32) (i_p0_draft_rounds : Int32) (i_p0_draft_home : Int32) (i_p0_draft_noise : Int32) (i_p0_draft_blowCount : Int32) (i_p0_draft_judgeCount : Int32) (i_p0_laid_rounds : Int32) (i_p0_laid_home : Int32) (i_p0_laid_noise : Int32) (i_p0_laid_blowCount : Int32) (i_p0_laid_judgeCount : Int32) (i_p0_reader_place : Int32) (f_p0_draft_blows : Nat → Int32) (f_p0_draft_downs : Nat → Int32) (f_p0_draft_forward : Nat → Int32) (f_p0_draft_judges : Nat → Int32) (f_p0_draft_taken : Nat → Int32) (f_p0_laid_blows : Nat → Int32) (f_p0_laid_downs : Nat → Int32) (f_p0_laid_forward : Nat → Int32) (f_p0_laid_judges : Nat → Int32) (f_p0_laid_leads : Nat → Int32) (f_p0_laid_seenBy : Nat → Int32) (f_p0_laid_sums : Nat → Int32) (f_p0_laid_taken : Nat → Int32) (f_p0_notes_delays : Nat → Int32) (f_p0_reader_numbers : Nat → Int32) (n : Nat) (f : Nat → Int32) (len : Int32) (bytes b j : Nat → Int32), TC (txtL its) len bytes → f 0 = nI R → (∀ i, i < 10 → f (15 + i) = nI (dn a i) ∧ f (25 + i) = nI (tk a i)) → ∃ f' bytes', f' 0 = f 0 ∧ f' 1 = f 1 ∧ TC (txtL its') (nI (txtL its').length) bytes' ∧ mL_fight_p1t6_L338 sL sX 0 i_p0_keptCount i_p0_draft_rounds i_p0_draft_home i_p0_draft_noise i_p0_draft_blowCount i_p0_draft_judgeCount i_p0_laid_rounds i_p0_laid_home i_p0_laid_noise i_p0_laid_blowCount i_p0_laid_judgeCount i_p0_reader_place f_p0_draft_blows f_p0_draft_downs f_p0_draft_forward f_p0_draft_judges f_p0_draft_taken f_p0_laid_blows f_p0_laid_downs f_p0_laid_forward f_p0_laid_judges f_p0_laid_leads f_p0_laid_seenBy f_p0_laid_sums f_p0_laid_taken f_p0_notes_delays f_p0_reader_numbers (d + n) 1 (nI k) f len bytes b j = mL_fight_p1t6_L338 sL sX 0 i_p0_keptCount i_p0_draft_rounds i_p0_draft_home i_p0_draft_noise i_p0_draft_blowCount i_p0_draft_judgeCount i_p0_laid_rounds i_p0_laid_home i_p0_laid_noise i_p0_laid_blowCount i_p0_laid_judgeCount i_p0_reader_place f_p0_draft_blows f_p0_draft_downs f_p0_draft_forward f_p0_draft_judges f_p0_draft_taken f_p0_laid_blows f_p0_laid_downs f_p0_laid_forward f_p0_laid_judges f_p0_laid_leads f_p0_laid_seenBy f_p0_laid_sums f_p0_laid_taken f_p0_notes_delays f_p0_reader_numbers n 1 (nI 6) f' (nI (txtL its').length) bytes' b j := by
  intro d
  induction d with
  | zero =>
    intro k its a hk hr ha hlen
    refine ⟨its, a, hr, rfl, rfl, by omega, ?_⟩
    intro i_p0_keptCount i_p0_draft_rounds i_p0_draft_home i_p0_draft_noise i_p0_draft_blowCount i_p0_draft_judgeCount i_p0_laid_rounds i_p0_laid_home i_p0_laid_noise i_p0_laid_blowCount i_p0_laid_judgeCount i_p0_reader_place f_p0_draft_blows f_p0_draft_downs f_p0_draft_forward f_p0_draft_judges f_p0_draft_taken f_p0_laid_blows f_p0_laid_downs f_p0_laid_forward f_p0_laid_judges f_p0_laid_leads f_p0_laid_seenBy f_p0_laid_sums f_p0_laid_taken f_p0_notes_delays f_p0_reader_numbers n f len bytes b j hT f0 hf
    have hT2 := hT
    obtain ⟨h1, rfl, h3⟩ := hT2
    exact ⟨f, bytes, rfl, rfl, hT, by rw [Nat.zero_add, show k = 6 by omega]⟩
  | succ d ih =>
    intro k its a hk hr ha hlen
    obtain ⟨its2, c, s1, s2, s3, s4, s5, s6⟩ := six_step hL hR (show k < 6 by omega) h400 hr ha hlen
    obtain ⟨its', c', t1, t2, t3, t4, t5⟩ := ih (k + 1) (its ++ its2) c (by omega) s1 s4 s5
    refine ⟨its', c', t1, t2.trans s2, t3.trans s3, t4, ?_⟩
    intro i_p0_keptCount i_p0_draft_rounds i_p0_draft_home i_p0_draft_noise i_p0_draft_blowCount i_p0_draft_judgeCount i_p0_laid_rounds i_p0_laid_home i_p0_laid_noise i_p0_laid_blowCount i_p0_laid_judgeCount i_p0_reader_place f_p0_draft_blows f_p0_draft_downs f_p0_draft_forward f_p0_draft_judges f_p0_draft_taken f_p0_laid_blows f_p0_laid_downs f_p0_laid_forward f_p0_laid_judges f_p0_laid_leads f_p0_laid_seenBy f_p0_laid_sums f_p0_laid_taken f_p0_notes_delays f_p0_reader_numbers n f len bytes b j hT f0 hf
    obtain ⟨f1, y1, p0, p1, p2, e1, e2⟩ := s6 i_p0_keptCount i_p0_draft_rounds i_p0_draft_home i_p0_draft_noise i_p0_draft_blowCount i_p0_draft_judgeCount i_p0_laid_rounds i_p0_laid_home i_p0_laid_noise i_p0_laid_blowCount i_p0_laid_judgeCount i_p0_reader_place f_p0_draft_blows f_p0_draft_downs f_p0_draft_forward f_p0_draft_judges f_p0_draft_taken f_p0_laid_blows f_p0_laid_downs f_p0_laid_forward f_p0_laid_judges f_p0_laid_leads f_p0_laid_seenBy f_p0_laid_sums f_p0_laid_taken f_p0_notes_delays f_p0_reader_numbers (d + n) f len bytes b j hT f0 hf
    obtain ⟨f2, y2, q0, q1, e3, e4⟩ := t5 i_p0_keptCount i_p0_draft_rounds i_p0_draft_home i_p0_draft_noise i_p0_draft_blowCount i_p0_draft_judgeCount i_p0_laid_rounds i_p0_laid_home i_p0_laid_noise i_p0_laid_blowCount i_p0_laid_judgeCount i_p0_reader_place f_p0_draft_blows f_p0_draft_downs f_p0_draft_forward f_p0_draft_judges f_p0_draft_taken f_p0_laid_blows f_p0_laid_downs f_p0_laid_forward f_p0_laid_judges f_p0_laid_leads f_p0_laid_seenBy f_p0_laid_sums f_p0_laid_taken f_p0_notes_delays f_p0_reader_numbers n f1 _ y1 b j e1 (p0.trans f0) p2
    exact ⟨f2, y2, q0.trans p0, q1.trans p1, e3, by rw [show d + 1 + n = d + n + 1 by omega, e2, e4]⟩
theorem judge_step {sL : Nat} {sX : Nat → Int32} (hL : sL ≤ 260) {J k L1 : Nat} (hk : k < J) (hJ : J ≤ 5) (h400 : L1 ≤ 400) {its : List IT} {a : AT} (hr : Run clrA its a) (haj : aJ a = k) (hlen : (txtL its).length ≤ L1 + 18 * k) : ∃ it c, Run clrA (its ++ [it]) c ∧ aJ c = k + 1 ∧ aR c = aR a ∧ (txtL (its ++ [it])).length ≤ L1 + 18 * (k + 1) ∧ ∀ (i_p0_keptCount : Int32) (i_p0_draft_rounds : Int32) (i_p0_draft_home : Int32) (i_p0_draft_noise : Int32) (i_p0_draft_blowCount : Int32) (i_p0_draft_judgeCount : Int32) (i_p0_laid_rounds : Int32) (i_p0_laid_home : Int32) (i_p0_laid_noise : Int32) (i_p0_laid_blowCount : Int32) (i_p0_laid_judgeCount : Int32) (i_p0_reader_place : Int32) (f_p0_draft_blows : Nat → Int32) (f_p0_draft_downs : Nat → Int32) (f_p0_draft_forward : Nat → Int32) (f_p0_draft_judges : Nat → Int32) (f_p0_draft_taken : Nat → Int32) (f_p0_laid_blows : Nat → Int32) (f_p0_laid_downs : Nat → Int32) (f_p0_laid_forward : Nat → Int32) (f_p0_laid_judges : Nat → Int32) (f_p0_laid_leads : Nat → Int32) (f_p0_laid_seenBy : Nat → Int32) (f_p0_laid_sums : Nat → Int32) (f_p0_laid_taken : Nat → Int32) (f_p0_notes_delays : Nat → Int32) (f_p0_reader_numbers : Nat → Int32) (n : Nat) (f : Nat → Int32) (len : Int32) (bytes b j : Nat → Int32), TC (txtL its) len bytes → f 1 = nI J → ∃ j' bytes', TC (txtL (its ++ [it])) (nI (txtL (its ++ [it])).length) bytes' ∧ mL_fight_p1t6_L560 sL sX 0 i_p0_keptCount i_p0_draft_rounds i_p0_draft_home i_p0_draft_noise i_p0_draft_blowCount i_p0_draft_judgeCount i_p0_laid_rounds i_p0_laid_home i_p0_laid_noise i_p0_laid_blowCount i_p0_laid_judgeCount i_p0_reader_place f_p0_draft_blows f_p0_draft_downs f_p0_draft_forward f_p0_draft_judges f_p0_draft_taken f_p0_laid_blows f_p0_laid_downs f_p0_laid_forward f_p0_laid_judges f_p0_laid_leads f_p0_laid_seenBy f_p0_laid_sums f_p0_laid_taken f_p0_notes_delays f_p0_reader_numbers (n + 1) 1 (nI k) f len bytes b j = mL_fight_p1t6_L560 sL sX 0 i_p0_keptCount i_p0_draft_rounds i_p0_draft_home i_p0_draft_noise i_p0_draft_blowCount i_p0_draft_judgeCount i_p0_laid_rounds i_p0_laid_home i_p0_laid_noise i_p0_laid_blowCount i_p0_laid_judgeCount i_p0_reader_place f_p0_draft_blows f_p0_draft_downs f_p0_draft_forward f_p0_draft_judges f_p0_draft_taken f_p0_laid_blows f_p0_laid_downs f_p0_laid_forward f_p0_laid_judges f_p0_laid_leads f_p0_laid_seenBy f_p0_laid_sums f_p0_laid_taken f_p0_notes_delays f_p0_reader_numbers n 1 (nI (k + 1)) f (nI (txtL (its ++ [it])).length) bytes' b j' := by
  obtain ⟨y, hy⟩ := cell_s sX hL (i := 19 + k) (by omega) (c := ((0 : Int32) + 19) + nI k) (by rw [show (0 : Int32) + 19 = nI 19 from rfl, n_add])
  obtain ⟨r0, h0, e0⟩ := some_s y (c := 12) (n := 12) rfl (by omega) (by omega)
  obtain ⟨r1, h1, e1⟩ := some_s (y >>> ((4 : Int32) &&& 31)) (c := 10) (n := 10) rfl (by omega) (by omega)
  obtain ⟨r2, h2, e2⟩ := some_s (y >>> ((8 : Int32) &&& 31)) (c := 5) (n := 5) rfl (by omega) (by omega)
  have h3 : ∃ r3, r3 ≤ 40 ∧ ∀ {β : Type} (F : Int32 → Option β), (if ((y >>> ((11 : Int32) &&& 31)) &&& 1) = 0 then F 20 else ((mL_some (y >>> ((12 : Int32) &&& 31)) 41).bind fun o => F o)) = F (nI r3) := by
    by_cases c : ((y >>> ((11 : Int32) &&& 31)) &&& 1) = 0
    · exact ⟨20, by omega, fun F => by rw [if_pos c]; rfl⟩
    · obtain ⟨r, hr, e⟩ := some_s (y >>> ((12 : Int32) &&& 31)) (c := 41) (n := 41) rfl (by omega) (by omega)
      exact ⟨r, by omega, fun F => by rw [if_neg c, e, b_some]⟩
  obtain ⟨r3, h3, e3⟩ := h3
  obtain ⟨r4, h4, e4⟩ := some_s (y >>> ((18 : Int32) &&& 31)) (c := 5) (n := 5) rfl (by omega) (by omega)
  obtain ⟨r5, h5, e5⟩ := some_s (y >>> ((21 : Int32) &&& 31)) (c := 6) (n := 6) rfl (by omega) (by omega)
  have h6 : ∃ r6, r6 < 30 ∧ ∀ {β : Type} (F : Int32 → Option β), (if ((y >>> ((24 : Int32) &&& 31)) &&& 1) = 0 then F 0 else ((mL_some (y >>> ((25 : Int32) &&& 31)) 30).bind fun o => F o)) = F (nI r6) := by
    by_cases c : ((y >>> ((24 : Int32) &&& 31)) &&& 1) = 0
    · exact ⟨0, by omega, fun F => by rw [if_pos c]; rfl⟩
    · obtain ⟨r, hr, e⟩ := some_s (y >>> ((25 : Int32) &&& 31)) (c := 30) (n := 30) rfl (by omega) (by omega)
      exact ⟨r, by omega, fun F => by rw [if_neg c, e, b_some]⟩
  obtain ⟨r6, h6, e6⟩ := h6
  have hin : inR 15 0 7 (vL [r0, r1, r2, r3, 1 + r4, r5, r6]) := by
    intro i _ hi
    rcases (show i = 0 ∨ i = 1 ∨ i = 2 ∨ i = 3 ∨ i = 4 ∨ i = 5 ∨ i = 6 by omega) with rfl | rfl | rfl | rfl | rfl | rfl | rfl
    · exact ⟨Nat.zero_le _, by show r0 ≤ 11; omega⟩
    · exact ⟨Nat.zero_le _, by show r1 ≤ 9; omega⟩
    · exact ⟨Nat.zero_le _, by show r2 ≤ 9; omega⟩
    · exact ⟨Nat.zero_le _, by show r3 ≤ 40; omega⟩
    · exact ⟨by show 1 ≤ 1 + r4; omega, by show 1 + r4 ≤ 9; omega⟩
    · exact ⟨Nat.zero_le _, by show r5 ≤ 9; omega⟩
    · exact ⟨Nat.zero_le _, by show r6 ≤ 99; omega⟩
  have hil : (itemL (106, 7, vL [r0, r1, r2, r3, 1 + r4, r5, r6])).length ≤ 18 := by
    show (sepF (vL [r0, r1, r2, r3, 1 + r4, r5, r6]) 0 7).length + 1 ≤ 18
    rw [len_sep, len_sep, len_sep, len_sep, len_sep, len_sep, len_sep]
    have l0 := len_num2 (v := r0) (by omega)
    have l1 := len_num (v := r1) (by omega)
    have l2 := len_num (v := r2) (by omega)
    have l3 := len_num2 (v := r3) (by omega)
    have l4 := len_num (v := 1 + r4) (by omega)
    have l5 := len_num (v := r5) (by omega)
    have l6 := len_num2 (v := r6) (by omega)
    show (numL r0).length + ((numL r1).length + ((numL r2).length + ((numL r3).length + ((numL (1 + r4)).length + ((numL r5).length + ((numL r6).length + (0 + 1) + 1) + 1) + 1) + 1) + 1) + 1) + 1 ≤ 18
    omega
  have hl2 : (txtL (its ++ [(106, 7, vL [r0, r1, r2, r3, 1 + r4, r5, r6])])).length = (txtL its).length + (itemL (106, 7, vL [r0, r1, r2, r3, 1 + r4, r5, r6])).length := by rw [txtL_app, List.length_append, txtL_one]
  refine ⟨(106, 7, vL [r0, r1, r2, r3, 1 + r4, r5, r6]), addJ a (vL [r0, r1, r2, r3, 1 + r4, r5, r6]), Run_one hr (Or.inr (Or.inr (Or.inr (Or.inr (Or.inr (Or.inr ⟨rfl, rfl, hin, by omega, rfl⟩)))))), by show aJ a + 1 = k + 1; omega, rfl, by omega, ?_⟩
  intro i_p0_keptCount i_p0_draft_rounds i_p0_draft_home i_p0_draft_noise i_p0_draft_blowCount i_p0_draft_judgeCount i_p0_laid_rounds i_p0_laid_home i_p0_laid_noise i_p0_laid_blowCount i_p0_laid_judgeCount i_p0_reader_place f_p0_draft_blows f_p0_draft_downs f_p0_draft_forward f_p0_draft_judges f_p0_draft_taken f_p0_laid_blows f_p0_laid_downs f_p0_laid_forward f_p0_laid_judges f_p0_laid_leads f_p0_laid_seenBy f_p0_laid_sums f_p0_laid_taken f_p0_notes_delays f_p0_reader_numbers n f len bytes b j hT f1
  have hv : ∀ i, i < 7 → vL [r0, r1, r2, r3, 1 + r4, r5, r6] i < 1000 := fun i hi => by
    have h9 := (hin i (by omega) hi).2
    have h8 := (tab12_s (15 + i) (by omega)).2.2.1
    omega
  obtain ⟨b', i1, i2⟩ := item_s (l := 106) (M := 7) (vL [r0, r1, r2, r3, 1 + r4, r5, r6]) (by omega) (by omega) hv hT (by omega)
  rw [show txtL its ++ itemL (106, 7, vL [r0, r1, r2, r3, 1 + r4, r5, r6]) = txtL (its ++ [(106, 7, vL [r0, r1, r2, r3, 1 + r4, r5, r6])]) by rw [txtL_app, txtL_one]] at i1 i2
  have i1 : mL_item 106 7 (nI r0) (nI r1) (nI r2) (nI r3) (nI (1 + r4)) (nI r5) (nI r6) len bytes = some (1, b', nI (txtL (its ++ [(106, 7, vL [r0, r1, r2, r3, 1 + r4, r5, r6])])).length) := i1
  have g0 : (7 : Int32) * nI k = nI (7 * k) := n_mul 7 k
  have g1 : nI (7 * k) + (1 : Int32) = nI (7 * k + 1) := n_add _ 1
  have g2 : nI (7 * k) + (2 : Int32) = nI (7 * k + 2) := n_add _ 2
  have g3 : nI (7 * k) + (3 : Int32) = nI (7 * k + 3) := n_add _ 3
  have g4 : nI (7 * k) + (4 : Int32) = nI (7 * k + 4) := n_add _ 4
  have g5 : nI (7 * k) + (5 : Int32) = nI (7 * k + 5) := n_add _ 5
  have g6 : nI (7 * k) + (6 : Int32) = nI (7 * k + 6) := n_add _ 6
  have g9 : (1 : Int32) + nI r4 = nI (1 + r4) := n_add 1 r4
  have u0 : (upd (upd (upd (upd (upd (upd (upd j (7 * k) (nI r0)) (7 * k + 1) (nI r1)) (7 * k + 2) (nI r2)) (7 * k + 3) (nI r3)) (7 * k + 4) (nI (1 + r4))) (7 * k + 5) (nI r5)) (7 * k + 6) (nI r6)) (7 * k) = nI r0 := by rw [upd_n (by omega), upd_n (by omega), upd_n (by omega), upd_n (by omega), upd_n (by omega), upd_n (by omega), upd_s]
  have u1 : (upd (upd (upd (upd (upd (upd (upd j (7 * k) (nI r0)) (7 * k + 1) (nI r1)) (7 * k + 2) (nI r2)) (7 * k + 3) (nI r3)) (7 * k + 4) (nI (1 + r4))) (7 * k + 5) (nI r5)) (7 * k + 6) (nI r6)) (7 * k + 1) = nI r1 := by rw [upd_n (by omega), upd_n (by omega), upd_n (by omega), upd_n (by omega), upd_n (by omega), upd_s]
  have u2 : (upd (upd (upd (upd (upd (upd (upd j (7 * k) (nI r0)) (7 * k + 1) (nI r1)) (7 * k + 2) (nI r2)) (7 * k + 3) (nI r3)) (7 * k + 4) (nI (1 + r4))) (7 * k + 5) (nI r5)) (7 * k + 6) (nI r6)) (7 * k + 2) = nI r2 := by rw [upd_n (by omega), upd_n (by omega), upd_n (by omega), upd_n (by omega), upd_s]
  have u3 : (upd (upd (upd (upd (upd (upd (upd j (7 * k) (nI r0)) (7 * k + 1) (nI r1)) (7 * k + 2) (nI r2)) (7 * k + 3) (nI r3)) (7 * k + 4) (nI (1 + r4))) (7 * k + 5) (nI r5)) (7 * k + 6) (nI r6)) (7 * k + 3) = nI r3 := by rw [upd_n (by omega), upd_n (by omega), upd_n (by omega), upd_s]
  have u4 : (upd (upd (upd (upd (upd (upd (upd j (7 * k) (nI r0)) (7 * k + 1) (nI r1)) (7 * k + 2) (nI r2)) (7 * k + 3) (nI r3)) (7 * k + 4) (nI (1 + r4))) (7 * k + 5) (nI r5)) (7 * k + 6) (nI r6)) (7 * k + 4) = nI (1 + r4) := by rw [upd_n (by omega), upd_n (by omega), upd_s]
  have u5 : (upd (upd (upd (upd (upd (upd (upd j (7 * k) (nI r0)) (7 * k + 1) (nI r1)) (7 * k + 2) (nI r2)) (7 * k + 3) (nI r3)) (7 * k + 4) (nI (1 + r4))) (7 * k + 5) (nI r5)) (7 * k + 6) (nI r6)) (7 * k + 5) = nI r5 := by rw [upd_n (by omega), upd_s]
  have u6 : (upd (upd (upd (upd (upd (upd (upd j (7 * k) (nI r0)) (7 * k + 1) (nI r1)) (7 * k + 2) (nI r2)) (7 * k + 3) (nI r3)) (7 * k + 4) (nI (1 + r4))) (7 * k + 5) (nI r5)) (7 * k + 6) (nI r6)) (7 * k + 6) = nI r6 := by rw [upd_s]
  refine ⟨upd (upd (upd (upd (upd (upd (upd j (7 * k) (nI r0)) (7 * k + 1) (nI r1)) (7 * k + 2) (nI r2)) (7 * k + 3) (nI r3)) (7 * k + 4) (nI (1 + r4))) (7 * k + 5) (nI r5)) (7 * k + 6) (nI r6), b', i2, ?_⟩
  rw [eL_fight_p1t6_560]
  unfold mL_fight_p1t6_B560
  rw [show (1 : Int32).toNatClampNeg = 1 from rfl, f1, if_neg (fun hh => absurd ((n_le (by omega) (by omega)).mp hh) (by omega)), hy, b_some, e0, b_some, g0, gi_n (by omega) (by omega), lb_d, e1, b_some, g1, gi_n (by omega) (by omega), lb_d, e2, b_some, g2, gi_n (by omega) (by omega), lb_d, g3, n_cl (by omega), n_cl (by omega), n_cl (by omega)]
  refine (e3 (fun o => mL_fight_p1t6_B668 sL sX 0 i_p0_keptCount i_p0_draft_rounds i_p0_draft_home i_p0_draft_noise i_p0_draft_blowCount i_p0_draft_judgeCount i_p0_laid_rounds i_p0_laid_home i_p0_laid_noise i_p0_laid_blowCount i_p0_laid_judgeCount i_p0_reader_place f_p0_draft_blows f_p0_draft_downs f_p0_draft_forward f_p0_draft_judges f_p0_draft_taken f_p0_laid_blows f_p0_laid_downs f_p0_laid_forward f_p0_laid_judges f_p0_laid_leads f_p0_laid_seenBy f_p0_laid_sums f_p0_laid_taken f_p0_notes_delays f_p0_reader_numbers (mL_fight_p1t6_L560 sL sX 0 i_p0_keptCount i_p0_draft_rounds i_p0_draft_home i_p0_draft_noise i_p0_draft_blowCount i_p0_draft_judgeCount i_p0_laid_rounds i_p0_laid_home i_p0_laid_noise i_p0_laid_blowCount i_p0_laid_judgeCount i_p0_reader_place f_p0_draft_blows f_p0_draft_downs f_p0_draft_forward f_p0_draft_judges f_p0_draft_taken f_p0_laid_blows f_p0_laid_downs f_p0_laid_forward f_p0_laid_judges f_p0_laid_leads f_p0_laid_seenBy f_p0_laid_sums f_p0_laid_taken f_p0_notes_delays f_p0_reader_numbers n) 1 (nI k) y (nI (7 * k + 3)) o f len bytes b (upd (upd (upd j (7 * k) (nI r0)) (7 * k + 1) (nI r1)) (7 * k + 2) (nI r2)))).trans ?_
  show mL_fight_p1t6_B668 sL sX 0 i_p0_keptCount i_p0_draft_rounds i_p0_draft_home i_p0_draft_noise i_p0_draft_blowCount i_p0_draft_judgeCount i_p0_laid_rounds i_p0_laid_home i_p0_laid_noise i_p0_laid_blowCount i_p0_laid_judgeCount i_p0_reader_place f_p0_draft_blows f_p0_draft_downs f_p0_draft_forward f_p0_draft_judges f_p0_draft_taken f_p0_laid_blows f_p0_laid_downs f_p0_laid_forward f_p0_laid_judges f_p0_laid_leads f_p0_laid_seenBy f_p0_laid_sums f_p0_laid_taken f_p0_notes_delays f_p0_reader_numbers (mL_fight_p1t6_L560 sL sX 0 i_p0_keptCount i_p0_draft_rounds i_p0_draft_home i_p0_draft_noise i_p0_draft_blowCount i_p0_draft_judgeCount i_p0_laid_rounds i_p0_laid_home i_p0_laid_noise i_p0_laid_blowCount i_p0_laid_judgeCount i_p0_reader_place f_p0_draft_blows f_p0_draft_downs f_p0_draft_forward f_p0_draft_judges f_p0_draft_taken f_p0_laid_blows f_p0_laid_downs f_p0_laid_forward f_p0_laid_judges f_p0_laid_leads f_p0_laid_seenBy f_p0_laid_sums f_p0_laid_taken f_p0_notes_delays f_p0_reader_numbers n) 1 (nI k) y (nI (7 * k + 3)) (nI r3) f len bytes b (upd (upd (upd j (7 * k) (nI r0)) (7 * k + 1) (nI r1)) (7 * k + 2) (nI r2)) = _
  unfold mL_fight_p1t6_B668
  rw [gi_n (by omega) (by omega), lb_d, e4, b_some, g9, g0, g4, gi_n (by omega) (by omega), lb_d, e5, b_some, g5, gi_n (by omega) (by omega), lb_d, g6, n_cl (by omega), n_cl (by omega), n_cl (by omega)]
  refine (e6 (fun o => mL_fight_p1t6_B744 sL sX 0 i_p0_keptCount i_p0_draft_rounds i_p0_draft_home i_p0_draft_noise i_p0_draft_blowCount i_p0_draft_judgeCount i_p0_laid_rounds i_p0_laid_home i_p0_laid_noise i_p0_laid_blowCount i_p0_laid_judgeCount i_p0_reader_place f_p0_draft_blows f_p0_draft_downs f_p0_draft_forward f_p0_draft_judges f_p0_draft_taken f_p0_laid_blows f_p0_laid_downs f_p0_laid_forward f_p0_laid_judges f_p0_laid_leads f_p0_laid_seenBy f_p0_laid_sums f_p0_laid_taken f_p0_notes_delays f_p0_reader_numbers (mL_fight_p1t6_L560 sL sX 0 i_p0_keptCount i_p0_draft_rounds i_p0_draft_home i_p0_draft_noise i_p0_draft_blowCount i_p0_draft_judgeCount i_p0_laid_rounds i_p0_laid_home i_p0_laid_noise i_p0_laid_blowCount i_p0_laid_judgeCount i_p0_reader_place f_p0_draft_blows f_p0_draft_downs f_p0_draft_forward f_p0_draft_judges f_p0_draft_taken f_p0_laid_blows f_p0_laid_downs f_p0_laid_forward f_p0_laid_judges f_p0_laid_leads f_p0_laid_seenBy f_p0_laid_sums f_p0_laid_taken f_p0_notes_delays f_p0_reader_numbers n) 1 (nI k) (nI (7 * k + 6)) o f len bytes b (upd (upd (upd (upd (upd (upd j (7 * k) (nI r0)) (7 * k + 1) (nI r1)) (7 * k + 2) (nI r2)) (7 * k + 3) (nI r3)) (7 * k + 4) (nI (1 + r4))) (7 * k + 5) (nI r5)))).trans ?_
  show mL_fight_p1t6_B744 sL sX 0 i_p0_keptCount i_p0_draft_rounds i_p0_draft_home i_p0_draft_noise i_p0_draft_blowCount i_p0_draft_judgeCount i_p0_laid_rounds i_p0_laid_home i_p0_laid_noise i_p0_laid_blowCount i_p0_laid_judgeCount i_p0_reader_place f_p0_draft_blows f_p0_draft_downs f_p0_draft_forward f_p0_draft_judges f_p0_draft_taken f_p0_laid_blows f_p0_laid_downs f_p0_laid_forward f_p0_laid_judges f_p0_laid_leads f_p0_laid_seenBy f_p0_laid_sums f_p0_laid_taken f_p0_notes_delays f_p0_reader_numbers (mL_fight_p1t6_L560 sL sX 0 i_p0_keptCount i_p0_draft_rounds i_p0_draft_home i_p0_draft_noise i_p0_draft_blowCount i_p0_draft_judgeCount i_p0_laid_rounds i_p0_laid_home i_p0_laid_noise i_p0_laid_blowCount i_p0_laid_judgeCount i_p0_reader_place f_p0_draft_blows f_p0_draft_downs f_p0_draft_forward f_p0_draft_judges f_p0_draft_taken f_p0_laid_blows f_p0_laid_downs f_p0_laid_forward f_p0_laid_judges f_p0_laid_leads f_p0_laid_seenBy f_p0_laid_sums f_p0_laid_taken f_p0_notes_delays f_p0_reader_numbers n) 1 (nI k) (nI (7 * k + 6)) (nI r6) f len bytes b (upd (upd (upd (upd (upd (upd j (7 * k) (nI r0)) (7 * k + 1) (nI r1)) (7 * k + 2) (nI r2)) (7 * k + 3) (nI r3)) (7 * k + 4) (nI (1 + r4))) (7 * k + 5) (nI r5)) = _
  unfold mL_fight_p1t6_B744
  rw [gi_n (by omega) (by omega), lb_d, if_neg (show ¬ (1 : Int32) = 0 by decide), g0, g1, g2, g3, g4, g5, g6, gi_n (by omega) (by omega), gi_n (by omega) (by omega), gi_n (by omega) (by omega), gi_n (by omega) (by omega), gi_n (by omega) (by omega), gi_n (by omega) (by omega), gi_n (by omega) (by omega), n_cl (by omega), n_cl (by omega), n_cl (by omega), n_cl (by omega), n_cl (by omega), n_cl (by omega), n_cl (by omega), u0, u1, u2, u3, u4, u5, u6, i1, b_some, if_neg (show ¬ (1 : Int32) = 0 by decide), nI_1, lb_d]
theorem judges_loop {sL : Nat} {sX : Nat → Int32} (hL : sL ≤ 260) {J L1 : Nat} (hJ : J ≤ 5) (h400 : L1 ≤ 400) : ∀ (d k : Nat) (its : List IT) (a : AT), k + d = J → Run clrA its a → aJ a = k → (txtL its).length ≤ L1 + 18 * k → ∃ its' c, Run clrA its' c ∧ aJ c = J ∧ aR c = aR a ∧ (txtL its').length ≤ L1 + 18 * J ∧ ∀ (i_p0_keptCount : Int32) (i_p0_draft_rounds : Int32) (i_p0_draft_home : Int32) (i_p0_draft_noise : Int32) (i_p0_draft_blowCount : Int32) (i_p0_draft_judgeCount : Int32) (i_p0_laid_rounds : Int32) (i_p0_laid_home : Int32) (i_p0_laid_noise : Int32) (i_p0_laid_blowCount : Int32) (i_p0_laid_judgeCount : Int32) (i_p0_reader_place : Int32) (f_p0_draft_blows : Nat → Int32) (f_p0_draft_downs : Nat → Int32) (f_p0_draft_forward : Nat → Int32) (f_p0_draft_judges : Nat → Int32) (f_p0_draft_taken : Nat → Int32) (f_p0_laid_blows : Nat → Int32) (f_p0_laid_downs : Nat → Int32) (f_p0_laid_forward : Nat → Int32) (f_p0_laid_judges : Nat → Int32) (f_p0_laid_leads : Nat → Int32) (f_p0_laid_seenBy : Nat → Int32) (f_p0_laid_sums : Nat → Int32) (f_p0_laid_taken : Nat → Int32) (f_p0_notes_delays : Nat → Int32) (f_p0_reader_numbers : Nat → Int32) (n : Nat) (f : Nat → Int32) (len : Int32) (bytes b j : Nat → Int32), TC (txtL its) len bytes → f 1 = nI J → ∃ j' bytes', TC (txtL its') (nI (txtL its').length) bytes' ∧ mL_fight_p1t6_L560 sL sX 0 i_p0_keptCount i_p0_draft_rounds i_p0_draft_home i_p0_draft_noise i_p0_draft_blowCount i_p0_draft_judgeCount i_p0_laid_rounds i_p0_laid_home i_p0_laid_noise i_p0_laid_blowCount i_p0_laid_judgeCount i_p0_reader_place f_p0_draft_blows f_p0_draft_downs f_p0_draft_forward f_p0_draft_judges f_p0_draft_taken f_p0_laid_blows f_p0_laid_downs f_p0_laid_forward f_p0_laid_judges f_p0_laid_leads f_p0_laid_seenBy f_p0_laid_sums f_p0_laid_taken f_p0_notes_delays f_p0_reader_numbers (d + n) 1 (nI k) f len bytes b j = mL_fight_p1t6_L560 sL sX 0 i_p0_keptCount i_p0_draft_rounds i_p0_draft_home i_p0_draft_noise i_p0_draft_blowCount i_p0_draft_judgeCount i_p0_laid_rounds i_p0_laid_home i_p0_laid_noise i_p0_laid_blowCount i_p0_laid_judgeCount i_p0_reader_place f_p0_draft_blows f_p0_draft_downs f_p0_draft_forward f_p0_draft_judges f_p0_draft_taken f_p0_laid_blows f_p0_laid_downs f_p0_laid_forward f_p0_laid_judges f_p0_laid_leads f_p0_laid_seenBy f_p0_laid_sums f_p0_laid_taken f_p0_notes_delays f_p0_reader_numbers n 1 (nI J) f (nI (txtL its').length) bytes' b j' := by
  intro d
  induction d with
  | zero =>
    intro k its a hk hr ha hlen
    refine ⟨its, a, hr, by omega, rfl, by have e : k = J := by omega
                                          subst e; exact hlen, ?_⟩
    intro i_p0_keptCount i_p0_draft_rounds i_p0_draft_home i_p0_draft_noise i_p0_draft_blowCount i_p0_draft_judgeCount i_p0_laid_rounds i_p0_laid_home i_p0_laid_noise i_p0_laid_blowCount i_p0_laid_judgeCount i_p0_reader_place f_p0_draft_blows f_p0_draft_downs f_p0_draft_forward f_p0_draft_judges f_p0_draft_taken f_p0_laid_blows f_p0_laid_downs f_p0_laid_forward f_p0_laid_judges f_p0_laid_leads f_p0_laid_seenBy f_p0_laid_sums f_p0_laid_taken f_p0_notes_delays f_p0_reader_numbers n f len bytes b j hT f1
    have hT2 := hT
    obtain ⟨h1, rfl, h3⟩ := hT2
    exact ⟨j, bytes, hT, by rw [Nat.zero_add, show k = J by omega]⟩
  | succ d ih =>
    intro k its a hk hr ha hlen
    obtain ⟨it, c, s1, s2, s3, s4, s5⟩ := judge_step hL (show k < J by omega) hJ h400 hr ha hlen
    obtain ⟨its', c', t1, t2, t3, t4, t5⟩ := ih (k + 1) (its ++ [it]) c (by omega) s1 s2 s4
    refine ⟨its', c', t1, t2, t3.trans s3, t4, ?_⟩
    intro i_p0_keptCount i_p0_draft_rounds i_p0_draft_home i_p0_draft_noise i_p0_draft_blowCount i_p0_draft_judgeCount i_p0_laid_rounds i_p0_laid_home i_p0_laid_noise i_p0_laid_blowCount i_p0_laid_judgeCount i_p0_reader_place f_p0_draft_blows f_p0_draft_downs f_p0_draft_forward f_p0_draft_judges f_p0_draft_taken f_p0_laid_blows f_p0_laid_downs f_p0_laid_forward f_p0_laid_judges f_p0_laid_leads f_p0_laid_seenBy f_p0_laid_sums f_p0_laid_taken f_p0_notes_delays f_p0_reader_numbers n f len bytes b j hT f1
    obtain ⟨j1, y1, e1, e2⟩ := s5 i_p0_keptCount i_p0_draft_rounds i_p0_draft_home i_p0_draft_noise i_p0_draft_blowCount i_p0_draft_judgeCount i_p0_laid_rounds i_p0_laid_home i_p0_laid_noise i_p0_laid_blowCount i_p0_laid_judgeCount i_p0_reader_place f_p0_draft_blows f_p0_draft_downs f_p0_draft_forward f_p0_draft_judges f_p0_draft_taken f_p0_laid_blows f_p0_laid_downs f_p0_laid_forward f_p0_laid_judges f_p0_laid_leads f_p0_laid_seenBy f_p0_laid_sums f_p0_laid_taken f_p0_notes_delays f_p0_reader_numbers (d + n) f len bytes b j hT f1
    obtain ⟨j2, y2, e3, e4⟩ := t5 i_p0_keptCount i_p0_draft_rounds i_p0_draft_home i_p0_draft_noise i_p0_draft_blowCount i_p0_draft_judgeCount i_p0_laid_rounds i_p0_laid_home i_p0_laid_noise i_p0_laid_blowCount i_p0_laid_judgeCount i_p0_reader_place f_p0_draft_blows f_p0_draft_downs f_p0_draft_forward f_p0_draft_judges f_p0_draft_taken f_p0_laid_blows f_p0_laid_downs f_p0_laid_forward f_p0_laid_judges f_p0_laid_leads f_p0_laid_seenBy f_p0_laid_sums f_p0_laid_taken f_p0_notes_delays f_p0_reader_numbers n f _ y1 b j1 e1 f1
    exact ⟨j2, y2, e3, by rw [show d + 1 + n = d + n + 1 by omega, e2, e4]⟩
set_option maxRecDepth 100000 in
theorem fight_exit {sL : Nat} {sX : Nat → Int32} {J : Nat} (hJ : J ≤ 5) (i_p0_keptCount : Int32) (i_p0_draft_rounds : Int32) (i_p0_draft_home : Int32) (i_p0_draft_noise : Int32) (i_p0_draft_blowCount : Int32) (i_p0_draft_judgeCount : Int32) (i_p0_laid_rounds : Int32) (i_p0_laid_home : Int32) (i_p0_laid_noise : Int32) (i_p0_laid_blowCount : Int32) (i_p0_laid_judgeCount : Int32) (i_p0_reader_place : Int32) (f_p0_draft_blows : Nat → Int32) (f_p0_draft_downs : Nat → Int32) (f_p0_draft_forward : Nat → Int32) (f_p0_draft_judges : Nat → Int32) (f_p0_draft_taken : Nat → Int32) (f_p0_laid_blows : Nat → Int32) (f_p0_laid_downs : Nat → Int32) (f_p0_laid_forward : Nat → Int32) (f_p0_laid_judges : Nat → Int32) (f_p0_laid_leads : Nat → Int32) (f_p0_laid_seenBy : Nat → Int32) (f_p0_laid_sums : Nat → Int32) (f_p0_laid_taken : Nat → Int32) (f_p0_notes_delays : Nat → Int32) (f_p0_reader_numbers : Nat → Int32) (n : Nat) (f : Nat → Int32) (len : Int32) (bytes b j : Nat → Int32) (f1 : f 1 = nI J) {oF} (hF : mX10_fault i_p0_draft_rounds i_p0_draft_home i_p0_draft_noise i_p0_draft_blowCount i_p0_draft_judgeCount i_p0_reader_place len f_p0_draft_blows f_p0_draft_downs f_p0_draft_forward f_p0_draft_judges f_p0_draft_taken f_p0_reader_numbers bytes = some oF) (hF1 : oF.1 = -4) {oL} (hLy : mX10_lay i_p0_keptCount oF.2.1 oF.2.2.1 oF.2.2.2.1 oF.2.2.2.2.1 oF.2.2.2.2.2.1 i_p0_laid_rounds i_p0_laid_home i_p0_laid_noise i_p0_laid_blowCount i_p0_laid_judgeCount oF.2.2.2.2.2.2.2.2.2.1 len oF.2.2.2.2.2.2.2.2.2.2.2.2 oF.2.2.2.2.2.2.2.1 oF.2.2.2.2.2.2.1 oF.2.2.2.2.2.2.2.2.2.2.2.1 oF.2.2.2.2.2.2.2.2.1 f_p0_laid_blows f_p0_laid_downs f_p0_laid_forward f_p0_laid_judges f_p0_laid_leads f_p0_laid_seenBy f_p0_laid_sums f_p0_laid_taken f_p0_notes_delays oF.2.2.2.2.2.2.2.2.2.2.1 bytes = some oL) (hL1 : oL.1 = nI J) : mL_fight_p1t6_L560 sL sX 0 i_p0_keptCount i_p0_draft_rounds i_p0_draft_home i_p0_draft_noise i_p0_draft_blowCount i_p0_draft_judgeCount i_p0_laid_rounds i_p0_laid_home i_p0_laid_noise i_p0_laid_blowCount i_p0_laid_judgeCount i_p0_reader_place f_p0_draft_blows f_p0_draft_downs f_p0_draft_forward f_p0_draft_judges f_p0_draft_taken f_p0_laid_blows f_p0_laid_downs f_p0_laid_forward f_p0_laid_judges f_p0_laid_leads f_p0_laid_seenBy f_p0_laid_sums f_p0_laid_taken f_p0_notes_delays f_p0_reader_numbers (n + 1) 1 (nI J) f len bytes b j = some (1, f, len, bytes, b, j, oL.2.1, oL.2.2.1, oL.2.2.2.1, oL.2.2.2.2.1, oL.2.2.2.2.2.1, oL.2.2.2.2.2.2.1, oL.2.2.2.2.2.2.2.1, oL.2.2.2.2.2.2.2.2.1, oL.2.2.2.2.2.2.2.2.2.1, oL.2.2.2.2.2.2.2.2.2.2.1, oL.2.2.2.2.2.2.2.2.2.2.2.1, oL.2.2.2.2.2.2.2.2.2.2.2.2.1, oL.2.2.2.2.2.2.2.2.2.2.2.2.2.1, oL.2.2.2.2.2.2.2.2.2.2.2.2.2.2.1, oL.2.2.2.2.2.2.2.2.2.2.2.2.2.2.2.1, oL.2.2.2.2.2.2.2.2.2.2.2.2.2.2.2.2.1, oL.2.2.2.2.2.2.2.2.2.2.2.2.2.2.2.2.2.1, oL.2.2.2.2.2.2.2.2.2.2.2.2.2.2.2.2.2.2.1, oL.2.2.2.2.2.2.2.2.2.2.2.2.2.2.2.2.2.2.2.1, oL.2.2.2.2.2.2.2.2.2.2.2.2.2.2.2.2.2.2.2.2.1, oL.2.2.2.2.2.2.2.2.2.2.2.2.2.2.2.2.2.2.2.2.2.1, oL.2.2.2.2.2.2.2.2.2.2.2.2.2.2.2.2.2.2.2.2.2.2.1, oL.2.2.2.2.2.2.2.2.2.2.2.2.2.2.2.2.2.2.2.2.2.2.2.1, oL.2.2.2.2.2.2.2.2.2.2.2.2.2.2.2.2.2.2.2.2.2.2.2.2.1, oL.2.2.2.2.2.2.2.2.2.2.2.2.2.2.2.2.2.2.2.2.2.2.2.2.2.1, oL.2.2.2.2.2.2.2.2.2.2.2.2.2.2.2.2.2.2.2.2.2.2.2.2.2.2.1, oL.2.2.2.2.2.2.2.2.2.2.2.2.2.2.2.2.2.2.2.2.2.2.2.2.2.2.2) := by
  rw [eL_fight_p1t6_560]
  unfold mL_fight_p1t6_B560
  rw [show (1 : Int32).toNatClampNeg = 1 from rfl, f1, if_pos ((n_le (by omega) (by omega)).mpr (Nat.le_refl _)), if_neg (show ¬ (1 : Int32) = 0 by decide), hF, b_some, if_pos hF1, hLy, b_some, if_pos hL1]
set_option maxRecDepth 100000 in
theorem fight_s {sL : Nat} (sX : Nat → Int32) (hL : sL ≤ 260) : ∃ (its : List IT) (a : AT) (R J : Nat), (1 ≤ R ∧ R ≤ 5) ∧ (3 ≤ J ∧ J ≤ 5) ∧ Run clrA its a ∧ aJ a = J ∧ aR a = R ∧ ∀ (i_p0_keptCount : Int32) (i_p0_draft_rounds : Int32) (i_p0_draft_home : Int32) (i_p0_draft_noise : Int32) (i_p0_draft_blowCount : Int32) (i_p0_draft_judgeCount : Int32) (i_p0_laid_rounds : Int32) (i_p0_laid_home : Int32) (i_p0_laid_noise : Int32) (i_p0_laid_blowCount : Int32) (i_p0_laid_judgeCount : Int32) (i_p0_reader_place : Int32) (f_p0_draft_blows : Nat → Int32) (f_p0_draft_downs : Nat → Int32) (f_p0_draft_forward : Nat → Int32) (f_p0_draft_judges : Nat → Int32) (f_p0_draft_taken : Nat → Int32) (f_p0_laid_blows : Nat → Int32) (f_p0_laid_downs : Nat → Int32) (f_p0_laid_forward : Nat → Int32) (f_p0_laid_judges : Nat → Int32) (f_p0_laid_leads : Nat → Int32) (f_p0_laid_seenBy : Nat → Int32) (f_p0_laid_sums : Nat → Int32) (f_p0_laid_taken : Nat → Int32) (f_p0_notes_delays : Nat → Int32) (f_p0_reader_numbers : Nat → Int32) (f : Nat → Int32) (len : Int32) (bytes b j : Nat → Int32), (∃ n0 : Nat, n0 ≤ 500 ∧ len = nI n0) → (∀ i, i < 40 → f i = 0) → ∃ (f' b' j' bytes' : Nat → Int32) (N : Nat), f' 0 = nI R ∧ f' 1 = nI J ∧ TC (txtL its) (nI (txtL its).length) bytes' ∧ mL_fight_p1t6 sL sX 0 i_p0_keptCount i_p0_draft_rounds i_p0_draft_home i_p0_draft_noise i_p0_draft_blowCount i_p0_draft_judgeCount i_p0_laid_rounds i_p0_laid_home i_p0_laid_noise i_p0_laid_blowCount i_p0_laid_judgeCount i_p0_reader_place len f_p0_draft_blows f_p0_draft_downs f_p0_draft_forward f_p0_draft_judges f_p0_draft_taken f_p0_laid_blows f_p0_laid_downs f_p0_laid_forward f_p0_laid_judges f_p0_laid_leads f_p0_laid_seenBy f_p0_laid_sums f_p0_laid_taken f_p0_notes_delays f_p0_reader_numbers bytes f b j = mL_fight_p1t6_L560 sL sX 0 i_p0_keptCount i_p0_draft_rounds i_p0_draft_home i_p0_draft_noise i_p0_draft_blowCount i_p0_draft_judgeCount i_p0_laid_rounds i_p0_laid_home i_p0_laid_noise i_p0_laid_blowCount i_p0_laid_judgeCount i_p0_reader_place f_p0_draft_blows f_p0_draft_downs f_p0_draft_forward f_p0_draft_judges f_p0_draft_taken f_p0_laid_blows f_p0_laid_downs f_p0_laid_forward f_p0_laid_judges f_p0_laid_leads f_p0_laid_seenBy f_p0_laid_sums f_p0_laid_taken f_p0_notes_delays f_p0_reader_numbers (N + 1) 1 (nI J) f' (nI (txtL its).length) bytes' b' j' := by
  obtain ⟨y, hy⟩ := cell_s sX hL (i := 0) (by omega) (c := 0) rfl
  obtain ⟨r0, h0, e0⟩ := some_s y (c := 5) (n := 5) rfl (by omega) (by omega)
  obtain ⟨r1, h1, e1⟩ := some_s (y >>> ((3 : Int32) &&& 31)) (c := 3) (n := 3) rfl (by omega) (by omega)
  obtain ⟨r2, h2, e2⟩ := some_s (y >>> ((6 : Int32) &&& 31)) (c := 13) (n := 13) rfl (by omega) (by omega)
  obtain ⟨r3, h3, e3⟩ := and_one (y >>> ((10 : Int32) &&& 31))
  obtain ⟨r4, h4, e4⟩ := some_s (y >>> ((11 : Int32) &&& 31)) (c := 10) (n := 10) rfl (by omega) (by omega)
  have l1 : (itemL (114, 1, vL [1 + r0])).length = 3 := by
    show (sepF (vL [1 + r0]) 0 1).length + 1 = 3
    rw [len_sep]
    show (numL (1 + r0)).length + (0 + 1) + 1 = 3
    rw [len_num (by omega)]
  have l2 : (itemL (104, 2, vL [r3, r4])).length = 5 := by
    show (sepF (vL [r3, r4]) 0 2).length + 1 = 5
    rw [len_sep, len_sep]
    show (numL r3).length + ((numL r4).length + (0 + 1) + 1) + 1 = 5
    rw [len_num (by omega), len_num (by omega)]
  have t2 : txtL [(114, 1, vL [1 + r0]), (104, 2, vL [r3, r4])] = itemL (114, 1, vL [1 + r0]) ++ itemL (104, 2, vL [r3, r4]) := by
    show itemL (114, 1, vL [1 + r0]) ++ txtL [(104, 2, vL [r3, r4])] = _
    rw [txtL_one]
  have hrun : Run clrA [(114, 1, vL [1 + r0]), (104, 2, vL [r3, r4])] (setH (setR clrA (1 + r0)) r3 r4) := by
    refine ⟨setR clrA (1 + r0), Or.inl ⟨rfl, rfl, fun i _ hi => ?_, rfl⟩, setH (setR clrA (1 + r0)) r3 r4, Or.inr (Or.inr (Or.inr (Or.inr (Or.inr (Or.inl ⟨rfl, rfl, fun i _ hi => ?_, rfl⟩))))), rfl⟩
    · obtain rfl : i = 0 := by omega
      exact ⟨by show 1 ≤ 1 + r0; omega, by show 1 + r0 ≤ 12; omega⟩
    · rcases (show i = 0 ∨ i = 1 by omega) with rfl | rfl
      · exact ⟨Nat.zero_le _, by show r3 ≤ 1; omega⟩
      · exact ⟨Nat.zero_le _, by show r4 ≤ 9; omega⟩
  obtain ⟨i1, a1, p1, p2, p3, p4, p5, p6, p7⟩ := blows_loop (sX := sX) hL (R := 1 + r0) (B := r2) (by omega) (by omega) r2 0 _ _ (by omega) hrun rfl (by rw [t2, List.length_append, l1, l2]; omega)
  obtain ⟨i2, a2, q1, q2, q3, q4, q5⟩ := six_loop (sX := sX) hL (R := 1 + r0) (L0 := 8 + 14 * r2) (by omega) (by omega) 6 0 i1 a1 rfl p1 (fun i => by rw [p4, p5]; exact ⟨Nat.le_refl 0, Nat.le_refl 0⟩) (by omega)
  obtain ⟨i3, a3, s1, s2, s3, s4, s5⟩ := judges_loop (sX := sX) hL (J := 3 + r1) (L1 := 8 + 14 * r2 + 42) (by omega) (by omega) (3 + r1) 0 i2 a2 (by omega) q1 (q2.trans (p2.trans rfl)) (by omega)
  refine ⟨i3, a3, 1 + r0, 3 + r1, ⟨by omega, by omega⟩, ⟨by omega, by omega⟩, s1, s2, s3.trans (q3.trans (p3.trans rfl)), ?_⟩
  intro i_p0_keptCount i_p0_draft_rounds i_p0_draft_home i_p0_draft_noise i_p0_draft_blowCount i_p0_draft_judgeCount i_p0_laid_rounds i_p0_laid_home i_p0_laid_noise i_p0_laid_blowCount i_p0_laid_judgeCount i_p0_reader_place f_p0_draft_blows f_p0_draft_downs f_p0_draft_forward f_p0_draft_judges f_p0_draft_taken f_p0_laid_blows f_p0_laid_downs f_p0_laid_forward f_p0_laid_judges f_p0_laid_leads f_p0_laid_seenBy f_p0_laid_sums f_p0_laid_taken f_p0_notes_delays f_p0_reader_numbers f len bytes b j hn hf
  obtain ⟨n0, hn0, rfl⟩ := hn
  have hw : mX10_wipe (nI n0) = some (nI n0, 0) := rfl
  have T0 : TC [] 0 bytes := ⟨by show 0 ≤ 500; omega, rfl, fun k hk => absurd hk (Nat.not_lt_zero k)⟩
  obtain ⟨b1, c1, d1⟩ := item_s (l := 114) (M := 1) (vL [1 + r0]) (by omega) (by omega) (fun i hi => by
    have e : i = 0 := by omega
    subst e
    show 1 + r0 < 1000
    omega) T0 (by rw [l1]; show 0 + 3 ≤ 500; omega)
  rw [List.nil_append] at c1 d1
  obtain ⟨b2, c2, d2⟩ := item_s (l := 104) (M := 2) (vL [r3, r4]) (by omega) (by omega) (fun i hi => by
    rcases (show i = 0 ∨ i = 1 by omega) with rfl | rfl
    · show r3 < 1000; omega
    · show r4 < 1000; omega) d1 (by rw [l1, l2]; omega)
  rw [← t2] at c2 d2
  have c1 : mL_item 114 1 (nI (1 + r0)) 0 0 0 0 0 0 0 bytes = some (1, b1, nI (itemL (114, 1, vL [1 + r0])).length) := c1
  have c2 : mL_item 104 2 (nI r3) (nI r4) 0 0 0 0 0 (nI (itemL (114, 1, vL [1 + r0])).length) b1 = some (1, b2, nI (txtL [(114, 1, vL [1 + r0]), (104, 2, vL [r3, r4])]).length) := c2
  have v0 : (upd (upd (upd (upd (upd f 0 (nI (1 + r0))) 1 (nI (3 + r1))) 2 (nI r2)) 3 (nI r3)) 4 (nI r4)) 0 = nI (1 + r0) := by rw [upd_n (by omega), upd_n (by omega), upd_n (by omega), upd_n (by omega), upd_s]
  have v1 : (upd (upd (upd (upd (upd f 0 (nI (1 + r0))) 1 (nI (3 + r1))) 2 (nI r2)) 3 (nI r3)) 4 (nI r4)) 1 = nI (3 + r1) := by rw [upd_n (by omega), upd_n (by omega), upd_n (by omega), upd_s]
  have v2 : (upd (upd (upd (upd (upd f 0 (nI (1 + r0))) 1 (nI (3 + r1))) 2 (nI r2)) 3 (nI r3)) 4 (nI r4)) 2 = nI r2 := by rw [upd_n (by omega), upd_n (by omega), upd_s]
  have v3 : (upd (upd (upd (upd (upd f 0 (nI (1 + r0))) 1 (nI (3 + r1))) 2 (nI r2)) 3 (nI r3)) 4 (nI r4)) 3 = nI r3 := by rw [upd_n (by omega), upd_s]
  have v4 : (upd (upd (upd (upd (upd f 0 (nI (1 + r0))) 1 (nI (3 + r1))) 2 (nI r2)) 3 (nI r3)) 4 (nI r4)) 4 = nI r4 := by rw [upd_s]
  have vz : ∀ i, 5 ≤ i → i < 40 → (upd (upd (upd (upd (upd f 0 (nI (1 + r0))) 1 (nI (3 + r1))) 2 (nI r2)) 3 (nI r3)) 4 (nI r4)) i = 0 := fun i h5 h6 => by rw [upd_n (by omega), upd_n (by omega), upd_n (by omega), upd_n (by omega), upd_n (by omega)]; exact hf i h6
  obtain ⟨b', y1, z1, z2⟩ := p7 i_p0_keptCount i_p0_draft_rounds i_p0_draft_home i_p0_draft_noise i_p0_draft_blowCount i_p0_draft_judgeCount i_p0_laid_rounds i_p0_laid_home i_p0_laid_noise i_p0_laid_blowCount i_p0_laid_judgeCount i_p0_reader_place f_p0_draft_blows f_p0_draft_downs f_p0_draft_forward f_p0_draft_judges f_p0_draft_taken f_p0_laid_blows f_p0_laid_downs f_p0_laid_forward f_p0_laid_judges f_p0_laid_leads f_p0_laid_seenBy f_p0_laid_sums f_p0_laid_taken f_p0_notes_delays f_p0_reader_numbers (4095 - r2 + 1) (upd (upd (upd (upd (upd f 0 (nI (1 + r0))) 1 (nI (3 + r1))) 2 (nI r2)) 3 (nI r3)) 4 (nI r4)) _ b2 b j d2 v0 v2
  obtain ⟨f2, y2, w0, w1, z3, z4⟩ := q5 i_p0_keptCount i_p0_draft_rounds i_p0_draft_home i_p0_draft_noise i_p0_draft_blowCount i_p0_draft_judgeCount i_p0_laid_rounds i_p0_laid_home i_p0_laid_noise i_p0_laid_blowCount i_p0_laid_judgeCount i_p0_reader_place f_p0_draft_blows f_p0_draft_downs f_p0_draft_forward f_p0_draft_judges f_p0_draft_taken f_p0_laid_blows f_p0_laid_downs f_p0_laid_forward f_p0_laid_judges f_p0_laid_leads f_p0_laid_seenBy f_p0_laid_sums f_p0_laid_taken f_p0_notes_delays f_p0_reader_numbers (4089 + 1) (upd (upd (upd (upd (upd f 0 (nI (1 + r0))) 1 (nI (3 + r1))) 2 (nI r2)) 3 (nI r3)) 4 (nI r4)) _ y1 b' j z1 v0 (fun i hi => by rw [vz _ (by omega) (by omega), vz _ (by omega) (by omega), p4, p5]; exact ⟨rfl, rfl⟩)
  obtain ⟨j', y3, z5, z6⟩ := s5 i_p0_keptCount i_p0_draft_rounds i_p0_draft_home i_p0_draft_noise i_p0_draft_blowCount i_p0_draft_judgeCount i_p0_laid_rounds i_p0_laid_home i_p0_laid_noise i_p0_laid_blowCount i_p0_laid_judgeCount i_p0_reader_place f_p0_draft_blows f_p0_draft_downs f_p0_draft_forward f_p0_draft_judges f_p0_draft_taken f_p0_laid_blows f_p0_laid_downs f_p0_laid_forward f_p0_laid_judges f_p0_laid_leads f_p0_laid_seenBy f_p0_laid_sums f_p0_laid_taken f_p0_notes_delays f_p0_reader_numbers (4092 - r1 + 1) f2 _ y2 b' j z3 (w1.trans v1)
  refine ⟨f2, b', j', y3, 4092 - r1, w0.trans v0, w1.trans v1, z5, ?_⟩
  rw [show r2 + (4095 - r2 + 1) = FUEL by unfold FUEL; omega] at z2
  rw [show 6 + (4089 + 1) = FUEL by unfold FUEL; omega] at z4
  rw [show 3 + r1 + (4092 - r1 + 1) = FUEL by unfold FUEL; omega] at z6
  have x1 : mL_fight_p1t6_L124 sL sX 0 i_p0_keptCount i_p0_draft_rounds i_p0_draft_home i_p0_draft_noise i_p0_draft_blowCount i_p0_draft_judgeCount i_p0_laid_rounds i_p0_laid_home i_p0_laid_noise i_p0_laid_blowCount i_p0_laid_judgeCount i_p0_reader_place f_p0_draft_blows f_p0_draft_downs f_p0_draft_forward f_p0_draft_judges f_p0_draft_taken f_p0_laid_blows f_p0_laid_downs f_p0_laid_forward f_p0_laid_judges f_p0_laid_leads f_p0_laid_seenBy f_p0_laid_sums f_p0_laid_taken f_p0_notes_delays f_p0_reader_numbers (4095 - r2 + 1) 1 (nI r2) (upd (upd (upd (upd (upd f 0 (nI (1 + r0))) 1 (nI (3 + r1))) 2 (nI r2)) 3 (nI r3)) 4 (nI r4)) (nI (txtL i1).length) y1 b' j = mL_fight_p1t6_L338 sL sX 0 i_p0_keptCount i_p0_draft_rounds i_p0_draft_home i_p0_draft_noise i_p0_draft_blowCount i_p0_draft_judgeCount i_p0_laid_rounds i_p0_laid_home i_p0_laid_noise i_p0_laid_blowCount i_p0_laid_judgeCount i_p0_reader_place f_p0_draft_blows f_p0_draft_downs f_p0_draft_forward f_p0_draft_judges f_p0_draft_taken f_p0_laid_blows f_p0_laid_downs f_p0_laid_forward f_p0_laid_judges f_p0_laid_leads f_p0_laid_seenBy f_p0_laid_sums f_p0_laid_taken f_p0_notes_delays f_p0_reader_numbers FUEL 1 0 (upd (upd (upd (upd (upd f 0 (nI (1 + r0))) 1 (nI (3 + r1))) 2 (nI r2)) 3 (nI r3)) 4 (nI r4)) (nI (txtL i1).length) y1 b' j := by
    rw [eL_fight_p1t6_124]
    unfold mL_fight_p1t6_B124
    rw [show (2 : Int32).toNatClampNeg = 2 from rfl, v2, if_pos ((n_le (by omega) (by omega)).mpr (Nat.le_refl _))]
  have x2 : mL_fight_p1t6_L338 sL sX 0 i_p0_keptCount i_p0_draft_rounds i_p0_draft_home i_p0_draft_noise i_p0_draft_blowCount i_p0_draft_judgeCount i_p0_laid_rounds i_p0_laid_home i_p0_laid_noise i_p0_laid_blowCount i_p0_laid_judgeCount i_p0_reader_place f_p0_draft_blows f_p0_draft_downs f_p0_draft_forward f_p0_draft_judges f_p0_draft_taken f_p0_laid_blows f_p0_laid_downs f_p0_laid_forward f_p0_laid_judges f_p0_laid_leads f_p0_laid_seenBy f_p0_laid_sums f_p0_laid_taken f_p0_notes_delays f_p0_reader_numbers (4089 + 1) 1 (nI 6) f2 (nI (txtL i2).length) y2 b' j = mL_fight_p1t6_L560 sL sX 0 i_p0_keptCount i_p0_draft_rounds i_p0_draft_home i_p0_draft_noise i_p0_draft_blowCount i_p0_draft_judgeCount i_p0_laid_rounds i_p0_laid_home i_p0_laid_noise i_p0_laid_blowCount i_p0_laid_judgeCount i_p0_reader_place f_p0_draft_blows f_p0_draft_downs f_p0_draft_forward f_p0_draft_judges f_p0_draft_taken f_p0_laid_blows f_p0_laid_downs f_p0_laid_forward f_p0_laid_judges f_p0_laid_leads f_p0_laid_seenBy f_p0_laid_sums f_p0_laid_taken f_p0_notes_delays f_p0_reader_numbers FUEL 1 0 f2 (nI (txtL i2).length) y2 b' j := by
    rw [eL_fight_p1t6_338]
    unfold mL_fight_p1t6_B338
    rw [if_pos (show (6 : Int32) ≤ nI 6 from by decide)]
  have z2 : mL_fight_p1t6_L124 sL sX 0 i_p0_keptCount i_p0_draft_rounds i_p0_draft_home i_p0_draft_noise i_p0_draft_blowCount i_p0_draft_judgeCount i_p0_laid_rounds i_p0_laid_home i_p0_laid_noise i_p0_laid_blowCount i_p0_laid_judgeCount i_p0_reader_place f_p0_draft_blows f_p0_draft_downs f_p0_draft_forward f_p0_draft_judges f_p0_draft_taken f_p0_laid_blows f_p0_laid_downs f_p0_laid_forward f_p0_laid_judges f_p0_laid_leads f_p0_laid_seenBy f_p0_laid_sums f_p0_laid_taken f_p0_notes_delays f_p0_reader_numbers FUEL 1 0 (upd (upd (upd (upd (upd f 0 (nI (1 + r0))) 1 (nI (3 + r1))) 2 (nI r2)) 3 (nI r3)) 4 (nI r4)) (nI (txtL [(114, 1, vL [1 + r0]), (104, 2, vL [r3, r4])]).length) b2 b j = _ := z2
  have z4 : mL_fight_p1t6_L338 sL sX 0 i_p0_keptCount i_p0_draft_rounds i_p0_draft_home i_p0_draft_noise i_p0_draft_blowCount i_p0_draft_judgeCount i_p0_laid_rounds i_p0_laid_home i_p0_laid_noise i_p0_laid_blowCount i_p0_laid_judgeCount i_p0_reader_place f_p0_draft_blows f_p0_draft_downs f_p0_draft_forward f_p0_draft_judges f_p0_draft_taken f_p0_laid_blows f_p0_laid_downs f_p0_laid_forward f_p0_laid_judges f_p0_laid_leads f_p0_laid_seenBy f_p0_laid_sums f_p0_laid_taken f_p0_notes_delays f_p0_reader_numbers FUEL 1 0 (upd (upd (upd (upd (upd f 0 (nI (1 + r0))) 1 (nI (3 + r1))) 2 (nI r2)) 3 (nI r3)) 4 (nI r4)) (nI (txtL i1).length) y1 b' j = _ := z4
  have z6 : mL_fight_p1t6_L560 sL sX 0 i_p0_keptCount i_p0_draft_rounds i_p0_draft_home i_p0_draft_noise i_p0_draft_blowCount i_p0_draft_judgeCount i_p0_laid_rounds i_p0_laid_home i_p0_laid_noise i_p0_laid_blowCount i_p0_laid_judgeCount i_p0_reader_place f_p0_draft_blows f_p0_draft_downs f_p0_draft_forward f_p0_draft_judges f_p0_draft_taken f_p0_laid_blows f_p0_laid_downs f_p0_laid_forward f_p0_laid_judges f_p0_laid_leads f_p0_laid_seenBy f_p0_laid_sums f_p0_laid_taken f_p0_notes_delays f_p0_reader_numbers FUEL 1 0 f2 (nI (txtL i2).length) y2 b' j = _ := z6
  rw [← z6, ← x2, ← z4, ← x1, ← z2]
  unfold mL_fight_p1t6
  rw [hy, b_some, e0, b_some, show (0 : Int32).toNatClampNeg = 0 from rfl, show (1 : Int32) + nI r0 = nI (1 + r0) from n_add 1 r0, lb_d, e1, b_some, show (1 : Int32).toNatClampNeg = 1 from rfl, show (3 : Int32) + nI r1 = nI (3 + r1) from n_add 3 r1, lb_d, e2, b_some, show (2 : Int32).toNatClampNeg = 2 from rfl, lb_d, e3, show (3 : Int32).toNatClampNeg = 3 from rfl, lb_d, e4, b_some, show (4 : Int32).toNatClampNeg = 4 from rfl, lb_d, hw, b_some, if_neg (show ¬ nI n0 < 0 from nI_pos (by omega)), v0, v3, v4, c1, b_some, if_neg (show ¬ (1 : Int32) = 0 by decide), c2, b_some, if_neg (show ¬ (1 : Int32) = 0 by decide)]
