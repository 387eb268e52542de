/-! READ: fault and lay of such a text -/
theorem TC_TB {T : List Nat} {len : Int32} {bytes : Nat → Int32} (h : TC T len bytes) : TB T.length (fun k => T.getD k 0) bytes (fun k => nI (T.getD k 0)) := fun k hk => ⟨(h.2.2 k hk).1, rfl, (h.2.2 k hk).2⟩
theorem AtL_all (T : List Nat) : AtL T.length (fun k => T.getD k 0) 0 T := ⟨by omega, fun k hk => by show T.getD (0 + k) 0 = _; rw [Nat.zero_add]⟩
theorem clr_rc (cbl cjd cfw cdn ctk : Nat → Int32) : RCr clrA 12 0 0 0 0 cbl cjd (fun k => if k < 24 then 0 else cfw k) (fun k => if k < 24 then 0 else cdn k) (fun k => if k < 24 then 0 else ctk k) := by
  have z : ∀ (f : Nat → Int32) (k : Nat), k < 24 → (fun k => if k < 24 then (0 : Int32) else f k) k = nI 0 := fun f k hk => by show (if k < 24 then (0 : Int32) else f k) = nI 0; rw [if_pos hk]; rfl
  exact ⟨rfl, rfl, rfl, rfl, rfl, fun k hk => absurd hk (by show ¬ k < 5 * 0; omega), fun k hk => absurd hk (by show ¬ k < 7 * 0; omega), z cfw, z cdn, z ctk⟩
theorem readInto_run {its : List IT} {b : AT} {len : Int32} {bytes : Nat → Int32} (hT : TC (txtL its) len bytes) (hr : Run clrA its b) (pl : Int32) (nums : Nat → Int32) (rounds home noise bc jc : Int32) (cbl cdn cfw cjd ctk : Nat → Int32) : ∃ oc : OC, mX6_readInto pl nums len bytes rounds home noise bc jc cbl cdn cfw cjd ctk = some oc ∧ oc.1 = -4 ∧ OKD b ∧ OC1 b oc := by
  have hB := TC_TB hT
  obtain ⟨h1, rfl, h3⟩ := hT
  obtain ⟨oc, e1, e2⟩ := read_run hB h1 its 0 0 FUEL nums (by unfold FUEL; omega) (by omega) (Nat.le_refl _) (AtL_all _) clr_ok hr (clr_rc cbl cjd cfw cdn ctk)
  refine ⟨oc, ?_, e2⟩
  unfold mX6_readInto mX3_clear
  rw [fill_s _ 24 (by omega), b_some, fill_s _ 24 (by omega), b_some, fill_s _ 24 (by omega), b_some, b_some]
  exact e1
theorem fault_run {its : List IT} {b : AT} {len : Int32} {bytes : Nat → Int32} (hT : TC (txtL its) len bytes) (hr : Run clrA its b) (i_draft_rounds : Int32) (i_draft_home : Int32) (i_draft_noise : Int32) (i_draft_blowCount : Int32) (i_draft_judgeCount : Int32) (i_reader_place : Int32) (f_draft_blows : Nat → Int32) (f_draft_downs : Nat → Int32) (f_draft_forward : Nat → Int32) (f_draft_judges : Nat → Int32) (f_draft_taken : Nat → Int32) (f_reader_numbers : Nat → Int32) : ∃ oF, mX10_fault i_draft_rounds i_draft_home i_draft_noise i_draft_blowCount i_draft_judgeCount i_reader_place len f_draft_blows f_draft_downs f_draft_forward f_draft_judges f_draft_taken f_reader_numbers bytes = some oF ∧ oF.1 = -4 := by
  obtain ⟨oc, e1, e2, -⟩ := readInto_run hT hr i_reader_place f_reader_numbers i_draft_rounds i_draft_home i_draft_noise i_draft_blowCount i_draft_judgeCount f_draft_blows f_draft_downs f_draft_forward f_draft_judges f_draft_taken
  refine ⟨_, by unfold mX10_fault; rw [e1, b_some], e2⟩
set_option maxRecDepth 100000 in
theorem lay_run {its : List IT} {b : AT} {len : Int32} {bytes : Nat → Int32} (hT : TC (txtL its) len bytes) (hr : Run clrA its b) (h3 : 3 ≤ aJ b) (i_keptCount : Int32) (i_draft_rounds : Int32) (i_draft_home : Int32) (i_draft_noise : Int32) (i_draft_blowCount : Int32) (i_draft_judgeCount : Int32) (i_laid_rounds : Int32) (i_laid_home : Int32) (i_laid_noise : Int32) (i_laid_blowCount : Int32) (i_laid_judgeCount : Int32) (i_reader_place : Int32) (f_draft_blows : Nat → Int32) (f_draft_downs : Nat → Int32) (f_draft_forward : Nat → Int32) (f_draft_judges : Nat → Int32) (f_draft_taken : Nat → Int32) (f_laid_blows : Nat → Int32) (f_laid_downs : Nat → Int32) (f_laid_forward : Nat → Int32) (f_laid_judges : Nat → Int32) (f_laid_leads : Nat → Int32) (f_laid_seenBy : Nat → Int32) (f_laid_sums : Nat → Int32) (f_laid_taken : Nat → Int32) (f_notes_delays : Nat → Int32) (f_reader_numbers : Nat → Int32) {oL} (h : mX10_lay i_keptCount i_draft_rounds i_draft_home i_draft_noise i_draft_blowCount i_draft_judgeCount i_laid_rounds i_laid_home i_laid_noise i_laid_blowCount i_laid_judgeCount i_reader_place len f_draft_blows f_draft_downs f_draft_forward f_draft_judges f_draft_taken f_laid_blows f_laid_downs f_laid_forward f_laid_judges f_laid_leads f_laid_seenBy f_laid_sums f_laid_taken f_notes_delays f_reader_numbers bytes = some oL) : oL.1 = nI (aJ b) ∧ oL.2.2.2.2.2.2.2.2.2.2.2.2.2.1 = nI (aR b) ∧ oL.2.2.2.2.2.2.2.2.2.2.2.2.2.2.2.2.2.1 = nI (aJ b) := by
  obtain ⟨oc, e1, e2, e3, e4⟩ := readInto_run hT hr i_reader_place f_reader_numbers i_draft_rounds i_draft_home i_draft_noise i_draft_blowCount i_draft_judgeCount f_draft_blows f_draft_downs f_draft_forward f_draft_judges f_draft_taken
  obtain ⟨o5, f1, f2, f3, f4⟩ := readInto_run hT hr oc.2.2.2.2.2.2.2.2.2.1 oc.2.2.2.2.2.2.2.2.2.2.1 i_laid_rounds i_laid_home i_laid_noise i_laid_blowCount i_laid_judgeCount f_laid_blows f_laid_downs f_laid_forward f_laid_judges f_laid_taken
  have hJ := e3.2.2.1
  unfold mX10_lay at h
  rw [e1, b_some, if_pos e2, e4.2.2.2.2.1, if_pos (show (3 : Int32) ≤ nI (aJ b) from (n_le (a := 3) (by omega) (by omega)).mpr h3), f1, b_some] at h
  obtain ⟨o7, -, h⟩ := ob_s h
  obtain ⟨o9, -, h⟩ := ob_s h
  have h := Option.some.inj h
  subst h
  exact ⟨f4.2.2.2.2.1, f4.1, f4.2.2.2.2.1⟩
