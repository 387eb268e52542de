def mX10_write (x0 : Int32) (x1 : Int64) (i_text_length : Int32) (f_text_bytes : Nat → Int32) :
  Option (Int32 × (Nat → Int32) × Int32) :=
  (mX10_within x0 (1 : Int32) (8 : Int32)).bind fun o_1 =>
  if o_1 = 0 then (some ((-1 : Int32), f_text_bytes, i_text_length)) else ((mX8_append x0 x1 i_text_length f_text_bytes).bind fun o_4 =>
  if o_4.1 = 0 then (some ((-3 : Int32), o_4.2.1, o_4.2.2)) else (some (o_4.2.2, o_4.2.1, o_4.2.2)))
theorem hdsX10_write : yX10_write.cls ≠ "java/lang/invoke/MethodHandle" ∧ yX10_write.cls ≠ "java/lang/invoke/VarHandle" ∧ (parseMethodDescriptor yX10_write.desc).map (fun d => d.parameters.length) = some 2 := by decide +kernel
theorem hdvX10_write : yX10_write.cls = RX10 ∧ yX10_write.cls ≠ "java/lang/invoke/MethodHandle" ∧ yX10_write.cls ≠ "java/lang/invoke/VarHandle" ∧ (parseMethodDescriptor yX10_write.desc).map (fun d => d.parameters.length) = some 2 := by decide +kernel
abbrev rmX10_write : Room := { frames := 1, cells := 0, slots := 0, locals := 24 }
set_option maxHeartbeats 4000000 in
set_option maxRecDepth 100000 in
theorem qX10_write (l : Launch) (X : XT) (a_this : Nat) (a_text : Nat) (a_text_bytes : Nat) (a_reader : Nat) (a_draft : Nat) (a_laid : Nat) (a_cards : Nat) (a_flips : Nat) (a_bench : Nat) (a_notes : Nat) (a_presses : Nat) (a_told : Nat) (a_game : Nat) (a_kept : Nat)  (i_keptCount : Int32) (i_text_length : Int32) (f_text_bytes : Nat → Int32) (x0 : Int32) (x1 : Int64) (o : Int32 × (Nat → Int32) × Int32) (hf : mX10_write x0 x1 i_text_length f_text_bytes = some o) :
    MI l yX10_write wsX10_write rmX10_write X [.ref a_this, .int x0, .long x1] [(a_this, .inr (10, [.ref a_text, .ref a_reader, .ref a_draft, .ref a_laid, .ref a_cards, .ref a_flips, .ref a_bench, .ref a_notes, .ref a_presses, .ref a_told, .ref a_game, .ref a_kept, .int i_keptCount])), (a_text, .inr (8, [.ref a_text_bytes, .int i_text_length])), (a_text_bytes, .inl (X.2.1 2, 500, .inl f_text_bytes))]  [(a_this, .inr (10, [.ref a_text, .ref a_reader, .ref a_draft, .ref a_laid, .ref a_cards, .ref a_flips, .ref a_bench, .ref a_notes, .ref a_presses, .ref a_told, .ref a_game, .ref a_kept, .int i_keptCount])), (a_text, .inr (8, [.ref a_text_bytes, .int o.2.2])), (a_text_bytes, .inl (X.2.1 2, 500, .inl o.2.1))] o.1 := by
  refine MI_ofH (cc := cX10_write) (maxL := 4) (rt := .int) (by decide) rfl (Nat.le_of_ble_eq_true rfl) ?_
  intro p e s m below meth c A Q H ls hx hb hml hts hown hA hD hG hP hS hl ret
  have hown : s.vm.findClass RX10 = some m.cls := hown
  have hD : aD A [a_this, a_text, a_text_bytes] := hD
  have hl : lv_has ls 4 [(0, .ref a_this), (1, .int x0), (2, .long x1)] := hl
  have w1 := hts (.fieldLink RX10 10 "ThreeCards" "text" "LThreeCards$Text;") (List.mem_of_getElem? (i := 1) rfl)
  have in8 : ∀ w ∈ u_ws RX8 TX8 2, w ∈ wsX10_write := by decide +kernel
  have in10 : ∀ w ∈ u_ws RX10 TX10 13, w ∈ wsX10_write := by decide +kernel
  unfold mX10_write at hf
  refine lv_iload_n hx hb dX10_write_0 rfl (lv_at hl 1 rfl) ?_
  refine lv_iconst (v := (1 : Int32)) hx hb dX10_write_1 (by decide) ?_
  refine lv_bipush (v := (8 : Int32)) hx hb dX10_write_2 (by decide) ?_
  obtain ⟨o_1, ho_1, hf⟩ := ob_s hf
  refine xS_i (As := [.int x0, .int (1 : Int32), .int (8 : Int32)]) (rest := []) (ws2 := [(a_this, .inr (10, [.ref a_text, .ref a_reader, .ref a_draft, .ref a_laid, .ref a_cards, .ref a_flips, .ref a_bench, .ref a_notes, .ref a_presses, .ref a_told, .ref a_game, .ref a_kept, .int i_keptCount])), (a_text, .inr (8, [.ref a_text_bytes, .int i_text_length])), (a_text_bytes, .inl (X.2.1 2, 500, .inl f_text_bytes))]) hx hb hml hts hown hG hA hP hD rfl hS hl.1 (qX10_within l X x0 (1 : Int32) (8 : Int32) o_1 ho_1) (va_cwS (y := yX10_within) 3 hts gX10_write_X10_within rfl rfl rfl hdsX10_within ⟨Nat.le_of_ble_eq_true rfl, Nat.le_of_ble_eq_true rfl⟩) [] [0, 1, 2] [0, 1, 2] rfl rfl rfl rfl rfl rfl rfl rfl rfl (Nat.le_of_ble_eq_true rfl) ⟨Nat.le_of_ble_eq_true rfl, Nat.le_of_ble_eq_true rfl⟩ dX10_write_4 (fun H locs hP _ hS => ?_)
  refine lv_if_ne (tgt := 12) hx hb dX10_write_7 (by decide) (fun c_3 => ?_) (fun c_3 => ?_)
  · have hf := xf hf c_3
    refine lv_aload_n hx hb dX10_write_12 rfl (lv_at hl 0 rfl) ?_
    refine va_get (D := X.1) (ci := 10) (v := .ref a_text) (C := RX10) (T := TX10) (N := 13) hx hb hts in10 hown hG.1 hP 0 rfl rfl 0 (by decide) w1 (fun _ h9 => h9) rfl dX10_write_13 ?_
    refine lv_iload_n hx hb dX10_write_16 rfl (lv_at hl 1 rfl) ?_
    refine lv_lload_n hx hb dX10_write_17 rfl (lv_at hl 2 rfl) ?_
    obtain ⟨o_4, ho_4, hf⟩ := ob_s hf
    refine xV_i (As := [.int x0, .long x1]) (b := a_text) (rest := []) (ws2 := [(a_this, .inr (10, [.ref a_text, .ref a_reader, .ref a_draft, .ref a_laid, .ref a_cards, .ref a_flips, .ref a_bench, .ref a_notes, .ref a_presses, .ref a_told, .ref a_game, .ref a_kept, .int i_keptCount])), (a_text, .inr (8, [.ref a_text_bytes, .int o_4.2.2])), (a_text_bytes, .inl (X.2.1 2, 500, .inl o_4.2.1))]) hx hb hml hts hown hG hA hP hD rfl hS hl.1 (qX8_append l X a_text a_text_bytes i_text_length f_text_bytes x0 x1 o_4 ho_4) (cwV (y := yX8_append) 2 hts gX10_write_X8_append rfl rfl rfl hdvX8_append ⟨Nat.le_of_ble_eq_true rfl, Nat.le_of_ble_eq_true rfl⟩) [1, 2] [0] [0, 1, 2] rfl rfl rfl rfl rfl rfl rfl (ci := 8) rfl 1 rfl rfl rfl (Nat.le_of_ble_eq_true rfl) ⟨Nat.le_of_ble_eq_true rfl, Nat.le_of_ble_eq_true rfl⟩ dX10_write_18 (fun H locs hP _ hS => ?_)
    refine lv_if_eq (tgt := 34) hx hb dX10_write_21 (by decide) (fun c_6 => ?_) (fun c_6 => ?_)
    · have hf := xt hf c_6
      refine lv_bipush (v := (-3 : Int32)) hx hb dX10_write_34 (by decide) ?_
      obtain rfl := Option.some.inj hf
      exact ret H _ ls _ rfl hP hD hS dX10_write_36
    · have hf := xf hf c_6
      refine lv_aload_n hx hb dX10_write_24 rfl (lv_at hl 0 rfl) ?_
      refine va_get (D := X.1) (ci := 10) (v := .ref a_text) (C := RX10) (T := TX10) (N := 13) hx hb hts in10 hown hG.1 hP 0 rfl rfl 0 (by decide) w1 (fun _ h9 => h9) rfl dX10_write_25 ?_
      refine va_getN (D := X.1) (ci := 8) (v := .int o_4.2.2) (C := RX8) (T := TX8) (N := 2) hx hb hts in8 hown hG.1 hP 1 rfl rfl 1 (by decide) (va_Nw.use rfl (nf1 hG.2.1)) (fun _ h9 => h9) rfl dX10_write_28 ?_
      refine lv_goto (tgt := 36) hx hb dX10_write_31 (by decide) ?_
      obtain rfl := Option.some.inj hf
      exact ret H _ ls _ rfl hP hD hS dX10_write_36
  · have hf := xt hf c_3
    refine lv_iconst (v := (-1 : Int32)) hx hb dX10_write_10 (by decide) ?_
    obtain rfl := Option.some.inj hf
    exact ret H _ ls _ rfl hP hD hS dX10_write_11
def mX10_wipe (i_text_length : Int32) :
  Option (Int32 × Int32) :=
  (mX8_empty i_text_length).bind fun o_1 =>
  some (o_1.1, o_1.2)
theorem hdsX10_wipe : yX10_wipe.cls ≠ "java/lang/invoke/MethodHandle" ∧ yX10_wipe.cls ≠ "java/lang/invoke/VarHandle" ∧ (parseMethodDescriptor yX10_wipe.desc).map (fun d => d.parameters.length) = some 0 := by decide +kernel
theorem hdvX10_wipe : yX10_wipe.cls = RX10 ∧ yX10_wipe.cls ≠ "java/lang/invoke/MethodHandle" ∧ yX10_wipe.cls ≠ "java/lang/invoke/VarHandle" ∧ (parseMethodDescriptor yX10_wipe.desc).map (fun d => d.parameters.length) = some 0 := by decide +kernel
abbrev rmX10_wipe : Room := { frames := 1, cells := 0, slots := 0, locals := 21 }
set_option maxHeartbeats 4000000 in
set_option maxRecDepth 100000 in
theorem qX10_wipe (l : Launch) (X : XT) (a_this : Nat) (a_text : Nat) (a_reader : Nat) (a_draft : Nat) (a_laid : Nat) (a_cards : Nat) (a_flips : Nat) (a_bench : Nat) (a_notes : Nat) (a_presses : Nat) (a_told : Nat) (a_game : Nat) (a_kept : Nat) (a_text_bytes : Nat)  (i_keptCount : Int32) (i_text_length : Int32)  (o : Int32 × Int32) (hf : mX10_wipe i_text_length = some o) :
    MI l yX10_wipe wsX10_wipe rmX10_wipe X [.ref a_this] [(a_this, .inr (10, [.ref a_text, .ref a_reader, .ref a_draft, .ref a_laid, .ref a_cards, .ref a_flips, .ref a_bench, .ref a_notes, .ref a_presses, .ref a_told, .ref a_game, .ref a_kept, .int i_keptCount])), (a_text, .inr (8, [.ref a_text_bytes, .int i_text_length]))]  [(a_this, .inr (10, [.ref a_text, .ref a_reader, .ref a_draft, .ref a_laid, .ref a_cards, .ref a_flips, .ref a_bench, .ref a_notes, .ref a_presses, .ref a_told, .ref a_game, .ref a_kept, .int i_keptCount])), (a_text, .inr (8, [.ref a_text_bytes, .int o.2]))] o.1 := by
  refine MI_ofH (cc := cX10_wipe) (maxL := 1) (rt := .int) (by decide) rfl (Nat.le_of_ble_eq_true rfl) ?_
  intro p e s m below meth c A Q H ls hx hb hml hts hown hA hD hG hP hS hl ret
  have hown : s.vm.findClass RX10 = some m.cls := hown
  have hD : aD A [a_this, a_text] := hD
  have hl : lv_has ls 1 [(0, .ref a_this)] := hl
  have w1 := hts (.fieldLink RX10 10 "ThreeCards" "text" "LThreeCards$Text;") (List.mem_of_getElem? (i := 1) rfl)
  have in10 : ∀ w ∈ u_ws RX10 TX10 13, w ∈ wsX10_wipe := by decide +kernel
  unfold mX10_wipe at hf
  refine lv_aload_n hx hb dX10_wipe_0 rfl (lv_at hl 0 rfl) ?_
  refine va_get (D := X.1) (ci := 10) (v := .ref a_text) (C := RX10) (T := TX10) (N := 13) hx hb hts in10 hown hG.1 hP 0 rfl rfl 0 (by decide) w1 (fun _ h9 => h9) rfl dX10_wipe_1 ?_
  obtain ⟨o_1, ho_1, hf⟩ := ob_s hf
  refine xV_i (As := []) (b := a_text) (rest := []) (ws2 := [(a_this, .inr (10, [.ref a_text, .ref a_reader, .ref a_draft, .ref a_laid, .ref a_cards, .ref a_flips, .ref a_bench, .ref a_notes, .ref a_presses, .ref a_told, .ref a_game, .ref a_kept, .int i_keptCount])), (a_text, .inr (8, [.ref a_text_bytes, .int o_1.2]))]) hx hb hml hts hown hG hA hP hD rfl hS hl.1 (qX8_empty l X a_text a_text_bytes i_text_length o_1 ho_1) (cwV (y := yX8_empty) 0 hts gX10_wipe_X8_empty rfl rfl rfl hdvX8_empty ⟨Nat.le_of_ble_eq_true rfl, Nat.le_of_ble_eq_true rfl⟩) [1] [0] [0, 1] rfl rfl rfl rfl rfl rfl rfl (ci := 8) rfl 1 rfl rfl rfl (Nat.le_of_ble_eq_true rfl) ⟨Nat.le_of_ble_eq_true rfl, Nat.le_of_ble_eq_true rfl⟩ dX10_wipe_4 (fun H locs hP _ hS => ?_)
  obtain rfl := Option.some.inj hf
  exact ret H _ ls _ rfl hP hD hS dX10_wipe_7
def mX10_blow (x0 : Int32) (x1 : Int32) (i_laid_blowCount : Int32) (f_laid_blows : Nat → Int32) (f_laid_seenBy : Nat → Int32) :
  Option (Int32) :=
  (mX10_within x0 (0 : Int32) (i_laid_blowCount - (1 : Int32))).bind fun o_1 =>
  if o_1 = 0 then (some (-1 : Int32)) else ((mX10_within x1 (0 : Int32) (5 : Int32)).bind fun o_4 =>
  if o_4 = 0 then (some (-1 : Int32)) else (if x1 = (5 : Int32) then (gi x0 40 <|
  lb (f_laid_seenBy x0.toNatClampNeg) fun v_11 =>
  some v_11) else ((mX3_blowPart x0 x1 f_laid_blows).bind fun o_8 =>
  some o_8)))
theorem hdsX10_blow : yX10_blow.cls ≠ "java/lang/invoke/MethodHandle" ∧ yX10_blow.cls ≠ "java/lang/invoke/VarHandle" ∧ (parseMethodDescriptor yX10_blow.desc).map (fun d => d.parameters.length) = some 2 := by decide +kernel
theorem hdvX10_blow : yX10_blow.cls = RX10 ∧ yX10_blow.cls ≠ "java/lang/invoke/MethodHandle" ∧ yX10_blow.cls ≠ "java/lang/invoke/VarHandle" ∧ (parseMethodDescriptor yX10_blow.desc).map (fun d => d.parameters.length) = some 2 := by decide +kernel
abbrev rmX10_blow : Room := { frames := 1, cells := 0, slots := 0, locals := 22 }
set_option maxHeartbeats 4000000 in
set_option maxRecDepth 100000 in
theorem qX10_blow (l : Launch) (X : XT) (a_this : Nat) (a_laid : Nat) (a_laid_blows : Nat) (a_laid_seenBy : Nat) (a_text : Nat) (a_reader : Nat) (a_draft : Nat) (a_cards : Nat) (a_flips : Nat) (a_bench : Nat) (a_notes : Nat) (a_presses : Nat) (a_told : Nat) (a_game : Nat) (a_kept : Nat) (a_laid_judges : Nat) (a_laid_forward : Nat) (a_laid_downs : Nat) (a_laid_taken : Nat) (a_laid_sums : Nat) (a_laid_leads : Nat)  (i_keptCount : Int32) (i_laid_rounds : Int32) (i_laid_home : Int32) (i_laid_noise : Int32) (i_laid_blowCount : Int32) (i_laid_judgeCount : Int32) (f_laid_blows : Nat → Int32) (f_laid_seenBy : Nat → Int32) (x0 : Int32) (x1 : Int32) (o : Int32) (hf : mX10_blow x0 x1 i_laid_blowCount f_laid_blows f_laid_seenBy = some o) :
    MI l yX10_blow wsX10_blow rmX10_blow X [.ref a_this, .int x0, .int x1] [(a_this, .inr (10, [.ref a_text, .ref a_reader, .ref a_draft, .ref a_laid, .ref a_cards, .ref a_flips, .ref a_bench, .ref a_notes, .ref a_presses, .ref a_told, .ref a_game, .ref a_kept, .int i_keptCount])), (a_laid, .inr (3, [.int i_laid_rounds, .int i_laid_home, .int i_laid_noise, .int i_laid_blowCount, .int i_laid_judgeCount, .ref a_laid_blows, .ref a_laid_judges, .ref a_laid_forward, .ref a_laid_downs, .ref a_laid_taken, .ref a_laid_seenBy, .ref a_laid_sums, .ref a_laid_leads])), (a_laid_blows, .inl (X.2.1 0, 200, .inl f_laid_blows)), (a_laid_seenBy, .inl (X.2.1 0, 40, .inl f_laid_seenBy))]  [(a_this, .inr (10, [.ref a_text, .ref a_reader, .ref a_draft, .ref a_laid, .ref a_cards, .ref a_flips, .ref a_bench, .ref a_notes, .ref a_presses, .ref a_told, .ref a_game, .ref a_kept, .int i_keptCount])), (a_laid, .inr (3, [.int i_laid_rounds, .int i_laid_home, .int i_laid_noise, .int i_laid_blowCount, .int i_laid_judgeCount, .ref a_laid_blows, .ref a_laid_judges, .ref a_laid_forward, .ref a_laid_downs, .ref a_laid_taken, .ref a_laid_seenBy, .ref a_laid_sums, .ref a_laid_leads])), (a_laid_blows, .inl (X.2.1 0, 200, .inl f_laid_blows)), (a_laid_seenBy, .inl (X.2.1 0, 40, .inl f_laid_seenBy))] o := by
  refine MI_ofH (cc := cX10_blow) (maxL := 3) (rt := .int) (by decide) rfl (Nat.le_of_ble_eq_true rfl) ?_
  intro p e s m below meth c A Q H ls hx hb hml hts hown hA hD hG hP hS hl ret
  have hown : s.vm.findClass RX10 = some m.cls := hown
  have hD : aD A [a_this, a_laid, a_laid_blows, a_laid_seenBy] := hD
  have hl : lv_has ls 3 [(0, .ref a_this), (1, .int x0), (2, .int x1)] := hl
  have w1 := hts (.fieldLink RX10 32 "ThreeCards" "laid" "LThreeCards$Fight;") (List.mem_of_getElem? (i := 1) rfl)
  have in3 : ∀ w ∈ u_ws RX3 TX3 13, w ∈ wsX10_blow := by decide +kernel
  have in10 : ∀ w ∈ u_ws RX10 TX10 13, w ∈ wsX10_blow := by decide +kernel
  unfold mX10_blow at hf
  refine lv_iload_n hx hb dX10_blow_0 rfl (lv_at hl 1 rfl) ?_
  refine lv_iconst (v := (0 : Int32)) hx hb dX10_blow_1 (by decide) ?_
  refine lv_aload_n hx hb dX10_blow_2 rfl (lv_at hl 0 rfl) ?_
  refine va_get (D := X.1) (ci := 10) (v := .ref a_laid) (C := RX10) (T := TX10) (N := 13) hx hb hts in10 hown hG.1 hP 0 rfl rfl 3 (by decide) w1 (fun _ h9 => h9) rfl dX10_blow_3 ?_
  refine va_getN (D := X.1) (ci := 3) (v := .int i_laid_blowCount) (C := RX3) (T := TX3) (N := 13) hx hb hts in3 hown hG.1 hP 1 rfl rfl 3 (by decide) (va_Nw.use rfl (nf7 hG.2.1)) (fun _ h9 => h9) rfl dX10_blow_6 ?_
  refine lv_iconst (v := (1 : Int32)) hx hb dX10_blow_9 (by decide) ?_
  refine lv_isub hx hb dX10_blow_10 ?_
  obtain ⟨o_1, ho_1, hf⟩ := ob_s hf
  refine xS_i (As := [.int x0, .int (0 : Int32), .int (i_laid_blowCount - (1 : Int32))]) (rest := []) (ws2 := [(a_this, .inr (10, [.ref a_text, .ref a_reader, .ref a_draft, .ref a_laid, .ref a_cards, .ref a_flips, .ref a_bench, .ref a_notes, .ref a_presses, .ref a_told, .ref a_game, .ref a_kept, .int i_keptCount])), (a_laid, .inr (3, [.int i_laid_rounds, .int i_laid_home, .int i_laid_noise, .int i_laid_blowCount, .int i_laid_judgeCount, .ref a_laid_blows, .ref a_laid_judges, .ref a_laid_forward, .ref a_laid_downs, .ref a_laid_taken, .ref a_laid_seenBy, .ref a_laid_sums, .ref a_laid_leads])), (a_laid_blows, .inl (X.2.1 0, 200, .inl f_laid_blows)), (a_laid_seenBy, .inl (X.2.1 0, 40, .inl f_laid_seenBy))]) hx hb hml hts hown hG hA hP hD rfl hS hl.1 (qX10_within l X x0 (0 : Int32) (i_laid_blowCount - (1 : Int32)) o_1 ho_1) (va_cwS (y := yX10_within) 3 hts gX10_blow_X10_within rfl rfl rfl hdsX10_within ⟨Nat.le_of_ble_eq_true rfl, Nat.le_of_ble_eq_true rfl⟩) [] [0, 1, 2, 3] [0, 1, 2, 3] rfl rfl rfl rfl rfl rfl rfl rfl rfl (Nat.le_of_ble_eq_true rfl) ⟨Nat.le_of_ble_eq_true rfl, Nat.le_of_ble_eq_true rfl⟩ dX10_blow_11 (fun H locs hP _ hS => ?_)
  refine lv_if_eq (tgt := 26) hx hb dX10_blow_14 (by decide) (fun c_3 => ?_) (fun c_3 => ?_)
  · have hf := xt hf c_3
    refine lv_iconst (v := (-1 : Int32)) hx hb dX10_blow_26 (by decide) ?_
    obtain rfl := Option.some.inj hf
    exact ret H _ ls _ rfl hP hD hS dX10_blow_27
  · have hf := xf hf c_3
    refine lv_iload_n hx hb dX10_blow_17 rfl (lv_at hl 2 rfl) ?_
    refine lv_iconst (v := (0 : Int32)) hx hb dX10_blow_18 (by decide) ?_
    refine lv_iconst (v := (5 : Int32)) hx hb dX10_blow_19 (by decide) ?_
    obtain ⟨o_4, ho_4, hf⟩ := ob_s hf
    refine xS_i (As := [.int x1, .int (0 : Int32), .int (5 : Int32)]) (rest := []) (ws2 := [(a_this, .inr (10, [.ref a_text, .ref a_reader, .ref a_draft, .ref a_laid, .ref a_cards, .ref a_flips, .ref a_bench, .ref a_notes, .ref a_presses, .ref a_told, .ref a_game, .ref a_kept, .int i_keptCount])), (a_laid, .inr (3, [.int i_laid_rounds, .int i_laid_home, .int i_laid_noise, .int i_laid_blowCount, .int i_laid_judgeCount, .ref a_laid_blows, .ref a_laid_judges, .ref a_laid_forward, .ref a_laid_downs, .ref a_laid_taken, .ref a_laid_seenBy, .ref a_laid_sums, .ref a_laid_leads])), (a_laid_blows, .inl (X.2.1 0, 200, .inl f_laid_blows)), (a_laid_seenBy, .inl (X.2.1 0, 40, .inl f_laid_seenBy))]) hx hb hml hts hown hG hA hP hD rfl hS hl.1 (qX10_within l X x1 (0 : Int32) (5 : Int32) o_4 ho_4) (va_cwS (y := yX10_within) 3 hts gX10_blow_X10_within rfl rfl rfl hdsX10_within ⟨Nat.le_of_ble_eq_true rfl, Nat.le_of_ble_eq_true rfl⟩) [] [0, 1, 2, 3] [0, 1, 2, 3] rfl rfl rfl rfl rfl rfl rfl rfl rfl (Nat.le_of_ble_eq_true rfl) ⟨Nat.le_of_ble_eq_true rfl, Nat.le_of_ble_eq_true rfl⟩ dX10_blow_20 (fun H locs hP _ hS => ?_)
    refine lv_if_ne (tgt := 28) hx hb dX10_blow_23 (by decide) (fun c_6 => ?_) (fun c_6 => ?_)
    · have hf := xf hf c_6
      refine lv_iload_n hx hb dX10_blow_28 rfl (lv_at hl 2 rfl) ?_
      refine lv_iconst (v := (5 : Int32)) hx hb dX10_blow_29 (by decide) ?_
      refine lv_icmp_ne (tgt := 45) hx hb dX10_blow_30 (by decide) (fun c_7 => ?_) (fun c_7 => ?_)
      · have hf := xf hf c_7
        refine lv_aload_n hx hb dX10_blow_45 rfl (lv_at hl 0 rfl) ?_
        refine va_get (D := X.1) (ci := 10) (v := .ref a_laid) (C := RX10) (T := TX10) (N := 13) hx hb hts in10 hown hG.1 hP 0 rfl rfl 3 (by decide) w1 (fun _ h9 => h9) rfl dX10_blow_46 ?_
        refine lv_iload_n hx hb dX10_blow_49 rfl (lv_at hl 1 rfl) ?_
        refine lv_iload_n hx hb dX10_blow_50 rfl (lv_at hl 2 rfl) ?_
        obtain ⟨o_8, ho_8, hf⟩ := ob_s hf
        refine xV_i (As := [.int x0, .int x1]) (b := a_laid) (rest := []) (ws2 := [(a_this, .inr (10, [.ref a_text, .ref a_reader, .ref a_draft, .ref a_laid, .ref a_cards, .ref a_flips, .ref a_bench, .ref a_notes, .ref a_presses, .ref a_told, .ref a_game, .ref a_kept, .int i_keptCount])), (a_laid, .inr (3, [.int i_laid_rounds, .int i_laid_home, .int i_laid_noise, .int i_laid_blowCount, .int i_laid_judgeCount, .ref a_laid_blows, .ref a_laid_judges, .ref a_laid_forward, .ref a_laid_downs, .ref a_laid_taken, .ref a_laid_seenBy, .ref a_laid_sums, .ref a_laid_leads])), (a_laid_blows, .inl (X.2.1 0, 200, .inl f_laid_blows)), (a_laid_seenBy, .inl (X.2.1 0, 40, .inl f_laid_seenBy))]) hx hb hml hts hown hG hA hP hD rfl hS hl.1 (qX3_blowPart l X a_laid a_laid_blows a_laid_judges a_laid_forward a_laid_downs a_laid_taken a_laid_seenBy a_laid_sums a_laid_leads i_laid_rounds i_laid_home i_laid_noise i_laid_blowCount i_laid_judgeCount f_laid_blows x0 x1 o_8 ho_8) (cwV (y := yX3_blowPart) 2 hts gX10_blow_X3_blowPart rfl rfl rfl hdvX3_blowPart ⟨Nat.le_of_ble_eq_true rfl, Nat.le_of_ble_eq_true rfl⟩) [1, 2] [0, 3] [0, 2, 3, 1] rfl rfl rfl rfl rfl rfl rfl (ci := 3) rfl 1 rfl rfl rfl (Nat.le_of_ble_eq_true rfl) ⟨Nat.le_of_ble_eq_true rfl, Nat.le_of_ble_eq_true rfl⟩ dX10_blow_51 (fun H locs hP _ hS => ?_)
        obtain rfl := Option.some.inj hf
        exact ret H _ ls _ rfl hP hD hS dX10_blow_54
      · have hf := xt hf c_7
        refine lv_aload_n hx hb dX10_blow_33 rfl (lv_at hl 0 rfl) ?_
        refine va_get (D := X.1) (ci := 10) (v := .ref a_laid) (C := RX10) (T := TX10) (N := 13) hx hb hts in10 hown hG.1 hP 0 rfl rfl 3 (by decide) w1 (fun _ h9 => h9) rfl dX10_blow_34 ?_
        refine va_getN (D := X.1) (ci := 3) (v := .ref a_laid_seenBy) (C := RX3) (T := TX3) (N := 13) hx hb hts in3 hown hG.1 hP 1 rfl rfl 10 (by decide) (va_Nw.use rfl (nf11 hG.2.1)) (fun _ h9 => h9) rfl dX10_blow_37 ?_
        refine lv_iload_n hx hb dX10_blow_40 rfl (lv_at hl 1 rfl) ?_
        obtain ⟨h_10, hf⟩ := gi_s hf
        refine va_iald (D := X.1) hx hb hG.1 hP 3 0 rfl rfl h_10 dX10_blow_41 ?_
        refine lv_goto (tgt := 54) hx hb dX10_blow_42 (by decide) ?_
        refine lv_topi (fun v_11 ev_11 => ?_)
        have hf := lb_s hf ev_11
        obtain rfl := Option.some.inj hf
        exact ret H _ ls _ rfl hP hD hS dX10_blow_54
    · have hf := xt hf c_6
      refine lv_iconst (v := (-1 : Int32)) hx hb dX10_blow_26 (by decide) ?_
      obtain rfl := Option.some.inj hf
      exact ret H _ ls _ rfl hP hD hS dX10_blow_27
def mX10_isJudge (x0 : Int32) (i_laid_judgeCount : Int32) :
  Option (Int32) :=
  (mX10_within x0 (0 : Int32) (i_laid_judgeCount - (1 : Int32))).bind fun o_1 =>
  gz o_1 <|
  some o_1
theorem hdsX10_isJudge : yX10_isJudge.cls ≠ "java/lang/invoke/MethodHandle" ∧ yX10_isJudge.cls ≠ "java/lang/invoke/VarHandle" ∧ (parseMethodDescriptor yX10_isJudge.desc).map (fun d => d.parameters.length) = some 1 := by decide +kernel
theorem hdvX10_isJudge : yX10_isJudge.cls = RX10 ∧ yX10_isJudge.cls ≠ "java/lang/invoke/MethodHandle" ∧ yX10_isJudge.cls ≠ "java/lang/invoke/VarHandle" ∧ (parseMethodDescriptor yX10_isJudge.desc).map (fun d => d.parameters.length) = some 1 := by decide +kernel
abbrev rmX10_isJudge : Room := { frames := 1, cells := 0, slots := 0, locals := 22 }
set_option maxHeartbeats 4000000 in
set_option maxRecDepth 100000 in
theorem qX10_isJudge (l : Launch) (X : XT) (a_this : Nat) (a_laid : Nat) (a_text : Nat) (a_reader : Nat) (a_draft : Nat) (a_cards : Nat) (a_flips : Nat) (a_bench : Nat) (a_notes : Nat) (a_presses : Nat) (a_told : Nat) (a_game : Nat) (a_kept : Nat) (a_laid_blows : Nat) (a_laid_judges : Nat) (a_laid_forward : Nat) (a_laid_downs : Nat) (a_laid_taken : Nat) (a_laid_seenBy : Nat) (a_laid_sums : Nat) (a_laid_leads : Nat)  (i_keptCount : Int32) (i_laid_rounds : Int32) (i_laid_home : Int32) (i_laid_noise : Int32) (i_laid_blowCount : Int32) (i_laid_judgeCount : Int32) (x0 : Int32) (o : Int32) (hf : mX10_isJudge x0 i_laid_judgeCount = some o) :
    MI l yX10_isJudge wsX10_isJudge rmX10_isJudge X [.ref a_this, .int x0] [(a_this, .inr (10, [.ref a_text, .ref a_reader, .ref a_draft, .ref a_laid, .ref a_cards, .ref a_flips, .ref a_bench, .ref a_notes, .ref a_presses, .ref a_told, .ref a_game, .ref a_kept, .int i_keptCount])), (a_laid, .inr (3, [.int i_laid_rounds, .int i_laid_home, .int i_laid_noise, .int i_laid_blowCount, .int i_laid_judgeCount, .ref a_laid_blows, .ref a_laid_judges, .ref a_laid_forward, .ref a_laid_downs, .ref a_laid_taken, .ref a_laid_seenBy, .ref a_laid_sums, .ref a_laid_leads]))]  [(a_this, .inr (10, [.ref a_text, .ref a_reader, .ref a_draft, .ref a_laid, .ref a_cards, .ref a_flips, .ref a_bench, .ref a_notes, .ref a_presses, .ref a_told, .ref a_game, .ref a_kept, .int i_keptCount])), (a_laid, .inr (3, [.int i_laid_rounds, .int i_laid_home, .int i_laid_noise, .int i_laid_blowCount, .int i_laid_judgeCount, .ref a_laid_blows, .ref a_laid_judges, .ref a_laid_forward, .ref a_laid_downs, .ref a_laid_taken, .ref a_laid_seenBy, .ref a_laid_sums, .ref a_laid_leads]))] o := by
  refine MI_ofH (cc := cX10_isJudge) (maxL := 2) (rt := .boolean) (by decide) rfl (Nat.le_of_ble_eq_true rfl) ?_
  intro p e s m below meth c A Q H ls hx hb hml hts hown hA hD hG hP hS hl ret
  have hown : s.vm.findClass RX10 = some m.cls := hown
  have hD : aD A [a_this, a_laid] := hD
  have hl : lv_has ls 2 [(0, .ref a_this), (1, .int x0)] := hl
  have w1 := hts (.fieldLink RX10 32 "ThreeCards" "laid" "LThreeCards$Fight;") (List.mem_of_getElem? (i := 1) rfl)
  have in3 : ∀ w ∈ u_ws RX3 TX3 13, w ∈ wsX10_isJudge := by decide +kernel
  have in10 : ∀ w ∈ u_ws RX10 TX10 13, w ∈ wsX10_isJudge := by decide +kernel
  unfold mX10_isJudge at hf
  refine lv_iload_n hx hb dX10_isJudge_0 rfl (lv_at hl 1 rfl) ?_
  refine lv_iconst (v := (0 : Int32)) hx hb dX10_isJudge_1 (by decide) ?_
  refine lv_aload_n hx hb dX10_isJudge_2 rfl (lv_at hl 0 rfl) ?_
  refine va_get (D := X.1) (ci := 10) (v := .ref a_laid) (C := RX10) (T := TX10) (N := 13) hx hb hts in10 hown hG.1 hP 0 rfl rfl 3 (by decide) w1 (fun _ h9 => h9) rfl dX10_isJudge_3 ?_
  refine va_getN (D := X.1) (ci := 3) (v := .int i_laid_judgeCount) (C := RX3) (T := TX3) (N := 13) hx hb hts in3 hown hG.1 hP 1 rfl rfl 4 (by decide) (va_Nw.use rfl (nf9 hG.2.1)) (fun _ h9 => h9) rfl dX10_isJudge_6 ?_
  refine lv_iconst (v := (1 : Int32)) hx hb dX10_isJudge_9 (by decide) ?_
  refine lv_isub hx hb dX10_isJudge_10 ?_
  obtain ⟨o_1, ho_1, hf⟩ := ob_s hf
  refine xS_i (As := [.int x0, .int (0 : Int32), .int (i_laid_judgeCount - (1 : Int32))]) (rest := []) (ws2 := [(a_this, .inr (10, [.ref a_text, .ref a_reader, .ref a_draft, .ref a_laid, .ref a_cards, .ref a_flips, .ref a_bench, .ref a_notes, .ref a_presses, .ref a_told, .ref a_game, .ref a_kept, .int i_keptCount])), (a_laid, .inr (3, [.int i_laid_rounds, .int i_laid_home, .int i_laid_noise, .int i_laid_blowCount, .int i_laid_judgeCount, .ref a_laid_blows, .ref a_laid_judges, .ref a_laid_forward, .ref a_laid_downs, .ref a_laid_taken, .ref a_laid_seenBy, .ref a_laid_sums, .ref a_laid_leads]))]) hx hb hml hts hown hG hA hP hD rfl hS hl.1 (qX10_within l X x0 (0 : Int32) (i_laid_judgeCount - (1 : Int32)) o_1 ho_1) (va_cwS (y := yX10_within) 3 hts gX10_isJudge_X10_within rfl rfl rfl hdsX10_within ⟨Nat.le_of_ble_eq_true rfl, Nat.le_of_ble_eq_true rfl⟩) [] [0, 1] [0, 1] rfl rfl rfl rfl rfl rfl rfl rfl rfl (Nat.le_of_ble_eq_true rfl) ⟨Nat.le_of_ble_eq_true rfl, Nat.le_of_ble_eq_true rfl⟩ dX10_isJudge_11 (fun H locs hP _ hS => ?_)
  obtain ⟨h_3, hf⟩ := gz_s hf
  obtain rfl := Option.some.inj hf
  exact ret H _ ls _ h_3 hP hD hS dX10_isJudge_14
def mX10_isScored (x0 : Int32) (x1 : Int32) (i_laid_rounds : Int32) (i_laid_judgeCount : Int32) :
  Option (Int32) :=
  (mX10_isJudge x0 i_laid_judgeCount).bind fun o_1 =>
  if o_1 = 0 then (some (0 : Int32)) else ((mX10_within x1 (0 : Int32) (i_laid_rounds - (1 : Int32))).bind fun o_4 =>
  if o_4 = 0 then (some (0 : Int32)) else (some (1 : Int32)))
theorem hdsX10_isScored : yX10_isScored.cls ≠ "java/lang/invoke/MethodHandle" ∧ yX10_isScored.cls ≠ "java/lang/invoke/VarHandle" ∧ (parseMethodDescriptor yX10_isScored.desc).map (fun d => d.parameters.length) = some 2 := by decide +kernel
theorem hdvX10_isScored : yX10_isScored.cls = RX10 ∧ yX10_isScored.cls ≠ "java/lang/invoke/MethodHandle" ∧ yX10_isScored.cls ≠ "java/lang/invoke/VarHandle" ∧ (parseMethodDescriptor yX10_isScored.desc).map (fun d => d.parameters.length) = some 2 := by decide +kernel
abbrev rmX10_isScored : Room := { frames := 2, cells := 0, slots := 0, locals := 43 }
set_option maxHeartbeats 4000000 in
set_option maxRecDepth 100000 in
theorem qX10_isScored (l : Launch) (X : XT) (a_this : Nat) (a_laid : Nat) (a_text : Nat) (a_reader : Nat) (a_draft : Nat) (a_cards : Nat) (a_flips : Nat) (a_bench : Nat) (a_notes : Nat) (a_presses : Nat) (a_told : Nat) (a_game : Nat) (a_kept : Nat) (a_laid_blows : Nat) (a_laid_judges : Nat) (a_laid_forward : Nat) (a_laid_downs : Nat) (a_laid_taken : Nat) (a_laid_seenBy : Nat) (a_laid_sums : Nat) (a_laid_leads : Nat)  (i_keptCount : Int32) (i_laid_rounds : Int32) (i_laid_home : Int32) (i_laid_noise : Int32) (i_laid_blowCount : Int32) (i_laid_judgeCount : Int32) (x0 : Int32) (x1 : Int32) (o : Int32) (hf : mX10_isScored x0 x1 i_laid_rounds i_laid_judgeCount = some o) :
    MI l yX10_isScored wsX10_isScored rmX10_isScored X [.ref a_this, .int x0, .int x1] [(a_this, .inr (10, [.ref a_text, .ref a_reader, .ref a_draft, .ref a_laid, .ref a_cards, .ref a_flips, .ref a_bench, .ref a_notes, .ref a_presses, .ref a_told, .ref a_game, .ref a_kept, .int i_keptCount])), (a_laid, .inr (3, [.int i_laid_rounds, .int i_laid_home, .int i_laid_noise, .int i_laid_blowCount, .int i_laid_judgeCount, .ref a_laid_blows, .ref a_laid_judges, .ref a_laid_forward, .ref a_laid_downs, .ref a_laid_taken, .ref a_laid_seenBy, .ref a_laid_sums, .ref a_laid_leads]))]  [(a_this, .inr (10, [.ref a_text, .ref a_reader, .ref a_draft, .ref a_laid, .ref a_cards, .ref a_flips, .ref a_bench, .ref a_notes, .ref a_presses, .ref a_told, .ref a_game, .ref a_kept, .int i_keptCount])), (a_laid, .inr (3, [.int i_laid_rounds, .int i_laid_home, .int i_laid_noise, .int i_laid_blowCount, .int i_laid_judgeCount, .ref a_laid_blows, .ref a_laid_judges, .ref a_laid_forward, .ref a_laid_downs, .ref a_laid_taken, .ref a_laid_seenBy, .ref a_laid_sums, .ref a_laid_leads]))] o := by
  refine MI_ofH (cc := cX10_isScored) (maxL := 3) (rt := .boolean) (by decide) rfl (Nat.le_of_ble_eq_true rfl) ?_
  intro p e s m below meth c A Q H ls hx hb hml hts hown hA hD hG hP hS hl ret
  have hown : s.vm.findClass RX10 = some m.cls := hown
  have hD : aD A [a_this, a_laid] := hD
  have hl : lv_has ls 3 [(0, .ref a_this), (1, .int x0), (2, .int x1)] := hl
  have w1 := hts (.fieldLink RX10 32 "ThreeCards" "laid" "LThreeCards$Fight;") (List.mem_of_getElem? (i := 1) rfl)
  have in3 : ∀ w ∈ u_ws RX3 TX3 13, w ∈ wsX10_isScored := by decide +kernel
  have in10 : ∀ w ∈ u_ws RX10 TX10 13, w ∈ wsX10_isScored := by decide +kernel
  unfold mX10_isScored at hf
  refine lv_aload_n hx hb dX10_isScored_0 rfl (lv_at hl 0 rfl) ?_
  refine lv_iload_n hx hb dX10_isScored_1 rfl (lv_at hl 1 rfl) ?_
  obtain ⟨o_1, ho_1, hf⟩ := ob_s hf
  refine xV_i (As := [.int x0]) (b := a_this) (rest := []) (ws2 := [(a_this, .inr (10, [.ref a_text, .ref a_reader, .ref a_draft, .ref a_laid, .ref a_cards, .ref a_flips, .ref a_bench, .ref a_notes, .ref a_presses, .ref a_told, .ref a_game, .ref a_kept, .int i_keptCount])), (a_laid, .inr (3, [.int i_laid_rounds, .int i_laid_home, .int i_laid_noise, .int i_laid_blowCount, .int i_laid_judgeCount, .ref a_laid_blows, .ref a_laid_judges, .ref a_laid_forward, .ref a_laid_downs, .ref a_laid_taken, .ref a_laid_seenBy, .ref a_laid_sums, .ref a_laid_leads]))]) hx hb hml hts hown hG hA hP hD rfl hS hl.1 (qX10_isJudge l X a_this a_laid a_text a_reader a_draft a_cards a_flips a_bench a_notes a_presses a_told a_game a_kept a_laid_blows a_laid_judges a_laid_forward a_laid_downs a_laid_taken a_laid_seenBy a_laid_sums a_laid_leads i_keptCount i_laid_rounds i_laid_home i_laid_noise i_laid_blowCount i_laid_judgeCount x0 o_1 ho_1) (cwV (y := yX10_isJudge) 1 hts gX10_isScored_X10_isJudge rfl rfl rfl hdvX10_isJudge ⟨Nat.le_of_ble_eq_true rfl, Nat.le_of_ble_eq_true rfl⟩) [0, 1] [] [0, 1] rfl rfl rfl rfl rfl rfl rfl (ci := 10) rfl 0 rfl rfl rfl (Nat.le_of_ble_eq_true rfl) ⟨Nat.le_of_ble_eq_true rfl, Nat.le_of_ble_eq_true rfl⟩ dX10_isScored_2 (fun H locs hP _ hS => ?_)
  refine lv_if_eq (tgt := 29) hx hb dX10_isScored_5 (by decide) (fun c_3 => ?_) (fun c_3 => ?_)
  · have hf := xt hf c_3
    refine lv_iconst (v := (0 : Int32)) hx hb dX10_isScored_29 (by decide) ?_
    obtain rfl := Option.some.inj hf
    exact ret H _ ls _ (show narrow .boolean (.int (0 : Int32)) = .int (0 : Int32) from rfl) hP hD hS dX10_isScored_30
  · have hf := xf hf c_3
    refine lv_iload_n hx hb dX10_isScored_8 rfl (lv_at hl 2 rfl) ?_
    refine lv_iconst (v := (0 : Int32)) hx hb dX10_isScored_9 (by decide) ?_
    refine lv_aload_n hx hb dX10_isScored_10 rfl (lv_at hl 0 rfl) ?_
    refine va_get (D := X.1) (ci := 10) (v := .ref a_laid) (C := RX10) (T := TX10) (N := 13) hx hb hts in10 hown hG.1 hP 0 rfl rfl 3 (by decide) w1 (fun _ h9 => h9) rfl dX10_isScored_11 ?_
    refine va_getN (D := X.1) (ci := 3) (v := .int i_laid_rounds) (C := RX3) (T := TX3) (N := 13) hx hb hts in3 hown hG.1 hP 1 rfl rfl 0 (by decide) (va_Nw.use rfl (nf4 hG.2.1)) (fun _ h9 => h9) rfl dX10_isScored_14 ?_
    refine lv_iconst (v := (1 : Int32)) hx hb dX10_isScored_17 (by decide) ?_
    refine lv_isub hx hb dX10_isScored_18 ?_
    obtain ⟨o_4, ho_4, hf⟩ := ob_s hf
    refine xS_i (As := [.int x1, .int (0 : Int32), .int (i_laid_rounds - (1 : Int32))]) (rest := []) (ws2 := [(a_this, .inr (10, [.ref a_text, .ref a_reader, .ref a_draft, .ref a_laid, .ref a_cards, .ref a_flips, .ref a_bench, .ref a_notes, .ref a_presses, .ref a_told, .ref a_game, .ref a_kept, .int i_keptCount])), (a_laid, .inr (3, [.int i_laid_rounds, .int i_laid_home, .int i_laid_noise, .int i_laid_blowCount, .int i_laid_judgeCount, .ref a_laid_blows, .ref a_laid_judges, .ref a_laid_forward, .ref a_laid_downs, .ref a_laid_taken, .ref a_laid_seenBy, .ref a_laid_sums, .ref a_laid_leads]))]) hx hb hml hts hown hG hA hP hD rfl hS hl.1 (qX10_within l X x1 (0 : Int32) (i_laid_rounds - (1 : Int32)) o_4 ho_4) (va_cwS (y := yX10_within) 3 hts gX10_isScored_X10_within rfl rfl rfl hdsX10_within ⟨Nat.le_of_ble_eq_true rfl, Nat.le_of_ble_eq_true rfl⟩) [] [0, 1] [0, 1] rfl rfl rfl rfl rfl rfl rfl rfl rfl (Nat.le_of_ble_eq_true rfl) ⟨Nat.le_of_ble_eq_true rfl, Nat.le_of_ble_eq_true rfl⟩ dX10_isScored_19 (fun H locs hP _ hS => ?_)
    refine lv_if_eq (tgt := 29) hx hb dX10_isScored_22 (by decide) (fun c_6 => ?_) (fun c_6 => ?_)
    · have hf := xt hf c_6
      refine lv_iconst (v := (0 : Int32)) hx hb dX10_isScored_29 (by decide) ?_
      obtain rfl := Option.some.inj hf
      exact ret H _ ls _ (show narrow .boolean (.int (0 : Int32)) = .int (0 : Int32) from rfl) hP hD hS dX10_isScored_30
    · have hf := xf hf c_6
      refine lv_iconst (v := (1 : Int32)) hx hb dX10_isScored_25 (by decide) ?_
      refine lv_goto (tgt := 30) hx hb dX10_isScored_26 (by decide) ?_
      obtain rfl := Option.some.inj hf
      exact ret H _ ls _ (show narrow .boolean (.int (1 : Int32)) = .int (1 : Int32) from rfl) hP hD hS dX10_isScored_30
def mX10_isCorner (x0 : Int32) :
  Option (Int32) :=
  (mX10_within x0 (0 : Int32) (1 : Int32)).bind fun o_1 =>
  gz o_1 <|
  some o_1
theorem hdsX10_isCorner : yX10_isCorner.cls ≠ "java/lang/invoke/MethodHandle" ∧ yX10_isCorner.cls ≠ "java/lang/invoke/VarHandle" ∧ (parseMethodDescriptor yX10_isCorner.desc).map (fun d => d.parameters.length) = some 1 := by decide +kernel
abbrev rmX10_isCorner : Room := { frames := 1, cells := 0, slots := 0, locals := 22 }
set_option maxHeartbeats 4000000 in
set_option maxRecDepth 100000 in
theorem qX10_isCorner (l : Launch) (X : XT)    (x0 : Int32) (o : Int32) (hf : mX10_isCorner x0 = some o) :
    MI l yX10_isCorner wsX10_isCorner rmX10_isCorner X [.int x0] []  [] o := by
  refine MI_ofH (cc := cX10_isCorner) (maxL := 1) (rt := .boolean) (by decide) rfl (Nat.le_of_ble_eq_true rfl) ?_
  intro p e s m below meth c A Q H ls hx hb hml hts hown hA hD hG hP hS hl ret
  have hown : s.vm.findClass RX10 = some m.cls := hown
  have hD : aD A [] := hD
  have hl : lv_has ls 1 [(0, .int x0)] := hl
  unfold mX10_isCorner at hf
  refine lv_iload_n hx hb dX10_isCorner_0 rfl (lv_at hl 0 rfl) ?_
  refine lv_iconst (v := (0 : Int32)) hx hb dX10_isCorner_1 (by decide) ?_
  refine lv_iconst (v := (1 : Int32)) hx hb dX10_isCorner_2 (by decide) ?_
  obtain ⟨o_1, ho_1, hf⟩ := ob_s hf
  refine xS_i (As := [.int x0, .int (0 : Int32), .int (1 : Int32)]) (rest := []) (ws2 := []) hx hb hml hts hown hG hA hP hD rfl hS hl.1 (qX10_within l X x0 (0 : Int32) (1 : Int32) o_1 ho_1) (va_cwS (y := yX10_within) 3 hts gX10_isCorner_X10_within rfl rfl rfl hdsX10_within ⟨Nat.le_of_ble_eq_true rfl, Nat.le_of_ble_eq_true rfl⟩) [] [] [] rfl rfl rfl rfl rfl rfl rfl rfl rfl (Nat.le_of_ble_eq_true rfl) ⟨Nat.le_of_ble_eq_true rfl, Nat.le_of_ble_eq_true rfl⟩ dX10_isCorner_3 (fun H locs hP _ hS => ?_)
  obtain ⟨h_3, hf⟩ := gz_s hf
  obtain rfl := Option.some.inj hf
  exact ret H _ ls _ h_3 hP hD hS dX10_isCorner_6
def mX10_sum (x0 : Int32) (x1 : Int32) (x2 : Int32) (i_laid_rounds : Int32) (i_laid_judgeCount : Int32) (f_laid_sums : Nat → Int32) :
  Option (Int32) :=
  (mX10_isScored x0 x1 i_laid_rounds i_laid_judgeCount).bind fun o_1 =>
  if o_1 = 0 then (some (-1 : Int32)) else ((mX10_isCorner x2).bind fun o_4 =>
  if o_4 = 0 then (some (-1 : Int32)) else ((mX3_sumOf x0 x1 x2 f_laid_sums).bind fun o_7 =>
  some o_7))
theorem hdsX10_sum : yX10_sum.cls ≠ "java/lang/invoke/MethodHandle" ∧ yX10_sum.cls ≠ "java/lang/invoke/VarHandle" ∧ (parseMethodDescriptor yX10_sum.desc).map (fun d => d.parameters.length) = some 3 := by decide +kernel
theorem hdvX10_sum : yX10_sum.cls = RX10 ∧ yX10_sum.cls ≠ "java/lang/invoke/MethodHandle" ∧ yX10_sum.cls ≠ "java/lang/invoke/VarHandle" ∧ (parseMethodDescriptor yX10_sum.desc).map (fun d => d.parameters.length) = some 3 := by decide +kernel
abbrev rmX10_sum : Room := { frames := 3, cells := 0, slots := 0, locals := 65 }
set_option maxHeartbeats 4000000 in
set_option maxRecDepth 100000 in
theorem qX10_sum (l : Launch) (X : XT) (a_this : Nat) (a_laid : Nat) (a_laid_sums : Nat) (a_text : Nat) (a_reader : Nat) (a_draft : Nat) (a_cards : Nat) (a_flips : Nat) (a_bench : Nat) (a_notes : Nat) (a_presses : Nat) (a_told : Nat) (a_game : Nat) (a_kept : Nat) (a_laid_blows : Nat) (a_laid_judges : Nat) (a_laid_forward : Nat) (a_laid_downs : Nat) (a_laid_taken : Nat) (a_laid_seenBy : Nat) (a_laid_leads : Nat)  (i_keptCount : Int32) (i_laid_rounds : Int32) (i_laid_home : Int32) (i_laid_noise : Int32) (i_laid_blowCount : Int32) (i_laid_judgeCount : Int32) (f_laid_sums : Nat → Int32) (x0 : Int32) (x1 : Int32) (x2 : Int32) (o : Int32) (hf : mX10_sum x0 x1 x2 i_laid_rounds i_laid_judgeCount f_laid_sums = some o) :
    MI l yX10_sum wsX10_sum rmX10_sum X [.ref a_this, .int x0, .int x1, .int x2] [(a_this, .inr (10, [.ref a_text, .ref a_reader, .ref a_draft, .ref a_laid, .ref a_cards, .ref a_flips, .ref a_bench, .ref a_notes, .ref a_presses, .ref a_told, .ref a_game, .ref a_kept, .int i_keptCount])), (a_laid, .inr (3, [.int i_laid_rounds, .int i_laid_home, .int i_laid_noise, .int i_laid_blowCount, .int i_laid_judgeCount, .ref a_laid_blows, .ref a_laid_judges, .ref a_laid_forward, .ref a_laid_downs, .ref a_laid_taken, .ref a_laid_seenBy, .ref a_laid_sums, .ref a_laid_leads])), (a_laid_sums, .inl (X.2.1 0, 192, .inl f_laid_sums))]  [(a_this, .inr (10, [.ref a_text, .ref a_reader, .ref a_draft, .ref a_laid, .ref a_cards, .ref a_flips, .ref a_bench, .ref a_notes, .ref a_presses, .ref a_told, .ref a_game, .ref a_kept, .int i_keptCount])), (a_laid, .inr (3, [.int i_laid_rounds, .int i_laid_home, .int i_laid_noise, .int i_laid_blowCount, .int i_laid_judgeCount, .ref a_laid_blows, .ref a_laid_judges, .ref a_laid_forward, .ref a_laid_downs, .ref a_laid_taken, .ref a_laid_seenBy, .ref a_laid_sums, .ref a_laid_leads])), (a_laid_sums, .inl (X.2.1 0, 192, .inl f_laid_sums))] o := by
  refine MI_ofH (cc := cX10_sum) (maxL := 4) (rt := .int) (by decide) rfl (Nat.le_of_ble_eq_true rfl) ?_
  intro p e s m below meth c A Q H ls hx hb hml hts hown hA hD hG hP hS hl ret
  have hown : s.vm.findClass RX10 = some m.cls := hown
  have hD : aD A [a_this, a_laid, a_laid_sums] := hD
  have hl : lv_has ls 4 [(0, .ref a_this), (1, .int x0), (2, .int x1), (3, .int x2)] := hl
  have w1 := hts (Cond.fieldLink RX10 32 "ThreeCards" "laid" "LThreeCards$Fight;") (List.mem_of_getElem? (i := 1) rfl)
  have in10 : ∀ w ∈ u_ws RX10 TX10 13, w ∈ wsX10_sum := by decide +kernel
  unfold mX10_sum at hf
  refine lv_aload_n hx hb dX10_sum_0 rfl (lv_at hl 0 rfl) ?_
  refine lv_iload_n hx hb dX10_sum_1 rfl (lv_at hl 1 rfl) ?_
  refine lv_iload_n hx hb dX10_sum_2 rfl (lv_at hl 2 rfl) ?_
  obtain ⟨o_1, ho_1, hf⟩ := ob_s hf
  refine xV_i (As := [.int x0, .int x1]) (b := a_this) (rest := []) (ws2 := [(a_this, .inr (10, [.ref a_text, .ref a_reader, .ref a_draft, .ref a_laid, .ref a_cards, .ref a_flips, .ref a_bench, .ref a_notes, .ref a_presses, .ref a_told, .ref a_game, .ref a_kept, .int i_keptCount])), (a_laid, .inr (3, [.int i_laid_rounds, .int i_laid_home, .int i_laid_noise, .int i_laid_blowCount, .int i_laid_judgeCount, .ref a_laid_blows, .ref a_laid_judges, .ref a_laid_forward, .ref a_laid_downs, .ref a_laid_taken, .ref a_laid_seenBy, .ref a_laid_sums, .ref a_laid_leads])), (a_laid_sums, .inl (X.2.1 0, 192, .inl f_laid_sums))]) hx hb hml hts hown hG hA hP hD rfl hS hl.1 (qX10_isScored l X a_this a_laid a_text a_reader a_draft a_cards a_flips a_bench a_notes a_presses a_told a_game a_kept a_laid_blows a_laid_judges a_laid_forward a_laid_downs a_laid_taken a_laid_seenBy a_laid_sums a_laid_leads i_keptCount i_laid_rounds i_laid_home i_laid_noise i_laid_blowCount i_laid_judgeCount x0 x1 o_1 ho_1) (cwV (y := yX10_isScored) 2 hts gX10_sum_X10_isScored rfl rfl rfl hdvX10_isScored ⟨Nat.le_of_ble_eq_true rfl, Nat.le_of_ble_eq_true rfl⟩) [0, 1] [2] [1, 2, 0] rfl rfl rfl rfl rfl rfl rfl (ci := 10) rfl 0 rfl rfl rfl (Nat.le_of_ble_eq_true rfl) ⟨Nat.le_of_ble_eq_true rfl, Nat.le_of_ble_eq_true rfl⟩ dX10_sum_3 (fun H locs hP _ hS => ?_)
  refine lv_if_eq (tgt := 29) hx hb dX10_sum_6 (by decide) (fun c_3 => ?_) (fun c_3 => ?_)
  · have hf := xt hf c_3
    refine lv_iconst (v := (-1 : Int32)) hx hb dX10_sum_29 (by decide) ?_
    obtain rfl := Option.some.inj hf
    exact ret H _ ls _ rfl hP hD hS dX10_sum_30
  · have hf := xf hf c_3
    refine lv_iload_n hx hb dX10_sum_9 rfl (lv_at hl 3 rfl) ?_
    obtain ⟨o_4, ho_4, hf⟩ := ob_s hf
    refine xS_i (As := [.int x2]) (rest := []) (ws2 := [(a_this, .inr (10, [.ref a_text, .ref a_reader, .ref a_draft, .ref a_laid, .ref a_cards, .ref a_flips, .ref a_bench, .ref a_notes, .ref a_presses, .ref a_told, .ref a_game, .ref a_kept, .int i_keptCount])), (a_laid, .inr (3, [.int i_laid_rounds, .int i_laid_home, .int i_laid_noise, .int i_laid_blowCount, .int i_laid_judgeCount, .ref a_laid_blows, .ref a_laid_judges, .ref a_laid_forward, .ref a_laid_downs, .ref a_laid_taken, .ref a_laid_seenBy, .ref a_laid_sums, .ref a_laid_leads])), (a_laid_sums, .inl (X.2.1 0, 192, .inl f_laid_sums))]) hx hb hml hts hown hG hA hP hD rfl hS hl.1 (qX10_isCorner l X x2 o_4 ho_4) (va_cwS (y := yX10_isCorner) 1 hts gX10_sum_X10_isCorner rfl rfl rfl hdsX10_isCorner ⟨Nat.le_of_ble_eq_true rfl, Nat.le_of_ble_eq_true rfl⟩) [] [0, 1, 2] [0, 1, 2] rfl rfl rfl rfl rfl rfl rfl rfl rfl (Nat.le_of_ble_eq_true rfl) ⟨Nat.le_of_ble_eq_true rfl, Nat.le_of_ble_eq_true rfl⟩ dX10_sum_10 (fun H locs hP _ hS => ?_)
    refine lv_if_eq (tgt := 29) hx hb dX10_sum_13 (by decide) (fun c_6 => ?_) (fun c_6 => ?_)
    · have hf := xt hf c_6
      refine lv_iconst (v := (-1 : Int32)) hx hb dX10_sum_29 (by decide) ?_
      obtain rfl := Option.some.inj hf
      exact ret H _ ls _ rfl hP hD hS dX10_sum_30
    · have hf := xf hf c_6
      refine lv_aload_n hx hb dX10_sum_16 rfl (lv_at hl 0 rfl) ?_
      refine va_get (D := X.1) (ci := 10) (v := .ref a_laid) (C := RX10) (T := TX10) (N := 13) hx hb hts in10 hown hG.1 hP 0 rfl rfl 3 (by decide) w1 (fun _ h9 => h9) rfl dX10_sum_17 ?_
      refine lv_iload_n hx hb dX10_sum_20 rfl (lv_at hl 1 rfl) ?_
      refine lv_iload_n hx hb dX10_sum_21 rfl (lv_at hl 2 rfl) ?_
      refine lv_iload_n hx hb dX10_sum_22 rfl (lv_at hl 3 rfl) ?_
      obtain ⟨o_7, ho_7, hf⟩ := ob_s hf
      refine xV_i (As := [.int x0, .int x1, .int x2]) (b := a_laid) (rest := []) (ws2 := [(a_this, .inr (10, [.ref a_text, .ref a_reader, .ref a_draft, .ref a_laid, .ref a_cards, .ref a_flips, .ref a_bench, .ref a_notes, .ref a_presses, .ref a_told, .ref a_game, .ref a_kept, .int i_keptCount])), (a_laid, .inr (3, [.int i_laid_rounds, .int i_laid_home, .int i_laid_noise, .int i_laid_blowCount, .int i_laid_judgeCount, .ref a_laid_blows, .ref a_laid_judges, .ref a_laid_forward, .ref a_laid_downs, .ref a_laid_taken, .ref a_laid_seenBy, .ref a_laid_sums, .ref a_laid_leads])), (a_laid_sums, .inl (X.2.1 0, 192, .inl f_laid_sums))]) hx hb hml hts hown hG hA hP hD rfl hS hl.1 (qX3_sumOf l X a_laid a_laid_sums a_laid_blows a_laid_judges a_laid_forward a_laid_downs a_laid_taken a_laid_seenBy a_laid_leads i_laid_rounds i_laid_home i_laid_noise i_laid_blowCount i_laid_judgeCount f_laid_sums x0 x1 x2 o_7 ho_7) (cwV (y := yX3_sumOf) 3 hts gX10_sum_X3_sumOf rfl rfl rfl hdvX3_sumOf ⟨Nat.le_of_ble_eq_true rfl, Nat.le_of_ble_eq_true rfl⟩) [1, 2] [0] [0, 1, 2] rfl rfl rfl rfl rfl rfl rfl (ci := 3) rfl 1 rfl rfl rfl (Nat.le_of_ble_eq_true rfl) ⟨Nat.le_of_ble_eq_true rfl, Nat.le_of_ble_eq_true rfl⟩ dX10_sum_23 (fun H locs hP _ hS => ?_)
      refine lv_goto (tgt := 30) hx hb dX10_sum_26 (by decide) ?_
      obtain rfl := Option.some.inj hf
      exact ret H _ ls _ rfl hP hD hS dX10_sum_30
def mX10_lead (x0 : Int32) (x1 : Int32) (i_laid_rounds : Int32) (i_laid_judgeCount : Int32) (f_laid_leads : Nat → Int32) :
  Option (Int32) :=
  (mX10_isScored x0 x1 i_laid_rounds i_laid_judgeCount).bind fun o_1 =>
  if o_1 = 0 then (some (-100001 : Int32)) else ((mX3_leadOf x0 x1 f_laid_leads).bind fun o_4 =>
  some o_4)
theorem hdsX10_lead : yX10_lead.cls ≠ "java/lang/invoke/MethodHandle" ∧ yX10_lead.cls ≠ "java/lang/invoke/VarHandle" ∧ (parseMethodDescriptor yX10_lead.desc).map (fun d => d.parameters.length) = some 2 := by decide +kernel
theorem hdvX10_lead : yX10_lead.cls = RX10 ∧ yX10_lead.cls ≠ "java/lang/invoke/MethodHandle" ∧ yX10_lead.cls ≠ "java/lang/invoke/VarHandle" ∧ (parseMethodDescriptor yX10_lead.desc).map (fun d => d.parameters.length) = some 2 := by decide +kernel
abbrev rmX10_lead : Room := { frames := 3, cells := 0, slots := 0, locals := 65 }
set_option maxHeartbeats 4000000 in
set_option maxRecDepth 100000 in
theorem qX10_lead (l : Launch) (X : XT) (a_this : Nat) (a_laid : Nat) (a_laid_leads : Nat) (a_text : Nat) (a_reader : Nat) (a_draft : Nat) (a_cards : Nat) (a_flips : Nat) (a_bench : Nat) (a_notes : Nat) (a_presses : Nat) (a_told : Nat) (a_game : Nat) (a_kept : Nat) (a_laid_blows : Nat) (a_laid_judges : Nat) (a_laid_forward : Nat) (a_laid_downs : Nat) (a_laid_taken : Nat) (a_laid_seenBy : Nat) (a_laid_sums : Nat)  (i_keptCount : Int32) (i_laid_rounds : Int32) (i_laid_home : Int32) (i_laid_noise : Int32) (i_laid_blowCount : Int32) (i_laid_judgeCount : Int32) (f_laid_leads : Nat → Int32) (x0 : Int32) (x1 : Int32) (o : Int32) (hf : mX10_lead x0 x1 i_laid_rounds i_laid_judgeCount f_laid_leads = some o) :
    MI l yX10_lead wsX10_lead rmX10_lead X [.ref a_this, .int x0, .int x1] [(a_this, .inr (10, [.ref a_text, .ref a_reader, .ref a_draft, .ref a_laid, .ref a_cards, .ref a_flips, .ref a_bench, .ref a_notes, .ref a_presses, .ref a_told, .ref a_game, .ref a_kept, .int i_keptCount])), (a_laid, .inr (3, [.int i_laid_rounds, .int i_laid_home, .int i_laid_noise, .int i_laid_blowCount, .int i_laid_judgeCount, .ref a_laid_blows, .ref a_laid_judges, .ref a_laid_forward, .ref a_laid_downs, .ref a_laid_taken, .ref a_laid_seenBy, .ref a_laid_sums, .ref a_laid_leads])), (a_laid_leads, .inl (X.2.1 0, 96, .inl f_laid_leads))]  [(a_this, .inr (10, [.ref a_text, .ref a_reader, .ref a_draft, .ref a_laid, .ref a_cards, .ref a_flips, .ref a_bench, .ref a_notes, .ref a_presses, .ref a_told, .ref a_game, .ref a_kept, .int i_keptCount])), (a_laid, .inr (3, [.int i_laid_rounds, .int i_laid_home, .int i_laid_noise, .int i_laid_blowCount, .int i_laid_judgeCount, .ref a_laid_blows, .ref a_laid_judges, .ref a_laid_forward, .ref a_laid_downs, .ref a_laid_taken, .ref a_laid_seenBy, .ref a_laid_sums, .ref a_laid_leads])), (a_laid_leads, .inl (X.2.1 0, 96, .inl f_laid_leads))] o := by
  refine MI_ofH (cc := cX10_lead) (maxL := 3) (rt := .int) (by decide) rfl (Nat.le_of_ble_eq_true rfl) ?_
  intro p e s m below meth c A Q H ls hx hb hml hts hown hA hD hG hP hS hl ret
  have hown : s.vm.findClass RX10 = some m.cls := hown
  have hD : aD A [a_this, a_laid, a_laid_leads] := hD
  have hl : lv_has ls 3 [(0, .ref a_this), (1, .int x0), (2, .int x1)] := hl
  have w1 := hts (.fieldLink RX10 32 "ThreeCards" "laid" "LThreeCards$Fight;") (List.mem_of_getElem? (i := 1) rfl)
  have w2 := hts (.constant RX10 157 (-100001)) (List.mem_of_getElem? (i := 2) rfl)
  have in10 : ∀ w ∈ u_ws RX10 TX10 13, w ∈ wsX10_lead := by decide +kernel
  unfold mX10_lead at hf
  refine lv_aload_n hx hb dX10_lead_0 rfl (lv_at hl 0 rfl) ?_
  refine lv_iload_n hx hb dX10_lead_1 rfl (lv_at hl 1 rfl) ?_
  refine lv_iload_n hx hb dX10_lead_2 rfl (lv_at hl 2 rfl) ?_
  obtain ⟨o_1, ho_1, hf⟩ := ob_s hf
  refine xV_i (As := [.int x0, .int x1]) (b := a_this) (rest := []) (ws2 := [(a_this, .inr (10, [.ref a_text, .ref a_reader, .ref a_draft, .ref a_laid, .ref a_cards, .ref a_flips, .ref a_bench, .ref a_notes, .ref a_presses, .ref a_told, .ref a_game, .ref a_kept, .int i_keptCount])), (a_laid, .inr (3, [.int i_laid_rounds, .int i_laid_home, .int i_laid_noise, .int i_laid_blowCount, .int i_laid_judgeCount, .ref a_laid_blows, .ref a_laid_judges, .ref a_laid_forward, .ref a_laid_downs, .ref a_laid_taken, .ref a_laid_seenBy, .ref a_laid_sums, .ref a_laid_leads])), (a_laid_leads, .inl (X.2.1 0, 96, .inl f_laid_leads))]) hx hb hml hts hown hG hA hP hD rfl hS hl.1 (qX10_isScored l X a_this a_laid a_text a_reader a_draft a_cards a_flips a_bench a_notes a_presses a_told a_game a_kept a_laid_blows a_laid_judges a_laid_forward a_laid_downs a_laid_taken a_laid_seenBy a_laid_sums a_laid_leads i_keptCount i_laid_rounds i_laid_home i_laid_noise i_laid_blowCount i_laid_judgeCount x0 x1 o_1 ho_1) (cwV (y := yX10_isScored) 2 hts gX10_lead_X10_isScored rfl rfl rfl hdvX10_isScored ⟨Nat.le_of_ble_eq_true rfl, Nat.le_of_ble_eq_true rfl⟩) [0, 1] [2] [1, 2, 0] rfl rfl rfl rfl rfl rfl rfl (ci := 10) rfl 0 rfl rfl rfl (Nat.le_of_ble_eq_true rfl) ⟨Nat.le_of_ble_eq_true rfl, Nat.le_of_ble_eq_true rfl⟩ dX10_lead_3 (fun H locs hP _ hS => ?_)
  refine lv_if_eq (tgt := 21) hx hb dX10_lead_6 (by decide) (fun c_3 => ?_) (fun c_3 => ?_)
  · have hf := xt hf c_3
    refine lv_ldc (v := (-100001 : Int32)) hx hb hown w2 dX10_lead_21 ?_
    obtain rfl := Option.some.inj hf
    exact ret H _ ls _ rfl hP hD hS dX10_lead_23
  · have hf := xf hf c_3
    refine lv_aload_n hx hb dX10_lead_9 rfl (lv_at hl 0 rfl) ?_
    refine va_get (D := X.1) (ci := 10) (v := .ref a_laid) (C := RX10) (T := TX10) (N := 13) hx hb hts in10 hown hG.1 hP 0 rfl rfl 3 (by decide) w1 (fun _ h9 => h9) rfl dX10_lead_10 ?_
    refine lv_iload_n hx hb dX10_lead_13 rfl (lv_at hl 1 rfl) ?_
    refine lv_iload_n hx hb dX10_lead_14 rfl (lv_at hl 2 rfl) ?_
    obtain ⟨o_4, ho_4, hf⟩ := ob_s hf
    refine xV_i (As := [.int x0, .int x1]) (b := a_laid) (rest := []) (ws2 := [(a_this, .inr (10, [.ref a_text, .ref a_reader, .ref a_draft, .ref a_laid, .ref a_cards, .ref a_flips, .ref a_bench, .ref a_notes, .ref a_presses, .ref a_told, .ref a_game, .ref a_kept, .int i_keptCount])), (a_laid, .inr (3, [.int i_laid_rounds, .int i_laid_home, .int i_laid_noise, .int i_laid_blowCount, .int i_laid_judgeCount, .ref a_laid_blows, .ref a_laid_judges, .ref a_laid_forward, .ref a_laid_downs, .ref a_laid_taken, .ref a_laid_seenBy, .ref a_laid_sums, .ref a_laid_leads])), (a_laid_leads, .inl (X.2.1 0, 96, .inl f_laid_leads))]) hx hb hml hts hown hG hA hP hD rfl hS hl.1 (qX3_leadOf l X a_laid a_laid_leads a_laid_blows a_laid_judges a_laid_forward a_laid_downs a_laid_taken a_laid_seenBy a_laid_sums i_laid_rounds i_laid_home i_laid_noise i_laid_blowCount i_laid_judgeCount f_laid_leads x0 x1 o_4 ho_4) (cwV (y := yX3_leadOf) 2 hts gX10_lead_X3_leadOf rfl rfl rfl hdvX3_leadOf ⟨Nat.le_of_ble_eq_true rfl, Nat.le_of_ble_eq_true rfl⟩) [1, 2] [0] [0, 1, 2] rfl rfl rfl rfl rfl rfl rfl (ci := 3) rfl 1 rfl rfl rfl (Nat.le_of_ble_eq_true rfl) ⟨Nat.le_of_ble_eq_true rfl, Nat.le_of_ble_eq_true rfl⟩ dX10_lead_15 (fun H locs hP _ hS => ?_)
    refine lv_goto (tgt := 23) hx hb dX10_lead_18 (by decide) ?_
    obtain rfl := Option.some.inj hf
    exact ret H _ ls _ rfl hP hD hS dX10_lead_23
def mX10_close (x0 : Int32) (x1 : Int32) (i_laid_rounds : Int32) (i_laid_judgeCount : Int32) (f_laid_judges : Nat → Int32) (f_laid_leads : Nat → Int32) :
  Option (Int32) :=
  (mX10_isScored x0 x1 i_laid_rounds i_laid_judgeCount).bind fun o_1 =>
  if o_1 = 0 then (some (-1 : Int32)) else ((mX3_isClose x0 x1 f_laid_judges f_laid_leads).bind fun o_4 =>
  if o_4 = 0 then (some (0 : Int32)) else (some (1 : Int32)))
theorem hdsX10_close : yX10_close.cls ≠ "java/lang/invoke/MethodHandle" ∧ yX10_close.cls ≠ "java/lang/invoke/VarHandle" ∧ (parseMethodDescriptor yX10_close.desc).map (fun d => d.parameters.length) = some 2 := by decide +kernel
theorem hdvX10_close : yX10_close.cls = RX10 ∧ yX10_close.cls ≠ "java/lang/invoke/MethodHandle" ∧ yX10_close.cls ≠ "java/lang/invoke/VarHandle" ∧ (parseMethodDescriptor yX10_close.desc).map (fun d => d.parameters.length) = some 2 := by decide +kernel
abbrev rmX10_close : Room := { frames := 3, cells := 0, slots := 0, locals := 65 }
set_option maxHeartbeats 4000000 in
set_option maxRecDepth 100000 in
theorem qX10_close (l : Launch) (X : XT) (a_this : Nat) (a_laid : Nat) (a_laid_judges : Nat) (a_laid_leads : Nat) (a_text : Nat) (a_reader : Nat) (a_draft : Nat) (a_cards : Nat) (a_flips : Nat) (a_bench : Nat) (a_notes : Nat) (a_presses : Nat) (a_told : Nat) (a_game : Nat) (a_kept : Nat) (a_laid_blows : Nat) (a_laid_forward : Nat) (a_laid_downs : Nat) (a_laid_taken : Nat) (a_laid_seenBy : Nat) (a_laid_sums : Nat)  (i_keptCount : Int32) (i_laid_rounds : Int32) (i_laid_home : Int32) (i_laid_noise : Int32) (i_laid_blowCount : Int32) (i_laid_judgeCount : Int32) (f_laid_judges : Nat → Int32) (f_laid_leads : Nat → Int32) (x0 : Int32) (x1 : Int32) (o : Int32) (hf : mX10_close x0 x1 i_laid_rounds i_laid_judgeCount f_laid_judges f_laid_leads = some o) :
    MI l yX10_close wsX10_close rmX10_close X [.ref a_this, .int x0, .int x1] [(a_this, .inr (10, [.ref a_text, .ref a_reader, .ref a_draft, .ref a_laid, .ref a_cards, .ref a_flips, .ref a_bench, .ref a_notes, .ref a_presses, .ref a_told, .ref a_game, .ref a_kept, .int i_keptCount])), (a_laid, .inr (3, [.int i_laid_rounds, .int i_laid_home, .int i_laid_noise, .int i_laid_blowCount, .int i_laid_judgeCount, .ref a_laid_blows, .ref a_laid_judges, .ref a_laid_forward, .ref a_laid_downs, .ref a_laid_taken, .ref a_laid_seenBy, .ref a_laid_sums, .ref a_laid_leads])), (a_laid_judges, .inl (X.2.1 0, 56, .inl f_laid_judges)), (a_laid_leads, .inl (X.2.1 0, 96, .inl f_laid_leads))]  [(a_this, .inr (10, [.ref a_text, .ref a_reader, .ref a_draft, .ref a_laid, .ref a_cards, .ref a_flips, .ref a_bench, .ref a_notes, .ref a_presses, .ref a_told, .ref a_game, .ref a_kept, .int i_keptCount])), (a_laid, .inr (3, [.int i_laid_rounds, .int i_laid_home, .int i_laid_noise, .int i_laid_blowCount, .int i_laid_judgeCount, .ref a_laid_blows, .ref a_laid_judges, .ref a_laid_forward, .ref a_laid_downs, .ref a_laid_taken, .ref a_laid_seenBy, .ref a_laid_sums, .ref a_laid_leads])), (a_laid_judges, .inl (X.2.1 0, 56, .inl f_laid_judges)), (a_laid_leads, .inl (X.2.1 0, 96, .inl f_laid_leads))] o := by
  refine MI_ofH (cc := cX10_close) (maxL := 3) (rt := .int) (by decide) rfl (Nat.le_of_ble_eq_true rfl) ?_
  intro p e s m below meth c A Q H ls hx hb hml hts hown hA hD hG hP hS hl ret
  have hown : s.vm.findClass RX10 = some m.cls := hown
  have hD : aD A [a_this, a_laid, a_laid_judges, a_laid_leads] := hD
  have hl : lv_has ls 3 [(0, .ref a_this), (1, .int x0), (2, .int x1)] := hl
  have w1 := hts (Cond.fieldLink RX10 32 "ThreeCards" "laid" "LThreeCards$Fight;") (List.mem_of_getElem? (i := 1) rfl)
  have in10 : ∀ w ∈ u_ws RX10 TX10 13, w ∈ wsX10_close := by decide +kernel
  unfold mX10_close at hf
  refine lv_aload_n hx hb dX10_close_0 rfl (lv_at hl 0 rfl) ?_
  refine lv_iload_n hx hb dX10_close_1 rfl (lv_at hl 1 rfl) ?_
  refine lv_iload_n hx hb dX10_close_2 rfl (lv_at hl 2 rfl) ?_
  obtain ⟨o_1, ho_1, hf⟩ := ob_s hf
  refine xV_i (As := [.int x0, .int x1]) (b := a_this) (rest := []) (ws2 := [(a_this, .inr (10, [.ref a_text, .ref a_reader, .ref a_draft, .ref a_laid, .ref a_cards, .ref a_flips, .ref a_bench, .ref a_notes, .ref a_presses, .ref a_told, .ref a_game, .ref a_kept, .int i_keptCount])), (a_laid, .inr (3, [.int i_laid_rounds, .int i_laid_home, .int i_laid_noise, .int i_laid_blowCount, .int i_laid_judgeCount, .ref a_laid_blows, .ref a_laid_judges, .ref a_laid_forward, .ref a_laid_downs, .ref a_laid_taken, .ref a_laid_seenBy, .ref a_laid_sums, .ref a_laid_leads])), (a_laid_judges, .inl (X.2.1 0, 56, .inl f_laid_judges)), (a_laid_leads, .inl (X.2.1 0, 96, .inl f_laid_leads))]) hx hb hml hts hown hG hA hP hD rfl hS hl.1 (qX10_isScored l X a_this a_laid a_text a_reader a_draft a_cards a_flips a_bench a_notes a_presses a_told a_game a_kept a_laid_blows a_laid_judges a_laid_forward a_laid_downs a_laid_taken a_laid_seenBy a_laid_sums a_laid_leads i_keptCount i_laid_rounds i_laid_home i_laid_noise i_laid_blowCount i_laid_judgeCount x0 x1 o_1 ho_1) (cwV (y := yX10_isScored) 2 hts gX10_close_X10_isScored rfl rfl rfl hdvX10_isScored ⟨Nat.le_of_ble_eq_true rfl, Nat.le_of_ble_eq_true rfl⟩) [0, 1] [2, 3] [2, 3, 0, 1] rfl rfl rfl rfl rfl rfl rfl (ci := 10) rfl 0 rfl rfl rfl (Nat.le_of_ble_eq_true rfl) ⟨Nat.le_of_ble_eq_true rfl, Nat.le_of_ble_eq_true rfl⟩ dX10_close_3 (fun H locs hP _ hS => ?_)
  refine lv_if_ne (tgt := 11) hx hb dX10_close_6 (by decide) (fun c_3 => ?_) (fun c_3 => ?_)
  · have hf := xf hf c_3
    refine lv_aload_n hx hb dX10_close_11 rfl (lv_at hl 0 rfl) ?_
    refine va_get (D := X.1) (ci := 10) (v := .ref a_laid) (C := RX10) (T := TX10) (N := 13) hx hb hts in10 hown hG.1 hP 0 rfl rfl 3 (by decide) w1 (fun _ h9 => h9) rfl dX10_close_12 ?_
    refine lv_iload_n hx hb dX10_close_15 rfl (lv_at hl 1 rfl) ?_
    refine lv_iload_n hx hb dX10_close_16 rfl (lv_at hl 2 rfl) ?_
    obtain ⟨o_4, ho_4, hf⟩ := ob_s hf
    refine xV_i (As := [.int x0, .int x1]) (b := a_laid) (rest := []) (ws2 := [(a_this, .inr (10, [.ref a_text, .ref a_reader, .ref a_draft, .ref a_laid, .ref a_cards, .ref a_flips, .ref a_bench, .ref a_notes, .ref a_presses, .ref a_told, .ref a_game, .ref a_kept, .int i_keptCount])), (a_laid, .inr (3, [.int i_laid_rounds, .int i_laid_home, .int i_laid_noise, .int i_laid_blowCount, .int i_laid_judgeCount, .ref a_laid_blows, .ref a_laid_judges, .ref a_laid_forward, .ref a_laid_downs, .ref a_laid_taken, .ref a_laid_seenBy, .ref a_laid_sums, .ref a_laid_leads])), (a_laid_judges, .inl (X.2.1 0, 56, .inl f_laid_judges)), (a_laid_leads, .inl (X.2.1 0, 96, .inl f_laid_leads))]) hx hb hml hts hown hG hA hP hD rfl hS hl.1 (qX3_isClose l X a_laid a_laid_judges a_laid_leads a_laid_blows a_laid_forward a_laid_downs a_laid_taken a_laid_seenBy a_laid_sums i_laid_rounds i_laid_home i_laid_noise i_laid_blowCount i_laid_judgeCount f_laid_judges f_laid_leads x0 x1 o_4 ho_4) (cwV (y := yX3_isClose) 2 hts gX10_close_X3_isClose rfl rfl rfl hdvX3_isClose ⟨Nat.le_of_ble_eq_true rfl, Nat.le_of_ble_eq_true rfl⟩) [1, 2, 3] [0] [0, 1, 2, 3] rfl rfl rfl rfl rfl rfl rfl (ci := 3) rfl 1 rfl rfl rfl (Nat.le_of_ble_eq_true rfl) ⟨Nat.le_of_ble_eq_true rfl, Nat.le_of_ble_eq_true rfl⟩ dX10_close_17 (fun H locs hP _ hS => ?_)
    refine lv_if_eq (tgt := 27) hx hb dX10_close_20 (by decide) (fun c_6 => ?_) (fun c_6 => ?_)
    · have hf := xt hf c_6
      refine lv_iconst (v := (0 : Int32)) hx hb dX10_close_27 (by decide) ?_
      obtain rfl := Option.some.inj hf
      exact ret H _ ls _ rfl hP hD hS dX10_close_28
    · have hf := xf hf c_6
      refine lv_iconst (v := (1 : Int32)) hx hb dX10_close_23 (by decide) ?_
      refine lv_goto (tgt := 28) hx hb dX10_close_24 (by decide) ?_
      obtain rfl := Option.some.inj hf
      exact ret H _ ls _ rfl hP hD hS dX10_close_28
  · have hf := xt hf c_3
    refine lv_iconst (v := (-1 : Int32)) hx hb dX10_close_9 (by decide) ?_
    obtain rfl := Option.some.inj hf
    exact ret H _ ls _ rfl hP hD hS dX10_close_10
def mX10_isRule (x0 : Int32) :
  Option (Int32) :=
  (mX10_within x0 (0 : Int32) (3 : Int32)).bind fun o_1 =>
  gz o_1 <|
  some o_1
theorem hdsX10_isRule : yX10_isRule.cls ≠ "java/lang/invoke/MethodHandle" ∧ yX10_isRule.cls ≠ "java/lang/invoke/VarHandle" ∧ (parseMethodDescriptor yX10_isRule.desc).map (fun d => d.parameters.length) = some 1 := by decide +kernel
abbrev rmX10_isRule : Room := { frames := 1, cells := 0, slots := 0, locals := 22 }
set_option maxHeartbeats 4000000 in
set_option maxRecDepth 100000 in
theorem qX10_isRule (l : Launch) (X : XT)    (x0 : Int32) (o : Int32) (hf : mX10_isRule x0 = some o) :
    MI l yX10_isRule wsX10_isRule rmX10_isRule X [.int x0] []  [] o := by
  refine MI_ofH (cc := cX10_isRule) (maxL := 1) (rt := .boolean) (by decide) rfl (Nat.le_of_ble_eq_true rfl) ?_
  intro p e s m below meth c A Q H ls hx hb hml hts hown hA hD hG hP hS hl ret
  have hown : s.vm.findClass RX10 = some m.cls := hown
  have hD : aD A [] := hD
  have hl : lv_has ls 1 [(0, .int x0)] := hl
  unfold mX10_isRule at hf
  refine lv_iload_n hx hb dX10_isRule_0 rfl (lv_at hl 0 rfl) ?_
  refine lv_iconst (v := (0 : Int32)) hx hb dX10_isRule_1 (by decide) ?_
  refine lv_iconst (v := (3 : Int32)) hx hb dX10_isRule_2 (by decide) ?_
  obtain ⟨o_1, ho_1, hf⟩ := ob_s hf
  refine xS_i (As := [.int x0, .int (0 : Int32), .int (3 : Int32)]) (rest := []) (ws2 := []) hx hb hml hts hown hG hA hP hD rfl hS hl.1 (qX10_within l X x0 (0 : Int32) (3 : Int32) o_1 ho_1) (va_cwS (y := yX10_within) 3 hts gX10_isRule_X10_within rfl rfl rfl hdsX10_within ⟨Nat.le_of_ble_eq_true rfl, Nat.le_of_ble_eq_true rfl⟩) [] [] [] rfl rfl rfl rfl rfl rfl rfl rfl rfl (Nat.le_of_ble_eq_true rfl) ⟨Nat.le_of_ble_eq_true rfl, Nat.le_of_ble_eq_true rfl⟩ dX10_isRule_3 (fun H locs hP _ hS => ?_)
  obtain ⟨h_3, hf⟩ := gz_s hf
  obtain rfl := Option.some.inj hf
  exact ret H _ ls _ h_3 hP hD hS dX10_isRule_6
def mX10_margin (x0 : Int32) (x1 : Int32) (x2 : Int32) (i_laid_rounds : Int32) (i_laid_judgeCount : Int32) (f_laid_downs : Nat → Int32) (f_laid_judges : Nat → Int32) (f_laid_leads : Nat → Int32) :
  Option (Int32) :=
  (mX10_isRule x0).bind fun o_1 =>
  if o_1 = 0 then (some (-100001 : Int32)) else ((mX10_isScored x1 x2 i_laid_rounds i_laid_judgeCount).bind fun o_4 =>
  if o_4 = 0 then (some (-100001 : Int32)) else ((mX1_marginBy x0 x1 x2 f_laid_downs f_laid_judges f_laid_leads).bind fun o_7 =>
  some o_7))
theorem hdsX10_margin : yX10_margin.cls ≠ "java/lang/invoke/MethodHandle" ∧ yX10_margin.cls ≠ "java/lang/invoke/VarHandle" ∧ (parseMethodDescriptor yX10_margin.desc).map (fun d => d.parameters.length) = some 3 := by decide +kernel
theorem hdvX10_margin : yX10_margin.cls = RX10 ∧ yX10_margin.cls ≠ "java/lang/invoke/MethodHandle" ∧ yX10_margin.cls ≠ "java/lang/invoke/VarHandle" ∧ (parseMethodDescriptor yX10_margin.desc).map (fun d => d.parameters.length) = some 3 := by decide +kernel
abbrev rmX10_margin : Room := { frames := 3, cells := 0, slots := 0, locals := 70 }
set_option maxHeartbeats 4000000 in
set_option maxRecDepth 100000 in
theorem qX10_margin (l : Launch) (X : XT) (a_this : Nat) (a_cards : Nat) (a_laid : Nat) (a_laid_downs : Nat) (a_laid_judges : Nat) (a_laid_leads : Nat) (a_text : Nat) (a_reader : Nat) (a_draft : Nat) (a_flips : Nat) (a_bench : Nat) (a_notes : Nat) (a_presses : Nat) (a_told : Nat) (a_game : Nat) (a_kept : Nat) (a_cards_owners : Nat) (a_laid_blows : Nat) (a_laid_forward : Nat) (a_laid_taken : Nat) (a_laid_seenBy : Nat) (a_laid_sums : Nat)  (i_keptCount : Int32) (i_laid_rounds : Int32) (i_laid_home : Int32) (i_laid_noise : Int32) (i_laid_blowCount : Int32) (i_laid_judgeCount : Int32) (f_laid_downs : Nat → Int32) (f_laid_judges : Nat → Int32) (f_laid_leads : Nat → Int32) (x0 : Int32) (x1 : Int32) (x2 : Int32) (o : Int32) (hf : mX10_margin x0 x1 x2 i_laid_rounds i_laid_judgeCount f_laid_downs f_laid_judges f_laid_leads = some o) :
    MI l yX10_margin wsX10_margin rmX10_margin X [.ref a_this, .int x0, .int x1, .int x2] [(a_this, .inr (10, [.ref a_text, .ref a_reader, .ref a_draft, .ref a_laid, .ref a_cards, .ref a_flips, .ref a_bench, .ref a_notes, .ref a_presses, .ref a_told, .ref a_game, .ref a_kept, .int i_keptCount])), (a_cards, .inr (1, [.ref a_laid, .ref a_cards_owners])), (a_laid, .inr (3, [.int i_laid_rounds, .int i_laid_home, .int i_laid_noise, .int i_laid_blowCount, .int i_laid_judgeCount, .ref a_laid_blows, .ref a_laid_judges, .ref a_laid_forward, .ref a_laid_downs, .ref a_laid_taken, .ref a_laid_seenBy, .ref a_laid_sums, .ref a_laid_leads])), (a_laid_downs, .inl (X.2.1 0, 24, .inl f_laid_downs)), (a_laid_judges, .inl (X.2.1 0, 56, .inl f_laid_judges)), (a_laid_leads, .inl (X.2.1 0, 96, .inl f_laid_leads))]  [(a_this, .inr (10, [.ref a_text, .ref a_reader, .ref a_draft, .ref a_laid, .ref a_cards, .ref a_flips, .ref a_bench, .ref a_notes, .ref a_presses, .ref a_told, .ref a_game, .ref a_kept, .int i_keptCount])), (a_cards, .inr (1, [.ref a_laid, .ref a_cards_owners])), (a_laid, .inr (3, [.int i_laid_rounds, .int i_laid_home, .int i_laid_noise, .int i_laid_blowCount, .int i_laid_judgeCount, .ref a_laid_blows, .ref a_laid_judges, .ref a_laid_forward, .ref a_laid_downs, .ref a_laid_taken, .ref a_laid_seenBy, .ref a_laid_sums, .ref a_laid_leads])), (a_laid_downs, .inl (X.2.1 0, 24, .inl f_laid_downs)), (a_laid_judges, .inl (X.2.1 0, 56, .inl f_laid_judges)), (a_laid_leads, .inl (X.2.1 0, 96, .inl f_laid_leads))] o := by
  refine MI_ofH (cc := cX10_margin) (maxL := 4) (rt := .int) (by decide) rfl (Nat.le_of_ble_eq_true rfl) ?_
  intro p e s m below meth c A Q H ls hx hb hml hts hown hA hD hG hP hS hl ret
  have hown : s.vm.findClass RX10 = some m.cls := hown
  have hD : aD A [a_this, a_cards, a_laid, a_laid_downs, a_laid_judges, a_laid_leads] := hD
  have hl : lv_has ls 4 [(0, .ref a_this), (1, .int x0), (2, .int x1), (3, .int x2)] := hl
  have w1 := hts (Cond.fieldLink RX10 40 "ThreeCards" "cards" "LThreeCards$Cards;") (List.mem_of_getElem? (i := 1) rfl)
  have w2 := hts (Cond.constant RX10 157 (-100001)) (List.mem_of_getElem? (i := 2) rfl)
  have in10 : ∀ w ∈ u_ws RX10 TX10 13, w ∈ wsX10_margin := by decide +kernel
  unfold mX10_margin at hf
  refine lv_iload_n hx hb dX10_margin_0 rfl (lv_at hl 1 rfl) ?_
  obtain ⟨o_1, ho_1, hf⟩ := ob_s hf
  refine xS_i (As := [.int x0]) (rest := []) (ws2 := [(a_this, .inr (10, [.ref a_text, .ref a_reader, .ref a_draft, .ref a_laid, .ref a_cards, .ref a_flips, .ref a_bench, .ref a_notes, .ref a_presses, .ref a_told, .ref a_game, .ref a_kept, .int i_keptCount])), (a_cards, .inr (1, [.ref a_laid, .ref a_cards_owners])), (a_laid, .inr (3, [.int i_laid_rounds, .int i_laid_home, .int i_laid_noise, .int i_laid_blowCount, .int i_laid_judgeCount, .ref a_laid_blows, .ref a_laid_judges, .ref a_laid_forward, .ref a_laid_downs, .ref a_laid_taken, .ref a_laid_seenBy, .ref a_laid_sums, .ref a_laid_leads])), (a_laid_downs, .inl (X.2.1 0, 24, .inl f_laid_downs)), (a_laid_judges, .inl (X.2.1 0, 56, .inl f_laid_judges)), (a_laid_leads, .inl (X.2.1 0, 96, .inl f_laid_leads))]) hx hb hml hts hown hG hA hP hD rfl hS hl.1 (qX10_isRule l X x0 o_1 ho_1) (va_cwS (y := yX10_isRule) 1 hts gX10_margin_X10_isRule rfl rfl rfl hdsX10_isRule ⟨Nat.le_of_ble_eq_true rfl, Nat.le_of_ble_eq_true rfl⟩) [] [0, 1, 2, 3, 4, 5] [0, 1, 2, 3, 4, 5] rfl rfl rfl rfl rfl rfl rfl rfl rfl (Nat.le_of_ble_eq_true rfl) ⟨Nat.le_of_ble_eq_true rfl, Nat.le_of_ble_eq_true rfl⟩ dX10_margin_1 (fun H locs hP _ hS => ?_)
  refine lv_if_eq (tgt := 29) hx hb dX10_margin_4 (by decide) (fun c_3 => ?_) (fun c_3 => ?_)
  · have hf := xt hf c_3
    refine lv_ldc (v := (-100001 : Int32)) hx hb hown w2 dX10_margin_29 ?_
    obtain rfl := Option.some.inj hf
    exact ret H _ ls _ rfl hP hD hS dX10_margin_31
  · have hf := xf hf c_3
    refine lv_aload_n hx hb dX10_margin_7 rfl (lv_at hl 0 rfl) ?_
    refine lv_iload_n hx hb dX10_margin_8 rfl (lv_at hl 2 rfl) ?_
    refine lv_iload_n hx hb dX10_margin_9 rfl (lv_at hl 3 rfl) ?_
    obtain ⟨o_4, ho_4, hf⟩ := ob_s hf
    refine xV_i (As := [.int x1, .int x2]) (b := a_this) (rest := []) (ws2 := [(a_this, .inr (10, [.ref a_text, .ref a_reader, .ref a_draft, .ref a_laid, .ref a_cards, .ref a_flips, .ref a_bench, .ref a_notes, .ref a_presses, .ref a_told, .ref a_game, .ref a_kept, .int i_keptCount])), (a_cards, .inr (1, [.ref a_laid, .ref a_cards_owners])), (a_laid, .inr (3, [.int i_laid_rounds, .int i_laid_home, .int i_laid_noise, .int i_laid_blowCount, .int i_laid_judgeCount, .ref a_laid_blows, .ref a_laid_judges, .ref a_laid_forward, .ref a_laid_downs, .ref a_laid_taken, .ref a_laid_seenBy, .ref a_laid_sums, .ref a_laid_leads])), (a_laid_downs, .inl (X.2.1 0, 24, .inl f_laid_downs)), (a_laid_judges, .inl (X.2.1 0, 56, .inl f_laid_judges)), (a_laid_leads, .inl (X.2.1 0, 96, .inl f_laid_leads))]) hx hb hml hts hown hG hA hP hD rfl hS hl.1 (qX10_isScored l X a_this a_laid a_text a_reader a_draft a_cards a_flips a_bench a_notes a_presses a_told a_game a_kept a_laid_blows a_laid_judges a_laid_forward a_laid_downs a_laid_taken a_laid_seenBy a_laid_sums a_laid_leads i_keptCount i_laid_rounds i_laid_home i_laid_noise i_laid_blowCount i_laid_judgeCount x1 x2 o_4 ho_4) (cwV (y := yX10_isScored) 2 hts gX10_margin_X10_isScored rfl rfl rfl hdvX10_isScored ⟨Nat.le_of_ble_eq_true rfl, Nat.le_of_ble_eq_true rfl⟩) [0, 2] [1, 3, 4, 5] [4, 0, 5, 1, 2, 3] rfl rfl rfl rfl rfl rfl rfl (ci := 10) rfl 0 rfl rfl rfl (Nat.le_of_ble_eq_true rfl) ⟨Nat.le_of_ble_eq_true rfl, Nat.le_of_ble_eq_true rfl⟩ dX10_margin_10 (fun H locs hP _ hS => ?_)
    refine lv_if_eq (tgt := 29) hx hb dX10_margin_13 (by decide) (fun c_6 => ?_) (fun c_6 => ?_)
    · have hf := xt hf c_6
      refine lv_ldc (v := (-100001 : Int32)) hx hb hown w2 dX10_margin_29 ?_
      obtain rfl := Option.some.inj hf
      exact ret H _ ls _ rfl hP hD hS dX10_margin_31
    · have hf := xf hf c_6
      refine lv_aload_n hx hb dX10_margin_16 rfl (lv_at hl 0 rfl) ?_
      refine va_get (D := X.1) (ci := 10) (v := .ref a_cards) (C := RX10) (T := TX10) (N := 13) hx hb hts in10 hown hG.1 hP 0 rfl rfl 4 (by decide) w1 (fun _ h9 => h9) rfl dX10_margin_17 ?_
      refine lv_iload_n hx hb dX10_margin_20 rfl (lv_at hl 1 rfl) ?_
      refine lv_iload_n hx hb dX10_margin_21 rfl (lv_at hl 2 rfl) ?_
      refine lv_iload_n hx hb dX10_margin_22 rfl (lv_at hl 3 rfl) ?_
      obtain ⟨o_7, ho_7, hf⟩ := ob_s hf
      refine xV_i (As := [.int x0, .int x1, .int x2]) (b := a_cards) (rest := []) (ws2 := [(a_this, .inr (10, [.ref a_text, .ref a_reader, .ref a_draft, .ref a_laid, .ref a_cards, .ref a_flips, .ref a_bench, .ref a_notes, .ref a_presses, .ref a_told, .ref a_game, .ref a_kept, .int i_keptCount])), (a_cards, .inr (1, [.ref a_laid, .ref a_cards_owners])), (a_laid, .inr (3, [.int i_laid_rounds, .int i_laid_home, .int i_laid_noise, .int i_laid_blowCount, .int i_laid_judgeCount, .ref a_laid_blows, .ref a_laid_judges, .ref a_laid_forward, .ref a_laid_downs, .ref a_laid_taken, .ref a_laid_seenBy, .ref a_laid_sums, .ref a_laid_leads])), (a_laid_downs, .inl (X.2.1 0, 24, .inl f_laid_downs)), (a_laid_judges, .inl (X.2.1 0, 56, .inl f_laid_judges)), (a_laid_leads, .inl (X.2.1 0, 96, .inl f_laid_leads))]) hx hb hml hts hown hG hA hP hD rfl hS hl.1 (qX1_marginBy l X a_cards a_laid a_laid_downs a_laid_judges a_laid_leads a_cards_owners a_laid_blows a_laid_forward a_laid_taken a_laid_seenBy a_laid_sums i_laid_rounds i_laid_home i_laid_noise i_laid_blowCount i_laid_judgeCount f_laid_downs f_laid_judges f_laid_leads x0 x1 x2 o_7 ho_7) (cwV (y := yX1_marginBy) 3 hts gX10_margin_X1_marginBy rfl rfl rfl hdvX1_marginBy ⟨Nat.le_of_ble_eq_true rfl, Nat.le_of_ble_eq_true rfl⟩) [1, 2, 3, 4, 5] [0] [0, 1, 2, 3, 4, 5] rfl rfl rfl rfl rfl rfl rfl (ci := 1) rfl 1 rfl rfl rfl (Nat.le_of_ble_eq_true rfl) ⟨Nat.le_of_ble_eq_true rfl, Nat.le_of_ble_eq_true rfl⟩ dX10_margin_23 (fun H locs hP _ hS => ?_)
      refine lv_goto (tgt := 31) hx hb dX10_margin_26 (by decide) ?_
      obtain rfl := Option.some.inj hf
      exact ret H _ ls _ rfl hP hD hS dX10_margin_31
def mX10_card (x0 : Int32) (x1 : Int32) (i_laid_rounds : Int32) (i_laid_judgeCount : Int32) (f_laid_downs : Nat → Int32) (f_laid_judges : Nat → Int32) (f_laid_leads : Nat → Int32) (f_laid_taken : Nat → Int32) :
  Option (Int32) :=
  (mX10_isRule x0).bind fun o_1 =>
  if o_1 = 0 then (some (-100001 : Int32)) else ((mX10_isJudge x1 i_laid_judgeCount).bind fun o_4 =>
  if o_4 = 0 then (some (-100001 : Int32)) else ((mX1_cardBy x0 x1 i_laid_rounds f_laid_downs f_laid_judges f_laid_leads f_laid_taken).bind fun o_7 =>
  some o_7))
theorem hdsX10_card : yX10_card.cls ≠ "java/lang/invoke/MethodHandle" ∧ yX10_card.cls ≠ "java/lang/invoke/VarHandle" ∧ (parseMethodDescriptor yX10_card.desc).map (fun d => d.parameters.length) = some 2 := by decide +kernel
theorem hdvX10_card : yX10_card.cls = RX10 ∧ yX10_card.cls ≠ "java/lang/invoke/MethodHandle" ∧ yX10_card.cls ≠ "java/lang/invoke/VarHandle" ∧ (parseMethodDescriptor yX10_card.desc).map (fun d => d.parameters.length) = some 2 := by decide +kernel
abbrev rmX10_card : Room := { frames := 4, cells := 0, slots := 0, locals := 94 }
set_option maxHeartbeats 4000000 in
set_option maxRecDepth 100000 in
theorem qX10_card (l : Launch) (X : XT) (a_this : Nat) (a_cards : Nat) (a_laid : Nat) (a_laid_downs : Nat) (a_laid_judges : Nat) (a_laid_leads : Nat) (a_laid_taken : Nat) (a_text : Nat) (a_reader : Nat) (a_draft : Nat) (a_flips : Nat) (a_bench : Nat) (a_notes : Nat) (a_presses : Nat) (a_told : Nat) (a_game : Nat) (a_kept : Nat) (a_cards_owners : Nat) (a_laid_blows : Nat) (a_laid_forward : Nat) (a_laid_seenBy : Nat) (a_laid_sums : Nat)  (i_keptCount : Int32) (i_laid_rounds : Int32) (i_laid_home : Int32) (i_laid_noise : Int32) (i_laid_blowCount : Int32) (i_laid_judgeCount : Int32) (f_laid_downs : Nat → Int32) (f_laid_judges : Nat → Int32) (f_laid_leads : Nat → Int32) (f_laid_taken : Nat → Int32) (x0 : Int32) (x1 : Int32) (o : Int32) (hf : mX10_card x0 x1 i_laid_rounds i_laid_judgeCount f_laid_downs f_laid_judges f_laid_leads f_laid_taken = some o) :
    MI l yX10_card wsX10_card rmX10_card X [.ref a_this, .int x0, .int x1] [(a_this, .inr (10, [.ref a_text, .ref a_reader, .ref a_draft, .ref a_laid, .ref a_cards, .ref a_flips, .ref a_bench, .ref a_notes, .ref a_presses, .ref a_told, .ref a_game, .ref a_kept, .int i_keptCount])), (a_cards, .inr (1, [.ref a_laid, .ref a_cards_owners])), (a_laid, .inr (3, [.int i_laid_rounds, .int i_laid_home, .int i_laid_noise, .int i_laid_blowCount, .int i_laid_judgeCount, .ref a_laid_blows, .ref a_laid_judges, .ref a_laid_forward, .ref a_laid_downs, .ref a_laid_taken, .ref a_laid_seenBy, .ref a_laid_sums, .ref a_laid_leads])), (a_laid_downs, .inl (X.2.1 0, 24, .inl f_laid_downs)), (a_laid_judges, .inl (X.2.1 0, 56, .inl f_laid_judges)), (a_laid_leads, .inl (X.2.1 0, 96, .inl f_laid_leads)), (a_laid_taken, .inl (X.2.1 0, 24, .inl f_laid_taken))]  [(a_this, .inr (10, [.ref a_text, .ref a_reader, .ref a_draft, .ref a_laid, .ref a_cards, .ref a_flips, .ref a_bench, .ref a_notes, .ref a_presses, .ref a_told, .ref a_game, .ref a_kept, .int i_keptCount])), (a_cards, .inr (1, [.ref a_laid, .ref a_cards_owners])), (a_laid, .inr (3, [.int i_laid_rounds, .int i_laid_home, .int i_laid_noise, .int i_laid_blowCount, .int i_laid_judgeCount, .ref a_laid_blows, .ref a_laid_judges, .ref a_laid_forward, .ref a_laid_downs, .ref a_laid_taken, .ref a_laid_seenBy, .ref a_laid_sums, .ref a_laid_leads])), (a_laid_downs, .inl (X.2.1 0, 24, .inl f_laid_downs)), (a_laid_judges, .inl (X.2.1 0, 56, .inl f_laid_judges)), (a_laid_leads, .inl (X.2.1 0, 96, .inl f_laid_leads)), (a_laid_taken, .inl (X.2.1 0, 24, .inl f_laid_taken))] o := by
  refine MI_ofH (cc := cX10_card) (maxL := 3) (rt := .int) (by decide) rfl (Nat.le_of_ble_eq_true rfl) ?_
  intro p e s m below meth c A Q H ls hx hb hml hts hown hA hD hG hP hS hl ret
  have hown : s.vm.findClass RX10 = some m.cls := hown
  have hD : aD A [a_this, a_cards, a_laid, a_laid_downs, a_laid_judges, a_laid_leads, a_laid_taken] := hD
  have hl : lv_has ls 3 [(0, .ref a_this), (1, .int x0), (2, .int x1)] := hl
  have w1 := hts (Cond.fieldLink RX10 40 "ThreeCards" "cards" "LThreeCards$Cards;") (List.mem_of_getElem? (i := 1) rfl)
  have w2 := hts (Cond.constant RX10 157 (-100001)) (List.mem_of_getElem? (i := 2) rfl)
  have in10 : ∀ w ∈ u_ws RX10 TX10 13, w ∈ wsX10_card := by decide +kernel
  unfold mX10_card at hf
  refine lv_iload_n hx hb dX10_card_0 rfl (lv_at hl 1 rfl) ?_
  obtain ⟨o_1, ho_1, hf⟩ := ob_s hf
  refine xS_i (As := [.int x0]) (rest := []) (ws2 := [(a_this, .inr (10, [.ref a_text, .ref a_reader, .ref a_draft, .ref a_laid, .ref a_cards, .ref a_flips, .ref a_bench, .ref a_notes, .ref a_presses, .ref a_told, .ref a_game, .ref a_kept, .int i_keptCount])), (a_cards, .inr (1, [.ref a_laid, .ref a_cards_owners])), (a_laid, .inr (3, [.int i_laid_rounds, .int i_laid_home, .int i_laid_noise, .int i_laid_blowCount, .int i_laid_judgeCount, .ref a_laid_blows, .ref a_laid_judges, .ref a_laid_forward, .ref a_laid_downs, .ref a_laid_taken, .ref a_laid_seenBy, .ref a_laid_sums, .ref a_laid_leads])), (a_laid_downs, .inl (X.2.1 0, 24, .inl f_laid_downs)), (a_laid_judges, .inl (X.2.1 0, 56, .inl f_laid_judges)), (a_laid_leads, .inl (X.2.1 0, 96, .inl f_laid_leads)), (a_laid_taken, .inl (X.2.1 0, 24, .inl f_laid_taken))]) hx hb hml hts hown hG hA hP hD rfl hS hl.1 (qX10_isRule l X x0 o_1 ho_1) (va_cwS (y := yX10_isRule) 1 hts gX10_card_X10_isRule rfl rfl rfl hdsX10_isRule ⟨Nat.le_of_ble_eq_true rfl, Nat.le_of_ble_eq_true rfl⟩) [] [0, 1, 2, 3, 4, 5, 6] [0, 1, 2, 3, 4, 5, 6] rfl rfl rfl rfl rfl rfl rfl rfl rfl (Nat.le_of_ble_eq_true rfl) ⟨Nat.le_of_ble_eq_true rfl, Nat.le_of_ble_eq_true rfl⟩ dX10_card_1 (fun H locs hP _ hS => ?_)
  refine lv_if_eq (tgt := 27) hx hb dX10_card_4 (by decide) (fun c_3 => ?_) (fun c_3 => ?_)
  · have hf := xt hf c_3
    refine lv_ldc (v := (-100001 : Int32)) hx hb hown w2 dX10_card_27 ?_
    obtain rfl := Option.some.inj hf
    exact ret H _ ls _ rfl hP hD hS dX10_card_29
  · have hf := xf hf c_3
    refine lv_aload_n hx hb dX10_card_7 rfl (lv_at hl 0 rfl) ?_
    refine lv_iload_n hx hb dX10_card_8 rfl (lv_at hl 2 rfl) ?_
    obtain ⟨o_4, ho_4, hf⟩ := ob_s hf
    refine xV_i (As := [.int x1]) (b := a_this) (rest := []) (ws2 := [(a_this, .inr (10, [.ref a_text, .ref a_reader, .ref a_draft, .ref a_laid, .ref a_cards, .ref a_flips, .ref a_bench, .ref a_notes, .ref a_presses, .ref a_told, .ref a_game, .ref a_kept, .int i_keptCount])), (a_cards, .inr (1, [.ref a_laid, .ref a_cards_owners])), (a_laid, .inr (3, [.int i_laid_rounds, .int i_laid_home, .int i_laid_noise, .int i_laid_blowCount, .int i_laid_judgeCount, .ref a_laid_blows, .ref a_laid_judges, .ref a_laid_forward, .ref a_laid_downs, .ref a_laid_taken, .ref a_laid_seenBy, .ref a_laid_sums, .ref a_laid_leads])), (a_laid_downs, .inl (X.2.1 0, 24, .inl f_laid_downs)), (a_laid_judges, .inl (X.2.1 0, 56, .inl f_laid_judges)), (a_laid_leads, .inl (X.2.1 0, 96, .inl f_laid_leads)), (a_laid_taken, .inl (X.2.1 0, 24, .inl f_laid_taken))]) hx hb hml hts hown hG hA hP hD rfl hS hl.1 (qX10_isJudge l X a_this a_laid a_text a_reader a_draft a_cards a_flips a_bench a_notes a_presses a_told a_game a_kept a_laid_blows a_laid_judges a_laid_forward a_laid_downs a_laid_taken a_laid_seenBy a_laid_sums a_laid_leads i_keptCount i_laid_rounds i_laid_home i_laid_noise i_laid_blowCount i_laid_judgeCount x1 o_4 ho_4) (cwV (y := yX10_isJudge) 1 hts gX10_card_X10_isJudge rfl rfl rfl hdvX10_isJudge ⟨Nat.le_of_ble_eq_true rfl, Nat.le_of_ble_eq_true rfl⟩) [0, 2] [1, 3, 4, 5, 6] [5, 0, 6, 1, 2, 3, 4] rfl rfl rfl rfl rfl rfl rfl (ci := 10) rfl 0 rfl rfl rfl (Nat.le_of_ble_eq_true rfl) ⟨Nat.le_of_ble_eq_true rfl, Nat.le_of_ble_eq_true rfl⟩ dX10_card_9 (fun H locs hP _ hS => ?_)
    refine lv_if_eq (tgt := 27) hx hb dX10_card_12 (by decide) (fun c_6 => ?_) (fun c_6 => ?_)
    · have hf := xt hf c_6
      refine lv_ldc (v := (-100001 : Int32)) hx hb hown w2 dX10_card_27 ?_
      obtain rfl := Option.some.inj hf
      exact ret H _ ls _ rfl hP hD hS dX10_card_29
    · have hf := xf hf c_6
      refine lv_aload_n hx hb dX10_card_15 rfl (lv_at hl 0 rfl) ?_
      refine va_get (D := X.1) (ci := 10) (v := .ref a_cards) (C := RX10) (T := TX10) (N := 13) hx hb hts in10 hown hG.1 hP 0 rfl rfl 4 (by decide) w1 (fun _ h9 => h9) rfl dX10_card_16 ?_
      refine lv_iload_n hx hb dX10_card_19 rfl (lv_at hl 1 rfl) ?_
      refine lv_iload_n hx hb dX10_card_20 rfl (lv_at hl 2 rfl) ?_
      obtain ⟨o_7, ho_7, hf⟩ := ob_s hf
      refine xV_i (As := [.int x0, .int x1]) (b := a_cards) (rest := []) (ws2 := [(a_this, .inr (10, [.ref a_text, .ref a_reader, .ref a_draft, .ref a_laid, .ref a_cards, .ref a_flips, .ref a_bench, .ref a_notes, .ref a_presses, .ref a_told, .ref a_game, .ref a_kept, .int i_keptCount])), (a_cards, .inr (1, [.ref a_laid, .ref a_cards_owners])), (a_laid, .inr (3, [.int i_laid_rounds, .int i_laid_home, .int i_laid_noise, .int i_laid_blowCount, .int i_laid_judgeCount, .ref a_laid_blows, .ref a_laid_judges, .ref a_laid_forward, .ref a_laid_downs, .ref a_laid_taken, .ref a_laid_seenBy, .ref a_laid_sums, .ref a_laid_leads])), (a_laid_downs, .inl (X.2.1 0, 24, .inl f_laid_downs)), (a_laid_judges, .inl (X.2.1 0, 56, .inl f_laid_judges)), (a_laid_leads, .inl (X.2.1 0, 96, .inl f_laid_leads)), (a_laid_taken, .inl (X.2.1 0, 24, .inl f_laid_taken))]) hx hb hml hts hown hG hA hP hD rfl hS hl.1 (qX1_cardBy l X a_cards a_laid a_laid_downs a_laid_judges a_laid_leads a_laid_taken a_cards_owners a_laid_blows a_laid_forward a_laid_seenBy a_laid_sums i_laid_rounds i_laid_home i_laid_noise i_laid_blowCount i_laid_judgeCount f_laid_downs f_laid_judges f_laid_leads f_laid_taken x0 x1 o_7 ho_7) (cwV (y := yX1_cardBy) 2 hts gX10_card_X1_cardBy rfl rfl rfl hdvX1_cardBy ⟨Nat.le_of_ble_eq_true rfl, Nat.le_of_ble_eq_true rfl⟩) [1, 2, 3, 4, 5, 6] [0] [0, 1, 2, 3, 4, 5, 6] rfl rfl rfl rfl rfl rfl rfl (ci := 1) rfl 1 rfl rfl rfl (Nat.le_of_ble_eq_true rfl) ⟨Nat.le_of_ble_eq_true rfl, Nat.le_of_ble_eq_true rfl⟩ dX10_card_21 (fun H locs hP _ hS => ?_)
      refine lv_goto (tgt := 29) hx hb dX10_card_24 (by decide) ?_
      obtain rfl := Option.some.inj hf
      exact ret H _ ls _ rfl hP hD hS dX10_card_29
def mX10_points (x0 : Int32) (x1 : Int32) (x2 : Int32) (i_laid_rounds : Int32) (i_laid_judgeCount : Int32) (f_laid_downs : Nat → Int32) (f_laid_judges : Nat → Int32) (f_laid_leads : Nat → Int32) (f_laid_taken : Nat → Int32) :
  Option (Int32) :=
  (mX10_within x0 (0 : Int32) (2 : Int32)).bind fun o_1 =>
  if o_1 = 0 then (some (-1 : Int32)) else ((mX10_isJudge x1 i_laid_judgeCount).bind fun o_4 =>
  if o_4 = 0 then (some (-1 : Int32)) else ((mX10_isCorner x2).bind fun o_7 =>
  if o_7 = 0 then (some (-1 : Int32)) else ((mX1_pointsBy x0 x1 x2 i_laid_rounds f_laid_downs f_laid_judges f_laid_leads f_laid_taken).bind fun o_10 =>
  some o_10)))
theorem hdsX10_points : yX10_points.cls ≠ "java/lang/invoke/MethodHandle" ∧ yX10_points.cls ≠ "java/lang/invoke/VarHandle" ∧ (parseMethodDescriptor yX10_points.desc).map (fun d => d.parameters.length) = some 3 := by decide +kernel
theorem hdvX10_points : yX10_points.cls = RX10 ∧ yX10_points.cls ≠ "java/lang/invoke/MethodHandle" ∧ yX10_points.cls ≠ "java/lang/invoke/VarHandle" ∧ (parseMethodDescriptor yX10_points.desc).map (fun d => d.parameters.length) = some 3 := by decide +kernel
abbrev rmX10_points : Room := { frames := 4, cells := 0, slots := 0, locals := 96 }
set_option maxHeartbeats 4000000 in
set_option maxRecDepth 100000 in
theorem qX10_points (l : Launch) (X : XT) (a_this : Nat) (a_cards : Nat) (a_laid : Nat) (a_laid_downs : Nat) (a_laid_judges : Nat) (a_laid_leads : Nat) (a_laid_taken : Nat) (a_text : Nat) (a_reader : Nat) (a_draft : Nat) (a_flips : Nat) (a_bench : Nat) (a_notes : Nat) (a_presses : Nat) (a_told : Nat) (a_game : Nat) (a_kept : Nat) (a_cards_owners : Nat) (a_laid_blows : Nat) (a_laid_forward : Nat) (a_laid_seenBy : Nat) (a_laid_sums : Nat)  (i_keptCount : Int32) (i_laid_rounds : Int32) (i_laid_home : Int32) (i_laid_noise : Int32) (i_laid_blowCount : Int32) (i_laid_judgeCount : Int32) (f_laid_downs : Nat → Int32) (f_laid_judges : Nat → Int32) (f_laid_leads : Nat → Int32) (f_laid_taken : Nat → Int32) (x0 : Int32) (x1 : Int32) (x2 : Int32) (o : Int32) (hf : mX10_points x0 x1 x2 i_laid_rounds i_laid_judgeCount f_laid_downs f_laid_judges f_laid_leads f_laid_taken = some o) :
    MI l yX10_points wsX10_points rmX10_points X [.ref a_this, .int x0, .int x1, .int x2] [(a_this, .inr (10, [.ref a_text, .ref a_reader, .ref a_draft, .ref a_laid, .ref a_cards, .ref a_flips, .ref a_bench, .ref a_notes, .ref a_presses, .ref a_told, .ref a_game, .ref a_kept, .int i_keptCount])), (a_cards, .inr (1, [.ref a_laid, .ref a_cards_owners])), (a_laid, .inr (3, [.int i_laid_rounds, .int i_laid_home, .int i_laid_noise, .int i_laid_blowCount, .int i_laid_judgeCount, .ref a_laid_blows, .ref a_laid_judges, .ref a_laid_forward, .ref a_laid_downs, .ref a_laid_taken, .ref a_laid_seenBy, .ref a_laid_sums, .ref a_laid_leads])), (a_laid_downs, .inl (X.2.1 0, 24, .inl f_laid_downs)), (a_laid_judges, .inl (X.2.1 0, 56, .inl f_laid_judges)), (a_laid_leads, .inl (X.2.1 0, 96, .inl f_laid_leads)), (a_laid_taken, .inl (X.2.1 0, 24, .inl f_laid_taken))]  [(a_this, .inr (10, [.ref a_text, .ref a_reader, .ref a_draft, .ref a_laid, .ref a_cards, .ref a_flips, .ref a_bench, .ref a_notes, .ref a_presses, .ref a_told, .ref a_game, .ref a_kept, .int i_keptCount])), (a_cards, .inr (1, [.ref a_laid, .ref a_cards_owners])), (a_laid, .inr (3, [.int i_laid_rounds, .int i_laid_home, .int i_laid_noise, .int i_laid_blowCount, .int i_laid_judgeCount, .ref a_laid_blows, .ref a_laid_judges, .ref a_laid_forward, .ref a_laid_downs, .ref a_laid_taken, .ref a_laid_seenBy, .ref a_laid_sums, .ref a_laid_leads])), (a_laid_downs, .inl (X.2.1 0, 24, .inl f_laid_downs)), (a_laid_judges, .inl (X.2.1 0, 56, .inl f_laid_judges)), (a_laid_leads, .inl (X.2.1 0, 96, .inl f_laid_leads)), (a_laid_taken, .inl (X.2.1 0, 24, .inl f_laid_taken))] o := by
  refine MI_ofH (cc := cX10_points) (maxL := 4) (rt := .int) (by decide) rfl (Nat.le_of_ble_eq_true rfl) ?_
  intro p e s m below meth c A Q H ls hx hb hml hts hown hA hD hG hP hS hl ret
  have hown : s.vm.findClass RX10 = some m.cls := hown
  have hD : aD A [a_this, a_cards, a_laid, a_laid_downs, a_laid_judges, a_laid_leads, a_laid_taken] := hD
  have hl : lv_has ls 4 [(0, .ref a_this), (1, .int x0), (2, .int x1), (3, .int x2)] := hl
  have w1 := hts (Cond.fieldLink RX10 40 "ThreeCards" "cards" "LThreeCards$Cards;") (List.mem_of_getElem? (i := 1) rfl)
  have in10 : ∀ w ∈ u_ws RX10 TX10 13, w ∈ wsX10_points := by decide +kernel
  unfold mX10_points at hf
  refine lv_iload_n hx hb dX10_points_0 rfl (lv_at hl 1 rfl) ?_
  refine lv_iconst (v := (0 : Int32)) hx hb dX10_points_1 (by decide) ?_
  refine lv_iconst (v := (2 : Int32)) hx hb dX10_points_2 (by decide) ?_
  obtain ⟨o_1, ho_1, hf⟩ := ob_s hf
  refine xS_i (As := [.int x0, .int (0 : Int32), .int (2 : Int32)]) (rest := []) (ws2 := [(a_this, .inr (10, [.ref a_text, .ref a_reader, .ref a_draft, .ref a_laid, .ref a_cards, .ref a_flips, .ref a_bench, .ref a_notes, .ref a_presses, .ref a_told, .ref a_game, .ref a_kept, .int i_keptCount])), (a_cards, .inr (1, [.ref a_laid, .ref a_cards_owners])), (a_laid, .inr (3, [.int i_laid_rounds, .int i_laid_home, .int i_laid_noise, .int i_laid_blowCount, .int i_laid_judgeCount, .ref a_laid_blows, .ref a_laid_judges, .ref a_laid_forward, .ref a_laid_downs, .ref a_laid_taken, .ref a_laid_seenBy, .ref a_laid_sums, .ref a_laid_leads])), (a_laid_downs, .inl (X.2.1 0, 24, .inl f_laid_downs)), (a_laid_judges, .inl (X.2.1 0, 56, .inl f_laid_judges)), (a_laid_leads, .inl (X.2.1 0, 96, .inl f_laid_leads)), (a_laid_taken, .inl (X.2.1 0, 24, .inl f_laid_taken))]) hx hb hml hts hown hG hA hP hD rfl hS hl.1 (qX10_within l X x0 (0 : Int32) (2 : Int32) o_1 ho_1) (va_cwS (y := yX10_within) 3 hts gX10_points_X10_within rfl rfl rfl hdsX10_within ⟨Nat.le_of_ble_eq_true rfl, Nat.le_of_ble_eq_true rfl⟩) [] [0, 1, 2, 3, 4, 5, 6] [0, 1, 2, 3, 4, 5, 6] rfl rfl rfl rfl rfl rfl rfl rfl rfl (Nat.le_of_ble_eq_true rfl) ⟨Nat.le_of_ble_eq_true rfl, Nat.le_of_ble_eq_true rfl⟩ dX10_points_3 (fun H locs hP _ hS => ?_)
  refine lv_if_eq (tgt := 24) hx hb dX10_points_6 (by decide) (fun c_3 => ?_) (fun c_3 => ?_)
  · have hf := xt hf c_3
    refine lv_iconst (v := (-1 : Int32)) hx hb dX10_points_24 (by decide) ?_
    obtain rfl := Option.some.inj hf
    exact ret H _ ls _ rfl hP hD hS dX10_points_25
  · have hf := xf hf c_3
    refine lv_aload_n hx hb dX10_points_9 rfl (lv_at hl 0 rfl) ?_
    refine lv_iload_n hx hb dX10_points_10 rfl (lv_at hl 2 rfl) ?_
    obtain ⟨o_4, ho_4, hf⟩ := ob_s hf
    refine xV_i (As := [.int x1]) (b := a_this) (rest := []) (ws2 := [(a_this, .inr (10, [.ref a_text, .ref a_reader, .ref a_draft, .ref a_laid, .ref a_cards, .ref a_flips, .ref a_bench, .ref a_notes, .ref a_presses, .ref a_told, .ref a_game, .ref a_kept, .int i_keptCount])), (a_cards, .inr (1, [.ref a_laid, .ref a_cards_owners])), (a_laid, .inr (3, [.int i_laid_rounds, .int i_laid_home, .int i_laid_noise, .int i_laid_blowCount, .int i_laid_judgeCount, .ref a_laid_blows, .ref a_laid_judges, .ref a_laid_forward, .ref a_laid_downs, .ref a_laid_taken, .ref a_laid_seenBy, .ref a_laid_sums, .ref a_laid_leads])), (a_laid_downs, .inl (X.2.1 0, 24, .inl f_laid_downs)), (a_laid_judges, .inl (X.2.1 0, 56, .inl f_laid_judges)), (a_laid_leads, .inl (X.2.1 0, 96, .inl f_laid_leads)), (a_laid_taken, .inl (X.2.1 0, 24, .inl f_laid_taken))]) hx hb hml hts hown hG hA hP hD rfl hS hl.1 (qX10_isJudge l X a_this a_laid a_text a_reader a_draft a_cards a_flips a_bench a_notes a_presses a_told a_game a_kept a_laid_blows a_laid_judges a_laid_forward a_laid_downs a_laid_taken a_laid_seenBy a_laid_sums a_laid_leads i_keptCount i_laid_rounds i_laid_home i_laid_noise i_laid_blowCount i_laid_judgeCount x1 o_4 ho_4) (cwV (y := yX10_isJudge) 1 hts gX10_points_X10_isJudge rfl rfl rfl hdvX10_isJudge ⟨Nat.le_of_ble_eq_true rfl, Nat.le_of_ble_eq_true rfl⟩) [0, 2] [1, 3, 4, 5, 6] [5, 0, 6, 1, 2, 3, 4] rfl rfl rfl rfl rfl rfl rfl (ci := 10) rfl 0 rfl rfl rfl (Nat.le_of_ble_eq_true rfl) ⟨Nat.le_of_ble_eq_true rfl, Nat.le_of_ble_eq_true rfl⟩ dX10_points_11 (fun H locs hP _ hS => ?_)
    refine lv_if_eq (tgt := 24) hx hb dX10_points_14 (by decide) (fun c_6 => ?_) (fun c_6 => ?_)
    · have hf := xt hf c_6
      refine lv_iconst (v := (-1 : Int32)) hx hb dX10_points_24 (by decide) ?_
      obtain rfl := Option.some.inj hf
      exact ret H _ ls _ rfl hP hD hS dX10_points_25
    · have hf := xf hf c_6
      refine lv_iload_n hx hb dX10_points_17 rfl (lv_at hl 3 rfl) ?_
      obtain ⟨o_7, ho_7, hf⟩ := ob_s hf
      refine xS_i (As := [.int x2]) (rest := []) (ws2 := [(a_this, .inr (10, [.ref a_text, .ref a_reader, .ref a_draft, .ref a_laid, .ref a_cards, .ref a_flips, .ref a_bench, .ref a_notes, .ref a_presses, .ref a_told, .ref a_game, .ref a_kept, .int i_keptCount])), (a_cards, .inr (1, [.ref a_laid, .ref a_cards_owners])), (a_laid, .inr (3, [.int i_laid_rounds, .int i_laid_home, .int i_laid_noise, .int i_laid_blowCount, .int i_laid_judgeCount, .ref a_laid_blows, .ref a_laid_judges, .ref a_laid_forward, .ref a_laid_downs, .ref a_laid_taken, .ref a_laid_seenBy, .ref a_laid_sums, .ref a_laid_leads])), (a_laid_downs, .inl (X.2.1 0, 24, .inl f_laid_downs)), (a_laid_judges, .inl (X.2.1 0, 56, .inl f_laid_judges)), (a_laid_leads, .inl (X.2.1 0, 96, .inl f_laid_leads)), (a_laid_taken, .inl (X.2.1 0, 24, .inl f_laid_taken))]) hx hb hml hts hown hG hA hP hD rfl hS hl.1 (qX10_isCorner l X x2 o_7 ho_7) (va_cwS (y := yX10_isCorner) 1 hts gX10_points_X10_isCorner rfl rfl rfl hdsX10_isCorner ⟨Nat.le_of_ble_eq_true rfl, Nat.le_of_ble_eq_true rfl⟩) [] [0, 1, 2, 3, 4, 5, 6] [0, 1, 2, 3, 4, 5, 6] rfl rfl rfl rfl rfl rfl rfl rfl rfl (Nat.le_of_ble_eq_true rfl) ⟨Nat.le_of_ble_eq_true rfl, Nat.le_of_ble_eq_true rfl⟩ dX10_points_18 (fun H locs hP _ hS => ?_)
      refine lv_if_ne (tgt := 26) hx hb dX10_points_21 (by decide) (fun c_9 => ?_) (fun c_9 => ?_)
      · have hf := xf hf c_9
        refine lv_aload_n hx hb dX10_points_26 rfl (lv_at hl 0 rfl) ?_
        refine va_get (D := X.1) (ci := 10) (v := .ref a_cards) (C := RX10) (T := TX10) (N := 13) hx hb hts in10 hown hG.1 hP 0 rfl rfl 4 (by decide) w1 (fun _ h9 => h9) rfl dX10_points_27 ?_
        refine lv_iload_n hx hb dX10_points_30 rfl (lv_at hl 1 rfl) ?_
        refine lv_iload_n hx hb dX10_points_31 rfl (lv_at hl 2 rfl) ?_
        refine lv_iload_n hx hb dX10_points_32 rfl (lv_at hl 3 rfl) ?_
        obtain ⟨o_10, ho_10, hf⟩ := ob_s hf
        refine xV_i (As := [.int x0, .int x1, .int x2]) (b := a_cards) (rest := []) (ws2 := [(a_this, .inr (10, [.ref a_text, .ref a_reader, .ref a_draft, .ref a_laid, .ref a_cards, .ref a_flips, .ref a_bench, .ref a_notes, .ref a_presses, .ref a_told, .ref a_game, .ref a_kept, .int i_keptCount])), (a_cards, .inr (1, [.ref a_laid, .ref a_cards_owners])), (a_laid, .inr (3, [.int i_laid_rounds, .int i_laid_home, .int i_laid_noise, .int i_laid_blowCount, .int i_laid_judgeCount, .ref a_laid_blows, .ref a_laid_judges, .ref a_laid_forward, .ref a_laid_downs, .ref a_laid_taken, .ref a_laid_seenBy, .ref a_laid_sums, .ref a_laid_leads])), (a_laid_downs, .inl (X.2.1 0, 24, .inl f_laid_downs)), (a_laid_judges, .inl (X.2.1 0, 56, .inl f_laid_judges)), (a_laid_leads, .inl (X.2.1 0, 96, .inl f_laid_leads)), (a_laid_taken, .inl (X.2.1 0, 24, .inl f_laid_taken))]) hx hb hml hts hown hG hA hP hD rfl hS hl.1 (qX1_pointsBy l X a_cards a_laid a_laid_downs a_laid_judges a_laid_leads a_laid_taken a_cards_owners a_laid_blows a_laid_forward a_laid_seenBy a_laid_sums i_laid_rounds i_laid_home i_laid_noise i_laid_blowCount i_laid_judgeCount f_laid_downs f_laid_judges f_laid_leads f_laid_taken x0 x1 x2 o_10 ho_10) (cwV (y := yX1_pointsBy) 3 hts gX10_points_X1_pointsBy rfl rfl rfl hdvX1_pointsBy ⟨Nat.le_of_ble_eq_true rfl, Nat.le_of_ble_eq_true rfl⟩) [1, 2, 3, 4, 5, 6] [0] [0, 1, 2, 3, 4, 5, 6] rfl rfl rfl rfl rfl rfl rfl (ci := 1) rfl 1 rfl rfl rfl (Nat.le_of_ble_eq_true rfl) ⟨Nat.le_of_ble_eq_true rfl, Nat.le_of_ble_eq_true rfl⟩ dX10_points_33 (fun H locs hP _ hS => ?_)
        obtain rfl := Option.some.inj hf
        exact ret H _ ls _ rfl hP hD hS dX10_points_36
      · have hf := xt hf c_9
        refine lv_iconst (v := (-1 : Int32)) hx hb dX10_points_24 (by decide) ?_
        obtain rfl := Option.some.inj hf
        exact ret H _ ls _ rfl hP hD hS dX10_points_25
def mX10_areThree (x0 : Int32) (x1 : Int32) (x2 : Int32) (i_laid_judgeCount : Int32) :
  Option (Int32) :=
  (mX10_isJudge x0 i_laid_judgeCount).bind fun o_1 =>
  if o_1 = 0 then (some (0 : Int32)) else ((mX10_isJudge x1 i_laid_judgeCount).bind fun o_4 =>
  if o_4 = 0 then (some (0 : Int32)) else ((mX10_isJudge x2 i_laid_judgeCount).bind fun o_7 =>
  if o_7 = 0 then (some (0 : Int32)) else (if x0 = x1 then (some (0 : Int32)) else (if x0 = x2 then (some (0 : Int32)) else (if x1 = x2 then (some (0 : Int32)) else (some (1 : Int32)))))))
theorem hdsX10_areThree : yX10_areThree.cls ≠ "java/lang/invoke/MethodHandle" ∧ yX10_areThree.cls ≠ "java/lang/invoke/VarHandle" ∧ (parseMethodDescriptor yX10_areThree.desc).map (fun d => d.parameters.length) = some 3 := by decide +kernel
theorem hdvX10_areThree : yX10_areThree.cls = RX10 ∧ yX10_areThree.cls ≠ "java/lang/invoke/MethodHandle" ∧ yX10_areThree.cls ≠ "java/lang/invoke/VarHandle" ∧ (parseMethodDescriptor yX10_areThree.desc).map (fun d => d.parameters.length) = some 3 := by decide +kernel
abbrev rmX10_areThree : Room := { frames := 2, cells := 0, slots := 0, locals := 43 }
set_option maxHeartbeats 4000000 in
set_option maxRecDepth 100000 in
theorem qX10_areThree (l : Launch) (X : XT) (a_this : Nat) (a_laid : Nat) (a_text : Nat) (a_reader : Nat) (a_draft : Nat) (a_cards : Nat) (a_flips : Nat) (a_bench : Nat) (a_notes : Nat) (a_presses : Nat) (a_told : Nat) (a_game : Nat) (a_kept : Nat) (a_laid_blows : Nat) (a_laid_judges : Nat) (a_laid_forward : Nat) (a_laid_downs : Nat) (a_laid_taken : Nat) (a_laid_seenBy : Nat) (a_laid_sums : Nat) (a_laid_leads : Nat)  (i_keptCount : Int32) (i_laid_rounds : Int32) (i_laid_home : Int32) (i_laid_noise : Int32) (i_laid_blowCount : Int32) (i_laid_judgeCount : Int32) (x0 : Int32) (x1 : Int32) (x2 : Int32) (o : Int32) (hf : mX10_areThree x0 x1 x2 i_laid_judgeCount = some o) :
    MI l yX10_areThree wsX10_areThree rmX10_areThree X [.ref a_this, .int x0, .int x1, .int x2] [(a_this, .inr (10, [.ref a_text, .ref a_reader, .ref a_draft, .ref a_laid, .ref a_cards, .ref a_flips, .ref a_bench, .ref a_notes, .ref a_presses, .ref a_told, .ref a_game, .ref a_kept, .int i_keptCount])), (a_laid, .inr (3, [.int i_laid_rounds, .int i_laid_home, .int i_laid_noise, .int i_laid_blowCount, .int i_laid_judgeCount, .ref a_laid_blows, .ref a_laid_judges, .ref a_laid_forward, .ref a_laid_downs, .ref a_laid_taken, .ref a_laid_seenBy, .ref a_laid_sums, .ref a_laid_leads]))]  [(a_this, .inr (10, [.ref a_text, .ref a_reader, .ref a_draft, .ref a_laid, .ref a_cards, .ref a_flips, .ref a_bench, .ref a_notes, .ref a_presses, .ref a_told, .ref a_game, .ref a_kept, .int i_keptCount])), (a_laid, .inr (3, [.int i_laid_rounds, .int i_laid_home, .int i_laid_noise, .int i_laid_blowCount, .int i_laid_judgeCount, .ref a_laid_blows, .ref a_laid_judges, .ref a_laid_forward, .ref a_laid_downs, .ref a_laid_taken, .ref a_laid_seenBy, .ref a_laid_sums, .ref a_laid_leads]))] o := by
  refine MI_ofH (cc := cX10_areThree) (maxL := 4) (rt := .boolean) (by decide) rfl (Nat.le_of_ble_eq_true rfl) ?_
  intro p e s m below meth c A Q H ls hx hb hml hts hown hA hD hG hP hS hl ret
  have hown : s.vm.findClass RX10 = some m.cls := hown
  have hD : aD A [a_this, a_laid] := hD
  have hl : lv_has ls 4 [(0, .ref a_this), (1, .int x0), (2, .int x1), (3, .int x2)] := hl
  unfold mX10_areThree at hf
  refine lv_aload_n hx hb dX10_areThree_0 rfl (lv_at hl 0 rfl) ?_
  refine lv_iload_n hx hb dX10_areThree_1 rfl (lv_at hl 1 rfl) ?_
  obtain ⟨o_1, ho_1, hf⟩ := ob_s hf
  refine xV_i (As := [.int x0]) (b := a_this) (rest := []) (ws2 := [(a_this, .inr (10, [.ref a_text, .ref a_reader, .ref a_draft, .ref a_laid, .ref a_cards, .ref a_flips, .ref a_bench, .ref a_notes, .ref a_presses, .ref a_told, .ref a_game, .ref a_kept, .int i_keptCount])), (a_laid, .inr (3, [.int i_laid_rounds, .int i_laid_home, .int i_laid_noise, .int i_laid_blowCount, .int i_laid_judgeCount, .ref a_laid_blows, .ref a_laid_judges, .ref a_laid_forward, .ref a_laid_downs, .ref a_laid_taken, .ref a_laid_seenBy, .ref a_laid_sums, .ref a_laid_leads]))]) hx hb hml hts hown hG hA hP hD rfl hS hl.1 (qX10_isJudge l X a_this a_laid a_text a_reader a_draft a_cards a_flips a_bench a_notes a_presses a_told a_game a_kept a_laid_blows a_laid_judges a_laid_forward a_laid_downs a_laid_taken a_laid_seenBy a_laid_sums a_laid_leads i_keptCount i_laid_rounds i_laid_home i_laid_noise i_laid_blowCount i_laid_judgeCount x0 o_1 ho_1) (cwV (y := yX10_isJudge) 1 hts gX10_areThree_X10_isJudge rfl rfl rfl hdvX10_isJudge ⟨Nat.le_of_ble_eq_true rfl, Nat.le_of_ble_eq_true rfl⟩) [0, 1] [] [0, 1] rfl rfl rfl rfl rfl rfl rfl (ci := 10) rfl 0 rfl rfl rfl (Nat.le_of_ble_eq_true rfl) ⟨Nat.le_of_ble_eq_true rfl, Nat.le_of_ble_eq_true rfl⟩ dX10_areThree_2 (fun H locs hP _ hS => ?_)
  refine lv_if_eq (tgt := 43) hx hb dX10_areThree_5 (by decide) (fun c_3 => ?_) (fun c_3 => ?_)
  · have hf := xt hf c_3
    refine lv_iconst (v := (0 : Int32)) hx hb dX10_areThree_43 (by decide) ?_
    obtain rfl := Option.some.inj hf
    exact ret H _ ls _ (show narrow .boolean (.int (0 : Int32)) = .int (0 : Int32) from rfl) hP hD hS dX10_areThree_44
  · have hf := xf hf c_3
    refine lv_aload_n hx hb dX10_areThree_8 rfl (lv_at hl 0 rfl) ?_
    refine lv_iload_n hx hb dX10_areThree_9 rfl (lv_at hl 2 rfl) ?_
    obtain ⟨o_4, ho_4, hf⟩ := ob_s hf
    refine xV_i (As := [.int x1]) (b := a_this) (rest := []) (ws2 := [(a_this, .inr (10, [.ref a_text, .ref a_reader, .ref a_draft, .ref a_laid, .ref a_cards, .ref a_flips, .ref a_bench, .ref a_notes, .ref a_presses, .ref a_told, .ref a_game, .ref a_kept, .int i_keptCount])), (a_laid, .inr (3, [.int i_laid_rounds, .int i_laid_home, .int i_laid_noise, .int i_laid_blowCount, .int i_laid_judgeCount, .ref a_laid_blows, .ref a_laid_judges, .ref a_laid_forward, .ref a_laid_downs, .ref a_laid_taken, .ref a_laid_seenBy, .ref a_laid_sums, .ref a_laid_leads]))]) hx hb hml hts hown hG hA hP hD rfl hS hl.1 (qX10_isJudge l X a_this a_laid a_text a_reader a_draft a_cards a_flips a_bench a_notes a_presses a_told a_game a_kept a_laid_blows a_laid_judges a_laid_forward a_laid_downs a_laid_taken a_laid_seenBy a_laid_sums a_laid_leads i_keptCount i_laid_rounds i_laid_home i_laid_noise i_laid_blowCount i_laid_judgeCount x1 o_4 ho_4) (cwV (y := yX10_isJudge) 1 hts gX10_areThree_X10_isJudge rfl rfl rfl hdvX10_isJudge ⟨Nat.le_of_ble_eq_true rfl, Nat.le_of_ble_eq_true rfl⟩) [0, 1] [] [0, 1] rfl rfl rfl rfl rfl rfl rfl (ci := 10) rfl 0 rfl rfl rfl (Nat.le_of_ble_eq_true rfl) ⟨Nat.le_of_ble_eq_true rfl, Nat.le_of_ble_eq_true rfl⟩ dX10_areThree_10 (fun H locs hP _ hS => ?_)
    refine lv_if_eq (tgt := 43) hx hb dX10_areThree_13 (by decide) (fun c_6 => ?_) (fun c_6 => ?_)
    · have hf := xt hf c_6
      refine lv_iconst (v := (0 : Int32)) hx hb dX10_areThree_43 (by decide) ?_
      obtain rfl := Option.some.inj hf
      exact ret H _ ls _ (show narrow .boolean (.int (0 : Int32)) = .int (0 : Int32) from rfl) hP hD hS dX10_areThree_44
    · have hf := xf hf c_6
      refine lv_aload_n hx hb dX10_areThree_16 rfl (lv_at hl 0 rfl) ?_
      refine lv_iload_n hx hb dX10_areThree_17 rfl (lv_at hl 3 rfl) ?_
      obtain ⟨o_7, ho_7, hf⟩ := ob_s hf
      refine xV_i (As := [.int x2]) (b := a_this) (rest := []) (ws2 := [(a_this, .inr (10, [.ref a_text, .ref a_reader, .ref a_draft, .ref a_laid, .ref a_cards, .ref a_flips, .ref a_bench, .ref a_notes, .ref a_presses, .ref a_told, .ref a_game, .ref a_kept, .int i_keptCount])), (a_laid, .inr (3, [.int i_laid_rounds, .int i_laid_home, .int i_laid_noise, .int i_laid_blowCount, .int i_laid_judgeCount, .ref a_laid_blows, .ref a_laid_judges, .ref a_laid_forward, .ref a_laid_downs, .ref a_laid_taken, .ref a_laid_seenBy, .ref a_laid_sums, .ref a_laid_leads]))]) hx hb hml hts hown hG hA hP hD rfl hS hl.1 (qX10_isJudge l X a_this a_laid a_text a_reader a_draft a_cards a_flips a_bench a_notes a_presses a_told a_game a_kept a_laid_blows a_laid_judges a_laid_forward a_laid_downs a_laid_taken a_laid_seenBy a_laid_sums a_laid_leads i_keptCount i_laid_rounds i_laid_home i_laid_noise i_laid_blowCount i_laid_judgeCount x2 o_7 ho_7) (cwV (y := yX10_isJudge) 1 hts gX10_areThree_X10_isJudge rfl rfl rfl hdvX10_isJudge ⟨Nat.le_of_ble_eq_true rfl, Nat.le_of_ble_eq_true rfl⟩) [0, 1] [] [0, 1] rfl rfl rfl rfl rfl rfl rfl (ci := 10) rfl 0 rfl rfl rfl (Nat.le_of_ble_eq_true rfl) ⟨Nat.le_of_ble_eq_true rfl, Nat.le_of_ble_eq_true rfl⟩ dX10_areThree_18 (fun H locs hP _ hS => ?_)
      refine lv_if_eq (tgt := 43) hx hb dX10_areThree_21 (by decide) (fun c_9 => ?_) (fun c_9 => ?_)
      · have hf := xt hf c_9
        refine lv_iconst (v := (0 : Int32)) hx hb dX10_areThree_43 (by decide) ?_
        obtain rfl := Option.some.inj hf
        exact ret H _ ls _ (show narrow .boolean (.int (0 : Int32)) = .int (0 : Int32) from rfl) hP hD hS dX10_areThree_44
      · have hf := xf hf c_9
        refine lv_iload_n hx hb dX10_areThree_24 rfl (lv_at hl 1 rfl) ?_
        refine lv_iload_n hx hb dX10_areThree_25 rfl (lv_at hl 2 rfl) ?_
        refine lv_icmp_eq (tgt := 43) hx hb dX10_areThree_26 (by decide) (fun c_10 => ?_) (fun c_10 => ?_)
        · have hf := xt hf c_10
          refine lv_iconst (v := (0 : Int32)) hx hb dX10_areThree_43 (by decide) ?_
          obtain rfl := Option.some.inj hf
          exact ret H _ ls _ (show narrow .boolean (.int (0 : Int32)) = .int (0 : Int32) from rfl) hP hD hS dX10_areThree_44
        · have hf := xf hf c_10
          refine lv_iload_n hx hb dX10_areThree_29 rfl (lv_at hl 1 rfl) ?_
          refine lv_iload_n hx hb dX10_areThree_30 rfl (lv_at hl 3 rfl) ?_
          refine lv_icmp_eq (tgt := 43) hx hb dX10_areThree_31 (by decide) (fun c_11 => ?_) (fun c_11 => ?_)
          · have hf := xt hf c_11
            refine lv_iconst (v := (0 : Int32)) hx hb dX10_areThree_43 (by decide) ?_
            obtain rfl := Option.some.inj hf
            exact ret H _ ls _ (show narrow .boolean (.int (0 : Int32)) = .int (0 : Int32) from rfl) hP hD hS dX10_areThree_44
          · have hf := xf hf c_11
            refine lv_iload_n hx hb dX10_areThree_34 rfl (lv_at hl 2 rfl) ?_
            refine lv_iload_n hx hb dX10_areThree_35 rfl (lv_at hl 3 rfl) ?_
            refine lv_icmp_eq (tgt := 43) hx hb dX10_areThree_36 (by decide) (fun c_12 => ?_) (fun c_12 => ?_)
            · have hf := xt hf c_12
              refine lv_iconst (v := (0 : Int32)) hx hb dX10_areThree_43 (by decide) ?_
              obtain rfl := Option.some.inj hf
              exact ret H _ ls _ (show narrow .boolean (.int (0 : Int32)) = .int (0 : Int32) from rfl) hP hD hS dX10_areThree_44
            · have hf := xf hf c_12
              refine lv_iconst (v := (1 : Int32)) hx hb dX10_areThree_39 (by decide) ?_
              refine lv_goto (tgt := 44) hx hb dX10_areThree_40 (by decide) ?_
              obtain rfl := Option.some.inj hf
              exact ret H _ ls _ (show narrow .boolean (.int (1 : Int32)) = .int (1 : Int32) from rfl) hP hD hS dX10_areThree_44
def mX10_end (x0 : Int32) (x1 : Int32) (x2 : Int32) (x3 : Int32) (x4 : Int32) (i_laid_rounds : Int32) (i_laid_judgeCount : Int32) (f_laid_downs : Nat → Int32) (f_laid_judges : Nat → Int32) (f_laid_leads : Nat → Int32) (f_laid_taken : Nat → Int32) :
  Option (Int32) :=
  (mX10_isRule x0).bind fun o_1 =>
  if o_1 = 0 then (some (-1 : Int32)) else ((mX10_areThree x1 x2 x3 i_laid_judgeCount).bind fun o_4 =>
  if o_4 = 0 then (some (-1 : Int32)) else ((mX10_within x4 (0 : Int32) (1 : Int32)).bind fun o_7 =>
  if o_7 = 0 then (some (-1 : Int32)) else ((mX1_cardBy x0 x1 i_laid_rounds f_laid_downs f_laid_judges f_laid_leads f_laid_taken).bind fun o_10 =>
  (mX1_ownerOf o_10).bind fun o_12 =>
  (mX1_cardBy x0 x2 i_laid_rounds f_laid_downs f_laid_judges f_laid_leads f_laid_taken).bind fun o_14 =>
  (mX1_ownerOf o_14).bind fun o_16 =>
  (mX1_cardBy x0 x3 i_laid_rounds f_laid_downs f_laid_judges f_laid_leads f_laid_taken).bind fun o_18 =>
  (mX1_ownerOf o_18).bind fun o_20 =>
  if x4 = 0 then ((mX1_endOf o_12 o_16 o_20).bind fun o_25 =>
  some o_25) else ((mX1_kindOf o_12 o_16 o_20).bind fun o_23 =>
  some o_23))))
theorem hdsX10_end : yX10_end.cls ≠ "java/lang/invoke/MethodHandle" ∧ yX10_end.cls ≠ "java/lang/invoke/VarHandle" ∧ (parseMethodDescriptor yX10_end.desc).map (fun d => d.parameters.length) = some 5 := by decide +kernel
theorem hdvX10_end : yX10_end.cls = RX10 ∧ yX10_end.cls ≠ "java/lang/invoke/MethodHandle" ∧ yX10_end.cls ≠ "java/lang/invoke/VarHandle" ∧ (parseMethodDescriptor yX10_end.desc).map (fun d => d.parameters.length) = some 5 := by decide +kernel
abbrev rmX10_end : Room := { frames := 4, cells := 0, slots := 0, locals := 94 }
set_option maxHeartbeats 4000000 in
set_option maxRecDepth 100000 in
theorem qX10_end (l : Launch) (X : XT) (a_this : Nat) (a_cards : Nat) (a_laid : Nat) (a_laid_downs : Nat) (a_laid_judges : Nat) (a_laid_leads : Nat) (a_laid_taken : Nat) (a_text : Nat) (a_reader : Nat) (a_draft : Nat) (a_flips : Nat) (a_bench : Nat) (a_notes : Nat) (a_presses : Nat) (a_told : Nat) (a_game : Nat) (a_kept : Nat) (a_cards_owners : Nat) (a_laid_blows : Nat) (a_laid_forward : Nat) (a_laid_seenBy : Nat) (a_laid_sums : Nat)  (i_keptCount : Int32) (i_laid_rounds : Int32) (i_laid_home : Int32) (i_laid_noise : Int32) (i_laid_blowCount : Int32) (i_laid_judgeCount : Int32) (f_laid_downs : Nat → Int32) (f_laid_judges : Nat → Int32) (f_laid_leads : Nat → Int32) (f_laid_taken : Nat → Int32) (x0 : Int32) (x1 : Int32) (x2 : Int32) (x3 : Int32) (x4 : Int32) (o : Int32) (hf : mX10_end x0 x1 x2 x3 x4 i_laid_rounds i_laid_judgeCount f_laid_downs f_laid_judges f_laid_leads f_laid_taken = some o) :
    MI l yX10_end wsX10_end rmX10_end X [.ref a_this, .int x0, .int x1, .int x2, .int x3, .int x4] [(a_this, .inr (10, [.ref a_text, .ref a_reader, .ref a_draft, .ref a_laid, .ref a_cards, .ref a_flips, .ref a_bench, .ref a_notes, .ref a_presses, .ref a_told, .ref a_game, .ref a_kept, .int i_keptCount])), (a_cards, .inr (1, [.ref a_laid, .ref a_cards_owners])), (a_laid, .inr (3, [.int i_laid_rounds, .int i_laid_home, .int i_laid_noise, .int i_laid_blowCount, .int i_laid_judgeCount, .ref a_laid_blows, .ref a_laid_judges, .ref a_laid_forward, .ref a_laid_downs, .ref a_laid_taken, .ref a_laid_seenBy, .ref a_laid_sums, .ref a_laid_leads])), (a_laid_downs, .inl (X.2.1 0, 24, .inl f_laid_downs)), (a_laid_judges, .inl (X.2.1 0, 56, .inl f_laid_judges)), (a_laid_leads, .inl (X.2.1 0, 96, .inl f_laid_leads)), (a_laid_taken, .inl (X.2.1 0, 24, .inl f_laid_taken))]  [(a_this, .inr (10, [.ref a_text, .ref a_reader, .ref a_draft, .ref a_laid, .ref a_cards, .ref a_flips, .ref a_bench, .ref a_notes, .ref a_presses, .ref a_told, .ref a_game, .ref a_kept, .int i_keptCount])), (a_cards, .inr (1, [.ref a_laid, .ref a_cards_owners])), (a_laid, .inr (3, [.int i_laid_rounds, .int i_laid_home, .int i_laid_noise, .int i_laid_blowCount, .int i_laid_judgeCount, .ref a_laid_blows, .ref a_laid_judges, .ref a_laid_forward, .ref a_laid_downs, .ref a_laid_taken, .ref a_laid_seenBy, .ref a_laid_sums, .ref a_laid_leads])), (a_laid_downs, .inl (X.2.1 0, 24, .inl f_laid_downs)), (a_laid_judges, .inl (X.2.1 0, 56, .inl f_laid_judges)), (a_laid_leads, .inl (X.2.1 0, 96, .inl f_laid_leads)), (a_laid_taken, .inl (X.2.1 0, 24, .inl f_laid_taken))] o := by
  refine MI_ofH (cc := cX10_end) (maxL := 9) (rt := .int) (by decide) rfl (Nat.le_of_ble_eq_true rfl) ?_
  intro p e s m below meth c A Q H ls hx hb hml hts hown hA hD hG hP hS hl ret
  have hown : s.vm.findClass RX10 = some m.cls := hown
  have hD : aD A [a_this, a_cards, a_laid, a_laid_downs, a_laid_judges, a_laid_leads, a_laid_taken] := hD
  have hl : lv_has ls 9 [(0, .ref a_this), (1, .int x0), (2, .int x1), (3, .int x2), (4, .int x3), (5, .int x4)] := hl
  have w1 := hts (Cond.fieldLink RX10 40 "ThreeCards" "cards" "LThreeCards$Cards;") (List.mem_of_getElem? (i := 1) rfl)
  have in10 : ∀ w ∈ u_ws RX10 TX10 13, w ∈ wsX10_end := by decide +kernel
  unfold mX10_end at hf
  refine lv_iload_n hx hb dX10_end_0 rfl (lv_at hl 1 rfl) ?_
  obtain ⟨o_1, ho_1, hf⟩ := ob_s hf
  refine xS_i (As := [.int x0]) (rest := []) (ws2 := [(a_this, .inr (10, [.ref a_text, .ref a_reader, .ref a_draft, .ref a_laid, .ref a_cards, .ref a_flips, .ref a_bench, .ref a_notes, .ref a_presses, .ref a_told, .ref a_game, .ref a_kept, .int i_keptCount])), (a_cards, .inr (1, [.ref a_laid, .ref a_cards_owners])), (a_laid, .inr (3, [.int i_laid_rounds, .int i_laid_home, .int i_laid_noise, .int i_laid_blowCount, .int i_laid_judgeCount, .ref a_laid_blows, .ref a_laid_judges, .ref a_laid_forward, .ref a_laid_downs, .ref a_laid_taken, .ref a_laid_seenBy, .ref a_laid_sums, .ref a_laid_leads])), (a_laid_downs, .inl (X.2.1 0, 24, .inl f_laid_downs)), (a_laid_judges, .inl (X.2.1 0, 56, .inl f_laid_judges)), (a_laid_leads, .inl (X.2.1 0, 96, .inl f_laid_leads)), (a_laid_taken, .inl (X.2.1 0, 24, .inl f_laid_taken))]) hx hb hml hts hown hG hA hP hD rfl hS hl.1 (qX10_isRule l X x0 o_1 ho_1) (va_cwS (y := yX10_isRule) 1 hts gX10_end_X10_isRule rfl rfl rfl hdsX10_isRule ⟨Nat.le_of_ble_eq_true rfl, Nat.le_of_ble_eq_true rfl⟩) [] [0, 1, 2, 3, 4, 5, 6] [0, 1, 2, 3, 4, 5, 6] rfl rfl rfl rfl rfl rfl rfl rfl rfl (Nat.le_of_ble_eq_true rfl) ⟨Nat.le_of_ble_eq_true rfl, Nat.le_of_ble_eq_true rfl⟩ dX10_end_1 (fun H locs hP _ hS => ?_)
  refine lv_if_eq (tgt := 28) hx hb dX10_end_4 (by decide) (fun c_3 => ?_) (fun c_3 => ?_)
  · have hf := xt hf c_3
    refine lv_iconst (v := (-1 : Int32)) hx hb dX10_end_28 (by decide) ?_
    obtain rfl := Option.some.inj hf
    exact ret H _ ls _ rfl hP hD hS dX10_end_29
  · have hf := xf hf c_3
    refine lv_aload_n hx hb dX10_end_7 rfl (lv_at hl 0 rfl) ?_
    refine lv_iload_n hx hb dX10_end_8 rfl (lv_at hl 2 rfl) ?_
    refine lv_iload_n hx hb dX10_end_9 rfl (lv_at hl 3 rfl) ?_
    refine lv_iload hx hb dX10_end_10 (lv_at hl 4 rfl) ?_
    obtain ⟨o_4, ho_4, hf⟩ := ob_s hf
    refine xV_i (As := [.int x1, .int x2, .int x3]) (b := a_this) (rest := []) (ws2 := [(a_this, .inr (10, [.ref a_text, .ref a_reader, .ref a_draft, .ref a_laid, .ref a_cards, .ref a_flips, .ref a_bench, .ref a_notes, .ref a_presses, .ref a_told, .ref a_game, .ref a_kept, .int i_keptCount])), (a_cards, .inr (1, [.ref a_laid, .ref a_cards_owners])), (a_laid, .inr (3, [.int i_laid_rounds, .int i_laid_home, .int i_laid_noise, .int i_laid_blowCount, .int i_laid_judgeCount, .ref a_laid_blows, .ref a_laid_judges, .ref a_laid_forward, .ref a_laid_downs, .ref a_laid_taken, .ref a_laid_seenBy, .ref a_laid_sums, .ref a_laid_leads])), (a_laid_downs, .inl (X.2.1 0, 24, .inl f_laid_downs)), (a_laid_judges, .inl (X.2.1 0, 56, .inl f_laid_judges)), (a_laid_leads, .inl (X.2.1 0, 96, .inl f_laid_leads)), (a_laid_taken, .inl (X.2.1 0, 24, .inl f_laid_taken))]) hx hb hml hts hown hG hA hP hD rfl hS hl.1 (qX10_areThree l X a_this a_laid a_text a_reader a_draft a_cards a_flips a_bench a_notes a_presses a_told a_game a_kept a_laid_blows a_laid_judges a_laid_forward a_laid_downs a_laid_taken a_laid_seenBy a_laid_sums a_laid_leads i_keptCount i_laid_rounds i_laid_home i_laid_noise i_laid_blowCount i_laid_judgeCount x1 x2 x3 o_4 ho_4) (cwV (y := yX10_areThree) 3 hts gX10_end_X10_areThree rfl rfl rfl hdvX10_areThree ⟨Nat.le_of_ble_eq_true rfl, Nat.le_of_ble_eq_true rfl⟩) [0, 2] [1, 3, 4, 5, 6] [5, 0, 6, 1, 2, 3, 4] rfl rfl rfl rfl rfl rfl rfl (ci := 10) rfl 0 rfl rfl rfl (Nat.le_of_ble_eq_true rfl) ⟨Nat.le_of_ble_eq_true rfl, Nat.le_of_ble_eq_true rfl⟩ dX10_end_12 (fun H locs hP _ hS => ?_)
    refine lv_if_eq (tgt := 28) hx hb dX10_end_15 (by decide) (fun c_6 => ?_) (fun c_6 => ?_)
    · have hf := xt hf c_6
      refine lv_iconst (v := (-1 : Int32)) hx hb dX10_end_28 (by decide) ?_
      obtain rfl := Option.some.inj hf
      exact ret H _ ls _ rfl hP hD hS dX10_end_29
    · have hf := xf hf c_6
      refine lv_iload hx hb dX10_end_18 (lv_at hl 5 rfl) ?_
      refine lv_iconst (v := (0 : Int32)) hx hb dX10_end_20 (by decide) ?_
      refine lv_iconst (v := (1 : Int32)) hx hb dX10_end_21 (by decide) ?_
      obtain ⟨o_7, ho_7, hf⟩ := ob_s hf
      refine xS_i (As := [.int x4, .int (0 : Int32), .int (1 : Int32)]) (rest := []) (ws2 := [(a_this, .inr (10, [.ref a_text, .ref a_reader, .ref a_draft, .ref a_laid, .ref a_cards, .ref a_flips, .ref a_bench, .ref a_notes, .ref a_presses, .ref a_told, .ref a_game, .ref a_kept, .int i_keptCount])), (a_cards, .inr (1, [.ref a_laid, .ref a_cards_owners])), (a_laid, .inr (3, [.int i_laid_rounds, .int i_laid_home, .int i_laid_noise, .int i_laid_blowCount, .int i_laid_judgeCount, .ref a_laid_blows, .ref a_laid_judges, .ref a_laid_forward, .ref a_laid_downs, .ref a_laid_taken, .ref a_laid_seenBy, .ref a_laid_sums, .ref a_laid_leads])), (a_laid_downs, .inl (X.2.1 0, 24, .inl f_laid_downs)), (a_laid_judges, .inl (X.2.1 0, 56, .inl f_laid_judges)), (a_laid_leads, .inl (X.2.1 0, 96, .inl f_laid_leads)), (a_laid_taken, .inl (X.2.1 0, 24, .inl f_laid_taken))]) hx hb hml hts hown hG hA hP hD rfl hS hl.1 (qX10_within l X x4 (0 : Int32) (1 : Int32) o_7 ho_7) (va_cwS (y := yX10_within) 3 hts gX10_end_X10_within rfl rfl rfl hdsX10_within ⟨Nat.le_of_ble_eq_true rfl, Nat.le_of_ble_eq_true rfl⟩) [] [0, 1, 2, 3, 4, 5, 6] [0, 1, 2, 3, 4, 5, 6] rfl rfl rfl rfl rfl rfl rfl rfl rfl (Nat.le_of_ble_eq_true rfl) ⟨Nat.le_of_ble_eq_true rfl, Nat.le_of_ble_eq_true rfl⟩ dX10_end_22 (fun H locs hP _ hS => ?_)
      refine lv_if_ne (tgt := 30) hx hb dX10_end_25 (by decide) (fun c_9 => ?_) (fun c_9 => ?_)
      · have hf := xf hf c_9
        refine lv_aload_n hx hb dX10_end_30 rfl (lv_at hl 0 rfl) ?_
        refine va_get (D := X.1) (ci := 10) (v := .ref a_cards) (C := RX10) (T := TX10) (N := 13) hx hb hts in10 hown hG.1 hP 0 rfl rfl 4 (by decide) w1 (fun _ h9 => h9) rfl dX10_end_31 ?_
        refine lv_iload_n hx hb dX10_end_34 rfl (lv_at hl 1 rfl) ?_
        refine lv_iload_n hx hb dX10_end_35 rfl (lv_at hl 2 rfl) ?_
        obtain ⟨o_10, ho_10, hf⟩ := ob_s hf
        refine xV_i (As := [.int x0, .int x1]) (b := a_cards) (rest := []) (ws2 := [(a_this, .inr (10, [.ref a_text, .ref a_reader, .ref a_draft, .ref a_laid, .ref a_cards, .ref a_flips, .ref a_bench, .ref a_notes, .ref a_presses, .ref a_told, .ref a_game, .ref a_kept, .int i_keptCount])), (a_cards, .inr (1, [.ref a_laid, .ref a_cards_owners])), (a_laid, .inr (3, [.int i_laid_rounds, .int i_laid_home, .int i_laid_noise, .int i_laid_blowCount, .int i_laid_judgeCount, .ref a_laid_blows, .ref a_laid_judges, .ref a_laid_forward, .ref a_laid_downs, .ref a_laid_taken, .ref a_laid_seenBy, .ref a_laid_sums, .ref a_laid_leads])), (a_laid_downs, .inl (X.2.1 0, 24, .inl f_laid_downs)), (a_laid_judges, .inl (X.2.1 0, 56, .inl f_laid_judges)), (a_laid_leads, .inl (X.2.1 0, 96, .inl f_laid_leads)), (a_laid_taken, .inl (X.2.1 0, 24, .inl f_laid_taken))]) hx hb hml hts hown hG hA hP hD rfl hS hl.1 (qX1_cardBy l X a_cards a_laid a_laid_downs a_laid_judges a_laid_leads a_laid_taken a_cards_owners a_laid_blows a_laid_forward a_laid_seenBy a_laid_sums i_laid_rounds i_laid_home i_laid_noise i_laid_blowCount i_laid_judgeCount f_laid_downs f_laid_judges f_laid_leads f_laid_taken x0 x1 o_10 ho_10) (cwV (y := yX1_cardBy) 2 hts gX10_end_X1_cardBy rfl rfl rfl hdvX1_cardBy ⟨Nat.le_of_ble_eq_true rfl, Nat.le_of_ble_eq_true rfl⟩) [1, 2, 3, 4, 5, 6] [0] [0, 1, 2, 3, 4, 5, 6] rfl rfl rfl rfl rfl rfl rfl (ci := 1) rfl 1 rfl rfl rfl (Nat.le_of_ble_eq_true rfl) ⟨Nat.le_of_ble_eq_true rfl, Nat.le_of_ble_eq_true rfl⟩ dX10_end_36 (fun H locs hP _ hS => ?_)
        obtain ⟨o_12, ho_12, hf⟩ := ob_s hf
        refine xS_i (As := [.int o_10]) (rest := []) (ws2 := [(a_this, .inr (10, [.ref a_text, .ref a_reader, .ref a_draft, .ref a_laid, .ref a_cards, .ref a_flips, .ref a_bench, .ref a_notes, .ref a_presses, .ref a_told, .ref a_game, .ref a_kept, .int i_keptCount])), (a_cards, .inr (1, [.ref a_laid, .ref a_cards_owners])), (a_laid, .inr (3, [.int i_laid_rounds, .int i_laid_home, .int i_laid_noise, .int i_laid_blowCount, .int i_laid_judgeCount, .ref a_laid_blows, .ref a_laid_judges, .ref a_laid_forward, .ref a_laid_downs, .ref a_laid_taken, .ref a_laid_seenBy, .ref a_laid_sums, .ref a_laid_leads])), (a_laid_downs, .inl (X.2.1 0, 24, .inl f_laid_downs)), (a_laid_judges, .inl (X.2.1 0, 56, .inl f_laid_judges)), (a_laid_leads, .inl (X.2.1 0, 96, .inl f_laid_leads)), (a_laid_taken, .inl (X.2.1 0, 24, .inl f_laid_taken))]) hx hb hml hts hown hG hA hP hD rfl hS hl.1 (qX1_ownerOf l X o_10 o_12 ho_12) (va_cwS (y := yX1_ownerOf) 1 hts gX10_end_X1_ownerOf rfl rfl rfl hdsX1_ownerOf ⟨Nat.le_of_ble_eq_true rfl, Nat.le_of_ble_eq_true rfl⟩) [] [0, 1, 2, 3, 4, 5, 6] [0, 1, 2, 3, 4, 5, 6] rfl rfl rfl rfl rfl rfl rfl rfl rfl (Nat.le_of_ble_eq_true rfl) ⟨Nat.le_of_ble_eq_true rfl, Nat.le_of_ble_eq_true rfl⟩ dX10_end_39 (fun H locs hP _ hS => ?_)
        refine lv_istore (lv' := [(6, .int o_12), (0, .ref a_this), (1, .int x0), (2, .int x1), (3, .int x2), (4, .int x3), (5, .int x4)]) hx hb dX10_end_42 hl (by decide) rfl (fun ls hl => ?_)
        refine lv_aload_n hx hb dX10_end_44 rfl (lv_at hl 1 rfl) ?_
        refine va_get (D := X.1) (ci := 10) (v := .ref a_cards) (C := RX10) (T := TX10) (N := 13) hx hb hts in10 hown hG.1 hP 0 rfl rfl 4 (by decide) w1 (fun _ h9 => h9) rfl dX10_end_45 ?_
        refine lv_iload_n hx hb dX10_end_48 rfl (lv_at hl 2 rfl) ?_
        refine lv_iload_n hx hb dX10_end_49 rfl (lv_at hl 4 rfl) ?_
        obtain ⟨o_14, ho_14, hf⟩ := ob_s hf
        refine xV_i (As := [.int x0, .int x2]) (b := a_cards) (rest := []) (ws2 := [(a_this, .inr (10, [.ref a_text, .ref a_reader, .ref a_draft, .ref a_laid, .ref a_cards, .ref a_flips, .ref a_bench, .ref a_notes, .ref a_presses, .ref a_told, .ref a_game, .ref a_kept, .int i_keptCount])), (a_cards, .inr (1, [.ref a_laid, .ref a_cards_owners])), (a_laid, .inr (3, [.int i_laid_rounds, .int i_laid_home, .int i_laid_noise, .int i_laid_blowCount, .int i_laid_judgeCount, .ref a_laid_blows, .ref a_laid_judges, .ref a_laid_forward, .ref a_laid_downs, .ref a_laid_taken, .ref a_laid_seenBy, .ref a_laid_sums, .ref a_laid_leads])), (a_laid_downs, .inl (X.2.1 0, 24, .inl f_laid_downs)), (a_laid_judges, .inl (X.2.1 0, 56, .inl f_laid_judges)), (a_laid_leads, .inl (X.2.1 0, 96, .inl f_laid_leads)), (a_laid_taken, .inl (X.2.1 0, 24, .inl f_laid_taken))]) hx hb hml hts hown hG hA hP hD rfl hS hl.1 (qX1_cardBy l X a_cards a_laid a_laid_downs a_laid_judges a_laid_leads a_laid_taken a_cards_owners a_laid_blows a_laid_forward a_laid_seenBy a_laid_sums i_laid_rounds i_laid_home i_laid_noise i_laid_blowCount i_laid_judgeCount f_laid_downs f_laid_judges f_laid_leads f_laid_taken x0 x2 o_14 ho_14) (cwV (y := yX1_cardBy) 2 hts gX10_end_X1_cardBy rfl rfl rfl hdvX1_cardBy ⟨Nat.le_of_ble_eq_true rfl, Nat.le_of_ble_eq_true rfl⟩) [1, 2, 3, 4, 5, 6] [0] [0, 1, 2, 3, 4, 5, 6] rfl rfl rfl rfl rfl rfl rfl (ci := 1) rfl 1 rfl rfl rfl (Nat.le_of_ble_eq_true rfl) ⟨Nat.le_of_ble_eq_true rfl, Nat.le_of_ble_eq_true rfl⟩ dX10_end_50 (fun H locs hP _ hS => ?_)
        obtain ⟨o_16, ho_16, hf⟩ := ob_s hf
        refine xS_i (As := [.int o_14]) (rest := []) (ws2 := [(a_this, .inr (10, [.ref a_text, .ref a_reader, .ref a_draft, .ref a_laid, .ref a_cards, .ref a_flips, .ref a_bench, .ref a_notes, .ref a_presses, .ref a_told, .ref a_game, .ref a_kept, .int i_keptCount])), (a_cards, .inr (1, [.ref a_laid, .ref a_cards_owners])), (a_laid, .inr (3, [.int i_laid_rounds, .int i_laid_home, .int i_laid_noise, .int i_laid_blowCount, .int i_laid_judgeCount, .ref a_laid_blows, .ref a_laid_judges, .ref a_laid_forward, .ref a_laid_downs, .ref a_laid_taken, .ref a_laid_seenBy, .ref a_laid_sums, .ref a_laid_leads])), (a_laid_downs, .inl (X.2.1 0, 24, .inl f_laid_downs)), (a_laid_judges, .inl (X.2.1 0, 56, .inl f_laid_judges)), (a_laid_leads, .inl (X.2.1 0, 96, .inl f_laid_leads)), (a_laid_taken, .inl (X.2.1 0, 24, .inl f_laid_taken))]) hx hb hml hts hown hG hA hP hD rfl hS hl.1 (qX1_ownerOf l X o_14 o_16 ho_16) (va_cwS (y := yX1_ownerOf) 1 hts gX10_end_X1_ownerOf rfl rfl rfl hdsX1_ownerOf ⟨Nat.le_of_ble_eq_true rfl, Nat.le_of_ble_eq_true rfl⟩) [] [0, 1, 2, 3, 4, 5, 6] [0, 1, 2, 3, 4, 5, 6] rfl rfl rfl rfl rfl rfl rfl rfl rfl (Nat.le_of_ble_eq_true rfl) ⟨Nat.le_of_ble_eq_true rfl, Nat.le_of_ble_eq_true rfl⟩ dX10_end_53 (fun H locs hP _ hS => ?_)
        refine lv_istore (lv' := [(7, .int o_16), (6, .int o_12), (0, .ref a_this), (1, .int x0), (2, .int x1), (3, .int x2), (4, .int x3), (5, .int x4)]) hx hb dX10_end_56 hl (by decide) rfl (fun ls hl => ?_)
        refine lv_aload_n hx hb dX10_end_58 rfl (lv_at hl 2 rfl) ?_
        refine va_get (D := X.1) (ci := 10) (v := .ref a_cards) (C := RX10) (T := TX10) (N := 13) hx hb hts in10 hown hG.1 hP 0 rfl rfl 4 (by decide) w1 (fun _ h9 => h9) rfl dX10_end_59 ?_
        refine lv_iload_n hx hb dX10_end_62 rfl (lv_at hl 3 rfl) ?_
        refine lv_iload hx hb dX10_end_63 (lv_at hl 6 rfl) ?_
        obtain ⟨o_18, ho_18, hf⟩ := ob_s hf
        refine xV_i (As := [.int x0, .int x3]) (b := a_cards) (rest := []) (ws2 := [(a_this, .inr (10, [.ref a_text, .ref a_reader, .ref a_draft, .ref a_laid, .ref a_cards, .ref a_flips, .ref a_bench, .ref a_notes, .ref a_presses, .ref a_told, .ref a_game, .ref a_kept, .int i_keptCount])), (a_cards, .inr (1, [.ref a_laid, .ref a_cards_owners])), (a_laid, .inr (3, [.int i_laid_rounds, .int i_laid_home, .int i_laid_noise, .int i_laid_blowCount, .int i_laid_judgeCount, .ref a_laid_blows, .ref a_laid_judges, .ref a_laid_forward, .ref a_laid_downs, .ref a_laid_taken, .ref a_laid_seenBy, .ref a_laid_sums, .ref a_laid_leads])), (a_laid_downs, .inl (X.2.1 0, 24, .inl f_laid_downs)), (a_laid_judges, .inl (X.2.1 0, 56, .inl f_laid_judges)), (a_laid_leads, .inl (X.2.1 0, 96, .inl f_laid_leads)), (a_laid_taken, .inl (X.2.1 0, 24, .inl f_laid_taken))]) hx hb hml hts hown hG hA hP hD rfl hS hl.1 (qX1_cardBy l X a_cards a_laid a_laid_downs a_laid_judges a_laid_leads a_laid_taken a_cards_owners a_laid_blows a_laid_forward a_laid_seenBy a_laid_sums i_laid_rounds i_laid_home i_laid_noise i_laid_blowCount i_laid_judgeCount f_laid_downs f_laid_judges f_laid_leads f_laid_taken x0 x3 o_18 ho_18) (cwV (y := yX1_cardBy) 2 hts gX10_end_X1_cardBy rfl rfl rfl hdvX1_cardBy ⟨Nat.le_of_ble_eq_true rfl, Nat.le_of_ble_eq_true rfl⟩) [1, 2, 3, 4, 5, 6] [0] [0, 1, 2, 3, 4, 5, 6] rfl rfl rfl rfl rfl rfl rfl (ci := 1) rfl 1 rfl rfl rfl (Nat.le_of_ble_eq_true rfl) ⟨Nat.le_of_ble_eq_true rfl, Nat.le_of_ble_eq_true rfl⟩ dX10_end_65 (fun H locs hP _ hS => ?_)
        obtain ⟨o_20, ho_20, hf⟩ := ob_s hf
        refine xS_i (As := [.int o_18]) (rest := []) (ws2 := [(a_this, .inr (10, [.ref a_text, .ref a_reader, .ref a_draft, .ref a_laid, .ref a_cards, .ref a_flips, .ref a_bench, .ref a_notes, .ref a_presses, .ref a_told, .ref a_game, .ref a_kept, .int i_keptCount])), (a_cards, .inr (1, [.ref a_laid, .ref a_cards_owners])), (a_laid, .inr (3, [.int i_laid_rounds, .int i_laid_home, .int i_laid_noise, .int i_laid_blowCount, .int i_laid_judgeCount, .ref a_laid_blows, .ref a_laid_judges, .ref a_laid_forward, .ref a_laid_downs, .ref a_laid_taken, .ref a_laid_seenBy, .ref a_laid_sums, .ref a_laid_leads])), (a_laid_downs, .inl (X.2.1 0, 24, .inl f_laid_downs)), (a_laid_judges, .inl (X.2.1 0, 56, .inl f_laid_judges)), (a_laid_leads, .inl (X.2.1 0, 96, .inl f_laid_leads)), (a_laid_taken, .inl (X.2.1 0, 24, .inl f_laid_taken))]) hx hb hml hts hown hG hA hP hD rfl hS hl.1 (qX1_ownerOf l X o_18 o_20 ho_20) (va_cwS (y := yX1_ownerOf) 1 hts gX10_end_X1_ownerOf rfl rfl rfl hdsX1_ownerOf ⟨Nat.le_of_ble_eq_true rfl, Nat.le_of_ble_eq_true rfl⟩) [] [0, 1, 2, 3, 4, 5, 6] [0, 1, 2, 3, 4, 5, 6] rfl rfl rfl rfl rfl rfl rfl rfl rfl (Nat.le_of_ble_eq_true rfl) ⟨Nat.le_of_ble_eq_true rfl, Nat.le_of_ble_eq_true rfl⟩ dX10_end_68 (fun H locs hP _ hS => ?_)
        refine lv_istore (lv' := [(8, .int o_20), (7, .int o_16), (6, .int o_12), (0, .ref a_this), (1, .int x0), (2, .int x1), (3, .int x2), (4, .int x3), (5, .int x4)]) hx hb dX10_end_71 hl (by decide) rfl (fun ls hl => ?_)
        refine lv_iload hx hb dX10_end_73 (lv_at hl 8 rfl) ?_
        refine lv_if_ne (tgt := 90) hx hb dX10_end_75 (by decide) (fun c_22 => ?_) (fun c_22 => ?_)
        · have hf := xf hf c_22
          refine lv_iload hx hb dX10_end_90 (lv_at hl 2 rfl) ?_
          refine lv_iload hx hb dX10_end_92 (lv_at hl 1 rfl) ?_
          refine lv_iload hx hb dX10_end_94 (lv_at hl 0 rfl) ?_
          obtain ⟨o_23, ho_23, hf⟩ := ob_s hf
          refine xS_i (As := [.int o_12, .int o_16, .int o_20]) (rest := []) (ws2 := [(a_this, .inr (10, [.ref a_text, .ref a_reader, .ref a_draft, .ref a_laid, .ref a_cards, .ref a_flips, .ref a_bench, .ref a_notes, .ref a_presses, .ref a_told, .ref a_game, .ref a_kept, .int i_keptCount])), (a_cards, .inr (1, [.ref a_laid, .ref a_cards_owners])), (a_laid, .inr (3, [.int i_laid_rounds, .int i_laid_home, .int i_laid_noise, .int i_laid_blowCount, .int i_laid_judgeCount, .ref a_laid_blows, .ref a_laid_judges, .ref a_laid_forward, .ref a_laid_downs, .ref a_laid_taken, .ref a_laid_seenBy, .ref a_laid_sums, .ref a_laid_leads])), (a_laid_downs, .inl (X.2.1 0, 24, .inl f_laid_downs)), (a_laid_judges, .inl (X.2.1 0, 56, .inl f_laid_judges)), (a_laid_leads, .inl (X.2.1 0, 96, .inl f_laid_leads)), (a_laid_taken, .inl (X.2.1 0, 24, .inl f_laid_taken))]) hx hb hml hts hown hG hA hP hD rfl hS hl.1 (qX1_kindOf l X o_12 o_16 o_20 o_23 ho_23) (va_cwS (y := yX1_kindOf) 3 hts gX10_end_X1_kindOf rfl rfl rfl hdsX1_kindOf ⟨Nat.le_of_ble_eq_true rfl, Nat.le_of_ble_eq_true rfl⟩) [] [0, 1, 2, 3, 4, 5, 6] [0, 1, 2, 3, 4, 5, 6] rfl rfl rfl rfl rfl rfl rfl rfl rfl (Nat.le_of_ble_eq_true rfl) ⟨Nat.le_of_ble_eq_true rfl, Nat.le_of_ble_eq_true rfl⟩ dX10_end_96 (fun H locs hP _ hS => ?_)
          obtain rfl := Option.some.inj hf
          exact ret H _ ls _ rfl hP hD hS dX10_end_99
        · have hf := xt hf c_22
          refine lv_iload hx hb dX10_end_78 (lv_at hl 2 rfl) ?_
          refine lv_iload hx hb dX10_end_80 (lv_at hl 1 rfl) ?_
          refine lv_iload hx hb dX10_end_82 (lv_at hl 0 rfl) ?_
          obtain ⟨o_25, ho_25, hf⟩ := ob_s hf
          refine xS_i (As := [.int o_12, .int o_16, .int o_20]) (rest := []) (ws2 := [(a_this, .inr (10, [.ref a_text, .ref a_reader, .ref a_draft, .ref a_laid, .ref a_cards, .ref a_flips, .ref a_bench, .ref a_notes, .ref a_presses, .ref a_told, .ref a_game, .ref a_kept, .int i_keptCount])), (a_cards, .inr (1, [.ref a_laid, .ref a_cards_owners])), (a_laid, .inr (3, [.int i_laid_rounds, .int i_laid_home, .int i_laid_noise, .int i_laid_blowCount, .int i_laid_judgeCount, .ref a_laid_blows, .ref a_laid_judges, .ref a_laid_forward, .ref a_laid_downs, .ref a_laid_taken, .ref a_laid_seenBy, .ref a_laid_sums, .ref a_laid_leads])), (a_laid_downs, .inl (X.2.1 0, 24, .inl f_laid_downs)), (a_laid_judges, .inl (X.2.1 0, 56, .inl f_laid_judges)), (a_laid_leads, .inl (X.2.1 0, 96, .inl f_laid_leads)), (a_laid_taken, .inl (X.2.1 0, 24, .inl f_laid_taken))]) hx hb hml hts hown hG hA hP hD rfl hS hl.1 (qX1_endOf l X o_12 o_16 o_20 o_25 ho_25) (va_cwS (y := yX1_endOf) 3 hts gX10_end_X1_endOf rfl rfl rfl hdsX1_endOf ⟨Nat.le_of_ble_eq_true rfl, Nat.le_of_ble_eq_true rfl⟩) [] [0, 1, 2, 3, 4, 5, 6] [0, 1, 2, 3, 4, 5, 6] rfl rfl rfl rfl rfl rfl rfl rfl rfl (Nat.le_of_ble_eq_true rfl) ⟨Nat.le_of_ble_eq_true rfl, Nat.le_of_ble_eq_true rfl⟩ dX10_end_84 (fun H locs hP _ hS => ?_)
          refine lv_goto (tgt := 99) hx hb dX10_end_87 (by decide) ?_
          obtain rfl := Option.some.inj hf
          exact ret H _ ls _ rfl hP hD hS dX10_end_99
      · have hf := xt hf c_9
        refine lv_iconst (v := (-1 : Int32)) hx hb dX10_end_28 (by decide) ?_
        obtain rfl := Option.some.inj hf
        exact ret H _ ls _ rfl hP hD hS dX10_end_29
def mX10_others (x0 : Int32) (x1 : Int32) (i_laid_rounds : Int32) (i_laid_judgeCount : Int32) (f_cards_owners : Nat → Int32) (f_laid_downs : Nat → Int32) (f_laid_judges : Nat → Int32) (f_laid_leads : Nat → Int32) (f_laid_taken : Nat → Int32) :
  Option (Int32 × (Nat → Int32)) :=
  (mX10_isRule x0).bind fun o_1 =>
  if o_1 = 0 then (some ((-1 : Int32), f_cards_owners)) else ((mX10_within x1 (0 : Int32) (2 : Int32)).bind fun o_4 =>
  if o_4 = 0 then (some ((-1 : Int32), f_cards_owners)) else ((mX1_setsThatEnd x0 x1 i_laid_rounds i_laid_judgeCount f_cards_owners f_laid_downs f_laid_judges f_laid_leads f_laid_taken).bind fun o_7 =>
  some (o_7.1, o_7.2)))
theorem hdsX10_others : yX10_others.cls ≠ "java/lang/invoke/MethodHandle" ∧ yX10_others.cls ≠ "java/lang/invoke/VarHandle" ∧ (parseMethodDescriptor yX10_others.desc).map (fun d => d.parameters.length) = some 2 := by decide +kernel
theorem hdvX10_others : yX10_others.cls = RX10 ∧ yX10_others.cls ≠ "java/lang/invoke/MethodHandle" ∧ yX10_others.cls ≠ "java/lang/invoke/VarHandle" ∧ (parseMethodDescriptor yX10_others.desc).map (fun d => d.parameters.length) = some 2 := by decide +kernel
abbrev rmX10_others : Room := { frames := 5, cells := 0, slots := 0, locals := 120 }
set_option maxHeartbeats 4000000 in
set_option maxRecDepth 100000 in
theorem qX10_others (l : Launch) (X : XT) (a_this : Nat) (a_cards : Nat) (a_laid : Nat) (a_cards_owners : Nat) (a_laid_downs : Nat) (a_laid_judges : Nat) (a_laid_leads : Nat) (a_laid_taken : Nat) (a_text : Nat) (a_reader : Nat) (a_draft : Nat) (a_flips : Nat) (a_bench : Nat) (a_notes : Nat) (a_presses : Nat) (a_told : Nat) (a_game : Nat) (a_kept : Nat) (a_laid_blows : Nat) (a_laid_forward : Nat) (a_laid_seenBy : Nat) (a_laid_sums : Nat)  (i_keptCount : Int32) (i_laid_rounds : Int32) (i_laid_home : Int32) (i_laid_noise : Int32) (i_laid_blowCount : Int32) (i_laid_judgeCount : Int32) (f_cards_owners : Nat → Int32) (f_laid_downs : Nat → Int32) (f_laid_judges : Nat → Int32) (f_laid_leads : Nat → Int32) (f_laid_taken : Nat → Int32) (x0 : Int32) (x1 : Int32) (o : Int32 × (Nat → Int32)) (hf : mX10_others x0 x1 i_laid_rounds i_laid_judgeCount f_cards_owners f_laid_downs f_laid_judges f_laid_leads f_laid_taken = some o) :
    MI l yX10_others wsX10_others rmX10_others X [.ref a_this, .int x0, .int x1] [(a_this, .inr (10, [.ref a_text, .ref a_reader, .ref a_draft, .ref a_laid, .ref a_cards, .ref a_flips, .ref a_bench, .ref a_notes, .ref a_presses, .ref a_told, .ref a_game, .ref a_kept, .int i_keptCount])), (a_cards, .inr (1, [.ref a_laid, .ref a_cards_owners])), (a_laid, .inr (3, [.int i_laid_rounds, .int i_laid_home, .int i_laid_noise, .int i_laid_blowCount, .int i_laid_judgeCount, .ref a_laid_blows, .ref a_laid_judges, .ref a_laid_forward, .ref a_laid_downs, .ref a_laid_taken, .ref a_laid_seenBy, .ref a_laid_sums, .ref a_laid_leads])), (a_cards_owners, .inl (X.2.1 0, 8, .inl f_cards_owners)), (a_laid_downs, .inl (X.2.1 0, 24, .inl f_laid_downs)), (a_laid_judges, .inl (X.2.1 0, 56, .inl f_laid_judges)), (a_laid_leads, .inl (X.2.1 0, 96, .inl f_laid_leads)), (a_laid_taken, .inl (X.2.1 0, 24, .inl f_laid_taken))]  [(a_this, .inr (10, [.ref a_text, .ref a_reader, .ref a_draft, .ref a_laid, .ref a_cards, .ref a_flips, .ref a_bench, .ref a_notes, .ref a_presses, .ref a_told, .ref a_game, .ref a_kept, .int i_keptCount])), (a_cards, .inr (1, [.ref a_laid, .ref a_cards_owners])), (a_laid, .inr (3, [.int i_laid_rounds, .int i_laid_home, .int i_laid_noise, .int i_laid_blowCount, .int i_laid_judgeCount, .ref a_laid_blows, .ref a_laid_judges, .ref a_laid_forward, .ref a_laid_downs, .ref a_laid_taken, .ref a_laid_seenBy, .ref a_laid_sums, .ref a_laid_leads])), (a_cards_owners, .inl (X.2.1 0, 8, .inl o.2)), (a_laid_downs, .inl (X.2.1 0, 24, .inl f_laid_downs)), (a_laid_judges, .inl (X.2.1 0, 56, .inl f_laid_judges)), (a_laid_leads, .inl (X.2.1 0, 96, .inl f_laid_leads)), (a_laid_taken, .inl (X.2.1 0, 24, .inl f_laid_taken))] o.1 := by
  refine MI_ofH (cc := cX10_others) (maxL := 3) (rt := .int) (by decide) rfl (Nat.le_of_ble_eq_true rfl) ?_
  intro p e s m below meth c A Q H ls hx hb hml hts hown hA hD hG hP hS hl ret
  have hown : s.vm.findClass RX10 = some m.cls := hown
  have hD : aD A [a_this, a_cards, a_laid, a_cards_owners, a_laid_downs, a_laid_judges, a_laid_leads, a_laid_taken] := hD
  have hl : lv_has ls 3 [(0, .ref a_this), (1, .int x0), (2, .int x1)] := hl
  have w1 := hts (Cond.fieldLink RX10 40 "ThreeCards" "cards" "LThreeCards$Cards;") (List.mem_of_getElem? (i := 1) rfl)
  have in10 : ∀ w ∈ u_ws RX10 TX10 13, w ∈ wsX10_others := by decide +kernel
  unfold mX10_others at hf
  refine lv_iload_n hx hb dX10_others_0 rfl (lv_at hl 1 rfl) ?_
  obtain ⟨o_1, ho_1, hf⟩ := ob_s hf
  refine xS_i (As := [.int x0]) (rest := []) (ws2 := [(a_this, .inr (10, [.ref a_text, .ref a_reader, .ref a_draft, .ref a_laid, .ref a_cards, .ref a_flips, .ref a_bench, .ref a_notes, .ref a_presses, .ref a_told, .ref a_game, .ref a_kept, .int i_keptCount])), (a_cards, .inr (1, [.ref a_laid, .ref a_cards_owners])), (a_laid, .inr (3, [.int i_laid_rounds, .int i_laid_home, .int i_laid_noise, .int i_laid_blowCount, .int i_laid_judgeCount, .ref a_laid_blows, .ref a_laid_judges, .ref a_laid_forward, .ref a_laid_downs, .ref a_laid_taken, .ref a_laid_seenBy, .ref a_laid_sums, .ref a_laid_leads])), (a_cards_owners, .inl (X.2.1 0, 8, .inl f_cards_owners)), (a_laid_downs, .inl (X.2.1 0, 24, .inl f_laid_downs)), (a_laid_judges, .inl (X.2.1 0, 56, .inl f_laid_judges)), (a_laid_leads, .inl (X.2.1 0, 96, .inl f_laid_leads)), (a_laid_taken, .inl (X.2.1 0, 24, .inl f_laid_taken))]) hx hb hml hts hown hG hA hP hD rfl hS hl.1 (qX10_isRule l X x0 o_1 ho_1) (va_cwS (y := yX10_isRule) 1 hts gX10_others_X10_isRule rfl rfl rfl hdsX10_isRule ⟨Nat.le_of_ble_eq_true rfl, Nat.le_of_ble_eq_true rfl⟩) [] [0, 1, 2, 3, 4, 5, 6, 7] [0, 1, 2, 3, 4, 5, 6, 7] rfl rfl rfl rfl rfl rfl rfl rfl rfl (Nat.le_of_ble_eq_true rfl) ⟨Nat.le_of_ble_eq_true rfl, Nat.le_of_ble_eq_true rfl⟩ dX10_others_1 (fun H locs hP _ hS => ?_)
  refine lv_if_eq (tgt := 28) hx hb dX10_others_4 (by decide) (fun c_3 => ?_) (fun c_3 => ?_)
  · have hf := xt hf c_3
    refine lv_iconst (v := (-1 : Int32)) hx hb dX10_others_28 (by decide) ?_
    obtain rfl := Option.some.inj hf
    exact ret H _ ls _ rfl hP hD hS dX10_others_29
  · have hf := xf hf c_3
    refine lv_iload_n hx hb dX10_others_7 rfl (lv_at hl 2 rfl) ?_
    refine lv_iconst (v := (0 : Int32)) hx hb dX10_others_8 (by decide) ?_
    refine lv_iconst (v := (2 : Int32)) hx hb dX10_others_9 (by decide) ?_
    obtain ⟨o_4, ho_4, hf⟩ := ob_s hf
    refine xS_i (As := [.int x1, .int (0 : Int32), .int (2 : Int32)]) (rest := []) (ws2 := [(a_this, .inr (10, [.ref a_text, .ref a_reader, .ref a_draft, .ref a_laid, .ref a_cards, .ref a_flips, .ref a_bench, .ref a_notes, .ref a_presses, .ref a_told, .ref a_game, .ref a_kept, .int i_keptCount])), (a_cards, .inr (1, [.ref a_laid, .ref a_cards_owners])), (a_laid, .inr (3, [.int i_laid_rounds, .int i_laid_home, .int i_laid_noise, .int i_laid_blowCount, .int i_laid_judgeCount, .ref a_laid_blows, .ref a_laid_judges, .ref a_laid_forward, .ref a_laid_downs, .ref a_laid_taken, .ref a_laid_seenBy, .ref a_laid_sums, .ref a_laid_leads])), (a_cards_owners, .inl (X.2.1 0, 8, .inl f_cards_owners)), (a_laid_downs, .inl (X.2.1 0, 24, .inl f_laid_downs)), (a_laid_judges, .inl (X.2.1 0, 56, .inl f_laid_judges)), (a_laid_leads, .inl (X.2.1 0, 96, .inl f_laid_leads)), (a_laid_taken, .inl (X.2.1 0, 24, .inl f_laid_taken))]) hx hb hml hts hown hG hA hP hD rfl hS hl.1 (qX10_within l X x1 (0 : Int32) (2 : Int32) o_4 ho_4) (va_cwS (y := yX10_within) 3 hts gX10_others_X10_within rfl rfl rfl hdsX10_within ⟨Nat.le_of_ble_eq_true rfl, Nat.le_of_ble_eq_true rfl⟩) [] [0, 1, 2, 3, 4, 5, 6, 7] [0, 1, 2, 3, 4, 5, 6, 7] rfl rfl rfl rfl rfl rfl rfl rfl rfl (Nat.le_of_ble_eq_true rfl) ⟨Nat.le_of_ble_eq_true rfl, Nat.le_of_ble_eq_true rfl⟩ dX10_others_10 (fun H locs hP _ hS => ?_)
    refine lv_if_eq (tgt := 28) hx hb dX10_others_13 (by decide) (fun c_6 => ?_) (fun c_6 => ?_)
    · have hf := xt hf c_6
      refine lv_iconst (v := (-1 : Int32)) hx hb dX10_others_28 (by decide) ?_
      obtain rfl := Option.some.inj hf
      exact ret H _ ls _ rfl hP hD hS dX10_others_29
    · have hf := xf hf c_6
      refine lv_aload_n hx hb dX10_others_16 rfl (lv_at hl 0 rfl) ?_
      refine va_get (D := X.1) (ci := 10) (v := .ref a_cards) (C := RX10) (T := TX10) (N := 13) hx hb hts in10 hown hG.1 hP 0 rfl rfl 4 (by decide) w1 (fun _ h9 => h9) rfl dX10_others_17 ?_
      refine lv_iload_n hx hb dX10_others_20 rfl (lv_at hl 1 rfl) ?_
      refine lv_iload_n hx hb dX10_others_21 rfl (lv_at hl 2 rfl) ?_
      obtain ⟨o_7, ho_7, hf⟩ := ob_s hf
      refine xV_i (As := [.int x0, .int x1]) (b := a_cards) (rest := []) (ws2 := [(a_this, .inr (10, [.ref a_text, .ref a_reader, .ref a_draft, .ref a_laid, .ref a_cards, .ref a_flips, .ref a_bench, .ref a_notes, .ref a_presses, .ref a_told, .ref a_game, .ref a_kept, .int i_keptCount])), (a_cards, .inr (1, [.ref a_laid, .ref a_cards_owners])), (a_laid, .inr (3, [.int i_laid_rounds, .int i_laid_home, .int i_laid_noise, .int i_laid_blowCount, .int i_laid_judgeCount, .ref a_laid_blows, .ref a_laid_judges, .ref a_laid_forward, .ref a_laid_downs, .ref a_laid_taken, .ref a_laid_seenBy, .ref a_laid_sums, .ref a_laid_leads])), (a_cards_owners, .inl (X.2.1 0, 8, .inl o_7.2)), (a_laid_downs, .inl (X.2.1 0, 24, .inl f_laid_downs)), (a_laid_judges, .inl (X.2.1 0, 56, .inl f_laid_judges)), (a_laid_leads, .inl (X.2.1 0, 96, .inl f_laid_leads)), (a_laid_taken, .inl (X.2.1 0, 24, .inl f_laid_taken))]) hx hb hml hts hown hG hA hP hD rfl hS hl.1 (qX1_setsThatEnd l X a_cards a_laid a_cards_owners a_laid_downs a_laid_judges a_laid_leads a_laid_taken a_laid_blows a_laid_forward a_laid_seenBy a_laid_sums i_laid_rounds i_laid_home i_laid_noise i_laid_blowCount i_laid_judgeCount f_cards_owners f_laid_downs f_laid_judges f_laid_leads f_laid_taken x0 x1 o_7 ho_7) (cwV (y := yX1_setsThatEnd) 2 hts gX10_others_X1_setsThatEnd rfl rfl rfl hdvX1_setsThatEnd ⟨Nat.le_of_ble_eq_true rfl, Nat.le_of_ble_eq_true rfl⟩) [1, 2, 3, 4, 5, 6, 7] [0] [0, 1, 2, 3, 4, 5, 6, 7] rfl rfl rfl rfl rfl rfl rfl (ci := 1) rfl 1 rfl rfl rfl (Nat.le_of_ble_eq_true rfl) ⟨Nat.le_of_ble_eq_true rfl, Nat.le_of_ble_eq_true rfl⟩ dX10_others_22 (fun H locs hP _ hS => ?_)
      refine lv_goto (tgt := 29) hx hb dX10_others_25 (by decide) ?_
      obtain rfl := Option.some.inj hf
      exact ret H _ ls _ rfl hP hD hS dX10_others_29
def mX10_men (x0 : Int32) (i_laid_rounds : Int32) (i_laid_blowCount : Int32) (i_laid_judgeCount : Int32) (f_laid_blows : Nat → Int32) (f_laid_downs : Nat → Int32) (f_laid_judges : Nat → Int32) (f_laid_leads : Nat → Int32) (f_laid_taken : Nat → Int32) :
  Option (Int32) :=
  (mX10_isRule x0).bind fun o_1 =>
  if o_1 = 0 then (some (-1 : Int32)) else ((mX1_judgesAgainstHardness x0 i_laid_rounds i_laid_blowCount i_laid_judgeCount f_laid_blows f_laid_downs f_laid_judges f_laid_leads f_laid_taken).bind fun o_4 =>
  some o_4)
theorem hdsX10_men : yX10_men.cls ≠ "java/lang/invoke/MethodHandle" ∧ yX10_men.cls ≠ "java/lang/invoke/VarHandle" ∧ (parseMethodDescriptor yX10_men.desc).map (fun d => d.parameters.length) = some 1 := by decide +kernel
theorem hdvX10_men : yX10_men.cls = RX10 ∧ yX10_men.cls ≠ "java/lang/invoke/MethodHandle" ∧ yX10_men.cls ≠ "java/lang/invoke/VarHandle" ∧ (parseMethodDescriptor yX10_men.desc).map (fun d => d.parameters.length) = some 1 := by decide +kernel
abbrev rmX10_men : Room := { frames := 5, cells := 0, slots := 0, locals := 119 }
set_option maxHeartbeats 4000000 in
set_option maxRecDepth 100000 in
theorem qX10_men (l : Launch) (X : XT) (a_this : Nat) (a_cards : Nat) (a_laid : Nat) (a_laid_blows : Nat) (a_laid_downs : Nat) (a_laid_judges : Nat) (a_laid_leads : Nat) (a_laid_taken : Nat) (a_text : Nat) (a_reader : Nat) (a_draft : Nat) (a_flips : Nat) (a_bench : Nat) (a_notes : Nat) (a_presses : Nat) (a_told : Nat) (a_game : Nat) (a_kept : Nat) (a_cards_owners : Nat) (a_laid_forward : Nat) (a_laid_seenBy : Nat) (a_laid_sums : Nat)  (i_keptCount : Int32) (i_laid_rounds : Int32) (i_laid_home : Int32) (i_laid_noise : Int32) (i_laid_blowCount : Int32) (i_laid_judgeCount : Int32) (f_laid_blows : Nat → Int32) (f_laid_downs : Nat → Int32) (f_laid_judges : Nat → Int32) (f_laid_leads : Nat → Int32) (f_laid_taken : Nat → Int32) (x0 : Int32) (o : Int32) (hf : mX10_men x0 i_laid_rounds i_laid_blowCount i_laid_judgeCount f_laid_blows f_laid_downs f_laid_judges f_laid_leads f_laid_taken = some o) :
    MI l yX10_men wsX10_men rmX10_men X [.ref a_this, .int x0] [(a_this, .inr (10, [.ref a_text, .ref a_reader, .ref a_draft, .ref a_laid, .ref a_cards, .ref a_flips, .ref a_bench, .ref a_notes, .ref a_presses, .ref a_told, .ref a_game, .ref a_kept, .int i_keptCount])), (a_cards, .inr (1, [.ref a_laid, .ref a_cards_owners])), (a_laid, .inr (3, [.int i_laid_rounds, .int i_laid_home, .int i_laid_noise, .int i_laid_blowCount, .int i_laid_judgeCount, .ref a_laid_blows, .ref a_laid_judges, .ref a_laid_forward, .ref a_laid_downs, .ref a_laid_taken, .ref a_laid_seenBy, .ref a_laid_sums, .ref a_laid_leads])), (a_laid_blows, .inl (X.2.1 0, 200, .inl f_laid_blows)), (a_laid_downs, .inl (X.2.1 0, 24, .inl f_laid_downs)), (a_laid_judges, .inl (X.2.1 0, 56, .inl f_laid_judges)), (a_laid_leads, .inl (X.2.1 0, 96, .inl f_laid_leads)), (a_laid_taken, .inl (X.2.1 0, 24, .inl f_laid_taken))]  [(a_this, .inr (10, [.ref a_text, .ref a_reader, .ref a_draft, .ref a_laid, .ref a_cards, .ref a_flips, .ref a_bench, .ref a_notes, .ref a_presses, .ref a_told, .ref a_game, .ref a_kept, .int i_keptCount])), (a_cards, .inr (1, [.ref a_laid, .ref a_cards_owners])), (a_laid, .inr (3, [.int i_laid_rounds, .int i_laid_home, .int i_laid_noise, .int i_laid_blowCount, .int i_laid_judgeCount, .ref a_laid_blows, .ref a_laid_judges, .ref a_laid_forward, .ref a_laid_downs, .ref a_laid_taken, .ref a_laid_seenBy, .ref a_laid_sums, .ref a_laid_leads])), (a_laid_blows, .inl (X.2.1 0, 200, .inl f_laid_blows)), (a_laid_downs, .inl (X.2.1 0, 24, .inl f_laid_downs)), (a_laid_judges, .inl (X.2.1 0, 56, .inl f_laid_judges)), (a_laid_leads, .inl (X.2.1 0, 96, .inl f_laid_leads)), (a_laid_taken, .inl (X.2.1 0, 24, .inl f_laid_taken))] o := by
  refine MI_ofH (cc := cX10_men) (maxL := 2) (rt := .int) (by decide) rfl (Nat.le_of_ble_eq_true rfl) ?_
  intro p e s m below meth c A Q H ls hx hb hml hts hown hA hD hG hP hS hl ret
  have hown : s.vm.findClass RX10 = some m.cls := hown
  have hD : aD A [a_this, a_cards, a_laid, a_laid_blows, a_laid_downs, a_laid_judges, a_laid_leads, a_laid_taken] := hD
  have hl : lv_has ls 2 [(0, .ref a_this), (1, .int x0)] := hl
  have w1 := hts (Cond.fieldLink RX10 40 "ThreeCards" "cards" "LThreeCards$Cards;") (List.mem_of_getElem? (i := 1) rfl)
  have in10 : ∀ w ∈ u_ws RX10 TX10 13, w ∈ wsX10_men := by decide +kernel
  unfold mX10_men at hf
  refine lv_iload_n hx hb dX10_men_0 rfl (lv_at hl 1 rfl) ?_
  obtain ⟨o_1, ho_1, hf⟩ := ob_s hf
  refine xS_i (As := [.int x0]) (rest := []) (ws2 := [(a_this, .inr (10, [.ref a_text, .ref a_reader, .ref a_draft, .ref a_laid, .ref a_cards, .ref a_flips, .ref a_bench, .ref a_notes, .ref a_presses, .ref a_told, .ref a_game, .ref a_kept, .int i_keptCount])), (a_cards, .inr (1, [.ref a_laid, .ref a_cards_owners])), (a_laid, .inr (3, [.int i_laid_rounds, .int i_laid_home, .int i_laid_noise, .int i_laid_blowCount, .int i_laid_judgeCount, .ref a_laid_blows, .ref a_laid_judges, .ref a_laid_forward, .ref a_laid_downs, .ref a_laid_taken, .ref a_laid_seenBy, .ref a_laid_sums, .ref a_laid_leads])), (a_laid_blows, .inl (X.2.1 0, 200, .inl f_laid_blows)), (a_laid_downs, .inl (X.2.1 0, 24, .inl f_laid_downs)), (a_laid_judges, .inl (X.2.1 0, 56, .inl f_laid_judges)), (a_laid_leads, .inl (X.2.1 0, 96, .inl f_laid_leads)), (a_laid_taken, .inl (X.2.1 0, 24, .inl f_laid_taken))]) hx hb hml hts hown hG hA hP hD rfl hS hl.1 (qX10_isRule l X x0 o_1 ho_1) (va_cwS (y := yX10_isRule) 1 hts gX10_men_X10_isRule rfl rfl rfl hdsX10_isRule ⟨Nat.le_of_ble_eq_true rfl, Nat.le_of_ble_eq_true rfl⟩) [] [0, 1, 2, 3, 4, 5, 6, 7] [0, 1, 2, 3, 4, 5, 6, 7] rfl rfl rfl rfl rfl rfl rfl rfl rfl (Nat.le_of_ble_eq_true rfl) ⟨Nat.le_of_ble_eq_true rfl, Nat.le_of_ble_eq_true rfl⟩ dX10_men_1 (fun H locs hP _ hS => ?_)
  refine lv_if_eq (tgt := 18) hx hb dX10_men_4 (by decide) (fun c_3 => ?_) (fun c_3 => ?_)
  · have hf := xt hf c_3
    refine lv_iconst (v := (-1 : Int32)) hx hb dX10_men_18 (by decide) ?_
    obtain rfl := Option.some.inj hf
    exact ret H _ ls _ rfl hP hD hS dX10_men_19
  · have hf := xf hf c_3
    refine lv_aload_n hx hb dX10_men_7 rfl (lv_at hl 0 rfl) ?_
    refine va_get (D := X.1) (ci := 10) (v := .ref a_cards) (C := RX10) (T := TX10) (N := 13) hx hb hts in10 hown hG.1 hP 0 rfl rfl 4 (by decide) w1 (fun _ h9 => h9) rfl dX10_men_8 ?_
    refine lv_iload_n hx hb dX10_men_11 rfl (lv_at hl 1 rfl) ?_
    obtain ⟨o_4, ho_4, hf⟩ := ob_s hf
    refine xV_i (As := [.int x0]) (b := a_cards) (rest := []) (ws2 := [(a_this, .inr (10, [.ref a_text, .ref a_reader, .ref a_draft, .ref a_laid, .ref a_cards, .ref a_flips, .ref a_bench, .ref a_notes, .ref a_presses, .ref a_told, .ref a_game, .ref a_kept, .int i_keptCount])), (a_cards, .inr (1, [.ref a_laid, .ref a_cards_owners])), (a_laid, .inr (3, [.int i_laid_rounds, .int i_laid_home, .int i_laid_noise, .int i_laid_blowCount, .int i_laid_judgeCount, .ref a_laid_blows, .ref a_laid_judges, .ref a_laid_forward, .ref a_laid_downs, .ref a_laid_taken, .ref a_laid_seenBy, .ref a_laid_sums, .ref a_laid_leads])), (a_laid_blows, .inl (X.2.1 0, 200, .inl f_laid_blows)), (a_laid_downs, .inl (X.2.1 0, 24, .inl f_laid_downs)), (a_laid_judges, .inl (X.2.1 0, 56, .inl f_laid_judges)), (a_laid_leads, .inl (X.2.1 0, 96, .inl f_laid_leads)), (a_laid_taken, .inl (X.2.1 0, 24, .inl f_laid_taken))]) hx hb hml hts hown hG hA hP hD rfl hS hl.1 (qX1_judgesAgainstHardness l X a_cards a_laid a_laid_blows a_laid_downs a_laid_judges a_laid_leads a_laid_taken a_cards_owners a_laid_forward a_laid_seenBy a_laid_sums i_laid_rounds i_laid_home i_laid_noise i_laid_blowCount i_laid_judgeCount f_laid_blows f_laid_downs f_laid_judges f_laid_leads f_laid_taken x0 o_4 ho_4) (cwV (y := yX1_judgesAgainstHardness) 1 hts gX10_men_X1_judgesAgainstHardness rfl rfl rfl hdvX1_judgesAgainstHardness ⟨Nat.le_of_ble_eq_true rfl, Nat.le_of_ble_eq_true rfl⟩) [1, 2, 3, 4, 5, 6, 7] [0] [0, 1, 2, 3, 4, 5, 6, 7] rfl rfl rfl rfl rfl rfl rfl (ci := 1) rfl 1 rfl rfl rfl (Nat.le_of_ble_eq_true rfl) ⟨Nat.le_of_ble_eq_true rfl, Nat.le_of_ble_eq_true rfl⟩ dX10_men_12 (fun H locs hP _ hS => ?_)
    refine lv_goto (tgt := 19) hx hb dX10_men_15 (by decide) ?_
    obtain rfl := Option.some.inj hf
    exact ret H _ ls _ rfl hP hD hS dX10_men_19
def mX10_coins_B48 (x0 : Int32) (x1 : Int32) (x2 : Int32) (x3 : Int32) (x4 : Int32) (x5 : Int32) (i_laid_rounds : Int32) (i_laid_judgeCount : Int32) (f_laid_downs : Nat → Int32) (f_laid_judges : Nat → Int32) (f_laid_leads : Nat → Int32) (f_laid_taken : Nat → Int32) (s0 : Int32) (s1 : Int32) (s2 : Int32) (f_flips_ways : Nat → Int64) (i_flips_howMany : Int32) :
  Option (Int64 × (Nat → Int64) × Int32) :=
  (mX10_within s0 s1 s2).bind fun o_11 =>
  if o_11 = 0 then (some ((-1 : Int64), f_flips_ways, i_flips_howMany)) else ((mX2_toss x0 x1 x2 x3 i_flips_howMany i_laid_rounds f_flips_ways f_laid_downs f_laid_judges f_laid_leads f_laid_taken).bind fun o_14 =>
  if x4 = (-1 : Int32) then (lb (Int32.toInt64 o_14.2) fun v_19 =>
  some (v_19, o_14.1, o_14.2)) else ((mX2_oddsOf x4 x5 o_14.2 o_14.1).bind fun o_17 =>
  some (o_17, o_14.1, o_14.2)))
def mX10_coins (x0 : Int32) (x1 : Int32) (x2 : Int32) (x3 : Int32) (x4 : Int32) (x5 : Int32) (i_flips_howMany : Int32) (i_laid_rounds : Int32) (i_laid_judgeCount : Int32) (f_flips_ways : Nat → Int64) (f_laid_downs : Nat → Int32) (f_laid_judges : Nat → Int32) (f_laid_leads : Nat → Int32) (f_laid_taken : Nat → Int32) :
  Option (Int64 × (Nat → Int64) × Int32) :=
  (mX10_within x0 (0 : Int32) (1 : Int32)).bind fun o_1 =>
  if o_1 = 0 then (some ((-1 : Int64), f_flips_ways, i_flips_howMany)) else ((mX10_areThree x1 x2 x3 i_laid_judgeCount).bind fun o_4 =>
  if o_4 = 0 then (some ((-1 : Int64), f_flips_ways, i_flips_howMany)) else ((mX10_within x4 (-1 : Int32) (2 : Int32)).bind fun o_7 =>
  if o_7 = 0 then (some ((-1 : Int64), f_flips_ways, i_flips_howMany)) else (if x4 = (-1 : Int32) then (mX10_coins_B48 x0 x1 x2 x3 x4 x5 i_laid_rounds i_laid_judgeCount f_laid_downs f_laid_judges f_laid_leads f_laid_taken  x5 (0 : Int32) (0 : Int32) f_flips_ways i_flips_howMany) else (mX10_coins_B48 x0 x1 x2 x3 x4 x5 i_laid_rounds i_laid_judgeCount f_laid_downs f_laid_judges f_laid_leads f_laid_taken  x5 (0 : Int32) (1 : Int32) f_flips_ways i_flips_howMany))))
theorem hdsX10_coins : yX10_coins.cls ≠ "java/lang/invoke/MethodHandle" ∧ yX10_coins.cls ≠ "java/lang/invoke/VarHandle" ∧ (parseMethodDescriptor yX10_coins.desc).map (fun d => d.parameters.length) = some 6 := by decide +kernel
theorem hdvX10_coins : yX10_coins.cls = RX10 ∧ yX10_coins.cls ≠ "java/lang/invoke/MethodHandle" ∧ yX10_coins.cls ≠ "java/lang/invoke/VarHandle" ∧ (parseMethodDescriptor yX10_coins.desc).map (fun d => d.parameters.length) = some 6 := by decide +kernel
abbrev rmX10_coins : Room := { frames := 6, cells := 0, slots := 0, locals := 148 }
set_option maxHeartbeats 4000000 in
set_option maxRecDepth 100000 in
theorem qX10_coins (l : Launch) (X : XT) (a_this : Nat) (a_cards : Nat) (a_flips : Nat) (a_laid : Nat) (a_flips_ways : Nat) (a_laid_downs : Nat) (a_laid_judges : Nat) (a_laid_leads : Nat) (a_laid_taken : Nat) (a_text : Nat) (a_reader : Nat) (a_draft : Nat) (a_bench : Nat) (a_notes : Nat) (a_presses : Nat) (a_told : Nat) (a_game : Nat) (a_kept : Nat) (a_cards_owners : Nat) (a_laid_blows : Nat) (a_laid_forward : Nat) (a_laid_seenBy : Nat) (a_laid_sums : Nat)  (i_keptCount : Int32) (i_flips_howMany : Int32) (i_laid_rounds : Int32) (i_laid_home : Int32) (i_laid_noise : Int32) (i_laid_blowCount : Int32) (i_laid_judgeCount : Int32) (f_flips_ways : Nat → Int64) (f_laid_downs : Nat → Int32) (f_laid_judges : Nat → Int32) (f_laid_leads : Nat → Int32) (f_laid_taken : Nat → Int32) (x0 : Int32) (x1 : Int32) (x2 : Int32) (x3 : Int32) (x4 : Int32) (x5 : Int32) (o : Int64 × (Nat → Int64) × Int32) (hf : mX10_coins x0 x1 x2 x3 x4 x5 i_flips_howMany i_laid_rounds i_laid_judgeCount f_flips_ways f_laid_downs f_laid_judges f_laid_leads f_laid_taken = some o) :
    ML l yX10_coins wsX10_coins rmX10_coins X [.ref a_this, .int x0, .int x1, .int x2, .int x3, .int x4, .int x5] [(a_this, .inr (10, [.ref a_text, .ref a_reader, .ref a_draft, .ref a_laid, .ref a_cards, .ref a_flips, .ref a_bench, .ref a_notes, .ref a_presses, .ref a_told, .ref a_game, .ref a_kept, .int i_keptCount])), (a_cards, .inr (1, [.ref a_laid, .ref a_cards_owners])), (a_flips, .inr (2, [.ref a_laid, .ref a_cards, .ref a_flips_ways, .int i_flips_howMany])), (a_laid, .inr (3, [.int i_laid_rounds, .int i_laid_home, .int i_laid_noise, .int i_laid_blowCount, .int i_laid_judgeCount, .ref a_laid_blows, .ref a_laid_judges, .ref a_laid_forward, .ref a_laid_downs, .ref a_laid_taken, .ref a_laid_seenBy, .ref a_laid_sums, .ref a_laid_leads])), (a_flips_ways, .inl (X.2.1 1, 9, .inr (.inl f_flips_ways))), (a_laid_downs, .inl (X.2.1 0, 24, .inl f_laid_downs)), (a_laid_judges, .inl (X.2.1 0, 56, .inl f_laid_judges)), (a_laid_leads, .inl (X.2.1 0, 96, .inl f_laid_leads)), (a_laid_taken, .inl (X.2.1 0, 24, .inl f_laid_taken))]  [(a_this, .inr (10, [.ref a_text, .ref a_reader, .ref a_draft, .ref a_laid, .ref a_cards, .ref a_flips, .ref a_bench, .ref a_notes, .ref a_presses, .ref a_told, .ref a_game, .ref a_kept, .int i_keptCount])), (a_cards, .inr (1, [.ref a_laid, .ref a_cards_owners])), (a_flips, .inr (2, [.ref a_laid, .ref a_cards, .ref a_flips_ways, .int o.2.2])), (a_laid, .inr (3, [.int i_laid_rounds, .int i_laid_home, .int i_laid_noise, .int i_laid_blowCount, .int i_laid_judgeCount, .ref a_laid_blows, .ref a_laid_judges, .ref a_laid_forward, .ref a_laid_downs, .ref a_laid_taken, .ref a_laid_seenBy, .ref a_laid_sums, .ref a_laid_leads])), (a_flips_ways, .inl (X.2.1 1, 9, .inr (.inl o.2.1))), (a_laid_downs, .inl (X.2.1 0, 24, .inl f_laid_downs)), (a_laid_judges, .inl (X.2.1 0, 56, .inl f_laid_judges)), (a_laid_leads, .inl (X.2.1 0, 96, .inl f_laid_leads)), (a_laid_taken, .inl (X.2.1 0, 24, .inl f_laid_taken))] o.1 := by
  refine ML_ofH (cc := cX10_coins) (maxL := 7) (by decide) rfl (Nat.le_of_ble_eq_true rfl) ?_
  intro p e s m below meth c A Q H ls hx hb hml hts hown hA hD hG hP hS hl ret
  have hown : s.vm.findClass RX10 = some m.cls := hown
  have hD : aD A [a_this, a_cards, a_flips, a_laid, a_flips_ways, a_laid_downs, a_laid_judges, a_laid_leads, a_laid_taken] := hD
  have hl : lv_has ls 7 [(0, .ref a_this), (1, .int x0), (2, .int x1), (3, .int x2), (4, .int x3), (5, .int x4), (6, .int x5)] := hl
  have w1 := hts (Cond.constantLong RX10 195 (-1)) (List.mem_of_getElem? (i := 1) rfl)
  have w2 := hts (Cond.fieldLink RX10 49 "ThreeCards" "flips" "LThreeCards$Coins;") (List.mem_of_getElem? (i := 2) rfl)
  have in2 : ∀ w ∈ u_ws RX2 TX2 4, w ∈ wsX10_coins := by decide +kernel
  have in10 : ∀ w ∈ u_ws RX10 TX10 13, w ∈ wsX10_coins := by decide +kernel
  have hB48 : ∀ (s0 : Int32) (s1 : Int32) (s2 : Int32) (f_flips_ways : Nat → Int64) (i_flips_howMany : Int32)  (H : Heap) (locs : List Loc) (ls : Array Slot), va_P X.1 vwCl [(a_this, .inr (10, [.ref a_text, .ref a_reader, .ref a_draft, .ref a_laid, .ref a_cards, .ref a_flips, .ref a_bench, .ref a_notes, .ref a_presses, .ref a_told, .ref a_game, .ref a_kept, .int i_keptCount])), (a_cards, .inr (1, [.ref a_laid, .ref a_cards_owners])), (a_flips, .inr (2, [.ref a_laid, .ref a_cards, .ref a_flips_ways, .int i_flips_howMany])), (a_laid, .inr (3, [.int i_laid_rounds, .int i_laid_home, .int i_laid_noise, .int i_laid_blowCount, .int i_laid_judgeCount, .ref a_laid_blows, .ref a_laid_judges, .ref a_laid_forward, .ref a_laid_downs, .ref a_laid_taken, .ref a_laid_seenBy, .ref a_laid_sums, .ref a_laid_leads])), (a_flips_ways, .inl (X.2.1 1, 9, .inr (.inl f_flips_ways))), (a_laid_downs, .inl (X.2.1 0, 24, .inl f_laid_downs)), (a_laid_judges, .inl (X.2.1 0, 56, .inl f_laid_judges)), (a_laid_leads, .inl (X.2.1 0, 96, .inl f_laid_leads)), (a_laid_taken, .inl (X.2.1 0, 24, .inl f_laid_taken))] H → va_S A s.heap H locs → lv_has ls 7 [(0, .ref a_this), (1, .int x0), (2, .int x1), (3, .int x2), (4, .int x3), (5, .int x4), (6, .int x5)] → mX10_coins_B48 x0 x1 x2 x3 x4 x5 i_laid_rounds i_laid_judgeCount f_laid_downs f_laid_judges f_laid_leads f_laid_taken  s0 s1 s2 f_flips_ways i_flips_howMany = some o → W p l e rmX10_coins s m ([.ref a_this, .int x0, .int x1, .int x2, .int x3, .int x4, .int x5] : List Value).toArray below meth c H locs 0 0 Q (F0 m 48 ls [.int s2, .int s1, .int s0]) := by
    intro s0 s1 s2 f_flips_ways i_flips_howMany  H locs ls hP hS hl hf
    unfold mX10_coins_B48 at hf
    obtain ⟨o_11, ho_11, hf⟩ := ob_s hf
    refine xS_i (As := [.int s0, .int s1, .int s2]) (rest := []) (ws2 := [(a_this, .inr (10, [.ref a_text, .ref a_reader, .ref a_draft, .ref a_laid, .ref a_cards, .ref a_flips, .ref a_bench, .ref a_notes, .ref a_presses, .ref a_told, .ref a_game, .ref a_kept, .int i_keptCount])), (a_cards, .inr (1, [.ref a_laid, .ref a_cards_owners])), (a_flips, .inr (2, [.ref a_laid, .ref a_cards, .ref a_flips_ways, .int i_flips_howMany])), (a_laid, .inr (3, [.int i_laid_rounds, .int i_laid_home, .int i_laid_noise, .int i_laid_blowCount, .int i_laid_judgeCount, .ref a_laid_blows, .ref a_laid_judges, .ref a_laid_forward, .ref a_laid_downs, .ref a_laid_taken, .ref a_laid_seenBy, .ref a_laid_sums, .ref a_laid_leads])), (a_flips_ways, .inl (X.2.1 1, 9, .inr (.inl f_flips_ways))), (a_laid_downs, .inl (X.2.1 0, 24, .inl f_laid_downs)), (a_laid_judges, .inl (X.2.1 0, 56, .inl f_laid_judges)), (a_laid_leads, .inl (X.2.1 0, 96, .inl f_laid_leads)), (a_laid_taken, .inl (X.2.1 0, 24, .inl f_laid_taken))]) hx hb hml hts hown hG hA hP hD rfl hS hl.1 (qX10_within l X s0 s1 s2 o_11 ho_11) (va_cwS (y := yX10_within) 3 hts gX10_coins_X10_within rfl rfl rfl hdsX10_within ⟨Nat.le_of_ble_eq_true rfl, Nat.le_of_ble_eq_true rfl⟩) [] [0, 1, 2, 3, 4, 5, 6, 7, 8] [0, 1, 2, 3, 4, 5, 6, 7, 8] rfl rfl rfl rfl rfl rfl rfl rfl rfl (Nat.le_of_ble_eq_true rfl) ⟨Nat.le_of_ble_eq_true rfl, Nat.le_of_ble_eq_true rfl⟩ dX10_coins_48 (fun H locs hP _ hS => ?_)
    refine lv_if_ne (tgt := 58) hx hb dX10_coins_51 (by decide) (fun c_13 => ?_) (fun c_13 => ?_)
    · have hf := xf hf c_13
      refine lv_aload_n hx hb dX10_coins_58 rfl (lv_at hl 0 rfl) ?_
      refine va_get (D := X.1) (ci := 10) (v := .ref a_flips) (C := RX10) (T := TX10) (N := 13) hx hb hts in10 hown hG.1 hP 0 rfl rfl 5 (by decide) w2 (fun _ h9 => h9) rfl dX10_coins_59 ?_
      refine lv_iload_n hx hb dX10_coins_62 rfl (lv_at hl 1 rfl) ?_
      refine lv_iload_n hx hb dX10_coins_63 rfl (lv_at hl 2 rfl) ?_
      refine lv_iload_n hx hb dX10_coins_64 rfl (lv_at hl 3 rfl) ?_
      refine lv_iload hx hb dX10_coins_65 (lv_at hl 4 rfl) ?_
      obtain ⟨o_14, ho_14, hf⟩ := ob_s hf
      refine xV_v (As := [.int x0, .int x1, .int x2, .int x3]) (b := a_flips) (rest := []) (ws2 := fun _ => [(a_this, .inr (10, [.ref a_text, .ref a_reader, .ref a_draft, .ref a_laid, .ref a_cards, .ref a_flips, .ref a_bench, .ref a_notes, .ref a_presses, .ref a_told, .ref a_game, .ref a_kept, .int i_keptCount])), (a_cards, .inr (1, [.ref a_laid, .ref a_cards_owners])), (a_flips, .inr (2, [.ref a_laid, .ref a_cards, .ref a_flips_ways, .int o_14.2])), (a_laid, .inr (3, [.int i_laid_rounds, .int i_laid_home, .int i_laid_noise, .int i_laid_blowCount, .int i_laid_judgeCount, .ref a_laid_blows, .ref a_laid_judges, .ref a_laid_forward, .ref a_laid_downs, .ref a_laid_taken, .ref a_laid_seenBy, .ref a_laid_sums, .ref a_laid_leads])), (a_flips_ways, .inl (X.2.1 1, 9, .inr (.inl o_14.1))), (a_laid_downs, .inl (X.2.1 0, 24, .inl f_laid_downs)), (a_laid_judges, .inl (X.2.1 0, 56, .inl f_laid_judges)), (a_laid_leads, .inl (X.2.1 0, 96, .inl f_laid_leads)), (a_laid_taken, .inl (X.2.1 0, 24, .inl f_laid_taken))]) hx hb hml hts hown hG hA hP hD rfl hS hl.1 (qX2_toss l X a_flips a_cards a_laid a_flips_ways a_laid_downs a_laid_judges a_laid_leads a_laid_taken a_cards_owners a_laid_blows a_laid_forward a_laid_seenBy a_laid_sums i_flips_howMany i_laid_rounds i_laid_home i_laid_noise i_laid_blowCount i_laid_judgeCount f_flips_ways f_laid_downs f_laid_judges f_laid_leads f_laid_taken x0 x1 x2 x3 o_14 ho_14) (cwV (y := yX2_toss) 4 hts gX10_coins_X2_toss rfl rfl rfl hdvX2_toss ⟨Nat.le_of_ble_eq_true rfl, Nat.le_of_ble_eq_true rfl⟩) [2, 1, 3, 4, 5, 6, 7, 8] [0] [0, 2, 1, 3, 4, 5, 6, 7, 8] rfl rfl rfl rfl rfl rfl (fun _ => rfl) (ci := 2) rfl 2 rfl rfl rfl (Nat.le_of_ble_eq_true rfl) ⟨Nat.le_of_ble_eq_true rfl, Nat.le_of_ble_eq_true rfl⟩ dX10_coins_67 (fun u_15 H locs hP _ hS => ?_)
      refine lv_iload hx hb dX10_coins_70 (lv_at hl 5 rfl) ?_
      refine lv_iconst (v := (-1 : Int32)) hx hb dX10_coins_72 (by decide) ?_
      refine lv_icmp_ne (tgt := 85) hx hb dX10_coins_73 (by decide) (fun c_16 => ?_) (fun c_16 => ?_)
      · have hf := xf hf c_16
        refine lv_aload_n hx hb dX10_coins_85 rfl (lv_at hl 0 rfl) ?_
        refine va_get (D := X.1) (ci := 10) (v := .ref a_flips) (C := RX10) (T := TX10) (N := 13) hx hb hts in10 hown hG.1 hP 0 rfl rfl 5 (by decide) w2 (fun _ h9 => h9) rfl dX10_coins_86 ?_
        refine lv_iload hx hb dX10_coins_89 (lv_at hl 5 rfl) ?_
        refine lv_iload hx hb dX10_coins_91 (lv_at hl 6 rfl) ?_
        obtain ⟨o_17, ho_17, hf⟩ := ob_s hf
        refine xV_l (As := [.int x4, .int x5]) (b := a_flips) (rest := []) (ws2 := [(a_this, .inr (10, [.ref a_text, .ref a_reader, .ref a_draft, .ref a_laid, .ref a_cards, .ref a_flips, .ref a_bench, .ref a_notes, .ref a_presses, .ref a_told, .ref a_game, .ref a_kept, .int i_keptCount])), (a_cards, .inr (1, [.ref a_laid, .ref a_cards_owners])), (a_flips, .inr (2, [.ref a_laid, .ref a_cards, .ref a_flips_ways, .int o_14.2])), (a_laid, .inr (3, [.int i_laid_rounds, .int i_laid_home, .int i_laid_noise, .int i_laid_blowCount, .int i_laid_judgeCount, .ref a_laid_blows, .ref a_laid_judges, .ref a_laid_forward, .ref a_laid_downs, .ref a_laid_taken, .ref a_laid_seenBy, .ref a_laid_sums, .ref a_laid_leads])), (a_flips_ways, .inl (X.2.1 1, 9, .inr (.inl o_14.1))), (a_laid_downs, .inl (X.2.1 0, 24, .inl f_laid_downs)), (a_laid_judges, .inl (X.2.1 0, 56, .inl f_laid_judges)), (a_laid_leads, .inl (X.2.1 0, 96, .inl f_laid_leads)), (a_laid_taken, .inl (X.2.1 0, 24, .inl f_laid_taken))]) hx hb hml hts hown hG hA hP hD rfl hS hl.1 (qX2_oddsOf l X a_flips a_flips_ways a_laid a_cards o_14.2 o_14.1 x4 x5 o_17 ho_17) (cwV (y := yX2_oddsOf) 2 hts gX10_coins_X2_oddsOf rfl rfl rfl hdvX2_oddsOf ⟨Nat.le_of_ble_eq_true rfl, Nat.le_of_ble_eq_true rfl⟩) [2, 4] [0, 1, 3, 5, 6, 7, 8] [0, 1, 7, 2, 8, 3, 4, 5, 6] rfl rfl rfl rfl rfl rfl rfl (ci := 2) rfl 2 rfl rfl rfl (Nat.le_of_ble_eq_true rfl) ⟨Nat.le_of_ble_eq_true rfl, Nat.le_of_ble_eq_true rfl⟩ dX10_coins_93 (fun H locs hP _ hS => ?_)
        obtain rfl := Option.some.inj hf
        exact ret H _ ls _ hP hD hS dX10_coins_96
      · have hf := xt hf c_16
        refine lv_aload_n hx hb dX10_coins_76 rfl (lv_at hl 0 rfl) ?_
        refine va_get (D := X.1) (ci := 10) (v := .ref a_flips) (C := RX10) (T := TX10) (N := 13) hx hb hts in10 hown hG.1 hP 0 rfl rfl 5 (by decide) w2 (fun _ h9 => h9) rfl dX10_coins_77 ?_
        refine va_getN (D := X.1) (ci := 2) (v := .int o_14.2) (C := RX2) (T := TX2) (N := 4) hx hb hts in2 hown hG.1 hP 2 rfl rfl 3 (by decide) (va_Nw.use rfl (nf12 hG.2.1)) (fun _ h9 => h9) rfl dX10_coins_80 ?_
        refine lv_i2l hx hb dX10_coins_83 rfl ?_
        refine lv_topl (fun v_19 ev_19 => ?_)
        have hf := lb_s hf ev_19
        obtain rfl := Option.some.inj hf
        exact ret H _ ls _ hP hD hS dX10_coins_84
    · have hf := xt hf c_13
      refine lv_ldc2 (v := (-1 : Int64)) hx hb hown w1 dX10_coins_54 ?_
      obtain rfl := Option.some.inj hf
      exact ret H _ ls _ hP hD hS dX10_coins_57
  unfold mX10_coins at hf
  refine lv_iload_n hx hb dX10_coins_0 rfl (lv_at hl 1 rfl) ?_
  refine lv_iconst (v := (0 : Int32)) hx hb dX10_coins_1 (by decide) ?_
  refine lv_iconst (v := (1 : Int32)) hx hb dX10_coins_2 (by decide) ?_
  obtain ⟨o_1, ho_1, hf⟩ := ob_s hf
  refine xS_i (As := [.int x0, .int (0 : Int32), .int (1 : Int32)]) (rest := []) (ws2 := [(a_this, .inr (10, [.ref a_text, .ref a_reader, .ref a_draft, .ref a_laid, .ref a_cards, .ref a_flips, .ref a_bench, .ref a_notes, .ref a_presses, .ref a_told, .ref a_game, .ref a_kept, .int i_keptCount])), (a_cards, .inr (1, [.ref a_laid, .ref a_cards_owners])), (a_flips, .inr (2, [.ref a_laid, .ref a_cards, .ref a_flips_ways, .int i_flips_howMany])), (a_laid, .inr (3, [.int i_laid_rounds, .int i_laid_home, .int i_laid_noise, .int i_laid_blowCount, .int i_laid_judgeCount, .ref a_laid_blows, .ref a_laid_judges, .ref a_laid_forward, .ref a_laid_downs, .ref a_laid_taken, .ref a_laid_seenBy, .ref a_laid_sums, .ref a_laid_leads])), (a_flips_ways, .inl (X.2.1 1, 9, .inr (.inl f_flips_ways))), (a_laid_downs, .inl (X.2.1 0, 24, .inl f_laid_downs)), (a_laid_judges, .inl (X.2.1 0, 56, .inl f_laid_judges)), (a_laid_leads, .inl (X.2.1 0, 96, .inl f_laid_leads)), (a_laid_taken, .inl (X.2.1 0, 24, .inl f_laid_taken))]) hx hb hml hts hown hG hA hP hD rfl hS hl.1 (qX10_within l X x0 (0 : Int32) (1 : Int32) o_1 ho_1) (va_cwS (y := yX10_within) 3 hts gX10_coins_X10_within rfl rfl rfl hdsX10_within ⟨Nat.le_of_ble_eq_true rfl, Nat.le_of_ble_eq_true rfl⟩) [] [0, 1, 2, 3, 4, 5, 6, 7, 8] [0, 1, 2, 3, 4, 5, 6, 7, 8] rfl rfl rfl rfl rfl rfl rfl rfl rfl (Nat.le_of_ble_eq_true rfl) ⟨Nat.le_of_ble_eq_true rfl, Nat.le_of_ble_eq_true rfl⟩ dX10_coins_3 (fun H locs hP _ hS => ?_)
  refine lv_if_eq (tgt := 20) hx hb dX10_coins_6 (by decide) (fun c_3 => ?_) (fun c_3 => ?_)
  · have hf := xt hf c_3
    refine lv_ldc2 (v := (-1 : Int64)) hx hb hown w1 dX10_coins_20 ?_
    obtain rfl := Option.some.inj hf
    exact ret H _ ls _ hP hD hS dX10_coins_23
  · have hf := xf hf c_3
    refine lv_aload_n hx hb dX10_coins_9 rfl (lv_at hl 0 rfl) ?_
    refine lv_iload_n hx hb dX10_coins_10 rfl (lv_at hl 2 rfl) ?_
    refine lv_iload_n hx hb dX10_coins_11 rfl (lv_at hl 3 rfl) ?_
    refine lv_iload hx hb dX10_coins_12 (lv_at hl 4 rfl) ?_
    obtain ⟨o_4, ho_4, hf⟩ := ob_s hf
    refine xV_i (As := [.int x1, .int x2, .int x3]) (b := a_this) (rest := []) (ws2 := [(a_this, .inr (10, [.ref a_text, .ref a_reader, .ref a_draft, .ref a_laid, .ref a_cards, .ref a_flips, .ref a_bench, .ref a_notes, .ref a_presses, .ref a_told, .ref a_game, .ref a_kept, .int i_keptCount])), (a_cards, .inr (1, [.ref a_laid, .ref a_cards_owners])), (a_flips, .inr (2, [.ref a_laid, .ref a_cards, .ref a_flips_ways, .int i_flips_howMany])), (a_laid, .inr (3, [.int i_laid_rounds, .int i_laid_home, .int i_laid_noise, .int i_laid_blowCount, .int i_laid_judgeCount, .ref a_laid_blows, .ref a_laid_judges, .ref a_laid_forward, .ref a_laid_downs, .ref a_laid_taken, .ref a_laid_seenBy, .ref a_laid_sums, .ref a_laid_leads])), (a_flips_ways, .inl (X.2.1 1, 9, .inr (.inl f_flips_ways))), (a_laid_downs, .inl (X.2.1 0, 24, .inl f_laid_downs)), (a_laid_judges, .inl (X.2.1 0, 56, .inl f_laid_judges)), (a_laid_leads, .inl (X.2.1 0, 96, .inl f_laid_leads)), (a_laid_taken, .inl (X.2.1 0, 24, .inl f_laid_taken))]) hx hb hml hts hown hG hA hP hD rfl hS hl.1 (qX10_areThree l X a_this a_laid a_text a_reader a_draft a_cards a_flips a_bench a_notes a_presses a_told a_game a_kept a_laid_blows a_laid_judges a_laid_forward a_laid_downs a_laid_taken a_laid_seenBy a_laid_sums a_laid_leads i_keptCount i_laid_rounds i_laid_home i_laid_noise i_laid_blowCount i_laid_judgeCount x1 x2 x3 o_4 ho_4) (cwV (y := yX10_areThree) 3 hts gX10_coins_X10_areThree rfl rfl rfl hdvX10_areThree ⟨Nat.le_of_ble_eq_true rfl, Nat.le_of_ble_eq_true rfl⟩) [0, 3] [1, 2, 4, 5, 6, 7, 8] [7, 0, 1, 8, 2, 3, 4, 5, 6] rfl rfl rfl rfl rfl rfl rfl (ci := 10) rfl 0 rfl rfl rfl (Nat.le_of_ble_eq_true rfl) ⟨Nat.le_of_ble_eq_true rfl, Nat.le_of_ble_eq_true rfl⟩ dX10_coins_14 (fun H locs hP _ hS => ?_)
    refine lv_if_ne (tgt := 24) hx hb dX10_coins_17 (by decide) (fun c_6 => ?_) (fun c_6 => ?_)
    · have hf := xf hf c_6
      refine lv_iload hx hb dX10_coins_24 (lv_at hl 5 rfl) ?_
      refine lv_iconst (v := (-1 : Int32)) hx hb dX10_coins_26 (by decide) ?_
      refine lv_iconst (v := (2 : Int32)) hx hb dX10_coins_27 (by decide) ?_
      obtain ⟨o_7, ho_7, hf⟩ := ob_s hf
      refine xS_i (As := [.int x4, .int (-1 : Int32), .int (2 : Int32)]) (rest := []) (ws2 := [(a_this, .inr (10, [.ref a_text, .ref a_reader, .ref a_draft, .ref a_laid, .ref a_cards, .ref a_flips, .ref a_bench, .ref a_notes, .ref a_presses, .ref a_told, .ref a_game, .ref a_kept, .int i_keptCount])), (a_cards, .inr (1, [.ref a_laid, .ref a_cards_owners])), (a_flips, .inr (2, [.ref a_laid, .ref a_cards, .ref a_flips_ways, .int i_flips_howMany])), (a_laid, .inr (3, [.int i_laid_rounds, .int i_laid_home, .int i_laid_noise, .int i_laid_blowCount, .int i_laid_judgeCount, .ref a_laid_blows, .ref a_laid_judges, .ref a_laid_forward, .ref a_laid_downs, .ref a_laid_taken, .ref a_laid_seenBy, .ref a_laid_sums, .ref a_laid_leads])), (a_flips_ways, .inl (X.2.1 1, 9, .inr (.inl f_flips_ways))), (a_laid_downs, .inl (X.2.1 0, 24, .inl f_laid_downs)), (a_laid_judges, .inl (X.2.1 0, 56, .inl f_laid_judges)), (a_laid_leads, .inl (X.2.1 0, 96, .inl f_laid_leads)), (a_laid_taken, .inl (X.2.1 0, 24, .inl f_laid_taken))]) hx hb hml hts hown hG hA hP hD rfl hS hl.1 (qX10_within l X x4 (-1 : Int32) (2 : Int32) o_7 ho_7) (va_cwS (y := yX10_within) 3 hts gX10_coins_X10_within rfl rfl rfl hdsX10_within ⟨Nat.le_of_ble_eq_true rfl, Nat.le_of_ble_eq_true rfl⟩) [] [0, 1, 2, 3, 4, 5, 6, 7, 8] [0, 1, 2, 3, 4, 5, 6, 7, 8] rfl rfl rfl rfl rfl rfl rfl rfl rfl (Nat.le_of_ble_eq_true rfl) ⟨Nat.le_of_ble_eq_true rfl, Nat.le_of_ble_eq_true rfl⟩ dX10_coins_28 (fun H locs hP _ hS => ?_)
      refine lv_if_eq (tgt := 54) hx hb dX10_coins_31 (by decide) (fun c_9 => ?_) (fun c_9 => ?_)
      · have hf := xt hf c_9
        refine lv_ldc2 (v := (-1 : Int64)) hx hb hown w1 dX10_coins_54 ?_
        obtain rfl := Option.some.inj hf
        exact ret H _ ls _ hP hD hS dX10_coins_57
      · have hf := xf hf c_9
        refine lv_iload hx hb dX10_coins_34 (lv_at hl 6 rfl) ?_
        refine lv_iconst (v := (0 : Int32)) hx hb dX10_coins_36 (by decide) ?_
        refine lv_iload hx hb dX10_coins_37 (lv_at hl 5 rfl) ?_
        refine lv_iconst (v := (-1 : Int32)) hx hb dX10_coins_39 (by decide) ?_
        refine lv_icmp_ne (tgt := 47) hx hb dX10_coins_40 (by decide) (fun c_10 => ?_) (fun c_10 => ?_)
        · have hf := xf hf c_10
          refine lv_iconst (v := (1 : Int32)) hx hb dX10_coins_47 (by decide) ?_
          exact hB48  x5 (0 : Int32) (1 : Int32) f_flips_ways i_flips_howMany  H _ ls hP  hS (lv_sub hl [0, 1, 2, 3, 4, 5, 6] rfl) hf
        · have hf := xt hf c_10
          refine lv_iconst (v := (0 : Int32)) hx hb dX10_coins_43 (by decide) ?_
          refine lv_goto (tgt := 48) hx hb dX10_coins_44 (by decide) ?_
          exact hB48  x5 (0 : Int32) (0 : Int32) f_flips_ways i_flips_howMany  H _ ls hP  hS (lv_sub hl [0, 1, 2, 3, 4, 5, 6] rfl) hf
    · have hf := xt hf c_6
      refine lv_ldc2 (v := (-1 : Int64)) hx hb hown w1 dX10_coins_20 ?_
      obtain rfl := Option.some.inj hf
      exact ret H _ ls _ hP hD hS dX10_coins_23
def mX10_seats (x0 : Int32) (i_laid_rounds : Int32) (i_laid_blowCount : Int32) (f_bench_best : Nat → Int32) (f_bench_shown : Nat → Int32) (f_bench_watchers : Nat → Int32) (f_laid_blows : Nat → Int32) :
  Option (Int32 × (Nat → Int32) × (Nat → Int32)) :=
  (mX10_within x0 (0 : Int32) (4 : Int32)).bind fun o_1 =>
  if o_1 = 0 then (some ((-1 : Int32), f_bench_shown, f_bench_best)) else ((mX7_choose f_bench_best i_laid_rounds i_laid_blowCount f_bench_shown f_bench_watchers f_laid_blows).bind fun o_4 =>
  gi x0 5 <|
  lb (o_4.2 x0.toNatClampNeg) fun v_7 =>
  some (v_7, o_4.1, o_4.2))
theorem hdsX10_seats : yX10_seats.cls ≠ "java/lang/invoke/MethodHandle" ∧ yX10_seats.cls ≠ "java/lang/invoke/VarHandle" ∧ (parseMethodDescriptor yX10_seats.desc).map (fun d => d.parameters.length) = some 1 := by decide +kernel
theorem hdvX10_seats : yX10_seats.cls = RX10 ∧ yX10_seats.cls ≠ "java/lang/invoke/MethodHandle" ∧ yX10_seats.cls ≠ "java/lang/invoke/VarHandle" ∧ (parseMethodDescriptor yX10_seats.desc).map (fun d => d.parameters.length) = some 1 := by decide +kernel
abbrev rmX10_seats : Room := { frames := 4, cells := 0, slots := 0, locals := 87 }
set_option maxHeartbeats 4000000 in
set_option maxRecDepth 100000 in
theorem qX10_seats (l : Launch) (X : XT) (a_this : Nat) (a_bench : Nat) (a_laid : Nat) (a_bench_best : Nat) (a_bench_shown : Nat) (a_bench_watchers : Nat) (a_laid_blows : Nat) (a_text : Nat) (a_reader : Nat) (a_draft : Nat) (a_cards : Nat) (a_flips : Nat) (a_notes : Nat) (a_presses : Nat) (a_told : Nat) (a_game : Nat) (a_kept : Nat) (a_laid_judges : Nat) (a_laid_forward : Nat) (a_laid_downs : Nat) (a_laid_taken : Nat) (a_laid_seenBy : Nat) (a_laid_sums : Nat) (a_laid_leads : Nat)  (i_keptCount : Int32) (i_laid_rounds : Int32) (i_laid_home : Int32) (i_laid_noise : Int32) (i_laid_blowCount : Int32) (i_laid_judgeCount : Int32) (f_bench_best : Nat → Int32) (f_bench_shown : Nat → Int32) (f_bench_watchers : Nat → Int32) (f_laid_blows : Nat → Int32) (x0 : Int32) (o : Int32 × (Nat → Int32) × (Nat → Int32)) (hf : mX10_seats x0 i_laid_rounds i_laid_blowCount f_bench_best f_bench_shown f_bench_watchers f_laid_blows = some o) :
    MI l yX10_seats wsX10_seats rmX10_seats X [.ref a_this, .int x0] [(a_this, .inr (10, [.ref a_text, .ref a_reader, .ref a_draft, .ref a_laid, .ref a_cards, .ref a_flips, .ref a_bench, .ref a_notes, .ref a_presses, .ref a_told, .ref a_game, .ref a_kept, .int i_keptCount])), (a_bench, .inr (7, [.ref a_laid, .ref a_bench_shown, .ref a_bench_watchers, .ref a_bench_best])), (a_laid, .inr (3, [.int i_laid_rounds, .int i_laid_home, .int i_laid_noise, .int i_laid_blowCount, .int i_laid_judgeCount, .ref a_laid_blows, .ref a_laid_judges, .ref a_laid_forward, .ref a_laid_downs, .ref a_laid_taken, .ref a_laid_seenBy, .ref a_laid_sums, .ref a_laid_leads])), (a_bench_best, .inl (X.2.1 0, 5, .inl f_bench_best)), (a_bench_shown, .inl (X.2.1 0, 12, .inl f_bench_shown)), (a_bench_watchers, .inl (X.2.1 0, 12, .inl f_bench_watchers)), (a_laid_blows, .inl (X.2.1 0, 200, .inl f_laid_blows))]  [(a_this, .inr (10, [.ref a_text, .ref a_reader, .ref a_draft, .ref a_laid, .ref a_cards, .ref a_flips, .ref a_bench, .ref a_notes, .ref a_presses, .ref a_told, .ref a_game, .ref a_kept, .int i_keptCount])), (a_bench, .inr (7, [.ref a_laid, .ref a_bench_shown, .ref a_bench_watchers, .ref a_bench_best])), (a_laid, .inr (3, [.int i_laid_rounds, .int i_laid_home, .int i_laid_noise, .int i_laid_blowCount, .int i_laid_judgeCount, .ref a_laid_blows, .ref a_laid_judges, .ref a_laid_forward, .ref a_laid_downs, .ref a_laid_taken, .ref a_laid_seenBy, .ref a_laid_sums, .ref a_laid_leads])), (a_bench_best, .inl (X.2.1 0, 5, .inl o.2.2)), (a_bench_shown, .inl (X.2.1 0, 12, .inl o.2.1)), (a_bench_watchers, .inl (X.2.1 0, 12, .inl f_bench_watchers)), (a_laid_blows, .inl (X.2.1 0, 200, .inl f_laid_blows))] o.1 := by
  refine MI_ofH (cc := cX10_seats) (maxL := 2) (rt := .int) (by decide) rfl (Nat.le_of_ble_eq_true rfl) ?_
  intro p e s m below meth c A Q H ls hx hb hml hts hown hA hD hG hP hS hl ret
  have hown : s.vm.findClass RX10 = some m.cls := hown
  have hD : aD A [a_this, a_bench, a_laid, a_bench_best, a_bench_shown, a_bench_watchers, a_laid_blows] := hD
  have hl : lv_has ls 2 [(0, .ref a_this), (1, .int x0)] := hl
  have w1 := hts (Cond.fieldLink RX10 56 "ThreeCards" "bench" "LThreeCards$Seats;") (List.mem_of_getElem? (i := 1) rfl)
  have in7 : ∀ w ∈ u_ws RX7 TX7 4, w ∈ wsX10_seats := by decide +kernel
  have in10 : ∀ w ∈ u_ws RX10 TX10 13, w ∈ wsX10_seats := by decide +kernel
  unfold mX10_seats at hf
  refine lv_iload_n hx hb dX10_seats_0 rfl (lv_at hl 1 rfl) ?_
  refine lv_iconst (v := (0 : Int32)) hx hb dX10_seats_1 (by decide) ?_
  refine lv_iconst (v := (4 : Int32)) hx hb dX10_seats_2 (by decide) ?_
  obtain ⟨o_1, ho_1, hf⟩ := ob_s hf
  refine xS_i (As := [.int x0, .int (0 : Int32), .int (4 : Int32)]) (rest := []) (ws2 := [(a_this, .inr (10, [.ref a_text, .ref a_reader, .ref a_draft, .ref a_laid, .ref a_cards, .ref a_flips, .ref a_bench, .ref a_notes, .ref a_presses, .ref a_told, .ref a_game, .ref a_kept, .int i_keptCount])), (a_bench, .inr (7, [.ref a_laid, .ref a_bench_shown, .ref a_bench_watchers, .ref a_bench_best])), (a_laid, .inr (3, [.int i_laid_rounds, .int i_laid_home, .int i_laid_noise, .int i_laid_blowCount, .int i_laid_judgeCount, .ref a_laid_blows, .ref a_laid_judges, .ref a_laid_forward, .ref a_laid_downs, .ref a_laid_taken, .ref a_laid_seenBy, .ref a_laid_sums, .ref a_laid_leads])), (a_bench_best, .inl (X.2.1 0, 5, .inl f_bench_best)), (a_bench_shown, .inl (X.2.1 0, 12, .inl f_bench_shown)), (a_bench_watchers, .inl (X.2.1 0, 12, .inl f_bench_watchers)), (a_laid_blows, .inl (X.2.1 0, 200, .inl f_laid_blows))]) hx hb hml hts hown hG hA hP hD rfl hS hl.1 (qX10_within l X x0 (0 : Int32) (4 : Int32) o_1 ho_1) (va_cwS (y := yX10_within) 3 hts gX10_seats_X10_within rfl rfl rfl hdsX10_within ⟨Nat.le_of_ble_eq_true rfl, Nat.le_of_ble_eq_true rfl⟩) [] [0, 1, 2, 3, 4, 5, 6] [0, 1, 2, 3, 4, 5, 6] rfl rfl rfl rfl rfl rfl rfl rfl rfl (Nat.le_of_ble_eq_true rfl) ⟨Nat.le_of_ble_eq_true rfl, Nat.le_of_ble_eq_true rfl⟩ dX10_seats_3 (fun H locs hP _ hS => ?_)
  refine lv_if_ne (tgt := 11) hx hb dX10_seats_6 (by decide) (fun c_3 => ?_) (fun c_3 => ?_)
  · have hf := xf hf c_3
    refine lv_aload_n hx hb dX10_seats_11 rfl (lv_at hl 0 rfl) ?_
    refine va_get (D := X.1) (ci := 10) (v := .ref a_bench) (C := RX10) (T := TX10) (N := 13) hx hb hts in10 hown hG.1 hP 0 rfl rfl 6 (by decide) w1 (fun _ h9 => h9) rfl dX10_seats_12 ?_
    obtain ⟨o_4, ho_4, hf⟩ := ob_s hf
    refine xV_v (As := []) (b := a_bench) (rest := []) (ws2 := fun _ => [(a_this, .inr (10, [.ref a_text, .ref a_reader, .ref a_draft, .ref a_laid, .ref a_cards, .ref a_flips, .ref a_bench, .ref a_notes, .ref a_presses, .ref a_told, .ref a_game, .ref a_kept, .int i_keptCount])), (a_bench, .inr (7, [.ref a_laid, .ref a_bench_shown, .ref a_bench_watchers, .ref a_bench_best])), (a_laid, .inr (3, [.int i_laid_rounds, .int i_laid_home, .int i_laid_noise, .int i_laid_blowCount, .int i_laid_judgeCount, .ref a_laid_blows, .ref a_laid_judges, .ref a_laid_forward, .ref a_laid_downs, .ref a_laid_taken, .ref a_laid_seenBy, .ref a_laid_sums, .ref a_laid_leads])), (a_bench_best, .inl (X.2.1 0, 5, .inl o_4.2)), (a_bench_shown, .inl (X.2.1 0, 12, .inl o_4.1)), (a_bench_watchers, .inl (X.2.1 0, 12, .inl f_bench_watchers)), (a_laid_blows, .inl (X.2.1 0, 200, .inl f_laid_blows))]) hx hb hml hts hown hG hA hP hD rfl hS hl.1 (qX7_choose l X a_bench a_bench_best a_laid a_bench_shown a_bench_watchers a_laid_blows a_laid_judges a_laid_forward a_laid_downs a_laid_taken a_laid_seenBy a_laid_sums a_laid_leads f_bench_best i_laid_rounds i_laid_home i_laid_noise i_laid_blowCount i_laid_judgeCount f_bench_shown f_bench_watchers f_laid_blows o_4 ho_4) (cwV (y := yX7_choose) 0 hts gX10_seats_X7_choose rfl rfl rfl hdvX7_choose ⟨Nat.le_of_ble_eq_true rfl, Nat.le_of_ble_eq_true rfl⟩) [1, 3, 2, 4, 5, 6] [0] [0, 1, 3, 2, 4, 5, 6] rfl rfl rfl rfl rfl rfl (fun _ => rfl) (ci := 7) rfl 1 rfl rfl rfl (Nat.le_of_ble_eq_true rfl) ⟨Nat.le_of_ble_eq_true rfl, Nat.le_of_ble_eq_true rfl⟩ dX10_seats_15 (fun u_5 H locs hP _ hS => ?_)
    refine lv_aload_n hx hb dX10_seats_18 rfl (lv_at hl 0 rfl) ?_
    refine va_get (D := X.1) (ci := 10) (v := .ref a_bench) (C := RX10) (T := TX10) (N := 13) hx hb hts in10 hown hG.1 hP 0 rfl rfl 6 (by decide) w1 (fun _ h9 => h9) rfl dX10_seats_19 ?_
    refine va_getN (D := X.1) (ci := 7) (v := .ref a_bench_best) (C := RX7) (T := TX7) (N := 4) hx hb hts in7 hown hG.1 hP 1 rfl rfl 3 (by decide) (va_Nw.use rfl (nf13 hG.2.1)) (fun _ h9 => h9) rfl dX10_seats_22 ?_
    refine lv_iload_n hx hb dX10_seats_25 rfl (lv_at hl 1 rfl) ?_
    obtain ⟨h_6, hf⟩ := gi_s hf
    refine va_iald (D := X.1) hx hb hG.1 hP 3 0 rfl rfl h_6 dX10_seats_26 ?_
    refine lv_topi (fun v_7 ev_7 => ?_)
    have hf := lb_s hf ev_7
    obtain rfl := Option.some.inj hf
    exact ret H _ ls _ rfl hP hD hS dX10_seats_27
  · have hf := xt hf c_3
    refine lv_iconst (v := (-1 : Int32)) hx hb dX10_seats_9 (by decide) ?_
    obtain rfl := Option.some.inj hf
    exact ret H _ ls _ rfl hP hD hS dX10_seats_10
def mX10_delay (x0 : Int32) (x1 : Int32) (i_laid_judgeCount : Int32) (f_notes_delays : Nat → Int32) :
  Option (Int32 × (Nat → Int32)) :=
  (mX10_isJudge x0 i_laid_judgeCount).bind fun o_1 =>
  if o_1 = 0 then (some ((-1 : Int32), f_notes_delays)) else ((mX10_within x1 (0 : Int32) (9 : Int32)).bind fun o_4 =>
  if o_4 = 0 then (some ((-1 : Int32), f_notes_delays)) else (gi x0 8 <|
  lb (f_notes_delays x0.toNatClampNeg) fun v_8 =>
  gi x0 8 <|
  lb (upd f_notes_delays x0.toNatClampNeg x1) fun g_10 =>
  some (v_8, g_10)))
theorem hdsX10_delay : yX10_delay.cls ≠ "java/lang/invoke/MethodHandle" ∧ yX10_delay.cls ≠ "java/lang/invoke/VarHandle" ∧ (parseMethodDescriptor yX10_delay.desc).map (fun d => d.parameters.length) = some 2 := by decide +kernel
theorem hdvX10_delay : yX10_delay.cls = RX10 ∧ yX10_delay.cls ≠ "java/lang/invoke/MethodHandle" ∧ yX10_delay.cls ≠ "java/lang/invoke/VarHandle" ∧ (parseMethodDescriptor yX10_delay.desc).map (fun d => d.parameters.length) = some 2 := by decide +kernel
abbrev rmX10_delay : Room := { frames := 2, cells := 0, slots := 0, locals := 43 }
set_option maxHeartbeats 4000000 in
set_option maxRecDepth 100000 in
theorem qX10_delay (l : Launch) (X : XT) (a_this : Nat) (a_laid : Nat) (a_notes : Nat) (a_notes_delays : Nat) (a_text : Nat) (a_reader : Nat) (a_draft : Nat) (a_cards : Nat) (a_flips : Nat) (a_bench : Nat) (a_presses : Nat) (a_told : Nat) (a_game : Nat) (a_kept : Nat) (a_laid_blows : Nat) (a_laid_judges : Nat) (a_laid_forward : Nat) (a_laid_downs : Nat) (a_laid_taken : Nat) (a_laid_seenBy : Nat) (a_laid_sums : Nat) (a_laid_leads : Nat) (a_notes_margins : Nat) (a_notes_odds : Nat)  (i_keptCount : Int32) (i_laid_rounds : Int32) (i_laid_home : Int32) (i_laid_noise : Int32) (i_laid_blowCount : Int32) (i_laid_judgeCount : Int32) (f_notes_delays : Nat → Int32) (x0 : Int32) (x1 : Int32) (o : Int32 × (Nat → Int32)) (hf : mX10_delay x0 x1 i_laid_judgeCount f_notes_delays = some o) :
    MI l yX10_delay wsX10_delay rmX10_delay X [.ref a_this, .int x0, .int x1] [(a_this, .inr (10, [.ref a_text, .ref a_reader, .ref a_draft, .ref a_laid, .ref a_cards, .ref a_flips, .ref a_bench, .ref a_notes, .ref a_presses, .ref a_told, .ref a_game, .ref a_kept, .int i_keptCount])), (a_laid, .inr (3, [.int i_laid_rounds, .int i_laid_home, .int i_laid_noise, .int i_laid_blowCount, .int i_laid_judgeCount, .ref a_laid_blows, .ref a_laid_judges, .ref a_laid_forward, .ref a_laid_downs, .ref a_laid_taken, .ref a_laid_seenBy, .ref a_laid_sums, .ref a_laid_leads])), (a_notes, .inr (5, [.ref a_notes_delays, .ref a_notes_margins, .ref a_notes_odds])), (a_notes_delays, .inl (X.2.1 0, 8, .inl f_notes_delays))]  [(a_this, .inr (10, [.ref a_text, .ref a_reader, .ref a_draft, .ref a_laid, .ref a_cards, .ref a_flips, .ref a_bench, .ref a_notes, .ref a_presses, .ref a_told, .ref a_game, .ref a_kept, .int i_keptCount])), (a_laid, .inr (3, [.int i_laid_rounds, .int i_laid_home, .int i_laid_noise, .int i_laid_blowCount, .int i_laid_judgeCount, .ref a_laid_blows, .ref a_laid_judges, .ref a_laid_forward, .ref a_laid_downs, .ref a_laid_taken, .ref a_laid_seenBy, .ref a_laid_sums, .ref a_laid_leads])), (a_notes, .inr (5, [.ref a_notes_delays, .ref a_notes_margins, .ref a_notes_odds])), (a_notes_delays, .inl (X.2.1 0, 8, .inl o.2))] o.1 := by
  refine MI_ofH (cc := cX10_delay) (maxL := 4) (rt := .int) (by decide) rfl (Nat.le_of_ble_eq_true rfl) ?_
  intro p e s m below meth c A Q H ls hx hb hml hts hown hA hD hG hP hS hl ret
  have hown : s.vm.findClass RX10 = some m.cls := hown
  have hD : aD A [a_this, a_laid, a_notes, a_notes_delays] := hD
  have hl : lv_has ls 4 [(0, .ref a_this), (1, .int x0), (2, .int x1)] := hl
  have w1 := hts (.fieldLink RX10 63 "ThreeCards" "notes" "LThreeCards$Notes;") (List.mem_of_getElem? (i := 1) rfl)
  have in5 : ∀ w ∈ u_ws RX5 TX5 3, w ∈ wsX10_delay := by decide +kernel
  have in10 : ∀ w ∈ u_ws RX10 TX10 13, w ∈ wsX10_delay := by decide +kernel
  unfold mX10_delay at hf
  refine lv_aload_n hx hb dX10_delay_0 rfl (lv_at hl 0 rfl) ?_
  refine lv_iload_n hx hb dX10_delay_1 rfl (lv_at hl 1 rfl) ?_
  obtain ⟨o_1, ho_1, hf⟩ := ob_s hf
  refine xV_i (As := [.int x0]) (b := a_this) (rest := []) (ws2 := [(a_this, .inr (10, [.ref a_text, .ref a_reader, .ref a_draft, .ref a_laid, .ref a_cards, .ref a_flips, .ref a_bench, .ref a_notes, .ref a_presses, .ref a_told, .ref a_game, .ref a_kept, .int i_keptCount])), (a_laid, .inr (3, [.int i_laid_rounds, .int i_laid_home, .int i_laid_noise, .int i_laid_blowCount, .int i_laid_judgeCount, .ref a_laid_blows, .ref a_laid_judges, .ref a_laid_forward, .ref a_laid_downs, .ref a_laid_taken, .ref a_laid_seenBy, .ref a_laid_sums, .ref a_laid_leads])), (a_notes, .inr (5, [.ref a_notes_delays, .ref a_notes_margins, .ref a_notes_odds])), (a_notes_delays, .inl (X.2.1 0, 8, .inl f_notes_delays))]) hx hb hml hts hown hG hA hP hD rfl hS hl.1 (qX10_isJudge l X a_this a_laid a_text a_reader a_draft a_cards a_flips a_bench a_notes a_presses a_told a_game a_kept a_laid_blows a_laid_judges a_laid_forward a_laid_downs a_laid_taken a_laid_seenBy a_laid_sums a_laid_leads i_keptCount i_laid_rounds i_laid_home i_laid_noise i_laid_blowCount i_laid_judgeCount x0 o_1 ho_1) (cwV (y := yX10_isJudge) 1 hts gX10_delay_X10_isJudge rfl rfl rfl hdvX10_isJudge ⟨Nat.le_of_ble_eq_true rfl, Nat.le_of_ble_eq_true rfl⟩) [0, 1] [2, 3] [2, 3, 0, 1] rfl rfl rfl rfl rfl rfl rfl (ci := 10) rfl 0 rfl rfl rfl (Nat.le_of_ble_eq_true rfl) ⟨Nat.le_of_ble_eq_true rfl, Nat.le_of_ble_eq_true rfl⟩ dX10_delay_2 (fun H locs hP _ hS => ?_)
  refine lv_if_eq (tgt := 18) hx hb dX10_delay_5 (by decide) (fun c_3 => ?_) (fun c_3 => ?_)
  · have hf := xt hf c_3
    refine lv_iconst (v := (-1 : Int32)) hx hb dX10_delay_18 (by decide) ?_
    obtain rfl := Option.some.inj hf
    exact ret H _ ls _ rfl hP hD hS dX10_delay_19
  · have hf := xf hf c_3
    refine lv_iload_n hx hb dX10_delay_8 rfl (lv_at hl 2 rfl) ?_
    refine lv_iconst (v := (0 : Int32)) hx hb dX10_delay_9 (by decide) ?_
    refine lv_bipush (v := (9 : Int32)) hx hb dX10_delay_10 (by decide) ?_
    obtain ⟨o_4, ho_4, hf⟩ := ob_s hf
    refine xS_i (As := [.int x1, .int (0 : Int32), .int (9 : Int32)]) (rest := []) (ws2 := [(a_this, .inr (10, [.ref a_text, .ref a_reader, .ref a_draft, .ref a_laid, .ref a_cards, .ref a_flips, .ref a_bench, .ref a_notes, .ref a_presses, .ref a_told, .ref a_game, .ref a_kept, .int i_keptCount])), (a_laid, .inr (3, [.int i_laid_rounds, .int i_laid_home, .int i_laid_noise, .int i_laid_blowCount, .int i_laid_judgeCount, .ref a_laid_blows, .ref a_laid_judges, .ref a_laid_forward, .ref a_laid_downs, .ref a_laid_taken, .ref a_laid_seenBy, .ref a_laid_sums, .ref a_laid_leads])), (a_notes, .inr (5, [.ref a_notes_delays, .ref a_notes_margins, .ref a_notes_odds])), (a_notes_delays, .inl (X.2.1 0, 8, .inl f_notes_delays))]) hx hb hml hts hown hG hA hP hD rfl hS hl.1 (qX10_within l X x1 (0 : Int32) (9 : Int32) o_4 ho_4) (va_cwS (y := yX10_within) 3 hts gX10_delay_X10_within rfl rfl rfl hdsX10_within ⟨Nat.le_of_ble_eq_true rfl, Nat.le_of_ble_eq_true rfl⟩) [] [0, 1, 2, 3] [0, 1, 2, 3] rfl rfl rfl rfl rfl rfl rfl rfl rfl (Nat.le_of_ble_eq_true rfl) ⟨Nat.le_of_ble_eq_true rfl, Nat.le_of_ble_eq_true rfl⟩ dX10_delay_12 (fun H locs hP _ hS => ?_)
    refine lv_if_ne (tgt := 20) hx hb dX10_delay_15 (by decide) (fun c_6 => ?_) (fun c_6 => ?_)
    · have hf := xf hf c_6
      refine lv_aload_n hx hb dX10_delay_20 rfl (lv_at hl 0 rfl) ?_
      refine va_get (D := X.1) (ci := 10) (v := .ref a_notes) (C := RX10) (T := TX10) (N := 13) hx hb hts in10 hown hG.1 hP 0 rfl rfl 7 (by decide) w1 (fun _ h9 => h9) rfl dX10_delay_21 ?_
      refine va_getN (D := X.1) (ci := 5) (v := .ref a_notes_delays) (C := RX5) (T := TX5) (N := 3) hx hb hts in5 hown hG.1 hP 2 rfl rfl 0 (by decide) (va_Nw.use rfl (nf15 hG.2.1)) (fun _ h9 => h9) rfl dX10_delay_24 ?_
      refine lv_iload_n hx hb dX10_delay_27 rfl (lv_at hl 1 rfl) ?_
      obtain ⟨h_7, hf⟩ := gi_s hf
      refine va_iald (D := X.1) hx hb hG.1 hP 3 0 rfl rfl h_7 dX10_delay_28 ?_
      refine lv_topi (fun v_8 ev_8 => ?_)
      have hf := lb_s hf ev_8
      refine lv_istore_n (lv' := [(3, .int v_8), (0, .ref a_this), (1, .int x0), (2, .int x1)]) hx hb dX10_delay_29 rfl hl (by decide) rfl (fun ls hl => ?_)
      refine lv_aload_n hx hb dX10_delay_30 rfl (lv_at hl 1 rfl) ?_
      refine va_get (D := X.1) (ci := 10) (v := .ref a_notes) (C := RX10) (T := TX10) (N := 13) hx hb hts in10 hown hG.1 hP 0 rfl rfl 7 (by decide) w1 (fun _ h9 => h9) rfl dX10_delay_31 ?_
      refine va_getN (D := X.1) (ci := 5) (v := .ref a_notes_delays) (C := RX5) (T := TX5) (N := 3) hx hb hts in5 hown hG.1 hP 2 rfl rfl 0 (by decide) (va_Nw.use rfl (nf15 hG.2.1)) (fun _ h9 => h9) rfl dX10_delay_34 ?_
      refine lv_iload_n hx hb dX10_delay_37 rfl (lv_at hl 2 rfl) ?_
      refine lv_iload_n hx hb dX10_delay_38 rfl (lv_at hl 3 rfl) ?_
      obtain ⟨h_9, hf⟩ := gi_s hf
      obtain ⟨g_10, eg_10, hf⟩ := lb_g hf
      refine x_iast (ws' := [(a_this, .inr (10, [.ref a_text, .ref a_reader, .ref a_draft, .ref a_laid, .ref a_cards, .ref a_flips, .ref a_bench, .ref a_notes, .ref a_presses, .ref a_told, .ref a_game, .ref a_kept, .int i_keptCount])), (a_laid, .inr (3, [.int i_laid_rounds, .int i_laid_home, .int i_laid_noise, .int i_laid_blowCount, .int i_laid_judgeCount, .ref a_laid_blows, .ref a_laid_judges, .ref a_laid_forward, .ref a_laid_downs, .ref a_laid_taken, .ref a_laid_seenBy, .ref a_laid_sums, .ref a_laid_leads])), (a_notes, .inr (5, [.ref a_notes_delays, .ref a_notes_margins, .ref a_notes_odds])), (a_notes_delays, .inl (X.2.1 0, 8, .inl g_10))]) hx hb hG hP hD rfl hS 3 rfl h_9 dX10_delay_39 eg_10 rfl (fun H locs hP hS => ?_)
      refine lv_iload_n hx hb dX10_delay_40 rfl (lv_at hl 0 rfl) ?_
      obtain rfl := Option.some.inj hf
      exact ret H _ ls _ rfl hP hD hS dX10_delay_41
    · have hf := xt hf c_6
      refine lv_iconst (v := (-1 : Int32)) hx hb dX10_delay_18 (by decide) ?_
      obtain rfl := Option.some.inj hf
      exact ret H _ ls _ rfl hP hD hS dX10_delay_19
def mX10_buttons_B74 (x0 : Int32) (x1 : Int32) (x2 : Int32) (x3 : Int32) (i_laid_rounds : Int32) (i_laid_blowCount : Int32) (i_laid_judgeCount : Int32) (f_laid_blows : Nat → Int32) (f_laid_seenBy : Nat → Int32) (f_notes_delays : Nat → Int32) (k74 : Int32 → Int32 → Int32 → (Nat → Int32) → (Nat → Int32) → Option (Int32 × Int32 × (Nat → Int32) × (Nat → Int32))) (l5 : Int32) (l6 : Int32) (i_presses_rowCount : Int32) (f_presses_row : Nat → Int32) (f_presses_heads : Nat → Int32) :
  Option (Int32 × Int32 × (Nat → Int32) × (Nat → Int32)) :=
  if i_laid_rounds ≤ l6 then (some (l5, i_presses_rowCount, f_presses_row, f_presses_heads)) else ((mX0_tellOf l6 x1 x2 x3 i_presses_rowCount i_laid_blowCount i_laid_judgeCount f_presses_heads f_presses_row f_laid_blows f_laid_seenBy f_notes_delays).bind fun o_17 =>
  lb (l5 + o_17.1) fun v_19 =>
  lb (l6 + (1 : Int32)) fun v_20 =>
  k74 v_19 v_20 o_17.2.1 o_17.2.2.1 o_17.2.2.2)
def mX10_buttons_L74 (x0 : Int32) (x1 : Int32) (x2 : Int32) (x3 : Int32) (i_laid_rounds : Int32) (i_laid_blowCount : Int32) (i_laid_judgeCount : Int32) (f_laid_blows : Nat → Int32) (f_laid_seenBy : Nat → Int32) (f_notes_delays : Nat → Int32) (n : Nat) (l5 : Int32) (l6 : Int32) (i_presses_rowCount : Int32) (f_presses_row : Nat → Int32) (f_presses_heads : Nat → Int32) :
  Option (Int32 × Int32 × (Nat → Int32) × (Nat → Int32)) :=
  loopN (fun k (s : Int32 × Int32 × Int32 × (Nat → Int32) × (Nat → Int32)) => mX10_buttons_B74 x0 x1 x2 x3 i_laid_rounds i_laid_blowCount i_laid_judgeCount f_laid_blows f_laid_seenBy f_notes_delays  (fun l5 l6 i_presses_rowCount f_presses_row f_presses_heads => k (l5, l6, i_presses_rowCount, f_presses_row, f_presses_heads)) s.1 s.2.1 s.2.2.1 s.2.2.2.1 s.2.2.2.2) n (l5, l6, i_presses_rowCount, f_presses_row, f_presses_heads)
def mX10_buttons (x0 : Int32) (x1 : Int32) (x2 : Int32) (x3 : Int32) (i_laid_rounds : Int32) (i_laid_blowCount : Int32) (i_laid_judgeCount : Int32) (i_presses_rowCount : Int32) (f_laid_blows : Nat → Int32) (f_laid_seenBy : Nat → Int32) (f_notes_delays : Nat → Int32) (f_presses_heads : Nat → Int32) (f_presses_row : Nat → Int32) :
  Option (Int32 × Int32 × (Nat → Int32) × (Nat → Int32)) :=
  (mX10_within x0 (-1 : Int32) (i_laid_rounds - (1 : Int32))).bind fun o_1 =>
  if o_1 = 0 then (some ((-1 : Int32), i_presses_rowCount, f_presses_row, f_presses_heads)) else ((mX10_within x1 (1 : Int32) (8 : Int32)).bind fun o_4 =>
  if o_4 = 0 then (some ((-1 : Int32), i_presses_rowCount, f_presses_row, f_presses_heads)) else ((mX10_within x2 (0 : Int32) (9 : Int32)).bind fun o_7 =>
  if o_7 = 0 then (some ((-1 : Int32), i_presses_rowCount, f_presses_row, f_presses_heads)) else ((mX10_within x3 (0 : Int32) (3 : Int32)).bind fun o_10 =>
  if o_10 = 0 then (some ((-1 : Int32), i_presses_rowCount, f_presses_row, f_presses_heads)) else (if x0 < 0 then (mX10_buttons_L74 x0 x1 x2 x3 i_laid_rounds i_laid_blowCount i_laid_judgeCount f_laid_blows f_laid_seenBy f_notes_delays  FUEL (0 : Int32) (0 : Int32) i_presses_rowCount f_presses_row f_presses_heads) else ((mX0_tellOf x0 x1 x2 x3 i_presses_rowCount i_laid_blowCount i_laid_judgeCount f_presses_heads f_presses_row f_laid_blows f_laid_seenBy f_notes_delays).bind fun o_14 =>
  some (o_14.1, o_14.2.1, o_14.2.2.1, o_14.2.2.2))))))
theorem hdsX10_buttons : yX10_buttons.cls ≠ "java/lang/invoke/MethodHandle" ∧ yX10_buttons.cls ≠ "java/lang/invoke/VarHandle" ∧ (parseMethodDescriptor yX10_buttons.desc).map (fun d => d.parameters.length) = some 4 := by decide +kernel
theorem hdvX10_buttons : yX10_buttons.cls = RX10 ∧ yX10_buttons.cls ≠ "java/lang/invoke/MethodHandle" ∧ yX10_buttons.cls ≠ "java/lang/invoke/VarHandle" ∧ (parseMethodDescriptor yX10_buttons.desc).map (fun d => d.parameters.length) = some 4 := by decide +kernel
abbrev rmX10_buttons : Room := { frames := 6, cells := 0, slots := 0, locals := 142 }
set_option maxHeartbeats 4000000 in
set_option maxRecDepth 100000 in
theorem qX10_buttons (l : Launch) (X : XT) (a_this : Nat) (a_laid : Nat) (a_notes : Nat) (a_presses : Nat) (a_laid_blows : Nat) (a_laid_seenBy : Nat) (a_notes_delays : Nat) (a_presses_heads : Nat) (a_presses_row : Nat) (a_text : Nat) (a_reader : Nat) (a_draft : Nat) (a_cards : Nat) (a_flips : Nat) (a_bench : Nat) (a_told : Nat) (a_game : Nat) (a_kept : Nat) (a_laid_judges : Nat) (a_laid_forward : Nat) (a_laid_downs : Nat) (a_laid_taken : Nat) (a_laid_sums : Nat) (a_laid_leads : Nat) (a_notes_margins : Nat) (a_notes_odds : Nat)  (i_keptCount : Int32) (i_laid_rounds : Int32) (i_laid_home : Int32) (i_laid_noise : Int32) (i_laid_blowCount : Int32) (i_laid_judgeCount : Int32) (i_presses_rowCount : Int32) (f_laid_blows : Nat → Int32) (f_laid_seenBy : Nat → Int32) (f_notes_delays : Nat → Int32) (f_presses_heads : Nat → Int32) (f_presses_row : Nat → Int32) (x0 : Int32) (x1 : Int32) (x2 : Int32) (x3 : Int32) (o : Int32 × Int32 × (Nat → Int32) × (Nat → Int32)) (hf : mX10_buttons x0 x1 x2 x3 i_laid_rounds i_laid_blowCount i_laid_judgeCount i_presses_rowCount f_laid_blows f_laid_seenBy f_notes_delays f_presses_heads f_presses_row = some o) :
    MI l yX10_buttons wsX10_buttons rmX10_buttons X [.ref a_this, .int x0, .int x1, .int x2, .int x3] [(a_this, .inr (10, [.ref a_text, .ref a_reader, .ref a_draft, .ref a_laid, .ref a_cards, .ref a_flips, .ref a_bench, .ref a_notes, .ref a_presses, .ref a_told, .ref a_game, .ref a_kept, .int i_keptCount])), (a_laid, .inr (3, [.int i_laid_rounds, .int i_laid_home, .int i_laid_noise, .int i_laid_blowCount, .int i_laid_judgeCount, .ref a_laid_blows, .ref a_laid_judges, .ref a_laid_forward, .ref a_laid_downs, .ref a_laid_taken, .ref a_laid_seenBy, .ref a_laid_sums, .ref a_laid_leads])), (a_notes, .inr (5, [.ref a_notes_delays, .ref a_notes_margins, .ref a_notes_odds])), (a_presses, .inr (0, [.ref a_laid, .ref a_notes, .ref a_presses_row, .int i_presses_rowCount, .ref a_presses_heads])), (a_laid_blows, .inl (X.2.1 0, 200, .inl f_laid_blows)), (a_laid_seenBy, .inl (X.2.1 0, 40, .inl f_laid_seenBy)), (a_notes_delays, .inl (X.2.1 0, 8, .inl f_notes_delays)), (a_presses_heads, .inl (X.2.1 0, 8, .inl f_presses_heads)), (a_presses_row, .inl (X.2.1 0, 40, .inl f_presses_row))]  [(a_this, .inr (10, [.ref a_text, .ref a_reader, .ref a_draft, .ref a_laid, .ref a_cards, .ref a_flips, .ref a_bench, .ref a_notes, .ref a_presses, .ref a_told, .ref a_game, .ref a_kept, .int i_keptCount])), (a_laid, .inr (3, [.int i_laid_rounds, .int i_laid_home, .int i_laid_noise, .int i_laid_blowCount, .int i_laid_judgeCount, .ref a_laid_blows, .ref a_laid_judges, .ref a_laid_forward, .ref a_laid_downs, .ref a_laid_taken, .ref a_laid_seenBy, .ref a_laid_sums, .ref a_laid_leads])), (a_notes, .inr (5, [.ref a_notes_delays, .ref a_notes_margins, .ref a_notes_odds])), (a_presses, .inr (0, [.ref a_laid, .ref a_notes, .ref a_presses_row, .int o.2.1, .ref a_presses_heads])), (a_laid_blows, .inl (X.2.1 0, 200, .inl f_laid_blows)), (a_laid_seenBy, .inl (X.2.1 0, 40, .inl f_laid_seenBy)), (a_notes_delays, .inl (X.2.1 0, 8, .inl f_notes_delays)), (a_presses_heads, .inl (X.2.1 0, 8, .inl o.2.2.2)), (a_presses_row, .inl (X.2.1 0, 40, .inl o.2.2.1))] o.1 := by
  refine MI_ofH (cc := cX10_buttons) (maxL := 7) (rt := .int) (by decide) rfl (Nat.le_of_ble_eq_true rfl) ?_
  intro p e s m below meth c A Q H ls hx hb hml hts hown hA hD hG hP hS hl ret
  have hown : s.vm.findClass RX10 = some m.cls := hown
  have hD : aD A [a_this, a_laid, a_notes, a_presses, a_laid_blows, a_laid_seenBy, a_notes_delays, a_presses_heads, a_presses_row] := hD
  have hl : lv_has ls 7 [(0, .ref a_this), (1, .int x0), (2, .int x1), (3, .int x2), (4, .int x3)] := hl
  have w1 := hts (Cond.fieldLink RX10 32 "ThreeCards" "laid" "LThreeCards$Fight;") (List.mem_of_getElem? (i := 1) rfl)
  have w2 := hts (Cond.fieldLink RX10 72 "ThreeCards" "presses" "LThreeCards$Buttons;") (List.mem_of_getElem? (i := 2) rfl)
  have in3 : ∀ w ∈ u_ws RX3 TX3 13, w ∈ wsX10_buttons := by decide +kernel
  have in10 : ∀ w ∈ u_ws RX10 TX10 13, w ∈ wsX10_buttons := by decide +kernel
  have hL74 : ∀ (n : Nat) (l5 : Int32) (l6 : Int32) (i_presses_rowCount : Int32) (f_presses_row : Nat → Int32) (f_presses_heads : Nat → Int32)  (H : Heap) (locs : List Loc) (ls : Array Slot), va_P X.1 vwCl [(a_this, .inr (10, [.ref a_text, .ref a_reader, .ref a_draft, .ref a_laid, .ref a_cards, .ref a_flips, .ref a_bench, .ref a_notes, .ref a_presses, .ref a_told, .ref a_game, .ref a_kept, .int i_keptCount])), (a_laid, .inr (3, [.int i_laid_rounds, .int i_laid_home, .int i_laid_noise, .int i_laid_blowCount, .int i_laid_judgeCount, .ref a_laid_blows, .ref a_laid_judges, .ref a_laid_forward, .ref a_laid_downs, .ref a_laid_taken, .ref a_laid_seenBy, .ref a_laid_sums, .ref a_laid_leads])), (a_notes, .inr (5, [.ref a_notes_delays, .ref a_notes_margins, .ref a_notes_odds])), (a_presses, .inr (0, [.ref a_laid, .ref a_notes, .ref a_presses_row, .int i_presses_rowCount, .ref a_presses_heads])), (a_laid_blows, .inl (X.2.1 0, 200, .inl f_laid_blows)), (a_laid_seenBy, .inl (X.2.1 0, 40, .inl f_laid_seenBy)), (a_notes_delays, .inl (X.2.1 0, 8, .inl f_notes_delays)), (a_presses_heads, .inl (X.2.1 0, 8, .inl f_presses_heads)), (a_presses_row, .inl (X.2.1 0, 40, .inl f_presses_row))] H → va_S A s.heap H locs → lv_has ls 7 [(0, .ref a_this), (2, .int x1), (3, .int x2), (4, .int x3), (5, .int l5), (6, .int l6)] → mX10_buttons_L74 x0 x1 x2 x3 i_laid_rounds i_laid_blowCount i_laid_judgeCount f_laid_blows f_laid_seenBy f_notes_delays  n l5 l6 i_presses_rowCount f_presses_row f_presses_heads = some o → W p l e rmX10_buttons s m ([.ref a_this, .int x0, .int x1, .int x2, .int x3] : List Value).toArray below meth c H locs 0 0 Q (F0 m 74 ls []) := by
    intro n
    induction n with
    | zero => intro l5 l6 i_presses_rowCount f_presses_row f_presses_heads  H locs ls hP hS hl hf; exact xn hf
    | succ n ih =>
      intro l5 l6 i_presses_rowCount f_presses_row f_presses_heads  H locs ls hP hS hl hf
      have hf : mX10_buttons_B74 x0 x1 x2 x3 i_laid_rounds i_laid_blowCount i_laid_judgeCount f_laid_blows f_laid_seenBy f_notes_delays  (mX10_buttons_L74 x0 x1 x2 x3 i_laid_rounds i_laid_blowCount i_laid_judgeCount f_laid_blows f_laid_seenBy f_notes_delays  n) l5 l6 i_presses_rowCount f_presses_row f_presses_heads = some o := hf
      generalize mX10_buttons_L74 x0 x1 x2 x3 i_laid_rounds i_laid_blowCount i_laid_judgeCount f_laid_blows f_laid_seenBy f_notes_delays  n = k74 at ih hf
      unfold mX10_buttons_B74 at hf
      refine lv_iload hx hb dX10_buttons_74 (lv_at hl 5 rfl) ?_
      refine lv_aload_n hx hb dX10_buttons_76 rfl (lv_at hl 0 rfl) ?_
      refine va_get (D := X.1) (ci := 10) (v := .ref a_laid) (C := RX10) (T := TX10) (N := 13) hx hb hts in10 hown hG.1 hP 0 rfl rfl 3 (by decide) w1 (fun _ h9 => h9) rfl dX10_buttons_77 ?_
      refine va_getN (D := X.1) (ci := 3) (v := .int i_laid_rounds) (C := RX3) (T := TX3) (N := 13) hx hb hts in3 hown hG.1 hP 1 rfl rfl 0 (by decide) (va_Nw.use rfl (nf4 hG.2.1)) (fun _ h9 => h9) rfl dX10_buttons_80 ?_
      refine lv_icmp_ge (tgt := 110) hx hb dX10_buttons_83 (by decide) (fun c_16 => ?_) (fun c_16 => ?_)
      · have hf := xt hf c_16
        refine lv_iload hx hb dX10_buttons_110 (lv_at hl 4 rfl) ?_
        obtain rfl := Option.some.inj hf
        exact ret H _ ls _ rfl hP hD hS dX10_buttons_112
      · have hf := xf hf c_16
        refine lv_iload hx hb dX10_buttons_86 (lv_at hl 4 rfl) ?_
        refine lv_aload_n hx hb dX10_buttons_88 rfl (lv_at hl 0 rfl) ?_
        refine va_get (D := X.1) (ci := 10) (v := .ref a_presses) (C := RX10) (T := TX10) (N := 13) hx hb hts in10 hown hG.1 hP 0 rfl rfl 8 (by decide) w2 (fun _ h9 => h9) rfl dX10_buttons_89 ?_
        refine lv_iload hx hb dX10_buttons_92 (lv_at hl 5 rfl) ?_
        refine lv_iload_n hx hb dX10_buttons_94 rfl (lv_at hl 1 rfl) ?_
        refine lv_iload_n hx hb dX10_buttons_95 rfl (lv_at hl 2 rfl) ?_
        refine lv_iload hx hb dX10_buttons_96 (lv_at hl 3 rfl) ?_
        obtain ⟨o_17, ho_17, hf⟩ := ob_s hf
        refine xV_i (As := [.int l6, .int x1, .int x2, .int x3]) (b := a_presses) (rest := [.int l5]) (ws2 := [(a_this, .inr (10, [.ref a_text, .ref a_reader, .ref a_draft, .ref a_laid, .ref a_cards, .ref a_flips, .ref a_bench, .ref a_notes, .ref a_presses, .ref a_told, .ref a_game, .ref a_kept, .int i_keptCount])), (a_laid, .inr (3, [.int i_laid_rounds, .int i_laid_home, .int i_laid_noise, .int i_laid_blowCount, .int i_laid_judgeCount, .ref a_laid_blows, .ref a_laid_judges, .ref a_laid_forward, .ref a_laid_downs, .ref a_laid_taken, .ref a_laid_seenBy, .ref a_laid_sums, .ref a_laid_leads])), (a_notes, .inr (5, [.ref a_notes_delays, .ref a_notes_margins, .ref a_notes_odds])), (a_presses, .inr (0, [.ref a_laid, .ref a_notes, .ref a_presses_row, .int o_17.2.1, .ref a_presses_heads])), (a_laid_blows, .inl (X.2.1 0, 200, .inl f_laid_blows)), (a_laid_seenBy, .inl (X.2.1 0, 40, .inl f_laid_seenBy)), (a_notes_delays, .inl (X.2.1 0, 8, .inl f_notes_delays)), (a_presses_heads, .inl (X.2.1 0, 8, .inl o_17.2.2.2)), (a_presses_row, .inl (X.2.1 0, 40, .inl o_17.2.2.1))]) hx hb hml hts hown hG hA hP hD rfl hS hl.1 (qX0_tellOf l X a_presses a_laid a_presses_heads a_notes a_presses_row a_laid_blows a_laid_seenBy a_notes_delays a_laid_judges a_laid_forward a_laid_downs a_laid_taken a_laid_sums a_laid_leads a_notes_margins a_notes_odds i_presses_rowCount i_laid_rounds i_laid_home i_laid_noise i_laid_blowCount i_laid_judgeCount f_presses_heads f_presses_row f_laid_blows f_laid_seenBy f_notes_delays l6 x1 x2 x3 o_17 ho_17) (cwV (y := yX0_tellOf) 4 hts gX10_buttons_X0_tellOf rfl rfl rfl hdvX0_tellOf ⟨Nat.le_of_ble_eq_true rfl, Nat.le_of_ble_eq_true rfl⟩) [3, 1, 7, 2, 8, 4, 5, 6] [0] [0, 2, 4, 1, 6, 7, 8, 3, 5] rfl rfl rfl rfl rfl rfl rfl (ci := 0) rfl 3 rfl rfl rfl (Nat.le_of_ble_eq_true rfl) ⟨Nat.le_of_ble_eq_true rfl, Nat.le_of_ble_eq_true rfl⟩ dX10_buttons_98 (fun H locs hP _ hS => ?_)
        refine lv_iadd hx hb dX10_buttons_101 ?_
        refine lv_topi (fun v_19 ev_19 => ?_)
        have hf := lb_s hf ev_19
        refine lv_istore (lv' := [(5, .int v_19), (0, .ref a_this), (2, .int x1), (3, .int x2), (4, .int x3), (6, .int l6)]) hx hb dX10_buttons_102 hl (by decide) rfl (fun ls hl => ?_)
        obtain ⟨v_20, ev_20, hf⟩ := lb_g hf
        refine lv_iinc (v := v_20) (lv' := [(6, .int v_20), (5, .int v_19), (0, .ref a_this), (2, .int x1), (3, .int x2), (4, .int x3)]) hx hb dX10_buttons_104 hl (k := 5) rfl ev_20.symm (by decide) rfl (fun ls hl => ?_)
        refine lv_goto (tgt := 74) hx hb dX10_buttons_107 (by decide) ?_
        exact ih v_19 v_20 o_17.2.1 o_17.2.2.1 o_17.2.2.2  H _ ls hP  hS (lv_sub hl [2, 3, 4, 5, 1, 0] rfl) hf
  unfold mX10_buttons at hf
  refine lv_iload_n hx hb dX10_buttons_0 rfl (lv_at hl 1 rfl) ?_
  refine lv_iconst (v := (-1 : Int32)) hx hb dX10_buttons_1 (by decide) ?_
  refine lv_aload_n hx hb dX10_buttons_2 rfl (lv_at hl 0 rfl) ?_
  refine va_get (D := X.1) (ci := 10) (v := .ref a_laid) (C := RX10) (T := TX10) (N := 13) hx hb hts in10 hown hG.1 hP 0 rfl rfl 3 (by decide) w1 (fun _ h9 => h9) rfl dX10_buttons_3 ?_
  refine va_getN (D := X.1) (ci := 3) (v := .int i_laid_rounds) (C := RX3) (T := TX3) (N := 13) hx hb hts in3 hown hG.1 hP 1 rfl rfl 0 (by decide) (va_Nw.use rfl (nf4 hG.2.1)) (fun _ h9 => h9) rfl dX10_buttons_6 ?_
  refine lv_iconst (v := (1 : Int32)) hx hb dX10_buttons_9 (by decide) ?_
  refine lv_isub hx hb dX10_buttons_10 ?_
  obtain ⟨o_1, ho_1, hf⟩ := ob_s hf
  refine xS_i (As := [.int x0, .int (-1 : Int32), .int (i_laid_rounds - (1 : Int32))]) (rest := []) (ws2 := [(a_this, .inr (10, [.ref a_text, .ref a_reader, .ref a_draft, .ref a_laid, .ref a_cards, .ref a_flips, .ref a_bench, .ref a_notes, .ref a_presses, .ref a_told, .ref a_game, .ref a_kept, .int i_keptCount])), (a_laid, .inr (3, [.int i_laid_rounds, .int i_laid_home, .int i_laid_noise, .int i_laid_blowCount, .int i_laid_judgeCount, .ref a_laid_blows, .ref a_laid_judges, .ref a_laid_forward, .ref a_laid_downs, .ref a_laid_taken, .ref a_laid_seenBy, .ref a_laid_sums, .ref a_laid_leads])), (a_notes, .inr (5, [.ref a_notes_delays, .ref a_notes_margins, .ref a_notes_odds])), (a_presses, .inr (0, [.ref a_laid, .ref a_notes, .ref a_presses_row, .int i_presses_rowCount, .ref a_presses_heads])), (a_laid_blows, .inl (X.2.1 0, 200, .inl f_laid_blows)), (a_laid_seenBy, .inl (X.2.1 0, 40, .inl f_laid_seenBy)), (a_notes_delays, .inl (X.2.1 0, 8, .inl f_notes_delays)), (a_presses_heads, .inl (X.2.1 0, 8, .inl f_presses_heads)), (a_presses_row, .inl (X.2.1 0, 40, .inl f_presses_row))]) hx hb hml hts hown hG hA hP hD rfl hS hl.1 (qX10_within l X x0 (-1 : Int32) (i_laid_rounds - (1 : Int32)) o_1 ho_1) (va_cwS (y := yX10_within) 3 hts gX10_buttons_X10_within rfl rfl rfl hdsX10_within ⟨Nat.le_of_ble_eq_true rfl, Nat.le_of_ble_eq_true rfl⟩) [] [0, 1, 2, 3, 4, 5, 6, 7, 8] [0, 1, 2, 3, 4, 5, 6, 7, 8] rfl rfl rfl rfl rfl rfl rfl rfl rfl (Nat.le_of_ble_eq_true rfl) ⟨Nat.le_of_ble_eq_true rfl, Nat.le_of_ble_eq_true rfl⟩ dX10_buttons_11 (fun H locs hP _ hS => ?_)
  refine lv_if_eq (tgt := 27) hx hb dX10_buttons_14 (by decide) (fun c_3 => ?_) (fun c_3 => ?_)
  · have hf := xt hf c_3
    refine lv_iconst (v := (-1 : Int32)) hx hb dX10_buttons_27 (by decide) ?_
    obtain rfl := Option.some.inj hf
    exact ret H _ ls _ rfl hP hD hS dX10_buttons_28
  · have hf := xf hf c_3
    refine lv_iload_n hx hb dX10_buttons_17 rfl (lv_at hl 2 rfl) ?_
    refine lv_iconst (v := (1 : Int32)) hx hb dX10_buttons_18 (by decide) ?_
    refine lv_bipush (v := (8 : Int32)) hx hb dX10_buttons_19 (by decide) ?_
    obtain ⟨o_4, ho_4, hf⟩ := ob_s hf
    refine xS_i (As := [.int x1, .int (1 : Int32), .int (8 : Int32)]) (rest := []) (ws2 := [(a_this, .inr (10, [.ref a_text, .ref a_reader, .ref a_draft, .ref a_laid, .ref a_cards, .ref a_flips, .ref a_bench, .ref a_notes, .ref a_presses, .ref a_told, .ref a_game, .ref a_kept, .int i_keptCount])), (a_laid, .inr (3, [.int i_laid_rounds, .int i_laid_home, .int i_laid_noise, .int i_laid_blowCount, .int i_laid_judgeCount, .ref a_laid_blows, .ref a_laid_judges, .ref a_laid_forward, .ref a_laid_downs, .ref a_laid_taken, .ref a_laid_seenBy, .ref a_laid_sums, .ref a_laid_leads])), (a_notes, .inr (5, [.ref a_notes_delays, .ref a_notes_margins, .ref a_notes_odds])), (a_presses, .inr (0, [.ref a_laid, .ref a_notes, .ref a_presses_row, .int i_presses_rowCount, .ref a_presses_heads])), (a_laid_blows, .inl (X.2.1 0, 200, .inl f_laid_blows)), (a_laid_seenBy, .inl (X.2.1 0, 40, .inl f_laid_seenBy)), (a_notes_delays, .inl (X.2.1 0, 8, .inl f_notes_delays)), (a_presses_heads, .inl (X.2.1 0, 8, .inl f_presses_heads)), (a_presses_row, .inl (X.2.1 0, 40, .inl f_presses_row))]) hx hb hml hts hown hG hA hP hD rfl hS hl.1 (qX10_within l X x1 (1 : Int32) (8 : Int32) o_4 ho_4) (va_cwS (y := yX10_within) 3 hts gX10_buttons_X10_within rfl rfl rfl hdsX10_within ⟨Nat.le_of_ble_eq_true rfl, Nat.le_of_ble_eq_true rfl⟩) [] [0, 1, 2, 3, 4, 5, 6, 7, 8] [0, 1, 2, 3, 4, 5, 6, 7, 8] rfl rfl rfl rfl rfl rfl rfl rfl rfl (Nat.le_of_ble_eq_true rfl) ⟨Nat.le_of_ble_eq_true rfl, Nat.le_of_ble_eq_true rfl⟩ dX10_buttons_21 (fun H locs hP _ hS => ?_)
    refine lv_if_ne (tgt := 29) hx hb dX10_buttons_24 (by decide) (fun c_6 => ?_) (fun c_6 => ?_)
    · have hf := xf hf c_6
      refine lv_iload_n hx hb dX10_buttons_29 rfl (lv_at hl 3 rfl) ?_
      refine lv_iconst (v := (0 : Int32)) hx hb dX10_buttons_30 (by decide) ?_
      refine lv_bipush (v := (9 : Int32)) hx hb dX10_buttons_31 (by decide) ?_
      obtain ⟨o_7, ho_7, hf⟩ := ob_s hf
      refine xS_i (As := [.int x2, .int (0 : Int32), .int (9 : Int32)]) (rest := []) (ws2 := [(a_this, .inr (10, [.ref a_text, .ref a_reader, .ref a_draft, .ref a_laid, .ref a_cards, .ref a_flips, .ref a_bench, .ref a_notes, .ref a_presses, .ref a_told, .ref a_game, .ref a_kept, .int i_keptCount])), (a_laid, .inr (3, [.int i_laid_rounds, .int i_laid_home, .int i_laid_noise, .int i_laid_blowCount, .int i_laid_judgeCount, .ref a_laid_blows, .ref a_laid_judges, .ref a_laid_forward, .ref a_laid_downs, .ref a_laid_taken, .ref a_laid_seenBy, .ref a_laid_sums, .ref a_laid_leads])), (a_notes, .inr (5, [.ref a_notes_delays, .ref a_notes_margins, .ref a_notes_odds])), (a_presses, .inr (0, [.ref a_laid, .ref a_notes, .ref a_presses_row, .int i_presses_rowCount, .ref a_presses_heads])), (a_laid_blows, .inl (X.2.1 0, 200, .inl f_laid_blows)), (a_laid_seenBy, .inl (X.2.1 0, 40, .inl f_laid_seenBy)), (a_notes_delays, .inl (X.2.1 0, 8, .inl f_notes_delays)), (a_presses_heads, .inl (X.2.1 0, 8, .inl f_presses_heads)), (a_presses_row, .inl (X.2.1 0, 40, .inl f_presses_row))]) hx hb hml hts hown hG hA hP hD rfl hS hl.1 (qX10_within l X x2 (0 : Int32) (9 : Int32) o_7 ho_7) (va_cwS (y := yX10_within) 3 hts gX10_buttons_X10_within rfl rfl rfl hdsX10_within ⟨Nat.le_of_ble_eq_true rfl, Nat.le_of_ble_eq_true rfl⟩) [] [0, 1, 2, 3, 4, 5, 6, 7, 8] [0, 1, 2, 3, 4, 5, 6, 7, 8] rfl rfl rfl rfl rfl rfl rfl rfl rfl (Nat.le_of_ble_eq_true rfl) ⟨Nat.le_of_ble_eq_true rfl, Nat.le_of_ble_eq_true rfl⟩ dX10_buttons_33 (fun H locs hP _ hS => ?_)
      refine lv_if_eq (tgt := 49) hx hb dX10_buttons_36 (by decide) (fun c_9 => ?_) (fun c_9 => ?_)
      · have hf := xt hf c_9
        refine lv_iconst (v := (-1 : Int32)) hx hb dX10_buttons_49 (by decide) ?_
        obtain rfl := Option.some.inj hf
        exact ret H _ ls _ rfl hP hD hS dX10_buttons_50
      · have hf := xf hf c_9
        refine lv_iload hx hb dX10_buttons_39 (lv_at hl 4 rfl) ?_
        refine lv_iconst (v := (0 : Int32)) hx hb dX10_buttons_41 (by decide) ?_
        refine lv_iconst (v := (3 : Int32)) hx hb dX10_buttons_42 (by decide) ?_
        obtain ⟨o_10, ho_10, hf⟩ := ob_s hf
        refine xS_i (As := [.int x3, .int (0 : Int32), .int (3 : Int32)]) (rest := []) (ws2 := [(a_this, .inr (10, [.ref a_text, .ref a_reader, .ref a_draft, .ref a_laid, .ref a_cards, .ref a_flips, .ref a_bench, .ref a_notes, .ref a_presses, .ref a_told, .ref a_game, .ref a_kept, .int i_keptCount])), (a_laid, .inr (3, [.int i_laid_rounds, .int i_laid_home, .int i_laid_noise, .int i_laid_blowCount, .int i_laid_judgeCount, .ref a_laid_blows, .ref a_laid_judges, .ref a_laid_forward, .ref a_laid_downs, .ref a_laid_taken, .ref a_laid_seenBy, .ref a_laid_sums, .ref a_laid_leads])), (a_notes, .inr (5, [.ref a_notes_delays, .ref a_notes_margins, .ref a_notes_odds])), (a_presses, .inr (0, [.ref a_laid, .ref a_notes, .ref a_presses_row, .int i_presses_rowCount, .ref a_presses_heads])), (a_laid_blows, .inl (X.2.1 0, 200, .inl f_laid_blows)), (a_laid_seenBy, .inl (X.2.1 0, 40, .inl f_laid_seenBy)), (a_notes_delays, .inl (X.2.1 0, 8, .inl f_notes_delays)), (a_presses_heads, .inl (X.2.1 0, 8, .inl f_presses_heads)), (a_presses_row, .inl (X.2.1 0, 40, .inl f_presses_row))]) hx hb hml hts hown hG hA hP hD rfl hS hl.1 (qX10_within l X x3 (0 : Int32) (3 : Int32) o_10 ho_10) (va_cwS (y := yX10_within) 3 hts gX10_buttons_X10_within rfl rfl rfl hdsX10_within ⟨Nat.le_of_ble_eq_true rfl, Nat.le_of_ble_eq_true rfl⟩) [] [0, 1, 2, 3, 4, 5, 6, 7, 8] [0, 1, 2, 3, 4, 5, 6, 7, 8] rfl rfl rfl rfl rfl rfl rfl rfl rfl (Nat.le_of_ble_eq_true rfl) ⟨Nat.le_of_ble_eq_true rfl, Nat.le_of_ble_eq_true rfl⟩ dX10_buttons_43 (fun H locs hP _ hS => ?_)
        refine lv_if_ne (tgt := 51) hx hb dX10_buttons_46 (by decide) (fun c_12 => ?_) (fun c_12 => ?_)
        · have hf := xf hf c_12
          refine lv_iload_n hx hb dX10_buttons_51 rfl (lv_at hl 1 rfl) ?_
          refine lv_if_lt (tgt := 68) hx hb dX10_buttons_52 (by decide) (fun c_13 => ?_) (fun c_13 => ?_)
          · have hf := xt hf c_13
            refine lv_iconst (v := (0 : Int32)) hx hb dX10_buttons_68 (by decide) ?_
            refine lv_istore (lv' := [(5, .int (0 : Int32)), (0, .ref a_this), (1, .int x0), (2, .int x1), (3, .int x2), (4, .int x3)]) hx hb dX10_buttons_69 hl (by decide) rfl (fun ls hl => ?_)
            refine lv_iconst (v := (0 : Int32)) hx hb dX10_buttons_71 (by decide) ?_
            refine lv_istore (lv' := [(6, .int (0 : Int32)), (5, .int (0 : Int32)), (0, .ref a_this), (1, .int x0), (2, .int x1), (3, .int x2), (4, .int x3)]) hx hb dX10_buttons_72 hl (by decide) rfl (fun ls hl => ?_)
            exact hL74  FUEL (0 : Int32) (0 : Int32) i_presses_rowCount f_presses_row f_presses_heads  H _ ls hP  hS (lv_sub hl [2, 4, 5, 6, 1, 0] rfl) hf
          · have hf := xf hf c_13
            refine lv_aload_n hx hb dX10_buttons_55 rfl (lv_at hl 0 rfl) ?_
            refine va_get (D := X.1) (ci := 10) (v := .ref a_presses) (C := RX10) (T := TX10) (N := 13) hx hb hts in10 hown hG.1 hP 0 rfl rfl 8 (by decide) w2 (fun _ h9 => h9) rfl dX10_buttons_56 ?_
            refine lv_iload_n hx hb dX10_buttons_59 rfl (lv_at hl 1 rfl) ?_
            refine lv_iload_n hx hb dX10_buttons_60 rfl (lv_at hl 2 rfl) ?_
            refine lv_iload_n hx hb dX10_buttons_61 rfl (lv_at hl 3 rfl) ?_
            refine lv_iload hx hb dX10_buttons_62 (lv_at hl 4 rfl) ?_
            obtain ⟨o_14, ho_14, hf⟩ := ob_s hf
            refine xV_i (As := [.int x0, .int x1, .int x2, .int x3]) (b := a_presses) (rest := []) (ws2 := [(a_this, .inr (10, [.ref a_text, .ref a_reader, .ref a_draft, .ref a_laid, .ref a_cards, .ref a_flips, .ref a_bench, .ref a_notes, .ref a_presses, .ref a_told, .ref a_game, .ref a_kept, .int i_keptCount])), (a_laid, .inr (3, [.int i_laid_rounds, .int i_laid_home, .int i_laid_noise, .int i_laid_blowCount, .int i_laid_judgeCount, .ref a_laid_blows, .ref a_laid_judges, .ref a_laid_forward, .ref a_laid_downs, .ref a_laid_taken, .ref a_laid_seenBy, .ref a_laid_sums, .ref a_laid_leads])), (a_notes, .inr (5, [.ref a_notes_delays, .ref a_notes_margins, .ref a_notes_odds])), (a_presses, .inr (0, [.ref a_laid, .ref a_notes, .ref a_presses_row, .int o_14.2.1, .ref a_presses_heads])), (a_laid_blows, .inl (X.2.1 0, 200, .inl f_laid_blows)), (a_laid_seenBy, .inl (X.2.1 0, 40, .inl f_laid_seenBy)), (a_notes_delays, .inl (X.2.1 0, 8, .inl f_notes_delays)), (a_presses_heads, .inl (X.2.1 0, 8, .inl o_14.2.2.2)), (a_presses_row, .inl (X.2.1 0, 40, .inl o_14.2.2.1))]) hx hb hml hts hown hG hA hP hD rfl hS hl.1 (qX0_tellOf l X a_presses a_laid a_presses_heads a_notes a_presses_row a_laid_blows a_laid_seenBy a_notes_delays a_laid_judges a_laid_forward a_laid_downs a_laid_taken a_laid_sums a_laid_leads a_notes_margins a_notes_odds i_presses_rowCount i_laid_rounds i_laid_home i_laid_noise i_laid_blowCount i_laid_judgeCount f_presses_heads f_presses_row f_laid_blows f_laid_seenBy f_notes_delays x0 x1 x2 x3 o_14 ho_14) (cwV (y := yX0_tellOf) 4 hts gX10_buttons_X0_tellOf rfl rfl rfl hdvX0_tellOf ⟨Nat.le_of_ble_eq_true rfl, Nat.le_of_ble_eq_true rfl⟩) [3, 1, 7, 2, 8, 4, 5, 6] [0] [0, 2, 4, 1, 6, 7, 8, 3, 5] rfl rfl rfl rfl rfl rfl rfl (ci := 0) rfl 3 rfl rfl rfl (Nat.le_of_ble_eq_true rfl) ⟨Nat.le_of_ble_eq_true rfl, Nat.le_of_ble_eq_true rfl⟩ dX10_buttons_64 (fun H locs hP _ hS => ?_)
            obtain rfl := Option.some.inj hf
            exact ret H _ ls _ rfl hP hD hS dX10_buttons_67
        · have hf := xt hf c_12
          refine lv_iconst (v := (-1 : Int32)) hx hb dX10_buttons_49 (by decide) ?_
          obtain rfl := Option.some.inj hf
          exact ret H _ ls _ rfl hP hD hS dX10_buttons_50
    · have hf := xt hf c_6
      refine lv_iconst (v := (-1 : Int32)) hx hb dX10_buttons_27 (by decide) ?_
      obtain rfl := Option.some.inj hf
      exact ret H _ ls _ rfl hP hD hS dX10_buttons_28
def mX10_isName (x0 : Int32) :
  Option (Int32) :=
  (mX10_within x0 (0 : Int32) (5 : Int32)).bind fun o_1 =>
  gz o_1 <|
  some o_1
theorem hdsX10_isName : yX10_isName.cls ≠ "java/lang/invoke/MethodHandle" ∧ yX10_isName.cls ≠ "java/lang/invoke/VarHandle" ∧ (parseMethodDescriptor yX10_isName.desc).map (fun d => d.parameters.length) = some 1 := by decide +kernel
abbrev rmX10_isName : Room := { frames := 1, cells := 0, slots := 0, locals := 22 }
set_option maxHeartbeats 4000000 in
set_option maxRecDepth 100000 in
theorem qX10_isName (l : Launch) (X : XT)    (x0 : Int32) (o : Int32) (hf : mX10_isName x0 = some o) :
    MI l yX10_isName wsX10_isName rmX10_isName X [.int x0] []  [] o := by
  refine MI_ofH (cc := cX10_isName) (maxL := 1) (rt := .boolean) (by decide) rfl (Nat.le_of_ble_eq_true rfl) ?_
  intro p e s m below meth c A Q H ls hx hb hml hts hown hA hD hG hP hS hl ret
  have hown : s.vm.findClass RX10 = some m.cls := hown
  have hD : aD A [] := hD
  have hl : lv_has ls 1 [(0, .int x0)] := hl
  unfold mX10_isName at hf
  refine lv_iload_n hx hb dX10_isName_0 rfl (lv_at hl 0 rfl) ?_
  refine lv_iconst (v := (0 : Int32)) hx hb dX10_isName_1 (by decide) ?_
  refine lv_iconst (v := (5 : Int32)) hx hb dX10_isName_2 (by decide) ?_
  obtain ⟨o_1, ho_1, hf⟩ := ob_s hf
  refine xS_i (As := [.int x0, .int (0 : Int32), .int (5 : Int32)]) (rest := []) (ws2 := []) hx hb hml hts hown hG hA hP hD rfl hS hl.1 (qX10_within l X x0 (0 : Int32) (5 : Int32) o_1 ho_1) (va_cwS (y := yX10_within) 3 hts gX10_isName_X10_within rfl rfl rfl hdsX10_within ⟨Nat.le_of_ble_eq_true rfl, Nat.le_of_ble_eq_true rfl⟩) [] [] [] rfl rfl rfl rfl rfl rfl rfl rfl rfl (Nat.le_of_ble_eq_true rfl) ⟨Nat.le_of_ble_eq_true rfl, Nat.le_of_ble_eq_true rfl⟩ dX10_isName_3 (fun H locs hP _ hS => ?_)
  obtain ⟨h_3, hf⟩ := gz_s hf
  obtain rfl := Option.some.inj hf
  exact ret H _ ls _ h_3 hP hD hS dX10_isName_6
def mX10_tell (x0 : Int32) (x1 : Int32) (x2 : Int32) (f_notes_margins : Nat → Int32) :
  Option (Int32 × (Nat → Int32)) :=
  (mX10_isName x0).bind fun o_1 =>
  if o_1 = 0 then (some ((-22 : Int32), f_notes_margins)) else ((mX10_within x1 (0 : Int32) (23 : Int32)).bind fun o_4 =>
  if o_4 = 0 then (some ((-22 : Int32), f_notes_margins)) else ((mX10_within x2 (-21 : Int32) (20 : Int32)).bind fun o_7 =>
  if o_7 = 0 then (some ((-22 : Int32), f_notes_margins)) else ((mX5_toldOf x0 x1 f_notes_margins).bind fun o_10 =>
  (mX5_setTold x0 x1 x2 f_notes_margins).bind fun o_12 =>
  some (o_10, o_12))))
theorem hdsX10_tell : yX10_tell.cls ≠ "java/lang/invoke/MethodHandle" ∧ yX10_tell.cls ≠ "java/lang/invoke/VarHandle" ∧ (parseMethodDescriptor yX10_tell.desc).map (fun d => d.parameters.length) = some 3 := by decide +kernel
theorem hdvX10_tell : yX10_tell.cls = RX10 ∧ yX10_tell.cls ≠ "java/lang/invoke/MethodHandle" ∧ yX10_tell.cls ≠ "java/lang/invoke/VarHandle" ∧ (parseMethodDescriptor yX10_tell.desc).map (fun d => d.parameters.length) = some 3 := by decide +kernel
abbrev rmX10_tell : Room := { frames := 2, cells := 0, slots := 0, locals := 42 }
set_option maxHeartbeats 4000000 in
set_option maxRecDepth 100000 in
theorem qX10_tell (l : Launch) (X : XT) (a_this : Nat) (a_notes : Nat) (a_notes_margins : Nat) (a_text : Nat) (a_reader : Nat) (a_draft : Nat) (a_laid : Nat) (a_cards : Nat) (a_flips : Nat) (a_bench : Nat) (a_presses : Nat) (a_told : Nat) (a_game : Nat) (a_kept : Nat) (a_notes_delays : Nat) (a_notes_odds : Nat)  (i_keptCount : Int32) (f_notes_margins : Nat → Int32) (x0 : Int32) (x1 : Int32) (x2 : Int32) (o : Int32 × (Nat → Int32)) (hf : mX10_tell x0 x1 x2 f_notes_margins = some o) :
    MI l yX10_tell wsX10_tell rmX10_tell X [.ref a_this, .int x0, .int x1, .int x2] [(a_this, .inr (10, [.ref a_text, .ref a_reader, .ref a_draft, .ref a_laid, .ref a_cards, .ref a_flips, .ref a_bench, .ref a_notes, .ref a_presses, .ref a_told, .ref a_game, .ref a_kept, .int i_keptCount])), (a_notes, .inr (5, [.ref a_notes_delays, .ref a_notes_margins, .ref a_notes_odds])), (a_notes_margins, .inl (X.2.1 0, 144, .inl f_notes_margins))]  [(a_this, .inr (10, [.ref a_text, .ref a_reader, .ref a_draft, .ref a_laid, .ref a_cards, .ref a_flips, .ref a_bench, .ref a_notes, .ref a_presses, .ref a_told, .ref a_game, .ref a_kept, .int i_keptCount])), (a_notes, .inr (5, [.ref a_notes_delays, .ref a_notes_margins, .ref a_notes_odds])), (a_notes_margins, .inl (X.2.1 0, 144, .inl o.2))] o.1 := by
  refine MI_ofH (cc := cX10_tell) (maxL := 5) (rt := .int) (by decide) rfl (Nat.le_of_ble_eq_true rfl) ?_
  intro p e s m below meth c A Q H ls hx hb hml hts hown hA hD hG hP hS hl ret
  have hown : s.vm.findClass RX10 = some m.cls := hown
  have hD : aD A [a_this, a_notes, a_notes_margins] := hD
  have hl : lv_has ls 5 [(0, .ref a_this), (1, .int x0), (2, .int x1), (3, .int x2)] := hl
  have w1 := hts (.fieldLink RX10 63 "ThreeCards" "notes" "LThreeCards$Notes;") (List.mem_of_getElem? (i := 1) rfl)
  have in10 : ∀ w ∈ u_ws RX10 TX10 13, w ∈ wsX10_tell := by decide +kernel
  unfold mX10_tell at hf
  refine lv_iload_n hx hb dX10_tell_0 rfl (lv_at hl 1 rfl) ?_
  obtain ⟨o_1, ho_1, hf⟩ := ob_s hf
  refine xS_i (As := [.int x0]) (rest := []) (ws2 := [(a_this, .inr (10, [.ref a_text, .ref a_reader, .ref a_draft, .ref a_laid, .ref a_cards, .ref a_flips, .ref a_bench, .ref a_notes, .ref a_presses, .ref a_told, .ref a_game, .ref a_kept, .int i_keptCount])), (a_notes, .inr (5, [.ref a_notes_delays, .ref a_notes_margins, .ref a_notes_odds])), (a_notes_margins, .inl (X.2.1 0, 144, .inl f_notes_margins))]) hx hb hml hts hown hG hA hP hD rfl hS hl.1 (qX10_isName l X x0 o_1 ho_1) (va_cwS (y := yX10_isName) 1 hts gX10_tell_X10_isName rfl rfl rfl hdsX10_isName ⟨Nat.le_of_ble_eq_true rfl, Nat.le_of_ble_eq_true rfl⟩) [] [0, 1, 2] [0, 1, 2] rfl rfl rfl rfl rfl rfl rfl rfl rfl (Nat.le_of_ble_eq_true rfl) ⟨Nat.le_of_ble_eq_true rfl, Nat.le_of_ble_eq_true rfl⟩ dX10_tell_1 (fun H locs hP _ hS => ?_)
  refine lv_if_eq (tgt := 28) hx hb dX10_tell_4 (by decide) (fun c_3 => ?_) (fun c_3 => ?_)
  · have hf := xt hf c_3
    refine lv_bipush (v := (-22 : Int32)) hx hb dX10_tell_28 (by decide) ?_
    obtain rfl := Option.some.inj hf
    exact ret H _ ls _ rfl hP hD hS dX10_tell_30
  · have hf := xf hf c_3
    refine lv_iload_n hx hb dX10_tell_7 rfl (lv_at hl 2 rfl) ?_
    refine lv_iconst (v := (0 : Int32)) hx hb dX10_tell_8 (by decide) ?_
    refine lv_bipush (v := (23 : Int32)) hx hb dX10_tell_9 (by decide) ?_
    obtain ⟨o_4, ho_4, hf⟩ := ob_s hf
    refine xS_i (As := [.int x1, .int (0 : Int32), .int (23 : Int32)]) (rest := []) (ws2 := [(a_this, .inr (10, [.ref a_text, .ref a_reader, .ref a_draft, .ref a_laid, .ref a_cards, .ref a_flips, .ref a_bench, .ref a_notes, .ref a_presses, .ref a_told, .ref a_game, .ref a_kept, .int i_keptCount])), (a_notes, .inr (5, [.ref a_notes_delays, .ref a_notes_margins, .ref a_notes_odds])), (a_notes_margins, .inl (X.2.1 0, 144, .inl f_notes_margins))]) hx hb hml hts hown hG hA hP hD rfl hS hl.1 (qX10_within l X x1 (0 : Int32) (23 : Int32) o_4 ho_4) (va_cwS (y := yX10_within) 3 hts gX10_tell_X10_within rfl rfl rfl hdsX10_within ⟨Nat.le_of_ble_eq_true rfl, Nat.le_of_ble_eq_true rfl⟩) [] [0, 1, 2] [0, 1, 2] rfl rfl rfl rfl rfl rfl rfl rfl rfl (Nat.le_of_ble_eq_true rfl) ⟨Nat.le_of_ble_eq_true rfl, Nat.le_of_ble_eq_true rfl⟩ dX10_tell_11 (fun H locs hP _ hS => ?_)
    refine lv_if_eq (tgt := 28) hx hb dX10_tell_14 (by decide) (fun c_6 => ?_) (fun c_6 => ?_)
    · have hf := xt hf c_6
      refine lv_bipush (v := (-22 : Int32)) hx hb dX10_tell_28 (by decide) ?_
      obtain rfl := Option.some.inj hf
      exact ret H _ ls _ rfl hP hD hS dX10_tell_30
    · have hf := xf hf c_6
      refine lv_iload_n hx hb dX10_tell_17 rfl (lv_at hl 3 rfl) ?_
      refine lv_bipush (v := (-21 : Int32)) hx hb dX10_tell_18 (by decide) ?_
      refine lv_bipush (v := (20 : Int32)) hx hb dX10_tell_20 (by decide) ?_
      obtain ⟨o_7, ho_7, hf⟩ := ob_s hf
      refine xS_i (As := [.int x2, .int (-21 : Int32), .int (20 : Int32)]) (rest := []) (ws2 := [(a_this, .inr (10, [.ref a_text, .ref a_reader, .ref a_draft, .ref a_laid, .ref a_cards, .ref a_flips, .ref a_bench, .ref a_notes, .ref a_presses, .ref a_told, .ref a_game, .ref a_kept, .int i_keptCount])), (a_notes, .inr (5, [.ref a_notes_delays, .ref a_notes_margins, .ref a_notes_odds])), (a_notes_margins, .inl (X.2.1 0, 144, .inl f_notes_margins))]) hx hb hml hts hown hG hA hP hD rfl hS hl.1 (qX10_within l X x2 (-21 : Int32) (20 : Int32) o_7 ho_7) (va_cwS (y := yX10_within) 3 hts gX10_tell_X10_within rfl rfl rfl hdsX10_within ⟨Nat.le_of_ble_eq_true rfl, Nat.le_of_ble_eq_true rfl⟩) [] [0, 1, 2] [0, 1, 2] rfl rfl rfl rfl rfl rfl rfl rfl rfl (Nat.le_of_ble_eq_true rfl) ⟨Nat.le_of_ble_eq_true rfl, Nat.le_of_ble_eq_true rfl⟩ dX10_tell_22 (fun H locs hP _ hS => ?_)
      refine lv_if_ne (tgt := 31) hx hb dX10_tell_25 (by decide) (fun c_9 => ?_) (fun c_9 => ?_)
      · have hf := xf hf c_9
        refine lv_aload_n hx hb dX10_tell_31 rfl (lv_at hl 0 rfl) ?_
        refine va_get (D := X.1) (ci := 10) (v := .ref a_notes) (C := RX10) (T := TX10) (N := 13) hx hb hts in10 hown hG.1 hP 0 rfl rfl 7 (by decide) w1 (fun _ h9 => h9) rfl dX10_tell_32 ?_
        refine lv_iload_n hx hb dX10_tell_35 rfl (lv_at hl 1 rfl) ?_
        refine lv_iload_n hx hb dX10_tell_36 rfl (lv_at hl 2 rfl) ?_
        obtain ⟨o_10, ho_10, hf⟩ := ob_s hf
        refine xV_i (As := [.int x0, .int x1]) (b := a_notes) (rest := []) (ws2 := [(a_this, .inr (10, [.ref a_text, .ref a_reader, .ref a_draft, .ref a_laid, .ref a_cards, .ref a_flips, .ref a_bench, .ref a_notes, .ref a_presses, .ref a_told, .ref a_game, .ref a_kept, .int i_keptCount])), (a_notes, .inr (5, [.ref a_notes_delays, .ref a_notes_margins, .ref a_notes_odds])), (a_notes_margins, .inl (X.2.1 0, 144, .inl f_notes_margins))]) hx hb hml hts hown hG hA hP hD rfl hS hl.1 (qX5_toldOf l X a_notes a_notes_margins a_notes_delays a_notes_odds f_notes_margins x0 x1 o_10 ho_10) (cwV (y := yX5_toldOf) 2 hts gX10_tell_X5_toldOf rfl rfl rfl hdvX5_toldOf ⟨Nat.le_of_ble_eq_true rfl, Nat.le_of_ble_eq_true rfl⟩) [1, 2] [0] [0, 1, 2] rfl rfl rfl rfl rfl rfl rfl (ci := 5) rfl 1 rfl rfl rfl (Nat.le_of_ble_eq_true rfl) ⟨Nat.le_of_ble_eq_true rfl, Nat.le_of_ble_eq_true rfl⟩ dX10_tell_37 (fun H locs hP _ hS => ?_)
        refine lv_istore (lv' := [(4, .int o_10), (0, .ref a_this), (1, .int x0), (2, .int x1), (3, .int x2)]) hx hb dX10_tell_40 hl (by decide) rfl (fun ls hl => ?_)
        refine lv_aload_n hx hb dX10_tell_42 rfl (lv_at hl 1 rfl) ?_
        refine va_get (D := X.1) (ci := 10) (v := .ref a_notes) (C := RX10) (T := TX10) (N := 13) hx hb hts in10 hown hG.1 hP 0 rfl rfl 7 (by decide) w1 (fun _ h9 => h9) rfl dX10_tell_43 ?_
        refine lv_iload_n hx hb dX10_tell_46 rfl (lv_at hl 2 rfl) ?_
        refine lv_iload_n hx hb dX10_tell_47 rfl (lv_at hl 3 rfl) ?_
        refine lv_iload_n hx hb dX10_tell_48 rfl (lv_at hl 4 rfl) ?_
        obtain ⟨o_12, ho_12, hf⟩ := ob_s hf
        refine xV_v (As := [.int x0, .int x1, .int x2]) (b := a_notes) (rest := []) (ws2 := fun _ => [(a_this, .inr (10, [.ref a_text, .ref a_reader, .ref a_draft, .ref a_laid, .ref a_cards, .ref a_flips, .ref a_bench, .ref a_notes, .ref a_presses, .ref a_told, .ref a_game, .ref a_kept, .int i_keptCount])), (a_notes, .inr (5, [.ref a_notes_delays, .ref a_notes_margins, .ref a_notes_odds])), (a_notes_margins, .inl (X.2.1 0, 144, .inl o_12))]) hx hb hml hts hown hG hA hP hD rfl hS hl.1 (qX5_setTold l X a_notes a_notes_margins a_notes_delays a_notes_odds f_notes_margins x0 x1 x2 o_12 ho_12) (cwV (y := yX5_setTold) 3 hts gX10_tell_X5_setTold rfl rfl rfl hdvX5_setTold ⟨Nat.le_of_ble_eq_true rfl, Nat.le_of_ble_eq_true rfl⟩) [1, 2] [0] [0, 1, 2] rfl rfl rfl rfl rfl rfl (fun _ => rfl) (ci := 5) rfl 1 rfl rfl rfl (Nat.le_of_ble_eq_true rfl) ⟨Nat.le_of_ble_eq_true rfl, Nat.le_of_ble_eq_true rfl⟩ dX10_tell_49 (fun u_13 H locs hP _ hS => ?_)
        refine lv_iload hx hb dX10_tell_52 (lv_at hl 0 rfl) ?_
        obtain rfl := Option.some.inj hf
        exact ret H _ ls _ rfl hP hD hS dX10_tell_54
      · have hf := xt hf c_9
        refine lv_bipush (v := (-22 : Int32)) hx hb dX10_tell_28 (by decide) ?_
        obtain rfl := Option.some.inj hf
        exact ret H _ ls _ rfl hP hD hS dX10_tell_30
def mX10_same (x0 : Int32) (x1 : Int32) (x2 : Int32) (f_notes_margins : Nat → Int32) (f_told_ofOne : Nat → Int32) (f_told_ofOther : Nat → Int32) :
  Option (Int32 × (Nat → Int32) × (Nat → Int32)) :=
  (mX10_isName x0).bind fun o_1 =>
  if o_1 = 0 then (some ((-1 : Int32), f_told_ofOne, f_told_ofOther)) else ((mX10_isName x1).bind fun o_4 =>
  if o_4 = 0 then (some ((-1 : Int32), f_told_ofOne, f_told_ofOther)) else (if x0 = x1 then (some ((-1 : Int32), f_told_ofOne, f_told_ofOther)) else ((mX10_within x2 (0 : Int32) (2 : Int32)).bind fun o_8 =>
  if o_8 = 0 then (some ((-1 : Int32), f_told_ofOne, f_told_ofOther)) else ((mX9_alike x0 x1 x2 f_told_ofOne f_told_ofOther f_notes_margins).bind fun o_11 =>
  some (o_11.1, o_11.2.1, o_11.2.2)))))
theorem hdsX10_same : yX10_same.cls ≠ "java/lang/invoke/MethodHandle" ∧ yX10_same.cls ≠ "java/lang/invoke/VarHandle" ∧ (parseMethodDescriptor yX10_same.desc).map (fun d => d.parameters.length) = some 3 := by decide +kernel
theorem hdvX10_same : yX10_same.cls = RX10 ∧ yX10_same.cls ≠ "java/lang/invoke/MethodHandle" ∧ yX10_same.cls ≠ "java/lang/invoke/VarHandle" ∧ (parseMethodDescriptor yX10_same.desc).map (fun d => d.parameters.length) = some 3 := by decide +kernel
abbrev rmX10_same : Room := { frames := 3, cells := 0, slots := 0, locals := 72 }
set_option maxHeartbeats 4000000 in
set_option maxRecDepth 100000 in
theorem qX10_same (l : Launch) (X : XT) (a_this : Nat) (a_notes : Nat) (a_told : Nat) (a_notes_margins : Nat) (a_told_ofOne : Nat) (a_told_ofOther : Nat) (a_text : Nat) (a_reader : Nat) (a_draft : Nat) (a_laid : Nat) (a_cards : Nat) (a_flips : Nat) (a_bench : Nat) (a_presses : Nat) (a_game : Nat) (a_kept : Nat) (a_notes_delays : Nat) (a_notes_odds : Nat) (a_told_row : Nat)  (i_keptCount : Int32) (i_told_rowCount : Int32) (f_notes_margins : Nat → Int32) (f_told_ofOne : Nat → Int32) (f_told_ofOther : Nat → Int32) (x0 : Int32) (x1 : Int32) (x2 : Int32) (o : Int32 × (Nat → Int32) × (Nat → Int32)) (hf : mX10_same x0 x1 x2 f_notes_margins f_told_ofOne f_told_ofOther = some o) :
    MI l yX10_same wsX10_same rmX10_same X [.ref a_this, .int x0, .int x1, .int x2] [(a_this, .inr (10, [.ref a_text, .ref a_reader, .ref a_draft, .ref a_laid, .ref a_cards, .ref a_flips, .ref a_bench, .ref a_notes, .ref a_presses, .ref a_told, .ref a_game, .ref a_kept, .int i_keptCount])), (a_notes, .inr (5, [.ref a_notes_delays, .ref a_notes_margins, .ref a_notes_odds])), (a_told, .inr (9, [.ref a_notes, .ref a_told_ofOne, .ref a_told_ofOther, .ref a_told_row, .int i_told_rowCount])), (a_notes_margins, .inl (X.2.1 0, 144, .inl f_notes_margins)), (a_told_ofOne, .inl (X.2.1 0, 3, .inl f_told_ofOne)), (a_told_ofOther, .inl (X.2.1 0, 3, .inl f_told_ofOther))]  [(a_this, .inr (10, [.ref a_text, .ref a_reader, .ref a_draft, .ref a_laid, .ref a_cards, .ref a_flips, .ref a_bench, .ref a_notes, .ref a_presses, .ref a_told, .ref a_game, .ref a_kept, .int i_keptCount])), (a_notes, .inr (5, [.ref a_notes_delays, .ref a_notes_margins, .ref a_notes_odds])), (a_told, .inr (9, [.ref a_notes, .ref a_told_ofOne, .ref a_told_ofOther, .ref a_told_row, .int i_told_rowCount])), (a_notes_margins, .inl (X.2.1 0, 144, .inl f_notes_margins)), (a_told_ofOne, .inl (X.2.1 0, 3, .inl o.2.1)), (a_told_ofOther, .inl (X.2.1 0, 3, .inl o.2.2))] o.1 := by
  refine MI_ofH (cc := cX10_same) (maxL := 4) (rt := .int) (by decide) rfl (Nat.le_of_ble_eq_true rfl) ?_
  intro p e s m below meth c A Q H ls hx hb hml hts hown hA hD hG hP hS hl ret
  have hown : s.vm.findClass RX10 = some m.cls := hown
  have hD : aD A [a_this, a_notes, a_told, a_notes_margins, a_told_ofOne, a_told_ofOther] := hD
  have hl : lv_has ls 4 [(0, .ref a_this), (1, .int x0), (2, .int x1), (3, .int x2)] := hl
  have w1 := hts (Cond.fieldLink RX10 81 "ThreeCards" "told" "LThreeCards$Told;") (List.mem_of_getElem? (i := 1) rfl)
  have in10 : ∀ w ∈ u_ws RX10 TX10 13, w ∈ wsX10_same := by decide +kernel
  unfold mX10_same at hf
  refine lv_iload_n hx hb dX10_same_0 rfl (lv_at hl 1 rfl) ?_
  obtain ⟨o_1, ho_1, hf⟩ := ob_s hf
  refine xS_i (As := [.int x0]) (rest := []) (ws2 := [(a_this, .inr (10, [.ref a_text, .ref a_reader, .ref a_draft, .ref a_laid, .ref a_cards, .ref a_flips, .ref a_bench, .ref a_notes, .ref a_presses, .ref a_told, .ref a_game, .ref a_kept, .int i_keptCount])), (a_notes, .inr (5, [.ref a_notes_delays, .ref a_notes_margins, .ref a_notes_odds])), (a_told, .inr (9, [.ref a_notes, .ref a_told_ofOne, .ref a_told_ofOther, .ref a_told_row, .int i_told_rowCount])), (a_notes_margins, .inl (X.2.1 0, 144, .inl f_notes_margins)), (a_told_ofOne, .inl (X.2.1 0, 3, .inl f_told_ofOne)), (a_told_ofOther, .inl (X.2.1 0, 3, .inl f_told_ofOther))]) hx hb hml hts hown hG hA hP hD rfl hS hl.1 (qX10_isName l X x0 o_1 ho_1) (va_cwS (y := yX10_isName) 1 hts gX10_same_X10_isName rfl rfl rfl hdsX10_isName ⟨Nat.le_of_ble_eq_true rfl, Nat.le_of_ble_eq_true rfl⟩) [] [0, 1, 2, 3, 4, 5] [0, 1, 2, 3, 4, 5] rfl rfl rfl rfl rfl rfl rfl rfl rfl (Nat.le_of_ble_eq_true rfl) ⟨Nat.le_of_ble_eq_true rfl, Nat.le_of_ble_eq_true rfl⟩ dX10_same_1 (fun H locs hP _ hS => ?_)
  refine lv_if_eq (tgt := 28) hx hb dX10_same_4 (by decide) (fun c_3 => ?_) (fun c_3 => ?_)
  · have hf := xt hf c_3
    refine lv_iconst (v := (-1 : Int32)) hx hb dX10_same_28 (by decide) ?_
    obtain rfl := Option.some.inj hf
    exact ret H _ ls _ rfl hP hD hS dX10_same_29
  · have hf := xf hf c_3
    refine lv_iload_n hx hb dX10_same_7 rfl (lv_at hl 2 rfl) ?_
    obtain ⟨o_4, ho_4, hf⟩ := ob_s hf
    refine xS_i (As := [.int x1]) (rest := []) (ws2 := [(a_this, .inr (10, [.ref a_text, .ref a_reader, .ref a_draft, .ref a_laid, .ref a_cards, .ref a_flips, .ref a_bench, .ref a_notes, .ref a_presses, .ref a_told, .ref a_game, .ref a_kept, .int i_keptCount])), (a_notes, .inr (5, [.ref a_notes_delays, .ref a_notes_margins, .ref a_notes_odds])), (a_told, .inr (9, [.ref a_notes, .ref a_told_ofOne, .ref a_told_ofOther, .ref a_told_row, .int i_told_rowCount])), (a_notes_margins, .inl (X.2.1 0, 144, .inl f_notes_margins)), (a_told_ofOne, .inl (X.2.1 0, 3, .inl f_told_ofOne)), (a_told_ofOther, .inl (X.2.1 0, 3, .inl f_told_ofOther))]) hx hb hml hts hown hG hA hP hD rfl hS hl.1 (qX10_isName l X x1 o_4 ho_4) (va_cwS (y := yX10_isName) 1 hts gX10_same_X10_isName rfl rfl rfl hdsX10_isName ⟨Nat.le_of_ble_eq_true rfl, Nat.le_of_ble_eq_true rfl⟩) [] [0, 1, 2, 3, 4, 5] [0, 1, 2, 3, 4, 5] rfl rfl rfl rfl rfl rfl rfl rfl rfl (Nat.le_of_ble_eq_true rfl) ⟨Nat.le_of_ble_eq_true rfl, Nat.le_of_ble_eq_true rfl⟩ dX10_same_8 (fun H locs hP _ hS => ?_)
    refine lv_if_eq (tgt := 28) hx hb dX10_same_11 (by decide) (fun c_6 => ?_) (fun c_6 => ?_)
    · have hf := xt hf c_6
      refine lv_iconst (v := (-1 : Int32)) hx hb dX10_same_28 (by decide) ?_
      obtain rfl := Option.some.inj hf
      exact ret H _ ls _ rfl hP hD hS dX10_same_29
    · have hf := xf hf c_6
      refine lv_iload_n hx hb dX10_same_14 rfl (lv_at hl 1 rfl) ?_
      refine lv_iload_n hx hb dX10_same_15 rfl (lv_at hl 2 rfl) ?_
      refine lv_icmp_eq (tgt := 28) hx hb dX10_same_16 (by decide) (fun c_7 => ?_) (fun c_7 => ?_)
      · have hf := xt hf c_7
        refine lv_iconst (v := (-1 : Int32)) hx hb dX10_same_28 (by decide) ?_
        obtain rfl := Option.some.inj hf
        exact ret H _ ls _ rfl hP hD hS dX10_same_29
      · have hf := xf hf c_7
        refine lv_iload_n hx hb dX10_same_19 rfl (lv_at hl 3 rfl) ?_
        refine lv_iconst (v := (0 : Int32)) hx hb dX10_same_20 (by decide) ?_
        refine lv_iconst (v := (2 : Int32)) hx hb dX10_same_21 (by decide) ?_
        obtain ⟨o_8, ho_8, hf⟩ := ob_s hf
        refine xS_i (As := [.int x2, .int (0 : Int32), .int (2 : Int32)]) (rest := []) (ws2 := [(a_this, .inr (10, [.ref a_text, .ref a_reader, .ref a_draft, .ref a_laid, .ref a_cards, .ref a_flips, .ref a_bench, .ref a_notes, .ref a_presses, .ref a_told, .ref a_game, .ref a_kept, .int i_keptCount])), (a_notes, .inr (5, [.ref a_notes_delays, .ref a_notes_margins, .ref a_notes_odds])), (a_told, .inr (9, [.ref a_notes, .ref a_told_ofOne, .ref a_told_ofOther, .ref a_told_row, .int i_told_rowCount])), (a_notes_margins, .inl (X.2.1 0, 144, .inl f_notes_margins)), (a_told_ofOne, .inl (X.2.1 0, 3, .inl f_told_ofOne)), (a_told_ofOther, .inl (X.2.1 0, 3, .inl f_told_ofOther))]) hx hb hml hts hown hG hA hP hD rfl hS hl.1 (qX10_within l X x2 (0 : Int32) (2 : Int32) o_8 ho_8) (va_cwS (y := yX10_within) 3 hts gX10_same_X10_within rfl rfl rfl hdsX10_within ⟨Nat.le_of_ble_eq_true rfl, Nat.le_of_ble_eq_true rfl⟩) [] [0, 1, 2, 3, 4, 5] [0, 1, 2, 3, 4, 5] rfl rfl rfl rfl rfl rfl rfl rfl rfl (Nat.le_of_ble_eq_true rfl) ⟨Nat.le_of_ble_eq_true rfl, Nat.le_of_ble_eq_true rfl⟩ dX10_same_22 (fun H locs hP _ hS => ?_)
        refine lv_if_ne (tgt := 30) hx hb dX10_same_25 (by decide) (fun c_10 => ?_) (fun c_10 => ?_)
        · have hf := xf hf c_10
          refine lv_aload_n hx hb dX10_same_30 rfl (lv_at hl 0 rfl) ?_
          refine va_get (D := X.1) (ci := 10) (v := .ref a_told) (C := RX10) (T := TX10) (N := 13) hx hb hts in10 hown hG.1 hP 0 rfl rfl 9 (by decide) w1 (fun _ h9 => h9) rfl dX10_same_31 ?_
          refine lv_iload_n hx hb dX10_same_34 rfl (lv_at hl 1 rfl) ?_
          refine lv_iload_n hx hb dX10_same_35 rfl (lv_at hl 2 rfl) ?_
          refine lv_iload_n hx hb dX10_same_36 rfl (lv_at hl 3 rfl) ?_
          obtain ⟨o_11, ho_11, hf⟩ := ob_s hf
          refine xV_i (As := [.int x0, .int x1, .int x2]) (b := a_told) (rest := []) (ws2 := [(a_this, .inr (10, [.ref a_text, .ref a_reader, .ref a_draft, .ref a_laid, .ref a_cards, .ref a_flips, .ref a_bench, .ref a_notes, .ref a_presses, .ref a_told, .ref a_game, .ref a_kept, .int i_keptCount])), (a_notes, .inr (5, [.ref a_notes_delays, .ref a_notes_margins, .ref a_notes_odds])), (a_told, .inr (9, [.ref a_notes, .ref a_told_ofOne, .ref a_told_ofOther, .ref a_told_row, .int i_told_rowCount])), (a_notes_margins, .inl (X.2.1 0, 144, .inl f_notes_margins)), (a_told_ofOne, .inl (X.2.1 0, 3, .inl o_11.2.1)), (a_told_ofOther, .inl (X.2.1 0, 3, .inl o_11.2.2))]) hx hb hml hts hown hG hA hP hD rfl hS hl.1 (qX9_alike l X a_told a_notes a_told_ofOne a_told_ofOther a_notes_margins a_told_row a_notes_delays a_notes_odds i_told_rowCount f_told_ofOne f_told_ofOther f_notes_margins x0 x1 x2 o_11 ho_11) (cwV (y := yX9_alike) 3 hts gX10_same_X9_alike rfl rfl rfl hdvX9_alike ⟨Nat.le_of_ble_eq_true rfl, Nat.le_of_ble_eq_true rfl⟩) [2, 1, 4, 5, 3] [0] [0, 2, 1, 5, 3, 4] rfl rfl rfl rfl rfl rfl rfl (ci := 9) rfl 2 rfl rfl rfl (Nat.le_of_ble_eq_true rfl) ⟨Nat.le_of_ble_eq_true rfl, Nat.le_of_ble_eq_true rfl⟩ dX10_same_37 (fun H locs hP _ hS => ?_)
          obtain rfl := Option.some.inj hf
          exact ret H _ ls _ rfl hP hD hS dX10_same_40
        · have hf := xt hf c_10
          refine lv_iconst (v := (-1 : Int32)) hx hb dX10_same_28 (by decide) ?_
          obtain rfl := Option.some.inj hf
          exact ret H _ ls _ rfl hP hD hS dX10_same_29
def mX10_lean (x0 : Int32) (x1 : Int32) (i_told_rowCount : Int32) (f_notes_margins : Nat → Int32) (f_told_row : Nat → Int32) :
  Option (Int32 × Int32 × (Nat → Int32)) :=
  (mX10_isName x0).bind fun o_1 =>
  if o_1 = 0 then (some ((-100001 : Int32), i_told_rowCount, f_told_row)) else ((mX10_within x1 (0 : Int32) (1 : Int32)).bind fun o_4 =>
  if o_4 = 0 then (some ((-100001 : Int32), i_told_rowCount, f_told_row)) else ((mX9_leaning x0 x1 i_told_rowCount f_told_row f_notes_margins).bind fun o_7 =>
  some (o_7.1, o_7.2.1, o_7.2.2)))
theorem hdsX10_lean : yX10_lean.cls ≠ "java/lang/invoke/MethodHandle" ∧ yX10_lean.cls ≠ "java/lang/invoke/VarHandle" ∧ (parseMethodDescriptor yX10_lean.desc).map (fun d => d.parameters.length) = some 2 := by decide +kernel
theorem hdvX10_lean : yX10_lean.cls = RX10 ∧ yX10_lean.cls ≠ "java/lang/invoke/MethodHandle" ∧ yX10_lean.cls ≠ "java/lang/invoke/VarHandle" ∧ (parseMethodDescriptor yX10_lean.desc).map (fun d => d.parameters.length) = some 2 := by decide +kernel
abbrev rmX10_lean : Room := { frames := 4, cells := 0, slots := 0, locals := 92 }
set_option maxHeartbeats 4000000 in
set_option maxRecDepth 100000 in
theorem qX10_lean (l : Launch) (X : XT) (a_this : Nat) (a_notes : Nat) (a_told : Nat) (a_notes_margins : Nat) (a_told_row : Nat) (a_text : Nat) (a_reader : Nat) (a_draft : Nat) (a_laid : Nat) (a_cards : Nat) (a_flips : Nat) (a_bench : Nat) (a_presses : Nat) (a_game : Nat) (a_kept : Nat) (a_notes_delays : Nat) (a_notes_odds : Nat) (a_told_ofOne : Nat) (a_told_ofOther : Nat)  (i_keptCount : Int32) (i_told_rowCount : Int32) (f_notes_margins : Nat → Int32) (f_told_row : Nat → Int32) (x0 : Int32) (x1 : Int32) (o : Int32 × Int32 × (Nat → Int32)) (hf : mX10_lean x0 x1 i_told_rowCount f_notes_margins f_told_row = some o) :
    MI l yX10_lean wsX10_lean rmX10_lean X [.ref a_this, .int x0, .int x1] [(a_this, .inr (10, [.ref a_text, .ref a_reader, .ref a_draft, .ref a_laid, .ref a_cards, .ref a_flips, .ref a_bench, .ref a_notes, .ref a_presses, .ref a_told, .ref a_game, .ref a_kept, .int i_keptCount])), (a_notes, .inr (5, [.ref a_notes_delays, .ref a_notes_margins, .ref a_notes_odds])), (a_told, .inr (9, [.ref a_notes, .ref a_told_ofOne, .ref a_told_ofOther, .ref a_told_row, .int i_told_rowCount])), (a_notes_margins, .inl (X.2.1 0, 144, .inl f_notes_margins)), (a_told_row, .inl (X.2.1 0, 6, .inl f_told_row))]  [(a_this, .inr (10, [.ref a_text, .ref a_reader, .ref a_draft, .ref a_laid, .ref a_cards, .ref a_flips, .ref a_bench, .ref a_notes, .ref a_presses, .ref a_told, .ref a_game, .ref a_kept, .int i_keptCount])), (a_notes, .inr (5, [.ref a_notes_delays, .ref a_notes_margins, .ref a_notes_odds])), (a_told, .inr (9, [.ref a_notes, .ref a_told_ofOne, .ref a_told_ofOther, .ref a_told_row, .int o.2.1])), (a_notes_margins, .inl (X.2.1 0, 144, .inl f_notes_margins)), (a_told_row, .inl (X.2.1 0, 6, .inl o.2.2))] o.1 := by
  refine MI_ofH (cc := cX10_lean) (maxL := 3) (rt := .int) (by decide) rfl (Nat.le_of_ble_eq_true rfl) ?_
  intro p e s m below meth c A Q H ls hx hb hml hts hown hA hD hG hP hS hl ret
  have hown : s.vm.findClass RX10 = some m.cls := hown
  have hD : aD A [a_this, a_notes, a_told, a_notes_margins, a_told_row] := hD
  have hl : lv_has ls 3 [(0, .ref a_this), (1, .int x0), (2, .int x1)] := hl
  have w1 := hts (Cond.fieldLink RX10 81 "ThreeCards" "told" "LThreeCards$Told;") (List.mem_of_getElem? (i := 1) rfl)
  have w2 := hts (Cond.constant RX10 157 (-100001)) (List.mem_of_getElem? (i := 2) rfl)
  have in10 : ∀ w ∈ u_ws RX10 TX10 13, w ∈ wsX10_lean := by decide +kernel
  unfold mX10_lean at hf
  refine lv_iload_n hx hb dX10_lean_0 rfl (lv_at hl 1 rfl) ?_
  obtain ⟨o_1, ho_1, hf⟩ := ob_s hf
  refine xS_i (As := [.int x0]) (rest := []) (ws2 := [(a_this, .inr (10, [.ref a_text, .ref a_reader, .ref a_draft, .ref a_laid, .ref a_cards, .ref a_flips, .ref a_bench, .ref a_notes, .ref a_presses, .ref a_told, .ref a_game, .ref a_kept, .int i_keptCount])), (a_notes, .inr (5, [.ref a_notes_delays, .ref a_notes_margins, .ref a_notes_odds])), (a_told, .inr (9, [.ref a_notes, .ref a_told_ofOne, .ref a_told_ofOther, .ref a_told_row, .int i_told_rowCount])), (a_notes_margins, .inl (X.2.1 0, 144, .inl f_notes_margins)), (a_told_row, .inl (X.2.1 0, 6, .inl f_told_row))]) hx hb hml hts hown hG hA hP hD rfl hS hl.1 (qX10_isName l X x0 o_1 ho_1) (va_cwS (y := yX10_isName) 1 hts gX10_lean_X10_isName rfl rfl rfl hdsX10_isName ⟨Nat.le_of_ble_eq_true rfl, Nat.le_of_ble_eq_true rfl⟩) [] [0, 1, 2, 3, 4] [0, 1, 2, 3, 4] rfl rfl rfl rfl rfl rfl rfl rfl rfl (Nat.le_of_ble_eq_true rfl) ⟨Nat.le_of_ble_eq_true rfl, Nat.le_of_ble_eq_true rfl⟩ dX10_lean_1 (fun H locs hP _ hS => ?_)
  refine lv_if_eq (tgt := 28) hx hb dX10_lean_4 (by decide) (fun c_3 => ?_) (fun c_3 => ?_)
  · have hf := xt hf c_3
    refine lv_ldc (v := (-100001 : Int32)) hx hb hown w2 dX10_lean_28 ?_
    obtain rfl := Option.some.inj hf
    exact ret H _ ls _ rfl hP hD hS dX10_lean_30
  · have hf := xf hf c_3
    refine lv_iload_n hx hb dX10_lean_7 rfl (lv_at hl 2 rfl) ?_
    refine lv_iconst (v := (0 : Int32)) hx hb dX10_lean_8 (by decide) ?_
    refine lv_iconst (v := (1 : Int32)) hx hb dX10_lean_9 (by decide) ?_
    obtain ⟨o_4, ho_4, hf⟩ := ob_s hf
    refine xS_i (As := [.int x1, .int (0 : Int32), .int (1 : Int32)]) (rest := []) (ws2 := [(a_this, .inr (10, [.ref a_text, .ref a_reader, .ref a_draft, .ref a_laid, .ref a_cards, .ref a_flips, .ref a_bench, .ref a_notes, .ref a_presses, .ref a_told, .ref a_game, .ref a_kept, .int i_keptCount])), (a_notes, .inr (5, [.ref a_notes_delays, .ref a_notes_margins, .ref a_notes_odds])), (a_told, .inr (9, [.ref a_notes, .ref a_told_ofOne, .ref a_told_ofOther, .ref a_told_row, .int i_told_rowCount])), (a_notes_margins, .inl (X.2.1 0, 144, .inl f_notes_margins)), (a_told_row, .inl (X.2.1 0, 6, .inl f_told_row))]) hx hb hml hts hown hG hA hP hD rfl hS hl.1 (qX10_within l X x1 (0 : Int32) (1 : Int32) o_4 ho_4) (va_cwS (y := yX10_within) 3 hts gX10_lean_X10_within rfl rfl rfl hdsX10_within ⟨Nat.le_of_ble_eq_true rfl, Nat.le_of_ble_eq_true rfl⟩) [] [0, 1, 2, 3, 4] [0, 1, 2, 3, 4] rfl rfl rfl rfl rfl rfl rfl rfl rfl (Nat.le_of_ble_eq_true rfl) ⟨Nat.le_of_ble_eq_true rfl, Nat.le_of_ble_eq_true rfl⟩ dX10_lean_10 (fun H locs hP _ hS => ?_)
    refine lv_if_eq (tgt := 28) hx hb dX10_lean_13 (by decide) (fun c_6 => ?_) (fun c_6 => ?_)
    · have hf := xt hf c_6
      refine lv_ldc (v := (-100001 : Int32)) hx hb hown w2 dX10_lean_28 ?_
      obtain rfl := Option.some.inj hf
      exact ret H _ ls _ rfl hP hD hS dX10_lean_30
    · have hf := xf hf c_6
      refine lv_aload_n hx hb dX10_lean_16 rfl (lv_at hl 0 rfl) ?_
      refine va_get (D := X.1) (ci := 10) (v := .ref a_told) (C := RX10) (T := TX10) (N := 13) hx hb hts in10 hown hG.1 hP 0 rfl rfl 9 (by decide) w1 (fun _ h9 => h9) rfl dX10_lean_17 ?_
      refine lv_iload_n hx hb dX10_lean_20 rfl (lv_at hl 1 rfl) ?_
      refine lv_iload_n hx hb dX10_lean_21 rfl (lv_at hl 2 rfl) ?_
      obtain ⟨o_7, ho_7, hf⟩ := ob_s hf
      refine xV_i (As := [.int x0, .int x1]) (b := a_told) (rest := []) (ws2 := [(a_this, .inr (10, [.ref a_text, .ref a_reader, .ref a_draft, .ref a_laid, .ref a_cards, .ref a_flips, .ref a_bench, .ref a_notes, .ref a_presses, .ref a_told, .ref a_game, .ref a_kept, .int i_keptCount])), (a_notes, .inr (5, [.ref a_notes_delays, .ref a_notes_margins, .ref a_notes_odds])), (a_told, .inr (9, [.ref a_notes, .ref a_told_ofOne, .ref a_told_ofOther, .ref a_told_row, .int o_7.2.1])), (a_notes_margins, .inl (X.2.1 0, 144, .inl f_notes_margins)), (a_told_row, .inl (X.2.1 0, 6, .inl o_7.2.2))]) hx hb hml hts hown hG hA hP hD rfl hS hl.1 (qX9_leaning l X a_told a_notes a_told_row a_notes_margins a_told_ofOne a_told_ofOther a_notes_delays a_notes_odds i_told_rowCount f_told_row f_notes_margins x0 x1 o_7 ho_7) (cwV (y := yX9_leaning) 2 hts gX10_lean_X9_leaning rfl rfl rfl hdvX9_leaning ⟨Nat.le_of_ble_eq_true rfl, Nat.le_of_ble_eq_true rfl⟩) [2, 1, 4, 3] [0] [0, 2, 1, 4, 3] rfl rfl rfl rfl rfl rfl rfl (ci := 9) rfl 2 rfl rfl rfl (Nat.le_of_ble_eq_true rfl) ⟨Nat.le_of_ble_eq_true rfl, Nat.le_of_ble_eq_true rfl⟩ dX10_lean_22 (fun H locs hP _ hS => ?_)
      refine lv_goto (tgt := 30) hx hb dX10_lean_25 (by decide) ?_
      obtain rfl := Option.some.inj hf
      exact ret H _ ls _ rfl hP hD hS dX10_lean_30
def mX10_unlike (x0 : Int32) (i_told_rowCount : Int32) (f_notes_margins : Nat → Int32) (f_told_row : Nat → Int32) :
  Option (Int32 × Int32 × (Nat → Int32)) :=
  (mX10_isName x0).bind fun o_1 =>
  if o_1 = 0 then (some ((-1 : Int32), i_told_rowCount, f_told_row)) else ((mX9_farthestNight x0 i_told_rowCount f_told_row f_notes_margins).bind fun o_4 =>
  some (o_4.1, o_4.2.1, o_4.2.2))
theorem hdsX10_unlike : yX10_unlike.cls ≠ "java/lang/invoke/MethodHandle" ∧ yX10_unlike.cls ≠ "java/lang/invoke/VarHandle" ∧ (parseMethodDescriptor yX10_unlike.desc).map (fun d => d.parameters.length) = some 1 := by decide +kernel
theorem hdvX10_unlike : yX10_unlike.cls = RX10 ∧ yX10_unlike.cls ≠ "java/lang/invoke/MethodHandle" ∧ yX10_unlike.cls ≠ "java/lang/invoke/VarHandle" ∧ (parseMethodDescriptor yX10_unlike.desc).map (fun d => d.parameters.length) = some 1 := by decide +kernel
abbrev rmX10_unlike : Room := { frames := 4, cells := 0, slots := 0, locals := 92 }
set_option maxHeartbeats 4000000 in
set_option maxRecDepth 100000 in
theorem qX10_unlike (l : Launch) (X : XT) (a_this : Nat) (a_notes : Nat) (a_told : Nat) (a_notes_margins : Nat) (a_told_row : Nat) (a_text : Nat) (a_reader : Nat) (a_draft : Nat) (a_laid : Nat) (a_cards : Nat) (a_flips : Nat) (a_bench : Nat) (a_presses : Nat) (a_game : Nat) (a_kept : Nat) (a_notes_delays : Nat) (a_notes_odds : Nat) (a_told_ofOne : Nat) (a_told_ofOther : Nat)  (i_keptCount : Int32) (i_told_rowCount : Int32) (f_notes_margins : Nat → Int32) (f_told_row : Nat → Int32) (x0 : Int32) (o : Int32 × Int32 × (Nat → Int32)) (hf : mX10_unlike x0 i_told_rowCount f_notes_margins f_told_row = some o) :
    MI l yX10_unlike wsX10_unlike rmX10_unlike X [.ref a_this, .int x0] [(a_this, .inr (10, [.ref a_text, .ref a_reader, .ref a_draft, .ref a_laid, .ref a_cards, .ref a_flips, .ref a_bench, .ref a_notes, .ref a_presses, .ref a_told, .ref a_game, .ref a_kept, .int i_keptCount])), (a_notes, .inr (5, [.ref a_notes_delays, .ref a_notes_margins, .ref a_notes_odds])), (a_told, .inr (9, [.ref a_notes, .ref a_told_ofOne, .ref a_told_ofOther, .ref a_told_row, .int i_told_rowCount])), (a_notes_margins, .inl (X.2.1 0, 144, .inl f_notes_margins)), (a_told_row, .inl (X.2.1 0, 6, .inl f_told_row))]  [(a_this, .inr (10, [.ref a_text, .ref a_reader, .ref a_draft, .ref a_laid, .ref a_cards, .ref a_flips, .ref a_bench, .ref a_notes, .ref a_presses, .ref a_told, .ref a_game, .ref a_kept, .int i_keptCount])), (a_notes, .inr (5, [.ref a_notes_delays, .ref a_notes_margins, .ref a_notes_odds])), (a_told, .inr (9, [.ref a_notes, .ref a_told_ofOne, .ref a_told_ofOther, .ref a_told_row, .int o.2.1])), (a_notes_margins, .inl (X.2.1 0, 144, .inl f_notes_margins)), (a_told_row, .inl (X.2.1 0, 6, .inl o.2.2))] o.1 := by
  refine MI_ofH (cc := cX10_unlike) (maxL := 2) (rt := .int) (by decide) rfl (Nat.le_of_ble_eq_true rfl) ?_
  intro p e s m below meth c A Q H ls hx hb hml hts hown hA hD hG hP hS hl ret
  have hown : s.vm.findClass RX10 = some m.cls := hown
  have hD : aD A [a_this, a_notes, a_told, a_notes_margins, a_told_row] := hD
  have hl : lv_has ls 2 [(0, .ref a_this), (1, .int x0)] := hl
  have w1 := hts (Cond.fieldLink RX10 81 "ThreeCards" "told" "LThreeCards$Told;") (List.mem_of_getElem? (i := 1) rfl)
  have in10 : ∀ w ∈ u_ws RX10 TX10 13, w ∈ wsX10_unlike := by decide +kernel
  unfold mX10_unlike at hf
  refine lv_iload_n hx hb dX10_unlike_0 rfl (lv_at hl 1 rfl) ?_
  obtain ⟨o_1, ho_1, hf⟩ := ob_s hf
  refine xS_i (As := [.int x0]) (rest := []) (ws2 := [(a_this, .inr (10, [.ref a_text, .ref a_reader, .ref a_draft, .ref a_laid, .ref a_cards, .ref a_flips, .ref a_bench, .ref a_notes, .ref a_presses, .ref a_told, .ref a_game, .ref a_kept, .int i_keptCount])), (a_notes, .inr (5, [.ref a_notes_delays, .ref a_notes_margins, .ref a_notes_odds])), (a_told, .inr (9, [.ref a_notes, .ref a_told_ofOne, .ref a_told_ofOther, .ref a_told_row, .int i_told_rowCount])), (a_notes_margins, .inl (X.2.1 0, 144, .inl f_notes_margins)), (a_told_row, .inl (X.2.1 0, 6, .inl f_told_row))]) hx hb hml hts hown hG hA hP hD rfl hS hl.1 (qX10_isName l X x0 o_1 ho_1) (va_cwS (y := yX10_isName) 1 hts gX10_unlike_X10_isName rfl rfl rfl hdsX10_isName ⟨Nat.le_of_ble_eq_true rfl, Nat.le_of_ble_eq_true rfl⟩) [] [0, 1, 2, 3, 4] [0, 1, 2, 3, 4] rfl rfl rfl rfl rfl rfl rfl rfl rfl (Nat.le_of_ble_eq_true rfl) ⟨Nat.le_of_ble_eq_true rfl, Nat.le_of_ble_eq_true rfl⟩ dX10_unlike_1 (fun H locs hP _ hS => ?_)
  refine lv_if_eq (tgt := 18) hx hb dX10_unlike_4 (by decide) (fun c_3 => ?_) (fun c_3 => ?_)
  · have hf := xt hf c_3
    refine lv_iconst (v := (-1 : Int32)) hx hb dX10_unlike_18 (by decide) ?_
    obtain rfl := Option.some.inj hf
    exact ret H _ ls _ rfl hP hD hS dX10_unlike_19
  · have hf := xf hf c_3
    refine lv_aload_n hx hb dX10_unlike_7 rfl (lv_at hl 0 rfl) ?_
    refine va_get (D := X.1) (ci := 10) (v := .ref a_told) (C := RX10) (T := TX10) (N := 13) hx hb hts in10 hown hG.1 hP 0 rfl rfl 9 (by decide) w1 (fun _ h9 => h9) rfl dX10_unlike_8 ?_
    refine lv_iload_n hx hb dX10_unlike_11 rfl (lv_at hl 1 rfl) ?_
    obtain ⟨o_4, ho_4, hf⟩ := ob_s hf
    refine xV_i (As := [.int x0]) (b := a_told) (rest := []) (ws2 := [(a_this, .inr (10, [.ref a_text, .ref a_reader, .ref a_draft, .ref a_laid, .ref a_cards, .ref a_flips, .ref a_bench, .ref a_notes, .ref a_presses, .ref a_told, .ref a_game, .ref a_kept, .int i_keptCount])), (a_notes, .inr (5, [.ref a_notes_delays, .ref a_notes_margins, .ref a_notes_odds])), (a_told, .inr (9, [.ref a_notes, .ref a_told_ofOne, .ref a_told_ofOther, .ref a_told_row, .int o_4.2.1])), (a_notes_margins, .inl (X.2.1 0, 144, .inl f_notes_margins)), (a_told_row, .inl (X.2.1 0, 6, .inl o_4.2.2))]) hx hb hml hts hown hG hA hP hD rfl hS hl.1 (qX9_farthestNight l X a_told a_notes a_told_row a_notes_margins a_told_ofOne a_told_ofOther a_notes_delays a_notes_odds i_told_rowCount f_told_row f_notes_margins x0 o_4 ho_4) (cwV (y := yX9_farthestNight) 1 hts gX10_unlike_X9_farthestNight rfl rfl rfl hdvX9_farthestNight ⟨Nat.le_of_ble_eq_true rfl, Nat.le_of_ble_eq_true rfl⟩) [2, 1, 4, 3] [0] [0, 2, 1, 4, 3] rfl rfl rfl rfl rfl rfl rfl (ci := 9) rfl 2 rfl rfl rfl (Nat.le_of_ble_eq_true rfl) ⟨Nat.le_of_ble_eq_true rfl, Nat.le_of_ble_eq_true rfl⟩ dX10_unlike_12 (fun H locs hP _ hS => ?_)
    refine lv_goto (tgt := 19) hx hb dX10_unlike_15 (by decide) ?_
    obtain rfl := Option.some.inj hf
    exact ret H _ ls _ rfl hP hD hS dX10_unlike_19
def mX10_isToldSum (x0 : Int32) :
  Option (Int32) :=
  (mX10_within x0 (0 : Int32) (999 : Int32)).bind fun o_1 =>
  gz o_1 <|
  some o_1
theorem hdsX10_isToldSum : yX10_isToldSum.cls ≠ "java/lang/invoke/MethodHandle" ∧ yX10_isToldSum.cls ≠ "java/lang/invoke/VarHandle" ∧ (parseMethodDescriptor yX10_isToldSum.desc).map (fun d => d.parameters.length) = some 1 := by decide +kernel
abbrev rmX10_isToldSum : Room := { frames := 1, cells := 0, slots := 0, locals := 22 }
set_option maxHeartbeats 4000000 in
set_option maxRecDepth 100000 in
theorem qX10_isToldSum (l : Launch) (X : XT)    (x0 : Int32) (o : Int32) (hf : mX10_isToldSum x0 = some o) :
    MI l yX10_isToldSum wsX10_isToldSum rmX10_isToldSum X [.int x0] []  [] o := by
  refine MI_ofH (cc := cX10_isToldSum) (maxL := 1) (rt := .boolean) (by decide) rfl (Nat.le_of_ble_eq_true rfl) ?_
  intro p e s m below meth c A Q H ls hx hb hml hts hown hA hD hG hP hS hl ret
  have hown : s.vm.findClass RX10 = some m.cls := hown
  have hD : aD A [] := hD
  have hl : lv_has ls 1 [(0, .int x0)] := hl
  unfold mX10_isToldSum at hf
  refine lv_iload_n hx hb dX10_isToldSum_0 rfl (lv_at hl 0 rfl) ?_
  refine lv_iconst (v := (0 : Int32)) hx hb dX10_isToldSum_1 (by decide) ?_
  refine lv_sipush (v := (999 : Int32)) hx hb dX10_isToldSum_2 (by decide) ?_
  obtain ⟨o_1, ho_1, hf⟩ := ob_s hf
  refine xS_i (As := [.int x0, .int (0 : Int32), .int (999 : Int32)]) (rest := []) (ws2 := []) hx hb hml hts hown hG hA hP hD rfl hS hl.1 (qX10_within l X x0 (0 : Int32) (999 : Int32) o_1 ho_1) (va_cwS (y := yX10_within) 3 hts gX10_isToldSum_X10_within rfl rfl rfl hdsX10_within ⟨Nat.le_of_ble_eq_true rfl, Nat.le_of_ble_eq_true rfl⟩) [] [] [] rfl rfl rfl rfl rfl rfl rfl rfl rfl (Nat.le_of_ble_eq_true rfl) ⟨Nat.le_of_ble_eq_true rfl, Nat.le_of_ble_eq_true rfl⟩ dX10_isToldSum_5 (fun H locs hP _ hS => ?_)
  obtain ⟨h_3, hf⟩ := gz_s hf
  obtain rfl := Option.some.inj hf
  exact ret H _ ls _ h_3 hP hD hS dX10_isToldSum_8
def mX10_added (x0 : Int32) (x1 : Int32) (x2 : Int32) (x3 : Int32) (x4 : Int32) (i_laid_rounds : Int32) (f_laid_downs : Nat → Int32) (f_laid_judges : Nat → Int32) (f_laid_leads : Nat → Int32) (f_laid_taken : Nat → Int32) :
  Option (Int32) :=
  (mX10_within x0 (0 : Int32) (2 : Int32)).bind fun o_1 =>
  if o_1 = 0 then (some (-1 : Int32)) else ((mX10_isCorner x1).bind fun o_4 =>
  if o_4 = 0 then (some (-1 : Int32)) else ((mX10_isToldSum x2).bind fun o_7 =>
  if o_7 = 0 then (some (-1 : Int32)) else ((mX10_isToldSum x3).bind fun o_10 =>
  if o_10 = 0 then (some (-1 : Int32)) else ((mX10_isToldSum x4).bind fun o_13 =>
  if o_13 = 0 then (some (-1 : Int32)) else ((mX1_pointsBy x0 (0 : Int32) x1 i_laid_rounds f_laid_downs f_laid_judges f_laid_leads f_laid_taken).bind fun o_16 =>
  if o_16 = x2 then ((mX1_pointsBy x0 (1 : Int32) x1 i_laid_rounds f_laid_downs f_laid_judges f_laid_leads f_laid_taken).bind fun o_19 =>
  if o_19 = x3 then ((mX1_pointsBy x0 (2 : Int32) x1 i_laid_rounds f_laid_downs f_laid_judges f_laid_leads f_laid_taken).bind fun o_22 =>
  if o_22 = x4 then (some (-4 : Int32)) else (some (2 : Int32))) else (some (1 : Int32))) else (some (0 : Int32)))))))
theorem hdsX10_added : yX10_added.cls ≠ "java/lang/invoke/MethodHandle" ∧ yX10_added.cls ≠ "java/lang/invoke/VarHandle" ∧ (parseMethodDescriptor yX10_added.desc).map (fun d => d.parameters.length) = some 5 := by decide +kernel
theorem hdvX10_added : yX10_added.cls = RX10 ∧ yX10_added.cls ≠ "java/lang/invoke/MethodHandle" ∧ yX10_added.cls ≠ "java/lang/invoke/VarHandle" ∧ (parseMethodDescriptor yX10_added.desc).map (fun d => d.parameters.length) = some 5 := by decide +kernel
abbrev rmX10_added : Room := { frames := 4, cells := 0, slots := 0, locals := 96 }
set_option maxHeartbeats 4000000 in
set_option maxRecDepth 100000 in
theorem qX10_added (l : Launch) (X : XT) (a_this : Nat) (a_cards : Nat) (a_laid : Nat) (a_laid_downs : Nat) (a_laid_judges : Nat) (a_laid_leads : Nat) (a_laid_taken : Nat) (a_text : Nat) (a_reader : Nat) (a_draft : Nat) (a_flips : Nat) (a_bench : Nat) (a_notes : Nat) (a_presses : Nat) (a_told : Nat) (a_game : Nat) (a_kept : Nat) (a_cards_owners : Nat) (a_laid_blows : Nat) (a_laid_forward : Nat) (a_laid_seenBy : Nat) (a_laid_sums : Nat)  (i_keptCount : Int32) (i_laid_rounds : Int32) (i_laid_home : Int32) (i_laid_noise : Int32) (i_laid_blowCount : Int32) (i_laid_judgeCount : Int32) (f_laid_downs : Nat → Int32) (f_laid_judges : Nat → Int32) (f_laid_leads : Nat → Int32) (f_laid_taken : Nat → Int32) (x0 : Int32) (x1 : Int32) (x2 : Int32) (x3 : Int32) (x4 : Int32) (o : Int32) (hf : mX10_added x0 x1 x2 x3 x4 i_laid_rounds f_laid_downs f_laid_judges f_laid_leads f_laid_taken = some o) :
    MI l yX10_added wsX10_added rmX10_added X [.ref a_this, .int x0, .int x1, .int x2, .int x3, .int x4] [(a_this, .inr (10, [.ref a_text, .ref a_reader, .ref a_draft, .ref a_laid, .ref a_cards, .ref a_flips, .ref a_bench, .ref a_notes, .ref a_presses, .ref a_told, .ref a_game, .ref a_kept, .int i_keptCount])), (a_cards, .inr (1, [.ref a_laid, .ref a_cards_owners])), (a_laid, .inr (3, [.int i_laid_rounds, .int i_laid_home, .int i_laid_noise, .int i_laid_blowCount, .int i_laid_judgeCount, .ref a_laid_blows, .ref a_laid_judges, .ref a_laid_forward, .ref a_laid_downs, .ref a_laid_taken, .ref a_laid_seenBy, .ref a_laid_sums, .ref a_laid_leads])), (a_laid_downs, .inl (X.2.1 0, 24, .inl f_laid_downs)), (a_laid_judges, .inl (X.2.1 0, 56, .inl f_laid_judges)), (a_laid_leads, .inl (X.2.1 0, 96, .inl f_laid_leads)), (a_laid_taken, .inl (X.2.1 0, 24, .inl f_laid_taken))]  [(a_this, .inr (10, [.ref a_text, .ref a_reader, .ref a_draft, .ref a_laid, .ref a_cards, .ref a_flips, .ref a_bench, .ref a_notes, .ref a_presses, .ref a_told, .ref a_game, .ref a_kept, .int i_keptCount])), (a_cards, .inr (1, [.ref a_laid, .ref a_cards_owners])), (a_laid, .inr (3, [.int i_laid_rounds, .int i_laid_home, .int i_laid_noise, .int i_laid_blowCount, .int i_laid_judgeCount, .ref a_laid_blows, .ref a_laid_judges, .ref a_laid_forward, .ref a_laid_downs, .ref a_laid_taken, .ref a_laid_seenBy, .ref a_laid_sums, .ref a_laid_leads])), (a_laid_downs, .inl (X.2.1 0, 24, .inl f_laid_downs)), (a_laid_judges, .inl (X.2.1 0, 56, .inl f_laid_judges)), (a_laid_leads, .inl (X.2.1 0, 96, .inl f_laid_leads)), (a_laid_taken, .inl (X.2.1 0, 24, .inl f_laid_taken))] o := by
  refine MI_ofH (cc := cX10_added) (maxL := 6) (rt := .int) (by decide) rfl (Nat.le_of_ble_eq_true rfl) ?_
  intro p e s m below meth c A Q H ls hx hb hml hts hown hA hD hG hP hS hl ret
  have hown : s.vm.findClass RX10 = some m.cls := hown
  have hD : aD A [a_this, a_cards, a_laid, a_laid_downs, a_laid_judges, a_laid_leads, a_laid_taken] := hD
  have hl : lv_has ls 6 [(0, .ref a_this), (1, .int x0), (2, .int x1), (3, .int x2), (4, .int x3), (5, .int x4)] := hl
  have w1 := hts (Cond.fieldLink RX10 40 "ThreeCards" "cards" "LThreeCards$Cards;") (List.mem_of_getElem? (i := 1) rfl)
  have in10 : ∀ w ∈ u_ws RX10 TX10 13, w ∈ wsX10_added := by decide +kernel
  unfold mX10_added at hf
  refine lv_iload_n hx hb dX10_added_0 rfl (lv_at hl 1 rfl) ?_
  refine lv_iconst (v := (0 : Int32)) hx hb dX10_added_1 (by decide) ?_
  refine lv_iconst (v := (2 : Int32)) hx hb dX10_added_2 (by decide) ?_
  obtain ⟨o_1, ho_1, hf⟩ := ob_s hf
  refine xS_i (As := [.int x0, .int (0 : Int32), .int (2 : Int32)]) (rest := []) (ws2 := [(a_this, .inr (10, [.ref a_text, .ref a_reader, .ref a_draft, .ref a_laid, .ref a_cards, .ref a_flips, .ref a_bench, .ref a_notes, .ref a_presses, .ref a_told, .ref a_game, .ref a_kept, .int i_keptCount])), (a_cards, .inr (1, [.ref a_laid, .ref a_cards_owners])), (a_laid, .inr (3, [.int i_laid_rounds, .int i_laid_home, .int i_laid_noise, .int i_laid_blowCount, .int i_laid_judgeCount, .ref a_laid_blows, .ref a_laid_judges, .ref a_laid_forward, .ref a_laid_downs, .ref a_laid_taken, .ref a_laid_seenBy, .ref a_laid_sums, .ref a_laid_leads])), (a_laid_downs, .inl (X.2.1 0, 24, .inl f_laid_downs)), (a_laid_judges, .inl (X.2.1 0, 56, .inl f_laid_judges)), (a_laid_leads, .inl (X.2.1 0, 96, .inl f_laid_leads)), (a_laid_taken, .inl (X.2.1 0, 24, .inl f_laid_taken))]) hx hb hml hts hown hG hA hP hD rfl hS hl.1 (qX10_within l X x0 (0 : Int32) (2 : Int32) o_1 ho_1) (va_cwS (y := yX10_within) 3 hts gX10_added_X10_within rfl rfl rfl hdsX10_within ⟨Nat.le_of_ble_eq_true rfl, Nat.le_of_ble_eq_true rfl⟩) [] [0, 1, 2, 3, 4, 5, 6] [0, 1, 2, 3, 4, 5, 6] rfl rfl rfl rfl rfl rfl rfl rfl rfl (Nat.le_of_ble_eq_true rfl) ⟨Nat.le_of_ble_eq_true rfl, Nat.le_of_ble_eq_true rfl⟩ dX10_added_3 (fun H locs hP _ hS => ?_)
  refine lv_if_eq (tgt := 16) hx hb dX10_added_6 (by decide) (fun c_3 => ?_) (fun c_3 => ?_)
  · have hf := xt hf c_3
    refine lv_iconst (v := (-1 : Int32)) hx hb dX10_added_16 (by decide) ?_
    obtain rfl := Option.some.inj hf
    exact ret H _ ls _ rfl hP hD hS dX10_added_17
  · have hf := xf hf c_3
    refine lv_iload_n hx hb dX10_added_9 rfl (lv_at hl 2 rfl) ?_
    obtain ⟨o_4, ho_4, hf⟩ := ob_s hf
    refine xS_i (As := [.int x1]) (rest := []) (ws2 := [(a_this, .inr (10, [.ref a_text, .ref a_reader, .ref a_draft, .ref a_laid, .ref a_cards, .ref a_flips, .ref a_bench, .ref a_notes, .ref a_presses, .ref a_told, .ref a_game, .ref a_kept, .int i_keptCount])), (a_cards, .inr (1, [.ref a_laid, .ref a_cards_owners])), (a_laid, .inr (3, [.int i_laid_rounds, .int i_laid_home, .int i_laid_noise, .int i_laid_blowCount, .int i_laid_judgeCount, .ref a_laid_blows, .ref a_laid_judges, .ref a_laid_forward, .ref a_laid_downs, .ref a_laid_taken, .ref a_laid_seenBy, .ref a_laid_sums, .ref a_laid_leads])), (a_laid_downs, .inl (X.2.1 0, 24, .inl f_laid_downs)), (a_laid_judges, .inl (X.2.1 0, 56, .inl f_laid_judges)), (a_laid_leads, .inl (X.2.1 0, 96, .inl f_laid_leads)), (a_laid_taken, .inl (X.2.1 0, 24, .inl f_laid_taken))]) hx hb hml hts hown hG hA hP hD rfl hS hl.1 (qX10_isCorner l X x1 o_4 ho_4) (va_cwS (y := yX10_isCorner) 1 hts gX10_added_X10_isCorner rfl rfl rfl hdsX10_isCorner ⟨Nat.le_of_ble_eq_true rfl, Nat.le_of_ble_eq_true rfl⟩) [] [0, 1, 2, 3, 4, 5, 6] [0, 1, 2, 3, 4, 5, 6] rfl rfl rfl rfl rfl rfl rfl rfl rfl (Nat.le_of_ble_eq_true rfl) ⟨Nat.le_of_ble_eq_true rfl, Nat.le_of_ble_eq_true rfl⟩ dX10_added_10 (fun H locs hP _ hS => ?_)
    refine lv_if_ne (tgt := 18) hx hb dX10_added_13 (by decide) (fun c_6 => ?_) (fun c_6 => ?_)
    · have hf := xf hf c_6
      refine lv_iload_n hx hb dX10_added_18 rfl (lv_at hl 3 rfl) ?_
      obtain ⟨o_7, ho_7, hf⟩ := ob_s hf
      refine xS_i (As := [.int x2]) (rest := []) (ws2 := [(a_this, .inr (10, [.ref a_text, .ref a_reader, .ref a_draft, .ref a_laid, .ref a_cards, .ref a_flips, .ref a_bench, .ref a_notes, .ref a_presses, .ref a_told, .ref a_game, .ref a_kept, .int i_keptCount])), (a_cards, .inr (1, [.ref a_laid, .ref a_cards_owners])), (a_laid, .inr (3, [.int i_laid_rounds, .int i_laid_home, .int i_laid_noise, .int i_laid_blowCount, .int i_laid_judgeCount, .ref a_laid_blows, .ref a_laid_judges, .ref a_laid_forward, .ref a_laid_downs, .ref a_laid_taken, .ref a_laid_seenBy, .ref a_laid_sums, .ref a_laid_leads])), (a_laid_downs, .inl (X.2.1 0, 24, .inl f_laid_downs)), (a_laid_judges, .inl (X.2.1 0, 56, .inl f_laid_judges)), (a_laid_leads, .inl (X.2.1 0, 96, .inl f_laid_leads)), (a_laid_taken, .inl (X.2.1 0, 24, .inl f_laid_taken))]) hx hb hml hts hown hG hA hP hD rfl hS hl.1 (qX10_isToldSum l X x2 o_7 ho_7) (va_cwS (y := yX10_isToldSum) 1 hts gX10_added_X10_isToldSum rfl rfl rfl hdsX10_isToldSum ⟨Nat.le_of_ble_eq_true rfl, Nat.le_of_ble_eq_true rfl⟩) [] [0, 1, 2, 3, 4, 5, 6] [0, 1, 2, 3, 4, 5, 6] rfl rfl rfl rfl rfl rfl rfl rfl rfl (Nat.le_of_ble_eq_true rfl) ⟨Nat.le_of_ble_eq_true rfl, Nat.le_of_ble_eq_true rfl⟩ dX10_added_19 (fun H locs hP _ hS => ?_)
      refine lv_if_eq (tgt := 41) hx hb dX10_added_22 (by decide) (fun c_9 => ?_) (fun c_9 => ?_)
      · have hf := xt hf c_9
        refine lv_iconst (v := (-1 : Int32)) hx hb dX10_added_41 (by decide) ?_
        obtain rfl := Option.some.inj hf
        exact ret H _ ls _ rfl hP hD hS dX10_added_42
      · have hf := xf hf c_9
        refine lv_iload hx hb dX10_added_25 (lv_at hl 4 rfl) ?_
        obtain ⟨o_10, ho_10, hf⟩ := ob_s hf
        refine xS_i (As := [.int x3]) (rest := []) (ws2 := [(a_this, .inr (10, [.ref a_text, .ref a_reader, .ref a_draft, .ref a_laid, .ref a_cards, .ref a_flips, .ref a_bench, .ref a_notes, .ref a_presses, .ref a_told, .ref a_game, .ref a_kept, .int i_keptCount])), (a_cards, .inr (1, [.ref a_laid, .ref a_cards_owners])), (a_laid, .inr (3, [.int i_laid_rounds, .int i_laid_home, .int i_laid_noise, .int i_laid_blowCount, .int i_laid_judgeCount, .ref a_laid_blows, .ref a_laid_judges, .ref a_laid_forward, .ref a_laid_downs, .ref a_laid_taken, .ref a_laid_seenBy, .ref a_laid_sums, .ref a_laid_leads])), (a_laid_downs, .inl (X.2.1 0, 24, .inl f_laid_downs)), (a_laid_judges, .inl (X.2.1 0, 56, .inl f_laid_judges)), (a_laid_leads, .inl (X.2.1 0, 96, .inl f_laid_leads)), (a_laid_taken, .inl (X.2.1 0, 24, .inl f_laid_taken))]) hx hb hml hts hown hG hA hP hD rfl hS hl.1 (qX10_isToldSum l X x3 o_10 ho_10) (va_cwS (y := yX10_isToldSum) 1 hts gX10_added_X10_isToldSum rfl rfl rfl hdsX10_isToldSum ⟨Nat.le_of_ble_eq_true rfl, Nat.le_of_ble_eq_true rfl⟩) [] [0, 1, 2, 3, 4, 5, 6] [0, 1, 2, 3, 4, 5, 6] rfl rfl rfl rfl rfl rfl rfl rfl rfl (Nat.le_of_ble_eq_true rfl) ⟨Nat.le_of_ble_eq_true rfl, Nat.le_of_ble_eq_true rfl⟩ dX10_added_27 (fun H locs hP _ hS => ?_)
        refine lv_if_eq (tgt := 41) hx hb dX10_added_30 (by decide) (fun c_12 => ?_) (fun c_12 => ?_)
        · have hf := xt hf c_12
          refine lv_iconst (v := (-1 : Int32)) hx hb dX10_added_41 (by decide) ?_
          obtain rfl := Option.some.inj hf
          exact ret H _ ls _ rfl hP hD hS dX10_added_42
        · have hf := xf hf c_12
          refine lv_iload hx hb dX10_added_33 (lv_at hl 5 rfl) ?_
          obtain ⟨o_13, ho_13, hf⟩ := ob_s hf
          refine xS_i (As := [.int x4]) (rest := []) (ws2 := [(a_this, .inr (10, [.ref a_text, .ref a_reader, .ref a_draft, .ref a_laid, .ref a_cards, .ref a_flips, .ref a_bench, .ref a_notes, .ref a_presses, .ref a_told, .ref a_game, .ref a_kept, .int i_keptCount])), (a_cards, .inr (1, [.ref a_laid, .ref a_cards_owners])), (a_laid, .inr (3, [.int i_laid_rounds, .int i_laid_home, .int i_laid_noise, .int i_laid_blowCount, .int i_laid_judgeCount, .ref a_laid_blows, .ref a_laid_judges, .ref a_laid_forward, .ref a_laid_downs, .ref a_laid_taken, .ref a_laid_seenBy, .ref a_laid_sums, .ref a_laid_leads])), (a_laid_downs, .inl (X.2.1 0, 24, .inl f_laid_downs)), (a_laid_judges, .inl (X.2.1 0, 56, .inl f_laid_judges)), (a_laid_leads, .inl (X.2.1 0, 96, .inl f_laid_leads)), (a_laid_taken, .inl (X.2.1 0, 24, .inl f_laid_taken))]) hx hb hml hts hown hG hA hP hD rfl hS hl.1 (qX10_isToldSum l X x4 o_13 ho_13) (va_cwS (y := yX10_isToldSum) 1 hts gX10_added_X10_isToldSum rfl rfl rfl hdsX10_isToldSum ⟨Nat.le_of_ble_eq_true rfl, Nat.le_of_ble_eq_true rfl⟩) [] [0, 1, 2, 3, 4, 5, 6] [0, 1, 2, 3, 4, 5, 6] rfl rfl rfl rfl rfl rfl rfl rfl rfl (Nat.le_of_ble_eq_true rfl) ⟨Nat.le_of_ble_eq_true rfl, Nat.le_of_ble_eq_true rfl⟩ dX10_added_35 (fun H locs hP _ hS => ?_)
          refine lv_if_ne (tgt := 43) hx hb dX10_added_38 (by decide) (fun c_15 => ?_) (fun c_15 => ?_)
          · have hf := xf hf c_15
            refine lv_aload_n hx hb dX10_added_43 rfl (lv_at hl 0 rfl) ?_
            refine va_get (D := X.1) (ci := 10) (v := .ref a_cards) (C := RX10) (T := TX10) (N := 13) hx hb hts in10 hown hG.1 hP 0 rfl rfl 4 (by decide) w1 (fun _ h9 => h9) rfl dX10_added_44 ?_
            refine lv_iload_n hx hb dX10_added_47 rfl (lv_at hl 1 rfl) ?_
            refine lv_iconst (v := (0 : Int32)) hx hb dX10_added_48 (by decide) ?_
            refine lv_iload_n hx hb dX10_added_49 rfl (lv_at hl 2 rfl) ?_
            obtain ⟨o_16, ho_16, hf⟩ := ob_s hf
            refine xV_i (As := [.int x0, .int (0 : Int32), .int x1]) (b := a_cards) (rest := []) (ws2 := [(a_this, .inr (10, [.ref a_text, .ref a_reader, .ref a_draft, .ref a_laid, .ref a_cards, .ref a_flips, .ref a_bench, .ref a_notes, .ref a_presses, .ref a_told, .ref a_game, .ref a_kept, .int i_keptCount])), (a_cards, .inr (1, [.ref a_laid, .ref a_cards_owners])), (a_laid, .inr (3, [.int i_laid_rounds, .int i_laid_home, .int i_laid_noise, .int i_laid_blowCount, .int i_laid_judgeCount, .ref a_laid_blows, .ref a_laid_judges, .ref a_laid_forward, .ref a_laid_downs, .ref a_laid_taken, .ref a_laid_seenBy, .ref a_laid_sums, .ref a_laid_leads])), (a_laid_downs, .inl (X.2.1 0, 24, .inl f_laid_downs)), (a_laid_judges, .inl (X.2.1 0, 56, .inl f_laid_judges)), (a_laid_leads, .inl (X.2.1 0, 96, .inl f_laid_leads)), (a_laid_taken, .inl (X.2.1 0, 24, .inl f_laid_taken))]) hx hb hml hts hown hG hA hP hD rfl hS hl.1 (qX1_pointsBy l X a_cards a_laid a_laid_downs a_laid_judges a_laid_leads a_laid_taken a_cards_owners a_laid_blows a_laid_forward a_laid_seenBy a_laid_sums i_laid_rounds i_laid_home i_laid_noise i_laid_blowCount i_laid_judgeCount f_laid_downs f_laid_judges f_laid_leads f_laid_taken x0 (0 : Int32) x1 o_16 ho_16) (cwV (y := yX1_pointsBy) 3 hts gX10_added_X1_pointsBy rfl rfl rfl hdvX1_pointsBy ⟨Nat.le_of_ble_eq_true rfl, Nat.le_of_ble_eq_true rfl⟩) [1, 2, 3, 4, 5, 6] [0] [0, 1, 2, 3, 4, 5, 6] rfl rfl rfl rfl rfl rfl rfl (ci := 1) rfl 1 rfl rfl rfl (Nat.le_of_ble_eq_true rfl) ⟨Nat.le_of_ble_eq_true rfl, Nat.le_of_ble_eq_true rfl⟩ dX10_added_50 (fun H locs hP _ hS => ?_)
            refine lv_iload_n hx hb dX10_added_53 rfl (lv_at hl 3 rfl) ?_
            refine lv_icmp_eq (tgt := 59) hx hb dX10_added_54 (by decide) (fun c_18 => ?_) (fun c_18 => ?_)
            · have hf := xt hf c_18
              refine lv_aload_n hx hb dX10_added_59 rfl (lv_at hl 0 rfl) ?_
              refine va_get (D := X.1) (ci := 10) (v := .ref a_cards) (C := RX10) (T := TX10) (N := 13) hx hb hts in10 hown hG.1 hP 0 rfl rfl 4 (by decide) w1 (fun _ h9 => h9) rfl dX10_added_60 ?_
              refine lv_iload_n hx hb dX10_added_63 rfl (lv_at hl 1 rfl) ?_
              refine lv_iconst (v := (1 : Int32)) hx hb dX10_added_64 (by decide) ?_
              refine lv_iload_n hx hb dX10_added_65 rfl (lv_at hl 2 rfl) ?_
              obtain ⟨o_19, ho_19, hf⟩ := ob_s hf
              refine xV_i (As := [.int x0, .int (1 : Int32), .int x1]) (b := a_cards) (rest := []) (ws2 := [(a_this, .inr (10, [.ref a_text, .ref a_reader, .ref a_draft, .ref a_laid, .ref a_cards, .ref a_flips, .ref a_bench, .ref a_notes, .ref a_presses, .ref a_told, .ref a_game, .ref a_kept, .int i_keptCount])), (a_cards, .inr (1, [.ref a_laid, .ref a_cards_owners])), (a_laid, .inr (3, [.int i_laid_rounds, .int i_laid_home, .int i_laid_noise, .int i_laid_blowCount, .int i_laid_judgeCount, .ref a_laid_blows, .ref a_laid_judges, .ref a_laid_forward, .ref a_laid_downs, .ref a_laid_taken, .ref a_laid_seenBy, .ref a_laid_sums, .ref a_laid_leads])), (a_laid_downs, .inl (X.2.1 0, 24, .inl f_laid_downs)), (a_laid_judges, .inl (X.2.1 0, 56, .inl f_laid_judges)), (a_laid_leads, .inl (X.2.1 0, 96, .inl f_laid_leads)), (a_laid_taken, .inl (X.2.1 0, 24, .inl f_laid_taken))]) hx hb hml hts hown hG hA hP hD rfl hS hl.1 (qX1_pointsBy l X a_cards a_laid a_laid_downs a_laid_judges a_laid_leads a_laid_taken a_cards_owners a_laid_blows a_laid_forward a_laid_seenBy a_laid_sums i_laid_rounds i_laid_home i_laid_noise i_laid_blowCount i_laid_judgeCount f_laid_downs f_laid_judges f_laid_leads f_laid_taken x0 (1 : Int32) x1 o_19 ho_19) (cwV (y := yX1_pointsBy) 3 hts gX10_added_X1_pointsBy rfl rfl rfl hdvX1_pointsBy ⟨Nat.le_of_ble_eq_true rfl, Nat.le_of_ble_eq_true rfl⟩) [1, 2, 3, 4, 5, 6] [0] [0, 1, 2, 3, 4, 5, 6] rfl rfl rfl rfl rfl rfl rfl (ci := 1) rfl 1 rfl rfl rfl (Nat.le_of_ble_eq_true rfl) ⟨Nat.le_of_ble_eq_true rfl, Nat.le_of_ble_eq_true rfl⟩ dX10_added_66 (fun H locs hP _ hS => ?_)
              refine lv_iload hx hb dX10_added_69 (lv_at hl 4 rfl) ?_
              refine lv_icmp_eq (tgt := 76) hx hb dX10_added_71 (by decide) (fun c_21 => ?_) (fun c_21 => ?_)
              · have hf := xt hf c_21
                refine lv_aload_n hx hb dX10_added_76 rfl (lv_at hl 0 rfl) ?_
                refine va_get (D := X.1) (ci := 10) (v := .ref a_cards) (C := RX10) (T := TX10) (N := 13) hx hb hts in10 hown hG.1 hP 0 rfl rfl 4 (by decide) w1 (fun _ h9 => h9) rfl dX10_added_77 ?_
                refine lv_iload_n hx hb dX10_added_80 rfl (lv_at hl 1 rfl) ?_
                refine lv_iconst (v := (2 : Int32)) hx hb dX10_added_81 (by decide) ?_
                refine lv_iload_n hx hb dX10_added_82 rfl (lv_at hl 2 rfl) ?_
                obtain ⟨o_22, ho_22, hf⟩ := ob_s hf
                refine xV_i (As := [.int x0, .int (2 : Int32), .int x1]) (b := a_cards) (rest := []) (ws2 := [(a_this, .inr (10, [.ref a_text, .ref a_reader, .ref a_draft, .ref a_laid, .ref a_cards, .ref a_flips, .ref a_bench, .ref a_notes, .ref a_presses, .ref a_told, .ref a_game, .ref a_kept, .int i_keptCount])), (a_cards, .inr (1, [.ref a_laid, .ref a_cards_owners])), (a_laid, .inr (3, [.int i_laid_rounds, .int i_laid_home, .int i_laid_noise, .int i_laid_blowCount, .int i_laid_judgeCount, .ref a_laid_blows, .ref a_laid_judges, .ref a_laid_forward, .ref a_laid_downs, .ref a_laid_taken, .ref a_laid_seenBy, .ref a_laid_sums, .ref a_laid_leads])), (a_laid_downs, .inl (X.2.1 0, 24, .inl f_laid_downs)), (a_laid_judges, .inl (X.2.1 0, 56, .inl f_laid_judges)), (a_laid_leads, .inl (X.2.1 0, 96, .inl f_laid_leads)), (a_laid_taken, .inl (X.2.1 0, 24, .inl f_laid_taken))]) hx hb hml hts hown hG hA hP hD rfl hS hl.1 (qX1_pointsBy l X a_cards a_laid a_laid_downs a_laid_judges a_laid_leads a_laid_taken a_cards_owners a_laid_blows a_laid_forward a_laid_seenBy a_laid_sums i_laid_rounds i_laid_home i_laid_noise i_laid_blowCount i_laid_judgeCount f_laid_downs f_laid_judges f_laid_leads f_laid_taken x0 (2 : Int32) x1 o_22 ho_22) (cwV (y := yX1_pointsBy) 3 hts gX10_added_X1_pointsBy rfl rfl rfl hdvX1_pointsBy ⟨Nat.le_of_ble_eq_true rfl, Nat.le_of_ble_eq_true rfl⟩) [1, 2, 3, 4, 5, 6] [0] [0, 1, 2, 3, 4, 5, 6] rfl rfl rfl rfl rfl rfl rfl (ci := 1) rfl 1 rfl rfl rfl (Nat.le_of_ble_eq_true rfl) ⟨Nat.le_of_ble_eq_true rfl, Nat.le_of_ble_eq_true rfl⟩ dX10_added_83 (fun H locs hP _ hS => ?_)
                refine lv_iload hx hb dX10_added_86 (lv_at hl 5 rfl) ?_
                refine lv_icmp_eq (tgt := 95) hx hb dX10_added_88 (by decide) (fun c_24 => ?_) (fun c_24 => ?_)
                · have hf := xt hf c_24
                  refine lv_bipush (v := (-4 : Int32)) hx hb dX10_added_95 (by decide) ?_
                  obtain rfl := Option.some.inj hf
                  exact ret H _ ls _ rfl hP hD hS dX10_added_97
                · have hf := xf hf c_24
                  refine lv_iconst (v := (2 : Int32)) hx hb dX10_added_91 (by decide) ?_
                  refine lv_goto (tgt := 97) hx hb dX10_added_92 (by decide) ?_
                  obtain rfl := Option.some.inj hf
                  exact ret H _ ls _ rfl hP hD hS dX10_added_97
              · have hf := xf hf c_21
                refine lv_iconst (v := (1 : Int32)) hx hb dX10_added_74 (by decide) ?_
                obtain rfl := Option.some.inj hf
                exact ret H _ ls _ rfl hP hD hS dX10_added_75
            · have hf := xf hf c_18
              refine lv_iconst (v := (0 : Int32)) hx hb dX10_added_57 (by decide) ?_
              obtain rfl := Option.some.inj hf
              exact ret H _ ls _ rfl hP hD hS dX10_added_58
          · have hf := xt hf c_15
            refine lv_iconst (v := (-1 : Int32)) hx hb dX10_added_41 (by decide) ?_
            obtain rfl := Option.some.inj hf
            exact ret H _ ls _ rfl hP hD hS dX10_added_42
    · have hf := xt hf c_6
      refine lv_iconst (v := (-1 : Int32)) hx hb dX10_added_16 (by decide) ?_
      obtain rfl := Option.some.inj hf
      exact ret H _ ls _ rfl hP hD hS dX10_added_17
def mX10_tenths (x0 : Int32) (x1 : Int32) (x2 : Int32) (f_notes_odds : Nat → Int32) :
  Option (Int32 × (Nat → Int32)) :=
  (mX10_within x0 (0 : Int32) (1 : Int32)).bind fun o_1 =>
  if o_1 = 0 then (some ((-1 : Int32), f_notes_odds)) else ((mX10_within x1 (0 : Int32) (1 : Int32)).bind fun o_4 =>
  if o_4 = 0 then (some ((-1 : Int32), f_notes_odds)) else ((mX10_within x2 (0 : Int32) (10 : Int32)).bind fun o_7 =>
  if o_7 = 0 then (some ((-1 : Int32), f_notes_odds)) else ((mX5_tenthsOf x0 x1 f_notes_odds).bind fun o_10 =>
  (mX5_setTenths x0 x1 x2 f_notes_odds).bind fun o_12 =>
  some (o_10, o_12))))
theorem hdsX10_tenths : yX10_tenths.cls ≠ "java/lang/invoke/MethodHandle" ∧ yX10_tenths.cls ≠ "java/lang/invoke/VarHandle" ∧ (parseMethodDescriptor yX10_tenths.desc).map (fun d => d.parameters.length) = some 3 := by decide +kernel
theorem hdvX10_tenths : yX10_tenths.cls = RX10 ∧ yX10_tenths.cls ≠ "java/lang/invoke/MethodHandle" ∧ yX10_tenths.cls ≠ "java/lang/invoke/VarHandle" ∧ (parseMethodDescriptor yX10_tenths.desc).map (fun d => d.parameters.length) = some 3 := by decide +kernel
abbrev rmX10_tenths : Room := { frames := 1, cells := 0, slots := 0, locals := 23 }
set_option maxHeartbeats 4000000 in
set_option maxRecDepth 100000 in
theorem qX10_tenths (l : Launch) (X : XT) (a_this : Nat) (a_notes : Nat) (a_notes_odds : Nat) (a_text : Nat) (a_reader : Nat) (a_draft : Nat) (a_laid : Nat) (a_cards : Nat) (a_flips : Nat) (a_bench : Nat) (a_presses : Nat) (a_told : Nat) (a_game : Nat) (a_kept : Nat) (a_notes_delays : Nat) (a_notes_margins : Nat)  (i_keptCount : Int32) (f_notes_odds : Nat → Int32) (x0 : Int32) (x1 : Int32) (x2 : Int32) (o : Int32 × (Nat → Int32)) (hf : mX10_tenths x0 x1 x2 f_notes_odds = some o) :
    MI l yX10_tenths wsX10_tenths rmX10_tenths X [.ref a_this, .int x0, .int x1, .int x2] [(a_this, .inr (10, [.ref a_text, .ref a_reader, .ref a_draft, .ref a_laid, .ref a_cards, .ref a_flips, .ref a_bench, .ref a_notes, .ref a_presses, .ref a_told, .ref a_game, .ref a_kept, .int i_keptCount])), (a_notes, .inr (5, [.ref a_notes_delays, .ref a_notes_margins, .ref a_notes_odds])), (a_notes_odds, .inl (X.2.1 0, 4, .inl f_notes_odds))]  [(a_this, .inr (10, [.ref a_text, .ref a_reader, .ref a_draft, .ref a_laid, .ref a_cards, .ref a_flips, .ref a_bench, .ref a_notes, .ref a_presses, .ref a_told, .ref a_game, .ref a_kept, .int i_keptCount])), (a_notes, .inr (5, [.ref a_notes_delays, .ref a_notes_margins, .ref a_notes_odds])), (a_notes_odds, .inl (X.2.1 0, 4, .inl o.2))] o.1 := by
  refine MI_ofH (cc := cX10_tenths) (maxL := 5) (rt := .int) (by decide) rfl (Nat.le_of_ble_eq_true rfl) ?_
  intro p e s m below meth c A Q H ls hx hb hml hts hown hA hD hG hP hS hl ret
  have hown : s.vm.findClass RX10 = some m.cls := hown
  have hD : aD A [a_this, a_notes, a_notes_odds] := hD
  have hl : lv_has ls 5 [(0, .ref a_this), (1, .int x0), (2, .int x1), (3, .int x2)] := hl
  have w1 := hts (.fieldLink RX10 63 "ThreeCards" "notes" "LThreeCards$Notes;") (List.mem_of_getElem? (i := 1) rfl)
  have in10 : ∀ w ∈ u_ws RX10 TX10 13, w ∈ wsX10_tenths := by decide +kernel
  unfold mX10_tenths at hf
  refine lv_iload_n hx hb dX10_tenths_0 rfl (lv_at hl 1 rfl) ?_
  refine lv_iconst (v := (0 : Int32)) hx hb dX10_tenths_1 (by decide) ?_
  refine lv_iconst (v := (1 : Int32)) hx hb dX10_tenths_2 (by decide) ?_
  obtain ⟨o_1, ho_1, hf⟩ := ob_s hf
  refine xS_i (As := [.int x0, .int (0 : Int32), .int (1 : Int32)]) (rest := []) (ws2 := [(a_this, .inr (10, [.ref a_text, .ref a_reader, .ref a_draft, .ref a_laid, .ref a_cards, .ref a_flips, .ref a_bench, .ref a_notes, .ref a_presses, .ref a_told, .ref a_game, .ref a_kept, .int i_keptCount])), (a_notes, .inr (5, [.ref a_notes_delays, .ref a_notes_margins, .ref a_notes_odds])), (a_notes_odds, .inl (X.2.1 0, 4, .inl f_notes_odds))]) hx hb hml hts hown hG hA hP hD rfl hS hl.1 (qX10_within l X x0 (0 : Int32) (1 : Int32) o_1 ho_1) (va_cwS (y := yX10_within) 3 hts gX10_tenths_X10_within rfl rfl rfl hdsX10_within ⟨Nat.le_of_ble_eq_true rfl, Nat.le_of_ble_eq_true rfl⟩) [] [0, 1, 2] [0, 1, 2] rfl rfl rfl rfl rfl rfl rfl rfl rfl (Nat.le_of_ble_eq_true rfl) ⟨Nat.le_of_ble_eq_true rfl, Nat.le_of_ble_eq_true rfl⟩ dX10_tenths_3 (fun H locs hP _ hS => ?_)
  refine lv_if_eq (tgt := 28) hx hb dX10_tenths_6 (by decide) (fun c_3 => ?_) (fun c_3 => ?_)
  · have hf := xt hf c_3
    refine lv_iconst (v := (-1 : Int32)) hx hb dX10_tenths_28 (by decide) ?_
    obtain rfl := Option.some.inj hf
    exact ret H _ ls _ rfl hP hD hS dX10_tenths_29
  · have hf := xf hf c_3
    refine lv_iload_n hx hb dX10_tenths_9 rfl (lv_at hl 2 rfl) ?_
    refine lv_iconst (v := (0 : Int32)) hx hb dX10_tenths_10 (by decide) ?_
    refine lv_iconst (v := (1 : Int32)) hx hb dX10_tenths_11 (by decide) ?_
    obtain ⟨o_4, ho_4, hf⟩ := ob_s hf
    refine xS_i (As := [.int x1, .int (0 : Int32), .int (1 : Int32)]) (rest := []) (ws2 := [(a_this, .inr (10, [.ref a_text, .ref a_reader, .ref a_draft, .ref a_laid, .ref a_cards, .ref a_flips, .ref a_bench, .ref a_notes, .ref a_presses, .ref a_told, .ref a_game, .ref a_kept, .int i_keptCount])), (a_notes, .inr (5, [.ref a_notes_delays, .ref a_notes_margins, .ref a_notes_odds])), (a_notes_odds, .inl (X.2.1 0, 4, .inl f_notes_odds))]) hx hb hml hts hown hG hA hP hD rfl hS hl.1 (qX10_within l X x1 (0 : Int32) (1 : Int32) o_4 ho_4) (va_cwS (y := yX10_within) 3 hts gX10_tenths_X10_within rfl rfl rfl hdsX10_within ⟨Nat.le_of_ble_eq_true rfl, Nat.le_of_ble_eq_true rfl⟩) [] [0, 1, 2] [0, 1, 2] rfl rfl rfl rfl rfl rfl rfl rfl rfl (Nat.le_of_ble_eq_true rfl) ⟨Nat.le_of_ble_eq_true rfl, Nat.le_of_ble_eq_true rfl⟩ dX10_tenths_12 (fun H locs hP _ hS => ?_)
    refine lv_if_eq (tgt := 28) hx hb dX10_tenths_15 (by decide) (fun c_6 => ?_) (fun c_6 => ?_)
    · have hf := xt hf c_6
      refine lv_iconst (v := (-1 : Int32)) hx hb dX10_tenths_28 (by decide) ?_
      obtain rfl := Option.some.inj hf
      exact ret H _ ls _ rfl hP hD hS dX10_tenths_29
    · have hf := xf hf c_6
      refine lv_iload_n hx hb dX10_tenths_18 rfl (lv_at hl 3 rfl) ?_
      refine lv_iconst (v := (0 : Int32)) hx hb dX10_tenths_19 (by decide) ?_
      refine lv_bipush (v := (10 : Int32)) hx hb dX10_tenths_20 (by decide) ?_
      obtain ⟨o_7, ho_7, hf⟩ := ob_s hf
      refine xS_i (As := [.int x2, .int (0 : Int32), .int (10 : Int32)]) (rest := []) (ws2 := [(a_this, .inr (10, [.ref a_text, .ref a_reader, .ref a_draft, .ref a_laid, .ref a_cards, .ref a_flips, .ref a_bench, .ref a_notes, .ref a_presses, .ref a_told, .ref a_game, .ref a_kept, .int i_keptCount])), (a_notes, .inr (5, [.ref a_notes_delays, .ref a_notes_margins, .ref a_notes_odds])), (a_notes_odds, .inl (X.2.1 0, 4, .inl f_notes_odds))]) hx hb hml hts hown hG hA hP hD rfl hS hl.1 (qX10_within l X x2 (0 : Int32) (10 : Int32) o_7 ho_7) (va_cwS (y := yX10_within) 3 hts gX10_tenths_X10_within rfl rfl rfl hdsX10_within ⟨Nat.le_of_ble_eq_true rfl, Nat.le_of_ble_eq_true rfl⟩) [] [0, 1, 2] [0, 1, 2] rfl rfl rfl rfl rfl rfl rfl rfl rfl (Nat.le_of_ble_eq_true rfl) ⟨Nat.le_of_ble_eq_true rfl, Nat.le_of_ble_eq_true rfl⟩ dX10_tenths_22 (fun H locs hP _ hS => ?_)
      refine lv_if_ne (tgt := 30) hx hb dX10_tenths_25 (by decide) (fun c_9 => ?_) (fun c_9 => ?_)
      · have hf := xf hf c_9
        refine lv_aload_n hx hb dX10_tenths_30 rfl (lv_at hl 0 rfl) ?_
        refine va_get (D := X.1) (ci := 10) (v := .ref a_notes) (C := RX10) (T := TX10) (N := 13) hx hb hts in10 hown hG.1 hP 0 rfl rfl 7 (by decide) w1 (fun _ h9 => h9) rfl dX10_tenths_31 ?_
        refine lv_iload_n hx hb dX10_tenths_34 rfl (lv_at hl 1 rfl) ?_
        refine lv_iload_n hx hb dX10_tenths_35 rfl (lv_at hl 2 rfl) ?_
        obtain ⟨o_10, ho_10, hf⟩ := ob_s hf
        refine xV_i (As := [.int x0, .int x1]) (b := a_notes) (rest := []) (ws2 := [(a_this, .inr (10, [.ref a_text, .ref a_reader, .ref a_draft, .ref a_laid, .ref a_cards, .ref a_flips, .ref a_bench, .ref a_notes, .ref a_presses, .ref a_told, .ref a_game, .ref a_kept, .int i_keptCount])), (a_notes, .inr (5, [.ref a_notes_delays, .ref a_notes_margins, .ref a_notes_odds])), (a_notes_odds, .inl (X.2.1 0, 4, .inl f_notes_odds))]) hx hb hml hts hown hG hA hP hD rfl hS hl.1 (qX5_tenthsOf l X a_notes a_notes_odds a_notes_delays a_notes_margins f_notes_odds x0 x1 o_10 ho_10) (cwV (y := yX5_tenthsOf) 2 hts gX10_tenths_X5_tenthsOf rfl rfl rfl hdvX5_tenthsOf ⟨Nat.le_of_ble_eq_true rfl, Nat.le_of_ble_eq_true rfl⟩) [1, 2] [0] [0, 1, 2] rfl rfl rfl rfl rfl rfl rfl (ci := 5) rfl 1 rfl rfl rfl (Nat.le_of_ble_eq_true rfl) ⟨Nat.le_of_ble_eq_true rfl, Nat.le_of_ble_eq_true rfl⟩ dX10_tenths_36 (fun H locs hP _ hS => ?_)
        refine lv_istore (lv' := [(4, .int o_10), (0, .ref a_this), (1, .int x0), (2, .int x1), (3, .int x2)]) hx hb dX10_tenths_39 hl (by decide) rfl (fun ls hl => ?_)
        refine lv_aload_n hx hb dX10_tenths_41 rfl (lv_at hl 1 rfl) ?_
        refine va_get (D := X.1) (ci := 10) (v := .ref a_notes) (C := RX10) (T := TX10) (N := 13) hx hb hts in10 hown hG.1 hP 0 rfl rfl 7 (by decide) w1 (fun _ h9 => h9) rfl dX10_tenths_42 ?_
        refine lv_iload_n hx hb dX10_tenths_45 rfl (lv_at hl 2 rfl) ?_
        refine lv_iload_n hx hb dX10_tenths_46 rfl (lv_at hl 3 rfl) ?_
        refine lv_iload_n hx hb dX10_tenths_47 rfl (lv_at hl 4 rfl) ?_
        obtain ⟨o_12, ho_12, hf⟩ := ob_s hf
        refine xV_v (As := [.int x0, .int x1, .int x2]) (b := a_notes) (rest := []) (ws2 := fun _ => [(a_this, .inr (10, [.ref a_text, .ref a_reader, .ref a_draft, .ref a_laid, .ref a_cards, .ref a_flips, .ref a_bench, .ref a_notes, .ref a_presses, .ref a_told, .ref a_game, .ref a_kept, .int i_keptCount])), (a_notes, .inr (5, [.ref a_notes_delays, .ref a_notes_margins, .ref a_notes_odds])), (a_notes_odds, .inl (X.2.1 0, 4, .inl o_12))]) hx hb hml hts hown hG hA hP hD rfl hS hl.1 (qX5_setTenths l X a_notes a_notes_odds a_notes_delays a_notes_margins f_notes_odds x0 x1 x2 o_12 ho_12) (cwV (y := yX5_setTenths) 3 hts gX10_tenths_X5_setTenths rfl rfl rfl hdvX5_setTenths ⟨Nat.le_of_ble_eq_true rfl, Nat.le_of_ble_eq_true rfl⟩) [1, 2] [0] [0, 1, 2] rfl rfl rfl rfl rfl rfl (fun _ => rfl) (ci := 5) rfl 1 rfl rfl rfl (Nat.le_of_ble_eq_true rfl) ⟨Nat.le_of_ble_eq_true rfl, Nat.le_of_ble_eq_true rfl⟩ dX10_tenths_48 (fun u_13 H locs hP _ hS => ?_)
        refine lv_iload hx hb dX10_tenths_51 (lv_at hl 0 rfl) ?_
        obtain rfl := Option.some.inj hf
        exact ret H _ ls _ rfl hP hD hS dX10_tenths_53
      · have hf := xt hf c_9
        refine lv_iconst (v := (-1 : Int32)) hx hb dX10_tenths_28 (by decide) ?_
        obtain rfl := Option.some.inj hf
        exact ret H _ ls _ rfl hP hD hS dX10_tenths_29
def mX10_isGame (x0 : Int32) (x1 : Int32) (x2 : Int32) :
  Option (Int32) :=
  (mX10_within x0 (1 : Int32) (12 : Int32)).bind fun o_1 =>
  if o_1 = 0 then (some (0 : Int32)) else ((mX10_within x1 (-12 : Int32) (12 : Int32)).bind fun o_4 =>
  if o_4 = 0 then (some (0 : Int32)) else ((mX10_within x2 (0 : Int32) (2 : Int32)).bind fun o_7 =>
  if o_7 = 0 then (some (0 : Int32)) else (some (1 : Int32))))
theorem hdsX10_isGame : yX10_isGame.cls ≠ "java/lang/invoke/MethodHandle" ∧ yX10_isGame.cls ≠ "java/lang/invoke/VarHandle" ∧ (parseMethodDescriptor yX10_isGame.desc).map (fun d => d.parameters.length) = some 3 := by decide +kernel
abbrev rmX10_isGame : Room := { frames := 1, cells := 0, slots := 0, locals := 22 }
set_option maxHeartbeats 4000000 in
set_option maxRecDepth 100000 in
theorem qX10_isGame (l : Launch) (X : XT)    (x0 : Int32) (x1 : Int32) (x2 : Int32) (o : Int32) (hf : mX10_isGame x0 x1 x2 = some o) :
    MI l yX10_isGame wsX10_isGame rmX10_isGame X [.int x0, .int x1, .int x2] []  [] o := by
  refine MI_ofH (cc := cX10_isGame) (maxL := 3) (rt := .boolean) (by decide) rfl (Nat.le_of_ble_eq_true rfl) ?_
  intro p e s m below meth c A Q H ls hx hb hml hts hown hA hD hG hP hS hl ret
  have hown : s.vm.findClass RX10 = some m.cls := hown
  have hD : aD A [] := hD
  have hl : lv_has ls 3 [(0, .int x0), (1, .int x1), (2, .int x2)] := hl
  unfold mX10_isGame at hf
  refine lv_iload_n hx hb dX10_isGame_0 rfl (lv_at hl 0 rfl) ?_
  refine lv_iconst (v := (1 : Int32)) hx hb dX10_isGame_1 (by decide) ?_
  refine lv_bipush (v := (12 : Int32)) hx hb dX10_isGame_2 (by decide) ?_
  obtain ⟨o_1, ho_1, hf⟩ := ob_s hf
  refine xS_i (As := [.int x0, .int (1 : Int32), .int (12 : Int32)]) (rest := []) (ws2 := []) hx hb hml hts hown hG hA hP hD rfl hS hl.1 (qX10_within l X x0 (1 : Int32) (12 : Int32) o_1 ho_1) (va_cwS (y := yX10_within) 3 hts gX10_isGame_X10_within rfl rfl rfl hdsX10_within ⟨Nat.le_of_ble_eq_true rfl, Nat.le_of_ble_eq_true rfl⟩) [] [] [] rfl rfl rfl rfl rfl rfl rfl rfl rfl (Nat.le_of_ble_eq_true rfl) ⟨Nat.le_of_ble_eq_true rfl, Nat.le_of_ble_eq_true rfl⟩ dX10_isGame_4 (fun H locs hP _ hS => ?_)
  refine lv_if_eq (tgt := 34) hx hb dX10_isGame_7 (by decide) (fun c_3 => ?_) (fun c_3 => ?_)
  · have hf := xt hf c_3
    refine lv_iconst (v := (0 : Int32)) hx hb dX10_isGame_34 (by decide) ?_
    obtain rfl := Option.some.inj hf
    exact ret H _ ls _ (show narrow .boolean (.int (0 : Int32)) = .int (0 : Int32) from rfl) hP hD hS dX10_isGame_35
  · have hf := xf hf c_3
    refine lv_iload_n hx hb dX10_isGame_10 rfl (lv_at hl 1 rfl) ?_
    refine lv_bipush (v := (-12 : Int32)) hx hb dX10_isGame_11 (by decide) ?_
    refine lv_bipush (v := (12 : Int32)) hx hb dX10_isGame_13 (by decide) ?_
    obtain ⟨o_4, ho_4, hf⟩ := ob_s hf
    refine xS_i (As := [.int x1, .int (-12 : Int32), .int (12 : Int32)]) (rest := []) (ws2 := []) hx hb hml hts hown hG hA hP hD rfl hS hl.1 (qX10_within l X x1 (-12 : Int32) (12 : Int32) o_4 ho_4) (va_cwS (y := yX10_within) 3 hts gX10_isGame_X10_within rfl rfl rfl hdsX10_within ⟨Nat.le_of_ble_eq_true rfl, Nat.le_of_ble_eq_true rfl⟩) [] [] [] rfl rfl rfl rfl rfl rfl rfl rfl rfl (Nat.le_of_ble_eq_true rfl) ⟨Nat.le_of_ble_eq_true rfl, Nat.le_of_ble_eq_true rfl⟩ dX10_isGame_15 (fun H locs hP _ hS => ?_)
    refine lv_if_eq (tgt := 34) hx hb dX10_isGame_18 (by decide) (fun c_6 => ?_) (fun c_6 => ?_)
    · have hf := xt hf c_6
      refine lv_iconst (v := (0 : Int32)) hx hb dX10_isGame_34 (by decide) ?_
      obtain rfl := Option.some.inj hf
      exact ret H _ ls _ (show narrow .boolean (.int (0 : Int32)) = .int (0 : Int32) from rfl) hP hD hS dX10_isGame_35
    · have hf := xf hf c_6
      refine lv_iload_n hx hb dX10_isGame_21 rfl (lv_at hl 2 rfl) ?_
      refine lv_iconst (v := (0 : Int32)) hx hb dX10_isGame_22 (by decide) ?_
      refine lv_iconst (v := (2 : Int32)) hx hb dX10_isGame_23 (by decide) ?_
      obtain ⟨o_7, ho_7, hf⟩ := ob_s hf
      refine xS_i (As := [.int x2, .int (0 : Int32), .int (2 : Int32)]) (rest := []) (ws2 := []) hx hb hml hts hown hG hA hP hD rfl hS hl.1 (qX10_within l X x2 (0 : Int32) (2 : Int32) o_7 ho_7) (va_cwS (y := yX10_within) 3 hts gX10_isGame_X10_within rfl rfl rfl hdsX10_within ⟨Nat.le_of_ble_eq_true rfl, Nat.le_of_ble_eq_true rfl⟩) [] [] [] rfl rfl rfl rfl rfl rfl rfl rfl rfl (Nat.le_of_ble_eq_true rfl) ⟨Nat.le_of_ble_eq_true rfl, Nat.le_of_ble_eq_true rfl⟩ dX10_isGame_24 (fun H locs hP _ hS => ?_)
      refine lv_if_eq (tgt := 34) hx hb dX10_isGame_27 (by decide) (fun c_9 => ?_) (fun c_9 => ?_)
      · have hf := xt hf c_9
        refine lv_iconst (v := (0 : Int32)) hx hb dX10_isGame_34 (by decide) ?_
        obtain rfl := Option.some.inj hf
        exact ret H _ ls _ (show narrow .boolean (.int (0 : Int32)) = .int (0 : Int32) from rfl) hP hD hS dX10_isGame_35
      · have hf := xf hf c_9
        refine lv_iconst (v := (1 : Int32)) hx hb dX10_isGame_30 (by decide) ?_
        refine lv_goto (tgt := 35) hx hb dX10_isGame_31 (by decide) ?_
        obtain rfl := Option.some.inj hf
        exact ret H _ ls _ (show narrow .boolean (.int (1 : Int32)) = .int (1 : Int32) from rfl) hP hD hS dX10_isGame_35
def mX10_open (x0 : Int32) (x1 : Int32) (x2 : Int32) (i_game_value : Int32) (i_game_zeroPushes : Int32) (i_game_onePushes : Int32) (f_game_before : Nat → Int32) (f_game_values : Nat → Int32) (f_notes_odds : Nat → Int32) (a_game_values : Nat) (a_game_before : Nat) :
  Option (Int32 × (Nat → Int32) × Int32 × Int32 × Int32 × (Nat → Int32) × Nat × Nat) :=
  (mX10_isGame x0 x1 x2).bind fun o_1 =>
  if o_1 = 0 then (some ((-1 : Int32), f_game_values, i_game_onePushes, i_game_value, i_game_zeroPushes, f_game_before, a_game_values, a_game_before)) else ((mX4_playOpen x0 x1 i_game_value i_game_zeroPushes i_game_onePushes f_game_before f_game_values f_notes_odds a_game_values a_game_before).bind fun o_4 =>
  (mX4_result x2 o_4.2.2.1 o_4.2.2.2.1 o_4.2.1).bind fun o_6 =>
  some (o_6, o_4.1, o_4.2.1, o_4.2.2.1, o_4.2.2.2.1, o_4.2.2.2.2.1, o_4.2.2.2.2.2.1, o_4.2.2.2.2.2.2))
theorem hdsX10_open : yX10_open.cls ≠ "java/lang/invoke/MethodHandle" ∧ yX10_open.cls ≠ "java/lang/invoke/VarHandle" ∧ (parseMethodDescriptor yX10_open.desc).map (fun d => d.parameters.length) = some 3 := by decide +kernel
theorem hdvX10_open : yX10_open.cls = RX10 ∧ yX10_open.cls ≠ "java/lang/invoke/MethodHandle" ∧ yX10_open.cls ≠ "java/lang/invoke/VarHandle" ∧ (parseMethodDescriptor yX10_open.desc).map (fun d => d.parameters.length) = some 3 := by decide +kernel
abbrev rmX10_open : Room := { frames := 4, cells := 0, slots := 0, locals := 91 }
set_option maxHeartbeats 4000000 in
set_option maxRecDepth 100000 in
theorem qX10_open (l : Launch) (X : XT) (a_this : Nat) (a_game : Nat) (a_notes : Nat) (a_game_before : Nat) (a_game_values : Nat) (a_notes_odds : Nat) (a_text : Nat) (a_reader : Nat) (a_draft : Nat) (a_laid : Nat) (a_cards : Nat) (a_flips : Nat) (a_bench : Nat) (a_presses : Nat) (a_told : Nat) (a_kept : Nat) (a_notes_delays : Nat) (a_notes_margins : Nat)  (i_keptCount : Int32) (i_game_value : Int32) (i_game_zeroPushes : Int32) (i_game_onePushes : Int32) (f_game_before : Nat → Int32) (f_game_values : Nat → Int32) (f_notes_odds : Nat → Int32) (x0 : Int32) (x1 : Int32) (x2 : Int32) (o : Int32 × (Nat → Int32) × Int32 × Int32 × Int32 × (Nat → Int32) × Nat × Nat) (hf : mX10_open x0 x1 x2 i_game_value i_game_zeroPushes i_game_onePushes f_game_before f_game_values f_notes_odds a_game_values a_game_before = some o) :
    MI l yX10_open wsX10_open rmX10_open X [.ref a_this, .int x0, .int x1, .int x2] [(a_this, .inr (10, [.ref a_text, .ref a_reader, .ref a_draft, .ref a_laid, .ref a_cards, .ref a_flips, .ref a_bench, .ref a_notes, .ref a_presses, .ref a_told, .ref a_game, .ref a_kept, .int i_keptCount])), (a_game, .inr (4, [.ref a_notes, .ref a_game_values, .ref a_game_before, .int i_game_value, .int i_game_zeroPushes, .int i_game_onePushes])), (a_notes, .inr (5, [.ref a_notes_delays, .ref a_notes_margins, .ref a_notes_odds])), (a_game_before, .inl (X.2.1 0, 49, .inl f_game_before)), (a_game_values, .inl (X.2.1 0, 49, .inl f_game_values)), (a_notes_odds, .inl (X.2.1 0, 4, .inl f_notes_odds))]  [(a_this, .inr (10, [.ref a_text, .ref a_reader, .ref a_draft, .ref a_laid, .ref a_cards, .ref a_flips, .ref a_bench, .ref a_notes, .ref a_presses, .ref a_told, .ref a_game, .ref a_kept, .int i_keptCount])), (a_game, .inr (4, [.ref a_notes, .ref o.2.2.2.2.2.2.1, .ref o.2.2.2.2.2.2.2, .int o.2.2.2.1, .int o.2.2.2.2.1, .int o.2.2.1])), (a_notes, .inr (5, [.ref a_notes_delays, .ref a_notes_margins, .ref a_notes_odds])), (o.2.2.2.2.2.2.2, .inl (X.2.1 0, 49, .inl o.2.2.2.2.2.1)), (o.2.2.2.2.2.2.1, .inl (X.2.1 0, 49, .inl o.2.1)), (a_notes_odds, .inl (X.2.1 0, 4, .inl f_notes_odds))] o.1 := by
  refine MI_ofH (cc := cX10_open) (maxL := 4) (rt := .int) (by decide) rfl (Nat.le_of_ble_eq_true rfl) ?_
  intro p e s m below meth c A Q H ls hx hb hml hts hown hA hD hG hP hS hl ret
  have hown : s.vm.findClass RX10 = some m.cls := hown
  have hD : aD A [a_this, a_game, a_notes, a_game_before, a_game_values, a_notes_odds] := hD
  have hl : lv_has ls 4 [(0, .ref a_this), (1, .int x0), (2, .int x1), (3, .int x2)] := hl
  have w1 := hts (Cond.fieldLink RX10 88 "ThreeCards" "game" "LThreeCards$Game;") (List.mem_of_getElem? (i := 1) rfl)
  have in10 : ∀ w ∈ u_ws RX10 TX10 13, w ∈ wsX10_open := by decide +kernel
  unfold mX10_open at hf
  refine lv_iload_n hx hb dX10_open_0 rfl (lv_at hl 1 rfl) ?_
  refine lv_iload_n hx hb dX10_open_1 rfl (lv_at hl 2 rfl) ?_
  refine lv_iload_n hx hb dX10_open_2 rfl (lv_at hl 3 rfl) ?_
  obtain ⟨o_1, ho_1, hf⟩ := ob_s hf
  refine xS_i (As := [.int x0, .int x1, .int x2]) (rest := []) (ws2 := [(a_this, .inr (10, [.ref a_text, .ref a_reader, .ref a_draft, .ref a_laid, .ref a_cards, .ref a_flips, .ref a_bench, .ref a_notes, .ref a_presses, .ref a_told, .ref a_game, .ref a_kept, .int i_keptCount])), (a_game, .inr (4, [.ref a_notes, .ref a_game_values, .ref a_game_before, .int i_game_value, .int i_game_zeroPushes, .int i_game_onePushes])), (a_notes, .inr (5, [.ref a_notes_delays, .ref a_notes_margins, .ref a_notes_odds])), (a_game_before, .inl (X.2.1 0, 49, .inl f_game_before)), (a_game_values, .inl (X.2.1 0, 49, .inl f_game_values)), (a_notes_odds, .inl (X.2.1 0, 4, .inl f_notes_odds))]) hx hb hml hts hown hG hA hP hD rfl hS hl.1 (qX10_isGame l X x0 x1 x2 o_1 ho_1) (va_cwS (y := yX10_isGame) 3 hts gX10_open_X10_isGame rfl rfl rfl hdsX10_isGame ⟨Nat.le_of_ble_eq_true rfl, Nat.le_of_ble_eq_true rfl⟩) [] [0, 1, 2, 3, 4, 5] [0, 1, 2, 3, 4, 5] rfl rfl rfl rfl rfl rfl rfl rfl rfl (Nat.le_of_ble_eq_true rfl) ⟨Nat.le_of_ble_eq_true rfl, Nat.le_of_ble_eq_true rfl⟩ dX10_open_3 (fun H locs hP _ hS => ?_)
  refine lv_if_ne (tgt := 11) hx hb dX10_open_6 (by decide) (fun c_3 => ?_) (fun c_3 => ?_)
  · have hf := xf hf c_3
    refine lv_aload_n hx hb dX10_open_11 rfl (lv_at hl 0 rfl) ?_
    refine va_get (D := X.1) (ci := 10) (v := .ref a_game) (C := RX10) (T := TX10) (N := 13) hx hb hts in10 hown hG.1 hP 0 rfl rfl 10 (by decide) w1 (fun _ h9 => h9) rfl dX10_open_12 ?_
    refine lv_iload_n hx hb dX10_open_15 rfl (lv_at hl 1 rfl) ?_
    refine lv_iload_n hx hb dX10_open_16 rfl (lv_at hl 2 rfl) ?_
    obtain ⟨o_4, ho_4, hf⟩ := ob_s hf
    refine xV_v (As := [.int x0, .int x1]) (b := a_game) (rest := []) (ws2 := fun _ => [(a_this, .inr (10, [.ref a_text, .ref a_reader, .ref a_draft, .ref a_laid, .ref a_cards, .ref a_flips, .ref a_bench, .ref a_notes, .ref a_presses, .ref a_told, .ref a_game, .ref a_kept, .int i_keptCount])), (a_game, .inr (4, [.ref a_notes, .ref o_4.2.2.2.2.2.1, .ref o_4.2.2.2.2.2.2, .int o_4.2.2.1, .int o_4.2.2.2.1, .int o_4.2.1])), (a_notes, .inr (5, [.ref a_notes_delays, .ref a_notes_margins, .ref a_notes_odds])), (o_4.2.2.2.2.2.2, .inl (X.2.1 0, 49, .inl o_4.2.2.2.2.1)), (o_4.2.2.2.2.2.1, .inl (X.2.1 0, 49, .inl o_4.1)), (a_notes_odds, .inl (X.2.1 0, 4, .inl f_notes_odds))]) hx hb hml hts hown hG hA hP hD rfl hS hl.1 (qX4_playOpen l X a_game a_game_before a_notes a_game_values a_notes_odds a_notes_delays a_notes_margins i_game_value i_game_zeroPushes i_game_onePushes f_game_before f_game_values f_notes_odds x0 x1 o_4 ho_4) (cwV (y := yX4_playOpen) 2 hts gX10_open_X4_playOpen rfl rfl rfl hdvX4_playOpen ⟨Nat.le_of_ble_eq_true rfl, Nat.le_of_ble_eq_true rfl⟩) [1, 3, 2, 4, 5] [0] [0, 1, 3, 2, 4, 5] rfl rfl rfl rfl rfl rfl (fun _ => rfl) (ci := 4) rfl 1 rfl rfl rfl (Nat.le_of_ble_eq_true rfl) ⟨Nat.le_of_ble_eq_true rfl, Nat.le_of_ble_eq_true rfl⟩ dX10_open_17 (fun u_5 H locs hP hD hS => ?_)
    have hD : aD A [a_this, a_game, a_notes, o_4.2.2.2.2.2.2, o_4.2.2.2.2.2.1, a_notes_odds] := hD
    refine lv_aload_n hx hb dX10_open_20 rfl (lv_at hl 0 rfl) ?_
    refine va_get (D := X.1) (ci := 10) (v := .ref a_game) (C := RX10) (T := TX10) (N := 13) hx hb hts in10 hown hG.1 hP 0 rfl rfl 10 (by decide) w1 (fun _ h9 => h9) rfl dX10_open_21 ?_
    refine lv_iload_n hx hb dX10_open_24 rfl (lv_at hl 3 rfl) ?_
    obtain ⟨o_6, ho_6, hf⟩ := ob_s hf
    refine xV_i (As := [.int x2]) (b := a_game) (rest := []) (ws2 := [(a_this, .inr (10, [.ref a_text, .ref a_reader, .ref a_draft, .ref a_laid, .ref a_cards, .ref a_flips, .ref a_bench, .ref a_notes, .ref a_presses, .ref a_told, .ref a_game, .ref a_kept, .int i_keptCount])), (a_game, .inr (4, [.ref a_notes, .ref o_4.2.2.2.2.2.1, .ref o_4.2.2.2.2.2.2, .int o_4.2.2.1, .int o_4.2.2.2.1, .int o_4.2.1])), (a_notes, .inr (5, [.ref a_notes_delays, .ref a_notes_margins, .ref a_notes_odds])), (o_4.2.2.2.2.2.2, .inl (X.2.1 0, 49, .inl o_4.2.2.2.2.1)), (o_4.2.2.2.2.2.1, .inl (X.2.1 0, 49, .inl o_4.1)), (a_notes_odds, .inl (X.2.1 0, 4, .inl f_notes_odds))]) hx hb hml hts hown hG hA hP hD rfl hS hl.1 (qX4_result l X a_game a_notes o_4.2.2.2.2.2.1 o_4.2.2.2.2.2.2 o_4.2.2.1 o_4.2.2.2.1 o_4.2.1 x2 o_6 ho_6) (cwV (y := yX4_result) 1 hts gX10_open_X4_result rfl rfl rfl hdvX4_result ⟨Nat.le_of_ble_eq_true rfl, Nat.le_of_ble_eq_true rfl⟩) [1] [0, 2, 3, 4, 5] [0, 5, 1, 2, 3, 4] rfl rfl rfl rfl rfl rfl rfl (ci := 4) rfl 1 rfl rfl rfl (Nat.le_of_ble_eq_true rfl) ⟨Nat.le_of_ble_eq_true rfl, Nat.le_of_ble_eq_true rfl⟩ dX10_open_25 (fun H locs hP _ hS => ?_)
    obtain rfl := Option.some.inj hf
    exact ret H _ ls _ rfl hP hD hS dX10_open_28
  · have hf := xt hf c_3
    refine lv_iconst (v := (-1 : Int32)) hx hb dX10_open_9 (by decide) ?_
    obtain rfl := Option.some.inj hf
    exact ret H _ ls _ rfl hP hD hS dX10_open_10
def mX10_hidden (x0 : Int32) (x1 : Int32) (x2 : Int32) (i_game_value : Int32) (i_game_zeroPushes : Int32) (i_game_onePushes : Int32) (f_game_before : Nat → Int32) (f_game_values : Nat → Int32) (f_notes_odds : Nat → Int32) (a_game_values : Nat) (a_game_before : Nat) :
  Option (Int32 × (Nat → Int32) × (Nat → Int32) × Nat × Nat × Int32 × Int32 × Int32) :=
  (mX10_isGame x0 x1 x2).bind fun o_1 =>
  if o_1 = 0 then (some ((-1 : Int32), f_game_values, f_game_before, a_game_values, a_game_before, i_game_onePushes, i_game_value, i_game_zeroPushes)) else ((mX4_playHidden x0 x1 i_game_value i_game_zeroPushes i_game_onePushes f_game_before f_game_values f_notes_odds a_game_values a_game_before).bind fun o_4 =>
  (mX4_result x2 o_4.2.2.2.2.2.1 o_4.2.2.2.2.2.2 o_4.2.2.2.2.1).bind fun o_6 =>
  some (o_6, o_4.1, o_4.2.1, o_4.2.2.1, o_4.2.2.2.1, o_4.2.2.2.2.1, o_4.2.2.2.2.2.1, o_4.2.2.2.2.2.2))
theorem hdsX10_hidden : yX10_hidden.cls ≠ "java/lang/invoke/MethodHandle" ∧ yX10_hidden.cls ≠ "java/lang/invoke/VarHandle" ∧ (parseMethodDescriptor yX10_hidden.desc).map (fun d => d.parameters.length) = some 3 := by decide +kernel
theorem hdvX10_hidden : yX10_hidden.cls = RX10 ∧ yX10_hidden.cls ≠ "java/lang/invoke/MethodHandle" ∧ yX10_hidden.cls ≠ "java/lang/invoke/VarHandle" ∧ (parseMethodDescriptor yX10_hidden.desc).map (fun d => d.parameters.length) = some 3 := by decide +kernel
abbrev rmX10_hidden : Room := { frames := 3, cells := 0, slots := 0, locals := 72 }
set_option maxHeartbeats 4000000 in
set_option maxRecDepth 100000 in
theorem qX10_hidden (l : Launch) (X : XT) (a_this : Nat) (a_game : Nat) (a_notes : Nat) (a_game_before : Nat) (a_game_values : Nat) (a_notes_odds : Nat) (a_text : Nat) (a_reader : Nat) (a_draft : Nat) (a_laid : Nat) (a_cards : Nat) (a_flips : Nat) (a_bench : Nat) (a_presses : Nat) (a_told : Nat) (a_kept : Nat) (a_notes_delays : Nat) (a_notes_margins : Nat)  (i_keptCount : Int32) (i_game_value : Int32) (i_game_zeroPushes : Int32) (i_game_onePushes : Int32) (f_game_before : Nat → Int32) (f_game_values : Nat → Int32) (f_notes_odds : Nat → Int32) (x0 : Int32) (x1 : Int32) (x2 : Int32) (o : Int32 × (Nat → Int32) × (Nat → Int32) × Nat × Nat × Int32 × Int32 × Int32) (hf : mX10_hidden x0 x1 x2 i_game_value i_game_zeroPushes i_game_onePushes f_game_before f_game_values f_notes_odds a_game_values a_game_before = some o) :
    MI l yX10_hidden wsX10_hidden rmX10_hidden X [.ref a_this, .int x0, .int x1, .int x2] [(a_this, .inr (10, [.ref a_text, .ref a_reader, .ref a_draft, .ref a_laid, .ref a_cards, .ref a_flips, .ref a_bench, .ref a_notes, .ref a_presses, .ref a_told, .ref a_game, .ref a_kept, .int i_keptCount])), (a_game, .inr (4, [.ref a_notes, .ref a_game_values, .ref a_game_before, .int i_game_value, .int i_game_zeroPushes, .int i_game_onePushes])), (a_notes, .inr (5, [.ref a_notes_delays, .ref a_notes_margins, .ref a_notes_odds])), (a_game_before, .inl (X.2.1 0, 49, .inl f_game_before)), (a_game_values, .inl (X.2.1 0, 49, .inl f_game_values)), (a_notes_odds, .inl (X.2.1 0, 4, .inl f_notes_odds))]  [(a_this, .inr (10, [.ref a_text, .ref a_reader, .ref a_draft, .ref a_laid, .ref a_cards, .ref a_flips, .ref a_bench, .ref a_notes, .ref a_presses, .ref a_told, .ref a_game, .ref a_kept, .int i_keptCount])), (a_game, .inr (4, [.ref a_notes, .ref o.2.2.2.1, .ref o.2.2.2.2.1, .int o.2.2.2.2.2.2.1, .int o.2.2.2.2.2.2.2, .int o.2.2.2.2.2.1])), (a_notes, .inr (5, [.ref a_notes_delays, .ref a_notes_margins, .ref a_notes_odds])), (o.2.2.2.2.1, .inl (X.2.1 0, 49, .inl o.2.2.1)), (o.2.2.2.1, .inl (X.2.1 0, 49, .inl o.2.1)), (a_notes_odds, .inl (X.2.1 0, 4, .inl f_notes_odds))] o.1 := by
  refine MI_ofH (cc := cX10_hidden) (maxL := 4) (rt := .int) (by decide) rfl (Nat.le_of_ble_eq_true rfl) ?_
  intro p e s m below meth c A Q H ls hx hb hml hts hown hA hD hG hP hS hl ret
  have hown : s.vm.findClass RX10 = some m.cls := hown
  have hD : aD A [a_this, a_game, a_notes, a_game_before, a_game_values, a_notes_odds] := hD
  have hl : lv_has ls 4 [(0, .ref a_this), (1, .int x0), (2, .int x1), (3, .int x2)] := hl
  have w1 := hts (Cond.fieldLink RX10 88 "ThreeCards" "game" "LThreeCards$Game;") (List.mem_of_getElem? (i := 1) rfl)
  have in10 : ∀ w ∈ u_ws RX10 TX10 13, w ∈ wsX10_hidden := by decide +kernel
  unfold mX10_hidden at hf
  refine lv_iload_n hx hb dX10_hidden_0 rfl (lv_at hl 1 rfl) ?_
  refine lv_iload_n hx hb dX10_hidden_1 rfl (lv_at hl 2 rfl) ?_
  refine lv_iload_n hx hb dX10_hidden_2 rfl (lv_at hl 3 rfl) ?_
  obtain ⟨o_1, ho_1, hf⟩ := ob_s hf
  refine xS_i (As := [.int x0, .int x1, .int x2]) (rest := []) (ws2 := [(a_this, .inr (10, [.ref a_text, .ref a_reader, .ref a_draft, .ref a_laid, .ref a_cards, .ref a_flips, .ref a_bench, .ref a_notes, .ref a_presses, .ref a_told, .ref a_game, .ref a_kept, .int i_keptCount])), (a_game, .inr (4, [.ref a_notes, .ref a_game_values, .ref a_game_before, .int i_game_value, .int i_game_zeroPushes, .int i_game_onePushes])), (a_notes, .inr (5, [.ref a_notes_delays, .ref a_notes_margins, .ref a_notes_odds])), (a_game_before, .inl (X.2.1 0, 49, .inl f_game_before)), (a_game_values, .inl (X.2.1 0, 49, .inl f_game_values)), (a_notes_odds, .inl (X.2.1 0, 4, .inl f_notes_odds))]) hx hb hml hts hown hG hA hP hD rfl hS hl.1 (qX10_isGame l X x0 x1 x2 o_1 ho_1) (va_cwS (y := yX10_isGame) 3 hts gX10_hidden_X10_isGame rfl rfl rfl hdsX10_isGame ⟨Nat.le_of_ble_eq_true rfl, Nat.le_of_ble_eq_true rfl⟩) [] [0, 1, 2, 3, 4, 5] [0, 1, 2, 3, 4, 5] rfl rfl rfl rfl rfl rfl rfl rfl rfl (Nat.le_of_ble_eq_true rfl) ⟨Nat.le_of_ble_eq_true rfl, Nat.le_of_ble_eq_true rfl⟩ dX10_hidden_3 (fun H locs hP _ hS => ?_)
  refine lv_if_ne (tgt := 11) hx hb dX10_hidden_6 (by decide) (fun c_3 => ?_) (fun c_3 => ?_)
  · have hf := xf hf c_3
    refine lv_aload_n hx hb dX10_hidden_11 rfl (lv_at hl 0 rfl) ?_
    refine va_get (D := X.1) (ci := 10) (v := .ref a_game) (C := RX10) (T := TX10) (N := 13) hx hb hts in10 hown hG.1 hP 0 rfl rfl 10 (by decide) w1 (fun _ h9 => h9) rfl dX10_hidden_12 ?_
    refine lv_iload_n hx hb dX10_hidden_15 rfl (lv_at hl 1 rfl) ?_
    refine lv_iload_n hx hb dX10_hidden_16 rfl (lv_at hl 2 rfl) ?_
    obtain ⟨o_4, ho_4, hf⟩ := ob_s hf
    refine xV_v (As := [.int x0, .int x1]) (b := a_game) (rest := []) (ws2 := fun _ => [(a_this, .inr (10, [.ref a_text, .ref a_reader, .ref a_draft, .ref a_laid, .ref a_cards, .ref a_flips, .ref a_bench, .ref a_notes, .ref a_presses, .ref a_told, .ref a_game, .ref a_kept, .int i_keptCount])), (a_game, .inr (4, [.ref a_notes, .ref o_4.2.2.1, .ref o_4.2.2.2.1, .int o_4.2.2.2.2.2.1, .int o_4.2.2.2.2.2.2, .int o_4.2.2.2.2.1])), (a_notes, .inr (5, [.ref a_notes_delays, .ref a_notes_margins, .ref a_notes_odds])), (o_4.2.2.2.1, .inl (X.2.1 0, 49, .inl o_4.2.1)), (o_4.2.2.1, .inl (X.2.1 0, 49, .inl o_4.1)), (a_notes_odds, .inl (X.2.1 0, 4, .inl f_notes_odds))]) hx hb hml hts hown hG hA hP hD rfl hS hl.1 (qX4_playHidden l X a_game a_game_before a_notes a_game_values a_notes_odds a_notes_delays a_notes_margins i_game_value i_game_zeroPushes i_game_onePushes f_game_before f_game_values f_notes_odds x0 x1 o_4 ho_4) (cwV (y := yX4_playHidden) 2 hts gX10_hidden_X4_playHidden rfl rfl rfl hdvX4_playHidden ⟨Nat.le_of_ble_eq_true rfl, Nat.le_of_ble_eq_true rfl⟩) [1, 3, 2, 4, 5] [0] [0, 1, 3, 2, 4, 5] rfl rfl rfl rfl rfl rfl (fun _ => rfl) (ci := 4) rfl 1 rfl rfl rfl (Nat.le_of_ble_eq_true rfl) ⟨Nat.le_of_ble_eq_true rfl, Nat.le_of_ble_eq_true rfl⟩ dX10_hidden_17 (fun u_5 H locs hP hD hS => ?_)
    have hD : aD A [a_this, a_game, a_notes, o_4.2.2.2.1, o_4.2.2.1, a_notes_odds] := hD
    refine lv_aload_n hx hb dX10_hidden_20 rfl (lv_at hl 0 rfl) ?_
    refine va_get (D := X.1) (ci := 10) (v := .ref a_game) (C := RX10) (T := TX10) (N := 13) hx hb hts in10 hown hG.1 hP 0 rfl rfl 10 (by decide) w1 (fun _ h9 => h9) rfl dX10_hidden_21 ?_
    refine lv_iload_n hx hb dX10_hidden_24 rfl (lv_at hl 3 rfl) ?_
    obtain ⟨o_6, ho_6, hf⟩ := ob_s hf
    refine xV_i (As := [.int x2]) (b := a_game) (rest := []) (ws2 := [(a_this, .inr (10, [.ref a_text, .ref a_reader, .ref a_draft, .ref a_laid, .ref a_cards, .ref a_flips, .ref a_bench, .ref a_notes, .ref a_presses, .ref a_told, .ref a_game, .ref a_kept, .int i_keptCount])), (a_game, .inr (4, [.ref a_notes, .ref o_4.2.2.1, .ref o_4.2.2.2.1, .int o_4.2.2.2.2.2.1, .int o_4.2.2.2.2.2.2, .int o_4.2.2.2.2.1])), (a_notes, .inr (5, [.ref a_notes_delays, .ref a_notes_margins, .ref a_notes_odds])), (o_4.2.2.2.1, .inl (X.2.1 0, 49, .inl o_4.2.1)), (o_4.2.2.1, .inl (X.2.1 0, 49, .inl o_4.1)), (a_notes_odds, .inl (X.2.1 0, 4, .inl f_notes_odds))]) hx hb hml hts hown hG hA hP hD rfl hS hl.1 (qX4_result l X a_game a_notes o_4.2.2.1 o_4.2.2.2.1 o_4.2.2.2.2.2.1 o_4.2.2.2.2.2.2 o_4.2.2.2.2.1 x2 o_6 ho_6) (cwV (y := yX4_result) 1 hts gX10_hidden_X4_result rfl rfl rfl hdvX4_result ⟨Nat.le_of_ble_eq_true rfl, Nat.le_of_ble_eq_true rfl⟩) [1] [0, 2, 3, 4, 5] [0, 5, 1, 2, 3, 4] rfl rfl rfl rfl rfl rfl rfl (ci := 4) rfl 1 rfl rfl rfl (Nat.le_of_ble_eq_true rfl) ⟨Nat.le_of_ble_eq_true rfl, Nat.le_of_ble_eq_true rfl⟩ dX10_hidden_25 (fun H locs hP _ hS => ?_)
    obtain rfl := Option.some.inj hf
    exact ret H _ ls _ rfl hP hD hS dX10_hidden_28
  · have hf := xt hf c_3
    refine lv_iconst (v := (-1 : Int32)) hx hb dX10_hidden_9 (by decide) ?_
    obtain rfl := Option.some.inj hf
    exact ret H _ ls _ rfl hP hD hS dX10_hidden_10
def mX10_keep (i_keptCount : Int32) (f_notes_delays : Nat → Int32) (f_notes_margins : Nat → Int32) (f_notes_odds : Nat → Int32) (f_kept_0_delays : Nat → Int32) (f_kept_0_margins : Nat → Int32) (f_kept_0_odds : Nat → Int32) (f_kept_1_delays : Nat → Int32) (f_kept_1_margins : Nat → Int32) (f_kept_1_odds : Nat → Int32) :
  Option (Int32 × (Nat → Int32) × (Nat → Int32) × (Nat → Int32) × (Nat → Int32) × (Nat → Int32) × (Nat → Int32) × Int32) :=
  if i_keptCount < (2 : Int32) then (if i_keptCount = (0 : Int32) then ((mX5_copyFrom f_kept_0_delays f_kept_0_margins f_kept_0_odds f_notes_delays f_notes_margins f_notes_odds).bind fun o_4 =>
  lb (i_keptCount + (1 : Int32)) fun v_6 =>
  some (v_6, o_4.1, f_kept_1_delays, o_4.2.1, f_kept_1_margins, o_4.2.2, f_kept_1_odds, v_6)) else (if i_keptCount = (1 : Int32) then ((mX5_copyFrom f_kept_1_delays f_kept_1_margins f_kept_1_odds f_notes_delays f_notes_margins f_notes_odds).bind fun o_7 =>
  lb (i_keptCount + (1 : Int32)) fun v_9 =>
  some (v_9, f_kept_0_delays, o_7.1, f_kept_0_margins, o_7.2.1, f_kept_0_odds, o_7.2.2, v_9)) else none)) else (some ((-3 : Int32), f_kept_0_delays, f_kept_1_delays, f_kept_0_margins, f_kept_1_margins, f_kept_0_odds, f_kept_1_odds, i_keptCount))
theorem hdsX10_keep : yX10_keep.cls ≠ "java/lang/invoke/MethodHandle" ∧ yX10_keep.cls ≠ "java/lang/invoke/VarHandle" ∧ (parseMethodDescriptor yX10_keep.desc).map (fun d => d.parameters.length) = some 0 := by decide +kernel
theorem hdvX10_keep : yX10_keep.cls = RX10 ∧ yX10_keep.cls ≠ "java/lang/invoke/MethodHandle" ∧ yX10_keep.cls ≠ "java/lang/invoke/VarHandle" ∧ (parseMethodDescriptor yX10_keep.desc).map (fun d => d.parameters.length) = some 0 := by decide +kernel
abbrev rmX10_keep : Room := { frames := 2, cells := 0, slots := 0, locals := 81 }
set_option maxHeartbeats 4000000 in
set_option maxRecDepth 100000 in
theorem qX10_keep (l : Launch) (X : XT) (a_this : Nat) (a_kept : Nat) (a_notes : Nat) (a_kept_0 : Nat) (a_kept_1 : Nat) (a_notes_delays : Nat) (a_notes_margins : Nat) (a_notes_odds : Nat) (a_kept_0_delays : Nat) (a_kept_0_margins : Nat) (a_kept_0_odds : Nat) (a_kept_1_delays : Nat) (a_kept_1_margins : Nat) (a_kept_1_odds : Nat) (a_text : Nat) (a_reader : Nat) (a_draft : Nat) (a_laid : Nat) (a_cards : Nat) (a_flips : Nat) (a_bench : Nat) (a_presses : Nat) (a_told : Nat) (a_game : Nat)  (i_keptCount : Int32) (f_notes_delays : Nat → Int32) (f_notes_margins : Nat → Int32) (f_notes_odds : Nat → Int32) (f_kept_0_delays : Nat → Int32) (f_kept_0_margins : Nat → Int32) (f_kept_0_odds : Nat → Int32) (f_kept_1_delays : Nat → Int32) (f_kept_1_margins : Nat → Int32) (f_kept_1_odds : Nat → Int32)  (o : Int32 × (Nat → Int32) × (Nat → Int32) × (Nat → Int32) × (Nat → Int32) × (Nat → Int32) × (Nat → Int32) × Int32) (hf : mX10_keep i_keptCount f_notes_delays f_notes_margins f_notes_odds f_kept_0_delays f_kept_0_margins f_kept_0_odds f_kept_1_delays f_kept_1_margins f_kept_1_odds = some o) :
    MI l yX10_keep wsX10_keep rmX10_keep X [.ref a_this] [(a_this, .inr (10, [.ref a_text, .ref a_reader, .ref a_draft, .ref a_laid, .ref a_cards, .ref a_flips, .ref a_bench, .ref a_notes, .ref a_presses, .ref a_told, .ref a_game, .ref a_kept, .int i_keptCount])), (a_kept, .inl (X.2.1 3, 2, .inr (.inr (.inr (.inr (va_up (va_up (fun _ => none) 0 (some a_kept_0)) 1 (some a_kept_1))))))), (a_notes, .inr (5, [.ref a_notes_delays, .ref a_notes_margins, .ref a_notes_odds])), (a_kept_0, .inr (5, [.ref a_kept_0_delays, .ref a_kept_0_margins, .ref a_kept_0_odds])), (a_kept_1, .inr (5, [.ref a_kept_1_delays, .ref a_kept_1_margins, .ref a_kept_1_odds])), (a_notes_delays, .inl (X.2.1 0, 8, .inl f_notes_delays)), (a_notes_margins, .inl (X.2.1 0, 144, .inl f_notes_margins)), (a_notes_odds, .inl (X.2.1 0, 4, .inl f_notes_odds)), (a_kept_0_delays, .inl (X.2.1 0, 8, .inl f_kept_0_delays)), (a_kept_0_margins, .inl (X.2.1 0, 144, .inl f_kept_0_margins)), (a_kept_0_odds, .inl (X.2.1 0, 4, .inl f_kept_0_odds)), (a_kept_1_delays, .inl (X.2.1 0, 8, .inl f_kept_1_delays)), (a_kept_1_margins, .inl (X.2.1 0, 144, .inl f_kept_1_margins)), (a_kept_1_odds, .inl (X.2.1 0, 4, .inl f_kept_1_odds))]  [(a_this, .inr (10, [.ref a_text, .ref a_reader, .ref a_draft, .ref a_laid, .ref a_cards, .ref a_flips, .ref a_bench, .ref a_notes, .ref a_presses, .ref a_told, .ref a_game, .ref a_kept, .int o.2.2.2.2.2.2.2])), (a_kept, .inl (X.2.1 3, 2, .inr (.inr (.inr (.inr (va_up (va_up (fun _ => none) 0 (some a_kept_0)) 1 (some a_kept_1))))))), (a_notes, .inr (5, [.ref a_notes_delays, .ref a_notes_margins, .ref a_notes_odds])), (a_kept_0, .inr (5, [.ref a_kept_0_delays, .ref a_kept_0_margins, .ref a_kept_0_odds])), (a_kept_1, .inr (5, [.ref a_kept_1_delays, .ref a_kept_1_margins, .ref a_kept_1_odds])), (a_notes_delays, .inl (X.2.1 0, 8, .inl f_notes_delays)), (a_notes_margins, .inl (X.2.1 0, 144, .inl f_notes_margins)), (a_notes_odds, .inl (X.2.1 0, 4, .inl f_notes_odds)), (a_kept_0_delays, .inl (X.2.1 0, 8, .inl o.2.1)), (a_kept_0_margins, .inl (X.2.1 0, 144, .inl o.2.2.2.1)), (a_kept_0_odds, .inl (X.2.1 0, 4, .inl o.2.2.2.2.2.1)), (a_kept_1_delays, .inl (X.2.1 0, 8, .inl o.2.2.1)), (a_kept_1_margins, .inl (X.2.1 0, 144, .inl o.2.2.2.2.1)), (a_kept_1_odds, .inl (X.2.1 0, 4, .inl o.2.2.2.2.2.2.1))] o.1 := by
  refine MI_ofH (cc := cX10_keep) (maxL := 1) (rt := .int) (by decide) rfl (Nat.le_of_ble_eq_true rfl) ?_
  intro p e s m below meth c A Q H ls hx hb hml hts hown hA hD hG hP hS hl ret
  have hown : s.vm.findClass RX10 = some m.cls := hown
  have hD : aD A [a_this, a_kept, a_notes, a_kept_0, a_kept_1, a_notes_delays, a_notes_margins, a_notes_odds, a_kept_0_delays, a_kept_0_margins, a_kept_0_odds, a_kept_1_delays, a_kept_1_margins, a_kept_1_odds] := hD
  have hl : lv_has ls 1 [(0, .ref a_this)] := hl
  have w1 := hts (.fieldLink RX10 96 "ThreeCards" "keptCount" "I") (List.mem_of_getElem? (i := 1) rfl)
  have w2 := hts (.fieldLink RX10 92 "ThreeCards" "kept" "[LThreeCards$Notes;") (List.mem_of_getElem? (i := 2) rfl)
  have w3 := hts (.fieldLink RX10 63 "ThreeCards" "notes" "LThreeCards$Notes;") (List.mem_of_getElem? (i := 3) rfl)
  have in10 : ∀ w ∈ u_ws RX10 TX10 13, w ∈ wsX10_keep := by decide +kernel
  unfold mX10_keep at hf
  refine lv_aload_n hx hb dX10_keep_0 rfl (lv_at hl 0 rfl) ?_
  refine va_get (D := X.1) (ci := 10) (v := .int i_keptCount) (C := RX10) (T := TX10) (N := 13) hx hb hts in10 hown hG.1 hP 0 rfl rfl 12 (by decide) w1 (fun _ h9 => h9) rfl dX10_keep_1 ?_
  refine lv_iconst (v := (2 : Int32)) hx hb dX10_keep_4 (by decide) ?_
  refine lv_icmp_lt (tgt := 11) hx hb dX10_keep_5 (by decide) (fun c_1 => ?_) (fun c_1 => ?_)
  · have hf := xt hf c_1
    refine lv_aload_n hx hb dX10_keep_11 rfl (lv_at hl 0 rfl) ?_
    refine va_get (D := X.1) (ci := 10) (v := .ref a_kept) (C := RX10) (T := TX10) (N := 13) hx hb hts in10 hown hG.1 hP 0 rfl rfl 11 (by decide) w2 (fun _ h9 => h9) rfl dX10_keep_12 ?_
    refine lv_aload_n hx hb dX10_keep_15 rfl (lv_at hl 0 rfl) ?_
    refine va_get (D := X.1) (ci := 10) (v := .int i_keptCount) (C := RX10) (T := TX10) (N := 13) hx hb hts in10 hown hG.1 hP 0 rfl rfl 12 (by decide) w1 (fun _ h9 => h9) rfl dX10_keep_16 ?_
    by_cases c_2 : i_keptCount = (0 : Int32)
    · have hf := xt hf c_2
      refine va_aldq (D := X.1) (f := (va_up (va_up (fun _ => none) 0 (some a_kept_0)) 1 (some a_kept_1))) hx hb hG.1 hP 1 3 rfl rfl (by rw [c_2]; exact vp_lit (by decide)) dX10_keep_19 ?_
      rw [show va_rf ((va_up (va_up (fun _ => none) 0 (some a_kept_0)) 1 (some a_kept_1)) i_keptCount.toNatClampNeg) = .ref a_kept_0 from by rw [c_2]; rfl]
      refine lv_aload_n hx hb dX10_keep_20 rfl (lv_at hl 0 rfl) ?_
      refine va_get (D := X.1) (ci := 10) (v := .ref a_notes) (C := RX10) (T := TX10) (N := 13) hx hb hts in10 hown hG.1 hP 0 rfl rfl 7 (by decide) w3 (fun _ h9 => h9) rfl dX10_keep_21 ?_
      obtain ⟨o_4, ho_4, hf⟩ := ob_s hf
      refine xV_v (As := [.ref a_notes]) (b := a_kept_0) (rest := []) (ws2 := fun _ => [(a_this, .inr (10, [.ref a_text, .ref a_reader, .ref a_draft, .ref a_laid, .ref a_cards, .ref a_flips, .ref a_bench, .ref a_notes, .ref a_presses, .ref a_told, .ref a_game, .ref a_kept, .int i_keptCount])), (a_kept, .inl (X.2.1 3, 2, .inr (.inr (.inr (.inr (va_up (va_up (fun _ => none) 0 (some a_kept_0)) 1 (some a_kept_1))))))), (a_notes, .inr (5, [.ref a_notes_delays, .ref a_notes_margins, .ref a_notes_odds])), (a_kept_0, .inr (5, [.ref a_kept_0_delays, .ref a_kept_0_margins, .ref a_kept_0_odds])), (a_kept_1, .inr (5, [.ref a_kept_1_delays, .ref a_kept_1_margins, .ref a_kept_1_odds])), (a_notes_delays, .inl (X.2.1 0, 8, .inl f_notes_delays)), (a_notes_margins, .inl (X.2.1 0, 144, .inl f_notes_margins)), (a_notes_odds, .inl (X.2.1 0, 4, .inl f_notes_odds)), (a_kept_0_delays, .inl (X.2.1 0, 8, .inl o_4.1)), (a_kept_0_margins, .inl (X.2.1 0, 144, .inl o_4.2.1)), (a_kept_0_odds, .inl (X.2.1 0, 4, .inl o_4.2.2)), (a_kept_1_delays, .inl (X.2.1 0, 8, .inl f_kept_1_delays)), (a_kept_1_margins, .inl (X.2.1 0, 144, .inl f_kept_1_margins)), (a_kept_1_odds, .inl (X.2.1 0, 4, .inl f_kept_1_odds))]) hx hb hml hts hown hG hA hP hD rfl hS hl.1 (qX5_copyFrom l X a_kept_0 a_kept_0_delays a_kept_0_margins a_kept_0_odds a_notes a_notes_delays a_notes_margins a_notes_odds f_kept_0_delays f_kept_0_margins f_kept_0_odds f_notes_delays f_notes_margins f_notes_odds o_4 ho_4) (cwV (y := yX5_copyFrom) 1 hts gX10_keep_X5_copyFrom rfl rfl rfl hdvX5_copyFrom ⟨Nat.le_of_ble_eq_true rfl, Nat.le_of_ble_eq_true rfl⟩) [3, 8, 9, 10, 2, 5, 6, 7] [0, 1, 4, 11, 12, 13] [0, 1, 10, 6, 2, 11, 12, 13, 7, 8, 9, 3, 4, 5] rfl rfl rfl rfl rfl rfl (fun _ => rfl) (ci := 5) rfl 3 rfl rfl rfl (Nat.le_of_ble_eq_true rfl) ⟨Nat.le_of_ble_eq_true rfl, Nat.le_of_ble_eq_true rfl⟩ dX10_keep_24 (fun u_5 H locs hP _ hS => ?_)
      refine lv_aload_n hx hb dX10_keep_27 rfl (lv_at hl 0 rfl) ?_
      refine lv_dup hx hb dX10_keep_28 rfl ?_
      refine va_get (D := X.1) (ci := 10) (v := .int i_keptCount) (C := RX10) (T := TX10) (N := 13) hx hb hts in10 hown hG.1 hP 0 rfl rfl 12 (by decide) w1 (fun _ h9 => h9) rfl dX10_keep_29 ?_
      refine lv_iconst (v := (1 : Int32)) hx hb dX10_keep_32 (by decide) ?_
      refine lv_iadd hx hb dX10_keep_33 ?_
      refine lv_topi (fun v_6 ev_6 => ?_)
      have hf := lb_s hf ev_6
      refine x_put (ws' := [(a_this, .inr (10, [.ref a_text, .ref a_reader, .ref a_draft, .ref a_laid, .ref a_cards, .ref a_flips, .ref a_bench, .ref a_notes, .ref a_presses, .ref a_told, .ref a_game, .ref a_kept, .int v_6])), (a_kept, .inl (X.2.1 3, 2, .inr (.inr (.inr (.inr (va_up (va_up (fun _ => none) 0 (some a_kept_0)) 1 (some a_kept_1))))))), (a_notes, .inr (5, [.ref a_notes_delays, .ref a_notes_margins, .ref a_notes_odds])), (a_kept_0, .inr (5, [.ref a_kept_0_delays, .ref a_kept_0_margins, .ref a_kept_0_odds])), (a_kept_1, .inr (5, [.ref a_kept_1_delays, .ref a_kept_1_margins, .ref a_kept_1_odds])), (a_notes_delays, .inl (X.2.1 0, 8, .inl f_notes_delays)), (a_notes_margins, .inl (X.2.1 0, 144, .inl f_notes_margins)), (a_notes_odds, .inl (X.2.1 0, 4, .inl f_notes_odds)), (a_kept_0_delays, .inl (X.2.1 0, 8, .inl o_4.1)), (a_kept_0_margins, .inl (X.2.1 0, 144, .inl o_4.2.1)), (a_kept_0_odds, .inl (X.2.1 0, 4, .inl o_4.2.2)), (a_kept_1_delays, .inl (X.2.1 0, 8, .inl f_kept_1_delays)), (a_kept_1_margins, .inl (X.2.1 0, 144, .inl f_kept_1_margins)), (a_kept_1_odds, .inl (X.2.1 0, 4, .inl f_kept_1_odds))]) (ty := .int) (C := RX10) (T := TX10) (N := 13) hx hb hts in10 tyX10 tyX10_ok nmX10 hown hG hP hD rfl hS 0 rfl rfl 12 (by decide) w1 rfl (tyX10_ok 12 (by decide)) rfl rfl (Nat.le_of_ble_eq_true rfl) dX10_keep_34 rfl (fun H locs hP hS => ?_)
      refine lv_aload_n hx hb dX10_keep_37 rfl (lv_at hl 0 rfl) ?_
      refine va_get (D := X.1) (ci := 10) (v := .int v_6) (C := RX10) (T := TX10) (N := 13) hx hb hts in10 hown hG.1 hP 0 rfl rfl 12 (by decide) w1 (fun _ h9 => h9) rfl dX10_keep_38 ?_
      obtain rfl := Option.some.inj hf
      exact ret H _ ls _ rfl hP hD hS dX10_keep_41
    · have hf := xf hf c_2
      by_cases c_3 : i_keptCount = (1 : Int32)
      · have hf := xt hf c_3
        refine va_aldq (D := X.1) (f := (va_up (va_up (fun _ => none) 0 (some a_kept_0)) 1 (some a_kept_1))) hx hb hG.1 hP 1 3 rfl rfl (by rw [c_3]; exact vp_lit (by decide)) dX10_keep_19 ?_
        rw [show va_rf ((va_up (va_up (fun _ => none) 0 (some a_kept_0)) 1 (some a_kept_1)) i_keptCount.toNatClampNeg) = .ref a_kept_1 from by rw [c_3]; rfl]
        refine lv_aload_n hx hb dX10_keep_20 rfl (lv_at hl 0 rfl) ?_
        refine va_get (D := X.1) (ci := 10) (v := .ref a_notes) (C := RX10) (T := TX10) (N := 13) hx hb hts in10 hown hG.1 hP 0 rfl rfl 7 (by decide) w3 (fun _ h9 => h9) rfl dX10_keep_21 ?_
        obtain ⟨o_7, ho_7, hf⟩ := ob_s hf
        refine xV_v (As := [.ref a_notes]) (b := a_kept_1) (rest := []) (ws2 := fun _ => [(a_this, .inr (10, [.ref a_text, .ref a_reader, .ref a_draft, .ref a_laid, .ref a_cards, .ref a_flips, .ref a_bench, .ref a_notes, .ref a_presses, .ref a_told, .ref a_game, .ref a_kept, .int i_keptCount])), (a_kept, .inl (X.2.1 3, 2, .inr (.inr (.inr (.inr (va_up (va_up (fun _ => none) 0 (some a_kept_0)) 1 (some a_kept_1))))))), (a_notes, .inr (5, [.ref a_notes_delays, .ref a_notes_margins, .ref a_notes_odds])), (a_kept_0, .inr (5, [.ref a_kept_0_delays, .ref a_kept_0_margins, .ref a_kept_0_odds])), (a_kept_1, .inr (5, [.ref a_kept_1_delays, .ref a_kept_1_margins, .ref a_kept_1_odds])), (a_notes_delays, .inl (X.2.1 0, 8, .inl f_notes_delays)), (a_notes_margins, .inl (X.2.1 0, 144, .inl f_notes_margins)), (a_notes_odds, .inl (X.2.1 0, 4, .inl f_notes_odds)), (a_kept_0_delays, .inl (X.2.1 0, 8, .inl f_kept_0_delays)), (a_kept_0_margins, .inl (X.2.1 0, 144, .inl f_kept_0_margins)), (a_kept_0_odds, .inl (X.2.1 0, 4, .inl f_kept_0_odds)), (a_kept_1_delays, .inl (X.2.1 0, 8, .inl o_7.1)), (a_kept_1_margins, .inl (X.2.1 0, 144, .inl o_7.2.1)), (a_kept_1_odds, .inl (X.2.1 0, 4, .inl o_7.2.2))]) hx hb hml hts hown hG hA hP hD rfl hS hl.1 (qX5_copyFrom l X a_kept_1 a_kept_1_delays a_kept_1_margins a_kept_1_odds a_notes a_notes_delays a_notes_margins a_notes_odds f_kept_1_delays f_kept_1_margins f_kept_1_odds f_notes_delays f_notes_margins f_notes_odds o_7 ho_7) (cwV (y := yX5_copyFrom) 1 hts gX10_keep_X5_copyFrom rfl rfl rfl hdvX5_copyFrom ⟨Nat.le_of_ble_eq_true rfl, Nat.le_of_ble_eq_true rfl⟩) [4, 11, 12, 13, 2, 5, 6, 7] [0, 1, 3, 8, 9, 10] [0, 1, 10, 2, 6, 11, 12, 13, 3, 4, 5, 7, 8, 9] rfl rfl rfl rfl rfl rfl (fun _ => rfl) (ci := 5) rfl 4 rfl rfl rfl (Nat.le_of_ble_eq_true rfl) ⟨Nat.le_of_ble_eq_true rfl, Nat.le_of_ble_eq_true rfl⟩ dX10_keep_24 (fun u_8 H locs hP _ hS => ?_)
        refine lv_aload_n hx hb dX10_keep_27 rfl (lv_at hl 0 rfl) ?_
        refine lv_dup hx hb dX10_keep_28 rfl ?_
        refine va_get (D := X.1) (ci := 10) (v := .int i_keptCount) (C := RX10) (T := TX10) (N := 13) hx hb hts in10 hown hG.1 hP 0 rfl rfl 12 (by decide) w1 (fun _ h9 => h9) rfl dX10_keep_29 ?_
        refine lv_iconst (v := (1 : Int32)) hx hb dX10_keep_32 (by decide) ?_
        refine lv_iadd hx hb dX10_keep_33 ?_
        refine lv_topi (fun v_9 ev_9 => ?_)
        have hf := lb_s hf ev_9
        refine x_put (ws' := [(a_this, .inr (10, [.ref a_text, .ref a_reader, .ref a_draft, .ref a_laid, .ref a_cards, .ref a_flips, .ref a_bench, .ref a_notes, .ref a_presses, .ref a_told, .ref a_game, .ref a_kept, .int v_9])), (a_kept, .inl (X.2.1 3, 2, .inr (.inr (.inr (.inr (va_up (va_up (fun _ => none) 0 (some a_kept_0)) 1 (some a_kept_1))))))), (a_notes, .inr (5, [.ref a_notes_delays, .ref a_notes_margins, .ref a_notes_odds])), (a_kept_0, .inr (5, [.ref a_kept_0_delays, .ref a_kept_0_margins, .ref a_kept_0_odds])), (a_kept_1, .inr (5, [.ref a_kept_1_delays, .ref a_kept_1_margins, .ref a_kept_1_odds])), (a_notes_delays, .inl (X.2.1 0, 8, .inl f_notes_delays)), (a_notes_margins, .inl (X.2.1 0, 144, .inl f_notes_margins)), (a_notes_odds, .inl (X.2.1 0, 4, .inl f_notes_odds)), (a_kept_0_delays, .inl (X.2.1 0, 8, .inl f_kept_0_delays)), (a_kept_0_margins, .inl (X.2.1 0, 144, .inl f_kept_0_margins)), (a_kept_0_odds, .inl (X.2.1 0, 4, .inl f_kept_0_odds)), (a_kept_1_delays, .inl (X.2.1 0, 8, .inl o_7.1)), (a_kept_1_margins, .inl (X.2.1 0, 144, .inl o_7.2.1)), (a_kept_1_odds, .inl (X.2.1 0, 4, .inl o_7.2.2))]) (ty := .int) (C := RX10) (T := TX10) (N := 13) hx hb hts in10 tyX10 tyX10_ok nmX10 hown hG hP hD rfl hS 0 rfl rfl 12 (by decide) w1 rfl (tyX10_ok 12 (by decide)) rfl rfl (Nat.le_of_ble_eq_true rfl) dX10_keep_34 rfl (fun H locs hP hS => ?_)
        refine lv_aload_n hx hb dX10_keep_37 rfl (lv_at hl 0 rfl) ?_
        refine va_get (D := X.1) (ci := 10) (v := .int v_9) (C := RX10) (T := TX10) (N := 13) hx hb hts in10 hown hG.1 hP 0 rfl rfl 12 (by decide) w1 (fun _ h9 => h9) rfl dX10_keep_38 ?_
        obtain rfl := Option.some.inj hf
        exact ret H _ ls _ rfl hP hD hS dX10_keep_41
      · exact xn (xf hf c_3)
  · have hf := xf hf c_1
    refine lv_bipush (v := (-3 : Int32)) hx hb dX10_keep_8 (by decide) ?_
    obtain rfl := Option.some.inj hf
    exact ret H _ ls _ rfl hP hD hS dX10_keep_10
def mX10_back (i_keptCount : Int32) (f_notes_delays : Nat → Int32) (f_notes_margins : Nat → Int32) (f_notes_odds : Nat → Int32) (f_kept_0_delays : Nat → Int32) (f_kept_0_margins : Nat → Int32) (f_kept_0_odds : Nat → Int32) (f_kept_1_delays : Nat → Int32) (f_kept_1_margins : Nat → Int32) (f_kept_1_odds : Nat → Int32) :
  Option (Int32 × Int32 × (Nat → Int32) × (Nat → Int32) × (Nat → Int32)) :=
  if 0 < i_keptCount then (lb (i_keptCount - (1 : Int32)) fun v_2 =>
  if v_2 = (0 : Int32) then ((mX5_copyFrom f_notes_delays f_notes_margins f_notes_odds f_kept_0_delays f_kept_0_margins f_kept_0_odds).bind fun o_5 =>
  some (v_2, v_2, o_5.1, o_5.2.1, o_5.2.2)) else (if v_2 = (1 : Int32) then ((mX5_copyFrom f_notes_delays f_notes_margins f_notes_odds f_kept_1_delays f_kept_1_margins f_kept_1_odds).bind fun o_7 =>
  some (v_2, v_2, o_7.1, o_7.2.1, o_7.2.2)) else none)) else (some ((-2 : Int32), i_keptCount, f_notes_delays, f_notes_margins, f_notes_odds))
theorem hdsX10_back : yX10_back.cls ≠ "java/lang/invoke/MethodHandle" ∧ yX10_back.cls ≠ "java/lang/invoke/VarHandle" ∧ (parseMethodDescriptor yX10_back.desc).map (fun d => d.parameters.length) = some 0 := by decide +kernel
theorem hdvX10_back : yX10_back.cls = RX10 ∧ yX10_back.cls ≠ "java/lang/invoke/MethodHandle" ∧ yX10_back.cls ≠ "java/lang/invoke/VarHandle" ∧ (parseMethodDescriptor yX10_back.desc).map (fun d => d.parameters.length) = some 0 := by decide +kernel
abbrev rmX10_back : Room := { frames := 2, cells := 0, slots := 0, locals := 81 }
set_option maxHeartbeats 4000000 in
set_option maxRecDepth 100000 in
theorem qX10_back (l : Launch) (X : XT) (a_this : Nat) (a_kept : Nat) (a_notes : Nat) (a_kept_0 : Nat) (a_kept_1 : Nat) (a_notes_delays : Nat) (a_notes_margins : Nat) (a_notes_odds : Nat) (a_kept_0_delays : Nat) (a_kept_0_margins : Nat) (a_kept_0_odds : Nat) (a_kept_1_delays : Nat) (a_kept_1_margins : Nat) (a_kept_1_odds : Nat) (a_text : Nat) (a_reader : Nat) (a_draft : Nat) (a_laid : Nat) (a_cards : Nat) (a_flips : Nat) (a_bench : Nat) (a_presses : Nat) (a_told : Nat) (a_game : Nat)  (i_keptCount : Int32) (f_notes_delays : Nat → Int32) (f_notes_margins : Nat → Int32) (f_notes_odds : Nat → Int32) (f_kept_0_delays : Nat → Int32) (f_kept_0_margins : Nat → Int32) (f_kept_0_odds : Nat → Int32) (f_kept_1_delays : Nat → Int32) (f_kept_1_margins : Nat → Int32) (f_kept_1_odds : Nat → Int32)  (o : Int32 × Int32 × (Nat → Int32) × (Nat → Int32) × (Nat → Int32)) (hf : mX10_back i_keptCount f_notes_delays f_notes_margins f_notes_odds f_kept_0_delays f_kept_0_margins f_kept_0_odds f_kept_1_delays f_kept_1_margins f_kept_1_odds = some o) :
    MI l yX10_back wsX10_back rmX10_back X [.ref a_this] [(a_this, .inr (10, [.ref a_text, .ref a_reader, .ref a_draft, .ref a_laid, .ref a_cards, .ref a_flips, .ref a_bench, .ref a_notes, .ref a_presses, .ref a_told, .ref a_game, .ref a_kept, .int i_keptCount])), (a_kept, .inl (X.2.1 3, 2, .inr (.inr (.inr (.inr (va_up (va_up (fun _ => none) 0 (some a_kept_0)) 1 (some a_kept_1))))))), (a_notes, .inr (5, [.ref a_notes_delays, .ref a_notes_margins, .ref a_notes_odds])), (a_kept_0, .inr (5, [.ref a_kept_0_delays, .ref a_kept_0_margins, .ref a_kept_0_odds])), (a_kept_1, .inr (5, [.ref a_kept_1_delays, .ref a_kept_1_margins, .ref a_kept_1_odds])), (a_notes_delays, .inl (X.2.1 0, 8, .inl f_notes_delays)), (a_notes_margins, .inl (X.2.1 0, 144, .inl f_notes_margins)), (a_notes_odds, .inl (X.2.1 0, 4, .inl f_notes_odds)), (a_kept_0_delays, .inl (X.2.1 0, 8, .inl f_kept_0_delays)), (a_kept_0_margins, .inl (X.2.1 0, 144, .inl f_kept_0_margins)), (a_kept_0_odds, .inl (X.2.1 0, 4, .inl f_kept_0_odds)), (a_kept_1_delays, .inl (X.2.1 0, 8, .inl f_kept_1_delays)), (a_kept_1_margins, .inl (X.2.1 0, 144, .inl f_kept_1_margins)), (a_kept_1_odds, .inl (X.2.1 0, 4, .inl f_kept_1_odds))]  [(a_this, .inr (10, [.ref a_text, .ref a_reader, .ref a_draft, .ref a_laid, .ref a_cards, .ref a_flips, .ref a_bench, .ref a_notes, .ref a_presses, .ref a_told, .ref a_game, .ref a_kept, .int o.2.1])), (a_kept, .inl (X.2.1 3, 2, .inr (.inr (.inr (.inr (va_up (va_up (fun _ => none) 0 (some a_kept_0)) 1 (some a_kept_1))))))), (a_notes, .inr (5, [.ref a_notes_delays, .ref a_notes_margins, .ref a_notes_odds])), (a_kept_0, .inr (5, [.ref a_kept_0_delays, .ref a_kept_0_margins, .ref a_kept_0_odds])), (a_kept_1, .inr (5, [.ref a_kept_1_delays, .ref a_kept_1_margins, .ref a_kept_1_odds])), (a_notes_delays, .inl (X.2.1 0, 8, .inl o.2.2.1)), (a_notes_margins, .inl (X.2.1 0, 144, .inl o.2.2.2.1)), (a_notes_odds, .inl (X.2.1 0, 4, .inl o.2.2.2.2)), (a_kept_0_delays, .inl (X.2.1 0, 8, .inl f_kept_0_delays)), (a_kept_0_margins, .inl (X.2.1 0, 144, .inl f_kept_0_margins)), (a_kept_0_odds, .inl (X.2.1 0, 4, .inl f_kept_0_odds)), (a_kept_1_delays, .inl (X.2.1 0, 8, .inl f_kept_1_delays)), (a_kept_1_margins, .inl (X.2.1 0, 144, .inl f_kept_1_margins)), (a_kept_1_odds, .inl (X.2.1 0, 4, .inl f_kept_1_odds))] o.1 := by
  refine MI_ofH (cc := cX10_back) (maxL := 1) (rt := .int) (by decide) rfl (Nat.le_of_ble_eq_true rfl) ?_
  intro p e s m below meth c A Q H ls hx hb hml hts hown hA hD hG hP hS hl ret
  have hown : s.vm.findClass RX10 = some m.cls := hown
  have hD : aD A [a_this, a_kept, a_notes, a_kept_0, a_kept_1, a_notes_delays, a_notes_margins, a_notes_odds, a_kept_0_delays, a_kept_0_margins, a_kept_0_odds, a_kept_1_delays, a_kept_1_margins, a_kept_1_odds] := hD
  have hl : lv_has ls 1 [(0, .ref a_this)] := hl
  have w1 := hts (.fieldLink RX10 96 "ThreeCards" "keptCount" "I") (List.mem_of_getElem? (i := 1) rfl)
  have w2 := hts (.fieldLink RX10 63 "ThreeCards" "notes" "LThreeCards$Notes;") (List.mem_of_getElem? (i := 2) rfl)
  have w3 := hts (.fieldLink RX10 92 "ThreeCards" "kept" "[LThreeCards$Notes;") (List.mem_of_getElem? (i := 3) rfl)
  have in10 : ∀ w ∈ u_ws RX10 TX10 13, w ∈ wsX10_back := by decide +kernel
  unfold mX10_back at hf
  refine lv_aload_n hx hb dX10_back_0 rfl (lv_at hl 0 rfl) ?_
  refine va_get (D := X.1) (ci := 10) (v := .int i_keptCount) (C := RX10) (T := TX10) (N := 13) hx hb hts in10 hown hG.1 hP 0 rfl rfl 12 (by decide) w1 (fun _ h9 => h9) rfl dX10_back_1 ?_
  refine lv_if_gt (tgt := 10) hx hb dX10_back_4 (by decide) (fun c_1 => ?_) (fun c_1 => ?_)
  · have hf := xt hf c_1
    refine lv_aload_n hx hb dX10_back_10 rfl (lv_at hl 0 rfl) ?_
    refine lv_dup hx hb dX10_back_11 rfl ?_
    refine va_get (D := X.1) (ci := 10) (v := .int i_keptCount) (C := RX10) (T := TX10) (N := 13) hx hb hts in10 hown hG.1 hP 0 rfl rfl 12 (by decide) w1 (fun _ h9 => h9) rfl dX10_back_12 ?_
    refine lv_iconst (v := (1 : Int32)) hx hb dX10_back_15 (by decide) ?_
    refine lv_isub hx hb dX10_back_16 ?_
    refine lv_topi (fun v_2 ev_2 => ?_)
    have hf := lb_s hf ev_2
    refine x_put (ws' := [(a_this, .inr (10, [.ref a_text, .ref a_reader, .ref a_draft, .ref a_laid, .ref a_cards, .ref a_flips, .ref a_bench, .ref a_notes, .ref a_presses, .ref a_told, .ref a_game, .ref a_kept, .int v_2])), (a_kept, .inl (X.2.1 3, 2, .inr (.inr (.inr (.inr (va_up (va_up (fun _ => none) 0 (some a_kept_0)) 1 (some a_kept_1))))))), (a_notes, .inr (5, [.ref a_notes_delays, .ref a_notes_margins, .ref a_notes_odds])), (a_kept_0, .inr (5, [.ref a_kept_0_delays, .ref a_kept_0_margins, .ref a_kept_0_odds])), (a_kept_1, .inr (5, [.ref a_kept_1_delays, .ref a_kept_1_margins, .ref a_kept_1_odds])), (a_notes_delays, .inl (X.2.1 0, 8, .inl f_notes_delays)), (a_notes_margins, .inl (X.2.1 0, 144, .inl f_notes_margins)), (a_notes_odds, .inl (X.2.1 0, 4, .inl f_notes_odds)), (a_kept_0_delays, .inl (X.2.1 0, 8, .inl f_kept_0_delays)), (a_kept_0_margins, .inl (X.2.1 0, 144, .inl f_kept_0_margins)), (a_kept_0_odds, .inl (X.2.1 0, 4, .inl f_kept_0_odds)), (a_kept_1_delays, .inl (X.2.1 0, 8, .inl f_kept_1_delays)), (a_kept_1_margins, .inl (X.2.1 0, 144, .inl f_kept_1_margins)), (a_kept_1_odds, .inl (X.2.1 0, 4, .inl f_kept_1_odds))]) (ty := .int) (C := RX10) (T := TX10) (N := 13) hx hb hts in10 tyX10 tyX10_ok nmX10 hown hG hP hD rfl hS 0 rfl rfl 12 (by decide) w1 rfl (tyX10_ok 12 (by decide)) rfl rfl (Nat.le_of_ble_eq_true rfl) dX10_back_17 rfl (fun H locs hP hS => ?_)
    refine lv_aload_n hx hb dX10_back_20 rfl (lv_at hl 0 rfl) ?_
    refine va_get (D := X.1) (ci := 10) (v := .ref a_notes) (C := RX10) (T := TX10) (N := 13) hx hb hts in10 hown hG.1 hP 0 rfl rfl 7 (by decide) w2 (fun _ h9 => h9) rfl dX10_back_21 ?_
    refine lv_aload_n hx hb dX10_back_24 rfl (lv_at hl 0 rfl) ?_
    refine va_get (D := X.1) (ci := 10) (v := .ref a_kept) (C := RX10) (T := TX10) (N := 13) hx hb hts in10 hown hG.1 hP 0 rfl rfl 11 (by decide) w3 (fun _ h9 => h9) rfl dX10_back_25 ?_
    refine lv_aload_n hx hb dX10_back_28 rfl (lv_at hl 0 rfl) ?_
    refine va_get (D := X.1) (ci := 10) (v := .int v_2) (C := RX10) (T := TX10) (N := 13) hx hb hts in10 hown hG.1 hP 0 rfl rfl 12 (by decide) w1 (fun _ h9 => h9) rfl dX10_back_29 ?_
    by_cases c_3 : v_2 = (0 : Int32)
    · have hf := xt hf c_3
      refine va_aldq (D := X.1) (f := (va_up (va_up (fun _ => none) 0 (some a_kept_0)) 1 (some a_kept_1))) hx hb hG.1 hP 1 3 rfl rfl (by rw [c_3]; exact vp_lit (by decide)) dX10_back_32 ?_
      rw [show va_rf ((va_up (va_up (fun _ => none) 0 (some a_kept_0)) 1 (some a_kept_1)) v_2.toNatClampNeg) = .ref a_kept_0 from by rw [c_3]; rfl]
      obtain ⟨o_5, ho_5, hf⟩ := ob_s hf
      refine xV_v (As := [.ref a_kept_0]) (b := a_notes) (rest := []) (ws2 := fun _ => [(a_this, .inr (10, [.ref a_text, .ref a_reader, .ref a_draft, .ref a_laid, .ref a_cards, .ref a_flips, .ref a_bench, .ref a_notes, .ref a_presses, .ref a_told, .ref a_game, .ref a_kept, .int v_2])), (a_kept, .inl (X.2.1 3, 2, .inr (.inr (.inr (.inr (va_up (va_up (fun _ => none) 0 (some a_kept_0)) 1 (some a_kept_1))))))), (a_notes, .inr (5, [.ref a_notes_delays, .ref a_notes_margins, .ref a_notes_odds])), (a_kept_0, .inr (5, [.ref a_kept_0_delays, .ref a_kept_0_margins, .ref a_kept_0_odds])), (a_kept_1, .inr (5, [.ref a_kept_1_delays, .ref a_kept_1_margins, .ref a_kept_1_odds])), (a_notes_delays, .inl (X.2.1 0, 8, .inl o_5.1)), (a_notes_margins, .inl (X.2.1 0, 144, .inl o_5.2.1)), (a_notes_odds, .inl (X.2.1 0, 4, .inl o_5.2.2)), (a_kept_0_delays, .inl (X.2.1 0, 8, .inl f_kept_0_delays)), (a_kept_0_margins, .inl (X.2.1 0, 144, .inl f_kept_0_margins)), (a_kept_0_odds, .inl (X.2.1 0, 4, .inl f_kept_0_odds)), (a_kept_1_delays, .inl (X.2.1 0, 8, .inl f_kept_1_delays)), (a_kept_1_margins, .inl (X.2.1 0, 144, .inl f_kept_1_margins)), (a_kept_1_odds, .inl (X.2.1 0, 4, .inl f_kept_1_odds))]) hx hb hml hts hown hG hA hP hD rfl hS hl.1 (qX5_copyFrom l X a_notes a_notes_delays a_notes_margins a_notes_odds a_kept_0 a_kept_0_delays a_kept_0_margins a_kept_0_odds f_notes_delays f_notes_margins f_notes_odds f_kept_0_delays f_kept_0_margins f_kept_0_odds o_5 ho_5) (cwV (y := yX5_copyFrom) 1 hts gX10_back_X5_copyFrom rfl rfl rfl hdvX5_copyFrom ⟨Nat.le_of_ble_eq_true rfl, Nat.le_of_ble_eq_true rfl⟩) [2, 5, 6, 7, 3, 8, 9, 10] [0, 1, 4, 11, 12, 13] [0, 1, 6, 10, 2, 7, 8, 9, 11, 12, 13, 3, 4, 5] rfl rfl rfl rfl rfl rfl (fun _ => rfl) (ci := 5) rfl 2 rfl rfl rfl (Nat.le_of_ble_eq_true rfl) ⟨Nat.le_of_ble_eq_true rfl, Nat.le_of_ble_eq_true rfl⟩ dX10_back_33 (fun u_6 H locs hP _ hS => ?_)
      refine lv_aload_n hx hb dX10_back_36 rfl (lv_at hl 0 rfl) ?_
      refine va_get (D := X.1) (ci := 10) (v := .int v_2) (C := RX10) (T := TX10) (N := 13) hx hb hts in10 hown hG.1 hP 0 rfl rfl 12 (by decide) w1 (fun _ h9 => h9) rfl dX10_back_37 ?_
      obtain rfl := Option.some.inj hf
      exact ret H _ ls _ rfl hP hD hS dX10_back_40
    · have hf := xf hf c_3
      by_cases c_4 : v_2 = (1 : Int32)
      · have hf := xt hf c_4
        refine va_aldq (D := X.1) (f := (va_up (va_up (fun _ => none) 0 (some a_kept_0)) 1 (some a_kept_1))) hx hb hG.1 hP 1 3 rfl rfl (by rw [c_4]; exact vp_lit (by decide)) dX10_back_32 ?_
        rw [show va_rf ((va_up (va_up (fun _ => none) 0 (some a_kept_0)) 1 (some a_kept_1)) v_2.toNatClampNeg) = .ref a_kept_1 from by rw [c_4]; rfl]
        obtain ⟨o_7, ho_7, hf⟩ := ob_s hf
        refine xV_v (As := [.ref a_kept_1]) (b := a_notes) (rest := []) (ws2 := fun _ => [(a_this, .inr (10, [.ref a_text, .ref a_reader, .ref a_draft, .ref a_laid, .ref a_cards, .ref a_flips, .ref a_bench, .ref a_notes, .ref a_presses, .ref a_told, .ref a_game, .ref a_kept, .int v_2])), (a_kept, .inl (X.2.1 3, 2, .inr (.inr (.inr (.inr (va_up (va_up (fun _ => none) 0 (some a_kept_0)) 1 (some a_kept_1))))))), (a_notes, .inr (5, [.ref a_notes_delays, .ref a_notes_margins, .ref a_notes_odds])), (a_kept_0, .inr (5, [.ref a_kept_0_delays, .ref a_kept_0_margins, .ref a_kept_0_odds])), (a_kept_1, .inr (5, [.ref a_kept_1_delays, .ref a_kept_1_margins, .ref a_kept_1_odds])), (a_notes_delays, .inl (X.2.1 0, 8, .inl o_7.1)), (a_notes_margins, .inl (X.2.1 0, 144, .inl o_7.2.1)), (a_notes_odds, .inl (X.2.1 0, 4, .inl o_7.2.2)), (a_kept_0_delays, .inl (X.2.1 0, 8, .inl f_kept_0_delays)), (a_kept_0_margins, .inl (X.2.1 0, 144, .inl f_kept_0_margins)), (a_kept_0_odds, .inl (X.2.1 0, 4, .inl f_kept_0_odds)), (a_kept_1_delays, .inl (X.2.1 0, 8, .inl f_kept_1_delays)), (a_kept_1_margins, .inl (X.2.1 0, 144, .inl f_kept_1_margins)), (a_kept_1_odds, .inl (X.2.1 0, 4, .inl f_kept_1_odds))]) hx hb hml hts hown hG hA hP hD rfl hS hl.1 (qX5_copyFrom l X a_notes a_notes_delays a_notes_margins a_notes_odds a_kept_1 a_kept_1_delays a_kept_1_margins a_kept_1_odds f_notes_delays f_notes_margins f_notes_odds f_kept_1_delays f_kept_1_margins f_kept_1_odds o_7 ho_7) (cwV (y := yX5_copyFrom) 1 hts gX10_back_X5_copyFrom rfl rfl rfl hdvX5_copyFrom ⟨Nat.le_of_ble_eq_true rfl, Nat.le_of_ble_eq_true rfl⟩) [2, 5, 6, 7, 4, 11, 12, 13] [0, 1, 3, 8, 9, 10] [0, 1, 6, 2, 10, 7, 8, 9, 3, 4, 5, 11, 12, 13] rfl rfl rfl rfl rfl rfl (fun _ => rfl) (ci := 5) rfl 2 rfl rfl rfl (Nat.le_of_ble_eq_true rfl) ⟨Nat.le_of_ble_eq_true rfl, Nat.le_of_ble_eq_true rfl⟩ dX10_back_33 (fun u_8 H locs hP _ hS => ?_)
        refine lv_aload_n hx hb dX10_back_36 rfl (lv_at hl 0 rfl) ?_
        refine va_get (D := X.1) (ci := 10) (v := .int v_2) (C := RX10) (T := TX10) (N := 13) hx hb hts in10 hown hG.1 hP 0 rfl rfl 12 (by decide) w1 (fun _ h9 => h9) rfl dX10_back_37 ?_
        obtain rfl := Option.some.inj hf
        exact ret H _ ls _ rfl hP hD hS dX10_back_40
      · exact xn (xf hf c_4)
  · have hf := xf hf c_1
    refine lv_bipush (v := (-2 : Int32)) hx hb dX10_back_7 (by decide) ?_
    obtain rfl := Option.some.inj hf
    exact ret H _ ls _ rfl hP hD hS dX10_back_9
def mX10_count (x0 : Int32) (i_keptCount : Int32) (i_laid_rounds : Int32) (i_laid_blowCount : Int32) (i_laid_judgeCount : Int32) (i_text_length : Int32) (f_notes_margins : Nat → Int32) :
  Option (Int32) :=
  if x0 = (0 : Int32) then (some i_laid_rounds) else (if x0 = (1 : Int32) then (some i_laid_judgeCount) else (if x0 = (2 : Int32) then (some i_laid_blowCount) else (if x0 = (3 : Int32) then (some i_text_length) else (if x0 = (4 : Int32) then ((mX5_howManyTold f_notes_margins).bind fun o_6 =>
  some o_6) else (if x0 = (5 : Int32) then (some i_keptCount) else (some (-1 : Int32)))))))
theorem hdsX10_count : yX10_count.cls ≠ "java/lang/invoke/MethodHandle" ∧ yX10_count.cls ≠ "java/lang/invoke/VarHandle" ∧ (parseMethodDescriptor yX10_count.desc).map (fun d => d.parameters.length) = some 1 := by decide +kernel
theorem hdvX10_count : yX10_count.cls = RX10 ∧ yX10_count.cls ≠ "java/lang/invoke/MethodHandle" ∧ yX10_count.cls ≠ "java/lang/invoke/VarHandle" ∧ (parseMethodDescriptor yX10_count.desc).map (fun d => d.parameters.length) = some 1 := by decide +kernel
abbrev rmX10_count : Room := { frames := 1, cells := 0, slots := 0, locals := 22 }
set_option maxHeartbeats 4000000 in
set_option maxRecDepth 100000 in
theorem qX10_count (l : Launch) (X : XT) (a_this : Nat) (a_laid : Nat) (a_notes : Nat) (a_text : Nat) (a_notes_margins : Nat) (a_reader : Nat) (a_draft : Nat) (a_cards : Nat) (a_flips : Nat) (a_bench : Nat) (a_presses : Nat) (a_told : Nat) (a_game : Nat) (a_kept : Nat) (a_laid_blows : Nat) (a_laid_judges : Nat) (a_laid_forward : Nat) (a_laid_downs : Nat) (a_laid_taken : Nat) (a_laid_seenBy : Nat) (a_laid_sums : Nat) (a_laid_leads : Nat) (a_notes_delays : Nat) (a_notes_odds : Nat) (a_text_bytes : Nat)  (i_keptCount : Int32) (i_laid_rounds : Int32) (i_laid_home : Int32) (i_laid_noise : Int32) (i_laid_blowCount : Int32) (i_laid_judgeCount : Int32) (i_text_length : Int32) (f_notes_margins : Nat → Int32) (x0 : Int32) (o : Int32) (hf : mX10_count x0 i_keptCount i_laid_rounds i_laid_blowCount i_laid_judgeCount i_text_length f_notes_margins = some o) :
    MI l yX10_count wsX10_count rmX10_count X [.ref a_this, .int x0] [(a_this, .inr (10, [.ref a_text, .ref a_reader, .ref a_draft, .ref a_laid, .ref a_cards, .ref a_flips, .ref a_bench, .ref a_notes, .ref a_presses, .ref a_told, .ref a_game, .ref a_kept, .int i_keptCount])), (a_laid, .inr (3, [.int i_laid_rounds, .int i_laid_home, .int i_laid_noise, .int i_laid_blowCount, .int i_laid_judgeCount, .ref a_laid_blows, .ref a_laid_judges, .ref a_laid_forward, .ref a_laid_downs, .ref a_laid_taken, .ref a_laid_seenBy, .ref a_laid_sums, .ref a_laid_leads])), (a_notes, .inr (5, [.ref a_notes_delays, .ref a_notes_margins, .ref a_notes_odds])), (a_text, .inr (8, [.ref a_text_bytes, .int i_text_length])), (a_notes_margins, .inl (X.2.1 0, 144, .inl f_notes_margins))]  [(a_this, .inr (10, [.ref a_text, .ref a_reader, .ref a_draft, .ref a_laid, .ref a_cards, .ref a_flips, .ref a_bench, .ref a_notes, .ref a_presses, .ref a_told, .ref a_game, .ref a_kept, .int i_keptCount])), (a_laid, .inr (3, [.int i_laid_rounds, .int i_laid_home, .int i_laid_noise, .int i_laid_blowCount, .int i_laid_judgeCount, .ref a_laid_blows, .ref a_laid_judges, .ref a_laid_forward, .ref a_laid_downs, .ref a_laid_taken, .ref a_laid_seenBy, .ref a_laid_sums, .ref a_laid_leads])), (a_notes, .inr (5, [.ref a_notes_delays, .ref a_notes_margins, .ref a_notes_odds])), (a_text, .inr (8, [.ref a_text_bytes, .int i_text_length])), (a_notes_margins, .inl (X.2.1 0, 144, .inl f_notes_margins))] o := by
  refine MI_ofH (cc := cX10_count) (maxL := 2) (rt := .int) (by decide) rfl (Nat.le_of_ble_eq_true rfl) ?_
  intro p e s m below meth c A Q H ls hx hb hml hts hown hA hD hG hP hS hl ret
  have hown : s.vm.findClass RX10 = some m.cls := hown
  have hD : aD A [a_this, a_laid, a_notes, a_text, a_notes_margins] := hD
  have hl : lv_has ls 2 [(0, .ref a_this), (1, .int x0)] := hl
  have w1 := hts (.fieldLink RX10 32 "ThreeCards" "laid" "LThreeCards$Fight;") (List.mem_of_getElem? (i := 1) rfl)
  have w2 := hts (.fieldLink RX10 10 "ThreeCards" "text" "LThreeCards$Text;") (List.mem_of_getElem? (i := 2) rfl)
  have w3 := hts (.fieldLink RX10 63 "ThreeCards" "notes" "LThreeCards$Notes;") (List.mem_of_getElem? (i := 3) rfl)
  have w4 := hts (.fieldLink RX10 96 "ThreeCards" "keptCount" "I") (List.mem_of_getElem? (i := 4) rfl)
  have in3 : ∀ w ∈ u_ws RX3 TX3 13, w ∈ wsX10_count := by decide +kernel
  have in8 : ∀ w ∈ u_ws RX8 TX8 2, w ∈ wsX10_count := by decide +kernel
  have in10 : ∀ w ∈ u_ws RX10 TX10 13, w ∈ wsX10_count := by decide +kernel
  unfold mX10_count at hf
  refine lv_iload_n hx hb dX10_count_0 rfl (lv_at hl 1 rfl) ?_
  by_cases c_1 : x0 = (0 : Int32)
  · have hf := xt hf c_1
    refine lv_tableIn (tgt := 40) (off := 39) hx hb dX10_count_1 (by rw [c_1]; decide) (by rw [c_1]; decide) (by rw [c_1]; decide) (by decide) ?_
    refine lv_aload_n hx hb dX10_count_40 rfl (lv_at hl 0 rfl) ?_
    refine va_get (D := X.1) (ci := 10) (v := .ref a_laid) (C := RX10) (T := TX10) (N := 13) hx hb hts in10 hown hG.1 hP 0 rfl rfl 3 (by decide) w1 (fun _ h9 => h9) rfl dX10_count_41 ?_
    refine va_getN (D := X.1) (ci := 3) (v := .int i_laid_rounds) (C := RX3) (T := TX3) (N := 13) hx hb hts in3 hown hG.1 hP 1 rfl rfl 0 (by decide) (va_Nw.use rfl (nf4 hG.2.1)) (fun _ h9 => h9) rfl dX10_count_44 ?_
    obtain rfl := Option.some.inj hf
    exact ret H _ ls _ rfl hP hD hS dX10_count_47
  · have hf := xf hf c_1
    by_cases c_2 : x0 = (1 : Int32)
    · have hf := xt hf c_2
      refine lv_tableIn (tgt := 48) (off := 47) hx hb dX10_count_1 (by rw [c_2]; decide) (by rw [c_2]; decide) (by rw [c_2]; decide) (by decide) ?_
      refine lv_aload_n hx hb dX10_count_48 rfl (lv_at hl 0 rfl) ?_
      refine va_get (D := X.1) (ci := 10) (v := .ref a_laid) (C := RX10) (T := TX10) (N := 13) hx hb hts in10 hown hG.1 hP 0 rfl rfl 3 (by decide) w1 (fun _ h9 => h9) rfl dX10_count_49 ?_
      refine va_getN (D := X.1) (ci := 3) (v := .int i_laid_judgeCount) (C := RX3) (T := TX3) (N := 13) hx hb hts in3 hown hG.1 hP 1 rfl rfl 4 (by decide) (va_Nw.use rfl (nf9 hG.2.1)) (fun _ h9 => h9) rfl dX10_count_52 ?_
      obtain rfl := Option.some.inj hf
      exact ret H _ ls _ rfl hP hD hS dX10_count_55
    · have hf := xf hf c_2
      by_cases c_3 : x0 = (2 : Int32)
      · have hf := xt hf c_3
        refine lv_tableIn (tgt := 56) (off := 55) hx hb dX10_count_1 (by rw [c_3]; decide) (by rw [c_3]; decide) (by rw [c_3]; decide) (by decide) ?_
        refine lv_aload_n hx hb dX10_count_56 rfl (lv_at hl 0 rfl) ?_
        refine va_get (D := X.1) (ci := 10) (v := .ref a_laid) (C := RX10) (T := TX10) (N := 13) hx hb hts in10 hown hG.1 hP 0 rfl rfl 3 (by decide) w1 (fun _ h9 => h9) rfl dX10_count_57 ?_
        refine va_getN (D := X.1) (ci := 3) (v := .int i_laid_blowCount) (C := RX3) (T := TX3) (N := 13) hx hb hts in3 hown hG.1 hP 1 rfl rfl 3 (by decide) (va_Nw.use rfl (nf7 hG.2.1)) (fun _ h9 => h9) rfl dX10_count_60 ?_
        obtain rfl := Option.some.inj hf
        exact ret H _ ls _ rfl hP hD hS dX10_count_63
      · have hf := xf hf c_3
        by_cases c_4 : x0 = (3 : Int32)
        · have hf := xt hf c_4
          refine lv_tableIn (tgt := 64) (off := 63) hx hb dX10_count_1 (by rw [c_4]; decide) (by rw [c_4]; decide) (by rw [c_4]; decide) (by decide) ?_
          refine lv_aload_n hx hb dX10_count_64 rfl (lv_at hl 0 rfl) ?_
          refine va_get (D := X.1) (ci := 10) (v := .ref a_text) (C := RX10) (T := TX10) (N := 13) hx hb hts in10 hown hG.1 hP 0 rfl rfl 0 (by decide) w2 (fun _ h9 => h9) rfl dX10_count_65 ?_
          refine va_getN (D := X.1) (ci := 8) (v := .int i_text_length) (C := RX8) (T := TX8) (N := 2) hx hb hts in8 hown hG.1 hP 3 rfl rfl 1 (by decide) (va_Nw.use rfl (nf1 hG.2.1)) (fun _ h9 => h9) rfl dX10_count_68 ?_
          obtain rfl := Option.some.inj hf
          exact ret H _ ls _ rfl hP hD hS dX10_count_71
        · have hf := xf hf c_4
          by_cases c_5 : x0 = (4 : Int32)
          · have hf := xt hf c_5
            refine lv_tableIn (tgt := 72) (off := 71) hx hb dX10_count_1 (by rw [c_5]; decide) (by rw [c_5]; decide) (by rw [c_5]; decide) (by decide) ?_
            refine lv_aload_n hx hb dX10_count_72 rfl (lv_at hl 0 rfl) ?_
            refine va_get (D := X.1) (ci := 10) (v := .ref a_notes) (C := RX10) (T := TX10) (N := 13) hx hb hts in10 hown hG.1 hP 0 rfl rfl 7 (by decide) w3 (fun _ h9 => h9) rfl dX10_count_73 ?_
            obtain ⟨o_6, ho_6, hf⟩ := ob_s hf
            refine xV_i (As := []) (b := a_notes) (rest := []) (ws2 := [(a_this, .inr (10, [.ref a_text, .ref a_reader, .ref a_draft, .ref a_laid, .ref a_cards, .ref a_flips, .ref a_bench, .ref a_notes, .ref a_presses, .ref a_told, .ref a_game, .ref a_kept, .int i_keptCount])), (a_laid, .inr (3, [.int i_laid_rounds, .int i_laid_home, .int i_laid_noise, .int i_laid_blowCount, .int i_laid_judgeCount, .ref a_laid_blows, .ref a_laid_judges, .ref a_laid_forward, .ref a_laid_downs, .ref a_laid_taken, .ref a_laid_seenBy, .ref a_laid_sums, .ref a_laid_leads])), (a_notes, .inr (5, [.ref a_notes_delays, .ref a_notes_margins, .ref a_notes_odds])), (a_text, .inr (8, [.ref a_text_bytes, .int i_text_length])), (a_notes_margins, .inl (X.2.1 0, 144, .inl f_notes_margins))]) hx hb hml hts hown hG hA hP hD rfl hS hl.1 (qX5_howManyTold l X a_notes a_notes_margins a_notes_delays a_notes_odds f_notes_margins o_6 ho_6) (cwV (y := yX5_howManyTold) 0 hts gX10_count_X5_howManyTold rfl rfl rfl hdvX5_howManyTold ⟨Nat.le_of_ble_eq_true rfl, Nat.le_of_ble_eq_true rfl⟩) [2, 4] [0, 1, 3] [0, 1, 3, 2, 4] rfl rfl rfl rfl rfl rfl rfl (ci := 5) rfl 2 rfl rfl rfl (Nat.le_of_ble_eq_true rfl) ⟨Nat.le_of_ble_eq_true rfl, Nat.le_of_ble_eq_true rfl⟩ dX10_count_76 (fun H locs hP _ hS => ?_)
            obtain rfl := Option.some.inj hf
            exact ret H _ ls _ rfl hP hD hS dX10_count_79
          · have hf := xf hf c_5
            by_cases c_8 : x0 = (5 : Int32)
            · have hf := xt hf c_8
              refine lv_tableIn (tgt := 80) (off := 79) hx hb dX10_count_1 (by rw [c_8]; decide) (by rw [c_8]; decide) (by rw [c_8]; decide) (by decide) ?_
              refine lv_aload_n hx hb dX10_count_80 rfl (lv_at hl 0 rfl) ?_
              refine va_get (D := X.1) (ci := 10) (v := .int i_keptCount) (C := RX10) (T := TX10) (N := 13) hx hb hts in10 hown hG.1 hP 0 rfl rfl 12 (by decide) w4 (fun _ h9 => h9) rfl dX10_count_81 ?_
              obtain rfl := Option.some.inj hf
              exact ret H _ ls _ rfl hP hD hS dX10_count_84
            · have hf := xf hf c_8
              refine lv_tabD (tgt := 85) hx hb dX10_count_1 (fun h1_ h2_ => ?_) (by decide) ?_
              · have nc_1 := i32_ne (0 : Int32) c_1
                have nc_2 := i32_ne (1 : Int32) c_2
                have nc_3 := i32_ne (2 : Int32) c_3
                have nc_4 := i32_ne (3 : Int32) c_4
                have nc_5 := i32_ne (4 : Int32) c_5
                have nc_8 := i32_ne (5 : Int32) c_8
                rw [show (0 : Int32).toInt = 0 from by decide] at nc_1
                rw [show (1 : Int32).toInt = 1 from by decide] at nc_2
                rw [show (2 : Int32).toInt = 2 from by decide] at nc_3
                rw [show (3 : Int32).toInt = 3 from by decide] at nc_4
                rw [show (4 : Int32).toInt = 4 from by decide] at nc_5
                rw [show (5 : Int32).toInt = 5 from by decide] at nc_8
                exfalso
                omega
              refine lv_iconst (v := (-1 : Int32)) hx hb dX10_count_85 (by decide) ?_
              obtain rfl := Option.some.inj hf
              exact ret H _ ls _ rfl hP hD hS dX10_count_86
