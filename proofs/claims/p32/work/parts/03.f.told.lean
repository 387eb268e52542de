def mX9_byChance (x0 : Int32) (f_ofOne : Nat → Int32) (f_ofOther : Nat → Int32) :
  Option (Int32) :=
  if x0 = 0 then (some (-4 : Int32)) else (gd (¬ x0 = 0) <|
  lb (((((f_ofOne (0 : Int32).toNatClampNeg) * (f_ofOther (0 : Int32).toNatClampNeg)) + ((f_ofOne (1 : Int32).toNatClampNeg) * (f_ofOther (1 : Int32).toNatClampNeg))) + ((f_ofOne (2 : Int32).toNatClampNeg) * (f_ofOther (2 : Int32).toNatClampNeg))) / x0) fun v_3 =>
  some v_3)
theorem hdsX9_byChance : yX9_byChance.cls ≠ "java/lang/invoke/MethodHandle" ∧ yX9_byChance.cls ≠ "java/lang/invoke/VarHandle" ∧ (parseMethodDescriptor yX9_byChance.desc).map (fun d => d.parameters.length) = some 1 := by decide +kernel
theorem hdvX9_byChance : yX9_byChance.cls = RX9 ∧ yX9_byChance.cls ≠ "java/lang/invoke/MethodHandle" ∧ yX9_byChance.cls ≠ "java/lang/invoke/VarHandle" ∧ (parseMethodDescriptor yX9_byChance.desc).map (fun d => d.parameters.length) = some 1 := by decide +kernel
abbrev rmX9_byChance : Room := { frames := 0, cells := 0, slots := 0, locals := 0 }
set_option maxHeartbeats 4000000 in
set_option maxRecDepth 100000 in
theorem qX9_byChance (l : Launch) (X : XT) (a_this : Nat) (a_ofOne : Nat) (a_ofOther : Nat) (a_notes : Nat) (a_row : Nat)  (i_rowCount : Int32) (f_ofOne : Nat → Int32) (f_ofOther : Nat → Int32) (x0 : Int32) (o : Int32) (hf : mX9_byChance x0 f_ofOne f_ofOther = some o) :
    MI l yX9_byChance wsX9_byChance rmX9_byChance X [.ref a_this, .int x0] [(a_this, .inr (9, [.ref a_notes, .ref a_ofOne, .ref a_ofOther, .ref a_row, .int i_rowCount])), (a_ofOne, .inl (X.2.1 0, 3, .inl f_ofOne)), (a_ofOther, .inl (X.2.1 0, 3, .inl f_ofOther))]  [(a_this, .inr (9, [.ref a_notes, .ref a_ofOne, .ref a_ofOther, .ref a_row, .int i_rowCount])), (a_ofOne, .inl (X.2.1 0, 3, .inl f_ofOne)), (a_ofOther, .inl (X.2.1 0, 3, .inl f_ofOther))] o := by
  refine MI_ofH (cc := cX9_byChance) (maxL := 2) (rt := .int) (by decide) rfl (Nat.le_of_ble_eq_true rfl) ?_
  intro p e s m below meth c A Q H ls hx hb hml hts hown hA hD hG hP hS hl ret
  have hown : s.vm.findClass RX9 = some m.cls := hown
  have hD : aD A [a_this, a_ofOne, a_ofOther] := hD
  have hl : lv_has ls 2 [(0, .ref a_this), (1, .int x0)] := hl
  have w1 := hts (.fieldLink RX9 9 "ThreeCards$Told" "ofOne" "[I") (List.mem_of_getElem? (i := 1) rfl)
  have w2 := hts (.fieldLink RX9 15 "ThreeCards$Told" "ofOther" "[I") (List.mem_of_getElem? (i := 2) rfl)
  have in9 : ∀ w ∈ u_ws RX9 TX9 5, w ∈ wsX9_byChance := by decide +kernel
  unfold mX9_byChance at hf
  refine lv_iload_n hx hb dX9_byChance_0 rfl (lv_at hl 1 rfl) ?_
  refine lv_if_ne (tgt := 7) hx hb dX9_byChance_1 (by decide) (fun c_1 => ?_) (fun c_1 => ?_)
  · have hf := xf hf c_1
    refine lv_aload_n hx hb dX9_byChance_7 rfl (lv_at hl 0 rfl) ?_
    refine va_get (D := X.1) (ci := 9) (v := .ref a_ofOne) (C := RX9) (T := TX9) (N := 5) hx hb hts in9 hown hG.1 hP 0 rfl rfl 1 (by decide) w1 (fun _ h9 => h9) rfl dX9_byChance_8 ?_
    refine lv_iconst (v := (0 : Int32)) hx hb dX9_byChance_11 (by decide) ?_
    refine va_iald (D := X.1) hx hb hG.1 hP 1 0 rfl rfl (vp_lit (by decide)) dX9_byChance_12 ?_
    refine lv_aload_n hx hb dX9_byChance_13 rfl (lv_at hl 0 rfl) ?_
    refine va_get (D := X.1) (ci := 9) (v := .ref a_ofOther) (C := RX9) (T := TX9) (N := 5) hx hb hts in9 hown hG.1 hP 0 rfl rfl 2 (by decide) w2 (fun _ h9 => h9) rfl dX9_byChance_14 ?_
    refine lv_iconst (v := (0 : Int32)) hx hb dX9_byChance_17 (by decide) ?_
    refine va_iald (D := X.1) hx hb hG.1 hP 2 0 rfl rfl (vp_lit (by decide)) dX9_byChance_18 ?_
    refine lv_imul hx hb dX9_byChance_19 ?_
    refine lv_aload_n hx hb dX9_byChance_20 rfl (lv_at hl 0 rfl) ?_
    refine va_get (D := X.1) (ci := 9) (v := .ref a_ofOne) (C := RX9) (T := TX9) (N := 5) hx hb hts in9 hown hG.1 hP 0 rfl rfl 1 (by decide) w1 (fun _ h9 => h9) rfl dX9_byChance_21 ?_
    refine lv_iconst (v := (1 : Int32)) hx hb dX9_byChance_24 (by decide) ?_
    refine va_iald (D := X.1) hx hb hG.1 hP 1 0 rfl rfl (vp_lit (by decide)) dX9_byChance_25 ?_
    refine lv_aload_n hx hb dX9_byChance_26 rfl (lv_at hl 0 rfl) ?_
    refine va_get (D := X.1) (ci := 9) (v := .ref a_ofOther) (C := RX9) (T := TX9) (N := 5) hx hb hts in9 hown hG.1 hP 0 rfl rfl 2 (by decide) w2 (fun _ h9 => h9) rfl dX9_byChance_27 ?_
    refine lv_iconst (v := (1 : Int32)) hx hb dX9_byChance_30 (by decide) ?_
    refine va_iald (D := X.1) hx hb hG.1 hP 2 0 rfl rfl (vp_lit (by decide)) dX9_byChance_31 ?_
    refine lv_imul hx hb dX9_byChance_32 ?_
    refine lv_iadd hx hb dX9_byChance_33 ?_
    refine lv_aload_n hx hb dX9_byChance_34 rfl (lv_at hl 0 rfl) ?_
    refine va_get (D := X.1) (ci := 9) (v := .ref a_ofOne) (C := RX9) (T := TX9) (N := 5) hx hb hts in9 hown hG.1 hP 0 rfl rfl 1 (by decide) w1 (fun _ h9 => h9) rfl dX9_byChance_35 ?_
    refine lv_iconst (v := (2 : Int32)) hx hb dX9_byChance_38 (by decide) ?_
    refine va_iald (D := X.1) hx hb hG.1 hP 1 0 rfl rfl (vp_lit (by decide)) dX9_byChance_39 ?_
    refine lv_aload_n hx hb dX9_byChance_40 rfl (lv_at hl 0 rfl) ?_
    refine va_get (D := X.1) (ci := 9) (v := .ref a_ofOther) (C := RX9) (T := TX9) (N := 5) hx hb hts in9 hown hG.1 hP 0 rfl rfl 2 (by decide) w2 (fun _ h9 => h9) rfl dX9_byChance_41 ?_
    refine lv_iconst (v := (2 : Int32)) hx hb dX9_byChance_44 (by decide) ?_
    refine va_iald (D := X.1) hx hb hG.1 hP 2 0 rfl rfl (vp_lit (by decide)) dX9_byChance_45 ?_
    refine lv_imul hx hb dX9_byChance_46 ?_
    refine lv_iadd hx hb dX9_byChance_47 ?_
    refine lv_iload_n hx hb dX9_byChance_48 rfl (lv_at hl 1 rfl) ?_
    obtain ⟨h_2, hf⟩ := gd_s hf
    refine lv_idiv hx hb dX9_byChance_49 h_2 ?_
    refine lv_topi (fun v_3 ev_3 => ?_)
    have hf := lb_s hf ev_3
    obtain rfl := Option.some.inj hf
    exact ret H _ ls _ rfl hP hD hS dX9_byChance_50
  · have hf := xt hf c_1
    refine lv_bipush (v := (-4 : Int32)) hx hb dX9_byChance_4 (by decide) ?_
    obtain rfl := Option.some.inj hf
    exact ret H _ ls _ rfl hP hD hS dX9_byChance_6
def mX9_alike_B105 (x0 : Int32) (x1 : Int32) (x2 : Int32) (f_notes_margins : Nat → Int32) (k25 : Int32 → Int32 → Int32 → (Nat → Int32) → (Nat → Int32) → Option (Int32 × (Nat → Int32) × (Nat → Int32))) (l4 : Int32) (l6 : Int32) (l7 : Int32) (l8 : Int32) (s0 : Int32) (s1 : Int32) (f_ofOne : Nat → Int32) (f_ofOther : Nat → Int32) :
  Option (Int32 × (Nat → Int32) × (Nat → Int32)) :=
  lb (s0 + s1) fun v_28 =>
  lb (l7 + (1 : Int32)) fun v_29 =>
  gi v_29 3 <|
  gi v_29 3 <|
  lb (upd f_ofOne v_29.toNatClampNeg ((f_ofOne v_29.toNatClampNeg) + (1 : Int32))) fun g_32 =>
  lb (l8 + (1 : Int32)) fun v_33 =>
  gi v_33 3 <|
  gi v_33 3 <|
  lb (upd f_ofOther v_33.toNatClampNeg ((f_ofOther v_33.toNatClampNeg) + (1 : Int32))) fun g_36 =>
  lb (l6 + (1 : Int32)) fun v_37 =>
  k25 l4 v_28 v_37 g_32 g_36
def mX9_alike_B25 (x0 : Int32) (x1 : Int32) (x2 : Int32) (f_notes_margins : Nat → Int32) (k25 : Int32 → Int32 → Int32 → (Nat → Int32) → (Nat → Int32) → Option (Int32 × (Nat → Int32) × (Nat → Int32))) (l4 : Int32) (l5 : Int32) (l6 : Int32) (f_ofOne : Nat → Int32) (f_ofOther : Nat → Int32) :
  Option (Int32 × (Nat → Int32) × (Nat → Int32)) :=
  if (24 : Int32) ≤ l6 then (if x2 = (2 : Int32) then ((mX9_byChance l4 f_ofOne f_ofOther).bind fun o_8 =>
  some (o_8, f_ofOne, f_ofOther)) else (if x2 = 0 then (some (l5, f_ofOne, f_ofOther)) else (some (l4, f_ofOne, f_ofOther)))) else ((mX5_isTold x0 l6 f_notes_margins).bind fun o_10 =>
  if o_10 = 0 then (lb (l6 + (1 : Int32)) fun v_13 =>
  k25 l4 l5 v_13 f_ofOne f_ofOther) else ((mX5_isTold x1 l6 f_notes_margins).bind fun o_14 =>
  if o_14 = 0 then (lb (l6 + (1 : Int32)) fun v_17 =>
  k25 l4 l5 v_17 f_ofOne f_ofOther) else ((mX5_toldOf x0 l6 f_notes_margins).bind fun o_18 =>
  (mX10_signOf o_18).bind fun o_20 =>
  (mX5_toldOf x1 l6 f_notes_margins).bind fun o_22 =>
  (mX10_signOf o_22).bind fun o_24 =>
  lb (l4 + (1 : Int32)) fun v_26 =>
  if o_20 = o_24 then (mX9_alike_B105 x0 x1 x2 f_notes_margins k25 v_26 l6 o_20 o_24 l5 (1 : Int32) f_ofOne f_ofOther) else (mX9_alike_B105 x0 x1 x2 f_notes_margins k25 v_26 l6 o_20 o_24 l5 (0 : Int32) f_ofOne f_ofOther))))
def mX9_alike_L25 (x0 : Int32) (x1 : Int32) (x2 : Int32) (f_notes_margins : Nat → Int32) (n : Nat) (l4 : Int32) (l5 : Int32) (l6 : Int32) (f_ofOne : Nat → Int32) (f_ofOther : Nat → Int32) :
  Option (Int32 × (Nat → Int32) × (Nat → Int32)) :=
  loopN (fun k (s : Int32 × Int32 × Int32 × (Nat → Int32) × (Nat → Int32)) => mX9_alike_B25 x0 x1 x2 f_notes_margins  (fun l4 l5 l6 f_ofOne f_ofOther => k (l4, l5, l6, f_ofOne, f_ofOther)) s.1 s.2.1 s.2.2.1 s.2.2.2.1 s.2.2.2.2) n (l4, l5, l6, f_ofOne, f_ofOther)
def mX9_alike (x0 : Int32) (x1 : Int32) (x2 : Int32) (f_ofOne : Nat → Int32) (f_ofOther : Nat → Int32) (f_notes_margins : Nat → Int32) :
  Option (Int32 × (Nat → Int32) × (Nat → Int32)) :=
  (mJ7_fill_53178 3 (0 : Int32) f_ofOne).bind fun o_1 =>
  (mJ7_fill_53178 3 (0 : Int32) f_ofOther).bind fun o_3 =>
  mX9_alike_L25 x0 x1 x2 f_notes_margins  FUEL (0 : Int32) (0 : Int32) (0 : Int32) o_1 o_3
theorem hdsX9_alike : yX9_alike.cls ≠ "java/lang/invoke/MethodHandle" ∧ yX9_alike.cls ≠ "java/lang/invoke/VarHandle" ∧ (parseMethodDescriptor yX9_alike.desc).map (fun d => d.parameters.length) = some 3 := by decide +kernel
theorem hdvX9_alike : yX9_alike.cls = RX9 ∧ yX9_alike.cls ≠ "java/lang/invoke/MethodHandle" ∧ yX9_alike.cls ≠ "java/lang/invoke/VarHandle" ∧ (parseMethodDescriptor yX9_alike.desc).map (fun d => d.parameters.length) = some 3 := by decide +kernel
abbrev rmX9_alike : Room := { frames := 2, cells := 0, slots := 0, locals := 44 }
set_option maxHeartbeats 4000000 in
set_option maxRecDepth 100000 in
theorem qX9_alike (l : Launch) (X : XT) (a_this : Nat) (a_notes : Nat) (a_ofOne : Nat) (a_ofOther : Nat) (a_notes_margins : Nat) (a_row : Nat) (a_notes_delays : Nat) (a_notes_odds : Nat)  (i_rowCount : Int32) (f_ofOne : Nat → Int32) (f_ofOther : Nat → Int32) (f_notes_margins : Nat → Int32) (x0 : Int32) (x1 : Int32) (x2 : Int32) (o : Int32 × (Nat → Int32) × (Nat → Int32)) (hf : mX9_alike x0 x1 x2 f_ofOne f_ofOther f_notes_margins = some o) :
    MI l yX9_alike wsX9_alike rmX9_alike X [.ref a_this, .int x0, .int x1, .int x2] [(a_this, .inr (9, [.ref a_notes, .ref a_ofOne, .ref a_ofOther, .ref a_row, .int i_rowCount])), (a_notes, .inr (5, [.ref a_notes_delays, .ref a_notes_margins, .ref a_notes_odds])), (a_ofOne, .inl (X.2.1 0, 3, .inl f_ofOne)), (a_ofOther, .inl (X.2.1 0, 3, .inl f_ofOther)), (a_notes_margins, .inl (X.2.1 0, 144, .inl f_notes_margins))]  [(a_this, .inr (9, [.ref a_notes, .ref a_ofOne, .ref a_ofOther, .ref a_row, .int i_rowCount])), (a_notes, .inr (5, [.ref a_notes_delays, .ref a_notes_margins, .ref a_notes_odds])), (a_ofOne, .inl (X.2.1 0, 3, .inl o.2.1)), (a_ofOther, .inl (X.2.1 0, 3, .inl o.2.2)), (a_notes_margins, .inl (X.2.1 0, 144, .inl f_notes_margins))] o.1 := by
  refine MI_ofH (cc := cX9_alike) (maxL := 9) (rt := .int) (by decide) rfl (Nat.le_of_ble_eq_true rfl) ?_
  intro p e s m below meth c A Q H ls hx hb hml hts hown hA hD hG hP hS hl ret
  have hown : s.vm.findClass RX9 = some m.cls := hown
  have hD : aD A [a_this, a_notes, a_ofOne, a_ofOther, a_notes_margins] := hD
  have hl : lv_has ls 9 [(0, .ref a_this), (1, .int x0), (2, .int x1), (3, .int x2)] := hl
  have w1 := hts (Cond.fieldLink RX9 9 "ThreeCards$Told" "ofOne" "[I") (List.mem_of_getElem? (i := 1) rfl)
  have w2 := hts (Cond.fieldLink RX9 15 "ThreeCards$Told" "ofOther" "[I") (List.mem_of_getElem? (i := 2) rfl)
  have w3 := hts (Cond.fieldLink RX9 27 "ThreeCards$Told" "notes" "LThreeCards$Notes;") (List.mem_of_getElem? (i := 3) rfl)
  have w19 := hts (Cond.static yX10_signOf) (List.mem_of_getElem? (i := 19) rfl)
  have w20 := hts (Cond.initialized RX10) (List.mem_of_getElem? (i := 20) rfl)
  have in9 : ∀ w ∈ u_ws RX9 TX9 5, w ∈ wsX9_alike := by decide +kernel
  have hB105 : ∀ (k25 : Int32 → Int32 → Int32 → (Nat → Int32) → (Nat → Int32) → Option (Int32 × (Nat → Int32) × (Nat → Int32))) (hk25 : ∀ (l4 : Int32) (l5 : Int32) (l6 : Int32) (f_ofOne : Nat → Int32) (f_ofOther : Nat → Int32)  (H : Heap) (locs : List Loc) (ls : Array Slot), va_P X.1 vwCl [(a_this, .inr (9, [.ref a_notes, .ref a_ofOne, .ref a_ofOther, .ref a_row, .int i_rowCount])), (a_notes, .inr (5, [.ref a_notes_delays, .ref a_notes_margins, .ref a_notes_odds])), (a_ofOne, .inl (X.2.1 0, 3, .inl f_ofOne)), (a_ofOther, .inl (X.2.1 0, 3, .inl f_ofOther)), (a_notes_margins, .inl (X.2.1 0, 144, .inl f_notes_margins))] H → va_S A s.heap H locs → lv_has ls 9 [(0, .ref a_this), (1, .int x0), (2, .int x1), (3, .int x2), (4, .int l4), (5, .int l5), (6, .int l6)] → k25 l4 l5 l6 f_ofOne f_ofOther = some o → W p l e rmX9_alike s m ([.ref a_this, .int x0, .int x1, .int x2] : List Value).toArray below meth c H locs 0 0 Q (F0 m 25 ls [])) (l4 : Int32) (l6 : Int32) (l7 : Int32) (l8 : Int32) (s0 : Int32) (s1 : Int32) (f_ofOne : Nat → Int32) (f_ofOther : Nat → Int32)  (H : Heap) (locs : List Loc) (ls : Array Slot), va_P X.1 vwCl [(a_this, .inr (9, [.ref a_notes, .ref a_ofOne, .ref a_ofOther, .ref a_row, .int i_rowCount])), (a_notes, .inr (5, [.ref a_notes_delays, .ref a_notes_margins, .ref a_notes_odds])), (a_ofOne, .inl (X.2.1 0, 3, .inl f_ofOne)), (a_ofOther, .inl (X.2.1 0, 3, .inl f_ofOther)), (a_notes_margins, .inl (X.2.1 0, 144, .inl f_notes_margins))] H → va_S A s.heap H locs → lv_has ls 9 [(0, .ref a_this), (1, .int x0), (2, .int x1), (3, .int x2), (4, .int l4), (6, .int l6), (7, .int l7), (8, .int l8)] → mX9_alike_B105 x0 x1 x2 f_notes_margins k25 l4 l6 l7 l8 s0 s1 f_ofOne f_ofOther = some o → W p l e rmX9_alike s m ([.ref a_this, .int x0, .int x1, .int x2] : List Value).toArray below meth c H locs 0 0 Q (F0 m 105 ls [.int s1, .int s0]) := by
    intro k25 hk25 l4 l6 l7 l8 s0 s1 f_ofOne f_ofOther  H locs ls hP hS hl hf
    unfold mX9_alike_B105 at hf
    refine lv_iadd hx hb dX9_alike_105 ?_
    refine lv_topi (fun v_28 ev_28 => ?_)
    have hf := lb_s hf ev_28
    refine lv_istore (lv' := [(5, .int v_28), (0, .ref a_this), (1, .int x0), (2, .int x1), (3, .int x2), (4, .int l4), (6, .int l6), (7, .int l7), (8, .int l8)]) hx hb dX9_alike_106 hl (by decide) rfl (fun ls hl => ?_)
    refine lv_aload_n hx hb dX9_alike_108 rfl (lv_at hl 1 rfl) ?_
    refine va_get (D := X.1) (ci := 9) (v := .ref a_ofOne) (C := RX9) (T := TX9) (N := 5) hx hb hts in9 hown hG.1 hP 0 rfl rfl 1 (by decide) w1 (fun _ h9 => h9) rfl dX9_alike_109 ?_
    refine lv_iload hx hb dX9_alike_112 (lv_at hl 7 rfl) ?_
    refine lv_iconst (v := (1 : Int32)) hx hb dX9_alike_114 (by decide) ?_
    refine lv_iadd hx hb dX9_alike_115 ?_
    refine lv_topi (fun v_29 ev_29 => ?_)
    have hf := lb_s hf ev_29
    refine lv_dup2_11 hx hb dX9_alike_116 rfl rfl ?_
    obtain ⟨h_30, hf⟩ := gi_s hf
    refine va_iald (D := X.1) hx hb hG.1 hP 2 0 rfl rfl h_30 dX9_alike_117 ?_
    refine lv_iconst (v := (1 : Int32)) hx hb dX9_alike_118 (by decide) ?_
    refine lv_iadd hx hb dX9_alike_119 ?_
    obtain ⟨h_31, hf⟩ := gi_s hf
    obtain ⟨g_32, eg_32, hf⟩ := lb_g hf
    refine x_iast (ws' := [(a_this, .inr (9, [.ref a_notes, .ref a_ofOne, .ref a_ofOther, .ref a_row, .int i_rowCount])), (a_notes, .inr (5, [.ref a_notes_delays, .ref a_notes_margins, .ref a_notes_odds])), (a_ofOne, .inl (X.2.1 0, 3, .inl g_32)), (a_ofOther, .inl (X.2.1 0, 3, .inl f_ofOther)), (a_notes_margins, .inl (X.2.1 0, 144, .inl f_notes_margins))]) hx hb hG hP hD rfl hS 2 rfl h_31 dX9_alike_120 eg_32 rfl (fun H locs hP hS => ?_)
    refine lv_aload_n hx hb dX9_alike_121 rfl (lv_at hl 1 rfl) ?_
    refine va_get (D := X.1) (ci := 9) (v := .ref a_ofOther) (C := RX9) (T := TX9) (N := 5) hx hb hts in9 hown hG.1 hP 0 rfl rfl 2 (by decide) w2 (fun _ h9 => h9) rfl dX9_alike_122 ?_
    refine lv_iload hx hb dX9_alike_125 (lv_at hl 8 rfl) ?_
    refine lv_iconst (v := (1 : Int32)) hx hb dX9_alike_127 (by decide) ?_
    refine lv_iadd hx hb dX9_alike_128 ?_
    refine lv_topi (fun v_33 ev_33 => ?_)
    have hf := lb_s hf ev_33
    refine lv_dup2_11 hx hb dX9_alike_129 rfl rfl ?_
    obtain ⟨h_34, hf⟩ := gi_s hf
    refine va_iald (D := X.1) hx hb hG.1 hP 3 0 rfl rfl h_34 dX9_alike_130 ?_
    refine lv_iconst (v := (1 : Int32)) hx hb dX9_alike_131 (by decide) ?_
    refine lv_iadd hx hb dX9_alike_132 ?_
    obtain ⟨h_35, hf⟩ := gi_s hf
    obtain ⟨g_36, eg_36, hf⟩ := lb_g hf
    refine x_iast (ws' := [(a_this, .inr (9, [.ref a_notes, .ref a_ofOne, .ref a_ofOther, .ref a_row, .int i_rowCount])), (a_notes, .inr (5, [.ref a_notes_delays, .ref a_notes_margins, .ref a_notes_odds])), (a_ofOne, .inl (X.2.1 0, 3, .inl g_32)), (a_ofOther, .inl (X.2.1 0, 3, .inl g_36)), (a_notes_margins, .inl (X.2.1 0, 144, .inl f_notes_margins))]) hx hb hG hP hD rfl hS 3 rfl h_35 dX9_alike_133 eg_36 rfl (fun H locs hP hS => ?_)
    obtain ⟨v_37, ev_37, hf⟩ := lb_g hf
    refine lv_iinc (v := v_37) (lv' := [(6, .int v_37), (5, .int v_28), (0, .ref a_this), (1, .int x0), (2, .int x1), (3, .int x2), (4, .int l4), (7, .int l7), (8, .int l8)]) hx hb dX9_alike_134 hl (k := 6) rfl ev_37.symm (by decide) rfl (fun ls hl => ?_)
    refine lv_goto (tgt := 25) hx hb dX9_alike_137 (by decide) ?_
    exact hk25 l4 v_28 v_37 g_32 g_36  H _ ls hP  hS (lv_sub hl [2, 3, 4, 5, 6, 1, 0] rfl) hf
  have hL25 : ∀ (n : Nat) (l4 : Int32) (l5 : Int32) (l6 : Int32) (f_ofOne : Nat → Int32) (f_ofOther : Nat → Int32)  (H : Heap) (locs : List Loc) (ls : Array Slot), va_P X.1 vwCl [(a_this, .inr (9, [.ref a_notes, .ref a_ofOne, .ref a_ofOther, .ref a_row, .int i_rowCount])), (a_notes, .inr (5, [.ref a_notes_delays, .ref a_notes_margins, .ref a_notes_odds])), (a_ofOne, .inl (X.2.1 0, 3, .inl f_ofOne)), (a_ofOther, .inl (X.2.1 0, 3, .inl f_ofOther)), (a_notes_margins, .inl (X.2.1 0, 144, .inl f_notes_margins))] H → va_S A s.heap H locs → lv_has ls 9 [(0, .ref a_this), (1, .int x0), (2, .int x1), (3, .int x2), (4, .int l4), (5, .int l5), (6, .int l6)] → mX9_alike_L25 x0 x1 x2 f_notes_margins  n l4 l5 l6 f_ofOne f_ofOther = some o → W p l e rmX9_alike s m ([.ref a_this, .int x0, .int x1, .int x2] : List Value).toArray below meth c H locs 0 0 Q (F0 m 25 ls []) := by
    intro n
    induction n with
    | zero => intro l4 l5 l6 f_ofOne f_ofOther  H locs ls hP hS hl hf; exact xn hf
    | succ n ih =>
      intro l4 l5 l6 f_ofOne f_ofOther  H locs ls hP hS hl hf
      have hf : mX9_alike_B25 x0 x1 x2 f_notes_margins  (mX9_alike_L25 x0 x1 x2 f_notes_margins  n) l4 l5 l6 f_ofOne f_ofOther = some o := hf
      generalize mX9_alike_L25 x0 x1 x2 f_notes_margins  n = k25 at ih hf
      unfold mX9_alike_B25 at hf
      refine lv_iload hx hb dX9_alike_25 (lv_at hl 6 rfl) ?_
      refine lv_bipush (v := (24 : Int32)) hx hb dX9_alike_27 (by decide) ?_
      refine lv_icmp_ge (tgt := 140) hx hb dX9_alike_29 (by decide) (fun c_5 => ?_) (fun c_5 => ?_)
      · have hf := xt hf c_5
        refine lv_iload_n hx hb dX9_alike_140 rfl (lv_at hl 3 rfl) ?_
        refine lv_iconst (v := (2 : Int32)) hx hb dX9_alike_141 (by decide) ?_
        refine lv_icmp_ne (tgt := 152) hx hb dX9_alike_142 (by decide) (fun c_6 => ?_) (fun c_6 => ?_)
        · have hf := xf hf c_6
          refine lv_iload_n hx hb dX9_alike_152 rfl (lv_at hl 3 rfl) ?_
          refine lv_if_ne (tgt := 161) hx hb dX9_alike_153 (by decide) (fun c_7 => ?_) (fun c_7 => ?_)
          · have hf := xf hf c_7
            refine lv_iload hx hb dX9_alike_161 (lv_at hl 4 rfl) ?_
            obtain rfl := Option.some.inj hf
            exact ret H _ ls _ rfl hP hD hS dX9_alike_163
          · have hf := xt hf c_7
            refine lv_iload hx hb dX9_alike_156 (lv_at hl 5 rfl) ?_
            refine lv_goto (tgt := 163) hx hb dX9_alike_158 (by decide) ?_
            obtain rfl := Option.some.inj hf
            exact ret H _ ls _ rfl hP hD hS dX9_alike_163
        · have hf := xt hf c_6
          refine lv_aload_n hx hb dX9_alike_145 rfl (lv_at hl 0 rfl) ?_
          refine lv_iload hx hb dX9_alike_146 (lv_at hl 4 rfl) ?_
          obtain ⟨o_8, ho_8, hf⟩ := ob_s hf
          refine xV_i (As := [.int l4]) (b := a_this) (rest := []) (ws2 := [(a_this, .inr (9, [.ref a_notes, .ref a_ofOne, .ref a_ofOther, .ref a_row, .int i_rowCount])), (a_notes, .inr (5, [.ref a_notes_delays, .ref a_notes_margins, .ref a_notes_odds])), (a_ofOne, .inl (X.2.1 0, 3, .inl f_ofOne)), (a_ofOther, .inl (X.2.1 0, 3, .inl f_ofOther)), (a_notes_margins, .inl (X.2.1 0, 144, .inl f_notes_margins))]) hx hb hml hts hown hG hA hP hD rfl hS hl.1 (qX9_byChance l X a_this a_ofOne a_ofOther a_notes a_row i_rowCount f_ofOne f_ofOther l4 o_8 ho_8) (cwV (y := yX9_byChance) 1 hts gX9_alike_X9_byChance rfl rfl rfl hdvX9_byChance ⟨Nat.le_of_ble_eq_true rfl, Nat.le_of_ble_eq_true rfl⟩) [0, 2, 3] [1, 4] [2, 0, 3, 4, 1] rfl rfl rfl rfl rfl rfl rfl (ci := 9) rfl 0 rfl rfl rfl (Nat.le_of_ble_eq_true rfl) ⟨Nat.le_of_ble_eq_true rfl, Nat.le_of_ble_eq_true rfl⟩ dX9_alike_148 (fun H locs hP _ hS => ?_)
          obtain rfl := Option.some.inj hf
          exact ret H _ ls _ rfl hP hD hS dX9_alike_151
      · have hf := xf hf c_5
        refine lv_aload_n hx hb dX9_alike_32 rfl (lv_at hl 0 rfl) ?_
        refine va_get (D := X.1) (ci := 9) (v := .ref a_notes) (C := RX9) (T := TX9) (N := 5) hx hb hts in9 hown hG.1 hP 0 rfl rfl 0 (by decide) w3 (fun _ h9 => h9) rfl dX9_alike_33 ?_
        refine lv_iload_n hx hb dX9_alike_36 rfl (lv_at hl 1 rfl) ?_
        refine lv_iload hx hb dX9_alike_37 (lv_at hl 6 rfl) ?_
        obtain ⟨o_10, ho_10, hf⟩ := ob_s hf
        refine xV_i (As := [.int x0, .int l6]) (b := a_notes) (rest := []) (ws2 := [(a_this, .inr (9, [.ref a_notes, .ref a_ofOne, .ref a_ofOther, .ref a_row, .int i_rowCount])), (a_notes, .inr (5, [.ref a_notes_delays, .ref a_notes_margins, .ref a_notes_odds])), (a_ofOne, .inl (X.2.1 0, 3, .inl f_ofOne)), (a_ofOther, .inl (X.2.1 0, 3, .inl f_ofOther)), (a_notes_margins, .inl (X.2.1 0, 144, .inl f_notes_margins))]) hx hb hml hts hown hG hA hP hD rfl hS hl.1 (qX5_isTold l X a_notes a_notes_margins a_notes_delays a_notes_odds f_notes_margins x0 l6 o_10 ho_10) (cwV (y := yX5_isTold) 2 hts gX9_alike_X5_isTold rfl rfl rfl hdvX5_isTold ⟨Nat.le_of_ble_eq_true rfl, Nat.le_of_ble_eq_true rfl⟩) [1, 4] [0, 2, 3] [0, 3, 1, 2, 4] rfl rfl rfl rfl rfl rfl rfl (ci := 5) rfl 1 rfl rfl rfl (Nat.le_of_ble_eq_true rfl) ⟨Nat.le_of_ble_eq_true rfl, Nat.le_of_ble_eq_true rfl⟩ dX9_alike_39 (fun H locs hP _ hS => ?_)
        refine lv_if_eq (tgt := 134) hx hb dX9_alike_42 (by decide) (fun c_12 => ?_) (fun c_12 => ?_)
        · have hf := xt hf c_12
          obtain ⟨v_13, ev_13, hf⟩ := lb_g hf
          refine lv_iinc (v := v_13) (lv' := [(6, .int v_13), (0, .ref a_this), (1, .int x0), (2, .int x1), (3, .int x2), (4, .int l4), (5, .int l5)]) hx hb dX9_alike_134 hl (k := 6) rfl ev_13.symm (by decide) rfl (fun ls hl => ?_)
          refine lv_goto (tgt := 25) hx hb dX9_alike_137 (by decide) ?_
          exact ih l4 l5 v_13 f_ofOne f_ofOther  H _ ls hP  hS (lv_sub hl [1, 2, 3, 4, 5, 6, 0] rfl) hf
        · have hf := xf hf c_12
          refine lv_aload_n hx hb dX9_alike_45 rfl (lv_at hl 0 rfl) ?_
          refine va_get (D := X.1) (ci := 9) (v := .ref a_notes) (C := RX9) (T := TX9) (N := 5) hx hb hts in9 hown hG.1 hP 0 rfl rfl 0 (by decide) w3 (fun _ h9 => h9) rfl dX9_alike_46 ?_
          refine lv_iload_n hx hb dX9_alike_49 rfl (lv_at hl 2 rfl) ?_
          refine lv_iload hx hb dX9_alike_50 (lv_at hl 6 rfl) ?_
          obtain ⟨o_14, ho_14, hf⟩ := ob_s hf
          refine xV_i (As := [.int x1, .int l6]) (b := a_notes) (rest := []) (ws2 := [(a_this, .inr (9, [.ref a_notes, .ref a_ofOne, .ref a_ofOther, .ref a_row, .int i_rowCount])), (a_notes, .inr (5, [.ref a_notes_delays, .ref a_notes_margins, .ref a_notes_odds])), (a_ofOne, .inl (X.2.1 0, 3, .inl f_ofOne)), (a_ofOther, .inl (X.2.1 0, 3, .inl f_ofOther)), (a_notes_margins, .inl (X.2.1 0, 144, .inl f_notes_margins))]) hx hb hml hts hown hG hA hP hD rfl hS hl.1 (qX5_isTold l X a_notes a_notes_margins a_notes_delays a_notes_odds f_notes_margins x1 l6 o_14 ho_14) (cwV (y := yX5_isTold) 2 hts gX9_alike_X5_isTold rfl rfl rfl hdvX5_isTold ⟨Nat.le_of_ble_eq_true rfl, Nat.le_of_ble_eq_true rfl⟩) [1, 4] [0, 2, 3] [0, 3, 1, 2, 4] rfl rfl rfl rfl rfl rfl rfl (ci := 5) rfl 1 rfl rfl rfl (Nat.le_of_ble_eq_true rfl) ⟨Nat.le_of_ble_eq_true rfl, Nat.le_of_ble_eq_true rfl⟩ dX9_alike_52 (fun H locs hP _ hS => ?_)
          refine lv_if_eq (tgt := 134) hx hb dX9_alike_55 (by decide) (fun c_16 => ?_) (fun c_16 => ?_)
          · have hf := xt hf c_16
            obtain ⟨v_17, ev_17, hf⟩ := lb_g hf
            refine lv_iinc (v := v_17) (lv' := [(6, .int v_17), (0, .ref a_this), (1, .int x0), (2, .int x1), (3, .int x2), (4, .int l4), (5, .int l5)]) hx hb dX9_alike_134 hl (k := 6) rfl ev_17.symm (by decide) rfl (fun ls hl => ?_)
            refine lv_goto (tgt := 25) hx hb dX9_alike_137 (by decide) ?_
            exact ih l4 l5 v_17 f_ofOne f_ofOther  H _ ls hP  hS (lv_sub hl [1, 2, 3, 4, 5, 6, 0] rfl) hf
          · have hf := xf hf c_16
            refine lv_aload_n hx hb dX9_alike_58 rfl (lv_at hl 0 rfl) ?_
            refine va_get (D := X.1) (ci := 9) (v := .ref a_notes) (C := RX9) (T := TX9) (N := 5) hx hb hts in9 hown hG.1 hP 0 rfl rfl 0 (by decide) w3 (fun _ h9 => h9) rfl dX9_alike_59 ?_
            refine lv_iload_n hx hb dX9_alike_62 rfl (lv_at hl 1 rfl) ?_
            refine lv_iload hx hb dX9_alike_63 (lv_at hl 6 rfl) ?_
            obtain ⟨o_18, ho_18, hf⟩ := ob_s hf
            refine xV_i (As := [.int x0, .int l6]) (b := a_notes) (rest := []) (ws2 := [(a_this, .inr (9, [.ref a_notes, .ref a_ofOne, .ref a_ofOther, .ref a_row, .int i_rowCount])), (a_notes, .inr (5, [.ref a_notes_delays, .ref a_notes_margins, .ref a_notes_odds])), (a_ofOne, .inl (X.2.1 0, 3, .inl f_ofOne)), (a_ofOther, .inl (X.2.1 0, 3, .inl f_ofOther)), (a_notes_margins, .inl (X.2.1 0, 144, .inl f_notes_margins))]) hx hb hml hts hown hG hA hP hD rfl hS hl.1 (qX5_toldOf l X a_notes a_notes_margins a_notes_delays a_notes_odds f_notes_margins x0 l6 o_18 ho_18) (cwV (y := yX5_toldOf) 2 hts gX9_alike_X5_toldOf rfl rfl rfl hdvX5_toldOf ⟨Nat.le_of_ble_eq_true rfl, Nat.le_of_ble_eq_true rfl⟩) [1, 4] [0, 2, 3] [0, 3, 1, 2, 4] rfl rfl rfl rfl rfl rfl rfl (ci := 5) rfl 1 rfl rfl rfl (Nat.le_of_ble_eq_true rfl) ⟨Nat.le_of_ble_eq_true rfl, Nat.le_of_ble_eq_true rfl⟩ dX9_alike_65 (fun H locs hP _ hS => ?_)
            obtain ⟨o_20, ho_20, hf⟩ := ob_s hf
            refine xSN_i (As := [.int o_18]) (rest := []) (ws2 := [(a_this, .inr (9, [.ref a_notes, .ref a_ofOne, .ref a_ofOther, .ref a_row, .int i_rowCount])), (a_notes, .inr (5, [.ref a_notes_delays, .ref a_notes_margins, .ref a_notes_odds])), (a_ofOne, .inl (X.2.1 0, 3, .inl f_ofOne)), (a_ofOther, .inl (X.2.1 0, 3, .inl f_ofOther)), (a_notes_margins, .inl (X.2.1 0, 144, .inl f_notes_margins))]) hx hb hml hts hown hG hA hP hD rfl hS hl.1 (qX10_signOf l X o_18 o_20 ho_20) ⟨va_cnB (y := yX10_signOf) 1 hts gX9_alike_X10_signOf_n45 rfl rfl rfl (nm5 hG.2.1) w20 hdsX10_signOf ⟨Nat.le_of_ble_eq_true rfl, Nat.le_of_ble_eq_true rfl⟩, w19, trivial⟩ [] [0, 1, 2, 3, 4] [0, 1, 2, 3, 4] rfl rfl rfl rfl rfl rfl rfl rfl rfl (Nat.le_of_ble_eq_true rfl) ⟨Nat.le_of_ble_eq_true rfl, Nat.le_of_ble_eq_true rfl⟩ dX9_alike_68 (fun H locs hP _ hS => ?_)
            refine lv_istore (lv' := [(7, .int o_20), (0, .ref a_this), (1, .int x0), (2, .int x1), (3, .int x2), (4, .int l4), (5, .int l5), (6, .int l6)]) hx hb dX9_alike_71 hl (by decide) rfl (fun ls hl => ?_)
            refine lv_aload_n hx hb dX9_alike_73 rfl (lv_at hl 1 rfl) ?_
            refine va_get (D := X.1) (ci := 9) (v := .ref a_notes) (C := RX9) (T := TX9) (N := 5) hx hb hts in9 hown hG.1 hP 0 rfl rfl 0 (by decide) w3 (fun _ h9 => h9) rfl dX9_alike_74 ?_
            refine lv_iload_n hx hb dX9_alike_77 rfl (lv_at hl 3 rfl) ?_
            refine lv_iload hx hb dX9_alike_78 (lv_at hl 7 rfl) ?_
            obtain ⟨o_22, ho_22, hf⟩ := ob_s hf
            refine xV_i (As := [.int x1, .int l6]) (b := a_notes) (rest := []) (ws2 := [(a_this, .inr (9, [.ref a_notes, .ref a_ofOne, .ref a_ofOther, .ref a_row, .int i_rowCount])), (a_notes, .inr (5, [.ref a_notes_delays, .ref a_notes_margins, .ref a_notes_odds])), (a_ofOne, .inl (X.2.1 0, 3, .inl f_ofOne)), (a_ofOther, .inl (X.2.1 0, 3, .inl f_ofOther)), (a_notes_margins, .inl (X.2.1 0, 144, .inl f_notes_margins))]) hx hb hml hts hown hG hA hP hD rfl hS hl.1 (qX5_toldOf l X a_notes a_notes_margins a_notes_delays a_notes_odds f_notes_margins x1 l6 o_22 ho_22) (cwV (y := yX5_toldOf) 2 hts gX9_alike_X5_toldOf rfl rfl rfl hdvX5_toldOf ⟨Nat.le_of_ble_eq_true rfl, Nat.le_of_ble_eq_true rfl⟩) [1, 4] [0, 2, 3] [0, 3, 1, 2, 4] rfl rfl rfl rfl rfl rfl rfl (ci := 5) rfl 1 rfl rfl rfl (Nat.le_of_ble_eq_true rfl) ⟨Nat.le_of_ble_eq_true rfl, Nat.le_of_ble_eq_true rfl⟩ dX9_alike_80 (fun H locs hP _ hS => ?_)
            obtain ⟨o_24, ho_24, hf⟩ := ob_s hf
            refine xSN_i (As := [.int o_22]) (rest := []) (ws2 := [(a_this, .inr (9, [.ref a_notes, .ref a_ofOne, .ref a_ofOther, .ref a_row, .int i_rowCount])), (a_notes, .inr (5, [.ref a_notes_delays, .ref a_notes_margins, .ref a_notes_odds])), (a_ofOne, .inl (X.2.1 0, 3, .inl f_ofOne)), (a_ofOther, .inl (X.2.1 0, 3, .inl f_ofOther)), (a_notes_margins, .inl (X.2.1 0, 144, .inl f_notes_margins))]) hx hb hml hts hown hG hA hP hD rfl hS hl.1 (qX10_signOf l X o_22 o_24 ho_24) ⟨va_cnB (y := yX10_signOf) 1 hts gX9_alike_X10_signOf_n45 rfl rfl rfl (nm5 hG.2.1) w20 hdsX10_signOf ⟨Nat.le_of_ble_eq_true rfl, Nat.le_of_ble_eq_true rfl⟩, w19, trivial⟩ [] [0, 1, 2, 3, 4] [0, 1, 2, 3, 4] rfl rfl rfl rfl rfl rfl rfl rfl rfl (Nat.le_of_ble_eq_true rfl) ⟨Nat.le_of_ble_eq_true rfl, Nat.le_of_ble_eq_true rfl⟩ dX9_alike_83 (fun H locs hP _ hS => ?_)
            refine lv_istore (lv' := [(8, .int o_24), (7, .int o_20), (0, .ref a_this), (1, .int x0), (2, .int x1), (3, .int x2), (4, .int l4), (5, .int l5), (6, .int l6)]) hx hb dX9_alike_86 hl (by decide) rfl (fun ls hl => ?_)
            obtain ⟨v_26, ev_26, hf⟩ := lb_g hf
            refine lv_iinc (v := v_26) (lv' := [(4, .int v_26), (8, .int o_24), (7, .int o_20), (0, .ref a_this), (1, .int x0), (2, .int x1), (3, .int x2), (5, .int l5), (6, .int l6)]) hx hb dX9_alike_88 hl (k := 6) rfl ev_26.symm (by decide) rfl (fun ls hl => ?_)
            refine lv_iload hx hb dX9_alike_91 (lv_at hl 7 rfl) ?_
            refine lv_iload hx hb dX9_alike_93 (lv_at hl 2 rfl) ?_
            refine lv_iload hx hb dX9_alike_95 (lv_at hl 1 rfl) ?_
            refine lv_icmp_ne (tgt := 104) hx hb dX9_alike_97 (by decide) (fun c_27 => ?_) (fun c_27 => ?_)
            · have hf := xf hf c_27
              refine lv_iconst (v := (0 : Int32)) hx hb dX9_alike_104 (by decide) ?_
              exact hB105 k25 ih v_26 l6 o_20 o_24 l5 (0 : Int32) f_ofOne f_ofOther  H _ ls hP  hS (lv_sub hl [3, 4, 5, 6, 0, 8, 2, 1] rfl) hf
            · have hf := xt hf c_27
              refine lv_iconst (v := (1 : Int32)) hx hb dX9_alike_100 (by decide) ?_
              refine lv_goto (tgt := 105) hx hb dX9_alike_101 (by decide) ?_
              exact hB105 k25 ih v_26 l6 o_20 o_24 l5 (1 : Int32) f_ofOne f_ofOther  H _ ls hP  hS (lv_sub hl [3, 4, 5, 6, 0, 8, 2, 1] rfl) hf
  unfold mX9_alike at hf
  refine lv_aload_n hx hb dX9_alike_0 rfl (lv_at hl 0 rfl) ?_
  refine va_get (D := X.1) (ci := 9) (v := .ref a_ofOne) (C := RX9) (T := TX9) (N := 5) hx hb hts in9 hown hG.1 hP 0 rfl rfl 1 (by decide) w1 (fun _ h9 => h9) rfl dX9_alike_1 ?_
  refine lv_iconst (v := (0 : Int32)) hx hb dX9_alike_4 (by decide) ?_
  obtain ⟨o_1, ho_1, hf⟩ := ob_s hf
  refine xS_v (As := [.ref a_ofOne, .int (0 : Int32)]) (rest := []) (ws2 := fun _ => [(a_this, .inr (9, [.ref a_notes, .ref a_ofOne, .ref a_ofOther, .ref a_row, .int i_rowCount])), (a_notes, .inr (5, [.ref a_notes_delays, .ref a_notes_margins, .ref a_notes_odds])), (a_ofOne, .inl (X.2.1 0, 3, .inl o_1)), (a_ofOther, .inl (X.2.1 0, 3, .inl f_ofOther)), (a_notes_margins, .inl (X.2.1 0, 144, .inl f_notes_margins))]) hx hb hml hts hown hG hA hP hD rfl hS hl.1 (qJ7_fill_53178 l X a_ofOne 3 f_ofOne (0 : Int32) o_1 ho_1) (va_cwS (y := yJ7_fill_53178) 2 hts gX9_alike_J7_fill_53178 rfl rfl rfl hdsJ7_fill_53178 ⟨Nat.le_of_ble_eq_true rfl, Nat.le_of_ble_eq_true rfl⟩) [2] [0, 1, 3, 4] [0, 1, 4, 2, 3] rfl rfl rfl rfl rfl rfl (fun _ => rfl) rfl rfl (Nat.le_of_ble_eq_true rfl) ⟨Nat.le_of_ble_eq_true rfl, Nat.le_of_ble_eq_true rfl⟩ dX9_alike_5 (fun u_2 H locs hP _ hS => ?_)
  refine lv_aload_n hx hb dX9_alike_8 rfl (lv_at hl 0 rfl) ?_
  refine va_get (D := X.1) (ci := 9) (v := .ref a_ofOther) (C := RX9) (T := TX9) (N := 5) hx hb hts in9 hown hG.1 hP 0 rfl rfl 2 (by decide) w2 (fun _ h9 => h9) rfl dX9_alike_9 ?_
  refine lv_iconst (v := (0 : Int32)) hx hb dX9_alike_12 (by decide) ?_
  obtain ⟨o_3, ho_3, hf⟩ := ob_s hf
  refine xS_v (As := [.ref a_ofOther, .int (0 : Int32)]) (rest := []) (ws2 := fun _ => [(a_this, .inr (9, [.ref a_notes, .ref a_ofOne, .ref a_ofOther, .ref a_row, .int i_rowCount])), (a_notes, .inr (5, [.ref a_notes_delays, .ref a_notes_margins, .ref a_notes_odds])), (a_ofOne, .inl (X.2.1 0, 3, .inl o_1)), (a_ofOther, .inl (X.2.1 0, 3, .inl o_3)), (a_notes_margins, .inl (X.2.1 0, 144, .inl f_notes_margins))]) hx hb hml hts hown hG hA hP hD rfl hS hl.1 (qJ7_fill_53178 l X a_ofOther 3 f_ofOther (0 : Int32) o_3 ho_3) (va_cwS (y := yJ7_fill_53178) 2 hts gX9_alike_J7_fill_53178 rfl rfl rfl hdsJ7_fill_53178 ⟨Nat.le_of_ble_eq_true rfl, Nat.le_of_ble_eq_true rfl⟩) [3] [0, 1, 2, 4] [0, 1, 2, 4, 3] rfl rfl rfl rfl rfl rfl (fun _ => rfl) rfl rfl (Nat.le_of_ble_eq_true rfl) ⟨Nat.le_of_ble_eq_true rfl, Nat.le_of_ble_eq_true rfl⟩ dX9_alike_13 (fun u_4 H locs hP _ hS => ?_)
  refine lv_iconst (v := (0 : Int32)) hx hb dX9_alike_16 (by decide) ?_
  refine lv_istore (lv' := [(4, .int (0 : Int32)), (0, .ref a_this), (1, .int x0), (2, .int x1), (3, .int x2)]) hx hb dX9_alike_17 hl (by decide) rfl (fun ls hl => ?_)
  refine lv_iconst (v := (0 : Int32)) hx hb dX9_alike_19 (by decide) ?_
  refine lv_istore (lv' := [(5, .int (0 : Int32)), (4, .int (0 : Int32)), (0, .ref a_this), (1, .int x0), (2, .int x1), (3, .int x2)]) hx hb dX9_alike_20 hl (by decide) rfl (fun ls hl => ?_)
  refine lv_iconst (v := (0 : Int32)) hx hb dX9_alike_22 (by decide) ?_
  refine lv_istore (lv' := [(6, .int (0 : Int32)), (5, .int (0 : Int32)), (4, .int (0 : Int32)), (0, .ref a_this), (1, .int x0), (2, .int x1), (3, .int x2)]) hx hb dX9_alike_23 hl (by decide) rfl (fun ls hl => ?_)
  exact hL25  FUEL (0 : Int32) (0 : Int32) (0 : Int32) o_1 o_3  H _ ls hP  hS (lv_sub hl [3, 4, 5, 6, 2, 1, 0] rfl) hf
def mX9_putIntoRow_B41 (x0 : Int32) (l2 : Int32) (f_row : Nat → Int32) (i_rowCount : Int32) :
  Option ((Nat → Int32) × Int32) :=
  gi l2 6 <|
  lb (upd f_row l2.toNatClampNeg x0) fun g_9 =>
  lb (i_rowCount + (1 : Int32)) fun v_10 =>
  some (g_9, v_10)
def mX9_putIntoRow_B5 (x0 : Int32) (k5 : Int32 → (Nat → Int32) → Int32 → Option ((Nat → Int32) × Int32)) (l2 : Int32) (f_row : Nat → Int32) (i_rowCount : Int32) :
  Option ((Nat → Int32) × Int32) :=
  if l2 ≤ 0 then (mX9_putIntoRow_B41 x0  l2 f_row i_rowCount) else (gi (l2 - (1 : Int32)) 6 <|
  if (f_row (l2 - (1 : Int32)).toNatClampNeg) ≤ x0 then (mX9_putIntoRow_B41 x0  l2 f_row i_rowCount) else (gi (l2 - (1 : Int32)) 6 <|
  gi l2 6 <|
  lb (upd f_row l2.toNatClampNeg (f_row (l2 - (1 : Int32)).toNatClampNeg)) fun g_6 =>
  lb (l2 + (-1 : Int32)) fun v_7 =>
  k5 v_7 g_6 i_rowCount))
def mX9_putIntoRow_L5 (x0 : Int32) (n : Nat) (l2 : Int32) (f_row : Nat → Int32) (i_rowCount : Int32) :
  Option ((Nat → Int32) × Int32) :=
  loopN (fun k (s : Int32 × (Nat → Int32) × Int32) => mX9_putIntoRow_B5 x0  (fun l2 f_row i_rowCount => k (l2, f_row, i_rowCount)) s.1 s.2.1 s.2.2) n (l2, f_row, i_rowCount)
def mX9_putIntoRow (x0 : Int32) (i_rowCount : Int32) (f_row : Nat → Int32) :
  Option ((Nat → Int32) × Int32) :=
  mX9_putIntoRow_L5 x0  FUEL i_rowCount f_row i_rowCount
theorem hdsX9_putIntoRow : yX9_putIntoRow.cls ≠ "java/lang/invoke/MethodHandle" ∧ yX9_putIntoRow.cls ≠ "java/lang/invoke/VarHandle" ∧ (parseMethodDescriptor yX9_putIntoRow.desc).map (fun d => d.parameters.length) = some 1 := by decide +kernel
theorem hdvX9_putIntoRow : yX9_putIntoRow.cls = RX9 ∧ yX9_putIntoRow.cls ≠ "java/lang/invoke/MethodHandle" ∧ yX9_putIntoRow.cls ≠ "java/lang/invoke/VarHandle" ∧ (parseMethodDescriptor yX9_putIntoRow.desc).map (fun d => d.parameters.length) = some 1 := by decide +kernel
abbrev rmX9_putIntoRow : Room := { frames := 0, cells := 0, slots := 0, locals := 0 }
set_option maxHeartbeats 4000000 in
set_option maxRecDepth 100000 in
theorem qX9_putIntoRow (l : Launch) (X : XT) (a_this : Nat) (a_row : Nat) (a_notes : Nat) (a_ofOne : Nat) (a_ofOther : Nat)  (i_rowCount : Int32) (f_row : Nat → Int32) (x0 : Int32) (o : (Nat → Int32) × Int32) (hf : mX9_putIntoRow x0 i_rowCount f_row = some o) :
    MC l yX9_putIntoRow wsX9_putIntoRow rmX9_putIntoRow X [.ref a_this, .int x0] [(a_this, .inr (9, [.ref a_notes, .ref a_ofOne, .ref a_ofOther, .ref a_row, .int i_rowCount])), (a_row, .inl (X.2.1 0, 6, .inl f_row))]  (fun _ => [(a_this, .inr (9, [.ref a_notes, .ref a_ofOne, .ref a_ofOther, .ref a_row, .int o.2])), (a_row, .inl (X.2.1 0, 6, .inl o.1))]) 0 0 := by
  refine MC_ofH (cc := cX9_putIntoRow) (maxL := 3) (by decide) rfl (Nat.le_of_ble_eq_true rfl) ?_
  intro p e s m below meth c A Q H ls hx hb hml hts hown hin hA hD hG hP hS hl ret
  have hown : s.vm.findClass RX9 = some m.cls := hown
  have hD : aD A [a_this, a_row] := hD
  have hl : lv_has ls 3 [(0, .ref a_this), (1, .int x0)] := hl
  have w1 := hts (.fieldLink RX9 23 "ThreeCards$Told" "rowCount" "I") (List.mem_of_getElem? (i := 1) rfl)
  have w2 := hts (.fieldLink RX9 20 "ThreeCards$Told" "row" "[I") (List.mem_of_getElem? (i := 2) rfl)
  have in9 : ∀ w ∈ u_ws RX9 TX9 5, w ∈ wsX9_putIntoRow := by decide +kernel
  have hB41 : ∀ (l2 : Int32) (f_row : Nat → Int32) (i_rowCount : Int32)  (H : Heap) (locs : List Loc) (ls : Array Slot), va_P X.1 vwCl [(a_this, .inr (9, [.ref a_notes, .ref a_ofOne, .ref a_ofOther, .ref a_row, .int i_rowCount])), (a_row, .inl (X.2.1 0, 6, .inl f_row))] H → va_S A s.heap H locs → lv_has ls 3 [(0, .ref a_this), (1, .int x0), (2, .int l2)] → mX9_putIntoRow_B41 x0  l2 f_row i_rowCount = some o → W p l e rmX9_putIntoRow s m ([.ref a_this, .int x0] : List Value).toArray below meth c H locs 0 0 Q (F0 m 41 ls []) := by
    intro l2 f_row i_rowCount  H locs ls hP hS hl hf
    unfold mX9_putIntoRow_B41 at hf
    refine lv_aload_n hx hb dX9_putIntoRow_41 rfl (lv_at hl 0 rfl) ?_
    refine va_get (D := X.1) (ci := 9) (v := .ref a_row) (C := RX9) (T := TX9) (N := 5) hx hb hts in9 hown hG.1 hP 0 rfl rfl 3 (by decide) w2 (fun _ h9 => h9) rfl dX9_putIntoRow_42 ?_
    refine lv_iload_n hx hb dX9_putIntoRow_45 rfl (lv_at hl 2 rfl) ?_
    refine lv_iload_n hx hb dX9_putIntoRow_46 rfl (lv_at hl 1 rfl) ?_
    obtain ⟨h_8, hf⟩ := gi_s hf
    obtain ⟨g_9, eg_9, hf⟩ := lb_g hf
    refine x_iast (ws' := [(a_this, .inr (9, [.ref a_notes, .ref a_ofOne, .ref a_ofOther, .ref a_row, .int i_rowCount])), (a_row, .inl (X.2.1 0, 6, .inl g_9))]) hx hb hG hP hD rfl hS 1 rfl h_8 dX9_putIntoRow_47 eg_9 rfl (fun H locs hP hS => ?_)
    refine lv_aload_n hx hb dX9_putIntoRow_48 rfl (lv_at hl 0 rfl) ?_
    refine lv_dup hx hb dX9_putIntoRow_49 rfl ?_
    refine va_get (D := X.1) (ci := 9) (v := .int i_rowCount) (C := RX9) (T := TX9) (N := 5) hx hb hts in9 hown hG.1 hP 0 rfl rfl 4 (by decide) w1 (fun _ h9 => h9) rfl dX9_putIntoRow_50 ?_
    refine lv_iconst (v := (1 : Int32)) hx hb dX9_putIntoRow_53 (by decide) ?_
    refine lv_iadd hx hb dX9_putIntoRow_54 ?_
    refine lv_topi (fun v_10 ev_10 => ?_)
    have hf := lb_s hf ev_10
    refine x_put (ws' := [(a_this, .inr (9, [.ref a_notes, .ref a_ofOne, .ref a_ofOther, .ref a_row, .int v_10])), (a_row, .inl (X.2.1 0, 6, .inl g_9))]) (ty := .int) (C := RX9) (T := TX9) (N := 5) hx hb hts in9 tyX9 tyX9_ok nmX9 hown hG hP hD rfl hS 0 rfl rfl 4 (by decide) w1 rfl (tyX9_ok 4 (by decide)) rfl rfl (Nat.le_of_ble_eq_true rfl) dX9_putIntoRow_55 rfl (fun H locs hP hS => ?_)
    obtain rfl := Option.some.inj hf
    exact ret (fun _ => 0) H _ ls _ hP hD hS dX9_putIntoRow_58
  have hL5 : ∀ (n : Nat) (l2 : Int32) (f_row : Nat → Int32) (i_rowCount : Int32)  (H : Heap) (locs : List Loc) (ls : Array Slot), va_P X.1 vwCl [(a_this, .inr (9, [.ref a_notes, .ref a_ofOne, .ref a_ofOther, .ref a_row, .int i_rowCount])), (a_row, .inl (X.2.1 0, 6, .inl f_row))] H → va_S A s.heap H locs → lv_has ls 3 [(0, .ref a_this), (1, .int x0), (2, .int l2)] → mX9_putIntoRow_L5 x0  n l2 f_row i_rowCount = some o → W p l e rmX9_putIntoRow s m ([.ref a_this, .int x0] : List Value).toArray below meth c H locs 0 0 Q (F0 m 5 ls []) := by
    intro n
    induction n with
    | zero => intro l2 f_row i_rowCount  H locs ls hP hS hl hf; exact xn hf
    | succ n ih =>
      intro l2 f_row i_rowCount  H locs ls hP hS hl hf
      have hf : mX9_putIntoRow_B5 x0  (mX9_putIntoRow_L5 x0  n) l2 f_row i_rowCount = some o := hf
      generalize mX9_putIntoRow_L5 x0  n = k5 at ih hf
      unfold mX9_putIntoRow_B5 at hf
      refine lv_iload_n hx hb dX9_putIntoRow_5 rfl (lv_at hl 2 rfl) ?_
      refine lv_if_le (tgt := 41) hx hb dX9_putIntoRow_6 (by decide) (fun c_1 => ?_) (fun c_1 => ?_)
      · have hf := xt hf c_1
        exact hB41  l2 f_row i_rowCount  H _ ls hP  hS (lv_sub hl [0, 1, 2] rfl) hf
      · have hf := xf hf c_1
        refine lv_aload_n hx hb dX9_putIntoRow_9 rfl (lv_at hl 0 rfl) ?_
        refine va_get (D := X.1) (ci := 9) (v := .ref a_row) (C := RX9) (T := TX9) (N := 5) hx hb hts in9 hown hG.1 hP 0 rfl rfl 3 (by decide) w2 (fun _ h9 => h9) rfl dX9_putIntoRow_10 ?_
        refine lv_iload_n hx hb dX9_putIntoRow_13 rfl (lv_at hl 2 rfl) ?_
        refine lv_iconst (v := (1 : Int32)) hx hb dX9_putIntoRow_14 (by decide) ?_
        refine lv_isub hx hb dX9_putIntoRow_15 ?_
        obtain ⟨h_2, hf⟩ := gi_s hf
        refine va_iald (D := X.1) hx hb hG.1 hP 1 0 rfl rfl h_2 dX9_putIntoRow_16 ?_
        refine lv_iload_n hx hb dX9_putIntoRow_17 rfl (lv_at hl 1 rfl) ?_
        refine lv_icmp_le (tgt := 41) hx hb dX9_putIntoRow_18 (by decide) (fun c_3 => ?_) (fun c_3 => ?_)
        · have hf := xt hf c_3
          exact hB41  l2 f_row i_rowCount  H _ ls hP  hS (lv_sub hl [0, 1, 2] rfl) hf
        · have hf := xf hf c_3
          refine lv_aload_n hx hb dX9_putIntoRow_21 rfl (lv_at hl 0 rfl) ?_
          refine va_get (D := X.1) (ci := 9) (v := .ref a_row) (C := RX9) (T := TX9) (N := 5) hx hb hts in9 hown hG.1 hP 0 rfl rfl 3 (by decide) w2 (fun _ h9 => h9) rfl dX9_putIntoRow_22 ?_
          refine lv_iload_n hx hb dX9_putIntoRow_25 rfl (lv_at hl 2 rfl) ?_
          refine lv_aload_n hx hb dX9_putIntoRow_26 rfl (lv_at hl 0 rfl) ?_
          refine va_get (D := X.1) (ci := 9) (v := .ref a_row) (C := RX9) (T := TX9) (N := 5) hx hb hts in9 hown hG.1 hP 0 rfl rfl 3 (by decide) w2 (fun _ h9 => h9) rfl dX9_putIntoRow_27 ?_
          refine lv_iload_n hx hb dX9_putIntoRow_30 rfl (lv_at hl 2 rfl) ?_
          refine lv_iconst (v := (1 : Int32)) hx hb dX9_putIntoRow_31 (by decide) ?_
          refine lv_isub hx hb dX9_putIntoRow_32 ?_
          obtain ⟨h_4, hf⟩ := gi_s hf
          refine va_iald (D := X.1) hx hb hG.1 hP 1 0 rfl rfl h_4 dX9_putIntoRow_33 ?_
          obtain ⟨h_5, hf⟩ := gi_s hf
          obtain ⟨g_6, eg_6, hf⟩ := lb_g hf
          refine x_iast (ws' := [(a_this, .inr (9, [.ref a_notes, .ref a_ofOne, .ref a_ofOther, .ref a_row, .int i_rowCount])), (a_row, .inl (X.2.1 0, 6, .inl g_6))]) hx hb hG hP hD rfl hS 1 rfl h_5 dX9_putIntoRow_34 eg_6 rfl (fun H locs hP hS => ?_)
          obtain ⟨v_7, ev_7, hf⟩ := lb_g hf
          refine lv_iinc (v := v_7) (lv' := [(2, .int v_7), (0, .ref a_this), (1, .int x0)]) hx hb dX9_putIntoRow_35 hl (k := 2) rfl ev_7.symm (by decide) rfl (fun ls hl => ?_)
          refine lv_goto (tgt := 5) hx hb dX9_putIntoRow_38 (by decide) ?_
          exact ih v_7 g_6 i_rowCount  H _ ls hP  hS (lv_sub hl [1, 2, 0] rfl) hf
  unfold mX9_putIntoRow at hf
  refine lv_aload_n hx hb dX9_putIntoRow_0 rfl (lv_at hl 0 rfl) ?_
  refine va_get (D := X.1) (ci := 9) (v := .int i_rowCount) (C := RX9) (T := TX9) (N := 5) hx hb hts in9 hown hG.1 hP 0 rfl rfl 4 (by decide) w1 (fun _ h9 => h9) rfl dX9_putIntoRow_1 ?_
  refine lv_istore_n (lv' := [(2, .int i_rowCount), (0, .ref a_this), (1, .int x0)]) hx hb dX9_putIntoRow_4 rfl hl (by decide) rfl (fun ls hl => ?_)
  exact hL5  FUEL i_rowCount f_row i_rowCount  H _ ls hP  hS (lv_sub hl [1, 2, 0] rfl) hf
def mX9_fillRow_B7 (x0 : Int32) (x1 : Int32) (f_notes_margins : Nat → Int32) (k7 : Int32 → Int32 → (Nat → Int32) → Option (Int32 × (Nat → Int32))) (l3 : Int32) (i_rowCount : Int32) (f_row : Nat → Int32) :
  Option (Int32 × (Nat → Int32)) :=
  if (6 : Int32) ≤ l3 then (some (i_rowCount, f_row)) else (if l3 = x0 then (lb (l3 + (1 : Int32)) fun v_3 =>
  k7 v_3 i_rowCount f_row) else ((mX5_isTold l3 x1 f_notes_margins).bind fun o_4 =>
  if o_4 = 0 then (lb (l3 + (1 : Int32)) fun v_7 =>
  k7 v_7 i_rowCount f_row) else ((mX5_toldOf l3 x1 f_notes_margins).bind fun o_8 =>
  (mX9_putIntoRow o_8 i_rowCount f_row).bind fun o_10 =>
  lb (l3 + (1 : Int32)) fun v_12 =>
  k7 v_12 o_10.2 o_10.1)))
def mX9_fillRow_L7 (x0 : Int32) (x1 : Int32) (f_notes_margins : Nat → Int32) (n : Nat) (l3 : Int32) (i_rowCount : Int32) (f_row : Nat → Int32) :
  Option (Int32 × (Nat → Int32)) :=
  loopN (fun k (s : Int32 × Int32 × (Nat → Int32)) => mX9_fillRow_B7 x0 x1 f_notes_margins  (fun l3 i_rowCount f_row => k (l3, i_rowCount, f_row)) s.1 s.2.1 s.2.2) n (l3, i_rowCount, f_row)
def mX9_fillRow (x0 : Int32) (x1 : Int32) (i_rowCount : Int32) (f_row : Nat → Int32) (f_notes_margins : Nat → Int32) :
  Option (Int32 × (Nat → Int32)) :=
  mX9_fillRow_L7 x0 x1 f_notes_margins  FUEL (0 : Int32) (0 : Int32) f_row
theorem hdsX9_fillRow : yX9_fillRow.cls ≠ "java/lang/invoke/MethodHandle" ∧ yX9_fillRow.cls ≠ "java/lang/invoke/VarHandle" ∧ (parseMethodDescriptor yX9_fillRow.desc).map (fun d => d.parameters.length) = some 2 := by decide +kernel
theorem hdvX9_fillRow : yX9_fillRow.cls = RX9 ∧ yX9_fillRow.cls ≠ "java/lang/invoke/MethodHandle" ∧ yX9_fillRow.cls ≠ "java/lang/invoke/VarHandle" ∧ (parseMethodDescriptor yX9_fillRow.desc).map (fun d => d.parameters.length) = some 2 := by decide +kernel
abbrev rmX9_fillRow : Room := { frames := 2, cells := 0, slots := 0, locals := 44 }
set_option maxHeartbeats 4000000 in
set_option maxRecDepth 100000 in
theorem qX9_fillRow (l : Launch) (X : XT) (a_this : Nat) (a_notes : Nat) (a_row : Nat) (a_notes_margins : Nat) (a_ofOne : Nat) (a_ofOther : Nat) (a_notes_delays : Nat) (a_notes_odds : Nat)  (i_rowCount : Int32) (f_row : Nat → Int32) (f_notes_margins : Nat → Int32) (x0 : Int32) (x1 : Int32) (o : Int32 × (Nat → Int32)) (hf : mX9_fillRow x0 x1 i_rowCount f_row f_notes_margins = some o) :
    MC l yX9_fillRow wsX9_fillRow rmX9_fillRow X [.ref a_this, .int x0, .int x1] [(a_this, .inr (9, [.ref a_notes, .ref a_ofOne, .ref a_ofOther, .ref a_row, .int i_rowCount])), (a_notes, .inr (5, [.ref a_notes_delays, .ref a_notes_margins, .ref a_notes_odds])), (a_row, .inl (X.2.1 0, 6, .inl f_row)), (a_notes_margins, .inl (X.2.1 0, 144, .inl f_notes_margins))]  (fun _ => [(a_this, .inr (9, [.ref a_notes, .ref a_ofOne, .ref a_ofOther, .ref a_row, .int o.1])), (a_notes, .inr (5, [.ref a_notes_delays, .ref a_notes_margins, .ref a_notes_odds])), (a_row, .inl (X.2.1 0, 6, .inl o.2)), (a_notes_margins, .inl (X.2.1 0, 144, .inl f_notes_margins))]) 0 0 := by
  refine MC_ofH (cc := cX9_fillRow) (maxL := 4) (by decide) rfl (Nat.le_of_ble_eq_true rfl) ?_
  intro p e s m below meth c A Q H ls hx hb hml hts hown hin hA hD hG hP hS hl ret
  have hown : s.vm.findClass RX9 = some m.cls := hown
  have hD : aD A [a_this, a_notes, a_row, a_notes_margins] := hD
  have hl : lv_has ls 4 [(0, .ref a_this), (1, .int x0), (2, .int x1)] := hl
  have w1 := hts (.fieldLink RX9 23 "ThreeCards$Told" "rowCount" "I") (List.mem_of_getElem? (i := 1) rfl)
  have w2 := hts (.fieldLink RX9 27 "ThreeCards$Told" "notes" "LThreeCards$Notes;") (List.mem_of_getElem? (i := 2) rfl)
  have in9 : ∀ w ∈ u_ws RX9 TX9 5, w ∈ wsX9_fillRow := by decide +kernel
  have hL7 : ∀ (n : Nat) (l3 : Int32) (i_rowCount : Int32) (f_row : Nat → Int32)  (H : Heap) (locs : List Loc) (ls : Array Slot), va_P X.1 vwCl [(a_this, .inr (9, [.ref a_notes, .ref a_ofOne, .ref a_ofOther, .ref a_row, .int i_rowCount])), (a_notes, .inr (5, [.ref a_notes_delays, .ref a_notes_margins, .ref a_notes_odds])), (a_row, .inl (X.2.1 0, 6, .inl f_row)), (a_notes_margins, .inl (X.2.1 0, 144, .inl f_notes_margins))] H → va_S A s.heap H locs → lv_has ls 4 [(0, .ref a_this), (1, .int x0), (2, .int x1), (3, .int l3)] → mX9_fillRow_L7 x0 x1 f_notes_margins  n l3 i_rowCount f_row = some o → W p l e rmX9_fillRow s m ([.ref a_this, .int x0, .int x1] : List Value).toArray below meth c H locs 0 0 Q (F0 m 7 ls []) := by
    intro n
    induction n with
    | zero => intro l3 i_rowCount f_row  H locs ls hP hS hl hf; exact xn hf
    | succ n ih =>
      intro l3 i_rowCount f_row  H locs ls hP hS hl hf
      have hf : mX9_fillRow_B7 x0 x1 f_notes_margins  (mX9_fillRow_L7 x0 x1 f_notes_margins  n) l3 i_rowCount f_row = some o := hf
      generalize mX9_fillRow_L7 x0 x1 f_notes_margins  n = k7 at ih hf
      unfold mX9_fillRow_B7 at hf
      refine lv_iload_n hx hb dX9_fillRow_7 rfl (lv_at hl 3 rfl) ?_
      refine lv_bipush (v := (6 : Int32)) hx hb dX9_fillRow_8 (by decide) ?_
      refine lv_icmp_ge (tgt := 49) hx hb dX9_fillRow_10 (by decide) (fun c_1 => ?_) (fun c_1 => ?_)
      · have hf := xt hf c_1
        obtain rfl := Option.some.inj hf
        exact ret (fun _ => 0) H _ ls _ hP hD hS dX9_fillRow_49
      · have hf := xf hf c_1
        refine lv_iload_n hx hb dX9_fillRow_13 rfl (lv_at hl 3 rfl) ?_
        refine lv_iload_n hx hb dX9_fillRow_14 rfl (lv_at hl 1 rfl) ?_
        refine lv_icmp_eq (tgt := 43) hx hb dX9_fillRow_15 (by decide) (fun c_2 => ?_) (fun c_2 => ?_)
        · have hf := xt hf c_2
          obtain ⟨v_3, ev_3, hf⟩ := lb_g hf
          refine lv_iinc (v := v_3) (lv' := [(3, .int v_3), (0, .ref a_this), (1, .int x0), (2, .int x1)]) hx hb dX9_fillRow_43 hl (k := 3) rfl ev_3.symm (by decide) rfl (fun ls hl => ?_)
          refine lv_goto (tgt := 7) hx hb dX9_fillRow_46 (by decide) ?_
          exact ih v_3 i_rowCount f_row  H _ ls hP  hS (lv_sub hl [1, 2, 3, 0] rfl) hf
        · have hf := xf hf c_2
          refine lv_aload_n hx hb dX9_fillRow_18 rfl (lv_at hl 0 rfl) ?_
          refine va_get (D := X.1) (ci := 9) (v := .ref a_notes) (C := RX9) (T := TX9) (N := 5) hx hb hts in9 hown hG.1 hP 0 rfl rfl 0 (by decide) w2 (fun _ h9 => h9) rfl dX9_fillRow_19 ?_
          refine lv_iload_n hx hb dX9_fillRow_22 rfl (lv_at hl 3 rfl) ?_
          refine lv_iload_n hx hb dX9_fillRow_23 rfl (lv_at hl 2 rfl) ?_
          obtain ⟨o_4, ho_4, hf⟩ := ob_s hf
          refine xV_i (As := [.int l3, .int x1]) (b := a_notes) (rest := []) (ws2 := [(a_this, .inr (9, [.ref a_notes, .ref a_ofOne, .ref a_ofOther, .ref a_row, .int i_rowCount])), (a_notes, .inr (5, [.ref a_notes_delays, .ref a_notes_margins, .ref a_notes_odds])), (a_row, .inl (X.2.1 0, 6, .inl f_row)), (a_notes_margins, .inl (X.2.1 0, 144, .inl f_notes_margins))]) hx hb hml hts hown hG hA hP hD rfl hS hl.1 (qX5_isTold l X a_notes a_notes_margins a_notes_delays a_notes_odds f_notes_margins l3 x1 o_4 ho_4) (cwV (y := yX5_isTold) 2 hts gX9_fillRow_X5_isTold rfl rfl rfl hdvX5_isTold ⟨Nat.le_of_ble_eq_true rfl, Nat.le_of_ble_eq_true rfl⟩) [1, 3] [0, 2] [0, 2, 1, 3] rfl rfl rfl rfl rfl rfl rfl (ci := 5) rfl 1 rfl rfl rfl (Nat.le_of_ble_eq_true rfl) ⟨Nat.le_of_ble_eq_true rfl, Nat.le_of_ble_eq_true rfl⟩ dX9_fillRow_24 (fun H locs hP _ hS => ?_)
          refine lv_if_eq (tgt := 43) hx hb dX9_fillRow_27 (by decide) (fun c_6 => ?_) (fun c_6 => ?_)
          · have hf := xt hf c_6
            obtain ⟨v_7, ev_7, hf⟩ := lb_g hf
            refine lv_iinc (v := v_7) (lv' := [(3, .int v_7), (0, .ref a_this), (1, .int x0), (2, .int x1)]) hx hb dX9_fillRow_43 hl (k := 3) rfl ev_7.symm (by decide) rfl (fun ls hl => ?_)
            refine lv_goto (tgt := 7) hx hb dX9_fillRow_46 (by decide) ?_
            exact ih v_7 i_rowCount f_row  H _ ls hP  hS (lv_sub hl [1, 2, 3, 0] rfl) hf
          · have hf := xf hf c_6
            refine lv_aload_n hx hb dX9_fillRow_30 rfl (lv_at hl 0 rfl) ?_
            refine lv_aload_n hx hb dX9_fillRow_31 rfl (lv_at hl 0 rfl) ?_
            refine va_get (D := X.1) (ci := 9) (v := .ref a_notes) (C := RX9) (T := TX9) (N := 5) hx hb hts in9 hown hG.1 hP 0 rfl rfl 0 (by decide) w2 (fun _ h9 => h9) rfl dX9_fillRow_32 ?_
            refine lv_iload_n hx hb dX9_fillRow_35 rfl (lv_at hl 3 rfl) ?_
            refine lv_iload_n hx hb dX9_fillRow_36 rfl (lv_at hl 2 rfl) ?_
            obtain ⟨o_8, ho_8, hf⟩ := ob_s hf
            refine xV_i (As := [.int l3, .int x1]) (b := a_notes) (rest := [.ref a_this]) (ws2 := [(a_this, .inr (9, [.ref a_notes, .ref a_ofOne, .ref a_ofOther, .ref a_row, .int i_rowCount])), (a_notes, .inr (5, [.ref a_notes_delays, .ref a_notes_margins, .ref a_notes_odds])), (a_row, .inl (X.2.1 0, 6, .inl f_row)), (a_notes_margins, .inl (X.2.1 0, 144, .inl f_notes_margins))]) hx hb hml hts hown hG hA hP hD rfl hS hl.1 (qX5_toldOf l X a_notes a_notes_margins a_notes_delays a_notes_odds f_notes_margins l3 x1 o_8 ho_8) (cwV (y := yX5_toldOf) 2 hts gX9_fillRow_X5_toldOf rfl rfl rfl hdvX5_toldOf ⟨Nat.le_of_ble_eq_true rfl, Nat.le_of_ble_eq_true rfl⟩) [1, 3] [0, 2] [0, 2, 1, 3] rfl rfl rfl rfl rfl rfl rfl (ci := 5) rfl 1 rfl rfl rfl (Nat.le_of_ble_eq_true rfl) ⟨Nat.le_of_ble_eq_true rfl, Nat.le_of_ble_eq_true rfl⟩ dX9_fillRow_37 (fun H locs hP _ hS => ?_)
            obtain ⟨o_10, ho_10, hf⟩ := ob_s hf
            refine xV_v (As := [.int o_8]) (b := a_this) (rest := []) (ws2 := fun _ => [(a_this, .inr (9, [.ref a_notes, .ref a_ofOne, .ref a_ofOther, .ref a_row, .int o_10.2])), (a_notes, .inr (5, [.ref a_notes_delays, .ref a_notes_margins, .ref a_notes_odds])), (a_row, .inl (X.2.1 0, 6, .inl o_10.1)), (a_notes_margins, .inl (X.2.1 0, 144, .inl f_notes_margins))]) hx hb hml hts hown hG hA hP hD rfl hS hl.1 (qX9_putIntoRow l X a_this a_row a_notes a_ofOne a_ofOther i_rowCount f_row o_8 o_10 ho_10) (cwV (y := yX9_putIntoRow) 1 hts gX9_fillRow_X9_putIntoRow rfl rfl rfl hdvX9_putIntoRow ⟨Nat.le_of_ble_eq_true rfl, Nat.le_of_ble_eq_true rfl⟩) [0, 2] [1, 3] [2, 0, 3, 1] rfl rfl rfl rfl rfl rfl (fun _ => rfl) (ci := 9) rfl 0 rfl rfl rfl (Nat.le_of_ble_eq_true rfl) ⟨Nat.le_of_ble_eq_true rfl, Nat.le_of_ble_eq_true rfl⟩ dX9_fillRow_40 (fun u_11 H locs hP _ hS => ?_)
            obtain ⟨v_12, ev_12, hf⟩ := lb_g hf
            refine lv_iinc (v := v_12) (lv' := [(3, .int v_12), (0, .ref a_this), (1, .int x0), (2, .int x1)]) hx hb dX9_fillRow_43 hl (k := 3) rfl ev_12.symm (by decide) rfl (fun ls hl => ?_)
            refine lv_goto (tgt := 7) hx hb dX9_fillRow_46 (by decide) ?_
            exact ih v_12 o_10.2 o_10.1  H _ ls hP  hS (lv_sub hl [1, 2, 3, 0] rfl) hf
  unfold mX9_fillRow at hf
  refine lv_aload_n hx hb dX9_fillRow_0 rfl (lv_at hl 0 rfl) ?_
  refine lv_iconst (v := (0 : Int32)) hx hb dX9_fillRow_1 (by decide) ?_
  refine x_put (ws' := [(a_this, .inr (9, [.ref a_notes, .ref a_ofOne, .ref a_ofOther, .ref a_row, .int (0 : Int32)])), (a_notes, .inr (5, [.ref a_notes_delays, .ref a_notes_margins, .ref a_notes_odds])), (a_row, .inl (X.2.1 0, 6, .inl f_row)), (a_notes_margins, .inl (X.2.1 0, 144, .inl f_notes_margins))]) (ty := .int) (C := RX9) (T := TX9) (N := 5) hx hb hts in9 tyX9 tyX9_ok nmX9 hown hG hP hD rfl hS 0 rfl rfl 4 (by decide) w1 rfl (tyX9_ok 4 (by decide)) rfl rfl (Nat.le_of_ble_eq_true rfl) dX9_fillRow_2 rfl (fun H locs hP hS => ?_)
  refine lv_iconst (v := (0 : Int32)) hx hb dX9_fillRow_5 (by decide) ?_
  refine lv_istore_n (lv' := [(3, .int (0 : Int32)), (0, .ref a_this), (1, .int x0), (2, .int x1)]) hx hb dX9_fillRow_6 rfl hl (by decide) rfl (fun ls hl => ?_)
  exact hL7  FUEL (0 : Int32) (0 : Int32) f_row  H _ ls hP  hS (lv_sub hl [1, 2, 3, 0] rfl) hf
def mX9_meanOfRow_B4 (i_rowCount : Int32) (f_row : Nat → Int32) (k4 : Int32 → Int32 → Option (Int32)) (l1 : Int32) (l2 : Int32) :
  Option (Int32) :=
  if i_rowCount ≤ l2 then (if i_rowCount = 0 then (some (0 : Int32)) else (gd (¬ i_rowCount = 0) <|
  lb (l1 / i_rowCount) fun v_4 =>
  some v_4)) else (gi l2 6 <|
  lb (l1 + (f_row l2.toNatClampNeg)) fun v_6 =>
  lb (l2 + (1 : Int32)) fun v_7 =>
  k4 v_6 v_7)
def mX9_meanOfRow_L4 (i_rowCount : Int32) (f_row : Nat → Int32) (n : Nat) (l1 : Int32) (l2 : Int32) :
  Option (Int32) :=
  loopN (fun k (s : Int32 × Int32) => mX9_meanOfRow_B4 i_rowCount f_row  (fun l1 l2 => k (l1, l2)) s.1 s.2) n (l1, l2)
def mX9_meanOfRow (i_rowCount : Int32) (f_row : Nat → Int32) :
  Option (Int32) :=
  mX9_meanOfRow_L4 i_rowCount f_row  FUEL (0 : Int32) (0 : Int32)
theorem hdsX9_meanOfRow : yX9_meanOfRow.cls ≠ "java/lang/invoke/MethodHandle" ∧ yX9_meanOfRow.cls ≠ "java/lang/invoke/VarHandle" ∧ (parseMethodDescriptor yX9_meanOfRow.desc).map (fun d => d.parameters.length) = some 0 := by decide +kernel
theorem hdvX9_meanOfRow : yX9_meanOfRow.cls = RX9 ∧ yX9_meanOfRow.cls ≠ "java/lang/invoke/MethodHandle" ∧ yX9_meanOfRow.cls ≠ "java/lang/invoke/VarHandle" ∧ (parseMethodDescriptor yX9_meanOfRow.desc).map (fun d => d.parameters.length) = some 0 := by decide +kernel
abbrev rmX9_meanOfRow : Room := { frames := 0, cells := 0, slots := 0, locals := 0 }
set_option maxHeartbeats 4000000 in
set_option maxRecDepth 100000 in
theorem qX9_meanOfRow (l : Launch) (X : XT) (a_this : Nat) (a_row : Nat) (a_notes : Nat) (a_ofOne : Nat) (a_ofOther : Nat)  (i_rowCount : Int32) (f_row : Nat → Int32)  (o : Int32) (hf : mX9_meanOfRow i_rowCount f_row = some o) :
    MI l yX9_meanOfRow wsX9_meanOfRow rmX9_meanOfRow X [.ref a_this] [(a_this, .inr (9, [.ref a_notes, .ref a_ofOne, .ref a_ofOther, .ref a_row, .int i_rowCount])), (a_row, .inl (X.2.1 0, 6, .inl f_row))]  [(a_this, .inr (9, [.ref a_notes, .ref a_ofOne, .ref a_ofOther, .ref a_row, .int i_rowCount])), (a_row, .inl (X.2.1 0, 6, .inl f_row))] o := by
  refine MI_ofH (cc := cX9_meanOfRow) (maxL := 3) (rt := .int) (by decide) rfl (Nat.le_of_ble_eq_true rfl) ?_
  intro p e s m below meth c A Q H ls hx hb hml hts hown hA hD hG hP hS hl ret
  have hown : s.vm.findClass RX9 = some m.cls := hown
  have hD : aD A [a_this, a_row] := hD
  have hl : lv_has ls 3 [(0, .ref a_this)] := hl
  have w1 := hts (.fieldLink RX9 23 "ThreeCards$Told" "rowCount" "I") (List.mem_of_getElem? (i := 1) rfl)
  have w2 := hts (.fieldLink RX9 20 "ThreeCards$Told" "row" "[I") (List.mem_of_getElem? (i := 2) rfl)
  have in9 : ∀ w ∈ u_ws RX9 TX9 5, w ∈ wsX9_meanOfRow := by decide +kernel
  have hL4 : ∀ (n : Nat) (l1 : Int32) (l2 : Int32)  (H : Heap) (locs : List Loc) (ls : Array Slot), va_P X.1 vwCl [(a_this, .inr (9, [.ref a_notes, .ref a_ofOne, .ref a_ofOther, .ref a_row, .int i_rowCount])), (a_row, .inl (X.2.1 0, 6, .inl f_row))] H → va_S A s.heap H locs → lv_has ls 3 [(0, .ref a_this), (1, .int l1), (2, .int l2)] → mX9_meanOfRow_L4 i_rowCount f_row  n l1 l2 = some o → W p l e rmX9_meanOfRow s m ([.ref a_this] : List Value).toArray below meth c H locs 0 0 Q (F0 m 4 ls []) := by
    intro n
    induction n with
    | zero => intro l1 l2  H locs ls hP hS hl hf; exact xn hf
    | succ n ih =>
      intro l1 l2  H locs ls hP hS hl hf
      have hf : mX9_meanOfRow_B4 i_rowCount f_row  (mX9_meanOfRow_L4 i_rowCount f_row  n) l1 l2 = some o := hf
      generalize mX9_meanOfRow_L4 i_rowCount f_row  n = k4 at ih hf
      unfold mX9_meanOfRow_B4 at hf
      refine lv_iload_n hx hb dX9_meanOfRow_4 rfl (lv_at hl 2 rfl) ?_
      refine lv_aload_n hx hb dX9_meanOfRow_5 rfl (lv_at hl 0 rfl) ?_
      refine va_get (D := X.1) (ci := 9) (v := .int i_rowCount) (C := RX9) (T := TX9) (N := 5) hx hb hts in9 hown hG.1 hP 0 rfl rfl 4 (by decide) w1 (fun _ h9 => h9) rfl dX9_meanOfRow_6 ?_
      refine lv_icmp_ge (tgt := 27) hx hb dX9_meanOfRow_9 (by decide) (fun c_1 => ?_) (fun c_1 => ?_)
      · have hf := xt hf c_1
        refine lv_aload_n hx hb dX9_meanOfRow_27 rfl (lv_at hl 0 rfl) ?_
        refine va_get (D := X.1) (ci := 9) (v := .int i_rowCount) (C := RX9) (T := TX9) (N := 5) hx hb hts in9 hown hG.1 hP 0 rfl rfl 4 (by decide) w1 (fun _ h9 => h9) rfl dX9_meanOfRow_28 ?_
        refine lv_if_ne (tgt := 38) hx hb dX9_meanOfRow_31 (by decide) (fun c_2 => ?_) (fun c_2 => ?_)
        · have hf := xf hf c_2
          refine lv_iload_n hx hb dX9_meanOfRow_38 rfl (lv_at hl 1 rfl) ?_
          refine lv_aload_n hx hb dX9_meanOfRow_39 rfl (lv_at hl 0 rfl) ?_
          refine va_get (D := X.1) (ci := 9) (v := .int i_rowCount) (C := RX9) (T := TX9) (N := 5) hx hb hts in9 hown hG.1 hP 0 rfl rfl 4 (by decide) w1 (fun _ h9 => h9) rfl dX9_meanOfRow_40 ?_
          obtain ⟨h_3, hf⟩ := gd_s hf
          refine lv_idiv hx hb dX9_meanOfRow_43 h_3 ?_
          refine lv_topi (fun v_4 ev_4 => ?_)
          have hf := lb_s hf ev_4
          obtain rfl := Option.some.inj hf
          exact ret H _ ls _ rfl hP hD hS dX9_meanOfRow_44
        · have hf := xt hf c_2
          refine lv_iconst (v := (0 : Int32)) hx hb dX9_meanOfRow_34 (by decide) ?_
          refine lv_goto (tgt := 44) hx hb dX9_meanOfRow_35 (by decide) ?_
          obtain rfl := Option.some.inj hf
          exact ret H _ ls _ rfl hP hD hS dX9_meanOfRow_44
      · have hf := xf hf c_1
        refine lv_iload_n hx hb dX9_meanOfRow_12 rfl (lv_at hl 1 rfl) ?_
        refine lv_aload_n hx hb dX9_meanOfRow_13 rfl (lv_at hl 0 rfl) ?_
        refine va_get (D := X.1) (ci := 9) (v := .ref a_row) (C := RX9) (T := TX9) (N := 5) hx hb hts in9 hown hG.1 hP 0 rfl rfl 3 (by decide) w2 (fun _ h9 => h9) rfl dX9_meanOfRow_14 ?_
        refine lv_iload_n hx hb dX9_meanOfRow_17 rfl (lv_at hl 2 rfl) ?_
        obtain ⟨h_5, hf⟩ := gi_s hf
        refine va_iald (D := X.1) hx hb hG.1 hP 1 0 rfl rfl h_5 dX9_meanOfRow_18 ?_
        refine lv_iadd hx hb dX9_meanOfRow_19 ?_
        refine lv_topi (fun v_6 ev_6 => ?_)
        have hf := lb_s hf ev_6
        refine lv_istore_n (lv' := [(1, .int v_6), (0, .ref a_this), (2, .int l2)]) hx hb dX9_meanOfRow_20 rfl hl (by decide) rfl (fun ls hl => ?_)
        obtain ⟨v_7, ev_7, hf⟩ := lb_g hf
        refine lv_iinc (v := v_7) (lv' := [(2, .int v_7), (1, .int v_6), (0, .ref a_this)]) hx hb dX9_meanOfRow_21 hl (k := 2) rfl ev_7.symm (by decide) rfl (fun ls hl => ?_)
        refine lv_goto (tgt := 4) hx hb dX9_meanOfRow_24 (by decide) ?_
        exact ih v_6 v_7  H _ ls hP  hS (lv_sub hl [2, 1, 0] rfl) hf
  unfold mX9_meanOfRow at hf
  refine lv_iconst (v := (0 : Int32)) hx hb dX9_meanOfRow_0 (by decide) ?_
  refine lv_istore_n (lv' := [(1, .int (0 : Int32)), (0, .ref a_this)]) hx hb dX9_meanOfRow_1 rfl hl (by decide) rfl (fun ls hl => ?_)
  refine lv_iconst (v := (0 : Int32)) hx hb dX9_meanOfRow_2 (by decide) ?_
  refine lv_istore_n (lv' := [(2, .int (0 : Int32)), (1, .int (0 : Int32)), (0, .ref a_this)]) hx hb dX9_meanOfRow_3 rfl hl (by decide) rfl (fun ls hl => ?_)
  exact hL4  FUEL (0 : Int32) (0 : Int32)  H _ ls hP  hS (lv_sub hl [2, 1, 0] rfl) hf
def mX9_leaning_B8 (x0 : Int32) (x1 : Int32) (f_notes_margins : Nat → Int32) (k8 : Int32 → Int32 → Int32 → Int32 → (Nat → Int32) → Option (Int32 × Int32 × (Nat → Int32))) (l3 : Int32) (l4 : Int32) (l5 : Int32) (i_rowCount : Int32) (f_row : Nat → Int32) :
  Option (Int32 × Int32 × (Nat → Int32)) :=
  if (24 : Int32) ≤ l5 then (if x1 = 0 then (some (l3, i_rowCount, f_row)) else (some (l4, i_rowCount, f_row))) else ((mX9_fillRow x0 l5 i_rowCount f_row f_notes_margins).bind fun o_3 =>
  (mX5_isTold x0 l5 f_notes_margins).bind fun o_5 =>
  if o_5 = 0 then (lb (l5 + (1 : Int32)) fun v_8 =>
  k8 l3 l4 v_8 o_3.1 o_3.2) else (if o_3.1 ≤ 0 then (lb (l5 + (1 : Int32)) fun v_10 =>
  k8 l3 l4 v_10 o_3.1 o_3.2) else ((mX5_toldOf x0 l5 f_notes_margins).bind fun o_11 =>
  (mX9_meanOfRow o_3.1 o_3.2).bind fun o_13 =>
  lb (l3 + (o_11 - o_13)) fun v_15 =>
  lb (l4 + (1 : Int32)) fun v_16 =>
  lb (l5 + (1 : Int32)) fun v_17 =>
  k8 v_15 v_16 v_17 o_3.1 o_3.2)))
def mX9_leaning_L8 (x0 : Int32) (x1 : Int32) (f_notes_margins : Nat → Int32) (n : Nat) (l3 : Int32) (l4 : Int32) (l5 : Int32) (i_rowCount : Int32) (f_row : Nat → Int32) :
  Option (Int32 × Int32 × (Nat → Int32)) :=
  loopN (fun k (s : Int32 × Int32 × Int32 × Int32 × (Nat → Int32)) => mX9_leaning_B8 x0 x1 f_notes_margins  (fun l3 l4 l5 i_rowCount f_row => k (l3, l4, l5, i_rowCount, f_row)) s.1 s.2.1 s.2.2.1 s.2.2.2.1 s.2.2.2.2) n (l3, l4, l5, i_rowCount, f_row)
def mX9_leaning (x0 : Int32) (x1 : Int32) (i_rowCount : Int32) (f_row : Nat → Int32) (f_notes_margins : Nat → Int32) :
  Option (Int32 × Int32 × (Nat → Int32)) :=
  mX9_leaning_L8 x0 x1 f_notes_margins  FUEL (0 : Int32) (0 : Int32) (0 : Int32) i_rowCount f_row
theorem hdsX9_leaning : yX9_leaning.cls ≠ "java/lang/invoke/MethodHandle" ∧ yX9_leaning.cls ≠ "java/lang/invoke/VarHandle" ∧ (parseMethodDescriptor yX9_leaning.desc).map (fun d => d.parameters.length) = some 2 := by decide +kernel
theorem hdvX9_leaning : yX9_leaning.cls = RX9 ∧ yX9_leaning.cls ≠ "java/lang/invoke/MethodHandle" ∧ yX9_leaning.cls ≠ "java/lang/invoke/VarHandle" ∧ (parseMethodDescriptor yX9_leaning.desc).map (fun d => d.parameters.length) = some 2 := by decide +kernel
abbrev rmX9_leaning : Room := { frames := 3, cells := 0, slots := 0, locals := 67 }
set_option maxHeartbeats 4000000 in
set_option maxRecDepth 100000 in
theorem qX9_leaning (l : Launch) (X : XT) (a_this : Nat) (a_notes : Nat) (a_row : Nat) (a_notes_margins : Nat) (a_ofOne : Nat) (a_ofOther : Nat) (a_notes_delays : Nat) (a_notes_odds : Nat)  (i_rowCount : Int32) (f_row : Nat → Int32) (f_notes_margins : Nat → Int32) (x0 : Int32) (x1 : Int32) (o : Int32 × Int32 × (Nat → Int32)) (hf : mX9_leaning x0 x1 i_rowCount f_row f_notes_margins = some o) :
    MI l yX9_leaning wsX9_leaning rmX9_leaning X [.ref a_this, .int x0, .int x1] [(a_this, .inr (9, [.ref a_notes, .ref a_ofOne, .ref a_ofOther, .ref a_row, .int i_rowCount])), (a_notes, .inr (5, [.ref a_notes_delays, .ref a_notes_margins, .ref a_notes_odds])), (a_row, .inl (X.2.1 0, 6, .inl f_row)), (a_notes_margins, .inl (X.2.1 0, 144, .inl f_notes_margins))]  [(a_this, .inr (9, [.ref a_notes, .ref a_ofOne, .ref a_ofOther, .ref a_row, .int o.2.1])), (a_notes, .inr (5, [.ref a_notes_delays, .ref a_notes_margins, .ref a_notes_odds])), (a_row, .inl (X.2.1 0, 6, .inl o.2.2)), (a_notes_margins, .inl (X.2.1 0, 144, .inl f_notes_margins))] o.1 := by
  refine MI_ofH (cc := cX9_leaning) (maxL := 6) (rt := .int) (by decide) rfl (Nat.le_of_ble_eq_true rfl) ?_
  intro p e s m below meth c A Q H ls hx hb hml hts hown hA hD hG hP hS hl ret
  have hown : s.vm.findClass RX9 = some m.cls := hown
  have hD : aD A [a_this, a_notes, a_row, a_notes_margins] := hD
  have hl : lv_has ls 6 [(0, .ref a_this), (1, .int x0), (2, .int x1)] := hl
  have w1 := hts (Cond.fieldLink RX9 27 "ThreeCards$Told" "notes" "LThreeCards$Notes;") (List.mem_of_getElem? (i := 1) rfl)
  have w2 := hts (Cond.fieldLink RX9 23 "ThreeCards$Told" "rowCount" "I") (List.mem_of_getElem? (i := 2) rfl)
  have in9 : ∀ w ∈ u_ws RX9 TX9 5, w ∈ wsX9_leaning := by decide +kernel
  have hL8 : ∀ (n : Nat) (l3 : Int32) (l4 : Int32) (l5 : Int32) (i_rowCount : Int32) (f_row : Nat → Int32)  (H : Heap) (locs : List Loc) (ls : Array Slot), va_P X.1 vwCl [(a_this, .inr (9, [.ref a_notes, .ref a_ofOne, .ref a_ofOther, .ref a_row, .int i_rowCount])), (a_notes, .inr (5, [.ref a_notes_delays, .ref a_notes_margins, .ref a_notes_odds])), (a_row, .inl (X.2.1 0, 6, .inl f_row)), (a_notes_margins, .inl (X.2.1 0, 144, .inl f_notes_margins))] H → va_S A s.heap H locs → lv_has ls 6 [(0, .ref a_this), (1, .int x0), (2, .int x1), (3, .int l3), (4, .int l4), (5, .int l5)] → mX9_leaning_L8 x0 x1 f_notes_margins  n l3 l4 l5 i_rowCount f_row = some o → W p l e rmX9_leaning s m ([.ref a_this, .int x0, .int x1] : List Value).toArray below meth c H locs 0 0 Q (F0 m 8 ls []) := by
    intro n
    induction n with
    | zero => intro l3 l4 l5 i_rowCount f_row  H locs ls hP hS hl hf; exact xn hf
    | succ n ih =>
      intro l3 l4 l5 i_rowCount f_row  H locs ls hP hS hl hf
      have hf : mX9_leaning_B8 x0 x1 f_notes_margins  (mX9_leaning_L8 x0 x1 f_notes_margins  n) l3 l4 l5 i_rowCount f_row = some o := hf
      generalize mX9_leaning_L8 x0 x1 f_notes_margins  n = k8 at ih hf
      unfold mX9_leaning_B8 at hf
      refine lv_iload hx hb dX9_leaning_8 (lv_at hl 5 rfl) ?_
      refine lv_bipush (v := (24 : Int32)) hx hb dX9_leaning_10 (by decide) ?_
      refine lv_icmp_ge (tgt := 69) hx hb dX9_leaning_12 (by decide) (fun c_1 => ?_) (fun c_1 => ?_)
      · have hf := xt hf c_1
        refine lv_iload_n hx hb dX9_leaning_69 rfl (lv_at hl 2 rfl) ?_
        refine lv_if_ne (tgt := 77) hx hb dX9_leaning_70 (by decide) (fun c_2 => ?_) (fun c_2 => ?_)
        · have hf := xf hf c_2
          refine lv_iload hx hb dX9_leaning_77 (lv_at hl 4 rfl) ?_
          obtain rfl := Option.some.inj hf
          exact ret H _ ls _ rfl hP hD hS dX9_leaning_79
        · have hf := xt hf c_2
          refine lv_iload_n hx hb dX9_leaning_73 rfl (lv_at hl 3 rfl) ?_
          refine lv_goto (tgt := 79) hx hb dX9_leaning_74 (by decide) ?_
          obtain rfl := Option.some.inj hf
          exact ret H _ ls _ rfl hP hD hS dX9_leaning_79
      · have hf := xf hf c_1
        refine lv_aload_n hx hb dX9_leaning_15 rfl (lv_at hl 0 rfl) ?_
        refine lv_iload_n hx hb dX9_leaning_16 rfl (lv_at hl 1 rfl) ?_
        refine lv_iload hx hb dX9_leaning_17 (lv_at hl 5 rfl) ?_
        obtain ⟨o_3, ho_3, hf⟩ := ob_s hf
        refine xV_v (As := [.int x0, .int l5]) (b := a_this) (rest := []) (ws2 := fun _ => [(a_this, .inr (9, [.ref a_notes, .ref a_ofOne, .ref a_ofOther, .ref a_row, .int o_3.1])), (a_notes, .inr (5, [.ref a_notes_delays, .ref a_notes_margins, .ref a_notes_odds])), (a_row, .inl (X.2.1 0, 6, .inl o_3.2)), (a_notes_margins, .inl (X.2.1 0, 144, .inl f_notes_margins))]) hx hb hml hts hown hG hA hP hD rfl hS hl.1 (qX9_fillRow l X a_this a_notes a_row a_notes_margins a_ofOne a_ofOther a_notes_delays a_notes_odds i_rowCount f_row f_notes_margins x0 l5 o_3 ho_3) (cwV (y := yX9_fillRow) 2 hts gX9_leaning_X9_fillRow rfl rfl rfl hdvX9_fillRow ⟨Nat.le_of_ble_eq_true rfl, Nat.le_of_ble_eq_true rfl⟩) [0, 1, 2, 3] [] [0, 1, 2, 3] rfl rfl rfl rfl rfl rfl (fun _ => rfl) (ci := 9) rfl 0 rfl rfl rfl (Nat.le_of_ble_eq_true rfl) ⟨Nat.le_of_ble_eq_true rfl, Nat.le_of_ble_eq_true rfl⟩ dX9_leaning_19 (fun u_4 H locs hP _ hS => ?_)
        refine lv_aload_n hx hb dX9_leaning_22 rfl (lv_at hl 0 rfl) ?_
        refine va_get (D := X.1) (ci := 9) (v := .ref a_notes) (C := RX9) (T := TX9) (N := 5) hx hb hts in9 hown hG.1 hP 0 rfl rfl 0 (by decide) w1 (fun _ h9 => h9) rfl dX9_leaning_23 ?_
        refine lv_iload_n hx hb dX9_leaning_26 rfl (lv_at hl 1 rfl) ?_
        refine lv_iload hx hb dX9_leaning_27 (lv_at hl 5 rfl) ?_
        obtain ⟨o_5, ho_5, hf⟩ := ob_s hf
        refine xV_i (As := [.int x0, .int l5]) (b := a_notes) (rest := []) (ws2 := [(a_this, .inr (9, [.ref a_notes, .ref a_ofOne, .ref a_ofOther, .ref a_row, .int o_3.1])), (a_notes, .inr (5, [.ref a_notes_delays, .ref a_notes_margins, .ref a_notes_odds])), (a_row, .inl (X.2.1 0, 6, .inl o_3.2)), (a_notes_margins, .inl (X.2.1 0, 144, .inl f_notes_margins))]) hx hb hml hts hown hG hA hP hD rfl hS hl.1 (qX5_isTold l X a_notes a_notes_margins a_notes_delays a_notes_odds f_notes_margins x0 l5 o_5 ho_5) (cwV (y := yX5_isTold) 2 hts gX9_leaning_X5_isTold rfl rfl rfl hdvX5_isTold ⟨Nat.le_of_ble_eq_true rfl, Nat.le_of_ble_eq_true rfl⟩) [1, 3] [0, 2] [0, 2, 1, 3] rfl rfl rfl rfl rfl rfl rfl (ci := 5) rfl 1 rfl rfl rfl (Nat.le_of_ble_eq_true rfl) ⟨Nat.le_of_ble_eq_true rfl, Nat.le_of_ble_eq_true rfl⟩ dX9_leaning_29 (fun H locs hP _ hS => ?_)
        refine lv_if_eq (tgt := 63) hx hb dX9_leaning_32 (by decide) (fun c_7 => ?_) (fun c_7 => ?_)
        · have hf := xt hf c_7
          obtain ⟨v_8, ev_8, hf⟩ := lb_g hf
          refine lv_iinc (v := v_8) (lv' := [(5, .int v_8), (0, .ref a_this), (1, .int x0), (2, .int x1), (3, .int l3), (4, .int l4)]) hx hb dX9_leaning_63 hl (k := 5) rfl ev_8.symm (by decide) rfl (fun ls hl => ?_)
          refine lv_goto (tgt := 8) hx hb dX9_leaning_66 (by decide) ?_
          exact ih l3 l4 v_8 o_3.1 o_3.2  H _ ls hP  hS (lv_sub hl [1, 2, 3, 4, 5, 0] rfl) hf
        · have hf := xf hf c_7
          refine lv_aload_n hx hb dX9_leaning_35 rfl (lv_at hl 0 rfl) ?_
          refine va_get (D := X.1) (ci := 9) (v := .int o_3.1) (C := RX9) (T := TX9) (N := 5) hx hb hts in9 hown hG.1 hP 0 rfl rfl 4 (by decide) w2 (fun _ h9 => h9) rfl dX9_leaning_36 ?_
          refine lv_if_le (tgt := 63) hx hb dX9_leaning_39 (by decide) (fun c_9 => ?_) (fun c_9 => ?_)
          · have hf := xt hf c_9
            obtain ⟨v_10, ev_10, hf⟩ := lb_g hf
            refine lv_iinc (v := v_10) (lv' := [(5, .int v_10), (0, .ref a_this), (1, .int x0), (2, .int x1), (3, .int l3), (4, .int l4)]) hx hb dX9_leaning_63 hl (k := 5) rfl ev_10.symm (by decide) rfl (fun ls hl => ?_)
            refine lv_goto (tgt := 8) hx hb dX9_leaning_66 (by decide) ?_
            exact ih l3 l4 v_10 o_3.1 o_3.2  H _ ls hP  hS (lv_sub hl [1, 2, 3, 4, 5, 0] rfl) hf
          · have hf := xf hf c_9
            refine lv_iload_n hx hb dX9_leaning_42 rfl (lv_at hl 3 rfl) ?_
            refine lv_aload_n hx hb dX9_leaning_43 rfl (lv_at hl 0 rfl) ?_
            refine va_get (D := X.1) (ci := 9) (v := .ref a_notes) (C := RX9) (T := TX9) (N := 5) hx hb hts in9 hown hG.1 hP 0 rfl rfl 0 (by decide) w1 (fun _ h9 => h9) rfl dX9_leaning_44 ?_
            refine lv_iload_n hx hb dX9_leaning_47 rfl (lv_at hl 1 rfl) ?_
            refine lv_iload hx hb dX9_leaning_48 (lv_at hl 5 rfl) ?_
            obtain ⟨o_11, ho_11, hf⟩ := ob_s hf
            refine xV_i (As := [.int x0, .int l5]) (b := a_notes) (rest := [.int l3]) (ws2 := [(a_this, .inr (9, [.ref a_notes, .ref a_ofOne, .ref a_ofOther, .ref a_row, .int o_3.1])), (a_notes, .inr (5, [.ref a_notes_delays, .ref a_notes_margins, .ref a_notes_odds])), (a_row, .inl (X.2.1 0, 6, .inl o_3.2)), (a_notes_margins, .inl (X.2.1 0, 144, .inl f_notes_margins))]) hx hb hml hts hown hG hA hP hD rfl hS hl.1 (qX5_toldOf l X a_notes a_notes_margins a_notes_delays a_notes_odds f_notes_margins x0 l5 o_11 ho_11) (cwV (y := yX5_toldOf) 2 hts gX9_leaning_X5_toldOf rfl rfl rfl hdvX5_toldOf ⟨Nat.le_of_ble_eq_true rfl, Nat.le_of_ble_eq_true rfl⟩) [1, 3] [0, 2] [0, 2, 1, 3] rfl rfl rfl rfl rfl rfl rfl (ci := 5) rfl 1 rfl rfl rfl (Nat.le_of_ble_eq_true rfl) ⟨Nat.le_of_ble_eq_true rfl, Nat.le_of_ble_eq_true rfl⟩ dX9_leaning_50 (fun H locs hP _ hS => ?_)
            refine lv_aload_n hx hb dX9_leaning_53 rfl (lv_at hl 0 rfl) ?_
            obtain ⟨o_13, ho_13, hf⟩ := ob_s hf
            refine xV_i (As := []) (b := a_this) (rest := [.int o_11, .int l3]) (ws2 := [(a_this, .inr (9, [.ref a_notes, .ref a_ofOne, .ref a_ofOther, .ref a_row, .int o_3.1])), (a_notes, .inr (5, [.ref a_notes_delays, .ref a_notes_margins, .ref a_notes_odds])), (a_row, .inl (X.2.1 0, 6, .inl o_3.2)), (a_notes_margins, .inl (X.2.1 0, 144, .inl f_notes_margins))]) hx hb hml hts hown hG hA hP hD rfl hS hl.1 (qX9_meanOfRow l X a_this a_row a_notes a_ofOne a_ofOther o_3.1 o_3.2 o_13 ho_13) (cwV (y := yX9_meanOfRow) 0 hts gX9_leaning_X9_meanOfRow rfl rfl rfl hdvX9_meanOfRow ⟨Nat.le_of_ble_eq_true rfl, Nat.le_of_ble_eq_true rfl⟩) [0, 2] [1, 3] [2, 0, 3, 1] rfl rfl rfl rfl rfl rfl rfl (ci := 9) rfl 0 rfl rfl rfl (Nat.le_of_ble_eq_true rfl) ⟨Nat.le_of_ble_eq_true rfl, Nat.le_of_ble_eq_true rfl⟩ dX9_leaning_54 (fun H locs hP _ hS => ?_)
            refine lv_isub hx hb dX9_leaning_57 ?_
            refine lv_iadd hx hb dX9_leaning_58 ?_
            refine lv_topi (fun v_15 ev_15 => ?_)
            have hf := lb_s hf ev_15
            refine lv_istore_n (lv' := [(3, .int v_15), (0, .ref a_this), (1, .int x0), (2, .int x1), (4, .int l4), (5, .int l5)]) hx hb dX9_leaning_59 rfl hl (by decide) rfl (fun ls hl => ?_)
            obtain ⟨v_16, ev_16, hf⟩ := lb_g hf
            refine lv_iinc (v := v_16) (lv' := [(4, .int v_16), (3, .int v_15), (0, .ref a_this), (1, .int x0), (2, .int x1), (5, .int l5)]) hx hb dX9_leaning_60 hl (k := 4) rfl ev_16.symm (by decide) rfl (fun ls hl => ?_)
            obtain ⟨v_17, ev_17, hf⟩ := lb_g hf
            refine lv_iinc (v := v_17) (lv' := [(5, .int v_17), (4, .int v_16), (3, .int v_15), (0, .ref a_this), (1, .int x0), (2, .int x1)]) hx hb dX9_leaning_63 hl (k := 5) rfl ev_17.symm (by decide) rfl (fun ls hl => ?_)
            refine lv_goto (tgt := 8) hx hb dX9_leaning_66 (by decide) ?_
            exact ih v_15 v_16 v_17 o_3.1 o_3.2  H _ ls hP  hS (lv_sub hl [3, 4, 5, 2, 1, 0] rfl) hf
  unfold mX9_leaning at hf
  refine lv_iconst (v := (0 : Int32)) hx hb dX9_leaning_0 (by decide) ?_
  refine lv_istore_n (lv' := [(3, .int (0 : Int32)), (0, .ref a_this), (1, .int x0), (2, .int x1)]) hx hb dX9_leaning_1 rfl hl (by decide) rfl (fun ls hl => ?_)
  refine lv_iconst (v := (0 : Int32)) hx hb dX9_leaning_2 (by decide) ?_
  refine lv_istore (lv' := [(4, .int (0 : Int32)), (3, .int (0 : Int32)), (0, .ref a_this), (1, .int x0), (2, .int x1)]) hx hb dX9_leaning_3 hl (by decide) rfl (fun ls hl => ?_)
  refine lv_iconst (v := (0 : Int32)) hx hb dX9_leaning_5 (by decide) ?_
  refine lv_istore (lv' := [(5, .int (0 : Int32)), (4, .int (0 : Int32)), (3, .int (0 : Int32)), (0, .ref a_this), (1, .int x0), (2, .int x1)]) hx hb dX9_leaning_6 hl (by decide) rfl (fun ls hl => ?_)
  exact hL8  FUEL (0 : Int32) (0 : Int32) (0 : Int32) i_rowCount f_row  H _ ls hP  hS (lv_sub hl [3, 4, 5, 2, 1, 0] rfl) hf
def mX9_farthestNight_B8 (x0 : Int32) (f_notes_margins : Nat → Int32) (k8 : Int32 → Int32 → Int32 → Int32 → (Nat → Int32) → Option (Int32 × Int32 × (Nat → Int32))) (l2 : Int32) (l3 : Int32) (l4 : Int32) (i_rowCount : Int32) (f_row : Nat → Int32) :
  Option (Int32 × Int32 × (Nat → Int32)) :=
  if (24 : Int32) ≤ l4 then (some (l2, i_rowCount, f_row)) else ((mX9_fillRow x0 l4 i_rowCount f_row f_notes_margins).bind fun o_2 =>
  (mX5_isTold x0 l4 f_notes_margins).bind fun o_4 =>
  if o_4 = 0 then (lb (l4 + (1 : Int32)) fun v_7 =>
  k8 l2 l3 v_7 o_2.1 o_2.2) else (if o_2.1 < (2 : Int32) then (lb (l4 + (1 : Int32)) fun v_9 =>
  k8 l2 l3 v_9 o_2.1 o_2.2) else ((mX5_toldOf x0 l4 f_notes_margins).bind fun o_10 =>
  gi ((o_2.1 - (1 : Int32)) / (2 : Int32)) 6 <|
  lb (iabs (o_10 - (o_2.2 ((o_2.1 - (1 : Int32)) / (2 : Int32)).toNatClampNeg))) fun v_13 =>
  if v_13 ≤ l3 then (lb (l4 + (1 : Int32)) fun v_15 =>
  k8 l2 l3 v_15 o_2.1 o_2.2) else (lb (l4 + (1 : Int32)) fun v_16 =>
  k8 l4 v_13 v_16 o_2.1 o_2.2))))
def mX9_farthestNight_L8 (x0 : Int32) (f_notes_margins : Nat → Int32) (n : Nat) (l2 : Int32) (l3 : Int32) (l4 : Int32) (i_rowCount : Int32) (f_row : Nat → Int32) :
  Option (Int32 × Int32 × (Nat → Int32)) :=
  loopN (fun k (s : Int32 × Int32 × Int32 × Int32 × (Nat → Int32)) => mX9_farthestNight_B8 x0 f_notes_margins  (fun l2 l3 l4 i_rowCount f_row => k (l2, l3, l4, i_rowCount, f_row)) s.1 s.2.1 s.2.2.1 s.2.2.2.1 s.2.2.2.2) n (l2, l3, l4, i_rowCount, f_row)
def mX9_farthestNight (x0 : Int32) (i_rowCount : Int32) (f_row : Nat → Int32) (f_notes_margins : Nat → Int32) :
  Option (Int32 × Int32 × (Nat → Int32)) :=
  mX9_farthestNight_L8 x0 f_notes_margins  FUEL (-4 : Int32) (-1 : Int32) (0 : Int32) i_rowCount f_row
theorem hdsX9_farthestNight : yX9_farthestNight.cls ≠ "java/lang/invoke/MethodHandle" ∧ yX9_farthestNight.cls ≠ "java/lang/invoke/VarHandle" ∧ (parseMethodDescriptor yX9_farthestNight.desc).map (fun d => d.parameters.length) = some 1 := by decide +kernel
theorem hdvX9_farthestNight : yX9_farthestNight.cls = RX9 ∧ yX9_farthestNight.cls ≠ "java/lang/invoke/MethodHandle" ∧ yX9_farthestNight.cls ≠ "java/lang/invoke/VarHandle" ∧ (parseMethodDescriptor yX9_farthestNight.desc).map (fun d => d.parameters.length) = some 1 := by decide +kernel
abbrev rmX9_farthestNight : Room := { frames := 3, cells := 0, slots := 0, locals := 67 }
set_option maxHeartbeats 4000000 in
set_option maxRecDepth 100000 in
theorem qX9_farthestNight (l : Launch) (X : XT) (a_this : Nat) (a_notes : Nat) (a_row : Nat) (a_notes_margins : Nat) (a_ofOne : Nat) (a_ofOther : Nat) (a_notes_delays : Nat) (a_notes_odds : Nat)  (i_rowCount : Int32) (f_row : Nat → Int32) (f_notes_margins : Nat → Int32) (x0 : Int32) (o : Int32 × Int32 × (Nat → Int32)) (hf : mX9_farthestNight x0 i_rowCount f_row f_notes_margins = some o) :
    MI l yX9_farthestNight wsX9_farthestNight rmX9_farthestNight X [.ref a_this, .int x0] [(a_this, .inr (9, [.ref a_notes, .ref a_ofOne, .ref a_ofOther, .ref a_row, .int i_rowCount])), (a_notes, .inr (5, [.ref a_notes_delays, .ref a_notes_margins, .ref a_notes_odds])), (a_row, .inl (X.2.1 0, 6, .inl f_row)), (a_notes_margins, .inl (X.2.1 0, 144, .inl f_notes_margins))]  [(a_this, .inr (9, [.ref a_notes, .ref a_ofOne, .ref a_ofOther, .ref a_row, .int o.2.1])), (a_notes, .inr (5, [.ref a_notes_delays, .ref a_notes_margins, .ref a_notes_odds])), (a_row, .inl (X.2.1 0, 6, .inl o.2.2)), (a_notes_margins, .inl (X.2.1 0, 144, .inl f_notes_margins))] o.1 := by
  refine MI_ofH (cc := cX9_farthestNight) (maxL := 6) (rt := .int) (by decide) rfl (Nat.le_of_ble_eq_true rfl) ?_
  intro p e s m below meth c A Q H ls hx hb hml hts hown hA hD hG hP hS hl ret
  have hown : s.vm.findClass RX9 = some m.cls := hown
  have hD : aD A [a_this, a_notes, a_row, a_notes_margins] := hD
  have hl : lv_has ls 6 [(0, .ref a_this), (1, .int x0)] := hl
  have w1 := hts (Cond.fieldLink RX9 27 "ThreeCards$Told" "notes" "LThreeCards$Notes;") (List.mem_of_getElem? (i := 1) rfl)
  have w2 := hts (Cond.fieldLink RX9 23 "ThreeCards$Told" "rowCount" "I") (List.mem_of_getElem? (i := 2) rfl)
  have w3 := hts (Cond.fieldLink RX9 20 "ThreeCards$Told" "row" "[I") (List.mem_of_getElem? (i := 3) rfl)
  have w4 := hts (Cond.methodLink RX9 60 Lib.Math.abs.name) (List.mem_of_getElem? (i := 4) rfl)
  have w5 := hts (Cond.static Lib.Math.abs.name) (List.mem_of_getElem? (i := 5) rfl)
  have w6 := hts (Cond.initialized "java/lang/Math") (List.mem_of_getElem? (i := 6) rfl)
  have w7 := hts (Cond.code Lib.Math.abs.name Lib.Math.abs.code 1 (some .int)) (List.mem_of_getElem? (i := 7) rfl)
  have in9 : ∀ w ∈ u_ws RX9 TX9 5, w ∈ wsX9_farthestNight := by decide +kernel
  have hL8 : ∀ (n : Nat) (l2 : Int32) (l3 : Int32) (l4 : Int32) (i_rowCount : Int32) (f_row : Nat → Int32)  (H : Heap) (locs : List Loc) (ls : Array Slot), va_P X.1 vwCl [(a_this, .inr (9, [.ref a_notes, .ref a_ofOne, .ref a_ofOther, .ref a_row, .int i_rowCount])), (a_notes, .inr (5, [.ref a_notes_delays, .ref a_notes_margins, .ref a_notes_odds])), (a_row, .inl (X.2.1 0, 6, .inl f_row)), (a_notes_margins, .inl (X.2.1 0, 144, .inl f_notes_margins))] H → va_S A s.heap H locs → lv_has ls 6 [(0, .ref a_this), (1, .int x0), (2, .int l2), (3, .int l3), (4, .int l4)] → mX9_farthestNight_L8 x0 f_notes_margins  n l2 l3 l4 i_rowCount f_row = some o → W p l e rmX9_farthestNight s m ([.ref a_this, .int x0] : List Value).toArray below meth c H locs 0 0 Q (F0 m 8 ls []) := by
    intro n
    induction n with
    | zero => intro l2 l3 l4 i_rowCount f_row  H locs ls hP hS hl hf; exact xn hf
    | succ n ih =>
      intro l2 l3 l4 i_rowCount f_row  H locs ls hP hS hl hf
      have hf : mX9_farthestNight_B8 x0 f_notes_margins  (mX9_farthestNight_L8 x0 f_notes_margins  n) l2 l3 l4 i_rowCount f_row = some o := hf
      generalize mX9_farthestNight_L8 x0 f_notes_margins  n = k8 at ih hf
      unfold mX9_farthestNight_B8 at hf
      refine lv_iload hx hb dX9_farthestNight_8 (lv_at hl 4 rfl) ?_
      refine lv_bipush (v := (24 : Int32)) hx hb dX9_farthestNight_10 (by decide) ?_
      refine lv_icmp_ge (tgt := 90) hx hb dX9_farthestNight_12 (by decide) (fun c_1 => ?_) (fun c_1 => ?_)
      · have hf := xt hf c_1
        refine lv_iload_n hx hb dX9_farthestNight_90 rfl (lv_at hl 2 rfl) ?_
        obtain rfl := Option.some.inj hf
        exact ret H _ ls _ rfl hP hD hS dX9_farthestNight_91
      · have hf := xf hf c_1
        refine lv_aload_n hx hb dX9_farthestNight_15 rfl (lv_at hl 0 rfl) ?_
        refine lv_iload_n hx hb dX9_farthestNight_16 rfl (lv_at hl 1 rfl) ?_
        refine lv_iload hx hb dX9_farthestNight_17 (lv_at hl 4 rfl) ?_
        obtain ⟨o_2, ho_2, hf⟩ := ob_s hf
        refine xV_v (As := [.int x0, .int l4]) (b := a_this) (rest := []) (ws2 := fun _ => [(a_this, .inr (9, [.ref a_notes, .ref a_ofOne, .ref a_ofOther, .ref a_row, .int o_2.1])), (a_notes, .inr (5, [.ref a_notes_delays, .ref a_notes_margins, .ref a_notes_odds])), (a_row, .inl (X.2.1 0, 6, .inl o_2.2)), (a_notes_margins, .inl (X.2.1 0, 144, .inl f_notes_margins))]) hx hb hml hts hown hG hA hP hD rfl hS hl.1 (qX9_fillRow l X a_this a_notes a_row a_notes_margins a_ofOne a_ofOther a_notes_delays a_notes_odds i_rowCount f_row f_notes_margins x0 l4 o_2 ho_2) (cwV (y := yX9_fillRow) 2 hts gX9_farthestNight_X9_fillRow rfl rfl rfl hdvX9_fillRow ⟨Nat.le_of_ble_eq_true rfl, Nat.le_of_ble_eq_true rfl⟩) [0, 1, 2, 3] [] [0, 1, 2, 3] rfl rfl rfl rfl rfl rfl (fun _ => rfl) (ci := 9) rfl 0 rfl rfl rfl (Nat.le_of_ble_eq_true rfl) ⟨Nat.le_of_ble_eq_true rfl, Nat.le_of_ble_eq_true rfl⟩ dX9_farthestNight_19 (fun u_3 H locs hP _ hS => ?_)
        refine lv_aload_n hx hb dX9_farthestNight_22 rfl (lv_at hl 0 rfl) ?_
        refine va_get (D := X.1) (ci := 9) (v := .ref a_notes) (C := RX9) (T := TX9) (N := 5) hx hb hts in9 hown hG.1 hP 0 rfl rfl 0 (by decide) w1 (fun _ h9 => h9) rfl dX9_farthestNight_23 ?_
        refine lv_iload_n hx hb dX9_farthestNight_26 rfl (lv_at hl 1 rfl) ?_
        refine lv_iload hx hb dX9_farthestNight_27 (lv_at hl 4 rfl) ?_
        obtain ⟨o_4, ho_4, hf⟩ := ob_s hf
        refine xV_i (As := [.int x0, .int l4]) (b := a_notes) (rest := []) (ws2 := [(a_this, .inr (9, [.ref a_notes, .ref a_ofOne, .ref a_ofOther, .ref a_row, .int o_2.1])), (a_notes, .inr (5, [.ref a_notes_delays, .ref a_notes_margins, .ref a_notes_odds])), (a_row, .inl (X.2.1 0, 6, .inl o_2.2)), (a_notes_margins, .inl (X.2.1 0, 144, .inl f_notes_margins))]) hx hb hml hts hown hG hA hP hD rfl hS hl.1 (qX5_isTold l X a_notes a_notes_margins a_notes_delays a_notes_odds f_notes_margins x0 l4 o_4 ho_4) (cwV (y := yX5_isTold) 2 hts gX9_farthestNight_X5_isTold rfl rfl rfl hdvX5_isTold ⟨Nat.le_of_ble_eq_true rfl, Nat.le_of_ble_eq_true rfl⟩) [1, 3] [0, 2] [0, 2, 1, 3] rfl rfl rfl rfl rfl rfl rfl (ci := 5) rfl 1 rfl rfl rfl (Nat.le_of_ble_eq_true rfl) ⟨Nat.le_of_ble_eq_true rfl, Nat.le_of_ble_eq_true rfl⟩ dX9_farthestNight_29 (fun H locs hP _ hS => ?_)
        refine lv_if_eq (tgt := 84) hx hb dX9_farthestNight_32 (by decide) (fun c_6 => ?_) (fun c_6 => ?_)
        · have hf := xt hf c_6
          obtain ⟨v_7, ev_7, hf⟩ := lb_g hf
          refine lv_iinc (v := v_7) (lv' := [(4, .int v_7), (0, .ref a_this), (1, .int x0), (2, .int l2), (3, .int l3)]) hx hb dX9_farthestNight_84 hl (k := 4) rfl ev_7.symm (by decide) rfl (fun ls hl => ?_)
          refine lv_goto (tgt := 8) hx hb dX9_farthestNight_87 (by decide) ?_
          exact ih l2 l3 v_7 o_2.1 o_2.2  H _ ls hP  hS (lv_sub hl [1, 2, 3, 4, 0] rfl) hf
        · have hf := xf hf c_6
          refine lv_aload_n hx hb dX9_farthestNight_35 rfl (lv_at hl 0 rfl) ?_
          refine va_get (D := X.1) (ci := 9) (v := .int o_2.1) (C := RX9) (T := TX9) (N := 5) hx hb hts in9 hown hG.1 hP 0 rfl rfl 4 (by decide) w2 (fun _ h9 => h9) rfl dX9_farthestNight_36 ?_
          refine lv_iconst (v := (2 : Int32)) hx hb dX9_farthestNight_39 (by decide) ?_
          refine lv_icmp_lt (tgt := 84) hx hb dX9_farthestNight_40 (by decide) (fun c_8 => ?_) (fun c_8 => ?_)
          · have hf := xt hf c_8
            obtain ⟨v_9, ev_9, hf⟩ := lb_g hf
            refine lv_iinc (v := v_9) (lv' := [(4, .int v_9), (0, .ref a_this), (1, .int x0), (2, .int l2), (3, .int l3)]) hx hb dX9_farthestNight_84 hl (k := 4) rfl ev_9.symm (by decide) rfl (fun ls hl => ?_)
            refine lv_goto (tgt := 8) hx hb dX9_farthestNight_87 (by decide) ?_
            exact ih l2 l3 v_9 o_2.1 o_2.2  H _ ls hP  hS (lv_sub hl [1, 2, 3, 4, 0] rfl) hf
          · have hf := xf hf c_8
            refine lv_aload_n hx hb dX9_farthestNight_43 rfl (lv_at hl 0 rfl) ?_
            refine va_get (D := X.1) (ci := 9) (v := .ref a_notes) (C := RX9) (T := TX9) (N := 5) hx hb hts in9 hown hG.1 hP 0 rfl rfl 0 (by decide) w1 (fun _ h9 => h9) rfl dX9_farthestNight_44 ?_
            refine lv_iload_n hx hb dX9_farthestNight_47 rfl (lv_at hl 1 rfl) ?_
            refine lv_iload hx hb dX9_farthestNight_48 (lv_at hl 4 rfl) ?_
            obtain ⟨o_10, ho_10, hf⟩ := ob_s hf
            refine xV_i (As := [.int x0, .int l4]) (b := a_notes) (rest := []) (ws2 := [(a_this, .inr (9, [.ref a_notes, .ref a_ofOne, .ref a_ofOther, .ref a_row, .int o_2.1])), (a_notes, .inr (5, [.ref a_notes_delays, .ref a_notes_margins, .ref a_notes_odds])), (a_row, .inl (X.2.1 0, 6, .inl o_2.2)), (a_notes_margins, .inl (X.2.1 0, 144, .inl f_notes_margins))]) hx hb hml hts hown hG hA hP hD rfl hS hl.1 (qX5_toldOf l X a_notes a_notes_margins a_notes_delays a_notes_odds f_notes_margins x0 l4 o_10 ho_10) (cwV (y := yX5_toldOf) 2 hts gX9_farthestNight_X5_toldOf rfl rfl rfl hdvX5_toldOf ⟨Nat.le_of_ble_eq_true rfl, Nat.le_of_ble_eq_true rfl⟩) [1, 3] [0, 2] [0, 2, 1, 3] rfl rfl rfl rfl rfl rfl rfl (ci := 5) rfl 1 rfl rfl rfl (Nat.le_of_ble_eq_true rfl) ⟨Nat.le_of_ble_eq_true rfl, Nat.le_of_ble_eq_true rfl⟩ dX9_farthestNight_50 (fun H locs hP _ hS => ?_)
            refine lv_aload_n hx hb dX9_farthestNight_53 rfl (lv_at hl 0 rfl) ?_
            refine va_get (D := X.1) (ci := 9) (v := .ref a_row) (C := RX9) (T := TX9) (N := 5) hx hb hts in9 hown hG.1 hP 0 rfl rfl 3 (by decide) w3 (fun _ h9 => h9) rfl dX9_farthestNight_54 ?_
            refine lv_aload_n hx hb dX9_farthestNight_57 rfl (lv_at hl 0 rfl) ?_
            refine va_get (D := X.1) (ci := 9) (v := .int o_2.1) (C := RX9) (T := TX9) (N := 5) hx hb hts in9 hown hG.1 hP 0 rfl rfl 4 (by decide) w2 (fun _ h9 => h9) rfl dX9_farthestNight_58 ?_
            refine lv_iconst (v := (1 : Int32)) hx hb dX9_farthestNight_61 (by decide) ?_
            refine lv_isub hx hb dX9_farthestNight_62 ?_
            refine lv_iconst (v := (2 : Int32)) hx hb dX9_farthestNight_63 (by decide) ?_
            refine lv_idiv hx hb dX9_farthestNight_64 (by decide) ?_
            obtain ⟨h_12, hf⟩ := gi_s hf
            refine va_iald (D := X.1) hx hb hG.1 hP 2 0 rfl rfl h_12 dX9_farthestNight_65 ?_
            refine lv_isub hx hb dX9_farthestNight_66 ?_
            refine x_mabs hx hb hml hl.1 hown w4 w5 w6 w7 (Nat.le_of_ble_eq_true rfl) (Nat.le_of_ble_eq_true rfl) (Nat.le_of_ble_eq_true rfl) (Nat.le_of_ble_eq_true rfl) dX9_farthestNight_67 ?_
            refine lv_topi (fun v_13 ev_13 => ?_)
            have hf := lb_s hf ev_13
            refine lv_istore (lv' := [(5, .int v_13), (0, .ref a_this), (1, .int x0), (2, .int l2), (3, .int l3), (4, .int l4)]) hx hb dX9_farthestNight_70 hl (by decide) rfl (fun ls hl => ?_)
            refine lv_iload hx hb dX9_farthestNight_72 (lv_at hl 0 rfl) ?_
            refine lv_iload_n hx hb dX9_farthestNight_74 rfl (lv_at hl 4 rfl) ?_
            refine lv_icmp_le (tgt := 84) hx hb dX9_farthestNight_75 (by decide) (fun c_14 => ?_) (fun c_14 => ?_)
            · have hf := xt hf c_14
              obtain ⟨v_15, ev_15, hf⟩ := lb_g hf
              refine lv_iinc (v := v_15) (lv' := [(4, .int v_15), (5, .int v_13), (0, .ref a_this), (1, .int x0), (2, .int l2), (3, .int l3)]) hx hb dX9_farthestNight_84 hl (k := 5) rfl ev_15.symm (by decide) rfl (fun ls hl => ?_)
              refine lv_goto (tgt := 8) hx hb dX9_farthestNight_87 (by decide) ?_
              exact ih l2 l3 v_15 o_2.1 o_2.2  H _ ls hP  hS (lv_sub hl [2, 3, 4, 5, 0] rfl) hf
            · have hf := xf hf c_14
              refine lv_iload hx hb dX9_farthestNight_78 (lv_at hl 5 rfl) ?_
              refine lv_istore_n (lv' := [(2, .int l4), (5, .int v_13), (0, .ref a_this), (1, .int x0), (3, .int l3), (4, .int l4)]) hx hb dX9_farthestNight_80 rfl hl (by decide) rfl (fun ls hl => ?_)
              refine lv_iload hx hb dX9_farthestNight_81 (lv_at hl 1 rfl) ?_
              refine lv_istore_n (lv' := [(3, .int v_13), (2, .int l4), (5, .int v_13), (0, .ref a_this), (1, .int x0), (4, .int l4)]) hx hb dX9_farthestNight_83 rfl hl (by decide) rfl (fun ls hl => ?_)
              obtain ⟨v_16, ev_16, hf⟩ := lb_g hf
              refine lv_iinc (v := v_16) (lv' := [(4, .int v_16), (3, .int v_13), (2, .int l4), (5, .int v_13), (0, .ref a_this), (1, .int x0)]) hx hb dX9_farthestNight_84 hl (k := 5) rfl ev_16.symm (by decide) rfl (fun ls hl => ?_)
              refine lv_goto (tgt := 8) hx hb dX9_farthestNight_87 (by decide) ?_
              exact ih l4 v_13 v_16 o_2.1 o_2.2  H _ ls hP  hS (lv_sub hl [4, 5, 2, 1, 0] rfl) hf
  unfold mX9_farthestNight at hf
  refine lv_bipush (v := (-4 : Int32)) hx hb dX9_farthestNight_0 (by decide) ?_
  refine lv_istore_n (lv' := [(2, .int (-4 : Int32)), (0, .ref a_this), (1, .int x0)]) hx hb dX9_farthestNight_2 rfl hl (by decide) rfl (fun ls hl => ?_)
  refine lv_iconst (v := (-1 : Int32)) hx hb dX9_farthestNight_3 (by decide) ?_
  refine lv_istore_n (lv' := [(3, .int (-1 : Int32)), (2, .int (-4 : Int32)), (0, .ref a_this), (1, .int x0)]) hx hb dX9_farthestNight_4 rfl hl (by decide) rfl (fun ls hl => ?_)
  refine lv_iconst (v := (0 : Int32)) hx hb dX9_farthestNight_5 (by decide) ?_
  refine lv_istore (lv' := [(4, .int (0 : Int32)), (3, .int (-1 : Int32)), (2, .int (-4 : Int32)), (0, .ref a_this), (1, .int x0)]) hx hb dX9_farthestNight_6 hl (by decide) rfl (fun ls hl => ?_)
  exact hL8  FUEL (-4 : Int32) (-1 : Int32) (0 : Int32) i_rowCount f_row  H _ ls hP  hS (lv_sub hl [3, 4, 2, 1, 0] rfl) hf
def mX4_result (x0 : Int32) (i_value : Int32) (i_zeroPushes : Int32) (i_onePushes : Int32) :
  Option (Int32) :=
  if x0 = 0 then (some i_value) else (if x0 = (1 : Int32) then (some i_zeroPushes) else (some i_onePushes))
theorem hdsX4_result : yX4_result.cls ≠ "java/lang/invoke/MethodHandle" ∧ yX4_result.cls ≠ "java/lang/invoke/VarHandle" ∧ (parseMethodDescriptor yX4_result.desc).map (fun d => d.parameters.length) = some 1 := by decide +kernel
theorem hdvX4_result : yX4_result.cls = RX4 ∧ yX4_result.cls ≠ "java/lang/invoke/MethodHandle" ∧ yX4_result.cls ≠ "java/lang/invoke/VarHandle" ∧ (parseMethodDescriptor yX4_result.desc).map (fun d => d.parameters.length) = some 1 := by decide +kernel
abbrev rmX4_result : Room := { frames := 0, cells := 0, slots := 0, locals := 0 }
set_option maxHeartbeats 4000000 in
set_option maxRecDepth 100000 in
theorem qX4_result (l : Launch) (X : XT) (a_this : Nat) (a_notes : Nat) (a_values : Nat) (a_before : Nat)  (i_value : Int32) (i_zeroPushes : Int32) (i_onePushes : Int32) (x0 : Int32) (o : Int32) (hf : mX4_result x0 i_value i_zeroPushes i_onePushes = some o) :
    MI l yX4_result wsX4_result rmX4_result X [.ref a_this, .int x0] [(a_this, .inr (4, [.ref a_notes, .ref a_values, .ref a_before, .int i_value, .int i_zeroPushes, .int i_onePushes]))]  [(a_this, .inr (4, [.ref a_notes, .ref a_values, .ref a_before, .int i_value, .int i_zeroPushes, .int i_onePushes]))] o := by
  refine MI_ofH (cc := cX4_result) (maxL := 2) (rt := .int) (by decide) rfl (Nat.le_of_ble_eq_true rfl) ?_
  intro p e s m below meth c A Q H ls hx hb hml hts hown hA hD hG hP hS hl ret
  have hown : s.vm.findClass RX4 = some m.cls := hown
  have hD : aD A [a_this] := hD
  have hl : lv_has ls 2 [(0, .ref a_this), (1, .int x0)] := hl
  have w1 := hts (.fieldLink RX4 16 "ThreeCards$Game" "value" "I") (List.mem_of_getElem? (i := 1) rfl)
  have w2 := hts (.fieldLink RX4 20 "ThreeCards$Game" "zeroPushes" "I") (List.mem_of_getElem? (i := 2) rfl)
  have w3 := hts (.fieldLink RX4 23 "ThreeCards$Game" "onePushes" "I") (List.mem_of_getElem? (i := 3) rfl)
  have in4 : ∀ w ∈ u_ws RX4 TX4 6, w ∈ wsX4_result := by decide +kernel
  unfold mX4_result at hf
  refine lv_iload_n hx hb dX4_result_0 rfl (lv_at hl 1 rfl) ?_
  refine lv_if_ne (tgt := 9) hx hb dX4_result_1 (by decide) (fun c_1 => ?_) (fun c_1 => ?_)
  · have hf := xf hf c_1
    refine lv_iload_n hx hb dX4_result_9 rfl (lv_at hl 1 rfl) ?_
    refine lv_iconst (v := (1 : Int32)) hx hb dX4_result_10 (by decide) ?_
    refine lv_icmp_ne (tgt := 21) hx hb dX4_result_11 (by decide) (fun c_2 => ?_) (fun c_2 => ?_)
    · have hf := xf hf c_2
      refine lv_aload_n hx hb dX4_result_21 rfl (lv_at hl 0 rfl) ?_
      refine va_get (D := X.1) (ci := 4) (v := .int i_onePushes) (C := RX4) (T := TX4) (N := 6) hx hb hts in4 hown hG.1 hP 0 rfl rfl 5 (by decide) w3 (fun _ h9 => h9) rfl dX4_result_22 ?_
      obtain rfl := Option.some.inj hf
      exact ret H _ ls _ rfl hP hD hS dX4_result_25
    · have hf := xt hf c_2
      refine lv_aload_n hx hb dX4_result_14 rfl (lv_at hl 0 rfl) ?_
      refine va_get (D := X.1) (ci := 4) (v := .int i_zeroPushes) (C := RX4) (T := TX4) (N := 6) hx hb hts in4 hown hG.1 hP 0 rfl rfl 4 (by decide) w2 (fun _ h9 => h9) rfl dX4_result_15 ?_
      refine lv_goto (tgt := 25) hx hb dX4_result_18 (by decide) ?_
      obtain rfl := Option.some.inj hf
      exact ret H _ ls _ rfl hP hD hS dX4_result_25
  · have hf := xt hf c_1
    refine lv_aload_n hx hb dX4_result_4 rfl (lv_at hl 0 rfl) ?_
    refine va_get (D := X.1) (ci := 4) (v := .int i_value) (C := RX4) (T := TX4) (N := 6) hx hb hts in4 hown hG.1 hP 0 rfl rfl 3 (by decide) w1 (fun _ h9 => h9) rfl dX4_result_5 ?_
    obtain rfl := Option.some.inj hf
    exact ret H _ ls _ rfl hP hD hS dX4_result_8
def mX4_stepBack (f_before : Nat → Int32) (f_values : Nat → Int32) (a_values : Nat) (a_before : Nat) :
  Option (Nat × (Nat → Int32) × Nat × (Nat → Int32)) :=
  some (a_before, f_before, a_values, f_values)
theorem hdsX4_stepBack : yX4_stepBack.cls ≠ "java/lang/invoke/MethodHandle" ∧ yX4_stepBack.cls ≠ "java/lang/invoke/VarHandle" ∧ (parseMethodDescriptor yX4_stepBack.desc).map (fun d => d.parameters.length) = some 0 := by decide +kernel
theorem hdvX4_stepBack : yX4_stepBack.cls = RX4 ∧ yX4_stepBack.cls ≠ "java/lang/invoke/MethodHandle" ∧ yX4_stepBack.cls ≠ "java/lang/invoke/VarHandle" ∧ (parseMethodDescriptor yX4_stepBack.desc).map (fun d => d.parameters.length) = some 0 := by decide +kernel
abbrev rmX4_stepBack : Room := { frames := 0, cells := 0, slots := 0, locals := 0 }
set_option maxHeartbeats 4000000 in
set_option maxRecDepth 100000 in
theorem qX4_stepBack (l : Launch) (X : XT) (a_this : Nat) (a_before : Nat) (a_values : Nat) (a_notes : Nat)  (i_value : Int32) (i_zeroPushes : Int32) (i_onePushes : Int32) (f_before : Nat → Int32) (f_values : Nat → Int32)  (o : Nat × (Nat → Int32) × Nat × (Nat → Int32)) (hf : mX4_stepBack f_before f_values a_values a_before = some o) :
    MC l yX4_stepBack wsX4_stepBack rmX4_stepBack X [.ref a_this] [(a_this, .inr (4, [.ref a_notes, .ref a_values, .ref a_before, .int i_value, .int i_zeroPushes, .int i_onePushes])), (a_before, .inl (X.2.1 0, 49, .inl f_before)), (a_values, .inl (X.2.1 0, 49, .inl f_values))]  (fun _ => [(a_this, .inr (4, [.ref a_notes, .ref o.1, .ref o.2.2.1, .int i_value, .int i_zeroPushes, .int i_onePushes])), (o.2.2.1, .inl (X.2.1 0, 49, .inl o.2.2.2)), (o.1, .inl (X.2.1 0, 49, .inl o.2.1))]) 0 0 := by
  refine MC_ofH (cc := cX4_stepBack) (maxL := 2) (by decide) rfl (Nat.le_of_ble_eq_true rfl) ?_
  intro p e s m below meth c A Q H ls hx hb hml hts hown hin hA hD hG hP hS hl ret
  have hown : s.vm.findClass RX4 = some m.cls := hown
  have hD : aD A [a_this, a_before, a_values] := hD
  have hl : lv_has ls 2 [(0, .ref a_this)] := hl
  have w1 := hts (.fieldLink RX4 9 "ThreeCards$Game" "values" "[I") (List.mem_of_getElem? (i := 1) rfl)
  have w2 := hts (.fieldLink RX4 13 "ThreeCards$Game" "before" "[I") (List.mem_of_getElem? (i := 2) rfl)
  have in4 : ∀ w ∈ u_ws RX4 TX4 6, w ∈ wsX4_stepBack := by decide +kernel
  unfold mX4_stepBack at hf
  refine lv_aload_n hx hb dX4_stepBack_0 rfl (lv_at hl 0 rfl) ?_
  refine va_get (D := X.1) (ci := 4) (v := .ref a_values) (C := RX4) (T := TX4) (N := 6) hx hb hts in4 hown hG.1 hP 0 rfl rfl 1 (by decide) w1 (fun _ h9 => h9) rfl dX4_stepBack_1 ?_
  refine lv_astore_n (lv' := [(1, .ref a_values), (0, .ref a_this)]) hx hb dX4_stepBack_4 rfl hl (by decide) rfl (fun ls hl => ?_)
  refine lv_aload_n hx hb dX4_stepBack_5 rfl (lv_at hl 1 rfl) ?_
  refine lv_aload_n hx hb dX4_stepBack_6 rfl (lv_at hl 1 rfl) ?_
  refine va_get (D := X.1) (ci := 4) (v := .ref a_before) (C := RX4) (T := TX4) (N := 6) hx hb hts in4 hown hG.1 hP 0 rfl rfl 2 (by decide) w2 (fun _ h9 => h9) rfl dX4_stepBack_7 ?_
  refine x_put (ws' := [(a_this, .inr (4, [.ref a_notes, .ref a_before, .ref a_before, .int i_value, .int i_zeroPushes, .int i_onePushes])), (a_before, .inl (X.2.1 0, 49, .inl f_before)), (a_values, .inl (X.2.1 0, 49, .inl f_values))]) (ty := (tyX4 1)) (C := RX4) (T := TX4) (N := 6) hx hb hts in4 tyX4 tyX4_ok nmX4 hown hG hP hD rfl hS 0 rfl rfl 1 (by decide) w1 rfl (tyX4_ok 1 (by decide)) rfl rfl (Nat.le_of_ble_eq_true rfl) dX4_stepBack_10 rfl (fun H locs hP hS => ?_)
  refine lv_aload_n hx hb dX4_stepBack_13 rfl (lv_at hl 1 rfl) ?_
  refine lv_aload_n hx hb dX4_stepBack_14 rfl (lv_at hl 0 rfl) ?_
  refine x_put (ws' := [(a_this, .inr (4, [.ref a_notes, .ref a_before, .ref a_values, .int i_value, .int i_zeroPushes, .int i_onePushes])), (a_before, .inl (X.2.1 0, 49, .inl f_before)), (a_values, .inl (X.2.1 0, 49, .inl f_values))]) (ty := (tyX4 2)) (C := RX4) (T := TX4) (N := 6) hx hb hts in4 tyX4 tyX4_ok nmX4 hown hG hP hD rfl hS 0 rfl rfl 2 (by decide) w2 rfl (tyX4_ok 2 (by decide)) rfl rfl (Nat.le_of_ble_eq_true rfl) dX4_stepBack_15 rfl (fun H locs hP hS => ?_)
  obtain rfl := Option.some.inj hf
  exact ret (fun _ => 0) H _ ls _ (hP.sub [0, 2, 1] rfl) (hD.sub [0, 2, 1] rfl rfl) hS dX4_stepBack_18
def mX4_setEnds_B38 (x0 : Int32) (x1 : Int32) (k4 : Int32 → (Nat → Int32) → Option ((Nat → Int32))) (l3 : Int32) (s1 : Int32) (s2 : Int32) (f_values : Nat → Int32) :
  Option ((Nat → Int32)) :=
  gi s1 49 <|
  lb (upd f_values s1.toNatClampNeg s2) fun g_6 =>
  lb (l3 + (1 : Int32)) fun v_7 =>
  k4 v_7 g_6
def mX4_setEnds_B4 (x0 : Int32) (x1 : Int32) (k4 : Int32 → (Nat → Int32) → Option ((Nat → Int32))) (l3 : Int32) (f_values : Nat → Int32) :
  Option ((Nat → Int32)) :=
  if (x1 + x0) < l3 then (some f_values) else (if l3 = 0 then (mX4_setEnds_B38 x0 x1 k4 l3 ((24 : Int32) + l3) (500000 : Int32) f_values) else (if l3 ≤ 0 then (mX4_setEnds_B38 x0 x1 k4 l3 ((24 : Int32) + l3) (0 : Int32) f_values) else (mX4_setEnds_B38 x0 x1 k4 l3 ((24 : Int32) + l3) (1000000 : Int32) f_values)))
def mX4_setEnds_L4 (x0 : Int32) (x1 : Int32) (n : Nat) (l3 : Int32) (f_values : Nat → Int32) :
  Option ((Nat → Int32)) :=
  loopN (fun k (s : Int32 × (Nat → Int32)) => mX4_setEnds_B4 x0 x1  (fun l3 f_values => k (l3, f_values)) s.1 s.2) n (l3, f_values)
def mX4_setEnds (x0 : Int32) (x1 : Int32) (f_values : Nat → Int32) :
  Option ((Nat → Int32)) :=
  lb (x1 - x0) fun v_1 =>
  mX4_setEnds_L4 x0 x1  FUEL v_1 f_values
theorem hdsX4_setEnds : yX4_setEnds.cls ≠ "java/lang/invoke/MethodHandle" ∧ yX4_setEnds.cls ≠ "java/lang/invoke/VarHandle" ∧ (parseMethodDescriptor yX4_setEnds.desc).map (fun d => d.parameters.length) = some 2 := by decide +kernel
theorem hdvX4_setEnds : yX4_setEnds.cls = RX4 ∧ yX4_setEnds.cls ≠ "java/lang/invoke/MethodHandle" ∧ yX4_setEnds.cls ≠ "java/lang/invoke/VarHandle" ∧ (parseMethodDescriptor yX4_setEnds.desc).map (fun d => d.parameters.length) = some 2 := by decide +kernel
abbrev rmX4_setEnds : Room := { frames := 0, cells := 0, slots := 0, locals := 0 }
set_option maxHeartbeats 4000000 in
set_option maxRecDepth 100000 in
theorem qX4_setEnds (l : Launch) (X : XT) (a_this : Nat) (a_values : Nat) (a_notes : Nat) (a_before : Nat)  (i_value : Int32) (i_zeroPushes : Int32) (i_onePushes : Int32) (f_values : Nat → Int32) (x0 : Int32) (x1 : Int32) (o : (Nat → Int32)) (hf : mX4_setEnds x0 x1 f_values = some o) :
    MC l yX4_setEnds wsX4_setEnds rmX4_setEnds X [.ref a_this, .int x0, .int x1] [(a_this, .inr (4, [.ref a_notes, .ref a_values, .ref a_before, .int i_value, .int i_zeroPushes, .int i_onePushes])), (a_values, .inl (X.2.1 0, 49, .inl f_values))]  (fun _ => [(a_this, .inr (4, [.ref a_notes, .ref a_values, .ref a_before, .int i_value, .int i_zeroPushes, .int i_onePushes])), (a_values, .inl (X.2.1 0, 49, .inl o))]) 0 0 := by
  refine MC_ofH (cc := cX4_setEnds) (maxL := 4) (by decide) rfl (Nat.le_of_ble_eq_true rfl) ?_
  intro p e s m below meth c A Q H ls hx hb hml hts hown hin hA hD hG hP hS hl ret
  have hown : s.vm.findClass RX4 = some m.cls := hown
  have hD : aD A [a_this, a_values] := hD
  have hl : lv_has ls 4 [(0, .ref a_this), (1, .int x0), (2, .int x1)] := hl
  have w1 := hts (.fieldLink RX4 9 "ThreeCards$Game" "values" "[I") (List.mem_of_getElem? (i := 1) rfl)
  have w2 := hts (.constant RX4 40 (500000)) (List.mem_of_getElem? (i := 2) rfl)
  have w3 := hts (.constant RX4 41 (1000000)) (List.mem_of_getElem? (i := 3) rfl)
  have in4 : ∀ w ∈ u_ws RX4 TX4 6, w ∈ wsX4_setEnds := by decide +kernel
  have hB38 : ∀ (k4 : Int32 → (Nat → Int32) → Option ((Nat → Int32))) (hk4 : ∀ (l3 : Int32) (f_values : Nat → Int32)  (H : Heap) (locs : List Loc) (ls : Array Slot), va_P X.1 vwCl [(a_this, .inr (4, [.ref a_notes, .ref a_values, .ref a_before, .int i_value, .int i_zeroPushes, .int i_onePushes])), (a_values, .inl (X.2.1 0, 49, .inl f_values))] H → va_S A s.heap H locs → lv_has ls 4 [(0, .ref a_this), (1, .int x0), (2, .int x1), (3, .int l3)] → k4 l3 f_values = some o → W p l e rmX4_setEnds s m ([.ref a_this, .int x0, .int x1] : List Value).toArray below meth c H locs 0 0 Q (F0 m 4 ls [])) (l3 : Int32) (s1 : Int32) (s2 : Int32) (f_values : Nat → Int32)  (H : Heap) (locs : List Loc) (ls : Array Slot), va_P X.1 vwCl [(a_this, .inr (4, [.ref a_notes, .ref a_values, .ref a_before, .int i_value, .int i_zeroPushes, .int i_onePushes])), (a_values, .inl (X.2.1 0, 49, .inl f_values))] H → va_S A s.heap H locs → lv_has ls 4 [(0, .ref a_this), (1, .int x0), (2, .int x1), (3, .int l3)] → mX4_setEnds_B38 x0 x1 k4 l3 s1 s2 f_values = some o → W p l e rmX4_setEnds s m ([.ref a_this, .int x0, .int x1] : List Value).toArray below meth c H locs 0 0 Q (F0 m 38 ls [.int s2, .int s1, .ref a_values]) := by
    intro k4 hk4 l3 s1 s2 f_values  H locs ls hP hS hl hf
    unfold mX4_setEnds_B38 at hf
    obtain ⟨h_5, hf⟩ := gi_s hf
    obtain ⟨g_6, eg_6, hf⟩ := lb_g hf
    refine x_iast (ws' := [(a_this, .inr (4, [.ref a_notes, .ref a_values, .ref a_before, .int i_value, .int i_zeroPushes, .int i_onePushes])), (a_values, .inl (X.2.1 0, 49, .inl g_6))]) hx hb hG hP hD rfl hS 1 rfl h_5 dX4_setEnds_38 eg_6 rfl (fun H locs hP hS => ?_)
    obtain ⟨v_7, ev_7, hf⟩ := lb_g hf
    refine lv_iinc (v := v_7) (lv' := [(3, .int v_7), (0, .ref a_this), (1, .int x0), (2, .int x1)]) hx hb dX4_setEnds_39 hl (k := 3) rfl ev_7.symm (by decide) rfl (fun ls hl => ?_)
    refine lv_goto (tgt := 4) hx hb dX4_setEnds_42 (by decide) ?_
    exact hk4 v_7 g_6  H _ ls hP  hS (lv_sub hl [1, 2, 3, 0] rfl) hf
  have hL4 : ∀ (n : Nat) (l3 : Int32) (f_values : Nat → Int32)  (H : Heap) (locs : List Loc) (ls : Array Slot), va_P X.1 vwCl [(a_this, .inr (4, [.ref a_notes, .ref a_values, .ref a_before, .int i_value, .int i_zeroPushes, .int i_onePushes])), (a_values, .inl (X.2.1 0, 49, .inl f_values))] H → va_S A s.heap H locs → lv_has ls 4 [(0, .ref a_this), (1, .int x0), (2, .int x1), (3, .int l3)] → mX4_setEnds_L4 x0 x1  n l3 f_values = some o → W p l e rmX4_setEnds s m ([.ref a_this, .int x0, .int x1] : List Value).toArray below meth c H locs 0 0 Q (F0 m 4 ls []) := by
    intro n
    induction n with
    | zero => intro l3 f_values  H locs ls hP hS hl hf; exact xn hf
    | succ n ih =>
      intro l3 f_values  H locs ls hP hS hl hf
      have hf : mX4_setEnds_B4 x0 x1  (mX4_setEnds_L4 x0 x1  n) l3 f_values = some o := hf
      generalize mX4_setEnds_L4 x0 x1  n = k4 at ih hf
      unfold mX4_setEnds_B4 at hf
      refine lv_iload_n hx hb dX4_setEnds_4 rfl (lv_at hl 3 rfl) ?_
      refine lv_iload_n hx hb dX4_setEnds_5 rfl (lv_at hl 2 rfl) ?_
      refine lv_iload_n hx hb dX4_setEnds_6 rfl (lv_at hl 1 rfl) ?_
      refine lv_iadd hx hb dX4_setEnds_7 ?_
      refine lv_icmp_gt (tgt := 45) hx hb dX4_setEnds_8 (by decide) (fun c_2 => ?_) (fun c_2 => ?_)
      · have hf := xt hf c_2
        obtain rfl := Option.some.inj hf
        exact ret (fun _ => 0) H _ ls _ hP hD hS dX4_setEnds_45
      · have hf := xf hf c_2
        refine lv_aload_n hx hb dX4_setEnds_11 rfl (lv_at hl 0 rfl) ?_
        refine va_get (D := X.1) (ci := 4) (v := .ref a_values) (C := RX4) (T := TX4) (N := 6) hx hb hts in4 hown hG.1 hP 0 rfl rfl 1 (by decide) w1 (fun _ h9 => h9) rfl dX4_setEnds_12 ?_
        refine lv_bipush (v := (24 : Int32)) hx hb dX4_setEnds_15 (by decide) ?_
        refine lv_iload_n hx hb dX4_setEnds_17 rfl (lv_at hl 3 rfl) ?_
        refine lv_iadd hx hb dX4_setEnds_18 ?_
        refine lv_iload_n hx hb dX4_setEnds_19 rfl (lv_at hl 3 rfl) ?_
        refine lv_if_ne (tgt := 28) hx hb dX4_setEnds_20 (by decide) (fun c_3 => ?_) (fun c_3 => ?_)
        · have hf := xf hf c_3
          refine lv_iload_n hx hb dX4_setEnds_28 rfl (lv_at hl 3 rfl) ?_
          refine lv_if_le (tgt := 37) hx hb dX4_setEnds_29 (by decide) (fun c_4 => ?_) (fun c_4 => ?_)
          · have hf := xt hf c_4
            refine lv_iconst (v := (0 : Int32)) hx hb dX4_setEnds_37 (by decide) ?_
            exact hB38 k4 ih l3 ((24 : Int32) + l3) (0 : Int32) f_values  H _ ls hP  hS (lv_sub hl [0, 1, 2, 3] rfl) hf
          · have hf := xf hf c_4
            refine lv_ldc (v := (1000000 : Int32)) hx hb hown w3 dX4_setEnds_32 ?_
            refine lv_goto (tgt := 38) hx hb dX4_setEnds_34 (by decide) ?_
            exact hB38 k4 ih l3 ((24 : Int32) + l3) (1000000 : Int32) f_values  H _ ls hP  hS (lv_sub hl [0, 1, 2, 3] rfl) hf
        · have hf := xt hf c_3
          refine lv_ldc (v := (500000 : Int32)) hx hb hown w2 dX4_setEnds_23 ?_
          refine lv_goto (tgt := 38) hx hb dX4_setEnds_25 (by decide) ?_
          exact hB38 k4 ih l3 ((24 : Int32) + l3) (500000 : Int32) f_values  H _ ls hP  hS (lv_sub hl [0, 1, 2, 3] rfl) hf
  unfold mX4_setEnds at hf
  refine lv_iload_n hx hb dX4_setEnds_0 rfl (lv_at hl 2 rfl) ?_
  refine lv_iload_n hx hb dX4_setEnds_1 rfl (lv_at hl 1 rfl) ?_
  refine lv_isub hx hb dX4_setEnds_2 ?_
  refine lv_topi (fun v_1 ev_1 => ?_)
  have hf := lb_s hf ev_1
  refine lv_istore_n (lv' := [(3, .int v_1), (0, .ref a_this), (1, .int x0), (2, .int x1)]) hx hb dX4_setEnds_3 rfl hl (by decide) rfl (fun ls hl => ?_)
  exact hL4  FUEL v_1 f_values  H _ ls hP  hS (lv_sub hl [1, 2, 3, 0] rfl) hf
def mX4_answer_B11 (x0 : Int32) (x1 : Int32) (s1 : Int32) (i_onePushes : Int32) (i_value : Int32) :
  Option (Int32 × Int32) :=
  lb (imin x0 x1) fun v_2 =>
  some (s1, v_2)
def mX4_answer (x0 : Int32) (x1 : Int32) (i_value : Int32) (i_onePushes : Int32) :
  Option (Int32 × Int32) :=
  if x0 ≤ x1 then (mX4_answer_B11 x0 x1  (0 : Int32) i_onePushes i_value) else (mX4_answer_B11 x0 x1  (1 : Int32) i_onePushes i_value)
theorem hdsX4_answer : yX4_answer.cls ≠ "java/lang/invoke/MethodHandle" ∧ yX4_answer.cls ≠ "java/lang/invoke/VarHandle" ∧ (parseMethodDescriptor yX4_answer.desc).map (fun d => d.parameters.length) = some 2 := by decide +kernel
theorem hdvX4_answer : yX4_answer.cls = RX4 ∧ yX4_answer.cls ≠ "java/lang/invoke/MethodHandle" ∧ yX4_answer.cls ≠ "java/lang/invoke/VarHandle" ∧ (parseMethodDescriptor yX4_answer.desc).map (fun d => d.parameters.length) = some 2 := by decide +kernel
abbrev rmX4_answer : Room := { frames := 1, cells := 0, slots := 0, locals := 21 }
set_option maxHeartbeats 4000000 in
set_option maxRecDepth 100000 in
theorem qX4_answer (l : Launch) (X : XT) (a_this : Nat) (a_notes : Nat) (a_values : Nat) (a_before : Nat)  (i_value : Int32) (i_zeroPushes : Int32) (i_onePushes : Int32) (x0 : Int32) (x1 : Int32) (o : Int32 × Int32) (hf : mX4_answer x0 x1 i_value i_onePushes = some o) :
    MC l yX4_answer wsX4_answer rmX4_answer X [.ref a_this, .int x0, .int x1] [(a_this, .inr (4, [.ref a_notes, .ref a_values, .ref a_before, .int i_value, .int i_zeroPushes, .int i_onePushes]))]  (fun _ => [(a_this, .inr (4, [.ref a_notes, .ref a_values, .ref a_before, .int o.2, .int i_zeroPushes, .int o.1]))]) 0 0 := by
  refine MC_ofH (cc := cX4_answer) (maxL := 3) (by decide) rfl (Nat.le_of_ble_eq_true rfl) ?_
  intro p e s m below meth c A Q H ls hx hb hml hts hown hin hA hD hG hP hS hl ret
  have hown : s.vm.findClass RX4 = some m.cls := hown
  have hD : aD A [a_this] := hD
  have hl : lv_has ls 3 [(0, .ref a_this), (1, .int x0), (2, .int x1)] := hl
  have w1 := hts (.fieldLink RX4 23 "ThreeCards$Game" "onePushes" "I") (List.mem_of_getElem? (i := 1) rfl)
  have w2 := hts (.methodLink RX4 58 Lib.Math.min.name) (List.mem_of_getElem? (i := 2) rfl)
  have w3 := hts (.static Lib.Math.min.name) (List.mem_of_getElem? (i := 3) rfl)
  have w4 := hts (.initialized "java/lang/Math") (List.mem_of_getElem? (i := 4) rfl)
  have w5 := hts (.code Lib.Math.min.name Lib.Math.min.code 2 (some .int)) (List.mem_of_getElem? (i := 5) rfl)
  have w6 := hts (.fieldLink RX4 16 "ThreeCards$Game" "value" "I") (List.mem_of_getElem? (i := 6) rfl)
  have in4 : ∀ w ∈ u_ws RX4 TX4 6, w ∈ wsX4_answer := by decide +kernel
  have hB11 : ∀ (s1 : Int32) (i_onePushes : Int32) (i_value : Int32)  (H : Heap) (locs : List Loc) (ls : Array Slot), va_P X.1 vwCl [(a_this, .inr (4, [.ref a_notes, .ref a_values, .ref a_before, .int i_value, .int i_zeroPushes, .int i_onePushes]))] H → va_S A s.heap H locs → lv_has ls 3 [(0, .ref a_this), (1, .int x0), (2, .int x1)] → mX4_answer_B11 x0 x1  s1 i_onePushes i_value = some o → W p l e rmX4_answer s m ([.ref a_this, .int x0, .int x1] : List Value).toArray below meth c H locs 0 0 Q (F0 m 11 ls [.int s1, .ref a_this]) := by
    intro s1 i_onePushes i_value  H locs ls hP hS hl hf
    unfold mX4_answer_B11 at hf
    refine x_put (ws' := [(a_this, .inr (4, [.ref a_notes, .ref a_values, .ref a_before, .int i_value, .int i_zeroPushes, .int s1]))]) (ty := .int) (C := RX4) (T := TX4) (N := 6) hx hb hts in4 tyX4 tyX4_ok nmX4 hown hG hP hD rfl hS 0 rfl rfl 5 (by decide) w1 rfl (tyX4_ok 5 (by decide)) rfl rfl (Nat.le_of_ble_eq_true rfl) dX4_answer_11 rfl (fun H locs hP hS => ?_)
    refine lv_aload_n hx hb dX4_answer_14 rfl (lv_at hl 0 rfl) ?_
    refine lv_iload_n hx hb dX4_answer_15 rfl (lv_at hl 1 rfl) ?_
    refine lv_iload_n hx hb dX4_answer_16 rfl (lv_at hl 2 rfl) ?_
    refine x_mmin hx hb hml hl.1 hown w2 w3 w4 w5 (Nat.le_of_ble_eq_true rfl) (Nat.le_of_ble_eq_true rfl) (Nat.le_of_ble_eq_true rfl) (Nat.le_of_ble_eq_true rfl) dX4_answer_17 ?_
    refine lv_topi (fun v_2 ev_2 => ?_)
    have hf := lb_s hf ev_2
    refine x_put (ws' := [(a_this, .inr (4, [.ref a_notes, .ref a_values, .ref a_before, .int v_2, .int i_zeroPushes, .int s1]))]) (ty := .int) (C := RX4) (T := TX4) (N := 6) hx hb hts in4 tyX4 tyX4_ok nmX4 hown hG hP hD rfl hS 0 rfl rfl 3 (by decide) w6 rfl (tyX4_ok 3 (by decide)) rfl rfl (Nat.le_of_ble_eq_true rfl) dX4_answer_20 rfl (fun H locs hP hS => ?_)
    obtain rfl := Option.some.inj hf
    exact ret (fun _ => 0) H _ ls _ hP hD hS dX4_answer_23
  unfold mX4_answer at hf
  refine lv_aload_n hx hb dX4_answer_0 rfl (lv_at hl 0 rfl) ?_
  refine lv_iload_n hx hb dX4_answer_1 rfl (lv_at hl 2 rfl) ?_
  refine lv_iload_n hx hb dX4_answer_2 rfl (lv_at hl 1 rfl) ?_
  refine lv_icmp_ge (tgt := 10) hx hb dX4_answer_3 (by decide) (fun c_1 => ?_) (fun c_1 => ?_)
  · have hf := xt hf c_1
    refine lv_iconst (v := (0 : Int32)) hx hb dX4_answer_10 (by decide) ?_
    exact hB11  (0 : Int32) i_onePushes i_value  H _ ls hP  hS (lv_sub hl [0, 1, 2] rfl) hf
  · have hf := xf hf c_1
    refine lv_iconst (v := (1 : Int32)) hx hb dX4_answer_6 (by decide) ?_
    refine lv_goto (tgt := 11) hx hb dX4_answer_7 (by decide) ?_
    exact hB11  (1 : Int32) i_onePushes i_value  H _ ls hP  hS (lv_sub hl [0, 1, 2] rfl) hf
def mX4_preferHeld (x0 : Int32) (x1 : Int32) (i_value : Int32) (i_zeroPushes : Int32) (i_onePushes : Int32) :
  Option (Int32 × Int32 × Int32) :=
  if i_value ≤ x0 then (some ((0 : Int32), x1, x0)) else (some ((1 : Int32), i_onePushes, i_value))
theorem hdsX4_preferHeld : yX4_preferHeld.cls ≠ "java/lang/invoke/MethodHandle" ∧ yX4_preferHeld.cls ≠ "java/lang/invoke/VarHandle" ∧ (parseMethodDescriptor yX4_preferHeld.desc).map (fun d => d.parameters.length) = some 2 := by decide +kernel
theorem hdvX4_preferHeld : yX4_preferHeld.cls = RX4 ∧ yX4_preferHeld.cls ≠ "java/lang/invoke/MethodHandle" ∧ yX4_preferHeld.cls ≠ "java/lang/invoke/VarHandle" ∧ (parseMethodDescriptor yX4_preferHeld.desc).map (fun d => d.parameters.length) = some 2 := by decide +kernel
abbrev rmX4_preferHeld : Room := { frames := 0, cells := 0, slots := 0, locals := 0 }
set_option maxHeartbeats 4000000 in
set_option maxRecDepth 100000 in
theorem qX4_preferHeld (l : Launch) (X : XT) (a_this : Nat) (a_notes : Nat) (a_values : Nat) (a_before : Nat)  (i_value : Int32) (i_zeroPushes : Int32) (i_onePushes : Int32) (x0 : Int32) (x1 : Int32) (o : Int32 × Int32 × Int32) (hf : mX4_preferHeld x0 x1 i_value i_zeroPushes i_onePushes = some o) :
    MC l yX4_preferHeld wsX4_preferHeld rmX4_preferHeld X [.ref a_this, .int x0, .int x1] [(a_this, .inr (4, [.ref a_notes, .ref a_values, .ref a_before, .int i_value, .int i_zeroPushes, .int i_onePushes]))]  (fun _ => [(a_this, .inr (4, [.ref a_notes, .ref a_values, .ref a_before, .int o.2.2, .int o.1, .int o.2.1]))]) 0 0 := by
  refine MC_ofH (cc := cX4_preferHeld) (maxL := 3) (by decide) rfl (Nat.le_of_ble_eq_true rfl) ?_
  intro p e s m below meth c A Q H ls hx hb hml hts hown hin hA hD hG hP hS hl ret
  have hown : s.vm.findClass RX4 = some m.cls := hown
  have hD : aD A [a_this] := hD
  have hl : lv_has ls 3 [(0, .ref a_this), (1, .int x0), (2, .int x1)] := hl
  have w1 := hts (.fieldLink RX4 16 "ThreeCards$Game" "value" "I") (List.mem_of_getElem? (i := 1) rfl)
  have w2 := hts (.fieldLink RX4 20 "ThreeCards$Game" "zeroPushes" "I") (List.mem_of_getElem? (i := 2) rfl)
  have w3 := hts (.fieldLink RX4 23 "ThreeCards$Game" "onePushes" "I") (List.mem_of_getElem? (i := 3) rfl)
  have in4 : ∀ w ∈ u_ws RX4 TX4 6, w ∈ wsX4_preferHeld := by decide +kernel
  unfold mX4_preferHeld at hf
  refine lv_aload_n hx hb dX4_preferHeld_0 rfl (lv_at hl 0 rfl) ?_
  refine va_get (D := X.1) (ci := 4) (v := .int i_value) (C := RX4) (T := TX4) (N := 6) hx hb hts in4 hown hG.1 hP 0 rfl rfl 3 (by decide) w1 (fun _ h9 => h9) rfl dX4_preferHeld_1 ?_
  refine lv_iload_n hx hb dX4_preferHeld_4 rfl (lv_at hl 1 rfl) ?_
  refine lv_icmp_le (tgt := 16) hx hb dX4_preferHeld_5 (by decide) (fun c_1 => ?_) (fun c_1 => ?_)
  · have hf := xt hf c_1
    refine lv_aload_n hx hb dX4_preferHeld_16 rfl (lv_at hl 0 rfl) ?_
    refine lv_iconst (v := (0 : Int32)) hx hb dX4_preferHeld_17 (by decide) ?_
    refine x_put (ws' := [(a_this, .inr (4, [.ref a_notes, .ref a_values, .ref a_before, .int i_value, .int (0 : Int32), .int i_onePushes]))]) (ty := .int) (C := RX4) (T := TX4) (N := 6) hx hb hts in4 tyX4 tyX4_ok nmX4 hown hG hP hD rfl hS 0 rfl rfl 4 (by decide) w2 rfl (tyX4_ok 4 (by decide)) rfl rfl (Nat.le_of_ble_eq_true rfl) dX4_preferHeld_18 rfl (fun H locs hP hS => ?_)
    refine lv_aload_n hx hb dX4_preferHeld_21 rfl (lv_at hl 0 rfl) ?_
    refine lv_iload_n hx hb dX4_preferHeld_22 rfl (lv_at hl 2 rfl) ?_
    refine x_put (ws' := [(a_this, .inr (4, [.ref a_notes, .ref a_values, .ref a_before, .int i_value, .int (0 : Int32), .int x1]))]) (ty := .int) (C := RX4) (T := TX4) (N := 6) hx hb hts in4 tyX4 tyX4_ok nmX4 hown hG hP hD rfl hS 0 rfl rfl 5 (by decide) w3 rfl (tyX4_ok 5 (by decide)) rfl rfl (Nat.le_of_ble_eq_true rfl) dX4_preferHeld_23 rfl (fun H locs hP hS => ?_)
    refine lv_aload_n hx hb dX4_preferHeld_26 rfl (lv_at hl 0 rfl) ?_
    refine lv_iload_n hx hb dX4_preferHeld_27 rfl (lv_at hl 1 rfl) ?_
    refine x_put (ws' := [(a_this, .inr (4, [.ref a_notes, .ref a_values, .ref a_before, .int x0, .int (0 : Int32), .int x1]))]) (ty := .int) (C := RX4) (T := TX4) (N := 6) hx hb hts in4 tyX4 tyX4_ok nmX4 hown hG hP hD rfl hS 0 rfl rfl 3 (by decide) w1 rfl (tyX4_ok 3 (by decide)) rfl rfl (Nat.le_of_ble_eq_true rfl) dX4_preferHeld_28 rfl (fun H locs hP hS => ?_)
    obtain rfl := Option.some.inj hf
    exact ret (fun _ => 0) H _ ls _ hP hD hS dX4_preferHeld_31
  · have hf := xf hf c_1
    refine lv_aload_n hx hb dX4_preferHeld_8 rfl (lv_at hl 0 rfl) ?_
    refine lv_iconst (v := (1 : Int32)) hx hb dX4_preferHeld_9 (by decide) ?_
    refine x_put (ws' := [(a_this, .inr (4, [.ref a_notes, .ref a_values, .ref a_before, .int i_value, .int (1 : Int32), .int i_onePushes]))]) (ty := .int) (C := RX4) (T := TX4) (N := 6) hx hb hts in4 tyX4 tyX4_ok nmX4 hown hG hP hD rfl hS 0 rfl rfl 4 (by decide) w2 rfl (tyX4_ok 4 (by decide)) rfl rfl (Nat.le_of_ble_eq_true rfl) dX4_preferHeld_10 rfl (fun H locs hP hS => ?_)
    refine lv_goto (tgt := 31) hx hb dX4_preferHeld_13 (by decide) ?_
    obtain rfl := Option.some.inj hf
    exact ret (fun _ => 0) H _ ls _ hP hD hS dX4_preferHeld_31
def mX4_roundValue (x0 : Int32) (x1 : Int32) (x2 : Int32) :
  Option (Int32) :=
  lb (((x0 * x1) + (((10 : Int32) - x0) * x2)) / (10 : Int32)) fun v_1 =>
  some v_1
theorem hdsX4_roundValue : yX4_roundValue.cls ≠ "java/lang/invoke/MethodHandle" ∧ yX4_roundValue.cls ≠ "java/lang/invoke/VarHandle" ∧ (parseMethodDescriptor yX4_roundValue.desc).map (fun d => d.parameters.length) = some 3 := by decide +kernel
abbrev rmX4_roundValue : Room := { frames := 0, cells := 0, slots := 0, locals := 0 }
set_option maxHeartbeats 4000000 in
set_option maxRecDepth 100000 in
theorem qX4_roundValue (l : Launch) (X : XT)    (x0 : Int32) (x1 : Int32) (x2 : Int32) (o : Int32) (hf : mX4_roundValue x0 x1 x2 = some o) :
    MI l yX4_roundValue wsX4_roundValue rmX4_roundValue X [.int x0, .int x1, .int x2] []  [] o := by
  refine MI_ofH (cc := cX4_roundValue) (maxL := 3) (rt := .int) (by decide) rfl (Nat.le_of_ble_eq_true rfl) ?_
  intro p e s m below meth c A Q H ls hx hb hml hts hown hA hD hG hP hS hl ret
  have hown : s.vm.findClass RX4 = some m.cls := hown
  have hD : aD A [] := hD
  have hl : lv_has ls 3 [(0, .int x0), (1, .int x1), (2, .int x2)] := hl
  unfold mX4_roundValue at hf
  refine lv_iload_n hx hb dX4_roundValue_0 rfl (lv_at hl 0 rfl) ?_
  refine lv_iload_n hx hb dX4_roundValue_1 rfl (lv_at hl 1 rfl) ?_
  refine lv_imul hx hb dX4_roundValue_2 ?_
  refine lv_bipush (v := (10 : Int32)) hx hb dX4_roundValue_3 (by decide) ?_
  refine lv_iload_n hx hb dX4_roundValue_5 rfl (lv_at hl 0 rfl) ?_
  refine lv_isub hx hb dX4_roundValue_6 ?_
  refine lv_iload_n hx hb dX4_roundValue_7 rfl (lv_at hl 2 rfl) ?_
  refine lv_imul hx hb dX4_roundValue_8 ?_
  refine lv_iadd hx hb dX4_roundValue_9 ?_
  refine lv_bipush (v := (10 : Int32)) hx hb dX4_roundValue_10 (by decide) ?_
  refine lv_idiv hx hb dX4_roundValue_12 (by decide) ?_
  refine lv_topi (fun v_1 ev_1 => ?_)
  have hf := lb_s hf ev_1
  obtain rfl := Option.some.inj hf
  exact ret H _ ls _ rfl hP hD hS dX4_roundValue_13
def mX4_chooseOpen (x0 : Int32) (x1 : Int32) (i_value : Int32) (i_zeroPushes : Int32) (i_onePushes : Int32) (f_notes_odds : Nat → Int32) :
  Option (Int32 × Int32 × Int32) :=
  (mX5_tenthsOf (0 : Int32) (0 : Int32) f_notes_odds).bind fun o_1 =>
  (mX4_roundValue o_1 x0 x1).bind fun o_3 =>
  (mX5_tenthsOf (0 : Int32) (1 : Int32) f_notes_odds).bind fun o_5 =>
  (mX4_roundValue o_5 x0 x1).bind fun o_7 =>
  (mX4_answer o_3 o_7 i_value i_onePushes).bind fun o_9 =>
  (mX5_tenthsOf (1 : Int32) (0 : Int32) f_notes_odds).bind fun o_11 =>
  (mX4_roundValue o_11 x0 x1).bind fun o_13 =>
  (mX5_tenthsOf (1 : Int32) (1 : Int32) f_notes_odds).bind fun o_15 =>
  (mX4_roundValue o_15 x0 x1).bind fun o_17 =>
  (mX4_answer o_13 o_17 o_9.2 o_9.1).bind fun o_19 =>
  (mX4_preferHeld o_9.2 o_9.1 o_19.2 i_zeroPushes o_19.1).bind fun o_21 =>
  some (o_21.2.1, o_21.2.2, o_21.1)
theorem hdsX4_chooseOpen : yX4_chooseOpen.cls ≠ "java/lang/invoke/MethodHandle" ∧ yX4_chooseOpen.cls ≠ "java/lang/invoke/VarHandle" ∧ (parseMethodDescriptor yX4_chooseOpen.desc).map (fun d => d.parameters.length) = some 2 := by decide +kernel
theorem hdvX4_chooseOpen : yX4_chooseOpen.cls = RX4 ∧ yX4_chooseOpen.cls ≠ "java/lang/invoke/MethodHandle" ∧ yX4_chooseOpen.cls ≠ "java/lang/invoke/VarHandle" ∧ (parseMethodDescriptor yX4_chooseOpen.desc).map (fun d => d.parameters.length) = some 2 := by decide +kernel
abbrev rmX4_chooseOpen : Room := { frames := 2, cells := 0, slots := 0, locals := 43 }
set_option maxHeartbeats 4000000 in
set_option maxRecDepth 100000 in
theorem qX4_chooseOpen (l : Launch) (X : XT) (a_this : Nat) (a_notes : Nat) (a_notes_odds : Nat) (a_values : Nat) (a_before : Nat) (a_notes_delays : Nat) (a_notes_margins : Nat)  (i_value : Int32) (i_zeroPushes : Int32) (i_onePushes : Int32) (f_notes_odds : Nat → Int32) (x0 : Int32) (x1 : Int32) (o : Int32 × Int32 × Int32) (hf : mX4_chooseOpen x0 x1 i_value i_zeroPushes i_onePushes f_notes_odds = some o) :
    MC l yX4_chooseOpen wsX4_chooseOpen rmX4_chooseOpen X [.ref a_this, .int x0, .int x1] [(a_this, .inr (4, [.ref a_notes, .ref a_values, .ref a_before, .int i_value, .int i_zeroPushes, .int i_onePushes])), (a_notes, .inr (5, [.ref a_notes_delays, .ref a_notes_margins, .ref a_notes_odds])), (a_notes_odds, .inl (X.2.1 0, 4, .inl f_notes_odds))]  (fun _ => [(a_this, .inr (4, [.ref a_notes, .ref a_values, .ref a_before, .int o.2.1, .int o.2.2, .int o.1])), (a_notes, .inr (5, [.ref a_notes_delays, .ref a_notes_margins, .ref a_notes_odds])), (a_notes_odds, .inl (X.2.1 0, 4, .inl f_notes_odds))]) 0 0 := by
  refine MC_ofH (cc := cX4_chooseOpen) (maxL := 5) (by decide) rfl (Nat.le_of_ble_eq_true rfl) ?_
  intro p e s m below meth c A Q H ls hx hb hml hts hown hin hA hD hG hP hS hl ret
  have hown : s.vm.findClass RX4 = some m.cls := hown
  have hD : aD A [a_this, a_notes, a_notes_odds] := hD
  have hl : lv_has ls 5 [(0, .ref a_this), (1, .int x0), (2, .int x1)] := hl
  have w1 := hts (Cond.fieldLink RX4 26 "ThreeCards$Game" "notes" "LThreeCards$Notes;") (List.mem_of_getElem? (i := 1) rfl)
  have w2 := hts (Cond.fieldLink RX4 16 "ThreeCards$Game" "value" "I") (List.mem_of_getElem? (i := 2) rfl)
  have w3 := hts (Cond.fieldLink RX4 23 "ThreeCards$Game" "onePushes" "I") (List.mem_of_getElem? (i := 3) rfl)
  have in4 : ∀ w ∈ u_ws RX4 TX4 6, w ∈ wsX4_chooseOpen := by decide +kernel
  unfold mX4_chooseOpen at hf
  refine lv_aload_n hx hb dX4_chooseOpen_0 rfl (lv_at hl 0 rfl) ?_
  refine lv_aload_n hx hb dX4_chooseOpen_1 rfl (lv_at hl 0 rfl) ?_
  refine va_get (D := X.1) (ci := 4) (v := .ref a_notes) (C := RX4) (T := TX4) (N := 6) hx hb hts in4 hown hG.1 hP 0 rfl rfl 0 (by decide) w1 (fun _ h9 => h9) rfl dX4_chooseOpen_2 ?_
  refine lv_iconst (v := (0 : Int32)) hx hb dX4_chooseOpen_5 (by decide) ?_
  refine lv_iconst (v := (0 : Int32)) hx hb dX4_chooseOpen_6 (by decide) ?_
  obtain ⟨o_1, ho_1, hf⟩ := ob_s hf
  refine xV_i (As := [.int (0 : Int32), .int (0 : Int32)]) (b := a_notes) (rest := [.ref a_this]) (ws2 := [(a_this, .inr (4, [.ref a_notes, .ref a_values, .ref a_before, .int i_value, .int i_zeroPushes, .int i_onePushes])), (a_notes, .inr (5, [.ref a_notes_delays, .ref a_notes_margins, .ref a_notes_odds])), (a_notes_odds, .inl (X.2.1 0, 4, .inl f_notes_odds))]) hx hb hml hts hown hG hA hP hD rfl hS hl.1 (qX5_tenthsOf l X a_notes a_notes_odds a_notes_delays a_notes_margins f_notes_odds (0 : Int32) (0 : Int32) o_1 ho_1) (cwV (y := yX5_tenthsOf) 2 hts gX4_chooseOpen_X5_tenthsOf rfl rfl rfl hdvX5_tenthsOf ⟨Nat.le_of_ble_eq_true rfl, Nat.le_of_ble_eq_true rfl⟩) [1, 2] [0] [0, 1, 2] rfl rfl rfl rfl rfl rfl rfl (ci := 5) rfl 1 rfl rfl rfl (Nat.le_of_ble_eq_true rfl) ⟨Nat.le_of_ble_eq_true rfl, Nat.le_of_ble_eq_true rfl⟩ dX4_chooseOpen_7 (fun H locs hP _ hS => ?_)
  refine lv_iload_n hx hb dX4_chooseOpen_10 rfl (lv_at hl 1 rfl) ?_
  refine lv_iload_n hx hb dX4_chooseOpen_11 rfl (lv_at hl 2 rfl) ?_
  obtain ⟨o_3, ho_3, hf⟩ := ob_s hf
  refine xS_i (As := [.int o_1, .int x0, .int x1]) (rest := [.ref a_this]) (ws2 := [(a_this, .inr (4, [.ref a_notes, .ref a_values, .ref a_before, .int i_value, .int i_zeroPushes, .int i_onePushes])), (a_notes, .inr (5, [.ref a_notes_delays, .ref a_notes_margins, .ref a_notes_odds])), (a_notes_odds, .inl (X.2.1 0, 4, .inl f_notes_odds))]) hx hb hml hts hown hG hA hP hD rfl hS hl.1 (qX4_roundValue l X o_1 x0 x1 o_3 ho_3) (va_cwS (y := yX4_roundValue) 3 hts gX4_chooseOpen_X4_roundValue rfl rfl rfl hdsX4_roundValue ⟨Nat.le_of_ble_eq_true rfl, Nat.le_of_ble_eq_true rfl⟩) [] [0, 1, 2] [0, 1, 2] rfl rfl rfl rfl rfl rfl rfl rfl rfl (Nat.le_of_ble_eq_true rfl) ⟨Nat.le_of_ble_eq_true rfl, Nat.le_of_ble_eq_true rfl⟩ dX4_chooseOpen_12 (fun H locs hP _ hS => ?_)
  refine lv_aload_n hx hb dX4_chooseOpen_15 rfl (lv_at hl 0 rfl) ?_
  refine va_get (D := X.1) (ci := 4) (v := .ref a_notes) (C := RX4) (T := TX4) (N := 6) hx hb hts in4 hown hG.1 hP 0 rfl rfl 0 (by decide) w1 (fun _ h9 => h9) rfl dX4_chooseOpen_16 ?_
  refine lv_iconst (v := (0 : Int32)) hx hb dX4_chooseOpen_19 (by decide) ?_
  refine lv_iconst (v := (1 : Int32)) hx hb dX4_chooseOpen_20 (by decide) ?_
  obtain ⟨o_5, ho_5, hf⟩ := ob_s hf
  refine xV_i (As := [.int (0 : Int32), .int (1 : Int32)]) (b := a_notes) (rest := [.int o_3, .ref a_this]) (ws2 := [(a_this, .inr (4, [.ref a_notes, .ref a_values, .ref a_before, .int i_value, .int i_zeroPushes, .int i_onePushes])), (a_notes, .inr (5, [.ref a_notes_delays, .ref a_notes_margins, .ref a_notes_odds])), (a_notes_odds, .inl (X.2.1 0, 4, .inl f_notes_odds))]) hx hb hml hts hown hG hA hP hD rfl hS hl.1 (qX5_tenthsOf l X a_notes a_notes_odds a_notes_delays a_notes_margins f_notes_odds (0 : Int32) (1 : Int32) o_5 ho_5) (cwV (y := yX5_tenthsOf) 2 hts gX4_chooseOpen_X5_tenthsOf rfl rfl rfl hdvX5_tenthsOf ⟨Nat.le_of_ble_eq_true rfl, Nat.le_of_ble_eq_true rfl⟩) [1, 2] [0] [0, 1, 2] rfl rfl rfl rfl rfl rfl rfl (ci := 5) rfl 1 rfl rfl rfl (Nat.le_of_ble_eq_true rfl) ⟨Nat.le_of_ble_eq_true rfl, Nat.le_of_ble_eq_true rfl⟩ dX4_chooseOpen_21 (fun H locs hP _ hS => ?_)
  refine lv_iload_n hx hb dX4_chooseOpen_24 rfl (lv_at hl 1 rfl) ?_
  refine lv_iload_n hx hb dX4_chooseOpen_25 rfl (lv_at hl 2 rfl) ?_
  obtain ⟨o_7, ho_7, hf⟩ := ob_s hf
  refine xS_i (As := [.int o_5, .int x0, .int x1]) (rest := [.int o_3, .ref a_this]) (ws2 := [(a_this, .inr (4, [.ref a_notes, .ref a_values, .ref a_before, .int i_value, .int i_zeroPushes, .int i_onePushes])), (a_notes, .inr (5, [.ref a_notes_delays, .ref a_notes_margins, .ref a_notes_odds])), (a_notes_odds, .inl (X.2.1 0, 4, .inl f_notes_odds))]) hx hb hml hts hown hG hA hP hD rfl hS hl.1 (qX4_roundValue l X o_5 x0 x1 o_7 ho_7) (va_cwS (y := yX4_roundValue) 3 hts gX4_chooseOpen_X4_roundValue rfl rfl rfl hdsX4_roundValue ⟨Nat.le_of_ble_eq_true rfl, Nat.le_of_ble_eq_true rfl⟩) [] [0, 1, 2] [0, 1, 2] rfl rfl rfl rfl rfl rfl rfl rfl rfl (Nat.le_of_ble_eq_true rfl) ⟨Nat.le_of_ble_eq_true rfl, Nat.le_of_ble_eq_true rfl⟩ dX4_chooseOpen_26 (fun H locs hP _ hS => ?_)
  obtain ⟨o_9, ho_9, hf⟩ := ob_s hf
  refine xV_v (As := [.int o_3, .int o_7]) (b := a_this) (rest := []) (ws2 := fun _ => [(a_this, .inr (4, [.ref a_notes, .ref a_values, .ref a_before, .int o_9.2, .int i_zeroPushes, .int o_9.1])), (a_notes, .inr (5, [.ref a_notes_delays, .ref a_notes_margins, .ref a_notes_odds])), (a_notes_odds, .inl (X.2.1 0, 4, .inl f_notes_odds))]) hx hb hml hts hown hG hA hP hD rfl hS hl.1 (qX4_answer l X a_this a_notes a_values a_before i_value i_zeroPushes i_onePushes o_3 o_7 o_9 ho_9) (cwV (y := yX4_answer) 2 hts gX4_chooseOpen_X4_answer rfl rfl rfl hdvX4_answer ⟨Nat.le_of_ble_eq_true rfl, Nat.le_of_ble_eq_true rfl⟩) [0] [1, 2] [2, 0, 1] rfl rfl rfl rfl rfl rfl (fun _ => rfl) (ci := 4) rfl 0 rfl rfl rfl (Nat.le_of_ble_eq_true rfl) ⟨Nat.le_of_ble_eq_true rfl, Nat.le_of_ble_eq_true rfl⟩ dX4_chooseOpen_29 (fun u_10 H locs hP _ hS => ?_)
  refine lv_aload_n hx hb dX4_chooseOpen_32 rfl (lv_at hl 0 rfl) ?_
  refine va_get (D := X.1) (ci := 4) (v := .int o_9.2) (C := RX4) (T := TX4) (N := 6) hx hb hts in4 hown hG.1 hP 0 rfl rfl 3 (by decide) w2 (fun _ h9 => h9) rfl dX4_chooseOpen_33 ?_
  refine lv_istore_n (lv' := [(3, .int o_9.2), (0, .ref a_this), (1, .int x0), (2, .int x1)]) hx hb dX4_chooseOpen_36 rfl hl (by decide) rfl (fun ls hl => ?_)
  refine lv_aload_n hx hb dX4_chooseOpen_37 rfl (lv_at hl 1 rfl) ?_
  refine va_get (D := X.1) (ci := 4) (v := .int o_9.1) (C := RX4) (T := TX4) (N := 6) hx hb hts in4 hown hG.1 hP 0 rfl rfl 5 (by decide) w3 (fun _ h9 => h9) rfl dX4_chooseOpen_38 ?_
  refine lv_istore (lv' := [(4, .int o_9.1), (3, .int o_9.2), (0, .ref a_this), (1, .int x0), (2, .int x1)]) hx hb dX4_chooseOpen_41 hl (by decide) rfl (fun ls hl => ?_)
  refine lv_aload_n hx hb dX4_chooseOpen_43 rfl (lv_at hl 2 rfl) ?_
  refine lv_aload_n hx hb dX4_chooseOpen_44 rfl (lv_at hl 2 rfl) ?_
  refine va_get (D := X.1) (ci := 4) (v := .ref a_notes) (C := RX4) (T := TX4) (N := 6) hx hb hts in4 hown hG.1 hP 0 rfl rfl 0 (by decide) w1 (fun _ h9 => h9) rfl dX4_chooseOpen_45 ?_
  refine lv_iconst (v := (1 : Int32)) hx hb dX4_chooseOpen_48 (by decide) ?_
  refine lv_iconst (v := (0 : Int32)) hx hb dX4_chooseOpen_49 (by decide) ?_
  obtain ⟨o_11, ho_11, hf⟩ := ob_s hf
  refine xV_i (As := [.int (1 : Int32), .int (0 : Int32)]) (b := a_notes) (rest := [.ref a_this]) (ws2 := [(a_this, .inr (4, [.ref a_notes, .ref a_values, .ref a_before, .int o_9.2, .int i_zeroPushes, .int o_9.1])), (a_notes, .inr (5, [.ref a_notes_delays, .ref a_notes_margins, .ref a_notes_odds])), (a_notes_odds, .inl (X.2.1 0, 4, .inl f_notes_odds))]) hx hb hml hts hown hG hA hP hD rfl hS hl.1 (qX5_tenthsOf l X a_notes a_notes_odds a_notes_delays a_notes_margins f_notes_odds (1 : Int32) (0 : Int32) o_11 ho_11) (cwV (y := yX5_tenthsOf) 2 hts gX4_chooseOpen_X5_tenthsOf rfl rfl rfl hdvX5_tenthsOf ⟨Nat.le_of_ble_eq_true rfl, Nat.le_of_ble_eq_true rfl⟩) [1, 2] [0] [0, 1, 2] rfl rfl rfl rfl rfl rfl rfl (ci := 5) rfl 1 rfl rfl rfl (Nat.le_of_ble_eq_true rfl) ⟨Nat.le_of_ble_eq_true rfl, Nat.le_of_ble_eq_true rfl⟩ dX4_chooseOpen_50 (fun H locs hP _ hS => ?_)
  refine lv_iload_n hx hb dX4_chooseOpen_53 rfl (lv_at hl 3 rfl) ?_
  refine lv_iload_n hx hb dX4_chooseOpen_54 rfl (lv_at hl 4 rfl) ?_
  obtain ⟨o_13, ho_13, hf⟩ := ob_s hf
  refine xS_i (As := [.int o_11, .int x0, .int x1]) (rest := [.ref a_this]) (ws2 := [(a_this, .inr (4, [.ref a_notes, .ref a_values, .ref a_before, .int o_9.2, .int i_zeroPushes, .int o_9.1])), (a_notes, .inr (5, [.ref a_notes_delays, .ref a_notes_margins, .ref a_notes_odds])), (a_notes_odds, .inl (X.2.1 0, 4, .inl f_notes_odds))]) hx hb hml hts hown hG hA hP hD rfl hS hl.1 (qX4_roundValue l X o_11 x0 x1 o_13 ho_13) (va_cwS (y := yX4_roundValue) 3 hts gX4_chooseOpen_X4_roundValue rfl rfl rfl hdsX4_roundValue ⟨Nat.le_of_ble_eq_true rfl, Nat.le_of_ble_eq_true rfl⟩) [] [0, 1, 2] [0, 1, 2] rfl rfl rfl rfl rfl rfl rfl rfl rfl (Nat.le_of_ble_eq_true rfl) ⟨Nat.le_of_ble_eq_true rfl, Nat.le_of_ble_eq_true rfl⟩ dX4_chooseOpen_55 (fun H locs hP _ hS => ?_)
  refine lv_aload_n hx hb dX4_chooseOpen_58 rfl (lv_at hl 2 rfl) ?_
  refine va_get (D := X.1) (ci := 4) (v := .ref a_notes) (C := RX4) (T := TX4) (N := 6) hx hb hts in4 hown hG.1 hP 0 rfl rfl 0 (by decide) w1 (fun _ h9 => h9) rfl dX4_chooseOpen_59 ?_
  refine lv_iconst (v := (1 : Int32)) hx hb dX4_chooseOpen_62 (by decide) ?_
  refine lv_iconst (v := (1 : Int32)) hx hb dX4_chooseOpen_63 (by decide) ?_
  obtain ⟨o_15, ho_15, hf⟩ := ob_s hf
  refine xV_i (As := [.int (1 : Int32), .int (1 : Int32)]) (b := a_notes) (rest := [.int o_13, .ref a_this]) (ws2 := [(a_this, .inr (4, [.ref a_notes, .ref a_values, .ref a_before, .int o_9.2, .int i_zeroPushes, .int o_9.1])), (a_notes, .inr (5, [.ref a_notes_delays, .ref a_notes_margins, .ref a_notes_odds])), (a_notes_odds, .inl (X.2.1 0, 4, .inl f_notes_odds))]) hx hb hml hts hown hG hA hP hD rfl hS hl.1 (qX5_tenthsOf l X a_notes a_notes_odds a_notes_delays a_notes_margins f_notes_odds (1 : Int32) (1 : Int32) o_15 ho_15) (cwV (y := yX5_tenthsOf) 2 hts gX4_chooseOpen_X5_tenthsOf rfl rfl rfl hdvX5_tenthsOf ⟨Nat.le_of_ble_eq_true rfl, Nat.le_of_ble_eq_true rfl⟩) [1, 2] [0] [0, 1, 2] rfl rfl rfl rfl rfl rfl rfl (ci := 5) rfl 1 rfl rfl rfl (Nat.le_of_ble_eq_true rfl) ⟨Nat.le_of_ble_eq_true rfl, Nat.le_of_ble_eq_true rfl⟩ dX4_chooseOpen_64 (fun H locs hP _ hS => ?_)
  refine lv_iload_n hx hb dX4_chooseOpen_67 rfl (lv_at hl 3 rfl) ?_
  refine lv_iload_n hx hb dX4_chooseOpen_68 rfl (lv_at hl 4 rfl) ?_
  obtain ⟨o_17, ho_17, hf⟩ := ob_s hf
  refine xS_i (As := [.int o_15, .int x0, .int x1]) (rest := [.int o_13, .ref a_this]) (ws2 := [(a_this, .inr (4, [.ref a_notes, .ref a_values, .ref a_before, .int o_9.2, .int i_zeroPushes, .int o_9.1])), (a_notes, .inr (5, [.ref a_notes_delays, .ref a_notes_margins, .ref a_notes_odds])), (a_notes_odds, .inl (X.2.1 0, 4, .inl f_notes_odds))]) hx hb hml hts hown hG hA hP hD rfl hS hl.1 (qX4_roundValue l X o_15 x0 x1 o_17 ho_17) (va_cwS (y := yX4_roundValue) 3 hts gX4_chooseOpen_X4_roundValue rfl rfl rfl hdsX4_roundValue ⟨Nat.le_of_ble_eq_true rfl, Nat.le_of_ble_eq_true rfl⟩) [] [0, 1, 2] [0, 1, 2] rfl rfl rfl rfl rfl rfl rfl rfl rfl (Nat.le_of_ble_eq_true rfl) ⟨Nat.le_of_ble_eq_true rfl, Nat.le_of_ble_eq_true rfl⟩ dX4_chooseOpen_69 (fun H locs hP _ hS => ?_)
  obtain ⟨o_19, ho_19, hf⟩ := ob_s hf
  refine xV_v (As := [.int o_13, .int o_17]) (b := a_this) (rest := []) (ws2 := fun _ => [(a_this, .inr (4, [.ref a_notes, .ref a_values, .ref a_before, .int o_19.2, .int i_zeroPushes, .int o_19.1])), (a_notes, .inr (5, [.ref a_notes_delays, .ref a_notes_margins, .ref a_notes_odds])), (a_notes_odds, .inl (X.2.1 0, 4, .inl f_notes_odds))]) hx hb hml hts hown hG hA hP hD rfl hS hl.1 (qX4_answer l X a_this a_notes a_values a_before o_9.2 i_zeroPushes o_9.1 o_13 o_17 o_19 ho_19) (cwV (y := yX4_answer) 2 hts gX4_chooseOpen_X4_answer rfl rfl rfl hdvX4_answer ⟨Nat.le_of_ble_eq_true rfl, Nat.le_of_ble_eq_true rfl⟩) [0] [1, 2] [2, 0, 1] rfl rfl rfl rfl rfl rfl (fun _ => rfl) (ci := 4) rfl 0 rfl rfl rfl (Nat.le_of_ble_eq_true rfl) ⟨Nat.le_of_ble_eq_true rfl, Nat.le_of_ble_eq_true rfl⟩ dX4_chooseOpen_72 (fun u_20 H locs hP _ hS => ?_)
  refine lv_aload_n hx hb dX4_chooseOpen_75 rfl (lv_at hl 2 rfl) ?_
  refine lv_iload_n hx hb dX4_chooseOpen_76 rfl (lv_at hl 1 rfl) ?_
  refine lv_iload hx hb dX4_chooseOpen_77 (lv_at hl 0 rfl) ?_
  obtain ⟨o_21, ho_21, hf⟩ := ob_s hf
  refine xV_v (As := [.int o_9.2, .int o_9.1]) (b := a_this) (rest := []) (ws2 := fun _ => [(a_this, .inr (4, [.ref a_notes, .ref a_values, .ref a_before, .int o_21.2.2, .int o_21.1, .int o_21.2.1])), (a_notes, .inr (5, [.ref a_notes_delays, .ref a_notes_margins, .ref a_notes_odds])), (a_notes_odds, .inl (X.2.1 0, 4, .inl f_notes_odds))]) hx hb hml hts hown hG hA hP hD rfl hS hl.1 (qX4_preferHeld l X a_this a_notes a_values a_before o_19.2 i_zeroPushes o_19.1 o_9.2 o_9.1 o_21 ho_21) (cwV (y := yX4_preferHeld) 2 hts gX4_chooseOpen_X4_preferHeld rfl rfl rfl hdvX4_preferHeld ⟨Nat.le_of_ble_eq_true rfl, Nat.le_of_ble_eq_true rfl⟩) [0] [1, 2] [2, 0, 1] rfl rfl rfl rfl rfl rfl (fun _ => rfl) (ci := 4) rfl 0 rfl rfl rfl (Nat.le_of_ble_eq_true rfl) ⟨Nat.le_of_ble_eq_true rfl, Nat.le_of_ble_eq_true rfl⟩ dX4_chooseOpen_79 (fun u_22 H locs hP _ hS => ?_)
  obtain rfl := Option.some.inj hf
  exact ret (fun _ => 0) H _ ls _ hP hD hS dX4_chooseOpen_82
def mX4_playOpen_B22 (x0 : Int32) (x1 : Int32) (f_notes_odds : Nat → Int32) (k10 : Int32 → (Nat → Int32) → Int32 → Int32 → Int32 → (Nat → Int32) → Nat → Nat → Option ((Nat → Int32) × Int32 × Int32 × Int32 × (Nat → Int32) × Nat × Nat)) (k22 : Int32 → Int32 → (Nat → Int32) → Int32 → Int32 → Int32 → (Nat → Int32) → Nat → Nat → Option ((Nat → Int32) × Int32 × Int32 × Int32 × (Nat → Int32) × Nat × Nat)) (l3 : Int32) (l4 : Int32) (f_values : Nat → Int32) (i_onePushes : Int32) (i_value : Int32) (i_zeroPushes : Int32) (f_before : Nat → Int32) (a_values : Nat) (a_before : Nat) :
  Option ((Nat → Int32) × Int32 × Int32 × Int32 × (Nat → Int32) × Nat × Nat) :=
  if (((24 : Int32) + x1) + l3) < l4 then ((mX4_stepBack f_before f_values a_values a_before).bind fun o_7 =>
  lb (l3 + (-1 : Int32)) fun v_9 =>
  k10 v_9 o_7.2.1 i_onePushes i_value i_zeroPushes o_7.2.2.2 o_7.1 o_7.2.2.1) else (gi (l4 + (1 : Int32)) 49 <|
  gi (l4 - (1 : Int32)) 49 <|
  (mX4_chooseOpen (f_values (l4 + (1 : Int32)).toNatClampNeg) (f_values (l4 - (1 : Int32)).toNatClampNeg) i_value i_zeroPushes i_onePushes f_notes_odds).bind fun o_12 =>
  gi l4 49 <|
  lb (upd f_before l4.toNatClampNeg o_12.2.1) fun g_15 =>
  lb (l4 + (1 : Int32)) fun v_16 =>
  k22 l3 v_16 f_values o_12.1 o_12.2.1 o_12.2.2 g_15 a_values a_before)
def mX4_playOpen_L22 (x0 : Int32) (x1 : Int32) (f_notes_odds : Nat → Int32) (k10 : Int32 → (Nat → Int32) → Int32 → Int32 → Int32 → (Nat → Int32) → Nat → Nat → Option ((Nat → Int32) × Int32 × Int32 × Int32 × (Nat → Int32) × Nat × Nat)) (n : Nat) (l3 : Int32) (l4 : Int32) (f_values : Nat → Int32) (i_onePushes : Int32) (i_value : Int32) (i_zeroPushes : Int32) (f_before : Nat → Int32) (a_values : Nat) (a_before : Nat) :
  Option ((Nat → Int32) × Int32 × Int32 × Int32 × (Nat → Int32) × Nat × Nat) :=
  loopN (fun k (s : Int32 × Int32 × (Nat → Int32) × Int32 × Int32 × Int32 × (Nat → Int32) × Nat × Nat) => mX4_playOpen_B22 x0 x1 f_notes_odds k10 (fun l3 l4 f_values i_onePushes i_value i_zeroPushes f_before a_values a_before => k (l3, l4, f_values, i_onePushes, i_value, i_zeroPushes, f_before, a_values, a_before)) s.1 s.2.1 s.2.2.1 s.2.2.2.1 s.2.2.2.2.1 s.2.2.2.2.2.1 s.2.2.2.2.2.2.1 s.2.2.2.2.2.2.2.1 s.2.2.2.2.2.2.2.2) n (l3, l4, f_values, i_onePushes, i_value, i_zeroPushes, f_before, a_values, a_before)
def mX4_playOpen_B10 (x0 : Int32) (x1 : Int32) (f_notes_odds : Nat → Int32) (k10 : Int32 → (Nat → Int32) → Int32 → Int32 → Int32 → (Nat → Int32) → Nat → Nat → Option ((Nat → Int32) × Int32 × Int32 × Int32 × (Nat → Int32) × Nat × Nat)) (l3 : Int32) (f_values : Nat → Int32) (i_onePushes : Int32) (i_value : Int32) (i_zeroPushes : Int32) (f_before : Nat → Int32) (a_values : Nat) (a_before : Nat) :
  Option ((Nat → Int32) × Int32 × Int32 × Int32 × (Nat → Int32) × Nat × Nat) :=
  if l3 < 0 then (some (f_values, i_onePushes, i_value, i_zeroPushes, f_before, a_values, a_before)) else (lb (((24 : Int32) + x1) - l3) fun v_5 =>
  mX4_playOpen_L22 x0 x1 f_notes_odds k10 FUEL l3 v_5 f_values i_onePushes i_value i_zeroPushes f_before a_values a_before)
def mX4_playOpen_L10 (x0 : Int32) (x1 : Int32) (f_notes_odds : Nat → Int32) (n : Nat) (l3 : Int32) (f_values : Nat → Int32) (i_onePushes : Int32) (i_value : Int32) (i_zeroPushes : Int32) (f_before : Nat → Int32) (a_values : Nat) (a_before : Nat) :
  Option ((Nat → Int32) × Int32 × Int32 × Int32 × (Nat → Int32) × Nat × Nat) :=
  loopN (fun k (s : Int32 × (Nat → Int32) × Int32 × Int32 × Int32 × (Nat → Int32) × Nat × Nat) => mX4_playOpen_B10 x0 x1 f_notes_odds  (fun l3 f_values i_onePushes i_value i_zeroPushes f_before a_values a_before => k (l3, f_values, i_onePushes, i_value, i_zeroPushes, f_before, a_values, a_before)) s.1 s.2.1 s.2.2.1 s.2.2.2.1 s.2.2.2.2.1 s.2.2.2.2.2.1 s.2.2.2.2.2.2.1 s.2.2.2.2.2.2.2) n (l3, f_values, i_onePushes, i_value, i_zeroPushes, f_before, a_values, a_before)
def mX4_playOpen (x0 : Int32) (x1 : Int32) (i_value : Int32) (i_zeroPushes : Int32) (i_onePushes : Int32) (f_before : Nat → Int32) (f_values : Nat → Int32) (f_notes_odds : Nat → Int32) (a_values : Nat) (a_before : Nat) :
  Option ((Nat → Int32) × Int32 × Int32 × Int32 × (Nat → Int32) × Nat × Nat) :=
  (mX4_setEnds x0 x1 f_values).bind fun o_1 =>
  lb (x0 - (1 : Int32)) fun v_3 =>
  mX4_playOpen_L10 x0 x1 f_notes_odds  FUEL v_3 o_1 i_onePushes i_value i_zeroPushes f_before a_values a_before
theorem hdsX4_playOpen : yX4_playOpen.cls ≠ "java/lang/invoke/MethodHandle" ∧ yX4_playOpen.cls ≠ "java/lang/invoke/VarHandle" ∧ (parseMethodDescriptor yX4_playOpen.desc).map (fun d => d.parameters.length) = some 2 := by decide +kernel
theorem hdvX4_playOpen : yX4_playOpen.cls = RX4 ∧ yX4_playOpen.cls ≠ "java/lang/invoke/MethodHandle" ∧ yX4_playOpen.cls ≠ "java/lang/invoke/VarHandle" ∧ (parseMethodDescriptor yX4_playOpen.desc).map (fun d => d.parameters.length) = some 2 := by decide +kernel
abbrev rmX4_playOpen : Room := { frames := 3, cells := 0, slots := 0, locals := 67 }
set_option maxHeartbeats 4000000 in
set_option maxRecDepth 100000 in
theorem qX4_playOpen (l : Launch) (X : XT) (a_this : Nat) (a_before : Nat) (a_notes : Nat) (a_values : Nat) (a_notes_odds : Nat) (a_notes_delays : Nat) (a_notes_margins : Nat)  (i_value : Int32) (i_zeroPushes : Int32) (i_onePushes : Int32) (f_before : Nat → Int32) (f_values : Nat → Int32) (f_notes_odds : Nat → Int32) (x0 : Int32) (x1 : Int32) (o : (Nat → Int32) × Int32 × Int32 × Int32 × (Nat → Int32) × Nat × Nat) (hf : mX4_playOpen x0 x1 i_value i_zeroPushes i_onePushes f_before f_values f_notes_odds a_values a_before = some o) :
    MC l yX4_playOpen wsX4_playOpen rmX4_playOpen X [.ref a_this, .int x0, .int x1] [(a_this, .inr (4, [.ref a_notes, .ref a_values, .ref a_before, .int i_value, .int i_zeroPushes, .int i_onePushes])), (a_before, .inl (X.2.1 0, 49, .inl f_before)), (a_notes, .inr (5, [.ref a_notes_delays, .ref a_notes_margins, .ref a_notes_odds])), (a_values, .inl (X.2.1 0, 49, .inl f_values)), (a_notes_odds, .inl (X.2.1 0, 4, .inl f_notes_odds))]  (fun _ => [(a_this, .inr (4, [.ref a_notes, .ref o.2.2.2.2.2.1, .ref o.2.2.2.2.2.2, .int o.2.2.1, .int o.2.2.2.1, .int o.2.1])), (o.2.2.2.2.2.2, .inl (X.2.1 0, 49, .inl o.2.2.2.2.1)), (a_notes, .inr (5, [.ref a_notes_delays, .ref a_notes_margins, .ref a_notes_odds])), (o.2.2.2.2.2.1, .inl (X.2.1 0, 49, .inl o.1)), (a_notes_odds, .inl (X.2.1 0, 4, .inl f_notes_odds))]) 0 0 := by
  refine MC_ofH (cc := cX4_playOpen) (maxL := 5) (by decide) rfl (Nat.le_of_ble_eq_true rfl) ?_
  intro p e s m below meth c A Q H ls hx hb hml hts hown hin hA hD hG hP hS hl ret
  have hown : s.vm.findClass RX4 = some m.cls := hown
  have hD : aD A [a_this, a_before, a_notes, a_values, a_notes_odds] := hD
  have hl : lv_has ls 5 [(0, .ref a_this), (1, .int x0), (2, .int x1)] := hl
  have w1 := hts (Cond.fieldLink RX4 9 "ThreeCards$Game" "values" "[I") (List.mem_of_getElem? (i := 1) rfl)
  have w2 := hts (Cond.fieldLink RX4 13 "ThreeCards$Game" "before" "[I") (List.mem_of_getElem? (i := 2) rfl)
  have w3 := hts (Cond.fieldLink RX4 16 "ThreeCards$Game" "value" "I") (List.mem_of_getElem? (i := 3) rfl)
  have in4 : ∀ w ∈ u_ws RX4 TX4 6, w ∈ wsX4_playOpen := by decide +kernel
  have hL22 : ∀ (k10 : Int32 → (Nat → Int32) → Int32 → Int32 → Int32 → (Nat → Int32) → Nat → Nat → Option ((Nat → Int32) × Int32 × Int32 × Int32 × (Nat → Int32) × Nat × Nat)) (hk10 : ∀ (l3 : Int32) (f_values : Nat → Int32) (i_onePushes : Int32) (i_value : Int32) (i_zeroPushes : Int32) (f_before : Nat → Int32) (a_values : Nat) (a_before : Nat)  (H : Heap) (locs : List Loc) (ls : Array Slot), va_P X.1 vwCl [(a_this, .inr (4, [.ref a_notes, .ref a_values, .ref a_before, .int i_value, .int i_zeroPushes, .int i_onePushes])), (a_before, .inl (X.2.1 0, 49, .inl f_before)), (a_notes, .inr (5, [.ref a_notes_delays, .ref a_notes_margins, .ref a_notes_odds])), (a_values, .inl (X.2.1 0, 49, .inl f_values)), (a_notes_odds, .inl (X.2.1 0, 4, .inl f_notes_odds))] H → aD A [a_this, a_before, a_notes, a_values, a_notes_odds] → va_S A s.heap H locs → lv_has ls 5 [(0, .ref a_this), (2, .int x1), (3, .int l3)] → k10 l3 f_values i_onePushes i_value i_zeroPushes f_before a_values a_before = some o → W p l e rmX4_playOpen s m ([.ref a_this, .int x0, .int x1] : List Value).toArray below meth c H locs 0 0 Q (F0 m 10 ls [])) (n : Nat) (l3 : Int32) (l4 : Int32) (f_values : Nat → Int32) (i_onePushes : Int32) (i_value : Int32) (i_zeroPushes : Int32) (f_before : Nat → Int32) (a_values : Nat) (a_before : Nat)  (H : Heap) (locs : List Loc) (ls : Array Slot), va_P X.1 vwCl [(a_this, .inr (4, [.ref a_notes, .ref a_values, .ref a_before, .int i_value, .int i_zeroPushes, .int i_onePushes])), (a_before, .inl (X.2.1 0, 49, .inl f_before)), (a_notes, .inr (5, [.ref a_notes_delays, .ref a_notes_margins, .ref a_notes_odds])), (a_values, .inl (X.2.1 0, 49, .inl f_values)), (a_notes_odds, .inl (X.2.1 0, 4, .inl f_notes_odds))] H → aD A [a_this, a_before, a_notes, a_values, a_notes_odds] → va_S A s.heap H locs → lv_has ls 5 [(0, .ref a_this), (2, .int x1), (3, .int l3), (4, .int l4)] → mX4_playOpen_L22 x0 x1 f_notes_odds k10 n l3 l4 f_values i_onePushes i_value i_zeroPushes f_before a_values a_before = some o → W p l e rmX4_playOpen s m ([.ref a_this, .int x0, .int x1] : List Value).toArray below meth c H locs 0 0 Q (F0 m 22 ls []) := by
    intro k10 hk10 n
    induction n with
    | zero => intro l3 l4 f_values i_onePushes i_value i_zeroPushes f_before a_values a_before  H locs ls hP hD hS hl hf; exact xn hf
    | succ n ih =>
      intro l3 l4 f_values i_onePushes i_value i_zeroPushes f_before a_values a_before  H locs ls hP hD hS hl hf
      have hf : mX4_playOpen_B22 x0 x1 f_notes_odds k10 (mX4_playOpen_L22 x0 x1 f_notes_odds k10 n) l3 l4 f_values i_onePushes i_value i_zeroPushes f_before a_values a_before = some o := hf
      generalize mX4_playOpen_L22 x0 x1 f_notes_odds k10 n = k22 at ih hf
      unfold mX4_playOpen_B22 at hf
      refine lv_iload hx hb dX4_playOpen_22 (lv_at hl 3 rfl) ?_
      refine lv_bipush (v := (24 : Int32)) hx hb dX4_playOpen_24 (by decide) ?_
      refine lv_iload_n hx hb dX4_playOpen_26 rfl (lv_at hl 1 rfl) ?_
      refine lv_iadd hx hb dX4_playOpen_27 ?_
      refine lv_iload_n hx hb dX4_playOpen_28 rfl (lv_at hl 2 rfl) ?_
      refine lv_iadd hx hb dX4_playOpen_29 ?_
      refine lv_icmp_gt (tgt := 72) hx hb dX4_playOpen_30 (by decide) (fun c_6 => ?_) (fun c_6 => ?_)
      · have hf := xt hf c_6
        refine lv_aload_n hx hb dX4_playOpen_72 rfl (lv_at hl 0 rfl) ?_
        obtain ⟨o_7, ho_7, hf⟩ := ob_s hf
        refine xV_v (As := []) (b := a_this) (rest := []) (ws2 := fun _ => [(a_this, .inr (4, [.ref a_notes, .ref o_7.1, .ref o_7.2.2.1, .int i_value, .int i_zeroPushes, .int i_onePushes])), (o_7.2.2.1, .inl (X.2.1 0, 49, .inl o_7.2.2.2)), (a_notes, .inr (5, [.ref a_notes_delays, .ref a_notes_margins, .ref a_notes_odds])), (o_7.1, .inl (X.2.1 0, 49, .inl o_7.2.1)), (a_notes_odds, .inl (X.2.1 0, 4, .inl f_notes_odds))]) hx hb hml hts hown hG hA hP hD rfl hS hl.1 (qX4_stepBack l X a_this a_before a_values a_notes i_value i_zeroPushes i_onePushes f_before f_values o_7 ho_7) (cwV (y := yX4_stepBack) 0 hts gX4_playOpen_X4_stepBack rfl rfl rfl hdvX4_stepBack ⟨Nat.le_of_ble_eq_true rfl, Nat.le_of_ble_eq_true rfl⟩) [0, 1, 3] [2, 4] [2, 3, 0, 4, 1] rfl rfl rfl rfl rfl rfl (fun _ => rfl) (ci := 4) rfl 0 rfl rfl rfl (Nat.le_of_ble_eq_true rfl) ⟨Nat.le_of_ble_eq_true rfl, Nat.le_of_ble_eq_true rfl⟩ dX4_playOpen_73 (fun u_8 H locs hP hD hS => ?_)
        have hD : aD A [a_this, o_7.2.2.1, a_notes, o_7.1, a_notes_odds] := hD
        obtain ⟨v_9, ev_9, hf⟩ := lb_g hf
        refine lv_iinc (v := v_9) (lv' := [(3, .int v_9), (0, .ref a_this), (2, .int x1), (4, .int l4)]) hx hb dX4_playOpen_76 hl (k := 2) rfl ev_9.symm (by decide) rfl (fun ls hl => ?_)
        refine lv_goto (tgt := 10) hx hb dX4_playOpen_79 (by decide) ?_
        exact hk10 v_9 o_7.2.1 i_onePushes i_value i_zeroPushes o_7.2.2.2 o_7.1 o_7.2.2.1  H _ ls hP hD  hS (lv_sub hl [1, 2, 0] rfl) hf
      · have hf := xf hf c_6
        refine lv_aload_n hx hb dX4_playOpen_33 rfl (lv_at hl 0 rfl) ?_
        refine lv_aload_n hx hb dX4_playOpen_34 rfl (lv_at hl 0 rfl) ?_
        refine va_get (D := X.1) (ci := 4) (v := .ref a_values) (C := RX4) (T := TX4) (N := 6) hx hb hts in4 hown hG.1 hP 0 rfl rfl 1 (by decide) w1 (fun _ h9 => h9) rfl dX4_playOpen_35 ?_
        refine lv_iload hx hb dX4_playOpen_38 (lv_at hl 3 rfl) ?_
        refine lv_iconst (v := (1 : Int32)) hx hb dX4_playOpen_40 (by decide) ?_
        refine lv_iadd hx hb dX4_playOpen_41 ?_
        obtain ⟨h_10, hf⟩ := gi_s hf
        refine va_iald (D := X.1) hx hb hG.1 hP 3 0 rfl rfl h_10 dX4_playOpen_42 ?_
        refine lv_aload_n hx hb dX4_playOpen_43 rfl (lv_at hl 0 rfl) ?_
        refine va_get (D := X.1) (ci := 4) (v := .ref a_values) (C := RX4) (T := TX4) (N := 6) hx hb hts in4 hown hG.1 hP 0 rfl rfl 1 (by decide) w1 (fun _ h9 => h9) rfl dX4_playOpen_44 ?_
        refine lv_iload hx hb dX4_playOpen_47 (lv_at hl 3 rfl) ?_
        refine lv_iconst (v := (1 : Int32)) hx hb dX4_playOpen_49 (by decide) ?_
        refine lv_isub hx hb dX4_playOpen_50 ?_
        obtain ⟨h_11, hf⟩ := gi_s hf
        refine va_iald (D := X.1) hx hb hG.1 hP 3 0 rfl rfl h_11 dX4_playOpen_51 ?_
        obtain ⟨o_12, ho_12, hf⟩ := ob_s hf
        refine xV_v (As := [.int (f_values (l4 + (1 : Int32)).toNatClampNeg), .int (f_values (l4 - (1 : Int32)).toNatClampNeg)]) (b := a_this) (rest := []) (ws2 := fun _ => [(a_this, .inr (4, [.ref a_notes, .ref a_values, .ref a_before, .int o_12.2.1, .int o_12.2.2, .int o_12.1])), (a_before, .inl (X.2.1 0, 49, .inl f_before)), (a_notes, .inr (5, [.ref a_notes_delays, .ref a_notes_margins, .ref a_notes_odds])), (a_values, .inl (X.2.1 0, 49, .inl f_values)), (a_notes_odds, .inl (X.2.1 0, 4, .inl f_notes_odds))]) hx hb hml hts hown hG hA hP hD rfl hS hl.1 (qX4_chooseOpen l X a_this a_notes a_notes_odds a_values a_before a_notes_delays a_notes_margins i_value i_zeroPushes i_onePushes f_notes_odds (f_values (l4 + (1 : Int32)).toNatClampNeg) (f_values (l4 - (1 : Int32)).toNatClampNeg) o_12 ho_12) (cwV (y := yX4_chooseOpen) 2 hts gX4_playOpen_X4_chooseOpen rfl rfl rfl hdvX4_chooseOpen ⟨Nat.le_of_ble_eq_true rfl, Nat.le_of_ble_eq_true rfl⟩) [0, 2, 4] [1, 3] [2, 0, 3, 1, 4] rfl rfl rfl rfl rfl rfl (fun _ => rfl) (ci := 4) rfl 0 rfl rfl rfl (Nat.le_of_ble_eq_true rfl) ⟨Nat.le_of_ble_eq_true rfl, Nat.le_of_ble_eq_true rfl⟩ dX4_playOpen_52 (fun u_13 H locs hP _ hS => ?_)
        refine lv_aload_n hx hb dX4_playOpen_55 rfl (lv_at hl 0 rfl) ?_
        refine va_get (D := X.1) (ci := 4) (v := .ref a_before) (C := RX4) (T := TX4) (N := 6) hx hb hts in4 hown hG.1 hP 0 rfl rfl 2 (by decide) w2 (fun _ h9 => h9) rfl dX4_playOpen_56 ?_
        refine lv_iload hx hb dX4_playOpen_59 (lv_at hl 3 rfl) ?_
        refine lv_aload_n hx hb dX4_playOpen_61 rfl (lv_at hl 0 rfl) ?_
        refine va_get (D := X.1) (ci := 4) (v := .int o_12.2.1) (C := RX4) (T := TX4) (N := 6) hx hb hts in4 hown hG.1 hP 0 rfl rfl 3 (by decide) w3 (fun _ h9 => h9) rfl dX4_playOpen_62 ?_
        obtain ⟨h_14, hf⟩ := gi_s hf
        obtain ⟨g_15, eg_15, hf⟩ := lb_g hf
        refine x_iast (ws' := [(a_this, .inr (4, [.ref a_notes, .ref a_values, .ref a_before, .int o_12.2.1, .int o_12.2.2, .int o_12.1])), (a_before, .inl (X.2.1 0, 49, .inl g_15)), (a_notes, .inr (5, [.ref a_notes_delays, .ref a_notes_margins, .ref a_notes_odds])), (a_values, .inl (X.2.1 0, 49, .inl f_values)), (a_notes_odds, .inl (X.2.1 0, 4, .inl f_notes_odds))]) hx hb hG hP hD rfl hS 1 rfl h_14 dX4_playOpen_65 eg_15 rfl (fun H locs hP hS => ?_)
        obtain ⟨v_16, ev_16, hf⟩ := lb_g hf
        refine lv_iinc (v := v_16) (lv' := [(4, .int v_16), (0, .ref a_this), (2, .int x1), (3, .int l3)]) hx hb dX4_playOpen_66 hl (k := 3) rfl ev_16.symm (by decide) rfl (fun ls hl => ?_)
        refine lv_goto (tgt := 22) hx hb dX4_playOpen_69 (by decide) ?_
        exact ih l3 v_16 f_values o_12.1 o_12.2.1 o_12.2.2 g_15 a_values a_before  H _ ls hP hD  hS (lv_sub hl [1, 2, 3, 0] rfl) hf
  have hL10 : ∀ (n : Nat) (l3 : Int32) (f_values : Nat → Int32) (i_onePushes : Int32) (i_value : Int32) (i_zeroPushes : Int32) (f_before : Nat → Int32) (a_values : Nat) (a_before : Nat)  (H : Heap) (locs : List Loc) (ls : Array Slot), va_P X.1 vwCl [(a_this, .inr (4, [.ref a_notes, .ref a_values, .ref a_before, .int i_value, .int i_zeroPushes, .int i_onePushes])), (a_before, .inl (X.2.1 0, 49, .inl f_before)), (a_notes, .inr (5, [.ref a_notes_delays, .ref a_notes_margins, .ref a_notes_odds])), (a_values, .inl (X.2.1 0, 49, .inl f_values)), (a_notes_odds, .inl (X.2.1 0, 4, .inl f_notes_odds))] H → aD A [a_this, a_before, a_notes, a_values, a_notes_odds] → va_S A s.heap H locs → lv_has ls 5 [(0, .ref a_this), (2, .int x1), (3, .int l3)] → mX4_playOpen_L10 x0 x1 f_notes_odds  n l3 f_values i_onePushes i_value i_zeroPushes f_before a_values a_before = some o → W p l e rmX4_playOpen s m ([.ref a_this, .int x0, .int x1] : List Value).toArray below meth c H locs 0 0 Q (F0 m 10 ls []) := by
    intro n
    induction n with
    | zero => intro l3 f_values i_onePushes i_value i_zeroPushes f_before a_values a_before  H locs ls hP hD hS hl hf; exact xn hf
    | succ n ih =>
      intro l3 f_values i_onePushes i_value i_zeroPushes f_before a_values a_before  H locs ls hP hD hS hl hf
      have hf : mX4_playOpen_B10 x0 x1 f_notes_odds  (mX4_playOpen_L10 x0 x1 f_notes_odds  n) l3 f_values i_onePushes i_value i_zeroPushes f_before a_values a_before = some o := hf
      generalize mX4_playOpen_L10 x0 x1 f_notes_odds  n = k10 at ih hf
      unfold mX4_playOpen_B10 at hf
      refine lv_iload_n hx hb dX4_playOpen_10 rfl (lv_at hl 2 rfl) ?_
      refine lv_if_lt (tgt := 82) hx hb dX4_playOpen_11 (by decide) (fun c_4 => ?_) (fun c_4 => ?_)
      · have hf := xt hf c_4
        obtain rfl := Option.some.inj hf
        exact ret (fun _ => 0) H _ ls _ hP hD hS dX4_playOpen_82
      · have hf := xf hf c_4
        refine lv_bipush (v := (24 : Int32)) hx hb dX4_playOpen_14 (by decide) ?_
        refine lv_iload_n hx hb dX4_playOpen_16 rfl (lv_at hl 1 rfl) ?_
        refine lv_iadd hx hb dX4_playOpen_17 ?_
        refine lv_iload_n hx hb dX4_playOpen_18 rfl (lv_at hl 2 rfl) ?_
        refine lv_isub hx hb dX4_playOpen_19 ?_
        refine lv_topi (fun v_5 ev_5 => ?_)
        have hf := lb_s hf ev_5
        refine lv_istore (lv' := [(4, .int v_5), (0, .ref a_this), (2, .int x1), (3, .int l3)]) hx hb dX4_playOpen_20 hl (by decide) rfl (fun ls hl => ?_)
        exact hL22 k10 ih FUEL l3 v_5 f_values i_onePushes i_value i_zeroPushes f_before a_values a_before  H _ ls hP hD  hS (lv_sub hl [1, 2, 3, 0] rfl) hf
  unfold mX4_playOpen at hf
  refine lv_aload_n hx hb dX4_playOpen_0 rfl (lv_at hl 0 rfl) ?_
  refine lv_iload_n hx hb dX4_playOpen_1 rfl (lv_at hl 1 rfl) ?_
  refine lv_iload_n hx hb dX4_playOpen_2 rfl (lv_at hl 2 rfl) ?_
  obtain ⟨o_1, ho_1, hf⟩ := ob_s hf
  refine xV_v (As := [.int x0, .int x1]) (b := a_this) (rest := []) (ws2 := fun _ => [(a_this, .inr (4, [.ref a_notes, .ref a_values, .ref a_before, .int i_value, .int i_zeroPushes, .int i_onePushes])), (a_before, .inl (X.2.1 0, 49, .inl f_before)), (a_notes, .inr (5, [.ref a_notes_delays, .ref a_notes_margins, .ref a_notes_odds])), (a_values, .inl (X.2.1 0, 49, .inl o_1)), (a_notes_odds, .inl (X.2.1 0, 4, .inl f_notes_odds))]) hx hb hml hts hown hG hA hP hD rfl hS hl.1 (qX4_setEnds l X a_this a_values a_notes a_before i_value i_zeroPushes i_onePushes f_values x0 x1 o_1 ho_1) (cwV (y := yX4_setEnds) 2 hts gX4_playOpen_X4_setEnds rfl rfl rfl hdvX4_setEnds ⟨Nat.le_of_ble_eq_true rfl, Nat.le_of_ble_eq_true rfl⟩) [0, 3] [1, 2, 4] [3, 0, 1, 4, 2] rfl rfl rfl rfl rfl rfl (fun _ => rfl) (ci := 4) rfl 0 rfl rfl rfl (Nat.le_of_ble_eq_true rfl) ⟨Nat.le_of_ble_eq_true rfl, Nat.le_of_ble_eq_true rfl⟩ dX4_playOpen_3 (fun u_2 H locs hP _ hS => ?_)
  refine lv_iload_n hx hb dX4_playOpen_6 rfl (lv_at hl 1 rfl) ?_
  refine lv_iconst (v := (1 : Int32)) hx hb dX4_playOpen_7 (by decide) ?_
  refine lv_isub hx hb dX4_playOpen_8 ?_
  refine lv_topi (fun v_3 ev_3 => ?_)
  have hf := lb_s hf ev_3
  refine lv_istore_n (lv' := [(3, .int v_3), (0, .ref a_this), (1, .int x0), (2, .int x1)]) hx hb dX4_playOpen_9 rfl hl (by decide) rfl (fun ls hl => ?_)
  exact hL10  FUEL v_3 o_1 i_onePushes i_value i_zeroPushes f_before a_values a_before  H _ ls hP hD  hS (lv_sub hl [1, 3, 0] rfl) hf
def mX4_fixedValue_B25 (x0 : Int32) (x1 : Int32) (x2 : Int32) (k11 : Int32 → (Nat → Int32) → (Nat → Int32) → Nat → Nat → Option (Int32 × (Nat → Int32) × (Nat → Int32) × Nat × Nat)) (k25 : Int32 → Int32 → (Nat → Int32) → (Nat → Int32) → Nat → Nat → Option (Int32 × (Nat → Int32) × (Nat → Int32) × Nat × Nat)) (l4 : Int32) (l5 : Int32) (f_values : Nat → Int32) (f_before : Nat → Int32) (a_values : Nat) (a_before : Nat) :
  Option (Int32 × (Nat → Int32) × (Nat → Int32) × Nat × Nat) :=
  if (((24 : Int32) + x1) + l4) < l5 then ((mX4_stepBack f_before f_values a_values a_before).bind fun o_9 =>
  lb (l4 + (-1 : Int32)) fun v_11 =>
  k11 v_11 o_9.2.1 o_9.2.2.2 o_9.1 o_9.2.2.1) else (gi (l5 + (1 : Int32)) 49 <|
  gi (l5 - (1 : Int32)) 49 <|
  (mX4_roundValue x2 (f_values (l5 + (1 : Int32)).toNatClampNeg) (f_values (l5 - (1 : Int32)).toNatClampNeg)).bind fun o_14 =>
  gi l5 49 <|
  lb (upd f_before l5.toNatClampNeg o_14) fun g_17 =>
  lb (l5 + (1 : Int32)) fun v_18 =>
  k25 l4 v_18 f_values g_17 a_values a_before)
def mX4_fixedValue_L25 (x0 : Int32) (x1 : Int32) (x2 : Int32) (k11 : Int32 → (Nat → Int32) → (Nat → Int32) → Nat → Nat → Option (Int32 × (Nat → Int32) × (Nat → Int32) × Nat × Nat)) (n : Nat) (l4 : Int32) (l5 : Int32) (f_values : Nat → Int32) (f_before : Nat → Int32) (a_values : Nat) (a_before : Nat) :
  Option (Int32 × (Nat → Int32) × (Nat → Int32) × Nat × Nat) :=
  loopN (fun k (s : Int32 × Int32 × (Nat → Int32) × (Nat → Int32) × Nat × Nat) => mX4_fixedValue_B25 x0 x1 x2 k11 (fun l4 l5 f_values f_before a_values a_before => k (l4, l5, f_values, f_before, a_values, a_before)) s.1 s.2.1 s.2.2.1 s.2.2.2.1 s.2.2.2.2.1 s.2.2.2.2.2) n (l4, l5, f_values, f_before, a_values, a_before)
def mX4_fixedValue_B11 (x0 : Int32) (x1 : Int32) (x2 : Int32) (k11 : Int32 → (Nat → Int32) → (Nat → Int32) → Nat → Nat → Option (Int32 × (Nat → Int32) × (Nat → Int32) × Nat × Nat)) (l4 : Int32) (f_values : Nat → Int32) (f_before : Nat → Int32) (a_values : Nat) (a_before : Nat) :
  Option (Int32 × (Nat → Int32) × (Nat → Int32) × Nat × Nat) :=
  if l4 < 0 then (gi ((24 : Int32) + x1) 49 <|
  lb (f_values ((24 : Int32) + x1).toNatClampNeg) fun v_6 =>
  some (v_6, f_values, f_before, a_values, a_before)) else (lb (((24 : Int32) + x1) - l4) fun v_7 =>
  mX4_fixedValue_L25 x0 x1 x2 k11 FUEL l4 v_7 f_values f_before a_values a_before)
def mX4_fixedValue_L11 (x0 : Int32) (x1 : Int32) (x2 : Int32) (n : Nat) (l4 : Int32) (f_values : Nat → Int32) (f_before : Nat → Int32) (a_values : Nat) (a_before : Nat) :
  Option (Int32 × (Nat → Int32) × (Nat → Int32) × Nat × Nat) :=
  loopN (fun k (s : Int32 × (Nat → Int32) × (Nat → Int32) × Nat × Nat) => mX4_fixedValue_B11 x0 x1 x2  (fun l4 f_values f_before a_values a_before => k (l4, f_values, f_before, a_values, a_before)) s.1 s.2.1 s.2.2.1 s.2.2.2.1 s.2.2.2.2) n (l4, f_values, f_before, a_values, a_before)
def mX4_fixedValue (x0 : Int32) (x1 : Int32) (x2 : Int32) (f_before : Nat → Int32) (f_values : Nat → Int32) (a_values : Nat) (a_before : Nat) :
  Option (Int32 × (Nat → Int32) × (Nat → Int32) × Nat × Nat) :=
  (mX4_setEnds x0 x1 f_values).bind fun o_1 =>
  lb (x0 - (1 : Int32)) fun v_3 =>
  mX4_fixedValue_L11 x0 x1 x2  FUEL v_3 o_1 f_before a_values a_before
theorem hdsX4_fixedValue : yX4_fixedValue.cls ≠ "java/lang/invoke/MethodHandle" ∧ yX4_fixedValue.cls ≠ "java/lang/invoke/VarHandle" ∧ (parseMethodDescriptor yX4_fixedValue.desc).map (fun d => d.parameters.length) = some 3 := by decide +kernel
theorem hdvX4_fixedValue : yX4_fixedValue.cls = RX4 ∧ yX4_fixedValue.cls ≠ "java/lang/invoke/MethodHandle" ∧ yX4_fixedValue.cls ≠ "java/lang/invoke/VarHandle" ∧ (parseMethodDescriptor yX4_fixedValue.desc).map (fun d => d.parameters.length) = some 3 := by decide +kernel
abbrev rmX4_fixedValue : Room := { frames := 1, cells := 0, slots := 0, locals := 23 }
set_option maxHeartbeats 4000000 in
set_option maxRecDepth 100000 in
theorem qX4_fixedValue (l : Launch) (X : XT) (a_this : Nat) (a_before : Nat) (a_values : Nat) (a_notes : Nat)  (i_value : Int32) (i_zeroPushes : Int32) (i_onePushes : Int32) (f_before : Nat → Int32) (f_values : Nat → Int32) (x0 : Int32) (x1 : Int32) (x2 : Int32) (o : Int32 × (Nat → Int32) × (Nat → Int32) × Nat × Nat) (hf : mX4_fixedValue x0 x1 x2 f_before f_values a_values a_before = some o) :
    MI l yX4_fixedValue wsX4_fixedValue rmX4_fixedValue X [.ref a_this, .int x0, .int x1, .int x2] [(a_this, .inr (4, [.ref a_notes, .ref a_values, .ref a_before, .int i_value, .int i_zeroPushes, .int i_onePushes])), (a_before, .inl (X.2.1 0, 49, .inl f_before)), (a_values, .inl (X.2.1 0, 49, .inl f_values))]  [(a_this, .inr (4, [.ref a_notes, .ref o.2.2.2.1, .ref o.2.2.2.2, .int i_value, .int i_zeroPushes, .int i_onePushes])), (o.2.2.2.2, .inl (X.2.1 0, 49, .inl o.2.2.1)), (o.2.2.2.1, .inl (X.2.1 0, 49, .inl o.2.1))] o.1 := by
  refine MI_ofH (cc := cX4_fixedValue) (maxL := 6) (rt := .int) (by decide) rfl (Nat.le_of_ble_eq_true rfl) ?_
  intro p e s m below meth c A Q H ls hx hb hml hts hown hA hD hG hP hS hl ret
  have hown : s.vm.findClass RX4 = some m.cls := hown
  have hD : aD A [a_this, a_before, a_values] := hD
  have hl : lv_has ls 6 [(0, .ref a_this), (1, .int x0), (2, .int x1), (3, .int x2)] := hl
  have w1 := hts (.fieldLink RX4 13 "ThreeCards$Game" "before" "[I") (List.mem_of_getElem? (i := 1) rfl)
  have w2 := hts (.fieldLink RX4 9 "ThreeCards$Game" "values" "[I") (List.mem_of_getElem? (i := 2) rfl)
  have in4 : ∀ w ∈ u_ws RX4 TX4 6, w ∈ wsX4_fixedValue := by decide +kernel
  have hL25 : ∀ (k11 : Int32 → (Nat → Int32) → (Nat → Int32) → Nat → Nat → Option (Int32 × (Nat → Int32) × (Nat → Int32) × Nat × Nat)) (hk11 : ∀ (l4 : Int32) (f_values : Nat → Int32) (f_before : Nat → Int32) (a_values : Nat) (a_before : Nat)  (H : Heap) (locs : List Loc) (ls : Array Slot), va_P X.1 vwCl [(a_this, .inr (4, [.ref a_notes, .ref a_values, .ref a_before, .int i_value, .int i_zeroPushes, .int i_onePushes])), (a_before, .inl (X.2.1 0, 49, .inl f_before)), (a_values, .inl (X.2.1 0, 49, .inl f_values))] H → aD A [a_this, a_before, a_values] → va_S A s.heap H locs → lv_has ls 6 [(0, .ref a_this), (2, .int x1), (3, .int x2), (4, .int l4)] → k11 l4 f_values f_before a_values a_before = some o → W p l e rmX4_fixedValue s m ([.ref a_this, .int x0, .int x1, .int x2] : List Value).toArray below meth c H locs 0 0 Q (F0 m 11 ls [])) (n : Nat) (l4 : Int32) (l5 : Int32) (f_values : Nat → Int32) (f_before : Nat → Int32) (a_values : Nat) (a_before : Nat)  (H : Heap) (locs : List Loc) (ls : Array Slot), va_P X.1 vwCl [(a_this, .inr (4, [.ref a_notes, .ref a_values, .ref a_before, .int i_value, .int i_zeroPushes, .int i_onePushes])), (a_before, .inl (X.2.1 0, 49, .inl f_before)), (a_values, .inl (X.2.1 0, 49, .inl f_values))] H → aD A [a_this, a_before, a_values] → va_S A s.heap H locs → lv_has ls 6 [(0, .ref a_this), (2, .int x1), (3, .int x2), (4, .int l4), (5, .int l5)] → mX4_fixedValue_L25 x0 x1 x2 k11 n l4 l5 f_values f_before a_values a_before = some o → W p l e rmX4_fixedValue s m ([.ref a_this, .int x0, .int x1, .int x2] : List Value).toArray below meth c H locs 0 0 Q (F0 m 25 ls []) := by
    intro k11 hk11 n
    induction n with
    | zero => intro l4 l5 f_values f_before a_values a_before  H locs ls hP hD hS hl hf; exact xn hf
    | succ n ih =>
      intro l4 l5 f_values f_before a_values a_before  H locs ls hP hD hS hl hf
      have hf : mX4_fixedValue_B25 x0 x1 x2 k11 (mX4_fixedValue_L25 x0 x1 x2 k11 n) l4 l5 f_values f_before a_values a_before = some o := hf
      generalize mX4_fixedValue_L25 x0 x1 x2 k11 n = k25 at ih hf
      unfold mX4_fixedValue_B25 at hf
      refine lv_iload hx hb dX4_fixedValue_25 (lv_at hl 4 rfl) ?_
      refine lv_bipush (v := (24 : Int32)) hx hb dX4_fixedValue_27 (by decide) ?_
      refine lv_iload_n hx hb dX4_fixedValue_29 rfl (lv_at hl 1 rfl) ?_
      refine lv_iadd hx hb dX4_fixedValue_30 ?_
      refine lv_iload hx hb dX4_fixedValue_31 (lv_at hl 3 rfl) ?_
      refine lv_iadd hx hb dX4_fixedValue_33 ?_
      refine lv_icmp_gt (tgt := 72) hx hb dX4_fixedValue_34 (by decide) (fun c_8 => ?_) (fun c_8 => ?_)
      · have hf := xt hf c_8
        refine lv_aload_n hx hb dX4_fixedValue_72 rfl (lv_at hl 0 rfl) ?_
        obtain ⟨o_9, ho_9, hf⟩ := ob_s hf
        refine xV_v (As := []) (b := a_this) (rest := []) (ws2 := fun _ => [(a_this, .inr (4, [.ref a_notes, .ref o_9.1, .ref o_9.2.2.1, .int i_value, .int i_zeroPushes, .int i_onePushes])), (o_9.2.2.1, .inl (X.2.1 0, 49, .inl o_9.2.2.2)), (o_9.1, .inl (X.2.1 0, 49, .inl o_9.2.1))]) hx hb hml hts hown hG hA hP hD rfl hS hl.1 (qX4_stepBack l X a_this a_before a_values a_notes i_value i_zeroPushes i_onePushes f_before f_values o_9 ho_9) (cwV (y := yX4_stepBack) 0 hts gX4_fixedValue_X4_stepBack rfl rfl rfl hdvX4_stepBack ⟨Nat.le_of_ble_eq_true rfl, Nat.le_of_ble_eq_true rfl⟩) [0, 1, 2] [] [0, 1, 2] rfl rfl rfl rfl rfl rfl (fun _ => rfl) (ci := 4) rfl 0 rfl rfl rfl (Nat.le_of_ble_eq_true rfl) ⟨Nat.le_of_ble_eq_true rfl, Nat.le_of_ble_eq_true rfl⟩ dX4_fixedValue_73 (fun u_10 H locs hP hD hS => ?_)
        have hD : aD A [a_this, o_9.2.2.1, o_9.1] := hD
        obtain ⟨v_11, ev_11, hf⟩ := lb_g hf
        refine lv_iinc (v := v_11) (lv' := [(4, .int v_11), (0, .ref a_this), (2, .int x1), (3, .int x2), (5, .int l5)]) hx hb dX4_fixedValue_76 hl (k := 3) rfl ev_11.symm (by decide) rfl (fun ls hl => ?_)
        refine lv_goto (tgt := 11) hx hb dX4_fixedValue_79 (by decide) ?_
        exact hk11 v_11 o_9.2.1 o_9.2.2.2 o_9.1 o_9.2.2.1  H _ ls hP hD  hS (lv_sub hl [1, 2, 3, 0] rfl) hf
      · have hf := xf hf c_8
        refine lv_aload_n hx hb dX4_fixedValue_37 rfl (lv_at hl 0 rfl) ?_
        refine va_get (D := X.1) (ci := 4) (v := .ref a_before) (C := RX4) (T := TX4) (N := 6) hx hb hts in4 hown hG.1 hP 0 rfl rfl 2 (by decide) w1 (fun _ h9 => h9) rfl dX4_fixedValue_38 ?_
        refine lv_iload hx hb dX4_fixedValue_41 (lv_at hl 4 rfl) ?_
        refine lv_iload_n hx hb dX4_fixedValue_43 rfl (lv_at hl 2 rfl) ?_
        refine lv_aload_n hx hb dX4_fixedValue_44 rfl (lv_at hl 0 rfl) ?_
        refine va_get (D := X.1) (ci := 4) (v := .ref a_values) (C := RX4) (T := TX4) (N := 6) hx hb hts in4 hown hG.1 hP 0 rfl rfl 1 (by decide) w2 (fun _ h9 => h9) rfl dX4_fixedValue_45 ?_
        refine lv_iload hx hb dX4_fixedValue_48 (lv_at hl 4 rfl) ?_
        refine lv_iconst (v := (1 : Int32)) hx hb dX4_fixedValue_50 (by decide) ?_
        refine lv_iadd hx hb dX4_fixedValue_51 ?_
        obtain ⟨h_12, hf⟩ := gi_s hf
        refine va_iald (D := X.1) hx hb hG.1 hP 2 0 rfl rfl h_12 dX4_fixedValue_52 ?_
        refine lv_aload_n hx hb dX4_fixedValue_53 rfl (lv_at hl 0 rfl) ?_
        refine va_get (D := X.1) (ci := 4) (v := .ref a_values) (C := RX4) (T := TX4) (N := 6) hx hb hts in4 hown hG.1 hP 0 rfl rfl 1 (by decide) w2 (fun _ h9 => h9) rfl dX4_fixedValue_54 ?_
        refine lv_iload hx hb dX4_fixedValue_57 (lv_at hl 4 rfl) ?_
        refine lv_iconst (v := (1 : Int32)) hx hb dX4_fixedValue_59 (by decide) ?_
        refine lv_isub hx hb dX4_fixedValue_60 ?_
        obtain ⟨h_13, hf⟩ := gi_s hf
        refine va_iald (D := X.1) hx hb hG.1 hP 2 0 rfl rfl h_13 dX4_fixedValue_61 ?_
        obtain ⟨o_14, ho_14, hf⟩ := ob_s hf
        refine xS_i (As := [.int x2, .int (f_values (l5 + (1 : Int32)).toNatClampNeg), .int (f_values (l5 - (1 : Int32)).toNatClampNeg)]) (rest := [.int l5, .ref a_before]) (ws2 := [(a_this, .inr (4, [.ref a_notes, .ref a_values, .ref a_before, .int i_value, .int i_zeroPushes, .int i_onePushes])), (a_before, .inl (X.2.1 0, 49, .inl f_before)), (a_values, .inl (X.2.1 0, 49, .inl f_values))]) hx hb hml hts hown hG hA hP hD rfl hS hl.1 (qX4_roundValue l X x2 (f_values (l5 + (1 : Int32)).toNatClampNeg) (f_values (l5 - (1 : Int32)).toNatClampNeg) o_14 ho_14) (va_cwS (y := yX4_roundValue) 3 hts gX4_fixedValue_X4_roundValue rfl rfl rfl hdsX4_roundValue ⟨Nat.le_of_ble_eq_true rfl, Nat.le_of_ble_eq_true rfl⟩) [] [0, 1, 2] [0, 1, 2] rfl rfl rfl rfl rfl rfl rfl rfl rfl (Nat.le_of_ble_eq_true rfl) ⟨Nat.le_of_ble_eq_true rfl, Nat.le_of_ble_eq_true rfl⟩ dX4_fixedValue_62 (fun H locs hP _ hS => ?_)
        obtain ⟨h_16, hf⟩ := gi_s hf
        obtain ⟨g_17, eg_17, hf⟩ := lb_g hf
        refine x_iast (ws' := [(a_this, .inr (4, [.ref a_notes, .ref a_values, .ref a_before, .int i_value, .int i_zeroPushes, .int i_onePushes])), (a_before, .inl (X.2.1 0, 49, .inl g_17)), (a_values, .inl (X.2.1 0, 49, .inl f_values))]) hx hb hG hP hD rfl hS 1 rfl h_16 dX4_fixedValue_65 eg_17 rfl (fun H locs hP hS => ?_)
        obtain ⟨v_18, ev_18, hf⟩ := lb_g hf
        refine lv_iinc (v := v_18) (lv' := [(5, .int v_18), (0, .ref a_this), (2, .int x1), (3, .int x2), (4, .int l4)]) hx hb dX4_fixedValue_66 hl (k := 4) rfl ev_18.symm (by decide) rfl (fun ls hl => ?_)
        refine lv_goto (tgt := 25) hx hb dX4_fixedValue_69 (by decide) ?_
        exact ih l4 v_18 f_values g_17 a_values a_before  H _ ls hP hD  hS (lv_sub hl [1, 2, 3, 4, 0] rfl) hf
  have hL11 : ∀ (n : Nat) (l4 : Int32) (f_values : Nat → Int32) (f_before : Nat → Int32) (a_values : Nat) (a_before : Nat)  (H : Heap) (locs : List Loc) (ls : Array Slot), va_P X.1 vwCl [(a_this, .inr (4, [.ref a_notes, .ref a_values, .ref a_before, .int i_value, .int i_zeroPushes, .int i_onePushes])), (a_before, .inl (X.2.1 0, 49, .inl f_before)), (a_values, .inl (X.2.1 0, 49, .inl f_values))] H → aD A [a_this, a_before, a_values] → va_S A s.heap H locs → lv_has ls 6 [(0, .ref a_this), (2, .int x1), (3, .int x2), (4, .int l4)] → mX4_fixedValue_L11 x0 x1 x2  n l4 f_values f_before a_values a_before = some o → W p l e rmX4_fixedValue s m ([.ref a_this, .int x0, .int x1, .int x2] : List Value).toArray below meth c H locs 0 0 Q (F0 m 11 ls []) := by
    intro n
    induction n with
    | zero => intro l4 f_values f_before a_values a_before  H locs ls hP hD hS hl hf; exact xn hf
    | succ n ih =>
      intro l4 f_values f_before a_values a_before  H locs ls hP hD hS hl hf
      have hf : mX4_fixedValue_B11 x0 x1 x2  (mX4_fixedValue_L11 x0 x1 x2  n) l4 f_values f_before a_values a_before = some o := hf
      generalize mX4_fixedValue_L11 x0 x1 x2  n = k11 at ih hf
      unfold mX4_fixedValue_B11 at hf
      refine lv_iload hx hb dX4_fixedValue_11 (lv_at hl 3 rfl) ?_
      refine lv_if_lt (tgt := 82) hx hb dX4_fixedValue_13 (by decide) (fun c_4 => ?_) (fun c_4 => ?_)
      · have hf := xt hf c_4
        refine lv_aload_n hx hb dX4_fixedValue_82 rfl (lv_at hl 0 rfl) ?_
        refine va_get (D := X.1) (ci := 4) (v := .ref a_values) (C := RX4) (T := TX4) (N := 6) hx hb hts in4 hown hG.1 hP 0 rfl rfl 1 (by decide) w2 (fun _ h9 => h9) rfl dX4_fixedValue_83 ?_
        refine lv_bipush (v := (24 : Int32)) hx hb dX4_fixedValue_86 (by decide) ?_
        refine lv_iload_n hx hb dX4_fixedValue_88 rfl (lv_at hl 1 rfl) ?_
        refine lv_iadd hx hb dX4_fixedValue_89 ?_
        obtain ⟨h_5, hf⟩ := gi_s hf
        refine va_iald (D := X.1) hx hb hG.1 hP 2 0 rfl rfl h_5 dX4_fixedValue_90 ?_
        refine lv_topi (fun v_6 ev_6 => ?_)
        have hf := lb_s hf ev_6
        obtain rfl := Option.some.inj hf
        exact ret H _ ls _ rfl hP hD hS dX4_fixedValue_91
      · have hf := xf hf c_4
        refine lv_bipush (v := (24 : Int32)) hx hb dX4_fixedValue_16 (by decide) ?_
        refine lv_iload_n hx hb dX4_fixedValue_18 rfl (lv_at hl 1 rfl) ?_
        refine lv_iadd hx hb dX4_fixedValue_19 ?_
        refine lv_iload hx hb dX4_fixedValue_20 (lv_at hl 3 rfl) ?_
        refine lv_isub hx hb dX4_fixedValue_22 ?_
        refine lv_topi (fun v_7 ev_7 => ?_)
        have hf := lb_s hf ev_7
        refine lv_istore (lv' := [(5, .int v_7), (0, .ref a_this), (2, .int x1), (3, .int x2), (4, .int l4)]) hx hb dX4_fixedValue_23 hl (by decide) rfl (fun ls hl => ?_)
        exact hL25 k11 ih FUEL l4 v_7 f_values f_before a_values a_before  H _ ls hP hD  hS (lv_sub hl [1, 2, 3, 4, 0] rfl) hf
  unfold mX4_fixedValue at hf
  refine lv_aload_n hx hb dX4_fixedValue_0 rfl (lv_at hl 0 rfl) ?_
  refine lv_iload_n hx hb dX4_fixedValue_1 rfl (lv_at hl 1 rfl) ?_
  refine lv_iload_n hx hb dX4_fixedValue_2 rfl (lv_at hl 2 rfl) ?_
  obtain ⟨o_1, ho_1, hf⟩ := ob_s hf
  refine xV_v (As := [.int x0, .int x1]) (b := a_this) (rest := []) (ws2 := fun _ => [(a_this, .inr (4, [.ref a_notes, .ref a_values, .ref a_before, .int i_value, .int i_zeroPushes, .int i_onePushes])), (a_before, .inl (X.2.1 0, 49, .inl f_before)), (a_values, .inl (X.2.1 0, 49, .inl o_1))]) hx hb hml hts hown hG hA hP hD rfl hS hl.1 (qX4_setEnds l X a_this a_values a_notes a_before i_value i_zeroPushes i_onePushes f_values x0 x1 o_1 ho_1) (cwV (y := yX4_setEnds) 2 hts gX4_fixedValue_X4_setEnds rfl rfl rfl hdvX4_setEnds ⟨Nat.le_of_ble_eq_true rfl, Nat.le_of_ble_eq_true rfl⟩) [0, 2] [1] [1, 0, 2] rfl rfl rfl rfl rfl rfl (fun _ => rfl) (ci := 4) rfl 0 rfl rfl rfl (Nat.le_of_ble_eq_true rfl) ⟨Nat.le_of_ble_eq_true rfl, Nat.le_of_ble_eq_true rfl⟩ dX4_fixedValue_3 (fun u_2 H locs hP _ hS => ?_)
  refine lv_iload_n hx hb dX4_fixedValue_6 rfl (lv_at hl 1 rfl) ?_
  refine lv_iconst (v := (1 : Int32)) hx hb dX4_fixedValue_7 (by decide) ?_
  refine lv_isub hx hb dX4_fixedValue_8 ?_
  refine lv_topi (fun v_3 ev_3 => ?_)
  have hf := lb_s hf ev_3
  refine lv_istore (lv' := [(4, .int v_3), (0, .ref a_this), (1, .int x0), (2, .int x1), (3, .int x2)]) hx hb dX4_fixedValue_9 hl (by decide) rfl (fun ls hl => ?_)
  exact hL11  FUEL v_3 o_1 f_before a_values a_before  H _ ls hP hD  hS (lv_sub hl [1, 3, 4, 0] rfl) hf
def mX4_playHidden (x0 : Int32) (x1 : Int32) (i_value : Int32) (i_zeroPushes : Int32) (i_onePushes : Int32) (f_before : Nat → Int32) (f_values : Nat → Int32) (f_notes_odds : Nat → Int32) (a_values : Nat) (a_before : Nat) :
  Option ((Nat → Int32) × (Nat → Int32) × Nat × Nat × Int32 × Int32 × Int32) :=
  (mX5_tenthsOf (0 : Int32) (0 : Int32) f_notes_odds).bind fun o_1 =>
  (mX4_fixedValue x0 x1 o_1 f_before f_values a_values a_before).bind fun o_3 =>
  (mX5_tenthsOf (0 : Int32) (1 : Int32) f_notes_odds).bind fun o_5 =>
  (mX4_fixedValue x0 x1 o_5 o_3.2.2.1 o_3.2.1 o_3.2.2.2.1 o_3.2.2.2.2).bind fun o_7 =>
  (mX4_answer o_3.1 o_7.1 i_value i_onePushes).bind fun o_9 =>
  (mX5_tenthsOf (1 : Int32) (0 : Int32) f_notes_odds).bind fun o_11 =>
  (mX4_fixedValue x0 x1 o_11 o_7.2.2.1 o_7.2.1 o_7.2.2.2.1 o_7.2.2.2.2).bind fun o_13 =>
  (mX5_tenthsOf (1 : Int32) (1 : Int32) f_notes_odds).bind fun o_15 =>
  (mX4_fixedValue x0 x1 o_15 o_13.2.2.1 o_13.2.1 o_13.2.2.2.1 o_13.2.2.2.2).bind fun o_17 =>
  (mX4_answer o_13.1 o_17.1 o_9.2 o_9.1).bind fun o_19 =>
  (mX4_preferHeld o_9.2 o_9.1 o_19.2 i_zeroPushes o_19.1).bind fun o_21 =>
  some (o_17.2.1, o_17.2.2.1, o_17.2.2.2.1, o_17.2.2.2.2, o_21.2.1, o_21.2.2, o_21.1)
theorem hdsX4_playHidden : yX4_playHidden.cls ≠ "java/lang/invoke/MethodHandle" ∧ yX4_playHidden.cls ≠ "java/lang/invoke/VarHandle" ∧ (parseMethodDescriptor yX4_playHidden.desc).map (fun d => d.parameters.length) = some 2 := by decide +kernel
theorem hdvX4_playHidden : yX4_playHidden.cls = RX4 ∧ yX4_playHidden.cls ≠ "java/lang/invoke/MethodHandle" ∧ yX4_playHidden.cls ≠ "java/lang/invoke/VarHandle" ∧ (parseMethodDescriptor yX4_playHidden.desc).map (fun d => d.parameters.length) = some 2 := by decide +kernel
abbrev rmX4_playHidden : Room := { frames := 2, cells := 0, slots := 0, locals := 48 }
set_option maxHeartbeats 4000000 in
set_option maxRecDepth 100000 in
theorem qX4_playHidden (l : Launch) (X : XT) (a_this : Nat) (a_before : Nat) (a_notes : Nat) (a_values : Nat) (a_notes_odds : Nat) (a_notes_delays : Nat) (a_notes_margins : Nat)  (i_value : Int32) (i_zeroPushes : Int32) (i_onePushes : Int32) (f_before : Nat → Int32) (f_values : Nat → Int32) (f_notes_odds : Nat → Int32) (x0 : Int32) (x1 : Int32) (o : (Nat → Int32) × (Nat → Int32) × Nat × Nat × Int32 × Int32 × Int32) (hf : mX4_playHidden x0 x1 i_value i_zeroPushes i_onePushes f_before f_values f_notes_odds a_values a_before = some o) :
    MC l yX4_playHidden wsX4_playHidden rmX4_playHidden X [.ref a_this, .int x0, .int x1] [(a_this, .inr (4, [.ref a_notes, .ref a_values, .ref a_before, .int i_value, .int i_zeroPushes, .int i_onePushes])), (a_before, .inl (X.2.1 0, 49, .inl f_before)), (a_notes, .inr (5, [.ref a_notes_delays, .ref a_notes_margins, .ref a_notes_odds])), (a_values, .inl (X.2.1 0, 49, .inl f_values)), (a_notes_odds, .inl (X.2.1 0, 4, .inl f_notes_odds))]  (fun _ => [(a_this, .inr (4, [.ref a_notes, .ref o.2.2.1, .ref o.2.2.2.1, .int o.2.2.2.2.2.1, .int o.2.2.2.2.2.2, .int o.2.2.2.2.1])), (o.2.2.2.1, .inl (X.2.1 0, 49, .inl o.2.1)), (a_notes, .inr (5, [.ref a_notes_delays, .ref a_notes_margins, .ref a_notes_odds])), (o.2.2.1, .inl (X.2.1 0, 49, .inl o.1)), (a_notes_odds, .inl (X.2.1 0, 4, .inl f_notes_odds))]) 0 0 := by
  refine MC_ofH (cc := cX4_playHidden) (maxL := 5) (by decide) rfl (Nat.le_of_ble_eq_true rfl) ?_
  intro p e s m below meth c A Q H ls hx hb hml hts hown hin hA hD hG hP hS hl ret
  have hown : s.vm.findClass RX4 = some m.cls := hown
  have hD : aD A [a_this, a_before, a_notes, a_values, a_notes_odds] := hD
  have hl : lv_has ls 5 [(0, .ref a_this), (1, .int x0), (2, .int x1)] := hl
  have w1 := hts (Cond.fieldLink RX4 26 "ThreeCards$Game" "notes" "LThreeCards$Notes;") (List.mem_of_getElem? (i := 1) rfl)
  have w2 := hts (Cond.fieldLink RX4 16 "ThreeCards$Game" "value" "I") (List.mem_of_getElem? (i := 2) rfl)
  have w3 := hts (Cond.fieldLink RX4 23 "ThreeCards$Game" "onePushes" "I") (List.mem_of_getElem? (i := 3) rfl)
  have in4 : ∀ w ∈ u_ws RX4 TX4 6, w ∈ wsX4_playHidden := by decide +kernel
  unfold mX4_playHidden at hf
  refine lv_aload_n hx hb dX4_playHidden_0 rfl (lv_at hl 0 rfl) ?_
  refine lv_aload_n hx hb dX4_playHidden_1 rfl (lv_at hl 0 rfl) ?_
  refine lv_iload_n hx hb dX4_playHidden_2 rfl (lv_at hl 1 rfl) ?_
  refine lv_iload_n hx hb dX4_playHidden_3 rfl (lv_at hl 2 rfl) ?_
  refine lv_aload_n hx hb dX4_playHidden_4 rfl (lv_at hl 0 rfl) ?_
  refine va_get (D := X.1) (ci := 4) (v := .ref a_notes) (C := RX4) (T := TX4) (N := 6) hx hb hts in4 hown hG.1 hP 0 rfl rfl 0 (by decide) w1 (fun _ h9 => h9) rfl dX4_playHidden_5 ?_
  refine lv_iconst (v := (0 : Int32)) hx hb dX4_playHidden_8 (by decide) ?_
  refine lv_iconst (v := (0 : Int32)) hx hb dX4_playHidden_9 (by decide) ?_
  obtain ⟨o_1, ho_1, hf⟩ := ob_s hf
  refine xV_i (As := [.int (0 : Int32), .int (0 : Int32)]) (b := a_notes) (rest := [.int x1, .int x0, .ref a_this, .ref a_this]) (ws2 := [(a_this, .inr (4, [.ref a_notes, .ref a_values, .ref a_before, .int i_value, .int i_zeroPushes, .int i_onePushes])), (a_before, .inl (X.2.1 0, 49, .inl f_before)), (a_notes, .inr (5, [.ref a_notes_delays, .ref a_notes_margins, .ref a_notes_odds])), (a_values, .inl (X.2.1 0, 49, .inl f_values)), (a_notes_odds, .inl (X.2.1 0, 4, .inl f_notes_odds))]) hx hb hml hts hown hG hA hP hD rfl hS hl.1 (qX5_tenthsOf l X a_notes a_notes_odds a_notes_delays a_notes_margins f_notes_odds (0 : Int32) (0 : Int32) o_1 ho_1) (cwV (y := yX5_tenthsOf) 2 hts gX4_playHidden_X5_tenthsOf rfl rfl rfl hdvX5_tenthsOf ⟨Nat.le_of_ble_eq_true rfl, Nat.le_of_ble_eq_true rfl⟩) [2, 4] [0, 1, 3] [0, 1, 3, 2, 4] rfl rfl rfl rfl rfl rfl rfl (ci := 5) rfl 2 rfl rfl rfl (Nat.le_of_ble_eq_true rfl) ⟨Nat.le_of_ble_eq_true rfl, Nat.le_of_ble_eq_true rfl⟩ dX4_playHidden_10 (fun H locs hP _ hS => ?_)
  obtain ⟨o_3, ho_3, hf⟩ := ob_s hf
  refine xV_i (As := [.int x0, .int x1, .int o_1]) (b := a_this) (rest := [.ref a_this]) (ws2 := [(a_this, .inr (4, [.ref a_notes, .ref o_3.2.2.2.1, .ref o_3.2.2.2.2, .int i_value, .int i_zeroPushes, .int i_onePushes])), (o_3.2.2.2.2, .inl (X.2.1 0, 49, .inl o_3.2.2.1)), (a_notes, .inr (5, [.ref a_notes_delays, .ref a_notes_margins, .ref a_notes_odds])), (o_3.2.2.2.1, .inl (X.2.1 0, 49, .inl o_3.2.1)), (a_notes_odds, .inl (X.2.1 0, 4, .inl f_notes_odds))]) hx hb hml hts hown hG hA hP hD rfl hS hl.1 (qX4_fixedValue l X a_this a_before a_values a_notes i_value i_zeroPushes i_onePushes f_before f_values x0 x1 o_1 o_3 ho_3) (cwV (y := yX4_fixedValue) 3 hts gX4_playHidden_X4_fixedValue rfl rfl rfl hdvX4_fixedValue ⟨Nat.le_of_ble_eq_true rfl, Nat.le_of_ble_eq_true rfl⟩) [0, 1, 3] [2, 4] [2, 3, 0, 4, 1] rfl rfl rfl rfl rfl rfl rfl (ci := 4) rfl 0 rfl rfl rfl (Nat.le_of_ble_eq_true rfl) ⟨Nat.le_of_ble_eq_true rfl, Nat.le_of_ble_eq_true rfl⟩ dX4_playHidden_13 (fun H locs hP hD hS => ?_)
  have hD : aD A [a_this, o_3.2.2.2.2, a_notes, o_3.2.2.2.1, a_notes_odds] := hD
  refine lv_aload_n hx hb dX4_playHidden_16 rfl (lv_at hl 0 rfl) ?_
  refine lv_iload_n hx hb dX4_playHidden_17 rfl (lv_at hl 1 rfl) ?_
  refine lv_iload_n hx hb dX4_playHidden_18 rfl (lv_at hl 2 rfl) ?_
  refine lv_aload_n hx hb dX4_playHidden_19 rfl (lv_at hl 0 rfl) ?_
  refine va_get (D := X.1) (ci := 4) (v := .ref a_notes) (C := RX4) (T := TX4) (N := 6) hx hb hts in4 hown hG.1 hP 0 rfl rfl 0 (by decide) w1 (fun _ h9 => h9) rfl dX4_playHidden_20 ?_
  refine lv_iconst (v := (0 : Int32)) hx hb dX4_playHidden_23 (by decide) ?_
  refine lv_iconst (v := (1 : Int32)) hx hb dX4_playHidden_24 (by decide) ?_
  obtain ⟨o_5, ho_5, hf⟩ := ob_s hf
  refine xV_i (As := [.int (0 : Int32), .int (1 : Int32)]) (b := a_notes) (rest := [.int x1, .int x0, .ref a_this, .int o_3.1, .ref a_this]) (ws2 := [(a_this, .inr (4, [.ref a_notes, .ref o_3.2.2.2.1, .ref o_3.2.2.2.2, .int i_value, .int i_zeroPushes, .int i_onePushes])), (o_3.2.2.2.2, .inl (X.2.1 0, 49, .inl o_3.2.2.1)), (a_notes, .inr (5, [.ref a_notes_delays, .ref a_notes_margins, .ref a_notes_odds])), (o_3.2.2.2.1, .inl (X.2.1 0, 49, .inl o_3.2.1)), (a_notes_odds, .inl (X.2.1 0, 4, .inl f_notes_odds))]) hx hb hml hts hown hG hA hP hD rfl hS hl.1 (qX5_tenthsOf l X a_notes a_notes_odds a_notes_delays a_notes_margins f_notes_odds (0 : Int32) (1 : Int32) o_5 ho_5) (cwV (y := yX5_tenthsOf) 2 hts gX4_playHidden_X5_tenthsOf rfl rfl rfl hdvX5_tenthsOf ⟨Nat.le_of_ble_eq_true rfl, Nat.le_of_ble_eq_true rfl⟩) [2, 4] [0, 1, 3] [0, 1, 3, 2, 4] rfl rfl rfl rfl rfl rfl rfl (ci := 5) rfl 2 rfl rfl rfl (Nat.le_of_ble_eq_true rfl) ⟨Nat.le_of_ble_eq_true rfl, Nat.le_of_ble_eq_true rfl⟩ dX4_playHidden_25 (fun H locs hP _ hS => ?_)
  obtain ⟨o_7, ho_7, hf⟩ := ob_s hf
  refine xV_i (As := [.int x0, .int x1, .int o_5]) (b := a_this) (rest := [.int o_3.1, .ref a_this]) (ws2 := [(a_this, .inr (4, [.ref a_notes, .ref o_7.2.2.2.1, .ref o_7.2.2.2.2, .int i_value, .int i_zeroPushes, .int i_onePushes])), (o_7.2.2.2.2, .inl (X.2.1 0, 49, .inl o_7.2.2.1)), (a_notes, .inr (5, [.ref a_notes_delays, .ref a_notes_margins, .ref a_notes_odds])), (o_7.2.2.2.1, .inl (X.2.1 0, 49, .inl o_7.2.1)), (a_notes_odds, .inl (X.2.1 0, 4, .inl f_notes_odds))]) hx hb hml hts hown hG hA hP hD rfl hS hl.1 (qX4_fixedValue l X a_this o_3.2.2.2.2 o_3.2.2.2.1 a_notes i_value i_zeroPushes i_onePushes o_3.2.2.1 o_3.2.1 x0 x1 o_5 o_7 ho_7) (cwV (y := yX4_fixedValue) 3 hts gX4_playHidden_X4_fixedValue rfl rfl rfl hdvX4_fixedValue ⟨Nat.le_of_ble_eq_true rfl, Nat.le_of_ble_eq_true rfl⟩) [0, 1, 3] [2, 4] [2, 3, 0, 4, 1] rfl rfl rfl rfl rfl rfl rfl (ci := 4) rfl 0 rfl rfl rfl (Nat.le_of_ble_eq_true rfl) ⟨Nat.le_of_ble_eq_true rfl, Nat.le_of_ble_eq_true rfl⟩ dX4_playHidden_28 (fun H locs hP hD hS => ?_)
  have hD : aD A [a_this, o_7.2.2.2.2, a_notes, o_7.2.2.2.1, a_notes_odds] := hD
  obtain ⟨o_9, ho_9, hf⟩ := ob_s hf
  refine xV_v (As := [.int o_3.1, .int o_7.1]) (b := a_this) (rest := []) (ws2 := fun _ => [(a_this, .inr (4, [.ref a_notes, .ref o_7.2.2.2.1, .ref o_7.2.2.2.2, .int o_9.2, .int i_zeroPushes, .int o_9.1])), (o_7.2.2.2.2, .inl (X.2.1 0, 49, .inl o_7.2.2.1)), (a_notes, .inr (5, [.ref a_notes_delays, .ref a_notes_margins, .ref a_notes_odds])), (o_7.2.2.2.1, .inl (X.2.1 0, 49, .inl o_7.2.1)), (a_notes_odds, .inl (X.2.1 0, 4, .inl f_notes_odds))]) hx hb hml hts hown hG hA hP hD rfl hS hl.1 (qX4_answer l X a_this a_notes o_7.2.2.2.1 o_7.2.2.2.2 i_value i_zeroPushes i_onePushes o_3.1 o_7.1 o_9 ho_9) (cwV (y := yX4_answer) 2 hts gX4_playHidden_X4_answer rfl rfl rfl hdvX4_answer ⟨Nat.le_of_ble_eq_true rfl, Nat.le_of_ble_eq_true rfl⟩) [0] [1, 2, 3, 4] [4, 0, 1, 2, 3] rfl rfl rfl rfl rfl rfl (fun _ => rfl) (ci := 4) rfl 0 rfl rfl rfl (Nat.le_of_ble_eq_true rfl) ⟨Nat.le_of_ble_eq_true rfl, Nat.le_of_ble_eq_true rfl⟩ dX4_playHidden_31 (fun u_10 H locs hP _ hS => ?_)
  refine lv_aload_n hx hb dX4_playHidden_34 rfl (lv_at hl 0 rfl) ?_
  refine va_get (D := X.1) (ci := 4) (v := .int o_9.2) (C := RX4) (T := TX4) (N := 6) hx hb hts in4 hown hG.1 hP 0 rfl rfl 3 (by decide) w2 (fun _ h9 => h9) rfl dX4_playHidden_35 ?_
  refine lv_istore_n (lv' := [(3, .int o_9.2), (0, .ref a_this), (1, .int x0), (2, .int x1)]) hx hb dX4_playHidden_38 rfl hl (by decide) rfl (fun ls hl => ?_)
  refine lv_aload_n hx hb dX4_playHidden_39 rfl (lv_at hl 1 rfl) ?_
  refine va_get (D := X.1) (ci := 4) (v := .int o_9.1) (C := RX4) (T := TX4) (N := 6) hx hb hts in4 hown hG.1 hP 0 rfl rfl 5 (by decide) w3 (fun _ h9 => h9) rfl dX4_playHidden_40 ?_
  refine lv_istore (lv' := [(4, .int o_9.1), (3, .int o_9.2), (0, .ref a_this), (1, .int x0), (2, .int x1)]) hx hb dX4_playHidden_43 hl (by decide) rfl (fun ls hl => ?_)
  refine lv_aload_n hx hb dX4_playHidden_45 rfl (lv_at hl 2 rfl) ?_
  refine lv_aload_n hx hb dX4_playHidden_46 rfl (lv_at hl 2 rfl) ?_
  refine lv_iload_n hx hb dX4_playHidden_47 rfl (lv_at hl 3 rfl) ?_
  refine lv_iload_n hx hb dX4_playHidden_48 rfl (lv_at hl 4 rfl) ?_
  refine lv_aload_n hx hb dX4_playHidden_49 rfl (lv_at hl 2 rfl) ?_
  refine va_get (D := X.1) (ci := 4) (v := .ref a_notes) (C := RX4) (T := TX4) (N := 6) hx hb hts in4 hown hG.1 hP 0 rfl rfl 0 (by decide) w1 (fun _ h9 => h9) rfl dX4_playHidden_50 ?_
  refine lv_iconst (v := (1 : Int32)) hx hb dX4_playHidden_53 (by decide) ?_
  refine lv_iconst (v := (0 : Int32)) hx hb dX4_playHidden_54 (by decide) ?_
  obtain ⟨o_11, ho_11, hf⟩ := ob_s hf
  refine xV_i (As := [.int (1 : Int32), .int (0 : Int32)]) (b := a_notes) (rest := [.int x1, .int x0, .ref a_this, .ref a_this]) (ws2 := [(a_this, .inr (4, [.ref a_notes, .ref o_7.2.2.2.1, .ref o_7.2.2.2.2, .int o_9.2, .int i_zeroPushes, .int o_9.1])), (o_7.2.2.2.2, .inl (X.2.1 0, 49, .inl o_7.2.2.1)), (a_notes, .inr (5, [.ref a_notes_delays, .ref a_notes_margins, .ref a_notes_odds])), (o_7.2.2.2.1, .inl (X.2.1 0, 49, .inl o_7.2.1)), (a_notes_odds, .inl (X.2.1 0, 4, .inl f_notes_odds))]) hx hb hml hts hown hG hA hP hD rfl hS hl.1 (qX5_tenthsOf l X a_notes a_notes_odds a_notes_delays a_notes_margins f_notes_odds (1 : Int32) (0 : Int32) o_11 ho_11) (cwV (y := yX5_tenthsOf) 2 hts gX4_playHidden_X5_tenthsOf rfl rfl rfl hdvX5_tenthsOf ⟨Nat.le_of_ble_eq_true rfl, Nat.le_of_ble_eq_true rfl⟩) [2, 4] [0, 1, 3] [0, 1, 3, 2, 4] rfl rfl rfl rfl rfl rfl rfl (ci := 5) rfl 2 rfl rfl rfl (Nat.le_of_ble_eq_true rfl) ⟨Nat.le_of_ble_eq_true rfl, Nat.le_of_ble_eq_true rfl⟩ dX4_playHidden_55 (fun H locs hP _ hS => ?_)
  obtain ⟨o_13, ho_13, hf⟩ := ob_s hf
  refine xV_i (As := [.int x0, .int x1, .int o_11]) (b := a_this) (rest := [.ref a_this]) (ws2 := [(a_this, .inr (4, [.ref a_notes, .ref o_13.2.2.2.1, .ref o_13.2.2.2.2, .int o_9.2, .int i_zeroPushes, .int o_9.1])), (o_13.2.2.2.2, .inl (X.2.1 0, 49, .inl o_13.2.2.1)), (a_notes, .inr (5, [.ref a_notes_delays, .ref a_notes_margins, .ref a_notes_odds])), (o_13.2.2.2.1, .inl (X.2.1 0, 49, .inl o_13.2.1)), (a_notes_odds, .inl (X.2.1 0, 4, .inl f_notes_odds))]) hx hb hml hts hown hG hA hP hD rfl hS hl.1 (qX4_fixedValue l X a_this o_7.2.2.2.2 o_7.2.2.2.1 a_notes o_9.2 i_zeroPushes o_9.1 o_7.2.2.1 o_7.2.1 x0 x1 o_11 o_13 ho_13) (cwV (y := yX4_fixedValue) 3 hts gX4_playHidden_X4_fixedValue rfl rfl rfl hdvX4_fixedValue ⟨Nat.le_of_ble_eq_true rfl, Nat.le_of_ble_eq_true rfl⟩) [0, 1, 3] [2, 4] [2, 3, 0, 4, 1] rfl rfl rfl rfl rfl rfl rfl (ci := 4) rfl 0 rfl rfl rfl (Nat.le_of_ble_eq_true rfl) ⟨Nat.le_of_ble_eq_true rfl, Nat.le_of_ble_eq_true rfl⟩ dX4_playHidden_58 (fun H locs hP hD hS => ?_)
  have hD : aD A [a_this, o_13.2.2.2.2, a_notes, o_13.2.2.2.1, a_notes_odds] := hD
  refine lv_aload_n hx hb dX4_playHidden_61 rfl (lv_at hl 2 rfl) ?_
  refine lv_iload_n hx hb dX4_playHidden_62 rfl (lv_at hl 3 rfl) ?_
  refine lv_iload_n hx hb dX4_playHidden_63 rfl (lv_at hl 4 rfl) ?_
  refine lv_aload_n hx hb dX4_playHidden_64 rfl (lv_at hl 2 rfl) ?_
  refine va_get (D := X.1) (ci := 4) (v := .ref a_notes) (C := RX4) (T := TX4) (N := 6) hx hb hts in4 hown hG.1 hP 0 rfl rfl 0 (by decide) w1 (fun _ h9 => h9) rfl dX4_playHidden_65 ?_
  refine lv_iconst (v := (1 : Int32)) hx hb dX4_playHidden_68 (by decide) ?_
  refine lv_iconst (v := (1 : Int32)) hx hb dX4_playHidden_69 (by decide) ?_
  obtain ⟨o_15, ho_15, hf⟩ := ob_s hf
  refine xV_i (As := [.int (1 : Int32), .int (1 : Int32)]) (b := a_notes) (rest := [.int x1, .int x0, .ref a_this, .int o_13.1, .ref a_this]) (ws2 := [(a_this, .inr (4, [.ref a_notes, .ref o_13.2.2.2.1, .ref o_13.2.2.2.2, .int o_9.2, .int i_zeroPushes, .int o_9.1])), (o_13.2.2.2.2, .inl (X.2.1 0, 49, .inl o_13.2.2.1)), (a_notes, .inr (5, [.ref a_notes_delays, .ref a_notes_margins, .ref a_notes_odds])), (o_13.2.2.2.1, .inl (X.2.1 0, 49, .inl o_13.2.1)), (a_notes_odds, .inl (X.2.1 0, 4, .inl f_notes_odds))]) hx hb hml hts hown hG hA hP hD rfl hS hl.1 (qX5_tenthsOf l X a_notes a_notes_odds a_notes_delays a_notes_margins f_notes_odds (1 : Int32) (1 : Int32) o_15 ho_15) (cwV (y := yX5_tenthsOf) 2 hts gX4_playHidden_X5_tenthsOf rfl rfl rfl hdvX5_tenthsOf ⟨Nat.le_of_ble_eq_true rfl, Nat.le_of_ble_eq_true rfl⟩) [2, 4] [0, 1, 3] [0, 1, 3, 2, 4] rfl rfl rfl rfl rfl rfl rfl (ci := 5) rfl 2 rfl rfl rfl (Nat.le_of_ble_eq_true rfl) ⟨Nat.le_of_ble_eq_true rfl, Nat.le_of_ble_eq_true rfl⟩ dX4_playHidden_70 (fun H locs hP _ hS => ?_)
  obtain ⟨o_17, ho_17, hf⟩ := ob_s hf
  refine xV_i (As := [.int x0, .int x1, .int o_15]) (b := a_this) (rest := [.int o_13.1, .ref a_this]) (ws2 := [(a_this, .inr (4, [.ref a_notes, .ref o_17.2.2.2.1, .ref o_17.2.2.2.2, .int o_9.2, .int i_zeroPushes, .int o_9.1])), (o_17.2.2.2.2, .inl (X.2.1 0, 49, .inl o_17.2.2.1)), (a_notes, .inr (5, [.ref a_notes_delays, .ref a_notes_margins, .ref a_notes_odds])), (o_17.2.2.2.1, .inl (X.2.1 0, 49, .inl o_17.2.1)), (a_notes_odds, .inl (X.2.1 0, 4, .inl f_notes_odds))]) hx hb hml hts hown hG hA hP hD rfl hS hl.1 (qX4_fixedValue l X a_this o_13.2.2.2.2 o_13.2.2.2.1 a_notes o_9.2 i_zeroPushes o_9.1 o_13.2.2.1 o_13.2.1 x0 x1 o_15 o_17 ho_17) (cwV (y := yX4_fixedValue) 3 hts gX4_playHidden_X4_fixedValue rfl rfl rfl hdvX4_fixedValue ⟨Nat.le_of_ble_eq_true rfl, Nat.le_of_ble_eq_true rfl⟩) [0, 1, 3] [2, 4] [2, 3, 0, 4, 1] rfl rfl rfl rfl rfl rfl rfl (ci := 4) rfl 0 rfl rfl rfl (Nat.le_of_ble_eq_true rfl) ⟨Nat.le_of_ble_eq_true rfl, Nat.le_of_ble_eq_true rfl⟩ dX4_playHidden_73 (fun H locs hP hD hS => ?_)
  have hD : aD A [a_this, o_17.2.2.2.2, a_notes, o_17.2.2.2.1, a_notes_odds] := hD
  obtain ⟨o_19, ho_19, hf⟩ := ob_s hf
  refine xV_v (As := [.int o_13.1, .int o_17.1]) (b := a_this) (rest := []) (ws2 := fun _ => [(a_this, .inr (4, [.ref a_notes, .ref o_17.2.2.2.1, .ref o_17.2.2.2.2, .int o_19.2, .int i_zeroPushes, .int o_19.1])), (o_17.2.2.2.2, .inl (X.2.1 0, 49, .inl o_17.2.2.1)), (a_notes, .inr (5, [.ref a_notes_delays, .ref a_notes_margins, .ref a_notes_odds])), (o_17.2.2.2.1, .inl (X.2.1 0, 49, .inl o_17.2.1)), (a_notes_odds, .inl (X.2.1 0, 4, .inl f_notes_odds))]) hx hb hml hts hown hG hA hP hD rfl hS hl.1 (qX4_answer l X a_this a_notes o_17.2.2.2.1 o_17.2.2.2.2 o_9.2 i_zeroPushes o_9.1 o_13.1 o_17.1 o_19 ho_19) (cwV (y := yX4_answer) 2 hts gX4_playHidden_X4_answer rfl rfl rfl hdvX4_answer ⟨Nat.le_of_ble_eq_true rfl, Nat.le_of_ble_eq_true rfl⟩) [0] [1, 2, 3, 4] [4, 0, 1, 2, 3] rfl rfl rfl rfl rfl rfl (fun _ => rfl) (ci := 4) rfl 0 rfl rfl rfl (Nat.le_of_ble_eq_true rfl) ⟨Nat.le_of_ble_eq_true rfl, Nat.le_of_ble_eq_true rfl⟩ dX4_playHidden_76 (fun u_20 H locs hP _ hS => ?_)
  refine lv_aload_n hx hb dX4_playHidden_79 rfl (lv_at hl 2 rfl) ?_
  refine lv_iload_n hx hb dX4_playHidden_80 rfl (lv_at hl 1 rfl) ?_
  refine lv_iload hx hb dX4_playHidden_81 (lv_at hl 0 rfl) ?_
  obtain ⟨o_21, ho_21, hf⟩ := ob_s hf
  refine xV_v (As := [.int o_9.2, .int o_9.1]) (b := a_this) (rest := []) (ws2 := fun _ => [(a_this, .inr (4, [.ref a_notes, .ref o_17.2.2.2.1, .ref o_17.2.2.2.2, .int o_21.2.2, .int o_21.1, .int o_21.2.1])), (o_17.2.2.2.2, .inl (X.2.1 0, 49, .inl o_17.2.2.1)), (a_notes, .inr (5, [.ref a_notes_delays, .ref a_notes_margins, .ref a_notes_odds])), (o_17.2.2.2.1, .inl (X.2.1 0, 49, .inl o_17.2.1)), (a_notes_odds, .inl (X.2.1 0, 4, .inl f_notes_odds))]) hx hb hml hts hown hG hA hP hD rfl hS hl.1 (qX4_preferHeld l X a_this a_notes o_17.2.2.2.1 o_17.2.2.2.2 o_19.2 i_zeroPushes o_19.1 o_9.2 o_9.1 o_21 ho_21) (cwV (y := yX4_preferHeld) 2 hts gX4_playHidden_X4_preferHeld rfl rfl rfl hdvX4_preferHeld ⟨Nat.le_of_ble_eq_true rfl, Nat.le_of_ble_eq_true rfl⟩) [0] [1, 2, 3, 4] [4, 0, 1, 2, 3] rfl rfl rfl rfl rfl rfl (fun _ => rfl) (ci := 4) rfl 0 rfl rfl rfl (Nat.le_of_ble_eq_true rfl) ⟨Nat.le_of_ble_eq_true rfl, Nat.le_of_ble_eq_true rfl⟩ dX4_playHidden_83 (fun u_22 H locs hP _ hS => ?_)
  obtain rfl := Option.some.inj hf
  exact ret (fun _ => 0) H _ ls _ hP hD hS dX4_playHidden_86
