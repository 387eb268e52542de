def mX5_stopDelays (f_delays : Nat → Int32) :
  Option ((Nat → Int32)) :=
  (mJ7_fill_53178 8 (0 : Int32) f_delays).bind fun o_1 =>
  some o_1
theorem hdsX5_stopDelays : yX5_stopDelays.cls ≠ "java/lang/invoke/MethodHandle" ∧ yX5_stopDelays.cls ≠ "java/lang/invoke/VarHandle" ∧ (parseMethodDescriptor yX5_stopDelays.desc).map (fun d => d.parameters.length) = some 0 := by decide +kernel
theorem hdvX5_stopDelays : yX5_stopDelays.cls = RX5 ∧ yX5_stopDelays.cls ≠ "java/lang/invoke/MethodHandle" ∧ yX5_stopDelays.cls ≠ "java/lang/invoke/VarHandle" ∧ (parseMethodDescriptor yX5_stopDelays.desc).map (fun d => d.parameters.length) = some 0 := by decide +kernel
abbrev rmX5_stopDelays : Room := { frames := 1, cells := 0, slots := 0, locals := 23 }
set_option maxHeartbeats 4000000 in
set_option maxRecDepth 100000 in
theorem qX5_stopDelays (l : Launch) (X : XT) (a_this : Nat) (a_delays : Nat) (a_margins : Nat) (a_odds : Nat)  (f_delays : Nat → Int32)  (o : (Nat → Int32)) (hf : mX5_stopDelays f_delays = some o) :
    MC l yX5_stopDelays wsX5_stopDelays rmX5_stopDelays X [.ref a_this] [(a_this, .inr (5, [.ref a_delays, .ref a_margins, .ref a_odds])), (a_delays, .inl (X.2.1 0, 8, .inl f_delays))]  (fun _ => [(a_this, .inr (5, [.ref a_delays, .ref a_margins, .ref a_odds])), (a_delays, .inl (X.2.1 0, 8, .inl o))]) 0 0 := by
  refine MC_ofH (cc := cX5_stopDelays) (maxL := 1) (by decide) rfl (Nat.le_of_ble_eq_true rfl) ?_
  intro p e s m below meth c A Q H ls hx hb hml hts hown hin hA hD hG hP hS hl ret
  have hown : s.vm.findClass RX5 = some m.cls := hown
  have hD : aD A [a_this, a_delays] := hD
  have hl : lv_has ls 1 [(0, .ref a_this)] := hl
  have w1 := hts (.fieldLink RX5 9 "ThreeCards$Notes" "delays" "[I") (List.mem_of_getElem? (i := 1) rfl)
  have in5 : ∀ w ∈ u_ws RX5 TX5 3, w ∈ wsX5_stopDelays := by decide +kernel
  unfold mX5_stopDelays at hf
  refine lv_aload_n hx hb dX5_stopDelays_0 rfl (lv_at hl 0 rfl) ?_
  refine va_get (D := X.1) (ci := 5) (v := .ref a_delays) (C := RX5) (T := TX5) (N := 3) hx hb hts in5 hown hG.1 hP 0 rfl rfl 0 (by decide) w1 (fun _ h9 => h9) rfl dX5_stopDelays_1 ?_
  refine lv_iconst (v := (0 : Int32)) hx hb dX5_stopDelays_4 (by decide) ?_
  obtain ⟨o_1, ho_1, hf⟩ := ob_s hf
  refine xS_v (As := [.ref a_delays, .int (0 : Int32)]) (rest := []) (ws2 := fun _ => [(a_this, .inr (5, [.ref a_delays, .ref a_margins, .ref a_odds])), (a_delays, .inl (X.2.1 0, 8, .inl o_1))]) hx hb hml hts hown hG hA hP hD rfl hS hl.1 (qJ7_fill_53178 l X a_delays 8 f_delays (0 : Int32) o_1 ho_1) (va_cwS (y := yJ7_fill_53178) 2 hts gX5_stopDelays_J7_fill_53178 rfl rfl rfl hdsJ7_fill_53178 ⟨Nat.le_of_ble_eq_true rfl, Nat.le_of_ble_eq_true rfl⟩) [1] [0] [0, 1] rfl rfl rfl rfl rfl rfl (fun _ => rfl) rfl rfl (Nat.le_of_ble_eq_true rfl) ⟨Nat.le_of_ble_eq_true rfl, Nat.le_of_ble_eq_true rfl⟩ dX5_stopDelays_5 (fun u_2 H locs hP _ hS => ?_)
  obtain rfl := Option.some.inj hf
  exact ret (fun _ => 0) H _ ls _ hP hD hS dX5_stopDelays_8
def mX5_copyFrom (f_delays : Nat → Int32) (f_margins : Nat → Int32) (f_odds : Nat → Int32) (f_p0_delays : Nat → Int32) (f_p0_margins : Nat → Int32) (f_p0_odds : Nat → Int32) :
  Option ((Nat → Int32) × (Nat → Int32) × (Nat → Int32)) :=
  gcp (0 : Int32) (0 : Int32) (8 : Int32) 8 8 <|
  lb (va_cpy f_p0_delays f_delays (0 : Int32).toNatClampNeg (0 : Int32).toNatClampNeg (8 : Int32).toNatClampNeg) fun g_2 =>
  gcp (0 : Int32) (0 : Int32) (144 : Int32) 144 144 <|
  lb (va_cpy f_p0_margins f_margins (0 : Int32).toNatClampNeg (0 : Int32).toNatClampNeg (144 : Int32).toNatClampNeg) fun g_4 =>
  gcp (0 : Int32) (0 : Int32) (4 : Int32) 4 4 <|
  lb (va_cpy f_p0_odds f_odds (0 : Int32).toNatClampNeg (0 : Int32).toNatClampNeg (4 : Int32).toNatClampNeg) fun g_6 =>
  some (g_2, g_4, g_6)
theorem hdsX5_copyFrom : yX5_copyFrom.cls ≠ "java/lang/invoke/MethodHandle" ∧ yX5_copyFrom.cls ≠ "java/lang/invoke/VarHandle" ∧ (parseMethodDescriptor yX5_copyFrom.desc).map (fun d => d.parameters.length) = some 1 := by decide +kernel
theorem hdvX5_copyFrom : yX5_copyFrom.cls = RX5 ∧ yX5_copyFrom.cls ≠ "java/lang/invoke/MethodHandle" ∧ yX5_copyFrom.cls ≠ "java/lang/invoke/VarHandle" ∧ (parseMethodDescriptor yX5_copyFrom.desc).map (fun d => d.parameters.length) = some 1 := by decide +kernel
abbrev rmX5_copyFrom : Room := { frames := 1, cells := 0, slots := 0, locals := 60 }
set_option maxHeartbeats 4000000 in
set_option maxRecDepth 100000 in
theorem qX5_copyFrom (l : Launch) (X : XT) (a_this : Nat) (a_delays : Nat) (a_margins : Nat) (a_odds : Nat) (a_p0 : Nat) (a_p0_delays : Nat) (a_p0_margins : Nat) (a_p0_odds : Nat)  (f_delays : Nat → Int32) (f_margins : Nat → Int32) (f_odds : Nat → Int32) (f_p0_delays : Nat → Int32) (f_p0_margins : Nat → Int32) (f_p0_odds : Nat → Int32)  (o : (Nat → Int32) × (Nat → Int32) × (Nat → Int32)) (hf : mX5_copyFrom f_delays f_margins f_odds f_p0_delays f_p0_margins f_p0_odds = some o) :
    MC l yX5_copyFrom wsX5_copyFrom rmX5_copyFrom X [.ref a_this, .ref a_p0] [(a_this, .inr (5, [.ref a_delays, .ref a_margins, .ref a_odds])), (a_delays, .inl (X.2.1 0, 8, .inl f_delays)), (a_margins, .inl (X.2.1 0, 144, .inl f_margins)), (a_odds, .inl (X.2.1 0, 4, .inl f_odds)), (a_p0, .inr (5, [.ref a_p0_delays, .ref a_p0_margins, .ref a_p0_odds])), (a_p0_delays, .inl (X.2.1 0, 8, .inl f_p0_delays)), (a_p0_margins, .inl (X.2.1 0, 144, .inl f_p0_margins)), (a_p0_odds, .inl (X.2.1 0, 4, .inl f_p0_odds))]  (fun _ => [(a_this, .inr (5, [.ref a_delays, .ref a_margins, .ref a_odds])), (a_delays, .inl (X.2.1 0, 8, .inl o.1)), (a_margins, .inl (X.2.1 0, 144, .inl o.2.1)), (a_odds, .inl (X.2.1 0, 4, .inl o.2.2)), (a_p0, .inr (5, [.ref a_p0_delays, .ref a_p0_margins, .ref a_p0_odds])), (a_p0_delays, .inl (X.2.1 0, 8, .inl f_p0_delays)), (a_p0_margins, .inl (X.2.1 0, 144, .inl f_p0_margins)), (a_p0_odds, .inl (X.2.1 0, 4, .inl f_p0_odds))]) 0 0 := by
  refine MC_ofH (cc := cX5_copyFrom) (maxL := 2) (by decide) rfl (Nat.le_of_ble_eq_true rfl) ?_
  intro p e s m below meth c A Q H ls hx hb hml hts hown hin hA hD hG hP hS hl ret
  have hown : s.vm.findClass RX5 = some m.cls := hown
  have hD : aD A [a_this, a_delays, a_margins, a_odds, a_p0, a_p0_delays, a_p0_margins, a_p0_odds] := hD
  have hl : lv_has ls 2 [(0, .ref a_this), (1, .ref a_p0)] := hl
  have w1 := hts (.fieldLink RX5 9 "ThreeCards$Notes" "delays" "[I") (List.mem_of_getElem? (i := 1) rfl)
  have w2 := hts (.methodLink RX5 27 arraycopyName) (List.mem_of_getElem? (i := 2) rfl)
  have w3 := hts (.native arraycopyName) (List.mem_of_getElem? (i := 3) rfl)
  have w4 := hts (.static arraycopyName) (List.mem_of_getElem? (i := 4) rfl)
  have w5 := hts (.initialized "java/lang/System") (List.mem_of_getElem? (i := 5) rfl)
  have w6 := hts (.fieldLink RX5 15 "ThreeCards$Notes" "margins" "[I") (List.mem_of_getElem? (i := 6) rfl)
  have w7 := hts (.fieldLink RX5 18 "ThreeCards$Notes" "odds" "[I") (List.mem_of_getElem? (i := 7) rfl)
  have in5 : ∀ w ∈ u_ws RX5 TX5 3, w ∈ wsX5_copyFrom := by decide +kernel
  unfold mX5_copyFrom at hf
  refine lv_aload_n hx hb dX5_copyFrom_0 rfl (lv_at hl 1 rfl) ?_
  refine va_get (D := X.1) (ci := 5) (v := .ref a_p0_delays) (C := RX5) (T := TX5) (N := 3) hx hb hts in5 hown hG.1 hP 4 rfl rfl 0 (by decide) w1 (fun _ h9 => h9) rfl dX5_copyFrom_1 ?_
  refine lv_iconst (v := (0 : Int32)) hx hb dX5_copyFrom_4 (by decide) ?_
  refine lv_aload_n hx hb dX5_copyFrom_5 rfl (lv_at hl 0 rfl) ?_
  refine va_get (D := X.1) (ci := 5) (v := .ref a_delays) (C := RX5) (T := TX5) (N := 3) hx hb hts in5 hown hG.1 hP 0 rfl rfl 0 (by decide) w1 (fun _ h9 => h9) rfl dX5_copyFrom_6 ?_
  refine lv_iconst (v := (0 : Int32)) hx hb dX5_copyFrom_9 (by decide) ?_
  refine lv_aload_n hx hb dX5_copyFrom_10 rfl (lv_at hl 0 rfl) ?_
  refine va_get (D := X.1) (ci := 5) (v := .ref a_delays) (C := RX5) (T := TX5) (N := 3) hx hb hts in5 hown hG.1 hP 0 rfl rfl 0 (by decide) w1 (fun _ h9 => h9) rfl dX5_copyFrom_11 ?_
  refine va_alen (D := X.1) (v := (8 : Int32)) hx hb hG.1 hP 1 0 rfl rfl rfl dX5_copyFrom_14 ?_
  obtain ⟨h_1, hf⟩ := gcp_s hf
  obtain ⟨g_2, eg_2, hf⟩ := lb_g hf
  refine x_copyi (ws' := [(a_this, .inr (5, [.ref a_delays, .ref a_margins, .ref a_odds])), (a_delays, .inl (X.2.1 0, 8, .inl g_2)), (a_margins, .inl (X.2.1 0, 144, .inl f_margins)), (a_odds, .inl (X.2.1 0, 4, .inl f_odds)), (a_p0, .inr (5, [.ref a_p0_delays, .ref a_p0_margins, .ref a_p0_odds])), (a_p0_delays, .inl (X.2.1 0, 8, .inl f_p0_delays)), (a_p0_margins, .inl (X.2.1 0, 144, .inl f_p0_margins)), (a_p0_odds, .inl (X.2.1 0, 4, .inl f_p0_odds))]) hx hb hml hl.1 hown w2 w3 w4 w5 hG hP hD rfl hS 5 1 rfl rfl h_1 (Nat.le_of_ble_eq_true rfl) (Nat.le_of_ble_eq_true rfl) dX5_copyFrom_15 eg_2 rfl (fun H locs hP hS => ?_)
  refine lv_aload_n hx hb dX5_copyFrom_18 rfl (lv_at hl 1 rfl) ?_
  refine va_get (D := X.1) (ci := 5) (v := .ref a_p0_margins) (C := RX5) (T := TX5) (N := 3) hx hb hts in5 hown hG.1 hP 4 rfl rfl 1 (by decide) w6 (fun _ h9 => h9) rfl dX5_copyFrom_19 ?_
  refine lv_iconst (v := (0 : Int32)) hx hb dX5_copyFrom_22 (by decide) ?_
  refine lv_aload_n hx hb dX5_copyFrom_23 rfl (lv_at hl 0 rfl) ?_
  refine va_get (D := X.1) (ci := 5) (v := .ref a_margins) (C := RX5) (T := TX5) (N := 3) hx hb hts in5 hown hG.1 hP 0 rfl rfl 1 (by decide) w6 (fun _ h9 => h9) rfl dX5_copyFrom_24 ?_
  refine lv_iconst (v := (0 : Int32)) hx hb dX5_copyFrom_27 (by decide) ?_
  refine lv_aload_n hx hb dX5_copyFrom_28 rfl (lv_at hl 0 rfl) ?_
  refine va_get (D := X.1) (ci := 5) (v := .ref a_margins) (C := RX5) (T := TX5) (N := 3) hx hb hts in5 hown hG.1 hP 0 rfl rfl 1 (by decide) w6 (fun _ h9 => h9) rfl dX5_copyFrom_29 ?_
  refine va_alen (D := X.1) (v := (144 : Int32)) hx hb hG.1 hP 2 0 rfl rfl rfl dX5_copyFrom_32 ?_
  obtain ⟨h_3, hf⟩ := gcp_s hf
  obtain ⟨g_4, eg_4, hf⟩ := lb_g hf
  refine x_copyi (ws' := [(a_this, .inr (5, [.ref a_delays, .ref a_margins, .ref a_odds])), (a_delays, .inl (X.2.1 0, 8, .inl g_2)), (a_margins, .inl (X.2.1 0, 144, .inl g_4)), (a_odds, .inl (X.2.1 0, 4, .inl f_odds)), (a_p0, .inr (5, [.ref a_p0_delays, .ref a_p0_margins, .ref a_p0_odds])), (a_p0_delays, .inl (X.2.1 0, 8, .inl f_p0_delays)), (a_p0_margins, .inl (X.2.1 0, 144, .inl f_p0_margins)), (a_p0_odds, .inl (X.2.1 0, 4, .inl f_p0_odds))]) hx hb hml hl.1 hown w2 w3 w4 w5 hG hP hD rfl hS 6 2 rfl rfl h_3 (Nat.le_of_ble_eq_true rfl) (Nat.le_of_ble_eq_true rfl) dX5_copyFrom_33 eg_4 rfl (fun H locs hP hS => ?_)
  refine lv_aload_n hx hb dX5_copyFrom_36 rfl (lv_at hl 1 rfl) ?_
  refine va_get (D := X.1) (ci := 5) (v := .ref a_p0_odds) (C := RX5) (T := TX5) (N := 3) hx hb hts in5 hown hG.1 hP 4 rfl rfl 2 (by decide) w7 (fun _ h9 => h9) rfl dX5_copyFrom_37 ?_
  refine lv_iconst (v := (0 : Int32)) hx hb dX5_copyFrom_40 (by decide) ?_
  refine lv_aload_n hx hb dX5_copyFrom_41 rfl (lv_at hl 0 rfl) ?_
  refine va_get (D := X.1) (ci := 5) (v := .ref a_odds) (C := RX5) (T := TX5) (N := 3) hx hb hts in5 hown hG.1 hP 0 rfl rfl 2 (by decide) w7 (fun _ h9 => h9) rfl dX5_copyFrom_42 ?_
  refine lv_iconst (v := (0 : Int32)) hx hb dX5_copyFrom_45 (by decide) ?_
  refine lv_aload_n hx hb dX5_copyFrom_46 rfl (lv_at hl 0 rfl) ?_
  refine va_get (D := X.1) (ci := 5) (v := .ref a_odds) (C := RX5) (T := TX5) (N := 3) hx hb hts in5 hown hG.1 hP 0 rfl rfl 2 (by decide) w7 (fun _ h9 => h9) rfl dX5_copyFrom_47 ?_
  refine va_alen (D := X.1) (v := (4 : Int32)) hx hb hG.1 hP 3 0 rfl rfl rfl dX5_copyFrom_50 ?_
  obtain ⟨h_5, hf⟩ := gcp_s hf
  obtain ⟨g_6, eg_6, hf⟩ := lb_g hf
  refine x_copyi (ws' := [(a_this, .inr (5, [.ref a_delays, .ref a_margins, .ref a_odds])), (a_delays, .inl (X.2.1 0, 8, .inl g_2)), (a_margins, .inl (X.2.1 0, 144, .inl g_4)), (a_odds, .inl (X.2.1 0, 4, .inl g_6)), (a_p0, .inr (5, [.ref a_p0_delays, .ref a_p0_margins, .ref a_p0_odds])), (a_p0_delays, .inl (X.2.1 0, 8, .inl f_p0_delays)), (a_p0_margins, .inl (X.2.1 0, 144, .inl f_p0_margins)), (a_p0_odds, .inl (X.2.1 0, 4, .inl f_p0_odds))]) hx hb hml hl.1 hown w2 w3 w4 w5 hG hP hD rfl hS 7 3 rfl rfl h_5 (Nat.le_of_ble_eq_true rfl) (Nat.le_of_ble_eq_true rfl) dX5_copyFrom_51 eg_6 rfl (fun H locs hP hS => ?_)
  obtain rfl := Option.some.inj hf
  exact ret (fun _ => 0) H _ ls _ hP hD hS dX5_copyFrom_54
def mX5_toldOf (x0 : Int32) (x1 : Int32) (f_margins : Nat → Int32) :
  Option (Int32) :=
  gi ((x0 * (24 : Int32)) + x1) 144 <|
  lb (f_margins ((x0 * (24 : Int32)) + x1).toNatClampNeg) fun v_2 =>
  some v_2
theorem hdsX5_toldOf : yX5_toldOf.cls ≠ "java/lang/invoke/MethodHandle" ∧ yX5_toldOf.cls ≠ "java/lang/invoke/VarHandle" ∧ (parseMethodDescriptor yX5_toldOf.desc).map (fun d => d.parameters.length) = some 2 := by decide +kernel
theorem hdvX5_toldOf : yX5_toldOf.cls = RX5 ∧ yX5_toldOf.cls ≠ "java/lang/invoke/MethodHandle" ∧ yX5_toldOf.cls ≠ "java/lang/invoke/VarHandle" ∧ (parseMethodDescriptor yX5_toldOf.desc).map (fun d => d.parameters.length) = some 2 := by decide +kernel
abbrev rmX5_toldOf : Room := { frames := 0, cells := 0, slots := 0, locals := 0 }
set_option maxHeartbeats 4000000 in
set_option maxRecDepth 100000 in
theorem qX5_toldOf (l : Launch) (X : XT) (a_this : Nat) (a_margins : Nat) (a_delays : Nat) (a_odds : Nat)  (f_margins : Nat → Int32) (x0 : Int32) (x1 : Int32) (o : Int32) (hf : mX5_toldOf x0 x1 f_margins = some o) :
    MI l yX5_toldOf wsX5_toldOf rmX5_toldOf X [.ref a_this, .int x0, .int x1] [(a_this, .inr (5, [.ref a_delays, .ref a_margins, .ref a_odds])), (a_margins, .inl (X.2.1 0, 144, .inl f_margins))]  [(a_this, .inr (5, [.ref a_delays, .ref a_margins, .ref a_odds])), (a_margins, .inl (X.2.1 0, 144, .inl f_margins))] o := by
  refine MI_ofH (cc := cX5_toldOf) (maxL := 3) (rt := .int) (by decide) rfl (Nat.le_of_ble_eq_true rfl) ?_
  intro p e s m below meth c A Q H ls hx hb hml hts hown hA hD hG hP hS hl ret
  have hown : s.vm.findClass RX5 = some m.cls := hown
  have hD : aD A [a_this, a_margins] := hD
  have hl : lv_has ls 3 [(0, .ref a_this), (1, .int x0), (2, .int x1)] := hl
  have w1 := hts (.fieldLink RX5 15 "ThreeCards$Notes" "margins" "[I") (List.mem_of_getElem? (i := 1) rfl)
  have in5 : ∀ w ∈ u_ws RX5 TX5 3, w ∈ wsX5_toldOf := by decide +kernel
  unfold mX5_toldOf at hf
  refine lv_aload_n hx hb dX5_toldOf_0 rfl (lv_at hl 0 rfl) ?_
  refine va_get (D := X.1) (ci := 5) (v := .ref a_margins) (C := RX5) (T := TX5) (N := 3) hx hb hts in5 hown hG.1 hP 0 rfl rfl 1 (by decide) w1 (fun _ h9 => h9) rfl dX5_toldOf_1 ?_
  refine lv_iload_n hx hb dX5_toldOf_4 rfl (lv_at hl 1 rfl) ?_
  refine lv_bipush (v := (24 : Int32)) hx hb dX5_toldOf_5 (by decide) ?_
  refine lv_imul hx hb dX5_toldOf_7 ?_
  refine lv_iload_n hx hb dX5_toldOf_8 rfl (lv_at hl 2 rfl) ?_
  refine lv_iadd hx hb dX5_toldOf_9 ?_
  obtain ⟨h_1, hf⟩ := gi_s hf
  refine va_iald (D := X.1) hx hb hG.1 hP 1 0 rfl rfl h_1 dX5_toldOf_10 ?_
  refine lv_topi (fun v_2 ev_2 => ?_)
  have hf := lb_s hf ev_2
  obtain rfl := Option.some.inj hf
  exact ret H _ ls _ rfl hP hD hS dX5_toldOf_11
def mX5_isTold (x0 : Int32) (x1 : Int32) (f_margins : Nat → Int32) :
  Option (Int32) :=
  (mX5_toldOf x0 x1 f_margins).bind fun o_1 =>
  if o_1 = (-21 : Int32) then (some (0 : Int32)) else (some (1 : Int32))
theorem hdsX5_isTold : yX5_isTold.cls ≠ "java/lang/invoke/MethodHandle" ∧ yX5_isTold.cls ≠ "java/lang/invoke/VarHandle" ∧ (parseMethodDescriptor yX5_isTold.desc).map (fun d => d.parameters.length) = some 2 := by decide +kernel
theorem hdvX5_isTold : yX5_isTold.cls = RX5 ∧ yX5_isTold.cls ≠ "java/lang/invoke/MethodHandle" ∧ yX5_isTold.cls ≠ "java/lang/invoke/VarHandle" ∧ (parseMethodDescriptor yX5_isTold.desc).map (fun d => d.parameters.length) = some 2 := by decide +kernel
abbrev rmX5_isTold : Room := { frames := 1, cells := 0, slots := 0, locals := 22 }
set_option maxHeartbeats 4000000 in
set_option maxRecDepth 100000 in
theorem qX5_isTold (l : Launch) (X : XT) (a_this : Nat) (a_margins : Nat) (a_delays : Nat) (a_odds : Nat)  (f_margins : Nat → Int32) (x0 : Int32) (x1 : Int32) (o : Int32) (hf : mX5_isTold x0 x1 f_margins = some o) :
    MI l yX5_isTold wsX5_isTold rmX5_isTold X [.ref a_this, .int x0, .int x1] [(a_this, .inr (5, [.ref a_delays, .ref a_margins, .ref a_odds])), (a_margins, .inl (X.2.1 0, 144, .inl f_margins))]  [(a_this, .inr (5, [.ref a_delays, .ref a_margins, .ref a_odds])), (a_margins, .inl (X.2.1 0, 144, .inl f_margins))] o := by
  refine MI_ofH (cc := cX5_isTold) (maxL := 3) (rt := .boolean) (by decide) rfl (Nat.le_of_ble_eq_true rfl) ?_
  intro p e s m below meth c A Q H ls hx hb hml hts hown hA hD hG hP hS hl ret
  have hown : s.vm.findClass RX5 = some m.cls := hown
  have hD : aD A [a_this, a_margins] := hD
  have hl : lv_has ls 3 [(0, .ref a_this), (1, .int x0), (2, .int x1)] := hl
  unfold mX5_isTold at hf
  refine lv_aload_n hx hb dX5_isTold_0 rfl (lv_at hl 0 rfl) ?_
  refine lv_iload_n hx hb dX5_isTold_1 rfl (lv_at hl 1 rfl) ?_
  refine lv_iload_n hx hb dX5_isTold_2 rfl (lv_at hl 2 rfl) ?_
  obtain ⟨o_1, ho_1, hf⟩ := ob_s hf
  refine xV_i (As := [.int x0, .int x1]) (b := a_this) (rest := []) (ws2 := [(a_this, .inr (5, [.ref a_delays, .ref a_margins, .ref a_odds])), (a_margins, .inl (X.2.1 0, 144, .inl f_margins))]) hx hb hml hts hown hG hA hP hD rfl hS hl.1 (qX5_toldOf l X a_this a_margins a_delays a_odds f_margins x0 x1 o_1 ho_1) (cwV (y := yX5_toldOf) 2 hts gX5_isTold_X5_toldOf rfl rfl rfl hdvX5_toldOf ⟨Nat.le_of_ble_eq_true rfl, Nat.le_of_ble_eq_true rfl⟩) [0, 1] [] [0, 1] rfl rfl rfl rfl rfl rfl rfl (ci := 5) rfl 0 rfl rfl rfl (Nat.le_of_ble_eq_true rfl) ⟨Nat.le_of_ble_eq_true rfl, Nat.le_of_ble_eq_true rfl⟩ dX5_isTold_3 (fun H locs hP _ hS => ?_)
  refine lv_bipush (v := (-21 : Int32)) hx hb dX5_isTold_6 (by decide) ?_
  refine lv_icmp_eq (tgt := 15) hx hb dX5_isTold_8 (by decide) (fun c_3 => ?_) (fun c_3 => ?_)
  · have hf := xt hf c_3
    refine lv_iconst (v := (0 : Int32)) hx hb dX5_isTold_15 (by decide) ?_
    obtain rfl := Option.some.inj hf
    exact ret H _ ls _ (show narrow .boolean (.int (0 : Int32)) = .int (0 : Int32) from rfl) hP hD hS dX5_isTold_16
  · have hf := xf hf c_3
    refine lv_iconst (v := (1 : Int32)) hx hb dX5_isTold_11 (by decide) ?_
    refine lv_goto (tgt := 16) hx hb dX5_isTold_12 (by decide) ?_
    obtain rfl := Option.some.inj hf
    exact ret H _ ls _ (show narrow .boolean (.int (1 : Int32)) = .int (1 : Int32) from rfl) hP hD hS dX5_isTold_16
def mX5_setTold (x0 : Int32) (x1 : Int32) (x2 : Int32) (f_margins : Nat → Int32) :
  Option ((Nat → Int32)) :=
  gi ((x0 * (24 : Int32)) + x1) 144 <|
  lb (upd f_margins ((x0 * (24 : Int32)) + x1).toNatClampNeg x2) fun g_2 =>
  some g_2
theorem hdsX5_setTold : yX5_setTold.cls ≠ "java/lang/invoke/MethodHandle" ∧ yX5_setTold.cls ≠ "java/lang/invoke/VarHandle" ∧ (parseMethodDescriptor yX5_setTold.desc).map (fun d => d.parameters.length) = some 3 := by decide +kernel
theorem hdvX5_setTold : yX5_setTold.cls = RX5 ∧ yX5_setTold.cls ≠ "java/lang/invoke/MethodHandle" ∧ yX5_setTold.cls ≠ "java/lang/invoke/VarHandle" ∧ (parseMethodDescriptor yX5_setTold.desc).map (fun d => d.parameters.length) = some 3 := by decide +kernel
abbrev rmX5_setTold : Room := { frames := 0, cells := 0, slots := 0, locals := 0 }
set_option maxHeartbeats 4000000 in
set_option maxRecDepth 100000 in
theorem qX5_setTold (l : Launch) (X : XT) (a_this : Nat) (a_margins : Nat) (a_delays : Nat) (a_odds : Nat)  (f_margins : Nat → Int32) (x0 : Int32) (x1 : Int32) (x2 : Int32) (o : (Nat → Int32)) (hf : mX5_setTold x0 x1 x2 f_margins = some o) :
    MC l yX5_setTold wsX5_setTold rmX5_setTold X [.ref a_this, .int x0, .int x1, .int x2] [(a_this, .inr (5, [.ref a_delays, .ref a_margins, .ref a_odds])), (a_margins, .inl (X.2.1 0, 144, .inl f_margins))]  (fun _ => [(a_this, .inr (5, [.ref a_delays, .ref a_margins, .ref a_odds])), (a_margins, .inl (X.2.1 0, 144, .inl o))]) 0 0 := by
  refine MC_ofH (cc := cX5_setTold) (maxL := 4) (by decide) rfl (Nat.le_of_ble_eq_true rfl) ?_
  intro p e s m below meth c A Q H ls hx hb hml hts hown hin hA hD hG hP hS hl ret
  have hown : s.vm.findClass RX5 = some m.cls := hown
  have hD : aD A [a_this, a_margins] := hD
  have hl : lv_has ls 4 [(0, .ref a_this), (1, .int x0), (2, .int x1), (3, .int x2)] := hl
  have w1 := hts (.fieldLink RX5 15 "ThreeCards$Notes" "margins" "[I") (List.mem_of_getElem? (i := 1) rfl)
  have in5 : ∀ w ∈ u_ws RX5 TX5 3, w ∈ wsX5_setTold := by decide +kernel
  unfold mX5_setTold at hf
  refine lv_aload_n hx hb dX5_setTold_0 rfl (lv_at hl 0 rfl) ?_
  refine va_get (D := X.1) (ci := 5) (v := .ref a_margins) (C := RX5) (T := TX5) (N := 3) hx hb hts in5 hown hG.1 hP 0 rfl rfl 1 (by decide) w1 (fun _ h9 => h9) rfl dX5_setTold_1 ?_
  refine lv_iload_n hx hb dX5_setTold_4 rfl (lv_at hl 1 rfl) ?_
  refine lv_bipush (v := (24 : Int32)) hx hb dX5_setTold_5 (by decide) ?_
  refine lv_imul hx hb dX5_setTold_7 ?_
  refine lv_iload_n hx hb dX5_setTold_8 rfl (lv_at hl 2 rfl) ?_
  refine lv_iadd hx hb dX5_setTold_9 ?_
  refine lv_iload_n hx hb dX5_setTold_10 rfl (lv_at hl 3 rfl) ?_
  obtain ⟨h_1, hf⟩ := gi_s hf
  obtain ⟨g_2, eg_2, hf⟩ := lb_g hf
  refine x_iast (ws' := [(a_this, .inr (5, [.ref a_delays, .ref a_margins, .ref a_odds])), (a_margins, .inl (X.2.1 0, 144, .inl g_2))]) hx hb hG hP hD rfl hS 1 rfl h_1 dX5_setTold_11 eg_2 rfl (fun H locs hP hS => ?_)
  obtain rfl := Option.some.inj hf
  exact ret (fun _ => 0) H _ ls _ hP hD hS dX5_setTold_12
def mX5_howManyTold_B4 (f_margins : Nat → Int32) (k4 : Int32 → Int32 → Option (Int32)) (l1 : Int32) (l2 : Int32) :
  Option (Int32) :=
  if (144 : Int32) ≤ l2 then (some l1) else (gi l2 144 <|
  if (f_margins l2.toNatClampNeg) = (-21 : Int32) then (lb (l1 + (0 : Int32)) fun v_4 =>
  lb (l2 + (1 : Int32)) fun v_5 =>
  k4 v_4 v_5) else (lb (l1 + (1 : Int32)) fun v_6 =>
  lb (l2 + (1 : Int32)) fun v_7 =>
  k4 v_6 v_7))
def mX5_howManyTold_L4 (f_margins : Nat → Int32) (n : Nat) (l1 : Int32) (l2 : Int32) :
  Option (Int32) :=
  loopN (fun k (s : Int32 × Int32) => mX5_howManyTold_B4 f_margins  (fun l1 l2 => k (l1, l2)) s.1 s.2) n (l1, l2)
def mX5_howManyTold (f_margins : Nat → Int32) :
  Option (Int32) :=
  mX5_howManyTold_L4 f_margins  FUEL (0 : Int32) (0 : Int32)
theorem hdsX5_howManyTold : yX5_howManyTold.cls ≠ "java/lang/invoke/MethodHandle" ∧ yX5_howManyTold.cls ≠ "java/lang/invoke/VarHandle" ∧ (parseMethodDescriptor yX5_howManyTold.desc).map (fun d => d.parameters.length) = some 0 := by decide +kernel
theorem hdvX5_howManyTold : yX5_howManyTold.cls = RX5 ∧ yX5_howManyTold.cls ≠ "java/lang/invoke/MethodHandle" ∧ yX5_howManyTold.cls ≠ "java/lang/invoke/VarHandle" ∧ (parseMethodDescriptor yX5_howManyTold.desc).map (fun d => d.parameters.length) = some 0 := by decide +kernel
abbrev rmX5_howManyTold : Room := { frames := 0, cells := 0, slots := 0, locals := 0 }
set_option maxHeartbeats 4000000 in
set_option maxRecDepth 100000 in
theorem qX5_howManyTold (l : Launch) (X : XT) (a_this : Nat) (a_margins : Nat) (a_delays : Nat) (a_odds : Nat)  (f_margins : Nat → Int32)  (o : Int32) (hf : mX5_howManyTold f_margins = some o) :
    MI l yX5_howManyTold wsX5_howManyTold rmX5_howManyTold X [.ref a_this] [(a_this, .inr (5, [.ref a_delays, .ref a_margins, .ref a_odds])), (a_margins, .inl (X.2.1 0, 144, .inl f_margins))]  [(a_this, .inr (5, [.ref a_delays, .ref a_margins, .ref a_odds])), (a_margins, .inl (X.2.1 0, 144, .inl f_margins))] o := by
  refine MI_ofH (cc := cX5_howManyTold) (maxL := 3) (rt := .int) (by decide) rfl (Nat.le_of_ble_eq_true rfl) ?_
  intro p e s m below meth c A Q H ls hx hb hml hts hown hA hD hG hP hS hl ret
  have hown : s.vm.findClass RX5 = some m.cls := hown
  have hD : aD A [a_this, a_margins] := hD
  have hl : lv_has ls 3 [(0, .ref a_this)] := hl
  have w1 := hts (.fieldLink RX5 15 "ThreeCards$Notes" "margins" "[I") (List.mem_of_getElem? (i := 1) rfl)
  have in5 : ∀ w ∈ u_ws RX5 TX5 3, w ∈ wsX5_howManyTold := by decide +kernel
  have hL4 : ∀ (n : Nat) (l1 : Int32) (l2 : Int32)  (H : Heap) (locs : List Loc) (ls : Array Slot), va_P X.1 vwCl [(a_this, .inr (5, [.ref a_delays, .ref a_margins, .ref a_odds])), (a_margins, .inl (X.2.1 0, 144, .inl f_margins))] H → va_S A s.heap H locs → lv_has ls 3 [(0, .ref a_this), (1, .int l1), (2, .int l2)] → mX5_howManyTold_L4 f_margins  n l1 l2 = some o → W p l e rmX5_howManyTold s m ([.ref a_this] : List Value).toArray below meth c H locs 0 0 Q (F0 m 4 ls []) := by
    intro n
    induction n with
    | zero => intro l1 l2  H locs ls hP hS hl hf; exact xn hf
    | succ n ih =>
      intro l1 l2  H locs ls hP hS hl hf
      have hf : mX5_howManyTold_B4 f_margins  (mX5_howManyTold_L4 f_margins  n) l1 l2 = some o := hf
      generalize mX5_howManyTold_L4 f_margins  n = k4 at ih hf
      unfold mX5_howManyTold_B4 at hf
      refine lv_iload_n hx hb dX5_howManyTold_4 rfl (lv_at hl 2 rfl) ?_
      refine lv_aload_n hx hb dX5_howManyTold_5 rfl (lv_at hl 0 rfl) ?_
      refine va_get (D := X.1) (ci := 5) (v := .ref a_margins) (C := RX5) (T := TX5) (N := 3) hx hb hts in5 hown hG.1 hP 0 rfl rfl 1 (by decide) w1 (fun _ h9 => h9) rfl dX5_howManyTold_6 ?_
      refine va_alen (D := X.1) (v := (144 : Int32)) hx hb hG.1 hP 1 0 rfl rfl rfl dX5_howManyTold_9 ?_
      refine lv_icmp_ge (tgt := 38) hx hb dX5_howManyTold_10 (by decide) (fun c_1 => ?_) (fun c_1 => ?_)
      · have hf := xt hf c_1
        refine lv_iload_n hx hb dX5_howManyTold_38 rfl (lv_at hl 1 rfl) ?_
        obtain rfl := Option.some.inj hf
        exact ret H _ ls _ rfl hP hD hS dX5_howManyTold_39
      · have hf := xf hf c_1
        refine lv_iload_n hx hb dX5_howManyTold_13 rfl (lv_at hl 1 rfl) ?_
        refine lv_aload_n hx hb dX5_howManyTold_14 rfl (lv_at hl 0 rfl) ?_
        refine va_get (D := X.1) (ci := 5) (v := .ref a_margins) (C := RX5) (T := TX5) (N := 3) hx hb hts in5 hown hG.1 hP 0 rfl rfl 1 (by decide) w1 (fun _ h9 => h9) rfl dX5_howManyTold_15 ?_
        refine lv_iload_n hx hb dX5_howManyTold_18 rfl (lv_at hl 2 rfl) ?_
        obtain ⟨h_2, hf⟩ := gi_s hf
        refine va_iald (D := X.1) hx hb hG.1 hP 1 0 rfl rfl h_2 dX5_howManyTold_19 ?_
        refine lv_bipush (v := (-21 : Int32)) hx hb dX5_howManyTold_20 (by decide) ?_
        refine lv_icmp_eq (tgt := 29) hx hb dX5_howManyTold_22 (by decide) (fun c_3 => ?_) (fun c_3 => ?_)
        · have hf := xt hf c_3
          refine lv_iconst (v := (0 : Int32)) hx hb dX5_howManyTold_29 (by decide) ?_
          refine lv_iadd hx hb dX5_howManyTold_30 ?_
          refine lv_topi (fun v_4 ev_4 => ?_)
          have hf := lb_s hf ev_4
          refine lv_istore_n (lv' := [(1, .int v_4), (0, .ref a_this), (2, .int l2)]) hx hb dX5_howManyTold_31 rfl hl (by decide) rfl (fun ls hl => ?_)
          obtain ⟨v_5, ev_5, hf⟩ := lb_g hf
          refine lv_iinc (v := v_5) (lv' := [(2, .int v_5), (1, .int v_4), (0, .ref a_this)]) hx hb dX5_howManyTold_32 hl (k := 2) rfl ev_5.symm (by decide) rfl (fun ls hl => ?_)
          refine lv_goto (tgt := 4) hx hb dX5_howManyTold_35 (by decide) ?_
          exact ih v_4 v_5  H _ ls hP  hS (lv_sub hl [2, 1, 0] rfl) hf
        · have hf := xf hf c_3
          refine lv_iconst (v := (1 : Int32)) hx hb dX5_howManyTold_25 (by decide) ?_
          refine lv_goto (tgt := 30) hx hb dX5_howManyTold_26 (by decide) ?_
          refine lv_iadd hx hb dX5_howManyTold_30 ?_
          refine lv_topi (fun v_6 ev_6 => ?_)
          have hf := lb_s hf ev_6
          refine lv_istore_n (lv' := [(1, .int v_6), (0, .ref a_this), (2, .int l2)]) hx hb dX5_howManyTold_31 rfl hl (by decide) rfl (fun ls hl => ?_)
          obtain ⟨v_7, ev_7, hf⟩ := lb_g hf
          refine lv_iinc (v := v_7) (lv' := [(2, .int v_7), (1, .int v_6), (0, .ref a_this)]) hx hb dX5_howManyTold_32 hl (k := 2) rfl ev_7.symm (by decide) rfl (fun ls hl => ?_)
          refine lv_goto (tgt := 4) hx hb dX5_howManyTold_35 (by decide) ?_
          exact ih v_6 v_7  H _ ls hP  hS (lv_sub hl [2, 1, 0] rfl) hf
  unfold mX5_howManyTold at hf
  refine lv_iconst (v := (0 : Int32)) hx hb dX5_howManyTold_0 (by decide) ?_
  refine lv_istore_n (lv' := [(1, .int (0 : Int32)), (0, .ref a_this)]) hx hb dX5_howManyTold_1 rfl hl (by decide) rfl (fun ls hl => ?_)
  refine lv_iconst (v := (0 : Int32)) hx hb dX5_howManyTold_2 (by decide) ?_
  refine lv_istore_n (lv' := [(2, .int (0 : Int32)), (1, .int (0 : Int32)), (0, .ref a_this)]) hx hb dX5_howManyTold_3 rfl hl (by decide) rfl (fun ls hl => ?_)
  exact hL4  FUEL (0 : Int32) (0 : Int32)  H _ ls hP  hS (lv_sub hl [2, 1, 0] rfl) hf
def mX5_tenthsOf (x0 : Int32) (x1 : Int32) (f_odds : Nat → Int32) :
  Option (Int32) :=
  gi ((x0 * (2 : Int32)) + x1) 4 <|
  lb (f_odds ((x0 * (2 : Int32)) + x1).toNatClampNeg) fun v_2 =>
  some v_2
theorem hdsX5_tenthsOf : yX5_tenthsOf.cls ≠ "java/lang/invoke/MethodHandle" ∧ yX5_tenthsOf.cls ≠ "java/lang/invoke/VarHandle" ∧ (parseMethodDescriptor yX5_tenthsOf.desc).map (fun d => d.parameters.length) = some 2 := by decide +kernel
theorem hdvX5_tenthsOf : yX5_tenthsOf.cls = RX5 ∧ yX5_tenthsOf.cls ≠ "java/lang/invoke/MethodHandle" ∧ yX5_tenthsOf.cls ≠ "java/lang/invoke/VarHandle" ∧ (parseMethodDescriptor yX5_tenthsOf.desc).map (fun d => d.parameters.length) = some 2 := by decide +kernel
abbrev rmX5_tenthsOf : Room := { frames := 0, cells := 0, slots := 0, locals := 0 }
set_option maxHeartbeats 4000000 in
set_option maxRecDepth 100000 in
theorem qX5_tenthsOf (l : Launch) (X : XT) (a_this : Nat) (a_odds : Nat) (a_delays : Nat) (a_margins : Nat)  (f_odds : Nat → Int32) (x0 : Int32) (x1 : Int32) (o : Int32) (hf : mX5_tenthsOf x0 x1 f_odds = some o) :
    MI l yX5_tenthsOf wsX5_tenthsOf rmX5_tenthsOf X [.ref a_this, .int x0, .int x1] [(a_this, .inr (5, [.ref a_delays, .ref a_margins, .ref a_odds])), (a_odds, .inl (X.2.1 0, 4, .inl f_odds))]  [(a_this, .inr (5, [.ref a_delays, .ref a_margins, .ref a_odds])), (a_odds, .inl (X.2.1 0, 4, .inl f_odds))] o := by
  refine MI_ofH (cc := cX5_tenthsOf) (maxL := 3) (rt := .int) (by decide) rfl (Nat.le_of_ble_eq_true rfl) ?_
  intro p e s m below meth c A Q H ls hx hb hml hts hown hA hD hG hP hS hl ret
  have hown : s.vm.findClass RX5 = some m.cls := hown
  have hD : aD A [a_this, a_odds] := hD
  have hl : lv_has ls 3 [(0, .ref a_this), (1, .int x0), (2, .int x1)] := hl
  have w1 := hts (.fieldLink RX5 18 "ThreeCards$Notes" "odds" "[I") (List.mem_of_getElem? (i := 1) rfl)
  have in5 : ∀ w ∈ u_ws RX5 TX5 3, w ∈ wsX5_tenthsOf := by decide +kernel
  unfold mX5_tenthsOf at hf
  refine lv_aload_n hx hb dX5_tenthsOf_0 rfl (lv_at hl 0 rfl) ?_
  refine va_get (D := X.1) (ci := 5) (v := .ref a_odds) (C := RX5) (T := TX5) (N := 3) hx hb hts in5 hown hG.1 hP 0 rfl rfl 2 (by decide) w1 (fun _ h9 => h9) rfl dX5_tenthsOf_1 ?_
  refine lv_iload_n hx hb dX5_tenthsOf_4 rfl (lv_at hl 1 rfl) ?_
  refine lv_iconst (v := (2 : Int32)) hx hb dX5_tenthsOf_5 (by decide) ?_
  refine lv_imul hx hb dX5_tenthsOf_6 ?_
  refine lv_iload_n hx hb dX5_tenthsOf_7 rfl (lv_at hl 2 rfl) ?_
  refine lv_iadd hx hb dX5_tenthsOf_8 ?_
  obtain ⟨h_1, hf⟩ := gi_s hf
  refine va_iald (D := X.1) hx hb hG.1 hP 1 0 rfl rfl h_1 dX5_tenthsOf_9 ?_
  refine lv_topi (fun v_2 ev_2 => ?_)
  have hf := lb_s hf ev_2
  obtain rfl := Option.some.inj hf
  exact ret H _ ls _ rfl hP hD hS dX5_tenthsOf_10
def mX5_setTenths (x0 : Int32) (x1 : Int32) (x2 : Int32) (f_odds : Nat → Int32) :
  Option ((Nat → Int32)) :=
  gi ((x0 * (2 : Int32)) + x1) 4 <|
  lb (upd f_odds ((x0 * (2 : Int32)) + x1).toNatClampNeg x2) fun g_2 =>
  some g_2
theorem hdsX5_setTenths : yX5_setTenths.cls ≠ "java/lang/invoke/MethodHandle" ∧ yX5_setTenths.cls ≠ "java/lang/invoke/VarHandle" ∧ (parseMethodDescriptor yX5_setTenths.desc).map (fun d => d.parameters.length) = some 3 := by decide +kernel
theorem hdvX5_setTenths : yX5_setTenths.cls = RX5 ∧ yX5_setTenths.cls ≠ "java/lang/invoke/MethodHandle" ∧ yX5_setTenths.cls ≠ "java/lang/invoke/VarHandle" ∧ (parseMethodDescriptor yX5_setTenths.desc).map (fun d => d.parameters.length) = some 3 := by decide +kernel
abbrev rmX5_setTenths : Room := { frames := 0, cells := 0, slots := 0, locals := 0 }
set_option maxHeartbeats 4000000 in
set_option maxRecDepth 100000 in
theorem qX5_setTenths (l : Launch) (X : XT) (a_this : Nat) (a_odds : Nat) (a_delays : Nat) (a_margins : Nat)  (f_odds : Nat → Int32) (x0 : Int32) (x1 : Int32) (x2 : Int32) (o : (Nat → Int32)) (hf : mX5_setTenths x0 x1 x2 f_odds = some o) :
    MC l yX5_setTenths wsX5_setTenths rmX5_setTenths X [.ref a_this, .int x0, .int x1, .int x2] [(a_this, .inr (5, [.ref a_delays, .ref a_margins, .ref a_odds])), (a_odds, .inl (X.2.1 0, 4, .inl f_odds))]  (fun _ => [(a_this, .inr (5, [.ref a_delays, .ref a_margins, .ref a_odds])), (a_odds, .inl (X.2.1 0, 4, .inl o))]) 0 0 := by
  refine MC_ofH (cc := cX5_setTenths) (maxL := 4) (by decide) rfl (Nat.le_of_ble_eq_true rfl) ?_
  intro p e s m below meth c A Q H ls hx hb hml hts hown hin hA hD hG hP hS hl ret
  have hown : s.vm.findClass RX5 = some m.cls := hown
  have hD : aD A [a_this, a_odds] := hD
  have hl : lv_has ls 4 [(0, .ref a_this), (1, .int x0), (2, .int x1), (3, .int x2)] := hl
  have w1 := hts (.fieldLink RX5 18 "ThreeCards$Notes" "odds" "[I") (List.mem_of_getElem? (i := 1) rfl)
  have in5 : ∀ w ∈ u_ws RX5 TX5 3, w ∈ wsX5_setTenths := by decide +kernel
  unfold mX5_setTenths at hf
  refine lv_aload_n hx hb dX5_setTenths_0 rfl (lv_at hl 0 rfl) ?_
  refine va_get (D := X.1) (ci := 5) (v := .ref a_odds) (C := RX5) (T := TX5) (N := 3) hx hb hts in5 hown hG.1 hP 0 rfl rfl 2 (by decide) w1 (fun _ h9 => h9) rfl dX5_setTenths_1 ?_
  refine lv_iload_n hx hb dX5_setTenths_4 rfl (lv_at hl 1 rfl) ?_
  refine lv_iconst (v := (2 : Int32)) hx hb dX5_setTenths_5 (by decide) ?_
  refine lv_imul hx hb dX5_setTenths_6 ?_
  refine lv_iload_n hx hb dX5_setTenths_7 rfl (lv_at hl 2 rfl) ?_
  refine lv_iadd hx hb dX5_setTenths_8 ?_
  refine lv_iload_n hx hb dX5_setTenths_9 rfl (lv_at hl 3 rfl) ?_
  obtain ⟨h_1, hf⟩ := gi_s hf
  obtain ⟨g_2, eg_2, hf⟩ := lb_g hf
  refine x_iast (ws' := [(a_this, .inr (5, [.ref a_delays, .ref a_margins, .ref a_odds])), (a_odds, .inl (X.2.1 0, 4, .inl g_2))]) hx hb hG hP hD rfl hS 1 rfl h_1 dX5_setTenths_10 eg_2 rfl (fun H locs hP hS => ?_)
  obtain rfl := Option.some.inj hf
  exact ret (fun _ => 0) H _ ls _ hP hD hS dX5_setTenths_11
def mX8_append_B19 (x0 : Int32) (x1 : Int64) (k19 : Int32 → (Nat → Int32) → Int32 → Option (Int32 × (Nat → Int32) × Int32)) (l4 : Int32) (f_bytes : Nat → Int32) (i_length : Int32) :
  Option (Int32 × (Nat → Int32) × Int32) :=
  if l4 < 0 then (some ((1 : Int32), f_bytes, i_length)) else (gi i_length 500 <|
  lb (upd f_bytes i_length.toNatClampNeg (vp_nar .byte (Int8.toInt32 (Int32.toInt8 (Int64.toInt32 (x1 >>> (Int32.toInt64 ((8 : Int32) * l4) &&& 63))))))) fun g_5 =>
  lb (i_length + (1 : Int32)) fun v_6 =>
  lb (l4 + (-1 : Int32)) fun v_7 =>
  k19 v_7 g_5 v_6)
def mX8_append_L19 (x0 : Int32) (x1 : Int64) (n : Nat) (l4 : Int32) (f_bytes : Nat → Int32) (i_length : Int32) :
  Option (Int32 × (Nat → Int32) × Int32) :=
  loopN (fun k (s : Int32 × (Nat → Int32) × Int32) => mX8_append_B19 x0 x1  (fun l4 f_bytes i_length => k (l4, f_bytes, i_length)) s.1 s.2.1 s.2.2) n (l4, f_bytes, i_length)
def mX8_append (x0 : Int32) (x1 : Int64) (i_length : Int32) (f_bytes : Nat → Int32) :
  Option (Int32 × (Nat → Int32) × Int32) :=
  if x0 ≤ ((500 : Int32) - i_length) then (lb (x0 - (1 : Int32)) fun v_2 =>
  mX8_append_L19 x0 x1  FUEL v_2 f_bytes i_length) else (some ((0 : Int32), f_bytes, i_length))
theorem hdsX8_append : yX8_append.cls ≠ "java/lang/invoke/MethodHandle" ∧ yX8_append.cls ≠ "java/lang/invoke/VarHandle" ∧ (parseMethodDescriptor yX8_append.desc).map (fun d => d.parameters.length) = some 2 := by decide +kernel
theorem hdvX8_append : yX8_append.cls = RX8 ∧ yX8_append.cls ≠ "java/lang/invoke/MethodHandle" ∧ yX8_append.cls ≠ "java/lang/invoke/VarHandle" ∧ (parseMethodDescriptor yX8_append.desc).map (fun d => d.parameters.length) = some 2 := by decide +kernel
abbrev rmX8_append : Room := { frames := 0, cells := 0, slots := 0, locals := 0 }
set_option maxHeartbeats 4000000 in
set_option maxRecDepth 100000 in
theorem qX8_append (l : Launch) (X : XT) (a_this : Nat) (a_bytes : Nat)  (i_length : Int32) (f_bytes : Nat → Int32) (x0 : Int32) (x1 : Int64) (o : Int32 × (Nat → Int32) × Int32) (hf : mX8_append x0 x1 i_length f_bytes = some o) :
    MI l yX8_append wsX8_append rmX8_append X [.ref a_this, .int x0, .long x1] [(a_this, .inr (8, [.ref a_bytes, .int i_length])), (a_bytes, .inl (X.2.1 2, 500, .inl f_bytes))]  [(a_this, .inr (8, [.ref a_bytes, .int o.2.2])), (a_bytes, .inl (X.2.1 2, 500, .inl o.2.1))] o.1 := by
  refine MI_ofH (cc := cX8_append) (maxL := 5) (rt := .boolean) (by decide) rfl (Nat.le_of_ble_eq_true rfl) ?_
  intro p e s m below meth c A Q H ls hx hb hml hts hown hA hD hG hP hS hl ret
  have hown : s.vm.findClass RX8 = some m.cls := hown
  have hD : aD A [a_this, a_bytes] := hD
  have hl : lv_has ls 5 [(0, .ref a_this), (1, .int x0), (2, .long x1)] := hl
  have w1 := hts (.fieldLink RX8 13 "ThreeCards$Text" "length" "I") (List.mem_of_getElem? (i := 1) rfl)
  have w2 := hts (.fieldLink RX8 9 "ThreeCards$Text" "bytes" "[B") (List.mem_of_getElem? (i := 2) rfl)
  have in8 : ∀ w ∈ u_ws RX8 TX8 2, w ∈ wsX8_append := by decide +kernel
  have hL19 : ∀ (n : Nat) (l4 : Int32) (f_bytes : Nat → Int32) (i_length : Int32)  (H : Heap) (locs : List Loc) (ls : Array Slot), va_P X.1 vwCl [(a_this, .inr (8, [.ref a_bytes, .int i_length])), (a_bytes, .inl (X.2.1 2, 500, .inl f_bytes))] H → va_S A s.heap H locs → lv_has ls 5 [(0, .ref a_this), (2, .long x1), (4, .int l4)] → mX8_append_L19 x0 x1  n l4 f_bytes i_length = some o → W p l e rmX8_append s m ([.ref a_this, .int x0, .long x1] : List Value).toArray below meth c H locs 0 0 Q (F0 m 19 ls []) := by
    intro n
    induction n with
    | zero => intro l4 f_bytes i_length  H locs ls hP hS hl hf; exact xn hf
    | succ n ih =>
      intro l4 f_bytes i_length  H locs ls hP hS hl hf
      have hf : mX8_append_B19 x0 x1  (mX8_append_L19 x0 x1  n) l4 f_bytes i_length = some o := hf
      generalize mX8_append_L19 x0 x1  n = k19 at ih hf
      unfold mX8_append_B19 at hf
      refine lv_iload hx hb dX8_append_19 (lv_at hl 2 rfl) ?_
      refine lv_if_lt (tgt := 58) hx hb dX8_append_21 (by decide) (fun c_3 => ?_) (fun c_3 => ?_)
      · have hf := xt hf c_3
        refine lv_iconst (v := (1 : Int32)) hx hb dX8_append_58 (by decide) ?_
        obtain rfl := Option.some.inj hf
        exact ret H _ ls _ (show narrow .boolean (.int (1 : Int32)) = .int (1 : Int32) from rfl) hP hD hS dX8_append_59
      · have hf := xf hf c_3
        refine lv_aload_n hx hb dX8_append_24 rfl (lv_at hl 0 rfl) ?_
        refine va_get (D := X.1) (ci := 8) (v := .ref a_bytes) (C := RX8) (T := TX8) (N := 2) hx hb hts in8 hown hG.1 hP 0 rfl rfl 0 (by decide) w2 (fun _ h9 => h9) rfl dX8_append_25 ?_
        refine lv_aload_n hx hb dX8_append_28 rfl (lv_at hl 0 rfl) ?_
        refine va_get (D := X.1) (ci := 8) (v := .int i_length) (C := RX8) (T := TX8) (N := 2) hx hb hts in8 hown hG.1 hP 0 rfl rfl 1 (by decide) w1 (fun _ h9 => h9) rfl dX8_append_29 ?_
        refine lv_lload_n hx hb dX8_append_32 rfl (lv_at hl 1 rfl) ?_
        refine lv_bipush (v := (8 : Int32)) hx hb dX8_append_33 (by decide) ?_
        refine lv_iload hx hb dX8_append_35 (lv_at hl 2 rfl) ?_
        refine lv_imul hx hb dX8_append_37 ?_
        refine lv_lshr hx hb dX8_append_38 rfl ?_
        refine lv_l2i hx hb dX8_append_39 rfl ?_
        refine lv_i2b hx hb dX8_append_40 rfl ?_
        obtain ⟨h_4, hf⟩ := gi_s hf
        obtain ⟨g_5, eg_5, hf⟩ := lb_g hf
        refine x_bast (ws' := [(a_this, .inr (8, [.ref a_bytes, .int i_length])), (a_bytes, .inl (X.2.1 2, 500, .inl g_5))]) hx hb hG hP hD rfl hS 1 rfl h_4 dX8_append_41 eg_5 rfl (fun H locs hP hS => ?_)
        refine lv_aload_n hx hb dX8_append_42 rfl (lv_at hl 0 rfl) ?_
        refine lv_dup hx hb dX8_append_43 rfl ?_
        refine va_get (D := X.1) (ci := 8) (v := .int i_length) (C := RX8) (T := TX8) (N := 2) hx hb hts in8 hown hG.1 hP 0 rfl rfl 1 (by decide) w1 (fun _ h9 => h9) rfl dX8_append_44 ?_
        refine lv_iconst (v := (1 : Int32)) hx hb dX8_append_47 (by decide) ?_
        refine lv_iadd hx hb dX8_append_48 ?_
        refine lv_topi (fun v_6 ev_6 => ?_)
        have hf := lb_s hf ev_6
        refine x_put (ws' := [(a_this, .inr (8, [.ref a_bytes, .int v_6])), (a_bytes, .inl (X.2.1 2, 500, .inl g_5))]) (ty := .int) (C := RX8) (T := TX8) (N := 2) hx hb hts in8 tyX8 tyX8_ok nmX8 hown hG hP hD rfl hS 0 rfl rfl 1 (by decide) w1 rfl (tyX8_ok 1 (by decide)) rfl rfl (Nat.le_of_ble_eq_true rfl) dX8_append_49 rfl (fun H locs hP hS => ?_)
        obtain ⟨v_7, ev_7, hf⟩ := lb_g hf
        refine lv_iinc (v := v_7) (lv' := [(4, .int v_7), (0, .ref a_this), (2, .long x1)]) hx hb dX8_append_52 hl (k := 2) rfl ev_7.symm (by decide) rfl (fun ls hl => ?_)
        refine lv_goto (tgt := 19) hx hb dX8_append_55 (by decide) ?_
        exact ih v_7 g_5 v_6  H _ ls hP  hS (lv_sub hl [1, 2, 0] rfl) hf
  unfold mX8_append at hf
  refine lv_iload_n hx hb dX8_append_0 rfl (lv_at hl 1 rfl) ?_
  refine lv_sipush (v := (500 : Int32)) hx hb dX8_append_1 (by decide) ?_
  refine lv_aload_n hx hb dX8_append_4 rfl (lv_at hl 0 rfl) ?_
  refine va_get (D := X.1) (ci := 8) (v := .int i_length) (C := RX8) (T := TX8) (N := 2) hx hb hts in8 hown hG.1 hP 0 rfl rfl 1 (by decide) w1 (fun _ h9 => h9) rfl dX8_append_5 ?_
  refine lv_isub hx hb dX8_append_8 ?_
  refine lv_icmp_le (tgt := 14) hx hb dX8_append_9 (by decide) (fun c_1 => ?_) (fun c_1 => ?_)
  · have hf := xt hf c_1
    refine lv_iload_n hx hb dX8_append_14 rfl (lv_at hl 1 rfl) ?_
    refine lv_iconst (v := (1 : Int32)) hx hb dX8_append_15 (by decide) ?_
    refine lv_isub hx hb dX8_append_16 ?_
    refine lv_topi (fun v_2 ev_2 => ?_)
    have hf := lb_s hf ev_2
    refine lv_istore (lv' := [(4, .int v_2), (0, .ref a_this), (1, .int x0), (2, .long x1)]) hx hb dX8_append_17 hl (by decide) rfl (fun ls hl => ?_)
    exact hL19  FUEL v_2 f_bytes i_length  H _ ls hP  hS (lv_sub hl [1, 3, 0] rfl) hf
  · have hf := xf hf c_1
    refine lv_iconst (v := (0 : Int32)) hx hb dX8_append_12 (by decide) ?_
    obtain rfl := Option.some.inj hf
    exact ret H _ ls _ (show narrow .boolean (.int (0 : Int32)) = .int (0 : Int32) from rfl) hP hD hS dX8_append_13
def mX8_empty (i_length : Int32) :
  Option (Int32 × Int32) :=
  some (i_length, (0 : Int32))
theorem hdsX8_empty : yX8_empty.cls ≠ "java/lang/invoke/MethodHandle" ∧ yX8_empty.cls ≠ "java/lang/invoke/VarHandle" ∧ (parseMethodDescriptor yX8_empty.desc).map (fun d => d.parameters.length) = some 0 := by decide +kernel
theorem hdvX8_empty : yX8_empty.cls = RX8 ∧ yX8_empty.cls ≠ "java/lang/invoke/MethodHandle" ∧ yX8_empty.cls ≠ "java/lang/invoke/VarHandle" ∧ (parseMethodDescriptor yX8_empty.desc).map (fun d => d.parameters.length) = some 0 := by decide +kernel
abbrev rmX8_empty : Room := { frames := 0, cells := 0, slots := 0, locals := 0 }
set_option maxHeartbeats 4000000 in
set_option maxRecDepth 100000 in
theorem qX8_empty (l : Launch) (X : XT) (a_this : Nat) (a_bytes : Nat)  (i_length : Int32)  (o : Int32 × Int32) (hf : mX8_empty i_length = some o) :
    MI l yX8_empty wsX8_empty rmX8_empty X [.ref a_this] [(a_this, .inr (8, [.ref a_bytes, .int i_length]))]  [(a_this, .inr (8, [.ref a_bytes, .int o.2]))] o.1 := by
  refine MI_ofH (cc := cX8_empty) (maxL := 2) (rt := .int) (by decide) rfl (Nat.le_of_ble_eq_true rfl) ?_
  intro p e s m below meth c A Q H ls hx hb hml hts hown hA hD hG hP hS hl ret
  have hown : s.vm.findClass RX8 = some m.cls := hown
  have hD : aD A [a_this] := hD
  have hl : lv_has ls 2 [(0, .ref a_this)] := hl
  have w1 := hts (.fieldLink RX8 13 "ThreeCards$Text" "length" "I") (List.mem_of_getElem? (i := 1) rfl)
  have in8 : ∀ w ∈ u_ws RX8 TX8 2, w ∈ wsX8_empty := by decide +kernel
  unfold mX8_empty at hf
  refine lv_aload_n hx hb dX8_empty_0 rfl (lv_at hl 0 rfl) ?_
  refine va_get (D := X.1) (ci := 8) (v := .int i_length) (C := RX8) (T := TX8) (N := 2) hx hb hts in8 hown hG.1 hP 0 rfl rfl 1 (by decide) w1 (fun _ h9 => h9) rfl dX8_empty_1 ?_
  refine lv_istore_n (lv' := [(1, .int i_length), (0, .ref a_this)]) hx hb dX8_empty_4 rfl hl (by decide) rfl (fun ls hl => ?_)
  refine lv_aload_n hx hb dX8_empty_5 rfl (lv_at hl 1 rfl) ?_
  refine lv_iconst (v := (0 : Int32)) hx hb dX8_empty_6 (by decide) ?_
  refine x_put (ws' := [(a_this, .inr (8, [.ref a_bytes, .int (0 : Int32)]))]) (ty := .int) (C := RX8) (T := TX8) (N := 2) hx hb hts in8 tyX8 tyX8_ok nmX8 hown hG hP hD rfl hS 0 rfl rfl 1 (by decide) w1 rfl (tyX8_ok 1 (by decide)) rfl rfl (Nat.le_of_ble_eq_true rfl) dX8_empty_7 rfl (fun H locs hP hS => ?_)
  refine lv_iload_n hx hb dX8_empty_10 rfl (lv_at hl 0 rfl) ?_
  obtain rfl := Option.some.inj hf
  exact ret H _ ls _ rfl hP hD hS dX8_empty_11
def mX8_byteAt (x0 : Int32) (i_length : Int32) (f_bytes : Nat → Int32) :
  Option (Int32) :=
  if x0 < 0 then (some (-1 : Int32)) else (if i_length ≤ x0 then (some (-1 : Int32)) else (gi x0 500 <|
  lb ((f_bytes x0.toNatClampNeg) &&& (255 : Int32)) fun v_4 =>
  some v_4))
theorem hdsX8_byteAt : yX8_byteAt.cls ≠ "java/lang/invoke/MethodHandle" ∧ yX8_byteAt.cls ≠ "java/lang/invoke/VarHandle" ∧ (parseMethodDescriptor yX8_byteAt.desc).map (fun d => d.parameters.length) = some 1 := by decide +kernel
theorem hdvX8_byteAt : yX8_byteAt.cls = RX8 ∧ yX8_byteAt.cls ≠ "java/lang/invoke/MethodHandle" ∧ yX8_byteAt.cls ≠ "java/lang/invoke/VarHandle" ∧ (parseMethodDescriptor yX8_byteAt.desc).map (fun d => d.parameters.length) = some 1 := by decide +kernel
abbrev rmX8_byteAt : Room := { frames := 0, cells := 0, slots := 0, locals := 0 }
set_option maxHeartbeats 4000000 in
set_option maxRecDepth 100000 in
theorem qX8_byteAt (l : Launch) (X : XT) (a_this : Nat) (a_bytes : Nat)  (i_length : Int32) (f_bytes : Nat → Int32) (x0 : Int32) (o : Int32) (hf : mX8_byteAt x0 i_length f_bytes = some o) :
    MI l yX8_byteAt wsX8_byteAt rmX8_byteAt X [.ref a_this, .int x0] [(a_this, .inr (8, [.ref a_bytes, .int i_length])), (a_bytes, .inl (X.2.1 2, 500, .inl f_bytes))]  [(a_this, .inr (8, [.ref a_bytes, .int i_length])), (a_bytes, .inl (X.2.1 2, 500, .inl f_bytes))] o := by
  refine MI_ofH (cc := cX8_byteAt) (maxL := 2) (rt := .int) (by decide) rfl (Nat.le_of_ble_eq_true rfl) ?_
  intro p e s m below meth c A Q H ls hx hb hml hts hown hA hD hG hP hS hl ret
  have hown : s.vm.findClass RX8 = some m.cls := hown
  have hD : aD A [a_this, a_bytes] := hD
  have hl : lv_has ls 2 [(0, .ref a_this), (1, .int x0)] := hl
  have w1 := hts (.fieldLink RX8 13 "ThreeCards$Text" "length" "I") (List.mem_of_getElem? (i := 1) rfl)
  have w2 := hts (.fieldLink RX8 9 "ThreeCards$Text" "bytes" "[B") (List.mem_of_getElem? (i := 2) rfl)
  have in8 : ∀ w ∈ u_ws RX8 TX8 2, w ∈ wsX8_byteAt := by decide +kernel
  unfold mX8_byteAt at hf
  refine lv_iload_n hx hb dX8_byteAt_0 rfl (lv_at hl 1 rfl) ?_
  refine lv_if_lt (tgt := 25) hx hb dX8_byteAt_1 (by decide) (fun c_1 => ?_) (fun c_1 => ?_)
  · have hf := xt hf c_1
    refine lv_iconst (v := (-1 : Int32)) hx hb dX8_byteAt_25 (by decide) ?_
    obtain rfl := Option.some.inj hf
    exact ret H _ ls _ rfl hP hD hS dX8_byteAt_26
  · have hf := xf hf c_1
    refine lv_iload_n hx hb dX8_byteAt_4 rfl (lv_at hl 1 rfl) ?_
    refine lv_aload_n hx hb dX8_byteAt_5 rfl (lv_at hl 0 rfl) ?_
    refine va_get (D := X.1) (ci := 8) (v := .int i_length) (C := RX8) (T := TX8) (N := 2) hx hb hts in8 hown hG.1 hP 0 rfl rfl 1 (by decide) w1 (fun _ h9 => h9) rfl dX8_byteAt_6 ?_
    refine lv_icmp_ge (tgt := 25) hx hb dX8_byteAt_9 (by decide) (fun c_2 => ?_) (fun c_2 => ?_)
    · have hf := xt hf c_2
      refine lv_iconst (v := (-1 : Int32)) hx hb dX8_byteAt_25 (by decide) ?_
      obtain rfl := Option.some.inj hf
      exact ret H _ ls _ rfl hP hD hS dX8_byteAt_26
    · have hf := xf hf c_2
      refine lv_aload_n hx hb dX8_byteAt_12 rfl (lv_at hl 0 rfl) ?_
      refine va_get (D := X.1) (ci := 8) (v := .ref a_bytes) (C := RX8) (T := TX8) (N := 2) hx hb hts in8 hown hG.1 hP 0 rfl rfl 0 (by decide) w2 (fun _ h9 => h9) rfl dX8_byteAt_13 ?_
      refine lv_iload_n hx hb dX8_byteAt_16 rfl (lv_at hl 1 rfl) ?_
      obtain ⟨h_3, hf⟩ := gi_s hf
      refine va_bald (D := X.1) hx hb hG.1 hP 1 2 rfl rfl h_3 dX8_byteAt_17 ?_
      refine lv_sipush (v := (255 : Int32)) hx hb dX8_byteAt_18 (by decide) ?_
      refine lv_iand hx hb dX8_byteAt_21 ?_
      refine lv_goto (tgt := 26) hx hb dX8_byteAt_22 (by decide) ?_
      refine lv_topi (fun v_4 ev_4 => ?_)
      have hf := lb_s hf ev_4
      obtain rfl := Option.some.inj hf
      exact ret H _ ls _ rfl hP hD hS dX8_byteAt_26
def mX10_within (x0 : Int32) (x1 : Int32) (x2 : Int32) :
  Option (Int32) :=
  if x0 < x1 then (some (0 : Int32)) else (if x2 < x0 then (some (0 : Int32)) else (some (1 : Int32)))
theorem hdsX10_within : yX10_within.cls ≠ "java/lang/invoke/MethodHandle" ∧ yX10_within.cls ≠ "java/lang/invoke/VarHandle" ∧ (parseMethodDescriptor yX10_within.desc).map (fun d => d.parameters.length) = some 3 := by decide +kernel
abbrev rmX10_within : Room := { frames := 0, cells := 0, slots := 0, locals := 0 }
set_option maxHeartbeats 4000000 in
set_option maxRecDepth 100000 in
theorem qX10_within (l : Launch) (X : XT)    (x0 : Int32) (x1 : Int32) (x2 : Int32) (o : Int32) (hf : mX10_within x0 x1 x2 = some o) :
    MI l yX10_within wsX10_within rmX10_within X [.int x0, .int x1, .int x2] []  [] o := by
  refine MI_ofH (cc := cX10_within) (maxL := 3) (rt := .boolean) (by decide) rfl (Nat.le_of_ble_eq_true rfl) ?_
  intro p e s m below meth c A Q H ls hx hb hml hts hown hA hD hG hP hS hl ret
  have hown : s.vm.findClass RX10 = some m.cls := hown
  have hD : aD A [] := hD
  have hl : lv_has ls 3 [(0, .int x0), (1, .int x1), (2, .int x2)] := hl
  unfold mX10_within at hf
  refine lv_iload_n hx hb dX10_within_0 rfl (lv_at hl 0 rfl) ?_
  refine lv_iload_n hx hb dX10_within_1 rfl (lv_at hl 1 rfl) ?_
  refine lv_icmp_lt (tgt := 14) hx hb dX10_within_2 (by decide) (fun c_1 => ?_) (fun c_1 => ?_)
  · have hf := xt hf c_1
    refine lv_iconst (v := (0 : Int32)) hx hb dX10_within_14 (by decide) ?_
    obtain rfl := Option.some.inj hf
    exact ret H _ ls _ (show narrow .boolean (.int (0 : Int32)) = .int (0 : Int32) from rfl) hP hD hS dX10_within_15
  · have hf := xf hf c_1
    refine lv_iload_n hx hb dX10_within_5 rfl (lv_at hl 0 rfl) ?_
    refine lv_iload_n hx hb dX10_within_6 rfl (lv_at hl 2 rfl) ?_
    refine lv_icmp_gt (tgt := 14) hx hb dX10_within_7 (by decide) (fun c_2 => ?_) (fun c_2 => ?_)
    · have hf := xt hf c_2
      refine lv_iconst (v := (0 : Int32)) hx hb dX10_within_14 (by decide) ?_
      obtain rfl := Option.some.inj hf
      exact ret H _ ls _ (show narrow .boolean (.int (0 : Int32)) = .int (0 : Int32) from rfl) hP hD hS dX10_within_15
    · have hf := xf hf c_2
      refine lv_iconst (v := (1 : Int32)) hx hb dX10_within_10 (by decide) ?_
      refine lv_goto (tgt := 15) hx hb dX10_within_11 (by decide) ?_
      obtain rfl := Option.some.inj hf
      exact ret H _ ls _ (show narrow .boolean (.int (1 : Int32)) = .int (1 : Int32) from rfl) hP hD hS dX10_within_15
def mX6_readNumber_B66 (i_text_length : Int32) (f_text_bytes : Nat → Int32) (l1 : Int32) (l2 : Int32) (i_place : Int32) :
  Option (Int32 × Int32) :=
  if l2 = 0 then (some ((-1 : Int32), i_place)) else (some (l1, i_place))
def mX6_readNumber_B4 (i_text_length : Int32) (f_text_bytes : Nat → Int32) (k4 : Int32 → Int32 → Int32 → Option (Int32 × Int32)) (l1 : Int32) (l2 : Int32) (i_place : Int32) :
  Option (Int32 × Int32) :=
  if (3 : Int32) ≤ l2 then (mX6_readNumber_B66 i_text_length f_text_bytes  l1 l2 i_place) else ((mX8_byteAt i_place i_text_length f_text_bytes).bind fun o_2 =>
  (mX10_within o_2 (48 : Int32) (57 : Int32)).bind fun o_4 =>
  if o_4 = 0 then (mX6_readNumber_B66 i_text_length f_text_bytes  l1 l2 i_place) else ((mX8_byteAt i_place i_text_length f_text_bytes).bind fun o_7 =>
  lb (((l1 * (10 : Int32)) + o_7) - (48 : Int32)) fun v_9 =>
  lb (l2 + (1 : Int32)) fun v_10 =>
  lb (i_place + (1 : Int32)) fun v_11 =>
  k4 v_9 v_10 v_11))
def mX6_readNumber_L4 (i_text_length : Int32) (f_text_bytes : Nat → Int32) (n : Nat) (l1 : Int32) (l2 : Int32) (i_place : Int32) :
  Option (Int32 × Int32) :=
  loopN (fun k (s : Int32 × Int32 × Int32) => mX6_readNumber_B4 i_text_length f_text_bytes  (fun l1 l2 i_place => k (l1, l2, i_place)) s.1 s.2.1 s.2.2) n (l1, l2, i_place)
def mX6_readNumber (i_place : Int32) (i_text_length : Int32) (f_text_bytes : Nat → Int32) :
  Option (Int32 × Int32) :=
  mX6_readNumber_L4 i_text_length f_text_bytes  FUEL (0 : Int32) (0 : Int32) i_place
theorem hdsX6_readNumber : yX6_readNumber.cls ≠ "java/lang/invoke/MethodHandle" ∧ yX6_readNumber.cls ≠ "java/lang/invoke/VarHandle" ∧ (parseMethodDescriptor yX6_readNumber.desc).map (fun d => d.parameters.length) = some 0 := by decide +kernel
theorem hdvX6_readNumber : yX6_readNumber.cls = RX6 ∧ yX6_readNumber.cls ≠ "java/lang/invoke/MethodHandle" ∧ yX6_readNumber.cls ≠ "java/lang/invoke/VarHandle" ∧ (parseMethodDescriptor yX6_readNumber.desc).map (fun d => d.parameters.length) = some 0 := by decide +kernel
abbrev rmX6_readNumber : Room := { frames := 1, cells := 0, slots := 0, locals := 22 }
set_option maxHeartbeats 4000000 in
set_option maxRecDepth 100000 in
theorem qX6_readNumber (l : Launch) (X : XT) (a_this : Nat) (a_text : Nat) (a_text_bytes : Nat) (a_numbers : Nat)  (i_place : Int32) (i_text_length : Int32) (f_text_bytes : Nat → Int32)  (o : Int32 × Int32) (hf : mX6_readNumber i_place i_text_length f_text_bytes = some o) :
    MI l yX6_readNumber wsX6_readNumber rmX6_readNumber X [.ref a_this] [(a_this, .inr (6, [.ref a_text, .ref a_numbers, .int i_place])), (a_text, .inr (8, [.ref a_text_bytes, .int i_text_length])), (a_text_bytes, .inl (X.2.1 2, 500, .inl f_text_bytes))]  [(a_this, .inr (6, [.ref a_text, .ref a_numbers, .int o.2])), (a_text, .inr (8, [.ref a_text_bytes, .int i_text_length])), (a_text_bytes, .inl (X.2.1 2, 500, .inl f_text_bytes))] o.1 := by
  refine MI_ofH (cc := cX6_readNumber) (maxL := 3) (rt := .int) (by decide) rfl (Nat.le_of_ble_eq_true rfl) ?_
  intro p e s m below meth c A Q H ls hx hb hml hts hown hA hD hG hP hS hl ret
  have hown : s.vm.findClass RX6 = some m.cls := hown
  have hD : aD A [a_this, a_text, a_text_bytes] := hD
  have hl : lv_has ls 3 [(0, .ref a_this)] := hl
  have w1 := hts (.fieldLink RX6 21 "ThreeCards$Reader" "text" "LThreeCards$Text;") (List.mem_of_getElem? (i := 1) rfl)
  have w2 := hts (.fieldLink RX6 17 "ThreeCards$Reader" "place" "I") (List.mem_of_getElem? (i := 2) rfl)
  have w10 := hts (.static yX10_within) (List.mem_of_getElem? (i := 10) rfl)
  have w11 := hts (.initialized RX10) (List.mem_of_getElem? (i := 11) rfl)
  have in6 : ∀ w ∈ u_ws RX6 TX6 3, w ∈ wsX6_readNumber := by decide +kernel
  have hB66 : ∀ (l1 : Int32) (l2 : Int32) (i_place : Int32)  (H : Heap) (locs : List Loc) (ls : Array Slot), va_P X.1 vwCl [(a_this, .inr (6, [.ref a_text, .ref a_numbers, .int i_place])), (a_text, .inr (8, [.ref a_text_bytes, .int i_text_length])), (a_text_bytes, .inl (X.2.1 2, 500, .inl f_text_bytes))] H → va_S A s.heap H locs → lv_has ls 3 [(1, .int l1), (2, .int l2)] → mX6_readNumber_B66 i_text_length f_text_bytes  l1 l2 i_place = some o → W p l e rmX6_readNumber s m ([.ref a_this] : List Value).toArray below meth c H locs 0 0 Q (F0 m 66 ls []) := by
    intro l1 l2 i_place  H locs ls hP hS hl hf
    unfold mX6_readNumber_B66 at hf
    refine lv_iload_n hx hb dX6_readNumber_66 rfl (lv_at hl 1 rfl) ?_
    refine lv_if_ne (tgt := 74) hx hb dX6_readNumber_67 (by decide) (fun c_12 => ?_) (fun c_12 => ?_)
    · have hf := xf hf c_12
      refine lv_iload_n hx hb dX6_readNumber_74 rfl (lv_at hl 0 rfl) ?_
      obtain rfl := Option.some.inj hf
      exact ret H _ ls _ rfl hP hD hS dX6_readNumber_75
    · have hf := xt hf c_12
      refine lv_iconst (v := (-1 : Int32)) hx hb dX6_readNumber_70 (by decide) ?_
      refine lv_goto (tgt := 75) hx hb dX6_readNumber_71 (by decide) ?_
      obtain rfl := Option.some.inj hf
      exact ret H _ ls _ rfl hP hD hS dX6_readNumber_75
  have hL4 : ∀ (n : Nat) (l1 : Int32) (l2 : Int32) (i_place : Int32)  (H : Heap) (locs : List Loc) (ls : Array Slot), va_P X.1 vwCl [(a_this, .inr (6, [.ref a_text, .ref a_numbers, .int i_place])), (a_text, .inr (8, [.ref a_text_bytes, .int i_text_length])), (a_text_bytes, .inl (X.2.1 2, 500, .inl f_text_bytes))] H → va_S A s.heap H locs → lv_has ls 3 [(0, .ref a_this), (1, .int l1), (2, .int l2)] → mX6_readNumber_L4 i_text_length f_text_bytes  n l1 l2 i_place = some o → W p l e rmX6_readNumber s m ([.ref a_this] : List Value).toArray below meth c H locs 0 0 Q (F0 m 4 ls []) := by
    intro n
    induction n with
    | zero => intro l1 l2 i_place  H locs ls hP hS hl hf; exact xn hf
    | succ n ih =>
      intro l1 l2 i_place  H locs ls hP hS hl hf
      have hf : mX6_readNumber_B4 i_text_length f_text_bytes  (mX6_readNumber_L4 i_text_length f_text_bytes  n) l1 l2 i_place = some o := hf
      generalize mX6_readNumber_L4 i_text_length f_text_bytes  n = k4 at ih hf
      unfold mX6_readNumber_B4 at hf
      refine lv_iload_n hx hb dX6_readNumber_4 rfl (lv_at hl 2 rfl) ?_
      refine lv_iconst (v := (3 : Int32)) hx hb dX6_readNumber_5 (by decide) ?_
      refine lv_icmp_ge (tgt := 66) hx hb dX6_readNumber_6 (by decide) (fun c_1 => ?_) (fun c_1 => ?_)
      · have hf := xt hf c_1
        exact hB66  l1 l2 i_place  H _ ls hP  hS (lv_sub hl [1, 2] rfl) hf
      · have hf := xf hf c_1
        refine lv_aload_n hx hb dX6_readNumber_9 rfl (lv_at hl 0 rfl) ?_
        refine va_get (D := X.1) (ci := 6) (v := .ref a_text) (C := RX6) (T := TX6) (N := 3) hx hb hts in6 hown hG.1 hP 0 rfl rfl 0 (by decide) w1 (fun _ h9 => h9) rfl dX6_readNumber_10 ?_
        refine lv_aload_n hx hb dX6_readNumber_13 rfl (lv_at hl 0 rfl) ?_
        refine va_get (D := X.1) (ci := 6) (v := .int i_place) (C := RX6) (T := TX6) (N := 3) hx hb hts in6 hown hG.1 hP 0 rfl rfl 2 (by decide) w2 (fun _ h9 => h9) rfl dX6_readNumber_14 ?_
        obtain ⟨o_2, ho_2, hf⟩ := ob_s hf
        refine xV_i (As := [.int i_place]) (b := a_text) (rest := []) (ws2 := [(a_this, .inr (6, [.ref a_text, .ref a_numbers, .int i_place])), (a_text, .inr (8, [.ref a_text_bytes, .int i_text_length])), (a_text_bytes, .inl (X.2.1 2, 500, .inl f_text_bytes))]) hx hb hml hts hown hG hA hP hD rfl hS hl.1 (qX8_byteAt l X a_text a_text_bytes i_text_length f_text_bytes i_place o_2 ho_2) (cwV (y := yX8_byteAt) 1 hts gX6_readNumber_X8_byteAt rfl rfl rfl hdvX8_byteAt ⟨Nat.le_of_ble_eq_true rfl, Nat.le_of_ble_eq_true rfl⟩) [1, 2] [0] [0, 1, 2] rfl rfl rfl rfl rfl rfl rfl (ci := 8) rfl 1 rfl rfl rfl (Nat.le_of_ble_eq_true rfl) ⟨Nat.le_of_ble_eq_true rfl, Nat.le_of_ble_eq_true rfl⟩ dX6_readNumber_17 (fun H locs hP _ hS => ?_)
        refine lv_bipush (v := (48 : Int32)) hx hb dX6_readNumber_20 (by decide) ?_
        refine lv_bipush (v := (57 : Int32)) hx hb dX6_readNumber_22 (by decide) ?_
        obtain ⟨o_4, ho_4, hf⟩ := ob_s hf
        refine xSN_i (As := [.int o_2, .int (48 : Int32), .int (57 : Int32)]) (rest := []) (ws2 := [(a_this, .inr (6, [.ref a_text, .ref a_numbers, .int i_place])), (a_text, .inr (8, [.ref a_text_bytes, .int i_text_length])), (a_text_bytes, .inl (X.2.1 2, 500, .inl f_text_bytes))]) hx hb hml hts hown hG hA hP hD rfl hS hl.1 (qX10_within l X o_2 (48 : Int32) (57 : Int32) o_4 ho_4) ⟨va_cnB (y := yX10_within) 3 hts gX6_readNumber_X10_within_n65 rfl rfl rfl (nm6 hG.2.1) w11 hdsX10_within ⟨Nat.le_of_ble_eq_true rfl, Nat.le_of_ble_eq_true rfl⟩, w10, trivial⟩ [] [0, 1, 2] [0, 1, 2] rfl rfl rfl rfl rfl rfl rfl rfl rfl (Nat.le_of_ble_eq_true rfl) ⟨Nat.le_of_ble_eq_true rfl, Nat.le_of_ble_eq_true rfl⟩ dX6_readNumber_24 (fun H locs hP _ hS => ?_)
        refine lv_if_eq (tgt := 66) hx hb dX6_readNumber_27 (by decide) (fun c_6 => ?_) (fun c_6 => ?_)
        · have hf := xt hf c_6
          exact hB66  l1 l2 i_place  H _ ls hP  hS (lv_sub hl [1, 2] rfl) hf
        · have hf := xf hf c_6
          refine lv_iload_n hx hb dX6_readNumber_30 rfl (lv_at hl 1 rfl) ?_
          refine lv_bipush (v := (10 : Int32)) hx hb dX6_readNumber_31 (by decide) ?_
          refine lv_imul hx hb dX6_readNumber_33 ?_
          refine lv_aload_n hx hb dX6_readNumber_34 rfl (lv_at hl 0 rfl) ?_
          refine va_get (D := X.1) (ci := 6) (v := .ref a_text) (C := RX6) (T := TX6) (N := 3) hx hb hts in6 hown hG.1 hP 0 rfl rfl 0 (by decide) w1 (fun _ h9 => h9) rfl dX6_readNumber_35 ?_
          refine lv_aload_n hx hb dX6_readNumber_38 rfl (lv_at hl 0 rfl) ?_
          refine va_get (D := X.1) (ci := 6) (v := .int i_place) (C := RX6) (T := TX6) (N := 3) hx hb hts in6 hown hG.1 hP 0 rfl rfl 2 (by decide) w2 (fun _ h9 => h9) rfl dX6_readNumber_39 ?_
          obtain ⟨o_7, ho_7, hf⟩ := ob_s hf
          refine xV_i (As := [.int i_place]) (b := a_text) (rest := [.int (l1 * (10 : Int32))]) (ws2 := [(a_this, .inr (6, [.ref a_text, .ref a_numbers, .int i_place])), (a_text, .inr (8, [.ref a_text_bytes, .int i_text_length])), (a_text_bytes, .inl (X.2.1 2, 500, .inl f_text_bytes))]) hx hb hml hts hown hG hA hP hD rfl hS hl.1 (qX8_byteAt l X a_text a_text_bytes i_text_length f_text_bytes i_place o_7 ho_7) (cwV (y := yX8_byteAt) 1 hts gX6_readNumber_X8_byteAt rfl rfl rfl hdvX8_byteAt ⟨Nat.le_of_ble_eq_true rfl, Nat.le_of_ble_eq_true rfl⟩) [1, 2] [0] [0, 1, 2] rfl rfl rfl rfl rfl rfl rfl (ci := 8) rfl 1 rfl rfl rfl (Nat.le_of_ble_eq_true rfl) ⟨Nat.le_of_ble_eq_true rfl, Nat.le_of_ble_eq_true rfl⟩ dX6_readNumber_42 (fun H locs hP _ hS => ?_)
          refine lv_iadd hx hb dX6_readNumber_45 ?_
          refine lv_bipush (v := (48 : Int32)) hx hb dX6_readNumber_46 (by decide) ?_
          refine lv_isub hx hb dX6_readNumber_48 ?_
          refine lv_topi (fun v_9 ev_9 => ?_)
          have hf := lb_s hf ev_9
          refine lv_istore_n (lv' := [(1, .int v_9), (0, .ref a_this), (2, .int l2)]) hx hb dX6_readNumber_49 rfl hl (by decide) rfl (fun ls hl => ?_)
          obtain ⟨v_10, ev_10, hf⟩ := lb_g hf
          refine lv_iinc (v := v_10) (lv' := [(2, .int v_10), (1, .int v_9), (0, .ref a_this)]) hx hb dX6_readNumber_50 hl (k := 2) rfl ev_10.symm (by decide) rfl (fun ls hl => ?_)
          refine lv_aload_n hx hb dX6_readNumber_53 rfl (lv_at hl 2 rfl) ?_
          refine lv_dup hx hb dX6_readNumber_54 rfl ?_
          refine va_get (D := X.1) (ci := 6) (v := .int i_place) (C := RX6) (T := TX6) (N := 3) hx hb hts in6 hown hG.1 hP 0 rfl rfl 2 (by decide) w2 (fun _ h9 => h9) rfl dX6_readNumber_55 ?_
          refine lv_iconst (v := (1 : Int32)) hx hb dX6_readNumber_58 (by decide) ?_
          refine lv_iadd hx hb dX6_readNumber_59 ?_
          refine lv_topi (fun v_11 ev_11 => ?_)
          have hf := lb_s hf ev_11
          refine x_put (ws' := [(a_this, .inr (6, [.ref a_text, .ref a_numbers, .int v_11])), (a_text, .inr (8, [.ref a_text_bytes, .int i_text_length])), (a_text_bytes, .inl (X.2.1 2, 500, .inl f_text_bytes))]) (ty := .int) (C := RX6) (T := TX6) (N := 3) hx hb hts in6 tyX6 tyX6_ok nmX6 hown hG hP hD rfl hS 0 rfl rfl 2 (by decide) w2 rfl (tyX6_ok 2 (by decide)) rfl rfl (Nat.le_of_ble_eq_true rfl) dX6_readNumber_60 rfl (fun H locs hP hS => ?_)
          refine lv_goto (tgt := 4) hx hb dX6_readNumber_63 (by decide) ?_
          exact ih v_9 v_10 v_11  H _ ls hP  hS (lv_sub hl [2, 1, 0] rfl) hf
  unfold mX6_readNumber at hf
  refine lv_iconst (v := (0 : Int32)) hx hb dX6_readNumber_0 (by decide) ?_
  refine lv_istore_n (lv' := [(1, .int (0 : Int32)), (0, .ref a_this)]) hx hb dX6_readNumber_1 rfl hl (by decide) rfl (fun ls hl => ?_)
  refine lv_iconst (v := (0 : Int32)) hx hb dX6_readNumber_2 (by decide) ?_
  refine lv_istore_n (lv' := [(2, .int (0 : Int32)), (1, .int (0 : Int32)), (0, .ref a_this)]) hx hb dX6_readNumber_3 rfl hl (by decide) rfl (fun ls hl => ?_)
  exact hL4  FUEL (0 : Int32) (0 : Int32) i_place  H _ ls hP  hS (lv_sub hl [2, 1, 0] rfl) hf
