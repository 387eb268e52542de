def mX11_side_B2 (x0 : Int32) (x1 : Int32) (f_blowMany : Nat → Int32) (f_blows : Nat → Int32) (f_forwards : Nat → Int32) (f_homes : Nat → Int32) (f_judges : Nat → Int32) (f_noises : Nat → Int32) (k2 : Int32 → Option (Int32)) (l3 : Int32) :
  Option (Int32) :=
  if l3 < 0 then (some (1 : Int32)) else ((mX11_leadOf x0 l3 f_blowMany f_blows f_forwards f_homes f_judges f_noises).bind fun o2 =>
  if o2 = 0 then (lb (l3 + (-1 : Int32)) fun v5 =>
  k2 v5) else (if o2 ≤ 0 then (some (-1 : Int32)) else (some (1 : Int32))))
def mX11_side_L2 (x0 : Int32) (x1 : Int32) (f_blowMany : Nat → Int32) (f_blows : Nat → Int32) (f_forwards : Nat → Int32) (f_homes : Nat → Int32) (f_judges : Nat → Int32) (f_noises : Nat → Int32) (n : Nat) (l3 : Int32) :
  Option (Int32) :=
  loopN (fun k (s : Int32) => mX11_side_B2 x0 x1 f_blowMany f_blows f_forwards f_homes f_judges f_noises  (k) s) n (l3)
def mX11_side (x0 : Int32) (x1 : Int32) (f_blowMany : Nat → Int32) (f_blows : Nat → Int32) (f_forwards : Nat → Int32) (f_homes : Nat → Int32) (f_judges : Nat → Int32) (f_noises : Nat → Int32) :
  Option (Int32) :=
  mX11_side_L2 x0 x1 f_blowMany f_blows f_forwards f_homes f_judges f_noises  FUEL x1
theorem hdsX11_side : yX11_side.cls ≠ "java/lang/invoke/MethodHandle" ∧ yX11_side.cls ≠ "java/lang/invoke/VarHandle" ∧ (parseMethodDescriptor yX11_side.desc).map (fun d => d.parameters.length) = some 2 := by decide +kernel
theorem hdvX11_side : yX11_side.cls = RX11 ∧ yX11_side.cls ≠ "java/lang/invoke/MethodHandle" ∧ yX11_side.cls ≠ "java/lang/invoke/VarHandle" ∧ (parseMethodDescriptor yX11_side.desc).map (fun d => d.parameters.length) = some 2 := by decide +kernel
abbrev rmX11_side : Room := { frames := 4, cells := 0, slots := 0, locals := 93 }
set_option maxHeartbeats 4000000 in
set_option maxRecDepth 100000 in
theorem qX11_side (l : Launch) (X : XT) (a_this : Nat) (a_blowMany : Nat) (a_blows : Nat) (a_forwards : Nat) (a_homes : Nat) (a_judges : Nat) (a_noises : Nat) (a_text : Nat) (a_roundMany : Nat) (a_downs : Nat) (a_takens : Nat) (a_judgeMany : Nat) (a_delays : Nat) (a_tolds : Nat) (a_tens : Nat) (a_told : Nat) (a_ways : Nat) (a_nextWays : Nat) (a_tallies : Nat) (a_presses : Nat) (a_values : Nat) (a_nextValues : Nat)  (i_length : Int32) (i_keptMany : Int32) (i_place : Int32) (f_blowMany : Nat → Int32) (f_blows : Nat → Int32) (f_forwards : Nat → Int32) (f_homes : Nat → Int32) (f_judges : Nat → Int32) (f_noises : Nat → Int32) (x0 : Int32) (x1 : Int32) (o : Int32) (hf : mX11_side x0 x1 f_blowMany f_blows f_forwards f_homes f_judges f_noises = some o) :
    MI l yX11_side wsX11_side rmX11_side X [.ref a_this, .int x0, .int x1] [(a_this, .inr (11, [.int i_length, .ref a_text, .ref a_roundMany, .ref a_blowMany, .ref a_blows, .ref a_forwards, .ref a_downs, .ref a_takens, .ref a_homes, .ref a_noises, .ref a_judgeMany, .ref a_judges, .ref a_delays, .ref a_tolds, .ref a_tens, .int i_keptMany, .int i_place, .ref a_told, .ref a_ways, .ref a_nextWays, .ref a_tallies, .ref a_presses, .ref a_values, .ref a_nextValues])), (a_blowMany, .inl (X.2.1 0, 2, .inl f_blowMany)), (a_blows, .inl (X.2.1 0, 400, .inl f_blows)), (a_forwards, .inl (X.2.1 0, 48, .inl f_forwards)), (a_homes, .inl (X.2.1 0, 2, .inl f_homes)), (a_judges, .inl (X.2.1 0, 112, .inl f_judges)), (a_noises, .inl (X.2.1 0, 2, .inl f_noises))]  [(a_this, .inr (11, [.int i_length, .ref a_text, .ref a_roundMany, .ref a_blowMany, .ref a_blows, .ref a_forwards, .ref a_downs, .ref a_takens, .ref a_homes, .ref a_noises, .ref a_judgeMany, .ref a_judges, .ref a_delays, .ref a_tolds, .ref a_tens, .int i_keptMany, .int i_place, .ref a_told, .ref a_ways, .ref a_nextWays, .ref a_tallies, .ref a_presses, .ref a_values, .ref a_nextValues])), (a_blowMany, .inl (X.2.1 0, 2, .inl f_blowMany)), (a_blows, .inl (X.2.1 0, 400, .inl f_blows)), (a_forwards, .inl (X.2.1 0, 48, .inl f_forwards)), (a_homes, .inl (X.2.1 0, 2, .inl f_homes)), (a_judges, .inl (X.2.1 0, 112, .inl f_judges)), (a_noises, .inl (X.2.1 0, 2, .inl f_noises))] o := by
  refine MI_ofH (cc := cX11_side) (maxL := 5) (rt := .int) (by decide) rfl (Nat.le_of_ble_eq_true rfl) ?_
  intro p e s m below meth c A Q H ls hx hb hml hts hown hA hD hG hP hS hl ret
  have hown : s.vm.findClass RX11 = some m.cls := hown
  have hD : aD A [a_this, a_blowMany, a_blows, a_forwards, a_homes, a_judges, a_noises] := hD
  have hl : lv_has ls 5 [(0, .ref a_this), (1, .int x0), (2, .int x1)] := hl
  have hL2 : ∀ (n : Nat) (l3 : Int32)  (H : Heap) (locs : List Loc) (ls : Array Slot), va_P X.1 vwCl [(a_this, .inr (11, [.int i_length, .ref a_text, .ref a_roundMany, .ref a_blowMany, .ref a_blows, .ref a_forwards, .ref a_downs, .ref a_takens, .ref a_homes, .ref a_noises, .ref a_judgeMany, .ref a_judges, .ref a_delays, .ref a_tolds, .ref a_tens, .int i_keptMany, .int i_place, .ref a_told, .ref a_ways, .ref a_nextWays, .ref a_tallies, .ref a_presses, .ref a_values, .ref a_nextValues])), (a_blowMany, .inl (X.2.1 0, 2, .inl f_blowMany)), (a_blows, .inl (X.2.1 0, 400, .inl f_blows)), (a_forwards, .inl (X.2.1 0, 48, .inl f_forwards)), (a_homes, .inl (X.2.1 0, 2, .inl f_homes)), (a_judges, .inl (X.2.1 0, 112, .inl f_judges)), (a_noises, .inl (X.2.1 0, 2, .inl f_noises))] H → va_S A s.heap H locs → lv_has ls 5 [(0, .ref a_this), (1, .int x0), (3, .int l3)] → mX11_side_L2 x0 x1 f_blowMany f_blows f_forwards f_homes f_judges f_noises  n l3 = some o → W p l e rmX11_side s m ([.ref a_this, .int x0, .int x1] : List Value).toArray below meth c H locs 0 0 Q (F0 m 2 ls []) := by
    intro n
    induction n with
    | zero => intro l3  H locs ls hP hS hl hf; exact xn hf
    | succ n ih =>
      intro l3  H locs ls hP hS hl hf
      have hf : mX11_side_B2 x0 x1 f_blowMany f_blows f_forwards f_homes f_judges f_noises  (mX11_side_L2 x0 x1 f_blowMany f_blows f_forwards f_homes f_judges f_noises  n) l3 = some o := hf
      generalize mX11_side_L2 x0 x1 f_blowMany f_blows f_forwards f_homes f_judges f_noises  n = k2 at ih hf
      unfold mX11_side_B2 at hf
      refine lv_iload_n hx hb dX11_side_2 rfl (lv_at hl 2 rfl) ?_
      refine lv_if_lt (tgt := 36) hx hb dX11_side_3 (by decide) (fun c1 => ?_) (fun c1 => ?_)
      · have hf := xt hf c1
        refine lv_iconst (v := (1 : Int32)) hx hb dX11_side_36 (by decide) ?_
        obtain rfl := Option.some.inj hf
        exact ret H _ ls _ rfl hP hD hS dX11_side_37
      · have hf := xf hf c1
        refine lv_aload_n hx hb dX11_side_6 rfl (lv_at hl 0 rfl) ?_
        refine lv_iload_n hx hb dX11_side_7 rfl (lv_at hl 1 rfl) ?_
        refine lv_iload_n hx hb dX11_side_8 rfl (lv_at hl 2 rfl) ?_
        obtain ⟨o2, ho2, hf⟩ := ob_s hf
        refine xV_i (As := [.int x0, .int l3]) (b := a_this) (rest := []) (ws2 := [(a_this, .inr (11, [.int i_length, .ref a_text, .ref a_roundMany, .ref a_blowMany, .ref a_blows, .ref a_forwards, .ref a_downs, .ref a_takens, .ref a_homes, .ref a_noises, .ref a_judgeMany, .ref a_judges, .ref a_delays, .ref a_tolds, .ref a_tens, .int i_keptMany, .int i_place, .ref a_told, .ref a_ways, .ref a_nextWays, .ref a_tallies, .ref a_presses, .ref a_values, .ref a_nextValues])), (a_blowMany, .inl (X.2.1 0, 2, .inl f_blowMany)), (a_blows, .inl (X.2.1 0, 400, .inl f_blows)), (a_forwards, .inl (X.2.1 0, 48, .inl f_forwards)), (a_homes, .inl (X.2.1 0, 2, .inl f_homes)), (a_judges, .inl (X.2.1 0, 112, .inl f_judges)), (a_noises, .inl (X.2.1 0, 2, .inl f_noises))]) hx hb hml hts hown hG hA hP hD rfl hS hl.1 (qX11_leadOf l X a_this a_blowMany a_blows a_forwards a_homes a_judges a_noises a_text a_roundMany a_downs a_takens a_judgeMany a_delays a_tolds a_tens a_told a_ways a_nextWays a_tallies a_presses a_values a_nextValues i_length i_keptMany i_place f_blowMany f_blows f_forwards f_homes f_judges f_noises x0 l3 o2 ho2) (cwV (y := yX11_leadOf) 2 hts gX11_side_X11_leadOf rfl rfl rfl hdvX11_leadOf ⟨Nat.le_of_ble_eq_true rfl, Nat.le_of_ble_eq_true rfl⟩) [0, 1, 2, 3, 4, 5, 6] [] [0, 1, 2, 3, 4, 5, 6] rfl rfl rfl rfl rfl rfl rfl (ci := 11) rfl 0 rfl rfl rfl (Nat.le_of_ble_eq_true rfl) ⟨Nat.le_of_ble_eq_true rfl, Nat.le_of_ble_eq_true rfl⟩ dX11_side_9 (fun H locs hP _ hS => ?_)
        refine lv_istore (lv' := [(4, .int o2), (0, .ref a_this), (1, .int x0), (3, .int l3)]) hx hb dX11_side_12 hl (by decide) rfl (fun ls hl => ?_)
        refine lv_iload hx hb dX11_side_14 (lv_at hl 0 rfl) ?_
        refine lv_if_eq (tgt := 30) hx hb dX11_side_16 (by decide) (fun c4 => ?_) (fun c4 => ?_)
        · have hf := xt hf c4
          obtain ⟨v5, ev5, hf⟩ := lb_g hf
          refine lv_iinc (v := v5) (lv' := [(3, .int v5), (4, .int o2), (0, .ref a_this), (1, .int x0)]) hx hb dX11_side_30 hl (k := 3) rfl ev5.symm (by decide) rfl (fun ls hl => ?_)
          refine lv_goto (tgt := 2) hx hb dX11_side_33 (by decide) ?_
          exact ih v5  H _ ls hP  hS (lv_sub hl [2, 3, 0] rfl) hf
        · have hf := xf hf c4
          refine lv_iload hx hb dX11_side_19 (lv_at hl 0 rfl) ?_
          refine lv_if_le (tgt := 28) hx hb dX11_side_21 (by decide) (fun c6 => ?_) (fun c6 => ?_)
          · have hf := xt hf c6
            refine lv_iconst (v := (-1 : Int32)) hx hb dX11_side_28 (by decide) ?_
            obtain rfl := Option.some.inj hf
            exact ret H _ ls _ rfl hP hD hS dX11_side_29
          · have hf := xf hf c6
            refine lv_iconst (v := (1 : Int32)) hx hb dX11_side_24 (by decide) ?_
            refine lv_goto (tgt := 29) hx hb dX11_side_25 (by decide) ?_
            obtain rfl := Option.some.inj hf
            exact ret H _ ls _ rfl hP hD hS dX11_side_29
  unfold mX11_side at hf
  refine lv_iload_n hx hb dX11_side_0 rfl (lv_at hl 2 rfl) ?_
  refine lv_istore_n (lv' := [(3, .int x1), (0, .ref a_this), (1, .int x0), (2, .int x1)]) hx hb dX11_side_1 rfl hl (by decide) rfl (fun ls hl => ?_)
  exact hL2  FUEL x1  H _ ls hP  hS (lv_sub hl [1, 2, 0] rfl) hf
def mX11_bound (x0 : Int32) (x1 : Int32) :
  Option (Int32) :=
  if x0 ≤ x1 then (if (-x1) ≤ x0 then (some x0) else (lb (-x1) fun v3 =>
  some v3)) else (some x1)
theorem hdsX11_bound : yX11_bound.cls ≠ "java/lang/invoke/MethodHandle" ∧ yX11_bound.cls ≠ "java/lang/invoke/VarHandle" ∧ (parseMethodDescriptor yX11_bound.desc).map (fun d => d.parameters.length) = some 2 := by decide +kernel
abbrev rmX11_bound : Room := { frames := 0, cells := 0, slots := 0, locals := 0 }
set_option maxHeartbeats 4000000 in
set_option maxRecDepth 100000 in
theorem qX11_bound (l : Launch) (X : XT)    (x0 : Int32) (x1 : Int32) (o : Int32) (hf : mX11_bound x0 x1 = some o) :
    MI l yX11_bound wsX11_bound rmX11_bound X [.int x0, .int x1] []  [] o := by
  refine MI_ofH (cc := cX11_bound) (maxL := 2) (rt := .int) (by decide) rfl (Nat.le_of_ble_eq_true rfl) ?_
  intro p e s m below meth c A Q H ls hx hb hml hts hown hA hD hG hP hS hl ret
  have hown : s.vm.findClass RX11 = some m.cls := hown
  have hD : aD A [] := hD
  have hl : lv_has ls 2 [(0, .int x0), (1, .int x1)] := hl
  unfold mX11_bound at hf
  refine lv_iload_n hx hb dX11_bound_0 rfl (lv_at hl 0 rfl) ?_
  refine lv_iload_n hx hb dX11_bound_1 rfl (lv_at hl 1 rfl) ?_
  refine lv_icmp_le (tgt := 9) hx hb dX11_bound_2 (by decide) (fun c1 => ?_) (fun c1 => ?_)
  · have hf := xt hf c1
    refine lv_iload_n hx hb dX11_bound_9 rfl (lv_at hl 0 rfl) ?_
    refine lv_iload_n hx hb dX11_bound_10 rfl (lv_at hl 1 rfl) ?_
    refine lv_ineg hx hb dX11_bound_11 ?_
    refine lv_icmp_ge (tgt := 20) hx hb dX11_bound_12 (by decide) (fun c2 => ?_) (fun c2 => ?_)
    · have hf := xt hf c2
      refine lv_iload_n hx hb dX11_bound_20 rfl (lv_at hl 0 rfl) ?_
      obtain rfl := Option.some.inj hf
      exact ret H _ ls _ rfl hP hD hS dX11_bound_21
    · have hf := xf hf c2
      refine lv_iload_n hx hb dX11_bound_15 rfl (lv_at hl 1 rfl) ?_
      refine lv_ineg hx hb dX11_bound_16 ?_
      refine lv_goto (tgt := 21) hx hb dX11_bound_17 (by decide) ?_
      refine lv_topi (fun v3 ev3 => ?_)
      have hf := lb_s hf ev3
      obtain rfl := Option.some.inj hf
      exact ret H _ ls _ rfl hP hD hS dX11_bound_21
  · have hf := xf hf c1
    refine lv_iload_n hx hb dX11_bound_5 rfl (lv_at hl 1 rfl) ?_
    refine lv_goto (tgt := 21) hx hb dX11_bound_6 (by decide) ?_
    obtain rfl := Option.some.inj hf
    exact ret H _ ls _ rfl hP hD hS dX11_bound_21
def mX11_downOf (x0 : Int32) (f_downs : Nat → Int32) :
  Option (Int32) :=
  gi (((2 : Int32) * x0) + (1 : Int32)) 48 <|
  gi ((2 : Int32) * x0) 48 <|
  lb ((f_downs (((2 : Int32) * x0) + (1 : Int32)).toNatClampNeg) - (f_downs ((2 : Int32) * x0).toNatClampNeg)) fun v3 =>
  some v3
theorem hdsX11_downOf : yX11_downOf.cls ≠ "java/lang/invoke/MethodHandle" ∧ yX11_downOf.cls ≠ "java/lang/invoke/VarHandle" ∧ (parseMethodDescriptor yX11_downOf.desc).map (fun d => d.parameters.length) = some 1 := by decide +kernel
theorem hdvX11_downOf : yX11_downOf.cls = RX11 ∧ yX11_downOf.cls ≠ "java/lang/invoke/MethodHandle" ∧ yX11_downOf.cls ≠ "java/lang/invoke/VarHandle" ∧ (parseMethodDescriptor yX11_downOf.desc).map (fun d => d.parameters.length) = some 1 := by decide +kernel
abbrev rmX11_downOf : Room := { frames := 0, cells := 0, slots := 0, locals := 0 }
set_option maxHeartbeats 4000000 in
set_option maxRecDepth 100000 in
theorem qX11_downOf (l : Launch) (X : XT) (a_this : Nat) (a_downs : Nat) (a_text : Nat) (a_roundMany : Nat) (a_blowMany : Nat) (a_blows : Nat) (a_forwards : Nat) (a_takens : Nat) (a_homes : Nat) (a_noises : Nat) (a_judgeMany : Nat) (a_judges : Nat) (a_delays : Nat) (a_tolds : Nat) (a_tens : Nat) (a_told : Nat) (a_ways : Nat) (a_nextWays : Nat) (a_tallies : Nat) (a_presses : Nat) (a_values : Nat) (a_nextValues : Nat)  (i_length : Int32) (i_keptMany : Int32) (i_place : Int32) (f_downs : Nat → Int32) (x0 : Int32) (o : Int32) (hf : mX11_downOf x0 f_downs = some o) :
    MI l yX11_downOf wsX11_downOf rmX11_downOf X [.ref a_this, .int x0] [(a_this, .inr (11, [.int i_length, .ref a_text, .ref a_roundMany, .ref a_blowMany, .ref a_blows, .ref a_forwards, .ref a_downs, .ref a_takens, .ref a_homes, .ref a_noises, .ref a_judgeMany, .ref a_judges, .ref a_delays, .ref a_tolds, .ref a_tens, .int i_keptMany, .int i_place, .ref a_told, .ref a_ways, .ref a_nextWays, .ref a_tallies, .ref a_presses, .ref a_values, .ref a_nextValues])), (a_downs, .inl (X.2.1 0, 48, .inl f_downs))]  [(a_this, .inr (11, [.int i_length, .ref a_text, .ref a_roundMany, .ref a_blowMany, .ref a_blows, .ref a_forwards, .ref a_downs, .ref a_takens, .ref a_homes, .ref a_noises, .ref a_judgeMany, .ref a_judges, .ref a_delays, .ref a_tolds, .ref a_tens, .int i_keptMany, .int i_place, .ref a_told, .ref a_ways, .ref a_nextWays, .ref a_tallies, .ref a_presses, .ref a_values, .ref a_nextValues])), (a_downs, .inl (X.2.1 0, 48, .inl f_downs))] o := by
  refine MI_ofH (cc := cX11_downOf) (maxL := 2) (rt := .int) (by decide) rfl (Nat.le_of_ble_eq_true rfl) ?_
  intro p e s m below meth c A Q H ls hx hb hml hts hown hA hD hG hP hS hl ret
  have hown : s.vm.findClass RX11 = some m.cls := hown
  have hD : aD A [a_this, a_downs] := hD
  have hl : lv_has ls 2 [(0, .ref a_this), (1, .int x0)] := hl
  have w1 := hts (.fieldLink RX11 25 "ThreeCardsModel" "downs" "[I") (List.mem_of_getElem? (i := 1) rfl)
  have in11 : ∀ w ∈ u_ws RX11 TX11 24, w ∈ wsX11_downOf := by decide +kernel
  unfold mX11_downOf at hf
  refine lv_aload_n hx hb dX11_downOf_0 rfl (lv_at hl 0 rfl) ?_
  refine va_get (D := X.1) (ci := 11) (v := .ref a_downs) (C := RX11) (T := TX11) (N := 24) hx hb hts in11 hown hG.1 hP 0 rfl rfl 6 (by decide) w1 (fun _ h9 => h9) rfl dX11_downOf_1 ?_
  refine lv_iconst (v := (2 : Int32)) hx hb dX11_downOf_4 (by decide) ?_
  refine lv_iload_n hx hb dX11_downOf_5 rfl (lv_at hl 1 rfl) ?_
  refine lv_imul hx hb dX11_downOf_6 ?_
  refine lv_iconst (v := (1 : Int32)) hx hb dX11_downOf_7 (by decide) ?_
  refine lv_iadd hx hb dX11_downOf_8 ?_
  obtain ⟨h1, hf⟩ := gi_s hf
  refine va_iald (D := X.1) hx hb hG.1 hP 1 0 rfl rfl h1 dX11_downOf_9 ?_
  refine lv_aload_n hx hb dX11_downOf_10 rfl (lv_at hl 0 rfl) ?_
  refine va_get (D := X.1) (ci := 11) (v := .ref a_downs) (C := RX11) (T := TX11) (N := 24) hx hb hts in11 hown hG.1 hP 0 rfl rfl 6 (by decide) w1 (fun _ h9 => h9) rfl dX11_downOf_11 ?_
  refine lv_iconst (v := (2 : Int32)) hx hb dX11_downOf_14 (by decide) ?_
  refine lv_iload_n hx hb dX11_downOf_15 rfl (lv_at hl 1 rfl) ?_
  refine lv_imul hx hb dX11_downOf_16 ?_
  obtain ⟨h2, hf⟩ := gi_s hf
  refine va_iald (D := X.1) hx hb hG.1 hP 1 0 rfl rfl h2 dX11_downOf_17 ?_
  refine lv_isub hx hb dX11_downOf_18 ?_
  refine lv_topi (fun v3 ev3 => ?_)
  have hf := lb_s hf ev3
  obtain rfl := Option.some.inj hf
  exact ret H _ ls _ rfl hP hD hS dX11_downOf_19
def mX11_margin0_B111 (x0 : Int32) (x1 : Int32) (x2 : Int32) (x3 : Int32) (f_blowMany : Nat → Int32) (f_blows : Nat → Int32) (f_downs : Nat → Int32) (f_forwards : Nat → Int32) (f_homes : Nat → Int32) (f_judges : Nat → Int32) (f_noises : Nat → Int32) (s0 : Int32) :
  Option (Int32) :=
  (mX11_downOf x2 f_downs).bind fun o22 =>
  (mX11_bound (s0 + ((2 : Int32) * o22)) (8 : Int32)).bind fun o24 =>
  some o24
def mX11_margin0_B82 (x0 : Int32) (x1 : Int32) (x2 : Int32) (x3 : Int32) (f_blowMany : Nat → Int32) (f_blows : Nat → Int32) (f_downs : Nat → Int32) (f_forwards : Nat → Int32) (f_homes : Nat → Int32) (f_judges : Nat → Int32) (f_noises : Nat → Int32) (s0 : Int32) :
  Option (Int32) :=
  if x3 = 0 then ((mX11_side x1 x2 f_blowMany f_blows f_forwards f_homes f_judges f_noises).bind fun o12 =>
  mX11_margin0_B111 x0 x1 x2 x3 f_blowMany f_blows f_downs f_forwards f_homes f_judges f_noises  (s0 * o12)) else ((mX11_side x1 x2 f_blowMany f_blows f_forwards f_homes f_judges f_noises).bind fun o14 =>
  mX11_margin0_B111 x0 x1 x2 x3 f_blowMany f_blows f_downs f_forwards f_homes f_judges f_noises  ((-s0) * o14))
def mX11_margin0_B68 (x0 : Int32) (x1 : Int32) (x2 : Int32) (x3 : Int32) (f_blowMany : Nat → Int32) (f_blows : Nat → Int32) (f_downs : Nat → Int32) (f_forwards : Nat → Int32) (f_homes : Nat → Int32) (f_judges : Nat → Int32) (f_noises : Nat → Int32) :
  Option (Int32) :=
  mX11_margin0_B82 x0 x1 x2 x3 f_blowMany f_blows f_downs f_forwards f_homes f_judges f_noises  (2 : Int32)
def mX11_margin0_B36 (x0 : Int32) (x1 : Int32) (x2 : Int32) (x3 : Int32) (f_blowMany : Nat → Int32) (f_blows : Nat → Int32) (f_downs : Nat → Int32) (f_forwards : Nat → Int32) (f_homes : Nat → Int32) (f_judges : Nat → Int32) (f_noises : Nat → Int32) (s0 : Int32) (s1 : Int32) :
  Option (Int32) :=
  lb (s0 + s1) fun v16 =>
  (mX11_bound v16 (20 : Int32)).bind fun o17 =>
  (mX11_downOf x2 f_downs).bind fun o19 =>
  lb (o17 + ((4 : Int32) * o19)) fun v21 =>
  some v21
def mX11_margin0 (x0 : Int32) (x1 : Int32) (x2 : Int32) (x3 : Int32) (f_blowMany : Nat → Int32) (f_blows : Nat → Int32) (f_downs : Nat → Int32) (f_forwards : Nat → Int32) (f_homes : Nat → Int32) (f_judges : Nat → Int32) (f_noises : Nat → Int32) :
  Option (Int32) :=
  if x0 = (3 : Int32) then ((mX11_leadOf x1 x2 f_blowMany f_blows f_forwards f_homes f_judges f_noises).bind fun o7 =>
  if o7 ≤ 0 then (if 0 ≤ o7 then (mX11_margin0_B36 x0 x1 x2 x3 f_blowMany f_blows f_downs f_forwards f_homes f_judges f_noises  (o7 / (5 : Int32)) (0 : Int32)) else (mX11_margin0_B36 x0 x1 x2 x3 f_blowMany f_blows f_downs f_forwards f_homes f_judges f_noises  (o7 / (5 : Int32)) (-1 : Int32))) else (mX11_margin0_B36 x0 x1 x2 x3 f_blowMany f_blows f_downs f_forwards f_homes f_judges f_noises  (o7 / (5 : Int32)) (1 : Int32))) else (if x0 = 0 then (mX11_margin0_B68 x0 x1 x2 x3 f_blowMany f_blows f_downs f_forwards f_homes f_judges f_noises  ) else ((mX11_isClose x1 x2 f_blowMany f_blows f_forwards f_homes f_judges f_noises).bind fun o3 =>
  if o3 = 0 then (mX11_margin0_B68 x0 x1 x2 x3 f_blowMany f_blows f_downs f_forwards f_homes f_judges f_noises  ) else (if x0 = (1 : Int32) then (mX11_margin0_B82 x0 x1 x2 x3 f_blowMany f_blows f_downs f_forwards f_homes f_judges f_noises  (1 : Int32)) else (mX11_margin0_B82 x0 x1 x2 x3 f_blowMany f_blows f_downs f_forwards f_homes f_judges f_noises  (0 : Int32)))))
theorem hdsX11_margin0 : yX11_margin0.cls ≠ "java/lang/invoke/MethodHandle" ∧ yX11_margin0.cls ≠ "java/lang/invoke/VarHandle" ∧ (parseMethodDescriptor yX11_margin0.desc).map (fun d => d.parameters.length) = some 4 := by decide +kernel
theorem hdvX11_margin0 : yX11_margin0.cls = RX11 ∧ yX11_margin0.cls ≠ "java/lang/invoke/MethodHandle" ∧ yX11_margin0.cls ≠ "java/lang/invoke/VarHandle" ∧ (parseMethodDescriptor yX11_margin0.desc).map (fun d => d.parameters.length) = some 4 := by decide +kernel
abbrev rmX11_margin0 : Room := { frames := 5, cells := 0, slots := 0, locals := 117 }
set_option maxHeartbeats 4000000 in
set_option maxRecDepth 100000 in
theorem qX11_margin0 (l : Launch) (X : XT) (a_this : Nat) (a_blowMany : Nat) (a_blows : Nat) (a_downs : Nat) (a_forwards : Nat) (a_homes : Nat) (a_judges : Nat) (a_noises : Nat) (a_text : Nat) (a_roundMany : Nat) (a_takens : Nat) (a_judgeMany : Nat) (a_delays : Nat) (a_tolds : Nat) (a_tens : Nat) (a_told : Nat) (a_ways : Nat) (a_nextWays : Nat) (a_tallies : Nat) (a_presses : Nat) (a_values : Nat) (a_nextValues : Nat)  (i_length : Int32) (i_keptMany : Int32) (i_place : Int32) (f_blowMany : Nat → Int32) (f_blows : Nat → Int32) (f_downs : Nat → Int32) (f_forwards : Nat → Int32) (f_homes : Nat → Int32) (f_judges : Nat → Int32) (f_noises : Nat → Int32) (x0 : Int32) (x1 : Int32) (x2 : Int32) (x3 : Int32) (o : Int32) (hf : mX11_margin0 x0 x1 x2 x3 f_blowMany f_blows f_downs f_forwards f_homes f_judges f_noises = some o) :
    MI l yX11_margin0 wsX11_margin0 rmX11_margin0 X [.ref a_this, .int x0, .int x1, .int x2, .int x3] [(a_this, .inr (11, [.int i_length, .ref a_text, .ref a_roundMany, .ref a_blowMany, .ref a_blows, .ref a_forwards, .ref a_downs, .ref a_takens, .ref a_homes, .ref a_noises, .ref a_judgeMany, .ref a_judges, .ref a_delays, .ref a_tolds, .ref a_tens, .int i_keptMany, .int i_place, .ref a_told, .ref a_ways, .ref a_nextWays, .ref a_tallies, .ref a_presses, .ref a_values, .ref a_nextValues])), (a_blowMany, .inl (X.2.1 0, 2, .inl f_blowMany)), (a_blows, .inl (X.2.1 0, 400, .inl f_blows)), (a_downs, .inl (X.2.1 0, 48, .inl f_downs)), (a_forwards, .inl (X.2.1 0, 48, .inl f_forwards)), (a_homes, .inl (X.2.1 0, 2, .inl f_homes)), (a_judges, .inl (X.2.1 0, 112, .inl f_judges)), (a_noises, .inl (X.2.1 0, 2, .inl f_noises))]  [(a_this, .inr (11, [.int i_length, .ref a_text, .ref a_roundMany, .ref a_blowMany, .ref a_blows, .ref a_forwards, .ref a_downs, .ref a_takens, .ref a_homes, .ref a_noises, .ref a_judgeMany, .ref a_judges, .ref a_delays, .ref a_tolds, .ref a_tens, .int i_keptMany, .int i_place, .ref a_told, .ref a_ways, .ref a_nextWays, .ref a_tallies, .ref a_presses, .ref a_values, .ref a_nextValues])), (a_blowMany, .inl (X.2.1 0, 2, .inl f_blowMany)), (a_blows, .inl (X.2.1 0, 400, .inl f_blows)), (a_downs, .inl (X.2.1 0, 48, .inl f_downs)), (a_forwards, .inl (X.2.1 0, 48, .inl f_forwards)), (a_homes, .inl (X.2.1 0, 2, .inl f_homes)), (a_judges, .inl (X.2.1 0, 112, .inl f_judges)), (a_noises, .inl (X.2.1 0, 2, .inl f_noises))] o := by
  refine MI_ofH (cc := cX11_margin0) (maxL := 7) (rt := .int) (by decide) rfl (Nat.le_of_ble_eq_true rfl) ?_
  intro p e s m below meth c A Q H ls hx hb hml hts hown hA hD hG hP hS hl ret
  have hown : s.vm.findClass RX11 = some m.cls := hown
  have hD : aD A [a_this, a_blowMany, a_blows, a_downs, a_forwards, a_homes, a_judges, a_noises] := hD
  have hl : lv_has ls 7 [(0, .ref a_this), (1, .int x0), (2, .int x1), (3, .int x2), (4, .int x3)] := hl
  have hB111 : ∀ (s0 : Int32)  (H : Heap) (locs : List Loc) (ls : Array Slot), va_P X.1 vwCl [(a_this, .inr (11, [.int i_length, .ref a_text, .ref a_roundMany, .ref a_blowMany, .ref a_blows, .ref a_forwards, .ref a_downs, .ref a_takens, .ref a_homes, .ref a_noises, .ref a_judgeMany, .ref a_judges, .ref a_delays, .ref a_tolds, .ref a_tens, .int i_keptMany, .int i_place, .ref a_told, .ref a_ways, .ref a_nextWays, .ref a_tallies, .ref a_presses, .ref a_values, .ref a_nextValues])), (a_blowMany, .inl (X.2.1 0, 2, .inl f_blowMany)), (a_blows, .inl (X.2.1 0, 400, .inl f_blows)), (a_downs, .inl (X.2.1 0, 48, .inl f_downs)), (a_forwards, .inl (X.2.1 0, 48, .inl f_forwards)), (a_homes, .inl (X.2.1 0, 2, .inl f_homes)), (a_judges, .inl (X.2.1 0, 112, .inl f_judges)), (a_noises, .inl (X.2.1 0, 2, .inl f_noises))] H → va_S A s.heap H locs → lv_has ls 7 [(0, .ref a_this), (3, .int x2)] → mX11_margin0_B111 x0 x1 x2 x3 f_blowMany f_blows f_downs f_forwards f_homes f_judges f_noises  s0 = some o → W p l e rmX11_margin0 s m ([.ref a_this, .int x0, .int x1, .int x2, .int x3] : List Value).toArray below meth c H locs 0 0 Q (F0 m 111 ls [.int s0]) := by
    intro s0  H locs ls hP hS hl hf
    unfold mX11_margin0_B111 at hf
    refine lv_istore (lv' := [(6, .int s0), (0, .ref a_this), (3, .int x2)]) hx hb dX11_margin0_111 hl (by decide) rfl (fun ls hl => ?_)
    refine lv_iload hx hb dX11_margin0_113 (lv_at hl 0 rfl) ?_
    refine lv_iconst (v := (2 : Int32)) hx hb dX11_margin0_115 (by decide) ?_
    refine lv_aload_n hx hb dX11_margin0_116 rfl (lv_at hl 1 rfl) ?_
    refine lv_iload_n hx hb dX11_margin0_117 rfl (lv_at hl 2 rfl) ?_
    obtain ⟨o22, ho22, hf⟩ := ob_s hf
    refine xV_i (As := [.int x2]) (b := a_this) (rest := [.int (2 : Int32), .int s0]) (ws2 := [(a_this, .inr (11, [.int i_length, .ref a_text, .ref a_roundMany, .ref a_blowMany, .ref a_blows, .ref a_forwards, .ref a_downs, .ref a_takens, .ref a_homes, .ref a_noises, .ref a_judgeMany, .ref a_judges, .ref a_delays, .ref a_tolds, .ref a_tens, .int i_keptMany, .int i_place, .ref a_told, .ref a_ways, .ref a_nextWays, .ref a_tallies, .ref a_presses, .ref a_values, .ref a_nextValues])), (a_blowMany, .inl (X.2.1 0, 2, .inl f_blowMany)), (a_blows, .inl (X.2.1 0, 400, .inl f_blows)), (a_downs, .inl (X.2.1 0, 48, .inl f_downs)), (a_forwards, .inl (X.2.1 0, 48, .inl f_forwards)), (a_homes, .inl (X.2.1 0, 2, .inl f_homes)), (a_judges, .inl (X.2.1 0, 112, .inl f_judges)), (a_noises, .inl (X.2.1 0, 2, .inl f_noises))]) hx hb hml hts hown hG hA hP hD rfl hS hl.1 (qX11_downOf l X a_this a_downs a_text a_roundMany a_blowMany a_blows a_forwards a_takens a_homes a_noises a_judgeMany a_judges a_delays a_tolds a_tens a_told a_ways a_nextWays a_tallies a_presses a_values a_nextValues i_length i_keptMany i_place f_downs x2 o22 ho22) (cwV (y := yX11_downOf) 1 hts gX11_margin0_X11_downOf rfl rfl rfl hdvX11_downOf ⟨Nat.le_of_ble_eq_true rfl, Nat.le_of_ble_eq_true rfl⟩) [0, 3] [1, 2, 4, 5, 6, 7] [6, 0, 1, 7, 2, 3, 4, 5] rfl rfl rfl rfl rfl rfl rfl (ci := 11) rfl 0 rfl rfl rfl (Nat.le_of_ble_eq_true rfl) ⟨Nat.le_of_ble_eq_true rfl, Nat.le_of_ble_eq_true rfl⟩ dX11_margin0_118 (fun H locs hP _ hS => ?_)
    refine lv_imul hx hb dX11_margin0_121 ?_
    refine lv_iadd hx hb dX11_margin0_122 ?_
    refine lv_bipush (v := (8 : Int32)) hx hb dX11_margin0_123 (by decide) ?_
    obtain ⟨o24, ho24, hf⟩ := ob_s hf
    refine xS_i (As := [.int (s0 + ((2 : Int32) * o22)), .int (8 : Int32)]) (rest := []) (ws2 := [(a_this, .inr (11, [.int i_length, .ref a_text, .ref a_roundMany, .ref a_blowMany, .ref a_blows, .ref a_forwards, .ref a_downs, .ref a_takens, .ref a_homes, .ref a_noises, .ref a_judgeMany, .ref a_judges, .ref a_delays, .ref a_tolds, .ref a_tens, .int i_keptMany, .int i_place, .ref a_told, .ref a_ways, .ref a_nextWays, .ref a_tallies, .ref a_presses, .ref a_values, .ref a_nextValues])), (a_blowMany, .inl (X.2.1 0, 2, .inl f_blowMany)), (a_blows, .inl (X.2.1 0, 400, .inl f_blows)), (a_downs, .inl (X.2.1 0, 48, .inl f_downs)), (a_forwards, .inl (X.2.1 0, 48, .inl f_forwards)), (a_homes, .inl (X.2.1 0, 2, .inl f_homes)), (a_judges, .inl (X.2.1 0, 112, .inl f_judges)), (a_noises, .inl (X.2.1 0, 2, .inl f_noises))]) hx hb hml hts hown hG hA hP hD rfl hS hl.1 (qX11_bound l X (s0 + ((2 : Int32) * o22)) (8 : Int32) o24 ho24) (va_cwS (y := yX11_bound) 2 hts gX11_margin0_X11_bound rfl rfl rfl hdsX11_bound ⟨Nat.le_of_ble_eq_true rfl, Nat.le_of_ble_eq_true rfl⟩) [] [0, 1, 2, 3, 4, 5, 6, 7] [0, 1, 2, 3, 4, 5, 6, 7] rfl rfl rfl rfl rfl rfl rfl rfl rfl (Nat.le_of_ble_eq_true rfl) ⟨Nat.le_of_ble_eq_true rfl, Nat.le_of_ble_eq_true rfl⟩ dX11_margin0_125 (fun H locs hP _ hS => ?_)
    obtain rfl := Option.some.inj hf
    exact ret H _ ls _ rfl hP hD hS dX11_margin0_128
  have hB82 : ∀ (s0 : Int32)  (H : Heap) (locs : List Loc) (ls : Array Slot), va_P X.1 vwCl [(a_this, .inr (11, [.int i_length, .ref a_text, .ref a_roundMany, .ref a_blowMany, .ref a_blows, .ref a_forwards, .ref a_downs, .ref a_takens, .ref a_homes, .ref a_noises, .ref a_judgeMany, .ref a_judges, .ref a_delays, .ref a_tolds, .ref a_tens, .int i_keptMany, .int i_place, .ref a_told, .ref a_ways, .ref a_nextWays, .ref a_tallies, .ref a_presses, .ref a_values, .ref a_nextValues])), (a_blowMany, .inl (X.2.1 0, 2, .inl f_blowMany)), (a_blows, .inl (X.2.1 0, 400, .inl f_blows)), (a_downs, .inl (X.2.1 0, 48, .inl f_downs)), (a_forwards, .inl (X.2.1 0, 48, .inl f_forwards)), (a_homes, .inl (X.2.1 0, 2, .inl f_homes)), (a_judges, .inl (X.2.1 0, 112, .inl f_judges)), (a_noises, .inl (X.2.1 0, 2, .inl f_noises))] H → va_S A s.heap H locs → lv_has ls 7 [(0, .ref a_this), (2, .int x1), (3, .int x2), (4, .int x3)] → mX11_margin0_B82 x0 x1 x2 x3 f_blowMany f_blows f_downs f_forwards f_homes f_judges f_noises  s0 = some o → W p l e rmX11_margin0 s m ([.ref a_this, .int x0, .int x1, .int x2, .int x3] : List Value).toArray below meth c H locs 0 0 Q (F0 m 82 ls [.int s0]) := by
    intro s0  H locs ls hP hS hl hf
    unfold mX11_margin0_B82 at hf
    refine lv_istore (lv' := [(5, .int s0), (0, .ref a_this), (2, .int x1), (3, .int x2), (4, .int x3)]) hx hb dX11_margin0_82 hl (by decide) rfl (fun ls hl => ?_)
    refine lv_iload hx hb dX11_margin0_84 (lv_at hl 4 rfl) ?_
    refine lv_if_eq (tgt := 102) hx hb dX11_margin0_86 (by decide) (fun c11 => ?_) (fun c11 => ?_)
    · have hf := xt hf c11
      refine lv_iload hx hb dX11_margin0_102 (lv_at hl 0 rfl) ?_
      refine lv_aload_n hx hb dX11_margin0_104 rfl (lv_at hl 1 rfl) ?_
      refine lv_iload_n hx hb dX11_margin0_105 rfl (lv_at hl 2 rfl) ?_
      refine lv_iload_n hx hb dX11_margin0_106 rfl (lv_at hl 3 rfl) ?_
      obtain ⟨o12, ho12, hf⟩ := ob_s hf
      refine xV_i (As := [.int x1, .int x2]) (b := a_this) (rest := [.int s0]) (ws2 := [(a_this, .inr (11, [.int i_length, .ref a_text, .ref a_roundMany, .ref a_blowMany, .ref a_blows, .ref a_forwards, .ref a_downs, .ref a_takens, .ref a_homes, .ref a_noises, .ref a_judgeMany, .ref a_judges, .ref a_delays, .ref a_tolds, .ref a_tens, .int i_keptMany, .int i_place, .ref a_told, .ref a_ways, .ref a_nextWays, .ref a_tallies, .ref a_presses, .ref a_values, .ref a_nextValues])), (a_blowMany, .inl (X.2.1 0, 2, .inl f_blowMany)), (a_blows, .inl (X.2.1 0, 400, .inl f_blows)), (a_downs, .inl (X.2.1 0, 48, .inl f_downs)), (a_forwards, .inl (X.2.1 0, 48, .inl f_forwards)), (a_homes, .inl (X.2.1 0, 2, .inl f_homes)), (a_judges, .inl (X.2.1 0, 112, .inl f_judges)), (a_noises, .inl (X.2.1 0, 2, .inl f_noises))]) hx hb hml hts hown hG hA hP hD rfl hS hl.1 (qX11_side l X a_this a_blowMany a_blows a_forwards a_homes a_judges a_noises a_text a_roundMany a_downs a_takens a_judgeMany a_delays a_tolds a_tens a_told a_ways a_nextWays a_tallies a_presses a_values a_nextValues i_length i_keptMany i_place f_blowMany f_blows f_forwards f_homes f_judges f_noises x1 x2 o12 ho12) (cwV (y := yX11_side) 2 hts gX11_margin0_X11_side rfl rfl rfl hdvX11_side ⟨Nat.le_of_ble_eq_true rfl, Nat.le_of_ble_eq_true rfl⟩) [0, 1, 2, 4, 5, 6, 7] [3] [1, 2, 3, 0, 4, 5, 6, 7] rfl rfl rfl rfl rfl rfl rfl (ci := 11) rfl 0 rfl rfl rfl (Nat.le_of_ble_eq_true rfl) ⟨Nat.le_of_ble_eq_true rfl, Nat.le_of_ble_eq_true rfl⟩ dX11_margin0_107 (fun H locs hP _ hS => ?_)
      refine lv_imul hx hb dX11_margin0_110 ?_
      exact hB111  (s0 * o12)  H _ ls hP  hS (lv_sub hl [1, 3] rfl) hf
    · have hf := xf hf c11
      refine lv_iload hx hb dX11_margin0_89 (lv_at hl 0 rfl) ?_
      refine lv_ineg hx hb dX11_margin0_91 ?_
      refine lv_aload_n hx hb dX11_margin0_92 rfl (lv_at hl 1 rfl) ?_
      refine lv_iload_n hx hb dX11_margin0_93 rfl (lv_at hl 2 rfl) ?_
      refine lv_iload_n hx hb dX11_margin0_94 rfl (lv_at hl 3 rfl) ?_
      obtain ⟨o14, ho14, hf⟩ := ob_s hf
      refine xV_i (As := [.int x1, .int x2]) (b := a_this) (rest := [.int (-s0)]) (ws2 := [(a_this, .inr (11, [.int i_length, .ref a_text, .ref a_roundMany, .ref a_blowMany, .ref a_blows, .ref a_forwards, .ref a_downs, .ref a_takens, .ref a_homes, .ref a_noises, .ref a_judgeMany, .ref a_judges, .ref a_delays, .ref a_tolds, .ref a_tens, .int i_keptMany, .int i_place, .ref a_told, .ref a_ways, .ref a_nextWays, .ref a_tallies, .ref a_presses, .ref a_values, .ref a_nextValues])), (a_blowMany, .inl (X.2.1 0, 2, .inl f_blowMany)), (a_blows, .inl (X.2.1 0, 400, .inl f_blows)), (a_downs, .inl (X.2.1 0, 48, .inl f_downs)), (a_forwards, .inl (X.2.1 0, 48, .inl f_forwards)), (a_homes, .inl (X.2.1 0, 2, .inl f_homes)), (a_judges, .inl (X.2.1 0, 112, .inl f_judges)), (a_noises, .inl (X.2.1 0, 2, .inl f_noises))]) hx hb hml hts hown hG hA hP hD rfl hS hl.1 (qX11_side l X a_this a_blowMany a_blows a_forwards a_homes a_judges a_noises a_text a_roundMany a_downs a_takens a_judgeMany a_delays a_tolds a_tens a_told a_ways a_nextWays a_tallies a_presses a_values a_nextValues i_length i_keptMany i_place f_blowMany f_blows f_forwards f_homes f_judges f_noises x1 x2 o14 ho14) (cwV (y := yX11_side) 2 hts gX11_margin0_X11_side rfl rfl rfl hdvX11_side ⟨Nat.le_of_ble_eq_true rfl, Nat.le_of_ble_eq_true rfl⟩) [0, 1, 2, 4, 5, 6, 7] [3] [1, 2, 3, 0, 4, 5, 6, 7] rfl rfl rfl rfl rfl rfl rfl (ci := 11) rfl 0 rfl rfl rfl (Nat.le_of_ble_eq_true rfl) ⟨Nat.le_of_ble_eq_true rfl, Nat.le_of_ble_eq_true rfl⟩ dX11_margin0_95 (fun H locs hP _ hS => ?_)
      refine lv_imul hx hb dX11_margin0_98 ?_
      refine lv_goto (tgt := 111) hx hb dX11_margin0_99 (by decide) ?_
      exact hB111  ((-s0) * o14)  H _ ls hP  hS (lv_sub hl [1, 3] rfl) hf
  have hB68 : ∀   (H : Heap) (locs : List Loc) (ls : Array Slot), va_P X.1 vwCl [(a_this, .inr (11, [.int i_length, .ref a_text, .ref a_roundMany, .ref a_blowMany, .ref a_blows, .ref a_forwards, .ref a_downs, .ref a_takens, .ref a_homes, .ref a_noises, .ref a_judgeMany, .ref a_judges, .ref a_delays, .ref a_tolds, .ref a_tens, .int i_keptMany, .int i_place, .ref a_told, .ref a_ways, .ref a_nextWays, .ref a_tallies, .ref a_presses, .ref a_values, .ref a_nextValues])), (a_blowMany, .inl (X.2.1 0, 2, .inl f_blowMany)), (a_blows, .inl (X.2.1 0, 400, .inl f_blows)), (a_downs, .inl (X.2.1 0, 48, .inl f_downs)), (a_forwards, .inl (X.2.1 0, 48, .inl f_forwards)), (a_homes, .inl (X.2.1 0, 2, .inl f_homes)), (a_judges, .inl (X.2.1 0, 112, .inl f_judges)), (a_noises, .inl (X.2.1 0, 2, .inl f_noises))] H → va_S A s.heap H locs → lv_has ls 7 [(0, .ref a_this), (2, .int x1), (3, .int x2), (4, .int x3)] → mX11_margin0_B68 x0 x1 x2 x3 f_blowMany f_blows f_downs f_forwards f_homes f_judges f_noises   = some o → W p l e rmX11_margin0 s m ([.ref a_this, .int x0, .int x1, .int x2, .int x3] : List Value).toArray below meth c H locs 0 0 Q (F0 m 68 ls []) := by
    intro   H locs ls hP hS hl hf
    unfold mX11_margin0_B68 at hf
    refine lv_iconst (v := (2 : Int32)) hx hb dX11_margin0_68 (by decide) ?_
    refine lv_goto (tgt := 82) hx hb dX11_margin0_69 (by decide) ?_
    exact hB82  (2 : Int32)  H _ ls hP  hS (lv_sub hl [0, 1, 2, 3] rfl) hf
  have hB36 : ∀ (s0 : Int32) (s1 : Int32)  (H : Heap) (locs : List Loc) (ls : Array Slot), va_P X.1 vwCl [(a_this, .inr (11, [.int i_length, .ref a_text, .ref a_roundMany, .ref a_blowMany, .ref a_blows, .ref a_forwards, .ref a_downs, .ref a_takens, .ref a_homes, .ref a_noises, .ref a_judgeMany, .ref a_judges, .ref a_delays, .ref a_tolds, .ref a_tens, .int i_keptMany, .int i_place, .ref a_told, .ref a_ways, .ref a_nextWays, .ref a_tallies, .ref a_presses, .ref a_values, .ref a_nextValues])), (a_blowMany, .inl (X.2.1 0, 2, .inl f_blowMany)), (a_blows, .inl (X.2.1 0, 400, .inl f_blows)), (a_downs, .inl (X.2.1 0, 48, .inl f_downs)), (a_forwards, .inl (X.2.1 0, 48, .inl f_forwards)), (a_homes, .inl (X.2.1 0, 2, .inl f_homes)), (a_judges, .inl (X.2.1 0, 112, .inl f_judges)), (a_noises, .inl (X.2.1 0, 2, .inl f_noises))] H → va_S A s.heap H locs → lv_has ls 7 [(0, .ref a_this), (3, .int x2)] → mX11_margin0_B36 x0 x1 x2 x3 f_blowMany f_blows f_downs f_forwards f_homes f_judges f_noises  s0 s1 = some o → W p l e rmX11_margin0 s m ([.ref a_this, .int x0, .int x1, .int x2, .int x3] : List Value).toArray below meth c H locs 0 0 Q (F0 m 36 ls [.int s1, .int s0]) := by
    intro s0 s1  H locs ls hP hS hl hf
    unfold mX11_margin0_B36 at hf
    refine lv_iadd hx hb dX11_margin0_36 ?_
    refine lv_topi (fun v16 ev16 => ?_)
    have hf := lb_s hf ev16
    refine lv_istore (lv' := [(6, .int v16), (0, .ref a_this), (3, .int x2)]) hx hb dX11_margin0_37 hl (by decide) rfl (fun ls hl => ?_)
    refine lv_iload hx hb dX11_margin0_39 (lv_at hl 0 rfl) ?_
    refine lv_bipush (v := (20 : Int32)) hx hb dX11_margin0_41 (by decide) ?_
    obtain ⟨o17, ho17, hf⟩ := ob_s hf
    refine xS_i (As := [.int v16, .int (20 : Int32)]) (rest := []) (ws2 := [(a_this, .inr (11, [.int i_length, .ref a_text, .ref a_roundMany, .ref a_blowMany, .ref a_blows, .ref a_forwards, .ref a_downs, .ref a_takens, .ref a_homes, .ref a_noises, .ref a_judgeMany, .ref a_judges, .ref a_delays, .ref a_tolds, .ref a_tens, .int i_keptMany, .int i_place, .ref a_told, .ref a_ways, .ref a_nextWays, .ref a_tallies, .ref a_presses, .ref a_values, .ref a_nextValues])), (a_blowMany, .inl (X.2.1 0, 2, .inl f_blowMany)), (a_blows, .inl (X.2.1 0, 400, .inl f_blows)), (a_downs, .inl (X.2.1 0, 48, .inl f_downs)), (a_forwards, .inl (X.2.1 0, 48, .inl f_forwards)), (a_homes, .inl (X.2.1 0, 2, .inl f_homes)), (a_judges, .inl (X.2.1 0, 112, .inl f_judges)), (a_noises, .inl (X.2.1 0, 2, .inl f_noises))]) hx hb hml hts hown hG hA hP hD rfl hS hl.1 (qX11_bound l X v16 (20 : Int32) o17 ho17) (va_cwS (y := yX11_bound) 2 hts gX11_margin0_X11_bound rfl rfl rfl hdsX11_bound ⟨Nat.le_of_ble_eq_true rfl, Nat.le_of_ble_eq_true rfl⟩) [] [0, 1, 2, 3, 4, 5, 6, 7] [0, 1, 2, 3, 4, 5, 6, 7] rfl rfl rfl rfl rfl rfl rfl rfl rfl (Nat.le_of_ble_eq_true rfl) ⟨Nat.le_of_ble_eq_true rfl, Nat.le_of_ble_eq_true rfl⟩ dX11_margin0_43 (fun H locs hP _ hS => ?_)
    refine lv_iconst (v := (4 : Int32)) hx hb dX11_margin0_46 (by decide) ?_
    refine lv_aload_n hx hb dX11_margin0_47 rfl (lv_at hl 1 rfl) ?_
    refine lv_iload_n hx hb dX11_margin0_48 rfl (lv_at hl 2 rfl) ?_
    obtain ⟨o19, ho19, hf⟩ := ob_s hf
    refine xV_i (As := [.int x2]) (b := a_this) (rest := [.int (4 : Int32), .int o17]) (ws2 := [(a_this, .inr (11, [.int i_length, .ref a_text, .ref a_roundMany, .ref a_blowMany, .ref a_blows, .ref a_forwards, .ref a_downs, .ref a_takens, .ref a_homes, .ref a_noises, .ref a_judgeMany, .ref a_judges, .ref a_delays, .ref a_tolds, .ref a_tens, .int i_keptMany, .int i_place, .ref a_told, .ref a_ways, .ref a_nextWays, .ref a_tallies, .ref a_presses, .ref a_values, .ref a_nextValues])), (a_blowMany, .inl (X.2.1 0, 2, .inl f_blowMany)), (a_blows, .inl (X.2.1 0, 400, .inl f_blows)), (a_downs, .inl (X.2.1 0, 48, .inl f_downs)), (a_forwards, .inl (X.2.1 0, 48, .inl f_forwards)), (a_homes, .inl (X.2.1 0, 2, .inl f_homes)), (a_judges, .inl (X.2.1 0, 112, .inl f_judges)), (a_noises, .inl (X.2.1 0, 2, .inl f_noises))]) hx hb hml hts hown hG hA hP hD rfl hS hl.1 (qX11_downOf l X a_this a_downs a_text a_roundMany a_blowMany a_blows a_forwards a_takens a_homes a_noises a_judgeMany a_judges a_delays a_tolds a_tens a_told a_ways a_nextWays a_tallies a_presses a_values a_nextValues i_length i_keptMany i_place f_downs x2 o19 ho19) (cwV (y := yX11_downOf) 1 hts gX11_margin0_X11_downOf rfl rfl rfl hdvX11_downOf ⟨Nat.le_of_ble_eq_true rfl, Nat.le_of_ble_eq_true rfl⟩) [0, 3] [1, 2, 4, 5, 6, 7] [6, 0, 1, 7, 2, 3, 4, 5] rfl rfl rfl rfl rfl rfl rfl (ci := 11) rfl 0 rfl rfl rfl (Nat.le_of_ble_eq_true rfl) ⟨Nat.le_of_ble_eq_true rfl, Nat.le_of_ble_eq_true rfl⟩ dX11_margin0_49 (fun H locs hP _ hS => ?_)
    refine lv_imul hx hb dX11_margin0_52 ?_
    refine lv_iadd hx hb dX11_margin0_53 ?_
    refine lv_topi (fun v21 ev21 => ?_)
    have hf := lb_s hf ev21
    obtain rfl := Option.some.inj hf
    exact ret H _ ls _ rfl hP hD hS dX11_margin0_54
  unfold mX11_margin0 at hf
  refine lv_iload_n hx hb dX11_margin0_0 rfl (lv_at hl 1 rfl) ?_
  refine lv_iconst (v := (3 : Int32)) hx hb dX11_margin0_1 (by decide) ?_
  refine lv_icmp_ne (tgt := 55) hx hb dX11_margin0_2 (by decide) (fun c1 => ?_) (fun c1 => ?_)
  · have hf := xf hf c1
    refine lv_iload_n hx hb dX11_margin0_55 rfl (lv_at hl 1 rfl) ?_
    refine lv_if_eq (tgt := 68) hx hb dX11_margin0_56 (by decide) (fun c2 => ?_) (fun c2 => ?_)
    · have hf := xt hf c2
      exact hB68    H _ ls hP  hS (lv_sub hl [0, 2, 3, 4] rfl) hf
    · have hf := xf hf c2
      refine lv_aload_n hx hb dX11_margin0_59 rfl (lv_at hl 0 rfl) ?_
      refine lv_iload_n hx hb dX11_margin0_60 rfl (lv_at hl 2 rfl) ?_
      refine lv_iload_n hx hb dX11_margin0_61 rfl (lv_at hl 3 rfl) ?_
      obtain ⟨o3, ho3, hf⟩ := ob_s hf
      refine xV_i (As := [.int x1, .int x2]) (b := a_this) (rest := []) (ws2 := [(a_this, .inr (11, [.int i_length, .ref a_text, .ref a_roundMany, .ref a_blowMany, .ref a_blows, .ref a_forwards, .ref a_downs, .ref a_takens, .ref a_homes, .ref a_noises, .ref a_judgeMany, .ref a_judges, .ref a_delays, .ref a_tolds, .ref a_tens, .int i_keptMany, .int i_place, .ref a_told, .ref a_ways, .ref a_nextWays, .ref a_tallies, .ref a_presses, .ref a_values, .ref a_nextValues])), (a_blowMany, .inl (X.2.1 0, 2, .inl f_blowMany)), (a_blows, .inl (X.2.1 0, 400, .inl f_blows)), (a_downs, .inl (X.2.1 0, 48, .inl f_downs)), (a_forwards, .inl (X.2.1 0, 48, .inl f_forwards)), (a_homes, .inl (X.2.1 0, 2, .inl f_homes)), (a_judges, .inl (X.2.1 0, 112, .inl f_judges)), (a_noises, .inl (X.2.1 0, 2, .inl f_noises))]) hx hb hml hts hown hG hA hP hD rfl hS hl.1 (qX11_isClose l X a_this a_blowMany a_blows a_forwards a_homes a_judges a_noises a_text a_roundMany a_downs a_takens a_judgeMany a_delays a_tolds a_tens a_told a_ways a_nextWays a_tallies a_presses a_values a_nextValues i_length i_keptMany i_place f_blowMany f_blows f_forwards f_homes f_judges f_noises x1 x2 o3 ho3) (cwV (y := yX11_isClose) 2 hts gX11_margin0_X11_isClose rfl rfl rfl hdvX11_isClose ⟨Nat.le_of_ble_eq_true rfl, Nat.le_of_ble_eq_true rfl⟩) [0, 1, 2, 4, 5, 6, 7] [3] [1, 2, 3, 0, 4, 5, 6, 7] rfl rfl rfl rfl rfl rfl rfl (ci := 11) rfl 0 rfl rfl rfl (Nat.le_of_ble_eq_true rfl) ⟨Nat.le_of_ble_eq_true rfl, Nat.le_of_ble_eq_true rfl⟩ dX11_margin0_62 (fun H locs hP _ hS => ?_)
      refine lv_if_ne (tgt := 72) hx hb dX11_margin0_65 (by decide) (fun c5 => ?_) (fun c5 => ?_)
      · have hf := xf hf c5
        refine lv_iload_n hx hb dX11_margin0_72 rfl (lv_at hl 1 rfl) ?_
        refine lv_iconst (v := (1 : Int32)) hx hb dX11_margin0_73 (by decide) ?_
        refine lv_icmp_ne (tgt := 81) hx hb dX11_margin0_74 (by decide) (fun c6 => ?_) (fun c6 => ?_)
        · have hf := xf hf c6
          refine lv_iconst (v := (0 : Int32)) hx hb dX11_margin0_81 (by decide) ?_
          exact hB82  (0 : Int32)  H _ ls hP  hS (lv_sub hl [0, 2, 3, 4] rfl) hf
        · have hf := xt hf c6
          refine lv_iconst (v := (1 : Int32)) hx hb dX11_margin0_77 (by decide) ?_
          refine lv_goto (tgt := 82) hx hb dX11_margin0_78 (by decide) ?_
          exact hB82  (1 : Int32)  H _ ls hP  hS (lv_sub hl [0, 2, 3, 4] rfl) hf
      · have hf := xt hf c5
        exact hB68    H _ ls hP  hS (lv_sub hl [0, 2, 3, 4] rfl) hf
  · have hf := xt hf c1
    refine lv_aload_n hx hb dX11_margin0_5 rfl (lv_at hl 0 rfl) ?_
    refine lv_iload_n hx hb dX11_margin0_6 rfl (lv_at hl 2 rfl) ?_
    refine lv_iload_n hx hb dX11_margin0_7 rfl (lv_at hl 3 rfl) ?_
    obtain ⟨o7, ho7, hf⟩ := ob_s hf
    refine xV_i (As := [.int x1, .int x2]) (b := a_this) (rest := []) (ws2 := [(a_this, .inr (11, [.int i_length, .ref a_text, .ref a_roundMany, .ref a_blowMany, .ref a_blows, .ref a_forwards, .ref a_downs, .ref a_takens, .ref a_homes, .ref a_noises, .ref a_judgeMany, .ref a_judges, .ref a_delays, .ref a_tolds, .ref a_tens, .int i_keptMany, .int i_place, .ref a_told, .ref a_ways, .ref a_nextWays, .ref a_tallies, .ref a_presses, .ref a_values, .ref a_nextValues])), (a_blowMany, .inl (X.2.1 0, 2, .inl f_blowMany)), (a_blows, .inl (X.2.1 0, 400, .inl f_blows)), (a_downs, .inl (X.2.1 0, 48, .inl f_downs)), (a_forwards, .inl (X.2.1 0, 48, .inl f_forwards)), (a_homes, .inl (X.2.1 0, 2, .inl f_homes)), (a_judges, .inl (X.2.1 0, 112, .inl f_judges)), (a_noises, .inl (X.2.1 0, 2, .inl f_noises))]) hx hb hml hts hown hG hA hP hD rfl hS hl.1 (qX11_leadOf l X a_this a_blowMany a_blows a_forwards a_homes a_judges a_noises a_text a_roundMany a_downs a_takens a_judgeMany a_delays a_tolds a_tens a_told a_ways a_nextWays a_tallies a_presses a_values a_nextValues i_length i_keptMany i_place f_blowMany f_blows f_forwards f_homes f_judges f_noises x1 x2 o7 ho7) (cwV (y := yX11_leadOf) 2 hts gX11_margin0_X11_leadOf rfl rfl rfl hdvX11_leadOf ⟨Nat.le_of_ble_eq_true rfl, Nat.le_of_ble_eq_true rfl⟩) [0, 1, 2, 4, 5, 6, 7] [3] [1, 2, 3, 0, 4, 5, 6, 7] rfl rfl rfl rfl rfl rfl rfl (ci := 11) rfl 0 rfl rfl rfl (Nat.le_of_ble_eq_true rfl) ⟨Nat.le_of_ble_eq_true rfl, Nat.le_of_ble_eq_true rfl⟩ dX11_margin0_8 (fun H locs hP _ hS => ?_)
    refine lv_istore (lv' := [(5, .int o7), (0, .ref a_this), (1, .int x0), (2, .int x1), (3, .int x2), (4, .int x3)]) hx hb dX11_margin0_11 hl (by decide) rfl (fun ls hl => ?_)
    refine lv_iload hx hb dX11_margin0_13 (lv_at hl 0 rfl) ?_
    refine lv_iconst (v := (5 : Int32)) hx hb dX11_margin0_15 (by decide) ?_
    refine lv_idiv hx hb dX11_margin0_16 (by decide) ?_
    refine lv_iload hx hb dX11_margin0_17 (lv_at hl 0 rfl) ?_
    refine lv_if_le (tgt := 26) hx hb dX11_margin0_19 (by decide) (fun c9 => ?_) (fun c9 => ?_)
    · have hf := xt hf c9
      refine lv_iload hx hb dX11_margin0_26 (lv_at hl 0 rfl) ?_
      refine lv_if_ge (tgt := 35) hx hb dX11_margin0_28 (by decide) (fun c10 => ?_) (fun c10 => ?_)
      · have hf := xt hf c10
        refine lv_iconst (v := (0 : Int32)) hx hb dX11_margin0_35 (by decide) ?_
        exact hB36  (o7 / (5 : Int32)) (0 : Int32)  H _ ls hP  hS (lv_sub hl [1, 4] rfl) hf
      · have hf := xf hf c10
        refine lv_iconst (v := (-1 : Int32)) hx hb dX11_margin0_31 (by decide) ?_
        refine lv_goto (tgt := 36) hx hb dX11_margin0_32 (by decide) ?_
        exact hB36  (o7 / (5 : Int32)) (-1 : Int32)  H _ ls hP  hS (lv_sub hl [1, 4] rfl) hf
    · have hf := xf hf c9
      refine lv_iconst (v := (1 : Int32)) hx hb dX11_margin0_22 (by decide) ?_
      refine lv_goto (tgt := 36) hx hb dX11_margin0_23 (by decide) ?_
      exact hB36  (o7 / (5 : Int32)) (1 : Int32)  H _ ls hP  hS (lv_sub hl [1, 4] rfl) hf
def mX11_isRule (x0 : Int32) :
  Option (Int32) :=
  (mX11_in (Int32.toInt64 x0) (0 : Int64) (3 : Int64)).bind fun o1 =>
  gz o1 <|
  some o1
theorem hdsX11_isRule : yX11_isRule.cls ≠ "java/lang/invoke/MethodHandle" ∧ yX11_isRule.cls ≠ "java/lang/invoke/VarHandle" ∧ (parseMethodDescriptor yX11_isRule.desc).map (fun d => d.parameters.length) = some 1 := by decide +kernel
abbrev rmX11_isRule : Room := { frames := 1, cells := 0, slots := 0, locals := 25 }
set_option maxHeartbeats 4000000 in
set_option maxRecDepth 100000 in
theorem qX11_isRule (l : Launch) (X : XT)    (x0 : Int32) (o : Int32) (hf : mX11_isRule x0 = some o) :
    MI l yX11_isRule wsX11_isRule rmX11_isRule X [.int x0] []  [] o := by
  refine MI_ofH (cc := cX11_isRule) (maxL := 1) (rt := .boolean) (by decide) rfl (Nat.le_of_ble_eq_true rfl) ?_
  intro p e s m below meth c A Q H ls hx hb hml hts hown hA hD hG hP hS hl ret
  have hown : s.vm.findClass RX11 = some m.cls := hown
  have hD : aD A [] := hD
  have hl : lv_has ls 1 [(0, .int x0)] := hl
  have w1 := hts (.constantLong RX11 101 (3)) (List.mem_of_getElem? (i := 1) rfl)
  unfold mX11_isRule at hf
  refine lv_iload_n hx hb dX11_isRule_0 rfl (lv_at hl 0 rfl) ?_
  refine lv_i2l hx hb dX11_isRule_1 rfl ?_
  refine lv_lconst (v := (0 : Int64)) hx hb dX11_isRule_2 rfl ?_
  refine lv_ldc2 (v := (3 : Int64)) hx hb hown w1 dX11_isRule_3 ?_
  obtain ⟨o1, ho1, hf⟩ := ob_s hf
  refine xS_i (As := [.long (Int32.toInt64 x0), .long (0 : Int64), .long (3 : Int64)]) (rest := []) (ws2 := []) hx hb hml hts hown hG hA hP hD rfl hS hl.1 (qX11_in l X (Int32.toInt64 x0) (0 : Int64) (3 : Int64) o1 ho1) (va_cwS (y := yX11_in) 3 hts gX11_isRule_X11_in rfl rfl rfl hdsX11_in ⟨Nat.le_of_ble_eq_true rfl, Nat.le_of_ble_eq_true rfl⟩) [] [] [] rfl rfl rfl rfl rfl rfl rfl rfl rfl (Nat.le_of_ble_eq_true rfl) ⟨Nat.le_of_ble_eq_true rfl, Nat.le_of_ble_eq_true rfl⟩ dX11_isRule_6 (fun H locs hP _ hS => ?_)
  obtain ⟨h3, hf⟩ := gz_s hf
  obtain rfl := Option.some.inj hf
  exact ret H _ ls _ h3 hP hD hS dX11_isRule_9
def mX11_margin (x0 : Int32) (x1 : Int32) (x2 : Int32) (f_blowMany : Nat → Int32) (f_blows : Nat → Int32) (f_downs : Nat → Int32) (f_forwards : Nat → Int32) (f_homes : Nat → Int32) (f_judgeMany : Nat → Int32) (f_judges : Nat → Int32) (f_noises : Nat → Int32) (f_roundMany : Nat → Int32) :
  Option (Int32) :=
  (mX11_isRule x0).bind fun o1 =>
  if o1 = 0 then (some (-100001 : Int32)) else ((mX11_isJudge x1 f_judgeMany).bind fun o4 =>
  if o4 = 0 then (some (-100001 : Int32)) else ((mX11_isRound x2 f_roundMany).bind fun o7 =>
  if o7 = 0 then (some (-100001 : Int32)) else ((mX11_margin0 x0 x1 x2 (0 : Int32) f_blowMany f_blows f_downs f_forwards f_homes f_judges f_noises).bind fun o10 =>
  some o10)))
theorem hdsX11_margin : yX11_margin.cls ≠ "java/lang/invoke/MethodHandle" ∧ yX11_margin.cls ≠ "java/lang/invoke/VarHandle" ∧ (parseMethodDescriptor yX11_margin.desc).map (fun d => d.parameters.length) = some 3 := by decide +kernel
theorem hdvX11_margin : yX11_margin.cls = RX11 ∧ yX11_margin.cls ≠ "java/lang/invoke/MethodHandle" ∧ yX11_margin.cls ≠ "java/lang/invoke/VarHandle" ∧ (parseMethodDescriptor yX11_margin.desc).map (fun d => d.parameters.length) = some 3 := by decide +kernel
abbrev rmX11_margin : Room := { frames := 6, cells := 0, slots := 0, locals := 143 }
set_option maxHeartbeats 4000000 in
set_option maxRecDepth 100000 in
theorem qX11_margin (l : Launch) (X : XT) (a_this : Nat) (a_blowMany : Nat) (a_blows : Nat) (a_downs : Nat) (a_forwards : Nat) (a_homes : Nat) (a_judgeMany : Nat) (a_judges : Nat) (a_noises : Nat) (a_roundMany : Nat) (a_text : Nat) (a_takens : Nat) (a_delays : Nat) (a_tolds : Nat) (a_tens : Nat) (a_told : Nat) (a_ways : Nat) (a_nextWays : Nat) (a_tallies : Nat) (a_presses : Nat) (a_values : Nat) (a_nextValues : Nat)  (i_length : Int32) (i_keptMany : Int32) (i_place : Int32) (f_blowMany : Nat → Int32) (f_blows : Nat → Int32) (f_downs : Nat → Int32) (f_forwards : Nat → Int32) (f_homes : Nat → Int32) (f_judgeMany : Nat → Int32) (f_judges : Nat → Int32) (f_noises : Nat → Int32) (f_roundMany : Nat → Int32) (x0 : Int32) (x1 : Int32) (x2 : Int32) (o : Int32) (hf : mX11_margin x0 x1 x2 f_blowMany f_blows f_downs f_forwards f_homes f_judgeMany f_judges f_noises f_roundMany = some o) :
    MI l yX11_margin wsX11_margin rmX11_margin X [.ref a_this, .int x0, .int x1, .int x2] [(a_this, .inr (11, [.int i_length, .ref a_text, .ref a_roundMany, .ref a_blowMany, .ref a_blows, .ref a_forwards, .ref a_downs, .ref a_takens, .ref a_homes, .ref a_noises, .ref a_judgeMany, .ref a_judges, .ref a_delays, .ref a_tolds, .ref a_tens, .int i_keptMany, .int i_place, .ref a_told, .ref a_ways, .ref a_nextWays, .ref a_tallies, .ref a_presses, .ref a_values, .ref a_nextValues])), (a_blowMany, .inl (X.2.1 0, 2, .inl f_blowMany)), (a_blows, .inl (X.2.1 0, 400, .inl f_blows)), (a_downs, .inl (X.2.1 0, 48, .inl f_downs)), (a_forwards, .inl (X.2.1 0, 48, .inl f_forwards)), (a_homes, .inl (X.2.1 0, 2, .inl f_homes)), (a_judgeMany, .inl (X.2.1 0, 2, .inl f_judgeMany)), (a_judges, .inl (X.2.1 0, 112, .inl f_judges)), (a_noises, .inl (X.2.1 0, 2, .inl f_noises)), (a_roundMany, .inl (X.2.1 0, 2, .inl f_roundMany))]  [(a_this, .inr (11, [.int i_length, .ref a_text, .ref a_roundMany, .ref a_blowMany, .ref a_blows, .ref a_forwards, .ref a_downs, .ref a_takens, .ref a_homes, .ref a_noises, .ref a_judgeMany, .ref a_judges, .ref a_delays, .ref a_tolds, .ref a_tens, .int i_keptMany, .int i_place, .ref a_told, .ref a_ways, .ref a_nextWays, .ref a_tallies, .ref a_presses, .ref a_values, .ref a_nextValues])), (a_blowMany, .inl (X.2.1 0, 2, .inl f_blowMany)), (a_blows, .inl (X.2.1 0, 400, .inl f_blows)), (a_downs, .inl (X.2.1 0, 48, .inl f_downs)), (a_forwards, .inl (X.2.1 0, 48, .inl f_forwards)), (a_homes, .inl (X.2.1 0, 2, .inl f_homes)), (a_judgeMany, .inl (X.2.1 0, 2, .inl f_judgeMany)), (a_judges, .inl (X.2.1 0, 112, .inl f_judges)), (a_noises, .inl (X.2.1 0, 2, .inl f_noises)), (a_roundMany, .inl (X.2.1 0, 2, .inl f_roundMany))] o := by
  refine MI_ofH (cc := cX11_margin) (maxL := 4) (rt := .int) (by decide) rfl (Nat.le_of_ble_eq_true rfl) ?_
  intro p e s m below meth c A Q H ls hx hb hml hts hown hA hD hG hP hS hl ret
  have hown : s.vm.findClass RX11 = some m.cls := hown
  have hD : aD A [a_this, a_blowMany, a_blows, a_downs, a_forwards, a_homes, a_judgeMany, a_judges, a_noises, a_roundMany] := hD
  have hl : lv_has ls 4 [(0, .ref a_this), (1, .int x0), (2, .int x1), (3, .int x2)] := hl
  have w1 := hts (Cond.constant RX11 155 (-100001)) (List.mem_of_getElem? (i := 1) rfl)
  unfold mX11_margin at hf
  refine lv_iload_n hx hb dX11_margin_0 rfl (lv_at hl 1 rfl) ?_
  obtain ⟨o1, ho1, hf⟩ := ob_s hf
  refine xS_i (As := [.int x0]) (rest := []) (ws2 := [(a_this, .inr (11, [.int i_length, .ref a_text, .ref a_roundMany, .ref a_blowMany, .ref a_blows, .ref a_forwards, .ref a_downs, .ref a_takens, .ref a_homes, .ref a_noises, .ref a_judgeMany, .ref a_judges, .ref a_delays, .ref a_tolds, .ref a_tens, .int i_keptMany, .int i_place, .ref a_told, .ref a_ways, .ref a_nextWays, .ref a_tallies, .ref a_presses, .ref a_values, .ref a_nextValues])), (a_blowMany, .inl (X.2.1 0, 2, .inl f_blowMany)), (a_blows, .inl (X.2.1 0, 400, .inl f_blows)), (a_downs, .inl (X.2.1 0, 48, .inl f_downs)), (a_forwards, .inl (X.2.1 0, 48, .inl f_forwards)), (a_homes, .inl (X.2.1 0, 2, .inl f_homes)), (a_judgeMany, .inl (X.2.1 0, 2, .inl f_judgeMany)), (a_judges, .inl (X.2.1 0, 112, .inl f_judges)), (a_noises, .inl (X.2.1 0, 2, .inl f_noises)), (a_roundMany, .inl (X.2.1 0, 2, .inl f_roundMany))]) hx hb hml hts hown hG hA hP hD rfl hS hl.1 (qX11_isRule l X x0 o1 ho1) (va_cwS (y := yX11_isRule) 1 hts gX11_margin_X11_isRule rfl rfl rfl hdsX11_isRule ⟨Nat.le_of_ble_eq_true rfl, Nat.le_of_ble_eq_true rfl⟩) [] [0, 1, 2, 3, 4, 5, 6, 7, 8, 9] [0, 1, 2, 3, 4, 5, 6, 7, 8, 9] rfl rfl rfl rfl rfl rfl rfl rfl rfl (Nat.le_of_ble_eq_true rfl) ⟨Nat.le_of_ble_eq_true rfl, Nat.le_of_ble_eq_true rfl⟩ dX11_margin_1 (fun H locs hP _ hS => ?_)
  refine lv_if_eq (tgt := 34) hx hb dX11_margin_4 (by decide) (fun c3 => ?_) (fun c3 => ?_)
  · have hf := xt hf c3
    refine lv_ldc (v := (-100001 : Int32)) hx hb hown w1 dX11_margin_34 ?_
    obtain rfl := Option.some.inj hf
    exact ret H _ ls _ rfl hP hD hS dX11_margin_36
  · have hf := xf hf c3
    refine lv_aload_n hx hb dX11_margin_7 rfl (lv_at hl 0 rfl) ?_
    refine lv_iload_n hx hb dX11_margin_8 rfl (lv_at hl 2 rfl) ?_
    obtain ⟨o4, ho4, hf⟩ := ob_s hf
    refine xV_i (As := [.int x1]) (b := a_this) (rest := []) (ws2 := [(a_this, .inr (11, [.int i_length, .ref a_text, .ref a_roundMany, .ref a_blowMany, .ref a_blows, .ref a_forwards, .ref a_downs, .ref a_takens, .ref a_homes, .ref a_noises, .ref a_judgeMany, .ref a_judges, .ref a_delays, .ref a_tolds, .ref a_tens, .int i_keptMany, .int i_place, .ref a_told, .ref a_ways, .ref a_nextWays, .ref a_tallies, .ref a_presses, .ref a_values, .ref a_nextValues])), (a_blowMany, .inl (X.2.1 0, 2, .inl f_blowMany)), (a_blows, .inl (X.2.1 0, 400, .inl f_blows)), (a_downs, .inl (X.2.1 0, 48, .inl f_downs)), (a_forwards, .inl (X.2.1 0, 48, .inl f_forwards)), (a_homes, .inl (X.2.1 0, 2, .inl f_homes)), (a_judgeMany, .inl (X.2.1 0, 2, .inl f_judgeMany)), (a_judges, .inl (X.2.1 0, 112, .inl f_judges)), (a_noises, .inl (X.2.1 0, 2, .inl f_noises)), (a_roundMany, .inl (X.2.1 0, 2, .inl f_roundMany))]) hx hb hml hts hown hG hA hP hD rfl hS hl.1 (qX11_isJudge l X a_this a_judgeMany a_text a_roundMany a_blowMany a_blows a_forwards a_downs a_takens a_homes a_noises a_judges a_delays a_tolds a_tens a_told a_ways a_nextWays a_tallies a_presses a_values a_nextValues i_length i_keptMany i_place f_judgeMany x1 o4 ho4) (cwV (y := yX11_isJudge) 1 hts gX11_margin_X11_isJudge rfl rfl rfl hdvX11_isJudge ⟨Nat.le_of_ble_eq_true rfl, Nat.le_of_ble_eq_true rfl⟩) [0, 6] [1, 2, 3, 4, 5, 7, 8, 9] [8, 0, 1, 2, 3, 4, 9, 5, 6, 7] rfl rfl rfl rfl rfl rfl rfl (ci := 11) rfl 0 rfl rfl rfl (Nat.le_of_ble_eq_true rfl) ⟨Nat.le_of_ble_eq_true rfl, Nat.le_of_ble_eq_true rfl⟩ dX11_margin_9 (fun H locs hP _ hS => ?_)
    refine lv_if_eq (tgt := 34) hx hb dX11_margin_12 (by decide) (fun c6 => ?_) (fun c6 => ?_)
    · have hf := xt hf c6
      refine lv_ldc (v := (-100001 : Int32)) hx hb hown w1 dX11_margin_34 ?_
      obtain rfl := Option.some.inj hf
      exact ret H _ ls _ rfl hP hD hS dX11_margin_36
    · have hf := xf hf c6
      refine lv_aload_n hx hb dX11_margin_15 rfl (lv_at hl 0 rfl) ?_
      refine lv_iload_n hx hb dX11_margin_16 rfl (lv_at hl 3 rfl) ?_
      obtain ⟨o7, ho7, hf⟩ := ob_s hf
      refine xV_i (As := [.int x2]) (b := a_this) (rest := []) (ws2 := [(a_this, .inr (11, [.int i_length, .ref a_text, .ref a_roundMany, .ref a_blowMany, .ref a_blows, .ref a_forwards, .ref a_downs, .ref a_takens, .ref a_homes, .ref a_noises, .ref a_judgeMany, .ref a_judges, .ref a_delays, .ref a_tolds, .ref a_tens, .int i_keptMany, .int i_place, .ref a_told, .ref a_ways, .ref a_nextWays, .ref a_tallies, .ref a_presses, .ref a_values, .ref a_nextValues])), (a_blowMany, .inl (X.2.1 0, 2, .inl f_blowMany)), (a_blows, .inl (X.2.1 0, 400, .inl f_blows)), (a_downs, .inl (X.2.1 0, 48, .inl f_downs)), (a_forwards, .inl (X.2.1 0, 48, .inl f_forwards)), (a_homes, .inl (X.2.1 0, 2, .inl f_homes)), (a_judgeMany, .inl (X.2.1 0, 2, .inl f_judgeMany)), (a_judges, .inl (X.2.1 0, 112, .inl f_judges)), (a_noises, .inl (X.2.1 0, 2, .inl f_noises)), (a_roundMany, .inl (X.2.1 0, 2, .inl f_roundMany))]) hx hb hml hts hown hG hA hP hD rfl hS hl.1 (qX11_isRound l X a_this a_roundMany a_text a_blowMany a_blows a_forwards a_downs a_takens a_homes a_noises a_judgeMany a_judges a_delays a_tolds a_tens a_told a_ways a_nextWays a_tallies a_presses a_values a_nextValues i_length i_keptMany i_place f_roundMany x2 o7 ho7) (cwV (y := yX11_isRound) 1 hts gX11_margin_X11_isRound rfl rfl rfl hdvX11_isRound ⟨Nat.le_of_ble_eq_true rfl, Nat.le_of_ble_eq_true rfl⟩) [0, 9] [1, 2, 3, 4, 5, 6, 7, 8] [8, 0, 1, 2, 3, 4, 5, 6, 7, 9] rfl rfl rfl rfl rfl rfl rfl (ci := 11) rfl 0 rfl rfl rfl (Nat.le_of_ble_eq_true rfl) ⟨Nat.le_of_ble_eq_true rfl, Nat.le_of_ble_eq_true rfl⟩ dX11_margin_17 (fun H locs hP _ hS => ?_)
      refine lv_if_eq (tgt := 34) hx hb dX11_margin_20 (by decide) (fun c9 => ?_) (fun c9 => ?_)
      · have hf := xt hf c9
        refine lv_ldc (v := (-100001 : Int32)) hx hb hown w1 dX11_margin_34 ?_
        obtain rfl := Option.some.inj hf
        exact ret H _ ls _ rfl hP hD hS dX11_margin_36
      · have hf := xf hf c9
        refine lv_aload_n hx hb dX11_margin_23 rfl (lv_at hl 0 rfl) ?_
        refine lv_iload_n hx hb dX11_margin_24 rfl (lv_at hl 1 rfl) ?_
        refine lv_iload_n hx hb dX11_margin_25 rfl (lv_at hl 2 rfl) ?_
        refine lv_iload_n hx hb dX11_margin_26 rfl (lv_at hl 3 rfl) ?_
        refine lv_iconst (v := (0 : Int32)) hx hb dX11_margin_27 (by decide) ?_
        obtain ⟨o10, ho10, hf⟩ := ob_s hf
        refine xV_i (As := [.int x0, .int x1, .int x2, .int (0 : Int32)]) (b := a_this) (rest := []) (ws2 := [(a_this, .inr (11, [.int i_length, .ref a_text, .ref a_roundMany, .ref a_blowMany, .ref a_blows, .ref a_forwards, .ref a_downs, .ref a_takens, .ref a_homes, .ref a_noises, .ref a_judgeMany, .ref a_judges, .ref a_delays, .ref a_tolds, .ref a_tens, .int i_keptMany, .int i_place, .ref a_told, .ref a_ways, .ref a_nextWays, .ref a_tallies, .ref a_presses, .ref a_values, .ref a_nextValues])), (a_blowMany, .inl (X.2.1 0, 2, .inl f_blowMany)), (a_blows, .inl (X.2.1 0, 400, .inl f_blows)), (a_downs, .inl (X.2.1 0, 48, .inl f_downs)), (a_forwards, .inl (X.2.1 0, 48, .inl f_forwards)), (a_homes, .inl (X.2.1 0, 2, .inl f_homes)), (a_judgeMany, .inl (X.2.1 0, 2, .inl f_judgeMany)), (a_judges, .inl (X.2.1 0, 112, .inl f_judges)), (a_noises, .inl (X.2.1 0, 2, .inl f_noises)), (a_roundMany, .inl (X.2.1 0, 2, .inl f_roundMany))]) hx hb hml hts hown hG hA hP hD rfl hS hl.1 (qX11_margin0 l X a_this a_blowMany a_blows a_downs a_forwards a_homes a_judges a_noises a_text a_roundMany a_takens a_judgeMany a_delays a_tolds a_tens a_told a_ways a_nextWays a_tallies a_presses a_values a_nextValues i_length i_keptMany i_place f_blowMany f_blows f_downs f_forwards f_homes f_judges f_noises x0 x1 x2 (0 : Int32) o10 ho10) (cwV (y := yX11_margin0) 4 hts gX11_margin_X11_margin0 rfl rfl rfl hdvX11_margin0 ⟨Nat.le_of_ble_eq_true rfl, Nat.le_of_ble_eq_true rfl⟩) [0, 1, 2, 3, 4, 5, 7, 8] [6, 9] [2, 3, 4, 5, 6, 7, 0, 8, 9, 1] rfl rfl rfl rfl rfl rfl rfl (ci := 11) rfl 0 rfl rfl rfl (Nat.le_of_ble_eq_true rfl) ⟨Nat.le_of_ble_eq_true rfl, Nat.le_of_ble_eq_true rfl⟩ dX11_margin_28 (fun H locs hP _ hS => ?_)
        refine lv_goto (tgt := 36) hx hb dX11_margin_31 (by decide) ?_
        obtain rfl := Option.some.inj hf
        exact ret H _ ls _ rfl hP hD hS dX11_margin_36
def mX11_takenOf_B4 (x0 : Int32) (f_roundMany : Nat → Int32) (f_takens : Nat → Int32) (k4 : Int32 → Int32 → Option (Int32)) (l2 : Int32) (l3 : Int32) :
  Option (Int32) :=
  if (f_roundMany (0 : Int32).toNatClampNeg) ≤ l3 then (some l2) else (gi (((2 : Int32) * l3) + x0) 48 <|
  lb (l2 + (f_takens (((2 : Int32) * l3) + x0).toNatClampNeg)) fun v3 =>
  lb (l3 + (1 : Int32)) fun v4 =>
  k4 v3 v4)
def mX11_takenOf_L4 (x0 : Int32) (f_roundMany : Nat → Int32) (f_takens : Nat → Int32) (n : Nat) (l2 : Int32) (l3 : Int32) :
  Option (Int32) :=
  loopN (fun k (s : Int32 × Int32) => mX11_takenOf_B4 x0 f_roundMany f_takens  (fun l2 l3 => k (l2, l3)) s.1 s.2) n (l2, l3)
def mX11_takenOf (x0 : Int32) (f_roundMany : Nat → Int32) (f_takens : Nat → Int32) :
  Option (Int32) :=
  mX11_takenOf_L4 x0 f_roundMany f_takens  FUEL (0 : Int32) (0 : Int32)
theorem hdsX11_takenOf : yX11_takenOf.cls ≠ "java/lang/invoke/MethodHandle" ∧ yX11_takenOf.cls ≠ "java/lang/invoke/VarHandle" ∧ (parseMethodDescriptor yX11_takenOf.desc).map (fun d => d.parameters.length) = some 1 := by decide +kernel
theorem hdvX11_takenOf : yX11_takenOf.cls = RX11 ∧ yX11_takenOf.cls ≠ "java/lang/invoke/MethodHandle" ∧ yX11_takenOf.cls ≠ "java/lang/invoke/VarHandle" ∧ (parseMethodDescriptor yX11_takenOf.desc).map (fun d => d.parameters.length) = some 1 := by decide +kernel
abbrev rmX11_takenOf : Room := { frames := 0, cells := 0, slots := 0, locals := 0 }
set_option maxHeartbeats 4000000 in
set_option maxRecDepth 100000 in
theorem qX11_takenOf (l : Launch) (X : XT) (a_this : Nat) (a_roundMany : Nat) (a_takens : Nat) (a_text : Nat) (a_blowMany : Nat) (a_blows : Nat) (a_forwards : Nat) (a_downs : Nat) (a_homes : Nat) (a_noises : Nat) (a_judgeMany : Nat) (a_judges : Nat) (a_delays : Nat) (a_tolds : Nat) (a_tens : Nat) (a_told : Nat) (a_ways : Nat) (a_nextWays : Nat) (a_tallies : Nat) (a_presses : Nat) (a_values : Nat) (a_nextValues : Nat)  (i_length : Int32) (i_keptMany : Int32) (i_place : Int32) (f_roundMany : Nat → Int32) (f_takens : Nat → Int32) (x0 : Int32) (o : Int32) (hf : mX11_takenOf x0 f_roundMany f_takens = some o) :
    MI l yX11_takenOf wsX11_takenOf rmX11_takenOf X [.ref a_this, .int x0] [(a_this, .inr (11, [.int i_length, .ref a_text, .ref a_roundMany, .ref a_blowMany, .ref a_blows, .ref a_forwards, .ref a_downs, .ref a_takens, .ref a_homes, .ref a_noises, .ref a_judgeMany, .ref a_judges, .ref a_delays, .ref a_tolds, .ref a_tens, .int i_keptMany, .int i_place, .ref a_told, .ref a_ways, .ref a_nextWays, .ref a_tallies, .ref a_presses, .ref a_values, .ref a_nextValues])), (a_roundMany, .inl (X.2.1 0, 2, .inl f_roundMany)), (a_takens, .inl (X.2.1 0, 48, .inl f_takens))]  [(a_this, .inr (11, [.int i_length, .ref a_text, .ref a_roundMany, .ref a_blowMany, .ref a_blows, .ref a_forwards, .ref a_downs, .ref a_takens, .ref a_homes, .ref a_noises, .ref a_judgeMany, .ref a_judges, .ref a_delays, .ref a_tolds, .ref a_tens, .int i_keptMany, .int i_place, .ref a_told, .ref a_ways, .ref a_nextWays, .ref a_tallies, .ref a_presses, .ref a_values, .ref a_nextValues])), (a_roundMany, .inl (X.2.1 0, 2, .inl f_roundMany)), (a_takens, .inl (X.2.1 0, 48, .inl f_takens))] o := by
  refine MI_ofH (cc := cX11_takenOf) (maxL := 4) (rt := .int) (by decide) rfl (Nat.le_of_ble_eq_true rfl) ?_
  intro p e s m below meth c A Q H ls hx hb hml hts hown hA hD hG hP hS hl ret
  have hown : s.vm.findClass RX11 = some m.cls := hown
  have hD : aD A [a_this, a_roundMany, a_takens] := hD
  have hl : lv_has ls 4 [(0, .ref a_this), (1, .int x0)] := hl
  have w1 := hts (.fieldLink RX11 13 "ThreeCardsModel" "roundMany" "[I") (List.mem_of_getElem? (i := 1) rfl)
  have w2 := hts (.fieldLink RX11 28 "ThreeCardsModel" "takens" "[I") (List.mem_of_getElem? (i := 2) rfl)
  have in11 : ∀ w ∈ u_ws RX11 TX11 24, w ∈ wsX11_takenOf := by decide +kernel
  have hL4 : ∀ (n : Nat) (l2 : Int32) (l3 : Int32)  (H : Heap) (locs : List Loc) (ls : Array Slot), va_P X.1 vwCl [(a_this, .inr (11, [.int i_length, .ref a_text, .ref a_roundMany, .ref a_blowMany, .ref a_blows, .ref a_forwards, .ref a_downs, .ref a_takens, .ref a_homes, .ref a_noises, .ref a_judgeMany, .ref a_judges, .ref a_delays, .ref a_tolds, .ref a_tens, .int i_keptMany, .int i_place, .ref a_told, .ref a_ways, .ref a_nextWays, .ref a_tallies, .ref a_presses, .ref a_values, .ref a_nextValues])), (a_roundMany, .inl (X.2.1 0, 2, .inl f_roundMany)), (a_takens, .inl (X.2.1 0, 48, .inl f_takens))] H → va_S A s.heap H locs → lv_has ls 4 [(0, .ref a_this), (1, .int x0), (2, .int l2), (3, .int l3)] → mX11_takenOf_L4 x0 f_roundMany f_takens  n l2 l3 = some o → W p l e rmX11_takenOf s m ([.ref a_this, .int x0] : List Value).toArray below meth c H locs 0 0 Q (F0 m 4 ls []) := by
    intro n
    induction n with
    | zero => intro l2 l3  H locs ls hP hS hl hf; exact xn hf
    | succ n ih =>
      intro l2 l3  H locs ls hP hS hl hf
      have hf : mX11_takenOf_B4 x0 f_roundMany f_takens  (mX11_takenOf_L4 x0 f_roundMany f_takens  n) l2 l3 = some o := hf
      generalize mX11_takenOf_L4 x0 f_roundMany f_takens  n = k4 at ih hf
      unfold mX11_takenOf_B4 at hf
      refine lv_iload_n hx hb dX11_takenOf_4 rfl (lv_at hl 3 rfl) ?_
      refine lv_aload_n hx hb dX11_takenOf_5 rfl (lv_at hl 0 rfl) ?_
      refine va_get (D := X.1) (ci := 11) (v := .ref a_roundMany) (C := RX11) (T := TX11) (N := 24) hx hb hts in11 hown hG.1 hP 0 rfl rfl 2 (by decide) w1 (fun _ h9 => h9) rfl dX11_takenOf_6 ?_
      refine lv_iconst (v := (0 : Int32)) hx hb dX11_takenOf_9 (by decide) ?_
      refine va_iald (D := X.1) hx hb hG.1 hP 1 0 rfl rfl (vp_lit (by decide)) dX11_takenOf_10 ?_
      refine lv_icmp_ge (tgt := 33) hx hb dX11_takenOf_11 (by decide) (fun c1 => ?_) (fun c1 => ?_)
      · have hf := xt hf c1
        refine lv_iload_n hx hb dX11_takenOf_33 rfl (lv_at hl 2 rfl) ?_
        obtain rfl := Option.some.inj hf
        exact ret H _ ls _ rfl hP hD hS dX11_takenOf_34
      · have hf := xf hf c1
        refine lv_iload_n hx hb dX11_takenOf_14 rfl (lv_at hl 2 rfl) ?_
        refine lv_aload_n hx hb dX11_takenOf_15 rfl (lv_at hl 0 rfl) ?_
        refine va_get (D := X.1) (ci := 11) (v := .ref a_takens) (C := RX11) (T := TX11) (N := 24) hx hb hts in11 hown hG.1 hP 0 rfl rfl 7 (by decide) w2 (fun _ h9 => h9) rfl dX11_takenOf_16 ?_
        refine lv_iconst (v := (2 : Int32)) hx hb dX11_takenOf_19 (by decide) ?_
        refine lv_iload_n hx hb dX11_takenOf_20 rfl (lv_at hl 3 rfl) ?_
        refine lv_imul hx hb dX11_takenOf_21 ?_
        refine lv_iload_n hx hb dX11_takenOf_22 rfl (lv_at hl 1 rfl) ?_
        refine lv_iadd hx hb dX11_takenOf_23 ?_
        obtain ⟨h2, hf⟩ := gi_s hf
        refine va_iald (D := X.1) hx hb hG.1 hP 2 0 rfl rfl h2 dX11_takenOf_24 ?_
        refine lv_iadd hx hb dX11_takenOf_25 ?_
        refine lv_topi (fun v3 ev3 => ?_)
        have hf := lb_s hf ev3
        refine lv_istore_n (lv' := [(2, .int v3), (0, .ref a_this), (1, .int x0), (3, .int l3)]) hx hb dX11_takenOf_26 rfl hl (by decide) rfl (fun ls hl => ?_)
        obtain ⟨v4, ev4, hf⟩ := lb_g hf
        refine lv_iinc (v := v4) (lv' := [(3, .int v4), (2, .int v3), (0, .ref a_this), (1, .int x0)]) hx hb dX11_takenOf_27 hl (k := 3) rfl ev4.symm (by decide) rfl (fun ls hl => ?_)
        refine lv_goto (tgt := 4) hx hb dX11_takenOf_30 (by decide) ?_
        exact ih v3 v4  H _ ls hP  hS (lv_sub hl [2, 3, 1, 0] rfl) hf
  unfold mX11_takenOf at hf
  refine lv_iconst (v := (0 : Int32)) hx hb dX11_takenOf_0 (by decide) ?_
  refine lv_istore_n (lv' := [(2, .int (0 : Int32)), (0, .ref a_this), (1, .int x0)]) hx hb dX11_takenOf_1 rfl hl (by decide) rfl (fun ls hl => ?_)
  refine lv_iconst (v := (0 : Int32)) hx hb dX11_takenOf_2 (by decide) ?_
  refine lv_istore_n (lv' := [(3, .int (0 : Int32)), (2, .int (0 : Int32)), (0, .ref a_this), (1, .int x0)]) hx hb dX11_takenOf_3 rfl hl (by decide) rfl (fun ls hl => ?_)
  exact hL4  FUEL (0 : Int32) (0 : Int32)  H _ ls hP  hS (lv_sub hl [2, 3, 1, 0] rfl) hf
def mX11_cardOf_B19 (x0 : Int32) (x1 : Int32) (f_blowMany : Nat → Int32) (f_blows : Nat → Int32) (f_downs : Nat → Int32) (f_forwards : Nat → Int32) (f_homes : Nat → Int32) (f_judges : Nat → Int32) (f_noises : Nat → Int32) (f_roundMany : Nat → Int32) (f_takens : Nat → Int32) (k19 : Int32 → Int32 → Option (Int32)) (l3 : Int32) (l4 : Int32) :
  Option (Int32) :=
  if (f_roundMany (0 : Int32).toNatClampNeg) ≤ l4 then (some l3) else ((mX11_margin0 x0 x1 l4 (0 : Int32) f_blowMany f_blows f_downs f_forwards f_homes f_judges f_noises).bind fun o7 =>
  lb (l3 + o7) fun v9 =>
  lb (l4 + (1 : Int32)) fun v10 =>
  k19 v9 v10)
def mX11_cardOf_L19 (x0 : Int32) (x1 : Int32) (f_blowMany : Nat → Int32) (f_blows : Nat → Int32) (f_downs : Nat → Int32) (f_forwards : Nat → Int32) (f_homes : Nat → Int32) (f_judges : Nat → Int32) (f_noises : Nat → Int32) (f_roundMany : Nat → Int32) (f_takens : Nat → Int32) (n : Nat) (l3 : Int32) (l4 : Int32) :
  Option (Int32) :=
  loopN (fun k (s : Int32 × Int32) => mX11_cardOf_B19 x0 x1 f_blowMany f_blows f_downs f_forwards f_homes f_judges f_noises f_roundMany f_takens  (fun l3 l4 => k (l3, l4)) s.1 s.2) n (l3, l4)
def mX11_cardOf (x0 : Int32) (x1 : Int32) (f_blowMany : Nat → Int32) (f_blows : Nat → Int32) (f_downs : Nat → Int32) (f_forwards : Nat → Int32) (f_homes : Nat → Int32) (f_judges : Nat → Int32) (f_noises : Nat → Int32) (f_roundMany : Nat → Int32) (f_takens : Nat → Int32) :
  Option (Int32) :=
  (mX11_takenOf (1 : Int32) f_roundMany f_takens).bind fun o1 =>
  (mX11_takenOf (0 : Int32) f_roundMany f_takens).bind fun o3 =>
  lb (((2 : Int32) * o1) - ((2 : Int32) * o3)) fun v5 =>
  mX11_cardOf_L19 x0 x1 f_blowMany f_blows f_downs f_forwards f_homes f_judges f_noises f_roundMany f_takens  FUEL v5 (0 : Int32)
theorem hdsX11_cardOf : yX11_cardOf.cls ≠ "java/lang/invoke/MethodHandle" ∧ yX11_cardOf.cls ≠ "java/lang/invoke/VarHandle" ∧ (parseMethodDescriptor yX11_cardOf.desc).map (fun d => d.parameters.length) = some 2 := by decide +kernel
theorem hdvX11_cardOf : yX11_cardOf.cls = RX11 ∧ yX11_cardOf.cls ≠ "java/lang/invoke/MethodHandle" ∧ yX11_cardOf.cls ≠ "java/lang/invoke/VarHandle" ∧ (parseMethodDescriptor yX11_cardOf.desc).map (fun d => d.parameters.length) = some 2 := by decide +kernel
abbrev rmX11_cardOf : Room := { frames := 6, cells := 0, slots := 0, locals := 143 }
set_option maxHeartbeats 4000000 in
set_option maxRecDepth 100000 in
theorem qX11_cardOf (l : Launch) (X : XT) (a_this : Nat) (a_blowMany : Nat) (a_blows : Nat) (a_downs : Nat) (a_forwards : Nat) (a_homes : Nat) (a_judges : Nat) (a_noises : Nat) (a_roundMany : Nat) (a_takens : Nat) (a_text : Nat) (a_judgeMany : Nat) (a_delays : Nat) (a_tolds : Nat) (a_tens : Nat) (a_told : Nat) (a_ways : Nat) (a_nextWays : Nat) (a_tallies : Nat) (a_presses : Nat) (a_values : Nat) (a_nextValues : Nat)  (i_length : Int32) (i_keptMany : Int32) (i_place : Int32) (f_blowMany : Nat → Int32) (f_blows : Nat → Int32) (f_downs : Nat → Int32) (f_forwards : Nat → Int32) (f_homes : Nat → Int32) (f_judges : Nat → Int32) (f_noises : Nat → Int32) (f_roundMany : Nat → Int32) (f_takens : Nat → Int32) (x0 : Int32) (x1 : Int32) (o : Int32) (hf : mX11_cardOf x0 x1 f_blowMany f_blows f_downs f_forwards f_homes f_judges f_noises f_roundMany f_takens = some o) :
    MI l yX11_cardOf wsX11_cardOf rmX11_cardOf X [.ref a_this, .int x0, .int x1] [(a_this, .inr (11, [.int i_length, .ref a_text, .ref a_roundMany, .ref a_blowMany, .ref a_blows, .ref a_forwards, .ref a_downs, .ref a_takens, .ref a_homes, .ref a_noises, .ref a_judgeMany, .ref a_judges, .ref a_delays, .ref a_tolds, .ref a_tens, .int i_keptMany, .int i_place, .ref a_told, .ref a_ways, .ref a_nextWays, .ref a_tallies, .ref a_presses, .ref a_values, .ref a_nextValues])), (a_blowMany, .inl (X.2.1 0, 2, .inl f_blowMany)), (a_blows, .inl (X.2.1 0, 400, .inl f_blows)), (a_downs, .inl (X.2.1 0, 48, .inl f_downs)), (a_forwards, .inl (X.2.1 0, 48, .inl f_forwards)), (a_homes, .inl (X.2.1 0, 2, .inl f_homes)), (a_judges, .inl (X.2.1 0, 112, .inl f_judges)), (a_noises, .inl (X.2.1 0, 2, .inl f_noises)), (a_roundMany, .inl (X.2.1 0, 2, .inl f_roundMany)), (a_takens, .inl (X.2.1 0, 48, .inl f_takens))]  [(a_this, .inr (11, [.int i_length, .ref a_text, .ref a_roundMany, .ref a_blowMany, .ref a_blows, .ref a_forwards, .ref a_downs, .ref a_takens, .ref a_homes, .ref a_noises, .ref a_judgeMany, .ref a_judges, .ref a_delays, .ref a_tolds, .ref a_tens, .int i_keptMany, .int i_place, .ref a_told, .ref a_ways, .ref a_nextWays, .ref a_tallies, .ref a_presses, .ref a_values, .ref a_nextValues])), (a_blowMany, .inl (X.2.1 0, 2, .inl f_blowMany)), (a_blows, .inl (X.2.1 0, 400, .inl f_blows)), (a_downs, .inl (X.2.1 0, 48, .inl f_downs)), (a_forwards, .inl (X.2.1 0, 48, .inl f_forwards)), (a_homes, .inl (X.2.1 0, 2, .inl f_homes)), (a_judges, .inl (X.2.1 0, 112, .inl f_judges)), (a_noises, .inl (X.2.1 0, 2, .inl f_noises)), (a_roundMany, .inl (X.2.1 0, 2, .inl f_roundMany)), (a_takens, .inl (X.2.1 0, 48, .inl f_takens))] o := by
  refine MI_ofH (cc := cX11_cardOf) (maxL := 5) (rt := .int) (by decide) rfl (Nat.le_of_ble_eq_true rfl) ?_
  intro p e s m below meth c A Q H ls hx hb hml hts hown hA hD hG hP hS hl ret
  have hown : s.vm.findClass RX11 = some m.cls := hown
  have hD : aD A [a_this, a_blowMany, a_blows, a_downs, a_forwards, a_homes, a_judges, a_noises, a_roundMany, a_takens] := hD
  have hl : lv_has ls 5 [(0, .ref a_this), (1, .int x0), (2, .int x1)] := hl
  have w1 := hts (Cond.fieldLink RX11 13 "ThreeCardsModel" "roundMany" "[I") (List.mem_of_getElem? (i := 1) rfl)
  have in11 : ∀ w ∈ u_ws RX11 TX11 24, w ∈ wsX11_cardOf := by decide +kernel
  have hL19 : ∀ (n : Nat) (l3 : Int32) (l4 : Int32)  (H : Heap) (locs : List Loc) (ls : Array Slot), va_P X.1 vwCl [(a_this, .inr (11, [.int i_length, .ref a_text, .ref a_roundMany, .ref a_blowMany, .ref a_blows, .ref a_forwards, .ref a_downs, .ref a_takens, .ref a_homes, .ref a_noises, .ref a_judgeMany, .ref a_judges, .ref a_delays, .ref a_tolds, .ref a_tens, .int i_keptMany, .int i_place, .ref a_told, .ref a_ways, .ref a_nextWays, .ref a_tallies, .ref a_presses, .ref a_values, .ref a_nextValues])), (a_blowMany, .inl (X.2.1 0, 2, .inl f_blowMany)), (a_blows, .inl (X.2.1 0, 400, .inl f_blows)), (a_downs, .inl (X.2.1 0, 48, .inl f_downs)), (a_forwards, .inl (X.2.1 0, 48, .inl f_forwards)), (a_homes, .inl (X.2.1 0, 2, .inl f_homes)), (a_judges, .inl (X.2.1 0, 112, .inl f_judges)), (a_noises, .inl (X.2.1 0, 2, .inl f_noises)), (a_roundMany, .inl (X.2.1 0, 2, .inl f_roundMany)), (a_takens, .inl (X.2.1 0, 48, .inl f_takens))] H → va_S A s.heap H locs → lv_has ls 5 [(0, .ref a_this), (1, .int x0), (2, .int x1), (3, .int l3), (4, .int l4)] → mX11_cardOf_L19 x0 x1 f_blowMany f_blows f_downs f_forwards f_homes f_judges f_noises f_roundMany f_takens  n l3 l4 = some o → W p l e rmX11_cardOf s m ([.ref a_this, .int x0, .int x1] : List Value).toArray below meth c H locs 0 0 Q (F0 m 19 ls []) := by
    intro n
    induction n with
    | zero => intro l3 l4  H locs ls hP hS hl hf; exact xn hf
    | succ n ih =>
      intro l3 l4  H locs ls hP hS hl hf
      have hf : mX11_cardOf_B19 x0 x1 f_blowMany f_blows f_downs f_forwards f_homes f_judges f_noises f_roundMany f_takens  (mX11_cardOf_L19 x0 x1 f_blowMany f_blows f_downs f_forwards f_homes f_judges f_noises f_roundMany f_takens  n) l3 l4 = some o := hf
      generalize mX11_cardOf_L19 x0 x1 f_blowMany f_blows f_downs f_forwards f_homes f_judges f_noises f_roundMany f_takens  n = k19 at ih hf
      unfold mX11_cardOf_B19 at hf
      refine lv_iload hx hb dX11_cardOf_19 (lv_at hl 4 rfl) ?_
      refine lv_aload_n hx hb dX11_cardOf_21 rfl (lv_at hl 0 rfl) ?_
      refine va_get (D := X.1) (ci := 11) (v := .ref a_roundMany) (C := RX11) (T := TX11) (N := 24) hx hb hts in11 hown hG.1 hP 0 rfl rfl 2 (by decide) w1 (fun _ h9 => h9) rfl dX11_cardOf_22 ?_
      refine lv_iconst (v := (0 : Int32)) hx hb dX11_cardOf_25 (by decide) ?_
      refine va_iald (D := X.1) hx hb hG.1 hP 8 0 rfl rfl (vp_lit (by decide)) dX11_cardOf_26 ?_
      refine lv_icmp_ge (tgt := 48) hx hb dX11_cardOf_27 (by decide) (fun c6 => ?_) (fun c6 => ?_)
      · have hf := xt hf c6
        refine lv_iload_n hx hb dX11_cardOf_48 rfl (lv_at hl 3 rfl) ?_
        obtain rfl := Option.some.inj hf
        exact ret H _ ls _ rfl hP hD hS dX11_cardOf_49
      · have hf := xf hf c6
        refine lv_iload_n hx hb dX11_cardOf_30 rfl (lv_at hl 3 rfl) ?_
        refine lv_aload_n hx hb dX11_cardOf_31 rfl (lv_at hl 0 rfl) ?_
        refine lv_iload_n hx hb dX11_cardOf_32 rfl (lv_at hl 1 rfl) ?_
        refine lv_iload_n hx hb dX11_cardOf_33 rfl (lv_at hl 2 rfl) ?_
        refine lv_iload hx hb dX11_cardOf_34 (lv_at hl 4 rfl) ?_
        refine lv_iconst (v := (0 : Int32)) hx hb dX11_cardOf_36 (by decide) ?_
        obtain ⟨o7, ho7, hf⟩ := ob_s hf
        refine xV_i (As := [.int x0, .int x1, .int l4, .int (0 : Int32)]) (b := a_this) (rest := [.int l3]) (ws2 := [(a_this, .inr (11, [.int i_length, .ref a_text, .ref a_roundMany, .ref a_blowMany, .ref a_blows, .ref a_forwards, .ref a_downs, .ref a_takens, .ref a_homes, .ref a_noises, .ref a_judgeMany, .ref a_judges, .ref a_delays, .ref a_tolds, .ref a_tens, .int i_keptMany, .int i_place, .ref a_told, .ref a_ways, .ref a_nextWays, .ref a_tallies, .ref a_presses, .ref a_values, .ref a_nextValues])), (a_blowMany, .inl (X.2.1 0, 2, .inl f_blowMany)), (a_blows, .inl (X.2.1 0, 400, .inl f_blows)), (a_downs, .inl (X.2.1 0, 48, .inl f_downs)), (a_forwards, .inl (X.2.1 0, 48, .inl f_forwards)), (a_homes, .inl (X.2.1 0, 2, .inl f_homes)), (a_judges, .inl (X.2.1 0, 112, .inl f_judges)), (a_noises, .inl (X.2.1 0, 2, .inl f_noises)), (a_roundMany, .inl (X.2.1 0, 2, .inl f_roundMany)), (a_takens, .inl (X.2.1 0, 48, .inl f_takens))]) hx hb hml hts hown hG hA hP hD rfl hS hl.1 (qX11_margin0 l X a_this a_blowMany a_blows a_downs a_forwards a_homes a_judges a_noises a_text a_roundMany a_takens a_judgeMany a_delays a_tolds a_tens a_told a_ways a_nextWays a_tallies a_presses a_values a_nextValues i_length i_keptMany i_place f_blowMany f_blows f_downs f_forwards f_homes f_judges f_noises x0 x1 l4 (0 : Int32) o7 ho7) (cwV (y := yX11_margin0) 4 hts gX11_cardOf_X11_margin0 rfl rfl rfl hdvX11_margin0 ⟨Nat.le_of_ble_eq_true rfl, Nat.le_of_ble_eq_true rfl⟩) [0, 1, 2, 3, 4, 5, 6, 7] [8, 9] [2, 3, 4, 5, 6, 7, 8, 9, 0, 1] rfl rfl rfl rfl rfl rfl rfl (ci := 11) rfl 0 rfl rfl rfl (Nat.le_of_ble_eq_true rfl) ⟨Nat.le_of_ble_eq_true rfl, Nat.le_of_ble_eq_true rfl⟩ dX11_cardOf_37 (fun H locs hP _ hS => ?_)
        refine lv_iadd hx hb dX11_cardOf_40 ?_
        refine lv_topi (fun v9 ev9 => ?_)
        have hf := lb_s hf ev9
        refine lv_istore_n (lv' := [(3, .int v9), (0, .ref a_this), (1, .int x0), (2, .int x1), (4, .int l4)]) hx hb dX11_cardOf_41 rfl hl (by decide) rfl (fun ls hl => ?_)
        obtain ⟨v10, ev10, hf⟩ := lb_g hf
        refine lv_iinc (v := v10) (lv' := [(4, .int v10), (3, .int v9), (0, .ref a_this), (1, .int x0), (2, .int x1)]) hx hb dX11_cardOf_42 hl (k := 4) rfl ev10.symm (by decide) rfl (fun ls hl => ?_)
        refine lv_goto (tgt := 19) hx hb dX11_cardOf_45 (by decide) ?_
        exact ih v9 v10  H _ ls hP  hS (lv_sub hl [2, 3, 4, 1, 0] rfl) hf
  unfold mX11_cardOf at hf
  refine lv_iconst (v := (2 : Int32)) hx hb dX11_cardOf_0 (by decide) ?_
  refine lv_aload_n hx hb dX11_cardOf_1 rfl (lv_at hl 0 rfl) ?_
  refine lv_iconst (v := (1 : Int32)) hx hb dX11_cardOf_2 (by decide) ?_
  obtain ⟨o1, ho1, hf⟩ := ob_s hf
  refine xV_i (As := [.int (1 : Int32)]) (b := a_this) (rest := [.int (2 : Int32)]) (ws2 := [(a_this, .inr (11, [.int i_length, .ref a_text, .ref a_roundMany, .ref a_blowMany, .ref a_blows, .ref a_forwards, .ref a_downs, .ref a_takens, .ref a_homes, .ref a_noises, .ref a_judgeMany, .ref a_judges, .ref a_delays, .ref a_tolds, .ref a_tens, .int i_keptMany, .int i_place, .ref a_told, .ref a_ways, .ref a_nextWays, .ref a_tallies, .ref a_presses, .ref a_values, .ref a_nextValues])), (a_blowMany, .inl (X.2.1 0, 2, .inl f_blowMany)), (a_blows, .inl (X.2.1 0, 400, .inl f_blows)), (a_downs, .inl (X.2.1 0, 48, .inl f_downs)), (a_forwards, .inl (X.2.1 0, 48, .inl f_forwards)), (a_homes, .inl (X.2.1 0, 2, .inl f_homes)), (a_judges, .inl (X.2.1 0, 112, .inl f_judges)), (a_noises, .inl (X.2.1 0, 2, .inl f_noises)), (a_roundMany, .inl (X.2.1 0, 2, .inl f_roundMany)), (a_takens, .inl (X.2.1 0, 48, .inl f_takens))]) hx hb hml hts hown hG hA hP hD rfl hS hl.1 (qX11_takenOf l X a_this a_roundMany a_takens a_text a_blowMany a_blows a_forwards a_downs a_homes a_noises a_judgeMany a_judges a_delays a_tolds a_tens a_told a_ways a_nextWays a_tallies a_presses a_values a_nextValues i_length i_keptMany i_place f_roundMany f_takens (1 : Int32) o1 ho1) (cwV (y := yX11_takenOf) 1 hts gX11_cardOf_X11_takenOf rfl rfl rfl hdvX11_takenOf ⟨Nat.le_of_ble_eq_true rfl, Nat.le_of_ble_eq_true rfl⟩) [0, 8, 9] [1, 2, 3, 4, 5, 6, 7] [7, 0, 1, 2, 3, 4, 5, 6, 8, 9] rfl rfl rfl rfl rfl rfl rfl (ci := 11) rfl 0 rfl rfl rfl (Nat.le_of_ble_eq_true rfl) ⟨Nat.le_of_ble_eq_true rfl, Nat.le_of_ble_eq_true rfl⟩ dX11_cardOf_3 (fun H locs hP _ hS => ?_)
  refine lv_imul hx hb dX11_cardOf_6 ?_
  refine lv_iconst (v := (2 : Int32)) hx hb dX11_cardOf_7 (by decide) ?_
  refine lv_aload_n hx hb dX11_cardOf_8 rfl (lv_at hl 0 rfl) ?_
  refine lv_iconst (v := (0 : Int32)) hx hb dX11_cardOf_9 (by decide) ?_
  obtain ⟨o3, ho3, hf⟩ := ob_s hf
  refine xV_i (As := [.int (0 : Int32)]) (b := a_this) (rest := [.int (2 : Int32), .int ((2 : Int32) * o1)]) (ws2 := [(a_this, .inr (11, [.int i_length, .ref a_text, .ref a_roundMany, .ref a_blowMany, .ref a_blows, .ref a_forwards, .ref a_downs, .ref a_takens, .ref a_homes, .ref a_noises, .ref a_judgeMany, .ref a_judges, .ref a_delays, .ref a_tolds, .ref a_tens, .int i_keptMany, .int i_place, .ref a_told, .ref a_ways, .ref a_nextWays, .ref a_tallies, .ref a_presses, .ref a_values, .ref a_nextValues])), (a_blowMany, .inl (X.2.1 0, 2, .inl f_blowMany)), (a_blows, .inl (X.2.1 0, 400, .inl f_blows)), (a_downs, .inl (X.2.1 0, 48, .inl f_downs)), (a_forwards, .inl (X.2.1 0, 48, .inl f_forwards)), (a_homes, .inl (X.2.1 0, 2, .inl f_homes)), (a_judges, .inl (X.2.1 0, 112, .inl f_judges)), (a_noises, .inl (X.2.1 0, 2, .inl f_noises)), (a_roundMany, .inl (X.2.1 0, 2, .inl f_roundMany)), (a_takens, .inl (X.2.1 0, 48, .inl f_takens))]) hx hb hml hts hown hG hA hP hD rfl hS hl.1 (qX11_takenOf l X a_this a_roundMany a_takens a_text a_blowMany a_blows a_forwards a_downs a_homes a_noises a_judgeMany a_judges a_delays a_tolds a_tens a_told a_ways a_nextWays a_tallies a_presses a_values a_nextValues i_length i_keptMany i_place f_roundMany f_takens (0 : Int32) o3 ho3) (cwV (y := yX11_takenOf) 1 hts gX11_cardOf_X11_takenOf rfl rfl rfl hdvX11_takenOf ⟨Nat.le_of_ble_eq_true rfl, Nat.le_of_ble_eq_true rfl⟩) [0, 8, 9] [1, 2, 3, 4, 5, 6, 7] [7, 0, 1, 2, 3, 4, 5, 6, 8, 9] rfl rfl rfl rfl rfl rfl rfl (ci := 11) rfl 0 rfl rfl rfl (Nat.le_of_ble_eq_true rfl) ⟨Nat.le_of_ble_eq_true rfl, Nat.le_of_ble_eq_true rfl⟩ dX11_cardOf_10 (fun H locs hP _ hS => ?_)
  refine lv_imul hx hb dX11_cardOf_13 ?_
  refine lv_isub hx hb dX11_cardOf_14 ?_
  refine lv_topi (fun v5 ev5 => ?_)
  have hf := lb_s hf ev5
  refine lv_istore_n (lv' := [(3, .int v5), (0, .ref a_this), (1, .int x0), (2, .int x1)]) hx hb dX11_cardOf_15 rfl hl (by decide) rfl (fun ls hl => ?_)
  refine lv_iconst (v := (0 : Int32)) hx hb dX11_cardOf_16 (by decide) ?_
  refine lv_istore (lv' := [(4, .int (0 : Int32)), (3, .int v5), (0, .ref a_this), (1, .int x0), (2, .int x1)]) hx hb dX11_cardOf_17 hl (by decide) rfl (fun ls hl => ?_)
  exact hL19  FUEL v5 (0 : Int32)  H _ ls hP  hS (lv_sub hl [2, 3, 4, 1, 0] rfl) hf
def mX11_card (x0 : Int32) (x1 : Int32) (f_blowMany : Nat → Int32) (f_blows : Nat → Int32) (f_downs : Nat → Int32) (f_forwards : Nat → Int32) (f_homes : Nat → Int32) (f_judgeMany : Nat → Int32) (f_judges : Nat → Int32) (f_noises : Nat → Int32) (f_roundMany : Nat → Int32) (f_takens : Nat → Int32) :
  Option (Int32) :=
  (mX11_isRule x0).bind fun o1 =>
  if o1 = 0 then (some (-100001 : Int32)) else ((mX11_isJudge x1 f_judgeMany).bind fun o4 =>
  if o4 = 0 then (some (-100001 : Int32)) else ((mX11_cardOf x0 x1 f_blowMany f_blows f_downs f_forwards f_homes f_judges f_noises f_roundMany f_takens).bind fun o7 =>
  some o7))
theorem hdsX11_card : yX11_card.cls ≠ "java/lang/invoke/MethodHandle" ∧ yX11_card.cls ≠ "java/lang/invoke/VarHandle" ∧ (parseMethodDescriptor yX11_card.desc).map (fun d => d.parameters.length) = some 2 := by decide +kernel
theorem hdvX11_card : yX11_card.cls = RX11 ∧ yX11_card.cls ≠ "java/lang/invoke/MethodHandle" ∧ yX11_card.cls ≠ "java/lang/invoke/VarHandle" ∧ (parseMethodDescriptor yX11_card.desc).map (fun d => d.parameters.length) = some 2 := by decide +kernel
abbrev rmX11_card : Room := { frames := 7, cells := 0, slots := 0, locals := 167 }
set_option maxHeartbeats 4000000 in
set_option maxRecDepth 100000 in
theorem qX11_card (l : Launch) (X : XT) (a_this : Nat) (a_blowMany : Nat) (a_blows : Nat) (a_downs : Nat) (a_forwards : Nat) (a_homes : Nat) (a_judgeMany : Nat) (a_judges : Nat) (a_noises : Nat) (a_roundMany : Nat) (a_takens : Nat) (a_text : Nat) (a_delays : Nat) (a_tolds : Nat) (a_tens : Nat) (a_told : Nat) (a_ways : Nat) (a_nextWays : Nat) (a_tallies : Nat) (a_presses : Nat) (a_values : Nat) (a_nextValues : Nat)  (i_length : Int32) (i_keptMany : Int32) (i_place : Int32) (f_blowMany : Nat → Int32) (f_blows : Nat → Int32) (f_downs : Nat → Int32) (f_forwards : Nat → Int32) (f_homes : Nat → Int32) (f_judgeMany : Nat → Int32) (f_judges : Nat → Int32) (f_noises : Nat → Int32) (f_roundMany : Nat → Int32) (f_takens : Nat → Int32) (x0 : Int32) (x1 : Int32) (o : Int32) (hf : mX11_card x0 x1 f_blowMany f_blows f_downs f_forwards f_homes f_judgeMany f_judges f_noises f_roundMany f_takens = some o) :
    MI l yX11_card wsX11_card rmX11_card X [.ref a_this, .int x0, .int x1] [(a_this, .inr (11, [.int i_length, .ref a_text, .ref a_roundMany, .ref a_blowMany, .ref a_blows, .ref a_forwards, .ref a_downs, .ref a_takens, .ref a_homes, .ref a_noises, .ref a_judgeMany, .ref a_judges, .ref a_delays, .ref a_tolds, .ref a_tens, .int i_keptMany, .int i_place, .ref a_told, .ref a_ways, .ref a_nextWays, .ref a_tallies, .ref a_presses, .ref a_values, .ref a_nextValues])), (a_blowMany, .inl (X.2.1 0, 2, .inl f_blowMany)), (a_blows, .inl (X.2.1 0, 400, .inl f_blows)), (a_downs, .inl (X.2.1 0, 48, .inl f_downs)), (a_forwards, .inl (X.2.1 0, 48, .inl f_forwards)), (a_homes, .inl (X.2.1 0, 2, .inl f_homes)), (a_judgeMany, .inl (X.2.1 0, 2, .inl f_judgeMany)), (a_judges, .inl (X.2.1 0, 112, .inl f_judges)), (a_noises, .inl (X.2.1 0, 2, .inl f_noises)), (a_roundMany, .inl (X.2.1 0, 2, .inl f_roundMany)), (a_takens, .inl (X.2.1 0, 48, .inl f_takens))]  [(a_this, .inr (11, [.int i_length, .ref a_text, .ref a_roundMany, .ref a_blowMany, .ref a_blows, .ref a_forwards, .ref a_downs, .ref a_takens, .ref a_homes, .ref a_noises, .ref a_judgeMany, .ref a_judges, .ref a_delays, .ref a_tolds, .ref a_tens, .int i_keptMany, .int i_place, .ref a_told, .ref a_ways, .ref a_nextWays, .ref a_tallies, .ref a_presses, .ref a_values, .ref a_nextValues])), (a_blowMany, .inl (X.2.1 0, 2, .inl f_blowMany)), (a_blows, .inl (X.2.1 0, 400, .inl f_blows)), (a_downs, .inl (X.2.1 0, 48, .inl f_downs)), (a_forwards, .inl (X.2.1 0, 48, .inl f_forwards)), (a_homes, .inl (X.2.1 0, 2, .inl f_homes)), (a_judgeMany, .inl (X.2.1 0, 2, .inl f_judgeMany)), (a_judges, .inl (X.2.1 0, 112, .inl f_judges)), (a_noises, .inl (X.2.1 0, 2, .inl f_noises)), (a_roundMany, .inl (X.2.1 0, 2, .inl f_roundMany)), (a_takens, .inl (X.2.1 0, 48, .inl f_takens))] o := by
  refine MI_ofH (cc := cX11_card) (maxL := 3) (rt := .int) (by decide) rfl (Nat.le_of_ble_eq_true rfl) ?_
  intro p e s m below meth c A Q H ls hx hb hml hts hown hA hD hG hP hS hl ret
  have hown : s.vm.findClass RX11 = some m.cls := hown
  have hD : aD A [a_this, a_blowMany, a_blows, a_downs, a_forwards, a_homes, a_judgeMany, a_judges, a_noises, a_roundMany, a_takens] := hD
  have hl : lv_has ls 3 [(0, .ref a_this), (1, .int x0), (2, .int x1)] := hl
  have w1 := hts (Cond.constant RX11 155 (-100001)) (List.mem_of_getElem? (i := 1) rfl)
  unfold mX11_card at hf
  refine lv_iload_n hx hb dX11_card_0 rfl (lv_at hl 1 rfl) ?_
  obtain ⟨o1, ho1, hf⟩ := ob_s hf
  refine xS_i (As := [.int x0]) (rest := []) (ws2 := [(a_this, .inr (11, [.int i_length, .ref a_text, .ref a_roundMany, .ref a_blowMany, .ref a_blows, .ref a_forwards, .ref a_downs, .ref a_takens, .ref a_homes, .ref a_noises, .ref a_judgeMany, .ref a_judges, .ref a_delays, .ref a_tolds, .ref a_tens, .int i_keptMany, .int i_place, .ref a_told, .ref a_ways, .ref a_nextWays, .ref a_tallies, .ref a_presses, .ref a_values, .ref a_nextValues])), (a_blowMany, .inl (X.2.1 0, 2, .inl f_blowMany)), (a_blows, .inl (X.2.1 0, 400, .inl f_blows)), (a_downs, .inl (X.2.1 0, 48, .inl f_downs)), (a_forwards, .inl (X.2.1 0, 48, .inl f_forwards)), (a_homes, .inl (X.2.1 0, 2, .inl f_homes)), (a_judgeMany, .inl (X.2.1 0, 2, .inl f_judgeMany)), (a_judges, .inl (X.2.1 0, 112, .inl f_judges)), (a_noises, .inl (X.2.1 0, 2, .inl f_noises)), (a_roundMany, .inl (X.2.1 0, 2, .inl f_roundMany)), (a_takens, .inl (X.2.1 0, 48, .inl f_takens))]) hx hb hml hts hown hG hA hP hD rfl hS hl.1 (qX11_isRule l X x0 o1 ho1) (va_cwS (y := yX11_isRule) 1 hts gX11_card_X11_isRule rfl rfl rfl hdsX11_isRule ⟨Nat.le_of_ble_eq_true rfl, Nat.le_of_ble_eq_true rfl⟩) [] [0, 1, 2, 3, 4, 5, 6, 7, 8, 9, 10] [0, 1, 2, 3, 4, 5, 6, 7, 8, 9, 10] rfl rfl rfl rfl rfl rfl rfl rfl rfl (Nat.le_of_ble_eq_true rfl) ⟨Nat.le_of_ble_eq_true rfl, Nat.le_of_ble_eq_true rfl⟩ dX11_card_1 (fun H locs hP _ hS => ?_)
  refine lv_if_eq (tgt := 24) hx hb dX11_card_4 (by decide) (fun c3 => ?_) (fun c3 => ?_)
  · have hf := xt hf c3
    refine lv_ldc (v := (-100001 : Int32)) hx hb hown w1 dX11_card_24 ?_
    obtain rfl := Option.some.inj hf
    exact ret H _ ls _ rfl hP hD hS dX11_card_26
  · have hf := xf hf c3
    refine lv_aload_n hx hb dX11_card_7 rfl (lv_at hl 0 rfl) ?_
    refine lv_iload_n hx hb dX11_card_8 rfl (lv_at hl 2 rfl) ?_
    obtain ⟨o4, ho4, hf⟩ := ob_s hf
    refine xV_i (As := [.int x1]) (b := a_this) (rest := []) (ws2 := [(a_this, .inr (11, [.int i_length, .ref a_text, .ref a_roundMany, .ref a_blowMany, .ref a_blows, .ref a_forwards, .ref a_downs, .ref a_takens, .ref a_homes, .ref a_noises, .ref a_judgeMany, .ref a_judges, .ref a_delays, .ref a_tolds, .ref a_tens, .int i_keptMany, .int i_place, .ref a_told, .ref a_ways, .ref a_nextWays, .ref a_tallies, .ref a_presses, .ref a_values, .ref a_nextValues])), (a_blowMany, .inl (X.2.1 0, 2, .inl f_blowMany)), (a_blows, .inl (X.2.1 0, 400, .inl f_blows)), (a_downs, .inl (X.2.1 0, 48, .inl f_downs)), (a_forwards, .inl (X.2.1 0, 48, .inl f_forwards)), (a_homes, .inl (X.2.1 0, 2, .inl f_homes)), (a_judgeMany, .inl (X.2.1 0, 2, .inl f_judgeMany)), (a_judges, .inl (X.2.1 0, 112, .inl f_judges)), (a_noises, .inl (X.2.1 0, 2, .inl f_noises)), (a_roundMany, .inl (X.2.1 0, 2, .inl f_roundMany)), (a_takens, .inl (X.2.1 0, 48, .inl f_takens))]) hx hb hml hts hown hG hA hP hD rfl hS hl.1 (qX11_isJudge l X a_this a_judgeMany a_text a_roundMany a_blowMany a_blows a_forwards a_downs a_takens a_homes a_noises a_judges a_delays a_tolds a_tens a_told a_ways a_nextWays a_tallies a_presses a_values a_nextValues i_length i_keptMany i_place f_judgeMany x1 o4 ho4) (cwV (y := yX11_isJudge) 1 hts gX11_card_X11_isJudge rfl rfl rfl hdvX11_isJudge ⟨Nat.le_of_ble_eq_true rfl, Nat.le_of_ble_eq_true rfl⟩) [0, 6] [1, 2, 3, 4, 5, 7, 8, 9, 10] [9, 0, 1, 2, 3, 4, 10, 5, 6, 7, 8] rfl rfl rfl rfl rfl rfl rfl (ci := 11) rfl 0 rfl rfl rfl (Nat.le_of_ble_eq_true rfl) ⟨Nat.le_of_ble_eq_true rfl, Nat.le_of_ble_eq_true rfl⟩ dX11_card_9 (fun H locs hP _ hS => ?_)
    refine lv_if_eq (tgt := 24) hx hb dX11_card_12 (by decide) (fun c6 => ?_) (fun c6 => ?_)
    · have hf := xt hf c6
      refine lv_ldc (v := (-100001 : Int32)) hx hb hown w1 dX11_card_24 ?_
      obtain rfl := Option.some.inj hf
      exact ret H _ ls _ rfl hP hD hS dX11_card_26
    · have hf := xf hf c6
      refine lv_aload_n hx hb dX11_card_15 rfl (lv_at hl 0 rfl) ?_
      refine lv_iload_n hx hb dX11_card_16 rfl (lv_at hl 1 rfl) ?_
      refine lv_iload_n hx hb dX11_card_17 rfl (lv_at hl 2 rfl) ?_
      obtain ⟨o7, ho7, hf⟩ := ob_s hf
      refine xV_i (As := [.int x0, .int x1]) (b := a_this) (rest := []) (ws2 := [(a_this, .inr (11, [.int i_length, .ref a_text, .ref a_roundMany, .ref a_blowMany, .ref a_blows, .ref a_forwards, .ref a_downs, .ref a_takens, .ref a_homes, .ref a_noises, .ref a_judgeMany, .ref a_judges, .ref a_delays, .ref a_tolds, .ref a_tens, .int i_keptMany, .int i_place, .ref a_told, .ref a_ways, .ref a_nextWays, .ref a_tallies, .ref a_presses, .ref a_values, .ref a_nextValues])), (a_blowMany, .inl (X.2.1 0, 2, .inl f_blowMany)), (a_blows, .inl (X.2.1 0, 400, .inl f_blows)), (a_downs, .inl (X.2.1 0, 48, .inl f_downs)), (a_forwards, .inl (X.2.1 0, 48, .inl f_forwards)), (a_homes, .inl (X.2.1 0, 2, .inl f_homes)), (a_judgeMany, .inl (X.2.1 0, 2, .inl f_judgeMany)), (a_judges, .inl (X.2.1 0, 112, .inl f_judges)), (a_noises, .inl (X.2.1 0, 2, .inl f_noises)), (a_roundMany, .inl (X.2.1 0, 2, .inl f_roundMany)), (a_takens, .inl (X.2.1 0, 48, .inl f_takens))]) hx hb hml hts hown hG hA hP hD rfl hS hl.1 (qX11_cardOf l X a_this a_blowMany a_blows a_downs a_forwards a_homes a_judges a_noises a_roundMany a_takens a_text a_judgeMany a_delays a_tolds a_tens a_told a_ways a_nextWays a_tallies a_presses a_values a_nextValues i_length i_keptMany i_place f_blowMany f_blows f_downs f_forwards f_homes f_judges f_noises f_roundMany f_takens x0 x1 o7 ho7) (cwV (y := yX11_cardOf) 2 hts gX11_card_X11_cardOf rfl rfl rfl hdvX11_cardOf ⟨Nat.le_of_ble_eq_true rfl, Nat.le_of_ble_eq_true rfl⟩) [0, 1, 2, 3, 4, 5, 7, 8, 9, 10] [6] [1, 2, 3, 4, 5, 6, 0, 7, 8, 9, 10] rfl rfl rfl rfl rfl rfl rfl (ci := 11) rfl 0 rfl rfl rfl (Nat.le_of_ble_eq_true rfl) ⟨Nat.le_of_ble_eq_true rfl, Nat.le_of_ble_eq_true rfl⟩ dX11_card_18 (fun H locs hP _ hS => ?_)
      refine lv_goto (tgt := 26) hx hb dX11_card_21 (by decide) ?_
      obtain rfl := Option.some.inj hf
      exact ret H _ ls _ rfl hP hD hS dX11_card_26
def mX11_pointsOf_B47 (x0 : Int32) (x1 : Int32) (x2 : Int32) (f_blowMany : Nat → Int32) (f_blows : Nat → Int32) (f_downs : Nat → Int32) (f_forwards : Nat → Int32) (f_homes : Nat → Int32) (f_judges : Nat → Int32) (f_noises : Nat → Int32) (f_roundMany : Nat → Int32) (f_takens : Nat → Int32) (k13 : Int32 → Int32 → Option (Int32)) (l4 : Int32) (l5 : Int32) (s0 : Int32) :
  Option (Int32) :=
  if s0 ≤ 0 then (lb (l4 + ((20 : Int32) - (0 : Int32))) fun v9 =>
  lb (l5 + (1 : Int32)) fun v10 =>
  k13 v9 v10) else (lb (l4 + ((20 : Int32) - s0)) fun v11 =>
  lb (l5 + (1 : Int32)) fun v12 =>
  k13 v11 v12)
def mX11_pointsOf_B13 (x0 : Int32) (x1 : Int32) (x2 : Int32) (f_blowMany : Nat → Int32) (f_blows : Nat → Int32) (f_downs : Nat → Int32) (f_forwards : Nat → Int32) (f_homes : Nat → Int32) (f_judges : Nat → Int32) (f_noises : Nat → Int32) (f_roundMany : Nat → Int32) (f_takens : Nat → Int32) (k13 : Int32 → Int32 → Option (Int32)) (l4 : Int32) (l5 : Int32) :
  Option (Int32) :=
  if (f_roundMany (0 : Int32).toNatClampNeg) ≤ l5 then (some l4) else ((mX11_margin0 x0 x1 l5 (0 : Int32) f_blowMany f_blows f_downs f_forwards f_homes f_judges f_noises).bind fun o5 =>
  if x2 = 0 then (mX11_pointsOf_B47 x0 x1 x2 f_blowMany f_blows f_downs f_forwards f_homes f_judges f_noises f_roundMany f_takens k13 l4 l5 (-o5)) else (mX11_pointsOf_B47 x0 x1 x2 f_blowMany f_blows f_downs f_forwards f_homes f_judges f_noises f_roundMany f_takens k13 l4 l5 o5))
def mX11_pointsOf_L13 (x0 : Int32) (x1 : Int32) (x2 : Int32) (f_blowMany : Nat → Int32) (f_blows : Nat → Int32) (f_downs : Nat → Int32) (f_forwards : Nat → Int32) (f_homes : Nat → Int32) (f_judges : Nat → Int32) (f_noises : Nat → Int32) (f_roundMany : Nat → Int32) (f_takens : Nat → Int32) (n : Nat) (l4 : Int32) (l5 : Int32) :
  Option (Int32) :=
  loopN (fun k (s : Int32 × Int32) => mX11_pointsOf_B13 x0 x1 x2 f_blowMany f_blows f_downs f_forwards f_homes f_judges f_noises f_roundMany f_takens  (fun l4 l5 => k (l4, l5)) s.1 s.2) n (l4, l5)
def mX11_pointsOf (x0 : Int32) (x1 : Int32) (x2 : Int32) (f_blowMany : Nat → Int32) (f_blows : Nat → Int32) (f_downs : Nat → Int32) (f_forwards : Nat → Int32) (f_homes : Nat → Int32) (f_judges : Nat → Int32) (f_noises : Nat → Int32) (f_roundMany : Nat → Int32) (f_takens : Nat → Int32) :
  Option (Int32) :=
  (mX11_takenOf x2 f_roundMany f_takens).bind fun o1 =>
  lb ((-2 : Int32) * o1) fun v3 =>
  mX11_pointsOf_L13 x0 x1 x2 f_blowMany f_blows f_downs f_forwards f_homes f_judges f_noises f_roundMany f_takens  FUEL v3 (0 : Int32)
theorem hdsX11_pointsOf : yX11_pointsOf.cls ≠ "java/lang/invoke/MethodHandle" ∧ yX11_pointsOf.cls ≠ "java/lang/invoke/VarHandle" ∧ (parseMethodDescriptor yX11_pointsOf.desc).map (fun d => d.parameters.length) = some 3 := by decide +kernel
theorem hdvX11_pointsOf : yX11_pointsOf.cls = RX11 ∧ yX11_pointsOf.cls ≠ "java/lang/invoke/MethodHandle" ∧ yX11_pointsOf.cls ≠ "java/lang/invoke/VarHandle" ∧ (parseMethodDescriptor yX11_pointsOf.desc).map (fun d => d.parameters.length) = some 3 := by decide +kernel
abbrev rmX11_pointsOf : Room := { frames := 6, cells := 0, slots := 0, locals := 143 }
set_option maxHeartbeats 4000000 in
set_option maxRecDepth 100000 in
theorem qX11_pointsOf (l : Launch) (X : XT) (a_this : Nat) (a_blowMany : Nat) (a_blows : Nat) (a_downs : Nat) (a_forwards : Nat) (a_homes : Nat) (a_judges : Nat) (a_noises : Nat) (a_roundMany : Nat) (a_takens : Nat) (a_text : Nat) (a_judgeMany : Nat) (a_delays : Nat) (a_tolds : Nat) (a_tens : Nat) (a_told : Nat) (a_ways : Nat) (a_nextWays : Nat) (a_tallies : Nat) (a_presses : Nat) (a_values : Nat) (a_nextValues : Nat)  (i_length : Int32) (i_keptMany : Int32) (i_place : Int32) (f_blowMany : Nat → Int32) (f_blows : Nat → Int32) (f_downs : Nat → Int32) (f_forwards : Nat → Int32) (f_homes : Nat → Int32) (f_judges : Nat → Int32) (f_noises : Nat → Int32) (f_roundMany : Nat → Int32) (f_takens : Nat → Int32) (x0 : Int32) (x1 : Int32) (x2 : Int32) (o : Int32) (hf : mX11_pointsOf x0 x1 x2 f_blowMany f_blows f_downs f_forwards f_homes f_judges f_noises f_roundMany f_takens = some o) :
    MI l yX11_pointsOf wsX11_pointsOf rmX11_pointsOf X [.ref a_this, .int x0, .int x1, .int x2] [(a_this, .inr (11, [.int i_length, .ref a_text, .ref a_roundMany, .ref a_blowMany, .ref a_blows, .ref a_forwards, .ref a_downs, .ref a_takens, .ref a_homes, .ref a_noises, .ref a_judgeMany, .ref a_judges, .ref a_delays, .ref a_tolds, .ref a_tens, .int i_keptMany, .int i_place, .ref a_told, .ref a_ways, .ref a_nextWays, .ref a_tallies, .ref a_presses, .ref a_values, .ref a_nextValues])), (a_blowMany, .inl (X.2.1 0, 2, .inl f_blowMany)), (a_blows, .inl (X.2.1 0, 400, .inl f_blows)), (a_downs, .inl (X.2.1 0, 48, .inl f_downs)), (a_forwards, .inl (X.2.1 0, 48, .inl f_forwards)), (a_homes, .inl (X.2.1 0, 2, .inl f_homes)), (a_judges, .inl (X.2.1 0, 112, .inl f_judges)), (a_noises, .inl (X.2.1 0, 2, .inl f_noises)), (a_roundMany, .inl (X.2.1 0, 2, .inl f_roundMany)), (a_takens, .inl (X.2.1 0, 48, .inl f_takens))]  [(a_this, .inr (11, [.int i_length, .ref a_text, .ref a_roundMany, .ref a_blowMany, .ref a_blows, .ref a_forwards, .ref a_downs, .ref a_takens, .ref a_homes, .ref a_noises, .ref a_judgeMany, .ref a_judges, .ref a_delays, .ref a_tolds, .ref a_tens, .int i_keptMany, .int i_place, .ref a_told, .ref a_ways, .ref a_nextWays, .ref a_tallies, .ref a_presses, .ref a_values, .ref a_nextValues])), (a_blowMany, .inl (X.2.1 0, 2, .inl f_blowMany)), (a_blows, .inl (X.2.1 0, 400, .inl f_blows)), (a_downs, .inl (X.2.1 0, 48, .inl f_downs)), (a_forwards, .inl (X.2.1 0, 48, .inl f_forwards)), (a_homes, .inl (X.2.1 0, 2, .inl f_homes)), (a_judges, .inl (X.2.1 0, 112, .inl f_judges)), (a_noises, .inl (X.2.1 0, 2, .inl f_noises)), (a_roundMany, .inl (X.2.1 0, 2, .inl f_roundMany)), (a_takens, .inl (X.2.1 0, 48, .inl f_takens))] o := by
  refine MI_ofH (cc := cX11_pointsOf) (maxL := 8) (rt := .int) (by decide) rfl (Nat.le_of_ble_eq_true rfl) ?_
  intro p e s m below meth c A Q H ls hx hb hml hts hown hA hD hG hP hS hl ret
  have hown : s.vm.findClass RX11 = some m.cls := hown
  have hD : aD A [a_this, a_blowMany, a_blows, a_downs, a_forwards, a_homes, a_judges, a_noises, a_roundMany, a_takens] := hD
  have hl : lv_has ls 8 [(0, .ref a_this), (1, .int x0), (2, .int x1), (3, .int x2)] := hl
  have w1 := hts (Cond.fieldLink RX11 13 "ThreeCardsModel" "roundMany" "[I") (List.mem_of_getElem? (i := 1) rfl)
  have in11 : ∀ w ∈ u_ws RX11 TX11 24, w ∈ wsX11_pointsOf := by decide +kernel
  have hB47 : ∀ (k13 : Int32 → Int32 → Option (Int32)) (hk13 : ∀ (l4 : Int32) (l5 : Int32)  (H : Heap) (locs : List Loc) (ls : Array Slot), va_P X.1 vwCl [(a_this, .inr (11, [.int i_length, .ref a_text, .ref a_roundMany, .ref a_blowMany, .ref a_blows, .ref a_forwards, .ref a_downs, .ref a_takens, .ref a_homes, .ref a_noises, .ref a_judgeMany, .ref a_judges, .ref a_delays, .ref a_tolds, .ref a_tens, .int i_keptMany, .int i_place, .ref a_told, .ref a_ways, .ref a_nextWays, .ref a_tallies, .ref a_presses, .ref a_values, .ref a_nextValues])), (a_blowMany, .inl (X.2.1 0, 2, .inl f_blowMany)), (a_blows, .inl (X.2.1 0, 400, .inl f_blows)), (a_downs, .inl (X.2.1 0, 48, .inl f_downs)), (a_forwards, .inl (X.2.1 0, 48, .inl f_forwards)), (a_homes, .inl (X.2.1 0, 2, .inl f_homes)), (a_judges, .inl (X.2.1 0, 112, .inl f_judges)), (a_noises, .inl (X.2.1 0, 2, .inl f_noises)), (a_roundMany, .inl (X.2.1 0, 2, .inl f_roundMany)), (a_takens, .inl (X.2.1 0, 48, .inl f_takens))] H → va_S A s.heap H locs → lv_has ls 8 [(0, .ref a_this), (1, .int x0), (2, .int x1), (3, .int x2), (4, .int l4), (5, .int l5)] → k13 l4 l5 = some o → W p l e rmX11_pointsOf s m ([.ref a_this, .int x0, .int x1, .int x2] : List Value).toArray below meth c H locs 0 0 Q (F0 m 13 ls [])) (l4 : Int32) (l5 : Int32) (s0 : Int32)  (H : Heap) (locs : List Loc) (ls : Array Slot), va_P X.1 vwCl [(a_this, .inr (11, [.int i_length, .ref a_text, .ref a_roundMany, .ref a_blowMany, .ref a_blows, .ref a_forwards, .ref a_downs, .ref a_takens, .ref a_homes, .ref a_noises, .ref a_judgeMany, .ref a_judges, .ref a_delays, .ref a_tolds, .ref a_tens, .int i_keptMany, .int i_place, .ref a_told, .ref a_ways, .ref a_nextWays, .ref a_tallies, .ref a_presses, .ref a_values, .ref a_nextValues])), (a_blowMany, .inl (X.2.1 0, 2, .inl f_blowMany)), (a_blows, .inl (X.2.1 0, 400, .inl f_blows)), (a_downs, .inl (X.2.1 0, 48, .inl f_downs)), (a_forwards, .inl (X.2.1 0, 48, .inl f_forwards)), (a_homes, .inl (X.2.1 0, 2, .inl f_homes)), (a_judges, .inl (X.2.1 0, 112, .inl f_judges)), (a_noises, .inl (X.2.1 0, 2, .inl f_noises)), (a_roundMany, .inl (X.2.1 0, 2, .inl f_roundMany)), (a_takens, .inl (X.2.1 0, 48, .inl f_takens))] H → va_S A s.heap H locs → lv_has ls 8 [(0, .ref a_this), (1, .int x0), (2, .int x1), (3, .int x2), (4, .int l4), (5, .int l5)] → mX11_pointsOf_B47 x0 x1 x2 f_blowMany f_blows f_downs f_forwards f_homes f_judges f_noises f_roundMany f_takens k13 l4 l5 s0 = some o → W p l e rmX11_pointsOf s m ([.ref a_this, .int x0, .int x1, .int x2] : List Value).toArray below meth c H locs 0 0 Q (F0 m 47 ls [.int s0]) := by
    intro k13 hk13 l4 l5 s0  H locs ls hP hS hl hf
    unfold mX11_pointsOf_B47 at hf
    refine lv_istore (lv' := [(7, .int s0), (0, .ref a_this), (1, .int x0), (2, .int x1), (3, .int x2), (4, .int l4), (5, .int l5)]) hx hb dX11_pointsOf_47 hl (by decide) rfl (fun ls hl => ?_)
    refine lv_iload hx hb dX11_pointsOf_49 (lv_at hl 5 rfl) ?_
    refine lv_bipush (v := (20 : Int32)) hx hb dX11_pointsOf_51 (by decide) ?_
    refine lv_iload hx hb dX11_pointsOf_53 (lv_at hl 0 rfl) ?_
    refine lv_if_le (tgt := 63) hx hb dX11_pointsOf_55 (by decide) (fun c8 => ?_) (fun c8 => ?_)
    · have hf := xt hf c8
      refine lv_iconst (v := (0 : Int32)) hx hb dX11_pointsOf_63 (by decide) ?_
      refine lv_isub hx hb dX11_pointsOf_64 ?_
      refine lv_iadd hx hb dX11_pointsOf_65 ?_
      refine lv_topi (fun v9 ev9 => ?_)
      have hf := lb_s hf ev9
      refine lv_istore (lv' := [(4, .int v9), (7, .int s0), (0, .ref a_this), (1, .int x0), (2, .int x1), (3, .int x2), (5, .int l5)]) hx hb dX11_pointsOf_66 hl (by decide) rfl (fun ls hl => ?_)
      obtain ⟨v10, ev10, hf⟩ := lb_g hf
      refine lv_iinc (v := v10) (lv' := [(5, .int v10), (4, .int v9), (7, .int s0), (0, .ref a_this), (1, .int x0), (2, .int x1), (3, .int x2)]) hx hb dX11_pointsOf_68 hl (k := 6) rfl ev10.symm (by decide) rfl (fun ls hl => ?_)
      refine lv_goto (tgt := 13) hx hb dX11_pointsOf_71 (by decide) ?_
      exact hk13 v9 v10  H _ ls hP  hS (lv_sub hl [3, 4, 5, 6, 1, 0] rfl) hf
    · have hf := xf hf c8
      refine lv_iload hx hb dX11_pointsOf_58 (lv_at hl 0 rfl) ?_
      refine lv_goto (tgt := 64) hx hb dX11_pointsOf_60 (by decide) ?_
      refine lv_isub hx hb dX11_pointsOf_64 ?_
      refine lv_iadd hx hb dX11_pointsOf_65 ?_
      refine lv_topi (fun v11 ev11 => ?_)
      have hf := lb_s hf ev11
      refine lv_istore (lv' := [(4, .int v11), (7, .int s0), (0, .ref a_this), (1, .int x0), (2, .int x1), (3, .int x2), (5, .int l5)]) hx hb dX11_pointsOf_66 hl (by decide) rfl (fun ls hl => ?_)
      obtain ⟨v12, ev12, hf⟩ := lb_g hf
      refine lv_iinc (v := v12) (lv' := [(5, .int v12), (4, .int v11), (7, .int s0), (0, .ref a_this), (1, .int x0), (2, .int x1), (3, .int x2)]) hx hb dX11_pointsOf_68 hl (k := 6) rfl ev12.symm (by decide) rfl (fun ls hl => ?_)
      refine lv_goto (tgt := 13) hx hb dX11_pointsOf_71 (by decide) ?_
      exact hk13 v11 v12  H _ ls hP  hS (lv_sub hl [3, 4, 5, 6, 1, 0] rfl) hf
  have hL13 : ∀ (n : Nat) (l4 : Int32) (l5 : Int32)  (H : Heap) (locs : List Loc) (ls : Array Slot), va_P X.1 vwCl [(a_this, .inr (11, [.int i_length, .ref a_text, .ref a_roundMany, .ref a_blowMany, .ref a_blows, .ref a_forwards, .ref a_downs, .ref a_takens, .ref a_homes, .ref a_noises, .ref a_judgeMany, .ref a_judges, .ref a_delays, .ref a_tolds, .ref a_tens, .int i_keptMany, .int i_place, .ref a_told, .ref a_ways, .ref a_nextWays, .ref a_tallies, .ref a_presses, .ref a_values, .ref a_nextValues])), (a_blowMany, .inl (X.2.1 0, 2, .inl f_blowMany)), (a_blows, .inl (X.2.1 0, 400, .inl f_blows)), (a_downs, .inl (X.2.1 0, 48, .inl f_downs)), (a_forwards, .inl (X.2.1 0, 48, .inl f_forwards)), (a_homes, .inl (X.2.1 0, 2, .inl f_homes)), (a_judges, .inl (X.2.1 0, 112, .inl f_judges)), (a_noises, .inl (X.2.1 0, 2, .inl f_noises)), (a_roundMany, .inl (X.2.1 0, 2, .inl f_roundMany)), (a_takens, .inl (X.2.1 0, 48, .inl f_takens))] H → va_S A s.heap H locs → lv_has ls 8 [(0, .ref a_this), (1, .int x0), (2, .int x1), (3, .int x2), (4, .int l4), (5, .int l5)] → mX11_pointsOf_L13 x0 x1 x2 f_blowMany f_blows f_downs f_forwards f_homes f_judges f_noises f_roundMany f_takens  n l4 l5 = some o → W p l e rmX11_pointsOf s m ([.ref a_this, .int x0, .int x1, .int x2] : List Value).toArray below meth c H locs 0 0 Q (F0 m 13 ls []) := by
    intro n
    induction n with
    | zero => intro l4 l5  H locs ls hP hS hl hf; exact xn hf
    | succ n ih =>
      intro l4 l5  H locs ls hP hS hl hf
      have hf : mX11_pointsOf_B13 x0 x1 x2 f_blowMany f_blows f_downs f_forwards f_homes f_judges f_noises f_roundMany f_takens  (mX11_pointsOf_L13 x0 x1 x2 f_blowMany f_blows f_downs f_forwards f_homes f_judges f_noises f_roundMany f_takens  n) l4 l5 = some o := hf
      generalize mX11_pointsOf_L13 x0 x1 x2 f_blowMany f_blows f_downs f_forwards f_homes f_judges f_noises f_roundMany f_takens  n = k13 at ih hf
      unfold mX11_pointsOf_B13 at hf
      refine lv_iload hx hb dX11_pointsOf_13 (lv_at hl 5 rfl) ?_
      refine lv_aload_n hx hb dX11_pointsOf_15 rfl (lv_at hl 0 rfl) ?_
      refine va_get (D := X.1) (ci := 11) (v := .ref a_roundMany) (C := RX11) (T := TX11) (N := 24) hx hb hts in11 hown hG.1 hP 0 rfl rfl 2 (by decide) w1 (fun _ h9 => h9) rfl dX11_pointsOf_16 ?_
      refine lv_iconst (v := (0 : Int32)) hx hb dX11_pointsOf_19 (by decide) ?_
      refine va_iald (D := X.1) hx hb hG.1 hP 8 0 rfl rfl (vp_lit (by decide)) dX11_pointsOf_20 ?_
      refine lv_icmp_ge (tgt := 74) hx hb dX11_pointsOf_21 (by decide) (fun c4 => ?_) (fun c4 => ?_)
      · have hf := xt hf c4
        refine lv_iload hx hb dX11_pointsOf_74 (lv_at hl 4 rfl) ?_
        obtain rfl := Option.some.inj hf
        exact ret H _ ls _ rfl hP hD hS dX11_pointsOf_76
      · have hf := xf hf c4
        refine lv_aload_n hx hb dX11_pointsOf_24 rfl (lv_at hl 0 rfl) ?_
        refine lv_iload_n hx hb dX11_pointsOf_25 rfl (lv_at hl 1 rfl) ?_
        refine lv_iload_n hx hb dX11_pointsOf_26 rfl (lv_at hl 2 rfl) ?_
        refine lv_iload hx hb dX11_pointsOf_27 (lv_at hl 5 rfl) ?_
        refine lv_iconst (v := (0 : Int32)) hx hb dX11_pointsOf_29 (by decide) ?_
        obtain ⟨o5, ho5, hf⟩ := ob_s hf
        refine xV_i (As := [.int x0, .int x1, .int l5, .int (0 : Int32)]) (b := a_this) (rest := []) (ws2 := [(a_this, .inr (11, [.int i_length, .ref a_text, .ref a_roundMany, .ref a_blowMany, .ref a_blows, .ref a_forwards, .ref a_downs, .ref a_takens, .ref a_homes, .ref a_noises, .ref a_judgeMany, .ref a_judges, .ref a_delays, .ref a_tolds, .ref a_tens, .int i_keptMany, .int i_place, .ref a_told, .ref a_ways, .ref a_nextWays, .ref a_tallies, .ref a_presses, .ref a_values, .ref a_nextValues])), (a_blowMany, .inl (X.2.1 0, 2, .inl f_blowMany)), (a_blows, .inl (X.2.1 0, 400, .inl f_blows)), (a_downs, .inl (X.2.1 0, 48, .inl f_downs)), (a_forwards, .inl (X.2.1 0, 48, .inl f_forwards)), (a_homes, .inl (X.2.1 0, 2, .inl f_homes)), (a_judges, .inl (X.2.1 0, 112, .inl f_judges)), (a_noises, .inl (X.2.1 0, 2, .inl f_noises)), (a_roundMany, .inl (X.2.1 0, 2, .inl f_roundMany)), (a_takens, .inl (X.2.1 0, 48, .inl f_takens))]) hx hb hml hts hown hG hA hP hD rfl hS hl.1 (qX11_margin0 l X a_this a_blowMany a_blows a_downs a_forwards a_homes a_judges a_noises a_text a_roundMany a_takens a_judgeMany a_delays a_tolds a_tens a_told a_ways a_nextWays a_tallies a_presses a_values a_nextValues i_length i_keptMany i_place f_blowMany f_blows f_downs f_forwards f_homes f_judges f_noises x0 x1 l5 (0 : Int32) o5 ho5) (cwV (y := yX11_margin0) 4 hts gX11_pointsOf_X11_margin0 rfl rfl rfl hdvX11_margin0 ⟨Nat.le_of_ble_eq_true rfl, Nat.le_of_ble_eq_true rfl⟩) [0, 1, 2, 3, 4, 5, 6, 7] [8, 9] [2, 3, 4, 5, 6, 7, 8, 9, 0, 1] rfl rfl rfl rfl rfl rfl rfl (ci := 11) rfl 0 rfl rfl rfl (Nat.le_of_ble_eq_true rfl) ⟨Nat.le_of_ble_eq_true rfl, Nat.le_of_ble_eq_true rfl⟩ dX11_pointsOf_30 (fun H locs hP _ hS => ?_)
        refine lv_istore (lv' := [(6, .int o5), (0, .ref a_this), (1, .int x0), (2, .int x1), (3, .int x2), (4, .int l4), (5, .int l5)]) hx hb dX11_pointsOf_33 hl (by decide) rfl (fun ls hl => ?_)
        refine lv_iload_n hx hb dX11_pointsOf_35 rfl (lv_at hl 4 rfl) ?_
        refine lv_if_ne (tgt := 45) hx hb dX11_pointsOf_36 (by decide) (fun c7 => ?_) (fun c7 => ?_)
        · have hf := xf hf c7
          refine lv_iload hx hb dX11_pointsOf_45 (lv_at hl 0 rfl) ?_
          exact hB47 k13 ih l4 l5 o5  H _ ls hP  hS (lv_sub hl [1, 2, 3, 4, 5, 6] rfl) hf
        · have hf := xt hf c7
          refine lv_iload hx hb dX11_pointsOf_39 (lv_at hl 0 rfl) ?_
          refine lv_ineg hx hb dX11_pointsOf_41 ?_
          refine lv_goto (tgt := 47) hx hb dX11_pointsOf_42 (by decide) ?_
          exact hB47 k13 ih l4 l5 (-o5)  H _ ls hP  hS (lv_sub hl [1, 2, 3, 4, 5, 6] rfl) hf
  unfold mX11_pointsOf at hf
  refine lv_bipush (v := (-2 : Int32)) hx hb dX11_pointsOf_0 (by decide) ?_
  refine lv_aload_n hx hb dX11_pointsOf_2 rfl (lv_at hl 0 rfl) ?_
  refine lv_iload_n hx hb dX11_pointsOf_3 rfl (lv_at hl 3 rfl) ?_
  obtain ⟨o1, ho1, hf⟩ := ob_s hf
  refine xV_i (As := [.int x2]) (b := a_this) (rest := [.int (-2 : Int32)]) (ws2 := [(a_this, .inr (11, [.int i_length, .ref a_text, .ref a_roundMany, .ref a_blowMany, .ref a_blows, .ref a_forwards, .ref a_downs, .ref a_takens, .ref a_homes, .ref a_noises, .ref a_judgeMany, .ref a_judges, .ref a_delays, .ref a_tolds, .ref a_tens, .int i_keptMany, .int i_place, .ref a_told, .ref a_ways, .ref a_nextWays, .ref a_tallies, .ref a_presses, .ref a_values, .ref a_nextValues])), (a_blowMany, .inl (X.2.1 0, 2, .inl f_blowMany)), (a_blows, .inl (X.2.1 0, 400, .inl f_blows)), (a_downs, .inl (X.2.1 0, 48, .inl f_downs)), (a_forwards, .inl (X.2.1 0, 48, .inl f_forwards)), (a_homes, .inl (X.2.1 0, 2, .inl f_homes)), (a_judges, .inl (X.2.1 0, 112, .inl f_judges)), (a_noises, .inl (X.2.1 0, 2, .inl f_noises)), (a_roundMany, .inl (X.2.1 0, 2, .inl f_roundMany)), (a_takens, .inl (X.2.1 0, 48, .inl f_takens))]) hx hb hml hts hown hG hA hP hD rfl hS hl.1 (qX11_takenOf l X a_this a_roundMany a_takens a_text a_blowMany a_blows a_forwards a_downs a_homes a_noises a_judgeMany a_judges a_delays a_tolds a_tens a_told a_ways a_nextWays a_tallies a_presses a_values a_nextValues i_length i_keptMany i_place f_roundMany f_takens x2 o1 ho1) (cwV (y := yX11_takenOf) 1 hts gX11_pointsOf_X11_takenOf rfl rfl rfl hdvX11_takenOf ⟨Nat.le_of_ble_eq_true rfl, Nat.le_of_ble_eq_true rfl⟩) [0, 8, 9] [1, 2, 3, 4, 5, 6, 7] [7, 0, 1, 2, 3, 4, 5, 6, 8, 9] rfl rfl rfl rfl rfl rfl rfl (ci := 11) rfl 0 rfl rfl rfl (Nat.le_of_ble_eq_true rfl) ⟨Nat.le_of_ble_eq_true rfl, Nat.le_of_ble_eq_true rfl⟩ dX11_pointsOf_4 (fun H locs hP _ hS => ?_)
  refine lv_imul hx hb dX11_pointsOf_7 ?_
  refine lv_topi (fun v3 ev3 => ?_)
  have hf := lb_s hf ev3
  refine lv_istore (lv' := [(4, .int v3), (0, .ref a_this), (1, .int x0), (2, .int x1), (3, .int x2)]) hx hb dX11_pointsOf_8 hl (by decide) rfl (fun ls hl => ?_)
  refine lv_iconst (v := (0 : Int32)) hx hb dX11_pointsOf_10 (by decide) ?_
  refine lv_istore (lv' := [(5, .int (0 : Int32)), (4, .int v3), (0, .ref a_this), (1, .int x0), (2, .int x1), (3, .int x2)]) hx hb dX11_pointsOf_11 hl (by decide) rfl (fun ls hl => ?_)
  exact hL13  FUEL v3 (0 : Int32)  H _ ls hP  hS (lv_sub hl [2, 3, 4, 5, 1, 0] rfl) hf
def mX11_points (x0 : Int32) (x1 : Int32) (x2 : Int32) (f_blowMany : Nat → Int32) (f_blows : Nat → Int32) (f_downs : Nat → Int32) (f_forwards : Nat → Int32) (f_homes : Nat → Int32) (f_judgeMany : Nat → Int32) (f_judges : Nat → Int32) (f_noises : Nat → Int32) (f_roundMany : Nat → Int32) (f_takens : Nat → Int32) :
  Option (Int32) :=
  (mX11_in (Int32.toInt64 x0) (0 : Int64) (2 : Int64)).bind fun o1 =>
  if o1 = 0 then (some (-1 : Int32)) else ((mX11_isJudge x1 f_judgeMany).bind fun o4 =>
  if o4 = 0 then (some (-1 : Int32)) else ((mX11_in (Int32.toInt64 x2) (0 : Int64) (1 : Int64)).bind fun o7 =>
  if o7 = 0 then (some (-1 : Int32)) else ((mX11_pointsOf x0 x1 x2 f_blowMany f_blows f_downs f_forwards f_homes f_judges f_noises f_roundMany f_takens).bind fun o10 =>
  some o10)))
theorem hdsX11_points : yX11_points.cls ≠ "java/lang/invoke/MethodHandle" ∧ yX11_points.cls ≠ "java/lang/invoke/VarHandle" ∧ (parseMethodDescriptor yX11_points.desc).map (fun d => d.parameters.length) = some 3 := by decide +kernel
theorem hdvX11_points : yX11_points.cls = RX11 ∧ yX11_points.cls ≠ "java/lang/invoke/MethodHandle" ∧ yX11_points.cls ≠ "java/lang/invoke/VarHandle" ∧ (parseMethodDescriptor yX11_points.desc).map (fun d => d.parameters.length) = some 3 := by decide +kernel
abbrev rmX11_points : Room := { frames := 7, cells := 0, slots := 0, locals := 170 }
set_option maxHeartbeats 4000000 in
set_option maxRecDepth 100000 in
theorem qX11_points (l : Launch) (X : XT) (a_this : Nat) (a_blowMany : Nat) (a_blows : Nat) (a_downs : Nat) (a_forwards : Nat) (a_homes : Nat) (a_judgeMany : Nat) (a_judges : Nat) (a_noises : Nat) (a_roundMany : Nat) (a_takens : Nat) (a_text : Nat) (a_delays : Nat) (a_tolds : Nat) (a_tens : Nat) (a_told : Nat) (a_ways : Nat) (a_nextWays : Nat) (a_tallies : Nat) (a_presses : Nat) (a_values : Nat) (a_nextValues : Nat)  (i_length : Int32) (i_keptMany : Int32) (i_place : Int32) (f_blowMany : Nat → Int32) (f_blows : Nat → Int32) (f_downs : Nat → Int32) (f_forwards : Nat → Int32) (f_homes : Nat → Int32) (f_judgeMany : Nat → Int32) (f_judges : Nat → Int32) (f_noises : Nat → Int32) (f_roundMany : Nat → Int32) (f_takens : Nat → Int32) (x0 : Int32) (x1 : Int32) (x2 : Int32) (o : Int32) (hf : mX11_points x0 x1 x2 f_blowMany f_blows f_downs f_forwards f_homes f_judgeMany f_judges f_noises f_roundMany f_takens = some o) :
    MI l yX11_points wsX11_points rmX11_points X [.ref a_this, .int x0, .int x1, .int x2] [(a_this, .inr (11, [.int i_length, .ref a_text, .ref a_roundMany, .ref a_blowMany, .ref a_blows, .ref a_forwards, .ref a_downs, .ref a_takens, .ref a_homes, .ref a_noises, .ref a_judgeMany, .ref a_judges, .ref a_delays, .ref a_tolds, .ref a_tens, .int i_keptMany, .int i_place, .ref a_told, .ref a_ways, .ref a_nextWays, .ref a_tallies, .ref a_presses, .ref a_values, .ref a_nextValues])), (a_blowMany, .inl (X.2.1 0, 2, .inl f_blowMany)), (a_blows, .inl (X.2.1 0, 400, .inl f_blows)), (a_downs, .inl (X.2.1 0, 48, .inl f_downs)), (a_forwards, .inl (X.2.1 0, 48, .inl f_forwards)), (a_homes, .inl (X.2.1 0, 2, .inl f_homes)), (a_judgeMany, .inl (X.2.1 0, 2, .inl f_judgeMany)), (a_judges, .inl (X.2.1 0, 112, .inl f_judges)), (a_noises, .inl (X.2.1 0, 2, .inl f_noises)), (a_roundMany, .inl (X.2.1 0, 2, .inl f_roundMany)), (a_takens, .inl (X.2.1 0, 48, .inl f_takens))]  [(a_this, .inr (11, [.int i_length, .ref a_text, .ref a_roundMany, .ref a_blowMany, .ref a_blows, .ref a_forwards, .ref a_downs, .ref a_takens, .ref a_homes, .ref a_noises, .ref a_judgeMany, .ref a_judges, .ref a_delays, .ref a_tolds, .ref a_tens, .int i_keptMany, .int i_place, .ref a_told, .ref a_ways, .ref a_nextWays, .ref a_tallies, .ref a_presses, .ref a_values, .ref a_nextValues])), (a_blowMany, .inl (X.2.1 0, 2, .inl f_blowMany)), (a_blows, .inl (X.2.1 0, 400, .inl f_blows)), (a_downs, .inl (X.2.1 0, 48, .inl f_downs)), (a_forwards, .inl (X.2.1 0, 48, .inl f_forwards)), (a_homes, .inl (X.2.1 0, 2, .inl f_homes)), (a_judgeMany, .inl (X.2.1 0, 2, .inl f_judgeMany)), (a_judges, .inl (X.2.1 0, 112, .inl f_judges)), (a_noises, .inl (X.2.1 0, 2, .inl f_noises)), (a_roundMany, .inl (X.2.1 0, 2, .inl f_roundMany)), (a_takens, .inl (X.2.1 0, 48, .inl f_takens))] o := by
  refine MI_ofH (cc := cX11_points) (maxL := 4) (rt := .int) (by decide) rfl (Nat.le_of_ble_eq_true rfl) ?_
  intro p e s m below meth c A Q H ls hx hb hml hts hown hA hD hG hP hS hl ret
  have hown : s.vm.findClass RX11 = some m.cls := hown
  have hD : aD A [a_this, a_blowMany, a_blows, a_downs, a_forwards, a_homes, a_judgeMany, a_judges, a_noises, a_roundMany, a_takens] := hD
  have hl : lv_has ls 4 [(0, .ref a_this), (1, .int x0), (2, .int x1), (3, .int x2)] := hl
  have w1 := hts (Cond.constantLong RX11 181 (2)) (List.mem_of_getElem? (i := 1) rfl)
  unfold mX11_points at hf
  refine lv_iload_n hx hb dX11_points_0 rfl (lv_at hl 1 rfl) ?_
  refine lv_i2l hx hb dX11_points_1 rfl ?_
  refine lv_lconst (v := (0 : Int64)) hx hb dX11_points_2 rfl ?_
  refine lv_ldc2 (v := (2 : Int64)) hx hb hown w1 dX11_points_3 ?_
  obtain ⟨o1, ho1, hf⟩ := ob_s hf
  refine xS_i (As := [.long (Int32.toInt64 x0), .long (0 : Int64), .long (2 : Int64)]) (rest := []) (ws2 := [(a_this, .inr (11, [.int i_length, .ref a_text, .ref a_roundMany, .ref a_blowMany, .ref a_blows, .ref a_forwards, .ref a_downs, .ref a_takens, .ref a_homes, .ref a_noises, .ref a_judgeMany, .ref a_judges, .ref a_delays, .ref a_tolds, .ref a_tens, .int i_keptMany, .int i_place, .ref a_told, .ref a_ways, .ref a_nextWays, .ref a_tallies, .ref a_presses, .ref a_values, .ref a_nextValues])), (a_blowMany, .inl (X.2.1 0, 2, .inl f_blowMany)), (a_blows, .inl (X.2.1 0, 400, .inl f_blows)), (a_downs, .inl (X.2.1 0, 48, .inl f_downs)), (a_forwards, .inl (X.2.1 0, 48, .inl f_forwards)), (a_homes, .inl (X.2.1 0, 2, .inl f_homes)), (a_judgeMany, .inl (X.2.1 0, 2, .inl f_judgeMany)), (a_judges, .inl (X.2.1 0, 112, .inl f_judges)), (a_noises, .inl (X.2.1 0, 2, .inl f_noises)), (a_roundMany, .inl (X.2.1 0, 2, .inl f_roundMany)), (a_takens, .inl (X.2.1 0, 48, .inl f_takens))]) hx hb hml hts hown hG hA hP hD rfl hS hl.1 (qX11_in l X (Int32.toInt64 x0) (0 : Int64) (2 : Int64) o1 ho1) (va_cwS (y := yX11_in) 3 hts gX11_points_X11_in rfl rfl rfl hdsX11_in ⟨Nat.le_of_ble_eq_true rfl, Nat.le_of_ble_eq_true rfl⟩) [] [0, 1, 2, 3, 4, 5, 6, 7, 8, 9, 10] [0, 1, 2, 3, 4, 5, 6, 7, 8, 9, 10] rfl rfl rfl rfl rfl rfl rfl rfl rfl (Nat.le_of_ble_eq_true rfl) ⟨Nat.le_of_ble_eq_true rfl, Nat.le_of_ble_eq_true rfl⟩ dX11_points_6 (fun H locs hP _ hS => ?_)
  refine lv_if_eq (tgt := 40) hx hb dX11_points_9 (by decide) (fun c3 => ?_) (fun c3 => ?_)
  · have hf := xt hf c3
    refine lv_iconst (v := (-1 : Int32)) hx hb dX11_points_40 (by decide) ?_
    obtain rfl := Option.some.inj hf
    exact ret H _ ls _ rfl hP hD hS dX11_points_41
  · have hf := xf hf c3
    refine lv_aload_n hx hb dX11_points_12 rfl (lv_at hl 0 rfl) ?_
    refine lv_iload_n hx hb dX11_points_13 rfl (lv_at hl 2 rfl) ?_
    obtain ⟨o4, ho4, hf⟩ := ob_s hf
    refine xV_i (As := [.int x1]) (b := a_this) (rest := []) (ws2 := [(a_this, .inr (11, [.int i_length, .ref a_text, .ref a_roundMany, .ref a_blowMany, .ref a_blows, .ref a_forwards, .ref a_downs, .ref a_takens, .ref a_homes, .ref a_noises, .ref a_judgeMany, .ref a_judges, .ref a_delays, .ref a_tolds, .ref a_tens, .int i_keptMany, .int i_place, .ref a_told, .ref a_ways, .ref a_nextWays, .ref a_tallies, .ref a_presses, .ref a_values, .ref a_nextValues])), (a_blowMany, .inl (X.2.1 0, 2, .inl f_blowMany)), (a_blows, .inl (X.2.1 0, 400, .inl f_blows)), (a_downs, .inl (X.2.1 0, 48, .inl f_downs)), (a_forwards, .inl (X.2.1 0, 48, .inl f_forwards)), (a_homes, .inl (X.2.1 0, 2, .inl f_homes)), (a_judgeMany, .inl (X.2.1 0, 2, .inl f_judgeMany)), (a_judges, .inl (X.2.1 0, 112, .inl f_judges)), (a_noises, .inl (X.2.1 0, 2, .inl f_noises)), (a_roundMany, .inl (X.2.1 0, 2, .inl f_roundMany)), (a_takens, .inl (X.2.1 0, 48, .inl f_takens))]) hx hb hml hts hown hG hA hP hD rfl hS hl.1 (qX11_isJudge l X a_this a_judgeMany a_text a_roundMany a_blowMany a_blows a_forwards a_downs a_takens a_homes a_noises a_judges a_delays a_tolds a_tens a_told a_ways a_nextWays a_tallies a_presses a_values a_nextValues i_length i_keptMany i_place f_judgeMany x1 o4 ho4) (cwV (y := yX11_isJudge) 1 hts gX11_points_X11_isJudge rfl rfl rfl hdvX11_isJudge ⟨Nat.le_of_ble_eq_true rfl, Nat.le_of_ble_eq_true rfl⟩) [0, 6] [1, 2, 3, 4, 5, 7, 8, 9, 10] [9, 0, 1, 2, 3, 4, 10, 5, 6, 7, 8] rfl rfl rfl rfl rfl rfl rfl (ci := 11) rfl 0 rfl rfl rfl (Nat.le_of_ble_eq_true rfl) ⟨Nat.le_of_ble_eq_true rfl, Nat.le_of_ble_eq_true rfl⟩ dX11_points_14 (fun H locs hP _ hS => ?_)
    refine lv_if_eq (tgt := 40) hx hb dX11_points_17 (by decide) (fun c6 => ?_) (fun c6 => ?_)
    · have hf := xt hf c6
      refine lv_iconst (v := (-1 : Int32)) hx hb dX11_points_40 (by decide) ?_
      obtain rfl := Option.some.inj hf
      exact ret H _ ls _ rfl hP hD hS dX11_points_41
    · have hf := xf hf c6
      refine lv_iload_n hx hb dX11_points_20 rfl (lv_at hl 3 rfl) ?_
      refine lv_i2l hx hb dX11_points_21 rfl ?_
      refine lv_lconst (v := (0 : Int64)) hx hb dX11_points_22 rfl ?_
      refine lv_lconst (v := (1 : Int64)) hx hb dX11_points_23 rfl ?_
      obtain ⟨o7, ho7, hf⟩ := ob_s hf
      refine xS_i (As := [.long (Int32.toInt64 x2), .long (0 : Int64), .long (1 : Int64)]) (rest := []) (ws2 := [(a_this, .inr (11, [.int i_length, .ref a_text, .ref a_roundMany, .ref a_blowMany, .ref a_blows, .ref a_forwards, .ref a_downs, .ref a_takens, .ref a_homes, .ref a_noises, .ref a_judgeMany, .ref a_judges, .ref a_delays, .ref a_tolds, .ref a_tens, .int i_keptMany, .int i_place, .ref a_told, .ref a_ways, .ref a_nextWays, .ref a_tallies, .ref a_presses, .ref a_values, .ref a_nextValues])), (a_blowMany, .inl (X.2.1 0, 2, .inl f_blowMany)), (a_blows, .inl (X.2.1 0, 400, .inl f_blows)), (a_downs, .inl (X.2.1 0, 48, .inl f_downs)), (a_forwards, .inl (X.2.1 0, 48, .inl f_forwards)), (a_homes, .inl (X.2.1 0, 2, .inl f_homes)), (a_judgeMany, .inl (X.2.1 0, 2, .inl f_judgeMany)), (a_judges, .inl (X.2.1 0, 112, .inl f_judges)), (a_noises, .inl (X.2.1 0, 2, .inl f_noises)), (a_roundMany, .inl (X.2.1 0, 2, .inl f_roundMany)), (a_takens, .inl (X.2.1 0, 48, .inl f_takens))]) hx hb hml hts hown hG hA hP hD rfl hS hl.1 (qX11_in l X (Int32.toInt64 x2) (0 : Int64) (1 : Int64) o7 ho7) (va_cwS (y := yX11_in) 3 hts gX11_points_X11_in rfl rfl rfl hdsX11_in ⟨Nat.le_of_ble_eq_true rfl, Nat.le_of_ble_eq_true rfl⟩) [] [0, 1, 2, 3, 4, 5, 6, 7, 8, 9, 10] [0, 1, 2, 3, 4, 5, 6, 7, 8, 9, 10] rfl rfl rfl rfl rfl rfl rfl rfl rfl (Nat.le_of_ble_eq_true rfl) ⟨Nat.le_of_ble_eq_true rfl, Nat.le_of_ble_eq_true rfl⟩ dX11_points_24 (fun H locs hP _ hS => ?_)
      refine lv_if_eq (tgt := 40) hx hb dX11_points_27 (by decide) (fun c9 => ?_) (fun c9 => ?_)
      · have hf := xt hf c9
        refine lv_iconst (v := (-1 : Int32)) hx hb dX11_points_40 (by decide) ?_
        obtain rfl := Option.some.inj hf
        exact ret H _ ls _ rfl hP hD hS dX11_points_41
      · have hf := xf hf c9
        refine lv_aload_n hx hb dX11_points_30 rfl (lv_at hl 0 rfl) ?_
        refine lv_iload_n hx hb dX11_points_31 rfl (lv_at hl 1 rfl) ?_
        refine lv_iload_n hx hb dX11_points_32 rfl (lv_at hl 2 rfl) ?_
        refine lv_iload_n hx hb dX11_points_33 rfl (lv_at hl 3 rfl) ?_
        obtain ⟨o10, ho10, hf⟩ := ob_s hf
        refine xV_i (As := [.int x0, .int x1, .int x2]) (b := a_this) (rest := []) (ws2 := [(a_this, .inr (11, [.int i_length, .ref a_text, .ref a_roundMany, .ref a_blowMany, .ref a_blows, .ref a_forwards, .ref a_downs, .ref a_takens, .ref a_homes, .ref a_noises, .ref a_judgeMany, .ref a_judges, .ref a_delays, .ref a_tolds, .ref a_tens, .int i_keptMany, .int i_place, .ref a_told, .ref a_ways, .ref a_nextWays, .ref a_tallies, .ref a_presses, .ref a_values, .ref a_nextValues])), (a_blowMany, .inl (X.2.1 0, 2, .inl f_blowMany)), (a_blows, .inl (X.2.1 0, 400, .inl f_blows)), (a_downs, .inl (X.2.1 0, 48, .inl f_downs)), (a_forwards, .inl (X.2.1 0, 48, .inl f_forwards)), (a_homes, .inl (X.2.1 0, 2, .inl f_homes)), (a_judgeMany, .inl (X.2.1 0, 2, .inl f_judgeMany)), (a_judges, .inl (X.2.1 0, 112, .inl f_judges)), (a_noises, .inl (X.2.1 0, 2, .inl f_noises)), (a_roundMany, .inl (X.2.1 0, 2, .inl f_roundMany)), (a_takens, .inl (X.2.1 0, 48, .inl f_takens))]) hx hb hml hts hown hG hA hP hD rfl hS hl.1 (qX11_pointsOf l X a_this a_blowMany a_blows a_downs a_forwards a_homes a_judges a_noises a_roundMany a_takens a_text a_judgeMany a_delays a_tolds a_tens a_told a_ways a_nextWays a_tallies a_presses a_values a_nextValues i_length i_keptMany i_place f_blowMany f_blows f_downs f_forwards f_homes f_judges f_noises f_roundMany f_takens x0 x1 x2 o10 ho10) (cwV (y := yX11_pointsOf) 3 hts gX11_points_X11_pointsOf rfl rfl rfl hdvX11_pointsOf ⟨Nat.le_of_ble_eq_true rfl, Nat.le_of_ble_eq_true rfl⟩) [0, 1, 2, 3, 4, 5, 7, 8, 9, 10] [6] [1, 2, 3, 4, 5, 6, 0, 7, 8, 9, 10] rfl rfl rfl rfl rfl rfl rfl (ci := 11) rfl 0 rfl rfl rfl (Nat.le_of_ble_eq_true rfl) ⟨Nat.le_of_ble_eq_true rfl, Nat.le_of_ble_eq_true rfl⟩ dX11_points_34 (fun H locs hP _ hS => ?_)
        refine lv_goto (tgt := 41) hx hb dX11_points_37 (by decide) ?_
        obtain rfl := Option.some.inj hf
        exact ret H _ ls _ rfl hP hD hS dX11_points_41
def mX11_areThree (x0 : Int32) (x1 : Int32) (x2 : Int32) (f_judgeMany : Nat → Int32) :
  Option (Int32) :=
  (mX11_isJudge x0 f_judgeMany).bind fun o1 =>
  if o1 = 0 then (some (0 : Int32)) else ((mX11_isJudge x1 f_judgeMany).bind fun o4 =>
  if o4 = 0 then (some (0 : Int32)) else ((mX11_isJudge x2 f_judgeMany).bind fun o7 =>
  if o7 = 0 then (some (0 : Int32)) else (if x0 = x1 then (some (0 : Int32)) else (if x0 = x2 then (some (0 : Int32)) else (if x1 = x2 then (some (0 : Int32)) else (some (1 : Int32)))))))
theorem hdsX11_areThree : yX11_areThree.cls ≠ "java/lang/invoke/MethodHandle" ∧ yX11_areThree.cls ≠ "java/lang/invoke/VarHandle" ∧ (parseMethodDescriptor yX11_areThree.desc).map (fun d => d.parameters.length) = some 3 := by decide +kernel
theorem hdvX11_areThree : yX11_areThree.cls = RX11 ∧ yX11_areThree.cls ≠ "java/lang/invoke/MethodHandle" ∧ yX11_areThree.cls ≠ "java/lang/invoke/VarHandle" ∧ (parseMethodDescriptor yX11_areThree.desc).map (fun d => d.parameters.length) = some 3 := by decide +kernel
abbrev rmX11_areThree : Room := { frames := 2, cells := 0, slots := 0, locals := 46 }
set_option maxHeartbeats 4000000 in
set_option maxRecDepth 100000 in
theorem qX11_areThree (l : Launch) (X : XT) (a_this : Nat) (a_judgeMany : Nat) (a_text : Nat) (a_roundMany : Nat) (a_blowMany : Nat) (a_blows : Nat) (a_forwards : Nat) (a_downs : Nat) (a_takens : Nat) (a_homes : Nat) (a_noises : Nat) (a_judges : Nat) (a_delays : Nat) (a_tolds : Nat) (a_tens : Nat) (a_told : Nat) (a_ways : Nat) (a_nextWays : Nat) (a_tallies : Nat) (a_presses : Nat) (a_values : Nat) (a_nextValues : Nat)  (i_length : Int32) (i_keptMany : Int32) (i_place : Int32) (f_judgeMany : Nat → Int32) (x0 : Int32) (x1 : Int32) (x2 : Int32) (o : Int32) (hf : mX11_areThree x0 x1 x2 f_judgeMany = some o) :
    MI l yX11_areThree wsX11_areThree rmX11_areThree X [.ref a_this, .int x0, .int x1, .int x2] [(a_this, .inr (11, [.int i_length, .ref a_text, .ref a_roundMany, .ref a_blowMany, .ref a_blows, .ref a_forwards, .ref a_downs, .ref a_takens, .ref a_homes, .ref a_noises, .ref a_judgeMany, .ref a_judges, .ref a_delays, .ref a_tolds, .ref a_tens, .int i_keptMany, .int i_place, .ref a_told, .ref a_ways, .ref a_nextWays, .ref a_tallies, .ref a_presses, .ref a_values, .ref a_nextValues])), (a_judgeMany, .inl (X.2.1 0, 2, .inl f_judgeMany))]  [(a_this, .inr (11, [.int i_length, .ref a_text, .ref a_roundMany, .ref a_blowMany, .ref a_blows, .ref a_forwards, .ref a_downs, .ref a_takens, .ref a_homes, .ref a_noises, .ref a_judgeMany, .ref a_judges, .ref a_delays, .ref a_tolds, .ref a_tens, .int i_keptMany, .int i_place, .ref a_told, .ref a_ways, .ref a_nextWays, .ref a_tallies, .ref a_presses, .ref a_values, .ref a_nextValues])), (a_judgeMany, .inl (X.2.1 0, 2, .inl f_judgeMany))] o := by
  refine MI_ofH (cc := cX11_areThree) (maxL := 4) (rt := .boolean) (by decide) rfl (Nat.le_of_ble_eq_true rfl) ?_
  intro p e s m below meth c A Q H ls hx hb hml hts hown hA hD hG hP hS hl ret
  have hown : s.vm.findClass RX11 = some m.cls := hown
  have hD : aD A [a_this, a_judgeMany] := hD
  have hl : lv_has ls 4 [(0, .ref a_this), (1, .int x0), (2, .int x1), (3, .int x2)] := hl
  unfold mX11_areThree at hf
  refine lv_aload_n hx hb dX11_areThree_0 rfl (lv_at hl 0 rfl) ?_
  refine lv_iload_n hx hb dX11_areThree_1 rfl (lv_at hl 1 rfl) ?_
  obtain ⟨o1, ho1, hf⟩ := ob_s hf
  refine xV_i (As := [.int x0]) (b := a_this) (rest := []) (ws2 := [(a_this, .inr (11, [.int i_length, .ref a_text, .ref a_roundMany, .ref a_blowMany, .ref a_blows, .ref a_forwards, .ref a_downs, .ref a_takens, .ref a_homes, .ref a_noises, .ref a_judgeMany, .ref a_judges, .ref a_delays, .ref a_tolds, .ref a_tens, .int i_keptMany, .int i_place, .ref a_told, .ref a_ways, .ref a_nextWays, .ref a_tallies, .ref a_presses, .ref a_values, .ref a_nextValues])), (a_judgeMany, .inl (X.2.1 0, 2, .inl f_judgeMany))]) hx hb hml hts hown hG hA hP hD rfl hS hl.1 (qX11_isJudge l X a_this a_judgeMany a_text a_roundMany a_blowMany a_blows a_forwards a_downs a_takens a_homes a_noises a_judges a_delays a_tolds a_tens a_told a_ways a_nextWays a_tallies a_presses a_values a_nextValues i_length i_keptMany i_place f_judgeMany x0 o1 ho1) (cwV (y := yX11_isJudge) 1 hts gX11_areThree_X11_isJudge rfl rfl rfl hdvX11_isJudge ⟨Nat.le_of_ble_eq_true rfl, Nat.le_of_ble_eq_true rfl⟩) [0, 1] [] [0, 1] rfl rfl rfl rfl rfl rfl rfl (ci := 11) rfl 0 rfl rfl rfl (Nat.le_of_ble_eq_true rfl) ⟨Nat.le_of_ble_eq_true rfl, Nat.le_of_ble_eq_true rfl⟩ dX11_areThree_2 (fun H locs hP _ hS => ?_)
  refine lv_if_eq (tgt := 43) hx hb dX11_areThree_5 (by decide) (fun c3 => ?_) (fun c3 => ?_)
  · have hf := xt hf c3
    refine lv_iconst (v := (0 : Int32)) hx hb dX11_areThree_43 (by decide) ?_
    obtain rfl := Option.some.inj hf
    exact ret H _ ls _ (show narrow .boolean (.int (0 : Int32)) = .int (0 : Int32) from rfl) hP hD hS dX11_areThree_44
  · have hf := xf hf c3
    refine lv_aload_n hx hb dX11_areThree_8 rfl (lv_at hl 0 rfl) ?_
    refine lv_iload_n hx hb dX11_areThree_9 rfl (lv_at hl 2 rfl) ?_
    obtain ⟨o4, ho4, hf⟩ := ob_s hf
    refine xV_i (As := [.int x1]) (b := a_this) (rest := []) (ws2 := [(a_this, .inr (11, [.int i_length, .ref a_text, .ref a_roundMany, .ref a_blowMany, .ref a_blows, .ref a_forwards, .ref a_downs, .ref a_takens, .ref a_homes, .ref a_noises, .ref a_judgeMany, .ref a_judges, .ref a_delays, .ref a_tolds, .ref a_tens, .int i_keptMany, .int i_place, .ref a_told, .ref a_ways, .ref a_nextWays, .ref a_tallies, .ref a_presses, .ref a_values, .ref a_nextValues])), (a_judgeMany, .inl (X.2.1 0, 2, .inl f_judgeMany))]) hx hb hml hts hown hG hA hP hD rfl hS hl.1 (qX11_isJudge l X a_this a_judgeMany a_text a_roundMany a_blowMany a_blows a_forwards a_downs a_takens a_homes a_noises a_judges a_delays a_tolds a_tens a_told a_ways a_nextWays a_tallies a_presses a_values a_nextValues i_length i_keptMany i_place f_judgeMany x1 o4 ho4) (cwV (y := yX11_isJudge) 1 hts gX11_areThree_X11_isJudge rfl rfl rfl hdvX11_isJudge ⟨Nat.le_of_ble_eq_true rfl, Nat.le_of_ble_eq_true rfl⟩) [0, 1] [] [0, 1] rfl rfl rfl rfl rfl rfl rfl (ci := 11) rfl 0 rfl rfl rfl (Nat.le_of_ble_eq_true rfl) ⟨Nat.le_of_ble_eq_true rfl, Nat.le_of_ble_eq_true rfl⟩ dX11_areThree_10 (fun H locs hP _ hS => ?_)
    refine lv_if_eq (tgt := 43) hx hb dX11_areThree_13 (by decide) (fun c6 => ?_) (fun c6 => ?_)
    · have hf := xt hf c6
      refine lv_iconst (v := (0 : Int32)) hx hb dX11_areThree_43 (by decide) ?_
      obtain rfl := Option.some.inj hf
      exact ret H _ ls _ (show narrow .boolean (.int (0 : Int32)) = .int (0 : Int32) from rfl) hP hD hS dX11_areThree_44
    · have hf := xf hf c6
      refine lv_aload_n hx hb dX11_areThree_16 rfl (lv_at hl 0 rfl) ?_
      refine lv_iload_n hx hb dX11_areThree_17 rfl (lv_at hl 3 rfl) ?_
      obtain ⟨o7, ho7, hf⟩ := ob_s hf
      refine xV_i (As := [.int x2]) (b := a_this) (rest := []) (ws2 := [(a_this, .inr (11, [.int i_length, .ref a_text, .ref a_roundMany, .ref a_blowMany, .ref a_blows, .ref a_forwards, .ref a_downs, .ref a_takens, .ref a_homes, .ref a_noises, .ref a_judgeMany, .ref a_judges, .ref a_delays, .ref a_tolds, .ref a_tens, .int i_keptMany, .int i_place, .ref a_told, .ref a_ways, .ref a_nextWays, .ref a_tallies, .ref a_presses, .ref a_values, .ref a_nextValues])), (a_judgeMany, .inl (X.2.1 0, 2, .inl f_judgeMany))]) hx hb hml hts hown hG hA hP hD rfl hS hl.1 (qX11_isJudge l X a_this a_judgeMany a_text a_roundMany a_blowMany a_blows a_forwards a_downs a_takens a_homes a_noises a_judges a_delays a_tolds a_tens a_told a_ways a_nextWays a_tallies a_presses a_values a_nextValues i_length i_keptMany i_place f_judgeMany x2 o7 ho7) (cwV (y := yX11_isJudge) 1 hts gX11_areThree_X11_isJudge rfl rfl rfl hdvX11_isJudge ⟨Nat.le_of_ble_eq_true rfl, Nat.le_of_ble_eq_true rfl⟩) [0, 1] [] [0, 1] rfl rfl rfl rfl rfl rfl rfl (ci := 11) rfl 0 rfl rfl rfl (Nat.le_of_ble_eq_true rfl) ⟨Nat.le_of_ble_eq_true rfl, Nat.le_of_ble_eq_true rfl⟩ dX11_areThree_18 (fun H locs hP _ hS => ?_)
      refine lv_if_eq (tgt := 43) hx hb dX11_areThree_21 (by decide) (fun c9 => ?_) (fun c9 => ?_)
      · have hf := xt hf c9
        refine lv_iconst (v := (0 : Int32)) hx hb dX11_areThree_43 (by decide) ?_
        obtain rfl := Option.some.inj hf
        exact ret H _ ls _ (show narrow .boolean (.int (0 : Int32)) = .int (0 : Int32) from rfl) hP hD hS dX11_areThree_44
      · have hf := xf hf c9
        refine lv_iload_n hx hb dX11_areThree_24 rfl (lv_at hl 1 rfl) ?_
        refine lv_iload_n hx hb dX11_areThree_25 rfl (lv_at hl 2 rfl) ?_
        refine lv_icmp_eq (tgt := 43) hx hb dX11_areThree_26 (by decide) (fun c10 => ?_) (fun c10 => ?_)
        · have hf := xt hf c10
          refine lv_iconst (v := (0 : Int32)) hx hb dX11_areThree_43 (by decide) ?_
          obtain rfl := Option.some.inj hf
          exact ret H _ ls _ (show narrow .boolean (.int (0 : Int32)) = .int (0 : Int32) from rfl) hP hD hS dX11_areThree_44
        · have hf := xf hf c10
          refine lv_iload_n hx hb dX11_areThree_29 rfl (lv_at hl 1 rfl) ?_
          refine lv_iload_n hx hb dX11_areThree_30 rfl (lv_at hl 3 rfl) ?_
          refine lv_icmp_eq (tgt := 43) hx hb dX11_areThree_31 (by decide) (fun c11 => ?_) (fun c11 => ?_)
          · have hf := xt hf c11
            refine lv_iconst (v := (0 : Int32)) hx hb dX11_areThree_43 (by decide) ?_
            obtain rfl := Option.some.inj hf
            exact ret H _ ls _ (show narrow .boolean (.int (0 : Int32)) = .int (0 : Int32) from rfl) hP hD hS dX11_areThree_44
          · have hf := xf hf c11
            refine lv_iload_n hx hb dX11_areThree_34 rfl (lv_at hl 2 rfl) ?_
            refine lv_iload_n hx hb dX11_areThree_35 rfl (lv_at hl 3 rfl) ?_
            refine lv_icmp_eq (tgt := 43) hx hb dX11_areThree_36 (by decide) (fun c12 => ?_) (fun c12 => ?_)
            · have hf := xt hf c12
              refine lv_iconst (v := (0 : Int32)) hx hb dX11_areThree_43 (by decide) ?_
              obtain rfl := Option.some.inj hf
              exact ret H _ ls _ (show narrow .boolean (.int (0 : Int32)) = .int (0 : Int32) from rfl) hP hD hS dX11_areThree_44
            · have hf := xf hf c12
              refine lv_iconst (v := (1 : Int32)) hx hb dX11_areThree_39 (by decide) ?_
              refine lv_goto (tgt := 44) hx hb dX11_areThree_40 (by decide) ?_
              obtain rfl := Option.some.inj hf
              exact ret H _ ls _ (show narrow .boolean (.int (1 : Int32)) = .int (1 : Int32) from rfl) hP hD hS dX11_areThree_44
def mX11_sign (x0 : Int32) :
  Option (Int32) :=
  if x0 ≤ 0 then (if 0 ≤ x0 then (some (0 : Int32)) else (some (-1 : Int32))) else (some (1 : Int32))
theorem hdsX11_sign : yX11_sign.cls ≠ "java/lang/invoke/MethodHandle" ∧ yX11_sign.cls ≠ "java/lang/invoke/VarHandle" ∧ (parseMethodDescriptor yX11_sign.desc).map (fun d => d.parameters.length) = some 1 := by decide +kernel
abbrev rmX11_sign : Room := { frames := 0, cells := 0, slots := 0, locals := 0 }
set_option maxHeartbeats 4000000 in
set_option maxRecDepth 100000 in
theorem qX11_sign (l : Launch) (X : XT)    (x0 : Int32) (o : Int32) (hf : mX11_sign x0 = some o) :
    MI l yX11_sign wsX11_sign rmX11_sign X [.int x0] []  [] o := by
  refine MI_ofH (cc := cX11_sign) (maxL := 1) (rt := .int) (by decide) rfl (Nat.le_of_ble_eq_true rfl) ?_
  intro p e s m below meth c A Q H ls hx hb hml hts hown hA hD hG hP hS hl ret
  have hown : s.vm.findClass RX11 = some m.cls := hown
  have hD : aD A [] := hD
  have hl : lv_has ls 1 [(0, .int x0)] := hl
  unfold mX11_sign at hf
  refine lv_iload_n hx hb dX11_sign_0 rfl (lv_at hl 0 rfl) ?_
  refine lv_if_le (tgt := 8) hx hb dX11_sign_1 (by decide) (fun c1 => ?_) (fun c1 => ?_)
  · have hf := xt hf c1
    refine lv_iload_n hx hb dX11_sign_8 rfl (lv_at hl 0 rfl) ?_
    refine lv_if_ge (tgt := 16) hx hb dX11_sign_9 (by decide) (fun c2 => ?_) (fun c2 => ?_)
    · have hf := xt hf c2
      refine lv_iconst (v := (0 : Int32)) hx hb dX11_sign_16 (by decide) ?_
      obtain rfl := Option.some.inj hf
      exact ret H _ ls _ rfl hP hD hS dX11_sign_17
    · have hf := xf hf c2
      refine lv_iconst (v := (-1 : Int32)) hx hb dX11_sign_12 (by decide) ?_
      refine lv_goto (tgt := 17) hx hb dX11_sign_13 (by decide) ?_
      obtain rfl := Option.some.inj hf
      exact ret H _ ls _ rfl hP hD hS dX11_sign_17
  · have hf := xf hf c1
    refine lv_iconst (v := (1 : Int32)) hx hb dX11_sign_4 (by decide) ?_
    refine lv_goto (tgt := 17) hx hb dX11_sign_5 (by decide) ?_
    obtain rfl := Option.some.inj hf
    exact ret H _ ls _ rfl hP hD hS dX11_sign_17
def mX11_whoBy_B58 (x0 : Int32) (x1 : Int32) (x2 : Int32) (l3 : Int32) (s0 : Int32) (s1 : Int32) :
  Option (Int32) :=
  lb (s0 + s1) fun v8 =>
  if l3 ≤ (1 : Int32) then (if v8 ≤ (1 : Int32) then (some (2 : Int32)) else (some (1 : Int32))) else (some (0 : Int32))
def mX11_whoBy_B48 (x0 : Int32) (x1 : Int32) (x2 : Int32) (l3 : Int32) (s0 : Int32) (s1 : Int32) :
  Option (Int32) :=
  if 0 ≤ x2 then (mX11_whoBy_B58 x0 x1 x2  l3 (s0 + s1) (0 : Int32)) else (mX11_whoBy_B58 x0 x1 x2  l3 (s0 + s1) (1 : Int32))
def mX11_whoBy_B39 (x0 : Int32) (x1 : Int32) (x2 : Int32) (l3 : Int32) (s0 : Int32) :
  Option (Int32) :=
  if 0 ≤ x1 then (mX11_whoBy_B48 x0 x1 x2  l3 s0 (0 : Int32)) else (mX11_whoBy_B48 x0 x1 x2  l3 s0 (1 : Int32))
def mX11_whoBy_B28 (x0 : Int32) (x1 : Int32) (x2 : Int32) (s0 : Int32) (s1 : Int32) :
  Option (Int32) :=
  lb (s0 + s1) fun v4 =>
  if 0 ≤ x0 then (mX11_whoBy_B39 x0 x1 x2  v4 (0 : Int32)) else (mX11_whoBy_B39 x0 x1 x2  v4 (1 : Int32))
def mX11_whoBy_B18 (x0 : Int32) (x1 : Int32) (x2 : Int32) (s0 : Int32) (s1 : Int32) :
  Option (Int32) :=
  if x2 ≤ 0 then (mX11_whoBy_B28 x0 x1 x2  (s0 + s1) (0 : Int32)) else (mX11_whoBy_B28 x0 x1 x2  (s0 + s1) (1 : Int32))
def mX11_whoBy_B9 (x0 : Int32) (x1 : Int32) (x2 : Int32) (s0 : Int32) :
  Option (Int32) :=
  if x1 ≤ 0 then (mX11_whoBy_B18 x0 x1 x2  s0 (0 : Int32)) else (mX11_whoBy_B18 x0 x1 x2  s0 (1 : Int32))
def mX11_whoBy (x0 : Int32) (x1 : Int32) (x2 : Int32) :
  Option (Int32) :=
  if x0 ≤ 0 then (mX11_whoBy_B9 x0 x1 x2  (0 : Int32)) else (mX11_whoBy_B9 x0 x1 x2  (1 : Int32))
theorem hdsX11_whoBy : yX11_whoBy.cls ≠ "java/lang/invoke/MethodHandle" ∧ yX11_whoBy.cls ≠ "java/lang/invoke/VarHandle" ∧ (parseMethodDescriptor yX11_whoBy.desc).map (fun d => d.parameters.length) = some 3 := by decide +kernel
abbrev rmX11_whoBy : Room := { frames := 0, cells := 0, slots := 0, locals := 0 }
set_option maxHeartbeats 4000000 in
set_option maxRecDepth 100000 in
theorem qX11_whoBy (l : Launch) (X : XT)    (x0 : Int32) (x1 : Int32) (x2 : Int32) (o : Int32) (hf : mX11_whoBy x0 x1 x2 = some o) :
    MI l yX11_whoBy wsX11_whoBy rmX11_whoBy X [.int x0, .int x1, .int x2] []  [] o := by
  refine MI_ofH (cc := cX11_whoBy) (maxL := 5) (rt := .int) (by decide) rfl (Nat.le_of_ble_eq_true rfl) ?_
  intro p e s m below meth c A Q H ls hx hb hml hts hown hA hD hG hP hS hl ret
  have hown : s.vm.findClass RX11 = some m.cls := hown
  have hD : aD A [] := hD
  have hl : lv_has ls 5 [(0, .int x0), (1, .int x1), (2, .int x2)] := hl
  have hB58 : ∀ (l3 : Int32) (s0 : Int32) (s1 : Int32)  (H : Heap) (locs : List Loc) (ls : Array Slot), va_P X.1 vwCl [] H → va_S A s.heap H locs → lv_has ls 5 [(3, .int l3)] → mX11_whoBy_B58 x0 x1 x2  l3 s0 s1 = some o → W p l e rmX11_whoBy s m ([.int x0, .int x1, .int x2] : List Value).toArray below meth c H locs 0 0 Q (F0 m 58 ls [.int s1, .int s0]) := by
    intro l3 s0 s1  H locs ls hP hS hl hf
    unfold mX11_whoBy_B58 at hf
    refine lv_iadd hx hb dX11_whoBy_58 ?_
    refine lv_topi (fun v8 ev8 => ?_)
    have hf := lb_s hf ev8
    refine lv_istore (lv' := [(4, .int v8), (3, .int l3)]) hx hb dX11_whoBy_59 hl (by decide) rfl (fun ls hl => ?_)
    refine lv_iload_n hx hb dX11_whoBy_61 rfl (lv_at hl 1 rfl) ?_
    refine lv_iconst (v := (1 : Int32)) hx hb dX11_whoBy_62 (by decide) ?_
    refine lv_icmp_le (tgt := 70) hx hb dX11_whoBy_63 (by decide) (fun c9 => ?_) (fun c9 => ?_)
    · have hf := xt hf c9
      refine lv_iload hx hb dX11_whoBy_70 (lv_at hl 0 rfl) ?_
      refine lv_iconst (v := (1 : Int32)) hx hb dX11_whoBy_72 (by decide) ?_
      refine lv_icmp_le (tgt := 80) hx hb dX11_whoBy_73 (by decide) (fun c10 => ?_) (fun c10 => ?_)
      · have hf := xt hf c10
        refine lv_iconst (v := (2 : Int32)) hx hb dX11_whoBy_80 (by decide) ?_
        obtain rfl := Option.some.inj hf
        exact ret H _ ls _ rfl hP hD hS dX11_whoBy_81
      · have hf := xf hf c10
        refine lv_iconst (v := (1 : Int32)) hx hb dX11_whoBy_76 (by decide) ?_
        refine lv_goto (tgt := 81) hx hb dX11_whoBy_77 (by decide) ?_
        obtain rfl := Option.some.inj hf
        exact ret H _ ls _ rfl hP hD hS dX11_whoBy_81
    · have hf := xf hf c9
      refine lv_iconst (v := (0 : Int32)) hx hb dX11_whoBy_66 (by decide) ?_
      refine lv_goto (tgt := 81) hx hb dX11_whoBy_67 (by decide) ?_
      obtain rfl := Option.some.inj hf
      exact ret H _ ls _ rfl hP hD hS dX11_whoBy_81
  have hB48 : ∀ (l3 : Int32) (s0 : Int32) (s1 : Int32)  (H : Heap) (locs : List Loc) (ls : Array Slot), va_P X.1 vwCl [] H → va_S A s.heap H locs → lv_has ls 5 [(2, .int x2), (3, .int l3)] → mX11_whoBy_B48 x0 x1 x2  l3 s0 s1 = some o → W p l e rmX11_whoBy s m ([.int x0, .int x1, .int x2] : List Value).toArray below meth c H locs 0 0 Q (F0 m 48 ls [.int s1, .int s0]) := by
    intro l3 s0 s1  H locs ls hP hS hl hf
    unfold mX11_whoBy_B48 at hf
    refine lv_iadd hx hb dX11_whoBy_48 ?_
    refine lv_iload_n hx hb dX11_whoBy_49 rfl (lv_at hl 0 rfl) ?_
    refine lv_if_ge (tgt := 57) hx hb dX11_whoBy_50 (by decide) (fun c7 => ?_) (fun c7 => ?_)
    · have hf := xt hf c7
      refine lv_iconst (v := (0 : Int32)) hx hb dX11_whoBy_57 (by decide) ?_
      exact hB58  l3 (s0 + s1) (0 : Int32)  H _ ls hP  hS (lv_sub hl [1] rfl) hf
    · have hf := xf hf c7
      refine lv_iconst (v := (1 : Int32)) hx hb dX11_whoBy_53 (by decide) ?_
      refine lv_goto (tgt := 58) hx hb dX11_whoBy_54 (by decide) ?_
      exact hB58  l3 (s0 + s1) (1 : Int32)  H _ ls hP  hS (lv_sub hl [1] rfl) hf
  have hB39 : ∀ (l3 : Int32) (s0 : Int32)  (H : Heap) (locs : List Loc) (ls : Array Slot), va_P X.1 vwCl [] H → va_S A s.heap H locs → lv_has ls 5 [(1, .int x1), (2, .int x2), (3, .int l3)] → mX11_whoBy_B39 x0 x1 x2  l3 s0 = some o → W p l e rmX11_whoBy s m ([.int x0, .int x1, .int x2] : List Value).toArray below meth c H locs 0 0 Q (F0 m 39 ls [.int s0]) := by
    intro l3 s0  H locs ls hP hS hl hf
    unfold mX11_whoBy_B39 at hf
    refine lv_iload_n hx hb dX11_whoBy_39 rfl (lv_at hl 0 rfl) ?_
    refine lv_if_ge (tgt := 47) hx hb dX11_whoBy_40 (by decide) (fun c6 => ?_) (fun c6 => ?_)
    · have hf := xt hf c6
      refine lv_iconst (v := (0 : Int32)) hx hb dX11_whoBy_47 (by decide) ?_
      exact hB48  l3 s0 (0 : Int32)  H _ ls hP  hS (lv_sub hl [1, 2] rfl) hf
    · have hf := xf hf c6
      refine lv_iconst (v := (1 : Int32)) hx hb dX11_whoBy_43 (by decide) ?_
      refine lv_goto (tgt := 48) hx hb dX11_whoBy_44 (by decide) ?_
      exact hB48  l3 s0 (1 : Int32)  H _ ls hP  hS (lv_sub hl [1, 2] rfl) hf
  have hB28 : ∀ (s0 : Int32) (s1 : Int32)  (H : Heap) (locs : List Loc) (ls : Array Slot), va_P X.1 vwCl [] H → va_S A s.heap H locs → lv_has ls 5 [(0, .int x0), (1, .int x1), (2, .int x2)] → mX11_whoBy_B28 x0 x1 x2  s0 s1 = some o → W p l e rmX11_whoBy s m ([.int x0, .int x1, .int x2] : List Value).toArray below meth c H locs 0 0 Q (F0 m 28 ls [.int s1, .int s0]) := by
    intro s0 s1  H locs ls hP hS hl hf
    unfold mX11_whoBy_B28 at hf
    refine lv_iadd hx hb dX11_whoBy_28 ?_
    refine lv_topi (fun v4 ev4 => ?_)
    have hf := lb_s hf ev4
    refine lv_istore_n (lv' := [(3, .int v4), (0, .int x0), (1, .int x1), (2, .int x2)]) hx hb dX11_whoBy_29 rfl hl (by decide) rfl (fun ls hl => ?_)
    refine lv_iload_n hx hb dX11_whoBy_30 rfl (lv_at hl 1 rfl) ?_
    refine lv_if_ge (tgt := 38) hx hb dX11_whoBy_31 (by decide) (fun c5 => ?_) (fun c5 => ?_)
    · have hf := xt hf c5
      refine lv_iconst (v := (0 : Int32)) hx hb dX11_whoBy_38 (by decide) ?_
      exact hB39  v4 (0 : Int32)  H _ ls hP  hS (lv_sub hl [2, 3, 0] rfl) hf
    · have hf := xf hf c5
      refine lv_iconst (v := (1 : Int32)) hx hb dX11_whoBy_34 (by decide) ?_
      refine lv_goto (tgt := 39) hx hb dX11_whoBy_35 (by decide) ?_
      exact hB39  v4 (1 : Int32)  H _ ls hP  hS (lv_sub hl [2, 3, 0] rfl) hf
  have hB18 : ∀ (s0 : Int32) (s1 : Int32)  (H : Heap) (locs : List Loc) (ls : Array Slot), va_P X.1 vwCl [] H → va_S A s.heap H locs → lv_has ls 5 [(0, .int x0), (1, .int x1), (2, .int x2)] → mX11_whoBy_B18 x0 x1 x2  s0 s1 = some o → W p l e rmX11_whoBy s m ([.int x0, .int x1, .int x2] : List Value).toArray below meth c H locs 0 0 Q (F0 m 18 ls [.int s1, .int s0]) := by
    intro s0 s1  H locs ls hP hS hl hf
    unfold mX11_whoBy_B18 at hf
    refine lv_iadd hx hb dX11_whoBy_18 ?_
    refine lv_iload_n hx hb dX11_whoBy_19 rfl (lv_at hl 2 rfl) ?_
    refine lv_if_le (tgt := 27) hx hb dX11_whoBy_20 (by decide) (fun c3 => ?_) (fun c3 => ?_)
    · have hf := xt hf c3
      refine lv_iconst (v := (0 : Int32)) hx hb dX11_whoBy_27 (by decide) ?_
      exact hB28  (s0 + s1) (0 : Int32)  H _ ls hP  hS (lv_sub hl [0, 1, 2] rfl) hf
    · have hf := xf hf c3
      refine lv_iconst (v := (1 : Int32)) hx hb dX11_whoBy_23 (by decide) ?_
      refine lv_goto (tgt := 28) hx hb dX11_whoBy_24 (by decide) ?_
      exact hB28  (s0 + s1) (1 : Int32)  H _ ls hP  hS (lv_sub hl [0, 1, 2] rfl) hf
  have hB9 : ∀ (s0 : Int32)  (H : Heap) (locs : List Loc) (ls : Array Slot), va_P X.1 vwCl [] H → va_S A s.heap H locs → lv_has ls 5 [(0, .int x0), (1, .int x1), (2, .int x2)] → mX11_whoBy_B9 x0 x1 x2  s0 = some o → W p l e rmX11_whoBy s m ([.int x0, .int x1, .int x2] : List Value).toArray below meth c H locs 0 0 Q (F0 m 9 ls [.int s0]) := by
    intro s0  H locs ls hP hS hl hf
    unfold mX11_whoBy_B9 at hf
    refine lv_iload_n hx hb dX11_whoBy_9 rfl (lv_at hl 1 rfl) ?_
    refine lv_if_le (tgt := 17) hx hb dX11_whoBy_10 (by decide) (fun c2 => ?_) (fun c2 => ?_)
    · have hf := xt hf c2
      refine lv_iconst (v := (0 : Int32)) hx hb dX11_whoBy_17 (by decide) ?_
      exact hB18  s0 (0 : Int32)  H _ ls hP  hS (lv_sub hl [0, 1, 2] rfl) hf
    · have hf := xf hf c2
      refine lv_iconst (v := (1 : Int32)) hx hb dX11_whoBy_13 (by decide) ?_
      refine lv_goto (tgt := 18) hx hb dX11_whoBy_14 (by decide) ?_
      exact hB18  s0 (1 : Int32)  H _ ls hP  hS (lv_sub hl [0, 1, 2] rfl) hf
  unfold mX11_whoBy at hf
  refine lv_iload_n hx hb dX11_whoBy_0 rfl (lv_at hl 0 rfl) ?_
  refine lv_if_le (tgt := 8) hx hb dX11_whoBy_1 (by decide) (fun c1 => ?_) (fun c1 => ?_)
  · have hf := xt hf c1
    refine lv_iconst (v := (0 : Int32)) hx hb dX11_whoBy_8 (by decide) ?_
    exact hB9  (0 : Int32)  H _ ls hP  hS (lv_sub hl [0, 1, 2] rfl) hf
  · have hf := xf hf c1
    refine lv_iconst (v := (1 : Int32)) hx hb dX11_whoBy_4 (by decide) ?_
    refine lv_goto (tgt := 9) hx hb dX11_whoBy_5 (by decide) ?_
    exact hB9  (1 : Int32)  H _ ls hP  hS (lv_sub hl [0, 1, 2] rfl) hf
def mX11_kindBy_B68 (x0 : Int32) (x1 : Int32) (x2 : Int32) (l3 : Int32) (l4 : Int32) :
  Option (Int32) :=
  if l3 = (2 : Int32) then (some (3 : Int32)) else (if l4 = (1 : Int32) then (some (1 : Int32)) else (some (2 : Int32)))
def mX11_kindBy_B35 (x0 : Int32) (x1 : Int32) (x2 : Int32) (l3 : Int32) (s0 : Int32) (s1 : Int32) :
  Option (Int32) :=
  lb (s0 + s1) fun v6 =>
  if v6 = (3 : Int32) then (some (0 : Int32)) else ((mX11_sign x0).bind fun o8 =>
  (mX11_sign x1).bind fun o10 =>
  if o8 = o10 then ((mX11_sign x1).bind fun o13 =>
  (mX11_sign x2).bind fun o15 =>
  if o13 = o15 then (some (0 : Int32)) else (mX11_kindBy_B68 x0 x1 x2  l3 v6)) else (mX11_kindBy_B68 x0 x1 x2  l3 v6))
def mX11_kindBy_B25 (x0 : Int32) (x1 : Int32) (x2 : Int32) (l3 : Int32) (s0 : Int32) (s1 : Int32) :
  Option (Int32) :=
  if x2 = 0 then (mX11_kindBy_B35 x0 x1 x2  l3 (s0 + s1) (1 : Int32)) else (mX11_kindBy_B35 x0 x1 x2  l3 (s0 + s1) (0 : Int32))
def mX11_kindBy_B16 (x0 : Int32) (x1 : Int32) (x2 : Int32) (l3 : Int32) (s0 : Int32) :
  Option (Int32) :=
  if x1 = 0 then (mX11_kindBy_B25 x0 x1 x2  l3 s0 (1 : Int32)) else (mX11_kindBy_B25 x0 x1 x2  l3 s0 (0 : Int32))
def mX11_kindBy (x0 : Int32) (x1 : Int32) (x2 : Int32) :
  Option (Int32) :=
  (mX11_whoBy x0 x1 x2).bind fun o1 =>
  if x0 = 0 then (mX11_kindBy_B16 x0 x1 x2  o1 (1 : Int32)) else (mX11_kindBy_B16 x0 x1 x2  o1 (0 : Int32))
theorem hdsX11_kindBy : yX11_kindBy.cls ≠ "java/lang/invoke/MethodHandle" ∧ yX11_kindBy.cls ≠ "java/lang/invoke/VarHandle" ∧ (parseMethodDescriptor yX11_kindBy.desc).map (fun d => d.parameters.length) = some 3 := by decide +kernel
abbrev rmX11_kindBy : Room := { frames := 1, cells := 0, slots := 0, locals := 24 }
set_option maxHeartbeats 4000000 in
set_option maxRecDepth 100000 in
theorem qX11_kindBy (l : Launch) (X : XT)    (x0 : Int32) (x1 : Int32) (x2 : Int32) (o : Int32) (hf : mX11_kindBy x0 x1 x2 = some o) :
    MI l yX11_kindBy wsX11_kindBy rmX11_kindBy X [.int x0, .int x1, .int x2] []  [] o := by
  refine MI_ofH (cc := cX11_kindBy) (maxL := 5) (rt := .int) (by decide) rfl (Nat.le_of_ble_eq_true rfl) ?_
  intro p e s m below meth c A Q H ls hx hb hml hts hown hA hD hG hP hS hl ret
  have hown : s.vm.findClass RX11 = some m.cls := hown
  have hD : aD A [] := hD
  have hl : lv_has ls 5 [(0, .int x0), (1, .int x1), (2, .int x2)] := hl
  have hB68 : ∀ (l3 : Int32) (l4 : Int32)  (H : Heap) (locs : List Loc) (ls : Array Slot), va_P X.1 vwCl [] H → va_S A s.heap H locs → lv_has ls 5 [(3, .int l3), (4, .int l4)] → mX11_kindBy_B68 x0 x1 x2  l3 l4 = some o → W p l e rmX11_kindBy s m ([.int x0, .int x1, .int x2] : List Value).toArray below meth c H locs 0 0 Q (F0 m 68 ls []) := by
    intro l3 l4  H locs ls hP hS hl hf
    unfold mX11_kindBy_B68 at hf
    refine lv_iload_n hx hb dX11_kindBy_68 rfl (lv_at hl 0 rfl) ?_
    refine lv_iconst (v := (2 : Int32)) hx hb dX11_kindBy_69 (by decide) ?_
    refine lv_icmp_ne (tgt := 77) hx hb dX11_kindBy_70 (by decide) (fun c18 => ?_) (fun c18 => ?_)
    · have hf := xf hf c18
      refine lv_iload hx hb dX11_kindBy_77 (lv_at hl 1 rfl) ?_
      refine lv_iconst (v := (1 : Int32)) hx hb dX11_kindBy_79 (by decide) ?_
      refine lv_icmp_ne (tgt := 87) hx hb dX11_kindBy_80 (by decide) (fun c19 => ?_) (fun c19 => ?_)
      · have hf := xf hf c19
        refine lv_iconst (v := (2 : Int32)) hx hb dX11_kindBy_87 (by decide) ?_
        obtain rfl := Option.some.inj hf
        exact ret H _ ls _ rfl hP hD hS dX11_kindBy_88
      · have hf := xt hf c19
        refine lv_iconst (v := (1 : Int32)) hx hb dX11_kindBy_83 (by decide) ?_
        refine lv_goto (tgt := 88) hx hb dX11_kindBy_84 (by decide) ?_
        obtain rfl := Option.some.inj hf
        exact ret H _ ls _ rfl hP hD hS dX11_kindBy_88
    · have hf := xt hf c18
      refine lv_iconst (v := (3 : Int32)) hx hb dX11_kindBy_73 (by decide) ?_
      refine lv_goto (tgt := 88) hx hb dX11_kindBy_74 (by decide) ?_
      obtain rfl := Option.some.inj hf
      exact ret H _ ls _ rfl hP hD hS dX11_kindBy_88
  have hB35 : ∀ (l3 : Int32) (s0 : Int32) (s1 : Int32)  (H : Heap) (locs : List Loc) (ls : Array Slot), va_P X.1 vwCl [] H → va_S A s.heap H locs → lv_has ls 5 [(0, .int x0), (1, .int x1), (2, .int x2), (3, .int l3)] → mX11_kindBy_B35 x0 x1 x2  l3 s0 s1 = some o → W p l e rmX11_kindBy s m ([.int x0, .int x1, .int x2] : List Value).toArray below meth c H locs 0 0 Q (F0 m 35 ls [.int s1, .int s0]) := by
    intro l3 s0 s1  H locs ls hP hS hl hf
    unfold mX11_kindBy_B35 at hf
    refine lv_iadd hx hb dX11_kindBy_35 ?_
    refine lv_topi (fun v6 ev6 => ?_)
    have hf := lb_s hf ev6
    refine lv_istore (lv' := [(4, .int v6), (0, .int x0), (1, .int x1), (2, .int x2), (3, .int l3)]) hx hb dX11_kindBy_36 hl (by decide) rfl (fun ls hl => ?_)
    refine lv_iload hx hb dX11_kindBy_38 (lv_at hl 0 rfl) ?_
    refine lv_iconst (v := (3 : Int32)) hx hb dX11_kindBy_40 (by decide) ?_
    refine lv_icmp_eq (tgt := 66) hx hb dX11_kindBy_41 (by decide) (fun c7 => ?_) (fun c7 => ?_)
    · have hf := xt hf c7
      refine lv_iconst (v := (0 : Int32)) hx hb dX11_kindBy_66 (by decide) ?_
      obtain rfl := Option.some.inj hf
      exact ret H _ ls _ rfl hP hD hS dX11_kindBy_67
    · have hf := xf hf c7
      refine lv_iload_n hx hb dX11_kindBy_44 rfl (lv_at hl 1 rfl) ?_
      obtain ⟨o8, ho8, hf⟩ := ob_s hf
      refine xS_i (As := [.int x0]) (rest := []) (ws2 := []) hx hb hml hts hown hG hA hP hD rfl hS hl.1 (qX11_sign l X x0 o8 ho8) (va_cwS (y := yX11_sign) 1 hts gX11_kindBy_X11_sign rfl rfl rfl hdsX11_sign ⟨Nat.le_of_ble_eq_true rfl, Nat.le_of_ble_eq_true rfl⟩) [] [] [] rfl rfl rfl rfl rfl rfl rfl rfl rfl (Nat.le_of_ble_eq_true rfl) ⟨Nat.le_of_ble_eq_true rfl, Nat.le_of_ble_eq_true rfl⟩ dX11_kindBy_45 (fun H locs hP _ hS => ?_)
      refine lv_iload_n hx hb dX11_kindBy_48 rfl (lv_at hl 2 rfl) ?_
      obtain ⟨o10, ho10, hf⟩ := ob_s hf
      refine xS_i (As := [.int x1]) (rest := [.int o8]) (ws2 := []) hx hb hml hts hown hG hA hP hD rfl hS hl.1 (qX11_sign l X x1 o10 ho10) (va_cwS (y := yX11_sign) 1 hts gX11_kindBy_X11_sign rfl rfl rfl hdsX11_sign ⟨Nat.le_of_ble_eq_true rfl, Nat.le_of_ble_eq_true rfl⟩) [] [] [] rfl rfl rfl rfl rfl rfl rfl rfl rfl (Nat.le_of_ble_eq_true rfl) ⟨Nat.le_of_ble_eq_true rfl, Nat.le_of_ble_eq_true rfl⟩ dX11_kindBy_49 (fun H locs hP _ hS => ?_)
      refine lv_icmp_ne (tgt := 68) hx hb dX11_kindBy_52 (by decide) (fun c12 => ?_) (fun c12 => ?_)
      · have hf := xf hf c12
        exact hB68  l3 v6  H _ ls hP  hS (lv_sub hl [4, 0] rfl) hf
      · have hf := xt hf c12
        refine lv_iload_n hx hb dX11_kindBy_55 rfl (lv_at hl 2 rfl) ?_
        obtain ⟨o13, ho13, hf⟩ := ob_s hf
        refine xS_i (As := [.int x1]) (rest := []) (ws2 := []) hx hb hml hts hown hG hA hP hD rfl hS hl.1 (qX11_sign l X x1 o13 ho13) (va_cwS (y := yX11_sign) 1 hts gX11_kindBy_X11_sign rfl rfl rfl hdsX11_sign ⟨Nat.le_of_ble_eq_true rfl, Nat.le_of_ble_eq_true rfl⟩) [] [] [] rfl rfl rfl rfl rfl rfl rfl rfl rfl (Nat.le_of_ble_eq_true rfl) ⟨Nat.le_of_ble_eq_true rfl, Nat.le_of_ble_eq_true rfl⟩ dX11_kindBy_56 (fun H locs hP _ hS => ?_)
        refine lv_iload_n hx hb dX11_kindBy_59 rfl (lv_at hl 3 rfl) ?_
        obtain ⟨o15, ho15, hf⟩ := ob_s hf
        refine xS_i (As := [.int x2]) (rest := [.int o13]) (ws2 := []) hx hb hml hts hown hG hA hP hD rfl hS hl.1 (qX11_sign l X x2 o15 ho15) (va_cwS (y := yX11_sign) 1 hts gX11_kindBy_X11_sign rfl rfl rfl hdsX11_sign ⟨Nat.le_of_ble_eq_true rfl, Nat.le_of_ble_eq_true rfl⟩) [] [] [] rfl rfl rfl rfl rfl rfl rfl rfl rfl (Nat.le_of_ble_eq_true rfl) ⟨Nat.le_of_ble_eq_true rfl, Nat.le_of_ble_eq_true rfl⟩ dX11_kindBy_60 (fun H locs hP _ hS => ?_)
        refine lv_icmp_ne (tgt := 68) hx hb dX11_kindBy_63 (by decide) (fun c17 => ?_) (fun c17 => ?_)
        · have hf := xf hf c17
          exact hB68  l3 v6  H _ ls hP  hS (lv_sub hl [4, 0] rfl) hf
        · have hf := xt hf c17
          refine lv_iconst (v := (0 : Int32)) hx hb dX11_kindBy_66 (by decide) ?_
          obtain rfl := Option.some.inj hf
          exact ret H _ ls _ rfl hP hD hS dX11_kindBy_67
  have hB25 : ∀ (l3 : Int32) (s0 : Int32) (s1 : Int32)  (H : Heap) (locs : List Loc) (ls : Array Slot), va_P X.1 vwCl [] H → va_S A s.heap H locs → lv_has ls 5 [(0, .int x0), (1, .int x1), (2, .int x2), (3, .int l3)] → mX11_kindBy_B25 x0 x1 x2  l3 s0 s1 = some o → W p l e rmX11_kindBy s m ([.int x0, .int x1, .int x2] : List Value).toArray below meth c H locs 0 0 Q (F0 m 25 ls [.int s1, .int s0]) := by
    intro l3 s0 s1  H locs ls hP hS hl hf
    unfold mX11_kindBy_B25 at hf
    refine lv_iadd hx hb dX11_kindBy_25 ?_
    refine lv_iload_n hx hb dX11_kindBy_26 rfl (lv_at hl 2 rfl) ?_
    refine lv_if_ne (tgt := 34) hx hb dX11_kindBy_27 (by decide) (fun c5 => ?_) (fun c5 => ?_)
    · have hf := xf hf c5
      refine lv_iconst (v := (0 : Int32)) hx hb dX11_kindBy_34 (by decide) ?_
      exact hB35  l3 (s0 + s1) (0 : Int32)  H _ ls hP  hS (lv_sub hl [0, 1, 2, 3] rfl) hf
    · have hf := xt hf c5
      refine lv_iconst (v := (1 : Int32)) hx hb dX11_kindBy_30 (by decide) ?_
      refine lv_goto (tgt := 35) hx hb dX11_kindBy_31 (by decide) ?_
      exact hB35  l3 (s0 + s1) (1 : Int32)  H _ ls hP  hS (lv_sub hl [0, 1, 2, 3] rfl) hf
  have hB16 : ∀ (l3 : Int32) (s0 : Int32)  (H : Heap) (locs : List Loc) (ls : Array Slot), va_P X.1 vwCl [] H → va_S A s.heap H locs → lv_has ls 5 [(0, .int x0), (1, .int x1), (2, .int x2), (3, .int l3)] → mX11_kindBy_B16 x0 x1 x2  l3 s0 = some o → W p l e rmX11_kindBy s m ([.int x0, .int x1, .int x2] : List Value).toArray below meth c H locs 0 0 Q (F0 m 16 ls [.int s0]) := by
    intro l3 s0  H locs ls hP hS hl hf
    unfold mX11_kindBy_B16 at hf
    refine lv_iload_n hx hb dX11_kindBy_16 rfl (lv_at hl 1 rfl) ?_
    refine lv_if_ne (tgt := 24) hx hb dX11_kindBy_17 (by decide) (fun c4 => ?_) (fun c4 => ?_)
    · have hf := xf hf c4
      refine lv_iconst (v := (0 : Int32)) hx hb dX11_kindBy_24 (by decide) ?_
      exact hB25  l3 s0 (0 : Int32)  H _ ls hP  hS (lv_sub hl [0, 1, 2, 3] rfl) hf
    · have hf := xt hf c4
      refine lv_iconst (v := (1 : Int32)) hx hb dX11_kindBy_20 (by decide) ?_
      refine lv_goto (tgt := 25) hx hb dX11_kindBy_21 (by decide) ?_
      exact hB25  l3 s0 (1 : Int32)  H _ ls hP  hS (lv_sub hl [0, 1, 2, 3] rfl) hf
  unfold mX11_kindBy at hf
  refine lv_iload_n hx hb dX11_kindBy_0 rfl (lv_at hl 0 rfl) ?_
  refine lv_iload_n hx hb dX11_kindBy_1 rfl (lv_at hl 1 rfl) ?_
  refine lv_iload_n hx hb dX11_kindBy_2 rfl (lv_at hl 2 rfl) ?_
  obtain ⟨o1, ho1, hf⟩ := ob_s hf
  refine xS_i (As := [.int x0, .int x1, .int x2]) (rest := []) (ws2 := []) hx hb hml hts hown hG hA hP hD rfl hS hl.1 (qX11_whoBy l X x0 x1 x2 o1 ho1) (va_cwS (y := yX11_whoBy) 3 hts gX11_kindBy_X11_whoBy rfl rfl rfl hdsX11_whoBy ⟨Nat.le_of_ble_eq_true rfl, Nat.le_of_ble_eq_true rfl⟩) [] [] [] rfl rfl rfl rfl rfl rfl rfl rfl rfl (Nat.le_of_ble_eq_true rfl) ⟨Nat.le_of_ble_eq_true rfl, Nat.le_of_ble_eq_true rfl⟩ dX11_kindBy_3 (fun H locs hP _ hS => ?_)
  refine lv_istore_n (lv' := [(3, .int o1), (0, .int x0), (1, .int x1), (2, .int x2)]) hx hb dX11_kindBy_6 rfl hl (by decide) rfl (fun ls hl => ?_)
  refine lv_iload_n hx hb dX11_kindBy_7 rfl (lv_at hl 1 rfl) ?_
  refine lv_if_ne (tgt := 15) hx hb dX11_kindBy_8 (by decide) (fun c3 => ?_) (fun c3 => ?_)
  · have hf := xf hf c3
    refine lv_iconst (v := (0 : Int32)) hx hb dX11_kindBy_15 (by decide) ?_
    exact hB16  o1 (0 : Int32)  H _ ls hP  hS (lv_sub hl [1, 2, 3, 0] rfl) hf
  · have hf := xt hf c3
    refine lv_iconst (v := (1 : Int32)) hx hb dX11_kindBy_11 (by decide) ?_
    refine lv_goto (tgt := 16) hx hb dX11_kindBy_12 (by decide) ?_
    exact hB16  o1 (1 : Int32)  H _ ls hP  hS (lv_sub hl [1, 2, 3, 0] rfl) hf
def mX11_end (x0 : Int32) (x1 : Int32) (x2 : Int32) (x3 : Int32) (x4 : Int32) (f_blowMany : Nat → Int32) (f_blows : Nat → Int32) (f_downs : Nat → Int32) (f_forwards : Nat → Int32) (f_homes : Nat → Int32) (f_judgeMany : Nat → Int32) (f_judges : Nat → Int32) (f_noises : Nat → Int32) (f_roundMany : Nat → Int32) (f_takens : Nat → Int32) :
  Option (Int32) :=
  (mX11_isRule x0).bind fun o1 =>
  if o1 = 0 then (some (-1 : Int32)) else ((mX11_areThree x1 x2 x3 f_judgeMany).bind fun o4 =>
  if o4 = 0 then (some (-1 : Int32)) else ((mX11_in (Int32.toInt64 x4) (0 : Int64) (1 : Int64)).bind fun o7 =>
  if o7 = 0 then (some (-1 : Int32)) else ((mX11_cardOf x0 x1 f_blowMany f_blows f_downs f_forwards f_homes f_judges f_noises f_roundMany f_takens).bind fun o10 =>
  (mX11_cardOf x0 x2 f_blowMany f_blows f_downs f_forwards f_homes f_judges f_noises f_roundMany f_takens).bind fun o12 =>
  (mX11_cardOf x0 x3 f_blowMany f_blows f_downs f_forwards f_homes f_judges f_noises f_roundMany f_takens).bind fun o14 =>
  if x4 = 0 then ((mX11_whoBy o10 o12 o14).bind fun o19 =>
  some o19) else ((mX11_kindBy o10 o12 o14).bind fun o17 =>
  some o17))))
theorem hdsX11_end : yX11_end.cls ≠ "java/lang/invoke/MethodHandle" ∧ yX11_end.cls ≠ "java/lang/invoke/VarHandle" ∧ (parseMethodDescriptor yX11_end.desc).map (fun d => d.parameters.length) = some 5 := by decide +kernel
theorem hdvX11_end : yX11_end.cls = RX11 ∧ yX11_end.cls ≠ "java/lang/invoke/MethodHandle" ∧ yX11_end.cls ≠ "java/lang/invoke/VarHandle" ∧ (parseMethodDescriptor yX11_end.desc).map (fun d => d.parameters.length) = some 5 := by decide +kernel
abbrev rmX11_end : Room := { frames := 7, cells := 0, slots := 0, locals := 167 }
set_option maxHeartbeats 4000000 in
set_option maxRecDepth 100000 in
theorem qX11_end (l : Launch) (X : XT) (a_this : Nat) (a_blowMany : Nat) (a_blows : Nat) (a_downs : Nat) (a_forwards : Nat) (a_homes : Nat) (a_judgeMany : Nat) (a_judges : Nat) (a_noises : Nat) (a_roundMany : Nat) (a_takens : Nat) (a_text : Nat) (a_delays : Nat) (a_tolds : Nat) (a_tens : Nat) (a_told : Nat) (a_ways : Nat) (a_nextWays : Nat) (a_tallies : Nat) (a_presses : Nat) (a_values : Nat) (a_nextValues : Nat)  (i_length : Int32) (i_keptMany : Int32) (i_place : Int32) (f_blowMany : Nat → Int32) (f_blows : Nat → Int32) (f_downs : Nat → Int32) (f_forwards : Nat → Int32) (f_homes : Nat → Int32) (f_judgeMany : Nat → Int32) (f_judges : Nat → Int32) (f_noises : Nat → Int32) (f_roundMany : Nat → Int32) (f_takens : Nat → Int32) (x0 : Int32) (x1 : Int32) (x2 : Int32) (x3 : Int32) (x4 : Int32) (o : Int32) (hf : mX11_end x0 x1 x2 x3 x4 f_blowMany f_blows f_downs f_forwards f_homes f_judgeMany f_judges f_noises f_roundMany f_takens = some o) :
    MI l yX11_end wsX11_end rmX11_end X [.ref a_this, .int x0, .int x1, .int x2, .int x3, .int x4] [(a_this, .inr (11, [.int i_length, .ref a_text, .ref a_roundMany, .ref a_blowMany, .ref a_blows, .ref a_forwards, .ref a_downs, .ref a_takens, .ref a_homes, .ref a_noises, .ref a_judgeMany, .ref a_judges, .ref a_delays, .ref a_tolds, .ref a_tens, .int i_keptMany, .int i_place, .ref a_told, .ref a_ways, .ref a_nextWays, .ref a_tallies, .ref a_presses, .ref a_values, .ref a_nextValues])), (a_blowMany, .inl (X.2.1 0, 2, .inl f_blowMany)), (a_blows, .inl (X.2.1 0, 400, .inl f_blows)), (a_downs, .inl (X.2.1 0, 48, .inl f_downs)), (a_forwards, .inl (X.2.1 0, 48, .inl f_forwards)), (a_homes, .inl (X.2.1 0, 2, .inl f_homes)), (a_judgeMany, .inl (X.2.1 0, 2, .inl f_judgeMany)), (a_judges, .inl (X.2.1 0, 112, .inl f_judges)), (a_noises, .inl (X.2.1 0, 2, .inl f_noises)), (a_roundMany, .inl (X.2.1 0, 2, .inl f_roundMany)), (a_takens, .inl (X.2.1 0, 48, .inl f_takens))]  [(a_this, .inr (11, [.int i_length, .ref a_text, .ref a_roundMany, .ref a_blowMany, .ref a_blows, .ref a_forwards, .ref a_downs, .ref a_takens, .ref a_homes, .ref a_noises, .ref a_judgeMany, .ref a_judges, .ref a_delays, .ref a_tolds, .ref a_tens, .int i_keptMany, .int i_place, .ref a_told, .ref a_ways, .ref a_nextWays, .ref a_tallies, .ref a_presses, .ref a_values, .ref a_nextValues])), (a_blowMany, .inl (X.2.1 0, 2, .inl f_blowMany)), (a_blows, .inl (X.2.1 0, 400, .inl f_blows)), (a_downs, .inl (X.2.1 0, 48, .inl f_downs)), (a_forwards, .inl (X.2.1 0, 48, .inl f_forwards)), (a_homes, .inl (X.2.1 0, 2, .inl f_homes)), (a_judgeMany, .inl (X.2.1 0, 2, .inl f_judgeMany)), (a_judges, .inl (X.2.1 0, 112, .inl f_judges)), (a_noises, .inl (X.2.1 0, 2, .inl f_noises)), (a_roundMany, .inl (X.2.1 0, 2, .inl f_roundMany)), (a_takens, .inl (X.2.1 0, 48, .inl f_takens))] o := by
  refine MI_ofH (cc := cX11_end) (maxL := 9) (rt := .int) (by decide) rfl (Nat.le_of_ble_eq_true rfl) ?_
  intro p e s m below meth c A Q H ls hx hb hml hts hown hA hD hG hP hS hl ret
  have hown : s.vm.findClass RX11 = some m.cls := hown
  have hD : aD A [a_this, a_blowMany, a_blows, a_downs, a_forwards, a_homes, a_judgeMany, a_judges, a_noises, a_roundMany, a_takens] := hD
  have hl : lv_has ls 9 [(0, .ref a_this), (1, .int x0), (2, .int x1), (3, .int x2), (4, .int x3), (5, .int x4)] := hl
  unfold mX11_end at hf
  refine lv_iload_n hx hb dX11_end_0 rfl (lv_at hl 1 rfl) ?_
  obtain ⟨o1, ho1, hf⟩ := ob_s hf
  refine xS_i (As := [.int x0]) (rest := []) (ws2 := [(a_this, .inr (11, [.int i_length, .ref a_text, .ref a_roundMany, .ref a_blowMany, .ref a_blows, .ref a_forwards, .ref a_downs, .ref a_takens, .ref a_homes, .ref a_noises, .ref a_judgeMany, .ref a_judges, .ref a_delays, .ref a_tolds, .ref a_tens, .int i_keptMany, .int i_place, .ref a_told, .ref a_ways, .ref a_nextWays, .ref a_tallies, .ref a_presses, .ref a_values, .ref a_nextValues])), (a_blowMany, .inl (X.2.1 0, 2, .inl f_blowMany)), (a_blows, .inl (X.2.1 0, 400, .inl f_blows)), (a_downs, .inl (X.2.1 0, 48, .inl f_downs)), (a_forwards, .inl (X.2.1 0, 48, .inl f_forwards)), (a_homes, .inl (X.2.1 0, 2, .inl f_homes)), (a_judgeMany, .inl (X.2.1 0, 2, .inl f_judgeMany)), (a_judges, .inl (X.2.1 0, 112, .inl f_judges)), (a_noises, .inl (X.2.1 0, 2, .inl f_noises)), (a_roundMany, .inl (X.2.1 0, 2, .inl f_roundMany)), (a_takens, .inl (X.2.1 0, 48, .inl f_takens))]) hx hb hml hts hown hG hA hP hD rfl hS hl.1 (qX11_isRule l X x0 o1 ho1) (va_cwS (y := yX11_isRule) 1 hts gX11_end_X11_isRule rfl rfl rfl hdsX11_isRule ⟨Nat.le_of_ble_eq_true rfl, Nat.le_of_ble_eq_true rfl⟩) [] [0, 1, 2, 3, 4, 5, 6, 7, 8, 9, 10] [0, 1, 2, 3, 4, 5, 6, 7, 8, 9, 10] rfl rfl rfl rfl rfl rfl rfl rfl rfl (Nat.le_of_ble_eq_true rfl) ⟨Nat.le_of_ble_eq_true rfl, Nat.le_of_ble_eq_true rfl⟩ dX11_end_1 (fun H locs hP _ hS => ?_)
  refine lv_if_eq (tgt := 29) hx hb dX11_end_4 (by decide) (fun c3 => ?_) (fun c3 => ?_)
  · have hf := xt hf c3
    refine lv_iconst (v := (-1 : Int32)) hx hb dX11_end_29 (by decide) ?_
    obtain rfl := Option.some.inj hf
    exact ret H _ ls _ rfl hP hD hS dX11_end_30
  · have hf := xf hf c3
    refine lv_aload_n hx hb dX11_end_7 rfl (lv_at hl 0 rfl) ?_
    refine lv_iload_n hx hb dX11_end_8 rfl (lv_at hl 2 rfl) ?_
    refine lv_iload_n hx hb dX11_end_9 rfl (lv_at hl 3 rfl) ?_
    refine lv_iload hx hb dX11_end_10 (lv_at hl 4 rfl) ?_
    obtain ⟨o4, ho4, hf⟩ := ob_s hf
    refine xV_i (As := [.int x1, .int x2, .int x3]) (b := a_this) (rest := []) (ws2 := [(a_this, .inr (11, [.int i_length, .ref a_text, .ref a_roundMany, .ref a_blowMany, .ref a_blows, .ref a_forwards, .ref a_downs, .ref a_takens, .ref a_homes, .ref a_noises, .ref a_judgeMany, .ref a_judges, .ref a_delays, .ref a_tolds, .ref a_tens, .int i_keptMany, .int i_place, .ref a_told, .ref a_ways, .ref a_nextWays, .ref a_tallies, .ref a_presses, .ref a_values, .ref a_nextValues])), (a_blowMany, .inl (X.2.1 0, 2, .inl f_blowMany)), (a_blows, .inl (X.2.1 0, 400, .inl f_blows)), (a_downs, .inl (X.2.1 0, 48, .inl f_downs)), (a_forwards, .inl (X.2.1 0, 48, .inl f_forwards)), (a_homes, .inl (X.2.1 0, 2, .inl f_homes)), (a_judgeMany, .inl (X.2.1 0, 2, .inl f_judgeMany)), (a_judges, .inl (X.2.1 0, 112, .inl f_judges)), (a_noises, .inl (X.2.1 0, 2, .inl f_noises)), (a_roundMany, .inl (X.2.1 0, 2, .inl f_roundMany)), (a_takens, .inl (X.2.1 0, 48, .inl f_takens))]) hx hb hml hts hown hG hA hP hD rfl hS hl.1 (qX11_areThree l X a_this a_judgeMany a_text a_roundMany a_blowMany a_blows a_forwards a_downs a_takens a_homes a_noises a_judges a_delays a_tolds a_tens a_told a_ways a_nextWays a_tallies a_presses a_values a_nextValues i_length i_keptMany i_place f_judgeMany x1 x2 x3 o4 ho4) (cwV (y := yX11_areThree) 3 hts gX11_end_X11_areThree rfl rfl rfl hdvX11_areThree ⟨Nat.le_of_ble_eq_true rfl, Nat.le_of_ble_eq_true rfl⟩) [0, 6] [1, 2, 3, 4, 5, 7, 8, 9, 10] [9, 0, 1, 2, 3, 4, 10, 5, 6, 7, 8] rfl rfl rfl rfl rfl rfl rfl (ci := 11) rfl 0 rfl rfl rfl (Nat.le_of_ble_eq_true rfl) ⟨Nat.le_of_ble_eq_true rfl, Nat.le_of_ble_eq_true rfl⟩ dX11_end_12 (fun H locs hP _ hS => ?_)
    refine lv_if_eq (tgt := 29) hx hb dX11_end_15 (by decide) (fun c6 => ?_) (fun c6 => ?_)
    · have hf := xt hf c6
      refine lv_iconst (v := (-1 : Int32)) hx hb dX11_end_29 (by decide) ?_
      obtain rfl := Option.some.inj hf
      exact ret H _ ls _ rfl hP hD hS dX11_end_30
    · have hf := xf hf c6
      refine lv_iload hx hb dX11_end_18 (lv_at hl 5 rfl) ?_
      refine lv_i2l hx hb dX11_end_20 rfl ?_
      refine lv_lconst (v := (0 : Int64)) hx hb dX11_end_21 rfl ?_
      refine lv_lconst (v := (1 : Int64)) hx hb dX11_end_22 rfl ?_
      obtain ⟨o7, ho7, hf⟩ := ob_s hf
      refine xS_i (As := [.long (Int32.toInt64 x4), .long (0 : Int64), .long (1 : Int64)]) (rest := []) (ws2 := [(a_this, .inr (11, [.int i_length, .ref a_text, .ref a_roundMany, .ref a_blowMany, .ref a_blows, .ref a_forwards, .ref a_downs, .ref a_takens, .ref a_homes, .ref a_noises, .ref a_judgeMany, .ref a_judges, .ref a_delays, .ref a_tolds, .ref a_tens, .int i_keptMany, .int i_place, .ref a_told, .ref a_ways, .ref a_nextWays, .ref a_tallies, .ref a_presses, .ref a_values, .ref a_nextValues])), (a_blowMany, .inl (X.2.1 0, 2, .inl f_blowMany)), (a_blows, .inl (X.2.1 0, 400, .inl f_blows)), (a_downs, .inl (X.2.1 0, 48, .inl f_downs)), (a_forwards, .inl (X.2.1 0, 48, .inl f_forwards)), (a_homes, .inl (X.2.1 0, 2, .inl f_homes)), (a_judgeMany, .inl (X.2.1 0, 2, .inl f_judgeMany)), (a_judges, .inl (X.2.1 0, 112, .inl f_judges)), (a_noises, .inl (X.2.1 0, 2, .inl f_noises)), (a_roundMany, .inl (X.2.1 0, 2, .inl f_roundMany)), (a_takens, .inl (X.2.1 0, 48, .inl f_takens))]) hx hb hml hts hown hG hA hP hD rfl hS hl.1 (qX11_in l X (Int32.toInt64 x4) (0 : Int64) (1 : Int64) o7 ho7) (va_cwS (y := yX11_in) 3 hts gX11_end_X11_in rfl rfl rfl hdsX11_in ⟨Nat.le_of_ble_eq_true rfl, Nat.le_of_ble_eq_true rfl⟩) [] [0, 1, 2, 3, 4, 5, 6, 7, 8, 9, 10] [0, 1, 2, 3, 4, 5, 6, 7, 8, 9, 10] rfl rfl rfl rfl rfl rfl rfl rfl rfl (Nat.le_of_ble_eq_true rfl) ⟨Nat.le_of_ble_eq_true rfl, Nat.le_of_ble_eq_true rfl⟩ dX11_end_23 (fun H locs hP _ hS => ?_)
      refine lv_if_ne (tgt := 31) hx hb dX11_end_26 (by decide) (fun c9 => ?_) (fun c9 => ?_)
      · have hf := xf hf c9
        refine lv_aload_n hx hb dX11_end_31 rfl (lv_at hl 0 rfl) ?_
        refine lv_iload_n hx hb dX11_end_32 rfl (lv_at hl 1 rfl) ?_
        refine lv_iload_n hx hb dX11_end_33 rfl (lv_at hl 2 rfl) ?_
        obtain ⟨o10, ho10, hf⟩ := ob_s hf
        refine xV_i (As := [.int x0, .int x1]) (b := a_this) (rest := []) (ws2 := [(a_this, .inr (11, [.int i_length, .ref a_text, .ref a_roundMany, .ref a_blowMany, .ref a_blows, .ref a_forwards, .ref a_downs, .ref a_takens, .ref a_homes, .ref a_noises, .ref a_judgeMany, .ref a_judges, .ref a_delays, .ref a_tolds, .ref a_tens, .int i_keptMany, .int i_place, .ref a_told, .ref a_ways, .ref a_nextWays, .ref a_tallies, .ref a_presses, .ref a_values, .ref a_nextValues])), (a_blowMany, .inl (X.2.1 0, 2, .inl f_blowMany)), (a_blows, .inl (X.2.1 0, 400, .inl f_blows)), (a_downs, .inl (X.2.1 0, 48, .inl f_downs)), (a_forwards, .inl (X.2.1 0, 48, .inl f_forwards)), (a_homes, .inl (X.2.1 0, 2, .inl f_homes)), (a_judgeMany, .inl (X.2.1 0, 2, .inl f_judgeMany)), (a_judges, .inl (X.2.1 0, 112, .inl f_judges)), (a_noises, .inl (X.2.1 0, 2, .inl f_noises)), (a_roundMany, .inl (X.2.1 0, 2, .inl f_roundMany)), (a_takens, .inl (X.2.1 0, 48, .inl f_takens))]) hx hb hml hts hown hG hA hP hD rfl hS hl.1 (qX11_cardOf l X a_this a_blowMany a_blows a_downs a_forwards a_homes a_judges a_noises a_roundMany a_takens a_text a_judgeMany a_delays a_tolds a_tens a_told a_ways a_nextWays a_tallies a_presses a_values a_nextValues i_length i_keptMany i_place f_blowMany f_blows f_downs f_forwards f_homes f_judges f_noises f_roundMany f_takens x0 x1 o10 ho10) (cwV (y := yX11_cardOf) 2 hts gX11_end_X11_cardOf rfl rfl rfl hdvX11_cardOf ⟨Nat.le_of_ble_eq_true rfl, Nat.le_of_ble_eq_true rfl⟩) [0, 1, 2, 3, 4, 5, 7, 8, 9, 10] [6] [1, 2, 3, 4, 5, 6, 0, 7, 8, 9, 10] rfl rfl rfl rfl rfl rfl rfl (ci := 11) rfl 0 rfl rfl rfl (Nat.le_of_ble_eq_true rfl) ⟨Nat.le_of_ble_eq_true rfl, Nat.le_of_ble_eq_true rfl⟩ dX11_end_34 (fun H locs hP _ hS => ?_)
        refine lv_istore (lv' := [(6, .int o10), (0, .ref a_this), (1, .int x0), (2, .int x1), (3, .int x2), (4, .int x3), (5, .int x4)]) hx hb dX11_end_37 hl (by decide) rfl (fun ls hl => ?_)
        refine lv_aload_n hx hb dX11_end_39 rfl (lv_at hl 1 rfl) ?_
        refine lv_iload_n hx hb dX11_end_40 rfl (lv_at hl 2 rfl) ?_
        refine lv_iload_n hx hb dX11_end_41 rfl (lv_at hl 4 rfl) ?_
        obtain ⟨o12, ho12, hf⟩ := ob_s hf
        refine xV_i (As := [.int x0, .int x2]) (b := a_this) (rest := []) (ws2 := [(a_this, .inr (11, [.int i_length, .ref a_text, .ref a_roundMany, .ref a_blowMany, .ref a_blows, .ref a_forwards, .ref a_downs, .ref a_takens, .ref a_homes, .ref a_noises, .ref a_judgeMany, .ref a_judges, .ref a_delays, .ref a_tolds, .ref a_tens, .int i_keptMany, .int i_place, .ref a_told, .ref a_ways, .ref a_nextWays, .ref a_tallies, .ref a_presses, .ref a_values, .ref a_nextValues])), (a_blowMany, .inl (X.2.1 0, 2, .inl f_blowMany)), (a_blows, .inl (X.2.1 0, 400, .inl f_blows)), (a_downs, .inl (X.2.1 0, 48, .inl f_downs)), (a_forwards, .inl (X.2.1 0, 48, .inl f_forwards)), (a_homes, .inl (X.2.1 0, 2, .inl f_homes)), (a_judgeMany, .inl (X.2.1 0, 2, .inl f_judgeMany)), (a_judges, .inl (X.2.1 0, 112, .inl f_judges)), (a_noises, .inl (X.2.1 0, 2, .inl f_noises)), (a_roundMany, .inl (X.2.1 0, 2, .inl f_roundMany)), (a_takens, .inl (X.2.1 0, 48, .inl f_takens))]) hx hb hml hts hown hG hA hP hD rfl hS hl.1 (qX11_cardOf l X a_this a_blowMany a_blows a_downs a_forwards a_homes a_judges a_noises a_roundMany a_takens a_text a_judgeMany a_delays a_tolds a_tens a_told a_ways a_nextWays a_tallies a_presses a_values a_nextValues i_length i_keptMany i_place f_blowMany f_blows f_downs f_forwards f_homes f_judges f_noises f_roundMany f_takens x0 x2 o12 ho12) (cwV (y := yX11_cardOf) 2 hts gX11_end_X11_cardOf rfl rfl rfl hdvX11_cardOf ⟨Nat.le_of_ble_eq_true rfl, Nat.le_of_ble_eq_true rfl⟩) [0, 1, 2, 3, 4, 5, 7, 8, 9, 10] [6] [1, 2, 3, 4, 5, 6, 0, 7, 8, 9, 10] rfl rfl rfl rfl rfl rfl rfl (ci := 11) rfl 0 rfl rfl rfl (Nat.le_of_ble_eq_true rfl) ⟨Nat.le_of_ble_eq_true rfl, Nat.le_of_ble_eq_true rfl⟩ dX11_end_42 (fun H locs hP _ hS => ?_)
        refine lv_istore (lv' := [(7, .int o12), (6, .int o10), (0, .ref a_this), (1, .int x0), (2, .int x1), (3, .int x2), (4, .int x3), (5, .int x4)]) hx hb dX11_end_45 hl (by decide) rfl (fun ls hl => ?_)
        refine lv_aload_n hx hb dX11_end_47 rfl (lv_at hl 2 rfl) ?_
        refine lv_iload_n hx hb dX11_end_48 rfl (lv_at hl 3 rfl) ?_
        refine lv_iload hx hb dX11_end_49 (lv_at hl 6 rfl) ?_
        obtain ⟨o14, ho14, hf⟩ := ob_s hf
        refine xV_i (As := [.int x0, .int x3]) (b := a_this) (rest := []) (ws2 := [(a_this, .inr (11, [.int i_length, .ref a_text, .ref a_roundMany, .ref a_blowMany, .ref a_blows, .ref a_forwards, .ref a_downs, .ref a_takens, .ref a_homes, .ref a_noises, .ref a_judgeMany, .ref a_judges, .ref a_delays, .ref a_tolds, .ref a_tens, .int i_keptMany, .int i_place, .ref a_told, .ref a_ways, .ref a_nextWays, .ref a_tallies, .ref a_presses, .ref a_values, .ref a_nextValues])), (a_blowMany, .inl (X.2.1 0, 2, .inl f_blowMany)), (a_blows, .inl (X.2.1 0, 400, .inl f_blows)), (a_downs, .inl (X.2.1 0, 48, .inl f_downs)), (a_forwards, .inl (X.2.1 0, 48, .inl f_forwards)), (a_homes, .inl (X.2.1 0, 2, .inl f_homes)), (a_judgeMany, .inl (X.2.1 0, 2, .inl f_judgeMany)), (a_judges, .inl (X.2.1 0, 112, .inl f_judges)), (a_noises, .inl (X.2.1 0, 2, .inl f_noises)), (a_roundMany, .inl (X.2.1 0, 2, .inl f_roundMany)), (a_takens, .inl (X.2.1 0, 48, .inl f_takens))]) hx hb hml hts hown hG hA hP hD rfl hS hl.1 (qX11_cardOf l X a_this a_blowMany a_blows a_downs a_forwards a_homes a_judges a_noises a_roundMany a_takens a_text a_judgeMany a_delays a_tolds a_tens a_told a_ways a_nextWays a_tallies a_presses a_values a_nextValues i_length i_keptMany i_place f_blowMany f_blows f_downs f_forwards f_homes f_judges f_noises f_roundMany f_takens x0 x3 o14 ho14) (cwV (y := yX11_cardOf) 2 hts gX11_end_X11_cardOf rfl rfl rfl hdvX11_cardOf ⟨Nat.le_of_ble_eq_true rfl, Nat.le_of_ble_eq_true rfl⟩) [0, 1, 2, 3, 4, 5, 7, 8, 9, 10] [6] [1, 2, 3, 4, 5, 6, 0, 7, 8, 9, 10] rfl rfl rfl rfl rfl rfl rfl (ci := 11) rfl 0 rfl rfl rfl (Nat.le_of_ble_eq_true rfl) ⟨Nat.le_of_ble_eq_true rfl, Nat.le_of_ble_eq_true rfl⟩ dX11_end_51 (fun H locs hP _ hS => ?_)
        refine lv_istore (lv' := [(8, .int o14), (7, .int o12), (6, .int o10), (0, .ref a_this), (1, .int x0), (2, .int x1), (3, .int x2), (4, .int x3), (5, .int x4)]) hx hb dX11_end_54 hl (by decide) rfl (fun ls hl => ?_)
        refine lv_iload hx hb dX11_end_56 (lv_at hl 8 rfl) ?_
        refine lv_if_ne (tgt := 73) hx hb dX11_end_58 (by decide) (fun c16 => ?_) (fun c16 => ?_)
        · have hf := xf hf c16
          refine lv_iload hx hb dX11_end_73 (lv_at hl 2 rfl) ?_
          refine lv_iload hx hb dX11_end_75 (lv_at hl 1 rfl) ?_
          refine lv_iload hx hb dX11_end_77 (lv_at hl 0 rfl) ?_
          obtain ⟨o17, ho17, hf⟩ := ob_s hf
          refine xS_i (As := [.int o10, .int o12, .int o14]) (rest := []) (ws2 := [(a_this, .inr (11, [.int i_length, .ref a_text, .ref a_roundMany, .ref a_blowMany, .ref a_blows, .ref a_forwards, .ref a_downs, .ref a_takens, .ref a_homes, .ref a_noises, .ref a_judgeMany, .ref a_judges, .ref a_delays, .ref a_tolds, .ref a_tens, .int i_keptMany, .int i_place, .ref a_told, .ref a_ways, .ref a_nextWays, .ref a_tallies, .ref a_presses, .ref a_values, .ref a_nextValues])), (a_blowMany, .inl (X.2.1 0, 2, .inl f_blowMany)), (a_blows, .inl (X.2.1 0, 400, .inl f_blows)), (a_downs, .inl (X.2.1 0, 48, .inl f_downs)), (a_forwards, .inl (X.2.1 0, 48, .inl f_forwards)), (a_homes, .inl (X.2.1 0, 2, .inl f_homes)), (a_judgeMany, .inl (X.2.1 0, 2, .inl f_judgeMany)), (a_judges, .inl (X.2.1 0, 112, .inl f_judges)), (a_noises, .inl (X.2.1 0, 2, .inl f_noises)), (a_roundMany, .inl (X.2.1 0, 2, .inl f_roundMany)), (a_takens, .inl (X.2.1 0, 48, .inl f_takens))]) hx hb hml hts hown hG hA hP hD rfl hS hl.1 (qX11_kindBy l X o10 o12 o14 o17 ho17) (va_cwS (y := yX11_kindBy) 3 hts gX11_end_X11_kindBy rfl rfl rfl hdsX11_kindBy ⟨Nat.le_of_ble_eq_true rfl, Nat.le_of_ble_eq_true rfl⟩) [] [0, 1, 2, 3, 4, 5, 6, 7, 8, 9, 10] [0, 1, 2, 3, 4, 5, 6, 7, 8, 9, 10] rfl rfl rfl rfl rfl rfl rfl rfl rfl (Nat.le_of_ble_eq_true rfl) ⟨Nat.le_of_ble_eq_true rfl, Nat.le_of_ble_eq_true rfl⟩ dX11_end_79 (fun H locs hP _ hS => ?_)
          obtain rfl := Option.some.inj hf
          exact ret H _ ls _ rfl hP hD hS dX11_end_82
        · have hf := xt hf c16
          refine lv_iload hx hb dX11_end_61 (lv_at hl 2 rfl) ?_
          refine lv_iload hx hb dX11_end_63 (lv_at hl 1 rfl) ?_
          refine lv_iload hx hb dX11_end_65 (lv_at hl 0 rfl) ?_
          obtain ⟨o19, ho19, hf⟩ := ob_s hf
          refine xS_i (As := [.int o10, .int o12, .int o14]) (rest := []) (ws2 := [(a_this, .inr (11, [.int i_length, .ref a_text, .ref a_roundMany, .ref a_blowMany, .ref a_blows, .ref a_forwards, .ref a_downs, .ref a_takens, .ref a_homes, .ref a_noises, .ref a_judgeMany, .ref a_judges, .ref a_delays, .ref a_tolds, .ref a_tens, .int i_keptMany, .int i_place, .ref a_told, .ref a_ways, .ref a_nextWays, .ref a_tallies, .ref a_presses, .ref a_values, .ref a_nextValues])), (a_blowMany, .inl (X.2.1 0, 2, .inl f_blowMany)), (a_blows, .inl (X.2.1 0, 400, .inl f_blows)), (a_downs, .inl (X.2.1 0, 48, .inl f_downs)), (a_forwards, .inl (X.2.1 0, 48, .inl f_forwards)), (a_homes, .inl (X.2.1 0, 2, .inl f_homes)), (a_judgeMany, .inl (X.2.1 0, 2, .inl f_judgeMany)), (a_judges, .inl (X.2.1 0, 112, .inl f_judges)), (a_noises, .inl (X.2.1 0, 2, .inl f_noises)), (a_roundMany, .inl (X.2.1 0, 2, .inl f_roundMany)), (a_takens, .inl (X.2.1 0, 48, .inl f_takens))]) hx hb hml hts hown hG hA hP hD rfl hS hl.1 (qX11_whoBy l X o10 o12 o14 o19 ho19) (va_cwS (y := yX11_whoBy) 3 hts gX11_end_X11_whoBy rfl rfl rfl hdsX11_whoBy ⟨Nat.le_of_ble_eq_true rfl, Nat.le_of_ble_eq_true rfl⟩) [] [0, 1, 2, 3, 4, 5, 6, 7, 8, 9, 10] [0, 1, 2, 3, 4, 5, 6, 7, 8, 9, 10] rfl rfl rfl rfl rfl rfl rfl rfl rfl (Nat.le_of_ble_eq_true rfl) ⟨Nat.le_of_ble_eq_true rfl, Nat.le_of_ble_eq_true rfl⟩ dX11_end_67 (fun H locs hP _ hS => ?_)
          refine lv_goto (tgt := 82) hx hb dX11_end_70 (by decide) ?_
          obtain rfl := Option.some.inj hf
          exact ret H _ ls _ rfl hP hD hS dX11_end_82
      · have hf := xt hf c9
        refine lv_iconst (v := (-1 : Int32)) hx hb dX11_end_29 (by decide) ?_
        obtain rfl := Option.some.inj hf
        exact ret H _ ls _ rfl hP hD hS dX11_end_30
def mX11_others_B60 (x0 : Int32) (x1 : Int32) (f_blowMany : Nat → Int32) (f_blows : Nat → Int32) (f_downs : Nat → Int32) (f_forwards : Nat → Int32) (f_homes : Nat → Int32) (f_judgeMany : Nat → Int32) (f_judges : Nat → Int32) (f_noises : Nat → Int32) (f_roundMany : Nat → Int32) (f_takens : Nat → Int32) (k26 : Int32 → Int32 → Option (Int32)) (k43 : Int32 → Int32 → Int32 → Option (Int32)) (k60 : Int32 → Int32 → Int32 → Int32 → Option (Int32)) (l3 : Int32) (l4 : Int32) (l5 : Int32) (l6 : Int32) :
  Option (Int32) :=
  if (f_judgeMany (0 : Int32).toNatClampNeg) ≤ l6 then (lb (l5 + (1 : Int32)) fun v13 =>
  k43 l3 l4 v13) else ((mX11_cardOf x0 l4 f_blowMany f_blows f_downs f_forwards f_homes f_judges f_noises f_roundMany f_takens).bind fun o14 =>
  (mX11_cardOf x0 l5 f_blowMany f_blows f_downs f_forwards f_homes f_judges f_noises f_roundMany f_takens).bind fun o16 =>
  (mX11_cardOf x0 l6 f_blowMany f_blows f_downs f_forwards f_homes f_judges f_noises f_roundMany f_takens).bind fun o18 =>
  (mX11_whoBy o14 o16 o18).bind fun o20 =>
  if o20 = x1 then (lb (l3 + (1 : Int32)) fun v25 =>
  lb (l6 + (1 : Int32)) fun v26 =>
  k60 v25 l4 l5 v26) else (lb (l3 + (0 : Int32)) fun v23 =>
  lb (l6 + (1 : Int32)) fun v24 =>
  k60 v23 l4 l5 v24))
def mX11_others_L60 (x0 : Int32) (x1 : Int32) (f_blowMany : Nat → Int32) (f_blows : Nat → Int32) (f_downs : Nat → Int32) (f_forwards : Nat → Int32) (f_homes : Nat → Int32) (f_judgeMany : Nat → Int32) (f_judges : Nat → Int32) (f_noises : Nat → Int32) (f_roundMany : Nat → Int32) (f_takens : Nat → Int32) (k26 : Int32 → Int32 → Option (Int32)) (k43 : Int32 → Int32 → Int32 → Option (Int32)) (n : Nat) (l3 : Int32) (l4 : Int32) (l5 : Int32) (l6 : Int32) :
  Option (Int32) :=
  loopN (fun k (s : Int32 × Int32 × Int32 × Int32) => mX11_others_B60 x0 x1 f_blowMany f_blows f_downs f_forwards f_homes f_judgeMany f_judges f_noises f_roundMany f_takens k26 k43 (fun l3 l4 l5 l6 => k (l3, l4, l5, l6)) s.1 s.2.1 s.2.2.1 s.2.2.2) n (l3, l4, l5, l6)
def mX11_others_B43 (x0 : Int32) (x1 : Int32) (f_blowMany : Nat → Int32) (f_blows : Nat → Int32) (f_downs : Nat → Int32) (f_forwards : Nat → Int32) (f_homes : Nat → Int32) (f_judgeMany : Nat → Int32) (f_judges : Nat → Int32) (f_noises : Nat → Int32) (f_roundMany : Nat → Int32) (f_takens : Nat → Int32) (k26 : Int32 → Int32 → Option (Int32)) (k43 : Int32 → Int32 → Int32 → Option (Int32)) (l3 : Int32) (l4 : Int32) (l5 : Int32) :
  Option (Int32) :=
  if (f_judgeMany (0 : Int32).toNatClampNeg) ≤ l5 then (lb (l4 + (1 : Int32)) fun v10 =>
  k26 l3 v10) else (lb (l5 + (1 : Int32)) fun v11 =>
  mX11_others_L60 x0 x1 f_blowMany f_blows f_downs f_forwards f_homes f_judgeMany f_judges f_noises f_roundMany f_takens k26 k43 FUEL l3 l4 l5 v11)
def mX11_others_L43 (x0 : Int32) (x1 : Int32) (f_blowMany : Nat → Int32) (f_blows : Nat → Int32) (f_downs : Nat → Int32) (f_forwards : Nat → Int32) (f_homes : Nat → Int32) (f_judgeMany : Nat → Int32) (f_judges : Nat → Int32) (f_noises : Nat → Int32) (f_roundMany : Nat → Int32) (f_takens : Nat → Int32) (k26 : Int32 → Int32 → Option (Int32)) (n : Nat) (l3 : Int32) (l4 : Int32) (l5 : Int32) :
  Option (Int32) :=
  loopN (fun k (s : Int32 × Int32 × Int32) => mX11_others_B43 x0 x1 f_blowMany f_blows f_downs f_forwards f_homes f_judgeMany f_judges f_noises f_roundMany f_takens k26 (fun l3 l4 l5 => k (l3, l4, l5)) s.1 s.2.1 s.2.2) n (l3, l4, l5)
def mX11_others_B26 (x0 : Int32) (x1 : Int32) (f_blowMany : Nat → Int32) (f_blows : Nat → Int32) (f_downs : Nat → Int32) (f_forwards : Nat → Int32) (f_homes : Nat → Int32) (f_judgeMany : Nat → Int32) (f_judges : Nat → Int32) (f_noises : Nat → Int32) (f_roundMany : Nat → Int32) (f_takens : Nat → Int32) (k26 : Int32 → Int32 → Option (Int32)) (l3 : Int32) (l4 : Int32) :
  Option (Int32) :=
  if (f_judgeMany (0 : Int32).toNatClampNeg) ≤ l4 then (some l3) else (lb (l4 + (1 : Int32)) fun v8 =>
  mX11_others_L43 x0 x1 f_blowMany f_blows f_downs f_forwards f_homes f_judgeMany f_judges f_noises f_roundMany f_takens k26 FUEL l3 l4 v8)
def mX11_others_L26 (x0 : Int32) (x1 : Int32) (f_blowMany : Nat → Int32) (f_blows : Nat → Int32) (f_downs : Nat → Int32) (f_forwards : Nat → Int32) (f_homes : Nat → Int32) (f_judgeMany : Nat → Int32) (f_judges : Nat → Int32) (f_noises : Nat → Int32) (f_roundMany : Nat → Int32) (f_takens : Nat → Int32) (n : Nat) (l3 : Int32) (l4 : Int32) :
  Option (Int32) :=
  loopN (fun k (s : Int32 × Int32) => mX11_others_B26 x0 x1 f_blowMany f_blows f_downs f_forwards f_homes f_judgeMany f_judges f_noises f_roundMany f_takens  (fun l3 l4 => k (l3, l4)) s.1 s.2) n (l3, l4)
def mX11_others (x0 : Int32) (x1 : Int32) (f_blowMany : Nat → Int32) (f_blows : Nat → Int32) (f_downs : Nat → Int32) (f_forwards : Nat → Int32) (f_homes : Nat → Int32) (f_judgeMany : Nat → Int32) (f_judges : Nat → Int32) (f_noises : Nat → Int32) (f_roundMany : Nat → Int32) (f_takens : Nat → Int32) :
  Option (Int32) :=
  (mX11_isRule x0).bind fun o1 =>
  if o1 = 0 then (some (-1 : Int32)) else ((mX11_in (Int32.toInt64 x1) (0 : Int64) (2 : Int64)).bind fun o4 =>
  if o4 = 0 then (some (-1 : Int32)) else (mX11_others_L26 x0 x1 f_blowMany f_blows f_downs f_forwards f_homes f_judgeMany f_judges f_noises f_roundMany f_takens  FUEL (0 : Int32) (0 : Int32)))
theorem hdsX11_others : yX11_others.cls ≠ "java/lang/invoke/MethodHandle" ∧ yX11_others.cls ≠ "java/lang/invoke/VarHandle" ∧ (parseMethodDescriptor yX11_others.desc).map (fun d => d.parameters.length) = some 2 := by decide +kernel
theorem hdvX11_others : yX11_others.cls = RX11 ∧ yX11_others.cls ≠ "java/lang/invoke/MethodHandle" ∧ yX11_others.cls ≠ "java/lang/invoke/VarHandle" ∧ (parseMethodDescriptor yX11_others.desc).map (fun d => d.parameters.length) = some 2 := by decide +kernel
abbrev rmX11_others : Room := { frames := 7, cells := 0, slots := 0, locals := 167 }
set_option maxHeartbeats 4000000 in
set_option maxRecDepth 100000 in
theorem qX11_others (l : Launch) (X : XT) (a_this : Nat) (a_blowMany : Nat) (a_blows : Nat) (a_downs : Nat) (a_forwards : Nat) (a_homes : Nat) (a_judgeMany : Nat) (a_judges : Nat) (a_noises : Nat) (a_roundMany : Nat) (a_takens : Nat) (a_text : Nat) (a_delays : Nat) (a_tolds : Nat) (a_tens : Nat) (a_told : Nat) (a_ways : Nat) (a_nextWays : Nat) (a_tallies : Nat) (a_presses : Nat) (a_values : Nat) (a_nextValues : Nat)  (i_length : Int32) (i_keptMany : Int32) (i_place : Int32) (f_blowMany : Nat → Int32) (f_blows : Nat → Int32) (f_downs : Nat → Int32) (f_forwards : Nat → Int32) (f_homes : Nat → Int32) (f_judgeMany : Nat → Int32) (f_judges : Nat → Int32) (f_noises : Nat → Int32) (f_roundMany : Nat → Int32) (f_takens : Nat → Int32) (x0 : Int32) (x1 : Int32) (o : Int32) (hf : mX11_others x0 x1 f_blowMany f_blows f_downs f_forwards f_homes f_judgeMany f_judges f_noises f_roundMany f_takens = some o) :
    MI l yX11_others wsX11_others rmX11_others X [.ref a_this, .int x0, .int x1] [(a_this, .inr (11, [.int i_length, .ref a_text, .ref a_roundMany, .ref a_blowMany, .ref a_blows, .ref a_forwards, .ref a_downs, .ref a_takens, .ref a_homes, .ref a_noises, .ref a_judgeMany, .ref a_judges, .ref a_delays, .ref a_tolds, .ref a_tens, .int i_keptMany, .int i_place, .ref a_told, .ref a_ways, .ref a_nextWays, .ref a_tallies, .ref a_presses, .ref a_values, .ref a_nextValues])), (a_blowMany, .inl (X.2.1 0, 2, .inl f_blowMany)), (a_blows, .inl (X.2.1 0, 400, .inl f_blows)), (a_downs, .inl (X.2.1 0, 48, .inl f_downs)), (a_forwards, .inl (X.2.1 0, 48, .inl f_forwards)), (a_homes, .inl (X.2.1 0, 2, .inl f_homes)), (a_judgeMany, .inl (X.2.1 0, 2, .inl f_judgeMany)), (a_judges, .inl (X.2.1 0, 112, .inl f_judges)), (a_noises, .inl (X.2.1 0, 2, .inl f_noises)), (a_roundMany, .inl (X.2.1 0, 2, .inl f_roundMany)), (a_takens, .inl (X.2.1 0, 48, .inl f_takens))]  [(a_this, .inr (11, [.int i_length, .ref a_text, .ref a_roundMany, .ref a_blowMany, .ref a_blows, .ref a_forwards, .ref a_downs, .ref a_takens, .ref a_homes, .ref a_noises, .ref a_judgeMany, .ref a_judges, .ref a_delays, .ref a_tolds, .ref a_tens, .int i_keptMany, .int i_place, .ref a_told, .ref a_ways, .ref a_nextWays, .ref a_tallies, .ref a_presses, .ref a_values, .ref a_nextValues])), (a_blowMany, .inl (X.2.1 0, 2, .inl f_blowMany)), (a_blows, .inl (X.2.1 0, 400, .inl f_blows)), (a_downs, .inl (X.2.1 0, 48, .inl f_downs)), (a_forwards, .inl (X.2.1 0, 48, .inl f_forwards)), (a_homes, .inl (X.2.1 0, 2, .inl f_homes)), (a_judgeMany, .inl (X.2.1 0, 2, .inl f_judgeMany)), (a_judges, .inl (X.2.1 0, 112, .inl f_judges)), (a_noises, .inl (X.2.1 0, 2, .inl f_noises)), (a_roundMany, .inl (X.2.1 0, 2, .inl f_roundMany)), (a_takens, .inl (X.2.1 0, 48, .inl f_takens))] o := by
  refine MI_ofH (cc := cX11_others) (maxL := 7) (rt := .int) (by decide) rfl (Nat.le_of_ble_eq_true rfl) ?_
  intro p e s m below meth c A Q H ls hx hb hml hts hown hA hD hG hP hS hl ret
  have hown : s.vm.findClass RX11 = some m.cls := hown
  have hD : aD A [a_this, a_blowMany, a_blows, a_downs, a_forwards, a_homes, a_judgeMany, a_judges, a_noises, a_roundMany, a_takens] := hD
  have hl : lv_has ls 7 [(0, .ref a_this), (1, .int x0), (2, .int x1)] := hl
  have w1 := hts (Cond.constantLong RX11 181 (2)) (List.mem_of_getElem? (i := 1) rfl)
  have w2 := hts (Cond.fieldLink RX11 37 "ThreeCardsModel" "judgeMany" "[I") (List.mem_of_getElem? (i := 2) rfl)
  have in11 : ∀ w ∈ u_ws RX11 TX11 24, w ∈ wsX11_others := by decide +kernel
  have hL60 : ∀ (k26 : Int32 → Int32 → Option (Int32)) (hk26 : ∀ (l3 : Int32) (l4 : Int32)  (H : Heap) (locs : List Loc) (ls : Array Slot), va_P X.1 vwCl [(a_this, .inr (11, [.int i_length, .ref a_text, .ref a_roundMany, .ref a_blowMany, .ref a_blows, .ref a_forwards, .ref a_downs, .ref a_takens, .ref a_homes, .ref a_noises, .ref a_judgeMany, .ref a_judges, .ref a_delays, .ref a_tolds, .ref a_tens, .int i_keptMany, .int i_place, .ref a_told, .ref a_ways, .ref a_nextWays, .ref a_tallies, .ref a_presses, .ref a_values, .ref a_nextValues])), (a_blowMany, .inl (X.2.1 0, 2, .inl f_blowMany)), (a_blows, .inl (X.2.1 0, 400, .inl f_blows)), (a_downs, .inl (X.2.1 0, 48, .inl f_downs)), (a_forwards, .inl (X.2.1 0, 48, .inl f_forwards)), (a_homes, .inl (X.2.1 0, 2, .inl f_homes)), (a_judgeMany, .inl (X.2.1 0, 2, .inl f_judgeMany)), (a_judges, .inl (X.2.1 0, 112, .inl f_judges)), (a_noises, .inl (X.2.1 0, 2, .inl f_noises)), (a_roundMany, .inl (X.2.1 0, 2, .inl f_roundMany)), (a_takens, .inl (X.2.1 0, 48, .inl f_takens))] H → va_S A s.heap H locs → lv_has ls 7 [(0, .ref a_this), (1, .int x0), (2, .int x1), (3, .int l3), (4, .int l4)] → k26 l3 l4 = some o → W p l e rmX11_others s m ([.ref a_this, .int x0, .int x1] : List Value).toArray below meth c H locs 0 0 Q (F0 m 26 ls [])) (k43 : Int32 → Int32 → Int32 → Option (Int32)) (hk43 : ∀ (l3 : Int32) (l4 : Int32) (l5 : Int32)  (H : Heap) (locs : List Loc) (ls : Array Slot), va_P X.1 vwCl [(a_this, .inr (11, [.int i_length, .ref a_text, .ref a_roundMany, .ref a_blowMany, .ref a_blows, .ref a_forwards, .ref a_downs, .ref a_takens, .ref a_homes, .ref a_noises, .ref a_judgeMany, .ref a_judges, .ref a_delays, .ref a_tolds, .ref a_tens, .int i_keptMany, .int i_place, .ref a_told, .ref a_ways, .ref a_nextWays, .ref a_tallies, .ref a_presses, .ref a_values, .ref a_nextValues])), (a_blowMany, .inl (X.2.1 0, 2, .inl f_blowMany)), (a_blows, .inl (X.2.1 0, 400, .inl f_blows)), (a_downs, .inl (X.2.1 0, 48, .inl f_downs)), (a_forwards, .inl (X.2.1 0, 48, .inl f_forwards)), (a_homes, .inl (X.2.1 0, 2, .inl f_homes)), (a_judgeMany, .inl (X.2.1 0, 2, .inl f_judgeMany)), (a_judges, .inl (X.2.1 0, 112, .inl f_judges)), (a_noises, .inl (X.2.1 0, 2, .inl f_noises)), (a_roundMany, .inl (X.2.1 0, 2, .inl f_roundMany)), (a_takens, .inl (X.2.1 0, 48, .inl f_takens))] H → va_S A s.heap H locs → lv_has ls 7 [(0, .ref a_this), (1, .int x0), (2, .int x1), (3, .int l3), (4, .int l4), (5, .int l5)] → k43 l3 l4 l5 = some o → W p l e rmX11_others s m ([.ref a_this, .int x0, .int x1] : List Value).toArray below meth c H locs 0 0 Q (F0 m 43 ls [])) (n : Nat) (l3 : Int32) (l4 : Int32) (l5 : Int32) (l6 : Int32)  (H : Heap) (locs : List Loc) (ls : Array Slot), va_P X.1 vwCl [(a_this, .inr (11, [.int i_length, .ref a_text, .ref a_roundMany, .ref a_blowMany, .ref a_blows, .ref a_forwards, .ref a_downs, .ref a_takens, .ref a_homes, .ref a_noises, .ref a_judgeMany, .ref a_judges, .ref a_delays, .ref a_tolds, .ref a_tens, .int i_keptMany, .int i_place, .ref a_told, .ref a_ways, .ref a_nextWays, .ref a_tallies, .ref a_presses, .ref a_values, .ref a_nextValues])), (a_blowMany, .inl (X.2.1 0, 2, .inl f_blowMany)), (a_blows, .inl (X.2.1 0, 400, .inl f_blows)), (a_downs, .inl (X.2.1 0, 48, .inl f_downs)), (a_forwards, .inl (X.2.1 0, 48, .inl f_forwards)), (a_homes, .inl (X.2.1 0, 2, .inl f_homes)), (a_judgeMany, .inl (X.2.1 0, 2, .inl f_judgeMany)), (a_judges, .inl (X.2.1 0, 112, .inl f_judges)), (a_noises, .inl (X.2.1 0, 2, .inl f_noises)), (a_roundMany, .inl (X.2.1 0, 2, .inl f_roundMany)), (a_takens, .inl (X.2.1 0, 48, .inl f_takens))] H → va_S A s.heap H locs → lv_has ls 7 [(0, .ref a_this), (1, .int x0), (2, .int x1), (3, .int l3), (4, .int l4), (5, .int l5), (6, .int l6)] → mX11_others_L60 x0 x1 f_blowMany f_blows f_downs f_forwards f_homes f_judgeMany f_judges f_noises f_roundMany f_takens k26 k43 n l3 l4 l5 l6 = some o → W p l e rmX11_others s m ([.ref a_this, .int x0, .int x1] : List Value).toArray below meth c H locs 0 0 Q (F0 m 60 ls []) := by
    intro k26 hk26 k43 hk43 n
    induction n with
    | zero => intro l3 l4 l5 l6  H locs ls hP hS hl hf; exact xn hf
    | succ n ih =>
      intro l3 l4 l5 l6  H locs ls hP hS hl hf
      have hf : mX11_others_B60 x0 x1 f_blowMany f_blows f_downs f_forwards f_homes f_judgeMany f_judges f_noises f_roundMany f_takens k26 k43 (mX11_others_L60 x0 x1 f_blowMany f_blows f_downs f_forwards f_homes f_judgeMany f_judges f_noises f_roundMany f_takens k26 k43 n) l3 l4 l5 l6 = some o := hf
      generalize mX11_others_L60 x0 x1 f_blowMany f_blows f_downs f_forwards f_homes f_judgeMany f_judges f_noises f_roundMany f_takens k26 k43 n = k60 at ih hf
      unfold mX11_others_B60 at hf
      refine lv_iload hx hb dX11_others_60 (lv_at hl 6 rfl) ?_
      refine lv_aload_n hx hb dX11_others_62 rfl (lv_at hl 0 rfl) ?_
      refine va_get (D := X.1) (ci := 11) (v := .ref a_judgeMany) (C := RX11) (T := TX11) (N := 24) hx hb hts in11 hown hG.1 hP 0 rfl rfl 10 (by decide) w2 (fun _ h9 => h9) rfl dX11_others_63 ?_
      refine lv_iconst (v := (0 : Int32)) hx hb dX11_others_66 (by decide) ?_
      refine va_iald (D := X.1) hx hb hG.1 hP 6 0 rfl rfl (vp_lit (by decide)) dX11_others_67 ?_
      refine lv_icmp_ge (tgt := 113) hx hb dX11_others_68 (by decide) (fun c12 => ?_) (fun c12 => ?_)
      · have hf := xt hf c12
        obtain ⟨v13, ev13, hf⟩ := lb_g hf
        refine lv_iinc (v := v13) (lv' := [(5, .int v13), (0, .ref a_this), (1, .int x0), (2, .int x1), (3, .int l3), (4, .int l4), (6, .int l6)]) hx hb dX11_others_113 hl (k := 5) rfl ev13.symm (by decide) rfl (fun ls hl => ?_)
        refine lv_goto (tgt := 43) hx hb dX11_others_116 (by decide) ?_
        exact hk43 l3 l4 v13  H _ ls hP  hS (lv_sub hl [1, 2, 3, 4, 5, 0] rfl) hf
      · have hf := xf hf c12
        refine lv_iload_n hx hb dX11_others_71 rfl (lv_at hl 3 rfl) ?_
        refine lv_aload_n hx hb dX11_others_72 rfl (lv_at hl 0 rfl) ?_
        refine lv_iload_n hx hb dX11_others_73 rfl (lv_at hl 1 rfl) ?_
        refine lv_iload hx hb dX11_others_74 (lv_at hl 4 rfl) ?_
        obtain ⟨o14, ho14, hf⟩ := ob_s hf
        refine xV_i (As := [.int x0, .int l4]) (b := a_this) (rest := [.int l3]) (ws2 := [(a_this, .inr (11, [.int i_length, .ref a_text, .ref a_roundMany, .ref a_blowMany, .ref a_blows, .ref a_forwards, .ref a_downs, .ref a_takens, .ref a_homes, .ref a_noises, .ref a_judgeMany, .ref a_judges, .ref a_delays, .ref a_tolds, .ref a_tens, .int i_keptMany, .int i_place, .ref a_told, .ref a_ways, .ref a_nextWays, .ref a_tallies, .ref a_presses, .ref a_values, .ref a_nextValues])), (a_blowMany, .inl (X.2.1 0, 2, .inl f_blowMany)), (a_blows, .inl (X.2.1 0, 400, .inl f_blows)), (a_downs, .inl (X.2.1 0, 48, .inl f_downs)), (a_forwards, .inl (X.2.1 0, 48, .inl f_forwards)), (a_homes, .inl (X.2.1 0, 2, .inl f_homes)), (a_judgeMany, .inl (X.2.1 0, 2, .inl f_judgeMany)), (a_judges, .inl (X.2.1 0, 112, .inl f_judges)), (a_noises, .inl (X.2.1 0, 2, .inl f_noises)), (a_roundMany, .inl (X.2.1 0, 2, .inl f_roundMany)), (a_takens, .inl (X.2.1 0, 48, .inl f_takens))]) hx hb hml hts hown hG hA hP hD rfl hS hl.1 (qX11_cardOf l X a_this a_blowMany a_blows a_downs a_forwards a_homes a_judges a_noises a_roundMany a_takens a_text a_judgeMany a_delays a_tolds a_tens a_told a_ways a_nextWays a_tallies a_presses a_values a_nextValues i_length i_keptMany i_place f_blowMany f_blows f_downs f_forwards f_homes f_judges f_noises f_roundMany f_takens x0 l4 o14 ho14) (cwV (y := yX11_cardOf) 2 hts gX11_others_X11_cardOf rfl rfl rfl hdvX11_cardOf ⟨Nat.le_of_ble_eq_true rfl, Nat.le_of_ble_eq_true rfl⟩) [0, 1, 2, 3, 4, 5, 7, 8, 9, 10] [6] [1, 2, 3, 4, 5, 6, 0, 7, 8, 9, 10] rfl rfl rfl rfl rfl rfl rfl (ci := 11) rfl 0 rfl rfl rfl (Nat.le_of_ble_eq_true rfl) ⟨Nat.le_of_ble_eq_true rfl, Nat.le_of_ble_eq_true rfl⟩ dX11_others_76 (fun H locs hP _ hS => ?_)
        refine lv_aload_n hx hb dX11_others_79 rfl (lv_at hl 0 rfl) ?_
        refine lv_iload_n hx hb dX11_others_80 rfl (lv_at hl 1 rfl) ?_
        refine lv_iload hx hb dX11_others_81 (lv_at hl 5 rfl) ?_
        obtain ⟨o16, ho16, hf⟩ := ob_s hf
        refine xV_i (As := [.int x0, .int l5]) (b := a_this) (rest := [.int o14, .int l3]) (ws2 := [(a_this, .inr (11, [.int i_length, .ref a_text, .ref a_roundMany, .ref a_blowMany, .ref a_blows, .ref a_forwards, .ref a_downs, .ref a_takens, .ref a_homes, .ref a_noises, .ref a_judgeMany, .ref a_judges, .ref a_delays, .ref a_tolds, .ref a_tens, .int i_keptMany, .int i_place, .ref a_told, .ref a_ways, .ref a_nextWays, .ref a_tallies, .ref a_presses, .ref a_values, .ref a_nextValues])), (a_blowMany, .inl (X.2.1 0, 2, .inl f_blowMany)), (a_blows, .inl (X.2.1 0, 400, .inl f_blows)), (a_downs, .inl (X.2.1 0, 48, .inl f_downs)), (a_forwards, .inl (X.2.1 0, 48, .inl f_forwards)), (a_homes, .inl (X.2.1 0, 2, .inl f_homes)), (a_judgeMany, .inl (X.2.1 0, 2, .inl f_judgeMany)), (a_judges, .inl (X.2.1 0, 112, .inl f_judges)), (a_noises, .inl (X.2.1 0, 2, .inl f_noises)), (a_roundMany, .inl (X.2.1 0, 2, .inl f_roundMany)), (a_takens, .inl (X.2.1 0, 48, .inl f_takens))]) hx hb hml hts hown hG hA hP hD rfl hS hl.1 (qX11_cardOf l X a_this a_blowMany a_blows a_downs a_forwards a_homes a_judges a_noises a_roundMany a_takens a_text a_judgeMany a_delays a_tolds a_tens a_told a_ways a_nextWays a_tallies a_presses a_values a_nextValues i_length i_keptMany i_place f_blowMany f_blows f_downs f_forwards f_homes f_judges f_noises f_roundMany f_takens x0 l5 o16 ho16) (cwV (y := yX11_cardOf) 2 hts gX11_others_X11_cardOf rfl rfl rfl hdvX11_cardOf ⟨Nat.le_of_ble_eq_true rfl, Nat.le_of_ble_eq_true rfl⟩) [0, 1, 2, 3, 4, 5, 7, 8, 9, 10] [6] [1, 2, 3, 4, 5, 6, 0, 7, 8, 9, 10] rfl rfl rfl rfl rfl rfl rfl (ci := 11) rfl 0 rfl rfl rfl (Nat.le_of_ble_eq_true rfl) ⟨Nat.le_of_ble_eq_true rfl, Nat.le_of_ble_eq_true rfl⟩ dX11_others_83 (fun H locs hP _ hS => ?_)
        refine lv_aload_n hx hb dX11_others_86 rfl (lv_at hl 0 rfl) ?_
        refine lv_iload_n hx hb dX11_others_87 rfl (lv_at hl 1 rfl) ?_
        refine lv_iload hx hb dX11_others_88 (lv_at hl 6 rfl) ?_
        obtain ⟨o18, ho18, hf⟩ := ob_s hf
        refine xV_i (As := [.int x0, .int l6]) (b := a_this) (rest := [.int o16, .int o14, .int l3]) (ws2 := [(a_this, .inr (11, [.int i_length, .ref a_text, .ref a_roundMany, .ref a_blowMany, .ref a_blows, .ref a_forwards, .ref a_downs, .ref a_takens, .ref a_homes, .ref a_noises, .ref a_judgeMany, .ref a_judges, .ref a_delays, .ref a_tolds, .ref a_tens, .int i_keptMany, .int i_place, .ref a_told, .ref a_ways, .ref a_nextWays, .ref a_tallies, .ref a_presses, .ref a_values, .ref a_nextValues])), (a_blowMany, .inl (X.2.1 0, 2, .inl f_blowMany)), (a_blows, .inl (X.2.1 0, 400, .inl f_blows)), (a_downs, .inl (X.2.1 0, 48, .inl f_downs)), (a_forwards, .inl (X.2.1 0, 48, .inl f_forwards)), (a_homes, .inl (X.2.1 0, 2, .inl f_homes)), (a_judgeMany, .inl (X.2.1 0, 2, .inl f_judgeMany)), (a_judges, .inl (X.2.1 0, 112, .inl f_judges)), (a_noises, .inl (X.2.1 0, 2, .inl f_noises)), (a_roundMany, .inl (X.2.1 0, 2, .inl f_roundMany)), (a_takens, .inl (X.2.1 0, 48, .inl f_takens))]) hx hb hml hts hown hG hA hP hD rfl hS hl.1 (qX11_cardOf l X a_this a_blowMany a_blows a_downs a_forwards a_homes a_judges a_noises a_roundMany a_takens a_text a_judgeMany a_delays a_tolds a_tens a_told a_ways a_nextWays a_tallies a_presses a_values a_nextValues i_length i_keptMany i_place f_blowMany f_blows f_downs f_forwards f_homes f_judges f_noises f_roundMany f_takens x0 l6 o18 ho18) (cwV (y := yX11_cardOf) 2 hts gX11_others_X11_cardOf rfl rfl rfl hdvX11_cardOf ⟨Nat.le_of_ble_eq_true rfl, Nat.le_of_ble_eq_true rfl⟩) [0, 1, 2, 3, 4, 5, 7, 8, 9, 10] [6] [1, 2, 3, 4, 5, 6, 0, 7, 8, 9, 10] rfl rfl rfl rfl rfl rfl rfl (ci := 11) rfl 0 rfl rfl rfl (Nat.le_of_ble_eq_true rfl) ⟨Nat.le_of_ble_eq_true rfl, Nat.le_of_ble_eq_true rfl⟩ dX11_others_90 (fun H locs hP _ hS => ?_)
        obtain ⟨o20, ho20, hf⟩ := ob_s hf
        refine xS_i (As := [.int o14, .int o16, .int o18]) (rest := [.int l3]) (ws2 := [(a_this, .inr (11, [.int i_length, .ref a_text, .ref a_roundMany, .ref a_blowMany, .ref a_blows, .ref a_forwards, .ref a_downs, .ref a_takens, .ref a_homes, .ref a_noises, .ref a_judgeMany, .ref a_judges, .ref a_delays, .ref a_tolds, .ref a_tens, .int i_keptMany, .int i_place, .ref a_told, .ref a_ways, .ref a_nextWays, .ref a_tallies, .ref a_presses, .ref a_values, .ref a_nextValues])), (a_blowMany, .inl (X.2.1 0, 2, .inl f_blowMany)), (a_blows, .inl (X.2.1 0, 400, .inl f_blows)), (a_downs, .inl (X.2.1 0, 48, .inl f_downs)), (a_forwards, .inl (X.2.1 0, 48, .inl f_forwards)), (a_homes, .inl (X.2.1 0, 2, .inl f_homes)), (a_judgeMany, .inl (X.2.1 0, 2, .inl f_judgeMany)), (a_judges, .inl (X.2.1 0, 112, .inl f_judges)), (a_noises, .inl (X.2.1 0, 2, .inl f_noises)), (a_roundMany, .inl (X.2.1 0, 2, .inl f_roundMany)), (a_takens, .inl (X.2.1 0, 48, .inl f_takens))]) hx hb hml hts hown hG hA hP hD rfl hS hl.1 (qX11_whoBy l X o14 o16 o18 o20 ho20) (va_cwS (y := yX11_whoBy) 3 hts gX11_others_X11_whoBy rfl rfl rfl hdsX11_whoBy ⟨Nat.le_of_ble_eq_true rfl, Nat.le_of_ble_eq_true rfl⟩) [] [0, 1, 2, 3, 4, 5, 6, 7, 8, 9, 10] [0, 1, 2, 3, 4, 5, 6, 7, 8, 9, 10] rfl rfl rfl rfl rfl rfl rfl rfl rfl (Nat.le_of_ble_eq_true rfl) ⟨Nat.le_of_ble_eq_true rfl, Nat.le_of_ble_eq_true rfl⟩ dX11_others_93 (fun H locs hP _ hS => ?_)
        refine lv_iload_n hx hb dX11_others_96 rfl (lv_at hl 2 rfl) ?_
        refine lv_icmp_ne (tgt := 104) hx hb dX11_others_97 (by decide) (fun c22 => ?_) (fun c22 => ?_)
        · have hf := xf hf c22
          refine lv_iconst (v := (0 : Int32)) hx hb dX11_others_104 (by decide) ?_
          refine lv_iadd hx hb dX11_others_105 ?_
          refine lv_topi (fun v23 ev23 => ?_)
          have hf := lb_s hf ev23
          refine lv_istore_n (lv' := [(3, .int v23), (0, .ref a_this), (1, .int x0), (2, .int x1), (4, .int l4), (5, .int l5), (6, .int l6)]) hx hb dX11_others_106 rfl hl (by decide) rfl (fun ls hl => ?_)
          obtain ⟨v24, ev24, hf⟩ := lb_g hf
          refine lv_iinc (v := v24) (lv' := [(6, .int v24), (3, .int v23), (0, .ref a_this), (1, .int x0), (2, .int x1), (4, .int l4), (5, .int l5)]) hx hb dX11_others_107 hl (k := 6) rfl ev24.symm (by decide) rfl (fun ls hl => ?_)
          refine lv_goto (tgt := 60) hx hb dX11_others_110 (by decide) ?_
          exact ih v23 l4 l5 v24  H _ ls hP  hS (lv_sub hl [2, 3, 4, 1, 5, 6, 0] rfl) hf
        · have hf := xt hf c22
          refine lv_iconst (v := (1 : Int32)) hx hb dX11_others_100 (by decide) ?_
          refine lv_goto (tgt := 105) hx hb dX11_others_101 (by decide) ?_
          refine lv_iadd hx hb dX11_others_105 ?_
          refine lv_topi (fun v25 ev25 => ?_)
          have hf := lb_s hf ev25
          refine lv_istore_n (lv' := [(3, .int v25), (0, .ref a_this), (1, .int x0), (2, .int x1), (4, .int l4), (5, .int l5), (6, .int l6)]) hx hb dX11_others_106 rfl hl (by decide) rfl (fun ls hl => ?_)
          obtain ⟨v26, ev26, hf⟩ := lb_g hf
          refine lv_iinc (v := v26) (lv' := [(6, .int v26), (3, .int v25), (0, .ref a_this), (1, .int x0), (2, .int x1), (4, .int l4), (5, .int l5)]) hx hb dX11_others_107 hl (k := 6) rfl ev26.symm (by decide) rfl (fun ls hl => ?_)
          refine lv_goto (tgt := 60) hx hb dX11_others_110 (by decide) ?_
          exact ih v25 l4 l5 v26  H _ ls hP  hS (lv_sub hl [2, 3, 4, 1, 5, 6, 0] rfl) hf
  have hL43 : ∀ (k26 : Int32 → Int32 → Option (Int32)) (hk26 : ∀ (l3 : Int32) (l4 : Int32)  (H : Heap) (locs : List Loc) (ls : Array Slot), va_P X.1 vwCl [(a_this, .inr (11, [.int i_length, .ref a_text, .ref a_roundMany, .ref a_blowMany, .ref a_blows, .ref a_forwards, .ref a_downs, .ref a_takens, .ref a_homes, .ref a_noises, .ref a_judgeMany, .ref a_judges, .ref a_delays, .ref a_tolds, .ref a_tens, .int i_keptMany, .int i_place, .ref a_told, .ref a_ways, .ref a_nextWays, .ref a_tallies, .ref a_presses, .ref a_values, .ref a_nextValues])), (a_blowMany, .inl (X.2.1 0, 2, .inl f_blowMany)), (a_blows, .inl (X.2.1 0, 400, .inl f_blows)), (a_downs, .inl (X.2.1 0, 48, .inl f_downs)), (a_forwards, .inl (X.2.1 0, 48, .inl f_forwards)), (a_homes, .inl (X.2.1 0, 2, .inl f_homes)), (a_judgeMany, .inl (X.2.1 0, 2, .inl f_judgeMany)), (a_judges, .inl (X.2.1 0, 112, .inl f_judges)), (a_noises, .inl (X.2.1 0, 2, .inl f_noises)), (a_roundMany, .inl (X.2.1 0, 2, .inl f_roundMany)), (a_takens, .inl (X.2.1 0, 48, .inl f_takens))] H → va_S A s.heap H locs → lv_has ls 7 [(0, .ref a_this), (1, .int x0), (2, .int x1), (3, .int l3), (4, .int l4)] → k26 l3 l4 = some o → W p l e rmX11_others s m ([.ref a_this, .int x0, .int x1] : List Value).toArray below meth c H locs 0 0 Q (F0 m 26 ls [])) (n : Nat) (l3 : Int32) (l4 : Int32) (l5 : Int32)  (H : Heap) (locs : List Loc) (ls : Array Slot), va_P X.1 vwCl [(a_this, .inr (11, [.int i_length, .ref a_text, .ref a_roundMany, .ref a_blowMany, .ref a_blows, .ref a_forwards, .ref a_downs, .ref a_takens, .ref a_homes, .ref a_noises, .ref a_judgeMany, .ref a_judges, .ref a_delays, .ref a_tolds, .ref a_tens, .int i_keptMany, .int i_place, .ref a_told, .ref a_ways, .ref a_nextWays, .ref a_tallies, .ref a_presses, .ref a_values, .ref a_nextValues])), (a_blowMany, .inl (X.2.1 0, 2, .inl f_blowMany)), (a_blows, .inl (X.2.1 0, 400, .inl f_blows)), (a_downs, .inl (X.2.1 0, 48, .inl f_downs)), (a_forwards, .inl (X.2.1 0, 48, .inl f_forwards)), (a_homes, .inl (X.2.1 0, 2, .inl f_homes)), (a_judgeMany, .inl (X.2.1 0, 2, .inl f_judgeMany)), (a_judges, .inl (X.2.1 0, 112, .inl f_judges)), (a_noises, .inl (X.2.1 0, 2, .inl f_noises)), (a_roundMany, .inl (X.2.1 0, 2, .inl f_roundMany)), (a_takens, .inl (X.2.1 0, 48, .inl f_takens))] H → va_S A s.heap H locs → lv_has ls 7 [(0, .ref a_this), (1, .int x0), (2, .int x1), (3, .int l3), (4, .int l4), (5, .int l5)] → mX11_others_L43 x0 x1 f_blowMany f_blows f_downs f_forwards f_homes f_judgeMany f_judges f_noises f_roundMany f_takens k26 n l3 l4 l5 = some o → W p l e rmX11_others s m ([.ref a_this, .int x0, .int x1] : List Value).toArray below meth c H locs 0 0 Q (F0 m 43 ls []) := by
    intro k26 hk26 n
    induction n with
    | zero => intro l3 l4 l5  H locs ls hP hS hl hf; exact xn hf
    | succ n ih =>
      intro l3 l4 l5  H locs ls hP hS hl hf
      have hf : mX11_others_B43 x0 x1 f_blowMany f_blows f_downs f_forwards f_homes f_judgeMany f_judges f_noises f_roundMany f_takens k26 (mX11_others_L43 x0 x1 f_blowMany f_blows f_downs f_forwards f_homes f_judgeMany f_judges f_noises f_roundMany f_takens k26 n) l3 l4 l5 = some o := hf
      generalize mX11_others_L43 x0 x1 f_blowMany f_blows f_downs f_forwards f_homes f_judgeMany f_judges f_noises f_roundMany f_takens k26 n = k43 at ih hf
      unfold mX11_others_B43 at hf
      refine lv_iload hx hb dX11_others_43 (lv_at hl 5 rfl) ?_
      refine lv_aload_n hx hb dX11_others_45 rfl (lv_at hl 0 rfl) ?_
      refine va_get (D := X.1) (ci := 11) (v := .ref a_judgeMany) (C := RX11) (T := TX11) (N := 24) hx hb hts in11 hown hG.1 hP 0 rfl rfl 10 (by decide) w2 (fun _ h9 => h9) rfl dX11_others_46 ?_
      refine lv_iconst (v := (0 : Int32)) hx hb dX11_others_49 (by decide) ?_
      refine va_iald (D := X.1) hx hb hG.1 hP 6 0 rfl rfl (vp_lit (by decide)) dX11_others_50 ?_
      refine lv_icmp_ge (tgt := 119) hx hb dX11_others_51 (by decide) (fun c9 => ?_) (fun c9 => ?_)
      · have hf := xt hf c9
        obtain ⟨v10, ev10, hf⟩ := lb_g hf
        refine lv_iinc (v := v10) (lv' := [(4, .int v10), (0, .ref a_this), (1, .int x0), (2, .int x1), (3, .int l3), (5, .int l5)]) hx hb dX11_others_119 hl (k := 4) rfl ev10.symm (by decide) rfl (fun ls hl => ?_)
        refine lv_goto (tgt := 26) hx hb dX11_others_122 (by decide) ?_
        exact hk26 l3 v10  H _ ls hP  hS (lv_sub hl [1, 2, 3, 4, 0] rfl) hf
      · have hf := xf hf c9
        refine lv_iload hx hb dX11_others_54 (lv_at hl 5 rfl) ?_
        refine lv_iconst (v := (1 : Int32)) hx hb dX11_others_56 (by decide) ?_
        refine lv_iadd hx hb dX11_others_57 ?_
        refine lv_topi (fun v11 ev11 => ?_)
        have hf := lb_s hf ev11
        refine lv_istore (lv' := [(6, .int v11), (0, .ref a_this), (1, .int x0), (2, .int x1), (3, .int l3), (4, .int l4), (5, .int l5)]) hx hb dX11_others_58 hl (by decide) rfl (fun ls hl => ?_)
        exact hL60 k26 hk26 k43 ih FUEL l3 l4 l5 v11  H _ ls hP  hS (lv_sub hl [1, 2, 3, 4, 5, 6, 0] rfl) hf
  have hL26 : ∀ (n : Nat) (l3 : Int32) (l4 : Int32)  (H : Heap) (locs : List Loc) (ls : Array Slot), va_P X.1 vwCl [(a_this, .inr (11, [.int i_length, .ref a_text, .ref a_roundMany, .ref a_blowMany, .ref a_blows, .ref a_forwards, .ref a_downs, .ref a_takens, .ref a_homes, .ref a_noises, .ref a_judgeMany, .ref a_judges, .ref a_delays, .ref a_tolds, .ref a_tens, .int i_keptMany, .int i_place, .ref a_told, .ref a_ways, .ref a_nextWays, .ref a_tallies, .ref a_presses, .ref a_values, .ref a_nextValues])), (a_blowMany, .inl (X.2.1 0, 2, .inl f_blowMany)), (a_blows, .inl (X.2.1 0, 400, .inl f_blows)), (a_downs, .inl (X.2.1 0, 48, .inl f_downs)), (a_forwards, .inl (X.2.1 0, 48, .inl f_forwards)), (a_homes, .inl (X.2.1 0, 2, .inl f_homes)), (a_judgeMany, .inl (X.2.1 0, 2, .inl f_judgeMany)), (a_judges, .inl (X.2.1 0, 112, .inl f_judges)), (a_noises, .inl (X.2.1 0, 2, .inl f_noises)), (a_roundMany, .inl (X.2.1 0, 2, .inl f_roundMany)), (a_takens, .inl (X.2.1 0, 48, .inl f_takens))] H → va_S A s.heap H locs → lv_has ls 7 [(0, .ref a_this), (1, .int x0), (2, .int x1), (3, .int l3), (4, .int l4)] → mX11_others_L26 x0 x1 f_blowMany f_blows f_downs f_forwards f_homes f_judgeMany f_judges f_noises f_roundMany f_takens  n l3 l4 = some o → W p l e rmX11_others s m ([.ref a_this, .int x0, .int x1] : List Value).toArray below meth c H locs 0 0 Q (F0 m 26 ls []) := by
    intro n
    induction n with
    | zero => intro l3 l4  H locs ls hP hS hl hf; exact xn hf
    | succ n ih =>
      intro l3 l4  H locs ls hP hS hl hf
      have hf : mX11_others_B26 x0 x1 f_blowMany f_blows f_downs f_forwards f_homes f_judgeMany f_judges f_noises f_roundMany f_takens  (mX11_others_L26 x0 x1 f_blowMany f_blows f_downs f_forwards f_homes f_judgeMany f_judges f_noises f_roundMany f_takens  n) l3 l4 = some o := hf
      generalize mX11_others_L26 x0 x1 f_blowMany f_blows f_downs f_forwards f_homes f_judgeMany f_judges f_noises f_roundMany f_takens  n = k26 at ih hf
      unfold mX11_others_B26 at hf
      refine lv_iload hx hb dX11_others_26 (lv_at hl 4 rfl) ?_
      refine lv_aload_n hx hb dX11_others_28 rfl (lv_at hl 0 rfl) ?_
      refine va_get (D := X.1) (ci := 11) (v := .ref a_judgeMany) (C := RX11) (T := TX11) (N := 24) hx hb hts in11 hown hG.1 hP 0 rfl rfl 10 (by decide) w2 (fun _ h9 => h9) rfl dX11_others_29 ?_
      refine lv_iconst (v := (0 : Int32)) hx hb dX11_others_32 (by decide) ?_
      refine va_iald (D := X.1) hx hb hG.1 hP 6 0 rfl rfl (vp_lit (by decide)) dX11_others_33 ?_
      refine lv_icmp_ge (tgt := 125) hx hb dX11_others_34 (by decide) (fun c7 => ?_) (fun c7 => ?_)
      · have hf := xt hf c7
        refine lv_iload_n hx hb dX11_others_125 rfl (lv_at hl 3 rfl) ?_
        obtain rfl := Option.some.inj hf
        exact ret H _ ls _ rfl hP hD hS dX11_others_126
      · have hf := xf hf c7
        refine lv_iload hx hb dX11_others_37 (lv_at hl 4 rfl) ?_
        refine lv_iconst (v := (1 : Int32)) hx hb dX11_others_39 (by decide) ?_
        refine lv_iadd hx hb dX11_others_40 ?_
        refine lv_topi (fun v8 ev8 => ?_)
        have hf := lb_s hf ev8
        refine lv_istore (lv' := [(5, .int v8), (0, .ref a_this), (1, .int x0), (2, .int x1), (3, .int l3), (4, .int l4)]) hx hb dX11_others_41 hl (by decide) rfl (fun ls hl => ?_)
        exact hL43 k26 ih FUEL l3 l4 v8  H _ ls hP  hS (lv_sub hl [1, 2, 3, 4, 5, 0] rfl) hf
  unfold mX11_others at hf
  refine lv_iload_n hx hb dX11_others_0 rfl (lv_at hl 1 rfl) ?_
  obtain ⟨o1, ho1, hf⟩ := ob_s hf
  refine xS_i (As := [.int x0]) (rest := []) (ws2 := [(a_this, .inr (11, [.int i_length, .ref a_text, .ref a_roundMany, .ref a_blowMany, .ref a_blows, .ref a_forwards, .ref a_downs, .ref a_takens, .ref a_homes, .ref a_noises, .ref a_judgeMany, .ref a_judges, .ref a_delays, .ref a_tolds, .ref a_tens, .int i_keptMany, .int i_place, .ref a_told, .ref a_ways, .ref a_nextWays, .ref a_tallies, .ref a_presses, .ref a_values, .ref a_nextValues])), (a_blowMany, .inl (X.2.1 0, 2, .inl f_blowMany)), (a_blows, .inl (X.2.1 0, 400, .inl f_blows)), (a_downs, .inl (X.2.1 0, 48, .inl f_downs)), (a_forwards, .inl (X.2.1 0, 48, .inl f_forwards)), (a_homes, .inl (X.2.1 0, 2, .inl f_homes)), (a_judgeMany, .inl (X.2.1 0, 2, .inl f_judgeMany)), (a_judges, .inl (X.2.1 0, 112, .inl f_judges)), (a_noises, .inl (X.2.1 0, 2, .inl f_noises)), (a_roundMany, .inl (X.2.1 0, 2, .inl f_roundMany)), (a_takens, .inl (X.2.1 0, 48, .inl f_takens))]) hx hb hml hts hown hG hA hP hD rfl hS hl.1 (qX11_isRule l X x0 o1 ho1) (va_cwS (y := yX11_isRule) 1 hts gX11_others_X11_isRule rfl rfl rfl hdsX11_isRule ⟨Nat.le_of_ble_eq_true rfl, Nat.le_of_ble_eq_true rfl⟩) [] [0, 1, 2, 3, 4, 5, 6, 7, 8, 9, 10] [0, 1, 2, 3, 4, 5, 6, 7, 8, 9, 10] rfl rfl rfl rfl rfl rfl rfl rfl rfl (Nat.le_of_ble_eq_true rfl) ⟨Nat.le_of_ble_eq_true rfl, Nat.le_of_ble_eq_true rfl⟩ dX11_others_1 (fun H locs hP _ hS => ?_)
  refine lv_if_eq (tgt := 19) hx hb dX11_others_4 (by decide) (fun c3 => ?_) (fun c3 => ?_)
  · have hf := xt hf c3
    refine lv_iconst (v := (-1 : Int32)) hx hb dX11_others_19 (by decide) ?_
    obtain rfl := Option.some.inj hf
    exact ret H _ ls _ rfl hP hD hS dX11_others_20
  · have hf := xf hf c3
    refine lv_iload_n hx hb dX11_others_7 rfl (lv_at hl 2 rfl) ?_
    refine lv_i2l hx hb dX11_others_8 rfl ?_
    refine lv_lconst (v := (0 : Int64)) hx hb dX11_others_9 rfl ?_
    refine lv_ldc2 (v := (2 : Int64)) hx hb hown w1 dX11_others_10 ?_
    obtain ⟨o4, ho4, hf⟩ := ob_s hf
    refine xS_i (As := [.long (Int32.toInt64 x1), .long (0 : Int64), .long (2 : Int64)]) (rest := []) (ws2 := [(a_this, .inr (11, [.int i_length, .ref a_text, .ref a_roundMany, .ref a_blowMany, .ref a_blows, .ref a_forwards, .ref a_downs, .ref a_takens, .ref a_homes, .ref a_noises, .ref a_judgeMany, .ref a_judges, .ref a_delays, .ref a_tolds, .ref a_tens, .int i_keptMany, .int i_place, .ref a_told, .ref a_ways, .ref a_nextWays, .ref a_tallies, .ref a_presses, .ref a_values, .ref a_nextValues])), (a_blowMany, .inl (X.2.1 0, 2, .inl f_blowMany)), (a_blows, .inl (X.2.1 0, 400, .inl f_blows)), (a_downs, .inl (X.2.1 0, 48, .inl f_downs)), (a_forwards, .inl (X.2.1 0, 48, .inl f_forwards)), (a_homes, .inl (X.2.1 0, 2, .inl f_homes)), (a_judgeMany, .inl (X.2.1 0, 2, .inl f_judgeMany)), (a_judges, .inl (X.2.1 0, 112, .inl f_judges)), (a_noises, .inl (X.2.1 0, 2, .inl f_noises)), (a_roundMany, .inl (X.2.1 0, 2, .inl f_roundMany)), (a_takens, .inl (X.2.1 0, 48, .inl f_takens))]) hx hb hml hts hown hG hA hP hD rfl hS hl.1 (qX11_in l X (Int32.toInt64 x1) (0 : Int64) (2 : Int64) o4 ho4) (va_cwS (y := yX11_in) 3 hts gX11_others_X11_in rfl rfl rfl hdsX11_in ⟨Nat.le_of_ble_eq_true rfl, Nat.le_of_ble_eq_true rfl⟩) [] [0, 1, 2, 3, 4, 5, 6, 7, 8, 9, 10] [0, 1, 2, 3, 4, 5, 6, 7, 8, 9, 10] rfl rfl rfl rfl rfl rfl rfl rfl rfl (Nat.le_of_ble_eq_true rfl) ⟨Nat.le_of_ble_eq_true rfl, Nat.le_of_ble_eq_true rfl⟩ dX11_others_13 (fun H locs hP _ hS => ?_)
    refine lv_if_ne (tgt := 21) hx hb dX11_others_16 (by decide) (fun c6 => ?_) (fun c6 => ?_)
    · have hf := xf hf c6
      refine lv_iconst (v := (0 : Int32)) hx hb dX11_others_21 (by decide) ?_
      refine lv_istore_n (lv' := [(3, .int (0 : Int32)), (0, .ref a_this), (1, .int x0), (2, .int x1)]) hx hb dX11_others_22 rfl hl (by decide) rfl (fun ls hl => ?_)
      refine lv_iconst (v := (0 : Int32)) hx hb dX11_others_23 (by decide) ?_
      refine lv_istore (lv' := [(4, .int (0 : Int32)), (3, .int (0 : Int32)), (0, .ref a_this), (1, .int x0), (2, .int x1)]) hx hb dX11_others_24 hl (by decide) rfl (fun ls hl => ?_)
      exact hL26  FUEL (0 : Int32) (0 : Int32)  H _ ls hP  hS (lv_sub hl [2, 3, 4, 1, 0] rfl) hf
    · have hf := xt hf c6
      refine lv_iconst (v := (-1 : Int32)) hx hb dX11_others_19 (by decide) ?_
      obtain rfl := Option.some.inj hf
      exact ret H _ ls _ rfl hP hD hS dX11_others_20
def mX11_men_B91 (x0 : Int32) (f_blowMany : Nat → Int32) (f_blows : Nat → Int32) (f_downs : Nat → Int32) (f_forwards : Nat → Int32) (f_homes : Nat → Int32) (f_judgeMany : Nat → Int32) (f_judges : Nat → Int32) (f_noises : Nat → Int32) (f_roundMany : Nat → Int32) (f_takens : Nat → Int32) (k91 : Int32 → Int32 → Int32 → Option (Int32)) (l2 : Int32) (l3 : Int32) (l4 : Int32) :
  Option (Int32) :=
  if (f_judgeMany (0 : Int32).toNatClampNeg) ≤ l4 then (some l3) else ((mX11_cardOf x0 l4 f_blowMany f_blows f_downs f_forwards f_homes f_judges f_noises f_roundMany f_takens).bind fun o9 =>
  if l2 = 0 then (lb (l3 ||| (0 : Int32)) fun v12 =>
  lb (l4 + (1 : Int32)) fun v13 =>
  k91 l2 v12 v13) else (if o9 = 0 then (lb (l3 ||| (0 : Int32)) fun v15 =>
  lb (l4 + (1 : Int32)) fun v16 =>
  k91 l2 v15 v16) else ((mX11_sign o9).bind fun o17 =>
  (mX11_sign l2).bind fun o19 =>
  if o17 = o19 then (lb (l3 ||| (0 : Int32)) fun v22 =>
  lb (l4 + (1 : Int32)) fun v23 =>
  k91 l2 v22 v23) else (lb (l3 ||| ((1 : Int32) <<< (l4 &&& 31))) fun v24 =>
  lb (l4 + (1 : Int32)) fun v25 =>
  k91 l2 v24 v25))))
def mX11_men_L91 (x0 : Int32) (f_blowMany : Nat → Int32) (f_blows : Nat → Int32) (f_downs : Nat → Int32) (f_forwards : Nat → Int32) (f_homes : Nat → Int32) (f_judgeMany : Nat → Int32) (f_judges : Nat → Int32) (f_noises : Nat → Int32) (f_roundMany : Nat → Int32) (f_takens : Nat → Int32) (n : Nat) (l2 : Int32) (l3 : Int32) (l4 : Int32) :
  Option (Int32) :=
  loopN (fun k (s : Int32 × Int32 × Int32) => mX11_men_B91 x0 f_blowMany f_blows f_downs f_forwards f_homes f_judgeMany f_judges f_noises f_roundMany f_takens  (fun l2 l3 l4 => k (l2, l3, l4)) s.1 s.2.1 s.2.2) n (l2, l3, l4)
def mX11_men_B54 (x0 : Int32) (f_blowMany : Nat → Int32) (f_blows : Nat → Int32) (f_downs : Nat → Int32) (f_forwards : Nat → Int32) (f_homes : Nat → Int32) (f_judgeMany : Nat → Int32) (f_judges : Nat → Int32) (f_noises : Nat → Int32) (f_roundMany : Nat → Int32) (f_takens : Nat → Int32) (k13 : Int32 → Int32 → Option (Int32)) (l2 : Int32) (l3 : Int32) (s0 : Int32) :
  Option (Int32) :=
  gi (((5 : Int32) * l3) + (2 : Int32)) 400 <|
  if (f_blows (((5 : Int32) * l3) + (2 : Int32)).toNatClampNeg) = 0 then (lb (l2 + s0) fun v30 =>
  lb (l3 + (1 : Int32)) fun v31 =>
  k13 v30 v31) else (lb (l2 + (-s0)) fun v28 =>
  lb (l3 + (1 : Int32)) fun v29 =>
  k13 v28 v29)
def mX11_men_B13 (x0 : Int32) (f_blowMany : Nat → Int32) (f_blows : Nat → Int32) (f_downs : Nat → Int32) (f_forwards : Nat → Int32) (f_homes : Nat → Int32) (f_judgeMany : Nat → Int32) (f_judges : Nat → Int32) (f_noises : Nat → Int32) (f_roundMany : Nat → Int32) (f_takens : Nat → Int32) (k13 : Int32 → Int32 → Option (Int32)) (l2 : Int32) (l3 : Int32) :
  Option (Int32) :=
  if (f_blowMany (0 : Int32).toNatClampNeg) ≤ l3 then (mX11_men_L91 x0 f_blowMany f_blows f_downs f_forwards f_homes f_judgeMany f_judges f_noises f_roundMany f_takens  FUEL l2 (0 : Int32) (0 : Int32)) else (gi ((5 : Int32) * l3) 400 <|
  if (f_roundMany (0 : Int32).toNatClampNeg) ≤ (f_blows ((5 : Int32) * l3).toNatClampNeg) then (mX11_men_B54 x0 f_blowMany f_blows f_downs f_forwards f_homes f_judgeMany f_judges f_noises f_roundMany f_takens k13 l2 l3 (0 : Int32)) else (gi (((5 : Int32) * l3) + (3 : Int32)) 400 <|
  mX11_men_B54 x0 f_blowMany f_blows f_downs f_forwards f_homes f_judgeMany f_judges f_noises f_roundMany f_takens k13 l2 l3 (f_blows (((5 : Int32) * l3) + (3 : Int32)).toNatClampNeg)))
def mX11_men_L13 (x0 : Int32) (f_blowMany : Nat → Int32) (f_blows : Nat → Int32) (f_downs : Nat → Int32) (f_forwards : Nat → Int32) (f_homes : Nat → Int32) (f_judgeMany : Nat → Int32) (f_judges : Nat → Int32) (f_noises : Nat → Int32) (f_roundMany : Nat → Int32) (f_takens : Nat → Int32) (n : Nat) (l2 : Int32) (l3 : Int32) :
  Option (Int32) :=
  loopN (fun k (s : Int32 × Int32) => mX11_men_B13 x0 f_blowMany f_blows f_downs f_forwards f_homes f_judgeMany f_judges f_noises f_roundMany f_takens  (fun l2 l3 => k (l2, l3)) s.1 s.2) n (l2, l3)
def mX11_men (x0 : Int32) (f_blowMany : Nat → Int32) (f_blows : Nat → Int32) (f_downs : Nat → Int32) (f_forwards : Nat → Int32) (f_homes : Nat → Int32) (f_judgeMany : Nat → Int32) (f_judges : Nat → Int32) (f_noises : Nat → Int32) (f_roundMany : Nat → Int32) (f_takens : Nat → Int32) :
  Option (Int32) :=
  (mX11_isRule x0).bind fun o1 =>
  if o1 = 0 then (some (-1 : Int32)) else (mX11_men_L13 x0 f_blowMany f_blows f_downs f_forwards f_homes f_judgeMany f_judges f_noises f_roundMany f_takens  FUEL (0 : Int32) (0 : Int32))
theorem hdsX11_men : yX11_men.cls ≠ "java/lang/invoke/MethodHandle" ∧ yX11_men.cls ≠ "java/lang/invoke/VarHandle" ∧ (parseMethodDescriptor yX11_men.desc).map (fun d => d.parameters.length) = some 1 := by decide +kernel
theorem hdvX11_men : yX11_men.cls = RX11 ∧ yX11_men.cls ≠ "java/lang/invoke/MethodHandle" ∧ yX11_men.cls ≠ "java/lang/invoke/VarHandle" ∧ (parseMethodDescriptor yX11_men.desc).map (fun d => d.parameters.length) = some 1 := by decide +kernel
abbrev rmX11_men : Room := { frames := 7, cells := 0, slots := 0, locals := 167 }
set_option maxHeartbeats 4000000 in
set_option maxRecDepth 100000 in
theorem qX11_men (l : Launch) (X : XT) (a_this : Nat) (a_blowMany : Nat) (a_blows : Nat) (a_downs : Nat) (a_forwards : Nat) (a_homes : Nat) (a_judgeMany : Nat) (a_judges : Nat) (a_noises : Nat) (a_roundMany : Nat) (a_takens : Nat) (a_text : Nat) (a_delays : Nat) (a_tolds : Nat) (a_tens : Nat) (a_told : Nat) (a_ways : Nat) (a_nextWays : Nat) (a_tallies : Nat) (a_presses : Nat) (a_values : Nat) (a_nextValues : Nat)  (i_length : Int32) (i_keptMany : Int32) (i_place : Int32) (f_blowMany : Nat → Int32) (f_blows : Nat → Int32) (f_downs : Nat → Int32) (f_forwards : Nat → Int32) (f_homes : Nat → Int32) (f_judgeMany : Nat → Int32) (f_judges : Nat → Int32) (f_noises : Nat → Int32) (f_roundMany : Nat → Int32) (f_takens : Nat → Int32) (x0 : Int32) (o : Int32) (hf : mX11_men x0 f_blowMany f_blows f_downs f_forwards f_homes f_judgeMany f_judges f_noises f_roundMany f_takens = some o) :
    MI l yX11_men wsX11_men rmX11_men X [.ref a_this, .int x0] [(a_this, .inr (11, [.int i_length, .ref a_text, .ref a_roundMany, .ref a_blowMany, .ref a_blows, .ref a_forwards, .ref a_downs, .ref a_takens, .ref a_homes, .ref a_noises, .ref a_judgeMany, .ref a_judges, .ref a_delays, .ref a_tolds, .ref a_tens, .int i_keptMany, .int i_place, .ref a_told, .ref a_ways, .ref a_nextWays, .ref a_tallies, .ref a_presses, .ref a_values, .ref a_nextValues])), (a_blowMany, .inl (X.2.1 0, 2, .inl f_blowMany)), (a_blows, .inl (X.2.1 0, 400, .inl f_blows)), (a_downs, .inl (X.2.1 0, 48, .inl f_downs)), (a_forwards, .inl (X.2.1 0, 48, .inl f_forwards)), (a_homes, .inl (X.2.1 0, 2, .inl f_homes)), (a_judgeMany, .inl (X.2.1 0, 2, .inl f_judgeMany)), (a_judges, .inl (X.2.1 0, 112, .inl f_judges)), (a_noises, .inl (X.2.1 0, 2, .inl f_noises)), (a_roundMany, .inl (X.2.1 0, 2, .inl f_roundMany)), (a_takens, .inl (X.2.1 0, 48, .inl f_takens))]  [(a_this, .inr (11, [.int i_length, .ref a_text, .ref a_roundMany, .ref a_blowMany, .ref a_blows, .ref a_forwards, .ref a_downs, .ref a_takens, .ref a_homes, .ref a_noises, .ref a_judgeMany, .ref a_judges, .ref a_delays, .ref a_tolds, .ref a_tens, .int i_keptMany, .int i_place, .ref a_told, .ref a_ways, .ref a_nextWays, .ref a_tallies, .ref a_presses, .ref a_values, .ref a_nextValues])), (a_blowMany, .inl (X.2.1 0, 2, .inl f_blowMany)), (a_blows, .inl (X.2.1 0, 400, .inl f_blows)), (a_downs, .inl (X.2.1 0, 48, .inl f_downs)), (a_forwards, .inl (X.2.1 0, 48, .inl f_forwards)), (a_homes, .inl (X.2.1 0, 2, .inl f_homes)), (a_judgeMany, .inl (X.2.1 0, 2, .inl f_judgeMany)), (a_judges, .inl (X.2.1 0, 112, .inl f_judges)), (a_noises, .inl (X.2.1 0, 2, .inl f_noises)), (a_roundMany, .inl (X.2.1 0, 2, .inl f_roundMany)), (a_takens, .inl (X.2.1 0, 48, .inl f_takens))] o := by
  refine MI_ofH (cc := cX11_men) (maxL := 6) (rt := .int) (by decide) rfl (Nat.le_of_ble_eq_true rfl) ?_
  intro p e s m below meth c A Q H ls hx hb hml hts hown hA hD hG hP hS hl ret
  have hown : s.vm.findClass RX11 = some m.cls := hown
  have hD : aD A [a_this, a_blowMany, a_blows, a_downs, a_forwards, a_homes, a_judgeMany, a_judges, a_noises, a_roundMany, a_takens] := hD
  have hl : lv_has ls 6 [(0, .ref a_this), (1, .int x0)] := hl
  have w1 := hts (Cond.fieldLink RX11 16 "ThreeCardsModel" "blowMany" "[I") (List.mem_of_getElem? (i := 1) rfl)
  have w2 := hts (Cond.fieldLink RX11 19 "ThreeCardsModel" "blows" "[I") (List.mem_of_getElem? (i := 2) rfl)
  have w3 := hts (Cond.fieldLink RX11 13 "ThreeCardsModel" "roundMany" "[I") (List.mem_of_getElem? (i := 3) rfl)
  have w4 := hts (Cond.fieldLink RX11 37 "ThreeCardsModel" "judgeMany" "[I") (List.mem_of_getElem? (i := 4) rfl)
  have in11 : ∀ w ∈ u_ws RX11 TX11 24, w ∈ wsX11_men := by decide +kernel
  have hL91 : ∀ (n : Nat) (l2 : Int32) (l3 : Int32) (l4 : Int32)  (H : Heap) (locs : List Loc) (ls : Array Slot), va_P X.1 vwCl [(a_this, .inr (11, [.int i_length, .ref a_text, .ref a_roundMany, .ref a_blowMany, .ref a_blows, .ref a_forwards, .ref a_downs, .ref a_takens, .ref a_homes, .ref a_noises, .ref a_judgeMany, .ref a_judges, .ref a_delays, .ref a_tolds, .ref a_tens, .int i_keptMany, .int i_place, .ref a_told, .ref a_ways, .ref a_nextWays, .ref a_tallies, .ref a_presses, .ref a_values, .ref a_nextValues])), (a_blowMany, .inl (X.2.1 0, 2, .inl f_blowMany)), (a_blows, .inl (X.2.1 0, 400, .inl f_blows)), (a_downs, .inl (X.2.1 0, 48, .inl f_downs)), (a_forwards, .inl (X.2.1 0, 48, .inl f_forwards)), (a_homes, .inl (X.2.1 0, 2, .inl f_homes)), (a_judgeMany, .inl (X.2.1 0, 2, .inl f_judgeMany)), (a_judges, .inl (X.2.1 0, 112, .inl f_judges)), (a_noises, .inl (X.2.1 0, 2, .inl f_noises)), (a_roundMany, .inl (X.2.1 0, 2, .inl f_roundMany)), (a_takens, .inl (X.2.1 0, 48, .inl f_takens))] H → va_S A s.heap H locs → lv_has ls 6 [(0, .ref a_this), (1, .int x0), (2, .int l2), (3, .int l3), (4, .int l4)] → mX11_men_L91 x0 f_blowMany f_blows f_downs f_forwards f_homes f_judgeMany f_judges f_noises f_roundMany f_takens  n l2 l3 l4 = some o → W p l e rmX11_men s m ([.ref a_this, .int x0] : List Value).toArray below meth c H locs 0 0 Q (F0 m 91 ls []) := by
    intro n
    induction n with
    | zero => intro l2 l3 l4  H locs ls hP hS hl hf; exact xn hf
    | succ n ih =>
      intro l2 l3 l4  H locs ls hP hS hl hf
      have hf : mX11_men_B91 x0 f_blowMany f_blows f_downs f_forwards f_homes f_judgeMany f_judges f_noises f_roundMany f_takens  (mX11_men_L91 x0 f_blowMany f_blows f_downs f_forwards f_homes f_judgeMany f_judges f_noises f_roundMany f_takens  n) l2 l3 l4 = some o := hf
      generalize mX11_men_L91 x0 f_blowMany f_blows f_downs f_forwards f_homes f_judgeMany f_judges f_noises f_roundMany f_takens  n = k91 at ih hf
      unfold mX11_men_B91 at hf
      refine lv_iload hx hb dX11_men_91 (lv_at hl 4 rfl) ?_
      refine lv_aload_n hx hb dX11_men_93 rfl (lv_at hl 0 rfl) ?_
      refine va_get (D := X.1) (ci := 11) (v := .ref a_judgeMany) (C := RX11) (T := TX11) (N := 24) hx hb hts in11 hown hG.1 hP 0 rfl rfl 10 (by decide) w4 (fun _ h9 => h9) rfl dX11_men_94 ?_
      refine lv_iconst (v := (0 : Int32)) hx hb dX11_men_97 (by decide) ?_
      refine va_iald (D := X.1) hx hb hG.1 hP 6 0 rfl rfl (vp_lit (by decide)) dX11_men_98 ?_
      refine lv_icmp_ge (tgt := 149) hx hb dX11_men_99 (by decide) (fun c8 => ?_) (fun c8 => ?_)
      · have hf := xt hf c8
        refine lv_iload_n hx hb dX11_men_149 rfl (lv_at hl 3 rfl) ?_
        obtain rfl := Option.some.inj hf
        exact ret H _ ls _ rfl hP hD hS dX11_men_150
      · have hf := xf hf c8
        refine lv_aload_n hx hb dX11_men_102 rfl (lv_at hl 0 rfl) ?_
        refine lv_iload_n hx hb dX11_men_103 rfl (lv_at hl 1 rfl) ?_
        refine lv_iload hx hb dX11_men_104 (lv_at hl 4 rfl) ?_
        obtain ⟨o9, ho9, hf⟩ := ob_s hf
        refine xV_i (As := [.int x0, .int l4]) (b := a_this) (rest := []) (ws2 := [(a_this, .inr (11, [.int i_length, .ref a_text, .ref a_roundMany, .ref a_blowMany, .ref a_blows, .ref a_forwards, .ref a_downs, .ref a_takens, .ref a_homes, .ref a_noises, .ref a_judgeMany, .ref a_judges, .ref a_delays, .ref a_tolds, .ref a_tens, .int i_keptMany, .int i_place, .ref a_told, .ref a_ways, .ref a_nextWays, .ref a_tallies, .ref a_presses, .ref a_values, .ref a_nextValues])), (a_blowMany, .inl (X.2.1 0, 2, .inl f_blowMany)), (a_blows, .inl (X.2.1 0, 400, .inl f_blows)), (a_downs, .inl (X.2.1 0, 48, .inl f_downs)), (a_forwards, .inl (X.2.1 0, 48, .inl f_forwards)), (a_homes, .inl (X.2.1 0, 2, .inl f_homes)), (a_judgeMany, .inl (X.2.1 0, 2, .inl f_judgeMany)), (a_judges, .inl (X.2.1 0, 112, .inl f_judges)), (a_noises, .inl (X.2.1 0, 2, .inl f_noises)), (a_roundMany, .inl (X.2.1 0, 2, .inl f_roundMany)), (a_takens, .inl (X.2.1 0, 48, .inl f_takens))]) hx hb hml hts hown hG hA hP hD rfl hS hl.1 (qX11_cardOf l X a_this a_blowMany a_blows a_downs a_forwards a_homes a_judges a_noises a_roundMany a_takens a_text a_judgeMany a_delays a_tolds a_tens a_told a_ways a_nextWays a_tallies a_presses a_values a_nextValues i_length i_keptMany i_place f_blowMany f_blows f_downs f_forwards f_homes f_judges f_noises f_roundMany f_takens x0 l4 o9 ho9) (cwV (y := yX11_cardOf) 2 hts gX11_men_X11_cardOf rfl rfl rfl hdvX11_cardOf ⟨Nat.le_of_ble_eq_true rfl, Nat.le_of_ble_eq_true rfl⟩) [0, 1, 2, 3, 4, 5, 7, 8, 9, 10] [6] [1, 2, 3, 4, 5, 6, 0, 7, 8, 9, 10] rfl rfl rfl rfl rfl rfl rfl (ci := 11) rfl 0 rfl rfl rfl (Nat.le_of_ble_eq_true rfl) ⟨Nat.le_of_ble_eq_true rfl, Nat.le_of_ble_eq_true rfl⟩ dX11_men_106 (fun H locs hP _ hS => ?_)
        refine lv_istore (lv' := [(5, .int o9), (0, .ref a_this), (1, .int x0), (2, .int l2), (3, .int l3), (4, .int l4)]) hx hb dX11_men_109 hl (by decide) rfl (fun ls hl => ?_)
        refine lv_iload_n hx hb dX11_men_111 rfl (lv_at hl 4 rfl) ?_
        refine lv_iload_n hx hb dX11_men_112 rfl (lv_at hl 3 rfl) ?_
        refine lv_if_eq (tgt := 140) hx hb dX11_men_113 (by decide) (fun c11 => ?_) (fun c11 => ?_)
        · have hf := xt hf c11
          refine lv_iconst (v := (0 : Int32)) hx hb dX11_men_140 (by decide) ?_
          refine lv_ior hx hb dX11_men_141 ?_
          refine lv_topi (fun v12 ev12 => ?_)
          have hf := lb_s hf ev12
          refine lv_istore_n (lv' := [(3, .int v12), (5, .int o9), (0, .ref a_this), (1, .int x0), (2, .int l2), (4, .int l4)]) hx hb dX11_men_142 rfl hl (by decide) rfl (fun ls hl => ?_)
          obtain ⟨v13, ev13, hf⟩ := lb_g hf
          refine lv_iinc (v := v13) (lv' := [(4, .int v13), (3, .int v12), (5, .int o9), (0, .ref a_this), (1, .int x0), (2, .int l2)]) hx hb dX11_men_143 hl (k := 5) rfl ev13.symm (by decide) rfl (fun ls hl => ?_)
          refine lv_goto (tgt := 91) hx hb dX11_men_146 (by decide) ?_
          exact ih l2 v12 v13  H _ ls hP  hS (lv_sub hl [3, 4, 5, 1, 0] rfl) hf
        · have hf := xf hf c11
          refine lv_iload hx hb dX11_men_116 (lv_at hl 0 rfl) ?_
          refine lv_if_eq (tgt := 140) hx hb dX11_men_118 (by decide) (fun c14 => ?_) (fun c14 => ?_)
          · have hf := xt hf c14
            refine lv_iconst (v := (0 : Int32)) hx hb dX11_men_140 (by decide) ?_
            refine lv_ior hx hb dX11_men_141 ?_
            refine lv_topi (fun v15 ev15 => ?_)
            have hf := lb_s hf ev15
            refine lv_istore_n (lv' := [(3, .int v15), (5, .int o9), (0, .ref a_this), (1, .int x0), (2, .int l2), (4, .int l4)]) hx hb dX11_men_142 rfl hl (by decide) rfl (fun ls hl => ?_)
            obtain ⟨v16, ev16, hf⟩ := lb_g hf
            refine lv_iinc (v := v16) (lv' := [(4, .int v16), (3, .int v15), (5, .int o9), (0, .ref a_this), (1, .int x0), (2, .int l2)]) hx hb dX11_men_143 hl (k := 5) rfl ev16.symm (by decide) rfl (fun ls hl => ?_)
            refine lv_goto (tgt := 91) hx hb dX11_men_146 (by decide) ?_
            exact ih l2 v15 v16  H _ ls hP  hS (lv_sub hl [3, 4, 5, 1, 0] rfl) hf
          · have hf := xf hf c14
            refine lv_iload hx hb dX11_men_121 (lv_at hl 0 rfl) ?_
            obtain ⟨o17, ho17, hf⟩ := ob_s hf
            refine xS_i (As := [.int o9]) (rest := [.int l3]) (ws2 := [(a_this, .inr (11, [.int i_length, .ref a_text, .ref a_roundMany, .ref a_blowMany, .ref a_blows, .ref a_forwards, .ref a_downs, .ref a_takens, .ref a_homes, .ref a_noises, .ref a_judgeMany, .ref a_judges, .ref a_delays, .ref a_tolds, .ref a_tens, .int i_keptMany, .int i_place, .ref a_told, .ref a_ways, .ref a_nextWays, .ref a_tallies, .ref a_presses, .ref a_values, .ref a_nextValues])), (a_blowMany, .inl (X.2.1 0, 2, .inl f_blowMany)), (a_blows, .inl (X.2.1 0, 400, .inl f_blows)), (a_downs, .inl (X.2.1 0, 48, .inl f_downs)), (a_forwards, .inl (X.2.1 0, 48, .inl f_forwards)), (a_homes, .inl (X.2.1 0, 2, .inl f_homes)), (a_judgeMany, .inl (X.2.1 0, 2, .inl f_judgeMany)), (a_judges, .inl (X.2.1 0, 112, .inl f_judges)), (a_noises, .inl (X.2.1 0, 2, .inl f_noises)), (a_roundMany, .inl (X.2.1 0, 2, .inl f_roundMany)), (a_takens, .inl (X.2.1 0, 48, .inl f_takens))]) hx hb hml hts hown hG hA hP hD rfl hS hl.1 (qX11_sign l X o9 o17 ho17) (va_cwS (y := yX11_sign) 1 hts gX11_men_X11_sign rfl rfl rfl hdsX11_sign ⟨Nat.le_of_ble_eq_true rfl, Nat.le_of_ble_eq_true rfl⟩) [] [0, 1, 2, 3, 4, 5, 6, 7, 8, 9, 10] [0, 1, 2, 3, 4, 5, 6, 7, 8, 9, 10] rfl rfl rfl rfl rfl rfl rfl rfl rfl (Nat.le_of_ble_eq_true rfl) ⟨Nat.le_of_ble_eq_true rfl, Nat.le_of_ble_eq_true rfl⟩ dX11_men_123 (fun H locs hP _ hS => ?_)
            refine lv_iload_n hx hb dX11_men_126 rfl (lv_at hl 3 rfl) ?_
            obtain ⟨o19, ho19, hf⟩ := ob_s hf
            refine xS_i (As := [.int l2]) (rest := [.int o17, .int l3]) (ws2 := [(a_this, .inr (11, [.int i_length, .ref a_text, .ref a_roundMany, .ref a_blowMany, .ref a_blows, .ref a_forwards, .ref a_downs, .ref a_takens, .ref a_homes, .ref a_noises, .ref a_judgeMany, .ref a_judges, .ref a_delays, .ref a_tolds, .ref a_tens, .int i_keptMany, .int i_place, .ref a_told, .ref a_ways, .ref a_nextWays, .ref a_tallies, .ref a_presses, .ref a_values, .ref a_nextValues])), (a_blowMany, .inl (X.2.1 0, 2, .inl f_blowMany)), (a_blows, .inl (X.2.1 0, 400, .inl f_blows)), (a_downs, .inl (X.2.1 0, 48, .inl f_downs)), (a_forwards, .inl (X.2.1 0, 48, .inl f_forwards)), (a_homes, .inl (X.2.1 0, 2, .inl f_homes)), (a_judgeMany, .inl (X.2.1 0, 2, .inl f_judgeMany)), (a_judges, .inl (X.2.1 0, 112, .inl f_judges)), (a_noises, .inl (X.2.1 0, 2, .inl f_noises)), (a_roundMany, .inl (X.2.1 0, 2, .inl f_roundMany)), (a_takens, .inl (X.2.1 0, 48, .inl f_takens))]) hx hb hml hts hown hG hA hP hD rfl hS hl.1 (qX11_sign l X l2 o19 ho19) (va_cwS (y := yX11_sign) 1 hts gX11_men_X11_sign rfl rfl rfl hdsX11_sign ⟨Nat.le_of_ble_eq_true rfl, Nat.le_of_ble_eq_true rfl⟩) [] [0, 1, 2, 3, 4, 5, 6, 7, 8, 9, 10] [0, 1, 2, 3, 4, 5, 6, 7, 8, 9, 10] rfl rfl rfl rfl rfl rfl rfl rfl rfl (Nat.le_of_ble_eq_true rfl) ⟨Nat.le_of_ble_eq_true rfl, Nat.le_of_ble_eq_true rfl⟩ dX11_men_127 (fun H locs hP _ hS => ?_)
            refine lv_icmp_eq (tgt := 140) hx hb dX11_men_130 (by decide) (fun c21 => ?_) (fun c21 => ?_)
            · have hf := xt hf c21
              refine lv_iconst (v := (0 : Int32)) hx hb dX11_men_140 (by decide) ?_
              refine lv_ior hx hb dX11_men_141 ?_
              refine lv_topi (fun v22 ev22 => ?_)
              have hf := lb_s hf ev22
              refine lv_istore_n (lv' := [(3, .int v22), (5, .int o9), (0, .ref a_this), (1, .int x0), (2, .int l2), (4, .int l4)]) hx hb dX11_men_142 rfl hl (by decide) rfl (fun ls hl => ?_)
              obtain ⟨v23, ev23, hf⟩ := lb_g hf
              refine lv_iinc (v := v23) (lv' := [(4, .int v23), (3, .int v22), (5, .int o9), (0, .ref a_this), (1, .int x0), (2, .int l2)]) hx hb dX11_men_143 hl (k := 5) rfl ev23.symm (by decide) rfl (fun ls hl => ?_)
              refine lv_goto (tgt := 91) hx hb dX11_men_146 (by decide) ?_
              exact ih l2 v22 v23  H _ ls hP  hS (lv_sub hl [3, 4, 5, 1, 0] rfl) hf
            · have hf := xf hf c21
              refine lv_iconst (v := (1 : Int32)) hx hb dX11_men_133 (by decide) ?_
              refine lv_iload hx hb dX11_men_134 (lv_at hl 5 rfl) ?_
              refine lv_ishl hx hb dX11_men_136 ?_
              refine lv_goto (tgt := 141) hx hb dX11_men_137 (by decide) ?_
              refine lv_ior hx hb dX11_men_141 ?_
              refine lv_topi (fun v24 ev24 => ?_)
              have hf := lb_s hf ev24
              refine lv_istore_n (lv' := [(3, .int v24), (5, .int o9), (0, .ref a_this), (1, .int x0), (2, .int l2), (4, .int l4)]) hx hb dX11_men_142 rfl hl (by decide) rfl (fun ls hl => ?_)
              obtain ⟨v25, ev25, hf⟩ := lb_g hf
              refine lv_iinc (v := v25) (lv' := [(4, .int v25), (3, .int v24), (5, .int o9), (0, .ref a_this), (1, .int x0), (2, .int l2)]) hx hb dX11_men_143 hl (k := 5) rfl ev25.symm (by decide) rfl (fun ls hl => ?_)
              refine lv_goto (tgt := 91) hx hb dX11_men_146 (by decide) ?_
              exact ih l2 v24 v25  H _ ls hP  hS (lv_sub hl [3, 4, 5, 1, 0] rfl) hf
  have hB54 : ∀ (k13 : Int32 → Int32 → Option (Int32)) (hk13 : ∀ (l2 : Int32) (l3 : Int32)  (H : Heap) (locs : List Loc) (ls : Array Slot), va_P X.1 vwCl [(a_this, .inr (11, [.int i_length, .ref a_text, .ref a_roundMany, .ref a_blowMany, .ref a_blows, .ref a_forwards, .ref a_downs, .ref a_takens, .ref a_homes, .ref a_noises, .ref a_judgeMany, .ref a_judges, .ref a_delays, .ref a_tolds, .ref a_tens, .int i_keptMany, .int i_place, .ref a_told, .ref a_ways, .ref a_nextWays, .ref a_tallies, .ref a_presses, .ref a_values, .ref a_nextValues])), (a_blowMany, .inl (X.2.1 0, 2, .inl f_blowMany)), (a_blows, .inl (X.2.1 0, 400, .inl f_blows)), (a_downs, .inl (X.2.1 0, 48, .inl f_downs)), (a_forwards, .inl (X.2.1 0, 48, .inl f_forwards)), (a_homes, .inl (X.2.1 0, 2, .inl f_homes)), (a_judgeMany, .inl (X.2.1 0, 2, .inl f_judgeMany)), (a_judges, .inl (X.2.1 0, 112, .inl f_judges)), (a_noises, .inl (X.2.1 0, 2, .inl f_noises)), (a_roundMany, .inl (X.2.1 0, 2, .inl f_roundMany)), (a_takens, .inl (X.2.1 0, 48, .inl f_takens))] H → va_S A s.heap H locs → lv_has ls 6 [(0, .ref a_this), (1, .int x0), (2, .int l2), (3, .int l3)] → k13 l2 l3 = some o → W p l e rmX11_men s m ([.ref a_this, .int x0] : List Value).toArray below meth c H locs 0 0 Q (F0 m 13 ls [])) (l2 : Int32) (l3 : Int32) (s0 : Int32)  (H : Heap) (locs : List Loc) (ls : Array Slot), va_P X.1 vwCl [(a_this, .inr (11, [.int i_length, .ref a_text, .ref a_roundMany, .ref a_blowMany, .ref a_blows, .ref a_forwards, .ref a_downs, .ref a_takens, .ref a_homes, .ref a_noises, .ref a_judgeMany, .ref a_judges, .ref a_delays, .ref a_tolds, .ref a_tens, .int i_keptMany, .int i_place, .ref a_told, .ref a_ways, .ref a_nextWays, .ref a_tallies, .ref a_presses, .ref a_values, .ref a_nextValues])), (a_blowMany, .inl (X.2.1 0, 2, .inl f_blowMany)), (a_blows, .inl (X.2.1 0, 400, .inl f_blows)), (a_downs, .inl (X.2.1 0, 48, .inl f_downs)), (a_forwards, .inl (X.2.1 0, 48, .inl f_forwards)), (a_homes, .inl (X.2.1 0, 2, .inl f_homes)), (a_judgeMany, .inl (X.2.1 0, 2, .inl f_judgeMany)), (a_judges, .inl (X.2.1 0, 112, .inl f_judges)), (a_noises, .inl (X.2.1 0, 2, .inl f_noises)), (a_roundMany, .inl (X.2.1 0, 2, .inl f_roundMany)), (a_takens, .inl (X.2.1 0, 48, .inl f_takens))] H → va_S A s.heap H locs → lv_has ls 6 [(0, .ref a_this), (1, .int x0), (2, .int l2), (3, .int l3)] → mX11_men_B54 x0 f_blowMany f_blows f_downs f_forwards f_homes f_judgeMany f_judges f_noises f_roundMany f_takens k13 l2 l3 s0 = some o → W p l e rmX11_men s m ([.ref a_this, .int x0] : List Value).toArray below meth c H locs 0 0 Q (F0 m 54 ls [.int s0]) := by
    intro k13 hk13 l2 l3 s0  H locs ls hP hS hl hf
    unfold mX11_men_B54 at hf
    refine lv_istore (lv' := [(4, .int s0), (0, .ref a_this), (1, .int x0), (2, .int l2), (3, .int l3)]) hx hb dX11_men_54 hl (by decide) rfl (fun ls hl => ?_)
    refine lv_iload_n hx hb dX11_men_56 rfl (lv_at hl 3 rfl) ?_
    refine lv_aload_n hx hb dX11_men_57 rfl (lv_at hl 1 rfl) ?_
    refine va_get (D := X.1) (ci := 11) (v := .ref a_blows) (C := RX11) (T := TX11) (N := 24) hx hb hts in11 hown hG.1 hP 0 rfl rfl 4 (by decide) w2 (fun _ h9 => h9) rfl dX11_men_58 ?_
    refine lv_iconst (v := (5 : Int32)) hx hb dX11_men_61 (by decide) ?_
    refine lv_iload_n hx hb dX11_men_62 rfl (lv_at hl 4 rfl) ?_
    refine lv_imul hx hb dX11_men_63 ?_
    refine lv_iconst (v := (2 : Int32)) hx hb dX11_men_64 (by decide) ?_
    refine lv_iadd hx hb dX11_men_65 ?_
    obtain ⟨h26, hf⟩ := gi_s hf
    refine va_iald (D := X.1) hx hb hG.1 hP 2 0 rfl rfl h26 dX11_men_66 ?_
    refine lv_if_ne (tgt := 75) hx hb dX11_men_67 (by decide) (fun c27 => ?_) (fun c27 => ?_)
    · have hf := xf hf c27
      refine lv_iload hx hb dX11_men_75 (lv_at hl 0 rfl) ?_
      refine lv_ineg hx hb dX11_men_77 ?_
      refine lv_iadd hx hb dX11_men_78 ?_
      refine lv_topi (fun v28 ev28 => ?_)
      have hf := lb_s hf ev28
      refine lv_istore_n (lv' := [(2, .int v28), (4, .int s0), (0, .ref a_this), (1, .int x0), (3, .int l3)]) hx hb dX11_men_79 rfl hl (by decide) rfl (fun ls hl => ?_)
      obtain ⟨v29, ev29, hf⟩ := lb_g hf
      refine lv_iinc (v := v29) (lv' := [(3, .int v29), (2, .int v28), (4, .int s0), (0, .ref a_this), (1, .int x0)]) hx hb dX11_men_80 hl (k := 4) rfl ev29.symm (by decide) rfl (fun ls hl => ?_)
      refine lv_goto (tgt := 13) hx hb dX11_men_83 (by decide) ?_
      exact hk13 v28 v29  H _ ls hP  hS (lv_sub hl [3, 4, 1, 0] rfl) hf
    · have hf := xt hf c27
      refine lv_iload hx hb dX11_men_70 (lv_at hl 0 rfl) ?_
      refine lv_goto (tgt := 78) hx hb dX11_men_72 (by decide) ?_
      refine lv_iadd hx hb dX11_men_78 ?_
      refine lv_topi (fun v30 ev30 => ?_)
      have hf := lb_s hf ev30
      refine lv_istore_n (lv' := [(2, .int v30), (4, .int s0), (0, .ref a_this), (1, .int x0), (3, .int l3)]) hx hb dX11_men_79 rfl hl (by decide) rfl (fun ls hl => ?_)
      obtain ⟨v31, ev31, hf⟩ := lb_g hf
      refine lv_iinc (v := v31) (lv' := [(3, .int v31), (2, .int v30), (4, .int s0), (0, .ref a_this), (1, .int x0)]) hx hb dX11_men_80 hl (k := 4) rfl ev31.symm (by decide) rfl (fun ls hl => ?_)
      refine lv_goto (tgt := 13) hx hb dX11_men_83 (by decide) ?_
      exact hk13 v30 v31  H _ ls hP  hS (lv_sub hl [3, 4, 1, 0] rfl) hf
  have hL13 : ∀ (n : Nat) (l2 : Int32) (l3 : Int32)  (H : Heap) (locs : List Loc) (ls : Array Slot), va_P X.1 vwCl [(a_this, .inr (11, [.int i_length, .ref a_text, .ref a_roundMany, .ref a_blowMany, .ref a_blows, .ref a_forwards, .ref a_downs, .ref a_takens, .ref a_homes, .ref a_noises, .ref a_judgeMany, .ref a_judges, .ref a_delays, .ref a_tolds, .ref a_tens, .int i_keptMany, .int i_place, .ref a_told, .ref a_ways, .ref a_nextWays, .ref a_tallies, .ref a_presses, .ref a_values, .ref a_nextValues])), (a_blowMany, .inl (X.2.1 0, 2, .inl f_blowMany)), (a_blows, .inl (X.2.1 0, 400, .inl f_blows)), (a_downs, .inl (X.2.1 0, 48, .inl f_downs)), (a_forwards, .inl (X.2.1 0, 48, .inl f_forwards)), (a_homes, .inl (X.2.1 0, 2, .inl f_homes)), (a_judgeMany, .inl (X.2.1 0, 2, .inl f_judgeMany)), (a_judges, .inl (X.2.1 0, 112, .inl f_judges)), (a_noises, .inl (X.2.1 0, 2, .inl f_noises)), (a_roundMany, .inl (X.2.1 0, 2, .inl f_roundMany)), (a_takens, .inl (X.2.1 0, 48, .inl f_takens))] H → va_S A s.heap H locs → lv_has ls 6 [(0, .ref a_this), (1, .int x0), (2, .int l2), (3, .int l3)] → mX11_men_L13 x0 f_blowMany f_blows f_downs f_forwards f_homes f_judgeMany f_judges f_noises f_roundMany f_takens  n l2 l3 = some o → W p l e rmX11_men s m ([.ref a_this, .int x0] : List Value).toArray below meth c H locs 0 0 Q (F0 m 13 ls []) := by
    intro n
    induction n with
    | zero => intro l2 l3  H locs ls hP hS hl hf; exact xn hf
    | succ n ih =>
      intro l2 l3  H locs ls hP hS hl hf
      have hf : mX11_men_B13 x0 f_blowMany f_blows f_downs f_forwards f_homes f_judgeMany f_judges f_noises f_roundMany f_takens  (mX11_men_L13 x0 f_blowMany f_blows f_downs f_forwards f_homes f_judgeMany f_judges f_noises f_roundMany f_takens  n) l2 l3 = some o := hf
      generalize mX11_men_L13 x0 f_blowMany f_blows f_downs f_forwards f_homes f_judgeMany f_judges f_noises f_roundMany f_takens  n = k13 at ih hf
      unfold mX11_men_B13 at hf
      refine lv_iload_n hx hb dX11_men_13 rfl (lv_at hl 3 rfl) ?_
      refine lv_aload_n hx hb dX11_men_14 rfl (lv_at hl 0 rfl) ?_
      refine va_get (D := X.1) (ci := 11) (v := .ref a_blowMany) (C := RX11) (T := TX11) (N := 24) hx hb hts in11 hown hG.1 hP 0 rfl rfl 3 (by decide) w1 (fun _ h9 => h9) rfl dX11_men_15 ?_
      refine lv_iconst (v := (0 : Int32)) hx hb dX11_men_18 (by decide) ?_
      refine va_iald (D := X.1) hx hb hG.1 hP 1 0 rfl rfl (vp_lit (by decide)) dX11_men_19 ?_
      refine lv_icmp_ge (tgt := 86) hx hb dX11_men_20 (by decide) (fun c4 => ?_) (fun c4 => ?_)
      · have hf := xt hf c4
        refine lv_iconst (v := (0 : Int32)) hx hb dX11_men_86 (by decide) ?_
        refine lv_istore_n (lv' := [(3, .int (0 : Int32)), (0, .ref a_this), (1, .int x0), (2, .int l2)]) hx hb dX11_men_87 rfl hl (by decide) rfl (fun ls hl => ?_)
        refine lv_iconst (v := (0 : Int32)) hx hb dX11_men_88 (by decide) ?_
        refine lv_istore (lv' := [(4, .int (0 : Int32)), (3, .int (0 : Int32)), (0, .ref a_this), (1, .int x0), (2, .int l2)]) hx hb dX11_men_89 hl (by decide) rfl (fun ls hl => ?_)
        exact hL91  FUEL l2 (0 : Int32) (0 : Int32)  H _ ls hP  hS (lv_sub hl [2, 3, 4, 1, 0] rfl) hf
      · have hf := xf hf c4
        refine lv_aload_n hx hb dX11_men_23 rfl (lv_at hl 0 rfl) ?_
        refine va_get (D := X.1) (ci := 11) (v := .ref a_blows) (C := RX11) (T := TX11) (N := 24) hx hb hts in11 hown hG.1 hP 0 rfl rfl 4 (by decide) w2 (fun _ h9 => h9) rfl dX11_men_24 ?_
        refine lv_iconst (v := (5 : Int32)) hx hb dX11_men_27 (by decide) ?_
        refine lv_iload_n hx hb dX11_men_28 rfl (lv_at hl 3 rfl) ?_
        refine lv_imul hx hb dX11_men_29 ?_
        obtain ⟨h5, hf⟩ := gi_s hf
        refine va_iald (D := X.1) hx hb hG.1 hP 2 0 rfl rfl h5 dX11_men_30 ?_
        refine lv_aload_n hx hb dX11_men_31 rfl (lv_at hl 0 rfl) ?_
        refine va_get (D := X.1) (ci := 11) (v := .ref a_roundMany) (C := RX11) (T := TX11) (N := 24) hx hb hts in11 hown hG.1 hP 0 rfl rfl 2 (by decide) w3 (fun _ h9 => h9) rfl dX11_men_32 ?_
        refine lv_iconst (v := (0 : Int32)) hx hb dX11_men_35 (by decide) ?_
        refine va_iald (D := X.1) hx hb hG.1 hP 9 0 rfl rfl (vp_lit (by decide)) dX11_men_36 ?_
        refine lv_icmp_ge (tgt := 53) hx hb dX11_men_37 (by decide) (fun c6 => ?_) (fun c6 => ?_)
        · have hf := xt hf c6
          refine lv_iconst (v := (0 : Int32)) hx hb dX11_men_53 (by decide) ?_
          exact hB54 k13 ih l2 l3 (0 : Int32)  H _ ls hP  hS (lv_sub hl [0, 1, 2, 3] rfl) hf
        · have hf := xf hf c6
          refine lv_aload_n hx hb dX11_men_40 rfl (lv_at hl 0 rfl) ?_
          refine va_get (D := X.1) (ci := 11) (v := .ref a_blows) (C := RX11) (T := TX11) (N := 24) hx hb hts in11 hown hG.1 hP 0 rfl rfl 4 (by decide) w2 (fun _ h9 => h9) rfl dX11_men_41 ?_
          refine lv_iconst (v := (5 : Int32)) hx hb dX11_men_44 (by decide) ?_
          refine lv_iload_n hx hb dX11_men_45 rfl (lv_at hl 3 rfl) ?_
          refine lv_imul hx hb dX11_men_46 ?_
          refine lv_iconst (v := (3 : Int32)) hx hb dX11_men_47 (by decide) ?_
          refine lv_iadd hx hb dX11_men_48 ?_
          obtain ⟨h7, hf⟩ := gi_s hf
          refine va_iald (D := X.1) hx hb hG.1 hP 2 0 rfl rfl h7 dX11_men_49 ?_
          refine lv_goto (tgt := 54) hx hb dX11_men_50 (by decide) ?_
          exact hB54 k13 ih l2 l3 (f_blows (((5 : Int32) * l3) + (3 : Int32)).toNatClampNeg)  H _ ls hP  hS (lv_sub hl [0, 1, 2, 3] rfl) hf
  unfold mX11_men at hf
  refine lv_iload_n hx hb dX11_men_0 rfl (lv_at hl 1 rfl) ?_
  obtain ⟨o1, ho1, hf⟩ := ob_s hf
  refine xS_i (As := [.int x0]) (rest := []) (ws2 := [(a_this, .inr (11, [.int i_length, .ref a_text, .ref a_roundMany, .ref a_blowMany, .ref a_blows, .ref a_forwards, .ref a_downs, .ref a_takens, .ref a_homes, .ref a_noises, .ref a_judgeMany, .ref a_judges, .ref a_delays, .ref a_tolds, .ref a_tens, .int i_keptMany, .int i_place, .ref a_told, .ref a_ways, .ref a_nextWays, .ref a_tallies, .ref a_presses, .ref a_values, .ref a_nextValues])), (a_blowMany, .inl (X.2.1 0, 2, .inl f_blowMany)), (a_blows, .inl (X.2.1 0, 400, .inl f_blows)), (a_downs, .inl (X.2.1 0, 48, .inl f_downs)), (a_forwards, .inl (X.2.1 0, 48, .inl f_forwards)), (a_homes, .inl (X.2.1 0, 2, .inl f_homes)), (a_judgeMany, .inl (X.2.1 0, 2, .inl f_judgeMany)), (a_judges, .inl (X.2.1 0, 112, .inl f_judges)), (a_noises, .inl (X.2.1 0, 2, .inl f_noises)), (a_roundMany, .inl (X.2.1 0, 2, .inl f_roundMany)), (a_takens, .inl (X.2.1 0, 48, .inl f_takens))]) hx hb hml hts hown hG hA hP hD rfl hS hl.1 (qX11_isRule l X x0 o1 ho1) (va_cwS (y := yX11_isRule) 1 hts gX11_men_X11_isRule rfl rfl rfl hdsX11_isRule ⟨Nat.le_of_ble_eq_true rfl, Nat.le_of_ble_eq_true rfl⟩) [] [0, 1, 2, 3, 4, 5, 6, 7, 8, 9, 10] [0, 1, 2, 3, 4, 5, 6, 7, 8, 9, 10] rfl rfl rfl rfl rfl rfl rfl rfl rfl (Nat.le_of_ble_eq_true rfl) ⟨Nat.le_of_ble_eq_true rfl, Nat.le_of_ble_eq_true rfl⟩ dX11_men_1 (fun H locs hP _ hS => ?_)
  refine lv_if_ne (tgt := 9) hx hb dX11_men_4 (by decide) (fun c3 => ?_) (fun c3 => ?_)
  · have hf := xf hf c3
    refine lv_iconst (v := (0 : Int32)) hx hb dX11_men_9 (by decide) ?_
    refine lv_istore_n (lv' := [(2, .int (0 : Int32)), (0, .ref a_this), (1, .int x0)]) hx hb dX11_men_10 rfl hl (by decide) rfl (fun ls hl => ?_)
    refine lv_iconst (v := (0 : Int32)) hx hb dX11_men_11 (by decide) ?_
    refine lv_istore_n (lv' := [(3, .int (0 : Int32)), (2, .int (0 : Int32)), (0, .ref a_this), (1, .int x0)]) hx hb dX11_men_12 rfl hl (by decide) rfl (fun ls hl => ?_)
    exact hL13  FUEL (0 : Int32) (0 : Int32)  H _ ls hP  hS (lv_sub hl [2, 3, 1, 0] rfl) hf
  · have hf := xt hf c3
    refine lv_iconst (v := (-1 : Int32)) hx hb dX11_men_7 (by decide) ?_
    obtain rfl := Option.some.inj hf
    exact ret H _ ls _ rfl hP hD hS dX11_men_8
def mX11_coinsOf_B4 (x0 : Int32) (f_blowMany : Nat → Int32) (f_blows : Nat → Int32) (f_forwards : Nat → Int32) (f_homes : Nat → Int32) (f_judges : Nat → Int32) (f_noises : Nat → Int32) (f_roundMany : Nat → Int32) (k4 : Int32 → Int32 → Option (Int32)) (l2 : Int32) (l3 : Int32) :
  Option (Int32) :=
  if (f_roundMany (0 : Int32).toNatClampNeg) ≤ l3 then (some l2) else ((mX11_isClose x0 l3 f_blowMany f_blows f_forwards f_homes f_judges f_noises).bind fun o2 =>
  if o2 = 0 then (lb (l2 + (0 : Int32)) fun v5 =>
  lb (l3 + (1 : Int32)) fun v6 =>
  k4 v5 v6) else (lb (l2 + (1 : Int32)) fun v7 =>
  lb (l3 + (1 : Int32)) fun v8 =>
  k4 v7 v8))
def mX11_coinsOf_L4 (x0 : Int32) (f_blowMany : Nat → Int32) (f_blows : Nat → Int32) (f_forwards : Nat → Int32) (f_homes : Nat → Int32) (f_judges : Nat → Int32) (f_noises : Nat → Int32) (f_roundMany : Nat → Int32) (n : Nat) (l2 : Int32) (l3 : Int32) :
  Option (Int32) :=
  loopN (fun k (s : Int32 × Int32) => mX11_coinsOf_B4 x0 f_blowMany f_blows f_forwards f_homes f_judges f_noises f_roundMany  (fun l2 l3 => k (l2, l3)) s.1 s.2) n (l2, l3)
def mX11_coinsOf (x0 : Int32) (f_blowMany : Nat → Int32) (f_blows : Nat → Int32) (f_forwards : Nat → Int32) (f_homes : Nat → Int32) (f_judges : Nat → Int32) (f_noises : Nat → Int32) (f_roundMany : Nat → Int32) :
  Option (Int32) :=
  mX11_coinsOf_L4 x0 f_blowMany f_blows f_forwards f_homes f_judges f_noises f_roundMany  FUEL (0 : Int32) (0 : Int32)
theorem hdsX11_coinsOf : yX11_coinsOf.cls ≠ "java/lang/invoke/MethodHandle" ∧ yX11_coinsOf.cls ≠ "java/lang/invoke/VarHandle" ∧ (parseMethodDescriptor yX11_coinsOf.desc).map (fun d => d.parameters.length) = some 1 := by decide +kernel
theorem hdvX11_coinsOf : yX11_coinsOf.cls = RX11 ∧ yX11_coinsOf.cls ≠ "java/lang/invoke/MethodHandle" ∧ yX11_coinsOf.cls ≠ "java/lang/invoke/VarHandle" ∧ (parseMethodDescriptor yX11_coinsOf.desc).map (fun d => d.parameters.length) = some 1 := by decide +kernel
abbrev rmX11_coinsOf : Room := { frames := 5, cells := 0, slots := 0, locals := 116 }
set_option maxHeartbeats 4000000 in
set_option maxRecDepth 100000 in
theorem qX11_coinsOf (l : Launch) (X : XT) (a_this : Nat) (a_blowMany : Nat) (a_blows : Nat) (a_forwards : Nat) (a_homes : Nat) (a_judges : Nat) (a_noises : Nat) (a_roundMany : Nat) (a_text : Nat) (a_downs : Nat) (a_takens : Nat) (a_judgeMany : Nat) (a_delays : Nat) (a_tolds : Nat) (a_tens : Nat) (a_told : Nat) (a_ways : Nat) (a_nextWays : Nat) (a_tallies : Nat) (a_presses : Nat) (a_values : Nat) (a_nextValues : Nat)  (i_length : Int32) (i_keptMany : Int32) (i_place : Int32) (f_blowMany : Nat → Int32) (f_blows : Nat → Int32) (f_forwards : Nat → Int32) (f_homes : Nat → Int32) (f_judges : Nat → Int32) (f_noises : Nat → Int32) (f_roundMany : Nat → Int32) (x0 : Int32) (o : Int32) (hf : mX11_coinsOf x0 f_blowMany f_blows f_forwards f_homes f_judges f_noises f_roundMany = some o) :
    MI l yX11_coinsOf wsX11_coinsOf rmX11_coinsOf X [.ref a_this, .int x0] [(a_this, .inr (11, [.int i_length, .ref a_text, .ref a_roundMany, .ref a_blowMany, .ref a_blows, .ref a_forwards, .ref a_downs, .ref a_takens, .ref a_homes, .ref a_noises, .ref a_judgeMany, .ref a_judges, .ref a_delays, .ref a_tolds, .ref a_tens, .int i_keptMany, .int i_place, .ref a_told, .ref a_ways, .ref a_nextWays, .ref a_tallies, .ref a_presses, .ref a_values, .ref a_nextValues])), (a_blowMany, .inl (X.2.1 0, 2, .inl f_blowMany)), (a_blows, .inl (X.2.1 0, 400, .inl f_blows)), (a_forwards, .inl (X.2.1 0, 48, .inl f_forwards)), (a_homes, .inl (X.2.1 0, 2, .inl f_homes)), (a_judges, .inl (X.2.1 0, 112, .inl f_judges)), (a_noises, .inl (X.2.1 0, 2, .inl f_noises)), (a_roundMany, .inl (X.2.1 0, 2, .inl f_roundMany))]  [(a_this, .inr (11, [.int i_length, .ref a_text, .ref a_roundMany, .ref a_blowMany, .ref a_blows, .ref a_forwards, .ref a_downs, .ref a_takens, .ref a_homes, .ref a_noises, .ref a_judgeMany, .ref a_judges, .ref a_delays, .ref a_tolds, .ref a_tens, .int i_keptMany, .int i_place, .ref a_told, .ref a_ways, .ref a_nextWays, .ref a_tallies, .ref a_presses, .ref a_values, .ref a_nextValues])), (a_blowMany, .inl (X.2.1 0, 2, .inl f_blowMany)), (a_blows, .inl (X.2.1 0, 400, .inl f_blows)), (a_forwards, .inl (X.2.1 0, 48, .inl f_forwards)), (a_homes, .inl (X.2.1 0, 2, .inl f_homes)), (a_judges, .inl (X.2.1 0, 112, .inl f_judges)), (a_noises, .inl (X.2.1 0, 2, .inl f_noises)), (a_roundMany, .inl (X.2.1 0, 2, .inl f_roundMany))] o := by
  refine MI_ofH (cc := cX11_coinsOf) (maxL := 4) (rt := .int) (by decide) rfl (Nat.le_of_ble_eq_true rfl) ?_
  intro p e s m below meth c A Q H ls hx hb hml hts hown hA hD hG hP hS hl ret
  have hown : s.vm.findClass RX11 = some m.cls := hown
  have hD : aD A [a_this, a_blowMany, a_blows, a_forwards, a_homes, a_judges, a_noises, a_roundMany] := hD
  have hl : lv_has ls 4 [(0, .ref a_this), (1, .int x0)] := hl
  have w1 := hts (Cond.fieldLink RX11 13 "ThreeCardsModel" "roundMany" "[I") (List.mem_of_getElem? (i := 1) rfl)
  have in11 : ∀ w ∈ u_ws RX11 TX11 24, w ∈ wsX11_coinsOf := by decide +kernel
  have hL4 : ∀ (n : Nat) (l2 : Int32) (l3 : Int32)  (H : Heap) (locs : List Loc) (ls : Array Slot), va_P X.1 vwCl [(a_this, .inr (11, [.int i_length, .ref a_text, .ref a_roundMany, .ref a_blowMany, .ref a_blows, .ref a_forwards, .ref a_downs, .ref a_takens, .ref a_homes, .ref a_noises, .ref a_judgeMany, .ref a_judges, .ref a_delays, .ref a_tolds, .ref a_tens, .int i_keptMany, .int i_place, .ref a_told, .ref a_ways, .ref a_nextWays, .ref a_tallies, .ref a_presses, .ref a_values, .ref a_nextValues])), (a_blowMany, .inl (X.2.1 0, 2, .inl f_blowMany)), (a_blows, .inl (X.2.1 0, 400, .inl f_blows)), (a_forwards, .inl (X.2.1 0, 48, .inl f_forwards)), (a_homes, .inl (X.2.1 0, 2, .inl f_homes)), (a_judges, .inl (X.2.1 0, 112, .inl f_judges)), (a_noises, .inl (X.2.1 0, 2, .inl f_noises)), (a_roundMany, .inl (X.2.1 0, 2, .inl f_roundMany))] H → va_S A s.heap H locs → lv_has ls 4 [(0, .ref a_this), (1, .int x0), (2, .int l2), (3, .int l3)] → mX11_coinsOf_L4 x0 f_blowMany f_blows f_forwards f_homes f_judges f_noises f_roundMany  n l2 l3 = some o → W p l e rmX11_coinsOf s m ([.ref a_this, .int x0] : List Value).toArray below meth c H locs 0 0 Q (F0 m 4 ls []) := by
    intro n
    induction n with
    | zero => intro l2 l3  H locs ls hP hS hl hf; exact xn hf
    | succ n ih =>
      intro l2 l3  H locs ls hP hS hl hf
      have hf : mX11_coinsOf_B4 x0 f_blowMany f_blows f_forwards f_homes f_judges f_noises f_roundMany  (mX11_coinsOf_L4 x0 f_blowMany f_blows f_forwards f_homes f_judges f_noises f_roundMany  n) l2 l3 = some o := hf
      generalize mX11_coinsOf_L4 x0 f_blowMany f_blows f_forwards f_homes f_judges f_noises f_roundMany  n = k4 at ih hf
      unfold mX11_coinsOf_B4 at hf
      refine lv_iload_n hx hb dX11_coinsOf_4 rfl (lv_at hl 3 rfl) ?_
      refine lv_aload_n hx hb dX11_coinsOf_5 rfl (lv_at hl 0 rfl) ?_
      refine va_get (D := X.1) (ci := 11) (v := .ref a_roundMany) (C := RX11) (T := TX11) (N := 24) hx hb hts in11 hown hG.1 hP 0 rfl rfl 2 (by decide) w1 (fun _ h9 => h9) rfl dX11_coinsOf_6 ?_
      refine lv_iconst (v := (0 : Int32)) hx hb dX11_coinsOf_9 (by decide) ?_
      refine va_iald (D := X.1) hx hb hG.1 hP 7 0 rfl rfl (vp_lit (by decide)) dX11_coinsOf_10 ?_
      refine lv_icmp_ge (tgt := 37) hx hb dX11_coinsOf_11 (by decide) (fun c1 => ?_) (fun c1 => ?_)
      · have hf := xt hf c1
        refine lv_iload_n hx hb dX11_coinsOf_37 rfl (lv_at hl 2 rfl) ?_
        obtain rfl := Option.some.inj hf
        exact ret H _ ls _ rfl hP hD hS dX11_coinsOf_38
      · have hf := xf hf c1
        refine lv_iload_n hx hb dX11_coinsOf_14 rfl (lv_at hl 2 rfl) ?_
        refine lv_aload_n hx hb dX11_coinsOf_15 rfl (lv_at hl 0 rfl) ?_
        refine lv_iload_n hx hb dX11_coinsOf_16 rfl (lv_at hl 1 rfl) ?_
        refine lv_iload_n hx hb dX11_coinsOf_17 rfl (lv_at hl 3 rfl) ?_
        obtain ⟨o2, ho2, hf⟩ := ob_s hf
        refine xV_i (As := [.int x0, .int l3]) (b := a_this) (rest := [.int l2]) (ws2 := [(a_this, .inr (11, [.int i_length, .ref a_text, .ref a_roundMany, .ref a_blowMany, .ref a_blows, .ref a_forwards, .ref a_downs, .ref a_takens, .ref a_homes, .ref a_noises, .ref a_judgeMany, .ref a_judges, .ref a_delays, .ref a_tolds, .ref a_tens, .int i_keptMany, .int i_place, .ref a_told, .ref a_ways, .ref a_nextWays, .ref a_tallies, .ref a_presses, .ref a_values, .ref a_nextValues])), (a_blowMany, .inl (X.2.1 0, 2, .inl f_blowMany)), (a_blows, .inl (X.2.1 0, 400, .inl f_blows)), (a_forwards, .inl (X.2.1 0, 48, .inl f_forwards)), (a_homes, .inl (X.2.1 0, 2, .inl f_homes)), (a_judges, .inl (X.2.1 0, 112, .inl f_judges)), (a_noises, .inl (X.2.1 0, 2, .inl f_noises)), (a_roundMany, .inl (X.2.1 0, 2, .inl f_roundMany))]) hx hb hml hts hown hG hA hP hD rfl hS hl.1 (qX11_isClose l X a_this a_blowMany a_blows a_forwards a_homes a_judges a_noises a_text a_roundMany a_downs a_takens a_judgeMany a_delays a_tolds a_tens a_told a_ways a_nextWays a_tallies a_presses a_values a_nextValues i_length i_keptMany i_place f_blowMany f_blows f_forwards f_homes f_judges f_noises x0 l3 o2 ho2) (cwV (y := yX11_isClose) 2 hts gX11_coinsOf_X11_isClose rfl rfl rfl hdvX11_isClose ⟨Nat.le_of_ble_eq_true rfl, Nat.le_of_ble_eq_true rfl⟩) [0, 1, 2, 3, 4, 5, 6] [7] [1, 2, 3, 4, 5, 6, 7, 0] rfl rfl rfl rfl rfl rfl rfl (ci := 11) rfl 0 rfl rfl rfl (Nat.le_of_ble_eq_true rfl) ⟨Nat.le_of_ble_eq_true rfl, Nat.le_of_ble_eq_true rfl⟩ dX11_coinsOf_18 (fun H locs hP _ hS => ?_)
        refine lv_if_eq (tgt := 28) hx hb dX11_coinsOf_21 (by decide) (fun c4 => ?_) (fun c4 => ?_)
        · have hf := xt hf c4
          refine lv_iconst (v := (0 : Int32)) hx hb dX11_coinsOf_28 (by decide) ?_
          refine lv_iadd hx hb dX11_coinsOf_29 ?_
          refine lv_topi (fun v5 ev5 => ?_)
          have hf := lb_s hf ev5
          refine lv_istore_n (lv' := [(2, .int v5), (0, .ref a_this), (1, .int x0), (3, .int l3)]) hx hb dX11_coinsOf_30 rfl hl (by decide) rfl (fun ls hl => ?_)
          obtain ⟨v6, ev6, hf⟩ := lb_g hf
          refine lv_iinc (v := v6) (lv' := [(3, .int v6), (2, .int v5), (0, .ref a_this), (1, .int x0)]) hx hb dX11_coinsOf_31 hl (k := 3) rfl ev6.symm (by decide) rfl (fun ls hl => ?_)
          refine lv_goto (tgt := 4) hx hb dX11_coinsOf_34 (by decide) ?_
          exact ih v5 v6  H _ ls hP  hS (lv_sub hl [2, 3, 1, 0] rfl) hf
        · have hf := xf hf c4
          refine lv_iconst (v := (1 : Int32)) hx hb dX11_coinsOf_24 (by decide) ?_
          refine lv_goto (tgt := 29) hx hb dX11_coinsOf_25 (by decide) ?_
          refine lv_iadd hx hb dX11_coinsOf_29 ?_
          refine lv_topi (fun v7 ev7 => ?_)
          have hf := lb_s hf ev7
          refine lv_istore_n (lv' := [(2, .int v7), (0, .ref a_this), (1, .int x0), (3, .int l3)]) hx hb dX11_coinsOf_30 rfl hl (by decide) rfl (fun ls hl => ?_)
          obtain ⟨v8, ev8, hf⟩ := lb_g hf
          refine lv_iinc (v := v8) (lv' := [(3, .int v8), (2, .int v7), (0, .ref a_this), (1, .int x0)]) hx hb dX11_coinsOf_31 hl (k := 3) rfl ev8.symm (by decide) rfl (fun ls hl => ?_)
          refine lv_goto (tgt := 4) hx hb dX11_coinsOf_34 (by decide) ?_
          exact ih v7 v8  H _ ls hP  hS (lv_sub hl [2, 3, 1, 0] rfl) hf
  unfold mX11_coinsOf at hf
  refine lv_iconst (v := (0 : Int32)) hx hb dX11_coinsOf_0 (by decide) ?_
  refine lv_istore_n (lv' := [(2, .int (0 : Int32)), (0, .ref a_this), (1, .int x0)]) hx hb dX11_coinsOf_1 rfl hl (by decide) rfl (fun ls hl => ?_)
  refine lv_iconst (v := (0 : Int32)) hx hb dX11_coinsOf_2 (by decide) ?_
  refine lv_istore_n (lv' := [(3, .int (0 : Int32)), (2, .int (0 : Int32)), (0, .ref a_this), (1, .int x0)]) hx hb dX11_coinsOf_3 rfl hl (by decide) rfl (fun ls hl => ?_)
  exact hL4  FUEL (0 : Int32) (0 : Int32)  H _ ls hP  hS (lv_sub hl [2, 3, 1, 0] rfl) hf
def mX11_layWays_B294 (x0 : Int32) (x1 : Int32) (x2 : Int32) (f_blowMany : Nat → Int32) (f_blows : Nat → Int32) (f_downs : Nat → Int32) (f_forwards : Nat → Int32) (f_homes : Nat → Int32) (f_judges : Nat → Int32) (f_noises : Nat → Int32) (f_roundMany : Nat → Int32) (f_takens : Nat → Int32) (k254 : Int32 → (Nat → Int64) → (Nat → Int64) → (Nat → Int64) → Option ((Nat → Int64) × (Nat → Int64) × (Nat → Int64))) (l4 : Int32) (s1 : Int32) (s2 : Int32) (f_ways : Nat → Int64) (f_nextWays : Nat → Int64) (f_tallies : Nat → Int64) :
  Option ((Nat → Int64) × (Nat → Int64) × (Nat → Int64)) :=
  lb (s1 + s2) fun v39 =>
  gi v39 9 <|
  gi l4 601 <|
  gi v39 9 <|
  lb (vp_updL f_tallies v39.toNatClampNeg ((f_tallies v39.toNatClampNeg) + (f_ways l4.toNatClampNeg))) fun g43 =>
  lb (l4 + (1 : Int32)) fun v44 =>
  k254 v44 f_ways f_nextWays g43
def mX11_layWays_B254 (x0 : Int32) (x1 : Int32) (x2 : Int32) (f_blowMany : Nat → Int32) (f_blows : Nat → Int32) (f_downs : Nat → Int32) (f_forwards : Nat → Int32) (f_homes : Nat → Int32) (f_judges : Nat → Int32) (f_noises : Nat → Int32) (f_roundMany : Nat → Int32) (f_takens : Nat → Int32) (k254 : Int32 → (Nat → Int64) → (Nat → Int64) → (Nat → Int64) → Option ((Nat → Int64) × (Nat → Int64) × (Nat → Int64))) (l4 : Int32) (f_ways : Nat → Int64) (f_nextWays : Nat → Int64) (f_tallies : Nat → Int64) :
  Option ((Nat → Int64) × (Nat → Int64) × (Nat → Int64)) :=
  if (600 : Int32) < l4 then (some (f_ways, f_nextWays, f_tallies)) else (if l4 ≤ (300 : Int32) then (if (300 : Int32) ≤ l4 then (mX11_layWays_B294 x0 x1 x2 f_blowMany f_blows f_downs f_forwards f_homes f_judges f_noises f_roundMany f_takens k254 l4 ((3 : Int32) * x2) (2 : Int32) f_ways f_nextWays f_tallies) else (mX11_layWays_B294 x0 x1 x2 f_blowMany f_blows f_downs f_forwards f_homes f_judges f_noises f_roundMany f_takens k254 l4 ((3 : Int32) * x2) (1 : Int32) f_ways f_nextWays f_tallies)) else (mX11_layWays_B294 x0 x1 x2 f_blowMany f_blows f_downs f_forwards f_homes f_judges f_noises f_roundMany f_takens k254 l4 ((3 : Int32) * x2) (0 : Int32) f_ways f_nextWays f_tallies))
def mX11_layWays_L254 (x0 : Int32) (x1 : Int32) (x2 : Int32) (f_blowMany : Nat → Int32) (f_blows : Nat → Int32) (f_downs : Nat → Int32) (f_forwards : Nat → Int32) (f_homes : Nat → Int32) (f_judges : Nat → Int32) (f_noises : Nat → Int32) (f_roundMany : Nat → Int32) (f_takens : Nat → Int32) (n : Nat) (l4 : Int32) (f_ways : Nat → Int64) (f_nextWays : Nat → Int64) (f_tallies : Nat → Int64) :
  Option ((Nat → Int64) × (Nat → Int64) × (Nat → Int64)) :=
  loopN (fun k (s : Int32 × (Nat → Int64) × (Nat → Int64) × (Nat → Int64)) => mX11_layWays_B254 x0 x1 x2 f_blowMany f_blows f_downs f_forwards f_homes f_judges f_noises f_roundMany f_takens  (fun l4 f_ways f_nextWays f_tallies => k (l4, f_ways, f_nextWays, f_tallies)) s.1 s.2.1 s.2.2.1 s.2.2.2) n (l4, f_ways, f_nextWays, f_tallies)
def mX11_layWays_B227 (x0 : Int32) (x1 : Int32) (x2 : Int32) (f_blowMany : Nat → Int32) (f_blows : Nat → Int32) (f_downs : Nat → Int32) (f_forwards : Nat → Int32) (f_homes : Nat → Int32) (f_judges : Nat → Int32) (f_noises : Nat → Int32) (f_roundMany : Nat → Int32) (f_takens : Nat → Int32) (k227 : Int32 → (Nat → Int64) → (Nat → Int64) → (Nat → Int64) → Option ((Nat → Int64) × (Nat → Int64) × (Nat → Int64))) (l4 : Int32) (f_ways : Nat → Int64) (f_nextWays : Nat → Int64) (f_tallies : Nat → Int64) :
  Option ((Nat → Int64) × (Nat → Int64) × (Nat → Int64)) :=
  if (3 : Int32) ≤ l4 then (mX11_layWays_L254 x0 x1 x2 f_blowMany f_blows f_downs f_forwards f_homes f_judges f_noises f_roundMany f_takens  FUEL (0 : Int32) f_ways f_nextWays f_tallies) else (gi (((3 : Int32) * x2) + l4) 9 <|
  lb (vp_updL f_tallies (((3 : Int32) * x2) + l4).toNatClampNeg (0 : Int64)) fun g20 =>
  lb (l4 + (1 : Int32)) fun v21 =>
  k227 v21 f_ways f_nextWays g20)
def mX11_layWays_L227 (x0 : Int32) (x1 : Int32) (x2 : Int32) (f_blowMany : Nat → Int32) (f_blows : Nat → Int32) (f_downs : Nat → Int32) (f_forwards : Nat → Int32) (f_homes : Nat → Int32) (f_judges : Nat → Int32) (f_noises : Nat → Int32) (f_roundMany : Nat → Int32) (f_takens : Nat → Int32) (n : Nat) (l4 : Int32) (f_ways : Nat → Int64) (f_nextWays : Nat → Int64) (f_tallies : Nat → Int64) :
  Option ((Nat → Int64) × (Nat → Int64) × (Nat → Int64)) :=
  loopN (fun k (s : Int32 × (Nat → Int64) × (Nat → Int64) × (Nat → Int64)) => mX11_layWays_B227 x0 x1 x2 f_blowMany f_blows f_downs f_forwards f_homes f_judges f_noises f_roundMany f_takens  (fun l4 f_ways f_nextWays f_tallies => k (l4, f_ways, f_nextWays, f_tallies)) s.1 s.2.1 s.2.2.1 s.2.2.2) n (l4, f_ways, f_nextWays, f_tallies)
def mX11_layWays_B190 (x0 : Int32) (x1 : Int32) (x2 : Int32) (f_blowMany : Nat → Int32) (f_blows : Nat → Int32) (f_downs : Nat → Int32) (f_forwards : Nat → Int32) (f_homes : Nat → Int32) (f_judges : Nat → Int32) (f_noises : Nat → Int32) (f_roundMany : Nat → Int32) (f_takens : Nat → Int32) (k53 : Int32 → (Nat → Int64) → (Nat → Int64) → (Nat → Int64) → Option ((Nat → Int64) × (Nat → Int64) × (Nat → Int64))) (k190 : Int32 → Int32 → (Nat → Int64) → (Nat → Int64) → (Nat → Int64) → Option ((Nat → Int64) × (Nat → Int64) × (Nat → Int64))) (l4 : Int32) (l8 : Int32) (f_ways : Nat → Int64) (f_nextWays : Nat → Int64) (f_tallies : Nat → Int64) :
  Option ((Nat → Int64) × (Nat → Int64) × (Nat → Int64)) :=
  if (600 : Int32) < l8 then (lb (l4 + (1 : Int32)) fun v46 =>
  k53 v46 f_ways f_nextWays f_tallies) else (gi l8 601 <|
  gi l8 601 <|
  lb (vp_updL f_ways l8.toNatClampNeg (f_nextWays l8.toNatClampNeg)) fun g49 =>
  lb (l8 + (1 : Int32)) fun v50 =>
  k190 l4 v50 g49 f_nextWays f_tallies)
def mX11_layWays_L190 (x0 : Int32) (x1 : Int32) (x2 : Int32) (f_blowMany : Nat → Int32) (f_blows : Nat → Int32) (f_downs : Nat → Int32) (f_forwards : Nat → Int32) (f_homes : Nat → Int32) (f_judges : Nat → Int32) (f_noises : Nat → Int32) (f_roundMany : Nat → Int32) (f_takens : Nat → Int32) (k53 : Int32 → (Nat → Int64) → (Nat → Int64) → (Nat → Int64) → Option ((Nat → Int64) × (Nat → Int64) × (Nat → Int64))) (n : Nat) (l4 : Int32) (l8 : Int32) (f_ways : Nat → Int64) (f_nextWays : Nat → Int64) (f_tallies : Nat → Int64) :
  Option ((Nat → Int64) × (Nat → Int64) × (Nat → Int64)) :=
  loopN (fun k (s : Int32 × Int32 × (Nat → Int64) × (Nat → Int64) × (Nat → Int64)) => mX11_layWays_B190 x0 x1 x2 f_blowMany f_blows f_downs f_forwards f_homes f_judges f_noises f_roundMany f_takens k53 (fun l4 l8 f_ways f_nextWays f_tallies => k (l4, l8, f_ways, f_nextWays, f_tallies)) s.1 s.2.1 s.2.2.1 s.2.2.2.1 s.2.2.2.2) n (l4, l8, f_ways, f_nextWays, f_tallies)
def mX11_layWays_B179 (x0 : Int32) (x1 : Int32) (x2 : Int32) (f_blowMany : Nat → Int32) (f_blows : Nat → Int32) (f_downs : Nat → Int32) (f_forwards : Nat → Int32) (f_homes : Nat → Int32) (f_judges : Nat → Int32) (f_noises : Nat → Int32) (f_roundMany : Nat → Int32) (f_takens : Nat → Int32) (k53 : Int32 → (Nat → Int64) → (Nat → Int64) → (Nat → Int64) → Option ((Nat → Int64) × (Nat → Int64) × (Nat → Int64))) (k124 : Int32 → Int32 → Int32 → Int32 → Int32 → (Nat → Int64) → (Nat → Int64) → (Nat → Int64) → Option ((Nat → Int64) × (Nat → Int64) × (Nat → Int64))) (l4 : Int32) (l5 : Int32) (l6 : Int32) (l7 : Int32) (l8 : Int32) (s1 : Int32) (s2 : Int64) (s3 : Int64) (f_ways : Nat → Int64) (f_nextWays : Nat → Int64) (f_tallies : Nat → Int64) :
  Option ((Nat → Int64) × (Nat → Int64) × (Nat → Int64)) :=
  gi s1 601 <|
  lb (vp_updL f_nextWays s1.toNatClampNeg (s2 + s3)) fun g52 =>
  lb (l8 + (1 : Int32)) fun v53 =>
  k124 l4 l5 l6 l7 v53 f_ways g52 f_tallies
def mX11_layWays_B124 (x0 : Int32) (x1 : Int32) (x2 : Int32) (f_blowMany : Nat → Int32) (f_blows : Nat → Int32) (f_downs : Nat → Int32) (f_forwards : Nat → Int32) (f_homes : Nat → Int32) (f_judges : Nat → Int32) (f_noises : Nat → Int32) (f_roundMany : Nat → Int32) (f_takens : Nat → Int32) (k53 : Int32 → (Nat → Int64) → (Nat → Int64) → (Nat → Int64) → Option ((Nat → Int64) × (Nat → Int64) × (Nat → Int64))) (k124 : Int32 → Int32 → Int32 → Int32 → Int32 → (Nat → Int64) → (Nat → Int64) → (Nat → Int64) → Option ((Nat → Int64) × (Nat → Int64) × (Nat → Int64))) (l4 : Int32) (l5 : Int32) (l6 : Int32) (l7 : Int32) (l8 : Int32) (f_ways : Nat → Int64) (f_nextWays : Nat → Int64) (f_tallies : Nat → Int64) :
  Option ((Nat → Int64) × (Nat → Int64) × (Nat → Int64)) :=
  if (590 : Int32) < l8 then (mX11_layWays_L190 x0 x1 x2 f_blowMany f_blows f_downs f_forwards f_homes f_judges f_noises f_roundMany f_takens k53 FUEL l4 (0 : Int32) f_ways f_nextWays f_tallies) else (lb (l8 + l5) fun v30 =>
  gi v30 601 <|
  gi l8 601 <|
  gi v30 601 <|
  lb (vp_updL f_nextWays v30.toNatClampNeg ((f_nextWays v30.toNatClampNeg) + (f_ways l8.toNatClampNeg))) fun g34 =>
  lb (l8 + l6) fun v35 =>
  gi v35 601 <|
  if l7 = 0 then (mX11_layWays_B179 x0 x1 x2 f_blowMany f_blows f_downs f_forwards f_homes f_judges f_noises f_roundMany f_takens k53 k124 l4 l5 l6 l7 l8 v35 (g34 v35.toNatClampNeg) (0 : Int64) f_ways g34 f_tallies) else (gi l8 601 <|
  mX11_layWays_B179 x0 x1 x2 f_blowMany f_blows f_downs f_forwards f_homes f_judges f_noises f_roundMany f_takens k53 k124 l4 l5 l6 l7 l8 v35 (g34 v35.toNatClampNeg) (f_ways l8.toNatClampNeg) f_ways g34 f_tallies))
def mX11_layWays_L124 (x0 : Int32) (x1 : Int32) (x2 : Int32) (f_blowMany : Nat → Int32) (f_blows : Nat → Int32) (f_downs : Nat → Int32) (f_forwards : Nat → Int32) (f_homes : Nat → Int32) (f_judges : Nat → Int32) (f_noises : Nat → Int32) (f_roundMany : Nat → Int32) (f_takens : Nat → Int32) (k53 : Int32 → (Nat → Int64) → (Nat → Int64) → (Nat → Int64) → Option ((Nat → Int64) × (Nat → Int64) × (Nat → Int64))) (n : Nat) (l4 : Int32) (l5 : Int32) (l6 : Int32) (l7 : Int32) (l8 : Int32) (f_ways : Nat → Int64) (f_nextWays : Nat → Int64) (f_tallies : Nat → Int64) :
  Option ((Nat → Int64) × (Nat → Int64) × (Nat → Int64)) :=
  loopN (fun k (s : Int32 × Int32 × Int32 × Int32 × Int32 × (Nat → Int64) × (Nat → Int64) × (Nat → Int64)) => mX11_layWays_B124 x0 x1 x2 f_blowMany f_blows f_downs f_forwards f_homes f_judges f_noises f_roundMany f_takens k53 (fun l4 l5 l6 l7 l8 f_ways f_nextWays f_tallies => k (l4, l5, l6, l7, l8, f_ways, f_nextWays, f_tallies)) s.1 s.2.1 s.2.2.1 s.2.2.2.1 s.2.2.2.2.1 s.2.2.2.2.2.1 s.2.2.2.2.2.2.1 s.2.2.2.2.2.2.2) n (l4, l5, l6, l7, l8, f_ways, f_nextWays, f_tallies)
def mX11_layWays_B98 (x0 : Int32) (x1 : Int32) (x2 : Int32) (f_blowMany : Nat → Int32) (f_blows : Nat → Int32) (f_downs : Nat → Int32) (f_forwards : Nat → Int32) (f_homes : Nat → Int32) (f_judges : Nat → Int32) (f_noises : Nat → Int32) (f_roundMany : Nat → Int32) (f_takens : Nat → Int32) (k53 : Int32 → (Nat → Int64) → (Nat → Int64) → (Nat → Int64) → Option ((Nat → Int64) × (Nat → Int64) × (Nat → Int64))) (k98 : Int32 → Int32 → Int32 → Int32 → Int32 → (Nat → Int64) → (Nat → Int64) → (Nat → Int64) → Option ((Nat → Int64) × (Nat → Int64) × (Nat → Int64))) (l4 : Int32) (l5 : Int32) (l6 : Int32) (l7 : Int32) (l8 : Int32) (f_ways : Nat → Int64) (f_nextWays : Nat → Int64) (f_tallies : Nat → Int64) :
  Option ((Nat → Int64) × (Nat → Int64) × (Nat → Int64)) :=
  if (600 : Int32) < l8 then (mX11_layWays_L124 x0 x1 x2 f_blowMany f_blows f_downs f_forwards f_homes f_judges f_noises f_roundMany f_takens k53 FUEL l4 l5 l6 l7 (10 : Int32) f_ways f_nextWays f_tallies) else (gi l8 601 <|
  lb (vp_updL f_nextWays l8.toNatClampNeg (0 : Int64)) fun g24 =>
  lb (l8 + (1 : Int32)) fun v25 =>
  k98 l4 l5 l6 l7 v25 f_ways g24 f_tallies)
def mX11_layWays_L98 (x0 : Int32) (x1 : Int32) (x2 : Int32) (f_blowMany : Nat → Int32) (f_blows : Nat → Int32) (f_downs : Nat → Int32) (f_forwards : Nat → Int32) (f_homes : Nat → Int32) (f_judges : Nat → Int32) (f_noises : Nat → Int32) (f_roundMany : Nat → Int32) (f_takens : Nat → Int32) (k53 : Int32 → (Nat → Int64) → (Nat → Int64) → (Nat → Int64) → Option ((Nat → Int64) × (Nat → Int64) × (Nat → Int64))) (n : Nat) (l4 : Int32) (l5 : Int32) (l6 : Int32) (l7 : Int32) (l8 : Int32) (f_ways : Nat → Int64) (f_nextWays : Nat → Int64) (f_tallies : Nat → Int64) :
  Option ((Nat → Int64) × (Nat → Int64) × (Nat → Int64)) :=
  loopN (fun k (s : Int32 × Int32 × Int32 × Int32 × Int32 × (Nat → Int64) × (Nat → Int64) × (Nat → Int64)) => mX11_layWays_B98 x0 x1 x2 f_blowMany f_blows f_downs f_forwards f_homes f_judges f_noises f_roundMany f_takens k53 (fun l4 l5 l6 l7 l8 f_ways f_nextWays f_tallies => k (l4, l5, l6, l7, l8, f_ways, f_nextWays, f_tallies)) s.1 s.2.1 s.2.2.1 s.2.2.2.1 s.2.2.2.2.1 s.2.2.2.2.2.1 s.2.2.2.2.2.2.1 s.2.2.2.2.2.2.2) n (l4, l5, l6, l7, l8, f_ways, f_nextWays, f_tallies)
def mX11_layWays_B53 (x0 : Int32) (x1 : Int32) (x2 : Int32) (f_blowMany : Nat → Int32) (f_blows : Nat → Int32) (f_downs : Nat → Int32) (f_forwards : Nat → Int32) (f_homes : Nat → Int32) (f_judges : Nat → Int32) (f_noises : Nat → Int32) (f_roundMany : Nat → Int32) (f_takens : Nat → Int32) (k53 : Int32 → (Nat → Int64) → (Nat → Int64) → (Nat → Int64) → Option ((Nat → Int64) × (Nat → Int64) × (Nat → Int64))) (l4 : Int32) (f_ways : Nat → Int64) (f_nextWays : Nat → Int64) (f_tallies : Nat → Int64) :
  Option ((Nat → Int64) × (Nat → Int64) × (Nat → Int64)) :=
  if (f_roundMany (0 : Int32).toNatClampNeg) ≤ l4 then (mX11_layWays_L227 x0 x1 x2 f_blowMany f_blows f_downs f_forwards f_homes f_judges f_noises f_roundMany f_takens  FUEL (0 : Int32) f_ways f_nextWays f_tallies) else ((mX11_margin0 x0 x1 l4 (0 : Int32) f_blowMany f_blows f_downs f_forwards f_homes f_judges f_noises).bind fun o12 =>
  (mX11_margin0 x0 x1 l4 (1 : Int32) f_blowMany f_blows f_downs f_forwards f_homes f_judges f_noises).bind fun o14 =>
  (mX11_isClose x1 l4 f_blowMany f_blows f_forwards f_homes f_judges f_noises).bind fun o16 =>
  mX11_layWays_L98 x0 x1 x2 f_blowMany f_blows f_downs f_forwards f_homes f_judges f_noises f_roundMany f_takens k53 FUEL l4 o12 o14 o16 (0 : Int32) f_ways f_nextWays f_tallies)
def mX11_layWays_L53 (x0 : Int32) (x1 : Int32) (x2 : Int32) (f_blowMany : Nat → Int32) (f_blows : Nat → Int32) (f_downs : Nat → Int32) (f_forwards : Nat → Int32) (f_homes : Nat → Int32) (f_judges : Nat → Int32) (f_noises : Nat → Int32) (f_roundMany : Nat → Int32) (f_takens : Nat → Int32) (n : Nat) (l4 : Int32) (f_ways : Nat → Int64) (f_nextWays : Nat → Int64) (f_tallies : Nat → Int64) :
  Option ((Nat → Int64) × (Nat → Int64) × (Nat → Int64)) :=
  loopN (fun k (s : Int32 × (Nat → Int64) × (Nat → Int64) × (Nat → Int64)) => mX11_layWays_B53 x0 x1 x2 f_blowMany f_blows f_downs f_forwards f_homes f_judges f_noises f_roundMany f_takens  (fun l4 f_ways f_nextWays f_tallies => k (l4, f_ways, f_nextWays, f_tallies)) s.1 s.2.1 s.2.2.1 s.2.2.2) n (l4, f_ways, f_nextWays, f_tallies)
def mX11_layWays_B3 (x0 : Int32) (x1 : Int32) (x2 : Int32) (f_blowMany : Nat → Int32) (f_blows : Nat → Int32) (f_downs : Nat → Int32) (f_forwards : Nat → Int32) (f_homes : Nat → Int32) (f_judges : Nat → Int32) (f_noises : Nat → Int32) (f_roundMany : Nat → Int32) (f_takens : Nat → Int32) (k3 : Int32 → (Nat → Int64) → (Nat → Int64) → (Nat → Int64) → Option ((Nat → Int64) × (Nat → Int64) × (Nat → Int64))) (l4 : Int32) (f_ways : Nat → Int64) (f_nextWays : Nat → Int64) (f_tallies : Nat → Int64) :
  Option ((Nat → Int64) × (Nat → Int64) × (Nat → Int64)) :=
  if (600 : Int32) < l4 then ((mX11_takenOf (1 : Int32) f_roundMany f_takens).bind fun o2 =>
  (mX11_takenOf (0 : Int32) f_roundMany f_takens).bind fun o4 =>
  gi (((300 : Int32) + ((2 : Int32) * o2)) - ((2 : Int32) * o4)) 601 <|
  lb (vp_updL f_ways (((300 : Int32) + ((2 : Int32) * o2)) - ((2 : Int32) * o4)).toNatClampNeg (1 : Int64)) fun g7 =>
  mX11_layWays_L53 x0 x1 x2 f_blowMany f_blows f_downs f_forwards f_homes f_judges f_noises f_roundMany f_takens  FUEL (0 : Int32) g7 f_nextWays f_tallies) else (gi l4 601 <|
  lb (vp_updL f_ways l4.toNatClampNeg (0 : Int64)) fun g9 =>
  lb (l4 + (1 : Int32)) fun v10 =>
  k3 v10 g9 f_nextWays f_tallies)
def mX11_layWays_L3 (x0 : Int32) (x1 : Int32) (x2 : Int32) (f_blowMany : Nat → Int32) (f_blows : Nat → Int32) (f_downs : Nat → Int32) (f_forwards : Nat → Int32) (f_homes : Nat → Int32) (f_judges : Nat → Int32) (f_noises : Nat → Int32) (f_roundMany : Nat → Int32) (f_takens : Nat → Int32) (n : Nat) (l4 : Int32) (f_ways : Nat → Int64) (f_nextWays : Nat → Int64) (f_tallies : Nat → Int64) :
  Option ((Nat → Int64) × (Nat → Int64) × (Nat → Int64)) :=
  loopN (fun k (s : Int32 × (Nat → Int64) × (Nat → Int64) × (Nat → Int64)) => mX11_layWays_B3 x0 x1 x2 f_blowMany f_blows f_downs f_forwards f_homes f_judges f_noises f_roundMany f_takens  (fun l4 f_ways f_nextWays f_tallies => k (l4, f_ways, f_nextWays, f_tallies)) s.1 s.2.1 s.2.2.1 s.2.2.2) n (l4, f_ways, f_nextWays, f_tallies)
def mX11_layWays (x0 : Int32) (x1 : Int32) (x2 : Int32) (f_blowMany : Nat → Int32) (f_blows : Nat → Int32) (f_downs : Nat → Int32) (f_forwards : Nat → Int32) (f_homes : Nat → Int32) (f_judges : Nat → Int32) (f_nextWays : Nat → Int64) (f_noises : Nat → Int32) (f_roundMany : Nat → Int32) (f_takens : Nat → Int32) (f_tallies : Nat → Int64) (f_ways : Nat → Int64) :
  Option ((Nat → Int64) × (Nat → Int64) × (Nat → Int64)) :=
  mX11_layWays_L3 x0 x1 x2 f_blowMany f_blows f_downs f_forwards f_homes f_judges f_noises f_roundMany f_takens  FUEL (0 : Int32) f_ways f_nextWays f_tallies
theorem hdsX11_layWays : yX11_layWays.cls ≠ "java/lang/invoke/MethodHandle" ∧ yX11_layWays.cls ≠ "java/lang/invoke/VarHandle" ∧ (parseMethodDescriptor yX11_layWays.desc).map (fun d => d.parameters.length) = some 3 := by decide +kernel
theorem hdvX11_layWays : yX11_layWays.cls = RX11 ∧ yX11_layWays.cls ≠ "java/lang/invoke/MethodHandle" ∧ yX11_layWays.cls ≠ "java/lang/invoke/VarHandle" ∧ (parseMethodDescriptor yX11_layWays.desc).map (fun d => d.parameters.length) = some 3 := by decide +kernel
abbrev rmX11_layWays : Room := { frames := 6, cells := 0, slots := 0, locals := 143 }
set_option maxHeartbeats 4000000 in
set_option maxRecDepth 100000 in
theorem qX11_layWays (l : Launch) (X : XT) (a_this : Nat) (a_blowMany : Nat) (a_blows : Nat) (a_downs : Nat) (a_forwards : Nat) (a_homes : Nat) (a_judges : Nat) (a_nextWays : Nat) (a_noises : Nat) (a_roundMany : Nat) (a_takens : Nat) (a_tallies : Nat) (a_ways : Nat) (a_text : Nat) (a_judgeMany : Nat) (a_delays : Nat) (a_tolds : Nat) (a_tens : Nat) (a_told : Nat) (a_presses : Nat) (a_values : Nat) (a_nextValues : Nat)  (i_length : Int32) (i_keptMany : Int32) (i_place : Int32) (f_blowMany : Nat → Int32) (f_blows : Nat → Int32) (f_downs : Nat → Int32) (f_forwards : Nat → Int32) (f_homes : Nat → Int32) (f_judges : Nat → Int32) (f_nextWays : Nat → Int64) (f_noises : Nat → Int32) (f_roundMany : Nat → Int32) (f_takens : Nat → Int32) (f_tallies : Nat → Int64) (f_ways : Nat → Int64) (x0 : Int32) (x1 : Int32) (x2 : Int32) (o : (Nat → Int64) × (Nat → Int64) × (Nat → Int64)) (hf : mX11_layWays x0 x1 x2 f_blowMany f_blows f_downs f_forwards f_homes f_judges f_nextWays f_noises f_roundMany f_takens f_tallies f_ways = some o) :
    MC l yX11_layWays wsX11_layWays rmX11_layWays X [.ref a_this, .int x0, .int x1, .int x2] [(a_this, .inr (11, [.int i_length, .ref a_text, .ref a_roundMany, .ref a_blowMany, .ref a_blows, .ref a_forwards, .ref a_downs, .ref a_takens, .ref a_homes, .ref a_noises, .ref a_judgeMany, .ref a_judges, .ref a_delays, .ref a_tolds, .ref a_tens, .int i_keptMany, .int i_place, .ref a_told, .ref a_ways, .ref a_nextWays, .ref a_tallies, .ref a_presses, .ref a_values, .ref a_nextValues])), (a_blowMany, .inl (X.2.1 0, 2, .inl f_blowMany)), (a_blows, .inl (X.2.1 0, 400, .inl f_blows)), (a_downs, .inl (X.2.1 0, 48, .inl f_downs)), (a_forwards, .inl (X.2.1 0, 48, .inl f_forwards)), (a_homes, .inl (X.2.1 0, 2, .inl f_homes)), (a_judges, .inl (X.2.1 0, 112, .inl f_judges)), (a_nextWays, .inl (X.2.1 1, 601, .inr (.inl f_nextWays))), (a_noises, .inl (X.2.1 0, 2, .inl f_noises)), (a_roundMany, .inl (X.2.1 0, 2, .inl f_roundMany)), (a_takens, .inl (X.2.1 0, 48, .inl f_takens)), (a_tallies, .inl (X.2.1 1, 9, .inr (.inl f_tallies))), (a_ways, .inl (X.2.1 1, 601, .inr (.inl f_ways)))]  (fun _ => [(a_this, .inr (11, [.int i_length, .ref a_text, .ref a_roundMany, .ref a_blowMany, .ref a_blows, .ref a_forwards, .ref a_downs, .ref a_takens, .ref a_homes, .ref a_noises, .ref a_judgeMany, .ref a_judges, .ref a_delays, .ref a_tolds, .ref a_tens, .int i_keptMany, .int i_place, .ref a_told, .ref a_ways, .ref a_nextWays, .ref a_tallies, .ref a_presses, .ref a_values, .ref a_nextValues])), (a_blowMany, .inl (X.2.1 0, 2, .inl f_blowMany)), (a_blows, .inl (X.2.1 0, 400, .inl f_blows)), (a_downs, .inl (X.2.1 0, 48, .inl f_downs)), (a_forwards, .inl (X.2.1 0, 48, .inl f_forwards)), (a_homes, .inl (X.2.1 0, 2, .inl f_homes)), (a_judges, .inl (X.2.1 0, 112, .inl f_judges)), (a_nextWays, .inl (X.2.1 1, 601, .inr (.inl o.2.1))), (a_noises, .inl (X.2.1 0, 2, .inl f_noises)), (a_roundMany, .inl (X.2.1 0, 2, .inl f_roundMany)), (a_takens, .inl (X.2.1 0, 48, .inl f_takens)), (a_tallies, .inl (X.2.1 1, 9, .inr (.inl o.2.2))), (a_ways, .inl (X.2.1 1, 601, .inr (.inl o.1)))]) 0 0 := by
  refine MC_ofH (cc := cX11_layWays) (maxL := 9) (by decide) rfl (Nat.le_of_ble_eq_true rfl) ?_
  intro p e s m below meth c A Q H ls hx hb hml hts hown hin hA hD hG hP hS hl ret
  have hown : s.vm.findClass RX11 = some m.cls := hown
  have hD : aD A [a_this, a_blowMany, a_blows, a_downs, a_forwards, a_homes, a_judges, a_nextWays, a_noises, a_roundMany, a_takens, a_tallies, a_ways] := hD
  have hl : lv_has ls 9 [(0, .ref a_this), (1, .int x0), (2, .int x1), (3, .int x2)] := hl
  have w1 := hts (Cond.fieldLink RX11 55 "ThreeCardsModel" "ways" "[J") (List.mem_of_getElem? (i := 1) rfl)
  have w2 := hts (Cond.fieldLink RX11 13 "ThreeCardsModel" "roundMany" "[I") (List.mem_of_getElem? (i := 2) rfl)
  have w3 := hts (Cond.fieldLink RX11 59 "ThreeCardsModel" "nextWays" "[J") (List.mem_of_getElem? (i := 3) rfl)
  have w4 := hts (Cond.fieldLink RX11 62 "ThreeCardsModel" "tallies" "[J") (List.mem_of_getElem? (i := 4) rfl)
  have in11 : ∀ w ∈ u_ws RX11 TX11 24, w ∈ wsX11_layWays := by decide +kernel
  have hB294 : ∀ (k254 : Int32 → (Nat → Int64) → (Nat → Int64) → (Nat → Int64) → Option ((Nat → Int64) × (Nat → Int64) × (Nat → Int64))) (hk254 : ∀ (l4 : Int32) (f_ways : Nat → Int64) (f_nextWays : Nat → Int64) (f_tallies : Nat → Int64)  (H : Heap) (locs : List Loc) (ls : Array Slot), va_P X.1 vwCl [(a_this, .inr (11, [.int i_length, .ref a_text, .ref a_roundMany, .ref a_blowMany, .ref a_blows, .ref a_forwards, .ref a_downs, .ref a_takens, .ref a_homes, .ref a_noises, .ref a_judgeMany, .ref a_judges, .ref a_delays, .ref a_tolds, .ref a_tens, .int i_keptMany, .int i_place, .ref a_told, .ref a_ways, .ref a_nextWays, .ref a_tallies, .ref a_presses, .ref a_values, .ref a_nextValues])), (a_blowMany, .inl (X.2.1 0, 2, .inl f_blowMany)), (a_blows, .inl (X.2.1 0, 400, .inl f_blows)), (a_downs, .inl (X.2.1 0, 48, .inl f_downs)), (a_forwards, .inl (X.2.1 0, 48, .inl f_forwards)), (a_homes, .inl (X.2.1 0, 2, .inl f_homes)), (a_judges, .inl (X.2.1 0, 112, .inl f_judges)), (a_nextWays, .inl (X.2.1 1, 601, .inr (.inl f_nextWays))), (a_noises, .inl (X.2.1 0, 2, .inl f_noises)), (a_roundMany, .inl (X.2.1 0, 2, .inl f_roundMany)), (a_takens, .inl (X.2.1 0, 48, .inl f_takens)), (a_tallies, .inl (X.2.1 1, 9, .inr (.inl f_tallies))), (a_ways, .inl (X.2.1 1, 601, .inr (.inl f_ways)))] H → va_S A s.heap H locs → lv_has ls 9 [(0, .ref a_this), (3, .int x2), (4, .int l4)] → k254 l4 f_ways f_nextWays f_tallies = some o → W p l e rmX11_layWays s m ([.ref a_this, .int x0, .int x1, .int x2] : List Value).toArray below meth c H locs 0 0 Q (F0 m 254 ls [])) (l4 : Int32) (s1 : Int32) (s2 : Int32) (f_ways : Nat → Int64) (f_nextWays : Nat → Int64) (f_tallies : Nat → Int64)  (H : Heap) (locs : List Loc) (ls : Array Slot), va_P X.1 vwCl [(a_this, .inr (11, [.int i_length, .ref a_text, .ref a_roundMany, .ref a_blowMany, .ref a_blows, .ref a_forwards, .ref a_downs, .ref a_takens, .ref a_homes, .ref a_noises, .ref a_judgeMany, .ref a_judges, .ref a_delays, .ref a_tolds, .ref a_tens, .int i_keptMany, .int i_place, .ref a_told, .ref a_ways, .ref a_nextWays, .ref a_tallies, .ref a_presses, .ref a_values, .ref a_nextValues])), (a_blowMany, .inl (X.2.1 0, 2, .inl f_blowMany)), (a_blows, .inl (X.2.1 0, 400, .inl f_blows)), (a_downs, .inl (X.2.1 0, 48, .inl f_downs)), (a_forwards, .inl (X.2.1 0, 48, .inl f_forwards)), (a_homes, .inl (X.2.1 0, 2, .inl f_homes)), (a_judges, .inl (X.2.1 0, 112, .inl f_judges)), (a_nextWays, .inl (X.2.1 1, 601, .inr (.inl f_nextWays))), (a_noises, .inl (X.2.1 0, 2, .inl f_noises)), (a_roundMany, .inl (X.2.1 0, 2, .inl f_roundMany)), (a_takens, .inl (X.2.1 0, 48, .inl f_takens)), (a_tallies, .inl (X.2.1 1, 9, .inr (.inl f_tallies))), (a_ways, .inl (X.2.1 1, 601, .inr (.inl f_ways)))] H → va_S A s.heap H locs → lv_has ls 9 [(0, .ref a_this), (3, .int x2), (4, .int l4)] → mX11_layWays_B294 x0 x1 x2 f_blowMany f_blows f_downs f_forwards f_homes f_judges f_noises f_roundMany f_takens k254 l4 s1 s2 f_ways f_nextWays f_tallies = some o → W p l e rmX11_layWays s m ([.ref a_this, .int x0, .int x1, .int x2] : List Value).toArray below meth c H locs 0 0 Q (F0 m 294 ls [.int s2, .int s1, .ref a_tallies]) := by
    intro k254 hk254 l4 s1 s2 f_ways f_nextWays f_tallies  H locs ls hP hS hl hf
    unfold mX11_layWays_B294 at hf
    refine lv_iadd hx hb dX11_layWays_294 ?_
    refine lv_topi (fun v39 ev39 => ?_)
    have hf := lb_s hf ev39
    refine lv_dup2_11 hx hb dX11_layWays_295 rfl rfl ?_
    obtain ⟨h40, hf⟩ := gi_s hf
    refine va_lald (D := X.1) hx hb hG.1 hP 11 1 rfl rfl h40 dX11_layWays_296 ?_
    refine lv_aload_n hx hb dX11_layWays_297 rfl (lv_at hl 0 rfl) ?_
    refine va_get (D := X.1) (ci := 11) (v := .ref a_ways) (C := RX11) (T := TX11) (N := 24) hx hb hts in11 hown hG.1 hP 0 rfl rfl 18 (by decide) w1 (fun _ h9 => h9) rfl dX11_layWays_298 ?_
    refine lv_iload hx hb dX11_layWays_301 (lv_at hl 2 rfl) ?_
    obtain ⟨h41, hf⟩ := gi_s hf
    refine va_lald (D := X.1) hx hb hG.1 hP 12 1 rfl rfl h41 dX11_layWays_303 ?_
    refine lv_ladd hx hb dX11_layWays_304 ?_
    obtain ⟨h42, hf⟩ := gi_s hf
    obtain ⟨g43, eg43, hf⟩ := lb_g hf
    refine x_last (ws' := [(a_this, .inr (11, [.int i_length, .ref a_text, .ref a_roundMany, .ref a_blowMany, .ref a_blows, .ref a_forwards, .ref a_downs, .ref a_takens, .ref a_homes, .ref a_noises, .ref a_judgeMany, .ref a_judges, .ref a_delays, .ref a_tolds, .ref a_tens, .int i_keptMany, .int i_place, .ref a_told, .ref a_ways, .ref a_nextWays, .ref a_tallies, .ref a_presses, .ref a_values, .ref a_nextValues])), (a_blowMany, .inl (X.2.1 0, 2, .inl f_blowMany)), (a_blows, .inl (X.2.1 0, 400, .inl f_blows)), (a_downs, .inl (X.2.1 0, 48, .inl f_downs)), (a_forwards, .inl (X.2.1 0, 48, .inl f_forwards)), (a_homes, .inl (X.2.1 0, 2, .inl f_homes)), (a_judges, .inl (X.2.1 0, 112, .inl f_judges)), (a_nextWays, .inl (X.2.1 1, 601, .inr (.inl f_nextWays))), (a_noises, .inl (X.2.1 0, 2, .inl f_noises)), (a_roundMany, .inl (X.2.1 0, 2, .inl f_roundMany)), (a_takens, .inl (X.2.1 0, 48, .inl f_takens)), (a_tallies, .inl (X.2.1 1, 9, .inr (.inl g43))), (a_ways, .inl (X.2.1 1, 601, .inr (.inl f_ways)))]) hx hb hG hP hD rfl hS 11 rfl h42 dX11_layWays_305 eg43 rfl (fun H locs hP hS => ?_)
    obtain ⟨v44, ev44, hf⟩ := lb_g hf
    refine lv_iinc (v := v44) (lv' := [(4, .int v44), (0, .ref a_this), (3, .int x2)]) hx hb dX11_layWays_306 hl (k := 2) rfl ev44.symm (by decide) rfl (fun ls hl => ?_)
    refine lv_goto (tgt := 254) hx hb dX11_layWays_309 (by decide) ?_
    exact hk254 v44 f_ways f_nextWays g43  H _ ls hP  hS (lv_sub hl [1, 2, 0] rfl) hf
  have hL254 : ∀ (n : Nat) (l4 : Int32) (f_ways : Nat → Int64) (f_nextWays : Nat → Int64) (f_tallies : Nat → Int64)  (H : Heap) (locs : List Loc) (ls : Array Slot), va_P X.1 vwCl [(a_this, .inr (11, [.int i_length, .ref a_text, .ref a_roundMany, .ref a_blowMany, .ref a_blows, .ref a_forwards, .ref a_downs, .ref a_takens, .ref a_homes, .ref a_noises, .ref a_judgeMany, .ref a_judges, .ref a_delays, .ref a_tolds, .ref a_tens, .int i_keptMany, .int i_place, .ref a_told, .ref a_ways, .ref a_nextWays, .ref a_tallies, .ref a_presses, .ref a_values, .ref a_nextValues])), (a_blowMany, .inl (X.2.1 0, 2, .inl f_blowMany)), (a_blows, .inl (X.2.1 0, 400, .inl f_blows)), (a_downs, .inl (X.2.1 0, 48, .inl f_downs)), (a_forwards, .inl (X.2.1 0, 48, .inl f_forwards)), (a_homes, .inl (X.2.1 0, 2, .inl f_homes)), (a_judges, .inl (X.2.1 0, 112, .inl f_judges)), (a_nextWays, .inl (X.2.1 1, 601, .inr (.inl f_nextWays))), (a_noises, .inl (X.2.1 0, 2, .inl f_noises)), (a_roundMany, .inl (X.2.1 0, 2, .inl f_roundMany)), (a_takens, .inl (X.2.1 0, 48, .inl f_takens)), (a_tallies, .inl (X.2.1 1, 9, .inr (.inl f_tallies))), (a_ways, .inl (X.2.1 1, 601, .inr (.inl f_ways)))] H → va_S A s.heap H locs → lv_has ls 9 [(0, .ref a_this), (3, .int x2), (4, .int l4)] → mX11_layWays_L254 x0 x1 x2 f_blowMany f_blows f_downs f_forwards f_homes f_judges f_noises f_roundMany f_takens  n l4 f_ways f_nextWays f_tallies = some o → W p l e rmX11_layWays s m ([.ref a_this, .int x0, .int x1, .int x2] : List Value).toArray below meth c H locs 0 0 Q (F0 m 254 ls []) := by
    intro n
    induction n with
    | zero => intro l4 f_ways f_nextWays f_tallies  H locs ls hP hS hl hf; exact xn hf
    | succ n ih =>
      intro l4 f_ways f_nextWays f_tallies  H locs ls hP hS hl hf
      have hf : mX11_layWays_B254 x0 x1 x2 f_blowMany f_blows f_downs f_forwards f_homes f_judges f_noises f_roundMany f_takens  (mX11_layWays_L254 x0 x1 x2 f_blowMany f_blows f_downs f_forwards f_homes f_judges f_noises f_roundMany f_takens  n) l4 f_ways f_nextWays f_tallies = some o := hf
      generalize mX11_layWays_L254 x0 x1 x2 f_blowMany f_blows f_downs f_forwards f_homes f_judges f_noises f_roundMany f_takens  n = k254 at ih hf
      unfold mX11_layWays_B254 at hf
      refine lv_iload hx hb dX11_layWays_254 (lv_at hl 2 rfl) ?_
      refine lv_sipush (v := (600 : Int32)) hx hb dX11_layWays_256 (by decide) ?_
      refine lv_icmp_gt (tgt := 312) hx hb dX11_layWays_259 (by decide) (fun c26 => ?_) (fun c26 => ?_)
      · have hf := xt hf c26
        obtain rfl := Option.some.inj hf
        exact ret (fun _ => 0) H _ ls _ hP hD hS dX11_layWays_312
      · have hf := xf hf c26
        refine lv_aload_n hx hb dX11_layWays_262 rfl (lv_at hl 0 rfl) ?_
        refine va_get (D := X.1) (ci := 11) (v := .ref a_tallies) (C := RX11) (T := TX11) (N := 24) hx hb hts in11 hown hG.1 hP 0 rfl rfl 20 (by decide) w4 (fun _ h9 => h9) rfl dX11_layWays_263 ?_
        refine lv_iconst (v := (3 : Int32)) hx hb dX11_layWays_266 (by decide) ?_
        refine lv_iload_n hx hb dX11_layWays_267 rfl (lv_at hl 1 rfl) ?_
        refine lv_imul hx hb dX11_layWays_268 ?_
        refine lv_iload hx hb dX11_layWays_269 (lv_at hl 2 rfl) ?_
        refine lv_sipush (v := (300 : Int32)) hx hb dX11_layWays_271 (by decide) ?_
        refine lv_icmp_le (tgt := 281) hx hb dX11_layWays_274 (by decide) (fun c27 => ?_) (fun c27 => ?_)
        · have hf := xt hf c27
          refine lv_iload hx hb dX11_layWays_281 (lv_at hl 2 rfl) ?_
          refine lv_sipush (v := (300 : Int32)) hx hb dX11_layWays_283 (by decide) ?_
          refine lv_icmp_ge (tgt := 293) hx hb dX11_layWays_286 (by decide) (fun c28 => ?_) (fun c28 => ?_)
          · have hf := xt hf c28
            refine lv_iconst (v := (2 : Int32)) hx hb dX11_layWays_293 (by decide) ?_
            exact hB294 k254 ih l4 ((3 : Int32) * x2) (2 : Int32) f_ways f_nextWays f_tallies  H _ ls hP  hS (lv_sub hl [0, 1, 2] rfl) hf
          · have hf := xf hf c28
            refine lv_iconst (v := (1 : Int32)) hx hb dX11_layWays_289 (by decide) ?_
            refine lv_goto (tgt := 294) hx hb dX11_layWays_290 (by decide) ?_
            exact hB294 k254 ih l4 ((3 : Int32) * x2) (1 : Int32) f_ways f_nextWays f_tallies  H _ ls hP  hS (lv_sub hl [0, 1, 2] rfl) hf
        · have hf := xf hf c27
          refine lv_iconst (v := (0 : Int32)) hx hb dX11_layWays_277 (by decide) ?_
          refine lv_goto (tgt := 294) hx hb dX11_layWays_278 (by decide) ?_
          exact hB294 k254 ih l4 ((3 : Int32) * x2) (0 : Int32) f_ways f_nextWays f_tallies  H _ ls hP  hS (lv_sub hl [0, 1, 2] rfl) hf
  have hL227 : ∀ (n : Nat) (l4 : Int32) (f_ways : Nat → Int64) (f_nextWays : Nat → Int64) (f_tallies : Nat → Int64)  (H : Heap) (locs : List Loc) (ls : Array Slot), va_P X.1 vwCl [(a_this, .inr (11, [.int i_length, .ref a_text, .ref a_roundMany, .ref a_blowMany, .ref a_blows, .ref a_forwards, .ref a_downs, .ref a_takens, .ref a_homes, .ref a_noises, .ref a_judgeMany, .ref a_judges, .ref a_delays, .ref a_tolds, .ref a_tens, .int i_keptMany, .int i_place, .ref a_told, .ref a_ways, .ref a_nextWays, .ref a_tallies, .ref a_presses, .ref a_values, .ref a_nextValues])), (a_blowMany, .inl (X.2.1 0, 2, .inl f_blowMany)), (a_blows, .inl (X.2.1 0, 400, .inl f_blows)), (a_downs, .inl (X.2.1 0, 48, .inl f_downs)), (a_forwards, .inl (X.2.1 0, 48, .inl f_forwards)), (a_homes, .inl (X.2.1 0, 2, .inl f_homes)), (a_judges, .inl (X.2.1 0, 112, .inl f_judges)), (a_nextWays, .inl (X.2.1 1, 601, .inr (.inl f_nextWays))), (a_noises, .inl (X.2.1 0, 2, .inl f_noises)), (a_roundMany, .inl (X.2.1 0, 2, .inl f_roundMany)), (a_takens, .inl (X.2.1 0, 48, .inl f_takens)), (a_tallies, .inl (X.2.1 1, 9, .inr (.inl f_tallies))), (a_ways, .inl (X.2.1 1, 601, .inr (.inl f_ways)))] H → va_S A s.heap H locs → lv_has ls 9 [(0, .ref a_this), (3, .int x2), (4, .int l4)] → mX11_layWays_L227 x0 x1 x2 f_blowMany f_blows f_downs f_forwards f_homes f_judges f_noises f_roundMany f_takens  n l4 f_ways f_nextWays f_tallies = some o → W p l e rmX11_layWays s m ([.ref a_this, .int x0, .int x1, .int x2] : List Value).toArray below meth c H locs 0 0 Q (F0 m 227 ls []) := by
    intro n
    induction n with
    | zero => intro l4 f_ways f_nextWays f_tallies  H locs ls hP hS hl hf; exact xn hf
    | succ n ih =>
      intro l4 f_ways f_nextWays f_tallies  H locs ls hP hS hl hf
      have hf : mX11_layWays_B227 x0 x1 x2 f_blowMany f_blows f_downs f_forwards f_homes f_judges f_noises f_roundMany f_takens  (mX11_layWays_L227 x0 x1 x2 f_blowMany f_blows f_downs f_forwards f_homes f_judges f_noises f_roundMany f_takens  n) l4 f_ways f_nextWays f_tallies = some o := hf
      generalize mX11_layWays_L227 x0 x1 x2 f_blowMany f_blows f_downs f_forwards f_homes f_judges f_noises f_roundMany f_takens  n = k227 at ih hf
      unfold mX11_layWays_B227 at hf
      refine lv_iload hx hb dX11_layWays_227 (lv_at hl 2 rfl) ?_
      refine lv_iconst (v := (3 : Int32)) hx hb dX11_layWays_229 (by decide) ?_
      refine lv_icmp_ge (tgt := 251) hx hb dX11_layWays_230 (by decide) (fun c18 => ?_) (fun c18 => ?_)
      · have hf := xt hf c18
        refine lv_iconst (v := (0 : Int32)) hx hb dX11_layWays_251 (by decide) ?_
        refine lv_istore (lv' := [(4, .int (0 : Int32)), (0, .ref a_this), (3, .int x2)]) hx hb dX11_layWays_252 hl (by decide) rfl (fun ls hl => ?_)
        exact hL254  FUEL (0 : Int32) f_ways f_nextWays f_tallies  H _ ls hP  hS (lv_sub hl [1, 2, 0] rfl) hf
      · have hf := xf hf c18
        refine lv_aload_n hx hb dX11_layWays_233 rfl (lv_at hl 0 rfl) ?_
        refine va_get (D := X.1) (ci := 11) (v := .ref a_tallies) (C := RX11) (T := TX11) (N := 24) hx hb hts in11 hown hG.1 hP 0 rfl rfl 20 (by decide) w4 (fun _ h9 => h9) rfl dX11_layWays_234 ?_
        refine lv_iconst (v := (3 : Int32)) hx hb dX11_layWays_237 (by decide) ?_
        refine lv_iload_n hx hb dX11_layWays_238 rfl (lv_at hl 1 rfl) ?_
        refine lv_imul hx hb dX11_layWays_239 ?_
        refine lv_iload hx hb dX11_layWays_240 (lv_at hl 2 rfl) ?_
        refine lv_iadd hx hb dX11_layWays_242 ?_
        refine lv_lconst (v := (0 : Int64)) hx hb dX11_layWays_243 rfl ?_
        obtain ⟨h19, hf⟩ := gi_s hf
        obtain ⟨g20, eg20, hf⟩ := lb_g hf
        refine x_last (ws' := [(a_this, .inr (11, [.int i_length, .ref a_text, .ref a_roundMany, .ref a_blowMany, .ref a_blows, .ref a_forwards, .ref a_downs, .ref a_takens, .ref a_homes, .ref a_noises, .ref a_judgeMany, .ref a_judges, .ref a_delays, .ref a_tolds, .ref a_tens, .int i_keptMany, .int i_place, .ref a_told, .ref a_ways, .ref a_nextWays, .ref a_tallies, .ref a_presses, .ref a_values, .ref a_nextValues])), (a_blowMany, .inl (X.2.1 0, 2, .inl f_blowMany)), (a_blows, .inl (X.2.1 0, 400, .inl f_blows)), (a_downs, .inl (X.2.1 0, 48, .inl f_downs)), (a_forwards, .inl (X.2.1 0, 48, .inl f_forwards)), (a_homes, .inl (X.2.1 0, 2, .inl f_homes)), (a_judges, .inl (X.2.1 0, 112, .inl f_judges)), (a_nextWays, .inl (X.2.1 1, 601, .inr (.inl f_nextWays))), (a_noises, .inl (X.2.1 0, 2, .inl f_noises)), (a_roundMany, .inl (X.2.1 0, 2, .inl f_roundMany)), (a_takens, .inl (X.2.1 0, 48, .inl f_takens)), (a_tallies, .inl (X.2.1 1, 9, .inr (.inl g20))), (a_ways, .inl (X.2.1 1, 601, .inr (.inl f_ways)))]) hx hb hG hP hD rfl hS 11 rfl h19 dX11_layWays_244 eg20 rfl (fun H locs hP hS => ?_)
        obtain ⟨v21, ev21, hf⟩ := lb_g hf
        refine lv_iinc (v := v21) (lv' := [(4, .int v21), (0, .ref a_this), (3, .int x2)]) hx hb dX11_layWays_245 hl (k := 2) rfl ev21.symm (by decide) rfl (fun ls hl => ?_)
        refine lv_goto (tgt := 227) hx hb dX11_layWays_248 (by decide) ?_
        exact ih v21 f_ways f_nextWays g20  H _ ls hP  hS (lv_sub hl [1, 2, 0] rfl) hf
  have hL190 : ∀ (k53 : Int32 → (Nat → Int64) → (Nat → Int64) → (Nat → Int64) → Option ((Nat → Int64) × (Nat → Int64) × (Nat → Int64))) (hk53 : ∀ (l4 : Int32) (f_ways : Nat → Int64) (f_nextWays : Nat → Int64) (f_tallies : Nat → Int64)  (H : Heap) (locs : List Loc) (ls : Array Slot), va_P X.1 vwCl [(a_this, .inr (11, [.int i_length, .ref a_text, .ref a_roundMany, .ref a_blowMany, .ref a_blows, .ref a_forwards, .ref a_downs, .ref a_takens, .ref a_homes, .ref a_noises, .ref a_judgeMany, .ref a_judges, .ref a_delays, .ref a_tolds, .ref a_tens, .int i_keptMany, .int i_place, .ref a_told, .ref a_ways, .ref a_nextWays, .ref a_tallies, .ref a_presses, .ref a_values, .ref a_nextValues])), (a_blowMany, .inl (X.2.1 0, 2, .inl f_blowMany)), (a_blows, .inl (X.2.1 0, 400, .inl f_blows)), (a_downs, .inl (X.2.1 0, 48, .inl f_downs)), (a_forwards, .inl (X.2.1 0, 48, .inl f_forwards)), (a_homes, .inl (X.2.1 0, 2, .inl f_homes)), (a_judges, .inl (X.2.1 0, 112, .inl f_judges)), (a_nextWays, .inl (X.2.1 1, 601, .inr (.inl f_nextWays))), (a_noises, .inl (X.2.1 0, 2, .inl f_noises)), (a_roundMany, .inl (X.2.1 0, 2, .inl f_roundMany)), (a_takens, .inl (X.2.1 0, 48, .inl f_takens)), (a_tallies, .inl (X.2.1 1, 9, .inr (.inl f_tallies))), (a_ways, .inl (X.2.1 1, 601, .inr (.inl f_ways)))] H → va_S A s.heap H locs → lv_has ls 9 [(0, .ref a_this), (1, .int x0), (2, .int x1), (3, .int x2), (4, .int l4)] → k53 l4 f_ways f_nextWays f_tallies = some o → W p l e rmX11_layWays s m ([.ref a_this, .int x0, .int x1, .int x2] : List Value).toArray below meth c H locs 0 0 Q (F0 m 53 ls [])) (n : Nat) (l4 : Int32) (l8 : Int32) (f_ways : Nat → Int64) (f_nextWays : Nat → Int64) (f_tallies : Nat → Int64)  (H : Heap) (locs : List Loc) (ls : Array Slot), va_P X.1 vwCl [(a_this, .inr (11, [.int i_length, .ref a_text, .ref a_roundMany, .ref a_blowMany, .ref a_blows, .ref a_forwards, .ref a_downs, .ref a_takens, .ref a_homes, .ref a_noises, .ref a_judgeMany, .ref a_judges, .ref a_delays, .ref a_tolds, .ref a_tens, .int i_keptMany, .int i_place, .ref a_told, .ref a_ways, .ref a_nextWays, .ref a_tallies, .ref a_presses, .ref a_values, .ref a_nextValues])), (a_blowMany, .inl (X.2.1 0, 2, .inl f_blowMany)), (a_blows, .inl (X.2.1 0, 400, .inl f_blows)), (a_downs, .inl (X.2.1 0, 48, .inl f_downs)), (a_forwards, .inl (X.2.1 0, 48, .inl f_forwards)), (a_homes, .inl (X.2.1 0, 2, .inl f_homes)), (a_judges, .inl (X.2.1 0, 112, .inl f_judges)), (a_nextWays, .inl (X.2.1 1, 601, .inr (.inl f_nextWays))), (a_noises, .inl (X.2.1 0, 2, .inl f_noises)), (a_roundMany, .inl (X.2.1 0, 2, .inl f_roundMany)), (a_takens, .inl (X.2.1 0, 48, .inl f_takens)), (a_tallies, .inl (X.2.1 1, 9, .inr (.inl f_tallies))), (a_ways, .inl (X.2.1 1, 601, .inr (.inl f_ways)))] H → va_S A s.heap H locs → lv_has ls 9 [(0, .ref a_this), (1, .int x0), (2, .int x1), (3, .int x2), (4, .int l4), (8, .int l8)] → mX11_layWays_L190 x0 x1 x2 f_blowMany f_blows f_downs f_forwards f_homes f_judges f_noises f_roundMany f_takens k53 n l4 l8 f_ways f_nextWays f_tallies = some o → W p l e rmX11_layWays s m ([.ref a_this, .int x0, .int x1, .int x2] : List Value).toArray below meth c H locs 0 0 Q (F0 m 190 ls []) := by
    intro k53 hk53 n
    induction n with
    | zero => intro l4 l8 f_ways f_nextWays f_tallies  H locs ls hP hS hl hf; exact xn hf
    | succ n ih =>
      intro l4 l8 f_ways f_nextWays f_tallies  H locs ls hP hS hl hf
      have hf : mX11_layWays_B190 x0 x1 x2 f_blowMany f_blows f_downs f_forwards f_homes f_judges f_noises f_roundMany f_takens k53 (mX11_layWays_L190 x0 x1 x2 f_blowMany f_blows f_downs f_forwards f_homes f_judges f_noises f_roundMany f_takens k53 n) l4 l8 f_ways f_nextWays f_tallies = some o := hf
      generalize mX11_layWays_L190 x0 x1 x2 f_blowMany f_blows f_downs f_forwards f_homes f_judges f_noises f_roundMany f_takens k53 n = k190 at ih hf
      unfold mX11_layWays_B190 at hf
      refine lv_iload hx hb dX11_layWays_190 (lv_at hl 5 rfl) ?_
      refine lv_sipush (v := (600 : Int32)) hx hb dX11_layWays_192 (by decide) ?_
      refine lv_icmp_gt (tgt := 218) hx hb dX11_layWays_195 (by decide) (fun c45 => ?_) (fun c45 => ?_)
      · have hf := xt hf c45
        obtain ⟨v46, ev46, hf⟩ := lb_g hf
        refine lv_iinc (v := v46) (lv' := [(4, .int v46), (0, .ref a_this), (1, .int x0), (2, .int x1), (3, .int x2), (8, .int l8)]) hx hb dX11_layWays_218 hl (k := 4) rfl ev46.symm (by decide) rfl (fun ls hl => ?_)
        refine lv_goto (tgt := 53) hx hb dX11_layWays_221 (by decide) ?_
        exact hk53 v46 f_ways f_nextWays f_tallies  H _ ls hP  hS (lv_sub hl [1, 2, 3, 4, 0] rfl) hf
      · have hf := xf hf c45
        refine lv_aload_n hx hb dX11_layWays_198 rfl (lv_at hl 0 rfl) ?_
        refine va_get (D := X.1) (ci := 11) (v := .ref a_ways) (C := RX11) (T := TX11) (N := 24) hx hb hts in11 hown hG.1 hP 0 rfl rfl 18 (by decide) w1 (fun _ h9 => h9) rfl dX11_layWays_199 ?_
        refine lv_iload hx hb dX11_layWays_202 (lv_at hl 5 rfl) ?_
        refine lv_aload_n hx hb dX11_layWays_204 rfl (lv_at hl 0 rfl) ?_
        refine va_get (D := X.1) (ci := 11) (v := .ref a_nextWays) (C := RX11) (T := TX11) (N := 24) hx hb hts in11 hown hG.1 hP 0 rfl rfl 19 (by decide) w3 (fun _ h9 => h9) rfl dX11_layWays_205 ?_
        refine lv_iload hx hb dX11_layWays_208 (lv_at hl 5 rfl) ?_
        obtain ⟨h47, hf⟩ := gi_s hf
        refine va_lald (D := X.1) hx hb hG.1 hP 7 1 rfl rfl h47 dX11_layWays_210 ?_
        obtain ⟨h48, hf⟩ := gi_s hf
        obtain ⟨g49, eg49, hf⟩ := lb_g hf
        refine x_last (ws' := [(a_this, .inr (11, [.int i_length, .ref a_text, .ref a_roundMany, .ref a_blowMany, .ref a_blows, .ref a_forwards, .ref a_downs, .ref a_takens, .ref a_homes, .ref a_noises, .ref a_judgeMany, .ref a_judges, .ref a_delays, .ref a_tolds, .ref a_tens, .int i_keptMany, .int i_place, .ref a_told, .ref a_ways, .ref a_nextWays, .ref a_tallies, .ref a_presses, .ref a_values, .ref a_nextValues])), (a_blowMany, .inl (X.2.1 0, 2, .inl f_blowMany)), (a_blows, .inl (X.2.1 0, 400, .inl f_blows)), (a_downs, .inl (X.2.1 0, 48, .inl f_downs)), (a_forwards, .inl (X.2.1 0, 48, .inl f_forwards)), (a_homes, .inl (X.2.1 0, 2, .inl f_homes)), (a_judges, .inl (X.2.1 0, 112, .inl f_judges)), (a_nextWays, .inl (X.2.1 1, 601, .inr (.inl f_nextWays))), (a_noises, .inl (X.2.1 0, 2, .inl f_noises)), (a_roundMany, .inl (X.2.1 0, 2, .inl f_roundMany)), (a_takens, .inl (X.2.1 0, 48, .inl f_takens)), (a_tallies, .inl (X.2.1 1, 9, .inr (.inl f_tallies))), (a_ways, .inl (X.2.1 1, 601, .inr (.inl g49)))]) hx hb hG hP hD rfl hS 12 rfl h48 dX11_layWays_211 eg49 rfl (fun H locs hP hS => ?_)
        obtain ⟨v50, ev50, hf⟩ := lb_g hf
        refine lv_iinc (v := v50) (lv' := [(8, .int v50), (0, .ref a_this), (1, .int x0), (2, .int x1), (3, .int x2), (4, .int l4)]) hx hb dX11_layWays_212 hl (k := 5) rfl ev50.symm (by decide) rfl (fun ls hl => ?_)
        refine lv_goto (tgt := 190) hx hb dX11_layWays_215 (by decide) ?_
        exact ih l4 v50 g49 f_nextWays f_tallies  H _ ls hP  hS (lv_sub hl [1, 2, 3, 4, 5, 0] rfl) hf
  have hB179 : ∀ (k53 : Int32 → (Nat → Int64) → (Nat → Int64) → (Nat → Int64) → Option ((Nat → Int64) × (Nat → Int64) × (Nat → Int64))) (hk53 : ∀ (l4 : Int32) (f_ways : Nat → Int64) (f_nextWays : Nat → Int64) (f_tallies : Nat → Int64)  (H : Heap) (locs : List Loc) (ls : Array Slot), va_P X.1 vwCl [(a_this, .inr (11, [.int i_length, .ref a_text, .ref a_roundMany, .ref a_blowMany, .ref a_blows, .ref a_forwards, .ref a_downs, .ref a_takens, .ref a_homes, .ref a_noises, .ref a_judgeMany, .ref a_judges, .ref a_delays, .ref a_tolds, .ref a_tens, .int i_keptMany, .int i_place, .ref a_told, .ref a_ways, .ref a_nextWays, .ref a_tallies, .ref a_presses, .ref a_values, .ref a_nextValues])), (a_blowMany, .inl (X.2.1 0, 2, .inl f_blowMany)), (a_blows, .inl (X.2.1 0, 400, .inl f_blows)), (a_downs, .inl (X.2.1 0, 48, .inl f_downs)), (a_forwards, .inl (X.2.1 0, 48, .inl f_forwards)), (a_homes, .inl (X.2.1 0, 2, .inl f_homes)), (a_judges, .inl (X.2.1 0, 112, .inl f_judges)), (a_nextWays, .inl (X.2.1 1, 601, .inr (.inl f_nextWays))), (a_noises, .inl (X.2.1 0, 2, .inl f_noises)), (a_roundMany, .inl (X.2.1 0, 2, .inl f_roundMany)), (a_takens, .inl (X.2.1 0, 48, .inl f_takens)), (a_tallies, .inl (X.2.1 1, 9, .inr (.inl f_tallies))), (a_ways, .inl (X.2.1 1, 601, .inr (.inl f_ways)))] H → va_S A s.heap H locs → lv_has ls 9 [(0, .ref a_this), (1, .int x0), (2, .int x1), (3, .int x2), (4, .int l4)] → k53 l4 f_ways f_nextWays f_tallies = some o → W p l e rmX11_layWays s m ([.ref a_this, .int x0, .int x1, .int x2] : List Value).toArray below meth c H locs 0 0 Q (F0 m 53 ls [])) (k124 : Int32 → Int32 → Int32 → Int32 → Int32 → (Nat → Int64) → (Nat → Int64) → (Nat → Int64) → Option ((Nat → Int64) × (Nat → Int64) × (Nat → Int64))) (hk124 : ∀ (l4 : Int32) (l5 : Int32) (l6 : Int32) (l7 : Int32) (l8 : Int32) (f_ways : Nat → Int64) (f_nextWays : Nat → Int64) (f_tallies : Nat → Int64)  (H : Heap) (locs : List Loc) (ls : Array Slot), va_P X.1 vwCl [(a_this, .inr (11, [.int i_length, .ref a_text, .ref a_roundMany, .ref a_blowMany, .ref a_blows, .ref a_forwards, .ref a_downs, .ref a_takens, .ref a_homes, .ref a_noises, .ref a_judgeMany, .ref a_judges, .ref a_delays, .ref a_tolds, .ref a_tens, .int i_keptMany, .int i_place, .ref a_told, .ref a_ways, .ref a_nextWays, .ref a_tallies, .ref a_presses, .ref a_values, .ref a_nextValues])), (a_blowMany, .inl (X.2.1 0, 2, .inl f_blowMany)), (a_blows, .inl (X.2.1 0, 400, .inl f_blows)), (a_downs, .inl (X.2.1 0, 48, .inl f_downs)), (a_forwards, .inl (X.2.1 0, 48, .inl f_forwards)), (a_homes, .inl (X.2.1 0, 2, .inl f_homes)), (a_judges, .inl (X.2.1 0, 112, .inl f_judges)), (a_nextWays, .inl (X.2.1 1, 601, .inr (.inl f_nextWays))), (a_noises, .inl (X.2.1 0, 2, .inl f_noises)), (a_roundMany, .inl (X.2.1 0, 2, .inl f_roundMany)), (a_takens, .inl (X.2.1 0, 48, .inl f_takens)), (a_tallies, .inl (X.2.1 1, 9, .inr (.inl f_tallies))), (a_ways, .inl (X.2.1 1, 601, .inr (.inl f_ways)))] H → va_S A s.heap H locs → lv_has ls 9 [(0, .ref a_this), (1, .int x0), (2, .int x1), (3, .int x2), (4, .int l4), (5, .int l5), (6, .int l6), (7, .int l7), (8, .int l8)] → k124 l4 l5 l6 l7 l8 f_ways f_nextWays f_tallies = some o → W p l e rmX11_layWays s m ([.ref a_this, .int x0, .int x1, .int x2] : List Value).toArray below meth c H locs 0 0 Q (F0 m 124 ls [])) (l4 : Int32) (l5 : Int32) (l6 : Int32) (l7 : Int32) (l8 : Int32) (s1 : Int32) (s2 : Int64) (s3 : Int64) (f_ways : Nat → Int64) (f_nextWays : Nat → Int64) (f_tallies : Nat → Int64)  (H : Heap) (locs : List Loc) (ls : Array Slot), va_P X.1 vwCl [(a_this, .inr (11, [.int i_length, .ref a_text, .ref a_roundMany, .ref a_blowMany, .ref a_blows, .ref a_forwards, .ref a_downs, .ref a_takens, .ref a_homes, .ref a_noises, .ref a_judgeMany, .ref a_judges, .ref a_delays, .ref a_tolds, .ref a_tens, .int i_keptMany, .int i_place, .ref a_told, .ref a_ways, .ref a_nextWays, .ref a_tallies, .ref a_presses, .ref a_values, .ref a_nextValues])), (a_blowMany, .inl (X.2.1 0, 2, .inl f_blowMany)), (a_blows, .inl (X.2.1 0, 400, .inl f_blows)), (a_downs, .inl (X.2.1 0, 48, .inl f_downs)), (a_forwards, .inl (X.2.1 0, 48, .inl f_forwards)), (a_homes, .inl (X.2.1 0, 2, .inl f_homes)), (a_judges, .inl (X.2.1 0, 112, .inl f_judges)), (a_nextWays, .inl (X.2.1 1, 601, .inr (.inl f_nextWays))), (a_noises, .inl (X.2.1 0, 2, .inl f_noises)), (a_roundMany, .inl (X.2.1 0, 2, .inl f_roundMany)), (a_takens, .inl (X.2.1 0, 48, .inl f_takens)), (a_tallies, .inl (X.2.1 1, 9, .inr (.inl f_tallies))), (a_ways, .inl (X.2.1 1, 601, .inr (.inl f_ways)))] H → va_S A s.heap H locs → lv_has ls 9 [(0, .ref a_this), (1, .int x0), (2, .int x1), (3, .int x2), (4, .int l4), (5, .int l5), (6, .int l6), (7, .int l7), (8, .int l8)] → mX11_layWays_B179 x0 x1 x2 f_blowMany f_blows f_downs f_forwards f_homes f_judges f_noises f_roundMany f_takens k53 k124 l4 l5 l6 l7 l8 s1 s2 s3 f_ways f_nextWays f_tallies = some o → W p l e rmX11_layWays s m ([.ref a_this, .int x0, .int x1, .int x2] : List Value).toArray below meth c H locs 0 0 Q (F0 m 179 ls [.long s3, .long s2, .int s1, .ref a_nextWays]) := by
    intro k53 hk53 k124 hk124 l4 l5 l6 l7 l8 s1 s2 s3 f_ways f_nextWays f_tallies  H locs ls hP hS hl hf
    unfold mX11_layWays_B179 at hf
    refine lv_ladd hx hb dX11_layWays_179 ?_
    obtain ⟨h51, hf⟩ := gi_s hf
    obtain ⟨g52, eg52, hf⟩ := lb_g hf
    refine x_last (ws' := [(a_this, .inr (11, [.int i_length, .ref a_text, .ref a_roundMany, .ref a_blowMany, .ref a_blows, .ref a_forwards, .ref a_downs, .ref a_takens, .ref a_homes, .ref a_noises, .ref a_judgeMany, .ref a_judges, .ref a_delays, .ref a_tolds, .ref a_tens, .int i_keptMany, .int i_place, .ref a_told, .ref a_ways, .ref a_nextWays, .ref a_tallies, .ref a_presses, .ref a_values, .ref a_nextValues])), (a_blowMany, .inl (X.2.1 0, 2, .inl f_blowMany)), (a_blows, .inl (X.2.1 0, 400, .inl f_blows)), (a_downs, .inl (X.2.1 0, 48, .inl f_downs)), (a_forwards, .inl (X.2.1 0, 48, .inl f_forwards)), (a_homes, .inl (X.2.1 0, 2, .inl f_homes)), (a_judges, .inl (X.2.1 0, 112, .inl f_judges)), (a_nextWays, .inl (X.2.1 1, 601, .inr (.inl g52))), (a_noises, .inl (X.2.1 0, 2, .inl f_noises)), (a_roundMany, .inl (X.2.1 0, 2, .inl f_roundMany)), (a_takens, .inl (X.2.1 0, 48, .inl f_takens)), (a_tallies, .inl (X.2.1 1, 9, .inr (.inl f_tallies))), (a_ways, .inl (X.2.1 1, 601, .inr (.inl f_ways)))]) hx hb hG hP hD rfl hS 7 rfl h51 dX11_layWays_180 eg52 rfl (fun H locs hP hS => ?_)
    obtain ⟨v53, ev53, hf⟩ := lb_g hf
    refine lv_iinc (v := v53) (lv' := [(8, .int v53), (0, .ref a_this), (1, .int x0), (2, .int x1), (3, .int x2), (4, .int l4), (5, .int l5), (6, .int l6), (7, .int l7)]) hx hb dX11_layWays_181 hl (k := 8) rfl ev53.symm (by decide) rfl (fun ls hl => ?_)
    refine lv_goto (tgt := 124) hx hb dX11_layWays_184 (by decide) ?_
    exact hk124 l4 l5 l6 l7 v53 f_ways g52 f_tallies  H _ ls hP  hS (lv_sub hl [1, 2, 3, 4, 5, 6, 7, 8, 0] rfl) hf
  have hL124 : ∀ (k53 : Int32 → (Nat → Int64) → (Nat → Int64) → (Nat → Int64) → Option ((Nat → Int64) × (Nat → Int64) × (Nat → Int64))) (hk53 : ∀ (l4 : Int32) (f_ways : Nat → Int64) (f_nextWays : Nat → Int64) (f_tallies : Nat → Int64)  (H : Heap) (locs : List Loc) (ls : Array Slot), va_P X.1 vwCl [(a_this, .inr (11, [.int i_length, .ref a_text, .ref a_roundMany, .ref a_blowMany, .ref a_blows, .ref a_forwards, .ref a_downs, .ref a_takens, .ref a_homes, .ref a_noises, .ref a_judgeMany, .ref a_judges, .ref a_delays, .ref a_tolds, .ref a_tens, .int i_keptMany, .int i_place, .ref a_told, .ref a_ways, .ref a_nextWays, .ref a_tallies, .ref a_presses, .ref a_values, .ref a_nextValues])), (a_blowMany, .inl (X.2.1 0, 2, .inl f_blowMany)), (a_blows, .inl (X.2.1 0, 400, .inl f_blows)), (a_downs, .inl (X.2.1 0, 48, .inl f_downs)), (a_forwards, .inl (X.2.1 0, 48, .inl f_forwards)), (a_homes, .inl (X.2.1 0, 2, .inl f_homes)), (a_judges, .inl (X.2.1 0, 112, .inl f_judges)), (a_nextWays, .inl (X.2.1 1, 601, .inr (.inl f_nextWays))), (a_noises, .inl (X.2.1 0, 2, .inl f_noises)), (a_roundMany, .inl (X.2.1 0, 2, .inl f_roundMany)), (a_takens, .inl (X.2.1 0, 48, .inl f_takens)), (a_tallies, .inl (X.2.1 1, 9, .inr (.inl f_tallies))), (a_ways, .inl (X.2.1 1, 601, .inr (.inl f_ways)))] H → va_S A s.heap H locs → lv_has ls 9 [(0, .ref a_this), (1, .int x0), (2, .int x1), (3, .int x2), (4, .int l4)] → k53 l4 f_ways f_nextWays f_tallies = some o → W p l e rmX11_layWays s m ([.ref a_this, .int x0, .int x1, .int x2] : List Value).toArray below meth c H locs 0 0 Q (F0 m 53 ls [])) (n : Nat) (l4 : Int32) (l5 : Int32) (l6 : Int32) (l7 : Int32) (l8 : Int32) (f_ways : Nat → Int64) (f_nextWays : Nat → Int64) (f_tallies : Nat → Int64)  (H : Heap) (locs : List Loc) (ls : Array Slot), va_P X.1 vwCl [(a_this, .inr (11, [.int i_length, .ref a_text, .ref a_roundMany, .ref a_blowMany, .ref a_blows, .ref a_forwards, .ref a_downs, .ref a_takens, .ref a_homes, .ref a_noises, .ref a_judgeMany, .ref a_judges, .ref a_delays, .ref a_tolds, .ref a_tens, .int i_keptMany, .int i_place, .ref a_told, .ref a_ways, .ref a_nextWays, .ref a_tallies, .ref a_presses, .ref a_values, .ref a_nextValues])), (a_blowMany, .inl (X.2.1 0, 2, .inl f_blowMany)), (a_blows, .inl (X.2.1 0, 400, .inl f_blows)), (a_downs, .inl (X.2.1 0, 48, .inl f_downs)), (a_forwards, .inl (X.2.1 0, 48, .inl f_forwards)), (a_homes, .inl (X.2.1 0, 2, .inl f_homes)), (a_judges, .inl (X.2.1 0, 112, .inl f_judges)), (a_nextWays, .inl (X.2.1 1, 601, .inr (.inl f_nextWays))), (a_noises, .inl (X.2.1 0, 2, .inl f_noises)), (a_roundMany, .inl (X.2.1 0, 2, .inl f_roundMany)), (a_takens, .inl (X.2.1 0, 48, .inl f_takens)), (a_tallies, .inl (X.2.1 1, 9, .inr (.inl f_tallies))), (a_ways, .inl (X.2.1 1, 601, .inr (.inl f_ways)))] H → va_S A s.heap H locs → lv_has ls 9 [(0, .ref a_this), (1, .int x0), (2, .int x1), (3, .int x2), (4, .int l4), (5, .int l5), (6, .int l6), (7, .int l7), (8, .int l8)] → mX11_layWays_L124 x0 x1 x2 f_blowMany f_blows f_downs f_forwards f_homes f_judges f_noises f_roundMany f_takens k53 n l4 l5 l6 l7 l8 f_ways f_nextWays f_tallies = some o → W p l e rmX11_layWays s m ([.ref a_this, .int x0, .int x1, .int x2] : List Value).toArray below meth c H locs 0 0 Q (F0 m 124 ls []) := by
    intro k53 hk53 n
    induction n with
    | zero => intro l4 l5 l6 l7 l8 f_ways f_nextWays f_tallies  H locs ls hP hS hl hf; exact xn hf
    | succ n ih =>
      intro l4 l5 l6 l7 l8 f_ways f_nextWays f_tallies  H locs ls hP hS hl hf
      have hf : mX11_layWays_B124 x0 x1 x2 f_blowMany f_blows f_downs f_forwards f_homes f_judges f_noises f_roundMany f_takens k53 (mX11_layWays_L124 x0 x1 x2 f_blowMany f_blows f_downs f_forwards f_homes f_judges f_noises f_roundMany f_takens k53 n) l4 l5 l6 l7 l8 f_ways f_nextWays f_tallies = some o := hf
      generalize mX11_layWays_L124 x0 x1 x2 f_blowMany f_blows f_downs f_forwards f_homes f_judges f_noises f_roundMany f_takens k53 n = k124 at ih hf
      unfold mX11_layWays_B124 at hf
      refine lv_iload hx hb dX11_layWays_124 (lv_at hl 8 rfl) ?_
      refine lv_sipush (v := (590 : Int32)) hx hb dX11_layWays_126 (by decide) ?_
      refine lv_icmp_gt (tgt := 187) hx hb dX11_layWays_129 (by decide) (fun c29 => ?_) (fun c29 => ?_)
      · have hf := xt hf c29
        refine lv_iconst (v := (0 : Int32)) hx hb dX11_layWays_187 (by decide) ?_
        refine lv_istore (lv' := [(8, .int (0 : Int32)), (0, .ref a_this), (1, .int x0), (2, .int x1), (3, .int x2), (4, .int l4), (5, .int l5), (6, .int l6), (7, .int l7)]) hx hb dX11_layWays_188 hl (by decide) rfl (fun ls hl => ?_)
        exact hL190 k53 hk53 FUEL l4 (0 : Int32) f_ways f_nextWays f_tallies  H _ ls hP  hS (lv_sub hl [1, 2, 3, 4, 5, 0] rfl) hf
      · have hf := xf hf c29
        refine lv_aload_n hx hb dX11_layWays_132 rfl (lv_at hl 0 rfl) ?_
        refine va_get (D := X.1) (ci := 11) (v := .ref a_nextWays) (C := RX11) (T := TX11) (N := 24) hx hb hts in11 hown hG.1 hP 0 rfl rfl 19 (by decide) w3 (fun _ h9 => h9) rfl dX11_layWays_133 ?_
        refine lv_iload hx hb dX11_layWays_136 (lv_at hl 8 rfl) ?_
        refine lv_iload hx hb dX11_layWays_138 (lv_at hl 5 rfl) ?_
        refine lv_iadd hx hb dX11_layWays_140 ?_
        refine lv_topi (fun v30 ev30 => ?_)
        have hf := lb_s hf ev30
        refine lv_dup2_11 hx hb dX11_layWays_141 rfl rfl ?_
        obtain ⟨h31, hf⟩ := gi_s hf
        refine va_lald (D := X.1) hx hb hG.1 hP 7 1 rfl rfl h31 dX11_layWays_142 ?_
        refine lv_aload_n hx hb dX11_layWays_143 rfl (lv_at hl 0 rfl) ?_
        refine va_get (D := X.1) (ci := 11) (v := .ref a_ways) (C := RX11) (T := TX11) (N := 24) hx hb hts in11 hown hG.1 hP 0 rfl rfl 18 (by decide) w1 (fun _ h9 => h9) rfl dX11_layWays_144 ?_
        refine lv_iload hx hb dX11_layWays_147 (lv_at hl 8 rfl) ?_
        obtain ⟨h32, hf⟩ := gi_s hf
        refine va_lald (D := X.1) hx hb hG.1 hP 12 1 rfl rfl h32 dX11_layWays_149 ?_
        refine lv_ladd hx hb dX11_layWays_150 ?_
        obtain ⟨h33, hf⟩ := gi_s hf
        obtain ⟨g34, eg34, hf⟩ := lb_g hf
        refine x_last (ws' := [(a_this, .inr (11, [.int i_length, .ref a_text, .ref a_roundMany, .ref a_blowMany, .ref a_blows, .ref a_forwards, .ref a_downs, .ref a_takens, .ref a_homes, .ref a_noises, .ref a_judgeMany, .ref a_judges, .ref a_delays, .ref a_tolds, .ref a_tens, .int i_keptMany, .int i_place, .ref a_told, .ref a_ways, .ref a_nextWays, .ref a_tallies, .ref a_presses, .ref a_values, .ref a_nextValues])), (a_blowMany, .inl (X.2.1 0, 2, .inl f_blowMany)), (a_blows, .inl (X.2.1 0, 400, .inl f_blows)), (a_downs, .inl (X.2.1 0, 48, .inl f_downs)), (a_forwards, .inl (X.2.1 0, 48, .inl f_forwards)), (a_homes, .inl (X.2.1 0, 2, .inl f_homes)), (a_judges, .inl (X.2.1 0, 112, .inl f_judges)), (a_nextWays, .inl (X.2.1 1, 601, .inr (.inl g34))), (a_noises, .inl (X.2.1 0, 2, .inl f_noises)), (a_roundMany, .inl (X.2.1 0, 2, .inl f_roundMany)), (a_takens, .inl (X.2.1 0, 48, .inl f_takens)), (a_tallies, .inl (X.2.1 1, 9, .inr (.inl f_tallies))), (a_ways, .inl (X.2.1 1, 601, .inr (.inl f_ways)))]) hx hb hG hP hD rfl hS 7 rfl h33 dX11_layWays_151 eg34 rfl (fun H locs hP hS => ?_)
        refine lv_aload_n hx hb dX11_layWays_152 rfl (lv_at hl 0 rfl) ?_
        refine va_get (D := X.1) (ci := 11) (v := .ref a_nextWays) (C := RX11) (T := TX11) (N := 24) hx hb hts in11 hown hG.1 hP 0 rfl rfl 19 (by decide) w3 (fun _ h9 => h9) rfl dX11_layWays_153 ?_
        refine lv_iload hx hb dX11_layWays_156 (lv_at hl 8 rfl) ?_
        refine lv_iload hx hb dX11_layWays_158 (lv_at hl 6 rfl) ?_
        refine lv_iadd hx hb dX11_layWays_160 ?_
        refine lv_topi (fun v35 ev35 => ?_)
        have hf := lb_s hf ev35
        refine lv_dup2_11 hx hb dX11_layWays_161 rfl rfl ?_
        obtain ⟨h36, hf⟩ := gi_s hf
        refine va_lald (D := X.1) hx hb hG.1 hP 7 1 rfl rfl h36 dX11_layWays_162 ?_
        refine lv_iload hx hb dX11_layWays_163 (lv_at hl 7 rfl) ?_
        refine lv_if_eq (tgt := 178) hx hb dX11_layWays_165 (by decide) (fun c37 => ?_) (fun c37 => ?_)
        · have hf := xt hf c37
          refine lv_lconst (v := (0 : Int64)) hx hb dX11_layWays_178 rfl ?_
          exact hB179 k53 hk53 k124 ih l4 l5 l6 l7 l8 v35 (g34 v35.toNatClampNeg) (0 : Int64) f_ways g34 f_tallies  H _ ls hP  hS (lv_sub hl [0, 1, 2, 3, 4, 5, 6, 7, 8] rfl) hf
        · have hf := xf hf c37
          refine lv_aload_n hx hb dX11_layWays_168 rfl (lv_at hl 0 rfl) ?_
          refine va_get (D := X.1) (ci := 11) (v := .ref a_ways) (C := RX11) (T := TX11) (N := 24) hx hb hts in11 hown hG.1 hP 0 rfl rfl 18 (by decide) w1 (fun _ h9 => h9) rfl dX11_layWays_169 ?_
          refine lv_iload hx hb dX11_layWays_172 (lv_at hl 8 rfl) ?_
          obtain ⟨h38, hf⟩ := gi_s hf
          refine va_lald (D := X.1) hx hb hG.1 hP 12 1 rfl rfl h38 dX11_layWays_174 ?_
          refine lv_goto (tgt := 179) hx hb dX11_layWays_175 (by decide) ?_
          exact hB179 k53 hk53 k124 ih l4 l5 l6 l7 l8 v35 (g34 v35.toNatClampNeg) (f_ways l8.toNatClampNeg) f_ways g34 f_tallies  H _ ls hP  hS (lv_sub hl [0, 1, 2, 3, 4, 5, 6, 7, 8] rfl) hf
  have hL98 : ∀ (k53 : Int32 → (Nat → Int64) → (Nat → Int64) → (Nat → Int64) → Option ((Nat → Int64) × (Nat → Int64) × (Nat → Int64))) (hk53 : ∀ (l4 : Int32) (f_ways : Nat → Int64) (f_nextWays : Nat → Int64) (f_tallies : Nat → Int64)  (H : Heap) (locs : List Loc) (ls : Array Slot), va_P X.1 vwCl [(a_this, .inr (11, [.int i_length, .ref a_text, .ref a_roundMany, .ref a_blowMany, .ref a_blows, .ref a_forwards, .ref a_downs, .ref a_takens, .ref a_homes, .ref a_noises, .ref a_judgeMany, .ref a_judges, .ref a_delays, .ref a_tolds, .ref a_tens, .int i_keptMany, .int i_place, .ref a_told, .ref a_ways, .ref a_nextWays, .ref a_tallies, .ref a_presses, .ref a_values, .ref a_nextValues])), (a_blowMany, .inl (X.2.1 0, 2, .inl f_blowMany)), (a_blows, .inl (X.2.1 0, 400, .inl f_blows)), (a_downs, .inl (X.2.1 0, 48, .inl f_downs)), (a_forwards, .inl (X.2.1 0, 48, .inl f_forwards)), (a_homes, .inl (X.2.1 0, 2, .inl f_homes)), (a_judges, .inl (X.2.1 0, 112, .inl f_judges)), (a_nextWays, .inl (X.2.1 1, 601, .inr (.inl f_nextWays))), (a_noises, .inl (X.2.1 0, 2, .inl f_noises)), (a_roundMany, .inl (X.2.1 0, 2, .inl f_roundMany)), (a_takens, .inl (X.2.1 0, 48, .inl f_takens)), (a_tallies, .inl (X.2.1 1, 9, .inr (.inl f_tallies))), (a_ways, .inl (X.2.1 1, 601, .inr (.inl f_ways)))] H → va_S A s.heap H locs → lv_has ls 9 [(0, .ref a_this), (1, .int x0), (2, .int x1), (3, .int x2), (4, .int l4)] → k53 l4 f_ways f_nextWays f_tallies = some o → W p l e rmX11_layWays s m ([.ref a_this, .int x0, .int x1, .int x2] : List Value).toArray below meth c H locs 0 0 Q (F0 m 53 ls [])) (n : Nat) (l4 : Int32) (l5 : Int32) (l6 : Int32) (l7 : Int32) (l8 : Int32) (f_ways : Nat → Int64) (f_nextWays : Nat → Int64) (f_tallies : Nat → Int64)  (H : Heap) (locs : List Loc) (ls : Array Slot), va_P X.1 vwCl [(a_this, .inr (11, [.int i_length, .ref a_text, .ref a_roundMany, .ref a_blowMany, .ref a_blows, .ref a_forwards, .ref a_downs, .ref a_takens, .ref a_homes, .ref a_noises, .ref a_judgeMany, .ref a_judges, .ref a_delays, .ref a_tolds, .ref a_tens, .int i_keptMany, .int i_place, .ref a_told, .ref a_ways, .ref a_nextWays, .ref a_tallies, .ref a_presses, .ref a_values, .ref a_nextValues])), (a_blowMany, .inl (X.2.1 0, 2, .inl f_blowMany)), (a_blows, .inl (X.2.1 0, 400, .inl f_blows)), (a_downs, .inl (X.2.1 0, 48, .inl f_downs)), (a_forwards, .inl (X.2.1 0, 48, .inl f_forwards)), (a_homes, .inl (X.2.1 0, 2, .inl f_homes)), (a_judges, .inl (X.2.1 0, 112, .inl f_judges)), (a_nextWays, .inl (X.2.1 1, 601, .inr (.inl f_nextWays))), (a_noises, .inl (X.2.1 0, 2, .inl f_noises)), (a_roundMany, .inl (X.2.1 0, 2, .inl f_roundMany)), (a_takens, .inl (X.2.1 0, 48, .inl f_takens)), (a_tallies, .inl (X.2.1 1, 9, .inr (.inl f_tallies))), (a_ways, .inl (X.2.1 1, 601, .inr (.inl f_ways)))] H → va_S A s.heap H locs → lv_has ls 9 [(0, .ref a_this), (1, .int x0), (2, .int x1), (3, .int x2), (4, .int l4), (5, .int l5), (6, .int l6), (7, .int l7), (8, .int l8)] → mX11_layWays_L98 x0 x1 x2 f_blowMany f_blows f_downs f_forwards f_homes f_judges f_noises f_roundMany f_takens k53 n l4 l5 l6 l7 l8 f_ways f_nextWays f_tallies = some o → W p l e rmX11_layWays s m ([.ref a_this, .int x0, .int x1, .int x2] : List Value).toArray below meth c H locs 0 0 Q (F0 m 98 ls []) := by
    intro k53 hk53 n
    induction n with
    | zero => intro l4 l5 l6 l7 l8 f_ways f_nextWays f_tallies  H locs ls hP hS hl hf; exact xn hf
    | succ n ih =>
      intro l4 l5 l6 l7 l8 f_ways f_nextWays f_tallies  H locs ls hP hS hl hf
      have hf : mX11_layWays_B98 x0 x1 x2 f_blowMany f_blows f_downs f_forwards f_homes f_judges f_noises f_roundMany f_takens k53 (mX11_layWays_L98 x0 x1 x2 f_blowMany f_blows f_downs f_forwards f_homes f_judges f_noises f_roundMany f_takens k53 n) l4 l5 l6 l7 l8 f_ways f_nextWays f_tallies = some o := hf
      generalize mX11_layWays_L98 x0 x1 x2 f_blowMany f_blows f_downs f_forwards f_homes f_judges f_noises f_roundMany f_takens k53 n = k98 at ih hf
      unfold mX11_layWays_B98 at hf
      refine lv_iload hx hb dX11_layWays_98 (lv_at hl 8 rfl) ?_
      refine lv_sipush (v := (600 : Int32)) hx hb dX11_layWays_100 (by decide) ?_
      refine lv_icmp_gt (tgt := 120) hx hb dX11_layWays_103 (by decide) (fun c22 => ?_) (fun c22 => ?_)
      · have hf := xt hf c22
        refine lv_bipush (v := (10 : Int32)) hx hb dX11_layWays_120 (by decide) ?_
        refine lv_istore (lv' := [(8, .int (10 : Int32)), (0, .ref a_this), (1, .int x0), (2, .int x1), (3, .int x2), (4, .int l4), (5, .int l5), (6, .int l6), (7, .int l7)]) hx hb dX11_layWays_122 hl (by decide) rfl (fun ls hl => ?_)
        exact hL124 k53 hk53 FUEL l4 l5 l6 l7 (10 : Int32) f_ways f_nextWays f_tallies  H _ ls hP  hS (lv_sub hl [1, 2, 3, 4, 5, 6, 7, 8, 0] rfl) hf
      · have hf := xf hf c22
        refine lv_aload_n hx hb dX11_layWays_106 rfl (lv_at hl 0 rfl) ?_
        refine va_get (D := X.1) (ci := 11) (v := .ref a_nextWays) (C := RX11) (T := TX11) (N := 24) hx hb hts in11 hown hG.1 hP 0 rfl rfl 19 (by decide) w3 (fun _ h9 => h9) rfl dX11_layWays_107 ?_
        refine lv_iload hx hb dX11_layWays_110 (lv_at hl 8 rfl) ?_
        refine lv_lconst (v := (0 : Int64)) hx hb dX11_layWays_112 rfl ?_
        obtain ⟨h23, hf⟩ := gi_s hf
        obtain ⟨g24, eg24, hf⟩ := lb_g hf
        refine x_last (ws' := [(a_this, .inr (11, [.int i_length, .ref a_text, .ref a_roundMany, .ref a_blowMany, .ref a_blows, .ref a_forwards, .ref a_downs, .ref a_takens, .ref a_homes, .ref a_noises, .ref a_judgeMany, .ref a_judges, .ref a_delays, .ref a_tolds, .ref a_tens, .int i_keptMany, .int i_place, .ref a_told, .ref a_ways, .ref a_nextWays, .ref a_tallies, .ref a_presses, .ref a_values, .ref a_nextValues])), (a_blowMany, .inl (X.2.1 0, 2, .inl f_blowMany)), (a_blows, .inl (X.2.1 0, 400, .inl f_blows)), (a_downs, .inl (X.2.1 0, 48, .inl f_downs)), (a_forwards, .inl (X.2.1 0, 48, .inl f_forwards)), (a_homes, .inl (X.2.1 0, 2, .inl f_homes)), (a_judges, .inl (X.2.1 0, 112, .inl f_judges)), (a_nextWays, .inl (X.2.1 1, 601, .inr (.inl g24))), (a_noises, .inl (X.2.1 0, 2, .inl f_noises)), (a_roundMany, .inl (X.2.1 0, 2, .inl f_roundMany)), (a_takens, .inl (X.2.1 0, 48, .inl f_takens)), (a_tallies, .inl (X.2.1 1, 9, .inr (.inl f_tallies))), (a_ways, .inl (X.2.1 1, 601, .inr (.inl f_ways)))]) hx hb hG hP hD rfl hS 7 rfl h23 dX11_layWays_113 eg24 rfl (fun H locs hP hS => ?_)
        obtain ⟨v25, ev25, hf⟩ := lb_g hf
        refine lv_iinc (v := v25) (lv' := [(8, .int v25), (0, .ref a_this), (1, .int x0), (2, .int x1), (3, .int x2), (4, .int l4), (5, .int l5), (6, .int l6), (7, .int l7)]) hx hb dX11_layWays_114 hl (k := 8) rfl ev25.symm (by decide) rfl (fun ls hl => ?_)
        refine lv_goto (tgt := 98) hx hb dX11_layWays_117 (by decide) ?_
        exact ih l4 l5 l6 l7 v25 f_ways g24 f_tallies  H _ ls hP  hS (lv_sub hl [1, 2, 3, 4, 5, 6, 7, 8, 0] rfl) hf
  have hL53 : ∀ (n : Nat) (l4 : Int32) (f_ways : Nat → Int64) (f_nextWays : Nat → Int64) (f_tallies : Nat → Int64)  (H : Heap) (locs : List Loc) (ls : Array Slot), va_P X.1 vwCl [(a_this, .inr (11, [.int i_length, .ref a_text, .ref a_roundMany, .ref a_blowMany, .ref a_blows, .ref a_forwards, .ref a_downs, .ref a_takens, .ref a_homes, .ref a_noises, .ref a_judgeMany, .ref a_judges, .ref a_delays, .ref a_tolds, .ref a_tens, .int i_keptMany, .int i_place, .ref a_told, .ref a_ways, .ref a_nextWays, .ref a_tallies, .ref a_presses, .ref a_values, .ref a_nextValues])), (a_blowMany, .inl (X.2.1 0, 2, .inl f_blowMany)), (a_blows, .inl (X.2.1 0, 400, .inl f_blows)), (a_downs, .inl (X.2.1 0, 48, .inl f_downs)), (a_forwards, .inl (X.2.1 0, 48, .inl f_forwards)), (a_homes, .inl (X.2.1 0, 2, .inl f_homes)), (a_judges, .inl (X.2.1 0, 112, .inl f_judges)), (a_nextWays, .inl (X.2.1 1, 601, .inr (.inl f_nextWays))), (a_noises, .inl (X.2.1 0, 2, .inl f_noises)), (a_roundMany, .inl (X.2.1 0, 2, .inl f_roundMany)), (a_takens, .inl (X.2.1 0, 48, .inl f_takens)), (a_tallies, .inl (X.2.1 1, 9, .inr (.inl f_tallies))), (a_ways, .inl (X.2.1 1, 601, .inr (.inl f_ways)))] H → va_S A s.heap H locs → lv_has ls 9 [(0, .ref a_this), (1, .int x0), (2, .int x1), (3, .int x2), (4, .int l4)] → mX11_layWays_L53 x0 x1 x2 f_blowMany f_blows f_downs f_forwards f_homes f_judges f_noises f_roundMany f_takens  n l4 f_ways f_nextWays f_tallies = some o → W p l e rmX11_layWays s m ([.ref a_this, .int x0, .int x1, .int x2] : List Value).toArray below meth c H locs 0 0 Q (F0 m 53 ls []) := by
    intro n
    induction n with
    | zero => intro l4 f_ways f_nextWays f_tallies  H locs ls hP hS hl hf; exact xn hf
    | succ n ih =>
      intro l4 f_ways f_nextWays f_tallies  H locs ls hP hS hl hf
      have hf : mX11_layWays_B53 x0 x1 x2 f_blowMany f_blows f_downs f_forwards f_homes f_judges f_noises f_roundMany f_takens  (mX11_layWays_L53 x0 x1 x2 f_blowMany f_blows f_downs f_forwards f_homes f_judges f_noises f_roundMany f_takens  n) l4 f_ways f_nextWays f_tallies = some o := hf
      generalize mX11_layWays_L53 x0 x1 x2 f_blowMany f_blows f_downs f_forwards f_homes f_judges f_noises f_roundMany f_takens  n = k53 at ih hf
      unfold mX11_layWays_B53 at hf
      refine lv_iload hx hb dX11_layWays_53 (lv_at hl 4 rfl) ?_
      refine lv_aload_n hx hb dX11_layWays_55 rfl (lv_at hl 0 rfl) ?_
      refine va_get (D := X.1) (ci := 11) (v := .ref a_roundMany) (C := RX11) (T := TX11) (N := 24) hx hb hts in11 hown hG.1 hP 0 rfl rfl 2 (by decide) w2 (fun _ h9 => h9) rfl dX11_layWays_56 ?_
      refine lv_iconst (v := (0 : Int32)) hx hb dX11_layWays_59 (by decide) ?_
      refine va_iald (D := X.1) hx hb hG.1 hP 9 0 rfl rfl (vp_lit (by decide)) dX11_layWays_60 ?_
      refine lv_icmp_ge (tgt := 224) hx hb dX11_layWays_61 (by decide) (fun c11 => ?_) (fun c11 => ?_)
      · have hf := xt hf c11
        refine lv_iconst (v := (0 : Int32)) hx hb dX11_layWays_224 (by decide) ?_
        refine lv_istore (lv' := [(4, .int (0 : Int32)), (0, .ref a_this), (1, .int x0), (2, .int x1), (3, .int x2)]) hx hb dX11_layWays_225 hl (by decide) rfl (fun ls hl => ?_)
        exact hL227  FUEL (0 : Int32) f_ways f_nextWays f_tallies  H _ ls hP  hS (lv_sub hl [1, 4, 0] rfl) hf
      · have hf := xf hf c11
        refine lv_aload_n hx hb dX11_layWays_64 rfl (lv_at hl 0 rfl) ?_
        refine lv_iload_n hx hb dX11_layWays_65 rfl (lv_at hl 1 rfl) ?_
        refine lv_iload_n hx hb dX11_layWays_66 rfl (lv_at hl 2 rfl) ?_
        refine lv_iload hx hb dX11_layWays_67 (lv_at hl 4 rfl) ?_
        refine lv_iconst (v := (0 : Int32)) hx hb dX11_layWays_69 (by decide) ?_
        obtain ⟨o12, ho12, hf⟩ := ob_s hf
        refine xV_i (As := [.int x0, .int x1, .int l4, .int (0 : Int32)]) (b := a_this) (rest := []) (ws2 := [(a_this, .inr (11, [.int i_length, .ref a_text, .ref a_roundMany, .ref a_blowMany, .ref a_blows, .ref a_forwards, .ref a_downs, .ref a_takens, .ref a_homes, .ref a_noises, .ref a_judgeMany, .ref a_judges, .ref a_delays, .ref a_tolds, .ref a_tens, .int i_keptMany, .int i_place, .ref a_told, .ref a_ways, .ref a_nextWays, .ref a_tallies, .ref a_presses, .ref a_values, .ref a_nextValues])), (a_blowMany, .inl (X.2.1 0, 2, .inl f_blowMany)), (a_blows, .inl (X.2.1 0, 400, .inl f_blows)), (a_downs, .inl (X.2.1 0, 48, .inl f_downs)), (a_forwards, .inl (X.2.1 0, 48, .inl f_forwards)), (a_homes, .inl (X.2.1 0, 2, .inl f_homes)), (a_judges, .inl (X.2.1 0, 112, .inl f_judges)), (a_nextWays, .inl (X.2.1 1, 601, .inr (.inl f_nextWays))), (a_noises, .inl (X.2.1 0, 2, .inl f_noises)), (a_roundMany, .inl (X.2.1 0, 2, .inl f_roundMany)), (a_takens, .inl (X.2.1 0, 48, .inl f_takens)), (a_tallies, .inl (X.2.1 1, 9, .inr (.inl f_tallies))), (a_ways, .inl (X.2.1 1, 601, .inr (.inl f_ways)))]) hx hb hml hts hown hG hA hP hD rfl hS hl.1 (qX11_margin0 l X a_this a_blowMany a_blows a_downs a_forwards a_homes a_judges a_noises a_text a_roundMany a_takens a_judgeMany a_delays a_tolds a_tens a_told a_ways a_nextWays a_tallies a_presses a_values a_nextValues i_length i_keptMany i_place f_blowMany f_blows f_downs f_forwards f_homes f_judges f_noises x0 x1 l4 (0 : Int32) o12 ho12) (cwV (y := yX11_margin0) 4 hts gX11_layWays_X11_margin0 rfl rfl rfl hdvX11_margin0 ⟨Nat.le_of_ble_eq_true rfl, Nat.le_of_ble_eq_true rfl⟩) [0, 1, 2, 3, 4, 5, 6, 8] [7, 9, 10, 11, 12] [5, 6, 7, 8, 9, 10, 11, 0, 12, 1, 2, 3, 4] rfl rfl rfl rfl rfl rfl rfl (ci := 11) rfl 0 rfl rfl rfl (Nat.le_of_ble_eq_true rfl) ⟨Nat.le_of_ble_eq_true rfl, Nat.le_of_ble_eq_true rfl⟩ dX11_layWays_70 (fun H locs hP _ hS => ?_)
        refine lv_istore (lv' := [(5, .int o12), (0, .ref a_this), (1, .int x0), (2, .int x1), (3, .int x2), (4, .int l4)]) hx hb dX11_layWays_73 hl (by decide) rfl (fun ls hl => ?_)
        refine lv_aload_n hx hb dX11_layWays_75 rfl (lv_at hl 1 rfl) ?_
        refine lv_iload_n hx hb dX11_layWays_76 rfl (lv_at hl 2 rfl) ?_
        refine lv_iload_n hx hb dX11_layWays_77 rfl (lv_at hl 3 rfl) ?_
        refine lv_iload hx hb dX11_layWays_78 (lv_at hl 5 rfl) ?_
        refine lv_iconst (v := (1 : Int32)) hx hb dX11_layWays_80 (by decide) ?_
        obtain ⟨o14, ho14, hf⟩ := ob_s hf
        refine xV_i (As := [.int x0, .int x1, .int l4, .int (1 : Int32)]) (b := a_this) (rest := []) (ws2 := [(a_this, .inr (11, [.int i_length, .ref a_text, .ref a_roundMany, .ref a_blowMany, .ref a_blows, .ref a_forwards, .ref a_downs, .ref a_takens, .ref a_homes, .ref a_noises, .ref a_judgeMany, .ref a_judges, .ref a_delays, .ref a_tolds, .ref a_tens, .int i_keptMany, .int i_place, .ref a_told, .ref a_ways, .ref a_nextWays, .ref a_tallies, .ref a_presses, .ref a_values, .ref a_nextValues])), (a_blowMany, .inl (X.2.1 0, 2, .inl f_blowMany)), (a_blows, .inl (X.2.1 0, 400, .inl f_blows)), (a_downs, .inl (X.2.1 0, 48, .inl f_downs)), (a_forwards, .inl (X.2.1 0, 48, .inl f_forwards)), (a_homes, .inl (X.2.1 0, 2, .inl f_homes)), (a_judges, .inl (X.2.1 0, 112, .inl f_judges)), (a_nextWays, .inl (X.2.1 1, 601, .inr (.inl f_nextWays))), (a_noises, .inl (X.2.1 0, 2, .inl f_noises)), (a_roundMany, .inl (X.2.1 0, 2, .inl f_roundMany)), (a_takens, .inl (X.2.1 0, 48, .inl f_takens)), (a_tallies, .inl (X.2.1 1, 9, .inr (.inl f_tallies))), (a_ways, .inl (X.2.1 1, 601, .inr (.inl f_ways)))]) hx hb hml hts hown hG hA hP hD rfl hS hl.1 (qX11_margin0 l X a_this a_blowMany a_blows a_downs a_forwards a_homes a_judges a_noises a_text a_roundMany a_takens a_judgeMany a_delays a_tolds a_tens a_told a_ways a_nextWays a_tallies a_presses a_values a_nextValues i_length i_keptMany i_place f_blowMany f_blows f_downs f_forwards f_homes f_judges f_noises x0 x1 l4 (1 : Int32) o14 ho14) (cwV (y := yX11_margin0) 4 hts gX11_layWays_X11_margin0 rfl rfl rfl hdvX11_margin0 ⟨Nat.le_of_ble_eq_true rfl, Nat.le_of_ble_eq_true rfl⟩) [0, 1, 2, 3, 4, 5, 6, 8] [7, 9, 10, 11, 12] [5, 6, 7, 8, 9, 10, 11, 0, 12, 1, 2, 3, 4] rfl rfl rfl rfl rfl rfl rfl (ci := 11) rfl 0 rfl rfl rfl (Nat.le_of_ble_eq_true rfl) ⟨Nat.le_of_ble_eq_true rfl, Nat.le_of_ble_eq_true rfl⟩ dX11_layWays_81 (fun H locs hP _ hS => ?_)
        refine lv_istore (lv' := [(6, .int o14), (5, .int o12), (0, .ref a_this), (1, .int x0), (2, .int x1), (3, .int x2), (4, .int l4)]) hx hb dX11_layWays_84 hl (by decide) rfl (fun ls hl => ?_)
        refine lv_aload_n hx hb dX11_layWays_86 rfl (lv_at hl 2 rfl) ?_
        refine lv_iload_n hx hb dX11_layWays_87 rfl (lv_at hl 4 rfl) ?_
        refine lv_iload hx hb dX11_layWays_88 (lv_at hl 6 rfl) ?_
        obtain ⟨o16, ho16, hf⟩ := ob_s hf
        refine xV_i (As := [.int x1, .int l4]) (b := a_this) (rest := []) (ws2 := [(a_this, .inr (11, [.int i_length, .ref a_text, .ref a_roundMany, .ref a_blowMany, .ref a_blows, .ref a_forwards, .ref a_downs, .ref a_takens, .ref a_homes, .ref a_noises, .ref a_judgeMany, .ref a_judges, .ref a_delays, .ref a_tolds, .ref a_tens, .int i_keptMany, .int i_place, .ref a_told, .ref a_ways, .ref a_nextWays, .ref a_tallies, .ref a_presses, .ref a_values, .ref a_nextValues])), (a_blowMany, .inl (X.2.1 0, 2, .inl f_blowMany)), (a_blows, .inl (X.2.1 0, 400, .inl f_blows)), (a_downs, .inl (X.2.1 0, 48, .inl f_downs)), (a_forwards, .inl (X.2.1 0, 48, .inl f_forwards)), (a_homes, .inl (X.2.1 0, 2, .inl f_homes)), (a_judges, .inl (X.2.1 0, 112, .inl f_judges)), (a_nextWays, .inl (X.2.1 1, 601, .inr (.inl f_nextWays))), (a_noises, .inl (X.2.1 0, 2, .inl f_noises)), (a_roundMany, .inl (X.2.1 0, 2, .inl f_roundMany)), (a_takens, .inl (X.2.1 0, 48, .inl f_takens)), (a_tallies, .inl (X.2.1 1, 9, .inr (.inl f_tallies))), (a_ways, .inl (X.2.1 1, 601, .inr (.inl f_ways)))]) hx hb hml hts hown hG hA hP hD rfl hS hl.1 (qX11_isClose l X a_this a_blowMany a_blows a_forwards a_homes a_judges a_noises a_text a_roundMany a_downs a_takens a_judgeMany a_delays a_tolds a_tens a_told a_ways a_nextWays a_tallies a_presses a_values a_nextValues i_length i_keptMany i_place f_blowMany f_blows f_forwards f_homes f_judges f_noises x1 l4 o16 ho16) (cwV (y := yX11_isClose) 2 hts gX11_layWays_X11_isClose rfl rfl rfl hdvX11_isClose ⟨Nat.le_of_ble_eq_true rfl, Nat.le_of_ble_eq_true rfl⟩) [0, 1, 2, 4, 5, 6, 8] [3, 7, 9, 10, 11, 12] [6, 7, 8, 0, 9, 10, 11, 1, 12, 2, 3, 4, 5] rfl rfl rfl rfl rfl rfl rfl (ci := 11) rfl 0 rfl rfl rfl (Nat.le_of_ble_eq_true rfl) ⟨Nat.le_of_ble_eq_true rfl, Nat.le_of_ble_eq_true rfl⟩ dX11_layWays_90 (fun H locs hP _ hS => ?_)
        refine lv_istore (lv' := [(7, .int o16), (6, .int o14), (5, .int o12), (0, .ref a_this), (1, .int x0), (2, .int x1), (3, .int x2), (4, .int l4)]) hx hb dX11_layWays_93 hl (by decide) rfl (fun ls hl => ?_)
        refine lv_iconst (v := (0 : Int32)) hx hb dX11_layWays_95 (by decide) ?_
        refine lv_istore (lv' := [(8, .int (0 : Int32)), (7, .int o16), (6, .int o14), (5, .int o12), (0, .ref a_this), (1, .int x0), (2, .int x1), (3, .int x2), (4, .int l4)]) hx hb dX11_layWays_96 hl (by decide) rfl (fun ls hl => ?_)
        exact hL98 k53 ih FUEL l4 o12 o14 o16 (0 : Int32) f_ways f_nextWays f_tallies  H _ ls hP  hS (lv_sub hl [4, 5, 6, 7, 8, 3, 2, 1, 0] rfl) hf
  have hL3 : ∀ (n : Nat) (l4 : Int32) (f_ways : Nat → Int64) (f_nextWays : Nat → Int64) (f_tallies : Nat → Int64)  (H : Heap) (locs : List Loc) (ls : Array Slot), va_P X.1 vwCl [(a_this, .inr (11, [.int i_length, .ref a_text, .ref a_roundMany, .ref a_blowMany, .ref a_blows, .ref a_forwards, .ref a_downs, .ref a_takens, .ref a_homes, .ref a_noises, .ref a_judgeMany, .ref a_judges, .ref a_delays, .ref a_tolds, .ref a_tens, .int i_keptMany, .int i_place, .ref a_told, .ref a_ways, .ref a_nextWays, .ref a_tallies, .ref a_presses, .ref a_values, .ref a_nextValues])), (a_blowMany, .inl (X.2.1 0, 2, .inl f_blowMany)), (a_blows, .inl (X.2.1 0, 400, .inl f_blows)), (a_downs, .inl (X.2.1 0, 48, .inl f_downs)), (a_forwards, .inl (X.2.1 0, 48, .inl f_forwards)), (a_homes, .inl (X.2.1 0, 2, .inl f_homes)), (a_judges, .inl (X.2.1 0, 112, .inl f_judges)), (a_nextWays, .inl (X.2.1 1, 601, .inr (.inl f_nextWays))), (a_noises, .inl (X.2.1 0, 2, .inl f_noises)), (a_roundMany, .inl (X.2.1 0, 2, .inl f_roundMany)), (a_takens, .inl (X.2.1 0, 48, .inl f_takens)), (a_tallies, .inl (X.2.1 1, 9, .inr (.inl f_tallies))), (a_ways, .inl (X.2.1 1, 601, .inr (.inl f_ways)))] H → va_S A s.heap H locs → lv_has ls 9 [(0, .ref a_this), (1, .int x0), (2, .int x1), (3, .int x2), (4, .int l4)] → mX11_layWays_L3 x0 x1 x2 f_blowMany f_blows f_downs f_forwards f_homes f_judges f_noises f_roundMany f_takens  n l4 f_ways f_nextWays f_tallies = some o → W p l e rmX11_layWays s m ([.ref a_this, .int x0, .int x1, .int x2] : List Value).toArray below meth c H locs 0 0 Q (F0 m 3 ls []) := by
    intro n
    induction n with
    | zero => intro l4 f_ways f_nextWays f_tallies  H locs ls hP hS hl hf; exact xn hf
    | succ n ih =>
      intro l4 f_ways f_nextWays f_tallies  H locs ls hP hS hl hf
      have hf : mX11_layWays_B3 x0 x1 x2 f_blowMany f_blows f_downs f_forwards f_homes f_judges f_noises f_roundMany f_takens  (mX11_layWays_L3 x0 x1 x2 f_blowMany f_blows f_downs f_forwards f_homes f_judges f_noises f_roundMany f_takens  n) l4 f_ways f_nextWays f_tallies = some o := hf
      generalize mX11_layWays_L3 x0 x1 x2 f_blowMany f_blows f_downs f_forwards f_homes f_judges f_noises f_roundMany f_takens  n = k3 at ih hf
      unfold mX11_layWays_B3 at hf
      refine lv_iload hx hb dX11_layWays_3 (lv_at hl 4 rfl) ?_
      refine lv_sipush (v := (600 : Int32)) hx hb dX11_layWays_5 (by decide) ?_
      refine lv_icmp_gt (tgt := 25) hx hb dX11_layWays_8 (by decide) (fun c1 => ?_) (fun c1 => ?_)
      · have hf := xt hf c1
        refine lv_aload_n hx hb dX11_layWays_25 rfl (lv_at hl 0 rfl) ?_
        refine va_get (D := X.1) (ci := 11) (v := .ref a_ways) (C := RX11) (T := TX11) (N := 24) hx hb hts in11 hown hG.1 hP 0 rfl rfl 18 (by decide) w1 (fun _ h9 => h9) rfl dX11_layWays_26 ?_
        refine lv_sipush (v := (300 : Int32)) hx hb dX11_layWays_29 (by decide) ?_
        refine lv_iconst (v := (2 : Int32)) hx hb dX11_layWays_32 (by decide) ?_
        refine lv_aload_n hx hb dX11_layWays_33 rfl (lv_at hl 0 rfl) ?_
        refine lv_iconst (v := (1 : Int32)) hx hb dX11_layWays_34 (by decide) ?_
        obtain ⟨o2, ho2, hf⟩ := ob_s hf
        refine xV_i (As := [.int (1 : Int32)]) (b := a_this) (rest := [.int (2 : Int32), .int (300 : Int32), .ref a_ways]) (ws2 := [(a_this, .inr (11, [.int i_length, .ref a_text, .ref a_roundMany, .ref a_blowMany, .ref a_blows, .ref a_forwards, .ref a_downs, .ref a_takens, .ref a_homes, .ref a_noises, .ref a_judgeMany, .ref a_judges, .ref a_delays, .ref a_tolds, .ref a_tens, .int i_keptMany, .int i_place, .ref a_told, .ref a_ways, .ref a_nextWays, .ref a_tallies, .ref a_presses, .ref a_values, .ref a_nextValues])), (a_blowMany, .inl (X.2.1 0, 2, .inl f_blowMany)), (a_blows, .inl (X.2.1 0, 400, .inl f_blows)), (a_downs, .inl (X.2.1 0, 48, .inl f_downs)), (a_forwards, .inl (X.2.1 0, 48, .inl f_forwards)), (a_homes, .inl (X.2.1 0, 2, .inl f_homes)), (a_judges, .inl (X.2.1 0, 112, .inl f_judges)), (a_nextWays, .inl (X.2.1 1, 601, .inr (.inl f_nextWays))), (a_noises, .inl (X.2.1 0, 2, .inl f_noises)), (a_roundMany, .inl (X.2.1 0, 2, .inl f_roundMany)), (a_takens, .inl (X.2.1 0, 48, .inl f_takens)), (a_tallies, .inl (X.2.1 1, 9, .inr (.inl f_tallies))), (a_ways, .inl (X.2.1 1, 601, .inr (.inl f_ways)))]) hx hb hml hts hown hG hA hP hD rfl hS hl.1 (qX11_takenOf l X a_this a_roundMany a_takens a_text a_blowMany a_blows a_forwards a_downs a_homes a_noises a_judgeMany a_judges a_delays a_tolds a_tens a_told a_ways a_nextWays a_tallies a_presses a_values a_nextValues i_length i_keptMany i_place f_roundMany f_takens (1 : Int32) o2 ho2) (cwV (y := yX11_takenOf) 1 hts gX11_layWays_X11_takenOf rfl rfl rfl hdvX11_takenOf ⟨Nat.le_of_ble_eq_true rfl, Nat.le_of_ble_eq_true rfl⟩) [0, 9, 10] [1, 2, 3, 4, 5, 6, 7, 8, 11, 12] [10, 0, 1, 2, 3, 4, 5, 6, 7, 11, 12, 8, 9] rfl rfl rfl rfl rfl rfl rfl (ci := 11) rfl 0 rfl rfl rfl (Nat.le_of_ble_eq_true rfl) ⟨Nat.le_of_ble_eq_true rfl, Nat.le_of_ble_eq_true rfl⟩ dX11_layWays_35 (fun H locs hP _ hS => ?_)
        refine lv_imul hx hb dX11_layWays_38 ?_
        refine lv_iadd hx hb dX11_layWays_39 ?_
        refine lv_iconst (v := (2 : Int32)) hx hb dX11_layWays_40 (by decide) ?_
        refine lv_aload_n hx hb dX11_layWays_41 rfl (lv_at hl 0 rfl) ?_
        refine lv_iconst (v := (0 : Int32)) hx hb dX11_layWays_42 (by decide) ?_
        obtain ⟨o4, ho4, hf⟩ := ob_s hf
        refine xV_i (As := [.int (0 : Int32)]) (b := a_this) (rest := [.int (2 : Int32), .int ((300 : Int32) + ((2 : Int32) * o2)), .ref a_ways]) (ws2 := [(a_this, .inr (11, [.int i_length, .ref a_text, .ref a_roundMany, .ref a_blowMany, .ref a_blows, .ref a_forwards, .ref a_downs, .ref a_takens, .ref a_homes, .ref a_noises, .ref a_judgeMany, .ref a_judges, .ref a_delays, .ref a_tolds, .ref a_tens, .int i_keptMany, .int i_place, .ref a_told, .ref a_ways, .ref a_nextWays, .ref a_tallies, .ref a_presses, .ref a_values, .ref a_nextValues])), (a_blowMany, .inl (X.2.1 0, 2, .inl f_blowMany)), (a_blows, .inl (X.2.1 0, 400, .inl f_blows)), (a_downs, .inl (X.2.1 0, 48, .inl f_downs)), (a_forwards, .inl (X.2.1 0, 48, .inl f_forwards)), (a_homes, .inl (X.2.1 0, 2, .inl f_homes)), (a_judges, .inl (X.2.1 0, 112, .inl f_judges)), (a_nextWays, .inl (X.2.1 1, 601, .inr (.inl f_nextWays))), (a_noises, .inl (X.2.1 0, 2, .inl f_noises)), (a_roundMany, .inl (X.2.1 0, 2, .inl f_roundMany)), (a_takens, .inl (X.2.1 0, 48, .inl f_takens)), (a_tallies, .inl (X.2.1 1, 9, .inr (.inl f_tallies))), (a_ways, .inl (X.2.1 1, 601, .inr (.inl f_ways)))]) hx hb hml hts hown hG hA hP hD rfl hS hl.1 (qX11_takenOf l X a_this a_roundMany a_takens a_text a_blowMany a_blows a_forwards a_downs a_homes a_noises a_judgeMany a_judges a_delays a_tolds a_tens a_told a_ways a_nextWays a_tallies a_presses a_values a_nextValues i_length i_keptMany i_place f_roundMany f_takens (0 : Int32) o4 ho4) (cwV (y := yX11_takenOf) 1 hts gX11_layWays_X11_takenOf rfl rfl rfl hdvX11_takenOf ⟨Nat.le_of_ble_eq_true rfl, Nat.le_of_ble_eq_true rfl⟩) [0, 9, 10] [1, 2, 3, 4, 5, 6, 7, 8, 11, 12] [10, 0, 1, 2, 3, 4, 5, 6, 7, 11, 12, 8, 9] rfl rfl rfl rfl rfl rfl rfl (ci := 11) rfl 0 rfl rfl rfl (Nat.le_of_ble_eq_true rfl) ⟨Nat.le_of_ble_eq_true rfl, Nat.le_of_ble_eq_true rfl⟩ dX11_layWays_43 (fun H locs hP _ hS => ?_)
        refine lv_imul hx hb dX11_layWays_46 ?_
        refine lv_isub hx hb dX11_layWays_47 ?_
        refine lv_lconst (v := (1 : Int64)) hx hb dX11_layWays_48 rfl ?_
        obtain ⟨h6, hf⟩ := gi_s hf
        obtain ⟨g7, eg7, hf⟩ := lb_g hf
        refine x_last (ws' := [(a_this, .inr (11, [.int i_length, .ref a_text, .ref a_roundMany, .ref a_blowMany, .ref a_blows, .ref a_forwards, .ref a_downs, .ref a_takens, .ref a_homes, .ref a_noises, .ref a_judgeMany, .ref a_judges, .ref a_delays, .ref a_tolds, .ref a_tens, .int i_keptMany, .int i_place, .ref a_told, .ref a_ways, .ref a_nextWays, .ref a_tallies, .ref a_presses, .ref a_values, .ref a_nextValues])), (a_blowMany, .inl (X.2.1 0, 2, .inl f_blowMany)), (a_blows, .inl (X.2.1 0, 400, .inl f_blows)), (a_downs, .inl (X.2.1 0, 48, .inl f_downs)), (a_forwards, .inl (X.2.1 0, 48, .inl f_forwards)), (a_homes, .inl (X.2.1 0, 2, .inl f_homes)), (a_judges, .inl (X.2.1 0, 112, .inl f_judges)), (a_nextWays, .inl (X.2.1 1, 601, .inr (.inl f_nextWays))), (a_noises, .inl (X.2.1 0, 2, .inl f_noises)), (a_roundMany, .inl (X.2.1 0, 2, .inl f_roundMany)), (a_takens, .inl (X.2.1 0, 48, .inl f_takens)), (a_tallies, .inl (X.2.1 1, 9, .inr (.inl f_tallies))), (a_ways, .inl (X.2.1 1, 601, .inr (.inl g7)))]) hx hb hG hP hD rfl hS 12 rfl h6 dX11_layWays_49 eg7 rfl (fun H locs hP hS => ?_)
        refine lv_iconst (v := (0 : Int32)) hx hb dX11_layWays_50 (by decide) ?_
        refine lv_istore (lv' := [(4, .int (0 : Int32)), (0, .ref a_this), (1, .int x0), (2, .int x1), (3, .int x2)]) hx hb dX11_layWays_51 hl (by decide) rfl (fun ls hl => ?_)
        exact hL53  FUEL (0 : Int32) g7 f_nextWays f_tallies  H _ ls hP  hS (lv_sub hl [1, 2, 3, 4, 0] rfl) hf
      · have hf := xf hf c1
        refine lv_aload_n hx hb dX11_layWays_11 rfl (lv_at hl 0 rfl) ?_
        refine va_get (D := X.1) (ci := 11) (v := .ref a_ways) (C := RX11) (T := TX11) (N := 24) hx hb hts in11 hown hG.1 hP 0 rfl rfl 18 (by decide) w1 (fun _ h9 => h9) rfl dX11_layWays_12 ?_
        refine lv_iload hx hb dX11_layWays_15 (lv_at hl 4 rfl) ?_
        refine lv_lconst (v := (0 : Int64)) hx hb dX11_layWays_17 rfl ?_
        obtain ⟨h8, hf⟩ := gi_s hf
        obtain ⟨g9, eg9, hf⟩ := lb_g hf
        refine x_last (ws' := [(a_this, .inr (11, [.int i_length, .ref a_text, .ref a_roundMany, .ref a_blowMany, .ref a_blows, .ref a_forwards, .ref a_downs, .ref a_takens, .ref a_homes, .ref a_noises, .ref a_judgeMany, .ref a_judges, .ref a_delays, .ref a_tolds, .ref a_tens, .int i_keptMany, .int i_place, .ref a_told, .ref a_ways, .ref a_nextWays, .ref a_tallies, .ref a_presses, .ref a_values, .ref a_nextValues])), (a_blowMany, .inl (X.2.1 0, 2, .inl f_blowMany)), (a_blows, .inl (X.2.1 0, 400, .inl f_blows)), (a_downs, .inl (X.2.1 0, 48, .inl f_downs)), (a_forwards, .inl (X.2.1 0, 48, .inl f_forwards)), (a_homes, .inl (X.2.1 0, 2, .inl f_homes)), (a_judges, .inl (X.2.1 0, 112, .inl f_judges)), (a_nextWays, .inl (X.2.1 1, 601, .inr (.inl f_nextWays))), (a_noises, .inl (X.2.1 0, 2, .inl f_noises)), (a_roundMany, .inl (X.2.1 0, 2, .inl f_roundMany)), (a_takens, .inl (X.2.1 0, 48, .inl f_takens)), (a_tallies, .inl (X.2.1 1, 9, .inr (.inl f_tallies))), (a_ways, .inl (X.2.1 1, 601, .inr (.inl g9)))]) hx hb hG hP hD rfl hS 12 rfl h8 dX11_layWays_18 eg9 rfl (fun H locs hP hS => ?_)
        obtain ⟨v10, ev10, hf⟩ := lb_g hf
        refine lv_iinc (v := v10) (lv' := [(4, .int v10), (0, .ref a_this), (1, .int x0), (2, .int x1), (3, .int x2)]) hx hb dX11_layWays_19 hl (k := 4) rfl ev10.symm (by decide) rfl (fun ls hl => ?_)
        refine lv_goto (tgt := 3) hx hb dX11_layWays_22 (by decide) ?_
        exact ih v10 g9 f_nextWays f_tallies  H _ ls hP  hS (lv_sub hl [1, 2, 3, 4, 0] rfl) hf
  unfold mX11_layWays at hf
  refine lv_iconst (v := (0 : Int32)) hx hb dX11_layWays_0 (by decide) ?_
  refine lv_istore (lv' := [(4, .int (0 : Int32)), (0, .ref a_this), (1, .int x0), (2, .int x1), (3, .int x2)]) hx hb dX11_layWays_1 hl (by decide) rfl (fun ls hl => ?_)
  exact hL3  FUEL (0 : Int32) f_ways f_nextWays f_tallies  H _ ls hP  hS (lv_sub hl [1, 2, 3, 4, 0] rfl) hf
def mX11_cardAs (x0 : Int32) :
  Option (Int32) :=
  if x0 = 0 then (some (1 : Int32)) else (if x0 = (1 : Int32) then (some (-1 : Int32)) else (some (0 : Int32)))
theorem hdsX11_cardAs : yX11_cardAs.cls ≠ "java/lang/invoke/MethodHandle" ∧ yX11_cardAs.cls ≠ "java/lang/invoke/VarHandle" ∧ (parseMethodDescriptor yX11_cardAs.desc).map (fun d => d.parameters.length) = some 1 := by decide +kernel
abbrev rmX11_cardAs : Room := { frames := 0, cells := 0, slots := 0, locals := 0 }
set_option maxHeartbeats 4000000 in
set_option maxRecDepth 100000 in
theorem qX11_cardAs (l : Launch) (X : XT)    (x0 : Int32) (o : Int32) (hf : mX11_cardAs x0 = some o) :
    MI l yX11_cardAs wsX11_cardAs rmX11_cardAs X [.int x0] []  [] o := by
  refine MI_ofH (cc := cX11_cardAs) (maxL := 1) (rt := .int) (by decide) rfl (Nat.le_of_ble_eq_true rfl) ?_
  intro p e s m below meth c A Q H ls hx hb hml hts hown hA hD hG hP hS hl ret
  have hown : s.vm.findClass RX11 = some m.cls := hown
  have hD : aD A [] := hD
  have hl : lv_has ls 1 [(0, .int x0)] := hl
  unfold mX11_cardAs at hf
  refine lv_iload_n hx hb dX11_cardAs_0 rfl (lv_at hl 0 rfl) ?_
  refine lv_if_ne (tgt := 8) hx hb dX11_cardAs_1 (by decide) (fun c1 => ?_) (fun c1 => ?_)
  · have hf := xf hf c1
    refine lv_iload_n hx hb dX11_cardAs_8 rfl (lv_at hl 0 rfl) ?_
    refine lv_iconst (v := (1 : Int32)) hx hb dX11_cardAs_9 (by decide) ?_
    refine lv_icmp_ne (tgt := 17) hx hb dX11_cardAs_10 (by decide) (fun c2 => ?_) (fun c2 => ?_)
    · have hf := xf hf c2
      refine lv_iconst (v := (0 : Int32)) hx hb dX11_cardAs_17 (by decide) ?_
      obtain rfl := Option.some.inj hf
      exact ret H _ ls _ rfl hP hD hS dX11_cardAs_18
    · have hf := xt hf c2
      refine lv_iconst (v := (-1 : Int32)) hx hb dX11_cardAs_13 (by decide) ?_
      refine lv_goto (tgt := 18) hx hb dX11_cardAs_14 (by decide) ?_
      obtain rfl := Option.some.inj hf
      exact ret H _ ls _ rfl hP hD hS dX11_cardAs_18
  · have hf := xt hf c1
    refine lv_iconst (v := (1 : Int32)) hx hb dX11_cardAs_4 (by decide) ?_
    refine lv_goto (tgt := 18) hx hb dX11_cardAs_5 (by decide) ?_
    obtain rfl := Option.some.inj hf
    exact ret H _ ls _ rfl hP hD hS dX11_cardAs_18
def mX11_common_B6 (x0 : Int64) (x1 : Int64) (k6 : Int64 → Int64 → Option (Int64)) (l4 : Int64) (l6 : Int64) :
  Option (Int64) :=
  if (lg_cmp l6 (0 : Int64)) = 0 then (some l4) else (gd (¬ l6 = 0) <|
  lb (l4 - l4 / l6 * l6) fun v3 =>
  k6 l6 v3)
def mX11_common_L6 (x0 : Int64) (x1 : Int64) (n : Nat) (l4 : Int64) (l6 : Int64) :
  Option (Int64) :=
  loopN (fun k (s : Int64 × Int64) => mX11_common_B6 x0 x1  (fun l4 l6 => k (l4, l6)) s.1 s.2) n (l4, l6)
def mX11_common (x0 : Int64) (x1 : Int64) :
  Option (Int64) :=
  mX11_common_L6 x0 x1  FUEL x0 x1
theorem hdsX11_common : yX11_common.cls ≠ "java/lang/invoke/MethodHandle" ∧ yX11_common.cls ≠ "java/lang/invoke/VarHandle" ∧ (parseMethodDescriptor yX11_common.desc).map (fun d => d.parameters.length) = some 2 := by decide +kernel
abbrev rmX11_common : Room := { frames := 0, cells := 0, slots := 0, locals := 0 }
set_option maxHeartbeats 4000000 in
set_option maxRecDepth 100000 in
theorem qX11_common (l : Launch) (X : XT)    (x0 : Int64) (x1 : Int64) (o : Int64) (hf : mX11_common x0 x1 = some o) :
    ML l yX11_common wsX11_common rmX11_common X [.long x0, .long x1] []  [] o := by
  refine ML_ofH (cc := cX11_common) (maxL := 10) (by decide) rfl (Nat.le_of_ble_eq_true rfl) ?_
  intro p e s m below meth c A Q H ls hx hb hml hts hown hA hD hG hP hS hl ret
  have hown : s.vm.findClass RX11 = some m.cls := hown
  have hD : aD A [] := hD
  have hl : lv_has ls 10 [(0, .long x0), (2, .long x1)] := hl
  have hL6 : ∀ (n : Nat) (l4 : Int64) (l6 : Int64)  (H : Heap) (locs : List Loc) (ls : Array Slot), va_P X.1 vwCl [] H → va_S A s.heap H locs → lv_has ls 10 [(4, .long l4), (6, .long l6)] → mX11_common_L6 x0 x1  n l4 l6 = some o → W p l e rmX11_common s m ([.long x0, .long x1] : List Value).toArray below meth c H locs 0 0 Q (F0 m 6 ls []) := by
    intro n
    induction n with
    | zero => intro l4 l6  H locs ls hP hS hl hf; exact xn hf
    | succ n ih =>
      intro l4 l6  H locs ls hP hS hl hf
      have hf : mX11_common_B6 x0 x1  (mX11_common_L6 x0 x1  n) l4 l6 = some o := hf
      generalize mX11_common_L6 x0 x1  n = k6 at ih hf
      unfold mX11_common_B6 at hf
      refine lv_lload hx hb dX11_common_6 (lv_at hl 1 rfl) ?_
      refine lv_lconst (v := (0 : Int64)) hx hb dX11_common_8 rfl ?_
      refine W.lcmp hx hb dX11_common_9 ?_
      refine lv_if_eq (tgt := 31) hx hb dX11_common_10 (by decide) (fun c1 => ?_) (fun c1 => ?_)
      · have hf := xt hf c1
        refine lv_lload hx hb dX11_common_31 (lv_at hl 0 rfl) ?_
        obtain rfl := Option.some.inj hf
        exact ret H _ ls _ hP hD hS dX11_common_33
      · have hf := xf hf c1
        refine lv_lload hx hb dX11_common_13 (lv_at hl 0 rfl) ?_
        refine lv_lload hx hb dX11_common_15 (lv_at hl 1 rfl) ?_
        obtain ⟨h2, hf⟩ := gd_s hf
        refine lv_lrem hx hb dX11_common_17 h2 ?_
        refine lv_topl (fun v3 ev3 => ?_)
        have hf := lb_s hf ev3
        refine lv_lstore (lv' := [(8, .long v3), (4, .long l4), (6, .long l6)]) hx hb dX11_common_18 hl (by decide) rfl (fun ls hl => ?_)
        refine lv_lload hx hb dX11_common_20 (lv_at hl 2 rfl) ?_
        refine lv_lstore (lv' := [(4, .long l6), (8, .long v3), (6, .long l6)]) hx hb dX11_common_22 hl (by decide) rfl (fun ls hl => ?_)
        refine lv_lload hx hb dX11_common_24 (lv_at hl 1 rfl) ?_
        refine lv_lstore (lv' := [(6, .long v3), (4, .long l6), (8, .long v3)]) hx hb dX11_common_26 hl (by decide) rfl (fun ls hl => ?_)
        refine lv_goto (tgt := 6) hx hb dX11_common_28 (by decide) ?_
        exact ih l6 v3  H _ ls hP  hS (lv_sub hl [1, 0] rfl) hf
  unfold mX11_common at hf
  refine lv_lload_n hx hb dX11_common_0 rfl (lv_at hl 0 rfl) ?_
  refine lv_lstore (lv' := [(4, .long x0), (0, .long x0), (2, .long x1)]) hx hb dX11_common_1 hl (by decide) rfl (fun ls hl => ?_)
  refine lv_lload_n hx hb dX11_common_3 rfl (lv_at hl 2 rfl) ?_
  refine lv_lstore (lv' := [(6, .long x1), (4, .long x0), (0, .long x0), (2, .long x1)]) hx hb dX11_common_4 hl (by decide) rfl (fun ls hl => ?_)
  exact hL6  FUEL x0 x1  H _ ls hP  hS (lv_sub hl [1, 0] rfl) hf
def mX11_coins_B169 (x0 : Int32) (x1 : Int32) (x2 : Int32) (x3 : Int32) (x4 : Int32) (x5 : Int32) (f_blowMany : Nat → Int32) (f_blows : Nat → Int32) (f_downs : Nat → Int32) (f_forwards : Nat → Int32) (f_homes : Nat → Int32) (f_judgeMany : Nat → Int32) (f_judges : Nat → Int32) (f_noises : Nat → Int32) (f_roundMany : Nat → Int32) (f_takens : Nat → Int32) (k117 : Int32 → Int64 → Int32 → (Nat → Int64) → (Nat → Int64) → (Nat → Int64) → Option (Int64 × (Nat → Int64) × (Nat → Int64) × (Nat → Int64))) (k126 : Int32 → Int64 → Int32 → Int32 → (Nat → Int64) → (Nat → Int64) → (Nat → Int64) → Option (Int64 × (Nat → Int64) × (Nat → Int64) × (Nat → Int64))) (k135 : Int32 → Int64 → Int32 → Int32 → Int32 → (Nat → Int64) → (Nat → Int64) → (Nat → Int64) → Option (Int64 × (Nat → Int64) × (Nat → Int64) × (Nat → Int64))) (l7 : Int32) (l8 : Int64) (l10 : Int32) (l11 : Int32) (l12 : Int32) (s0 : Int32) (f_ways : Nat → Int64) (f_nextWays : Nat → Int64) (f_tallies : Nat → Int64) :
  Option (Int64 × (Nat → Int64) × (Nat → Int64) × (Nat → Int64)) :=
  if s0 = 0 then (lb (l8 + (0 : Int64)) fun v52 =>
  lb (l12 + (1 : Int32)) fun v53 =>
  k135 l7 v52 l10 l11 v53 f_ways f_nextWays f_tallies) else (gi l10 9 <|
  gi ((3 : Int32) + l11) 9 <|
  gi ((6 : Int32) + l12) 9 <|
  lb (l8 + (((f_tallies l10.toNatClampNeg) * (f_tallies ((3 : Int32) + l11).toNatClampNeg)) * (f_tallies ((6 : Int32) + l12).toNatClampNeg))) fun v57 =>
  lb (l12 + (1 : Int32)) fun v58 =>
  k135 l7 v57 l10 l11 v58 f_ways f_nextWays f_tallies)
def mX11_coins_B135 (x0 : Int32) (x1 : Int32) (x2 : Int32) (x3 : Int32) (x4 : Int32) (x5 : Int32) (f_blowMany : Nat → Int32) (f_blows : Nat → Int32) (f_downs : Nat → Int32) (f_forwards : Nat → Int32) (f_homes : Nat → Int32) (f_judgeMany : Nat → Int32) (f_judges : Nat → Int32) (f_noises : Nat → Int32) (f_roundMany : Nat → Int32) (f_takens : Nat → Int32) (k117 : Int32 → Int64 → Int32 → (Nat → Int64) → (Nat → Int64) → (Nat → Int64) → Option (Int64 × (Nat → Int64) × (Nat → Int64) × (Nat → Int64))) (k126 : Int32 → Int64 → Int32 → Int32 → (Nat → Int64) → (Nat → Int64) → (Nat → Int64) → Option (Int64 × (Nat → Int64) × (Nat → Int64) × (Nat → Int64))) (k135 : Int32 → Int64 → Int32 → Int32 → Int32 → (Nat → Int64) → (Nat → Int64) → (Nat → Int64) → Option (Int64 × (Nat → Int64) × (Nat → Int64) × (Nat → Int64))) (l7 : Int32) (l8 : Int64) (l10 : Int32) (l11 : Int32) (l12 : Int32) (f_ways : Nat → Int64) (f_nextWays : Nat → Int64) (f_tallies : Nat → Int64) :
  Option (Int64 × (Nat → Int64) × (Nat → Int64) × (Nat → Int64)) :=
  if (3 : Int32) ≤ l12 then (lb (l11 + (1 : Int32)) fun v41 =>
  k126 l7 l8 l10 v41 f_ways f_nextWays f_tallies) else ((mX11_cardAs l10).bind fun o42 =>
  (mX11_cardAs l11).bind fun o44 =>
  (mX11_cardAs l12).bind fun o46 =>
  (mX11_whoBy o42 o44 o46).bind fun o48 =>
  if o48 = x4 then (mX11_coins_B169 x0 x1 x2 x3 x4 x5 f_blowMany f_blows f_downs f_forwards f_homes f_judgeMany f_judges f_noises f_roundMany f_takens k117 k126 k135 l7 l8 l10 l11 l12 (1 : Int32) f_ways f_nextWays f_tallies) else (mX11_coins_B169 x0 x1 x2 x3 x4 x5 f_blowMany f_blows f_downs f_forwards f_homes f_judgeMany f_judges f_noises f_roundMany f_takens k117 k126 k135 l7 l8 l10 l11 l12 (0 : Int32) f_ways f_nextWays f_tallies))
def mX11_coins_L135 (x0 : Int32) (x1 : Int32) (x2 : Int32) (x3 : Int32) (x4 : Int32) (x5 : Int32) (f_blowMany : Nat → Int32) (f_blows : Nat → Int32) (f_downs : Nat → Int32) (f_forwards : Nat → Int32) (f_homes : Nat → Int32) (f_judgeMany : Nat → Int32) (f_judges : Nat → Int32) (f_noises : Nat → Int32) (f_roundMany : Nat → Int32) (f_takens : Nat → Int32) (k117 : Int32 → Int64 → Int32 → (Nat → Int64) → (Nat → Int64) → (Nat → Int64) → Option (Int64 × (Nat → Int64) × (Nat → Int64) × (Nat → Int64))) (k126 : Int32 → Int64 → Int32 → Int32 → (Nat → Int64) → (Nat → Int64) → (Nat → Int64) → Option (Int64 × (Nat → Int64) × (Nat → Int64) × (Nat → Int64))) (n : Nat) (l7 : Int32) (l8 : Int64) (l10 : Int32) (l11 : Int32) (l12 : Int32) (f_ways : Nat → Int64) (f_nextWays : Nat → Int64) (f_tallies : Nat → Int64) :
  Option (Int64 × (Nat → Int64) × (Nat → Int64) × (Nat → Int64)) :=
  loopN (fun k (s : Int32 × Int64 × Int32 × Int32 × Int32 × (Nat → Int64) × (Nat → Int64) × (Nat → Int64)) => mX11_coins_B135 x0 x1 x2 x3 x4 x5 f_blowMany f_blows f_downs f_forwards f_homes f_judgeMany f_judges f_noises f_roundMany f_takens k117 k126 (fun l7 l8 l10 l11 l12 f_ways f_nextWays f_tallies => k (l7, l8, l10, l11, l12, f_ways, f_nextWays, f_tallies)) s.1 s.2.1 s.2.2.1 s.2.2.2.1 s.2.2.2.2.1 s.2.2.2.2.2.1 s.2.2.2.2.2.2.1 s.2.2.2.2.2.2.2) n (l7, l8, l10, l11, l12, f_ways, f_nextWays, f_tallies)
def mX11_coins_B126 (x0 : Int32) (x1 : Int32) (x2 : Int32) (x3 : Int32) (x4 : Int32) (x5 : Int32) (f_blowMany : Nat → Int32) (f_blows : Nat → Int32) (f_downs : Nat → Int32) (f_forwards : Nat → Int32) (f_homes : Nat → Int32) (f_judgeMany : Nat → Int32) (f_judges : Nat → Int32) (f_noises : Nat → Int32) (f_roundMany : Nat → Int32) (f_takens : Nat → Int32) (k117 : Int32 → Int64 → Int32 → (Nat → Int64) → (Nat → Int64) → (Nat → Int64) → Option (Int64 × (Nat → Int64) × (Nat → Int64) × (Nat → Int64))) (k126 : Int32 → Int64 → Int32 → Int32 → (Nat → Int64) → (Nat → Int64) → (Nat → Int64) → Option (Int64 × (Nat → Int64) × (Nat → Int64) × (Nat → Int64))) (l7 : Int32) (l8 : Int64) (l10 : Int32) (l11 : Int32) (f_ways : Nat → Int64) (f_nextWays : Nat → Int64) (f_tallies : Nat → Int64) :
  Option (Int64 × (Nat → Int64) × (Nat → Int64) × (Nat → Int64)) :=
  if (3 : Int32) ≤ l11 then (lb (l10 + (1 : Int32)) fun v39 =>
  k117 l7 l8 v39 f_ways f_nextWays f_tallies) else (mX11_coins_L135 x0 x1 x2 x3 x4 x5 f_blowMany f_blows f_downs f_forwards f_homes f_judgeMany f_judges f_noises f_roundMany f_takens k117 k126 FUEL l7 l8 l10 l11 (0 : Int32) f_ways f_nextWays f_tallies)
def mX11_coins_L126 (x0 : Int32) (x1 : Int32) (x2 : Int32) (x3 : Int32) (x4 : Int32) (x5 : Int32) (f_blowMany : Nat → Int32) (f_blows : Nat → Int32) (f_downs : Nat → Int32) (f_forwards : Nat → Int32) (f_homes : Nat → Int32) (f_judgeMany : Nat → Int32) (f_judges : Nat → Int32) (f_noises : Nat → Int32) (f_roundMany : Nat → Int32) (f_takens : Nat → Int32) (k117 : Int32 → Int64 → Int32 → (Nat → Int64) → (Nat → Int64) → (Nat → Int64) → Option (Int64 × (Nat → Int64) × (Nat → Int64) × (Nat → Int64))) (n : Nat) (l7 : Int32) (l8 : Int64) (l10 : Int32) (l11 : Int32) (f_ways : Nat → Int64) (f_nextWays : Nat → Int64) (f_tallies : Nat → Int64) :
  Option (Int64 × (Nat → Int64) × (Nat → Int64) × (Nat → Int64)) :=
  loopN (fun k (s : Int32 × Int64 × Int32 × Int32 × (Nat → Int64) × (Nat → Int64) × (Nat → Int64)) => mX11_coins_B126 x0 x1 x2 x3 x4 x5 f_blowMany f_blows f_downs f_forwards f_homes f_judgeMany f_judges f_noises f_roundMany f_takens k117 (fun l7 l8 l10 l11 f_ways f_nextWays f_tallies => k (l7, l8, l10, l11, f_ways, f_nextWays, f_tallies)) s.1 s.2.1 s.2.2.1 s.2.2.2.1 s.2.2.2.2.1 s.2.2.2.2.2.1 s.2.2.2.2.2.2) n (l7, l8, l10, l11, f_ways, f_nextWays, f_tallies)
def mX11_coins_B117 (x0 : Int32) (x1 : Int32) (x2 : Int32) (x3 : Int32) (x4 : Int32) (x5 : Int32) (f_blowMany : Nat → Int32) (f_blows : Nat → Int32) (f_downs : Nat → Int32) (f_forwards : Nat → Int32) (f_homes : Nat → Int32) (f_judgeMany : Nat → Int32) (f_judges : Nat → Int32) (f_noises : Nat → Int32) (f_roundMany : Nat → Int32) (f_takens : Nat → Int32) (k117 : Int32 → Int64 → Int32 → (Nat → Int64) → (Nat → Int64) → (Nat → Int64) → Option (Int64 × (Nat → Int64) × (Nat → Int64) × (Nat → Int64))) (l7 : Int32) (l8 : Int64) (l10 : Int32) (f_ways : Nat → Int64) (f_nextWays : Nat → Int64) (f_tallies : Nat → Int64) :
  Option (Int64 × (Nat → Int64) × (Nat → Int64) × (Nat → Int64)) :=
  if (3 : Int32) ≤ l10 then (lb ((1 : Int64) <<< (Int32.toInt64 l7 &&& 63)) fun v30 =>
  (mX11_common l8 v30).bind fun o31 =>
  if x5 = 0 then (gd (¬ o31 = 0) <|
  lb (l8 / o31) fun v37 =>
  some (v37, f_ways, f_nextWays, f_tallies)) else (gd (¬ o31 = 0) <|
  lb (v30 / o31) fun v35 =>
  some (v35, f_ways, f_nextWays, f_tallies))) else (mX11_coins_L126 x0 x1 x2 x3 x4 x5 f_blowMany f_blows f_downs f_forwards f_homes f_judgeMany f_judges f_noises f_roundMany f_takens k117 FUEL l7 l8 l10 (0 : Int32) f_ways f_nextWays f_tallies)
def mX11_coins_L117 (x0 : Int32) (x1 : Int32) (x2 : Int32) (x3 : Int32) (x4 : Int32) (x5 : Int32) (f_blowMany : Nat → Int32) (f_blows : Nat → Int32) (f_downs : Nat → Int32) (f_forwards : Nat → Int32) (f_homes : Nat → Int32) (f_judgeMany : Nat → Int32) (f_judges : Nat → Int32) (f_noises : Nat → Int32) (f_roundMany : Nat → Int32) (f_takens : Nat → Int32) (n : Nat) (l7 : Int32) (l8 : Int64) (l10 : Int32) (f_ways : Nat → Int64) (f_nextWays : Nat → Int64) (f_tallies : Nat → Int64) :
  Option (Int64 × (Nat → Int64) × (Nat → Int64) × (Nat → Int64)) :=
  loopN (fun k (s : Int32 × Int64 × Int32 × (Nat → Int64) × (Nat → Int64) × (Nat → Int64)) => mX11_coins_B117 x0 x1 x2 x3 x4 x5 f_blowMany f_blows f_downs f_forwards f_homes f_judgeMany f_judges f_noises f_roundMany f_takens  (fun l7 l8 l10 f_ways f_nextWays f_tallies => k (l7, l8, l10, f_ways, f_nextWays, f_tallies)) s.1 s.2.1 s.2.2.1 s.2.2.2.1 s.2.2.2.2.1 s.2.2.2.2.2) n (l7, l8, l10, f_ways, f_nextWays, f_tallies)
def mX11_coins_B50 (x0 : Int32) (x1 : Int32) (x2 : Int32) (x3 : Int32) (x4 : Int32) (x5 : Int32) (f_blowMany : Nat → Int32) (f_blows : Nat → Int32) (f_downs : Nat → Int32) (f_forwards : Nat → Int32) (f_homes : Nat → Int32) (f_judgeMany : Nat → Int32) (f_judges : Nat → Int32) (f_noises : Nat → Int32) (f_roundMany : Nat → Int32) (f_takens : Nat → Int32) (s0 : Int64) (s1 : Int64) (s2 : Int64) (f_ways : Nat → Int64) (f_nextWays : Nat → Int64) (f_tallies : Nat → Int64) :
  Option (Int64 × (Nat → Int64) × (Nat → Int64) × (Nat → Int64)) :=
  (mX11_in s0 s1 s2).bind fun o11 =>
  if o11 = 0 then (some ((-1 : Int64), f_ways, f_nextWays, f_tallies)) else ((mX11_coinsOf x1 f_blowMany f_blows f_forwards f_homes f_judges f_noises f_roundMany).bind fun o14 =>
  (mX11_coinsOf x2 f_blowMany f_blows f_forwards f_homes f_judges f_noises f_roundMany).bind fun o16 =>
  (mX11_coinsOf x3 f_blowMany f_blows f_forwards f_homes f_judges f_noises f_roundMany).bind fun o18 =>
  lb ((o14 + o16) + o18) fun v20 =>
  if 0 ≤ x4 then ((mX11_layWays x0 x1 (0 : Int32) f_blowMany f_blows f_downs f_forwards f_homes f_judges f_nextWays f_noises f_roundMany f_takens f_tallies f_ways).bind fun o22 =>
  (mX11_layWays x0 x2 (1 : Int32) f_blowMany f_blows f_downs f_forwards f_homes f_judges o22.2.1 f_noises f_roundMany f_takens o22.2.2 o22.1).bind fun o24 =>
  (mX11_layWays x0 x3 (2 : Int32) f_blowMany f_blows f_downs f_forwards f_homes f_judges o24.2.1 f_noises f_roundMany f_takens o24.2.2 o24.1).bind fun o26 =>
  mX11_coins_L117 x0 x1 x2 x3 x4 x5 f_blowMany f_blows f_downs f_forwards f_homes f_judgeMany f_judges f_noises f_roundMany f_takens  FUEL v20 (0 : Int64) (0 : Int32) o26.1 o26.2.1 o26.2.2) else (lb (Int32.toInt64 v20) fun v28 =>
  some (v28, f_ways, f_nextWays, f_tallies)))
def mX11_coins (x0 : Int32) (x1 : Int32) (x2 : Int32) (x3 : Int32) (x4 : Int32) (x5 : Int32) (f_blowMany : Nat → Int32) (f_blows : Nat → Int32) (f_downs : Nat → Int32) (f_forwards : Nat → Int32) (f_homes : Nat → Int32) (f_judgeMany : Nat → Int32) (f_judges : Nat → Int32) (f_nextWays : Nat → Int64) (f_noises : Nat → Int32) (f_roundMany : Nat → Int32) (f_takens : Nat → Int32) (f_tallies : Nat → Int64) (f_ways : Nat → Int64) :
  Option (Int64 × (Nat → Int64) × (Nat → Int64) × (Nat → Int64)) :=
  (mX11_in (Int32.toInt64 x0) (0 : Int64) (1 : Int64)).bind fun o1 =>
  if o1 = 0 then (some ((-1 : Int64), f_ways, f_nextWays, f_tallies)) else ((mX11_areThree x1 x2 x3 f_judgeMany).bind fun o4 =>
  if o4 = 0 then (some ((-1 : Int64), f_ways, f_nextWays, f_tallies)) else ((mX11_in (Int32.toInt64 x4) (-1 : Int64) (2 : Int64)).bind fun o7 =>
  if o7 = 0 then (some ((-1 : Int64), f_ways, f_nextWays, f_tallies)) else (if 0 ≤ x4 then (mX11_coins_B50 x0 x1 x2 x3 x4 x5 f_blowMany f_blows f_downs f_forwards f_homes f_judgeMany f_judges f_noises f_roundMany f_takens  (Int32.toInt64 x5) (0 : Int64) (1 : Int64) f_ways f_nextWays f_tallies) else (mX11_coins_B50 x0 x1 x2 x3 x4 x5 f_blowMany f_blows f_downs f_forwards f_homes f_judgeMany f_judges f_noises f_roundMany f_takens  (Int32.toInt64 x5) (0 : Int64) (0 : Int64) f_ways f_nextWays f_tallies))))
theorem hdsX11_coins : yX11_coins.cls ≠ "java/lang/invoke/MethodHandle" ∧ yX11_coins.cls ≠ "java/lang/invoke/VarHandle" ∧ (parseMethodDescriptor yX11_coins.desc).map (fun d => d.parameters.length) = some 6 := by decide +kernel
theorem hdvX11_coins : yX11_coins.cls = RX11 ∧ yX11_coins.cls ≠ "java/lang/invoke/MethodHandle" ∧ yX11_coins.cls ≠ "java/lang/invoke/VarHandle" ∧ (parseMethodDescriptor yX11_coins.desc).map (fun d => d.parameters.length) = some 6 := by decide +kernel
abbrev rmX11_coins : Room := { frames := 7, cells := 0, slots := 0, locals := 171 }
set_option maxHeartbeats 4000000 in
set_option maxRecDepth 100000 in
theorem qX11_coins (l : Launch) (X : XT) (a_this : Nat) (a_blowMany : Nat) (a_blows : Nat) (a_downs : Nat) (a_forwards : Nat) (a_homes : Nat) (a_judgeMany : Nat) (a_judges : Nat) (a_nextWays : Nat) (a_noises : Nat) (a_roundMany : Nat) (a_takens : Nat) (a_tallies : Nat) (a_ways : Nat) (a_text : Nat) (a_delays : Nat) (a_tolds : Nat) (a_tens : Nat) (a_told : Nat) (a_presses : Nat) (a_values : Nat) (a_nextValues : Nat)  (i_length : Int32) (i_keptMany : Int32) (i_place : Int32) (f_blowMany : Nat → Int32) (f_blows : Nat → Int32) (f_downs : Nat → Int32) (f_forwards : Nat → Int32) (f_homes : Nat → Int32) (f_judgeMany : Nat → Int32) (f_judges : Nat → Int32) (f_nextWays : Nat → Int64) (f_noises : Nat → Int32) (f_roundMany : Nat → Int32) (f_takens : Nat → Int32) (f_tallies : Nat → Int64) (f_ways : Nat → Int64) (x0 : Int32) (x1 : Int32) (x2 : Int32) (x3 : Int32) (x4 : Int32) (x5 : Int32) (o : Int64 × (Nat → Int64) × (Nat → Int64) × (Nat → Int64)) (hf : mX11_coins x0 x1 x2 x3 x4 x5 f_blowMany f_blows f_downs f_forwards f_homes f_judgeMany f_judges f_nextWays f_noises f_roundMany f_takens f_tallies f_ways = some o) :
    ML l yX11_coins wsX11_coins rmX11_coins X [.ref a_this, .int x0, .int x1, .int x2, .int x3, .int x4, .int x5] [(a_this, .inr (11, [.int i_length, .ref a_text, .ref a_roundMany, .ref a_blowMany, .ref a_blows, .ref a_forwards, .ref a_downs, .ref a_takens, .ref a_homes, .ref a_noises, .ref a_judgeMany, .ref a_judges, .ref a_delays, .ref a_tolds, .ref a_tens, .int i_keptMany, .int i_place, .ref a_told, .ref a_ways, .ref a_nextWays, .ref a_tallies, .ref a_presses, .ref a_values, .ref a_nextValues])), (a_blowMany, .inl (X.2.1 0, 2, .inl f_blowMany)), (a_blows, .inl (X.2.1 0, 400, .inl f_blows)), (a_downs, .inl (X.2.1 0, 48, .inl f_downs)), (a_forwards, .inl (X.2.1 0, 48, .inl f_forwards)), (a_homes, .inl (X.2.1 0, 2, .inl f_homes)), (a_judgeMany, .inl (X.2.1 0, 2, .inl f_judgeMany)), (a_judges, .inl (X.2.1 0, 112, .inl f_judges)), (a_nextWays, .inl (X.2.1 1, 601, .inr (.inl f_nextWays))), (a_noises, .inl (X.2.1 0, 2, .inl f_noises)), (a_roundMany, .inl (X.2.1 0, 2, .inl f_roundMany)), (a_takens, .inl (X.2.1 0, 48, .inl f_takens)), (a_tallies, .inl (X.2.1 1, 9, .inr (.inl f_tallies))), (a_ways, .inl (X.2.1 1, 601, .inr (.inl f_ways)))]  [(a_this, .inr (11, [.int i_length, .ref a_text, .ref a_roundMany, .ref a_blowMany, .ref a_blows, .ref a_forwards, .ref a_downs, .ref a_takens, .ref a_homes, .ref a_noises, .ref a_judgeMany, .ref a_judges, .ref a_delays, .ref a_tolds, .ref a_tens, .int i_keptMany, .int i_place, .ref a_told, .ref a_ways, .ref a_nextWays, .ref a_tallies, .ref a_presses, .ref a_values, .ref a_nextValues])), (a_blowMany, .inl (X.2.1 0, 2, .inl f_blowMany)), (a_blows, .inl (X.2.1 0, 400, .inl f_blows)), (a_downs, .inl (X.2.1 0, 48, .inl f_downs)), (a_forwards, .inl (X.2.1 0, 48, .inl f_forwards)), (a_homes, .inl (X.2.1 0, 2, .inl f_homes)), (a_judgeMany, .inl (X.2.1 0, 2, .inl f_judgeMany)), (a_judges, .inl (X.2.1 0, 112, .inl f_judges)), (a_nextWays, .inl (X.2.1 1, 601, .inr (.inl o.2.2.1))), (a_noises, .inl (X.2.1 0, 2, .inl f_noises)), (a_roundMany, .inl (X.2.1 0, 2, .inl f_roundMany)), (a_takens, .inl (X.2.1 0, 48, .inl f_takens)), (a_tallies, .inl (X.2.1 1, 9, .inr (.inl o.2.2.2))), (a_ways, .inl (X.2.1 1, 601, .inr (.inl o.2.1)))] o.1 := by
  refine ML_ofH (cc := cX11_coins) (maxL := 14) (by decide) rfl (Nat.le_of_ble_eq_true rfl) ?_
  intro p e s m below meth c A Q H ls hx hb hml hts hown hA hD hG hP hS hl ret
  have hown : s.vm.findClass RX11 = some m.cls := hown
  have hD : aD A [a_this, a_blowMany, a_blows, a_downs, a_forwards, a_homes, a_judgeMany, a_judges, a_nextWays, a_noises, a_roundMany, a_takens, a_tallies, a_ways] := hD
  have hl : lv_has ls 14 [(0, .ref a_this), (1, .int x0), (2, .int x1), (3, .int x2), (4, .int x3), (5, .int x4), (6, .int x5)] := hl
  have w1 := hts (Cond.constantLong RX11 199 (-1)) (List.mem_of_getElem? (i := 1) rfl)
  have w2 := hts (Cond.constantLong RX11 181 (2)) (List.mem_of_getElem? (i := 2) rfl)
  have w3 := hts (Cond.fieldLink RX11 62 "ThreeCardsModel" "tallies" "[J") (List.mem_of_getElem? (i := 3) rfl)
  have in11 : ∀ w ∈ u_ws RX11 TX11 24, w ∈ wsX11_coins := by decide +kernel
  have hB169 : ∀ (k117 : Int32 → Int64 → Int32 → (Nat → Int64) → (Nat → Int64) → (Nat → Int64) → Option (Int64 × (Nat → Int64) × (Nat → Int64) × (Nat → Int64))) (hk117 : ∀ (l7 : Int32) (l8 : Int64) (l10 : Int32) (f_ways : Nat → Int64) (f_nextWays : Nat → Int64) (f_tallies : Nat → Int64)  (H : Heap) (locs : List Loc) (ls : Array Slot), va_P X.1 vwCl [(a_this, .inr (11, [.int i_length, .ref a_text, .ref a_roundMany, .ref a_blowMany, .ref a_blows, .ref a_forwards, .ref a_downs, .ref a_takens, .ref a_homes, .ref a_noises, .ref a_judgeMany, .ref a_judges, .ref a_delays, .ref a_tolds, .ref a_tens, .int i_keptMany, .int i_place, .ref a_told, .ref a_ways, .ref a_nextWays, .ref a_tallies, .ref a_presses, .ref a_values, .ref a_nextValues])), (a_blowMany, .inl (X.2.1 0, 2, .inl f_blowMany)), (a_blows, .inl (X.2.1 0, 400, .inl f_blows)), (a_downs, .inl (X.2.1 0, 48, .inl f_downs)), (a_forwards, .inl (X.2.1 0, 48, .inl f_forwards)), (a_homes, .inl (X.2.1 0, 2, .inl f_homes)), (a_judgeMany, .inl (X.2.1 0, 2, .inl f_judgeMany)), (a_judges, .inl (X.2.1 0, 112, .inl f_judges)), (a_nextWays, .inl (X.2.1 1, 601, .inr (.inl f_nextWays))), (a_noises, .inl (X.2.1 0, 2, .inl f_noises)), (a_roundMany, .inl (X.2.1 0, 2, .inl f_roundMany)), (a_takens, .inl (X.2.1 0, 48, .inl f_takens)), (a_tallies, .inl (X.2.1 1, 9, .inr (.inl f_tallies))), (a_ways, .inl (X.2.1 1, 601, .inr (.inl f_ways)))] H → va_S A s.heap H locs → lv_has ls 14 [(0, .ref a_this), (5, .int x4), (6, .int x5), (7, .int l7), (8, .long l8), (10, .int l10)] → k117 l7 l8 l10 f_ways f_nextWays f_tallies = some o → W p l e rmX11_coins s m ([.ref a_this, .int x0, .int x1, .int x2, .int x3, .int x4, .int x5] : List Value).toArray below meth c H locs 0 0 Q (F0 m 117 ls [])) (k126 : Int32 → Int64 → Int32 → Int32 → (Nat → Int64) → (Nat → Int64) → (Nat → Int64) → Option (Int64 × (Nat → Int64) × (Nat → Int64) × (Nat → Int64))) (hk126 : ∀ (l7 : Int32) (l8 : Int64) (l10 : Int32) (l11 : Int32) (f_ways : Nat → Int64) (f_nextWays : Nat → Int64) (f_tallies : Nat → Int64)  (H : Heap) (locs : List Loc) (ls : Array Slot), va_P X.1 vwCl [(a_this, .inr (11, [.int i_length, .ref a_text, .ref a_roundMany, .ref a_blowMany, .ref a_blows, .ref a_forwards, .ref a_downs, .ref a_takens, .ref a_homes, .ref a_noises, .ref a_judgeMany, .ref a_judges, .ref a_delays, .ref a_tolds, .ref a_tens, .int i_keptMany, .int i_place, .ref a_told, .ref a_ways, .ref a_nextWays, .ref a_tallies, .ref a_presses, .ref a_values, .ref a_nextValues])), (a_blowMany, .inl (X.2.1 0, 2, .inl f_blowMany)), (a_blows, .inl (X.2.1 0, 400, .inl f_blows)), (a_downs, .inl (X.2.1 0, 48, .inl f_downs)), (a_forwards, .inl (X.2.1 0, 48, .inl f_forwards)), (a_homes, .inl (X.2.1 0, 2, .inl f_homes)), (a_judgeMany, .inl (X.2.1 0, 2, .inl f_judgeMany)), (a_judges, .inl (X.2.1 0, 112, .inl f_judges)), (a_nextWays, .inl (X.2.1 1, 601, .inr (.inl f_nextWays))), (a_noises, .inl (X.2.1 0, 2, .inl f_noises)), (a_roundMany, .inl (X.2.1 0, 2, .inl f_roundMany)), (a_takens, .inl (X.2.1 0, 48, .inl f_takens)), (a_tallies, .inl (X.2.1 1, 9, .inr (.inl f_tallies))), (a_ways, .inl (X.2.1 1, 601, .inr (.inl f_ways)))] H → va_S A s.heap H locs → lv_has ls 14 [(0, .ref a_this), (5, .int x4), (6, .int x5), (7, .int l7), (8, .long l8), (10, .int l10), (11, .int l11)] → k126 l7 l8 l10 l11 f_ways f_nextWays f_tallies = some o → W p l e rmX11_coins s m ([.ref a_this, .int x0, .int x1, .int x2, .int x3, .int x4, .int x5] : List Value).toArray below meth c H locs 0 0 Q (F0 m 126 ls [])) (k135 : Int32 → Int64 → Int32 → Int32 → Int32 → (Nat → Int64) → (Nat → Int64) → (Nat → Int64) → Option (Int64 × (Nat → Int64) × (Nat → Int64) × (Nat → Int64))) (hk135 : ∀ (l7 : Int32) (l8 : Int64) (l10 : Int32) (l11 : Int32) (l12 : Int32) (f_ways : Nat → Int64) (f_nextWays : Nat → Int64) (f_tallies : Nat → Int64)  (H : Heap) (locs : List Loc) (ls : Array Slot), va_P X.1 vwCl [(a_this, .inr (11, [.int i_length, .ref a_text, .ref a_roundMany, .ref a_blowMany, .ref a_blows, .ref a_forwards, .ref a_downs, .ref a_takens, .ref a_homes, .ref a_noises, .ref a_judgeMany, .ref a_judges, .ref a_delays, .ref a_tolds, .ref a_tens, .int i_keptMany, .int i_place, .ref a_told, .ref a_ways, .ref a_nextWays, .ref a_tallies, .ref a_presses, .ref a_values, .ref a_nextValues])), (a_blowMany, .inl (X.2.1 0, 2, .inl f_blowMany)), (a_blows, .inl (X.2.1 0, 400, .inl f_blows)), (a_downs, .inl (X.2.1 0, 48, .inl f_downs)), (a_forwards, .inl (X.2.1 0, 48, .inl f_forwards)), (a_homes, .inl (X.2.1 0, 2, .inl f_homes)), (a_judgeMany, .inl (X.2.1 0, 2, .inl f_judgeMany)), (a_judges, .inl (X.2.1 0, 112, .inl f_judges)), (a_nextWays, .inl (X.2.1 1, 601, .inr (.inl f_nextWays))), (a_noises, .inl (X.2.1 0, 2, .inl f_noises)), (a_roundMany, .inl (X.2.1 0, 2, .inl f_roundMany)), (a_takens, .inl (X.2.1 0, 48, .inl f_takens)), (a_tallies, .inl (X.2.1 1, 9, .inr (.inl f_tallies))), (a_ways, .inl (X.2.1 1, 601, .inr (.inl f_ways)))] H → va_S A s.heap H locs → lv_has ls 14 [(0, .ref a_this), (5, .int x4), (6, .int x5), (7, .int l7), (8, .long l8), (10, .int l10), (11, .int l11), (12, .int l12)] → k135 l7 l8 l10 l11 l12 f_ways f_nextWays f_tallies = some o → W p l e rmX11_coins s m ([.ref a_this, .int x0, .int x1, .int x2, .int x3, .int x4, .int x5] : List Value).toArray below meth c H locs 0 0 Q (F0 m 135 ls [])) (l7 : Int32) (l8 : Int64) (l10 : Int32) (l11 : Int32) (l12 : Int32) (s0 : Int32) (f_ways : Nat → Int64) (f_nextWays : Nat → Int64) (f_tallies : Nat → Int64)  (H : Heap) (locs : List Loc) (ls : Array Slot), va_P X.1 vwCl [(a_this, .inr (11, [.int i_length, .ref a_text, .ref a_roundMany, .ref a_blowMany, .ref a_blows, .ref a_forwards, .ref a_downs, .ref a_takens, .ref a_homes, .ref a_noises, .ref a_judgeMany, .ref a_judges, .ref a_delays, .ref a_tolds, .ref a_tens, .int i_keptMany, .int i_place, .ref a_told, .ref a_ways, .ref a_nextWays, .ref a_tallies, .ref a_presses, .ref a_values, .ref a_nextValues])), (a_blowMany, .inl (X.2.1 0, 2, .inl f_blowMany)), (a_blows, .inl (X.2.1 0, 400, .inl f_blows)), (a_downs, .inl (X.2.1 0, 48, .inl f_downs)), (a_forwards, .inl (X.2.1 0, 48, .inl f_forwards)), (a_homes, .inl (X.2.1 0, 2, .inl f_homes)), (a_judgeMany, .inl (X.2.1 0, 2, .inl f_judgeMany)), (a_judges, .inl (X.2.1 0, 112, .inl f_judges)), (a_nextWays, .inl (X.2.1 1, 601, .inr (.inl f_nextWays))), (a_noises, .inl (X.2.1 0, 2, .inl f_noises)), (a_roundMany, .inl (X.2.1 0, 2, .inl f_roundMany)), (a_takens, .inl (X.2.1 0, 48, .inl f_takens)), (a_tallies, .inl (X.2.1 1, 9, .inr (.inl f_tallies))), (a_ways, .inl (X.2.1 1, 601, .inr (.inl f_ways)))] H → va_S A s.heap H locs → lv_has ls 14 [(0, .ref a_this), (5, .int x4), (6, .int x5), (7, .int l7), (8, .long l8), (10, .int l10), (11, .int l11), (12, .int l12)] → mX11_coins_B169 x0 x1 x2 x3 x4 x5 f_blowMany f_blows f_downs f_forwards f_homes f_judgeMany f_judges f_noises f_roundMany f_takens k117 k126 k135 l7 l8 l10 l11 l12 s0 f_ways f_nextWays f_tallies = some o → W p l e rmX11_coins s m ([.ref a_this, .int x0, .int x1, .int x2, .int x3, .int x4, .int x5] : List Value).toArray below meth c H locs 0 0 Q (F0 m 169 ls [.int s0]) := by
    intro k117 hk117 k126 hk126 k135 hk135 l7 l8 l10 l11 l12 s0 f_ways f_nextWays f_tallies  H locs ls hP hS hl hf
    unfold mX11_coins_B169 at hf
    refine lv_istore (lv' := [(13, .int s0), (0, .ref a_this), (5, .int x4), (6, .int x5), (7, .int l7), (8, .long l8), (10, .int l10), (11, .int l11), (12, .int l12)]) hx hb dX11_coins_169 hl (by decide) rfl (fun ls hl => ?_)
    refine lv_lload hx hb dX11_coins_171 (lv_at hl 5 rfl) ?_
    refine lv_iload hx hb dX11_coins_173 (lv_at hl 0 rfl) ?_
    refine lv_if_eq (tgt := 209) hx hb dX11_coins_175 (by decide) (fun c51 => ?_) (fun c51 => ?_)
    · have hf := xt hf c51
      refine lv_lconst (v := (0 : Int64)) hx hb dX11_coins_209 rfl ?_
      refine lv_ladd hx hb dX11_coins_210 ?_
      refine lv_topl (fun v52 ev52 => ?_)
      have hf := lb_s hf ev52
      refine lv_lstore (lv' := [(8, .long v52), (13, .int s0), (0, .ref a_this), (5, .int x4), (6, .int x5), (7, .int l7), (10, .int l10), (11, .int l11), (12, .int l12)]) hx hb dX11_coins_211 hl (by decide) rfl (fun ls hl => ?_)
      obtain ⟨v53, ev53, hf⟩ := lb_g hf
      refine lv_iinc (v := v53) (lv' := [(12, .int v53), (8, .long v52), (13, .int s0), (0, .ref a_this), (5, .int x4), (6, .int x5), (7, .int l7), (10, .int l10), (11, .int l11)]) hx hb dX11_coins_213 hl (k := 8) rfl ev53.symm (by decide) rfl (fun ls hl => ?_)
      refine lv_goto (tgt := 135) hx hb dX11_coins_216 (by decide) ?_
      exact hk135 l7 v52 l10 l11 v53 f_ways f_nextWays f_tallies  H _ ls hP  hS (lv_sub hl [3, 4, 5, 6, 1, 7, 8, 0] rfl) hf
    · have hf := xf hf c51
      refine lv_aload_n hx hb dX11_coins_178 rfl (lv_at hl 1 rfl) ?_
      refine va_get (D := X.1) (ci := 11) (v := .ref a_tallies) (C := RX11) (T := TX11) (N := 24) hx hb hts in11 hown hG.1 hP 0 rfl rfl 20 (by decide) w3 (fun _ h9 => h9) rfl dX11_coins_179 ?_
      refine lv_iload hx hb dX11_coins_182 (lv_at hl 6 rfl) ?_
      obtain ⟨h54, hf⟩ := gi_s hf
      refine va_lald (D := X.1) hx hb hG.1 hP 12 1 rfl rfl h54 dX11_coins_184 ?_
      refine lv_aload_n hx hb dX11_coins_185 rfl (lv_at hl 1 rfl) ?_
      refine va_get (D := X.1) (ci := 11) (v := .ref a_tallies) (C := RX11) (T := TX11) (N := 24) hx hb hts in11 hown hG.1 hP 0 rfl rfl 20 (by decide) w3 (fun _ h9 => h9) rfl dX11_coins_186 ?_
      refine lv_iconst (v := (3 : Int32)) hx hb dX11_coins_189 (by decide) ?_
      refine lv_iload hx hb dX11_coins_190 (lv_at hl 7 rfl) ?_
      refine lv_iadd hx hb dX11_coins_192 ?_
      obtain ⟨h55, hf⟩ := gi_s hf
      refine va_lald (D := X.1) hx hb hG.1 hP 12 1 rfl rfl h55 dX11_coins_193 ?_
      refine lv_lmul hx hb dX11_coins_194 ?_
      refine lv_aload_n hx hb dX11_coins_195 rfl (lv_at hl 1 rfl) ?_
      refine va_get (D := X.1) (ci := 11) (v := .ref a_tallies) (C := RX11) (T := TX11) (N := 24) hx hb hts in11 hown hG.1 hP 0 rfl rfl 20 (by decide) w3 (fun _ h9 => h9) rfl dX11_coins_196 ?_
      refine lv_bipush (v := (6 : Int32)) hx hb dX11_coins_199 (by decide) ?_
      refine lv_iload hx hb dX11_coins_201 (lv_at hl 8 rfl) ?_
      refine lv_iadd hx hb dX11_coins_203 ?_
      obtain ⟨h56, hf⟩ := gi_s hf
      refine va_lald (D := X.1) hx hb hG.1 hP 12 1 rfl rfl h56 dX11_coins_204 ?_
      refine lv_lmul hx hb dX11_coins_205 ?_
      refine lv_goto (tgt := 210) hx hb dX11_coins_206 (by decide) ?_
      refine lv_ladd hx hb dX11_coins_210 ?_
      refine lv_topl (fun v57 ev57 => ?_)
      have hf := lb_s hf ev57
      refine lv_lstore (lv' := [(8, .long v57), (13, .int s0), (0, .ref a_this), (5, .int x4), (6, .int x5), (7, .int l7), (10, .int l10), (11, .int l11), (12, .int l12)]) hx hb dX11_coins_211 hl (by decide) rfl (fun ls hl => ?_)
      obtain ⟨v58, ev58, hf⟩ := lb_g hf
      refine lv_iinc (v := v58) (lv' := [(12, .int v58), (8, .long v57), (13, .int s0), (0, .ref a_this), (5, .int x4), (6, .int x5), (7, .int l7), (10, .int l10), (11, .int l11)]) hx hb dX11_coins_213 hl (k := 8) rfl ev58.symm (by decide) rfl (fun ls hl => ?_)
      refine lv_goto (tgt := 135) hx hb dX11_coins_216 (by decide) ?_
      exact hk135 l7 v57 l10 l11 v58 f_ways f_nextWays f_tallies  H _ ls hP  hS (lv_sub hl [3, 4, 5, 6, 1, 7, 8, 0] rfl) hf
  have hL135 : ∀ (k117 : Int32 → Int64 → Int32 → (Nat → Int64) → (Nat → Int64) → (Nat → Int64) → Option (Int64 × (Nat → Int64) × (Nat → Int64) × (Nat → Int64))) (hk117 : ∀ (l7 : Int32) (l8 : Int64) (l10 : Int32) (f_ways : Nat → Int64) (f_nextWays : Nat → Int64) (f_tallies : Nat → Int64)  (H : Heap) (locs : List Loc) (ls : Array Slot), va_P X.1 vwCl [(a_this, .inr (11, [.int i_length, .ref a_text, .ref a_roundMany, .ref a_blowMany, .ref a_blows, .ref a_forwards, .ref a_downs, .ref a_takens, .ref a_homes, .ref a_noises, .ref a_judgeMany, .ref a_judges, .ref a_delays, .ref a_tolds, .ref a_tens, .int i_keptMany, .int i_place, .ref a_told, .ref a_ways, .ref a_nextWays, .ref a_tallies, .ref a_presses, .ref a_values, .ref a_nextValues])), (a_blowMany, .inl (X.2.1 0, 2, .inl f_blowMany)), (a_blows, .inl (X.2.1 0, 400, .inl f_blows)), (a_downs, .inl (X.2.1 0, 48, .inl f_downs)), (a_forwards, .inl (X.2.1 0, 48, .inl f_forwards)), (a_homes, .inl (X.2.1 0, 2, .inl f_homes)), (a_judgeMany, .inl (X.2.1 0, 2, .inl f_judgeMany)), (a_judges, .inl (X.2.1 0, 112, .inl f_judges)), (a_nextWays, .inl (X.2.1 1, 601, .inr (.inl f_nextWays))), (a_noises, .inl (X.2.1 0, 2, .inl f_noises)), (a_roundMany, .inl (X.2.1 0, 2, .inl f_roundMany)), (a_takens, .inl (X.2.1 0, 48, .inl f_takens)), (a_tallies, .inl (X.2.1 1, 9, .inr (.inl f_tallies))), (a_ways, .inl (X.2.1 1, 601, .inr (.inl f_ways)))] H → va_S A s.heap H locs → lv_has ls 14 [(0, .ref a_this), (5, .int x4), (6, .int x5), (7, .int l7), (8, .long l8), (10, .int l10)] → k117 l7 l8 l10 f_ways f_nextWays f_tallies = some o → W p l e rmX11_coins s m ([.ref a_this, .int x0, .int x1, .int x2, .int x3, .int x4, .int x5] : List Value).toArray below meth c H locs 0 0 Q (F0 m 117 ls [])) (k126 : Int32 → Int64 → Int32 → Int32 → (Nat → Int64) → (Nat → Int64) → (Nat → Int64) → Option (Int64 × (Nat → Int64) × (Nat → Int64) × (Nat → Int64))) (hk126 : ∀ (l7 : Int32) (l8 : Int64) (l10 : Int32) (l11 : Int32) (f_ways : Nat → Int64) (f_nextWays : Nat → Int64) (f_tallies : Nat → Int64)  (H : Heap) (locs : List Loc) (ls : Array Slot), va_P X.1 vwCl [(a_this, .inr (11, [.int i_length, .ref a_text, .ref a_roundMany, .ref a_blowMany, .ref a_blows, .ref a_forwards, .ref a_downs, .ref a_takens, .ref a_homes, .ref a_noises, .ref a_judgeMany, .ref a_judges, .ref a_delays, .ref a_tolds, .ref a_tens, .int i_keptMany, .int i_place, .ref a_told, .ref a_ways, .ref a_nextWays, .ref a_tallies, .ref a_presses, .ref a_values, .ref a_nextValues])), (a_blowMany, .inl (X.2.1 0, 2, .inl f_blowMany)), (a_blows, .inl (X.2.1 0, 400, .inl f_blows)), (a_downs, .inl (X.2.1 0, 48, .inl f_downs)), (a_forwards, .inl (X.2.1 0, 48, .inl f_forwards)), (a_homes, .inl (X.2.1 0, 2, .inl f_homes)), (a_judgeMany, .inl (X.2.1 0, 2, .inl f_judgeMany)), (a_judges, .inl (X.2.1 0, 112, .inl f_judges)), (a_nextWays, .inl (X.2.1 1, 601, .inr (.inl f_nextWays))), (a_noises, .inl (X.2.1 0, 2, .inl f_noises)), (a_roundMany, .inl (X.2.1 0, 2, .inl f_roundMany)), (a_takens, .inl (X.2.1 0, 48, .inl f_takens)), (a_tallies, .inl (X.2.1 1, 9, .inr (.inl f_tallies))), (a_ways, .inl (X.2.1 1, 601, .inr (.inl f_ways)))] H → va_S A s.heap H locs → lv_has ls 14 [(0, .ref a_this), (5, .int x4), (6, .int x5), (7, .int l7), (8, .long l8), (10, .int l10), (11, .int l11)] → k126 l7 l8 l10 l11 f_ways f_nextWays f_tallies = some o → W p l e rmX11_coins s m ([.ref a_this, .int x0, .int x1, .int x2, .int x3, .int x4, .int x5] : List Value).toArray below meth c H locs 0 0 Q (F0 m 126 ls [])) (n : Nat) (l7 : Int32) (l8 : Int64) (l10 : Int32) (l11 : Int32) (l12 : Int32) (f_ways : Nat → Int64) (f_nextWays : Nat → Int64) (f_tallies : Nat → Int64)  (H : Heap) (locs : List Loc) (ls : Array Slot), va_P X.1 vwCl [(a_this, .inr (11, [.int i_length, .ref a_text, .ref a_roundMany, .ref a_blowMany, .ref a_blows, .ref a_forwards, .ref a_downs, .ref a_takens, .ref a_homes, .ref a_noises, .ref a_judgeMany, .ref a_judges, .ref a_delays, .ref a_tolds, .ref a_tens, .int i_keptMany, .int i_place, .ref a_told, .ref a_ways, .ref a_nextWays, .ref a_tallies, .ref a_presses, .ref a_values, .ref a_nextValues])), (a_blowMany, .inl (X.2.1 0, 2, .inl f_blowMany)), (a_blows, .inl (X.2.1 0, 400, .inl f_blows)), (a_downs, .inl (X.2.1 0, 48, .inl f_downs)), (a_forwards, .inl (X.2.1 0, 48, .inl f_forwards)), (a_homes, .inl (X.2.1 0, 2, .inl f_homes)), (a_judgeMany, .inl (X.2.1 0, 2, .inl f_judgeMany)), (a_judges, .inl (X.2.1 0, 112, .inl f_judges)), (a_nextWays, .inl (X.2.1 1, 601, .inr (.inl f_nextWays))), (a_noises, .inl (X.2.1 0, 2, .inl f_noises)), (a_roundMany, .inl (X.2.1 0, 2, .inl f_roundMany)), (a_takens, .inl (X.2.1 0, 48, .inl f_takens)), (a_tallies, .inl (X.2.1 1, 9, .inr (.inl f_tallies))), (a_ways, .inl (X.2.1 1, 601, .inr (.inl f_ways)))] H → va_S A s.heap H locs → lv_has ls 14 [(0, .ref a_this), (5, .int x4), (6, .int x5), (7, .int l7), (8, .long l8), (10, .int l10), (11, .int l11), (12, .int l12)] → mX11_coins_L135 x0 x1 x2 x3 x4 x5 f_blowMany f_blows f_downs f_forwards f_homes f_judgeMany f_judges f_noises f_roundMany f_takens k117 k126 n l7 l8 l10 l11 l12 f_ways f_nextWays f_tallies = some o → W p l e rmX11_coins s m ([.ref a_this, .int x0, .int x1, .int x2, .int x3, .int x4, .int x5] : List Value).toArray below meth c H locs 0 0 Q (F0 m 135 ls []) := by
    intro k117 hk117 k126 hk126 n
    induction n with
    | zero => intro l7 l8 l10 l11 l12 f_ways f_nextWays f_tallies  H locs ls hP hS hl hf; exact xn hf
    | succ n ih =>
      intro l7 l8 l10 l11 l12 f_ways f_nextWays f_tallies  H locs ls hP hS hl hf
      have hf : mX11_coins_B135 x0 x1 x2 x3 x4 x5 f_blowMany f_blows f_downs f_forwards f_homes f_judgeMany f_judges f_noises f_roundMany f_takens k117 k126 (mX11_coins_L135 x0 x1 x2 x3 x4 x5 f_blowMany f_blows f_downs f_forwards f_homes f_judgeMany f_judges f_noises f_roundMany f_takens k117 k126 n) l7 l8 l10 l11 l12 f_ways f_nextWays f_tallies = some o := hf
      generalize mX11_coins_L135 x0 x1 x2 x3 x4 x5 f_blowMany f_blows f_downs f_forwards f_homes f_judgeMany f_judges f_noises f_roundMany f_takens k117 k126 n = k135 at ih hf
      unfold mX11_coins_B135 at hf
      refine lv_iload hx hb dX11_coins_135 (lv_at hl 7 rfl) ?_
      refine lv_iconst (v := (3 : Int32)) hx hb dX11_coins_137 (by decide) ?_
      refine lv_icmp_ge (tgt := 219) hx hb dX11_coins_138 (by decide) (fun c40 => ?_) (fun c40 => ?_)
      · have hf := xt hf c40
        obtain ⟨v41, ev41, hf⟩ := lb_g hf
        refine lv_iinc (v := v41) (lv' := [(11, .int v41), (0, .ref a_this), (5, .int x4), (6, .int x5), (7, .int l7), (8, .long l8), (10, .int l10), (12, .int l12)]) hx hb dX11_coins_219 hl (k := 6) rfl ev41.symm (by decide) rfl (fun ls hl => ?_)
        refine lv_goto (tgt := 126) hx hb dX11_coins_222 (by decide) ?_
        exact hk126 l7 l8 l10 v41 f_ways f_nextWays f_tallies  H _ ls hP  hS (lv_sub hl [1, 2, 3, 4, 5, 6, 0] rfl) hf
      · have hf := xf hf c40
        refine lv_iload hx hb dX11_coins_141 (lv_at hl 5 rfl) ?_
        obtain ⟨o42, ho42, hf⟩ := ob_s hf
        refine xS_i (As := [.int l10]) (rest := []) (ws2 := [(a_this, .inr (11, [.int i_length, .ref a_text, .ref a_roundMany, .ref a_blowMany, .ref a_blows, .ref a_forwards, .ref a_downs, .ref a_takens, .ref a_homes, .ref a_noises, .ref a_judgeMany, .ref a_judges, .ref a_delays, .ref a_tolds, .ref a_tens, .int i_keptMany, .int i_place, .ref a_told, .ref a_ways, .ref a_nextWays, .ref a_tallies, .ref a_presses, .ref a_values, .ref a_nextValues])), (a_blowMany, .inl (X.2.1 0, 2, .inl f_blowMany)), (a_blows, .inl (X.2.1 0, 400, .inl f_blows)), (a_downs, .inl (X.2.1 0, 48, .inl f_downs)), (a_forwards, .inl (X.2.1 0, 48, .inl f_forwards)), (a_homes, .inl (X.2.1 0, 2, .inl f_homes)), (a_judgeMany, .inl (X.2.1 0, 2, .inl f_judgeMany)), (a_judges, .inl (X.2.1 0, 112, .inl f_judges)), (a_nextWays, .inl (X.2.1 1, 601, .inr (.inl f_nextWays))), (a_noises, .inl (X.2.1 0, 2, .inl f_noises)), (a_roundMany, .inl (X.2.1 0, 2, .inl f_roundMany)), (a_takens, .inl (X.2.1 0, 48, .inl f_takens)), (a_tallies, .inl (X.2.1 1, 9, .inr (.inl f_tallies))), (a_ways, .inl (X.2.1 1, 601, .inr (.inl f_ways)))]) hx hb hml hts hown hG hA hP hD rfl hS hl.1 (qX11_cardAs l X l10 o42 ho42) (va_cwS (y := yX11_cardAs) 1 hts gX11_coins_X11_cardAs rfl rfl rfl hdsX11_cardAs ⟨Nat.le_of_ble_eq_true rfl, Nat.le_of_ble_eq_true rfl⟩) [] [0, 1, 2, 3, 4, 5, 6, 7, 8, 9, 10, 11, 12, 13] [0, 1, 2, 3, 4, 5, 6, 7, 8, 9, 10, 11, 12, 13] rfl rfl rfl rfl rfl rfl rfl rfl rfl (Nat.le_of_ble_eq_true rfl) ⟨Nat.le_of_ble_eq_true rfl, Nat.le_of_ble_eq_true rfl⟩ dX11_coins_143 (fun H locs hP _ hS => ?_)
        refine lv_iload hx hb dX11_coins_146 (lv_at hl 6 rfl) ?_
        obtain ⟨o44, ho44, hf⟩ := ob_s hf
        refine xS_i (As := [.int l11]) (rest := [.int o42]) (ws2 := [(a_this, .inr (11, [.int i_length, .ref a_text, .ref a_roundMany, .ref a_blowMany, .ref a_blows, .ref a_forwards, .ref a_downs, .ref a_takens, .ref a_homes, .ref a_noises, .ref a_judgeMany, .ref a_judges, .ref a_delays, .ref a_tolds, .ref a_tens, .int i_keptMany, .int i_place, .ref a_told, .ref a_ways, .ref a_nextWays, .ref a_tallies, .ref a_presses, .ref a_values, .ref a_nextValues])), (a_blowMany, .inl (X.2.1 0, 2, .inl f_blowMany)), (a_blows, .inl (X.2.1 0, 400, .inl f_blows)), (a_downs, .inl (X.2.1 0, 48, .inl f_downs)), (a_forwards, .inl (X.2.1 0, 48, .inl f_forwards)), (a_homes, .inl (X.2.1 0, 2, .inl f_homes)), (a_judgeMany, .inl (X.2.1 0, 2, .inl f_judgeMany)), (a_judges, .inl (X.2.1 0, 112, .inl f_judges)), (a_nextWays, .inl (X.2.1 1, 601, .inr (.inl f_nextWays))), (a_noises, .inl (X.2.1 0, 2, .inl f_noises)), (a_roundMany, .inl (X.2.1 0, 2, .inl f_roundMany)), (a_takens, .inl (X.2.1 0, 48, .inl f_takens)), (a_tallies, .inl (X.2.1 1, 9, .inr (.inl f_tallies))), (a_ways, .inl (X.2.1 1, 601, .inr (.inl f_ways)))]) hx hb hml hts hown hG hA hP hD rfl hS hl.1 (qX11_cardAs l X l11 o44 ho44) (va_cwS (y := yX11_cardAs) 1 hts gX11_coins_X11_cardAs rfl rfl rfl hdsX11_cardAs ⟨Nat.le_of_ble_eq_true rfl, Nat.le_of_ble_eq_true rfl⟩) [] [0, 1, 2, 3, 4, 5, 6, 7, 8, 9, 10, 11, 12, 13] [0, 1, 2, 3, 4, 5, 6, 7, 8, 9, 10, 11, 12, 13] rfl rfl rfl rfl rfl rfl rfl rfl rfl (Nat.le_of_ble_eq_true rfl) ⟨Nat.le_of_ble_eq_true rfl, Nat.le_of_ble_eq_true rfl⟩ dX11_coins_148 (fun H locs hP _ hS => ?_)
        refine lv_iload hx hb dX11_coins_151 (lv_at hl 7 rfl) ?_
        obtain ⟨o46, ho46, hf⟩ := ob_s hf
        refine xS_i (As := [.int l12]) (rest := [.int o44, .int o42]) (ws2 := [(a_this, .inr (11, [.int i_length, .ref a_text, .ref a_roundMany, .ref a_blowMany, .ref a_blows, .ref a_forwards, .ref a_downs, .ref a_takens, .ref a_homes, .ref a_noises, .ref a_judgeMany, .ref a_judges, .ref a_delays, .ref a_tolds, .ref a_tens, .int i_keptMany, .int i_place, .ref a_told, .ref a_ways, .ref a_nextWays, .ref a_tallies, .ref a_presses, .ref a_values, .ref a_nextValues])), (a_blowMany, .inl (X.2.1 0, 2, .inl f_blowMany)), (a_blows, .inl (X.2.1 0, 400, .inl f_blows)), (a_downs, .inl (X.2.1 0, 48, .inl f_downs)), (a_forwards, .inl (X.2.1 0, 48, .inl f_forwards)), (a_homes, .inl (X.2.1 0, 2, .inl f_homes)), (a_judgeMany, .inl (X.2.1 0, 2, .inl f_judgeMany)), (a_judges, .inl (X.2.1 0, 112, .inl f_judges)), (a_nextWays, .inl (X.2.1 1, 601, .inr (.inl f_nextWays))), (a_noises, .inl (X.2.1 0, 2, .inl f_noises)), (a_roundMany, .inl (X.2.1 0, 2, .inl f_roundMany)), (a_takens, .inl (X.2.1 0, 48, .inl f_takens)), (a_tallies, .inl (X.2.1 1, 9, .inr (.inl f_tallies))), (a_ways, .inl (X.2.1 1, 601, .inr (.inl f_ways)))]) hx hb hml hts hown hG hA hP hD rfl hS hl.1 (qX11_cardAs l X l12 o46 ho46) (va_cwS (y := yX11_cardAs) 1 hts gX11_coins_X11_cardAs rfl rfl rfl hdsX11_cardAs ⟨Nat.le_of_ble_eq_true rfl, Nat.le_of_ble_eq_true rfl⟩) [] [0, 1, 2, 3, 4, 5, 6, 7, 8, 9, 10, 11, 12, 13] [0, 1, 2, 3, 4, 5, 6, 7, 8, 9, 10, 11, 12, 13] rfl rfl rfl rfl rfl rfl rfl rfl rfl (Nat.le_of_ble_eq_true rfl) ⟨Nat.le_of_ble_eq_true rfl, Nat.le_of_ble_eq_true rfl⟩ dX11_coins_153 (fun H locs hP _ hS => ?_)
        obtain ⟨o48, ho48, hf⟩ := ob_s hf
        refine xS_i (As := [.int o42, .int o44, .int o46]) (rest := []) (ws2 := [(a_this, .inr (11, [.int i_length, .ref a_text, .ref a_roundMany, .ref a_blowMany, .ref a_blows, .ref a_forwards, .ref a_downs, .ref a_takens, .ref a_homes, .ref a_noises, .ref a_judgeMany, .ref a_judges, .ref a_delays, .ref a_tolds, .ref a_tens, .int i_keptMany, .int i_place, .ref a_told, .ref a_ways, .ref a_nextWays, .ref a_tallies, .ref a_presses, .ref a_values, .ref a_nextValues])), (a_blowMany, .inl (X.2.1 0, 2, .inl f_blowMany)), (a_blows, .inl (X.2.1 0, 400, .inl f_blows)), (a_downs, .inl (X.2.1 0, 48, .inl f_downs)), (a_forwards, .inl (X.2.1 0, 48, .inl f_forwards)), (a_homes, .inl (X.2.1 0, 2, .inl f_homes)), (a_judgeMany, .inl (X.2.1 0, 2, .inl f_judgeMany)), (a_judges, .inl (X.2.1 0, 112, .inl f_judges)), (a_nextWays, .inl (X.2.1 1, 601, .inr (.inl f_nextWays))), (a_noises, .inl (X.2.1 0, 2, .inl f_noises)), (a_roundMany, .inl (X.2.1 0, 2, .inl f_roundMany)), (a_takens, .inl (X.2.1 0, 48, .inl f_takens)), (a_tallies, .inl (X.2.1 1, 9, .inr (.inl f_tallies))), (a_ways, .inl (X.2.1 1, 601, .inr (.inl f_ways)))]) hx hb hml hts hown hG hA hP hD rfl hS hl.1 (qX11_whoBy l X o42 o44 o46 o48 ho48) (va_cwS (y := yX11_whoBy) 3 hts gX11_coins_X11_whoBy rfl rfl rfl hdsX11_whoBy ⟨Nat.le_of_ble_eq_true rfl, Nat.le_of_ble_eq_true rfl⟩) [] [0, 1, 2, 3, 4, 5, 6, 7, 8, 9, 10, 11, 12, 13] [0, 1, 2, 3, 4, 5, 6, 7, 8, 9, 10, 11, 12, 13] rfl rfl rfl rfl rfl rfl rfl rfl rfl (Nat.le_of_ble_eq_true rfl) ⟨Nat.le_of_ble_eq_true rfl, Nat.le_of_ble_eq_true rfl⟩ dX11_coins_156 (fun H locs hP _ hS => ?_)
        refine lv_iload hx hb dX11_coins_159 (lv_at hl 1 rfl) ?_
        refine lv_icmp_ne (tgt := 168) hx hb dX11_coins_161 (by decide) (fun c50 => ?_) (fun c50 => ?_)
        · have hf := xf hf c50
          refine lv_iconst (v := (0 : Int32)) hx hb dX11_coins_168 (by decide) ?_
          exact hB169 k117 hk117 k126 hk126 k135 ih l7 l8 l10 l11 l12 (0 : Int32) f_ways f_nextWays f_tallies  H _ ls hP  hS (lv_sub hl [0, 1, 2, 3, 4, 5, 6, 7] rfl) hf
        · have hf := xt hf c50
          refine lv_iconst (v := (1 : Int32)) hx hb dX11_coins_164 (by decide) ?_
          refine lv_goto (tgt := 169) hx hb dX11_coins_165 (by decide) ?_
          exact hB169 k117 hk117 k126 hk126 k135 ih l7 l8 l10 l11 l12 (1 : Int32) f_ways f_nextWays f_tallies  H _ ls hP  hS (lv_sub hl [0, 1, 2, 3, 4, 5, 6, 7] rfl) hf
  have hL126 : ∀ (k117 : Int32 → Int64 → Int32 → (Nat → Int64) → (Nat → Int64) → (Nat → Int64) → Option (Int64 × (Nat → Int64) × (Nat → Int64) × (Nat → Int64))) (hk117 : ∀ (l7 : Int32) (l8 : Int64) (l10 : Int32) (f_ways : Nat → Int64) (f_nextWays : Nat → Int64) (f_tallies : Nat → Int64)  (H : Heap) (locs : List Loc) (ls : Array Slot), va_P X.1 vwCl [(a_this, .inr (11, [.int i_length, .ref a_text, .ref a_roundMany, .ref a_blowMany, .ref a_blows, .ref a_forwards, .ref a_downs, .ref a_takens, .ref a_homes, .ref a_noises, .ref a_judgeMany, .ref a_judges, .ref a_delays, .ref a_tolds, .ref a_tens, .int i_keptMany, .int i_place, .ref a_told, .ref a_ways, .ref a_nextWays, .ref a_tallies, .ref a_presses, .ref a_values, .ref a_nextValues])), (a_blowMany, .inl (X.2.1 0, 2, .inl f_blowMany)), (a_blows, .inl (X.2.1 0, 400, .inl f_blows)), (a_downs, .inl (X.2.1 0, 48, .inl f_downs)), (a_forwards, .inl (X.2.1 0, 48, .inl f_forwards)), (a_homes, .inl (X.2.1 0, 2, .inl f_homes)), (a_judgeMany, .inl (X.2.1 0, 2, .inl f_judgeMany)), (a_judges, .inl (X.2.1 0, 112, .inl f_judges)), (a_nextWays, .inl (X.2.1 1, 601, .inr (.inl f_nextWays))), (a_noises, .inl (X.2.1 0, 2, .inl f_noises)), (a_roundMany, .inl (X.2.1 0, 2, .inl f_roundMany)), (a_takens, .inl (X.2.1 0, 48, .inl f_takens)), (a_tallies, .inl (X.2.1 1, 9, .inr (.inl f_tallies))), (a_ways, .inl (X.2.1 1, 601, .inr (.inl f_ways)))] H → va_S A s.heap H locs → lv_has ls 14 [(0, .ref a_this), (5, .int x4), (6, .int x5), (7, .int l7), (8, .long l8), (10, .int l10)] → k117 l7 l8 l10 f_ways f_nextWays f_tallies = some o → W p l e rmX11_coins s m ([.ref a_this, .int x0, .int x1, .int x2, .int x3, .int x4, .int x5] : List Value).toArray below meth c H locs 0 0 Q (F0 m 117 ls [])) (n : Nat) (l7 : Int32) (l8 : Int64) (l10 : Int32) (l11 : Int32) (f_ways : Nat → Int64) (f_nextWays : Nat → Int64) (f_tallies : Nat → Int64)  (H : Heap) (locs : List Loc) (ls : Array Slot), va_P X.1 vwCl [(a_this, .inr (11, [.int i_length, .ref a_text, .ref a_roundMany, .ref a_blowMany, .ref a_blows, .ref a_forwards, .ref a_downs, .ref a_takens, .ref a_homes, .ref a_noises, .ref a_judgeMany, .ref a_judges, .ref a_delays, .ref a_tolds, .ref a_tens, .int i_keptMany, .int i_place, .ref a_told, .ref a_ways, .ref a_nextWays, .ref a_tallies, .ref a_presses, .ref a_values, .ref a_nextValues])), (a_blowMany, .inl (X.2.1 0, 2, .inl f_blowMany)), (a_blows, .inl (X.2.1 0, 400, .inl f_blows)), (a_downs, .inl (X.2.1 0, 48, .inl f_downs)), (a_forwards, .inl (X.2.1 0, 48, .inl f_forwards)), (a_homes, .inl (X.2.1 0, 2, .inl f_homes)), (a_judgeMany, .inl (X.2.1 0, 2, .inl f_judgeMany)), (a_judges, .inl (X.2.1 0, 112, .inl f_judges)), (a_nextWays, .inl (X.2.1 1, 601, .inr (.inl f_nextWays))), (a_noises, .inl (X.2.1 0, 2, .inl f_noises)), (a_roundMany, .inl (X.2.1 0, 2, .inl f_roundMany)), (a_takens, .inl (X.2.1 0, 48, .inl f_takens)), (a_tallies, .inl (X.2.1 1, 9, .inr (.inl f_tallies))), (a_ways, .inl (X.2.1 1, 601, .inr (.inl f_ways)))] H → va_S A s.heap H locs → lv_has ls 14 [(0, .ref a_this), (5, .int x4), (6, .int x5), (7, .int l7), (8, .long l8), (10, .int l10), (11, .int l11)] → mX11_coins_L126 x0 x1 x2 x3 x4 x5 f_blowMany f_blows f_downs f_forwards f_homes f_judgeMany f_judges f_noises f_roundMany f_takens k117 n l7 l8 l10 l11 f_ways f_nextWays f_tallies = some o → W p l e rmX11_coins s m ([.ref a_this, .int x0, .int x1, .int x2, .int x3, .int x4, .int x5] : List Value).toArray below meth c H locs 0 0 Q (F0 m 126 ls []) := by
    intro k117 hk117 n
    induction n with
    | zero => intro l7 l8 l10 l11 f_ways f_nextWays f_tallies  H locs ls hP hS hl hf; exact xn hf
    | succ n ih =>
      intro l7 l8 l10 l11 f_ways f_nextWays f_tallies  H locs ls hP hS hl hf
      have hf : mX11_coins_B126 x0 x1 x2 x3 x4 x5 f_blowMany f_blows f_downs f_forwards f_homes f_judgeMany f_judges f_noises f_roundMany f_takens k117 (mX11_coins_L126 x0 x1 x2 x3 x4 x5 f_blowMany f_blows f_downs f_forwards f_homes f_judgeMany f_judges f_noises f_roundMany f_takens k117 n) l7 l8 l10 l11 f_ways f_nextWays f_tallies = some o := hf
      generalize mX11_coins_L126 x0 x1 x2 x3 x4 x5 f_blowMany f_blows f_downs f_forwards f_homes f_judgeMany f_judges f_noises f_roundMany f_takens k117 n = k126 at ih hf
      unfold mX11_coins_B126 at hf
      refine lv_iload hx hb dX11_coins_126 (lv_at hl 6 rfl) ?_
      refine lv_iconst (v := (3 : Int32)) hx hb dX11_coins_128 (by decide) ?_
      refine lv_icmp_ge (tgt := 225) hx hb dX11_coins_129 (by decide) (fun c38 => ?_) (fun c38 => ?_)
      · have hf := xt hf c38
        obtain ⟨v39, ev39, hf⟩ := lb_g hf
        refine lv_iinc (v := v39) (lv' := [(10, .int v39), (0, .ref a_this), (5, .int x4), (6, .int x5), (7, .int l7), (8, .long l8), (11, .int l11)]) hx hb dX11_coins_225 hl (k := 5) rfl ev39.symm (by decide) rfl (fun ls hl => ?_)
        refine lv_goto (tgt := 117) hx hb dX11_coins_228 (by decide) ?_
        exact hk117 l7 l8 v39 f_ways f_nextWays f_tallies  H _ ls hP  hS (lv_sub hl [1, 2, 3, 4, 5, 0] rfl) hf
      · have hf := xf hf c38
        refine lv_iconst (v := (0 : Int32)) hx hb dX11_coins_132 (by decide) ?_
        refine lv_istore (lv' := [(12, .int (0 : Int32)), (0, .ref a_this), (5, .int x4), (6, .int x5), (7, .int l7), (8, .long l8), (10, .int l10), (11, .int l11)]) hx hb dX11_coins_133 hl (by decide) rfl (fun ls hl => ?_)
        exact hL135 k117 hk117 k126 ih FUEL l7 l8 l10 l11 (0 : Int32) f_ways f_nextWays f_tallies  H _ ls hP  hS (lv_sub hl [1, 2, 3, 4, 5, 6, 7, 0] rfl) hf
  have hL117 : ∀ (n : Nat) (l7 : Int32) (l8 : Int64) (l10 : Int32) (f_ways : Nat → Int64) (f_nextWays : Nat → Int64) (f_tallies : Nat → Int64)  (H : Heap) (locs : List Loc) (ls : Array Slot), va_P X.1 vwCl [(a_this, .inr (11, [.int i_length, .ref a_text, .ref a_roundMany, .ref a_blowMany, .ref a_blows, .ref a_forwards, .ref a_downs, .ref a_takens, .ref a_homes, .ref a_noises, .ref a_judgeMany, .ref a_judges, .ref a_delays, .ref a_tolds, .ref a_tens, .int i_keptMany, .int i_place, .ref a_told, .ref a_ways, .ref a_nextWays, .ref a_tallies, .ref a_presses, .ref a_values, .ref a_nextValues])), (a_blowMany, .inl (X.2.1 0, 2, .inl f_blowMany)), (a_blows, .inl (X.2.1 0, 400, .inl f_blows)), (a_downs, .inl (X.2.1 0, 48, .inl f_downs)), (a_forwards, .inl (X.2.1 0, 48, .inl f_forwards)), (a_homes, .inl (X.2.1 0, 2, .inl f_homes)), (a_judgeMany, .inl (X.2.1 0, 2, .inl f_judgeMany)), (a_judges, .inl (X.2.1 0, 112, .inl f_judges)), (a_nextWays, .inl (X.2.1 1, 601, .inr (.inl f_nextWays))), (a_noises, .inl (X.2.1 0, 2, .inl f_noises)), (a_roundMany, .inl (X.2.1 0, 2, .inl f_roundMany)), (a_takens, .inl (X.2.1 0, 48, .inl f_takens)), (a_tallies, .inl (X.2.1 1, 9, .inr (.inl f_tallies))), (a_ways, .inl (X.2.1 1, 601, .inr (.inl f_ways)))] H → va_S A s.heap H locs → lv_has ls 14 [(0, .ref a_this), (5, .int x4), (6, .int x5), (7, .int l7), (8, .long l8), (10, .int l10)] → mX11_coins_L117 x0 x1 x2 x3 x4 x5 f_blowMany f_blows f_downs f_forwards f_homes f_judgeMany f_judges f_noises f_roundMany f_takens  n l7 l8 l10 f_ways f_nextWays f_tallies = some o → W p l e rmX11_coins s m ([.ref a_this, .int x0, .int x1, .int x2, .int x3, .int x4, .int x5] : List Value).toArray below meth c H locs 0 0 Q (F0 m 117 ls []) := by
    intro n
    induction n with
    | zero => intro l7 l8 l10 f_ways f_nextWays f_tallies  H locs ls hP hS hl hf; exact xn hf
    | succ n ih =>
      intro l7 l8 l10 f_ways f_nextWays f_tallies  H locs ls hP hS hl hf
      have hf : mX11_coins_B117 x0 x1 x2 x3 x4 x5 f_blowMany f_blows f_downs f_forwards f_homes f_judgeMany f_judges f_noises f_roundMany f_takens  (mX11_coins_L117 x0 x1 x2 x3 x4 x5 f_blowMany f_blows f_downs f_forwards f_homes f_judgeMany f_judges f_noises f_roundMany f_takens  n) l7 l8 l10 f_ways f_nextWays f_tallies = some o := hf
      generalize mX11_coins_L117 x0 x1 x2 x3 x4 x5 f_blowMany f_blows f_downs f_forwards f_homes f_judgeMany f_judges f_noises f_roundMany f_takens  n = k117 at ih hf
      unfold mX11_coins_B117 at hf
      refine lv_iload hx hb dX11_coins_117 (lv_at hl 5 rfl) ?_
      refine lv_iconst (v := (3 : Int32)) hx hb dX11_coins_119 (by decide) ?_
      refine lv_icmp_ge (tgt := 231) hx hb dX11_coins_120 (by decide) (fun c29 => ?_) (fun c29 => ?_)
      · have hf := xt hf c29
        refine lv_lconst (v := (1 : Int64)) hx hb dX11_coins_231 rfl ?_
        refine lv_iload hx hb dX11_coins_232 (lv_at hl 3 rfl) ?_
        refine lv_lshl hx hb dX11_coins_234 rfl ?_
        refine lv_topl (fun v30 ev30 => ?_)
        have hf := lb_s hf ev30
        refine lv_lstore (lv' := [(10, .long v30), (0, .ref a_this), (5, .int x4), (6, .int x5), (7, .int l7), (8, .long l8)]) hx hb dX11_coins_235 hl (by decide) rfl (fun ls hl => ?_)
        refine lv_lload hx hb dX11_coins_237 (lv_at hl 5 rfl) ?_
        refine lv_lload hx hb dX11_coins_239 (lv_at hl 0 rfl) ?_
        obtain ⟨o31, ho31, hf⟩ := ob_s hf
        refine xS_l (As := [.long l8, .long v30]) (rest := []) (ws2 := [(a_this, .inr (11, [.int i_length, .ref a_text, .ref a_roundMany, .ref a_blowMany, .ref a_blows, .ref a_forwards, .ref a_downs, .ref a_takens, .ref a_homes, .ref a_noises, .ref a_judgeMany, .ref a_judges, .ref a_delays, .ref a_tolds, .ref a_tens, .int i_keptMany, .int i_place, .ref a_told, .ref a_ways, .ref a_nextWays, .ref a_tallies, .ref a_presses, .ref a_values, .ref a_nextValues])), (a_blowMany, .inl (X.2.1 0, 2, .inl f_blowMany)), (a_blows, .inl (X.2.1 0, 400, .inl f_blows)), (a_downs, .inl (X.2.1 0, 48, .inl f_downs)), (a_forwards, .inl (X.2.1 0, 48, .inl f_forwards)), (a_homes, .inl (X.2.1 0, 2, .inl f_homes)), (a_judgeMany, .inl (X.2.1 0, 2, .inl f_judgeMany)), (a_judges, .inl (X.2.1 0, 112, .inl f_judges)), (a_nextWays, .inl (X.2.1 1, 601, .inr (.inl f_nextWays))), (a_noises, .inl (X.2.1 0, 2, .inl f_noises)), (a_roundMany, .inl (X.2.1 0, 2, .inl f_roundMany)), (a_takens, .inl (X.2.1 0, 48, .inl f_takens)), (a_tallies, .inl (X.2.1 1, 9, .inr (.inl f_tallies))), (a_ways, .inl (X.2.1 1, 601, .inr (.inl f_ways)))]) hx hb hml hts hown hG hA hP hD rfl hS hl.1 (qX11_common l X l8 v30 o31 ho31) (va_cwS (y := yX11_common) 2 hts gX11_coins_X11_common rfl rfl rfl hdsX11_common ⟨Nat.le_of_ble_eq_true rfl, Nat.le_of_ble_eq_true rfl⟩) [] [0, 1, 2, 3, 4, 5, 6, 7, 8, 9, 10, 11, 12, 13] [0, 1, 2, 3, 4, 5, 6, 7, 8, 9, 10, 11, 12, 13] rfl rfl rfl rfl rfl rfl rfl rfl rfl (Nat.le_of_ble_eq_true rfl) ⟨Nat.le_of_ble_eq_true rfl, Nat.le_of_ble_eq_true rfl⟩ dX11_coins_241 (fun H locs hP _ hS => ?_)
        refine lv_lstore (lv' := [(12, .long o31), (10, .long v30), (0, .ref a_this), (5, .int x4), (6, .int x5), (7, .int l7), (8, .long l8)]) hx hb dX11_coins_244 hl (by decide) rfl (fun ls hl => ?_)
        refine lv_iload hx hb dX11_coins_246 (lv_at hl 4 rfl) ?_
        refine lv_if_ne (tgt := 259) hx hb dX11_coins_248 (by decide) (fun c33 => ?_) (fun c33 => ?_)
        · have hf := xf hf c33
          refine lv_lload hx hb dX11_coins_259 (lv_at hl 1 rfl) ?_
          refine lv_lload hx hb dX11_coins_261 (lv_at hl 0 rfl) ?_
          obtain ⟨h34, hf⟩ := gd_s hf
          refine lv_ldiv hx hb dX11_coins_263 h34 ?_
          refine lv_topl (fun v35 ev35 => ?_)
          have hf := lb_s hf ev35
          obtain rfl := Option.some.inj hf
          exact ret H _ ls _ hP hD hS dX11_coins_264
        · have hf := xt hf c33
          refine lv_lload hx hb dX11_coins_251 (lv_at hl 6 rfl) ?_
          refine lv_lload hx hb dX11_coins_253 (lv_at hl 0 rfl) ?_
          obtain ⟨h36, hf⟩ := gd_s hf
          refine lv_ldiv hx hb dX11_coins_255 h36 ?_
          refine lv_goto (tgt := 264) hx hb dX11_coins_256 (by decide) ?_
          refine lv_topl (fun v37 ev37 => ?_)
          have hf := lb_s hf ev37
          obtain rfl := Option.some.inj hf
          exact ret H _ ls _ hP hD hS dX11_coins_264
      · have hf := xf hf c29
        refine lv_iconst (v := (0 : Int32)) hx hb dX11_coins_123 (by decide) ?_
        refine lv_istore (lv' := [(11, .int (0 : Int32)), (0, .ref a_this), (5, .int x4), (6, .int x5), (7, .int l7), (8, .long l8), (10, .int l10)]) hx hb dX11_coins_124 hl (by decide) rfl (fun ls hl => ?_)
        exact hL126 k117 ih FUEL l7 l8 l10 (0 : Int32) f_ways f_nextWays f_tallies  H _ ls hP  hS (lv_sub hl [1, 2, 3, 4, 5, 6, 0] rfl) hf
  have hB50 : ∀ (s0 : Int64) (s1 : Int64) (s2 : Int64) (f_ways : Nat → Int64) (f_nextWays : Nat → Int64) (f_tallies : Nat → Int64)  (H : Heap) (locs : List Loc) (ls : Array Slot), va_P X.1 vwCl [(a_this, .inr (11, [.int i_length, .ref a_text, .ref a_roundMany, .ref a_blowMany, .ref a_blows, .ref a_forwards, .ref a_downs, .ref a_takens, .ref a_homes, .ref a_noises, .ref a_judgeMany, .ref a_judges, .ref a_delays, .ref a_tolds, .ref a_tens, .int i_keptMany, .int i_place, .ref a_told, .ref a_ways, .ref a_nextWays, .ref a_tallies, .ref a_presses, .ref a_values, .ref a_nextValues])), (a_blowMany, .inl (X.2.1 0, 2, .inl f_blowMany)), (a_blows, .inl (X.2.1 0, 400, .inl f_blows)), (a_downs, .inl (X.2.1 0, 48, .inl f_downs)), (a_forwards, .inl (X.2.1 0, 48, .inl f_forwards)), (a_homes, .inl (X.2.1 0, 2, .inl f_homes)), (a_judgeMany, .inl (X.2.1 0, 2, .inl f_judgeMany)), (a_judges, .inl (X.2.1 0, 112, .inl f_judges)), (a_nextWays, .inl (X.2.1 1, 601, .inr (.inl f_nextWays))), (a_noises, .inl (X.2.1 0, 2, .inl f_noises)), (a_roundMany, .inl (X.2.1 0, 2, .inl f_roundMany)), (a_takens, .inl (X.2.1 0, 48, .inl f_takens)), (a_tallies, .inl (X.2.1 1, 9, .inr (.inl f_tallies))), (a_ways, .inl (X.2.1 1, 601, .inr (.inl f_ways)))] H → va_S A s.heap H locs → lv_has ls 14 [(0, .ref a_this), (1, .int x0), (2, .int x1), (3, .int x2), (4, .int x3), (5, .int x4), (6, .int x5)] → mX11_coins_B50 x0 x1 x2 x3 x4 x5 f_blowMany f_blows f_downs f_forwards f_homes f_judgeMany f_judges f_noises f_roundMany f_takens  s0 s1 s2 f_ways f_nextWays f_tallies = some o → W p l e rmX11_coins s m ([.ref a_this, .int x0, .int x1, .int x2, .int x3, .int x4, .int x5] : List Value).toArray below meth c H locs 0 0 Q (F0 m 50 ls [.long s2, .long s1, .long s0]) := by
    intro s0 s1 s2 f_ways f_nextWays f_tallies  H locs ls hP hS hl hf
    unfold mX11_coins_B50 at hf
    obtain ⟨o11, ho11, hf⟩ := ob_s hf
    refine xS_i (As := [.long s0, .long s1, .long s2]) (rest := []) (ws2 := [(a_this, .inr (11, [.int i_length, .ref a_text, .ref a_roundMany, .ref a_blowMany, .ref a_blows, .ref a_forwards, .ref a_downs, .ref a_takens, .ref a_homes, .ref a_noises, .ref a_judgeMany, .ref a_judges, .ref a_delays, .ref a_tolds, .ref a_tens, .int i_keptMany, .int i_place, .ref a_told, .ref a_ways, .ref a_nextWays, .ref a_tallies, .ref a_presses, .ref a_values, .ref a_nextValues])), (a_blowMany, .inl (X.2.1 0, 2, .inl f_blowMany)), (a_blows, .inl (X.2.1 0, 400, .inl f_blows)), (a_downs, .inl (X.2.1 0, 48, .inl f_downs)), (a_forwards, .inl (X.2.1 0, 48, .inl f_forwards)), (a_homes, .inl (X.2.1 0, 2, .inl f_homes)), (a_judgeMany, .inl (X.2.1 0, 2, .inl f_judgeMany)), (a_judges, .inl (X.2.1 0, 112, .inl f_judges)), (a_nextWays, .inl (X.2.1 1, 601, .inr (.inl f_nextWays))), (a_noises, .inl (X.2.1 0, 2, .inl f_noises)), (a_roundMany, .inl (X.2.1 0, 2, .inl f_roundMany)), (a_takens, .inl (X.2.1 0, 48, .inl f_takens)), (a_tallies, .inl (X.2.1 1, 9, .inr (.inl f_tallies))), (a_ways, .inl (X.2.1 1, 601, .inr (.inl f_ways)))]) hx hb hml hts hown hG hA hP hD rfl hS hl.1 (qX11_in l X s0 s1 s2 o11 ho11) (va_cwS (y := yX11_in) 3 hts gX11_coins_X11_in rfl rfl rfl hdsX11_in ⟨Nat.le_of_ble_eq_true rfl, Nat.le_of_ble_eq_true rfl⟩) [] [0, 1, 2, 3, 4, 5, 6, 7, 8, 9, 10, 11, 12, 13] [0, 1, 2, 3, 4, 5, 6, 7, 8, 9, 10, 11, 12, 13] rfl rfl rfl rfl rfl rfl rfl rfl rfl (Nat.le_of_ble_eq_true rfl) ⟨Nat.le_of_ble_eq_true rfl, Nat.le_of_ble_eq_true rfl⟩ dX11_coins_50 (fun H locs hP _ hS => ?_)
    refine lv_if_ne (tgt := 60) hx hb dX11_coins_53 (by decide) (fun c13 => ?_) (fun c13 => ?_)
    · have hf := xf hf c13
      refine lv_aload_n hx hb dX11_coins_60 rfl (lv_at hl 0 rfl) ?_
      refine lv_iload_n hx hb dX11_coins_61 rfl (lv_at hl 2 rfl) ?_
      obtain ⟨o14, ho14, hf⟩ := ob_s hf
      refine xV_i (As := [.int x1]) (b := a_this) (rest := []) (ws2 := [(a_this, .inr (11, [.int i_length, .ref a_text, .ref a_roundMany, .ref a_blowMany, .ref a_blows, .ref a_forwards, .ref a_downs, .ref a_takens, .ref a_homes, .ref a_noises, .ref a_judgeMany, .ref a_judges, .ref a_delays, .ref a_tolds, .ref a_tens, .int i_keptMany, .int i_place, .ref a_told, .ref a_ways, .ref a_nextWays, .ref a_tallies, .ref a_presses, .ref a_values, .ref a_nextValues])), (a_blowMany, .inl (X.2.1 0, 2, .inl f_blowMany)), (a_blows, .inl (X.2.1 0, 400, .inl f_blows)), (a_downs, .inl (X.2.1 0, 48, .inl f_downs)), (a_forwards, .inl (X.2.1 0, 48, .inl f_forwards)), (a_homes, .inl (X.2.1 0, 2, .inl f_homes)), (a_judgeMany, .inl (X.2.1 0, 2, .inl f_judgeMany)), (a_judges, .inl (X.2.1 0, 112, .inl f_judges)), (a_nextWays, .inl (X.2.1 1, 601, .inr (.inl f_nextWays))), (a_noises, .inl (X.2.1 0, 2, .inl f_noises)), (a_roundMany, .inl (X.2.1 0, 2, .inl f_roundMany)), (a_takens, .inl (X.2.1 0, 48, .inl f_takens)), (a_tallies, .inl (X.2.1 1, 9, .inr (.inl f_tallies))), (a_ways, .inl (X.2.1 1, 601, .inr (.inl f_ways)))]) hx hb hml hts hown hG hA hP hD rfl hS hl.1 (qX11_coinsOf l X a_this a_blowMany a_blows a_forwards a_homes a_judges a_noises a_roundMany a_text a_downs a_takens a_judgeMany a_delays a_tolds a_tens a_told a_ways a_nextWays a_tallies a_presses a_values a_nextValues i_length i_keptMany i_place f_blowMany f_blows f_forwards f_homes f_judges f_noises f_roundMany x1 o14 ho14) (cwV (y := yX11_coinsOf) 1 hts gX11_coins_X11_coinsOf rfl rfl rfl hdvX11_coinsOf ⟨Nat.le_of_ble_eq_true rfl, Nat.le_of_ble_eq_true rfl⟩) [0, 1, 2, 4, 5, 7, 9, 10] [3, 6, 8, 11, 12, 13] [6, 7, 8, 0, 9, 10, 1, 11, 2, 12, 13, 3, 4, 5] rfl rfl rfl rfl rfl rfl rfl (ci := 11) rfl 0 rfl rfl rfl (Nat.le_of_ble_eq_true rfl) ⟨Nat.le_of_ble_eq_true rfl, Nat.le_of_ble_eq_true rfl⟩ dX11_coins_62 (fun H locs hP _ hS => ?_)
      refine lv_aload_n hx hb dX11_coins_65 rfl (lv_at hl 0 rfl) ?_
      refine lv_iload_n hx hb dX11_coins_66 rfl (lv_at hl 3 rfl) ?_
      obtain ⟨o16, ho16, hf⟩ := ob_s hf
      refine xV_i (As := [.int x2]) (b := a_this) (rest := [.int o14]) (ws2 := [(a_this, .inr (11, [.int i_length, .ref a_text, .ref a_roundMany, .ref a_blowMany, .ref a_blows, .ref a_forwards, .ref a_downs, .ref a_takens, .ref a_homes, .ref a_noises, .ref a_judgeMany, .ref a_judges, .ref a_delays, .ref a_tolds, .ref a_tens, .int i_keptMany, .int i_place, .ref a_told, .ref a_ways, .ref a_nextWays, .ref a_tallies, .ref a_presses, .ref a_values, .ref a_nextValues])), (a_blowMany, .inl (X.2.1 0, 2, .inl f_blowMany)), (a_blows, .inl (X.2.1 0, 400, .inl f_blows)), (a_downs, .inl (X.2.1 0, 48, .inl f_downs)), (a_forwards, .inl (X.2.1 0, 48, .inl f_forwards)), (a_homes, .inl (X.2.1 0, 2, .inl f_homes)), (a_judgeMany, .inl (X.2.1 0, 2, .inl f_judgeMany)), (a_judges, .inl (X.2.1 0, 112, .inl f_judges)), (a_nextWays, .inl (X.2.1 1, 601, .inr (.inl f_nextWays))), (a_noises, .inl (X.2.1 0, 2, .inl f_noises)), (a_roundMany, .inl (X.2.1 0, 2, .inl f_roundMany)), (a_takens, .inl (X.2.1 0, 48, .inl f_takens)), (a_tallies, .inl (X.2.1 1, 9, .inr (.inl f_tallies))), (a_ways, .inl (X.2.1 1, 601, .inr (.inl f_ways)))]) hx hb hml hts hown hG hA hP hD rfl hS hl.1 (qX11_coinsOf l X a_this a_blowMany a_blows a_forwards a_homes a_judges a_noises a_roundMany a_text a_downs a_takens a_judgeMany a_delays a_tolds a_tens a_told a_ways a_nextWays a_tallies a_presses a_values a_nextValues i_length i_keptMany i_place f_blowMany f_blows f_forwards f_homes f_judges f_noises f_roundMany x2 o16 ho16) (cwV (y := yX11_coinsOf) 1 hts gX11_coins_X11_coinsOf rfl rfl rfl hdvX11_coinsOf ⟨Nat.le_of_ble_eq_true rfl, Nat.le_of_ble_eq_true rfl⟩) [0, 1, 2, 4, 5, 7, 9, 10] [3, 6, 8, 11, 12, 13] [6, 7, 8, 0, 9, 10, 1, 11, 2, 12, 13, 3, 4, 5] rfl rfl rfl rfl rfl rfl rfl (ci := 11) rfl 0 rfl rfl rfl (Nat.le_of_ble_eq_true rfl) ⟨Nat.le_of_ble_eq_true rfl, Nat.le_of_ble_eq_true rfl⟩ dX11_coins_67 (fun H locs hP _ hS => ?_)
      refine lv_iadd hx hb dX11_coins_70 ?_
      refine lv_aload_n hx hb dX11_coins_71 rfl (lv_at hl 0 rfl) ?_
      refine lv_iload hx hb dX11_coins_72 (lv_at hl 4 rfl) ?_
      obtain ⟨o18, ho18, hf⟩ := ob_s hf
      refine xV_i (As := [.int x3]) (b := a_this) (rest := [.int (o14 + o16)]) (ws2 := [(a_this, .inr (11, [.int i_length, .ref a_text, .ref a_roundMany, .ref a_blowMany, .ref a_blows, .ref a_forwards, .ref a_downs, .ref a_takens, .ref a_homes, .ref a_noises, .ref a_judgeMany, .ref a_judges, .ref a_delays, .ref a_tolds, .ref a_tens, .int i_keptMany, .int i_place, .ref a_told, .ref a_ways, .ref a_nextWays, .ref a_tallies, .ref a_presses, .ref a_values, .ref a_nextValues])), (a_blowMany, .inl (X.2.1 0, 2, .inl f_blowMany)), (a_blows, .inl (X.2.1 0, 400, .inl f_blows)), (a_downs, .inl (X.2.1 0, 48, .inl f_downs)), (a_forwards, .inl (X.2.1 0, 48, .inl f_forwards)), (a_homes, .inl (X.2.1 0, 2, .inl f_homes)), (a_judgeMany, .inl (X.2.1 0, 2, .inl f_judgeMany)), (a_judges, .inl (X.2.1 0, 112, .inl f_judges)), (a_nextWays, .inl (X.2.1 1, 601, .inr (.inl f_nextWays))), (a_noises, .inl (X.2.1 0, 2, .inl f_noises)), (a_roundMany, .inl (X.2.1 0, 2, .inl f_roundMany)), (a_takens, .inl (X.2.1 0, 48, .inl f_takens)), (a_tallies, .inl (X.2.1 1, 9, .inr (.inl f_tallies))), (a_ways, .inl (X.2.1 1, 601, .inr (.inl f_ways)))]) hx hb hml hts hown hG hA hP hD rfl hS hl.1 (qX11_coinsOf l X a_this a_blowMany a_blows a_forwards a_homes a_judges a_noises a_roundMany a_text a_downs a_takens a_judgeMany a_delays a_tolds a_tens a_told a_ways a_nextWays a_tallies a_presses a_values a_nextValues i_length i_keptMany i_place f_blowMany f_blows f_forwards f_homes f_judges f_noises f_roundMany x3 o18 ho18) (cwV (y := yX11_coinsOf) 1 hts gX11_coins_X11_coinsOf rfl rfl rfl hdvX11_coinsOf ⟨Nat.le_of_ble_eq_true rfl, Nat.le_of_ble_eq_true rfl⟩) [0, 1, 2, 4, 5, 7, 9, 10] [3, 6, 8, 11, 12, 13] [6, 7, 8, 0, 9, 10, 1, 11, 2, 12, 13, 3, 4, 5] rfl rfl rfl rfl rfl rfl rfl (ci := 11) rfl 0 rfl rfl rfl (Nat.le_of_ble_eq_true rfl) ⟨Nat.le_of_ble_eq_true rfl, Nat.le_of_ble_eq_true rfl⟩ dX11_coins_74 (fun H locs hP _ hS => ?_)
      refine lv_iadd hx hb dX11_coins_77 ?_
      refine lv_topi (fun v20 ev20 => ?_)
      have hf := lb_s hf ev20
      refine lv_istore (lv' := [(7, .int v20), (0, .ref a_this), (1, .int x0), (2, .int x1), (3, .int x2), (4, .int x3), (5, .int x4), (6, .int x5)]) hx hb dX11_coins_78 hl (by decide) rfl (fun ls hl => ?_)
      refine lv_iload hx hb dX11_coins_80 (lv_at hl 6 rfl) ?_
      refine lv_if_ge (tgt := 89) hx hb dX11_coins_82 (by decide) (fun c21 => ?_) (fun c21 => ?_)
      · have hf := xt hf c21
        refine lv_aload_n hx hb dX11_coins_89 rfl (lv_at hl 1 rfl) ?_
        refine lv_iload_n hx hb dX11_coins_90 rfl (lv_at hl 2 rfl) ?_
        refine lv_iload_n hx hb dX11_coins_91 rfl (lv_at hl 3 rfl) ?_
        refine lv_iconst (v := (0 : Int32)) hx hb dX11_coins_92 (by decide) ?_
        obtain ⟨o22, ho22, hf⟩ := ob_s hf
        refine xV_v (As := [.int x0, .int x1, .int (0 : Int32)]) (b := a_this) (rest := []) (ws2 := fun _ => [(a_this, .inr (11, [.int i_length, .ref a_text, .ref a_roundMany, .ref a_blowMany, .ref a_blows, .ref a_forwards, .ref a_downs, .ref a_takens, .ref a_homes, .ref a_noises, .ref a_judgeMany, .ref a_judges, .ref a_delays, .ref a_tolds, .ref a_tens, .int i_keptMany, .int i_place, .ref a_told, .ref a_ways, .ref a_nextWays, .ref a_tallies, .ref a_presses, .ref a_values, .ref a_nextValues])), (a_blowMany, .inl (X.2.1 0, 2, .inl f_blowMany)), (a_blows, .inl (X.2.1 0, 400, .inl f_blows)), (a_downs, .inl (X.2.1 0, 48, .inl f_downs)), (a_forwards, .inl (X.2.1 0, 48, .inl f_forwards)), (a_homes, .inl (X.2.1 0, 2, .inl f_homes)), (a_judgeMany, .inl (X.2.1 0, 2, .inl f_judgeMany)), (a_judges, .inl (X.2.1 0, 112, .inl f_judges)), (a_nextWays, .inl (X.2.1 1, 601, .inr (.inl o22.2.1))), (a_noises, .inl (X.2.1 0, 2, .inl f_noises)), (a_roundMany, .inl (X.2.1 0, 2, .inl f_roundMany)), (a_takens, .inl (X.2.1 0, 48, .inl f_takens)), (a_tallies, .inl (X.2.1 1, 9, .inr (.inl o22.2.2))), (a_ways, .inl (X.2.1 1, 601, .inr (.inl o22.1)))]) hx hb hml hts hown hG hA hP hD rfl hS hl.1 (qX11_layWays l X a_this a_blowMany a_blows a_downs a_forwards a_homes a_judges a_nextWays a_noises a_roundMany a_takens a_tallies a_ways a_text a_judgeMany a_delays a_tolds a_tens a_told a_presses a_values a_nextValues i_length i_keptMany i_place f_blowMany f_blows f_downs f_forwards f_homes f_judges f_nextWays f_noises f_roundMany f_takens f_tallies f_ways x0 x1 (0 : Int32) o22 ho22) (cwV (y := yX11_layWays) 3 hts gX11_coins_X11_layWays rfl rfl rfl hdvX11_layWays ⟨Nat.le_of_ble_eq_true rfl, Nat.le_of_ble_eq_true rfl⟩) [0, 1, 2, 3, 4, 5, 7, 8, 9, 10, 11, 12, 13] [6] [1, 2, 3, 4, 5, 6, 0, 7, 8, 9, 10, 11, 12, 13] rfl rfl rfl rfl rfl rfl (fun _ => rfl) (ci := 11) rfl 0 rfl rfl rfl (Nat.le_of_ble_eq_true rfl) ⟨Nat.le_of_ble_eq_true rfl, Nat.le_of_ble_eq_true rfl⟩ dX11_coins_93 (fun u23 H locs hP _ hS => ?_)
        refine lv_aload_n hx hb dX11_coins_96 rfl (lv_at hl 1 rfl) ?_
        refine lv_iload_n hx hb dX11_coins_97 rfl (lv_at hl 2 rfl) ?_
        refine lv_iload_n hx hb dX11_coins_98 rfl (lv_at hl 4 rfl) ?_
        refine lv_iconst (v := (1 : Int32)) hx hb dX11_coins_99 (by decide) ?_
        obtain ⟨o24, ho24, hf⟩ := ob_s hf
        refine xV_v (As := [.int x0, .int x2, .int (1 : Int32)]) (b := a_this) (rest := []) (ws2 := fun _ => [(a_this, .inr (11, [.int i_length, .ref a_text, .ref a_roundMany, .ref a_blowMany, .ref a_blows, .ref a_forwards, .ref a_downs, .ref a_takens, .ref a_homes, .ref a_noises, .ref a_judgeMany, .ref a_judges, .ref a_delays, .ref a_tolds, .ref a_tens, .int i_keptMany, .int i_place, .ref a_told, .ref a_ways, .ref a_nextWays, .ref a_tallies, .ref a_presses, .ref a_values, .ref a_nextValues])), (a_blowMany, .inl (X.2.1 0, 2, .inl f_blowMany)), (a_blows, .inl (X.2.1 0, 400, .inl f_blows)), (a_downs, .inl (X.2.1 0, 48, .inl f_downs)), (a_forwards, .inl (X.2.1 0, 48, .inl f_forwards)), (a_homes, .inl (X.2.1 0, 2, .inl f_homes)), (a_judgeMany, .inl (X.2.1 0, 2, .inl f_judgeMany)), (a_judges, .inl (X.2.1 0, 112, .inl f_judges)), (a_nextWays, .inl (X.2.1 1, 601, .inr (.inl o24.2.1))), (a_noises, .inl (X.2.1 0, 2, .inl f_noises)), (a_roundMany, .inl (X.2.1 0, 2, .inl f_roundMany)), (a_takens, .inl (X.2.1 0, 48, .inl f_takens)), (a_tallies, .inl (X.2.1 1, 9, .inr (.inl o24.2.2))), (a_ways, .inl (X.2.1 1, 601, .inr (.inl o24.1)))]) hx hb hml hts hown hG hA hP hD rfl hS hl.1 (qX11_layWays l X a_this a_blowMany a_blows a_downs a_forwards a_homes a_judges a_nextWays a_noises a_roundMany a_takens a_tallies a_ways a_text a_judgeMany a_delays a_tolds a_tens a_told a_presses a_values a_nextValues i_length i_keptMany i_place f_blowMany f_blows f_downs f_forwards f_homes f_judges o22.2.1 f_noises f_roundMany f_takens o22.2.2 o22.1 x0 x2 (1 : Int32) o24 ho24) (cwV (y := yX11_layWays) 3 hts gX11_coins_X11_layWays rfl rfl rfl hdvX11_layWays ⟨Nat.le_of_ble_eq_true rfl, Nat.le_of_ble_eq_true rfl⟩) [0, 1, 2, 3, 4, 5, 7, 8, 9, 10, 11, 12, 13] [6] [1, 2, 3, 4, 5, 6, 0, 7, 8, 9, 10, 11, 12, 13] rfl rfl rfl rfl rfl rfl (fun _ => rfl) (ci := 11) rfl 0 rfl rfl rfl (Nat.le_of_ble_eq_true rfl) ⟨Nat.le_of_ble_eq_true rfl, Nat.le_of_ble_eq_true rfl⟩ dX11_coins_100 (fun u25 H locs hP _ hS => ?_)
        refine lv_aload_n hx hb dX11_coins_103 rfl (lv_at hl 1 rfl) ?_
        refine lv_iload_n hx hb dX11_coins_104 rfl (lv_at hl 2 rfl) ?_
        refine lv_iload hx hb dX11_coins_105 (lv_at hl 5 rfl) ?_
        refine lv_iconst (v := (2 : Int32)) hx hb dX11_coins_107 (by decide) ?_
        obtain ⟨o26, ho26, hf⟩ := ob_s hf
        refine xV_v (As := [.int x0, .int x3, .int (2 : Int32)]) (b := a_this) (rest := []) (ws2 := fun _ => [(a_this, .inr (11, [.int i_length, .ref a_text, .ref a_roundMany, .ref a_blowMany, .ref a_blows, .ref a_forwards, .ref a_downs, .ref a_takens, .ref a_homes, .ref a_noises, .ref a_judgeMany, .ref a_judges, .ref a_delays, .ref a_tolds, .ref a_tens, .int i_keptMany, .int i_place, .ref a_told, .ref a_ways, .ref a_nextWays, .ref a_tallies, .ref a_presses, .ref a_values, .ref a_nextValues])), (a_blowMany, .inl (X.2.1 0, 2, .inl f_blowMany)), (a_blows, .inl (X.2.1 0, 400, .inl f_blows)), (a_downs, .inl (X.2.1 0, 48, .inl f_downs)), (a_forwards, .inl (X.2.1 0, 48, .inl f_forwards)), (a_homes, .inl (X.2.1 0, 2, .inl f_homes)), (a_judgeMany, .inl (X.2.1 0, 2, .inl f_judgeMany)), (a_judges, .inl (X.2.1 0, 112, .inl f_judges)), (a_nextWays, .inl (X.2.1 1, 601, .inr (.inl o26.2.1))), (a_noises, .inl (X.2.1 0, 2, .inl f_noises)), (a_roundMany, .inl (X.2.1 0, 2, .inl f_roundMany)), (a_takens, .inl (X.2.1 0, 48, .inl f_takens)), (a_tallies, .inl (X.2.1 1, 9, .inr (.inl o26.2.2))), (a_ways, .inl (X.2.1 1, 601, .inr (.inl o26.1)))]) hx hb hml hts hown hG hA hP hD rfl hS hl.1 (qX11_layWays l X a_this a_blowMany a_blows a_downs a_forwards a_homes a_judges a_nextWays a_noises a_roundMany a_takens a_tallies a_ways a_text a_judgeMany a_delays a_tolds a_tens a_told a_presses a_values a_nextValues i_length i_keptMany i_place f_blowMany f_blows f_downs f_forwards f_homes f_judges o24.2.1 f_noises f_roundMany f_takens o24.2.2 o24.1 x0 x3 (2 : Int32) o26 ho26) (cwV (y := yX11_layWays) 3 hts gX11_coins_X11_layWays rfl rfl rfl hdvX11_layWays ⟨Nat.le_of_ble_eq_true rfl, Nat.le_of_ble_eq_true rfl⟩) [0, 1, 2, 3, 4, 5, 7, 8, 9, 10, 11, 12, 13] [6] [1, 2, 3, 4, 5, 6, 0, 7, 8, 9, 10, 11, 12, 13] rfl rfl rfl rfl rfl rfl (fun _ => rfl) (ci := 11) rfl 0 rfl rfl rfl (Nat.le_of_ble_eq_true rfl) ⟨Nat.le_of_ble_eq_true rfl, Nat.le_of_ble_eq_true rfl⟩ dX11_coins_108 (fun u27 H locs hP _ hS => ?_)
        refine lv_lconst (v := (0 : Int64)) hx hb dX11_coins_111 rfl ?_
        refine lv_lstore (lv' := [(8, .long (0 : Int64)), (7, .int v20), (0, .ref a_this), (1, .int x0), (2, .int x1), (3, .int x2), (4, .int x3), (5, .int x4), (6, .int x5)]) hx hb dX11_coins_112 hl (by decide) rfl (fun ls hl => ?_)
        refine lv_iconst (v := (0 : Int32)) hx hb dX11_coins_114 (by decide) ?_
        refine lv_istore (lv' := [(10, .int (0 : Int32)), (8, .long (0 : Int64)), (7, .int v20), (0, .ref a_this), (1, .int x0), (2, .int x1), (3, .int x2), (4, .int x3), (5, .int x4), (6, .int x5)]) hx hb dX11_coins_115 hl (by decide) rfl (fun ls hl => ?_)
        exact hL117  FUEL v20 (0 : Int64) (0 : Int32) o26.1 o26.2.1 o26.2.2  H _ ls hP  hS (lv_sub hl [3, 8, 9, 2, 1, 0] rfl) hf
      · have hf := xf hf c21
        refine lv_iload hx hb dX11_coins_85 (lv_at hl 0 rfl) ?_
        refine lv_i2l hx hb dX11_coins_87 rfl ?_
        refine lv_topl (fun v28 ev28 => ?_)
        have hf := lb_s hf ev28
        obtain rfl := Option.some.inj hf
        exact ret H _ ls _ hP hD hS dX11_coins_88
    · have hf := xt hf c13
      refine lv_ldc2 (v := (-1 : Int64)) hx hb hown w1 dX11_coins_56 ?_
      obtain rfl := Option.some.inj hf
      exact ret H _ ls _ hP hD hS dX11_coins_59
  unfold mX11_coins at hf
  refine lv_iload_n hx hb dX11_coins_0 rfl (lv_at hl 1 rfl) ?_
  refine lv_i2l hx hb dX11_coins_1 rfl ?_
  refine lv_lconst (v := (0 : Int64)) hx hb dX11_coins_2 rfl ?_
  refine lv_lconst (v := (1 : Int64)) hx hb dX11_coins_3 rfl ?_
  obtain ⟨o1, ho1, hf⟩ := ob_s hf
  refine xS_i (As := [.long (Int32.toInt64 x0), .long (0 : Int64), .long (1 : Int64)]) (rest := []) (ws2 := [(a_this, .inr (11, [.int i_length, .ref a_text, .ref a_roundMany, .ref a_blowMany, .ref a_blows, .ref a_forwards, .ref a_downs, .ref a_takens, .ref a_homes, .ref a_noises, .ref a_judgeMany, .ref a_judges, .ref a_delays, .ref a_tolds, .ref a_tens, .int i_keptMany, .int i_place, .ref a_told, .ref a_ways, .ref a_nextWays, .ref a_tallies, .ref a_presses, .ref a_values, .ref a_nextValues])), (a_blowMany, .inl (X.2.1 0, 2, .inl f_blowMany)), (a_blows, .inl (X.2.1 0, 400, .inl f_blows)), (a_downs, .inl (X.2.1 0, 48, .inl f_downs)), (a_forwards, .inl (X.2.1 0, 48, .inl f_forwards)), (a_homes, .inl (X.2.1 0, 2, .inl f_homes)), (a_judgeMany, .inl (X.2.1 0, 2, .inl f_judgeMany)), (a_judges, .inl (X.2.1 0, 112, .inl f_judges)), (a_nextWays, .inl (X.2.1 1, 601, .inr (.inl f_nextWays))), (a_noises, .inl (X.2.1 0, 2, .inl f_noises)), (a_roundMany, .inl (X.2.1 0, 2, .inl f_roundMany)), (a_takens, .inl (X.2.1 0, 48, .inl f_takens)), (a_tallies, .inl (X.2.1 1, 9, .inr (.inl f_tallies))), (a_ways, .inl (X.2.1 1, 601, .inr (.inl f_ways)))]) hx hb hml hts hown hG hA hP hD rfl hS hl.1 (qX11_in l X (Int32.toInt64 x0) (0 : Int64) (1 : Int64) o1 ho1) (va_cwS (y := yX11_in) 3 hts gX11_coins_X11_in rfl rfl rfl hdsX11_in ⟨Nat.le_of_ble_eq_true rfl, Nat.le_of_ble_eq_true rfl⟩) [] [0, 1, 2, 3, 4, 5, 6, 7, 8, 9, 10, 11, 12, 13] [0, 1, 2, 3, 4, 5, 6, 7, 8, 9, 10, 11, 12, 13] rfl rfl rfl rfl rfl rfl rfl rfl rfl (Nat.le_of_ble_eq_true rfl) ⟨Nat.le_of_ble_eq_true rfl, Nat.le_of_ble_eq_true rfl⟩ dX11_coins_4 (fun H locs hP _ hS => ?_)
  refine lv_if_eq (tgt := 56) hx hb dX11_coins_7 (by decide) (fun c3 => ?_) (fun c3 => ?_)
  · have hf := xt hf c3
    refine lv_ldc2 (v := (-1 : Int64)) hx hb hown w1 dX11_coins_56 ?_
    obtain rfl := Option.some.inj hf
    exact ret H _ ls _ hP hD hS dX11_coins_59
  · have hf := xf hf c3
    refine lv_aload_n hx hb dX11_coins_10 rfl (lv_at hl 0 rfl) ?_
    refine lv_iload_n hx hb dX11_coins_11 rfl (lv_at hl 2 rfl) ?_
    refine lv_iload_n hx hb dX11_coins_12 rfl (lv_at hl 3 rfl) ?_
    refine lv_iload hx hb dX11_coins_13 (lv_at hl 4 rfl) ?_
    obtain ⟨o4, ho4, hf⟩ := ob_s hf
    refine xV_i (As := [.int x1, .int x2, .int x3]) (b := a_this) (rest := []) (ws2 := [(a_this, .inr (11, [.int i_length, .ref a_text, .ref a_roundMany, .ref a_blowMany, .ref a_blows, .ref a_forwards, .ref a_downs, .ref a_takens, .ref a_homes, .ref a_noises, .ref a_judgeMany, .ref a_judges, .ref a_delays, .ref a_tolds, .ref a_tens, .int i_keptMany, .int i_place, .ref a_told, .ref a_ways, .ref a_nextWays, .ref a_tallies, .ref a_presses, .ref a_values, .ref a_nextValues])), (a_blowMany, .inl (X.2.1 0, 2, .inl f_blowMany)), (a_blows, .inl (X.2.1 0, 400, .inl f_blows)), (a_downs, .inl (X.2.1 0, 48, .inl f_downs)), (a_forwards, .inl (X.2.1 0, 48, .inl f_forwards)), (a_homes, .inl (X.2.1 0, 2, .inl f_homes)), (a_judgeMany, .inl (X.2.1 0, 2, .inl f_judgeMany)), (a_judges, .inl (X.2.1 0, 112, .inl f_judges)), (a_nextWays, .inl (X.2.1 1, 601, .inr (.inl f_nextWays))), (a_noises, .inl (X.2.1 0, 2, .inl f_noises)), (a_roundMany, .inl (X.2.1 0, 2, .inl f_roundMany)), (a_takens, .inl (X.2.1 0, 48, .inl f_takens)), (a_tallies, .inl (X.2.1 1, 9, .inr (.inl f_tallies))), (a_ways, .inl (X.2.1 1, 601, .inr (.inl f_ways)))]) hx hb hml hts hown hG hA hP hD rfl hS hl.1 (qX11_areThree l X a_this a_judgeMany a_text a_roundMany a_blowMany a_blows a_forwards a_downs a_takens a_homes a_noises a_judges a_delays a_tolds a_tens a_told a_ways a_nextWays a_tallies a_presses a_values a_nextValues i_length i_keptMany i_place f_judgeMany x1 x2 x3 o4 ho4) (cwV (y := yX11_areThree) 3 hts gX11_coins_X11_areThree rfl rfl rfl hdvX11_areThree ⟨Nat.le_of_ble_eq_true rfl, Nat.le_of_ble_eq_true rfl⟩) [0, 6] [1, 2, 3, 4, 5, 7, 8, 9, 10, 11, 12, 13] [12, 0, 1, 2, 3, 4, 13, 5, 6, 7, 8, 9, 10, 11] rfl rfl rfl rfl rfl rfl rfl (ci := 11) rfl 0 rfl rfl rfl (Nat.le_of_ble_eq_true rfl) ⟨Nat.le_of_ble_eq_true rfl, Nat.le_of_ble_eq_true rfl⟩ dX11_coins_15 (fun H locs hP _ hS => ?_)
    refine lv_if_eq (tgt := 56) hx hb dX11_coins_18 (by decide) (fun c6 => ?_) (fun c6 => ?_)
    · have hf := xt hf c6
      refine lv_ldc2 (v := (-1 : Int64)) hx hb hown w1 dX11_coins_56 ?_
      obtain rfl := Option.some.inj hf
      exact ret H _ ls _ hP hD hS dX11_coins_59
    · have hf := xf hf c6
      refine lv_iload hx hb dX11_coins_21 (lv_at hl 5 rfl) ?_
      refine lv_i2l hx hb dX11_coins_23 rfl ?_
      refine lv_ldc2 (v := (-1 : Int64)) hx hb hown w1 dX11_coins_24 ?_
      refine lv_ldc2 (v := (2 : Int64)) hx hb hown w2 dX11_coins_27 ?_
      obtain ⟨o7, ho7, hf⟩ := ob_s hf
      refine xS_i (As := [.long (Int32.toInt64 x4), .long (-1 : Int64), .long (2 : Int64)]) (rest := []) (ws2 := [(a_this, .inr (11, [.int i_length, .ref a_text, .ref a_roundMany, .ref a_blowMany, .ref a_blows, .ref a_forwards, .ref a_downs, .ref a_takens, .ref a_homes, .ref a_noises, .ref a_judgeMany, .ref a_judges, .ref a_delays, .ref a_tolds, .ref a_tens, .int i_keptMany, .int i_place, .ref a_told, .ref a_ways, .ref a_nextWays, .ref a_tallies, .ref a_presses, .ref a_values, .ref a_nextValues])), (a_blowMany, .inl (X.2.1 0, 2, .inl f_blowMany)), (a_blows, .inl (X.2.1 0, 400, .inl f_blows)), (a_downs, .inl (X.2.1 0, 48, .inl f_downs)), (a_forwards, .inl (X.2.1 0, 48, .inl f_forwards)), (a_homes, .inl (X.2.1 0, 2, .inl f_homes)), (a_judgeMany, .inl (X.2.1 0, 2, .inl f_judgeMany)), (a_judges, .inl (X.2.1 0, 112, .inl f_judges)), (a_nextWays, .inl (X.2.1 1, 601, .inr (.inl f_nextWays))), (a_noises, .inl (X.2.1 0, 2, .inl f_noises)), (a_roundMany, .inl (X.2.1 0, 2, .inl f_roundMany)), (a_takens, .inl (X.2.1 0, 48, .inl f_takens)), (a_tallies, .inl (X.2.1 1, 9, .inr (.inl f_tallies))), (a_ways, .inl (X.2.1 1, 601, .inr (.inl f_ways)))]) hx hb hml hts hown hG hA hP hD rfl hS hl.1 (qX11_in l X (Int32.toInt64 x4) (-1 : Int64) (2 : Int64) o7 ho7) (va_cwS (y := yX11_in) 3 hts gX11_coins_X11_in rfl rfl rfl hdsX11_in ⟨Nat.le_of_ble_eq_true rfl, Nat.le_of_ble_eq_true rfl⟩) [] [0, 1, 2, 3, 4, 5, 6, 7, 8, 9, 10, 11, 12, 13] [0, 1, 2, 3, 4, 5, 6, 7, 8, 9, 10, 11, 12, 13] rfl rfl rfl rfl rfl rfl rfl rfl rfl (Nat.le_of_ble_eq_true rfl) ⟨Nat.le_of_ble_eq_true rfl, Nat.le_of_ble_eq_true rfl⟩ dX11_coins_30 (fun H locs hP _ hS => ?_)
      refine lv_if_eq (tgt := 56) hx hb dX11_coins_33 (by decide) (fun c9 => ?_) (fun c9 => ?_)
      · have hf := xt hf c9
        refine lv_ldc2 (v := (-1 : Int64)) hx hb hown w1 dX11_coins_56 ?_
        obtain rfl := Option.some.inj hf
        exact ret H _ ls _ hP hD hS dX11_coins_59
      · have hf := xf hf c9
        refine lv_iload hx hb dX11_coins_36 (lv_at hl 6 rfl) ?_
        refine lv_i2l hx hb dX11_coins_38 rfl ?_
        refine lv_lconst (v := (0 : Int64)) hx hb dX11_coins_39 rfl ?_
        refine lv_iload hx hb dX11_coins_40 (lv_at hl 5 rfl) ?_
        refine lv_if_ge (tgt := 49) hx hb dX11_coins_42 (by decide) (fun c10 => ?_) (fun c10 => ?_)
        · have hf := xt hf c10
          refine lv_lconst (v := (1 : Int64)) hx hb dX11_coins_49 rfl ?_
          exact hB50  (Int32.toInt64 x5) (0 : Int64) (1 : Int64) f_ways f_nextWays f_tallies  H _ ls hP  hS (lv_sub hl [0, 1, 2, 3, 4, 5, 6] rfl) hf
        · have hf := xf hf c10
          refine lv_lconst (v := (0 : Int64)) hx hb dX11_coins_45 rfl ?_
          refine lv_goto (tgt := 50) hx hb dX11_coins_46 (by decide) ?_
          exact hB50  (Int32.toInt64 x5) (0 : Int64) (0 : Int64) f_ways f_nextWays f_tallies  H _ ls hP  hS (lv_sub hl [0, 1, 2, 3, 4, 5, 6] rfl) hf
def mX11_unseenBy_B73 (x0 : Int32) (x1 : Int32) (x2 : Int32) (x3 : Int32) (f_blowMany : Nat → Int32) (f_blows : Nat → Int32) (f_roundMany : Nat → Int32) (k6 : Int32 → Int32 → Option (Int32)) (l5 : Int32) (l6 : Int32) (s0 : Int32) (s1 : Int32) :
  Option (Int32) :=
  lb (s0 + s1) fun v13 =>
  gi ((5 : Int32) * l6) 400 <|
  if (f_roundMany (0 : Int32).toNatClampNeg) ≤ (f_blows ((5 : Int32) * l6).toNatClampNeg) then (lb (l5 + (0 : Int32)) fun v16 =>
  lb (l6 + (1 : Int32)) fun v17 =>
  k6 v16 v17) else (if x3 ≤ v13 then (lb (l5 + (0 : Int32)) fun v19 =>
  lb (l6 + (1 : Int32)) fun v20 =>
  k6 v19 v20) else (lb (l5 + (1 : Int32)) fun v21 =>
  lb (l6 + (1 : Int32)) fun v22 =>
  k6 v21 v22))
def mX11_unseenBy_B58 (x0 : Int32) (x1 : Int32) (x2 : Int32) (x3 : Int32) (f_blowMany : Nat → Int32) (f_blows : Nat → Int32) (f_roundMany : Nat → Int32) (k6 : Int32 → Int32 → Option (Int32)) (l5 : Int32) (l6 : Int32) (l7 : Int32) (s0 : Int32) (s1 : Int32) :
  Option (Int32) :=
  (mX11_shows x2 l7).bind fun o10 =>
  if o10 = 0 then (mX11_unseenBy_B73 x0 x1 x2 x3 f_blowMany f_blows f_roundMany k6 l5 l6 (s0 + s1) (0 : Int32)) else (mX11_unseenBy_B73 x0 x1 x2 x3 f_blowMany f_blows f_roundMany k6 l5 l6 (s0 + s1) (1 : Int32))
def mX11_unseenBy_B44 (x0 : Int32) (x1 : Int32) (x2 : Int32) (x3 : Int32) (f_blowMany : Nat → Int32) (f_blows : Nat → Int32) (f_roundMany : Nat → Int32) (k6 : Int32 → Int32 → Option (Int32)) (l5 : Int32) (l6 : Int32) (l7 : Int32) (s0 : Int32) :
  Option (Int32) :=
  (mX11_shows x1 l7).bind fun o7 =>
  if o7 = 0 then (mX11_unseenBy_B58 x0 x1 x2 x3 f_blowMany f_blows f_roundMany k6 l5 l6 l7 s0 (0 : Int32)) else (mX11_unseenBy_B58 x0 x1 x2 x3 f_blowMany f_blows f_roundMany k6 l5 l6 l7 s0 (1 : Int32))
def mX11_unseenBy_B6 (x0 : Int32) (x1 : Int32) (x2 : Int32) (x3 : Int32) (f_blowMany : Nat → Int32) (f_blows : Nat → Int32) (f_roundMany : Nat → Int32) (k6 : Int32 → Int32 → Option (Int32)) (l5 : Int32) (l6 : Int32) :
  Option (Int32) :=
  if (f_blowMany (0 : Int32).toNatClampNeg) ≤ l6 then (some l5) else (gi (((5 : Int32) * l6) + (4 : Int32)) 400 <|
  lb (f_blows (((5 : Int32) * l6) + (4 : Int32)).toNatClampNeg) fun v3 =>
  (mX11_shows x0 v3).bind fun o4 =>
  if o4 = 0 then (mX11_unseenBy_B44 x0 x1 x2 x3 f_blowMany f_blows f_roundMany k6 l5 l6 v3 (0 : Int32)) else (mX11_unseenBy_B44 x0 x1 x2 x3 f_blowMany f_blows f_roundMany k6 l5 l6 v3 (1 : Int32)))
def mX11_unseenBy_L6 (x0 : Int32) (x1 : Int32) (x2 : Int32) (x3 : Int32) (f_blowMany : Nat → Int32) (f_blows : Nat → Int32) (f_roundMany : Nat → Int32) (n : Nat) (l5 : Int32) (l6 : Int32) :
  Option (Int32) :=
  loopN (fun k (s : Int32 × Int32) => mX11_unseenBy_B6 x0 x1 x2 x3 f_blowMany f_blows f_roundMany  (fun l5 l6 => k (l5, l6)) s.1 s.2) n (l5, l6)
def mX11_unseenBy (x0 : Int32) (x1 : Int32) (x2 : Int32) (x3 : Int32) (f_blowMany : Nat → Int32) (f_blows : Nat → Int32) (f_roundMany : Nat → Int32) :
  Option (Int32) :=
  mX11_unseenBy_L6 x0 x1 x2 x3 f_blowMany f_blows f_roundMany  FUEL (0 : Int32) (0 : Int32)
theorem hdsX11_unseenBy : yX11_unseenBy.cls ≠ "java/lang/invoke/MethodHandle" ∧ yX11_unseenBy.cls ≠ "java/lang/invoke/VarHandle" ∧ (parseMethodDescriptor yX11_unseenBy.desc).map (fun d => d.parameters.length) = some 4 := by decide +kernel
theorem hdvX11_unseenBy : yX11_unseenBy.cls = RX11 ∧ yX11_unseenBy.cls ≠ "java/lang/invoke/MethodHandle" ∧ yX11_unseenBy.cls ≠ "java/lang/invoke/VarHandle" ∧ (parseMethodDescriptor yX11_unseenBy.desc).map (fun d => d.parameters.length) = some 4 := by decide +kernel
abbrev rmX11_unseenBy : Room := { frames := 1, cells := 0, slots := 0, locals := 22 }
set_option maxHeartbeats 4000000 in
set_option maxRecDepth 100000 in
theorem qX11_unseenBy (l : Launch) (X : XT) (a_this : Nat) (a_blowMany : Nat) (a_blows : Nat) (a_roundMany : Nat) (a_text : Nat) (a_forwards : Nat) (a_downs : Nat) (a_takens : Nat) (a_homes : Nat) (a_noises : Nat) (a_judgeMany : Nat) (a_judges : Nat) (a_delays : Nat) (a_tolds : Nat) (a_tens : Nat) (a_told : Nat) (a_ways : Nat) (a_nextWays : Nat) (a_tallies : Nat) (a_presses : Nat) (a_values : Nat) (a_nextValues : Nat)  (i_length : Int32) (i_keptMany : Int32) (i_place : Int32) (f_blowMany : Nat → Int32) (f_blows : Nat → Int32) (f_roundMany : Nat → Int32) (x0 : Int32) (x1 : Int32) (x2 : Int32) (x3 : Int32) (o : Int32) (hf : mX11_unseenBy x0 x1 x2 x3 f_blowMany f_blows f_roundMany = some o) :
    MI l yX11_unseenBy wsX11_unseenBy rmX11_unseenBy X [.ref a_this, .int x0, .int x1, .int x2, .int x3] [(a_this, .inr (11, [.int i_length, .ref a_text, .ref a_roundMany, .ref a_blowMany, .ref a_blows, .ref a_forwards, .ref a_downs, .ref a_takens, .ref a_homes, .ref a_noises, .ref a_judgeMany, .ref a_judges, .ref a_delays, .ref a_tolds, .ref a_tens, .int i_keptMany, .int i_place, .ref a_told, .ref a_ways, .ref a_nextWays, .ref a_tallies, .ref a_presses, .ref a_values, .ref a_nextValues])), (a_blowMany, .inl (X.2.1 0, 2, .inl f_blowMany)), (a_blows, .inl (X.2.1 0, 400, .inl f_blows)), (a_roundMany, .inl (X.2.1 0, 2, .inl f_roundMany))]  [(a_this, .inr (11, [.int i_length, .ref a_text, .ref a_roundMany, .ref a_blowMany, .ref a_blows, .ref a_forwards, .ref a_downs, .ref a_takens, .ref a_homes, .ref a_noises, .ref a_judgeMany, .ref a_judges, .ref a_delays, .ref a_tolds, .ref a_tens, .int i_keptMany, .int i_place, .ref a_told, .ref a_ways, .ref a_nextWays, .ref a_tallies, .ref a_presses, .ref a_values, .ref a_nextValues])), (a_blowMany, .inl (X.2.1 0, 2, .inl f_blowMany)), (a_blows, .inl (X.2.1 0, 400, .inl f_blows)), (a_roundMany, .inl (X.2.1 0, 2, .inl f_roundMany))] o := by
  refine MI_ofH (cc := cX11_unseenBy) (maxL := 9) (rt := .int) (by decide) rfl (Nat.le_of_ble_eq_true rfl) ?_
  intro p e s m below meth c A Q H ls hx hb hml hts hown hA hD hG hP hS hl ret
  have hown : s.vm.findClass RX11 = some m.cls := hown
  have hD : aD A [a_this, a_blowMany, a_blows, a_roundMany] := hD
  have hl : lv_has ls 9 [(0, .ref a_this), (1, .int x0), (2, .int x1), (3, .int x2), (4, .int x3)] := hl
  have w1 := hts (.fieldLink RX11 16 "ThreeCardsModel" "blowMany" "[I") (List.mem_of_getElem? (i := 1) rfl)
  have w2 := hts (.fieldLink RX11 19 "ThreeCardsModel" "blows" "[I") (List.mem_of_getElem? (i := 2) rfl)
  have w3 := hts (.fieldLink RX11 13 "ThreeCardsModel" "roundMany" "[I") (List.mem_of_getElem? (i := 3) rfl)
  have in11 : ∀ w ∈ u_ws RX11 TX11 24, w ∈ wsX11_unseenBy := by decide +kernel
  have hB73 : ∀ (k6 : Int32 → Int32 → Option (Int32)) (hk6 : ∀ (l5 : Int32) (l6 : Int32)  (H : Heap) (locs : List Loc) (ls : Array Slot), va_P X.1 vwCl [(a_this, .inr (11, [.int i_length, .ref a_text, .ref a_roundMany, .ref a_blowMany, .ref a_blows, .ref a_forwards, .ref a_downs, .ref a_takens, .ref a_homes, .ref a_noises, .ref a_judgeMany, .ref a_judges, .ref a_delays, .ref a_tolds, .ref a_tens, .int i_keptMany, .int i_place, .ref a_told, .ref a_ways, .ref a_nextWays, .ref a_tallies, .ref a_presses, .ref a_values, .ref a_nextValues])), (a_blowMany, .inl (X.2.1 0, 2, .inl f_blowMany)), (a_blows, .inl (X.2.1 0, 400, .inl f_blows)), (a_roundMany, .inl (X.2.1 0, 2, .inl f_roundMany))] H → va_S A s.heap H locs → lv_has ls 9 [(0, .ref a_this), (1, .int x0), (2, .int x1), (3, .int x2), (4, .int x3), (5, .int l5), (6, .int l6)] → k6 l5 l6 = some o → W p l e rmX11_unseenBy s m ([.ref a_this, .int x0, .int x1, .int x2, .int x3] : List Value).toArray below meth c H locs 0 0 Q (F0 m 6 ls [])) (l5 : Int32) (l6 : Int32) (s0 : Int32) (s1 : Int32)  (H : Heap) (locs : List Loc) (ls : Array Slot), va_P X.1 vwCl [(a_this, .inr (11, [.int i_length, .ref a_text, .ref a_roundMany, .ref a_blowMany, .ref a_blows, .ref a_forwards, .ref a_downs, .ref a_takens, .ref a_homes, .ref a_noises, .ref a_judgeMany, .ref a_judges, .ref a_delays, .ref a_tolds, .ref a_tens, .int i_keptMany, .int i_place, .ref a_told, .ref a_ways, .ref a_nextWays, .ref a_tallies, .ref a_presses, .ref a_values, .ref a_nextValues])), (a_blowMany, .inl (X.2.1 0, 2, .inl f_blowMany)), (a_blows, .inl (X.2.1 0, 400, .inl f_blows)), (a_roundMany, .inl (X.2.1 0, 2, .inl f_roundMany))] H → va_S A s.heap H locs → lv_has ls 9 [(0, .ref a_this), (1, .int x0), (2, .int x1), (3, .int x2), (4, .int x3), (5, .int l5), (6, .int l6)] → mX11_unseenBy_B73 x0 x1 x2 x3 f_blowMany f_blows f_roundMany k6 l5 l6 s0 s1 = some o → W p l e rmX11_unseenBy s m ([.ref a_this, .int x0, .int x1, .int x2, .int x3] : List Value).toArray below meth c H locs 0 0 Q (F0 m 73 ls [.int s1, .int s0]) := by
    intro k6 hk6 l5 l6 s0 s1  H locs ls hP hS hl hf
    unfold mX11_unseenBy_B73 at hf
    refine lv_iadd hx hb dX11_unseenBy_73 ?_
    refine lv_topi (fun v13 ev13 => ?_)
    have hf := lb_s hf ev13
    refine lv_istore (lv' := [(8, .int v13), (0, .ref a_this), (1, .int x0), (2, .int x1), (3, .int x2), (4, .int x3), (5, .int l5), (6, .int l6)]) hx hb dX11_unseenBy_74 hl (by decide) rfl (fun ls hl => ?_)
    refine lv_iload hx hb dX11_unseenBy_76 (lv_at hl 6 rfl) ?_
    refine lv_aload_n hx hb dX11_unseenBy_78 rfl (lv_at hl 1 rfl) ?_
    refine va_get (D := X.1) (ci := 11) (v := .ref a_blows) (C := RX11) (T := TX11) (N := 24) hx hb hts in11 hown hG.1 hP 0 rfl rfl 4 (by decide) w2 (fun _ h9 => h9) rfl dX11_unseenBy_79 ?_
    refine lv_iconst (v := (5 : Int32)) hx hb dX11_unseenBy_82 (by decide) ?_
    refine lv_iload hx hb dX11_unseenBy_83 (lv_at hl 7 rfl) ?_
    refine lv_imul hx hb dX11_unseenBy_85 ?_
    obtain ⟨h14, hf⟩ := gi_s hf
    refine va_iald (D := X.1) hx hb hG.1 hP 2 0 rfl rfl h14 dX11_unseenBy_86 ?_
    refine lv_aload_n hx hb dX11_unseenBy_87 rfl (lv_at hl 1 rfl) ?_
    refine va_get (D := X.1) (ci := 11) (v := .ref a_roundMany) (C := RX11) (T := TX11) (N := 24) hx hb hts in11 hown hG.1 hP 0 rfl rfl 2 (by decide) w3 (fun _ h9 => h9) rfl dX11_unseenBy_88 ?_
    refine lv_iconst (v := (0 : Int32)) hx hb dX11_unseenBy_91 (by decide) ?_
    refine va_iald (D := X.1) hx hb hG.1 hP 3 0 rfl rfl (vp_lit (by decide)) dX11_unseenBy_92 ?_
    refine lv_icmp_ge (tgt := 107) hx hb dX11_unseenBy_93 (by decide) (fun c15 => ?_) (fun c15 => ?_)
    · have hf := xt hf c15
      refine lv_iconst (v := (0 : Int32)) hx hb dX11_unseenBy_107 (by decide) ?_
      refine lv_iadd hx hb dX11_unseenBy_108 ?_
      refine lv_topi (fun v16 ev16 => ?_)
      have hf := lb_s hf ev16
      refine lv_istore (lv' := [(5, .int v16), (8, .int v13), (0, .ref a_this), (1, .int x0), (2, .int x1), (3, .int x2), (4, .int x3), (6, .int l6)]) hx hb dX11_unseenBy_109 hl (by decide) rfl (fun ls hl => ?_)
      obtain ⟨v17, ev17, hf⟩ := lb_g hf
      refine lv_iinc (v := v17) (lv' := [(6, .int v17), (5, .int v16), (8, .int v13), (0, .ref a_this), (1, .int x0), (2, .int x1), (3, .int x2), (4, .int x3)]) hx hb dX11_unseenBy_111 hl (k := 7) rfl ev17.symm (by decide) rfl (fun ls hl => ?_)
      refine lv_goto (tgt := 6) hx hb dX11_unseenBy_114 (by decide) ?_
      exact hk6 v16 v17  H _ ls hP  hS (lv_sub hl [3, 4, 5, 6, 7, 1, 0] rfl) hf
    · have hf := xf hf c15
      refine lv_iload hx hb dX11_unseenBy_96 (lv_at hl 0 rfl) ?_
      refine lv_iload hx hb dX11_unseenBy_98 (lv_at hl 5 rfl) ?_
      refine lv_icmp_ge (tgt := 107) hx hb dX11_unseenBy_100 (by decide) (fun c18 => ?_) (fun c18 => ?_)
      · have hf := xt hf c18
        refine lv_iconst (v := (0 : Int32)) hx hb dX11_unseenBy_107 (by decide) ?_
        refine lv_iadd hx hb dX11_unseenBy_108 ?_
        refine lv_topi (fun v19 ev19 => ?_)
        have hf := lb_s hf ev19
        refine lv_istore (lv' := [(5, .int v19), (8, .int v13), (0, .ref a_this), (1, .int x0), (2, .int x1), (3, .int x2), (4, .int x3), (6, .int l6)]) hx hb dX11_unseenBy_109 hl (by decide) rfl (fun ls hl => ?_)
        obtain ⟨v20, ev20, hf⟩ := lb_g hf
        refine lv_iinc (v := v20) (lv' := [(6, .int v20), (5, .int v19), (8, .int v13), (0, .ref a_this), (1, .int x0), (2, .int x1), (3, .int x2), (4, .int x3)]) hx hb dX11_unseenBy_111 hl (k := 7) rfl ev20.symm (by decide) rfl (fun ls hl => ?_)
        refine lv_goto (tgt := 6) hx hb dX11_unseenBy_114 (by decide) ?_
        exact hk6 v19 v20  H _ ls hP  hS (lv_sub hl [3, 4, 5, 6, 7, 1, 0] rfl) hf
      · have hf := xf hf c18
        refine lv_iconst (v := (1 : Int32)) hx hb dX11_unseenBy_103 (by decide) ?_
        refine lv_goto (tgt := 108) hx hb dX11_unseenBy_104 (by decide) ?_
        refine lv_iadd hx hb dX11_unseenBy_108 ?_
        refine lv_topi (fun v21 ev21 => ?_)
        have hf := lb_s hf ev21
        refine lv_istore (lv' := [(5, .int v21), (8, .int v13), (0, .ref a_this), (1, .int x0), (2, .int x1), (3, .int x2), (4, .int x3), (6, .int l6)]) hx hb dX11_unseenBy_109 hl (by decide) rfl (fun ls hl => ?_)
        obtain ⟨v22, ev22, hf⟩ := lb_g hf
        refine lv_iinc (v := v22) (lv' := [(6, .int v22), (5, .int v21), (8, .int v13), (0, .ref a_this), (1, .int x0), (2, .int x1), (3, .int x2), (4, .int x3)]) hx hb dX11_unseenBy_111 hl (k := 7) rfl ev22.symm (by decide) rfl (fun ls hl => ?_)
        refine lv_goto (tgt := 6) hx hb dX11_unseenBy_114 (by decide) ?_
        exact hk6 v21 v22  H _ ls hP  hS (lv_sub hl [3, 4, 5, 6, 7, 1, 0] rfl) hf
  have hB58 : ∀ (k6 : Int32 → Int32 → Option (Int32)) (hk6 : ∀ (l5 : Int32) (l6 : Int32)  (H : Heap) (locs : List Loc) (ls : Array Slot), va_P X.1 vwCl [(a_this, .inr (11, [.int i_length, .ref a_text, .ref a_roundMany, .ref a_blowMany, .ref a_blows, .ref a_forwards, .ref a_downs, .ref a_takens, .ref a_homes, .ref a_noises, .ref a_judgeMany, .ref a_judges, .ref a_delays, .ref a_tolds, .ref a_tens, .int i_keptMany, .int i_place, .ref a_told, .ref a_ways, .ref a_nextWays, .ref a_tallies, .ref a_presses, .ref a_values, .ref a_nextValues])), (a_blowMany, .inl (X.2.1 0, 2, .inl f_blowMany)), (a_blows, .inl (X.2.1 0, 400, .inl f_blows)), (a_roundMany, .inl (X.2.1 0, 2, .inl f_roundMany))] H → va_S A s.heap H locs → lv_has ls 9 [(0, .ref a_this), (1, .int x0), (2, .int x1), (3, .int x2), (4, .int x3), (5, .int l5), (6, .int l6)] → k6 l5 l6 = some o → W p l e rmX11_unseenBy s m ([.ref a_this, .int x0, .int x1, .int x2, .int x3] : List Value).toArray below meth c H locs 0 0 Q (F0 m 6 ls [])) (l5 : Int32) (l6 : Int32) (l7 : Int32) (s0 : Int32) (s1 : Int32)  (H : Heap) (locs : List Loc) (ls : Array Slot), va_P X.1 vwCl [(a_this, .inr (11, [.int i_length, .ref a_text, .ref a_roundMany, .ref a_blowMany, .ref a_blows, .ref a_forwards, .ref a_downs, .ref a_takens, .ref a_homes, .ref a_noises, .ref a_judgeMany, .ref a_judges, .ref a_delays, .ref a_tolds, .ref a_tens, .int i_keptMany, .int i_place, .ref a_told, .ref a_ways, .ref a_nextWays, .ref a_tallies, .ref a_presses, .ref a_values, .ref a_nextValues])), (a_blowMany, .inl (X.2.1 0, 2, .inl f_blowMany)), (a_blows, .inl (X.2.1 0, 400, .inl f_blows)), (a_roundMany, .inl (X.2.1 0, 2, .inl f_roundMany))] H → va_S A s.heap H locs → lv_has ls 9 [(0, .ref a_this), (1, .int x0), (2, .int x1), (3, .int x2), (4, .int x3), (5, .int l5), (6, .int l6), (7, .int l7)] → mX11_unseenBy_B58 x0 x1 x2 x3 f_blowMany f_blows f_roundMany k6 l5 l6 l7 s0 s1 = some o → W p l e rmX11_unseenBy s m ([.ref a_this, .int x0, .int x1, .int x2, .int x3] : List Value).toArray below meth c H locs 0 0 Q (F0 m 58 ls [.int s1, .int s0]) := by
    intro k6 hk6 l5 l6 l7 s0 s1  H locs ls hP hS hl hf
    unfold mX11_unseenBy_B58 at hf
    refine lv_iadd hx hb dX11_unseenBy_58 ?_
    refine lv_iload_n hx hb dX11_unseenBy_59 rfl (lv_at hl 3 rfl) ?_
    refine lv_iload hx hb dX11_unseenBy_60 (lv_at hl 7 rfl) ?_
    obtain ⟨o10, ho10, hf⟩ := ob_s hf
    refine xS_i (As := [.int x2, .int l7]) (rest := [.int (s0 + s1)]) (ws2 := [(a_this, .inr (11, [.int i_length, .ref a_text, .ref a_roundMany, .ref a_blowMany, .ref a_blows, .ref a_forwards, .ref a_downs, .ref a_takens, .ref a_homes, .ref a_noises, .ref a_judgeMany, .ref a_judges, .ref a_delays, .ref a_tolds, .ref a_tens, .int i_keptMany, .int i_place, .ref a_told, .ref a_ways, .ref a_nextWays, .ref a_tallies, .ref a_presses, .ref a_values, .ref a_nextValues])), (a_blowMany, .inl (X.2.1 0, 2, .inl f_blowMany)), (a_blows, .inl (X.2.1 0, 400, .inl f_blows)), (a_roundMany, .inl (X.2.1 0, 2, .inl f_roundMany))]) hx hb hml hts hown hG hA hP hD rfl hS hl.1 (qX11_shows l X x2 l7 o10 ho10) (va_cwS (y := yX11_shows) 2 hts gX11_unseenBy_X11_shows rfl rfl rfl hdsX11_shows ⟨Nat.le_of_ble_eq_true rfl, Nat.le_of_ble_eq_true rfl⟩) [] [0, 1, 2, 3] [0, 1, 2, 3] rfl rfl rfl rfl rfl rfl rfl rfl rfl (Nat.le_of_ble_eq_true rfl) ⟨Nat.le_of_ble_eq_true rfl, Nat.le_of_ble_eq_true rfl⟩ dX11_unseenBy_62 (fun H locs hP _ hS => ?_)
    refine lv_if_eq (tgt := 72) hx hb dX11_unseenBy_65 (by decide) (fun c12 => ?_) (fun c12 => ?_)
    · have hf := xt hf c12
      refine lv_iconst (v := (0 : Int32)) hx hb dX11_unseenBy_72 (by decide) ?_
      exact hB73 k6 hk6 l5 l6 (s0 + s1) (0 : Int32)  H _ ls hP  hS (lv_sub hl [0, 1, 2, 3, 4, 5, 6] rfl) hf
    · have hf := xf hf c12
      refine lv_iconst (v := (1 : Int32)) hx hb dX11_unseenBy_68 (by decide) ?_
      refine lv_goto (tgt := 73) hx hb dX11_unseenBy_69 (by decide) ?_
      exact hB73 k6 hk6 l5 l6 (s0 + s1) (1 : Int32)  H _ ls hP  hS (lv_sub hl [0, 1, 2, 3, 4, 5, 6] rfl) hf
  have hB44 : ∀ (k6 : Int32 → Int32 → Option (Int32)) (hk6 : ∀ (l5 : Int32) (l6 : Int32)  (H : Heap) (locs : List Loc) (ls : Array Slot), va_P X.1 vwCl [(a_this, .inr (11, [.int i_length, .ref a_text, .ref a_roundMany, .ref a_blowMany, .ref a_blows, .ref a_forwards, .ref a_downs, .ref a_takens, .ref a_homes, .ref a_noises, .ref a_judgeMany, .ref a_judges, .ref a_delays, .ref a_tolds, .ref a_tens, .int i_keptMany, .int i_place, .ref a_told, .ref a_ways, .ref a_nextWays, .ref a_tallies, .ref a_presses, .ref a_values, .ref a_nextValues])), (a_blowMany, .inl (X.2.1 0, 2, .inl f_blowMany)), (a_blows, .inl (X.2.1 0, 400, .inl f_blows)), (a_roundMany, .inl (X.2.1 0, 2, .inl f_roundMany))] H → va_S A s.heap H locs → lv_has ls 9 [(0, .ref a_this), (1, .int x0), (2, .int x1), (3, .int x2), (4, .int x3), (5, .int l5), (6, .int l6)] → k6 l5 l6 = some o → W p l e rmX11_unseenBy s m ([.ref a_this, .int x0, .int x1, .int x2, .int x3] : List Value).toArray below meth c H locs 0 0 Q (F0 m 6 ls [])) (l5 : Int32) (l6 : Int32) (l7 : Int32) (s0 : Int32)  (H : Heap) (locs : List Loc) (ls : Array Slot), va_P X.1 vwCl [(a_this, .inr (11, [.int i_length, .ref a_text, .ref a_roundMany, .ref a_blowMany, .ref a_blows, .ref a_forwards, .ref a_downs, .ref a_takens, .ref a_homes, .ref a_noises, .ref a_judgeMany, .ref a_judges, .ref a_delays, .ref a_tolds, .ref a_tens, .int i_keptMany, .int i_place, .ref a_told, .ref a_ways, .ref a_nextWays, .ref a_tallies, .ref a_presses, .ref a_values, .ref a_nextValues])), (a_blowMany, .inl (X.2.1 0, 2, .inl f_blowMany)), (a_blows, .inl (X.2.1 0, 400, .inl f_blows)), (a_roundMany, .inl (X.2.1 0, 2, .inl f_roundMany))] H → va_S A s.heap H locs → lv_has ls 9 [(0, .ref a_this), (1, .int x0), (2, .int x1), (3, .int x2), (4, .int x3), (5, .int l5), (6, .int l6), (7, .int l7)] → mX11_unseenBy_B44 x0 x1 x2 x3 f_blowMany f_blows f_roundMany k6 l5 l6 l7 s0 = some o → W p l e rmX11_unseenBy s m ([.ref a_this, .int x0, .int x1, .int x2, .int x3] : List Value).toArray below meth c H locs 0 0 Q (F0 m 44 ls [.int s0]) := by
    intro k6 hk6 l5 l6 l7 s0  H locs ls hP hS hl hf
    unfold mX11_unseenBy_B44 at hf
    refine lv_iload_n hx hb dX11_unseenBy_44 rfl (lv_at hl 2 rfl) ?_
    refine lv_iload hx hb dX11_unseenBy_45 (lv_at hl 7 rfl) ?_
    obtain ⟨o7, ho7, hf⟩ := ob_s hf
    refine xS_i (As := [.int x1, .int l7]) (rest := [.int s0]) (ws2 := [(a_this, .inr (11, [.int i_length, .ref a_text, .ref a_roundMany, .ref a_blowMany, .ref a_blows, .ref a_forwards, .ref a_downs, .ref a_takens, .ref a_homes, .ref a_noises, .ref a_judgeMany, .ref a_judges, .ref a_delays, .ref a_tolds, .ref a_tens, .int i_keptMany, .int i_place, .ref a_told, .ref a_ways, .ref a_nextWays, .ref a_tallies, .ref a_presses, .ref a_values, .ref a_nextValues])), (a_blowMany, .inl (X.2.1 0, 2, .inl f_blowMany)), (a_blows, .inl (X.2.1 0, 400, .inl f_blows)), (a_roundMany, .inl (X.2.1 0, 2, .inl f_roundMany))]) hx hb hml hts hown hG hA hP hD rfl hS hl.1 (qX11_shows l X x1 l7 o7 ho7) (va_cwS (y := yX11_shows) 2 hts gX11_unseenBy_X11_shows rfl rfl rfl hdsX11_shows ⟨Nat.le_of_ble_eq_true rfl, Nat.le_of_ble_eq_true rfl⟩) [] [0, 1, 2, 3] [0, 1, 2, 3] rfl rfl rfl rfl rfl rfl rfl rfl rfl (Nat.le_of_ble_eq_true rfl) ⟨Nat.le_of_ble_eq_true rfl, Nat.le_of_ble_eq_true rfl⟩ dX11_unseenBy_47 (fun H locs hP _ hS => ?_)
    refine lv_if_eq (tgt := 57) hx hb dX11_unseenBy_50 (by decide) (fun c9 => ?_) (fun c9 => ?_)
    · have hf := xt hf c9
      refine lv_iconst (v := (0 : Int32)) hx hb dX11_unseenBy_57 (by decide) ?_
      exact hB58 k6 hk6 l5 l6 l7 s0 (0 : Int32)  H _ ls hP  hS (lv_sub hl [0, 1, 2, 3, 4, 5, 6, 7] rfl) hf
    · have hf := xf hf c9
      refine lv_iconst (v := (1 : Int32)) hx hb dX11_unseenBy_53 (by decide) ?_
      refine lv_goto (tgt := 58) hx hb dX11_unseenBy_54 (by decide) ?_
      exact hB58 k6 hk6 l5 l6 l7 s0 (1 : Int32)  H _ ls hP  hS (lv_sub hl [0, 1, 2, 3, 4, 5, 6, 7] rfl) hf
  have hL6 : ∀ (n : Nat) (l5 : Int32) (l6 : Int32)  (H : Heap) (locs : List Loc) (ls : Array Slot), va_P X.1 vwCl [(a_this, .inr (11, [.int i_length, .ref a_text, .ref a_roundMany, .ref a_blowMany, .ref a_blows, .ref a_forwards, .ref a_downs, .ref a_takens, .ref a_homes, .ref a_noises, .ref a_judgeMany, .ref a_judges, .ref a_delays, .ref a_tolds, .ref a_tens, .int i_keptMany, .int i_place, .ref a_told, .ref a_ways, .ref a_nextWays, .ref a_tallies, .ref a_presses, .ref a_values, .ref a_nextValues])), (a_blowMany, .inl (X.2.1 0, 2, .inl f_blowMany)), (a_blows, .inl (X.2.1 0, 400, .inl f_blows)), (a_roundMany, .inl (X.2.1 0, 2, .inl f_roundMany))] H → va_S A s.heap H locs → lv_has ls 9 [(0, .ref a_this), (1, .int x0), (2, .int x1), (3, .int x2), (4, .int x3), (5, .int l5), (6, .int l6)] → mX11_unseenBy_L6 x0 x1 x2 x3 f_blowMany f_blows f_roundMany  n l5 l6 = some o → W p l e rmX11_unseenBy s m ([.ref a_this, .int x0, .int x1, .int x2, .int x3] : List Value).toArray below meth c H locs 0 0 Q (F0 m 6 ls []) := by
    intro n
    induction n with
    | zero => intro l5 l6  H locs ls hP hS hl hf; exact xn hf
    | succ n ih =>
      intro l5 l6  H locs ls hP hS hl hf
      have hf : mX11_unseenBy_B6 x0 x1 x2 x3 f_blowMany f_blows f_roundMany  (mX11_unseenBy_L6 x0 x1 x2 x3 f_blowMany f_blows f_roundMany  n) l5 l6 = some o := hf
      generalize mX11_unseenBy_L6 x0 x1 x2 x3 f_blowMany f_blows f_roundMany  n = k6 at ih hf
      unfold mX11_unseenBy_B6 at hf
      refine lv_iload hx hb dX11_unseenBy_6 (lv_at hl 6 rfl) ?_
      refine lv_aload_n hx hb dX11_unseenBy_8 rfl (lv_at hl 0 rfl) ?_
      refine va_get (D := X.1) (ci := 11) (v := .ref a_blowMany) (C := RX11) (T := TX11) (N := 24) hx hb hts in11 hown hG.1 hP 0 rfl rfl 3 (by decide) w1 (fun _ h9 => h9) rfl dX11_unseenBy_9 ?_
      refine lv_iconst (v := (0 : Int32)) hx hb dX11_unseenBy_12 (by decide) ?_
      refine va_iald (D := X.1) hx hb hG.1 hP 1 0 rfl rfl (vp_lit (by decide)) dX11_unseenBy_13 ?_
      refine lv_icmp_ge (tgt := 117) hx hb dX11_unseenBy_14 (by decide) (fun c1 => ?_) (fun c1 => ?_)
      · have hf := xt hf c1
        refine lv_iload hx hb dX11_unseenBy_117 (lv_at hl 5 rfl) ?_
        obtain rfl := Option.some.inj hf
        exact ret H _ ls _ rfl hP hD hS dX11_unseenBy_119
      · have hf := xf hf c1
        refine lv_aload_n hx hb dX11_unseenBy_17 rfl (lv_at hl 0 rfl) ?_
        refine va_get (D := X.1) (ci := 11) (v := .ref a_blows) (C := RX11) (T := TX11) (N := 24) hx hb hts in11 hown hG.1 hP 0 rfl rfl 4 (by decide) w2 (fun _ h9 => h9) rfl dX11_unseenBy_18 ?_
        refine lv_iconst (v := (5 : Int32)) hx hb dX11_unseenBy_21 (by decide) ?_
        refine lv_iload hx hb dX11_unseenBy_22 (lv_at hl 6 rfl) ?_
        refine lv_imul hx hb dX11_unseenBy_24 ?_
        refine lv_iconst (v := (4 : Int32)) hx hb dX11_unseenBy_25 (by decide) ?_
        refine lv_iadd hx hb dX11_unseenBy_26 ?_
        obtain ⟨h2, hf⟩ := gi_s hf
        refine va_iald (D := X.1) hx hb hG.1 hP 2 0 rfl rfl h2 dX11_unseenBy_27 ?_
        refine lv_topi (fun v3 ev3 => ?_)
        have hf := lb_s hf ev3
        refine lv_istore (lv' := [(7, .int v3), (0, .ref a_this), (1, .int x0), (2, .int x1), (3, .int x2), (4, .int x3), (5, .int l5), (6, .int l6)]) hx hb dX11_unseenBy_28 hl (by decide) rfl (fun ls hl => ?_)
        refine lv_iload_n hx hb dX11_unseenBy_30 rfl (lv_at hl 2 rfl) ?_
        refine lv_iload hx hb dX11_unseenBy_31 (lv_at hl 0 rfl) ?_
        obtain ⟨o4, ho4, hf⟩ := ob_s hf
        refine xS_i (As := [.int x0, .int v3]) (rest := []) (ws2 := [(a_this, .inr (11, [.int i_length, .ref a_text, .ref a_roundMany, .ref a_blowMany, .ref a_blows, .ref a_forwards, .ref a_downs, .ref a_takens, .ref a_homes, .ref a_noises, .ref a_judgeMany, .ref a_judges, .ref a_delays, .ref a_tolds, .ref a_tens, .int i_keptMany, .int i_place, .ref a_told, .ref a_ways, .ref a_nextWays, .ref a_tallies, .ref a_presses, .ref a_values, .ref a_nextValues])), (a_blowMany, .inl (X.2.1 0, 2, .inl f_blowMany)), (a_blows, .inl (X.2.1 0, 400, .inl f_blows)), (a_roundMany, .inl (X.2.1 0, 2, .inl f_roundMany))]) hx hb hml hts hown hG hA hP hD rfl hS hl.1 (qX11_shows l X x0 v3 o4 ho4) (va_cwS (y := yX11_shows) 2 hts gX11_unseenBy_X11_shows rfl rfl rfl hdsX11_shows ⟨Nat.le_of_ble_eq_true rfl, Nat.le_of_ble_eq_true rfl⟩) [] [0, 1, 2, 3] [0, 1, 2, 3] rfl rfl rfl rfl rfl rfl rfl rfl rfl (Nat.le_of_ble_eq_true rfl) ⟨Nat.le_of_ble_eq_true rfl, Nat.le_of_ble_eq_true rfl⟩ dX11_unseenBy_33 (fun H locs hP _ hS => ?_)
        refine lv_if_eq (tgt := 43) hx hb dX11_unseenBy_36 (by decide) (fun c6 => ?_) (fun c6 => ?_)
        · have hf := xt hf c6
          refine lv_iconst (v := (0 : Int32)) hx hb dX11_unseenBy_43 (by decide) ?_
          exact hB44 k6 ih l5 l6 v3 (0 : Int32)  H _ ls hP  hS (lv_sub hl [1, 2, 3, 4, 5, 6, 7, 0] rfl) hf
        · have hf := xf hf c6
          refine lv_iconst (v := (1 : Int32)) hx hb dX11_unseenBy_39 (by decide) ?_
          refine lv_goto (tgt := 44) hx hb dX11_unseenBy_40 (by decide) ?_
          exact hB44 k6 ih l5 l6 v3 (1 : Int32)  H _ ls hP  hS (lv_sub hl [1, 2, 3, 4, 5, 6, 7, 0] rfl) hf
  unfold mX11_unseenBy at hf
  refine lv_iconst (v := (0 : Int32)) hx hb dX11_unseenBy_0 (by decide) ?_
  refine lv_istore (lv' := [(5, .int (0 : Int32)), (0, .ref a_this), (1, .int x0), (2, .int x1), (3, .int x2), (4, .int x3)]) hx hb dX11_unseenBy_1 hl (by decide) rfl (fun ls hl => ?_)
  refine lv_iconst (v := (0 : Int32)) hx hb dX11_unseenBy_3 (by decide) ?_
  refine lv_istore (lv' := [(6, .int (0 : Int32)), (5, .int (0 : Int32)), (0, .ref a_this), (1, .int x0), (2, .int x1), (3, .int x2), (4, .int x3)]) hx hb dX11_unseenBy_4 hl (by decide) rfl (fun ls hl => ?_)
  exact hL6  FUEL (0 : Int32) (0 : Int32)  H _ ls hP  hS (lv_sub hl [2, 3, 4, 5, 6, 1, 0] rfl) hf
def mX11_seats_B93 (x0 : Int32) (f_blowMany : Nat → Int32) (f_blows : Nat → Int32) (f_roundMany : Nat → Int32) (k22 : Int32 → Int32 → Int32 → Option (Int32)) (k35 : Int32 → Int32 → Int32 → Int32 → Option (Int32)) (k48 : Int32 → Int32 → Int32 → Int32 → Int32 → Option (Int32)) (l4 : Int32) (l5 : Int32) (l6 : Int32) (l7 : Int32) :
  Option (Int32) :=
  lb ((((144 : Int32) * l4) + ((12 : Int32) * l5)) + l6) fun v28 =>
  lb (l6 + (1 : Int32)) fun v29 =>
  k48 v28 l7 l4 l5 v29
def mX11_seats_B48 (x0 : Int32) (f_blowMany : Nat → Int32) (f_blows : Nat → Int32) (f_roundMany : Nat → Int32) (k22 : Int32 → Int32 → Int32 → Option (Int32)) (k35 : Int32 → Int32 → Int32 → Int32 → Option (Int32)) (k48 : Int32 → Int32 → Int32 → Int32 → Int32 → Option (Int32)) (l2 : Int32) (l3 : Int32) (l4 : Int32) (l5 : Int32) (l6 : Int32) :
  Option (Int32) :=
  if (12 : Int32) ≤ l6 then (lb (l5 + (1 : Int32)) fun v19 =>
  k35 l2 l3 l4 v19) else ((mX11_unseenBy l4 l5 l6 (2 : Int32) f_blowMany f_blows f_roundMany).bind fun o20 =>
  (mX11_unseenBy l4 l5 l6 (1 : Int32) f_blowMany f_blows f_roundMany).bind fun o22 =>
  lb (((100 : Int32) * o20) + o22) fun v24 =>
  if l2 < 0 then (mX11_seats_B93 x0 f_blowMany f_blows f_roundMany k22 k35 k48 l4 l5 l6 v24) else (if l3 ≤ v24 then (lb (l6 + (1 : Int32)) fun v27 =>
  k48 l2 l3 l4 l5 v27) else (mX11_seats_B93 x0 f_blowMany f_blows f_roundMany k22 k35 k48 l4 l5 l6 v24)))
def mX11_seats_L48 (x0 : Int32) (f_blowMany : Nat → Int32) (f_blows : Nat → Int32) (f_roundMany : Nat → Int32) (k22 : Int32 → Int32 → Int32 → Option (Int32)) (k35 : Int32 → Int32 → Int32 → Int32 → Option (Int32)) (n : Nat) (l2 : Int32) (l3 : Int32) (l4 : Int32) (l5 : Int32) (l6 : Int32) :
  Option (Int32) :=
  loopN (fun k (s : Int32 × Int32 × Int32 × Int32 × Int32) => mX11_seats_B48 x0 f_blowMany f_blows f_roundMany k22 k35 (fun l2 l3 l4 l5 l6 => k (l2, l3, l4, l5, l6)) s.1 s.2.1 s.2.2.1 s.2.2.2.1 s.2.2.2.2) n (l2, l3, l4, l5, l6)
def mX11_seats_B35 (x0 : Int32) (f_blowMany : Nat → Int32) (f_blows : Nat → Int32) (f_roundMany : Nat → Int32) (k22 : Int32 → Int32 → Int32 → Option (Int32)) (k35 : Int32 → Int32 → Int32 → Int32 → Option (Int32)) (l2 : Int32) (l3 : Int32) (l4 : Int32) (l5 : Int32) :
  Option (Int32) :=
  if (12 : Int32) ≤ l5 then (lb (l4 + (1 : Int32)) fun v16 =>
  k22 l2 l3 v16) else (lb (l5 + (1 : Int32)) fun v17 =>
  mX11_seats_L48 x0 f_blowMany f_blows f_roundMany k22 k35 FUEL l2 l3 l4 l5 v17)
def mX11_seats_L35 (x0 : Int32) (f_blowMany : Nat → Int32) (f_blows : Nat → Int32) (f_roundMany : Nat → Int32) (k22 : Int32 → Int32 → Int32 → Option (Int32)) (n : Nat) (l2 : Int32) (l3 : Int32) (l4 : Int32) (l5 : Int32) :
  Option (Int32) :=
  loopN (fun k (s : Int32 × Int32 × Int32 × Int32) => mX11_seats_B35 x0 f_blowMany f_blows f_roundMany k22 (fun l2 l3 l4 l5 => k (l2, l3, l4, l5)) s.1 s.2.1 s.2.2.1 s.2.2.2) n (l2, l3, l4, l5)
def mX11_seats_B22 (x0 : Int32) (f_blowMany : Nat → Int32) (f_blows : Nat → Int32) (f_roundMany : Nat → Int32) (k22 : Int32 → Int32 → Int32 → Option (Int32)) (l2 : Int32) (l3 : Int32) (l4 : Int32) :
  Option (Int32) :=
  if (12 : Int32) ≤ l4 then (if x0 = (0 : Int32) then (lb (l2 / (144 : Int32)) fun v7 =>
  some v7) else (if x0 = (1 : Int32) then (lb ((l2 / (12 : Int32)) - (l2 / (12 : Int32)) / (12 : Int32) * (12 : Int32)) fun v9 =>
  some v9) else (if x0 = (2 : Int32) then (lb (l2 - l2 / (12 : Int32) * (12 : Int32)) fun v11 =>
  some v11) else (if x0 = (3 : Int32) then (lb (l3 / (100 : Int32)) fun v13 =>
  some v13) else (lb (l3 - l3 / (100 : Int32) * (100 : Int32)) fun v5 =>
  some v5))))) else (lb (l4 + (1 : Int32)) fun v14 =>
  mX11_seats_L35 x0 f_blowMany f_blows f_roundMany k22 FUEL l2 l3 l4 v14)
def mX11_seats_L22 (x0 : Int32) (f_blowMany : Nat → Int32) (f_blows : Nat → Int32) (f_roundMany : Nat → Int32) (n : Nat) (l2 : Int32) (l3 : Int32) (l4 : Int32) :
  Option (Int32) :=
  loopN (fun k (s : Int32 × Int32 × Int32) => mX11_seats_B22 x0 f_blowMany f_blows f_roundMany  (fun l2 l3 l4 => k (l2, l3, l4)) s.1 s.2.1 s.2.2) n (l2, l3, l4)
def mX11_seats (x0 : Int32) (f_blowMany : Nat → Int32) (f_blows : Nat → Int32) (f_roundMany : Nat → Int32) :
  Option (Int32) :=
  (mX11_in (Int32.toInt64 x0) (0 : Int64) (4 : Int64)).bind fun o1 =>
  if o1 = 0 then (some (-1 : Int32)) else (mX11_seats_L22 x0 f_blowMany f_blows f_roundMany  FUEL (-4 : Int32) (0 : Int32) (0 : Int32))
theorem hdsX11_seats : yX11_seats.cls ≠ "java/lang/invoke/MethodHandle" ∧ yX11_seats.cls ≠ "java/lang/invoke/VarHandle" ∧ (parseMethodDescriptor yX11_seats.desc).map (fun d => d.parameters.length) = some 1 := by decide +kernel
theorem hdvX11_seats : yX11_seats.cls = RX11 ∧ yX11_seats.cls ≠ "java/lang/invoke/MethodHandle" ∧ yX11_seats.cls ≠ "java/lang/invoke/VarHandle" ∧ (parseMethodDescriptor yX11_seats.desc).map (fun d => d.parameters.length) = some 1 := by decide +kernel
abbrev rmX11_seats : Room := { frames := 2, cells := 0, slots := 0, locals := 50 }
set_option maxHeartbeats 4000000 in
set_option maxRecDepth 100000 in
theorem qX11_seats (l : Launch) (X : XT) (a_this : Nat) (a_blowMany : Nat) (a_blows : Nat) (a_roundMany : Nat) (a_text : Nat) (a_forwards : Nat) (a_downs : Nat) (a_takens : Nat) (a_homes : Nat) (a_noises : Nat) (a_judgeMany : Nat) (a_judges : Nat) (a_delays : Nat) (a_tolds : Nat) (a_tens : Nat) (a_told : Nat) (a_ways : Nat) (a_nextWays : Nat) (a_tallies : Nat) (a_presses : Nat) (a_values : Nat) (a_nextValues : Nat)  (i_length : Int32) (i_keptMany : Int32) (i_place : Int32) (f_blowMany : Nat → Int32) (f_blows : Nat → Int32) (f_roundMany : Nat → Int32) (x0 : Int32) (o : Int32) (hf : mX11_seats x0 f_blowMany f_blows f_roundMany = some o) :
    MI l yX11_seats wsX11_seats rmX11_seats X [.ref a_this, .int x0] [(a_this, .inr (11, [.int i_length, .ref a_text, .ref a_roundMany, .ref a_blowMany, .ref a_blows, .ref a_forwards, .ref a_downs, .ref a_takens, .ref a_homes, .ref a_noises, .ref a_judgeMany, .ref a_judges, .ref a_delays, .ref a_tolds, .ref a_tens, .int i_keptMany, .int i_place, .ref a_told, .ref a_ways, .ref a_nextWays, .ref a_tallies, .ref a_presses, .ref a_values, .ref a_nextValues])), (a_blowMany, .inl (X.2.1 0, 2, .inl f_blowMany)), (a_blows, .inl (X.2.1 0, 400, .inl f_blows)), (a_roundMany, .inl (X.2.1 0, 2, .inl f_roundMany))]  [(a_this, .inr (11, [.int i_length, .ref a_text, .ref a_roundMany, .ref a_blowMany, .ref a_blows, .ref a_forwards, .ref a_downs, .ref a_takens, .ref a_homes, .ref a_noises, .ref a_judgeMany, .ref a_judges, .ref a_delays, .ref a_tolds, .ref a_tens, .int i_keptMany, .int i_place, .ref a_told, .ref a_ways, .ref a_nextWays, .ref a_tallies, .ref a_presses, .ref a_values, .ref a_nextValues])), (a_blowMany, .inl (X.2.1 0, 2, .inl f_blowMany)), (a_blows, .inl (X.2.1 0, 400, .inl f_blows)), (a_roundMany, .inl (X.2.1 0, 2, .inl f_roundMany))] o := by
  refine MI_ofH (cc := cX11_seats) (maxL := 8) (rt := .int) (by decide) rfl (Nat.le_of_ble_eq_true rfl) ?_
  intro p e s m below meth c A Q H ls hx hb hml hts hown hA hD hG hP hS hl ret
  have hown : s.vm.findClass RX11 = some m.cls := hown
  have hD : aD A [a_this, a_blowMany, a_blows, a_roundMany] := hD
  have hl : lv_has ls 8 [(0, .ref a_this), (1, .int x0)] := hl
  have w1 := hts (.constantLong RX11 215 (4)) (List.mem_of_getElem? (i := 1) rfl)
  have hB93 : ∀ (k22 : Int32 → Int32 → Int32 → Option (Int32)) (hk22 : ∀ (l2 : Int32) (l3 : Int32) (l4 : Int32)  (H : Heap) (locs : List Loc) (ls : Array Slot), va_P X.1 vwCl [(a_this, .inr (11, [.int i_length, .ref a_text, .ref a_roundMany, .ref a_blowMany, .ref a_blows, .ref a_forwards, .ref a_downs, .ref a_takens, .ref a_homes, .ref a_noises, .ref a_judgeMany, .ref a_judges, .ref a_delays, .ref a_tolds, .ref a_tens, .int i_keptMany, .int i_place, .ref a_told, .ref a_ways, .ref a_nextWays, .ref a_tallies, .ref a_presses, .ref a_values, .ref a_nextValues])), (a_blowMany, .inl (X.2.1 0, 2, .inl f_blowMany)), (a_blows, .inl (X.2.1 0, 400, .inl f_blows)), (a_roundMany, .inl (X.2.1 0, 2, .inl f_roundMany))] H → va_S A s.heap H locs → lv_has ls 8 [(0, .ref a_this), (1, .int x0), (2, .int l2), (3, .int l3), (4, .int l4)] → k22 l2 l3 l4 = some o → W p l e rmX11_seats s m ([.ref a_this, .int x0] : List Value).toArray below meth c H locs 0 0 Q (F0 m 22 ls [])) (k35 : Int32 → Int32 → Int32 → Int32 → Option (Int32)) (hk35 : ∀ (l2 : Int32) (l3 : Int32) (l4 : Int32) (l5 : Int32)  (H : Heap) (locs : List Loc) (ls : Array Slot), va_P X.1 vwCl [(a_this, .inr (11, [.int i_length, .ref a_text, .ref a_roundMany, .ref a_blowMany, .ref a_blows, .ref a_forwards, .ref a_downs, .ref a_takens, .ref a_homes, .ref a_noises, .ref a_judgeMany, .ref a_judges, .ref a_delays, .ref a_tolds, .ref a_tens, .int i_keptMany, .int i_place, .ref a_told, .ref a_ways, .ref a_nextWays, .ref a_tallies, .ref a_presses, .ref a_values, .ref a_nextValues])), (a_blowMany, .inl (X.2.1 0, 2, .inl f_blowMany)), (a_blows, .inl (X.2.1 0, 400, .inl f_blows)), (a_roundMany, .inl (X.2.1 0, 2, .inl f_roundMany))] H → va_S A s.heap H locs → lv_has ls 8 [(0, .ref a_this), (1, .int x0), (2, .int l2), (3, .int l3), (4, .int l4), (5, .int l5)] → k35 l2 l3 l4 l5 = some o → W p l e rmX11_seats s m ([.ref a_this, .int x0] : List Value).toArray below meth c H locs 0 0 Q (F0 m 35 ls [])) (k48 : Int32 → Int32 → Int32 → Int32 → Int32 → Option (Int32)) (hk48 : ∀ (l2 : Int32) (l3 : Int32) (l4 : Int32) (l5 : Int32) (l6 : Int32)  (H : Heap) (locs : List Loc) (ls : Array Slot), va_P X.1 vwCl [(a_this, .inr (11, [.int i_length, .ref a_text, .ref a_roundMany, .ref a_blowMany, .ref a_blows, .ref a_forwards, .ref a_downs, .ref a_takens, .ref a_homes, .ref a_noises, .ref a_judgeMany, .ref a_judges, .ref a_delays, .ref a_tolds, .ref a_tens, .int i_keptMany, .int i_place, .ref a_told, .ref a_ways, .ref a_nextWays, .ref a_tallies, .ref a_presses, .ref a_values, .ref a_nextValues])), (a_blowMany, .inl (X.2.1 0, 2, .inl f_blowMany)), (a_blows, .inl (X.2.1 0, 400, .inl f_blows)), (a_roundMany, .inl (X.2.1 0, 2, .inl f_roundMany))] H → va_S A s.heap H locs → lv_has ls 8 [(0, .ref a_this), (1, .int x0), (2, .int l2), (3, .int l3), (4, .int l4), (5, .int l5), (6, .int l6)] → k48 l2 l3 l4 l5 l6 = some o → W p l e rmX11_seats s m ([.ref a_this, .int x0] : List Value).toArray below meth c H locs 0 0 Q (F0 m 48 ls [])) (l4 : Int32) (l5 : Int32) (l6 : Int32) (l7 : Int32)  (H : Heap) (locs : List Loc) (ls : Array Slot), va_P X.1 vwCl [(a_this, .inr (11, [.int i_length, .ref a_text, .ref a_roundMany, .ref a_blowMany, .ref a_blows, .ref a_forwards, .ref a_downs, .ref a_takens, .ref a_homes, .ref a_noises, .ref a_judgeMany, .ref a_judges, .ref a_delays, .ref a_tolds, .ref a_tens, .int i_keptMany, .int i_place, .ref a_told, .ref a_ways, .ref a_nextWays, .ref a_tallies, .ref a_presses, .ref a_values, .ref a_nextValues])), (a_blowMany, .inl (X.2.1 0, 2, .inl f_blowMany)), (a_blows, .inl (X.2.1 0, 400, .inl f_blows)), (a_roundMany, .inl (X.2.1 0, 2, .inl f_roundMany))] H → va_S A s.heap H locs → lv_has ls 8 [(0, .ref a_this), (1, .int x0), (4, .int l4), (5, .int l5), (6, .int l6), (7, .int l7)] → mX11_seats_B93 x0 f_blowMany f_blows f_roundMany k22 k35 k48 l4 l5 l6 l7 = some o → W p l e rmX11_seats s m ([.ref a_this, .int x0] : List Value).toArray below meth c H locs 0 0 Q (F0 m 93 ls []) := by
    intro k22 hk22 k35 hk35 k48 hk48 l4 l5 l6 l7  H locs ls hP hS hl hf
    unfold mX11_seats_B93 at hf
    refine lv_sipush (v := (144 : Int32)) hx hb dX11_seats_93 (by decide) ?_
    refine lv_iload hx hb dX11_seats_96 (lv_at hl 2 rfl) ?_
    refine lv_imul hx hb dX11_seats_98 ?_
    refine lv_bipush (v := (12 : Int32)) hx hb dX11_seats_99 (by decide) ?_
    refine lv_iload hx hb dX11_seats_101 (lv_at hl 3 rfl) ?_
    refine lv_imul hx hb dX11_seats_103 ?_
    refine lv_iadd hx hb dX11_seats_104 ?_
    refine lv_iload hx hb dX11_seats_105 (lv_at hl 4 rfl) ?_
    refine lv_iadd hx hb dX11_seats_107 ?_
    refine lv_topi (fun v28 ev28 => ?_)
    have hf := lb_s hf ev28
    refine lv_istore_n (lv' := [(2, .int v28), (0, .ref a_this), (1, .int x0), (4, .int l4), (5, .int l5), (6, .int l6), (7, .int l7)]) hx hb dX11_seats_108 rfl hl (by decide) rfl (fun ls hl => ?_)
    refine lv_iload hx hb dX11_seats_109 (lv_at hl 6 rfl) ?_
    refine lv_istore_n (lv' := [(3, .int l7), (2, .int v28), (0, .ref a_this), (1, .int x0), (4, .int l4), (5, .int l5), (6, .int l6), (7, .int l7)]) hx hb dX11_seats_111 rfl hl (by decide) rfl (fun ls hl => ?_)
    obtain ⟨v29, ev29, hf⟩ := lb_g hf
    refine lv_iinc (v := v29) (lv' := [(6, .int v29), (3, .int l7), (2, .int v28), (0, .ref a_this), (1, .int x0), (4, .int l4), (5, .int l5), (7, .int l7)]) hx hb dX11_seats_112 hl (k := 6) rfl ev29.symm (by decide) rfl (fun ls hl => ?_)
    refine lv_goto (tgt := 48) hx hb dX11_seats_115 (by decide) ?_
    exact hk48 v28 l7 l4 l5 v29  H _ ls hP  hS (lv_sub hl [3, 4, 2, 1, 5, 6, 0] rfl) hf
  have hL48 : ∀ (k22 : Int32 → Int32 → Int32 → Option (Int32)) (hk22 : ∀ (l2 : Int32) (l3 : Int32) (l4 : Int32)  (H : Heap) (locs : List Loc) (ls : Array Slot), va_P X.1 vwCl [(a_this, .inr (11, [.int i_length, .ref a_text, .ref a_roundMany, .ref a_blowMany, .ref a_blows, .ref a_forwards, .ref a_downs, .ref a_takens, .ref a_homes, .ref a_noises, .ref a_judgeMany, .ref a_judges, .ref a_delays, .ref a_tolds, .ref a_tens, .int i_keptMany, .int i_place, .ref a_told, .ref a_ways, .ref a_nextWays, .ref a_tallies, .ref a_presses, .ref a_values, .ref a_nextValues])), (a_blowMany, .inl (X.2.1 0, 2, .inl f_blowMany)), (a_blows, .inl (X.2.1 0, 400, .inl f_blows)), (a_roundMany, .inl (X.2.1 0, 2, .inl f_roundMany))] H → va_S A s.heap H locs → lv_has ls 8 [(0, .ref a_this), (1, .int x0), (2, .int l2), (3, .int l3), (4, .int l4)] → k22 l2 l3 l4 = some o → W p l e rmX11_seats s m ([.ref a_this, .int x0] : List Value).toArray below meth c H locs 0 0 Q (F0 m 22 ls [])) (k35 : Int32 → Int32 → Int32 → Int32 → Option (Int32)) (hk35 : ∀ (l2 : Int32) (l3 : Int32) (l4 : Int32) (l5 : Int32)  (H : Heap) (locs : List Loc) (ls : Array Slot), va_P X.1 vwCl [(a_this, .inr (11, [.int i_length, .ref a_text, .ref a_roundMany, .ref a_blowMany, .ref a_blows, .ref a_forwards, .ref a_downs, .ref a_takens, .ref a_homes, .ref a_noises, .ref a_judgeMany, .ref a_judges, .ref a_delays, .ref a_tolds, .ref a_tens, .int i_keptMany, .int i_place, .ref a_told, .ref a_ways, .ref a_nextWays, .ref a_tallies, .ref a_presses, .ref a_values, .ref a_nextValues])), (a_blowMany, .inl (X.2.1 0, 2, .inl f_blowMany)), (a_blows, .inl (X.2.1 0, 400, .inl f_blows)), (a_roundMany, .inl (X.2.1 0, 2, .inl f_roundMany))] H → va_S A s.heap H locs → lv_has ls 8 [(0, .ref a_this), (1, .int x0), (2, .int l2), (3, .int l3), (4, .int l4), (5, .int l5)] → k35 l2 l3 l4 l5 = some o → W p l e rmX11_seats s m ([.ref a_this, .int x0] : List Value).toArray below meth c H locs 0 0 Q (F0 m 35 ls [])) (n : Nat) (l2 : Int32) (l3 : Int32) (l4 : Int32) (l5 : Int32) (l6 : Int32)  (H : Heap) (locs : List Loc) (ls : Array Slot), va_P X.1 vwCl [(a_this, .inr (11, [.int i_length, .ref a_text, .ref a_roundMany, .ref a_blowMany, .ref a_blows, .ref a_forwards, .ref a_downs, .ref a_takens, .ref a_homes, .ref a_noises, .ref a_judgeMany, .ref a_judges, .ref a_delays, .ref a_tolds, .ref a_tens, .int i_keptMany, .int i_place, .ref a_told, .ref a_ways, .ref a_nextWays, .ref a_tallies, .ref a_presses, .ref a_values, .ref a_nextValues])), (a_blowMany, .inl (X.2.1 0, 2, .inl f_blowMany)), (a_blows, .inl (X.2.1 0, 400, .inl f_blows)), (a_roundMany, .inl (X.2.1 0, 2, .inl f_roundMany))] H → va_S A s.heap H locs → lv_has ls 8 [(0, .ref a_this), (1, .int x0), (2, .int l2), (3, .int l3), (4, .int l4), (5, .int l5), (6, .int l6)] → mX11_seats_L48 x0 f_blowMany f_blows f_roundMany k22 k35 n l2 l3 l4 l5 l6 = some o → W p l e rmX11_seats s m ([.ref a_this, .int x0] : List Value).toArray below meth c H locs 0 0 Q (F0 m 48 ls []) := by
    intro k22 hk22 k35 hk35 n
    induction n with
    | zero => intro l2 l3 l4 l5 l6  H locs ls hP hS hl hf; exact xn hf
    | succ n ih =>
      intro l2 l3 l4 l5 l6  H locs ls hP hS hl hf
      have hf : mX11_seats_B48 x0 f_blowMany f_blows f_roundMany k22 k35 (mX11_seats_L48 x0 f_blowMany f_blows f_roundMany k22 k35 n) l2 l3 l4 l5 l6 = some o := hf
      generalize mX11_seats_L48 x0 f_blowMany f_blows f_roundMany k22 k35 n = k48 at ih hf
      unfold mX11_seats_B48 at hf
      refine lv_iload hx hb dX11_seats_48 (lv_at hl 6 rfl) ?_
      refine lv_bipush (v := (12 : Int32)) hx hb dX11_seats_50 (by decide) ?_
      refine lv_icmp_ge (tgt := 118) hx hb dX11_seats_52 (by decide) (fun c18 => ?_) (fun c18 => ?_)
      · have hf := xt hf c18
        obtain ⟨v19, ev19, hf⟩ := lb_g hf
        refine lv_iinc (v := v19) (lv' := [(5, .int v19), (0, .ref a_this), (1, .int x0), (2, .int l2), (3, .int l3), (4, .int l4), (6, .int l6)]) hx hb dX11_seats_118 hl (k := 5) rfl ev19.symm (by decide) rfl (fun ls hl => ?_)
        refine lv_goto (tgt := 35) hx hb dX11_seats_121 (by decide) ?_
        exact hk35 l2 l3 l4 v19  H _ ls hP  hS (lv_sub hl [1, 2, 3, 4, 5, 0] rfl) hf
      · have hf := xf hf c18
        refine lv_bipush (v := (100 : Int32)) hx hb dX11_seats_55 (by decide) ?_
        refine lv_aload_n hx hb dX11_seats_57 rfl (lv_at hl 0 rfl) ?_
        refine lv_iload hx hb dX11_seats_58 (lv_at hl 4 rfl) ?_
        refine lv_iload hx hb dX11_seats_60 (lv_at hl 5 rfl) ?_
        refine lv_iload hx hb dX11_seats_62 (lv_at hl 6 rfl) ?_
        refine lv_iconst (v := (2 : Int32)) hx hb dX11_seats_64 (by decide) ?_
        obtain ⟨o20, ho20, hf⟩ := ob_s hf
        refine xV_i (As := [.int l4, .int l5, .int l6, .int (2 : Int32)]) (b := a_this) (rest := [.int (100 : Int32)]) (ws2 := [(a_this, .inr (11, [.int i_length, .ref a_text, .ref a_roundMany, .ref a_blowMany, .ref a_blows, .ref a_forwards, .ref a_downs, .ref a_takens, .ref a_homes, .ref a_noises, .ref a_judgeMany, .ref a_judges, .ref a_delays, .ref a_tolds, .ref a_tens, .int i_keptMany, .int i_place, .ref a_told, .ref a_ways, .ref a_nextWays, .ref a_tallies, .ref a_presses, .ref a_values, .ref a_nextValues])), (a_blowMany, .inl (X.2.1 0, 2, .inl f_blowMany)), (a_blows, .inl (X.2.1 0, 400, .inl f_blows)), (a_roundMany, .inl (X.2.1 0, 2, .inl f_roundMany))]) hx hb hml hts hown hG hA hP hD rfl hS hl.1 (qX11_unseenBy l X a_this a_blowMany a_blows a_roundMany a_text a_forwards a_downs a_takens a_homes a_noises a_judgeMany a_judges a_delays a_tolds a_tens a_told a_ways a_nextWays a_tallies a_presses a_values a_nextValues i_length i_keptMany i_place f_blowMany f_blows f_roundMany l4 l5 l6 (2 : Int32) o20 ho20) (cwV (y := yX11_unseenBy) 4 hts gX11_seats_X11_unseenBy rfl rfl rfl hdvX11_unseenBy ⟨Nat.le_of_ble_eq_true rfl, Nat.le_of_ble_eq_true rfl⟩) [0, 1, 2, 3] [] [0, 1, 2, 3] rfl rfl rfl rfl rfl rfl rfl (ci := 11) rfl 0 rfl rfl rfl (Nat.le_of_ble_eq_true rfl) ⟨Nat.le_of_ble_eq_true rfl, Nat.le_of_ble_eq_true rfl⟩ dX11_seats_65 (fun H locs hP _ hS => ?_)
        refine lv_imul hx hb dX11_seats_68 ?_
        refine lv_aload_n hx hb dX11_seats_69 rfl (lv_at hl 0 rfl) ?_
        refine lv_iload hx hb dX11_seats_70 (lv_at hl 4 rfl) ?_
        refine lv_iload hx hb dX11_seats_72 (lv_at hl 5 rfl) ?_
        refine lv_iload hx hb dX11_seats_74 (lv_at hl 6 rfl) ?_
        refine lv_iconst (v := (1 : Int32)) hx hb dX11_seats_76 (by decide) ?_
        obtain ⟨o22, ho22, hf⟩ := ob_s hf
        refine xV_i (As := [.int l4, .int l5, .int l6, .int (1 : Int32)]) (b := a_this) (rest := [.int ((100 : Int32) * o20)]) (ws2 := [(a_this, .inr (11, [.int i_length, .ref a_text, .ref a_roundMany, .ref a_blowMany, .ref a_blows, .ref a_forwards, .ref a_downs, .ref a_takens, .ref a_homes, .ref a_noises, .ref a_judgeMany, .ref a_judges, .ref a_delays, .ref a_tolds, .ref a_tens, .int i_keptMany, .int i_place, .ref a_told, .ref a_ways, .ref a_nextWays, .ref a_tallies, .ref a_presses, .ref a_values, .ref a_nextValues])), (a_blowMany, .inl (X.2.1 0, 2, .inl f_blowMany)), (a_blows, .inl (X.2.1 0, 400, .inl f_blows)), (a_roundMany, .inl (X.2.1 0, 2, .inl f_roundMany))]) hx hb hml hts hown hG hA hP hD rfl hS hl.1 (qX11_unseenBy l X a_this a_blowMany a_blows a_roundMany a_text a_forwards a_downs a_takens a_homes a_noises a_judgeMany a_judges a_delays a_tolds a_tens a_told a_ways a_nextWays a_tallies a_presses a_values a_nextValues i_length i_keptMany i_place f_blowMany f_blows f_roundMany l4 l5 l6 (1 : Int32) o22 ho22) (cwV (y := yX11_unseenBy) 4 hts gX11_seats_X11_unseenBy rfl rfl rfl hdvX11_unseenBy ⟨Nat.le_of_ble_eq_true rfl, Nat.le_of_ble_eq_true rfl⟩) [0, 1, 2, 3] [] [0, 1, 2, 3] rfl rfl rfl rfl rfl rfl rfl (ci := 11) rfl 0 rfl rfl rfl (Nat.le_of_ble_eq_true rfl) ⟨Nat.le_of_ble_eq_true rfl, Nat.le_of_ble_eq_true rfl⟩ dX11_seats_77 (fun H locs hP _ hS => ?_)
        refine lv_iadd hx hb dX11_seats_80 ?_
        refine lv_topi (fun v24 ev24 => ?_)
        have hf := lb_s hf ev24
        refine lv_istore (lv' := [(7, .int v24), (0, .ref a_this), (1, .int x0), (2, .int l2), (3, .int l3), (4, .int l4), (5, .int l5), (6, .int l6)]) hx hb dX11_seats_81 hl (by decide) rfl (fun ls hl => ?_)
        refine lv_iload_n hx hb dX11_seats_83 rfl (lv_at hl 3 rfl) ?_
        refine lv_if_lt (tgt := 93) hx hb dX11_seats_84 (by decide) (fun c25 => ?_) (fun c25 => ?_)
        · have hf := xt hf c25
          exact hB93 k22 hk22 k35 hk35 k48 ih l4 l5 l6 v24  H _ ls hP  hS (lv_sub hl [1, 2, 5, 6, 7, 0] rfl) hf
        · have hf := xf hf c25
          refine lv_iload hx hb dX11_seats_87 (lv_at hl 0 rfl) ?_
          refine lv_iload_n hx hb dX11_seats_89 rfl (lv_at hl 4 rfl) ?_
          refine lv_icmp_ge (tgt := 112) hx hb dX11_seats_90 (by decide) (fun c26 => ?_) (fun c26 => ?_)
          · have hf := xt hf c26
            obtain ⟨v27, ev27, hf⟩ := lb_g hf
            refine lv_iinc (v := v27) (lv' := [(6, .int v27), (7, .int v24), (0, .ref a_this), (1, .int x0), (2, .int l2), (3, .int l3), (4, .int l4), (5, .int l5)]) hx hb dX11_seats_112 hl (k := 7) rfl ev27.symm (by decide) rfl (fun ls hl => ?_)
            refine lv_goto (tgt := 48) hx hb dX11_seats_115 (by decide) ?_
            exact ih l2 l3 l4 l5 v27  H _ ls hP  hS (lv_sub hl [2, 3, 4, 5, 6, 7, 0] rfl) hf
          · have hf := xf hf c26
            exact hB93 k22 hk22 k35 hk35 k48 ih l4 l5 l6 v24  H _ ls hP  hS (lv_sub hl [1, 2, 5, 6, 7, 0] rfl) hf
  have hL35 : ∀ (k22 : Int32 → Int32 → Int32 → Option (Int32)) (hk22 : ∀ (l2 : Int32) (l3 : Int32) (l4 : Int32)  (H : Heap) (locs : List Loc) (ls : Array Slot), va_P X.1 vwCl [(a_this, .inr (11, [.int i_length, .ref a_text, .ref a_roundMany, .ref a_blowMany, .ref a_blows, .ref a_forwards, .ref a_downs, .ref a_takens, .ref a_homes, .ref a_noises, .ref a_judgeMany, .ref a_judges, .ref a_delays, .ref a_tolds, .ref a_tens, .int i_keptMany, .int i_place, .ref a_told, .ref a_ways, .ref a_nextWays, .ref a_tallies, .ref a_presses, .ref a_values, .ref a_nextValues])), (a_blowMany, .inl (X.2.1 0, 2, .inl f_blowMany)), (a_blows, .inl (X.2.1 0, 400, .inl f_blows)), (a_roundMany, .inl (X.2.1 0, 2, .inl f_roundMany))] H → va_S A s.heap H locs → lv_has ls 8 [(0, .ref a_this), (1, .int x0), (2, .int l2), (3, .int l3), (4, .int l4)] → k22 l2 l3 l4 = some o → W p l e rmX11_seats s m ([.ref a_this, .int x0] : List Value).toArray below meth c H locs 0 0 Q (F0 m 22 ls [])) (n : Nat) (l2 : Int32) (l3 : Int32) (l4 : Int32) (l5 : Int32)  (H : Heap) (locs : List Loc) (ls : Array Slot), va_P X.1 vwCl [(a_this, .inr (11, [.int i_length, .ref a_text, .ref a_roundMany, .ref a_blowMany, .ref a_blows, .ref a_forwards, .ref a_downs, .ref a_takens, .ref a_homes, .ref a_noises, .ref a_judgeMany, .ref a_judges, .ref a_delays, .ref a_tolds, .ref a_tens, .int i_keptMany, .int i_place, .ref a_told, .ref a_ways, .ref a_nextWays, .ref a_tallies, .ref a_presses, .ref a_values, .ref a_nextValues])), (a_blowMany, .inl (X.2.1 0, 2, .inl f_blowMany)), (a_blows, .inl (X.2.1 0, 400, .inl f_blows)), (a_roundMany, .inl (X.2.1 0, 2, .inl f_roundMany))] H → va_S A s.heap H locs → lv_has ls 8 [(0, .ref a_this), (1, .int x0), (2, .int l2), (3, .int l3), (4, .int l4), (5, .int l5)] → mX11_seats_L35 x0 f_blowMany f_blows f_roundMany k22 n l2 l3 l4 l5 = some o → W p l e rmX11_seats s m ([.ref a_this, .int x0] : List Value).toArray below meth c H locs 0 0 Q (F0 m 35 ls []) := by
    intro k22 hk22 n
    induction n with
    | zero => intro l2 l3 l4 l5  H locs ls hP hS hl hf; exact xn hf
    | succ n ih =>
      intro l2 l3 l4 l5  H locs ls hP hS hl hf
      have hf : mX11_seats_B35 x0 f_blowMany f_blows f_roundMany k22 (mX11_seats_L35 x0 f_blowMany f_blows f_roundMany k22 n) l2 l3 l4 l5 = some o := hf
      generalize mX11_seats_L35 x0 f_blowMany f_blows f_roundMany k22 n = k35 at ih hf
      unfold mX11_seats_B35 at hf
      refine lv_iload hx hb dX11_seats_35 (lv_at hl 5 rfl) ?_
      refine lv_bipush (v := (12 : Int32)) hx hb dX11_seats_37 (by decide) ?_
      refine lv_icmp_ge (tgt := 124) hx hb dX11_seats_39 (by decide) (fun c15 => ?_) (fun c15 => ?_)
      · have hf := xt hf c15
        obtain ⟨v16, ev16, hf⟩ := lb_g hf
        refine lv_iinc (v := v16) (lv' := [(4, .int v16), (0, .ref a_this), (1, .int x0), (2, .int l2), (3, .int l3), (5, .int l5)]) hx hb dX11_seats_124 hl (k := 4) rfl ev16.symm (by decide) rfl (fun ls hl => ?_)
        refine lv_goto (tgt := 22) hx hb dX11_seats_127 (by decide) ?_
        exact hk22 l2 l3 v16  H _ ls hP  hS (lv_sub hl [1, 2, 3, 4, 0] rfl) hf
      · have hf := xf hf c15
        refine lv_iload hx hb dX11_seats_42 (lv_at hl 5 rfl) ?_
        refine lv_iconst (v := (1 : Int32)) hx hb dX11_seats_44 (by decide) ?_
        refine lv_iadd hx hb dX11_seats_45 ?_
        refine lv_topi (fun v17 ev17 => ?_)
        have hf := lb_s hf ev17
        refine lv_istore (lv' := [(6, .int v17), (0, .ref a_this), (1, .int x0), (2, .int l2), (3, .int l3), (4, .int l4), (5, .int l5)]) hx hb dX11_seats_46 hl (by decide) rfl (fun ls hl => ?_)
        exact hL48 k22 hk22 k35 ih FUEL l2 l3 l4 l5 v17  H _ ls hP  hS (lv_sub hl [1, 2, 3, 4, 5, 6, 0] rfl) hf
  have hL22 : ∀ (n : Nat) (l2 : Int32) (l3 : Int32) (l4 : Int32)  (H : Heap) (locs : List Loc) (ls : Array Slot), va_P X.1 vwCl [(a_this, .inr (11, [.int i_length, .ref a_text, .ref a_roundMany, .ref a_blowMany, .ref a_blows, .ref a_forwards, .ref a_downs, .ref a_takens, .ref a_homes, .ref a_noises, .ref a_judgeMany, .ref a_judges, .ref a_delays, .ref a_tolds, .ref a_tens, .int i_keptMany, .int i_place, .ref a_told, .ref a_ways, .ref a_nextWays, .ref a_tallies, .ref a_presses, .ref a_values, .ref a_nextValues])), (a_blowMany, .inl (X.2.1 0, 2, .inl f_blowMany)), (a_blows, .inl (X.2.1 0, 400, .inl f_blows)), (a_roundMany, .inl (X.2.1 0, 2, .inl f_roundMany))] H → va_S A s.heap H locs → lv_has ls 8 [(0, .ref a_this), (1, .int x0), (2, .int l2), (3, .int l3), (4, .int l4)] → mX11_seats_L22 x0 f_blowMany f_blows f_roundMany  n l2 l3 l4 = some o → W p l e rmX11_seats s m ([.ref a_this, .int x0] : List Value).toArray below meth c H locs 0 0 Q (F0 m 22 ls []) := by
    intro n
    induction n with
    | zero => intro l2 l3 l4  H locs ls hP hS hl hf; exact xn hf
    | succ n ih =>
      intro l2 l3 l4  H locs ls hP hS hl hf
      have hf : mX11_seats_B22 x0 f_blowMany f_blows f_roundMany  (mX11_seats_L22 x0 f_blowMany f_blows f_roundMany  n) l2 l3 l4 = some o := hf
      generalize mX11_seats_L22 x0 f_blowMany f_blows f_roundMany  n = k22 at ih hf
      unfold mX11_seats_B22 at hf
      refine lv_iload hx hb dX11_seats_22 (lv_at hl 4 rfl) ?_
      refine lv_bipush (v := (12 : Int32)) hx hb dX11_seats_24 (by decide) ?_
      refine lv_icmp_ge (tgt := 130) hx hb dX11_seats_26 (by decide) (fun c4 => ?_) (fun c4 => ?_)
      · have hf := xt hf c4
        refine lv_iload_n hx hb dX11_seats_130 rfl (lv_at hl 1 rfl) ?_
        by_cases c6 : x0 = (0 : Int32)
        · have hf := xt hf c6
          refine lv_tableIn (tgt := 160) (off := 29) hx hb dX11_seats_131 (by rw [c6]; decide) (by rw [c6]; decide) (by rw [c6]; decide) (by decide) ?_
          refine lv_iload_n hx hb dX11_seats_160 rfl (lv_at hl 2 rfl) ?_
          refine lv_sipush (v := (144 : Int32)) hx hb dX11_seats_161 (by decide) ?_
          refine lv_idiv hx hb dX11_seats_164 (by decide) ?_
          refine lv_topi (fun v7 ev7 => ?_)
          have hf := lb_s hf ev7
          obtain rfl := Option.some.inj hf
          exact ret H _ ls _ rfl hP hD hS dX11_seats_165
        · have hf := xf hf c6
          by_cases c8 : x0 = (1 : Int32)
          · have hf := xt hf c8
            refine lv_tableIn (tgt := 166) (off := 35) hx hb dX11_seats_131 (by rw [c8]; decide) (by rw [c8]; decide) (by rw [c8]; decide) (by decide) ?_
            refine lv_iload_n hx hb dX11_seats_166 rfl (lv_at hl 2 rfl) ?_
            refine lv_bipush (v := (12 : Int32)) hx hb dX11_seats_167 (by decide) ?_
            refine lv_idiv hx hb dX11_seats_169 (by decide) ?_
            refine lv_bipush (v := (12 : Int32)) hx hb dX11_seats_170 (by decide) ?_
            refine lv_irem hx hb dX11_seats_172 (by decide) ?_
            refine lv_topi (fun v9 ev9 => ?_)
            have hf := lb_s hf ev9
            obtain rfl := Option.some.inj hf
            exact ret H _ ls _ rfl hP hD hS dX11_seats_173
          · have hf := xf hf c8
            by_cases c10 : x0 = (2 : Int32)
            · have hf := xt hf c10
              refine lv_tableIn (tgt := 174) (off := 43) hx hb dX11_seats_131 (by rw [c10]; decide) (by rw [c10]; decide) (by rw [c10]; decide) (by decide) ?_
              refine lv_iload_n hx hb dX11_seats_174 rfl (lv_at hl 2 rfl) ?_
              refine lv_bipush (v := (12 : Int32)) hx hb dX11_seats_175 (by decide) ?_
              refine lv_irem hx hb dX11_seats_177 (by decide) ?_
              refine lv_topi (fun v11 ev11 => ?_)
              have hf := lb_s hf ev11
              obtain rfl := Option.some.inj hf
              exact ret H _ ls _ rfl hP hD hS dX11_seats_178
            · have hf := xf hf c10
              by_cases c12 : x0 = (3 : Int32)
              · have hf := xt hf c12
                refine lv_tableIn (tgt := 179) (off := 48) hx hb dX11_seats_131 (by rw [c12]; decide) (by rw [c12]; decide) (by rw [c12]; decide) (by decide) ?_
                refine lv_iload_n hx hb dX11_seats_179 rfl (lv_at hl 3 rfl) ?_
                refine lv_bipush (v := (100 : Int32)) hx hb dX11_seats_180 (by decide) ?_
                refine lv_idiv hx hb dX11_seats_182 (by decide) ?_
                refine lv_topi (fun v13 ev13 => ?_)
                have hf := lb_s hf ev13
                obtain rfl := Option.some.inj hf
                exact ret H _ ls _ rfl hP hD hS dX11_seats_183
              · have hf := xf hf c12
                refine lv_tabD (tgt := 184) hx hb dX11_seats_131 (fun h1_ h2_ => ?_) (by decide) ?_
                · have nc6 := i32_ne (0 : Int32) c6
                  have nc8 := i32_ne (1 : Int32) c8
                  have nc10 := i32_ne (2 : Int32) c10
                  have nc12 := i32_ne (3 : Int32) c12
                  rw [show (0 : Int32).toInt = 0 from by decide] at nc6
                  rw [show (1 : Int32).toInt = 1 from by decide] at nc8
                  rw [show (2 : Int32).toInt = 2 from by decide] at nc10
                  rw [show (3 : Int32).toInt = 3 from by decide] at nc12
                  exfalso
                  omega
                refine lv_iload_n hx hb dX11_seats_184 rfl (lv_at hl 3 rfl) ?_
                refine lv_bipush (v := (100 : Int32)) hx hb dX11_seats_185 (by decide) ?_
                refine lv_irem hx hb dX11_seats_187 (by decide) ?_
                refine lv_topi (fun v5 ev5 => ?_)
                have hf := lb_s hf ev5
                obtain rfl := Option.some.inj hf
                exact ret H _ ls _ rfl hP hD hS dX11_seats_188
      · have hf := xf hf c4
        refine lv_iload hx hb dX11_seats_29 (lv_at hl 4 rfl) ?_
        refine lv_iconst (v := (1 : Int32)) hx hb dX11_seats_31 (by decide) ?_
        refine lv_iadd hx hb dX11_seats_32 ?_
        refine lv_topi (fun v14 ev14 => ?_)
        have hf := lb_s hf ev14
        refine lv_istore (lv' := [(5, .int v14), (0, .ref a_this), (1, .int x0), (2, .int l2), (3, .int l3), (4, .int l4)]) hx hb dX11_seats_33 hl (by decide) rfl (fun ls hl => ?_)
        exact hL35 k22 ih FUEL l2 l3 l4 v14  H _ ls hP  hS (lv_sub hl [1, 2, 3, 4, 5, 0] rfl) hf
  unfold mX11_seats at hf
  refine lv_iload_n hx hb dX11_seats_0 rfl (lv_at hl 1 rfl) ?_
  refine lv_i2l hx hb dX11_seats_1 rfl ?_
  refine lv_lconst (v := (0 : Int64)) hx hb dX11_seats_2 rfl ?_
  refine lv_ldc2 (v := (4 : Int64)) hx hb hown w1 dX11_seats_3 ?_
  obtain ⟨o1, ho1, hf⟩ := ob_s hf
  refine xS_i (As := [.long (Int32.toInt64 x0), .long (0 : Int64), .long (4 : Int64)]) (rest := []) (ws2 := [(a_this, .inr (11, [.int i_length, .ref a_text, .ref a_roundMany, .ref a_blowMany, .ref a_blows, .ref a_forwards, .ref a_downs, .ref a_takens, .ref a_homes, .ref a_noises, .ref a_judgeMany, .ref a_judges, .ref a_delays, .ref a_tolds, .ref a_tens, .int i_keptMany, .int i_place, .ref a_told, .ref a_ways, .ref a_nextWays, .ref a_tallies, .ref a_presses, .ref a_values, .ref a_nextValues])), (a_blowMany, .inl (X.2.1 0, 2, .inl f_blowMany)), (a_blows, .inl (X.2.1 0, 400, .inl f_blows)), (a_roundMany, .inl (X.2.1 0, 2, .inl f_roundMany))]) hx hb hml hts hown hG hA hP hD rfl hS hl.1 (qX11_in l X (Int32.toInt64 x0) (0 : Int64) (4 : Int64) o1 ho1) (va_cwS (y := yX11_in) 3 hts gX11_seats_X11_in rfl rfl rfl hdsX11_in ⟨Nat.le_of_ble_eq_true rfl, Nat.le_of_ble_eq_true rfl⟩) [] [0, 1, 2, 3] [0, 1, 2, 3] rfl rfl rfl rfl rfl rfl rfl rfl rfl (Nat.le_of_ble_eq_true rfl) ⟨Nat.le_of_ble_eq_true rfl, Nat.le_of_ble_eq_true rfl⟩ dX11_seats_6 (fun H locs hP _ hS => ?_)
  refine lv_if_ne (tgt := 14) hx hb dX11_seats_9 (by decide) (fun c3 => ?_) (fun c3 => ?_)
  · have hf := xf hf c3
    refine lv_bipush (v := (-4 : Int32)) hx hb dX11_seats_14 (by decide) ?_
    refine lv_istore_n (lv' := [(2, .int (-4 : Int32)), (0, .ref a_this), (1, .int x0)]) hx hb dX11_seats_16 rfl hl (by decide) rfl (fun ls hl => ?_)
    refine lv_iconst (v := (0 : Int32)) hx hb dX11_seats_17 (by decide) ?_
    refine lv_istore_n (lv' := [(3, .int (0 : Int32)), (2, .int (-4 : Int32)), (0, .ref a_this), (1, .int x0)]) hx hb dX11_seats_18 rfl hl (by decide) rfl (fun ls hl => ?_)
    refine lv_iconst (v := (0 : Int32)) hx hb dX11_seats_19 (by decide) ?_
    refine lv_istore (lv' := [(4, .int (0 : Int32)), (3, .int (0 : Int32)), (2, .int (-4 : Int32)), (0, .ref a_this), (1, .int x0)]) hx hb dX11_seats_20 hl (by decide) rfl (fun ls hl => ?_)
    exact hL22  FUEL (-4 : Int32) (0 : Int32) (0 : Int32)  H _ ls hP  hS (lv_sub hl [3, 4, 2, 1, 0] rfl) hf
  · have hf := xt hf c3
    refine lv_iconst (v := (-1 : Int32)) hx hb dX11_seats_12 (by decide) ?_
    obtain rfl := Option.some.inj hf
    exact ret H _ ls _ rfl hP hD hS dX11_seats_13
