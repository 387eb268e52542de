def mX11_delay (x0 : Int32) (x1 : Int32) (f_delays : Nat → Int32) (f_judgeMany : Nat → Int32) :
  Option (Int32 × (Nat → Int32)) :=
  (mX11_isJudge x0 f_judgeMany).bind fun o1 =>
  if o1 = 0 then (some ((-1 : Int32), f_delays)) else ((mX11_in (Int32.toInt64 x1) (0 : Int64) (9 : Int64)).bind fun o4 =>
  if o4 = 0 then (some ((-1 : Int32), f_delays)) else (gi x0 24 <|
  lb (f_delays x0.toNatClampNeg) fun v8 =>
  gi x0 24 <|
  lb (upd f_delays x0.toNatClampNeg x1) fun g10 =>
  some (v8, g10)))
theorem hdsX11_delay : yX11_delay.cls ≠ "java/lang/invoke/MethodHandle" ∧ yX11_delay.cls ≠ "java/lang/invoke/VarHandle" ∧ (parseMethodDescriptor yX11_delay.desc).map (fun d => d.parameters.length) = some 2 := by decide +kernel
theorem hdvX11_delay : yX11_delay.cls = RX11 ∧ yX11_delay.cls ≠ "java/lang/invoke/MethodHandle" ∧ yX11_delay.cls ≠ "java/lang/invoke/VarHandle" ∧ (parseMethodDescriptor yX11_delay.desc).map (fun d => d.parameters.length) = some 2 := by decide +kernel
abbrev rmX11_delay : Room := { frames := 2, cells := 0, slots := 0, locals := 46 }
set_option maxHeartbeats 4000000 in
set_option maxRecDepth 100000 in
theorem qX11_delay (l : Launch) (X : XT) (a_this : Nat) (a_delays : Nat) (a_judgeMany : Nat) (a_text : Nat) (a_roundMany : Nat) (a_blowMany : Nat) (a_blows : Nat) (a_forwards : Nat) (a_downs : Nat) (a_takens : Nat) (a_homes : Nat) (a_noises : Nat) (a_judges : Nat) (a_tolds : Nat) (a_tens : Nat) (a_told : Nat) (a_ways : Nat) (a_nextWays : Nat) (a_tallies : Nat) (a_presses : Nat) (a_values : Nat) (a_nextValues : Nat)  (i_length : Int32) (i_keptMany : Int32) (i_place : Int32) (f_delays : Nat → Int32) (f_judgeMany : Nat → Int32) (x0 : Int32) (x1 : Int32) (o : Int32 × (Nat → Int32)) (hf : mX11_delay x0 x1 f_delays f_judgeMany = some o) :
    MI l yX11_delay wsX11_delay rmX11_delay X [.ref a_this, .int x0, .int x1] [(a_this, .inr (11, [.int i_length, .ref a_text, .ref a_roundMany, .ref a_blowMany, .ref a_blows, .ref a_forwards, .ref a_downs, .ref a_takens, .ref a_homes, .ref a_noises, .ref a_judgeMany, .ref a_judges, .ref a_delays, .ref a_tolds, .ref a_tens, .int i_keptMany, .int i_place, .ref a_told, .ref a_ways, .ref a_nextWays, .ref a_tallies, .ref a_presses, .ref a_values, .ref a_nextValues])), (a_delays, .inl (X.2.1 0, 24, .inl f_delays)), (a_judgeMany, .inl (X.2.1 0, 2, .inl f_judgeMany))]  [(a_this, .inr (11, [.int i_length, .ref a_text, .ref a_roundMany, .ref a_blowMany, .ref a_blows, .ref a_forwards, .ref a_downs, .ref a_takens, .ref a_homes, .ref a_noises, .ref a_judgeMany, .ref a_judges, .ref a_delays, .ref a_tolds, .ref a_tens, .int i_keptMany, .int i_place, .ref a_told, .ref a_ways, .ref a_nextWays, .ref a_tallies, .ref a_presses, .ref a_values, .ref a_nextValues])), (a_delays, .inl (X.2.1 0, 24, .inl o.2)), (a_judgeMany, .inl (X.2.1 0, 2, .inl f_judgeMany))] o.1 := by
  refine MI_ofH (cc := cX11_delay) (maxL := 4) (rt := .int) (by decide) rfl (Nat.le_of_ble_eq_true rfl) ?_
  intro p e s m below meth c A Q H ls hx hb hml hts hown hA hD hG hP hS hl ret
  have hown : s.vm.findClass RX11 = some m.cls := hown
  have hD : aD A [a_this, a_delays, a_judgeMany] := hD
  have hl : lv_has ls 4 [(0, .ref a_this), (1, .int x0), (2, .int x1)] := hl
  have w1 := hts (.constantLong RX11 107 (9)) (List.mem_of_getElem? (i := 1) rfl)
  have w2 := hts (.fieldLink RX11 43 "ThreeCardsModel" "delays" "[I") (List.mem_of_getElem? (i := 2) rfl)
  have in11 : ∀ w ∈ u_ws RX11 TX11 24, w ∈ wsX11_delay := by decide +kernel
  unfold mX11_delay at hf
  refine lv_aload_n hx hb dX11_delay_0 rfl (lv_at hl 0 rfl) ?_
  refine lv_iload_n hx hb dX11_delay_1 rfl (lv_at hl 1 rfl) ?_
  obtain ⟨o1, ho1, hf⟩ := ob_s hf
  refine xV_i (As := [.int x0]) (b := a_this) (rest := []) (ws2 := [(a_this, .inr (11, [.int i_length, .ref a_text, .ref a_roundMany, .ref a_blowMany, .ref a_blows, .ref a_forwards, .ref a_downs, .ref a_takens, .ref a_homes, .ref a_noises, .ref a_judgeMany, .ref a_judges, .ref a_delays, .ref a_tolds, .ref a_tens, .int i_keptMany, .int i_place, .ref a_told, .ref a_ways, .ref a_nextWays, .ref a_tallies, .ref a_presses, .ref a_values, .ref a_nextValues])), (a_delays, .inl (X.2.1 0, 24, .inl f_delays)), (a_judgeMany, .inl (X.2.1 0, 2, .inl f_judgeMany))]) hx hb hml hts hown hG hA hP hD rfl hS hl.1 (qX11_isJudge l X a_this a_judgeMany a_text a_roundMany a_blowMany a_blows a_forwards a_downs a_takens a_homes a_noises a_judges a_delays a_tolds a_tens a_told a_ways a_nextWays a_tallies a_presses a_values a_nextValues i_length i_keptMany i_place f_judgeMany x0 o1 ho1) (cwV (y := yX11_isJudge) 1 hts gX11_delay_X11_isJudge rfl rfl rfl hdvX11_isJudge ⟨Nat.le_of_ble_eq_true rfl, Nat.le_of_ble_eq_true rfl⟩) [0, 2] [1] [1, 0, 2] rfl rfl rfl rfl rfl rfl rfl (ci := 11) rfl 0 rfl rfl rfl (Nat.le_of_ble_eq_true rfl) ⟨Nat.le_of_ble_eq_true rfl, Nat.le_of_ble_eq_true rfl⟩ dX11_delay_2 (fun H locs hP _ hS => ?_)
  refine lv_if_eq (tgt := 20) hx hb dX11_delay_5 (by decide) (fun c3 => ?_) (fun c3 => ?_)
  · have hf := xt hf c3
    refine lv_iconst (v := (-1 : Int32)) hx hb dX11_delay_20 (by decide) ?_
    obtain rfl := Option.some.inj hf
    exact ret H _ ls _ rfl hP hD hS dX11_delay_21
  · have hf := xf hf c3
    refine lv_iload_n hx hb dX11_delay_8 rfl (lv_at hl 2 rfl) ?_
    refine lv_i2l hx hb dX11_delay_9 rfl ?_
    refine lv_lconst (v := (0 : Int64)) hx hb dX11_delay_10 rfl ?_
    refine lv_ldc2 (v := (9 : Int64)) hx hb hown w1 dX11_delay_11 ?_
    obtain ⟨o4, ho4, hf⟩ := ob_s hf
    refine xS_i (As := [.long (Int32.toInt64 x1), .long (0 : Int64), .long (9 : Int64)]) (rest := []) (ws2 := [(a_this, .inr (11, [.int i_length, .ref a_text, .ref a_roundMany, .ref a_blowMany, .ref a_blows, .ref a_forwards, .ref a_downs, .ref a_takens, .ref a_homes, .ref a_noises, .ref a_judgeMany, .ref a_judges, .ref a_delays, .ref a_tolds, .ref a_tens, .int i_keptMany, .int i_place, .ref a_told, .ref a_ways, .ref a_nextWays, .ref a_tallies, .ref a_presses, .ref a_values, .ref a_nextValues])), (a_delays, .inl (X.2.1 0, 24, .inl f_delays)), (a_judgeMany, .inl (X.2.1 0, 2, .inl f_judgeMany))]) hx hb hml hts hown hG hA hP hD rfl hS hl.1 (qX11_in l X (Int32.toInt64 x1) (0 : Int64) (9 : Int64) o4 ho4) (va_cwS (y := yX11_in) 3 hts gX11_delay_X11_in rfl rfl rfl hdsX11_in ⟨Nat.le_of_ble_eq_true rfl, Nat.le_of_ble_eq_true rfl⟩) [] [0, 1, 2] [0, 1, 2] rfl rfl rfl rfl rfl rfl rfl rfl rfl (Nat.le_of_ble_eq_true rfl) ⟨Nat.le_of_ble_eq_true rfl, Nat.le_of_ble_eq_true rfl⟩ dX11_delay_14 (fun H locs hP _ hS => ?_)
    refine lv_if_ne (tgt := 22) hx hb dX11_delay_17 (by decide) (fun c6 => ?_) (fun c6 => ?_)
    · have hf := xf hf c6
      refine lv_aload_n hx hb dX11_delay_22 rfl (lv_at hl 0 rfl) ?_
      refine va_get (D := X.1) (ci := 11) (v := .ref a_delays) (C := RX11) (T := TX11) (N := 24) hx hb hts in11 hown hG.1 hP 0 rfl rfl 12 (by decide) w2 (fun _ h9 => h9) rfl dX11_delay_23 ?_
      refine lv_iload_n hx hb dX11_delay_26 rfl (lv_at hl 1 rfl) ?_
      obtain ⟨h7, hf⟩ := gi_s hf
      refine va_iald (D := X.1) hx hb hG.1 hP 1 0 rfl rfl h7 dX11_delay_27 ?_
      refine lv_topi (fun v8 ev8 => ?_)
      have hf := lb_s hf ev8
      refine lv_istore_n (lv' := [(3, .int v8), (0, .ref a_this), (1, .int x0), (2, .int x1)]) hx hb dX11_delay_28 rfl hl (by decide) rfl (fun ls hl => ?_)
      refine lv_aload_n hx hb dX11_delay_29 rfl (lv_at hl 1 rfl) ?_
      refine va_get (D := X.1) (ci := 11) (v := .ref a_delays) (C := RX11) (T := TX11) (N := 24) hx hb hts in11 hown hG.1 hP 0 rfl rfl 12 (by decide) w2 (fun _ h9 => h9) rfl dX11_delay_30 ?_
      refine lv_iload_n hx hb dX11_delay_33 rfl (lv_at hl 2 rfl) ?_
      refine lv_iload_n hx hb dX11_delay_34 rfl (lv_at hl 3 rfl) ?_
      obtain ⟨h9, hf⟩ := gi_s hf
      obtain ⟨g10, eg10, hf⟩ := lb_g hf
      refine x_iast (ws' := [(a_this, .inr (11, [.int i_length, .ref a_text, .ref a_roundMany, .ref a_blowMany, .ref a_blows, .ref a_forwards, .ref a_downs, .ref a_takens, .ref a_homes, .ref a_noises, .ref a_judgeMany, .ref a_judges, .ref a_delays, .ref a_tolds, .ref a_tens, .int i_keptMany, .int i_place, .ref a_told, .ref a_ways, .ref a_nextWays, .ref a_tallies, .ref a_presses, .ref a_values, .ref a_nextValues])), (a_delays, .inl (X.2.1 0, 24, .inl g10)), (a_judgeMany, .inl (X.2.1 0, 2, .inl f_judgeMany))]) hx hb hG hP hD rfl hS 1 rfl h9 dX11_delay_35 eg10 rfl (fun H locs hP hS => ?_)
      refine lv_iload_n hx hb dX11_delay_36 rfl (lv_at hl 0 rfl) ?_
      obtain rfl := Option.some.inj hf
      exact ret H _ ls _ rfl hP hD hS dX11_delay_37
    · have hf := xt hf c6
      refine lv_iconst (v := (-1 : Int32)) hx hb dX11_delay_20 (by decide) ?_
      obtain rfl := Option.some.inj hf
      exact ret H _ ls _ rfl hP hD hS dX11_delay_21
def mX11_pressOf_B3 (x0 : Int32) (x1 : Int32) (x2 : Int32) (f_presses : Nat → Int32) (k3 : Int32 → Option (Int32)) (l4 : Int32) :
  Option (Int32) :=
  if x2 < l4 then (some (-4 : Int32)) else (if (190 : Int32) ≤ l4 then (some (-4 : Int32)) else (gi (((8 : Int32) * l4) + x0) 1520 <|
  if (f_presses (((8 : Int32) * l4) + x0).toNatClampNeg) ≤ 0 then (lb (l4 + (1 : Int32)) fun v5 =>
  k3 v5) else (some l4)))
def mX11_pressOf_L3 (x0 : Int32) (x1 : Int32) (x2 : Int32) (f_presses : Nat → Int32) (n : Nat) (l4 : Int32) :
  Option (Int32) :=
  loopN (fun k (s : Int32) => mX11_pressOf_B3 x0 x1 x2 f_presses  (k) s) n (l4)
def mX11_pressOf (x0 : Int32) (x1 : Int32) (x2 : Int32) (f_presses : Nat → Int32) :
  Option (Int32) :=
  mX11_pressOf_L3 x0 x1 x2 f_presses  FUEL x1
theorem hdsX11_pressOf : yX11_pressOf.cls ≠ "java/lang/invoke/MethodHandle" ∧ yX11_pressOf.cls ≠ "java/lang/invoke/VarHandle" ∧ (parseMethodDescriptor yX11_pressOf.desc).map (fun d => d.parameters.length) = some 3 := by decide +kernel
theorem hdvX11_pressOf : yX11_pressOf.cls = RX11 ∧ yX11_pressOf.cls ≠ "java/lang/invoke/MethodHandle" ∧ yX11_pressOf.cls ≠ "java/lang/invoke/VarHandle" ∧ (parseMethodDescriptor yX11_pressOf.desc).map (fun d => d.parameters.length) = some 3 := by decide +kernel
abbrev rmX11_pressOf : Room := { frames := 0, cells := 0, slots := 0, locals := 0 }
set_option maxHeartbeats 4000000 in
set_option maxRecDepth 100000 in
theorem qX11_pressOf (l : Launch) (X : XT) (a_this : Nat) (a_presses : Nat) (a_text : Nat) (a_roundMany : Nat) (a_blowMany : Nat) (a_blows : Nat) (a_forwards : Nat) (a_downs : Nat) (a_takens : Nat) (a_homes : Nat) (a_noises : Nat) (a_judgeMany : Nat) (a_judges : Nat) (a_delays : Nat) (a_tolds : Nat) (a_tens : Nat) (a_told : Nat) (a_ways : Nat) (a_nextWays : Nat) (a_tallies : Nat) (a_values : Nat) (a_nextValues : Nat)  (i_length : Int32) (i_keptMany : Int32) (i_place : Int32) (f_presses : Nat → Int32) (x0 : Int32) (x1 : Int32) (x2 : Int32) (o : Int32) (hf : mX11_pressOf x0 x1 x2 f_presses = some o) :
    MI l yX11_pressOf wsX11_pressOf rmX11_pressOf X [.ref a_this, .int x0, .int x1, .int x2] [(a_this, .inr (11, [.int i_length, .ref a_text, .ref a_roundMany, .ref a_blowMany, .ref a_blows, .ref a_forwards, .ref a_downs, .ref a_takens, .ref a_homes, .ref a_noises, .ref a_judgeMany, .ref a_judges, .ref a_delays, .ref a_tolds, .ref a_tens, .int i_keptMany, .int i_place, .ref a_told, .ref a_ways, .ref a_nextWays, .ref a_tallies, .ref a_presses, .ref a_values, .ref a_nextValues])), (a_presses, .inl (X.2.1 0, 1520, .inl f_presses))]  [(a_this, .inr (11, [.int i_length, .ref a_text, .ref a_roundMany, .ref a_blowMany, .ref a_blows, .ref a_forwards, .ref a_downs, .ref a_takens, .ref a_homes, .ref a_noises, .ref a_judgeMany, .ref a_judges, .ref a_delays, .ref a_tolds, .ref a_tens, .int i_keptMany, .int i_place, .ref a_told, .ref a_ways, .ref a_nextWays, .ref a_tallies, .ref a_presses, .ref a_values, .ref a_nextValues])), (a_presses, .inl (X.2.1 0, 1520, .inl f_presses))] o := by
  refine MI_ofH (cc := cX11_pressOf) (maxL := 5) (rt := .int) (by decide) rfl (Nat.le_of_ble_eq_true rfl) ?_
  intro p e s m below meth c A Q H ls hx hb hml hts hown hA hD hG hP hS hl ret
  have hown : s.vm.findClass RX11 = some m.cls := hown
  have hD : aD A [a_this, a_presses] := hD
  have hl : lv_has ls 5 [(0, .ref a_this), (1, .int x0), (2, .int x1), (3, .int x2)] := hl
  have w1 := hts (.fieldLink RX11 65 "ThreeCardsModel" "presses" "[I") (List.mem_of_getElem? (i := 1) rfl)
  have in11 : ∀ w ∈ u_ws RX11 TX11 24, w ∈ wsX11_pressOf := by decide +kernel
  have hL3 : ∀ (n : Nat) (l4 : Int32)  (H : Heap) (locs : List Loc) (ls : Array Slot), va_P X.1 vwCl [(a_this, .inr (11, [.int i_length, .ref a_text, .ref a_roundMany, .ref a_blowMany, .ref a_blows, .ref a_forwards, .ref a_downs, .ref a_takens, .ref a_homes, .ref a_noises, .ref a_judgeMany, .ref a_judges, .ref a_delays, .ref a_tolds, .ref a_tens, .int i_keptMany, .int i_place, .ref a_told, .ref a_ways, .ref a_nextWays, .ref a_tallies, .ref a_presses, .ref a_values, .ref a_nextValues])), (a_presses, .inl (X.2.1 0, 1520, .inl f_presses))] H → va_S A s.heap H locs → lv_has ls 5 [(0, .ref a_this), (1, .int x0), (3, .int x2), (4, .int l4)] → mX11_pressOf_L3 x0 x1 x2 f_presses  n l4 = some o → W p l e rmX11_pressOf s m ([.ref a_this, .int x0, .int x1, .int x2] : List Value).toArray below meth c H locs 0 0 Q (F0 m 3 ls []) := by
    intro n
    induction n with
    | zero => intro l4  H locs ls hP hS hl hf; exact xn hf
    | succ n ih =>
      intro l4  H locs ls hP hS hl hf
      have hf : mX11_pressOf_B3 x0 x1 x2 f_presses  (mX11_pressOf_L3 x0 x1 x2 f_presses  n) l4 = some o := hf
      generalize mX11_pressOf_L3 x0 x1 x2 f_presses  n = k3 at ih hf
      unfold mX11_pressOf_B3 at hf
      refine lv_iload hx hb dX11_pressOf_3 (lv_at hl 3 rfl) ?_
      refine lv_iload_n hx hb dX11_pressOf_5 rfl (lv_at hl 2 rfl) ?_
      refine lv_icmp_gt (tgt := 41) hx hb dX11_pressOf_6 (by decide) (fun c1 => ?_) (fun c1 => ?_)
      · have hf := xt hf c1
        refine lv_bipush (v := (-4 : Int32)) hx hb dX11_pressOf_41 (by decide) ?_
        obtain rfl := Option.some.inj hf
        exact ret H _ ls _ rfl hP hD hS dX11_pressOf_43
      · have hf := xf hf c1
        refine lv_iload hx hb dX11_pressOf_9 (lv_at hl 3 rfl) ?_
        refine lv_sipush (v := (190 : Int32)) hx hb dX11_pressOf_11 (by decide) ?_
        refine lv_icmp_ge (tgt := 41) hx hb dX11_pressOf_14 (by decide) (fun c2 => ?_) (fun c2 => ?_)
        · have hf := xt hf c2
          refine lv_bipush (v := (-4 : Int32)) hx hb dX11_pressOf_41 (by decide) ?_
          obtain rfl := Option.some.inj hf
          exact ret H _ ls _ rfl hP hD hS dX11_pressOf_43
        · have hf := xf hf c2
          refine lv_aload_n hx hb dX11_pressOf_17 rfl (lv_at hl 0 rfl) ?_
          refine va_get (D := X.1) (ci := 11) (v := .ref a_presses) (C := RX11) (T := TX11) (N := 24) hx hb hts in11 hown hG.1 hP 0 rfl rfl 21 (by decide) w1 (fun _ h9 => h9) rfl dX11_pressOf_18 ?_
          refine lv_bipush (v := (8 : Int32)) hx hb dX11_pressOf_21 (by decide) ?_
          refine lv_iload hx hb dX11_pressOf_23 (lv_at hl 3 rfl) ?_
          refine lv_imul hx hb dX11_pressOf_25 ?_
          refine lv_iload_n hx hb dX11_pressOf_26 rfl (lv_at hl 1 rfl) ?_
          refine lv_iadd hx hb dX11_pressOf_27 ?_
          obtain ⟨h3, hf⟩ := gi_s hf
          refine va_iald (D := X.1) hx hb hG.1 hP 1 0 rfl rfl h3 dX11_pressOf_28 ?_
          refine lv_if_le (tgt := 35) hx hb dX11_pressOf_29 (by decide) (fun c4 => ?_) (fun c4 => ?_)
          · have hf := xt hf c4
            obtain ⟨v5, ev5, hf⟩ := lb_g hf
            refine lv_iinc (v := v5) (lv' := [(4, .int v5), (0, .ref a_this), (1, .int x0), (3, .int x2)]) hx hb dX11_pressOf_35 hl (k := 3) rfl ev5.symm (by decide) rfl (fun ls hl => ?_)
            refine lv_goto (tgt := 3) hx hb dX11_pressOf_38 (by decide) ?_
            exact ih v5  H _ ls hP  hS (lv_sub hl [1, 2, 3, 0] rfl) hf
          · have hf := xf hf c4
            refine lv_iload hx hb dX11_pressOf_32 (lv_at hl 3 rfl) ?_
            obtain rfl := Option.some.inj hf
            exact ret H _ ls _ rfl hP hD hS dX11_pressOf_34
  unfold mX11_pressOf at hf
  refine lv_iload_n hx hb dX11_pressOf_0 rfl (lv_at hl 2 rfl) ?_
  refine lv_istore (lv' := [(4, .int x1), (0, .ref a_this), (1, .int x0), (2, .int x1), (3, .int x2)]) hx hb dX11_pressOf_1 hl (by decide) rfl (fun ls hl => ?_)
  exact hL3  FUEL x1  H _ ls hP  hS (lv_sub hl [1, 2, 4, 0] rfl) hf
def mX11_pressing_B5 (x0 : Int32) (x1 : Int32) (f_presses : Nat → Int32) (k5 : Int32 → Int32 → Option (Int32)) (l3 : Int32) (l4 : Int32) :
  Option (Int32) :=
  if (8 : Int32) ≤ l4 then (some l3) else ((mX11_pressOf l4 x0 (x0 + x1) f_presses).bind fun o2 =>
  if o2 < 0 then (lb (l3 + (0 : Int32)) fun v5 =>
  lb (l4 + (1 : Int32)) fun v6 =>
  k5 v5 v6) else (lb (l3 + (1 : Int32)) fun v7 =>
  lb (l4 + (1 : Int32)) fun v8 =>
  k5 v7 v8))
def mX11_pressing_L5 (x0 : Int32) (x1 : Int32) (f_presses : Nat → Int32) (n : Nat) (l3 : Int32) (l4 : Int32) :
  Option (Int32) :=
  loopN (fun k (s : Int32 × Int32) => mX11_pressing_B5 x0 x1 f_presses  (fun l3 l4 => k (l3, l4)) s.1 s.2) n (l3, l4)
def mX11_pressing (x0 : Int32) (x1 : Int32) (f_presses : Nat → Int32) :
  Option (Int32) :=
  mX11_pressing_L5 x0 x1 f_presses  FUEL (0 : Int32) (0 : Int32)
theorem hdsX11_pressing : yX11_pressing.cls ≠ "java/lang/invoke/MethodHandle" ∧ yX11_pressing.cls ≠ "java/lang/invoke/VarHandle" ∧ (parseMethodDescriptor yX11_pressing.desc).map (fun d => d.parameters.length) = some 2 := by decide +kernel
theorem hdvX11_pressing : yX11_pressing.cls = RX11 ∧ yX11_pressing.cls ≠ "java/lang/invoke/MethodHandle" ∧ yX11_pressing.cls ≠ "java/lang/invoke/VarHandle" ∧ (parseMethodDescriptor yX11_pressing.desc).map (fun d => d.parameters.length) = some 2 := by decide +kernel
abbrev rmX11_pressing : Room := { frames := 1, cells := 0, slots := 0, locals := 24 }
set_option maxHeartbeats 4000000 in
set_option maxRecDepth 100000 in
theorem qX11_pressing (l : Launch) (X : XT) (a_this : Nat) (a_presses : Nat) (a_text : Nat) (a_roundMany : Nat) (a_blowMany : Nat) (a_blows : Nat) (a_forwards : Nat) (a_downs : Nat) (a_takens : Nat) (a_homes : Nat) (a_noises : Nat) (a_judgeMany : Nat) (a_judges : Nat) (a_delays : Nat) (a_tolds : Nat) (a_tens : Nat) (a_told : Nat) (a_ways : Nat) (a_nextWays : Nat) (a_tallies : Nat) (a_values : Nat) (a_nextValues : Nat)  (i_length : Int32) (i_keptMany : Int32) (i_place : Int32) (f_presses : Nat → Int32) (x0 : Int32) (x1 : Int32) (o : Int32) (hf : mX11_pressing x0 x1 f_presses = some o) :
    MI l yX11_pressing wsX11_pressing rmX11_pressing X [.ref a_this, .int x0, .int x1] [(a_this, .inr (11, [.int i_length, .ref a_text, .ref a_roundMany, .ref a_blowMany, .ref a_blows, .ref a_forwards, .ref a_downs, .ref a_takens, .ref a_homes, .ref a_noises, .ref a_judgeMany, .ref a_judges, .ref a_delays, .ref a_tolds, .ref a_tens, .int i_keptMany, .int i_place, .ref a_told, .ref a_ways, .ref a_nextWays, .ref a_tallies, .ref a_presses, .ref a_values, .ref a_nextValues])), (a_presses, .inl (X.2.1 0, 1520, .inl f_presses))]  [(a_this, .inr (11, [.int i_length, .ref a_text, .ref a_roundMany, .ref a_blowMany, .ref a_blows, .ref a_forwards, .ref a_downs, .ref a_takens, .ref a_homes, .ref a_noises, .ref a_judgeMany, .ref a_judges, .ref a_delays, .ref a_tolds, .ref a_tens, .int i_keptMany, .int i_place, .ref a_told, .ref a_ways, .ref a_nextWays, .ref a_tallies, .ref a_presses, .ref a_values, .ref a_nextValues])), (a_presses, .inl (X.2.1 0, 1520, .inl f_presses))] o := by
  refine MI_ofH (cc := cX11_pressing) (maxL := 5) (rt := .int) (by decide) rfl (Nat.le_of_ble_eq_true rfl) ?_
  intro p e s m below meth c A Q H ls hx hb hml hts hown hA hD hG hP hS hl ret
  have hown : s.vm.findClass RX11 = some m.cls := hown
  have hD : aD A [a_this, a_presses] := hD
  have hl : lv_has ls 5 [(0, .ref a_this), (1, .int x0), (2, .int x1)] := hl
  have hL5 : ∀ (n : Nat) (l3 : Int32) (l4 : Int32)  (H : Heap) (locs : List Loc) (ls : Array Slot), va_P X.1 vwCl [(a_this, .inr (11, [.int i_length, .ref a_text, .ref a_roundMany, .ref a_blowMany, .ref a_blows, .ref a_forwards, .ref a_downs, .ref a_takens, .ref a_homes, .ref a_noises, .ref a_judgeMany, .ref a_judges, .ref a_delays, .ref a_tolds, .ref a_tens, .int i_keptMany, .int i_place, .ref a_told, .ref a_ways, .ref a_nextWays, .ref a_tallies, .ref a_presses, .ref a_values, .ref a_nextValues])), (a_presses, .inl (X.2.1 0, 1520, .inl f_presses))] H → va_S A s.heap H locs → lv_has ls 5 [(0, .ref a_this), (1, .int x0), (2, .int x1), (3, .int l3), (4, .int l4)] → mX11_pressing_L5 x0 x1 f_presses  n l3 l4 = some o → W p l e rmX11_pressing s m ([.ref a_this, .int x0, .int x1] : List Value).toArray below meth c H locs 0 0 Q (F0 m 5 ls []) := by
    intro n
    induction n with
    | zero => intro l3 l4  H locs ls hP hS hl hf; exact xn hf
    | succ n ih =>
      intro l3 l4  H locs ls hP hS hl hf
      have hf : mX11_pressing_B5 x0 x1 f_presses  (mX11_pressing_L5 x0 x1 f_presses  n) l3 l4 = some o := hf
      generalize mX11_pressing_L5 x0 x1 f_presses  n = k5 at ih hf
      unfold mX11_pressing_B5 at hf
      refine lv_iload hx hb dX11_pressing_5 (lv_at hl 4 rfl) ?_
      refine lv_bipush (v := (8 : Int32)) hx hb dX11_pressing_7 (by decide) ?_
      refine lv_icmp_ge (tgt := 39) hx hb dX11_pressing_9 (by decide) (fun c1 => ?_) (fun c1 => ?_)
      · have hf := xt hf c1
        refine lv_iload_n hx hb dX11_pressing_39 rfl (lv_at hl 3 rfl) ?_
        obtain rfl := Option.some.inj hf
        exact ret H _ ls _ rfl hP hD hS dX11_pressing_40
      · have hf := xf hf c1
        refine lv_iload_n hx hb dX11_pressing_12 rfl (lv_at hl 3 rfl) ?_
        refine lv_aload_n hx hb dX11_pressing_13 rfl (lv_at hl 0 rfl) ?_
        refine lv_iload hx hb dX11_pressing_14 (lv_at hl 4 rfl) ?_
        refine lv_iload_n hx hb dX11_pressing_16 rfl (lv_at hl 1 rfl) ?_
        refine lv_iload_n hx hb dX11_pressing_17 rfl (lv_at hl 1 rfl) ?_
        refine lv_iload_n hx hb dX11_pressing_18 rfl (lv_at hl 2 rfl) ?_
        refine lv_iadd hx hb dX11_pressing_19 ?_
        obtain ⟨o2, ho2, hf⟩ := ob_s hf
        refine xV_i (As := [.int l4, .int x0, .int (x0 + x1)]) (b := a_this) (rest := [.int l3]) (ws2 := [(a_this, .inr (11, [.int i_length, .ref a_text, .ref a_roundMany, .ref a_blowMany, .ref a_blows, .ref a_forwards, .ref a_downs, .ref a_takens, .ref a_homes, .ref a_noises, .ref a_judgeMany, .ref a_judges, .ref a_delays, .ref a_tolds, .ref a_tens, .int i_keptMany, .int i_place, .ref a_told, .ref a_ways, .ref a_nextWays, .ref a_tallies, .ref a_presses, .ref a_values, .ref a_nextValues])), (a_presses, .inl (X.2.1 0, 1520, .inl f_presses))]) hx hb hml hts hown hG hA hP hD rfl hS hl.1 (qX11_pressOf l X a_this a_presses a_text a_roundMany a_blowMany a_blows a_forwards a_downs a_takens a_homes a_noises a_judgeMany a_judges a_delays a_tolds a_tens a_told a_ways a_nextWays a_tallies a_values a_nextValues i_length i_keptMany i_place f_presses l4 x0 (x0 + x1) o2 ho2) (cwV (y := yX11_pressOf) 3 hts gX11_pressing_X11_pressOf rfl rfl rfl hdvX11_pressOf ⟨Nat.le_of_ble_eq_true rfl, Nat.le_of_ble_eq_true rfl⟩) [0, 1] [] [0, 1] rfl rfl rfl rfl rfl rfl rfl (ci := 11) rfl 0 rfl rfl rfl (Nat.le_of_ble_eq_true rfl) ⟨Nat.le_of_ble_eq_true rfl, Nat.le_of_ble_eq_true rfl⟩ dX11_pressing_20 (fun H locs hP _ hS => ?_)
        refine lv_if_lt (tgt := 30) hx hb dX11_pressing_23 (by decide) (fun c4 => ?_) (fun c4 => ?_)
        · have hf := xt hf c4
          refine lv_iconst (v := (0 : Int32)) hx hb dX11_pressing_30 (by decide) ?_
          refine lv_iadd hx hb dX11_pressing_31 ?_
          refine lv_topi (fun v5 ev5 => ?_)
          have hf := lb_s hf ev5
          refine lv_istore_n (lv' := [(3, .int v5), (0, .ref a_this), (1, .int x0), (2, .int x1), (4, .int l4)]) hx hb dX11_pressing_32 rfl hl (by decide) rfl (fun ls hl => ?_)
          obtain ⟨v6, ev6, hf⟩ := lb_g hf
          refine lv_iinc (v := v6) (lv' := [(4, .int v6), (3, .int v5), (0, .ref a_this), (1, .int x0), (2, .int x1)]) hx hb dX11_pressing_33 hl (k := 4) rfl ev6.symm (by decide) rfl (fun ls hl => ?_)
          refine lv_goto (tgt := 5) hx hb dX11_pressing_36 (by decide) ?_
          exact ih v5 v6  H _ ls hP  hS (lv_sub hl [2, 3, 4, 1, 0] rfl) hf
        · have hf := xf hf c4
          refine lv_iconst (v := (1 : Int32)) hx hb dX11_pressing_26 (by decide) ?_
          refine lv_goto (tgt := 31) hx hb dX11_pressing_27 (by decide) ?_
          refine lv_iadd hx hb dX11_pressing_31 ?_
          refine lv_topi (fun v7 ev7 => ?_)
          have hf := lb_s hf ev7
          refine lv_istore_n (lv' := [(3, .int v7), (0, .ref a_this), (1, .int x0), (2, .int x1), (4, .int l4)]) hx hb dX11_pressing_32 rfl hl (by decide) rfl (fun ls hl => ?_)
          obtain ⟨v8, ev8, hf⟩ := lb_g hf
          refine lv_iinc (v := v8) (lv' := [(4, .int v8), (3, .int v7), (0, .ref a_this), (1, .int x0), (2, .int x1)]) hx hb dX11_pressing_33 hl (k := 4) rfl ev8.symm (by decide) rfl (fun ls hl => ?_)
          refine lv_goto (tgt := 5) hx hb dX11_pressing_36 (by decide) ?_
          exact ih v7 v8  H _ ls hP  hS (lv_sub hl [2, 3, 4, 1, 0] rfl) hf
  unfold mX11_pressing at hf
  refine lv_iconst (v := (0 : Int32)) hx hb dX11_pressing_0 (by decide) ?_
  refine lv_istore_n (lv' := [(3, .int (0 : Int32)), (0, .ref a_this), (1, .int x0), (2, .int x1)]) hx hb dX11_pressing_1 rfl hl (by decide) rfl (fun ls hl => ?_)
  refine lv_iconst (v := (0 : Int32)) hx hb dX11_pressing_2 (by decide) ?_
  refine lv_istore (lv' := [(4, .int (0 : Int32)), (3, .int (0 : Int32)), (0, .ref a_this), (1, .int x0), (2, .int x1)]) hx hb dX11_pressing_3 hl (by decide) rfl (fun ls hl => ?_)
  exact hL5  FUEL (0 : Int32) (0 : Int32)  H _ ls hP  hS (lv_sub hl [2, 3, 4, 1, 0] rfl) hf
def mX11_use_B2 (x0 : Int32) (x1 : Int32) (k2 : Int32 → (Nat → Int32) → Option ((Nat → Int32))) (l3 : Int32) (f_presses : Nat → Int32) :
  Option ((Nat → Int32)) :=
  if (8 : Int32) ≤ l3 then (some f_presses) else ((mX11_pressOf l3 x0 (x0 + x1) f_presses).bind fun o2 =>
  if o2 < 0 then (lb (l3 + (1 : Int32)) fun v5 =>
  k2 v5 f_presses) else (lb (((8 : Int32) * o2) + l3) fun v6 =>
  gi v6 1520 <|
  gi v6 1520 <|
  lb (upd f_presses v6.toNatClampNeg ((f_presses v6.toNatClampNeg) - (1 : Int32))) fun g9 =>
  lb (l3 + (1 : Int32)) fun v10 =>
  k2 v10 g9))
def mX11_use_L2 (x0 : Int32) (x1 : Int32) (n : Nat) (l3 : Int32) (f_presses : Nat → Int32) :
  Option ((Nat → Int32)) :=
  loopN (fun k (s : Int32 × (Nat → Int32)) => mX11_use_B2 x0 x1  (fun l3 f_presses => k (l3, f_presses)) s.1 s.2) n (l3, f_presses)
def mX11_use (x0 : Int32) (x1 : Int32) (f_presses : Nat → Int32) :
  Option ((Nat → Int32)) :=
  mX11_use_L2 x0 x1  FUEL (0 : Int32) f_presses
theorem hdsX11_use : yX11_use.cls ≠ "java/lang/invoke/MethodHandle" ∧ yX11_use.cls ≠ "java/lang/invoke/VarHandle" ∧ (parseMethodDescriptor yX11_use.desc).map (fun d => d.parameters.length) = some 2 := by decide +kernel
theorem hdvX11_use : yX11_use.cls = RX11 ∧ yX11_use.cls ≠ "java/lang/invoke/MethodHandle" ∧ yX11_use.cls ≠ "java/lang/invoke/VarHandle" ∧ (parseMethodDescriptor yX11_use.desc).map (fun d => d.parameters.length) = some 2 := by decide +kernel
abbrev rmX11_use : Room := { frames := 1, cells := 0, slots := 0, locals := 24 }
set_option maxHeartbeats 4000000 in
set_option maxRecDepth 100000 in
theorem qX11_use (l : Launch) (X : XT) (a_this : Nat) (a_presses : Nat) (a_text : Nat) (a_roundMany : Nat) (a_blowMany : Nat) (a_blows : Nat) (a_forwards : Nat) (a_downs : Nat) (a_takens : Nat) (a_homes : Nat) (a_noises : Nat) (a_judgeMany : Nat) (a_judges : Nat) (a_delays : Nat) (a_tolds : Nat) (a_tens : Nat) (a_told : Nat) (a_ways : Nat) (a_nextWays : Nat) (a_tallies : Nat) (a_values : Nat) (a_nextValues : Nat)  (i_length : Int32) (i_keptMany : Int32) (i_place : Int32) (f_presses : Nat → Int32) (x0 : Int32) (x1 : Int32) (o : (Nat → Int32)) (hf : mX11_use x0 x1 f_presses = some o) :
    MC l yX11_use wsX11_use rmX11_use X [.ref a_this, .int x0, .int x1] [(a_this, .inr (11, [.int i_length, .ref a_text, .ref a_roundMany, .ref a_blowMany, .ref a_blows, .ref a_forwards, .ref a_downs, .ref a_takens, .ref a_homes, .ref a_noises, .ref a_judgeMany, .ref a_judges, .ref a_delays, .ref a_tolds, .ref a_tens, .int i_keptMany, .int i_place, .ref a_told, .ref a_ways, .ref a_nextWays, .ref a_tallies, .ref a_presses, .ref a_values, .ref a_nextValues])), (a_presses, .inl (X.2.1 0, 1520, .inl f_presses))]  (fun _ => [(a_this, .inr (11, [.int i_length, .ref a_text, .ref a_roundMany, .ref a_blowMany, .ref a_blows, .ref a_forwards, .ref a_downs, .ref a_takens, .ref a_homes, .ref a_noises, .ref a_judgeMany, .ref a_judges, .ref a_delays, .ref a_tolds, .ref a_tens, .int i_keptMany, .int i_place, .ref a_told, .ref a_ways, .ref a_nextWays, .ref a_tallies, .ref a_presses, .ref a_values, .ref a_nextValues])), (a_presses, .inl (X.2.1 0, 1520, .inl o))]) 0 0 := by
  refine MC_ofH (cc := cX11_use) (maxL := 5) (by decide) rfl (Nat.le_of_ble_eq_true rfl) ?_
  intro p e s m below meth c A Q H ls hx hb hml hts hown hin hA hD hG hP hS hl ret
  have hown : s.vm.findClass RX11 = some m.cls := hown
  have hD : aD A [a_this, a_presses] := hD
  have hl : lv_has ls 5 [(0, .ref a_this), (1, .int x0), (2, .int x1)] := hl
  have w1 := hts (.fieldLink RX11 65 "ThreeCardsModel" "presses" "[I") (List.mem_of_getElem? (i := 1) rfl)
  have in11 : ∀ w ∈ u_ws RX11 TX11 24, w ∈ wsX11_use := by decide +kernel
  have hL2 : ∀ (n : Nat) (l3 : Int32) (f_presses : Nat → Int32)  (H : Heap) (locs : List Loc) (ls : Array Slot), va_P X.1 vwCl [(a_this, .inr (11, [.int i_length, .ref a_text, .ref a_roundMany, .ref a_blowMany, .ref a_blows, .ref a_forwards, .ref a_downs, .ref a_takens, .ref a_homes, .ref a_noises, .ref a_judgeMany, .ref a_judges, .ref a_delays, .ref a_tolds, .ref a_tens, .int i_keptMany, .int i_place, .ref a_told, .ref a_ways, .ref a_nextWays, .ref a_tallies, .ref a_presses, .ref a_values, .ref a_nextValues])), (a_presses, .inl (X.2.1 0, 1520, .inl f_presses))] H → va_S A s.heap H locs → lv_has ls 5 [(0, .ref a_this), (1, .int x0), (2, .int x1), (3, .int l3)] → mX11_use_L2 x0 x1  n l3 f_presses = some o → W p l e rmX11_use s m ([.ref a_this, .int x0, .int x1] : List Value).toArray below meth c H locs 0 0 Q (F0 m 2 ls []) := by
    intro n
    induction n with
    | zero => intro l3 f_presses  H locs ls hP hS hl hf; exact xn hf
    | succ n ih =>
      intro l3 f_presses  H locs ls hP hS hl hf
      have hf : mX11_use_B2 x0 x1  (mX11_use_L2 x0 x1  n) l3 f_presses = some o := hf
      generalize mX11_use_L2 x0 x1  n = k2 at ih hf
      unfold mX11_use_B2 at hf
      refine lv_iload_n hx hb dX11_use_2 rfl (lv_at hl 3 rfl) ?_
      refine lv_bipush (v := (8 : Int32)) hx hb dX11_use_3 (by decide) ?_
      refine lv_icmp_ge (tgt := 46) hx hb dX11_use_5 (by decide) (fun c1 => ?_) (fun c1 => ?_)
      · have hf := xt hf c1
        obtain rfl := Option.some.inj hf
        exact ret (fun _ => 0) H _ ls _ hP hD hS dX11_use_46
      · have hf := xf hf c1
        refine lv_aload_n hx hb dX11_use_8 rfl (lv_at hl 0 rfl) ?_
        refine lv_iload_n hx hb dX11_use_9 rfl (lv_at hl 3 rfl) ?_
        refine lv_iload_n hx hb dX11_use_10 rfl (lv_at hl 1 rfl) ?_
        refine lv_iload_n hx hb dX11_use_11 rfl (lv_at hl 1 rfl) ?_
        refine lv_iload_n hx hb dX11_use_12 rfl (lv_at hl 2 rfl) ?_
        refine lv_iadd hx hb dX11_use_13 ?_
        obtain ⟨o2, ho2, hf⟩ := ob_s hf
        refine xV_i (As := [.int l3, .int x0, .int (x0 + x1)]) (b := a_this) (rest := []) (ws2 := [(a_this, .inr (11, [.int i_length, .ref a_text, .ref a_roundMany, .ref a_blowMany, .ref a_blows, .ref a_forwards, .ref a_downs, .ref a_takens, .ref a_homes, .ref a_noises, .ref a_judgeMany, .ref a_judges, .ref a_delays, .ref a_tolds, .ref a_tens, .int i_keptMany, .int i_place, .ref a_told, .ref a_ways, .ref a_nextWays, .ref a_tallies, .ref a_presses, .ref a_values, .ref a_nextValues])), (a_presses, .inl (X.2.1 0, 1520, .inl f_presses))]) hx hb hml hts hown hG hA hP hD rfl hS hl.1 (qX11_pressOf l X a_this a_presses a_text a_roundMany a_blowMany a_blows a_forwards a_downs a_takens a_homes a_noises a_judgeMany a_judges a_delays a_tolds a_tens a_told a_ways a_nextWays a_tallies a_values a_nextValues i_length i_keptMany i_place f_presses l3 x0 (x0 + x1) o2 ho2) (cwV (y := yX11_pressOf) 3 hts gX11_use_X11_pressOf rfl rfl rfl hdvX11_pressOf ⟨Nat.le_of_ble_eq_true rfl, Nat.le_of_ble_eq_true rfl⟩) [0, 1] [] [0, 1] rfl rfl rfl rfl rfl rfl rfl (ci := 11) rfl 0 rfl rfl rfl (Nat.le_of_ble_eq_true rfl) ⟨Nat.le_of_ble_eq_true rfl, Nat.le_of_ble_eq_true rfl⟩ dX11_use_14 (fun H locs hP _ hS => ?_)
        refine lv_istore (lv' := [(4, .int o2), (0, .ref a_this), (1, .int x0), (2, .int x1), (3, .int l3)]) hx hb dX11_use_17 hl (by decide) rfl (fun ls hl => ?_)
        refine lv_iload hx hb dX11_use_19 (lv_at hl 0 rfl) ?_
        refine lv_if_lt (tgt := 40) hx hb dX11_use_21 (by decide) (fun c4 => ?_) (fun c4 => ?_)
        · have hf := xt hf c4
          obtain ⟨v5, ev5, hf⟩ := lb_g hf
          refine lv_iinc (v := v5) (lv' := [(3, .int v5), (4, .int o2), (0, .ref a_this), (1, .int x0), (2, .int x1)]) hx hb dX11_use_40 hl (k := 4) rfl ev5.symm (by decide) rfl (fun ls hl => ?_)
          refine lv_goto (tgt := 2) hx hb dX11_use_43 (by decide) ?_
          exact ih v5 f_presses  H _ ls hP  hS (lv_sub hl [2, 3, 4, 0] rfl) hf
        · have hf := xf hf c4
          refine lv_aload_n hx hb dX11_use_24 rfl (lv_at hl 1 rfl) ?_
          refine va_get (D := X.1) (ci := 11) (v := .ref a_presses) (C := RX11) (T := TX11) (N := 24) hx hb hts in11 hown hG.1 hP 0 rfl rfl 21 (by decide) w1 (fun _ h9 => h9) rfl dX11_use_25 ?_
          refine lv_bipush (v := (8 : Int32)) hx hb dX11_use_28 (by decide) ?_
          refine lv_iload hx hb dX11_use_30 (lv_at hl 0 rfl) ?_
          refine lv_imul hx hb dX11_use_32 ?_
          refine lv_iload_n hx hb dX11_use_33 rfl (lv_at hl 4 rfl) ?_
          refine lv_iadd hx hb dX11_use_34 ?_
          refine lv_topi (fun v6 ev6 => ?_)
          have hf := lb_s hf ev6
          refine lv_dup2_11 hx hb dX11_use_35 rfl rfl ?_
          obtain ⟨h7, hf⟩ := gi_s hf
          refine va_iald (D := X.1) hx hb hG.1 hP 1 0 rfl rfl h7 dX11_use_36 ?_
          refine lv_iconst (v := (1 : Int32)) hx hb dX11_use_37 (by decide) ?_
          refine lv_isub hx hb dX11_use_38 ?_
          obtain ⟨h8, hf⟩ := gi_s hf
          obtain ⟨g9, eg9, hf⟩ := lb_g hf
          refine x_iast (ws' := [(a_this, .inr (11, [.int i_length, .ref a_text, .ref a_roundMany, .ref a_blowMany, .ref a_blows, .ref a_forwards, .ref a_downs, .ref a_takens, .ref a_homes, .ref a_noises, .ref a_judgeMany, .ref a_judges, .ref a_delays, .ref a_tolds, .ref a_tens, .int i_keptMany, .int i_place, .ref a_told, .ref a_ways, .ref a_nextWays, .ref a_tallies, .ref a_presses, .ref a_values, .ref a_nextValues])), (a_presses, .inl (X.2.1 0, 1520, .inl g9))]) hx hb hG hP hD rfl hS 1 rfl h8 dX11_use_39 eg9 rfl (fun H locs hP hS => ?_)
          obtain ⟨v10, ev10, hf⟩ := lb_g hf
          refine lv_iinc (v := v10) (lv' := [(3, .int v10), (4, .int o2), (0, .ref a_this), (1, .int x0), (2, .int x1)]) hx hb dX11_use_40 hl (k := 4) rfl ev10.symm (by decide) rfl (fun ls hl => ?_)
          refine lv_goto (tgt := 2) hx hb dX11_use_43 (by decide) ?_
          exact ih v10 g9  H _ ls hP  hS (lv_sub hl [2, 3, 4, 0] rfl) hf
  unfold mX11_use at hf
  refine lv_iconst (v := (0 : Int32)) hx hb dX11_use_0 (by decide) ?_
  refine lv_istore_n (lv' := [(3, .int (0 : Int32)), (0, .ref a_this), (1, .int x0), (2, .int x1)]) hx hb dX11_use_1 rfl hl (by decide) rfl (fun ls hl => ?_)
  exact hL2  FUEL (0 : Int32) f_presses  H _ ls hP  hS (lv_sub hl [1, 2, 3, 0] rfl) hf
def mX11_pointsBy_B144 (x0 : Int32) (x1 : Int32) (x2 : Int32) (x3 : Int32) (f_blowMany : Nat → Int32) (f_blows : Nat → Int32) (f_delays : Nat → Int32) (f_judgeMany : Nat → Int32) (f_judges : Nat → Int32) (k144 : Int32 → Int32 → (Nat → Int32) → Option (Int32 × (Nat → Int32))) (l5 : Int32) (l6 : Int32) (f_presses : Nat → Int32) :
  Option (Int32 × (Nat → Int32)) :=
  if (1520 : Int32) ≤ l6 then (some (l5, f_presses)) else (gi l6 1520 <|
  if (f_presses l6.toNatClampNeg) = 0 then (lb (l6 + (1 : Int32)) fun v18 =>
  k144 l5 v18 f_presses) else ((mX11_pressing (l6 / (8 : Int32)) x3 f_presses).bind fun o9 =>
  if o9 < x2 then (gi l6 1520 <|
  gi l6 1520 <|
  lb (upd f_presses l6.toNatClampNeg ((f_presses l6.toNatClampNeg) - (1 : Int32))) fun g14 =>
  k144 l5 l6 g14) else (lb (l5 + (1 : Int32)) fun v15 =>
  (mX11_use (l6 / (8 : Int32)) x3 f_presses).bind fun o16 =>
  k144 v15 l6 o16)))
def mX11_pointsBy_L144 (x0 : Int32) (x1 : Int32) (x2 : Int32) (x3 : Int32) (f_blowMany : Nat → Int32) (f_blows : Nat → Int32) (f_delays : Nat → Int32) (f_judgeMany : Nat → Int32) (f_judges : Nat → Int32) (n : Nat) (l5 : Int32) (l6 : Int32) (f_presses : Nat → Int32) :
  Option (Int32 × (Nat → Int32)) :=
  loopN (fun k (s : Int32 × Int32 × (Nat → Int32)) => mX11_pointsBy_B144 x0 x1 x2 x3 f_blowMany f_blows f_delays f_judgeMany f_judges  (fun l5 l6 f_presses => k (l5, l6, f_presses)) s.1 s.2.1 s.2.2) n (l5, l6, f_presses)
def mX11_pointsBy_B42 (x0 : Int32) (x1 : Int32) (x2 : Int32) (x3 : Int32) (f_blowMany : Nat → Int32) (f_blows : Nat → Int32) (f_delays : Nat → Int32) (f_judgeMany : Nat → Int32) (f_judges : Nat → Int32) (k28 : Int32 → (Nat → Int32) → Option (Int32 × (Nat → Int32))) (k42 : Int32 → Int32 → (Nat → Int32) → Option (Int32 × (Nat → Int32))) (l5 : Int32) (l6 : Int32) (f_presses : Nat → Int32) :
  Option (Int32 × (Nat → Int32)) :=
  if (f_judgeMany (0 : Int32).toNatClampNeg) ≤ l6 then (lb (l5 + (1 : Int32)) fun v20 =>
  k28 v20 f_presses) else (gi ((5 : Int32) * l5) 400 <|
  if (f_blows ((5 : Int32) * l5).toNatClampNeg) = x0 then (gi (((5 : Int32) * l5) + (2 : Int32)) 400 <|
  if (f_blows (((5 : Int32) * l5) + (2 : Int32)).toNatClampNeg) = x1 then ((mX11_sees l6 l5 f_blows f_judges).bind fun o27 =>
  if o27 = 0 then (lb (l6 + (1 : Int32)) fun v30 =>
  k42 l5 v30 f_presses) else (gi (((5 : Int32) * l5) + (1 : Int32)) 400 <|
  gi l6 24 <|
  lb (((8 : Int32) * ((f_blows (((5 : Int32) * l5) + (1 : Int32)).toNatClampNeg) + (f_delays l6.toNatClampNeg))) + l6) fun v33 =>
  gi v33 1520 <|
  gi v33 1520 <|
  lb (upd f_presses v33.toNatClampNeg ((f_presses v33.toNatClampNeg) + (1 : Int32))) fun g36 =>
  lb (l6 + (1 : Int32)) fun v37 =>
  k42 l5 v37 g36)) else (lb (l6 + (1 : Int32)) fun v26 =>
  k42 l5 v26 f_presses)) else (lb (l6 + (1 : Int32)) fun v23 =>
  k42 l5 v23 f_presses))
def mX11_pointsBy_L42 (x0 : Int32) (x1 : Int32) (x2 : Int32) (x3 : Int32) (f_blowMany : Nat → Int32) (f_blows : Nat → Int32) (f_delays : Nat → Int32) (f_judgeMany : Nat → Int32) (f_judges : Nat → Int32) (k28 : Int32 → (Nat → Int32) → Option (Int32 × (Nat → Int32))) (n : Nat) (l5 : Int32) (l6 : Int32) (f_presses : Nat → Int32) :
  Option (Int32 × (Nat → Int32)) :=
  loopN (fun k (s : Int32 × Int32 × (Nat → Int32)) => mX11_pointsBy_B42 x0 x1 x2 x3 f_blowMany f_blows f_delays f_judgeMany f_judges k28 (fun l5 l6 f_presses => k (l5, l6, f_presses)) s.1 s.2.1 s.2.2) n (l5, l6, f_presses)
def mX11_pointsBy_B28 (x0 : Int32) (x1 : Int32) (x2 : Int32) (x3 : Int32) (f_blowMany : Nat → Int32) (f_blows : Nat → Int32) (f_delays : Nat → Int32) (f_judgeMany : Nat → Int32) (f_judges : Nat → Int32) (k28 : Int32 → (Nat → Int32) → Option (Int32 × (Nat → Int32))) (l5 : Int32) (f_presses : Nat → Int32) :
  Option (Int32 × (Nat → Int32)) :=
  if (f_blowMany (0 : Int32).toNatClampNeg) ≤ l5 then (mX11_pointsBy_L144 x0 x1 x2 x3 f_blowMany f_blows f_delays f_judgeMany f_judges  FUEL (0 : Int32) (0 : Int32) f_presses) else (mX11_pointsBy_L42 x0 x1 x2 x3 f_blowMany f_blows f_delays f_judgeMany f_judges k28 FUEL l5 (0 : Int32) f_presses)
def mX11_pointsBy_L28 (x0 : Int32) (x1 : Int32) (x2 : Int32) (x3 : Int32) (f_blowMany : Nat → Int32) (f_blows : Nat → Int32) (f_delays : Nat → Int32) (f_judgeMany : Nat → Int32) (f_judges : Nat → Int32) (n : Nat) (l5 : Int32) (f_presses : Nat → Int32) :
  Option (Int32 × (Nat → Int32)) :=
  loopN (fun k (s : Int32 × (Nat → Int32)) => mX11_pointsBy_B28 x0 x1 x2 x3 f_blowMany f_blows f_delays f_judgeMany f_judges  (fun l5 f_presses => k (l5, f_presses)) s.1 s.2) n (l5, f_presses)
def mX11_pointsBy_B3 (x0 : Int32) (x1 : Int32) (x2 : Int32) (x3 : Int32) (f_blowMany : Nat → Int32) (f_blows : Nat → Int32) (f_delays : Nat → Int32) (f_judgeMany : Nat → Int32) (f_judges : Nat → Int32) (k3 : Int32 → (Nat → Int32) → Option (Int32 × (Nat → Int32))) (l5 : Int32) (f_presses : Nat → Int32) :
  Option (Int32 × (Nat → Int32)) :=
  if (1520 : Int32) ≤ l5 then (mX11_pointsBy_L28 x0 x1 x2 x3 f_blowMany f_blows f_delays f_judgeMany f_judges  FUEL (0 : Int32) f_presses) else (gi l5 1520 <|
  lb (upd f_presses l5.toNatClampNeg (0 : Int32)) fun g3 =>
  lb (l5 + (1 : Int32)) fun v4 =>
  k3 v4 g3)
def mX11_pointsBy_L3 (x0 : Int32) (x1 : Int32) (x2 : Int32) (x3 : Int32) (f_blowMany : Nat → Int32) (f_blows : Nat → Int32) (f_delays : Nat → Int32) (f_judgeMany : Nat → Int32) (f_judges : Nat → Int32) (n : Nat) (l5 : Int32) (f_presses : Nat → Int32) :
  Option (Int32 × (Nat → Int32)) :=
  loopN (fun k (s : Int32 × (Nat → Int32)) => mX11_pointsBy_B3 x0 x1 x2 x3 f_blowMany f_blows f_delays f_judgeMany f_judges  (fun l5 f_presses => k (l5, f_presses)) s.1 s.2) n (l5, f_presses)
def mX11_pointsBy (x0 : Int32) (x1 : Int32) (x2 : Int32) (x3 : Int32) (f_blowMany : Nat → Int32) (f_blows : Nat → Int32) (f_delays : Nat → Int32) (f_judgeMany : Nat → Int32) (f_judges : Nat → Int32) (f_presses : Nat → Int32) :
  Option (Int32 × (Nat → Int32)) :=
  mX11_pointsBy_L3 x0 x1 x2 x3 f_blowMany f_blows f_delays f_judgeMany f_judges  FUEL (0 : Int32) f_presses
theorem hdsX11_pointsBy : yX11_pointsBy.cls ≠ "java/lang/invoke/MethodHandle" ∧ yX11_pointsBy.cls ≠ "java/lang/invoke/VarHandle" ∧ (parseMethodDescriptor yX11_pointsBy.desc).map (fun d => d.parameters.length) = some 4 := by decide +kernel
theorem hdvX11_pointsBy : yX11_pointsBy.cls = RX11 ∧ yX11_pointsBy.cls ≠ "java/lang/invoke/MethodHandle" ∧ yX11_pointsBy.cls ≠ "java/lang/invoke/VarHandle" ∧ (parseMethodDescriptor yX11_pointsBy.desc).map (fun d => d.parameters.length) = some 4 := by decide +kernel
abbrev rmX11_pointsBy : Room := { frames := 2, cells := 0, slots := 0, locals := 48 }
set_option maxHeartbeats 4000000 in
set_option maxRecDepth 100000 in
theorem qX11_pointsBy (l : Launch) (X : XT) (a_this : Nat) (a_blowMany : Nat) (a_blows : Nat) (a_delays : Nat) (a_judgeMany : Nat) (a_judges : Nat) (a_presses : Nat) (a_text : Nat) (a_roundMany : Nat) (a_forwards : Nat) (a_downs : Nat) (a_takens : Nat) (a_homes : Nat) (a_noises : Nat) (a_tolds : Nat) (a_tens : Nat) (a_told : Nat) (a_ways : Nat) (a_nextWays : Nat) (a_tallies : Nat) (a_values : Nat) (a_nextValues : Nat)  (i_length : Int32) (i_keptMany : Int32) (i_place : Int32) (f_blowMany : Nat → Int32) (f_blows : Nat → Int32) (f_delays : Nat → Int32) (f_judgeMany : Nat → Int32) (f_judges : Nat → Int32) (f_presses : Nat → Int32) (x0 : Int32) (x1 : Int32) (x2 : Int32) (x3 : Int32) (o : Int32 × (Nat → Int32)) (hf : mX11_pointsBy x0 x1 x2 x3 f_blowMany f_blows f_delays f_judgeMany f_judges f_presses = some o) :
    MI l yX11_pointsBy wsX11_pointsBy rmX11_pointsBy X [.ref a_this, .int x0, .int x1, .int x2, .int x3] [(a_this, .inr (11, [.int i_length, .ref a_text, .ref a_roundMany, .ref a_blowMany, .ref a_blows, .ref a_forwards, .ref a_downs, .ref a_takens, .ref a_homes, .ref a_noises, .ref a_judgeMany, .ref a_judges, .ref a_delays, .ref a_tolds, .ref a_tens, .int i_keptMany, .int i_place, .ref a_told, .ref a_ways, .ref a_nextWays, .ref a_tallies, .ref a_presses, .ref a_values, .ref a_nextValues])), (a_blowMany, .inl (X.2.1 0, 2, .inl f_blowMany)), (a_blows, .inl (X.2.1 0, 400, .inl f_blows)), (a_delays, .inl (X.2.1 0, 24, .inl f_delays)), (a_judgeMany, .inl (X.2.1 0, 2, .inl f_judgeMany)), (a_judges, .inl (X.2.1 0, 112, .inl f_judges)), (a_presses, .inl (X.2.1 0, 1520, .inl f_presses))]  [(a_this, .inr (11, [.int i_length, .ref a_text, .ref a_roundMany, .ref a_blowMany, .ref a_blows, .ref a_forwards, .ref a_downs, .ref a_takens, .ref a_homes, .ref a_noises, .ref a_judgeMany, .ref a_judges, .ref a_delays, .ref a_tolds, .ref a_tens, .int i_keptMany, .int i_place, .ref a_told, .ref a_ways, .ref a_nextWays, .ref a_tallies, .ref a_presses, .ref a_values, .ref a_nextValues])), (a_blowMany, .inl (X.2.1 0, 2, .inl f_blowMany)), (a_blows, .inl (X.2.1 0, 400, .inl f_blows)), (a_delays, .inl (X.2.1 0, 24, .inl f_delays)), (a_judgeMany, .inl (X.2.1 0, 2, .inl f_judgeMany)), (a_judges, .inl (X.2.1 0, 112, .inl f_judges)), (a_presses, .inl (X.2.1 0, 1520, .inl o.2))] o.1 := by
  refine MI_ofH (cc := cX11_pointsBy) (maxL := 7) (rt := .int) (by decide) rfl (Nat.le_of_ble_eq_true rfl) ?_
  intro p e s m below meth c A Q H ls hx hb hml hts hown hA hD hG hP hS hl ret
  have hown : s.vm.findClass RX11 = some m.cls := hown
  have hD : aD A [a_this, a_blowMany, a_blows, a_delays, a_judgeMany, a_judges, a_presses] := hD
  have hl : lv_has ls 7 [(0, .ref a_this), (1, .int x0), (2, .int x1), (3, .int x2), (4, .int x3)] := hl
  have w1 := hts (Cond.fieldLink RX11 65 "ThreeCardsModel" "presses" "[I") (List.mem_of_getElem? (i := 1) rfl)
  have w2 := hts (Cond.fieldLink RX11 16 "ThreeCardsModel" "blowMany" "[I") (List.mem_of_getElem? (i := 2) rfl)
  have w3 := hts (Cond.fieldLink RX11 37 "ThreeCardsModel" "judgeMany" "[I") (List.mem_of_getElem? (i := 3) rfl)
  have w4 := hts (Cond.fieldLink RX11 19 "ThreeCardsModel" "blows" "[I") (List.mem_of_getElem? (i := 4) rfl)
  have w5 := hts (Cond.fieldLink RX11 43 "ThreeCardsModel" "delays" "[I") (List.mem_of_getElem? (i := 5) rfl)
  have in11 : ∀ w ∈ u_ws RX11 TX11 24, w ∈ wsX11_pointsBy := by decide +kernel
  have hL144 : ∀ (n : Nat) (l5 : Int32) (l6 : Int32) (f_presses : Nat → Int32)  (H : Heap) (locs : List Loc) (ls : Array Slot), va_P X.1 vwCl [(a_this, .inr (11, [.int i_length, .ref a_text, .ref a_roundMany, .ref a_blowMany, .ref a_blows, .ref a_forwards, .ref a_downs, .ref a_takens, .ref a_homes, .ref a_noises, .ref a_judgeMany, .ref a_judges, .ref a_delays, .ref a_tolds, .ref a_tens, .int i_keptMany, .int i_place, .ref a_told, .ref a_ways, .ref a_nextWays, .ref a_tallies, .ref a_presses, .ref a_values, .ref a_nextValues])), (a_blowMany, .inl (X.2.1 0, 2, .inl f_blowMany)), (a_blows, .inl (X.2.1 0, 400, .inl f_blows)), (a_delays, .inl (X.2.1 0, 24, .inl f_delays)), (a_judgeMany, .inl (X.2.1 0, 2, .inl f_judgeMany)), (a_judges, .inl (X.2.1 0, 112, .inl f_judges)), (a_presses, .inl (X.2.1 0, 1520, .inl f_presses))] H → va_S A s.heap H locs → lv_has ls 7 [(0, .ref a_this), (3, .int x2), (4, .int x3), (5, .int l5), (6, .int l6)] → mX11_pointsBy_L144 x0 x1 x2 x3 f_blowMany f_blows f_delays f_judgeMany f_judges  n l5 l6 f_presses = some o → W p l e rmX11_pointsBy s m ([.ref a_this, .int x0, .int x1, .int x2, .int x3] : List Value).toArray below meth c H locs 0 0 Q (F0 m 144 ls []) := by
    intro n
    induction n with
    | zero => intro l5 l6 f_presses  H locs ls hP hS hl hf; exact xn hf
    | succ n ih =>
      intro l5 l6 f_presses  H locs ls hP hS hl hf
      have hf : mX11_pointsBy_B144 x0 x1 x2 x3 f_blowMany f_blows f_delays f_judgeMany f_judges  (mX11_pointsBy_L144 x0 x1 x2 x3 f_blowMany f_blows f_delays f_judgeMany f_judges  n) l5 l6 f_presses = some o := hf
      generalize mX11_pointsBy_L144 x0 x1 x2 x3 f_blowMany f_blows f_delays f_judgeMany f_judges  n = k144 at ih hf
      unfold mX11_pointsBy_B144 at hf
      refine lv_iload hx hb dX11_pointsBy_144 (lv_at hl 4 rfl) ?_
      refine lv_sipush (v := (1520 : Int32)) hx hb dX11_pointsBy_146 (by decide) ?_
      refine lv_icmp_ge (tgt := 214) hx hb dX11_pointsBy_149 (by decide) (fun c6 => ?_) (fun c6 => ?_)
      · have hf := xt hf c6
        refine lv_iload hx hb dX11_pointsBy_214 (lv_at hl 3 rfl) ?_
        obtain rfl := Option.some.inj hf
        exact ret H _ ls _ rfl hP hD hS dX11_pointsBy_216
      · have hf := xf hf c6
        refine lv_aload_n hx hb dX11_pointsBy_152 rfl (lv_at hl 0 rfl) ?_
        refine va_get (D := X.1) (ci := 11) (v := .ref a_presses) (C := RX11) (T := TX11) (N := 24) hx hb hts in11 hown hG.1 hP 0 rfl rfl 21 (by decide) w1 (fun _ h9 => h9) rfl dX11_pointsBy_153 ?_
        refine lv_iload hx hb dX11_pointsBy_156 (lv_at hl 4 rfl) ?_
        obtain ⟨h7, hf⟩ := gi_s hf
        refine va_iald (D := X.1) hx hb hG.1 hP 6 0 rfl rfl h7 dX11_pointsBy_158 ?_
        refine lv_if_ne (tgt := 168) hx hb dX11_pointsBy_159 (by decide) (fun c8 => ?_) (fun c8 => ?_)
        · have hf := xf hf c8
          refine lv_aload_n hx hb dX11_pointsBy_168 rfl (lv_at hl 0 rfl) ?_
          refine lv_iload hx hb dX11_pointsBy_169 (lv_at hl 4 rfl) ?_
          refine lv_bipush (v := (8 : Int32)) hx hb dX11_pointsBy_171 (by decide) ?_
          refine lv_idiv hx hb dX11_pointsBy_173 (by decide) ?_
          refine lv_iload hx hb dX11_pointsBy_174 (lv_at hl 2 rfl) ?_
          obtain ⟨o9, ho9, hf⟩ := ob_s hf
          refine xV_i (As := [.int (l6 / (8 : Int32)), .int x3]) (b := a_this) (rest := []) (ws2 := [(a_this, .inr (11, [.int i_length, .ref a_text, .ref a_roundMany, .ref a_blowMany, .ref a_blows, .ref a_forwards, .ref a_downs, .ref a_takens, .ref a_homes, .ref a_noises, .ref a_judgeMany, .ref a_judges, .ref a_delays, .ref a_tolds, .ref a_tens, .int i_keptMany, .int i_place, .ref a_told, .ref a_ways, .ref a_nextWays, .ref a_tallies, .ref a_presses, .ref a_values, .ref a_nextValues])), (a_blowMany, .inl (X.2.1 0, 2, .inl f_blowMany)), (a_blows, .inl (X.2.1 0, 400, .inl f_blows)), (a_delays, .inl (X.2.1 0, 24, .inl f_delays)), (a_judgeMany, .inl (X.2.1 0, 2, .inl f_judgeMany)), (a_judges, .inl (X.2.1 0, 112, .inl f_judges)), (a_presses, .inl (X.2.1 0, 1520, .inl f_presses))]) hx hb hml hts hown hG hA hP hD rfl hS hl.1 (qX11_pressing l X a_this a_presses a_text a_roundMany a_blowMany a_blows a_forwards a_downs a_takens a_homes a_noises a_judgeMany a_judges a_delays a_tolds a_tens a_told a_ways a_nextWays a_tallies a_values a_nextValues i_length i_keptMany i_place f_presses (l6 / (8 : Int32)) x3 o9 ho9) (cwV (y := yX11_pressing) 2 hts gX11_pointsBy_X11_pressing rfl rfl rfl hdvX11_pressing ⟨Nat.le_of_ble_eq_true rfl, Nat.le_of_ble_eq_true rfl⟩) [0, 6] [1, 2, 3, 4, 5] [5, 0, 1, 2, 3, 4, 6] rfl rfl rfl rfl rfl rfl rfl (ci := 11) rfl 0 rfl rfl rfl (Nat.le_of_ble_eq_true rfl) ⟨Nat.le_of_ble_eq_true rfl, Nat.le_of_ble_eq_true rfl⟩ dX11_pointsBy_176 (fun H locs hP _ hS => ?_)
          refine lv_iload_n hx hb dX11_pointsBy_179 rfl (lv_at hl 1 rfl) ?_
          refine lv_icmp_lt (tgt := 200) hx hb dX11_pointsBy_180 (by decide) (fun c11 => ?_) (fun c11 => ?_)
          · have hf := xt hf c11
            refine lv_aload_n hx hb dX11_pointsBy_200 rfl (lv_at hl 0 rfl) ?_
            refine va_get (D := X.1) (ci := 11) (v := .ref a_presses) (C := RX11) (T := TX11) (N := 24) hx hb hts in11 hown hG.1 hP 0 rfl rfl 21 (by decide) w1 (fun _ h9 => h9) rfl dX11_pointsBy_201 ?_
            refine lv_iload hx hb dX11_pointsBy_204 (lv_at hl 4 rfl) ?_
            refine lv_dup2_11 hx hb dX11_pointsBy_206 rfl rfl ?_
            obtain ⟨h12, hf⟩ := gi_s hf
            refine va_iald (D := X.1) hx hb hG.1 hP 6 0 rfl rfl h12 dX11_pointsBy_207 ?_
            refine lv_iconst (v := (1 : Int32)) hx hb dX11_pointsBy_208 (by decide) ?_
            refine lv_isub hx hb dX11_pointsBy_209 ?_
            obtain ⟨h13, hf⟩ := gi_s hf
            obtain ⟨g14, eg14, hf⟩ := lb_g hf
            refine x_iast (ws' := [(a_this, .inr (11, [.int i_length, .ref a_text, .ref a_roundMany, .ref a_blowMany, .ref a_blows, .ref a_forwards, .ref a_downs, .ref a_takens, .ref a_homes, .ref a_noises, .ref a_judgeMany, .ref a_judges, .ref a_delays, .ref a_tolds, .ref a_tens, .int i_keptMany, .int i_place, .ref a_told, .ref a_ways, .ref a_nextWays, .ref a_tallies, .ref a_presses, .ref a_values, .ref a_nextValues])), (a_blowMany, .inl (X.2.1 0, 2, .inl f_blowMany)), (a_blows, .inl (X.2.1 0, 400, .inl f_blows)), (a_delays, .inl (X.2.1 0, 24, .inl f_delays)), (a_judgeMany, .inl (X.2.1 0, 2, .inl f_judgeMany)), (a_judges, .inl (X.2.1 0, 112, .inl f_judges)), (a_presses, .inl (X.2.1 0, 1520, .inl g14))]) hx hb hG hP hD rfl hS 6 rfl h13 dX11_pointsBy_210 eg14 rfl (fun H locs hP hS => ?_)
            refine lv_goto (tgt := 144) hx hb dX11_pointsBy_211 (by decide) ?_
            exact ih l5 l6 g14  H _ ls hP  hS (lv_sub hl [0, 1, 2, 3, 4] rfl) hf
          · have hf := xf hf c11
            obtain ⟨v15, ev15, hf⟩ := lb_g hf
            refine lv_iinc (v := v15) (lv' := [(5, .int v15), (0, .ref a_this), (3, .int x2), (4, .int x3), (6, .int l6)]) hx hb dX11_pointsBy_183 hl (k := 3) rfl ev15.symm (by decide) rfl (fun ls hl => ?_)
            refine lv_aload_n hx hb dX11_pointsBy_186 rfl (lv_at hl 1 rfl) ?_
            refine lv_iload hx hb dX11_pointsBy_187 (lv_at hl 4 rfl) ?_
            refine lv_bipush (v := (8 : Int32)) hx hb dX11_pointsBy_189 (by decide) ?_
            refine lv_idiv hx hb dX11_pointsBy_191 (by decide) ?_
            refine lv_iload hx hb dX11_pointsBy_192 (lv_at hl 3 rfl) ?_
            obtain ⟨o16, ho16, hf⟩ := ob_s hf
            refine xV_v (As := [.int (l6 / (8 : Int32)), .int x3]) (b := a_this) (rest := []) (ws2 := fun _ => [(a_this, .inr (11, [.int i_length, .ref a_text, .ref a_roundMany, .ref a_blowMany, .ref a_blows, .ref a_forwards, .ref a_downs, .ref a_takens, .ref a_homes, .ref a_noises, .ref a_judgeMany, .ref a_judges, .ref a_delays, .ref a_tolds, .ref a_tens, .int i_keptMany, .int i_place, .ref a_told, .ref a_ways, .ref a_nextWays, .ref a_tallies, .ref a_presses, .ref a_values, .ref a_nextValues])), (a_blowMany, .inl (X.2.1 0, 2, .inl f_blowMany)), (a_blows, .inl (X.2.1 0, 400, .inl f_blows)), (a_delays, .inl (X.2.1 0, 24, .inl f_delays)), (a_judgeMany, .inl (X.2.1 0, 2, .inl f_judgeMany)), (a_judges, .inl (X.2.1 0, 112, .inl f_judges)), (a_presses, .inl (X.2.1 0, 1520, .inl o16))]) hx hb hml hts hown hG hA hP hD rfl hS hl.1 (qX11_use l X a_this a_presses a_text a_roundMany a_blowMany a_blows a_forwards a_downs a_takens a_homes a_noises a_judgeMany a_judges a_delays a_tolds a_tens a_told a_ways a_nextWays a_tallies a_values a_nextValues i_length i_keptMany i_place f_presses (l6 / (8 : Int32)) x3 o16 ho16) (cwV (y := yX11_use) 2 hts gX11_pointsBy_X11_use rfl rfl rfl hdvX11_use ⟨Nat.le_of_ble_eq_true rfl, Nat.le_of_ble_eq_true rfl⟩) [0, 6] [1, 2, 3, 4, 5] [5, 0, 1, 2, 3, 4, 6] rfl rfl rfl rfl rfl rfl (fun _ => rfl) (ci := 11) rfl 0 rfl rfl rfl (Nat.le_of_ble_eq_true rfl) ⟨Nat.le_of_ble_eq_true rfl, Nat.le_of_ble_eq_true rfl⟩ dX11_pointsBy_194 (fun u17 H locs hP _ hS => ?_)
            refine lv_goto (tgt := 144) hx hb dX11_pointsBy_197 (by decide) ?_
            exact ih v15 l6 o16  H _ ls hP  hS (lv_sub hl [1, 2, 3, 0, 4] rfl) hf
        · have hf := xt hf c8
          obtain ⟨v18, ev18, hf⟩ := lb_g hf
          refine lv_iinc (v := v18) (lv' := [(6, .int v18), (0, .ref a_this), (3, .int x2), (4, .int x3), (5, .int l5)]) hx hb dX11_pointsBy_162 hl (k := 4) rfl ev18.symm (by decide) rfl (fun ls hl => ?_)
          refine lv_goto (tgt := 144) hx hb dX11_pointsBy_165 (by decide) ?_
          exact ih l5 v18 f_presses  H _ ls hP  hS (lv_sub hl [1, 2, 3, 4, 0] rfl) hf
  have hL42 : ∀ (k28 : Int32 → (Nat → Int32) → Option (Int32 × (Nat → Int32))) (hk28 : ∀ (l5 : Int32) (f_presses : Nat → Int32)  (H : Heap) (locs : List Loc) (ls : Array Slot), va_P X.1 vwCl [(a_this, .inr (11, [.int i_length, .ref a_text, .ref a_roundMany, .ref a_blowMany, .ref a_blows, .ref a_forwards, .ref a_downs, .ref a_takens, .ref a_homes, .ref a_noises, .ref a_judgeMany, .ref a_judges, .ref a_delays, .ref a_tolds, .ref a_tens, .int i_keptMany, .int i_place, .ref a_told, .ref a_ways, .ref a_nextWays, .ref a_tallies, .ref a_presses, .ref a_values, .ref a_nextValues])), (a_blowMany, .inl (X.2.1 0, 2, .inl f_blowMany)), (a_blows, .inl (X.2.1 0, 400, .inl f_blows)), (a_delays, .inl (X.2.1 0, 24, .inl f_delays)), (a_judgeMany, .inl (X.2.1 0, 2, .inl f_judgeMany)), (a_judges, .inl (X.2.1 0, 112, .inl f_judges)), (a_presses, .inl (X.2.1 0, 1520, .inl f_presses))] H → va_S A s.heap H locs → lv_has ls 7 [(0, .ref a_this), (1, .int x0), (2, .int x1), (3, .int x2), (4, .int x3), (5, .int l5)] → k28 l5 f_presses = some o → W p l e rmX11_pointsBy s m ([.ref a_this, .int x0, .int x1, .int x2, .int x3] : List Value).toArray below meth c H locs 0 0 Q (F0 m 28 ls [])) (n : Nat) (l5 : Int32) (l6 : Int32) (f_presses : Nat → Int32)  (H : Heap) (locs : List Loc) (ls : Array Slot), va_P X.1 vwCl [(a_this, .inr (11, [.int i_length, .ref a_text, .ref a_roundMany, .ref a_blowMany, .ref a_blows, .ref a_forwards, .ref a_downs, .ref a_takens, .ref a_homes, .ref a_noises, .ref a_judgeMany, .ref a_judges, .ref a_delays, .ref a_tolds, .ref a_tens, .int i_keptMany, .int i_place, .ref a_told, .ref a_ways, .ref a_nextWays, .ref a_tallies, .ref a_presses, .ref a_values, .ref a_nextValues])), (a_blowMany, .inl (X.2.1 0, 2, .inl f_blowMany)), (a_blows, .inl (X.2.1 0, 400, .inl f_blows)), (a_delays, .inl (X.2.1 0, 24, .inl f_delays)), (a_judgeMany, .inl (X.2.1 0, 2, .inl f_judgeMany)), (a_judges, .inl (X.2.1 0, 112, .inl f_judges)), (a_presses, .inl (X.2.1 0, 1520, .inl f_presses))] H → va_S A s.heap H locs → lv_has ls 7 [(0, .ref a_this), (1, .int x0), (2, .int x1), (3, .int x2), (4, .int x3), (5, .int l5), (6, .int l6)] → mX11_pointsBy_L42 x0 x1 x2 x3 f_blowMany f_blows f_delays f_judgeMany f_judges k28 n l5 l6 f_presses = some o → W p l e rmX11_pointsBy s m ([.ref a_this, .int x0, .int x1, .int x2, .int x3] : List Value).toArray below meth c H locs 0 0 Q (F0 m 42 ls []) := by
    intro k28 hk28 n
    induction n with
    | zero => intro l5 l6 f_presses  H locs ls hP hS hl hf; exact xn hf
    | succ n ih =>
      intro l5 l6 f_presses  H locs ls hP hS hl hf
      have hf : mX11_pointsBy_B42 x0 x1 x2 x3 f_blowMany f_blows f_delays f_judgeMany f_judges k28 (mX11_pointsBy_L42 x0 x1 x2 x3 f_blowMany f_blows f_delays f_judgeMany f_judges k28 n) l5 l6 f_presses = some o := hf
      generalize mX11_pointsBy_L42 x0 x1 x2 x3 f_blowMany f_blows f_delays f_judgeMany f_judges k28 n = k42 at ih hf
      unfold mX11_pointsBy_B42 at hf
      refine lv_iload hx hb dX11_pointsBy_42 (lv_at hl 6 rfl) ?_
      refine lv_aload_n hx hb dX11_pointsBy_44 rfl (lv_at hl 0 rfl) ?_
      refine va_get (D := X.1) (ci := 11) (v := .ref a_judgeMany) (C := RX11) (T := TX11) (N := 24) hx hb hts in11 hown hG.1 hP 0 rfl rfl 10 (by decide) w3 (fun _ h9 => h9) rfl dX11_pointsBy_45 ?_
      refine lv_iconst (v := (0 : Int32)) hx hb dX11_pointsBy_48 (by decide) ?_
      refine va_iald (D := X.1) hx hb hG.1 hP 4 0 rfl rfl (vp_lit (by decide)) dX11_pointsBy_49 ?_
      refine lv_icmp_ge (tgt := 132) hx hb dX11_pointsBy_50 (by decide) (fun c19 => ?_) (fun c19 => ?_)
      · have hf := xt hf c19
        obtain ⟨v20, ev20, hf⟩ := lb_g hf
        refine lv_iinc (v := v20) (lv' := [(5, .int v20), (0, .ref a_this), (1, .int x0), (2, .int x1), (3, .int x2), (4, .int x3), (6, .int l6)]) hx hb dX11_pointsBy_132 hl (k := 5) rfl ev20.symm (by decide) rfl (fun ls hl => ?_)
        refine lv_goto (tgt := 28) hx hb dX11_pointsBy_135 (by decide) ?_
        exact hk28 v20 f_presses  H _ ls hP  hS (lv_sub hl [1, 2, 3, 4, 5, 0] rfl) hf
      · have hf := xf hf c19
        refine lv_aload_n hx hb dX11_pointsBy_53 rfl (lv_at hl 0 rfl) ?_
        refine va_get (D := X.1) (ci := 11) (v := .ref a_blows) (C := RX11) (T := TX11) (N := 24) hx hb hts in11 hown hG.1 hP 0 rfl rfl 4 (by decide) w4 (fun _ h9 => h9) rfl dX11_pointsBy_54 ?_
        refine lv_iconst (v := (5 : Int32)) hx hb dX11_pointsBy_57 (by decide) ?_
        refine lv_iload hx hb dX11_pointsBy_58 (lv_at hl 5 rfl) ?_
        refine lv_imul hx hb dX11_pointsBy_60 ?_
        obtain ⟨h21, hf⟩ := gi_s hf
        refine va_iald (D := X.1) hx hb hG.1 hP 2 0 rfl rfl h21 dX11_pointsBy_61 ?_
        refine lv_iload_n hx hb dX11_pointsBy_62 rfl (lv_at hl 1 rfl) ?_
        refine lv_icmp_ne (tgt := 126) hx hb dX11_pointsBy_63 (by decide) (fun c22 => ?_) (fun c22 => ?_)
        · have hf := xf hf c22
          obtain ⟨v23, ev23, hf⟩ := lb_g hf
          refine lv_iinc (v := v23) (lv' := [(6, .int v23), (0, .ref a_this), (1, .int x0), (2, .int x1), (3, .int x2), (4, .int x3), (5, .int l5)]) hx hb dX11_pointsBy_126 hl (k := 6) rfl ev23.symm (by decide) rfl (fun ls hl => ?_)
          refine lv_goto (tgt := 42) hx hb dX11_pointsBy_129 (by decide) ?_
          exact ih l5 v23 f_presses  H _ ls hP  hS (lv_sub hl [1, 2, 3, 4, 5, 6, 0] rfl) hf
        · have hf := xt hf c22
          refine lv_aload_n hx hb dX11_pointsBy_66 rfl (lv_at hl 0 rfl) ?_
          refine va_get (D := X.1) (ci := 11) (v := .ref a_blows) (C := RX11) (T := TX11) (N := 24) hx hb hts in11 hown hG.1 hP 0 rfl rfl 4 (by decide) w4 (fun _ h9 => h9) rfl dX11_pointsBy_67 ?_
          refine lv_iconst (v := (5 : Int32)) hx hb dX11_pointsBy_70 (by decide) ?_
          refine lv_iload hx hb dX11_pointsBy_71 (lv_at hl 5 rfl) ?_
          refine lv_imul hx hb dX11_pointsBy_73 ?_
          refine lv_iconst (v := (2 : Int32)) hx hb dX11_pointsBy_74 (by decide) ?_
          refine lv_iadd hx hb dX11_pointsBy_75 ?_
          obtain ⟨h24, hf⟩ := gi_s hf
          refine va_iald (D := X.1) hx hb hG.1 hP 2 0 rfl rfl h24 dX11_pointsBy_76 ?_
          refine lv_iload_n hx hb dX11_pointsBy_77 rfl (lv_at hl 2 rfl) ?_
          refine lv_icmp_ne (tgt := 126) hx hb dX11_pointsBy_78 (by decide) (fun c25 => ?_) (fun c25 => ?_)
          · have hf := xf hf c25
            obtain ⟨v26, ev26, hf⟩ := lb_g hf
            refine lv_iinc (v := v26) (lv' := [(6, .int v26), (0, .ref a_this), (1, .int x0), (2, .int x1), (3, .int x2), (4, .int x3), (5, .int l5)]) hx hb dX11_pointsBy_126 hl (k := 6) rfl ev26.symm (by decide) rfl (fun ls hl => ?_)
            refine lv_goto (tgt := 42) hx hb dX11_pointsBy_129 (by decide) ?_
            exact ih l5 v26 f_presses  H _ ls hP  hS (lv_sub hl [1, 2, 3, 4, 5, 6, 0] rfl) hf
          · have hf := xt hf c25
            refine lv_aload_n hx hb dX11_pointsBy_81 rfl (lv_at hl 0 rfl) ?_
            refine lv_iload hx hb dX11_pointsBy_82 (lv_at hl 6 rfl) ?_
            refine lv_iload hx hb dX11_pointsBy_84 (lv_at hl 5 rfl) ?_
            obtain ⟨o27, ho27, hf⟩ := ob_s hf
            refine xV_i (As := [.int l6, .int l5]) (b := a_this) (rest := []) (ws2 := [(a_this, .inr (11, [.int i_length, .ref a_text, .ref a_roundMany, .ref a_blowMany, .ref a_blows, .ref a_forwards, .ref a_downs, .ref a_takens, .ref a_homes, .ref a_noises, .ref a_judgeMany, .ref a_judges, .ref a_delays, .ref a_tolds, .ref a_tens, .int i_keptMany, .int i_place, .ref a_told, .ref a_ways, .ref a_nextWays, .ref a_tallies, .ref a_presses, .ref a_values, .ref a_nextValues])), (a_blowMany, .inl (X.2.1 0, 2, .inl f_blowMany)), (a_blows, .inl (X.2.1 0, 400, .inl f_blows)), (a_delays, .inl (X.2.1 0, 24, .inl f_delays)), (a_judgeMany, .inl (X.2.1 0, 2, .inl f_judgeMany)), (a_judges, .inl (X.2.1 0, 112, .inl f_judges)), (a_presses, .inl (X.2.1 0, 1520, .inl f_presses))]) hx hb hml hts hown hG hA hP hD rfl hS hl.1 (qX11_sees l X a_this a_blows a_judges a_text a_roundMany a_blowMany a_forwards a_downs a_takens a_homes a_noises a_judgeMany a_delays a_tolds a_tens a_told a_ways a_nextWays a_tallies a_presses a_values a_nextValues i_length i_keptMany i_place f_blows f_judges l6 l5 o27 ho27) (cwV (y := yX11_sees) 2 hts gX11_pointsBy_X11_sees rfl rfl rfl hdvX11_sees ⟨Nat.le_of_ble_eq_true rfl, Nat.le_of_ble_eq_true rfl⟩) [0, 2, 5] [1, 3, 4, 6] [4, 0, 5, 1, 2, 6, 3] rfl rfl rfl rfl rfl rfl rfl (ci := 11) rfl 0 rfl rfl rfl (Nat.le_of_ble_eq_true rfl) ⟨Nat.le_of_ble_eq_true rfl, Nat.le_of_ble_eq_true rfl⟩ dX11_pointsBy_86 (fun H locs hP _ hS => ?_)
            refine lv_if_eq (tgt := 126) hx hb dX11_pointsBy_89 (by decide) (fun c29 => ?_) (fun c29 => ?_)
            · have hf := xt hf c29
              obtain ⟨v30, ev30, hf⟩ := lb_g hf
              refine lv_iinc (v := v30) (lv' := [(6, .int v30), (0, .ref a_this), (1, .int x0), (2, .int x1), (3, .int x2), (4, .int x3), (5, .int l5)]) hx hb dX11_pointsBy_126 hl (k := 6) rfl ev30.symm (by decide) rfl (fun ls hl => ?_)
              refine lv_goto (tgt := 42) hx hb dX11_pointsBy_129 (by decide) ?_
              exact ih l5 v30 f_presses  H _ ls hP  hS (lv_sub hl [1, 2, 3, 4, 5, 6, 0] rfl) hf
            · have hf := xf hf c29
              refine lv_aload_n hx hb dX11_pointsBy_92 rfl (lv_at hl 0 rfl) ?_
              refine va_get (D := X.1) (ci := 11) (v := .ref a_presses) (C := RX11) (T := TX11) (N := 24) hx hb hts in11 hown hG.1 hP 0 rfl rfl 21 (by decide) w1 (fun _ h9 => h9) rfl dX11_pointsBy_93 ?_
              refine lv_bipush (v := (8 : Int32)) hx hb dX11_pointsBy_96 (by decide) ?_
              refine lv_aload_n hx hb dX11_pointsBy_98 rfl (lv_at hl 0 rfl) ?_
              refine va_get (D := X.1) (ci := 11) (v := .ref a_blows) (C := RX11) (T := TX11) (N := 24) hx hb hts in11 hown hG.1 hP 0 rfl rfl 4 (by decide) w4 (fun _ h9 => h9) rfl dX11_pointsBy_99 ?_
              refine lv_iconst (v := (5 : Int32)) hx hb dX11_pointsBy_102 (by decide) ?_
              refine lv_iload hx hb dX11_pointsBy_103 (lv_at hl 5 rfl) ?_
              refine lv_imul hx hb dX11_pointsBy_105 ?_
              refine lv_iconst (v := (1 : Int32)) hx hb dX11_pointsBy_106 (by decide) ?_
              refine lv_iadd hx hb dX11_pointsBy_107 ?_
              obtain ⟨h31, hf⟩ := gi_s hf
              refine va_iald (D := X.1) hx hb hG.1 hP 2 0 rfl rfl h31 dX11_pointsBy_108 ?_
              refine lv_aload_n hx hb dX11_pointsBy_109 rfl (lv_at hl 0 rfl) ?_
              refine va_get (D := X.1) (ci := 11) (v := .ref a_delays) (C := RX11) (T := TX11) (N := 24) hx hb hts in11 hown hG.1 hP 0 rfl rfl 12 (by decide) w5 (fun _ h9 => h9) rfl dX11_pointsBy_110 ?_
              refine lv_iload hx hb dX11_pointsBy_113 (lv_at hl 6 rfl) ?_
              obtain ⟨h32, hf⟩ := gi_s hf
              refine va_iald (D := X.1) hx hb hG.1 hP 3 0 rfl rfl h32 dX11_pointsBy_115 ?_
              refine lv_iadd hx hb dX11_pointsBy_116 ?_
              refine lv_imul hx hb dX11_pointsBy_117 ?_
              refine lv_iload hx hb dX11_pointsBy_118 (lv_at hl 6 rfl) ?_
              refine lv_iadd hx hb dX11_pointsBy_120 ?_
              refine lv_topi (fun v33 ev33 => ?_)
              have hf := lb_s hf ev33
              refine lv_dup2_11 hx hb dX11_pointsBy_121 rfl rfl ?_
              obtain ⟨h34, hf⟩ := gi_s hf
              refine va_iald (D := X.1) hx hb hG.1 hP 6 0 rfl rfl h34 dX11_pointsBy_122 ?_
              refine lv_iconst (v := (1 : Int32)) hx hb dX11_pointsBy_123 (by decide) ?_
              refine lv_iadd hx hb dX11_pointsBy_124 ?_
              obtain ⟨h35, hf⟩ := gi_s hf
              obtain ⟨g36, eg36, hf⟩ := lb_g hf
              refine x_iast (ws' := [(a_this, .inr (11, [.int i_length, .ref a_text, .ref a_roundMany, .ref a_blowMany, .ref a_blows, .ref a_forwards, .ref a_downs, .ref a_takens, .ref a_homes, .ref a_noises, .ref a_judgeMany, .ref a_judges, .ref a_delays, .ref a_tolds, .ref a_tens, .int i_keptMany, .int i_place, .ref a_told, .ref a_ways, .ref a_nextWays, .ref a_tallies, .ref a_presses, .ref a_values, .ref a_nextValues])), (a_blowMany, .inl (X.2.1 0, 2, .inl f_blowMany)), (a_blows, .inl (X.2.1 0, 400, .inl f_blows)), (a_delays, .inl (X.2.1 0, 24, .inl f_delays)), (a_judgeMany, .inl (X.2.1 0, 2, .inl f_judgeMany)), (a_judges, .inl (X.2.1 0, 112, .inl f_judges)), (a_presses, .inl (X.2.1 0, 1520, .inl g36))]) hx hb hG hP hD rfl hS 6 rfl h35 dX11_pointsBy_125 eg36 rfl (fun H locs hP hS => ?_)
              obtain ⟨v37, ev37, hf⟩ := lb_g hf
              refine lv_iinc (v := v37) (lv' := [(6, .int v37), (0, .ref a_this), (1, .int x0), (2, .int x1), (3, .int x2), (4, .int x3), (5, .int l5)]) hx hb dX11_pointsBy_126 hl (k := 6) rfl ev37.symm (by decide) rfl (fun ls hl => ?_)
              refine lv_goto (tgt := 42) hx hb dX11_pointsBy_129 (by decide) ?_
              exact ih l5 v37 g36  H _ ls hP  hS (lv_sub hl [1, 2, 3, 4, 5, 6, 0] rfl) hf
  have hL28 : ∀ (n : Nat) (l5 : Int32) (f_presses : Nat → Int32)  (H : Heap) (locs : List Loc) (ls : Array Slot), va_P X.1 vwCl [(a_this, .inr (11, [.int i_length, .ref a_text, .ref a_roundMany, .ref a_blowMany, .ref a_blows, .ref a_forwards, .ref a_downs, .ref a_takens, .ref a_homes, .ref a_noises, .ref a_judgeMany, .ref a_judges, .ref a_delays, .ref a_tolds, .ref a_tens, .int i_keptMany, .int i_place, .ref a_told, .ref a_ways, .ref a_nextWays, .ref a_tallies, .ref a_presses, .ref a_values, .ref a_nextValues])), (a_blowMany, .inl (X.2.1 0, 2, .inl f_blowMany)), (a_blows, .inl (X.2.1 0, 400, .inl f_blows)), (a_delays, .inl (X.2.1 0, 24, .inl f_delays)), (a_judgeMany, .inl (X.2.1 0, 2, .inl f_judgeMany)), (a_judges, .inl (X.2.1 0, 112, .inl f_judges)), (a_presses, .inl (X.2.1 0, 1520, .inl f_presses))] H → va_S A s.heap H locs → lv_has ls 7 [(0, .ref a_this), (1, .int x0), (2, .int x1), (3, .int x2), (4, .int x3), (5, .int l5)] → mX11_pointsBy_L28 x0 x1 x2 x3 f_blowMany f_blows f_delays f_judgeMany f_judges  n l5 f_presses = some o → W p l e rmX11_pointsBy s m ([.ref a_this, .int x0, .int x1, .int x2, .int x3] : List Value).toArray below meth c H locs 0 0 Q (F0 m 28 ls []) := by
    intro n
    induction n with
    | zero => intro l5 f_presses  H locs ls hP hS hl hf; exact xn hf
    | succ n ih =>
      intro l5 f_presses  H locs ls hP hS hl hf
      have hf : mX11_pointsBy_B28 x0 x1 x2 x3 f_blowMany f_blows f_delays f_judgeMany f_judges  (mX11_pointsBy_L28 x0 x1 x2 x3 f_blowMany f_blows f_delays f_judgeMany f_judges  n) l5 f_presses = some o := hf
      generalize mX11_pointsBy_L28 x0 x1 x2 x3 f_blowMany f_blows f_delays f_judgeMany f_judges  n = k28 at ih hf
      unfold mX11_pointsBy_B28 at hf
      refine lv_iload hx hb dX11_pointsBy_28 (lv_at hl 5 rfl) ?_
      refine lv_aload_n hx hb dX11_pointsBy_30 rfl (lv_at hl 0 rfl) ?_
      refine va_get (D := X.1) (ci := 11) (v := .ref a_blowMany) (C := RX11) (T := TX11) (N := 24) hx hb hts in11 hown hG.1 hP 0 rfl rfl 3 (by decide) w2 (fun _ h9 => h9) rfl dX11_pointsBy_31 ?_
      refine lv_iconst (v := (0 : Int32)) hx hb dX11_pointsBy_34 (by decide) ?_
      refine va_iald (D := X.1) hx hb hG.1 hP 1 0 rfl rfl (vp_lit (by decide)) dX11_pointsBy_35 ?_
      refine lv_icmp_ge (tgt := 138) hx hb dX11_pointsBy_36 (by decide) (fun c5 => ?_) (fun c5 => ?_)
      · have hf := xt hf c5
        refine lv_iconst (v := (0 : Int32)) hx hb dX11_pointsBy_138 (by decide) ?_
        refine lv_istore (lv' := [(5, .int (0 : Int32)), (0, .ref a_this), (1, .int x0), (2, .int x1), (3, .int x2), (4, .int x3)]) hx hb dX11_pointsBy_139 hl (by decide) rfl (fun ls hl => ?_)
        refine lv_iconst (v := (0 : Int32)) hx hb dX11_pointsBy_141 (by decide) ?_
        refine lv_istore (lv' := [(6, .int (0 : Int32)), (5, .int (0 : Int32)), (0, .ref a_this), (1, .int x0), (2, .int x1), (3, .int x2), (4, .int x3)]) hx hb dX11_pointsBy_142 hl (by decide) rfl (fun ls hl => ?_)
        exact hL144  FUEL (0 : Int32) (0 : Int32) f_presses  H _ ls hP  hS (lv_sub hl [2, 5, 6, 1, 0] rfl) hf
      · have hf := xf hf c5
        refine lv_iconst (v := (0 : Int32)) hx hb dX11_pointsBy_39 (by decide) ?_
        refine lv_istore (lv' := [(6, .int (0 : Int32)), (0, .ref a_this), (1, .int x0), (2, .int x1), (3, .int x2), (4, .int x3), (5, .int l5)]) hx hb dX11_pointsBy_40 hl (by decide) rfl (fun ls hl => ?_)
        exact hL42 k28 ih FUEL l5 (0 : Int32) f_presses  H _ ls hP  hS (lv_sub hl [1, 2, 3, 4, 5, 6, 0] rfl) hf
  have hL3 : ∀ (n : Nat) (l5 : Int32) (f_presses : Nat → Int32)  (H : Heap) (locs : List Loc) (ls : Array Slot), va_P X.1 vwCl [(a_this, .inr (11, [.int i_length, .ref a_text, .ref a_roundMany, .ref a_blowMany, .ref a_blows, .ref a_forwards, .ref a_downs, .ref a_takens, .ref a_homes, .ref a_noises, .ref a_judgeMany, .ref a_judges, .ref a_delays, .ref a_tolds, .ref a_tens, .int i_keptMany, .int i_place, .ref a_told, .ref a_ways, .ref a_nextWays, .ref a_tallies, .ref a_presses, .ref a_values, .ref a_nextValues])), (a_blowMany, .inl (X.2.1 0, 2, .inl f_blowMany)), (a_blows, .inl (X.2.1 0, 400, .inl f_blows)), (a_delays, .inl (X.2.1 0, 24, .inl f_delays)), (a_judgeMany, .inl (X.2.1 0, 2, .inl f_judgeMany)), (a_judges, .inl (X.2.1 0, 112, .inl f_judges)), (a_presses, .inl (X.2.1 0, 1520, .inl f_presses))] H → va_S A s.heap H locs → lv_has ls 7 [(0, .ref a_this), (1, .int x0), (2, .int x1), (3, .int x2), (4, .int x3), (5, .int l5)] → mX11_pointsBy_L3 x0 x1 x2 x3 f_blowMany f_blows f_delays f_judgeMany f_judges  n l5 f_presses = some o → W p l e rmX11_pointsBy s m ([.ref a_this, .int x0, .int x1, .int x2, .int x3] : List Value).toArray below meth c H locs 0 0 Q (F0 m 3 ls []) := by
    intro n
    induction n with
    | zero => intro l5 f_presses  H locs ls hP hS hl hf; exact xn hf
    | succ n ih =>
      intro l5 f_presses  H locs ls hP hS hl hf
      have hf : mX11_pointsBy_B3 x0 x1 x2 x3 f_blowMany f_blows f_delays f_judgeMany f_judges  (mX11_pointsBy_L3 x0 x1 x2 x3 f_blowMany f_blows f_delays f_judgeMany f_judges  n) l5 f_presses = some o := hf
      generalize mX11_pointsBy_L3 x0 x1 x2 x3 f_blowMany f_blows f_delays f_judgeMany f_judges  n = k3 at ih hf
      unfold mX11_pointsBy_B3 at hf
      refine lv_iload hx hb dX11_pointsBy_3 (lv_at hl 5 rfl) ?_
      refine lv_sipush (v := (1520 : Int32)) hx hb dX11_pointsBy_5 (by decide) ?_
      refine lv_icmp_ge (tgt := 25) hx hb dX11_pointsBy_8 (by decide) (fun c1 => ?_) (fun c1 => ?_)
      · have hf := xt hf c1
        refine lv_iconst (v := (0 : Int32)) hx hb dX11_pointsBy_25 (by decide) ?_
        refine lv_istore (lv' := [(5, .int (0 : Int32)), (0, .ref a_this), (1, .int x0), (2, .int x1), (3, .int x2), (4, .int x3)]) hx hb dX11_pointsBy_26 hl (by decide) rfl (fun ls hl => ?_)
        exact hL28  FUEL (0 : Int32) f_presses  H _ ls hP  hS (lv_sub hl [1, 2, 3, 4, 5, 0] rfl) hf
      · have hf := xf hf c1
        refine lv_aload_n hx hb dX11_pointsBy_11 rfl (lv_at hl 0 rfl) ?_
        refine va_get (D := X.1) (ci := 11) (v := .ref a_presses) (C := RX11) (T := TX11) (N := 24) hx hb hts in11 hown hG.1 hP 0 rfl rfl 21 (by decide) w1 (fun _ h9 => h9) rfl dX11_pointsBy_12 ?_
        refine lv_iload hx hb dX11_pointsBy_15 (lv_at hl 5 rfl) ?_
        refine lv_iconst (v := (0 : Int32)) hx hb dX11_pointsBy_17 (by decide) ?_
        obtain ⟨h2, hf⟩ := gi_s hf
        obtain ⟨g3, eg3, hf⟩ := lb_g hf
        refine x_iast (ws' := [(a_this, .inr (11, [.int i_length, .ref a_text, .ref a_roundMany, .ref a_blowMany, .ref a_blows, .ref a_forwards, .ref a_downs, .ref a_takens, .ref a_homes, .ref a_noises, .ref a_judgeMany, .ref a_judges, .ref a_delays, .ref a_tolds, .ref a_tens, .int i_keptMany, .int i_place, .ref a_told, .ref a_ways, .ref a_nextWays, .ref a_tallies, .ref a_presses, .ref a_values, .ref a_nextValues])), (a_blowMany, .inl (X.2.1 0, 2, .inl f_blowMany)), (a_blows, .inl (X.2.1 0, 400, .inl f_blows)), (a_delays, .inl (X.2.1 0, 24, .inl f_delays)), (a_judgeMany, .inl (X.2.1 0, 2, .inl f_judgeMany)), (a_judges, .inl (X.2.1 0, 112, .inl f_judges)), (a_presses, .inl (X.2.1 0, 1520, .inl g3))]) hx hb hG hP hD rfl hS 6 rfl h2 dX11_pointsBy_18 eg3 rfl (fun H locs hP hS => ?_)
        obtain ⟨v4, ev4, hf⟩ := lb_g hf
        refine lv_iinc (v := v4) (lv' := [(5, .int v4), (0, .ref a_this), (1, .int x0), (2, .int x1), (3, .int x2), (4, .int x3)]) hx hb dX11_pointsBy_19 hl (k := 5) rfl ev4.symm (by decide) rfl (fun ls hl => ?_)
        refine lv_goto (tgt := 3) hx hb dX11_pointsBy_22 (by decide) ?_
        exact ih v4 g3  H _ ls hP  hS (lv_sub hl [1, 2, 3, 4, 5, 0] rfl) hf
  unfold mX11_pointsBy at hf
  refine lv_iconst (v := (0 : Int32)) hx hb dX11_pointsBy_0 (by decide) ?_
  refine lv_istore (lv' := [(5, .int (0 : Int32)), (0, .ref a_this), (1, .int x0), (2, .int x1), (3, .int x2), (4, .int x3)]) hx hb dX11_pointsBy_1 hl (by decide) rfl (fun ls hl => ?_)
  exact hL3  FUEL (0 : Int32) f_presses  H _ ls hP  hS (lv_sub hl [1, 2, 3, 4, 5, 0] rfl) hf
def mX11_blowsIn_B4 (x0 : Int32) (f_blowMany : Nat → Int32) (f_blows : Nat → Int32) (k4 : Int32 → Int32 → Option (Int32)) (l2 : Int32) (l3 : Int32) :
  Option (Int32) :=
  if (f_blowMany (0 : Int32).toNatClampNeg) ≤ l3 then (some l2) else (gi ((5 : Int32) * l3) 400 <|
  if (f_blows ((5 : Int32) * l3).toNatClampNeg) = x0 then (lb (l2 + (1 : Int32)) fun v6 =>
  lb (l3 + (1 : Int32)) fun v7 =>
  k4 v6 v7) else (lb (l2 + (0 : Int32)) fun v4 =>
  lb (l3 + (1 : Int32)) fun v5 =>
  k4 v4 v5))
def mX11_blowsIn_L4 (x0 : Int32) (f_blowMany : Nat → Int32) (f_blows : Nat → Int32) (n : Nat) (l2 : Int32) (l3 : Int32) :
  Option (Int32) :=
  loopN (fun k (s : Int32 × Int32) => mX11_blowsIn_B4 x0 f_blowMany f_blows  (fun l2 l3 => k (l2, l3)) s.1 s.2) n (l2, l3)
def mX11_blowsIn (x0 : Int32) (f_blowMany : Nat → Int32) (f_blows : Nat → Int32) :
  Option (Int32) :=
  mX11_blowsIn_L4 x0 f_blowMany f_blows  FUEL (0 : Int32) (0 : Int32)
theorem hdsX11_blowsIn : yX11_blowsIn.cls ≠ "java/lang/invoke/MethodHandle" ∧ yX11_blowsIn.cls ≠ "java/lang/invoke/VarHandle" ∧ (parseMethodDescriptor yX11_blowsIn.desc).map (fun d => d.parameters.length) = some 1 := by decide +kernel
theorem hdvX11_blowsIn : yX11_blowsIn.cls = RX11 ∧ yX11_blowsIn.cls ≠ "java/lang/invoke/MethodHandle" ∧ yX11_blowsIn.cls ≠ "java/lang/invoke/VarHandle" ∧ (parseMethodDescriptor yX11_blowsIn.desc).map (fun d => d.parameters.length) = some 1 := by decide +kernel
abbrev rmX11_blowsIn : Room := { frames := 0, cells := 0, slots := 0, locals := 0 }
set_option maxHeartbeats 4000000 in
set_option maxRecDepth 100000 in
theorem qX11_blowsIn (l : Launch) (X : XT) (a_this : Nat) (a_blowMany : Nat) (a_blows : Nat) (a_text : Nat) (a_roundMany : Nat) (a_forwards : Nat) (a_downs : Nat) (a_takens : Nat) (a_homes : Nat) (a_noises : Nat) (a_judgeMany : Nat) (a_judges : Nat) (a_delays : Nat) (a_tolds : Nat) (a_tens : Nat) (a_told : Nat) (a_ways : Nat) (a_nextWays : Nat) (a_tallies : Nat) (a_presses : Nat) (a_values : Nat) (a_nextValues : Nat)  (i_length : Int32) (i_keptMany : Int32) (i_place : Int32) (f_blowMany : Nat → Int32) (f_blows : Nat → Int32) (x0 : Int32) (o : Int32) (hf : mX11_blowsIn x0 f_blowMany f_blows = some o) :
    MI l yX11_blowsIn wsX11_blowsIn rmX11_blowsIn X [.ref a_this, .int x0] [(a_this, .inr (11, [.int i_length, .ref a_text, .ref a_roundMany, .ref a_blowMany, .ref a_blows, .ref a_forwards, .ref a_downs, .ref a_takens, .ref a_homes, .ref a_noises, .ref a_judgeMany, .ref a_judges, .ref a_delays, .ref a_tolds, .ref a_tens, .int i_keptMany, .int i_place, .ref a_told, .ref a_ways, .ref a_nextWays, .ref a_tallies, .ref a_presses, .ref a_values, .ref a_nextValues])), (a_blowMany, .inl (X.2.1 0, 2, .inl f_blowMany)), (a_blows, .inl (X.2.1 0, 400, .inl f_blows))]  [(a_this, .inr (11, [.int i_length, .ref a_text, .ref a_roundMany, .ref a_blowMany, .ref a_blows, .ref a_forwards, .ref a_downs, .ref a_takens, .ref a_homes, .ref a_noises, .ref a_judgeMany, .ref a_judges, .ref a_delays, .ref a_tolds, .ref a_tens, .int i_keptMany, .int i_place, .ref a_told, .ref a_ways, .ref a_nextWays, .ref a_tallies, .ref a_presses, .ref a_values, .ref a_nextValues])), (a_blowMany, .inl (X.2.1 0, 2, .inl f_blowMany)), (a_blows, .inl (X.2.1 0, 400, .inl f_blows))] o := by
  refine MI_ofH (cc := cX11_blowsIn) (maxL := 4) (rt := .int) (by decide) rfl (Nat.le_of_ble_eq_true rfl) ?_
  intro p e s m below meth c A Q H ls hx hb hml hts hown hA hD hG hP hS hl ret
  have hown : s.vm.findClass RX11 = some m.cls := hown
  have hD : aD A [a_this, a_blowMany, a_blows] := hD
  have hl : lv_has ls 4 [(0, .ref a_this), (1, .int x0)] := hl
  have w1 := hts (.fieldLink RX11 16 "ThreeCardsModel" "blowMany" "[I") (List.mem_of_getElem? (i := 1) rfl)
  have w2 := hts (.fieldLink RX11 19 "ThreeCardsModel" "blows" "[I") (List.mem_of_getElem? (i := 2) rfl)
  have in11 : ∀ w ∈ u_ws RX11 TX11 24, w ∈ wsX11_blowsIn := by decide +kernel
  have hL4 : ∀ (n : Nat) (l2 : Int32) (l3 : Int32)  (H : Heap) (locs : List Loc) (ls : Array Slot), va_P X.1 vwCl [(a_this, .inr (11, [.int i_length, .ref a_text, .ref a_roundMany, .ref a_blowMany, .ref a_blows, .ref a_forwards, .ref a_downs, .ref a_takens, .ref a_homes, .ref a_noises, .ref a_judgeMany, .ref a_judges, .ref a_delays, .ref a_tolds, .ref a_tens, .int i_keptMany, .int i_place, .ref a_told, .ref a_ways, .ref a_nextWays, .ref a_tallies, .ref a_presses, .ref a_values, .ref a_nextValues])), (a_blowMany, .inl (X.2.1 0, 2, .inl f_blowMany)), (a_blows, .inl (X.2.1 0, 400, .inl f_blows))] H → va_S A s.heap H locs → lv_has ls 4 [(0, .ref a_this), (1, .int x0), (2, .int l2), (3, .int l3)] → mX11_blowsIn_L4 x0 f_blowMany f_blows  n l2 l3 = some o → W p l e rmX11_blowsIn s m ([.ref a_this, .int x0] : List Value).toArray below meth c H locs 0 0 Q (F0 m 4 ls []) := by
    intro n
    induction n with
    | zero => intro l2 l3  H locs ls hP hS hl hf; exact xn hf
    | succ n ih =>
      intro l2 l3  H locs ls hP hS hl hf
      have hf : mX11_blowsIn_B4 x0 f_blowMany f_blows  (mX11_blowsIn_L4 x0 f_blowMany f_blows  n) l2 l3 = some o := hf
      generalize mX11_blowsIn_L4 x0 f_blowMany f_blows  n = k4 at ih hf
      unfold mX11_blowsIn_B4 at hf
      refine lv_iload_n hx hb dX11_blowsIn_4 rfl (lv_at hl 3 rfl) ?_
      refine lv_aload_n hx hb dX11_blowsIn_5 rfl (lv_at hl 0 rfl) ?_
      refine va_get (D := X.1) (ci := 11) (v := .ref a_blowMany) (C := RX11) (T := TX11) (N := 24) hx hb hts in11 hown hG.1 hP 0 rfl rfl 3 (by decide) w1 (fun _ h9 => h9) rfl dX11_blowsIn_6 ?_
      refine lv_iconst (v := (0 : Int32)) hx hb dX11_blowsIn_9 (by decide) ?_
      refine va_iald (D := X.1) hx hb hG.1 hP 1 0 rfl rfl (vp_lit (by decide)) dX11_blowsIn_10 ?_
      refine lv_icmp_ge (tgt := 40) hx hb dX11_blowsIn_11 (by decide) (fun c1 => ?_) (fun c1 => ?_)
      · have hf := xt hf c1
        refine lv_iload_n hx hb dX11_blowsIn_40 rfl (lv_at hl 2 rfl) ?_
        obtain rfl := Option.some.inj hf
        exact ret H _ ls _ rfl hP hD hS dX11_blowsIn_41
      · have hf := xf hf c1
        refine lv_iload_n hx hb dX11_blowsIn_14 rfl (lv_at hl 2 rfl) ?_
        refine lv_aload_n hx hb dX11_blowsIn_15 rfl (lv_at hl 0 rfl) ?_
        refine va_get (D := X.1) (ci := 11) (v := .ref a_blows) (C := RX11) (T := TX11) (N := 24) hx hb hts in11 hown hG.1 hP 0 rfl rfl 4 (by decide) w2 (fun _ h9 => h9) rfl dX11_blowsIn_16 ?_
        refine lv_iconst (v := (5 : Int32)) hx hb dX11_blowsIn_19 (by decide) ?_
        refine lv_iload_n hx hb dX11_blowsIn_20 rfl (lv_at hl 3 rfl) ?_
        refine lv_imul hx hb dX11_blowsIn_21 ?_
        obtain ⟨h2, hf⟩ := gi_s hf
        refine va_iald (D := X.1) hx hb hG.1 hP 2 0 rfl rfl h2 dX11_blowsIn_22 ?_
        refine lv_iload_n hx hb dX11_blowsIn_23 rfl (lv_at hl 1 rfl) ?_
        refine lv_icmp_ne (tgt := 31) hx hb dX11_blowsIn_24 (by decide) (fun c3 => ?_) (fun c3 => ?_)
        · have hf := xf hf c3
          refine lv_iconst (v := (0 : Int32)) hx hb dX11_blowsIn_31 (by decide) ?_
          refine lv_iadd hx hb dX11_blowsIn_32 ?_
          refine lv_topi (fun v4 ev4 => ?_)
          have hf := lb_s hf ev4
          refine lv_istore_n (lv' := [(2, .int v4), (0, .ref a_this), (1, .int x0), (3, .int l3)]) hx hb dX11_blowsIn_33 rfl hl (by decide) rfl (fun ls hl => ?_)
          obtain ⟨v5, ev5, hf⟩ := lb_g hf
          refine lv_iinc (v := v5) (lv' := [(3, .int v5), (2, .int v4), (0, .ref a_this), (1, .int x0)]) hx hb dX11_blowsIn_34 hl (k := 3) rfl ev5.symm (by decide) rfl (fun ls hl => ?_)
          refine lv_goto (tgt := 4) hx hb dX11_blowsIn_37 (by decide) ?_
          exact ih v4 v5  H _ ls hP  hS (lv_sub hl [2, 3, 1, 0] rfl) hf
        · have hf := xt hf c3
          refine lv_iconst (v := (1 : Int32)) hx hb dX11_blowsIn_27 (by decide) ?_
          refine lv_goto (tgt := 32) hx hb dX11_blowsIn_28 (by decide) ?_
          refine lv_iadd hx hb dX11_blowsIn_32 ?_
          refine lv_topi (fun v6 ev6 => ?_)
          have hf := lb_s hf ev6
          refine lv_istore_n (lv' := [(2, .int v6), (0, .ref a_this), (1, .int x0), (3, .int l3)]) hx hb dX11_blowsIn_33 rfl hl (by decide) rfl (fun ls hl => ?_)
          obtain ⟨v7, ev7, hf⟩ := lb_g hf
          refine lv_iinc (v := v7) (lv' := [(3, .int v7), (2, .int v6), (0, .ref a_this), (1, .int x0)]) hx hb dX11_blowsIn_34 hl (k := 3) rfl ev7.symm (by decide) rfl (fun ls hl => ?_)
          refine lv_goto (tgt := 4) hx hb dX11_blowsIn_37 (by decide) ?_
          exact ih v6 v7  H _ ls hP  hS (lv_sub hl [2, 3, 1, 0] rfl) hf
  unfold mX11_blowsIn at hf
  refine lv_iconst (v := (0 : Int32)) hx hb dX11_blowsIn_0 (by decide) ?_
  refine lv_istore_n (lv' := [(2, .int (0 : Int32)), (0, .ref a_this), (1, .int x0)]) hx hb dX11_blowsIn_1 rfl hl (by decide) rfl (fun ls hl => ?_)
  refine lv_iconst (v := (0 : Int32)) hx hb dX11_blowsIn_2 (by decide) ?_
  refine lv_istore_n (lv' := [(3, .int (0 : Int32)), (2, .int (0 : Int32)), (0, .ref a_this), (1, .int x0)]) hx hb dX11_blowsIn_3 rfl hl (by decide) rfl (fun ls hl => ?_)
  exact hL4  FUEL (0 : Int32) (0 : Int32)  H _ ls hP  hS (lv_sub hl [2, 3, 1, 0] rfl) hf
def mX11_buttonsOf_B37 (x0 : Int32) (x1 : Int32) (x2 : Int32) (x3 : Int32) (f_blowMany : Nat → Int32) (f_blows : Nat → Int32) (f_delays : Nat → Int32) (f_judgeMany : Nat → Int32) (f_judges : Nat → Int32) (l5 : Int32) (s0 : Int32) (f_presses : Nat → Int32) :
  Option (Int32 × (Nat → Int32)) :=
  (mX11_blowsIn x0 f_blowMany f_blows).bind fun o7 =>
  lb ((l5 + s0) - o7) fun v9 =>
  if (2 : Int32) ≤ x3 then (if x3 = (2 : Int32) then (if v9 ≤ 0 then (some ((0 : Int32), f_presses)) else (some (v9, f_presses))) else (if 0 ≤ v9 then (some ((0 : Int32), f_presses)) else (lb (-v9) fun v13 =>
  some (v13, f_presses)))) else (lb (l5 + s0) fun v15 =>
  some (v15, f_presses))
def mX11_buttonsOf_B18 (x0 : Int32) (x1 : Int32) (x2 : Int32) (x3 : Int32) (f_blowMany : Nat → Int32) (f_blows : Nat → Int32) (f_delays : Nat → Int32) (f_judgeMany : Nat → Int32) (f_judges : Nat → Int32) (s0 : Int32) (f_presses : Nat → Int32) :
  Option (Int32 × (Nat → Int32)) :=
  if x3 = 0 then (mX11_buttonsOf_B37 x0 x1 x2 x3 f_blowMany f_blows f_delays f_judgeMany f_judges  s0 (0 : Int32) f_presses) else ((mX11_pointsBy x0 (1 : Int32) x1 x2 f_blowMany f_blows f_delays f_judgeMany f_judges f_presses).bind fun o5 =>
  mX11_buttonsOf_B37 x0 x1 x2 x3 f_blowMany f_blows f_delays f_judgeMany f_judges  s0 o5.1 o5.2)
def mX11_buttonsOf (x0 : Int32) (x1 : Int32) (x2 : Int32) (x3 : Int32) (f_blowMany : Nat → Int32) (f_blows : Nat → Int32) (f_delays : Nat → Int32) (f_judgeMany : Nat → Int32) (f_judges : Nat → Int32) (f_presses : Nat → Int32) :
  Option (Int32 × (Nat → Int32)) :=
  if x3 = (1 : Int32) then (mX11_buttonsOf_B18 x0 x1 x2 x3 f_blowMany f_blows f_delays f_judgeMany f_judges  (0 : Int32) f_presses) else ((mX11_pointsBy x0 (0 : Int32) x1 x2 f_blowMany f_blows f_delays f_judgeMany f_judges f_presses).bind fun o2 =>
  mX11_buttonsOf_B18 x0 x1 x2 x3 f_blowMany f_blows f_delays f_judgeMany f_judges  o2.1 o2.2)
theorem hdsX11_buttonsOf : yX11_buttonsOf.cls ≠ "java/lang/invoke/MethodHandle" ∧ yX11_buttonsOf.cls ≠ "java/lang/invoke/VarHandle" ∧ (parseMethodDescriptor yX11_buttonsOf.desc).map (fun d => d.parameters.length) = some 4 := by decide +kernel
theorem hdvX11_buttonsOf : yX11_buttonsOf.cls = RX11 ∧ yX11_buttonsOf.cls ≠ "java/lang/invoke/MethodHandle" ∧ yX11_buttonsOf.cls ≠ "java/lang/invoke/VarHandle" ∧ (parseMethodDescriptor yX11_buttonsOf.desc).map (fun d => d.parameters.length) = some 4 := by decide +kernel
abbrev rmX11_buttonsOf : Room := { frames := 3, cells := 0, slots := 0, locals := 74 }
set_option maxHeartbeats 4000000 in
set_option maxRecDepth 100000 in
theorem qX11_buttonsOf (l : Launch) (X : XT) (a_this : Nat) (a_blowMany : Nat) (a_blows : Nat) (a_delays : Nat) (a_judgeMany : Nat) (a_judges : Nat) (a_presses : Nat) (a_text : Nat) (a_roundMany : Nat) (a_forwards : Nat) (a_downs : Nat) (a_takens : Nat) (a_homes : Nat) (a_noises : Nat) (a_tolds : Nat) (a_tens : Nat) (a_told : Nat) (a_ways : Nat) (a_nextWays : Nat) (a_tallies : Nat) (a_values : Nat) (a_nextValues : Nat)  (i_length : Int32) (i_keptMany : Int32) (i_place : Int32) (f_blowMany : Nat → Int32) (f_blows : Nat → Int32) (f_delays : Nat → Int32) (f_judgeMany : Nat → Int32) (f_judges : Nat → Int32) (f_presses : Nat → Int32) (x0 : Int32) (x1 : Int32) (x2 : Int32) (x3 : Int32) (o : Int32 × (Nat → Int32)) (hf : mX11_buttonsOf x0 x1 x2 x3 f_blowMany f_blows f_delays f_judgeMany f_judges f_presses = some o) :
    MI l yX11_buttonsOf wsX11_buttonsOf rmX11_buttonsOf X [.ref a_this, .int x0, .int x1, .int x2, .int x3] [(a_this, .inr (11, [.int i_length, .ref a_text, .ref a_roundMany, .ref a_blowMany, .ref a_blows, .ref a_forwards, .ref a_downs, .ref a_takens, .ref a_homes, .ref a_noises, .ref a_judgeMany, .ref a_judges, .ref a_delays, .ref a_tolds, .ref a_tens, .int i_keptMany, .int i_place, .ref a_told, .ref a_ways, .ref a_nextWays, .ref a_tallies, .ref a_presses, .ref a_values, .ref a_nextValues])), (a_blowMany, .inl (X.2.1 0, 2, .inl f_blowMany)), (a_blows, .inl (X.2.1 0, 400, .inl f_blows)), (a_delays, .inl (X.2.1 0, 24, .inl f_delays)), (a_judgeMany, .inl (X.2.1 0, 2, .inl f_judgeMany)), (a_judges, .inl (X.2.1 0, 112, .inl f_judges)), (a_presses, .inl (X.2.1 0, 1520, .inl f_presses))]  [(a_this, .inr (11, [.int i_length, .ref a_text, .ref a_roundMany, .ref a_blowMany, .ref a_blows, .ref a_forwards, .ref a_downs, .ref a_takens, .ref a_homes, .ref a_noises, .ref a_judgeMany, .ref a_judges, .ref a_delays, .ref a_tolds, .ref a_tens, .int i_keptMany, .int i_place, .ref a_told, .ref a_ways, .ref a_nextWays, .ref a_tallies, .ref a_presses, .ref a_values, .ref a_nextValues])), (a_blowMany, .inl (X.2.1 0, 2, .inl f_blowMany)), (a_blows, .inl (X.2.1 0, 400, .inl f_blows)), (a_delays, .inl (X.2.1 0, 24, .inl f_delays)), (a_judgeMany, .inl (X.2.1 0, 2, .inl f_judgeMany)), (a_judges, .inl (X.2.1 0, 112, .inl f_judges)), (a_presses, .inl (X.2.1 0, 1520, .inl o.2))] o.1 := by
  refine MI_ofH (cc := cX11_buttonsOf) (maxL := 8) (rt := .int) (by decide) rfl (Nat.le_of_ble_eq_true rfl) ?_
  intro p e s m below meth c A Q H ls hx hb hml hts hown hA hD hG hP hS hl ret
  have hown : s.vm.findClass RX11 = some m.cls := hown
  have hD : aD A [a_this, a_blowMany, a_blows, a_delays, a_judgeMany, a_judges, a_presses] := hD
  have hl : lv_has ls 8 [(0, .ref a_this), (1, .int x0), (2, .int x1), (3, .int x2), (4, .int x3)] := hl
  have hB37 : ∀ (l5 : Int32) (s0 : Int32) (f_presses : Nat → Int32)  (H : Heap) (locs : List Loc) (ls : Array Slot), va_P X.1 vwCl [(a_this, .inr (11, [.int i_length, .ref a_text, .ref a_roundMany, .ref a_blowMany, .ref a_blows, .ref a_forwards, .ref a_downs, .ref a_takens, .ref a_homes, .ref a_noises, .ref a_judgeMany, .ref a_judges, .ref a_delays, .ref a_tolds, .ref a_tens, .int i_keptMany, .int i_place, .ref a_told, .ref a_ways, .ref a_nextWays, .ref a_tallies, .ref a_presses, .ref a_values, .ref a_nextValues])), (a_blowMany, .inl (X.2.1 0, 2, .inl f_blowMany)), (a_blows, .inl (X.2.1 0, 400, .inl f_blows)), (a_delays, .inl (X.2.1 0, 24, .inl f_delays)), (a_judgeMany, .inl (X.2.1 0, 2, .inl f_judgeMany)), (a_judges, .inl (X.2.1 0, 112, .inl f_judges)), (a_presses, .inl (X.2.1 0, 1520, .inl f_presses))] H → va_S A s.heap H locs → lv_has ls 8 [(0, .ref a_this), (1, .int x0), (4, .int x3), (5, .int l5)] → mX11_buttonsOf_B37 x0 x1 x2 x3 f_blowMany f_blows f_delays f_judgeMany f_judges  l5 s0 f_presses = some o → W p l e rmX11_buttonsOf s m ([.ref a_this, .int x0, .int x1, .int x2, .int x3] : List Value).toArray below meth c H locs 0 0 Q (F0 m 37 ls [.int s0]) := by
    intro l5 s0 f_presses  H locs ls hP hS hl hf
    unfold mX11_buttonsOf_B37 at hf
    refine lv_istore (lv' := [(6, .int s0), (0, .ref a_this), (1, .int x0), (4, .int x3), (5, .int l5)]) hx hb dX11_buttonsOf_37 hl (by decide) rfl (fun ls hl => ?_)
    refine lv_iload hx hb dX11_buttonsOf_39 (lv_at hl 4 rfl) ?_
    refine lv_iload hx hb dX11_buttonsOf_41 (lv_at hl 0 rfl) ?_
    refine lv_iadd hx hb dX11_buttonsOf_43 ?_
    refine lv_aload_n hx hb dX11_buttonsOf_44 rfl (lv_at hl 1 rfl) ?_
    refine lv_iload_n hx hb dX11_buttonsOf_45 rfl (lv_at hl 2 rfl) ?_
    obtain ⟨o7, ho7, hf⟩ := ob_s hf
    refine xV_i (As := [.int x0]) (b := a_this) (rest := [.int (l5 + s0)]) (ws2 := [(a_this, .inr (11, [.int i_length, .ref a_text, .ref a_roundMany, .ref a_blowMany, .ref a_blows, .ref a_forwards, .ref a_downs, .ref a_takens, .ref a_homes, .ref a_noises, .ref a_judgeMany, .ref a_judges, .ref a_delays, .ref a_tolds, .ref a_tens, .int i_keptMany, .int i_place, .ref a_told, .ref a_ways, .ref a_nextWays, .ref a_tallies, .ref a_presses, .ref a_values, .ref a_nextValues])), (a_blowMany, .inl (X.2.1 0, 2, .inl f_blowMany)), (a_blows, .inl (X.2.1 0, 400, .inl f_blows)), (a_delays, .inl (X.2.1 0, 24, .inl f_delays)), (a_judgeMany, .inl (X.2.1 0, 2, .inl f_judgeMany)), (a_judges, .inl (X.2.1 0, 112, .inl f_judges)), (a_presses, .inl (X.2.1 0, 1520, .inl f_presses))]) hx hb hml hts hown hG hA hP hD rfl hS hl.1 (qX11_blowsIn l X a_this a_blowMany a_blows a_text a_roundMany a_forwards a_downs a_takens a_homes a_noises a_judgeMany a_judges a_delays a_tolds a_tens a_told a_ways a_nextWays a_tallies a_presses a_values a_nextValues i_length i_keptMany i_place f_blowMany f_blows x0 o7 ho7) (cwV (y := yX11_blowsIn) 1 hts gX11_buttonsOf_X11_blowsIn rfl rfl rfl hdvX11_blowsIn ⟨Nat.le_of_ble_eq_true rfl, Nat.le_of_ble_eq_true rfl⟩) [0, 1, 2] [3, 4, 5, 6] [4, 5, 6, 0, 1, 2, 3] rfl rfl rfl rfl rfl rfl rfl (ci := 11) rfl 0 rfl rfl rfl (Nat.le_of_ble_eq_true rfl) ⟨Nat.le_of_ble_eq_true rfl, Nat.le_of_ble_eq_true rfl⟩ dX11_buttonsOf_46 (fun H locs hP _ hS => ?_)
    refine lv_isub hx hb dX11_buttonsOf_49 ?_
    refine lv_topi (fun v9 ev9 => ?_)
    have hf := lb_s hf ev9
    refine lv_istore (lv' := [(7, .int v9), (6, .int s0), (0, .ref a_this), (1, .int x0), (4, .int x3), (5, .int l5)]) hx hb dX11_buttonsOf_50 hl (by decide) rfl (fun ls hl => ?_)
    refine lv_iload hx hb dX11_buttonsOf_52 (lv_at hl 4 rfl) ?_
    refine lv_iconst (v := (2 : Int32)) hx hb dX11_buttonsOf_54 (by decide) ?_
    refine lv_icmp_ge (tgt := 66) hx hb dX11_buttonsOf_55 (by decide) (fun c10 => ?_) (fun c10 => ?_)
    · have hf := xt hf c10
      refine lv_iload hx hb dX11_buttonsOf_66 (lv_at hl 4 rfl) ?_
      refine lv_iconst (v := (2 : Int32)) hx hb dX11_buttonsOf_68 (by decide) ?_
      refine lv_icmp_ne (tgt := 86) hx hb dX11_buttonsOf_69 (by decide) (fun c11 => ?_) (fun c11 => ?_)
      · have hf := xf hf c11
        refine lv_iload hx hb dX11_buttonsOf_86 (lv_at hl 0 rfl) ?_
        refine lv_if_ge (tgt := 97) hx hb dX11_buttonsOf_88 (by decide) (fun c12 => ?_) (fun c12 => ?_)
        · have hf := xt hf c12
          refine lv_iconst (v := (0 : Int32)) hx hb dX11_buttonsOf_97 (by decide) ?_
          obtain rfl := Option.some.inj hf
          exact ret H _ ls _ rfl hP hD hS dX11_buttonsOf_98
        · have hf := xf hf c12
          refine lv_iload hx hb dX11_buttonsOf_91 (lv_at hl 0 rfl) ?_
          refine lv_ineg hx hb dX11_buttonsOf_93 ?_
          refine lv_goto (tgt := 98) hx hb dX11_buttonsOf_94 (by decide) ?_
          refine lv_topi (fun v13 ev13 => ?_)
          have hf := lb_s hf ev13
          obtain rfl := Option.some.inj hf
          exact ret H _ ls _ rfl hP hD hS dX11_buttonsOf_98
      · have hf := xt hf c11
        refine lv_iload hx hb dX11_buttonsOf_72 (lv_at hl 0 rfl) ?_
        refine lv_if_le (tgt := 82) hx hb dX11_buttonsOf_74 (by decide) (fun c14 => ?_) (fun c14 => ?_)
        · have hf := xt hf c14
          refine lv_iconst (v := (0 : Int32)) hx hb dX11_buttonsOf_82 (by decide) ?_
          refine lv_goto (tgt := 98) hx hb dX11_buttonsOf_83 (by decide) ?_
          obtain rfl := Option.some.inj hf
          exact ret H _ ls _ rfl hP hD hS dX11_buttonsOf_98
        · have hf := xf hf c14
          refine lv_iload hx hb dX11_buttonsOf_77 (lv_at hl 0 rfl) ?_
          refine lv_goto (tgt := 98) hx hb dX11_buttonsOf_79 (by decide) ?_
          obtain rfl := Option.some.inj hf
          exact ret H _ ls _ rfl hP hD hS dX11_buttonsOf_98
    · have hf := xf hf c10
      refine lv_iload hx hb dX11_buttonsOf_58 (lv_at hl 5 rfl) ?_
      refine lv_iload hx hb dX11_buttonsOf_60 (lv_at hl 1 rfl) ?_
      refine lv_iadd hx hb dX11_buttonsOf_62 ?_
      refine lv_goto (tgt := 98) hx hb dX11_buttonsOf_63 (by decide) ?_
      refine lv_topi (fun v15 ev15 => ?_)
      have hf := lb_s hf ev15
      obtain rfl := Option.some.inj hf
      exact ret H _ ls _ rfl hP hD hS dX11_buttonsOf_98
  have hB18 : ∀ (s0 : Int32) (f_presses : Nat → Int32)  (H : Heap) (locs : List Loc) (ls : Array Slot), va_P X.1 vwCl [(a_this, .inr (11, [.int i_length, .ref a_text, .ref a_roundMany, .ref a_blowMany, .ref a_blows, .ref a_forwards, .ref a_downs, .ref a_takens, .ref a_homes, .ref a_noises, .ref a_judgeMany, .ref a_judges, .ref a_delays, .ref a_tolds, .ref a_tens, .int i_keptMany, .int i_place, .ref a_told, .ref a_ways, .ref a_nextWays, .ref a_tallies, .ref a_presses, .ref a_values, .ref a_nextValues])), (a_blowMany, .inl (X.2.1 0, 2, .inl f_blowMany)), (a_blows, .inl (X.2.1 0, 400, .inl f_blows)), (a_delays, .inl (X.2.1 0, 24, .inl f_delays)), (a_judgeMany, .inl (X.2.1 0, 2, .inl f_judgeMany)), (a_judges, .inl (X.2.1 0, 112, .inl f_judges)), (a_presses, .inl (X.2.1 0, 1520, .inl f_presses))] H → va_S A s.heap H locs → lv_has ls 8 [(0, .ref a_this), (1, .int x0), (2, .int x1), (3, .int x2), (4, .int x3)] → mX11_buttonsOf_B18 x0 x1 x2 x3 f_blowMany f_blows f_delays f_judgeMany f_judges  s0 f_presses = some o → W p l e rmX11_buttonsOf s m ([.ref a_this, .int x0, .int x1, .int x2, .int x3] : List Value).toArray below meth c H locs 0 0 Q (F0 m 18 ls [.int s0]) := by
    intro s0 f_presses  H locs ls hP hS hl hf
    unfold mX11_buttonsOf_B18 at hf
    refine lv_istore (lv' := [(5, .int s0), (0, .ref a_this), (1, .int x0), (2, .int x1), (3, .int x2), (4, .int x3)]) hx hb dX11_buttonsOf_18 hl (by decide) rfl (fun ls hl => ?_)
    refine lv_iload hx hb dX11_buttonsOf_20 (lv_at hl 5 rfl) ?_
    refine lv_if_ne (tgt := 29) hx hb dX11_buttonsOf_22 (by decide) (fun c4 => ?_) (fun c4 => ?_)
    · have hf := xf hf c4
      refine lv_aload_n hx hb dX11_buttonsOf_29 rfl (lv_at hl 1 rfl) ?_
      refine lv_iload_n hx hb dX11_buttonsOf_30 rfl (lv_at hl 2 rfl) ?_
      refine lv_iconst (v := (1 : Int32)) hx hb dX11_buttonsOf_31 (by decide) ?_
      refine lv_iload_n hx hb dX11_buttonsOf_32 rfl (lv_at hl 3 rfl) ?_
      refine lv_iload_n hx hb dX11_buttonsOf_33 rfl (lv_at hl 4 rfl) ?_
      obtain ⟨o5, ho5, hf⟩ := ob_s hf
      refine xV_i (As := [.int x0, .int (1 : Int32), .int x1, .int x2]) (b := a_this) (rest := []) (ws2 := [(a_this, .inr (11, [.int i_length, .ref a_text, .ref a_roundMany, .ref a_blowMany, .ref a_blows, .ref a_forwards, .ref a_downs, .ref a_takens, .ref a_homes, .ref a_noises, .ref a_judgeMany, .ref a_judges, .ref a_delays, .ref a_tolds, .ref a_tens, .int i_keptMany, .int i_place, .ref a_told, .ref a_ways, .ref a_nextWays, .ref a_tallies, .ref a_presses, .ref a_values, .ref a_nextValues])), (a_blowMany, .inl (X.2.1 0, 2, .inl f_blowMany)), (a_blows, .inl (X.2.1 0, 400, .inl f_blows)), (a_delays, .inl (X.2.1 0, 24, .inl f_delays)), (a_judgeMany, .inl (X.2.1 0, 2, .inl f_judgeMany)), (a_judges, .inl (X.2.1 0, 112, .inl f_judges)), (a_presses, .inl (X.2.1 0, 1520, .inl o5.2))]) hx hb hml hts hown hG hA hP hD rfl hS hl.1 (qX11_pointsBy l X a_this a_blowMany a_blows a_delays a_judgeMany a_judges a_presses a_text a_roundMany a_forwards a_downs a_takens a_homes a_noises a_tolds a_tens a_told a_ways a_nextWays a_tallies a_values a_nextValues i_length i_keptMany i_place f_blowMany f_blows f_delays f_judgeMany f_judges f_presses x0 (1 : Int32) x1 x2 o5 ho5) (cwV (y := yX11_pointsBy) 4 hts gX11_buttonsOf_X11_pointsBy rfl rfl rfl hdvX11_pointsBy ⟨Nat.le_of_ble_eq_true rfl, Nat.le_of_ble_eq_true rfl⟩) [0, 1, 2, 3, 4, 5, 6] [] [0, 1, 2, 3, 4, 5, 6] rfl rfl rfl rfl rfl rfl rfl (ci := 11) rfl 0 rfl rfl rfl (Nat.le_of_ble_eq_true rfl) ⟨Nat.le_of_ble_eq_true rfl, Nat.le_of_ble_eq_true rfl⟩ dX11_buttonsOf_34 (fun H locs hP _ hS => ?_)
      exact hB37  s0 o5.1 o5.2  H _ ls hP  hS (lv_sub hl [1, 2, 5, 0] rfl) hf
    · have hf := xt hf c4
      refine lv_iconst (v := (0 : Int32)) hx hb dX11_buttonsOf_25 (by decide) ?_
      refine lv_goto (tgt := 37) hx hb dX11_buttonsOf_26 (by decide) ?_
      exact hB37  s0 (0 : Int32) f_presses  H _ ls hP  hS (lv_sub hl [1, 2, 5, 0] rfl) hf
  unfold mX11_buttonsOf at hf
  refine lv_iload hx hb dX11_buttonsOf_0 (lv_at hl 4 rfl) ?_
  refine lv_iconst (v := (1 : Int32)) hx hb dX11_buttonsOf_2 (by decide) ?_
  refine lv_icmp_ne (tgt := 10) hx hb dX11_buttonsOf_3 (by decide) (fun c1 => ?_) (fun c1 => ?_)
  · have hf := xf hf c1
    refine lv_aload_n hx hb dX11_buttonsOf_10 rfl (lv_at hl 0 rfl) ?_
    refine lv_iload_n hx hb dX11_buttonsOf_11 rfl (lv_at hl 1 rfl) ?_
    refine lv_iconst (v := (0 : Int32)) hx hb dX11_buttonsOf_12 (by decide) ?_
    refine lv_iload_n hx hb dX11_buttonsOf_13 rfl (lv_at hl 2 rfl) ?_
    refine lv_iload_n hx hb dX11_buttonsOf_14 rfl (lv_at hl 3 rfl) ?_
    obtain ⟨o2, ho2, hf⟩ := ob_s hf
    refine xV_i (As := [.int x0, .int (0 : Int32), .int x1, .int x2]) (b := a_this) (rest := []) (ws2 := [(a_this, .inr (11, [.int i_length, .ref a_text, .ref a_roundMany, .ref a_blowMany, .ref a_blows, .ref a_forwards, .ref a_downs, .ref a_takens, .ref a_homes, .ref a_noises, .ref a_judgeMany, .ref a_judges, .ref a_delays, .ref a_tolds, .ref a_tens, .int i_keptMany, .int i_place, .ref a_told, .ref a_ways, .ref a_nextWays, .ref a_tallies, .ref a_presses, .ref a_values, .ref a_nextValues])), (a_blowMany, .inl (X.2.1 0, 2, .inl f_blowMany)), (a_blows, .inl (X.2.1 0, 400, .inl f_blows)), (a_delays, .inl (X.2.1 0, 24, .inl f_delays)), (a_judgeMany, .inl (X.2.1 0, 2, .inl f_judgeMany)), (a_judges, .inl (X.2.1 0, 112, .inl f_judges)), (a_presses, .inl (X.2.1 0, 1520, .inl o2.2))]) hx hb hml hts hown hG hA hP hD rfl hS hl.1 (qX11_pointsBy l X a_this a_blowMany a_blows a_delays a_judgeMany a_judges a_presses a_text a_roundMany a_forwards a_downs a_takens a_homes a_noises a_tolds a_tens a_told a_ways a_nextWays a_tallies a_values a_nextValues i_length i_keptMany i_place f_blowMany f_blows f_delays f_judgeMany f_judges f_presses x0 (0 : Int32) x1 x2 o2 ho2) (cwV (y := yX11_pointsBy) 4 hts gX11_buttonsOf_X11_pointsBy rfl rfl rfl hdvX11_pointsBy ⟨Nat.le_of_ble_eq_true rfl, Nat.le_of_ble_eq_true rfl⟩) [0, 1, 2, 3, 4, 5, 6] [] [0, 1, 2, 3, 4, 5, 6] rfl rfl rfl rfl rfl rfl rfl (ci := 11) rfl 0 rfl rfl rfl (Nat.le_of_ble_eq_true rfl) ⟨Nat.le_of_ble_eq_true rfl, Nat.le_of_ble_eq_true rfl⟩ dX11_buttonsOf_15 (fun H locs hP _ hS => ?_)
    exact hB18  o2.1 o2.2  H _ ls hP  hS (lv_sub hl [0, 1, 2, 3, 4] rfl) hf
  · have hf := xt hf c1
    refine lv_iconst (v := (0 : Int32)) hx hb dX11_buttonsOf_6 (by decide) ?_
    refine lv_goto (tgt := 18) hx hb dX11_buttonsOf_7 (by decide) ?_
    exact hB18  (0 : Int32) f_presses  H _ ls hP  hS (lv_sub hl [0, 1, 2, 3, 4] rfl) hf
def mX11_buttons_B72 (x0 : Int32) (x1 : Int32) (x2 : Int32) (x3 : Int32) (f_blowMany : Nat → Int32) (f_blows : Nat → Int32) (f_delays : Nat → Int32) (f_judgeMany : Nat → Int32) (f_judges : Nat → Int32) (f_roundMany : Nat → Int32) (k72 : Int32 → Int32 → (Nat → Int32) → Option (Int32 × (Nat → Int32))) (l5 : Int32) (l6 : Int32) (f_presses : Nat → Int32) :
  Option (Int32 × (Nat → Int32)) :=
  if (f_roundMany (0 : Int32).toNatClampNeg) ≤ l6 then (some (l5, f_presses)) else ((mX11_buttonsOf l6 x1 x2 x3 f_blowMany f_blows f_delays f_judgeMany f_judges f_presses).bind fun o18 =>
  lb (l5 + o18.1) fun v20 =>
  lb (l6 + (1 : Int32)) fun v21 =>
  k72 v20 v21 o18.2)
def mX11_buttons_L72 (x0 : Int32) (x1 : Int32) (x2 : Int32) (x3 : Int32) (f_blowMany : Nat → Int32) (f_blows : Nat → Int32) (f_delays : Nat → Int32) (f_judgeMany : Nat → Int32) (f_judges : Nat → Int32) (f_roundMany : Nat → Int32) (n : Nat) (l5 : Int32) (l6 : Int32) (f_presses : Nat → Int32) :
  Option (Int32 × (Nat → Int32)) :=
  loopN (fun k (s : Int32 × Int32 × (Nat → Int32)) => mX11_buttons_B72 x0 x1 x2 x3 f_blowMany f_blows f_delays f_judgeMany f_judges f_roundMany  (fun l5 l6 f_presses => k (l5, l6, f_presses)) s.1 s.2.1 s.2.2) n (l5, l6, f_presses)
def mX11_buttons_B13 (x0 : Int32) (x1 : Int32) (x2 : Int32) (x3 : Int32) (f_blowMany : Nat → Int32) (f_blows : Nat → Int32) (f_delays : Nat → Int32) (f_judgeMany : Nat → Int32) (f_judges : Nat → Int32) (f_roundMany : Nat → Int32) (f_presses : Nat → Int32) :
  Option (Int32 × (Nat → Int32)) :=
  (mX11_in (Int32.toInt64 x1) (1 : Int64) (8 : Int64)).bind fun o5 =>
  if o5 = 0 then (some ((-1 : Int32), f_presses)) else ((mX11_in (Int32.toInt64 x2) (0 : Int64) (9 : Int64)).bind fun o8 =>
  if o8 = 0 then (some ((-1 : Int32), f_presses)) else ((mX11_in (Int32.toInt64 x3) (0 : Int64) (3 : Int64)).bind fun o11 =>
  if o11 = 0 then (some ((-1 : Int32), f_presses)) else (if x0 < 0 then (mX11_buttons_L72 x0 x1 x2 x3 f_blowMany f_blows f_delays f_judgeMany f_judges f_roundMany  FUEL (0 : Int32) (0 : Int32) f_presses) else ((mX11_buttonsOf x0 x1 x2 x3 f_blowMany f_blows f_delays f_judgeMany f_judges f_presses).bind fun o15 =>
  some (o15.1, o15.2)))))
def mX11_buttons (x0 : Int32) (x1 : Int32) (x2 : Int32) (x3 : Int32) (f_blowMany : Nat → Int32) (f_blows : Nat → Int32) (f_delays : Nat → Int32) (f_judgeMany : Nat → Int32) (f_judges : Nat → Int32) (f_presses : Nat → Int32) (f_roundMany : Nat → Int32) :
  Option (Int32 × (Nat → Int32)) :=
  if x0 = (-1 : Int32) then (mX11_buttons_B13 x0 x1 x2 x3 f_blowMany f_blows f_delays f_judgeMany f_judges f_roundMany  f_presses) else ((mX11_isRound x0 f_roundMany).bind fun o2 =>
  if o2 = 0 then (some ((-1 : Int32), f_presses)) else (mX11_buttons_B13 x0 x1 x2 x3 f_blowMany f_blows f_delays f_judgeMany f_judges f_roundMany  f_presses))
theorem hdsX11_buttons : yX11_buttons.cls ≠ "java/lang/invoke/MethodHandle" ∧ yX11_buttons.cls ≠ "java/lang/invoke/VarHandle" ∧ (parseMethodDescriptor yX11_buttons.desc).map (fun d => d.parameters.length) = some 4 := by decide +kernel
theorem hdvX11_buttons : yX11_buttons.cls = RX11 ∧ yX11_buttons.cls ≠ "java/lang/invoke/MethodHandle" ∧ yX11_buttons.cls ≠ "java/lang/invoke/VarHandle" ∧ (parseMethodDescriptor yX11_buttons.desc).map (fun d => d.parameters.length) = some 4 := by decide +kernel
abbrev rmX11_buttons : Room := { frames := 4, cells := 0, slots := 0, locals := 101 }
set_option maxHeartbeats 4000000 in
set_option maxRecDepth 100000 in
theorem qX11_buttons (l : Launch) (X : XT) (a_this : Nat) (a_blowMany : Nat) (a_blows : Nat) (a_delays : Nat) (a_judgeMany : Nat) (a_judges : Nat) (a_presses : Nat) (a_roundMany : Nat) (a_text : Nat) (a_forwards : Nat) (a_downs : Nat) (a_takens : Nat) (a_homes : Nat) (a_noises : Nat) (a_tolds : Nat) (a_tens : Nat) (a_told : Nat) (a_ways : Nat) (a_nextWays : Nat) (a_tallies : Nat) (a_values : Nat) (a_nextValues : Nat)  (i_length : Int32) (i_keptMany : Int32) (i_place : Int32) (f_blowMany : Nat → Int32) (f_blows : Nat → Int32) (f_delays : Nat → Int32) (f_judgeMany : Nat → Int32) (f_judges : Nat → Int32) (f_presses : Nat → Int32) (f_roundMany : Nat → Int32) (x0 : Int32) (x1 : Int32) (x2 : Int32) (x3 : Int32) (o : Int32 × (Nat → Int32)) (hf : mX11_buttons x0 x1 x2 x3 f_blowMany f_blows f_delays f_judgeMany f_judges f_presses f_roundMany = some o) :
    MI l yX11_buttons wsX11_buttons rmX11_buttons X [.ref a_this, .int x0, .int x1, .int x2, .int x3] [(a_this, .inr (11, [.int i_length, .ref a_text, .ref a_roundMany, .ref a_blowMany, .ref a_blows, .ref a_forwards, .ref a_downs, .ref a_takens, .ref a_homes, .ref a_noises, .ref a_judgeMany, .ref a_judges, .ref a_delays, .ref a_tolds, .ref a_tens, .int i_keptMany, .int i_place, .ref a_told, .ref a_ways, .ref a_nextWays, .ref a_tallies, .ref a_presses, .ref a_values, .ref a_nextValues])), (a_blowMany, .inl (X.2.1 0, 2, .inl f_blowMany)), (a_blows, .inl (X.2.1 0, 400, .inl f_blows)), (a_delays, .inl (X.2.1 0, 24, .inl f_delays)), (a_judgeMany, .inl (X.2.1 0, 2, .inl f_judgeMany)), (a_judges, .inl (X.2.1 0, 112, .inl f_judges)), (a_presses, .inl (X.2.1 0, 1520, .inl f_presses)), (a_roundMany, .inl (X.2.1 0, 2, .inl f_roundMany))]  [(a_this, .inr (11, [.int i_length, .ref a_text, .ref a_roundMany, .ref a_blowMany, .ref a_blows, .ref a_forwards, .ref a_downs, .ref a_takens, .ref a_homes, .ref a_noises, .ref a_judgeMany, .ref a_judges, .ref a_delays, .ref a_tolds, .ref a_tens, .int i_keptMany, .int i_place, .ref a_told, .ref a_ways, .ref a_nextWays, .ref a_tallies, .ref a_presses, .ref a_values, .ref a_nextValues])), (a_blowMany, .inl (X.2.1 0, 2, .inl f_blowMany)), (a_blows, .inl (X.2.1 0, 400, .inl f_blows)), (a_delays, .inl (X.2.1 0, 24, .inl f_delays)), (a_judgeMany, .inl (X.2.1 0, 2, .inl f_judgeMany)), (a_judges, .inl (X.2.1 0, 112, .inl f_judges)), (a_presses, .inl (X.2.1 0, 1520, .inl o.2)), (a_roundMany, .inl (X.2.1 0, 2, .inl f_roundMany))] o.1 := by
  refine MI_ofH (cc := cX11_buttons) (maxL := 7) (rt := .int) (by decide) rfl (Nat.le_of_ble_eq_true rfl) ?_
  intro p e s m below meth c A Q H ls hx hb hml hts hown hA hD hG hP hS hl ret
  have hown : s.vm.findClass RX11 = some m.cls := hown
  have hD : aD A [a_this, a_blowMany, a_blows, a_delays, a_judgeMany, a_judges, a_presses, a_roundMany] := hD
  have hl : lv_has ls 7 [(0, .ref a_this), (1, .int x0), (2, .int x1), (3, .int x2), (4, .int x3)] := hl
  have w1 := hts (Cond.constantLong RX11 78 (8)) (List.mem_of_getElem? (i := 1) rfl)
  have w2 := hts (Cond.constantLong RX11 107 (9)) (List.mem_of_getElem? (i := 2) rfl)
  have w3 := hts (Cond.constantLong RX11 101 (3)) (List.mem_of_getElem? (i := 3) rfl)
  have w4 := hts (Cond.fieldLink RX11 13 "ThreeCardsModel" "roundMany" "[I") (List.mem_of_getElem? (i := 4) rfl)
  have in11 : ∀ w ∈ u_ws RX11 TX11 24, w ∈ wsX11_buttons := by decide +kernel
  have hL72 : ∀ (n : Nat) (l5 : Int32) (l6 : Int32) (f_presses : Nat → Int32)  (H : Heap) (locs : List Loc) (ls : Array Slot), va_P X.1 vwCl [(a_this, .inr (11, [.int i_length, .ref a_text, .ref a_roundMany, .ref a_blowMany, .ref a_blows, .ref a_forwards, .ref a_downs, .ref a_takens, .ref a_homes, .ref a_noises, .ref a_judgeMany, .ref a_judges, .ref a_delays, .ref a_tolds, .ref a_tens, .int i_keptMany, .int i_place, .ref a_told, .ref a_ways, .ref a_nextWays, .ref a_tallies, .ref a_presses, .ref a_values, .ref a_nextValues])), (a_blowMany, .inl (X.2.1 0, 2, .inl f_blowMany)), (a_blows, .inl (X.2.1 0, 400, .inl f_blows)), (a_delays, .inl (X.2.1 0, 24, .inl f_delays)), (a_judgeMany, .inl (X.2.1 0, 2, .inl f_judgeMany)), (a_judges, .inl (X.2.1 0, 112, .inl f_judges)), (a_presses, .inl (X.2.1 0, 1520, .inl f_presses)), (a_roundMany, .inl (X.2.1 0, 2, .inl f_roundMany))] H → va_S A s.heap H locs → lv_has ls 7 [(0, .ref a_this), (2, .int x1), (3, .int x2), (4, .int x3), (5, .int l5), (6, .int l6)] → mX11_buttons_L72 x0 x1 x2 x3 f_blowMany f_blows f_delays f_judgeMany f_judges f_roundMany  n l5 l6 f_presses = some o → W p l e rmX11_buttons s m ([.ref a_this, .int x0, .int x1, .int x2, .int x3] : List Value).toArray below meth c H locs 0 0 Q (F0 m 72 ls []) := by
    intro n
    induction n with
    | zero => intro l5 l6 f_presses  H locs ls hP hS hl hf; exact xn hf
    | succ n ih =>
      intro l5 l6 f_presses  H locs ls hP hS hl hf
      have hf : mX11_buttons_B72 x0 x1 x2 x3 f_blowMany f_blows f_delays f_judgeMany f_judges f_roundMany  (mX11_buttons_L72 x0 x1 x2 x3 f_blowMany f_blows f_delays f_judgeMany f_judges f_roundMany  n) l5 l6 f_presses = some o := hf
      generalize mX11_buttons_L72 x0 x1 x2 x3 f_blowMany f_blows f_delays f_judgeMany f_judges f_roundMany  n = k72 at ih hf
      unfold mX11_buttons_B72 at hf
      refine lv_iload hx hb dX11_buttons_72 (lv_at hl 5 rfl) ?_
      refine lv_aload_n hx hb dX11_buttons_74 rfl (lv_at hl 0 rfl) ?_
      refine va_get (D := X.1) (ci := 11) (v := .ref a_roundMany) (C := RX11) (T := TX11) (N := 24) hx hb hts in11 hown hG.1 hP 0 rfl rfl 2 (by decide) w4 (fun _ h9 => h9) rfl dX11_buttons_75 ?_
      refine lv_iconst (v := (0 : Int32)) hx hb dX11_buttons_78 (by decide) ?_
      refine va_iald (D := X.1) hx hb hG.1 hP 7 0 rfl rfl (vp_lit (by decide)) dX11_buttons_79 ?_
      refine lv_icmp_ge (tgt := 104) hx hb dX11_buttons_80 (by decide) (fun c17 => ?_) (fun c17 => ?_)
      · have hf := xt hf c17
        refine lv_iload hx hb dX11_buttons_104 (lv_at hl 4 rfl) ?_
        obtain rfl := Option.some.inj hf
        exact ret H _ ls _ rfl hP hD hS dX11_buttons_106
      · have hf := xf hf c17
        refine lv_iload hx hb dX11_buttons_83 (lv_at hl 4 rfl) ?_
        refine lv_aload_n hx hb dX11_buttons_85 rfl (lv_at hl 0 rfl) ?_
        refine lv_iload hx hb dX11_buttons_86 (lv_at hl 5 rfl) ?_
        refine lv_iload_n hx hb dX11_buttons_88 rfl (lv_at hl 1 rfl) ?_
        refine lv_iload_n hx hb dX11_buttons_89 rfl (lv_at hl 2 rfl) ?_
        refine lv_iload hx hb dX11_buttons_90 (lv_at hl 3 rfl) ?_
        obtain ⟨o18, ho18, hf⟩ := ob_s hf
        refine xV_i (As := [.int l6, .int x1, .int x2, .int x3]) (b := a_this) (rest := [.int l5]) (ws2 := [(a_this, .inr (11, [.int i_length, .ref a_text, .ref a_roundMany, .ref a_blowMany, .ref a_blows, .ref a_forwards, .ref a_downs, .ref a_takens, .ref a_homes, .ref a_noises, .ref a_judgeMany, .ref a_judges, .ref a_delays, .ref a_tolds, .ref a_tens, .int i_keptMany, .int i_place, .ref a_told, .ref a_ways, .ref a_nextWays, .ref a_tallies, .ref a_presses, .ref a_values, .ref a_nextValues])), (a_blowMany, .inl (X.2.1 0, 2, .inl f_blowMany)), (a_blows, .inl (X.2.1 0, 400, .inl f_blows)), (a_delays, .inl (X.2.1 0, 24, .inl f_delays)), (a_judgeMany, .inl (X.2.1 0, 2, .inl f_judgeMany)), (a_judges, .inl (X.2.1 0, 112, .inl f_judges)), (a_presses, .inl (X.2.1 0, 1520, .inl o18.2)), (a_roundMany, .inl (X.2.1 0, 2, .inl f_roundMany))]) hx hb hml hts hown hG hA hP hD rfl hS hl.1 (qX11_buttonsOf l X a_this a_blowMany a_blows a_delays a_judgeMany a_judges a_presses a_text a_roundMany a_forwards a_downs a_takens a_homes a_noises a_tolds a_tens a_told a_ways a_nextWays a_tallies a_values a_nextValues i_length i_keptMany i_place f_blowMany f_blows f_delays f_judgeMany f_judges f_presses l6 x1 x2 x3 o18 ho18) (cwV (y := yX11_buttonsOf) 4 hts gX11_buttons_X11_buttonsOf rfl rfl rfl hdvX11_buttonsOf ⟨Nat.le_of_ble_eq_true rfl, Nat.le_of_ble_eq_true rfl⟩) [0, 1, 2, 3, 4, 5, 6] [7] [1, 2, 3, 4, 5, 6, 7, 0] rfl rfl rfl rfl rfl rfl rfl (ci := 11) rfl 0 rfl rfl rfl (Nat.le_of_ble_eq_true rfl) ⟨Nat.le_of_ble_eq_true rfl, Nat.le_of_ble_eq_true rfl⟩ dX11_buttons_92 (fun H locs hP _ hS => ?_)
        refine lv_iadd hx hb dX11_buttons_95 ?_
        refine lv_topi (fun v20 ev20 => ?_)
        have hf := lb_s hf ev20
        refine lv_istore (lv' := [(5, .int v20), (0, .ref a_this), (2, .int x1), (3, .int x2), (4, .int x3), (6, .int l6)]) hx hb dX11_buttons_96 hl (by decide) rfl (fun ls hl => ?_)
        obtain ⟨v21, ev21, hf⟩ := lb_g hf
        refine lv_iinc (v := v21) (lv' := [(6, .int v21), (5, .int v20), (0, .ref a_this), (2, .int x1), (3, .int x2), (4, .int x3)]) hx hb dX11_buttons_98 hl (k := 5) rfl ev21.symm (by decide) rfl (fun ls hl => ?_)
        refine lv_goto (tgt := 72) hx hb dX11_buttons_101 (by decide) ?_
        exact ih v20 v21 o18.2  H _ ls hP  hS (lv_sub hl [2, 3, 4, 5, 1, 0] rfl) hf
  have hB13 : ∀ (f_presses : Nat → Int32)  (H : Heap) (locs : List Loc) (ls : Array Slot), va_P X.1 vwCl [(a_this, .inr (11, [.int i_length, .ref a_text, .ref a_roundMany, .ref a_blowMany, .ref a_blows, .ref a_forwards, .ref a_downs, .ref a_takens, .ref a_homes, .ref a_noises, .ref a_judgeMany, .ref a_judges, .ref a_delays, .ref a_tolds, .ref a_tens, .int i_keptMany, .int i_place, .ref a_told, .ref a_ways, .ref a_nextWays, .ref a_tallies, .ref a_presses, .ref a_values, .ref a_nextValues])), (a_blowMany, .inl (X.2.1 0, 2, .inl f_blowMany)), (a_blows, .inl (X.2.1 0, 400, .inl f_blows)), (a_delays, .inl (X.2.1 0, 24, .inl f_delays)), (a_judgeMany, .inl (X.2.1 0, 2, .inl f_judgeMany)), (a_judges, .inl (X.2.1 0, 112, .inl f_judges)), (a_presses, .inl (X.2.1 0, 1520, .inl f_presses)), (a_roundMany, .inl (X.2.1 0, 2, .inl f_roundMany))] H → va_S A s.heap H locs → lv_has ls 7 [(0, .ref a_this), (1, .int x0), (2, .int x1), (3, .int x2), (4, .int x3)] → mX11_buttons_B13 x0 x1 x2 x3 f_blowMany f_blows f_delays f_judgeMany f_judges f_roundMany  f_presses = some o → W p l e rmX11_buttons s m ([.ref a_this, .int x0, .int x1, .int x2, .int x3] : List Value).toArray below meth c H locs 0 0 Q (F0 m 13 ls []) := by
    intro f_presses  H locs ls hP hS hl hf
    unfold mX11_buttons_B13 at hf
    refine lv_iload_n hx hb dX11_buttons_13 rfl (lv_at hl 2 rfl) ?_
    refine lv_i2l hx hb dX11_buttons_14 rfl ?_
    refine lv_lconst (v := (1 : Int64)) hx hb dX11_buttons_15 rfl ?_
    refine lv_ldc2 (v := (8 : Int64)) hx hb hown w1 dX11_buttons_16 ?_
    obtain ⟨o5, ho5, hf⟩ := ob_s hf
    refine xS_i (As := [.long (Int32.toInt64 x1), .long (1 : Int64), .long (8 : Int64)]) (rest := []) (ws2 := [(a_this, .inr (11, [.int i_length, .ref a_text, .ref a_roundMany, .ref a_blowMany, .ref a_blows, .ref a_forwards, .ref a_downs, .ref a_takens, .ref a_homes, .ref a_noises, .ref a_judgeMany, .ref a_judges, .ref a_delays, .ref a_tolds, .ref a_tens, .int i_keptMany, .int i_place, .ref a_told, .ref a_ways, .ref a_nextWays, .ref a_tallies, .ref a_presses, .ref a_values, .ref a_nextValues])), (a_blowMany, .inl (X.2.1 0, 2, .inl f_blowMany)), (a_blows, .inl (X.2.1 0, 400, .inl f_blows)), (a_delays, .inl (X.2.1 0, 24, .inl f_delays)), (a_judgeMany, .inl (X.2.1 0, 2, .inl f_judgeMany)), (a_judges, .inl (X.2.1 0, 112, .inl f_judges)), (a_presses, .inl (X.2.1 0, 1520, .inl f_presses)), (a_roundMany, .inl (X.2.1 0, 2, .inl f_roundMany))]) hx hb hml hts hown hG hA hP hD rfl hS hl.1 (qX11_in l X (Int32.toInt64 x1) (1 : Int64) (8 : Int64) o5 ho5) (va_cwS (y := yX11_in) 3 hts gX11_buttons_X11_in rfl rfl rfl hdsX11_in ⟨Nat.le_of_ble_eq_true rfl, Nat.le_of_ble_eq_true rfl⟩) [] [0, 1, 2, 3, 4, 5, 6, 7] [0, 1, 2, 3, 4, 5, 6, 7] rfl rfl rfl rfl rfl rfl rfl rfl rfl (Nat.le_of_ble_eq_true rfl) ⟨Nat.le_of_ble_eq_true rfl, Nat.le_of_ble_eq_true rfl⟩ dX11_buttons_19 (fun H locs hP _ hS => ?_)
    refine lv_if_eq (tgt := 50) hx hb dX11_buttons_22 (by decide) (fun c7 => ?_) (fun c7 => ?_)
    · have hf := xt hf c7
      refine lv_iconst (v := (-1 : Int32)) hx hb dX11_buttons_50 (by decide) ?_
      obtain rfl := Option.some.inj hf
      exact ret H _ ls _ rfl hP hD hS dX11_buttons_51
    · have hf := xf hf c7
      refine lv_iload_n hx hb dX11_buttons_25 rfl (lv_at hl 3 rfl) ?_
      refine lv_i2l hx hb dX11_buttons_26 rfl ?_
      refine lv_lconst (v := (0 : Int64)) hx hb dX11_buttons_27 rfl ?_
      refine lv_ldc2 (v := (9 : Int64)) hx hb hown w2 dX11_buttons_28 ?_
      obtain ⟨o8, ho8, hf⟩ := ob_s hf
      refine xS_i (As := [.long (Int32.toInt64 x2), .long (0 : Int64), .long (9 : Int64)]) (rest := []) (ws2 := [(a_this, .inr (11, [.int i_length, .ref a_text, .ref a_roundMany, .ref a_blowMany, .ref a_blows, .ref a_forwards, .ref a_downs, .ref a_takens, .ref a_homes, .ref a_noises, .ref a_judgeMany, .ref a_judges, .ref a_delays, .ref a_tolds, .ref a_tens, .int i_keptMany, .int i_place, .ref a_told, .ref a_ways, .ref a_nextWays, .ref a_tallies, .ref a_presses, .ref a_values, .ref a_nextValues])), (a_blowMany, .inl (X.2.1 0, 2, .inl f_blowMany)), (a_blows, .inl (X.2.1 0, 400, .inl f_blows)), (a_delays, .inl (X.2.1 0, 24, .inl f_delays)), (a_judgeMany, .inl (X.2.1 0, 2, .inl f_judgeMany)), (a_judges, .inl (X.2.1 0, 112, .inl f_judges)), (a_presses, .inl (X.2.1 0, 1520, .inl f_presses)), (a_roundMany, .inl (X.2.1 0, 2, .inl f_roundMany))]) hx hb hml hts hown hG hA hP hD rfl hS hl.1 (qX11_in l X (Int32.toInt64 x2) (0 : Int64) (9 : Int64) o8 ho8) (va_cwS (y := yX11_in) 3 hts gX11_buttons_X11_in rfl rfl rfl hdsX11_in ⟨Nat.le_of_ble_eq_true rfl, Nat.le_of_ble_eq_true rfl⟩) [] [0, 1, 2, 3, 4, 5, 6, 7] [0, 1, 2, 3, 4, 5, 6, 7] rfl rfl rfl rfl rfl rfl rfl rfl rfl (Nat.le_of_ble_eq_true rfl) ⟨Nat.le_of_ble_eq_true rfl, Nat.le_of_ble_eq_true rfl⟩ dX11_buttons_31 (fun H locs hP _ hS => ?_)
      refine lv_if_eq (tgt := 50) hx hb dX11_buttons_34 (by decide) (fun c10 => ?_) (fun c10 => ?_)
      · have hf := xt hf c10
        refine lv_iconst (v := (-1 : Int32)) hx hb dX11_buttons_50 (by decide) ?_
        obtain rfl := Option.some.inj hf
        exact ret H _ ls _ rfl hP hD hS dX11_buttons_51
      · have hf := xf hf c10
        refine lv_iload hx hb dX11_buttons_37 (lv_at hl 4 rfl) ?_
        refine lv_i2l hx hb dX11_buttons_39 rfl ?_
        refine lv_lconst (v := (0 : Int64)) hx hb dX11_buttons_40 rfl ?_
        refine lv_ldc2 (v := (3 : Int64)) hx hb hown w3 dX11_buttons_41 ?_
        obtain ⟨o11, ho11, hf⟩ := ob_s hf
        refine xS_i (As := [.long (Int32.toInt64 x3), .long (0 : Int64), .long (3 : Int64)]) (rest := []) (ws2 := [(a_this, .inr (11, [.int i_length, .ref a_text, .ref a_roundMany, .ref a_blowMany, .ref a_blows, .ref a_forwards, .ref a_downs, .ref a_takens, .ref a_homes, .ref a_noises, .ref a_judgeMany, .ref a_judges, .ref a_delays, .ref a_tolds, .ref a_tens, .int i_keptMany, .int i_place, .ref a_told, .ref a_ways, .ref a_nextWays, .ref a_tallies, .ref a_presses, .ref a_values, .ref a_nextValues])), (a_blowMany, .inl (X.2.1 0, 2, .inl f_blowMany)), (a_blows, .inl (X.2.1 0, 400, .inl f_blows)), (a_delays, .inl (X.2.1 0, 24, .inl f_delays)), (a_judgeMany, .inl (X.2.1 0, 2, .inl f_judgeMany)), (a_judges, .inl (X.2.1 0, 112, .inl f_judges)), (a_presses, .inl (X.2.1 0, 1520, .inl f_presses)), (a_roundMany, .inl (X.2.1 0, 2, .inl f_roundMany))]) hx hb hml hts hown hG hA hP hD rfl hS hl.1 (qX11_in l X (Int32.toInt64 x3) (0 : Int64) (3 : Int64) o11 ho11) (va_cwS (y := yX11_in) 3 hts gX11_buttons_X11_in rfl rfl rfl hdsX11_in ⟨Nat.le_of_ble_eq_true rfl, Nat.le_of_ble_eq_true rfl⟩) [] [0, 1, 2, 3, 4, 5, 6, 7] [0, 1, 2, 3, 4, 5, 6, 7] rfl rfl rfl rfl rfl rfl rfl rfl rfl (Nat.le_of_ble_eq_true rfl) ⟨Nat.le_of_ble_eq_true rfl, Nat.le_of_ble_eq_true rfl⟩ dX11_buttons_44 (fun H locs hP _ hS => ?_)
        refine lv_if_ne (tgt := 52) hx hb dX11_buttons_47 (by decide) (fun c13 => ?_) (fun c13 => ?_)
        · have hf := xf hf c13
          refine lv_iload_n hx hb dX11_buttons_52 rfl (lv_at hl 1 rfl) ?_
          refine lv_if_lt (tgt := 66) hx hb dX11_buttons_53 (by decide) (fun c14 => ?_) (fun c14 => ?_)
          · have hf := xt hf c14
            refine lv_iconst (v := (0 : Int32)) hx hb dX11_buttons_66 (by decide) ?_
            refine lv_istore (lv' := [(5, .int (0 : Int32)), (0, .ref a_this), (1, .int x0), (2, .int x1), (3, .int x2), (4, .int x3)]) hx hb dX11_buttons_67 hl (by decide) rfl (fun ls hl => ?_)
            refine lv_iconst (v := (0 : Int32)) hx hb dX11_buttons_69 (by decide) ?_
            refine lv_istore (lv' := [(6, .int (0 : Int32)), (5, .int (0 : Int32)), (0, .ref a_this), (1, .int x0), (2, .int x1), (3, .int x2), (4, .int x3)]) hx hb dX11_buttons_70 hl (by decide) rfl (fun ls hl => ?_)
            exact hL72  FUEL (0 : Int32) (0 : Int32) f_presses  H _ ls hP  hS (lv_sub hl [2, 4, 5, 6, 1, 0] rfl) hf
          · have hf := xf hf c14
            refine lv_aload_n hx hb dX11_buttons_56 rfl (lv_at hl 0 rfl) ?_
            refine lv_iload_n hx hb dX11_buttons_57 rfl (lv_at hl 1 rfl) ?_
            refine lv_iload_n hx hb dX11_buttons_58 rfl (lv_at hl 2 rfl) ?_
            refine lv_iload_n hx hb dX11_buttons_59 rfl (lv_at hl 3 rfl) ?_
            refine lv_iload hx hb dX11_buttons_60 (lv_at hl 4 rfl) ?_
            obtain ⟨o15, ho15, hf⟩ := ob_s hf
            refine xV_i (As := [.int x0, .int x1, .int x2, .int x3]) (b := a_this) (rest := []) (ws2 := [(a_this, .inr (11, [.int i_length, .ref a_text, .ref a_roundMany, .ref a_blowMany, .ref a_blows, .ref a_forwards, .ref a_downs, .ref a_takens, .ref a_homes, .ref a_noises, .ref a_judgeMany, .ref a_judges, .ref a_delays, .ref a_tolds, .ref a_tens, .int i_keptMany, .int i_place, .ref a_told, .ref a_ways, .ref a_nextWays, .ref a_tallies, .ref a_presses, .ref a_values, .ref a_nextValues])), (a_blowMany, .inl (X.2.1 0, 2, .inl f_blowMany)), (a_blows, .inl (X.2.1 0, 400, .inl f_blows)), (a_delays, .inl (X.2.1 0, 24, .inl f_delays)), (a_judgeMany, .inl (X.2.1 0, 2, .inl f_judgeMany)), (a_judges, .inl (X.2.1 0, 112, .inl f_judges)), (a_presses, .inl (X.2.1 0, 1520, .inl o15.2)), (a_roundMany, .inl (X.2.1 0, 2, .inl f_roundMany))]) hx hb hml hts hown hG hA hP hD rfl hS hl.1 (qX11_buttonsOf l X a_this a_blowMany a_blows a_delays a_judgeMany a_judges a_presses a_text a_roundMany a_forwards a_downs a_takens a_homes a_noises a_tolds a_tens a_told a_ways a_nextWays a_tallies a_values a_nextValues i_length i_keptMany i_place f_blowMany f_blows f_delays f_judgeMany f_judges f_presses x0 x1 x2 x3 o15 ho15) (cwV (y := yX11_buttonsOf) 4 hts gX11_buttons_X11_buttonsOf rfl rfl rfl hdvX11_buttonsOf ⟨Nat.le_of_ble_eq_true rfl, Nat.le_of_ble_eq_true rfl⟩) [0, 1, 2, 3, 4, 5, 6] [7] [1, 2, 3, 4, 5, 6, 7, 0] rfl rfl rfl rfl rfl rfl rfl (ci := 11) rfl 0 rfl rfl rfl (Nat.le_of_ble_eq_true rfl) ⟨Nat.le_of_ble_eq_true rfl, Nat.le_of_ble_eq_true rfl⟩ dX11_buttons_62 (fun H locs hP _ hS => ?_)
            obtain rfl := Option.some.inj hf
            exact ret H _ ls _ rfl hP hD hS dX11_buttons_65
        · have hf := xt hf c13
          refine lv_iconst (v := (-1 : Int32)) hx hb dX11_buttons_50 (by decide) ?_
          obtain rfl := Option.some.inj hf
          exact ret H _ ls _ rfl hP hD hS dX11_buttons_51
  unfold mX11_buttons at hf
  refine lv_iload_n hx hb dX11_buttons_0 rfl (lv_at hl 1 rfl) ?_
  refine lv_iconst (v := (-1 : Int32)) hx hb dX11_buttons_1 (by decide) ?_
  refine lv_icmp_eq (tgt := 13) hx hb dX11_buttons_2 (by decide) (fun c1 => ?_) (fun c1 => ?_)
  · have hf := xt hf c1
    exact hB13  f_presses  H _ ls hP  hS (lv_sub hl [0, 1, 2, 3, 4] rfl) hf
  · have hf := xf hf c1
    refine lv_aload_n hx hb dX11_buttons_5 rfl (lv_at hl 0 rfl) ?_
    refine lv_iload_n hx hb dX11_buttons_6 rfl (lv_at hl 1 rfl) ?_
    obtain ⟨o2, ho2, hf⟩ := ob_s hf
    refine xV_i (As := [.int x0]) (b := a_this) (rest := []) (ws2 := [(a_this, .inr (11, [.int i_length, .ref a_text, .ref a_roundMany, .ref a_blowMany, .ref a_blows, .ref a_forwards, .ref a_downs, .ref a_takens, .ref a_homes, .ref a_noises, .ref a_judgeMany, .ref a_judges, .ref a_delays, .ref a_tolds, .ref a_tens, .int i_keptMany, .int i_place, .ref a_told, .ref a_ways, .ref a_nextWays, .ref a_tallies, .ref a_presses, .ref a_values, .ref a_nextValues])), (a_blowMany, .inl (X.2.1 0, 2, .inl f_blowMany)), (a_blows, .inl (X.2.1 0, 400, .inl f_blows)), (a_delays, .inl (X.2.1 0, 24, .inl f_delays)), (a_judgeMany, .inl (X.2.1 0, 2, .inl f_judgeMany)), (a_judges, .inl (X.2.1 0, 112, .inl f_judges)), (a_presses, .inl (X.2.1 0, 1520, .inl f_presses)), (a_roundMany, .inl (X.2.1 0, 2, .inl f_roundMany))]) hx hb hml hts hown hG hA hP hD rfl hS hl.1 (qX11_isRound l X a_this a_roundMany a_text a_blowMany a_blows a_forwards a_downs a_takens a_homes a_noises a_judgeMany a_judges a_delays a_tolds a_tens a_told a_ways a_nextWays a_tallies a_presses a_values a_nextValues i_length i_keptMany i_place f_roundMany x0 o2 ho2) (cwV (y := yX11_isRound) 1 hts gX11_buttons_X11_isRound rfl rfl rfl hdvX11_isRound ⟨Nat.le_of_ble_eq_true rfl, Nat.le_of_ble_eq_true rfl⟩) [0, 7] [1, 2, 3, 4, 5, 6] [6, 0, 1, 2, 3, 4, 5, 7] rfl rfl rfl rfl rfl rfl rfl (ci := 11) rfl 0 rfl rfl rfl (Nat.le_of_ble_eq_true rfl) ⟨Nat.le_of_ble_eq_true rfl, Nat.le_of_ble_eq_true rfl⟩ dX11_buttons_7 (fun H locs hP _ hS => ?_)
    refine lv_if_eq (tgt := 50) hx hb dX11_buttons_10 (by decide) (fun c4 => ?_) (fun c4 => ?_)
    · have hf := xt hf c4
      refine lv_iconst (v := (-1 : Int32)) hx hb dX11_buttons_50 (by decide) ?_
      obtain rfl := Option.some.inj hf
      exact ret H _ ls _ rfl hP hD hS dX11_buttons_51
    · have hf := xf hf c4
      exact hB13  f_presses  H _ ls hP  hS (lv_sub hl [0, 1, 2, 3, 4] rfl) hf
def mX11_isName (x0 : Int32) :
  Option (Int32) :=
  (mX11_in (Int32.toInt64 x0) (0 : Int64) (5 : Int64)).bind fun o1 =>
  gz o1 <|
  some o1
theorem hdsX11_isName : yX11_isName.cls ≠ "java/lang/invoke/MethodHandle" ∧ yX11_isName.cls ≠ "java/lang/invoke/VarHandle" ∧ (parseMethodDescriptor yX11_isName.desc).map (fun d => d.parameters.length) = some 1 := by decide +kernel
abbrev rmX11_isName : Room := { frames := 1, cells := 0, slots := 0, locals := 25 }
set_option maxHeartbeats 4000000 in
set_option maxRecDepth 100000 in
theorem qX11_isName (l : Launch) (X : XT)    (x0 : Int32) (o : Int32) (hf : mX11_isName x0 = some o) :
    MI l yX11_isName wsX11_isName rmX11_isName X [.int x0] []  [] o := by
  refine MI_ofH (cc := cX11_isName) (maxL := 1) (rt := .boolean) (by decide) rfl (Nat.le_of_ble_eq_true rfl) ?_
  intro p e s m below meth c A Q H ls hx hb hml hts hown hA hD hG hP hS hl ret
  have hown : s.vm.findClass RX11 = some m.cls := hown
  have hD : aD A [] := hD
  have hl : lv_has ls 1 [(0, .int x0)] := hl
  have w1 := hts (.constantLong RX11 136 (5)) (List.mem_of_getElem? (i := 1) rfl)
  unfold mX11_isName at hf
  refine lv_iload_n hx hb dX11_isName_0 rfl (lv_at hl 0 rfl) ?_
  refine lv_i2l hx hb dX11_isName_1 rfl ?_
  refine lv_lconst (v := (0 : Int64)) hx hb dX11_isName_2 rfl ?_
  refine lv_ldc2 (v := (5 : Int64)) hx hb hown w1 dX11_isName_3 ?_
  obtain ⟨o1, ho1, hf⟩ := ob_s hf
  refine xS_i (As := [.long (Int32.toInt64 x0), .long (0 : Int64), .long (5 : Int64)]) (rest := []) (ws2 := []) hx hb hml hts hown hG hA hP hD rfl hS hl.1 (qX11_in l X (Int32.toInt64 x0) (0 : Int64) (5 : Int64) o1 ho1) (va_cwS (y := yX11_in) 3 hts gX11_isName_X11_in rfl rfl rfl hdsX11_in ⟨Nat.le_of_ble_eq_true rfl, Nat.le_of_ble_eq_true rfl⟩) [] [] [] rfl rfl rfl rfl rfl rfl rfl rfl rfl (Nat.le_of_ble_eq_true rfl) ⟨Nat.le_of_ble_eq_true rfl, Nat.le_of_ble_eq_true rfl⟩ dX11_isName_6 (fun H locs hP _ hS => ?_)
  obtain ⟨h3, hf⟩ := gz_s hf
  obtain rfl := Option.some.inj hf
  exact ret H _ ls _ h3 hP hD hS dX11_isName_9
def mX11_toldOf (x0 : Int32) (x1 : Int32) (f_tolds : Nat → Int32) :
  Option (Int32) :=
  gi (((24 : Int32) * x0) + x1) 432 <|
  lb (f_tolds (((24 : Int32) * x0) + x1).toNatClampNeg) fun v2 =>
  some v2
theorem hdsX11_toldOf : yX11_toldOf.cls ≠ "java/lang/invoke/MethodHandle" ∧ yX11_toldOf.cls ≠ "java/lang/invoke/VarHandle" ∧ (parseMethodDescriptor yX11_toldOf.desc).map (fun d => d.parameters.length) = some 2 := by decide +kernel
theorem hdvX11_toldOf : yX11_toldOf.cls = RX11 ∧ yX11_toldOf.cls ≠ "java/lang/invoke/MethodHandle" ∧ yX11_toldOf.cls ≠ "java/lang/invoke/VarHandle" ∧ (parseMethodDescriptor yX11_toldOf.desc).map (fun d => d.parameters.length) = some 2 := by decide +kernel
abbrev rmX11_toldOf : Room := { frames := 0, cells := 0, slots := 0, locals := 0 }
set_option maxHeartbeats 4000000 in
set_option maxRecDepth 100000 in
theorem qX11_toldOf (l : Launch) (X : XT) (a_this : Nat) (a_tolds : Nat) (a_text : Nat) (a_roundMany : Nat) (a_blowMany : Nat) (a_blows : Nat) (a_forwards : Nat) (a_downs : Nat) (a_takens : Nat) (a_homes : Nat) (a_noises : Nat) (a_judgeMany : Nat) (a_judges : Nat) (a_delays : Nat) (a_tens : Nat) (a_told : Nat) (a_ways : Nat) (a_nextWays : Nat) (a_tallies : Nat) (a_presses : Nat) (a_values : Nat) (a_nextValues : Nat)  (i_length : Int32) (i_keptMany : Int32) (i_place : Int32) (f_tolds : Nat → Int32) (x0 : Int32) (x1 : Int32) (o : Int32) (hf : mX11_toldOf x0 x1 f_tolds = some o) :
    MI l yX11_toldOf wsX11_toldOf rmX11_toldOf X [.ref a_this, .int x0, .int x1] [(a_this, .inr (11, [.int i_length, .ref a_text, .ref a_roundMany, .ref a_blowMany, .ref a_blows, .ref a_forwards, .ref a_downs, .ref a_takens, .ref a_homes, .ref a_noises, .ref a_judgeMany, .ref a_judges, .ref a_delays, .ref a_tolds, .ref a_tens, .int i_keptMany, .int i_place, .ref a_told, .ref a_ways, .ref a_nextWays, .ref a_tallies, .ref a_presses, .ref a_values, .ref a_nextValues])), (a_tolds, .inl (X.2.1 0, 432, .inl f_tolds))]  [(a_this, .inr (11, [.int i_length, .ref a_text, .ref a_roundMany, .ref a_blowMany, .ref a_blows, .ref a_forwards, .ref a_downs, .ref a_takens, .ref a_homes, .ref a_noises, .ref a_judgeMany, .ref a_judges, .ref a_delays, .ref a_tolds, .ref a_tens, .int i_keptMany, .int i_place, .ref a_told, .ref a_ways, .ref a_nextWays, .ref a_tallies, .ref a_presses, .ref a_values, .ref a_nextValues])), (a_tolds, .inl (X.2.1 0, 432, .inl f_tolds))] o := by
  refine MI_ofH (cc := cX11_toldOf) (maxL := 3) (rt := .int) (by decide) rfl (Nat.le_of_ble_eq_true rfl) ?_
  intro p e s m below meth c A Q H ls hx hb hml hts hown hA hD hG hP hS hl ret
  have hown : s.vm.findClass RX11 = some m.cls := hown
  have hD : aD A [a_this, a_tolds] := hD
  have hl : lv_has ls 3 [(0, .ref a_this), (1, .int x0), (2, .int x1)] := hl
  have w1 := hts (.fieldLink RX11 46 "ThreeCardsModel" "tolds" "[I") (List.mem_of_getElem? (i := 1) rfl)
  have in11 : ∀ w ∈ u_ws RX11 TX11 24, w ∈ wsX11_toldOf := by decide +kernel
  unfold mX11_toldOf at hf
  refine lv_aload_n hx hb dX11_toldOf_0 rfl (lv_at hl 0 rfl) ?_
  refine va_get (D := X.1) (ci := 11) (v := .ref a_tolds) (C := RX11) (T := TX11) (N := 24) hx hb hts in11 hown hG.1 hP 0 rfl rfl 13 (by decide) w1 (fun _ h9 => h9) rfl dX11_toldOf_1 ?_
  refine lv_bipush (v := (24 : Int32)) hx hb dX11_toldOf_4 (by decide) ?_
  refine lv_iload_n hx hb dX11_toldOf_6 rfl (lv_at hl 1 rfl) ?_
  refine lv_imul hx hb dX11_toldOf_7 ?_
  refine lv_iload_n hx hb dX11_toldOf_8 rfl (lv_at hl 2 rfl) ?_
  refine lv_iadd hx hb dX11_toldOf_9 ?_
  obtain ⟨h1, hf⟩ := gi_s hf
  refine va_iald (D := X.1) hx hb hG.1 hP 1 0 rfl rfl h1 dX11_toldOf_10 ?_
  refine lv_topi (fun v2 ev2 => ?_)
  have hf := lb_s hf ev2
  obtain rfl := Option.some.inj hf
  exact ret H _ ls _ rfl hP hD hS dX11_toldOf_11
def mX11_tell (x0 : Int32) (x1 : Int32) (x2 : Int32) (f_tolds : Nat → Int32) :
  Option (Int32 × (Nat → Int32)) :=
  (mX11_isName x0).bind fun o1 =>
  if o1 = 0 then (some ((-22 : Int32), f_tolds)) else ((mX11_in (Int32.toInt64 x1) (0 : Int64) (23 : Int64)).bind fun o4 =>
  if o4 = 0 then (some ((-22 : Int32), f_tolds)) else ((mX11_in (Int32.toInt64 x2) (-21 : Int64) (20 : Int64)).bind fun o7 =>
  if o7 = 0 then (some ((-22 : Int32), f_tolds)) else ((mX11_toldOf x0 x1 f_tolds).bind fun o10 =>
  gi (((24 : Int32) * x0) + x1) 432 <|
  lb (upd f_tolds (((24 : Int32) * x0) + x1).toNatClampNeg x2) fun g13 =>
  some (o10, g13))))
theorem hdsX11_tell : yX11_tell.cls ≠ "java/lang/invoke/MethodHandle" ∧ yX11_tell.cls ≠ "java/lang/invoke/VarHandle" ∧ (parseMethodDescriptor yX11_tell.desc).map (fun d => d.parameters.length) = some 3 := by decide +kernel
theorem hdvX11_tell : yX11_tell.cls = RX11 ∧ yX11_tell.cls ≠ "java/lang/invoke/MethodHandle" ∧ yX11_tell.cls ≠ "java/lang/invoke/VarHandle" ∧ (parseMethodDescriptor yX11_tell.desc).map (fun d => d.parameters.length) = some 3 := by decide +kernel
abbrev rmX11_tell : Room := { frames := 2, cells := 0, slots := 0, locals := 45 }
set_option maxHeartbeats 4000000 in
set_option maxRecDepth 100000 in
theorem qX11_tell (l : Launch) (X : XT) (a_this : Nat) (a_tolds : Nat) (a_text : Nat) (a_roundMany : Nat) (a_blowMany : Nat) (a_blows : Nat) (a_forwards : Nat) (a_downs : Nat) (a_takens : Nat) (a_homes : Nat) (a_noises : Nat) (a_judgeMany : Nat) (a_judges : Nat) (a_delays : Nat) (a_tens : Nat) (a_told : Nat) (a_ways : Nat) (a_nextWays : Nat) (a_tallies : Nat) (a_presses : Nat) (a_values : Nat) (a_nextValues : Nat)  (i_length : Int32) (i_keptMany : Int32) (i_place : Int32) (f_tolds : Nat → Int32) (x0 : Int32) (x1 : Int32) (x2 : Int32) (o : Int32 × (Nat → Int32)) (hf : mX11_tell x0 x1 x2 f_tolds = some o) :
    MI l yX11_tell wsX11_tell rmX11_tell X [.ref a_this, .int x0, .int x1, .int x2] [(a_this, .inr (11, [.int i_length, .ref a_text, .ref a_roundMany, .ref a_blowMany, .ref a_blows, .ref a_forwards, .ref a_downs, .ref a_takens, .ref a_homes, .ref a_noises, .ref a_judgeMany, .ref a_judges, .ref a_delays, .ref a_tolds, .ref a_tens, .int i_keptMany, .int i_place, .ref a_told, .ref a_ways, .ref a_nextWays, .ref a_tallies, .ref a_presses, .ref a_values, .ref a_nextValues])), (a_tolds, .inl (X.2.1 0, 432, .inl f_tolds))]  [(a_this, .inr (11, [.int i_length, .ref a_text, .ref a_roundMany, .ref a_blowMany, .ref a_blows, .ref a_forwards, .ref a_downs, .ref a_takens, .ref a_homes, .ref a_noises, .ref a_judgeMany, .ref a_judges, .ref a_delays, .ref a_tolds, .ref a_tens, .int i_keptMany, .int i_place, .ref a_told, .ref a_ways, .ref a_nextWays, .ref a_tallies, .ref a_presses, .ref a_values, .ref a_nextValues])), (a_tolds, .inl (X.2.1 0, 432, .inl o.2))] o.1 := by
  refine MI_ofH (cc := cX11_tell) (maxL := 5) (rt := .int) (by decide) rfl (Nat.le_of_ble_eq_true rfl) ?_
  intro p e s m below meth c A Q H ls hx hb hml hts hown hA hD hG hP hS hl ret
  have hown : s.vm.findClass RX11 = some m.cls := hown
  have hD : aD A [a_this, a_tolds] := hD
  have hl : lv_has ls 5 [(0, .ref a_this), (1, .int x0), (2, .int x1), (3, .int x2)] := hl
  have w1 := hts (.constantLong RX11 243 (23)) (List.mem_of_getElem? (i := 1) rfl)
  have w2 := hts (.constantLong RX11 245 (-21)) (List.mem_of_getElem? (i := 2) rfl)
  have w3 := hts (.constantLong RX11 247 (20)) (List.mem_of_getElem? (i := 3) rfl)
  have w4 := hts (.fieldLink RX11 46 "ThreeCardsModel" "tolds" "[I") (List.mem_of_getElem? (i := 4) rfl)
  have in11 : ∀ w ∈ u_ws RX11 TX11 24, w ∈ wsX11_tell := by decide +kernel
  unfold mX11_tell at hf
  refine lv_iload_n hx hb dX11_tell_0 rfl (lv_at hl 1 rfl) ?_
  obtain ⟨o1, ho1, hf⟩ := ob_s hf
  refine xS_i (As := [.int x0]) (rest := []) (ws2 := [(a_this, .inr (11, [.int i_length, .ref a_text, .ref a_roundMany, .ref a_blowMany, .ref a_blows, .ref a_forwards, .ref a_downs, .ref a_takens, .ref a_homes, .ref a_noises, .ref a_judgeMany, .ref a_judges, .ref a_delays, .ref a_tolds, .ref a_tens, .int i_keptMany, .int i_place, .ref a_told, .ref a_ways, .ref a_nextWays, .ref a_tallies, .ref a_presses, .ref a_values, .ref a_nextValues])), (a_tolds, .inl (X.2.1 0, 432, .inl f_tolds))]) hx hb hml hts hown hG hA hP hD rfl hS hl.1 (qX11_isName l X x0 o1 ho1) (va_cwS (y := yX11_isName) 1 hts gX11_tell_X11_isName rfl rfl rfl hdsX11_isName ⟨Nat.le_of_ble_eq_true rfl, Nat.le_of_ble_eq_true rfl⟩) [] [0, 1] [0, 1] rfl rfl rfl rfl rfl rfl rfl rfl rfl (Nat.le_of_ble_eq_true rfl) ⟨Nat.le_of_ble_eq_true rfl, Nat.le_of_ble_eq_true rfl⟩ dX11_tell_1 (fun H locs hP _ hS => ?_)
  refine lv_if_eq (tgt := 33) hx hb dX11_tell_4 (by decide) (fun c3 => ?_) (fun c3 => ?_)
  · have hf := xt hf c3
    refine lv_bipush (v := (-22 : Int32)) hx hb dX11_tell_33 (by decide) ?_
    obtain rfl := Option.some.inj hf
    exact ret H _ ls _ rfl hP hD hS dX11_tell_35
  · have hf := xf hf c3
    refine lv_iload_n hx hb dX11_tell_7 rfl (lv_at hl 2 rfl) ?_
    refine lv_i2l hx hb dX11_tell_8 rfl ?_
    refine lv_lconst (v := (0 : Int64)) hx hb dX11_tell_9 rfl ?_
    refine lv_ldc2 (v := (23 : Int64)) hx hb hown w1 dX11_tell_10 ?_
    obtain ⟨o4, ho4, hf⟩ := ob_s hf
    refine xS_i (As := [.long (Int32.toInt64 x1), .long (0 : Int64), .long (23 : Int64)]) (rest := []) (ws2 := [(a_this, .inr (11, [.int i_length, .ref a_text, .ref a_roundMany, .ref a_blowMany, .ref a_blows, .ref a_forwards, .ref a_downs, .ref a_takens, .ref a_homes, .ref a_noises, .ref a_judgeMany, .ref a_judges, .ref a_delays, .ref a_tolds, .ref a_tens, .int i_keptMany, .int i_place, .ref a_told, .ref a_ways, .ref a_nextWays, .ref a_tallies, .ref a_presses, .ref a_values, .ref a_nextValues])), (a_tolds, .inl (X.2.1 0, 432, .inl f_tolds))]) hx hb hml hts hown hG hA hP hD rfl hS hl.1 (qX11_in l X (Int32.toInt64 x1) (0 : Int64) (23 : Int64) o4 ho4) (va_cwS (y := yX11_in) 3 hts gX11_tell_X11_in rfl rfl rfl hdsX11_in ⟨Nat.le_of_ble_eq_true rfl, Nat.le_of_ble_eq_true rfl⟩) [] [0, 1] [0, 1] rfl rfl rfl rfl rfl rfl rfl rfl rfl (Nat.le_of_ble_eq_true rfl) ⟨Nat.le_of_ble_eq_true rfl, Nat.le_of_ble_eq_true rfl⟩ dX11_tell_13 (fun H locs hP _ hS => ?_)
    refine lv_if_eq (tgt := 33) hx hb dX11_tell_16 (by decide) (fun c6 => ?_) (fun c6 => ?_)
    · have hf := xt hf c6
      refine lv_bipush (v := (-22 : Int32)) hx hb dX11_tell_33 (by decide) ?_
      obtain rfl := Option.some.inj hf
      exact ret H _ ls _ rfl hP hD hS dX11_tell_35
    · have hf := xf hf c6
      refine lv_iload_n hx hb dX11_tell_19 rfl (lv_at hl 3 rfl) ?_
      refine lv_i2l hx hb dX11_tell_20 rfl ?_
      refine lv_ldc2 (v := (-21 : Int64)) hx hb hown w2 dX11_tell_21 ?_
      refine lv_ldc2 (v := (20 : Int64)) hx hb hown w3 dX11_tell_24 ?_
      obtain ⟨o7, ho7, hf⟩ := ob_s hf
      refine xS_i (As := [.long (Int32.toInt64 x2), .long (-21 : Int64), .long (20 : Int64)]) (rest := []) (ws2 := [(a_this, .inr (11, [.int i_length, .ref a_text, .ref a_roundMany, .ref a_blowMany, .ref a_blows, .ref a_forwards, .ref a_downs, .ref a_takens, .ref a_homes, .ref a_noises, .ref a_judgeMany, .ref a_judges, .ref a_delays, .ref a_tolds, .ref a_tens, .int i_keptMany, .int i_place, .ref a_told, .ref a_ways, .ref a_nextWays, .ref a_tallies, .ref a_presses, .ref a_values, .ref a_nextValues])), (a_tolds, .inl (X.2.1 0, 432, .inl f_tolds))]) hx hb hml hts hown hG hA hP hD rfl hS hl.1 (qX11_in l X (Int32.toInt64 x2) (-21 : Int64) (20 : Int64) o7 ho7) (va_cwS (y := yX11_in) 3 hts gX11_tell_X11_in rfl rfl rfl hdsX11_in ⟨Nat.le_of_ble_eq_true rfl, Nat.le_of_ble_eq_true rfl⟩) [] [0, 1] [0, 1] rfl rfl rfl rfl rfl rfl rfl rfl rfl (Nat.le_of_ble_eq_true rfl) ⟨Nat.le_of_ble_eq_true rfl, Nat.le_of_ble_eq_true rfl⟩ dX11_tell_27 (fun H locs hP _ hS => ?_)
      refine lv_if_ne (tgt := 36) hx hb dX11_tell_30 (by decide) (fun c9 => ?_) (fun c9 => ?_)
      · have hf := xf hf c9
        refine lv_aload_n hx hb dX11_tell_36 rfl (lv_at hl 0 rfl) ?_
        refine lv_iload_n hx hb dX11_tell_37 rfl (lv_at hl 1 rfl) ?_
        refine lv_iload_n hx hb dX11_tell_38 rfl (lv_at hl 2 rfl) ?_
        obtain ⟨o10, ho10, hf⟩ := ob_s hf
        refine xV_i (As := [.int x0, .int x1]) (b := a_this) (rest := []) (ws2 := [(a_this, .inr (11, [.int i_length, .ref a_text, .ref a_roundMany, .ref a_blowMany, .ref a_blows, .ref a_forwards, .ref a_downs, .ref a_takens, .ref a_homes, .ref a_noises, .ref a_judgeMany, .ref a_judges, .ref a_delays, .ref a_tolds, .ref a_tens, .int i_keptMany, .int i_place, .ref a_told, .ref a_ways, .ref a_nextWays, .ref a_tallies, .ref a_presses, .ref a_values, .ref a_nextValues])), (a_tolds, .inl (X.2.1 0, 432, .inl f_tolds))]) hx hb hml hts hown hG hA hP hD rfl hS hl.1 (qX11_toldOf l X a_this a_tolds a_text a_roundMany a_blowMany a_blows a_forwards a_downs a_takens a_homes a_noises a_judgeMany a_judges a_delays a_tens a_told a_ways a_nextWays a_tallies a_presses a_values a_nextValues i_length i_keptMany i_place f_tolds x0 x1 o10 ho10) (cwV (y := yX11_toldOf) 2 hts gX11_tell_X11_toldOf rfl rfl rfl hdvX11_toldOf ⟨Nat.le_of_ble_eq_true rfl, Nat.le_of_ble_eq_true rfl⟩) [0, 1] [] [0, 1] rfl rfl rfl rfl rfl rfl rfl (ci := 11) rfl 0 rfl rfl rfl (Nat.le_of_ble_eq_true rfl) ⟨Nat.le_of_ble_eq_true rfl, Nat.le_of_ble_eq_true rfl⟩ dX11_tell_39 (fun H locs hP _ hS => ?_)
        refine lv_istore (lv' := [(4, .int o10), (0, .ref a_this), (1, .int x0), (2, .int x1), (3, .int x2)]) hx hb dX11_tell_42 hl (by decide) rfl (fun ls hl => ?_)
        refine lv_aload_n hx hb dX11_tell_44 rfl (lv_at hl 1 rfl) ?_
        refine va_get (D := X.1) (ci := 11) (v := .ref a_tolds) (C := RX11) (T := TX11) (N := 24) hx hb hts in11 hown hG.1 hP 0 rfl rfl 13 (by decide) w4 (fun _ h9 => h9) rfl dX11_tell_45 ?_
        refine lv_bipush (v := (24 : Int32)) hx hb dX11_tell_48 (by decide) ?_
        refine lv_iload_n hx hb dX11_tell_50 rfl (lv_at hl 2 rfl) ?_
        refine lv_imul hx hb dX11_tell_51 ?_
        refine lv_iload_n hx hb dX11_tell_52 rfl (lv_at hl 3 rfl) ?_
        refine lv_iadd hx hb dX11_tell_53 ?_
        refine lv_iload_n hx hb dX11_tell_54 rfl (lv_at hl 4 rfl) ?_
        obtain ⟨h12, hf⟩ := gi_s hf
        obtain ⟨g13, eg13, hf⟩ := lb_g hf
        refine x_iast (ws' := [(a_this, .inr (11, [.int i_length, .ref a_text, .ref a_roundMany, .ref a_blowMany, .ref a_blows, .ref a_forwards, .ref a_downs, .ref a_takens, .ref a_homes, .ref a_noises, .ref a_judgeMany, .ref a_judges, .ref a_delays, .ref a_tolds, .ref a_tens, .int i_keptMany, .int i_place, .ref a_told, .ref a_ways, .ref a_nextWays, .ref a_tallies, .ref a_presses, .ref a_values, .ref a_nextValues])), (a_tolds, .inl (X.2.1 0, 432, .inl g13))]) hx hb hG hP hD rfl hS 1 rfl h12 dX11_tell_55 eg13 rfl (fun H locs hP hS => ?_)
        refine lv_iload hx hb dX11_tell_56 (lv_at hl 0 rfl) ?_
        obtain rfl := Option.some.inj hf
        exact ret H _ ls _ rfl hP hD hS dX11_tell_58
      · have hf := xt hf c9
        refine lv_bipush (v := (-22 : Int32)) hx hb dX11_tell_33 (by decide) ?_
        obtain rfl := Option.some.inj hf
        exact ret H _ ls _ rfl hP hD hS dX11_tell_35
def mX11_signsOf_B42 (x0 : Int32) (x1 : Int32) (x2 : Int32) (f_tolds : Nat → Int32) (k6 : Int32 → Int32 → Option (Int32)) (l4 : Int32) (l5 : Int32) (s0 : Int32) :
  Option (Int32) :=
  if s0 = 0 then (lb (l4 + (0 : Int32)) fun v9 =>
  lb (l5 + (1 : Int32)) fun v10 =>
  k6 v9 v10) else ((mX11_toldOf x0 l5 f_tolds).bind fun o11 =>
  (mX11_sign o11).bind fun o13 =>
  if o13 = x2 then (lb (l4 + (1 : Int32)) fun v18 =>
  lb (l5 + (1 : Int32)) fun v19 =>
  k6 v18 v19) else (lb (l4 + (0 : Int32)) fun v16 =>
  lb (l5 + (1 : Int32)) fun v17 =>
  k6 v16 v17))
def mX11_signsOf_B41 (x0 : Int32) (x1 : Int32) (x2 : Int32) (f_tolds : Nat → Int32) (k6 : Int32 → Int32 → Option (Int32)) (l4 : Int32) (l5 : Int32) :
  Option (Int32) :=
  mX11_signsOf_B42 x0 x1 x2 f_tolds k6 l4 l5 (0 : Int32)
def mX11_signsOf_B6 (x0 : Int32) (x1 : Int32) (x2 : Int32) (f_tolds : Nat → Int32) (k6 : Int32 → Int32 → Option (Int32)) (l4 : Int32) (l5 : Int32) :
  Option (Int32) :=
  if (24 : Int32) ≤ l5 then (some l4) else ((mX11_toldOf x0 l5 f_tolds).bind fun o2 =>
  if o2 ≤ (-21 : Int32) then (mX11_signsOf_B41 x0 x1 x2 f_tolds k6 l4 l5) else ((mX11_toldOf x1 l5 f_tolds).bind fun o5 =>
  if o5 ≤ (-21 : Int32) then (mX11_signsOf_B41 x0 x1 x2 f_tolds k6 l4 l5) else (mX11_signsOf_B42 x0 x1 x2 f_tolds k6 l4 l5 (1 : Int32))))
def mX11_signsOf_L6 (x0 : Int32) (x1 : Int32) (x2 : Int32) (f_tolds : Nat → Int32) (n : Nat) (l4 : Int32) (l5 : Int32) :
  Option (Int32) :=
  loopN (fun k (s : Int32 × Int32) => mX11_signsOf_B6 x0 x1 x2 f_tolds  (fun l4 l5 => k (l4, l5)) s.1 s.2) n (l4, l5)
def mX11_signsOf (x0 : Int32) (x1 : Int32) (x2 : Int32) (f_tolds : Nat → Int32) :
  Option (Int32) :=
  mX11_signsOf_L6 x0 x1 x2 f_tolds  FUEL (0 : Int32) (0 : Int32)
theorem hdsX11_signsOf : yX11_signsOf.cls ≠ "java/lang/invoke/MethodHandle" ∧ yX11_signsOf.cls ≠ "java/lang/invoke/VarHandle" ∧ (parseMethodDescriptor yX11_signsOf.desc).map (fun d => d.parameters.length) = some 3 := by decide +kernel
theorem hdvX11_signsOf : yX11_signsOf.cls = RX11 ∧ yX11_signsOf.cls ≠ "java/lang/invoke/MethodHandle" ∧ yX11_signsOf.cls ≠ "java/lang/invoke/VarHandle" ∧ (parseMethodDescriptor yX11_signsOf.desc).map (fun d => d.parameters.length) = some 3 := by decide +kernel
abbrev rmX11_signsOf : Room := { frames := 1, cells := 0, slots := 0, locals := 22 }
set_option maxHeartbeats 4000000 in
set_option maxRecDepth 100000 in
theorem qX11_signsOf (l : Launch) (X : XT) (a_this : Nat) (a_tolds : Nat) (a_text : Nat) (a_roundMany : Nat) (a_blowMany : Nat) (a_blows : Nat) (a_forwards : Nat) (a_downs : Nat) (a_takens : Nat) (a_homes : Nat) (a_noises : Nat) (a_judgeMany : Nat) (a_judges : Nat) (a_delays : Nat) (a_tens : Nat) (a_told : Nat) (a_ways : Nat) (a_nextWays : Nat) (a_tallies : Nat) (a_presses : Nat) (a_values : Nat) (a_nextValues : Nat)  (i_length : Int32) (i_keptMany : Int32) (i_place : Int32) (f_tolds : Nat → Int32) (x0 : Int32) (x1 : Int32) (x2 : Int32) (o : Int32) (hf : mX11_signsOf x0 x1 x2 f_tolds = some o) :
    MI l yX11_signsOf wsX11_signsOf rmX11_signsOf X [.ref a_this, .int x0, .int x1, .int x2] [(a_this, .inr (11, [.int i_length, .ref a_text, .ref a_roundMany, .ref a_blowMany, .ref a_blows, .ref a_forwards, .ref a_downs, .ref a_takens, .ref a_homes, .ref a_noises, .ref a_judgeMany, .ref a_judges, .ref a_delays, .ref a_tolds, .ref a_tens, .int i_keptMany, .int i_place, .ref a_told, .ref a_ways, .ref a_nextWays, .ref a_tallies, .ref a_presses, .ref a_values, .ref a_nextValues])), (a_tolds, .inl (X.2.1 0, 432, .inl f_tolds))]  [(a_this, .inr (11, [.int i_length, .ref a_text, .ref a_roundMany, .ref a_blowMany, .ref a_blows, .ref a_forwards, .ref a_downs, .ref a_takens, .ref a_homes, .ref a_noises, .ref a_judgeMany, .ref a_judges, .ref a_delays, .ref a_tolds, .ref a_tens, .int i_keptMany, .int i_place, .ref a_told, .ref a_ways, .ref a_nextWays, .ref a_tallies, .ref a_presses, .ref a_values, .ref a_nextValues])), (a_tolds, .inl (X.2.1 0, 432, .inl f_tolds))] o := by
  refine MI_ofH (cc := cX11_signsOf) (maxL := 7) (rt := .int) (by decide) rfl (Nat.le_of_ble_eq_true rfl) ?_
  intro p e s m below meth c A Q H ls hx hb hml hts hown hA hD hG hP hS hl ret
  have hown : s.vm.findClass RX11 = some m.cls := hown
  have hD : aD A [a_this, a_tolds] := hD
  have hl : lv_has ls 7 [(0, .ref a_this), (1, .int x0), (2, .int x1), (3, .int x2)] := hl
  have hB42 : ∀ (k6 : Int32 → Int32 → Option (Int32)) (hk6 : ∀ (l4 : Int32) (l5 : Int32)  (H : Heap) (locs : List Loc) (ls : Array Slot), va_P X.1 vwCl [(a_this, .inr (11, [.int i_length, .ref a_text, .ref a_roundMany, .ref a_blowMany, .ref a_blows, .ref a_forwards, .ref a_downs, .ref a_takens, .ref a_homes, .ref a_noises, .ref a_judgeMany, .ref a_judges, .ref a_delays, .ref a_tolds, .ref a_tens, .int i_keptMany, .int i_place, .ref a_told, .ref a_ways, .ref a_nextWays, .ref a_tallies, .ref a_presses, .ref a_values, .ref a_nextValues])), (a_tolds, .inl (X.2.1 0, 432, .inl f_tolds))] H → va_S A s.heap H locs → lv_has ls 7 [(0, .ref a_this), (1, .int x0), (2, .int x1), (3, .int x2), (4, .int l4), (5, .int l5)] → k6 l4 l5 = some o → W p l e rmX11_signsOf s m ([.ref a_this, .int x0, .int x1, .int x2] : List Value).toArray below meth c H locs 0 0 Q (F0 m 6 ls [])) (l4 : Int32) (l5 : Int32) (s0 : Int32)  (H : Heap) (locs : List Loc) (ls : Array Slot), va_P X.1 vwCl [(a_this, .inr (11, [.int i_length, .ref a_text, .ref a_roundMany, .ref a_blowMany, .ref a_blows, .ref a_forwards, .ref a_downs, .ref a_takens, .ref a_homes, .ref a_noises, .ref a_judgeMany, .ref a_judges, .ref a_delays, .ref a_tolds, .ref a_tens, .int i_keptMany, .int i_place, .ref a_told, .ref a_ways, .ref a_nextWays, .ref a_tallies, .ref a_presses, .ref a_values, .ref a_nextValues])), (a_tolds, .inl (X.2.1 0, 432, .inl f_tolds))] H → va_S A s.heap H locs → lv_has ls 7 [(0, .ref a_this), (1, .int x0), (2, .int x1), (3, .int x2), (4, .int l4), (5, .int l5)] → mX11_signsOf_B42 x0 x1 x2 f_tolds k6 l4 l5 s0 = some o → W p l e rmX11_signsOf s m ([.ref a_this, .int x0, .int x1, .int x2] : List Value).toArray below meth c H locs 0 0 Q (F0 m 42 ls [.int s0]) := by
    intro k6 hk6 l4 l5 s0  H locs ls hP hS hl hf
    unfold mX11_signsOf_B42 at hf
    refine lv_istore (lv' := [(6, .int s0), (0, .ref a_this), (1, .int x0), (2, .int x1), (3, .int x2), (4, .int l4), (5, .int l5)]) hx hb dX11_signsOf_42 hl (by decide) rfl (fun ls hl => ?_)
    refine lv_iload hx hb dX11_signsOf_44 (lv_at hl 5 rfl) ?_
    refine lv_iload hx hb dX11_signsOf_46 (lv_at hl 0 rfl) ?_
    refine lv_if_eq (tgt := 69) hx hb dX11_signsOf_48 (by decide) (fun c8 => ?_) (fun c8 => ?_)
    · have hf := xt hf c8
      refine lv_iconst (v := (0 : Int32)) hx hb dX11_signsOf_69 (by decide) ?_
      refine lv_iadd hx hb dX11_signsOf_70 ?_
      refine lv_topi (fun v9 ev9 => ?_)
      have hf := lb_s hf ev9
      refine lv_istore (lv' := [(4, .int v9), (6, .int s0), (0, .ref a_this), (1, .int x0), (2, .int x1), (3, .int x2), (5, .int l5)]) hx hb dX11_signsOf_71 hl (by decide) rfl (fun ls hl => ?_)
      obtain ⟨v10, ev10, hf⟩ := lb_g hf
      refine lv_iinc (v := v10) (lv' := [(5, .int v10), (4, .int v9), (6, .int s0), (0, .ref a_this), (1, .int x0), (2, .int x1), (3, .int x2)]) hx hb dX11_signsOf_73 hl (k := 6) rfl ev10.symm (by decide) rfl (fun ls hl => ?_)
      refine lv_goto (tgt := 6) hx hb dX11_signsOf_76 (by decide) ?_
      exact hk6 v9 v10  H _ ls hP  hS (lv_sub hl [3, 4, 5, 6, 1, 0] rfl) hf
    · have hf := xf hf c8
      refine lv_aload_n hx hb dX11_signsOf_51 rfl (lv_at hl 1 rfl) ?_
      refine lv_iload_n hx hb dX11_signsOf_52 rfl (lv_at hl 2 rfl) ?_
      refine lv_iload hx hb dX11_signsOf_53 (lv_at hl 6 rfl) ?_
      obtain ⟨o11, ho11, hf⟩ := ob_s hf
      refine xV_i (As := [.int x0, .int l5]) (b := a_this) (rest := [.int l4]) (ws2 := [(a_this, .inr (11, [.int i_length, .ref a_text, .ref a_roundMany, .ref a_blowMany, .ref a_blows, .ref a_forwards, .ref a_downs, .ref a_takens, .ref a_homes, .ref a_noises, .ref a_judgeMany, .ref a_judges, .ref a_delays, .ref a_tolds, .ref a_tens, .int i_keptMany, .int i_place, .ref a_told, .ref a_ways, .ref a_nextWays, .ref a_tallies, .ref a_presses, .ref a_values, .ref a_nextValues])), (a_tolds, .inl (X.2.1 0, 432, .inl f_tolds))]) hx hb hml hts hown hG hA hP hD rfl hS hl.1 (qX11_toldOf l X a_this a_tolds a_text a_roundMany a_blowMany a_blows a_forwards a_downs a_takens a_homes a_noises a_judgeMany a_judges a_delays a_tens a_told a_ways a_nextWays a_tallies a_presses a_values a_nextValues i_length i_keptMany i_place f_tolds x0 l5 o11 ho11) (cwV (y := yX11_toldOf) 2 hts gX11_signsOf_X11_toldOf rfl rfl rfl hdvX11_toldOf ⟨Nat.le_of_ble_eq_true rfl, Nat.le_of_ble_eq_true rfl⟩) [0, 1] [] [0, 1] rfl rfl rfl rfl rfl rfl rfl (ci := 11) rfl 0 rfl rfl rfl (Nat.le_of_ble_eq_true rfl) ⟨Nat.le_of_ble_eq_true rfl, Nat.le_of_ble_eq_true rfl⟩ dX11_signsOf_55 (fun H locs hP _ hS => ?_)
      obtain ⟨o13, ho13, hf⟩ := ob_s hf
      refine xS_i (As := [.int o11]) (rest := [.int l4]) (ws2 := [(a_this, .inr (11, [.int i_length, .ref a_text, .ref a_roundMany, .ref a_blowMany, .ref a_blows, .ref a_forwards, .ref a_downs, .ref a_takens, .ref a_homes, .ref a_noises, .ref a_judgeMany, .ref a_judges, .ref a_delays, .ref a_tolds, .ref a_tens, .int i_keptMany, .int i_place, .ref a_told, .ref a_ways, .ref a_nextWays, .ref a_tallies, .ref a_presses, .ref a_values, .ref a_nextValues])), (a_tolds, .inl (X.2.1 0, 432, .inl f_tolds))]) hx hb hml hts hown hG hA hP hD rfl hS hl.1 (qX11_sign l X o11 o13 ho13) (va_cwS (y := yX11_sign) 1 hts gX11_signsOf_X11_sign rfl rfl rfl hdsX11_sign ⟨Nat.le_of_ble_eq_true rfl, Nat.le_of_ble_eq_true rfl⟩) [] [0, 1] [0, 1] rfl rfl rfl rfl rfl rfl rfl rfl rfl (Nat.le_of_ble_eq_true rfl) ⟨Nat.le_of_ble_eq_true rfl, Nat.le_of_ble_eq_true rfl⟩ dX11_signsOf_58 (fun H locs hP _ hS => ?_)
      refine lv_iload_n hx hb dX11_signsOf_61 rfl (lv_at hl 4 rfl) ?_
      refine lv_icmp_ne (tgt := 69) hx hb dX11_signsOf_62 (by decide) (fun c15 => ?_) (fun c15 => ?_)
      · have hf := xf hf c15
        refine lv_iconst (v := (0 : Int32)) hx hb dX11_signsOf_69 (by decide) ?_
        refine lv_iadd hx hb dX11_signsOf_70 ?_
        refine lv_topi (fun v16 ev16 => ?_)
        have hf := lb_s hf ev16
        refine lv_istore (lv' := [(4, .int v16), (6, .int s0), (0, .ref a_this), (1, .int x0), (2, .int x1), (3, .int x2), (5, .int l5)]) hx hb dX11_signsOf_71 hl (by decide) rfl (fun ls hl => ?_)
        obtain ⟨v17, ev17, hf⟩ := lb_g hf
        refine lv_iinc (v := v17) (lv' := [(5, .int v17), (4, .int v16), (6, .int s0), (0, .ref a_this), (1, .int x0), (2, .int x1), (3, .int x2)]) hx hb dX11_signsOf_73 hl (k := 6) rfl ev17.symm (by decide) rfl (fun ls hl => ?_)
        refine lv_goto (tgt := 6) hx hb dX11_signsOf_76 (by decide) ?_
        exact hk6 v16 v17  H _ ls hP  hS (lv_sub hl [3, 4, 5, 6, 1, 0] rfl) hf
      · have hf := xt hf c15
        refine lv_iconst (v := (1 : Int32)) hx hb dX11_signsOf_65 (by decide) ?_
        refine lv_goto (tgt := 70) hx hb dX11_signsOf_66 (by decide) ?_
        refine lv_iadd hx hb dX11_signsOf_70 ?_
        refine lv_topi (fun v18 ev18 => ?_)
        have hf := lb_s hf ev18
        refine lv_istore (lv' := [(4, .int v18), (6, .int s0), (0, .ref a_this), (1, .int x0), (2, .int x1), (3, .int x2), (5, .int l5)]) hx hb dX11_signsOf_71 hl (by decide) rfl (fun ls hl => ?_)
        obtain ⟨v19, ev19, hf⟩ := lb_g hf
        refine lv_iinc (v := v19) (lv' := [(5, .int v19), (4, .int v18), (6, .int s0), (0, .ref a_this), (1, .int x0), (2, .int x1), (3, .int x2)]) hx hb dX11_signsOf_73 hl (k := 6) rfl ev19.symm (by decide) rfl (fun ls hl => ?_)
        refine lv_goto (tgt := 6) hx hb dX11_signsOf_76 (by decide) ?_
        exact hk6 v18 v19  H _ ls hP  hS (lv_sub hl [3, 4, 5, 6, 1, 0] rfl) hf
  have hB41 : ∀ (k6 : Int32 → Int32 → Option (Int32)) (hk6 : ∀ (l4 : Int32) (l5 : Int32)  (H : Heap) (locs : List Loc) (ls : Array Slot), va_P X.1 vwCl [(a_this, .inr (11, [.int i_length, .ref a_text, .ref a_roundMany, .ref a_blowMany, .ref a_blows, .ref a_forwards, .ref a_downs, .ref a_takens, .ref a_homes, .ref a_noises, .ref a_judgeMany, .ref a_judges, .ref a_delays, .ref a_tolds, .ref a_tens, .int i_keptMany, .int i_place, .ref a_told, .ref a_ways, .ref a_nextWays, .ref a_tallies, .ref a_presses, .ref a_values, .ref a_nextValues])), (a_tolds, .inl (X.2.1 0, 432, .inl f_tolds))] H → va_S A s.heap H locs → lv_has ls 7 [(0, .ref a_this), (1, .int x0), (2, .int x1), (3, .int x2), (4, .int l4), (5, .int l5)] → k6 l4 l5 = some o → W p l e rmX11_signsOf s m ([.ref a_this, .int x0, .int x1, .int x2] : List Value).toArray below meth c H locs 0 0 Q (F0 m 6 ls [])) (l4 : Int32) (l5 : Int32)  (H : Heap) (locs : List Loc) (ls : Array Slot), va_P X.1 vwCl [(a_this, .inr (11, [.int i_length, .ref a_text, .ref a_roundMany, .ref a_blowMany, .ref a_blows, .ref a_forwards, .ref a_downs, .ref a_takens, .ref a_homes, .ref a_noises, .ref a_judgeMany, .ref a_judges, .ref a_delays, .ref a_tolds, .ref a_tens, .int i_keptMany, .int i_place, .ref a_told, .ref a_ways, .ref a_nextWays, .ref a_tallies, .ref a_presses, .ref a_values, .ref a_nextValues])), (a_tolds, .inl (X.2.1 0, 432, .inl f_tolds))] H → va_S A s.heap H locs → lv_has ls 7 [(0, .ref a_this), (1, .int x0), (2, .int x1), (3, .int x2), (4, .int l4), (5, .int l5)] → mX11_signsOf_B41 x0 x1 x2 f_tolds k6 l4 l5 = some o → W p l e rmX11_signsOf s m ([.ref a_this, .int x0, .int x1, .int x2] : List Value).toArray below meth c H locs 0 0 Q (F0 m 41 ls []) := by
    intro k6 hk6 l4 l5  H locs ls hP hS hl hf
    unfold mX11_signsOf_B41 at hf
    refine lv_iconst (v := (0 : Int32)) hx hb dX11_signsOf_41 (by decide) ?_
    exact hB42 k6 hk6 l4 l5 (0 : Int32)  H _ ls hP  hS (lv_sub hl [0, 1, 2, 3, 4, 5] rfl) hf
  have hL6 : ∀ (n : Nat) (l4 : Int32) (l5 : Int32)  (H : Heap) (locs : List Loc) (ls : Array Slot), va_P X.1 vwCl [(a_this, .inr (11, [.int i_length, .ref a_text, .ref a_roundMany, .ref a_blowMany, .ref a_blows, .ref a_forwards, .ref a_downs, .ref a_takens, .ref a_homes, .ref a_noises, .ref a_judgeMany, .ref a_judges, .ref a_delays, .ref a_tolds, .ref a_tens, .int i_keptMany, .int i_place, .ref a_told, .ref a_ways, .ref a_nextWays, .ref a_tallies, .ref a_presses, .ref a_values, .ref a_nextValues])), (a_tolds, .inl (X.2.1 0, 432, .inl f_tolds))] H → va_S A s.heap H locs → lv_has ls 7 [(0, .ref a_this), (1, .int x0), (2, .int x1), (3, .int x2), (4, .int l4), (5, .int l5)] → mX11_signsOf_L6 x0 x1 x2 f_tolds  n l4 l5 = some o → W p l e rmX11_signsOf s m ([.ref a_this, .int x0, .int x1, .int x2] : List Value).toArray below meth c H locs 0 0 Q (F0 m 6 ls []) := by
    intro n
    induction n with
    | zero => intro l4 l5  H locs ls hP hS hl hf; exact xn hf
    | succ n ih =>
      intro l4 l5  H locs ls hP hS hl hf
      have hf : mX11_signsOf_B6 x0 x1 x2 f_tolds  (mX11_signsOf_L6 x0 x1 x2 f_tolds  n) l4 l5 = some o := hf
      generalize mX11_signsOf_L6 x0 x1 x2 f_tolds  n = k6 at ih hf
      unfold mX11_signsOf_B6 at hf
      refine lv_iload hx hb dX11_signsOf_6 (lv_at hl 5 rfl) ?_
      refine lv_bipush (v := (24 : Int32)) hx hb dX11_signsOf_8 (by decide) ?_
      refine lv_icmp_ge (tgt := 79) hx hb dX11_signsOf_10 (by decide) (fun c1 => ?_) (fun c1 => ?_)
      · have hf := xt hf c1
        refine lv_iload hx hb dX11_signsOf_79 (lv_at hl 4 rfl) ?_
        obtain rfl := Option.some.inj hf
        exact ret H _ ls _ rfl hP hD hS dX11_signsOf_81
      · have hf := xf hf c1
        refine lv_aload_n hx hb dX11_signsOf_13 rfl (lv_at hl 0 rfl) ?_
        refine lv_iload_n hx hb dX11_signsOf_14 rfl (lv_at hl 1 rfl) ?_
        refine lv_iload hx hb dX11_signsOf_15 (lv_at hl 5 rfl) ?_
        obtain ⟨o2, ho2, hf⟩ := ob_s hf
        refine xV_i (As := [.int x0, .int l5]) (b := a_this) (rest := []) (ws2 := [(a_this, .inr (11, [.int i_length, .ref a_text, .ref a_roundMany, .ref a_blowMany, .ref a_blows, .ref a_forwards, .ref a_downs, .ref a_takens, .ref a_homes, .ref a_noises, .ref a_judgeMany, .ref a_judges, .ref a_delays, .ref a_tolds, .ref a_tens, .int i_keptMany, .int i_place, .ref a_told, .ref a_ways, .ref a_nextWays, .ref a_tallies, .ref a_presses, .ref a_values, .ref a_nextValues])), (a_tolds, .inl (X.2.1 0, 432, .inl f_tolds))]) hx hb hml hts hown hG hA hP hD rfl hS hl.1 (qX11_toldOf l X a_this a_tolds a_text a_roundMany a_blowMany a_blows a_forwards a_downs a_takens a_homes a_noises a_judgeMany a_judges a_delays a_tens a_told a_ways a_nextWays a_tallies a_presses a_values a_nextValues i_length i_keptMany i_place f_tolds x0 l5 o2 ho2) (cwV (y := yX11_toldOf) 2 hts gX11_signsOf_X11_toldOf rfl rfl rfl hdvX11_toldOf ⟨Nat.le_of_ble_eq_true rfl, Nat.le_of_ble_eq_true rfl⟩) [0, 1] [] [0, 1] rfl rfl rfl rfl rfl rfl rfl (ci := 11) rfl 0 rfl rfl rfl (Nat.le_of_ble_eq_true rfl) ⟨Nat.le_of_ble_eq_true rfl, Nat.le_of_ble_eq_true rfl⟩ dX11_signsOf_17 (fun H locs hP _ hS => ?_)
        refine lv_bipush (v := (-21 : Int32)) hx hb dX11_signsOf_20 (by decide) ?_
        refine lv_icmp_le (tgt := 41) hx hb dX11_signsOf_22 (by decide) (fun c4 => ?_) (fun c4 => ?_)
        · have hf := xt hf c4
          exact hB41 k6 ih l4 l5  H _ ls hP  hS (lv_sub hl [0, 1, 2, 3, 4, 5] rfl) hf
        · have hf := xf hf c4
          refine lv_aload_n hx hb dX11_signsOf_25 rfl (lv_at hl 0 rfl) ?_
          refine lv_iload_n hx hb dX11_signsOf_26 rfl (lv_at hl 2 rfl) ?_
          refine lv_iload hx hb dX11_signsOf_27 (lv_at hl 5 rfl) ?_
          obtain ⟨o5, ho5, hf⟩ := ob_s hf
          refine xV_i (As := [.int x1, .int l5]) (b := a_this) (rest := []) (ws2 := [(a_this, .inr (11, [.int i_length, .ref a_text, .ref a_roundMany, .ref a_blowMany, .ref a_blows, .ref a_forwards, .ref a_downs, .ref a_takens, .ref a_homes, .ref a_noises, .ref a_judgeMany, .ref a_judges, .ref a_delays, .ref a_tolds, .ref a_tens, .int i_keptMany, .int i_place, .ref a_told, .ref a_ways, .ref a_nextWays, .ref a_tallies, .ref a_presses, .ref a_values, .ref a_nextValues])), (a_tolds, .inl (X.2.1 0, 432, .inl f_tolds))]) hx hb hml hts hown hG hA hP hD rfl hS hl.1 (qX11_toldOf l X a_this a_tolds a_text a_roundMany a_blowMany a_blows a_forwards a_downs a_takens a_homes a_noises a_judgeMany a_judges a_delays a_tens a_told a_ways a_nextWays a_tallies a_presses a_values a_nextValues i_length i_keptMany i_place f_tolds x1 l5 o5 ho5) (cwV (y := yX11_toldOf) 2 hts gX11_signsOf_X11_toldOf rfl rfl rfl hdvX11_toldOf ⟨Nat.le_of_ble_eq_true rfl, Nat.le_of_ble_eq_true rfl⟩) [0, 1] [] [0, 1] rfl rfl rfl rfl rfl rfl rfl (ci := 11) rfl 0 rfl rfl rfl (Nat.le_of_ble_eq_true rfl) ⟨Nat.le_of_ble_eq_true rfl, Nat.le_of_ble_eq_true rfl⟩ dX11_signsOf_29 (fun H locs hP _ hS => ?_)
          refine lv_bipush (v := (-21 : Int32)) hx hb dX11_signsOf_32 (by decide) ?_
          refine lv_icmp_le (tgt := 41) hx hb dX11_signsOf_34 (by decide) (fun c7 => ?_) (fun c7 => ?_)
          · have hf := xt hf c7
            exact hB41 k6 ih l4 l5  H _ ls hP  hS (lv_sub hl [0, 1, 2, 3, 4, 5] rfl) hf
          · have hf := xf hf c7
            refine lv_iconst (v := (1 : Int32)) hx hb dX11_signsOf_37 (by decide) ?_
            refine lv_goto (tgt := 42) hx hb dX11_signsOf_38 (by decide) ?_
            exact hB42 k6 ih l4 l5 (1 : Int32)  H _ ls hP  hS (lv_sub hl [0, 1, 2, 3, 4, 5] rfl) hf
  unfold mX11_signsOf at hf
  refine lv_iconst (v := (0 : Int32)) hx hb dX11_signsOf_0 (by decide) ?_
  refine lv_istore (lv' := [(4, .int (0 : Int32)), (0, .ref a_this), (1, .int x0), (2, .int x1), (3, .int x2)]) hx hb dX11_signsOf_1 hl (by decide) rfl (fun ls hl => ?_)
  refine lv_iconst (v := (0 : Int32)) hx hb dX11_signsOf_3 (by decide) ?_
  refine lv_istore (lv' := [(5, .int (0 : Int32)), (4, .int (0 : Int32)), (0, .ref a_this), (1, .int x0), (2, .int x1), (3, .int x2)]) hx hb dX11_signsOf_4 hl (by decide) rfl (fun ls hl => ?_)
  exact hL6  FUEL (0 : Int32) (0 : Int32)  H _ ls hP  hS (lv_sub hl [2, 3, 4, 5, 1, 0] rfl) hf
def mX11_same_B162 (x0 : Int32) (x1 : Int32) (x2 : Int32) (f_tolds : Nat → Int32) (k162 : Int32 → Int32 → Int32 → Option (Int32)) (l4 : Int32) (l6 : Int32) (l7 : Int32) :
  Option (Int32) :=
  if (2 : Int32) ≤ l7 then (if l4 = 0 then (some (-4 : Int32)) else (gd (¬ l4 = 0) <|
  lb (l6 / l4) fun v23 =>
  some v23)) else ((mX11_signsOf x0 x1 l7 f_tolds).bind fun o24 =>
  (mX11_signsOf x1 x0 l7 f_tolds).bind fun o26 =>
  lb (l6 + (o24 * o26)) fun v28 =>
  lb (l7 + (1 : Int32)) fun v29 =>
  k162 l4 v28 v29)
def mX11_same_L162 (x0 : Int32) (x1 : Int32) (x2 : Int32) (f_tolds : Nat → Int32) (n : Nat) (l4 : Int32) (l6 : Int32) (l7 : Int32) :
  Option (Int32) :=
  loopN (fun k (s : Int32 × Int32 × Int32) => mX11_same_B162 x0 x1 x2 f_tolds  (fun l4 l6 l7 => k (l4, l6, l7)) s.1 s.2.1 s.2.2) n (l4, l6, l7)
def mX11_same_B92 (x0 : Int32) (x1 : Int32) (x2 : Int32) (f_tolds : Nat → Int32) (k42 : Int32 → Int32 → Int32 → Option (Int32)) (l5 : Int32) (l6 : Int32) (l7 : Int32) (s0 : Int32) (s1 : Int32) :
  Option (Int32) :=
  lb (s0 + s1) fun v31 =>
  if l7 = 0 then (lb (l5 + (0 : Int32)) fun v33 =>
  lb (l6 + (1 : Int32)) fun v34 =>
  k42 v31 v33 v34) else ((mX11_toldOf x0 l6 f_tolds).bind fun o35 =>
  (mX11_sign o35).bind fun o37 =>
  (mX11_toldOf x1 l6 f_tolds).bind fun o39 =>
  (mX11_sign o39).bind fun o41 =>
  if o37 = o41 then (lb (l5 + (1 : Int32)) fun v46 =>
  lb (l6 + (1 : Int32)) fun v47 =>
  k42 v31 v46 v47) else (lb (l5 + (0 : Int32)) fun v44 =>
  lb (l6 + (1 : Int32)) fun v45 =>
  k42 v31 v44 v45))
def mX11_same_B78 (x0 : Int32) (x1 : Int32) (x2 : Int32) (f_tolds : Nat → Int32) (k42 : Int32 → Int32 → Int32 → Option (Int32)) (l4 : Int32) (l5 : Int32) (l6 : Int32) (s0 : Int32) :
  Option (Int32) :=
  if s0 = 0 then (mX11_same_B92 x0 x1 x2 f_tolds k42 l5 l6 s0 l4 (0 : Int32)) else (mX11_same_B92 x0 x1 x2 f_tolds k42 l5 l6 s0 l4 (1 : Int32))
def mX11_same_B77 (x0 : Int32) (x1 : Int32) (x2 : Int32) (f_tolds : Nat → Int32) (k42 : Int32 → Int32 → Int32 → Option (Int32)) (l4 : Int32) (l5 : Int32) (l6 : Int32) :
  Option (Int32) :=
  mX11_same_B78 x0 x1 x2 f_tolds k42 l4 l5 l6 (0 : Int32)
def mX11_same_B42 (x0 : Int32) (x1 : Int32) (x2 : Int32) (f_tolds : Nat → Int32) (k42 : Int32 → Int32 → Int32 → Option (Int32)) (l4 : Int32) (l5 : Int32) (l6 : Int32) :
  Option (Int32) :=
  if (24 : Int32) ≤ l6 then (if (2 : Int32) ≤ x2 then (mX11_same_L162 x0 x1 x2 f_tolds  FUEL l4 (0 : Int32) (-1 : Int32)) else (if x2 = 0 then (some l5) else (some l4))) else ((mX11_toldOf x0 l6 f_tolds).bind fun o14 =>
  if o14 ≤ (-21 : Int32) then (mX11_same_B77 x0 x1 x2 f_tolds k42 l4 l5 l6) else ((mX11_toldOf x1 l6 f_tolds).bind fun o17 =>
  if o17 ≤ (-21 : Int32) then (mX11_same_B77 x0 x1 x2 f_tolds k42 l4 l5 l6) else (mX11_same_B78 x0 x1 x2 f_tolds k42 l4 l5 l6 (1 : Int32))))
def mX11_same_L42 (x0 : Int32) (x1 : Int32) (x2 : Int32) (f_tolds : Nat → Int32) (n : Nat) (l4 : Int32) (l5 : Int32) (l6 : Int32) :
  Option (Int32) :=
  loopN (fun k (s : Int32 × Int32 × Int32) => mX11_same_B42 x0 x1 x2 f_tolds  (fun l4 l5 l6 => k (l4, l5, l6)) s.1 s.2.1 s.2.2) n (l4, l5, l6)
def mX11_same (x0 : Int32) (x1 : Int32) (x2 : Int32) (f_tolds : Nat → Int32) :
  Option (Int32) :=
  (mX11_isName x0).bind fun o1 =>
  if o1 = 0 then (some (-1 : Int32)) else ((mX11_isName x1).bind fun o4 =>
  if o4 = 0 then (some (-1 : Int32)) else (if x0 = x1 then (some (-1 : Int32)) else ((mX11_in (Int32.toInt64 x2) (0 : Int64) (2 : Int64)).bind fun o8 =>
  if o8 = 0 then (some (-1 : Int32)) else (mX11_same_L42 x0 x1 x2 f_tolds  FUEL (0 : Int32) (0 : Int32) (0 : Int32)))))
theorem hdsX11_same : yX11_same.cls ≠ "java/lang/invoke/MethodHandle" ∧ yX11_same.cls ≠ "java/lang/invoke/VarHandle" ∧ (parseMethodDescriptor yX11_same.desc).map (fun d => d.parameters.length) = some 3 := by decide +kernel
theorem hdvX11_same : yX11_same.cls = RX11 ∧ yX11_same.cls ≠ "java/lang/invoke/MethodHandle" ∧ yX11_same.cls ≠ "java/lang/invoke/VarHandle" ∧ (parseMethodDescriptor yX11_same.desc).map (fun d => d.parameters.length) = some 3 := by decide +kernel
abbrev rmX11_same : Room := { frames := 2, cells := 0, slots := 0, locals := 48 }
set_option maxHeartbeats 4000000 in
set_option maxRecDepth 100000 in
theorem qX11_same (l : Launch) (X : XT) (a_this : Nat) (a_tolds : Nat) (a_text : Nat) (a_roundMany : Nat) (a_blowMany : Nat) (a_blows : Nat) (a_forwards : Nat) (a_downs : Nat) (a_takens : Nat) (a_homes : Nat) (a_noises : Nat) (a_judgeMany : Nat) (a_judges : Nat) (a_delays : Nat) (a_tens : Nat) (a_told : Nat) (a_ways : Nat) (a_nextWays : Nat) (a_tallies : Nat) (a_presses : Nat) (a_values : Nat) (a_nextValues : Nat)  (i_length : Int32) (i_keptMany : Int32) (i_place : Int32) (f_tolds : Nat → Int32) (x0 : Int32) (x1 : Int32) (x2 : Int32) (o : Int32) (hf : mX11_same x0 x1 x2 f_tolds = some o) :
    MI l yX11_same wsX11_same rmX11_same X [.ref a_this, .int x0, .int x1, .int x2] [(a_this, .inr (11, [.int i_length, .ref a_text, .ref a_roundMany, .ref a_blowMany, .ref a_blows, .ref a_forwards, .ref a_downs, .ref a_takens, .ref a_homes, .ref a_noises, .ref a_judgeMany, .ref a_judges, .ref a_delays, .ref a_tolds, .ref a_tens, .int i_keptMany, .int i_place, .ref a_told, .ref a_ways, .ref a_nextWays, .ref a_tallies, .ref a_presses, .ref a_values, .ref a_nextValues])), (a_tolds, .inl (X.2.1 0, 432, .inl f_tolds))]  [(a_this, .inr (11, [.int i_length, .ref a_text, .ref a_roundMany, .ref a_blowMany, .ref a_blows, .ref a_forwards, .ref a_downs, .ref a_takens, .ref a_homes, .ref a_noises, .ref a_judgeMany, .ref a_judges, .ref a_delays, .ref a_tolds, .ref a_tens, .int i_keptMany, .int i_place, .ref a_told, .ref a_ways, .ref a_nextWays, .ref a_tallies, .ref a_presses, .ref a_values, .ref a_nextValues])), (a_tolds, .inl (X.2.1 0, 432, .inl f_tolds))] o := by
  refine MI_ofH (cc := cX11_same) (maxL := 8) (rt := .int) (by decide) rfl (Nat.le_of_ble_eq_true rfl) ?_
  intro p e s m below meth c A Q H ls hx hb hml hts hown hA hD hG hP hS hl ret
  have hown : s.vm.findClass RX11 = some m.cls := hown
  have hD : aD A [a_this, a_tolds] := hD
  have hl : lv_has ls 8 [(0, .ref a_this), (1, .int x0), (2, .int x1), (3, .int x2)] := hl
  have w1 := hts (.constantLong RX11 181 (2)) (List.mem_of_getElem? (i := 1) rfl)
  have hL162 : ∀ (n : Nat) (l4 : Int32) (l6 : Int32) (l7 : Int32)  (H : Heap) (locs : List Loc) (ls : Array Slot), va_P X.1 vwCl [(a_this, .inr (11, [.int i_length, .ref a_text, .ref a_roundMany, .ref a_blowMany, .ref a_blows, .ref a_forwards, .ref a_downs, .ref a_takens, .ref a_homes, .ref a_noises, .ref a_judgeMany, .ref a_judges, .ref a_delays, .ref a_tolds, .ref a_tens, .int i_keptMany, .int i_place, .ref a_told, .ref a_ways, .ref a_nextWays, .ref a_tallies, .ref a_presses, .ref a_values, .ref a_nextValues])), (a_tolds, .inl (X.2.1 0, 432, .inl f_tolds))] H → va_S A s.heap H locs → lv_has ls 8 [(0, .ref a_this), (1, .int x0), (2, .int x1), (4, .int l4), (6, .int l6), (7, .int l7)] → mX11_same_L162 x0 x1 x2 f_tolds  n l4 l6 l7 = some o → W p l e rmX11_same s m ([.ref a_this, .int x0, .int x1, .int x2] : List Value).toArray below meth c H locs 0 0 Q (F0 m 162 ls []) := by
    intro n
    induction n with
    | zero => intro l4 l6 l7  H locs ls hP hS hl hf; exact xn hf
    | succ n ih =>
      intro l4 l6 l7  H locs ls hP hS hl hf
      have hf : mX11_same_B162 x0 x1 x2 f_tolds  (mX11_same_L162 x0 x1 x2 f_tolds  n) l4 l6 l7 = some o := hf
      generalize mX11_same_L162 x0 x1 x2 f_tolds  n = k162 at ih hf
      unfold mX11_same_B162 at hf
      refine lv_iload hx hb dX11_same_162 (lv_at hl 5 rfl) ?_
      refine lv_iconst (v := (2 : Int32)) hx hb dX11_same_164 (by decide) ?_
      refine lv_icmp_ge (tgt := 196) hx hb dX11_same_165 (by decide) (fun c20 => ?_) (fun c20 => ?_)
      · have hf := xt hf c20
        refine lv_iload hx hb dX11_same_196 (lv_at hl 3 rfl) ?_
        refine lv_if_ne (tgt := 206) hx hb dX11_same_198 (by decide) (fun c21 => ?_) (fun c21 => ?_)
        · have hf := xf hf c21
          refine lv_iload hx hb dX11_same_206 (lv_at hl 4 rfl) ?_
          refine lv_iload hx hb dX11_same_208 (lv_at hl 3 rfl) ?_
          obtain ⟨h22, hf⟩ := gd_s hf
          refine lv_idiv hx hb dX11_same_210 h22 ?_
          refine lv_topi (fun v23 ev23 => ?_)
          have hf := lb_s hf ev23
          obtain rfl := Option.some.inj hf
          exact ret H _ ls _ rfl hP hD hS dX11_same_211
        · have hf := xt hf c21
          refine lv_bipush (v := (-4 : Int32)) hx hb dX11_same_201 (by decide) ?_
          refine lv_goto (tgt := 211) hx hb dX11_same_203 (by decide) ?_
          obtain rfl := Option.some.inj hf
          exact ret H _ ls _ rfl hP hD hS dX11_same_211
      · have hf := xf hf c20
        refine lv_iload hx hb dX11_same_168 (lv_at hl 4 rfl) ?_
        refine lv_aload_n hx hb dX11_same_170 rfl (lv_at hl 0 rfl) ?_
        refine lv_iload_n hx hb dX11_same_171 rfl (lv_at hl 1 rfl) ?_
        refine lv_iload_n hx hb dX11_same_172 rfl (lv_at hl 2 rfl) ?_
        refine lv_iload hx hb dX11_same_173 (lv_at hl 5 rfl) ?_
        obtain ⟨o24, ho24, hf⟩ := ob_s hf
        refine xV_i (As := [.int x0, .int x1, .int l7]) (b := a_this) (rest := [.int l6]) (ws2 := [(a_this, .inr (11, [.int i_length, .ref a_text, .ref a_roundMany, .ref a_blowMany, .ref a_blows, .ref a_forwards, .ref a_downs, .ref a_takens, .ref a_homes, .ref a_noises, .ref a_judgeMany, .ref a_judges, .ref a_delays, .ref a_tolds, .ref a_tens, .int i_keptMany, .int i_place, .ref a_told, .ref a_ways, .ref a_nextWays, .ref a_tallies, .ref a_presses, .ref a_values, .ref a_nextValues])), (a_tolds, .inl (X.2.1 0, 432, .inl f_tolds))]) hx hb hml hts hown hG hA hP hD rfl hS hl.1 (qX11_signsOf l X a_this a_tolds a_text a_roundMany a_blowMany a_blows a_forwards a_downs a_takens a_homes a_noises a_judgeMany a_judges a_delays a_tens a_told a_ways a_nextWays a_tallies a_presses a_values a_nextValues i_length i_keptMany i_place f_tolds x0 x1 l7 o24 ho24) (cwV (y := yX11_signsOf) 3 hts gX11_same_X11_signsOf rfl rfl rfl hdvX11_signsOf ⟨Nat.le_of_ble_eq_true rfl, Nat.le_of_ble_eq_true rfl⟩) [0, 1] [] [0, 1] rfl rfl rfl rfl rfl rfl rfl (ci := 11) rfl 0 rfl rfl rfl (Nat.le_of_ble_eq_true rfl) ⟨Nat.le_of_ble_eq_true rfl, Nat.le_of_ble_eq_true rfl⟩ dX11_same_175 (fun H locs hP _ hS => ?_)
        refine lv_aload_n hx hb dX11_same_178 rfl (lv_at hl 0 rfl) ?_
        refine lv_iload_n hx hb dX11_same_179 rfl (lv_at hl 2 rfl) ?_
        refine lv_iload_n hx hb dX11_same_180 rfl (lv_at hl 1 rfl) ?_
        refine lv_iload hx hb dX11_same_181 (lv_at hl 5 rfl) ?_
        obtain ⟨o26, ho26, hf⟩ := ob_s hf
        refine xV_i (As := [.int x1, .int x0, .int l7]) (b := a_this) (rest := [.int o24, .int l6]) (ws2 := [(a_this, .inr (11, [.int i_length, .ref a_text, .ref a_roundMany, .ref a_blowMany, .ref a_blows, .ref a_forwards, .ref a_downs, .ref a_takens, .ref a_homes, .ref a_noises, .ref a_judgeMany, .ref a_judges, .ref a_delays, .ref a_tolds, .ref a_tens, .int i_keptMany, .int i_place, .ref a_told, .ref a_ways, .ref a_nextWays, .ref a_tallies, .ref a_presses, .ref a_values, .ref a_nextValues])), (a_tolds, .inl (X.2.1 0, 432, .inl f_tolds))]) hx hb hml hts hown hG hA hP hD rfl hS hl.1 (qX11_signsOf l X a_this a_tolds a_text a_roundMany a_blowMany a_blows a_forwards a_downs a_takens a_homes a_noises a_judgeMany a_judges a_delays a_tens a_told a_ways a_nextWays a_tallies a_presses a_values a_nextValues i_length i_keptMany i_place f_tolds x1 x0 l7 o26 ho26) (cwV (y := yX11_signsOf) 3 hts gX11_same_X11_signsOf rfl rfl rfl hdvX11_signsOf ⟨Nat.le_of_ble_eq_true rfl, Nat.le_of_ble_eq_true rfl⟩) [0, 1] [] [0, 1] rfl rfl rfl rfl rfl rfl rfl (ci := 11) rfl 0 rfl rfl rfl (Nat.le_of_ble_eq_true rfl) ⟨Nat.le_of_ble_eq_true rfl, Nat.le_of_ble_eq_true rfl⟩ dX11_same_183 (fun H locs hP _ hS => ?_)
        refine lv_imul hx hb dX11_same_186 ?_
        refine lv_iadd hx hb dX11_same_187 ?_
        refine lv_topi (fun v28 ev28 => ?_)
        have hf := lb_s hf ev28
        refine lv_istore (lv' := [(6, .int v28), (0, .ref a_this), (1, .int x0), (2, .int x1), (4, .int l4), (7, .int l7)]) hx hb dX11_same_188 hl (by decide) rfl (fun ls hl => ?_)
        obtain ⟨v29, ev29, hf⟩ := lb_g hf
        refine lv_iinc (v := v29) (lv' := [(7, .int v29), (6, .int v28), (0, .ref a_this), (1, .int x0), (2, .int x1), (4, .int l4)]) hx hb dX11_same_190 hl (k := 5) rfl ev29.symm (by decide) rfl (fun ls hl => ?_)
        refine lv_goto (tgt := 162) hx hb dX11_same_193 (by decide) ?_
        exact ih l4 v28 v29  H _ ls hP  hS (lv_sub hl [2, 3, 4, 5, 1, 0] rfl) hf
  have hB92 : ∀ (k42 : Int32 → Int32 → Int32 → Option (Int32)) (hk42 : ∀ (l4 : Int32) (l5 : Int32) (l6 : Int32)  (H : Heap) (locs : List Loc) (ls : Array Slot), va_P X.1 vwCl [(a_this, .inr (11, [.int i_length, .ref a_text, .ref a_roundMany, .ref a_blowMany, .ref a_blows, .ref a_forwards, .ref a_downs, .ref a_takens, .ref a_homes, .ref a_noises, .ref a_judgeMany, .ref a_judges, .ref a_delays, .ref a_tolds, .ref a_tens, .int i_keptMany, .int i_place, .ref a_told, .ref a_ways, .ref a_nextWays, .ref a_tallies, .ref a_presses, .ref a_values, .ref a_nextValues])), (a_tolds, .inl (X.2.1 0, 432, .inl f_tolds))] H → va_S A s.heap H locs → lv_has ls 8 [(0, .ref a_this), (1, .int x0), (2, .int x1), (3, .int x2), (4, .int l4), (5, .int l5), (6, .int l6)] → k42 l4 l5 l6 = some o → W p l e rmX11_same s m ([.ref a_this, .int x0, .int x1, .int x2] : List Value).toArray below meth c H locs 0 0 Q (F0 m 42 ls [])) (l5 : Int32) (l6 : Int32) (l7 : Int32) (s0 : Int32) (s1 : Int32)  (H : Heap) (locs : List Loc) (ls : Array Slot), va_P X.1 vwCl [(a_this, .inr (11, [.int i_length, .ref a_text, .ref a_roundMany, .ref a_blowMany, .ref a_blows, .ref a_forwards, .ref a_downs, .ref a_takens, .ref a_homes, .ref a_noises, .ref a_judgeMany, .ref a_judges, .ref a_delays, .ref a_tolds, .ref a_tens, .int i_keptMany, .int i_place, .ref a_told, .ref a_ways, .ref a_nextWays, .ref a_tallies, .ref a_presses, .ref a_values, .ref a_nextValues])), (a_tolds, .inl (X.2.1 0, 432, .inl f_tolds))] H → va_S A s.heap H locs → lv_has ls 8 [(0, .ref a_this), (1, .int x0), (2, .int x1), (3, .int x2), (5, .int l5), (6, .int l6), (7, .int l7)] → mX11_same_B92 x0 x1 x2 f_tolds k42 l5 l6 l7 s0 s1 = some o → W p l e rmX11_same s m ([.ref a_this, .int x0, .int x1, .int x2] : List Value).toArray below meth c H locs 0 0 Q (F0 m 92 ls [.int s1, .int s0]) := by
    intro k42 hk42 l5 l6 l7 s0 s1  H locs ls hP hS hl hf
    unfold mX11_same_B92 at hf
    refine lv_iadd hx hb dX11_same_92 ?_
    refine lv_topi (fun v31 ev31 => ?_)
    have hf := lb_s hf ev31
    refine lv_istore (lv' := [(4, .int v31), (0, .ref a_this), (1, .int x0), (2, .int x1), (3, .int x2), (5, .int l5), (6, .int l6), (7, .int l7)]) hx hb dX11_same_93 hl (by decide) rfl (fun ls hl => ?_)
    refine lv_iload hx hb dX11_same_95 (lv_at hl 5 rfl) ?_
    refine lv_iload hx hb dX11_same_97 (lv_at hl 7 rfl) ?_
    refine lv_if_eq (tgt := 129) hx hb dX11_same_99 (by decide) (fun c32 => ?_) (fun c32 => ?_)
    · have hf := xt hf c32
      refine lv_iconst (v := (0 : Int32)) hx hb dX11_same_129 (by decide) ?_
      refine lv_iadd hx hb dX11_same_130 ?_
      refine lv_topi (fun v33 ev33 => ?_)
      have hf := lb_s hf ev33
      refine lv_istore (lv' := [(5, .int v33), (4, .int v31), (0, .ref a_this), (1, .int x0), (2, .int x1), (3, .int x2), (6, .int l6), (7, .int l7)]) hx hb dX11_same_131 hl (by decide) rfl (fun ls hl => ?_)
      obtain ⟨v34, ev34, hf⟩ := lb_g hf
      refine lv_iinc (v := v34) (lv' := [(6, .int v34), (5, .int v33), (4, .int v31), (0, .ref a_this), (1, .int x0), (2, .int x1), (3, .int x2), (7, .int l7)]) hx hb dX11_same_133 hl (k := 6) rfl ev34.symm (by decide) rfl (fun ls hl => ?_)
      refine lv_goto (tgt := 42) hx hb dX11_same_136 (by decide) ?_
      exact hk42 v31 v33 v34  H _ ls hP  hS (lv_sub hl [3, 4, 5, 6, 2, 1, 0] rfl) hf
    · have hf := xf hf c32
      refine lv_aload_n hx hb dX11_same_102 rfl (lv_at hl 1 rfl) ?_
      refine lv_iload_n hx hb dX11_same_103 rfl (lv_at hl 2 rfl) ?_
      refine lv_iload hx hb dX11_same_104 (lv_at hl 6 rfl) ?_
      obtain ⟨o35, ho35, hf⟩ := ob_s hf
      refine xV_i (As := [.int x0, .int l6]) (b := a_this) (rest := [.int l5]) (ws2 := [(a_this, .inr (11, [.int i_length, .ref a_text, .ref a_roundMany, .ref a_blowMany, .ref a_blows, .ref a_forwards, .ref a_downs, .ref a_takens, .ref a_homes, .ref a_noises, .ref a_judgeMany, .ref a_judges, .ref a_delays, .ref a_tolds, .ref a_tens, .int i_keptMany, .int i_place, .ref a_told, .ref a_ways, .ref a_nextWays, .ref a_tallies, .ref a_presses, .ref a_values, .ref a_nextValues])), (a_tolds, .inl (X.2.1 0, 432, .inl f_tolds))]) hx hb hml hts hown hG hA hP hD rfl hS hl.1 (qX11_toldOf l X a_this a_tolds a_text a_roundMany a_blowMany a_blows a_forwards a_downs a_takens a_homes a_noises a_judgeMany a_judges a_delays a_tens a_told a_ways a_nextWays a_tallies a_presses a_values a_nextValues i_length i_keptMany i_place f_tolds x0 l6 o35 ho35) (cwV (y := yX11_toldOf) 2 hts gX11_same_X11_toldOf rfl rfl rfl hdvX11_toldOf ⟨Nat.le_of_ble_eq_true rfl, Nat.le_of_ble_eq_true rfl⟩) [0, 1] [] [0, 1] rfl rfl rfl rfl rfl rfl rfl (ci := 11) rfl 0 rfl rfl rfl (Nat.le_of_ble_eq_true rfl) ⟨Nat.le_of_ble_eq_true rfl, Nat.le_of_ble_eq_true rfl⟩ dX11_same_106 (fun H locs hP _ hS => ?_)
      obtain ⟨o37, ho37, hf⟩ := ob_s hf
      refine xS_i (As := [.int o35]) (rest := [.int l5]) (ws2 := [(a_this, .inr (11, [.int i_length, .ref a_text, .ref a_roundMany, .ref a_blowMany, .ref a_blows, .ref a_forwards, .ref a_downs, .ref a_takens, .ref a_homes, .ref a_noises, .ref a_judgeMany, .ref a_judges, .ref a_delays, .ref a_tolds, .ref a_tens, .int i_keptMany, .int i_place, .ref a_told, .ref a_ways, .ref a_nextWays, .ref a_tallies, .ref a_presses, .ref a_values, .ref a_nextValues])), (a_tolds, .inl (X.2.1 0, 432, .inl f_tolds))]) hx hb hml hts hown hG hA hP hD rfl hS hl.1 (qX11_sign l X o35 o37 ho37) (va_cwS (y := yX11_sign) 1 hts gX11_same_X11_sign rfl rfl rfl hdsX11_sign ⟨Nat.le_of_ble_eq_true rfl, Nat.le_of_ble_eq_true rfl⟩) [] [0, 1] [0, 1] rfl rfl rfl rfl rfl rfl rfl rfl rfl (Nat.le_of_ble_eq_true rfl) ⟨Nat.le_of_ble_eq_true rfl, Nat.le_of_ble_eq_true rfl⟩ dX11_same_109 (fun H locs hP _ hS => ?_)
      refine lv_aload_n hx hb dX11_same_112 rfl (lv_at hl 1 rfl) ?_
      refine lv_iload_n hx hb dX11_same_113 rfl (lv_at hl 3 rfl) ?_
      refine lv_iload hx hb dX11_same_114 (lv_at hl 6 rfl) ?_
      obtain ⟨o39, ho39, hf⟩ := ob_s hf
      refine xV_i (As := [.int x1, .int l6]) (b := a_this) (rest := [.int o37, .int l5]) (ws2 := [(a_this, .inr (11, [.int i_length, .ref a_text, .ref a_roundMany, .ref a_blowMany, .ref a_blows, .ref a_forwards, .ref a_downs, .ref a_takens, .ref a_homes, .ref a_noises, .ref a_judgeMany, .ref a_judges, .ref a_delays, .ref a_tolds, .ref a_tens, .int i_keptMany, .int i_place, .ref a_told, .ref a_ways, .ref a_nextWays, .ref a_tallies, .ref a_presses, .ref a_values, .ref a_nextValues])), (a_tolds, .inl (X.2.1 0, 432, .inl f_tolds))]) hx hb hml hts hown hG hA hP hD rfl hS hl.1 (qX11_toldOf l X a_this a_tolds a_text a_roundMany a_blowMany a_blows a_forwards a_downs a_takens a_homes a_noises a_judgeMany a_judges a_delays a_tens a_told a_ways a_nextWays a_tallies a_presses a_values a_nextValues i_length i_keptMany i_place f_tolds x1 l6 o39 ho39) (cwV (y := yX11_toldOf) 2 hts gX11_same_X11_toldOf rfl rfl rfl hdvX11_toldOf ⟨Nat.le_of_ble_eq_true rfl, Nat.le_of_ble_eq_true rfl⟩) [0, 1] [] [0, 1] rfl rfl rfl rfl rfl rfl rfl (ci := 11) rfl 0 rfl rfl rfl (Nat.le_of_ble_eq_true rfl) ⟨Nat.le_of_ble_eq_true rfl, Nat.le_of_ble_eq_true rfl⟩ dX11_same_116 (fun H locs hP _ hS => ?_)
      obtain ⟨o41, ho41, hf⟩ := ob_s hf
      refine xS_i (As := [.int o39]) (rest := [.int o37, .int l5]) (ws2 := [(a_this, .inr (11, [.int i_length, .ref a_text, .ref a_roundMany, .ref a_blowMany, .ref a_blows, .ref a_forwards, .ref a_downs, .ref a_takens, .ref a_homes, .ref a_noises, .ref a_judgeMany, .ref a_judges, .ref a_delays, .ref a_tolds, .ref a_tens, .int i_keptMany, .int i_place, .ref a_told, .ref a_ways, .ref a_nextWays, .ref a_tallies, .ref a_presses, .ref a_values, .ref a_nextValues])), (a_tolds, .inl (X.2.1 0, 432, .inl f_tolds))]) hx hb hml hts hown hG hA hP hD rfl hS hl.1 (qX11_sign l X o39 o41 ho41) (va_cwS (y := yX11_sign) 1 hts gX11_same_X11_sign rfl rfl rfl hdsX11_sign ⟨Nat.le_of_ble_eq_true rfl, Nat.le_of_ble_eq_true rfl⟩) [] [0, 1] [0, 1] rfl rfl rfl rfl rfl rfl rfl rfl rfl (Nat.le_of_ble_eq_true rfl) ⟨Nat.le_of_ble_eq_true rfl, Nat.le_of_ble_eq_true rfl⟩ dX11_same_119 (fun H locs hP _ hS => ?_)
      refine lv_icmp_ne (tgt := 129) hx hb dX11_same_122 (by decide) (fun c43 => ?_) (fun c43 => ?_)
      · have hf := xf hf c43
        refine lv_iconst (v := (0 : Int32)) hx hb dX11_same_129 (by decide) ?_
        refine lv_iadd hx hb dX11_same_130 ?_
        refine lv_topi (fun v44 ev44 => ?_)
        have hf := lb_s hf ev44
        refine lv_istore (lv' := [(5, .int v44), (4, .int v31), (0, .ref a_this), (1, .int x0), (2, .int x1), (3, .int x2), (6, .int l6), (7, .int l7)]) hx hb dX11_same_131 hl (by decide) rfl (fun ls hl => ?_)
        obtain ⟨v45, ev45, hf⟩ := lb_g hf
        refine lv_iinc (v := v45) (lv' := [(6, .int v45), (5, .int v44), (4, .int v31), (0, .ref a_this), (1, .int x0), (2, .int x1), (3, .int x2), (7, .int l7)]) hx hb dX11_same_133 hl (k := 6) rfl ev45.symm (by decide) rfl (fun ls hl => ?_)
        refine lv_goto (tgt := 42) hx hb dX11_same_136 (by decide) ?_
        exact hk42 v31 v44 v45  H _ ls hP  hS (lv_sub hl [3, 4, 5, 6, 2, 1, 0] rfl) hf
      · have hf := xt hf c43
        refine lv_iconst (v := (1 : Int32)) hx hb dX11_same_125 (by decide) ?_
        refine lv_goto (tgt := 130) hx hb dX11_same_126 (by decide) ?_
        refine lv_iadd hx hb dX11_same_130 ?_
        refine lv_topi (fun v46 ev46 => ?_)
        have hf := lb_s hf ev46
        refine lv_istore (lv' := [(5, .int v46), (4, .int v31), (0, .ref a_this), (1, .int x0), (2, .int x1), (3, .int x2), (6, .int l6), (7, .int l7)]) hx hb dX11_same_131 hl (by decide) rfl (fun ls hl => ?_)
        obtain ⟨v47, ev47, hf⟩ := lb_g hf
        refine lv_iinc (v := v47) (lv' := [(6, .int v47), (5, .int v46), (4, .int v31), (0, .ref a_this), (1, .int x0), (2, .int x1), (3, .int x2), (7, .int l7)]) hx hb dX11_same_133 hl (k := 6) rfl ev47.symm (by decide) rfl (fun ls hl => ?_)
        refine lv_goto (tgt := 42) hx hb dX11_same_136 (by decide) ?_
        exact hk42 v31 v46 v47  H _ ls hP  hS (lv_sub hl [3, 4, 5, 6, 2, 1, 0] rfl) hf
  have hB78 : ∀ (k42 : Int32 → Int32 → Int32 → Option (Int32)) (hk42 : ∀ (l4 : Int32) (l5 : Int32) (l6 : Int32)  (H : Heap) (locs : List Loc) (ls : Array Slot), va_P X.1 vwCl [(a_this, .inr (11, [.int i_length, .ref a_text, .ref a_roundMany, .ref a_blowMany, .ref a_blows, .ref a_forwards, .ref a_downs, .ref a_takens, .ref a_homes, .ref a_noises, .ref a_judgeMany, .ref a_judges, .ref a_delays, .ref a_tolds, .ref a_tens, .int i_keptMany, .int i_place, .ref a_told, .ref a_ways, .ref a_nextWays, .ref a_tallies, .ref a_presses, .ref a_values, .ref a_nextValues])), (a_tolds, .inl (X.2.1 0, 432, .inl f_tolds))] H → va_S A s.heap H locs → lv_has ls 8 [(0, .ref a_this), (1, .int x0), (2, .int x1), (3, .int x2), (4, .int l4), (5, .int l5), (6, .int l6)] → k42 l4 l5 l6 = some o → W p l e rmX11_same s m ([.ref a_this, .int x0, .int x1, .int x2] : List Value).toArray below meth c H locs 0 0 Q (F0 m 42 ls [])) (l4 : Int32) (l5 : Int32) (l6 : Int32) (s0 : Int32)  (H : Heap) (locs : List Loc) (ls : Array Slot), va_P X.1 vwCl [(a_this, .inr (11, [.int i_length, .ref a_text, .ref a_roundMany, .ref a_blowMany, .ref a_blows, .ref a_forwards, .ref a_downs, .ref a_takens, .ref a_homes, .ref a_noises, .ref a_judgeMany, .ref a_judges, .ref a_delays, .ref a_tolds, .ref a_tens, .int i_keptMany, .int i_place, .ref a_told, .ref a_ways, .ref a_nextWays, .ref a_tallies, .ref a_presses, .ref a_values, .ref a_nextValues])), (a_tolds, .inl (X.2.1 0, 432, .inl f_tolds))] H → va_S A s.heap H locs → lv_has ls 8 [(0, .ref a_this), (1, .int x0), (2, .int x1), (3, .int x2), (4, .int l4), (5, .int l5), (6, .int l6)] → mX11_same_B78 x0 x1 x2 f_tolds k42 l4 l5 l6 s0 = some o → W p l e rmX11_same s m ([.ref a_this, .int x0, .int x1, .int x2] : List Value).toArray below meth c H locs 0 0 Q (F0 m 78 ls [.int s0]) := by
    intro k42 hk42 l4 l5 l6 s0  H locs ls hP hS hl hf
    unfold mX11_same_B78 at hf
    refine lv_istore (lv' := [(7, .int s0), (0, .ref a_this), (1, .int x0), (2, .int x1), (3, .int x2), (4, .int l4), (5, .int l5), (6, .int l6)]) hx hb dX11_same_78 hl (by decide) rfl (fun ls hl => ?_)
    refine lv_iload hx hb dX11_same_80 (lv_at hl 5 rfl) ?_
    refine lv_iload hx hb dX11_same_82 (lv_at hl 0 rfl) ?_
    refine lv_if_eq (tgt := 91) hx hb dX11_same_84 (by decide) (fun c30 => ?_) (fun c30 => ?_)
    · have hf := xt hf c30
      refine lv_iconst (v := (0 : Int32)) hx hb dX11_same_91 (by decide) ?_
      exact hB92 k42 hk42 l5 l6 s0 l4 (0 : Int32)  H _ ls hP  hS (lv_sub hl [1, 2, 3, 4, 6, 7, 0] rfl) hf
    · have hf := xf hf c30
      refine lv_iconst (v := (1 : Int32)) hx hb dX11_same_87 (by decide) ?_
      refine lv_goto (tgt := 92) hx hb dX11_same_88 (by decide) ?_
      exact hB92 k42 hk42 l5 l6 s0 l4 (1 : Int32)  H _ ls hP  hS (lv_sub hl [1, 2, 3, 4, 6, 7, 0] rfl) hf
  have hB77 : ∀ (k42 : Int32 → Int32 → Int32 → Option (Int32)) (hk42 : ∀ (l4 : Int32) (l5 : Int32) (l6 : Int32)  (H : Heap) (locs : List Loc) (ls : Array Slot), va_P X.1 vwCl [(a_this, .inr (11, [.int i_length, .ref a_text, .ref a_roundMany, .ref a_blowMany, .ref a_blows, .ref a_forwards, .ref a_downs, .ref a_takens, .ref a_homes, .ref a_noises, .ref a_judgeMany, .ref a_judges, .ref a_delays, .ref a_tolds, .ref a_tens, .int i_keptMany, .int i_place, .ref a_told, .ref a_ways, .ref a_nextWays, .ref a_tallies, .ref a_presses, .ref a_values, .ref a_nextValues])), (a_tolds, .inl (X.2.1 0, 432, .inl f_tolds))] H → va_S A s.heap H locs → lv_has ls 8 [(0, .ref a_this), (1, .int x0), (2, .int x1), (3, .int x2), (4, .int l4), (5, .int l5), (6, .int l6)] → k42 l4 l5 l6 = some o → W p l e rmX11_same s m ([.ref a_this, .int x0, .int x1, .int x2] : List Value).toArray below meth c H locs 0 0 Q (F0 m 42 ls [])) (l4 : Int32) (l5 : Int32) (l6 : Int32)  (H : Heap) (locs : List Loc) (ls : Array Slot), va_P X.1 vwCl [(a_this, .inr (11, [.int i_length, .ref a_text, .ref a_roundMany, .ref a_blowMany, .ref a_blows, .ref a_forwards, .ref a_downs, .ref a_takens, .ref a_homes, .ref a_noises, .ref a_judgeMany, .ref a_judges, .ref a_delays, .ref a_tolds, .ref a_tens, .int i_keptMany, .int i_place, .ref a_told, .ref a_ways, .ref a_nextWays, .ref a_tallies, .ref a_presses, .ref a_values, .ref a_nextValues])), (a_tolds, .inl (X.2.1 0, 432, .inl f_tolds))] H → va_S A s.heap H locs → lv_has ls 8 [(0, .ref a_this), (1, .int x0), (2, .int x1), (3, .int x2), (4, .int l4), (5, .int l5), (6, .int l6)] → mX11_same_B77 x0 x1 x2 f_tolds k42 l4 l5 l6 = some o → W p l e rmX11_same s m ([.ref a_this, .int x0, .int x1, .int x2] : List Value).toArray below meth c H locs 0 0 Q (F0 m 77 ls []) := by
    intro k42 hk42 l4 l5 l6  H locs ls hP hS hl hf
    unfold mX11_same_B77 at hf
    refine lv_iconst (v := (0 : Int32)) hx hb dX11_same_77 (by decide) ?_
    exact hB78 k42 hk42 l4 l5 l6 (0 : Int32)  H _ ls hP  hS (lv_sub hl [0, 1, 2, 3, 4, 5, 6] rfl) hf
  have hL42 : ∀ (n : Nat) (l4 : Int32) (l5 : Int32) (l6 : Int32)  (H : Heap) (locs : List Loc) (ls : Array Slot), va_P X.1 vwCl [(a_this, .inr (11, [.int i_length, .ref a_text, .ref a_roundMany, .ref a_blowMany, .ref a_blows, .ref a_forwards, .ref a_downs, .ref a_takens, .ref a_homes, .ref a_noises, .ref a_judgeMany, .ref a_judges, .ref a_delays, .ref a_tolds, .ref a_tens, .int i_keptMany, .int i_place, .ref a_told, .ref a_ways, .ref a_nextWays, .ref a_tallies, .ref a_presses, .ref a_values, .ref a_nextValues])), (a_tolds, .inl (X.2.1 0, 432, .inl f_tolds))] H → va_S A s.heap H locs → lv_has ls 8 [(0, .ref a_this), (1, .int x0), (2, .int x1), (3, .int x2), (4, .int l4), (5, .int l5), (6, .int l6)] → mX11_same_L42 x0 x1 x2 f_tolds  n l4 l5 l6 = some o → W p l e rmX11_same s m ([.ref a_this, .int x0, .int x1, .int x2] : List Value).toArray below meth c H locs 0 0 Q (F0 m 42 ls []) := by
    intro n
    induction n with
    | zero => intro l4 l5 l6  H locs ls hP hS hl hf; exact xn hf
    | succ n ih =>
      intro l4 l5 l6  H locs ls hP hS hl hf
      have hf : mX11_same_B42 x0 x1 x2 f_tolds  (mX11_same_L42 x0 x1 x2 f_tolds  n) l4 l5 l6 = some o := hf
      generalize mX11_same_L42 x0 x1 x2 f_tolds  n = k42 at ih hf
      unfold mX11_same_B42 at hf
      refine lv_iload hx hb dX11_same_42 (lv_at hl 6 rfl) ?_
      refine lv_bipush (v := (24 : Int32)) hx hb dX11_same_44 (by decide) ?_
      refine lv_icmp_ge (tgt := 139) hx hb dX11_same_46 (by decide) (fun c11 => ?_) (fun c11 => ?_)
      · have hf := xt hf c11
        refine lv_iload_n hx hb dX11_same_139 rfl (lv_at hl 3 rfl) ?_
        refine lv_iconst (v := (2 : Int32)) hx hb dX11_same_140 (by decide) ?_
        refine lv_icmp_ge (tgt := 156) hx hb dX11_same_141 (by decide) (fun c12 => ?_) (fun c12 => ?_)
        · have hf := xt hf c12
          refine lv_iconst (v := (0 : Int32)) hx hb dX11_same_156 (by decide) ?_
          refine lv_istore (lv' := [(6, .int (0 : Int32)), (0, .ref a_this), (1, .int x0), (2, .int x1), (3, .int x2), (4, .int l4), (5, .int l5)]) hx hb dX11_same_157 hl (by decide) rfl (fun ls hl => ?_)
          refine lv_iconst (v := (-1 : Int32)) hx hb dX11_same_159 (by decide) ?_
          refine lv_istore (lv' := [(7, .int (-1 : Int32)), (6, .int (0 : Int32)), (0, .ref a_this), (1, .int x0), (2, .int x1), (3, .int x2), (4, .int l4), (5, .int l5)]) hx hb dX11_same_160 hl (by decide) rfl (fun ls hl => ?_)
          exact hL162  FUEL l4 (0 : Int32) (-1 : Int32)  H _ ls hP  hS (lv_sub hl [2, 3, 4, 6, 1, 0] rfl) hf
        · have hf := xf hf c12
          refine lv_iload_n hx hb dX11_same_144 rfl (lv_at hl 3 rfl) ?_
          refine lv_if_ne (tgt := 153) hx hb dX11_same_145 (by decide) (fun c13 => ?_) (fun c13 => ?_)
          · have hf := xf hf c13
            refine lv_iload hx hb dX11_same_153 (lv_at hl 4 rfl) ?_
            obtain rfl := Option.some.inj hf
            exact ret H _ ls _ rfl hP hD hS dX11_same_155
          · have hf := xt hf c13
            refine lv_iload hx hb dX11_same_148 (lv_at hl 5 rfl) ?_
            refine lv_goto (tgt := 155) hx hb dX11_same_150 (by decide) ?_
            obtain rfl := Option.some.inj hf
            exact ret H _ ls _ rfl hP hD hS dX11_same_155
      · have hf := xf hf c11
        refine lv_aload_n hx hb dX11_same_49 rfl (lv_at hl 0 rfl) ?_
        refine lv_iload_n hx hb dX11_same_50 rfl (lv_at hl 1 rfl) ?_
        refine lv_iload hx hb dX11_same_51 (lv_at hl 6 rfl) ?_
        obtain ⟨o14, ho14, hf⟩ := ob_s hf
        refine xV_i (As := [.int x0, .int l6]) (b := a_this) (rest := []) (ws2 := [(a_this, .inr (11, [.int i_length, .ref a_text, .ref a_roundMany, .ref a_blowMany, .ref a_blows, .ref a_forwards, .ref a_downs, .ref a_takens, .ref a_homes, .ref a_noises, .ref a_judgeMany, .ref a_judges, .ref a_delays, .ref a_tolds, .ref a_tens, .int i_keptMany, .int i_place, .ref a_told, .ref a_ways, .ref a_nextWays, .ref a_tallies, .ref a_presses, .ref a_values, .ref a_nextValues])), (a_tolds, .inl (X.2.1 0, 432, .inl f_tolds))]) hx hb hml hts hown hG hA hP hD rfl hS hl.1 (qX11_toldOf l X a_this a_tolds a_text a_roundMany a_blowMany a_blows a_forwards a_downs a_takens a_homes a_noises a_judgeMany a_judges a_delays a_tens a_told a_ways a_nextWays a_tallies a_presses a_values a_nextValues i_length i_keptMany i_place f_tolds x0 l6 o14 ho14) (cwV (y := yX11_toldOf) 2 hts gX11_same_X11_toldOf rfl rfl rfl hdvX11_toldOf ⟨Nat.le_of_ble_eq_true rfl, Nat.le_of_ble_eq_true rfl⟩) [0, 1] [] [0, 1] rfl rfl rfl rfl rfl rfl rfl (ci := 11) rfl 0 rfl rfl rfl (Nat.le_of_ble_eq_true rfl) ⟨Nat.le_of_ble_eq_true rfl, Nat.le_of_ble_eq_true rfl⟩ dX11_same_53 (fun H locs hP _ hS => ?_)
        refine lv_bipush (v := (-21 : Int32)) hx hb dX11_same_56 (by decide) ?_
        refine lv_icmp_le (tgt := 77) hx hb dX11_same_58 (by decide) (fun c16 => ?_) (fun c16 => ?_)
        · have hf := xt hf c16
          exact hB77 k42 ih l4 l5 l6  H _ ls hP  hS (lv_sub hl [0, 1, 2, 3, 4, 5, 6] rfl) hf
        · have hf := xf hf c16
          refine lv_aload_n hx hb dX11_same_61 rfl (lv_at hl 0 rfl) ?_
          refine lv_iload_n hx hb dX11_same_62 rfl (lv_at hl 2 rfl) ?_
          refine lv_iload hx hb dX11_same_63 (lv_at hl 6 rfl) ?_
          obtain ⟨o17, ho17, hf⟩ := ob_s hf
          refine xV_i (As := [.int x1, .int l6]) (b := a_this) (rest := []) (ws2 := [(a_this, .inr (11, [.int i_length, .ref a_text, .ref a_roundMany, .ref a_blowMany, .ref a_blows, .ref a_forwards, .ref a_downs, .ref a_takens, .ref a_homes, .ref a_noises, .ref a_judgeMany, .ref a_judges, .ref a_delays, .ref a_tolds, .ref a_tens, .int i_keptMany, .int i_place, .ref a_told, .ref a_ways, .ref a_nextWays, .ref a_tallies, .ref a_presses, .ref a_values, .ref a_nextValues])), (a_tolds, .inl (X.2.1 0, 432, .inl f_tolds))]) hx hb hml hts hown hG hA hP hD rfl hS hl.1 (qX11_toldOf l X a_this a_tolds a_text a_roundMany a_blowMany a_blows a_forwards a_downs a_takens a_homes a_noises a_judgeMany a_judges a_delays a_tens a_told a_ways a_nextWays a_tallies a_presses a_values a_nextValues i_length i_keptMany i_place f_tolds x1 l6 o17 ho17) (cwV (y := yX11_toldOf) 2 hts gX11_same_X11_toldOf rfl rfl rfl hdvX11_toldOf ⟨Nat.le_of_ble_eq_true rfl, Nat.le_of_ble_eq_true rfl⟩) [0, 1] [] [0, 1] rfl rfl rfl rfl rfl rfl rfl (ci := 11) rfl 0 rfl rfl rfl (Nat.le_of_ble_eq_true rfl) ⟨Nat.le_of_ble_eq_true rfl, Nat.le_of_ble_eq_true rfl⟩ dX11_same_65 (fun H locs hP _ hS => ?_)
          refine lv_bipush (v := (-21 : Int32)) hx hb dX11_same_68 (by decide) ?_
          refine lv_icmp_le (tgt := 77) hx hb dX11_same_70 (by decide) (fun c19 => ?_) (fun c19 => ?_)
          · have hf := xt hf c19
            exact hB77 k42 ih l4 l5 l6  H _ ls hP  hS (lv_sub hl [0, 1, 2, 3, 4, 5, 6] rfl) hf
          · have hf := xf hf c19
            refine lv_iconst (v := (1 : Int32)) hx hb dX11_same_73 (by decide) ?_
            refine lv_goto (tgt := 78) hx hb dX11_same_74 (by decide) ?_
            exact hB78 k42 ih l4 l5 l6 (1 : Int32)  H _ ls hP  hS (lv_sub hl [0, 1, 2, 3, 4, 5, 6] rfl) hf
  unfold mX11_same at hf
  refine lv_iload_n hx hb dX11_same_0 rfl (lv_at hl 1 rfl) ?_
  obtain ⟨o1, ho1, hf⟩ := ob_s hf
  refine xS_i (As := [.int x0]) (rest := []) (ws2 := [(a_this, .inr (11, [.int i_length, .ref a_text, .ref a_roundMany, .ref a_blowMany, .ref a_blows, .ref a_forwards, .ref a_downs, .ref a_takens, .ref a_homes, .ref a_noises, .ref a_judgeMany, .ref a_judges, .ref a_delays, .ref a_tolds, .ref a_tens, .int i_keptMany, .int i_place, .ref a_told, .ref a_ways, .ref a_nextWays, .ref a_tallies, .ref a_presses, .ref a_values, .ref a_nextValues])), (a_tolds, .inl (X.2.1 0, 432, .inl f_tolds))]) hx hb hml hts hown hG hA hP hD rfl hS hl.1 (qX11_isName l X x0 o1 ho1) (va_cwS (y := yX11_isName) 1 hts gX11_same_X11_isName rfl rfl rfl hdsX11_isName ⟨Nat.le_of_ble_eq_true rfl, Nat.le_of_ble_eq_true rfl⟩) [] [0, 1] [0, 1] rfl rfl rfl rfl rfl rfl rfl rfl rfl (Nat.le_of_ble_eq_true rfl) ⟨Nat.le_of_ble_eq_true rfl, Nat.le_of_ble_eq_true rfl⟩ dX11_same_1 (fun H locs hP _ hS => ?_)
  refine lv_if_eq (tgt := 31) hx hb dX11_same_4 (by decide) (fun c3 => ?_) (fun c3 => ?_)
  · have hf := xt hf c3
    refine lv_iconst (v := (-1 : Int32)) hx hb dX11_same_31 (by decide) ?_
    obtain rfl := Option.some.inj hf
    exact ret H _ ls _ rfl hP hD hS dX11_same_32
  · have hf := xf hf c3
    refine lv_iload_n hx hb dX11_same_7 rfl (lv_at hl 2 rfl) ?_
    obtain ⟨o4, ho4, hf⟩ := ob_s hf
    refine xS_i (As := [.int x1]) (rest := []) (ws2 := [(a_this, .inr (11, [.int i_length, .ref a_text, .ref a_roundMany, .ref a_blowMany, .ref a_blows, .ref a_forwards, .ref a_downs, .ref a_takens, .ref a_homes, .ref a_noises, .ref a_judgeMany, .ref a_judges, .ref a_delays, .ref a_tolds, .ref a_tens, .int i_keptMany, .int i_place, .ref a_told, .ref a_ways, .ref a_nextWays, .ref a_tallies, .ref a_presses, .ref a_values, .ref a_nextValues])), (a_tolds, .inl (X.2.1 0, 432, .inl f_tolds))]) hx hb hml hts hown hG hA hP hD rfl hS hl.1 (qX11_isName l X x1 o4 ho4) (va_cwS (y := yX11_isName) 1 hts gX11_same_X11_isName rfl rfl rfl hdsX11_isName ⟨Nat.le_of_ble_eq_true rfl, Nat.le_of_ble_eq_true rfl⟩) [] [0, 1] [0, 1] rfl rfl rfl rfl rfl rfl rfl rfl rfl (Nat.le_of_ble_eq_true rfl) ⟨Nat.le_of_ble_eq_true rfl, Nat.le_of_ble_eq_true rfl⟩ dX11_same_8 (fun H locs hP _ hS => ?_)
    refine lv_if_eq (tgt := 31) hx hb dX11_same_11 (by decide) (fun c6 => ?_) (fun c6 => ?_)
    · have hf := xt hf c6
      refine lv_iconst (v := (-1 : Int32)) hx hb dX11_same_31 (by decide) ?_
      obtain rfl := Option.some.inj hf
      exact ret H _ ls _ rfl hP hD hS dX11_same_32
    · have hf := xf hf c6
      refine lv_iload_n hx hb dX11_same_14 rfl (lv_at hl 1 rfl) ?_
      refine lv_iload_n hx hb dX11_same_15 rfl (lv_at hl 2 rfl) ?_
      refine lv_icmp_eq (tgt := 31) hx hb dX11_same_16 (by decide) (fun c7 => ?_) (fun c7 => ?_)
      · have hf := xt hf c7
        refine lv_iconst (v := (-1 : Int32)) hx hb dX11_same_31 (by decide) ?_
        obtain rfl := Option.some.inj hf
        exact ret H _ ls _ rfl hP hD hS dX11_same_32
      · have hf := xf hf c7
        refine lv_iload_n hx hb dX11_same_19 rfl (lv_at hl 3 rfl) ?_
        refine lv_i2l hx hb dX11_same_20 rfl ?_
        refine lv_lconst (v := (0 : Int64)) hx hb dX11_same_21 rfl ?_
        refine lv_ldc2 (v := (2 : Int64)) hx hb hown w1 dX11_same_22 ?_
        obtain ⟨o8, ho8, hf⟩ := ob_s hf
        refine xS_i (As := [.long (Int32.toInt64 x2), .long (0 : Int64), .long (2 : Int64)]) (rest := []) (ws2 := [(a_this, .inr (11, [.int i_length, .ref a_text, .ref a_roundMany, .ref a_blowMany, .ref a_blows, .ref a_forwards, .ref a_downs, .ref a_takens, .ref a_homes, .ref a_noises, .ref a_judgeMany, .ref a_judges, .ref a_delays, .ref a_tolds, .ref a_tens, .int i_keptMany, .int i_place, .ref a_told, .ref a_ways, .ref a_nextWays, .ref a_tallies, .ref a_presses, .ref a_values, .ref a_nextValues])), (a_tolds, .inl (X.2.1 0, 432, .inl f_tolds))]) hx hb hml hts hown hG hA hP hD rfl hS hl.1 (qX11_in l X (Int32.toInt64 x2) (0 : Int64) (2 : Int64) o8 ho8) (va_cwS (y := yX11_in) 3 hts gX11_same_X11_in rfl rfl rfl hdsX11_in ⟨Nat.le_of_ble_eq_true rfl, Nat.le_of_ble_eq_true rfl⟩) [] [0, 1] [0, 1] rfl rfl rfl rfl rfl rfl rfl rfl rfl (Nat.le_of_ble_eq_true rfl) ⟨Nat.le_of_ble_eq_true rfl, Nat.le_of_ble_eq_true rfl⟩ dX11_same_25 (fun H locs hP _ hS => ?_)
        refine lv_if_ne (tgt := 33) hx hb dX11_same_28 (by decide) (fun c10 => ?_) (fun c10 => ?_)
        · have hf := xf hf c10
          refine lv_iconst (v := (0 : Int32)) hx hb dX11_same_33 (by decide) ?_
          refine lv_istore (lv' := [(4, .int (0 : Int32)), (0, .ref a_this), (1, .int x0), (2, .int x1), (3, .int x2)]) hx hb dX11_same_34 hl (by decide) rfl (fun ls hl => ?_)
          refine lv_iconst (v := (0 : Int32)) hx hb dX11_same_36 (by decide) ?_
          refine lv_istore (lv' := [(5, .int (0 : Int32)), (4, .int (0 : Int32)), (0, .ref a_this), (1, .int x0), (2, .int x1), (3, .int x2)]) hx hb dX11_same_37 hl (by decide) rfl (fun ls hl => ?_)
          refine lv_iconst (v := (0 : Int32)) hx hb dX11_same_39 (by decide) ?_
          refine lv_istore (lv' := [(6, .int (0 : Int32)), (5, .int (0 : Int32)), (4, .int (0 : Int32)), (0, .ref a_this), (1, .int x0), (2, .int x1), (3, .int x2)]) hx hb dX11_same_40 hl (by decide) rfl (fun ls hl => ?_)
          exact hL42  FUEL (0 : Int32) (0 : Int32) (0 : Int32)  H _ ls hP  hS (lv_sub hl [3, 4, 5, 6, 2, 1, 0] rfl) hf
        · have hf := xt hf c10
          refine lv_iconst (v := (-1 : Int32)) hx hb dX11_same_31 (by decide) ?_
          obtain rfl := Option.some.inj hf
          exact ret H _ ls _ rfl hP hD hS dX11_same_32
def mX11_lean_B44 (x0 : Int32) (x1 : Int32) (f_tolds : Nat → Int32) (k28 : Int32 → Int32 → Int32 → Option (Int32)) (k44 : Int32 → Int32 → Int32 → Int32 → Int32 → Int32 → Option (Int32)) (l3 : Int32) (l4 : Int32) (l5 : Int32) (l6 : Int32) (l7 : Int32) (l8 : Int32) :
  Option (Int32) :=
  if (6 : Int32) ≤ l8 then ((mX11_toldOf x0 l5 f_tolds).bind fun o10 =>
  if o10 ≤ (-21 : Int32) then (lb (l5 + (1 : Int32)) fun v13 =>
  k28 l3 l4 v13) else (if l7 ≤ 0 then (lb (l5 + (1 : Int32)) fun v15 =>
  k28 l3 l4 v15) else ((mX11_toldOf x0 l5 f_tolds).bind fun o16 =>
  gd (¬ l7 = 0) <|
  lb (l3 + (o16 - (l6 / l7))) fun v19 =>
  lb (l4 + (1 : Int32)) fun v20 =>
  lb (l5 + (1 : Int32)) fun v21 =>
  k28 v19 v20 v21))) else (if l8 = x0 then (lb (l8 + (1 : Int32)) fun v23 =>
  k44 l3 l4 l5 l6 l7 v23) else ((mX11_toldOf l8 l5 f_tolds).bind fun o24 =>
  if o24 ≤ (-21 : Int32) then (lb (l8 + (1 : Int32)) fun v27 =>
  k44 l3 l4 l5 l6 l7 v27) else ((mX11_toldOf l8 l5 f_tolds).bind fun o28 =>
  lb (l6 + o28) fun v30 =>
  lb (l7 + (1 : Int32)) fun v31 =>
  lb (l8 + (1 : Int32)) fun v32 =>
  k44 l3 l4 l5 v30 v31 v32)))
def mX11_lean_L44 (x0 : Int32) (x1 : Int32) (f_tolds : Nat → Int32) (k28 : Int32 → Int32 → Int32 → Option (Int32)) (n : Nat) (l3 : Int32) (l4 : Int32) (l5 : Int32) (l6 : Int32) (l7 : Int32) (l8 : Int32) :
  Option (Int32) :=
  loopN (fun k (s : Int32 × Int32 × Int32 × Int32 × Int32 × Int32) => mX11_lean_B44 x0 x1 f_tolds k28 (fun l3 l4 l5 l6 l7 l8 => k (l3, l4, l5, l6, l7, l8)) s.1 s.2.1 s.2.2.1 s.2.2.2.1 s.2.2.2.2.1 s.2.2.2.2.2) n (l3, l4, l5, l6, l7, l8)
def mX11_lean_B28 (x0 : Int32) (x1 : Int32) (f_tolds : Nat → Int32) (k28 : Int32 → Int32 → Int32 → Option (Int32)) (l3 : Int32) (l4 : Int32) (l5 : Int32) :
  Option (Int32) :=
  if (24 : Int32) ≤ l5 then (if x1 = 0 then (some l3) else (some l4)) else (mX11_lean_L44 x0 x1 f_tolds k28 FUEL l3 l4 l5 (0 : Int32) (0 : Int32) (0 : Int32))
def mX11_lean_L28 (x0 : Int32) (x1 : Int32) (f_tolds : Nat → Int32) (n : Nat) (l3 : Int32) (l4 : Int32) (l5 : Int32) :
  Option (Int32) :=
  loopN (fun k (s : Int32 × Int32 × Int32) => mX11_lean_B28 x0 x1 f_tolds  (fun l3 l4 l5 => k (l3, l4, l5)) s.1 s.2.1 s.2.2) n (l3, l4, l5)
def mX11_lean (x0 : Int32) (x1 : Int32) (f_tolds : Nat → Int32) :
  Option (Int32) :=
  (mX11_isName x0).bind fun o1 =>
  if o1 = 0 then (some (-100001 : Int32)) else ((mX11_in (Int32.toInt64 x1) (0 : Int64) (1 : Int64)).bind fun o4 =>
  if o4 = 0 then (some (-100001 : Int32)) else (mX11_lean_L28 x0 x1 f_tolds  FUEL (0 : Int32) (0 : Int32) (0 : Int32)))
theorem hdsX11_lean : yX11_lean.cls ≠ "java/lang/invoke/MethodHandle" ∧ yX11_lean.cls ≠ "java/lang/invoke/VarHandle" ∧ (parseMethodDescriptor yX11_lean.desc).map (fun d => d.parameters.length) = some 2 := by decide +kernel
theorem hdvX11_lean : yX11_lean.cls = RX11 ∧ yX11_lean.cls ≠ "java/lang/invoke/MethodHandle" ∧ yX11_lean.cls ≠ "java/lang/invoke/VarHandle" ∧ (parseMethodDescriptor yX11_lean.desc).map (fun d => d.parameters.length) = some 2 := by decide +kernel
abbrev rmX11_lean : Room := { frames := 2, cells := 0, slots := 0, locals := 45 }
set_option maxHeartbeats 4000000 in
set_option maxRecDepth 100000 in
theorem qX11_lean (l : Launch) (X : XT) (a_this : Nat) (a_tolds : Nat) (a_text : Nat) (a_roundMany : Nat) (a_blowMany : Nat) (a_blows : Nat) (a_forwards : Nat) (a_downs : Nat) (a_takens : Nat) (a_homes : Nat) (a_noises : Nat) (a_judgeMany : Nat) (a_judges : Nat) (a_delays : Nat) (a_tens : Nat) (a_told : Nat) (a_ways : Nat) (a_nextWays : Nat) (a_tallies : Nat) (a_presses : Nat) (a_values : Nat) (a_nextValues : Nat)  (i_length : Int32) (i_keptMany : Int32) (i_place : Int32) (f_tolds : Nat → Int32) (x0 : Int32) (x1 : Int32) (o : Int32) (hf : mX11_lean x0 x1 f_tolds = some o) :
    MI l yX11_lean wsX11_lean rmX11_lean X [.ref a_this, .int x0, .int x1] [(a_this, .inr (11, [.int i_length, .ref a_text, .ref a_roundMany, .ref a_blowMany, .ref a_blows, .ref a_forwards, .ref a_downs, .ref a_takens, .ref a_homes, .ref a_noises, .ref a_judgeMany, .ref a_judges, .ref a_delays, .ref a_tolds, .ref a_tens, .int i_keptMany, .int i_place, .ref a_told, .ref a_ways, .ref a_nextWays, .ref a_tallies, .ref a_presses, .ref a_values, .ref a_nextValues])), (a_tolds, .inl (X.2.1 0, 432, .inl f_tolds))]  [(a_this, .inr (11, [.int i_length, .ref a_text, .ref a_roundMany, .ref a_blowMany, .ref a_blows, .ref a_forwards, .ref a_downs, .ref a_takens, .ref a_homes, .ref a_noises, .ref a_judgeMany, .ref a_judges, .ref a_delays, .ref a_tolds, .ref a_tens, .int i_keptMany, .int i_place, .ref a_told, .ref a_ways, .ref a_nextWays, .ref a_tallies, .ref a_presses, .ref a_values, .ref a_nextValues])), (a_tolds, .inl (X.2.1 0, 432, .inl f_tolds))] o := by
  refine MI_ofH (cc := cX11_lean) (maxL := 9) (rt := .int) (by decide) rfl (Nat.le_of_ble_eq_true rfl) ?_
  intro p e s m below meth c A Q H ls hx hb hml hts hown hA hD hG hP hS hl ret
  have hown : s.vm.findClass RX11 = some m.cls := hown
  have hD : aD A [a_this, a_tolds] := hD
  have hl : lv_has ls 9 [(0, .ref a_this), (1, .int x0), (2, .int x1)] := hl
  have w1 := hts (.constant RX11 155 (-100001)) (List.mem_of_getElem? (i := 1) rfl)
  have hL44 : ∀ (k28 : Int32 → Int32 → Int32 → Option (Int32)) (hk28 : ∀ (l3 : Int32) (l4 : Int32) (l5 : Int32)  (H : Heap) (locs : List Loc) (ls : Array Slot), va_P X.1 vwCl [(a_this, .inr (11, [.int i_length, .ref a_text, .ref a_roundMany, .ref a_blowMany, .ref a_blows, .ref a_forwards, .ref a_downs, .ref a_takens, .ref a_homes, .ref a_noises, .ref a_judgeMany, .ref a_judges, .ref a_delays, .ref a_tolds, .ref a_tens, .int i_keptMany, .int i_place, .ref a_told, .ref a_ways, .ref a_nextWays, .ref a_tallies, .ref a_presses, .ref a_values, .ref a_nextValues])), (a_tolds, .inl (X.2.1 0, 432, .inl f_tolds))] H → va_S A s.heap H locs → lv_has ls 9 [(0, .ref a_this), (1, .int x0), (2, .int x1), (3, .int l3), (4, .int l4), (5, .int l5)] → k28 l3 l4 l5 = some o → W p l e rmX11_lean s m ([.ref a_this, .int x0, .int x1] : List Value).toArray below meth c H locs 0 0 Q (F0 m 28 ls [])) (n : Nat) (l3 : Int32) (l4 : Int32) (l5 : Int32) (l6 : Int32) (l7 : Int32) (l8 : Int32)  (H : Heap) (locs : List Loc) (ls : Array Slot), va_P X.1 vwCl [(a_this, .inr (11, [.int i_length, .ref a_text, .ref a_roundMany, .ref a_blowMany, .ref a_blows, .ref a_forwards, .ref a_downs, .ref a_takens, .ref a_homes, .ref a_noises, .ref a_judgeMany, .ref a_judges, .ref a_delays, .ref a_tolds, .ref a_tens, .int i_keptMany, .int i_place, .ref a_told, .ref a_ways, .ref a_nextWays, .ref a_tallies, .ref a_presses, .ref a_values, .ref a_nextValues])), (a_tolds, .inl (X.2.1 0, 432, .inl f_tolds))] H → va_S A s.heap H locs → lv_has ls 9 [(0, .ref a_this), (1, .int x0), (2, .int x1), (3, .int l3), (4, .int l4), (5, .int l5), (6, .int l6), (7, .int l7), (8, .int l8)] → mX11_lean_L44 x0 x1 f_tolds k28 n l3 l4 l5 l6 l7 l8 = some o → W p l e rmX11_lean s m ([.ref a_this, .int x0, .int x1] : List Value).toArray below meth c H locs 0 0 Q (F0 m 44 ls []) := by
    intro k28 hk28 n
    induction n with
    | zero => intro l3 l4 l5 l6 l7 l8  H locs ls hP hS hl hf; exact xn hf
    | succ n ih =>
      intro l3 l4 l5 l6 l7 l8  H locs ls hP hS hl hf
      have hf : mX11_lean_B44 x0 x1 f_tolds k28 (mX11_lean_L44 x0 x1 f_tolds k28 n) l3 l4 l5 l6 l7 l8 = some o := hf
      generalize mX11_lean_L44 x0 x1 f_tolds k28 n = k44 at ih hf
      unfold mX11_lean_B44 at hf
      refine lv_iload hx hb dX11_lean_44 (lv_at hl 8 rfl) ?_
      refine lv_bipush (v := (6 : Int32)) hx hb dX11_lean_46 (by decide) ?_
      refine lv_icmp_ge (tgt := 92) hx hb dX11_lean_48 (by decide) (fun c9 => ?_) (fun c9 => ?_)
      · have hf := xt hf c9
        refine lv_aload_n hx hb dX11_lean_92 rfl (lv_at hl 0 rfl) ?_
        refine lv_iload_n hx hb dX11_lean_93 rfl (lv_at hl 1 rfl) ?_
        refine lv_iload hx hb dX11_lean_94 (lv_at hl 5 rfl) ?_
        obtain ⟨o10, ho10, hf⟩ := ob_s hf
        refine xV_i (As := [.int x0, .int l5]) (b := a_this) (rest := []) (ws2 := [(a_this, .inr (11, [.int i_length, .ref a_text, .ref a_roundMany, .ref a_blowMany, .ref a_blows, .ref a_forwards, .ref a_downs, .ref a_takens, .ref a_homes, .ref a_noises, .ref a_judgeMany, .ref a_judges, .ref a_delays, .ref a_tolds, .ref a_tens, .int i_keptMany, .int i_place, .ref a_told, .ref a_ways, .ref a_nextWays, .ref a_tallies, .ref a_presses, .ref a_values, .ref a_nextValues])), (a_tolds, .inl (X.2.1 0, 432, .inl f_tolds))]) hx hb hml hts hown hG hA hP hD rfl hS hl.1 (qX11_toldOf l X a_this a_tolds a_text a_roundMany a_blowMany a_blows a_forwards a_downs a_takens a_homes a_noises a_judgeMany a_judges a_delays a_tens a_told a_ways a_nextWays a_tallies a_presses a_values a_nextValues i_length i_keptMany i_place f_tolds x0 l5 o10 ho10) (cwV (y := yX11_toldOf) 2 hts gX11_lean_X11_toldOf rfl rfl rfl hdvX11_toldOf ⟨Nat.le_of_ble_eq_true rfl, Nat.le_of_ble_eq_true rfl⟩) [0, 1] [] [0, 1] rfl rfl rfl rfl rfl rfl rfl (ci := 11) rfl 0 rfl rfl rfl (Nat.le_of_ble_eq_true rfl) ⟨Nat.le_of_ble_eq_true rfl, Nat.le_of_ble_eq_true rfl⟩ dX11_lean_96 (fun H locs hP _ hS => ?_)
        refine lv_bipush (v := (-21 : Int32)) hx hb dX11_lean_99 (by decide) ?_
        refine lv_icmp_le (tgt := 128) hx hb dX11_lean_101 (by decide) (fun c12 => ?_) (fun c12 => ?_)
        · have hf := xt hf c12
          obtain ⟨v13, ev13, hf⟩ := lb_g hf
          refine lv_iinc (v := v13) (lv' := [(5, .int v13), (0, .ref a_this), (1, .int x0), (2, .int x1), (3, .int l3), (4, .int l4), (6, .int l6), (7, .int l7), (8, .int l8)]) hx hb dX11_lean_128 hl (k := 5) rfl ev13.symm (by decide) rfl (fun ls hl => ?_)
          refine lv_goto (tgt := 28) hx hb dX11_lean_131 (by decide) ?_
          exact hk28 l3 l4 v13  H _ ls hP  hS (lv_sub hl [1, 2, 3, 4, 5, 0] rfl) hf
        · have hf := xf hf c12
          refine lv_iload hx hb dX11_lean_104 (lv_at hl 7 rfl) ?_
          refine lv_if_le (tgt := 128) hx hb dX11_lean_106 (by decide) (fun c14 => ?_) (fun c14 => ?_)
          · have hf := xt hf c14
            obtain ⟨v15, ev15, hf⟩ := lb_g hf
            refine lv_iinc (v := v15) (lv' := [(5, .int v15), (0, .ref a_this), (1, .int x0), (2, .int x1), (3, .int l3), (4, .int l4), (6, .int l6), (7, .int l7), (8, .int l8)]) hx hb dX11_lean_128 hl (k := 5) rfl ev15.symm (by decide) rfl (fun ls hl => ?_)
            refine lv_goto (tgt := 28) hx hb dX11_lean_131 (by decide) ?_
            exact hk28 l3 l4 v15  H _ ls hP  hS (lv_sub hl [1, 2, 3, 4, 5, 0] rfl) hf
          · have hf := xf hf c14
            refine lv_iload_n hx hb dX11_lean_109 rfl (lv_at hl 3 rfl) ?_
            refine lv_aload_n hx hb dX11_lean_110 rfl (lv_at hl 0 rfl) ?_
            refine lv_iload_n hx hb dX11_lean_111 rfl (lv_at hl 1 rfl) ?_
            refine lv_iload hx hb dX11_lean_112 (lv_at hl 5 rfl) ?_
            obtain ⟨o16, ho16, hf⟩ := ob_s hf
            refine xV_i (As := [.int x0, .int l5]) (b := a_this) (rest := [.int l3]) (ws2 := [(a_this, .inr (11, [.int i_length, .ref a_text, .ref a_roundMany, .ref a_blowMany, .ref a_blows, .ref a_forwards, .ref a_downs, .ref a_takens, .ref a_homes, .ref a_noises, .ref a_judgeMany, .ref a_judges, .ref a_delays, .ref a_tolds, .ref a_tens, .int i_keptMany, .int i_place, .ref a_told, .ref a_ways, .ref a_nextWays, .ref a_tallies, .ref a_presses, .ref a_values, .ref a_nextValues])), (a_tolds, .inl (X.2.1 0, 432, .inl f_tolds))]) hx hb hml hts hown hG hA hP hD rfl hS hl.1 (qX11_toldOf l X a_this a_tolds a_text a_roundMany a_blowMany a_blows a_forwards a_downs a_takens a_homes a_noises a_judgeMany a_judges a_delays a_tens a_told a_ways a_nextWays a_tallies a_presses a_values a_nextValues i_length i_keptMany i_place f_tolds x0 l5 o16 ho16) (cwV (y := yX11_toldOf) 2 hts gX11_lean_X11_toldOf rfl rfl rfl hdvX11_toldOf ⟨Nat.le_of_ble_eq_true rfl, Nat.le_of_ble_eq_true rfl⟩) [0, 1] [] [0, 1] rfl rfl rfl rfl rfl rfl rfl (ci := 11) rfl 0 rfl rfl rfl (Nat.le_of_ble_eq_true rfl) ⟨Nat.le_of_ble_eq_true rfl, Nat.le_of_ble_eq_true rfl⟩ dX11_lean_114 (fun H locs hP _ hS => ?_)
            refine lv_iload hx hb dX11_lean_117 (lv_at hl 6 rfl) ?_
            refine lv_iload hx hb dX11_lean_119 (lv_at hl 7 rfl) ?_
            obtain ⟨h18, hf⟩ := gd_s hf
            refine lv_idiv hx hb dX11_lean_121 h18 ?_
            refine lv_isub hx hb dX11_lean_122 ?_
            refine lv_iadd hx hb dX11_lean_123 ?_
            refine lv_topi (fun v19 ev19 => ?_)
            have hf := lb_s hf ev19
            refine lv_istore_n (lv' := [(3, .int v19), (0, .ref a_this), (1, .int x0), (2, .int x1), (4, .int l4), (5, .int l5), (6, .int l6), (7, .int l7), (8, .int l8)]) hx hb dX11_lean_124 rfl hl (by decide) rfl (fun ls hl => ?_)
            obtain ⟨v20, ev20, hf⟩ := lb_g hf
            refine lv_iinc (v := v20) (lv' := [(4, .int v20), (3, .int v19), (0, .ref a_this), (1, .int x0), (2, .int x1), (5, .int l5), (6, .int l6), (7, .int l7), (8, .int l8)]) hx hb dX11_lean_125 hl (k := 4) rfl ev20.symm (by decide) rfl (fun ls hl => ?_)
            obtain ⟨v21, ev21, hf⟩ := lb_g hf
            refine lv_iinc (v := v21) (lv' := [(5, .int v21), (4, .int v20), (3, .int v19), (0, .ref a_this), (1, .int x0), (2, .int x1), (6, .int l6), (7, .int l7), (8, .int l8)]) hx hb dX11_lean_128 hl (k := 5) rfl ev21.symm (by decide) rfl (fun ls hl => ?_)
            refine lv_goto (tgt := 28) hx hb dX11_lean_131 (by decide) ?_
            exact hk28 v19 v20 v21  H _ ls hP  hS (lv_sub hl [3, 4, 5, 2, 1, 0] rfl) hf
      · have hf := xf hf c9
        refine lv_iload hx hb dX11_lean_51 (lv_at hl 8 rfl) ?_
        refine lv_iload_n hx hb dX11_lean_53 rfl (lv_at hl 1 rfl) ?_
        refine lv_icmp_eq (tgt := 86) hx hb dX11_lean_54 (by decide) (fun c22 => ?_) (fun c22 => ?_)
        · have hf := xt hf c22
          obtain ⟨v23, ev23, hf⟩ := lb_g hf
          refine lv_iinc (v := v23) (lv' := [(8, .int v23), (0, .ref a_this), (1, .int x0), (2, .int x1), (3, .int l3), (4, .int l4), (5, .int l5), (6, .int l6), (7, .int l7)]) hx hb dX11_lean_86 hl (k := 8) rfl ev23.symm (by decide) rfl (fun ls hl => ?_)
          refine lv_goto (tgt := 44) hx hb dX11_lean_89 (by decide) ?_
          exact ih l3 l4 l5 l6 l7 v23  H _ ls hP  hS (lv_sub hl [1, 2, 3, 4, 5, 6, 7, 8, 0] rfl) hf
        · have hf := xf hf c22
          refine lv_aload_n hx hb dX11_lean_57 rfl (lv_at hl 0 rfl) ?_
          refine lv_iload hx hb dX11_lean_58 (lv_at hl 8 rfl) ?_
          refine lv_iload hx hb dX11_lean_60 (lv_at hl 5 rfl) ?_
          obtain ⟨o24, ho24, hf⟩ := ob_s hf
          refine xV_i (As := [.int l8, .int l5]) (b := a_this) (rest := []) (ws2 := [(a_this, .inr (11, [.int i_length, .ref a_text, .ref a_roundMany, .ref a_blowMany, .ref a_blows, .ref a_forwards, .ref a_downs, .ref a_takens, .ref a_homes, .ref a_noises, .ref a_judgeMany, .ref a_judges, .ref a_delays, .ref a_tolds, .ref a_tens, .int i_keptMany, .int i_place, .ref a_told, .ref a_ways, .ref a_nextWays, .ref a_tallies, .ref a_presses, .ref a_values, .ref a_nextValues])), (a_tolds, .inl (X.2.1 0, 432, .inl f_tolds))]) hx hb hml hts hown hG hA hP hD rfl hS hl.1 (qX11_toldOf l X a_this a_tolds a_text a_roundMany a_blowMany a_blows a_forwards a_downs a_takens a_homes a_noises a_judgeMany a_judges a_delays a_tens a_told a_ways a_nextWays a_tallies a_presses a_values a_nextValues i_length i_keptMany i_place f_tolds l8 l5 o24 ho24) (cwV (y := yX11_toldOf) 2 hts gX11_lean_X11_toldOf rfl rfl rfl hdvX11_toldOf ⟨Nat.le_of_ble_eq_true rfl, Nat.le_of_ble_eq_true rfl⟩) [0, 1] [] [0, 1] rfl rfl rfl rfl rfl rfl rfl (ci := 11) rfl 0 rfl rfl rfl (Nat.le_of_ble_eq_true rfl) ⟨Nat.le_of_ble_eq_true rfl, Nat.le_of_ble_eq_true rfl⟩ dX11_lean_62 (fun H locs hP _ hS => ?_)
          refine lv_bipush (v := (-21 : Int32)) hx hb dX11_lean_65 (by decide) ?_
          refine lv_icmp_le (tgt := 86) hx hb dX11_lean_67 (by decide) (fun c26 => ?_) (fun c26 => ?_)
          · have hf := xt hf c26
            obtain ⟨v27, ev27, hf⟩ := lb_g hf
            refine lv_iinc (v := v27) (lv' := [(8, .int v27), (0, .ref a_this), (1, .int x0), (2, .int x1), (3, .int l3), (4, .int l4), (5, .int l5), (6, .int l6), (7, .int l7)]) hx hb dX11_lean_86 hl (k := 8) rfl ev27.symm (by decide) rfl (fun ls hl => ?_)
            refine lv_goto (tgt := 44) hx hb dX11_lean_89 (by decide) ?_
            exact ih l3 l4 l5 l6 l7 v27  H _ ls hP  hS (lv_sub hl [1, 2, 3, 4, 5, 6, 7, 8, 0] rfl) hf
          · have hf := xf hf c26
            refine lv_iload hx hb dX11_lean_70 (lv_at hl 6 rfl) ?_
            refine lv_aload_n hx hb dX11_lean_72 rfl (lv_at hl 0 rfl) ?_
            refine lv_iload hx hb dX11_lean_73 (lv_at hl 8 rfl) ?_
            refine lv_iload hx hb dX11_lean_75 (lv_at hl 5 rfl) ?_
            obtain ⟨o28, ho28, hf⟩ := ob_s hf
            refine xV_i (As := [.int l8, .int l5]) (b := a_this) (rest := [.int l6]) (ws2 := [(a_this, .inr (11, [.int i_length, .ref a_text, .ref a_roundMany, .ref a_blowMany, .ref a_blows, .ref a_forwards, .ref a_downs, .ref a_takens, .ref a_homes, .ref a_noises, .ref a_judgeMany, .ref a_judges, .ref a_delays, .ref a_tolds, .ref a_tens, .int i_keptMany, .int i_place, .ref a_told, .ref a_ways, .ref a_nextWays, .ref a_tallies, .ref a_presses, .ref a_values, .ref a_nextValues])), (a_tolds, .inl (X.2.1 0, 432, .inl f_tolds))]) hx hb hml hts hown hG hA hP hD rfl hS hl.1 (qX11_toldOf l X a_this a_tolds a_text a_roundMany a_blowMany a_blows a_forwards a_downs a_takens a_homes a_noises a_judgeMany a_judges a_delays a_tens a_told a_ways a_nextWays a_tallies a_presses a_values a_nextValues i_length i_keptMany i_place f_tolds l8 l5 o28 ho28) (cwV (y := yX11_toldOf) 2 hts gX11_lean_X11_toldOf rfl rfl rfl hdvX11_toldOf ⟨Nat.le_of_ble_eq_true rfl, Nat.le_of_ble_eq_true rfl⟩) [0, 1] [] [0, 1] rfl rfl rfl rfl rfl rfl rfl (ci := 11) rfl 0 rfl rfl rfl (Nat.le_of_ble_eq_true rfl) ⟨Nat.le_of_ble_eq_true rfl, Nat.le_of_ble_eq_true rfl⟩ dX11_lean_77 (fun H locs hP _ hS => ?_)
            refine lv_iadd hx hb dX11_lean_80 ?_
            refine lv_topi (fun v30 ev30 => ?_)
            have hf := lb_s hf ev30
            refine lv_istore (lv' := [(6, .int v30), (0, .ref a_this), (1, .int x0), (2, .int x1), (3, .int l3), (4, .int l4), (5, .int l5), (7, .int l7), (8, .int l8)]) hx hb dX11_lean_81 hl (by decide) rfl (fun ls hl => ?_)
            obtain ⟨v31, ev31, hf⟩ := lb_g hf
            refine lv_iinc (v := v31) (lv' := [(7, .int v31), (6, .int v30), (0, .ref a_this), (1, .int x0), (2, .int x1), (3, .int l3), (4, .int l4), (5, .int l5), (8, .int l8)]) hx hb dX11_lean_83 hl (k := 7) rfl ev31.symm (by decide) rfl (fun ls hl => ?_)
            obtain ⟨v32, ev32, hf⟩ := lb_g hf
            refine lv_iinc (v := v32) (lv' := [(8, .int v32), (7, .int v31), (6, .int v30), (0, .ref a_this), (1, .int x0), (2, .int x1), (3, .int l3), (4, .int l4), (5, .int l5)]) hx hb dX11_lean_86 hl (k := 8) rfl ev32.symm (by decide) rfl (fun ls hl => ?_)
            refine lv_goto (tgt := 44) hx hb dX11_lean_89 (by decide) ?_
            exact ih l3 l4 l5 v30 v31 v32  H _ ls hP  hS (lv_sub hl [3, 4, 5, 6, 7, 8, 2, 1, 0] rfl) hf
  have hL28 : ∀ (n : Nat) (l3 : Int32) (l4 : Int32) (l5 : Int32)  (H : Heap) (locs : List Loc) (ls : Array Slot), va_P X.1 vwCl [(a_this, .inr (11, [.int i_length, .ref a_text, .ref a_roundMany, .ref a_blowMany, .ref a_blows, .ref a_forwards, .ref a_downs, .ref a_takens, .ref a_homes, .ref a_noises, .ref a_judgeMany, .ref a_judges, .ref a_delays, .ref a_tolds, .ref a_tens, .int i_keptMany, .int i_place, .ref a_told, .ref a_ways, .ref a_nextWays, .ref a_tallies, .ref a_presses, .ref a_values, .ref a_nextValues])), (a_tolds, .inl (X.2.1 0, 432, .inl f_tolds))] H → va_S A s.heap H locs → lv_has ls 9 [(0, .ref a_this), (1, .int x0), (2, .int x1), (3, .int l3), (4, .int l4), (5, .int l5)] → mX11_lean_L28 x0 x1 f_tolds  n l3 l4 l5 = some o → W p l e rmX11_lean s m ([.ref a_this, .int x0, .int x1] : List Value).toArray below meth c H locs 0 0 Q (F0 m 28 ls []) := by
    intro n
    induction n with
    | zero => intro l3 l4 l5  H locs ls hP hS hl hf; exact xn hf
    | succ n ih =>
      intro l3 l4 l5  H locs ls hP hS hl hf
      have hf : mX11_lean_B28 x0 x1 f_tolds  (mX11_lean_L28 x0 x1 f_tolds  n) l3 l4 l5 = some o := hf
      generalize mX11_lean_L28 x0 x1 f_tolds  n = k28 at ih hf
      unfold mX11_lean_B28 at hf
      refine lv_iload hx hb dX11_lean_28 (lv_at hl 5 rfl) ?_
      refine lv_bipush (v := (24 : Int32)) hx hb dX11_lean_30 (by decide) ?_
      refine lv_icmp_ge (tgt := 134) hx hb dX11_lean_32 (by decide) (fun c7 => ?_) (fun c7 => ?_)
      · have hf := xt hf c7
        refine lv_iload_n hx hb dX11_lean_134 rfl (lv_at hl 2 rfl) ?_
        refine lv_if_ne (tgt := 142) hx hb dX11_lean_135 (by decide) (fun c8 => ?_) (fun c8 => ?_)
        · have hf := xf hf c8
          refine lv_iload hx hb dX11_lean_142 (lv_at hl 4 rfl) ?_
          obtain rfl := Option.some.inj hf
          exact ret H _ ls _ rfl hP hD hS dX11_lean_144
        · have hf := xt hf c8
          refine lv_iload_n hx hb dX11_lean_138 rfl (lv_at hl 3 rfl) ?_
          refine lv_goto (tgt := 144) hx hb dX11_lean_139 (by decide) ?_
          obtain rfl := Option.some.inj hf
          exact ret H _ ls _ rfl hP hD hS dX11_lean_144
      · have hf := xf hf c7
        refine lv_iconst (v := (0 : Int32)) hx hb dX11_lean_35 (by decide) ?_
        refine lv_istore (lv' := [(6, .int (0 : Int32)), (0, .ref a_this), (1, .int x0), (2, .int x1), (3, .int l3), (4, .int l4), (5, .int l5)]) hx hb dX11_lean_36 hl (by decide) rfl (fun ls hl => ?_)
        refine lv_iconst (v := (0 : Int32)) hx hb dX11_lean_38 (by decide) ?_
        refine lv_istore (lv' := [(7, .int (0 : Int32)), (6, .int (0 : Int32)), (0, .ref a_this), (1, .int x0), (2, .int x1), (3, .int l3), (4, .int l4), (5, .int l5)]) hx hb dX11_lean_39 hl (by decide) rfl (fun ls hl => ?_)
        refine lv_iconst (v := (0 : Int32)) hx hb dX11_lean_41 (by decide) ?_
        refine lv_istore (lv' := [(8, .int (0 : Int32)), (7, .int (0 : Int32)), (6, .int (0 : Int32)), (0, .ref a_this), (1, .int x0), (2, .int x1), (3, .int l3), (4, .int l4), (5, .int l5)]) hx hb dX11_lean_42 hl (by decide) rfl (fun ls hl => ?_)
        exact hL44 k28 ih FUEL l3 l4 l5 (0 : Int32) (0 : Int32) (0 : Int32)  H _ ls hP  hS (lv_sub hl [3, 4, 5, 6, 7, 8, 2, 1, 0] rfl) hf
  unfold mX11_lean at hf
  refine lv_iload_n hx hb dX11_lean_0 rfl (lv_at hl 1 rfl) ?_
  obtain ⟨o1, ho1, hf⟩ := ob_s hf
  refine xS_i (As := [.int x0]) (rest := []) (ws2 := [(a_this, .inr (11, [.int i_length, .ref a_text, .ref a_roundMany, .ref a_blowMany, .ref a_blows, .ref a_forwards, .ref a_downs, .ref a_takens, .ref a_homes, .ref a_noises, .ref a_judgeMany, .ref a_judges, .ref a_delays, .ref a_tolds, .ref a_tens, .int i_keptMany, .int i_place, .ref a_told, .ref a_ways, .ref a_nextWays, .ref a_tallies, .ref a_presses, .ref a_values, .ref a_nextValues])), (a_tolds, .inl (X.2.1 0, 432, .inl f_tolds))]) hx hb hml hts hown hG hA hP hD rfl hS hl.1 (qX11_isName l X x0 o1 ho1) (va_cwS (y := yX11_isName) 1 hts gX11_lean_X11_isName rfl rfl rfl hdsX11_isName ⟨Nat.le_of_ble_eq_true rfl, Nat.le_of_ble_eq_true rfl⟩) [] [0, 1] [0, 1] rfl rfl rfl rfl rfl rfl rfl rfl rfl (Nat.le_of_ble_eq_true rfl) ⟨Nat.le_of_ble_eq_true rfl, Nat.le_of_ble_eq_true rfl⟩ dX11_lean_1 (fun H locs hP _ hS => ?_)
  refine lv_if_eq (tgt := 17) hx hb dX11_lean_4 (by decide) (fun c3 => ?_) (fun c3 => ?_)
  · have hf := xt hf c3
    refine lv_ldc (v := (-100001 : Int32)) hx hb hown w1 dX11_lean_17 ?_
    obtain rfl := Option.some.inj hf
    exact ret H _ ls _ rfl hP hD hS dX11_lean_19
  · have hf := xf hf c3
    refine lv_iload_n hx hb dX11_lean_7 rfl (lv_at hl 2 rfl) ?_
    refine lv_i2l hx hb dX11_lean_8 rfl ?_
    refine lv_lconst (v := (0 : Int64)) hx hb dX11_lean_9 rfl ?_
    refine lv_lconst (v := (1 : Int64)) hx hb dX11_lean_10 rfl ?_
    obtain ⟨o4, ho4, hf⟩ := ob_s hf
    refine xS_i (As := [.long (Int32.toInt64 x1), .long (0 : Int64), .long (1 : Int64)]) (rest := []) (ws2 := [(a_this, .inr (11, [.int i_length, .ref a_text, .ref a_roundMany, .ref a_blowMany, .ref a_blows, .ref a_forwards, .ref a_downs, .ref a_takens, .ref a_homes, .ref a_noises, .ref a_judgeMany, .ref a_judges, .ref a_delays, .ref a_tolds, .ref a_tens, .int i_keptMany, .int i_place, .ref a_told, .ref a_ways, .ref a_nextWays, .ref a_tallies, .ref a_presses, .ref a_values, .ref a_nextValues])), (a_tolds, .inl (X.2.1 0, 432, .inl f_tolds))]) hx hb hml hts hown hG hA hP hD rfl hS hl.1 (qX11_in l X (Int32.toInt64 x1) (0 : Int64) (1 : Int64) o4 ho4) (va_cwS (y := yX11_in) 3 hts gX11_lean_X11_in rfl rfl rfl hdsX11_in ⟨Nat.le_of_ble_eq_true rfl, Nat.le_of_ble_eq_true rfl⟩) [] [0, 1] [0, 1] rfl rfl rfl rfl rfl rfl rfl rfl rfl (Nat.le_of_ble_eq_true rfl) ⟨Nat.le_of_ble_eq_true rfl, Nat.le_of_ble_eq_true rfl⟩ dX11_lean_11 (fun H locs hP _ hS => ?_)
    refine lv_if_ne (tgt := 20) hx hb dX11_lean_14 (by decide) (fun c6 => ?_) (fun c6 => ?_)
    · have hf := xf hf c6
      refine lv_iconst (v := (0 : Int32)) hx hb dX11_lean_20 (by decide) ?_
      refine lv_istore_n (lv' := [(3, .int (0 : Int32)), (0, .ref a_this), (1, .int x0), (2, .int x1)]) hx hb dX11_lean_21 rfl hl (by decide) rfl (fun ls hl => ?_)
      refine lv_iconst (v := (0 : Int32)) hx hb dX11_lean_22 (by decide) ?_
      refine lv_istore (lv' := [(4, .int (0 : Int32)), (3, .int (0 : Int32)), (0, .ref a_this), (1, .int x0), (2, .int x1)]) hx hb dX11_lean_23 hl (by decide) rfl (fun ls hl => ?_)
      refine lv_iconst (v := (0 : Int32)) hx hb dX11_lean_25 (by decide) ?_
      refine lv_istore (lv' := [(5, .int (0 : Int32)), (4, .int (0 : Int32)), (3, .int (0 : Int32)), (0, .ref a_this), (1, .int x0), (2, .int x1)]) hx hb dX11_lean_26 hl (by decide) rfl (fun ls hl => ?_)
      exact hL28  FUEL (0 : Int32) (0 : Int32) (0 : Int32)  H _ ls hP  hS (lv_sub hl [3, 4, 5, 2, 1, 0] rfl) hf
    · have hf := xt hf c6
      refine lv_ldc (v := (-100001 : Int32)) hx hb hown w1 dX11_lean_17 ?_
      obtain rfl := Option.some.inj hf
      exact ret H _ ls _ rfl hP hD hS dX11_lean_19
def mX11_middle_B72 (x0 : Int32) (x1 : Int32) (f_tolds : Nat → Int32) (k59 : Int32 → Int32 → Int32 → Option (Int32)) (k72 : Int32 → Int32 → Int32 → Int32 → Option (Int32)) (l3 : Int32) (l4 : Int32) (l5 : Int32) (l6 : Int32) :
  Option (Int32) :=
  if (6 : Int32) ≤ l6 then (lb (l4 + (1 : Int32)) fun v16 =>
  k59 l3 v16 l5) else (if l6 = x0 then (lb (l5 + (0 : Int32)) fun v18 =>
  lb (l6 + (1 : Int32)) fun v19 =>
  k72 l3 l4 v18 v19) else ((mX11_toldOf l6 x1 f_tolds).bind fun o20 =>
  if o20 = l4 then (lb (l5 + (1 : Int32)) fun v25 =>
  lb (l6 + (1 : Int32)) fun v26 =>
  k72 l3 l4 v25 v26) else (lb (l5 + (0 : Int32)) fun v23 =>
  lb (l6 + (1 : Int32)) fun v24 =>
  k72 l3 l4 v23 v24)))
def mX11_middle_L72 (x0 : Int32) (x1 : Int32) (f_tolds : Nat → Int32) (k59 : Int32 → Int32 → Int32 → Option (Int32)) (n : Nat) (l3 : Int32) (l4 : Int32) (l5 : Int32) (l6 : Int32) :
  Option (Int32) :=
  loopN (fun k (s : Int32 × Int32 × Int32 × Int32) => mX11_middle_B72 x0 x1 f_tolds k59 (fun l3 l4 l5 l6 => k (l3, l4, l5, l6)) s.1 s.2.1 s.2.2.1 s.2.2.2) n (l3, l4, l5, l6)
def mX11_middle_B59 (x0 : Int32) (x1 : Int32) (f_tolds : Nat → Int32) (k59 : Int32 → Int32 → Int32 → Option (Int32)) (l3 : Int32) (l4 : Int32) (l5 : Int32) :
  Option (Int32) :=
  if ((l3 - (1 : Int32)) / (2 : Int32)) < l5 then (lb (l4 - (1 : Int32)) fun v14 =>
  some v14) else (mX11_middle_L72 x0 x1 f_tolds k59 FUEL l3 l4 l5 (0 : Int32))
def mX11_middle_L59 (x0 : Int32) (x1 : Int32) (f_tolds : Nat → Int32) (n : Nat) (l3 : Int32) (l4 : Int32) (l5 : Int32) :
  Option (Int32) :=
  loopN (fun k (s : Int32 × Int32 × Int32) => mX11_middle_B59 x0 x1 f_tolds  (fun l3 l4 l5 => k (l3, l4, l5)) s.1 s.2.1 s.2.2) n (l3, l4, l5)
def mX11_middle_B5 (x0 : Int32) (x1 : Int32) (f_tolds : Nat → Int32) (k5 : Int32 → Int32 → Option (Int32)) (l3 : Int32) (l4 : Int32) :
  Option (Int32) :=
  if (6 : Int32) ≤ l4 then (if (2 : Int32) ≤ l3 then (mX11_middle_L59 x0 x1 f_tolds  FUEL l3 (-20 : Int32) (0 : Int32)) else (some (-21 : Int32))) else (if l4 = x0 then (lb (l3 + (0 : Int32)) fun v4 =>
  lb (l4 + (1 : Int32)) fun v5 =>
  k5 v4 v5) else ((mX11_toldOf l4 x1 f_tolds).bind fun o6 =>
  if o6 ≤ (-21 : Int32) then (lb (l3 + (0 : Int32)) fun v9 =>
  lb (l4 + (1 : Int32)) fun v10 =>
  k5 v9 v10) else (lb (l3 + (1 : Int32)) fun v11 =>
  lb (l4 + (1 : Int32)) fun v12 =>
  k5 v11 v12)))
def mX11_middle_L5 (x0 : Int32) (x1 : Int32) (f_tolds : Nat → Int32) (n : Nat) (l3 : Int32) (l4 : Int32) :
  Option (Int32) :=
  loopN (fun k (s : Int32 × Int32) => mX11_middle_B5 x0 x1 f_tolds  (fun l3 l4 => k (l3, l4)) s.1 s.2) n (l3, l4)
def mX11_middle (x0 : Int32) (x1 : Int32) (f_tolds : Nat → Int32) :
  Option (Int32) :=
  mX11_middle_L5 x0 x1 f_tolds  FUEL (0 : Int32) (0 : Int32)
theorem hdsX11_middle : yX11_middle.cls ≠ "java/lang/invoke/MethodHandle" ∧ yX11_middle.cls ≠ "java/lang/invoke/VarHandle" ∧ (parseMethodDescriptor yX11_middle.desc).map (fun d => d.parameters.length) = some 2 := by decide +kernel
theorem hdvX11_middle : yX11_middle.cls = RX11 ∧ yX11_middle.cls ≠ "java/lang/invoke/MethodHandle" ∧ yX11_middle.cls ≠ "java/lang/invoke/VarHandle" ∧ (parseMethodDescriptor yX11_middle.desc).map (fun d => d.parameters.length) = some 2 := by decide +kernel
abbrev rmX11_middle : Room := { frames := 1, cells := 0, slots := 0, locals := 22 }
set_option maxHeartbeats 4000000 in
set_option maxRecDepth 100000 in
theorem qX11_middle (l : Launch) (X : XT) (a_this : Nat) (a_tolds : Nat) (a_text : Nat) (a_roundMany : Nat) (a_blowMany : Nat) (a_blows : Nat) (a_forwards : Nat) (a_downs : Nat) (a_takens : Nat) (a_homes : Nat) (a_noises : Nat) (a_judgeMany : Nat) (a_judges : Nat) (a_delays : Nat) (a_tens : Nat) (a_told : Nat) (a_ways : Nat) (a_nextWays : Nat) (a_tallies : Nat) (a_presses : Nat) (a_values : Nat) (a_nextValues : Nat)  (i_length : Int32) (i_keptMany : Int32) (i_place : Int32) (f_tolds : Nat → Int32) (x0 : Int32) (x1 : Int32) (o : Int32) (hf : mX11_middle x0 x1 f_tolds = some o) :
    MI l yX11_middle wsX11_middle rmX11_middle X [.ref a_this, .int x0, .int x1] [(a_this, .inr (11, [.int i_length, .ref a_text, .ref a_roundMany, .ref a_blowMany, .ref a_blows, .ref a_forwards, .ref a_downs, .ref a_takens, .ref a_homes, .ref a_noises, .ref a_judgeMany, .ref a_judges, .ref a_delays, .ref a_tolds, .ref a_tens, .int i_keptMany, .int i_place, .ref a_told, .ref a_ways, .ref a_nextWays, .ref a_tallies, .ref a_presses, .ref a_values, .ref a_nextValues])), (a_tolds, .inl (X.2.1 0, 432, .inl f_tolds))]  [(a_this, .inr (11, [.int i_length, .ref a_text, .ref a_roundMany, .ref a_blowMany, .ref a_blows, .ref a_forwards, .ref a_downs, .ref a_takens, .ref a_homes, .ref a_noises, .ref a_judgeMany, .ref a_judges, .ref a_delays, .ref a_tolds, .ref a_tens, .int i_keptMany, .int i_place, .ref a_told, .ref a_ways, .ref a_nextWays, .ref a_tallies, .ref a_presses, .ref a_values, .ref a_nextValues])), (a_tolds, .inl (X.2.1 0, 432, .inl f_tolds))] o := by
  refine MI_ofH (cc := cX11_middle) (maxL := 7) (rt := .int) (by decide) rfl (Nat.le_of_ble_eq_true rfl) ?_
  intro p e s m below meth c A Q H ls hx hb hml hts hown hA hD hG hP hS hl ret
  have hown : s.vm.findClass RX11 = some m.cls := hown
  have hD : aD A [a_this, a_tolds] := hD
  have hl : lv_has ls 7 [(0, .ref a_this), (1, .int x0), (2, .int x1)] := hl
  have hL72 : ∀ (k59 : Int32 → Int32 → Int32 → Option (Int32)) (hk59 : ∀ (l3 : Int32) (l4 : Int32) (l5 : Int32)  (H : Heap) (locs : List Loc) (ls : Array Slot), va_P X.1 vwCl [(a_this, .inr (11, [.int i_length, .ref a_text, .ref a_roundMany, .ref a_blowMany, .ref a_blows, .ref a_forwards, .ref a_downs, .ref a_takens, .ref a_homes, .ref a_noises, .ref a_judgeMany, .ref a_judges, .ref a_delays, .ref a_tolds, .ref a_tens, .int i_keptMany, .int i_place, .ref a_told, .ref a_ways, .ref a_nextWays, .ref a_tallies, .ref a_presses, .ref a_values, .ref a_nextValues])), (a_tolds, .inl (X.2.1 0, 432, .inl f_tolds))] H → va_S A s.heap H locs → lv_has ls 7 [(0, .ref a_this), (1, .int x0), (2, .int x1), (3, .int l3), (4, .int l4), (5, .int l5)] → k59 l3 l4 l5 = some o → W p l e rmX11_middle s m ([.ref a_this, .int x0, .int x1] : List Value).toArray below meth c H locs 0 0 Q (F0 m 59 ls [])) (n : Nat) (l3 : Int32) (l4 : Int32) (l5 : Int32) (l6 : Int32)  (H : Heap) (locs : List Loc) (ls : Array Slot), va_P X.1 vwCl [(a_this, .inr (11, [.int i_length, .ref a_text, .ref a_roundMany, .ref a_blowMany, .ref a_blows, .ref a_forwards, .ref a_downs, .ref a_takens, .ref a_homes, .ref a_noises, .ref a_judgeMany, .ref a_judges, .ref a_delays, .ref a_tolds, .ref a_tens, .int i_keptMany, .int i_place, .ref a_told, .ref a_ways, .ref a_nextWays, .ref a_tallies, .ref a_presses, .ref a_values, .ref a_nextValues])), (a_tolds, .inl (X.2.1 0, 432, .inl f_tolds))] H → va_S A s.heap H locs → lv_has ls 7 [(0, .ref a_this), (1, .int x0), (2, .int x1), (3, .int l3), (4, .int l4), (5, .int l5), (6, .int l6)] → mX11_middle_L72 x0 x1 f_tolds k59 n l3 l4 l5 l6 = some o → W p l e rmX11_middle s m ([.ref a_this, .int x0, .int x1] : List Value).toArray below meth c H locs 0 0 Q (F0 m 72 ls []) := by
    intro k59 hk59 n
    induction n with
    | zero => intro l3 l4 l5 l6  H locs ls hP hS hl hf; exact xn hf
    | succ n ih =>
      intro l3 l4 l5 l6  H locs ls hP hS hl hf
      have hf : mX11_middle_B72 x0 x1 f_tolds k59 (mX11_middle_L72 x0 x1 f_tolds k59 n) l3 l4 l5 l6 = some o := hf
      generalize mX11_middle_L72 x0 x1 f_tolds k59 n = k72 at ih hf
      unfold mX11_middle_B72 at hf
      refine lv_iload hx hb dX11_middle_72 (lv_at hl 6 rfl) ?_
      refine lv_bipush (v := (6 : Int32)) hx hb dX11_middle_74 (by decide) ?_
      refine lv_icmp_ge (tgt := 113) hx hb dX11_middle_76 (by decide) (fun c15 => ?_) (fun c15 => ?_)
      · have hf := xt hf c15
        obtain ⟨v16, ev16, hf⟩ := lb_g hf
        refine lv_iinc (v := v16) (lv' := [(4, .int v16), (0, .ref a_this), (1, .int x0), (2, .int x1), (3, .int l3), (5, .int l5), (6, .int l6)]) hx hb dX11_middle_113 hl (k := 4) rfl ev16.symm (by decide) rfl (fun ls hl => ?_)
        refine lv_goto (tgt := 59) hx hb dX11_middle_116 (by decide) ?_
        exact hk59 l3 v16 l5  H _ ls hP  hS (lv_sub hl [1, 2, 3, 4, 0, 5] rfl) hf
      · have hf := xf hf c15
        refine lv_iload hx hb dX11_middle_79 (lv_at hl 5 rfl) ?_
        refine lv_iload hx hb dX11_middle_81 (lv_at hl 6 rfl) ?_
        refine lv_iload_n hx hb dX11_middle_83 rfl (lv_at hl 1 rfl) ?_
        refine lv_icmp_eq (tgt := 103) hx hb dX11_middle_84 (by decide) (fun c17 => ?_) (fun c17 => ?_)
        · have hf := xt hf c17
          refine lv_iconst (v := (0 : Int32)) hx hb dX11_middle_103 (by decide) ?_
          refine lv_iadd hx hb dX11_middle_104 ?_
          refine lv_topi (fun v18 ev18 => ?_)
          have hf := lb_s hf ev18
          refine lv_istore (lv' := [(5, .int v18), (0, .ref a_this), (1, .int x0), (2, .int x1), (3, .int l3), (4, .int l4), (6, .int l6)]) hx hb dX11_middle_105 hl (by decide) rfl (fun ls hl => ?_)
          obtain ⟨v19, ev19, hf⟩ := lb_g hf
          refine lv_iinc (v := v19) (lv' := [(6, .int v19), (5, .int v18), (0, .ref a_this), (1, .int x0), (2, .int x1), (3, .int l3), (4, .int l4)]) hx hb dX11_middle_107 hl (k := 6) rfl ev19.symm (by decide) rfl (fun ls hl => ?_)
          refine lv_goto (tgt := 72) hx hb dX11_middle_110 (by decide) ?_
          exact ih l3 l4 v18 v19  H _ ls hP  hS (lv_sub hl [2, 3, 4, 5, 6, 1, 0] rfl) hf
        · have hf := xf hf c17
          refine lv_aload_n hx hb dX11_middle_87 rfl (lv_at hl 0 rfl) ?_
          refine lv_iload hx hb dX11_middle_88 (lv_at hl 6 rfl) ?_
          refine lv_iload_n hx hb dX11_middle_90 rfl (lv_at hl 2 rfl) ?_
          obtain ⟨o20, ho20, hf⟩ := ob_s hf
          refine xV_i (As := [.int l6, .int x1]) (b := a_this) (rest := [.int l5]) (ws2 := [(a_this, .inr (11, [.int i_length, .ref a_text, .ref a_roundMany, .ref a_blowMany, .ref a_blows, .ref a_forwards, .ref a_downs, .ref a_takens, .ref a_homes, .ref a_noises, .ref a_judgeMany, .ref a_judges, .ref a_delays, .ref a_tolds, .ref a_tens, .int i_keptMany, .int i_place, .ref a_told, .ref a_ways, .ref a_nextWays, .ref a_tallies, .ref a_presses, .ref a_values, .ref a_nextValues])), (a_tolds, .inl (X.2.1 0, 432, .inl f_tolds))]) hx hb hml hts hown hG hA hP hD rfl hS hl.1 (qX11_toldOf l X a_this a_tolds a_text a_roundMany a_blowMany a_blows a_forwards a_downs a_takens a_homes a_noises a_judgeMany a_judges a_delays a_tens a_told a_ways a_nextWays a_tallies a_presses a_values a_nextValues i_length i_keptMany i_place f_tolds l6 x1 o20 ho20) (cwV (y := yX11_toldOf) 2 hts gX11_middle_X11_toldOf rfl rfl rfl hdvX11_toldOf ⟨Nat.le_of_ble_eq_true rfl, Nat.le_of_ble_eq_true rfl⟩) [0, 1] [] [0, 1] rfl rfl rfl rfl rfl rfl rfl (ci := 11) rfl 0 rfl rfl rfl (Nat.le_of_ble_eq_true rfl) ⟨Nat.le_of_ble_eq_true rfl, Nat.le_of_ble_eq_true rfl⟩ dX11_middle_91 (fun H locs hP _ hS => ?_)
          refine lv_iload hx hb dX11_middle_94 (lv_at hl 4 rfl) ?_
          refine lv_icmp_ne (tgt := 103) hx hb dX11_middle_96 (by decide) (fun c22 => ?_) (fun c22 => ?_)
          · have hf := xf hf c22
            refine lv_iconst (v := (0 : Int32)) hx hb dX11_middle_103 (by decide) ?_
            refine lv_iadd hx hb dX11_middle_104 ?_
            refine lv_topi (fun v23 ev23 => ?_)
            have hf := lb_s hf ev23
            refine lv_istore (lv' := [(5, .int v23), (0, .ref a_this), (1, .int x0), (2, .int x1), (3, .int l3), (4, .int l4), (6, .int l6)]) hx hb dX11_middle_105 hl (by decide) rfl (fun ls hl => ?_)
            obtain ⟨v24, ev24, hf⟩ := lb_g hf
            refine lv_iinc (v := v24) (lv' := [(6, .int v24), (5, .int v23), (0, .ref a_this), (1, .int x0), (2, .int x1), (3, .int l3), (4, .int l4)]) hx hb dX11_middle_107 hl (k := 6) rfl ev24.symm (by decide) rfl (fun ls hl => ?_)
            refine lv_goto (tgt := 72) hx hb dX11_middle_110 (by decide) ?_
            exact ih l3 l4 v23 v24  H _ ls hP  hS (lv_sub hl [2, 3, 4, 5, 6, 1, 0] rfl) hf
          · have hf := xt hf c22
            refine lv_iconst (v := (1 : Int32)) hx hb dX11_middle_99 (by decide) ?_
            refine lv_goto (tgt := 104) hx hb dX11_middle_100 (by decide) ?_
            refine lv_iadd hx hb dX11_middle_104 ?_
            refine lv_topi (fun v25 ev25 => ?_)
            have hf := lb_s hf ev25
            refine lv_istore (lv' := [(5, .int v25), (0, .ref a_this), (1, .int x0), (2, .int x1), (3, .int l3), (4, .int l4), (6, .int l6)]) hx hb dX11_middle_105 hl (by decide) rfl (fun ls hl => ?_)
            obtain ⟨v26, ev26, hf⟩ := lb_g hf
            refine lv_iinc (v := v26) (lv' := [(6, .int v26), (5, .int v25), (0, .ref a_this), (1, .int x0), (2, .int x1), (3, .int l3), (4, .int l4)]) hx hb dX11_middle_107 hl (k := 6) rfl ev26.symm (by decide) rfl (fun ls hl => ?_)
            refine lv_goto (tgt := 72) hx hb dX11_middle_110 (by decide) ?_
            exact ih l3 l4 v25 v26  H _ ls hP  hS (lv_sub hl [2, 3, 4, 5, 6, 1, 0] rfl) hf
  have hL59 : ∀ (n : Nat) (l3 : Int32) (l4 : Int32) (l5 : Int32)  (H : Heap) (locs : List Loc) (ls : Array Slot), va_P X.1 vwCl [(a_this, .inr (11, [.int i_length, .ref a_text, .ref a_roundMany, .ref a_blowMany, .ref a_blows, .ref a_forwards, .ref a_downs, .ref a_takens, .ref a_homes, .ref a_noises, .ref a_judgeMany, .ref a_judges, .ref a_delays, .ref a_tolds, .ref a_tens, .int i_keptMany, .int i_place, .ref a_told, .ref a_ways, .ref a_nextWays, .ref a_tallies, .ref a_presses, .ref a_values, .ref a_nextValues])), (a_tolds, .inl (X.2.1 0, 432, .inl f_tolds))] H → va_S A s.heap H locs → lv_has ls 7 [(0, .ref a_this), (1, .int x0), (2, .int x1), (3, .int l3), (4, .int l4), (5, .int l5)] → mX11_middle_L59 x0 x1 f_tolds  n l3 l4 l5 = some o → W p l e rmX11_middle s m ([.ref a_this, .int x0, .int x1] : List Value).toArray below meth c H locs 0 0 Q (F0 m 59 ls []) := by
    intro n
    induction n with
    | zero => intro l3 l4 l5  H locs ls hP hS hl hf; exact xn hf
    | succ n ih =>
      intro l3 l4 l5  H locs ls hP hS hl hf
      have hf : mX11_middle_B59 x0 x1 f_tolds  (mX11_middle_L59 x0 x1 f_tolds  n) l3 l4 l5 = some o := hf
      generalize mX11_middle_L59 x0 x1 f_tolds  n = k59 at ih hf
      unfold mX11_middle_B59 at hf
      refine lv_iload hx hb dX11_middle_59 (lv_at hl 5 rfl) ?_
      refine lv_iload_n hx hb dX11_middle_61 rfl (lv_at hl 3 rfl) ?_
      refine lv_iconst (v := (1 : Int32)) hx hb dX11_middle_62 (by decide) ?_
      refine lv_isub hx hb dX11_middle_63 ?_
      refine lv_iconst (v := (2 : Int32)) hx hb dX11_middle_64 (by decide) ?_
      refine lv_idiv hx hb dX11_middle_65 (by decide) ?_
      refine lv_icmp_gt (tgt := 119) hx hb dX11_middle_66 (by decide) (fun c13 => ?_) (fun c13 => ?_)
      · have hf := xt hf c13
        refine lv_iload hx hb dX11_middle_119 (lv_at hl 4 rfl) ?_
        refine lv_iconst (v := (1 : Int32)) hx hb dX11_middle_121 (by decide) ?_
        refine lv_isub hx hb dX11_middle_122 ?_
        refine lv_topi (fun v14 ev14 => ?_)
        have hf := lb_s hf ev14
        obtain rfl := Option.some.inj hf
        exact ret H _ ls _ rfl hP hD hS dX11_middle_123
      · have hf := xf hf c13
        refine lv_iconst (v := (0 : Int32)) hx hb dX11_middle_69 (by decide) ?_
        refine lv_istore (lv' := [(6, .int (0 : Int32)), (0, .ref a_this), (1, .int x0), (2, .int x1), (3, .int l3), (4, .int l4), (5, .int l5)]) hx hb dX11_middle_70 hl (by decide) rfl (fun ls hl => ?_)
        exact hL72 k59 ih FUEL l3 l4 l5 (0 : Int32)  H _ ls hP  hS (lv_sub hl [1, 2, 3, 4, 5, 6, 0] rfl) hf
  have hL5 : ∀ (n : Nat) (l3 : Int32) (l4 : Int32)  (H : Heap) (locs : List Loc) (ls : Array Slot), va_P X.1 vwCl [(a_this, .inr (11, [.int i_length, .ref a_text, .ref a_roundMany, .ref a_blowMany, .ref a_blows, .ref a_forwards, .ref a_downs, .ref a_takens, .ref a_homes, .ref a_noises, .ref a_judgeMany, .ref a_judges, .ref a_delays, .ref a_tolds, .ref a_tens, .int i_keptMany, .int i_place, .ref a_told, .ref a_ways, .ref a_nextWays, .ref a_tallies, .ref a_presses, .ref a_values, .ref a_nextValues])), (a_tolds, .inl (X.2.1 0, 432, .inl f_tolds))] H → va_S A s.heap H locs → lv_has ls 7 [(0, .ref a_this), (1, .int x0), (2, .int x1), (3, .int l3), (4, .int l4)] → mX11_middle_L5 x0 x1 f_tolds  n l3 l4 = some o → W p l e rmX11_middle s m ([.ref a_this, .int x0, .int x1] : List Value).toArray below meth c H locs 0 0 Q (F0 m 5 ls []) := by
    intro n
    induction n with
    | zero => intro l3 l4  H locs ls hP hS hl hf; exact xn hf
    | succ n ih =>
      intro l3 l4  H locs ls hP hS hl hf
      have hf : mX11_middle_B5 x0 x1 f_tolds  (mX11_middle_L5 x0 x1 f_tolds  n) l3 l4 = some o := hf
      generalize mX11_middle_L5 x0 x1 f_tolds  n = k5 at ih hf
      unfold mX11_middle_B5 at hf
      refine lv_iload hx hb dX11_middle_5 (lv_at hl 4 rfl) ?_
      refine lv_bipush (v := (6 : Int32)) hx hb dX11_middle_7 (by decide) ?_
      refine lv_icmp_ge (tgt := 44) hx hb dX11_middle_9 (by decide) (fun c1 => ?_) (fun c1 => ?_)
      · have hf := xt hf c1
        refine lv_iload_n hx hb dX11_middle_44 rfl (lv_at hl 3 rfl) ?_
        refine lv_iconst (v := (2 : Int32)) hx hb dX11_middle_45 (by decide) ?_
        refine lv_icmp_ge (tgt := 52) hx hb dX11_middle_46 (by decide) (fun c2 => ?_) (fun c2 => ?_)
        · have hf := xt hf c2
          refine lv_bipush (v := (-20 : Int32)) hx hb dX11_middle_52 (by decide) ?_
          refine lv_istore (lv' := [(4, .int (-20 : Int32)), (0, .ref a_this), (1, .int x0), (2, .int x1), (3, .int l3)]) hx hb dX11_middle_54 hl (by decide) rfl (fun ls hl => ?_)
          refine lv_iconst (v := (0 : Int32)) hx hb dX11_middle_56 (by decide) ?_
          refine lv_istore (lv' := [(5, .int (0 : Int32)), (4, .int (-20 : Int32)), (0, .ref a_this), (1, .int x0), (2, .int x1), (3, .int l3)]) hx hb dX11_middle_57 hl (by decide) rfl (fun ls hl => ?_)
          exact hL59  FUEL l3 (-20 : Int32) (0 : Int32)  H _ ls hP  hS (lv_sub hl [2, 3, 4, 5, 1, 0] rfl) hf
        · have hf := xf hf c2
          refine lv_bipush (v := (-21 : Int32)) hx hb dX11_middle_49 (by decide) ?_
          obtain rfl := Option.some.inj hf
          exact ret H _ ls _ rfl hP hD hS dX11_middle_51
      · have hf := xf hf c1
        refine lv_iload_n hx hb dX11_middle_12 rfl (lv_at hl 3 rfl) ?_
        refine lv_iload hx hb dX11_middle_13 (lv_at hl 4 rfl) ?_
        refine lv_iload_n hx hb dX11_middle_15 rfl (lv_at hl 1 rfl) ?_
        refine lv_icmp_eq (tgt := 35) hx hb dX11_middle_16 (by decide) (fun c3 => ?_) (fun c3 => ?_)
        · have hf := xt hf c3
          refine lv_iconst (v := (0 : Int32)) hx hb dX11_middle_35 (by decide) ?_
          refine lv_iadd hx hb dX11_middle_36 ?_
          refine lv_topi (fun v4 ev4 => ?_)
          have hf := lb_s hf ev4
          refine lv_istore_n (lv' := [(3, .int v4), (0, .ref a_this), (1, .int x0), (2, .int x1), (4, .int l4)]) hx hb dX11_middle_37 rfl hl (by decide) rfl (fun ls hl => ?_)
          obtain ⟨v5, ev5, hf⟩ := lb_g hf
          refine lv_iinc (v := v5) (lv' := [(4, .int v5), (3, .int v4), (0, .ref a_this), (1, .int x0), (2, .int x1)]) hx hb dX11_middle_38 hl (k := 4) rfl ev5.symm (by decide) rfl (fun ls hl => ?_)
          refine lv_goto (tgt := 5) hx hb dX11_middle_41 (by decide) ?_
          exact ih v4 v5  H _ ls hP  hS (lv_sub hl [2, 3, 4, 1, 0] rfl) hf
        · have hf := xf hf c3
          refine lv_aload_n hx hb dX11_middle_19 rfl (lv_at hl 0 rfl) ?_
          refine lv_iload hx hb dX11_middle_20 (lv_at hl 4 rfl) ?_
          refine lv_iload_n hx hb dX11_middle_22 rfl (lv_at hl 2 rfl) ?_
          obtain ⟨o6, ho6, hf⟩ := ob_s hf
          refine xV_i (As := [.int l4, .int x1]) (b := a_this) (rest := [.int l3]) (ws2 := [(a_this, .inr (11, [.int i_length, .ref a_text, .ref a_roundMany, .ref a_blowMany, .ref a_blows, .ref a_forwards, .ref a_downs, .ref a_takens, .ref a_homes, .ref a_noises, .ref a_judgeMany, .ref a_judges, .ref a_delays, .ref a_tolds, .ref a_tens, .int i_keptMany, .int i_place, .ref a_told, .ref a_ways, .ref a_nextWays, .ref a_tallies, .ref a_presses, .ref a_values, .ref a_nextValues])), (a_tolds, .inl (X.2.1 0, 432, .inl f_tolds))]) hx hb hml hts hown hG hA hP hD rfl hS hl.1 (qX11_toldOf l X a_this a_tolds a_text a_roundMany a_blowMany a_blows a_forwards a_downs a_takens a_homes a_noises a_judgeMany a_judges a_delays a_tens a_told a_ways a_nextWays a_tallies a_presses a_values a_nextValues i_length i_keptMany i_place f_tolds l4 x1 o6 ho6) (cwV (y := yX11_toldOf) 2 hts gX11_middle_X11_toldOf rfl rfl rfl hdvX11_toldOf ⟨Nat.le_of_ble_eq_true rfl, Nat.le_of_ble_eq_true rfl⟩) [0, 1] [] [0, 1] rfl rfl rfl rfl rfl rfl rfl (ci := 11) rfl 0 rfl rfl rfl (Nat.le_of_ble_eq_true rfl) ⟨Nat.le_of_ble_eq_true rfl, Nat.le_of_ble_eq_true rfl⟩ dX11_middle_23 (fun H locs hP _ hS => ?_)
          refine lv_bipush (v := (-21 : Int32)) hx hb dX11_middle_26 (by decide) ?_
          refine lv_icmp_le (tgt := 35) hx hb dX11_middle_28 (by decide) (fun c8 => ?_) (fun c8 => ?_)
          · have hf := xt hf c8
            refine lv_iconst (v := (0 : Int32)) hx hb dX11_middle_35 (by decide) ?_
            refine lv_iadd hx hb dX11_middle_36 ?_
            refine lv_topi (fun v9 ev9 => ?_)
            have hf := lb_s hf ev9
            refine lv_istore_n (lv' := [(3, .int v9), (0, .ref a_this), (1, .int x0), (2, .int x1), (4, .int l4)]) hx hb dX11_middle_37 rfl hl (by decide) rfl (fun ls hl => ?_)
            obtain ⟨v10, ev10, hf⟩ := lb_g hf
            refine lv_iinc (v := v10) (lv' := [(4, .int v10), (3, .int v9), (0, .ref a_this), (1, .int x0), (2, .int x1)]) hx hb dX11_middle_38 hl (k := 4) rfl ev10.symm (by decide) rfl (fun ls hl => ?_)
            refine lv_goto (tgt := 5) hx hb dX11_middle_41 (by decide) ?_
            exact ih v9 v10  H _ ls hP  hS (lv_sub hl [2, 3, 4, 1, 0] rfl) hf
          · have hf := xf hf c8
            refine lv_iconst (v := (1 : Int32)) hx hb dX11_middle_31 (by decide) ?_
            refine lv_goto (tgt := 36) hx hb dX11_middle_32 (by decide) ?_
            refine lv_iadd hx hb dX11_middle_36 ?_
            refine lv_topi (fun v11 ev11 => ?_)
            have hf := lb_s hf ev11
            refine lv_istore_n (lv' := [(3, .int v11), (0, .ref a_this), (1, .int x0), (2, .int x1), (4, .int l4)]) hx hb dX11_middle_37 rfl hl (by decide) rfl (fun ls hl => ?_)
            obtain ⟨v12, ev12, hf⟩ := lb_g hf
            refine lv_iinc (v := v12) (lv' := [(4, .int v12), (3, .int v11), (0, .ref a_this), (1, .int x0), (2, .int x1)]) hx hb dX11_middle_38 hl (k := 4) rfl ev12.symm (by decide) rfl (fun ls hl => ?_)
            refine lv_goto (tgt := 5) hx hb dX11_middle_41 (by decide) ?_
            exact ih v11 v12  H _ ls hP  hS (lv_sub hl [2, 3, 4, 1, 0] rfl) hf
  unfold mX11_middle at hf
  refine lv_iconst (v := (0 : Int32)) hx hb dX11_middle_0 (by decide) ?_
  refine lv_istore_n (lv' := [(3, .int (0 : Int32)), (0, .ref a_this), (1, .int x0), (2, .int x1)]) hx hb dX11_middle_1 rfl hl (by decide) rfl (fun ls hl => ?_)
  refine lv_iconst (v := (0 : Int32)) hx hb dX11_middle_2 (by decide) ?_
  refine lv_istore (lv' := [(4, .int (0 : Int32)), (3, .int (0 : Int32)), (0, .ref a_this), (1, .int x0), (2, .int x1)]) hx hb dX11_middle_3 hl (by decide) rfl (fun ls hl => ?_)
  exact hL5  FUEL (0 : Int32) (0 : Int32)  H _ ls hP  hS (lv_sub hl [2, 3, 4, 1, 0] rfl) hf
def mX11_unlike_B89 (x0 : Int32) (f_tolds : Nat → Int32) (k17 : Int32 → Int32 → Int32 → Option (Int32)) (l4 : Int32) (l6 : Int32) :
  Option (Int32) :=
  lb (l4 + (1 : Int32)) fun v20 =>
  k17 l4 l6 v20
def mX11_unlike_B77 (x0 : Int32) (f_tolds : Nat → Int32) (k17 : Int32 → Int32 → Int32 → Option (Int32)) (l2 : Int32) (l3 : Int32) (l4 : Int32) (s0 : Int32) :
  Option (Int32) :=
  if l2 < 0 then (mX11_unlike_B89 x0 f_tolds k17 l4 s0) else (if s0 ≤ l3 then (lb (l4 + (1 : Int32)) fun v19 =>
  k17 l2 l3 v19) else (mX11_unlike_B89 x0 f_tolds k17 l4 s0))
def mX11_unlike_B17 (x0 : Int32) (f_tolds : Nat → Int32) (k17 : Int32 → Int32 → Int32 → Option (Int32)) (l2 : Int32) (l3 : Int32) (l4 : Int32) :
  Option (Int32) :=
  if (24 : Int32) ≤ l4 then (some l2) else ((mX11_middle x0 l4 f_tolds).bind fun o5 =>
  (mX11_toldOf x0 l4 f_tolds).bind fun o7 =>
  if o7 ≤ (-21 : Int32) then (lb (l4 + (1 : Int32)) fun v10 =>
  k17 l2 l3 v10) else (if o5 ≤ (-21 : Int32) then (lb (l4 + (1 : Int32)) fun v12 =>
  k17 l2 l3 v12) else ((mX11_toldOf x0 l4 f_tolds).bind fun o13 =>
  lb (o13 - o5) fun v15 =>
  if 0 ≤ v15 then (mX11_unlike_B77 x0 f_tolds k17 l2 l3 l4 v15) else (mX11_unlike_B77 x0 f_tolds k17 l2 l3 l4 (-v15)))))
def mX11_unlike_L17 (x0 : Int32) (f_tolds : Nat → Int32) (n : Nat) (l2 : Int32) (l3 : Int32) (l4 : Int32) :
  Option (Int32) :=
  loopN (fun k (s : Int32 × Int32 × Int32) => mX11_unlike_B17 x0 f_tolds  (fun l2 l3 l4 => k (l2, l3, l4)) s.1 s.2.1 s.2.2) n (l2, l3, l4)
def mX11_unlike (x0 : Int32) (f_tolds : Nat → Int32) :
  Option (Int32) :=
  (mX11_isName x0).bind fun o1 =>
  if o1 = 0 then (some (-1 : Int32)) else (mX11_unlike_L17 x0 f_tolds  FUEL (-4 : Int32) (0 : Int32) (0 : Int32))
theorem hdsX11_unlike : yX11_unlike.cls ≠ "java/lang/invoke/MethodHandle" ∧ yX11_unlike.cls ≠ "java/lang/invoke/VarHandle" ∧ (parseMethodDescriptor yX11_unlike.desc).map (fun d => d.parameters.length) = some 1 := by decide +kernel
theorem hdvX11_unlike : yX11_unlike.cls = RX11 ∧ yX11_unlike.cls ≠ "java/lang/invoke/MethodHandle" ∧ yX11_unlike.cls ≠ "java/lang/invoke/VarHandle" ∧ (parseMethodDescriptor yX11_unlike.desc).map (fun d => d.parameters.length) = some 1 := by decide +kernel
abbrev rmX11_unlike : Room := { frames := 2, cells := 0, slots := 0, locals := 48 }
set_option maxHeartbeats 4000000 in
set_option maxRecDepth 100000 in
theorem qX11_unlike (l : Launch) (X : XT) (a_this : Nat) (a_tolds : Nat) (a_text : Nat) (a_roundMany : Nat) (a_blowMany : Nat) (a_blows : Nat) (a_forwards : Nat) (a_downs : Nat) (a_takens : Nat) (a_homes : Nat) (a_noises : Nat) (a_judgeMany : Nat) (a_judges : Nat) (a_delays : Nat) (a_tens : Nat) (a_told : Nat) (a_ways : Nat) (a_nextWays : Nat) (a_tallies : Nat) (a_presses : Nat) (a_values : Nat) (a_nextValues : Nat)  (i_length : Int32) (i_keptMany : Int32) (i_place : Int32) (f_tolds : Nat → Int32) (x0 : Int32) (o : Int32) (hf : mX11_unlike x0 f_tolds = some o) :
    MI l yX11_unlike wsX11_unlike rmX11_unlike X [.ref a_this, .int x0] [(a_this, .inr (11, [.int i_length, .ref a_text, .ref a_roundMany, .ref a_blowMany, .ref a_blows, .ref a_forwards, .ref a_downs, .ref a_takens, .ref a_homes, .ref a_noises, .ref a_judgeMany, .ref a_judges, .ref a_delays, .ref a_tolds, .ref a_tens, .int i_keptMany, .int i_place, .ref a_told, .ref a_ways, .ref a_nextWays, .ref a_tallies, .ref a_presses, .ref a_values, .ref a_nextValues])), (a_tolds, .inl (X.2.1 0, 432, .inl f_tolds))]  [(a_this, .inr (11, [.int i_length, .ref a_text, .ref a_roundMany, .ref a_blowMany, .ref a_blows, .ref a_forwards, .ref a_downs, .ref a_takens, .ref a_homes, .ref a_noises, .ref a_judgeMany, .ref a_judges, .ref a_delays, .ref a_tolds, .ref a_tens, .int i_keptMany, .int i_place, .ref a_told, .ref a_ways, .ref a_nextWays, .ref a_tallies, .ref a_presses, .ref a_values, .ref a_nextValues])), (a_tolds, .inl (X.2.1 0, 432, .inl f_tolds))] o := by
  refine MI_ofH (cc := cX11_unlike) (maxL := 7) (rt := .int) (by decide) rfl (Nat.le_of_ble_eq_true rfl) ?_
  intro p e s m below meth c A Q H ls hx hb hml hts hown hA hD hG hP hS hl ret
  have hown : s.vm.findClass RX11 = some m.cls := hown
  have hD : aD A [a_this, a_tolds] := hD
  have hl : lv_has ls 7 [(0, .ref a_this), (1, .int x0)] := hl
  have hB89 : ∀ (k17 : Int32 → Int32 → Int32 → Option (Int32)) (hk17 : ∀ (l2 : Int32) (l3 : Int32) (l4 : Int32)  (H : Heap) (locs : List Loc) (ls : Array Slot), va_P X.1 vwCl [(a_this, .inr (11, [.int i_length, .ref a_text, .ref a_roundMany, .ref a_blowMany, .ref a_blows, .ref a_forwards, .ref a_downs, .ref a_takens, .ref a_homes, .ref a_noises, .ref a_judgeMany, .ref a_judges, .ref a_delays, .ref a_tolds, .ref a_tens, .int i_keptMany, .int i_place, .ref a_told, .ref a_ways, .ref a_nextWays, .ref a_tallies, .ref a_presses, .ref a_values, .ref a_nextValues])), (a_tolds, .inl (X.2.1 0, 432, .inl f_tolds))] H → va_S A s.heap H locs → lv_has ls 7 [(0, .ref a_this), (1, .int x0), (2, .int l2), (3, .int l3), (4, .int l4)] → k17 l2 l3 l4 = some o → W p l e rmX11_unlike s m ([.ref a_this, .int x0] : List Value).toArray below meth c H locs 0 0 Q (F0 m 17 ls [])) (l4 : Int32) (l6 : Int32)  (H : Heap) (locs : List Loc) (ls : Array Slot), va_P X.1 vwCl [(a_this, .inr (11, [.int i_length, .ref a_text, .ref a_roundMany, .ref a_blowMany, .ref a_blows, .ref a_forwards, .ref a_downs, .ref a_takens, .ref a_homes, .ref a_noises, .ref a_judgeMany, .ref a_judges, .ref a_delays, .ref a_tolds, .ref a_tens, .int i_keptMany, .int i_place, .ref a_told, .ref a_ways, .ref a_nextWays, .ref a_tallies, .ref a_presses, .ref a_values, .ref a_nextValues])), (a_tolds, .inl (X.2.1 0, 432, .inl f_tolds))] H → va_S A s.heap H locs → lv_has ls 7 [(0, .ref a_this), (1, .int x0), (4, .int l4), (6, .int l6)] → mX11_unlike_B89 x0 f_tolds k17 l4 l6 = some o → W p l e rmX11_unlike s m ([.ref a_this, .int x0] : List Value).toArray below meth c H locs 0 0 Q (F0 m 89 ls []) := by
    intro k17 hk17 l4 l6  H locs ls hP hS hl hf
    unfold mX11_unlike_B89 at hf
    refine lv_iload hx hb dX11_unlike_89 (lv_at hl 2 rfl) ?_
    refine lv_istore_n (lv' := [(2, .int l4), (0, .ref a_this), (1, .int x0), (4, .int l4), (6, .int l6)]) hx hb dX11_unlike_91 rfl hl (by decide) rfl (fun ls hl => ?_)
    refine lv_iload hx hb dX11_unlike_92 (lv_at hl 4 rfl) ?_
    refine lv_istore_n (lv' := [(3, .int l6), (2, .int l4), (0, .ref a_this), (1, .int x0), (4, .int l4), (6, .int l6)]) hx hb dX11_unlike_94 rfl hl (by decide) rfl (fun ls hl => ?_)
    obtain ⟨v20, ev20, hf⟩ := lb_g hf
    refine lv_iinc (v := v20) (lv' := [(4, .int v20), (3, .int l6), (2, .int l4), (0, .ref a_this), (1, .int x0), (6, .int l6)]) hx hb dX11_unlike_95 hl (k := 4) rfl ev20.symm (by decide) rfl (fun ls hl => ?_)
    refine lv_goto (tgt := 17) hx hb dX11_unlike_98 (by decide) ?_
    exact hk17 l4 l6 v20  H _ ls hP  hS (lv_sub hl [3, 4, 2, 1, 0] rfl) hf
  have hB77 : ∀ (k17 : Int32 → Int32 → Int32 → Option (Int32)) (hk17 : ∀ (l2 : Int32) (l3 : Int32) (l4 : Int32)  (H : Heap) (locs : List Loc) (ls : Array Slot), va_P X.1 vwCl [(a_this, .inr (11, [.int i_length, .ref a_text, .ref a_roundMany, .ref a_blowMany, .ref a_blows, .ref a_forwards, .ref a_downs, .ref a_takens, .ref a_homes, .ref a_noises, .ref a_judgeMany, .ref a_judges, .ref a_delays, .ref a_tolds, .ref a_tens, .int i_keptMany, .int i_place, .ref a_told, .ref a_ways, .ref a_nextWays, .ref a_tallies, .ref a_presses, .ref a_values, .ref a_nextValues])), (a_tolds, .inl (X.2.1 0, 432, .inl f_tolds))] H → va_S A s.heap H locs → lv_has ls 7 [(0, .ref a_this), (1, .int x0), (2, .int l2), (3, .int l3), (4, .int l4)] → k17 l2 l3 l4 = some o → W p l e rmX11_unlike s m ([.ref a_this, .int x0] : List Value).toArray below meth c H locs 0 0 Q (F0 m 17 ls [])) (l2 : Int32) (l3 : Int32) (l4 : Int32) (s0 : Int32)  (H : Heap) (locs : List Loc) (ls : Array Slot), va_P X.1 vwCl [(a_this, .inr (11, [.int i_length, .ref a_text, .ref a_roundMany, .ref a_blowMany, .ref a_blows, .ref a_forwards, .ref a_downs, .ref a_takens, .ref a_homes, .ref a_noises, .ref a_judgeMany, .ref a_judges, .ref a_delays, .ref a_tolds, .ref a_tens, .int i_keptMany, .int i_place, .ref a_told, .ref a_ways, .ref a_nextWays, .ref a_tallies, .ref a_presses, .ref a_values, .ref a_nextValues])), (a_tolds, .inl (X.2.1 0, 432, .inl f_tolds))] H → va_S A s.heap H locs → lv_has ls 7 [(0, .ref a_this), (1, .int x0), (2, .int l2), (3, .int l3), (4, .int l4)] → mX11_unlike_B77 x0 f_tolds k17 l2 l3 l4 s0 = some o → W p l e rmX11_unlike s m ([.ref a_this, .int x0] : List Value).toArray below meth c H locs 0 0 Q (F0 m 77 ls [.int s0]) := by
    intro k17 hk17 l2 l3 l4 s0  H locs ls hP hS hl hf
    unfold mX11_unlike_B77 at hf
    refine lv_istore (lv' := [(6, .int s0), (0, .ref a_this), (1, .int x0), (2, .int l2), (3, .int l3), (4, .int l4)]) hx hb dX11_unlike_77 hl (by decide) rfl (fun ls hl => ?_)
    refine lv_iload_n hx hb dX11_unlike_79 rfl (lv_at hl 3 rfl) ?_
    refine lv_if_lt (tgt := 89) hx hb dX11_unlike_80 (by decide) (fun c17 => ?_) (fun c17 => ?_)
    · have hf := xt hf c17
      exact hB89 k17 hk17 l4 s0  H _ ls hP  hS (lv_sub hl [1, 2, 5, 0] rfl) hf
    · have hf := xf hf c17
      refine lv_iload hx hb dX11_unlike_83 (lv_at hl 0 rfl) ?_
      refine lv_iload_n hx hb dX11_unlike_85 rfl (lv_at hl 4 rfl) ?_
      refine lv_icmp_le (tgt := 95) hx hb dX11_unlike_86 (by decide) (fun c18 => ?_) (fun c18 => ?_)
      · have hf := xt hf c18
        obtain ⟨v19, ev19, hf⟩ := lb_g hf
        refine lv_iinc (v := v19) (lv' := [(4, .int v19), (6, .int s0), (0, .ref a_this), (1, .int x0), (2, .int l2), (3, .int l3)]) hx hb dX11_unlike_95 hl (k := 5) rfl ev19.symm (by decide) rfl (fun ls hl => ?_)
        refine lv_goto (tgt := 17) hx hb dX11_unlike_98 (by decide) ?_
        exact hk17 l2 l3 v19  H _ ls hP  hS (lv_sub hl [2, 3, 4, 5, 0] rfl) hf
      · have hf := xf hf c18
        exact hB89 k17 hk17 l4 s0  H _ ls hP  hS (lv_sub hl [1, 2, 5, 0] rfl) hf
  have hL17 : ∀ (n : Nat) (l2 : Int32) (l3 : Int32) (l4 : Int32)  (H : Heap) (locs : List Loc) (ls : Array Slot), va_P X.1 vwCl [(a_this, .inr (11, [.int i_length, .ref a_text, .ref a_roundMany, .ref a_blowMany, .ref a_blows, .ref a_forwards, .ref a_downs, .ref a_takens, .ref a_homes, .ref a_noises, .ref a_judgeMany, .ref a_judges, .ref a_delays, .ref a_tolds, .ref a_tens, .int i_keptMany, .int i_place, .ref a_told, .ref a_ways, .ref a_nextWays, .ref a_tallies, .ref a_presses, .ref a_values, .ref a_nextValues])), (a_tolds, .inl (X.2.1 0, 432, .inl f_tolds))] H → va_S A s.heap H locs → lv_has ls 7 [(0, .ref a_this), (1, .int x0), (2, .int l2), (3, .int l3), (4, .int l4)] → mX11_unlike_L17 x0 f_tolds  n l2 l3 l4 = some o → W p l e rmX11_unlike s m ([.ref a_this, .int x0] : List Value).toArray below meth c H locs 0 0 Q (F0 m 17 ls []) := by
    intro n
    induction n with
    | zero => intro l2 l3 l4  H locs ls hP hS hl hf; exact xn hf
    | succ n ih =>
      intro l2 l3 l4  H locs ls hP hS hl hf
      have hf : mX11_unlike_B17 x0 f_tolds  (mX11_unlike_L17 x0 f_tolds  n) l2 l3 l4 = some o := hf
      generalize mX11_unlike_L17 x0 f_tolds  n = k17 at ih hf
      unfold mX11_unlike_B17 at hf
      refine lv_iload hx hb dX11_unlike_17 (lv_at hl 4 rfl) ?_
      refine lv_bipush (v := (24 : Int32)) hx hb dX11_unlike_19 (by decide) ?_
      refine lv_icmp_ge (tgt := 101) hx hb dX11_unlike_21 (by decide) (fun c4 => ?_) (fun c4 => ?_)
      · have hf := xt hf c4
        refine lv_iload_n hx hb dX11_unlike_101 rfl (lv_at hl 2 rfl) ?_
        obtain rfl := Option.some.inj hf
        exact ret H _ ls _ rfl hP hD hS dX11_unlike_102
      · have hf := xf hf c4
        refine lv_aload_n hx hb dX11_unlike_24 rfl (lv_at hl 0 rfl) ?_
        refine lv_iload_n hx hb dX11_unlike_25 rfl (lv_at hl 1 rfl) ?_
        refine lv_iload hx hb dX11_unlike_26 (lv_at hl 4 rfl) ?_
        obtain ⟨o5, ho5, hf⟩ := ob_s hf
        refine xV_i (As := [.int x0, .int l4]) (b := a_this) (rest := []) (ws2 := [(a_this, .inr (11, [.int i_length, .ref a_text, .ref a_roundMany, .ref a_blowMany, .ref a_blows, .ref a_forwards, .ref a_downs, .ref a_takens, .ref a_homes, .ref a_noises, .ref a_judgeMany, .ref a_judges, .ref a_delays, .ref a_tolds, .ref a_tens, .int i_keptMany, .int i_place, .ref a_told, .ref a_ways, .ref a_nextWays, .ref a_tallies, .ref a_presses, .ref a_values, .ref a_nextValues])), (a_tolds, .inl (X.2.1 0, 432, .inl f_tolds))]) hx hb hml hts hown hG hA hP hD rfl hS hl.1 (qX11_middle l X a_this a_tolds a_text a_roundMany a_blowMany a_blows a_forwards a_downs a_takens a_homes a_noises a_judgeMany a_judges a_delays a_tens a_told a_ways a_nextWays a_tallies a_presses a_values a_nextValues i_length i_keptMany i_place f_tolds x0 l4 o5 ho5) (cwV (y := yX11_middle) 2 hts gX11_unlike_X11_middle rfl rfl rfl hdvX11_middle ⟨Nat.le_of_ble_eq_true rfl, Nat.le_of_ble_eq_true rfl⟩) [0, 1] [] [0, 1] rfl rfl rfl rfl rfl rfl rfl (ci := 11) rfl 0 rfl rfl rfl (Nat.le_of_ble_eq_true rfl) ⟨Nat.le_of_ble_eq_true rfl, Nat.le_of_ble_eq_true rfl⟩ dX11_unlike_28 (fun H locs hP _ hS => ?_)
        refine lv_istore (lv' := [(5, .int o5), (0, .ref a_this), (1, .int x0), (2, .int l2), (3, .int l3), (4, .int l4)]) hx hb dX11_unlike_31 hl (by decide) rfl (fun ls hl => ?_)
        refine lv_aload_n hx hb dX11_unlike_33 rfl (lv_at hl 1 rfl) ?_
        refine lv_iload_n hx hb dX11_unlike_34 rfl (lv_at hl 2 rfl) ?_
        refine lv_iload hx hb dX11_unlike_35 (lv_at hl 5 rfl) ?_
        obtain ⟨o7, ho7, hf⟩ := ob_s hf
        refine xV_i (As := [.int x0, .int l4]) (b := a_this) (rest := []) (ws2 := [(a_this, .inr (11, [.int i_length, .ref a_text, .ref a_roundMany, .ref a_blowMany, .ref a_blows, .ref a_forwards, .ref a_downs, .ref a_takens, .ref a_homes, .ref a_noises, .ref a_judgeMany, .ref a_judges, .ref a_delays, .ref a_tolds, .ref a_tens, .int i_keptMany, .int i_place, .ref a_told, .ref a_ways, .ref a_nextWays, .ref a_tallies, .ref a_presses, .ref a_values, .ref a_nextValues])), (a_tolds, .inl (X.2.1 0, 432, .inl f_tolds))]) hx hb hml hts hown hG hA hP hD rfl hS hl.1 (qX11_toldOf l X a_this a_tolds a_text a_roundMany a_blowMany a_blows a_forwards a_downs a_takens a_homes a_noises a_judgeMany a_judges a_delays a_tens a_told a_ways a_nextWays a_tallies a_presses a_values a_nextValues i_length i_keptMany i_place f_tolds x0 l4 o7 ho7) (cwV (y := yX11_toldOf) 2 hts gX11_unlike_X11_toldOf rfl rfl rfl hdvX11_toldOf ⟨Nat.le_of_ble_eq_true rfl, Nat.le_of_ble_eq_true rfl⟩) [0, 1] [] [0, 1] rfl rfl rfl rfl rfl rfl rfl (ci := 11) rfl 0 rfl rfl rfl (Nat.le_of_ble_eq_true rfl) ⟨Nat.le_of_ble_eq_true rfl, Nat.le_of_ble_eq_true rfl⟩ dX11_unlike_37 (fun H locs hP _ hS => ?_)
        refine lv_bipush (v := (-21 : Int32)) hx hb dX11_unlike_40 (by decide) ?_
        refine lv_icmp_le (tgt := 95) hx hb dX11_unlike_42 (by decide) (fun c9 => ?_) (fun c9 => ?_)
        · have hf := xt hf c9
          obtain ⟨v10, ev10, hf⟩ := lb_g hf
          refine lv_iinc (v := v10) (lv' := [(4, .int v10), (5, .int o5), (0, .ref a_this), (1, .int x0), (2, .int l2), (3, .int l3)]) hx hb dX11_unlike_95 hl (k := 5) rfl ev10.symm (by decide) rfl (fun ls hl => ?_)
          refine lv_goto (tgt := 17) hx hb dX11_unlike_98 (by decide) ?_
          exact ih l2 l3 v10  H _ ls hP  hS (lv_sub hl [2, 3, 4, 5, 0] rfl) hf
        · have hf := xf hf c9
          refine lv_iload hx hb dX11_unlike_45 (lv_at hl 0 rfl) ?_
          refine lv_bipush (v := (-21 : Int32)) hx hb dX11_unlike_47 (by decide) ?_
          refine lv_icmp_le (tgt := 95) hx hb dX11_unlike_49 (by decide) (fun c11 => ?_) (fun c11 => ?_)
          · have hf := xt hf c11
            obtain ⟨v12, ev12, hf⟩ := lb_g hf
            refine lv_iinc (v := v12) (lv' := [(4, .int v12), (5, .int o5), (0, .ref a_this), (1, .int x0), (2, .int l2), (3, .int l3)]) hx hb dX11_unlike_95 hl (k := 5) rfl ev12.symm (by decide) rfl (fun ls hl => ?_)
            refine lv_goto (tgt := 17) hx hb dX11_unlike_98 (by decide) ?_
            exact ih l2 l3 v12  H _ ls hP  hS (lv_sub hl [2, 3, 4, 5, 0] rfl) hf
          · have hf := xf hf c11
            refine lv_aload_n hx hb dX11_unlike_52 rfl (lv_at hl 1 rfl) ?_
            refine lv_iload_n hx hb dX11_unlike_53 rfl (lv_at hl 2 rfl) ?_
            refine lv_iload hx hb dX11_unlike_54 (lv_at hl 5 rfl) ?_
            obtain ⟨o13, ho13, hf⟩ := ob_s hf
            refine xV_i (As := [.int x0, .int l4]) (b := a_this) (rest := []) (ws2 := [(a_this, .inr (11, [.int i_length, .ref a_text, .ref a_roundMany, .ref a_blowMany, .ref a_blows, .ref a_forwards, .ref a_downs, .ref a_takens, .ref a_homes, .ref a_noises, .ref a_judgeMany, .ref a_judges, .ref a_delays, .ref a_tolds, .ref a_tens, .int i_keptMany, .int i_place, .ref a_told, .ref a_ways, .ref a_nextWays, .ref a_tallies, .ref a_presses, .ref a_values, .ref a_nextValues])), (a_tolds, .inl (X.2.1 0, 432, .inl f_tolds))]) hx hb hml hts hown hG hA hP hD rfl hS hl.1 (qX11_toldOf l X a_this a_tolds a_text a_roundMany a_blowMany a_blows a_forwards a_downs a_takens a_homes a_noises a_judgeMany a_judges a_delays a_tens a_told a_ways a_nextWays a_tallies a_presses a_values a_nextValues i_length i_keptMany i_place f_tolds x0 l4 o13 ho13) (cwV (y := yX11_toldOf) 2 hts gX11_unlike_X11_toldOf rfl rfl rfl hdvX11_toldOf ⟨Nat.le_of_ble_eq_true rfl, Nat.le_of_ble_eq_true rfl⟩) [0, 1] [] [0, 1] rfl rfl rfl rfl rfl rfl rfl (ci := 11) rfl 0 rfl rfl rfl (Nat.le_of_ble_eq_true rfl) ⟨Nat.le_of_ble_eq_true rfl, Nat.le_of_ble_eq_true rfl⟩ dX11_unlike_56 (fun H locs hP _ hS => ?_)
            refine lv_iload hx hb dX11_unlike_59 (lv_at hl 0 rfl) ?_
            refine lv_isub hx hb dX11_unlike_61 ?_
            refine lv_topi (fun v15 ev15 => ?_)
            have hf := lb_s hf ev15
            refine lv_istore (lv' := [(6, .int v15), (5, .int o5), (0, .ref a_this), (1, .int x0), (2, .int l2), (3, .int l3), (4, .int l4)]) hx hb dX11_unlike_62 hl (by decide) rfl (fun ls hl => ?_)
            refine lv_iload hx hb dX11_unlike_64 (lv_at hl 0 rfl) ?_
            refine lv_if_ge (tgt := 75) hx hb dX11_unlike_66 (by decide) (fun c16 => ?_) (fun c16 => ?_)
            · have hf := xt hf c16
              refine lv_iload hx hb dX11_unlike_75 (lv_at hl 0 rfl) ?_
              exact hB77 k17 ih l2 l3 l4 v15  H _ ls hP  hS (lv_sub hl [2, 3, 4, 5, 6] rfl) hf
            · have hf := xf hf c16
              refine lv_iload hx hb dX11_unlike_69 (lv_at hl 0 rfl) ?_
              refine lv_ineg hx hb dX11_unlike_71 ?_
              refine lv_goto (tgt := 77) hx hb dX11_unlike_72 (by decide) ?_
              exact hB77 k17 ih l2 l3 l4 (-v15)  H _ ls hP  hS (lv_sub hl [2, 3, 4, 5, 6] rfl) hf
  unfold mX11_unlike at hf
  refine lv_iload_n hx hb dX11_unlike_0 rfl (lv_at hl 1 rfl) ?_
  obtain ⟨o1, ho1, hf⟩ := ob_s hf
  refine xS_i (As := [.int x0]) (rest := []) (ws2 := [(a_this, .inr (11, [.int i_length, .ref a_text, .ref a_roundMany, .ref a_blowMany, .ref a_blows, .ref a_forwards, .ref a_downs, .ref a_takens, .ref a_homes, .ref a_noises, .ref a_judgeMany, .ref a_judges, .ref a_delays, .ref a_tolds, .ref a_tens, .int i_keptMany, .int i_place, .ref a_told, .ref a_ways, .ref a_nextWays, .ref a_tallies, .ref a_presses, .ref a_values, .ref a_nextValues])), (a_tolds, .inl (X.2.1 0, 432, .inl f_tolds))]) hx hb hml hts hown hG hA hP hD rfl hS hl.1 (qX11_isName l X x0 o1 ho1) (va_cwS (y := yX11_isName) 1 hts gX11_unlike_X11_isName rfl rfl rfl hdsX11_isName ⟨Nat.le_of_ble_eq_true rfl, Nat.le_of_ble_eq_true rfl⟩) [] [0, 1] [0, 1] rfl rfl rfl rfl rfl rfl rfl rfl rfl (Nat.le_of_ble_eq_true rfl) ⟨Nat.le_of_ble_eq_true rfl, Nat.le_of_ble_eq_true rfl⟩ dX11_unlike_1 (fun H locs hP _ hS => ?_)
  refine lv_if_ne (tgt := 9) hx hb dX11_unlike_4 (by decide) (fun c3 => ?_) (fun c3 => ?_)
  · have hf := xf hf c3
    refine lv_bipush (v := (-4 : Int32)) hx hb dX11_unlike_9 (by decide) ?_
    refine lv_istore_n (lv' := [(2, .int (-4 : Int32)), (0, .ref a_this), (1, .int x0)]) hx hb dX11_unlike_11 rfl hl (by decide) rfl (fun ls hl => ?_)
    refine lv_iconst (v := (0 : Int32)) hx hb dX11_unlike_12 (by decide) ?_
    refine lv_istore_n (lv' := [(3, .int (0 : Int32)), (2, .int (-4 : Int32)), (0, .ref a_this), (1, .int x0)]) hx hb dX11_unlike_13 rfl hl (by decide) rfl (fun ls hl => ?_)
    refine lv_iconst (v := (0 : Int32)) hx hb dX11_unlike_14 (by decide) ?_
    refine lv_istore (lv' := [(4, .int (0 : Int32)), (3, .int (0 : Int32)), (2, .int (-4 : Int32)), (0, .ref a_this), (1, .int x0)]) hx hb dX11_unlike_15 hl (by decide) rfl (fun ls hl => ?_)
    exact hL17  FUEL (-4 : Int32) (0 : Int32) (0 : Int32)  H _ ls hP  hS (lv_sub hl [3, 4, 2, 1, 0] rfl) hf
  · have hf := xt hf c3
    refine lv_iconst (v := (-1 : Int32)) hx hb dX11_unlike_7 (by decide) ?_
    obtain rfl := Option.some.inj hf
    exact ret H _ ls _ rfl hP hD hS dX11_unlike_8
def mX11_areTold (x0 : Int32) :
  Option (Int32) :=
  (mX11_in (Int32.toInt64 x0) (0 : Int64) (999 : Int64)).bind fun o1 =>
  gz o1 <|
  some o1
theorem hdsX11_areTold : yX11_areTold.cls ≠ "java/lang/invoke/MethodHandle" ∧ yX11_areTold.cls ≠ "java/lang/invoke/VarHandle" ∧ (parseMethodDescriptor yX11_areTold.desc).map (fun d => d.parameters.length) = some 1 := by decide +kernel
abbrev rmX11_areTold : Room := { frames := 1, cells := 0, slots := 0, locals := 25 }
set_option maxHeartbeats 4000000 in
set_option maxRecDepth 100000 in
theorem qX11_areTold (l : Launch) (X : XT)    (x0 : Int32) (o : Int32) (hf : mX11_areTold x0 = some o) :
    MI l yX11_areTold wsX11_areTold rmX11_areTold X [.int x0] []  [] o := by
  refine MI_ofH (cc := cX11_areTold) (maxL := 1) (rt := .boolean) (by decide) rfl (Nat.le_of_ble_eq_true rfl) ?_
  intro p e s m below meth c A Q H ls hx hb hml hts hown hA hD hG hP hS hl ret
  have hown : s.vm.findClass RX11 = some m.cls := hown
  have hD : aD A [] := hD
  have hl : lv_has ls 1 [(0, .int x0)] := hl
  have w1 := hts (.constantLong RX11 258 (999)) (List.mem_of_getElem? (i := 1) rfl)
  unfold mX11_areTold at hf
  refine lv_iload_n hx hb dX11_areTold_0 rfl (lv_at hl 0 rfl) ?_
  refine lv_i2l hx hb dX11_areTold_1 rfl ?_
  refine lv_lconst (v := (0 : Int64)) hx hb dX11_areTold_2 rfl ?_
  refine lv_ldc2 (v := (999 : Int64)) hx hb hown w1 dX11_areTold_3 ?_
  obtain ⟨o1, ho1, hf⟩ := ob_s hf
  refine xS_i (As := [.long (Int32.toInt64 x0), .long (0 : Int64), .long (999 : Int64)]) (rest := []) (ws2 := []) hx hb hml hts hown hG hA hP hD rfl hS hl.1 (qX11_in l X (Int32.toInt64 x0) (0 : Int64) (999 : Int64) o1 ho1) (va_cwS (y := yX11_in) 3 hts gX11_areTold_X11_in rfl rfl rfl hdsX11_in ⟨Nat.le_of_ble_eq_true rfl, Nat.le_of_ble_eq_true rfl⟩) [] [] [] rfl rfl rfl rfl rfl rfl rfl rfl rfl (Nat.le_of_ble_eq_true rfl) ⟨Nat.le_of_ble_eq_true rfl, Nat.le_of_ble_eq_true rfl⟩ dX11_areTold_6 (fun H locs hP _ hS => ?_)
  obtain ⟨h3, hf⟩ := gz_s hf
  obtain rfl := Option.some.inj hf
  exact ret H _ ls _ h3 hP hD hS dX11_areTold_9
def mX11_added_B78 (x0 : Int32) (x1 : Int32) (x2 : Int32) (x3 : Int32) (x4 : Int32) (f_blowMany : Nat → Int32) (f_blows : Nat → Int32) (f_downs : Nat → Int32) (f_forwards : Nat → Int32) (f_homes : Nat → Int32) (f_judges : Nat → Int32) (f_noises : Nat → Int32) (f_roundMany : Nat → Int32) (f_takens : Nat → Int32) (k50 : Int32 → Option (Int32)) (l6 : Int32) (s0 : Int32) :
  Option (Int32) :=
  (mX11_pointsOf x0 l6 x1 f_blowMany f_blows f_downs f_forwards f_homes f_judges f_noises f_roundMany f_takens).bind fun o19 =>
  if o19 = s0 then (lb (l6 + (1 : Int32)) fun v22 =>
  k50 v22) else (some l6)
def mX11_added_B50 (x0 : Int32) (x1 : Int32) (x2 : Int32) (x3 : Int32) (x4 : Int32) (f_blowMany : Nat → Int32) (f_blows : Nat → Int32) (f_downs : Nat → Int32) (f_forwards : Nat → Int32) (f_homes : Nat → Int32) (f_judges : Nat → Int32) (f_noises : Nat → Int32) (f_roundMany : Nat → Int32) (f_takens : Nat → Int32) (k50 : Int32 → Option (Int32)) (l6 : Int32) :
  Option (Int32) :=
  if (3 : Int32) ≤ l6 then (some (-4 : Int32)) else (if l6 = 0 then (mX11_added_B78 x0 x1 x2 x3 x4 f_blowMany f_blows f_downs f_forwards f_homes f_judges f_noises f_roundMany f_takens k50 l6 x2) else (if l6 = (1 : Int32) then (mX11_added_B78 x0 x1 x2 x3 x4 f_blowMany f_blows f_downs f_forwards f_homes f_judges f_noises f_roundMany f_takens k50 l6 x3) else (mX11_added_B78 x0 x1 x2 x3 x4 f_blowMany f_blows f_downs f_forwards f_homes f_judges f_noises f_roundMany f_takens k50 l6 x4)))
def mX11_added_L50 (x0 : Int32) (x1 : Int32) (x2 : Int32) (x3 : Int32) (x4 : Int32) (f_blowMany : Nat → Int32) (f_blows : Nat → Int32) (f_downs : Nat → Int32) (f_forwards : Nat → Int32) (f_homes : Nat → Int32) (f_judges : Nat → Int32) (f_noises : Nat → Int32) (f_roundMany : Nat → Int32) (f_takens : Nat → Int32) (n : Nat) (l6 : Int32) :
  Option (Int32) :=
  loopN (fun k (s : Int32) => mX11_added_B50 x0 x1 x2 x3 x4 f_blowMany f_blows f_downs f_forwards f_homes f_judges f_noises f_roundMany f_takens  (k) s) n (l6)
def mX11_added (x0 : Int32) (x1 : Int32) (x2 : Int32) (x3 : Int32) (x4 : Int32) (f_blowMany : Nat → Int32) (f_blows : Nat → Int32) (f_downs : Nat → Int32) (f_forwards : Nat → Int32) (f_homes : Nat → Int32) (f_judges : Nat → Int32) (f_noises : Nat → Int32) (f_roundMany : Nat → Int32) (f_takens : Nat → Int32) :
  Option (Int32) :=
  (mX11_in (Int32.toInt64 x0) (0 : Int64) (2 : Int64)).bind fun o1 =>
  if o1 = 0 then (some (-1 : Int32)) else ((mX11_in (Int32.toInt64 x1) (0 : Int64) (1 : Int64)).bind fun o4 =>
  if o4 = 0 then (some (-1 : Int32)) else ((mX11_areTold x2).bind fun o7 =>
  if o7 = 0 then (some (-1 : Int32)) else ((mX11_areTold x3).bind fun o10 =>
  if o10 = 0 then (some (-1 : Int32)) else ((mX11_areTold x4).bind fun o13 =>
  if o13 = 0 then (some (-1 : Int32)) else (mX11_added_L50 x0 x1 x2 x3 x4 f_blowMany f_blows f_downs f_forwards f_homes f_judges f_noises f_roundMany f_takens  FUEL (0 : Int32))))))
theorem hdsX11_added : yX11_added.cls ≠ "java/lang/invoke/MethodHandle" ∧ yX11_added.cls ≠ "java/lang/invoke/VarHandle" ∧ (parseMethodDescriptor yX11_added.desc).map (fun d => d.parameters.length) = some 5 := by decide +kernel
theorem hdvX11_added : yX11_added.cls = RX11 ∧ yX11_added.cls ≠ "java/lang/invoke/MethodHandle" ∧ yX11_added.cls ≠ "java/lang/invoke/VarHandle" ∧ (parseMethodDescriptor yX11_added.desc).map (fun d => d.parameters.length) = some 5 := by decide +kernel
abbrev rmX11_added : Room := { frames := 7, cells := 0, slots := 0, locals := 170 }
set_option maxHeartbeats 4000000 in
set_option maxRecDepth 100000 in
theorem qX11_added (l : Launch) (X : XT) (a_this : Nat) (a_blowMany : Nat) (a_blows : Nat) (a_downs : Nat) (a_forwards : Nat) (a_homes : Nat) (a_judges : Nat) (a_noises : Nat) (a_roundMany : Nat) (a_takens : Nat) (a_text : Nat) (a_judgeMany : Nat) (a_delays : Nat) (a_tolds : Nat) (a_tens : Nat) (a_told : Nat) (a_ways : Nat) (a_nextWays : Nat) (a_tallies : Nat) (a_presses : Nat) (a_values : Nat) (a_nextValues : Nat)  (i_length : Int32) (i_keptMany : Int32) (i_place : Int32) (f_blowMany : Nat → Int32) (f_blows : Nat → Int32) (f_downs : Nat → Int32) (f_forwards : Nat → Int32) (f_homes : Nat → Int32) (f_judges : Nat → Int32) (f_noises : Nat → Int32) (f_roundMany : Nat → Int32) (f_takens : Nat → Int32) (x0 : Int32) (x1 : Int32) (x2 : Int32) (x3 : Int32) (x4 : Int32) (o : Int32) (hf : mX11_added x0 x1 x2 x3 x4 f_blowMany f_blows f_downs f_forwards f_homes f_judges f_noises f_roundMany f_takens = some o) :
    MI l yX11_added wsX11_added rmX11_added X [.ref a_this, .int x0, .int x1, .int x2, .int x3, .int x4] [(a_this, .inr (11, [.int i_length, .ref a_text, .ref a_roundMany, .ref a_blowMany, .ref a_blows, .ref a_forwards, .ref a_downs, .ref a_takens, .ref a_homes, .ref a_noises, .ref a_judgeMany, .ref a_judges, .ref a_delays, .ref a_tolds, .ref a_tens, .int i_keptMany, .int i_place, .ref a_told, .ref a_ways, .ref a_nextWays, .ref a_tallies, .ref a_presses, .ref a_values, .ref a_nextValues])), (a_blowMany, .inl (X.2.1 0, 2, .inl f_blowMany)), (a_blows, .inl (X.2.1 0, 400, .inl f_blows)), (a_downs, .inl (X.2.1 0, 48, .inl f_downs)), (a_forwards, .inl (X.2.1 0, 48, .inl f_forwards)), (a_homes, .inl (X.2.1 0, 2, .inl f_homes)), (a_judges, .inl (X.2.1 0, 112, .inl f_judges)), (a_noises, .inl (X.2.1 0, 2, .inl f_noises)), (a_roundMany, .inl (X.2.1 0, 2, .inl f_roundMany)), (a_takens, .inl (X.2.1 0, 48, .inl f_takens))]  [(a_this, .inr (11, [.int i_length, .ref a_text, .ref a_roundMany, .ref a_blowMany, .ref a_blows, .ref a_forwards, .ref a_downs, .ref a_takens, .ref a_homes, .ref a_noises, .ref a_judgeMany, .ref a_judges, .ref a_delays, .ref a_tolds, .ref a_tens, .int i_keptMany, .int i_place, .ref a_told, .ref a_ways, .ref a_nextWays, .ref a_tallies, .ref a_presses, .ref a_values, .ref a_nextValues])), (a_blowMany, .inl (X.2.1 0, 2, .inl f_blowMany)), (a_blows, .inl (X.2.1 0, 400, .inl f_blows)), (a_downs, .inl (X.2.1 0, 48, .inl f_downs)), (a_forwards, .inl (X.2.1 0, 48, .inl f_forwards)), (a_homes, .inl (X.2.1 0, 2, .inl f_homes)), (a_judges, .inl (X.2.1 0, 112, .inl f_judges)), (a_noises, .inl (X.2.1 0, 2, .inl f_noises)), (a_roundMany, .inl (X.2.1 0, 2, .inl f_roundMany)), (a_takens, .inl (X.2.1 0, 48, .inl f_takens))] o := by
  refine MI_ofH (cc := cX11_added) (maxL := 8) (rt := .int) (by decide) rfl (Nat.le_of_ble_eq_true rfl) ?_
  intro p e s m below meth c A Q H ls hx hb hml hts hown hA hD hG hP hS hl ret
  have hown : s.vm.findClass RX11 = some m.cls := hown
  have hD : aD A [a_this, a_blowMany, a_blows, a_downs, a_forwards, a_homes, a_judges, a_noises, a_roundMany, a_takens] := hD
  have hl : lv_has ls 8 [(0, .ref a_this), (1, .int x0), (2, .int x1), (3, .int x2), (4, .int x3), (5, .int x4)] := hl
  have w1 := hts (Cond.constantLong RX11 181 (2)) (List.mem_of_getElem? (i := 1) rfl)
  have hB78 : ∀ (k50 : Int32 → Option (Int32)) (hk50 : ∀ (l6 : Int32)  (H : Heap) (locs : List Loc) (ls : Array Slot), va_P X.1 vwCl [(a_this, .inr (11, [.int i_length, .ref a_text, .ref a_roundMany, .ref a_blowMany, .ref a_blows, .ref a_forwards, .ref a_downs, .ref a_takens, .ref a_homes, .ref a_noises, .ref a_judgeMany, .ref a_judges, .ref a_delays, .ref a_tolds, .ref a_tens, .int i_keptMany, .int i_place, .ref a_told, .ref a_ways, .ref a_nextWays, .ref a_tallies, .ref a_presses, .ref a_values, .ref a_nextValues])), (a_blowMany, .inl (X.2.1 0, 2, .inl f_blowMany)), (a_blows, .inl (X.2.1 0, 400, .inl f_blows)), (a_downs, .inl (X.2.1 0, 48, .inl f_downs)), (a_forwards, .inl (X.2.1 0, 48, .inl f_forwards)), (a_homes, .inl (X.2.1 0, 2, .inl f_homes)), (a_judges, .inl (X.2.1 0, 112, .inl f_judges)), (a_noises, .inl (X.2.1 0, 2, .inl f_noises)), (a_roundMany, .inl (X.2.1 0, 2, .inl f_roundMany)), (a_takens, .inl (X.2.1 0, 48, .inl f_takens))] H → va_S A s.heap H locs → lv_has ls 8 [(0, .ref a_this), (1, .int x0), (2, .int x1), (3, .int x2), (4, .int x3), (5, .int x4), (6, .int l6)] → k50 l6 = some o → W p l e rmX11_added s m ([.ref a_this, .int x0, .int x1, .int x2, .int x3, .int x4] : List Value).toArray below meth c H locs 0 0 Q (F0 m 50 ls [])) (l6 : Int32) (s0 : Int32)  (H : Heap) (locs : List Loc) (ls : Array Slot), va_P X.1 vwCl [(a_this, .inr (11, [.int i_length, .ref a_text, .ref a_roundMany, .ref a_blowMany, .ref a_blows, .ref a_forwards, .ref a_downs, .ref a_takens, .ref a_homes, .ref a_noises, .ref a_judgeMany, .ref a_judges, .ref a_delays, .ref a_tolds, .ref a_tens, .int i_keptMany, .int i_place, .ref a_told, .ref a_ways, .ref a_nextWays, .ref a_tallies, .ref a_presses, .ref a_values, .ref a_nextValues])), (a_blowMany, .inl (X.2.1 0, 2, .inl f_blowMany)), (a_blows, .inl (X.2.1 0, 400, .inl f_blows)), (a_downs, .inl (X.2.1 0, 48, .inl f_downs)), (a_forwards, .inl (X.2.1 0, 48, .inl f_forwards)), (a_homes, .inl (X.2.1 0, 2, .inl f_homes)), (a_judges, .inl (X.2.1 0, 112, .inl f_judges)), (a_noises, .inl (X.2.1 0, 2, .inl f_noises)), (a_roundMany, .inl (X.2.1 0, 2, .inl f_roundMany)), (a_takens, .inl (X.2.1 0, 48, .inl f_takens))] H → va_S A s.heap H locs → lv_has ls 8 [(0, .ref a_this), (1, .int x0), (2, .int x1), (3, .int x2), (4, .int x3), (5, .int x4), (6, .int l6)] → mX11_added_B78 x0 x1 x2 x3 x4 f_blowMany f_blows f_downs f_forwards f_homes f_judges f_noises f_roundMany f_takens k50 l6 s0 = some o → W p l e rmX11_added s m ([.ref a_this, .int x0, .int x1, .int x2, .int x3, .int x4] : List Value).toArray below meth c H locs 0 0 Q (F0 m 78 ls [.int s0]) := by
    intro k50 hk50 l6 s0  H locs ls hP hS hl hf
    unfold mX11_added_B78 at hf
    refine lv_istore (lv' := [(7, .int s0), (0, .ref a_this), (1, .int x0), (2, .int x1), (3, .int x2), (4, .int x3), (5, .int x4), (6, .int l6)]) hx hb dX11_added_78 hl (by decide) rfl (fun ls hl => ?_)
    refine lv_aload_n hx hb dX11_added_80 rfl (lv_at hl 1 rfl) ?_
    refine lv_iload_n hx hb dX11_added_81 rfl (lv_at hl 2 rfl) ?_
    refine lv_iload hx hb dX11_added_82 (lv_at hl 7 rfl) ?_
    refine lv_iload_n hx hb dX11_added_84 rfl (lv_at hl 3 rfl) ?_
    obtain ⟨o19, ho19, hf⟩ := ob_s hf
    refine xV_i (As := [.int x0, .int l6, .int x1]) (b := a_this) (rest := []) (ws2 := [(a_this, .inr (11, [.int i_length, .ref a_text, .ref a_roundMany, .ref a_blowMany, .ref a_blows, .ref a_forwards, .ref a_downs, .ref a_takens, .ref a_homes, .ref a_noises, .ref a_judgeMany, .ref a_judges, .ref a_delays, .ref a_tolds, .ref a_tens, .int i_keptMany, .int i_place, .ref a_told, .ref a_ways, .ref a_nextWays, .ref a_tallies, .ref a_presses, .ref a_values, .ref a_nextValues])), (a_blowMany, .inl (X.2.1 0, 2, .inl f_blowMany)), (a_blows, .inl (X.2.1 0, 400, .inl f_blows)), (a_downs, .inl (X.2.1 0, 48, .inl f_downs)), (a_forwards, .inl (X.2.1 0, 48, .inl f_forwards)), (a_homes, .inl (X.2.1 0, 2, .inl f_homes)), (a_judges, .inl (X.2.1 0, 112, .inl f_judges)), (a_noises, .inl (X.2.1 0, 2, .inl f_noises)), (a_roundMany, .inl (X.2.1 0, 2, .inl f_roundMany)), (a_takens, .inl (X.2.1 0, 48, .inl f_takens))]) hx hb hml hts hown hG hA hP hD rfl hS hl.1 (qX11_pointsOf l X a_this a_blowMany a_blows a_downs a_forwards a_homes a_judges a_noises a_roundMany a_takens a_text a_judgeMany a_delays a_tolds a_tens a_told a_ways a_nextWays a_tallies a_presses a_values a_nextValues i_length i_keptMany i_place f_blowMany f_blows f_downs f_forwards f_homes f_judges f_noises f_roundMany f_takens x0 l6 x1 o19 ho19) (cwV (y := yX11_pointsOf) 3 hts gX11_added_X11_pointsOf rfl rfl rfl hdvX11_pointsOf ⟨Nat.le_of_ble_eq_true rfl, Nat.le_of_ble_eq_true rfl⟩) [0, 1, 2, 3, 4, 5, 6, 7, 8, 9] [] [0, 1, 2, 3, 4, 5, 6, 7, 8, 9] rfl rfl rfl rfl rfl rfl rfl (ci := 11) rfl 0 rfl rfl rfl (Nat.le_of_ble_eq_true rfl) ⟨Nat.le_of_ble_eq_true rfl, Nat.le_of_ble_eq_true rfl⟩ dX11_added_85 (fun H locs hP _ hS => ?_)
    refine lv_iload hx hb dX11_added_88 (lv_at hl 0 rfl) ?_
    refine lv_icmp_eq (tgt := 96) hx hb dX11_added_90 (by decide) (fun c21 => ?_) (fun c21 => ?_)
    · have hf := xt hf c21
      obtain ⟨v22, ev22, hf⟩ := lb_g hf
      refine lv_iinc (v := v22) (lv' := [(6, .int v22), (7, .int s0), (0, .ref a_this), (1, .int x0), (2, .int x1), (3, .int x2), (4, .int x3), (5, .int x4)]) hx hb dX11_added_96 hl (k := 7) rfl ev22.symm (by decide) rfl (fun ls hl => ?_)
      refine lv_goto (tgt := 50) hx hb dX11_added_99 (by decide) ?_
      exact hk50 v22  H _ ls hP  hS (lv_sub hl [2, 3, 4, 5, 6, 7, 0] rfl) hf
    · have hf := xf hf c21
      refine lv_iload hx hb dX11_added_93 (lv_at hl 7 rfl) ?_
      obtain rfl := Option.some.inj hf
      exact ret H _ ls _ rfl hP hD hS dX11_added_95
  have hL50 : ∀ (n : Nat) (l6 : Int32)  (H : Heap) (locs : List Loc) (ls : Array Slot), va_P X.1 vwCl [(a_this, .inr (11, [.int i_length, .ref a_text, .ref a_roundMany, .ref a_blowMany, .ref a_blows, .ref a_forwards, .ref a_downs, .ref a_takens, .ref a_homes, .ref a_noises, .ref a_judgeMany, .ref a_judges, .ref a_delays, .ref a_tolds, .ref a_tens, .int i_keptMany, .int i_place, .ref a_told, .ref a_ways, .ref a_nextWays, .ref a_tallies, .ref a_presses, .ref a_values, .ref a_nextValues])), (a_blowMany, .inl (X.2.1 0, 2, .inl f_blowMany)), (a_blows, .inl (X.2.1 0, 400, .inl f_blows)), (a_downs, .inl (X.2.1 0, 48, .inl f_downs)), (a_forwards, .inl (X.2.1 0, 48, .inl f_forwards)), (a_homes, .inl (X.2.1 0, 2, .inl f_homes)), (a_judges, .inl (X.2.1 0, 112, .inl f_judges)), (a_noises, .inl (X.2.1 0, 2, .inl f_noises)), (a_roundMany, .inl (X.2.1 0, 2, .inl f_roundMany)), (a_takens, .inl (X.2.1 0, 48, .inl f_takens))] H → va_S A s.heap H locs → lv_has ls 8 [(0, .ref a_this), (1, .int x0), (2, .int x1), (3, .int x2), (4, .int x3), (5, .int x4), (6, .int l6)] → mX11_added_L50 x0 x1 x2 x3 x4 f_blowMany f_blows f_downs f_forwards f_homes f_judges f_noises f_roundMany f_takens  n l6 = some o → W p l e rmX11_added s m ([.ref a_this, .int x0, .int x1, .int x2, .int x3, .int x4] : List Value).toArray below meth c H locs 0 0 Q (F0 m 50 ls []) := by
    intro n
    induction n with
    | zero => intro l6  H locs ls hP hS hl hf; exact xn hf
    | succ n ih =>
      intro l6  H locs ls hP hS hl hf
      have hf : mX11_added_B50 x0 x1 x2 x3 x4 f_blowMany f_blows f_downs f_forwards f_homes f_judges f_noises f_roundMany f_takens  (mX11_added_L50 x0 x1 x2 x3 x4 f_blowMany f_blows f_downs f_forwards f_homes f_judges f_noises f_roundMany f_takens  n) l6 = some o := hf
      generalize mX11_added_L50 x0 x1 x2 x3 x4 f_blowMany f_blows f_downs f_forwards f_homes f_judges f_noises f_roundMany f_takens  n = k50 at ih hf
      unfold mX11_added_B50 at hf
      refine lv_iload hx hb dX11_added_50 (lv_at hl 6 rfl) ?_
      refine lv_iconst (v := (3 : Int32)) hx hb dX11_added_52 (by decide) ?_
      refine lv_icmp_ge (tgt := 102) hx hb dX11_added_53 (by decide) (fun c16 => ?_) (fun c16 => ?_)
      · have hf := xt hf c16
        refine lv_bipush (v := (-4 : Int32)) hx hb dX11_added_102 (by decide) ?_
        obtain rfl := Option.some.inj hf
        exact ret H _ ls _ rfl hP hD hS dX11_added_104
      · have hf := xf hf c16
        refine lv_iload hx hb dX11_added_56 (lv_at hl 6 rfl) ?_
        refine lv_if_ne (tgt := 65) hx hb dX11_added_58 (by decide) (fun c17 => ?_) (fun c17 => ?_)
        · have hf := xf hf c17
          refine lv_iload hx hb dX11_added_65 (lv_at hl 6 rfl) ?_
          refine lv_iconst (v := (1 : Int32)) hx hb dX11_added_67 (by decide) ?_
          refine lv_icmp_ne (tgt := 76) hx hb dX11_added_68 (by decide) (fun c18 => ?_) (fun c18 => ?_)
          · have hf := xf hf c18
            refine lv_iload hx hb dX11_added_76 (lv_at hl 5 rfl) ?_
            exact hB78 k50 ih l6 x4  H _ ls hP  hS (lv_sub hl [0, 1, 2, 3, 4, 5, 6] rfl) hf
          · have hf := xt hf c18
            refine lv_iload hx hb dX11_added_71 (lv_at hl 4 rfl) ?_
            refine lv_goto (tgt := 78) hx hb dX11_added_73 (by decide) ?_
            exact hB78 k50 ih l6 x3  H _ ls hP  hS (lv_sub hl [0, 1, 2, 3, 4, 5, 6] rfl) hf
        · have hf := xt hf c17
          refine lv_iload_n hx hb dX11_added_61 rfl (lv_at hl 3 rfl) ?_
          refine lv_goto (tgt := 78) hx hb dX11_added_62 (by decide) ?_
          exact hB78 k50 ih l6 x2  H _ ls hP  hS (lv_sub hl [0, 1, 2, 3, 4, 5, 6] rfl) hf
  unfold mX11_added at hf
  refine lv_iload_n hx hb dX11_added_0 rfl (lv_at hl 1 rfl) ?_
  refine lv_i2l hx hb dX11_added_1 rfl ?_
  refine lv_lconst (v := (0 : Int64)) hx hb dX11_added_2 rfl ?_
  refine lv_ldc2 (v := (2 : Int64)) hx hb hown w1 dX11_added_3 ?_
  obtain ⟨o1, ho1, hf⟩ := ob_s hf
  refine xS_i (As := [.long (Int32.toInt64 x0), .long (0 : Int64), .long (2 : Int64)]) (rest := []) (ws2 := [(a_this, .inr (11, [.int i_length, .ref a_text, .ref a_roundMany, .ref a_blowMany, .ref a_blows, .ref a_forwards, .ref a_downs, .ref a_takens, .ref a_homes, .ref a_noises, .ref a_judgeMany, .ref a_judges, .ref a_delays, .ref a_tolds, .ref a_tens, .int i_keptMany, .int i_place, .ref a_told, .ref a_ways, .ref a_nextWays, .ref a_tallies, .ref a_presses, .ref a_values, .ref a_nextValues])), (a_blowMany, .inl (X.2.1 0, 2, .inl f_blowMany)), (a_blows, .inl (X.2.1 0, 400, .inl f_blows)), (a_downs, .inl (X.2.1 0, 48, .inl f_downs)), (a_forwards, .inl (X.2.1 0, 48, .inl f_forwards)), (a_homes, .inl (X.2.1 0, 2, .inl f_homes)), (a_judges, .inl (X.2.1 0, 112, .inl f_judges)), (a_noises, .inl (X.2.1 0, 2, .inl f_noises)), (a_roundMany, .inl (X.2.1 0, 2, .inl f_roundMany)), (a_takens, .inl (X.2.1 0, 48, .inl f_takens))]) hx hb hml hts hown hG hA hP hD rfl hS hl.1 (qX11_in l X (Int32.toInt64 x0) (0 : Int64) (2 : Int64) o1 ho1) (va_cwS (y := yX11_in) 3 hts gX11_added_X11_in rfl rfl rfl hdsX11_in ⟨Nat.le_of_ble_eq_true rfl, Nat.le_of_ble_eq_true rfl⟩) [] [0, 1, 2, 3, 4, 5, 6, 7, 8, 9] [0, 1, 2, 3, 4, 5, 6, 7, 8, 9] rfl rfl rfl rfl rfl rfl rfl rfl rfl (Nat.le_of_ble_eq_true rfl) ⟨Nat.le_of_ble_eq_true rfl, Nat.le_of_ble_eq_true rfl⟩ dX11_added_6 (fun H locs hP _ hS => ?_)
  refine lv_if_eq (tgt := 45) hx hb dX11_added_9 (by decide) (fun c3 => ?_) (fun c3 => ?_)
  · have hf := xt hf c3
    refine lv_iconst (v := (-1 : Int32)) hx hb dX11_added_45 (by decide) ?_
    obtain rfl := Option.some.inj hf
    exact ret H _ ls _ rfl hP hD hS dX11_added_46
  · have hf := xf hf c3
    refine lv_iload_n hx hb dX11_added_12 rfl (lv_at hl 2 rfl) ?_
    refine lv_i2l hx hb dX11_added_13 rfl ?_
    refine lv_lconst (v := (0 : Int64)) hx hb dX11_added_14 rfl ?_
    refine lv_lconst (v := (1 : Int64)) hx hb dX11_added_15 rfl ?_
    obtain ⟨o4, ho4, hf⟩ := ob_s hf
    refine xS_i (As := [.long (Int32.toInt64 x1), .long (0 : Int64), .long (1 : Int64)]) (rest := []) (ws2 := [(a_this, .inr (11, [.int i_length, .ref a_text, .ref a_roundMany, .ref a_blowMany, .ref a_blows, .ref a_forwards, .ref a_downs, .ref a_takens, .ref a_homes, .ref a_noises, .ref a_judgeMany, .ref a_judges, .ref a_delays, .ref a_tolds, .ref a_tens, .int i_keptMany, .int i_place, .ref a_told, .ref a_ways, .ref a_nextWays, .ref a_tallies, .ref a_presses, .ref a_values, .ref a_nextValues])), (a_blowMany, .inl (X.2.1 0, 2, .inl f_blowMany)), (a_blows, .inl (X.2.1 0, 400, .inl f_blows)), (a_downs, .inl (X.2.1 0, 48, .inl f_downs)), (a_forwards, .inl (X.2.1 0, 48, .inl f_forwards)), (a_homes, .inl (X.2.1 0, 2, .inl f_homes)), (a_judges, .inl (X.2.1 0, 112, .inl f_judges)), (a_noises, .inl (X.2.1 0, 2, .inl f_noises)), (a_roundMany, .inl (X.2.1 0, 2, .inl f_roundMany)), (a_takens, .inl (X.2.1 0, 48, .inl f_takens))]) hx hb hml hts hown hG hA hP hD rfl hS hl.1 (qX11_in l X (Int32.toInt64 x1) (0 : Int64) (1 : Int64) o4 ho4) (va_cwS (y := yX11_in) 3 hts gX11_added_X11_in rfl rfl rfl hdsX11_in ⟨Nat.le_of_ble_eq_true rfl, Nat.le_of_ble_eq_true rfl⟩) [] [0, 1, 2, 3, 4, 5, 6, 7, 8, 9] [0, 1, 2, 3, 4, 5, 6, 7, 8, 9] rfl rfl rfl rfl rfl rfl rfl rfl rfl (Nat.le_of_ble_eq_true rfl) ⟨Nat.le_of_ble_eq_true rfl, Nat.le_of_ble_eq_true rfl⟩ dX11_added_16 (fun H locs hP _ hS => ?_)
    refine lv_if_eq (tgt := 45) hx hb dX11_added_19 (by decide) (fun c6 => ?_) (fun c6 => ?_)
    · have hf := xt hf c6
      refine lv_iconst (v := (-1 : Int32)) hx hb dX11_added_45 (by decide) ?_
      obtain rfl := Option.some.inj hf
      exact ret H _ ls _ rfl hP hD hS dX11_added_46
    · have hf := xf hf c6
      refine lv_iload_n hx hb dX11_added_22 rfl (lv_at hl 3 rfl) ?_
      obtain ⟨o7, ho7, hf⟩ := ob_s hf
      refine xS_i (As := [.int x2]) (rest := []) (ws2 := [(a_this, .inr (11, [.int i_length, .ref a_text, .ref a_roundMany, .ref a_blowMany, .ref a_blows, .ref a_forwards, .ref a_downs, .ref a_takens, .ref a_homes, .ref a_noises, .ref a_judgeMany, .ref a_judges, .ref a_delays, .ref a_tolds, .ref a_tens, .int i_keptMany, .int i_place, .ref a_told, .ref a_ways, .ref a_nextWays, .ref a_tallies, .ref a_presses, .ref a_values, .ref a_nextValues])), (a_blowMany, .inl (X.2.1 0, 2, .inl f_blowMany)), (a_blows, .inl (X.2.1 0, 400, .inl f_blows)), (a_downs, .inl (X.2.1 0, 48, .inl f_downs)), (a_forwards, .inl (X.2.1 0, 48, .inl f_forwards)), (a_homes, .inl (X.2.1 0, 2, .inl f_homes)), (a_judges, .inl (X.2.1 0, 112, .inl f_judges)), (a_noises, .inl (X.2.1 0, 2, .inl f_noises)), (a_roundMany, .inl (X.2.1 0, 2, .inl f_roundMany)), (a_takens, .inl (X.2.1 0, 48, .inl f_takens))]) hx hb hml hts hown hG hA hP hD rfl hS hl.1 (qX11_areTold l X x2 o7 ho7) (va_cwS (y := yX11_areTold) 1 hts gX11_added_X11_areTold rfl rfl rfl hdsX11_areTold ⟨Nat.le_of_ble_eq_true rfl, Nat.le_of_ble_eq_true rfl⟩) [] [0, 1, 2, 3, 4, 5, 6, 7, 8, 9] [0, 1, 2, 3, 4, 5, 6, 7, 8, 9] rfl rfl rfl rfl rfl rfl rfl rfl rfl (Nat.le_of_ble_eq_true rfl) ⟨Nat.le_of_ble_eq_true rfl, Nat.le_of_ble_eq_true rfl⟩ dX11_added_23 (fun H locs hP _ hS => ?_)
      refine lv_if_eq (tgt := 45) hx hb dX11_added_26 (by decide) (fun c9 => ?_) (fun c9 => ?_)
      · have hf := xt hf c9
        refine lv_iconst (v := (-1 : Int32)) hx hb dX11_added_45 (by decide) ?_
        obtain rfl := Option.some.inj hf
        exact ret H _ ls _ rfl hP hD hS dX11_added_46
      · have hf := xf hf c9
        refine lv_iload hx hb dX11_added_29 (lv_at hl 4 rfl) ?_
        obtain ⟨o10, ho10, hf⟩ := ob_s hf
        refine xS_i (As := [.int x3]) (rest := []) (ws2 := [(a_this, .inr (11, [.int i_length, .ref a_text, .ref a_roundMany, .ref a_blowMany, .ref a_blows, .ref a_forwards, .ref a_downs, .ref a_takens, .ref a_homes, .ref a_noises, .ref a_judgeMany, .ref a_judges, .ref a_delays, .ref a_tolds, .ref a_tens, .int i_keptMany, .int i_place, .ref a_told, .ref a_ways, .ref a_nextWays, .ref a_tallies, .ref a_presses, .ref a_values, .ref a_nextValues])), (a_blowMany, .inl (X.2.1 0, 2, .inl f_blowMany)), (a_blows, .inl (X.2.1 0, 400, .inl f_blows)), (a_downs, .inl (X.2.1 0, 48, .inl f_downs)), (a_forwards, .inl (X.2.1 0, 48, .inl f_forwards)), (a_homes, .inl (X.2.1 0, 2, .inl f_homes)), (a_judges, .inl (X.2.1 0, 112, .inl f_judges)), (a_noises, .inl (X.2.1 0, 2, .inl f_noises)), (a_roundMany, .inl (X.2.1 0, 2, .inl f_roundMany)), (a_takens, .inl (X.2.1 0, 48, .inl f_takens))]) hx hb hml hts hown hG hA hP hD rfl hS hl.1 (qX11_areTold l X x3 o10 ho10) (va_cwS (y := yX11_areTold) 1 hts gX11_added_X11_areTold rfl rfl rfl hdsX11_areTold ⟨Nat.le_of_ble_eq_true rfl, Nat.le_of_ble_eq_true rfl⟩) [] [0, 1, 2, 3, 4, 5, 6, 7, 8, 9] [0, 1, 2, 3, 4, 5, 6, 7, 8, 9] rfl rfl rfl rfl rfl rfl rfl rfl rfl (Nat.le_of_ble_eq_true rfl) ⟨Nat.le_of_ble_eq_true rfl, Nat.le_of_ble_eq_true rfl⟩ dX11_added_31 (fun H locs hP _ hS => ?_)
        refine lv_if_eq (tgt := 45) hx hb dX11_added_34 (by decide) (fun c12 => ?_) (fun c12 => ?_)
        · have hf := xt hf c12
          refine lv_iconst (v := (-1 : Int32)) hx hb dX11_added_45 (by decide) ?_
          obtain rfl := Option.some.inj hf
          exact ret H _ ls _ rfl hP hD hS dX11_added_46
        · have hf := xf hf c12
          refine lv_iload hx hb dX11_added_37 (lv_at hl 5 rfl) ?_
          obtain ⟨o13, ho13, hf⟩ := ob_s hf
          refine xS_i (As := [.int x4]) (rest := []) (ws2 := [(a_this, .inr (11, [.int i_length, .ref a_text, .ref a_roundMany, .ref a_blowMany, .ref a_blows, .ref a_forwards, .ref a_downs, .ref a_takens, .ref a_homes, .ref a_noises, .ref a_judgeMany, .ref a_judges, .ref a_delays, .ref a_tolds, .ref a_tens, .int i_keptMany, .int i_place, .ref a_told, .ref a_ways, .ref a_nextWays, .ref a_tallies, .ref a_presses, .ref a_values, .ref a_nextValues])), (a_blowMany, .inl (X.2.1 0, 2, .inl f_blowMany)), (a_blows, .inl (X.2.1 0, 400, .inl f_blows)), (a_downs, .inl (X.2.1 0, 48, .inl f_downs)), (a_forwards, .inl (X.2.1 0, 48, .inl f_forwards)), (a_homes, .inl (X.2.1 0, 2, .inl f_homes)), (a_judges, .inl (X.2.1 0, 112, .inl f_judges)), (a_noises, .inl (X.2.1 0, 2, .inl f_noises)), (a_roundMany, .inl (X.2.1 0, 2, .inl f_roundMany)), (a_takens, .inl (X.2.1 0, 48, .inl f_takens))]) hx hb hml hts hown hG hA hP hD rfl hS hl.1 (qX11_areTold l X x4 o13 ho13) (va_cwS (y := yX11_areTold) 1 hts gX11_added_X11_areTold rfl rfl rfl hdsX11_areTold ⟨Nat.le_of_ble_eq_true rfl, Nat.le_of_ble_eq_true rfl⟩) [] [0, 1, 2, 3, 4, 5, 6, 7, 8, 9] [0, 1, 2, 3, 4, 5, 6, 7, 8, 9] rfl rfl rfl rfl rfl rfl rfl rfl rfl (Nat.le_of_ble_eq_true rfl) ⟨Nat.le_of_ble_eq_true rfl, Nat.le_of_ble_eq_true rfl⟩ dX11_added_39 (fun H locs hP _ hS => ?_)
          refine lv_if_ne (tgt := 47) hx hb dX11_added_42 (by decide) (fun c15 => ?_) (fun c15 => ?_)
          · have hf := xf hf c15
            refine lv_iconst (v := (0 : Int32)) hx hb dX11_added_47 (by decide) ?_
            refine lv_istore (lv' := [(6, .int (0 : Int32)), (0, .ref a_this), (1, .int x0), (2, .int x1), (3, .int x2), (4, .int x3), (5, .int x4)]) hx hb dX11_added_48 hl (by decide) rfl (fun ls hl => ?_)
            exact hL50  FUEL (0 : Int32)  H _ ls hP  hS (lv_sub hl [1, 2, 3, 4, 5, 6, 0] rfl) hf
          · have hf := xt hf c15
            refine lv_iconst (v := (-1 : Int32)) hx hb dX11_added_45 (by decide) ?_
            obtain rfl := Option.some.inj hf
            exact ret H _ ls _ rfl hP hD hS dX11_added_46
def mX11_tenths (x0 : Int32) (x1 : Int32) (x2 : Int32) (f_tens : Nat → Int32) :
  Option (Int32 × (Nat → Int32)) :=
  (mX11_in (Int32.toInt64 x0) (0 : Int64) (1 : Int64)).bind fun o1 =>
  if o1 = 0 then (some ((-1 : Int32), f_tens)) else ((mX11_in (Int32.toInt64 x1) (0 : Int64) (1 : Int64)).bind fun o4 =>
  if o4 = 0 then (some ((-1 : Int32), f_tens)) else ((mX11_in (Int32.toInt64 x2) (0 : Int64) (10 : Int64)).bind fun o7 =>
  if o7 = 0 then (some ((-1 : Int32), f_tens)) else (gi (((2 : Int32) * x0) + x1) 12 <|
  lb (f_tens (((2 : Int32) * x0) + x1).toNatClampNeg) fun v11 =>
  gi (((2 : Int32) * x0) + x1) 12 <|
  lb (upd f_tens (((2 : Int32) * x0) + x1).toNatClampNeg x2) fun g13 =>
  some (v11, g13))))
theorem hdsX11_tenths : yX11_tenths.cls ≠ "java/lang/invoke/MethodHandle" ∧ yX11_tenths.cls ≠ "java/lang/invoke/VarHandle" ∧ (parseMethodDescriptor yX11_tenths.desc).map (fun d => d.parameters.length) = some 3 := by decide +kernel
theorem hdvX11_tenths : yX11_tenths.cls = RX11 ∧ yX11_tenths.cls ≠ "java/lang/invoke/MethodHandle" ∧ yX11_tenths.cls ≠ "java/lang/invoke/VarHandle" ∧ (parseMethodDescriptor yX11_tenths.desc).map (fun d => d.parameters.length) = some 3 := by decide +kernel
abbrev rmX11_tenths : Room := { frames := 1, cells := 0, slots := 0, locals := 25 }
set_option maxHeartbeats 4000000 in
set_option maxRecDepth 100000 in
theorem qX11_tenths (l : Launch) (X : XT) (a_this : Nat) (a_tens : Nat) (a_text : Nat) (a_roundMany : Nat) (a_blowMany : Nat) (a_blows : Nat) (a_forwards : Nat) (a_downs : Nat) (a_takens : Nat) (a_homes : Nat) (a_noises : Nat) (a_judgeMany : Nat) (a_judges : Nat) (a_delays : Nat) (a_tolds : Nat) (a_told : Nat) (a_ways : Nat) (a_nextWays : Nat) (a_tallies : Nat) (a_presses : Nat) (a_values : Nat) (a_nextValues : Nat)  (i_length : Int32) (i_keptMany : Int32) (i_place : Int32) (f_tens : Nat → Int32) (x0 : Int32) (x1 : Int32) (x2 : Int32) (o : Int32 × (Nat → Int32)) (hf : mX11_tenths x0 x1 x2 f_tens = some o) :
    MI l yX11_tenths wsX11_tenths rmX11_tenths X [.ref a_this, .int x0, .int x1, .int x2] [(a_this, .inr (11, [.int i_length, .ref a_text, .ref a_roundMany, .ref a_blowMany, .ref a_blows, .ref a_forwards, .ref a_downs, .ref a_takens, .ref a_homes, .ref a_noises, .ref a_judgeMany, .ref a_judges, .ref a_delays, .ref a_tolds, .ref a_tens, .int i_keptMany, .int i_place, .ref a_told, .ref a_ways, .ref a_nextWays, .ref a_tallies, .ref a_presses, .ref a_values, .ref a_nextValues])), (a_tens, .inl (X.2.1 0, 12, .inl f_tens))]  [(a_this, .inr (11, [.int i_length, .ref a_text, .ref a_roundMany, .ref a_blowMany, .ref a_blows, .ref a_forwards, .ref a_downs, .ref a_takens, .ref a_homes, .ref a_noises, .ref a_judgeMany, .ref a_judges, .ref a_delays, .ref a_tolds, .ref a_tens, .int i_keptMany, .int i_place, .ref a_told, .ref a_ways, .ref a_nextWays, .ref a_tallies, .ref a_presses, .ref a_values, .ref a_nextValues])), (a_tens, .inl (X.2.1 0, 12, .inl o.2))] o.1 := by
  refine MI_ofH (cc := cX11_tenths) (maxL := 5) (rt := .int) (by decide) rfl (Nat.le_of_ble_eq_true rfl) ?_
  intro p e s m below meth c A Q H ls hx hb hml hts hown hA hD hG hP hS hl ret
  have hown : s.vm.findClass RX11 = some m.cls := hown
  have hD : aD A [a_this, a_tens] := hD
  have hl : lv_has ls 5 [(0, .ref a_this), (1, .int x0), (2, .int x1), (3, .int x2)] := hl
  have w1 := hts (.constantLong RX11 263 (10)) (List.mem_of_getElem? (i := 1) rfl)
  have w2 := hts (.fieldLink RX11 49 "ThreeCardsModel" "tens" "[I") (List.mem_of_getElem? (i := 2) rfl)
  have in11 : ∀ w ∈ u_ws RX11 TX11 24, w ∈ wsX11_tenths := by decide +kernel
  unfold mX11_tenths at hf
  refine lv_iload_n hx hb dX11_tenths_0 rfl (lv_at hl 1 rfl) ?_
  refine lv_i2l hx hb dX11_tenths_1 rfl ?_
  refine lv_lconst (v := (0 : Int64)) hx hb dX11_tenths_2 rfl ?_
  refine lv_lconst (v := (1 : Int64)) hx hb dX11_tenths_3 rfl ?_
  obtain ⟨o1, ho1, hf⟩ := ob_s hf
  refine xS_i (As := [.long (Int32.toInt64 x0), .long (0 : Int64), .long (1 : Int64)]) (rest := []) (ws2 := [(a_this, .inr (11, [.int i_length, .ref a_text, .ref a_roundMany, .ref a_blowMany, .ref a_blows, .ref a_forwards, .ref a_downs, .ref a_takens, .ref a_homes, .ref a_noises, .ref a_judgeMany, .ref a_judges, .ref a_delays, .ref a_tolds, .ref a_tens, .int i_keptMany, .int i_place, .ref a_told, .ref a_ways, .ref a_nextWays, .ref a_tallies, .ref a_presses, .ref a_values, .ref a_nextValues])), (a_tens, .inl (X.2.1 0, 12, .inl f_tens))]) hx hb hml hts hown hG hA hP hD rfl hS hl.1 (qX11_in l X (Int32.toInt64 x0) (0 : Int64) (1 : Int64) o1 ho1) (va_cwS (y := yX11_in) 3 hts gX11_tenths_X11_in rfl rfl rfl hdsX11_in ⟨Nat.le_of_ble_eq_true rfl, Nat.le_of_ble_eq_true rfl⟩) [] [0, 1] [0, 1] rfl rfl rfl rfl rfl rfl rfl rfl rfl (Nat.le_of_ble_eq_true rfl) ⟨Nat.le_of_ble_eq_true rfl, Nat.le_of_ble_eq_true rfl⟩ dX11_tenths_4 (fun H locs hP _ hS => ?_)
  refine lv_if_eq (tgt := 32) hx hb dX11_tenths_7 (by decide) (fun c3 => ?_) (fun c3 => ?_)
  · have hf := xt hf c3
    refine lv_iconst (v := (-1 : Int32)) hx hb dX11_tenths_32 (by decide) ?_
    obtain rfl := Option.some.inj hf
    exact ret H _ ls _ rfl hP hD hS dX11_tenths_33
  · have hf := xf hf c3
    refine lv_iload_n hx hb dX11_tenths_10 rfl (lv_at hl 2 rfl) ?_
    refine lv_i2l hx hb dX11_tenths_11 rfl ?_
    refine lv_lconst (v := (0 : Int64)) hx hb dX11_tenths_12 rfl ?_
    refine lv_lconst (v := (1 : Int64)) hx hb dX11_tenths_13 rfl ?_
    obtain ⟨o4, ho4, hf⟩ := ob_s hf
    refine xS_i (As := [.long (Int32.toInt64 x1), .long (0 : Int64), .long (1 : Int64)]) (rest := []) (ws2 := [(a_this, .inr (11, [.int i_length, .ref a_text, .ref a_roundMany, .ref a_blowMany, .ref a_blows, .ref a_forwards, .ref a_downs, .ref a_takens, .ref a_homes, .ref a_noises, .ref a_judgeMany, .ref a_judges, .ref a_delays, .ref a_tolds, .ref a_tens, .int i_keptMany, .int i_place, .ref a_told, .ref a_ways, .ref a_nextWays, .ref a_tallies, .ref a_presses, .ref a_values, .ref a_nextValues])), (a_tens, .inl (X.2.1 0, 12, .inl f_tens))]) hx hb hml hts hown hG hA hP hD rfl hS hl.1 (qX11_in l X (Int32.toInt64 x1) (0 : Int64) (1 : Int64) o4 ho4) (va_cwS (y := yX11_in) 3 hts gX11_tenths_X11_in rfl rfl rfl hdsX11_in ⟨Nat.le_of_ble_eq_true rfl, Nat.le_of_ble_eq_true rfl⟩) [] [0, 1] [0, 1] rfl rfl rfl rfl rfl rfl rfl rfl rfl (Nat.le_of_ble_eq_true rfl) ⟨Nat.le_of_ble_eq_true rfl, Nat.le_of_ble_eq_true rfl⟩ dX11_tenths_14 (fun H locs hP _ hS => ?_)
    refine lv_if_eq (tgt := 32) hx hb dX11_tenths_17 (by decide) (fun c6 => ?_) (fun c6 => ?_)
    · have hf := xt hf c6
      refine lv_iconst (v := (-1 : Int32)) hx hb dX11_tenths_32 (by decide) ?_
      obtain rfl := Option.some.inj hf
      exact ret H _ ls _ rfl hP hD hS dX11_tenths_33
    · have hf := xf hf c6
      refine lv_iload_n hx hb dX11_tenths_20 rfl (lv_at hl 3 rfl) ?_
      refine lv_i2l hx hb dX11_tenths_21 rfl ?_
      refine lv_lconst (v := (0 : Int64)) hx hb dX11_tenths_22 rfl ?_
      refine lv_ldc2 (v := (10 : Int64)) hx hb hown w1 dX11_tenths_23 ?_
      obtain ⟨o7, ho7, hf⟩ := ob_s hf
      refine xS_i (As := [.long (Int32.toInt64 x2), .long (0 : Int64), .long (10 : Int64)]) (rest := []) (ws2 := [(a_this, .inr (11, [.int i_length, .ref a_text, .ref a_roundMany, .ref a_blowMany, .ref a_blows, .ref a_forwards, .ref a_downs, .ref a_takens, .ref a_homes, .ref a_noises, .ref a_judgeMany, .ref a_judges, .ref a_delays, .ref a_tolds, .ref a_tens, .int i_keptMany, .int i_place, .ref a_told, .ref a_ways, .ref a_nextWays, .ref a_tallies, .ref a_presses, .ref a_values, .ref a_nextValues])), (a_tens, .inl (X.2.1 0, 12, .inl f_tens))]) hx hb hml hts hown hG hA hP hD rfl hS hl.1 (qX11_in l X (Int32.toInt64 x2) (0 : Int64) (10 : Int64) o7 ho7) (va_cwS (y := yX11_in) 3 hts gX11_tenths_X11_in rfl rfl rfl hdsX11_in ⟨Nat.le_of_ble_eq_true rfl, Nat.le_of_ble_eq_true rfl⟩) [] [0, 1] [0, 1] rfl rfl rfl rfl rfl rfl rfl rfl rfl (Nat.le_of_ble_eq_true rfl) ⟨Nat.le_of_ble_eq_true rfl, Nat.le_of_ble_eq_true rfl⟩ dX11_tenths_26 (fun H locs hP _ hS => ?_)
      refine lv_if_ne (tgt := 34) hx hb dX11_tenths_29 (by decide) (fun c9 => ?_) (fun c9 => ?_)
      · have hf := xf hf c9
        refine lv_aload_n hx hb dX11_tenths_34 rfl (lv_at hl 0 rfl) ?_
        refine va_get (D := X.1) (ci := 11) (v := .ref a_tens) (C := RX11) (T := TX11) (N := 24) hx hb hts in11 hown hG.1 hP 0 rfl rfl 14 (by decide) w2 (fun _ h9 => h9) rfl dX11_tenths_35 ?_
        refine lv_iconst (v := (2 : Int32)) hx hb dX11_tenths_38 (by decide) ?_
        refine lv_iload_n hx hb dX11_tenths_39 rfl (lv_at hl 1 rfl) ?_
        refine lv_imul hx hb dX11_tenths_40 ?_
        refine lv_iload_n hx hb dX11_tenths_41 rfl (lv_at hl 2 rfl) ?_
        refine lv_iadd hx hb dX11_tenths_42 ?_
        obtain ⟨h10, hf⟩ := gi_s hf
        refine va_iald (D := X.1) hx hb hG.1 hP 1 0 rfl rfl h10 dX11_tenths_43 ?_
        refine lv_topi (fun v11 ev11 => ?_)
        have hf := lb_s hf ev11
        refine lv_istore (lv' := [(4, .int v11), (0, .ref a_this), (1, .int x0), (2, .int x1), (3, .int x2)]) hx hb dX11_tenths_44 hl (by decide) rfl (fun ls hl => ?_)
        refine lv_aload_n hx hb dX11_tenths_46 rfl (lv_at hl 1 rfl) ?_
        refine va_get (D := X.1) (ci := 11) (v := .ref a_tens) (C := RX11) (T := TX11) (N := 24) hx hb hts in11 hown hG.1 hP 0 rfl rfl 14 (by decide) w2 (fun _ h9 => h9) rfl dX11_tenths_47 ?_
        refine lv_iconst (v := (2 : Int32)) hx hb dX11_tenths_50 (by decide) ?_
        refine lv_iload_n hx hb dX11_tenths_51 rfl (lv_at hl 2 rfl) ?_
        refine lv_imul hx hb dX11_tenths_52 ?_
        refine lv_iload_n hx hb dX11_tenths_53 rfl (lv_at hl 3 rfl) ?_
        refine lv_iadd hx hb dX11_tenths_54 ?_
        refine lv_iload_n hx hb dX11_tenths_55 rfl (lv_at hl 4 rfl) ?_
        obtain ⟨h12, hf⟩ := gi_s hf
        obtain ⟨g13, eg13, hf⟩ := lb_g hf
        refine x_iast (ws' := [(a_this, .inr (11, [.int i_length, .ref a_text, .ref a_roundMany, .ref a_blowMany, .ref a_blows, .ref a_forwards, .ref a_downs, .ref a_takens, .ref a_homes, .ref a_noises, .ref a_judgeMany, .ref a_judges, .ref a_delays, .ref a_tolds, .ref a_tens, .int i_keptMany, .int i_place, .ref a_told, .ref a_ways, .ref a_nextWays, .ref a_tallies, .ref a_presses, .ref a_values, .ref a_nextValues])), (a_tens, .inl (X.2.1 0, 12, .inl g13))]) hx hb hG hP hD rfl hS 1 rfl h12 dX11_tenths_56 eg13 rfl (fun H locs hP hS => ?_)
        refine lv_iload hx hb dX11_tenths_57 (lv_at hl 0 rfl) ?_
        obtain rfl := Option.some.inj hf
        exact ret H _ ls _ rfl hP hD hS dX11_tenths_59
      · have hf := xt hf c9
        refine lv_iconst (v := (-1 : Int32)) hx hb dX11_tenths_32 (by decide) ?_
        obtain rfl := Option.some.inj hf
        exact ret H _ ls _ rfl hP hD hS dX11_tenths_33
def mX11_endValues_B38 (k2 : Int32 → (Nat → Int32) → Option ((Nat → Int32))) (l1 : Int32) (s1 : Int32) (s2 : Int32) (f_values : Nat → Int32) :
  Option ((Nat → Int32)) :=
  gi s1 51 <|
  lb (upd f_values s1.toNatClampNeg s2) fun g5 =>
  lb (l1 + (1 : Int32)) fun v6 =>
  k2 v6 g5
def mX11_endValues_B2 (k2 : Int32 → (Nat → Int32) → Option ((Nat → Int32))) (l1 : Int32) (f_values : Nat → Int32) :
  Option ((Nat → Int32)) :=
  if (51 : Int32) ≤ l1 then (some f_values) else (if l1 ≤ (25 : Int32) then (if l1 = (25 : Int32) then (mX11_endValues_B38  k2 l1 l1 (500000 : Int32) f_values) else (mX11_endValues_B38  k2 l1 l1 (0 : Int32) f_values)) else (mX11_endValues_B38  k2 l1 l1 (1000000 : Int32) f_values))
def mX11_endValues_L2  (n : Nat) (l1 : Int32) (f_values : Nat → Int32) :
  Option ((Nat → Int32)) :=
  loopN (fun k (s : Int32 × (Nat → Int32)) => mX11_endValues_B2   (fun l1 f_values => k (l1, f_values)) s.1 s.2) n (l1, f_values)
def mX11_endValues (f_values : Nat → Int32) :
  Option ((Nat → Int32)) :=
  mX11_endValues_L2   FUEL (0 : Int32) f_values
theorem hdsX11_endValues : yX11_endValues.cls ≠ "java/lang/invoke/MethodHandle" ∧ yX11_endValues.cls ≠ "java/lang/invoke/VarHandle" ∧ (parseMethodDescriptor yX11_endValues.desc).map (fun d => d.parameters.length) = some 0 := by decide +kernel
theorem hdvX11_endValues : yX11_endValues.cls = RX11 ∧ yX11_endValues.cls ≠ "java/lang/invoke/MethodHandle" ∧ yX11_endValues.cls ≠ "java/lang/invoke/VarHandle" ∧ (parseMethodDescriptor yX11_endValues.desc).map (fun d => d.parameters.length) = some 0 := by decide +kernel
abbrev rmX11_endValues : Room := { frames := 0, cells := 0, slots := 0, locals := 0 }
set_option maxHeartbeats 4000000 in
set_option maxRecDepth 100000 in
theorem qX11_endValues (l : Launch) (X : XT) (a_this : Nat) (a_values : Nat) (a_text : Nat) (a_roundMany : Nat) (a_blowMany : Nat) (a_blows : Nat) (a_forwards : Nat) (a_downs : Nat) (a_takens : Nat) (a_homes : Nat) (a_noises : Nat) (a_judgeMany : Nat) (a_judges : Nat) (a_delays : Nat) (a_tolds : Nat) (a_tens : Nat) (a_told : Nat) (a_ways : Nat) (a_nextWays : Nat) (a_tallies : Nat) (a_presses : Nat) (a_nextValues : Nat)  (i_length : Int32) (i_keptMany : Int32) (i_place : Int32) (f_values : Nat → Int32)  (o : (Nat → Int32)) (hf : mX11_endValues f_values = some o) :
    MC l yX11_endValues wsX11_endValues rmX11_endValues X [.ref a_this] [(a_this, .inr (11, [.int i_length, .ref a_text, .ref a_roundMany, .ref a_blowMany, .ref a_blows, .ref a_forwards, .ref a_downs, .ref a_takens, .ref a_homes, .ref a_noises, .ref a_judgeMany, .ref a_judges, .ref a_delays, .ref a_tolds, .ref a_tens, .int i_keptMany, .int i_place, .ref a_told, .ref a_ways, .ref a_nextWays, .ref a_tallies, .ref a_presses, .ref a_values, .ref a_nextValues])), (a_values, .inl (X.2.1 0, 51, .inl f_values))]  (fun _ => [(a_this, .inr (11, [.int i_length, .ref a_text, .ref a_roundMany, .ref a_blowMany, .ref a_blows, .ref a_forwards, .ref a_downs, .ref a_takens, .ref a_homes, .ref a_noises, .ref a_judgeMany, .ref a_judges, .ref a_delays, .ref a_tolds, .ref a_tens, .int i_keptMany, .int i_place, .ref a_told, .ref a_ways, .ref a_nextWays, .ref a_tallies, .ref a_presses, .ref a_values, .ref a_nextValues])), (a_values, .inl (X.2.1 0, 51, .inl o))]) 0 0 := by
  refine MC_ofH (cc := cX11_endValues) (maxL := 2) (by decide) rfl (Nat.le_of_ble_eq_true rfl) ?_
  intro p e s m below meth c A Q H ls hx hb hml hts hown hin hA hD hG hP hS hl ret
  have hown : s.vm.findClass RX11 = some m.cls := hown
  have hD : aD A [a_this, a_values] := hD
  have hl : lv_has ls 2 [(0, .ref a_this)] := hl
  have w1 := hts (.fieldLink RX11 68 "ThreeCardsModel" "values" "[I") (List.mem_of_getElem? (i := 1) rfl)
  have w2 := hts (.constant RX11 265 (1000000)) (List.mem_of_getElem? (i := 2) rfl)
  have w3 := hts (.constant RX11 266 (500000)) (List.mem_of_getElem? (i := 3) rfl)
  have in11 : ∀ w ∈ u_ws RX11 TX11 24, w ∈ wsX11_endValues := by decide +kernel
  have hB38 : ∀ (k2 : Int32 → (Nat → Int32) → Option ((Nat → Int32))) (hk2 : ∀ (l1 : Int32) (f_values : Nat → Int32)  (H : Heap) (locs : List Loc) (ls : Array Slot), va_P X.1 vwCl [(a_this, .inr (11, [.int i_length, .ref a_text, .ref a_roundMany, .ref a_blowMany, .ref a_blows, .ref a_forwards, .ref a_downs, .ref a_takens, .ref a_homes, .ref a_noises, .ref a_judgeMany, .ref a_judges, .ref a_delays, .ref a_tolds, .ref a_tens, .int i_keptMany, .int i_place, .ref a_told, .ref a_ways, .ref a_nextWays, .ref a_tallies, .ref a_presses, .ref a_values, .ref a_nextValues])), (a_values, .inl (X.2.1 0, 51, .inl f_values))] H → va_S A s.heap H locs → lv_has ls 2 [(0, .ref a_this), (1, .int l1)] → k2 l1 f_values = some o → W p l e rmX11_endValues s m ([.ref a_this] : List Value).toArray below meth c H locs 0 0 Q (F0 m 2 ls [])) (l1 : Int32) (s1 : Int32) (s2 : Int32) (f_values : Nat → Int32)  (H : Heap) (locs : List Loc) (ls : Array Slot), va_P X.1 vwCl [(a_this, .inr (11, [.int i_length, .ref a_text, .ref a_roundMany, .ref a_blowMany, .ref a_blows, .ref a_forwards, .ref a_downs, .ref a_takens, .ref a_homes, .ref a_noises, .ref a_judgeMany, .ref a_judges, .ref a_delays, .ref a_tolds, .ref a_tens, .int i_keptMany, .int i_place, .ref a_told, .ref a_ways, .ref a_nextWays, .ref a_tallies, .ref a_presses, .ref a_values, .ref a_nextValues])), (a_values, .inl (X.2.1 0, 51, .inl f_values))] H → va_S A s.heap H locs → lv_has ls 2 [(0, .ref a_this), (1, .int l1)] → mX11_endValues_B38  k2 l1 s1 s2 f_values = some o → W p l e rmX11_endValues s m ([.ref a_this] : List Value).toArray below meth c H locs 0 0 Q (F0 m 38 ls [.int s2, .int s1, .ref a_values]) := by
    intro k2 hk2 l1 s1 s2 f_values  H locs ls hP hS hl hf
    unfold mX11_endValues_B38 at hf
    obtain ⟨h4, hf⟩ := gi_s hf
    obtain ⟨g5, eg5, hf⟩ := lb_g hf
    refine x_iast (ws' := [(a_this, .inr (11, [.int i_length, .ref a_text, .ref a_roundMany, .ref a_blowMany, .ref a_blows, .ref a_forwards, .ref a_downs, .ref a_takens, .ref a_homes, .ref a_noises, .ref a_judgeMany, .ref a_judges, .ref a_delays, .ref a_tolds, .ref a_tens, .int i_keptMany, .int i_place, .ref a_told, .ref a_ways, .ref a_nextWays, .ref a_tallies, .ref a_presses, .ref a_values, .ref a_nextValues])), (a_values, .inl (X.2.1 0, 51, .inl g5))]) hx hb hG hP hD rfl hS 1 rfl h4 dX11_endValues_38 eg5 rfl (fun H locs hP hS => ?_)
    obtain ⟨v6, ev6, hf⟩ := lb_g hf
    refine lv_iinc (v := v6) (lv' := [(1, .int v6), (0, .ref a_this)]) hx hb dX11_endValues_39 hl (k := 1) rfl ev6.symm (by decide) rfl (fun ls hl => ?_)
    refine lv_goto (tgt := 2) hx hb dX11_endValues_42 (by decide) ?_
    exact hk2 v6 g5  H _ ls hP  hS (lv_sub hl [1, 0] rfl) hf
  have hL2 : ∀ (n : Nat) (l1 : Int32) (f_values : Nat → Int32)  (H : Heap) (locs : List Loc) (ls : Array Slot), va_P X.1 vwCl [(a_this, .inr (11, [.int i_length, .ref a_text, .ref a_roundMany, .ref a_blowMany, .ref a_blows, .ref a_forwards, .ref a_downs, .ref a_takens, .ref a_homes, .ref a_noises, .ref a_judgeMany, .ref a_judges, .ref a_delays, .ref a_tolds, .ref a_tens, .int i_keptMany, .int i_place, .ref a_told, .ref a_ways, .ref a_nextWays, .ref a_tallies, .ref a_presses, .ref a_values, .ref a_nextValues])), (a_values, .inl (X.2.1 0, 51, .inl f_values))] H → va_S A s.heap H locs → lv_has ls 2 [(0, .ref a_this), (1, .int l1)] → mX11_endValues_L2   n l1 f_values = some o → W p l e rmX11_endValues s m ([.ref a_this] : List Value).toArray below meth c H locs 0 0 Q (F0 m 2 ls []) := by
    intro n
    induction n with
    | zero => intro l1 f_values  H locs ls hP hS hl hf; exact xn hf
    | succ n ih =>
      intro l1 f_values  H locs ls hP hS hl hf
      have hf : mX11_endValues_B2   (mX11_endValues_L2   n) l1 f_values = some o := hf
      generalize mX11_endValues_L2   n = k2 at ih hf
      unfold mX11_endValues_B2 at hf
      refine lv_iload_n hx hb dX11_endValues_2 rfl (lv_at hl 1 rfl) ?_
      refine lv_bipush (v := (51 : Int32)) hx hb dX11_endValues_3 (by decide) ?_
      refine lv_icmp_ge (tgt := 45) hx hb dX11_endValues_5 (by decide) (fun c1 => ?_) (fun c1 => ?_)
      · have hf := xt hf c1
        obtain rfl := Option.some.inj hf
        exact ret (fun _ => 0) H _ ls _ hP hD hS dX11_endValues_45
      · have hf := xf hf c1
        refine lv_aload_n hx hb dX11_endValues_8 rfl (lv_at hl 0 rfl) ?_
        refine va_get (D := X.1) (ci := 11) (v := .ref a_values) (C := RX11) (T := TX11) (N := 24) hx hb hts in11 hown hG.1 hP 0 rfl rfl 22 (by decide) w1 (fun _ h9 => h9) rfl dX11_endValues_9 ?_
        refine lv_iload_n hx hb dX11_endValues_12 rfl (lv_at hl 1 rfl) ?_
        refine lv_iload_n hx hb dX11_endValues_13 rfl (lv_at hl 1 rfl) ?_
        refine lv_bipush (v := (25 : Int32)) hx hb dX11_endValues_14 (by decide) ?_
        refine lv_icmp_le (tgt := 25) hx hb dX11_endValues_16 (by decide) (fun c2 => ?_) (fun c2 => ?_)
        · have hf := xt hf c2
          refine lv_iload_n hx hb dX11_endValues_25 rfl (lv_at hl 1 rfl) ?_
          refine lv_bipush (v := (25 : Int32)) hx hb dX11_endValues_26 (by decide) ?_
          refine lv_icmp_ne (tgt := 37) hx hb dX11_endValues_28 (by decide) (fun c3 => ?_) (fun c3 => ?_)
          · have hf := xf hf c3
            refine lv_iconst (v := (0 : Int32)) hx hb dX11_endValues_37 (by decide) ?_
            exact hB38 k2 ih l1 l1 (0 : Int32) f_values  H _ ls hP  hS (lv_sub hl [0, 1] rfl) hf
          · have hf := xt hf c3
            refine lv_ldcw (v := (500000 : Int32)) hx hb hown w3 dX11_endValues_31 ?_
            refine lv_goto (tgt := 38) hx hb dX11_endValues_34 (by decide) ?_
            exact hB38 k2 ih l1 l1 (500000 : Int32) f_values  H _ ls hP  hS (lv_sub hl [0, 1] rfl) hf
        · have hf := xf hf c2
          refine lv_ldcw (v := (1000000 : Int32)) hx hb hown w2 dX11_endValues_19 ?_
          refine lv_goto (tgt := 38) hx hb dX11_endValues_22 (by decide) ?_
          exact hB38 k2 ih l1 l1 (1000000 : Int32) f_values  H _ ls hP  hS (lv_sub hl [0, 1] rfl) hf
  unfold mX11_endValues at hf
  refine lv_iconst (v := (0 : Int32)) hx hb dX11_endValues_0 (by decide) ?_
  refine lv_istore_n (lv' := [(1, .int (0 : Int32)), (0, .ref a_this)]) hx hb dX11_endValues_1 rfl hl (by decide) rfl (fun ls hl => ?_)
  exact hL2  FUEL (0 : Int32) f_values  H _ ls hP  hS (lv_sub hl [1, 0] rfl) hf
def mX11_roundBy (x0 : Int32) (x1 : Int32) (x2 : Int32) (f_tens : Nat → Int32) (f_values : Nat → Int32) :
  Option (Int32) :=
  gi (((2 : Int32) * x1) + x2) 12 <|
  lb (f_tens (((2 : Int32) * x1) + x2).toNatClampNeg) fun v2 =>
  gi (x0 + (1 : Int32)) 51 <|
  gi (x0 - (1 : Int32)) 51 <|
  lb ((Int64.toInt32 (((Int32.toInt64 v2) * (Int32.toInt64 (f_values (x0 + (1 : Int32)).toNatClampNeg))) + ((Int32.toInt64 ((10 : Int32) - v2)) * (Int32.toInt64 (f_values (x0 - (1 : Int32)).toNatClampNeg))))) / (10 : Int32)) fun v5 =>
  some v5
theorem hdsX11_roundBy : yX11_roundBy.cls ≠ "java/lang/invoke/MethodHandle" ∧ yX11_roundBy.cls ≠ "java/lang/invoke/VarHandle" ∧ (parseMethodDescriptor yX11_roundBy.desc).map (fun d => d.parameters.length) = some 3 := by decide +kernel
theorem hdvX11_roundBy : yX11_roundBy.cls = RX11 ∧ yX11_roundBy.cls ≠ "java/lang/invoke/MethodHandle" ∧ yX11_roundBy.cls ≠ "java/lang/invoke/VarHandle" ∧ (parseMethodDescriptor yX11_roundBy.desc).map (fun d => d.parameters.length) = some 3 := by decide +kernel
abbrev rmX11_roundBy : Room := { frames := 0, cells := 0, slots := 0, locals := 0 }
set_option maxHeartbeats 4000000 in
set_option maxRecDepth 100000 in
theorem qX11_roundBy (l : Launch) (X : XT) (a_this : Nat) (a_tens : Nat) (a_values : Nat) (a_text : Nat) (a_roundMany : Nat) (a_blowMany : Nat) (a_blows : Nat) (a_forwards : Nat) (a_downs : Nat) (a_takens : Nat) (a_homes : Nat) (a_noises : Nat) (a_judgeMany : Nat) (a_judges : Nat) (a_delays : Nat) (a_tolds : Nat) (a_told : Nat) (a_ways : Nat) (a_nextWays : Nat) (a_tallies : Nat) (a_presses : Nat) (a_nextValues : Nat)  (i_length : Int32) (i_keptMany : Int32) (i_place : Int32) (f_tens : Nat → Int32) (f_values : Nat → Int32) (x0 : Int32) (x1 : Int32) (x2 : Int32) (o : Int32) (hf : mX11_roundBy x0 x1 x2 f_tens f_values = some o) :
    MI l yX11_roundBy wsX11_roundBy rmX11_roundBy X [.ref a_this, .int x0, .int x1, .int x2] [(a_this, .inr (11, [.int i_length, .ref a_text, .ref a_roundMany, .ref a_blowMany, .ref a_blows, .ref a_forwards, .ref a_downs, .ref a_takens, .ref a_homes, .ref a_noises, .ref a_judgeMany, .ref a_judges, .ref a_delays, .ref a_tolds, .ref a_tens, .int i_keptMany, .int i_place, .ref a_told, .ref a_ways, .ref a_nextWays, .ref a_tallies, .ref a_presses, .ref a_values, .ref a_nextValues])), (a_tens, .inl (X.2.1 0, 12, .inl f_tens)), (a_values, .inl (X.2.1 0, 51, .inl f_values))]  [(a_this, .inr (11, [.int i_length, .ref a_text, .ref a_roundMany, .ref a_blowMany, .ref a_blows, .ref a_forwards, .ref a_downs, .ref a_takens, .ref a_homes, .ref a_noises, .ref a_judgeMany, .ref a_judges, .ref a_delays, .ref a_tolds, .ref a_tens, .int i_keptMany, .int i_place, .ref a_told, .ref a_ways, .ref a_nextWays, .ref a_tallies, .ref a_presses, .ref a_values, .ref a_nextValues])), (a_tens, .inl (X.2.1 0, 12, .inl f_tens)), (a_values, .inl (X.2.1 0, 51, .inl f_values))] o := by
  refine MI_ofH (cc := cX11_roundBy) (maxL := 5) (rt := .int) (by decide) rfl (Nat.le_of_ble_eq_true rfl) ?_
  intro p e s m below meth c A Q H ls hx hb hml hts hown hA hD hG hP hS hl ret
  have hown : s.vm.findClass RX11 = some m.cls := hown
  have hD : aD A [a_this, a_tens, a_values] := hD
  have hl : lv_has ls 5 [(0, .ref a_this), (1, .int x0), (2, .int x1), (3, .int x2)] := hl
  have w1 := hts (.fieldLink RX11 49 "ThreeCardsModel" "tens" "[I") (List.mem_of_getElem? (i := 1) rfl)
  have w2 := hts (.fieldLink RX11 68 "ThreeCardsModel" "values" "[I") (List.mem_of_getElem? (i := 2) rfl)
  have in11 : ∀ w ∈ u_ws RX11 TX11 24, w ∈ wsX11_roundBy := by decide +kernel
  unfold mX11_roundBy at hf
  refine lv_aload_n hx hb dX11_roundBy_0 rfl (lv_at hl 0 rfl) ?_
  refine va_get (D := X.1) (ci := 11) (v := .ref a_tens) (C := RX11) (T := TX11) (N := 24) hx hb hts in11 hown hG.1 hP 0 rfl rfl 14 (by decide) w1 (fun _ h9 => h9) rfl dX11_roundBy_1 ?_
  refine lv_iconst (v := (2 : Int32)) hx hb dX11_roundBy_4 (by decide) ?_
  refine lv_iload_n hx hb dX11_roundBy_5 rfl (lv_at hl 2 rfl) ?_
  refine lv_imul hx hb dX11_roundBy_6 ?_
  refine lv_iload_n hx hb dX11_roundBy_7 rfl (lv_at hl 3 rfl) ?_
  refine lv_iadd hx hb dX11_roundBy_8 ?_
  obtain ⟨h1, hf⟩ := gi_s hf
  refine va_iald (D := X.1) hx hb hG.1 hP 1 0 rfl rfl h1 dX11_roundBy_9 ?_
  refine lv_topi (fun v2 ev2 => ?_)
  have hf := lb_s hf ev2
  refine lv_istore (lv' := [(4, .int v2), (0, .ref a_this), (1, .int x0), (2, .int x1), (3, .int x2)]) hx hb dX11_roundBy_10 hl (by decide) rfl (fun ls hl => ?_)
  refine lv_iload hx hb dX11_roundBy_12 (lv_at hl 0 rfl) ?_
  refine lv_i2l hx hb dX11_roundBy_14 rfl ?_
  refine lv_aload_n hx hb dX11_roundBy_15 rfl (lv_at hl 1 rfl) ?_
  refine va_get (D := X.1) (ci := 11) (v := .ref a_values) (C := RX11) (T := TX11) (N := 24) hx hb hts in11 hown hG.1 hP 0 rfl rfl 22 (by decide) w2 (fun _ h9 => h9) rfl dX11_roundBy_16 ?_
  refine lv_iload_n hx hb dX11_roundBy_19 rfl (lv_at hl 2 rfl) ?_
  refine lv_iconst (v := (1 : Int32)) hx hb dX11_roundBy_20 (by decide) ?_
  refine lv_iadd hx hb dX11_roundBy_21 ?_
  obtain ⟨h3, hf⟩ := gi_s hf
  refine va_iald (D := X.1) hx hb hG.1 hP 2 0 rfl rfl h3 dX11_roundBy_22 ?_
  refine lv_i2l hx hb dX11_roundBy_23 rfl ?_
  refine lv_lmul hx hb dX11_roundBy_24 ?_
  refine lv_bipush (v := (10 : Int32)) hx hb dX11_roundBy_25 (by decide) ?_
  refine lv_iload hx hb dX11_roundBy_27 (lv_at hl 0 rfl) ?_
  refine lv_isub hx hb dX11_roundBy_29 ?_
  refine lv_i2l hx hb dX11_roundBy_30 rfl ?_
  refine lv_aload_n hx hb dX11_roundBy_31 rfl (lv_at hl 1 rfl) ?_
  refine va_get (D := X.1) (ci := 11) (v := .ref a_values) (C := RX11) (T := TX11) (N := 24) hx hb hts in11 hown hG.1 hP 0 rfl rfl 22 (by decide) w2 (fun _ h9 => h9) rfl dX11_roundBy_32 ?_
  refine lv_iload_n hx hb dX11_roundBy_35 rfl (lv_at hl 2 rfl) ?_
  refine lv_iconst (v := (1 : Int32)) hx hb dX11_roundBy_36 (by decide) ?_
  refine lv_isub hx hb dX11_roundBy_37 ?_
  obtain ⟨h4, hf⟩ := gi_s hf
  refine va_iald (D := X.1) hx hb hG.1 hP 2 0 rfl rfl h4 dX11_roundBy_38 ?_
  refine lv_i2l hx hb dX11_roundBy_39 rfl ?_
  refine lv_lmul hx hb dX11_roundBy_40 ?_
  refine lv_ladd hx hb dX11_roundBy_41 ?_
  refine lv_l2i hx hb dX11_roundBy_42 rfl ?_
  refine lv_bipush (v := (10 : Int32)) hx hb dX11_roundBy_43 (by decide) ?_
  refine lv_idiv hx hb dX11_roundBy_45 (by decide) ?_
  refine lv_topi (fun v5 ev5 => ?_)
  have hf := lb_s hf ev5
  obtain rfl := Option.some.inj hf
  exact ret H _ ls _ rfl hP hD hS dX11_roundBy_46
def mX11_answer (x0 : Int32) (x1 : Int32) (f_tens : Nat → Int32) (f_values : Nat → Int32) :
  Option (Int32) :=
  (mX11_roundBy x0 x1 (1 : Int32) f_tens f_values).bind fun o1 =>
  (mX11_roundBy x0 x1 (0 : Int32) f_tens f_values).bind fun o3 =>
  if o3 ≤ o1 then (some (0 : Int32)) else (some (1 : Int32))
theorem hdsX11_answer : yX11_answer.cls ≠ "java/lang/invoke/MethodHandle" ∧ yX11_answer.cls ≠ "java/lang/invoke/VarHandle" ∧ (parseMethodDescriptor yX11_answer.desc).map (fun d => d.parameters.length) = some 2 := by decide +kernel
theorem hdvX11_answer : yX11_answer.cls = RX11 ∧ yX11_answer.cls ≠ "java/lang/invoke/MethodHandle" ∧ yX11_answer.cls ≠ "java/lang/invoke/VarHandle" ∧ (parseMethodDescriptor yX11_answer.desc).map (fun d => d.parameters.length) = some 2 := by decide +kernel
abbrev rmX11_answer : Room := { frames := 1, cells := 0, slots := 0, locals := 24 }
set_option maxHeartbeats 4000000 in
set_option maxRecDepth 100000 in
theorem qX11_answer (l : Launch) (X : XT) (a_this : Nat) (a_tens : Nat) (a_values : Nat) (a_text : Nat) (a_roundMany : Nat) (a_blowMany : Nat) (a_blows : Nat) (a_forwards : Nat) (a_downs : Nat) (a_takens : Nat) (a_homes : Nat) (a_noises : Nat) (a_judgeMany : Nat) (a_judges : Nat) (a_delays : Nat) (a_tolds : Nat) (a_told : Nat) (a_ways : Nat) (a_nextWays : Nat) (a_tallies : Nat) (a_presses : Nat) (a_nextValues : Nat)  (i_length : Int32) (i_keptMany : Int32) (i_place : Int32) (f_tens : Nat → Int32) (f_values : Nat → Int32) (x0 : Int32) (x1 : Int32) (o : Int32) (hf : mX11_answer x0 x1 f_tens f_values = some o) :
    MI l yX11_answer wsX11_answer rmX11_answer X [.ref a_this, .int x0, .int x1] [(a_this, .inr (11, [.int i_length, .ref a_text, .ref a_roundMany, .ref a_blowMany, .ref a_blows, .ref a_forwards, .ref a_downs, .ref a_takens, .ref a_homes, .ref a_noises, .ref a_judgeMany, .ref a_judges, .ref a_delays, .ref a_tolds, .ref a_tens, .int i_keptMany, .int i_place, .ref a_told, .ref a_ways, .ref a_nextWays, .ref a_tallies, .ref a_presses, .ref a_values, .ref a_nextValues])), (a_tens, .inl (X.2.1 0, 12, .inl f_tens)), (a_values, .inl (X.2.1 0, 51, .inl f_values))]  [(a_this, .inr (11, [.int i_length, .ref a_text, .ref a_roundMany, .ref a_blowMany, .ref a_blows, .ref a_forwards, .ref a_downs, .ref a_takens, .ref a_homes, .ref a_noises, .ref a_judgeMany, .ref a_judges, .ref a_delays, .ref a_tolds, .ref a_tens, .int i_keptMany, .int i_place, .ref a_told, .ref a_ways, .ref a_nextWays, .ref a_tallies, .ref a_presses, .ref a_values, .ref a_nextValues])), (a_tens, .inl (X.2.1 0, 12, .inl f_tens)), (a_values, .inl (X.2.1 0, 51, .inl f_values))] o := by
  refine MI_ofH (cc := cX11_answer) (maxL := 3) (rt := .int) (by decide) rfl (Nat.le_of_ble_eq_true rfl) ?_
  intro p e s m below meth c A Q H ls hx hb hml hts hown hA hD hG hP hS hl ret
  have hown : s.vm.findClass RX11 = some m.cls := hown
  have hD : aD A [a_this, a_tens, a_values] := hD
  have hl : lv_has ls 3 [(0, .ref a_this), (1, .int x0), (2, .int x1)] := hl
  unfold mX11_answer at hf
  refine lv_aload_n hx hb dX11_answer_0 rfl (lv_at hl 0 rfl) ?_
  refine lv_iload_n hx hb dX11_answer_1 rfl (lv_at hl 1 rfl) ?_
  refine lv_iload_n hx hb dX11_answer_2 rfl (lv_at hl 2 rfl) ?_
  refine lv_iconst (v := (1 : Int32)) hx hb dX11_answer_3 (by decide) ?_
  obtain ⟨o1, ho1, hf⟩ := ob_s hf
  refine xV_i (As := [.int x0, .int x1, .int (1 : Int32)]) (b := a_this) (rest := []) (ws2 := [(a_this, .inr (11, [.int i_length, .ref a_text, .ref a_roundMany, .ref a_blowMany, .ref a_blows, .ref a_forwards, .ref a_downs, .ref a_takens, .ref a_homes, .ref a_noises, .ref a_judgeMany, .ref a_judges, .ref a_delays, .ref a_tolds, .ref a_tens, .int i_keptMany, .int i_place, .ref a_told, .ref a_ways, .ref a_nextWays, .ref a_tallies, .ref a_presses, .ref a_values, .ref a_nextValues])), (a_tens, .inl (X.2.1 0, 12, .inl f_tens)), (a_values, .inl (X.2.1 0, 51, .inl f_values))]) hx hb hml hts hown hG hA hP hD rfl hS hl.1 (qX11_roundBy l X a_this a_tens a_values a_text a_roundMany a_blowMany a_blows a_forwards a_downs a_takens a_homes a_noises a_judgeMany a_judges a_delays a_tolds a_told a_ways a_nextWays a_tallies a_presses a_nextValues i_length i_keptMany i_place f_tens f_values x0 x1 (1 : Int32) o1 ho1) (cwV (y := yX11_roundBy) 3 hts gX11_answer_X11_roundBy rfl rfl rfl hdvX11_roundBy ⟨Nat.le_of_ble_eq_true rfl, Nat.le_of_ble_eq_true rfl⟩) [0, 1, 2] [] [0, 1, 2] rfl rfl rfl rfl rfl rfl rfl (ci := 11) rfl 0 rfl rfl rfl (Nat.le_of_ble_eq_true rfl) ⟨Nat.le_of_ble_eq_true rfl, Nat.le_of_ble_eq_true rfl⟩ dX11_answer_4 (fun H locs hP _ hS => ?_)
  refine lv_aload_n hx hb dX11_answer_7 rfl (lv_at hl 0 rfl) ?_
  refine lv_iload_n hx hb dX11_answer_8 rfl (lv_at hl 1 rfl) ?_
  refine lv_iload_n hx hb dX11_answer_9 rfl (lv_at hl 2 rfl) ?_
  refine lv_iconst (v := (0 : Int32)) hx hb dX11_answer_10 (by decide) ?_
  obtain ⟨o3, ho3, hf⟩ := ob_s hf
  refine xV_i (As := [.int x0, .int x1, .int (0 : Int32)]) (b := a_this) (rest := [.int o1]) (ws2 := [(a_this, .inr (11, [.int i_length, .ref a_text, .ref a_roundMany, .ref a_blowMany, .ref a_blows, .ref a_forwards, .ref a_downs, .ref a_takens, .ref a_homes, .ref a_noises, .ref a_judgeMany, .ref a_judges, .ref a_delays, .ref a_tolds, .ref a_tens, .int i_keptMany, .int i_place, .ref a_told, .ref a_ways, .ref a_nextWays, .ref a_tallies, .ref a_presses, .ref a_values, .ref a_nextValues])), (a_tens, .inl (X.2.1 0, 12, .inl f_tens)), (a_values, .inl (X.2.1 0, 51, .inl f_values))]) hx hb hml hts hown hG hA hP hD rfl hS hl.1 (qX11_roundBy l X a_this a_tens a_values a_text a_roundMany a_blowMany a_blows a_forwards a_downs a_takens a_homes a_noises a_judgeMany a_judges a_delays a_tolds a_told a_ways a_nextWays a_tallies a_presses a_nextValues i_length i_keptMany i_place f_tens f_values x0 x1 (0 : Int32) o3 ho3) (cwV (y := yX11_roundBy) 3 hts gX11_answer_X11_roundBy rfl rfl rfl hdvX11_roundBy ⟨Nat.le_of_ble_eq_true rfl, Nat.le_of_ble_eq_true rfl⟩) [0, 1, 2] [] [0, 1, 2] rfl rfl rfl rfl rfl rfl rfl (ci := 11) rfl 0 rfl rfl rfl (Nat.le_of_ble_eq_true rfl) ⟨Nat.le_of_ble_eq_true rfl, Nat.le_of_ble_eq_true rfl⟩ dX11_answer_11 (fun H locs hP _ hS => ?_)
  refine lv_icmp_ge (tgt := 21) hx hb dX11_answer_14 (by decide) (fun c5 => ?_) (fun c5 => ?_)
  · have hf := xt hf c5
    refine lv_iconst (v := (0 : Int32)) hx hb dX11_answer_21 (by decide) ?_
    obtain rfl := Option.some.inj hf
    exact ret H _ ls _ rfl hP hD hS dX11_answer_22
  · have hf := xf hf c5
    refine lv_iconst (v := (1 : Int32)) hx hb dX11_answer_17 (by decide) ?_
    refine lv_goto (tgt := 22) hx hb dX11_answer_18 (by decide) ?_
    obtain rfl := Option.some.inj hf
    exact ret H _ ls _ rfl hP hD hS dX11_answer_22
def mX11_choice (x0 : Int32) (f_tens : Nat → Int32) (f_values : Nat → Int32) :
  Option (Int32) :=
  (mX11_answer x0 (1 : Int32) f_tens f_values).bind fun o1 =>
  (mX11_roundBy x0 (1 : Int32) o1 f_tens f_values).bind fun o3 =>
  (mX11_answer x0 (0 : Int32) f_tens f_values).bind fun o5 =>
  (mX11_roundBy x0 (0 : Int32) o5 f_tens f_values).bind fun o7 =>
  if o3 ≤ o7 then (some (0 : Int32)) else (some (1 : Int32))
theorem hdsX11_choice : yX11_choice.cls ≠ "java/lang/invoke/MethodHandle" ∧ yX11_choice.cls ≠ "java/lang/invoke/VarHandle" ∧ (parseMethodDescriptor yX11_choice.desc).map (fun d => d.parameters.length) = some 1 := by decide +kernel
theorem hdvX11_choice : yX11_choice.cls = RX11 ∧ yX11_choice.cls ≠ "java/lang/invoke/MethodHandle" ∧ yX11_choice.cls ≠ "java/lang/invoke/VarHandle" ∧ (parseMethodDescriptor yX11_choice.desc).map (fun d => d.parameters.length) = some 1 := by decide +kernel
abbrev rmX11_choice : Room := { frames := 2, cells := 0, slots := 0, locals := 46 }
set_option maxHeartbeats 4000000 in
set_option maxRecDepth 100000 in
theorem qX11_choice (l : Launch) (X : XT) (a_this : Nat) (a_tens : Nat) (a_values : Nat) (a_text : Nat) (a_roundMany : Nat) (a_blowMany : Nat) (a_blows : Nat) (a_forwards : Nat) (a_downs : Nat) (a_takens : Nat) (a_homes : Nat) (a_noises : Nat) (a_judgeMany : Nat) (a_judges : Nat) (a_delays : Nat) (a_tolds : Nat) (a_told : Nat) (a_ways : Nat) (a_nextWays : Nat) (a_tallies : Nat) (a_presses : Nat) (a_nextValues : Nat)  (i_length : Int32) (i_keptMany : Int32) (i_place : Int32) (f_tens : Nat → Int32) (f_values : Nat → Int32) (x0 : Int32) (o : Int32) (hf : mX11_choice x0 f_tens f_values = some o) :
    MI l yX11_choice wsX11_choice rmX11_choice X [.ref a_this, .int x0] [(a_this, .inr (11, [.int i_length, .ref a_text, .ref a_roundMany, .ref a_blowMany, .ref a_blows, .ref a_forwards, .ref a_downs, .ref a_takens, .ref a_homes, .ref a_noises, .ref a_judgeMany, .ref a_judges, .ref a_delays, .ref a_tolds, .ref a_tens, .int i_keptMany, .int i_place, .ref a_told, .ref a_ways, .ref a_nextWays, .ref a_tallies, .ref a_presses, .ref a_values, .ref a_nextValues])), (a_tens, .inl (X.2.1 0, 12, .inl f_tens)), (a_values, .inl (X.2.1 0, 51, .inl f_values))]  [(a_this, .inr (11, [.int i_length, .ref a_text, .ref a_roundMany, .ref a_blowMany, .ref a_blows, .ref a_forwards, .ref a_downs, .ref a_takens, .ref a_homes, .ref a_noises, .ref a_judgeMany, .ref a_judges, .ref a_delays, .ref a_tolds, .ref a_tens, .int i_keptMany, .int i_place, .ref a_told, .ref a_ways, .ref a_nextWays, .ref a_tallies, .ref a_presses, .ref a_values, .ref a_nextValues])), (a_tens, .inl (X.2.1 0, 12, .inl f_tens)), (a_values, .inl (X.2.1 0, 51, .inl f_values))] o := by
  refine MI_ofH (cc := cX11_choice) (maxL := 2) (rt := .int) (by decide) rfl (Nat.le_of_ble_eq_true rfl) ?_
  intro p e s m below meth c A Q H ls hx hb hml hts hown hA hD hG hP hS hl ret
  have hown : s.vm.findClass RX11 = some m.cls := hown
  have hD : aD A [a_this, a_tens, a_values] := hD
  have hl : lv_has ls 2 [(0, .ref a_this), (1, .int x0)] := hl
  unfold mX11_choice at hf
  refine lv_aload_n hx hb dX11_choice_0 rfl (lv_at hl 0 rfl) ?_
  refine lv_iload_n hx hb dX11_choice_1 rfl (lv_at hl 1 rfl) ?_
  refine lv_iconst (v := (1 : Int32)) hx hb dX11_choice_2 (by decide) ?_
  refine lv_aload_n hx hb dX11_choice_3 rfl (lv_at hl 0 rfl) ?_
  refine lv_iload_n hx hb dX11_choice_4 rfl (lv_at hl 1 rfl) ?_
  refine lv_iconst (v := (1 : Int32)) hx hb dX11_choice_5 (by decide) ?_
  obtain ⟨o1, ho1, hf⟩ := ob_s hf
  refine xV_i (As := [.int x0, .int (1 : Int32)]) (b := a_this) (rest := [.int (1 : Int32), .int x0, .ref a_this]) (ws2 := [(a_this, .inr (11, [.int i_length, .ref a_text, .ref a_roundMany, .ref a_blowMany, .ref a_blows, .ref a_forwards, .ref a_downs, .ref a_takens, .ref a_homes, .ref a_noises, .ref a_judgeMany, .ref a_judges, .ref a_delays, .ref a_tolds, .ref a_tens, .int i_keptMany, .int i_place, .ref a_told, .ref a_ways, .ref a_nextWays, .ref a_tallies, .ref a_presses, .ref a_values, .ref a_nextValues])), (a_tens, .inl (X.2.1 0, 12, .inl f_tens)), (a_values, .inl (X.2.1 0, 51, .inl f_values))]) hx hb hml hts hown hG hA hP hD rfl hS hl.1 (qX11_answer l X a_this a_tens a_values a_text a_roundMany a_blowMany a_blows a_forwards a_downs a_takens a_homes a_noises a_judgeMany a_judges a_delays a_tolds a_told a_ways a_nextWays a_tallies a_presses a_nextValues i_length i_keptMany i_place f_tens f_values x0 (1 : Int32) o1 ho1) (cwV (y := yX11_answer) 2 hts gX11_choice_X11_answer rfl rfl rfl hdvX11_answer ⟨Nat.le_of_ble_eq_true rfl, Nat.le_of_ble_eq_true rfl⟩) [0, 1, 2] [] [0, 1, 2] rfl rfl rfl rfl rfl rfl rfl (ci := 11) rfl 0 rfl rfl rfl (Nat.le_of_ble_eq_true rfl) ⟨Nat.le_of_ble_eq_true rfl, Nat.le_of_ble_eq_true rfl⟩ dX11_choice_6 (fun H locs hP _ hS => ?_)
  obtain ⟨o3, ho3, hf⟩ := ob_s hf
  refine xV_i (As := [.int x0, .int (1 : Int32), .int o1]) (b := a_this) (rest := []) (ws2 := [(a_this, .inr (11, [.int i_length, .ref a_text, .ref a_roundMany, .ref a_blowMany, .ref a_blows, .ref a_forwards, .ref a_downs, .ref a_takens, .ref a_homes, .ref a_noises, .ref a_judgeMany, .ref a_judges, .ref a_delays, .ref a_tolds, .ref a_tens, .int i_keptMany, .int i_place, .ref a_told, .ref a_ways, .ref a_nextWays, .ref a_tallies, .ref a_presses, .ref a_values, .ref a_nextValues])), (a_tens, .inl (X.2.1 0, 12, .inl f_tens)), (a_values, .inl (X.2.1 0, 51, .inl f_values))]) hx hb hml hts hown hG hA hP hD rfl hS hl.1 (qX11_roundBy l X a_this a_tens a_values a_text a_roundMany a_blowMany a_blows a_forwards a_downs a_takens a_homes a_noises a_judgeMany a_judges a_delays a_tolds a_told a_ways a_nextWays a_tallies a_presses a_nextValues i_length i_keptMany i_place f_tens f_values x0 (1 : Int32) o1 o3 ho3) (cwV (y := yX11_roundBy) 3 hts gX11_choice_X11_roundBy rfl rfl rfl hdvX11_roundBy ⟨Nat.le_of_ble_eq_true rfl, Nat.le_of_ble_eq_true rfl⟩) [0, 1, 2] [] [0, 1, 2] rfl rfl rfl rfl rfl rfl rfl (ci := 11) rfl 0 rfl rfl rfl (Nat.le_of_ble_eq_true rfl) ⟨Nat.le_of_ble_eq_true rfl, Nat.le_of_ble_eq_true rfl⟩ dX11_choice_9 (fun H locs hP _ hS => ?_)
  refine lv_aload_n hx hb dX11_choice_12 rfl (lv_at hl 0 rfl) ?_
  refine lv_iload_n hx hb dX11_choice_13 rfl (lv_at hl 1 rfl) ?_
  refine lv_iconst (v := (0 : Int32)) hx hb dX11_choice_14 (by decide) ?_
  refine lv_aload_n hx hb dX11_choice_15 rfl (lv_at hl 0 rfl) ?_
  refine lv_iload_n hx hb dX11_choice_16 rfl (lv_at hl 1 rfl) ?_
  refine lv_iconst (v := (0 : Int32)) hx hb dX11_choice_17 (by decide) ?_
  obtain ⟨o5, ho5, hf⟩ := ob_s hf
  refine xV_i (As := [.int x0, .int (0 : Int32)]) (b := a_this) (rest := [.int (0 : Int32), .int x0, .ref a_this, .int o3]) (ws2 := [(a_this, .inr (11, [.int i_length, .ref a_text, .ref a_roundMany, .ref a_blowMany, .ref a_blows, .ref a_forwards, .ref a_downs, .ref a_takens, .ref a_homes, .ref a_noises, .ref a_judgeMany, .ref a_judges, .ref a_delays, .ref a_tolds, .ref a_tens, .int i_keptMany, .int i_place, .ref a_told, .ref a_ways, .ref a_nextWays, .ref a_tallies, .ref a_presses, .ref a_values, .ref a_nextValues])), (a_tens, .inl (X.2.1 0, 12, .inl f_tens)), (a_values, .inl (X.2.1 0, 51, .inl f_values))]) hx hb hml hts hown hG hA hP hD rfl hS hl.1 (qX11_answer l X a_this a_tens a_values a_text a_roundMany a_blowMany a_blows a_forwards a_downs a_takens a_homes a_noises a_judgeMany a_judges a_delays a_tolds a_told a_ways a_nextWays a_tallies a_presses a_nextValues i_length i_keptMany i_place f_tens f_values x0 (0 : Int32) o5 ho5) (cwV (y := yX11_answer) 2 hts gX11_choice_X11_answer rfl rfl rfl hdvX11_answer ⟨Nat.le_of_ble_eq_true rfl, Nat.le_of_ble_eq_true rfl⟩) [0, 1, 2] [] [0, 1, 2] rfl rfl rfl rfl rfl rfl rfl (ci := 11) rfl 0 rfl rfl rfl (Nat.le_of_ble_eq_true rfl) ⟨Nat.le_of_ble_eq_true rfl, Nat.le_of_ble_eq_true rfl⟩ dX11_choice_18 (fun H locs hP _ hS => ?_)
  obtain ⟨o7, ho7, hf⟩ := ob_s hf
  refine xV_i (As := [.int x0, .int (0 : Int32), .int o5]) (b := a_this) (rest := [.int o3]) (ws2 := [(a_this, .inr (11, [.int i_length, .ref a_text, .ref a_roundMany, .ref a_blowMany, .ref a_blows, .ref a_forwards, .ref a_downs, .ref a_takens, .ref a_homes, .ref a_noises, .ref a_judgeMany, .ref a_judges, .ref a_delays, .ref a_tolds, .ref a_tens, .int i_keptMany, .int i_place, .ref a_told, .ref a_ways, .ref a_nextWays, .ref a_tallies, .ref a_presses, .ref a_values, .ref a_nextValues])), (a_tens, .inl (X.2.1 0, 12, .inl f_tens)), (a_values, .inl (X.2.1 0, 51, .inl f_values))]) hx hb hml hts hown hG hA hP hD rfl hS hl.1 (qX11_roundBy l X a_this a_tens a_values a_text a_roundMany a_blowMany a_blows a_forwards a_downs a_takens a_homes a_noises a_judgeMany a_judges a_delays a_tolds a_told a_ways a_nextWays a_tallies a_presses a_nextValues i_length i_keptMany i_place f_tens f_values x0 (0 : Int32) o5 o7 ho7) (cwV (y := yX11_roundBy) 3 hts gX11_choice_X11_roundBy rfl rfl rfl hdvX11_roundBy ⟨Nat.le_of_ble_eq_true rfl, Nat.le_of_ble_eq_true rfl⟩) [0, 1, 2] [] [0, 1, 2] rfl rfl rfl rfl rfl rfl rfl (ci := 11) rfl 0 rfl rfl rfl (Nat.le_of_ble_eq_true rfl) ⟨Nat.le_of_ble_eq_true rfl, Nat.le_of_ble_eq_true rfl⟩ dX11_choice_21 (fun H locs hP _ hS => ?_)
  refine lv_icmp_le (tgt := 31) hx hb dX11_choice_24 (by decide) (fun c9 => ?_) (fun c9 => ?_)
  · have hf := xt hf c9
    refine lv_iconst (v := (0 : Int32)) hx hb dX11_choice_31 (by decide) ?_
    obtain rfl := Option.some.inj hf
    exact ret H _ ls _ rfl hP hD hS dX11_choice_32
  · have hf := xf hf c9
    refine lv_iconst (v := (1 : Int32)) hx hb dX11_choice_27 (by decide) ?_
    refine lv_goto (tgt := 32) hx hb dX11_choice_28 (by decide) ?_
    obtain rfl := Option.some.inj hf
    exact ret H _ ls _ rfl hP hD hS dX11_choice_32
def mX11_takeNext_B2 (f_nextValues : Nat → Int32) (k2 : Int32 → (Nat → Int32) → Option ((Nat → Int32))) (l1 : Int32) (f_values : Nat → Int32) :
  Option ((Nat → Int32)) :=
  if (50 : Int32) ≤ l1 then (some f_values) else (gi l1 51 <|
  gi l1 51 <|
  lb (upd f_values l1.toNatClampNeg (f_nextValues l1.toNatClampNeg)) fun g4 =>
  lb (l1 + (1 : Int32)) fun v5 =>
  k2 v5 g4)
def mX11_takeNext_L2 (f_nextValues : Nat → Int32) (n : Nat) (l1 : Int32) (f_values : Nat → Int32) :
  Option ((Nat → Int32)) :=
  loopN (fun k (s : Int32 × (Nat → Int32)) => mX11_takeNext_B2 f_nextValues  (fun l1 f_values => k (l1, f_values)) s.1 s.2) n (l1, f_values)
def mX11_takeNext (f_nextValues : Nat → Int32) (f_values : Nat → Int32) :
  Option ((Nat → Int32)) :=
  mX11_takeNext_L2 f_nextValues  FUEL (1 : Int32) f_values
theorem hdsX11_takeNext : yX11_takeNext.cls ≠ "java/lang/invoke/MethodHandle" ∧ yX11_takeNext.cls ≠ "java/lang/invoke/VarHandle" ∧ (parseMethodDescriptor yX11_takeNext.desc).map (fun d => d.parameters.length) = some 0 := by decide +kernel
theorem hdvX11_takeNext : yX11_takeNext.cls = RX11 ∧ yX11_takeNext.cls ≠ "java/lang/invoke/MethodHandle" ∧ yX11_takeNext.cls ≠ "java/lang/invoke/VarHandle" ∧ (parseMethodDescriptor yX11_takeNext.desc).map (fun d => d.parameters.length) = some 0 := by decide +kernel
abbrev rmX11_takeNext : Room := { frames := 0, cells := 0, slots := 0, locals := 0 }
set_option maxHeartbeats 4000000 in
set_option maxRecDepth 100000 in
theorem qX11_takeNext (l : Launch) (X : XT) (a_this : Nat) (a_nextValues : Nat) (a_values : Nat) (a_text : Nat) (a_roundMany : Nat) (a_blowMany : Nat) (a_blows : Nat) (a_forwards : Nat) (a_downs : Nat) (a_takens : Nat) (a_homes : Nat) (a_noises : Nat) (a_judgeMany : Nat) (a_judges : Nat) (a_delays : Nat) (a_tolds : Nat) (a_tens : Nat) (a_told : Nat) (a_ways : Nat) (a_nextWays : Nat) (a_tallies : Nat) (a_presses : Nat)  (i_length : Int32) (i_keptMany : Int32) (i_place : Int32) (f_nextValues : Nat → Int32) (f_values : Nat → Int32)  (o : (Nat → Int32)) (hf : mX11_takeNext f_nextValues f_values = some o) :
    MC l yX11_takeNext wsX11_takeNext rmX11_takeNext X [.ref a_this] [(a_this, .inr (11, [.int i_length, .ref a_text, .ref a_roundMany, .ref a_blowMany, .ref a_blows, .ref a_forwards, .ref a_downs, .ref a_takens, .ref a_homes, .ref a_noises, .ref a_judgeMany, .ref a_judges, .ref a_delays, .ref a_tolds, .ref a_tens, .int i_keptMany, .int i_place, .ref a_told, .ref a_ways, .ref a_nextWays, .ref a_tallies, .ref a_presses, .ref a_values, .ref a_nextValues])), (a_nextValues, .inl (X.2.1 0, 51, .inl f_nextValues)), (a_values, .inl (X.2.1 0, 51, .inl f_values))]  (fun _ => [(a_this, .inr (11, [.int i_length, .ref a_text, .ref a_roundMany, .ref a_blowMany, .ref a_blows, .ref a_forwards, .ref a_downs, .ref a_takens, .ref a_homes, .ref a_noises, .ref a_judgeMany, .ref a_judges, .ref a_delays, .ref a_tolds, .ref a_tens, .int i_keptMany, .int i_place, .ref a_told, .ref a_ways, .ref a_nextWays, .ref a_tallies, .ref a_presses, .ref a_values, .ref a_nextValues])), (a_nextValues, .inl (X.2.1 0, 51, .inl f_nextValues)), (a_values, .inl (X.2.1 0, 51, .inl o))]) 0 0 := by
  refine MC_ofH (cc := cX11_takeNext) (maxL := 2) (by decide) rfl (Nat.le_of_ble_eq_true rfl) ?_
  intro p e s m below meth c A Q H ls hx hb hml hts hown hin hA hD hG hP hS hl ret
  have hown : s.vm.findClass RX11 = some m.cls := hown
  have hD : aD A [a_this, a_nextValues, a_values] := hD
  have hl : lv_has ls 2 [(0, .ref a_this)] := hl
  have w1 := hts (.fieldLink RX11 68 "ThreeCardsModel" "values" "[I") (List.mem_of_getElem? (i := 1) rfl)
  have w2 := hts (.fieldLink RX11 71 "ThreeCardsModel" "nextValues" "[I") (List.mem_of_getElem? (i := 2) rfl)
  have in11 : ∀ w ∈ u_ws RX11 TX11 24, w ∈ wsX11_takeNext := by decide +kernel
  have hL2 : ∀ (n : Nat) (l1 : Int32) (f_values : Nat → Int32)  (H : Heap) (locs : List Loc) (ls : Array Slot), va_P X.1 vwCl [(a_this, .inr (11, [.int i_length, .ref a_text, .ref a_roundMany, .ref a_blowMany, .ref a_blows, .ref a_forwards, .ref a_downs, .ref a_takens, .ref a_homes, .ref a_noises, .ref a_judgeMany, .ref a_judges, .ref a_delays, .ref a_tolds, .ref a_tens, .int i_keptMany, .int i_place, .ref a_told, .ref a_ways, .ref a_nextWays, .ref a_tallies, .ref a_presses, .ref a_values, .ref a_nextValues])), (a_nextValues, .inl (X.2.1 0, 51, .inl f_nextValues)), (a_values, .inl (X.2.1 0, 51, .inl f_values))] H → va_S A s.heap H locs → lv_has ls 2 [(0, .ref a_this), (1, .int l1)] → mX11_takeNext_L2 f_nextValues  n l1 f_values = some o → W p l e rmX11_takeNext s m ([.ref a_this] : List Value).toArray below meth c H locs 0 0 Q (F0 m 2 ls []) := by
    intro n
    induction n with
    | zero => intro l1 f_values  H locs ls hP hS hl hf; exact xn hf
    | succ n ih =>
      intro l1 f_values  H locs ls hP hS hl hf
      have hf : mX11_takeNext_B2 f_nextValues  (mX11_takeNext_L2 f_nextValues  n) l1 f_values = some o := hf
      generalize mX11_takeNext_L2 f_nextValues  n = k2 at ih hf
      unfold mX11_takeNext_B2 at hf
      refine lv_iload_n hx hb dX11_takeNext_2 rfl (lv_at hl 1 rfl) ?_
      refine lv_bipush (v := (50 : Int32)) hx hb dX11_takeNext_3 (by decide) ?_
      refine lv_icmp_ge (tgt := 26) hx hb dX11_takeNext_5 (by decide) (fun c1 => ?_) (fun c1 => ?_)
      · have hf := xt hf c1
        obtain rfl := Option.some.inj hf
        exact ret (fun _ => 0) H _ ls _ hP hD hS dX11_takeNext_26
      · have hf := xf hf c1
        refine lv_aload_n hx hb dX11_takeNext_8 rfl (lv_at hl 0 rfl) ?_
        refine va_get (D := X.1) (ci := 11) (v := .ref a_values) (C := RX11) (T := TX11) (N := 24) hx hb hts in11 hown hG.1 hP 0 rfl rfl 22 (by decide) w1 (fun _ h9 => h9) rfl dX11_takeNext_9 ?_
        refine lv_iload_n hx hb dX11_takeNext_12 rfl (lv_at hl 1 rfl) ?_
        refine lv_aload_n hx hb dX11_takeNext_13 rfl (lv_at hl 0 rfl) ?_
        refine va_get (D := X.1) (ci := 11) (v := .ref a_nextValues) (C := RX11) (T := TX11) (N := 24) hx hb hts in11 hown hG.1 hP 0 rfl rfl 23 (by decide) w2 (fun _ h9 => h9) rfl dX11_takeNext_14 ?_
        refine lv_iload_n hx hb dX11_takeNext_17 rfl (lv_at hl 1 rfl) ?_
        obtain ⟨h2, hf⟩ := gi_s hf
        refine va_iald (D := X.1) hx hb hG.1 hP 1 0 rfl rfl h2 dX11_takeNext_18 ?_
        obtain ⟨h3, hf⟩ := gi_s hf
        obtain ⟨g4, eg4, hf⟩ := lb_g hf
        refine x_iast (ws' := [(a_this, .inr (11, [.int i_length, .ref a_text, .ref a_roundMany, .ref a_blowMany, .ref a_blows, .ref a_forwards, .ref a_downs, .ref a_takens, .ref a_homes, .ref a_noises, .ref a_judgeMany, .ref a_judges, .ref a_delays, .ref a_tolds, .ref a_tens, .int i_keptMany, .int i_place, .ref a_told, .ref a_ways, .ref a_nextWays, .ref a_tallies, .ref a_presses, .ref a_values, .ref a_nextValues])), (a_nextValues, .inl (X.2.1 0, 51, .inl f_nextValues)), (a_values, .inl (X.2.1 0, 51, .inl g4))]) hx hb hG hP hD rfl hS 2 rfl h3 dX11_takeNext_19 eg4 rfl (fun H locs hP hS => ?_)
        obtain ⟨v5, ev5, hf⟩ := lb_g hf
        refine lv_iinc (v := v5) (lv' := [(1, .int v5), (0, .ref a_this)]) hx hb dX11_takeNext_20 hl (k := 1) rfl ev5.symm (by decide) rfl (fun ls hl => ?_)
        refine lv_goto (tgt := 2) hx hb dX11_takeNext_23 (by decide) ?_
        exact ih v5 g4  H _ ls hP  hS (lv_sub hl [1, 0] rfl) hf
  unfold mX11_takeNext at hf
  refine lv_iconst (v := (1 : Int32)) hx hb dX11_takeNext_0 (by decide) ?_
  refine lv_istore_n (lv' := [(1, .int (1 : Int32)), (0, .ref a_this)]) hx hb dX11_takeNext_1 rfl hl (by decide) rfl (fun ls hl => ?_)
  exact hL2  FUEL (1 : Int32) f_values  H _ ls hP  hS (lv_sub hl [1, 0] rfl) hf
def mX11_areLeft (x0 : Int32) (x1 : Int32) :
  Option (Int32) :=
  (mX11_in (Int32.toInt64 x0) (1 : Int64) (12 : Int64)).bind fun o1 =>
  if o1 = 0 then (some (0 : Int32)) else ((mX11_in (Int32.toInt64 x1) (-12 : Int64) (12 : Int64)).bind fun o4 =>
  if o4 = 0 then (some (0 : Int32)) else (some (1 : Int32)))
theorem hdsX11_areLeft : yX11_areLeft.cls ≠ "java/lang/invoke/MethodHandle" ∧ yX11_areLeft.cls ≠ "java/lang/invoke/VarHandle" ∧ (parseMethodDescriptor yX11_areLeft.desc).map (fun d => d.parameters.length) = some 2 := by decide +kernel
abbrev rmX11_areLeft : Room := { frames := 1, cells := 0, slots := 0, locals := 25 }
set_option maxHeartbeats 4000000 in
set_option maxRecDepth 100000 in
theorem qX11_areLeft (l : Launch) (X : XT)    (x0 : Int32) (x1 : Int32) (o : Int32) (hf : mX11_areLeft x0 x1 = some o) :
    MI l yX11_areLeft wsX11_areLeft rmX11_areLeft X [.int x0, .int x1] []  [] o := by
  refine MI_ofH (cc := cX11_areLeft) (maxL := 2) (rt := .boolean) (by decide) rfl (Nat.le_of_ble_eq_true rfl) ?_
  intro p e s m below meth c A Q H ls hx hb hml hts hown hA hD hG hP hS hl ret
  have hown : s.vm.findClass RX11 = some m.cls := hown
  have hD : aD A [] := hD
  have hl : lv_has ls 2 [(0, .int x0), (1, .int x1)] := hl
  have w1 := hts (.constantLong RX11 109 (12)) (List.mem_of_getElem? (i := 1) rfl)
  have w2 := hts (.constantLong RX11 273 (-12)) (List.mem_of_getElem? (i := 2) rfl)
  unfold mX11_areLeft at hf
  refine lv_iload_n hx hb dX11_areLeft_0 rfl (lv_at hl 0 rfl) ?_
  refine lv_i2l hx hb dX11_areLeft_1 rfl ?_
  refine lv_lconst (v := (1 : Int64)) hx hb dX11_areLeft_2 rfl ?_
  refine lv_ldc2 (v := (12 : Int64)) hx hb hown w1 dX11_areLeft_3 ?_
  obtain ⟨o1, ho1, hf⟩ := ob_s hf
  refine xS_i (As := [.long (Int32.toInt64 x0), .long (1 : Int64), .long (12 : Int64)]) (rest := []) (ws2 := []) hx hb hml hts hown hG hA hP hD rfl hS hl.1 (qX11_in l X (Int32.toInt64 x0) (1 : Int64) (12 : Int64) o1 ho1) (va_cwS (y := yX11_in) 3 hts gX11_areLeft_X11_in rfl rfl rfl hdsX11_in ⟨Nat.le_of_ble_eq_true rfl, Nat.le_of_ble_eq_true rfl⟩) [] [] [] rfl rfl rfl rfl rfl rfl rfl rfl rfl (Nat.le_of_ble_eq_true rfl) ⟨Nat.le_of_ble_eq_true rfl, Nat.le_of_ble_eq_true rfl⟩ dX11_areLeft_6 (fun H locs hP _ hS => ?_)
  refine lv_if_eq (tgt := 30) hx hb dX11_areLeft_9 (by decide) (fun c3 => ?_) (fun c3 => ?_)
  · have hf := xt hf c3
    refine lv_iconst (v := (0 : Int32)) hx hb dX11_areLeft_30 (by decide) ?_
    obtain rfl := Option.some.inj hf
    exact ret H _ ls _ (show narrow .boolean (.int (0 : Int32)) = .int (0 : Int32) from rfl) hP hD hS dX11_areLeft_31
  · have hf := xf hf c3
    refine lv_iload_n hx hb dX11_areLeft_12 rfl (lv_at hl 1 rfl) ?_
    refine lv_i2l hx hb dX11_areLeft_13 rfl ?_
    refine lv_ldc2 (v := (-12 : Int64)) hx hb hown w2 dX11_areLeft_14 ?_
    refine lv_ldc2 (v := (12 : Int64)) hx hb hown w1 dX11_areLeft_17 ?_
    obtain ⟨o4, ho4, hf⟩ := ob_s hf
    refine xS_i (As := [.long (Int32.toInt64 x1), .long (-12 : Int64), .long (12 : Int64)]) (rest := []) (ws2 := []) hx hb hml hts hown hG hA hP hD rfl hS hl.1 (qX11_in l X (Int32.toInt64 x1) (-12 : Int64) (12 : Int64) o4 ho4) (va_cwS (y := yX11_in) 3 hts gX11_areLeft_X11_in rfl rfl rfl hdsX11_in ⟨Nat.le_of_ble_eq_true rfl, Nat.le_of_ble_eq_true rfl⟩) [] [] [] rfl rfl rfl rfl rfl rfl rfl rfl rfl (Nat.le_of_ble_eq_true rfl) ⟨Nat.le_of_ble_eq_true rfl, Nat.le_of_ble_eq_true rfl⟩ dX11_areLeft_20 (fun H locs hP _ hS => ?_)
    refine lv_if_eq (tgt := 30) hx hb dX11_areLeft_23 (by decide) (fun c6 => ?_) (fun c6 => ?_)
    · have hf := xt hf c6
      refine lv_iconst (v := (0 : Int32)) hx hb dX11_areLeft_30 (by decide) ?_
      obtain rfl := Option.some.inj hf
      exact ret H _ ls _ (show narrow .boolean (.int (0 : Int32)) = .int (0 : Int32) from rfl) hP hD hS dX11_areLeft_31
    · have hf := xf hf c6
      refine lv_iconst (v := (1 : Int32)) hx hb dX11_areLeft_26 (by decide) ?_
      refine lv_goto (tgt := 31) hx hb dX11_areLeft_27 (by decide) ?_
      obtain rfl := Option.some.inj hf
      exact ret H _ ls _ (show narrow .boolean (.int (1 : Int32)) = .int (1 : Int32) from rfl) hP hD hS dX11_areLeft_31
def mX11_open_B38 (x0 : Int32) (x1 : Int32) (x2 : Int32) (f_tens : Nat → Int32) (k29 : Int32 → (Nat → Int32) → (Nat → Int32) → Option (Int32 × (Nat → Int32) × (Nat → Int32))) (k38 : Int32 → Int32 → (Nat → Int32) → (Nat → Int32) → Option (Int32 × (Nat → Int32) × (Nat → Int32))) (l4 : Int32) (l5 : Int32) (f_values : Nat → Int32) (f_nextValues : Nat → Int32) :
  Option (Int32 × (Nat → Int32) × (Nat → Int32)) :=
  if (50 : Int32) ≤ l5 then ((mX11_takeNext f_nextValues f_values).bind fun o19 =>
  lb (l4 + (1 : Int32)) fun v21 =>
  k29 v21 o19 f_nextValues) else ((mX11_choice l5 f_tens f_values).bind fun o22 =>
  (mX11_choice l5 f_tens f_values).bind fun o24 =>
  (mX11_answer l5 o24 f_tens f_values).bind fun o26 =>
  (mX11_roundBy l5 o22 o26 f_tens f_values).bind fun o28 =>
  gi l5 51 <|
  lb (upd f_nextValues l5.toNatClampNeg o28) fun g31 =>
  lb (l5 + (1 : Int32)) fun v32 =>
  k38 l4 v32 f_values g31)
def mX11_open_L38 (x0 : Int32) (x1 : Int32) (x2 : Int32) (f_tens : Nat → Int32) (k29 : Int32 → (Nat → Int32) → (Nat → Int32) → Option (Int32 × (Nat → Int32) × (Nat → Int32))) (n : Nat) (l4 : Int32) (l5 : Int32) (f_values : Nat → Int32) (f_nextValues : Nat → Int32) :
  Option (Int32 × (Nat → Int32) × (Nat → Int32)) :=
  loopN (fun k (s : Int32 × Int32 × (Nat → Int32) × (Nat → Int32)) => mX11_open_B38 x0 x1 x2 f_tens k29 (fun l4 l5 f_values f_nextValues => k (l4, l5, f_values, f_nextValues)) s.1 s.2.1 s.2.2.1 s.2.2.2) n (l4, l5, f_values, f_nextValues)
def mX11_open_B29 (x0 : Int32) (x1 : Int32) (x2 : Int32) (f_tens : Nat → Int32) (k29 : Int32 → (Nat → Int32) → (Nat → Int32) → Option (Int32 × (Nat → Int32) × (Nat → Int32))) (l4 : Int32) (f_values : Nat → Int32) (f_nextValues : Nat → Int32) :
  Option (Int32 × (Nat → Int32) × (Nat → Int32)) :=
  if x0 ≤ l4 then ((mX11_choice ((25 : Int32) + x1) f_tens f_values).bind fun o10 =>
  (mX11_answer ((25 : Int32) + x1) o10 f_tens f_values).bind fun o12 =>
  if x2 = 0 then ((mX11_roundBy ((25 : Int32) + x1) o10 o12 f_tens f_values).bind fun o16 =>
  some (o16, f_values, f_nextValues)) else (if x2 = (1 : Int32) then (some (o10, f_values, f_nextValues)) else (some (o12, f_values, f_nextValues)))) else (mX11_open_L38 x0 x1 x2 f_tens k29 FUEL l4 (1 : Int32) f_values f_nextValues)
def mX11_open_L29 (x0 : Int32) (x1 : Int32) (x2 : Int32) (f_tens : Nat → Int32) (n : Nat) (l4 : Int32) (f_values : Nat → Int32) (f_nextValues : Nat → Int32) :
  Option (Int32 × (Nat → Int32) × (Nat → Int32)) :=
  loopN (fun k (s : Int32 × (Nat → Int32) × (Nat → Int32)) => mX11_open_B29 x0 x1 x2 f_tens  (fun l4 f_values f_nextValues => k (l4, f_values, f_nextValues)) s.1 s.2.1 s.2.2) n (l4, f_values, f_nextValues)
def mX11_open (x0 : Int32) (x1 : Int32) (x2 : Int32) (f_nextValues : Nat → Int32) (f_tens : Nat → Int32) (f_values : Nat → Int32) :
  Option (Int32 × (Nat → Int32) × (Nat → Int32)) :=
  (mX11_areLeft x0 x1).bind fun o1 =>
  if o1 = 0 then (some ((-1 : Int32), f_values, f_nextValues)) else ((mX11_in (Int32.toInt64 x2) (0 : Int64) (2 : Int64)).bind fun o4 =>
  if o4 = 0 then (some ((-1 : Int32), f_values, f_nextValues)) else ((mX11_endValues f_values).bind fun o7 =>
  mX11_open_L29 x0 x1 x2 f_tens  FUEL (1 : Int32) o7 f_nextValues))
theorem hdsX11_open : yX11_open.cls ≠ "java/lang/invoke/MethodHandle" ∧ yX11_open.cls ≠ "java/lang/invoke/VarHandle" ∧ (parseMethodDescriptor yX11_open.desc).map (fun d => d.parameters.length) = some 3 := by decide +kernel
theorem hdvX11_open : yX11_open.cls = RX11 ∧ yX11_open.cls ≠ "java/lang/invoke/MethodHandle" ∧ yX11_open.cls ≠ "java/lang/invoke/VarHandle" ∧ (parseMethodDescriptor yX11_open.desc).map (fun d => d.parameters.length) = some 3 := by decide +kernel
abbrev rmX11_open : Room := { frames := 3, cells := 0, slots := 0, locals := 67 }
set_option maxHeartbeats 4000000 in
set_option maxRecDepth 100000 in
theorem qX11_open (l : Launch) (X : XT) (a_this : Nat) (a_nextValues : Nat) (a_tens : Nat) (a_values : Nat) (a_text : Nat) (a_roundMany : Nat) (a_blowMany : Nat) (a_blows : Nat) (a_forwards : Nat) (a_downs : Nat) (a_takens : Nat) (a_homes : Nat) (a_noises : Nat) (a_judgeMany : Nat) (a_judges : Nat) (a_delays : Nat) (a_tolds : Nat) (a_told : Nat) (a_ways : Nat) (a_nextWays : Nat) (a_tallies : Nat) (a_presses : Nat)  (i_length : Int32) (i_keptMany : Int32) (i_place : Int32) (f_nextValues : Nat → Int32) (f_tens : Nat → Int32) (f_values : Nat → Int32) (x0 : Int32) (x1 : Int32) (x2 : Int32) (o : Int32 × (Nat → Int32) × (Nat → Int32)) (hf : mX11_open x0 x1 x2 f_nextValues f_tens f_values = some o) :
    MI l yX11_open wsX11_open rmX11_open X [.ref a_this, .int x0, .int x1, .int x2] [(a_this, .inr (11, [.int i_length, .ref a_text, .ref a_roundMany, .ref a_blowMany, .ref a_blows, .ref a_forwards, .ref a_downs, .ref a_takens, .ref a_homes, .ref a_noises, .ref a_judgeMany, .ref a_judges, .ref a_delays, .ref a_tolds, .ref a_tens, .int i_keptMany, .int i_place, .ref a_told, .ref a_ways, .ref a_nextWays, .ref a_tallies, .ref a_presses, .ref a_values, .ref a_nextValues])), (a_nextValues, .inl (X.2.1 0, 51, .inl f_nextValues)), (a_tens, .inl (X.2.1 0, 12, .inl f_tens)), (a_values, .inl (X.2.1 0, 51, .inl f_values))]  [(a_this, .inr (11, [.int i_length, .ref a_text, .ref a_roundMany, .ref a_blowMany, .ref a_blows, .ref a_forwards, .ref a_downs, .ref a_takens, .ref a_homes, .ref a_noises, .ref a_judgeMany, .ref a_judges, .ref a_delays, .ref a_tolds, .ref a_tens, .int i_keptMany, .int i_place, .ref a_told, .ref a_ways, .ref a_nextWays, .ref a_tallies, .ref a_presses, .ref a_values, .ref a_nextValues])), (a_nextValues, .inl (X.2.1 0, 51, .inl o.2.2)), (a_tens, .inl (X.2.1 0, 12, .inl f_tens)), (a_values, .inl (X.2.1 0, 51, .inl o.2.1))] o.1 := by
  refine MI_ofH (cc := cX11_open) (maxL := 6) (rt := .int) (by decide) rfl (Nat.le_of_ble_eq_true rfl) ?_
  intro p e s m below meth c A Q H ls hx hb hml hts hown hA hD hG hP hS hl ret
  have hown : s.vm.findClass RX11 = some m.cls := hown
  have hD : aD A [a_this, a_nextValues, a_tens, a_values] := hD
  have hl : lv_has ls 6 [(0, .ref a_this), (1, .int x0), (2, .int x1), (3, .int x2)] := hl
  have w1 := hts (Cond.constantLong RX11 181 (2)) (List.mem_of_getElem? (i := 1) rfl)
  have w2 := hts (Cond.fieldLink RX11 71 "ThreeCardsModel" "nextValues" "[I") (List.mem_of_getElem? (i := 2) rfl)
  have in11 : ∀ w ∈ u_ws RX11 TX11 24, w ∈ wsX11_open := by decide +kernel
  have hL38 : ∀ (k29 : Int32 → (Nat → Int32) → (Nat → Int32) → Option (Int32 × (Nat → Int32) × (Nat → Int32))) (hk29 : ∀ (l4 : Int32) (f_values : Nat → Int32) (f_nextValues : Nat → Int32)  (H : Heap) (locs : List Loc) (ls : Array Slot), va_P X.1 vwCl [(a_this, .inr (11, [.int i_length, .ref a_text, .ref a_roundMany, .ref a_blowMany, .ref a_blows, .ref a_forwards, .ref a_downs, .ref a_takens, .ref a_homes, .ref a_noises, .ref a_judgeMany, .ref a_judges, .ref a_delays, .ref a_tolds, .ref a_tens, .int i_keptMany, .int i_place, .ref a_told, .ref a_ways, .ref a_nextWays, .ref a_tallies, .ref a_presses, .ref a_values, .ref a_nextValues])), (a_nextValues, .inl (X.2.1 0, 51, .inl f_nextValues)), (a_tens, .inl (X.2.1 0, 12, .inl f_tens)), (a_values, .inl (X.2.1 0, 51, .inl f_values))] H → va_S A s.heap H locs → lv_has ls 6 [(0, .ref a_this), (1, .int x0), (2, .int x1), (3, .int x2), (4, .int l4)] → k29 l4 f_values f_nextValues = some o → W p l e rmX11_open s m ([.ref a_this, .int x0, .int x1, .int x2] : List Value).toArray below meth c H locs 0 0 Q (F0 m 29 ls [])) (n : Nat) (l4 : Int32) (l5 : Int32) (f_values : Nat → Int32) (f_nextValues : Nat → Int32)  (H : Heap) (locs : List Loc) (ls : Array Slot), va_P X.1 vwCl [(a_this, .inr (11, [.int i_length, .ref a_text, .ref a_roundMany, .ref a_blowMany, .ref a_blows, .ref a_forwards, .ref a_downs, .ref a_takens, .ref a_homes, .ref a_noises, .ref a_judgeMany, .ref a_judges, .ref a_delays, .ref a_tolds, .ref a_tens, .int i_keptMany, .int i_place, .ref a_told, .ref a_ways, .ref a_nextWays, .ref a_tallies, .ref a_presses, .ref a_values, .ref a_nextValues])), (a_nextValues, .inl (X.2.1 0, 51, .inl f_nextValues)), (a_tens, .inl (X.2.1 0, 12, .inl f_tens)), (a_values, .inl (X.2.1 0, 51, .inl f_values))] H → va_S A s.heap H locs → lv_has ls 6 [(0, .ref a_this), (1, .int x0), (2, .int x1), (3, .int x2), (4, .int l4), (5, .int l5)] → mX11_open_L38 x0 x1 x2 f_tens k29 n l4 l5 f_values f_nextValues = some o → W p l e rmX11_open s m ([.ref a_this, .int x0, .int x1, .int x2] : List Value).toArray below meth c H locs 0 0 Q (F0 m 38 ls []) := by
    intro k29 hk29 n
    induction n with
    | zero => intro l4 l5 f_values f_nextValues  H locs ls hP hS hl hf; exact xn hf
    | succ n ih =>
      intro l4 l5 f_values f_nextValues  H locs ls hP hS hl hf
      have hf : mX11_open_B38 x0 x1 x2 f_tens k29 (mX11_open_L38 x0 x1 x2 f_tens k29 n) l4 l5 f_values f_nextValues = some o := hf
      generalize mX11_open_L38 x0 x1 x2 f_tens k29 n = k38 at ih hf
      unfold mX11_open_B38 at hf
      refine lv_iload hx hb dX11_open_38 (lv_at hl 5 rfl) ?_
      refine lv_bipush (v := (50 : Int32)) hx hb dX11_open_40 (by decide) ?_
      refine lv_icmp_ge (tgt := 82) hx hb dX11_open_42 (by decide) (fun c18 => ?_) (fun c18 => ?_)
      · have hf := xt hf c18
        refine lv_aload_n hx hb dX11_open_82 rfl (lv_at hl 0 rfl) ?_
        obtain ⟨o19, ho19, hf⟩ := ob_s hf
        refine xV_v (As := []) (b := a_this) (rest := []) (ws2 := fun _ => [(a_this, .inr (11, [.int i_length, .ref a_text, .ref a_roundMany, .ref a_blowMany, .ref a_blows, .ref a_forwards, .ref a_downs, .ref a_takens, .ref a_homes, .ref a_noises, .ref a_judgeMany, .ref a_judges, .ref a_delays, .ref a_tolds, .ref a_tens, .int i_keptMany, .int i_place, .ref a_told, .ref a_ways, .ref a_nextWays, .ref a_tallies, .ref a_presses, .ref a_values, .ref a_nextValues])), (a_nextValues, .inl (X.2.1 0, 51, .inl f_nextValues)), (a_tens, .inl (X.2.1 0, 12, .inl f_tens)), (a_values, .inl (X.2.1 0, 51, .inl o19))]) hx hb hml hts hown hG hA hP hD rfl hS hl.1 (qX11_takeNext l X a_this a_nextValues a_values a_text a_roundMany a_blowMany a_blows a_forwards a_downs a_takens a_homes a_noises a_judgeMany a_judges a_delays a_tolds a_tens a_told a_ways a_nextWays a_tallies a_presses i_length i_keptMany i_place f_nextValues f_values o19 ho19) (cwV (y := yX11_takeNext) 0 hts gX11_open_X11_takeNext rfl rfl rfl hdvX11_takeNext ⟨Nat.le_of_ble_eq_true rfl, Nat.le_of_ble_eq_true rfl⟩) [0, 1, 3] [2] [1, 2, 0, 3] rfl rfl rfl rfl rfl rfl (fun _ => rfl) (ci := 11) rfl 0 rfl rfl rfl (Nat.le_of_ble_eq_true rfl) ⟨Nat.le_of_ble_eq_true rfl, Nat.le_of_ble_eq_true rfl⟩ dX11_open_83 (fun u20 H locs hP _ hS => ?_)
        obtain ⟨v21, ev21, hf⟩ := lb_g hf
        refine lv_iinc (v := v21) (lv' := [(4, .int v21), (0, .ref a_this), (1, .int x0), (2, .int x1), (3, .int x2), (5, .int l5)]) hx hb dX11_open_86 hl (k := 4) rfl ev21.symm (by decide) rfl (fun ls hl => ?_)
        refine lv_goto (tgt := 29) hx hb dX11_open_89 (by decide) ?_
        exact hk29 v21 o19 f_nextValues  H _ ls hP  hS (lv_sub hl [1, 2, 3, 4, 0] rfl) hf
      · have hf := xf hf c18
        refine lv_aload_n hx hb dX11_open_45 rfl (lv_at hl 0 rfl) ?_
        refine va_get (D := X.1) (ci := 11) (v := .ref a_nextValues) (C := RX11) (T := TX11) (N := 24) hx hb hts in11 hown hG.1 hP 0 rfl rfl 23 (by decide) w2 (fun _ h9 => h9) rfl dX11_open_46 ?_
        refine lv_iload hx hb dX11_open_49 (lv_at hl 5 rfl) ?_
        refine lv_aload_n hx hb dX11_open_51 rfl (lv_at hl 0 rfl) ?_
        refine lv_iload hx hb dX11_open_52 (lv_at hl 5 rfl) ?_
        refine lv_aload_n hx hb dX11_open_54 rfl (lv_at hl 0 rfl) ?_
        refine lv_iload hx hb dX11_open_55 (lv_at hl 5 rfl) ?_
        obtain ⟨o22, ho22, hf⟩ := ob_s hf
        refine xV_i (As := [.int l5]) (b := a_this) (rest := [.int l5, .ref a_this, .int l5, .ref a_nextValues]) (ws2 := [(a_this, .inr (11, [.int i_length, .ref a_text, .ref a_roundMany, .ref a_blowMany, .ref a_blows, .ref a_forwards, .ref a_downs, .ref a_takens, .ref a_homes, .ref a_noises, .ref a_judgeMany, .ref a_judges, .ref a_delays, .ref a_tolds, .ref a_tens, .int i_keptMany, .int i_place, .ref a_told, .ref a_ways, .ref a_nextWays, .ref a_tallies, .ref a_presses, .ref a_values, .ref a_nextValues])), (a_nextValues, .inl (X.2.1 0, 51, .inl f_nextValues)), (a_tens, .inl (X.2.1 0, 12, .inl f_tens)), (a_values, .inl (X.2.1 0, 51, .inl f_values))]) hx hb hml hts hown hG hA hP hD rfl hS hl.1 (qX11_choice l X a_this a_tens a_values a_text a_roundMany a_blowMany a_blows a_forwards a_downs a_takens a_homes a_noises a_judgeMany a_judges a_delays a_tolds a_told a_ways a_nextWays a_tallies a_presses a_nextValues i_length i_keptMany i_place f_tens f_values l5 o22 ho22) (cwV (y := yX11_choice) 1 hts gX11_open_X11_choice rfl rfl rfl hdvX11_choice ⟨Nat.le_of_ble_eq_true rfl, Nat.le_of_ble_eq_true rfl⟩) [0, 2, 3] [1] [1, 0, 2, 3] rfl rfl rfl rfl rfl rfl rfl (ci := 11) rfl 0 rfl rfl rfl (Nat.le_of_ble_eq_true rfl) ⟨Nat.le_of_ble_eq_true rfl, Nat.le_of_ble_eq_true rfl⟩ dX11_open_57 (fun H locs hP _ hS => ?_)
        refine lv_aload_n hx hb dX11_open_60 rfl (lv_at hl 0 rfl) ?_
        refine lv_iload hx hb dX11_open_61 (lv_at hl 5 rfl) ?_
        refine lv_aload_n hx hb dX11_open_63 rfl (lv_at hl 0 rfl) ?_
        refine lv_iload hx hb dX11_open_64 (lv_at hl 5 rfl) ?_
        obtain ⟨o24, ho24, hf⟩ := ob_s hf
        refine xV_i (As := [.int l5]) (b := a_this) (rest := [.int l5, .ref a_this, .int o22, .int l5, .ref a_this, .int l5, .ref a_nextValues]) (ws2 := [(a_this, .inr (11, [.int i_length, .ref a_text, .ref a_roundMany, .ref a_blowMany, .ref a_blows, .ref a_forwards, .ref a_downs, .ref a_takens, .ref a_homes, .ref a_noises, .ref a_judgeMany, .ref a_judges, .ref a_delays, .ref a_tolds, .ref a_tens, .int i_keptMany, .int i_place, .ref a_told, .ref a_ways, .ref a_nextWays, .ref a_tallies, .ref a_presses, .ref a_values, .ref a_nextValues])), (a_nextValues, .inl (X.2.1 0, 51, .inl f_nextValues)), (a_tens, .inl (X.2.1 0, 12, .inl f_tens)), (a_values, .inl (X.2.1 0, 51, .inl f_values))]) hx hb hml hts hown hG hA hP hD rfl hS hl.1 (qX11_choice l X a_this a_tens a_values a_text a_roundMany a_blowMany a_blows a_forwards a_downs a_takens a_homes a_noises a_judgeMany a_judges a_delays a_tolds a_told a_ways a_nextWays a_tallies a_presses a_nextValues i_length i_keptMany i_place f_tens f_values l5 o24 ho24) (cwV (y := yX11_choice) 1 hts gX11_open_X11_choice rfl rfl rfl hdvX11_choice ⟨Nat.le_of_ble_eq_true rfl, Nat.le_of_ble_eq_true rfl⟩) [0, 2, 3] [1] [1, 0, 2, 3] rfl rfl rfl rfl rfl rfl rfl (ci := 11) rfl 0 rfl rfl rfl (Nat.le_of_ble_eq_true rfl) ⟨Nat.le_of_ble_eq_true rfl, Nat.le_of_ble_eq_true rfl⟩ dX11_open_66 (fun H locs hP _ hS => ?_)
        obtain ⟨o26, ho26, hf⟩ := ob_s hf
        refine xV_i (As := [.int l5, .int o24]) (b := a_this) (rest := [.int o22, .int l5, .ref a_this, .int l5, .ref a_nextValues]) (ws2 := [(a_this, .inr (11, [.int i_length, .ref a_text, .ref a_roundMany, .ref a_blowMany, .ref a_blows, .ref a_forwards, .ref a_downs, .ref a_takens, .ref a_homes, .ref a_noises, .ref a_judgeMany, .ref a_judges, .ref a_delays, .ref a_tolds, .ref a_tens, .int i_keptMany, .int i_place, .ref a_told, .ref a_ways, .ref a_nextWays, .ref a_tallies, .ref a_presses, .ref a_values, .ref a_nextValues])), (a_nextValues, .inl (X.2.1 0, 51, .inl f_nextValues)), (a_tens, .inl (X.2.1 0, 12, .inl f_tens)), (a_values, .inl (X.2.1 0, 51, .inl f_values))]) hx hb hml hts hown hG hA hP hD rfl hS hl.1 (qX11_answer l X a_this a_tens a_values a_text a_roundMany a_blowMany a_blows a_forwards a_downs a_takens a_homes a_noises a_judgeMany a_judges a_delays a_tolds a_told a_ways a_nextWays a_tallies a_presses a_nextValues i_length i_keptMany i_place f_tens f_values l5 o24 o26 ho26) (cwV (y := yX11_answer) 2 hts gX11_open_X11_answer rfl rfl rfl hdvX11_answer ⟨Nat.le_of_ble_eq_true rfl, Nat.le_of_ble_eq_true rfl⟩) [0, 2, 3] [1] [1, 0, 2, 3] rfl rfl rfl rfl rfl rfl rfl (ci := 11) rfl 0 rfl rfl rfl (Nat.le_of_ble_eq_true rfl) ⟨Nat.le_of_ble_eq_true rfl, Nat.le_of_ble_eq_true rfl⟩ dX11_open_69 (fun H locs hP _ hS => ?_)
        obtain ⟨o28, ho28, hf⟩ := ob_s hf
        refine xV_i (As := [.int l5, .int o22, .int o26]) (b := a_this) (rest := [.int l5, .ref a_nextValues]) (ws2 := [(a_this, .inr (11, [.int i_length, .ref a_text, .ref a_roundMany, .ref a_blowMany, .ref a_blows, .ref a_forwards, .ref a_downs, .ref a_takens, .ref a_homes, .ref a_noises, .ref a_judgeMany, .ref a_judges, .ref a_delays, .ref a_tolds, .ref a_tens, .int i_keptMany, .int i_place, .ref a_told, .ref a_ways, .ref a_nextWays, .ref a_tallies, .ref a_presses, .ref a_values, .ref a_nextValues])), (a_nextValues, .inl (X.2.1 0, 51, .inl f_nextValues)), (a_tens, .inl (X.2.1 0, 12, .inl f_tens)), (a_values, .inl (X.2.1 0, 51, .inl f_values))]) hx hb hml hts hown hG hA hP hD rfl hS hl.1 (qX11_roundBy l X a_this a_tens a_values a_text a_roundMany a_blowMany a_blows a_forwards a_downs a_takens a_homes a_noises a_judgeMany a_judges a_delays a_tolds a_told a_ways a_nextWays a_tallies a_presses a_nextValues i_length i_keptMany i_place f_tens f_values l5 o22 o26 o28 ho28) (cwV (y := yX11_roundBy) 3 hts gX11_open_X11_roundBy rfl rfl rfl hdvX11_roundBy ⟨Nat.le_of_ble_eq_true rfl, Nat.le_of_ble_eq_true rfl⟩) [0, 2, 3] [1] [1, 0, 2, 3] rfl rfl rfl rfl rfl rfl rfl (ci := 11) rfl 0 rfl rfl rfl (Nat.le_of_ble_eq_true rfl) ⟨Nat.le_of_ble_eq_true rfl, Nat.le_of_ble_eq_true rfl⟩ dX11_open_72 (fun H locs hP _ hS => ?_)
        obtain ⟨h30, hf⟩ := gi_s hf
        obtain ⟨g31, eg31, hf⟩ := lb_g hf
        refine x_iast (ws' := [(a_this, .inr (11, [.int i_length, .ref a_text, .ref a_roundMany, .ref a_blowMany, .ref a_blows, .ref a_forwards, .ref a_downs, .ref a_takens, .ref a_homes, .ref a_noises, .ref a_judgeMany, .ref a_judges, .ref a_delays, .ref a_tolds, .ref a_tens, .int i_keptMany, .int i_place, .ref a_told, .ref a_ways, .ref a_nextWays, .ref a_tallies, .ref a_presses, .ref a_values, .ref a_nextValues])), (a_nextValues, .inl (X.2.1 0, 51, .inl g31)), (a_tens, .inl (X.2.1 0, 12, .inl f_tens)), (a_values, .inl (X.2.1 0, 51, .inl f_values))]) hx hb hG hP hD rfl hS 1 rfl h30 dX11_open_75 eg31 rfl (fun H locs hP hS => ?_)
        obtain ⟨v32, ev32, hf⟩ := lb_g hf
        refine lv_iinc (v := v32) (lv' := [(5, .int v32), (0, .ref a_this), (1, .int x0), (2, .int x1), (3, .int x2), (4, .int l4)]) hx hb dX11_open_76 hl (k := 5) rfl ev32.symm (by decide) rfl (fun ls hl => ?_)
        refine lv_goto (tgt := 38) hx hb dX11_open_79 (by decide) ?_
        exact ih l4 v32 f_values g31  H _ ls hP  hS (lv_sub hl [1, 2, 3, 4, 5, 0] rfl) hf
  have hL29 : ∀ (n : Nat) (l4 : Int32) (f_values : Nat → Int32) (f_nextValues : Nat → Int32)  (H : Heap) (locs : List Loc) (ls : Array Slot), va_P X.1 vwCl [(a_this, .inr (11, [.int i_length, .ref a_text, .ref a_roundMany, .ref a_blowMany, .ref a_blows, .ref a_forwards, .ref a_downs, .ref a_takens, .ref a_homes, .ref a_noises, .ref a_judgeMany, .ref a_judges, .ref a_delays, .ref a_tolds, .ref a_tens, .int i_keptMany, .int i_place, .ref a_told, .ref a_ways, .ref a_nextWays, .ref a_tallies, .ref a_presses, .ref a_values, .ref a_nextValues])), (a_nextValues, .inl (X.2.1 0, 51, .inl f_nextValues)), (a_tens, .inl (X.2.1 0, 12, .inl f_tens)), (a_values, .inl (X.2.1 0, 51, .inl f_values))] H → va_S A s.heap H locs → lv_has ls 6 [(0, .ref a_this), (1, .int x0), (2, .int x1), (3, .int x2), (4, .int l4)] → mX11_open_L29 x0 x1 x2 f_tens  n l4 f_values f_nextValues = some o → W p l e rmX11_open s m ([.ref a_this, .int x0, .int x1, .int x2] : List Value).toArray below meth c H locs 0 0 Q (F0 m 29 ls []) := by
    intro n
    induction n with
    | zero => intro l4 f_values f_nextValues  H locs ls hP hS hl hf; exact xn hf
    | succ n ih =>
      intro l4 f_values f_nextValues  H locs ls hP hS hl hf
      have hf : mX11_open_B29 x0 x1 x2 f_tens  (mX11_open_L29 x0 x1 x2 f_tens  n) l4 f_values f_nextValues = some o := hf
      generalize mX11_open_L29 x0 x1 x2 f_tens  n = k29 at ih hf
      unfold mX11_open_B29 at hf
      refine lv_iload hx hb dX11_open_29 (lv_at hl 4 rfl) ?_
      refine lv_iload_n hx hb dX11_open_31 rfl (lv_at hl 1 rfl) ?_
      refine lv_icmp_ge (tgt := 92) hx hb dX11_open_32 (by decide) (fun c9 => ?_) (fun c9 => ?_)
      · have hf := xt hf c9
        refine lv_aload_n hx hb dX11_open_92 rfl (lv_at hl 0 rfl) ?_
        refine lv_bipush (v := (25 : Int32)) hx hb dX11_open_93 (by decide) ?_
        refine lv_iload_n hx hb dX11_open_95 rfl (lv_at hl 2 rfl) ?_
        refine lv_iadd hx hb dX11_open_96 ?_
        obtain ⟨o10, ho10, hf⟩ := ob_s hf
        refine xV_i (As := [.int ((25 : Int32) + x1)]) (b := a_this) (rest := []) (ws2 := [(a_this, .inr (11, [.int i_length, .ref a_text, .ref a_roundMany, .ref a_blowMany, .ref a_blows, .ref a_forwards, .ref a_downs, .ref a_takens, .ref a_homes, .ref a_noises, .ref a_judgeMany, .ref a_judges, .ref a_delays, .ref a_tolds, .ref a_tens, .int i_keptMany, .int i_place, .ref a_told, .ref a_ways, .ref a_nextWays, .ref a_tallies, .ref a_presses, .ref a_values, .ref a_nextValues])), (a_nextValues, .inl (X.2.1 0, 51, .inl f_nextValues)), (a_tens, .inl (X.2.1 0, 12, .inl f_tens)), (a_values, .inl (X.2.1 0, 51, .inl f_values))]) hx hb hml hts hown hG hA hP hD rfl hS hl.1 (qX11_choice l X a_this a_tens a_values a_text a_roundMany a_blowMany a_blows a_forwards a_downs a_takens a_homes a_noises a_judgeMany a_judges a_delays a_tolds a_told a_ways a_nextWays a_tallies a_presses a_nextValues i_length i_keptMany i_place f_tens f_values ((25 : Int32) + x1) o10 ho10) (cwV (y := yX11_choice) 1 hts gX11_open_X11_choice rfl rfl rfl hdvX11_choice ⟨Nat.le_of_ble_eq_true rfl, Nat.le_of_ble_eq_true rfl⟩) [0, 2, 3] [1] [1, 0, 2, 3] rfl rfl rfl rfl rfl rfl rfl (ci := 11) rfl 0 rfl rfl rfl (Nat.le_of_ble_eq_true rfl) ⟨Nat.le_of_ble_eq_true rfl, Nat.le_of_ble_eq_true rfl⟩ dX11_open_97 (fun H locs hP _ hS => ?_)
        refine lv_istore (lv' := [(4, .int o10), (0, .ref a_this), (1, .int x0), (2, .int x1), (3, .int x2)]) hx hb dX11_open_100 hl (by decide) rfl (fun ls hl => ?_)
        refine lv_aload_n hx hb dX11_open_102 rfl (lv_at hl 1 rfl) ?_
        refine lv_bipush (v := (25 : Int32)) hx hb dX11_open_103 (by decide) ?_
        refine lv_iload_n hx hb dX11_open_105 rfl (lv_at hl 3 rfl) ?_
        refine lv_iadd hx hb dX11_open_106 ?_
        refine lv_iload hx hb dX11_open_107 (lv_at hl 0 rfl) ?_
        obtain ⟨o12, ho12, hf⟩ := ob_s hf
        refine xV_i (As := [.int ((25 : Int32) + x1), .int o10]) (b := a_this) (rest := []) (ws2 := [(a_this, .inr (11, [.int i_length, .ref a_text, .ref a_roundMany, .ref a_blowMany, .ref a_blows, .ref a_forwards, .ref a_downs, .ref a_takens, .ref a_homes, .ref a_noises, .ref a_judgeMany, .ref a_judges, .ref a_delays, .ref a_tolds, .ref a_tens, .int i_keptMany, .int i_place, .ref a_told, .ref a_ways, .ref a_nextWays, .ref a_tallies, .ref a_presses, .ref a_values, .ref a_nextValues])), (a_nextValues, .inl (X.2.1 0, 51, .inl f_nextValues)), (a_tens, .inl (X.2.1 0, 12, .inl f_tens)), (a_values, .inl (X.2.1 0, 51, .inl f_values))]) hx hb hml hts hown hG hA hP hD rfl hS hl.1 (qX11_answer l X a_this a_tens a_values a_text a_roundMany a_blowMany a_blows a_forwards a_downs a_takens a_homes a_noises a_judgeMany a_judges a_delays a_tolds a_told a_ways a_nextWays a_tallies a_presses a_nextValues i_length i_keptMany i_place f_tens f_values ((25 : Int32) + x1) o10 o12 ho12) (cwV (y := yX11_answer) 2 hts gX11_open_X11_answer rfl rfl rfl hdvX11_answer ⟨Nat.le_of_ble_eq_true rfl, Nat.le_of_ble_eq_true rfl⟩) [0, 2, 3] [1] [1, 0, 2, 3] rfl rfl rfl rfl rfl rfl rfl (ci := 11) rfl 0 rfl rfl rfl (Nat.le_of_ble_eq_true rfl) ⟨Nat.le_of_ble_eq_true rfl, Nat.le_of_ble_eq_true rfl⟩ dX11_open_109 (fun H locs hP _ hS => ?_)
        refine lv_istore (lv' := [(5, .int o12), (4, .int o10), (0, .ref a_this), (1, .int x0), (2, .int x1), (3, .int x2)]) hx hb dX11_open_112 hl (by decide) rfl (fun ls hl => ?_)
        refine lv_iload_n hx hb dX11_open_114 rfl (lv_at hl 5 rfl) ?_
        refine lv_if_ne (tgt := 133) hx hb dX11_open_115 (by decide) (fun c14 => ?_) (fun c14 => ?_)
        · have hf := xf hf c14
          refine lv_iload_n hx hb dX11_open_133 rfl (lv_at hl 5 rfl) ?_
          refine lv_iconst (v := (1 : Int32)) hx hb dX11_open_134 (by decide) ?_
          refine lv_icmp_ne (tgt := 143) hx hb dX11_open_135 (by decide) (fun c15 => ?_) (fun c15 => ?_)
          · have hf := xf hf c15
            refine lv_iload hx hb dX11_open_143 (lv_at hl 0 rfl) ?_
            obtain rfl := Option.some.inj hf
            exact ret H _ ls _ rfl hP hD hS dX11_open_145
          · have hf := xt hf c15
            refine lv_iload hx hb dX11_open_138 (lv_at hl 1 rfl) ?_
            refine lv_goto (tgt := 145) hx hb dX11_open_140 (by decide) ?_
            obtain rfl := Option.some.inj hf
            exact ret H _ ls _ rfl hP hD hS dX11_open_145
        · have hf := xt hf c14
          refine lv_aload_n hx hb dX11_open_118 rfl (lv_at hl 2 rfl) ?_
          refine lv_bipush (v := (25 : Int32)) hx hb dX11_open_119 (by decide) ?_
          refine lv_iload_n hx hb dX11_open_121 rfl (lv_at hl 4 rfl) ?_
          refine lv_iadd hx hb dX11_open_122 ?_
          refine lv_iload hx hb dX11_open_123 (lv_at hl 1 rfl) ?_
          refine lv_iload hx hb dX11_open_125 (lv_at hl 0 rfl) ?_
          obtain ⟨o16, ho16, hf⟩ := ob_s hf
          refine xV_i (As := [.int ((25 : Int32) + x1), .int o10, .int o12]) (b := a_this) (rest := []) (ws2 := [(a_this, .inr (11, [.int i_length, .ref a_text, .ref a_roundMany, .ref a_blowMany, .ref a_blows, .ref a_forwards, .ref a_downs, .ref a_takens, .ref a_homes, .ref a_noises, .ref a_judgeMany, .ref a_judges, .ref a_delays, .ref a_tolds, .ref a_tens, .int i_keptMany, .int i_place, .ref a_told, .ref a_ways, .ref a_nextWays, .ref a_tallies, .ref a_presses, .ref a_values, .ref a_nextValues])), (a_nextValues, .inl (X.2.1 0, 51, .inl f_nextValues)), (a_tens, .inl (X.2.1 0, 12, .inl f_tens)), (a_values, .inl (X.2.1 0, 51, .inl f_values))]) hx hb hml hts hown hG hA hP hD rfl hS hl.1 (qX11_roundBy l X a_this a_tens a_values a_text a_roundMany a_blowMany a_blows a_forwards a_downs a_takens a_homes a_noises a_judgeMany a_judges a_delays a_tolds a_told a_ways a_nextWays a_tallies a_presses a_nextValues i_length i_keptMany i_place f_tens f_values ((25 : Int32) + x1) o10 o12 o16 ho16) (cwV (y := yX11_roundBy) 3 hts gX11_open_X11_roundBy rfl rfl rfl hdvX11_roundBy ⟨Nat.le_of_ble_eq_true rfl, Nat.le_of_ble_eq_true rfl⟩) [0, 2, 3] [1] [1, 0, 2, 3] rfl rfl rfl rfl rfl rfl rfl (ci := 11) rfl 0 rfl rfl rfl (Nat.le_of_ble_eq_true rfl) ⟨Nat.le_of_ble_eq_true rfl, Nat.le_of_ble_eq_true rfl⟩ dX11_open_127 (fun H locs hP _ hS => ?_)
          refine lv_goto (tgt := 145) hx hb dX11_open_130 (by decide) ?_
          obtain rfl := Option.some.inj hf
          exact ret H _ ls _ rfl hP hD hS dX11_open_145
      · have hf := xf hf c9
        refine lv_iconst (v := (1 : Int32)) hx hb dX11_open_35 (by decide) ?_
        refine lv_istore (lv' := [(5, .int (1 : Int32)), (0, .ref a_this), (1, .int x0), (2, .int x1), (3, .int x2), (4, .int l4)]) hx hb dX11_open_36 hl (by decide) rfl (fun ls hl => ?_)
        exact hL38 k29 ih FUEL l4 (1 : Int32) f_values f_nextValues  H _ ls hP  hS (lv_sub hl [1, 2, 3, 4, 5, 0] rfl) hf
  unfold mX11_open at hf
  refine lv_iload_n hx hb dX11_open_0 rfl (lv_at hl 1 rfl) ?_
  refine lv_iload_n hx hb dX11_open_1 rfl (lv_at hl 2 rfl) ?_
  obtain ⟨o1, ho1, hf⟩ := ob_s hf
  refine xS_i (As := [.int x0, .int x1]) (rest := []) (ws2 := [(a_this, .inr (11, [.int i_length, .ref a_text, .ref a_roundMany, .ref a_blowMany, .ref a_blows, .ref a_forwards, .ref a_downs, .ref a_takens, .ref a_homes, .ref a_noises, .ref a_judgeMany, .ref a_judges, .ref a_delays, .ref a_tolds, .ref a_tens, .int i_keptMany, .int i_place, .ref a_told, .ref a_ways, .ref a_nextWays, .ref a_tallies, .ref a_presses, .ref a_values, .ref a_nextValues])), (a_nextValues, .inl (X.2.1 0, 51, .inl f_nextValues)), (a_tens, .inl (X.2.1 0, 12, .inl f_tens)), (a_values, .inl (X.2.1 0, 51, .inl f_values))]) hx hb hml hts hown hG hA hP hD rfl hS hl.1 (qX11_areLeft l X x0 x1 o1 ho1) (va_cwS (y := yX11_areLeft) 2 hts gX11_open_X11_areLeft rfl rfl rfl hdsX11_areLeft ⟨Nat.le_of_ble_eq_true rfl, Nat.le_of_ble_eq_true rfl⟩) [] [0, 1, 2, 3] [0, 1, 2, 3] rfl rfl rfl rfl rfl rfl rfl rfl rfl (Nat.le_of_ble_eq_true rfl) ⟨Nat.le_of_ble_eq_true rfl, Nat.le_of_ble_eq_true rfl⟩ dX11_open_2 (fun H locs hP _ hS => ?_)
  refine lv_if_eq (tgt := 20) hx hb dX11_open_5 (by decide) (fun c3 => ?_) (fun c3 => ?_)
  · have hf := xt hf c3
    refine lv_iconst (v := (-1 : Int32)) hx hb dX11_open_20 (by decide) ?_
    obtain rfl := Option.some.inj hf
    exact ret H _ ls _ rfl hP hD hS dX11_open_21
  · have hf := xf hf c3
    refine lv_iload_n hx hb dX11_open_8 rfl (lv_at hl 3 rfl) ?_
    refine lv_i2l hx hb dX11_open_9 rfl ?_
    refine lv_lconst (v := (0 : Int64)) hx hb dX11_open_10 rfl ?_
    refine lv_ldc2 (v := (2 : Int64)) hx hb hown w1 dX11_open_11 ?_
    obtain ⟨o4, ho4, hf⟩ := ob_s hf
    refine xS_i (As := [.long (Int32.toInt64 x2), .long (0 : Int64), .long (2 : Int64)]) (rest := []) (ws2 := [(a_this, .inr (11, [.int i_length, .ref a_text, .ref a_roundMany, .ref a_blowMany, .ref a_blows, .ref a_forwards, .ref a_downs, .ref a_takens, .ref a_homes, .ref a_noises, .ref a_judgeMany, .ref a_judges, .ref a_delays, .ref a_tolds, .ref a_tens, .int i_keptMany, .int i_place, .ref a_told, .ref a_ways, .ref a_nextWays, .ref a_tallies, .ref a_presses, .ref a_values, .ref a_nextValues])), (a_nextValues, .inl (X.2.1 0, 51, .inl f_nextValues)), (a_tens, .inl (X.2.1 0, 12, .inl f_tens)), (a_values, .inl (X.2.1 0, 51, .inl f_values))]) hx hb hml hts hown hG hA hP hD rfl hS hl.1 (qX11_in l X (Int32.toInt64 x2) (0 : Int64) (2 : Int64) o4 ho4) (va_cwS (y := yX11_in) 3 hts gX11_open_X11_in rfl rfl rfl hdsX11_in ⟨Nat.le_of_ble_eq_true rfl, Nat.le_of_ble_eq_true rfl⟩) [] [0, 1, 2, 3] [0, 1, 2, 3] rfl rfl rfl rfl rfl rfl rfl rfl rfl (Nat.le_of_ble_eq_true rfl) ⟨Nat.le_of_ble_eq_true rfl, Nat.le_of_ble_eq_true rfl⟩ dX11_open_14 (fun H locs hP _ hS => ?_)
    refine lv_if_ne (tgt := 22) hx hb dX11_open_17 (by decide) (fun c6 => ?_) (fun c6 => ?_)
    · have hf := xf hf c6
      refine lv_aload_n hx hb dX11_open_22 rfl (lv_at hl 0 rfl) ?_
      obtain ⟨o7, ho7, hf⟩ := ob_s hf
      refine xV_v (As := []) (b := a_this) (rest := []) (ws2 := fun _ => [(a_this, .inr (11, [.int i_length, .ref a_text, .ref a_roundMany, .ref a_blowMany, .ref a_blows, .ref a_forwards, .ref a_downs, .ref a_takens, .ref a_homes, .ref a_noises, .ref a_judgeMany, .ref a_judges, .ref a_delays, .ref a_tolds, .ref a_tens, .int i_keptMany, .int i_place, .ref a_told, .ref a_ways, .ref a_nextWays, .ref a_tallies, .ref a_presses, .ref a_values, .ref a_nextValues])), (a_nextValues, .inl (X.2.1 0, 51, .inl f_nextValues)), (a_tens, .inl (X.2.1 0, 12, .inl f_tens)), (a_values, .inl (X.2.1 0, 51, .inl o7))]) hx hb hml hts hown hG hA hP hD rfl hS hl.1 (qX11_endValues l X a_this a_values a_text a_roundMany a_blowMany a_blows a_forwards a_downs a_takens a_homes a_noises a_judgeMany a_judges a_delays a_tolds a_tens a_told a_ways a_nextWays a_tallies a_presses a_nextValues i_length i_keptMany i_place f_values o7 ho7) (cwV (y := yX11_endValues) 0 hts gX11_open_X11_endValues rfl rfl rfl hdvX11_endValues ⟨Nat.le_of_ble_eq_true rfl, Nat.le_of_ble_eq_true rfl⟩) [0, 3] [1, 2] [2, 0, 1, 3] rfl rfl rfl rfl rfl rfl (fun _ => rfl) (ci := 11) rfl 0 rfl rfl rfl (Nat.le_of_ble_eq_true rfl) ⟨Nat.le_of_ble_eq_true rfl, Nat.le_of_ble_eq_true rfl⟩ dX11_open_23 (fun u8 H locs hP _ hS => ?_)
      refine lv_iconst (v := (1 : Int32)) hx hb dX11_open_26 (by decide) ?_
      refine lv_istore (lv' := [(4, .int (1 : Int32)), (0, .ref a_this), (1, .int x0), (2, .int x1), (3, .int x2)]) hx hb dX11_open_27 hl (by decide) rfl (fun ls hl => ?_)
      exact hL29  FUEL (1 : Int32) o7 f_nextValues  H _ ls hP  hS (lv_sub hl [1, 2, 3, 4, 0] rfl) hf
    · have hf := xt hf c6
      refine lv_iconst (v := (-1 : Int32)) hx hb dX11_open_20 (by decide) ?_
      obtain rfl := Option.some.inj hf
      exact ret H _ ls _ rfl hP hD hS dX11_open_21
def mX11_always_B16 (x0 : Int32) (x1 : Int32) (x2 : Int32) (x3 : Int32) (f_tens : Nat → Int32) (k7 : Int32 → (Nat → Int32) → (Nat → Int32) → Option (Int32 × (Nat → Int32) × (Nat → Int32))) (k16 : Int32 → Int32 → (Nat → Int32) → (Nat → Int32) → Option (Int32 × (Nat → Int32) × (Nat → Int32))) (l5 : Int32) (l6 : Int32) (f_values : Nat → Int32) (f_nextValues : Nat → Int32) :
  Option (Int32 × (Nat → Int32) × (Nat → Int32)) :=
  if (50 : Int32) ≤ l6 then ((mX11_takeNext f_nextValues f_values).bind fun o7 =>
  lb (l5 + (1 : Int32)) fun v9 =>
  k7 v9 o7 f_nextValues) else ((mX11_roundBy l6 x2 x3 f_tens f_values).bind fun o10 =>
  gi l6 51 <|
  lb (upd f_nextValues l6.toNatClampNeg o10) fun g13 =>
  lb (l6 + (1 : Int32)) fun v14 =>
  k16 l5 v14 f_values g13)
def mX11_always_L16 (x0 : Int32) (x1 : Int32) (x2 : Int32) (x3 : Int32) (f_tens : Nat → Int32) (k7 : Int32 → (Nat → Int32) → (Nat → Int32) → Option (Int32 × (Nat → Int32) × (Nat → Int32))) (n : Nat) (l5 : Int32) (l6 : Int32) (f_values : Nat → Int32) (f_nextValues : Nat → Int32) :
  Option (Int32 × (Nat → Int32) × (Nat → Int32)) :=
  loopN (fun k (s : Int32 × Int32 × (Nat → Int32) × (Nat → Int32)) => mX11_always_B16 x0 x1 x2 x3 f_tens k7 (fun l5 l6 f_values f_nextValues => k (l5, l6, f_values, f_nextValues)) s.1 s.2.1 s.2.2.1 s.2.2.2) n (l5, l6, f_values, f_nextValues)
def mX11_always_B7 (x0 : Int32) (x1 : Int32) (x2 : Int32) (x3 : Int32) (f_tens : Nat → Int32) (k7 : Int32 → (Nat → Int32) → (Nat → Int32) → Option (Int32 × (Nat → Int32) × (Nat → Int32))) (l5 : Int32) (f_values : Nat → Int32) (f_nextValues : Nat → Int32) :
  Option (Int32 × (Nat → Int32) × (Nat → Int32)) :=
  if x0 ≤ l5 then (gi ((25 : Int32) + x1) 51 <|
  lb (f_values ((25 : Int32) + x1).toNatClampNeg) fun v5 =>
  some (v5, f_values, f_nextValues)) else (mX11_always_L16 x0 x1 x2 x3 f_tens k7 FUEL l5 (1 : Int32) f_values f_nextValues)
def mX11_always_L7 (x0 : Int32) (x1 : Int32) (x2 : Int32) (x3 : Int32) (f_tens : Nat → Int32) (n : Nat) (l5 : Int32) (f_values : Nat → Int32) (f_nextValues : Nat → Int32) :
  Option (Int32 × (Nat → Int32) × (Nat → Int32)) :=
  loopN (fun k (s : Int32 × (Nat → Int32) × (Nat → Int32)) => mX11_always_B7 x0 x1 x2 x3 f_tens  (fun l5 f_values f_nextValues => k (l5, f_values, f_nextValues)) s.1 s.2.1 s.2.2) n (l5, f_values, f_nextValues)
def mX11_always (x0 : Int32) (x1 : Int32) (x2 : Int32) (x3 : Int32) (f_nextValues : Nat → Int32) (f_tens : Nat → Int32) (f_values : Nat → Int32) :
  Option (Int32 × (Nat → Int32) × (Nat → Int32)) :=
  (mX11_endValues f_values).bind fun o1 =>
  mX11_always_L7 x0 x1 x2 x3 f_tens  FUEL (0 : Int32) o1 f_nextValues
theorem hdsX11_always : yX11_always.cls ≠ "java/lang/invoke/MethodHandle" ∧ yX11_always.cls ≠ "java/lang/invoke/VarHandle" ∧ (parseMethodDescriptor yX11_always.desc).map (fun d => d.parameters.length) = some 4 := by decide +kernel
theorem hdvX11_always : yX11_always.cls = RX11 ∧ yX11_always.cls ≠ "java/lang/invoke/MethodHandle" ∧ yX11_always.cls ≠ "java/lang/invoke/VarHandle" ∧ (parseMethodDescriptor yX11_always.desc).map (fun d => d.parameters.length) = some 4 := by decide +kernel
abbrev rmX11_always : Room := { frames := 1, cells := 0, slots := 0, locals := 24 }
set_option maxHeartbeats 4000000 in
set_option maxRecDepth 100000 in
theorem qX11_always (l : Launch) (X : XT) (a_this : Nat) (a_nextValues : Nat) (a_tens : Nat) (a_values : Nat) (a_text : Nat) (a_roundMany : Nat) (a_blowMany : Nat) (a_blows : Nat) (a_forwards : Nat) (a_downs : Nat) (a_takens : Nat) (a_homes : Nat) (a_noises : Nat) (a_judgeMany : Nat) (a_judges : Nat) (a_delays : Nat) (a_tolds : Nat) (a_told : Nat) (a_ways : Nat) (a_nextWays : Nat) (a_tallies : Nat) (a_presses : Nat)  (i_length : Int32) (i_keptMany : Int32) (i_place : Int32) (f_nextValues : Nat → Int32) (f_tens : Nat → Int32) (f_values : Nat → Int32) (x0 : Int32) (x1 : Int32) (x2 : Int32) (x3 : Int32) (o : Int32 × (Nat → Int32) × (Nat → Int32)) (hf : mX11_always x0 x1 x2 x3 f_nextValues f_tens f_values = some o) :
    MI l yX11_always wsX11_always rmX11_always X [.ref a_this, .int x0, .int x1, .int x2, .int x3] [(a_this, .inr (11, [.int i_length, .ref a_text, .ref a_roundMany, .ref a_blowMany, .ref a_blows, .ref a_forwards, .ref a_downs, .ref a_takens, .ref a_homes, .ref a_noises, .ref a_judgeMany, .ref a_judges, .ref a_delays, .ref a_tolds, .ref a_tens, .int i_keptMany, .int i_place, .ref a_told, .ref a_ways, .ref a_nextWays, .ref a_tallies, .ref a_presses, .ref a_values, .ref a_nextValues])), (a_nextValues, .inl (X.2.1 0, 51, .inl f_nextValues)), (a_tens, .inl (X.2.1 0, 12, .inl f_tens)), (a_values, .inl (X.2.1 0, 51, .inl f_values))]  [(a_this, .inr (11, [.int i_length, .ref a_text, .ref a_roundMany, .ref a_blowMany, .ref a_blows, .ref a_forwards, .ref a_downs, .ref a_takens, .ref a_homes, .ref a_noises, .ref a_judgeMany, .ref a_judges, .ref a_delays, .ref a_tolds, .ref a_tens, .int i_keptMany, .int i_place, .ref a_told, .ref a_ways, .ref a_nextWays, .ref a_tallies, .ref a_presses, .ref a_values, .ref a_nextValues])), (a_nextValues, .inl (X.2.1 0, 51, .inl o.2.2)), (a_tens, .inl (X.2.1 0, 12, .inl f_tens)), (a_values, .inl (X.2.1 0, 51, .inl o.2.1))] o.1 := by
  refine MI_ofH (cc := cX11_always) (maxL := 7) (rt := .int) (by decide) rfl (Nat.le_of_ble_eq_true rfl) ?_
  intro p e s m below meth c A Q H ls hx hb hml hts hown hA hD hG hP hS hl ret
  have hown : s.vm.findClass RX11 = some m.cls := hown
  have hD : aD A [a_this, a_nextValues, a_tens, a_values] := hD
  have hl : lv_has ls 7 [(0, .ref a_this), (1, .int x0), (2, .int x1), (3, .int x2), (4, .int x3)] := hl
  have w1 := hts (.fieldLink RX11 71 "ThreeCardsModel" "nextValues" "[I") (List.mem_of_getElem? (i := 1) rfl)
  have w2 := hts (.fieldLink RX11 68 "ThreeCardsModel" "values" "[I") (List.mem_of_getElem? (i := 2) rfl)
  have in11 : ∀ w ∈ u_ws RX11 TX11 24, w ∈ wsX11_always := by decide +kernel
  have hL16 : ∀ (k7 : Int32 → (Nat → Int32) → (Nat → Int32) → Option (Int32 × (Nat → Int32) × (Nat → Int32))) (hk7 : ∀ (l5 : Int32) (f_values : Nat → Int32) (f_nextValues : Nat → Int32)  (H : Heap) (locs : List Loc) (ls : Array Slot), va_P X.1 vwCl [(a_this, .inr (11, [.int i_length, .ref a_text, .ref a_roundMany, .ref a_blowMany, .ref a_blows, .ref a_forwards, .ref a_downs, .ref a_takens, .ref a_homes, .ref a_noises, .ref a_judgeMany, .ref a_judges, .ref a_delays, .ref a_tolds, .ref a_tens, .int i_keptMany, .int i_place, .ref a_told, .ref a_ways, .ref a_nextWays, .ref a_tallies, .ref a_presses, .ref a_values, .ref a_nextValues])), (a_nextValues, .inl (X.2.1 0, 51, .inl f_nextValues)), (a_tens, .inl (X.2.1 0, 12, .inl f_tens)), (a_values, .inl (X.2.1 0, 51, .inl f_values))] H → va_S A s.heap H locs → lv_has ls 7 [(0, .ref a_this), (1, .int x0), (2, .int x1), (3, .int x2), (4, .int x3), (5, .int l5)] → k7 l5 f_values f_nextValues = some o → W p l e rmX11_always s m ([.ref a_this, .int x0, .int x1, .int x2, .int x3] : List Value).toArray below meth c H locs 0 0 Q (F0 m 7 ls [])) (n : Nat) (l5 : Int32) (l6 : Int32) (f_values : Nat → Int32) (f_nextValues : Nat → Int32)  (H : Heap) (locs : List Loc) (ls : Array Slot), va_P X.1 vwCl [(a_this, .inr (11, [.int i_length, .ref a_text, .ref a_roundMany, .ref a_blowMany, .ref a_blows, .ref a_forwards, .ref a_downs, .ref a_takens, .ref a_homes, .ref a_noises, .ref a_judgeMany, .ref a_judges, .ref a_delays, .ref a_tolds, .ref a_tens, .int i_keptMany, .int i_place, .ref a_told, .ref a_ways, .ref a_nextWays, .ref a_tallies, .ref a_presses, .ref a_values, .ref a_nextValues])), (a_nextValues, .inl (X.2.1 0, 51, .inl f_nextValues)), (a_tens, .inl (X.2.1 0, 12, .inl f_tens)), (a_values, .inl (X.2.1 0, 51, .inl f_values))] H → va_S A s.heap H locs → lv_has ls 7 [(0, .ref a_this), (1, .int x0), (2, .int x1), (3, .int x2), (4, .int x3), (5, .int l5), (6, .int l6)] → mX11_always_L16 x0 x1 x2 x3 f_tens k7 n l5 l6 f_values f_nextValues = some o → W p l e rmX11_always s m ([.ref a_this, .int x0, .int x1, .int x2, .int x3] : List Value).toArray below meth c H locs 0 0 Q (F0 m 16 ls []) := by
    intro k7 hk7 n
    induction n with
    | zero => intro l5 l6 f_values f_nextValues  H locs ls hP hS hl hf; exact xn hf
    | succ n ih =>
      intro l5 l6 f_values f_nextValues  H locs ls hP hS hl hf
      have hf : mX11_always_B16 x0 x1 x2 x3 f_tens k7 (mX11_always_L16 x0 x1 x2 x3 f_tens k7 n) l5 l6 f_values f_nextValues = some o := hf
      generalize mX11_always_L16 x0 x1 x2 x3 f_tens k7 n = k16 at ih hf
      unfold mX11_always_B16 at hf
      refine lv_iload hx hb dX11_always_16 (lv_at hl 6 rfl) ?_
      refine lv_bipush (v := (50 : Int32)) hx hb dX11_always_18 (by decide) ?_
      refine lv_icmp_ge (tgt := 45) hx hb dX11_always_20 (by decide) (fun c6 => ?_) (fun c6 => ?_)
      · have hf := xt hf c6
        refine lv_aload_n hx hb dX11_always_45 rfl (lv_at hl 0 rfl) ?_
        obtain ⟨o7, ho7, hf⟩ := ob_s hf
        refine xV_v (As := []) (b := a_this) (rest := []) (ws2 := fun _ => [(a_this, .inr (11, [.int i_length, .ref a_text, .ref a_roundMany, .ref a_blowMany, .ref a_blows, .ref a_forwards, .ref a_downs, .ref a_takens, .ref a_homes, .ref a_noises, .ref a_judgeMany, .ref a_judges, .ref a_delays, .ref a_tolds, .ref a_tens, .int i_keptMany, .int i_place, .ref a_told, .ref a_ways, .ref a_nextWays, .ref a_tallies, .ref a_presses, .ref a_values, .ref a_nextValues])), (a_nextValues, .inl (X.2.1 0, 51, .inl f_nextValues)), (a_tens, .inl (X.2.1 0, 12, .inl f_tens)), (a_values, .inl (X.2.1 0, 51, .inl o7))]) hx hb hml hts hown hG hA hP hD rfl hS hl.1 (qX11_takeNext l X a_this a_nextValues a_values a_text a_roundMany a_blowMany a_blows a_forwards a_downs a_takens a_homes a_noises a_judgeMany a_judges a_delays a_tolds a_tens a_told a_ways a_nextWays a_tallies a_presses i_length i_keptMany i_place f_nextValues f_values o7 ho7) (cwV (y := yX11_takeNext) 0 hts gX11_always_X11_takeNext rfl rfl rfl hdvX11_takeNext ⟨Nat.le_of_ble_eq_true rfl, Nat.le_of_ble_eq_true rfl⟩) [0, 1, 3] [2] [1, 2, 0, 3] rfl rfl rfl rfl rfl rfl (fun _ => rfl) (ci := 11) rfl 0 rfl rfl rfl (Nat.le_of_ble_eq_true rfl) ⟨Nat.le_of_ble_eq_true rfl, Nat.le_of_ble_eq_true rfl⟩ dX11_always_46 (fun u8 H locs hP _ hS => ?_)
        obtain ⟨v9, ev9, hf⟩ := lb_g hf
        refine lv_iinc (v := v9) (lv' := [(5, .int v9), (0, .ref a_this), (1, .int x0), (2, .int x1), (3, .int x2), (4, .int x3), (6, .int l6)]) hx hb dX11_always_49 hl (k := 5) rfl ev9.symm (by decide) rfl (fun ls hl => ?_)
        refine lv_goto (tgt := 7) hx hb dX11_always_52 (by decide) ?_
        exact hk7 v9 o7 f_nextValues  H _ ls hP  hS (lv_sub hl [1, 2, 3, 4, 5, 0] rfl) hf
      · have hf := xf hf c6
        refine lv_aload_n hx hb dX11_always_23 rfl (lv_at hl 0 rfl) ?_
        refine va_get (D := X.1) (ci := 11) (v := .ref a_nextValues) (C := RX11) (T := TX11) (N := 24) hx hb hts in11 hown hG.1 hP 0 rfl rfl 23 (by decide) w1 (fun _ h9 => h9) rfl dX11_always_24 ?_
        refine lv_iload hx hb dX11_always_27 (lv_at hl 6 rfl) ?_
        refine lv_aload_n hx hb dX11_always_29 rfl (lv_at hl 0 rfl) ?_
        refine lv_iload hx hb dX11_always_30 (lv_at hl 6 rfl) ?_
        refine lv_iload_n hx hb dX11_always_32 rfl (lv_at hl 3 rfl) ?_
        refine lv_iload hx hb dX11_always_33 (lv_at hl 4 rfl) ?_
        obtain ⟨o10, ho10, hf⟩ := ob_s hf
        refine xV_i (As := [.int l6, .int x2, .int x3]) (b := a_this) (rest := [.int l6, .ref a_nextValues]) (ws2 := [(a_this, .inr (11, [.int i_length, .ref a_text, .ref a_roundMany, .ref a_blowMany, .ref a_blows, .ref a_forwards, .ref a_downs, .ref a_takens, .ref a_homes, .ref a_noises, .ref a_judgeMany, .ref a_judges, .ref a_delays, .ref a_tolds, .ref a_tens, .int i_keptMany, .int i_place, .ref a_told, .ref a_ways, .ref a_nextWays, .ref a_tallies, .ref a_presses, .ref a_values, .ref a_nextValues])), (a_nextValues, .inl (X.2.1 0, 51, .inl f_nextValues)), (a_tens, .inl (X.2.1 0, 12, .inl f_tens)), (a_values, .inl (X.2.1 0, 51, .inl f_values))]) hx hb hml hts hown hG hA hP hD rfl hS hl.1 (qX11_roundBy l X a_this a_tens a_values a_text a_roundMany a_blowMany a_blows a_forwards a_downs a_takens a_homes a_noises a_judgeMany a_judges a_delays a_tolds a_told a_ways a_nextWays a_tallies a_presses a_nextValues i_length i_keptMany i_place f_tens f_values l6 x2 x3 o10 ho10) (cwV (y := yX11_roundBy) 3 hts gX11_always_X11_roundBy rfl rfl rfl hdvX11_roundBy ⟨Nat.le_of_ble_eq_true rfl, Nat.le_of_ble_eq_true rfl⟩) [0, 2, 3] [1] [1, 0, 2, 3] rfl rfl rfl rfl rfl rfl rfl (ci := 11) rfl 0 rfl rfl rfl (Nat.le_of_ble_eq_true rfl) ⟨Nat.le_of_ble_eq_true rfl, Nat.le_of_ble_eq_true rfl⟩ dX11_always_35 (fun H locs hP _ hS => ?_)
        obtain ⟨h12, hf⟩ := gi_s hf
        obtain ⟨g13, eg13, hf⟩ := lb_g hf
        refine x_iast (ws' := [(a_this, .inr (11, [.int i_length, .ref a_text, .ref a_roundMany, .ref a_blowMany, .ref a_blows, .ref a_forwards, .ref a_downs, .ref a_takens, .ref a_homes, .ref a_noises, .ref a_judgeMany, .ref a_judges, .ref a_delays, .ref a_tolds, .ref a_tens, .int i_keptMany, .int i_place, .ref a_told, .ref a_ways, .ref a_nextWays, .ref a_tallies, .ref a_presses, .ref a_values, .ref a_nextValues])), (a_nextValues, .inl (X.2.1 0, 51, .inl g13)), (a_tens, .inl (X.2.1 0, 12, .inl f_tens)), (a_values, .inl (X.2.1 0, 51, .inl f_values))]) hx hb hG hP hD rfl hS 1 rfl h12 dX11_always_38 eg13 rfl (fun H locs hP hS => ?_)
        obtain ⟨v14, ev14, hf⟩ := lb_g hf
        refine lv_iinc (v := v14) (lv' := [(6, .int v14), (0, .ref a_this), (1, .int x0), (2, .int x1), (3, .int x2), (4, .int x3), (5, .int l5)]) hx hb dX11_always_39 hl (k := 6) rfl ev14.symm (by decide) rfl (fun ls hl => ?_)
        refine lv_goto (tgt := 16) hx hb dX11_always_42 (by decide) ?_
        exact ih l5 v14 f_values g13  H _ ls hP  hS (lv_sub hl [1, 2, 3, 4, 5, 6, 0] rfl) hf
  have hL7 : ∀ (n : Nat) (l5 : Int32) (f_values : Nat → Int32) (f_nextValues : Nat → Int32)  (H : Heap) (locs : List Loc) (ls : Array Slot), va_P X.1 vwCl [(a_this, .inr (11, [.int i_length, .ref a_text, .ref a_roundMany, .ref a_blowMany, .ref a_blows, .ref a_forwards, .ref a_downs, .ref a_takens, .ref a_homes, .ref a_noises, .ref a_judgeMany, .ref a_judges, .ref a_delays, .ref a_tolds, .ref a_tens, .int i_keptMany, .int i_place, .ref a_told, .ref a_ways, .ref a_nextWays, .ref a_tallies, .ref a_presses, .ref a_values, .ref a_nextValues])), (a_nextValues, .inl (X.2.1 0, 51, .inl f_nextValues)), (a_tens, .inl (X.2.1 0, 12, .inl f_tens)), (a_values, .inl (X.2.1 0, 51, .inl f_values))] H → va_S A s.heap H locs → lv_has ls 7 [(0, .ref a_this), (1, .int x0), (2, .int x1), (3, .int x2), (4, .int x3), (5, .int l5)] → mX11_always_L7 x0 x1 x2 x3 f_tens  n l5 f_values f_nextValues = some o → W p l e rmX11_always s m ([.ref a_this, .int x0, .int x1, .int x2, .int x3] : List Value).toArray below meth c H locs 0 0 Q (F0 m 7 ls []) := by
    intro n
    induction n with
    | zero => intro l5 f_values f_nextValues  H locs ls hP hS hl hf; exact xn hf
    | succ n ih =>
      intro l5 f_values f_nextValues  H locs ls hP hS hl hf
      have hf : mX11_always_B7 x0 x1 x2 x3 f_tens  (mX11_always_L7 x0 x1 x2 x3 f_tens  n) l5 f_values f_nextValues = some o := hf
      generalize mX11_always_L7 x0 x1 x2 x3 f_tens  n = k7 at ih hf
      unfold mX11_always_B7 at hf
      refine lv_iload hx hb dX11_always_7 (lv_at hl 5 rfl) ?_
      refine lv_iload_n hx hb dX11_always_9 rfl (lv_at hl 1 rfl) ?_
      refine lv_icmp_ge (tgt := 55) hx hb dX11_always_10 (by decide) (fun c3 => ?_) (fun c3 => ?_)
      · have hf := xt hf c3
        refine lv_aload_n hx hb dX11_always_55 rfl (lv_at hl 0 rfl) ?_
        refine va_get (D := X.1) (ci := 11) (v := .ref a_values) (C := RX11) (T := TX11) (N := 24) hx hb hts in11 hown hG.1 hP 0 rfl rfl 22 (by decide) w2 (fun _ h9 => h9) rfl dX11_always_56 ?_
        refine lv_bipush (v := (25 : Int32)) hx hb dX11_always_59 (by decide) ?_
        refine lv_iload_n hx hb dX11_always_61 rfl (lv_at hl 2 rfl) ?_
        refine lv_iadd hx hb dX11_always_62 ?_
        obtain ⟨h4, hf⟩ := gi_s hf
        refine va_iald (D := X.1) hx hb hG.1 hP 3 0 rfl rfl h4 dX11_always_63 ?_
        refine lv_topi (fun v5 ev5 => ?_)
        have hf := lb_s hf ev5
        obtain rfl := Option.some.inj hf
        exact ret H _ ls _ rfl hP hD hS dX11_always_64
      · have hf := xf hf c3
        refine lv_iconst (v := (1 : Int32)) hx hb dX11_always_13 (by decide) ?_
        refine lv_istore (lv' := [(6, .int (1 : Int32)), (0, .ref a_this), (1, .int x0), (2, .int x1), (3, .int x2), (4, .int x3), (5, .int l5)]) hx hb dX11_always_14 hl (by decide) rfl (fun ls hl => ?_)
        exact hL16 k7 ih FUEL l5 (1 : Int32) f_values f_nextValues  H _ ls hP  hS (lv_sub hl [1, 2, 3, 4, 5, 6, 0] rfl) hf
  unfold mX11_always at hf
  refine lv_aload_n hx hb dX11_always_0 rfl (lv_at hl 0 rfl) ?_
  obtain ⟨o1, ho1, hf⟩ := ob_s hf
  refine xV_v (As := []) (b := a_this) (rest := []) (ws2 := fun _ => [(a_this, .inr (11, [.int i_length, .ref a_text, .ref a_roundMany, .ref a_blowMany, .ref a_blows, .ref a_forwards, .ref a_downs, .ref a_takens, .ref a_homes, .ref a_noises, .ref a_judgeMany, .ref a_judges, .ref a_delays, .ref a_tolds, .ref a_tens, .int i_keptMany, .int i_place, .ref a_told, .ref a_ways, .ref a_nextWays, .ref a_tallies, .ref a_presses, .ref a_values, .ref a_nextValues])), (a_nextValues, .inl (X.2.1 0, 51, .inl f_nextValues)), (a_tens, .inl (X.2.1 0, 12, .inl f_tens)), (a_values, .inl (X.2.1 0, 51, .inl o1))]) hx hb hml hts hown hG hA hP hD rfl hS hl.1 (qX11_endValues l X a_this a_values a_text a_roundMany a_blowMany a_blows a_forwards a_downs a_takens a_homes a_noises a_judgeMany a_judges a_delays a_tolds a_tens a_told a_ways a_nextWays a_tallies a_presses a_nextValues i_length i_keptMany i_place f_values o1 ho1) (cwV (y := yX11_endValues) 0 hts gX11_always_X11_endValues rfl rfl rfl hdvX11_endValues ⟨Nat.le_of_ble_eq_true rfl, Nat.le_of_ble_eq_true rfl⟩) [0, 3] [1, 2] [2, 0, 1, 3] rfl rfl rfl rfl rfl rfl (fun _ => rfl) (ci := 11) rfl 0 rfl rfl rfl (Nat.le_of_ble_eq_true rfl) ⟨Nat.le_of_ble_eq_true rfl, Nat.le_of_ble_eq_true rfl⟩ dX11_always_1 (fun u2 H locs hP _ hS => ?_)
  refine lv_iconst (v := (0 : Int32)) hx hb dX11_always_4 (by decide) ?_
  refine lv_istore (lv' := [(5, .int (0 : Int32)), (0, .ref a_this), (1, .int x0), (2, .int x1), (3, .int x2), (4, .int x3)]) hx hb dX11_always_5 hl (by decide) rfl (fun ls hl => ?_)
  exact hL7  FUEL (0 : Int32) o1 f_nextValues  H _ ls hP  hS (lv_sub hl [1, 2, 3, 4, 5, 0] rfl) hf
def mX11_answerAlways (x0 : Int32) (x1 : Int32) (x2 : Int32) (f_nextValues : Nat → Int32) (f_tens : Nat → Int32) (f_values : Nat → Int32) :
  Option (Int32 × (Nat → Int32) × (Nat → Int32)) :=
  (mX11_always x0 x1 x2 (1 : Int32) f_nextValues f_tens f_values).bind fun o1 =>
  (mX11_always x0 x1 x2 (0 : Int32) o1.2.2 f_tens o1.2.1).bind fun o3 =>
  if o3.1 ≤ o1.1 then (some ((0 : Int32), o3.2.1, o3.2.2)) else (some ((1 : Int32), o3.2.1, o3.2.2))
theorem hdsX11_answerAlways : yX11_answerAlways.cls ≠ "java/lang/invoke/MethodHandle" ∧ yX11_answerAlways.cls ≠ "java/lang/invoke/VarHandle" ∧ (parseMethodDescriptor yX11_answerAlways.desc).map (fun d => d.parameters.length) = some 3 := by decide +kernel
theorem hdvX11_answerAlways : yX11_answerAlways.cls = RX11 ∧ yX11_answerAlways.cls ≠ "java/lang/invoke/MethodHandle" ∧ yX11_answerAlways.cls ≠ "java/lang/invoke/VarHandle" ∧ (parseMethodDescriptor yX11_answerAlways.desc).map (fun d => d.parameters.length) = some 3 := by decide +kernel
abbrev rmX11_answerAlways : Room := { frames := 2, cells := 0, slots := 0, locals := 50 }
set_option maxHeartbeats 4000000 in
set_option maxRecDepth 100000 in
theorem qX11_answerAlways (l : Launch) (X : XT) (a_this : Nat) (a_nextValues : Nat) (a_tens : Nat) (a_values : Nat) (a_text : Nat) (a_roundMany : Nat) (a_blowMany : Nat) (a_blows : Nat) (a_forwards : Nat) (a_downs : Nat) (a_takens : Nat) (a_homes : Nat) (a_noises : Nat) (a_judgeMany : Nat) (a_judges : Nat) (a_delays : Nat) (a_tolds : Nat) (a_told : Nat) (a_ways : Nat) (a_nextWays : Nat) (a_tallies : Nat) (a_presses : Nat)  (i_length : Int32) (i_keptMany : Int32) (i_place : Int32) (f_nextValues : Nat → Int32) (f_tens : Nat → Int32) (f_values : Nat → Int32) (x0 : Int32) (x1 : Int32) (x2 : Int32) (o : Int32 × (Nat → Int32) × (Nat → Int32)) (hf : mX11_answerAlways x0 x1 x2 f_nextValues f_tens f_values = some o) :
    MI l yX11_answerAlways wsX11_answerAlways rmX11_answerAlways X [.ref a_this, .int x0, .int x1, .int x2] [(a_this, .inr (11, [.int i_length, .ref a_text, .ref a_roundMany, .ref a_blowMany, .ref a_blows, .ref a_forwards, .ref a_downs, .ref a_takens, .ref a_homes, .ref a_noises, .ref a_judgeMany, .ref a_judges, .ref a_delays, .ref a_tolds, .ref a_tens, .int i_keptMany, .int i_place, .ref a_told, .ref a_ways, .ref a_nextWays, .ref a_tallies, .ref a_presses, .ref a_values, .ref a_nextValues])), (a_nextValues, .inl (X.2.1 0, 51, .inl f_nextValues)), (a_tens, .inl (X.2.1 0, 12, .inl f_tens)), (a_values, .inl (X.2.1 0, 51, .inl f_values))]  [(a_this, .inr (11, [.int i_length, .ref a_text, .ref a_roundMany, .ref a_blowMany, .ref a_blows, .ref a_forwards, .ref a_downs, .ref a_takens, .ref a_homes, .ref a_noises, .ref a_judgeMany, .ref a_judges, .ref a_delays, .ref a_tolds, .ref a_tens, .int i_keptMany, .int i_place, .ref a_told, .ref a_ways, .ref a_nextWays, .ref a_tallies, .ref a_presses, .ref a_values, .ref a_nextValues])), (a_nextValues, .inl (X.2.1 0, 51, .inl o.2.2)), (a_tens, .inl (X.2.1 0, 12, .inl f_tens)), (a_values, .inl (X.2.1 0, 51, .inl o.2.1))] o.1 := by
  refine MI_ofH (cc := cX11_answerAlways) (maxL := 4) (rt := .int) (by decide) rfl (Nat.le_of_ble_eq_true rfl) ?_
  intro p e s m below meth c A Q H ls hx hb hml hts hown hA hD hG hP hS hl ret
  have hown : s.vm.findClass RX11 = some m.cls := hown
  have hD : aD A [a_this, a_nextValues, a_tens, a_values] := hD
  have hl : lv_has ls 4 [(0, .ref a_this), (1, .int x0), (2, .int x1), (3, .int x2)] := hl
  unfold mX11_answerAlways at hf
  refine lv_aload_n hx hb dX11_answerAlways_0 rfl (lv_at hl 0 rfl) ?_
  refine lv_iload_n hx hb dX11_answerAlways_1 rfl (lv_at hl 1 rfl) ?_
  refine lv_iload_n hx hb dX11_answerAlways_2 rfl (lv_at hl 2 rfl) ?_
  refine lv_iload_n hx hb dX11_answerAlways_3 rfl (lv_at hl 3 rfl) ?_
  refine lv_iconst (v := (1 : Int32)) hx hb dX11_answerAlways_4 (by decide) ?_
  obtain ⟨o1, ho1, hf⟩ := ob_s hf
  refine xV_i (As := [.int x0, .int x1, .int x2, .int (1 : Int32)]) (b := a_this) (rest := []) (ws2 := [(a_this, .inr (11, [.int i_length, .ref a_text, .ref a_roundMany, .ref a_blowMany, .ref a_blows, .ref a_forwards, .ref a_downs, .ref a_takens, .ref a_homes, .ref a_noises, .ref a_judgeMany, .ref a_judges, .ref a_delays, .ref a_tolds, .ref a_tens, .int i_keptMany, .int i_place, .ref a_told, .ref a_ways, .ref a_nextWays, .ref a_tallies, .ref a_presses, .ref a_values, .ref a_nextValues])), (a_nextValues, .inl (X.2.1 0, 51, .inl o1.2.2)), (a_tens, .inl (X.2.1 0, 12, .inl f_tens)), (a_values, .inl (X.2.1 0, 51, .inl o1.2.1))]) hx hb hml hts hown hG hA hP hD rfl hS hl.1 (qX11_always l X a_this a_nextValues a_tens a_values a_text a_roundMany a_blowMany a_blows a_forwards a_downs a_takens a_homes a_noises a_judgeMany a_judges a_delays a_tolds a_told a_ways a_nextWays a_tallies a_presses i_length i_keptMany i_place f_nextValues f_tens f_values x0 x1 x2 (1 : Int32) o1 ho1) (cwV (y := yX11_always) 4 hts gX11_answerAlways_X11_always rfl rfl rfl hdvX11_always ⟨Nat.le_of_ble_eq_true rfl, Nat.le_of_ble_eq_true rfl⟩) [0, 1, 2, 3] [] [0, 1, 2, 3] rfl rfl rfl rfl rfl rfl rfl (ci := 11) rfl 0 rfl rfl rfl (Nat.le_of_ble_eq_true rfl) ⟨Nat.le_of_ble_eq_true rfl, Nat.le_of_ble_eq_true rfl⟩ dX11_answerAlways_5 (fun H locs hP _ hS => ?_)
  refine lv_aload_n hx hb dX11_answerAlways_8 rfl (lv_at hl 0 rfl) ?_
  refine lv_iload_n hx hb dX11_answerAlways_9 rfl (lv_at hl 1 rfl) ?_
  refine lv_iload_n hx hb dX11_answerAlways_10 rfl (lv_at hl 2 rfl) ?_
  refine lv_iload_n hx hb dX11_answerAlways_11 rfl (lv_at hl 3 rfl) ?_
  refine lv_iconst (v := (0 : Int32)) hx hb dX11_answerAlways_12 (by decide) ?_
  obtain ⟨o3, ho3, hf⟩ := ob_s hf
  refine xV_i (As := [.int x0, .int x1, .int x2, .int (0 : Int32)]) (b := a_this) (rest := [.int o1.1]) (ws2 := [(a_this, .inr (11, [.int i_length, .ref a_text, .ref a_roundMany, .ref a_blowMany, .ref a_blows, .ref a_forwards, .ref a_downs, .ref a_takens, .ref a_homes, .ref a_noises, .ref a_judgeMany, .ref a_judges, .ref a_delays, .ref a_tolds, .ref a_tens, .int i_keptMany, .int i_place, .ref a_told, .ref a_ways, .ref a_nextWays, .ref a_tallies, .ref a_presses, .ref a_values, .ref a_nextValues])), (a_nextValues, .inl (X.2.1 0, 51, .inl o3.2.2)), (a_tens, .inl (X.2.1 0, 12, .inl f_tens)), (a_values, .inl (X.2.1 0, 51, .inl o3.2.1))]) hx hb hml hts hown hG hA hP hD rfl hS hl.1 (qX11_always l X a_this a_nextValues a_tens a_values a_text a_roundMany a_blowMany a_blows a_forwards a_downs a_takens a_homes a_noises a_judgeMany a_judges a_delays a_tolds a_told a_ways a_nextWays a_tallies a_presses i_length i_keptMany i_place o1.2.2 f_tens o1.2.1 x0 x1 x2 (0 : Int32) o3 ho3) (cwV (y := yX11_always) 4 hts gX11_answerAlways_X11_always rfl rfl rfl hdvX11_always ⟨Nat.le_of_ble_eq_true rfl, Nat.le_of_ble_eq_true rfl⟩) [0, 1, 2, 3] [] [0, 1, 2, 3] rfl rfl rfl rfl rfl rfl rfl (ci := 11) rfl 0 rfl rfl rfl (Nat.le_of_ble_eq_true rfl) ⟨Nat.le_of_ble_eq_true rfl, Nat.le_of_ble_eq_true rfl⟩ dX11_answerAlways_13 (fun H locs hP _ hS => ?_)
  refine lv_icmp_ge (tgt := 23) hx hb dX11_answerAlways_16 (by decide) (fun c5 => ?_) (fun c5 => ?_)
  · have hf := xt hf c5
    refine lv_iconst (v := (0 : Int32)) hx hb dX11_answerAlways_23 (by decide) ?_
    obtain rfl := Option.some.inj hf
    exact ret H _ ls _ rfl hP hD hS dX11_answerAlways_24
  · have hf := xf hf c5
    refine lv_iconst (v := (1 : Int32)) hx hb dX11_answerAlways_19 (by decide) ?_
    refine lv_goto (tgt := 24) hx hb dX11_answerAlways_20 (by decide) ?_
    obtain rfl := Option.some.inj hf
    exact ret H _ ls _ rfl hP hD hS dX11_answerAlways_24
def mX11_hidden_B66 (x0 : Int32) (x1 : Int32) (x2 : Int32) (f_tens : Nat → Int32) (l4 : Int32) (l5 : Int32) (s0 : Int32) (f_values : Nat → Int32) (f_nextValues : Nat → Int32) :
  Option (Int32 × (Nat → Int32) × (Nat → Int32)) :=
  if x2 = 0 then (if s0 = (1 : Int32) then (some (l5, f_values, f_nextValues)) else (some (l4, f_values, f_nextValues))) else (if x2 = (1 : Int32) then (some (s0, f_values, f_nextValues)) else ((mX11_answerAlways x0 x1 s0 f_nextValues f_tens f_values).bind fun o18 =>
  some (o18.1, o18.2.1, o18.2.2)))
def mX11_hidden (x0 : Int32) (x1 : Int32) (x2 : Int32) (f_nextValues : Nat → Int32) (f_tens : Nat → Int32) (f_values : Nat → Int32) :
  Option (Int32 × (Nat → Int32) × (Nat → Int32)) :=
  (mX11_areLeft x0 x1).bind fun o1 =>
  if o1 = 0 then (some ((-1 : Int32), f_values, f_nextValues)) else ((mX11_in (Int32.toInt64 x2) (0 : Int64) (2 : Int64)).bind fun o4 =>
  if o4 = 0 then (some ((-1 : Int32), f_values, f_nextValues)) else ((mX11_answerAlways x0 x1 (0 : Int32) f_nextValues f_tens f_values).bind fun o7 =>
  (mX11_always x0 x1 (0 : Int32) o7.1 o7.2.2 f_tens o7.2.1).bind fun o9 =>
  (mX11_answerAlways x0 x1 (1 : Int32) o9.2.2 f_tens o9.2.1).bind fun o11 =>
  (mX11_always x0 x1 (1 : Int32) o11.1 o11.2.2 f_tens o11.2.1).bind fun o13 =>
  if o13.1 ≤ o9.1 then (mX11_hidden_B66 x0 x1 x2 f_tens  o9.1 o13.1 (0 : Int32) o13.2.1 o13.2.2) else (mX11_hidden_B66 x0 x1 x2 f_tens  o9.1 o13.1 (1 : Int32) o13.2.1 o13.2.2)))
theorem hdsX11_hidden : yX11_hidden.cls ≠ "java/lang/invoke/MethodHandle" ∧ yX11_hidden.cls ≠ "java/lang/invoke/VarHandle" ∧ (parseMethodDescriptor yX11_hidden.desc).map (fun d => d.parameters.length) = some 3 := by decide +kernel
theorem hdvX11_hidden : yX11_hidden.cls = RX11 ∧ yX11_hidden.cls ≠ "java/lang/invoke/MethodHandle" ∧ yX11_hidden.cls ≠ "java/lang/invoke/VarHandle" ∧ (parseMethodDescriptor yX11_hidden.desc).map (fun d => d.parameters.length) = some 3 := by decide +kernel
abbrev rmX11_hidden : Room := { frames := 3, cells := 0, slots := 0, locals := 73 }
set_option maxHeartbeats 4000000 in
set_option maxRecDepth 100000 in
theorem qX11_hidden (l : Launch) (X : XT) (a_this : Nat) (a_nextValues : Nat) (a_tens : Nat) (a_values : Nat) (a_text : Nat) (a_roundMany : Nat) (a_blowMany : Nat) (a_blows : Nat) (a_forwards : Nat) (a_downs : Nat) (a_takens : Nat) (a_homes : Nat) (a_noises : Nat) (a_judgeMany : Nat) (a_judges : Nat) (a_delays : Nat) (a_tolds : Nat) (a_told : Nat) (a_ways : Nat) (a_nextWays : Nat) (a_tallies : Nat) (a_presses : Nat)  (i_length : Int32) (i_keptMany : Int32) (i_place : Int32) (f_nextValues : Nat → Int32) (f_tens : Nat → Int32) (f_values : Nat → Int32) (x0 : Int32) (x1 : Int32) (x2 : Int32) (o : Int32 × (Nat → Int32) × (Nat → Int32)) (hf : mX11_hidden x0 x1 x2 f_nextValues f_tens f_values = some o) :
    MI l yX11_hidden wsX11_hidden rmX11_hidden X [.ref a_this, .int x0, .int x1, .int x2] [(a_this, .inr (11, [.int i_length, .ref a_text, .ref a_roundMany, .ref a_blowMany, .ref a_blows, .ref a_forwards, .ref a_downs, .ref a_takens, .ref a_homes, .ref a_noises, .ref a_judgeMany, .ref a_judges, .ref a_delays, .ref a_tolds, .ref a_tens, .int i_keptMany, .int i_place, .ref a_told, .ref a_ways, .ref a_nextWays, .ref a_tallies, .ref a_presses, .ref a_values, .ref a_nextValues])), (a_nextValues, .inl (X.2.1 0, 51, .inl f_nextValues)), (a_tens, .inl (X.2.1 0, 12, .inl f_tens)), (a_values, .inl (X.2.1 0, 51, .inl f_values))]  [(a_this, .inr (11, [.int i_length, .ref a_text, .ref a_roundMany, .ref a_blowMany, .ref a_blows, .ref a_forwards, .ref a_downs, .ref a_takens, .ref a_homes, .ref a_noises, .ref a_judgeMany, .ref a_judges, .ref a_delays, .ref a_tolds, .ref a_tens, .int i_keptMany, .int i_place, .ref a_told, .ref a_ways, .ref a_nextWays, .ref a_tallies, .ref a_presses, .ref a_values, .ref a_nextValues])), (a_nextValues, .inl (X.2.1 0, 51, .inl o.2.2)), (a_tens, .inl (X.2.1 0, 12, .inl f_tens)), (a_values, .inl (X.2.1 0, 51, .inl o.2.1))] o.1 := by
  refine MI_ofH (cc := cX11_hidden) (maxL := 7) (rt := .int) (by decide) rfl (Nat.le_of_ble_eq_true rfl) ?_
  intro p e s m below meth c A Q H ls hx hb hml hts hown hA hD hG hP hS hl ret
  have hown : s.vm.findClass RX11 = some m.cls := hown
  have hD : aD A [a_this, a_nextValues, a_tens, a_values] := hD
  have hl : lv_has ls 7 [(0, .ref a_this), (1, .int x0), (2, .int x1), (3, .int x2)] := hl
  have w1 := hts (Cond.constantLong RX11 181 (2)) (List.mem_of_getElem? (i := 1) rfl)
  have hB66 : ∀ (l4 : Int32) (l5 : Int32) (s0 : Int32) (f_values : Nat → Int32) (f_nextValues : Nat → Int32)  (H : Heap) (locs : List Loc) (ls : Array Slot), va_P X.1 vwCl [(a_this, .inr (11, [.int i_length, .ref a_text, .ref a_roundMany, .ref a_blowMany, .ref a_blows, .ref a_forwards, .ref a_downs, .ref a_takens, .ref a_homes, .ref a_noises, .ref a_judgeMany, .ref a_judges, .ref a_delays, .ref a_tolds, .ref a_tens, .int i_keptMany, .int i_place, .ref a_told, .ref a_ways, .ref a_nextWays, .ref a_tallies, .ref a_presses, .ref a_values, .ref a_nextValues])), (a_nextValues, .inl (X.2.1 0, 51, .inl f_nextValues)), (a_tens, .inl (X.2.1 0, 12, .inl f_tens)), (a_values, .inl (X.2.1 0, 51, .inl f_values))] H → va_S A s.heap H locs → lv_has ls 7 [(0, .ref a_this), (1, .int x0), (2, .int x1), (3, .int x2), (4, .int l4), (5, .int l5)] → mX11_hidden_B66 x0 x1 x2 f_tens  l4 l5 s0 f_values f_nextValues = some o → W p l e rmX11_hidden s m ([.ref a_this, .int x0, .int x1, .int x2] : List Value).toArray below meth c H locs 0 0 Q (F0 m 66 ls [.int s0]) := by
    intro l4 l5 s0 f_values f_nextValues  H locs ls hP hS hl hf
    unfold mX11_hidden_B66 at hf
    refine lv_istore (lv' := [(6, .int s0), (0, .ref a_this), (1, .int x0), (2, .int x1), (3, .int x2), (4, .int l4), (5, .int l5)]) hx hb dX11_hidden_66 hl (by decide) rfl (fun ls hl => ?_)
    refine lv_iload_n hx hb dX11_hidden_68 rfl (lv_at hl 4 rfl) ?_
    refine lv_if_ne (tgt := 88) hx hb dX11_hidden_69 (by decide) (fun c16 => ?_) (fun c16 => ?_)
    · have hf := xf hf c16
      refine lv_iload_n hx hb dX11_hidden_88 rfl (lv_at hl 4 rfl) ?_
      refine lv_iconst (v := (1 : Int32)) hx hb dX11_hidden_89 (by decide) ?_
      refine lv_icmp_ne (tgt := 98) hx hb dX11_hidden_90 (by decide) (fun c17 => ?_) (fun c17 => ?_)
      · have hf := xf hf c17
        refine lv_aload_n hx hb dX11_hidden_98 rfl (lv_at hl 1 rfl) ?_
        refine lv_iload_n hx hb dX11_hidden_99 rfl (lv_at hl 2 rfl) ?_
        refine lv_iload_n hx hb dX11_hidden_100 rfl (lv_at hl 3 rfl) ?_
        refine lv_iload hx hb dX11_hidden_101 (lv_at hl 0 rfl) ?_
        obtain ⟨o18, ho18, hf⟩ := ob_s hf
        refine xV_i (As := [.int x0, .int x1, .int s0]) (b := a_this) (rest := []) (ws2 := [(a_this, .inr (11, [.int i_length, .ref a_text, .ref a_roundMany, .ref a_blowMany, .ref a_blows, .ref a_forwards, .ref a_downs, .ref a_takens, .ref a_homes, .ref a_noises, .ref a_judgeMany, .ref a_judges, .ref a_delays, .ref a_tolds, .ref a_tens, .int i_keptMany, .int i_place, .ref a_told, .ref a_ways, .ref a_nextWays, .ref a_tallies, .ref a_presses, .ref a_values, .ref a_nextValues])), (a_nextValues, .inl (X.2.1 0, 51, .inl o18.2.2)), (a_tens, .inl (X.2.1 0, 12, .inl f_tens)), (a_values, .inl (X.2.1 0, 51, .inl o18.2.1))]) hx hb hml hts hown hG hA hP hD rfl hS hl.1 (qX11_answerAlways l X a_this a_nextValues a_tens a_values a_text a_roundMany a_blowMany a_blows a_forwards a_downs a_takens a_homes a_noises a_judgeMany a_judges a_delays a_tolds a_told a_ways a_nextWays a_tallies a_presses i_length i_keptMany i_place f_nextValues f_tens f_values x0 x1 s0 o18 ho18) (cwV (y := yX11_answerAlways) 3 hts gX11_hidden_X11_answerAlways rfl rfl rfl hdvX11_answerAlways ⟨Nat.le_of_ble_eq_true rfl, Nat.le_of_ble_eq_true rfl⟩) [0, 1, 2, 3] [] [0, 1, 2, 3] rfl rfl rfl rfl rfl rfl rfl (ci := 11) rfl 0 rfl rfl rfl (Nat.le_of_ble_eq_true rfl) ⟨Nat.le_of_ble_eq_true rfl, Nat.le_of_ble_eq_true rfl⟩ dX11_hidden_103 (fun H locs hP _ hS => ?_)
        obtain rfl := Option.some.inj hf
        exact ret H _ ls _ rfl hP hD hS dX11_hidden_106
      · have hf := xt hf c17
        refine lv_iload hx hb dX11_hidden_93 (lv_at hl 0 rfl) ?_
        refine lv_goto (tgt := 106) hx hb dX11_hidden_95 (by decide) ?_
        obtain rfl := Option.some.inj hf
        exact ret H _ ls _ rfl hP hD hS dX11_hidden_106
    · have hf := xt hf c16
      refine lv_iload hx hb dX11_hidden_72 (lv_at hl 0 rfl) ?_
      refine lv_iconst (v := (1 : Int32)) hx hb dX11_hidden_74 (by decide) ?_
      refine lv_icmp_ne (tgt := 83) hx hb dX11_hidden_75 (by decide) (fun c20 => ?_) (fun c20 => ?_)
      · have hf := xf hf c20
        refine lv_iload hx hb dX11_hidden_83 (lv_at hl 5 rfl) ?_
        refine lv_goto (tgt := 106) hx hb dX11_hidden_85 (by decide) ?_
        obtain rfl := Option.some.inj hf
        exact ret H _ ls _ rfl hP hD hS dX11_hidden_106
      · have hf := xt hf c20
        refine lv_iload hx hb dX11_hidden_78 (lv_at hl 6 rfl) ?_
        refine lv_goto (tgt := 106) hx hb dX11_hidden_80 (by decide) ?_
        obtain rfl := Option.some.inj hf
        exact ret H _ ls _ rfl hP hD hS dX11_hidden_106
  unfold mX11_hidden at hf
  refine lv_iload_n hx hb dX11_hidden_0 rfl (lv_at hl 1 rfl) ?_
  refine lv_iload_n hx hb dX11_hidden_1 rfl (lv_at hl 2 rfl) ?_
  obtain ⟨o1, ho1, hf⟩ := ob_s hf
  refine xS_i (As := [.int x0, .int x1]) (rest := []) (ws2 := [(a_this, .inr (11, [.int i_length, .ref a_text, .ref a_roundMany, .ref a_blowMany, .ref a_blows, .ref a_forwards, .ref a_downs, .ref a_takens, .ref a_homes, .ref a_noises, .ref a_judgeMany, .ref a_judges, .ref a_delays, .ref a_tolds, .ref a_tens, .int i_keptMany, .int i_place, .ref a_told, .ref a_ways, .ref a_nextWays, .ref a_tallies, .ref a_presses, .ref a_values, .ref a_nextValues])), (a_nextValues, .inl (X.2.1 0, 51, .inl f_nextValues)), (a_tens, .inl (X.2.1 0, 12, .inl f_tens)), (a_values, .inl (X.2.1 0, 51, .inl f_values))]) hx hb hml hts hown hG hA hP hD rfl hS hl.1 (qX11_areLeft l X x0 x1 o1 ho1) (va_cwS (y := yX11_areLeft) 2 hts gX11_hidden_X11_areLeft rfl rfl rfl hdsX11_areLeft ⟨Nat.le_of_ble_eq_true rfl, Nat.le_of_ble_eq_true rfl⟩) [] [0, 1, 2, 3] [0, 1, 2, 3] rfl rfl rfl rfl rfl rfl rfl rfl rfl (Nat.le_of_ble_eq_true rfl) ⟨Nat.le_of_ble_eq_true rfl, Nat.le_of_ble_eq_true rfl⟩ dX11_hidden_2 (fun H locs hP _ hS => ?_)
  refine lv_if_eq (tgt := 20) hx hb dX11_hidden_5 (by decide) (fun c3 => ?_) (fun c3 => ?_)
  · have hf := xt hf c3
    refine lv_iconst (v := (-1 : Int32)) hx hb dX11_hidden_20 (by decide) ?_
    obtain rfl := Option.some.inj hf
    exact ret H _ ls _ rfl hP hD hS dX11_hidden_21
  · have hf := xf hf c3
    refine lv_iload_n hx hb dX11_hidden_8 rfl (lv_at hl 3 rfl) ?_
    refine lv_i2l hx hb dX11_hidden_9 rfl ?_
    refine lv_lconst (v := (0 : Int64)) hx hb dX11_hidden_10 rfl ?_
    refine lv_ldc2 (v := (2 : Int64)) hx hb hown w1 dX11_hidden_11 ?_
    obtain ⟨o4, ho4, hf⟩ := ob_s hf
    refine xS_i (As := [.long (Int32.toInt64 x2), .long (0 : Int64), .long (2 : Int64)]) (rest := []) (ws2 := [(a_this, .inr (11, [.int i_length, .ref a_text, .ref a_roundMany, .ref a_blowMany, .ref a_blows, .ref a_forwards, .ref a_downs, .ref a_takens, .ref a_homes, .ref a_noises, .ref a_judgeMany, .ref a_judges, .ref a_delays, .ref a_tolds, .ref a_tens, .int i_keptMany, .int i_place, .ref a_told, .ref a_ways, .ref a_nextWays, .ref a_tallies, .ref a_presses, .ref a_values, .ref a_nextValues])), (a_nextValues, .inl (X.2.1 0, 51, .inl f_nextValues)), (a_tens, .inl (X.2.1 0, 12, .inl f_tens)), (a_values, .inl (X.2.1 0, 51, .inl f_values))]) hx hb hml hts hown hG hA hP hD rfl hS hl.1 (qX11_in l X (Int32.toInt64 x2) (0 : Int64) (2 : Int64) o4 ho4) (va_cwS (y := yX11_in) 3 hts gX11_hidden_X11_in rfl rfl rfl hdsX11_in ⟨Nat.le_of_ble_eq_true rfl, Nat.le_of_ble_eq_true rfl⟩) [] [0, 1, 2, 3] [0, 1, 2, 3] rfl rfl rfl rfl rfl rfl rfl rfl rfl (Nat.le_of_ble_eq_true rfl) ⟨Nat.le_of_ble_eq_true rfl, Nat.le_of_ble_eq_true rfl⟩ dX11_hidden_14 (fun H locs hP _ hS => ?_)
    refine lv_if_ne (tgt := 22) hx hb dX11_hidden_17 (by decide) (fun c6 => ?_) (fun c6 => ?_)
    · have hf := xf hf c6
      refine lv_aload_n hx hb dX11_hidden_22 rfl (lv_at hl 0 rfl) ?_
      refine lv_iload_n hx hb dX11_hidden_23 rfl (lv_at hl 1 rfl) ?_
      refine lv_iload_n hx hb dX11_hidden_24 rfl (lv_at hl 2 rfl) ?_
      refine lv_iconst (v := (0 : Int32)) hx hb dX11_hidden_25 (by decide) ?_
      refine lv_aload_n hx hb dX11_hidden_26 rfl (lv_at hl 0 rfl) ?_
      refine lv_iload_n hx hb dX11_hidden_27 rfl (lv_at hl 1 rfl) ?_
      refine lv_iload_n hx hb dX11_hidden_28 rfl (lv_at hl 2 rfl) ?_
      refine lv_iconst (v := (0 : Int32)) hx hb dX11_hidden_29 (by decide) ?_
      obtain ⟨o7, ho7, hf⟩ := ob_s hf
      refine xV_i (As := [.int x0, .int x1, .int (0 : Int32)]) (b := a_this) (rest := [.int (0 : Int32), .int x1, .int x0, .ref a_this]) (ws2 := [(a_this, .inr (11, [.int i_length, .ref a_text, .ref a_roundMany, .ref a_blowMany, .ref a_blows, .ref a_forwards, .ref a_downs, .ref a_takens, .ref a_homes, .ref a_noises, .ref a_judgeMany, .ref a_judges, .ref a_delays, .ref a_tolds, .ref a_tens, .int i_keptMany, .int i_place, .ref a_told, .ref a_ways, .ref a_nextWays, .ref a_tallies, .ref a_presses, .ref a_values, .ref a_nextValues])), (a_nextValues, .inl (X.2.1 0, 51, .inl o7.2.2)), (a_tens, .inl (X.2.1 0, 12, .inl f_tens)), (a_values, .inl (X.2.1 0, 51, .inl o7.2.1))]) hx hb hml hts hown hG hA hP hD rfl hS hl.1 (qX11_answerAlways l X a_this a_nextValues a_tens a_values a_text a_roundMany a_blowMany a_blows a_forwards a_downs a_takens a_homes a_noises a_judgeMany a_judges a_delays a_tolds a_told a_ways a_nextWays a_tallies a_presses i_length i_keptMany i_place f_nextValues f_tens f_values x0 x1 (0 : Int32) o7 ho7) (cwV (y := yX11_answerAlways) 3 hts gX11_hidden_X11_answerAlways rfl rfl rfl hdvX11_answerAlways ⟨Nat.le_of_ble_eq_true rfl, Nat.le_of_ble_eq_true rfl⟩) [0, 1, 2, 3] [] [0, 1, 2, 3] rfl rfl rfl rfl rfl rfl rfl (ci := 11) rfl 0 rfl rfl rfl (Nat.le_of_ble_eq_true rfl) ⟨Nat.le_of_ble_eq_true rfl, Nat.le_of_ble_eq_true rfl⟩ dX11_hidden_30 (fun H locs hP _ hS => ?_)
      obtain ⟨o9, ho9, hf⟩ := ob_s hf
      refine xV_i (As := [.int x0, .int x1, .int (0 : Int32), .int o7.1]) (b := a_this) (rest := []) (ws2 := [(a_this, .inr (11, [.int i_length, .ref a_text, .ref a_roundMany, .ref a_blowMany, .ref a_blows, .ref a_forwards, .ref a_downs, .ref a_takens, .ref a_homes, .ref a_noises, .ref a_judgeMany, .ref a_judges, .ref a_delays, .ref a_tolds, .ref a_tens, .int i_keptMany, .int i_place, .ref a_told, .ref a_ways, .ref a_nextWays, .ref a_tallies, .ref a_presses, .ref a_values, .ref a_nextValues])), (a_nextValues, .inl (X.2.1 0, 51, .inl o9.2.2)), (a_tens, .inl (X.2.1 0, 12, .inl f_tens)), (a_values, .inl (X.2.1 0, 51, .inl o9.2.1))]) hx hb hml hts hown hG hA hP hD rfl hS hl.1 (qX11_always l X a_this a_nextValues a_tens a_values a_text a_roundMany a_blowMany a_blows a_forwards a_downs a_takens a_homes a_noises a_judgeMany a_judges a_delays a_tolds a_told a_ways a_nextWays a_tallies a_presses i_length i_keptMany i_place o7.2.2 f_tens o7.2.1 x0 x1 (0 : Int32) o7.1 o9 ho9) (cwV (y := yX11_always) 4 hts gX11_hidden_X11_always rfl rfl rfl hdvX11_always ⟨Nat.le_of_ble_eq_true rfl, Nat.le_of_ble_eq_true rfl⟩) [0, 1, 2, 3] [] [0, 1, 2, 3] rfl rfl rfl rfl rfl rfl rfl (ci := 11) rfl 0 rfl rfl rfl (Nat.le_of_ble_eq_true rfl) ⟨Nat.le_of_ble_eq_true rfl, Nat.le_of_ble_eq_true rfl⟩ dX11_hidden_33 (fun H locs hP _ hS => ?_)
      refine lv_istore (lv' := [(4, .int o9.1), (0, .ref a_this), (1, .int x0), (2, .int x1), (3, .int x2)]) hx hb dX11_hidden_36 hl (by decide) rfl (fun ls hl => ?_)
      refine lv_aload_n hx hb dX11_hidden_38 rfl (lv_at hl 1 rfl) ?_
      refine lv_iload_n hx hb dX11_hidden_39 rfl (lv_at hl 2 rfl) ?_
      refine lv_iload_n hx hb dX11_hidden_40 rfl (lv_at hl 3 rfl) ?_
      refine lv_iconst (v := (1 : Int32)) hx hb dX11_hidden_41 (by decide) ?_
      refine lv_aload_n hx hb dX11_hidden_42 rfl (lv_at hl 1 rfl) ?_
      refine lv_iload_n hx hb dX11_hidden_43 rfl (lv_at hl 2 rfl) ?_
      refine lv_iload_n hx hb dX11_hidden_44 rfl (lv_at hl 3 rfl) ?_
      refine lv_iconst (v := (1 : Int32)) hx hb dX11_hidden_45 (by decide) ?_
      obtain ⟨o11, ho11, hf⟩ := ob_s hf
      refine xV_i (As := [.int x0, .int x1, .int (1 : Int32)]) (b := a_this) (rest := [.int (1 : Int32), .int x1, .int x0, .ref a_this]) (ws2 := [(a_this, .inr (11, [.int i_length, .ref a_text, .ref a_roundMany, .ref a_blowMany, .ref a_blows, .ref a_forwards, .ref a_downs, .ref a_takens, .ref a_homes, .ref a_noises, .ref a_judgeMany, .ref a_judges, .ref a_delays, .ref a_tolds, .ref a_tens, .int i_keptMany, .int i_place, .ref a_told, .ref a_ways, .ref a_nextWays, .ref a_tallies, .ref a_presses, .ref a_values, .ref a_nextValues])), (a_nextValues, .inl (X.2.1 0, 51, .inl o11.2.2)), (a_tens, .inl (X.2.1 0, 12, .inl f_tens)), (a_values, .inl (X.2.1 0, 51, .inl o11.2.1))]) hx hb hml hts hown hG hA hP hD rfl hS hl.1 (qX11_answerAlways l X a_this a_nextValues a_tens a_values a_text a_roundMany a_blowMany a_blows a_forwards a_downs a_takens a_homes a_noises a_judgeMany a_judges a_delays a_tolds a_told a_ways a_nextWays a_tallies a_presses i_length i_keptMany i_place o9.2.2 f_tens o9.2.1 x0 x1 (1 : Int32) o11 ho11) (cwV (y := yX11_answerAlways) 3 hts gX11_hidden_X11_answerAlways rfl rfl rfl hdvX11_answerAlways ⟨Nat.le_of_ble_eq_true rfl, Nat.le_of_ble_eq_true rfl⟩) [0, 1, 2, 3] [] [0, 1, 2, 3] rfl rfl rfl rfl rfl rfl rfl (ci := 11) rfl 0 rfl rfl rfl (Nat.le_of_ble_eq_true rfl) ⟨Nat.le_of_ble_eq_true rfl, Nat.le_of_ble_eq_true rfl⟩ dX11_hidden_46 (fun H locs hP _ hS => ?_)
      obtain ⟨o13, ho13, hf⟩ := ob_s hf
      refine xV_i (As := [.int x0, .int x1, .int (1 : Int32), .int o11.1]) (b := a_this) (rest := []) (ws2 := [(a_this, .inr (11, [.int i_length, .ref a_text, .ref a_roundMany, .ref a_blowMany, .ref a_blows, .ref a_forwards, .ref a_downs, .ref a_takens, .ref a_homes, .ref a_noises, .ref a_judgeMany, .ref a_judges, .ref a_delays, .ref a_tolds, .ref a_tens, .int i_keptMany, .int i_place, .ref a_told, .ref a_ways, .ref a_nextWays, .ref a_tallies, .ref a_presses, .ref a_values, .ref a_nextValues])), (a_nextValues, .inl (X.2.1 0, 51, .inl o13.2.2)), (a_tens, .inl (X.2.1 0, 12, .inl f_tens)), (a_values, .inl (X.2.1 0, 51, .inl o13.2.1))]) hx hb hml hts hown hG hA hP hD rfl hS hl.1 (qX11_always l X a_this a_nextValues a_tens a_values a_text a_roundMany a_blowMany a_blows a_forwards a_downs a_takens a_homes a_noises a_judgeMany a_judges a_delays a_tolds a_told a_ways a_nextWays a_tallies a_presses i_length i_keptMany i_place o11.2.2 f_tens o11.2.1 x0 x1 (1 : Int32) o11.1 o13 ho13) (cwV (y := yX11_always) 4 hts gX11_hidden_X11_always rfl rfl rfl hdvX11_always ⟨Nat.le_of_ble_eq_true rfl, Nat.le_of_ble_eq_true rfl⟩) [0, 1, 2, 3] [] [0, 1, 2, 3] rfl rfl rfl rfl rfl rfl rfl (ci := 11) rfl 0 rfl rfl rfl (Nat.le_of_ble_eq_true rfl) ⟨Nat.le_of_ble_eq_true rfl, Nat.le_of_ble_eq_true rfl⟩ dX11_hidden_49 (fun H locs hP _ hS => ?_)
      refine lv_istore (lv' := [(5, .int o13.1), (4, .int o9.1), (0, .ref a_this), (1, .int x0), (2, .int x1), (3, .int x2)]) hx hb dX11_hidden_52 hl (by decide) rfl (fun ls hl => ?_)
      refine lv_iload hx hb dX11_hidden_54 (lv_at hl 0 rfl) ?_
      refine lv_iload hx hb dX11_hidden_56 (lv_at hl 1 rfl) ?_
      refine lv_icmp_le (tgt := 65) hx hb dX11_hidden_58 (by decide) (fun c15 => ?_) (fun c15 => ?_)
      · have hf := xt hf c15
        refine lv_iconst (v := (0 : Int32)) hx hb dX11_hidden_65 (by decide) ?_
        exact hB66  o9.1 o13.1 (0 : Int32) o13.2.1 o13.2.2  H _ ls hP  hS (lv_sub hl [2, 3, 4, 5, 1, 0] rfl) hf
      · have hf := xf hf c15
        refine lv_iconst (v := (1 : Int32)) hx hb dX11_hidden_61 (by decide) ?_
        refine lv_goto (tgt := 66) hx hb dX11_hidden_62 (by decide) ?_
        exact hB66  o9.1 o13.1 (1 : Int32) o13.2.1 o13.2.2  H _ ls hP  hS (lv_sub hl [2, 3, 4, 5, 1, 0] rfl) hf
    · have hf := xt hf c6
      refine lv_iconst (v := (-1 : Int32)) hx hb dX11_hidden_20 (by decide) ?_
      obtain rfl := Option.some.inj hf
      exact ret H _ ls _ rfl hP hD hS dX11_hidden_21
def mX11_copy_B77 (x0 : Int32) (x1 : Int32) (k77 : Int32 → (Nat → Int32) → (Nat → Int32) → (Nat → Int32) → Option ((Nat → Int32) × (Nat → Int32) × (Nat → Int32))) (l3 : Int32) (f_delays : Nat → Int32) (f_tolds : Nat → Int32) (f_tens : Nat → Int32) :
  Option ((Nat → Int32) × (Nat → Int32) × (Nat → Int32)) :=
  if (4 : Int32) ≤ l3 then (some (f_delays, f_tolds, f_tens)) else (gi (((4 : Int32) * x0) + l3) 12 <|
  gi (((4 : Int32) * x1) + l3) 12 <|
  lb (upd f_tens (((4 : Int32) * x1) + l3).toNatClampNeg (f_tens (((4 : Int32) * x0) + l3).toNatClampNeg)) fun g14 =>
  lb (l3 + (1 : Int32)) fun v15 =>
  k77 v15 f_delays f_tolds g14)
def mX11_copy_L77 (x0 : Int32) (x1 : Int32) (n : Nat) (l3 : Int32) (f_delays : Nat → Int32) (f_tolds : Nat → Int32) (f_tens : Nat → Int32) :
  Option ((Nat → Int32) × (Nat → Int32) × (Nat → Int32)) :=
  loopN (fun k (s : Int32 × (Nat → Int32) × (Nat → Int32) × (Nat → Int32)) => mX11_copy_B77 x0 x1  (fun l3 f_delays f_tolds f_tens => k (l3, f_delays, f_tolds, f_tens)) s.1 s.2.1 s.2.2.1 s.2.2.2) n (l3, f_delays, f_tolds, f_tens)
def mX11_copy_B38 (x0 : Int32) (x1 : Int32) (k38 : Int32 → (Nat → Int32) → (Nat → Int32) → (Nat → Int32) → Option ((Nat → Int32) × (Nat → Int32) × (Nat → Int32))) (l3 : Int32) (f_delays : Nat → Int32) (f_tolds : Nat → Int32) (f_tens : Nat → Int32) :
  Option ((Nat → Int32) × (Nat → Int32) × (Nat → Int32)) :=
  if (144 : Int32) ≤ l3 then (mX11_copy_L77 x0 x1  FUEL (0 : Int32) f_delays f_tolds f_tens) else (gi (((144 : Int32) * x0) + l3) 432 <|
  gi (((144 : Int32) * x1) + l3) 432 <|
  lb (upd f_tolds (((144 : Int32) * x1) + l3).toNatClampNeg (f_tolds (((144 : Int32) * x0) + l3).toNatClampNeg)) fun g9 =>
  lb (l3 + (1 : Int32)) fun v10 =>
  k38 v10 f_delays g9 f_tens)
def mX11_copy_L38 (x0 : Int32) (x1 : Int32) (n : Nat) (l3 : Int32) (f_delays : Nat → Int32) (f_tolds : Nat → Int32) (f_tens : Nat → Int32) :
  Option ((Nat → Int32) × (Nat → Int32) × (Nat → Int32)) :=
  loopN (fun k (s : Int32 × (Nat → Int32) × (Nat → Int32) × (Nat → Int32)) => mX11_copy_B38 x0 x1  (fun l3 f_delays f_tolds f_tens => k (l3, f_delays, f_tolds, f_tens)) s.1 s.2.1 s.2.2.1 s.2.2.2) n (l3, f_delays, f_tolds, f_tens)
def mX11_copy_B2 (x0 : Int32) (x1 : Int32) (k2 : Int32 → (Nat → Int32) → (Nat → Int32) → (Nat → Int32) → Option ((Nat → Int32) × (Nat → Int32) × (Nat → Int32))) (l3 : Int32) (f_delays : Nat → Int32) (f_tolds : Nat → Int32) (f_tens : Nat → Int32) :
  Option ((Nat → Int32) × (Nat → Int32) × (Nat → Int32)) :=
  if (8 : Int32) ≤ l3 then (mX11_copy_L38 x0 x1  FUEL (0 : Int32) f_delays f_tolds f_tens) else (gi (((8 : Int32) * x0) + l3) 24 <|
  gi (((8 : Int32) * x1) + l3) 24 <|
  lb (upd f_delays (((8 : Int32) * x1) + l3).toNatClampNeg (f_delays (((8 : Int32) * x0) + l3).toNatClampNeg)) fun g4 =>
  lb (l3 + (1 : Int32)) fun v5 =>
  k2 v5 g4 f_tolds f_tens)
def mX11_copy_L2 (x0 : Int32) (x1 : Int32) (n : Nat) (l3 : Int32) (f_delays : Nat → Int32) (f_tolds : Nat → Int32) (f_tens : Nat → Int32) :
  Option ((Nat → Int32) × (Nat → Int32) × (Nat → Int32)) :=
  loopN (fun k (s : Int32 × (Nat → Int32) × (Nat → Int32) × (Nat → Int32)) => mX11_copy_B2 x0 x1  (fun l3 f_delays f_tolds f_tens => k (l3, f_delays, f_tolds, f_tens)) s.1 s.2.1 s.2.2.1 s.2.2.2) n (l3, f_delays, f_tolds, f_tens)
def mX11_copy (x0 : Int32) (x1 : Int32) (f_delays : Nat → Int32) (f_tens : Nat → Int32) (f_tolds : Nat → Int32) :
  Option ((Nat → Int32) × (Nat → Int32) × (Nat → Int32)) :=
  mX11_copy_L2 x0 x1  FUEL (0 : Int32) f_delays f_tolds f_tens
theorem hdsX11_copy : yX11_copy.cls ≠ "java/lang/invoke/MethodHandle" ∧ yX11_copy.cls ≠ "java/lang/invoke/VarHandle" ∧ (parseMethodDescriptor yX11_copy.desc).map (fun d => d.parameters.length) = some 2 := by decide +kernel
theorem hdvX11_copy : yX11_copy.cls = RX11 ∧ yX11_copy.cls ≠ "java/lang/invoke/MethodHandle" ∧ yX11_copy.cls ≠ "java/lang/invoke/VarHandle" ∧ (parseMethodDescriptor yX11_copy.desc).map (fun d => d.parameters.length) = some 2 := by decide +kernel
abbrev rmX11_copy : Room := { frames := 0, cells := 0, slots := 0, locals := 0 }
set_option maxHeartbeats 4000000 in
set_option maxRecDepth 100000 in
theorem qX11_copy (l : Launch) (X : XT) (a_this : Nat) (a_delays : Nat) (a_tens : Nat) (a_tolds : Nat) (a_text : Nat) (a_roundMany : Nat) (a_blowMany : Nat) (a_blows : Nat) (a_forwards : Nat) (a_downs : Nat) (a_takens : Nat) (a_homes : Nat) (a_noises : Nat) (a_judgeMany : Nat) (a_judges : Nat) (a_told : Nat) (a_ways : Nat) (a_nextWays : Nat) (a_tallies : Nat) (a_presses : Nat) (a_values : Nat) (a_nextValues : Nat)  (i_length : Int32) (i_keptMany : Int32) (i_place : Int32) (f_delays : Nat → Int32) (f_tens : Nat → Int32) (f_tolds : Nat → Int32) (x0 : Int32) (x1 : Int32) (o : (Nat → Int32) × (Nat → Int32) × (Nat → Int32)) (hf : mX11_copy x0 x1 f_delays f_tens f_tolds = some o) :
    MC l yX11_copy wsX11_copy rmX11_copy X [.ref a_this, .int x0, .int x1] [(a_this, .inr (11, [.int i_length, .ref a_text, .ref a_roundMany, .ref a_blowMany, .ref a_blows, .ref a_forwards, .ref a_downs, .ref a_takens, .ref a_homes, .ref a_noises, .ref a_judgeMany, .ref a_judges, .ref a_delays, .ref a_tolds, .ref a_tens, .int i_keptMany, .int i_place, .ref a_told, .ref a_ways, .ref a_nextWays, .ref a_tallies, .ref a_presses, .ref a_values, .ref a_nextValues])), (a_delays, .inl (X.2.1 0, 24, .inl f_delays)), (a_tens, .inl (X.2.1 0, 12, .inl f_tens)), (a_tolds, .inl (X.2.1 0, 432, .inl f_tolds))]  (fun _ => [(a_this, .inr (11, [.int i_length, .ref a_text, .ref a_roundMany, .ref a_blowMany, .ref a_blows, .ref a_forwards, .ref a_downs, .ref a_takens, .ref a_homes, .ref a_noises, .ref a_judgeMany, .ref a_judges, .ref a_delays, .ref a_tolds, .ref a_tens, .int i_keptMany, .int i_place, .ref a_told, .ref a_ways, .ref a_nextWays, .ref a_tallies, .ref a_presses, .ref a_values, .ref a_nextValues])), (a_delays, .inl (X.2.1 0, 24, .inl o.1)), (a_tens, .inl (X.2.1 0, 12, .inl o.2.2)), (a_tolds, .inl (X.2.1 0, 432, .inl o.2.1))]) 0 0 := by
  refine MC_ofH (cc := cX11_copy) (maxL := 4) (by decide) rfl (Nat.le_of_ble_eq_true rfl) ?_
  intro p e s m below meth c A Q H ls hx hb hml hts hown hin hA hD hG hP hS hl ret
  have hown : s.vm.findClass RX11 = some m.cls := hown
  have hD : aD A [a_this, a_delays, a_tens, a_tolds] := hD
  have hl : lv_has ls 4 [(0, .ref a_this), (1, .int x0), (2, .int x1)] := hl
  have w1 := hts (.fieldLink RX11 43 "ThreeCardsModel" "delays" "[I") (List.mem_of_getElem? (i := 1) rfl)
  have w2 := hts (.fieldLink RX11 46 "ThreeCardsModel" "tolds" "[I") (List.mem_of_getElem? (i := 2) rfl)
  have w3 := hts (.fieldLink RX11 49 "ThreeCardsModel" "tens" "[I") (List.mem_of_getElem? (i := 3) rfl)
  have in11 : ∀ w ∈ u_ws RX11 TX11 24, w ∈ wsX11_copy := by decide +kernel
  have hL77 : ∀ (n : Nat) (l3 : Int32) (f_delays : Nat → Int32) (f_tolds : Nat → Int32) (f_tens : Nat → Int32)  (H : Heap) (locs : List Loc) (ls : Array Slot), va_P X.1 vwCl [(a_this, .inr (11, [.int i_length, .ref a_text, .ref a_roundMany, .ref a_blowMany, .ref a_blows, .ref a_forwards, .ref a_downs, .ref a_takens, .ref a_homes, .ref a_noises, .ref a_judgeMany, .ref a_judges, .ref a_delays, .ref a_tolds, .ref a_tens, .int i_keptMany, .int i_place, .ref a_told, .ref a_ways, .ref a_nextWays, .ref a_tallies, .ref a_presses, .ref a_values, .ref a_nextValues])), (a_delays, .inl (X.2.1 0, 24, .inl f_delays)), (a_tens, .inl (X.2.1 0, 12, .inl f_tens)), (a_tolds, .inl (X.2.1 0, 432, .inl f_tolds))] H → va_S A s.heap H locs → lv_has ls 4 [(0, .ref a_this), (1, .int x0), (2, .int x1), (3, .int l3)] → mX11_copy_L77 x0 x1  n l3 f_delays f_tolds f_tens = some o → W p l e rmX11_copy s m ([.ref a_this, .int x0, .int x1] : List Value).toArray below meth c H locs 0 0 Q (F0 m 77 ls []) := by
    intro n
    induction n with
    | zero => intro l3 f_delays f_tolds f_tens  H locs ls hP hS hl hf; exact xn hf
    | succ n ih =>
      intro l3 f_delays f_tolds f_tens  H locs ls hP hS hl hf
      have hf : mX11_copy_B77 x0 x1  (mX11_copy_L77 x0 x1  n) l3 f_delays f_tolds f_tens = some o := hf
      generalize mX11_copy_L77 x0 x1  n = k77 at ih hf
      unfold mX11_copy_B77 at hf
      refine lv_iload_n hx hb dX11_copy_77 rfl (lv_at hl 3 rfl) ?_
      refine lv_iconst (v := (4 : Int32)) hx hb dX11_copy_78 (by decide) ?_
      refine lv_icmp_ge (tgt := 108) hx hb dX11_copy_79 (by decide) (fun c11 => ?_) (fun c11 => ?_)
      · have hf := xt hf c11
        obtain rfl := Option.some.inj hf
        exact ret (fun _ => 0) H _ ls _ hP hD hS dX11_copy_108
      · have hf := xf hf c11
        refine lv_aload_n hx hb dX11_copy_82 rfl (lv_at hl 0 rfl) ?_
        refine va_get (D := X.1) (ci := 11) (v := .ref a_tens) (C := RX11) (T := TX11) (N := 24) hx hb hts in11 hown hG.1 hP 0 rfl rfl 14 (by decide) w3 (fun _ h9 => h9) rfl dX11_copy_83 ?_
        refine lv_iconst (v := (4 : Int32)) hx hb dX11_copy_86 (by decide) ?_
        refine lv_iload_n hx hb dX11_copy_87 rfl (lv_at hl 2 rfl) ?_
        refine lv_imul hx hb dX11_copy_88 ?_
        refine lv_iload_n hx hb dX11_copy_89 rfl (lv_at hl 3 rfl) ?_
        refine lv_iadd hx hb dX11_copy_90 ?_
        refine lv_aload_n hx hb dX11_copy_91 rfl (lv_at hl 0 rfl) ?_
        refine va_get (D := X.1) (ci := 11) (v := .ref a_tens) (C := RX11) (T := TX11) (N := 24) hx hb hts in11 hown hG.1 hP 0 rfl rfl 14 (by decide) w3 (fun _ h9 => h9) rfl dX11_copy_92 ?_
        refine lv_iconst (v := (4 : Int32)) hx hb dX11_copy_95 (by decide) ?_
        refine lv_iload_n hx hb dX11_copy_96 rfl (lv_at hl 1 rfl) ?_
        refine lv_imul hx hb dX11_copy_97 ?_
        refine lv_iload_n hx hb dX11_copy_98 rfl (lv_at hl 3 rfl) ?_
        refine lv_iadd hx hb dX11_copy_99 ?_
        obtain ⟨h12, hf⟩ := gi_s hf
        refine va_iald (D := X.1) hx hb hG.1 hP 2 0 rfl rfl h12 dX11_copy_100 ?_
        obtain ⟨h13, hf⟩ := gi_s hf
        obtain ⟨g14, eg14, hf⟩ := lb_g hf
        refine x_iast (ws' := [(a_this, .inr (11, [.int i_length, .ref a_text, .ref a_roundMany, .ref a_blowMany, .ref a_blows, .ref a_forwards, .ref a_downs, .ref a_takens, .ref a_homes, .ref a_noises, .ref a_judgeMany, .ref a_judges, .ref a_delays, .ref a_tolds, .ref a_tens, .int i_keptMany, .int i_place, .ref a_told, .ref a_ways, .ref a_nextWays, .ref a_tallies, .ref a_presses, .ref a_values, .ref a_nextValues])), (a_delays, .inl (X.2.1 0, 24, .inl f_delays)), (a_tens, .inl (X.2.1 0, 12, .inl g14)), (a_tolds, .inl (X.2.1 0, 432, .inl f_tolds))]) hx hb hG hP hD rfl hS 2 rfl h13 dX11_copy_101 eg14 rfl (fun H locs hP hS => ?_)
        obtain ⟨v15, ev15, hf⟩ := lb_g hf
        refine lv_iinc (v := v15) (lv' := [(3, .int v15), (0, .ref a_this), (1, .int x0), (2, .int x1)]) hx hb dX11_copy_102 hl (k := 3) rfl ev15.symm (by decide) rfl (fun ls hl => ?_)
        refine lv_goto (tgt := 77) hx hb dX11_copy_105 (by decide) ?_
        exact ih v15 f_delays f_tolds g14  H _ ls hP  hS (lv_sub hl [1, 2, 3, 0] rfl) hf
  have hL38 : ∀ (n : Nat) (l3 : Int32) (f_delays : Nat → Int32) (f_tolds : Nat → Int32) (f_tens : Nat → Int32)  (H : Heap) (locs : List Loc) (ls : Array Slot), va_P X.1 vwCl [(a_this, .inr (11, [.int i_length, .ref a_text, .ref a_roundMany, .ref a_blowMany, .ref a_blows, .ref a_forwards, .ref a_downs, .ref a_takens, .ref a_homes, .ref a_noises, .ref a_judgeMany, .ref a_judges, .ref a_delays, .ref a_tolds, .ref a_tens, .int i_keptMany, .int i_place, .ref a_told, .ref a_ways, .ref a_nextWays, .ref a_tallies, .ref a_presses, .ref a_values, .ref a_nextValues])), (a_delays, .inl (X.2.1 0, 24, .inl f_delays)), (a_tens, .inl (X.2.1 0, 12, .inl f_tens)), (a_tolds, .inl (X.2.1 0, 432, .inl f_tolds))] H → va_S A s.heap H locs → lv_has ls 4 [(0, .ref a_this), (1, .int x0), (2, .int x1), (3, .int l3)] → mX11_copy_L38 x0 x1  n l3 f_delays f_tolds f_tens = some o → W p l e rmX11_copy s m ([.ref a_this, .int x0, .int x1] : List Value).toArray below meth c H locs 0 0 Q (F0 m 38 ls []) := by
    intro n
    induction n with
    | zero => intro l3 f_delays f_tolds f_tens  H locs ls hP hS hl hf; exact xn hf
    | succ n ih =>
      intro l3 f_delays f_tolds f_tens  H locs ls hP hS hl hf
      have hf : mX11_copy_B38 x0 x1  (mX11_copy_L38 x0 x1  n) l3 f_delays f_tolds f_tens = some o := hf
      generalize mX11_copy_L38 x0 x1  n = k38 at ih hf
      unfold mX11_copy_B38 at hf
      refine lv_iload_n hx hb dX11_copy_38 rfl (lv_at hl 3 rfl) ?_
      refine lv_sipush (v := (144 : Int32)) hx hb dX11_copy_39 (by decide) ?_
      refine lv_icmp_ge (tgt := 75) hx hb dX11_copy_42 (by decide) (fun c6 => ?_) (fun c6 => ?_)
      · have hf := xt hf c6
        refine lv_iconst (v := (0 : Int32)) hx hb dX11_copy_75 (by decide) ?_
        refine lv_istore_n (lv' := [(3, .int (0 : Int32)), (0, .ref a_this), (1, .int x0), (2, .int x1)]) hx hb dX11_copy_76 rfl hl (by decide) rfl (fun ls hl => ?_)
        exact hL77  FUEL (0 : Int32) f_delays f_tolds f_tens  H _ ls hP  hS (lv_sub hl [1, 2, 3, 0] rfl) hf
      · have hf := xf hf c6
        refine lv_aload_n hx hb dX11_copy_45 rfl (lv_at hl 0 rfl) ?_
        refine va_get (D := X.1) (ci := 11) (v := .ref a_tolds) (C := RX11) (T := TX11) (N := 24) hx hb hts in11 hown hG.1 hP 0 rfl rfl 13 (by decide) w2 (fun _ h9 => h9) rfl dX11_copy_46 ?_
        refine lv_sipush (v := (144 : Int32)) hx hb dX11_copy_49 (by decide) ?_
        refine lv_iload_n hx hb dX11_copy_52 rfl (lv_at hl 2 rfl) ?_
        refine lv_imul hx hb dX11_copy_53 ?_
        refine lv_iload_n hx hb dX11_copy_54 rfl (lv_at hl 3 rfl) ?_
        refine lv_iadd hx hb dX11_copy_55 ?_
        refine lv_aload_n hx hb dX11_copy_56 rfl (lv_at hl 0 rfl) ?_
        refine va_get (D := X.1) (ci := 11) (v := .ref a_tolds) (C := RX11) (T := TX11) (N := 24) hx hb hts in11 hown hG.1 hP 0 rfl rfl 13 (by decide) w2 (fun _ h9 => h9) rfl dX11_copy_57 ?_
        refine lv_sipush (v := (144 : Int32)) hx hb dX11_copy_60 (by decide) ?_
        refine lv_iload_n hx hb dX11_copy_63 rfl (lv_at hl 1 rfl) ?_
        refine lv_imul hx hb dX11_copy_64 ?_
        refine lv_iload_n hx hb dX11_copy_65 rfl (lv_at hl 3 rfl) ?_
        refine lv_iadd hx hb dX11_copy_66 ?_
        obtain ⟨h7, hf⟩ := gi_s hf
        refine va_iald (D := X.1) hx hb hG.1 hP 3 0 rfl rfl h7 dX11_copy_67 ?_
        obtain ⟨h8, hf⟩ := gi_s hf
        obtain ⟨g9, eg9, hf⟩ := lb_g hf
        refine x_iast (ws' := [(a_this, .inr (11, [.int i_length, .ref a_text, .ref a_roundMany, .ref a_blowMany, .ref a_blows, .ref a_forwards, .ref a_downs, .ref a_takens, .ref a_homes, .ref a_noises, .ref a_judgeMany, .ref a_judges, .ref a_delays, .ref a_tolds, .ref a_tens, .int i_keptMany, .int i_place, .ref a_told, .ref a_ways, .ref a_nextWays, .ref a_tallies, .ref a_presses, .ref a_values, .ref a_nextValues])), (a_delays, .inl (X.2.1 0, 24, .inl f_delays)), (a_tens, .inl (X.2.1 0, 12, .inl f_tens)), (a_tolds, .inl (X.2.1 0, 432, .inl g9))]) hx hb hG hP hD rfl hS 3 rfl h8 dX11_copy_68 eg9 rfl (fun H locs hP hS => ?_)
        obtain ⟨v10, ev10, hf⟩ := lb_g hf
        refine lv_iinc (v := v10) (lv' := [(3, .int v10), (0, .ref a_this), (1, .int x0), (2, .int x1)]) hx hb dX11_copy_69 hl (k := 3) rfl ev10.symm (by decide) rfl (fun ls hl => ?_)
        refine lv_goto (tgt := 38) hx hb dX11_copy_72 (by decide) ?_
        exact ih v10 f_delays g9 f_tens  H _ ls hP  hS (lv_sub hl [1, 2, 3, 0] rfl) hf
  have hL2 : ∀ (n : Nat) (l3 : Int32) (f_delays : Nat → Int32) (f_tolds : Nat → Int32) (f_tens : Nat → Int32)  (H : Heap) (locs : List Loc) (ls : Array Slot), va_P X.1 vwCl [(a_this, .inr (11, [.int i_length, .ref a_text, .ref a_roundMany, .ref a_blowMany, .ref a_blows, .ref a_forwards, .ref a_downs, .ref a_takens, .ref a_homes, .ref a_noises, .ref a_judgeMany, .ref a_judges, .ref a_delays, .ref a_tolds, .ref a_tens, .int i_keptMany, .int i_place, .ref a_told, .ref a_ways, .ref a_nextWays, .ref a_tallies, .ref a_presses, .ref a_values, .ref a_nextValues])), (a_delays, .inl (X.2.1 0, 24, .inl f_delays)), (a_tens, .inl (X.2.1 0, 12, .inl f_tens)), (a_tolds, .inl (X.2.1 0, 432, .inl f_tolds))] H → va_S A s.heap H locs → lv_has ls 4 [(0, .ref a_this), (1, .int x0), (2, .int x1), (3, .int l3)] → mX11_copy_L2 x0 x1  n l3 f_delays f_tolds f_tens = some o → W p l e rmX11_copy s m ([.ref a_this, .int x0, .int x1] : List Value).toArray below meth c H locs 0 0 Q (F0 m 2 ls []) := by
    intro n
    induction n with
    | zero => intro l3 f_delays f_tolds f_tens  H locs ls hP hS hl hf; exact xn hf
    | succ n ih =>
      intro l3 f_delays f_tolds f_tens  H locs ls hP hS hl hf
      have hf : mX11_copy_B2 x0 x1  (mX11_copy_L2 x0 x1  n) l3 f_delays f_tolds f_tens = some o := hf
      generalize mX11_copy_L2 x0 x1  n = k2 at ih hf
      unfold mX11_copy_B2 at hf
      refine lv_iload_n hx hb dX11_copy_2 rfl (lv_at hl 3 rfl) ?_
      refine lv_bipush (v := (8 : Int32)) hx hb dX11_copy_3 (by decide) ?_
      refine lv_icmp_ge (tgt := 36) hx hb dX11_copy_5 (by decide) (fun c1 => ?_) (fun c1 => ?_)
      · have hf := xt hf c1
        refine lv_iconst (v := (0 : Int32)) hx hb dX11_copy_36 (by decide) ?_
        refine lv_istore_n (lv' := [(3, .int (0 : Int32)), (0, .ref a_this), (1, .int x0), (2, .int x1)]) hx hb dX11_copy_37 rfl hl (by decide) rfl (fun ls hl => ?_)
        exact hL38  FUEL (0 : Int32) f_delays f_tolds f_tens  H _ ls hP  hS (lv_sub hl [1, 2, 3, 0] rfl) hf
      · have hf := xf hf c1
        refine lv_aload_n hx hb dX11_copy_8 rfl (lv_at hl 0 rfl) ?_
        refine va_get (D := X.1) (ci := 11) (v := .ref a_delays) (C := RX11) (T := TX11) (N := 24) hx hb hts in11 hown hG.1 hP 0 rfl rfl 12 (by decide) w1 (fun _ h9 => h9) rfl dX11_copy_9 ?_
        refine lv_bipush (v := (8 : Int32)) hx hb dX11_copy_12 (by decide) ?_
        refine lv_iload_n hx hb dX11_copy_14 rfl (lv_at hl 2 rfl) ?_
        refine lv_imul hx hb dX11_copy_15 ?_
        refine lv_iload_n hx hb dX11_copy_16 rfl (lv_at hl 3 rfl) ?_
        refine lv_iadd hx hb dX11_copy_17 ?_
        refine lv_aload_n hx hb dX11_copy_18 rfl (lv_at hl 0 rfl) ?_
        refine va_get (D := X.1) (ci := 11) (v := .ref a_delays) (C := RX11) (T := TX11) (N := 24) hx hb hts in11 hown hG.1 hP 0 rfl rfl 12 (by decide) w1 (fun _ h9 => h9) rfl dX11_copy_19 ?_
        refine lv_bipush (v := (8 : Int32)) hx hb dX11_copy_22 (by decide) ?_
        refine lv_iload_n hx hb dX11_copy_24 rfl (lv_at hl 1 rfl) ?_
        refine lv_imul hx hb dX11_copy_25 ?_
        refine lv_iload_n hx hb dX11_copy_26 rfl (lv_at hl 3 rfl) ?_
        refine lv_iadd hx hb dX11_copy_27 ?_
        obtain ⟨h2, hf⟩ := gi_s hf
        refine va_iald (D := X.1) hx hb hG.1 hP 1 0 rfl rfl h2 dX11_copy_28 ?_
        obtain ⟨h3, hf⟩ := gi_s hf
        obtain ⟨g4, eg4, hf⟩ := lb_g hf
        refine x_iast (ws' := [(a_this, .inr (11, [.int i_length, .ref a_text, .ref a_roundMany, .ref a_blowMany, .ref a_blows, .ref a_forwards, .ref a_downs, .ref a_takens, .ref a_homes, .ref a_noises, .ref a_judgeMany, .ref a_judges, .ref a_delays, .ref a_tolds, .ref a_tens, .int i_keptMany, .int i_place, .ref a_told, .ref a_ways, .ref a_nextWays, .ref a_tallies, .ref a_presses, .ref a_values, .ref a_nextValues])), (a_delays, .inl (X.2.1 0, 24, .inl g4)), (a_tens, .inl (X.2.1 0, 12, .inl f_tens)), (a_tolds, .inl (X.2.1 0, 432, .inl f_tolds))]) hx hb hG hP hD rfl hS 1 rfl h3 dX11_copy_29 eg4 rfl (fun H locs hP hS => ?_)
        obtain ⟨v5, ev5, hf⟩ := lb_g hf
        refine lv_iinc (v := v5) (lv' := [(3, .int v5), (0, .ref a_this), (1, .int x0), (2, .int x1)]) hx hb dX11_copy_30 hl (k := 3) rfl ev5.symm (by decide) rfl (fun ls hl => ?_)
        refine lv_goto (tgt := 2) hx hb dX11_copy_33 (by decide) ?_
        exact ih v5 g4 f_tolds f_tens  H _ ls hP  hS (lv_sub hl [1, 2, 3, 0] rfl) hf
  unfold mX11_copy at hf
  refine lv_iconst (v := (0 : Int32)) hx hb dX11_copy_0 (by decide) ?_
  refine lv_istore_n (lv' := [(3, .int (0 : Int32)), (0, .ref a_this), (1, .int x0), (2, .int x1)]) hx hb dX11_copy_1 rfl hl (by decide) rfl (fun ls hl => ?_)
  exact hL2  FUEL (0 : Int32) f_delays f_tolds f_tens  H _ ls hP  hS (lv_sub hl [1, 2, 3, 0] rfl) hf
def mX11_keep (i_keptMany : Int32) (f_delays : Nat → Int32) (f_tens : Nat → Int32) (f_tolds : Nat → Int32) :
  Option (Int32 × Int32 × (Nat → Int32) × (Nat → Int32) × (Nat → Int32)) :=
  if i_keptMany = (2 : Int32) then (some ((-3 : Int32), i_keptMany, f_delays, f_tolds, f_tens)) else (lb (i_keptMany + (1 : Int32)) fun v2 =>
  (mX11_copy (0 : Int32) v2 f_delays f_tens f_tolds).bind fun o3 =>
  some (v2, v2, o3.1, o3.2.1, o3.2.2))
theorem hdsX11_keep : yX11_keep.cls ≠ "java/lang/invoke/MethodHandle" ∧ yX11_keep.cls ≠ "java/lang/invoke/VarHandle" ∧ (parseMethodDescriptor yX11_keep.desc).map (fun d => d.parameters.length) = some 0 := by decide +kernel
theorem hdvX11_keep : yX11_keep.cls = RX11 ∧ yX11_keep.cls ≠ "java/lang/invoke/MethodHandle" ∧ yX11_keep.cls ≠ "java/lang/invoke/VarHandle" ∧ (parseMethodDescriptor yX11_keep.desc).map (fun d => d.parameters.length) = some 0 := by decide +kernel
abbrev rmX11_keep : Room := { frames := 1, cells := 0, slots := 0, locals := 23 }
set_option maxHeartbeats 4000000 in
set_option maxRecDepth 100000 in
theorem qX11_keep (l : Launch) (X : XT) (a_this : Nat) (a_delays : Nat) (a_tens : Nat) (a_tolds : Nat) (a_text : Nat) (a_roundMany : Nat) (a_blowMany : Nat) (a_blows : Nat) (a_forwards : Nat) (a_downs : Nat) (a_takens : Nat) (a_homes : Nat) (a_noises : Nat) (a_judgeMany : Nat) (a_judges : Nat) (a_told : Nat) (a_ways : Nat) (a_nextWays : Nat) (a_tallies : Nat) (a_presses : Nat) (a_values : Nat) (a_nextValues : Nat)  (i_length : Int32) (i_keptMany : Int32) (i_place : Int32) (f_delays : Nat → Int32) (f_tens : Nat → Int32) (f_tolds : Nat → Int32)  (o : Int32 × Int32 × (Nat → Int32) × (Nat → Int32) × (Nat → Int32)) (hf : mX11_keep i_keptMany f_delays f_tens f_tolds = some o) :
    MI l yX11_keep wsX11_keep rmX11_keep X [.ref a_this] [(a_this, .inr (11, [.int i_length, .ref a_text, .ref a_roundMany, .ref a_blowMany, .ref a_blows, .ref a_forwards, .ref a_downs, .ref a_takens, .ref a_homes, .ref a_noises, .ref a_judgeMany, .ref a_judges, .ref a_delays, .ref a_tolds, .ref a_tens, .int i_keptMany, .int i_place, .ref a_told, .ref a_ways, .ref a_nextWays, .ref a_tallies, .ref a_presses, .ref a_values, .ref a_nextValues])), (a_delays, .inl (X.2.1 0, 24, .inl f_delays)), (a_tens, .inl (X.2.1 0, 12, .inl f_tens)), (a_tolds, .inl (X.2.1 0, 432, .inl f_tolds))]  [(a_this, .inr (11, [.int i_length, .ref a_text, .ref a_roundMany, .ref a_blowMany, .ref a_blows, .ref a_forwards, .ref a_downs, .ref a_takens, .ref a_homes, .ref a_noises, .ref a_judgeMany, .ref a_judges, .ref a_delays, .ref a_tolds, .ref a_tens, .int o.2.1, .int i_place, .ref a_told, .ref a_ways, .ref a_nextWays, .ref a_tallies, .ref a_presses, .ref a_values, .ref a_nextValues])), (a_delays, .inl (X.2.1 0, 24, .inl o.2.2.1)), (a_tens, .inl (X.2.1 0, 12, .inl o.2.2.2.2)), (a_tolds, .inl (X.2.1 0, 432, .inl o.2.2.2.1))] o.1 := by
  refine MI_ofH (cc := cX11_keep) (maxL := 1) (rt := .int) (by decide) rfl (Nat.le_of_ble_eq_true rfl) ?_
  intro p e s m below meth c A Q H ls hx hb hml hts hown hA hD hG hP hS hl ret
  have hown : s.vm.findClass RX11 = some m.cls := hown
  have hD : aD A [a_this, a_delays, a_tens, a_tolds] := hD
  have hl : lv_has ls 1 [(0, .ref a_this)] := hl
  have w1 := hts (.fieldLink RX11 129 "ThreeCardsModel" "keptMany" "I") (List.mem_of_getElem? (i := 1) rfl)
  have in11 : ∀ w ∈ u_ws RX11 TX11 24, w ∈ wsX11_keep := by decide +kernel
  unfold mX11_keep at hf
  refine lv_aload_n hx hb dX11_keep_0 rfl (lv_at hl 0 rfl) ?_
  refine va_get (D := X.1) (ci := 11) (v := .int i_keptMany) (C := RX11) (T := TX11) (N := 24) hx hb hts in11 hown hG.1 hP 0 rfl rfl 15 (by decide) w1 (fun _ h9 => h9) rfl dX11_keep_1 ?_
  refine lv_iconst (v := (2 : Int32)) hx hb dX11_keep_4 (by decide) ?_
  refine lv_icmp_ne (tgt := 11) hx hb dX11_keep_5 (by decide) (fun c1 => ?_) (fun c1 => ?_)
  · have hf := xf hf c1
    refine lv_aload_n hx hb dX11_keep_11 rfl (lv_at hl 0 rfl) ?_
    refine lv_dup hx hb dX11_keep_12 rfl ?_
    refine va_get (D := X.1) (ci := 11) (v := .int i_keptMany) (C := RX11) (T := TX11) (N := 24) hx hb hts in11 hown hG.1 hP 0 rfl rfl 15 (by decide) w1 (fun _ h9 => h9) rfl dX11_keep_13 ?_
    refine lv_iconst (v := (1 : Int32)) hx hb dX11_keep_16 (by decide) ?_
    refine lv_iadd hx hb dX11_keep_17 ?_
    refine lv_topi (fun v2 ev2 => ?_)
    have hf := lb_s hf ev2
    refine x_put (ws' := [(a_this, .inr (11, [.int i_length, .ref a_text, .ref a_roundMany, .ref a_blowMany, .ref a_blows, .ref a_forwards, .ref a_downs, .ref a_takens, .ref a_homes, .ref a_noises, .ref a_judgeMany, .ref a_judges, .ref a_delays, .ref a_tolds, .ref a_tens, .int v2, .int i_place, .ref a_told, .ref a_ways, .ref a_nextWays, .ref a_tallies, .ref a_presses, .ref a_values, .ref a_nextValues])), (a_delays, .inl (X.2.1 0, 24, .inl f_delays)), (a_tens, .inl (X.2.1 0, 12, .inl f_tens)), (a_tolds, .inl (X.2.1 0, 432, .inl f_tolds))]) (ty := .int) (C := RX11) (T := TX11) (N := 24) hx hb hts in11 tyX11 tyX11_ok nmX11 hown hG hP hD rfl hS 0 rfl rfl 15 (by decide) w1 rfl (tyX11_ok 15 (by decide)) rfl rfl (Nat.le_of_ble_eq_true rfl) dX11_keep_18 rfl (fun H locs hP hS => ?_)
    refine lv_aload_n hx hb dX11_keep_21 rfl (lv_at hl 0 rfl) ?_
    refine lv_iconst (v := (0 : Int32)) hx hb dX11_keep_22 (by decide) ?_
    refine lv_aload_n hx hb dX11_keep_23 rfl (lv_at hl 0 rfl) ?_
    refine va_get (D := X.1) (ci := 11) (v := .int v2) (C := RX11) (T := TX11) (N := 24) hx hb hts in11 hown hG.1 hP 0 rfl rfl 15 (by decide) w1 (fun _ h9 => h9) rfl dX11_keep_24 ?_
    obtain ⟨o3, ho3, hf⟩ := ob_s hf
    refine xV_v (As := [.int (0 : Int32), .int v2]) (b := a_this) (rest := []) (ws2 := fun _ => [(a_this, .inr (11, [.int i_length, .ref a_text, .ref a_roundMany, .ref a_blowMany, .ref a_blows, .ref a_forwards, .ref a_downs, .ref a_takens, .ref a_homes, .ref a_noises, .ref a_judgeMany, .ref a_judges, .ref a_delays, .ref a_tolds, .ref a_tens, .int v2, .int i_place, .ref a_told, .ref a_ways, .ref a_nextWays, .ref a_tallies, .ref a_presses, .ref a_values, .ref a_nextValues])), (a_delays, .inl (X.2.1 0, 24, .inl o3.1)), (a_tens, .inl (X.2.1 0, 12, .inl o3.2.2)), (a_tolds, .inl (X.2.1 0, 432, .inl o3.2.1))]) hx hb hml hts hown hG hA hP hD rfl hS hl.1 (qX11_copy l X a_this a_delays a_tens a_tolds a_text a_roundMany a_blowMany a_blows a_forwards a_downs a_takens a_homes a_noises a_judgeMany a_judges a_told a_ways a_nextWays a_tallies a_presses a_values a_nextValues i_length v2 i_place f_delays f_tens f_tolds (0 : Int32) v2 o3 ho3) (cwV (y := yX11_copy) 2 hts gX11_keep_X11_copy rfl rfl rfl hdvX11_copy ⟨Nat.le_of_ble_eq_true rfl, Nat.le_of_ble_eq_true rfl⟩) [0, 1, 2, 3] [] [0, 1, 2, 3] rfl rfl rfl rfl rfl rfl (fun _ => rfl) (ci := 11) rfl 0 rfl rfl rfl (Nat.le_of_ble_eq_true rfl) ⟨Nat.le_of_ble_eq_true rfl, Nat.le_of_ble_eq_true rfl⟩ dX11_keep_27 (fun u4 H locs hP _ hS => ?_)
    refine lv_aload_n hx hb dX11_keep_30 rfl (lv_at hl 0 rfl) ?_
    refine va_get (D := X.1) (ci := 11) (v := .int v2) (C := RX11) (T := TX11) (N := 24) hx hb hts in11 hown hG.1 hP 0 rfl rfl 15 (by decide) w1 (fun _ h9 => h9) rfl dX11_keep_31 ?_
    obtain rfl := Option.some.inj hf
    exact ret H _ ls _ rfl hP hD hS dX11_keep_34
  · have hf := xt hf c1
    refine lv_bipush (v := (-3 : Int32)) hx hb dX11_keep_8 (by decide) ?_
    obtain rfl := Option.some.inj hf
    exact ret H _ ls _ rfl hP hD hS dX11_keep_10
def mX11_back (i_keptMany : Int32) (f_delays : Nat → Int32) (f_tens : Nat → Int32) (f_tolds : Nat → Int32) :
  Option (Int32 × (Nat → Int32) × (Nat → Int32) × (Nat → Int32) × Int32) :=
  if i_keptMany = 0 then (some ((-2 : Int32), f_delays, f_tolds, f_tens, i_keptMany)) else ((mX11_copy i_keptMany (0 : Int32) f_delays f_tens f_tolds).bind fun o2 =>
  lb (i_keptMany - (1 : Int32)) fun v4 =>
  some (v4, o2.1, o2.2.1, o2.2.2, v4))
theorem hdsX11_back : yX11_back.cls ≠ "java/lang/invoke/MethodHandle" ∧ yX11_back.cls ≠ "java/lang/invoke/VarHandle" ∧ (parseMethodDescriptor yX11_back.desc).map (fun d => d.parameters.length) = some 0 := by decide +kernel
theorem hdvX11_back : yX11_back.cls = RX11 ∧ yX11_back.cls ≠ "java/lang/invoke/MethodHandle" ∧ yX11_back.cls ≠ "java/lang/invoke/VarHandle" ∧ (parseMethodDescriptor yX11_back.desc).map (fun d => d.parameters.length) = some 0 := by decide +kernel
abbrev rmX11_back : Room := { frames := 1, cells := 0, slots := 0, locals := 23 }
set_option maxHeartbeats 4000000 in
set_option maxRecDepth 100000 in
theorem qX11_back (l : Launch) (X : XT) (a_this : Nat) (a_delays : Nat) (a_tens : Nat) (a_tolds : Nat) (a_text : Nat) (a_roundMany : Nat) (a_blowMany : Nat) (a_blows : Nat) (a_forwards : Nat) (a_downs : Nat) (a_takens : Nat) (a_homes : Nat) (a_noises : Nat) (a_judgeMany : Nat) (a_judges : Nat) (a_told : Nat) (a_ways : Nat) (a_nextWays : Nat) (a_tallies : Nat) (a_presses : Nat) (a_values : Nat) (a_nextValues : Nat)  (i_length : Int32) (i_keptMany : Int32) (i_place : Int32) (f_delays : Nat → Int32) (f_tens : Nat → Int32) (f_tolds : Nat → Int32)  (o : Int32 × (Nat → Int32) × (Nat → Int32) × (Nat → Int32) × Int32) (hf : mX11_back i_keptMany f_delays f_tens f_tolds = some o) :
    MI l yX11_back wsX11_back rmX11_back X [.ref a_this] [(a_this, .inr (11, [.int i_length, .ref a_text, .ref a_roundMany, .ref a_blowMany, .ref a_blows, .ref a_forwards, .ref a_downs, .ref a_takens, .ref a_homes, .ref a_noises, .ref a_judgeMany, .ref a_judges, .ref a_delays, .ref a_tolds, .ref a_tens, .int i_keptMany, .int i_place, .ref a_told, .ref a_ways, .ref a_nextWays, .ref a_tallies, .ref a_presses, .ref a_values, .ref a_nextValues])), (a_delays, .inl (X.2.1 0, 24, .inl f_delays)), (a_tens, .inl (X.2.1 0, 12, .inl f_tens)), (a_tolds, .inl (X.2.1 0, 432, .inl f_tolds))]  [(a_this, .inr (11, [.int i_length, .ref a_text, .ref a_roundMany, .ref a_blowMany, .ref a_blows, .ref a_forwards, .ref a_downs, .ref a_takens, .ref a_homes, .ref a_noises, .ref a_judgeMany, .ref a_judges, .ref a_delays, .ref a_tolds, .ref a_tens, .int o.2.2.2.2, .int i_place, .ref a_told, .ref a_ways, .ref a_nextWays, .ref a_tallies, .ref a_presses, .ref a_values, .ref a_nextValues])), (a_delays, .inl (X.2.1 0, 24, .inl o.2.1)), (a_tens, .inl (X.2.1 0, 12, .inl o.2.2.2.1)), (a_tolds, .inl (X.2.1 0, 432, .inl o.2.2.1))] o.1 := by
  refine MI_ofH (cc := cX11_back) (maxL := 1) (rt := .int) (by decide) rfl (Nat.le_of_ble_eq_true rfl) ?_
  intro p e s m below meth c A Q H ls hx hb hml hts hown hA hD hG hP hS hl ret
  have hown : s.vm.findClass RX11 = some m.cls := hown
  have hD : aD A [a_this, a_delays, a_tens, a_tolds] := hD
  have hl : lv_has ls 1 [(0, .ref a_this)] := hl
  have w1 := hts (.fieldLink RX11 129 "ThreeCardsModel" "keptMany" "I") (List.mem_of_getElem? (i := 1) rfl)
  have in11 : ∀ w ∈ u_ws RX11 TX11 24, w ∈ wsX11_back := by decide +kernel
  unfold mX11_back at hf
  refine lv_aload_n hx hb dX11_back_0 rfl (lv_at hl 0 rfl) ?_
  refine va_get (D := X.1) (ci := 11) (v := .int i_keptMany) (C := RX11) (T := TX11) (N := 24) hx hb hts in11 hown hG.1 hP 0 rfl rfl 15 (by decide) w1 (fun _ h9 => h9) rfl dX11_back_1 ?_
  refine lv_if_ne (tgt := 10) hx hb dX11_back_4 (by decide) (fun c1 => ?_) (fun c1 => ?_)
  · have hf := xf hf c1
    refine lv_aload_n hx hb dX11_back_10 rfl (lv_at hl 0 rfl) ?_
    refine lv_aload_n hx hb dX11_back_11 rfl (lv_at hl 0 rfl) ?_
    refine va_get (D := X.1) (ci := 11) (v := .int i_keptMany) (C := RX11) (T := TX11) (N := 24) hx hb hts in11 hown hG.1 hP 0 rfl rfl 15 (by decide) w1 (fun _ h9 => h9) rfl dX11_back_12 ?_
    refine lv_iconst (v := (0 : Int32)) hx hb dX11_back_15 (by decide) ?_
    obtain ⟨o2, ho2, hf⟩ := ob_s hf
    refine xV_v (As := [.int i_keptMany, .int (0 : Int32)]) (b := a_this) (rest := []) (ws2 := fun _ => [(a_this, .inr (11, [.int i_length, .ref a_text, .ref a_roundMany, .ref a_blowMany, .ref a_blows, .ref a_forwards, .ref a_downs, .ref a_takens, .ref a_homes, .ref a_noises, .ref a_judgeMany, .ref a_judges, .ref a_delays, .ref a_tolds, .ref a_tens, .int i_keptMany, .int i_place, .ref a_told, .ref a_ways, .ref a_nextWays, .ref a_tallies, .ref a_presses, .ref a_values, .ref a_nextValues])), (a_delays, .inl (X.2.1 0, 24, .inl o2.1)), (a_tens, .inl (X.2.1 0, 12, .inl o2.2.2)), (a_tolds, .inl (X.2.1 0, 432, .inl o2.2.1))]) hx hb hml hts hown hG hA hP hD rfl hS hl.1 (qX11_copy l X a_this a_delays a_tens a_tolds a_text a_roundMany a_blowMany a_blows a_forwards a_downs a_takens a_homes a_noises a_judgeMany a_judges a_told a_ways a_nextWays a_tallies a_presses a_values a_nextValues i_length i_keptMany i_place f_delays f_tens f_tolds i_keptMany (0 : Int32) o2 ho2) (cwV (y := yX11_copy) 2 hts gX11_back_X11_copy rfl rfl rfl hdvX11_copy ⟨Nat.le_of_ble_eq_true rfl, Nat.le_of_ble_eq_true rfl⟩) [0, 1, 2, 3] [] [0, 1, 2, 3] rfl rfl rfl rfl rfl rfl (fun _ => rfl) (ci := 11) rfl 0 rfl rfl rfl (Nat.le_of_ble_eq_true rfl) ⟨Nat.le_of_ble_eq_true rfl, Nat.le_of_ble_eq_true rfl⟩ dX11_back_16 (fun u3 H locs hP _ hS => ?_)
    refine lv_aload_n hx hb dX11_back_19 rfl (lv_at hl 0 rfl) ?_
    refine lv_dup hx hb dX11_back_20 rfl ?_
    refine va_get (D := X.1) (ci := 11) (v := .int i_keptMany) (C := RX11) (T := TX11) (N := 24) hx hb hts in11 hown hG.1 hP 0 rfl rfl 15 (by decide) w1 (fun _ h9 => h9) rfl dX11_back_21 ?_
    refine lv_iconst (v := (1 : Int32)) hx hb dX11_back_24 (by decide) ?_
    refine lv_isub hx hb dX11_back_25 ?_
    refine lv_topi (fun v4 ev4 => ?_)
    have hf := lb_s hf ev4
    refine x_put (ws' := [(a_this, .inr (11, [.int i_length, .ref a_text, .ref a_roundMany, .ref a_blowMany, .ref a_blows, .ref a_forwards, .ref a_downs, .ref a_takens, .ref a_homes, .ref a_noises, .ref a_judgeMany, .ref a_judges, .ref a_delays, .ref a_tolds, .ref a_tens, .int v4, .int i_place, .ref a_told, .ref a_ways, .ref a_nextWays, .ref a_tallies, .ref a_presses, .ref a_values, .ref a_nextValues])), (a_delays, .inl (X.2.1 0, 24, .inl o2.1)), (a_tens, .inl (X.2.1 0, 12, .inl o2.2.2)), (a_tolds, .inl (X.2.1 0, 432, .inl o2.2.1))]) (ty := .int) (C := RX11) (T := TX11) (N := 24) hx hb hts in11 tyX11 tyX11_ok nmX11 hown hG hP hD rfl hS 0 rfl rfl 15 (by decide) w1 rfl (tyX11_ok 15 (by decide)) rfl rfl (Nat.le_of_ble_eq_true rfl) dX11_back_26 rfl (fun H locs hP hS => ?_)
    refine lv_aload_n hx hb dX11_back_29 rfl (lv_at hl 0 rfl) ?_
    refine va_get (D := X.1) (ci := 11) (v := .int v4) (C := RX11) (T := TX11) (N := 24) hx hb hts in11 hown hG.1 hP 0 rfl rfl 15 (by decide) w1 (fun _ h9 => h9) rfl dX11_back_30 ?_
    obtain rfl := Option.some.inj hf
    exact ret H _ ls _ rfl hP hD hS dX11_back_33
  · have hf := xt hf c1
    refine lv_bipush (v := (-2 : Int32)) hx hb dX11_back_7 (by decide) ?_
    obtain rfl := Option.some.inj hf
    exact ret H _ ls _ rfl hP hD hS dX11_back_9
def mX11_count_B68 (x0 : Int32) (i_length : Int32) (i_keptMany : Int32) (f_blowMany : Nat → Int32) (f_judgeMany : Nat → Int32) (f_roundMany : Nat → Int32) (f_tolds : Nat → Int32) (k68 : Int32 → Int32 → Option (Int32)) (l2 : Int32) (l3 : Int32) :
  Option (Int32) :=
  if (144 : Int32) ≤ l3 then (some l2) else (gi l3 432 <|
  if (f_tolds l3.toNatClampNeg) ≤ (-21 : Int32) then (lb (l2 + (0 : Int32)) fun v13 =>
  lb (l3 + (1 : Int32)) fun v14 =>
  k68 v13 v14) else (lb (l2 + (1 : Int32)) fun v15 =>
  lb (l3 + (1 : Int32)) fun v16 =>
  k68 v15 v16))
def mX11_count_L68 (x0 : Int32) (i_length : Int32) (i_keptMany : Int32) (f_blowMany : Nat → Int32) (f_judgeMany : Nat → Int32) (f_roundMany : Nat → Int32) (f_tolds : Nat → Int32) (n : Nat) (l2 : Int32) (l3 : Int32) :
  Option (Int32) :=
  loopN (fun k (s : Int32 × Int32) => mX11_count_B68 x0 i_length i_keptMany f_blowMany f_judgeMany f_roundMany f_tolds  (fun l2 l3 => k (l2, l3)) s.1 s.2) n (l2, l3)
def mX11_count (x0 : Int32) (i_length : Int32) (i_keptMany : Int32) (f_blowMany : Nat → Int32) (f_judgeMany : Nat → Int32) (f_roundMany : Nat → Int32) (f_tolds : Nat → Int32) :
  Option (Int32) :=
  if x0 = (0 : Int32) then (lb (f_roundMany (0 : Int32).toNatClampNeg) fun v2 =>
  some v2) else (if x0 = (1 : Int32) then (lb (f_judgeMany (0 : Int32).toNatClampNeg) fun v4 =>
  some v4) else (if x0 = (2 : Int32) then (lb (f_blowMany (0 : Int32).toNatClampNeg) fun v6 =>
  some v6) else (if x0 = (3 : Int32) then (some i_length) else (if x0 = (4 : Int32) then (mX11_count_L68 x0 i_length i_keptMany f_blowMany f_judgeMany f_roundMany f_tolds  FUEL (0 : Int32) (0 : Int32)) else (if x0 = (5 : Int32) then (some i_keptMany) else (some (-1 : Int32)))))))
theorem hdsX11_count : yX11_count.cls ≠ "java/lang/invoke/MethodHandle" ∧ yX11_count.cls ≠ "java/lang/invoke/VarHandle" ∧ (parseMethodDescriptor yX11_count.desc).map (fun d => d.parameters.length) = some 1 := by decide +kernel
theorem hdvX11_count : yX11_count.cls = RX11 ∧ yX11_count.cls ≠ "java/lang/invoke/MethodHandle" ∧ yX11_count.cls ≠ "java/lang/invoke/VarHandle" ∧ (parseMethodDescriptor yX11_count.desc).map (fun d => d.parameters.length) = some 1 := by decide +kernel
abbrev rmX11_count : Room := { frames := 0, cells := 0, slots := 0, locals := 0 }
set_option maxHeartbeats 4000000 in
set_option maxRecDepth 100000 in
theorem qX11_count (l : Launch) (X : XT) (a_this : Nat) (a_blowMany : Nat) (a_judgeMany : Nat) (a_roundMany : Nat) (a_tolds : Nat) (a_text : Nat) (a_blows : Nat) (a_forwards : Nat) (a_downs : Nat) (a_takens : Nat) (a_homes : Nat) (a_noises : Nat) (a_judges : Nat) (a_delays : Nat) (a_tens : Nat) (a_told : Nat) (a_ways : Nat) (a_nextWays : Nat) (a_tallies : Nat) (a_presses : Nat) (a_values : Nat) (a_nextValues : Nat)  (i_length : Int32) (i_keptMany : Int32) (i_place : Int32) (f_blowMany : Nat → Int32) (f_judgeMany : Nat → Int32) (f_roundMany : Nat → Int32) (f_tolds : Nat → Int32) (x0 : Int32) (o : Int32) (hf : mX11_count x0 i_length i_keptMany f_blowMany f_judgeMany f_roundMany f_tolds = some o) :
    MI l yX11_count wsX11_count rmX11_count X [.ref a_this, .int x0] [(a_this, .inr (11, [.int i_length, .ref a_text, .ref a_roundMany, .ref a_blowMany, .ref a_blows, .ref a_forwards, .ref a_downs, .ref a_takens, .ref a_homes, .ref a_noises, .ref a_judgeMany, .ref a_judges, .ref a_delays, .ref a_tolds, .ref a_tens, .int i_keptMany, .int i_place, .ref a_told, .ref a_ways, .ref a_nextWays, .ref a_tallies, .ref a_presses, .ref a_values, .ref a_nextValues])), (a_blowMany, .inl (X.2.1 0, 2, .inl f_blowMany)), (a_judgeMany, .inl (X.2.1 0, 2, .inl f_judgeMany)), (a_roundMany, .inl (X.2.1 0, 2, .inl f_roundMany)), (a_tolds, .inl (X.2.1 0, 432, .inl f_tolds))]  [(a_this, .inr (11, [.int i_length, .ref a_text, .ref a_roundMany, .ref a_blowMany, .ref a_blows, .ref a_forwards, .ref a_downs, .ref a_takens, .ref a_homes, .ref a_noises, .ref a_judgeMany, .ref a_judges, .ref a_delays, .ref a_tolds, .ref a_tens, .int i_keptMany, .int i_place, .ref a_told, .ref a_ways, .ref a_nextWays, .ref a_tallies, .ref a_presses, .ref a_values, .ref a_nextValues])), (a_blowMany, .inl (X.2.1 0, 2, .inl f_blowMany)), (a_judgeMany, .inl (X.2.1 0, 2, .inl f_judgeMany)), (a_roundMany, .inl (X.2.1 0, 2, .inl f_roundMany)), (a_tolds, .inl (X.2.1 0, 432, .inl f_tolds))] o := by
  refine MI_ofH (cc := cX11_count) (maxL := 4) (rt := .int) (by decide) rfl (Nat.le_of_ble_eq_true rfl) ?_
  intro p e s m below meth c A Q H ls hx hb hml hts hown hA hD hG hP hS hl ret
  have hown : s.vm.findClass RX11 = some m.cls := hown
  have hD : aD A [a_this, a_blowMany, a_judgeMany, a_roundMany, a_tolds] := hD
  have hl : lv_has ls 4 [(0, .ref a_this), (1, .int x0)] := hl
  have w1 := hts (.fieldLink RX11 13 "ThreeCardsModel" "roundMany" "[I") (List.mem_of_getElem? (i := 1) rfl)
  have w2 := hts (.fieldLink RX11 37 "ThreeCardsModel" "judgeMany" "[I") (List.mem_of_getElem? (i := 2) rfl)
  have w3 := hts (.fieldLink RX11 16 "ThreeCardsModel" "blowMany" "[I") (List.mem_of_getElem? (i := 3) rfl)
  have w4 := hts (.fieldLink RX11 84 "ThreeCardsModel" "length" "I") (List.mem_of_getElem? (i := 4) rfl)
  have w5 := hts (.fieldLink RX11 46 "ThreeCardsModel" "tolds" "[I") (List.mem_of_getElem? (i := 5) rfl)
  have w6 := hts (.fieldLink RX11 129 "ThreeCardsModel" "keptMany" "I") (List.mem_of_getElem? (i := 6) rfl)
  have in11 : ∀ w ∈ u_ws RX11 TX11 24, w ∈ wsX11_count := by decide +kernel
  have hL68 : ∀ (n : Nat) (l2 : Int32) (l3 : Int32)  (H : Heap) (locs : List Loc) (ls : Array Slot), va_P X.1 vwCl [(a_this, .inr (11, [.int i_length, .ref a_text, .ref a_roundMany, .ref a_blowMany, .ref a_blows, .ref a_forwards, .ref a_downs, .ref a_takens, .ref a_homes, .ref a_noises, .ref a_judgeMany, .ref a_judges, .ref a_delays, .ref a_tolds, .ref a_tens, .int i_keptMany, .int i_place, .ref a_told, .ref a_ways, .ref a_nextWays, .ref a_tallies, .ref a_presses, .ref a_values, .ref a_nextValues])), (a_blowMany, .inl (X.2.1 0, 2, .inl f_blowMany)), (a_judgeMany, .inl (X.2.1 0, 2, .inl f_judgeMany)), (a_roundMany, .inl (X.2.1 0, 2, .inl f_roundMany)), (a_tolds, .inl (X.2.1 0, 432, .inl f_tolds))] H → va_S A s.heap H locs → lv_has ls 4 [(0, .ref a_this), (2, .int l2), (3, .int l3)] → mX11_count_L68 x0 i_length i_keptMany f_blowMany f_judgeMany f_roundMany f_tolds  n l2 l3 = some o → W p l e rmX11_count s m ([.ref a_this, .int x0] : List Value).toArray below meth c H locs 0 0 Q (F0 m 68 ls []) := by
    intro n
    induction n with
    | zero => intro l2 l3  H locs ls hP hS hl hf; exact xn hf
    | succ n ih =>
      intro l2 l3  H locs ls hP hS hl hf
      have hf : mX11_count_B68 x0 i_length i_keptMany f_blowMany f_judgeMany f_roundMany f_tolds  (mX11_count_L68 x0 i_length i_keptMany f_blowMany f_judgeMany f_roundMany f_tolds  n) l2 l3 = some o := hf
      generalize mX11_count_L68 x0 i_length i_keptMany f_blowMany f_judgeMany f_roundMany f_tolds  n = k68 at ih hf
      unfold mX11_count_B68 at hf
      refine lv_iload_n hx hb dX11_count_68 rfl (lv_at hl 2 rfl) ?_
      refine lv_sipush (v := (144 : Int32)) hx hb dX11_count_69 (by decide) ?_
      refine lv_icmp_ge (tgt := 100) hx hb dX11_count_72 (by decide) (fun c10 => ?_) (fun c10 => ?_)
      · have hf := xt hf c10
        refine lv_iload_n hx hb dX11_count_100 rfl (lv_at hl 1 rfl) ?_
        obtain rfl := Option.some.inj hf
        exact ret H _ ls _ rfl hP hD hS dX11_count_101
      · have hf := xf hf c10
        refine lv_iload_n hx hb dX11_count_75 rfl (lv_at hl 1 rfl) ?_
        refine lv_aload_n hx hb dX11_count_76 rfl (lv_at hl 0 rfl) ?_
        refine va_get (D := X.1) (ci := 11) (v := .ref a_tolds) (C := RX11) (T := TX11) (N := 24) hx hb hts in11 hown hG.1 hP 0 rfl rfl 13 (by decide) w5 (fun _ h9 => h9) rfl dX11_count_77 ?_
        refine lv_iload_n hx hb dX11_count_80 rfl (lv_at hl 2 rfl) ?_
        obtain ⟨h11, hf⟩ := gi_s hf
        refine va_iald (D := X.1) hx hb hG.1 hP 4 0 rfl rfl h11 dX11_count_81 ?_
        refine lv_bipush (v := (-21 : Int32)) hx hb dX11_count_82 (by decide) ?_
        refine lv_icmp_le (tgt := 91) hx hb dX11_count_84 (by decide) (fun c12 => ?_) (fun c12 => ?_)
        · have hf := xt hf c12
          refine lv_iconst (v := (0 : Int32)) hx hb dX11_count_91 (by decide) ?_
          refine lv_iadd hx hb dX11_count_92 ?_
          refine lv_topi (fun v13 ev13 => ?_)
          have hf := lb_s hf ev13
          refine lv_istore_n (lv' := [(2, .int v13), (0, .ref a_this), (3, .int l3)]) hx hb dX11_count_93 rfl hl (by decide) rfl (fun ls hl => ?_)
          obtain ⟨v14, ev14, hf⟩ := lb_g hf
          refine lv_iinc (v := v14) (lv' := [(3, .int v14), (2, .int v13), (0, .ref a_this)]) hx hb dX11_count_94 hl (k := 2) rfl ev14.symm (by decide) rfl (fun ls hl => ?_)
          refine lv_goto (tgt := 68) hx hb dX11_count_97 (by decide) ?_
          exact ih v13 v14  H _ ls hP  hS (lv_sub hl [2, 1, 0] rfl) hf
        · have hf := xf hf c12
          refine lv_iconst (v := (1 : Int32)) hx hb dX11_count_87 (by decide) ?_
          refine lv_goto (tgt := 92) hx hb dX11_count_88 (by decide) ?_
          refine lv_iadd hx hb dX11_count_92 ?_
          refine lv_topi (fun v15 ev15 => ?_)
          have hf := lb_s hf ev15
          refine lv_istore_n (lv' := [(2, .int v15), (0, .ref a_this), (3, .int l3)]) hx hb dX11_count_93 rfl hl (by decide) rfl (fun ls hl => ?_)
          obtain ⟨v16, ev16, hf⟩ := lb_g hf
          refine lv_iinc (v := v16) (lv' := [(3, .int v16), (2, .int v15), (0, .ref a_this)]) hx hb dX11_count_94 hl (k := 2) rfl ev16.symm (by decide) rfl (fun ls hl => ?_)
          refine lv_goto (tgt := 68) hx hb dX11_count_97 (by decide) ?_
          exact ih v15 v16  H _ ls hP  hS (lv_sub hl [2, 1, 0] rfl) hf
  unfold mX11_count at hf
  refine lv_iconst (v := (0 : Int32)) hx hb dX11_count_0 (by decide) ?_
  refine lv_istore_n (lv' := [(2, .int (0 : Int32)), (0, .ref a_this), (1, .int x0)]) hx hb dX11_count_1 rfl hl (by decide) rfl (fun ls hl => ?_)
  refine lv_iload_n hx hb dX11_count_2 rfl (lv_at hl 2 rfl) ?_
  by_cases c1 : x0 = (0 : Int32)
  · have hf := xt hf c1
    refine lv_tableIn (tgt := 40) (off := 37) hx hb dX11_count_3 (by rw [c1]; decide) (by rw [c1]; decide) (by rw [c1]; decide) (by decide) ?_
    refine lv_aload_n hx hb dX11_count_40 rfl (lv_at hl 1 rfl) ?_
    refine va_get (D := X.1) (ci := 11) (v := .ref a_roundMany) (C := RX11) (T := TX11) (N := 24) hx hb hts in11 hown hG.1 hP 0 rfl rfl 2 (by decide) w1 (fun _ h9 => h9) rfl dX11_count_41 ?_
    refine lv_iconst (v := (0 : Int32)) hx hb dX11_count_44 (by decide) ?_
    refine va_iald (D := X.1) hx hb hG.1 hP 3 0 rfl rfl (vp_lit (by decide)) dX11_count_45 ?_
    refine lv_topi (fun v2 ev2 => ?_)
    have hf := lb_s hf ev2
    obtain rfl := Option.some.inj hf
    exact ret H _ ls _ rfl hP hD hS dX11_count_46
  · have hf := xf hf c1
    by_cases c3 : x0 = (1 : Int32)
    · have hf := xt hf c3
      refine lv_tableIn (tgt := 47) (off := 44) hx hb dX11_count_3 (by rw [c3]; decide) (by rw [c3]; decide) (by rw [c3]; decide) (by decide) ?_
      refine lv_aload_n hx hb dX11_count_47 rfl (lv_at hl 1 rfl) ?_
      refine va_get (D := X.1) (ci := 11) (v := .ref a_judgeMany) (C := RX11) (T := TX11) (N := 24) hx hb hts in11 hown hG.1 hP 0 rfl rfl 10 (by decide) w2 (fun _ h9 => h9) rfl dX11_count_48 ?_
      refine lv_iconst (v := (0 : Int32)) hx hb dX11_count_51 (by decide) ?_
      refine va_iald (D := X.1) hx hb hG.1 hP 2 0 rfl rfl (vp_lit (by decide)) dX11_count_52 ?_
      refine lv_topi (fun v4 ev4 => ?_)
      have hf := lb_s hf ev4
      obtain rfl := Option.some.inj hf
      exact ret H _ ls _ rfl hP hD hS dX11_count_53
    · have hf := xf hf c3
      by_cases c5 : x0 = (2 : Int32)
      · have hf := xt hf c5
        refine lv_tableIn (tgt := 54) (off := 51) hx hb dX11_count_3 (by rw [c5]; decide) (by rw [c5]; decide) (by rw [c5]; decide) (by decide) ?_
        refine lv_aload_n hx hb dX11_count_54 rfl (lv_at hl 1 rfl) ?_
        refine va_get (D := X.1) (ci := 11) (v := .ref a_blowMany) (C := RX11) (T := TX11) (N := 24) hx hb hts in11 hown hG.1 hP 0 rfl rfl 3 (by decide) w3 (fun _ h9 => h9) rfl dX11_count_55 ?_
        refine lv_iconst (v := (0 : Int32)) hx hb dX11_count_58 (by decide) ?_
        refine va_iald (D := X.1) hx hb hG.1 hP 1 0 rfl rfl (vp_lit (by decide)) dX11_count_59 ?_
        refine lv_topi (fun v6 ev6 => ?_)
        have hf := lb_s hf ev6
        obtain rfl := Option.some.inj hf
        exact ret H _ ls _ rfl hP hD hS dX11_count_60
      · have hf := xf hf c5
        by_cases c7 : x0 = (3 : Int32)
        · have hf := xt hf c7
          refine lv_tableIn (tgt := 61) (off := 58) hx hb dX11_count_3 (by rw [c7]; decide) (by rw [c7]; decide) (by rw [c7]; decide) (by decide) ?_
          refine lv_aload_n hx hb dX11_count_61 rfl (lv_at hl 1 rfl) ?_
          refine va_get (D := X.1) (ci := 11) (v := .int i_length) (C := RX11) (T := TX11) (N := 24) hx hb hts in11 hown hG.1 hP 0 rfl rfl 0 (by decide) w4 (fun _ h9 => h9) rfl dX11_count_62 ?_
          obtain rfl := Option.some.inj hf
          exact ret H _ ls _ rfl hP hD hS dX11_count_65
        · have hf := xf hf c7
          by_cases c8 : x0 = (4 : Int32)
          · have hf := xt hf c8
            refine lv_tableIn (tgt := 66) (off := 63) hx hb dX11_count_3 (by rw [c8]; decide) (by rw [c8]; decide) (by rw [c8]; decide) (by decide) ?_
            refine lv_iconst (v := (0 : Int32)) hx hb dX11_count_66 (by decide) ?_
            refine lv_istore_n (lv' := [(3, .int (0 : Int32)), (2, .int (0 : Int32)), (0, .ref a_this), (1, .int x0)]) hx hb dX11_count_67 rfl hl (by decide) rfl (fun ls hl => ?_)
            exact hL68  FUEL (0 : Int32) (0 : Int32)  H _ ls hP  hS (lv_sub hl [2, 1, 0] rfl) hf
          · have hf := xf hf c8
            by_cases c9 : x0 = (5 : Int32)
            · have hf := xt hf c9
              refine lv_tableIn (tgt := 102) (off := 99) hx hb dX11_count_3 (by rw [c9]; decide) (by rw [c9]; decide) (by rw [c9]; decide) (by decide) ?_
              refine lv_aload_n hx hb dX11_count_102 rfl (lv_at hl 1 rfl) ?_
              refine va_get (D := X.1) (ci := 11) (v := .int i_keptMany) (C := RX11) (T := TX11) (N := 24) hx hb hts in11 hown hG.1 hP 0 rfl rfl 15 (by decide) w6 (fun _ h9 => h9) rfl dX11_count_103 ?_
              obtain rfl := Option.some.inj hf
              exact ret H _ ls _ rfl hP hD hS dX11_count_106
            · have hf := xf hf c9
              refine lv_tabD (tgt := 107) hx hb dX11_count_3 (fun h1_ h2_ => ?_) (by decide) ?_
              · have nc1 := i32_ne (0 : Int32) c1
                have nc3 := i32_ne (1 : Int32) c3
                have nc5 := i32_ne (2 : Int32) c5
                have nc7 := i32_ne (3 : Int32) c7
                have nc8 := i32_ne (4 : Int32) c8
                have nc9 := i32_ne (5 : Int32) c9
                rw [show (0 : Int32).toInt = 0 from by decide] at nc1
                rw [show (1 : Int32).toInt = 1 from by decide] at nc3
                rw [show (2 : Int32).toInt = 2 from by decide] at nc5
                rw [show (3 : Int32).toInt = 3 from by decide] at nc7
                rw [show (4 : Int32).toInt = 4 from by decide] at nc8
                rw [show (5 : Int32).toInt = 5 from by decide] at nc9
                exfalso
                omega
              refine lv_iconst (v := (-1 : Int32)) hx hb dX11_count_107 (by decide) ?_
              obtain rfl := Option.some.inj hf
              exact ret H _ ls _ rfl hP hD hS dX11_count_108
