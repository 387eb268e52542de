def mX11_in (x0 : Int64) (x1 : Int64) (x2 : Int64) :
  Option (Int32) :=
  if (lg_cmp x0 x1) < 0 then (some (0 : Int32)) else (if 0 < (lg_cmp x0 x2) then (some (0 : Int32)) else (some (1 : Int32)))
theorem hdsX11_in : yX11_in.cls ≠ "java/lang/invoke/MethodHandle" ∧ yX11_in.cls ≠ "java/lang/invoke/VarHandle" ∧ (parseMethodDescriptor yX11_in.desc).map (fun d => d.parameters.length) = some 3 := by decide +kernel
abbrev rmX11_in : Room := { frames := 0, cells := 0, slots := 0, locals := 0 }
set_option maxHeartbeats 4000000 in
set_option maxRecDepth 100000 in
theorem qX11_in (l : Launch) (X : XT)    (x0 : Int64) (x1 : Int64) (x2 : Int64) (o : Int32) (hf : mX11_in x0 x1 x2 = some o) :
    MI l yX11_in wsX11_in rmX11_in X [.long x0, .long x1, .long x2] []  [] o := by
  refine MI_ofH (cc := cX11_in) (maxL := 6) (rt := .boolean) (by decide) rfl (Nat.le_of_ble_eq_true rfl) ?_
  intro p e s m below meth c A Q H ls hx hb hml hts hown hA hD hG hP hS hl ret
  have hown : s.vm.findClass RX11 = some m.cls := hown
  have hD : aD A [] := hD
  have hl : lv_has ls 6 [(0, .long x0), (2, .long x1), (4, .long x2)] := hl
  unfold mX11_in at hf
  refine lv_lload_n hx hb dX11_in_0 rfl (lv_at hl 0 rfl) ?_
  refine lv_lload_n hx hb dX11_in_1 rfl (lv_at hl 1 rfl) ?_
  refine W.lcmp hx hb dX11_in_2 ?_
  refine lv_if_lt (tgt := 17) hx hb dX11_in_3 (by decide) (fun c1 => ?_) (fun c1 => ?_)
  · have hf := xt hf c1
    refine lv_iconst (v := (0 : Int32)) hx hb dX11_in_17 (by decide) ?_
    obtain rfl := Option.some.inj hf
    exact ret H _ ls _ (show narrow .boolean (.int (0 : Int32)) = .int (0 : Int32) from rfl) hP hD hS dX11_in_18
  · have hf := xf hf c1
    refine lv_lload_n hx hb dX11_in_6 rfl (lv_at hl 0 rfl) ?_
    refine lv_lload hx hb dX11_in_7 (lv_at hl 2 rfl) ?_
    refine W.lcmp hx hb dX11_in_9 ?_
    refine lv_if_gt (tgt := 17) hx hb dX11_in_10 (by decide) (fun c2 => ?_) (fun c2 => ?_)
    · have hf := xt hf c2
      refine lv_iconst (v := (0 : Int32)) hx hb dX11_in_17 (by decide) ?_
      obtain rfl := Option.some.inj hf
      exact ret H _ ls _ (show narrow .boolean (.int (0 : Int32)) = .int (0 : Int32) from rfl) hP hD hS dX11_in_18
    · have hf := xf hf c2
      refine lv_iconst (v := (1 : Int32)) hx hb dX11_in_13 (by decide) ?_
      refine lv_goto (tgt := 18) hx hb dX11_in_14 (by decide) ?_
      obtain rfl := Option.some.inj hf
      exact ret H _ ls _ (show narrow .boolean (.int (1 : Int32)) = .int (1 : Int32) from rfl) hP hD hS dX11_in_18
def mX11_noFight_B38 (x0 : Int32) (k38 : Int32 → (Nat → Int32) → (Nat → Int32) → (Nat → Int32) → (Nat → Int32) → (Nat → Int32) → (Nat → Int32) → (Nat → Int32) → (Nat → Int32) → Option ((Nat → Int32) × (Nat → Int32) × (Nat → Int32) × (Nat → Int32) × (Nat → Int32) × (Nat → Int32) × (Nat → Int32) × (Nat → Int32))) (l2 : Int32) (f_roundMany : Nat → Int32) (f_blowMany : Nat → Int32) (f_judgeMany : Nat → Int32) (f_homes : Nat → Int32) (f_noises : Nat → Int32) (f_forwards : Nat → Int32) (f_downs : Nat → Int32) (f_takens : Nat → Int32) :
  Option ((Nat → Int32) × (Nat → Int32) × (Nat → Int32) × (Nat → Int32) × (Nat → Int32) × (Nat → Int32) × (Nat → Int32) × (Nat → Int32)) :=
  if (24 : Int32) ≤ l2 then (some (f_roundMany, f_blowMany, f_judgeMany, f_homes, f_noises, f_forwards, f_downs, f_takens)) else (gi (((24 : Int32) * x0) + l2) 48 <|
  lb (upd f_forwards (((24 : Int32) * x0) + l2).toNatClampNeg (0 : Int32)) fun g13 =>
  gi (((24 : Int32) * x0) + l2) 48 <|
  lb (upd f_downs (((24 : Int32) * x0) + l2).toNatClampNeg (0 : Int32)) fun g15 =>
  gi (((24 : Int32) * x0) + l2) 48 <|
  lb (upd f_takens (((24 : Int32) * x0) + l2).toNatClampNeg (0 : Int32)) fun g17 =>
  lb (l2 + (1 : Int32)) fun v18 =>
  k38 v18 f_roundMany f_blowMany f_judgeMany f_homes f_noises g13 g15 g17)
def mX11_noFight_L38 (x0 : Int32) (n : Nat) (l2 : Int32) (f_roundMany : Nat → Int32) (f_blowMany : Nat → Int32) (f_judgeMany : Nat → Int32) (f_homes : Nat → Int32) (f_noises : Nat → Int32) (f_forwards : Nat → Int32) (f_downs : Nat → Int32) (f_takens : Nat → Int32) :
  Option ((Nat → Int32) × (Nat → Int32) × (Nat → Int32) × (Nat → Int32) × (Nat → Int32) × (Nat → Int32) × (Nat → Int32) × (Nat → Int32)) :=
  loopN (fun k (s : Int32 × (Nat → Int32) × (Nat → Int32) × (Nat → Int32) × (Nat → Int32) × (Nat → Int32) × (Nat → Int32) × (Nat → Int32) × (Nat → Int32)) => mX11_noFight_B38 x0  (fun l2 f_roundMany f_blowMany f_judgeMany f_homes f_noises f_forwards f_downs f_takens => k (l2, f_roundMany, f_blowMany, f_judgeMany, f_homes, f_noises, f_forwards, f_downs, f_takens)) s.1 s.2.1 s.2.2.1 s.2.2.2.1 s.2.2.2.2.1 s.2.2.2.2.2.1 s.2.2.2.2.2.2.1 s.2.2.2.2.2.2.2.1 s.2.2.2.2.2.2.2.2) n (l2, f_roundMany, f_blowMany, f_judgeMany, f_homes, f_noises, f_forwards, f_downs, f_takens)
def mX11_noFight (x0 : Int32) (f_blowMany : Nat → Int32) (f_downs : Nat → Int32) (f_forwards : Nat → Int32) (f_homes : Nat → Int32) (f_judgeMany : Nat → Int32) (f_noises : Nat → Int32) (f_roundMany : Nat → Int32) (f_takens : Nat → Int32) :
  Option ((Nat → Int32) × (Nat → Int32) × (Nat → Int32) × (Nat → Int32) × (Nat → Int32) × (Nat → Int32) × (Nat → Int32) × (Nat → Int32)) :=
  gi x0 2 <|
  lb (upd f_roundMany x0.toNatClampNeg (12 : Int32)) fun g2 =>
  gi x0 2 <|
  lb (upd f_blowMany x0.toNatClampNeg (0 : Int32)) fun g4 =>
  gi x0 2 <|
  lb (upd f_judgeMany x0.toNatClampNeg (0 : Int32)) fun g6 =>
  gi x0 2 <|
  lb (upd f_homes x0.toNatClampNeg (0 : Int32)) fun g8 =>
  gi x0 2 <|
  lb (upd f_noises x0.toNatClampNeg (0 : Int32)) fun g10 =>
  mX11_noFight_L38 x0  FUEL (0 : Int32) g2 g4 g6 g8 g10 f_forwards f_downs f_takens
theorem hdsX11_noFight : yX11_noFight.cls ≠ "java/lang/invoke/MethodHandle" ∧ yX11_noFight.cls ≠ "java/lang/invoke/VarHandle" ∧ (parseMethodDescriptor yX11_noFight.desc).map (fun d => d.parameters.length) = some 1 := by decide +kernel
theorem hdvX11_noFight : yX11_noFight.cls = RX11 ∧ yX11_noFight.cls ≠ "java/lang/invoke/MethodHandle" ∧ yX11_noFight.cls ≠ "java/lang/invoke/VarHandle" ∧ (parseMethodDescriptor yX11_noFight.desc).map (fun d => d.parameters.length) = some 1 := by decide +kernel
abbrev rmX11_noFight : Room := { frames := 0, cells := 0, slots := 0, locals := 0 }
set_option maxHeartbeats 4000000 in
set_option maxRecDepth 100000 in
theorem qX11_noFight (l : Launch) (X : XT) (a_this : Nat) (a_blowMany : Nat) (a_downs : Nat) (a_forwards : Nat) (a_homes : Nat) (a_judgeMany : Nat) (a_noises : Nat) (a_roundMany : Nat) (a_takens : Nat) (a_text : Nat) (a_blows : Nat) (a_judges : Nat) (a_delays : Nat) (a_tolds : Nat) (a_tens : Nat) (a_told : Nat) (a_ways : Nat) (a_nextWays : Nat) (a_tallies : Nat) (a_presses : Nat) (a_values : Nat) (a_nextValues : Nat)  (i_length : Int32) (i_keptMany : Int32) (i_place : Int32) (f_blowMany : Nat → Int32) (f_downs : Nat → Int32) (f_forwards : Nat → Int32) (f_homes : Nat → Int32) (f_judgeMany : Nat → Int32) (f_noises : Nat → Int32) (f_roundMany : Nat → Int32) (f_takens : Nat → Int32) (x0 : Int32) (o : (Nat → Int32) × (Nat → Int32) × (Nat → Int32) × (Nat → Int32) × (Nat → Int32) × (Nat → Int32) × (Nat → Int32) × (Nat → Int32)) (hf : mX11_noFight x0 f_blowMany f_downs f_forwards f_homes f_judgeMany f_noises f_roundMany f_takens = some o) :
    MC l yX11_noFight wsX11_noFight rmX11_noFight X [.ref a_this, .int x0] [(a_this, .inr (11, [.int i_length, .ref a_text, .ref a_roundMany, .ref a_blowMany, .ref a_blows, .ref a_forwards, .ref a_downs, .ref a_takens, .ref a_homes, .ref a_noises, .ref a_judgeMany, .ref a_judges, .ref a_delays, .ref a_tolds, .ref a_tens, .int i_keptMany, .int i_place, .ref a_told, .ref a_ways, .ref a_nextWays, .ref a_tallies, .ref a_presses, .ref a_values, .ref a_nextValues])), (a_blowMany, .inl (X.2.1 0, 2, .inl f_blowMany)), (a_downs, .inl (X.2.1 0, 48, .inl f_downs)), (a_forwards, .inl (X.2.1 0, 48, .inl f_forwards)), (a_homes, .inl (X.2.1 0, 2, .inl f_homes)), (a_judgeMany, .inl (X.2.1 0, 2, .inl f_judgeMany)), (a_noises, .inl (X.2.1 0, 2, .inl f_noises)), (a_roundMany, .inl (X.2.1 0, 2, .inl f_roundMany)), (a_takens, .inl (X.2.1 0, 48, .inl f_takens))]  (fun _ => [(a_this, .inr (11, [.int i_length, .ref a_text, .ref a_roundMany, .ref a_blowMany, .ref a_blows, .ref a_forwards, .ref a_downs, .ref a_takens, .ref a_homes, .ref a_noises, .ref a_judgeMany, .ref a_judges, .ref a_delays, .ref a_tolds, .ref a_tens, .int i_keptMany, .int i_place, .ref a_told, .ref a_ways, .ref a_nextWays, .ref a_tallies, .ref a_presses, .ref a_values, .ref a_nextValues])), (a_blowMany, .inl (X.2.1 0, 2, .inl o.2.1)), (a_downs, .inl (X.2.1 0, 48, .inl o.2.2.2.2.2.2.1)), (a_forwards, .inl (X.2.1 0, 48, .inl o.2.2.2.2.2.1)), (a_homes, .inl (X.2.1 0, 2, .inl o.2.2.2.1)), (a_judgeMany, .inl (X.2.1 0, 2, .inl o.2.2.1)), (a_noises, .inl (X.2.1 0, 2, .inl o.2.2.2.2.1)), (a_roundMany, .inl (X.2.1 0, 2, .inl o.1)), (a_takens, .inl (X.2.1 0, 48, .inl o.2.2.2.2.2.2.2))]) 0 0 := by
  refine MC_ofH (cc := cX11_noFight) (maxL := 3) (by decide) rfl (Nat.le_of_ble_eq_true rfl) ?_
  intro p e s m below meth c A Q H ls hx hb hml hts hown hin hA hD hG hP hS hl ret
  have hown : s.vm.findClass RX11 = some m.cls := hown
  have hD : aD A [a_this, a_blowMany, a_downs, a_forwards, a_homes, a_judgeMany, a_noises, a_roundMany, a_takens] := hD
  have hl : lv_has ls 3 [(0, .ref a_this), (1, .int x0)] := hl
  have w1 := hts (.fieldLink RX11 13 "ThreeCardsModel" "roundMany" "[I") (List.mem_of_getElem? (i := 1) rfl)
  have w2 := hts (.fieldLink RX11 16 "ThreeCardsModel" "blowMany" "[I") (List.mem_of_getElem? (i := 2) rfl)
  have w3 := hts (.fieldLink RX11 37 "ThreeCardsModel" "judgeMany" "[I") (List.mem_of_getElem? (i := 3) rfl)
  have w4 := hts (.fieldLink RX11 31 "ThreeCardsModel" "homes" "[I") (List.mem_of_getElem? (i := 4) rfl)
  have w5 := hts (.fieldLink RX11 34 "ThreeCardsModel" "noises" "[I") (List.mem_of_getElem? (i := 5) rfl)
  have w6 := hts (.fieldLink RX11 22 "ThreeCardsModel" "forwards" "[I") (List.mem_of_getElem? (i := 6) rfl)
  have w7 := hts (.fieldLink RX11 25 "ThreeCardsModel" "downs" "[I") (List.mem_of_getElem? (i := 7) rfl)
  have w8 := hts (.fieldLink RX11 28 "ThreeCardsModel" "takens" "[I") (List.mem_of_getElem? (i := 8) rfl)
  have in11 : ∀ w ∈ u_ws RX11 TX11 24, w ∈ wsX11_noFight := by decide +kernel
  have hL38 : ∀ (n : Nat) (l2 : Int32) (f_roundMany : Nat → Int32) (f_blowMany : Nat → Int32) (f_judgeMany : Nat → Int32) (f_homes : Nat → Int32) (f_noises : Nat → Int32) (f_forwards : Nat → Int32) (f_downs : Nat → Int32) (f_takens : Nat → Int32)  (H : Heap) (locs : List Loc) (ls : Array Slot), va_P X.1 vwCl [(a_this, .inr (11, [.int i_length, .ref a_text, .ref a_roundMany, .ref a_blowMany, .ref a_blows, .ref a_forwards, .ref a_downs, .ref a_takens, .ref a_homes, .ref a_noises, .ref a_judgeMany, .ref a_judges, .ref a_delays, .ref a_tolds, .ref a_tens, .int i_keptMany, .int i_place, .ref a_told, .ref a_ways, .ref a_nextWays, .ref a_tallies, .ref a_presses, .ref a_values, .ref a_nextValues])), (a_blowMany, .inl (X.2.1 0, 2, .inl f_blowMany)), (a_downs, .inl (X.2.1 0, 48, .inl f_downs)), (a_forwards, .inl (X.2.1 0, 48, .inl f_forwards)), (a_homes, .inl (X.2.1 0, 2, .inl f_homes)), (a_judgeMany, .inl (X.2.1 0, 2, .inl f_judgeMany)), (a_noises, .inl (X.2.1 0, 2, .inl f_noises)), (a_roundMany, .inl (X.2.1 0, 2, .inl f_roundMany)), (a_takens, .inl (X.2.1 0, 48, .inl f_takens))] H → va_S A s.heap H locs → lv_has ls 3 [(0, .ref a_this), (1, .int x0), (2, .int l2)] → mX11_noFight_L38 x0  n l2 f_roundMany f_blowMany f_judgeMany f_homes f_noises f_forwards f_downs f_takens = some o → W p l e rmX11_noFight s m ([.ref a_this, .int x0] : List Value).toArray below meth c H locs 0 0 Q (F0 m 38 ls []) := by
    intro n
    induction n with
    | zero => intro l2 f_roundMany f_blowMany f_judgeMany f_homes f_noises f_forwards f_downs f_takens  H locs ls hP hS hl hf; exact xn hf
    | succ n ih =>
      intro l2 f_roundMany f_blowMany f_judgeMany f_homes f_noises f_forwards f_downs f_takens  H locs ls hP hS hl hf
      have hf : mX11_noFight_B38 x0  (mX11_noFight_L38 x0  n) l2 f_roundMany f_blowMany f_judgeMany f_homes f_noises f_forwards f_downs f_takens = some o := hf
      generalize mX11_noFight_L38 x0  n = k38 at ih hf
      unfold mX11_noFight_B38 at hf
      refine lv_iload_n hx hb dX11_noFight_38 rfl (lv_at hl 2 rfl) ?_
      refine lv_bipush (v := (24 : Int32)) hx hb dX11_noFight_39 (by decide) ?_
      refine lv_icmp_ge (tgt := 86) hx hb dX11_noFight_41 (by decide) (fun c11 => ?_) (fun c11 => ?_)
      · have hf := xt hf c11
        obtain rfl := Option.some.inj hf
        exact ret (fun _ => 0) H _ ls _ hP hD hS dX11_noFight_86
      · have hf := xf hf c11
        refine lv_aload_n hx hb dX11_noFight_44 rfl (lv_at hl 0 rfl) ?_
        refine va_get (D := X.1) (ci := 11) (v := .ref a_forwards) (C := RX11) (T := TX11) (N := 24) hx hb hts in11 hown hG.1 hP 0 rfl rfl 5 (by decide) w6 (fun _ h9 => h9) rfl dX11_noFight_45 ?_
        refine lv_bipush (v := (24 : Int32)) hx hb dX11_noFight_48 (by decide) ?_
        refine lv_iload_n hx hb dX11_noFight_50 rfl (lv_at hl 1 rfl) ?_
        refine lv_imul hx hb dX11_noFight_51 ?_
        refine lv_iload_n hx hb dX11_noFight_52 rfl (lv_at hl 2 rfl) ?_
        refine lv_iadd hx hb dX11_noFight_53 ?_
        refine lv_iconst (v := (0 : Int32)) hx hb dX11_noFight_54 (by decide) ?_
        obtain ⟨h12, hf⟩ := gi_s hf
        obtain ⟨g13, eg13, hf⟩ := lb_g hf
        refine x_iast (ws' := [(a_this, .inr (11, [.int i_length, .ref a_text, .ref a_roundMany, .ref a_blowMany, .ref a_blows, .ref a_forwards, .ref a_downs, .ref a_takens, .ref a_homes, .ref a_noises, .ref a_judgeMany, .ref a_judges, .ref a_delays, .ref a_tolds, .ref a_tens, .int i_keptMany, .int i_place, .ref a_told, .ref a_ways, .ref a_nextWays, .ref a_tallies, .ref a_presses, .ref a_values, .ref a_nextValues])), (a_blowMany, .inl (X.2.1 0, 2, .inl f_blowMany)), (a_downs, .inl (X.2.1 0, 48, .inl f_downs)), (a_forwards, .inl (X.2.1 0, 48, .inl g13)), (a_homes, .inl (X.2.1 0, 2, .inl f_homes)), (a_judgeMany, .inl (X.2.1 0, 2, .inl f_judgeMany)), (a_noises, .inl (X.2.1 0, 2, .inl f_noises)), (a_roundMany, .inl (X.2.1 0, 2, .inl f_roundMany)), (a_takens, .inl (X.2.1 0, 48, .inl f_takens))]) hx hb hG hP hD rfl hS 3 rfl h12 dX11_noFight_55 eg13 rfl (fun H locs hP hS => ?_)
        refine lv_aload_n hx hb dX11_noFight_56 rfl (lv_at hl 0 rfl) ?_
        refine va_get (D := X.1) (ci := 11) (v := .ref a_downs) (C := RX11) (T := TX11) (N := 24) hx hb hts in11 hown hG.1 hP 0 rfl rfl 6 (by decide) w7 (fun _ h9 => h9) rfl dX11_noFight_57 ?_
        refine lv_bipush (v := (24 : Int32)) hx hb dX11_noFight_60 (by decide) ?_
        refine lv_iload_n hx hb dX11_noFight_62 rfl (lv_at hl 1 rfl) ?_
        refine lv_imul hx hb dX11_noFight_63 ?_
        refine lv_iload_n hx hb dX11_noFight_64 rfl (lv_at hl 2 rfl) ?_
        refine lv_iadd hx hb dX11_noFight_65 ?_
        refine lv_iconst (v := (0 : Int32)) hx hb dX11_noFight_66 (by decide) ?_
        obtain ⟨h14, hf⟩ := gi_s hf
        obtain ⟨g15, eg15, hf⟩ := lb_g hf
        refine x_iast (ws' := [(a_this, .inr (11, [.int i_length, .ref a_text, .ref a_roundMany, .ref a_blowMany, .ref a_blows, .ref a_forwards, .ref a_downs, .ref a_takens, .ref a_homes, .ref a_noises, .ref a_judgeMany, .ref a_judges, .ref a_delays, .ref a_tolds, .ref a_tens, .int i_keptMany, .int i_place, .ref a_told, .ref a_ways, .ref a_nextWays, .ref a_tallies, .ref a_presses, .ref a_values, .ref a_nextValues])), (a_blowMany, .inl (X.2.1 0, 2, .inl f_blowMany)), (a_downs, .inl (X.2.1 0, 48, .inl g15)), (a_forwards, .inl (X.2.1 0, 48, .inl g13)), (a_homes, .inl (X.2.1 0, 2, .inl f_homes)), (a_judgeMany, .inl (X.2.1 0, 2, .inl f_judgeMany)), (a_noises, .inl (X.2.1 0, 2, .inl f_noises)), (a_roundMany, .inl (X.2.1 0, 2, .inl f_roundMany)), (a_takens, .inl (X.2.1 0, 48, .inl f_takens))]) hx hb hG hP hD rfl hS 2 rfl h14 dX11_noFight_67 eg15 rfl (fun H locs hP hS => ?_)
        refine lv_aload_n hx hb dX11_noFight_68 rfl (lv_at hl 0 rfl) ?_
        refine va_get (D := X.1) (ci := 11) (v := .ref a_takens) (C := RX11) (T := TX11) (N := 24) hx hb hts in11 hown hG.1 hP 0 rfl rfl 7 (by decide) w8 (fun _ h9 => h9) rfl dX11_noFight_69 ?_
        refine lv_bipush (v := (24 : Int32)) hx hb dX11_noFight_72 (by decide) ?_
        refine lv_iload_n hx hb dX11_noFight_74 rfl (lv_at hl 1 rfl) ?_
        refine lv_imul hx hb dX11_noFight_75 ?_
        refine lv_iload_n hx hb dX11_noFight_76 rfl (lv_at hl 2 rfl) ?_
        refine lv_iadd hx hb dX11_noFight_77 ?_
        refine lv_iconst (v := (0 : Int32)) hx hb dX11_noFight_78 (by decide) ?_
        obtain ⟨h16, hf⟩ := gi_s hf
        obtain ⟨g17, eg17, hf⟩ := lb_g hf
        refine x_iast (ws' := [(a_this, .inr (11, [.int i_length, .ref a_text, .ref a_roundMany, .ref a_blowMany, .ref a_blows, .ref a_forwards, .ref a_downs, .ref a_takens, .ref a_homes, .ref a_noises, .ref a_judgeMany, .ref a_judges, .ref a_delays, .ref a_tolds, .ref a_tens, .int i_keptMany, .int i_place, .ref a_told, .ref a_ways, .ref a_nextWays, .ref a_tallies, .ref a_presses, .ref a_values, .ref a_nextValues])), (a_blowMany, .inl (X.2.1 0, 2, .inl f_blowMany)), (a_downs, .inl (X.2.1 0, 48, .inl g15)), (a_forwards, .inl (X.2.1 0, 48, .inl g13)), (a_homes, .inl (X.2.1 0, 2, .inl f_homes)), (a_judgeMany, .inl (X.2.1 0, 2, .inl f_judgeMany)), (a_noises, .inl (X.2.1 0, 2, .inl f_noises)), (a_roundMany, .inl (X.2.1 0, 2, .inl f_roundMany)), (a_takens, .inl (X.2.1 0, 48, .inl g17))]) hx hb hG hP hD rfl hS 8 rfl h16 dX11_noFight_79 eg17 rfl (fun H locs hP hS => ?_)
        obtain ⟨v18, ev18, hf⟩ := lb_g hf
        refine lv_iinc (v := v18) (lv' := [(2, .int v18), (0, .ref a_this), (1, .int x0)]) hx hb dX11_noFight_80 hl (k := 2) rfl ev18.symm (by decide) rfl (fun ls hl => ?_)
        refine lv_goto (tgt := 38) hx hb dX11_noFight_83 (by decide) ?_
        exact ih v18 f_roundMany f_blowMany f_judgeMany f_homes f_noises g13 g15 g17  H _ ls hP  hS (lv_sub hl [1, 2, 0] rfl) hf
  unfold mX11_noFight at hf
  refine lv_aload_n hx hb dX11_noFight_0 rfl (lv_at hl 0 rfl) ?_
  refine va_get (D := X.1) (ci := 11) (v := .ref a_roundMany) (C := RX11) (T := TX11) (N := 24) hx hb hts in11 hown hG.1 hP 0 rfl rfl 2 (by decide) w1 (fun _ h9 => h9) rfl dX11_noFight_1 ?_
  refine lv_iload_n hx hb dX11_noFight_4 rfl (lv_at hl 1 rfl) ?_
  refine lv_bipush (v := (12 : Int32)) hx hb dX11_noFight_5 (by decide) ?_
  obtain ⟨h1, hf⟩ := gi_s hf
  obtain ⟨g2, eg2, hf⟩ := lb_g hf
  refine x_iast (ws' := [(a_this, .inr (11, [.int i_length, .ref a_text, .ref a_roundMany, .ref a_blowMany, .ref a_blows, .ref a_forwards, .ref a_downs, .ref a_takens, .ref a_homes, .ref a_noises, .ref a_judgeMany, .ref a_judges, .ref a_delays, .ref a_tolds, .ref a_tens, .int i_keptMany, .int i_place, .ref a_told, .ref a_ways, .ref a_nextWays, .ref a_tallies, .ref a_presses, .ref a_values, .ref a_nextValues])), (a_blowMany, .inl (X.2.1 0, 2, .inl f_blowMany)), (a_downs, .inl (X.2.1 0, 48, .inl f_downs)), (a_forwards, .inl (X.2.1 0, 48, .inl f_forwards)), (a_homes, .inl (X.2.1 0, 2, .inl f_homes)), (a_judgeMany, .inl (X.2.1 0, 2, .inl f_judgeMany)), (a_noises, .inl (X.2.1 0, 2, .inl f_noises)), (a_roundMany, .inl (X.2.1 0, 2, .inl g2)), (a_takens, .inl (X.2.1 0, 48, .inl f_takens))]) hx hb hG hP hD rfl hS 7 rfl h1 dX11_noFight_7 eg2 rfl (fun H locs hP hS => ?_)
  refine lv_aload_n hx hb dX11_noFight_8 rfl (lv_at hl 0 rfl) ?_
  refine va_get (D := X.1) (ci := 11) (v := .ref a_blowMany) (C := RX11) (T := TX11) (N := 24) hx hb hts in11 hown hG.1 hP 0 rfl rfl 3 (by decide) w2 (fun _ h9 => h9) rfl dX11_noFight_9 ?_
  refine lv_iload_n hx hb dX11_noFight_12 rfl (lv_at hl 1 rfl) ?_
  refine lv_iconst (v := (0 : Int32)) hx hb dX11_noFight_13 (by decide) ?_
  obtain ⟨h3, hf⟩ := gi_s hf
  obtain ⟨g4, eg4, hf⟩ := lb_g hf
  refine x_iast (ws' := [(a_this, .inr (11, [.int i_length, .ref a_text, .ref a_roundMany, .ref a_blowMany, .ref a_blows, .ref a_forwards, .ref a_downs, .ref a_takens, .ref a_homes, .ref a_noises, .ref a_judgeMany, .ref a_judges, .ref a_delays, .ref a_tolds, .ref a_tens, .int i_keptMany, .int i_place, .ref a_told, .ref a_ways, .ref a_nextWays, .ref a_tallies, .ref a_presses, .ref a_values, .ref a_nextValues])), (a_blowMany, .inl (X.2.1 0, 2, .inl g4)), (a_downs, .inl (X.2.1 0, 48, .inl f_downs)), (a_forwards, .inl (X.2.1 0, 48, .inl f_forwards)), (a_homes, .inl (X.2.1 0, 2, .inl f_homes)), (a_judgeMany, .inl (X.2.1 0, 2, .inl f_judgeMany)), (a_noises, .inl (X.2.1 0, 2, .inl f_noises)), (a_roundMany, .inl (X.2.1 0, 2, .inl g2)), (a_takens, .inl (X.2.1 0, 48, .inl f_takens))]) hx hb hG hP hD rfl hS 1 rfl h3 dX11_noFight_14 eg4 rfl (fun H locs hP hS => ?_)
  refine lv_aload_n hx hb dX11_noFight_15 rfl (lv_at hl 0 rfl) ?_
  refine va_get (D := X.1) (ci := 11) (v := .ref a_judgeMany) (C := RX11) (T := TX11) (N := 24) hx hb hts in11 hown hG.1 hP 0 rfl rfl 10 (by decide) w3 (fun _ h9 => h9) rfl dX11_noFight_16 ?_
  refine lv_iload_n hx hb dX11_noFight_19 rfl (lv_at hl 1 rfl) ?_
  refine lv_iconst (v := (0 : Int32)) hx hb dX11_noFight_20 (by decide) ?_
  obtain ⟨h5, hf⟩ := gi_s hf
  obtain ⟨g6, eg6, hf⟩ := lb_g hf
  refine x_iast (ws' := [(a_this, .inr (11, [.int i_length, .ref a_text, .ref a_roundMany, .ref a_blowMany, .ref a_blows, .ref a_forwards, .ref a_downs, .ref a_takens, .ref a_homes, .ref a_noises, .ref a_judgeMany, .ref a_judges, .ref a_delays, .ref a_tolds, .ref a_tens, .int i_keptMany, .int i_place, .ref a_told, .ref a_ways, .ref a_nextWays, .ref a_tallies, .ref a_presses, .ref a_values, .ref a_nextValues])), (a_blowMany, .inl (X.2.1 0, 2, .inl g4)), (a_downs, .inl (X.2.1 0, 48, .inl f_downs)), (a_forwards, .inl (X.2.1 0, 48, .inl f_forwards)), (a_homes, .inl (X.2.1 0, 2, .inl f_homes)), (a_judgeMany, .inl (X.2.1 0, 2, .inl g6)), (a_noises, .inl (X.2.1 0, 2, .inl f_noises)), (a_roundMany, .inl (X.2.1 0, 2, .inl g2)), (a_takens, .inl (X.2.1 0, 48, .inl f_takens))]) hx hb hG hP hD rfl hS 5 rfl h5 dX11_noFight_21 eg6 rfl (fun H locs hP hS => ?_)
  refine lv_aload_n hx hb dX11_noFight_22 rfl (lv_at hl 0 rfl) ?_
  refine va_get (D := X.1) (ci := 11) (v := .ref a_homes) (C := RX11) (T := TX11) (N := 24) hx hb hts in11 hown hG.1 hP 0 rfl rfl 8 (by decide) w4 (fun _ h9 => h9) rfl dX11_noFight_23 ?_
  refine lv_iload_n hx hb dX11_noFight_26 rfl (lv_at hl 1 rfl) ?_
  refine lv_iconst (v := (0 : Int32)) hx hb dX11_noFight_27 (by decide) ?_
  obtain ⟨h7, hf⟩ := gi_s hf
  obtain ⟨g8, eg8, hf⟩ := lb_g hf
  refine x_iast (ws' := [(a_this, .inr (11, [.int i_length, .ref a_text, .ref a_roundMany, .ref a_blowMany, .ref a_blows, .ref a_forwards, .ref a_downs, .ref a_takens, .ref a_homes, .ref a_noises, .ref a_judgeMany, .ref a_judges, .ref a_delays, .ref a_tolds, .ref a_tens, .int i_keptMany, .int i_place, .ref a_told, .ref a_ways, .ref a_nextWays, .ref a_tallies, .ref a_presses, .ref a_values, .ref a_nextValues])), (a_blowMany, .inl (X.2.1 0, 2, .inl g4)), (a_downs, .inl (X.2.1 0, 48, .inl f_downs)), (a_forwards, .inl (X.2.1 0, 48, .inl f_forwards)), (a_homes, .inl (X.2.1 0, 2, .inl g8)), (a_judgeMany, .inl (X.2.1 0, 2, .inl g6)), (a_noises, .inl (X.2.1 0, 2, .inl f_noises)), (a_roundMany, .inl (X.2.1 0, 2, .inl g2)), (a_takens, .inl (X.2.1 0, 48, .inl f_takens))]) hx hb hG hP hD rfl hS 4 rfl h7 dX11_noFight_28 eg8 rfl (fun H locs hP hS => ?_)
  refine lv_aload_n hx hb dX11_noFight_29 rfl (lv_at hl 0 rfl) ?_
  refine va_get (D := X.1) (ci := 11) (v := .ref a_noises) (C := RX11) (T := TX11) (N := 24) hx hb hts in11 hown hG.1 hP 0 rfl rfl 9 (by decide) w5 (fun _ h9 => h9) rfl dX11_noFight_30 ?_
  refine lv_iload_n hx hb dX11_noFight_33 rfl (lv_at hl 1 rfl) ?_
  refine lv_iconst (v := (0 : Int32)) hx hb dX11_noFight_34 (by decide) ?_
  obtain ⟨h9, hf⟩ := gi_s hf
  obtain ⟨g10, eg10, hf⟩ := lb_g hf
  refine x_iast (ws' := [(a_this, .inr (11, [.int i_length, .ref a_text, .ref a_roundMany, .ref a_blowMany, .ref a_blows, .ref a_forwards, .ref a_downs, .ref a_takens, .ref a_homes, .ref a_noises, .ref a_judgeMany, .ref a_judges, .ref a_delays, .ref a_tolds, .ref a_tens, .int i_keptMany, .int i_place, .ref a_told, .ref a_ways, .ref a_nextWays, .ref a_tallies, .ref a_presses, .ref a_values, .ref a_nextValues])), (a_blowMany, .inl (X.2.1 0, 2, .inl g4)), (a_downs, .inl (X.2.1 0, 48, .inl f_downs)), (a_forwards, .inl (X.2.1 0, 48, .inl f_forwards)), (a_homes, .inl (X.2.1 0, 2, .inl g8)), (a_judgeMany, .inl (X.2.1 0, 2, .inl g6)), (a_noises, .inl (X.2.1 0, 2, .inl g10)), (a_roundMany, .inl (X.2.1 0, 2, .inl g2)), (a_takens, .inl (X.2.1 0, 48, .inl f_takens))]) hx hb hG hP hD rfl hS 6 rfl h9 dX11_noFight_35 eg10 rfl (fun H locs hP hS => ?_)
  refine lv_iconst (v := (0 : Int32)) hx hb dX11_noFight_36 (by decide) ?_
  refine lv_istore_n (lv' := [(2, .int (0 : Int32)), (0, .ref a_this), (1, .int x0)]) hx hb dX11_noFight_37 rfl hl (by decide) rfl (fun ls hl => ?_)
  exact hL38  FUEL (0 : Int32) g2 g4 g6 g8 g10 f_forwards f_downs f_takens  H _ ls hP  hS (lv_sub hl [1, 2, 0] rfl) hf
def mX11_write_B34 (x0 : Int32) (x1 : Int64) (k34 : Int32 → (Nat → Int32) → Int32 → Option (Int32 × (Nat → Int32) × Int32)) (l4 : Int32) (f_text : Nat → Int32) (i_length : Int32) :
  Option (Int32 × (Nat → Int32) × Int32) :=
  if l4 < 0 then (some (i_length, f_text, i_length)) else (gi i_length 500 <|
  lb (upd f_text i_length.toNatClampNeg (Int64.toInt32 ((x1 >>> (Int32.toInt64 ((8 : Int32) * l4) &&& 63)) &&& (255 : Int64)))) fun g8 =>
  lb (i_length + (1 : Int32)) fun v9 =>
  lb (l4 + (-1 : Int32)) fun v10 =>
  k34 v10 g8 v9)
def mX11_write_L34 (x0 : Int32) (x1 : Int64) (n : Nat) (l4 : Int32) (f_text : Nat → Int32) (i_length : Int32) :
  Option (Int32 × (Nat → Int32) × Int32) :=
  loopN (fun k (s : Int32 × (Nat → Int32) × Int32) => mX11_write_B34 x0 x1  (fun l4 f_text i_length => k (l4, f_text, i_length)) s.1 s.2.1 s.2.2) n (l4, f_text, i_length)
def mX11_write (x0 : Int32) (x1 : Int64) (i_length : Int32) (f_text : Nat → Int32) :
  Option (Int32 × (Nat → Int32) × Int32) :=
  (mX11_in (Int32.toInt64 x0) (1 : Int64) (8 : Int64)).bind fun o1 =>
  if o1 = 0 then (some ((-1 : Int32), f_text, i_length)) else (if (i_length + x0) ≤ (500 : Int32) then (lb (x0 - (1 : Int32)) fun v5 =>
  mX11_write_L34 x0 x1  FUEL v5 f_text i_length) else (some ((-3 : Int32), f_text, i_length)))
theorem hdsX11_write : yX11_write.cls ≠ "java/lang/invoke/MethodHandle" ∧ yX11_write.cls ≠ "java/lang/invoke/VarHandle" ∧ (parseMethodDescriptor yX11_write.desc).map (fun d => d.parameters.length) = some 2 := by decide +kernel
theorem hdvX11_write : yX11_write.cls = RX11 ∧ yX11_write.cls ≠ "java/lang/invoke/MethodHandle" ∧ yX11_write.cls ≠ "java/lang/invoke/VarHandle" ∧ (parseMethodDescriptor yX11_write.desc).map (fun d => d.parameters.length) = some 2 := by decide +kernel
abbrev rmX11_write : Room := { frames := 1, cells := 0, slots := 0, locals := 25 }
set_option maxHeartbeats 4000000 in
set_option maxRecDepth 100000 in
theorem qX11_write (l : Launch) (X : XT) (a_this : Nat) (a_text : Nat) (a_roundMany : Nat) (a_blowMany : Nat) (a_blows : Nat) (a_forwards : Nat) (a_downs : Nat) (a_takens : Nat) (a_homes : Nat) (a_noises : Nat) (a_judgeMany : Nat) (a_judges : Nat) (a_delays : Nat) (a_tolds : Nat) (a_tens : Nat) (a_told : Nat) (a_ways : Nat) (a_nextWays : Nat) (a_tallies : Nat) (a_presses : Nat) (a_values : Nat) (a_nextValues : Nat)  (i_length : Int32) (i_keptMany : Int32) (i_place : Int32) (f_text : Nat → Int32) (x0 : Int32) (x1 : Int64) (o : Int32 × (Nat → Int32) × Int32) (hf : mX11_write x0 x1 i_length f_text = some o) :
    MI l yX11_write wsX11_write rmX11_write X [.ref a_this, .int x0, .long x1] [(a_this, .inr (11, [.int i_length, .ref a_text, .ref a_roundMany, .ref a_blowMany, .ref a_blows, .ref a_forwards, .ref a_downs, .ref a_takens, .ref a_homes, .ref a_noises, .ref a_judgeMany, .ref a_judges, .ref a_delays, .ref a_tolds, .ref a_tens, .int i_keptMany, .int i_place, .ref a_told, .ref a_ways, .ref a_nextWays, .ref a_tallies, .ref a_presses, .ref a_values, .ref a_nextValues])), (a_text, .inl (X.2.1 0, 500, .inl f_text))]  [(a_this, .inr (11, [.int o.2.2, .ref a_text, .ref a_roundMany, .ref a_blowMany, .ref a_blows, .ref a_forwards, .ref a_downs, .ref a_takens, .ref a_homes, .ref a_noises, .ref a_judgeMany, .ref a_judges, .ref a_delays, .ref a_tolds, .ref a_tens, .int i_keptMany, .int i_place, .ref a_told, .ref a_ways, .ref a_nextWays, .ref a_tallies, .ref a_presses, .ref a_values, .ref a_nextValues])), (a_text, .inl (X.2.1 0, 500, .inl o.2.1))] o.1 := by
  refine MI_ofH (cc := cX11_write) (maxL := 5) (rt := .int) (by decide) rfl (Nat.le_of_ble_eq_true rfl) ?_
  intro p e s m below meth c A Q H ls hx hb hml hts hown hA hD hG hP hS hl ret
  have hown : s.vm.findClass RX11 = some m.cls := hown
  have hD : aD A [a_this, a_text] := hD
  have hl : lv_has ls 5 [(0, .ref a_this), (1, .int x0), (2, .long x1)] := hl
  have w1 := hts (.constantLong RX11 78 (8)) (List.mem_of_getElem? (i := 1) rfl)
  have w2 := hts (.fieldLink RX11 84 "ThreeCardsModel" "length" "I") (List.mem_of_getElem? (i := 2) rfl)
  have w3 := hts (.fieldLink RX11 7 "ThreeCardsModel" "text" "[I") (List.mem_of_getElem? (i := 3) rfl)
  have w4 := hts (.constantLong RX11 88 (255)) (List.mem_of_getElem? (i := 4) rfl)
  have in11 : ∀ w ∈ u_ws RX11 TX11 24, w ∈ wsX11_write := by decide +kernel
  have hL34 : ∀ (n : Nat) (l4 : Int32) (f_text : Nat → Int32) (i_length : Int32)  (H : Heap) (locs : List Loc) (ls : Array Slot), va_P X.1 vwCl [(a_this, .inr (11, [.int i_length, .ref a_text, .ref a_roundMany, .ref a_blowMany, .ref a_blows, .ref a_forwards, .ref a_downs, .ref a_takens, .ref a_homes, .ref a_noises, .ref a_judgeMany, .ref a_judges, .ref a_delays, .ref a_tolds, .ref a_tens, .int i_keptMany, .int i_place, .ref a_told, .ref a_ways, .ref a_nextWays, .ref a_tallies, .ref a_presses, .ref a_values, .ref a_nextValues])), (a_text, .inl (X.2.1 0, 500, .inl f_text))] H → va_S A s.heap H locs → lv_has ls 5 [(0, .ref a_this), (2, .long x1), (4, .int l4)] → mX11_write_L34 x0 x1  n l4 f_text i_length = some o → W p l e rmX11_write s m ([.ref a_this, .int x0, .long x1] : List Value).toArray below meth c H locs 0 0 Q (F0 m 34 ls []) := by
    intro n
    induction n with
    | zero => intro l4 f_text i_length  H locs ls hP hS hl hf; exact xn hf
    | succ n ih =>
      intro l4 f_text i_length  H locs ls hP hS hl hf
      have hf : mX11_write_B34 x0 x1  (mX11_write_L34 x0 x1  n) l4 f_text i_length = some o := hf
      generalize mX11_write_L34 x0 x1  n = k34 at ih hf
      unfold mX11_write_B34 at hf
      refine lv_iload hx hb dX11_write_34 (lv_at hl 2 rfl) ?_
      refine lv_if_lt (tgt := 76) hx hb dX11_write_36 (by decide) (fun c6 => ?_) (fun c6 => ?_)
      · have hf := xt hf c6
        refine lv_aload_n hx hb dX11_write_76 rfl (lv_at hl 0 rfl) ?_
        refine va_get (D := X.1) (ci := 11) (v := .int i_length) (C := RX11) (T := TX11) (N := 24) hx hb hts in11 hown hG.1 hP 0 rfl rfl 0 (by decide) w2 (fun _ h9 => h9) rfl dX11_write_77 ?_
        obtain rfl := Option.some.inj hf
        exact ret H _ ls _ rfl hP hD hS dX11_write_80
      · have hf := xf hf c6
        refine lv_aload_n hx hb dX11_write_39 rfl (lv_at hl 0 rfl) ?_
        refine va_get (D := X.1) (ci := 11) (v := .ref a_text) (C := RX11) (T := TX11) (N := 24) hx hb hts in11 hown hG.1 hP 0 rfl rfl 1 (by decide) w3 (fun _ h9 => h9) rfl dX11_write_40 ?_
        refine lv_aload_n hx hb dX11_write_43 rfl (lv_at hl 0 rfl) ?_
        refine va_get (D := X.1) (ci := 11) (v := .int i_length) (C := RX11) (T := TX11) (N := 24) hx hb hts in11 hown hG.1 hP 0 rfl rfl 0 (by decide) w2 (fun _ h9 => h9) rfl dX11_write_44 ?_
        refine lv_lload_n hx hb dX11_write_47 rfl (lv_at hl 1 rfl) ?_
        refine lv_bipush (v := (8 : Int32)) hx hb dX11_write_48 (by decide) ?_
        refine lv_iload hx hb dX11_write_50 (lv_at hl 2 rfl) ?_
        refine lv_imul hx hb dX11_write_52 ?_
        refine lv_lshr hx hb dX11_write_53 rfl ?_
        refine lv_ldc2 (v := (255 : Int64)) hx hb hown w4 dX11_write_54 ?_
        refine lv_land hx hb dX11_write_57 ?_
        refine lv_l2i hx hb dX11_write_58 rfl ?_
        obtain ⟨h7, hf⟩ := gi_s hf
        obtain ⟨g8, eg8, hf⟩ := lb_g hf
        refine x_iast (ws' := [(a_this, .inr (11, [.int i_length, .ref a_text, .ref a_roundMany, .ref a_blowMany, .ref a_blows, .ref a_forwards, .ref a_downs, .ref a_takens, .ref a_homes, .ref a_noises, .ref a_judgeMany, .ref a_judges, .ref a_delays, .ref a_tolds, .ref a_tens, .int i_keptMany, .int i_place, .ref a_told, .ref a_ways, .ref a_nextWays, .ref a_tallies, .ref a_presses, .ref a_values, .ref a_nextValues])), (a_text, .inl (X.2.1 0, 500, .inl g8))]) hx hb hG hP hD rfl hS 1 rfl h7 dX11_write_59 eg8 rfl (fun H locs hP hS => ?_)
        refine lv_aload_n hx hb dX11_write_60 rfl (lv_at hl 0 rfl) ?_
        refine lv_dup hx hb dX11_write_61 rfl ?_
        refine va_get (D := X.1) (ci := 11) (v := .int i_length) (C := RX11) (T := TX11) (N := 24) hx hb hts in11 hown hG.1 hP 0 rfl rfl 0 (by decide) w2 (fun _ h9 => h9) rfl dX11_write_62 ?_
        refine lv_iconst (v := (1 : Int32)) hx hb dX11_write_65 (by decide) ?_
        refine lv_iadd hx hb dX11_write_66 ?_
        refine lv_topi (fun v9 ev9 => ?_)
        have hf := lb_s hf ev9
        refine x_put (ws' := [(a_this, .inr (11, [.int v9, .ref a_text, .ref a_roundMany, .ref a_blowMany, .ref a_blows, .ref a_forwards, .ref a_downs, .ref a_takens, .ref a_homes, .ref a_noises, .ref a_judgeMany, .ref a_judges, .ref a_delays, .ref a_tolds, .ref a_tens, .int i_keptMany, .int i_place, .ref a_told, .ref a_ways, .ref a_nextWays, .ref a_tallies, .ref a_presses, .ref a_values, .ref a_nextValues])), (a_text, .inl (X.2.1 0, 500, .inl g8))]) (ty := .int) (C := RX11) (T := TX11) (N := 24) hx hb hts in11 tyX11 tyX11_ok nmX11 hown hG hP hD rfl hS 0 rfl rfl 0 (by decide) w2 rfl (tyX11_ok 0 (by decide)) rfl rfl (Nat.le_of_ble_eq_true rfl) dX11_write_67 rfl (fun H locs hP hS => ?_)
        obtain ⟨v10, ev10, hf⟩ := lb_g hf
        refine lv_iinc (v := v10) (lv' := [(4, .int v10), (0, .ref a_this), (2, .long x1)]) hx hb dX11_write_70 hl (k := 2) rfl ev10.symm (by decide) rfl (fun ls hl => ?_)
        refine lv_goto (tgt := 34) hx hb dX11_write_73 (by decide) ?_
        exact ih v10 g8 v9  H _ ls hP  hS (lv_sub hl [1, 2, 0] rfl) hf
  unfold mX11_write at hf
  refine lv_iload_n hx hb dX11_write_0 rfl (lv_at hl 1 rfl) ?_
  refine lv_i2l hx hb dX11_write_1 rfl ?_
  refine lv_lconst (v := (1 : Int64)) hx hb dX11_write_2 rfl ?_
  refine lv_ldc2 (v := (8 : Int64)) hx hb hown w1 dX11_write_3 ?_
  obtain ⟨o1, ho1, hf⟩ := ob_s hf
  refine xS_i (As := [.long (Int32.toInt64 x0), .long (1 : Int64), .long (8 : Int64)]) (rest := []) (ws2 := [(a_this, .inr (11, [.int i_length, .ref a_text, .ref a_roundMany, .ref a_blowMany, .ref a_blows, .ref a_forwards, .ref a_downs, .ref a_takens, .ref a_homes, .ref a_noises, .ref a_judgeMany, .ref a_judges, .ref a_delays, .ref a_tolds, .ref a_tens, .int i_keptMany, .int i_place, .ref a_told, .ref a_ways, .ref a_nextWays, .ref a_tallies, .ref a_presses, .ref a_values, .ref a_nextValues])), (a_text, .inl (X.2.1 0, 500, .inl f_text))]) hx hb hml hts hown hG hA hP hD rfl hS hl.1 (qX11_in l X (Int32.toInt64 x0) (1 : Int64) (8 : Int64) o1 ho1) (va_cwS (y := yX11_in) 3 hts gX11_write_X11_in rfl rfl rfl hdsX11_in ⟨Nat.le_of_ble_eq_true rfl, Nat.le_of_ble_eq_true rfl⟩) [] [0, 1] [0, 1] rfl rfl rfl rfl rfl rfl rfl rfl rfl (Nat.le_of_ble_eq_true rfl) ⟨Nat.le_of_ble_eq_true rfl, Nat.le_of_ble_eq_true rfl⟩ dX11_write_6 (fun H locs hP _ hS => ?_)
  refine lv_if_ne (tgt := 14) hx hb dX11_write_9 (by decide) (fun c3 => ?_) (fun c3 => ?_)
  · have hf := xf hf c3
    refine lv_aload_n hx hb dX11_write_14 rfl (lv_at hl 0 rfl) ?_
    refine va_get (D := X.1) (ci := 11) (v := .int i_length) (C := RX11) (T := TX11) (N := 24) hx hb hts in11 hown hG.1 hP 0 rfl rfl 0 (by decide) w2 (fun _ h9 => h9) rfl dX11_write_15 ?_
    refine lv_iload_n hx hb dX11_write_18 rfl (lv_at hl 1 rfl) ?_
    refine lv_iadd hx hb dX11_write_19 ?_
    refine lv_sipush (v := (500 : Int32)) hx hb dX11_write_20 (by decide) ?_
    refine lv_icmp_le (tgt := 29) hx hb dX11_write_23 (by decide) (fun c4 => ?_) (fun c4 => ?_)
    · have hf := xt hf c4
      refine lv_iload_n hx hb dX11_write_29 rfl (lv_at hl 1 rfl) ?_
      refine lv_iconst (v := (1 : Int32)) hx hb dX11_write_30 (by decide) ?_
      refine lv_isub hx hb dX11_write_31 ?_
      refine lv_topi (fun v5 ev5 => ?_)
      have hf := lb_s hf ev5
      refine lv_istore (lv' := [(4, .int v5), (0, .ref a_this), (1, .int x0), (2, .long x1)]) hx hb dX11_write_32 hl (by decide) rfl (fun ls hl => ?_)
      exact hL34  FUEL v5 f_text i_length  H _ ls hP  hS (lv_sub hl [1, 3, 0] rfl) hf
    · have hf := xf hf c4
      refine lv_bipush (v := (-3 : Int32)) hx hb dX11_write_26 (by decide) ?_
      obtain rfl := Option.some.inj hf
      exact ret H _ ls _ rfl hP hD hS dX11_write_28
  · have hf := xt hf c3
    refine lv_iconst (v := (-1 : Int32)) hx hb dX11_write_12 (by decide) ?_
    obtain rfl := Option.some.inj hf
    exact ret H _ ls _ rfl hP hD hS dX11_write_13
def mX11_wipe (i_length : Int32) :
  Option (Int32 × Int32) :=
  some (i_length, (0 : Int32))
theorem hdsX11_wipe : yX11_wipe.cls ≠ "java/lang/invoke/MethodHandle" ∧ yX11_wipe.cls ≠ "java/lang/invoke/VarHandle" ∧ (parseMethodDescriptor yX11_wipe.desc).map (fun d => d.parameters.length) = some 0 := by decide +kernel
theorem hdvX11_wipe : yX11_wipe.cls = RX11 ∧ yX11_wipe.cls ≠ "java/lang/invoke/MethodHandle" ∧ yX11_wipe.cls ≠ "java/lang/invoke/VarHandle" ∧ (parseMethodDescriptor yX11_wipe.desc).map (fun d => d.parameters.length) = some 0 := by decide +kernel
abbrev rmX11_wipe : Room := { frames := 0, cells := 0, slots := 0, locals := 0 }
set_option maxHeartbeats 4000000 in
set_option maxRecDepth 100000 in
theorem qX11_wipe (l : Launch) (X : XT) (a_this : Nat) (a_text : Nat) (a_roundMany : Nat) (a_blowMany : Nat) (a_blows : Nat) (a_forwards : Nat) (a_downs : Nat) (a_takens : Nat) (a_homes : Nat) (a_noises : Nat) (a_judgeMany : Nat) (a_judges : Nat) (a_delays : Nat) (a_tolds : Nat) (a_tens : Nat) (a_told : Nat) (a_ways : Nat) (a_nextWays : Nat) (a_tallies : Nat) (a_presses : Nat) (a_values : Nat) (a_nextValues : Nat)  (i_length : Int32) (i_keptMany : Int32) (i_place : Int32)  (o : Int32 × Int32) (hf : mX11_wipe i_length = some o) :
    MI l yX11_wipe wsX11_wipe rmX11_wipe X [.ref a_this] [(a_this, .inr (11, [.int i_length, .ref a_text, .ref a_roundMany, .ref a_blowMany, .ref a_blows, .ref a_forwards, .ref a_downs, .ref a_takens, .ref a_homes, .ref a_noises, .ref a_judgeMany, .ref a_judges, .ref a_delays, .ref a_tolds, .ref a_tens, .int i_keptMany, .int i_place, .ref a_told, .ref a_ways, .ref a_nextWays, .ref a_tallies, .ref a_presses, .ref a_values, .ref a_nextValues]))]  [(a_this, .inr (11, [.int o.2, .ref a_text, .ref a_roundMany, .ref a_blowMany, .ref a_blows, .ref a_forwards, .ref a_downs, .ref a_takens, .ref a_homes, .ref a_noises, .ref a_judgeMany, .ref a_judges, .ref a_delays, .ref a_tolds, .ref a_tens, .int i_keptMany, .int i_place, .ref a_told, .ref a_ways, .ref a_nextWays, .ref a_tallies, .ref a_presses, .ref a_values, .ref a_nextValues]))] o.1 := by
  refine MI_ofH (cc := cX11_wipe) (maxL := 2) (rt := .int) (by decide) rfl (Nat.le_of_ble_eq_true rfl) ?_
  intro p e s m below meth c A Q H ls hx hb hml hts hown hA hD hG hP hS hl ret
  have hown : s.vm.findClass RX11 = some m.cls := hown
  have hD : aD A [a_this] := hD
  have hl : lv_has ls 2 [(0, .ref a_this)] := hl
  have w1 := hts (.fieldLink RX11 84 "ThreeCardsModel" "length" "I") (List.mem_of_getElem? (i := 1) rfl)
  have in11 : ∀ w ∈ u_ws RX11 TX11 24, w ∈ wsX11_wipe := by decide +kernel
  unfold mX11_wipe at hf
  refine lv_aload_n hx hb dX11_wipe_0 rfl (lv_at hl 0 rfl) ?_
  refine va_get (D := X.1) (ci := 11) (v := .int i_length) (C := RX11) (T := TX11) (N := 24) hx hb hts in11 hown hG.1 hP 0 rfl rfl 0 (by decide) w1 (fun _ h9 => h9) rfl dX11_wipe_1 ?_
  refine lv_istore_n (lv' := [(1, .int i_length), (0, .ref a_this)]) hx hb dX11_wipe_4 rfl hl (by decide) rfl (fun ls hl => ?_)
  refine lv_aload_n hx hb dX11_wipe_5 rfl (lv_at hl 1 rfl) ?_
  refine lv_iconst (v := (0 : Int32)) hx hb dX11_wipe_6 (by decide) ?_
  refine x_put (ws' := [(a_this, .inr (11, [.int (0 : Int32), .ref a_text, .ref a_roundMany, .ref a_blowMany, .ref a_blows, .ref a_forwards, .ref a_downs, .ref a_takens, .ref a_homes, .ref a_noises, .ref a_judgeMany, .ref a_judges, .ref a_delays, .ref a_tolds, .ref a_tens, .int i_keptMany, .int i_place, .ref a_told, .ref a_ways, .ref a_nextWays, .ref a_tallies, .ref a_presses, .ref a_values, .ref a_nextValues]))]) (ty := .int) (C := RX11) (T := TX11) (N := 24) hx hb hts in11 tyX11 tyX11_ok nmX11 hown hG hP hD rfl hS 0 rfl rfl 0 (by decide) w1 rfl (tyX11_ok 0 (by decide)) rfl rfl (Nat.le_of_ble_eq_true rfl) dX11_wipe_7 rfl (fun H locs hP hS => ?_)
  refine lv_iload_n hx hb dX11_wipe_10 rfl (lv_at hl 0 rfl) ?_
  obtain rfl := Option.some.inj hf
  exact ret H _ ls _ rfl hP hD hS dX11_wipe_11
def mX11_byteAt (x0 : Int32) (i_length : Int32) (f_text : Nat → Int32) :
  Option (Int32) :=
  if i_length ≤ x0 then (some (0 : Int32)) else (gi x0 500 <|
  lb (f_text x0.toNatClampNeg) fun v3 =>
  some v3)
theorem hdsX11_byteAt : yX11_byteAt.cls ≠ "java/lang/invoke/MethodHandle" ∧ yX11_byteAt.cls ≠ "java/lang/invoke/VarHandle" ∧ (parseMethodDescriptor yX11_byteAt.desc).map (fun d => d.parameters.length) = some 1 := by decide +kernel
theorem hdvX11_byteAt : yX11_byteAt.cls = RX11 ∧ yX11_byteAt.cls ≠ "java/lang/invoke/MethodHandle" ∧ yX11_byteAt.cls ≠ "java/lang/invoke/VarHandle" ∧ (parseMethodDescriptor yX11_byteAt.desc).map (fun d => d.parameters.length) = some 1 := by decide +kernel
abbrev rmX11_byteAt : Room := { frames := 0, cells := 0, slots := 0, locals := 0 }
set_option maxHeartbeats 4000000 in
set_option maxRecDepth 100000 in
theorem qX11_byteAt (l : Launch) (X : XT) (a_this : Nat) (a_text : Nat) (a_roundMany : Nat) (a_blowMany : Nat) (a_blows : Nat) (a_forwards : Nat) (a_downs : Nat) (a_takens : Nat) (a_homes : Nat) (a_noises : Nat) (a_judgeMany : Nat) (a_judges : Nat) (a_delays : Nat) (a_tolds : Nat) (a_tens : Nat) (a_told : Nat) (a_ways : Nat) (a_nextWays : Nat) (a_tallies : Nat) (a_presses : Nat) (a_values : Nat) (a_nextValues : Nat)  (i_length : Int32) (i_keptMany : Int32) (i_place : Int32) (f_text : Nat → Int32) (x0 : Int32) (o : Int32) (hf : mX11_byteAt x0 i_length f_text = some o) :
    MI l yX11_byteAt wsX11_byteAt rmX11_byteAt X [.ref a_this, .int x0] [(a_this, .inr (11, [.int i_length, .ref a_text, .ref a_roundMany, .ref a_blowMany, .ref a_blows, .ref a_forwards, .ref a_downs, .ref a_takens, .ref a_homes, .ref a_noises, .ref a_judgeMany, .ref a_judges, .ref a_delays, .ref a_tolds, .ref a_tens, .int i_keptMany, .int i_place, .ref a_told, .ref a_ways, .ref a_nextWays, .ref a_tallies, .ref a_presses, .ref a_values, .ref a_nextValues])), (a_text, .inl (X.2.1 0, 500, .inl f_text))]  [(a_this, .inr (11, [.int i_length, .ref a_text, .ref a_roundMany, .ref a_blowMany, .ref a_blows, .ref a_forwards, .ref a_downs, .ref a_takens, .ref a_homes, .ref a_noises, .ref a_judgeMany, .ref a_judges, .ref a_delays, .ref a_tolds, .ref a_tens, .int i_keptMany, .int i_place, .ref a_told, .ref a_ways, .ref a_nextWays, .ref a_tallies, .ref a_presses, .ref a_values, .ref a_nextValues])), (a_text, .inl (X.2.1 0, 500, .inl f_text))] o := by
  refine MI_ofH (cc := cX11_byteAt) (maxL := 2) (rt := .int) (by decide) rfl (Nat.le_of_ble_eq_true rfl) ?_
  intro p e s m below meth c A Q H ls hx hb hml hts hown hA hD hG hP hS hl ret
  have hown : s.vm.findClass RX11 = some m.cls := hown
  have hD : aD A [a_this, a_text] := hD
  have hl : lv_has ls 2 [(0, .ref a_this), (1, .int x0)] := hl
  have w1 := hts (.fieldLink RX11 84 "ThreeCardsModel" "length" "I") (List.mem_of_getElem? (i := 1) rfl)
  have w2 := hts (.fieldLink RX11 7 "ThreeCardsModel" "text" "[I") (List.mem_of_getElem? (i := 2) rfl)
  have in11 : ∀ w ∈ u_ws RX11 TX11 24, w ∈ wsX11_byteAt := by decide +kernel
  unfold mX11_byteAt at hf
  refine lv_iload_n hx hb dX11_byteAt_0 rfl (lv_at hl 1 rfl) ?_
  refine lv_aload_n hx hb dX11_byteAt_1 rfl (lv_at hl 0 rfl) ?_
  refine va_get (D := X.1) (ci := 11) (v := .int i_length) (C := RX11) (T := TX11) (N := 24) hx hb hts in11 hown hG.1 hP 0 rfl rfl 0 (by decide) w1 (fun _ h9 => h9) rfl dX11_byteAt_2 ?_
  refine lv_icmp_ge (tgt := 17) hx hb dX11_byteAt_5 (by decide) (fun c1 => ?_) (fun c1 => ?_)
  · have hf := xt hf c1
    refine lv_iconst (v := (0 : Int32)) hx hb dX11_byteAt_17 (by decide) ?_
    obtain rfl := Option.some.inj hf
    exact ret H _ ls _ rfl hP hD hS dX11_byteAt_18
  · have hf := xf hf c1
    refine lv_aload_n hx hb dX11_byteAt_8 rfl (lv_at hl 0 rfl) ?_
    refine va_get (D := X.1) (ci := 11) (v := .ref a_text) (C := RX11) (T := TX11) (N := 24) hx hb hts in11 hown hG.1 hP 0 rfl rfl 1 (by decide) w2 (fun _ h9 => h9) rfl dX11_byteAt_9 ?_
    refine lv_iload_n hx hb dX11_byteAt_12 rfl (lv_at hl 1 rfl) ?_
    obtain ⟨h2, hf⟩ := gi_s hf
    refine va_iald (D := X.1) hx hb hG.1 hP 1 0 rfl rfl h2 dX11_byteAt_13 ?_
    refine lv_goto (tgt := 18) hx hb dX11_byteAt_14 (by decide) ?_
    refine lv_topi (fun v3 ev3 => ?_)
    have hf := lb_s hf ev3
    obtain rfl := Option.some.inj hf
    exact ret H _ ls _ rfl hP hD hS dX11_byteAt_18
def mX11_figures_B107 (x0 : Int32) (i_length : Int32) (f_text : Nat → Int32) (k2 : Int32 → Int32 → (Nat → Int32) → Option (Int32 × Int32 × (Nat → Int32))) (l2 : Int32) (l4 : Int32) (s0 : Int32) (s1 : Int32) (i_place : Int32) (f_told : Nat → Int32) :
  Option (Int32 × Int32 × (Nat → Int32)) :=
  if s0 = s1 then (gi l2 7 <|
  lb (upd f_told l2.toNatClampNeg l4) fun g21 =>
  lb (i_place + (1 : Int32)) fun v22 =>
  lb (l2 + (1 : Int32)) fun v23 =>
  k2 v23 v22 g21) else (some ((0 : Int32), i_place, f_told))
def mX11_figures_B73 (x0 : Int32) (i_length : Int32) (f_text : Nat → Int32) (k2 : Int32 → Int32 → (Nat → Int32) → Option (Int32 × Int32 × (Nat → Int32))) (l2 : Int32) (l3 : Int32) (l4 : Int32) (i_place : Int32) (f_told : Nat → Int32) :
  Option (Int32 × Int32 × (Nat → Int32)) :=
  (mX11_in (Int32.toInt64 l3) (1 : Int64) (3 : Int64)).bind fun o13 =>
  if o13 = 0 then (some ((0 : Int32), i_place, f_told)) else ((mX11_byteAt i_place i_length f_text).bind fun o16 =>
  if (x0 - (1 : Int32)) ≤ l2 then (mX11_figures_B107 x0 i_length f_text k2 l2 l4 o16 (59 : Int32) i_place f_told) else (mX11_figures_B107 x0 i_length f_text k2 l2 l4 o16 (44 : Int32) i_place f_told))
def mX11_figures_B12 (x0 : Int32) (i_length : Int32) (f_text : Nat → Int32) (k2 : Int32 → Int32 → (Nat → Int32) → Option (Int32 × Int32 × (Nat → Int32))) (k12 : Int32 → Int32 → Int32 → Int32 → (Nat → Int32) → Option (Int32 × Int32 × (Nat → Int32))) (l2 : Int32) (l3 : Int32) (l4 : Int32) (i_place : Int32) (f_told : Nat → Int32) :
  Option (Int32 × Int32 × (Nat → Int32)) :=
  (mX11_byteAt i_place i_length f_text).bind fun o2 =>
  (mX11_in (Int32.toInt64 o2) (48 : Int64) (57 : Int64)).bind fun o4 =>
  if o4 = 0 then (mX11_figures_B73 x0 i_length f_text k2 l2 l3 l4 i_place f_told) else (if (4 : Int32) ≤ l3 then (mX11_figures_B73 x0 i_length f_text k2 l2 l3 l4 i_place f_told) else ((mX11_byteAt i_place i_length f_text).bind fun o8 =>
  lb ((((10 : Int32) * l4) + o8) - (48 : Int32)) fun v10 =>
  lb (l3 + (1 : Int32)) fun v11 =>
  lb (i_place + (1 : Int32)) fun v12 =>
  k12 l2 v11 v10 v12 f_told))
def mX11_figures_L12 (x0 : Int32) (i_length : Int32) (f_text : Nat → Int32) (k2 : Int32 → Int32 → (Nat → Int32) → Option (Int32 × Int32 × (Nat → Int32))) (n : Nat) (l2 : Int32) (l3 : Int32) (l4 : Int32) (i_place : Int32) (f_told : Nat → Int32) :
  Option (Int32 × Int32 × (Nat → Int32)) :=
  loopN (fun k (s : Int32 × Int32 × Int32 × Int32 × (Nat → Int32)) => mX11_figures_B12 x0 i_length f_text k2 (fun l2 l3 l4 i_place f_told => k (l2, l3, l4, i_place, f_told)) s.1 s.2.1 s.2.2.1 s.2.2.2.1 s.2.2.2.2) n (l2, l3, l4, i_place, f_told)
def mX11_figures_B2 (x0 : Int32) (i_length : Int32) (f_text : Nat → Int32) (k2 : Int32 → Int32 → (Nat → Int32) → Option (Int32 × Int32 × (Nat → Int32))) (l2 : Int32) (i_place : Int32) (f_told : Nat → Int32) :
  Option (Int32 × Int32 × (Nat → Int32)) :=
  if x0 ≤ l2 then (some ((1 : Int32), i_place, f_told)) else (mX11_figures_L12 x0 i_length f_text k2 FUEL l2 (0 : Int32) (0 : Int32) i_place f_told)
def mX11_figures_L2 (x0 : Int32) (i_length : Int32) (f_text : Nat → Int32) (n : Nat) (l2 : Int32) (i_place : Int32) (f_told : Nat → Int32) :
  Option (Int32 × Int32 × (Nat → Int32)) :=
  loopN (fun k (s : Int32 × Int32 × (Nat → Int32)) => mX11_figures_B2 x0 i_length f_text  (fun l2 i_place f_told => k (l2, i_place, f_told)) s.1 s.2.1 s.2.2) n (l2, i_place, f_told)
def mX11_figures (x0 : Int32) (i_length : Int32) (i_place : Int32) (f_text : Nat → Int32) (f_told : Nat → Int32) :
  Option (Int32 × Int32 × (Nat → Int32)) :=
  mX11_figures_L2 x0 i_length f_text  FUEL (0 : Int32) i_place f_told
theorem hdsX11_figures : yX11_figures.cls ≠ "java/lang/invoke/MethodHandle" ∧ yX11_figures.cls ≠ "java/lang/invoke/VarHandle" ∧ (parseMethodDescriptor yX11_figures.desc).map (fun d => d.parameters.length) = some 1 := by decide +kernel
theorem hdvX11_figures : yX11_figures.cls = RX11 ∧ yX11_figures.cls ≠ "java/lang/invoke/MethodHandle" ∧ yX11_figures.cls ≠ "java/lang/invoke/VarHandle" ∧ (parseMethodDescriptor yX11_figures.desc).map (fun d => d.parameters.length) = some 1 := by decide +kernel
abbrev rmX11_figures : Room := { frames := 1, cells := 0, slots := 0, locals := 25 }
set_option maxHeartbeats 4000000 in
set_option maxRecDepth 100000 in
theorem qX11_figures (l : Launch) (X : XT) (a_this : Nat) (a_text : Nat) (a_told : Nat) (a_roundMany : Nat) (a_blowMany : Nat) (a_blows : Nat) (a_forwards : Nat) (a_downs : Nat) (a_takens : Nat) (a_homes : Nat) (a_noises : Nat) (a_judgeMany : Nat) (a_judges : Nat) (a_delays : Nat) (a_tolds : Nat) (a_tens : Nat) (a_ways : Nat) (a_nextWays : Nat) (a_tallies : Nat) (a_presses : Nat) (a_values : Nat) (a_nextValues : Nat)  (i_length : Int32) (i_keptMany : Int32) (i_place : Int32) (f_text : Nat → Int32) (f_told : Nat → Int32) (x0 : Int32) (o : Int32 × Int32 × (Nat → Int32)) (hf : mX11_figures x0 i_length i_place f_text f_told = some o) :
    MI l yX11_figures wsX11_figures rmX11_figures X [.ref a_this, .int x0] [(a_this, .inr (11, [.int i_length, .ref a_text, .ref a_roundMany, .ref a_blowMany, .ref a_blows, .ref a_forwards, .ref a_downs, .ref a_takens, .ref a_homes, .ref a_noises, .ref a_judgeMany, .ref a_judges, .ref a_delays, .ref a_tolds, .ref a_tens, .int i_keptMany, .int i_place, .ref a_told, .ref a_ways, .ref a_nextWays, .ref a_tallies, .ref a_presses, .ref a_values, .ref a_nextValues])), (a_text, .inl (X.2.1 0, 500, .inl f_text)), (a_told, .inl (X.2.1 0, 7, .inl f_told))]  [(a_this, .inr (11, [.int i_length, .ref a_text, .ref a_roundMany, .ref a_blowMany, .ref a_blows, .ref a_forwards, .ref a_downs, .ref a_takens, .ref a_homes, .ref a_noises, .ref a_judgeMany, .ref a_judges, .ref a_delays, .ref a_tolds, .ref a_tens, .int i_keptMany, .int o.2.1, .ref a_told, .ref a_ways, .ref a_nextWays, .ref a_tallies, .ref a_presses, .ref a_values, .ref a_nextValues])), (a_text, .inl (X.2.1 0, 500, .inl f_text)), (a_told, .inl (X.2.1 0, 7, .inl o.2.2))] o.1 := by
  refine MI_ofH (cc := cX11_figures) (maxL := 5) (rt := .boolean) (by decide) rfl (Nat.le_of_ble_eq_true rfl) ?_
  intro p e s m below meth c A Q H ls hx hb hml hts hown hA hD hG hP hS hl ret
  have hown : s.vm.findClass RX11 = some m.cls := hown
  have hD : aD A [a_this, a_text, a_told] := hD
  have hl : lv_has ls 5 [(0, .ref a_this), (1, .int x0)] := hl
  have w1 := hts (.fieldLink RX11 90 "ThreeCardsModel" "place" "I") (List.mem_of_getElem? (i := 1) rfl)
  have w2 := hts (.constantLong RX11 97 (48)) (List.mem_of_getElem? (i := 2) rfl)
  have w3 := hts (.constantLong RX11 99 (57)) (List.mem_of_getElem? (i := 3) rfl)
  have w4 := hts (.constantLong RX11 101 (3)) (List.mem_of_getElem? (i := 4) rfl)
  have w5 := hts (.fieldLink RX11 52 "ThreeCardsModel" "told" "[I") (List.mem_of_getElem? (i := 5) rfl)
  have in11 : ∀ w ∈ u_ws RX11 TX11 24, w ∈ wsX11_figures := by decide +kernel
  have hB107 : ∀ (k2 : Int32 → Int32 → (Nat → Int32) → Option (Int32 × Int32 × (Nat → Int32))) (hk2 : ∀ (l2 : Int32) (i_place : Int32) (f_told : Nat → Int32)  (H : Heap) (locs : List Loc) (ls : Array Slot), va_P X.1 vwCl [(a_this, .inr (11, [.int i_length, .ref a_text, .ref a_roundMany, .ref a_blowMany, .ref a_blows, .ref a_forwards, .ref a_downs, .ref a_takens, .ref a_homes, .ref a_noises, .ref a_judgeMany, .ref a_judges, .ref a_delays, .ref a_tolds, .ref a_tens, .int i_keptMany, .int i_place, .ref a_told, .ref a_ways, .ref a_nextWays, .ref a_tallies, .ref a_presses, .ref a_values, .ref a_nextValues])), (a_text, .inl (X.2.1 0, 500, .inl f_text)), (a_told, .inl (X.2.1 0, 7, .inl f_told))] H → va_S A s.heap H locs → lv_has ls 5 [(0, .ref a_this), (1, .int x0), (2, .int l2)] → k2 l2 i_place f_told = some o → W p l e rmX11_figures s m ([.ref a_this, .int x0] : List Value).toArray below meth c H locs 0 0 Q (F0 m 2 ls [])) (l2 : Int32) (l4 : Int32) (s0 : Int32) (s1 : Int32) (i_place : Int32) (f_told : Nat → Int32)  (H : Heap) (locs : List Loc) (ls : Array Slot), va_P X.1 vwCl [(a_this, .inr (11, [.int i_length, .ref a_text, .ref a_roundMany, .ref a_blowMany, .ref a_blows, .ref a_forwards, .ref a_downs, .ref a_takens, .ref a_homes, .ref a_noises, .ref a_judgeMany, .ref a_judges, .ref a_delays, .ref a_tolds, .ref a_tens, .int i_keptMany, .int i_place, .ref a_told, .ref a_ways, .ref a_nextWays, .ref a_tallies, .ref a_presses, .ref a_values, .ref a_nextValues])), (a_text, .inl (X.2.1 0, 500, .inl f_text)), (a_told, .inl (X.2.1 0, 7, .inl f_told))] H → va_S A s.heap H locs → lv_has ls 5 [(0, .ref a_this), (1, .int x0), (2, .int l2), (4, .int l4)] → mX11_figures_B107 x0 i_length f_text k2 l2 l4 s0 s1 i_place f_told = some o → W p l e rmX11_figures s m ([.ref a_this, .int x0] : List Value).toArray below meth c H locs 0 0 Q (F0 m 107 ls [.int s1, .int s0]) := by
    intro k2 hk2 l2 l4 s0 s1 i_place f_told  H locs ls hP hS hl hf
    unfold mX11_figures_B107 at hf
    refine lv_icmp_eq (tgt := 112) hx hb dX11_figures_107 (by decide) (fun c19 => ?_) (fun c19 => ?_)
    · have hf := xt hf c19
      refine lv_aload_n hx hb dX11_figures_112 rfl (lv_at hl 0 rfl) ?_
      refine va_get (D := X.1) (ci := 11) (v := .ref a_told) (C := RX11) (T := TX11) (N := 24) hx hb hts in11 hown hG.1 hP 0 rfl rfl 17 (by decide) w5 (fun _ h9 => h9) rfl dX11_figures_113 ?_
      refine lv_iload_n hx hb dX11_figures_116 rfl (lv_at hl 2 rfl) ?_
      refine lv_iload hx hb dX11_figures_117 (lv_at hl 3 rfl) ?_
      obtain ⟨h20, hf⟩ := gi_s hf
      obtain ⟨g21, eg21, hf⟩ := lb_g hf
      refine x_iast (ws' := [(a_this, .inr (11, [.int i_length, .ref a_text, .ref a_roundMany, .ref a_blowMany, .ref a_blows, .ref a_forwards, .ref a_downs, .ref a_takens, .ref a_homes, .ref a_noises, .ref a_judgeMany, .ref a_judges, .ref a_delays, .ref a_tolds, .ref a_tens, .int i_keptMany, .int i_place, .ref a_told, .ref a_ways, .ref a_nextWays, .ref a_tallies, .ref a_presses, .ref a_values, .ref a_nextValues])), (a_text, .inl (X.2.1 0, 500, .inl f_text)), (a_told, .inl (X.2.1 0, 7, .inl g21))]) hx hb hG hP hD rfl hS 2 rfl h20 dX11_figures_119 eg21 rfl (fun H locs hP hS => ?_)
      refine lv_aload_n hx hb dX11_figures_120 rfl (lv_at hl 0 rfl) ?_
      refine lv_dup hx hb dX11_figures_121 rfl ?_
      refine va_get (D := X.1) (ci := 11) (v := .int i_place) (C := RX11) (T := TX11) (N := 24) hx hb hts in11 hown hG.1 hP 0 rfl rfl 16 (by decide) w1 (fun _ h9 => h9) rfl dX11_figures_122 ?_
      refine lv_iconst (v := (1 : Int32)) hx hb dX11_figures_125 (by decide) ?_
      refine lv_iadd hx hb dX11_figures_126 ?_
      refine lv_topi (fun v22 ev22 => ?_)
      have hf := lb_s hf ev22
      refine x_put (ws' := [(a_this, .inr (11, [.int i_length, .ref a_text, .ref a_roundMany, .ref a_blowMany, .ref a_blows, .ref a_forwards, .ref a_downs, .ref a_takens, .ref a_homes, .ref a_noises, .ref a_judgeMany, .ref a_judges, .ref a_delays, .ref a_tolds, .ref a_tens, .int i_keptMany, .int v22, .ref a_told, .ref a_ways, .ref a_nextWays, .ref a_tallies, .ref a_presses, .ref a_values, .ref a_nextValues])), (a_text, .inl (X.2.1 0, 500, .inl f_text)), (a_told, .inl (X.2.1 0, 7, .inl g21))]) (ty := .int) (C := RX11) (T := TX11) (N := 24) hx hb hts in11 tyX11 tyX11_ok nmX11 hown hG hP hD rfl hS 0 rfl rfl 16 (by decide) w1 rfl (tyX11_ok 16 (by decide)) rfl rfl (Nat.le_of_ble_eq_true rfl) dX11_figures_127 rfl (fun H locs hP hS => ?_)
      obtain ⟨v23, ev23, hf⟩ := lb_g hf
      refine lv_iinc (v := v23) (lv' := [(2, .int v23), (0, .ref a_this), (1, .int x0), (4, .int l4)]) hx hb dX11_figures_130 hl (k := 2) rfl ev23.symm (by decide) rfl (fun ls hl => ?_)
      refine lv_goto (tgt := 2) hx hb dX11_figures_133 (by decide) ?_
      exact hk2 v23 v22 g21  H _ ls hP  hS (lv_sub hl [1, 2, 0] rfl) hf
    · have hf := xf hf c19
      refine lv_iconst (v := (0 : Int32)) hx hb dX11_figures_110 (by decide) ?_
      obtain rfl := Option.some.inj hf
      exact ret H _ ls _ (show narrow .boolean (.int (0 : Int32)) = .int (0 : Int32) from rfl) hP hD hS dX11_figures_111
  have hB73 : ∀ (k2 : Int32 → Int32 → (Nat → Int32) → Option (Int32 × Int32 × (Nat → Int32))) (hk2 : ∀ (l2 : Int32) (i_place : Int32) (f_told : Nat → Int32)  (H : Heap) (locs : List Loc) (ls : Array Slot), va_P X.1 vwCl [(a_this, .inr (11, [.int i_length, .ref a_text, .ref a_roundMany, .ref a_blowMany, .ref a_blows, .ref a_forwards, .ref a_downs, .ref a_takens, .ref a_homes, .ref a_noises, .ref a_judgeMany, .ref a_judges, .ref a_delays, .ref a_tolds, .ref a_tens, .int i_keptMany, .int i_place, .ref a_told, .ref a_ways, .ref a_nextWays, .ref a_tallies, .ref a_presses, .ref a_values, .ref a_nextValues])), (a_text, .inl (X.2.1 0, 500, .inl f_text)), (a_told, .inl (X.2.1 0, 7, .inl f_told))] H → va_S A s.heap H locs → lv_has ls 5 [(0, .ref a_this), (1, .int x0), (2, .int l2)] → k2 l2 i_place f_told = some o → W p l e rmX11_figures s m ([.ref a_this, .int x0] : List Value).toArray below meth c H locs 0 0 Q (F0 m 2 ls [])) (l2 : Int32) (l3 : Int32) (l4 : Int32) (i_place : Int32) (f_told : Nat → Int32)  (H : Heap) (locs : List Loc) (ls : Array Slot), va_P X.1 vwCl [(a_this, .inr (11, [.int i_length, .ref a_text, .ref a_roundMany, .ref a_blowMany, .ref a_blows, .ref a_forwards, .ref a_downs, .ref a_takens, .ref a_homes, .ref a_noises, .ref a_judgeMany, .ref a_judges, .ref a_delays, .ref a_tolds, .ref a_tens, .int i_keptMany, .int i_place, .ref a_told, .ref a_ways, .ref a_nextWays, .ref a_tallies, .ref a_presses, .ref a_values, .ref a_nextValues])), (a_text, .inl (X.2.1 0, 500, .inl f_text)), (a_told, .inl (X.2.1 0, 7, .inl f_told))] H → va_S A s.heap H locs → lv_has ls 5 [(0, .ref a_this), (1, .int x0), (2, .int l2), (3, .int l3), (4, .int l4)] → mX11_figures_B73 x0 i_length f_text k2 l2 l3 l4 i_place f_told = some o → W p l e rmX11_figures s m ([.ref a_this, .int x0] : List Value).toArray below meth c H locs 0 0 Q (F0 m 73 ls []) := by
    intro k2 hk2 l2 l3 l4 i_place f_told  H locs ls hP hS hl hf
    unfold mX11_figures_B73 at hf
    refine lv_iload_n hx hb dX11_figures_73 rfl (lv_at hl 3 rfl) ?_
    refine lv_i2l hx hb dX11_figures_74 rfl ?_
    refine lv_lconst (v := (1 : Int64)) hx hb dX11_figures_75 rfl ?_
    refine lv_ldc2 (v := (3 : Int64)) hx hb hown w4 dX11_figures_76 ?_
    obtain ⟨o13, ho13, hf⟩ := ob_s hf
    refine xS_i (As := [.long (Int32.toInt64 l3), .long (1 : Int64), .long (3 : Int64)]) (rest := []) (ws2 := [(a_this, .inr (11, [.int i_length, .ref a_text, .ref a_roundMany, .ref a_blowMany, .ref a_blows, .ref a_forwards, .ref a_downs, .ref a_takens, .ref a_homes, .ref a_noises, .ref a_judgeMany, .ref a_judges, .ref a_delays, .ref a_tolds, .ref a_tens, .int i_keptMany, .int i_place, .ref a_told, .ref a_ways, .ref a_nextWays, .ref a_tallies, .ref a_presses, .ref a_values, .ref a_nextValues])), (a_text, .inl (X.2.1 0, 500, .inl f_text)), (a_told, .inl (X.2.1 0, 7, .inl f_told))]) hx hb hml hts hown hG hA hP hD rfl hS hl.1 (qX11_in l X (Int32.toInt64 l3) (1 : Int64) (3 : Int64) o13 ho13) (va_cwS (y := yX11_in) 3 hts gX11_figures_X11_in rfl rfl rfl hdsX11_in ⟨Nat.le_of_ble_eq_true rfl, Nat.le_of_ble_eq_true rfl⟩) [] [0, 1, 2] [0, 1, 2] rfl rfl rfl rfl rfl rfl rfl rfl rfl (Nat.le_of_ble_eq_true rfl) ⟨Nat.le_of_ble_eq_true rfl, Nat.le_of_ble_eq_true rfl⟩ dX11_figures_79 (fun H locs hP _ hS => ?_)
    refine lv_if_eq (tgt := 110) hx hb dX11_figures_82 (by decide) (fun c15 => ?_) (fun c15 => ?_)
    · have hf := xt hf c15
      refine lv_iconst (v := (0 : Int32)) hx hb dX11_figures_110 (by decide) ?_
      obtain rfl := Option.some.inj hf
      exact ret H _ ls _ (show narrow .boolean (.int (0 : Int32)) = .int (0 : Int32) from rfl) hP hD hS dX11_figures_111
    · have hf := xf hf c15
      refine lv_aload_n hx hb dX11_figures_85 rfl (lv_at hl 0 rfl) ?_
      refine lv_aload_n hx hb dX11_figures_86 rfl (lv_at hl 0 rfl) ?_
      refine va_get (D := X.1) (ci := 11) (v := .int i_place) (C := RX11) (T := TX11) (N := 24) hx hb hts in11 hown hG.1 hP 0 rfl rfl 16 (by decide) w1 (fun _ h9 => h9) rfl dX11_figures_87 ?_
      obtain ⟨o16, ho16, hf⟩ := ob_s hf
      refine xV_i (As := [.int i_place]) (b := a_this) (rest := []) (ws2 := [(a_this, .inr (11, [.int i_length, .ref a_text, .ref a_roundMany, .ref a_blowMany, .ref a_blows, .ref a_forwards, .ref a_downs, .ref a_takens, .ref a_homes, .ref a_noises, .ref a_judgeMany, .ref a_judges, .ref a_delays, .ref a_tolds, .ref a_tens, .int i_keptMany, .int i_place, .ref a_told, .ref a_ways, .ref a_nextWays, .ref a_tallies, .ref a_presses, .ref a_values, .ref a_nextValues])), (a_text, .inl (X.2.1 0, 500, .inl f_text)), (a_told, .inl (X.2.1 0, 7, .inl f_told))]) hx hb hml hts hown hG hA hP hD rfl hS hl.1 (qX11_byteAt l X a_this a_text a_roundMany a_blowMany a_blows a_forwards a_downs a_takens a_homes a_noises a_judgeMany a_judges a_delays a_tolds a_tens a_told a_ways a_nextWays a_tallies a_presses a_values a_nextValues i_length i_keptMany i_place f_text i_place o16 ho16) (cwV (y := yX11_byteAt) 1 hts gX11_figures_X11_byteAt rfl rfl rfl hdvX11_byteAt ⟨Nat.le_of_ble_eq_true rfl, Nat.le_of_ble_eq_true rfl⟩) [0, 1] [2] [1, 2, 0] rfl rfl rfl rfl rfl rfl rfl (ci := 11) rfl 0 rfl rfl rfl (Nat.le_of_ble_eq_true rfl) ⟨Nat.le_of_ble_eq_true rfl, Nat.le_of_ble_eq_true rfl⟩ dX11_figures_90 (fun H locs hP _ hS => ?_)
      refine lv_iload_n hx hb dX11_figures_93 rfl (lv_at hl 2 rfl) ?_
      refine lv_iload_n hx hb dX11_figures_94 rfl (lv_at hl 1 rfl) ?_
      refine lv_iconst (v := (1 : Int32)) hx hb dX11_figures_95 (by decide) ?_
      refine lv_isub hx hb dX11_figures_96 ?_
      refine lv_icmp_ge (tgt := 105) hx hb dX11_figures_97 (by decide) (fun c18 => ?_) (fun c18 => ?_)
      · have hf := xt hf c18
        refine lv_bipush (v := (59 : Int32)) hx hb dX11_figures_105 (by decide) ?_
        exact hB107 k2 hk2 l2 l4 o16 (59 : Int32) i_place f_told  H _ ls hP  hS (lv_sub hl [0, 1, 2, 4] rfl) hf
      · have hf := xf hf c18
        refine lv_bipush (v := (44 : Int32)) hx hb dX11_figures_100 (by decide) ?_
        refine lv_goto (tgt := 107) hx hb dX11_figures_102 (by decide) ?_
        exact hB107 k2 hk2 l2 l4 o16 (44 : Int32) i_place f_told  H _ ls hP  hS (lv_sub hl [0, 1, 2, 4] rfl) hf
  have hL12 : ∀ (k2 : Int32 → Int32 → (Nat → Int32) → Option (Int32 × Int32 × (Nat → Int32))) (hk2 : ∀ (l2 : Int32) (i_place : Int32) (f_told : Nat → Int32)  (H : Heap) (locs : List Loc) (ls : Array Slot), va_P X.1 vwCl [(a_this, .inr (11, [.int i_length, .ref a_text, .ref a_roundMany, .ref a_blowMany, .ref a_blows, .ref a_forwards, .ref a_downs, .ref a_takens, .ref a_homes, .ref a_noises, .ref a_judgeMany, .ref a_judges, .ref a_delays, .ref a_tolds, .ref a_tens, .int i_keptMany, .int i_place, .ref a_told, .ref a_ways, .ref a_nextWays, .ref a_tallies, .ref a_presses, .ref a_values, .ref a_nextValues])), (a_text, .inl (X.2.1 0, 500, .inl f_text)), (a_told, .inl (X.2.1 0, 7, .inl f_told))] H → va_S A s.heap H locs → lv_has ls 5 [(0, .ref a_this), (1, .int x0), (2, .int l2)] → k2 l2 i_place f_told = some o → W p l e rmX11_figures s m ([.ref a_this, .int x0] : List Value).toArray below meth c H locs 0 0 Q (F0 m 2 ls [])) (n : Nat) (l2 : Int32) (l3 : Int32) (l4 : Int32) (i_place : Int32) (f_told : Nat → Int32)  (H : Heap) (locs : List Loc) (ls : Array Slot), va_P X.1 vwCl [(a_this, .inr (11, [.int i_length, .ref a_text, .ref a_roundMany, .ref a_blowMany, .ref a_blows, .ref a_forwards, .ref a_downs, .ref a_takens, .ref a_homes, .ref a_noises, .ref a_judgeMany, .ref a_judges, .ref a_delays, .ref a_tolds, .ref a_tens, .int i_keptMany, .int i_place, .ref a_told, .ref a_ways, .ref a_nextWays, .ref a_tallies, .ref a_presses, .ref a_values, .ref a_nextValues])), (a_text, .inl (X.2.1 0, 500, .inl f_text)), (a_told, .inl (X.2.1 0, 7, .inl f_told))] H → va_S A s.heap H locs → lv_has ls 5 [(0, .ref a_this), (1, .int x0), (2, .int l2), (3, .int l3), (4, .int l4)] → mX11_figures_L12 x0 i_length f_text k2 n l2 l3 l4 i_place f_told = some o → W p l e rmX11_figures s m ([.ref a_this, .int x0] : List Value).toArray below meth c H locs 0 0 Q (F0 m 12 ls []) := by
    intro k2 hk2 n
    induction n with
    | zero => intro l2 l3 l4 i_place f_told  H locs ls hP hS hl hf; exact xn hf
    | succ n ih =>
      intro l2 l3 l4 i_place f_told  H locs ls hP hS hl hf
      have hf : mX11_figures_B12 x0 i_length f_text k2 (mX11_figures_L12 x0 i_length f_text k2 n) l2 l3 l4 i_place f_told = some o := hf
      generalize mX11_figures_L12 x0 i_length f_text k2 n = k12 at ih hf
      unfold mX11_figures_B12 at hf
      refine lv_aload_n hx hb dX11_figures_12 rfl (lv_at hl 0 rfl) ?_
      refine lv_aload_n hx hb dX11_figures_13 rfl (lv_at hl 0 rfl) ?_
      refine va_get (D := X.1) (ci := 11) (v := .int i_place) (C := RX11) (T := TX11) (N := 24) hx hb hts in11 hown hG.1 hP 0 rfl rfl 16 (by decide) w1 (fun _ h9 => h9) rfl dX11_figures_14 ?_
      obtain ⟨o2, ho2, hf⟩ := ob_s hf
      refine xV_i (As := [.int i_place]) (b := a_this) (rest := []) (ws2 := [(a_this, .inr (11, [.int i_length, .ref a_text, .ref a_roundMany, .ref a_blowMany, .ref a_blows, .ref a_forwards, .ref a_downs, .ref a_takens, .ref a_homes, .ref a_noises, .ref a_judgeMany, .ref a_judges, .ref a_delays, .ref a_tolds, .ref a_tens, .int i_keptMany, .int i_place, .ref a_told, .ref a_ways, .ref a_nextWays, .ref a_tallies, .ref a_presses, .ref a_values, .ref a_nextValues])), (a_text, .inl (X.2.1 0, 500, .inl f_text)), (a_told, .inl (X.2.1 0, 7, .inl f_told))]) hx hb hml hts hown hG hA hP hD rfl hS hl.1 (qX11_byteAt l X a_this a_text a_roundMany a_blowMany a_blows a_forwards a_downs a_takens a_homes a_noises a_judgeMany a_judges a_delays a_tolds a_tens a_told a_ways a_nextWays a_tallies a_presses a_values a_nextValues i_length i_keptMany i_place f_text i_place o2 ho2) (cwV (y := yX11_byteAt) 1 hts gX11_figures_X11_byteAt rfl rfl rfl hdvX11_byteAt ⟨Nat.le_of_ble_eq_true rfl, Nat.le_of_ble_eq_true rfl⟩) [0, 1] [2] [1, 2, 0] rfl rfl rfl rfl rfl rfl rfl (ci := 11) rfl 0 rfl rfl rfl (Nat.le_of_ble_eq_true rfl) ⟨Nat.le_of_ble_eq_true rfl, Nat.le_of_ble_eq_true rfl⟩ dX11_figures_17 (fun H locs hP _ hS => ?_)
      refine lv_i2l hx hb dX11_figures_20 rfl ?_
      refine lv_ldc2 (v := (48 : Int64)) hx hb hown w2 dX11_figures_21 ?_
      refine lv_ldc2 (v := (57 : Int64)) hx hb hown w3 dX11_figures_24 ?_
      obtain ⟨o4, ho4, hf⟩ := ob_s hf
      refine xS_i (As := [.long (Int32.toInt64 o2), .long (48 : Int64), .long (57 : Int64)]) (rest := []) (ws2 := [(a_this, .inr (11, [.int i_length, .ref a_text, .ref a_roundMany, .ref a_blowMany, .ref a_blows, .ref a_forwards, .ref a_downs, .ref a_takens, .ref a_homes, .ref a_noises, .ref a_judgeMany, .ref a_judges, .ref a_delays, .ref a_tolds, .ref a_tens, .int i_keptMany, .int i_place, .ref a_told, .ref a_ways, .ref a_nextWays, .ref a_tallies, .ref a_presses, .ref a_values, .ref a_nextValues])), (a_text, .inl (X.2.1 0, 500, .inl f_text)), (a_told, .inl (X.2.1 0, 7, .inl f_told))]) hx hb hml hts hown hG hA hP hD rfl hS hl.1 (qX11_in l X (Int32.toInt64 o2) (48 : Int64) (57 : Int64) o4 ho4) (va_cwS (y := yX11_in) 3 hts gX11_figures_X11_in rfl rfl rfl hdsX11_in ⟨Nat.le_of_ble_eq_true rfl, Nat.le_of_ble_eq_true rfl⟩) [] [0, 1, 2] [0, 1, 2] rfl rfl rfl rfl rfl rfl rfl rfl rfl (Nat.le_of_ble_eq_true rfl) ⟨Nat.le_of_ble_eq_true rfl, Nat.le_of_ble_eq_true rfl⟩ dX11_figures_27 (fun H locs hP _ hS => ?_)
      refine lv_if_eq (tgt := 73) hx hb dX11_figures_30 (by decide) (fun c6 => ?_) (fun c6 => ?_)
      · have hf := xt hf c6
        exact hB73 k2 hk2 l2 l3 l4 i_place f_told  H _ ls hP  hS (lv_sub hl [0, 1, 2, 3, 4] rfl) hf
      · have hf := xf hf c6
        refine lv_iload_n hx hb dX11_figures_33 rfl (lv_at hl 3 rfl) ?_
        refine lv_iconst (v := (4 : Int32)) hx hb dX11_figures_34 (by decide) ?_
        refine lv_icmp_ge (tgt := 73) hx hb dX11_figures_35 (by decide) (fun c7 => ?_) (fun c7 => ?_)
        · have hf := xt hf c7
          exact hB73 k2 hk2 l2 l3 l4 i_place f_told  H _ ls hP  hS (lv_sub hl [0, 1, 2, 3, 4] rfl) hf
        · have hf := xf hf c7
          refine lv_bipush (v := (10 : Int32)) hx hb dX11_figures_38 (by decide) ?_
          refine lv_iload hx hb dX11_figures_40 (lv_at hl 4 rfl) ?_
          refine lv_imul hx hb dX11_figures_42 ?_
          refine lv_aload_n hx hb dX11_figures_43 rfl (lv_at hl 0 rfl) ?_
          refine lv_aload_n hx hb dX11_figures_44 rfl (lv_at hl 0 rfl) ?_
          refine va_get (D := X.1) (ci := 11) (v := .int i_place) (C := RX11) (T := TX11) (N := 24) hx hb hts in11 hown hG.1 hP 0 rfl rfl 16 (by decide) w1 (fun _ h9 => h9) rfl dX11_figures_45 ?_
          obtain ⟨o8, ho8, hf⟩ := ob_s hf
          refine xV_i (As := [.int i_place]) (b := a_this) (rest := [.int ((10 : Int32) * l4)]) (ws2 := [(a_this, .inr (11, [.int i_length, .ref a_text, .ref a_roundMany, .ref a_blowMany, .ref a_blows, .ref a_forwards, .ref a_downs, .ref a_takens, .ref a_homes, .ref a_noises, .ref a_judgeMany, .ref a_judges, .ref a_delays, .ref a_tolds, .ref a_tens, .int i_keptMany, .int i_place, .ref a_told, .ref a_ways, .ref a_nextWays, .ref a_tallies, .ref a_presses, .ref a_values, .ref a_nextValues])), (a_text, .inl (X.2.1 0, 500, .inl f_text)), (a_told, .inl (X.2.1 0, 7, .inl f_told))]) hx hb hml hts hown hG hA hP hD rfl hS hl.1 (qX11_byteAt l X a_this a_text a_roundMany a_blowMany a_blows a_forwards a_downs a_takens a_homes a_noises a_judgeMany a_judges a_delays a_tolds a_tens a_told a_ways a_nextWays a_tallies a_presses a_values a_nextValues i_length i_keptMany i_place f_text i_place o8 ho8) (cwV (y := yX11_byteAt) 1 hts gX11_figures_X11_byteAt rfl rfl rfl hdvX11_byteAt ⟨Nat.le_of_ble_eq_true rfl, Nat.le_of_ble_eq_true rfl⟩) [0, 1] [2] [1, 2, 0] rfl rfl rfl rfl rfl rfl rfl (ci := 11) rfl 0 rfl rfl rfl (Nat.le_of_ble_eq_true rfl) ⟨Nat.le_of_ble_eq_true rfl, Nat.le_of_ble_eq_true rfl⟩ dX11_figures_48 (fun H locs hP _ hS => ?_)
          refine lv_iadd hx hb dX11_figures_51 ?_
          refine lv_bipush (v := (48 : Int32)) hx hb dX11_figures_52 (by decide) ?_
          refine lv_isub hx hb dX11_figures_54 ?_
          refine lv_topi (fun v10 ev10 => ?_)
          have hf := lb_s hf ev10
          refine lv_istore (lv' := [(4, .int v10), (0, .ref a_this), (1, .int x0), (2, .int l2), (3, .int l3)]) hx hb dX11_figures_55 hl (by decide) rfl (fun ls hl => ?_)
          obtain ⟨v11, ev11, hf⟩ := lb_g hf
          refine lv_iinc (v := v11) (lv' := [(3, .int v11), (4, .int v10), (0, .ref a_this), (1, .int x0), (2, .int l2)]) hx hb dX11_figures_57 hl (k := 4) rfl ev11.symm (by decide) rfl (fun ls hl => ?_)
          refine lv_aload_n hx hb dX11_figures_60 rfl (lv_at hl 2 rfl) ?_
          refine lv_dup hx hb dX11_figures_61 rfl ?_
          refine va_get (D := X.1) (ci := 11) (v := .int i_place) (C := RX11) (T := TX11) (N := 24) hx hb hts in11 hown hG.1 hP 0 rfl rfl 16 (by decide) w1 (fun _ h9 => h9) rfl dX11_figures_62 ?_
          refine lv_iconst (v := (1 : Int32)) hx hb dX11_figures_65 (by decide) ?_
          refine lv_iadd hx hb dX11_figures_66 ?_
          refine lv_topi (fun v12 ev12 => ?_)
          have hf := lb_s hf ev12
          refine x_put (ws' := [(a_this, .inr (11, [.int i_length, .ref a_text, .ref a_roundMany, .ref a_blowMany, .ref a_blows, .ref a_forwards, .ref a_downs, .ref a_takens, .ref a_homes, .ref a_noises, .ref a_judgeMany, .ref a_judges, .ref a_delays, .ref a_tolds, .ref a_tens, .int i_keptMany, .int v12, .ref a_told, .ref a_ways, .ref a_nextWays, .ref a_tallies, .ref a_presses, .ref a_values, .ref a_nextValues])), (a_text, .inl (X.2.1 0, 500, .inl f_text)), (a_told, .inl (X.2.1 0, 7, .inl f_told))]) (ty := .int) (C := RX11) (T := TX11) (N := 24) hx hb hts in11 tyX11 tyX11_ok nmX11 hown hG hP hD rfl hS 0 rfl rfl 16 (by decide) w1 rfl (tyX11_ok 16 (by decide)) rfl rfl (Nat.le_of_ble_eq_true rfl) dX11_figures_67 rfl (fun H locs hP hS => ?_)
          refine lv_goto (tgt := 12) hx hb dX11_figures_70 (by decide) ?_
          exact ih l2 v11 v10 v12 f_told  H _ ls hP  hS (lv_sub hl [2, 3, 4, 0, 1] rfl) hf
  have hL2 : ∀ (n : Nat) (l2 : Int32) (i_place : Int32) (f_told : Nat → Int32)  (H : Heap) (locs : List Loc) (ls : Array Slot), va_P X.1 vwCl [(a_this, .inr (11, [.int i_length, .ref a_text, .ref a_roundMany, .ref a_blowMany, .ref a_blows, .ref a_forwards, .ref a_downs, .ref a_takens, .ref a_homes, .ref a_noises, .ref a_judgeMany, .ref a_judges, .ref a_delays, .ref a_tolds, .ref a_tens, .int i_keptMany, .int i_place, .ref a_told, .ref a_ways, .ref a_nextWays, .ref a_tallies, .ref a_presses, .ref a_values, .ref a_nextValues])), (a_text, .inl (X.2.1 0, 500, .inl f_text)), (a_told, .inl (X.2.1 0, 7, .inl f_told))] H → va_S A s.heap H locs → lv_has ls 5 [(0, .ref a_this), (1, .int x0), (2, .int l2)] → mX11_figures_L2 x0 i_length f_text  n l2 i_place f_told = some o → W p l e rmX11_figures s m ([.ref a_this, .int x0] : List Value).toArray below meth c H locs 0 0 Q (F0 m 2 ls []) := by
    intro n
    induction n with
    | zero => intro l2 i_place f_told  H locs ls hP hS hl hf; exact xn hf
    | succ n ih =>
      intro l2 i_place f_told  H locs ls hP hS hl hf
      have hf : mX11_figures_B2 x0 i_length f_text  (mX11_figures_L2 x0 i_length f_text  n) l2 i_place f_told = some o := hf
      generalize mX11_figures_L2 x0 i_length f_text  n = k2 at ih hf
      unfold mX11_figures_B2 at hf
      refine lv_iload_n hx hb dX11_figures_2 rfl (lv_at hl 2 rfl) ?_
      refine lv_iload_n hx hb dX11_figures_3 rfl (lv_at hl 1 rfl) ?_
      refine lv_icmp_ge (tgt := 136) hx hb dX11_figures_4 (by decide) (fun c1 => ?_) (fun c1 => ?_)
      · have hf := xt hf c1
        refine lv_iconst (v := (1 : Int32)) hx hb dX11_figures_136 (by decide) ?_
        obtain rfl := Option.some.inj hf
        exact ret H _ ls _ (show narrow .boolean (.int (1 : Int32)) = .int (1 : Int32) from rfl) hP hD hS dX11_figures_137
      · have hf := xf hf c1
        refine lv_iconst (v := (0 : Int32)) hx hb dX11_figures_7 (by decide) ?_
        refine lv_istore_n (lv' := [(3, .int (0 : Int32)), (0, .ref a_this), (1, .int x0), (2, .int l2)]) hx hb dX11_figures_8 rfl hl (by decide) rfl (fun ls hl => ?_)
        refine lv_iconst (v := (0 : Int32)) hx hb dX11_figures_9 (by decide) ?_
        refine lv_istore (lv' := [(4, .int (0 : Int32)), (3, .int (0 : Int32)), (0, .ref a_this), (1, .int x0), (2, .int l2)]) hx hb dX11_figures_10 hl (by decide) rfl (fun ls hl => ?_)
        exact hL12 k2 ih FUEL l2 (0 : Int32) (0 : Int32) i_place f_told  H _ ls hP  hS (lv_sub hl [2, 3, 4, 1, 0] rfl) hf
  unfold mX11_figures at hf
  refine lv_iconst (v := (0 : Int32)) hx hb dX11_figures_0 (by decide) ?_
  refine lv_istore_n (lv' := [(2, .int (0 : Int32)), (0, .ref a_this), (1, .int x0)]) hx hb dX11_figures_1 rfl hl (by decide) rfl (fun ls hl => ?_)
  exact hL2  FUEL (0 : Int32) i_place f_told  H _ ls hP  hS (lv_sub hl [1, 2, 0] rfl) hf
def mX11_blowItem_B86 (i_length : Int32) (f_text : Nat → Int32) (k86 : Int32 → Int32 → Int32 → (Nat → Int32) → (Nat → Int32) → (Nat → Int32) → Option (Int32 × Int32 × (Nat → Int32) × (Nat → Int32) × (Nat → Int32))) (l1 : Int32) (l2 : Int32) (i_place : Int32) (f_told : Nat → Int32) (f_blows : Nat → Int32) (f_blowMany : Nat → Int32) :
  Option (Int32 × Int32 × (Nat → Int32) × (Nat → Int32) × (Nat → Int32)) :=
  if (5 : Int32) ≤ l2 then (lb (upd f_blowMany (1 : Int32).toNatClampNeg ((f_blowMany (1 : Int32).toNatClampNeg) + (1 : Int32))) fun g14 =>
  some ((1 : Int32), i_place, f_told, f_blows, g14)) else (gi l2 7 <|
  gi (((200 : Int32) + ((5 : Int32) * l1)) + l2) 400 <|
  lb (upd f_blows (((200 : Int32) + ((5 : Int32) * l1)) + l2).toNatClampNeg (f_told l2.toNatClampNeg)) fun g17 =>
  lb (l2 + (1 : Int32)) fun v18 =>
  k86 l1 v18 i_place f_told g17 f_blowMany)
def mX11_blowItem_L86 (i_length : Int32) (f_text : Nat → Int32) (n : Nat) (l1 : Int32) (l2 : Int32) (i_place : Int32) (f_told : Nat → Int32) (f_blows : Nat → Int32) (f_blowMany : Nat → Int32) :
  Option (Int32 × Int32 × (Nat → Int32) × (Nat → Int32) × (Nat → Int32)) :=
  loopN (fun k (s : Int32 × Int32 × Int32 × (Nat → Int32) × (Nat → Int32) × (Nat → Int32)) => mX11_blowItem_B86 i_length f_text  (fun l1 l2 i_place f_told f_blows f_blowMany => k (l1, l2, i_place, f_told, f_blows, f_blowMany)) s.1 s.2.1 s.2.2.1 s.2.2.2.1 s.2.2.2.2.1 s.2.2.2.2.2) n (l1, l2, i_place, f_told, f_blows, f_blowMany)
def mX11_blowItem (i_length : Int32) (i_place : Int32) (f_blowMany : Nat → Int32) (f_blows : Nat → Int32) (f_text : Nat → Int32) (f_told : Nat → Int32) :
  Option (Int32 × Int32 × (Nat → Int32) × (Nat → Int32) × (Nat → Int32)) :=
  lb (f_blowMany (1 : Int32).toNatClampNeg) fun v1 =>
  (mX11_figures (5 : Int32) i_length i_place f_text f_told).bind fun o2 =>
  if o2.1 = 0 then (some ((0 : Int32), o2.2.1, o2.2.2, f_blows, f_blowMany)) else (if v1 = (40 : Int32) then (some ((0 : Int32), o2.2.1, o2.2.2, f_blows, f_blowMany)) else (if (11 : Int32) < (o2.2.2 (0 : Int32).toNatClampNeg) then (some ((0 : Int32), o2.2.1, o2.2.2, f_blows, f_blowMany)) else (if (179 : Int32) < (o2.2.2 (1 : Int32).toNatClampNeg) then (some ((0 : Int32), o2.2.1, o2.2.2, f_blows, f_blowMany)) else (if (1 : Int32) < (o2.2.2 (2 : Int32).toNatClampNeg) then (some ((0 : Int32), o2.2.1, o2.2.2, f_blows, f_blowMany)) else ((mX11_in (Int32.toInt64 (o2.2.2 (3 : Int32).toNatClampNeg)) (1 : Int64) (9 : Int64)).bind fun o9 =>
  if o9 = 0 then (some ((0 : Int32), o2.2.1, o2.2.2, f_blows, f_blowMany)) else (if (o2.2.2 (4 : Int32).toNatClampNeg) ≤ (11 : Int32) then (mX11_blowItem_L86 i_length f_text  FUEL v1 (0 : Int32) o2.2.1 o2.2.2 f_blows f_blowMany) else (some ((0 : Int32), o2.2.1, o2.2.2, f_blows, f_blowMany))))))))
theorem hdsX11_blowItem : yX11_blowItem.cls ≠ "java/lang/invoke/MethodHandle" ∧ yX11_blowItem.cls ≠ "java/lang/invoke/VarHandle" ∧ (parseMethodDescriptor yX11_blowItem.desc).map (fun d => d.parameters.length) = some 0 := by decide +kernel
theorem hdvX11_blowItem : yX11_blowItem.cls = RX11 ∧ yX11_blowItem.cls ≠ "java/lang/invoke/MethodHandle" ∧ yX11_blowItem.cls ≠ "java/lang/invoke/VarHandle" ∧ (parseMethodDescriptor yX11_blowItem.desc).map (fun d => d.parameters.length) = some 0 := by decide +kernel
abbrev rmX11_blowItem : Room := { frames := 2, cells := 0, slots := 0, locals := 49 }
set_option maxHeartbeats 4000000 in
set_option maxRecDepth 100000 in
theorem qX11_blowItem (l : Launch) (X : XT) (a_this : Nat) (a_blowMany : Nat) (a_blows : Nat) (a_text : Nat) (a_told : Nat) (a_roundMany : Nat) (a_forwards : Nat) (a_downs : Nat) (a_takens : Nat) (a_homes : Nat) (a_noises : Nat) (a_judgeMany : Nat) (a_judges : Nat) (a_delays : Nat) (a_tolds : Nat) (a_tens : Nat) (a_ways : Nat) (a_nextWays : Nat) (a_tallies : Nat) (a_presses : Nat) (a_values : Nat) (a_nextValues : Nat)  (i_length : Int32) (i_keptMany : Int32) (i_place : Int32) (f_blowMany : Nat → Int32) (f_blows : Nat → Int32) (f_text : Nat → Int32) (f_told : Nat → Int32)  (o : Int32 × Int32 × (Nat → Int32) × (Nat → Int32) × (Nat → Int32)) (hf : mX11_blowItem i_length i_place f_blowMany f_blows f_text f_told = some o) :
    MI l yX11_blowItem wsX11_blowItem rmX11_blowItem X [.ref a_this] [(a_this, .inr (11, [.int i_length, .ref a_text, .ref a_roundMany, .ref a_blowMany, .ref a_blows, .ref a_forwards, .ref a_downs, .ref a_takens, .ref a_homes, .ref a_noises, .ref a_judgeMany, .ref a_judges, .ref a_delays, .ref a_tolds, .ref a_tens, .int i_keptMany, .int i_place, .ref a_told, .ref a_ways, .ref a_nextWays, .ref a_tallies, .ref a_presses, .ref a_values, .ref a_nextValues])), (a_blowMany, .inl (X.2.1 0, 2, .inl f_blowMany)), (a_blows, .inl (X.2.1 0, 400, .inl f_blows)), (a_text, .inl (X.2.1 0, 500, .inl f_text)), (a_told, .inl (X.2.1 0, 7, .inl f_told))]  [(a_this, .inr (11, [.int i_length, .ref a_text, .ref a_roundMany, .ref a_blowMany, .ref a_blows, .ref a_forwards, .ref a_downs, .ref a_takens, .ref a_homes, .ref a_noises, .ref a_judgeMany, .ref a_judges, .ref a_delays, .ref a_tolds, .ref a_tens, .int i_keptMany, .int o.2.1, .ref a_told, .ref a_ways, .ref a_nextWays, .ref a_tallies, .ref a_presses, .ref a_values, .ref a_nextValues])), (a_blowMany, .inl (X.2.1 0, 2, .inl o.2.2.2.2)), (a_blows, .inl (X.2.1 0, 400, .inl o.2.2.2.1)), (a_text, .inl (X.2.1 0, 500, .inl f_text)), (a_told, .inl (X.2.1 0, 7, .inl o.2.2.1))] o.1 := by
  refine MI_ofH (cc := cX11_blowItem) (maxL := 3) (rt := .boolean) (by decide) rfl (Nat.le_of_ble_eq_true rfl) ?_
  intro p e s m below meth c A Q H ls hx hb hml hts hown hA hD hG hP hS hl ret
  have hown : s.vm.findClass RX11 = some m.cls := hown
  have hD : aD A [a_this, a_blowMany, a_blows, a_text, a_told] := hD
  have hl : lv_has ls 3 [(0, .ref a_this)] := hl
  have w1 := hts (.fieldLink RX11 16 "ThreeCardsModel" "blowMany" "[I") (List.mem_of_getElem? (i := 1) rfl)
  have w2 := hts (.fieldLink RX11 52 "ThreeCardsModel" "told" "[I") (List.mem_of_getElem? (i := 2) rfl)
  have w3 := hts (.constantLong RX11 107 (9)) (List.mem_of_getElem? (i := 3) rfl)
  have w4 := hts (.fieldLink RX11 19 "ThreeCardsModel" "blows" "[I") (List.mem_of_getElem? (i := 4) rfl)
  have in11 : ∀ w ∈ u_ws RX11 TX11 24, w ∈ wsX11_blowItem := by decide +kernel
  have hL86 : ∀ (n : Nat) (l1 : Int32) (l2 : Int32) (i_place : Int32) (f_told : Nat → Int32) (f_blows : Nat → Int32) (f_blowMany : Nat → Int32)  (H : Heap) (locs : List Loc) (ls : Array Slot), va_P X.1 vwCl [(a_this, .inr (11, [.int i_length, .ref a_text, .ref a_roundMany, .ref a_blowMany, .ref a_blows, .ref a_forwards, .ref a_downs, .ref a_takens, .ref a_homes, .ref a_noises, .ref a_judgeMany, .ref a_judges, .ref a_delays, .ref a_tolds, .ref a_tens, .int i_keptMany, .int i_place, .ref a_told, .ref a_ways, .ref a_nextWays, .ref a_tallies, .ref a_presses, .ref a_values, .ref a_nextValues])), (a_blowMany, .inl (X.2.1 0, 2, .inl f_blowMany)), (a_blows, .inl (X.2.1 0, 400, .inl f_blows)), (a_text, .inl (X.2.1 0, 500, .inl f_text)), (a_told, .inl (X.2.1 0, 7, .inl f_told))] H → va_S A s.heap H locs → lv_has ls 3 [(0, .ref a_this), (1, .int l1), (2, .int l2)] → mX11_blowItem_L86 i_length f_text  n l1 l2 i_place f_told f_blows f_blowMany = some o → W p l e rmX11_blowItem s m ([.ref a_this] : List Value).toArray below meth c H locs 0 0 Q (F0 m 86 ls []) := by
    intro n
    induction n with
    | zero => intro l1 l2 i_place f_told f_blows f_blowMany  H locs ls hP hS hl hf; exact xn hf
    | succ n ih =>
      intro l1 l2 i_place f_told f_blows f_blowMany  H locs ls hP hS hl hf
      have hf : mX11_blowItem_B86 i_length f_text  (mX11_blowItem_L86 i_length f_text  n) l1 l2 i_place f_told f_blows f_blowMany = some o := hf
      generalize mX11_blowItem_L86 i_length f_text  n = k86 at ih hf
      unfold mX11_blowItem_B86 at hf
      refine lv_iload_n hx hb dX11_blowItem_86 rfl (lv_at hl 2 rfl) ?_
      refine lv_iconst (v := (5 : Int32)) hx hb dX11_blowItem_87 (by decide) ?_
      refine lv_icmp_ge (tgt := 117) hx hb dX11_blowItem_88 (by decide) (fun c13 => ?_) (fun c13 => ?_)
      · have hf := xt hf c13
        refine lv_aload_n hx hb dX11_blowItem_117 rfl (lv_at hl 0 rfl) ?_
        refine va_get (D := X.1) (ci := 11) (v := .ref a_blowMany) (C := RX11) (T := TX11) (N := 24) hx hb hts in11 hown hG.1 hP 0 rfl rfl 3 (by decide) w1 (fun _ h9 => h9) rfl dX11_blowItem_118 ?_
        refine lv_iconst (v := (1 : Int32)) hx hb dX11_blowItem_121 (by decide) ?_
        refine lv_dup2_11 hx hb dX11_blowItem_122 rfl rfl ?_
        refine va_iald (D := X.1) hx hb hG.1 hP 1 0 rfl rfl (vp_lit (by decide)) dX11_blowItem_123 ?_
        refine lv_iconst (v := (1 : Int32)) hx hb dX11_blowItem_124 (by decide) ?_
        refine lv_iadd hx hb dX11_blowItem_125 ?_
        obtain ⟨g14, eg14, hf⟩ := lb_g hf
        refine x_iast (ws' := [(a_this, .inr (11, [.int i_length, .ref a_text, .ref a_roundMany, .ref a_blowMany, .ref a_blows, .ref a_forwards, .ref a_downs, .ref a_takens, .ref a_homes, .ref a_noises, .ref a_judgeMany, .ref a_judges, .ref a_delays, .ref a_tolds, .ref a_tens, .int i_keptMany, .int i_place, .ref a_told, .ref a_ways, .ref a_nextWays, .ref a_tallies, .ref a_presses, .ref a_values, .ref a_nextValues])), (a_blowMany, .inl (X.2.1 0, 2, .inl g14)), (a_blows, .inl (X.2.1 0, 400, .inl f_blows)), (a_text, .inl (X.2.1 0, 500, .inl f_text)), (a_told, .inl (X.2.1 0, 7, .inl f_told))]) hx hb hG hP hD rfl hS 1 rfl (vp_lit (by decide)) dX11_blowItem_126 eg14 rfl (fun H locs hP hS => ?_)
        refine lv_iconst (v := (1 : Int32)) hx hb dX11_blowItem_127 (by decide) ?_
        obtain rfl := Option.some.inj hf
        exact ret H _ ls _ (show narrow .boolean (.int (1 : Int32)) = .int (1 : Int32) from rfl) hP hD hS dX11_blowItem_128
      · have hf := xf hf c13
        refine lv_aload_n hx hb dX11_blowItem_91 rfl (lv_at hl 0 rfl) ?_
        refine va_get (D := X.1) (ci := 11) (v := .ref a_blows) (C := RX11) (T := TX11) (N := 24) hx hb hts in11 hown hG.1 hP 0 rfl rfl 4 (by decide) w4 (fun _ h9 => h9) rfl dX11_blowItem_92 ?_
        refine lv_sipush (v := (200 : Int32)) hx hb dX11_blowItem_95 (by decide) ?_
        refine lv_iconst (v := (5 : Int32)) hx hb dX11_blowItem_98 (by decide) ?_
        refine lv_iload_n hx hb dX11_blowItem_99 rfl (lv_at hl 1 rfl) ?_
        refine lv_imul hx hb dX11_blowItem_100 ?_
        refine lv_iadd hx hb dX11_blowItem_101 ?_
        refine lv_iload_n hx hb dX11_blowItem_102 rfl (lv_at hl 2 rfl) ?_
        refine lv_iadd hx hb dX11_blowItem_103 ?_
        refine lv_aload_n hx hb dX11_blowItem_104 rfl (lv_at hl 0 rfl) ?_
        refine va_get (D := X.1) (ci := 11) (v := .ref a_told) (C := RX11) (T := TX11) (N := 24) hx hb hts in11 hown hG.1 hP 0 rfl rfl 17 (by decide) w2 (fun _ h9 => h9) rfl dX11_blowItem_105 ?_
        refine lv_iload_n hx hb dX11_blowItem_108 rfl (lv_at hl 2 rfl) ?_
        obtain ⟨h15, hf⟩ := gi_s hf
        refine va_iald (D := X.1) hx hb hG.1 hP 4 0 rfl rfl h15 dX11_blowItem_109 ?_
        obtain ⟨h16, hf⟩ := gi_s hf
        obtain ⟨g17, eg17, hf⟩ := lb_g hf
        refine x_iast (ws' := [(a_this, .inr (11, [.int i_length, .ref a_text, .ref a_roundMany, .ref a_blowMany, .ref a_blows, .ref a_forwards, .ref a_downs, .ref a_takens, .ref a_homes, .ref a_noises, .ref a_judgeMany, .ref a_judges, .ref a_delays, .ref a_tolds, .ref a_tens, .int i_keptMany, .int i_place, .ref a_told, .ref a_ways, .ref a_nextWays, .ref a_tallies, .ref a_presses, .ref a_values, .ref a_nextValues])), (a_blowMany, .inl (X.2.1 0, 2, .inl f_blowMany)), (a_blows, .inl (X.2.1 0, 400, .inl g17)), (a_text, .inl (X.2.1 0, 500, .inl f_text)), (a_told, .inl (X.2.1 0, 7, .inl f_told))]) hx hb hG hP hD rfl hS 2 rfl h16 dX11_blowItem_110 eg17 rfl (fun H locs hP hS => ?_)
        obtain ⟨v18, ev18, hf⟩ := lb_g hf
        refine lv_iinc (v := v18) (lv' := [(2, .int v18), (0, .ref a_this), (1, .int l1)]) hx hb dX11_blowItem_111 hl (k := 2) rfl ev18.symm (by decide) rfl (fun ls hl => ?_)
        refine lv_goto (tgt := 86) hx hb dX11_blowItem_114 (by decide) ?_
        exact ih l1 v18 i_place f_told g17 f_blowMany  H _ ls hP  hS (lv_sub hl [1, 2, 0] rfl) hf
  unfold mX11_blowItem at hf
  refine lv_aload_n hx hb dX11_blowItem_0 rfl (lv_at hl 0 rfl) ?_
  refine va_get (D := X.1) (ci := 11) (v := .ref a_blowMany) (C := RX11) (T := TX11) (N := 24) hx hb hts in11 hown hG.1 hP 0 rfl rfl 3 (by decide) w1 (fun _ h9 => h9) rfl dX11_blowItem_1 ?_
  refine lv_iconst (v := (1 : Int32)) hx hb dX11_blowItem_4 (by decide) ?_
  refine va_iald (D := X.1) hx hb hG.1 hP 1 0 rfl rfl (vp_lit (by decide)) dX11_blowItem_5 ?_
  refine lv_topi (fun v1 ev1 => ?_)
  have hf := lb_s hf ev1
  refine lv_istore_n (lv' := [(1, .int v1), (0, .ref a_this)]) hx hb dX11_blowItem_6 rfl hl (by decide) rfl (fun ls hl => ?_)
  refine lv_aload_n hx hb dX11_blowItem_7 rfl (lv_at hl 1 rfl) ?_
  refine lv_iconst (v := (5 : Int32)) hx hb dX11_blowItem_8 (by decide) ?_
  obtain ⟨o2, ho2, hf⟩ := ob_s hf
  refine xV_i (As := [.int (5 : Int32)]) (b := a_this) (rest := []) (ws2 := [(a_this, .inr (11, [.int i_length, .ref a_text, .ref a_roundMany, .ref a_blowMany, .ref a_blows, .ref a_forwards, .ref a_downs, .ref a_takens, .ref a_homes, .ref a_noises, .ref a_judgeMany, .ref a_judges, .ref a_delays, .ref a_tolds, .ref a_tens, .int i_keptMany, .int o2.2.1, .ref a_told, .ref a_ways, .ref a_nextWays, .ref a_tallies, .ref a_presses, .ref a_values, .ref a_nextValues])), (a_blowMany, .inl (X.2.1 0, 2, .inl f_blowMany)), (a_blows, .inl (X.2.1 0, 400, .inl f_blows)), (a_text, .inl (X.2.1 0, 500, .inl f_text)), (a_told, .inl (X.2.1 0, 7, .inl o2.2.2))]) hx hb hml hts hown hG hA hP hD rfl hS hl.1 (qX11_figures l X a_this a_text a_told a_roundMany a_blowMany a_blows a_forwards a_downs a_takens a_homes a_noises a_judgeMany a_judges a_delays a_tolds a_tens a_ways a_nextWays a_tallies a_presses a_values a_nextValues i_length i_keptMany i_place f_text f_told (5 : Int32) o2 ho2) (cwV (y := yX11_figures) 1 hts gX11_blowItem_X11_figures rfl rfl rfl hdvX11_figures ⟨Nat.le_of_ble_eq_true rfl, Nat.le_of_ble_eq_true rfl⟩) [0, 3, 4] [1, 2] [2, 0, 1, 3, 4] rfl rfl rfl rfl rfl rfl rfl (ci := 11) rfl 0 rfl rfl rfl (Nat.le_of_ble_eq_true rfl) ⟨Nat.le_of_ble_eq_true rfl, Nat.le_of_ble_eq_true rfl⟩ dX11_blowItem_9 (fun H locs hP _ hS => ?_)
  refine lv_if_eq (tgt := 82) hx hb dX11_blowItem_12 (by decide) (fun c4 => ?_) (fun c4 => ?_)
  · have hf := xt hf c4
    refine lv_iconst (v := (0 : Int32)) hx hb dX11_blowItem_82 (by decide) ?_
    obtain rfl := Option.some.inj hf
    exact ret H _ ls _ (show narrow .boolean (.int (0 : Int32)) = .int (0 : Int32) from rfl) hP hD hS dX11_blowItem_83
  · have hf := xf hf c4
    refine lv_iload_n hx hb dX11_blowItem_15 rfl (lv_at hl 0 rfl) ?_
    refine lv_bipush (v := (40 : Int32)) hx hb dX11_blowItem_16 (by decide) ?_
    refine lv_icmp_eq (tgt := 82) hx hb dX11_blowItem_18 (by decide) (fun c5 => ?_) (fun c5 => ?_)
    · have hf := xt hf c5
      refine lv_iconst (v := (0 : Int32)) hx hb dX11_blowItem_82 (by decide) ?_
      obtain rfl := Option.some.inj hf
      exact ret H _ ls _ (show narrow .boolean (.int (0 : Int32)) = .int (0 : Int32) from rfl) hP hD hS dX11_blowItem_83
    · have hf := xf hf c5
      refine lv_aload_n hx hb dX11_blowItem_21 rfl (lv_at hl 1 rfl) ?_
      refine va_get (D := X.1) (ci := 11) (v := .ref a_told) (C := RX11) (T := TX11) (N := 24) hx hb hts in11 hown hG.1 hP 0 rfl rfl 17 (by decide) w2 (fun _ h9 => h9) rfl dX11_blowItem_22 ?_
      refine lv_iconst (v := (0 : Int32)) hx hb dX11_blowItem_25 (by decide) ?_
      refine va_iald (D := X.1) hx hb hG.1 hP 4 0 rfl rfl (vp_lit (by decide)) dX11_blowItem_26 ?_
      refine lv_bipush (v := (11 : Int32)) hx hb dX11_blowItem_27 (by decide) ?_
      refine lv_icmp_gt (tgt := 82) hx hb dX11_blowItem_29 (by decide) (fun c6 => ?_) (fun c6 => ?_)
      · have hf := xt hf c6
        refine lv_iconst (v := (0 : Int32)) hx hb dX11_blowItem_82 (by decide) ?_
        obtain rfl := Option.some.inj hf
        exact ret H _ ls _ (show narrow .boolean (.int (0 : Int32)) = .int (0 : Int32) from rfl) hP hD hS dX11_blowItem_83
      · have hf := xf hf c6
        refine lv_aload_n hx hb dX11_blowItem_32 rfl (lv_at hl 1 rfl) ?_
        refine va_get (D := X.1) (ci := 11) (v := .ref a_told) (C := RX11) (T := TX11) (N := 24) hx hb hts in11 hown hG.1 hP 0 rfl rfl 17 (by decide) w2 (fun _ h9 => h9) rfl dX11_blowItem_33 ?_
        refine lv_iconst (v := (1 : Int32)) hx hb dX11_blowItem_36 (by decide) ?_
        refine va_iald (D := X.1) hx hb hG.1 hP 4 0 rfl rfl (vp_lit (by decide)) dX11_blowItem_37 ?_
        refine lv_sipush (v := (179 : Int32)) hx hb dX11_blowItem_38 (by decide) ?_
        refine lv_icmp_gt (tgt := 82) hx hb dX11_blowItem_41 (by decide) (fun c7 => ?_) (fun c7 => ?_)
        · have hf := xt hf c7
          refine lv_iconst (v := (0 : Int32)) hx hb dX11_blowItem_82 (by decide) ?_
          obtain rfl := Option.some.inj hf
          exact ret H _ ls _ (show narrow .boolean (.int (0 : Int32)) = .int (0 : Int32) from rfl) hP hD hS dX11_blowItem_83
        · have hf := xf hf c7
          refine lv_aload_n hx hb dX11_blowItem_44 rfl (lv_at hl 1 rfl) ?_
          refine va_get (D := X.1) (ci := 11) (v := .ref a_told) (C := RX11) (T := TX11) (N := 24) hx hb hts in11 hown hG.1 hP 0 rfl rfl 17 (by decide) w2 (fun _ h9 => h9) rfl dX11_blowItem_45 ?_
          refine lv_iconst (v := (2 : Int32)) hx hb dX11_blowItem_48 (by decide) ?_
          refine va_iald (D := X.1) hx hb hG.1 hP 4 0 rfl rfl (vp_lit (by decide)) dX11_blowItem_49 ?_
          refine lv_iconst (v := (1 : Int32)) hx hb dX11_blowItem_50 (by decide) ?_
          refine lv_icmp_gt (tgt := 82) hx hb dX11_blowItem_51 (by decide) (fun c8 => ?_) (fun c8 => ?_)
          · have hf := xt hf c8
            refine lv_iconst (v := (0 : Int32)) hx hb dX11_blowItem_82 (by decide) ?_
            obtain rfl := Option.some.inj hf
            exact ret H _ ls _ (show narrow .boolean (.int (0 : Int32)) = .int (0 : Int32) from rfl) hP hD hS dX11_blowItem_83
          · have hf := xf hf c8
            refine lv_aload_n hx hb dX11_blowItem_54 rfl (lv_at hl 1 rfl) ?_
            refine va_get (D := X.1) (ci := 11) (v := .ref a_told) (C := RX11) (T := TX11) (N := 24) hx hb hts in11 hown hG.1 hP 0 rfl rfl 17 (by decide) w2 (fun _ h9 => h9) rfl dX11_blowItem_55 ?_
            refine lv_iconst (v := (3 : Int32)) hx hb dX11_blowItem_58 (by decide) ?_
            refine va_iald (D := X.1) hx hb hG.1 hP 4 0 rfl rfl (vp_lit (by decide)) dX11_blowItem_59 ?_
            refine lv_i2l hx hb dX11_blowItem_60 rfl ?_
            refine lv_lconst (v := (1 : Int64)) hx hb dX11_blowItem_61 rfl ?_
            refine lv_ldc2 (v := (9 : Int64)) hx hb hown w3 dX11_blowItem_62 ?_
            obtain ⟨o9, ho9, hf⟩ := ob_s hf
            refine xS_i (As := [.long (Int32.toInt64 (o2.2.2 (3 : Int32).toNatClampNeg)), .long (1 : Int64), .long (9 : Int64)]) (rest := []) (ws2 := [(a_this, .inr (11, [.int i_length, .ref a_text, .ref a_roundMany, .ref a_blowMany, .ref a_blows, .ref a_forwards, .ref a_downs, .ref a_takens, .ref a_homes, .ref a_noises, .ref a_judgeMany, .ref a_judges, .ref a_delays, .ref a_tolds, .ref a_tens, .int i_keptMany, .int o2.2.1, .ref a_told, .ref a_ways, .ref a_nextWays, .ref a_tallies, .ref a_presses, .ref a_values, .ref a_nextValues])), (a_blowMany, .inl (X.2.1 0, 2, .inl f_blowMany)), (a_blows, .inl (X.2.1 0, 400, .inl f_blows)), (a_text, .inl (X.2.1 0, 500, .inl f_text)), (a_told, .inl (X.2.1 0, 7, .inl o2.2.2))]) hx hb hml hts hown hG hA hP hD rfl hS hl.1 (qX11_in l X (Int32.toInt64 (o2.2.2 (3 : Int32).toNatClampNeg)) (1 : Int64) (9 : Int64) o9 ho9) (va_cwS (y := yX11_in) 3 hts gX11_blowItem_X11_in rfl rfl rfl hdsX11_in ⟨Nat.le_of_ble_eq_true rfl, Nat.le_of_ble_eq_true rfl⟩) [] [0, 1, 2, 3, 4] [0, 1, 2, 3, 4] rfl rfl rfl rfl rfl rfl rfl rfl rfl (Nat.le_of_ble_eq_true rfl) ⟨Nat.le_of_ble_eq_true rfl, Nat.le_of_ble_eq_true rfl⟩ dX11_blowItem_65 (fun H locs hP _ hS => ?_)
            refine lv_if_eq (tgt := 82) hx hb dX11_blowItem_68 (by decide) (fun c11 => ?_) (fun c11 => ?_)
            · have hf := xt hf c11
              refine lv_iconst (v := (0 : Int32)) hx hb dX11_blowItem_82 (by decide) ?_
              obtain rfl := Option.some.inj hf
              exact ret H _ ls _ (show narrow .boolean (.int (0 : Int32)) = .int (0 : Int32) from rfl) hP hD hS dX11_blowItem_83
            · have hf := xf hf c11
              refine lv_aload_n hx hb dX11_blowItem_71 rfl (lv_at hl 1 rfl) ?_
              refine va_get (D := X.1) (ci := 11) (v := .ref a_told) (C := RX11) (T := TX11) (N := 24) hx hb hts in11 hown hG.1 hP 0 rfl rfl 17 (by decide) w2 (fun _ h9 => h9) rfl dX11_blowItem_72 ?_
              refine lv_iconst (v := (4 : Int32)) hx hb dX11_blowItem_75 (by decide) ?_
              refine va_iald (D := X.1) hx hb hG.1 hP 4 0 rfl rfl (vp_lit (by decide)) dX11_blowItem_76 ?_
              refine lv_bipush (v := (11 : Int32)) hx hb dX11_blowItem_77 (by decide) ?_
              refine lv_icmp_le (tgt := 84) hx hb dX11_blowItem_79 (by decide) (fun c12 => ?_) (fun c12 => ?_)
              · have hf := xt hf c12
                refine lv_iconst (v := (0 : Int32)) hx hb dX11_blowItem_84 (by decide) ?_
                refine lv_istore_n (lv' := [(2, .int (0 : Int32)), (1, .int v1), (0, .ref a_this)]) hx hb dX11_blowItem_85 rfl hl (by decide) rfl (fun ls hl => ?_)
                exact hL86  FUEL v1 (0 : Int32) o2.2.1 o2.2.2 f_blows f_blowMany  H _ ls hP  hS (lv_sub hl [2, 1, 0] rfl) hf
              · have hf := xf hf c12
                refine lv_iconst (v := (0 : Int32)) hx hb dX11_blowItem_82 (by decide) ?_
                obtain rfl := Option.some.inj hf
                exact ret H _ ls _ (show narrow .boolean (.int (0 : Int32)) = .int (0 : Int32) from rfl) hP hD hS dX11_blowItem_83
def mX11_judgeItem_B110 (i_length : Int32) (f_text : Nat → Int32) (k110 : Int32 → Int32 → Int32 → (Nat → Int32) → (Nat → Int32) → (Nat → Int32) → Option (Int32 × Int32 × (Nat → Int32) × (Nat → Int32) × (Nat → Int32))) (l1 : Int32) (l2 : Int32) (i_place : Int32) (f_told : Nat → Int32) (f_judges : Nat → Int32) (f_judgeMany : Nat → Int32) :
  Option (Int32 × Int32 × (Nat → Int32) × (Nat → Int32) × (Nat → Int32)) :=
  if (7 : Int32) ≤ l2 then (lb (upd f_judgeMany (1 : Int32).toNatClampNeg ((f_judgeMany (1 : Int32).toNatClampNeg) + (1 : Int32))) fun g16 =>
  some ((1 : Int32), i_place, f_told, f_judges, g16)) else (gi l2 7 <|
  gi (((56 : Int32) + ((7 : Int32) * l1)) + l2) 112 <|
  lb (upd f_judges (((56 : Int32) + ((7 : Int32) * l1)) + l2).toNatClampNeg (f_told l2.toNatClampNeg)) fun g19 =>
  lb (l2 + (1 : Int32)) fun v20 =>
  k110 l1 v20 i_place f_told g19 f_judgeMany)
def mX11_judgeItem_L110 (i_length : Int32) (f_text : Nat → Int32) (n : Nat) (l1 : Int32) (l2 : Int32) (i_place : Int32) (f_told : Nat → Int32) (f_judges : Nat → Int32) (f_judgeMany : Nat → Int32) :
  Option (Int32 × Int32 × (Nat → Int32) × (Nat → Int32) × (Nat → Int32)) :=
  loopN (fun k (s : Int32 × Int32 × Int32 × (Nat → Int32) × (Nat → Int32) × (Nat → Int32)) => mX11_judgeItem_B110 i_length f_text  (fun l1 l2 i_place f_told f_judges f_judgeMany => k (l1, l2, i_place, f_told, f_judges, f_judgeMany)) s.1 s.2.1 s.2.2.1 s.2.2.2.1 s.2.2.2.2.1 s.2.2.2.2.2) n (l1, l2, i_place, f_told, f_judges, f_judgeMany)
def mX11_judgeItem (i_length : Int32) (i_place : Int32) (f_judgeMany : Nat → Int32) (f_judges : Nat → Int32) (f_text : Nat → Int32) (f_told : Nat → Int32) :
  Option (Int32 × Int32 × (Nat → Int32) × (Nat → Int32) × (Nat → Int32)) :=
  lb (f_judgeMany (1 : Int32).toNatClampNeg) fun v1 =>
  (mX11_figures (7 : Int32) i_length i_place f_text f_told).bind fun o2 =>
  if o2.1 = 0 then (some ((0 : Int32), o2.2.1, o2.2.2, f_judges, f_judgeMany)) else (if v1 = (8 : Int32) then (some ((0 : Int32), o2.2.1, o2.2.2, f_judges, f_judgeMany)) else (if (11 : Int32) < (o2.2.2 (0 : Int32).toNatClampNeg) then (some ((0 : Int32), o2.2.1, o2.2.2, f_judges, f_judgeMany)) else (if (9 : Int32) < (o2.2.2 (1 : Int32).toNatClampNeg) then (some ((0 : Int32), o2.2.1, o2.2.2, f_judges, f_judgeMany)) else (if (9 : Int32) < (o2.2.2 (2 : Int32).toNatClampNeg) then (some ((0 : Int32), o2.2.1, o2.2.2, f_judges, f_judgeMany)) else (if (40 : Int32) < (o2.2.2 (3 : Int32).toNatClampNeg) then (some ((0 : Int32), o2.2.1, o2.2.2, f_judges, f_judgeMany)) else ((mX11_in (Int32.toInt64 (o2.2.2 (4 : Int32).toNatClampNeg)) (1 : Int64) (9 : Int64)).bind fun o10 =>
  if o10 = 0 then (some ((0 : Int32), o2.2.1, o2.2.2, f_judges, f_judgeMany)) else (if (9 : Int32) < (o2.2.2 (5 : Int32).toNatClampNeg) then (some ((0 : Int32), o2.2.1, o2.2.2, f_judges, f_judgeMany)) else (if (o2.2.2 (6 : Int32).toNatClampNeg) ≤ (99 : Int32) then (mX11_judgeItem_L110 i_length f_text  FUEL v1 (0 : Int32) o2.2.1 o2.2.2 f_judges f_judgeMany) else (some ((0 : Int32), o2.2.1, o2.2.2, f_judges, f_judgeMany))))))))))
theorem hdsX11_judgeItem : yX11_judgeItem.cls ≠ "java/lang/invoke/MethodHandle" ∧ yX11_judgeItem.cls ≠ "java/lang/invoke/VarHandle" ∧ (parseMethodDescriptor yX11_judgeItem.desc).map (fun d => d.parameters.length) = some 0 := by decide +kernel
theorem hdvX11_judgeItem : yX11_judgeItem.cls = RX11 ∧ yX11_judgeItem.cls ≠ "java/lang/invoke/MethodHandle" ∧ yX11_judgeItem.cls ≠ "java/lang/invoke/VarHandle" ∧ (parseMethodDescriptor yX11_judgeItem.desc).map (fun d => d.parameters.length) = some 0 := by decide +kernel
abbrev rmX11_judgeItem : Room := { frames := 2, cells := 0, slots := 0, locals := 49 }
set_option maxHeartbeats 4000000 in
set_option maxRecDepth 100000 in
theorem qX11_judgeItem (l : Launch) (X : XT) (a_this : Nat) (a_judgeMany : Nat) (a_judges : Nat) (a_text : Nat) (a_told : Nat) (a_roundMany : Nat) (a_blowMany : Nat) (a_blows : Nat) (a_forwards : Nat) (a_downs : Nat) (a_takens : Nat) (a_homes : Nat) (a_noises : Nat) (a_delays : Nat) (a_tolds : Nat) (a_tens : Nat) (a_ways : Nat) (a_nextWays : Nat) (a_tallies : Nat) (a_presses : Nat) (a_values : Nat) (a_nextValues : Nat)  (i_length : Int32) (i_keptMany : Int32) (i_place : Int32) (f_judgeMany : Nat → Int32) (f_judges : Nat → Int32) (f_text : Nat → Int32) (f_told : Nat → Int32)  (o : Int32 × Int32 × (Nat → Int32) × (Nat → Int32) × (Nat → Int32)) (hf : mX11_judgeItem i_length i_place f_judgeMany f_judges f_text f_told = some o) :
    MI l yX11_judgeItem wsX11_judgeItem rmX11_judgeItem X [.ref a_this] [(a_this, .inr (11, [.int i_length, .ref a_text, .ref a_roundMany, .ref a_blowMany, .ref a_blows, .ref a_forwards, .ref a_downs, .ref a_takens, .ref a_homes, .ref a_noises, .ref a_judgeMany, .ref a_judges, .ref a_delays, .ref a_tolds, .ref a_tens, .int i_keptMany, .int i_place, .ref a_told, .ref a_ways, .ref a_nextWays, .ref a_tallies, .ref a_presses, .ref a_values, .ref a_nextValues])), (a_judgeMany, .inl (X.2.1 0, 2, .inl f_judgeMany)), (a_judges, .inl (X.2.1 0, 112, .inl f_judges)), (a_text, .inl (X.2.1 0, 500, .inl f_text)), (a_told, .inl (X.2.1 0, 7, .inl f_told))]  [(a_this, .inr (11, [.int i_length, .ref a_text, .ref a_roundMany, .ref a_blowMany, .ref a_blows, .ref a_forwards, .ref a_downs, .ref a_takens, .ref a_homes, .ref a_noises, .ref a_judgeMany, .ref a_judges, .ref a_delays, .ref a_tolds, .ref a_tens, .int i_keptMany, .int o.2.1, .ref a_told, .ref a_ways, .ref a_nextWays, .ref a_tallies, .ref a_presses, .ref a_values, .ref a_nextValues])), (a_judgeMany, .inl (X.2.1 0, 2, .inl o.2.2.2.2)), (a_judges, .inl (X.2.1 0, 112, .inl o.2.2.2.1)), (a_text, .inl (X.2.1 0, 500, .inl f_text)), (a_told, .inl (X.2.1 0, 7, .inl o.2.2.1))] o.1 := by
  refine MI_ofH (cc := cX11_judgeItem) (maxL := 3) (rt := .boolean) (by decide) rfl (Nat.le_of_ble_eq_true rfl) ?_
  intro p e s m below meth c A Q H ls hx hb hml hts hown hA hD hG hP hS hl ret
  have hown : s.vm.findClass RX11 = some m.cls := hown
  have hD : aD A [a_this, a_judgeMany, a_judges, a_text, a_told] := hD
  have hl : lv_has ls 3 [(0, .ref a_this)] := hl
  have w1 := hts (.fieldLink RX11 37 "ThreeCardsModel" "judgeMany" "[I") (List.mem_of_getElem? (i := 1) rfl)
  have w2 := hts (.fieldLink RX11 52 "ThreeCardsModel" "told" "[I") (List.mem_of_getElem? (i := 2) rfl)
  have w3 := hts (.constantLong RX11 107 (9)) (List.mem_of_getElem? (i := 3) rfl)
  have w4 := hts (.fieldLink RX11 40 "ThreeCardsModel" "judges" "[I") (List.mem_of_getElem? (i := 4) rfl)
  have in11 : ∀ w ∈ u_ws RX11 TX11 24, w ∈ wsX11_judgeItem := by decide +kernel
  have hL110 : ∀ (n : Nat) (l1 : Int32) (l2 : Int32) (i_place : Int32) (f_told : Nat → Int32) (f_judges : Nat → Int32) (f_judgeMany : Nat → Int32)  (H : Heap) (locs : List Loc) (ls : Array Slot), va_P X.1 vwCl [(a_this, .inr (11, [.int i_length, .ref a_text, .ref a_roundMany, .ref a_blowMany, .ref a_blows, .ref a_forwards, .ref a_downs, .ref a_takens, .ref a_homes, .ref a_noises, .ref a_judgeMany, .ref a_judges, .ref a_delays, .ref a_tolds, .ref a_tens, .int i_keptMany, .int i_place, .ref a_told, .ref a_ways, .ref a_nextWays, .ref a_tallies, .ref a_presses, .ref a_values, .ref a_nextValues])), (a_judgeMany, .inl (X.2.1 0, 2, .inl f_judgeMany)), (a_judges, .inl (X.2.1 0, 112, .inl f_judges)), (a_text, .inl (X.2.1 0, 500, .inl f_text)), (a_told, .inl (X.2.1 0, 7, .inl f_told))] H → va_S A s.heap H locs → lv_has ls 3 [(0, .ref a_this), (1, .int l1), (2, .int l2)] → mX11_judgeItem_L110 i_length f_text  n l1 l2 i_place f_told f_judges f_judgeMany = some o → W p l e rmX11_judgeItem s m ([.ref a_this] : List Value).toArray below meth c H locs 0 0 Q (F0 m 110 ls []) := by
    intro n
    induction n with
    | zero => intro l1 l2 i_place f_told f_judges f_judgeMany  H locs ls hP hS hl hf; exact xn hf
    | succ n ih =>
      intro l1 l2 i_place f_told f_judges f_judgeMany  H locs ls hP hS hl hf
      have hf : mX11_judgeItem_B110 i_length f_text  (mX11_judgeItem_L110 i_length f_text  n) l1 l2 i_place f_told f_judges f_judgeMany = some o := hf
      generalize mX11_judgeItem_L110 i_length f_text  n = k110 at ih hf
      unfold mX11_judgeItem_B110 at hf
      refine lv_iload_n hx hb dX11_judgeItem_110 rfl (lv_at hl 2 rfl) ?_
      refine lv_bipush (v := (7 : Int32)) hx hb dX11_judgeItem_111 (by decide) ?_
      refine lv_icmp_ge (tgt := 142) hx hb dX11_judgeItem_113 (by decide) (fun c15 => ?_) (fun c15 => ?_)
      · have hf := xt hf c15
        refine lv_aload_n hx hb dX11_judgeItem_142 rfl (lv_at hl 0 rfl) ?_
        refine va_get (D := X.1) (ci := 11) (v := .ref a_judgeMany) (C := RX11) (T := TX11) (N := 24) hx hb hts in11 hown hG.1 hP 0 rfl rfl 10 (by decide) w1 (fun _ h9 => h9) rfl dX11_judgeItem_143 ?_
        refine lv_iconst (v := (1 : Int32)) hx hb dX11_judgeItem_146 (by decide) ?_
        refine lv_dup2_11 hx hb dX11_judgeItem_147 rfl rfl ?_
        refine va_iald (D := X.1) hx hb hG.1 hP 1 0 rfl rfl (vp_lit (by decide)) dX11_judgeItem_148 ?_
        refine lv_iconst (v := (1 : Int32)) hx hb dX11_judgeItem_149 (by decide) ?_
        refine lv_iadd hx hb dX11_judgeItem_150 ?_
        obtain ⟨g16, eg16, hf⟩ := lb_g hf
        refine x_iast (ws' := [(a_this, .inr (11, [.int i_length, .ref a_text, .ref a_roundMany, .ref a_blowMany, .ref a_blows, .ref a_forwards, .ref a_downs, .ref a_takens, .ref a_homes, .ref a_noises, .ref a_judgeMany, .ref a_judges, .ref a_delays, .ref a_tolds, .ref a_tens, .int i_keptMany, .int i_place, .ref a_told, .ref a_ways, .ref a_nextWays, .ref a_tallies, .ref a_presses, .ref a_values, .ref a_nextValues])), (a_judgeMany, .inl (X.2.1 0, 2, .inl g16)), (a_judges, .inl (X.2.1 0, 112, .inl f_judges)), (a_text, .inl (X.2.1 0, 500, .inl f_text)), (a_told, .inl (X.2.1 0, 7, .inl f_told))]) hx hb hG hP hD rfl hS 1 rfl (vp_lit (by decide)) dX11_judgeItem_151 eg16 rfl (fun H locs hP hS => ?_)
        refine lv_iconst (v := (1 : Int32)) hx hb dX11_judgeItem_152 (by decide) ?_
        obtain rfl := Option.some.inj hf
        exact ret H _ ls _ (show narrow .boolean (.int (1 : Int32)) = .int (1 : Int32) from rfl) hP hD hS dX11_judgeItem_153
      · have hf := xf hf c15
        refine lv_aload_n hx hb dX11_judgeItem_116 rfl (lv_at hl 0 rfl) ?_
        refine va_get (D := X.1) (ci := 11) (v := .ref a_judges) (C := RX11) (T := TX11) (N := 24) hx hb hts in11 hown hG.1 hP 0 rfl rfl 11 (by decide) w4 (fun _ h9 => h9) rfl dX11_judgeItem_117 ?_
        refine lv_bipush (v := (56 : Int32)) hx hb dX11_judgeItem_120 (by decide) ?_
        refine lv_bipush (v := (7 : Int32)) hx hb dX11_judgeItem_122 (by decide) ?_
        refine lv_iload_n hx hb dX11_judgeItem_124 rfl (lv_at hl 1 rfl) ?_
        refine lv_imul hx hb dX11_judgeItem_125 ?_
        refine lv_iadd hx hb dX11_judgeItem_126 ?_
        refine lv_iload_n hx hb dX11_judgeItem_127 rfl (lv_at hl 2 rfl) ?_
        refine lv_iadd hx hb dX11_judgeItem_128 ?_
        refine lv_aload_n hx hb dX11_judgeItem_129 rfl (lv_at hl 0 rfl) ?_
        refine va_get (D := X.1) (ci := 11) (v := .ref a_told) (C := RX11) (T := TX11) (N := 24) hx hb hts in11 hown hG.1 hP 0 rfl rfl 17 (by decide) w2 (fun _ h9 => h9) rfl dX11_judgeItem_130 ?_
        refine lv_iload_n hx hb dX11_judgeItem_133 rfl (lv_at hl 2 rfl) ?_
        obtain ⟨h17, hf⟩ := gi_s hf
        refine va_iald (D := X.1) hx hb hG.1 hP 4 0 rfl rfl h17 dX11_judgeItem_134 ?_
        obtain ⟨h18, hf⟩ := gi_s hf
        obtain ⟨g19, eg19, hf⟩ := lb_g hf
        refine x_iast (ws' := [(a_this, .inr (11, [.int i_length, .ref a_text, .ref a_roundMany, .ref a_blowMany, .ref a_blows, .ref a_forwards, .ref a_downs, .ref a_takens, .ref a_homes, .ref a_noises, .ref a_judgeMany, .ref a_judges, .ref a_delays, .ref a_tolds, .ref a_tens, .int i_keptMany, .int i_place, .ref a_told, .ref a_ways, .ref a_nextWays, .ref a_tallies, .ref a_presses, .ref a_values, .ref a_nextValues])), (a_judgeMany, .inl (X.2.1 0, 2, .inl f_judgeMany)), (a_judges, .inl (X.2.1 0, 112, .inl g19)), (a_text, .inl (X.2.1 0, 500, .inl f_text)), (a_told, .inl (X.2.1 0, 7, .inl f_told))]) hx hb hG hP hD rfl hS 2 rfl h18 dX11_judgeItem_135 eg19 rfl (fun H locs hP hS => ?_)
        obtain ⟨v20, ev20, hf⟩ := lb_g hf
        refine lv_iinc (v := v20) (lv' := [(2, .int v20), (0, .ref a_this), (1, .int l1)]) hx hb dX11_judgeItem_136 hl (k := 2) rfl ev20.symm (by decide) rfl (fun ls hl => ?_)
        refine lv_goto (tgt := 110) hx hb dX11_judgeItem_139 (by decide) ?_
        exact ih l1 v20 i_place f_told g19 f_judgeMany  H _ ls hP  hS (lv_sub hl [1, 2, 0] rfl) hf
  unfold mX11_judgeItem at hf
  refine lv_aload_n hx hb dX11_judgeItem_0 rfl (lv_at hl 0 rfl) ?_
  refine va_get (D := X.1) (ci := 11) (v := .ref a_judgeMany) (C := RX11) (T := TX11) (N := 24) hx hb hts in11 hown hG.1 hP 0 rfl rfl 10 (by decide) w1 (fun _ h9 => h9) rfl dX11_judgeItem_1 ?_
  refine lv_iconst (v := (1 : Int32)) hx hb dX11_judgeItem_4 (by decide) ?_
  refine va_iald (D := X.1) hx hb hG.1 hP 1 0 rfl rfl (vp_lit (by decide)) dX11_judgeItem_5 ?_
  refine lv_topi (fun v1 ev1 => ?_)
  have hf := lb_s hf ev1
  refine lv_istore_n (lv' := [(1, .int v1), (0, .ref a_this)]) hx hb dX11_judgeItem_6 rfl hl (by decide) rfl (fun ls hl => ?_)
  refine lv_aload_n hx hb dX11_judgeItem_7 rfl (lv_at hl 1 rfl) ?_
  refine lv_bipush (v := (7 : Int32)) hx hb dX11_judgeItem_8 (by decide) ?_
  obtain ⟨o2, ho2, hf⟩ := ob_s hf
  refine xV_i (As := [.int (7 : Int32)]) (b := a_this) (rest := []) (ws2 := [(a_this, .inr (11, [.int i_length, .ref a_text, .ref a_roundMany, .ref a_blowMany, .ref a_blows, .ref a_forwards, .ref a_downs, .ref a_takens, .ref a_homes, .ref a_noises, .ref a_judgeMany, .ref a_judges, .ref a_delays, .ref a_tolds, .ref a_tens, .int i_keptMany, .int o2.2.1, .ref a_told, .ref a_ways, .ref a_nextWays, .ref a_tallies, .ref a_presses, .ref a_values, .ref a_nextValues])), (a_judgeMany, .inl (X.2.1 0, 2, .inl f_judgeMany)), (a_judges, .inl (X.2.1 0, 112, .inl f_judges)), (a_text, .inl (X.2.1 0, 500, .inl f_text)), (a_told, .inl (X.2.1 0, 7, .inl o2.2.2))]) hx hb hml hts hown hG hA hP hD rfl hS hl.1 (qX11_figures l X a_this a_text a_told a_roundMany a_blowMany a_blows a_forwards a_downs a_takens a_homes a_noises a_judgeMany a_judges a_delays a_tolds a_tens a_ways a_nextWays a_tallies a_presses a_values a_nextValues i_length i_keptMany i_place f_text f_told (7 : Int32) o2 ho2) (cwV (y := yX11_figures) 1 hts gX11_judgeItem_X11_figures rfl rfl rfl hdvX11_figures ⟨Nat.le_of_ble_eq_true rfl, Nat.le_of_ble_eq_true rfl⟩) [0, 3, 4] [1, 2] [2, 0, 1, 3, 4] rfl rfl rfl rfl rfl rfl rfl (ci := 11) rfl 0 rfl rfl rfl (Nat.le_of_ble_eq_true rfl) ⟨Nat.le_of_ble_eq_true rfl, Nat.le_of_ble_eq_true rfl⟩ dX11_judgeItem_10 (fun H locs hP _ hS => ?_)
  refine lv_if_eq (tgt := 106) hx hb dX11_judgeItem_13 (by decide) (fun c4 => ?_) (fun c4 => ?_)
  · have hf := xt hf c4
    refine lv_iconst (v := (0 : Int32)) hx hb dX11_judgeItem_106 (by decide) ?_
    obtain rfl := Option.some.inj hf
    exact ret H _ ls _ (show narrow .boolean (.int (0 : Int32)) = .int (0 : Int32) from rfl) hP hD hS dX11_judgeItem_107
  · have hf := xf hf c4
    refine lv_iload_n hx hb dX11_judgeItem_16 rfl (lv_at hl 0 rfl) ?_
    refine lv_bipush (v := (8 : Int32)) hx hb dX11_judgeItem_17 (by decide) ?_
    refine lv_icmp_eq (tgt := 106) hx hb dX11_judgeItem_19 (by decide) (fun c5 => ?_) (fun c5 => ?_)
    · have hf := xt hf c5
      refine lv_iconst (v := (0 : Int32)) hx hb dX11_judgeItem_106 (by decide) ?_
      obtain rfl := Option.some.inj hf
      exact ret H _ ls _ (show narrow .boolean (.int (0 : Int32)) = .int (0 : Int32) from rfl) hP hD hS dX11_judgeItem_107
    · have hf := xf hf c5
      refine lv_aload_n hx hb dX11_judgeItem_22 rfl (lv_at hl 1 rfl) ?_
      refine va_get (D := X.1) (ci := 11) (v := .ref a_told) (C := RX11) (T := TX11) (N := 24) hx hb hts in11 hown hG.1 hP 0 rfl rfl 17 (by decide) w2 (fun _ h9 => h9) rfl dX11_judgeItem_23 ?_
      refine lv_iconst (v := (0 : Int32)) hx hb dX11_judgeItem_26 (by decide) ?_
      refine va_iald (D := X.1) hx hb hG.1 hP 4 0 rfl rfl (vp_lit (by decide)) dX11_judgeItem_27 ?_
      refine lv_bipush (v := (11 : Int32)) hx hb dX11_judgeItem_28 (by decide) ?_
      refine lv_icmp_gt (tgt := 106) hx hb dX11_judgeItem_30 (by decide) (fun c6 => ?_) (fun c6 => ?_)
      · have hf := xt hf c6
        refine lv_iconst (v := (0 : Int32)) hx hb dX11_judgeItem_106 (by decide) ?_
        obtain rfl := Option.some.inj hf
        exact ret H _ ls _ (show narrow .boolean (.int (0 : Int32)) = .int (0 : Int32) from rfl) hP hD hS dX11_judgeItem_107
      · have hf := xf hf c6
        refine lv_aload_n hx hb dX11_judgeItem_33 rfl (lv_at hl 1 rfl) ?_
        refine va_get (D := X.1) (ci := 11) (v := .ref a_told) (C := RX11) (T := TX11) (N := 24) hx hb hts in11 hown hG.1 hP 0 rfl rfl 17 (by decide) w2 (fun _ h9 => h9) rfl dX11_judgeItem_34 ?_
        refine lv_iconst (v := (1 : Int32)) hx hb dX11_judgeItem_37 (by decide) ?_
        refine va_iald (D := X.1) hx hb hG.1 hP 4 0 rfl rfl (vp_lit (by decide)) dX11_judgeItem_38 ?_
        refine lv_bipush (v := (9 : Int32)) hx hb dX11_judgeItem_39 (by decide) ?_
        refine lv_icmp_gt (tgt := 106) hx hb dX11_judgeItem_41 (by decide) (fun c7 => ?_) (fun c7 => ?_)
        · have hf := xt hf c7
          refine lv_iconst (v := (0 : Int32)) hx hb dX11_judgeItem_106 (by decide) ?_
          obtain rfl := Option.some.inj hf
          exact ret H _ ls _ (show narrow .boolean (.int (0 : Int32)) = .int (0 : Int32) from rfl) hP hD hS dX11_judgeItem_107
        · have hf := xf hf c7
          refine lv_aload_n hx hb dX11_judgeItem_44 rfl (lv_at hl 1 rfl) ?_
          refine va_get (D := X.1) (ci := 11) (v := .ref a_told) (C := RX11) (T := TX11) (N := 24) hx hb hts in11 hown hG.1 hP 0 rfl rfl 17 (by decide) w2 (fun _ h9 => h9) rfl dX11_judgeItem_45 ?_
          refine lv_iconst (v := (2 : Int32)) hx hb dX11_judgeItem_48 (by decide) ?_
          refine va_iald (D := X.1) hx hb hG.1 hP 4 0 rfl rfl (vp_lit (by decide)) dX11_judgeItem_49 ?_
          refine lv_bipush (v := (9 : Int32)) hx hb dX11_judgeItem_50 (by decide) ?_
          refine lv_icmp_gt (tgt := 106) hx hb dX11_judgeItem_52 (by decide) (fun c8 => ?_) (fun c8 => ?_)
          · have hf := xt hf c8
            refine lv_iconst (v := (0 : Int32)) hx hb dX11_judgeItem_106 (by decide) ?_
            obtain rfl := Option.some.inj hf
            exact ret H _ ls _ (show narrow .boolean (.int (0 : Int32)) = .int (0 : Int32) from rfl) hP hD hS dX11_judgeItem_107
          · have hf := xf hf c8
            refine lv_aload_n hx hb dX11_judgeItem_55 rfl (lv_at hl 1 rfl) ?_
            refine va_get (D := X.1) (ci := 11) (v := .ref a_told) (C := RX11) (T := TX11) (N := 24) hx hb hts in11 hown hG.1 hP 0 rfl rfl 17 (by decide) w2 (fun _ h9 => h9) rfl dX11_judgeItem_56 ?_
            refine lv_iconst (v := (3 : Int32)) hx hb dX11_judgeItem_59 (by decide) ?_
            refine va_iald (D := X.1) hx hb hG.1 hP 4 0 rfl rfl (vp_lit (by decide)) dX11_judgeItem_60 ?_
            refine lv_bipush (v := (40 : Int32)) hx hb dX11_judgeItem_61 (by decide) ?_
            refine lv_icmp_gt (tgt := 106) hx hb dX11_judgeItem_63 (by decide) (fun c9 => ?_) (fun c9 => ?_)
            · have hf := xt hf c9
              refine lv_iconst (v := (0 : Int32)) hx hb dX11_judgeItem_106 (by decide) ?_
              obtain rfl := Option.some.inj hf
              exact ret H _ ls _ (show narrow .boolean (.int (0 : Int32)) = .int (0 : Int32) from rfl) hP hD hS dX11_judgeItem_107
            · have hf := xf hf c9
              refine lv_aload_n hx hb dX11_judgeItem_66 rfl (lv_at hl 1 rfl) ?_
              refine va_get (D := X.1) (ci := 11) (v := .ref a_told) (C := RX11) (T := TX11) (N := 24) hx hb hts in11 hown hG.1 hP 0 rfl rfl 17 (by decide) w2 (fun _ h9 => h9) rfl dX11_judgeItem_67 ?_
              refine lv_iconst (v := (4 : Int32)) hx hb dX11_judgeItem_70 (by decide) ?_
              refine va_iald (D := X.1) hx hb hG.1 hP 4 0 rfl rfl (vp_lit (by decide)) dX11_judgeItem_71 ?_
              refine lv_i2l hx hb dX11_judgeItem_72 rfl ?_
              refine lv_lconst (v := (1 : Int64)) hx hb dX11_judgeItem_73 rfl ?_
              refine lv_ldc2 (v := (9 : Int64)) hx hb hown w3 dX11_judgeItem_74 ?_
              obtain ⟨o10, ho10, hf⟩ := ob_s hf
              refine xS_i (As := [.long (Int32.toInt64 (o2.2.2 (4 : Int32).toNatClampNeg)), .long (1 : Int64), .long (9 : Int64)]) (rest := []) (ws2 := [(a_this, .inr (11, [.int i_length, .ref a_text, .ref a_roundMany, .ref a_blowMany, .ref a_blows, .ref a_forwards, .ref a_downs, .ref a_takens, .ref a_homes, .ref a_noises, .ref a_judgeMany, .ref a_judges, .ref a_delays, .ref a_tolds, .ref a_tens, .int i_keptMany, .int o2.2.1, .ref a_told, .ref a_ways, .ref a_nextWays, .ref a_tallies, .ref a_presses, .ref a_values, .ref a_nextValues])), (a_judgeMany, .inl (X.2.1 0, 2, .inl f_judgeMany)), (a_judges, .inl (X.2.1 0, 112, .inl f_judges)), (a_text, .inl (X.2.1 0, 500, .inl f_text)), (a_told, .inl (X.2.1 0, 7, .inl o2.2.2))]) hx hb hml hts hown hG hA hP hD rfl hS hl.1 (qX11_in l X (Int32.toInt64 (o2.2.2 (4 : Int32).toNatClampNeg)) (1 : Int64) (9 : Int64) o10 ho10) (va_cwS (y := yX11_in) 3 hts gX11_judgeItem_X11_in rfl rfl rfl hdsX11_in ⟨Nat.le_of_ble_eq_true rfl, Nat.le_of_ble_eq_true rfl⟩) [] [0, 1, 2, 3, 4] [0, 1, 2, 3, 4] rfl rfl rfl rfl rfl rfl rfl rfl rfl (Nat.le_of_ble_eq_true rfl) ⟨Nat.le_of_ble_eq_true rfl, Nat.le_of_ble_eq_true rfl⟩ dX11_judgeItem_77 (fun H locs hP _ hS => ?_)
              refine lv_if_eq (tgt := 106) hx hb dX11_judgeItem_80 (by decide) (fun c12 => ?_) (fun c12 => ?_)
              · have hf := xt hf c12
                refine lv_iconst (v := (0 : Int32)) hx hb dX11_judgeItem_106 (by decide) ?_
                obtain rfl := Option.some.inj hf
                exact ret H _ ls _ (show narrow .boolean (.int (0 : Int32)) = .int (0 : Int32) from rfl) hP hD hS dX11_judgeItem_107
              · have hf := xf hf c12
                refine lv_aload_n hx hb dX11_judgeItem_83 rfl (lv_at hl 1 rfl) ?_
                refine va_get (D := X.1) (ci := 11) (v := .ref a_told) (C := RX11) (T := TX11) (N := 24) hx hb hts in11 hown hG.1 hP 0 rfl rfl 17 (by decide) w2 (fun _ h9 => h9) rfl dX11_judgeItem_84 ?_
                refine lv_iconst (v := (5 : Int32)) hx hb dX11_judgeItem_87 (by decide) ?_
                refine va_iald (D := X.1) hx hb hG.1 hP 4 0 rfl rfl (vp_lit (by decide)) dX11_judgeItem_88 ?_
                refine lv_bipush (v := (9 : Int32)) hx hb dX11_judgeItem_89 (by decide) ?_
                refine lv_icmp_gt (tgt := 106) hx hb dX11_judgeItem_91 (by decide) (fun c13 => ?_) (fun c13 => ?_)
                · have hf := xt hf c13
                  refine lv_iconst (v := (0 : Int32)) hx hb dX11_judgeItem_106 (by decide) ?_
                  obtain rfl := Option.some.inj hf
                  exact ret H _ ls _ (show narrow .boolean (.int (0 : Int32)) = .int (0 : Int32) from rfl) hP hD hS dX11_judgeItem_107
                · have hf := xf hf c13
                  refine lv_aload_n hx hb dX11_judgeItem_94 rfl (lv_at hl 1 rfl) ?_
                  refine va_get (D := X.1) (ci := 11) (v := .ref a_told) (C := RX11) (T := TX11) (N := 24) hx hb hts in11 hown hG.1 hP 0 rfl rfl 17 (by decide) w2 (fun _ h9 => h9) rfl dX11_judgeItem_95 ?_
                  refine lv_bipush (v := (6 : Int32)) hx hb dX11_judgeItem_98 (by decide) ?_
                  refine va_iald (D := X.1) hx hb hG.1 hP 4 0 rfl rfl (vp_lit (by decide)) dX11_judgeItem_100 ?_
                  refine lv_bipush (v := (99 : Int32)) hx hb dX11_judgeItem_101 (by decide) ?_
                  refine lv_icmp_le (tgt := 108) hx hb dX11_judgeItem_103 (by decide) (fun c14 => ?_) (fun c14 => ?_)
                  · have hf := xt hf c14
                    refine lv_iconst (v := (0 : Int32)) hx hb dX11_judgeItem_108 (by decide) ?_
                    refine lv_istore_n (lv' := [(2, .int (0 : Int32)), (1, .int v1), (0, .ref a_this)]) hx hb dX11_judgeItem_109 rfl hl (by decide) rfl (fun ls hl => ?_)
                    exact hL110  FUEL v1 (0 : Int32) o2.2.1 o2.2.2 f_judges f_judgeMany  H _ ls hP  hS (lv_sub hl [2, 1, 0] rfl) hf
                  · have hf := xf hf c14
                    refine lv_iconst (v := (0 : Int32)) hx hb dX11_judgeItem_106 (by decide) ?_
                    obtain rfl := Option.some.inj hf
                    exact ret H _ ls _ (show narrow .boolean (.int (0 : Int32)) = .int (0 : Int32) from rfl) hP hD hS dX11_judgeItem_107
def mX11_more (i_length : Int32) (i_place : Int32) (f_text : Nat → Int32) (f_told : Nat → Int32) (f_p0 : Nat → Int32) :
  Option (Int32 × Int32 × (Nat → Int32) × (Nat → Int32)) :=
  (mX11_figures (2 : Int32) i_length i_place f_text f_told).bind fun o1 =>
  if o1.1 = 0 then (some ((0 : Int32), o1.2.1, o1.2.2, f_p0)) else (if (11 : Int32) < (o1.2.2 (0 : Int32).toNatClampNeg) then (some ((0 : Int32), o1.2.1, o1.2.2, f_p0)) else (if (1 : Int32) < (o1.2.2 (1 : Int32).toNatClampNeg) then (some ((0 : Int32), o1.2.1, o1.2.2, f_p0)) else (gi ((24 : Int32) + ((2 : Int32) * (o1.2.2 (0 : Int32).toNatClampNeg))) 48 <|
  gi ((25 : Int32) + ((2 : Int32) * (o1.2.2 (0 : Int32).toNatClampNeg))) 48 <|
  if ((f_p0 ((24 : Int32) + ((2 : Int32) * (o1.2.2 (0 : Int32).toNatClampNeg))).toNatClampNeg) + (f_p0 ((25 : Int32) + ((2 : Int32) * (o1.2.2 (0 : Int32).toNatClampNeg))).toNatClampNeg)) = (3 : Int32) then (some ((0 : Int32), o1.2.1, o1.2.2, f_p0)) else (lb (((24 : Int32) + ((2 : Int32) * (o1.2.2 (0 : Int32).toNatClampNeg))) + (o1.2.2 (1 : Int32).toNatClampNeg)) fun v9 =>
  gi v9 48 <|
  gi v9 48 <|
  lb (upd f_p0 v9.toNatClampNeg ((f_p0 v9.toNatClampNeg) + (1 : Int32))) fun g12 =>
  some ((1 : Int32), o1.2.1, o1.2.2, g12)))))
theorem hdsX11_more : yX11_more.cls ≠ "java/lang/invoke/MethodHandle" ∧ yX11_more.cls ≠ "java/lang/invoke/VarHandle" ∧ (parseMethodDescriptor yX11_more.desc).map (fun d => d.parameters.length) = some 1 := by decide +kernel
theorem hdvX11_more : yX11_more.cls = RX11 ∧ yX11_more.cls ≠ "java/lang/invoke/MethodHandle" ∧ yX11_more.cls ≠ "java/lang/invoke/VarHandle" ∧ (parseMethodDescriptor yX11_more.desc).map (fun d => d.parameters.length) = some 1 := by decide +kernel
abbrev rmX11_more : Room := { frames := 2, cells := 0, slots := 0, locals := 49 }
set_option maxHeartbeats 4000000 in
set_option maxRecDepth 100000 in
theorem qX11_more (l : Launch) (X : XT) (a_this : Nat) (a_text : Nat) (a_told : Nat) (a_p0 : Nat) (a_roundMany : Nat) (a_blowMany : Nat) (a_blows : Nat) (a_forwards : Nat) (a_downs : Nat) (a_takens : Nat) (a_homes : Nat) (a_noises : Nat) (a_judgeMany : Nat) (a_judges : Nat) (a_delays : Nat) (a_tolds : Nat) (a_tens : Nat) (a_ways : Nat) (a_nextWays : Nat) (a_tallies : Nat) (a_presses : Nat) (a_values : Nat) (a_nextValues : Nat)  (i_length : Int32) (i_keptMany : Int32) (i_place : Int32) (f_text : Nat → Int32) (f_told : Nat → Int32) (f_p0 : Nat → Int32)  (o : Int32 × Int32 × (Nat → Int32) × (Nat → Int32)) (hf : mX11_more i_length i_place f_text f_told f_p0 = some o) :
    MI l yX11_more wsX11_more rmX11_more X [.ref a_this, .ref a_p0] [(a_this, .inr (11, [.int i_length, .ref a_text, .ref a_roundMany, .ref a_blowMany, .ref a_blows, .ref a_forwards, .ref a_downs, .ref a_takens, .ref a_homes, .ref a_noises, .ref a_judgeMany, .ref a_judges, .ref a_delays, .ref a_tolds, .ref a_tens, .int i_keptMany, .int i_place, .ref a_told, .ref a_ways, .ref a_nextWays, .ref a_tallies, .ref a_presses, .ref a_values, .ref a_nextValues])), (a_text, .inl (X.2.1 0, 500, .inl f_text)), (a_told, .inl (X.2.1 0, 7, .inl f_told)), (a_p0, .inl (X.2.1 0, 48, .inl f_p0))]  [(a_this, .inr (11, [.int i_length, .ref a_text, .ref a_roundMany, .ref a_blowMany, .ref a_blows, .ref a_forwards, .ref a_downs, .ref a_takens, .ref a_homes, .ref a_noises, .ref a_judgeMany, .ref a_judges, .ref a_delays, .ref a_tolds, .ref a_tens, .int i_keptMany, .int o.2.1, .ref a_told, .ref a_ways, .ref a_nextWays, .ref a_tallies, .ref a_presses, .ref a_values, .ref a_nextValues])), (a_text, .inl (X.2.1 0, 500, .inl f_text)), (a_told, .inl (X.2.1 0, 7, .inl o.2.2.1)), (a_p0, .inl (X.2.1 0, 48, .inl o.2.2.2))] o.1 := by
  refine MI_ofH (cc := cX11_more) (maxL := 2) (rt := .boolean) (by decide) rfl (Nat.le_of_ble_eq_true rfl) ?_
  intro p e s m below meth c A Q H ls hx hb hml hts hown hA hD hG hP hS hl ret
  have hown : s.vm.findClass RX11 = some m.cls := hown
  have hD : aD A [a_this, a_text, a_told, a_p0] := hD
  have hl : lv_has ls 2 [(0, .ref a_this), (1, .ref a_p0)] := hl
  have w1 := hts (.fieldLink RX11 52 "ThreeCardsModel" "told" "[I") (List.mem_of_getElem? (i := 1) rfl)
  have in11 : ∀ w ∈ u_ws RX11 TX11 24, w ∈ wsX11_more := by decide +kernel
  unfold mX11_more at hf
  refine lv_aload_n hx hb dX11_more_0 rfl (lv_at hl 0 rfl) ?_
  refine lv_iconst (v := (2 : Int32)) hx hb dX11_more_1 (by decide) ?_
  obtain ⟨o1, ho1, hf⟩ := ob_s hf
  refine xV_i (As := [.int (2 : Int32)]) (b := a_this) (rest := []) (ws2 := [(a_this, .inr (11, [.int i_length, .ref a_text, .ref a_roundMany, .ref a_blowMany, .ref a_blows, .ref a_forwards, .ref a_downs, .ref a_takens, .ref a_homes, .ref a_noises, .ref a_judgeMany, .ref a_judges, .ref a_delays, .ref a_tolds, .ref a_tens, .int i_keptMany, .int o1.2.1, .ref a_told, .ref a_ways, .ref a_nextWays, .ref a_tallies, .ref a_presses, .ref a_values, .ref a_nextValues])), (a_text, .inl (X.2.1 0, 500, .inl f_text)), (a_told, .inl (X.2.1 0, 7, .inl o1.2.2)), (a_p0, .inl (X.2.1 0, 48, .inl f_p0))]) hx hb hml hts hown hG hA hP hD rfl hS hl.1 (qX11_figures l X a_this a_text a_told a_roundMany a_blowMany a_blows a_forwards a_downs a_takens a_homes a_noises a_judgeMany a_judges a_delays a_tolds a_tens a_ways a_nextWays a_tallies a_presses a_values a_nextValues i_length i_keptMany i_place f_text f_told (2 : Int32) o1 ho1) (cwV (y := yX11_figures) 1 hts gX11_more_X11_figures rfl rfl rfl hdvX11_figures ⟨Nat.le_of_ble_eq_true rfl, Nat.le_of_ble_eq_true rfl⟩) [0, 1, 2] [3] [1, 2, 3, 0] rfl rfl rfl rfl rfl rfl rfl (ci := 11) rfl 0 rfl rfl rfl (Nat.le_of_ble_eq_true rfl) ⟨Nat.le_of_ble_eq_true rfl, Nat.le_of_ble_eq_true rfl⟩ dX11_more_2 (fun H locs hP _ hS => ?_)
  refine lv_if_eq (tgt := 60) hx hb dX11_more_5 (by decide) (fun c3 => ?_) (fun c3 => ?_)
  · have hf := xt hf c3
    refine lv_iconst (v := (0 : Int32)) hx hb dX11_more_60 (by decide) ?_
    obtain rfl := Option.some.inj hf
    exact ret H _ ls _ (show narrow .boolean (.int (0 : Int32)) = .int (0 : Int32) from rfl) hP hD hS dX11_more_61
  · have hf := xf hf c3
    refine lv_aload_n hx hb dX11_more_8 rfl (lv_at hl 0 rfl) ?_
    refine va_get (D := X.1) (ci := 11) (v := .ref a_told) (C := RX11) (T := TX11) (N := 24) hx hb hts in11 hown hG.1 hP 0 rfl rfl 17 (by decide) w1 (fun _ h9 => h9) rfl dX11_more_9 ?_
    refine lv_iconst (v := (0 : Int32)) hx hb dX11_more_12 (by decide) ?_
    refine va_iald (D := X.1) hx hb hG.1 hP 2 0 rfl rfl (vp_lit (by decide)) dX11_more_13 ?_
    refine lv_bipush (v := (11 : Int32)) hx hb dX11_more_14 (by decide) ?_
    refine lv_icmp_gt (tgt := 60) hx hb dX11_more_16 (by decide) (fun c4 => ?_) (fun c4 => ?_)
    · have hf := xt hf c4
      refine lv_iconst (v := (0 : Int32)) hx hb dX11_more_60 (by decide) ?_
      obtain rfl := Option.some.inj hf
      exact ret H _ ls _ (show narrow .boolean (.int (0 : Int32)) = .int (0 : Int32) from rfl) hP hD hS dX11_more_61
    · have hf := xf hf c4
      refine lv_aload_n hx hb dX11_more_19 rfl (lv_at hl 0 rfl) ?_
      refine va_get (D := X.1) (ci := 11) (v := .ref a_told) (C := RX11) (T := TX11) (N := 24) hx hb hts in11 hown hG.1 hP 0 rfl rfl 17 (by decide) w1 (fun _ h9 => h9) rfl dX11_more_20 ?_
      refine lv_iconst (v := (1 : Int32)) hx hb dX11_more_23 (by decide) ?_
      refine va_iald (D := X.1) hx hb hG.1 hP 2 0 rfl rfl (vp_lit (by decide)) dX11_more_24 ?_
      refine lv_iconst (v := (1 : Int32)) hx hb dX11_more_25 (by decide) ?_
      refine lv_icmp_gt (tgt := 60) hx hb dX11_more_26 (by decide) (fun c5 => ?_) (fun c5 => ?_)
      · have hf := xt hf c5
        refine lv_iconst (v := (0 : Int32)) hx hb dX11_more_60 (by decide) ?_
        obtain rfl := Option.some.inj hf
        exact ret H _ ls _ (show narrow .boolean (.int (0 : Int32)) = .int (0 : Int32) from rfl) hP hD hS dX11_more_61
      · have hf := xf hf c5
        refine lv_aload_n hx hb dX11_more_29 rfl (lv_at hl 1 rfl) ?_
        refine lv_bipush (v := (24 : Int32)) hx hb dX11_more_30 (by decide) ?_
        refine lv_iconst (v := (2 : Int32)) hx hb dX11_more_32 (by decide) ?_
        refine lv_aload_n hx hb dX11_more_33 rfl (lv_at hl 0 rfl) ?_
        refine va_get (D := X.1) (ci := 11) (v := .ref a_told) (C := RX11) (T := TX11) (N := 24) hx hb hts in11 hown hG.1 hP 0 rfl rfl 17 (by decide) w1 (fun _ h9 => h9) rfl dX11_more_34 ?_
        refine lv_iconst (v := (0 : Int32)) hx hb dX11_more_37 (by decide) ?_
        refine va_iald (D := X.1) hx hb hG.1 hP 2 0 rfl rfl (vp_lit (by decide)) dX11_more_38 ?_
        refine lv_imul hx hb dX11_more_39 ?_
        refine lv_iadd hx hb dX11_more_40 ?_
        obtain ⟨h6, hf⟩ := gi_s hf
        refine va_iald (D := X.1) hx hb hG.1 hP 3 0 rfl rfl h6 dX11_more_41 ?_
        refine lv_aload_n hx hb dX11_more_42 rfl (lv_at hl 1 rfl) ?_
        refine lv_bipush (v := (25 : Int32)) hx hb dX11_more_43 (by decide) ?_
        refine lv_iconst (v := (2 : Int32)) hx hb dX11_more_45 (by decide) ?_
        refine lv_aload_n hx hb dX11_more_46 rfl (lv_at hl 0 rfl) ?_
        refine va_get (D := X.1) (ci := 11) (v := .ref a_told) (C := RX11) (T := TX11) (N := 24) hx hb hts in11 hown hG.1 hP 0 rfl rfl 17 (by decide) w1 (fun _ h9 => h9) rfl dX11_more_47 ?_
        refine lv_iconst (v := (0 : Int32)) hx hb dX11_more_50 (by decide) ?_
        refine va_iald (D := X.1) hx hb hG.1 hP 2 0 rfl rfl (vp_lit (by decide)) dX11_more_51 ?_
        refine lv_imul hx hb dX11_more_52 ?_
        refine lv_iadd hx hb dX11_more_53 ?_
        obtain ⟨h7, hf⟩ := gi_s hf
        refine va_iald (D := X.1) hx hb hG.1 hP 3 0 rfl rfl h7 dX11_more_54 ?_
        refine lv_iadd hx hb dX11_more_55 ?_
        refine lv_iconst (v := (3 : Int32)) hx hb dX11_more_56 (by decide) ?_
        refine lv_icmp_ne (tgt := 62) hx hb dX11_more_57 (by decide) (fun c8 => ?_) (fun c8 => ?_)
        · have hf := xf hf c8
          refine lv_aload_n hx hb dX11_more_62 rfl (lv_at hl 1 rfl) ?_
          refine lv_bipush (v := (24 : Int32)) hx hb dX11_more_63 (by decide) ?_
          refine lv_iconst (v := (2 : Int32)) hx hb dX11_more_65 (by decide) ?_
          refine lv_aload_n hx hb dX11_more_66 rfl (lv_at hl 0 rfl) ?_
          refine va_get (D := X.1) (ci := 11) (v := .ref a_told) (C := RX11) (T := TX11) (N := 24) hx hb hts in11 hown hG.1 hP 0 rfl rfl 17 (by decide) w1 (fun _ h9 => h9) rfl dX11_more_67 ?_
          refine lv_iconst (v := (0 : Int32)) hx hb dX11_more_70 (by decide) ?_
          refine va_iald (D := X.1) hx hb hG.1 hP 2 0 rfl rfl (vp_lit (by decide)) dX11_more_71 ?_
          refine lv_imul hx hb dX11_more_72 ?_
          refine lv_iadd hx hb dX11_more_73 ?_
          refine lv_aload_n hx hb dX11_more_74 rfl (lv_at hl 0 rfl) ?_
          refine va_get (D := X.1) (ci := 11) (v := .ref a_told) (C := RX11) (T := TX11) (N := 24) hx hb hts in11 hown hG.1 hP 0 rfl rfl 17 (by decide) w1 (fun _ h9 => h9) rfl dX11_more_75 ?_
          refine lv_iconst (v := (1 : Int32)) hx hb dX11_more_78 (by decide) ?_
          refine va_iald (D := X.1) hx hb hG.1 hP 2 0 rfl rfl (vp_lit (by decide)) dX11_more_79 ?_
          refine lv_iadd hx hb dX11_more_80 ?_
          refine lv_topi (fun v9 ev9 => ?_)
          have hf := lb_s hf ev9
          refine lv_dup2_11 hx hb dX11_more_81 rfl rfl ?_
          obtain ⟨h10, hf⟩ := gi_s hf
          refine va_iald (D := X.1) hx hb hG.1 hP 3 0 rfl rfl h10 dX11_more_82 ?_
          refine lv_iconst (v := (1 : Int32)) hx hb dX11_more_83 (by decide) ?_
          refine lv_iadd hx hb dX11_more_84 ?_
          obtain ⟨h11, hf⟩ := gi_s hf
          obtain ⟨g12, eg12, hf⟩ := lb_g hf
          refine x_iast (ws' := [(a_this, .inr (11, [.int i_length, .ref a_text, .ref a_roundMany, .ref a_blowMany, .ref a_blows, .ref a_forwards, .ref a_downs, .ref a_takens, .ref a_homes, .ref a_noises, .ref a_judgeMany, .ref a_judges, .ref a_delays, .ref a_tolds, .ref a_tens, .int i_keptMany, .int o1.2.1, .ref a_told, .ref a_ways, .ref a_nextWays, .ref a_tallies, .ref a_presses, .ref a_values, .ref a_nextValues])), (a_text, .inl (X.2.1 0, 500, .inl f_text)), (a_told, .inl (X.2.1 0, 7, .inl o1.2.2)), (a_p0, .inl (X.2.1 0, 48, .inl g12))]) hx hb hG hP hD rfl hS 3 rfl h11 dX11_more_85 eg12 rfl (fun H locs hP hS => ?_)
          refine lv_iconst (v := (1 : Int32)) hx hb dX11_more_86 (by decide) ?_
          obtain rfl := Option.some.inj hf
          exact ret H _ ls _ (show narrow .boolean (.int (1 : Int32)) = .int (1 : Int32) from rfl) hP hD hS dX11_more_87
        · have hf := xt hf c8
          refine lv_iconst (v := (0 : Int32)) hx hb dX11_more_60 (by decide) ?_
          obtain rfl := Option.some.inj hf
          exact ret H _ ls _ (show narrow .boolean (.int (0 : Int32)) = .int (0 : Int32) from rfl) hP hD hS dX11_more_61
def mX11_item (i_length : Int32) (i_place : Int32) (f_blowMany : Nat → Int32) (f_blows : Nat → Int32) (f_downs : Nat → Int32) (f_forwards : Nat → Int32) (f_homes : Nat → Int32) (f_judgeMany : Nat → Int32) (f_judges : Nat → Int32) (f_noises : Nat → Int32) (f_roundMany : Nat → Int32) (f_takens : Nat → Int32) (f_text : Nat → Int32) (f_told : Nat → Int32) :
  Option (Int32 × Int32 × (Nat → Int32) × (Nat → Int32) × (Nat → Int32) × (Nat → Int32) × (Nat → Int32) × (Nat → Int32) × (Nat → Int32) × (Nat → Int32) × (Nat → Int32) × (Nat → Int32) × (Nat → Int32)) :=
  (mX11_byteAt i_place i_length f_text).bind fun o1 =>
  lb (i_place + (1 : Int32)) fun v3 =>
  if o1 = (98 : Int32) then ((mX11_blowItem i_length v3 f_blowMany f_blows f_text f_told).bind fun o5 =>
  gz o5.1 <|
  some (o5.1, o5.2.1, o5.2.2.1, f_roundMany, f_downs, f_judges, f_judgeMany, f_homes, f_noises, f_forwards, f_takens, o5.2.2.2.1, o5.2.2.2.2)) else (if o1 = (100 : Int32) then ((mX11_more i_length v3 f_text f_told f_takens).bind fun o9 =>
  gz o9.1 <|
  some (o9.1, o9.2.1, o9.2.2.1, f_roundMany, f_downs, f_judges, f_judgeMany, f_homes, f_noises, f_forwards, o9.2.2.2, f_blows, f_blowMany)) else (if o1 = (102 : Int32) then ((mX11_figures (3 : Int32) i_length v3 f_text f_told).bind fun o13 =>
  if o13.1 = 0 then (some ((0 : Int32), o13.2.1, o13.2.2, f_roundMany, f_downs, f_judges, f_judgeMany, f_homes, f_noises, f_forwards, f_takens, f_blows, f_blowMany)) else (if (11 : Int32) < (o13.2.2 (0 : Int32).toNatClampNeg) then (some ((0 : Int32), o13.2.1, o13.2.2, f_roundMany, f_downs, f_judges, f_judgeMany, f_homes, f_noises, f_forwards, f_takens, f_blows, f_blowMany)) else (if (1 : Int32) < (o13.2.2 (1 : Int32).toNatClampNeg) then (some ((0 : Int32), o13.2.1, o13.2.2, f_roundMany, f_downs, f_judges, f_judgeMany, f_homes, f_noises, f_forwards, f_takens, f_blows, f_blowMany)) else (if (o13.2.2 (2 : Int32).toNatClampNeg) ≤ (9 : Int32) then (gi (((24 : Int32) + ((2 : Int32) * (o13.2.2 (0 : Int32).toNatClampNeg))) + (o13.2.2 (1 : Int32).toNatClampNeg)) 48 <|
  lb (upd f_forwards (((24 : Int32) + ((2 : Int32) * (o13.2.2 (0 : Int32).toNatClampNeg))) + (o13.2.2 (1 : Int32).toNatClampNeg)).toNatClampNeg (o13.2.2 (2 : Int32).toNatClampNeg)) fun g20 =>
  some ((1 : Int32), o13.2.1, o13.2.2, f_roundMany, f_downs, f_judges, f_judgeMany, f_homes, f_noises, g20, f_takens, f_blows, f_blowMany)) else (some ((0 : Int32), o13.2.1, o13.2.2, f_roundMany, f_downs, f_judges, f_judgeMany, f_homes, f_noises, f_forwards, f_takens, f_blows, f_blowMany)))))) else (if o1 = (104 : Int32) then ((mX11_figures (2 : Int32) i_length v3 f_text f_told).bind fun o22 =>
  if o22.1 = 0 then (some ((0 : Int32), o22.2.1, o22.2.2, f_roundMany, f_downs, f_judges, f_judgeMany, f_homes, f_noises, f_forwards, f_takens, f_blows, f_blowMany)) else (if (1 : Int32) < (o22.2.2 (0 : Int32).toNatClampNeg) then (some ((0 : Int32), o22.2.1, o22.2.2, f_roundMany, f_downs, f_judges, f_judgeMany, f_homes, f_noises, f_forwards, f_takens, f_blows, f_blowMany)) else (if (o22.2.2 (1 : Int32).toNatClampNeg) ≤ (9 : Int32) then (lb (upd f_homes (1 : Int32).toNatClampNeg (o22.2.2 (0 : Int32).toNatClampNeg)) fun g27 =>
  lb (upd f_noises (1 : Int32).toNatClampNeg (o22.2.2 (1 : Int32).toNatClampNeg)) fun g28 =>
  some ((1 : Int32), o22.2.1, o22.2.2, f_roundMany, f_downs, f_judges, f_judgeMany, g27, g28, f_forwards, f_takens, f_blows, f_blowMany)) else (some ((0 : Int32), o22.2.1, o22.2.2, f_roundMany, f_downs, f_judges, f_judgeMany, f_homes, f_noises, f_forwards, f_takens, f_blows, f_blowMany))))) else (if o1 = (106 : Int32) then ((mX11_judgeItem i_length v3 f_judgeMany f_judges f_text f_told).bind fun o30 =>
  gz o30.1 <|
  some (o30.1, o30.2.1, o30.2.2.1, f_roundMany, f_downs, o30.2.2.2.1, o30.2.2.2.2, f_homes, f_noises, f_forwards, f_takens, f_blows, f_blowMany)) else (if o1 = (107 : Int32) then ((mX11_more i_length v3 f_text f_told f_downs).bind fun o34 =>
  gz o34.1 <|
  some (o34.1, o34.2.1, o34.2.2.1, f_roundMany, o34.2.2.2, f_judges, f_judgeMany, f_homes, f_noises, f_forwards, f_takens, f_blows, f_blowMany)) else (if o1 = (114 : Int32) then ((mX11_figures (1 : Int32) i_length v3 f_text f_told).bind fun o38 =>
  if o38.1 = 0 then (some ((0 : Int32), o38.2.1, o38.2.2, f_roundMany, f_downs, f_judges, f_judgeMany, f_homes, f_noises, f_forwards, f_takens, f_blows, f_blowMany)) else ((mX11_in (Int32.toInt64 (o38.2.2 (0 : Int32).toNatClampNeg)) (1 : Int64) (12 : Int64)).bind fun o41 =>
  if o41 = 0 then (some ((0 : Int32), o38.2.1, o38.2.2, f_roundMany, f_downs, f_judges, f_judgeMany, f_homes, f_noises, f_forwards, f_takens, f_blows, f_blowMany)) else (lb (upd f_roundMany (1 : Int32).toNatClampNeg (o38.2.2 (0 : Int32).toNatClampNeg)) fun g44 =>
  some ((1 : Int32), o38.2.1, o38.2.2, g44, f_downs, f_judges, f_judgeMany, f_homes, f_noises, f_forwards, f_takens, f_blows, f_blowMany)))) else (some ((0 : Int32), v3, f_told, f_roundMany, f_downs, f_judges, f_judgeMany, f_homes, f_noises, f_forwards, f_takens, f_blows, f_blowMany))))))))
theorem hdsX11_item : yX11_item.cls ≠ "java/lang/invoke/MethodHandle" ∧ yX11_item.cls ≠ "java/lang/invoke/VarHandle" ∧ (parseMethodDescriptor yX11_item.desc).map (fun d => d.parameters.length) = some 0 := by decide +kernel
theorem hdvX11_item : yX11_item.cls = RX11 ∧ yX11_item.cls ≠ "java/lang/invoke/MethodHandle" ∧ yX11_item.cls ≠ "java/lang/invoke/VarHandle" ∧ (parseMethodDescriptor yX11_item.desc).map (fun d => d.parameters.length) = some 0 := by decide +kernel
abbrev rmX11_item : Room := { frames := 3, cells := 0, slots := 0, locals := 71 }
set_option maxHeartbeats 4000000 in
set_option maxRecDepth 100000 in
theorem qX11_item (l : Launch) (X : XT) (a_this : Nat) (a_blowMany : Nat) (a_blows : Nat) (a_downs : Nat) (a_forwards : Nat) (a_homes : Nat) (a_judgeMany : Nat) (a_judges : Nat) (a_noises : Nat) (a_roundMany : Nat) (a_takens : Nat) (a_text : Nat) (a_told : Nat) (a_delays : Nat) (a_tolds : Nat) (a_tens : Nat) (a_ways : Nat) (a_nextWays : Nat) (a_tallies : Nat) (a_presses : Nat) (a_values : Nat) (a_nextValues : Nat)  (i_length : Int32) (i_keptMany : Int32) (i_place : Int32) (f_blowMany : Nat → Int32) (f_blows : Nat → Int32) (f_downs : Nat → Int32) (f_forwards : Nat → Int32) (f_homes : Nat → Int32) (f_judgeMany : Nat → Int32) (f_judges : Nat → Int32) (f_noises : Nat → Int32) (f_roundMany : Nat → Int32) (f_takens : Nat → Int32) (f_text : Nat → Int32) (f_told : Nat → Int32)  (o : Int32 × Int32 × (Nat → Int32) × (Nat → Int32) × (Nat → Int32) × (Nat → Int32) × (Nat → Int32) × (Nat → Int32) × (Nat → Int32) × (Nat → Int32) × (Nat → Int32) × (Nat → Int32) × (Nat → Int32)) (hf : mX11_item i_length i_place f_blowMany f_blows f_downs f_forwards f_homes f_judgeMany f_judges f_noises f_roundMany f_takens f_text f_told = some o) :
    MI l yX11_item wsX11_item rmX11_item X [.ref a_this] [(a_this, .inr (11, [.int i_length, .ref a_text, .ref a_roundMany, .ref a_blowMany, .ref a_blows, .ref a_forwards, .ref a_downs, .ref a_takens, .ref a_homes, .ref a_noises, .ref a_judgeMany, .ref a_judges, .ref a_delays, .ref a_tolds, .ref a_tens, .int i_keptMany, .int i_place, .ref a_told, .ref a_ways, .ref a_nextWays, .ref a_tallies, .ref a_presses, .ref a_values, .ref a_nextValues])), (a_blowMany, .inl (X.2.1 0, 2, .inl f_blowMany)), (a_blows, .inl (X.2.1 0, 400, .inl f_blows)), (a_downs, .inl (X.2.1 0, 48, .inl f_downs)), (a_forwards, .inl (X.2.1 0, 48, .inl f_forwards)), (a_homes, .inl (X.2.1 0, 2, .inl f_homes)), (a_judgeMany, .inl (X.2.1 0, 2, .inl f_judgeMany)), (a_judges, .inl (X.2.1 0, 112, .inl f_judges)), (a_noises, .inl (X.2.1 0, 2, .inl f_noises)), (a_roundMany, .inl (X.2.1 0, 2, .inl f_roundMany)), (a_takens, .inl (X.2.1 0, 48, .inl f_takens)), (a_text, .inl (X.2.1 0, 500, .inl f_text)), (a_told, .inl (X.2.1 0, 7, .inl f_told))]  [(a_this, .inr (11, [.int i_length, .ref a_text, .ref a_roundMany, .ref a_blowMany, .ref a_blows, .ref a_forwards, .ref a_downs, .ref a_takens, .ref a_homes, .ref a_noises, .ref a_judgeMany, .ref a_judges, .ref a_delays, .ref a_tolds, .ref a_tens, .int i_keptMany, .int o.2.1, .ref a_told, .ref a_ways, .ref a_nextWays, .ref a_tallies, .ref a_presses, .ref a_values, .ref a_nextValues])), (a_blowMany, .inl (X.2.1 0, 2, .inl o.2.2.2.2.2.2.2.2.2.2.2.2)), (a_blows, .inl (X.2.1 0, 400, .inl o.2.2.2.2.2.2.2.2.2.2.2.1)), (a_downs, .inl (X.2.1 0, 48, .inl o.2.2.2.2.1)), (a_forwards, .inl (X.2.1 0, 48, .inl o.2.2.2.2.2.2.2.2.2.1)), (a_homes, .inl (X.2.1 0, 2, .inl o.2.2.2.2.2.2.2.1)), (a_judgeMany, .inl (X.2.1 0, 2, .inl o.2.2.2.2.2.2.1)), (a_judges, .inl (X.2.1 0, 112, .inl o.2.2.2.2.2.1)), (a_noises, .inl (X.2.1 0, 2, .inl o.2.2.2.2.2.2.2.2.1)), (a_roundMany, .inl (X.2.1 0, 2, .inl o.2.2.2.1)), (a_takens, .inl (X.2.1 0, 48, .inl o.2.2.2.2.2.2.2.2.2.2.1)), (a_text, .inl (X.2.1 0, 500, .inl f_text)), (a_told, .inl (X.2.1 0, 7, .inl o.2.2.1))] o.1 := by
  refine MI_ofH (cc := cX11_item) (maxL := 2) (rt := .boolean) (by decide) rfl (Nat.le_of_ble_eq_true rfl) ?_
  intro p e s m below meth c A Q H ls hx hb hml hts hown hA hD hG hP hS hl ret
  have hown : s.vm.findClass RX11 = some m.cls := hown
  have hD : aD A [a_this, a_blowMany, a_blows, a_downs, a_forwards, a_homes, a_judgeMany, a_judges, a_noises, a_roundMany, a_takens, a_text, a_told] := hD
  have hl : lv_has ls 2 [(0, .ref a_this)] := hl
  have w1 := hts (Cond.fieldLink RX11 90 "ThreeCardsModel" "place" "I") (List.mem_of_getElem? (i := 1) rfl)
  have w2 := hts (Cond.fieldLink RX11 52 "ThreeCardsModel" "told" "[I") (List.mem_of_getElem? (i := 2) rfl)
  have w3 := hts (Cond.constantLong RX11 109 (12)) (List.mem_of_getElem? (i := 3) rfl)
  have w4 := hts (Cond.fieldLink RX11 13 "ThreeCardsModel" "roundMany" "[I") (List.mem_of_getElem? (i := 4) rfl)
  have w5 := hts (Cond.fieldLink RX11 22 "ThreeCardsModel" "forwards" "[I") (List.mem_of_getElem? (i := 5) rfl)
  have w6 := hts (Cond.fieldLink RX11 25 "ThreeCardsModel" "downs" "[I") (List.mem_of_getElem? (i := 6) rfl)
  have w7 := hts (Cond.fieldLink RX11 28 "ThreeCardsModel" "takens" "[I") (List.mem_of_getElem? (i := 7) rfl)
  have w8 := hts (Cond.fieldLink RX11 31 "ThreeCardsModel" "homes" "[I") (List.mem_of_getElem? (i := 8) rfl)
  have w9 := hts (Cond.fieldLink RX11 34 "ThreeCardsModel" "noises" "[I") (List.mem_of_getElem? (i := 9) rfl)
  have in11 : ∀ w ∈ u_ws RX11 TX11 24, w ∈ wsX11_item := by decide +kernel
  unfold mX11_item at hf
  refine lv_aload_n hx hb dX11_item_0 rfl (lv_at hl 0 rfl) ?_
  refine lv_aload_n hx hb dX11_item_1 rfl (lv_at hl 0 rfl) ?_
  refine va_get (D := X.1) (ci := 11) (v := .int i_place) (C := RX11) (T := TX11) (N := 24) hx hb hts in11 hown hG.1 hP 0 rfl rfl 16 (by decide) w1 (fun _ h9 => h9) rfl dX11_item_2 ?_
  obtain ⟨o1, ho1, hf⟩ := ob_s hf
  refine xV_i (As := [.int i_place]) (b := a_this) (rest := []) (ws2 := [(a_this, .inr (11, [.int i_length, .ref a_text, .ref a_roundMany, .ref a_blowMany, .ref a_blows, .ref a_forwards, .ref a_downs, .ref a_takens, .ref a_homes, .ref a_noises, .ref a_judgeMany, .ref a_judges, .ref a_delays, .ref a_tolds, .ref a_tens, .int i_keptMany, .int i_place, .ref a_told, .ref a_ways, .ref a_nextWays, .ref a_tallies, .ref a_presses, .ref a_values, .ref a_nextValues])), (a_blowMany, .inl (X.2.1 0, 2, .inl f_blowMany)), (a_blows, .inl (X.2.1 0, 400, .inl f_blows)), (a_downs, .inl (X.2.1 0, 48, .inl f_downs)), (a_forwards, .inl (X.2.1 0, 48, .inl f_forwards)), (a_homes, .inl (X.2.1 0, 2, .inl f_homes)), (a_judgeMany, .inl (X.2.1 0, 2, .inl f_judgeMany)), (a_judges, .inl (X.2.1 0, 112, .inl f_judges)), (a_noises, .inl (X.2.1 0, 2, .inl f_noises)), (a_roundMany, .inl (X.2.1 0, 2, .inl f_roundMany)), (a_takens, .inl (X.2.1 0, 48, .inl f_takens)), (a_text, .inl (X.2.1 0, 500, .inl f_text)), (a_told, .inl (X.2.1 0, 7, .inl f_told))]) hx hb hml hts hown hG hA hP hD rfl hS hl.1 (qX11_byteAt l X a_this a_text a_roundMany a_blowMany a_blows a_forwards a_downs a_takens a_homes a_noises a_judgeMany a_judges a_delays a_tolds a_tens a_told a_ways a_nextWays a_tallies a_presses a_values a_nextValues i_length i_keptMany i_place f_text i_place o1 ho1) (cwV (y := yX11_byteAt) 1 hts gX11_item_X11_byteAt rfl rfl rfl hdvX11_byteAt ⟨Nat.le_of_ble_eq_true rfl, Nat.le_of_ble_eq_true rfl⟩) [0, 11] [1, 2, 3, 4, 5, 6, 7, 8, 9, 10, 12] [11, 0, 1, 2, 3, 4, 5, 6, 7, 8, 9, 12, 10] rfl rfl rfl rfl rfl rfl rfl (ci := 11) rfl 0 rfl rfl rfl (Nat.le_of_ble_eq_true rfl) ⟨Nat.le_of_ble_eq_true rfl, Nat.le_of_ble_eq_true rfl⟩ dX11_item_5 (fun H locs hP _ hS => ?_)
  refine lv_istore_n (lv' := [(1, .int o1), (0, .ref a_this)]) hx hb dX11_item_8 rfl hl (by decide) rfl (fun ls hl => ?_)
  refine lv_aload_n hx hb dX11_item_9 rfl (lv_at hl 1 rfl) ?_
  refine lv_dup hx hb dX11_item_10 rfl ?_
  refine va_get (D := X.1) (ci := 11) (v := .int i_place) (C := RX11) (T := TX11) (N := 24) hx hb hts in11 hown hG.1 hP 0 rfl rfl 16 (by decide) w1 (fun _ h9 => h9) rfl dX11_item_11 ?_
  refine lv_iconst (v := (1 : Int32)) hx hb dX11_item_14 (by decide) ?_
  refine lv_iadd hx hb dX11_item_15 ?_
  refine lv_topi (fun v3 ev3 => ?_)
  have hf := lb_s hf ev3
  refine x_put (ws' := [(a_this, .inr (11, [.int i_length, .ref a_text, .ref a_roundMany, .ref a_blowMany, .ref a_blows, .ref a_forwards, .ref a_downs, .ref a_takens, .ref a_homes, .ref a_noises, .ref a_judgeMany, .ref a_judges, .ref a_delays, .ref a_tolds, .ref a_tens, .int i_keptMany, .int v3, .ref a_told, .ref a_ways, .ref a_nextWays, .ref a_tallies, .ref a_presses, .ref a_values, .ref a_nextValues])), (a_blowMany, .inl (X.2.1 0, 2, .inl f_blowMany)), (a_blows, .inl (X.2.1 0, 400, .inl f_blows)), (a_downs, .inl (X.2.1 0, 48, .inl f_downs)), (a_forwards, .inl (X.2.1 0, 48, .inl f_forwards)), (a_homes, .inl (X.2.1 0, 2, .inl f_homes)), (a_judgeMany, .inl (X.2.1 0, 2, .inl f_judgeMany)), (a_judges, .inl (X.2.1 0, 112, .inl f_judges)), (a_noises, .inl (X.2.1 0, 2, .inl f_noises)), (a_roundMany, .inl (X.2.1 0, 2, .inl f_roundMany)), (a_takens, .inl (X.2.1 0, 48, .inl f_takens)), (a_text, .inl (X.2.1 0, 500, .inl f_text)), (a_told, .inl (X.2.1 0, 7, .inl f_told))]) (ty := .int) (C := RX11) (T := TX11) (N := 24) hx hb hts in11 tyX11 tyX11_ok nmX11 hown hG hP hD rfl hS 0 rfl rfl 16 (by decide) w1 rfl (tyX11_ok 16 (by decide)) rfl rfl (Nat.le_of_ble_eq_true rfl) dX11_item_16 rfl (fun H locs hP hS => ?_)
  refine lv_iload_n hx hb dX11_item_19 rfl (lv_at hl 0 rfl) ?_
  by_cases c4 : o1 = (98 : Int32)
  · have hf := xt hf c4
    refine lv_tableIn (tgt := 145) (off := 125) hx hb dX11_item_20 (by rw [c4]; decide) (by rw [c4]; decide) (by rw [c4]; decide) (by decide) ?_
    refine lv_aload_n hx hb dX11_item_145 rfl (lv_at hl 1 rfl) ?_
    obtain ⟨o5, ho5, hf⟩ := ob_s hf
    refine xV_i (As := []) (b := a_this) (rest := []) (ws2 := [(a_this, .inr (11, [.int i_length, .ref a_text, .ref a_roundMany, .ref a_blowMany, .ref a_blows, .ref a_forwards, .ref a_downs, .ref a_takens, .ref a_homes, .ref a_noises, .ref a_judgeMany, .ref a_judges, .ref a_delays, .ref a_tolds, .ref a_tens, .int i_keptMany, .int o5.2.1, .ref a_told, .ref a_ways, .ref a_nextWays, .ref a_tallies, .ref a_presses, .ref a_values, .ref a_nextValues])), (a_blowMany, .inl (X.2.1 0, 2, .inl o5.2.2.2.2)), (a_blows, .inl (X.2.1 0, 400, .inl o5.2.2.2.1)), (a_downs, .inl (X.2.1 0, 48, .inl f_downs)), (a_forwards, .inl (X.2.1 0, 48, .inl f_forwards)), (a_homes, .inl (X.2.1 0, 2, .inl f_homes)), (a_judgeMany, .inl (X.2.1 0, 2, .inl f_judgeMany)), (a_judges, .inl (X.2.1 0, 112, .inl f_judges)), (a_noises, .inl (X.2.1 0, 2, .inl f_noises)), (a_roundMany, .inl (X.2.1 0, 2, .inl f_roundMany)), (a_takens, .inl (X.2.1 0, 48, .inl f_takens)), (a_text, .inl (X.2.1 0, 500, .inl f_text)), (a_told, .inl (X.2.1 0, 7, .inl o5.2.2.1))]) hx hb hml hts hown hG hA hP hD rfl hS hl.1 (qX11_blowItem l X a_this a_blowMany a_blows a_text a_told a_roundMany a_forwards a_downs a_takens a_homes a_noises a_judgeMany a_judges a_delays a_tolds a_tens a_ways a_nextWays a_tallies a_presses a_values a_nextValues i_length i_keptMany v3 f_blowMany f_blows f_text f_told o5 ho5) (cwV (y := yX11_blowItem) 0 hts gX11_item_X11_blowItem rfl rfl rfl hdvX11_blowItem ⟨Nat.le_of_ble_eq_true rfl, Nat.le_of_ble_eq_true rfl⟩) [0, 1, 2, 11, 12] [3, 4, 5, 6, 7, 8, 9, 10] [8, 9, 10, 0, 1, 2, 3, 4, 5, 6, 7, 11, 12] rfl rfl rfl rfl rfl rfl rfl (ci := 11) rfl 0 rfl rfl rfl (Nat.le_of_ble_eq_true rfl) ⟨Nat.le_of_ble_eq_true rfl, Nat.le_of_ble_eq_true rfl⟩ dX11_item_146 (fun H locs hP _ hS => ?_)
    obtain ⟨h7, hf⟩ := gz_s hf
    obtain rfl := Option.some.inj hf
    exact ret H _ ls _ h7 hP hD hS dX11_item_149
  · have hf := xf hf c4
    by_cases c8 : o1 = (100 : Int32)
    · have hf := xt hf c8
      refine lv_tableIn (tgt := 232) (off := 212) hx hb dX11_item_20 (by rw [c8]; decide) (by rw [c8]; decide) (by rw [c8]; decide) (by decide) ?_
      refine lv_aload_n hx hb dX11_item_232 rfl (lv_at hl 1 rfl) ?_
      refine lv_aload_n hx hb dX11_item_233 rfl (lv_at hl 1 rfl) ?_
      refine va_get (D := X.1) (ci := 11) (v := .ref a_takens) (C := RX11) (T := TX11) (N := 24) hx hb hts in11 hown hG.1 hP 0 rfl rfl 7 (by decide) w7 (fun _ h9 => h9) rfl dX11_item_234 ?_
      obtain ⟨o9, ho9, hf⟩ := ob_s hf
      refine xV_i (As := [.ref a_takens]) (b := a_this) (rest := []) (ws2 := [(a_this, .inr (11, [.int i_length, .ref a_text, .ref a_roundMany, .ref a_blowMany, .ref a_blows, .ref a_forwards, .ref a_downs, .ref a_takens, .ref a_homes, .ref a_noises, .ref a_judgeMany, .ref a_judges, .ref a_delays, .ref a_tolds, .ref a_tens, .int i_keptMany, .int o9.2.1, .ref a_told, .ref a_ways, .ref a_nextWays, .ref a_tallies, .ref a_presses, .ref a_values, .ref a_nextValues])), (a_blowMany, .inl (X.2.1 0, 2, .inl f_blowMany)), (a_blows, .inl (X.2.1 0, 400, .inl f_blows)), (a_downs, .inl (X.2.1 0, 48, .inl f_downs)), (a_forwards, .inl (X.2.1 0, 48, .inl f_forwards)), (a_homes, .inl (X.2.1 0, 2, .inl f_homes)), (a_judgeMany, .inl (X.2.1 0, 2, .inl f_judgeMany)), (a_judges, .inl (X.2.1 0, 112, .inl f_judges)), (a_noises, .inl (X.2.1 0, 2, .inl f_noises)), (a_roundMany, .inl (X.2.1 0, 2, .inl f_roundMany)), (a_takens, .inl (X.2.1 0, 48, .inl o9.2.2.2)), (a_text, .inl (X.2.1 0, 500, .inl f_text)), (a_told, .inl (X.2.1 0, 7, .inl o9.2.2.1))]) hx hb hml hts hown hG hA hP hD rfl hS hl.1 (qX11_more l X a_this a_text a_told a_takens a_roundMany a_blowMany a_blows a_forwards a_downs a_takens a_homes a_noises a_judgeMany a_judges a_delays a_tolds a_tens a_ways a_nextWays a_tallies a_presses a_values a_nextValues i_length i_keptMany v3 f_text f_told f_takens o9 ho9) (cwV (y := yX11_more) 1 hts gX11_item_X11_more rfl rfl rfl hdvX11_more ⟨Nat.le_of_ble_eq_true rfl, Nat.le_of_ble_eq_true rfl⟩) [0, 11, 12, 10] [1, 2, 3, 4, 5, 6, 7, 8, 9] [9, 0, 1, 2, 3, 4, 5, 6, 7, 8, 12, 10, 11] rfl rfl rfl rfl rfl rfl rfl (ci := 11) rfl 0 rfl rfl rfl (Nat.le_of_ble_eq_true rfl) ⟨Nat.le_of_ble_eq_true rfl, Nat.le_of_ble_eq_true rfl⟩ dX11_item_237 (fun H locs hP _ hS => ?_)
      obtain ⟨h11, hf⟩ := gz_s hf
      obtain rfl := Option.some.inj hf
      exact ret H _ ls _ h11 hP hD hS dX11_item_240
    · have hf := xf hf c8
      by_cases c12 : o1 = (102 : Int32)
      · have hf := xt hf c12
        refine lv_tableIn (tgt := 150) (off := 130) hx hb dX11_item_20 (by rw [c12]; decide) (by rw [c12]; decide) (by rw [c12]; decide) (by decide) ?_
        refine lv_aload_n hx hb dX11_item_150 rfl (lv_at hl 1 rfl) ?_
        refine lv_iconst (v := (3 : Int32)) hx hb dX11_item_151 (by decide) ?_
        obtain ⟨o13, ho13, hf⟩ := ob_s hf
        refine xV_i (As := [.int (3 : Int32)]) (b := a_this) (rest := []) (ws2 := [(a_this, .inr (11, [.int i_length, .ref a_text, .ref a_roundMany, .ref a_blowMany, .ref a_blows, .ref a_forwards, .ref a_downs, .ref a_takens, .ref a_homes, .ref a_noises, .ref a_judgeMany, .ref a_judges, .ref a_delays, .ref a_tolds, .ref a_tens, .int i_keptMany, .int o13.2.1, .ref a_told, .ref a_ways, .ref a_nextWays, .ref a_tallies, .ref a_presses, .ref a_values, .ref a_nextValues])), (a_blowMany, .inl (X.2.1 0, 2, .inl f_blowMany)), (a_blows, .inl (X.2.1 0, 400, .inl f_blows)), (a_downs, .inl (X.2.1 0, 48, .inl f_downs)), (a_forwards, .inl (X.2.1 0, 48, .inl f_forwards)), (a_homes, .inl (X.2.1 0, 2, .inl f_homes)), (a_judgeMany, .inl (X.2.1 0, 2, .inl f_judgeMany)), (a_judges, .inl (X.2.1 0, 112, .inl f_judges)), (a_noises, .inl (X.2.1 0, 2, .inl f_noises)), (a_roundMany, .inl (X.2.1 0, 2, .inl f_roundMany)), (a_takens, .inl (X.2.1 0, 48, .inl f_takens)), (a_text, .inl (X.2.1 0, 500, .inl f_text)), (a_told, .inl (X.2.1 0, 7, .inl o13.2.2))]) hx hb hml hts hown hG hA hP hD rfl hS hl.1 (qX11_figures l X a_this a_text a_told a_roundMany a_blowMany a_blows a_forwards a_downs a_takens a_homes a_noises a_judgeMany a_judges a_delays a_tolds a_tens a_ways a_nextWays a_tallies a_presses a_values a_nextValues i_length i_keptMany v3 f_text f_told (3 : Int32) o13 ho13) (cwV (y := yX11_figures) 1 hts gX11_item_X11_figures rfl rfl rfl hdvX11_figures ⟨Nat.le_of_ble_eq_true rfl, Nat.le_of_ble_eq_true rfl⟩) [0, 11, 12] [1, 2, 3, 4, 5, 6, 7, 8, 9, 10] [10, 0, 1, 2, 3, 4, 5, 6, 7, 8, 9, 11, 12] rfl rfl rfl rfl rfl rfl rfl (ci := 11) rfl 0 rfl rfl rfl (Nat.le_of_ble_eq_true rfl) ⟨Nat.le_of_ble_eq_true rfl, Nat.le_of_ble_eq_true rfl⟩ dX11_item_152 (fun H locs hP _ hS => ?_)
        refine lv_if_eq (tgt := 190) hx hb dX11_item_155 (by decide) (fun c15 => ?_) (fun c15 => ?_)
        · have hf := xt hf c15
          refine lv_iconst (v := (0 : Int32)) hx hb dX11_item_190 (by decide) ?_
          obtain rfl := Option.some.inj hf
          exact ret H _ ls _ (show narrow .boolean (.int (0 : Int32)) = .int (0 : Int32) from rfl) hP hD hS dX11_item_191
        · have hf := xf hf c15
          refine lv_aload_n hx hb dX11_item_158 rfl (lv_at hl 1 rfl) ?_
          refine va_get (D := X.1) (ci := 11) (v := .ref a_told) (C := RX11) (T := TX11) (N := 24) hx hb hts in11 hown hG.1 hP 0 rfl rfl 17 (by decide) w2 (fun _ h9 => h9) rfl dX11_item_159 ?_
          refine lv_iconst (v := (0 : Int32)) hx hb dX11_item_162 (by decide) ?_
          refine va_iald (D := X.1) hx hb hG.1 hP 12 0 rfl rfl (vp_lit (by decide)) dX11_item_163 ?_
          refine lv_bipush (v := (11 : Int32)) hx hb dX11_item_164 (by decide) ?_
          refine lv_icmp_gt (tgt := 190) hx hb dX11_item_166 (by decide) (fun c16 => ?_) (fun c16 => ?_)
          · have hf := xt hf c16
            refine lv_iconst (v := (0 : Int32)) hx hb dX11_item_190 (by decide) ?_
            obtain rfl := Option.some.inj hf
            exact ret H _ ls _ (show narrow .boolean (.int (0 : Int32)) = .int (0 : Int32) from rfl) hP hD hS dX11_item_191
          · have hf := xf hf c16
            refine lv_aload_n hx hb dX11_item_169 rfl (lv_at hl 1 rfl) ?_
            refine va_get (D := X.1) (ci := 11) (v := .ref a_told) (C := RX11) (T := TX11) (N := 24) hx hb hts in11 hown hG.1 hP 0 rfl rfl 17 (by decide) w2 (fun _ h9 => h9) rfl dX11_item_170 ?_
            refine lv_iconst (v := (1 : Int32)) hx hb dX11_item_173 (by decide) ?_
            refine va_iald (D := X.1) hx hb hG.1 hP 12 0 rfl rfl (vp_lit (by decide)) dX11_item_174 ?_
            refine lv_iconst (v := (1 : Int32)) hx hb dX11_item_175 (by decide) ?_
            refine lv_icmp_gt (tgt := 190) hx hb dX11_item_176 (by decide) (fun c17 => ?_) (fun c17 => ?_)
            · have hf := xt hf c17
              refine lv_iconst (v := (0 : Int32)) hx hb dX11_item_190 (by decide) ?_
              obtain rfl := Option.some.inj hf
              exact ret H _ ls _ (show narrow .boolean (.int (0 : Int32)) = .int (0 : Int32) from rfl) hP hD hS dX11_item_191
            · have hf := xf hf c17
              refine lv_aload_n hx hb dX11_item_179 rfl (lv_at hl 1 rfl) ?_
              refine va_get (D := X.1) (ci := 11) (v := .ref a_told) (C := RX11) (T := TX11) (N := 24) hx hb hts in11 hown hG.1 hP 0 rfl rfl 17 (by decide) w2 (fun _ h9 => h9) rfl dX11_item_180 ?_
              refine lv_iconst (v := (2 : Int32)) hx hb dX11_item_183 (by decide) ?_
              refine va_iald (D := X.1) hx hb hG.1 hP 12 0 rfl rfl (vp_lit (by decide)) dX11_item_184 ?_
              refine lv_bipush (v := (9 : Int32)) hx hb dX11_item_185 (by decide) ?_
              refine lv_icmp_le (tgt := 192) hx hb dX11_item_187 (by decide) (fun c18 => ?_) (fun c18 => ?_)
              · have hf := xt hf c18
                refine lv_aload_n hx hb dX11_item_192 rfl (lv_at hl 1 rfl) ?_
                refine va_get (D := X.1) (ci := 11) (v := .ref a_forwards) (C := RX11) (T := TX11) (N := 24) hx hb hts in11 hown hG.1 hP 0 rfl rfl 5 (by decide) w5 (fun _ h9 => h9) rfl dX11_item_193 ?_
                refine lv_bipush (v := (24 : Int32)) hx hb dX11_item_196 (by decide) ?_
                refine lv_iconst (v := (2 : Int32)) hx hb dX11_item_198 (by decide) ?_
                refine lv_aload_n hx hb dX11_item_199 rfl (lv_at hl 1 rfl) ?_
                refine va_get (D := X.1) (ci := 11) (v := .ref a_told) (C := RX11) (T := TX11) (N := 24) hx hb hts in11 hown hG.1 hP 0 rfl rfl 17 (by decide) w2 (fun _ h9 => h9) rfl dX11_item_200 ?_
                refine lv_iconst (v := (0 : Int32)) hx hb dX11_item_203 (by decide) ?_
                refine va_iald (D := X.1) hx hb hG.1 hP 12 0 rfl rfl (vp_lit (by decide)) dX11_item_204 ?_
                refine lv_imul hx hb dX11_item_205 ?_
                refine lv_iadd hx hb dX11_item_206 ?_
                refine lv_aload_n hx hb dX11_item_207 rfl (lv_at hl 1 rfl) ?_
                refine va_get (D := X.1) (ci := 11) (v := .ref a_told) (C := RX11) (T := TX11) (N := 24) hx hb hts in11 hown hG.1 hP 0 rfl rfl 17 (by decide) w2 (fun _ h9 => h9) rfl dX11_item_208 ?_
                refine lv_iconst (v := (1 : Int32)) hx hb dX11_item_211 (by decide) ?_
                refine va_iald (D := X.1) hx hb hG.1 hP 12 0 rfl rfl (vp_lit (by decide)) dX11_item_212 ?_
                refine lv_iadd hx hb dX11_item_213 ?_
                refine lv_aload_n hx hb dX11_item_214 rfl (lv_at hl 1 rfl) ?_
                refine va_get (D := X.1) (ci := 11) (v := .ref a_told) (C := RX11) (T := TX11) (N := 24) hx hb hts in11 hown hG.1 hP 0 rfl rfl 17 (by decide) w2 (fun _ h9 => h9) rfl dX11_item_215 ?_
                refine lv_iconst (v := (2 : Int32)) hx hb dX11_item_218 (by decide) ?_
                refine va_iald (D := X.1) hx hb hG.1 hP 12 0 rfl rfl (vp_lit (by decide)) dX11_item_219 ?_
                obtain ⟨h19, hf⟩ := gi_s hf
                obtain ⟨g20, eg20, hf⟩ := lb_g hf
                refine x_iast (ws' := [(a_this, .inr (11, [.int i_length, .ref a_text, .ref a_roundMany, .ref a_blowMany, .ref a_blows, .ref a_forwards, .ref a_downs, .ref a_takens, .ref a_homes, .ref a_noises, .ref a_judgeMany, .ref a_judges, .ref a_delays, .ref a_tolds, .ref a_tens, .int i_keptMany, .int o13.2.1, .ref a_told, .ref a_ways, .ref a_nextWays, .ref a_tallies, .ref a_presses, .ref a_values, .ref a_nextValues])), (a_blowMany, .inl (X.2.1 0, 2, .inl f_blowMany)), (a_blows, .inl (X.2.1 0, 400, .inl f_blows)), (a_downs, .inl (X.2.1 0, 48, .inl f_downs)), (a_forwards, .inl (X.2.1 0, 48, .inl g20)), (a_homes, .inl (X.2.1 0, 2, .inl f_homes)), (a_judgeMany, .inl (X.2.1 0, 2, .inl f_judgeMany)), (a_judges, .inl (X.2.1 0, 112, .inl f_judges)), (a_noises, .inl (X.2.1 0, 2, .inl f_noises)), (a_roundMany, .inl (X.2.1 0, 2, .inl f_roundMany)), (a_takens, .inl (X.2.1 0, 48, .inl f_takens)), (a_text, .inl (X.2.1 0, 500, .inl f_text)), (a_told, .inl (X.2.1 0, 7, .inl o13.2.2))]) hx hb hG hP hD rfl hS 4 rfl h19 dX11_item_220 eg20 rfl (fun H locs hP hS => ?_)
                refine lv_iconst (v := (1 : Int32)) hx hb dX11_item_221 (by decide) ?_
                obtain rfl := Option.some.inj hf
                exact ret H _ ls _ (show narrow .boolean (.int (1 : Int32)) = .int (1 : Int32) from rfl) hP hD hS dX11_item_222
              · have hf := xf hf c18
                refine lv_iconst (v := (0 : Int32)) hx hb dX11_item_190 (by decide) ?_
                obtain rfl := Option.some.inj hf
                exact ret H _ ls _ (show narrow .boolean (.int (0 : Int32)) = .int (0 : Int32) from rfl) hP hD hS dX11_item_191
      · have hf := xf hf c12
        by_cases c21 : o1 = (104 : Int32)
        · have hf := xt hf c21
          refine lv_tableIn (tgt := 241) (off := 221) hx hb dX11_item_20 (by rw [c21]; decide) (by rw [c21]; decide) (by rw [c21]; decide) (by decide) ?_
          refine lv_aload_n hx hb dX11_item_241 rfl (lv_at hl 1 rfl) ?_
          refine lv_iconst (v := (2 : Int32)) hx hb dX11_item_242 (by decide) ?_
          obtain ⟨o22, ho22, hf⟩ := ob_s hf
          refine xV_i (As := [.int (2 : Int32)]) (b := a_this) (rest := []) (ws2 := [(a_this, .inr (11, [.int i_length, .ref a_text, .ref a_roundMany, .ref a_blowMany, .ref a_blows, .ref a_forwards, .ref a_downs, .ref a_takens, .ref a_homes, .ref a_noises, .ref a_judgeMany, .ref a_judges, .ref a_delays, .ref a_tolds, .ref a_tens, .int i_keptMany, .int o22.2.1, .ref a_told, .ref a_ways, .ref a_nextWays, .ref a_tallies, .ref a_presses, .ref a_values, .ref a_nextValues])), (a_blowMany, .inl (X.2.1 0, 2, .inl f_blowMany)), (a_blows, .inl (X.2.1 0, 400, .inl f_blows)), (a_downs, .inl (X.2.1 0, 48, .inl f_downs)), (a_forwards, .inl (X.2.1 0, 48, .inl f_forwards)), (a_homes, .inl (X.2.1 0, 2, .inl f_homes)), (a_judgeMany, .inl (X.2.1 0, 2, .inl f_judgeMany)), (a_judges, .inl (X.2.1 0, 112, .inl f_judges)), (a_noises, .inl (X.2.1 0, 2, .inl f_noises)), (a_roundMany, .inl (X.2.1 0, 2, .inl f_roundMany)), (a_takens, .inl (X.2.1 0, 48, .inl f_takens)), (a_text, .inl (X.2.1 0, 500, .inl f_text)), (a_told, .inl (X.2.1 0, 7, .inl o22.2.2))]) hx hb hml hts hown hG hA hP hD rfl hS hl.1 (qX11_figures l X a_this a_text a_told a_roundMany a_blowMany a_blows a_forwards a_downs a_takens a_homes a_noises a_judgeMany a_judges a_delays a_tolds a_tens a_ways a_nextWays a_tallies a_presses a_values a_nextValues i_length i_keptMany v3 f_text f_told (2 : Int32) o22 ho22) (cwV (y := yX11_figures) 1 hts gX11_item_X11_figures rfl rfl rfl hdvX11_figures ⟨Nat.le_of_ble_eq_true rfl, Nat.le_of_ble_eq_true rfl⟩) [0, 11, 12] [1, 2, 3, 4, 5, 6, 7, 8, 9, 10] [10, 0, 1, 2, 3, 4, 5, 6, 7, 8, 9, 11, 12] rfl rfl rfl rfl rfl rfl rfl (ci := 11) rfl 0 rfl rfl rfl (Nat.le_of_ble_eq_true rfl) ⟨Nat.le_of_ble_eq_true rfl, Nat.le_of_ble_eq_true rfl⟩ dX11_item_243 (fun H locs hP _ hS => ?_)
          refine lv_if_eq (tgt := 270) hx hb dX11_item_246 (by decide) (fun c24 => ?_) (fun c24 => ?_)
          · have hf := xt hf c24
            refine lv_iconst (v := (0 : Int32)) hx hb dX11_item_270 (by decide) ?_
            obtain rfl := Option.some.inj hf
            exact ret H _ ls _ (show narrow .boolean (.int (0 : Int32)) = .int (0 : Int32) from rfl) hP hD hS dX11_item_271
          · have hf := xf hf c24
            refine lv_aload_n hx hb dX11_item_249 rfl (lv_at hl 1 rfl) ?_
            refine va_get (D := X.1) (ci := 11) (v := .ref a_told) (C := RX11) (T := TX11) (N := 24) hx hb hts in11 hown hG.1 hP 0 rfl rfl 17 (by decide) w2 (fun _ h9 => h9) rfl dX11_item_250 ?_
            refine lv_iconst (v := (0 : Int32)) hx hb dX11_item_253 (by decide) ?_
            refine va_iald (D := X.1) hx hb hG.1 hP 12 0 rfl rfl (vp_lit (by decide)) dX11_item_254 ?_
            refine lv_iconst (v := (1 : Int32)) hx hb dX11_item_255 (by decide) ?_
            refine lv_icmp_gt (tgt := 270) hx hb dX11_item_256 (by decide) (fun c25 => ?_) (fun c25 => ?_)
            · have hf := xt hf c25
              refine lv_iconst (v := (0 : Int32)) hx hb dX11_item_270 (by decide) ?_
              obtain rfl := Option.some.inj hf
              exact ret H _ ls _ (show narrow .boolean (.int (0 : Int32)) = .int (0 : Int32) from rfl) hP hD hS dX11_item_271
            · have hf := xf hf c25
              refine lv_aload_n hx hb dX11_item_259 rfl (lv_at hl 1 rfl) ?_
              refine va_get (D := X.1) (ci := 11) (v := .ref a_told) (C := RX11) (T := TX11) (N := 24) hx hb hts in11 hown hG.1 hP 0 rfl rfl 17 (by decide) w2 (fun _ h9 => h9) rfl dX11_item_260 ?_
              refine lv_iconst (v := (1 : Int32)) hx hb dX11_item_263 (by decide) ?_
              refine va_iald (D := X.1) hx hb hG.1 hP 12 0 rfl rfl (vp_lit (by decide)) dX11_item_264 ?_
              refine lv_bipush (v := (9 : Int32)) hx hb dX11_item_265 (by decide) ?_
              refine lv_icmp_le (tgt := 272) hx hb dX11_item_267 (by decide) (fun c26 => ?_) (fun c26 => ?_)
              · have hf := xt hf c26
                refine lv_aload_n hx hb dX11_item_272 rfl (lv_at hl 1 rfl) ?_
                refine va_get (D := X.1) (ci := 11) (v := .ref a_homes) (C := RX11) (T := TX11) (N := 24) hx hb hts in11 hown hG.1 hP 0 rfl rfl 8 (by decide) w8 (fun _ h9 => h9) rfl dX11_item_273 ?_
                refine lv_iconst (v := (1 : Int32)) hx hb dX11_item_276 (by decide) ?_
                refine lv_aload_n hx hb dX11_item_277 rfl (lv_at hl 1 rfl) ?_
                refine va_get (D := X.1) (ci := 11) (v := .ref a_told) (C := RX11) (T := TX11) (N := 24) hx hb hts in11 hown hG.1 hP 0 rfl rfl 17 (by decide) w2 (fun _ h9 => h9) rfl dX11_item_278 ?_
                refine lv_iconst (v := (0 : Int32)) hx hb dX11_item_281 (by decide) ?_
                refine va_iald (D := X.1) hx hb hG.1 hP 12 0 rfl rfl (vp_lit (by decide)) dX11_item_282 ?_
                obtain ⟨g27, eg27, hf⟩ := lb_g hf
                refine x_iast (ws' := [(a_this, .inr (11, [.int i_length, .ref a_text, .ref a_roundMany, .ref a_blowMany, .ref a_blows, .ref a_forwards, .ref a_downs, .ref a_takens, .ref a_homes, .ref a_noises, .ref a_judgeMany, .ref a_judges, .ref a_delays, .ref a_tolds, .ref a_tens, .int i_keptMany, .int o22.2.1, .ref a_told, .ref a_ways, .ref a_nextWays, .ref a_tallies, .ref a_presses, .ref a_values, .ref a_nextValues])), (a_blowMany, .inl (X.2.1 0, 2, .inl f_blowMany)), (a_blows, .inl (X.2.1 0, 400, .inl f_blows)), (a_downs, .inl (X.2.1 0, 48, .inl f_downs)), (a_forwards, .inl (X.2.1 0, 48, .inl f_forwards)), (a_homes, .inl (X.2.1 0, 2, .inl g27)), (a_judgeMany, .inl (X.2.1 0, 2, .inl f_judgeMany)), (a_judges, .inl (X.2.1 0, 112, .inl f_judges)), (a_noises, .inl (X.2.1 0, 2, .inl f_noises)), (a_roundMany, .inl (X.2.1 0, 2, .inl f_roundMany)), (a_takens, .inl (X.2.1 0, 48, .inl f_takens)), (a_text, .inl (X.2.1 0, 500, .inl f_text)), (a_told, .inl (X.2.1 0, 7, .inl o22.2.2))]) hx hb hG hP hD rfl hS 5 rfl (vp_lit (by decide)) dX11_item_283 eg27 rfl (fun H locs hP hS => ?_)
                refine lv_aload_n hx hb dX11_item_284 rfl (lv_at hl 1 rfl) ?_
                refine va_get (D := X.1) (ci := 11) (v := .ref a_noises) (C := RX11) (T := TX11) (N := 24) hx hb hts in11 hown hG.1 hP 0 rfl rfl 9 (by decide) w9 (fun _ h9 => h9) rfl dX11_item_285 ?_
                refine lv_iconst (v := (1 : Int32)) hx hb dX11_item_288 (by decide) ?_
                refine lv_aload_n hx hb dX11_item_289 rfl (lv_at hl 1 rfl) ?_
                refine va_get (D := X.1) (ci := 11) (v := .ref a_told) (C := RX11) (T := TX11) (N := 24) hx hb hts in11 hown hG.1 hP 0 rfl rfl 17 (by decide) w2 (fun _ h9 => h9) rfl dX11_item_290 ?_
                refine lv_iconst (v := (1 : Int32)) hx hb dX11_item_293 (by decide) ?_
                refine va_iald (D := X.1) hx hb hG.1 hP 12 0 rfl rfl (vp_lit (by decide)) dX11_item_294 ?_
                obtain ⟨g28, eg28, hf⟩ := lb_g hf
                refine x_iast (ws' := [(a_this, .inr (11, [.int i_length, .ref a_text, .ref a_roundMany, .ref a_blowMany, .ref a_blows, .ref a_forwards, .ref a_downs, .ref a_takens, .ref a_homes, .ref a_noises, .ref a_judgeMany, .ref a_judges, .ref a_delays, .ref a_tolds, .ref a_tens, .int i_keptMany, .int o22.2.1, .ref a_told, .ref a_ways, .ref a_nextWays, .ref a_tallies, .ref a_presses, .ref a_values, .ref a_nextValues])), (a_blowMany, .inl (X.2.1 0, 2, .inl f_blowMany)), (a_blows, .inl (X.2.1 0, 400, .inl f_blows)), (a_downs, .inl (X.2.1 0, 48, .inl f_downs)), (a_forwards, .inl (X.2.1 0, 48, .inl f_forwards)), (a_homes, .inl (X.2.1 0, 2, .inl g27)), (a_judgeMany, .inl (X.2.1 0, 2, .inl f_judgeMany)), (a_judges, .inl (X.2.1 0, 112, .inl f_judges)), (a_noises, .inl (X.2.1 0, 2, .inl g28)), (a_roundMany, .inl (X.2.1 0, 2, .inl f_roundMany)), (a_takens, .inl (X.2.1 0, 48, .inl f_takens)), (a_text, .inl (X.2.1 0, 500, .inl f_text)), (a_told, .inl (X.2.1 0, 7, .inl o22.2.2))]) hx hb hG hP hD rfl hS 8 rfl (vp_lit (by decide)) dX11_item_295 eg28 rfl (fun H locs hP hS => ?_)
                refine lv_iconst (v := (1 : Int32)) hx hb dX11_item_296 (by decide) ?_
                obtain rfl := Option.some.inj hf
                exact ret H _ ls _ (show narrow .boolean (.int (1 : Int32)) = .int (1 : Int32) from rfl) hP hD hS dX11_item_297
              · have hf := xf hf c26
                refine lv_iconst (v := (0 : Int32)) hx hb dX11_item_270 (by decide) ?_
                obtain rfl := Option.some.inj hf
                exact ret H _ ls _ (show narrow .boolean (.int (0 : Int32)) = .int (0 : Int32) from rfl) hP hD hS dX11_item_271
        · have hf := xf hf c21
          by_cases c29 : o1 = (106 : Int32)
          · have hf := xt hf c29
            refine lv_tableIn (tgt := 298) (off := 278) hx hb dX11_item_20 (by rw [c29]; decide) (by rw [c29]; decide) (by rw [c29]; decide) (by decide) ?_
            refine lv_aload_n hx hb dX11_item_298 rfl (lv_at hl 1 rfl) ?_
            obtain ⟨o30, ho30, hf⟩ := ob_s hf
            refine xV_i (As := []) (b := a_this) (rest := []) (ws2 := [(a_this, .inr (11, [.int i_length, .ref a_text, .ref a_roundMany, .ref a_blowMany, .ref a_blows, .ref a_forwards, .ref a_downs, .ref a_takens, .ref a_homes, .ref a_noises, .ref a_judgeMany, .ref a_judges, .ref a_delays, .ref a_tolds, .ref a_tens, .int i_keptMany, .int o30.2.1, .ref a_told, .ref a_ways, .ref a_nextWays, .ref a_tallies, .ref a_presses, .ref a_values, .ref a_nextValues])), (a_blowMany, .inl (X.2.1 0, 2, .inl f_blowMany)), (a_blows, .inl (X.2.1 0, 400, .inl f_blows)), (a_downs, .inl (X.2.1 0, 48, .inl f_downs)), (a_forwards, .inl (X.2.1 0, 48, .inl f_forwards)), (a_homes, .inl (X.2.1 0, 2, .inl f_homes)), (a_judgeMany, .inl (X.2.1 0, 2, .inl o30.2.2.2.2)), (a_judges, .inl (X.2.1 0, 112, .inl o30.2.2.2.1)), (a_noises, .inl (X.2.1 0, 2, .inl f_noises)), (a_roundMany, .inl (X.2.1 0, 2, .inl f_roundMany)), (a_takens, .inl (X.2.1 0, 48, .inl f_takens)), (a_text, .inl (X.2.1 0, 500, .inl f_text)), (a_told, .inl (X.2.1 0, 7, .inl o30.2.2.1))]) hx hb hml hts hown hG hA hP hD rfl hS hl.1 (qX11_judgeItem l X a_this a_judgeMany a_judges a_text a_told a_roundMany a_blowMany a_blows a_forwards a_downs a_takens a_homes a_noises a_delays a_tolds a_tens a_ways a_nextWays a_tallies a_presses a_values a_nextValues i_length i_keptMany v3 f_judgeMany f_judges f_text f_told o30 ho30) (cwV (y := yX11_judgeItem) 0 hts gX11_item_X11_judgeItem rfl rfl rfl hdvX11_judgeItem ⟨Nat.le_of_ble_eq_true rfl, Nat.le_of_ble_eq_true rfl⟩) [0, 6, 7, 11, 12] [1, 2, 3, 4, 5, 8, 9, 10] [8, 0, 1, 2, 3, 4, 9, 10, 5, 6, 7, 11, 12] rfl rfl rfl rfl rfl rfl rfl (ci := 11) rfl 0 rfl rfl rfl (Nat.le_of_ble_eq_true rfl) ⟨Nat.le_of_ble_eq_true rfl, Nat.le_of_ble_eq_true rfl⟩ dX11_item_299 (fun H locs hP _ hS => ?_)
            obtain ⟨h32, hf⟩ := gz_s hf
            obtain rfl := Option.some.inj hf
            exact ret H _ ls _ h32 hP hD hS dX11_item_302
          · have hf := xf hf c29
            by_cases c33 : o1 = (107 : Int32)
            · have hf := xt hf c33
              refine lv_tableIn (tgt := 223) (off := 203) hx hb dX11_item_20 (by rw [c33]; decide) (by rw [c33]; decide) (by rw [c33]; decide) (by decide) ?_
              refine lv_aload_n hx hb dX11_item_223 rfl (lv_at hl 1 rfl) ?_
              refine lv_aload_n hx hb dX11_item_224 rfl (lv_at hl 1 rfl) ?_
              refine va_get (D := X.1) (ci := 11) (v := .ref a_downs) (C := RX11) (T := TX11) (N := 24) hx hb hts in11 hown hG.1 hP 0 rfl rfl 6 (by decide) w6 (fun _ h9 => h9) rfl dX11_item_225 ?_
              obtain ⟨o34, ho34, hf⟩ := ob_s hf
              refine xV_i (As := [.ref a_downs]) (b := a_this) (rest := []) (ws2 := [(a_this, .inr (11, [.int i_length, .ref a_text, .ref a_roundMany, .ref a_blowMany, .ref a_blows, .ref a_forwards, .ref a_downs, .ref a_takens, .ref a_homes, .ref a_noises, .ref a_judgeMany, .ref a_judges, .ref a_delays, .ref a_tolds, .ref a_tens, .int i_keptMany, .int o34.2.1, .ref a_told, .ref a_ways, .ref a_nextWays, .ref a_tallies, .ref a_presses, .ref a_values, .ref a_nextValues])), (a_blowMany, .inl (X.2.1 0, 2, .inl f_blowMany)), (a_blows, .inl (X.2.1 0, 400, .inl f_blows)), (a_downs, .inl (X.2.1 0, 48, .inl o34.2.2.2)), (a_forwards, .inl (X.2.1 0, 48, .inl f_forwards)), (a_homes, .inl (X.2.1 0, 2, .inl f_homes)), (a_judgeMany, .inl (X.2.1 0, 2, .inl f_judgeMany)), (a_judges, .inl (X.2.1 0, 112, .inl f_judges)), (a_noises, .inl (X.2.1 0, 2, .inl f_noises)), (a_roundMany, .inl (X.2.1 0, 2, .inl f_roundMany)), (a_takens, .inl (X.2.1 0, 48, .inl f_takens)), (a_text, .inl (X.2.1 0, 500, .inl f_text)), (a_told, .inl (X.2.1 0, 7, .inl o34.2.2.1))]) hx hb hml hts hown hG hA hP hD rfl hS hl.1 (qX11_more l X a_this a_text a_told a_downs a_roundMany a_blowMany a_blows a_forwards a_downs a_takens a_homes a_noises a_judgeMany a_judges a_delays a_tolds a_tens a_ways a_nextWays a_tallies a_presses a_values a_nextValues i_length i_keptMany v3 f_text f_told f_downs o34 ho34) (cwV (y := yX11_more) 1 hts gX11_item_X11_more rfl rfl rfl hdvX11_more ⟨Nat.le_of_ble_eq_true rfl, Nat.le_of_ble_eq_true rfl⟩) [0, 11, 12, 3] [1, 2, 4, 5, 6, 7, 8, 9, 10] [9, 0, 1, 12, 2, 3, 4, 5, 6, 7, 8, 10, 11] rfl rfl rfl rfl rfl rfl rfl (ci := 11) rfl 0 rfl rfl rfl (Nat.le_of_ble_eq_true rfl) ⟨Nat.le_of_ble_eq_true rfl, Nat.le_of_ble_eq_true rfl⟩ dX11_item_228 (fun H locs hP _ hS => ?_)
              obtain ⟨h36, hf⟩ := gz_s hf
              obtain rfl := Option.some.inj hf
              exact ret H _ ls _ h36 hP hD hS dX11_item_231
            · have hf := xf hf c33
              by_cases c37 : o1 = (114 : Int32)
              · have hf := xt hf c37
                refine lv_tableIn (tgt := 104) (off := 84) hx hb dX11_item_20 (by rw [c37]; decide) (by rw [c37]; decide) (by rw [c37]; decide) (by decide) ?_
                refine lv_aload_n hx hb dX11_item_104 rfl (lv_at hl 1 rfl) ?_
                refine lv_iconst (v := (1 : Int32)) hx hb dX11_item_105 (by decide) ?_
                obtain ⟨o38, ho38, hf⟩ := ob_s hf
                refine xV_i (As := [.int (1 : Int32)]) (b := a_this) (rest := []) (ws2 := [(a_this, .inr (11, [.int i_length, .ref a_text, .ref a_roundMany, .ref a_blowMany, .ref a_blows, .ref a_forwards, .ref a_downs, .ref a_takens, .ref a_homes, .ref a_noises, .ref a_judgeMany, .ref a_judges, .ref a_delays, .ref a_tolds, .ref a_tens, .int i_keptMany, .int o38.2.1, .ref a_told, .ref a_ways, .ref a_nextWays, .ref a_tallies, .ref a_presses, .ref a_values, .ref a_nextValues])), (a_blowMany, .inl (X.2.1 0, 2, .inl f_blowMany)), (a_blows, .inl (X.2.1 0, 400, .inl f_blows)), (a_downs, .inl (X.2.1 0, 48, .inl f_downs)), (a_forwards, .inl (X.2.1 0, 48, .inl f_forwards)), (a_homes, .inl (X.2.1 0, 2, .inl f_homes)), (a_judgeMany, .inl (X.2.1 0, 2, .inl f_judgeMany)), (a_judges, .inl (X.2.1 0, 112, .inl f_judges)), (a_noises, .inl (X.2.1 0, 2, .inl f_noises)), (a_roundMany, .inl (X.2.1 0, 2, .inl f_roundMany)), (a_takens, .inl (X.2.1 0, 48, .inl f_takens)), (a_text, .inl (X.2.1 0, 500, .inl f_text)), (a_told, .inl (X.2.1 0, 7, .inl o38.2.2))]) hx hb hml hts hown hG hA hP hD rfl hS hl.1 (qX11_figures l X a_this a_text a_told a_roundMany a_blowMany a_blows a_forwards a_downs a_takens a_homes a_noises a_judgeMany a_judges a_delays a_tolds a_tens a_ways a_nextWays a_tallies a_presses a_values a_nextValues i_length i_keptMany v3 f_text f_told (1 : Int32) o38 ho38) (cwV (y := yX11_figures) 1 hts gX11_item_X11_figures rfl rfl rfl hdvX11_figures ⟨Nat.le_of_ble_eq_true rfl, Nat.le_of_ble_eq_true rfl⟩) [0, 11, 12] [1, 2, 3, 4, 5, 6, 7, 8, 9, 10] [10, 0, 1, 2, 3, 4, 5, 6, 7, 8, 9, 11, 12] rfl rfl rfl rfl rfl rfl rfl (ci := 11) rfl 0 rfl rfl rfl (Nat.le_of_ble_eq_true rfl) ⟨Nat.le_of_ble_eq_true rfl, Nat.le_of_ble_eq_true rfl⟩ dX11_item_106 (fun H locs hP _ hS => ?_)
                refine lv_if_eq (tgt := 129) hx hb dX11_item_109 (by decide) (fun c40 => ?_) (fun c40 => ?_)
                · have hf := xt hf c40
                  refine lv_iconst (v := (0 : Int32)) hx hb dX11_item_129 (by decide) ?_
                  obtain rfl := Option.some.inj hf
                  exact ret H _ ls _ (show narrow .boolean (.int (0 : Int32)) = .int (0 : Int32) from rfl) hP hD hS dX11_item_130
                · have hf := xf hf c40
                  refine lv_aload_n hx hb dX11_item_112 rfl (lv_at hl 1 rfl) ?_
                  refine va_get (D := X.1) (ci := 11) (v := .ref a_told) (C := RX11) (T := TX11) (N := 24) hx hb hts in11 hown hG.1 hP 0 rfl rfl 17 (by decide) w2 (fun _ h9 => h9) rfl dX11_item_113 ?_
                  refine lv_iconst (v := (0 : Int32)) hx hb dX11_item_116 (by decide) ?_
                  refine va_iald (D := X.1) hx hb hG.1 hP 12 0 rfl rfl (vp_lit (by decide)) dX11_item_117 ?_
                  refine lv_i2l hx hb dX11_item_118 rfl ?_
                  refine lv_lconst (v := (1 : Int64)) hx hb dX11_item_119 rfl ?_
                  refine lv_ldc2 (v := (12 : Int64)) hx hb hown w3 dX11_item_120 ?_
                  obtain ⟨o41, ho41, hf⟩ := ob_s hf
                  refine xS_i (As := [.long (Int32.toInt64 (o38.2.2 (0 : Int32).toNatClampNeg)), .long (1 : Int64), .long (12 : Int64)]) (rest := []) (ws2 := [(a_this, .inr (11, [.int i_length, .ref a_text, .ref a_roundMany, .ref a_blowMany, .ref a_blows, .ref a_forwards, .ref a_downs, .ref a_takens, .ref a_homes, .ref a_noises, .ref a_judgeMany, .ref a_judges, .ref a_delays, .ref a_tolds, .ref a_tens, .int i_keptMany, .int o38.2.1, .ref a_told, .ref a_ways, .ref a_nextWays, .ref a_tallies, .ref a_presses, .ref a_values, .ref a_nextValues])), (a_blowMany, .inl (X.2.1 0, 2, .inl f_blowMany)), (a_blows, .inl (X.2.1 0, 400, .inl f_blows)), (a_downs, .inl (X.2.1 0, 48, .inl f_downs)), (a_forwards, .inl (X.2.1 0, 48, .inl f_forwards)), (a_homes, .inl (X.2.1 0, 2, .inl f_homes)), (a_judgeMany, .inl (X.2.1 0, 2, .inl f_judgeMany)), (a_judges, .inl (X.2.1 0, 112, .inl f_judges)), (a_noises, .inl (X.2.1 0, 2, .inl f_noises)), (a_roundMany, .inl (X.2.1 0, 2, .inl f_roundMany)), (a_takens, .inl (X.2.1 0, 48, .inl f_takens)), (a_text, .inl (X.2.1 0, 500, .inl f_text)), (a_told, .inl (X.2.1 0, 7, .inl o38.2.2))]) hx hb hml hts hown hG hA hP hD rfl hS hl.1 (qX11_in l X (Int32.toInt64 (o38.2.2 (0 : Int32).toNatClampNeg)) (1 : Int64) (12 : Int64) o41 ho41) (va_cwS (y := yX11_in) 3 hts gX11_item_X11_in rfl rfl rfl hdsX11_in ⟨Nat.le_of_ble_eq_true rfl, Nat.le_of_ble_eq_true rfl⟩) [] [0, 1, 2, 3, 4, 5, 6, 7, 8, 9, 10, 11, 12] [0, 1, 2, 3, 4, 5, 6, 7, 8, 9, 10, 11, 12] rfl rfl rfl rfl rfl rfl rfl rfl rfl (Nat.le_of_ble_eq_true rfl) ⟨Nat.le_of_ble_eq_true rfl, Nat.le_of_ble_eq_true rfl⟩ dX11_item_123 (fun H locs hP _ hS => ?_)
                  refine lv_if_ne (tgt := 131) hx hb dX11_item_126 (by decide) (fun c43 => ?_) (fun c43 => ?_)
                  · have hf := xf hf c43
                    refine lv_aload_n hx hb dX11_item_131 rfl (lv_at hl 1 rfl) ?_
                    refine va_get (D := X.1) (ci := 11) (v := .ref a_roundMany) (C := RX11) (T := TX11) (N := 24) hx hb hts in11 hown hG.1 hP 0 rfl rfl 2 (by decide) w4 (fun _ h9 => h9) rfl dX11_item_132 ?_
                    refine lv_iconst (v := (1 : Int32)) hx hb dX11_item_135 (by decide) ?_
                    refine lv_aload_n hx hb dX11_item_136 rfl (lv_at hl 1 rfl) ?_
                    refine va_get (D := X.1) (ci := 11) (v := .ref a_told) (C := RX11) (T := TX11) (N := 24) hx hb hts in11 hown hG.1 hP 0 rfl rfl 17 (by decide) w2 (fun _ h9 => h9) rfl dX11_item_137 ?_
                    refine lv_iconst (v := (0 : Int32)) hx hb dX11_item_140 (by decide) ?_
                    refine va_iald (D := X.1) hx hb hG.1 hP 12 0 rfl rfl (vp_lit (by decide)) dX11_item_141 ?_
                    obtain ⟨g44, eg44, hf⟩ := lb_g hf
                    refine x_iast (ws' := [(a_this, .inr (11, [.int i_length, .ref a_text, .ref a_roundMany, .ref a_blowMany, .ref a_blows, .ref a_forwards, .ref a_downs, .ref a_takens, .ref a_homes, .ref a_noises, .ref a_judgeMany, .ref a_judges, .ref a_delays, .ref a_tolds, .ref a_tens, .int i_keptMany, .int o38.2.1, .ref a_told, .ref a_ways, .ref a_nextWays, .ref a_tallies, .ref a_presses, .ref a_values, .ref a_nextValues])), (a_blowMany, .inl (X.2.1 0, 2, .inl f_blowMany)), (a_blows, .inl (X.2.1 0, 400, .inl f_blows)), (a_downs, .inl (X.2.1 0, 48, .inl f_downs)), (a_forwards, .inl (X.2.1 0, 48, .inl f_forwards)), (a_homes, .inl (X.2.1 0, 2, .inl f_homes)), (a_judgeMany, .inl (X.2.1 0, 2, .inl f_judgeMany)), (a_judges, .inl (X.2.1 0, 112, .inl f_judges)), (a_noises, .inl (X.2.1 0, 2, .inl f_noises)), (a_roundMany, .inl (X.2.1 0, 2, .inl g44)), (a_takens, .inl (X.2.1 0, 48, .inl f_takens)), (a_text, .inl (X.2.1 0, 500, .inl f_text)), (a_told, .inl (X.2.1 0, 7, .inl o38.2.2))]) hx hb hG hP hD rfl hS 9 rfl (vp_lit (by decide)) dX11_item_142 eg44 rfl (fun H locs hP hS => ?_)
                    refine lv_iconst (v := (1 : Int32)) hx hb dX11_item_143 (by decide) ?_
                    obtain rfl := Option.some.inj hf
                    exact ret H _ ls _ (show narrow .boolean (.int (1 : Int32)) = .int (1 : Int32) from rfl) hP hD hS dX11_item_144
                  · have hf := xt hf c43
                    refine lv_iconst (v := (0 : Int32)) hx hb dX11_item_129 (by decide) ?_
                    obtain rfl := Option.some.inj hf
                    exact ret H _ ls _ (show narrow .boolean (.int (0 : Int32)) = .int (0 : Int32) from rfl) hP hD hS dX11_item_130
              · have hf := xf hf c37
                refine lv_tabD (tgt := 303) hx hb dX11_item_20 (fun h1_ h2_ => ?_) (by decide) ?_
                · have nc4 := i32_ne (98 : Int32) c4
                  have nc8 := i32_ne (100 : Int32) c8
                  have nc12 := i32_ne (102 : Int32) c12
                  have nc21 := i32_ne (104 : Int32) c21
                  have nc29 := i32_ne (106 : Int32) c29
                  have nc33 := i32_ne (107 : Int32) c33
                  have nc37 := i32_ne (114 : Int32) c37
                  rw [show (98 : Int32).toInt = 98 from by decide] at nc4
                  rw [show (100 : Int32).toInt = 100 from by decide] at nc8
                  rw [show (102 : Int32).toInt = 102 from by decide] at nc12
                  rw [show (104 : Int32).toInt = 104 from by decide] at nc21
                  rw [show (106 : Int32).toInt = 106 from by decide] at nc29
                  rw [show (107 : Int32).toInt = 107 from by decide] at nc33
                  rw [show (114 : Int32).toInt = 114 from by decide] at nc37
                  have hdf : o1.toInt = 99 ∨ o1.toInt = 101 ∨ o1.toInt = 103 ∨ o1.toInt = 105 ∨ o1.toInt = 108 ∨ o1.toInt = 109 ∨ o1.toInt = 110 ∨ o1.toInt = 111 ∨ o1.toInt = 112 ∨ o1.toInt = 113 := by omega
                  rcases hdf with hdf | hdf | hdf | hdf | hdf | hdf | hdf | hdf | hdf | hdf <;> rw [hdf] <;> rfl
                refine lv_iconst (v := (0 : Int32)) hx hb dX11_item_303 (by decide) ?_
                obtain rfl := Option.some.inj hf
                exact ret H _ ls _ (show narrow .boolean (.int (0 : Int32)) = .int (0 : Int32) from rfl) hP hD hS dX11_item_304
def mX11_readAll_B10 (i_length : Int32) (f_text : Nat → Int32) (k10 : (Nat → Int32) → (Nat → Int32) → (Nat → Int32) → (Nat → Int32) → (Nat → Int32) → (Nat → Int32) → (Nat → Int32) → (Nat → Int32) → Int32 → (Nat → Int32) → (Nat → Int32) → (Nat → Int32) → Option (Int32 × (Nat → Int32) × (Nat → Int32) × (Nat → Int32) × (Nat → Int32) × (Nat → Int32) × (Nat → Int32) × (Nat → Int32) × (Nat → Int32) × Int32 × (Nat → Int32) × (Nat → Int32) × (Nat → Int32))) (f_roundMany : Nat → Int32) (f_blowMany : Nat → Int32) (f_judgeMany : Nat → Int32) (f_homes : Nat → Int32) (f_noises : Nat → Int32) (f_forwards : Nat → Int32) (f_downs : Nat → Int32) (f_takens : Nat → Int32) (i_place : Int32) (f_told : Nat → Int32) (f_judges : Nat → Int32) (f_blows : Nat → Int32) :
  Option (Int32 × (Nat → Int32) × (Nat → Int32) × (Nat → Int32) × (Nat → Int32) × (Nat → Int32) × (Nat → Int32) × (Nat → Int32) × (Nat → Int32) × Int32 × (Nat → Int32) × (Nat → Int32) × (Nat → Int32)) :=
  if i_length ≤ i_place then (some ((-4 : Int32), f_roundMany, f_blowMany, f_judgeMany, f_homes, f_noises, f_forwards, f_downs, f_takens, i_place, f_told, f_judges, f_blows)) else ((mX11_item i_length i_place f_blowMany f_blows f_downs f_forwards f_homes f_judgeMany f_judges f_noises f_roundMany f_takens f_text f_told).bind fun o4 =>
  if o4.1 = 0 then (some (i_place, o4.2.2.2.1, o4.2.2.2.2.2.2.2.2.2.2.2.2, o4.2.2.2.2.2.2.1, o4.2.2.2.2.2.2.2.1, o4.2.2.2.2.2.2.2.2.1, o4.2.2.2.2.2.2.2.2.2.1, o4.2.2.2.2.1, o4.2.2.2.2.2.2.2.2.2.2.1, o4.2.1, o4.2.2.1, o4.2.2.2.2.2.1, o4.2.2.2.2.2.2.2.2.2.2.2.1)) else (k10 o4.2.2.2.1 o4.2.2.2.2.2.2.2.2.2.2.2.2 o4.2.2.2.2.2.2.1 o4.2.2.2.2.2.2.2.1 o4.2.2.2.2.2.2.2.2.1 o4.2.2.2.2.2.2.2.2.2.1 o4.2.2.2.2.1 o4.2.2.2.2.2.2.2.2.2.2.1 o4.2.1 o4.2.2.1 o4.2.2.2.2.2.1 o4.2.2.2.2.2.2.2.2.2.2.2.1))
def mX11_readAll_L10 (i_length : Int32) (f_text : Nat → Int32) (n : Nat) (f_roundMany : Nat → Int32) (f_blowMany : Nat → Int32) (f_judgeMany : Nat → Int32) (f_homes : Nat → Int32) (f_noises : Nat → Int32) (f_forwards : Nat → Int32) (f_downs : Nat → Int32) (f_takens : Nat → Int32) (i_place : Int32) (f_told : Nat → Int32) (f_judges : Nat → Int32) (f_blows : Nat → Int32) :
  Option (Int32 × (Nat → Int32) × (Nat → Int32) × (Nat → Int32) × (Nat → Int32) × (Nat → Int32) × (Nat → Int32) × (Nat → Int32) × (Nat → Int32) × Int32 × (Nat → Int32) × (Nat → Int32) × (Nat → Int32)) :=
  loopN (fun k (s : (Nat → Int32) × (Nat → Int32) × (Nat → Int32) × (Nat → Int32) × (Nat → Int32) × (Nat → Int32) × (Nat → Int32) × (Nat → Int32) × Int32 × (Nat → Int32) × (Nat → Int32) × (Nat → Int32)) => mX11_readAll_B10 i_length f_text  (fun f_roundMany f_blowMany f_judgeMany f_homes f_noises f_forwards f_downs f_takens i_place f_told f_judges f_blows => k (f_roundMany, f_blowMany, f_judgeMany, f_homes, f_noises, f_forwards, f_downs, f_takens, i_place, f_told, f_judges, f_blows)) s.1 s.2.1 s.2.2.1 s.2.2.2.1 s.2.2.2.2.1 s.2.2.2.2.2.1 s.2.2.2.2.2.2.1 s.2.2.2.2.2.2.2.1 s.2.2.2.2.2.2.2.2.1 s.2.2.2.2.2.2.2.2.2.1 s.2.2.2.2.2.2.2.2.2.2.1 s.2.2.2.2.2.2.2.2.2.2.2) n (f_roundMany, f_blowMany, f_judgeMany, f_homes, f_noises, f_forwards, f_downs, f_takens, i_place, f_told, f_judges, f_blows)
def mX11_readAll (i_length : Int32) (i_place : Int32) (f_blowMany : Nat → Int32) (f_blows : Nat → Int32) (f_downs : Nat → Int32) (f_forwards : Nat → Int32) (f_homes : Nat → Int32) (f_judgeMany : Nat → Int32) (f_judges : Nat → Int32) (f_noises : Nat → Int32) (f_roundMany : Nat → Int32) (f_takens : Nat → Int32) (f_text : Nat → Int32) (f_told : Nat → Int32) :
  Option (Int32 × (Nat → Int32) × (Nat → Int32) × (Nat → Int32) × (Nat → Int32) × (Nat → Int32) × (Nat → Int32) × (Nat → Int32) × (Nat → Int32) × Int32 × (Nat → Int32) × (Nat → Int32) × (Nat → Int32)) :=
  (mX11_noFight (1 : Int32) f_blowMany f_downs f_forwards f_homes f_judgeMany f_noises f_roundMany f_takens).bind fun o1 =>
  mX11_readAll_L10 i_length f_text  FUEL o1.1 o1.2.1 o1.2.2.1 o1.2.2.2.1 o1.2.2.2.2.1 o1.2.2.2.2.2.1 o1.2.2.2.2.2.2.1 o1.2.2.2.2.2.2.2 (0 : Int32) f_told f_judges f_blows
theorem hdsX11_readAll : yX11_readAll.cls ≠ "java/lang/invoke/MethodHandle" ∧ yX11_readAll.cls ≠ "java/lang/invoke/VarHandle" ∧ (parseMethodDescriptor yX11_readAll.desc).map (fun d => d.parameters.length) = some 0 := by decide +kernel
theorem hdvX11_readAll : yX11_readAll.cls = RX11 ∧ yX11_readAll.cls ≠ "java/lang/invoke/MethodHandle" ∧ yX11_readAll.cls ≠ "java/lang/invoke/VarHandle" ∧ (parseMethodDescriptor yX11_readAll.desc).map (fun d => d.parameters.length) = some 0 := by decide +kernel
abbrev rmX11_readAll : Room := { frames := 4, cells := 0, slots := 0, locals := 92 }
set_option maxHeartbeats 4000000 in
set_option maxRecDepth 100000 in
theorem qX11_readAll (l : Launch) (X : XT) (a_this : Nat) (a_blowMany : Nat) (a_blows : Nat) (a_downs : Nat) (a_forwards : Nat) (a_homes : Nat) (a_judgeMany : Nat) (a_judges : Nat) (a_noises : Nat) (a_roundMany : Nat) (a_takens : Nat) (a_text : Nat) (a_told : Nat) (a_delays : Nat) (a_tolds : Nat) (a_tens : Nat) (a_ways : Nat) (a_nextWays : Nat) (a_tallies : Nat) (a_presses : Nat) (a_values : Nat) (a_nextValues : Nat)  (i_length : Int32) (i_keptMany : Int32) (i_place : Int32) (f_blowMany : Nat → Int32) (f_blows : Nat → Int32) (f_downs : Nat → Int32) (f_forwards : Nat → Int32) (f_homes : Nat → Int32) (f_judgeMany : Nat → Int32) (f_judges : Nat → Int32) (f_noises : Nat → Int32) (f_roundMany : Nat → Int32) (f_takens : Nat → Int32) (f_text : Nat → Int32) (f_told : Nat → Int32)  (o : Int32 × (Nat → Int32) × (Nat → Int32) × (Nat → Int32) × (Nat → Int32) × (Nat → Int32) × (Nat → Int32) × (Nat → Int32) × (Nat → Int32) × Int32 × (Nat → Int32) × (Nat → Int32) × (Nat → Int32)) (hf : mX11_readAll i_length i_place f_blowMany f_blows f_downs f_forwards f_homes f_judgeMany f_judges f_noises f_roundMany f_takens f_text f_told = some o) :
    MI l yX11_readAll wsX11_readAll rmX11_readAll X [.ref a_this] [(a_this, .inr (11, [.int i_length, .ref a_text, .ref a_roundMany, .ref a_blowMany, .ref a_blows, .ref a_forwards, .ref a_downs, .ref a_takens, .ref a_homes, .ref a_noises, .ref a_judgeMany, .ref a_judges, .ref a_delays, .ref a_tolds, .ref a_tens, .int i_keptMany, .int i_place, .ref a_told, .ref a_ways, .ref a_nextWays, .ref a_tallies, .ref a_presses, .ref a_values, .ref a_nextValues])), (a_blowMany, .inl (X.2.1 0, 2, .inl f_blowMany)), (a_blows, .inl (X.2.1 0, 400, .inl f_blows)), (a_downs, .inl (X.2.1 0, 48, .inl f_downs)), (a_forwards, .inl (X.2.1 0, 48, .inl f_forwards)), (a_homes, .inl (X.2.1 0, 2, .inl f_homes)), (a_judgeMany, .inl (X.2.1 0, 2, .inl f_judgeMany)), (a_judges, .inl (X.2.1 0, 112, .inl f_judges)), (a_noises, .inl (X.2.1 0, 2, .inl f_noises)), (a_roundMany, .inl (X.2.1 0, 2, .inl f_roundMany)), (a_takens, .inl (X.2.1 0, 48, .inl f_takens)), (a_text, .inl (X.2.1 0, 500, .inl f_text)), (a_told, .inl (X.2.1 0, 7, .inl f_told))]  [(a_this, .inr (11, [.int i_length, .ref a_text, .ref a_roundMany, .ref a_blowMany, .ref a_blows, .ref a_forwards, .ref a_downs, .ref a_takens, .ref a_homes, .ref a_noises, .ref a_judgeMany, .ref a_judges, .ref a_delays, .ref a_tolds, .ref a_tens, .int i_keptMany, .int o.2.2.2.2.2.2.2.2.2.1, .ref a_told, .ref a_ways, .ref a_nextWays, .ref a_tallies, .ref a_presses, .ref a_values, .ref a_nextValues])), (a_blowMany, .inl (X.2.1 0, 2, .inl o.2.2.1)), (a_blows, .inl (X.2.1 0, 400, .inl o.2.2.2.2.2.2.2.2.2.2.2.2)), (a_downs, .inl (X.2.1 0, 48, .inl o.2.2.2.2.2.2.2.1)), (a_forwards, .inl (X.2.1 0, 48, .inl o.2.2.2.2.2.2.1)), (a_homes, .inl (X.2.1 0, 2, .inl o.2.2.2.2.1)), (a_judgeMany, .inl (X.2.1 0, 2, .inl o.2.2.2.1)), (a_judges, .inl (X.2.1 0, 112, .inl o.2.2.2.2.2.2.2.2.2.2.2.1)), (a_noises, .inl (X.2.1 0, 2, .inl o.2.2.2.2.2.1)), (a_roundMany, .inl (X.2.1 0, 2, .inl o.2.1)), (a_takens, .inl (X.2.1 0, 48, .inl o.2.2.2.2.2.2.2.2.1)), (a_text, .inl (X.2.1 0, 500, .inl f_text)), (a_told, .inl (X.2.1 0, 7, .inl o.2.2.2.2.2.2.2.2.2.2.1))] o.1 := by
  refine MI_ofH (cc := cX11_readAll) (maxL := 2) (rt := .int) (by decide) rfl (Nat.le_of_ble_eq_true rfl) ?_
  intro p e s m below meth c A Q H ls hx hb hml hts hown hA hD hG hP hS hl ret
  have hown : s.vm.findClass RX11 = some m.cls := hown
  have hD : aD A [a_this, a_blowMany, a_blows, a_downs, a_forwards, a_homes, a_judgeMany, a_judges, a_noises, a_roundMany, a_takens, a_text, a_told] := hD
  have hl : lv_has ls 2 [(0, .ref a_this)] := hl
  have w1 := hts (Cond.fieldLink RX11 90 "ThreeCardsModel" "place" "I") (List.mem_of_getElem? (i := 1) rfl)
  have w2 := hts (Cond.fieldLink RX11 84 "ThreeCardsModel" "length" "I") (List.mem_of_getElem? (i := 2) rfl)
  have in11 : ∀ w ∈ u_ws RX11 TX11 24, w ∈ wsX11_readAll := by decide +kernel
  have hL10 : ∀ (n : Nat) (f_roundMany : Nat → Int32) (f_blowMany : Nat → Int32) (f_judgeMany : Nat → Int32) (f_homes : Nat → Int32) (f_noises : Nat → Int32) (f_forwards : Nat → Int32) (f_downs : Nat → Int32) (f_takens : Nat → Int32) (i_place : Int32) (f_told : Nat → Int32) (f_judges : Nat → Int32) (f_blows : Nat → Int32)  (H : Heap) (locs : List Loc) (ls : Array Slot), va_P X.1 vwCl [(a_this, .inr (11, [.int i_length, .ref a_text, .ref a_roundMany, .ref a_blowMany, .ref a_blows, .ref a_forwards, .ref a_downs, .ref a_takens, .ref a_homes, .ref a_noises, .ref a_judgeMany, .ref a_judges, .ref a_delays, .ref a_tolds, .ref a_tens, .int i_keptMany, .int i_place, .ref a_told, .ref a_ways, .ref a_nextWays, .ref a_tallies, .ref a_presses, .ref a_values, .ref a_nextValues])), (a_blowMany, .inl (X.2.1 0, 2, .inl f_blowMany)), (a_blows, .inl (X.2.1 0, 400, .inl f_blows)), (a_downs, .inl (X.2.1 0, 48, .inl f_downs)), (a_forwards, .inl (X.2.1 0, 48, .inl f_forwards)), (a_homes, .inl (X.2.1 0, 2, .inl f_homes)), (a_judgeMany, .inl (X.2.1 0, 2, .inl f_judgeMany)), (a_judges, .inl (X.2.1 0, 112, .inl f_judges)), (a_noises, .inl (X.2.1 0, 2, .inl f_noises)), (a_roundMany, .inl (X.2.1 0, 2, .inl f_roundMany)), (a_takens, .inl (X.2.1 0, 48, .inl f_takens)), (a_text, .inl (X.2.1 0, 500, .inl f_text)), (a_told, .inl (X.2.1 0, 7, .inl f_told))] H → va_S A s.heap H locs → lv_has ls 2 [(0, .ref a_this)] → mX11_readAll_L10 i_length f_text  n f_roundMany f_blowMany f_judgeMany f_homes f_noises f_forwards f_downs f_takens i_place f_told f_judges f_blows = some o → W p l e rmX11_readAll s m ([.ref a_this] : List Value).toArray below meth c H locs 0 0 Q (F0 m 10 ls []) := by
    intro n
    induction n with
    | zero => intro f_roundMany f_blowMany f_judgeMany f_homes f_noises f_forwards f_downs f_takens i_place f_told f_judges f_blows  H locs ls hP hS hl hf; exact xn hf
    | succ n ih =>
      intro f_roundMany f_blowMany f_judgeMany f_homes f_noises f_forwards f_downs f_takens i_place f_told f_judges f_blows  H locs ls hP hS hl hf
      have hf : mX11_readAll_B10 i_length f_text  (mX11_readAll_L10 i_length f_text  n) f_roundMany f_blowMany f_judgeMany f_homes f_noises f_forwards f_downs f_takens i_place f_told f_judges f_blows = some o := hf
      generalize mX11_readAll_L10 i_length f_text  n = k10 at ih hf
      unfold mX11_readAll_B10 at hf
      refine lv_aload_n hx hb dX11_readAll_10 rfl (lv_at hl 0 rfl) ?_
      refine va_get (D := X.1) (ci := 11) (v := .int i_place) (C := RX11) (T := TX11) (N := 24) hx hb hts in11 hown hG.1 hP 0 rfl rfl 16 (by decide) w1 (fun _ h9 => h9) rfl dX11_readAll_11 ?_
      refine lv_aload_n hx hb dX11_readAll_14 rfl (lv_at hl 0 rfl) ?_
      refine va_get (D := X.1) (ci := 11) (v := .int i_length) (C := RX11) (T := TX11) (N := 24) hx hb hts in11 hown hG.1 hP 0 rfl rfl 0 (by decide) w2 (fun _ h9 => h9) rfl dX11_readAll_15 ?_
      refine lv_icmp_ge (tgt := 38) hx hb dX11_readAll_18 (by decide) (fun c3 => ?_) (fun c3 => ?_)
      · have hf := xt hf c3
        refine lv_bipush (v := (-4 : Int32)) hx hb dX11_readAll_38 (by decide) ?_
        obtain rfl := Option.some.inj hf
        exact ret H _ ls _ rfl hP hD hS dX11_readAll_40
      · have hf := xf hf c3
        refine lv_aload_n hx hb dX11_readAll_21 rfl (lv_at hl 0 rfl) ?_
        refine va_get (D := X.1) (ci := 11) (v := .int i_place) (C := RX11) (T := TX11) (N := 24) hx hb hts in11 hown hG.1 hP 0 rfl rfl 16 (by decide) w1 (fun _ h9 => h9) rfl dX11_readAll_22 ?_
        refine lv_istore_n (lv' := [(1, .int i_place), (0, .ref a_this)]) hx hb dX11_readAll_25 rfl hl (by decide) rfl (fun ls hl => ?_)
        refine lv_aload_n hx hb dX11_readAll_26 rfl (lv_at hl 1 rfl) ?_
        obtain ⟨o4, ho4, hf⟩ := ob_s hf
        refine xV_i (As := []) (b := a_this) (rest := []) (ws2 := [(a_this, .inr (11, [.int i_length, .ref a_text, .ref a_roundMany, .ref a_blowMany, .ref a_blows, .ref a_forwards, .ref a_downs, .ref a_takens, .ref a_homes, .ref a_noises, .ref a_judgeMany, .ref a_judges, .ref a_delays, .ref a_tolds, .ref a_tens, .int i_keptMany, .int o4.2.1, .ref a_told, .ref a_ways, .ref a_nextWays, .ref a_tallies, .ref a_presses, .ref a_values, .ref a_nextValues])), (a_blowMany, .inl (X.2.1 0, 2, .inl o4.2.2.2.2.2.2.2.2.2.2.2.2)), (a_blows, .inl (X.2.1 0, 400, .inl o4.2.2.2.2.2.2.2.2.2.2.2.1)), (a_downs, .inl (X.2.1 0, 48, .inl o4.2.2.2.2.1)), (a_forwards, .inl (X.2.1 0, 48, .inl o4.2.2.2.2.2.2.2.2.2.1)), (a_homes, .inl (X.2.1 0, 2, .inl o4.2.2.2.2.2.2.2.1)), (a_judgeMany, .inl (X.2.1 0, 2, .inl o4.2.2.2.2.2.2.1)), (a_judges, .inl (X.2.1 0, 112, .inl o4.2.2.2.2.2.1)), (a_noises, .inl (X.2.1 0, 2, .inl o4.2.2.2.2.2.2.2.2.1)), (a_roundMany, .inl (X.2.1 0, 2, .inl o4.2.2.2.1)), (a_takens, .inl (X.2.1 0, 48, .inl o4.2.2.2.2.2.2.2.2.2.2.1)), (a_text, .inl (X.2.1 0, 500, .inl f_text)), (a_told, .inl (X.2.1 0, 7, .inl o4.2.2.1))]) hx hb hml hts hown hG hA hP hD rfl hS hl.1 (qX11_item l X a_this a_blowMany a_blows a_downs a_forwards a_homes a_judgeMany a_judges a_noises a_roundMany a_takens a_text a_told a_delays a_tolds a_tens a_ways a_nextWays a_tallies a_presses a_values a_nextValues i_length i_keptMany i_place f_blowMany f_blows f_downs f_forwards f_homes f_judgeMany f_judges f_noises f_roundMany f_takens f_text f_told o4 ho4) (cwV (y := yX11_item) 0 hts gX11_readAll_X11_item rfl rfl rfl hdvX11_item ⟨Nat.le_of_ble_eq_true rfl, Nat.le_of_ble_eq_true rfl⟩) [0, 1, 2, 3, 4, 5, 6, 7, 8, 9, 10, 11, 12] [] [0, 1, 2, 3, 4, 5, 6, 7, 8, 9, 10, 11, 12] rfl rfl rfl rfl rfl rfl rfl (ci := 11) rfl 0 rfl rfl rfl (Nat.le_of_ble_eq_true rfl) ⟨Nat.le_of_ble_eq_true rfl, Nat.le_of_ble_eq_true rfl⟩ dX11_readAll_27 (fun H locs hP _ hS => ?_)
        refine lv_if_ne (tgt := 35) hx hb dX11_readAll_30 (by decide) (fun c6 => ?_) (fun c6 => ?_)
        · have hf := xf hf c6
          refine lv_goto (tgt := 10) hx hb dX11_readAll_35 (by decide) ?_
          exact ih o4.2.2.2.1 o4.2.2.2.2.2.2.2.2.2.2.2.2 o4.2.2.2.2.2.2.1 o4.2.2.2.2.2.2.2.1 o4.2.2.2.2.2.2.2.2.1 o4.2.2.2.2.2.2.2.2.2.1 o4.2.2.2.2.1 o4.2.2.2.2.2.2.2.2.2.2.1 o4.2.1 o4.2.2.1 o4.2.2.2.2.2.1 o4.2.2.2.2.2.2.2.2.2.2.2.1  H _ ls hP  hS (lv_sub hl [1] rfl) hf
        · have hf := xt hf c6
          refine lv_iload_n hx hb dX11_readAll_33 rfl (lv_at hl 0 rfl) ?_
          obtain rfl := Option.some.inj hf
          exact ret H _ ls _ rfl hP hD hS dX11_readAll_34
  unfold mX11_readAll at hf
  refine lv_aload_n hx hb dX11_readAll_0 rfl (lv_at hl 0 rfl) ?_
  refine lv_iconst (v := (1 : Int32)) hx hb dX11_readAll_1 (by decide) ?_
  obtain ⟨o1, ho1, hf⟩ := ob_s hf
  refine xV_v (As := [.int (1 : Int32)]) (b := a_this) (rest := []) (ws2 := fun _ => [(a_this, .inr (11, [.int i_length, .ref a_text, .ref a_roundMany, .ref a_blowMany, .ref a_blows, .ref a_forwards, .ref a_downs, .ref a_takens, .ref a_homes, .ref a_noises, .ref a_judgeMany, .ref a_judges, .ref a_delays, .ref a_tolds, .ref a_tens, .int i_keptMany, .int i_place, .ref a_told, .ref a_ways, .ref a_nextWays, .ref a_tallies, .ref a_presses, .ref a_values, .ref a_nextValues])), (a_blowMany, .inl (X.2.1 0, 2, .inl o1.2.1)), (a_blows, .inl (X.2.1 0, 400, .inl f_blows)), (a_downs, .inl (X.2.1 0, 48, .inl o1.2.2.2.2.2.2.1)), (a_forwards, .inl (X.2.1 0, 48, .inl o1.2.2.2.2.2.1)), (a_homes, .inl (X.2.1 0, 2, .inl o1.2.2.2.1)), (a_judgeMany, .inl (X.2.1 0, 2, .inl o1.2.2.1)), (a_judges, .inl (X.2.1 0, 112, .inl f_judges)), (a_noises, .inl (X.2.1 0, 2, .inl o1.2.2.2.2.1)), (a_roundMany, .inl (X.2.1 0, 2, .inl o1.1)), (a_takens, .inl (X.2.1 0, 48, .inl o1.2.2.2.2.2.2.2)), (a_text, .inl (X.2.1 0, 500, .inl f_text)), (a_told, .inl (X.2.1 0, 7, .inl f_told))]) hx hb hml hts hown hG hA hP hD rfl hS hl.1 (qX11_noFight l X a_this a_blowMany a_downs a_forwards a_homes a_judgeMany a_noises a_roundMany a_takens a_text a_blows a_judges a_delays a_tolds a_tens a_told a_ways a_nextWays a_tallies a_presses a_values a_nextValues i_length i_keptMany i_place f_blowMany f_downs f_forwards f_homes f_judgeMany f_noises f_roundMany f_takens (1 : Int32) o1 ho1) (cwV (y := yX11_noFight) 1 hts gX11_readAll_X11_noFight rfl rfl rfl hdvX11_noFight ⟨Nat.le_of_ble_eq_true rfl, Nat.le_of_ble_eq_true rfl⟩) [0, 1, 3, 4, 5, 6, 8, 9, 10] [2, 7, 11, 12] [4, 5, 0, 6, 7, 8, 9, 1, 10, 11, 12, 2, 3] rfl rfl rfl rfl rfl rfl (fun _ => rfl) (ci := 11) rfl 0 rfl rfl rfl (Nat.le_of_ble_eq_true rfl) ⟨Nat.le_of_ble_eq_true rfl, Nat.le_of_ble_eq_true rfl⟩ dX11_readAll_2 (fun u2 H locs hP _ hS => ?_)
  refine lv_aload_n hx hb dX11_readAll_5 rfl (lv_at hl 0 rfl) ?_
  refine lv_iconst (v := (0 : Int32)) hx hb dX11_readAll_6 (by decide) ?_
  refine x_put (ws' := [(a_this, .inr (11, [.int i_length, .ref a_text, .ref a_roundMany, .ref a_blowMany, .ref a_blows, .ref a_forwards, .ref a_downs, .ref a_takens, .ref a_homes, .ref a_noises, .ref a_judgeMany, .ref a_judges, .ref a_delays, .ref a_tolds, .ref a_tens, .int i_keptMany, .int (0 : Int32), .ref a_told, .ref a_ways, .ref a_nextWays, .ref a_tallies, .ref a_presses, .ref a_values, .ref a_nextValues])), (a_blowMany, .inl (X.2.1 0, 2, .inl o1.2.1)), (a_blows, .inl (X.2.1 0, 400, .inl f_blows)), (a_downs, .inl (X.2.1 0, 48, .inl o1.2.2.2.2.2.2.1)), (a_forwards, .inl (X.2.1 0, 48, .inl o1.2.2.2.2.2.1)), (a_homes, .inl (X.2.1 0, 2, .inl o1.2.2.2.1)), (a_judgeMany, .inl (X.2.1 0, 2, .inl o1.2.2.1)), (a_judges, .inl (X.2.1 0, 112, .inl f_judges)), (a_noises, .inl (X.2.1 0, 2, .inl o1.2.2.2.2.1)), (a_roundMany, .inl (X.2.1 0, 2, .inl o1.1)), (a_takens, .inl (X.2.1 0, 48, .inl o1.2.2.2.2.2.2.2)), (a_text, .inl (X.2.1 0, 500, .inl f_text)), (a_told, .inl (X.2.1 0, 7, .inl f_told))]) (ty := .int) (C := RX11) (T := TX11) (N := 24) hx hb hts in11 tyX11 tyX11_ok nmX11 hown hG hP hD rfl hS 0 rfl rfl 16 (by decide) w1 rfl (tyX11_ok 16 (by decide)) rfl rfl (Nat.le_of_ble_eq_true rfl) dX11_readAll_7 rfl (fun H locs hP hS => ?_)
  exact hL10  FUEL o1.1 o1.2.1 o1.2.2.1 o1.2.2.2.1 o1.2.2.2.2.1 o1.2.2.2.2.2.1 o1.2.2.2.2.2.2.1 o1.2.2.2.2.2.2.2 (0 : Int32) f_told f_judges f_blows  H _ ls hP  hS (lv_sub hl [0] rfl) hf
def mX11_fault (i_length : Int32) (i_place : Int32) (f_blowMany : Nat → Int32) (f_blows : Nat → Int32) (f_downs : Nat → Int32) (f_forwards : Nat → Int32) (f_homes : Nat → Int32) (f_judgeMany : Nat → Int32) (f_judges : Nat → Int32) (f_noises : Nat → Int32) (f_roundMany : Nat → Int32) (f_takens : Nat → Int32) (f_text : Nat → Int32) (f_told : Nat → Int32) :
  Option (Int32 × (Nat → Int32) × (Nat → Int32) × (Nat → Int32) × (Nat → Int32) × (Nat → Int32) × (Nat → Int32) × (Nat → Int32) × (Nat → Int32) × Int32 × (Nat → Int32) × (Nat → Int32) × (Nat → Int32)) :=
  (mX11_readAll i_length i_place f_blowMany f_blows f_downs f_forwards f_homes f_judgeMany f_judges f_noises f_roundMany f_takens f_text f_told).bind fun o1 =>
  some (o1.1, o1.2.1, o1.2.2.1, o1.2.2.2.1, o1.2.2.2.2.1, o1.2.2.2.2.2.1, o1.2.2.2.2.2.2.1, o1.2.2.2.2.2.2.2.1, o1.2.2.2.2.2.2.2.2.1, o1.2.2.2.2.2.2.2.2.2.1, o1.2.2.2.2.2.2.2.2.2.2.1, o1.2.2.2.2.2.2.2.2.2.2.2.1, o1.2.2.2.2.2.2.2.2.2.2.2.2)
theorem hdsX11_fault : yX11_fault.cls ≠ "java/lang/invoke/MethodHandle" ∧ yX11_fault.cls ≠ "java/lang/invoke/VarHandle" ∧ (parseMethodDescriptor yX11_fault.desc).map (fun d => d.parameters.length) = some 0 := by decide +kernel
theorem hdvX11_fault : yX11_fault.cls = RX11 ∧ yX11_fault.cls ≠ "java/lang/invoke/MethodHandle" ∧ yX11_fault.cls ≠ "java/lang/invoke/VarHandle" ∧ (parseMethodDescriptor yX11_fault.desc).map (fun d => d.parameters.length) = some 0 := by decide +kernel
abbrev rmX11_fault : Room := { frames := 5, cells := 0, slots := 0, locals := 113 }
set_option maxHeartbeats 4000000 in
set_option maxRecDepth 100000 in
theorem qX11_fault (l : Launch) (X : XT) (a_this : Nat) (a_blowMany : Nat) (a_blows : Nat) (a_downs : Nat) (a_forwards : Nat) (a_homes : Nat) (a_judgeMany : Nat) (a_judges : Nat) (a_noises : Nat) (a_roundMany : Nat) (a_takens : Nat) (a_text : Nat) (a_told : Nat) (a_delays : Nat) (a_tolds : Nat) (a_tens : Nat) (a_ways : Nat) (a_nextWays : Nat) (a_tallies : Nat) (a_presses : Nat) (a_values : Nat) (a_nextValues : Nat)  (i_length : Int32) (i_keptMany : Int32) (i_place : Int32) (f_blowMany : Nat → Int32) (f_blows : Nat → Int32) (f_downs : Nat → Int32) (f_forwards : Nat → Int32) (f_homes : Nat → Int32) (f_judgeMany : Nat → Int32) (f_judges : Nat → Int32) (f_noises : Nat → Int32) (f_roundMany : Nat → Int32) (f_takens : Nat → Int32) (f_text : Nat → Int32) (f_told : Nat → Int32)  (o : Int32 × (Nat → Int32) × (Nat → Int32) × (Nat → Int32) × (Nat → Int32) × (Nat → Int32) × (Nat → Int32) × (Nat → Int32) × (Nat → Int32) × Int32 × (Nat → Int32) × (Nat → Int32) × (Nat → Int32)) (hf : mX11_fault i_length i_place f_blowMany f_blows f_downs f_forwards f_homes f_judgeMany f_judges f_noises f_roundMany f_takens f_text f_told = some o) :
    MI l yX11_fault wsX11_fault rmX11_fault X [.ref a_this] [(a_this, .inr (11, [.int i_length, .ref a_text, .ref a_roundMany, .ref a_blowMany, .ref a_blows, .ref a_forwards, .ref a_downs, .ref a_takens, .ref a_homes, .ref a_noises, .ref a_judgeMany, .ref a_judges, .ref a_delays, .ref a_tolds, .ref a_tens, .int i_keptMany, .int i_place, .ref a_told, .ref a_ways, .ref a_nextWays, .ref a_tallies, .ref a_presses, .ref a_values, .ref a_nextValues])), (a_blowMany, .inl (X.2.1 0, 2, .inl f_blowMany)), (a_blows, .inl (X.2.1 0, 400, .inl f_blows)), (a_downs, .inl (X.2.1 0, 48, .inl f_downs)), (a_forwards, .inl (X.2.1 0, 48, .inl f_forwards)), (a_homes, .inl (X.2.1 0, 2, .inl f_homes)), (a_judgeMany, .inl (X.2.1 0, 2, .inl f_judgeMany)), (a_judges, .inl (X.2.1 0, 112, .inl f_judges)), (a_noises, .inl (X.2.1 0, 2, .inl f_noises)), (a_roundMany, .inl (X.2.1 0, 2, .inl f_roundMany)), (a_takens, .inl (X.2.1 0, 48, .inl f_takens)), (a_text, .inl (X.2.1 0, 500, .inl f_text)), (a_told, .inl (X.2.1 0, 7, .inl f_told))]  [(a_this, .inr (11, [.int i_length, .ref a_text, .ref a_roundMany, .ref a_blowMany, .ref a_blows, .ref a_forwards, .ref a_downs, .ref a_takens, .ref a_homes, .ref a_noises, .ref a_judgeMany, .ref a_judges, .ref a_delays, .ref a_tolds, .ref a_tens, .int i_keptMany, .int o.2.2.2.2.2.2.2.2.2.1, .ref a_told, .ref a_ways, .ref a_nextWays, .ref a_tallies, .ref a_presses, .ref a_values, .ref a_nextValues])), (a_blowMany, .inl (X.2.1 0, 2, .inl o.2.2.1)), (a_blows, .inl (X.2.1 0, 400, .inl o.2.2.2.2.2.2.2.2.2.2.2.2)), (a_downs, .inl (X.2.1 0, 48, .inl o.2.2.2.2.2.2.2.1)), (a_forwards, .inl (X.2.1 0, 48, .inl o.2.2.2.2.2.2.1)), (a_homes, .inl (X.2.1 0, 2, .inl o.2.2.2.2.1)), (a_judgeMany, .inl (X.2.1 0, 2, .inl o.2.2.2.1)), (a_judges, .inl (X.2.1 0, 112, .inl o.2.2.2.2.2.2.2.2.2.2.2.1)), (a_noises, .inl (X.2.1 0, 2, .inl o.2.2.2.2.2.1)), (a_roundMany, .inl (X.2.1 0, 2, .inl o.2.1)), (a_takens, .inl (X.2.1 0, 48, .inl o.2.2.2.2.2.2.2.2.1)), (a_text, .inl (X.2.1 0, 500, .inl f_text)), (a_told, .inl (X.2.1 0, 7, .inl o.2.2.2.2.2.2.2.2.2.2.1))] o.1 := by
  refine MI_ofH (cc := cX11_fault) (maxL := 1) (rt := .int) (by decide) rfl (Nat.le_of_ble_eq_true rfl) ?_
  intro p e s m below meth c A Q H ls hx hb hml hts hown hA hD hG hP hS hl ret
  have hown : s.vm.findClass RX11 = some m.cls := hown
  have hD : aD A [a_this, a_blowMany, a_blows, a_downs, a_forwards, a_homes, a_judgeMany, a_judges, a_noises, a_roundMany, a_takens, a_text, a_told] := hD
  have hl : lv_has ls 1 [(0, .ref a_this)] := hl
  unfold mX11_fault at hf
  refine lv_aload_n hx hb dX11_fault_0 rfl (lv_at hl 0 rfl) ?_
  obtain ⟨o1, ho1, hf⟩ := ob_s hf
  refine xV_i (As := []) (b := a_this) (rest := []) (ws2 := [(a_this, .inr (11, [.int i_length, .ref a_text, .ref a_roundMany, .ref a_blowMany, .ref a_blows, .ref a_forwards, .ref a_downs, .ref a_takens, .ref a_homes, .ref a_noises, .ref a_judgeMany, .ref a_judges, .ref a_delays, .ref a_tolds, .ref a_tens, .int i_keptMany, .int o1.2.2.2.2.2.2.2.2.2.1, .ref a_told, .ref a_ways, .ref a_nextWays, .ref a_tallies, .ref a_presses, .ref a_values, .ref a_nextValues])), (a_blowMany, .inl (X.2.1 0, 2, .inl o1.2.2.1)), (a_blows, .inl (X.2.1 0, 400, .inl o1.2.2.2.2.2.2.2.2.2.2.2.2)), (a_downs, .inl (X.2.1 0, 48, .inl o1.2.2.2.2.2.2.2.1)), (a_forwards, .inl (X.2.1 0, 48, .inl o1.2.2.2.2.2.2.1)), (a_homes, .inl (X.2.1 0, 2, .inl o1.2.2.2.2.1)), (a_judgeMany, .inl (X.2.1 0, 2, .inl o1.2.2.2.1)), (a_judges, .inl (X.2.1 0, 112, .inl o1.2.2.2.2.2.2.2.2.2.2.2.1)), (a_noises, .inl (X.2.1 0, 2, .inl o1.2.2.2.2.2.1)), (a_roundMany, .inl (X.2.1 0, 2, .inl o1.2.1)), (a_takens, .inl (X.2.1 0, 48, .inl o1.2.2.2.2.2.2.2.2.1)), (a_text, .inl (X.2.1 0, 500, .inl f_text)), (a_told, .inl (X.2.1 0, 7, .inl o1.2.2.2.2.2.2.2.2.2.2.1))]) hx hb hml hts hown hG hA hP hD rfl hS hl.1 (qX11_readAll l X a_this a_blowMany a_blows a_downs a_forwards a_homes a_judgeMany a_judges a_noises a_roundMany a_takens a_text a_told a_delays a_tolds a_tens a_ways a_nextWays a_tallies a_presses a_values a_nextValues i_length i_keptMany i_place f_blowMany f_blows f_downs f_forwards f_homes f_judgeMany f_judges f_noises f_roundMany f_takens f_text f_told o1 ho1) (cwV (y := yX11_readAll) 0 hts gX11_fault_X11_readAll rfl rfl rfl hdvX11_readAll ⟨Nat.le_of_ble_eq_true rfl, Nat.le_of_ble_eq_true rfl⟩) [0, 1, 2, 3, 4, 5, 6, 7, 8, 9, 10, 11, 12] [] [0, 1, 2, 3, 4, 5, 6, 7, 8, 9, 10, 11, 12] rfl rfl rfl rfl rfl rfl rfl (ci := 11) rfl 0 rfl rfl rfl (Nat.le_of_ble_eq_true rfl) ⟨Nat.le_of_ble_eq_true rfl, Nat.le_of_ble_eq_true rfl⟩ dX11_fault_1 (fun H locs hP _ hS => ?_)
  obtain rfl := Option.some.inj hf
  exact ret H _ ls _ rfl hP hD hS dX11_fault_4
def mX11_lay_B203 (i_length : Int32) (f_text : Nat → Int32) (k203 : Int32 → (Nat → Int32) → (Nat → Int32) → (Nat → Int32) → (Nat → Int32) → (Nat → Int32) → (Nat → Int32) → (Nat → Int32) → (Nat → Int32) → Int32 → (Nat → Int32) → (Nat → Int32) → (Nat → Int32) → (Nat → Int32) → Int32 → Option (Int32 × (Nat → Int32) × (Nat → Int32) × (Nat → Int32) × (Nat → Int32) × (Nat → Int32) × (Nat → Int32) × (Nat → Int32) × (Nat → Int32) × Int32 × (Nat → Int32) × (Nat → Int32) × (Nat → Int32) × (Nat → Int32) × Int32)) (l1 : Int32) (f_roundMany : Nat → Int32) (f_blowMany : Nat → Int32) (f_judgeMany : Nat → Int32) (f_homes : Nat → Int32) (f_noises : Nat → Int32) (f_forwards : Nat → Int32) (f_downs : Nat → Int32) (f_takens : Nat → Int32) (i_place : Int32) (f_told : Nat → Int32) (f_judges : Nat → Int32) (f_blows : Nat → Int32) (f_delays : Nat → Int32) (i_keptMany : Int32) :
  Option (Int32 × (Nat → Int32) × (Nat → Int32) × (Nat → Int32) × (Nat → Int32) × (Nat → Int32) × (Nat → Int32) × (Nat → Int32) × (Nat → Int32) × Int32 × (Nat → Int32) × (Nat → Int32) × (Nat → Int32) × (Nat → Int32) × Int32) :=
  if (8 : Int32) ≤ l1 then (lb (f_judgeMany (0 : Int32).toNatClampNeg) fun v32 =>
  some (v32, f_roundMany, f_blowMany, f_judgeMany, f_homes, f_noises, f_forwards, f_downs, f_takens, i_place, f_told, f_judges, f_blows, f_delays, (0 : Int32))) else (gi l1 24 <|
  lb (upd f_delays l1.toNatClampNeg (0 : Int32)) fun g34 =>
  lb (l1 + (1 : Int32)) fun v35 =>
  k203 v35 f_roundMany f_blowMany f_judgeMany f_homes f_noises f_forwards f_downs f_takens i_place f_told f_judges f_blows g34 i_keptMany)
def mX11_lay_L203 (i_length : Int32) (f_text : Nat → Int32) (n : Nat) (l1 : Int32) (f_roundMany : Nat → Int32) (f_blowMany : Nat → Int32) (f_judgeMany : Nat → Int32) (f_homes : Nat → Int32) (f_noises : Nat → Int32) (f_forwards : Nat → Int32) (f_downs : Nat → Int32) (f_takens : Nat → Int32) (i_place : Int32) (f_told : Nat → Int32) (f_judges : Nat → Int32) (f_blows : Nat → Int32) (f_delays : Nat → Int32) (i_keptMany : Int32) :
  Option (Int32 × (Nat → Int32) × (Nat → Int32) × (Nat → Int32) × (Nat → Int32) × (Nat → Int32) × (Nat → Int32) × (Nat → Int32) × (Nat → Int32) × Int32 × (Nat → Int32) × (Nat → Int32) × (Nat → Int32) × (Nat → Int32) × Int32) :=
  loopN (fun k (s : Int32 × (Nat → Int32) × (Nat → Int32) × (Nat → Int32) × (Nat → Int32) × (Nat → Int32) × (Nat → Int32) × (Nat → Int32) × (Nat → Int32) × Int32 × (Nat → Int32) × (Nat → Int32) × (Nat → Int32) × (Nat → Int32) × Int32) => mX11_lay_B203 i_length f_text  (fun l1 f_roundMany f_blowMany f_judgeMany f_homes f_noises f_forwards f_downs f_takens i_place f_told f_judges f_blows f_delays i_keptMany => k (l1, f_roundMany, f_blowMany, f_judgeMany, f_homes, f_noises, f_forwards, f_downs, f_takens, i_place, f_told, f_judges, f_blows, f_delays, i_keptMany)) s.1 s.2.1 s.2.2.1 s.2.2.2.1 s.2.2.2.2.1 s.2.2.2.2.2.1 s.2.2.2.2.2.2.1 s.2.2.2.2.2.2.2.1 s.2.2.2.2.2.2.2.2.1 s.2.2.2.2.2.2.2.2.2.1 s.2.2.2.2.2.2.2.2.2.2.1 s.2.2.2.2.2.2.2.2.2.2.2.1 s.2.2.2.2.2.2.2.2.2.2.2.2.1 s.2.2.2.2.2.2.2.2.2.2.2.2.2.1 s.2.2.2.2.2.2.2.2.2.2.2.2.2.2) n (l1, f_roundMany, f_blowMany, f_judgeMany, f_homes, f_noises, f_forwards, f_downs, f_takens, i_place, f_told, f_judges, f_blows, f_delays, i_keptMany)
def mX11_lay_B144 (i_length : Int32) (f_text : Nat → Int32) (k144 : Int32 → (Nat → Int32) → (Nat → Int32) → (Nat → Int32) → (Nat → Int32) → (Nat → Int32) → (Nat → Int32) → (Nat → Int32) → (Nat → Int32) → Int32 → (Nat → Int32) → (Nat → Int32) → (Nat → Int32) → (Nat → Int32) → Int32 → Option (Int32 × (Nat → Int32) × (Nat → Int32) × (Nat → Int32) × (Nat → Int32) × (Nat → Int32) × (Nat → Int32) × (Nat → Int32) × (Nat → Int32) × Int32 × (Nat → Int32) × (Nat → Int32) × (Nat → Int32) × (Nat → Int32) × Int32)) (l1 : Int32) (f_roundMany : Nat → Int32) (f_blowMany : Nat → Int32) (f_judgeMany : Nat → Int32) (f_homes : Nat → Int32) (f_noises : Nat → Int32) (f_forwards : Nat → Int32) (f_downs : Nat → Int32) (f_takens : Nat → Int32) (i_place : Int32) (f_told : Nat → Int32) (f_judges : Nat → Int32) (f_blows : Nat → Int32) (f_delays : Nat → Int32) (i_keptMany : Int32) :
  Option (Int32 × (Nat → Int32) × (Nat → Int32) × (Nat → Int32) × (Nat → Int32) × (Nat → Int32) × (Nat → Int32) × (Nat → Int32) × (Nat → Int32) × Int32 × (Nat → Int32) × (Nat → Int32) × (Nat → Int32) × (Nat → Int32) × Int32) :=
  if (24 : Int32) ≤ l1 then (mX11_lay_L203 i_length f_text  FUEL (0 : Int32) f_roundMany f_blowMany f_judgeMany f_homes f_noises f_forwards f_downs f_takens i_place f_told f_judges f_blows f_delays i_keptMany) else (gi ((24 : Int32) + l1) 48 <|
  gi l1 48 <|
  lb (upd f_forwards l1.toNatClampNeg (f_forwards ((24 : Int32) + l1).toNatClampNeg)) fun g23 =>
  gi ((24 : Int32) + l1) 48 <|
  gi l1 48 <|
  lb (upd f_downs l1.toNatClampNeg (f_downs ((24 : Int32) + l1).toNatClampNeg)) fun g26 =>
  gi ((24 : Int32) + l1) 48 <|
  gi l1 48 <|
  lb (upd f_takens l1.toNatClampNeg (f_takens ((24 : Int32) + l1).toNatClampNeg)) fun g29 =>
  lb (l1 + (1 : Int32)) fun v30 =>
  k144 v30 f_roundMany f_blowMany f_judgeMany f_homes f_noises g23 g26 g29 i_place f_told f_judges f_blows f_delays i_keptMany)
def mX11_lay_L144 (i_length : Int32) (f_text : Nat → Int32) (n : Nat) (l1 : Int32) (f_roundMany : Nat → Int32) (f_blowMany : Nat → Int32) (f_judgeMany : Nat → Int32) (f_homes : Nat → Int32) (f_noises : Nat → Int32) (f_forwards : Nat → Int32) (f_downs : Nat → Int32) (f_takens : Nat → Int32) (i_place : Int32) (f_told : Nat → Int32) (f_judges : Nat → Int32) (f_blows : Nat → Int32) (f_delays : Nat → Int32) (i_keptMany : Int32) :
  Option (Int32 × (Nat → Int32) × (Nat → Int32) × (Nat → Int32) × (Nat → Int32) × (Nat → Int32) × (Nat → Int32) × (Nat → Int32) × (Nat → Int32) × Int32 × (Nat → Int32) × (Nat → Int32) × (Nat → Int32) × (Nat → Int32) × Int32) :=
  loopN (fun k (s : Int32 × (Nat → Int32) × (Nat → Int32) × (Nat → Int32) × (Nat → Int32) × (Nat → Int32) × (Nat → Int32) × (Nat → Int32) × (Nat → Int32) × Int32 × (Nat → Int32) × (Nat → Int32) × (Nat → Int32) × (Nat → Int32) × Int32) => mX11_lay_B144 i_length f_text  (fun l1 f_roundMany f_blowMany f_judgeMany f_homes f_noises f_forwards f_downs f_takens i_place f_told f_judges f_blows f_delays i_keptMany => k (l1, f_roundMany, f_blowMany, f_judgeMany, f_homes, f_noises, f_forwards, f_downs, f_takens, i_place, f_told, f_judges, f_blows, f_delays, i_keptMany)) s.1 s.2.1 s.2.2.1 s.2.2.2.1 s.2.2.2.2.1 s.2.2.2.2.2.1 s.2.2.2.2.2.2.1 s.2.2.2.2.2.2.2.1 s.2.2.2.2.2.2.2.2.1 s.2.2.2.2.2.2.2.2.2.1 s.2.2.2.2.2.2.2.2.2.2.1 s.2.2.2.2.2.2.2.2.2.2.2.1 s.2.2.2.2.2.2.2.2.2.2.2.2.1 s.2.2.2.2.2.2.2.2.2.2.2.2.2.1 s.2.2.2.2.2.2.2.2.2.2.2.2.2.2) n (l1, f_roundMany, f_blowMany, f_judgeMany, f_homes, f_noises, f_forwards, f_downs, f_takens, i_place, f_told, f_judges, f_blows, f_delays, i_keptMany)
def mX11_lay_B115 (i_length : Int32) (f_text : Nat → Int32) (k115 : Int32 → (Nat → Int32) → (Nat → Int32) → (Nat → Int32) → (Nat → Int32) → (Nat → Int32) → (Nat → Int32) → (Nat → Int32) → (Nat → Int32) → Int32 → (Nat → Int32) → (Nat → Int32) → (Nat → Int32) → (Nat → Int32) → Int32 → Option (Int32 × (Nat → Int32) × (Nat → Int32) × (Nat → Int32) × (Nat → Int32) × (Nat → Int32) × (Nat → Int32) × (Nat → Int32) × (Nat → Int32) × Int32 × (Nat → Int32) × (Nat → Int32) × (Nat → Int32) × (Nat → Int32) × Int32)) (l1 : Int32) (f_roundMany : Nat → Int32) (f_blowMany : Nat → Int32) (f_judgeMany : Nat → Int32) (f_homes : Nat → Int32) (f_noises : Nat → Int32) (f_forwards : Nat → Int32) (f_downs : Nat → Int32) (f_takens : Nat → Int32) (i_place : Int32) (f_told : Nat → Int32) (f_judges : Nat → Int32) (f_blows : Nat → Int32) (f_delays : Nat → Int32) (i_keptMany : Int32) :
  Option (Int32 × (Nat → Int32) × (Nat → Int32) × (Nat → Int32) × (Nat → Int32) × (Nat → Int32) × (Nat → Int32) × (Nat → Int32) × (Nat → Int32) × Int32 × (Nat → Int32) × (Nat → Int32) × (Nat → Int32) × (Nat → Int32) × Int32) :=
  if (56 : Int32) ≤ l1 then (mX11_lay_L144 i_length f_text  FUEL (0 : Int32) f_roundMany f_blowMany f_judgeMany f_homes f_noises f_forwards f_downs f_takens i_place f_told f_judges f_blows f_delays i_keptMany) else (gi ((56 : Int32) + l1) 112 <|
  gi l1 112 <|
  lb (upd f_judges l1.toNatClampNeg (f_judges ((56 : Int32) + l1).toNatClampNeg)) fun g18 =>
  lb (l1 + (1 : Int32)) fun v19 =>
  k115 v19 f_roundMany f_blowMany f_judgeMany f_homes f_noises f_forwards f_downs f_takens i_place f_told g18 f_blows f_delays i_keptMany)
def mX11_lay_L115 (i_length : Int32) (f_text : Nat → Int32) (n : Nat) (l1 : Int32) (f_roundMany : Nat → Int32) (f_blowMany : Nat → Int32) (f_judgeMany : Nat → Int32) (f_homes : Nat → Int32) (f_noises : Nat → Int32) (f_forwards : Nat → Int32) (f_downs : Nat → Int32) (f_takens : Nat → Int32) (i_place : Int32) (f_told : Nat → Int32) (f_judges : Nat → Int32) (f_blows : Nat → Int32) (f_delays : Nat → Int32) (i_keptMany : Int32) :
  Option (Int32 × (Nat → Int32) × (Nat → Int32) × (Nat → Int32) × (Nat → Int32) × (Nat → Int32) × (Nat → Int32) × (Nat → Int32) × (Nat → Int32) × Int32 × (Nat → Int32) × (Nat → Int32) × (Nat → Int32) × (Nat → Int32) × Int32) :=
  loopN (fun k (s : Int32 × (Nat → Int32) × (Nat → Int32) × (Nat → Int32) × (Nat → Int32) × (Nat → Int32) × (Nat → Int32) × (Nat → Int32) × (Nat → Int32) × Int32 × (Nat → Int32) × (Nat → Int32) × (Nat → Int32) × (Nat → Int32) × Int32) => mX11_lay_B115 i_length f_text  (fun l1 f_roundMany f_blowMany f_judgeMany f_homes f_noises f_forwards f_downs f_takens i_place f_told f_judges f_blows f_delays i_keptMany => k (l1, f_roundMany, f_blowMany, f_judgeMany, f_homes, f_noises, f_forwards, f_downs, f_takens, i_place, f_told, f_judges, f_blows, f_delays, i_keptMany)) s.1 s.2.1 s.2.2.1 s.2.2.2.1 s.2.2.2.2.1 s.2.2.2.2.2.1 s.2.2.2.2.2.2.1 s.2.2.2.2.2.2.2.1 s.2.2.2.2.2.2.2.2.1 s.2.2.2.2.2.2.2.2.2.1 s.2.2.2.2.2.2.2.2.2.2.1 s.2.2.2.2.2.2.2.2.2.2.2.1 s.2.2.2.2.2.2.2.2.2.2.2.2.1 s.2.2.2.2.2.2.2.2.2.2.2.2.2.1 s.2.2.2.2.2.2.2.2.2.2.2.2.2.2) n (l1, f_roundMany, f_blowMany, f_judgeMany, f_homes, f_noises, f_forwards, f_downs, f_takens, i_place, f_told, f_judges, f_blows, f_delays, i_keptMany)
def mX11_lay_B84 (i_length : Int32) (f_text : Nat → Int32) (k84 : Int32 → (Nat → Int32) → (Nat → Int32) → (Nat → Int32) → (Nat → Int32) → (Nat → Int32) → (Nat → Int32) → (Nat → Int32) → (Nat → Int32) → Int32 → (Nat → Int32) → (Nat → Int32) → (Nat → Int32) → (Nat → Int32) → Int32 → Option (Int32 × (Nat → Int32) × (Nat → Int32) × (Nat → Int32) × (Nat → Int32) × (Nat → Int32) × (Nat → Int32) × (Nat → Int32) × (Nat → Int32) × Int32 × (Nat → Int32) × (Nat → Int32) × (Nat → Int32) × (Nat → Int32) × Int32)) (l1 : Int32) (f_roundMany : Nat → Int32) (f_blowMany : Nat → Int32) (f_judgeMany : Nat → Int32) (f_homes : Nat → Int32) (f_noises : Nat → Int32) (f_forwards : Nat → Int32) (f_downs : Nat → Int32) (f_takens : Nat → Int32) (i_place : Int32) (f_told : Nat → Int32) (f_judges : Nat → Int32) (f_blows : Nat → Int32) (f_delays : Nat → Int32) (i_keptMany : Int32) :
  Option (Int32 × (Nat → Int32) × (Nat → Int32) × (Nat → Int32) × (Nat → Int32) × (Nat → Int32) × (Nat → Int32) × (Nat → Int32) × (Nat → Int32) × Int32 × (Nat → Int32) × (Nat → Int32) × (Nat → Int32) × (Nat → Int32) × Int32) :=
  if (200 : Int32) ≤ l1 then (mX11_lay_L115 i_length f_text  FUEL (0 : Int32) f_roundMany f_blowMany f_judgeMany f_homes f_noises f_forwards f_downs f_takens i_place f_told f_judges f_blows f_delays i_keptMany) else (gi ((200 : Int32) + l1) 400 <|
  gi l1 400 <|
  lb (upd f_blows l1.toNatClampNeg (f_blows ((200 : Int32) + l1).toNatClampNeg)) fun g13 =>
  lb (l1 + (1 : Int32)) fun v14 =>
  k84 v14 f_roundMany f_blowMany f_judgeMany f_homes f_noises f_forwards f_downs f_takens i_place f_told f_judges g13 f_delays i_keptMany)
def mX11_lay_L84 (i_length : Int32) (f_text : Nat → Int32) (n : Nat) (l1 : Int32) (f_roundMany : Nat → Int32) (f_blowMany : Nat → Int32) (f_judgeMany : Nat → Int32) (f_homes : Nat → Int32) (f_noises : Nat → Int32) (f_forwards : Nat → Int32) (f_downs : Nat → Int32) (f_takens : Nat → Int32) (i_place : Int32) (f_told : Nat → Int32) (f_judges : Nat → Int32) (f_blows : Nat → Int32) (f_delays : Nat → Int32) (i_keptMany : Int32) :
  Option (Int32 × (Nat → Int32) × (Nat → Int32) × (Nat → Int32) × (Nat → Int32) × (Nat → Int32) × (Nat → Int32) × (Nat → Int32) × (Nat → Int32) × Int32 × (Nat → Int32) × (Nat → Int32) × (Nat → Int32) × (Nat → Int32) × Int32) :=
  loopN (fun k (s : Int32 × (Nat → Int32) × (Nat → Int32) × (Nat → Int32) × (Nat → Int32) × (Nat → Int32) × (Nat → Int32) × (Nat → Int32) × (Nat → Int32) × Int32 × (Nat → Int32) × (Nat → Int32) × (Nat → Int32) × (Nat → Int32) × Int32) => mX11_lay_B84 i_length f_text  (fun l1 f_roundMany f_blowMany f_judgeMany f_homes f_noises f_forwards f_downs f_takens i_place f_told f_judges f_blows f_delays i_keptMany => k (l1, f_roundMany, f_blowMany, f_judgeMany, f_homes, f_noises, f_forwards, f_downs, f_takens, i_place, f_told, f_judges, f_blows, f_delays, i_keptMany)) s.1 s.2.1 s.2.2.1 s.2.2.2.1 s.2.2.2.2.1 s.2.2.2.2.2.1 s.2.2.2.2.2.2.1 s.2.2.2.2.2.2.2.1 s.2.2.2.2.2.2.2.2.1 s.2.2.2.2.2.2.2.2.2.1 s.2.2.2.2.2.2.2.2.2.2.1 s.2.2.2.2.2.2.2.2.2.2.2.1 s.2.2.2.2.2.2.2.2.2.2.2.2.1 s.2.2.2.2.2.2.2.2.2.2.2.2.2.1 s.2.2.2.2.2.2.2.2.2.2.2.2.2.2) n (l1, f_roundMany, f_blowMany, f_judgeMany, f_homes, f_noises, f_forwards, f_downs, f_takens, i_place, f_told, f_judges, f_blows, f_delays, i_keptMany)
def mX11_lay (i_length : Int32) (i_keptMany : Int32) (i_place : Int32) (f_blowMany : Nat → Int32) (f_blows : Nat → Int32) (f_delays : Nat → Int32) (f_downs : Nat → Int32) (f_forwards : Nat → Int32) (f_homes : Nat → Int32) (f_judgeMany : Nat → Int32) (f_judges : Nat → Int32) (f_noises : Nat → Int32) (f_roundMany : Nat → Int32) (f_takens : Nat → Int32) (f_text : Nat → Int32) (f_told : Nat → Int32) :
  Option (Int32 × (Nat → Int32) × (Nat → Int32) × (Nat → Int32) × (Nat → Int32) × (Nat → Int32) × (Nat → Int32) × (Nat → Int32) × (Nat → Int32) × Int32 × (Nat → Int32) × (Nat → Int32) × (Nat → Int32) × (Nat → Int32) × Int32) :=
  (mX11_readAll i_length i_place f_blowMany f_blows f_downs f_forwards f_homes f_judgeMany f_judges f_noises f_roundMany f_takens f_text f_told).bind fun o1 =>
  if o1.1 = (-4 : Int32) then (if (3 : Int32) ≤ (o1.2.2.2.1 (1 : Int32).toNatClampNeg) then (lb (upd o1.2.1 (0 : Int32).toNatClampNeg (o1.2.1 (1 : Int32).toNatClampNeg)) fun g5 =>
  lb (upd o1.2.2.1 (0 : Int32).toNatClampNeg (o1.2.2.1 (1 : Int32).toNatClampNeg)) fun g6 =>
  lb (upd o1.2.2.2.1 (0 : Int32).toNatClampNeg (o1.2.2.2.1 (1 : Int32).toNatClampNeg)) fun g7 =>
  lb (upd o1.2.2.2.2.1 (0 : Int32).toNatClampNeg (o1.2.2.2.2.1 (1 : Int32).toNatClampNeg)) fun g8 =>
  lb (upd o1.2.2.2.2.2.1 (0 : Int32).toNatClampNeg (o1.2.2.2.2.2.1 (1 : Int32).toNatClampNeg)) fun g9 =>
  mX11_lay_L84 i_length f_text  FUEL (0 : Int32) g5 g6 g7 g8 g9 o1.2.2.2.2.2.2.1 o1.2.2.2.2.2.2.2.1 o1.2.2.2.2.2.2.2.2.1 o1.2.2.2.2.2.2.2.2.2.1 o1.2.2.2.2.2.2.2.2.2.2.1 o1.2.2.2.2.2.2.2.2.2.2.2.1 o1.2.2.2.2.2.2.2.2.2.2.2.2 f_delays i_keptMany) else (some ((-2 : Int32), o1.2.1, o1.2.2.1, o1.2.2.2.1, o1.2.2.2.2.1, o1.2.2.2.2.2.1, o1.2.2.2.2.2.2.1, o1.2.2.2.2.2.2.2.1, o1.2.2.2.2.2.2.2.2.1, o1.2.2.2.2.2.2.2.2.2.1, o1.2.2.2.2.2.2.2.2.2.2.1, o1.2.2.2.2.2.2.2.2.2.2.2.1, o1.2.2.2.2.2.2.2.2.2.2.2.2, f_delays, i_keptMany))) else (some ((-2 : Int32), o1.2.1, o1.2.2.1, o1.2.2.2.1, o1.2.2.2.2.1, o1.2.2.2.2.2.1, o1.2.2.2.2.2.2.1, o1.2.2.2.2.2.2.2.1, o1.2.2.2.2.2.2.2.2.1, o1.2.2.2.2.2.2.2.2.2.1, o1.2.2.2.2.2.2.2.2.2.2.1, o1.2.2.2.2.2.2.2.2.2.2.2.1, o1.2.2.2.2.2.2.2.2.2.2.2.2, f_delays, i_keptMany))
theorem hdsX11_lay : yX11_lay.cls ≠ "java/lang/invoke/MethodHandle" ∧ yX11_lay.cls ≠ "java/lang/invoke/VarHandle" ∧ (parseMethodDescriptor yX11_lay.desc).map (fun d => d.parameters.length) = some 0 := by decide +kernel
theorem hdvX11_lay : yX11_lay.cls = RX11 ∧ yX11_lay.cls ≠ "java/lang/invoke/MethodHandle" ∧ yX11_lay.cls ≠ "java/lang/invoke/VarHandle" ∧ (parseMethodDescriptor yX11_lay.desc).map (fun d => d.parameters.length) = some 0 := by decide +kernel
abbrev rmX11_lay : Room := { frames := 5, cells := 0, slots := 0, locals := 113 }
set_option maxHeartbeats 4000000 in
set_option maxRecDepth 100000 in
theorem qX11_lay (l : Launch) (X : XT) (a_this : Nat) (a_blowMany : Nat) (a_blows : Nat) (a_delays : Nat) (a_downs : Nat) (a_forwards : Nat) (a_homes : Nat) (a_judgeMany : Nat) (a_judges : Nat) (a_noises : Nat) (a_roundMany : Nat) (a_takens : Nat) (a_text : Nat) (a_told : Nat) (a_tolds : Nat) (a_tens : Nat) (a_ways : Nat) (a_nextWays : Nat) (a_tallies : Nat) (a_presses : Nat) (a_values : Nat) (a_nextValues : Nat)  (i_length : Int32) (i_keptMany : Int32) (i_place : Int32) (f_blowMany : Nat → Int32) (f_blows : Nat → Int32) (f_delays : Nat → Int32) (f_downs : Nat → Int32) (f_forwards : Nat → Int32) (f_homes : Nat → Int32) (f_judgeMany : Nat → Int32) (f_judges : Nat → Int32) (f_noises : Nat → Int32) (f_roundMany : Nat → Int32) (f_takens : Nat → Int32) (f_text : Nat → Int32) (f_told : Nat → Int32)  (o : Int32 × (Nat → Int32) × (Nat → Int32) × (Nat → Int32) × (Nat → Int32) × (Nat → Int32) × (Nat → Int32) × (Nat → Int32) × (Nat → Int32) × Int32 × (Nat → Int32) × (Nat → Int32) × (Nat → Int32) × (Nat → Int32) × Int32) (hf : mX11_lay i_length i_keptMany i_place f_blowMany f_blows f_delays f_downs f_forwards f_homes f_judgeMany f_judges f_noises f_roundMany f_takens f_text f_told = some o) :
    MI l yX11_lay wsX11_lay rmX11_lay X [.ref a_this] [(a_this, .inr (11, [.int i_length, .ref a_text, .ref a_roundMany, .ref a_blowMany, .ref a_blows, .ref a_forwards, .ref a_downs, .ref a_takens, .ref a_homes, .ref a_noises, .ref a_judgeMany, .ref a_judges, .ref a_delays, .ref a_tolds, .ref a_tens, .int i_keptMany, .int i_place, .ref a_told, .ref a_ways, .ref a_nextWays, .ref a_tallies, .ref a_presses, .ref a_values, .ref a_nextValues])), (a_blowMany, .inl (X.2.1 0, 2, .inl f_blowMany)), (a_blows, .inl (X.2.1 0, 400, .inl f_blows)), (a_delays, .inl (X.2.1 0, 24, .inl f_delays)), (a_downs, .inl (X.2.1 0, 48, .inl f_downs)), (a_forwards, .inl (X.2.1 0, 48, .inl f_forwards)), (a_homes, .inl (X.2.1 0, 2, .inl f_homes)), (a_judgeMany, .inl (X.2.1 0, 2, .inl f_judgeMany)), (a_judges, .inl (X.2.1 0, 112, .inl f_judges)), (a_noises, .inl (X.2.1 0, 2, .inl f_noises)), (a_roundMany, .inl (X.2.1 0, 2, .inl f_roundMany)), (a_takens, .inl (X.2.1 0, 48, .inl f_takens)), (a_text, .inl (X.2.1 0, 500, .inl f_text)), (a_told, .inl (X.2.1 0, 7, .inl f_told))]  [(a_this, .inr (11, [.int i_length, .ref a_text, .ref a_roundMany, .ref a_blowMany, .ref a_blows, .ref a_forwards, .ref a_downs, .ref a_takens, .ref a_homes, .ref a_noises, .ref a_judgeMany, .ref a_judges, .ref a_delays, .ref a_tolds, .ref a_tens, .int o.2.2.2.2.2.2.2.2.2.2.2.2.2.2, .int o.2.2.2.2.2.2.2.2.2.1, .ref a_told, .ref a_ways, .ref a_nextWays, .ref a_tallies, .ref a_presses, .ref a_values, .ref a_nextValues])), (a_blowMany, .inl (X.2.1 0, 2, .inl o.2.2.1)), (a_blows, .inl (X.2.1 0, 400, .inl o.2.2.2.2.2.2.2.2.2.2.2.2.1)), (a_delays, .inl (X.2.1 0, 24, .inl o.2.2.2.2.2.2.2.2.2.2.2.2.2.1)), (a_downs, .inl (X.2.1 0, 48, .inl o.2.2.2.2.2.2.2.1)), (a_forwards, .inl (X.2.1 0, 48, .inl o.2.2.2.2.2.2.1)), (a_homes, .inl (X.2.1 0, 2, .inl o.2.2.2.2.1)), (a_judgeMany, .inl (X.2.1 0, 2, .inl o.2.2.2.1)), (a_judges, .inl (X.2.1 0, 112, .inl o.2.2.2.2.2.2.2.2.2.2.2.1)), (a_noises, .inl (X.2.1 0, 2, .inl o.2.2.2.2.2.1)), (a_roundMany, .inl (X.2.1 0, 2, .inl o.2.1)), (a_takens, .inl (X.2.1 0, 48, .inl o.2.2.2.2.2.2.2.2.1)), (a_text, .inl (X.2.1 0, 500, .inl f_text)), (a_told, .inl (X.2.1 0, 7, .inl o.2.2.2.2.2.2.2.2.2.2.1))] o.1 := by
  refine MI_ofH (cc := cX11_lay) (maxL := 2) (rt := .int) (by decide) rfl (Nat.le_of_ble_eq_true rfl) ?_
  intro p e s m below meth c A Q H ls hx hb hml hts hown hA hD hG hP hS hl ret
  have hown : s.vm.findClass RX11 = some m.cls := hown
  have hD : aD A [a_this, a_blowMany, a_blows, a_delays, a_downs, a_forwards, a_homes, a_judgeMany, a_judges, a_noises, a_roundMany, a_takens, a_text, a_told] := hD
  have hl : lv_has ls 2 [(0, .ref a_this)] := hl
  have w1 := hts (Cond.fieldLink RX11 37 "ThreeCardsModel" "judgeMany" "[I") (List.mem_of_getElem? (i := 1) rfl)
  have w2 := hts (Cond.fieldLink RX11 13 "ThreeCardsModel" "roundMany" "[I") (List.mem_of_getElem? (i := 2) rfl)
  have w3 := hts (Cond.fieldLink RX11 16 "ThreeCardsModel" "blowMany" "[I") (List.mem_of_getElem? (i := 3) rfl)
  have w4 := hts (Cond.fieldLink RX11 31 "ThreeCardsModel" "homes" "[I") (List.mem_of_getElem? (i := 4) rfl)
  have w5 := hts (Cond.fieldLink RX11 34 "ThreeCardsModel" "noises" "[I") (List.mem_of_getElem? (i := 5) rfl)
  have w6 := hts (Cond.fieldLink RX11 19 "ThreeCardsModel" "blows" "[I") (List.mem_of_getElem? (i := 6) rfl)
  have w7 := hts (Cond.fieldLink RX11 40 "ThreeCardsModel" "judges" "[I") (List.mem_of_getElem? (i := 7) rfl)
  have w8 := hts (Cond.fieldLink RX11 22 "ThreeCardsModel" "forwards" "[I") (List.mem_of_getElem? (i := 8) rfl)
  have w9 := hts (Cond.fieldLink RX11 25 "ThreeCardsModel" "downs" "[I") (List.mem_of_getElem? (i := 9) rfl)
  have w10 := hts (Cond.fieldLink RX11 28 "ThreeCardsModel" "takens" "[I") (List.mem_of_getElem? (i := 10) rfl)
  have w11 := hts (Cond.fieldLink RX11 43 "ThreeCardsModel" "delays" "[I") (List.mem_of_getElem? (i := 11) rfl)
  have w12 := hts (Cond.fieldLink RX11 129 "ThreeCardsModel" "keptMany" "I") (List.mem_of_getElem? (i := 12) rfl)
  have in11 : ∀ w ∈ u_ws RX11 TX11 24, w ∈ wsX11_lay := by decide +kernel
  have hL203 : ∀ (n : Nat) (l1 : Int32) (f_roundMany : Nat → Int32) (f_blowMany : Nat → Int32) (f_judgeMany : Nat → Int32) (f_homes : Nat → Int32) (f_noises : Nat → Int32) (f_forwards : Nat → Int32) (f_downs : Nat → Int32) (f_takens : Nat → Int32) (i_place : Int32) (f_told : Nat → Int32) (f_judges : Nat → Int32) (f_blows : Nat → Int32) (f_delays : Nat → Int32) (i_keptMany : Int32)  (H : Heap) (locs : List Loc) (ls : Array Slot), va_P X.1 vwCl [(a_this, .inr (11, [.int i_length, .ref a_text, .ref a_roundMany, .ref a_blowMany, .ref a_blows, .ref a_forwards, .ref a_downs, .ref a_takens, .ref a_homes, .ref a_noises, .ref a_judgeMany, .ref a_judges, .ref a_delays, .ref a_tolds, .ref a_tens, .int i_keptMany, .int i_place, .ref a_told, .ref a_ways, .ref a_nextWays, .ref a_tallies, .ref a_presses, .ref a_values, .ref a_nextValues])), (a_blowMany, .inl (X.2.1 0, 2, .inl f_blowMany)), (a_blows, .inl (X.2.1 0, 400, .inl f_blows)), (a_delays, .inl (X.2.1 0, 24, .inl f_delays)), (a_downs, .inl (X.2.1 0, 48, .inl f_downs)), (a_forwards, .inl (X.2.1 0, 48, .inl f_forwards)), (a_homes, .inl (X.2.1 0, 2, .inl f_homes)), (a_judgeMany, .inl (X.2.1 0, 2, .inl f_judgeMany)), (a_judges, .inl (X.2.1 0, 112, .inl f_judges)), (a_noises, .inl (X.2.1 0, 2, .inl f_noises)), (a_roundMany, .inl (X.2.1 0, 2, .inl f_roundMany)), (a_takens, .inl (X.2.1 0, 48, .inl f_takens)), (a_text, .inl (X.2.1 0, 500, .inl f_text)), (a_told, .inl (X.2.1 0, 7, .inl f_told))] H → va_S A s.heap H locs → lv_has ls 2 [(0, .ref a_this), (1, .int l1)] → mX11_lay_L203 i_length f_text  n l1 f_roundMany f_blowMany f_judgeMany f_homes f_noises f_forwards f_downs f_takens i_place f_told f_judges f_blows f_delays i_keptMany = some o → W p l e rmX11_lay s m ([.ref a_this] : List Value).toArray below meth c H locs 0 0 Q (F0 m 203 ls []) := by
    intro n
    induction n with
    | zero => intro l1 f_roundMany f_blowMany f_judgeMany f_homes f_noises f_forwards f_downs f_takens i_place f_told f_judges f_blows f_delays i_keptMany  H locs ls hP hS hl hf; exact xn hf
    | succ n ih =>
      intro l1 f_roundMany f_blowMany f_judgeMany f_homes f_noises f_forwards f_downs f_takens i_place f_told f_judges f_blows f_delays i_keptMany  H locs ls hP hS hl hf
      have hf : mX11_lay_B203 i_length f_text  (mX11_lay_L203 i_length f_text  n) l1 f_roundMany f_blowMany f_judgeMany f_homes f_noises f_forwards f_downs f_takens i_place f_told f_judges f_blows f_delays i_keptMany = some o := hf
      generalize mX11_lay_L203 i_length f_text  n = k203 at ih hf
      unfold mX11_lay_B203 at hf
      refine lv_iload_n hx hb dX11_lay_203 rfl (lv_at hl 1 rfl) ?_
      refine lv_bipush (v := (8 : Int32)) hx hb dX11_lay_204 (by decide) ?_
      refine lv_icmp_ge (tgt := 222) hx hb dX11_lay_206 (by decide) (fun c31 => ?_) (fun c31 => ?_)
      · have hf := xt hf c31
        refine lv_aload_n hx hb dX11_lay_222 rfl (lv_at hl 0 rfl) ?_
        refine lv_iconst (v := (0 : Int32)) hx hb dX11_lay_223 (by decide) ?_
        refine x_put (ws' := [(a_this, .inr (11, [.int i_length, .ref a_text, .ref a_roundMany, .ref a_blowMany, .ref a_blows, .ref a_forwards, .ref a_downs, .ref a_takens, .ref a_homes, .ref a_noises, .ref a_judgeMany, .ref a_judges, .ref a_delays, .ref a_tolds, .ref a_tens, .int (0 : Int32), .int i_place, .ref a_told, .ref a_ways, .ref a_nextWays, .ref a_tallies, .ref a_presses, .ref a_values, .ref a_nextValues])), (a_blowMany, .inl (X.2.1 0, 2, .inl f_blowMany)), (a_blows, .inl (X.2.1 0, 400, .inl f_blows)), (a_delays, .inl (X.2.1 0, 24, .inl f_delays)), (a_downs, .inl (X.2.1 0, 48, .inl f_downs)), (a_forwards, .inl (X.2.1 0, 48, .inl f_forwards)), (a_homes, .inl (X.2.1 0, 2, .inl f_homes)), (a_judgeMany, .inl (X.2.1 0, 2, .inl f_judgeMany)), (a_judges, .inl (X.2.1 0, 112, .inl f_judges)), (a_noises, .inl (X.2.1 0, 2, .inl f_noises)), (a_roundMany, .inl (X.2.1 0, 2, .inl f_roundMany)), (a_takens, .inl (X.2.1 0, 48, .inl f_takens)), (a_text, .inl (X.2.1 0, 500, .inl f_text)), (a_told, .inl (X.2.1 0, 7, .inl f_told))]) (ty := .int) (C := RX11) (T := TX11) (N := 24) hx hb hts in11 tyX11 tyX11_ok nmX11 hown hG hP hD rfl hS 0 rfl rfl 15 (by decide) w12 rfl (tyX11_ok 15 (by decide)) rfl rfl (Nat.le_of_ble_eq_true rfl) dX11_lay_224 rfl (fun H locs hP hS => ?_)
        refine lv_aload_n hx hb dX11_lay_227 rfl (lv_at hl 0 rfl) ?_
        refine va_get (D := X.1) (ci := 11) (v := .ref a_judgeMany) (C := RX11) (T := TX11) (N := 24) hx hb hts in11 hown hG.1 hP 0 rfl rfl 10 (by decide) w1 (fun _ h9 => h9) rfl dX11_lay_228 ?_
        refine lv_iconst (v := (0 : Int32)) hx hb dX11_lay_231 (by decide) ?_
        refine va_iald (D := X.1) hx hb hG.1 hP 7 0 rfl rfl (vp_lit (by decide)) dX11_lay_232 ?_
        refine lv_topi (fun v32 ev32 => ?_)
        have hf := lb_s hf ev32
        obtain rfl := Option.some.inj hf
        exact ret H _ ls _ rfl hP hD hS dX11_lay_233
      · have hf := xf hf c31
        refine lv_aload_n hx hb dX11_lay_209 rfl (lv_at hl 0 rfl) ?_
        refine va_get (D := X.1) (ci := 11) (v := .ref a_delays) (C := RX11) (T := TX11) (N := 24) hx hb hts in11 hown hG.1 hP 0 rfl rfl 12 (by decide) w11 (fun _ h9 => h9) rfl dX11_lay_210 ?_
        refine lv_iload_n hx hb dX11_lay_213 rfl (lv_at hl 1 rfl) ?_
        refine lv_iconst (v := (0 : Int32)) hx hb dX11_lay_214 (by decide) ?_
        obtain ⟨h33, hf⟩ := gi_s hf
        obtain ⟨g34, eg34, hf⟩ := lb_g hf
        refine x_iast (ws' := [(a_this, .inr (11, [.int i_length, .ref a_text, .ref a_roundMany, .ref a_blowMany, .ref a_blows, .ref a_forwards, .ref a_downs, .ref a_takens, .ref a_homes, .ref a_noises, .ref a_judgeMany, .ref a_judges, .ref a_delays, .ref a_tolds, .ref a_tens, .int i_keptMany, .int i_place, .ref a_told, .ref a_ways, .ref a_nextWays, .ref a_tallies, .ref a_presses, .ref a_values, .ref a_nextValues])), (a_blowMany, .inl (X.2.1 0, 2, .inl f_blowMany)), (a_blows, .inl (X.2.1 0, 400, .inl f_blows)), (a_delays, .inl (X.2.1 0, 24, .inl g34)), (a_downs, .inl (X.2.1 0, 48, .inl f_downs)), (a_forwards, .inl (X.2.1 0, 48, .inl f_forwards)), (a_homes, .inl (X.2.1 0, 2, .inl f_homes)), (a_judgeMany, .inl (X.2.1 0, 2, .inl f_judgeMany)), (a_judges, .inl (X.2.1 0, 112, .inl f_judges)), (a_noises, .inl (X.2.1 0, 2, .inl f_noises)), (a_roundMany, .inl (X.2.1 0, 2, .inl f_roundMany)), (a_takens, .inl (X.2.1 0, 48, .inl f_takens)), (a_text, .inl (X.2.1 0, 500, .inl f_text)), (a_told, .inl (X.2.1 0, 7, .inl f_told))]) hx hb hG hP hD rfl hS 3 rfl h33 dX11_lay_215 eg34 rfl (fun H locs hP hS => ?_)
        obtain ⟨v35, ev35, hf⟩ := lb_g hf
        refine lv_iinc (v := v35) (lv' := [(1, .int v35), (0, .ref a_this)]) hx hb dX11_lay_216 hl (k := 1) rfl ev35.symm (by decide) rfl (fun ls hl => ?_)
        refine lv_goto (tgt := 203) hx hb dX11_lay_219 (by decide) ?_
        exact ih v35 f_roundMany f_blowMany f_judgeMany f_homes f_noises f_forwards f_downs f_takens i_place f_told f_judges f_blows g34 i_keptMany  H _ ls hP  hS (lv_sub hl [1, 0] rfl) hf
  have hL144 : ∀ (n : Nat) (l1 : Int32) (f_roundMany : Nat → Int32) (f_blowMany : Nat → Int32) (f_judgeMany : Nat → Int32) (f_homes : Nat → Int32) (f_noises : Nat → Int32) (f_forwards : Nat → Int32) (f_downs : Nat → Int32) (f_takens : Nat → Int32) (i_place : Int32) (f_told : Nat → Int32) (f_judges : Nat → Int32) (f_blows : Nat → Int32) (f_delays : Nat → Int32) (i_keptMany : Int32)  (H : Heap) (locs : List Loc) (ls : Array Slot), va_P X.1 vwCl [(a_this, .inr (11, [.int i_length, .ref a_text, .ref a_roundMany, .ref a_blowMany, .ref a_blows, .ref a_forwards, .ref a_downs, .ref a_takens, .ref a_homes, .ref a_noises, .ref a_judgeMany, .ref a_judges, .ref a_delays, .ref a_tolds, .ref a_tens, .int i_keptMany, .int i_place, .ref a_told, .ref a_ways, .ref a_nextWays, .ref a_tallies, .ref a_presses, .ref a_values, .ref a_nextValues])), (a_blowMany, .inl (X.2.1 0, 2, .inl f_blowMany)), (a_blows, .inl (X.2.1 0, 400, .inl f_blows)), (a_delays, .inl (X.2.1 0, 24, .inl f_delays)), (a_downs, .inl (X.2.1 0, 48, .inl f_downs)), (a_forwards, .inl (X.2.1 0, 48, .inl f_forwards)), (a_homes, .inl (X.2.1 0, 2, .inl f_homes)), (a_judgeMany, .inl (X.2.1 0, 2, .inl f_judgeMany)), (a_judges, .inl (X.2.1 0, 112, .inl f_judges)), (a_noises, .inl (X.2.1 0, 2, .inl f_noises)), (a_roundMany, .inl (X.2.1 0, 2, .inl f_roundMany)), (a_takens, .inl (X.2.1 0, 48, .inl f_takens)), (a_text, .inl (X.2.1 0, 500, .inl f_text)), (a_told, .inl (X.2.1 0, 7, .inl f_told))] H → va_S A s.heap H locs → lv_has ls 2 [(0, .ref a_this), (1, .int l1)] → mX11_lay_L144 i_length f_text  n l1 f_roundMany f_blowMany f_judgeMany f_homes f_noises f_forwards f_downs f_takens i_place f_told f_judges f_blows f_delays i_keptMany = some o → W p l e rmX11_lay s m ([.ref a_this] : List Value).toArray below meth c H locs 0 0 Q (F0 m 144 ls []) := by
    intro n
    induction n with
    | zero => intro l1 f_roundMany f_blowMany f_judgeMany f_homes f_noises f_forwards f_downs f_takens i_place f_told f_judges f_blows f_delays i_keptMany  H locs ls hP hS hl hf; exact xn hf
    | succ n ih =>
      intro l1 f_roundMany f_blowMany f_judgeMany f_homes f_noises f_forwards f_downs f_takens i_place f_told f_judges f_blows f_delays i_keptMany  H locs ls hP hS hl hf
      have hf : mX11_lay_B144 i_length f_text  (mX11_lay_L144 i_length f_text  n) l1 f_roundMany f_blowMany f_judgeMany f_homes f_noises f_forwards f_downs f_takens i_place f_told f_judges f_blows f_delays i_keptMany = some o := hf
      generalize mX11_lay_L144 i_length f_text  n = k144 at ih hf
      unfold mX11_lay_B144 at hf
      refine lv_iload_n hx hb dX11_lay_144 rfl (lv_at hl 1 rfl) ?_
      refine lv_bipush (v := (24 : Int32)) hx hb dX11_lay_145 (by decide) ?_
      refine lv_icmp_ge (tgt := 201) hx hb dX11_lay_147 (by decide) (fun c20 => ?_) (fun c20 => ?_)
      · have hf := xt hf c20
        refine lv_iconst (v := (0 : Int32)) hx hb dX11_lay_201 (by decide) ?_
        refine lv_istore_n (lv' := [(1, .int (0 : Int32)), (0, .ref a_this)]) hx hb dX11_lay_202 rfl hl (by decide) rfl (fun ls hl => ?_)
        exact hL203  FUEL (0 : Int32) f_roundMany f_blowMany f_judgeMany f_homes f_noises f_forwards f_downs f_takens i_place f_told f_judges f_blows f_delays i_keptMany  H _ ls hP  hS (lv_sub hl [1, 0] rfl) hf
      · have hf := xf hf c20
        refine lv_aload_n hx hb dX11_lay_150 rfl (lv_at hl 0 rfl) ?_
        refine va_get (D := X.1) (ci := 11) (v := .ref a_forwards) (C := RX11) (T := TX11) (N := 24) hx hb hts in11 hown hG.1 hP 0 rfl rfl 5 (by decide) w8 (fun _ h9 => h9) rfl dX11_lay_151 ?_
        refine lv_iload_n hx hb dX11_lay_154 rfl (lv_at hl 1 rfl) ?_
        refine lv_aload_n hx hb dX11_lay_155 rfl (lv_at hl 0 rfl) ?_
        refine va_get (D := X.1) (ci := 11) (v := .ref a_forwards) (C := RX11) (T := TX11) (N := 24) hx hb hts in11 hown hG.1 hP 0 rfl rfl 5 (by decide) w8 (fun _ h9 => h9) rfl dX11_lay_156 ?_
        refine lv_bipush (v := (24 : Int32)) hx hb dX11_lay_159 (by decide) ?_
        refine lv_iload_n hx hb dX11_lay_161 rfl (lv_at hl 1 rfl) ?_
        refine lv_iadd hx hb dX11_lay_162 ?_
        obtain ⟨h21, hf⟩ := gi_s hf
        refine va_iald (D := X.1) hx hb hG.1 hP 5 0 rfl rfl h21 dX11_lay_163 ?_
        obtain ⟨h22, hf⟩ := gi_s hf
        obtain ⟨g23, eg23, hf⟩ := lb_g hf
        refine x_iast (ws' := [(a_this, .inr (11, [.int i_length, .ref a_text, .ref a_roundMany, .ref a_blowMany, .ref a_blows, .ref a_forwards, .ref a_downs, .ref a_takens, .ref a_homes, .ref a_noises, .ref a_judgeMany, .ref a_judges, .ref a_delays, .ref a_tolds, .ref a_tens, .int i_keptMany, .int i_place, .ref a_told, .ref a_ways, .ref a_nextWays, .ref a_tallies, .ref a_presses, .ref a_values, .ref a_nextValues])), (a_blowMany, .inl (X.2.1 0, 2, .inl f_blowMany)), (a_blows, .inl (X.2.1 0, 400, .inl f_blows)), (a_delays, .inl (X.2.1 0, 24, .inl f_delays)), (a_downs, .inl (X.2.1 0, 48, .inl f_downs)), (a_forwards, .inl (X.2.1 0, 48, .inl g23)), (a_homes, .inl (X.2.1 0, 2, .inl f_homes)), (a_judgeMany, .inl (X.2.1 0, 2, .inl f_judgeMany)), (a_judges, .inl (X.2.1 0, 112, .inl f_judges)), (a_noises, .inl (X.2.1 0, 2, .inl f_noises)), (a_roundMany, .inl (X.2.1 0, 2, .inl f_roundMany)), (a_takens, .inl (X.2.1 0, 48, .inl f_takens)), (a_text, .inl (X.2.1 0, 500, .inl f_text)), (a_told, .inl (X.2.1 0, 7, .inl f_told))]) hx hb hG hP hD rfl hS 5 rfl h22 dX11_lay_164 eg23 rfl (fun H locs hP hS => ?_)
        refine lv_aload_n hx hb dX11_lay_165 rfl (lv_at hl 0 rfl) ?_
        refine va_get (D := X.1) (ci := 11) (v := .ref a_downs) (C := RX11) (T := TX11) (N := 24) hx hb hts in11 hown hG.1 hP 0 rfl rfl 6 (by decide) w9 (fun _ h9 => h9) rfl dX11_lay_166 ?_
        refine lv_iload_n hx hb dX11_lay_169 rfl (lv_at hl 1 rfl) ?_
        refine lv_aload_n hx hb dX11_lay_170 rfl (lv_at hl 0 rfl) ?_
        refine va_get (D := X.1) (ci := 11) (v := .ref a_downs) (C := RX11) (T := TX11) (N := 24) hx hb hts in11 hown hG.1 hP 0 rfl rfl 6 (by decide) w9 (fun _ h9 => h9) rfl dX11_lay_171 ?_
        refine lv_bipush (v := (24 : Int32)) hx hb dX11_lay_174 (by decide) ?_
        refine lv_iload_n hx hb dX11_lay_176 rfl (lv_at hl 1 rfl) ?_
        refine lv_iadd hx hb dX11_lay_177 ?_
        obtain ⟨h24, hf⟩ := gi_s hf
        refine va_iald (D := X.1) hx hb hG.1 hP 4 0 rfl rfl h24 dX11_lay_178 ?_
        obtain ⟨h25, hf⟩ := gi_s hf
        obtain ⟨g26, eg26, hf⟩ := lb_g hf
        refine x_iast (ws' := [(a_this, .inr (11, [.int i_length, .ref a_text, .ref a_roundMany, .ref a_blowMany, .ref a_blows, .ref a_forwards, .ref a_downs, .ref a_takens, .ref a_homes, .ref a_noises, .ref a_judgeMany, .ref a_judges, .ref a_delays, .ref a_tolds, .ref a_tens, .int i_keptMany, .int i_place, .ref a_told, .ref a_ways, .ref a_nextWays, .ref a_tallies, .ref a_presses, .ref a_values, .ref a_nextValues])), (a_blowMany, .inl (X.2.1 0, 2, .inl f_blowMany)), (a_blows, .inl (X.2.1 0, 400, .inl f_blows)), (a_delays, .inl (X.2.1 0, 24, .inl f_delays)), (a_downs, .inl (X.2.1 0, 48, .inl g26)), (a_forwards, .inl (X.2.1 0, 48, .inl g23)), (a_homes, .inl (X.2.1 0, 2, .inl f_homes)), (a_judgeMany, .inl (X.2.1 0, 2, .inl f_judgeMany)), (a_judges, .inl (X.2.1 0, 112, .inl f_judges)), (a_noises, .inl (X.2.1 0, 2, .inl f_noises)), (a_roundMany, .inl (X.2.1 0, 2, .inl f_roundMany)), (a_takens, .inl (X.2.1 0, 48, .inl f_takens)), (a_text, .inl (X.2.1 0, 500, .inl f_text)), (a_told, .inl (X.2.1 0, 7, .inl f_told))]) hx hb hG hP hD rfl hS 4 rfl h25 dX11_lay_179 eg26 rfl (fun H locs hP hS => ?_)
        refine lv_aload_n hx hb dX11_lay_180 rfl (lv_at hl 0 rfl) ?_
        refine va_get (D := X.1) (ci := 11) (v := .ref a_takens) (C := RX11) (T := TX11) (N := 24) hx hb hts in11 hown hG.1 hP 0 rfl rfl 7 (by decide) w10 (fun _ h9 => h9) rfl dX11_lay_181 ?_
        refine lv_iload_n hx hb dX11_lay_184 rfl (lv_at hl 1 rfl) ?_
        refine lv_aload_n hx hb dX11_lay_185 rfl (lv_at hl 0 rfl) ?_
        refine va_get (D := X.1) (ci := 11) (v := .ref a_takens) (C := RX11) (T := TX11) (N := 24) hx hb hts in11 hown hG.1 hP 0 rfl rfl 7 (by decide) w10 (fun _ h9 => h9) rfl dX11_lay_186 ?_
        refine lv_bipush (v := (24 : Int32)) hx hb dX11_lay_189 (by decide) ?_
        refine lv_iload_n hx hb dX11_lay_191 rfl (lv_at hl 1 rfl) ?_
        refine lv_iadd hx hb dX11_lay_192 ?_
        obtain ⟨h27, hf⟩ := gi_s hf
        refine va_iald (D := X.1) hx hb hG.1 hP 11 0 rfl rfl h27 dX11_lay_193 ?_
        obtain ⟨h28, hf⟩ := gi_s hf
        obtain ⟨g29, eg29, hf⟩ := lb_g hf
        refine x_iast (ws' := [(a_this, .inr (11, [.int i_length, .ref a_text, .ref a_roundMany, .ref a_blowMany, .ref a_blows, .ref a_forwards, .ref a_downs, .ref a_takens, .ref a_homes, .ref a_noises, .ref a_judgeMany, .ref a_judges, .ref a_delays, .ref a_tolds, .ref a_tens, .int i_keptMany, .int i_place, .ref a_told, .ref a_ways, .ref a_nextWays, .ref a_tallies, .ref a_presses, .ref a_values, .ref a_nextValues])), (a_blowMany, .inl (X.2.1 0, 2, .inl f_blowMany)), (a_blows, .inl (X.2.1 0, 400, .inl f_blows)), (a_delays, .inl (X.2.1 0, 24, .inl f_delays)), (a_downs, .inl (X.2.1 0, 48, .inl g26)), (a_forwards, .inl (X.2.1 0, 48, .inl g23)), (a_homes, .inl (X.2.1 0, 2, .inl f_homes)), (a_judgeMany, .inl (X.2.1 0, 2, .inl f_judgeMany)), (a_judges, .inl (X.2.1 0, 112, .inl f_judges)), (a_noises, .inl (X.2.1 0, 2, .inl f_noises)), (a_roundMany, .inl (X.2.1 0, 2, .inl f_roundMany)), (a_takens, .inl (X.2.1 0, 48, .inl g29)), (a_text, .inl (X.2.1 0, 500, .inl f_text)), (a_told, .inl (X.2.1 0, 7, .inl f_told))]) hx hb hG hP hD rfl hS 11 rfl h28 dX11_lay_194 eg29 rfl (fun H locs hP hS => ?_)
        obtain ⟨v30, ev30, hf⟩ := lb_g hf
        refine lv_iinc (v := v30) (lv' := [(1, .int v30), (0, .ref a_this)]) hx hb dX11_lay_195 hl (k := 1) rfl ev30.symm (by decide) rfl (fun ls hl => ?_)
        refine lv_goto (tgt := 144) hx hb dX11_lay_198 (by decide) ?_
        exact ih v30 f_roundMany f_blowMany f_judgeMany f_homes f_noises g23 g26 g29 i_place f_told f_judges f_blows f_delays i_keptMany  H _ ls hP  hS (lv_sub hl [1, 0] rfl) hf
  have hL115 : ∀ (n : Nat) (l1 : Int32) (f_roundMany : Nat → Int32) (f_blowMany : Nat → Int32) (f_judgeMany : Nat → Int32) (f_homes : Nat → Int32) (f_noises : Nat → Int32) (f_forwards : Nat → Int32) (f_downs : Nat → Int32) (f_takens : Nat → Int32) (i_place : Int32) (f_told : Nat → Int32) (f_judges : Nat → Int32) (f_blows : Nat → Int32) (f_delays : Nat → Int32) (i_keptMany : Int32)  (H : Heap) (locs : List Loc) (ls : Array Slot), va_P X.1 vwCl [(a_this, .inr (11, [.int i_length, .ref a_text, .ref a_roundMany, .ref a_blowMany, .ref a_blows, .ref a_forwards, .ref a_downs, .ref a_takens, .ref a_homes, .ref a_noises, .ref a_judgeMany, .ref a_judges, .ref a_delays, .ref a_tolds, .ref a_tens, .int i_keptMany, .int i_place, .ref a_told, .ref a_ways, .ref a_nextWays, .ref a_tallies, .ref a_presses, .ref a_values, .ref a_nextValues])), (a_blowMany, .inl (X.2.1 0, 2, .inl f_blowMany)), (a_blows, .inl (X.2.1 0, 400, .inl f_blows)), (a_delays, .inl (X.2.1 0, 24, .inl f_delays)), (a_downs, .inl (X.2.1 0, 48, .inl f_downs)), (a_forwards, .inl (X.2.1 0, 48, .inl f_forwards)), (a_homes, .inl (X.2.1 0, 2, .inl f_homes)), (a_judgeMany, .inl (X.2.1 0, 2, .inl f_judgeMany)), (a_judges, .inl (X.2.1 0, 112, .inl f_judges)), (a_noises, .inl (X.2.1 0, 2, .inl f_noises)), (a_roundMany, .inl (X.2.1 0, 2, .inl f_roundMany)), (a_takens, .inl (X.2.1 0, 48, .inl f_takens)), (a_text, .inl (X.2.1 0, 500, .inl f_text)), (a_told, .inl (X.2.1 0, 7, .inl f_told))] H → va_S A s.heap H locs → lv_has ls 2 [(0, .ref a_this), (1, .int l1)] → mX11_lay_L115 i_length f_text  n l1 f_roundMany f_blowMany f_judgeMany f_homes f_noises f_forwards f_downs f_takens i_place f_told f_judges f_blows f_delays i_keptMany = some o → W p l e rmX11_lay s m ([.ref a_this] : List Value).toArray below meth c H locs 0 0 Q (F0 m 115 ls []) := by
    intro n
    induction n with
    | zero => intro l1 f_roundMany f_blowMany f_judgeMany f_homes f_noises f_forwards f_downs f_takens i_place f_told f_judges f_blows f_delays i_keptMany  H locs ls hP hS hl hf; exact xn hf
    | succ n ih =>
      intro l1 f_roundMany f_blowMany f_judgeMany f_homes f_noises f_forwards f_downs f_takens i_place f_told f_judges f_blows f_delays i_keptMany  H locs ls hP hS hl hf
      have hf : mX11_lay_B115 i_length f_text  (mX11_lay_L115 i_length f_text  n) l1 f_roundMany f_blowMany f_judgeMany f_homes f_noises f_forwards f_downs f_takens i_place f_told f_judges f_blows f_delays i_keptMany = some o := hf
      generalize mX11_lay_L115 i_length f_text  n = k115 at ih hf
      unfold mX11_lay_B115 at hf
      refine lv_iload_n hx hb dX11_lay_115 rfl (lv_at hl 1 rfl) ?_
      refine lv_bipush (v := (56 : Int32)) hx hb dX11_lay_116 (by decide) ?_
      refine lv_icmp_ge (tgt := 142) hx hb dX11_lay_118 (by decide) (fun c15 => ?_) (fun c15 => ?_)
      · have hf := xt hf c15
        refine lv_iconst (v := (0 : Int32)) hx hb dX11_lay_142 (by decide) ?_
        refine lv_istore_n (lv' := [(1, .int (0 : Int32)), (0, .ref a_this)]) hx hb dX11_lay_143 rfl hl (by decide) rfl (fun ls hl => ?_)
        exact hL144  FUEL (0 : Int32) f_roundMany f_blowMany f_judgeMany f_homes f_noises f_forwards f_downs f_takens i_place f_told f_judges f_blows f_delays i_keptMany  H _ ls hP  hS (lv_sub hl [1, 0] rfl) hf
      · have hf := xf hf c15
        refine lv_aload_n hx hb dX11_lay_121 rfl (lv_at hl 0 rfl) ?_
        refine va_get (D := X.1) (ci := 11) (v := .ref a_judges) (C := RX11) (T := TX11) (N := 24) hx hb hts in11 hown hG.1 hP 0 rfl rfl 11 (by decide) w7 (fun _ h9 => h9) rfl dX11_lay_122 ?_
        refine lv_iload_n hx hb dX11_lay_125 rfl (lv_at hl 1 rfl) ?_
        refine lv_aload_n hx hb dX11_lay_126 rfl (lv_at hl 0 rfl) ?_
        refine va_get (D := X.1) (ci := 11) (v := .ref a_judges) (C := RX11) (T := TX11) (N := 24) hx hb hts in11 hown hG.1 hP 0 rfl rfl 11 (by decide) w7 (fun _ h9 => h9) rfl dX11_lay_127 ?_
        refine lv_bipush (v := (56 : Int32)) hx hb dX11_lay_130 (by decide) ?_
        refine lv_iload_n hx hb dX11_lay_132 rfl (lv_at hl 1 rfl) ?_
        refine lv_iadd hx hb dX11_lay_133 ?_
        obtain ⟨h16, hf⟩ := gi_s hf
        refine va_iald (D := X.1) hx hb hG.1 hP 8 0 rfl rfl h16 dX11_lay_134 ?_
        obtain ⟨h17, hf⟩ := gi_s hf
        obtain ⟨g18, eg18, hf⟩ := lb_g hf
        refine x_iast (ws' := [(a_this, .inr (11, [.int i_length, .ref a_text, .ref a_roundMany, .ref a_blowMany, .ref a_blows, .ref a_forwards, .ref a_downs, .ref a_takens, .ref a_homes, .ref a_noises, .ref a_judgeMany, .ref a_judges, .ref a_delays, .ref a_tolds, .ref a_tens, .int i_keptMany, .int i_place, .ref a_told, .ref a_ways, .ref a_nextWays, .ref a_tallies, .ref a_presses, .ref a_values, .ref a_nextValues])), (a_blowMany, .inl (X.2.1 0, 2, .inl f_blowMany)), (a_blows, .inl (X.2.1 0, 400, .inl f_blows)), (a_delays, .inl (X.2.1 0, 24, .inl f_delays)), (a_downs, .inl (X.2.1 0, 48, .inl f_downs)), (a_forwards, .inl (X.2.1 0, 48, .inl f_forwards)), (a_homes, .inl (X.2.1 0, 2, .inl f_homes)), (a_judgeMany, .inl (X.2.1 0, 2, .inl f_judgeMany)), (a_judges, .inl (X.2.1 0, 112, .inl g18)), (a_noises, .inl (X.2.1 0, 2, .inl f_noises)), (a_roundMany, .inl (X.2.1 0, 2, .inl f_roundMany)), (a_takens, .inl (X.2.1 0, 48, .inl f_takens)), (a_text, .inl (X.2.1 0, 500, .inl f_text)), (a_told, .inl (X.2.1 0, 7, .inl f_told))]) hx hb hG hP hD rfl hS 8 rfl h17 dX11_lay_135 eg18 rfl (fun H locs hP hS => ?_)
        obtain ⟨v19, ev19, hf⟩ := lb_g hf
        refine lv_iinc (v := v19) (lv' := [(1, .int v19), (0, .ref a_this)]) hx hb dX11_lay_136 hl (k := 1) rfl ev19.symm (by decide) rfl (fun ls hl => ?_)
        refine lv_goto (tgt := 115) hx hb dX11_lay_139 (by decide) ?_
        exact ih v19 f_roundMany f_blowMany f_judgeMany f_homes f_noises f_forwards f_downs f_takens i_place f_told g18 f_blows f_delays i_keptMany  H _ ls hP  hS (lv_sub hl [1, 0] rfl) hf
  have hL84 : ∀ (n : Nat) (l1 : Int32) (f_roundMany : Nat → Int32) (f_blowMany : Nat → Int32) (f_judgeMany : Nat → Int32) (f_homes : Nat → Int32) (f_noises : Nat → Int32) (f_forwards : Nat → Int32) (f_downs : Nat → Int32) (f_takens : Nat → Int32) (i_place : Int32) (f_told : Nat → Int32) (f_judges : Nat → Int32) (f_blows : Nat → Int32) (f_delays : Nat → Int32) (i_keptMany : Int32)  (H : Heap) (locs : List Loc) (ls : Array Slot), va_P X.1 vwCl [(a_this, .inr (11, [.int i_length, .ref a_text, .ref a_roundMany, .ref a_blowMany, .ref a_blows, .ref a_forwards, .ref a_downs, .ref a_takens, .ref a_homes, .ref a_noises, .ref a_judgeMany, .ref a_judges, .ref a_delays, .ref a_tolds, .ref a_tens, .int i_keptMany, .int i_place, .ref a_told, .ref a_ways, .ref a_nextWays, .ref a_tallies, .ref a_presses, .ref a_values, .ref a_nextValues])), (a_blowMany, .inl (X.2.1 0, 2, .inl f_blowMany)), (a_blows, .inl (X.2.1 0, 400, .inl f_blows)), (a_delays, .inl (X.2.1 0, 24, .inl f_delays)), (a_downs, .inl (X.2.1 0, 48, .inl f_downs)), (a_forwards, .inl (X.2.1 0, 48, .inl f_forwards)), (a_homes, .inl (X.2.1 0, 2, .inl f_homes)), (a_judgeMany, .inl (X.2.1 0, 2, .inl f_judgeMany)), (a_judges, .inl (X.2.1 0, 112, .inl f_judges)), (a_noises, .inl (X.2.1 0, 2, .inl f_noises)), (a_roundMany, .inl (X.2.1 0, 2, .inl f_roundMany)), (a_takens, .inl (X.2.1 0, 48, .inl f_takens)), (a_text, .inl (X.2.1 0, 500, .inl f_text)), (a_told, .inl (X.2.1 0, 7, .inl f_told))] H → va_S A s.heap H locs → lv_has ls 2 [(0, .ref a_this), (1, .int l1)] → mX11_lay_L84 i_length f_text  n l1 f_roundMany f_blowMany f_judgeMany f_homes f_noises f_forwards f_downs f_takens i_place f_told f_judges f_blows f_delays i_keptMany = some o → W p l e rmX11_lay s m ([.ref a_this] : List Value).toArray below meth c H locs 0 0 Q (F0 m 84 ls []) := by
    intro n
    induction n with
    | zero => intro l1 f_roundMany f_blowMany f_judgeMany f_homes f_noises f_forwards f_downs f_takens i_place f_told f_judges f_blows f_delays i_keptMany  H locs ls hP hS hl hf; exact xn hf
    | succ n ih =>
      intro l1 f_roundMany f_blowMany f_judgeMany f_homes f_noises f_forwards f_downs f_takens i_place f_told f_judges f_blows f_delays i_keptMany  H locs ls hP hS hl hf
      have hf : mX11_lay_B84 i_length f_text  (mX11_lay_L84 i_length f_text  n) l1 f_roundMany f_blowMany f_judgeMany f_homes f_noises f_forwards f_downs f_takens i_place f_told f_judges f_blows f_delays i_keptMany = some o := hf
      generalize mX11_lay_L84 i_length f_text  n = k84 at ih hf
      unfold mX11_lay_B84 at hf
      refine lv_iload_n hx hb dX11_lay_84 rfl (lv_at hl 1 rfl) ?_
      refine lv_sipush (v := (200 : Int32)) hx hb dX11_lay_85 (by decide) ?_
      refine lv_icmp_ge (tgt := 113) hx hb dX11_lay_88 (by decide) (fun c10 => ?_) (fun c10 => ?_)
      · have hf := xt hf c10
        refine lv_iconst (v := (0 : Int32)) hx hb dX11_lay_113 (by decide) ?_
        refine lv_istore_n (lv' := [(1, .int (0 : Int32)), (0, .ref a_this)]) hx hb dX11_lay_114 rfl hl (by decide) rfl (fun ls hl => ?_)
        exact hL115  FUEL (0 : Int32) f_roundMany f_blowMany f_judgeMany f_homes f_noises f_forwards f_downs f_takens i_place f_told f_judges f_blows f_delays i_keptMany  H _ ls hP  hS (lv_sub hl [1, 0] rfl) hf
      · have hf := xf hf c10
        refine lv_aload_n hx hb dX11_lay_91 rfl (lv_at hl 0 rfl) ?_
        refine va_get (D := X.1) (ci := 11) (v := .ref a_blows) (C := RX11) (T := TX11) (N := 24) hx hb hts in11 hown hG.1 hP 0 rfl rfl 4 (by decide) w6 (fun _ h9 => h9) rfl dX11_lay_92 ?_
        refine lv_iload_n hx hb dX11_lay_95 rfl (lv_at hl 1 rfl) ?_
        refine lv_aload_n hx hb dX11_lay_96 rfl (lv_at hl 0 rfl) ?_
        refine va_get (D := X.1) (ci := 11) (v := .ref a_blows) (C := RX11) (T := TX11) (N := 24) hx hb hts in11 hown hG.1 hP 0 rfl rfl 4 (by decide) w6 (fun _ h9 => h9) rfl dX11_lay_97 ?_
        refine lv_sipush (v := (200 : Int32)) hx hb dX11_lay_100 (by decide) ?_
        refine lv_iload_n hx hb dX11_lay_103 rfl (lv_at hl 1 rfl) ?_
        refine lv_iadd hx hb dX11_lay_104 ?_
        obtain ⟨h11, hf⟩ := gi_s hf
        refine va_iald (D := X.1) hx hb hG.1 hP 2 0 rfl rfl h11 dX11_lay_105 ?_
        obtain ⟨h12, hf⟩ := gi_s hf
        obtain ⟨g13, eg13, hf⟩ := lb_g hf
        refine x_iast (ws' := [(a_this, .inr (11, [.int i_length, .ref a_text, .ref a_roundMany, .ref a_blowMany, .ref a_blows, .ref a_forwards, .ref a_downs, .ref a_takens, .ref a_homes, .ref a_noises, .ref a_judgeMany, .ref a_judges, .ref a_delays, .ref a_tolds, .ref a_tens, .int i_keptMany, .int i_place, .ref a_told, .ref a_ways, .ref a_nextWays, .ref a_tallies, .ref a_presses, .ref a_values, .ref a_nextValues])), (a_blowMany, .inl (X.2.1 0, 2, .inl f_blowMany)), (a_blows, .inl (X.2.1 0, 400, .inl g13)), (a_delays, .inl (X.2.1 0, 24, .inl f_delays)), (a_downs, .inl (X.2.1 0, 48, .inl f_downs)), (a_forwards, .inl (X.2.1 0, 48, .inl f_forwards)), (a_homes, .inl (X.2.1 0, 2, .inl f_homes)), (a_judgeMany, .inl (X.2.1 0, 2, .inl f_judgeMany)), (a_judges, .inl (X.2.1 0, 112, .inl f_judges)), (a_noises, .inl (X.2.1 0, 2, .inl f_noises)), (a_roundMany, .inl (X.2.1 0, 2, .inl f_roundMany)), (a_takens, .inl (X.2.1 0, 48, .inl f_takens)), (a_text, .inl (X.2.1 0, 500, .inl f_text)), (a_told, .inl (X.2.1 0, 7, .inl f_told))]) hx hb hG hP hD rfl hS 2 rfl h12 dX11_lay_106 eg13 rfl (fun H locs hP hS => ?_)
        obtain ⟨v14, ev14, hf⟩ := lb_g hf
        refine lv_iinc (v := v14) (lv' := [(1, .int v14), (0, .ref a_this)]) hx hb dX11_lay_107 hl (k := 1) rfl ev14.symm (by decide) rfl (fun ls hl => ?_)
        refine lv_goto (tgt := 84) hx hb dX11_lay_110 (by decide) ?_
        exact ih v14 f_roundMany f_blowMany f_judgeMany f_homes f_noises f_forwards f_downs f_takens i_place f_told f_judges g13 f_delays i_keptMany  H _ ls hP  hS (lv_sub hl [1, 0] rfl) hf
  unfold mX11_lay at hf
  refine lv_aload_n hx hb dX11_lay_0 rfl (lv_at hl 0 rfl) ?_
  obtain ⟨o1, ho1, hf⟩ := ob_s hf
  refine xV_i (As := []) (b := a_this) (rest := []) (ws2 := [(a_this, .inr (11, [.int i_length, .ref a_text, .ref a_roundMany, .ref a_blowMany, .ref a_blows, .ref a_forwards, .ref a_downs, .ref a_takens, .ref a_homes, .ref a_noises, .ref a_judgeMany, .ref a_judges, .ref a_delays, .ref a_tolds, .ref a_tens, .int i_keptMany, .int o1.2.2.2.2.2.2.2.2.2.1, .ref a_told, .ref a_ways, .ref a_nextWays, .ref a_tallies, .ref a_presses, .ref a_values, .ref a_nextValues])), (a_blowMany, .inl (X.2.1 0, 2, .inl o1.2.2.1)), (a_blows, .inl (X.2.1 0, 400, .inl o1.2.2.2.2.2.2.2.2.2.2.2.2)), (a_delays, .inl (X.2.1 0, 24, .inl f_delays)), (a_downs, .inl (X.2.1 0, 48, .inl o1.2.2.2.2.2.2.2.1)), (a_forwards, .inl (X.2.1 0, 48, .inl o1.2.2.2.2.2.2.1)), (a_homes, .inl (X.2.1 0, 2, .inl o1.2.2.2.2.1)), (a_judgeMany, .inl (X.2.1 0, 2, .inl o1.2.2.2.1)), (a_judges, .inl (X.2.1 0, 112, .inl o1.2.2.2.2.2.2.2.2.2.2.2.1)), (a_noises, .inl (X.2.1 0, 2, .inl o1.2.2.2.2.2.1)), (a_roundMany, .inl (X.2.1 0, 2, .inl o1.2.1)), (a_takens, .inl (X.2.1 0, 48, .inl o1.2.2.2.2.2.2.2.2.1)), (a_text, .inl (X.2.1 0, 500, .inl f_text)), (a_told, .inl (X.2.1 0, 7, .inl o1.2.2.2.2.2.2.2.2.2.2.1))]) hx hb hml hts hown hG hA hP hD rfl hS hl.1 (qX11_readAll l X a_this a_blowMany a_blows a_downs a_forwards a_homes a_judgeMany a_judges a_noises a_roundMany a_takens a_text a_told a_delays a_tolds a_tens a_ways a_nextWays a_tallies a_presses a_values a_nextValues i_length i_keptMany i_place f_blowMany f_blows f_downs f_forwards f_homes f_judgeMany f_judges f_noises f_roundMany f_takens f_text f_told o1 ho1) (cwV (y := yX11_readAll) 0 hts gX11_lay_X11_readAll rfl rfl rfl hdvX11_readAll ⟨Nat.le_of_ble_eq_true rfl, Nat.le_of_ble_eq_true rfl⟩) [0, 1, 2, 4, 5, 6, 7, 8, 9, 10, 11, 12, 13] [3] [1, 2, 3, 0, 4, 5, 6, 7, 8, 9, 10, 11, 12, 13] rfl rfl rfl rfl rfl rfl rfl (ci := 11) rfl 0 rfl rfl rfl (Nat.le_of_ble_eq_true rfl) ⟨Nat.le_of_ble_eq_true rfl, Nat.le_of_ble_eq_true rfl⟩ dX11_lay_1 (fun H locs hP _ hS => ?_)
  refine lv_bipush (v := (-4 : Int32)) hx hb dX11_lay_4 (by decide) ?_
  refine lv_icmp_ne (tgt := 19) hx hb dX11_lay_6 (by decide) (fun c3 => ?_) (fun c3 => ?_)
  · have hf := xf hf c3
    refine lv_bipush (v := (-2 : Int32)) hx hb dX11_lay_19 (by decide) ?_
    obtain rfl := Option.some.inj hf
    exact ret H _ ls _ rfl hP hD hS dX11_lay_21
  · have hf := xt hf c3
    refine lv_aload_n hx hb dX11_lay_9 rfl (lv_at hl 0 rfl) ?_
    refine va_get (D := X.1) (ci := 11) (v := .ref a_judgeMany) (C := RX11) (T := TX11) (N := 24) hx hb hts in11 hown hG.1 hP 0 rfl rfl 10 (by decide) w1 (fun _ h9 => h9) rfl dX11_lay_10 ?_
    refine lv_iconst (v := (1 : Int32)) hx hb dX11_lay_13 (by decide) ?_
    refine va_iald (D := X.1) hx hb hG.1 hP 7 0 rfl rfl (vp_lit (by decide)) dX11_lay_14 ?_
    refine lv_iconst (v := (3 : Int32)) hx hb dX11_lay_15 (by decide) ?_
    refine lv_icmp_ge (tgt := 22) hx hb dX11_lay_16 (by decide) (fun c4 => ?_) (fun c4 => ?_)
    · have hf := xt hf c4
      refine lv_aload_n hx hb dX11_lay_22 rfl (lv_at hl 0 rfl) ?_
      refine va_get (D := X.1) (ci := 11) (v := .ref a_roundMany) (C := RX11) (T := TX11) (N := 24) hx hb hts in11 hown hG.1 hP 0 rfl rfl 2 (by decide) w2 (fun _ h9 => h9) rfl dX11_lay_23 ?_
      refine lv_iconst (v := (0 : Int32)) hx hb dX11_lay_26 (by decide) ?_
      refine lv_aload_n hx hb dX11_lay_27 rfl (lv_at hl 0 rfl) ?_
      refine va_get (D := X.1) (ci := 11) (v := .ref a_roundMany) (C := RX11) (T := TX11) (N := 24) hx hb hts in11 hown hG.1 hP 0 rfl rfl 2 (by decide) w2 (fun _ h9 => h9) rfl dX11_lay_28 ?_
      refine lv_iconst (v := (1 : Int32)) hx hb dX11_lay_31 (by decide) ?_
      refine va_iald (D := X.1) hx hb hG.1 hP 10 0 rfl rfl (vp_lit (by decide)) dX11_lay_32 ?_
      obtain ⟨g5, eg5, hf⟩ := lb_g hf
      refine x_iast (ws' := [(a_this, .inr (11, [.int i_length, .ref a_text, .ref a_roundMany, .ref a_blowMany, .ref a_blows, .ref a_forwards, .ref a_downs, .ref a_takens, .ref a_homes, .ref a_noises, .ref a_judgeMany, .ref a_judges, .ref a_delays, .ref a_tolds, .ref a_tens, .int i_keptMany, .int o1.2.2.2.2.2.2.2.2.2.1, .ref a_told, .ref a_ways, .ref a_nextWays, .ref a_tallies, .ref a_presses, .ref a_values, .ref a_nextValues])), (a_blowMany, .inl (X.2.1 0, 2, .inl o1.2.2.1)), (a_blows, .inl (X.2.1 0, 400, .inl o1.2.2.2.2.2.2.2.2.2.2.2.2)), (a_delays, .inl (X.2.1 0, 24, .inl f_delays)), (a_downs, .inl (X.2.1 0, 48, .inl o1.2.2.2.2.2.2.2.1)), (a_forwards, .inl (X.2.1 0, 48, .inl o1.2.2.2.2.2.2.1)), (a_homes, .inl (X.2.1 0, 2, .inl o1.2.2.2.2.1)), (a_judgeMany, .inl (X.2.1 0, 2, .inl o1.2.2.2.1)), (a_judges, .inl (X.2.1 0, 112, .inl o1.2.2.2.2.2.2.2.2.2.2.2.1)), (a_noises, .inl (X.2.1 0, 2, .inl o1.2.2.2.2.2.1)), (a_roundMany, .inl (X.2.1 0, 2, .inl g5)), (a_takens, .inl (X.2.1 0, 48, .inl o1.2.2.2.2.2.2.2.2.1)), (a_text, .inl (X.2.1 0, 500, .inl f_text)), (a_told, .inl (X.2.1 0, 7, .inl o1.2.2.2.2.2.2.2.2.2.2.1))]) hx hb hG hP hD rfl hS 10 rfl (vp_lit (by decide)) dX11_lay_33 eg5 rfl (fun H locs hP hS => ?_)
      refine lv_aload_n hx hb dX11_lay_34 rfl (lv_at hl 0 rfl) ?_
      refine va_get (D := X.1) (ci := 11) (v := .ref a_blowMany) (C := RX11) (T := TX11) (N := 24) hx hb hts in11 hown hG.1 hP 0 rfl rfl 3 (by decide) w3 (fun _ h9 => h9) rfl dX11_lay_35 ?_
      refine lv_iconst (v := (0 : Int32)) hx hb dX11_lay_38 (by decide) ?_
      refine lv_aload_n hx hb dX11_lay_39 rfl (lv_at hl 0 rfl) ?_
      refine va_get (D := X.1) (ci := 11) (v := .ref a_blowMany) (C := RX11) (T := TX11) (N := 24) hx hb hts in11 hown hG.1 hP 0 rfl rfl 3 (by decide) w3 (fun _ h9 => h9) rfl dX11_lay_40 ?_
      refine lv_iconst (v := (1 : Int32)) hx hb dX11_lay_43 (by decide) ?_
      refine va_iald (D := X.1) hx hb hG.1 hP 1 0 rfl rfl (vp_lit (by decide)) dX11_lay_44 ?_
      obtain ⟨g6, eg6, hf⟩ := lb_g hf
      refine x_iast (ws' := [(a_this, .inr (11, [.int i_length, .ref a_text, .ref a_roundMany, .ref a_blowMany, .ref a_blows, .ref a_forwards, .ref a_downs, .ref a_takens, .ref a_homes, .ref a_noises, .ref a_judgeMany, .ref a_judges, .ref a_delays, .ref a_tolds, .ref a_tens, .int i_keptMany, .int o1.2.2.2.2.2.2.2.2.2.1, .ref a_told, .ref a_ways, .ref a_nextWays, .ref a_tallies, .ref a_presses, .ref a_values, .ref a_nextValues])), (a_blowMany, .inl (X.2.1 0, 2, .inl g6)), (a_blows, .inl (X.2.1 0, 400, .inl o1.2.2.2.2.2.2.2.2.2.2.2.2)), (a_delays, .inl (X.2.1 0, 24, .inl f_delays)), (a_downs, .inl (X.2.1 0, 48, .inl o1.2.2.2.2.2.2.2.1)), (a_forwards, .inl (X.2.1 0, 48, .inl o1.2.2.2.2.2.2.1)), (a_homes, .inl (X.2.1 0, 2, .inl o1.2.2.2.2.1)), (a_judgeMany, .inl (X.2.1 0, 2, .inl o1.2.2.2.1)), (a_judges, .inl (X.2.1 0, 112, .inl o1.2.2.2.2.2.2.2.2.2.2.2.1)), (a_noises, .inl (X.2.1 0, 2, .inl o1.2.2.2.2.2.1)), (a_roundMany, .inl (X.2.1 0, 2, .inl g5)), (a_takens, .inl (X.2.1 0, 48, .inl o1.2.2.2.2.2.2.2.2.1)), (a_text, .inl (X.2.1 0, 500, .inl f_text)), (a_told, .inl (X.2.1 0, 7, .inl o1.2.2.2.2.2.2.2.2.2.2.1))]) hx hb hG hP hD rfl hS 1 rfl (vp_lit (by decide)) dX11_lay_45 eg6 rfl (fun H locs hP hS => ?_)
      refine lv_aload_n hx hb dX11_lay_46 rfl (lv_at hl 0 rfl) ?_
      refine va_get (D := X.1) (ci := 11) (v := .ref a_judgeMany) (C := RX11) (T := TX11) (N := 24) hx hb hts in11 hown hG.1 hP 0 rfl rfl 10 (by decide) w1 (fun _ h9 => h9) rfl dX11_lay_47 ?_
      refine lv_iconst (v := (0 : Int32)) hx hb dX11_lay_50 (by decide) ?_
      refine lv_aload_n hx hb dX11_lay_51 rfl (lv_at hl 0 rfl) ?_
      refine va_get (D := X.1) (ci := 11) (v := .ref a_judgeMany) (C := RX11) (T := TX11) (N := 24) hx hb hts in11 hown hG.1 hP 0 rfl rfl 10 (by decide) w1 (fun _ h9 => h9) rfl dX11_lay_52 ?_
      refine lv_iconst (v := (1 : Int32)) hx hb dX11_lay_55 (by decide) ?_
      refine va_iald (D := X.1) hx hb hG.1 hP 7 0 rfl rfl (vp_lit (by decide)) dX11_lay_56 ?_
      obtain ⟨g7, eg7, hf⟩ := lb_g hf
      refine x_iast (ws' := [(a_this, .inr (11, [.int i_length, .ref a_text, .ref a_roundMany, .ref a_blowMany, .ref a_blows, .ref a_forwards, .ref a_downs, .ref a_takens, .ref a_homes, .ref a_noises, .ref a_judgeMany, .ref a_judges, .ref a_delays, .ref a_tolds, .ref a_tens, .int i_keptMany, .int o1.2.2.2.2.2.2.2.2.2.1, .ref a_told, .ref a_ways, .ref a_nextWays, .ref a_tallies, .ref a_presses, .ref a_values, .ref a_nextValues])), (a_blowMany, .inl (X.2.1 0, 2, .inl g6)), (a_blows, .inl (X.2.1 0, 400, .inl o1.2.2.2.2.2.2.2.2.2.2.2.2)), (a_delays, .inl (X.2.1 0, 24, .inl f_delays)), (a_downs, .inl (X.2.1 0, 48, .inl o1.2.2.2.2.2.2.2.1)), (a_forwards, .inl (X.2.1 0, 48, .inl o1.2.2.2.2.2.2.1)), (a_homes, .inl (X.2.1 0, 2, .inl o1.2.2.2.2.1)), (a_judgeMany, .inl (X.2.1 0, 2, .inl g7)), (a_judges, .inl (X.2.1 0, 112, .inl o1.2.2.2.2.2.2.2.2.2.2.2.1)), (a_noises, .inl (X.2.1 0, 2, .inl o1.2.2.2.2.2.1)), (a_roundMany, .inl (X.2.1 0, 2, .inl g5)), (a_takens, .inl (X.2.1 0, 48, .inl o1.2.2.2.2.2.2.2.2.1)), (a_text, .inl (X.2.1 0, 500, .inl f_text)), (a_told, .inl (X.2.1 0, 7, .inl o1.2.2.2.2.2.2.2.2.2.2.1))]) hx hb hG hP hD rfl hS 7 rfl (vp_lit (by decide)) dX11_lay_57 eg7 rfl (fun H locs hP hS => ?_)
      refine lv_aload_n hx hb dX11_lay_58 rfl (lv_at hl 0 rfl) ?_
      refine va_get (D := X.1) (ci := 11) (v := .ref a_homes) (C := RX11) (T := TX11) (N := 24) hx hb hts in11 hown hG.1 hP 0 rfl rfl 8 (by decide) w4 (fun _ h9 => h9) rfl dX11_lay_59 ?_
      refine lv_iconst (v := (0 : Int32)) hx hb dX11_lay_62 (by decide) ?_
      refine lv_aload_n hx hb dX11_lay_63 rfl (lv_at hl 0 rfl) ?_
      refine va_get (D := X.1) (ci := 11) (v := .ref a_homes) (C := RX11) (T := TX11) (N := 24) hx hb hts in11 hown hG.1 hP 0 rfl rfl 8 (by decide) w4 (fun _ h9 => h9) rfl dX11_lay_64 ?_
      refine lv_iconst (v := (1 : Int32)) hx hb dX11_lay_67 (by decide) ?_
      refine va_iald (D := X.1) hx hb hG.1 hP 6 0 rfl rfl (vp_lit (by decide)) dX11_lay_68 ?_
      obtain ⟨g8, eg8, hf⟩ := lb_g hf
      refine x_iast (ws' := [(a_this, .inr (11, [.int i_length, .ref a_text, .ref a_roundMany, .ref a_blowMany, .ref a_blows, .ref a_forwards, .ref a_downs, .ref a_takens, .ref a_homes, .ref a_noises, .ref a_judgeMany, .ref a_judges, .ref a_delays, .ref a_tolds, .ref a_tens, .int i_keptMany, .int o1.2.2.2.2.2.2.2.2.2.1, .ref a_told, .ref a_ways, .ref a_nextWays, .ref a_tallies, .ref a_presses, .ref a_values, .ref a_nextValues])), (a_blowMany, .inl (X.2.1 0, 2, .inl g6)), (a_blows, .inl (X.2.1 0, 400, .inl o1.2.2.2.2.2.2.2.2.2.2.2.2)), (a_delays, .inl (X.2.1 0, 24, .inl f_delays)), (a_downs, .inl (X.2.1 0, 48, .inl o1.2.2.2.2.2.2.2.1)), (a_forwards, .inl (X.2.1 0, 48, .inl o1.2.2.2.2.2.2.1)), (a_homes, .inl (X.2.1 0, 2, .inl g8)), (a_judgeMany, .inl (X.2.1 0, 2, .inl g7)), (a_judges, .inl (X.2.1 0, 112, .inl o1.2.2.2.2.2.2.2.2.2.2.2.1)), (a_noises, .inl (X.2.1 0, 2, .inl o1.2.2.2.2.2.1)), (a_roundMany, .inl (X.2.1 0, 2, .inl g5)), (a_takens, .inl (X.2.1 0, 48, .inl o1.2.2.2.2.2.2.2.2.1)), (a_text, .inl (X.2.1 0, 500, .inl f_text)), (a_told, .inl (X.2.1 0, 7, .inl o1.2.2.2.2.2.2.2.2.2.2.1))]) hx hb hG hP hD rfl hS 6 rfl (vp_lit (by decide)) dX11_lay_69 eg8 rfl (fun H locs hP hS => ?_)
      refine lv_aload_n hx hb dX11_lay_70 rfl (lv_at hl 0 rfl) ?_
      refine va_get (D := X.1) (ci := 11) (v := .ref a_noises) (C := RX11) (T := TX11) (N := 24) hx hb hts in11 hown hG.1 hP 0 rfl rfl 9 (by decide) w5 (fun _ h9 => h9) rfl dX11_lay_71 ?_
      refine lv_iconst (v := (0 : Int32)) hx hb dX11_lay_74 (by decide) ?_
      refine lv_aload_n hx hb dX11_lay_75 rfl (lv_at hl 0 rfl) ?_
      refine va_get (D := X.1) (ci := 11) (v := .ref a_noises) (C := RX11) (T := TX11) (N := 24) hx hb hts in11 hown hG.1 hP 0 rfl rfl 9 (by decide) w5 (fun _ h9 => h9) rfl dX11_lay_76 ?_
      refine lv_iconst (v := (1 : Int32)) hx hb dX11_lay_79 (by decide) ?_
      refine va_iald (D := X.1) hx hb hG.1 hP 9 0 rfl rfl (vp_lit (by decide)) dX11_lay_80 ?_
      obtain ⟨g9, eg9, hf⟩ := lb_g hf
      refine x_iast (ws' := [(a_this, .inr (11, [.int i_length, .ref a_text, .ref a_roundMany, .ref a_blowMany, .ref a_blows, .ref a_forwards, .ref a_downs, .ref a_takens, .ref a_homes, .ref a_noises, .ref a_judgeMany, .ref a_judges, .ref a_delays, .ref a_tolds, .ref a_tens, .int i_keptMany, .int o1.2.2.2.2.2.2.2.2.2.1, .ref a_told, .ref a_ways, .ref a_nextWays, .ref a_tallies, .ref a_presses, .ref a_values, .ref a_nextValues])), (a_blowMany, .inl (X.2.1 0, 2, .inl g6)), (a_blows, .inl (X.2.1 0, 400, .inl o1.2.2.2.2.2.2.2.2.2.2.2.2)), (a_delays, .inl (X.2.1 0, 24, .inl f_delays)), (a_downs, .inl (X.2.1 0, 48, .inl o1.2.2.2.2.2.2.2.1)), (a_forwards, .inl (X.2.1 0, 48, .inl o1.2.2.2.2.2.2.1)), (a_homes, .inl (X.2.1 0, 2, .inl g8)), (a_judgeMany, .inl (X.2.1 0, 2, .inl g7)), (a_judges, .inl (X.2.1 0, 112, .inl o1.2.2.2.2.2.2.2.2.2.2.2.1)), (a_noises, .inl (X.2.1 0, 2, .inl g9)), (a_roundMany, .inl (X.2.1 0, 2, .inl g5)), (a_takens, .inl (X.2.1 0, 48, .inl o1.2.2.2.2.2.2.2.2.1)), (a_text, .inl (X.2.1 0, 500, .inl f_text)), (a_told, .inl (X.2.1 0, 7, .inl o1.2.2.2.2.2.2.2.2.2.2.1))]) hx hb hG hP hD rfl hS 9 rfl (vp_lit (by decide)) dX11_lay_81 eg9 rfl (fun H locs hP hS => ?_)
      refine lv_iconst (v := (0 : Int32)) hx hb dX11_lay_82 (by decide) ?_
      refine lv_istore_n (lv' := [(1, .int (0 : Int32)), (0, .ref a_this)]) hx hb dX11_lay_83 rfl hl (by decide) rfl (fun ls hl => ?_)
      exact hL84  FUEL (0 : Int32) g5 g6 g7 g8 g9 o1.2.2.2.2.2.2.1 o1.2.2.2.2.2.2.2.1 o1.2.2.2.2.2.2.2.2.1 o1.2.2.2.2.2.2.2.2.2.1 o1.2.2.2.2.2.2.2.2.2.2.1 o1.2.2.2.2.2.2.2.2.2.2.2.1 o1.2.2.2.2.2.2.2.2.2.2.2.2 f_delays i_keptMany  H _ ls hP  hS (lv_sub hl [1, 0] rfl) hf
    · have hf := xf hf c4
      refine lv_bipush (v := (-2 : Int32)) hx hb dX11_lay_19 (by decide) ?_
      obtain rfl := Option.some.inj hf
      exact ret H _ ls _ rfl hP hD hS dX11_lay_21
def mX11_isJudge (x0 : Int32) (f_judgeMany : Nat → Int32) :
  Option (Int32) :=
  (mX11_in (Int32.toInt64 x0) (0 : Int64) (Int32.toInt64 ((f_judgeMany (0 : Int32).toNatClampNeg) - (1 : Int32)))).bind fun o1 =>
  gz o1 <|
  some o1
theorem hdsX11_isJudge : yX11_isJudge.cls ≠ "java/lang/invoke/MethodHandle" ∧ yX11_isJudge.cls ≠ "java/lang/invoke/VarHandle" ∧ (parseMethodDescriptor yX11_isJudge.desc).map (fun d => d.parameters.length) = some 1 := by decide +kernel
theorem hdvX11_isJudge : yX11_isJudge.cls = RX11 ∧ yX11_isJudge.cls ≠ "java/lang/invoke/MethodHandle" ∧ yX11_isJudge.cls ≠ "java/lang/invoke/VarHandle" ∧ (parseMethodDescriptor yX11_isJudge.desc).map (fun d => d.parameters.length) = some 1 := by decide +kernel
abbrev rmX11_isJudge : Room := { frames := 1, cells := 0, slots := 0, locals := 25 }
set_option maxHeartbeats 4000000 in
set_option maxRecDepth 100000 in
theorem qX11_isJudge (l : Launch) (X : XT) (a_this : Nat) (a_judgeMany : Nat) (a_text : Nat) (a_roundMany : Nat) (a_blowMany : Nat) (a_blows : Nat) (a_forwards : Nat) (a_downs : Nat) (a_takens : Nat) (a_homes : Nat) (a_noises : Nat) (a_judges : Nat) (a_delays : Nat) (a_tolds : Nat) (a_tens : Nat) (a_told : Nat) (a_ways : Nat) (a_nextWays : Nat) (a_tallies : Nat) (a_presses : Nat) (a_values : Nat) (a_nextValues : Nat)  (i_length : Int32) (i_keptMany : Int32) (i_place : Int32) (f_judgeMany : Nat → Int32) (x0 : Int32) (o : Int32) (hf : mX11_isJudge x0 f_judgeMany = some o) :
    MI l yX11_isJudge wsX11_isJudge rmX11_isJudge X [.ref a_this, .int x0] [(a_this, .inr (11, [.int i_length, .ref a_text, .ref a_roundMany, .ref a_blowMany, .ref a_blows, .ref a_forwards, .ref a_downs, .ref a_takens, .ref a_homes, .ref a_noises, .ref a_judgeMany, .ref a_judges, .ref a_delays, .ref a_tolds, .ref a_tens, .int i_keptMany, .int i_place, .ref a_told, .ref a_ways, .ref a_nextWays, .ref a_tallies, .ref a_presses, .ref a_values, .ref a_nextValues])), (a_judgeMany, .inl (X.2.1 0, 2, .inl f_judgeMany))]  [(a_this, .inr (11, [.int i_length, .ref a_text, .ref a_roundMany, .ref a_blowMany, .ref a_blows, .ref a_forwards, .ref a_downs, .ref a_takens, .ref a_homes, .ref a_noises, .ref a_judgeMany, .ref a_judges, .ref a_delays, .ref a_tolds, .ref a_tens, .int i_keptMany, .int i_place, .ref a_told, .ref a_ways, .ref a_nextWays, .ref a_tallies, .ref a_presses, .ref a_values, .ref a_nextValues])), (a_judgeMany, .inl (X.2.1 0, 2, .inl f_judgeMany))] o := by
  refine MI_ofH (cc := cX11_isJudge) (maxL := 2) (rt := .boolean) (by decide) rfl (Nat.le_of_ble_eq_true rfl) ?_
  intro p e s m below meth c A Q H ls hx hb hml hts hown hA hD hG hP hS hl ret
  have hown : s.vm.findClass RX11 = some m.cls := hown
  have hD : aD A [a_this, a_judgeMany] := hD
  have hl : lv_has ls 2 [(0, .ref a_this), (1, .int x0)] := hl
  have w1 := hts (.fieldLink RX11 37 "ThreeCardsModel" "judgeMany" "[I") (List.mem_of_getElem? (i := 1) rfl)
  have in11 : ∀ w ∈ u_ws RX11 TX11 24, w ∈ wsX11_isJudge := by decide +kernel
  unfold mX11_isJudge at hf
  refine lv_iload_n hx hb dX11_isJudge_0 rfl (lv_at hl 1 rfl) ?_
  refine lv_i2l hx hb dX11_isJudge_1 rfl ?_
  refine lv_lconst (v := (0 : Int64)) hx hb dX11_isJudge_2 rfl ?_
  refine lv_aload_n hx hb dX11_isJudge_3 rfl (lv_at hl 0 rfl) ?_
  refine va_get (D := X.1) (ci := 11) (v := .ref a_judgeMany) (C := RX11) (T := TX11) (N := 24) hx hb hts in11 hown hG.1 hP 0 rfl rfl 10 (by decide) w1 (fun _ h9 => h9) rfl dX11_isJudge_4 ?_
  refine lv_iconst (v := (0 : Int32)) hx hb dX11_isJudge_7 (by decide) ?_
  refine va_iald (D := X.1) hx hb hG.1 hP 1 0 rfl rfl (vp_lit (by decide)) dX11_isJudge_8 ?_
  refine lv_iconst (v := (1 : Int32)) hx hb dX11_isJudge_9 (by decide) ?_
  refine lv_isub hx hb dX11_isJudge_10 ?_
  refine lv_i2l hx hb dX11_isJudge_11 rfl ?_
  obtain ⟨o1, ho1, hf⟩ := ob_s hf
  refine xS_i (As := [.long (Int32.toInt64 x0), .long (0 : Int64), .long (Int32.toInt64 ((f_judgeMany (0 : Int32).toNatClampNeg) - (1 : Int32)))]) (rest := []) (ws2 := [(a_this, .inr (11, [.int i_length, .ref a_text, .ref a_roundMany, .ref a_blowMany, .ref a_blows, .ref a_forwards, .ref a_downs, .ref a_takens, .ref a_homes, .ref a_noises, .ref a_judgeMany, .ref a_judges, .ref a_delays, .ref a_tolds, .ref a_tens, .int i_keptMany, .int i_place, .ref a_told, .ref a_ways, .ref a_nextWays, .ref a_tallies, .ref a_presses, .ref a_values, .ref a_nextValues])), (a_judgeMany, .inl (X.2.1 0, 2, .inl f_judgeMany))]) hx hb hml hts hown hG hA hP hD rfl hS hl.1 (qX11_in l X (Int32.toInt64 x0) (0 : Int64) (Int32.toInt64 ((f_judgeMany (0 : Int32).toNatClampNeg) - (1 : Int32))) o1 ho1) (va_cwS (y := yX11_in) 3 hts gX11_isJudge_X11_in rfl rfl rfl hdsX11_in ⟨Nat.le_of_ble_eq_true rfl, Nat.le_of_ble_eq_true rfl⟩) [] [0, 1] [0, 1] rfl rfl rfl rfl rfl rfl rfl rfl rfl (Nat.le_of_ble_eq_true rfl) ⟨Nat.le_of_ble_eq_true rfl, Nat.le_of_ble_eq_true rfl⟩ dX11_isJudge_12 (fun H locs hP _ hS => ?_)
  obtain ⟨h3, hf⟩ := gz_s hf
  obtain rfl := Option.some.inj hf
  exact ret H _ ls _ h3 hP hD hS dX11_isJudge_15
def mX11_isRound (x0 : Int32) (f_roundMany : Nat → Int32) :
  Option (Int32) :=
  (mX11_in (Int32.toInt64 x0) (0 : Int64) (Int32.toInt64 ((f_roundMany (0 : Int32).toNatClampNeg) - (1 : Int32)))).bind fun o1 =>
  gz o1 <|
  some o1
theorem hdsX11_isRound : yX11_isRound.cls ≠ "java/lang/invoke/MethodHandle" ∧ yX11_isRound.cls ≠ "java/lang/invoke/VarHandle" ∧ (parseMethodDescriptor yX11_isRound.desc).map (fun d => d.parameters.length) = some 1 := by decide +kernel
theorem hdvX11_isRound : yX11_isRound.cls = RX11 ∧ yX11_isRound.cls ≠ "java/lang/invoke/MethodHandle" ∧ yX11_isRound.cls ≠ "java/lang/invoke/VarHandle" ∧ (parseMethodDescriptor yX11_isRound.desc).map (fun d => d.parameters.length) = some 1 := by decide +kernel
abbrev rmX11_isRound : Room := { frames := 1, cells := 0, slots := 0, locals := 25 }
set_option maxHeartbeats 4000000 in
set_option maxRecDepth 100000 in
theorem qX11_isRound (l : Launch) (X : XT) (a_this : Nat) (a_roundMany : Nat) (a_text : Nat) (a_blowMany : Nat) (a_blows : Nat) (a_forwards : Nat) (a_downs : Nat) (a_takens : Nat) (a_homes : Nat) (a_noises : Nat) (a_judgeMany : Nat) (a_judges : Nat) (a_delays : Nat) (a_tolds : Nat) (a_tens : Nat) (a_told : Nat) (a_ways : Nat) (a_nextWays : Nat) (a_tallies : Nat) (a_presses : Nat) (a_values : Nat) (a_nextValues : Nat)  (i_length : Int32) (i_keptMany : Int32) (i_place : Int32) (f_roundMany : Nat → Int32) (x0 : Int32) (o : Int32) (hf : mX11_isRound x0 f_roundMany = some o) :
    MI l yX11_isRound wsX11_isRound rmX11_isRound X [.ref a_this, .int x0] [(a_this, .inr (11, [.int i_length, .ref a_text, .ref a_roundMany, .ref a_blowMany, .ref a_blows, .ref a_forwards, .ref a_downs, .ref a_takens, .ref a_homes, .ref a_noises, .ref a_judgeMany, .ref a_judges, .ref a_delays, .ref a_tolds, .ref a_tens, .int i_keptMany, .int i_place, .ref a_told, .ref a_ways, .ref a_nextWays, .ref a_tallies, .ref a_presses, .ref a_values, .ref a_nextValues])), (a_roundMany, .inl (X.2.1 0, 2, .inl f_roundMany))]  [(a_this, .inr (11, [.int i_length, .ref a_text, .ref a_roundMany, .ref a_blowMany, .ref a_blows, .ref a_forwards, .ref a_downs, .ref a_takens, .ref a_homes, .ref a_noises, .ref a_judgeMany, .ref a_judges, .ref a_delays, .ref a_tolds, .ref a_tens, .int i_keptMany, .int i_place, .ref a_told, .ref a_ways, .ref a_nextWays, .ref a_tallies, .ref a_presses, .ref a_values, .ref a_nextValues])), (a_roundMany, .inl (X.2.1 0, 2, .inl f_roundMany))] o := by
  refine MI_ofH (cc := cX11_isRound) (maxL := 2) (rt := .boolean) (by decide) rfl (Nat.le_of_ble_eq_true rfl) ?_
  intro p e s m below meth c A Q H ls hx hb hml hts hown hA hD hG hP hS hl ret
  have hown : s.vm.findClass RX11 = some m.cls := hown
  have hD : aD A [a_this, a_roundMany] := hD
  have hl : lv_has ls 2 [(0, .ref a_this), (1, .int x0)] := hl
  have w1 := hts (.fieldLink RX11 13 "ThreeCardsModel" "roundMany" "[I") (List.mem_of_getElem? (i := 1) rfl)
  have in11 : ∀ w ∈ u_ws RX11 TX11 24, w ∈ wsX11_isRound := by decide +kernel
  unfold mX11_isRound at hf
  refine lv_iload_n hx hb dX11_isRound_0 rfl (lv_at hl 1 rfl) ?_
  refine lv_i2l hx hb dX11_isRound_1 rfl ?_
  refine lv_lconst (v := (0 : Int64)) hx hb dX11_isRound_2 rfl ?_
  refine lv_aload_n hx hb dX11_isRound_3 rfl (lv_at hl 0 rfl) ?_
  refine va_get (D := X.1) (ci := 11) (v := .ref a_roundMany) (C := RX11) (T := TX11) (N := 24) hx hb hts in11 hown hG.1 hP 0 rfl rfl 2 (by decide) w1 (fun _ h9 => h9) rfl dX11_isRound_4 ?_
  refine lv_iconst (v := (0 : Int32)) hx hb dX11_isRound_7 (by decide) ?_
  refine va_iald (D := X.1) hx hb hG.1 hP 1 0 rfl rfl (vp_lit (by decide)) dX11_isRound_8 ?_
  refine lv_iconst (v := (1 : Int32)) hx hb dX11_isRound_9 (by decide) ?_
  refine lv_isub hx hb dX11_isRound_10 ?_
  refine lv_i2l hx hb dX11_isRound_11 rfl ?_
  obtain ⟨o1, ho1, hf⟩ := ob_s hf
  refine xS_i (As := [.long (Int32.toInt64 x0), .long (0 : Int64), .long (Int32.toInt64 ((f_roundMany (0 : Int32).toNatClampNeg) - (1 : Int32)))]) (rest := []) (ws2 := [(a_this, .inr (11, [.int i_length, .ref a_text, .ref a_roundMany, .ref a_blowMany, .ref a_blows, .ref a_forwards, .ref a_downs, .ref a_takens, .ref a_homes, .ref a_noises, .ref a_judgeMany, .ref a_judges, .ref a_delays, .ref a_tolds, .ref a_tens, .int i_keptMany, .int i_place, .ref a_told, .ref a_ways, .ref a_nextWays, .ref a_tallies, .ref a_presses, .ref a_values, .ref a_nextValues])), (a_roundMany, .inl (X.2.1 0, 2, .inl f_roundMany))]) hx hb hml hts hown hG hA hP hD rfl hS hl.1 (qX11_in l X (Int32.toInt64 x0) (0 : Int64) (Int32.toInt64 ((f_roundMany (0 : Int32).toNatClampNeg) - (1 : Int32))) o1 ho1) (va_cwS (y := yX11_in) 3 hts gX11_isRound_X11_in rfl rfl rfl hdsX11_in ⟨Nat.le_of_ble_eq_true rfl, Nat.le_of_ble_eq_true rfl⟩) [] [0, 1] [0, 1] rfl rfl rfl rfl rfl rfl rfl rfl rfl (Nat.le_of_ble_eq_true rfl) ⟨Nat.le_of_ble_eq_true rfl, Nat.le_of_ble_eq_true rfl⟩ dX11_isRound_12 (fun H locs hP _ hS => ?_)
  obtain ⟨h3, hf⟩ := gz_s hf
  obtain rfl := Option.some.inj hf
  exact ret H _ ls _ h3 hP hD hS dX11_isRound_15
def mX11_shows_B26 (x0 : Int32) (x1 : Int32) :
  Option (Int32) :=
  some (1 : Int32)
def mX11_shows_B14 (x0 : Int32) (x1 : Int32) (s0 : Int32) :
  Option (Int32) :=
  if s0 ≤ (4 : Int32) then (mX11_shows_B26 x0 x1  ) else (if s0 < (8 : Int32) then (some (0 : Int32)) else (mX11_shows_B26 x0 x1  ))
def mX11_shows (x0 : Int32) (x1 : Int32) :
  Option (Int32) :=
  if x1 ≤ x0 then (mX11_shows_B14 x0 x1  (x0 - x1)) else (mX11_shows_B14 x0 x1  (x1 - x0))
theorem hdsX11_shows : yX11_shows.cls ≠ "java/lang/invoke/MethodHandle" ∧ yX11_shows.cls ≠ "java/lang/invoke/VarHandle" ∧ (parseMethodDescriptor yX11_shows.desc).map (fun d => d.parameters.length) = some 2 := by decide +kernel
abbrev rmX11_shows : Room := { frames := 0, cells := 0, slots := 0, locals := 0 }
set_option maxHeartbeats 4000000 in
set_option maxRecDepth 100000 in
theorem qX11_shows (l : Launch) (X : XT)    (x0 : Int32) (x1 : Int32) (o : Int32) (hf : mX11_shows x0 x1 = some o) :
    MI l yX11_shows wsX11_shows rmX11_shows X [.int x0, .int x1] []  [] o := by
  refine MI_ofH (cc := cX11_shows) (maxL := 3) (rt := .boolean) (by decide) rfl (Nat.le_of_ble_eq_true rfl) ?_
  intro p e s m below meth c A Q H ls hx hb hml hts hown hA hD hG hP hS hl ret
  have hown : s.vm.findClass RX11 = some m.cls := hown
  have hD : aD A [] := hD
  have hl : lv_has ls 3 [(0, .int x0), (1, .int x1)] := hl
  have hB26 : ∀   (H : Heap) (locs : List Loc) (ls : Array Slot), va_P X.1 vwCl [] H → va_S A s.heap H locs → lv_has ls 3 [] → mX11_shows_B26 x0 x1   = some o → W p l e rmX11_shows s m ([.int x0, .int x1] : List Value).toArray below meth c H locs 0 0 Q (F0 m 26 ls []) := by
    intro   H locs ls hP hS hl hf
    unfold mX11_shows_B26 at hf
    refine lv_iconst (v := (1 : Int32)) hx hb dX11_shows_26 (by decide) ?_
    refine lv_goto (tgt := 31) hx hb dX11_shows_27 (by decide) ?_
    obtain rfl := Option.some.inj hf
    exact ret H _ ls _ (show narrow .boolean (.int (1 : Int32)) = .int (1 : Int32) from rfl) hP hD hS dX11_shows_31
  have hB14 : ∀ (s0 : Int32)  (H : Heap) (locs : List Loc) (ls : Array Slot), va_P X.1 vwCl [] H → va_S A s.heap H locs → lv_has ls 3 [] → mX11_shows_B14 x0 x1  s0 = some o → W p l e rmX11_shows s m ([.int x0, .int x1] : List Value).toArray below meth c H locs 0 0 Q (F0 m 14 ls [.int s0]) := by
    intro s0  H locs ls hP hS hl hf
    unfold mX11_shows_B14 at hf
    refine lv_istore_n (lv' := [(2, .int s0)]) hx hb dX11_shows_14 rfl hl (by decide) rfl (fun ls hl => ?_)
    refine lv_iload_n hx hb dX11_shows_15 rfl (lv_at hl 0 rfl) ?_
    refine lv_iconst (v := (4 : Int32)) hx hb dX11_shows_16 (by decide) ?_
    refine lv_icmp_le (tgt := 26) hx hb dX11_shows_17 (by decide) (fun c2 => ?_) (fun c2 => ?_)
    · have hf := xt hf c2
      exact hB26    H _ ls hP  hS (lv_sub hl [] rfl) hf
    · have hf := xf hf c2
      refine lv_iload_n hx hb dX11_shows_20 rfl (lv_at hl 0 rfl) ?_
      refine lv_bipush (v := (8 : Int32)) hx hb dX11_shows_21 (by decide) ?_
      refine lv_icmp_lt (tgt := 30) hx hb dX11_shows_23 (by decide) (fun c3 => ?_) (fun c3 => ?_)
      · have hf := xt hf c3
        refine lv_iconst (v := (0 : Int32)) hx hb dX11_shows_30 (by decide) ?_
        obtain rfl := Option.some.inj hf
        exact ret H _ ls _ (show narrow .boolean (.int (0 : Int32)) = .int (0 : Int32) from rfl) hP hD hS dX11_shows_31
      · have hf := xf hf c3
        exact hB26    H _ ls hP  hS (lv_sub hl [] rfl) hf
  unfold mX11_shows at hf
  refine lv_iload_n hx hb dX11_shows_0 rfl (lv_at hl 0 rfl) ?_
  refine lv_iload_n hx hb dX11_shows_1 rfl (lv_at hl 1 rfl) ?_
  refine lv_icmp_ge (tgt := 11) hx hb dX11_shows_2 (by decide) (fun c1 => ?_) (fun c1 => ?_)
  · have hf := xt hf c1
    refine lv_iload_n hx hb dX11_shows_11 rfl (lv_at hl 0 rfl) ?_
    refine lv_iload_n hx hb dX11_shows_12 rfl (lv_at hl 1 rfl) ?_
    refine lv_isub hx hb dX11_shows_13 ?_
    exact hB14  (x0 - x1)  H _ ls hP  hS (lv_sub hl [] rfl) hf
  · have hf := xf hf c1
    refine lv_iload_n hx hb dX11_shows_5 rfl (lv_at hl 1 rfl) ?_
    refine lv_iload_n hx hb dX11_shows_6 rfl (lv_at hl 0 rfl) ?_
    refine lv_isub hx hb dX11_shows_7 ?_
    refine lv_goto (tgt := 14) hx hb dX11_shows_8 (by decide) ?_
    exact hB14  (x1 - x0)  H _ ls hP  hS (lv_sub hl [] rfl) hf
def mX11_sees (x0 : Int32) (x1 : Int32) (f_blows : Nat → Int32) (f_judges : Nat → Int32) :
  Option (Int32) :=
  gi ((7 : Int32) * x0) 112 <|
  gi (((5 : Int32) * x1) + (4 : Int32)) 400 <|
  (mX11_shows (f_judges ((7 : Int32) * x0).toNatClampNeg) (f_blows (((5 : Int32) * x1) + (4 : Int32)).toNatClampNeg)).bind fun o3 =>
  gz o3 <|
  some o3
theorem hdsX11_sees : yX11_sees.cls ≠ "java/lang/invoke/MethodHandle" ∧ yX11_sees.cls ≠ "java/lang/invoke/VarHandle" ∧ (parseMethodDescriptor yX11_sees.desc).map (fun d => d.parameters.length) = some 2 := by decide +kernel
theorem hdvX11_sees : yX11_sees.cls = RX11 ∧ yX11_sees.cls ≠ "java/lang/invoke/MethodHandle" ∧ yX11_sees.cls ≠ "java/lang/invoke/VarHandle" ∧ (parseMethodDescriptor yX11_sees.desc).map (fun d => d.parameters.length) = some 2 := by decide +kernel
abbrev rmX11_sees : Room := { frames := 1, cells := 0, slots := 0, locals := 22 }
set_option maxHeartbeats 4000000 in
set_option maxRecDepth 100000 in
theorem qX11_sees (l : Launch) (X : XT) (a_this : Nat) (a_blows : Nat) (a_judges : Nat) (a_text : Nat) (a_roundMany : Nat) (a_blowMany : Nat) (a_forwards : Nat) (a_downs : Nat) (a_takens : Nat) (a_homes : Nat) (a_noises : Nat) (a_judgeMany : Nat) (a_delays : Nat) (a_tolds : Nat) (a_tens : Nat) (a_told : Nat) (a_ways : Nat) (a_nextWays : Nat) (a_tallies : Nat) (a_presses : Nat) (a_values : Nat) (a_nextValues : Nat)  (i_length : Int32) (i_keptMany : Int32) (i_place : Int32) (f_blows : Nat → Int32) (f_judges : Nat → Int32) (x0 : Int32) (x1 : Int32) (o : Int32) (hf : mX11_sees x0 x1 f_blows f_judges = some o) :
    MI l yX11_sees wsX11_sees rmX11_sees X [.ref a_this, .int x0, .int x1] [(a_this, .inr (11, [.int i_length, .ref a_text, .ref a_roundMany, .ref a_blowMany, .ref a_blows, .ref a_forwards, .ref a_downs, .ref a_takens, .ref a_homes, .ref a_noises, .ref a_judgeMany, .ref a_judges, .ref a_delays, .ref a_tolds, .ref a_tens, .int i_keptMany, .int i_place, .ref a_told, .ref a_ways, .ref a_nextWays, .ref a_tallies, .ref a_presses, .ref a_values, .ref a_nextValues])), (a_blows, .inl (X.2.1 0, 400, .inl f_blows)), (a_judges, .inl (X.2.1 0, 112, .inl f_judges))]  [(a_this, .inr (11, [.int i_length, .ref a_text, .ref a_roundMany, .ref a_blowMany, .ref a_blows, .ref a_forwards, .ref a_downs, .ref a_takens, .ref a_homes, .ref a_noises, .ref a_judgeMany, .ref a_judges, .ref a_delays, .ref a_tolds, .ref a_tens, .int i_keptMany, .int i_place, .ref a_told, .ref a_ways, .ref a_nextWays, .ref a_tallies, .ref a_presses, .ref a_values, .ref a_nextValues])), (a_blows, .inl (X.2.1 0, 400, .inl f_blows)), (a_judges, .inl (X.2.1 0, 112, .inl f_judges))] o := by
  refine MI_ofH (cc := cX11_sees) (maxL := 3) (rt := .boolean) (by decide) rfl (Nat.le_of_ble_eq_true rfl) ?_
  intro p e s m below meth c A Q H ls hx hb hml hts hown hA hD hG hP hS hl ret
  have hown : s.vm.findClass RX11 = some m.cls := hown
  have hD : aD A [a_this, a_blows, a_judges] := hD
  have hl : lv_has ls 3 [(0, .ref a_this), (1, .int x0), (2, .int x1)] := hl
  have w1 := hts (.fieldLink RX11 40 "ThreeCardsModel" "judges" "[I") (List.mem_of_getElem? (i := 1) rfl)
  have w2 := hts (.fieldLink RX11 19 "ThreeCardsModel" "blows" "[I") (List.mem_of_getElem? (i := 2) rfl)
  have in11 : ∀ w ∈ u_ws RX11 TX11 24, w ∈ wsX11_sees := by decide +kernel
  unfold mX11_sees at hf
  refine lv_aload_n hx hb dX11_sees_0 rfl (lv_at hl 0 rfl) ?_
  refine va_get (D := X.1) (ci := 11) (v := .ref a_judges) (C := RX11) (T := TX11) (N := 24) hx hb hts in11 hown hG.1 hP 0 rfl rfl 11 (by decide) w1 (fun _ h9 => h9) rfl dX11_sees_1 ?_
  refine lv_bipush (v := (7 : Int32)) hx hb dX11_sees_4 (by decide) ?_
  refine lv_iload_n hx hb dX11_sees_6 rfl (lv_at hl 1 rfl) ?_
  refine lv_imul hx hb dX11_sees_7 ?_
  obtain ⟨h1, hf⟩ := gi_s hf
  refine va_iald (D := X.1) hx hb hG.1 hP 2 0 rfl rfl h1 dX11_sees_8 ?_
  refine lv_aload_n hx hb dX11_sees_9 rfl (lv_at hl 0 rfl) ?_
  refine va_get (D := X.1) (ci := 11) (v := .ref a_blows) (C := RX11) (T := TX11) (N := 24) hx hb hts in11 hown hG.1 hP 0 rfl rfl 4 (by decide) w2 (fun _ h9 => h9) rfl dX11_sees_10 ?_
  refine lv_iconst (v := (5 : Int32)) hx hb dX11_sees_13 (by decide) ?_
  refine lv_iload_n hx hb dX11_sees_14 rfl (lv_at hl 2 rfl) ?_
  refine lv_imul hx hb dX11_sees_15 ?_
  refine lv_iconst (v := (4 : Int32)) hx hb dX11_sees_16 (by decide) ?_
  refine lv_iadd hx hb dX11_sees_17 ?_
  obtain ⟨h2, hf⟩ := gi_s hf
  refine va_iald (D := X.1) hx hb hG.1 hP 1 0 rfl rfl h2 dX11_sees_18 ?_
  obtain ⟨o3, ho3, hf⟩ := ob_s hf
  refine xS_i (As := [.int (f_judges ((7 : Int32) * x0).toNatClampNeg), .int (f_blows (((5 : Int32) * x1) + (4 : Int32)).toNatClampNeg)]) (rest := []) (ws2 := [(a_this, .inr (11, [.int i_length, .ref a_text, .ref a_roundMany, .ref a_blowMany, .ref a_blows, .ref a_forwards, .ref a_downs, .ref a_takens, .ref a_homes, .ref a_noises, .ref a_judgeMany, .ref a_judges, .ref a_delays, .ref a_tolds, .ref a_tens, .int i_keptMany, .int i_place, .ref a_told, .ref a_ways, .ref a_nextWays, .ref a_tallies, .ref a_presses, .ref a_values, .ref a_nextValues])), (a_blows, .inl (X.2.1 0, 400, .inl f_blows)), (a_judges, .inl (X.2.1 0, 112, .inl f_judges))]) hx hb hml hts hown hG hA hP hD rfl hS hl.1 (qX11_shows l X (f_judges ((7 : Int32) * x0).toNatClampNeg) (f_blows (((5 : Int32) * x1) + (4 : Int32)).toNatClampNeg) o3 ho3) (va_cwS (y := yX11_shows) 2 hts gX11_sees_X11_shows rfl rfl rfl hdsX11_shows ⟨Nat.le_of_ble_eq_true rfl, Nat.le_of_ble_eq_true rfl⟩) [] [0, 1, 2] [0, 1, 2] rfl rfl rfl rfl rfl rfl rfl rfl rfl (Nat.le_of_ble_eq_true rfl) ⟨Nat.le_of_ble_eq_true rfl, Nat.le_of_ble_eq_true rfl⟩ dX11_sees_19 (fun H locs hP _ hS => ?_)
  obtain ⟨h5, hf⟩ := gz_s hf
  obtain rfl := Option.some.inj hf
  exact ret H _ ls _ h5 hP hD hS dX11_sees_22
def mX11_blow_B53 (x0 : Int32) (x1 : Int32) (f_blowMany : Nat → Int32) (f_blows : Nat → Int32) (f_judgeMany : Nat → Int32) (f_judges : Nat → Int32) (k53 : Int32 → Int32 → Option (Int32)) (l3 : Int32) (l4 : Int32) :
  Option (Int32) :=
  if (f_judgeMany (0 : Int32).toNatClampNeg) ≤ l4 then (some l3) else ((mX11_sees l4 x0 f_blows f_judges).bind fun o11 =>
  if o11 = 0 then (lb (l3 ||| (0 : Int32)) fun v14 =>
  lb (l4 + (1 : Int32)) fun v15 =>
  k53 v14 v15) else (lb (l3 ||| ((1 : Int32) <<< (l4 &&& 31))) fun v16 =>
  lb (l4 + (1 : Int32)) fun v17 =>
  k53 v16 v17))
def mX11_blow_L53 (x0 : Int32) (x1 : Int32) (f_blowMany : Nat → Int32) (f_blows : Nat → Int32) (f_judgeMany : Nat → Int32) (f_judges : Nat → Int32) (n : Nat) (l3 : Int32) (l4 : Int32) :
  Option (Int32) :=
  loopN (fun k (s : Int32 × Int32) => mX11_blow_B53 x0 x1 f_blowMany f_blows f_judgeMany f_judges  (fun l3 l4 => k (l3, l4)) s.1 s.2) n (l3, l4)
def mX11_blow (x0 : Int32) (x1 : Int32) (f_blowMany : Nat → Int32) (f_blows : Nat → Int32) (f_judgeMany : Nat → Int32) (f_judges : Nat → Int32) :
  Option (Int32) :=
  (mX11_in (Int32.toInt64 x0) (0 : Int64) (Int32.toInt64 ((f_blowMany (0 : Int32).toNatClampNeg) - (1 : Int32)))).bind fun o1 =>
  if o1 = 0 then (some (-1 : Int32)) else ((mX11_in (Int32.toInt64 x1) (0 : Int64) (5 : Int64)).bind fun o4 =>
  if o4 = 0 then (some (-1 : Int32)) else (if (5 : Int32) ≤ x1 then (mX11_blow_L53 x0 x1 f_blowMany f_blows f_judgeMany f_judges  FUEL (0 : Int32) (0 : Int32)) else (gi (((5 : Int32) * x0) + x1) 400 <|
  lb (f_blows (((5 : Int32) * x0) + x1).toNatClampNeg) fun v9 =>
  some v9)))
theorem hdsX11_blow : yX11_blow.cls ≠ "java/lang/invoke/MethodHandle" ∧ yX11_blow.cls ≠ "java/lang/invoke/VarHandle" ∧ (parseMethodDescriptor yX11_blow.desc).map (fun d => d.parameters.length) = some 2 := by decide +kernel
theorem hdvX11_blow : yX11_blow.cls = RX11 ∧ yX11_blow.cls ≠ "java/lang/invoke/MethodHandle" ∧ yX11_blow.cls ≠ "java/lang/invoke/VarHandle" ∧ (parseMethodDescriptor yX11_blow.desc).map (fun d => d.parameters.length) = some 2 := by decide +kernel
abbrev rmX11_blow : Room := { frames := 2, cells := 0, slots := 0, locals := 44 }
set_option maxHeartbeats 4000000 in
set_option maxRecDepth 100000 in
theorem qX11_blow (l : Launch) (X : XT) (a_this : Nat) (a_blowMany : Nat) (a_blows : Nat) (a_judgeMany : Nat) (a_judges : Nat) (a_text : Nat) (a_roundMany : Nat) (a_forwards : Nat) (a_downs : Nat) (a_takens : Nat) (a_homes : Nat) (a_noises : Nat) (a_delays : Nat) (a_tolds : Nat) (a_tens : Nat) (a_told : Nat) (a_ways : Nat) (a_nextWays : Nat) (a_tallies : Nat) (a_presses : Nat) (a_values : Nat) (a_nextValues : Nat)  (i_length : Int32) (i_keptMany : Int32) (i_place : Int32) (f_blowMany : Nat → Int32) (f_blows : Nat → Int32) (f_judgeMany : Nat → Int32) (f_judges : Nat → Int32) (x0 : Int32) (x1 : Int32) (o : Int32) (hf : mX11_blow x0 x1 f_blowMany f_blows f_judgeMany f_judges = some o) :
    MI l yX11_blow wsX11_blow rmX11_blow X [.ref a_this, .int x0, .int x1] [(a_this, .inr (11, [.int i_length, .ref a_text, .ref a_roundMany, .ref a_blowMany, .ref a_blows, .ref a_forwards, .ref a_downs, .ref a_takens, .ref a_homes, .ref a_noises, .ref a_judgeMany, .ref a_judges, .ref a_delays, .ref a_tolds, .ref a_tens, .int i_keptMany, .int i_place, .ref a_told, .ref a_ways, .ref a_nextWays, .ref a_tallies, .ref a_presses, .ref a_values, .ref a_nextValues])), (a_blowMany, .inl (X.2.1 0, 2, .inl f_blowMany)), (a_blows, .inl (X.2.1 0, 400, .inl f_blows)), (a_judgeMany, .inl (X.2.1 0, 2, .inl f_judgeMany)), (a_judges, .inl (X.2.1 0, 112, .inl f_judges))]  [(a_this, .inr (11, [.int i_length, .ref a_text, .ref a_roundMany, .ref a_blowMany, .ref a_blows, .ref a_forwards, .ref a_downs, .ref a_takens, .ref a_homes, .ref a_noises, .ref a_judgeMany, .ref a_judges, .ref a_delays, .ref a_tolds, .ref a_tens, .int i_keptMany, .int i_place, .ref a_told, .ref a_ways, .ref a_nextWays, .ref a_tallies, .ref a_presses, .ref a_values, .ref a_nextValues])), (a_blowMany, .inl (X.2.1 0, 2, .inl f_blowMany)), (a_blows, .inl (X.2.1 0, 400, .inl f_blows)), (a_judgeMany, .inl (X.2.1 0, 2, .inl f_judgeMany)), (a_judges, .inl (X.2.1 0, 112, .inl f_judges))] o := by
  refine MI_ofH (cc := cX11_blow) (maxL := 5) (rt := .int) (by decide) rfl (Nat.le_of_ble_eq_true rfl) ?_
  intro p e s m below meth c A Q H ls hx hb hml hts hown hA hD hG hP hS hl ret
  have hown : s.vm.findClass RX11 = some m.cls := hown
  have hD : aD A [a_this, a_blowMany, a_blows, a_judgeMany, a_judges] := hD
  have hl : lv_has ls 5 [(0, .ref a_this), (1, .int x0), (2, .int x1)] := hl
  have w1 := hts (.fieldLink RX11 16 "ThreeCardsModel" "blowMany" "[I") (List.mem_of_getElem? (i := 1) rfl)
  have w2 := hts (.constantLong RX11 136 (5)) (List.mem_of_getElem? (i := 2) rfl)
  have w3 := hts (.fieldLink RX11 19 "ThreeCardsModel" "blows" "[I") (List.mem_of_getElem? (i := 3) rfl)
  have w4 := hts (.fieldLink RX11 37 "ThreeCardsModel" "judgeMany" "[I") (List.mem_of_getElem? (i := 4) rfl)
  have in11 : ∀ w ∈ u_ws RX11 TX11 24, w ∈ wsX11_blow := by decide +kernel
  have hL53 : ∀ (n : Nat) (l3 : Int32) (l4 : Int32)  (H : Heap) (locs : List Loc) (ls : Array Slot), va_P X.1 vwCl [(a_this, .inr (11, [.int i_length, .ref a_text, .ref a_roundMany, .ref a_blowMany, .ref a_blows, .ref a_forwards, .ref a_downs, .ref a_takens, .ref a_homes, .ref a_noises, .ref a_judgeMany, .ref a_judges, .ref a_delays, .ref a_tolds, .ref a_tens, .int i_keptMany, .int i_place, .ref a_told, .ref a_ways, .ref a_nextWays, .ref a_tallies, .ref a_presses, .ref a_values, .ref a_nextValues])), (a_blowMany, .inl (X.2.1 0, 2, .inl f_blowMany)), (a_blows, .inl (X.2.1 0, 400, .inl f_blows)), (a_judgeMany, .inl (X.2.1 0, 2, .inl f_judgeMany)), (a_judges, .inl (X.2.1 0, 112, .inl f_judges))] H → va_S A s.heap H locs → lv_has ls 5 [(0, .ref a_this), (1, .int x0), (3, .int l3), (4, .int l4)] → mX11_blow_L53 x0 x1 f_blowMany f_blows f_judgeMany f_judges  n l3 l4 = some o → W p l e rmX11_blow s m ([.ref a_this, .int x0, .int x1] : List Value).toArray below meth c H locs 0 0 Q (F0 m 53 ls []) := by
    intro n
    induction n with
    | zero => intro l3 l4  H locs ls hP hS hl hf; exact xn hf
    | succ n ih =>
      intro l3 l4  H locs ls hP hS hl hf
      have hf : mX11_blow_B53 x0 x1 f_blowMany f_blows f_judgeMany f_judges  (mX11_blow_L53 x0 x1 f_blowMany f_blows f_judgeMany f_judges  n) l3 l4 = some o := hf
      generalize mX11_blow_L53 x0 x1 f_blowMany f_blows f_judgeMany f_judges  n = k53 at ih hf
      unfold mX11_blow_B53 at hf
      refine lv_iload hx hb dX11_blow_53 (lv_at hl 3 rfl) ?_
      refine lv_aload_n hx hb dX11_blow_55 rfl (lv_at hl 0 rfl) ?_
      refine va_get (D := X.1) (ci := 11) (v := .ref a_judgeMany) (C := RX11) (T := TX11) (N := 24) hx hb hts in11 hown hG.1 hP 0 rfl rfl 10 (by decide) w4 (fun _ h9 => h9) rfl dX11_blow_56 ?_
      refine lv_iconst (v := (0 : Int32)) hx hb dX11_blow_59 (by decide) ?_
      refine va_iald (D := X.1) hx hb hG.1 hP 3 0 rfl rfl (vp_lit (by decide)) dX11_blow_60 ?_
      refine lv_icmp_ge (tgt := 91) hx hb dX11_blow_61 (by decide) (fun c10 => ?_) (fun c10 => ?_)
      · have hf := xt hf c10
        refine lv_iload_n hx hb dX11_blow_91 rfl (lv_at hl 2 rfl) ?_
        obtain rfl := Option.some.inj hf
        exact ret H _ ls _ rfl hP hD hS dX11_blow_92
      · have hf := xf hf c10
        refine lv_iload_n hx hb dX11_blow_64 rfl (lv_at hl 2 rfl) ?_
        refine lv_aload_n hx hb dX11_blow_65 rfl (lv_at hl 0 rfl) ?_
        refine lv_iload hx hb dX11_blow_66 (lv_at hl 3 rfl) ?_
        refine lv_iload_n hx hb dX11_blow_68 rfl (lv_at hl 1 rfl) ?_
        obtain ⟨o11, ho11, hf⟩ := ob_s hf
        refine xV_i (As := [.int l4, .int x0]) (b := a_this) (rest := [.int l3]) (ws2 := [(a_this, .inr (11, [.int i_length, .ref a_text, .ref a_roundMany, .ref a_blowMany, .ref a_blows, .ref a_forwards, .ref a_downs, .ref a_takens, .ref a_homes, .ref a_noises, .ref a_judgeMany, .ref a_judges, .ref a_delays, .ref a_tolds, .ref a_tens, .int i_keptMany, .int i_place, .ref a_told, .ref a_ways, .ref a_nextWays, .ref a_tallies, .ref a_presses, .ref a_values, .ref a_nextValues])), (a_blowMany, .inl (X.2.1 0, 2, .inl f_blowMany)), (a_blows, .inl (X.2.1 0, 400, .inl f_blows)), (a_judgeMany, .inl (X.2.1 0, 2, .inl f_judgeMany)), (a_judges, .inl (X.2.1 0, 112, .inl f_judges))]) hx hb hml hts hown hG hA hP hD rfl hS hl.1 (qX11_sees l X a_this a_blows a_judges a_text a_roundMany a_blowMany a_forwards a_downs a_takens a_homes a_noises a_judgeMany a_delays a_tolds a_tens a_told a_ways a_nextWays a_tallies a_presses a_values a_nextValues i_length i_keptMany i_place f_blows f_judges l4 x0 o11 ho11) (cwV (y := yX11_sees) 2 hts gX11_blow_X11_sees rfl rfl rfl hdvX11_sees ⟨Nat.le_of_ble_eq_true rfl, Nat.le_of_ble_eq_true rfl⟩) [0, 2, 4] [1, 3] [2, 0, 3, 1, 4] rfl rfl rfl rfl rfl rfl rfl (ci := 11) rfl 0 rfl rfl rfl (Nat.le_of_ble_eq_true rfl) ⟨Nat.le_of_ble_eq_true rfl, Nat.le_of_ble_eq_true rfl⟩ dX11_blow_69 (fun H locs hP _ hS => ?_)
        refine lv_if_eq (tgt := 82) hx hb dX11_blow_72 (by decide) (fun c13 => ?_) (fun c13 => ?_)
        · have hf := xt hf c13
          refine lv_iconst (v := (0 : Int32)) hx hb dX11_blow_82 (by decide) ?_
          refine lv_ior hx hb dX11_blow_83 ?_
          refine lv_topi (fun v14 ev14 => ?_)
          have hf := lb_s hf ev14
          refine lv_istore_n (lv' := [(3, .int v14), (0, .ref a_this), (1, .int x0), (4, .int l4)]) hx hb dX11_blow_84 rfl hl (by decide) rfl (fun ls hl => ?_)
          obtain ⟨v15, ev15, hf⟩ := lb_g hf
          refine lv_iinc (v := v15) (lv' := [(4, .int v15), (3, .int v14), (0, .ref a_this), (1, .int x0)]) hx hb dX11_blow_85 hl (k := 3) rfl ev15.symm (by decide) rfl (fun ls hl => ?_)
          refine lv_goto (tgt := 53) hx hb dX11_blow_88 (by decide) ?_
          exact ih v14 v15  H _ ls hP  hS (lv_sub hl [2, 3, 1, 0] rfl) hf
        · have hf := xf hf c13
          refine lv_iconst (v := (1 : Int32)) hx hb dX11_blow_75 (by decide) ?_
          refine lv_iload hx hb dX11_blow_76 (lv_at hl 3 rfl) ?_
          refine lv_ishl hx hb dX11_blow_78 ?_
          refine lv_goto (tgt := 83) hx hb dX11_blow_79 (by decide) ?_
          refine lv_ior hx hb dX11_blow_83 ?_
          refine lv_topi (fun v16 ev16 => ?_)
          have hf := lb_s hf ev16
          refine lv_istore_n (lv' := [(3, .int v16), (0, .ref a_this), (1, .int x0), (4, .int l4)]) hx hb dX11_blow_84 rfl hl (by decide) rfl (fun ls hl => ?_)
          obtain ⟨v17, ev17, hf⟩ := lb_g hf
          refine lv_iinc (v := v17) (lv' := [(4, .int v17), (3, .int v16), (0, .ref a_this), (1, .int x0)]) hx hb dX11_blow_85 hl (k := 3) rfl ev17.symm (by decide) rfl (fun ls hl => ?_)
          refine lv_goto (tgt := 53) hx hb dX11_blow_88 (by decide) ?_
          exact ih v16 v17  H _ ls hP  hS (lv_sub hl [2, 3, 1, 0] rfl) hf
  unfold mX11_blow at hf
  refine lv_iload_n hx hb dX11_blow_0 rfl (lv_at hl 1 rfl) ?_
  refine lv_i2l hx hb dX11_blow_1 rfl ?_
  refine lv_lconst (v := (0 : Int64)) hx hb dX11_blow_2 rfl ?_
  refine lv_aload_n hx hb dX11_blow_3 rfl (lv_at hl 0 rfl) ?_
  refine va_get (D := X.1) (ci := 11) (v := .ref a_blowMany) (C := RX11) (T := TX11) (N := 24) hx hb hts in11 hown hG.1 hP 0 rfl rfl 3 (by decide) w1 (fun _ h9 => h9) rfl dX11_blow_4 ?_
  refine lv_iconst (v := (0 : Int32)) hx hb dX11_blow_7 (by decide) ?_
  refine va_iald (D := X.1) hx hb hG.1 hP 1 0 rfl rfl (vp_lit (by decide)) dX11_blow_8 ?_
  refine lv_iconst (v := (1 : Int32)) hx hb dX11_blow_9 (by decide) ?_
  refine lv_isub hx hb dX11_blow_10 ?_
  refine lv_i2l hx hb dX11_blow_11 rfl ?_
  obtain ⟨o1, ho1, hf⟩ := ob_s hf
  refine xS_i (As := [.long (Int32.toInt64 x0), .long (0 : Int64), .long (Int32.toInt64 ((f_blowMany (0 : Int32).toNatClampNeg) - (1 : Int32)))]) (rest := []) (ws2 := [(a_this, .inr (11, [.int i_length, .ref a_text, .ref a_roundMany, .ref a_blowMany, .ref a_blows, .ref a_forwards, .ref a_downs, .ref a_takens, .ref a_homes, .ref a_noises, .ref a_judgeMany, .ref a_judges, .ref a_delays, .ref a_tolds, .ref a_tens, .int i_keptMany, .int i_place, .ref a_told, .ref a_ways, .ref a_nextWays, .ref a_tallies, .ref a_presses, .ref a_values, .ref a_nextValues])), (a_blowMany, .inl (X.2.1 0, 2, .inl f_blowMany)), (a_blows, .inl (X.2.1 0, 400, .inl f_blows)), (a_judgeMany, .inl (X.2.1 0, 2, .inl f_judgeMany)), (a_judges, .inl (X.2.1 0, 112, .inl f_judges))]) hx hb hml hts hown hG hA hP hD rfl hS hl.1 (qX11_in l X (Int32.toInt64 x0) (0 : Int64) (Int32.toInt64 ((f_blowMany (0 : Int32).toNatClampNeg) - (1 : Int32))) o1 ho1) (va_cwS (y := yX11_in) 3 hts gX11_blow_X11_in rfl rfl rfl hdsX11_in ⟨Nat.le_of_ble_eq_true rfl, Nat.le_of_ble_eq_true rfl⟩) [] [0, 1, 2, 3, 4] [0, 1, 2, 3, 4] rfl rfl rfl rfl rfl rfl rfl rfl rfl (Nat.le_of_ble_eq_true rfl) ⟨Nat.le_of_ble_eq_true rfl, Nat.le_of_ble_eq_true rfl⟩ dX11_blow_12 (fun H locs hP _ hS => ?_)
  refine lv_if_eq (tgt := 30) hx hb dX11_blow_15 (by decide) (fun c3 => ?_) (fun c3 => ?_)
  · have hf := xt hf c3
    refine lv_iconst (v := (-1 : Int32)) hx hb dX11_blow_30 (by decide) ?_
    obtain rfl := Option.some.inj hf
    exact ret H _ ls _ rfl hP hD hS dX11_blow_31
  · have hf := xf hf c3
    refine lv_iload_n hx hb dX11_blow_18 rfl (lv_at hl 2 rfl) ?_
    refine lv_i2l hx hb dX11_blow_19 rfl ?_
    refine lv_lconst (v := (0 : Int64)) hx hb dX11_blow_20 rfl ?_
    refine lv_ldc2 (v := (5 : Int64)) hx hb hown w2 dX11_blow_21 ?_
    obtain ⟨o4, ho4, hf⟩ := ob_s hf
    refine xS_i (As := [.long (Int32.toInt64 x1), .long (0 : Int64), .long (5 : Int64)]) (rest := []) (ws2 := [(a_this, .inr (11, [.int i_length, .ref a_text, .ref a_roundMany, .ref a_blowMany, .ref a_blows, .ref a_forwards, .ref a_downs, .ref a_takens, .ref a_homes, .ref a_noises, .ref a_judgeMany, .ref a_judges, .ref a_delays, .ref a_tolds, .ref a_tens, .int i_keptMany, .int i_place, .ref a_told, .ref a_ways, .ref a_nextWays, .ref a_tallies, .ref a_presses, .ref a_values, .ref a_nextValues])), (a_blowMany, .inl (X.2.1 0, 2, .inl f_blowMany)), (a_blows, .inl (X.2.1 0, 400, .inl f_blows)), (a_judgeMany, .inl (X.2.1 0, 2, .inl f_judgeMany)), (a_judges, .inl (X.2.1 0, 112, .inl f_judges))]) hx hb hml hts hown hG hA hP hD rfl hS hl.1 (qX11_in l X (Int32.toInt64 x1) (0 : Int64) (5 : Int64) o4 ho4) (va_cwS (y := yX11_in) 3 hts gX11_blow_X11_in rfl rfl rfl hdsX11_in ⟨Nat.le_of_ble_eq_true rfl, Nat.le_of_ble_eq_true rfl⟩) [] [0, 1, 2, 3, 4] [0, 1, 2, 3, 4] rfl rfl rfl rfl rfl rfl rfl rfl rfl (Nat.le_of_ble_eq_true rfl) ⟨Nat.le_of_ble_eq_true rfl, Nat.le_of_ble_eq_true rfl⟩ dX11_blow_24 (fun H locs hP _ hS => ?_)
    refine lv_if_ne (tgt := 32) hx hb dX11_blow_27 (by decide) (fun c6 => ?_) (fun c6 => ?_)
    · have hf := xf hf c6
      refine lv_iload_n hx hb dX11_blow_32 rfl (lv_at hl 2 rfl) ?_
      refine lv_iconst (v := (5 : Int32)) hx hb dX11_blow_33 (by decide) ?_
      refine lv_icmp_ge (tgt := 48) hx hb dX11_blow_34 (by decide) (fun c7 => ?_) (fun c7 => ?_)
      · have hf := xt hf c7
        refine lv_iconst (v := (0 : Int32)) hx hb dX11_blow_48 (by decide) ?_
        refine lv_istore_n (lv' := [(3, .int (0 : Int32)), (0, .ref a_this), (1, .int x0), (2, .int x1)]) hx hb dX11_blow_49 rfl hl (by decide) rfl (fun ls hl => ?_)
        refine lv_iconst (v := (0 : Int32)) hx hb dX11_blow_50 (by decide) ?_
        refine lv_istore (lv' := [(4, .int (0 : Int32)), (3, .int (0 : Int32)), (0, .ref a_this), (1, .int x0), (2, .int x1)]) hx hb dX11_blow_51 hl (by decide) rfl (fun ls hl => ?_)
        exact hL53  FUEL (0 : Int32) (0 : Int32)  H _ ls hP  hS (lv_sub hl [2, 3, 1, 0] rfl) hf
      · have hf := xf hf c7
        refine lv_aload_n hx hb dX11_blow_37 rfl (lv_at hl 0 rfl) ?_
        refine va_get (D := X.1) (ci := 11) (v := .ref a_blows) (C := RX11) (T := TX11) (N := 24) hx hb hts in11 hown hG.1 hP 0 rfl rfl 4 (by decide) w3 (fun _ h9 => h9) rfl dX11_blow_38 ?_
        refine lv_iconst (v := (5 : Int32)) hx hb dX11_blow_41 (by decide) ?_
        refine lv_iload_n hx hb dX11_blow_42 rfl (lv_at hl 1 rfl) ?_
        refine lv_imul hx hb dX11_blow_43 ?_
        refine lv_iload_n hx hb dX11_blow_44 rfl (lv_at hl 2 rfl) ?_
        refine lv_iadd hx hb dX11_blow_45 ?_
        obtain ⟨h8, hf⟩ := gi_s hf
        refine va_iald (D := X.1) hx hb hG.1 hP 2 0 rfl rfl h8 dX11_blow_46 ?_
        refine lv_topi (fun v9 ev9 => ?_)
        have hf := lb_s hf ev9
        obtain rfl := Option.some.inj hf
        exact ret H _ ls _ rfl hP hD hS dX11_blow_47
    · have hf := xt hf c6
      refine lv_iconst (v := (-1 : Int32)) hx hb dX11_blow_30 (by decide) ?_
      obtain rfl := Option.some.inj hf
      exact ret H _ ls _ rfl hP hD hS dX11_blow_31
def mX11_sumOf_B132 (x0 : Int32) (x1 : Int32) (x2 : Int32) (f_blowMany : Nat → Int32) (f_blows : Nat → Int32) (f_forwards : Nat → Int32) (f_homes : Nat → Int32) (f_judges : Nat → Int32) (f_noises : Nat → Int32) (k27 : Int32 → Int32 → Option (Int32)) (l4 : Int32) (l5 : Int32) (l6 : Int32) (s0 : Int32) :
  Option (Int32) :=
  (mX11_sees x0 l5 f_blows f_judges).bind fun o16 =>
  if o16 = 0 then (lb (l4 + s0) fun v19 =>
  lb (l5 + (1 : Int32)) fun v20 =>
  k27 v19 v20) else (gi (((7 : Int32) * x0) + (1 : Int32)) 112 <|
  gi (((5 : Int32) * l5) + (3 : Int32)) 400 <|
  lb (l4 + (((f_judges (((7 : Int32) * x0) + (1 : Int32)).toNatClampNeg) * (f_blows (((5 : Int32) * l5) + (3 : Int32)).toNatClampNeg)) * l6)) fun v23 =>
  lb (l5 + (1 : Int32)) fun v24 =>
  k27 v23 v24)
def mX11_sumOf_B98 (x0 : Int32) (x1 : Int32) (x2 : Int32) (f_blowMany : Nat → Int32) (f_blows : Nat → Int32) (f_forwards : Nat → Int32) (f_homes : Nat → Int32) (f_judges : Nat → Int32) (f_noises : Nat → Int32) (k27 : Int32 → Int32 → Option (Int32)) (l4 : Int32) (l5 : Int32) (s0 : Int32) :
  Option (Int32) :=
  if (f_homes (0 : Int32).toNatClampNeg) = x2 then (gi (((7 : Int32) * x0) + (5 : Int32)) 112 <|
  mX11_sumOf_B132 x0 x1 x2 f_blowMany f_blows f_forwards f_homes f_judges f_noises k27 l4 l5 s0 ((f_noises (0 : Int32).toNatClampNeg) * (f_judges (((7 : Int32) * x0) + (5 : Int32)).toNatClampNeg))) else (mX11_sumOf_B132 x0 x1 x2 f_blowMany f_blows f_forwards f_homes f_judges f_noises k27 l4 l5 s0 (0 : Int32))
def mX11_sumOf_B27 (x0 : Int32) (x1 : Int32) (x2 : Int32) (f_blowMany : Nat → Int32) (f_blows : Nat → Int32) (f_forwards : Nat → Int32) (f_homes : Nat → Int32) (f_judges : Nat → Int32) (f_noises : Nat → Int32) (k27 : Int32 → Int32 → Option (Int32)) (l4 : Int32) (l5 : Int32) :
  Option (Int32) :=
  if (f_blowMany (0 : Int32).toNatClampNeg) ≤ l5 then (some l4) else (gi ((5 : Int32) * l5) 400 <|
  if (f_blows ((5 : Int32) * l5).toNatClampNeg) = x1 then (gi (((5 : Int32) * l5) + (2 : Int32)) 400 <|
  if (f_blows (((5 : Int32) * l5) + (2 : Int32)).toNatClampNeg) = x2 then (gi (((5 : Int32) * l5) + (1 : Int32)) 400 <|
  if (f_blows (((5 : Int32) * l5) + (1 : Int32)).toNatClampNeg) < (170 : Int32) then (mX11_sumOf_B98 x0 x1 x2 f_blowMany f_blows f_forwards f_homes f_judges f_noises k27 l4 l5 (1 : Int32)) else (gi (((7 : Int32) * x0) + (4 : Int32)) 112 <|
  mX11_sumOf_B98 x0 x1 x2 f_blowMany f_blows f_forwards f_homes f_judges f_noises k27 l4 l5 (f_judges (((7 : Int32) * x0) + (4 : Int32)).toNatClampNeg))) else (lb (l5 + (1 : Int32)) fun v10 =>
  k27 l4 v10)) else (lb (l5 + (1 : Int32)) fun v7 =>
  k27 l4 v7))
def mX11_sumOf_L27 (x0 : Int32) (x1 : Int32) (x2 : Int32) (f_blowMany : Nat → Int32) (f_blows : Nat → Int32) (f_forwards : Nat → Int32) (f_homes : Nat → Int32) (f_judges : Nat → Int32) (f_noises : Nat → Int32) (n : Nat) (l4 : Int32) (l5 : Int32) :
  Option (Int32) :=
  loopN (fun k (s : Int32 × Int32) => mX11_sumOf_B27 x0 x1 x2 f_blowMany f_blows f_forwards f_homes f_judges f_noises  (fun l4 l5 => k (l4, l5)) s.1 s.2) n (l4, l5)
def mX11_sumOf (x0 : Int32) (x1 : Int32) (x2 : Int32) (f_blowMany : Nat → Int32) (f_blows : Nat → Int32) (f_forwards : Nat → Int32) (f_homes : Nat → Int32) (f_judges : Nat → Int32) (f_noises : Nat → Int32) :
  Option (Int32) :=
  gi (((7 : Int32) * x0) + (2 : Int32)) 112 <|
  gi (((2 : Int32) * x1) + x2) 48 <|
  lb ((f_judges (((7 : Int32) * x0) + (2 : Int32)).toNatClampNeg) * (f_forwards (((2 : Int32) * x1) + x2).toNatClampNeg)) fun v3 =>
  mX11_sumOf_L27 x0 x1 x2 f_blowMany f_blows f_forwards f_homes f_judges f_noises  FUEL v3 (0 : Int32)
theorem hdsX11_sumOf : yX11_sumOf.cls ≠ "java/lang/invoke/MethodHandle" ∧ yX11_sumOf.cls ≠ "java/lang/invoke/VarHandle" ∧ (parseMethodDescriptor yX11_sumOf.desc).map (fun d => d.parameters.length) = some 3 := by decide +kernel
theorem hdvX11_sumOf : yX11_sumOf.cls = RX11 ∧ yX11_sumOf.cls ≠ "java/lang/invoke/MethodHandle" ∧ yX11_sumOf.cls ≠ "java/lang/invoke/VarHandle" ∧ (parseMethodDescriptor yX11_sumOf.desc).map (fun d => d.parameters.length) = some 3 := by decide +kernel
abbrev rmX11_sumOf : Room := { frames := 2, cells := 0, slots := 0, locals := 44 }
set_option maxHeartbeats 4000000 in
set_option maxRecDepth 100000 in
theorem qX11_sumOf (l : Launch) (X : XT) (a_this : Nat) (a_blowMany : Nat) (a_blows : Nat) (a_forwards : Nat) (a_homes : Nat) (a_judges : Nat) (a_noises : Nat) (a_text : Nat) (a_roundMany : Nat) (a_downs : Nat) (a_takens : Nat) (a_judgeMany : Nat) (a_delays : Nat) (a_tolds : Nat) (a_tens : Nat) (a_told : Nat) (a_ways : Nat) (a_nextWays : Nat) (a_tallies : Nat) (a_presses : Nat) (a_values : Nat) (a_nextValues : Nat)  (i_length : Int32) (i_keptMany : Int32) (i_place : Int32) (f_blowMany : Nat → Int32) (f_blows : Nat → Int32) (f_forwards : Nat → Int32) (f_homes : Nat → Int32) (f_judges : Nat → Int32) (f_noises : Nat → Int32) (x0 : Int32) (x1 : Int32) (x2 : Int32) (o : Int32) (hf : mX11_sumOf x0 x1 x2 f_blowMany f_blows f_forwards f_homes f_judges f_noises = some o) :
    MI l yX11_sumOf wsX11_sumOf rmX11_sumOf X [.ref a_this, .int x0, .int x1, .int x2] [(a_this, .inr (11, [.int i_length, .ref a_text, .ref a_roundMany, .ref a_blowMany, .ref a_blows, .ref a_forwards, .ref a_downs, .ref a_takens, .ref a_homes, .ref a_noises, .ref a_judgeMany, .ref a_judges, .ref a_delays, .ref a_tolds, .ref a_tens, .int i_keptMany, .int i_place, .ref a_told, .ref a_ways, .ref a_nextWays, .ref a_tallies, .ref a_presses, .ref a_values, .ref a_nextValues])), (a_blowMany, .inl (X.2.1 0, 2, .inl f_blowMany)), (a_blows, .inl (X.2.1 0, 400, .inl f_blows)), (a_forwards, .inl (X.2.1 0, 48, .inl f_forwards)), (a_homes, .inl (X.2.1 0, 2, .inl f_homes)), (a_judges, .inl (X.2.1 0, 112, .inl f_judges)), (a_noises, .inl (X.2.1 0, 2, .inl f_noises))]  [(a_this, .inr (11, [.int i_length, .ref a_text, .ref a_roundMany, .ref a_blowMany, .ref a_blows, .ref a_forwards, .ref a_downs, .ref a_takens, .ref a_homes, .ref a_noises, .ref a_judgeMany, .ref a_judges, .ref a_delays, .ref a_tolds, .ref a_tens, .int i_keptMany, .int i_place, .ref a_told, .ref a_ways, .ref a_nextWays, .ref a_tallies, .ref a_presses, .ref a_values, .ref a_nextValues])), (a_blowMany, .inl (X.2.1 0, 2, .inl f_blowMany)), (a_blows, .inl (X.2.1 0, 400, .inl f_blows)), (a_forwards, .inl (X.2.1 0, 48, .inl f_forwards)), (a_homes, .inl (X.2.1 0, 2, .inl f_homes)), (a_judges, .inl (X.2.1 0, 112, .inl f_judges)), (a_noises, .inl (X.2.1 0, 2, .inl f_noises))] o := by
  refine MI_ofH (cc := cX11_sumOf) (maxL := 8) (rt := .int) (by decide) rfl (Nat.le_of_ble_eq_true rfl) ?_
  intro p e s m below meth c A Q H ls hx hb hml hts hown hA hD hG hP hS hl ret
  have hown : s.vm.findClass RX11 = some m.cls := hown
  have hD : aD A [a_this, a_blowMany, a_blows, a_forwards, a_homes, a_judges, a_noises] := hD
  have hl : lv_has ls 8 [(0, .ref a_this), (1, .int x0), (2, .int x1), (3, .int x2)] := hl
  have w1 := hts (.fieldLink RX11 40 "ThreeCardsModel" "judges" "[I") (List.mem_of_getElem? (i := 1) rfl)
  have w2 := hts (.fieldLink RX11 22 "ThreeCardsModel" "forwards" "[I") (List.mem_of_getElem? (i := 2) rfl)
  have w3 := hts (.fieldLink RX11 16 "ThreeCardsModel" "blowMany" "[I") (List.mem_of_getElem? (i := 3) rfl)
  have w4 := hts (.fieldLink RX11 19 "ThreeCardsModel" "blows" "[I") (List.mem_of_getElem? (i := 4) rfl)
  have w5 := hts (.fieldLink RX11 31 "ThreeCardsModel" "homes" "[I") (List.mem_of_getElem? (i := 5) rfl)
  have w6 := hts (.fieldLink RX11 34 "ThreeCardsModel" "noises" "[I") (List.mem_of_getElem? (i := 6) rfl)
  have in11 : ∀ w ∈ u_ws RX11 TX11 24, w ∈ wsX11_sumOf := by decide +kernel
  have hB132 : ∀ (k27 : Int32 → Int32 → Option (Int32)) (hk27 : ∀ (l4 : Int32) (l5 : Int32)  (H : Heap) (locs : List Loc) (ls : Array Slot), va_P X.1 vwCl [(a_this, .inr (11, [.int i_length, .ref a_text, .ref a_roundMany, .ref a_blowMany, .ref a_blows, .ref a_forwards, .ref a_downs, .ref a_takens, .ref a_homes, .ref a_noises, .ref a_judgeMany, .ref a_judges, .ref a_delays, .ref a_tolds, .ref a_tens, .int i_keptMany, .int i_place, .ref a_told, .ref a_ways, .ref a_nextWays, .ref a_tallies, .ref a_presses, .ref a_values, .ref a_nextValues])), (a_blowMany, .inl (X.2.1 0, 2, .inl f_blowMany)), (a_blows, .inl (X.2.1 0, 400, .inl f_blows)), (a_forwards, .inl (X.2.1 0, 48, .inl f_forwards)), (a_homes, .inl (X.2.1 0, 2, .inl f_homes)), (a_judges, .inl (X.2.1 0, 112, .inl f_judges)), (a_noises, .inl (X.2.1 0, 2, .inl f_noises))] H → va_S A s.heap H locs → lv_has ls 8 [(0, .ref a_this), (1, .int x0), (2, .int x1), (3, .int x2), (4, .int l4), (5, .int l5)] → k27 l4 l5 = some o → W p l e rmX11_sumOf s m ([.ref a_this, .int x0, .int x1, .int x2] : List Value).toArray below meth c H locs 0 0 Q (F0 m 27 ls [])) (l4 : Int32) (l5 : Int32) (l6 : Int32) (s0 : Int32)  (H : Heap) (locs : List Loc) (ls : Array Slot), va_P X.1 vwCl [(a_this, .inr (11, [.int i_length, .ref a_text, .ref a_roundMany, .ref a_blowMany, .ref a_blows, .ref a_forwards, .ref a_downs, .ref a_takens, .ref a_homes, .ref a_noises, .ref a_judgeMany, .ref a_judges, .ref a_delays, .ref a_tolds, .ref a_tens, .int i_keptMany, .int i_place, .ref a_told, .ref a_ways, .ref a_nextWays, .ref a_tallies, .ref a_presses, .ref a_values, .ref a_nextValues])), (a_blowMany, .inl (X.2.1 0, 2, .inl f_blowMany)), (a_blows, .inl (X.2.1 0, 400, .inl f_blows)), (a_forwards, .inl (X.2.1 0, 48, .inl f_forwards)), (a_homes, .inl (X.2.1 0, 2, .inl f_homes)), (a_judges, .inl (X.2.1 0, 112, .inl f_judges)), (a_noises, .inl (X.2.1 0, 2, .inl f_noises))] H → va_S A s.heap H locs → lv_has ls 8 [(0, .ref a_this), (1, .int x0), (2, .int x1), (3, .int x2), (4, .int l4), (5, .int l5), (6, .int l6)] → mX11_sumOf_B132 x0 x1 x2 f_blowMany f_blows f_forwards f_homes f_judges f_noises k27 l4 l5 l6 s0 = some o → W p l e rmX11_sumOf s m ([.ref a_this, .int x0, .int x1, .int x2] : List Value).toArray below meth c H locs 0 0 Q (F0 m 132 ls [.int s0]) := by
    intro k27 hk27 l4 l5 l6 s0  H locs ls hP hS hl hf
    unfold mX11_sumOf_B132 at hf
    refine lv_istore (lv' := [(7, .int s0), (0, .ref a_this), (1, .int x0), (2, .int x1), (3, .int x2), (4, .int l4), (5, .int l5), (6, .int l6)]) hx hb dX11_sumOf_132 hl (by decide) rfl (fun ls hl => ?_)
    refine lv_iload hx hb dX11_sumOf_134 (lv_at hl 5 rfl) ?_
    refine lv_aload_n hx hb dX11_sumOf_136 rfl (lv_at hl 1 rfl) ?_
    refine lv_iload_n hx hb dX11_sumOf_137 rfl (lv_at hl 2 rfl) ?_
    refine lv_iload hx hb dX11_sumOf_138 (lv_at hl 6 rfl) ?_
    obtain ⟨o16, ho16, hf⟩ := ob_s hf
    refine xV_i (As := [.int x0, .int l5]) (b := a_this) (rest := [.int l4]) (ws2 := [(a_this, .inr (11, [.int i_length, .ref a_text, .ref a_roundMany, .ref a_blowMany, .ref a_blows, .ref a_forwards, .ref a_downs, .ref a_takens, .ref a_homes, .ref a_noises, .ref a_judgeMany, .ref a_judges, .ref a_delays, .ref a_tolds, .ref a_tens, .int i_keptMany, .int i_place, .ref a_told, .ref a_ways, .ref a_nextWays, .ref a_tallies, .ref a_presses, .ref a_values, .ref a_nextValues])), (a_blowMany, .inl (X.2.1 0, 2, .inl f_blowMany)), (a_blows, .inl (X.2.1 0, 400, .inl f_blows)), (a_forwards, .inl (X.2.1 0, 48, .inl f_forwards)), (a_homes, .inl (X.2.1 0, 2, .inl f_homes)), (a_judges, .inl (X.2.1 0, 112, .inl f_judges)), (a_noises, .inl (X.2.1 0, 2, .inl f_noises))]) hx hb hml hts hown hG hA hP hD rfl hS hl.1 (qX11_sees l X a_this a_blows a_judges a_text a_roundMany a_blowMany a_forwards a_downs a_takens a_homes a_noises a_judgeMany a_delays a_tolds a_tens a_told a_ways a_nextWays a_tallies a_presses a_values a_nextValues i_length i_keptMany i_place f_blows f_judges x0 l5 o16 ho16) (cwV (y := yX11_sees) 2 hts gX11_sumOf_X11_sees rfl rfl rfl hdvX11_sees ⟨Nat.le_of_ble_eq_true rfl, Nat.le_of_ble_eq_true rfl⟩) [0, 2, 5] [1, 3, 4, 6] [4, 0, 5, 1, 2, 6, 3] rfl rfl rfl rfl rfl rfl rfl (ci := 11) rfl 0 rfl rfl rfl (Nat.le_of_ble_eq_true rfl) ⟨Nat.le_of_ble_eq_true rfl, Nat.le_of_ble_eq_true rfl⟩ dX11_sumOf_140 (fun H locs hP _ hS => ?_)
    refine lv_if_eq (tgt := 175) hx hb dX11_sumOf_143 (by decide) (fun c18 => ?_) (fun c18 => ?_)
    · have hf := xt hf c18
      refine lv_iload hx hb dX11_sumOf_175 (lv_at hl 0 rfl) ?_
      refine lv_iadd hx hb dX11_sumOf_177 ?_
      refine lv_topi (fun v19 ev19 => ?_)
      have hf := lb_s hf ev19
      refine lv_istore (lv' := [(4, .int v19), (7, .int s0), (0, .ref a_this), (1, .int x0), (2, .int x1), (3, .int x2), (5, .int l5), (6, .int l6)]) hx hb dX11_sumOf_178 hl (by decide) rfl (fun ls hl => ?_)
      obtain ⟨v20, ev20, hf⟩ := lb_g hf
      refine lv_iinc (v := v20) (lv' := [(5, .int v20), (4, .int v19), (7, .int s0), (0, .ref a_this), (1, .int x0), (2, .int x1), (3, .int x2), (6, .int l6)]) hx hb dX11_sumOf_180 hl (k := 6) rfl ev20.symm (by decide) rfl (fun ls hl => ?_)
      refine lv_goto (tgt := 27) hx hb dX11_sumOf_183 (by decide) ?_
      exact hk27 v19 v20  H _ ls hP  hS (lv_sub hl [3, 4, 5, 6, 1, 0] rfl) hf
    · have hf := xf hf c18
      refine lv_aload_n hx hb dX11_sumOf_146 rfl (lv_at hl 1 rfl) ?_
      refine va_get (D := X.1) (ci := 11) (v := .ref a_judges) (C := RX11) (T := TX11) (N := 24) hx hb hts in11 hown hG.1 hP 0 rfl rfl 11 (by decide) w1 (fun _ h9 => h9) rfl dX11_sumOf_147 ?_
      refine lv_bipush (v := (7 : Int32)) hx hb dX11_sumOf_150 (by decide) ?_
      refine lv_iload_n hx hb dX11_sumOf_152 rfl (lv_at hl 2 rfl) ?_
      refine lv_imul hx hb dX11_sumOf_153 ?_
      refine lv_iconst (v := (1 : Int32)) hx hb dX11_sumOf_154 (by decide) ?_
      refine lv_iadd hx hb dX11_sumOf_155 ?_
      obtain ⟨h21, hf⟩ := gi_s hf
      refine va_iald (D := X.1) hx hb hG.1 hP 5 0 rfl rfl h21 dX11_sumOf_156 ?_
      refine lv_aload_n hx hb dX11_sumOf_157 rfl (lv_at hl 1 rfl) ?_
      refine va_get (D := X.1) (ci := 11) (v := .ref a_blows) (C := RX11) (T := TX11) (N := 24) hx hb hts in11 hown hG.1 hP 0 rfl rfl 4 (by decide) w4 (fun _ h9 => h9) rfl dX11_sumOf_158 ?_
      refine lv_iconst (v := (5 : Int32)) hx hb dX11_sumOf_161 (by decide) ?_
      refine lv_iload hx hb dX11_sumOf_162 (lv_at hl 6 rfl) ?_
      refine lv_imul hx hb dX11_sumOf_164 ?_
      refine lv_iconst (v := (3 : Int32)) hx hb dX11_sumOf_165 (by decide) ?_
      refine lv_iadd hx hb dX11_sumOf_166 ?_
      obtain ⟨h22, hf⟩ := gi_s hf
      refine va_iald (D := X.1) hx hb hG.1 hP 2 0 rfl rfl h22 dX11_sumOf_167 ?_
      refine lv_imul hx hb dX11_sumOf_168 ?_
      refine lv_iload hx hb dX11_sumOf_169 (lv_at hl 7 rfl) ?_
      refine lv_imul hx hb dX11_sumOf_171 ?_
      refine lv_goto (tgt := 177) hx hb dX11_sumOf_172 (by decide) ?_
      refine lv_iadd hx hb dX11_sumOf_177 ?_
      refine lv_topi (fun v23 ev23 => ?_)
      have hf := lb_s hf ev23
      refine lv_istore (lv' := [(4, .int v23), (7, .int s0), (0, .ref a_this), (1, .int x0), (2, .int x1), (3, .int x2), (5, .int l5), (6, .int l6)]) hx hb dX11_sumOf_178 hl (by decide) rfl (fun ls hl => ?_)
      obtain ⟨v24, ev24, hf⟩ := lb_g hf
      refine lv_iinc (v := v24) (lv' := [(5, .int v24), (4, .int v23), (7, .int s0), (0, .ref a_this), (1, .int x0), (2, .int x1), (3, .int x2), (6, .int l6)]) hx hb dX11_sumOf_180 hl (k := 6) rfl ev24.symm (by decide) rfl (fun ls hl => ?_)
      refine lv_goto (tgt := 27) hx hb dX11_sumOf_183 (by decide) ?_
      exact hk27 v23 v24  H _ ls hP  hS (lv_sub hl [3, 4, 5, 6, 1, 0] rfl) hf
  have hB98 : ∀ (k27 : Int32 → Int32 → Option (Int32)) (hk27 : ∀ (l4 : Int32) (l5 : Int32)  (H : Heap) (locs : List Loc) (ls : Array Slot), va_P X.1 vwCl [(a_this, .inr (11, [.int i_length, .ref a_text, .ref a_roundMany, .ref a_blowMany, .ref a_blows, .ref a_forwards, .ref a_downs, .ref a_takens, .ref a_homes, .ref a_noises, .ref a_judgeMany, .ref a_judges, .ref a_delays, .ref a_tolds, .ref a_tens, .int i_keptMany, .int i_place, .ref a_told, .ref a_ways, .ref a_nextWays, .ref a_tallies, .ref a_presses, .ref a_values, .ref a_nextValues])), (a_blowMany, .inl (X.2.1 0, 2, .inl f_blowMany)), (a_blows, .inl (X.2.1 0, 400, .inl f_blows)), (a_forwards, .inl (X.2.1 0, 48, .inl f_forwards)), (a_homes, .inl (X.2.1 0, 2, .inl f_homes)), (a_judges, .inl (X.2.1 0, 112, .inl f_judges)), (a_noises, .inl (X.2.1 0, 2, .inl f_noises))] H → va_S A s.heap H locs → lv_has ls 8 [(0, .ref a_this), (1, .int x0), (2, .int x1), (3, .int x2), (4, .int l4), (5, .int l5)] → k27 l4 l5 = some o → W p l e rmX11_sumOf s m ([.ref a_this, .int x0, .int x1, .int x2] : List Value).toArray below meth c H locs 0 0 Q (F0 m 27 ls [])) (l4 : Int32) (l5 : Int32) (s0 : Int32)  (H : Heap) (locs : List Loc) (ls : Array Slot), va_P X.1 vwCl [(a_this, .inr (11, [.int i_length, .ref a_text, .ref a_roundMany, .ref a_blowMany, .ref a_blows, .ref a_forwards, .ref a_downs, .ref a_takens, .ref a_homes, .ref a_noises, .ref a_judgeMany, .ref a_judges, .ref a_delays, .ref a_tolds, .ref a_tens, .int i_keptMany, .int i_place, .ref a_told, .ref a_ways, .ref a_nextWays, .ref a_tallies, .ref a_presses, .ref a_values, .ref a_nextValues])), (a_blowMany, .inl (X.2.1 0, 2, .inl f_blowMany)), (a_blows, .inl (X.2.1 0, 400, .inl f_blows)), (a_forwards, .inl (X.2.1 0, 48, .inl f_forwards)), (a_homes, .inl (X.2.1 0, 2, .inl f_homes)), (a_judges, .inl (X.2.1 0, 112, .inl f_judges)), (a_noises, .inl (X.2.1 0, 2, .inl f_noises))] H → va_S A s.heap H locs → lv_has ls 8 [(0, .ref a_this), (1, .int x0), (2, .int x1), (3, .int x2), (4, .int l4), (5, .int l5)] → mX11_sumOf_B98 x0 x1 x2 f_blowMany f_blows f_forwards f_homes f_judges f_noises k27 l4 l5 s0 = some o → W p l e rmX11_sumOf s m ([.ref a_this, .int x0, .int x1, .int x2] : List Value).toArray below meth c H locs 0 0 Q (F0 m 98 ls [.int s0]) := by
    intro k27 hk27 l4 l5 s0  H locs ls hP hS hl hf
    unfold mX11_sumOf_B98 at hf
    refine lv_istore (lv' := [(6, .int s0), (0, .ref a_this), (1, .int x0), (2, .int x1), (3, .int x2), (4, .int l4), (5, .int l5)]) hx hb dX11_sumOf_98 hl (by decide) rfl (fun ls hl => ?_)
    refine lv_aload_n hx hb dX11_sumOf_100 rfl (lv_at hl 1 rfl) ?_
    refine va_get (D := X.1) (ci := 11) (v := .ref a_homes) (C := RX11) (T := TX11) (N := 24) hx hb hts in11 hown hG.1 hP 0 rfl rfl 8 (by decide) w5 (fun _ h9 => h9) rfl dX11_sumOf_101 ?_
    refine lv_iconst (v := (0 : Int32)) hx hb dX11_sumOf_104 (by decide) ?_
    refine va_iald (D := X.1) hx hb hG.1 hP 4 0 rfl rfl (vp_lit (by decide)) dX11_sumOf_105 ?_
    refine lv_iload_n hx hb dX11_sumOf_106 rfl (lv_at hl 4 rfl) ?_
    refine lv_icmp_ne (tgt := 131) hx hb dX11_sumOf_107 (by decide) (fun c14 => ?_) (fun c14 => ?_)
    · have hf := xf hf c14
      refine lv_iconst (v := (0 : Int32)) hx hb dX11_sumOf_131 (by decide) ?_
      exact hB132 k27 hk27 l4 l5 s0 (0 : Int32)  H _ ls hP  hS (lv_sub hl [1, 2, 3, 4, 5, 6, 0] rfl) hf
    · have hf := xt hf c14
      refine lv_aload_n hx hb dX11_sumOf_110 rfl (lv_at hl 1 rfl) ?_
      refine va_get (D := X.1) (ci := 11) (v := .ref a_noises) (C := RX11) (T := TX11) (N := 24) hx hb hts in11 hown hG.1 hP 0 rfl rfl 9 (by decide) w6 (fun _ h9 => h9) rfl dX11_sumOf_111 ?_
      refine lv_iconst (v := (0 : Int32)) hx hb dX11_sumOf_114 (by decide) ?_
      refine va_iald (D := X.1) hx hb hG.1 hP 6 0 rfl rfl (vp_lit (by decide)) dX11_sumOf_115 ?_
      refine lv_aload_n hx hb dX11_sumOf_116 rfl (lv_at hl 1 rfl) ?_
      refine va_get (D := X.1) (ci := 11) (v := .ref a_judges) (C := RX11) (T := TX11) (N := 24) hx hb hts in11 hown hG.1 hP 0 rfl rfl 11 (by decide) w1 (fun _ h9 => h9) rfl dX11_sumOf_117 ?_
      refine lv_bipush (v := (7 : Int32)) hx hb dX11_sumOf_120 (by decide) ?_
      refine lv_iload_n hx hb dX11_sumOf_122 rfl (lv_at hl 2 rfl) ?_
      refine lv_imul hx hb dX11_sumOf_123 ?_
      refine lv_iconst (v := (5 : Int32)) hx hb dX11_sumOf_124 (by decide) ?_
      refine lv_iadd hx hb dX11_sumOf_125 ?_
      obtain ⟨h15, hf⟩ := gi_s hf
      refine va_iald (D := X.1) hx hb hG.1 hP 5 0 rfl rfl h15 dX11_sumOf_126 ?_
      refine lv_imul hx hb dX11_sumOf_127 ?_
      refine lv_goto (tgt := 132) hx hb dX11_sumOf_128 (by decide) ?_
      exact hB132 k27 hk27 l4 l5 s0 ((f_noises (0 : Int32).toNatClampNeg) * (f_judges (((7 : Int32) * x0) + (5 : Int32)).toNatClampNeg))  H _ ls hP  hS (lv_sub hl [1, 2, 3, 4, 5, 6, 0] rfl) hf
  have hL27 : ∀ (n : Nat) (l4 : Int32) (l5 : Int32)  (H : Heap) (locs : List Loc) (ls : Array Slot), va_P X.1 vwCl [(a_this, .inr (11, [.int i_length, .ref a_text, .ref a_roundMany, .ref a_blowMany, .ref a_blows, .ref a_forwards, .ref a_downs, .ref a_takens, .ref a_homes, .ref a_noises, .ref a_judgeMany, .ref a_judges, .ref a_delays, .ref a_tolds, .ref a_tens, .int i_keptMany, .int i_place, .ref a_told, .ref a_ways, .ref a_nextWays, .ref a_tallies, .ref a_presses, .ref a_values, .ref a_nextValues])), (a_blowMany, .inl (X.2.1 0, 2, .inl f_blowMany)), (a_blows, .inl (X.2.1 0, 400, .inl f_blows)), (a_forwards, .inl (X.2.1 0, 48, .inl f_forwards)), (a_homes, .inl (X.2.1 0, 2, .inl f_homes)), (a_judges, .inl (X.2.1 0, 112, .inl f_judges)), (a_noises, .inl (X.2.1 0, 2, .inl f_noises))] H → va_S A s.heap H locs → lv_has ls 8 [(0, .ref a_this), (1, .int x0), (2, .int x1), (3, .int x2), (4, .int l4), (5, .int l5)] → mX11_sumOf_L27 x0 x1 x2 f_blowMany f_blows f_forwards f_homes f_judges f_noises  n l4 l5 = some o → W p l e rmX11_sumOf s m ([.ref a_this, .int x0, .int x1, .int x2] : List Value).toArray below meth c H locs 0 0 Q (F0 m 27 ls []) := by
    intro n
    induction n with
    | zero => intro l4 l5  H locs ls hP hS hl hf; exact xn hf
    | succ n ih =>
      intro l4 l5  H locs ls hP hS hl hf
      have hf : mX11_sumOf_B27 x0 x1 x2 f_blowMany f_blows f_forwards f_homes f_judges f_noises  (mX11_sumOf_L27 x0 x1 x2 f_blowMany f_blows f_forwards f_homes f_judges f_noises  n) l4 l5 = some o := hf
      generalize mX11_sumOf_L27 x0 x1 x2 f_blowMany f_blows f_forwards f_homes f_judges f_noises  n = k27 at ih hf
      unfold mX11_sumOf_B27 at hf
      refine lv_iload hx hb dX11_sumOf_27 (lv_at hl 5 rfl) ?_
      refine lv_aload_n hx hb dX11_sumOf_29 rfl (lv_at hl 0 rfl) ?_
      refine va_get (D := X.1) (ci := 11) (v := .ref a_blowMany) (C := RX11) (T := TX11) (N := 24) hx hb hts in11 hown hG.1 hP 0 rfl rfl 3 (by decide) w3 (fun _ h9 => h9) rfl dX11_sumOf_30 ?_
      refine lv_iconst (v := (0 : Int32)) hx hb dX11_sumOf_33 (by decide) ?_
      refine va_iald (D := X.1) hx hb hG.1 hP 1 0 rfl rfl (vp_lit (by decide)) dX11_sumOf_34 ?_
      refine lv_icmp_ge (tgt := 186) hx hb dX11_sumOf_35 (by decide) (fun c4 => ?_) (fun c4 => ?_)
      · have hf := xt hf c4
        refine lv_iload hx hb dX11_sumOf_186 (lv_at hl 4 rfl) ?_
        obtain rfl := Option.some.inj hf
        exact ret H _ ls _ rfl hP hD hS dX11_sumOf_188
      · have hf := xf hf c4
        refine lv_aload_n hx hb dX11_sumOf_38 rfl (lv_at hl 0 rfl) ?_
        refine va_get (D := X.1) (ci := 11) (v := .ref a_blows) (C := RX11) (T := TX11) (N := 24) hx hb hts in11 hown hG.1 hP 0 rfl rfl 4 (by decide) w4 (fun _ h9 => h9) rfl dX11_sumOf_39 ?_
        refine lv_iconst (v := (5 : Int32)) hx hb dX11_sumOf_42 (by decide) ?_
        refine lv_iload hx hb dX11_sumOf_43 (lv_at hl 5 rfl) ?_
        refine lv_imul hx hb dX11_sumOf_45 ?_
        obtain ⟨h5, hf⟩ := gi_s hf
        refine va_iald (D := X.1) hx hb hG.1 hP 2 0 rfl rfl h5 dX11_sumOf_46 ?_
        refine lv_iload_n hx hb dX11_sumOf_47 rfl (lv_at hl 2 rfl) ?_
        refine lv_icmp_ne (tgt := 180) hx hb dX11_sumOf_48 (by decide) (fun c6 => ?_) (fun c6 => ?_)
        · have hf := xf hf c6
          obtain ⟨v7, ev7, hf⟩ := lb_g hf
          refine lv_iinc (v := v7) (lv' := [(5, .int v7), (0, .ref a_this), (1, .int x0), (2, .int x1), (3, .int x2), (4, .int l4)]) hx hb dX11_sumOf_180 hl (k := 5) rfl ev7.symm (by decide) rfl (fun ls hl => ?_)
          refine lv_goto (tgt := 27) hx hb dX11_sumOf_183 (by decide) ?_
          exact ih l4 v7  H _ ls hP  hS (lv_sub hl [1, 2, 3, 4, 5, 0] rfl) hf
        · have hf := xt hf c6
          refine lv_aload_n hx hb dX11_sumOf_51 rfl (lv_at hl 0 rfl) ?_
          refine va_get (D := X.1) (ci := 11) (v := .ref a_blows) (C := RX11) (T := TX11) (N := 24) hx hb hts in11 hown hG.1 hP 0 rfl rfl 4 (by decide) w4 (fun _ h9 => h9) rfl dX11_sumOf_52 ?_
          refine lv_iconst (v := (5 : Int32)) hx hb dX11_sumOf_55 (by decide) ?_
          refine lv_iload hx hb dX11_sumOf_56 (lv_at hl 5 rfl) ?_
          refine lv_imul hx hb dX11_sumOf_58 ?_
          refine lv_iconst (v := (2 : Int32)) hx hb dX11_sumOf_59 (by decide) ?_
          refine lv_iadd hx hb dX11_sumOf_60 ?_
          obtain ⟨h8, hf⟩ := gi_s hf
          refine va_iald (D := X.1) hx hb hG.1 hP 2 0 rfl rfl h8 dX11_sumOf_61 ?_
          refine lv_iload_n hx hb dX11_sumOf_62 rfl (lv_at hl 3 rfl) ?_
          refine lv_icmp_ne (tgt := 180) hx hb dX11_sumOf_63 (by decide) (fun c9 => ?_) (fun c9 => ?_)
          · have hf := xf hf c9
            obtain ⟨v10, ev10, hf⟩ := lb_g hf
            refine lv_iinc (v := v10) (lv' := [(5, .int v10), (0, .ref a_this), (1, .int x0), (2, .int x1), (3, .int x2), (4, .int l4)]) hx hb dX11_sumOf_180 hl (k := 5) rfl ev10.symm (by decide) rfl (fun ls hl => ?_)
            refine lv_goto (tgt := 27) hx hb dX11_sumOf_183 (by decide) ?_
            exact ih l4 v10  H _ ls hP  hS (lv_sub hl [1, 2, 3, 4, 5, 0] rfl) hf
          · have hf := xt hf c9
            refine lv_aload_n hx hb dX11_sumOf_66 rfl (lv_at hl 0 rfl) ?_
            refine va_get (D := X.1) (ci := 11) (v := .ref a_blows) (C := RX11) (T := TX11) (N := 24) hx hb hts in11 hown hG.1 hP 0 rfl rfl 4 (by decide) w4 (fun _ h9 => h9) rfl dX11_sumOf_67 ?_
            refine lv_iconst (v := (5 : Int32)) hx hb dX11_sumOf_70 (by decide) ?_
            refine lv_iload hx hb dX11_sumOf_71 (lv_at hl 5 rfl) ?_
            refine lv_imul hx hb dX11_sumOf_73 ?_
            refine lv_iconst (v := (1 : Int32)) hx hb dX11_sumOf_74 (by decide) ?_
            refine lv_iadd hx hb dX11_sumOf_75 ?_
            obtain ⟨h11, hf⟩ := gi_s hf
            refine va_iald (D := X.1) hx hb hG.1 hP 2 0 rfl rfl h11 dX11_sumOf_76 ?_
            refine lv_sipush (v := (170 : Int32)) hx hb dX11_sumOf_77 (by decide) ?_
            refine lv_icmp_lt (tgt := 97) hx hb dX11_sumOf_80 (by decide) (fun c12 => ?_) (fun c12 => ?_)
            · have hf := xt hf c12
              refine lv_iconst (v := (1 : Int32)) hx hb dX11_sumOf_97 (by decide) ?_
              exact hB98 k27 ih l4 l5 (1 : Int32)  H _ ls hP  hS (lv_sub hl [0, 1, 2, 3, 4, 5] rfl) hf
            · have hf := xf hf c12
              refine lv_aload_n hx hb dX11_sumOf_83 rfl (lv_at hl 0 rfl) ?_
              refine va_get (D := X.1) (ci := 11) (v := .ref a_judges) (C := RX11) (T := TX11) (N := 24) hx hb hts in11 hown hG.1 hP 0 rfl rfl 11 (by decide) w1 (fun _ h9 => h9) rfl dX11_sumOf_84 ?_
              refine lv_bipush (v := (7 : Int32)) hx hb dX11_sumOf_87 (by decide) ?_
              refine lv_iload_n hx hb dX11_sumOf_89 rfl (lv_at hl 1 rfl) ?_
              refine lv_imul hx hb dX11_sumOf_90 ?_
              refine lv_iconst (v := (4 : Int32)) hx hb dX11_sumOf_91 (by decide) ?_
              refine lv_iadd hx hb dX11_sumOf_92 ?_
              obtain ⟨h13, hf⟩ := gi_s hf
              refine va_iald (D := X.1) hx hb hG.1 hP 5 0 rfl rfl h13 dX11_sumOf_93 ?_
              refine lv_goto (tgt := 98) hx hb dX11_sumOf_94 (by decide) ?_
              exact hB98 k27 ih l4 l5 (f_judges (((7 : Int32) * x0) + (4 : Int32)).toNatClampNeg)  H _ ls hP  hS (lv_sub hl [0, 1, 2, 3, 4, 5] rfl) hf
  unfold mX11_sumOf at hf
  refine lv_aload_n hx hb dX11_sumOf_0 rfl (lv_at hl 0 rfl) ?_
  refine va_get (D := X.1) (ci := 11) (v := .ref a_judges) (C := RX11) (T := TX11) (N := 24) hx hb hts in11 hown hG.1 hP 0 rfl rfl 11 (by decide) w1 (fun _ h9 => h9) rfl dX11_sumOf_1 ?_
  refine lv_bipush (v := (7 : Int32)) hx hb dX11_sumOf_4 (by decide) ?_
  refine lv_iload_n hx hb dX11_sumOf_6 rfl (lv_at hl 1 rfl) ?_
  refine lv_imul hx hb dX11_sumOf_7 ?_
  refine lv_iconst (v := (2 : Int32)) hx hb dX11_sumOf_8 (by decide) ?_
  refine lv_iadd hx hb dX11_sumOf_9 ?_
  obtain ⟨h1, hf⟩ := gi_s hf
  refine va_iald (D := X.1) hx hb hG.1 hP 5 0 rfl rfl h1 dX11_sumOf_10 ?_
  refine lv_aload_n hx hb dX11_sumOf_11 rfl (lv_at hl 0 rfl) ?_
  refine va_get (D := X.1) (ci := 11) (v := .ref a_forwards) (C := RX11) (T := TX11) (N := 24) hx hb hts in11 hown hG.1 hP 0 rfl rfl 5 (by decide) w2 (fun _ h9 => h9) rfl dX11_sumOf_12 ?_
  refine lv_iconst (v := (2 : Int32)) hx hb dX11_sumOf_15 (by decide) ?_
  refine lv_iload_n hx hb dX11_sumOf_16 rfl (lv_at hl 2 rfl) ?_
  refine lv_imul hx hb dX11_sumOf_17 ?_
  refine lv_iload_n hx hb dX11_sumOf_18 rfl (lv_at hl 3 rfl) ?_
  refine lv_iadd hx hb dX11_sumOf_19 ?_
  obtain ⟨h2, hf⟩ := gi_s hf
  refine va_iald (D := X.1) hx hb hG.1 hP 3 0 rfl rfl h2 dX11_sumOf_20 ?_
  refine lv_imul hx hb dX11_sumOf_21 ?_
  refine lv_topi (fun v3 ev3 => ?_)
  have hf := lb_s hf ev3
  refine lv_istore (lv' := [(4, .int v3), (0, .ref a_this), (1, .int x0), (2, .int x1), (3, .int x2)]) hx hb dX11_sumOf_22 hl (by decide) rfl (fun ls hl => ?_)
  refine lv_iconst (v := (0 : Int32)) hx hb dX11_sumOf_24 (by decide) ?_
  refine lv_istore (lv' := [(5, .int (0 : Int32)), (4, .int v3), (0, .ref a_this), (1, .int x0), (2, .int x1), (3, .int x2)]) hx hb dX11_sumOf_25 hl (by decide) rfl (fun ls hl => ?_)
  exact hL27  FUEL v3 (0 : Int32)  H _ ls hP  hS (lv_sub hl [2, 3, 4, 5, 1, 0] rfl) hf
def mX11_leadOf (x0 : Int32) (x1 : Int32) (f_blowMany : Nat → Int32) (f_blows : Nat → Int32) (f_forwards : Nat → Int32) (f_homes : Nat → Int32) (f_judges : Nat → Int32) (f_noises : Nat → Int32) :
  Option (Int32) :=
  (mX11_sumOf x0 x1 (0 : Int32) f_blowMany f_blows f_forwards f_homes f_judges f_noises).bind fun o1 =>
  (mX11_sumOf x0 x1 (1 : Int32) f_blowMany f_blows f_forwards f_homes f_judges f_noises).bind fun o3 =>
  gi (((7 : Int32) * x0) + (3 : Int32)) 112 <|
  lb (((o1 - o3) + (f_judges (((7 : Int32) * x0) + (3 : Int32)).toNatClampNeg)) - (20 : Int32)) fun v6 =>
  some v6
theorem hdsX11_leadOf : yX11_leadOf.cls ≠ "java/lang/invoke/MethodHandle" ∧ yX11_leadOf.cls ≠ "java/lang/invoke/VarHandle" ∧ (parseMethodDescriptor yX11_leadOf.desc).map (fun d => d.parameters.length) = some 2 := by decide +kernel
theorem hdvX11_leadOf : yX11_leadOf.cls = RX11 ∧ yX11_leadOf.cls ≠ "java/lang/invoke/MethodHandle" ∧ yX11_leadOf.cls ≠ "java/lang/invoke/VarHandle" ∧ (parseMethodDescriptor yX11_leadOf.desc).map (fun d => d.parameters.length) = some 2 := by decide +kernel
abbrev rmX11_leadOf : Room := { frames := 3, cells := 0, slots := 0, locals := 71 }
set_option maxHeartbeats 4000000 in
set_option maxRecDepth 100000 in
theorem qX11_leadOf (l : Launch) (X : XT) (a_this : Nat) (a_blowMany : Nat) (a_blows : Nat) (a_forwards : Nat) (a_homes : Nat) (a_judges : Nat) (a_noises : Nat) (a_text : Nat) (a_roundMany : Nat) (a_downs : Nat) (a_takens : Nat) (a_judgeMany : Nat) (a_delays : Nat) (a_tolds : Nat) (a_tens : Nat) (a_told : Nat) (a_ways : Nat) (a_nextWays : Nat) (a_tallies : Nat) (a_presses : Nat) (a_values : Nat) (a_nextValues : Nat)  (i_length : Int32) (i_keptMany : Int32) (i_place : Int32) (f_blowMany : Nat → Int32) (f_blows : Nat → Int32) (f_forwards : Nat → Int32) (f_homes : Nat → Int32) (f_judges : Nat → Int32) (f_noises : Nat → Int32) (x0 : Int32) (x1 : Int32) (o : Int32) (hf : mX11_leadOf x0 x1 f_blowMany f_blows f_forwards f_homes f_judges f_noises = some o) :
    MI l yX11_leadOf wsX11_leadOf rmX11_leadOf X [.ref a_this, .int x0, .int x1] [(a_this, .inr (11, [.int i_length, .ref a_text, .ref a_roundMany, .ref a_blowMany, .ref a_blows, .ref a_forwards, .ref a_downs, .ref a_takens, .ref a_homes, .ref a_noises, .ref a_judgeMany, .ref a_judges, .ref a_delays, .ref a_tolds, .ref a_tens, .int i_keptMany, .int i_place, .ref a_told, .ref a_ways, .ref a_nextWays, .ref a_tallies, .ref a_presses, .ref a_values, .ref a_nextValues])), (a_blowMany, .inl (X.2.1 0, 2, .inl f_blowMany)), (a_blows, .inl (X.2.1 0, 400, .inl f_blows)), (a_forwards, .inl (X.2.1 0, 48, .inl f_forwards)), (a_homes, .inl (X.2.1 0, 2, .inl f_homes)), (a_judges, .inl (X.2.1 0, 112, .inl f_judges)), (a_noises, .inl (X.2.1 0, 2, .inl f_noises))]  [(a_this, .inr (11, [.int i_length, .ref a_text, .ref a_roundMany, .ref a_blowMany, .ref a_blows, .ref a_forwards, .ref a_downs, .ref a_takens, .ref a_homes, .ref a_noises, .ref a_judgeMany, .ref a_judges, .ref a_delays, .ref a_tolds, .ref a_tens, .int i_keptMany, .int i_place, .ref a_told, .ref a_ways, .ref a_nextWays, .ref a_tallies, .ref a_presses, .ref a_values, .ref a_nextValues])), (a_blowMany, .inl (X.2.1 0, 2, .inl f_blowMany)), (a_blows, .inl (X.2.1 0, 400, .inl f_blows)), (a_forwards, .inl (X.2.1 0, 48, .inl f_forwards)), (a_homes, .inl (X.2.1 0, 2, .inl f_homes)), (a_judges, .inl (X.2.1 0, 112, .inl f_judges)), (a_noises, .inl (X.2.1 0, 2, .inl f_noises))] o := by
  refine MI_ofH (cc := cX11_leadOf) (maxL := 3) (rt := .int) (by decide) rfl (Nat.le_of_ble_eq_true rfl) ?_
  intro p e s m below meth c A Q H ls hx hb hml hts hown hA hD hG hP hS hl ret
  have hown : s.vm.findClass RX11 = some m.cls := hown
  have hD : aD A [a_this, a_blowMany, a_blows, a_forwards, a_homes, a_judges, a_noises] := hD
  have hl : lv_has ls 3 [(0, .ref a_this), (1, .int x0), (2, .int x1)] := hl
  have w1 := hts (.fieldLink RX11 40 "ThreeCardsModel" "judges" "[I") (List.mem_of_getElem? (i := 1) rfl)
  have in11 : ∀ w ∈ u_ws RX11 TX11 24, w ∈ wsX11_leadOf := by decide +kernel
  unfold mX11_leadOf at hf
  refine lv_aload_n hx hb dX11_leadOf_0 rfl (lv_at hl 0 rfl) ?_
  refine lv_iload_n hx hb dX11_leadOf_1 rfl (lv_at hl 1 rfl) ?_
  refine lv_iload_n hx hb dX11_leadOf_2 rfl (lv_at hl 2 rfl) ?_
  refine lv_iconst (v := (0 : Int32)) hx hb dX11_leadOf_3 (by decide) ?_
  obtain ⟨o1, ho1, hf⟩ := ob_s hf
  refine xV_i (As := [.int x0, .int x1, .int (0 : Int32)]) (b := a_this) (rest := []) (ws2 := [(a_this, .inr (11, [.int i_length, .ref a_text, .ref a_roundMany, .ref a_blowMany, .ref a_blows, .ref a_forwards, .ref a_downs, .ref a_takens, .ref a_homes, .ref a_noises, .ref a_judgeMany, .ref a_judges, .ref a_delays, .ref a_tolds, .ref a_tens, .int i_keptMany, .int i_place, .ref a_told, .ref a_ways, .ref a_nextWays, .ref a_tallies, .ref a_presses, .ref a_values, .ref a_nextValues])), (a_blowMany, .inl (X.2.1 0, 2, .inl f_blowMany)), (a_blows, .inl (X.2.1 0, 400, .inl f_blows)), (a_forwards, .inl (X.2.1 0, 48, .inl f_forwards)), (a_homes, .inl (X.2.1 0, 2, .inl f_homes)), (a_judges, .inl (X.2.1 0, 112, .inl f_judges)), (a_noises, .inl (X.2.1 0, 2, .inl f_noises))]) hx hb hml hts hown hG hA hP hD rfl hS hl.1 (qX11_sumOf l X a_this a_blowMany a_blows a_forwards a_homes a_judges a_noises a_text a_roundMany a_downs a_takens a_judgeMany a_delays a_tolds a_tens a_told a_ways a_nextWays a_tallies a_presses a_values a_nextValues i_length i_keptMany i_place f_blowMany f_blows f_forwards f_homes f_judges f_noises x0 x1 (0 : Int32) o1 ho1) (cwV (y := yX11_sumOf) 3 hts gX11_leadOf_X11_sumOf rfl rfl rfl hdvX11_sumOf ⟨Nat.le_of_ble_eq_true rfl, Nat.le_of_ble_eq_true rfl⟩) [0, 1, 2, 3, 4, 5, 6] [] [0, 1, 2, 3, 4, 5, 6] rfl rfl rfl rfl rfl rfl rfl (ci := 11) rfl 0 rfl rfl rfl (Nat.le_of_ble_eq_true rfl) ⟨Nat.le_of_ble_eq_true rfl, Nat.le_of_ble_eq_true rfl⟩ dX11_leadOf_4 (fun H locs hP _ hS => ?_)
  refine lv_aload_n hx hb dX11_leadOf_7 rfl (lv_at hl 0 rfl) ?_
  refine lv_iload_n hx hb dX11_leadOf_8 rfl (lv_at hl 1 rfl) ?_
  refine lv_iload_n hx hb dX11_leadOf_9 rfl (lv_at hl 2 rfl) ?_
  refine lv_iconst (v := (1 : Int32)) hx hb dX11_leadOf_10 (by decide) ?_
  obtain ⟨o3, ho3, hf⟩ := ob_s hf
  refine xV_i (As := [.int x0, .int x1, .int (1 : Int32)]) (b := a_this) (rest := [.int o1]) (ws2 := [(a_this, .inr (11, [.int i_length, .ref a_text, .ref a_roundMany, .ref a_blowMany, .ref a_blows, .ref a_forwards, .ref a_downs, .ref a_takens, .ref a_homes, .ref a_noises, .ref a_judgeMany, .ref a_judges, .ref a_delays, .ref a_tolds, .ref a_tens, .int i_keptMany, .int i_place, .ref a_told, .ref a_ways, .ref a_nextWays, .ref a_tallies, .ref a_presses, .ref a_values, .ref a_nextValues])), (a_blowMany, .inl (X.2.1 0, 2, .inl f_blowMany)), (a_blows, .inl (X.2.1 0, 400, .inl f_blows)), (a_forwards, .inl (X.2.1 0, 48, .inl f_forwards)), (a_homes, .inl (X.2.1 0, 2, .inl f_homes)), (a_judges, .inl (X.2.1 0, 112, .inl f_judges)), (a_noises, .inl (X.2.1 0, 2, .inl f_noises))]) hx hb hml hts hown hG hA hP hD rfl hS hl.1 (qX11_sumOf l X a_this a_blowMany a_blows a_forwards a_homes a_judges a_noises a_text a_roundMany a_downs a_takens a_judgeMany a_delays a_tolds a_tens a_told a_ways a_nextWays a_tallies a_presses a_values a_nextValues i_length i_keptMany i_place f_blowMany f_blows f_forwards f_homes f_judges f_noises x0 x1 (1 : Int32) o3 ho3) (cwV (y := yX11_sumOf) 3 hts gX11_leadOf_X11_sumOf rfl rfl rfl hdvX11_sumOf ⟨Nat.le_of_ble_eq_true rfl, Nat.le_of_ble_eq_true rfl⟩) [0, 1, 2, 3, 4, 5, 6] [] [0, 1, 2, 3, 4, 5, 6] rfl rfl rfl rfl rfl rfl rfl (ci := 11) rfl 0 rfl rfl rfl (Nat.le_of_ble_eq_true rfl) ⟨Nat.le_of_ble_eq_true rfl, Nat.le_of_ble_eq_true rfl⟩ dX11_leadOf_11 (fun H locs hP _ hS => ?_)
  refine lv_isub hx hb dX11_leadOf_14 ?_
  refine lv_aload_n hx hb dX11_leadOf_15 rfl (lv_at hl 0 rfl) ?_
  refine va_get (D := X.1) (ci := 11) (v := .ref a_judges) (C := RX11) (T := TX11) (N := 24) hx hb hts in11 hown hG.1 hP 0 rfl rfl 11 (by decide) w1 (fun _ h9 => h9) rfl dX11_leadOf_16 ?_
  refine lv_bipush (v := (7 : Int32)) hx hb dX11_leadOf_19 (by decide) ?_
  refine lv_iload_n hx hb dX11_leadOf_21 rfl (lv_at hl 1 rfl) ?_
  refine lv_imul hx hb dX11_leadOf_22 ?_
  refine lv_iconst (v := (3 : Int32)) hx hb dX11_leadOf_23 (by decide) ?_
  refine lv_iadd hx hb dX11_leadOf_24 ?_
  obtain ⟨h5, hf⟩ := gi_s hf
  refine va_iald (D := X.1) hx hb hG.1 hP 5 0 rfl rfl h5 dX11_leadOf_25 ?_
  refine lv_iadd hx hb dX11_leadOf_26 ?_
  refine lv_bipush (v := (20 : Int32)) hx hb dX11_leadOf_27 (by decide) ?_
  refine lv_isub hx hb dX11_leadOf_29 ?_
  refine lv_topi (fun v6 ev6 => ?_)
  have hf := lb_s hf ev6
  obtain rfl := Option.some.inj hf
  exact ret H _ ls _ rfl hP hD hS dX11_leadOf_30
def mX11_isClose (x0 : Int32) (x1 : Int32) (f_blowMany : Nat → Int32) (f_blows : Nat → Int32) (f_forwards : Nat → Int32) (f_homes : Nat → Int32) (f_judges : Nat → Int32) (f_noises : Nat → Int32) :
  Option (Int32) :=
  (mX11_leadOf x0 x1 f_blowMany f_blows f_forwards f_homes f_judges f_noises).bind fun o1 =>
  gi (((7 : Int32) * x0) + (6 : Int32)) 112 <|
  gi (((7 : Int32) * x0) + (6 : Int32)) 112 <|
  (mX11_in (Int32.toInt64 o1) (Int32.toInt64 (-(f_judges (((7 : Int32) * x0) + (6 : Int32)).toNatClampNeg))) (Int32.toInt64 (f_judges (((7 : Int32) * x0) + (6 : Int32)).toNatClampNeg))).bind fun o5 =>
  gz o5 <|
  some o5
theorem hdsX11_isClose : yX11_isClose.cls ≠ "java/lang/invoke/MethodHandle" ∧ yX11_isClose.cls ≠ "java/lang/invoke/VarHandle" ∧ (parseMethodDescriptor yX11_isClose.desc).map (fun d => d.parameters.length) = some 2 := by decide +kernel
theorem hdvX11_isClose : yX11_isClose.cls = RX11 ∧ yX11_isClose.cls ≠ "java/lang/invoke/MethodHandle" ∧ yX11_isClose.cls ≠ "java/lang/invoke/VarHandle" ∧ (parseMethodDescriptor yX11_isClose.desc).map (fun d => d.parameters.length) = some 2 := by decide +kernel
abbrev rmX11_isClose : Room := { frames := 4, cells := 0, slots := 0, locals := 93 }
set_option maxHeartbeats 4000000 in
set_option maxRecDepth 100000 in
theorem qX11_isClose (l : Launch) (X : XT) (a_this : Nat) (a_blowMany : Nat) (a_blows : Nat) (a_forwards : Nat) (a_homes : Nat) (a_judges : Nat) (a_noises : Nat) (a_text : Nat) (a_roundMany : Nat) (a_downs : Nat) (a_takens : Nat) (a_judgeMany : Nat) (a_delays : Nat) (a_tolds : Nat) (a_tens : Nat) (a_told : Nat) (a_ways : Nat) (a_nextWays : Nat) (a_tallies : Nat) (a_presses : Nat) (a_values : Nat) (a_nextValues : Nat)  (i_length : Int32) (i_keptMany : Int32) (i_place : Int32) (f_blowMany : Nat → Int32) (f_blows : Nat → Int32) (f_forwards : Nat → Int32) (f_homes : Nat → Int32) (f_judges : Nat → Int32) (f_noises : Nat → Int32) (x0 : Int32) (x1 : Int32) (o : Int32) (hf : mX11_isClose x0 x1 f_blowMany f_blows f_forwards f_homes f_judges f_noises = some o) :
    MI l yX11_isClose wsX11_isClose rmX11_isClose X [.ref a_this, .int x0, .int x1] [(a_this, .inr (11, [.int i_length, .ref a_text, .ref a_roundMany, .ref a_blowMany, .ref a_blows, .ref a_forwards, .ref a_downs, .ref a_takens, .ref a_homes, .ref a_noises, .ref a_judgeMany, .ref a_judges, .ref a_delays, .ref a_tolds, .ref a_tens, .int i_keptMany, .int i_place, .ref a_told, .ref a_ways, .ref a_nextWays, .ref a_tallies, .ref a_presses, .ref a_values, .ref a_nextValues])), (a_blowMany, .inl (X.2.1 0, 2, .inl f_blowMany)), (a_blows, .inl (X.2.1 0, 400, .inl f_blows)), (a_forwards, .inl (X.2.1 0, 48, .inl f_forwards)), (a_homes, .inl (X.2.1 0, 2, .inl f_homes)), (a_judges, .inl (X.2.1 0, 112, .inl f_judges)), (a_noises, .inl (X.2.1 0, 2, .inl f_noises))]  [(a_this, .inr (11, [.int i_length, .ref a_text, .ref a_roundMany, .ref a_blowMany, .ref a_blows, .ref a_forwards, .ref a_downs, .ref a_takens, .ref a_homes, .ref a_noises, .ref a_judgeMany, .ref a_judges, .ref a_delays, .ref a_tolds, .ref a_tens, .int i_keptMany, .int i_place, .ref a_told, .ref a_ways, .ref a_nextWays, .ref a_tallies, .ref a_presses, .ref a_values, .ref a_nextValues])), (a_blowMany, .inl (X.2.1 0, 2, .inl f_blowMany)), (a_blows, .inl (X.2.1 0, 400, .inl f_blows)), (a_forwards, .inl (X.2.1 0, 48, .inl f_forwards)), (a_homes, .inl (X.2.1 0, 2, .inl f_homes)), (a_judges, .inl (X.2.1 0, 112, .inl f_judges)), (a_noises, .inl (X.2.1 0, 2, .inl f_noises))] o := by
  refine MI_ofH (cc := cX11_isClose) (maxL := 4) (rt := .boolean) (by decide) rfl (Nat.le_of_ble_eq_true rfl) ?_
  intro p e s m below meth c A Q H ls hx hb hml hts hown hA hD hG hP hS hl ret
  have hown : s.vm.findClass RX11 = some m.cls := hown
  have hD : aD A [a_this, a_blowMany, a_blows, a_forwards, a_homes, a_judges, a_noises] := hD
  have hl : lv_has ls 4 [(0, .ref a_this), (1, .int x0), (2, .int x1)] := hl
  have w1 := hts (Cond.fieldLink RX11 40 "ThreeCardsModel" "judges" "[I") (List.mem_of_getElem? (i := 1) rfl)
  have in11 : ∀ w ∈ u_ws RX11 TX11 24, w ∈ wsX11_isClose := by decide +kernel
  unfold mX11_isClose at hf
  refine lv_aload_n hx hb dX11_isClose_0 rfl (lv_at hl 0 rfl) ?_
  refine lv_iload_n hx hb dX11_isClose_1 rfl (lv_at hl 1 rfl) ?_
  refine lv_iload_n hx hb dX11_isClose_2 rfl (lv_at hl 2 rfl) ?_
  obtain ⟨o1, ho1, hf⟩ := ob_s hf
  refine xV_i (As := [.int x0, .int x1]) (b := a_this) (rest := []) (ws2 := [(a_this, .inr (11, [.int i_length, .ref a_text, .ref a_roundMany, .ref a_blowMany, .ref a_blows, .ref a_forwards, .ref a_downs, .ref a_takens, .ref a_homes, .ref a_noises, .ref a_judgeMany, .ref a_judges, .ref a_delays, .ref a_tolds, .ref a_tens, .int i_keptMany, .int i_place, .ref a_told, .ref a_ways, .ref a_nextWays, .ref a_tallies, .ref a_presses, .ref a_values, .ref a_nextValues])), (a_blowMany, .inl (X.2.1 0, 2, .inl f_blowMany)), (a_blows, .inl (X.2.1 0, 400, .inl f_blows)), (a_forwards, .inl (X.2.1 0, 48, .inl f_forwards)), (a_homes, .inl (X.2.1 0, 2, .inl f_homes)), (a_judges, .inl (X.2.1 0, 112, .inl f_judges)), (a_noises, .inl (X.2.1 0, 2, .inl f_noises))]) hx hb hml hts hown hG hA hP hD rfl hS hl.1 (qX11_leadOf l X a_this a_blowMany a_blows a_forwards a_homes a_judges a_noises a_text a_roundMany a_downs a_takens a_judgeMany a_delays a_tolds a_tens a_told a_ways a_nextWays a_tallies a_presses a_values a_nextValues i_length i_keptMany i_place f_blowMany f_blows f_forwards f_homes f_judges f_noises x0 x1 o1 ho1) (cwV (y := yX11_leadOf) 2 hts gX11_isClose_X11_leadOf rfl rfl rfl hdvX11_leadOf ⟨Nat.le_of_ble_eq_true rfl, Nat.le_of_ble_eq_true rfl⟩) [0, 1, 2, 3, 4, 5, 6] [] [0, 1, 2, 3, 4, 5, 6] rfl rfl rfl rfl rfl rfl rfl (ci := 11) rfl 0 rfl rfl rfl (Nat.le_of_ble_eq_true rfl) ⟨Nat.le_of_ble_eq_true rfl, Nat.le_of_ble_eq_true rfl⟩ dX11_isClose_3 (fun H locs hP _ hS => ?_)
  refine lv_istore_n (lv' := [(3, .int o1), (0, .ref a_this), (1, .int x0), (2, .int x1)]) hx hb dX11_isClose_6 rfl hl (by decide) rfl (fun ls hl => ?_)
  refine lv_iload_n hx hb dX11_isClose_7 rfl (lv_at hl 0 rfl) ?_
  refine lv_i2l hx hb dX11_isClose_8 rfl ?_
  refine lv_aload_n hx hb dX11_isClose_9 rfl (lv_at hl 1 rfl) ?_
  refine va_get (D := X.1) (ci := 11) (v := .ref a_judges) (C := RX11) (T := TX11) (N := 24) hx hb hts in11 hown hG.1 hP 0 rfl rfl 11 (by decide) w1 (fun _ h9 => h9) rfl dX11_isClose_10 ?_
  refine lv_bipush (v := (7 : Int32)) hx hb dX11_isClose_13 (by decide) ?_
  refine lv_iload_n hx hb dX11_isClose_15 rfl (lv_at hl 2 rfl) ?_
  refine lv_imul hx hb dX11_isClose_16 ?_
  refine lv_bipush (v := (6 : Int32)) hx hb dX11_isClose_17 (by decide) ?_
  refine lv_iadd hx hb dX11_isClose_19 ?_
  obtain ⟨h3, hf⟩ := gi_s hf
  refine va_iald (D := X.1) hx hb hG.1 hP 5 0 rfl rfl h3 dX11_isClose_20 ?_
  refine lv_ineg hx hb dX11_isClose_21 ?_
  refine lv_i2l hx hb dX11_isClose_22 rfl ?_
  refine lv_aload_n hx hb dX11_isClose_23 rfl (lv_at hl 1 rfl) ?_
  refine va_get (D := X.1) (ci := 11) (v := .ref a_judges) (C := RX11) (T := TX11) (N := 24) hx hb hts in11 hown hG.1 hP 0 rfl rfl 11 (by decide) w1 (fun _ h9 => h9) rfl dX11_isClose_24 ?_
  refine lv_bipush (v := (7 : Int32)) hx hb dX11_isClose_27 (by decide) ?_
  refine lv_iload_n hx hb dX11_isClose_29 rfl (lv_at hl 2 rfl) ?_
  refine lv_imul hx hb dX11_isClose_30 ?_
  refine lv_bipush (v := (6 : Int32)) hx hb dX11_isClose_31 (by decide) ?_
  refine lv_iadd hx hb dX11_isClose_33 ?_
  obtain ⟨h4, hf⟩ := gi_s hf
  refine va_iald (D := X.1) hx hb hG.1 hP 5 0 rfl rfl h4 dX11_isClose_34 ?_
  refine lv_i2l hx hb dX11_isClose_35 rfl ?_
  obtain ⟨o5, ho5, hf⟩ := ob_s hf
  refine xS_i (As := [.long (Int32.toInt64 o1), .long (Int32.toInt64 (-(f_judges (((7 : Int32) * x0) + (6 : Int32)).toNatClampNeg))), .long (Int32.toInt64 (f_judges (((7 : Int32) * x0) + (6 : Int32)).toNatClampNeg))]) (rest := []) (ws2 := [(a_this, .inr (11, [.int i_length, .ref a_text, .ref a_roundMany, .ref a_blowMany, .ref a_blows, .ref a_forwards, .ref a_downs, .ref a_takens, .ref a_homes, .ref a_noises, .ref a_judgeMany, .ref a_judges, .ref a_delays, .ref a_tolds, .ref a_tens, .int i_keptMany, .int i_place, .ref a_told, .ref a_ways, .ref a_nextWays, .ref a_tallies, .ref a_presses, .ref a_values, .ref a_nextValues])), (a_blowMany, .inl (X.2.1 0, 2, .inl f_blowMany)), (a_blows, .inl (X.2.1 0, 400, .inl f_blows)), (a_forwards, .inl (X.2.1 0, 48, .inl f_forwards)), (a_homes, .inl (X.2.1 0, 2, .inl f_homes)), (a_judges, .inl (X.2.1 0, 112, .inl f_judges)), (a_noises, .inl (X.2.1 0, 2, .inl f_noises))]) hx hb hml hts hown hG hA hP hD rfl hS hl.1 (qX11_in l X (Int32.toInt64 o1) (Int32.toInt64 (-(f_judges (((7 : Int32) * x0) + (6 : Int32)).toNatClampNeg))) (Int32.toInt64 (f_judges (((7 : Int32) * x0) + (6 : Int32)).toNatClampNeg)) o5 ho5) (va_cwS (y := yX11_in) 3 hts gX11_isClose_X11_in rfl rfl rfl hdsX11_in ⟨Nat.le_of_ble_eq_true rfl, Nat.le_of_ble_eq_true rfl⟩) [] [0, 1, 2, 3, 4, 5, 6] [0, 1, 2, 3, 4, 5, 6] rfl rfl rfl rfl rfl rfl rfl rfl rfl (Nat.le_of_ble_eq_true rfl) ⟨Nat.le_of_ble_eq_true rfl, Nat.le_of_ble_eq_true rfl⟩ dX11_isClose_36 (fun H locs hP _ hS => ?_)
  obtain ⟨h7, hf⟩ := gz_s hf
  obtain rfl := Option.some.inj hf
  exact ret H _ ls _ h7 hP hD hS dX11_isClose_39
def mX11_sum (x0 : Int32) (x1 : Int32) (x2 : Int32) (f_blowMany : Nat → Int32) (f_blows : Nat → Int32) (f_forwards : Nat → Int32) (f_homes : Nat → Int32) (f_judgeMany : Nat → Int32) (f_judges : Nat → Int32) (f_noises : Nat → Int32) (f_roundMany : Nat → Int32) :
  Option (Int32) :=
  (mX11_isJudge x0 f_judgeMany).bind fun o1 =>
  if o1 = 0 then (some (-1 : Int32)) else ((mX11_isRound x1 f_roundMany).bind fun o4 =>
  if o4 = 0 then (some (-1 : Int32)) else ((mX11_in (Int32.toInt64 x2) (0 : Int64) (1 : Int64)).bind fun o7 =>
  if o7 = 0 then (some (-1 : Int32)) else ((mX11_sumOf x0 x1 x2 f_blowMany f_blows f_forwards f_homes f_judges f_noises).bind fun o10 =>
  some o10)))
theorem hdsX11_sum : yX11_sum.cls ≠ "java/lang/invoke/MethodHandle" ∧ yX11_sum.cls ≠ "java/lang/invoke/VarHandle" ∧ (parseMethodDescriptor yX11_sum.desc).map (fun d => d.parameters.length) = some 3 := by decide +kernel
theorem hdvX11_sum : yX11_sum.cls = RX11 ∧ yX11_sum.cls ≠ "java/lang/invoke/MethodHandle" ∧ yX11_sum.cls ≠ "java/lang/invoke/VarHandle" ∧ (parseMethodDescriptor yX11_sum.desc).map (fun d => d.parameters.length) = some 3 := by decide +kernel
abbrev rmX11_sum : Room := { frames := 3, cells := 0, slots := 0, locals := 71 }
set_option maxHeartbeats 4000000 in
set_option maxRecDepth 100000 in
theorem qX11_sum (l : Launch) (X : XT) (a_this : Nat) (a_blowMany : Nat) (a_blows : Nat) (a_forwards : Nat) (a_homes : Nat) (a_judgeMany : Nat) (a_judges : Nat) (a_noises : Nat) (a_roundMany : Nat) (a_text : Nat) (a_downs : Nat) (a_takens : Nat) (a_delays : Nat) (a_tolds : Nat) (a_tens : Nat) (a_told : Nat) (a_ways : Nat) (a_nextWays : Nat) (a_tallies : Nat) (a_presses : Nat) (a_values : Nat) (a_nextValues : Nat)  (i_length : Int32) (i_keptMany : Int32) (i_place : Int32) (f_blowMany : Nat → Int32) (f_blows : Nat → Int32) (f_forwards : Nat → Int32) (f_homes : Nat → Int32) (f_judgeMany : Nat → Int32) (f_judges : Nat → Int32) (f_noises : Nat → Int32) (f_roundMany : Nat → Int32) (x0 : Int32) (x1 : Int32) (x2 : Int32) (o : Int32) (hf : mX11_sum x0 x1 x2 f_blowMany f_blows f_forwards f_homes f_judgeMany f_judges f_noises f_roundMany = some o) :
    MI l yX11_sum wsX11_sum rmX11_sum X [.ref a_this, .int x0, .int x1, .int x2] [(a_this, .inr (11, [.int i_length, .ref a_text, .ref a_roundMany, .ref a_blowMany, .ref a_blows, .ref a_forwards, .ref a_downs, .ref a_takens, .ref a_homes, .ref a_noises, .ref a_judgeMany, .ref a_judges, .ref a_delays, .ref a_tolds, .ref a_tens, .int i_keptMany, .int i_place, .ref a_told, .ref a_ways, .ref a_nextWays, .ref a_tallies, .ref a_presses, .ref a_values, .ref a_nextValues])), (a_blowMany, .inl (X.2.1 0, 2, .inl f_blowMany)), (a_blows, .inl (X.2.1 0, 400, .inl f_blows)), (a_forwards, .inl (X.2.1 0, 48, .inl f_forwards)), (a_homes, .inl (X.2.1 0, 2, .inl f_homes)), (a_judgeMany, .inl (X.2.1 0, 2, .inl f_judgeMany)), (a_judges, .inl (X.2.1 0, 112, .inl f_judges)), (a_noises, .inl (X.2.1 0, 2, .inl f_noises)), (a_roundMany, .inl (X.2.1 0, 2, .inl f_roundMany))]  [(a_this, .inr (11, [.int i_length, .ref a_text, .ref a_roundMany, .ref a_blowMany, .ref a_blows, .ref a_forwards, .ref a_downs, .ref a_takens, .ref a_homes, .ref a_noises, .ref a_judgeMany, .ref a_judges, .ref a_delays, .ref a_tolds, .ref a_tens, .int i_keptMany, .int i_place, .ref a_told, .ref a_ways, .ref a_nextWays, .ref a_tallies, .ref a_presses, .ref a_values, .ref a_nextValues])), (a_blowMany, .inl (X.2.1 0, 2, .inl f_blowMany)), (a_blows, .inl (X.2.1 0, 400, .inl f_blows)), (a_forwards, .inl (X.2.1 0, 48, .inl f_forwards)), (a_homes, .inl (X.2.1 0, 2, .inl f_homes)), (a_judgeMany, .inl (X.2.1 0, 2, .inl f_judgeMany)), (a_judges, .inl (X.2.1 0, 112, .inl f_judges)), (a_noises, .inl (X.2.1 0, 2, .inl f_noises)), (a_roundMany, .inl (X.2.1 0, 2, .inl f_roundMany))] o := by
  refine MI_ofH (cc := cX11_sum) (maxL := 4) (rt := .int) (by decide) rfl (Nat.le_of_ble_eq_true rfl) ?_
  intro p e s m below meth c A Q H ls hx hb hml hts hown hA hD hG hP hS hl ret
  have hown : s.vm.findClass RX11 = some m.cls := hown
  have hD : aD A [a_this, a_blowMany, a_blows, a_forwards, a_homes, a_judgeMany, a_judges, a_noises, a_roundMany] := hD
  have hl : lv_has ls 4 [(0, .ref a_this), (1, .int x0), (2, .int x1), (3, .int x2)] := hl
  unfold mX11_sum at hf
  refine lv_aload_n hx hb dX11_sum_0 rfl (lv_at hl 0 rfl) ?_
  refine lv_iload_n hx hb dX11_sum_1 rfl (lv_at hl 1 rfl) ?_
  obtain ⟨o1, ho1, hf⟩ := ob_s hf
  refine xV_i (As := [.int x0]) (b := a_this) (rest := []) (ws2 := [(a_this, .inr (11, [.int i_length, .ref a_text, .ref a_roundMany, .ref a_blowMany, .ref a_blows, .ref a_forwards, .ref a_downs, .ref a_takens, .ref a_homes, .ref a_noises, .ref a_judgeMany, .ref a_judges, .ref a_delays, .ref a_tolds, .ref a_tens, .int i_keptMany, .int i_place, .ref a_told, .ref a_ways, .ref a_nextWays, .ref a_tallies, .ref a_presses, .ref a_values, .ref a_nextValues])), (a_blowMany, .inl (X.2.1 0, 2, .inl f_blowMany)), (a_blows, .inl (X.2.1 0, 400, .inl f_blows)), (a_forwards, .inl (X.2.1 0, 48, .inl f_forwards)), (a_homes, .inl (X.2.1 0, 2, .inl f_homes)), (a_judgeMany, .inl (X.2.1 0, 2, .inl f_judgeMany)), (a_judges, .inl (X.2.1 0, 112, .inl f_judges)), (a_noises, .inl (X.2.1 0, 2, .inl f_noises)), (a_roundMany, .inl (X.2.1 0, 2, .inl f_roundMany))]) hx hb hml hts hown hG hA hP hD rfl hS hl.1 (qX11_isJudge l X a_this a_judgeMany a_text a_roundMany a_blowMany a_blows a_forwards a_downs a_takens a_homes a_noises a_judges a_delays a_tolds a_tens a_told a_ways a_nextWays a_tallies a_presses a_values a_nextValues i_length i_keptMany i_place f_judgeMany x0 o1 ho1) (cwV (y := yX11_isJudge) 1 hts gX11_sum_X11_isJudge rfl rfl rfl hdvX11_isJudge ⟨Nat.le_of_ble_eq_true rfl, Nat.le_of_ble_eq_true rfl⟩) [0, 5] [1, 2, 3, 4, 6, 7, 8] [7, 0, 1, 2, 3, 8, 4, 5, 6] rfl rfl rfl rfl rfl rfl rfl (ci := 11) rfl 0 rfl rfl rfl (Nat.le_of_ble_eq_true rfl) ⟨Nat.le_of_ble_eq_true rfl, Nat.le_of_ble_eq_true rfl⟩ dX11_sum_2 (fun H locs hP _ hS => ?_)
  refine lv_if_eq (tgt := 36) hx hb dX11_sum_5 (by decide) (fun c3 => ?_) (fun c3 => ?_)
  · have hf := xt hf c3
    refine lv_iconst (v := (-1 : Int32)) hx hb dX11_sum_36 (by decide) ?_
    obtain rfl := Option.some.inj hf
    exact ret H _ ls _ rfl hP hD hS dX11_sum_37
  · have hf := xf hf c3
    refine lv_aload_n hx hb dX11_sum_8 rfl (lv_at hl 0 rfl) ?_
    refine lv_iload_n hx hb dX11_sum_9 rfl (lv_at hl 2 rfl) ?_
    obtain ⟨o4, ho4, hf⟩ := ob_s hf
    refine xV_i (As := [.int x1]) (b := a_this) (rest := []) (ws2 := [(a_this, .inr (11, [.int i_length, .ref a_text, .ref a_roundMany, .ref a_blowMany, .ref a_blows, .ref a_forwards, .ref a_downs, .ref a_takens, .ref a_homes, .ref a_noises, .ref a_judgeMany, .ref a_judges, .ref a_delays, .ref a_tolds, .ref a_tens, .int i_keptMany, .int i_place, .ref a_told, .ref a_ways, .ref a_nextWays, .ref a_tallies, .ref a_presses, .ref a_values, .ref a_nextValues])), (a_blowMany, .inl (X.2.1 0, 2, .inl f_blowMany)), (a_blows, .inl (X.2.1 0, 400, .inl f_blows)), (a_forwards, .inl (X.2.1 0, 48, .inl f_forwards)), (a_homes, .inl (X.2.1 0, 2, .inl f_homes)), (a_judgeMany, .inl (X.2.1 0, 2, .inl f_judgeMany)), (a_judges, .inl (X.2.1 0, 112, .inl f_judges)), (a_noises, .inl (X.2.1 0, 2, .inl f_noises)), (a_roundMany, .inl (X.2.1 0, 2, .inl f_roundMany))]) hx hb hml hts hown hG hA hP hD rfl hS hl.1 (qX11_isRound l X a_this a_roundMany a_text a_blowMany a_blows a_forwards a_downs a_takens a_homes a_noises a_judgeMany a_judges a_delays a_tolds a_tens a_told a_ways a_nextWays a_tallies a_presses a_values a_nextValues i_length i_keptMany i_place f_roundMany x1 o4 ho4) (cwV (y := yX11_isRound) 1 hts gX11_sum_X11_isRound rfl rfl rfl hdvX11_isRound ⟨Nat.le_of_ble_eq_true rfl, Nat.le_of_ble_eq_true rfl⟩) [0, 8] [1, 2, 3, 4, 5, 6, 7] [7, 0, 1, 2, 3, 4, 5, 6, 8] rfl rfl rfl rfl rfl rfl rfl (ci := 11) rfl 0 rfl rfl rfl (Nat.le_of_ble_eq_true rfl) ⟨Nat.le_of_ble_eq_true rfl, Nat.le_of_ble_eq_true rfl⟩ dX11_sum_10 (fun H locs hP _ hS => ?_)
    refine lv_if_eq (tgt := 36) hx hb dX11_sum_13 (by decide) (fun c6 => ?_) (fun c6 => ?_)
    · have hf := xt hf c6
      refine lv_iconst (v := (-1 : Int32)) hx hb dX11_sum_36 (by decide) ?_
      obtain rfl := Option.some.inj hf
      exact ret H _ ls _ rfl hP hD hS dX11_sum_37
    · have hf := xf hf c6
      refine lv_iload_n hx hb dX11_sum_16 rfl (lv_at hl 3 rfl) ?_
      refine lv_i2l hx hb dX11_sum_17 rfl ?_
      refine lv_lconst (v := (0 : Int64)) hx hb dX11_sum_18 rfl ?_
      refine lv_lconst (v := (1 : Int64)) hx hb dX11_sum_19 rfl ?_
      obtain ⟨o7, ho7, hf⟩ := ob_s hf
      refine xS_i (As := [.long (Int32.toInt64 x2), .long (0 : Int64), .long (1 : Int64)]) (rest := []) (ws2 := [(a_this, .inr (11, [.int i_length, .ref a_text, .ref a_roundMany, .ref a_blowMany, .ref a_blows, .ref a_forwards, .ref a_downs, .ref a_takens, .ref a_homes, .ref a_noises, .ref a_judgeMany, .ref a_judges, .ref a_delays, .ref a_tolds, .ref a_tens, .int i_keptMany, .int i_place, .ref a_told, .ref a_ways, .ref a_nextWays, .ref a_tallies, .ref a_presses, .ref a_values, .ref a_nextValues])), (a_blowMany, .inl (X.2.1 0, 2, .inl f_blowMany)), (a_blows, .inl (X.2.1 0, 400, .inl f_blows)), (a_forwards, .inl (X.2.1 0, 48, .inl f_forwards)), (a_homes, .inl (X.2.1 0, 2, .inl f_homes)), (a_judgeMany, .inl (X.2.1 0, 2, .inl f_judgeMany)), (a_judges, .inl (X.2.1 0, 112, .inl f_judges)), (a_noises, .inl (X.2.1 0, 2, .inl f_noises)), (a_roundMany, .inl (X.2.1 0, 2, .inl f_roundMany))]) hx hb hml hts hown hG hA hP hD rfl hS hl.1 (qX11_in l X (Int32.toInt64 x2) (0 : Int64) (1 : Int64) o7 ho7) (va_cwS (y := yX11_in) 3 hts gX11_sum_X11_in rfl rfl rfl hdsX11_in ⟨Nat.le_of_ble_eq_true rfl, Nat.le_of_ble_eq_true rfl⟩) [] [0, 1, 2, 3, 4, 5, 6, 7, 8] [0, 1, 2, 3, 4, 5, 6, 7, 8] rfl rfl rfl rfl rfl rfl rfl rfl rfl (Nat.le_of_ble_eq_true rfl) ⟨Nat.le_of_ble_eq_true rfl, Nat.le_of_ble_eq_true rfl⟩ dX11_sum_20 (fun H locs hP _ hS => ?_)
      refine lv_if_eq (tgt := 36) hx hb dX11_sum_23 (by decide) (fun c9 => ?_) (fun c9 => ?_)
      · have hf := xt hf c9
        refine lv_iconst (v := (-1 : Int32)) hx hb dX11_sum_36 (by decide) ?_
        obtain rfl := Option.some.inj hf
        exact ret H _ ls _ rfl hP hD hS dX11_sum_37
      · have hf := xf hf c9
        refine lv_aload_n hx hb dX11_sum_26 rfl (lv_at hl 0 rfl) ?_
        refine lv_iload_n hx hb dX11_sum_27 rfl (lv_at hl 1 rfl) ?_
        refine lv_iload_n hx hb dX11_sum_28 rfl (lv_at hl 2 rfl) ?_
        refine lv_iload_n hx hb dX11_sum_29 rfl (lv_at hl 3 rfl) ?_
        obtain ⟨o10, ho10, hf⟩ := ob_s hf
        refine xV_i (As := [.int x0, .int x1, .int x2]) (b := a_this) (rest := []) (ws2 := [(a_this, .inr (11, [.int i_length, .ref a_text, .ref a_roundMany, .ref a_blowMany, .ref a_blows, .ref a_forwards, .ref a_downs, .ref a_takens, .ref a_homes, .ref a_noises, .ref a_judgeMany, .ref a_judges, .ref a_delays, .ref a_tolds, .ref a_tens, .int i_keptMany, .int i_place, .ref a_told, .ref a_ways, .ref a_nextWays, .ref a_tallies, .ref a_presses, .ref a_values, .ref a_nextValues])), (a_blowMany, .inl (X.2.1 0, 2, .inl f_blowMany)), (a_blows, .inl (X.2.1 0, 400, .inl f_blows)), (a_forwards, .inl (X.2.1 0, 48, .inl f_forwards)), (a_homes, .inl (X.2.1 0, 2, .inl f_homes)), (a_judgeMany, .inl (X.2.1 0, 2, .inl f_judgeMany)), (a_judges, .inl (X.2.1 0, 112, .inl f_judges)), (a_noises, .inl (X.2.1 0, 2, .inl f_noises)), (a_roundMany, .inl (X.2.1 0, 2, .inl f_roundMany))]) hx hb hml hts hown hG hA hP hD rfl hS hl.1 (qX11_sumOf l X a_this a_blowMany a_blows a_forwards a_homes a_judges a_noises a_text a_roundMany a_downs a_takens a_judgeMany a_delays a_tolds a_tens a_told a_ways a_nextWays a_tallies a_presses a_values a_nextValues i_length i_keptMany i_place f_blowMany f_blows f_forwards f_homes f_judges f_noises x0 x1 x2 o10 ho10) (cwV (y := yX11_sumOf) 3 hts gX11_sum_X11_sumOf rfl rfl rfl hdvX11_sumOf ⟨Nat.le_of_ble_eq_true rfl, Nat.le_of_ble_eq_true rfl⟩) [0, 1, 2, 3, 4, 6, 7] [5, 8] [2, 3, 4, 5, 6, 0, 7, 8, 1] rfl rfl rfl rfl rfl rfl rfl (ci := 11) rfl 0 rfl rfl rfl (Nat.le_of_ble_eq_true rfl) ⟨Nat.le_of_ble_eq_true rfl, Nat.le_of_ble_eq_true rfl⟩ dX11_sum_30 (fun H locs hP _ hS => ?_)
        refine lv_goto (tgt := 37) hx hb dX11_sum_33 (by decide) ?_
        obtain rfl := Option.some.inj hf
        exact ret H _ ls _ rfl hP hD hS dX11_sum_37
def mX11_lead (x0 : Int32) (x1 : Int32) (f_blowMany : Nat → Int32) (f_blows : Nat → Int32) (f_forwards : Nat → Int32) (f_homes : Nat → Int32) (f_judgeMany : Nat → Int32) (f_judges : Nat → Int32) (f_noises : Nat → Int32) (f_roundMany : Nat → Int32) :
  Option (Int32) :=
  (mX11_isJudge x0 f_judgeMany).bind fun o1 =>
  if o1 = 0 then (some (-100001 : Int32)) else ((mX11_isRound x1 f_roundMany).bind fun o4 =>
  if o4 = 0 then (some (-100001 : Int32)) else ((mX11_leadOf x0 x1 f_blowMany f_blows f_forwards f_homes f_judges f_noises).bind fun o7 =>
  some o7))
theorem hdsX11_lead : yX11_lead.cls ≠ "java/lang/invoke/MethodHandle" ∧ yX11_lead.cls ≠ "java/lang/invoke/VarHandle" ∧ (parseMethodDescriptor yX11_lead.desc).map (fun d => d.parameters.length) = some 2 := by decide +kernel
theorem hdvX11_lead : yX11_lead.cls = RX11 ∧ yX11_lead.cls ≠ "java/lang/invoke/MethodHandle" ∧ yX11_lead.cls ≠ "java/lang/invoke/VarHandle" ∧ (parseMethodDescriptor yX11_lead.desc).map (fun d => d.parameters.length) = some 2 := by decide +kernel
abbrev rmX11_lead : Room := { frames := 4, cells := 0, slots := 0, locals := 93 }
set_option maxHeartbeats 4000000 in
set_option maxRecDepth 100000 in
theorem qX11_lead (l : Launch) (X : XT) (a_this : Nat) (a_blowMany : Nat) (a_blows : Nat) (a_forwards : Nat) (a_homes : Nat) (a_judgeMany : Nat) (a_judges : Nat) (a_noises : Nat) (a_roundMany : Nat) (a_text : Nat) (a_downs : Nat) (a_takens : Nat) (a_delays : Nat) (a_tolds : Nat) (a_tens : Nat) (a_told : Nat) (a_ways : Nat) (a_nextWays : Nat) (a_tallies : Nat) (a_presses : Nat) (a_values : Nat) (a_nextValues : Nat)  (i_length : Int32) (i_keptMany : Int32) (i_place : Int32) (f_blowMany : Nat → Int32) (f_blows : Nat → Int32) (f_forwards : Nat → Int32) (f_homes : Nat → Int32) (f_judgeMany : Nat → Int32) (f_judges : Nat → Int32) (f_noises : Nat → Int32) (f_roundMany : Nat → Int32) (x0 : Int32) (x1 : Int32) (o : Int32) (hf : mX11_lead x0 x1 f_blowMany f_blows f_forwards f_homes f_judgeMany f_judges f_noises f_roundMany = some o) :
    MI l yX11_lead wsX11_lead rmX11_lead X [.ref a_this, .int x0, .int x1] [(a_this, .inr (11, [.int i_length, .ref a_text, .ref a_roundMany, .ref a_blowMany, .ref a_blows, .ref a_forwards, .ref a_downs, .ref a_takens, .ref a_homes, .ref a_noises, .ref a_judgeMany, .ref a_judges, .ref a_delays, .ref a_tolds, .ref a_tens, .int i_keptMany, .int i_place, .ref a_told, .ref a_ways, .ref a_nextWays, .ref a_tallies, .ref a_presses, .ref a_values, .ref a_nextValues])), (a_blowMany, .inl (X.2.1 0, 2, .inl f_blowMany)), (a_blows, .inl (X.2.1 0, 400, .inl f_blows)), (a_forwards, .inl (X.2.1 0, 48, .inl f_forwards)), (a_homes, .inl (X.2.1 0, 2, .inl f_homes)), (a_judgeMany, .inl (X.2.1 0, 2, .inl f_judgeMany)), (a_judges, .inl (X.2.1 0, 112, .inl f_judges)), (a_noises, .inl (X.2.1 0, 2, .inl f_noises)), (a_roundMany, .inl (X.2.1 0, 2, .inl f_roundMany))]  [(a_this, .inr (11, [.int i_length, .ref a_text, .ref a_roundMany, .ref a_blowMany, .ref a_blows, .ref a_forwards, .ref a_downs, .ref a_takens, .ref a_homes, .ref a_noises, .ref a_judgeMany, .ref a_judges, .ref a_delays, .ref a_tolds, .ref a_tens, .int i_keptMany, .int i_place, .ref a_told, .ref a_ways, .ref a_nextWays, .ref a_tallies, .ref a_presses, .ref a_values, .ref a_nextValues])), (a_blowMany, .inl (X.2.1 0, 2, .inl f_blowMany)), (a_blows, .inl (X.2.1 0, 400, .inl f_blows)), (a_forwards, .inl (X.2.1 0, 48, .inl f_forwards)), (a_homes, .inl (X.2.1 0, 2, .inl f_homes)), (a_judgeMany, .inl (X.2.1 0, 2, .inl f_judgeMany)), (a_judges, .inl (X.2.1 0, 112, .inl f_judges)), (a_noises, .inl (X.2.1 0, 2, .inl f_noises)), (a_roundMany, .inl (X.2.1 0, 2, .inl f_roundMany))] o := by
  refine MI_ofH (cc := cX11_lead) (maxL := 3) (rt := .int) (by decide) rfl (Nat.le_of_ble_eq_true rfl) ?_
  intro p e s m below meth c A Q H ls hx hb hml hts hown hA hD hG hP hS hl ret
  have hown : s.vm.findClass RX11 = some m.cls := hown
  have hD : aD A [a_this, a_blowMany, a_blows, a_forwards, a_homes, a_judgeMany, a_judges, a_noises, a_roundMany] := hD
  have hl : lv_has ls 3 [(0, .ref a_this), (1, .int x0), (2, .int x1)] := hl
  have w1 := hts (Cond.constant RX11 155 (-100001)) (List.mem_of_getElem? (i := 1) rfl)
  unfold mX11_lead at hf
  refine lv_aload_n hx hb dX11_lead_0 rfl (lv_at hl 0 rfl) ?_
  refine lv_iload_n hx hb dX11_lead_1 rfl (lv_at hl 1 rfl) ?_
  obtain ⟨o1, ho1, hf⟩ := ob_s hf
  refine xV_i (As := [.int x0]) (b := a_this) (rest := []) (ws2 := [(a_this, .inr (11, [.int i_length, .ref a_text, .ref a_roundMany, .ref a_blowMany, .ref a_blows, .ref a_forwards, .ref a_downs, .ref a_takens, .ref a_homes, .ref a_noises, .ref a_judgeMany, .ref a_judges, .ref a_delays, .ref a_tolds, .ref a_tens, .int i_keptMany, .int i_place, .ref a_told, .ref a_ways, .ref a_nextWays, .ref a_tallies, .ref a_presses, .ref a_values, .ref a_nextValues])), (a_blowMany, .inl (X.2.1 0, 2, .inl f_blowMany)), (a_blows, .inl (X.2.1 0, 400, .inl f_blows)), (a_forwards, .inl (X.2.1 0, 48, .inl f_forwards)), (a_homes, .inl (X.2.1 0, 2, .inl f_homes)), (a_judgeMany, .inl (X.2.1 0, 2, .inl f_judgeMany)), (a_judges, .inl (X.2.1 0, 112, .inl f_judges)), (a_noises, .inl (X.2.1 0, 2, .inl f_noises)), (a_roundMany, .inl (X.2.1 0, 2, .inl f_roundMany))]) hx hb hml hts hown hG hA hP hD rfl hS hl.1 (qX11_isJudge l X a_this a_judgeMany a_text a_roundMany a_blowMany a_blows a_forwards a_downs a_takens a_homes a_noises a_judges a_delays a_tolds a_tens a_told a_ways a_nextWays a_tallies a_presses a_values a_nextValues i_length i_keptMany i_place f_judgeMany x0 o1 ho1) (cwV (y := yX11_isJudge) 1 hts gX11_lead_X11_isJudge rfl rfl rfl hdvX11_isJudge ⟨Nat.le_of_ble_eq_true rfl, Nat.le_of_ble_eq_true rfl⟩) [0, 5] [1, 2, 3, 4, 6, 7, 8] [7, 0, 1, 2, 3, 8, 4, 5, 6] rfl rfl rfl rfl rfl rfl rfl (ci := 11) rfl 0 rfl rfl rfl (Nat.le_of_ble_eq_true rfl) ⟨Nat.le_of_ble_eq_true rfl, Nat.le_of_ble_eq_true rfl⟩ dX11_lead_2 (fun H locs hP _ hS => ?_)
  refine lv_if_eq (tgt := 25) hx hb dX11_lead_5 (by decide) (fun c3 => ?_) (fun c3 => ?_)
  · have hf := xt hf c3
    refine lv_ldc (v := (-100001 : Int32)) hx hb hown w1 dX11_lead_25 ?_
    obtain rfl := Option.some.inj hf
    exact ret H _ ls _ rfl hP hD hS dX11_lead_27
  · have hf := xf hf c3
    refine lv_aload_n hx hb dX11_lead_8 rfl (lv_at hl 0 rfl) ?_
    refine lv_iload_n hx hb dX11_lead_9 rfl (lv_at hl 2 rfl) ?_
    obtain ⟨o4, ho4, hf⟩ := ob_s hf
    refine xV_i (As := [.int x1]) (b := a_this) (rest := []) (ws2 := [(a_this, .inr (11, [.int i_length, .ref a_text, .ref a_roundMany, .ref a_blowMany, .ref a_blows, .ref a_forwards, .ref a_downs, .ref a_takens, .ref a_homes, .ref a_noises, .ref a_judgeMany, .ref a_judges, .ref a_delays, .ref a_tolds, .ref a_tens, .int i_keptMany, .int i_place, .ref a_told, .ref a_ways, .ref a_nextWays, .ref a_tallies, .ref a_presses, .ref a_values, .ref a_nextValues])), (a_blowMany, .inl (X.2.1 0, 2, .inl f_blowMany)), (a_blows, .inl (X.2.1 0, 400, .inl f_blows)), (a_forwards, .inl (X.2.1 0, 48, .inl f_forwards)), (a_homes, .inl (X.2.1 0, 2, .inl f_homes)), (a_judgeMany, .inl (X.2.1 0, 2, .inl f_judgeMany)), (a_judges, .inl (X.2.1 0, 112, .inl f_judges)), (a_noises, .inl (X.2.1 0, 2, .inl f_noises)), (a_roundMany, .inl (X.2.1 0, 2, .inl f_roundMany))]) hx hb hml hts hown hG hA hP hD rfl hS hl.1 (qX11_isRound l X a_this a_roundMany a_text a_blowMany a_blows a_forwards a_downs a_takens a_homes a_noises a_judgeMany a_judges a_delays a_tolds a_tens a_told a_ways a_nextWays a_tallies a_presses a_values a_nextValues i_length i_keptMany i_place f_roundMany x1 o4 ho4) (cwV (y := yX11_isRound) 1 hts gX11_lead_X11_isRound rfl rfl rfl hdvX11_isRound ⟨Nat.le_of_ble_eq_true rfl, Nat.le_of_ble_eq_true rfl⟩) [0, 8] [1, 2, 3, 4, 5, 6, 7] [7, 0, 1, 2, 3, 4, 5, 6, 8] rfl rfl rfl rfl rfl rfl rfl (ci := 11) rfl 0 rfl rfl rfl (Nat.le_of_ble_eq_true rfl) ⟨Nat.le_of_ble_eq_true rfl, Nat.le_of_ble_eq_true rfl⟩ dX11_lead_10 (fun H locs hP _ hS => ?_)
    refine lv_if_eq (tgt := 25) hx hb dX11_lead_13 (by decide) (fun c6 => ?_) (fun c6 => ?_)
    · have hf := xt hf c6
      refine lv_ldc (v := (-100001 : Int32)) hx hb hown w1 dX11_lead_25 ?_
      obtain rfl := Option.some.inj hf
      exact ret H _ ls _ rfl hP hD hS dX11_lead_27
    · have hf := xf hf c6
      refine lv_aload_n hx hb dX11_lead_16 rfl (lv_at hl 0 rfl) ?_
      refine lv_iload_n hx hb dX11_lead_17 rfl (lv_at hl 1 rfl) ?_
      refine lv_iload_n hx hb dX11_lead_18 rfl (lv_at hl 2 rfl) ?_
      obtain ⟨o7, ho7, hf⟩ := ob_s hf
      refine xV_i (As := [.int x0, .int x1]) (b := a_this) (rest := []) (ws2 := [(a_this, .inr (11, [.int i_length, .ref a_text, .ref a_roundMany, .ref a_blowMany, .ref a_blows, .ref a_forwards, .ref a_downs, .ref a_takens, .ref a_homes, .ref a_noises, .ref a_judgeMany, .ref a_judges, .ref a_delays, .ref a_tolds, .ref a_tens, .int i_keptMany, .int i_place, .ref a_told, .ref a_ways, .ref a_nextWays, .ref a_tallies, .ref a_presses, .ref a_values, .ref a_nextValues])), (a_blowMany, .inl (X.2.1 0, 2, .inl f_blowMany)), (a_blows, .inl (X.2.1 0, 400, .inl f_blows)), (a_forwards, .inl (X.2.1 0, 48, .inl f_forwards)), (a_homes, .inl (X.2.1 0, 2, .inl f_homes)), (a_judgeMany, .inl (X.2.1 0, 2, .inl f_judgeMany)), (a_judges, .inl (X.2.1 0, 112, .inl f_judges)), (a_noises, .inl (X.2.1 0, 2, .inl f_noises)), (a_roundMany, .inl (X.2.1 0, 2, .inl f_roundMany))]) hx hb hml hts hown hG hA hP hD rfl hS hl.1 (qX11_leadOf l X a_this a_blowMany a_blows a_forwards a_homes a_judges a_noises a_text a_roundMany a_downs a_takens a_judgeMany a_delays a_tolds a_tens a_told a_ways a_nextWays a_tallies a_presses a_values a_nextValues i_length i_keptMany i_place f_blowMany f_blows f_forwards f_homes f_judges f_noises x0 x1 o7 ho7) (cwV (y := yX11_leadOf) 2 hts gX11_lead_X11_leadOf rfl rfl rfl hdvX11_leadOf ⟨Nat.le_of_ble_eq_true rfl, Nat.le_of_ble_eq_true rfl⟩) [0, 1, 2, 3, 4, 6, 7] [5, 8] [2, 3, 4, 5, 6, 0, 7, 8, 1] rfl rfl rfl rfl rfl rfl rfl (ci := 11) rfl 0 rfl rfl rfl (Nat.le_of_ble_eq_true rfl) ⟨Nat.le_of_ble_eq_true rfl, Nat.le_of_ble_eq_true rfl⟩ dX11_lead_19 (fun H locs hP _ hS => ?_)
      refine lv_goto (tgt := 27) hx hb dX11_lead_22 (by decide) ?_
      obtain rfl := Option.some.inj hf
      exact ret H _ ls _ rfl hP hD hS dX11_lead_27
def mX11_close (x0 : Int32) (x1 : Int32) (f_blowMany : Nat → Int32) (f_blows : Nat → Int32) (f_forwards : Nat → Int32) (f_homes : Nat → Int32) (f_judgeMany : Nat → Int32) (f_judges : Nat → Int32) (f_noises : Nat → Int32) (f_roundMany : Nat → Int32) :
  Option (Int32) :=
  (mX11_isJudge x0 f_judgeMany).bind fun o1 =>
  if o1 = 0 then (some (-1 : Int32)) else ((mX11_isRound x1 f_roundMany).bind fun o4 =>
  if o4 = 0 then (some (-1 : Int32)) else ((mX11_isClose x0 x1 f_blowMany f_blows f_forwards f_homes f_judges f_noises).bind fun o7 =>
  if o7 = 0 then (some (0 : Int32)) else (some (1 : Int32))))
theorem hdsX11_close : yX11_close.cls ≠ "java/lang/invoke/MethodHandle" ∧ yX11_close.cls ≠ "java/lang/invoke/VarHandle" ∧ (parseMethodDescriptor yX11_close.desc).map (fun d => d.parameters.length) = some 2 := by decide +kernel
theorem hdvX11_close : yX11_close.cls = RX11 ∧ yX11_close.cls ≠ "java/lang/invoke/MethodHandle" ∧ yX11_close.cls ≠ "java/lang/invoke/VarHandle" ∧ (parseMethodDescriptor yX11_close.desc).map (fun d => d.parameters.length) = some 2 := by decide +kernel
abbrev rmX11_close : Room := { frames := 5, cells := 0, slots := 0, locals := 116 }
set_option maxHeartbeats 4000000 in
set_option maxRecDepth 100000 in
theorem qX11_close (l : Launch) (X : XT) (a_this : Nat) (a_blowMany : Nat) (a_blows : Nat) (a_forwards : Nat) (a_homes : Nat) (a_judgeMany : Nat) (a_judges : Nat) (a_noises : Nat) (a_roundMany : Nat) (a_text : Nat) (a_downs : Nat) (a_takens : Nat) (a_delays : Nat) (a_tolds : Nat) (a_tens : Nat) (a_told : Nat) (a_ways : Nat) (a_nextWays : Nat) (a_tallies : Nat) (a_presses : Nat) (a_values : Nat) (a_nextValues : Nat)  (i_length : Int32) (i_keptMany : Int32) (i_place : Int32) (f_blowMany : Nat → Int32) (f_blows : Nat → Int32) (f_forwards : Nat → Int32) (f_homes : Nat → Int32) (f_judgeMany : Nat → Int32) (f_judges : Nat → Int32) (f_noises : Nat → Int32) (f_roundMany : Nat → Int32) (x0 : Int32) (x1 : Int32) (o : Int32) (hf : mX11_close x0 x1 f_blowMany f_blows f_forwards f_homes f_judgeMany f_judges f_noises f_roundMany = some o) :
    MI l yX11_close wsX11_close rmX11_close X [.ref a_this, .int x0, .int x1] [(a_this, .inr (11, [.int i_length, .ref a_text, .ref a_roundMany, .ref a_blowMany, .ref a_blows, .ref a_forwards, .ref a_downs, .ref a_takens, .ref a_homes, .ref a_noises, .ref a_judgeMany, .ref a_judges, .ref a_delays, .ref a_tolds, .ref a_tens, .int i_keptMany, .int i_place, .ref a_told, .ref a_ways, .ref a_nextWays, .ref a_tallies, .ref a_presses, .ref a_values, .ref a_nextValues])), (a_blowMany, .inl (X.2.1 0, 2, .inl f_blowMany)), (a_blows, .inl (X.2.1 0, 400, .inl f_blows)), (a_forwards, .inl (X.2.1 0, 48, .inl f_forwards)), (a_homes, .inl (X.2.1 0, 2, .inl f_homes)), (a_judgeMany, .inl (X.2.1 0, 2, .inl f_judgeMany)), (a_judges, .inl (X.2.1 0, 112, .inl f_judges)), (a_noises, .inl (X.2.1 0, 2, .inl f_noises)), (a_roundMany, .inl (X.2.1 0, 2, .inl f_roundMany))]  [(a_this, .inr (11, [.int i_length, .ref a_text, .ref a_roundMany, .ref a_blowMany, .ref a_blows, .ref a_forwards, .ref a_downs, .ref a_takens, .ref a_homes, .ref a_noises, .ref a_judgeMany, .ref a_judges, .ref a_delays, .ref a_tolds, .ref a_tens, .int i_keptMany, .int i_place, .ref a_told, .ref a_ways, .ref a_nextWays, .ref a_tallies, .ref a_presses, .ref a_values, .ref a_nextValues])), (a_blowMany, .inl (X.2.1 0, 2, .inl f_blowMany)), (a_blows, .inl (X.2.1 0, 400, .inl f_blows)), (a_forwards, .inl (X.2.1 0, 48, .inl f_forwards)), (a_homes, .inl (X.2.1 0, 2, .inl f_homes)), (a_judgeMany, .inl (X.2.1 0, 2, .inl f_judgeMany)), (a_judges, .inl (X.2.1 0, 112, .inl f_judges)), (a_noises, .inl (X.2.1 0, 2, .inl f_noises)), (a_roundMany, .inl (X.2.1 0, 2, .inl f_roundMany))] o := by
  refine MI_ofH (cc := cX11_close) (maxL := 3) (rt := .int) (by decide) rfl (Nat.le_of_ble_eq_true rfl) ?_
  intro p e s m below meth c A Q H ls hx hb hml hts hown hA hD hG hP hS hl ret
  have hown : s.vm.findClass RX11 = some m.cls := hown
  have hD : aD A [a_this, a_blowMany, a_blows, a_forwards, a_homes, a_judgeMany, a_judges, a_noises, a_roundMany] := hD
  have hl : lv_has ls 3 [(0, .ref a_this), (1, .int x0), (2, .int x1)] := hl
  unfold mX11_close at hf
  refine lv_aload_n hx hb dX11_close_0 rfl (lv_at hl 0 rfl) ?_
  refine lv_iload_n hx hb dX11_close_1 rfl (lv_at hl 1 rfl) ?_
  obtain ⟨o1, ho1, hf⟩ := ob_s hf
  refine xV_i (As := [.int x0]) (b := a_this) (rest := []) (ws2 := [(a_this, .inr (11, [.int i_length, .ref a_text, .ref a_roundMany, .ref a_blowMany, .ref a_blows, .ref a_forwards, .ref a_downs, .ref a_takens, .ref a_homes, .ref a_noises, .ref a_judgeMany, .ref a_judges, .ref a_delays, .ref a_tolds, .ref a_tens, .int i_keptMany, .int i_place, .ref a_told, .ref a_ways, .ref a_nextWays, .ref a_tallies, .ref a_presses, .ref a_values, .ref a_nextValues])), (a_blowMany, .inl (X.2.1 0, 2, .inl f_blowMany)), (a_blows, .inl (X.2.1 0, 400, .inl f_blows)), (a_forwards, .inl (X.2.1 0, 48, .inl f_forwards)), (a_homes, .inl (X.2.1 0, 2, .inl f_homes)), (a_judgeMany, .inl (X.2.1 0, 2, .inl f_judgeMany)), (a_judges, .inl (X.2.1 0, 112, .inl f_judges)), (a_noises, .inl (X.2.1 0, 2, .inl f_noises)), (a_roundMany, .inl (X.2.1 0, 2, .inl f_roundMany))]) hx hb hml hts hown hG hA hP hD rfl hS hl.1 (qX11_isJudge l X a_this a_judgeMany a_text a_roundMany a_blowMany a_blows a_forwards a_downs a_takens a_homes a_noises a_judges a_delays a_tolds a_tens a_told a_ways a_nextWays a_tallies a_presses a_values a_nextValues i_length i_keptMany i_place f_judgeMany x0 o1 ho1) (cwV (y := yX11_isJudge) 1 hts gX11_close_X11_isJudge rfl rfl rfl hdvX11_isJudge ⟨Nat.le_of_ble_eq_true rfl, Nat.le_of_ble_eq_true rfl⟩) [0, 5] [1, 2, 3, 4, 6, 7, 8] [7, 0, 1, 2, 3, 8, 4, 5, 6] rfl rfl rfl rfl rfl rfl rfl (ci := 11) rfl 0 rfl rfl rfl (Nat.le_of_ble_eq_true rfl) ⟨Nat.le_of_ble_eq_true rfl, Nat.le_of_ble_eq_true rfl⟩ dX11_close_2 (fun H locs hP _ hS => ?_)
  refine lv_if_eq (tgt := 33) hx hb dX11_close_5 (by decide) (fun c3 => ?_) (fun c3 => ?_)
  · have hf := xt hf c3
    refine lv_iconst (v := (-1 : Int32)) hx hb dX11_close_33 (by decide) ?_
    obtain rfl := Option.some.inj hf
    exact ret H _ ls _ rfl hP hD hS dX11_close_34
  · have hf := xf hf c3
    refine lv_aload_n hx hb dX11_close_8 rfl (lv_at hl 0 rfl) ?_
    refine lv_iload_n hx hb dX11_close_9 rfl (lv_at hl 2 rfl) ?_
    obtain ⟨o4, ho4, hf⟩ := ob_s hf
    refine xV_i (As := [.int x1]) (b := a_this) (rest := []) (ws2 := [(a_this, .inr (11, [.int i_length, .ref a_text, .ref a_roundMany, .ref a_blowMany, .ref a_blows, .ref a_forwards, .ref a_downs, .ref a_takens, .ref a_homes, .ref a_noises, .ref a_judgeMany, .ref a_judges, .ref a_delays, .ref a_tolds, .ref a_tens, .int i_keptMany, .int i_place, .ref a_told, .ref a_ways, .ref a_nextWays, .ref a_tallies, .ref a_presses, .ref a_values, .ref a_nextValues])), (a_blowMany, .inl (X.2.1 0, 2, .inl f_blowMany)), (a_blows, .inl (X.2.1 0, 400, .inl f_blows)), (a_forwards, .inl (X.2.1 0, 48, .inl f_forwards)), (a_homes, .inl (X.2.1 0, 2, .inl f_homes)), (a_judgeMany, .inl (X.2.1 0, 2, .inl f_judgeMany)), (a_judges, .inl (X.2.1 0, 112, .inl f_judges)), (a_noises, .inl (X.2.1 0, 2, .inl f_noises)), (a_roundMany, .inl (X.2.1 0, 2, .inl f_roundMany))]) hx hb hml hts hown hG hA hP hD rfl hS hl.1 (qX11_isRound l X a_this a_roundMany a_text a_blowMany a_blows a_forwards a_downs a_takens a_homes a_noises a_judgeMany a_judges a_delays a_tolds a_tens a_told a_ways a_nextWays a_tallies a_presses a_values a_nextValues i_length i_keptMany i_place f_roundMany x1 o4 ho4) (cwV (y := yX11_isRound) 1 hts gX11_close_X11_isRound rfl rfl rfl hdvX11_isRound ⟨Nat.le_of_ble_eq_true rfl, Nat.le_of_ble_eq_true rfl⟩) [0, 8] [1, 2, 3, 4, 5, 6, 7] [7, 0, 1, 2, 3, 4, 5, 6, 8] rfl rfl rfl rfl rfl rfl rfl (ci := 11) rfl 0 rfl rfl rfl (Nat.le_of_ble_eq_true rfl) ⟨Nat.le_of_ble_eq_true rfl, Nat.le_of_ble_eq_true rfl⟩ dX11_close_10 (fun H locs hP _ hS => ?_)
    refine lv_if_eq (tgt := 33) hx hb dX11_close_13 (by decide) (fun c6 => ?_) (fun c6 => ?_)
    · have hf := xt hf c6
      refine lv_iconst (v := (-1 : Int32)) hx hb dX11_close_33 (by decide) ?_
      obtain rfl := Option.some.inj hf
      exact ret H _ ls _ rfl hP hD hS dX11_close_34
    · have hf := xf hf c6
      refine lv_aload_n hx hb dX11_close_16 rfl (lv_at hl 0 rfl) ?_
      refine lv_iload_n hx hb dX11_close_17 rfl (lv_at hl 1 rfl) ?_
      refine lv_iload_n hx hb dX11_close_18 rfl (lv_at hl 2 rfl) ?_
      obtain ⟨o7, ho7, hf⟩ := ob_s hf
      refine xV_i (As := [.int x0, .int x1]) (b := a_this) (rest := []) (ws2 := [(a_this, .inr (11, [.int i_length, .ref a_text, .ref a_roundMany, .ref a_blowMany, .ref a_blows, .ref a_forwards, .ref a_downs, .ref a_takens, .ref a_homes, .ref a_noises, .ref a_judgeMany, .ref a_judges, .ref a_delays, .ref a_tolds, .ref a_tens, .int i_keptMany, .int i_place, .ref a_told, .ref a_ways, .ref a_nextWays, .ref a_tallies, .ref a_presses, .ref a_values, .ref a_nextValues])), (a_blowMany, .inl (X.2.1 0, 2, .inl f_blowMany)), (a_blows, .inl (X.2.1 0, 400, .inl f_blows)), (a_forwards, .inl (X.2.1 0, 48, .inl f_forwards)), (a_homes, .inl (X.2.1 0, 2, .inl f_homes)), (a_judgeMany, .inl (X.2.1 0, 2, .inl f_judgeMany)), (a_judges, .inl (X.2.1 0, 112, .inl f_judges)), (a_noises, .inl (X.2.1 0, 2, .inl f_noises)), (a_roundMany, .inl (X.2.1 0, 2, .inl f_roundMany))]) hx hb hml hts hown hG hA hP hD rfl hS hl.1 (qX11_isClose l X a_this a_blowMany a_blows a_forwards a_homes a_judges a_noises a_text a_roundMany a_downs a_takens a_judgeMany a_delays a_tolds a_tens a_told a_ways a_nextWays a_tallies a_presses a_values a_nextValues i_length i_keptMany i_place f_blowMany f_blows f_forwards f_homes f_judges f_noises x0 x1 o7 ho7) (cwV (y := yX11_isClose) 2 hts gX11_close_X11_isClose rfl rfl rfl hdvX11_isClose ⟨Nat.le_of_ble_eq_true rfl, Nat.le_of_ble_eq_true rfl⟩) [0, 1, 2, 3, 4, 6, 7] [5, 8] [2, 3, 4, 5, 6, 0, 7, 8, 1] rfl rfl rfl rfl rfl rfl rfl (ci := 11) rfl 0 rfl rfl rfl (Nat.le_of_ble_eq_true rfl) ⟨Nat.le_of_ble_eq_true rfl, Nat.le_of_ble_eq_true rfl⟩ dX11_close_19 (fun H locs hP _ hS => ?_)
      refine lv_if_eq (tgt := 29) hx hb dX11_close_22 (by decide) (fun c9 => ?_) (fun c9 => ?_)
      · have hf := xt hf c9
        refine lv_iconst (v := (0 : Int32)) hx hb dX11_close_29 (by decide) ?_
        refine lv_goto (tgt := 34) hx hb dX11_close_30 (by decide) ?_
        obtain rfl := Option.some.inj hf
        exact ret H _ ls _ rfl hP hD hS dX11_close_34
      · have hf := xf hf c9
        refine lv_iconst (v := (1 : Int32)) hx hb dX11_close_25 (by decide) ?_
        refine lv_goto (tgt := 34) hx hb dX11_close_26 (by decide) ?_
        obtain rfl := Option.some.inj hf
        exact ret H _ ls _ rfl hP hD hS dX11_close_34
