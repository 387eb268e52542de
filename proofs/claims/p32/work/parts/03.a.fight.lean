def mX3_isSeenFrom (x0 : Int32) (x1 : Int32) :
  Option (Int32) :=
  lb (iabs (x0 - x1)) fun v_1 =>
  if (4 : Int32) < (imin v_1 ((12 : Int32) - v_1)) then (some (0 : Int32)) else (some (1 : Int32))
theorem hdsX3_isSeenFrom : yX3_isSeenFrom.cls ≠ "java/lang/invoke/MethodHandle" ∧ yX3_isSeenFrom.cls ≠ "java/lang/invoke/VarHandle" ∧ (parseMethodDescriptor yX3_isSeenFrom.desc).map (fun d => d.parameters.length) = some 2 := by decide +kernel
abbrev rmX3_isSeenFrom : Room := { frames := 1, cells := 0, slots := 0, locals := 21 }
set_option maxHeartbeats 4000000 in
set_option maxRecDepth 100000 in
theorem qX3_isSeenFrom (l : Launch) (X : XT)    (x0 : Int32) (x1 : Int32) (o : Int32) (hf : mX3_isSeenFrom x0 x1 = some o) :
    MI l yX3_isSeenFrom wsX3_isSeenFrom rmX3_isSeenFrom X [.int x0, .int x1] []  [] o := by
  refine MI_ofH (cc := cX3_isSeenFrom) (maxL := 3) (rt := .boolean) (by decide) rfl (Nat.le_of_ble_eq_true rfl) ?_
  intro p e s m below meth c A Q H ls hx hb hml hts hown hA hD hG hP hS hl ret
  have hown : s.vm.findClass RX3 = some m.cls := hown
  have hD : aD A [] := hD
  have hl : lv_has ls 3 [(0, .int x0), (1, .int x1)] := hl
  have w1 := hts (.methodLink RX3 104 Lib.Math.abs.name) (List.mem_of_getElem? (i := 1) rfl)
  have w2 := hts (.static Lib.Math.abs.name) (List.mem_of_getElem? (i := 2) rfl)
  have w3 := hts (.initialized "java/lang/Math") (List.mem_of_getElem? (i := 3) rfl)
  have w4 := hts (.code Lib.Math.abs.name Lib.Math.abs.code 1 (some .int)) (List.mem_of_getElem? (i := 4) rfl)
  have w5 := hts (.methodLink RX3 110 Lib.Math.min.name) (List.mem_of_getElem? (i := 5) rfl)
  have w6 := hts (.static Lib.Math.min.name) (List.mem_of_getElem? (i := 6) rfl)
  have w7 := hts (.code Lib.Math.min.name Lib.Math.min.code 2 (some .int)) (List.mem_of_getElem? (i := 7) rfl)
  unfold mX3_isSeenFrom at hf
  refine lv_iload_n hx hb dX3_isSeenFrom_0 rfl (lv_at hl 0 rfl) ?_
  refine lv_iload_n hx hb dX3_isSeenFrom_1 rfl (lv_at hl 1 rfl) ?_
  refine lv_isub hx hb dX3_isSeenFrom_2 ?_
  refine x_mabs hx hb hml hl.1 hown w1 w2 w3 w4 (Nat.le_of_ble_eq_true rfl) (Nat.le_of_ble_eq_true rfl) (Nat.le_of_ble_eq_true rfl) (Nat.le_of_ble_eq_true rfl) dX3_isSeenFrom_3 ?_
  refine lv_topi (fun v_1 ev_1 => ?_)
  have hf := lb_s hf ev_1
  refine lv_istore_n (lv' := [(2, .int v_1), (0, .int x0), (1, .int x1)]) hx hb dX3_isSeenFrom_6 rfl hl (by decide) rfl (fun ls hl => ?_)
  refine lv_iload_n hx hb dX3_isSeenFrom_7 rfl (lv_at hl 0 rfl) ?_
  refine lv_bipush (v := (12 : Int32)) hx hb dX3_isSeenFrom_8 (by decide) ?_
  refine lv_iload_n hx hb dX3_isSeenFrom_10 rfl (lv_at hl 0 rfl) ?_
  refine lv_isub hx hb dX3_isSeenFrom_11 ?_
  refine x_mmin hx hb hml hl.1 hown w5 w6 w3 w7 (Nat.le_of_ble_eq_true rfl) (Nat.le_of_ble_eq_true rfl) (Nat.le_of_ble_eq_true rfl) (Nat.le_of_ble_eq_true rfl) dX3_isSeenFrom_12 ?_
  refine lv_iconst (v := (4 : Int32)) hx hb dX3_isSeenFrom_15 (by decide) ?_
  refine lv_icmp_gt (tgt := 23) hx hb dX3_isSeenFrom_16 (by decide) (fun c_2 => ?_) (fun c_2 => ?_)
  · have hf := xt hf c_2
    refine lv_iconst (v := (0 : Int32)) hx hb dX3_isSeenFrom_23 (by decide) ?_
    obtain rfl := Option.some.inj hf
    exact ret H _ ls _ (show narrow .boolean (.int (0 : Int32)) = .int (0 : Int32) from rfl) hP hD hS dX3_isSeenFrom_24
  · have hf := xf hf c_2
    refine lv_iconst (v := (1 : Int32)) hx hb dX3_isSeenFrom_19 (by decide) ?_
    refine lv_goto (tgt := 24) hx hb dX3_isSeenFrom_20 (by decide) ?_
    obtain rfl := Option.some.inj hf
    exact ret H _ ls _ (show narrow .boolean (.int (1 : Int32)) = .int (1 : Int32) from rfl) hP hD hS dX3_isSeenFrom_24
def mX3_sumPlace (x0 : Int32) (x1 : Int32) (x2 : Int32) :
  Option (Int32) :=
  lb ((((x0 * (12 : Int32)) + x1) * (2 : Int32)) + x2) fun v_1 =>
  some v_1
theorem hdsX3_sumPlace : yX3_sumPlace.cls ≠ "java/lang/invoke/MethodHandle" ∧ yX3_sumPlace.cls ≠ "java/lang/invoke/VarHandle" ∧ (parseMethodDescriptor yX3_sumPlace.desc).map (fun d => d.parameters.length) = some 3 := by decide +kernel
abbrev rmX3_sumPlace : Room := { frames := 0, cells := 0, slots := 0, locals := 0 }
set_option maxHeartbeats 4000000 in
set_option maxRecDepth 100000 in
theorem qX3_sumPlace (l : Launch) (X : XT)    (x0 : Int32) (x1 : Int32) (x2 : Int32) (o : Int32) (hf : mX3_sumPlace x0 x1 x2 = some o) :
    MI l yX3_sumPlace wsX3_sumPlace rmX3_sumPlace X [.int x0, .int x1, .int x2] []  [] o := by
  refine MI_ofH (cc := cX3_sumPlace) (maxL := 3) (rt := .int) (by decide) rfl (Nat.le_of_ble_eq_true rfl) ?_
  intro p e s m below meth c A Q H ls hx hb hml hts hown hA hD hG hP hS hl ret
  have hown : s.vm.findClass RX3 = some m.cls := hown
  have hD : aD A [] := hD
  have hl : lv_has ls 3 [(0, .int x0), (1, .int x1), (2, .int x2)] := hl
  unfold mX3_sumPlace at hf
  refine lv_iload_n hx hb dX3_sumPlace_0 rfl (lv_at hl 0 rfl) ?_
  refine lv_bipush (v := (12 : Int32)) hx hb dX3_sumPlace_1 (by decide) ?_
  refine lv_imul hx hb dX3_sumPlace_3 ?_
  refine lv_iload_n hx hb dX3_sumPlace_4 rfl (lv_at hl 1 rfl) ?_
  refine lv_iadd hx hb dX3_sumPlace_5 ?_
  refine lv_iconst (v := (2 : Int32)) hx hb dX3_sumPlace_6 (by decide) ?_
  refine lv_imul hx hb dX3_sumPlace_7 ?_
  refine lv_iload_n hx hb dX3_sumPlace_8 rfl (lv_at hl 2 rfl) ?_
  refine lv_iadd hx hb dX3_sumPlace_9 ?_
  refine lv_topi (fun v_1 ev_1 => ?_)
  have hf := lb_s hf ev_1
  obtain rfl := Option.some.inj hf
  exact ret H _ ls _ rfl hP hD hS dX3_sumPlace_10
def mX3_blowPart (x0 : Int32) (x1 : Int32) (f_blows : Nat → Int32) :
  Option (Int32) :=
  gi ((x0 * (5 : Int32)) + x1) 200 <|
  lb (f_blows ((x0 * (5 : Int32)) + x1).toNatClampNeg) fun v_2 =>
  some v_2
theorem hdsX3_blowPart : yX3_blowPart.cls ≠ "java/lang/invoke/MethodHandle" ∧ yX3_blowPart.cls ≠ "java/lang/invoke/VarHandle" ∧ (parseMethodDescriptor yX3_blowPart.desc).map (fun d => d.parameters.length) = some 2 := by decide +kernel
theorem hdvX3_blowPart : yX3_blowPart.cls = RX3 ∧ yX3_blowPart.cls ≠ "java/lang/invoke/MethodHandle" ∧ yX3_blowPart.cls ≠ "java/lang/invoke/VarHandle" ∧ (parseMethodDescriptor yX3_blowPart.desc).map (fun d => d.parameters.length) = some 2 := by decide +kernel
abbrev rmX3_blowPart : Room := { frames := 0, cells := 0, slots := 0, locals := 0 }
set_option maxHeartbeats 4000000 in
set_option maxRecDepth 100000 in
theorem qX3_blowPart (l : Launch) (X : XT) (a_this : Nat) (a_blows : Nat) (a_judges : Nat) (a_forward : Nat) (a_downs : Nat) (a_taken : Nat) (a_seenBy : Nat) (a_sums : Nat) (a_leads : Nat)  (i_rounds : Int32) (i_home : Int32) (i_noise : Int32) (i_blowCount : Int32) (i_judgeCount : Int32) (f_blows : Nat → Int32) (x0 : Int32) (x1 : Int32) (o : Int32) (hf : mX3_blowPart x0 x1 f_blows = some o) :
    MI l yX3_blowPart wsX3_blowPart rmX3_blowPart X [.ref a_this, .int x0, .int x1] [(a_this, .inr (3, [.int i_rounds, .int i_home, .int i_noise, .int i_blowCount, .int i_judgeCount, .ref a_blows, .ref a_judges, .ref a_forward, .ref a_downs, .ref a_taken, .ref a_seenBy, .ref a_sums, .ref a_leads])), (a_blows, .inl (X.2.1 0, 200, .inl f_blows))]  [(a_this, .inr (3, [.int i_rounds, .int i_home, .int i_noise, .int i_blowCount, .int i_judgeCount, .ref a_blows, .ref a_judges, .ref a_forward, .ref a_downs, .ref a_taken, .ref a_seenBy, .ref a_sums, .ref a_leads])), (a_blows, .inl (X.2.1 0, 200, .inl f_blows))] o := by
  refine MI_ofH (cc := cX3_blowPart) (maxL := 3) (rt := .int) (by decide) rfl (Nat.le_of_ble_eq_true rfl) ?_
  intro p e s m below meth c A Q H ls hx hb hml hts hown hA hD hG hP hS hl ret
  have hown : s.vm.findClass RX3 = some m.cls := hown
  have hD : aD A [a_this, a_blows] := hD
  have hl : lv_has ls 3 [(0, .ref a_this), (1, .int x0), (2, .int x1)] := hl
  have w1 := hts (.fieldLink RX3 9 "ThreeCards$Fight" "blows" "[I") (List.mem_of_getElem? (i := 1) rfl)
  have in3 : ∀ w ∈ u_ws RX3 TX3 13, w ∈ wsX3_blowPart := by decide +kernel
  unfold mX3_blowPart at hf
  refine lv_aload_n hx hb dX3_blowPart_0 rfl (lv_at hl 0 rfl) ?_
  refine va_get (D := X.1) (ci := 3) (v := .ref a_blows) (C := RX3) (T := TX3) (N := 13) hx hb hts in3 hown hG.1 hP 0 rfl rfl 5 (by decide) w1 (fun _ h9 => h9) rfl dX3_blowPart_1 ?_
  refine lv_iload_n hx hb dX3_blowPart_4 rfl (lv_at hl 1 rfl) ?_
  refine lv_iconst (v := (5 : Int32)) hx hb dX3_blowPart_5 (by decide) ?_
  refine lv_imul hx hb dX3_blowPart_6 ?_
  refine lv_iload_n hx hb dX3_blowPart_7 rfl (lv_at hl 2 rfl) ?_
  refine lv_iadd hx hb dX3_blowPart_8 ?_
  obtain ⟨h_1, hf⟩ := gi_s hf
  refine va_iald (D := X.1) hx hb hG.1 hP 1 0 rfl rfl h_1 dX3_blowPart_9 ?_
  refine lv_topi (fun v_2 ev_2 => ?_)
  have hf := lb_s hf ev_2
  obtain rfl := Option.some.inj hf
  exact ret H _ ls _ rfl hP hD hS dX3_blowPart_10
def mX3_judgePart (x0 : Int32) (x1 : Int32) (f_judges : Nat → Int32) :
  Option (Int32) :=
  gi ((x0 * (7 : Int32)) + x1) 56 <|
  lb (f_judges ((x0 * (7 : Int32)) + x1).toNatClampNeg) fun v_2 =>
  some v_2
theorem hdsX3_judgePart : yX3_judgePart.cls ≠ "java/lang/invoke/MethodHandle" ∧ yX3_judgePart.cls ≠ "java/lang/invoke/VarHandle" ∧ (parseMethodDescriptor yX3_judgePart.desc).map (fun d => d.parameters.length) = some 2 := by decide +kernel
theorem hdvX3_judgePart : yX3_judgePart.cls = RX3 ∧ yX3_judgePart.cls ≠ "java/lang/invoke/MethodHandle" ∧ yX3_judgePart.cls ≠ "java/lang/invoke/VarHandle" ∧ (parseMethodDescriptor yX3_judgePart.desc).map (fun d => d.parameters.length) = some 2 := by decide +kernel
abbrev rmX3_judgePart : Room := { frames := 0, cells := 0, slots := 0, locals := 0 }
set_option maxHeartbeats 4000000 in
set_option maxRecDepth 100000 in
theorem qX3_judgePart (l : Launch) (X : XT) (a_this : Nat) (a_judges : Nat) (a_blows : Nat) (a_forward : Nat) (a_downs : Nat) (a_taken : Nat) (a_seenBy : Nat) (a_sums : Nat) (a_leads : Nat)  (i_rounds : Int32) (i_home : Int32) (i_noise : Int32) (i_blowCount : Int32) (i_judgeCount : Int32) (f_judges : Nat → Int32) (x0 : Int32) (x1 : Int32) (o : Int32) (hf : mX3_judgePart x0 x1 f_judges = some o) :
    MI l yX3_judgePart wsX3_judgePart rmX3_judgePart X [.ref a_this, .int x0, .int x1] [(a_this, .inr (3, [.int i_rounds, .int i_home, .int i_noise, .int i_blowCount, .int i_judgeCount, .ref a_blows, .ref a_judges, .ref a_forward, .ref a_downs, .ref a_taken, .ref a_seenBy, .ref a_sums, .ref a_leads])), (a_judges, .inl (X.2.1 0, 56, .inl f_judges))]  [(a_this, .inr (3, [.int i_rounds, .int i_home, .int i_noise, .int i_blowCount, .int i_judgeCount, .ref a_blows, .ref a_judges, .ref a_forward, .ref a_downs, .ref a_taken, .ref a_seenBy, .ref a_sums, .ref a_leads])), (a_judges, .inl (X.2.1 0, 56, .inl f_judges))] o := by
  refine MI_ofH (cc := cX3_judgePart) (maxL := 3) (rt := .int) (by decide) rfl (Nat.le_of_ble_eq_true rfl) ?_
  intro p e s m below meth c A Q H ls hx hb hml hts hown hA hD hG hP hS hl ret
  have hown : s.vm.findClass RX3 = some m.cls := hown
  have hD : aD A [a_this, a_judges] := hD
  have hl : lv_has ls 3 [(0, .ref a_this), (1, .int x0), (2, .int x1)] := hl
  have w1 := hts (.fieldLink RX3 13 "ThreeCards$Fight" "judges" "[I") (List.mem_of_getElem? (i := 1) rfl)
  have in3 : ∀ w ∈ u_ws RX3 TX3 13, w ∈ wsX3_judgePart := by decide +kernel
  unfold mX3_judgePart at hf
  refine lv_aload_n hx hb dX3_judgePart_0 rfl (lv_at hl 0 rfl) ?_
  refine va_get (D := X.1) (ci := 3) (v := .ref a_judges) (C := RX3) (T := TX3) (N := 13) hx hb hts in3 hown hG.1 hP 0 rfl rfl 6 (by decide) w1 (fun _ h9 => h9) rfl dX3_judgePart_1 ?_
  refine lv_iload_n hx hb dX3_judgePart_4 rfl (lv_at hl 1 rfl) ?_
  refine lv_bipush (v := (7 : Int32)) hx hb dX3_judgePart_5 (by decide) ?_
  refine lv_imul hx hb dX3_judgePart_7 ?_
  refine lv_iload_n hx hb dX3_judgePart_8 rfl (lv_at hl 2 rfl) ?_
  refine lv_iadd hx hb dX3_judgePart_9 ?_
  obtain ⟨h_1, hf⟩ := gi_s hf
  refine va_iald (D := X.1) hx hb hG.1 hP 1 0 rfl rfl h_1 dX3_judgePart_10 ?_
  refine lv_topi (fun v_2 ev_2 => ?_)
  have hf := lb_s hf ev_2
  obtain rfl := Option.some.inj hf
  exact ret H _ ls _ rfl hP hD hS dX3_judgePart_11
def mX3_isSeen (x0 : Int32) (x1 : Int32) (f_seenBy : Nat → Int32) :
  Option (Int32) :=
  gi x1 40 <|
  if (((f_seenBy x1.toNatClampNeg) >>> (x0 &&& 31)) &&& (1 : Int32)) = (1 : Int32) then (some (1 : Int32)) else (some (0 : Int32))
theorem hdsX3_isSeen : yX3_isSeen.cls ≠ "java/lang/invoke/MethodHandle" ∧ yX3_isSeen.cls ≠ "java/lang/invoke/VarHandle" ∧ (parseMethodDescriptor yX3_isSeen.desc).map (fun d => d.parameters.length) = some 2 := by decide +kernel
theorem hdvX3_isSeen : yX3_isSeen.cls = RX3 ∧ yX3_isSeen.cls ≠ "java/lang/invoke/MethodHandle" ∧ yX3_isSeen.cls ≠ "java/lang/invoke/VarHandle" ∧ (parseMethodDescriptor yX3_isSeen.desc).map (fun d => d.parameters.length) = some 2 := by decide +kernel
abbrev rmX3_isSeen : Room := { frames := 0, cells := 0, slots := 0, locals := 0 }
set_option maxHeartbeats 4000000 in
set_option maxRecDepth 100000 in
theorem qX3_isSeen (l : Launch) (X : XT) (a_this : Nat) (a_seenBy : Nat) (a_blows : Nat) (a_judges : Nat) (a_forward : Nat) (a_downs : Nat) (a_taken : Nat) (a_sums : Nat) (a_leads : Nat)  (i_rounds : Int32) (i_home : Int32) (i_noise : Int32) (i_blowCount : Int32) (i_judgeCount : Int32) (f_seenBy : Nat → Int32) (x0 : Int32) (x1 : Int32) (o : Int32) (hf : mX3_isSeen x0 x1 f_seenBy = some o) :
    MI l yX3_isSeen wsX3_isSeen rmX3_isSeen X [.ref a_this, .int x0, .int x1] [(a_this, .inr (3, [.int i_rounds, .int i_home, .int i_noise, .int i_blowCount, .int i_judgeCount, .ref a_blows, .ref a_judges, .ref a_forward, .ref a_downs, .ref a_taken, .ref a_seenBy, .ref a_sums, .ref a_leads])), (a_seenBy, .inl (X.2.1 0, 40, .inl f_seenBy))]  [(a_this, .inr (3, [.int i_rounds, .int i_home, .int i_noise, .int i_blowCount, .int i_judgeCount, .ref a_blows, .ref a_judges, .ref a_forward, .ref a_downs, .ref a_taken, .ref a_seenBy, .ref a_sums, .ref a_leads])), (a_seenBy, .inl (X.2.1 0, 40, .inl f_seenBy))] o := by
  refine MI_ofH (cc := cX3_isSeen) (maxL := 3) (rt := .boolean) (by decide) rfl (Nat.le_of_ble_eq_true rfl) ?_
  intro p e s m below meth c A Q H ls hx hb hml hts hown hA hD hG hP hS hl ret
  have hown : s.vm.findClass RX3 = some m.cls := hown
  have hD : aD A [a_this, a_seenBy] := hD
  have hl : lv_has ls 3 [(0, .ref a_this), (1, .int x0), (2, .int x1)] := hl
  have w1 := hts (.fieldLink RX3 25 "ThreeCards$Fight" "seenBy" "[I") (List.mem_of_getElem? (i := 1) rfl)
  have in3 : ∀ w ∈ u_ws RX3 TX3 13, w ∈ wsX3_isSeen := by decide +kernel
  unfold mX3_isSeen at hf
  refine lv_aload_n hx hb dX3_isSeen_0 rfl (lv_at hl 0 rfl) ?_
  refine va_get (D := X.1) (ci := 3) (v := .ref a_seenBy) (C := RX3) (T := TX3) (N := 13) hx hb hts in3 hown hG.1 hP 0 rfl rfl 10 (by decide) w1 (fun _ h9 => h9) rfl dX3_isSeen_1 ?_
  refine lv_iload_n hx hb dX3_isSeen_4 rfl (lv_at hl 2 rfl) ?_
  obtain ⟨h_1, hf⟩ := gi_s hf
  refine va_iald (D := X.1) hx hb hG.1 hP 1 0 rfl rfl h_1 dX3_isSeen_5 ?_
  refine lv_iload_n hx hb dX3_isSeen_6 rfl (lv_at hl 1 rfl) ?_
  refine lv_ishr hx hb dX3_isSeen_7 ?_
  refine lv_iconst (v := (1 : Int32)) hx hb dX3_isSeen_8 (by decide) ?_
  refine lv_iand hx hb dX3_isSeen_9 ?_
  refine lv_iconst (v := (1 : Int32)) hx hb dX3_isSeen_10 (by decide) ?_
  refine lv_icmp_ne (tgt := 18) hx hb dX3_isSeen_11 (by decide) (fun c_2 => ?_) (fun c_2 => ?_)
  · have hf := xf hf c_2
    refine lv_iconst (v := (0 : Int32)) hx hb dX3_isSeen_18 (by decide) ?_
    obtain rfl := Option.some.inj hf
    exact ret H _ ls _ (show narrow .boolean (.int (0 : Int32)) = .int (0 : Int32) from rfl) hP hD hS dX3_isSeen_19
  · have hf := xt hf c_2
    refine lv_iconst (v := (1 : Int32)) hx hb dX3_isSeen_14 (by decide) ?_
    refine lv_goto (tgt := 19) hx hb dX3_isSeen_15 (by decide) ?_
    obtain rfl := Option.some.inj hf
    exact ret H _ ls _ (show narrow .boolean (.int (1 : Int32)) = .int (1 : Int32) from rfl) hP hD hS dX3_isSeen_19
def mX3_isInRounds (x0 : Int32) (i_rounds : Int32) (f_blows : Nat → Int32) :
  Option (Int32) :=
  (mX3_blowPart x0 (0 : Int32) f_blows).bind fun o_1 =>
  if i_rounds ≤ o_1 then (some (0 : Int32)) else (some (1 : Int32))
theorem hdsX3_isInRounds : yX3_isInRounds.cls ≠ "java/lang/invoke/MethodHandle" ∧ yX3_isInRounds.cls ≠ "java/lang/invoke/VarHandle" ∧ (parseMethodDescriptor yX3_isInRounds.desc).map (fun d => d.parameters.length) = some 1 := by decide +kernel
theorem hdvX3_isInRounds : yX3_isInRounds.cls = RX3 ∧ yX3_isInRounds.cls ≠ "java/lang/invoke/MethodHandle" ∧ yX3_isInRounds.cls ≠ "java/lang/invoke/VarHandle" ∧ (parseMethodDescriptor yX3_isInRounds.desc).map (fun d => d.parameters.length) = some 1 := by decide +kernel
abbrev rmX3_isInRounds : Room := { frames := 1, cells := 0, slots := 0, locals := 22 }
set_option maxHeartbeats 4000000 in
set_option maxRecDepth 100000 in
theorem qX3_isInRounds (l : Launch) (X : XT) (a_this : Nat) (a_blows : Nat) (a_judges : Nat) (a_forward : Nat) (a_downs : Nat) (a_taken : Nat) (a_seenBy : Nat) (a_sums : Nat) (a_leads : Nat)  (i_rounds : Int32) (i_home : Int32) (i_noise : Int32) (i_blowCount : Int32) (i_judgeCount : Int32) (f_blows : Nat → Int32) (x0 : Int32) (o : Int32) (hf : mX3_isInRounds x0 i_rounds f_blows = some o) :
    MI l yX3_isInRounds wsX3_isInRounds rmX3_isInRounds X [.ref a_this, .int x0] [(a_this, .inr (3, [.int i_rounds, .int i_home, .int i_noise, .int i_blowCount, .int i_judgeCount, .ref a_blows, .ref a_judges, .ref a_forward, .ref a_downs, .ref a_taken, .ref a_seenBy, .ref a_sums, .ref a_leads])), (a_blows, .inl (X.2.1 0, 200, .inl f_blows))]  [(a_this, .inr (3, [.int i_rounds, .int i_home, .int i_noise, .int i_blowCount, .int i_judgeCount, .ref a_blows, .ref a_judges, .ref a_forward, .ref a_downs, .ref a_taken, .ref a_seenBy, .ref a_sums, .ref a_leads])), (a_blows, .inl (X.2.1 0, 200, .inl f_blows))] o := by
  refine MI_ofH (cc := cX3_isInRounds) (maxL := 2) (rt := .boolean) (by decide) rfl (Nat.le_of_ble_eq_true rfl) ?_
  intro p e s m below meth c A Q H ls hx hb hml hts hown hA hD hG hP hS hl ret
  have hown : s.vm.findClass RX3 = some m.cls := hown
  have hD : aD A [a_this, a_blows] := hD
  have hl : lv_has ls 2 [(0, .ref a_this), (1, .int x0)] := hl
  have w1 := hts (.fieldLink RX3 34 "ThreeCards$Fight" "rounds" "I") (List.mem_of_getElem? (i := 1) rfl)
  have in3 : ∀ w ∈ u_ws RX3 TX3 13, w ∈ wsX3_isInRounds := by decide +kernel
  unfold mX3_isInRounds at hf
  refine lv_aload_n hx hb dX3_isInRounds_0 rfl (lv_at hl 0 rfl) ?_
  refine lv_iload_n hx hb dX3_isInRounds_1 rfl (lv_at hl 1 rfl) ?_
  refine lv_iconst (v := (0 : Int32)) hx hb dX3_isInRounds_2 (by decide) ?_
  obtain ⟨o_1, ho_1, hf⟩ := ob_s hf
  refine xV_i (As := [.int x0, .int (0 : Int32)]) (b := a_this) (rest := []) (ws2 := [(a_this, .inr (3, [.int i_rounds, .int i_home, .int i_noise, .int i_blowCount, .int i_judgeCount, .ref a_blows, .ref a_judges, .ref a_forward, .ref a_downs, .ref a_taken, .ref a_seenBy, .ref a_sums, .ref a_leads])), (a_blows, .inl (X.2.1 0, 200, .inl f_blows))]) hx hb hml hts hown hG hA hP hD rfl hS hl.1 (qX3_blowPart l X a_this a_blows a_judges a_forward a_downs a_taken a_seenBy a_sums a_leads i_rounds i_home i_noise i_blowCount i_judgeCount f_blows x0 (0 : Int32) o_1 ho_1) (cwV (y := yX3_blowPart) 2 hts gX3_isInRounds_X3_blowPart rfl rfl rfl hdvX3_blowPart ⟨Nat.le_of_ble_eq_true rfl, Nat.le_of_ble_eq_true rfl⟩) [0, 1] [] [0, 1] rfl rfl rfl rfl rfl rfl rfl (ci := 3) rfl 0 rfl rfl rfl (Nat.le_of_ble_eq_true rfl) ⟨Nat.le_of_ble_eq_true rfl, Nat.le_of_ble_eq_true rfl⟩ dX3_isInRounds_3 (fun H locs hP _ hS => ?_)
  refine lv_aload_n hx hb dX3_isInRounds_6 rfl (lv_at hl 0 rfl) ?_
  refine va_get (D := X.1) (ci := 3) (v := .int i_rounds) (C := RX3) (T := TX3) (N := 13) hx hb hts in3 hown hG.1 hP 0 rfl rfl 0 (by decide) w1 (fun _ h9 => h9) rfl dX3_isInRounds_7 ?_
  refine lv_icmp_ge (tgt := 17) hx hb dX3_isInRounds_10 (by decide) (fun c_3 => ?_) (fun c_3 => ?_)
  · have hf := xt hf c_3
    refine lv_iconst (v := (0 : Int32)) hx hb dX3_isInRounds_17 (by decide) ?_
    obtain rfl := Option.some.inj hf
    exact ret H _ ls _ (show narrow .boolean (.int (0 : Int32)) = .int (0 : Int32) from rfl) hP hD hS dX3_isInRounds_18
  · have hf := xf hf c_3
    refine lv_iconst (v := (1 : Int32)) hx hb dX3_isInRounds_13 (by decide) ?_
    refine lv_goto (tgt := 18) hx hb dX3_isInRounds_14 (by decide) ?_
    obtain rfl := Option.some.inj hf
    exact ret H _ ls _ (show narrow .boolean (.int (1 : Int32)) = .int (1 : Int32) from rfl) hP hD hS dX3_isInRounds_18
def mX3_sumOf (x0 : Int32) (x1 : Int32) (x2 : Int32) (f_sums : Nat → Int32) :
  Option (Int32) :=
  (mX3_sumPlace x0 x1 x2).bind fun o_1 =>
  gi o_1 192 <|
  lb (f_sums o_1.toNatClampNeg) fun v_4 =>
  some v_4
theorem hdsX3_sumOf : yX3_sumOf.cls ≠ "java/lang/invoke/MethodHandle" ∧ yX3_sumOf.cls ≠ "java/lang/invoke/VarHandle" ∧ (parseMethodDescriptor yX3_sumOf.desc).map (fun d => d.parameters.length) = some 3 := by decide +kernel
theorem hdvX3_sumOf : yX3_sumOf.cls = RX3 ∧ yX3_sumOf.cls ≠ "java/lang/invoke/MethodHandle" ∧ yX3_sumOf.cls ≠ "java/lang/invoke/VarHandle" ∧ (parseMethodDescriptor yX3_sumOf.desc).map (fun d => d.parameters.length) = some 3 := by decide +kernel
abbrev rmX3_sumOf : Room := { frames := 1, cells := 0, slots := 0, locals := 22 }
set_option maxHeartbeats 4000000 in
set_option maxRecDepth 100000 in
theorem qX3_sumOf (l : Launch) (X : XT) (a_this : Nat) (a_sums : Nat) (a_blows : Nat) (a_judges : Nat) (a_forward : Nat) (a_downs : Nat) (a_taken : Nat) (a_seenBy : Nat) (a_leads : Nat)  (i_rounds : Int32) (i_home : Int32) (i_noise : Int32) (i_blowCount : Int32) (i_judgeCount : Int32) (f_sums : Nat → Int32) (x0 : Int32) (x1 : Int32) (x2 : Int32) (o : Int32) (hf : mX3_sumOf x0 x1 x2 f_sums = some o) :
    MI l yX3_sumOf wsX3_sumOf rmX3_sumOf X [.ref a_this, .int x0, .int x1, .int x2] [(a_this, .inr (3, [.int i_rounds, .int i_home, .int i_noise, .int i_blowCount, .int i_judgeCount, .ref a_blows, .ref a_judges, .ref a_forward, .ref a_downs, .ref a_taken, .ref a_seenBy, .ref a_sums, .ref a_leads])), (a_sums, .inl (X.2.1 0, 192, .inl f_sums))]  [(a_this, .inr (3, [.int i_rounds, .int i_home, .int i_noise, .int i_blowCount, .int i_judgeCount, .ref a_blows, .ref a_judges, .ref a_forward, .ref a_downs, .ref a_taken, .ref a_seenBy, .ref a_sums, .ref a_leads])), (a_sums, .inl (X.2.1 0, 192, .inl f_sums))] o := by
  refine MI_ofH (cc := cX3_sumOf) (maxL := 4) (rt := .int) (by decide) rfl (Nat.le_of_ble_eq_true rfl) ?_
  intro p e s m below meth c A Q H ls hx hb hml hts hown hA hD hG hP hS hl ret
  have hown : s.vm.findClass RX3 = some m.cls := hown
  have hD : aD A [a_this, a_sums] := hD
  have hl : lv_has ls 4 [(0, .ref a_this), (1, .int x0), (2, .int x1), (3, .int x2)] := hl
  have w1 := hts (.fieldLink RX3 28 "ThreeCards$Fight" "sums" "[I") (List.mem_of_getElem? (i := 1) rfl)
  have in3 : ∀ w ∈ u_ws RX3 TX3 13, w ∈ wsX3_sumOf := by decide +kernel
  unfold mX3_sumOf at hf
  refine lv_aload_n hx hb dX3_sumOf_0 rfl (lv_at hl 0 rfl) ?_
  refine va_get (D := X.1) (ci := 3) (v := .ref a_sums) (C := RX3) (T := TX3) (N := 13) hx hb hts in3 hown hG.1 hP 0 rfl rfl 11 (by decide) w1 (fun _ h9 => h9) rfl dX3_sumOf_1 ?_
  refine lv_iload_n hx hb dX3_sumOf_4 rfl (lv_at hl 1 rfl) ?_
  refine lv_iload_n hx hb dX3_sumOf_5 rfl (lv_at hl 2 rfl) ?_
  refine lv_iload_n hx hb dX3_sumOf_6 rfl (lv_at hl 3 rfl) ?_
  obtain ⟨o_1, ho_1, hf⟩ := ob_s hf
  refine xS_i (As := [.int x0, .int x1, .int x2]) (rest := [.ref a_sums]) (ws2 := [(a_this, .inr (3, [.int i_rounds, .int i_home, .int i_noise, .int i_blowCount, .int i_judgeCount, .ref a_blows, .ref a_judges, .ref a_forward, .ref a_downs, .ref a_taken, .ref a_seenBy, .ref a_sums, .ref a_leads])), (a_sums, .inl (X.2.1 0, 192, .inl f_sums))]) hx hb hml hts hown hG hA hP hD rfl hS hl.1 (qX3_sumPlace l X x0 x1 x2 o_1 ho_1) (va_cwS (y := yX3_sumPlace) 3 hts gX3_sumOf_X3_sumPlace rfl rfl rfl hdsX3_sumPlace ⟨Nat.le_of_ble_eq_true rfl, Nat.le_of_ble_eq_true rfl⟩) [] [0, 1] [0, 1] rfl rfl rfl rfl rfl rfl rfl rfl rfl (Nat.le_of_ble_eq_true rfl) ⟨Nat.le_of_ble_eq_true rfl, Nat.le_of_ble_eq_true rfl⟩ dX3_sumOf_7 (fun H locs hP _ hS => ?_)
  obtain ⟨h_3, hf⟩ := gi_s hf
  refine va_iald (D := X.1) hx hb hG.1 hP 1 0 rfl rfl h_3 dX3_sumOf_10 ?_
  refine lv_topi (fun v_4 ev_4 => ?_)
  have hf := lb_s hf ev_4
  obtain rfl := Option.some.inj hf
  exact ret H _ ls _ rfl hP hD hS dX3_sumOf_11
def mX3_leadOf (x0 : Int32) (x1 : Int32) (f_leads : Nat → Int32) :
  Option (Int32) :=
  gi ((x0 * (12 : Int32)) + x1) 96 <|
  lb (f_leads ((x0 * (12 : Int32)) + x1).toNatClampNeg) fun v_2 =>
  some v_2
theorem hdsX3_leadOf : yX3_leadOf.cls ≠ "java/lang/invoke/MethodHandle" ∧ yX3_leadOf.cls ≠ "java/lang/invoke/VarHandle" ∧ (parseMethodDescriptor yX3_leadOf.desc).map (fun d => d.parameters.length) = some 2 := by decide +kernel
theorem hdvX3_leadOf : yX3_leadOf.cls = RX3 ∧ yX3_leadOf.cls ≠ "java/lang/invoke/MethodHandle" ∧ yX3_leadOf.cls ≠ "java/lang/invoke/VarHandle" ∧ (parseMethodDescriptor yX3_leadOf.desc).map (fun d => d.parameters.length) = some 2 := by decide +kernel
abbrev rmX3_leadOf : Room := { frames := 0, cells := 0, slots := 0, locals := 0 }
set_option maxHeartbeats 4000000 in
set_option maxRecDepth 100000 in
theorem qX3_leadOf (l : Launch) (X : XT) (a_this : Nat) (a_leads : Nat) (a_blows : Nat) (a_judges : Nat) (a_forward : Nat) (a_downs : Nat) (a_taken : Nat) (a_seenBy : Nat) (a_sums : Nat)  (i_rounds : Int32) (i_home : Int32) (i_noise : Int32) (i_blowCount : Int32) (i_judgeCount : Int32) (f_leads : Nat → Int32) (x0 : Int32) (x1 : Int32) (o : Int32) (hf : mX3_leadOf x0 x1 f_leads = some o) :
    MI l yX3_leadOf wsX3_leadOf rmX3_leadOf X [.ref a_this, .int x0, .int x1] [(a_this, .inr (3, [.int i_rounds, .int i_home, .int i_noise, .int i_blowCount, .int i_judgeCount, .ref a_blows, .ref a_judges, .ref a_forward, .ref a_downs, .ref a_taken, .ref a_seenBy, .ref a_sums, .ref a_leads])), (a_leads, .inl (X.2.1 0, 96, .inl f_leads))]  [(a_this, .inr (3, [.int i_rounds, .int i_home, .int i_noise, .int i_blowCount, .int i_judgeCount, .ref a_blows, .ref a_judges, .ref a_forward, .ref a_downs, .ref a_taken, .ref a_seenBy, .ref a_sums, .ref a_leads])), (a_leads, .inl (X.2.1 0, 96, .inl f_leads))] o := by
  refine MI_ofH (cc := cX3_leadOf) (maxL := 3) (rt := .int) (by decide) rfl (Nat.le_of_ble_eq_true rfl) ?_
  intro p e s m below meth c A Q H ls hx hb hml hts hown hA hD hG hP hS hl ret
  have hown : s.vm.findClass RX3 = some m.cls := hown
  have hD : aD A [a_this, a_leads] := hD
  have hl : lv_has ls 3 [(0, .ref a_this), (1, .int x0), (2, .int x1)] := hl
  have w1 := hts (.fieldLink RX3 31 "ThreeCards$Fight" "leads" "[I") (List.mem_of_getElem? (i := 1) rfl)
  have in3 : ∀ w ∈ u_ws RX3 TX3 13, w ∈ wsX3_leadOf := by decide +kernel
  unfold mX3_leadOf at hf
  refine lv_aload_n hx hb dX3_leadOf_0 rfl (lv_at hl 0 rfl) ?_
  refine va_get (D := X.1) (ci := 3) (v := .ref a_leads) (C := RX3) (T := TX3) (N := 13) hx hb hts in3 hown hG.1 hP 0 rfl rfl 12 (by decide) w1 (fun _ h9 => h9) rfl dX3_leadOf_1 ?_
  refine lv_iload_n hx hb dX3_leadOf_4 rfl (lv_at hl 1 rfl) ?_
  refine lv_bipush (v := (12 : Int32)) hx hb dX3_leadOf_5 (by decide) ?_
  refine lv_imul hx hb dX3_leadOf_7 ?_
  refine lv_iload_n hx hb dX3_leadOf_8 rfl (lv_at hl 2 rfl) ?_
  refine lv_iadd hx hb dX3_leadOf_9 ?_
  obtain ⟨h_1, hf⟩ := gi_s hf
  refine va_iald (D := X.1) hx hb hG.1 hP 1 0 rfl rfl h_1 dX3_leadOf_10 ?_
  refine lv_topi (fun v_2 ev_2 => ?_)
  have hf := lb_s hf ev_2
  obtain rfl := Option.some.inj hf
  exact ret H _ ls _ rfl hP hD hS dX3_leadOf_11
def mX3_isClose (x0 : Int32) (x1 : Int32) (f_judges : Nat → Int32) (f_leads : Nat → Int32) :
  Option (Int32) :=
  (mX3_leadOf x0 x1 f_leads).bind fun o_1 =>
  (mX3_judgePart x0 (6 : Int32) f_judges).bind fun o_3 =>
  if o_3 < (iabs o_1) then (some (0 : Int32)) else (some (1 : Int32))
theorem hdsX3_isClose : yX3_isClose.cls ≠ "java/lang/invoke/MethodHandle" ∧ yX3_isClose.cls ≠ "java/lang/invoke/VarHandle" ∧ (parseMethodDescriptor yX3_isClose.desc).map (fun d => d.parameters.length) = some 2 := by decide +kernel
theorem hdvX3_isClose : yX3_isClose.cls = RX3 ∧ yX3_isClose.cls ≠ "java/lang/invoke/MethodHandle" ∧ yX3_isClose.cls ≠ "java/lang/invoke/VarHandle" ∧ (parseMethodDescriptor yX3_isClose.desc).map (fun d => d.parameters.length) = some 2 := by decide +kernel
abbrev rmX3_isClose : Room := { frames := 1, cells := 0, slots := 0, locals := 22 }
set_option maxHeartbeats 4000000 in
set_option maxRecDepth 100000 in
theorem qX3_isClose (l : Launch) (X : XT) (a_this : Nat) (a_judges : Nat) (a_leads : Nat) (a_blows : Nat) (a_forward : Nat) (a_downs : Nat) (a_taken : Nat) (a_seenBy : Nat) (a_sums : Nat)  (i_rounds : Int32) (i_home : Int32) (i_noise : Int32) (i_blowCount : Int32) (i_judgeCount : Int32) (f_judges : Nat → Int32) (f_leads : Nat → Int32) (x0 : Int32) (x1 : Int32) (o : Int32) (hf : mX3_isClose x0 x1 f_judges f_leads = some o) :
    MI l yX3_isClose wsX3_isClose rmX3_isClose X [.ref a_this, .int x0, .int x1] [(a_this, .inr (3, [.int i_rounds, .int i_home, .int i_noise, .int i_blowCount, .int i_judgeCount, .ref a_blows, .ref a_judges, .ref a_forward, .ref a_downs, .ref a_taken, .ref a_seenBy, .ref a_sums, .ref a_leads])), (a_judges, .inl (X.2.1 0, 56, .inl f_judges)), (a_leads, .inl (X.2.1 0, 96, .inl f_leads))]  [(a_this, .inr (3, [.int i_rounds, .int i_home, .int i_noise, .int i_blowCount, .int i_judgeCount, .ref a_blows, .ref a_judges, .ref a_forward, .ref a_downs, .ref a_taken, .ref a_seenBy, .ref a_sums, .ref a_leads])), (a_judges, .inl (X.2.1 0, 56, .inl f_judges)), (a_leads, .inl (X.2.1 0, 96, .inl f_leads))] o := by
  refine MI_ofH (cc := cX3_isClose) (maxL := 3) (rt := .boolean) (by decide) rfl (Nat.le_of_ble_eq_true rfl) ?_
  intro p e s m below meth c A Q H ls hx hb hml hts hown hA hD hG hP hS hl ret
  have hown : s.vm.findClass RX3 = some m.cls := hown
  have hD : aD A [a_this, a_judges, a_leads] := hD
  have hl : lv_has ls 3 [(0, .ref a_this), (1, .int x0), (2, .int x1)] := hl
  have w1 := hts (.methodLink RX3 104 Lib.Math.abs.name) (List.mem_of_getElem? (i := 1) rfl)
  have w2 := hts (.static Lib.Math.abs.name) (List.mem_of_getElem? (i := 2) rfl)
  have w3 := hts (.initialized "java/lang/Math") (List.mem_of_getElem? (i := 3) rfl)
  have w4 := hts (.code Lib.Math.abs.name Lib.Math.abs.code 1 (some .int)) (List.mem_of_getElem? (i := 4) rfl)
  unfold mX3_isClose at hf
  refine lv_aload_n hx hb dX3_isClose_0 rfl (lv_at hl 0 rfl) ?_
  refine lv_iload_n hx hb dX3_isClose_1 rfl (lv_at hl 1 rfl) ?_
  refine lv_iload_n hx hb dX3_isClose_2 rfl (lv_at hl 2 rfl) ?_
  obtain ⟨o_1, ho_1, hf⟩ := ob_s hf
  refine xV_i (As := [.int x0, .int x1]) (b := a_this) (rest := []) (ws2 := [(a_this, .inr (3, [.int i_rounds, .int i_home, .int i_noise, .int i_blowCount, .int i_judgeCount, .ref a_blows, .ref a_judges, .ref a_forward, .ref a_downs, .ref a_taken, .ref a_seenBy, .ref a_sums, .ref a_leads])), (a_judges, .inl (X.2.1 0, 56, .inl f_judges)), (a_leads, .inl (X.2.1 0, 96, .inl f_leads))]) hx hb hml hts hown hG hA hP hD rfl hS hl.1 (qX3_leadOf l X a_this a_leads a_blows a_judges a_forward a_downs a_taken a_seenBy a_sums i_rounds i_home i_noise i_blowCount i_judgeCount f_leads x0 x1 o_1 ho_1) (cwV (y := yX3_leadOf) 2 hts gX3_isClose_X3_leadOf rfl rfl rfl hdvX3_leadOf ⟨Nat.le_of_ble_eq_true rfl, Nat.le_of_ble_eq_true rfl⟩) [0, 2] [1] [1, 0, 2] rfl rfl rfl rfl rfl rfl rfl (ci := 3) rfl 0 rfl rfl rfl (Nat.le_of_ble_eq_true rfl) ⟨Nat.le_of_ble_eq_true rfl, Nat.le_of_ble_eq_true rfl⟩ dX3_isClose_3 (fun H locs hP _ hS => ?_)
  refine x_mabs hx hb hml hl.1 hown w1 w2 w3 w4 (Nat.le_of_ble_eq_true rfl) (Nat.le_of_ble_eq_true rfl) (Nat.le_of_ble_eq_true rfl) (Nat.le_of_ble_eq_true rfl) dX3_isClose_6 ?_
  refine lv_aload_n hx hb dX3_isClose_9 rfl (lv_at hl 0 rfl) ?_
  refine lv_iload_n hx hb dX3_isClose_10 rfl (lv_at hl 1 rfl) ?_
  refine lv_bipush (v := (6 : Int32)) hx hb dX3_isClose_11 (by decide) ?_
  obtain ⟨o_3, ho_3, hf⟩ := ob_s hf
  refine xV_i (As := [.int x0, .int (6 : Int32)]) (b := a_this) (rest := [.int (iabs o_1)]) (ws2 := [(a_this, .inr (3, [.int i_rounds, .int i_home, .int i_noise, .int i_blowCount, .int i_judgeCount, .ref a_blows, .ref a_judges, .ref a_forward, .ref a_downs, .ref a_taken, .ref a_seenBy, .ref a_sums, .ref a_leads])), (a_judges, .inl (X.2.1 0, 56, .inl f_judges)), (a_leads, .inl (X.2.1 0, 96, .inl f_leads))]) hx hb hml hts hown hG hA hP hD rfl hS hl.1 (qX3_judgePart l X a_this a_judges a_blows a_forward a_downs a_taken a_seenBy a_sums a_leads i_rounds i_home i_noise i_blowCount i_judgeCount f_judges x0 (6 : Int32) o_3 ho_3) (cwV (y := yX3_judgePart) 2 hts gX3_isClose_X3_judgePart rfl rfl rfl hdvX3_judgePart ⟨Nat.le_of_ble_eq_true rfl, Nat.le_of_ble_eq_true rfl⟩) [0, 1] [2] [1, 2, 0] rfl rfl rfl rfl rfl rfl rfl (ci := 3) rfl 0 rfl rfl rfl (Nat.le_of_ble_eq_true rfl) ⟨Nat.le_of_ble_eq_true rfl, Nat.le_of_ble_eq_true rfl⟩ dX3_isClose_13 (fun H locs hP _ hS => ?_)
  refine lv_icmp_gt (tgt := 23) hx hb dX3_isClose_16 (by decide) (fun c_5 => ?_) (fun c_5 => ?_)
  · have hf := xt hf c_5
    refine lv_iconst (v := (0 : Int32)) hx hb dX3_isClose_23 (by decide) ?_
    obtain rfl := Option.some.inj hf
    exact ret H _ ls _ (show narrow .boolean (.int (0 : Int32)) = .int (0 : Int32) from rfl) hP hD hS dX3_isClose_24
  · have hf := xf hf c_5
    refine lv_iconst (v := (1 : Int32)) hx hb dX3_isClose_19 (by decide) ?_
    refine lv_goto (tgt := 24) hx hb dX3_isClose_20 (by decide) ?_
    obtain rfl := Option.some.inj hf
    exact ret H _ ls _ (show narrow .boolean (.int (1 : Int32)) = .int (1 : Int32) from rfl) hP hD hS dX3_isClose_24
def mX3_downsFor (x0 : Int32) (f_downs : Nat → Int32) :
  Option (Int32) :=
  gi ((x0 * (2 : Int32)) + (1 : Int32)) 24 <|
  gi (x0 * (2 : Int32)) 24 <|
  lb ((f_downs ((x0 * (2 : Int32)) + (1 : Int32)).toNatClampNeg) - (f_downs (x0 * (2 : Int32)).toNatClampNeg)) fun v_3 =>
  some v_3
theorem hdsX3_downsFor : yX3_downsFor.cls ≠ "java/lang/invoke/MethodHandle" ∧ yX3_downsFor.cls ≠ "java/lang/invoke/VarHandle" ∧ (parseMethodDescriptor yX3_downsFor.desc).map (fun d => d.parameters.length) = some 1 := by decide +kernel
theorem hdvX3_downsFor : yX3_downsFor.cls = RX3 ∧ yX3_downsFor.cls ≠ "java/lang/invoke/MethodHandle" ∧ yX3_downsFor.cls ≠ "java/lang/invoke/VarHandle" ∧ (parseMethodDescriptor yX3_downsFor.desc).map (fun d => d.parameters.length) = some 1 := by decide +kernel
abbrev rmX3_downsFor : Room := { frames := 0, cells := 0, slots := 0, locals := 0 }
set_option maxHeartbeats 4000000 in
set_option maxRecDepth 100000 in
theorem qX3_downsFor (l : Launch) (X : XT) (a_this : Nat) (a_downs : Nat) (a_blows : Nat) (a_judges : Nat) (a_forward : Nat) (a_taken : Nat) (a_seenBy : Nat) (a_sums : Nat) (a_leads : Nat)  (i_rounds : Int32) (i_home : Int32) (i_noise : Int32) (i_blowCount : Int32) (i_judgeCount : Int32) (f_downs : Nat → Int32) (x0 : Int32) (o : Int32) (hf : mX3_downsFor x0 f_downs = some o) :
    MI l yX3_downsFor wsX3_downsFor rmX3_downsFor X [.ref a_this, .int x0] [(a_this, .inr (3, [.int i_rounds, .int i_home, .int i_noise, .int i_blowCount, .int i_judgeCount, .ref a_blows, .ref a_judges, .ref a_forward, .ref a_downs, .ref a_taken, .ref a_seenBy, .ref a_sums, .ref a_leads])), (a_downs, .inl (X.2.1 0, 24, .inl f_downs))]  [(a_this, .inr (3, [.int i_rounds, .int i_home, .int i_noise, .int i_blowCount, .int i_judgeCount, .ref a_blows, .ref a_judges, .ref a_forward, .ref a_downs, .ref a_taken, .ref a_seenBy, .ref a_sums, .ref a_leads])), (a_downs, .inl (X.2.1 0, 24, .inl f_downs))] o := by
  refine MI_ofH (cc := cX3_downsFor) (maxL := 2) (rt := .int) (by decide) rfl (Nat.le_of_ble_eq_true rfl) ?_
  intro p e s m below meth c A Q H ls hx hb hml hts hown hA hD hG hP hS hl ret
  have hown : s.vm.findClass RX3 = some m.cls := hown
  have hD : aD A [a_this, a_downs] := hD
  have hl : lv_has ls 2 [(0, .ref a_this), (1, .int x0)] := hl
  have w1 := hts (.fieldLink RX3 19 "ThreeCards$Fight" "downs" "[I") (List.mem_of_getElem? (i := 1) rfl)
  have in3 : ∀ w ∈ u_ws RX3 TX3 13, w ∈ wsX3_downsFor := by decide +kernel
  unfold mX3_downsFor at hf
  refine lv_aload_n hx hb dX3_downsFor_0 rfl (lv_at hl 0 rfl) ?_
  refine va_get (D := X.1) (ci := 3) (v := .ref a_downs) (C := RX3) (T := TX3) (N := 13) hx hb hts in3 hown hG.1 hP 0 rfl rfl 8 (by decide) w1 (fun _ h9 => h9) rfl dX3_downsFor_1 ?_
  refine lv_iload_n hx hb dX3_downsFor_4 rfl (lv_at hl 1 rfl) ?_
  refine lv_iconst (v := (2 : Int32)) hx hb dX3_downsFor_5 (by decide) ?_
  refine lv_imul hx hb dX3_downsFor_6 ?_
  refine lv_iconst (v := (1 : Int32)) hx hb dX3_downsFor_7 (by decide) ?_
  refine lv_iadd hx hb dX3_downsFor_8 ?_
  obtain ⟨h_1, hf⟩ := gi_s hf
  refine va_iald (D := X.1) hx hb hG.1 hP 1 0 rfl rfl h_1 dX3_downsFor_9 ?_
  refine lv_aload_n hx hb dX3_downsFor_10 rfl (lv_at hl 0 rfl) ?_
  refine va_get (D := X.1) (ci := 3) (v := .ref a_downs) (C := RX3) (T := TX3) (N := 13) hx hb hts in3 hown hG.1 hP 0 rfl rfl 8 (by decide) w1 (fun _ h9 => h9) rfl dX3_downsFor_11 ?_
  refine lv_iload_n hx hb dX3_downsFor_14 rfl (lv_at hl 1 rfl) ?_
  refine lv_iconst (v := (2 : Int32)) hx hb dX3_downsFor_15 (by decide) ?_
  refine lv_imul hx hb dX3_downsFor_16 ?_
  obtain ⟨h_2, hf⟩ := gi_s hf
  refine va_iald (D := X.1) hx hb hG.1 hP 1 0 rfl rfl h_2 dX3_downsFor_17 ?_
  refine lv_isub hx hb dX3_downsFor_18 ?_
  refine lv_topi (fun v_3 ev_3 => ?_)
  have hf := lb_s hf ev_3
  obtain rfl := Option.some.inj hf
  exact ret H _ ls _ rfl hP hD hS dX3_downsFor_19
def mX3_takenOf_B4 (x0 : Int32) (i_rounds : Int32) (f_taken : Nat → Int32) (k4 : Int32 → Int32 → Option (Int32)) (l2 : Int32) (l3 : Int32) :
  Option (Int32) :=
  if i_rounds ≤ l3 then (some l2) else (gi ((l3 * (2 : Int32)) + x0) 24 <|
  lb (l2 + (f_taken ((l3 * (2 : Int32)) + x0).toNatClampNeg)) fun v_3 =>
  lb (l3 + (1 : Int32)) fun v_4 =>
  k4 v_3 v_4)
def mX3_takenOf_L4 (x0 : Int32) (i_rounds : Int32) (f_taken : Nat → Int32) (n : Nat) (l2 : Int32) (l3 : Int32) :
  Option (Int32) :=
  loopN (fun k (s : Int32 × Int32) => mX3_takenOf_B4 x0 i_rounds f_taken  (fun l2 l3 => k (l2, l3)) s.1 s.2) n (l2, l3)
def mX3_takenOf (x0 : Int32) (i_rounds : Int32) (f_taken : Nat → Int32) :
  Option (Int32) :=
  mX3_takenOf_L4 x0 i_rounds f_taken  FUEL (0 : Int32) (0 : Int32)
theorem hdsX3_takenOf : yX3_takenOf.cls ≠ "java/lang/invoke/MethodHandle" ∧ yX3_takenOf.cls ≠ "java/lang/invoke/VarHandle" ∧ (parseMethodDescriptor yX3_takenOf.desc).map (fun d => d.parameters.length) = some 1 := by decide +kernel
theorem hdvX3_takenOf : yX3_takenOf.cls = RX3 ∧ yX3_takenOf.cls ≠ "java/lang/invoke/MethodHandle" ∧ yX3_takenOf.cls ≠ "java/lang/invoke/VarHandle" ∧ (parseMethodDescriptor yX3_takenOf.desc).map (fun d => d.parameters.length) = some 1 := by decide +kernel
abbrev rmX3_takenOf : Room := { frames := 0, cells := 0, slots := 0, locals := 0 }
set_option maxHeartbeats 4000000 in
set_option maxRecDepth 100000 in
theorem qX3_takenOf (l : Launch) (X : XT) (a_this : Nat) (a_taken : Nat) (a_blows : Nat) (a_judges : Nat) (a_forward : Nat) (a_downs : Nat) (a_seenBy : Nat) (a_sums : Nat) (a_leads : Nat)  (i_rounds : Int32) (i_home : Int32) (i_noise : Int32) (i_blowCount : Int32) (i_judgeCount : Int32) (f_taken : Nat → Int32) (x0 : Int32) (o : Int32) (hf : mX3_takenOf x0 i_rounds f_taken = some o) :
    MI l yX3_takenOf wsX3_takenOf rmX3_takenOf X [.ref a_this, .int x0] [(a_this, .inr (3, [.int i_rounds, .int i_home, .int i_noise, .int i_blowCount, .int i_judgeCount, .ref a_blows, .ref a_judges, .ref a_forward, .ref a_downs, .ref a_taken, .ref a_seenBy, .ref a_sums, .ref a_leads])), (a_taken, .inl (X.2.1 0, 24, .inl f_taken))]  [(a_this, .inr (3, [.int i_rounds, .int i_home, .int i_noise, .int i_blowCount, .int i_judgeCount, .ref a_blows, .ref a_judges, .ref a_forward, .ref a_downs, .ref a_taken, .ref a_seenBy, .ref a_sums, .ref a_leads])), (a_taken, .inl (X.2.1 0, 24, .inl f_taken))] o := by
  refine MI_ofH (cc := cX3_takenOf) (maxL := 4) (rt := .int) (by decide) rfl (Nat.le_of_ble_eq_true rfl) ?_
  intro p e s m below meth c A Q H ls hx hb hml hts hown hA hD hG hP hS hl ret
  have hown : s.vm.findClass RX3 = some m.cls := hown
  have hD : aD A [a_this, a_taken] := hD
  have hl : lv_has ls 4 [(0, .ref a_this), (1, .int x0)] := hl
  have w1 := hts (.fieldLink RX3 34 "ThreeCards$Fight" "rounds" "I") (List.mem_of_getElem? (i := 1) rfl)
  have w2 := hts (.fieldLink RX3 22 "ThreeCards$Fight" "taken" "[I") (List.mem_of_getElem? (i := 2) rfl)
  have in3 : ∀ w ∈ u_ws RX3 TX3 13, w ∈ wsX3_takenOf := by decide +kernel
  have hL4 : ∀ (n : Nat) (l2 : Int32) (l3 : Int32)  (H : Heap) (locs : List Loc) (ls : Array Slot), va_P X.1 vwCl [(a_this, .inr (3, [.int i_rounds, .int i_home, .int i_noise, .int i_blowCount, .int i_judgeCount, .ref a_blows, .ref a_judges, .ref a_forward, .ref a_downs, .ref a_taken, .ref a_seenBy, .ref a_sums, .ref a_leads])), (a_taken, .inl (X.2.1 0, 24, .inl f_taken))] H → va_S A s.heap H locs → lv_has ls 4 [(0, .ref a_this), (1, .int x0), (2, .int l2), (3, .int l3)] → mX3_takenOf_L4 x0 i_rounds f_taken  n l2 l3 = some o → W p l e rmX3_takenOf s m ([.ref a_this, .int x0] : List Value).toArray below meth c H locs 0 0 Q (F0 m 4 ls []) := by
    intro n
    induction n with
    | zero => intro l2 l3  H locs ls hP hS hl hf; exact xn hf
    | succ n ih =>
      intro l2 l3  H locs ls hP hS hl hf
      have hf : mX3_takenOf_B4 x0 i_rounds f_taken  (mX3_takenOf_L4 x0 i_rounds f_taken  n) l2 l3 = some o := hf
      generalize mX3_takenOf_L4 x0 i_rounds f_taken  n = k4 at ih hf
      unfold mX3_takenOf_B4 at hf
      refine lv_iload_n hx hb dX3_takenOf_4 rfl (lv_at hl 3 rfl) ?_
      refine lv_aload_n hx hb dX3_takenOf_5 rfl (lv_at hl 0 rfl) ?_
      refine va_get (D := X.1) (ci := 3) (v := .int i_rounds) (C := RX3) (T := TX3) (N := 13) hx hb hts in3 hown hG.1 hP 0 rfl rfl 0 (by decide) w1 (fun _ h9 => h9) rfl dX3_takenOf_6 ?_
      refine lv_icmp_ge (tgt := 31) hx hb dX3_takenOf_9 (by decide) (fun c_1 => ?_) (fun c_1 => ?_)
      · have hf := xt hf c_1
        refine lv_iload_n hx hb dX3_takenOf_31 rfl (lv_at hl 2 rfl) ?_
        obtain rfl := Option.some.inj hf
        exact ret H _ ls _ rfl hP hD hS dX3_takenOf_32
      · have hf := xf hf c_1
        refine lv_iload_n hx hb dX3_takenOf_12 rfl (lv_at hl 2 rfl) ?_
        refine lv_aload_n hx hb dX3_takenOf_13 rfl (lv_at hl 0 rfl) ?_
        refine va_get (D := X.1) (ci := 3) (v := .ref a_taken) (C := RX3) (T := TX3) (N := 13) hx hb hts in3 hown hG.1 hP 0 rfl rfl 9 (by decide) w2 (fun _ h9 => h9) rfl dX3_takenOf_14 ?_
        refine lv_iload_n hx hb dX3_takenOf_17 rfl (lv_at hl 3 rfl) ?_
        refine lv_iconst (v := (2 : Int32)) hx hb dX3_takenOf_18 (by decide) ?_
        refine lv_imul hx hb dX3_takenOf_19 ?_
        refine lv_iload_n hx hb dX3_takenOf_20 rfl (lv_at hl 1 rfl) ?_
        refine lv_iadd hx hb dX3_takenOf_21 ?_
        obtain ⟨h_2, hf⟩ := gi_s hf
        refine va_iald (D := X.1) hx hb hG.1 hP 1 0 rfl rfl h_2 dX3_takenOf_22 ?_
        refine lv_iadd hx hb dX3_takenOf_23 ?_
        refine lv_topi (fun v_3 ev_3 => ?_)
        have hf := lb_s hf ev_3
        refine lv_istore_n (lv' := [(2, .int v_3), (0, .ref a_this), (1, .int x0), (3, .int l3)]) hx hb dX3_takenOf_24 rfl hl (by decide) rfl (fun ls hl => ?_)
        obtain ⟨v_4, ev_4, hf⟩ := lb_g hf
        refine lv_iinc (v := v_4) (lv' := [(3, .int v_4), (2, .int v_3), (0, .ref a_this), (1, .int x0)]) hx hb dX3_takenOf_25 hl (k := 3) rfl ev_4.symm (by decide) rfl (fun ls hl => ?_)
        refine lv_goto (tgt := 4) hx hb dX3_takenOf_28 (by decide) ?_
        exact ih v_3 v_4  H _ ls hP  hS (lv_sub hl [2, 3, 1, 0] rfl) hf
  unfold mX3_takenOf at hf
  refine lv_iconst (v := (0 : Int32)) hx hb dX3_takenOf_0 (by decide) ?_
  refine lv_istore_n (lv' := [(2, .int (0 : Int32)), (0, .ref a_this), (1, .int x0)]) hx hb dX3_takenOf_1 rfl hl (by decide) rfl (fun ls hl => ?_)
  refine lv_iconst (v := (0 : Int32)) hx hb dX3_takenOf_2 (by decide) ?_
  refine lv_istore_n (lv' := [(3, .int (0 : Int32)), (2, .int (0 : Int32)), (0, .ref a_this), (1, .int x0)]) hx hb dX3_takenOf_3 rfl hl (by decide) rfl (fun ls hl => ?_)
  exact hL4  FUEL (0 : Int32) (0 : Int32)  H _ ls hP  hS (lv_sub hl [2, 3, 1, 0] rfl) hf
def mX3_hardnessFor_B4 (i_rounds : Int32) (i_blowCount : Int32) (f_blows : Nat → Int32) (k4 : Int32 → Int32 → Option (Int32)) (l1 : Int32) (l2 : Int32) :
  Option (Int32) :=
  if i_blowCount ≤ l2 then (some l1) else ((mX3_isInRounds l2 i_rounds f_blows).bind fun o_2 =>
  if o_2 = 0 then (lb (l2 + (1 : Int32)) fun v_5 =>
  k4 l1 v_5) else ((mX3_blowPart l2 (2 : Int32) f_blows).bind fun o_6 =>
  if o_6 = 0 then ((mX3_blowPart l2 (3 : Int32) f_blows).bind fun o_13 =>
  lb (l1 + o_13) fun v_15 =>
  lb (l2 + (1 : Int32)) fun v_16 =>
  k4 v_15 v_16) else ((mX3_blowPart l2 (3 : Int32) f_blows).bind fun o_9 =>
  lb (l1 + (-o_9)) fun v_11 =>
  lb (l2 + (1 : Int32)) fun v_12 =>
  k4 v_11 v_12)))
def mX3_hardnessFor_L4 (i_rounds : Int32) (i_blowCount : Int32) (f_blows : Nat → Int32) (n : Nat) (l1 : Int32) (l2 : Int32) :
  Option (Int32) :=
  loopN (fun k (s : Int32 × Int32) => mX3_hardnessFor_B4 i_rounds i_blowCount f_blows  (fun l1 l2 => k (l1, l2)) s.1 s.2) n (l1, l2)
def mX3_hardnessFor (i_rounds : Int32) (i_blowCount : Int32) (f_blows : Nat → Int32) :
  Option (Int32) :=
  mX3_hardnessFor_L4 i_rounds i_blowCount f_blows  FUEL (0 : Int32) (0 : Int32)
theorem hdsX3_hardnessFor : yX3_hardnessFor.cls ≠ "java/lang/invoke/MethodHandle" ∧ yX3_hardnessFor.cls ≠ "java/lang/invoke/VarHandle" ∧ (parseMethodDescriptor yX3_hardnessFor.desc).map (fun d => d.parameters.length) = some 0 := by decide +kernel
theorem hdvX3_hardnessFor : yX3_hardnessFor.cls = RX3 ∧ yX3_hardnessFor.cls ≠ "java/lang/invoke/MethodHandle" ∧ yX3_hardnessFor.cls ≠ "java/lang/invoke/VarHandle" ∧ (parseMethodDescriptor yX3_hardnessFor.desc).map (fun d => d.parameters.length) = some 0 := by decide +kernel
abbrev rmX3_hardnessFor : Room := { frames := 2, cells := 0, slots := 0, locals := 43 }
set_option maxHeartbeats 4000000 in
set_option maxRecDepth 100000 in
theorem qX3_hardnessFor (l : Launch) (X : XT) (a_this : Nat) (a_blows : Nat) (a_judges : Nat) (a_forward : Nat) (a_downs : Nat) (a_taken : Nat) (a_seenBy : Nat) (a_sums : Nat) (a_leads : Nat)  (i_rounds : Int32) (i_home : Int32) (i_noise : Int32) (i_blowCount : Int32) (i_judgeCount : Int32) (f_blows : Nat → Int32)  (o : Int32) (hf : mX3_hardnessFor i_rounds i_blowCount f_blows = some o) :
    MI l yX3_hardnessFor wsX3_hardnessFor rmX3_hardnessFor X [.ref a_this] [(a_this, .inr (3, [.int i_rounds, .int i_home, .int i_noise, .int i_blowCount, .int i_judgeCount, .ref a_blows, .ref a_judges, .ref a_forward, .ref a_downs, .ref a_taken, .ref a_seenBy, .ref a_sums, .ref a_leads])), (a_blows, .inl (X.2.1 0, 200, .inl f_blows))]  [(a_this, .inr (3, [.int i_rounds, .int i_home, .int i_noise, .int i_blowCount, .int i_judgeCount, .ref a_blows, .ref a_judges, .ref a_forward, .ref a_downs, .ref a_taken, .ref a_seenBy, .ref a_sums, .ref a_leads])), (a_blows, .inl (X.2.1 0, 200, .inl f_blows))] o := by
  refine MI_ofH (cc := cX3_hardnessFor) (maxL := 3) (rt := .int) (by decide) rfl (Nat.le_of_ble_eq_true rfl) ?_
  intro p e s m below meth c A Q H ls hx hb hml hts hown hA hD hG hP hS hl ret
  have hown : s.vm.findClass RX3 = some m.cls := hown
  have hD : aD A [a_this, a_blows] := hD
  have hl : lv_has ls 3 [(0, .ref a_this)] := hl
  have w1 := hts (.fieldLink RX3 44 "ThreeCards$Fight" "blowCount" "I") (List.mem_of_getElem? (i := 1) rfl)
  have in3 : ∀ w ∈ u_ws RX3 TX3 13, w ∈ wsX3_hardnessFor := by decide +kernel
  have hL4 : ∀ (n : Nat) (l1 : Int32) (l2 : Int32)  (H : Heap) (locs : List Loc) (ls : Array Slot), va_P X.1 vwCl [(a_this, .inr (3, [.int i_rounds, .int i_home, .int i_noise, .int i_blowCount, .int i_judgeCount, .ref a_blows, .ref a_judges, .ref a_forward, .ref a_downs, .ref a_taken, .ref a_seenBy, .ref a_sums, .ref a_leads])), (a_blows, .inl (X.2.1 0, 200, .inl f_blows))] H → va_S A s.heap H locs → lv_has ls 3 [(0, .ref a_this), (1, .int l1), (2, .int l2)] → mX3_hardnessFor_L4 i_rounds i_blowCount f_blows  n l1 l2 = some o → W p l e rmX3_hardnessFor s m ([.ref a_this] : List Value).toArray below meth c H locs 0 0 Q (F0 m 4 ls []) := by
    intro n
    induction n with
    | zero => intro l1 l2  H locs ls hP hS hl hf; exact xn hf
    | succ n ih =>
      intro l1 l2  H locs ls hP hS hl hf
      have hf : mX3_hardnessFor_B4 i_rounds i_blowCount f_blows  (mX3_hardnessFor_L4 i_rounds i_blowCount f_blows  n) l1 l2 = some o := hf
      generalize mX3_hardnessFor_L4 i_rounds i_blowCount f_blows  n = k4 at ih hf
      unfold mX3_hardnessFor_B4 at hf
      refine lv_iload_n hx hb dX3_hardnessFor_4 rfl (lv_at hl 2 rfl) ?_
      refine lv_aload_n hx hb dX3_hardnessFor_5 rfl (lv_at hl 0 rfl) ?_
      refine va_get (D := X.1) (ci := 3) (v := .int i_blowCount) (C := RX3) (T := TX3) (N := 13) hx hb hts in3 hown hG.1 hP 0 rfl rfl 3 (by decide) w1 (fun _ h9 => h9) rfl dX3_hardnessFor_6 ?_
      refine lv_icmp_ge (tgt := 54) hx hb dX3_hardnessFor_9 (by decide) (fun c_1 => ?_) (fun c_1 => ?_)
      · have hf := xt hf c_1
        refine lv_iload_n hx hb dX3_hardnessFor_54 rfl (lv_at hl 1 rfl) ?_
        obtain rfl := Option.some.inj hf
        exact ret H _ ls _ rfl hP hD hS dX3_hardnessFor_55
      · have hf := xf hf c_1
        refine lv_aload_n hx hb dX3_hardnessFor_12 rfl (lv_at hl 0 rfl) ?_
        refine lv_iload_n hx hb dX3_hardnessFor_13 rfl (lv_at hl 2 rfl) ?_
        obtain ⟨o_2, ho_2, hf⟩ := ob_s hf
        refine xV_i (As := [.int l2]) (b := a_this) (rest := []) (ws2 := [(a_this, .inr (3, [.int i_rounds, .int i_home, .int i_noise, .int i_blowCount, .int i_judgeCount, .ref a_blows, .ref a_judges, .ref a_forward, .ref a_downs, .ref a_taken, .ref a_seenBy, .ref a_sums, .ref a_leads])), (a_blows, .inl (X.2.1 0, 200, .inl f_blows))]) hx hb hml hts hown hG hA hP hD rfl hS hl.1 (qX3_isInRounds l X a_this a_blows a_judges a_forward a_downs a_taken a_seenBy a_sums a_leads i_rounds i_home i_noise i_blowCount i_judgeCount f_blows l2 o_2 ho_2) (cwV (y := yX3_isInRounds) 1 hts gX3_hardnessFor_X3_isInRounds rfl rfl rfl hdvX3_isInRounds ⟨Nat.le_of_ble_eq_true rfl, Nat.le_of_ble_eq_true rfl⟩) [0, 1] [] [0, 1] rfl rfl rfl rfl rfl rfl rfl (ci := 3) rfl 0 rfl rfl rfl (Nat.le_of_ble_eq_true rfl) ⟨Nat.le_of_ble_eq_true rfl, Nat.le_of_ble_eq_true rfl⟩ dX3_hardnessFor_14 (fun H locs hP _ hS => ?_)
        refine lv_if_eq (tgt := 48) hx hb dX3_hardnessFor_17 (by decide) (fun c_4 => ?_) (fun c_4 => ?_)
        · have hf := xt hf c_4
          obtain ⟨v_5, ev_5, hf⟩ := lb_g hf
          refine lv_iinc (v := v_5) (lv' := [(2, .int v_5), (0, .ref a_this), (1, .int l1)]) hx hb dX3_hardnessFor_48 hl (k := 2) rfl ev_5.symm (by decide) rfl (fun ls hl => ?_)
          refine lv_goto (tgt := 4) hx hb dX3_hardnessFor_51 (by decide) ?_
          exact ih l1 v_5  H _ ls hP  hS (lv_sub hl [1, 2, 0] rfl) hf
        · have hf := xf hf c_4
          refine lv_iload_n hx hb dX3_hardnessFor_20 rfl (lv_at hl 1 rfl) ?_
          refine lv_aload_n hx hb dX3_hardnessFor_21 rfl (lv_at hl 0 rfl) ?_
          refine lv_iload_n hx hb dX3_hardnessFor_22 rfl (lv_at hl 2 rfl) ?_
          refine lv_iconst (v := (2 : Int32)) hx hb dX3_hardnessFor_23 (by decide) ?_
          obtain ⟨o_6, ho_6, hf⟩ := ob_s hf
          refine xV_i (As := [.int l2, .int (2 : Int32)]) (b := a_this) (rest := [.int l1]) (ws2 := [(a_this, .inr (3, [.int i_rounds, .int i_home, .int i_noise, .int i_blowCount, .int i_judgeCount, .ref a_blows, .ref a_judges, .ref a_forward, .ref a_downs, .ref a_taken, .ref a_seenBy, .ref a_sums, .ref a_leads])), (a_blows, .inl (X.2.1 0, 200, .inl f_blows))]) hx hb hml hts hown hG hA hP hD rfl hS hl.1 (qX3_blowPart l X a_this a_blows a_judges a_forward a_downs a_taken a_seenBy a_sums a_leads i_rounds i_home i_noise i_blowCount i_judgeCount f_blows l2 (2 : Int32) o_6 ho_6) (cwV (y := yX3_blowPart) 2 hts gX3_hardnessFor_X3_blowPart rfl rfl rfl hdvX3_blowPart ⟨Nat.le_of_ble_eq_true rfl, Nat.le_of_ble_eq_true rfl⟩) [0, 1] [] [0, 1] rfl rfl rfl rfl rfl rfl rfl (ci := 3) rfl 0 rfl rfl rfl (Nat.le_of_ble_eq_true rfl) ⟨Nat.le_of_ble_eq_true rfl, Nat.le_of_ble_eq_true rfl⟩ dX3_hardnessFor_24 (fun H locs hP _ hS => ?_)
          refine lv_if_ne (tgt := 39) hx hb dX3_hardnessFor_27 (by decide) (fun c_8 => ?_) (fun c_8 => ?_)
          · have hf := xf hf c_8
            refine lv_aload_n hx hb dX3_hardnessFor_39 rfl (lv_at hl 0 rfl) ?_
            refine lv_iload_n hx hb dX3_hardnessFor_40 rfl (lv_at hl 2 rfl) ?_
            refine lv_iconst (v := (3 : Int32)) hx hb dX3_hardnessFor_41 (by decide) ?_
            obtain ⟨o_9, ho_9, hf⟩ := ob_s hf
            refine xV_i (As := [.int l2, .int (3 : Int32)]) (b := a_this) (rest := [.int l1]) (ws2 := [(a_this, .inr (3, [.int i_rounds, .int i_home, .int i_noise, .int i_blowCount, .int i_judgeCount, .ref a_blows, .ref a_judges, .ref a_forward, .ref a_downs, .ref a_taken, .ref a_seenBy, .ref a_sums, .ref a_leads])), (a_blows, .inl (X.2.1 0, 200, .inl f_blows))]) hx hb hml hts hown hG hA hP hD rfl hS hl.1 (qX3_blowPart l X a_this a_blows a_judges a_forward a_downs a_taken a_seenBy a_sums a_leads i_rounds i_home i_noise i_blowCount i_judgeCount f_blows l2 (3 : Int32) o_9 ho_9) (cwV (y := yX3_blowPart) 2 hts gX3_hardnessFor_X3_blowPart rfl rfl rfl hdvX3_blowPart ⟨Nat.le_of_ble_eq_true rfl, Nat.le_of_ble_eq_true rfl⟩) [0, 1] [] [0, 1] rfl rfl rfl rfl rfl rfl rfl (ci := 3) rfl 0 rfl rfl rfl (Nat.le_of_ble_eq_true rfl) ⟨Nat.le_of_ble_eq_true rfl, Nat.le_of_ble_eq_true rfl⟩ dX3_hardnessFor_42 (fun H locs hP _ hS => ?_)
            refine lv_ineg hx hb dX3_hardnessFor_45 ?_
            refine lv_iadd hx hb dX3_hardnessFor_46 ?_
            refine lv_topi (fun v_11 ev_11 => ?_)
            have hf := lb_s hf ev_11
            refine lv_istore_n (lv' := [(1, .int v_11), (0, .ref a_this), (2, .int l2)]) hx hb dX3_hardnessFor_47 rfl hl (by decide) rfl (fun ls hl => ?_)
            obtain ⟨v_12, ev_12, hf⟩ := lb_g hf
            refine lv_iinc (v := v_12) (lv' := [(2, .int v_12), (1, .int v_11), (0, .ref a_this)]) hx hb dX3_hardnessFor_48 hl (k := 2) rfl ev_12.symm (by decide) rfl (fun ls hl => ?_)
            refine lv_goto (tgt := 4) hx hb dX3_hardnessFor_51 (by decide) ?_
            exact ih v_11 v_12  H _ ls hP  hS (lv_sub hl [2, 1, 0] rfl) hf
          · have hf := xt hf c_8
            refine lv_aload_n hx hb dX3_hardnessFor_30 rfl (lv_at hl 0 rfl) ?_
            refine lv_iload_n hx hb dX3_hardnessFor_31 rfl (lv_at hl 2 rfl) ?_
            refine lv_iconst (v := (3 : Int32)) hx hb dX3_hardnessFor_32 (by decide) ?_
            obtain ⟨o_13, ho_13, hf⟩ := ob_s hf
            refine xV_i (As := [.int l2, .int (3 : Int32)]) (b := a_this) (rest := [.int l1]) (ws2 := [(a_this, .inr (3, [.int i_rounds, .int i_home, .int i_noise, .int i_blowCount, .int i_judgeCount, .ref a_blows, .ref a_judges, .ref a_forward, .ref a_downs, .ref a_taken, .ref a_seenBy, .ref a_sums, .ref a_leads])), (a_blows, .inl (X.2.1 0, 200, .inl f_blows))]) hx hb hml hts hown hG hA hP hD rfl hS hl.1 (qX3_blowPart l X a_this a_blows a_judges a_forward a_downs a_taken a_seenBy a_sums a_leads i_rounds i_home i_noise i_blowCount i_judgeCount f_blows l2 (3 : Int32) o_13 ho_13) (cwV (y := yX3_blowPart) 2 hts gX3_hardnessFor_X3_blowPart rfl rfl rfl hdvX3_blowPart ⟨Nat.le_of_ble_eq_true rfl, Nat.le_of_ble_eq_true rfl⟩) [0, 1] [] [0, 1] rfl rfl rfl rfl rfl rfl rfl (ci := 3) rfl 0 rfl rfl rfl (Nat.le_of_ble_eq_true rfl) ⟨Nat.le_of_ble_eq_true rfl, Nat.le_of_ble_eq_true rfl⟩ dX3_hardnessFor_33 (fun H locs hP _ hS => ?_)
            refine lv_goto (tgt := 46) hx hb dX3_hardnessFor_36 (by decide) ?_
            refine lv_iadd hx hb dX3_hardnessFor_46 ?_
            refine lv_topi (fun v_15 ev_15 => ?_)
            have hf := lb_s hf ev_15
            refine lv_istore_n (lv' := [(1, .int v_15), (0, .ref a_this), (2, .int l2)]) hx hb dX3_hardnessFor_47 rfl hl (by decide) rfl (fun ls hl => ?_)
            obtain ⟨v_16, ev_16, hf⟩ := lb_g hf
            refine lv_iinc (v := v_16) (lv' := [(2, .int v_16), (1, .int v_15), (0, .ref a_this)]) hx hb dX3_hardnessFor_48 hl (k := 2) rfl ev_16.symm (by decide) rfl (fun ls hl => ?_)
            refine lv_goto (tgt := 4) hx hb dX3_hardnessFor_51 (by decide) ?_
            exact ih v_15 v_16  H _ ls hP  hS (lv_sub hl [2, 1, 0] rfl) hf
  unfold mX3_hardnessFor at hf
  refine lv_iconst (v := (0 : Int32)) hx hb dX3_hardnessFor_0 (by decide) ?_
  refine lv_istore_n (lv' := [(1, .int (0 : Int32)), (0, .ref a_this)]) hx hb dX3_hardnessFor_1 rfl hl (by decide) rfl (fun ls hl => ?_)
  refine lv_iconst (v := (0 : Int32)) hx hb dX3_hardnessFor_2 (by decide) ?_
  refine lv_istore_n (lv' := [(2, .int (0 : Int32)), (1, .int (0 : Int32)), (0, .ref a_this)]) hx hb dX3_hardnessFor_3 rfl hl (by decide) rfl (fun ls hl => ?_)
  exact hL4  FUEL (0 : Int32) (0 : Int32)  H _ ls hP  hS (lv_sub hl [2, 1, 0] rfl) hf
