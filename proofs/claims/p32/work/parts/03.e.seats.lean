def mJ6_bitCount_0f7a4 (x0 : Int32) :
  Option (Int32) :=
  lb (x0 - ((UInt32.toInt32 (Int32.toUInt32 x0 >>> (Int32.toUInt32 (1 : Int32) &&& Int32.toUInt32 31))) &&& (1431655765 : Int32))) fun v_1 =>
  lb ((v_1 &&& (858993459 : Int32)) + ((UInt32.toInt32 (Int32.toUInt32 v_1 >>> (Int32.toUInt32 (2 : Int32) &&& Int32.toUInt32 31))) &&& (858993459 : Int32))) fun v_2 =>
  lb ((v_2 + (UInt32.toInt32 (Int32.toUInt32 v_2 >>> (Int32.toUInt32 (4 : Int32) &&& Int32.toUInt32 31)))) &&& (252645135 : Int32)) fun v_3 =>
  lb (v_3 + (UInt32.toInt32 (Int32.toUInt32 v_3 >>> (Int32.toUInt32 (8 : Int32) &&& Int32.toUInt32 31)))) fun v_4 =>
  lb (v_4 + (UInt32.toInt32 (Int32.toUInt32 v_4 >>> (Int32.toUInt32 (16 : Int32) &&& Int32.toUInt32 31)))) fun v_5 =>
  lb (v_5 &&& (63 : Int32)) fun v_6 =>
  some v_6
theorem hdsJ6_bitCount_0f7a4 : yJ6_bitCount_0f7a4.cls ≠ "java/lang/invoke/MethodHandle" ∧ yJ6_bitCount_0f7a4.cls ≠ "java/lang/invoke/VarHandle" ∧ (parseMethodDescriptor yJ6_bitCount_0f7a4.desc).map (fun d => d.parameters.length) = some 1 := by decide +kernel
abbrev rmJ6_bitCount_0f7a4 : Room := { frames := 0, cells := 0, slots := 0, locals := 0 }
set_option maxHeartbeats 4000000 in
set_option maxRecDepth 100000 in
theorem qJ6_bitCount_0f7a4 (l : Launch) (X : XT)    (x0 : Int32) (o : Int32) (hf : mJ6_bitCount_0f7a4 x0 = some o) :
    MI l yJ6_bitCount_0f7a4 wsJ6_bitCount_0f7a4 rmJ6_bitCount_0f7a4 X [.int x0] []  [] o := by
  refine MI_ofH (cc := cJ6_bitCount_0f7a4) (maxL := 1) (rt := .int) (by decide) rfl (Nat.le_of_ble_eq_true rfl) ?_
  intro p e s m below meth c A Q H ls hx hb hml hts hown hA hD hG hP hS hl ret
  have hown : s.vm.findClass RJ6 = some m.cls := hown
  have hD : aD A [] := hD
  have hl : lv_has ls 1 [(0, .int x0)] := hl
  have w1 := hts (.constant RJ6 265 (1431655765)) (List.mem_of_getElem? (i := 1) rfl)
  have w2 := hts (.constant RJ6 266 (858993459)) (List.mem_of_getElem? (i := 2) rfl)
  have w3 := hts (.constant RJ6 267 (252645135)) (List.mem_of_getElem? (i := 3) rfl)
  unfold mJ6_bitCount_0f7a4 at hf
  refine lv_iload_n hx hb dJ6_bitCount_0f7a4_0 rfl (lv_at hl 0 rfl) ?_
  refine lv_iload_n hx hb dJ6_bitCount_0f7a4_1 rfl (lv_at hl 0 rfl) ?_
  refine lv_iconst (v := (1 : Int32)) hx hb dJ6_bitCount_0f7a4_2 (by decide) ?_
  refine lv_iushr hx hb dJ6_bitCount_0f7a4_3 rfl ?_
  refine lv_ldcw (v := (1431655765 : Int32)) hx hb hown w1 dJ6_bitCount_0f7a4_4 ?_
  refine lv_iand hx hb dJ6_bitCount_0f7a4_7 ?_
  refine lv_isub hx hb dJ6_bitCount_0f7a4_8 ?_
  refine lv_topi (fun v_1 ev_1 => ?_)
  have hf := lb_s hf ev_1
  refine lv_istore_n (lv' := [(0, .int v_1)]) hx hb dJ6_bitCount_0f7a4_9 rfl hl (by decide) rfl (fun ls hl => ?_)
  refine lv_iload_n hx hb dJ6_bitCount_0f7a4_10 rfl (lv_at hl 0 rfl) ?_
  refine lv_ldcw (v := (858993459 : Int32)) hx hb hown w2 dJ6_bitCount_0f7a4_11 ?_
  refine lv_iand hx hb dJ6_bitCount_0f7a4_14 ?_
  refine lv_iload_n hx hb dJ6_bitCount_0f7a4_15 rfl (lv_at hl 0 rfl) ?_
  refine lv_iconst (v := (2 : Int32)) hx hb dJ6_bitCount_0f7a4_16 (by decide) ?_
  refine lv_iushr hx hb dJ6_bitCount_0f7a4_17 rfl ?_
  refine lv_ldcw (v := (858993459 : Int32)) hx hb hown w2 dJ6_bitCount_0f7a4_18 ?_
  refine lv_iand hx hb dJ6_bitCount_0f7a4_21 ?_
  refine lv_iadd hx hb dJ6_bitCount_0f7a4_22 ?_
  refine lv_topi (fun v_2 ev_2 => ?_)
  have hf := lb_s hf ev_2
  refine lv_istore_n (lv' := [(0, .int v_2)]) hx hb dJ6_bitCount_0f7a4_23 rfl hl (by decide) rfl (fun ls hl => ?_)
  refine lv_iload_n hx hb dJ6_bitCount_0f7a4_24 rfl (lv_at hl 0 rfl) ?_
  refine lv_iload_n hx hb dJ6_bitCount_0f7a4_25 rfl (lv_at hl 0 rfl) ?_
  refine lv_iconst (v := (4 : Int32)) hx hb dJ6_bitCount_0f7a4_26 (by decide) ?_
  refine lv_iushr hx hb dJ6_bitCount_0f7a4_27 rfl ?_
  refine lv_iadd hx hb dJ6_bitCount_0f7a4_28 ?_
  refine lv_ldcw (v := (252645135 : Int32)) hx hb hown w3 dJ6_bitCount_0f7a4_29 ?_
  refine lv_iand hx hb dJ6_bitCount_0f7a4_32 ?_
  refine lv_topi (fun v_3 ev_3 => ?_)
  have hf := lb_s hf ev_3
  refine lv_istore_n (lv' := [(0, .int v_3)]) hx hb dJ6_bitCount_0f7a4_33 rfl hl (by decide) rfl (fun ls hl => ?_)
  refine lv_iload_n hx hb dJ6_bitCount_0f7a4_34 rfl (lv_at hl 0 rfl) ?_
  refine lv_iload_n hx hb dJ6_bitCount_0f7a4_35 rfl (lv_at hl 0 rfl) ?_
  refine lv_bipush (v := (8 : Int32)) hx hb dJ6_bitCount_0f7a4_36 (by decide) ?_
  refine lv_iushr hx hb dJ6_bitCount_0f7a4_38 rfl ?_
  refine lv_iadd hx hb dJ6_bitCount_0f7a4_39 ?_
  refine lv_topi (fun v_4 ev_4 => ?_)
  have hf := lb_s hf ev_4
  refine lv_istore_n (lv' := [(0, .int v_4)]) hx hb dJ6_bitCount_0f7a4_40 rfl hl (by decide) rfl (fun ls hl => ?_)
  refine lv_iload_n hx hb dJ6_bitCount_0f7a4_41 rfl (lv_at hl 0 rfl) ?_
  refine lv_iload_n hx hb dJ6_bitCount_0f7a4_42 rfl (lv_at hl 0 rfl) ?_
  refine lv_bipush (v := (16 : Int32)) hx hb dJ6_bitCount_0f7a4_43 (by decide) ?_
  refine lv_iushr hx hb dJ6_bitCount_0f7a4_45 rfl ?_
  refine lv_iadd hx hb dJ6_bitCount_0f7a4_46 ?_
  refine lv_topi (fun v_5 ev_5 => ?_)
  have hf := lb_s hf ev_5
  refine lv_istore_n (lv' := [(0, .int v_5)]) hx hb dJ6_bitCount_0f7a4_47 rfl hl (by decide) rfl (fun ls hl => ?_)
  refine lv_iload_n hx hb dJ6_bitCount_0f7a4_48 rfl (lv_at hl 0 rfl) ?_
  refine lv_bipush (v := (63 : Int32)) hx hb dJ6_bitCount_0f7a4_49 (by decide) ?_
  refine lv_iand hx hb dJ6_bitCount_0f7a4_51 ?_
  refine lv_topi (fun v_6 ev_6 => ?_)
  have hf := lb_s hf ev_6
  obtain rfl := Option.some.inj hf
  exact ret H _ ls _ rfl hP hD hS dJ6_bitCount_0f7a4_52
def mX7_countShown_B10 (i_fight_rounds : Int32) (i_fight_blowCount : Int32) (f_fight_blows : Nat → Int32) (k10 : Int32 → (Nat → Int32) → Option ((Nat → Int32))) (l1 : Int32) (f_shown : Nat → Int32) :
  Option ((Nat → Int32)) :=
  if i_fight_blowCount ≤ l1 then (some f_shown) else ((mX3_isInRounds l1 i_fight_rounds f_fight_blows).bind fun o_4 =>
  if o_4 = 0 then (lb (l1 + (1 : Int32)) fun v_7 =>
  k10 v_7 f_shown) else ((mX3_blowPart l1 (4 : Int32) f_fight_blows).bind fun o_8 =>
  gi o_8 12 <|
  gi o_8 12 <|
  lb (upd f_shown o_8.toNatClampNeg ((f_shown o_8.toNatClampNeg) + (1 : Int32))) fun g_12 =>
  lb (l1 + (1 : Int32)) fun v_13 =>
  k10 v_13 g_12))
def mX7_countShown_L10 (i_fight_rounds : Int32) (i_fight_blowCount : Int32) (f_fight_blows : Nat → Int32) (n : Nat) (l1 : Int32) (f_shown : Nat → Int32) :
  Option ((Nat → Int32)) :=
  loopN (fun k (s : Int32 × (Nat → Int32)) => mX7_countShown_B10 i_fight_rounds i_fight_blowCount f_fight_blows  (fun l1 f_shown => k (l1, f_shown)) s.1 s.2) n (l1, f_shown)
def mX7_countShown (i_fight_rounds : Int32) (i_fight_blowCount : Int32) (f_shown : Nat → Int32) (f_fight_blows : Nat → Int32) :
  Option ((Nat → Int32)) :=
  (mJ7_fill_53178 12 (0 : Int32) f_shown).bind fun o_1 =>
  mX7_countShown_L10 i_fight_rounds i_fight_blowCount f_fight_blows  FUEL (0 : Int32) o_1
theorem hdsX7_countShown : yX7_countShown.cls ≠ "java/lang/invoke/MethodHandle" ∧ yX7_countShown.cls ≠ "java/lang/invoke/VarHandle" ∧ (parseMethodDescriptor yX7_countShown.desc).map (fun d => d.parameters.length) = some 0 := by decide +kernel
theorem hdvX7_countShown : yX7_countShown.cls = RX7 ∧ yX7_countShown.cls ≠ "java/lang/invoke/MethodHandle" ∧ yX7_countShown.cls ≠ "java/lang/invoke/VarHandle" ∧ (parseMethodDescriptor yX7_countShown.desc).map (fun d => d.parameters.length) = some 0 := by decide +kernel
abbrev rmX7_countShown : Room := { frames := 2, cells := 0, slots := 0, locals := 43 }
set_option maxHeartbeats 4000000 in
set_option maxRecDepth 100000 in
theorem qX7_countShown (l : Launch) (X : XT) (a_this : Nat) (a_fight : Nat) (a_shown : Nat) (a_fight_blows : Nat) (a_watchers : Nat) (a_best : Nat) (a_fight_judges : Nat) (a_fight_forward : Nat) (a_fight_downs : Nat) (a_fight_taken : Nat) (a_fight_seenBy : Nat) (a_fight_sums : Nat) (a_fight_leads : Nat)  (i_fight_rounds : Int32) (i_fight_home : Int32) (i_fight_noise : Int32) (i_fight_blowCount : Int32) (i_fight_judgeCount : Int32) (f_shown : Nat → Int32) (f_fight_blows : Nat → Int32)  (o : (Nat → Int32)) (hf : mX7_countShown i_fight_rounds i_fight_blowCount f_shown f_fight_blows = some o) :
    MC l yX7_countShown wsX7_countShown rmX7_countShown X [.ref a_this] [(a_this, .inr (7, [.ref a_fight, .ref a_shown, .ref a_watchers, .ref a_best])), (a_fight, .inr (3, [.int i_fight_rounds, .int i_fight_home, .int i_fight_noise, .int i_fight_blowCount, .int i_fight_judgeCount, .ref a_fight_blows, .ref a_fight_judges, .ref a_fight_forward, .ref a_fight_downs, .ref a_fight_taken, .ref a_fight_seenBy, .ref a_fight_sums, .ref a_fight_leads])), (a_shown, .inl (X.2.1 0, 12, .inl f_shown)), (a_fight_blows, .inl (X.2.1 0, 200, .inl f_fight_blows))]  (fun _ => [(a_this, .inr (7, [.ref a_fight, .ref a_shown, .ref a_watchers, .ref a_best])), (a_fight, .inr (3, [.int i_fight_rounds, .int i_fight_home, .int i_fight_noise, .int i_fight_blowCount, .int i_fight_judgeCount, .ref a_fight_blows, .ref a_fight_judges, .ref a_fight_forward, .ref a_fight_downs, .ref a_fight_taken, .ref a_fight_seenBy, .ref a_fight_sums, .ref a_fight_leads])), (a_shown, .inl (X.2.1 0, 12, .inl o)), (a_fight_blows, .inl (X.2.1 0, 200, .inl f_fight_blows))]) 0 0 := by
  refine MC_ofH (cc := cX7_countShown) (maxL := 2) (by decide) rfl (Nat.le_of_ble_eq_true rfl) ?_
  intro p e s m below meth c A Q H ls hx hb hml hts hown hin hA hD hG hP hS hl ret
  have hown : s.vm.findClass RX7 = some m.cls := hown
  have hD : aD A [a_this, a_fight, a_shown, a_fight_blows] := hD
  have hl : lv_has ls 2 [(0, .ref a_this)] := hl
  have w1 := hts (.fieldLink RX7 9 "ThreeCards$Seats" "shown" "[I") (List.mem_of_getElem? (i := 1) rfl)
  have w2 := hts (.fieldLink RX7 21 "ThreeCards$Seats" "fight" "LThreeCards$Fight;") (List.mem_of_getElem? (i := 2) rfl)
  have in3 : ∀ w ∈ u_ws RX3 TX3 13, w ∈ wsX7_countShown := by decide +kernel
  have in7 : ∀ w ∈ u_ws RX7 TX7 4, w ∈ wsX7_countShown := by decide +kernel
  have hL10 : ∀ (n : Nat) (l1 : Int32) (f_shown : Nat → Int32)  (H : Heap) (locs : List Loc) (ls : Array Slot), va_P X.1 vwCl [(a_this, .inr (7, [.ref a_fight, .ref a_shown, .ref a_watchers, .ref a_best])), (a_fight, .inr (3, [.int i_fight_rounds, .int i_fight_home, .int i_fight_noise, .int i_fight_blowCount, .int i_fight_judgeCount, .ref a_fight_blows, .ref a_fight_judges, .ref a_fight_forward, .ref a_fight_downs, .ref a_fight_taken, .ref a_fight_seenBy, .ref a_fight_sums, .ref a_fight_leads])), (a_shown, .inl (X.2.1 0, 12, .inl f_shown)), (a_fight_blows, .inl (X.2.1 0, 200, .inl f_fight_blows))] H → va_S A s.heap H locs → lv_has ls 2 [(0, .ref a_this), (1, .int l1)] → mX7_countShown_L10 i_fight_rounds i_fight_blowCount f_fight_blows  n l1 f_shown = some o → W p l e rmX7_countShown s m ([.ref a_this] : List Value).toArray below meth c H locs 0 0 Q (F0 m 10 ls []) := by
    intro n
    induction n with
    | zero => intro l1 f_shown  H locs ls hP hS hl hf; exact xn hf
    | succ n ih =>
      intro l1 f_shown  H locs ls hP hS hl hf
      have hf : mX7_countShown_B10 i_fight_rounds i_fight_blowCount f_fight_blows  (mX7_countShown_L10 i_fight_rounds i_fight_blowCount f_fight_blows  n) l1 f_shown = some o := hf
      generalize mX7_countShown_L10 i_fight_rounds i_fight_blowCount f_fight_blows  n = k10 at ih hf
      unfold mX7_countShown_B10 at hf
      refine lv_iload_n hx hb dX7_countShown_10 rfl (lv_at hl 1 rfl) ?_
      refine lv_aload_n hx hb dX7_countShown_11 rfl (lv_at hl 0 rfl) ?_
      refine va_get (D := X.1) (ci := 7) (v := .ref a_fight) (C := RX7) (T := TX7) (N := 4) hx hb hts in7 hown hG.1 hP 0 rfl rfl 0 (by decide) w2 (fun _ h9 => h9) rfl dX7_countShown_12 ?_
      refine va_getN (D := X.1) (ci := 3) (v := .int i_fight_blowCount) (C := RX3) (T := TX3) (N := 13) hx hb hts in3 hown hG.1 hP 1 rfl rfl 3 (by decide) (va_Nw.use rfl (nf5 hG.2.1)) (fun _ h9 => h9) rfl dX7_countShown_15 ?_
      refine lv_icmp_ge (tgt := 56) hx hb dX7_countShown_18 (by decide) (fun c_3 => ?_) (fun c_3 => ?_)
      · have hf := xt hf c_3
        obtain rfl := Option.some.inj hf
        exact ret (fun _ => 0) H _ ls _ hP hD hS dX7_countShown_56
      · have hf := xf hf c_3
        refine lv_aload_n hx hb dX7_countShown_21 rfl (lv_at hl 0 rfl) ?_
        refine va_get (D := X.1) (ci := 7) (v := .ref a_fight) (C := RX7) (T := TX7) (N := 4) hx hb hts in7 hown hG.1 hP 0 rfl rfl 0 (by decide) w2 (fun _ h9 => h9) rfl dX7_countShown_22 ?_
        refine lv_iload_n hx hb dX7_countShown_25 rfl (lv_at hl 1 rfl) ?_
        obtain ⟨o_4, ho_4, hf⟩ := ob_s hf
        refine xV_i (As := [.int l1]) (b := a_fight) (rest := []) (ws2 := [(a_this, .inr (7, [.ref a_fight, .ref a_shown, .ref a_watchers, .ref a_best])), (a_fight, .inr (3, [.int i_fight_rounds, .int i_fight_home, .int i_fight_noise, .int i_fight_blowCount, .int i_fight_judgeCount, .ref a_fight_blows, .ref a_fight_judges, .ref a_fight_forward, .ref a_fight_downs, .ref a_fight_taken, .ref a_fight_seenBy, .ref a_fight_sums, .ref a_fight_leads])), (a_shown, .inl (X.2.1 0, 12, .inl f_shown)), (a_fight_blows, .inl (X.2.1 0, 200, .inl f_fight_blows))]) hx hb hml hts hown hG hA hP hD rfl hS hl.1 (qX3_isInRounds l X a_fight a_fight_blows a_fight_judges a_fight_forward a_fight_downs a_fight_taken a_fight_seenBy a_fight_sums a_fight_leads i_fight_rounds i_fight_home i_fight_noise i_fight_blowCount i_fight_judgeCount f_fight_blows l1 o_4 ho_4) (cwV (y := yX3_isInRounds) 1 hts gX7_countShown_X3_isInRounds rfl rfl rfl hdvX3_isInRounds ⟨Nat.le_of_ble_eq_true rfl, Nat.le_of_ble_eq_true rfl⟩) [1, 3] [0, 2] [0, 2, 1, 3] rfl rfl rfl rfl rfl rfl rfl (ci := 3) rfl 1 rfl rfl rfl (Nat.le_of_ble_eq_true rfl) ⟨Nat.le_of_ble_eq_true rfl, Nat.le_of_ble_eq_true rfl⟩ dX7_countShown_26 (fun H locs hP _ hS => ?_)
        refine lv_if_eq (tgt := 50) hx hb dX7_countShown_29 (by decide) (fun c_6 => ?_) (fun c_6 => ?_)
        · have hf := xt hf c_6
          obtain ⟨v_7, ev_7, hf⟩ := lb_g hf
          refine lv_iinc (v := v_7) (lv' := [(1, .int v_7), (0, .ref a_this)]) hx hb dX7_countShown_50 hl (k := 1) rfl ev_7.symm (by decide) rfl (fun ls hl => ?_)
          refine lv_goto (tgt := 10) hx hb dX7_countShown_53 (by decide) ?_
          exact ih v_7 f_shown  H _ ls hP  hS (lv_sub hl [1, 0] rfl) hf
        · have hf := xf hf c_6
          refine lv_aload_n hx hb dX7_countShown_32 rfl (lv_at hl 0 rfl) ?_
          refine va_get (D := X.1) (ci := 7) (v := .ref a_shown) (C := RX7) (T := TX7) (N := 4) hx hb hts in7 hown hG.1 hP 0 rfl rfl 1 (by decide) w1 (fun _ h9 => h9) rfl dX7_countShown_33 ?_
          refine lv_aload_n hx hb dX7_countShown_36 rfl (lv_at hl 0 rfl) ?_
          refine va_get (D := X.1) (ci := 7) (v := .ref a_fight) (C := RX7) (T := TX7) (N := 4) hx hb hts in7 hown hG.1 hP 0 rfl rfl 0 (by decide) w2 (fun _ h9 => h9) rfl dX7_countShown_37 ?_
          refine lv_iload_n hx hb dX7_countShown_40 rfl (lv_at hl 1 rfl) ?_
          refine lv_iconst (v := (4 : Int32)) hx hb dX7_countShown_41 (by decide) ?_
          obtain ⟨o_8, ho_8, hf⟩ := ob_s hf
          refine xV_i (As := [.int l1, .int (4 : Int32)]) (b := a_fight) (rest := [.ref a_shown]) (ws2 := [(a_this, .inr (7, [.ref a_fight, .ref a_shown, .ref a_watchers, .ref a_best])), (a_fight, .inr (3, [.int i_fight_rounds, .int i_fight_home, .int i_fight_noise, .int i_fight_blowCount, .int i_fight_judgeCount, .ref a_fight_blows, .ref a_fight_judges, .ref a_fight_forward, .ref a_fight_downs, .ref a_fight_taken, .ref a_fight_seenBy, .ref a_fight_sums, .ref a_fight_leads])), (a_shown, .inl (X.2.1 0, 12, .inl f_shown)), (a_fight_blows, .inl (X.2.1 0, 200, .inl f_fight_blows))]) hx hb hml hts hown hG hA hP hD rfl hS hl.1 (qX3_blowPart l X a_fight a_fight_blows a_fight_judges a_fight_forward a_fight_downs a_fight_taken a_fight_seenBy a_fight_sums a_fight_leads i_fight_rounds i_fight_home i_fight_noise i_fight_blowCount i_fight_judgeCount f_fight_blows l1 (4 : Int32) o_8 ho_8) (cwV (y := yX3_blowPart) 2 hts gX7_countShown_X3_blowPart rfl rfl rfl hdvX3_blowPart ⟨Nat.le_of_ble_eq_true rfl, Nat.le_of_ble_eq_true rfl⟩) [1, 3] [0, 2] [0, 2, 1, 3] rfl rfl rfl rfl rfl rfl rfl (ci := 3) rfl 1 rfl rfl rfl (Nat.le_of_ble_eq_true rfl) ⟨Nat.le_of_ble_eq_true rfl, Nat.le_of_ble_eq_true rfl⟩ dX7_countShown_42 (fun H locs hP _ hS => ?_)
          refine lv_dup2_11 hx hb dX7_countShown_45 rfl rfl ?_
          obtain ⟨h_10, hf⟩ := gi_s hf
          refine va_iald (D := X.1) hx hb hG.1 hP 2 0 rfl rfl h_10 dX7_countShown_46 ?_
          refine lv_iconst (v := (1 : Int32)) hx hb dX7_countShown_47 (by decide) ?_
          refine lv_iadd hx hb dX7_countShown_48 ?_
          obtain ⟨h_11, hf⟩ := gi_s hf
          obtain ⟨g_12, eg_12, hf⟩ := lb_g hf
          refine x_iast (ws' := [(a_this, .inr (7, [.ref a_fight, .ref a_shown, .ref a_watchers, .ref a_best])), (a_fight, .inr (3, [.int i_fight_rounds, .int i_fight_home, .int i_fight_noise, .int i_fight_blowCount, .int i_fight_judgeCount, .ref a_fight_blows, .ref a_fight_judges, .ref a_fight_forward, .ref a_fight_downs, .ref a_fight_taken, .ref a_fight_seenBy, .ref a_fight_sums, .ref a_fight_leads])), (a_shown, .inl (X.2.1 0, 12, .inl g_12)), (a_fight_blows, .inl (X.2.1 0, 200, .inl f_fight_blows))]) hx hb hG hP hD rfl hS 2 rfl h_11 dX7_countShown_49 eg_12 rfl (fun H locs hP hS => ?_)
          obtain ⟨v_13, ev_13, hf⟩ := lb_g hf
          refine lv_iinc (v := v_13) (lv' := [(1, .int v_13), (0, .ref a_this)]) hx hb dX7_countShown_50 hl (k := 1) rfl ev_13.symm (by decide) rfl (fun ls hl => ?_)
          refine lv_goto (tgt := 10) hx hb dX7_countShown_53 (by decide) ?_
          exact ih v_13 g_12  H _ ls hP  hS (lv_sub hl [1, 0] rfl) hf
  unfold mX7_countShown at hf
  refine lv_aload_n hx hb dX7_countShown_0 rfl (lv_at hl 0 rfl) ?_
  refine va_get (D := X.1) (ci := 7) (v := .ref a_shown) (C := RX7) (T := TX7) (N := 4) hx hb hts in7 hown hG.1 hP 0 rfl rfl 1 (by decide) w1 (fun _ h9 => h9) rfl dX7_countShown_1 ?_
  refine lv_iconst (v := (0 : Int32)) hx hb dX7_countShown_4 (by decide) ?_
  obtain ⟨o_1, ho_1, hf⟩ := ob_s hf
  refine xS_v (As := [.ref a_shown, .int (0 : Int32)]) (rest := []) (ws2 := fun _ => [(a_this, .inr (7, [.ref a_fight, .ref a_shown, .ref a_watchers, .ref a_best])), (a_fight, .inr (3, [.int i_fight_rounds, .int i_fight_home, .int i_fight_noise, .int i_fight_blowCount, .int i_fight_judgeCount, .ref a_fight_blows, .ref a_fight_judges, .ref a_fight_forward, .ref a_fight_downs, .ref a_fight_taken, .ref a_fight_seenBy, .ref a_fight_sums, .ref a_fight_leads])), (a_shown, .inl (X.2.1 0, 12, .inl o_1)), (a_fight_blows, .inl (X.2.1 0, 200, .inl f_fight_blows))]) hx hb hml hts hown hG hA hP hD rfl hS hl.1 (qJ7_fill_53178 l X a_shown 12 f_shown (0 : Int32) o_1 ho_1) (va_cwS (y := yJ7_fill_53178) 2 hts gX7_countShown_J7_fill_53178 rfl rfl rfl hdsJ7_fill_53178 ⟨Nat.le_of_ble_eq_true rfl, Nat.le_of_ble_eq_true rfl⟩) [2] [0, 1, 3] [0, 1, 3, 2] rfl rfl rfl rfl rfl rfl (fun _ => rfl) rfl rfl (Nat.le_of_ble_eq_true rfl) ⟨Nat.le_of_ble_eq_true rfl, Nat.le_of_ble_eq_true rfl⟩ dX7_countShown_5 (fun u_2 H locs hP _ hS => ?_)
  refine lv_iconst (v := (0 : Int32)) hx hb dX7_countShown_8 (by decide) ?_
  refine lv_istore_n (lv' := [(1, .int (0 : Int32)), (0, .ref a_this)]) hx hb dX7_countShown_9 rfl hl (by decide) rfl (fun ls hl => ?_)
  exact hL10  FUEL (0 : Int32) o_1  H _ ls hP  hS (lv_sub hl [1, 0] rfl) hf
def mX7_tryThree_B137 (x0 : Int32) (x1 : Int32) (x2 : Int32) (f_shown : Nat → Int32) (f_watchers : Nat → Int32) (l5 : Int32) (l6 : Int32) (f_best : Nat → Int32) :
  Option ((Nat → Int32)) :=
  lb (upd f_best (0 : Int32).toNatClampNeg x0) fun g_14 =>
  lb (upd g_14 (1 : Int32).toNatClampNeg x1) fun g_15 =>
  lb (upd g_15 (2 : Int32).toNatClampNeg x2) fun g_16 =>
  lb (upd g_16 (3 : Int32).toNatClampNeg l5) fun g_17 =>
  lb (upd g_17 (4 : Int32).toNatClampNeg l6) fun g_18 =>
  some g_18
def mX7_tryThree_B73 (x0 : Int32) (x1 : Int32) (x2 : Int32) (f_shown : Nat → Int32) (f_watchers : Nat → Int32) (k22 : Int32 → Int32 → Int32 → Int32 → (Nat → Int32) → Option ((Nat → Int32))) (l4 : Int32) (l6 : Int32) (l7 : Int32) (l8 : Int32) (s0 : Int32) (s1 : Int32) (f_best : Nat → Int32) :
  Option ((Nat → Int32)) :=
  lb (s0 + s1) fun v_19 =>
  if (1 : Int32) ≤ l8 then (lb (l6 + (0 : Int32)) fun v_21 =>
  lb (l7 + (1 : Int32)) fun v_22 =>
  k22 l4 v_19 v_21 v_22 f_best) else (gi l7 12 <|
  lb (l6 + (f_shown l7.toNatClampNeg)) fun v_24 =>
  lb (l7 + (1 : Int32)) fun v_25 =>
  k22 l4 v_19 v_24 v_25 f_best)
def mX7_tryThree_B22 (x0 : Int32) (x1 : Int32) (x2 : Int32) (f_shown : Nat → Int32) (f_watchers : Nat → Int32) (k22 : Int32 → Int32 → Int32 → Int32 → (Nat → Int32) → Option ((Nat → Int32))) (l4 : Int32) (l5 : Int32) (l6 : Int32) (l7 : Int32) (f_best : Nat → Int32) :
  Option ((Nat → Int32)) :=
  if (12 : Int32) ≤ l7 then (if l5 < (f_best (3 : Int32).toNatClampNeg) then (mX7_tryThree_B137 x0 x1 x2 f_shown f_watchers  l5 l6 f_best) else (if l5 = (f_best (3 : Int32).toNatClampNeg) then (if (f_best (4 : Int32).toNatClampNeg) ≤ l6 then (some f_best) else (mX7_tryThree_B137 x0 x1 x2 f_shown f_watchers  l5 l6 f_best)) else (some f_best))) else (gi l7 12 <|
  if (f_shown l7.toNatClampNeg) ≤ 0 then (lb (l7 + (1 : Int32)) fun v_8 =>
  k22 l4 l5 l6 v_8 f_best) else (gi l7 12 <|
  (mJ6_bitCount_0f7a4 (l4 &&& (f_watchers l7.toNatClampNeg))).bind fun o_10 =>
  if (2 : Int32) ≤ o_10 then (mX7_tryThree_B73 x0 x1 x2 f_shown f_watchers k22 l4 l6 l7 o_10 l5 (0 : Int32) f_best) else (gi l7 12 <|
  mX7_tryThree_B73 x0 x1 x2 f_shown f_watchers k22 l4 l6 l7 o_10 l5 (f_shown l7.toNatClampNeg) f_best)))
def mX7_tryThree_L22 (x0 : Int32) (x1 : Int32) (x2 : Int32) (f_shown : Nat → Int32) (f_watchers : Nat → Int32) (n : Nat) (l4 : Int32) (l5 : Int32) (l6 : Int32) (l7 : Int32) (f_best : Nat → Int32) :
  Option ((Nat → Int32)) :=
  loopN (fun k (s : Int32 × Int32 × Int32 × Int32 × (Nat → Int32)) => mX7_tryThree_B22 x0 x1 x2 f_shown f_watchers  (fun l4 l5 l6 l7 f_best => k (l4, l5, l6, l7, f_best)) s.1 s.2.1 s.2.2.1 s.2.2.2.1 s.2.2.2.2) n (l4, l5, l6, l7, f_best)
def mX7_tryThree (x0 : Int32) (x1 : Int32) (x2 : Int32) (f_best : Nat → Int32) (f_shown : Nat → Int32) (f_watchers : Nat → Int32) :
  Option ((Nat → Int32)) :=
  lb ((((1 : Int32) <<< (x0 &&& 31)) ||| ((1 : Int32) <<< (x1 &&& 31))) ||| ((1 : Int32) <<< (x2 &&& 31))) fun v_1 =>
  mX7_tryThree_L22 x0 x1 x2 f_shown f_watchers  FUEL v_1 (0 : Int32) (0 : Int32) (0 : Int32) f_best
theorem hdsX7_tryThree : yX7_tryThree.cls ≠ "java/lang/invoke/MethodHandle" ∧ yX7_tryThree.cls ≠ "java/lang/invoke/VarHandle" ∧ (parseMethodDescriptor yX7_tryThree.desc).map (fun d => d.parameters.length) = some 3 := by decide +kernel
theorem hdvX7_tryThree : yX7_tryThree.cls = RX7 ∧ yX7_tryThree.cls ≠ "java/lang/invoke/MethodHandle" ∧ yX7_tryThree.cls ≠ "java/lang/invoke/VarHandle" ∧ (parseMethodDescriptor yX7_tryThree.desc).map (fun d => d.parameters.length) = some 3 := by decide +kernel
abbrev rmX7_tryThree : Room := { frames := 1, cells := 0, slots := 0, locals := 20 }
set_option maxHeartbeats 4000000 in
set_option maxRecDepth 100000 in
theorem qX7_tryThree (l : Launch) (X : XT) (a_this : Nat) (a_best : Nat) (a_shown : Nat) (a_watchers : Nat) (a_fight : Nat)  (f_best : Nat → Int32) (f_shown : Nat → Int32) (f_watchers : Nat → Int32) (x0 : Int32) (x1 : Int32) (x2 : Int32) (o : (Nat → Int32)) (hf : mX7_tryThree x0 x1 x2 f_best f_shown f_watchers = some o) :
    MC l yX7_tryThree wsX7_tryThree rmX7_tryThree X [.ref a_this, .int x0, .int x1, .int x2] [(a_this, .inr (7, [.ref a_fight, .ref a_shown, .ref a_watchers, .ref a_best])), (a_best, .inl (X.2.1 0, 5, .inl f_best)), (a_shown, .inl (X.2.1 0, 12, .inl f_shown)), (a_watchers, .inl (X.2.1 0, 12, .inl f_watchers))]  (fun _ => [(a_this, .inr (7, [.ref a_fight, .ref a_shown, .ref a_watchers, .ref a_best])), (a_best, .inl (X.2.1 0, 5, .inl o)), (a_shown, .inl (X.2.1 0, 12, .inl f_shown)), (a_watchers, .inl (X.2.1 0, 12, .inl f_watchers))]) 0 0 := by
  refine MC_ofH (cc := cX7_tryThree) (maxL := 9) (by decide) rfl (Nat.le_of_ble_eq_true rfl) ?_
  intro p e s m below meth c A Q H ls hx hb hml hts hown hin hA hD hG hP hS hl ret
  have hown : s.vm.findClass RX7 = some m.cls := hown
  have hD : aD A [a_this, a_best, a_shown, a_watchers] := hD
  have hl : lv_has ls 9 [(0, .ref a_this), (1, .int x0), (2, .int x1), (3, .int x2)] := hl
  have w1 := hts (.fieldLink RX7 9 "ThreeCards$Seats" "shown" "[I") (List.mem_of_getElem? (i := 1) rfl)
  have w2 := hts (.fieldLink RX7 15 "ThreeCards$Seats" "watchers" "[I") (List.mem_of_getElem? (i := 2) rfl)
  have w3 := hts (.fieldLink RX7 18 "ThreeCards$Seats" "best" "[I") (List.mem_of_getElem? (i := 3) rfl)
  have in7 : ∀ w ∈ u_ws RX7 TX7 4, w ∈ wsX7_tryThree := by decide +kernel
  have hB137 : ∀ (l5 : Int32) (l6 : Int32) (f_best : Nat → Int32)  (H : Heap) (locs : List Loc) (ls : Array Slot), va_P X.1 vwCl [(a_this, .inr (7, [.ref a_fight, .ref a_shown, .ref a_watchers, .ref a_best])), (a_best, .inl (X.2.1 0, 5, .inl f_best)), (a_shown, .inl (X.2.1 0, 12, .inl f_shown)), (a_watchers, .inl (X.2.1 0, 12, .inl f_watchers))] H → va_S A s.heap H locs → lv_has ls 9 [(0, .ref a_this), (1, .int x0), (2, .int x1), (3, .int x2), (5, .int l5), (6, .int l6)] → mX7_tryThree_B137 x0 x1 x2 f_shown f_watchers  l5 l6 f_best = some o → W p l e rmX7_tryThree s m ([.ref a_this, .int x0, .int x1, .int x2] : List Value).toArray below meth c H locs 0 0 Q (F0 m 137 ls []) := by
    intro l5 l6 f_best  H locs ls hP hS hl hf
    unfold mX7_tryThree_B137 at hf
    refine lv_aload_n hx hb dX7_tryThree_137 rfl (lv_at hl 0 rfl) ?_
    refine va_get (D := X.1) (ci := 7) (v := .ref a_best) (C := RX7) (T := TX7) (N := 4) hx hb hts in7 hown hG.1 hP 0 rfl rfl 3 (by decide) w3 (fun _ h9 => h9) rfl dX7_tryThree_138 ?_
    refine lv_iconst (v := (0 : Int32)) hx hb dX7_tryThree_141 (by decide) ?_
    refine lv_iload_n hx hb dX7_tryThree_142 rfl (lv_at hl 1 rfl) ?_
    obtain ⟨g_14, eg_14, hf⟩ := lb_g hf
    refine x_iast (ws' := [(a_this, .inr (7, [.ref a_fight, .ref a_shown, .ref a_watchers, .ref a_best])), (a_best, .inl (X.2.1 0, 5, .inl g_14)), (a_shown, .inl (X.2.1 0, 12, .inl f_shown)), (a_watchers, .inl (X.2.1 0, 12, .inl f_watchers))]) hx hb hG hP hD rfl hS 1 rfl (vp_lit (by decide)) dX7_tryThree_143 eg_14 rfl (fun H locs hP hS => ?_)
    refine lv_aload_n hx hb dX7_tryThree_144 rfl (lv_at hl 0 rfl) ?_
    refine va_get (D := X.1) (ci := 7) (v := .ref a_best) (C := RX7) (T := TX7) (N := 4) hx hb hts in7 hown hG.1 hP 0 rfl rfl 3 (by decide) w3 (fun _ h9 => h9) rfl dX7_tryThree_145 ?_
    refine lv_iconst (v := (1 : Int32)) hx hb dX7_tryThree_148 (by decide) ?_
    refine lv_iload_n hx hb dX7_tryThree_149 rfl (lv_at hl 2 rfl) ?_
    obtain ⟨g_15, eg_15, hf⟩ := lb_g hf
    refine x_iast (ws' := [(a_this, .inr (7, [.ref a_fight, .ref a_shown, .ref a_watchers, .ref a_best])), (a_best, .inl (X.2.1 0, 5, .inl g_15)), (a_shown, .inl (X.2.1 0, 12, .inl f_shown)), (a_watchers, .inl (X.2.1 0, 12, .inl f_watchers))]) hx hb hG hP hD rfl hS 1 rfl (vp_lit (by decide)) dX7_tryThree_150 eg_15 rfl (fun H locs hP hS => ?_)
    refine lv_aload_n hx hb dX7_tryThree_151 rfl (lv_at hl 0 rfl) ?_
    refine va_get (D := X.1) (ci := 7) (v := .ref a_best) (C := RX7) (T := TX7) (N := 4) hx hb hts in7 hown hG.1 hP 0 rfl rfl 3 (by decide) w3 (fun _ h9 => h9) rfl dX7_tryThree_152 ?_
    refine lv_iconst (v := (2 : Int32)) hx hb dX7_tryThree_155 (by decide) ?_
    refine lv_iload_n hx hb dX7_tryThree_156 rfl (lv_at hl 3 rfl) ?_
    obtain ⟨g_16, eg_16, hf⟩ := lb_g hf
    refine x_iast (ws' := [(a_this, .inr (7, [.ref a_fight, .ref a_shown, .ref a_watchers, .ref a_best])), (a_best, .inl (X.2.1 0, 5, .inl g_16)), (a_shown, .inl (X.2.1 0, 12, .inl f_shown)), (a_watchers, .inl (X.2.1 0, 12, .inl f_watchers))]) hx hb hG hP hD rfl hS 1 rfl (vp_lit (by decide)) dX7_tryThree_157 eg_16 rfl (fun H locs hP hS => ?_)
    refine lv_aload_n hx hb dX7_tryThree_158 rfl (lv_at hl 0 rfl) ?_
    refine va_get (D := X.1) (ci := 7) (v := .ref a_best) (C := RX7) (T := TX7) (N := 4) hx hb hts in7 hown hG.1 hP 0 rfl rfl 3 (by decide) w3 (fun _ h9 => h9) rfl dX7_tryThree_159 ?_
    refine lv_iconst (v := (3 : Int32)) hx hb dX7_tryThree_162 (by decide) ?_
    refine lv_iload hx hb dX7_tryThree_163 (lv_at hl 4 rfl) ?_
    obtain ⟨g_17, eg_17, hf⟩ := lb_g hf
    refine x_iast (ws' := [(a_this, .inr (7, [.ref a_fight, .ref a_shown, .ref a_watchers, .ref a_best])), (a_best, .inl (X.2.1 0, 5, .inl g_17)), (a_shown, .inl (X.2.1 0, 12, .inl f_shown)), (a_watchers, .inl (X.2.1 0, 12, .inl f_watchers))]) hx hb hG hP hD rfl hS 1 rfl (vp_lit (by decide)) dX7_tryThree_165 eg_17 rfl (fun H locs hP hS => ?_)
    refine lv_aload_n hx hb dX7_tryThree_166 rfl (lv_at hl 0 rfl) ?_
    refine va_get (D := X.1) (ci := 7) (v := .ref a_best) (C := RX7) (T := TX7) (N := 4) hx hb hts in7 hown hG.1 hP 0 rfl rfl 3 (by decide) w3 (fun _ h9 => h9) rfl dX7_tryThree_167 ?_
    refine lv_iconst (v := (4 : Int32)) hx hb dX7_tryThree_170 (by decide) ?_
    refine lv_iload hx hb dX7_tryThree_171 (lv_at hl 5 rfl) ?_
    obtain ⟨g_18, eg_18, hf⟩ := lb_g hf
    refine x_iast (ws' := [(a_this, .inr (7, [.ref a_fight, .ref a_shown, .ref a_watchers, .ref a_best])), (a_best, .inl (X.2.1 0, 5, .inl g_18)), (a_shown, .inl (X.2.1 0, 12, .inl f_shown)), (a_watchers, .inl (X.2.1 0, 12, .inl f_watchers))]) hx hb hG hP hD rfl hS 1 rfl (vp_lit (by decide)) dX7_tryThree_173 eg_18 rfl (fun H locs hP hS => ?_)
    obtain rfl := Option.some.inj hf
    exact ret (fun _ => 0) H _ ls _ hP hD hS dX7_tryThree_174
  have hB73 : ∀ (k22 : Int32 → Int32 → Int32 → Int32 → (Nat → Int32) → Option ((Nat → Int32))) (hk22 : ∀ (l4 : Int32) (l5 : Int32) (l6 : Int32) (l7 : Int32) (f_best : Nat → Int32)  (H : Heap) (locs : List Loc) (ls : Array Slot), va_P X.1 vwCl [(a_this, .inr (7, [.ref a_fight, .ref a_shown, .ref a_watchers, .ref a_best])), (a_best, .inl (X.2.1 0, 5, .inl f_best)), (a_shown, .inl (X.2.1 0, 12, .inl f_shown)), (a_watchers, .inl (X.2.1 0, 12, .inl f_watchers))] H → va_S A s.heap H locs → lv_has ls 9 [(0, .ref a_this), (1, .int x0), (2, .int x1), (3, .int x2), (4, .int l4), (5, .int l5), (6, .int l6), (7, .int l7)] → k22 l4 l5 l6 l7 f_best = some o → W p l e rmX7_tryThree s m ([.ref a_this, .int x0, .int x1, .int x2] : List Value).toArray below meth c H locs 0 0 Q (F0 m 22 ls [])) (l4 : Int32) (l6 : Int32) (l7 : Int32) (l8 : Int32) (s0 : Int32) (s1 : Int32) (f_best : Nat → Int32)  (H : Heap) (locs : List Loc) (ls : Array Slot), va_P X.1 vwCl [(a_this, .inr (7, [.ref a_fight, .ref a_shown, .ref a_watchers, .ref a_best])), (a_best, .inl (X.2.1 0, 5, .inl f_best)), (a_shown, .inl (X.2.1 0, 12, .inl f_shown)), (a_watchers, .inl (X.2.1 0, 12, .inl f_watchers))] H → va_S A s.heap H locs → lv_has ls 9 [(0, .ref a_this), (1, .int x0), (2, .int x1), (3, .int x2), (4, .int l4), (6, .int l6), (7, .int l7), (8, .int l8)] → mX7_tryThree_B73 x0 x1 x2 f_shown f_watchers k22 l4 l6 l7 l8 s0 s1 f_best = some o → W p l e rmX7_tryThree s m ([.ref a_this, .int x0, .int x1, .int x2] : List Value).toArray below meth c H locs 0 0 Q (F0 m 73 ls [.int s1, .int s0]) := by
    intro k22 hk22 l4 l6 l7 l8 s0 s1 f_best  H locs ls hP hS hl hf
    unfold mX7_tryThree_B73 at hf
    refine lv_iadd hx hb dX7_tryThree_73 ?_
    refine lv_topi (fun v_19 ev_19 => ?_)
    have hf := lb_s hf ev_19
    refine lv_istore (lv' := [(5, .int v_19), (0, .ref a_this), (1, .int x0), (2, .int x1), (3, .int x2), (4, .int l4), (6, .int l6), (7, .int l7), (8, .int l8)]) hx hb dX7_tryThree_74 hl (by decide) rfl (fun ls hl => ?_)
    refine lv_iload hx hb dX7_tryThree_76 (lv_at hl 6 rfl) ?_
    refine lv_iload hx hb dX7_tryThree_78 (lv_at hl 8 rfl) ?_
    refine lv_iconst (v := (1 : Int32)) hx hb dX7_tryThree_80 (by decide) ?_
    refine lv_icmp_ge (tgt := 94) hx hb dX7_tryThree_81 (by decide) (fun c_20 => ?_) (fun c_20 => ?_)
    · have hf := xt hf c_20
      refine lv_iconst (v := (0 : Int32)) hx hb dX7_tryThree_94 (by decide) ?_
      refine lv_iadd hx hb dX7_tryThree_95 ?_
      refine lv_topi (fun v_21 ev_21 => ?_)
      have hf := lb_s hf ev_21
      refine lv_istore (lv' := [(6, .int v_21), (5, .int v_19), (0, .ref a_this), (1, .int x0), (2, .int x1), (3, .int x2), (4, .int l4), (7, .int l7), (8, .int l8)]) hx hb dX7_tryThree_96 hl (by decide) rfl (fun ls hl => ?_)
      obtain ⟨v_22, ev_22, hf⟩ := lb_g hf
      refine lv_iinc (v := v_22) (lv' := [(7, .int v_22), (6, .int v_21), (5, .int v_19), (0, .ref a_this), (1, .int x0), (2, .int x1), (3, .int x2), (4, .int l4), (8, .int l8)]) hx hb dX7_tryThree_98 hl (k := 7) rfl ev_22.symm (by decide) rfl (fun ls hl => ?_)
      refine lv_goto (tgt := 22) hx hb dX7_tryThree_101 (by decide) ?_
      exact hk22 l4 v_19 v_21 v_22 f_best  H _ ls hP  hS (lv_sub hl [3, 4, 5, 6, 7, 2, 1, 0] rfl) hf
    · have hf := xf hf c_20
      refine lv_aload_n hx hb dX7_tryThree_84 rfl (lv_at hl 1 rfl) ?_
      refine va_get (D := X.1) (ci := 7) (v := .ref a_shown) (C := RX7) (T := TX7) (N := 4) hx hb hts in7 hown hG.1 hP 0 rfl rfl 1 (by decide) w1 (fun _ h9 => h9) rfl dX7_tryThree_85 ?_
      refine lv_iload hx hb dX7_tryThree_88 (lv_at hl 7 rfl) ?_
      obtain ⟨h_23, hf⟩ := gi_s hf
      refine va_iald (D := X.1) hx hb hG.1 hP 2 0 rfl rfl h_23 dX7_tryThree_90 ?_
      refine lv_goto (tgt := 95) hx hb dX7_tryThree_91 (by decide) ?_
      refine lv_iadd hx hb dX7_tryThree_95 ?_
      refine lv_topi (fun v_24 ev_24 => ?_)
      have hf := lb_s hf ev_24
      refine lv_istore (lv' := [(6, .int v_24), (5, .int v_19), (0, .ref a_this), (1, .int x0), (2, .int x1), (3, .int x2), (4, .int l4), (7, .int l7), (8, .int l8)]) hx hb dX7_tryThree_96 hl (by decide) rfl (fun ls hl => ?_)
      obtain ⟨v_25, ev_25, hf⟩ := lb_g hf
      refine lv_iinc (v := v_25) (lv' := [(7, .int v_25), (6, .int v_24), (5, .int v_19), (0, .ref a_this), (1, .int x0), (2, .int x1), (3, .int x2), (4, .int l4), (8, .int l8)]) hx hb dX7_tryThree_98 hl (k := 7) rfl ev_25.symm (by decide) rfl (fun ls hl => ?_)
      refine lv_goto (tgt := 22) hx hb dX7_tryThree_101 (by decide) ?_
      exact hk22 l4 v_19 v_24 v_25 f_best  H _ ls hP  hS (lv_sub hl [3, 4, 5, 6, 7, 2, 1, 0] rfl) hf
  have hL22 : ∀ (n : Nat) (l4 : Int32) (l5 : Int32) (l6 : Int32) (l7 : Int32) (f_best : Nat → Int32)  (H : Heap) (locs : List Loc) (ls : Array Slot), va_P X.1 vwCl [(a_this, .inr (7, [.ref a_fight, .ref a_shown, .ref a_watchers, .ref a_best])), (a_best, .inl (X.2.1 0, 5, .inl f_best)), (a_shown, .inl (X.2.1 0, 12, .inl f_shown)), (a_watchers, .inl (X.2.1 0, 12, .inl f_watchers))] H → va_S A s.heap H locs → lv_has ls 9 [(0, .ref a_this), (1, .int x0), (2, .int x1), (3, .int x2), (4, .int l4), (5, .int l5), (6, .int l6), (7, .int l7)] → mX7_tryThree_L22 x0 x1 x2 f_shown f_watchers  n l4 l5 l6 l7 f_best = some o → W p l e rmX7_tryThree s m ([.ref a_this, .int x0, .int x1, .int x2] : List Value).toArray below meth c H locs 0 0 Q (F0 m 22 ls []) := by
    intro n
    induction n with
    | zero => intro l4 l5 l6 l7 f_best  H locs ls hP hS hl hf; exact xn hf
    | succ n ih =>
      intro l4 l5 l6 l7 f_best  H locs ls hP hS hl hf
      have hf : mX7_tryThree_B22 x0 x1 x2 f_shown f_watchers  (mX7_tryThree_L22 x0 x1 x2 f_shown f_watchers  n) l4 l5 l6 l7 f_best = some o := hf
      generalize mX7_tryThree_L22 x0 x1 x2 f_shown f_watchers  n = k22 at ih hf
      unfold mX7_tryThree_B22 at hf
      refine lv_iload hx hb dX7_tryThree_22 (lv_at hl 7 rfl) ?_
      refine lv_bipush (v := (12 : Int32)) hx hb dX7_tryThree_24 (by decide) ?_
      refine lv_icmp_ge (tgt := 104) hx hb dX7_tryThree_26 (by decide) (fun c_2 => ?_) (fun c_2 => ?_)
      · have hf := xt hf c_2
        refine lv_iload hx hb dX7_tryThree_104 (lv_at hl 5 rfl) ?_
        refine lv_aload_n hx hb dX7_tryThree_106 rfl (lv_at hl 0 rfl) ?_
        refine va_get (D := X.1) (ci := 7) (v := .ref a_best) (C := RX7) (T := TX7) (N := 4) hx hb hts in7 hown hG.1 hP 0 rfl rfl 3 (by decide) w3 (fun _ h9 => h9) rfl dX7_tryThree_107 ?_
        refine lv_iconst (v := (3 : Int32)) hx hb dX7_tryThree_110 (by decide) ?_
        refine va_iald (D := X.1) hx hb hG.1 hP 1 0 rfl rfl (vp_lit (by decide)) dX7_tryThree_111 ?_
        refine lv_icmp_lt (tgt := 137) hx hb dX7_tryThree_112 (by decide) (fun c_3 => ?_) (fun c_3 => ?_)
        · have hf := xt hf c_3
          exact hB137  l5 l6 f_best  H _ ls hP  hS (lv_sub hl [0, 1, 2, 3, 5, 6] rfl) hf
        · have hf := xf hf c_3
          refine lv_iload hx hb dX7_tryThree_115 (lv_at hl 5 rfl) ?_
          refine lv_aload_n hx hb dX7_tryThree_117 rfl (lv_at hl 0 rfl) ?_
          refine va_get (D := X.1) (ci := 7) (v := .ref a_best) (C := RX7) (T := TX7) (N := 4) hx hb hts in7 hown hG.1 hP 0 rfl rfl 3 (by decide) w3 (fun _ h9 => h9) rfl dX7_tryThree_118 ?_
          refine lv_iconst (v := (3 : Int32)) hx hb dX7_tryThree_121 (by decide) ?_
          refine va_iald (D := X.1) hx hb hG.1 hP 1 0 rfl rfl (vp_lit (by decide)) dX7_tryThree_122 ?_
          refine lv_icmp_ne (tgt := 174) hx hb dX7_tryThree_123 (by decide) (fun c_4 => ?_) (fun c_4 => ?_)
          · have hf := xf hf c_4
            obtain rfl := Option.some.inj hf
            exact ret (fun _ => 0) H _ ls _ hP hD hS dX7_tryThree_174
          · have hf := xt hf c_4
            refine lv_iload hx hb dX7_tryThree_126 (lv_at hl 6 rfl) ?_
            refine lv_aload_n hx hb dX7_tryThree_128 rfl (lv_at hl 0 rfl) ?_
            refine va_get (D := X.1) (ci := 7) (v := .ref a_best) (C := RX7) (T := TX7) (N := 4) hx hb hts in7 hown hG.1 hP 0 rfl rfl 3 (by decide) w3 (fun _ h9 => h9) rfl dX7_tryThree_129 ?_
            refine lv_iconst (v := (4 : Int32)) hx hb dX7_tryThree_132 (by decide) ?_
            refine va_iald (D := X.1) hx hb hG.1 hP 1 0 rfl rfl (vp_lit (by decide)) dX7_tryThree_133 ?_
            refine lv_icmp_ge (tgt := 174) hx hb dX7_tryThree_134 (by decide) (fun c_5 => ?_) (fun c_5 => ?_)
            · have hf := xt hf c_5
              obtain rfl := Option.some.inj hf
              exact ret (fun _ => 0) H _ ls _ hP hD hS dX7_tryThree_174
            · have hf := xf hf c_5
              exact hB137  l5 l6 f_best  H _ ls hP  hS (lv_sub hl [0, 1, 2, 3, 5, 6] rfl) hf
      · have hf := xf hf c_2
        refine lv_aload_n hx hb dX7_tryThree_29 rfl (lv_at hl 0 rfl) ?_
        refine va_get (D := X.1) (ci := 7) (v := .ref a_shown) (C := RX7) (T := TX7) (N := 4) hx hb hts in7 hown hG.1 hP 0 rfl rfl 1 (by decide) w1 (fun _ h9 => h9) rfl dX7_tryThree_30 ?_
        refine lv_iload hx hb dX7_tryThree_33 (lv_at hl 7 rfl) ?_
        obtain ⟨h_6, hf⟩ := gi_s hf
        refine va_iald (D := X.1) hx hb hG.1 hP 2 0 rfl rfl h_6 dX7_tryThree_35 ?_
        refine lv_if_le (tgt := 98) hx hb dX7_tryThree_36 (by decide) (fun c_7 => ?_) (fun c_7 => ?_)
        · have hf := xt hf c_7
          obtain ⟨v_8, ev_8, hf⟩ := lb_g hf
          refine lv_iinc (v := v_8) (lv' := [(7, .int v_8), (0, .ref a_this), (1, .int x0), (2, .int x1), (3, .int x2), (4, .int l4), (5, .int l5), (6, .int l6)]) hx hb dX7_tryThree_98 hl (k := 7) rfl ev_8.symm (by decide) rfl (fun ls hl => ?_)
          refine lv_goto (tgt := 22) hx hb dX7_tryThree_101 (by decide) ?_
          exact ih l4 l5 l6 v_8 f_best  H _ ls hP  hS (lv_sub hl [1, 2, 3, 4, 5, 6, 7, 0] rfl) hf
        · have hf := xf hf c_7
          refine lv_iload hx hb dX7_tryThree_39 (lv_at hl 4 rfl) ?_
          refine lv_aload_n hx hb dX7_tryThree_41 rfl (lv_at hl 0 rfl) ?_
          refine va_get (D := X.1) (ci := 7) (v := .ref a_watchers) (C := RX7) (T := TX7) (N := 4) hx hb hts in7 hown hG.1 hP 0 rfl rfl 2 (by decide) w2 (fun _ h9 => h9) rfl dX7_tryThree_42 ?_
          refine lv_iload hx hb dX7_tryThree_45 (lv_at hl 7 rfl) ?_
          obtain ⟨h_9, hf⟩ := gi_s hf
          refine va_iald (D := X.1) hx hb hG.1 hP 3 0 rfl rfl h_9 dX7_tryThree_47 ?_
          refine lv_iand hx hb dX7_tryThree_48 ?_
          obtain ⟨o_10, ho_10, hf⟩ := ob_s hf
          refine xS_i (As := [.int (l4 &&& (f_watchers l7.toNatClampNeg))]) (rest := []) (ws2 := [(a_this, .inr (7, [.ref a_fight, .ref a_shown, .ref a_watchers, .ref a_best])), (a_best, .inl (X.2.1 0, 5, .inl f_best)), (a_shown, .inl (X.2.1 0, 12, .inl f_shown)), (a_watchers, .inl (X.2.1 0, 12, .inl f_watchers))]) hx hb hml hts hown hG hA hP hD rfl hS hl.1 (qJ6_bitCount_0f7a4 l X (l4 &&& (f_watchers l7.toNatClampNeg)) o_10 ho_10) (va_cwS (y := yJ6_bitCount_0f7a4) 1 hts gX7_tryThree_J6_bitCount_0f7a4 rfl rfl rfl hdsJ6_bitCount_0f7a4 ⟨Nat.le_of_ble_eq_true rfl, Nat.le_of_ble_eq_true rfl⟩) [] [0, 1, 2, 3] [0, 1, 2, 3] rfl rfl rfl rfl rfl rfl rfl rfl rfl (Nat.le_of_ble_eq_true rfl) ⟨Nat.le_of_ble_eq_true rfl, Nat.le_of_ble_eq_true rfl⟩ dX7_tryThree_49 (fun H locs hP _ hS => ?_)
          refine lv_istore (lv' := [(8, .int o_10), (0, .ref a_this), (1, .int x0), (2, .int x1), (3, .int x2), (4, .int l4), (5, .int l5), (6, .int l6), (7, .int l7)]) hx hb dX7_tryThree_52 hl (by decide) rfl (fun ls hl => ?_)
          refine lv_iload hx hb dX7_tryThree_54 (lv_at hl 6 rfl) ?_
          refine lv_iload hx hb dX7_tryThree_56 (lv_at hl 0 rfl) ?_
          refine lv_iconst (v := (2 : Int32)) hx hb dX7_tryThree_58 (by decide) ?_
          refine lv_icmp_ge (tgt := 72) hx hb dX7_tryThree_59 (by decide) (fun c_12 => ?_) (fun c_12 => ?_)
          · have hf := xt hf c_12
            refine lv_iconst (v := (0 : Int32)) hx hb dX7_tryThree_72 (by decide) ?_
            exact hB73 k22 ih l4 l6 l7 o_10 l5 (0 : Int32) f_best  H _ ls hP  hS (lv_sub hl [1, 2, 3, 4, 5, 7, 8, 0] rfl) hf
          · have hf := xf hf c_12
            refine lv_aload_n hx hb dX7_tryThree_62 rfl (lv_at hl 1 rfl) ?_
            refine va_get (D := X.1) (ci := 7) (v := .ref a_shown) (C := RX7) (T := TX7) (N := 4) hx hb hts in7 hown hG.1 hP 0 rfl rfl 1 (by decide) w1 (fun _ h9 => h9) rfl dX7_tryThree_63 ?_
            refine lv_iload hx hb dX7_tryThree_66 (lv_at hl 8 rfl) ?_
            obtain ⟨h_13, hf⟩ := gi_s hf
            refine va_iald (D := X.1) hx hb hG.1 hP 2 0 rfl rfl h_13 dX7_tryThree_68 ?_
            refine lv_goto (tgt := 73) hx hb dX7_tryThree_69 (by decide) ?_
            exact hB73 k22 ih l4 l6 l7 o_10 l5 (f_shown l7.toNatClampNeg) f_best  H _ ls hP  hS (lv_sub hl [1, 2, 3, 4, 5, 7, 8, 0] rfl) hf
  unfold mX7_tryThree at hf
  refine lv_iconst (v := (1 : Int32)) hx hb dX7_tryThree_0 (by decide) ?_
  refine lv_iload_n hx hb dX7_tryThree_1 rfl (lv_at hl 1 rfl) ?_
  refine lv_ishl hx hb dX7_tryThree_2 ?_
  refine lv_iconst (v := (1 : Int32)) hx hb dX7_tryThree_3 (by decide) ?_
  refine lv_iload_n hx hb dX7_tryThree_4 rfl (lv_at hl 2 rfl) ?_
  refine lv_ishl hx hb dX7_tryThree_5 ?_
  refine lv_ior hx hb dX7_tryThree_6 ?_
  refine lv_iconst (v := (1 : Int32)) hx hb dX7_tryThree_7 (by decide) ?_
  refine lv_iload_n hx hb dX7_tryThree_8 rfl (lv_at hl 3 rfl) ?_
  refine lv_ishl hx hb dX7_tryThree_9 ?_
  refine lv_ior hx hb dX7_tryThree_10 ?_
  refine lv_topi (fun v_1 ev_1 => ?_)
  have hf := lb_s hf ev_1
  refine lv_istore (lv' := [(4, .int v_1), (0, .ref a_this), (1, .int x0), (2, .int x1), (3, .int x2)]) hx hb dX7_tryThree_11 hl (by decide) rfl (fun ls hl => ?_)
  refine lv_iconst (v := (0 : Int32)) hx hb dX7_tryThree_13 (by decide) ?_
  refine lv_istore (lv' := [(5, .int (0 : Int32)), (4, .int v_1), (0, .ref a_this), (1, .int x0), (2, .int x1), (3, .int x2)]) hx hb dX7_tryThree_14 hl (by decide) rfl (fun ls hl => ?_)
  refine lv_iconst (v := (0 : Int32)) hx hb dX7_tryThree_16 (by decide) ?_
  refine lv_istore (lv' := [(6, .int (0 : Int32)), (5, .int (0 : Int32)), (4, .int v_1), (0, .ref a_this), (1, .int x0), (2, .int x1), (3, .int x2)]) hx hb dX7_tryThree_17 hl (by decide) rfl (fun ls hl => ?_)
  refine lv_iconst (v := (0 : Int32)) hx hb dX7_tryThree_19 (by decide) ?_
  refine lv_istore (lv' := [(7, .int (0 : Int32)), (6, .int (0 : Int32)), (5, .int (0 : Int32)), (4, .int v_1), (0, .ref a_this), (1, .int x0), (2, .int x1), (3, .int x2)]) hx hb dX7_tryThree_20 hl (by decide) rfl (fun ls hl => ?_)
  exact hL22  FUEL v_1 (0 : Int32) (0 : Int32) (0 : Int32) f_best  H _ ls hP  hS (lv_sub hl [4, 5, 6, 7, 3, 2, 1, 0] rfl) hf
def mX7_choose_B34 (i_fight_rounds : Int32) (i_fight_blowCount : Int32) (f_watchers : Nat → Int32) (f_fight_blows : Nat → Int32) (k14 : Int32 → (Nat → Int32) → (Nat → Int32) → Option ((Nat → Int32) × (Nat → Int32))) (k24 : Int32 → Int32 → (Nat → Int32) → (Nat → Int32) → Option ((Nat → Int32) × (Nat → Int32))) (k34 : Int32 → Int32 → Int32 → (Nat → Int32) → (Nat → Int32) → Option ((Nat → Int32) × (Nat → Int32))) (l1 : Int32) (l2 : Int32) (l3 : Int32) (f_shown : Nat → Int32) (f_best : Nat → Int32) :
  Option ((Nat → Int32) × (Nat → Int32)) :=
  if (12 : Int32) ≤ l3 then (lb (l2 + (1 : Int32)) fun v_10 =>
  k24 l1 v_10 f_shown f_best) else ((mX7_tryThree l1 l2 l3 f_best f_shown f_watchers).bind fun o_11 =>
  lb (l3 + (1 : Int32)) fun v_13 =>
  k34 l1 l2 v_13 f_shown o_11)
def mX7_choose_L34 (i_fight_rounds : Int32) (i_fight_blowCount : Int32) (f_watchers : Nat → Int32) (f_fight_blows : Nat → Int32) (k14 : Int32 → (Nat → Int32) → (Nat → Int32) → Option ((Nat → Int32) × (Nat → Int32))) (k24 : Int32 → Int32 → (Nat → Int32) → (Nat → Int32) → Option ((Nat → Int32) × (Nat → Int32))) (n : Nat) (l1 : Int32) (l2 : Int32) (l3 : Int32) (f_shown : Nat → Int32) (f_best : Nat → Int32) :
  Option ((Nat → Int32) × (Nat → Int32)) :=
  loopN (fun k (s : Int32 × Int32 × Int32 × (Nat → Int32) × (Nat → Int32)) => mX7_choose_B34 i_fight_rounds i_fight_blowCount f_watchers f_fight_blows k14 k24 (fun l1 l2 l3 f_shown f_best => k (l1, l2, l3, f_shown, f_best)) s.1 s.2.1 s.2.2.1 s.2.2.2.1 s.2.2.2.2) n (l1, l2, l3, f_shown, f_best)
def mX7_choose_B24 (i_fight_rounds : Int32) (i_fight_blowCount : Int32) (f_watchers : Nat → Int32) (f_fight_blows : Nat → Int32) (k14 : Int32 → (Nat → Int32) → (Nat → Int32) → Option ((Nat → Int32) × (Nat → Int32))) (k24 : Int32 → Int32 → (Nat → Int32) → (Nat → Int32) → Option ((Nat → Int32) × (Nat → Int32))) (l1 : Int32) (l2 : Int32) (f_shown : Nat → Int32) (f_best : Nat → Int32) :
  Option ((Nat → Int32) × (Nat → Int32)) :=
  if (12 : Int32) ≤ l2 then (lb (l1 + (1 : Int32)) fun v_7 =>
  k14 v_7 f_shown f_best) else (lb (l2 + (1 : Int32)) fun v_8 =>
  mX7_choose_L34 i_fight_rounds i_fight_blowCount f_watchers f_fight_blows k14 k24 FUEL l1 l2 v_8 f_shown f_best)
def mX7_choose_L24 (i_fight_rounds : Int32) (i_fight_blowCount : Int32) (f_watchers : Nat → Int32) (f_fight_blows : Nat → Int32) (k14 : Int32 → (Nat → Int32) → (Nat → Int32) → Option ((Nat → Int32) × (Nat → Int32))) (n : Nat) (l1 : Int32) (l2 : Int32) (f_shown : Nat → Int32) (f_best : Nat → Int32) :
  Option ((Nat → Int32) × (Nat → Int32)) :=
  loopN (fun k (s : Int32 × Int32 × (Nat → Int32) × (Nat → Int32)) => mX7_choose_B24 i_fight_rounds i_fight_blowCount f_watchers f_fight_blows k14 (fun l1 l2 f_shown f_best => k (l1, l2, f_shown, f_best)) s.1 s.2.1 s.2.2.1 s.2.2.2) n (l1, l2, f_shown, f_best)
def mX7_choose_B14 (i_fight_rounds : Int32) (i_fight_blowCount : Int32) (f_watchers : Nat → Int32) (f_fight_blows : Nat → Int32) (k14 : Int32 → (Nat → Int32) → (Nat → Int32) → Option ((Nat → Int32) × (Nat → Int32))) (l1 : Int32) (f_shown : Nat → Int32) (f_best : Nat → Int32) :
  Option ((Nat → Int32) × (Nat → Int32)) :=
  if (12 : Int32) ≤ l1 then (some (f_shown, f_best)) else (lb (l1 + (1 : Int32)) fun v_5 =>
  mX7_choose_L24 i_fight_rounds i_fight_blowCount f_watchers f_fight_blows k14 FUEL l1 v_5 f_shown f_best)
def mX7_choose_L14 (i_fight_rounds : Int32) (i_fight_blowCount : Int32) (f_watchers : Nat → Int32) (f_fight_blows : Nat → Int32) (n : Nat) (l1 : Int32) (f_shown : Nat → Int32) (f_best : Nat → Int32) :
  Option ((Nat → Int32) × (Nat → Int32)) :=
  loopN (fun k (s : Int32 × (Nat → Int32) × (Nat → Int32)) => mX7_choose_B14 i_fight_rounds i_fight_blowCount f_watchers f_fight_blows  (fun l1 f_shown f_best => k (l1, f_shown, f_best)) s.1 s.2.1 s.2.2) n (l1, f_shown, f_best)
def mX7_choose (f_best : Nat → Int32) (i_fight_rounds : Int32) (i_fight_blowCount : Int32) (f_shown : Nat → Int32) (f_watchers : Nat → Int32) (f_fight_blows : Nat → Int32) :
  Option ((Nat → Int32) × (Nat → Int32)) :=
  (mX7_countShown i_fight_rounds i_fight_blowCount f_shown f_fight_blows).bind fun o_1 =>
  lb (upd f_best (3 : Int32).toNatClampNeg (41 : Int32)) fun g_3 =>
  mX7_choose_L14 i_fight_rounds i_fight_blowCount f_watchers f_fight_blows  FUEL (0 : Int32) o_1 g_3
theorem hdsX7_choose : yX7_choose.cls ≠ "java/lang/invoke/MethodHandle" ∧ yX7_choose.cls ≠ "java/lang/invoke/VarHandle" ∧ (parseMethodDescriptor yX7_choose.desc).map (fun d => d.parameters.length) = some 0 := by decide +kernel
theorem hdvX7_choose : yX7_choose.cls = RX7 ∧ yX7_choose.cls ≠ "java/lang/invoke/MethodHandle" ∧ yX7_choose.cls ≠ "java/lang/invoke/VarHandle" ∧ (parseMethodDescriptor yX7_choose.desc).map (fun d => d.parameters.length) = some 0 := by decide +kernel
abbrev rmX7_choose : Room := { frames := 3, cells := 0, slots := 0, locals := 64 }
set_option maxHeartbeats 4000000 in
set_option maxRecDepth 100000 in
theorem qX7_choose (l : Launch) (X : XT) (a_this : Nat) (a_best : Nat) (a_fight : Nat) (a_shown : Nat) (a_watchers : Nat) (a_fight_blows : Nat) (a_fight_judges : Nat) (a_fight_forward : Nat) (a_fight_downs : Nat) (a_fight_taken : Nat) (a_fight_seenBy : Nat) (a_fight_sums : Nat) (a_fight_leads : Nat)  (f_best : Nat → Int32) (i_fight_rounds : Int32) (i_fight_home : Int32) (i_fight_noise : Int32) (i_fight_blowCount : Int32) (i_fight_judgeCount : Int32) (f_shown : Nat → Int32) (f_watchers : Nat → Int32) (f_fight_blows : Nat → Int32)  (o : (Nat → Int32) × (Nat → Int32)) (hf : mX7_choose f_best i_fight_rounds i_fight_blowCount f_shown f_watchers f_fight_blows = some o) :
    MC l yX7_choose wsX7_choose rmX7_choose X [.ref a_this] [(a_this, .inr (7, [.ref a_fight, .ref a_shown, .ref a_watchers, .ref a_best])), (a_best, .inl (X.2.1 0, 5, .inl f_best)), (a_fight, .inr (3, [.int i_fight_rounds, .int i_fight_home, .int i_fight_noise, .int i_fight_blowCount, .int i_fight_judgeCount, .ref a_fight_blows, .ref a_fight_judges, .ref a_fight_forward, .ref a_fight_downs, .ref a_fight_taken, .ref a_fight_seenBy, .ref a_fight_sums, .ref a_fight_leads])), (a_shown, .inl (X.2.1 0, 12, .inl f_shown)), (a_watchers, .inl (X.2.1 0, 12, .inl f_watchers)), (a_fight_blows, .inl (X.2.1 0, 200, .inl f_fight_blows))]  (fun _ => [(a_this, .inr (7, [.ref a_fight, .ref a_shown, .ref a_watchers, .ref a_best])), (a_best, .inl (X.2.1 0, 5, .inl o.2)), (a_fight, .inr (3, [.int i_fight_rounds, .int i_fight_home, .int i_fight_noise, .int i_fight_blowCount, .int i_fight_judgeCount, .ref a_fight_blows, .ref a_fight_judges, .ref a_fight_forward, .ref a_fight_downs, .ref a_fight_taken, .ref a_fight_seenBy, .ref a_fight_sums, .ref a_fight_leads])), (a_shown, .inl (X.2.1 0, 12, .inl o.1)), (a_watchers, .inl (X.2.1 0, 12, .inl f_watchers)), (a_fight_blows, .inl (X.2.1 0, 200, .inl f_fight_blows))]) 0 0 := by
  refine MC_ofH (cc := cX7_choose) (maxL := 4) (by decide) rfl (Nat.le_of_ble_eq_true rfl) ?_
  intro p e s m below meth c A Q H ls hx hb hml hts hown hin hA hD hG hP hS hl ret
  have hown : s.vm.findClass RX7 = some m.cls := hown
  have hD : aD A [a_this, a_best, a_fight, a_shown, a_watchers, a_fight_blows] := hD
  have hl : lv_has ls 4 [(0, .ref a_this)] := hl
  have w1 := hts (Cond.fieldLink RX7 18 "ThreeCards$Seats" "best" "[I") (List.mem_of_getElem? (i := 1) rfl)
  have in7 : ∀ w ∈ u_ws RX7 TX7 4, w ∈ wsX7_choose := by decide +kernel
  have hL34 : ∀ (k14 : Int32 → (Nat → Int32) → (Nat → Int32) → Option ((Nat → Int32) × (Nat → Int32))) (hk14 : ∀ (l1 : Int32) (f_shown : Nat → Int32) (f_best : Nat → Int32)  (H : Heap) (locs : List Loc) (ls : Array Slot), va_P X.1 vwCl [(a_this, .inr (7, [.ref a_fight, .ref a_shown, .ref a_watchers, .ref a_best])), (a_best, .inl (X.2.1 0, 5, .inl f_best)), (a_fight, .inr (3, [.int i_fight_rounds, .int i_fight_home, .int i_fight_noise, .int i_fight_blowCount, .int i_fight_judgeCount, .ref a_fight_blows, .ref a_fight_judges, .ref a_fight_forward, .ref a_fight_downs, .ref a_fight_taken, .ref a_fight_seenBy, .ref a_fight_sums, .ref a_fight_leads])), (a_shown, .inl (X.2.1 0, 12, .inl f_shown)), (a_watchers, .inl (X.2.1 0, 12, .inl f_watchers)), (a_fight_blows, .inl (X.2.1 0, 200, .inl f_fight_blows))] H → va_S A s.heap H locs → lv_has ls 4 [(0, .ref a_this), (1, .int l1)] → k14 l1 f_shown f_best = some o → W p l e rmX7_choose s m ([.ref a_this] : List Value).toArray below meth c H locs 0 0 Q (F0 m 14 ls [])) (k24 : Int32 → Int32 → (Nat → Int32) → (Nat → Int32) → Option ((Nat → Int32) × (Nat → Int32))) (hk24 : ∀ (l1 : Int32) (l2 : Int32) (f_shown : Nat → Int32) (f_best : Nat → Int32)  (H : Heap) (locs : List Loc) (ls : Array Slot), va_P X.1 vwCl [(a_this, .inr (7, [.ref a_fight, .ref a_shown, .ref a_watchers, .ref a_best])), (a_best, .inl (X.2.1 0, 5, .inl f_best)), (a_fight, .inr (3, [.int i_fight_rounds, .int i_fight_home, .int i_fight_noise, .int i_fight_blowCount, .int i_fight_judgeCount, .ref a_fight_blows, .ref a_fight_judges, .ref a_fight_forward, .ref a_fight_downs, .ref a_fight_taken, .ref a_fight_seenBy, .ref a_fight_sums, .ref a_fight_leads])), (a_shown, .inl (X.2.1 0, 12, .inl f_shown)), (a_watchers, .inl (X.2.1 0, 12, .inl f_watchers)), (a_fight_blows, .inl (X.2.1 0, 200, .inl f_fight_blows))] H → va_S A s.heap H locs → lv_has ls 4 [(0, .ref a_this), (1, .int l1), (2, .int l2)] → k24 l1 l2 f_shown f_best = some o → W p l e rmX7_choose s m ([.ref a_this] : List Value).toArray below meth c H locs 0 0 Q (F0 m 24 ls [])) (n : Nat) (l1 : Int32) (l2 : Int32) (l3 : Int32) (f_shown : Nat → Int32) (f_best : Nat → Int32)  (H : Heap) (locs : List Loc) (ls : Array Slot), va_P X.1 vwCl [(a_this, .inr (7, [.ref a_fight, .ref a_shown, .ref a_watchers, .ref a_best])), (a_best, .inl (X.2.1 0, 5, .inl f_best)), (a_fight, .inr (3, [.int i_fight_rounds, .int i_fight_home, .int i_fight_noise, .int i_fight_blowCount, .int i_fight_judgeCount, .ref a_fight_blows, .ref a_fight_judges, .ref a_fight_forward, .ref a_fight_downs, .ref a_fight_taken, .ref a_fight_seenBy, .ref a_fight_sums, .ref a_fight_leads])), (a_shown, .inl (X.2.1 0, 12, .inl f_shown)), (a_watchers, .inl (X.2.1 0, 12, .inl f_watchers)), (a_fight_blows, .inl (X.2.1 0, 200, .inl f_fight_blows))] H → va_S A s.heap H locs → lv_has ls 4 [(0, .ref a_this), (1, .int l1), (2, .int l2), (3, .int l3)] → mX7_choose_L34 i_fight_rounds i_fight_blowCount f_watchers f_fight_blows k14 k24 n l1 l2 l3 f_shown f_best = some o → W p l e rmX7_choose s m ([.ref a_this] : List Value).toArray below meth c H locs 0 0 Q (F0 m 34 ls []) := by
    intro k14 hk14 k24 hk24 n
    induction n with
    | zero => intro l1 l2 l3 f_shown f_best  H locs ls hP hS hl hf; exact xn hf
    | succ n ih =>
      intro l1 l2 l3 f_shown f_best  H locs ls hP hS hl hf
      have hf : mX7_choose_B34 i_fight_rounds i_fight_blowCount f_watchers f_fight_blows k14 k24 (mX7_choose_L34 i_fight_rounds i_fight_blowCount f_watchers f_fight_blows k14 k24 n) l1 l2 l3 f_shown f_best = some o := hf
      generalize mX7_choose_L34 i_fight_rounds i_fight_blowCount f_watchers f_fight_blows k14 k24 n = k34 at ih hf
      unfold mX7_choose_B34 at hf
      refine lv_iload_n hx hb dX7_choose_34 rfl (lv_at hl 3 rfl) ?_
      refine lv_bipush (v := (12 : Int32)) hx hb dX7_choose_35 (by decide) ?_
      refine lv_icmp_ge (tgt := 53) hx hb dX7_choose_37 (by decide) (fun c_9 => ?_) (fun c_9 => ?_)
      · have hf := xt hf c_9
        obtain ⟨v_10, ev_10, hf⟩ := lb_g hf
        refine lv_iinc (v := v_10) (lv' := [(2, .int v_10), (0, .ref a_this), (1, .int l1), (3, .int l3)]) hx hb dX7_choose_53 hl (k := 2) rfl ev_10.symm (by decide) rfl (fun ls hl => ?_)
        refine lv_goto (tgt := 24) hx hb dX7_choose_56 (by decide) ?_
        exact hk24 l1 v_10 f_shown f_best  H _ ls hP  hS (lv_sub hl [1, 2, 0] rfl) hf
      · have hf := xf hf c_9
        refine lv_aload_n hx hb dX7_choose_40 rfl (lv_at hl 0 rfl) ?_
        refine lv_iload_n hx hb dX7_choose_41 rfl (lv_at hl 1 rfl) ?_
        refine lv_iload_n hx hb dX7_choose_42 rfl (lv_at hl 2 rfl) ?_
        refine lv_iload_n hx hb dX7_choose_43 rfl (lv_at hl 3 rfl) ?_
        obtain ⟨o_11, ho_11, hf⟩ := ob_s hf
        refine xV_v (As := [.int l1, .int l2, .int l3]) (b := a_this) (rest := []) (ws2 := fun _ => [(a_this, .inr (7, [.ref a_fight, .ref a_shown, .ref a_watchers, .ref a_best])), (a_best, .inl (X.2.1 0, 5, .inl o_11)), (a_fight, .inr (3, [.int i_fight_rounds, .int i_fight_home, .int i_fight_noise, .int i_fight_blowCount, .int i_fight_judgeCount, .ref a_fight_blows, .ref a_fight_judges, .ref a_fight_forward, .ref a_fight_downs, .ref a_fight_taken, .ref a_fight_seenBy, .ref a_fight_sums, .ref a_fight_leads])), (a_shown, .inl (X.2.1 0, 12, .inl f_shown)), (a_watchers, .inl (X.2.1 0, 12, .inl f_watchers)), (a_fight_blows, .inl (X.2.1 0, 200, .inl f_fight_blows))]) hx hb hml hts hown hG hA hP hD rfl hS hl.1 (qX7_tryThree l X a_this a_best a_shown a_watchers a_fight f_best f_shown f_watchers l1 l2 l3 o_11 ho_11) (cwV (y := yX7_tryThree) 3 hts gX7_choose_X7_tryThree rfl rfl rfl hdvX7_tryThree ⟨Nat.le_of_ble_eq_true rfl, Nat.le_of_ble_eq_true rfl⟩) [0, 1, 3, 4] [2, 5] [2, 3, 0, 4, 5, 1] rfl rfl rfl rfl rfl rfl (fun _ => rfl) (ci := 7) rfl 0 rfl rfl rfl (Nat.le_of_ble_eq_true rfl) ⟨Nat.le_of_ble_eq_true rfl, Nat.le_of_ble_eq_true rfl⟩ dX7_choose_44 (fun u_12 H locs hP _ hS => ?_)
        obtain ⟨v_13, ev_13, hf⟩ := lb_g hf
        refine lv_iinc (v := v_13) (lv' := [(3, .int v_13), (0, .ref a_this), (1, .int l1), (2, .int l2)]) hx hb dX7_choose_47 hl (k := 3) rfl ev_13.symm (by decide) rfl (fun ls hl => ?_)
        refine lv_goto (tgt := 34) hx hb dX7_choose_50 (by decide) ?_
        exact ih l1 l2 v_13 f_shown o_11  H _ ls hP  hS (lv_sub hl [1, 2, 3, 0] rfl) hf
  have hL24 : ∀ (k14 : Int32 → (Nat → Int32) → (Nat → Int32) → Option ((Nat → Int32) × (Nat → Int32))) (hk14 : ∀ (l1 : Int32) (f_shown : Nat → Int32) (f_best : Nat → Int32)  (H : Heap) (locs : List Loc) (ls : Array Slot), va_P X.1 vwCl [(a_this, .inr (7, [.ref a_fight, .ref a_shown, .ref a_watchers, .ref a_best])), (a_best, .inl (X.2.1 0, 5, .inl f_best)), (a_fight, .inr (3, [.int i_fight_rounds, .int i_fight_home, .int i_fight_noise, .int i_fight_blowCount, .int i_fight_judgeCount, .ref a_fight_blows, .ref a_fight_judges, .ref a_fight_forward, .ref a_fight_downs, .ref a_fight_taken, .ref a_fight_seenBy, .ref a_fight_sums, .ref a_fight_leads])), (a_shown, .inl (X.2.1 0, 12, .inl f_shown)), (a_watchers, .inl (X.2.1 0, 12, .inl f_watchers)), (a_fight_blows, .inl (X.2.1 0, 200, .inl f_fight_blows))] H → va_S A s.heap H locs → lv_has ls 4 [(0, .ref a_this), (1, .int l1)] → k14 l1 f_shown f_best = some o → W p l e rmX7_choose s m ([.ref a_this] : List Value).toArray below meth c H locs 0 0 Q (F0 m 14 ls [])) (n : Nat) (l1 : Int32) (l2 : Int32) (f_shown : Nat → Int32) (f_best : Nat → Int32)  (H : Heap) (locs : List Loc) (ls : Array Slot), va_P X.1 vwCl [(a_this, .inr (7, [.ref a_fight, .ref a_shown, .ref a_watchers, .ref a_best])), (a_best, .inl (X.2.1 0, 5, .inl f_best)), (a_fight, .inr (3, [.int i_fight_rounds, .int i_fight_home, .int i_fight_noise, .int i_fight_blowCount, .int i_fight_judgeCount, .ref a_fight_blows, .ref a_fight_judges, .ref a_fight_forward, .ref a_fight_downs, .ref a_fight_taken, .ref a_fight_seenBy, .ref a_fight_sums, .ref a_fight_leads])), (a_shown, .inl (X.2.1 0, 12, .inl f_shown)), (a_watchers, .inl (X.2.1 0, 12, .inl f_watchers)), (a_fight_blows, .inl (X.2.1 0, 200, .inl f_fight_blows))] H → va_S A s.heap H locs → lv_has ls 4 [(0, .ref a_this), (1, .int l1), (2, .int l2)] → mX7_choose_L24 i_fight_rounds i_fight_blowCount f_watchers f_fight_blows k14 n l1 l2 f_shown f_best = some o → W p l e rmX7_choose s m ([.ref a_this] : List Value).toArray below meth c H locs 0 0 Q (F0 m 24 ls []) := by
    intro k14 hk14 n
    induction n with
    | zero => intro l1 l2 f_shown f_best  H locs ls hP hS hl hf; exact xn hf
    | succ n ih =>
      intro l1 l2 f_shown f_best  H locs ls hP hS hl hf
      have hf : mX7_choose_B24 i_fight_rounds i_fight_blowCount f_watchers f_fight_blows k14 (mX7_choose_L24 i_fight_rounds i_fight_blowCount f_watchers f_fight_blows k14 n) l1 l2 f_shown f_best = some o := hf
      generalize mX7_choose_L24 i_fight_rounds i_fight_blowCount f_watchers f_fight_blows k14 n = k24 at ih hf
      unfold mX7_choose_B24 at hf
      refine lv_iload_n hx hb dX7_choose_24 rfl (lv_at hl 2 rfl) ?_
      refine lv_bipush (v := (12 : Int32)) hx hb dX7_choose_25 (by decide) ?_
      refine lv_icmp_ge (tgt := 59) hx hb dX7_choose_27 (by decide) (fun c_6 => ?_) (fun c_6 => ?_)
      · have hf := xt hf c_6
        obtain ⟨v_7, ev_7, hf⟩ := lb_g hf
        refine lv_iinc (v := v_7) (lv' := [(1, .int v_7), (0, .ref a_this), (2, .int l2)]) hx hb dX7_choose_59 hl (k := 1) rfl ev_7.symm (by decide) rfl (fun ls hl => ?_)
        refine lv_goto (tgt := 14) hx hb dX7_choose_62 (by decide) ?_
        exact hk14 v_7 f_shown f_best  H _ ls hP  hS (lv_sub hl [1, 0] rfl) hf
      · have hf := xf hf c_6
        refine lv_iload_n hx hb dX7_choose_30 rfl (lv_at hl 2 rfl) ?_
        refine lv_iconst (v := (1 : Int32)) hx hb dX7_choose_31 (by decide) ?_
        refine lv_iadd hx hb dX7_choose_32 ?_
        refine lv_topi (fun v_8 ev_8 => ?_)
        have hf := lb_s hf ev_8
        refine lv_istore_n (lv' := [(3, .int v_8), (0, .ref a_this), (1, .int l1), (2, .int l2)]) hx hb dX7_choose_33 rfl hl (by decide) rfl (fun ls hl => ?_)
        exact hL34 k14 hk14 k24 ih FUEL l1 l2 v_8 f_shown f_best  H _ ls hP  hS (lv_sub hl [1, 2, 3, 0] rfl) hf
  have hL14 : ∀ (n : Nat) (l1 : Int32) (f_shown : Nat → Int32) (f_best : Nat → Int32)  (H : Heap) (locs : List Loc) (ls : Array Slot), va_P X.1 vwCl [(a_this, .inr (7, [.ref a_fight, .ref a_shown, .ref a_watchers, .ref a_best])), (a_best, .inl (X.2.1 0, 5, .inl f_best)), (a_fight, .inr (3, [.int i_fight_rounds, .int i_fight_home, .int i_fight_noise, .int i_fight_blowCount, .int i_fight_judgeCount, .ref a_fight_blows, .ref a_fight_judges, .ref a_fight_forward, .ref a_fight_downs, .ref a_fight_taken, .ref a_fight_seenBy, .ref a_fight_sums, .ref a_fight_leads])), (a_shown, .inl (X.2.1 0, 12, .inl f_shown)), (a_watchers, .inl (X.2.1 0, 12, .inl f_watchers)), (a_fight_blows, .inl (X.2.1 0, 200, .inl f_fight_blows))] H → va_S A s.heap H locs → lv_has ls 4 [(0, .ref a_this), (1, .int l1)] → mX7_choose_L14 i_fight_rounds i_fight_blowCount f_watchers f_fight_blows  n l1 f_shown f_best = some o → W p l e rmX7_choose s m ([.ref a_this] : List Value).toArray below meth c H locs 0 0 Q (F0 m 14 ls []) := by
    intro n
    induction n with
    | zero => intro l1 f_shown f_best  H locs ls hP hS hl hf; exact xn hf
    | succ n ih =>
      intro l1 f_shown f_best  H locs ls hP hS hl hf
      have hf : mX7_choose_B14 i_fight_rounds i_fight_blowCount f_watchers f_fight_blows  (mX7_choose_L14 i_fight_rounds i_fight_blowCount f_watchers f_fight_blows  n) l1 f_shown f_best = some o := hf
      generalize mX7_choose_L14 i_fight_rounds i_fight_blowCount f_watchers f_fight_blows  n = k14 at ih hf
      unfold mX7_choose_B14 at hf
      refine lv_iload_n hx hb dX7_choose_14 rfl (lv_at hl 1 rfl) ?_
      refine lv_bipush (v := (12 : Int32)) hx hb dX7_choose_15 (by decide) ?_
      refine lv_icmp_ge (tgt := 65) hx hb dX7_choose_17 (by decide) (fun c_4 => ?_) (fun c_4 => ?_)
      · have hf := xt hf c_4
        obtain rfl := Option.some.inj hf
        exact ret (fun _ => 0) H _ ls _ hP hD hS dX7_choose_65
      · have hf := xf hf c_4
        refine lv_iload_n hx hb dX7_choose_20 rfl (lv_at hl 1 rfl) ?_
        refine lv_iconst (v := (1 : Int32)) hx hb dX7_choose_21 (by decide) ?_
        refine lv_iadd hx hb dX7_choose_22 ?_
        refine lv_topi (fun v_5 ev_5 => ?_)
        have hf := lb_s hf ev_5
        refine lv_istore_n (lv' := [(2, .int v_5), (0, .ref a_this), (1, .int l1)]) hx hb dX7_choose_23 rfl hl (by decide) rfl (fun ls hl => ?_)
        exact hL24 k14 ih FUEL l1 v_5 f_shown f_best  H _ ls hP  hS (lv_sub hl [1, 2, 0] rfl) hf
  unfold mX7_choose at hf
  refine lv_aload_n hx hb dX7_choose_0 rfl (lv_at hl 0 rfl) ?_
  obtain ⟨o_1, ho_1, hf⟩ := ob_s hf
  refine xV_v (As := []) (b := a_this) (rest := []) (ws2 := fun _ => [(a_this, .inr (7, [.ref a_fight, .ref a_shown, .ref a_watchers, .ref a_best])), (a_best, .inl (X.2.1 0, 5, .inl f_best)), (a_fight, .inr (3, [.int i_fight_rounds, .int i_fight_home, .int i_fight_noise, .int i_fight_blowCount, .int i_fight_judgeCount, .ref a_fight_blows, .ref a_fight_judges, .ref a_fight_forward, .ref a_fight_downs, .ref a_fight_taken, .ref a_fight_seenBy, .ref a_fight_sums, .ref a_fight_leads])), (a_shown, .inl (X.2.1 0, 12, .inl o_1)), (a_watchers, .inl (X.2.1 0, 12, .inl f_watchers)), (a_fight_blows, .inl (X.2.1 0, 200, .inl f_fight_blows))]) hx hb hml hts hown hG hA hP hD rfl hS hl.1 (qX7_countShown l X a_this a_fight a_shown a_fight_blows a_watchers a_best a_fight_judges a_fight_forward a_fight_downs a_fight_taken a_fight_seenBy a_fight_sums a_fight_leads i_fight_rounds i_fight_home i_fight_noise i_fight_blowCount i_fight_judgeCount f_shown f_fight_blows o_1 ho_1) (cwV (y := yX7_countShown) 0 hts gX7_choose_X7_countShown rfl rfl rfl hdvX7_countShown ⟨Nat.le_of_ble_eq_true rfl, Nat.le_of_ble_eq_true rfl⟩) [0, 2, 3, 5] [1, 4] [2, 0, 3, 4, 1, 5] rfl rfl rfl rfl rfl rfl (fun _ => rfl) (ci := 7) rfl 0 rfl rfl rfl (Nat.le_of_ble_eq_true rfl) ⟨Nat.le_of_ble_eq_true rfl, Nat.le_of_ble_eq_true rfl⟩ dX7_choose_1 (fun u_2 H locs hP _ hS => ?_)
  refine lv_aload_n hx hb dX7_choose_4 rfl (lv_at hl 0 rfl) ?_
  refine va_get (D := X.1) (ci := 7) (v := .ref a_best) (C := RX7) (T := TX7) (N := 4) hx hb hts in7 hown hG.1 hP 0 rfl rfl 3 (by decide) w1 (fun _ h9 => h9) rfl dX7_choose_5 ?_
  refine lv_iconst (v := (3 : Int32)) hx hb dX7_choose_8 (by decide) ?_
  refine lv_bipush (v := (41 : Int32)) hx hb dX7_choose_9 (by decide) ?_
  obtain ⟨g_3, eg_3, hf⟩ := lb_g hf
  refine x_iast (ws' := [(a_this, .inr (7, [.ref a_fight, .ref a_shown, .ref a_watchers, .ref a_best])), (a_best, .inl (X.2.1 0, 5, .inl g_3)), (a_fight, .inr (3, [.int i_fight_rounds, .int i_fight_home, .int i_fight_noise, .int i_fight_blowCount, .int i_fight_judgeCount, .ref a_fight_blows, .ref a_fight_judges, .ref a_fight_forward, .ref a_fight_downs, .ref a_fight_taken, .ref a_fight_seenBy, .ref a_fight_sums, .ref a_fight_leads])), (a_shown, .inl (X.2.1 0, 12, .inl o_1)), (a_watchers, .inl (X.2.1 0, 12, .inl f_watchers)), (a_fight_blows, .inl (X.2.1 0, 200, .inl f_fight_blows))]) hx hb hG hP hD rfl hS 1 rfl (vp_lit (by decide)) dX7_choose_11 eg_3 rfl (fun H locs hP hS => ?_)
  refine lv_iconst (v := (0 : Int32)) hx hb dX7_choose_12 (by decide) ?_
  refine lv_istore_n (lv' := [(1, .int (0 : Int32)), (0, .ref a_this)]) hx hb dX7_choose_13 rfl hl (by decide) rfl (fun ls hl => ?_)
  exact hL14  FUEL (0 : Int32) o_1 g_3  H _ ls hP  hS (lv_sub hl [1, 0] rfl) hf
def mX0_putIntoRow_B57 (x0 : Int32) (f_fight_blows : Nat → Int32) (l2 : Int32) (f_row : Nat → Int32) (i_rowCount : Int32) :
  Option ((Nat → Int32) × Int32) :=
  gi l2 40 <|
  lb (upd f_row l2.toNatClampNeg x0) fun g_13 =>
  lb (i_rowCount + (1 : Int32)) fun v_14 =>
  some (g_13, v_14)
def mX0_putIntoRow_B5 (x0 : Int32) (f_fight_blows : Nat → Int32) (k5 : Int32 → (Nat → Int32) → Int32 → Option ((Nat → Int32) × Int32)) (l2 : Int32) (f_row : Nat → Int32) (i_rowCount : Int32) :
  Option ((Nat → Int32) × Int32) :=
  if l2 ≤ 0 then (mX0_putIntoRow_B57 x0 f_fight_blows  l2 f_row i_rowCount) else (gi (l2 - (1 : Int32)) 40 <|
  (mX3_blowPart (f_row (l2 - (1 : Int32)).toNatClampNeg) (1 : Int32) f_fight_blows).bind fun o_3 =>
  (mX3_blowPart x0 (1 : Int32) f_fight_blows).bind fun o_5 =>
  if o_3 ≤ o_5 then (mX0_putIntoRow_B57 x0 f_fight_blows  l2 f_row i_rowCount) else (gi (l2 - (1 : Int32)) 40 <|
  gi l2 40 <|
  lb (upd f_row l2.toNatClampNeg (f_row (l2 - (1 : Int32)).toNatClampNeg)) fun g_10 =>
  lb (l2 + (-1 : Int32)) fun v_11 =>
  k5 v_11 g_10 i_rowCount))
def mX0_putIntoRow_L5 (x0 : Int32) (f_fight_blows : Nat → Int32) (n : Nat) (l2 : Int32) (f_row : Nat → Int32) (i_rowCount : Int32) :
  Option ((Nat → Int32) × Int32) :=
  loopN (fun k (s : Int32 × (Nat → Int32) × Int32) => mX0_putIntoRow_B5 x0 f_fight_blows  (fun l2 f_row i_rowCount => k (l2, f_row, i_rowCount)) s.1 s.2.1 s.2.2) n (l2, f_row, i_rowCount)
def mX0_putIntoRow (x0 : Int32) (i_rowCount : Int32) (f_row : Nat → Int32) (f_fight_blows : Nat → Int32) :
  Option ((Nat → Int32) × Int32) :=
  mX0_putIntoRow_L5 x0 f_fight_blows  FUEL i_rowCount f_row i_rowCount
theorem hdsX0_putIntoRow : yX0_putIntoRow.cls ≠ "java/lang/invoke/MethodHandle" ∧ yX0_putIntoRow.cls ≠ "java/lang/invoke/VarHandle" ∧ (parseMethodDescriptor yX0_putIntoRow.desc).map (fun d => d.parameters.length) = some 1 := by decide +kernel
theorem hdvX0_putIntoRow : yX0_putIntoRow.cls = RX0 ∧ yX0_putIntoRow.cls ≠ "java/lang/invoke/MethodHandle" ∧ yX0_putIntoRow.cls ≠ "java/lang/invoke/VarHandle" ∧ (parseMethodDescriptor yX0_putIntoRow.desc).map (fun d => d.parameters.length) = some 1 := by decide +kernel
abbrev rmX0_putIntoRow : Room := { frames := 1, cells := 0, slots := 0, locals := 22 }
set_option maxHeartbeats 4000000 in
set_option maxRecDepth 100000 in
theorem qX0_putIntoRow (l : Launch) (X : XT) (a_this : Nat) (a_fight : Nat) (a_row : Nat) (a_fight_blows : Nat) (a_notes : Nat) (a_heads : Nat) (a_fight_judges : Nat) (a_fight_forward : Nat) (a_fight_downs : Nat) (a_fight_taken : Nat) (a_fight_seenBy : Nat) (a_fight_sums : Nat) (a_fight_leads : Nat)  (i_rowCount : Int32) (i_fight_rounds : Int32) (i_fight_home : Int32) (i_fight_noise : Int32) (i_fight_blowCount : Int32) (i_fight_judgeCount : Int32) (f_row : Nat → Int32) (f_fight_blows : Nat → Int32) (x0 : Int32) (o : (Nat → Int32) × Int32) (hf : mX0_putIntoRow x0 i_rowCount f_row f_fight_blows = some o) :
    MC l yX0_putIntoRow wsX0_putIntoRow rmX0_putIntoRow X [.ref a_this, .int x0] [(a_this, .inr (0, [.ref a_fight, .ref a_notes, .ref a_row, .int i_rowCount, .ref a_heads])), (a_fight, .inr (3, [.int i_fight_rounds, .int i_fight_home, .int i_fight_noise, .int i_fight_blowCount, .int i_fight_judgeCount, .ref a_fight_blows, .ref a_fight_judges, .ref a_fight_forward, .ref a_fight_downs, .ref a_fight_taken, .ref a_fight_seenBy, .ref a_fight_sums, .ref a_fight_leads])), (a_row, .inl (X.2.1 0, 40, .inl f_row)), (a_fight_blows, .inl (X.2.1 0, 200, .inl f_fight_blows))]  (fun _ => [(a_this, .inr (0, [.ref a_fight, .ref a_notes, .ref a_row, .int o.2, .ref a_heads])), (a_fight, .inr (3, [.int i_fight_rounds, .int i_fight_home, .int i_fight_noise, .int i_fight_blowCount, .int i_fight_judgeCount, .ref a_fight_blows, .ref a_fight_judges, .ref a_fight_forward, .ref a_fight_downs, .ref a_fight_taken, .ref a_fight_seenBy, .ref a_fight_sums, .ref a_fight_leads])), (a_row, .inl (X.2.1 0, 40, .inl o.1)), (a_fight_blows, .inl (X.2.1 0, 200, .inl f_fight_blows))]) 0 0 := by
  refine MC_ofH (cc := cX0_putIntoRow) (maxL := 3) (by decide) rfl (Nat.le_of_ble_eq_true rfl) ?_
  intro p e s m below meth c A Q H ls hx hb hml hts hown hin hA hD hG hP hS hl ret
  have hown : s.vm.findClass RX0 = some m.cls := hown
  have hD : aD A [a_this, a_fight, a_row, a_fight_blows] := hD
  have hl : lv_has ls 3 [(0, .ref a_this), (1, .int x0)] := hl
  have w1 := hts (.fieldLink RX0 15 "ThreeCards$Buttons" "rowCount" "I") (List.mem_of_getElem? (i := 1) rfl)
  have w2 := hts (.fieldLink RX0 22 "ThreeCards$Buttons" "fight" "LThreeCards$Fight;") (List.mem_of_getElem? (i := 2) rfl)
  have w3 := hts (.fieldLink RX0 9 "ThreeCards$Buttons" "row" "[I") (List.mem_of_getElem? (i := 3) rfl)
  have in0 : ∀ w ∈ u_ws RX0 TX0 5, w ∈ wsX0_putIntoRow := by decide +kernel
  have hB57 : ∀ (l2 : Int32) (f_row : Nat → Int32) (i_rowCount : Int32)  (H : Heap) (locs : List Loc) (ls : Array Slot), va_P X.1 vwCl [(a_this, .inr (0, [.ref a_fight, .ref a_notes, .ref a_row, .int i_rowCount, .ref a_heads])), (a_fight, .inr (3, [.int i_fight_rounds, .int i_fight_home, .int i_fight_noise, .int i_fight_blowCount, .int i_fight_judgeCount, .ref a_fight_blows, .ref a_fight_judges, .ref a_fight_forward, .ref a_fight_downs, .ref a_fight_taken, .ref a_fight_seenBy, .ref a_fight_sums, .ref a_fight_leads])), (a_row, .inl (X.2.1 0, 40, .inl f_row)), (a_fight_blows, .inl (X.2.1 0, 200, .inl f_fight_blows))] H → va_S A s.heap H locs → lv_has ls 3 [(0, .ref a_this), (1, .int x0), (2, .int l2)] → mX0_putIntoRow_B57 x0 f_fight_blows  l2 f_row i_rowCount = some o → W p l e rmX0_putIntoRow s m ([.ref a_this, .int x0] : List Value).toArray below meth c H locs 0 0 Q (F0 m 57 ls []) := by
    intro l2 f_row i_rowCount  H locs ls hP hS hl hf
    unfold mX0_putIntoRow_B57 at hf
    refine lv_aload_n hx hb dX0_putIntoRow_57 rfl (lv_at hl 0 rfl) ?_
    refine va_get (D := X.1) (ci := 0) (v := .ref a_row) (C := RX0) (T := TX0) (N := 5) hx hb hts in0 hown hG.1 hP 0 rfl rfl 2 (by decide) w3 (fun _ h9 => h9) rfl dX0_putIntoRow_58 ?_
    refine lv_iload_n hx hb dX0_putIntoRow_61 rfl (lv_at hl 2 rfl) ?_
    refine lv_iload_n hx hb dX0_putIntoRow_62 rfl (lv_at hl 1 rfl) ?_
    obtain ⟨h_12, hf⟩ := gi_s hf
    obtain ⟨g_13, eg_13, hf⟩ := lb_g hf
    refine x_iast (ws' := [(a_this, .inr (0, [.ref a_fight, .ref a_notes, .ref a_row, .int i_rowCount, .ref a_heads])), (a_fight, .inr (3, [.int i_fight_rounds, .int i_fight_home, .int i_fight_noise, .int i_fight_blowCount, .int i_fight_judgeCount, .ref a_fight_blows, .ref a_fight_judges, .ref a_fight_forward, .ref a_fight_downs, .ref a_fight_taken, .ref a_fight_seenBy, .ref a_fight_sums, .ref a_fight_leads])), (a_row, .inl (X.2.1 0, 40, .inl g_13)), (a_fight_blows, .inl (X.2.1 0, 200, .inl f_fight_blows))]) hx hb hG hP hD rfl hS 2 rfl h_12 dX0_putIntoRow_63 eg_13 rfl (fun H locs hP hS => ?_)
    refine lv_aload_n hx hb dX0_putIntoRow_64 rfl (lv_at hl 0 rfl) ?_
    refine lv_dup hx hb dX0_putIntoRow_65 rfl ?_
    refine va_get (D := X.1) (ci := 0) (v := .int i_rowCount) (C := RX0) (T := TX0) (N := 5) hx hb hts in0 hown hG.1 hP 0 rfl rfl 3 (by decide) w1 (fun _ h9 => h9) rfl dX0_putIntoRow_66 ?_
    refine lv_iconst (v := (1 : Int32)) hx hb dX0_putIntoRow_69 (by decide) ?_
    refine lv_iadd hx hb dX0_putIntoRow_70 ?_
    refine lv_topi (fun v_14 ev_14 => ?_)
    have hf := lb_s hf ev_14
    refine x_put (ws' := [(a_this, .inr (0, [.ref a_fight, .ref a_notes, .ref a_row, .int v_14, .ref a_heads])), (a_fight, .inr (3, [.int i_fight_rounds, .int i_fight_home, .int i_fight_noise, .int i_fight_blowCount, .int i_fight_judgeCount, .ref a_fight_blows, .ref a_fight_judges, .ref a_fight_forward, .ref a_fight_downs, .ref a_fight_taken, .ref a_fight_seenBy, .ref a_fight_sums, .ref a_fight_leads])), (a_row, .inl (X.2.1 0, 40, .inl g_13)), (a_fight_blows, .inl (X.2.1 0, 200, .inl f_fight_blows))]) (ty := .int) (C := RX0) (T := TX0) (N := 5) hx hb hts in0 tyX0 tyX0_ok nmX0 hown hG hP hD rfl hS 0 rfl rfl 3 (by decide) w1 rfl (tyX0_ok 3 (by decide)) rfl rfl (Nat.le_of_ble_eq_true rfl) dX0_putIntoRow_71 rfl (fun H locs hP hS => ?_)
    obtain rfl := Option.some.inj hf
    exact ret (fun _ => 0) H _ ls _ hP hD hS dX0_putIntoRow_74
  have hL5 : ∀ (n : Nat) (l2 : Int32) (f_row : Nat → Int32) (i_rowCount : Int32)  (H : Heap) (locs : List Loc) (ls : Array Slot), va_P X.1 vwCl [(a_this, .inr (0, [.ref a_fight, .ref a_notes, .ref a_row, .int i_rowCount, .ref a_heads])), (a_fight, .inr (3, [.int i_fight_rounds, .int i_fight_home, .int i_fight_noise, .int i_fight_blowCount, .int i_fight_judgeCount, .ref a_fight_blows, .ref a_fight_judges, .ref a_fight_forward, .ref a_fight_downs, .ref a_fight_taken, .ref a_fight_seenBy, .ref a_fight_sums, .ref a_fight_leads])), (a_row, .inl (X.2.1 0, 40, .inl f_row)), (a_fight_blows, .inl (X.2.1 0, 200, .inl f_fight_blows))] H → va_S A s.heap H locs → lv_has ls 3 [(0, .ref a_this), (1, .int x0), (2, .int l2)] → mX0_putIntoRow_L5 x0 f_fight_blows  n l2 f_row i_rowCount = some o → W p l e rmX0_putIntoRow s m ([.ref a_this, .int x0] : List Value).toArray below meth c H locs 0 0 Q (F0 m 5 ls []) := by
    intro n
    induction n with
    | zero => intro l2 f_row i_rowCount  H locs ls hP hS hl hf; exact xn hf
    | succ n ih =>
      intro l2 f_row i_rowCount  H locs ls hP hS hl hf
      have hf : mX0_putIntoRow_B5 x0 f_fight_blows  (mX0_putIntoRow_L5 x0 f_fight_blows  n) l2 f_row i_rowCount = some o := hf
      generalize mX0_putIntoRow_L5 x0 f_fight_blows  n = k5 at ih hf
      unfold mX0_putIntoRow_B5 at hf
      refine lv_iload_n hx hb dX0_putIntoRow_5 rfl (lv_at hl 2 rfl) ?_
      refine lv_if_le (tgt := 57) hx hb dX0_putIntoRow_6 (by decide) (fun c_1 => ?_) (fun c_1 => ?_)
      · have hf := xt hf c_1
        exact hB57  l2 f_row i_rowCount  H _ ls hP  hS (lv_sub hl [0, 1, 2] rfl) hf
      · have hf := xf hf c_1
        refine lv_aload_n hx hb dX0_putIntoRow_9 rfl (lv_at hl 0 rfl) ?_
        refine va_get (D := X.1) (ci := 0) (v := .ref a_fight) (C := RX0) (T := TX0) (N := 5) hx hb hts in0 hown hG.1 hP 0 rfl rfl 0 (by decide) w2 (fun _ h9 => h9) rfl dX0_putIntoRow_10 ?_
        refine lv_aload_n hx hb dX0_putIntoRow_13 rfl (lv_at hl 0 rfl) ?_
        refine va_get (D := X.1) (ci := 0) (v := .ref a_row) (C := RX0) (T := TX0) (N := 5) hx hb hts in0 hown hG.1 hP 0 rfl rfl 2 (by decide) w3 (fun _ h9 => h9) rfl dX0_putIntoRow_14 ?_
        refine lv_iload_n hx hb dX0_putIntoRow_17 rfl (lv_at hl 2 rfl) ?_
        refine lv_iconst (v := (1 : Int32)) hx hb dX0_putIntoRow_18 (by decide) ?_
        refine lv_isub hx hb dX0_putIntoRow_19 ?_
        obtain ⟨h_2, hf⟩ := gi_s hf
        refine va_iald (D := X.1) hx hb hG.1 hP 2 0 rfl rfl h_2 dX0_putIntoRow_20 ?_
        refine lv_iconst (v := (1 : Int32)) hx hb dX0_putIntoRow_21 (by decide) ?_
        obtain ⟨o_3, ho_3, hf⟩ := ob_s hf
        refine xV_i (As := [.int (f_row (l2 - (1 : Int32)).toNatClampNeg), .int (1 : Int32)]) (b := a_fight) (rest := []) (ws2 := [(a_this, .inr (0, [.ref a_fight, .ref a_notes, .ref a_row, .int i_rowCount, .ref a_heads])), (a_fight, .inr (3, [.int i_fight_rounds, .int i_fight_home, .int i_fight_noise, .int i_fight_blowCount, .int i_fight_judgeCount, .ref a_fight_blows, .ref a_fight_judges, .ref a_fight_forward, .ref a_fight_downs, .ref a_fight_taken, .ref a_fight_seenBy, .ref a_fight_sums, .ref a_fight_leads])), (a_row, .inl (X.2.1 0, 40, .inl f_row)), (a_fight_blows, .inl (X.2.1 0, 200, .inl f_fight_blows))]) hx hb hml hts hown hG hA hP hD rfl hS hl.1 (qX3_blowPart l X a_fight a_fight_blows a_fight_judges a_fight_forward a_fight_downs a_fight_taken a_fight_seenBy a_fight_sums a_fight_leads i_fight_rounds i_fight_home i_fight_noise i_fight_blowCount i_fight_judgeCount f_fight_blows (f_row (l2 - (1 : Int32)).toNatClampNeg) (1 : Int32) o_3 ho_3) (cwV (y := yX3_blowPart) 2 hts gX0_putIntoRow_X3_blowPart rfl rfl rfl hdvX3_blowPart ⟨Nat.le_of_ble_eq_true rfl, Nat.le_of_ble_eq_true rfl⟩) [1, 3] [0, 2] [0, 2, 1, 3] rfl rfl rfl rfl rfl rfl rfl (ci := 3) rfl 1 rfl rfl rfl (Nat.le_of_ble_eq_true rfl) ⟨Nat.le_of_ble_eq_true rfl, Nat.le_of_ble_eq_true rfl⟩ dX0_putIntoRow_22 (fun H locs hP _ hS => ?_)
        refine lv_aload_n hx hb dX0_putIntoRow_25 rfl (lv_at hl 0 rfl) ?_
        refine va_get (D := X.1) (ci := 0) (v := .ref a_fight) (C := RX0) (T := TX0) (N := 5) hx hb hts in0 hown hG.1 hP 0 rfl rfl 0 (by decide) w2 (fun _ h9 => h9) rfl dX0_putIntoRow_26 ?_
        refine lv_iload_n hx hb dX0_putIntoRow_29 rfl (lv_at hl 1 rfl) ?_
        refine lv_iconst (v := (1 : Int32)) hx hb dX0_putIntoRow_30 (by decide) ?_
        obtain ⟨o_5, ho_5, hf⟩ := ob_s hf
        refine xV_i (As := [.int x0, .int (1 : Int32)]) (b := a_fight) (rest := [.int o_3]) (ws2 := [(a_this, .inr (0, [.ref a_fight, .ref a_notes, .ref a_row, .int i_rowCount, .ref a_heads])), (a_fight, .inr (3, [.int i_fight_rounds, .int i_fight_home, .int i_fight_noise, .int i_fight_blowCount, .int i_fight_judgeCount, .ref a_fight_blows, .ref a_fight_judges, .ref a_fight_forward, .ref a_fight_downs, .ref a_fight_taken, .ref a_fight_seenBy, .ref a_fight_sums, .ref a_fight_leads])), (a_row, .inl (X.2.1 0, 40, .inl f_row)), (a_fight_blows, .inl (X.2.1 0, 200, .inl f_fight_blows))]) hx hb hml hts hown hG hA hP hD rfl hS hl.1 (qX3_blowPart l X a_fight a_fight_blows a_fight_judges a_fight_forward a_fight_downs a_fight_taken a_fight_seenBy a_fight_sums a_fight_leads i_fight_rounds i_fight_home i_fight_noise i_fight_blowCount i_fight_judgeCount f_fight_blows x0 (1 : Int32) o_5 ho_5) (cwV (y := yX3_blowPart) 2 hts gX0_putIntoRow_X3_blowPart rfl rfl rfl hdvX3_blowPart ⟨Nat.le_of_ble_eq_true rfl, Nat.le_of_ble_eq_true rfl⟩) [1, 3] [0, 2] [0, 2, 1, 3] rfl rfl rfl rfl rfl rfl rfl (ci := 3) rfl 1 rfl rfl rfl (Nat.le_of_ble_eq_true rfl) ⟨Nat.le_of_ble_eq_true rfl, Nat.le_of_ble_eq_true rfl⟩ dX0_putIntoRow_31 (fun H locs hP _ hS => ?_)
        refine lv_icmp_le (tgt := 57) hx hb dX0_putIntoRow_34 (by decide) (fun c_7 => ?_) (fun c_7 => ?_)
        · have hf := xt hf c_7
          exact hB57  l2 f_row i_rowCount  H _ ls hP  hS (lv_sub hl [0, 1, 2] rfl) hf
        · have hf := xf hf c_7
          refine lv_aload_n hx hb dX0_putIntoRow_37 rfl (lv_at hl 0 rfl) ?_
          refine va_get (D := X.1) (ci := 0) (v := .ref a_row) (C := RX0) (T := TX0) (N := 5) hx hb hts in0 hown hG.1 hP 0 rfl rfl 2 (by decide) w3 (fun _ h9 => h9) rfl dX0_putIntoRow_38 ?_
          refine lv_iload_n hx hb dX0_putIntoRow_41 rfl (lv_at hl 2 rfl) ?_
          refine lv_aload_n hx hb dX0_putIntoRow_42 rfl (lv_at hl 0 rfl) ?_
          refine va_get (D := X.1) (ci := 0) (v := .ref a_row) (C := RX0) (T := TX0) (N := 5) hx hb hts in0 hown hG.1 hP 0 rfl rfl 2 (by decide) w3 (fun _ h9 => h9) rfl dX0_putIntoRow_43 ?_
          refine lv_iload_n hx hb dX0_putIntoRow_46 rfl (lv_at hl 2 rfl) ?_
          refine lv_iconst (v := (1 : Int32)) hx hb dX0_putIntoRow_47 (by decide) ?_
          refine lv_isub hx hb dX0_putIntoRow_48 ?_
          obtain ⟨h_8, hf⟩ := gi_s hf
          refine va_iald (D := X.1) hx hb hG.1 hP 2 0 rfl rfl h_8 dX0_putIntoRow_49 ?_
          obtain ⟨h_9, hf⟩ := gi_s hf
          obtain ⟨g_10, eg_10, hf⟩ := lb_g hf
          refine x_iast (ws' := [(a_this, .inr (0, [.ref a_fight, .ref a_notes, .ref a_row, .int i_rowCount, .ref a_heads])), (a_fight, .inr (3, [.int i_fight_rounds, .int i_fight_home, .int i_fight_noise, .int i_fight_blowCount, .int i_fight_judgeCount, .ref a_fight_blows, .ref a_fight_judges, .ref a_fight_forward, .ref a_fight_downs, .ref a_fight_taken, .ref a_fight_seenBy, .ref a_fight_sums, .ref a_fight_leads])), (a_row, .inl (X.2.1 0, 40, .inl g_10)), (a_fight_blows, .inl (X.2.1 0, 200, .inl f_fight_blows))]) hx hb hG hP hD rfl hS 2 rfl h_9 dX0_putIntoRow_50 eg_10 rfl (fun H locs hP hS => ?_)
          obtain ⟨v_11, ev_11, hf⟩ := lb_g hf
          refine lv_iinc (v := v_11) (lv' := [(2, .int v_11), (0, .ref a_this), (1, .int x0)]) hx hb dX0_putIntoRow_51 hl (k := 2) rfl ev_11.symm (by decide) rfl (fun ls hl => ?_)
          refine lv_goto (tgt := 5) hx hb dX0_putIntoRow_54 (by decide) ?_
          exact ih v_11 g_10 i_rowCount  H _ ls hP  hS (lv_sub hl [1, 2, 0] rfl) hf
  unfold mX0_putIntoRow at hf
  refine lv_aload_n hx hb dX0_putIntoRow_0 rfl (lv_at hl 0 rfl) ?_
  refine va_get (D := X.1) (ci := 0) (v := .int i_rowCount) (C := RX0) (T := TX0) (N := 5) hx hb hts in0 hown hG.1 hP 0 rfl rfl 3 (by decide) w1 (fun _ h9 => h9) rfl dX0_putIntoRow_1 ?_
  refine lv_istore_n (lv' := [(2, .int i_rowCount), (0, .ref a_this), (1, .int x0)]) hx hb dX0_putIntoRow_4 rfl hl (by decide) rfl (fun ls hl => ?_)
  exact hL5  FUEL i_rowCount f_row i_rowCount  H _ ls hP  hS (lv_sub hl [1, 2, 0] rfl) hf
def mX0_fillRow_B7 (x0 : Int32) (x1 : Int32) (i_fight_blowCount : Int32) (f_fight_blows : Nat → Int32) (k7 : Int32 → Int32 → (Nat → Int32) → Option (Int32 × (Nat → Int32))) (l3 : Int32) (i_rowCount : Int32) (f_row : Nat → Int32) :
  Option (Int32 × (Nat → Int32)) :=
  if i_fight_blowCount ≤ l3 then (some (i_rowCount, f_row)) else ((mX3_blowPart l3 (0 : Int32) f_fight_blows).bind fun o_2 =>
  if o_2 = x0 then ((mX3_blowPart l3 (2 : Int32) f_fight_blows).bind fun o_6 =>
  if o_6 = x1 then ((mX0_putIntoRow l3 i_rowCount f_row f_fight_blows).bind fun o_10 =>
  lb (l3 + (1 : Int32)) fun v_12 =>
  k7 v_12 o_10.2 o_10.1) else (lb (l3 + (1 : Int32)) fun v_9 =>
  k7 v_9 i_rowCount f_row)) else (lb (l3 + (1 : Int32)) fun v_5 =>
  k7 v_5 i_rowCount f_row))
def mX0_fillRow_L7 (x0 : Int32) (x1 : Int32) (i_fight_blowCount : Int32) (f_fight_blows : Nat → Int32) (n : Nat) (l3 : Int32) (i_rowCount : Int32) (f_row : Nat → Int32) :
  Option (Int32 × (Nat → Int32)) :=
  loopN (fun k (s : Int32 × Int32 × (Nat → Int32)) => mX0_fillRow_B7 x0 x1 i_fight_blowCount f_fight_blows  (fun l3 i_rowCount f_row => k (l3, i_rowCount, f_row)) s.1 s.2.1 s.2.2) n (l3, i_rowCount, f_row)
def mX0_fillRow (x0 : Int32) (x1 : Int32) (i_rowCount : Int32) (i_fight_blowCount : Int32) (f_row : Nat → Int32) (f_fight_blows : Nat → Int32) :
  Option (Int32 × (Nat → Int32)) :=
  mX0_fillRow_L7 x0 x1 i_fight_blowCount f_fight_blows  FUEL (0 : Int32) (0 : Int32) f_row
theorem hdsX0_fillRow : yX0_fillRow.cls ≠ "java/lang/invoke/MethodHandle" ∧ yX0_fillRow.cls ≠ "java/lang/invoke/VarHandle" ∧ (parseMethodDescriptor yX0_fillRow.desc).map (fun d => d.parameters.length) = some 2 := by decide +kernel
theorem hdvX0_fillRow : yX0_fillRow.cls = RX0 ∧ yX0_fillRow.cls ≠ "java/lang/invoke/MethodHandle" ∧ yX0_fillRow.cls ≠ "java/lang/invoke/VarHandle" ∧ (parseMethodDescriptor yX0_fillRow.desc).map (fun d => d.parameters.length) = some 2 := by decide +kernel
abbrev rmX0_fillRow : Room := { frames := 2, cells := 0, slots := 0, locals := 44 }
set_option maxHeartbeats 4000000 in
set_option maxRecDepth 100000 in
theorem qX0_fillRow (l : Launch) (X : XT) (a_this : Nat) (a_fight : Nat) (a_row : Nat) (a_fight_blows : Nat) (a_notes : Nat) (a_heads : Nat) (a_fight_judges : Nat) (a_fight_forward : Nat) (a_fight_downs : Nat) (a_fight_taken : Nat) (a_fight_seenBy : Nat) (a_fight_sums : Nat) (a_fight_leads : Nat)  (i_rowCount : Int32) (i_fight_rounds : Int32) (i_fight_home : Int32) (i_fight_noise : Int32) (i_fight_blowCount : Int32) (i_fight_judgeCount : Int32) (f_row : Nat → Int32) (f_fight_blows : Nat → Int32) (x0 : Int32) (x1 : Int32) (o : Int32 × (Nat → Int32)) (hf : mX0_fillRow x0 x1 i_rowCount i_fight_blowCount f_row f_fight_blows = some o) :
    MC l yX0_fillRow wsX0_fillRow rmX0_fillRow X [.ref a_this, .int x0, .int x1] [(a_this, .inr (0, [.ref a_fight, .ref a_notes, .ref a_row, .int i_rowCount, .ref a_heads])), (a_fight, .inr (3, [.int i_fight_rounds, .int i_fight_home, .int i_fight_noise, .int i_fight_blowCount, .int i_fight_judgeCount, .ref a_fight_blows, .ref a_fight_judges, .ref a_fight_forward, .ref a_fight_downs, .ref a_fight_taken, .ref a_fight_seenBy, .ref a_fight_sums, .ref a_fight_leads])), (a_row, .inl (X.2.1 0, 40, .inl f_row)), (a_fight_blows, .inl (X.2.1 0, 200, .inl f_fight_blows))]  (fun _ => [(a_this, .inr (0, [.ref a_fight, .ref a_notes, .ref a_row, .int o.1, .ref a_heads])), (a_fight, .inr (3, [.int i_fight_rounds, .int i_fight_home, .int i_fight_noise, .int i_fight_blowCount, .int i_fight_judgeCount, .ref a_fight_blows, .ref a_fight_judges, .ref a_fight_forward, .ref a_fight_downs, .ref a_fight_taken, .ref a_fight_seenBy, .ref a_fight_sums, .ref a_fight_leads])), (a_row, .inl (X.2.1 0, 40, .inl o.2)), (a_fight_blows, .inl (X.2.1 0, 200, .inl f_fight_blows))]) 0 0 := by
  refine MC_ofH (cc := cX0_fillRow) (maxL := 4) (by decide) rfl (Nat.le_of_ble_eq_true rfl) ?_
  intro p e s m below meth c A Q H ls hx hb hml hts hown hin hA hD hG hP hS hl ret
  have hown : s.vm.findClass RX0 = some m.cls := hown
  have hD : aD A [a_this, a_fight, a_row, a_fight_blows] := hD
  have hl : lv_has ls 4 [(0, .ref a_this), (1, .int x0), (2, .int x1)] := hl
  have w1 := hts (.fieldLink RX0 15 "ThreeCards$Buttons" "rowCount" "I") (List.mem_of_getElem? (i := 1) rfl)
  have w2 := hts (.fieldLink RX0 22 "ThreeCards$Buttons" "fight" "LThreeCards$Fight;") (List.mem_of_getElem? (i := 2) rfl)
  have in0 : ∀ w ∈ u_ws RX0 TX0 5, w ∈ wsX0_fillRow := by decide +kernel
  have in3 : ∀ w ∈ u_ws RX3 TX3 13, w ∈ wsX0_fillRow := by decide +kernel
  have hL7 : ∀ (n : Nat) (l3 : Int32) (i_rowCount : Int32) (f_row : Nat → Int32)  (H : Heap) (locs : List Loc) (ls : Array Slot), va_P X.1 vwCl [(a_this, .inr (0, [.ref a_fight, .ref a_notes, .ref a_row, .int i_rowCount, .ref a_heads])), (a_fight, .inr (3, [.int i_fight_rounds, .int i_fight_home, .int i_fight_noise, .int i_fight_blowCount, .int i_fight_judgeCount, .ref a_fight_blows, .ref a_fight_judges, .ref a_fight_forward, .ref a_fight_downs, .ref a_fight_taken, .ref a_fight_seenBy, .ref a_fight_sums, .ref a_fight_leads])), (a_row, .inl (X.2.1 0, 40, .inl f_row)), (a_fight_blows, .inl (X.2.1 0, 200, .inl f_fight_blows))] H → va_S A s.heap H locs → lv_has ls 4 [(0, .ref a_this), (1, .int x0), (2, .int x1), (3, .int l3)] → mX0_fillRow_L7 x0 x1 i_fight_blowCount f_fight_blows  n l3 i_rowCount f_row = some o → W p l e rmX0_fillRow s m ([.ref a_this, .int x0, .int x1] : List Value).toArray below meth c H locs 0 0 Q (F0 m 7 ls []) := by
    intro n
    induction n with
    | zero => intro l3 i_rowCount f_row  H locs ls hP hS hl hf; exact xn hf
    | succ n ih =>
      intro l3 i_rowCount f_row  H locs ls hP hS hl hf
      have hf : mX0_fillRow_B7 x0 x1 i_fight_blowCount f_fight_blows  (mX0_fillRow_L7 x0 x1 i_fight_blowCount f_fight_blows  n) l3 i_rowCount f_row = some o := hf
      generalize mX0_fillRow_L7 x0 x1 i_fight_blowCount f_fight_blows  n = k7 at ih hf
      unfold mX0_fillRow_B7 at hf
      refine lv_iload_n hx hb dX0_fillRow_7 rfl (lv_at hl 3 rfl) ?_
      refine lv_aload_n hx hb dX0_fillRow_8 rfl (lv_at hl 0 rfl) ?_
      refine va_get (D := X.1) (ci := 0) (v := .ref a_fight) (C := RX0) (T := TX0) (N := 5) hx hb hts in0 hown hG.1 hP 0 rfl rfl 0 (by decide) w2 (fun _ h9 => h9) rfl dX0_fillRow_9 ?_
      refine va_getN (D := X.1) (ci := 3) (v := .int i_fight_blowCount) (C := RX3) (T := TX3) (N := 13) hx hb hts in3 hown hG.1 hP 1 rfl rfl 3 (by decide) (va_Nw.use rfl (nf6 hG.2.1)) (fun _ h9 => h9) rfl dX0_fillRow_12 ?_
      refine lv_icmp_ge (tgt := 55) hx hb dX0_fillRow_15 (by decide) (fun c_1 => ?_) (fun c_1 => ?_)
      · have hf := xt hf c_1
        obtain rfl := Option.some.inj hf
        exact ret (fun _ => 0) H _ ls _ hP hD hS dX0_fillRow_55
      · have hf := xf hf c_1
        refine lv_aload_n hx hb dX0_fillRow_18 rfl (lv_at hl 0 rfl) ?_
        refine va_get (D := X.1) (ci := 0) (v := .ref a_fight) (C := RX0) (T := TX0) (N := 5) hx hb hts in0 hown hG.1 hP 0 rfl rfl 0 (by decide) w2 (fun _ h9 => h9) rfl dX0_fillRow_19 ?_
        refine lv_iload_n hx hb dX0_fillRow_22 rfl (lv_at hl 3 rfl) ?_
        refine lv_iconst (v := (0 : Int32)) hx hb dX0_fillRow_23 (by decide) ?_
        obtain ⟨o_2, ho_2, hf⟩ := ob_s hf
        refine xV_i (As := [.int l3, .int (0 : Int32)]) (b := a_fight) (rest := []) (ws2 := [(a_this, .inr (0, [.ref a_fight, .ref a_notes, .ref a_row, .int i_rowCount, .ref a_heads])), (a_fight, .inr (3, [.int i_fight_rounds, .int i_fight_home, .int i_fight_noise, .int i_fight_blowCount, .int i_fight_judgeCount, .ref a_fight_blows, .ref a_fight_judges, .ref a_fight_forward, .ref a_fight_downs, .ref a_fight_taken, .ref a_fight_seenBy, .ref a_fight_sums, .ref a_fight_leads])), (a_row, .inl (X.2.1 0, 40, .inl f_row)), (a_fight_blows, .inl (X.2.1 0, 200, .inl f_fight_blows))]) hx hb hml hts hown hG hA hP hD rfl hS hl.1 (qX3_blowPart l X a_fight a_fight_blows a_fight_judges a_fight_forward a_fight_downs a_fight_taken a_fight_seenBy a_fight_sums a_fight_leads i_fight_rounds i_fight_home i_fight_noise i_fight_blowCount i_fight_judgeCount f_fight_blows l3 (0 : Int32) o_2 ho_2) (cwV (y := yX3_blowPart) 2 hts gX0_fillRow_X3_blowPart rfl rfl rfl hdvX3_blowPart ⟨Nat.le_of_ble_eq_true rfl, Nat.le_of_ble_eq_true rfl⟩) [1, 3] [0, 2] [0, 2, 1, 3] rfl rfl rfl rfl rfl rfl rfl (ci := 3) rfl 1 rfl rfl rfl (Nat.le_of_ble_eq_true rfl) ⟨Nat.le_of_ble_eq_true rfl, Nat.le_of_ble_eq_true rfl⟩ dX0_fillRow_24 (fun H locs hP _ hS => ?_)
        refine lv_iload_n hx hb dX0_fillRow_27 rfl (lv_at hl 1 rfl) ?_
        refine lv_icmp_ne (tgt := 49) hx hb dX0_fillRow_28 (by decide) (fun c_4 => ?_) (fun c_4 => ?_)
        · have hf := xf hf c_4
          obtain ⟨v_5, ev_5, hf⟩ := lb_g hf
          refine lv_iinc (v := v_5) (lv' := [(3, .int v_5), (0, .ref a_this), (1, .int x0), (2, .int x1)]) hx hb dX0_fillRow_49 hl (k := 3) rfl ev_5.symm (by decide) rfl (fun ls hl => ?_)
          refine lv_goto (tgt := 7) hx hb dX0_fillRow_52 (by decide) ?_
          exact ih v_5 i_rowCount f_row  H _ ls hP  hS (lv_sub hl [1, 2, 3, 0] rfl) hf
        · have hf := xt hf c_4
          refine lv_aload_n hx hb dX0_fillRow_31 rfl (lv_at hl 0 rfl) ?_
          refine va_get (D := X.1) (ci := 0) (v := .ref a_fight) (C := RX0) (T := TX0) (N := 5) hx hb hts in0 hown hG.1 hP 0 rfl rfl 0 (by decide) w2 (fun _ h9 => h9) rfl dX0_fillRow_32 ?_
          refine lv_iload_n hx hb dX0_fillRow_35 rfl (lv_at hl 3 rfl) ?_
          refine lv_iconst (v := (2 : Int32)) hx hb dX0_fillRow_36 (by decide) ?_
          obtain ⟨o_6, ho_6, hf⟩ := ob_s hf
          refine xV_i (As := [.int l3, .int (2 : Int32)]) (b := a_fight) (rest := []) (ws2 := [(a_this, .inr (0, [.ref a_fight, .ref a_notes, .ref a_row, .int i_rowCount, .ref a_heads])), (a_fight, .inr (3, [.int i_fight_rounds, .int i_fight_home, .int i_fight_noise, .int i_fight_blowCount, .int i_fight_judgeCount, .ref a_fight_blows, .ref a_fight_judges, .ref a_fight_forward, .ref a_fight_downs, .ref a_fight_taken, .ref a_fight_seenBy, .ref a_fight_sums, .ref a_fight_leads])), (a_row, .inl (X.2.1 0, 40, .inl f_row)), (a_fight_blows, .inl (X.2.1 0, 200, .inl f_fight_blows))]) hx hb hml hts hown hG hA hP hD rfl hS hl.1 (qX3_blowPart l X a_fight a_fight_blows a_fight_judges a_fight_forward a_fight_downs a_fight_taken a_fight_seenBy a_fight_sums a_fight_leads i_fight_rounds i_fight_home i_fight_noise i_fight_blowCount i_fight_judgeCount f_fight_blows l3 (2 : Int32) o_6 ho_6) (cwV (y := yX3_blowPart) 2 hts gX0_fillRow_X3_blowPart rfl rfl rfl hdvX3_blowPart ⟨Nat.le_of_ble_eq_true rfl, Nat.le_of_ble_eq_true rfl⟩) [1, 3] [0, 2] [0, 2, 1, 3] rfl rfl rfl rfl rfl rfl rfl (ci := 3) rfl 1 rfl rfl rfl (Nat.le_of_ble_eq_true rfl) ⟨Nat.le_of_ble_eq_true rfl, Nat.le_of_ble_eq_true rfl⟩ dX0_fillRow_37 (fun H locs hP _ hS => ?_)
          refine lv_iload_n hx hb dX0_fillRow_40 rfl (lv_at hl 2 rfl) ?_
          refine lv_icmp_ne (tgt := 49) hx hb dX0_fillRow_41 (by decide) (fun c_8 => ?_) (fun c_8 => ?_)
          · have hf := xf hf c_8
            obtain ⟨v_9, ev_9, hf⟩ := lb_g hf
            refine lv_iinc (v := v_9) (lv' := [(3, .int v_9), (0, .ref a_this), (1, .int x0), (2, .int x1)]) hx hb dX0_fillRow_49 hl (k := 3) rfl ev_9.symm (by decide) rfl (fun ls hl => ?_)
            refine lv_goto (tgt := 7) hx hb dX0_fillRow_52 (by decide) ?_
            exact ih v_9 i_rowCount f_row  H _ ls hP  hS (lv_sub hl [1, 2, 3, 0] rfl) hf
          · have hf := xt hf c_8
            refine lv_aload_n hx hb dX0_fillRow_44 rfl (lv_at hl 0 rfl) ?_
            refine lv_iload_n hx hb dX0_fillRow_45 rfl (lv_at hl 3 rfl) ?_
            obtain ⟨o_10, ho_10, hf⟩ := ob_s hf
            refine xV_v (As := [.int l3]) (b := a_this) (rest := []) (ws2 := fun _ => [(a_this, .inr (0, [.ref a_fight, .ref a_notes, .ref a_row, .int o_10.2, .ref a_heads])), (a_fight, .inr (3, [.int i_fight_rounds, .int i_fight_home, .int i_fight_noise, .int i_fight_blowCount, .int i_fight_judgeCount, .ref a_fight_blows, .ref a_fight_judges, .ref a_fight_forward, .ref a_fight_downs, .ref a_fight_taken, .ref a_fight_seenBy, .ref a_fight_sums, .ref a_fight_leads])), (a_row, .inl (X.2.1 0, 40, .inl o_10.1)), (a_fight_blows, .inl (X.2.1 0, 200, .inl f_fight_blows))]) hx hb hml hts hown hG hA hP hD rfl hS hl.1 (qX0_putIntoRow l X a_this a_fight a_row a_fight_blows a_notes a_heads a_fight_judges a_fight_forward a_fight_downs a_fight_taken a_fight_seenBy a_fight_sums a_fight_leads i_rowCount i_fight_rounds i_fight_home i_fight_noise i_fight_blowCount i_fight_judgeCount f_row f_fight_blows l3 o_10 ho_10) (cwV (y := yX0_putIntoRow) 1 hts gX0_fillRow_X0_putIntoRow rfl rfl rfl hdvX0_putIntoRow ⟨Nat.le_of_ble_eq_true rfl, Nat.le_of_ble_eq_true rfl⟩) [0, 1, 2, 3] [] [0, 1, 2, 3] rfl rfl rfl rfl rfl rfl (fun _ => rfl) (ci := 0) rfl 0 rfl rfl rfl (Nat.le_of_ble_eq_true rfl) ⟨Nat.le_of_ble_eq_true rfl, Nat.le_of_ble_eq_true rfl⟩ dX0_fillRow_46 (fun u_11 H locs hP _ hS => ?_)
            obtain ⟨v_12, ev_12, hf⟩ := lb_g hf
            refine lv_iinc (v := v_12) (lv' := [(3, .int v_12), (0, .ref a_this), (1, .int x0), (2, .int x1)]) hx hb dX0_fillRow_49 hl (k := 3) rfl ev_12.symm (by decide) rfl (fun ls hl => ?_)
            refine lv_goto (tgt := 7) hx hb dX0_fillRow_52 (by decide) ?_
            exact ih v_12 o_10.2 o_10.1  H _ ls hP  hS (lv_sub hl [1, 2, 3, 0] rfl) hf
  unfold mX0_fillRow at hf
  refine lv_aload_n hx hb dX0_fillRow_0 rfl (lv_at hl 0 rfl) ?_
  refine lv_iconst (v := (0 : Int32)) hx hb dX0_fillRow_1 (by decide) ?_
  refine x_put (ws' := [(a_this, .inr (0, [.ref a_fight, .ref a_notes, .ref a_row, .int (0 : Int32), .ref a_heads])), (a_fight, .inr (3, [.int i_fight_rounds, .int i_fight_home, .int i_fight_noise, .int i_fight_blowCount, .int i_fight_judgeCount, .ref a_fight_blows, .ref a_fight_judges, .ref a_fight_forward, .ref a_fight_downs, .ref a_fight_taken, .ref a_fight_seenBy, .ref a_fight_sums, .ref a_fight_leads])), (a_row, .inl (X.2.1 0, 40, .inl f_row)), (a_fight_blows, .inl (X.2.1 0, 200, .inl f_fight_blows))]) (ty := .int) (C := RX0) (T := TX0) (N := 5) hx hb hts in0 tyX0 tyX0_ok nmX0 hown hG hP hD rfl hS 0 rfl rfl 3 (by decide) w1 rfl (tyX0_ok 3 (by decide)) rfl rfl (Nat.le_of_ble_eq_true rfl) dX0_fillRow_2 rfl (fun H locs hP hS => ?_)
  refine lv_iconst (v := (0 : Int32)) hx hb dX0_fillRow_5 (by decide) ?_
  refine lv_istore_n (lv' := [(3, .int (0 : Int32)), (0, .ref a_this), (1, .int x0), (2, .int x1)]) hx hb dX0_fillRow_6 rfl hl (by decide) rfl (fun ls hl => ?_)
  exact hL7  FUEL (0 : Int32) (0 : Int32) f_row  H _ ls hP  hS (lv_sub hl [1, 2, 3, 0] rfl) hf
def mX0_seenFrom_B2 (x0 : Int32) (x1 : Int32) (i_rowCount : Int32) (f_row : Nat → Int32) (f_fight_seenBy : Nat → Int32) (k2 : Int32 → Option (Int32)) (l3 : Int32) :
  Option (Int32) :=
  if i_rowCount ≤ l3 then (some l3) else (gi l3 40 <|
  (mX3_isSeen x0 (f_row l3.toNatClampNeg) f_fight_seenBy).bind fun o_3 =>
  if o_3 = 0 then (lb (l3 + (1 : Int32)) fun v_6 =>
  k2 v_6) else (some l3))
def mX0_seenFrom_L2 (x0 : Int32) (x1 : Int32) (i_rowCount : Int32) (f_row : Nat → Int32) (f_fight_seenBy : Nat → Int32) (n : Nat) (l3 : Int32) :
  Option (Int32) :=
  loopN (fun k (s : Int32) => mX0_seenFrom_B2 x0 x1 i_rowCount f_row f_fight_seenBy  (k) s) n (l3)
def mX0_seenFrom (x0 : Int32) (x1 : Int32) (i_rowCount : Int32) (f_row : Nat → Int32) (f_fight_seenBy : Nat → Int32) :
  Option (Int32) :=
  mX0_seenFrom_L2 x0 x1 i_rowCount f_row f_fight_seenBy  FUEL x1
theorem hdsX0_seenFrom : yX0_seenFrom.cls ≠ "java/lang/invoke/MethodHandle" ∧ yX0_seenFrom.cls ≠ "java/lang/invoke/VarHandle" ∧ (parseMethodDescriptor yX0_seenFrom.desc).map (fun d => d.parameters.length) = some 2 := by decide +kernel
theorem hdvX0_seenFrom : yX0_seenFrom.cls = RX0 ∧ yX0_seenFrom.cls ≠ "java/lang/invoke/MethodHandle" ∧ yX0_seenFrom.cls ≠ "java/lang/invoke/VarHandle" ∧ (parseMethodDescriptor yX0_seenFrom.desc).map (fun d => d.parameters.length) = some 2 := by decide +kernel
abbrev rmX0_seenFrom : Room := { frames := 1, cells := 0, slots := 0, locals := 22 }
set_option maxHeartbeats 4000000 in
set_option maxRecDepth 100000 in
theorem qX0_seenFrom (l : Launch) (X : XT) (a_this : Nat) (a_fight : Nat) (a_row : Nat) (a_fight_seenBy : Nat) (a_notes : Nat) (a_heads : Nat) (a_fight_blows : Nat) (a_fight_judges : Nat) (a_fight_forward : Nat) (a_fight_downs : Nat) (a_fight_taken : Nat) (a_fight_sums : Nat) (a_fight_leads : Nat)  (i_rowCount : Int32) (i_fight_rounds : Int32) (i_fight_home : Int32) (i_fight_noise : Int32) (i_fight_blowCount : Int32) (i_fight_judgeCount : Int32) (f_row : Nat → Int32) (f_fight_seenBy : Nat → Int32) (x0 : Int32) (x1 : Int32) (o : Int32) (hf : mX0_seenFrom x0 x1 i_rowCount f_row f_fight_seenBy = some o) :
    MI l yX0_seenFrom wsX0_seenFrom rmX0_seenFrom X [.ref a_this, .int x0, .int x1] [(a_this, .inr (0, [.ref a_fight, .ref a_notes, .ref a_row, .int i_rowCount, .ref a_heads])), (a_fight, .inr (3, [.int i_fight_rounds, .int i_fight_home, .int i_fight_noise, .int i_fight_blowCount, .int i_fight_judgeCount, .ref a_fight_blows, .ref a_fight_judges, .ref a_fight_forward, .ref a_fight_downs, .ref a_fight_taken, .ref a_fight_seenBy, .ref a_fight_sums, .ref a_fight_leads])), (a_row, .inl (X.2.1 0, 40, .inl f_row)), (a_fight_seenBy, .inl (X.2.1 0, 40, .inl f_fight_seenBy))]  [(a_this, .inr (0, [.ref a_fight, .ref a_notes, .ref a_row, .int i_rowCount, .ref a_heads])), (a_fight, .inr (3, [.int i_fight_rounds, .int i_fight_home, .int i_fight_noise, .int i_fight_blowCount, .int i_fight_judgeCount, .ref a_fight_blows, .ref a_fight_judges, .ref a_fight_forward, .ref a_fight_downs, .ref a_fight_taken, .ref a_fight_seenBy, .ref a_fight_sums, .ref a_fight_leads])), (a_row, .inl (X.2.1 0, 40, .inl f_row)), (a_fight_seenBy, .inl (X.2.1 0, 40, .inl f_fight_seenBy))] o := by
  refine MI_ofH (cc := cX0_seenFrom) (maxL := 4) (rt := .int) (by decide) rfl (Nat.le_of_ble_eq_true rfl) ?_
  intro p e s m below meth c A Q H ls hx hb hml hts hown hA hD hG hP hS hl ret
  have hown : s.vm.findClass RX0 = some m.cls := hown
  have hD : aD A [a_this, a_fight, a_row, a_fight_seenBy] := hD
  have hl : lv_has ls 4 [(0, .ref a_this), (1, .int x0), (2, .int x1)] := hl
  have w1 := hts (.fieldLink RX0 15 "ThreeCards$Buttons" "rowCount" "I") (List.mem_of_getElem? (i := 1) rfl)
  have w2 := hts (.fieldLink RX0 22 "ThreeCards$Buttons" "fight" "LThreeCards$Fight;") (List.mem_of_getElem? (i := 2) rfl)
  have w3 := hts (.fieldLink RX0 9 "ThreeCards$Buttons" "row" "[I") (List.mem_of_getElem? (i := 3) rfl)
  have in0 : ∀ w ∈ u_ws RX0 TX0 5, w ∈ wsX0_seenFrom := by decide +kernel
  have hL2 : ∀ (n : Nat) (l3 : Int32)  (H : Heap) (locs : List Loc) (ls : Array Slot), va_P X.1 vwCl [(a_this, .inr (0, [.ref a_fight, .ref a_notes, .ref a_row, .int i_rowCount, .ref a_heads])), (a_fight, .inr (3, [.int i_fight_rounds, .int i_fight_home, .int i_fight_noise, .int i_fight_blowCount, .int i_fight_judgeCount, .ref a_fight_blows, .ref a_fight_judges, .ref a_fight_forward, .ref a_fight_downs, .ref a_fight_taken, .ref a_fight_seenBy, .ref a_fight_sums, .ref a_fight_leads])), (a_row, .inl (X.2.1 0, 40, .inl f_row)), (a_fight_seenBy, .inl (X.2.1 0, 40, .inl f_fight_seenBy))] H → va_S A s.heap H locs → lv_has ls 4 [(0, .ref a_this), (1, .int x0), (3, .int l3)] → mX0_seenFrom_L2 x0 x1 i_rowCount f_row f_fight_seenBy  n l3 = some o → W p l e rmX0_seenFrom s m ([.ref a_this, .int x0, .int x1] : List Value).toArray below meth c H locs 0 0 Q (F0 m 2 ls []) := by
    intro n
    induction n with
    | zero => intro l3  H locs ls hP hS hl hf; exact xn hf
    | succ n ih =>
      intro l3  H locs ls hP hS hl hf
      have hf : mX0_seenFrom_B2 x0 x1 i_rowCount f_row f_fight_seenBy  (mX0_seenFrom_L2 x0 x1 i_rowCount f_row f_fight_seenBy  n) l3 = some o := hf
      generalize mX0_seenFrom_L2 x0 x1 i_rowCount f_row f_fight_seenBy  n = k2 at ih hf
      unfold mX0_seenFrom_B2 at hf
      refine lv_iload_n hx hb dX0_seenFrom_2 rfl (lv_at hl 2 rfl) ?_
      refine lv_aload_n hx hb dX0_seenFrom_3 rfl (lv_at hl 0 rfl) ?_
      refine va_get (D := X.1) (ci := 0) (v := .int i_rowCount) (C := RX0) (T := TX0) (N := 5) hx hb hts in0 hown hG.1 hP 0 rfl rfl 3 (by decide) w1 (fun _ h9 => h9) rfl dX0_seenFrom_4 ?_
      refine lv_icmp_ge (tgt := 33) hx hb dX0_seenFrom_7 (by decide) (fun c_1 => ?_) (fun c_1 => ?_)
      · have hf := xt hf c_1
        refine lv_iload_n hx hb dX0_seenFrom_33 rfl (lv_at hl 2 rfl) ?_
        obtain rfl := Option.some.inj hf
        exact ret H _ ls _ rfl hP hD hS dX0_seenFrom_34
      · have hf := xf hf c_1
        refine lv_aload_n hx hb dX0_seenFrom_10 rfl (lv_at hl 0 rfl) ?_
        refine va_get (D := X.1) (ci := 0) (v := .ref a_fight) (C := RX0) (T := TX0) (N := 5) hx hb hts in0 hown hG.1 hP 0 rfl rfl 0 (by decide) w2 (fun _ h9 => h9) rfl dX0_seenFrom_11 ?_
        refine lv_iload_n hx hb dX0_seenFrom_14 rfl (lv_at hl 1 rfl) ?_
        refine lv_aload_n hx hb dX0_seenFrom_15 rfl (lv_at hl 0 rfl) ?_
        refine va_get (D := X.1) (ci := 0) (v := .ref a_row) (C := RX0) (T := TX0) (N := 5) hx hb hts in0 hown hG.1 hP 0 rfl rfl 2 (by decide) w3 (fun _ h9 => h9) rfl dX0_seenFrom_16 ?_
        refine lv_iload_n hx hb dX0_seenFrom_19 rfl (lv_at hl 2 rfl) ?_
        obtain ⟨h_2, hf⟩ := gi_s hf
        refine va_iald (D := X.1) hx hb hG.1 hP 2 0 rfl rfl h_2 dX0_seenFrom_20 ?_
        obtain ⟨o_3, ho_3, hf⟩ := ob_s hf
        refine xV_i (As := [.int x0, .int (f_row l3.toNatClampNeg)]) (b := a_fight) (rest := []) (ws2 := [(a_this, .inr (0, [.ref a_fight, .ref a_notes, .ref a_row, .int i_rowCount, .ref a_heads])), (a_fight, .inr (3, [.int i_fight_rounds, .int i_fight_home, .int i_fight_noise, .int i_fight_blowCount, .int i_fight_judgeCount, .ref a_fight_blows, .ref a_fight_judges, .ref a_fight_forward, .ref a_fight_downs, .ref a_fight_taken, .ref a_fight_seenBy, .ref a_fight_sums, .ref a_fight_leads])), (a_row, .inl (X.2.1 0, 40, .inl f_row)), (a_fight_seenBy, .inl (X.2.1 0, 40, .inl f_fight_seenBy))]) hx hb hml hts hown hG hA hP hD rfl hS hl.1 (qX3_isSeen l X a_fight a_fight_seenBy a_fight_blows a_fight_judges a_fight_forward a_fight_downs a_fight_taken a_fight_sums a_fight_leads i_fight_rounds i_fight_home i_fight_noise i_fight_blowCount i_fight_judgeCount f_fight_seenBy x0 (f_row l3.toNatClampNeg) o_3 ho_3) (cwV (y := yX3_isSeen) 2 hts gX0_seenFrom_X3_isSeen rfl rfl rfl hdvX3_isSeen ⟨Nat.le_of_ble_eq_true rfl, Nat.le_of_ble_eq_true rfl⟩) [1, 3] [0, 2] [0, 2, 1, 3] rfl rfl rfl rfl rfl rfl rfl (ci := 3) rfl 1 rfl rfl rfl (Nat.le_of_ble_eq_true rfl) ⟨Nat.le_of_ble_eq_true rfl, Nat.le_of_ble_eq_true rfl⟩ dX0_seenFrom_21 (fun H locs hP _ hS => ?_)
        refine lv_if_ne (tgt := 33) hx hb dX0_seenFrom_24 (by decide) (fun c_5 => ?_) (fun c_5 => ?_)
        · have hf := xf hf c_5
          refine lv_iload_n hx hb dX0_seenFrom_33 rfl (lv_at hl 2 rfl) ?_
          obtain rfl := Option.some.inj hf
          exact ret H _ ls _ rfl hP hD hS dX0_seenFrom_34
        · have hf := xt hf c_5
          obtain ⟨v_6, ev_6, hf⟩ := lb_g hf
          refine lv_iinc (v := v_6) (lv' := [(3, .int v_6), (0, .ref a_this), (1, .int x0)]) hx hb dX0_seenFrom_27 hl (k := 2) rfl ev_6.symm (by decide) rfl (fun ls hl => ?_)
          refine lv_goto (tgt := 2) hx hb dX0_seenFrom_30 (by decide) ?_
          exact ih v_6  H _ ls hP  hS (lv_sub hl [1, 2, 0] rfl) hf
  unfold mX0_seenFrom at hf
  refine lv_iload_n hx hb dX0_seenFrom_0 rfl (lv_at hl 2 rfl) ?_
  refine lv_istore_n (lv' := [(3, .int x1), (0, .ref a_this), (1, .int x0), (2, .int x1)]) hx hb dX0_seenFrom_1 rfl hl (by decide) rfl (fun ls hl => ?_)
  exact hL2  FUEL x1  H _ ls hP  hS (lv_sub hl [1, 2, 0] rfl) hf
def mX0_secondOf (x0 : Int32) (i_rowCount : Int32) (f_heads : Nat → Int32) (f_row : Nat → Int32) (f_fight_blows : Nat → Int32) (f_notes_delays : Nat → Int32) :
  Option (Int32) :=
  gi x0 8 <|
  lb (f_heads x0.toNatClampNeg) fun v_2 =>
  if i_rowCount ≤ v_2 then (some (1000 : Int32)) else (gi v_2 40 <|
  (mX3_blowPart (f_row v_2.toNatClampNeg) (1 : Int32) f_fight_blows).bind fun o_5 =>
  gi x0 8 <|
  lb (o_5 + (f_notes_delays x0.toNatClampNeg)) fun v_8 =>
  some v_8)
theorem hdsX0_secondOf : yX0_secondOf.cls ≠ "java/lang/invoke/MethodHandle" ∧ yX0_secondOf.cls ≠ "java/lang/invoke/VarHandle" ∧ (parseMethodDescriptor yX0_secondOf.desc).map (fun d => d.parameters.length) = some 1 := by decide +kernel
theorem hdvX0_secondOf : yX0_secondOf.cls = RX0 ∧ yX0_secondOf.cls ≠ "java/lang/invoke/MethodHandle" ∧ yX0_secondOf.cls ≠ "java/lang/invoke/VarHandle" ∧ (parseMethodDescriptor yX0_secondOf.desc).map (fun d => d.parameters.length) = some 1 := by decide +kernel
abbrev rmX0_secondOf : Room := { frames := 1, cells := 0, slots := 0, locals := 22 }
set_option maxHeartbeats 4000000 in
set_option maxRecDepth 100000 in
theorem qX0_secondOf (l : Launch) (X : XT) (a_this : Nat) (a_fight : Nat) (a_heads : Nat) (a_notes : Nat) (a_row : Nat) (a_fight_blows : Nat) (a_notes_delays : Nat) (a_fight_judges : Nat) (a_fight_forward : Nat) (a_fight_downs : Nat) (a_fight_taken : Nat) (a_fight_seenBy : Nat) (a_fight_sums : Nat) (a_fight_leads : Nat) (a_notes_margins : Nat) (a_notes_odds : Nat)  (i_rowCount : Int32) (i_fight_rounds : Int32) (i_fight_home : Int32) (i_fight_noise : Int32) (i_fight_blowCount : Int32) (i_fight_judgeCount : Int32) (f_heads : Nat → Int32) (f_row : Nat → Int32) (f_fight_blows : Nat → Int32) (f_notes_delays : Nat → Int32) (x0 : Int32) (o : Int32) (hf : mX0_secondOf x0 i_rowCount f_heads f_row f_fight_blows f_notes_delays = some o) :
    MI l yX0_secondOf wsX0_secondOf rmX0_secondOf X [.ref a_this, .int x0] [(a_this, .inr (0, [.ref a_fight, .ref a_notes, .ref a_row, .int i_rowCount, .ref a_heads])), (a_fight, .inr (3, [.int i_fight_rounds, .int i_fight_home, .int i_fight_noise, .int i_fight_blowCount, .int i_fight_judgeCount, .ref a_fight_blows, .ref a_fight_judges, .ref a_fight_forward, .ref a_fight_downs, .ref a_fight_taken, .ref a_fight_seenBy, .ref a_fight_sums, .ref a_fight_leads])), (a_heads, .inl (X.2.1 0, 8, .inl f_heads)), (a_notes, .inr (5, [.ref a_notes_delays, .ref a_notes_margins, .ref a_notes_odds])), (a_row, .inl (X.2.1 0, 40, .inl f_row)), (a_fight_blows, .inl (X.2.1 0, 200, .inl f_fight_blows)), (a_notes_delays, .inl (X.2.1 0, 8, .inl f_notes_delays))]  [(a_this, .inr (0, [.ref a_fight, .ref a_notes, .ref a_row, .int i_rowCount, .ref a_heads])), (a_fight, .inr (3, [.int i_fight_rounds, .int i_fight_home, .int i_fight_noise, .int i_fight_blowCount, .int i_fight_judgeCount, .ref a_fight_blows, .ref a_fight_judges, .ref a_fight_forward, .ref a_fight_downs, .ref a_fight_taken, .ref a_fight_seenBy, .ref a_fight_sums, .ref a_fight_leads])), (a_heads, .inl (X.2.1 0, 8, .inl f_heads)), (a_notes, .inr (5, [.ref a_notes_delays, .ref a_notes_margins, .ref a_notes_odds])), (a_row, .inl (X.2.1 0, 40, .inl f_row)), (a_fight_blows, .inl (X.2.1 0, 200, .inl f_fight_blows)), (a_notes_delays, .inl (X.2.1 0, 8, .inl f_notes_delays))] o := by
  refine MI_ofH (cc := cX0_secondOf) (maxL := 3) (rt := .int) (by decide) rfl (Nat.le_of_ble_eq_true rfl) ?_
  intro p e s m below meth c A Q H ls hx hb hml hts hown hA hD hG hP hS hl ret
  have hown : s.vm.findClass RX0 = some m.cls := hown
  have hD : aD A [a_this, a_fight, a_heads, a_notes, a_row, a_fight_blows, a_notes_delays] := hD
  have hl : lv_has ls 3 [(0, .ref a_this), (1, .int x0)] := hl
  have w1 := hts (.fieldLink RX0 19 "ThreeCards$Buttons" "heads" "[I") (List.mem_of_getElem? (i := 1) rfl)
  have w2 := hts (.fieldLink RX0 15 "ThreeCards$Buttons" "rowCount" "I") (List.mem_of_getElem? (i := 2) rfl)
  have w3 := hts (.fieldLink RX0 22 "ThreeCards$Buttons" "fight" "LThreeCards$Fight;") (List.mem_of_getElem? (i := 3) rfl)
  have w4 := hts (.fieldLink RX0 9 "ThreeCards$Buttons" "row" "[I") (List.mem_of_getElem? (i := 4) rfl)
  have w5 := hts (.fieldLink RX0 26 "ThreeCards$Buttons" "notes" "LThreeCards$Notes;") (List.mem_of_getElem? (i := 5) rfl)
  have in0 : ∀ w ∈ u_ws RX0 TX0 5, w ∈ wsX0_secondOf := by decide +kernel
  have in5 : ∀ w ∈ u_ws RX5 TX5 3, w ∈ wsX0_secondOf := by decide +kernel
  unfold mX0_secondOf at hf
  refine lv_aload_n hx hb dX0_secondOf_0 rfl (lv_at hl 0 rfl) ?_
  refine va_get (D := X.1) (ci := 0) (v := .ref a_heads) (C := RX0) (T := TX0) (N := 5) hx hb hts in0 hown hG.1 hP 0 rfl rfl 4 (by decide) w1 (fun _ h9 => h9) rfl dX0_secondOf_1 ?_
  refine lv_iload_n hx hb dX0_secondOf_4 rfl (lv_at hl 1 rfl) ?_
  obtain ⟨h_1, hf⟩ := gi_s hf
  refine va_iald (D := X.1) hx hb hG.1 hP 2 0 rfl rfl h_1 dX0_secondOf_5 ?_
  refine lv_topi (fun v_2 ev_2 => ?_)
  have hf := lb_s hf ev_2
  refine lv_istore_n (lv' := [(2, .int v_2), (0, .ref a_this), (1, .int x0)]) hx hb dX0_secondOf_6 rfl hl (by decide) rfl (fun ls hl => ?_)
  refine lv_iload_n hx hb dX0_secondOf_7 rfl (lv_at hl 0 rfl) ?_
  refine lv_aload_n hx hb dX0_secondOf_8 rfl (lv_at hl 1 rfl) ?_
  refine va_get (D := X.1) (ci := 0) (v := .int i_rowCount) (C := RX0) (T := TX0) (N := 5) hx hb hts in0 hown hG.1 hP 0 rfl rfl 3 (by decide) w2 (fun _ h9 => h9) rfl dX0_secondOf_9 ?_
  refine lv_icmp_ge (tgt := 42) hx hb dX0_secondOf_12 (by decide) (fun c_3 => ?_) (fun c_3 => ?_)
  · have hf := xt hf c_3
    refine lv_sipush (v := (1000 : Int32)) hx hb dX0_secondOf_42 (by decide) ?_
    obtain rfl := Option.some.inj hf
    exact ret H _ ls _ rfl hP hD hS dX0_secondOf_45
  · have hf := xf hf c_3
    refine lv_aload_n hx hb dX0_secondOf_15 rfl (lv_at hl 1 rfl) ?_
    refine va_get (D := X.1) (ci := 0) (v := .ref a_fight) (C := RX0) (T := TX0) (N := 5) hx hb hts in0 hown hG.1 hP 0 rfl rfl 0 (by decide) w3 (fun _ h9 => h9) rfl dX0_secondOf_16 ?_
    refine lv_aload_n hx hb dX0_secondOf_19 rfl (lv_at hl 1 rfl) ?_
    refine va_get (D := X.1) (ci := 0) (v := .ref a_row) (C := RX0) (T := TX0) (N := 5) hx hb hts in0 hown hG.1 hP 0 rfl rfl 2 (by decide) w4 (fun _ h9 => h9) rfl dX0_secondOf_20 ?_
    refine lv_iload_n hx hb dX0_secondOf_23 rfl (lv_at hl 0 rfl) ?_
    obtain ⟨h_4, hf⟩ := gi_s hf
    refine va_iald (D := X.1) hx hb hG.1 hP 4 0 rfl rfl h_4 dX0_secondOf_24 ?_
    refine lv_iconst (v := (1 : Int32)) hx hb dX0_secondOf_25 (by decide) ?_
    obtain ⟨o_5, ho_5, hf⟩ := ob_s hf
    refine xV_i (As := [.int (f_row v_2.toNatClampNeg), .int (1 : Int32)]) (b := a_fight) (rest := []) (ws2 := [(a_this, .inr (0, [.ref a_fight, .ref a_notes, .ref a_row, .int i_rowCount, .ref a_heads])), (a_fight, .inr (3, [.int i_fight_rounds, .int i_fight_home, .int i_fight_noise, .int i_fight_blowCount, .int i_fight_judgeCount, .ref a_fight_blows, .ref a_fight_judges, .ref a_fight_forward, .ref a_fight_downs, .ref a_fight_taken, .ref a_fight_seenBy, .ref a_fight_sums, .ref a_fight_leads])), (a_heads, .inl (X.2.1 0, 8, .inl f_heads)), (a_notes, .inr (5, [.ref a_notes_delays, .ref a_notes_margins, .ref a_notes_odds])), (a_row, .inl (X.2.1 0, 40, .inl f_row)), (a_fight_blows, .inl (X.2.1 0, 200, .inl f_fight_blows)), (a_notes_delays, .inl (X.2.1 0, 8, .inl f_notes_delays))]) hx hb hml hts hown hG hA hP hD rfl hS hl.1 (qX3_blowPart l X a_fight a_fight_blows a_fight_judges a_fight_forward a_fight_downs a_fight_taken a_fight_seenBy a_fight_sums a_fight_leads i_fight_rounds i_fight_home i_fight_noise i_fight_blowCount i_fight_judgeCount f_fight_blows (f_row v_2.toNatClampNeg) (1 : Int32) o_5 ho_5) (cwV (y := yX3_blowPart) 2 hts gX0_secondOf_X3_blowPart rfl rfl rfl hdvX3_blowPart ⟨Nat.le_of_ble_eq_true rfl, Nat.le_of_ble_eq_true rfl⟩) [1, 5] [0, 2, 3, 4, 6] [0, 5, 1, 2, 3, 6, 4] rfl rfl rfl rfl rfl rfl rfl (ci := 3) rfl 1 rfl rfl rfl (Nat.le_of_ble_eq_true rfl) ⟨Nat.le_of_ble_eq_true rfl, Nat.le_of_ble_eq_true rfl⟩ dX0_secondOf_26 (fun H locs hP _ hS => ?_)
    refine lv_aload_n hx hb dX0_secondOf_29 rfl (lv_at hl 1 rfl) ?_
    refine va_get (D := X.1) (ci := 0) (v := .ref a_notes) (C := RX0) (T := TX0) (N := 5) hx hb hts in0 hown hG.1 hP 0 rfl rfl 1 (by decide) w5 (fun _ h9 => h9) rfl dX0_secondOf_30 ?_
    refine va_getN (D := X.1) (ci := 5) (v := .ref a_notes_delays) (C := RX5) (T := TX5) (N := 3) hx hb hts in5 hown hG.1 hP 3 rfl rfl 0 (by decide) (va_Nw.use rfl (nf14 hG.2.1)) (fun _ h9 => h9) rfl dX0_secondOf_33 ?_
    refine lv_iload_n hx hb dX0_secondOf_36 rfl (lv_at hl 2 rfl) ?_
    obtain ⟨h_7, hf⟩ := gi_s hf
    refine va_iald (D := X.1) hx hb hG.1 hP 6 0 rfl rfl h_7 dX0_secondOf_37 ?_
    refine lv_iadd hx hb dX0_secondOf_38 ?_
    refine lv_goto (tgt := 45) hx hb dX0_secondOf_39 (by decide) ?_
    refine lv_topi (fun v_8 ev_8 => ?_)
    have hf := lb_s hf ev_8
    obtain rfl := Option.some.inj hf
    exact ret H _ ls _ rfl hP hD hS dX0_secondOf_45
def mX0_firstPresser_B8 (i_rowCount : Int32) (i_fight_judgeCount : Int32) (f_heads : Nat → Int32) (f_row : Nat → Int32) (f_fight_blows : Nat → Int32) (f_notes_delays : Nat → Int32) (k8 : Int32 → Int32 → Int32 → Option (Int32)) (l1 : Int32) (l2 : Int32) (l3 : Int32) :
  Option (Int32) :=
  if i_fight_judgeCount ≤ l3 then (some l1) else ((mX0_secondOf l3 i_rowCount f_heads f_row f_fight_blows f_notes_delays).bind fun o_2 =>
  if l2 ≤ o_2 then (lb (l3 + (1 : Int32)) fun v_5 =>
  k8 l1 l2 v_5) else (lb (l3 + (1 : Int32)) fun v_6 =>
  k8 l3 o_2 v_6))
def mX0_firstPresser_L8 (i_rowCount : Int32) (i_fight_judgeCount : Int32) (f_heads : Nat → Int32) (f_row : Nat → Int32) (f_fight_blows : Nat → Int32) (f_notes_delays : Nat → Int32) (n : Nat) (l1 : Int32) (l2 : Int32) (l3 : Int32) :
  Option (Int32) :=
  loopN (fun k (s : Int32 × Int32 × Int32) => mX0_firstPresser_B8 i_rowCount i_fight_judgeCount f_heads f_row f_fight_blows f_notes_delays  (fun l1 l2 l3 => k (l1, l2, l3)) s.1 s.2.1 s.2.2) n (l1, l2, l3)
def mX0_firstPresser (i_rowCount : Int32) (i_fight_judgeCount : Int32) (f_heads : Nat → Int32) (f_row : Nat → Int32) (f_fight_blows : Nat → Int32) (f_notes_delays : Nat → Int32) :
  Option (Int32) :=
  mX0_firstPresser_L8 i_rowCount i_fight_judgeCount f_heads f_row f_fight_blows f_notes_delays  FUEL (-1 : Int32) (1000 : Int32) (0 : Int32)
theorem hdsX0_firstPresser : yX0_firstPresser.cls ≠ "java/lang/invoke/MethodHandle" ∧ yX0_firstPresser.cls ≠ "java/lang/invoke/VarHandle" ∧ (parseMethodDescriptor yX0_firstPresser.desc).map (fun d => d.parameters.length) = some 0 := by decide +kernel
theorem hdvX0_firstPresser : yX0_firstPresser.cls = RX0 ∧ yX0_firstPresser.cls ≠ "java/lang/invoke/MethodHandle" ∧ yX0_firstPresser.cls ≠ "java/lang/invoke/VarHandle" ∧ (parseMethodDescriptor yX0_firstPresser.desc).map (fun d => d.parameters.length) = some 0 := by decide +kernel
abbrev rmX0_firstPresser : Room := { frames := 2, cells := 0, slots := 0, locals := 44 }
set_option maxHeartbeats 4000000 in
set_option maxRecDepth 100000 in
theorem qX0_firstPresser (l : Launch) (X : XT) (a_this : Nat) (a_fight : Nat) (a_heads : Nat) (a_notes : Nat) (a_row : Nat) (a_fight_blows : Nat) (a_notes_delays : Nat) (a_fight_judges : Nat) (a_fight_forward : Nat) (a_fight_downs : Nat) (a_fight_taken : Nat) (a_fight_seenBy : Nat) (a_fight_sums : Nat) (a_fight_leads : Nat) (a_notes_margins : Nat) (a_notes_odds : Nat)  (i_rowCount : Int32) (i_fight_rounds : Int32) (i_fight_home : Int32) (i_fight_noise : Int32) (i_fight_blowCount : Int32) (i_fight_judgeCount : Int32) (f_heads : Nat → Int32) (f_row : Nat → Int32) (f_fight_blows : Nat → Int32) (f_notes_delays : Nat → Int32)  (o : Int32) (hf : mX0_firstPresser i_rowCount i_fight_judgeCount f_heads f_row f_fight_blows f_notes_delays = some o) :
    MI l yX0_firstPresser wsX0_firstPresser rmX0_firstPresser X [.ref a_this] [(a_this, .inr (0, [.ref a_fight, .ref a_notes, .ref a_row, .int i_rowCount, .ref a_heads])), (a_fight, .inr (3, [.int i_fight_rounds, .int i_fight_home, .int i_fight_noise, .int i_fight_blowCount, .int i_fight_judgeCount, .ref a_fight_blows, .ref a_fight_judges, .ref a_fight_forward, .ref a_fight_downs, .ref a_fight_taken, .ref a_fight_seenBy, .ref a_fight_sums, .ref a_fight_leads])), (a_heads, .inl (X.2.1 0, 8, .inl f_heads)), (a_notes, .inr (5, [.ref a_notes_delays, .ref a_notes_margins, .ref a_notes_odds])), (a_row, .inl (X.2.1 0, 40, .inl f_row)), (a_fight_blows, .inl (X.2.1 0, 200, .inl f_fight_blows)), (a_notes_delays, .inl (X.2.1 0, 8, .inl f_notes_delays))]  [(a_this, .inr (0, [.ref a_fight, .ref a_notes, .ref a_row, .int i_rowCount, .ref a_heads])), (a_fight, .inr (3, [.int i_fight_rounds, .int i_fight_home, .int i_fight_noise, .int i_fight_blowCount, .int i_fight_judgeCount, .ref a_fight_blows, .ref a_fight_judges, .ref a_fight_forward, .ref a_fight_downs, .ref a_fight_taken, .ref a_fight_seenBy, .ref a_fight_sums, .ref a_fight_leads])), (a_heads, .inl (X.2.1 0, 8, .inl f_heads)), (a_notes, .inr (5, [.ref a_notes_delays, .ref a_notes_margins, .ref a_notes_odds])), (a_row, .inl (X.2.1 0, 40, .inl f_row)), (a_fight_blows, .inl (X.2.1 0, 200, .inl f_fight_blows)), (a_notes_delays, .inl (X.2.1 0, 8, .inl f_notes_delays))] o := by
  refine MI_ofH (cc := cX0_firstPresser) (maxL := 5) (rt := .int) (by decide) rfl (Nat.le_of_ble_eq_true rfl) ?_
  intro p e s m below meth c A Q H ls hx hb hml hts hown hA hD hG hP hS hl ret
  have hown : s.vm.findClass RX0 = some m.cls := hown
  have hD : aD A [a_this, a_fight, a_heads, a_notes, a_row, a_fight_blows, a_notes_delays] := hD
  have hl : lv_has ls 5 [(0, .ref a_this)] := hl
  have w1 := hts (.fieldLink RX0 22 "ThreeCards$Buttons" "fight" "LThreeCards$Fight;") (List.mem_of_getElem? (i := 1) rfl)
  have in0 : ∀ w ∈ u_ws RX0 TX0 5, w ∈ wsX0_firstPresser := by decide +kernel
  have in3 : ∀ w ∈ u_ws RX3 TX3 13, w ∈ wsX0_firstPresser := by decide +kernel
  have hL8 : ∀ (n : Nat) (l1 : Int32) (l2 : Int32) (l3 : Int32)  (H : Heap) (locs : List Loc) (ls : Array Slot), va_P X.1 vwCl [(a_this, .inr (0, [.ref a_fight, .ref a_notes, .ref a_row, .int i_rowCount, .ref a_heads])), (a_fight, .inr (3, [.int i_fight_rounds, .int i_fight_home, .int i_fight_noise, .int i_fight_blowCount, .int i_fight_judgeCount, .ref a_fight_blows, .ref a_fight_judges, .ref a_fight_forward, .ref a_fight_downs, .ref a_fight_taken, .ref a_fight_seenBy, .ref a_fight_sums, .ref a_fight_leads])), (a_heads, .inl (X.2.1 0, 8, .inl f_heads)), (a_notes, .inr (5, [.ref a_notes_delays, .ref a_notes_margins, .ref a_notes_odds])), (a_row, .inl (X.2.1 0, 40, .inl f_row)), (a_fight_blows, .inl (X.2.1 0, 200, .inl f_fight_blows)), (a_notes_delays, .inl (X.2.1 0, 8, .inl f_notes_delays))] H → va_S A s.heap H locs → lv_has ls 5 [(0, .ref a_this), (1, .int l1), (2, .int l2), (3, .int l3)] → mX0_firstPresser_L8 i_rowCount i_fight_judgeCount f_heads f_row f_fight_blows f_notes_delays  n l1 l2 l3 = some o → W p l e rmX0_firstPresser s m ([.ref a_this] : List Value).toArray below meth c H locs 0 0 Q (F0 m 8 ls []) := by
    intro n
    induction n with
    | zero => intro l1 l2 l3  H locs ls hP hS hl hf; exact xn hf
    | succ n ih =>
      intro l1 l2 l3  H locs ls hP hS hl hf
      have hf : mX0_firstPresser_B8 i_rowCount i_fight_judgeCount f_heads f_row f_fight_blows f_notes_delays  (mX0_firstPresser_L8 i_rowCount i_fight_judgeCount f_heads f_row f_fight_blows f_notes_delays  n) l1 l2 l3 = some o := hf
      generalize mX0_firstPresser_L8 i_rowCount i_fight_judgeCount f_heads f_row f_fight_blows f_notes_delays  n = k8 at ih hf
      unfold mX0_firstPresser_B8 at hf
      refine lv_iload_n hx hb dX0_firstPresser_8 rfl (lv_at hl 3 rfl) ?_
      refine lv_aload_n hx hb dX0_firstPresser_9 rfl (lv_at hl 0 rfl) ?_
      refine va_get (D := X.1) (ci := 0) (v := .ref a_fight) (C := RX0) (T := TX0) (N := 5) hx hb hts in0 hown hG.1 hP 0 rfl rfl 0 (by decide) w1 (fun _ h9 => h9) rfl dX0_firstPresser_10 ?_
      refine va_getN (D := X.1) (ci := 3) (v := .int i_fight_judgeCount) (C := RX3) (T := TX3) (N := 13) hx hb hts in3 hown hG.1 hP 1 rfl rfl 4 (by decide) (va_Nw.use rfl (nf8 hG.2.1)) (fun _ h9 => h9) rfl dX0_firstPresser_13 ?_
      refine lv_icmp_ge (tgt := 43) hx hb dX0_firstPresser_16 (by decide) (fun c_1 => ?_) (fun c_1 => ?_)
      · have hf := xt hf c_1
        refine lv_iload_n hx hb dX0_firstPresser_43 rfl (lv_at hl 1 rfl) ?_
        obtain rfl := Option.some.inj hf
        exact ret H _ ls _ rfl hP hD hS dX0_firstPresser_44
      · have hf := xf hf c_1
        refine lv_aload_n hx hb dX0_firstPresser_19 rfl (lv_at hl 0 rfl) ?_
        refine lv_iload_n hx hb dX0_firstPresser_20 rfl (lv_at hl 3 rfl) ?_
        obtain ⟨o_2, ho_2, hf⟩ := ob_s hf
        refine xV_i (As := [.int l3]) (b := a_this) (rest := []) (ws2 := [(a_this, .inr (0, [.ref a_fight, .ref a_notes, .ref a_row, .int i_rowCount, .ref a_heads])), (a_fight, .inr (3, [.int i_fight_rounds, .int i_fight_home, .int i_fight_noise, .int i_fight_blowCount, .int i_fight_judgeCount, .ref a_fight_blows, .ref a_fight_judges, .ref a_fight_forward, .ref a_fight_downs, .ref a_fight_taken, .ref a_fight_seenBy, .ref a_fight_sums, .ref a_fight_leads])), (a_heads, .inl (X.2.1 0, 8, .inl f_heads)), (a_notes, .inr (5, [.ref a_notes_delays, .ref a_notes_margins, .ref a_notes_odds])), (a_row, .inl (X.2.1 0, 40, .inl f_row)), (a_fight_blows, .inl (X.2.1 0, 200, .inl f_fight_blows)), (a_notes_delays, .inl (X.2.1 0, 8, .inl f_notes_delays))]) hx hb hml hts hown hG hA hP hD rfl hS hl.1 (qX0_secondOf l X a_this a_fight a_heads a_notes a_row a_fight_blows a_notes_delays a_fight_judges a_fight_forward a_fight_downs a_fight_taken a_fight_seenBy a_fight_sums a_fight_leads a_notes_margins a_notes_odds i_rowCount i_fight_rounds i_fight_home i_fight_noise i_fight_blowCount i_fight_judgeCount f_heads f_row f_fight_blows f_notes_delays l3 o_2 ho_2) (cwV (y := yX0_secondOf) 1 hts gX0_firstPresser_X0_secondOf rfl rfl rfl hdvX0_secondOf ⟨Nat.le_of_ble_eq_true rfl, Nat.le_of_ble_eq_true rfl⟩) [0, 1, 2, 3, 4, 5, 6] [] [0, 1, 2, 3, 4, 5, 6] rfl rfl rfl rfl rfl rfl rfl (ci := 0) rfl 0 rfl rfl rfl (Nat.le_of_ble_eq_true rfl) ⟨Nat.le_of_ble_eq_true rfl, Nat.le_of_ble_eq_true rfl⟩ dX0_firstPresser_21 (fun H locs hP _ hS => ?_)
        refine lv_istore (lv' := [(4, .int o_2), (0, .ref a_this), (1, .int l1), (2, .int l2), (3, .int l3)]) hx hb dX0_firstPresser_24 hl (by decide) rfl (fun ls hl => ?_)
        refine lv_iload hx hb dX0_firstPresser_26 (lv_at hl 0 rfl) ?_
        refine lv_iload_n hx hb dX0_firstPresser_28 rfl (lv_at hl 3 rfl) ?_
        refine lv_icmp_ge (tgt := 37) hx hb dX0_firstPresser_29 (by decide) (fun c_4 => ?_) (fun c_4 => ?_)
        · have hf := xt hf c_4
          obtain ⟨v_5, ev_5, hf⟩ := lb_g hf
          refine lv_iinc (v := v_5) (lv' := [(3, .int v_5), (4, .int o_2), (0, .ref a_this), (1, .int l1), (2, .int l2)]) hx hb dX0_firstPresser_37 hl (k := 4) rfl ev_5.symm (by decide) rfl (fun ls hl => ?_)
          refine lv_goto (tgt := 8) hx hb dX0_firstPresser_40 (by decide) ?_
          exact ih l1 l2 v_5  H _ ls hP  hS (lv_sub hl [2, 3, 4, 0] rfl) hf
        · have hf := xf hf c_4
          refine lv_iload_n hx hb dX0_firstPresser_32 rfl (lv_at hl 4 rfl) ?_
          refine lv_istore_n (lv' := [(1, .int l3), (4, .int o_2), (0, .ref a_this), (2, .int l2), (3, .int l3)]) hx hb dX0_firstPresser_33 rfl hl (by decide) rfl (fun ls hl => ?_)
          refine lv_iload hx hb dX0_firstPresser_34 (lv_at hl 1 rfl) ?_
          refine lv_istore_n (lv' := [(2, .int o_2), (1, .int l3), (4, .int o_2), (0, .ref a_this), (3, .int l3)]) hx hb dX0_firstPresser_36 rfl hl (by decide) rfl (fun ls hl => ?_)
          obtain ⟨v_6, ev_6, hf⟩ := lb_g hf
          refine lv_iinc (v := v_6) (lv' := [(3, .int v_6), (2, .int o_2), (1, .int l3), (4, .int o_2), (0, .ref a_this)]) hx hb dX0_firstPresser_37 hl (k := 4) rfl ev_6.symm (by decide) rfl (fun ls hl => ?_)
          refine lv_goto (tgt := 8) hx hb dX0_firstPresser_40 (by decide) ?_
          exact ih l3 o_2 v_6  H _ ls hP  hS (lv_sub hl [4, 2, 1, 0] rfl) hf
  unfold mX0_firstPresser at hf
  refine lv_iconst (v := (-1 : Int32)) hx hb dX0_firstPresser_0 (by decide) ?_
  refine lv_istore_n (lv' := [(1, .int (-1 : Int32)), (0, .ref a_this)]) hx hb dX0_firstPresser_1 rfl hl (by decide) rfl (fun ls hl => ?_)
  refine lv_sipush (v := (1000 : Int32)) hx hb dX0_firstPresser_2 (by decide) ?_
  refine lv_istore_n (lv' := [(2, .int (1000 : Int32)), (1, .int (-1 : Int32)), (0, .ref a_this)]) hx hb dX0_firstPresser_5 rfl hl (by decide) rfl (fun ls hl => ?_)
  refine lv_iconst (v := (0 : Int32)) hx hb dX0_firstPresser_6 (by decide) ?_
  refine lv_istore_n (lv' := [(3, .int (0 : Int32)), (2, .int (1000 : Int32)), (1, .int (-1 : Int32)), (0, .ref a_this)]) hx hb dX0_firstPresser_7 rfl hl (by decide) rfl (fun ls hl => ?_)
  exact hL8  FUEL (-1 : Int32) (1000 : Int32) (0 : Int32)  H _ ls hP  hS (lv_sub hl [3, 2, 1, 0] rfl) hf
def mX0_pressersUntil_B4 (x0 : Int32) (i_rowCount : Int32) (i_fight_judgeCount : Int32) (f_heads : Nat → Int32) (f_row : Nat → Int32) (f_fight_blows : Nat → Int32) (f_notes_delays : Nat → Int32) (k4 : Int32 → Int32 → Option (Int32)) (l2 : Int32) (l3 : Int32) :
  Option (Int32) :=
  if i_fight_judgeCount ≤ l3 then (some l2) else ((mX0_secondOf l3 i_rowCount f_heads f_row f_fight_blows f_notes_delays).bind fun o_2 =>
  if x0 < o_2 then (lb (l2 + (0 : Int32)) fun v_5 =>
  lb (l3 + (1 : Int32)) fun v_6 =>
  k4 v_5 v_6) else (lb (l2 + (1 : Int32)) fun v_7 =>
  lb (l3 + (1 : Int32)) fun v_8 =>
  k4 v_7 v_8))
def mX0_pressersUntil_L4 (x0 : Int32) (i_rowCount : Int32) (i_fight_judgeCount : Int32) (f_heads : Nat → Int32) (f_row : Nat → Int32) (f_fight_blows : Nat → Int32) (f_notes_delays : Nat → Int32) (n : Nat) (l2 : Int32) (l3 : Int32) :
  Option (Int32) :=
  loopN (fun k (s : Int32 × Int32) => mX0_pressersUntil_B4 x0 i_rowCount i_fight_judgeCount f_heads f_row f_fight_blows f_notes_delays  (fun l2 l3 => k (l2, l3)) s.1 s.2) n (l2, l3)
def mX0_pressersUntil (x0 : Int32) (i_rowCount : Int32) (i_fight_judgeCount : Int32) (f_heads : Nat → Int32) (f_row : Nat → Int32) (f_fight_blows : Nat → Int32) (f_notes_delays : Nat → Int32) :
  Option (Int32) :=
  mX0_pressersUntil_L4 x0 i_rowCount i_fight_judgeCount f_heads f_row f_fight_blows f_notes_delays  FUEL (0 : Int32) (0 : Int32)
theorem hdsX0_pressersUntil : yX0_pressersUntil.cls ≠ "java/lang/invoke/MethodHandle" ∧ yX0_pressersUntil.cls ≠ "java/lang/invoke/VarHandle" ∧ (parseMethodDescriptor yX0_pressersUntil.desc).map (fun d => d.parameters.length) = some 1 := by decide +kernel
theorem hdvX0_pressersUntil : yX0_pressersUntil.cls = RX0 ∧ yX0_pressersUntil.cls ≠ "java/lang/invoke/MethodHandle" ∧ yX0_pressersUntil.cls ≠ "java/lang/invoke/VarHandle" ∧ (parseMethodDescriptor yX0_pressersUntil.desc).map (fun d => d.parameters.length) = some 1 := by decide +kernel
abbrev rmX0_pressersUntil : Room := { frames := 2, cells := 0, slots := 0, locals := 44 }
set_option maxHeartbeats 4000000 in
set_option maxRecDepth 100000 in
theorem qX0_pressersUntil (l : Launch) (X : XT) (a_this : Nat) (a_fight : Nat) (a_heads : Nat) (a_notes : Nat) (a_row : Nat) (a_fight_blows : Nat) (a_notes_delays : Nat) (a_fight_judges : Nat) (a_fight_forward : Nat) (a_fight_downs : Nat) (a_fight_taken : Nat) (a_fight_seenBy : Nat) (a_fight_sums : Nat) (a_fight_leads : Nat) (a_notes_margins : Nat) (a_notes_odds : Nat)  (i_rowCount : Int32) (i_fight_rounds : Int32) (i_fight_home : Int32) (i_fight_noise : Int32) (i_fight_blowCount : Int32) (i_fight_judgeCount : Int32) (f_heads : Nat → Int32) (f_row : Nat → Int32) (f_fight_blows : Nat → Int32) (f_notes_delays : Nat → Int32) (x0 : Int32) (o : Int32) (hf : mX0_pressersUntil x0 i_rowCount i_fight_judgeCount f_heads f_row f_fight_blows f_notes_delays = some o) :
    MI l yX0_pressersUntil wsX0_pressersUntil rmX0_pressersUntil X [.ref a_this, .int x0] [(a_this, .inr (0, [.ref a_fight, .ref a_notes, .ref a_row, .int i_rowCount, .ref a_heads])), (a_fight, .inr (3, [.int i_fight_rounds, .int i_fight_home, .int i_fight_noise, .int i_fight_blowCount, .int i_fight_judgeCount, .ref a_fight_blows, .ref a_fight_judges, .ref a_fight_forward, .ref a_fight_downs, .ref a_fight_taken, .ref a_fight_seenBy, .ref a_fight_sums, .ref a_fight_leads])), (a_heads, .inl (X.2.1 0, 8, .inl f_heads)), (a_notes, .inr (5, [.ref a_notes_delays, .ref a_notes_margins, .ref a_notes_odds])), (a_row, .inl (X.2.1 0, 40, .inl f_row)), (a_fight_blows, .inl (X.2.1 0, 200, .inl f_fight_blows)), (a_notes_delays, .inl (X.2.1 0, 8, .inl f_notes_delays))]  [(a_this, .inr (0, [.ref a_fight, .ref a_notes, .ref a_row, .int i_rowCount, .ref a_heads])), (a_fight, .inr (3, [.int i_fight_rounds, .int i_fight_home, .int i_fight_noise, .int i_fight_blowCount, .int i_fight_judgeCount, .ref a_fight_blows, .ref a_fight_judges, .ref a_fight_forward, .ref a_fight_downs, .ref a_fight_taken, .ref a_fight_seenBy, .ref a_fight_sums, .ref a_fight_leads])), (a_heads, .inl (X.2.1 0, 8, .inl f_heads)), (a_notes, .inr (5, [.ref a_notes_delays, .ref a_notes_margins, .ref a_notes_odds])), (a_row, .inl (X.2.1 0, 40, .inl f_row)), (a_fight_blows, .inl (X.2.1 0, 200, .inl f_fight_blows)), (a_notes_delays, .inl (X.2.1 0, 8, .inl f_notes_delays))] o := by
  refine MI_ofH (cc := cX0_pressersUntil) (maxL := 4) (rt := .int) (by decide) rfl (Nat.le_of_ble_eq_true rfl) ?_
  intro p e s m below meth c A Q H ls hx hb hml hts hown hA hD hG hP hS hl ret
  have hown : s.vm.findClass RX0 = some m.cls := hown
  have hD : aD A [a_this, a_fight, a_heads, a_notes, a_row, a_fight_blows, a_notes_delays] := hD
  have hl : lv_has ls 4 [(0, .ref a_this), (1, .int x0)] := hl
  have w1 := hts (.fieldLink RX0 22 "ThreeCards$Buttons" "fight" "LThreeCards$Fight;") (List.mem_of_getElem? (i := 1) rfl)
  have in0 : ∀ w ∈ u_ws RX0 TX0 5, w ∈ wsX0_pressersUntil := by decide +kernel
  have in3 : ∀ w ∈ u_ws RX3 TX3 13, w ∈ wsX0_pressersUntil := by decide +kernel
  have hL4 : ∀ (n : Nat) (l2 : Int32) (l3 : Int32)  (H : Heap) (locs : List Loc) (ls : Array Slot), va_P X.1 vwCl [(a_this, .inr (0, [.ref a_fight, .ref a_notes, .ref a_row, .int i_rowCount, .ref a_heads])), (a_fight, .inr (3, [.int i_fight_rounds, .int i_fight_home, .int i_fight_noise, .int i_fight_blowCount, .int i_fight_judgeCount, .ref a_fight_blows, .ref a_fight_judges, .ref a_fight_forward, .ref a_fight_downs, .ref a_fight_taken, .ref a_fight_seenBy, .ref a_fight_sums, .ref a_fight_leads])), (a_heads, .inl (X.2.1 0, 8, .inl f_heads)), (a_notes, .inr (5, [.ref a_notes_delays, .ref a_notes_margins, .ref a_notes_odds])), (a_row, .inl (X.2.1 0, 40, .inl f_row)), (a_fight_blows, .inl (X.2.1 0, 200, .inl f_fight_blows)), (a_notes_delays, .inl (X.2.1 0, 8, .inl f_notes_delays))] H → va_S A s.heap H locs → lv_has ls 4 [(0, .ref a_this), (1, .int x0), (2, .int l2), (3, .int l3)] → mX0_pressersUntil_L4 x0 i_rowCount i_fight_judgeCount f_heads f_row f_fight_blows f_notes_delays  n l2 l3 = some o → W p l e rmX0_pressersUntil s m ([.ref a_this, .int x0] : List Value).toArray below meth c H locs 0 0 Q (F0 m 4 ls []) := by
    intro n
    induction n with
    | zero => intro l2 l3  H locs ls hP hS hl hf; exact xn hf
    | succ n ih =>
      intro l2 l3  H locs ls hP hS hl hf
      have hf : mX0_pressersUntil_B4 x0 i_rowCount i_fight_judgeCount f_heads f_row f_fight_blows f_notes_delays  (mX0_pressersUntil_L4 x0 i_rowCount i_fight_judgeCount f_heads f_row f_fight_blows f_notes_delays  n) l2 l3 = some o := hf
      generalize mX0_pressersUntil_L4 x0 i_rowCount i_fight_judgeCount f_heads f_row f_fight_blows f_notes_delays  n = k4 at ih hf
      unfold mX0_pressersUntil_B4 at hf
      refine lv_iload_n hx hb dX0_pressersUntil_4 rfl (lv_at hl 3 rfl) ?_
      refine lv_aload_n hx hb dX0_pressersUntil_5 rfl (lv_at hl 0 rfl) ?_
      refine va_get (D := X.1) (ci := 0) (v := .ref a_fight) (C := RX0) (T := TX0) (N := 5) hx hb hts in0 hown hG.1 hP 0 rfl rfl 0 (by decide) w1 (fun _ h9 => h9) rfl dX0_pressersUntil_6 ?_
      refine va_getN (D := X.1) (ci := 3) (v := .int i_fight_judgeCount) (C := RX3) (T := TX3) (N := 13) hx hb hts in3 hown hG.1 hP 1 rfl rfl 4 (by decide) (va_Nw.use rfl (nf8 hG.2.1)) (fun _ h9 => h9) rfl dX0_pressersUntil_9 ?_
      refine lv_icmp_ge (tgt := 38) hx hb dX0_pressersUntil_12 (by decide) (fun c_1 => ?_) (fun c_1 => ?_)
      · have hf := xt hf c_1
        refine lv_iload_n hx hb dX0_pressersUntil_38 rfl (lv_at hl 2 rfl) ?_
        obtain rfl := Option.some.inj hf
        exact ret H _ ls _ rfl hP hD hS dX0_pressersUntil_39
      · have hf := xf hf c_1
        refine lv_iload_n hx hb dX0_pressersUntil_15 rfl (lv_at hl 2 rfl) ?_
        refine lv_aload_n hx hb dX0_pressersUntil_16 rfl (lv_at hl 0 rfl) ?_
        refine lv_iload_n hx hb dX0_pressersUntil_17 rfl (lv_at hl 3 rfl) ?_
        obtain ⟨o_2, ho_2, hf⟩ := ob_s hf
        refine xV_i (As := [.int l3]) (b := a_this) (rest := [.int l2]) (ws2 := [(a_this, .inr (0, [.ref a_fight, .ref a_notes, .ref a_row, .int i_rowCount, .ref a_heads])), (a_fight, .inr (3, [.int i_fight_rounds, .int i_fight_home, .int i_fight_noise, .int i_fight_blowCount, .int i_fight_judgeCount, .ref a_fight_blows, .ref a_fight_judges, .ref a_fight_forward, .ref a_fight_downs, .ref a_fight_taken, .ref a_fight_seenBy, .ref a_fight_sums, .ref a_fight_leads])), (a_heads, .inl (X.2.1 0, 8, .inl f_heads)), (a_notes, .inr (5, [.ref a_notes_delays, .ref a_notes_margins, .ref a_notes_odds])), (a_row, .inl (X.2.1 0, 40, .inl f_row)), (a_fight_blows, .inl (X.2.1 0, 200, .inl f_fight_blows)), (a_notes_delays, .inl (X.2.1 0, 8, .inl f_notes_delays))]) hx hb hml hts hown hG hA hP hD rfl hS hl.1 (qX0_secondOf l X a_this a_fight a_heads a_notes a_row a_fight_blows a_notes_delays a_fight_judges a_fight_forward a_fight_downs a_fight_taken a_fight_seenBy a_fight_sums a_fight_leads a_notes_margins a_notes_odds i_rowCount i_fight_rounds i_fight_home i_fight_noise i_fight_blowCount i_fight_judgeCount f_heads f_row f_fight_blows f_notes_delays l3 o_2 ho_2) (cwV (y := yX0_secondOf) 1 hts gX0_pressersUntil_X0_secondOf rfl rfl rfl hdvX0_secondOf ⟨Nat.le_of_ble_eq_true rfl, Nat.le_of_ble_eq_true rfl⟩) [0, 1, 2, 3, 4, 5, 6] [] [0, 1, 2, 3, 4, 5, 6] rfl rfl rfl rfl rfl rfl rfl (ci := 0) rfl 0 rfl rfl rfl (Nat.le_of_ble_eq_true rfl) ⟨Nat.le_of_ble_eq_true rfl, Nat.le_of_ble_eq_true rfl⟩ dX0_pressersUntil_18 (fun H locs hP _ hS => ?_)
        refine lv_iload_n hx hb dX0_pressersUntil_21 rfl (lv_at hl 1 rfl) ?_
        refine lv_icmp_gt (tgt := 29) hx hb dX0_pressersUntil_22 (by decide) (fun c_4 => ?_) (fun c_4 => ?_)
        · have hf := xt hf c_4
          refine lv_iconst (v := (0 : Int32)) hx hb dX0_pressersUntil_29 (by decide) ?_
          refine lv_iadd hx hb dX0_pressersUntil_30 ?_
          refine lv_topi (fun v_5 ev_5 => ?_)
          have hf := lb_s hf ev_5
          refine lv_istore_n (lv' := [(2, .int v_5), (0, .ref a_this), (1, .int x0), (3, .int l3)]) hx hb dX0_pressersUntil_31 rfl hl (by decide) rfl (fun ls hl => ?_)
          obtain ⟨v_6, ev_6, hf⟩ := lb_g hf
          refine lv_iinc (v := v_6) (lv' := [(3, .int v_6), (2, .int v_5), (0, .ref a_this), (1, .int x0)]) hx hb dX0_pressersUntil_32 hl (k := 3) rfl ev_6.symm (by decide) rfl (fun ls hl => ?_)
          refine lv_goto (tgt := 4) hx hb dX0_pressersUntil_35 (by decide) ?_
          exact ih v_5 v_6  H _ ls hP  hS (lv_sub hl [2, 3, 1, 0] rfl) hf
        · have hf := xf hf c_4
          refine lv_iconst (v := (1 : Int32)) hx hb dX0_pressersUntil_25 (by decide) ?_
          refine lv_goto (tgt := 30) hx hb dX0_pressersUntil_26 (by decide) ?_
          refine lv_iadd hx hb dX0_pressersUntil_30 ?_
          refine lv_topi (fun v_7 ev_7 => ?_)
          have hf := lb_s hf ev_7
          refine lv_istore_n (lv' := [(2, .int v_7), (0, .ref a_this), (1, .int x0), (3, .int l3)]) hx hb dX0_pressersUntil_31 rfl hl (by decide) rfl (fun ls hl => ?_)
          obtain ⟨v_8, ev_8, hf⟩ := lb_g hf
          refine lv_iinc (v := v_8) (lv' := [(3, .int v_8), (2, .int v_7), (0, .ref a_this), (1, .int x0)]) hx hb dX0_pressersUntil_32 hl (k := 3) rfl ev_8.symm (by decide) rfl (fun ls hl => ?_)
          refine lv_goto (tgt := 4) hx hb dX0_pressersUntil_35 (by decide) ?_
          exact ih v_7 v_8  H _ ls hP  hS (lv_sub hl [2, 3, 1, 0] rfl) hf
  unfold mX0_pressersUntil at hf
  refine lv_iconst (v := (0 : Int32)) hx hb dX0_pressersUntil_0 (by decide) ?_
  refine lv_istore_n (lv' := [(2, .int (0 : Int32)), (0, .ref a_this), (1, .int x0)]) hx hb dX0_pressersUntil_1 rfl hl (by decide) rfl (fun ls hl => ?_)
  refine lv_iconst (v := (0 : Int32)) hx hb dX0_pressersUntil_2 (by decide) ?_
  refine lv_istore_n (lv' := [(3, .int (0 : Int32)), (2, .int (0 : Int32)), (0, .ref a_this), (1, .int x0)]) hx hb dX0_pressersUntil_3 rfl hl (by decide) rfl (fun ls hl => ?_)
  exact hL4  FUEL (0 : Int32) (0 : Int32)  H _ ls hP  hS (lv_sub hl [2, 3, 1, 0] rfl) hf
def mX0_useOne (x0 : Int32) (i_rowCount : Int32) (f_heads : Nat → Int32) (f_row : Nat → Int32) (f_fight_seenBy : Nat → Int32) :
  Option ((Nat → Int32)) :=
  gi x0 8 <|
  (mX0_seenFrom x0 ((f_heads x0.toNatClampNeg) + (1 : Int32)) i_rowCount f_row f_fight_seenBy).bind fun o_2 =>
  gi x0 8 <|
  lb (upd f_heads x0.toNatClampNeg o_2) fun g_5 =>
  some g_5
theorem hdsX0_useOne : yX0_useOne.cls ≠ "java/lang/invoke/MethodHandle" ∧ yX0_useOne.cls ≠ "java/lang/invoke/VarHandle" ∧ (parseMethodDescriptor yX0_useOne.desc).map (fun d => d.parameters.length) = some 1 := by decide +kernel
theorem hdvX0_useOne : yX0_useOne.cls = RX0 ∧ yX0_useOne.cls ≠ "java/lang/invoke/MethodHandle" ∧ yX0_useOne.cls ≠ "java/lang/invoke/VarHandle" ∧ (parseMethodDescriptor yX0_useOne.desc).map (fun d => d.parameters.length) = some 1 := by decide +kernel
abbrev rmX0_useOne : Room := { frames := 2, cells := 0, slots := 0, locals := 45 }
set_option maxHeartbeats 4000000 in
set_option maxRecDepth 100000 in
theorem qX0_useOne (l : Launch) (X : XT) (a_this : Nat) (a_fight : Nat) (a_heads : Nat) (a_row : Nat) (a_fight_seenBy : Nat) (a_notes : Nat) (a_fight_blows : Nat) (a_fight_judges : Nat) (a_fight_forward : Nat) (a_fight_downs : Nat) (a_fight_taken : Nat) (a_fight_sums : Nat) (a_fight_leads : Nat)  (i_rowCount : Int32) (i_fight_rounds : Int32) (i_fight_home : Int32) (i_fight_noise : Int32) (i_fight_blowCount : Int32) (i_fight_judgeCount : Int32) (f_heads : Nat → Int32) (f_row : Nat → Int32) (f_fight_seenBy : Nat → Int32) (x0 : Int32) (o : (Nat → Int32)) (hf : mX0_useOne x0 i_rowCount f_heads f_row f_fight_seenBy = some o) :
    MC l yX0_useOne wsX0_useOne rmX0_useOne X [.ref a_this, .int x0] [(a_this, .inr (0, [.ref a_fight, .ref a_notes, .ref a_row, .int i_rowCount, .ref a_heads])), (a_fight, .inr (3, [.int i_fight_rounds, .int i_fight_home, .int i_fight_noise, .int i_fight_blowCount, .int i_fight_judgeCount, .ref a_fight_blows, .ref a_fight_judges, .ref a_fight_forward, .ref a_fight_downs, .ref a_fight_taken, .ref a_fight_seenBy, .ref a_fight_sums, .ref a_fight_leads])), (a_heads, .inl (X.2.1 0, 8, .inl f_heads)), (a_row, .inl (X.2.1 0, 40, .inl f_row)), (a_fight_seenBy, .inl (X.2.1 0, 40, .inl f_fight_seenBy))]  (fun _ => [(a_this, .inr (0, [.ref a_fight, .ref a_notes, .ref a_row, .int i_rowCount, .ref a_heads])), (a_fight, .inr (3, [.int i_fight_rounds, .int i_fight_home, .int i_fight_noise, .int i_fight_blowCount, .int i_fight_judgeCount, .ref a_fight_blows, .ref a_fight_judges, .ref a_fight_forward, .ref a_fight_downs, .ref a_fight_taken, .ref a_fight_seenBy, .ref a_fight_sums, .ref a_fight_leads])), (a_heads, .inl (X.2.1 0, 8, .inl o)), (a_row, .inl (X.2.1 0, 40, .inl f_row)), (a_fight_seenBy, .inl (X.2.1 0, 40, .inl f_fight_seenBy))]) 0 0 := by
  refine MC_ofH (cc := cX0_useOne) (maxL := 2) (by decide) rfl (Nat.le_of_ble_eq_true rfl) ?_
  intro p e s m below meth c A Q H ls hx hb hml hts hown hin hA hD hG hP hS hl ret
  have hown : s.vm.findClass RX0 = some m.cls := hown
  have hD : aD A [a_this, a_fight, a_heads, a_row, a_fight_seenBy] := hD
  have hl : lv_has ls 2 [(0, .ref a_this), (1, .int x0)] := hl
  have w1 := hts (.fieldLink RX0 19 "ThreeCards$Buttons" "heads" "[I") (List.mem_of_getElem? (i := 1) rfl)
  have in0 : ∀ w ∈ u_ws RX0 TX0 5, w ∈ wsX0_useOne := by decide +kernel
  unfold mX0_useOne at hf
  refine lv_aload_n hx hb dX0_useOne_0 rfl (lv_at hl 0 rfl) ?_
  refine va_get (D := X.1) (ci := 0) (v := .ref a_heads) (C := RX0) (T := TX0) (N := 5) hx hb hts in0 hown hG.1 hP 0 rfl rfl 4 (by decide) w1 (fun _ h9 => h9) rfl dX0_useOne_1 ?_
  refine lv_iload_n hx hb dX0_useOne_4 rfl (lv_at hl 1 rfl) ?_
  refine lv_aload_n hx hb dX0_useOne_5 rfl (lv_at hl 0 rfl) ?_
  refine lv_iload_n hx hb dX0_useOne_6 rfl (lv_at hl 1 rfl) ?_
  refine lv_aload_n hx hb dX0_useOne_7 rfl (lv_at hl 0 rfl) ?_
  refine va_get (D := X.1) (ci := 0) (v := .ref a_heads) (C := RX0) (T := TX0) (N := 5) hx hb hts in0 hown hG.1 hP 0 rfl rfl 4 (by decide) w1 (fun _ h9 => h9) rfl dX0_useOne_8 ?_
  refine lv_iload_n hx hb dX0_useOne_11 rfl (lv_at hl 1 rfl) ?_
  obtain ⟨h_1, hf⟩ := gi_s hf
  refine va_iald (D := X.1) hx hb hG.1 hP 2 0 rfl rfl h_1 dX0_useOne_12 ?_
  refine lv_iconst (v := (1 : Int32)) hx hb dX0_useOne_13 (by decide) ?_
  refine lv_iadd hx hb dX0_useOne_14 ?_
  obtain ⟨o_2, ho_2, hf⟩ := ob_s hf
  refine xV_i (As := [.int x0, .int ((f_heads x0.toNatClampNeg) + (1 : Int32))]) (b := a_this) (rest := [.int x0, .ref a_heads]) (ws2 := [(a_this, .inr (0, [.ref a_fight, .ref a_notes, .ref a_row, .int i_rowCount, .ref a_heads])), (a_fight, .inr (3, [.int i_fight_rounds, .int i_fight_home, .int i_fight_noise, .int i_fight_blowCount, .int i_fight_judgeCount, .ref a_fight_blows, .ref a_fight_judges, .ref a_fight_forward, .ref a_fight_downs, .ref a_fight_taken, .ref a_fight_seenBy, .ref a_fight_sums, .ref a_fight_leads])), (a_heads, .inl (X.2.1 0, 8, .inl f_heads)), (a_row, .inl (X.2.1 0, 40, .inl f_row)), (a_fight_seenBy, .inl (X.2.1 0, 40, .inl f_fight_seenBy))]) hx hb hml hts hown hG hA hP hD rfl hS hl.1 (qX0_seenFrom l X a_this a_fight a_row a_fight_seenBy a_notes a_heads a_fight_blows a_fight_judges a_fight_forward a_fight_downs a_fight_taken a_fight_sums a_fight_leads i_rowCount i_fight_rounds i_fight_home i_fight_noise i_fight_blowCount i_fight_judgeCount f_row f_fight_seenBy x0 ((f_heads x0.toNatClampNeg) + (1 : Int32)) o_2 ho_2) (cwV (y := yX0_seenFrom) 2 hts gX0_useOne_X0_seenFrom rfl rfl rfl hdvX0_seenFrom ⟨Nat.le_of_ble_eq_true rfl, Nat.le_of_ble_eq_true rfl⟩) [0, 1, 3, 4] [2] [1, 2, 0, 3, 4] rfl rfl rfl rfl rfl rfl rfl (ci := 0) rfl 0 rfl rfl rfl (Nat.le_of_ble_eq_true rfl) ⟨Nat.le_of_ble_eq_true rfl, Nat.le_of_ble_eq_true rfl⟩ dX0_useOne_15 (fun H locs hP _ hS => ?_)
  obtain ⟨h_4, hf⟩ := gi_s hf
  obtain ⟨g_5, eg_5, hf⟩ := lb_g hf
  refine x_iast (ws' := [(a_this, .inr (0, [.ref a_fight, .ref a_notes, .ref a_row, .int i_rowCount, .ref a_heads])), (a_fight, .inr (3, [.int i_fight_rounds, .int i_fight_home, .int i_fight_noise, .int i_fight_blowCount, .int i_fight_judgeCount, .ref a_fight_blows, .ref a_fight_judges, .ref a_fight_forward, .ref a_fight_downs, .ref a_fight_taken, .ref a_fight_seenBy, .ref a_fight_sums, .ref a_fight_leads])), (a_heads, .inl (X.2.1 0, 8, .inl g_5)), (a_row, .inl (X.2.1 0, 40, .inl f_row)), (a_fight_seenBy, .inl (X.2.1 0, 40, .inl f_fight_seenBy))]) hx hb hG hP hD rfl hS 2 rfl h_4 dX0_useOne_18 eg_5 rfl (fun H locs hP hS => ?_)
  obtain rfl := Option.some.inj hf
  exact ret (fun _ => 0) H _ ls _ hP hD hS dX0_useOne_19
def mX0_useUntil_B2 (x0 : Int32) (i_rowCount : Int32) (i_fight_judgeCount : Int32) (f_row : Nat → Int32) (f_fight_blows : Nat → Int32) (f_fight_seenBy : Nat → Int32) (f_notes_delays : Nat → Int32) (k2 : Int32 → (Nat → Int32) → Option ((Nat → Int32))) (l2 : Int32) (f_heads : Nat → Int32) :
  Option ((Nat → Int32)) :=
  if i_fight_judgeCount ≤ l2 then (some f_heads) else ((mX0_secondOf l2 i_rowCount f_heads f_row f_fight_blows f_notes_delays).bind fun o_2 =>
  if x0 < o_2 then (lb (l2 + (1 : Int32)) fun v_5 =>
  k2 v_5 f_heads) else ((mX0_useOne l2 i_rowCount f_heads f_row f_fight_seenBy).bind fun o_6 =>
  lb (l2 + (1 : Int32)) fun v_8 =>
  k2 v_8 o_6))
def mX0_useUntil_L2 (x0 : Int32) (i_rowCount : Int32) (i_fight_judgeCount : Int32) (f_row : Nat → Int32) (f_fight_blows : Nat → Int32) (f_fight_seenBy : Nat → Int32) (f_notes_delays : Nat → Int32) (n : Nat) (l2 : Int32) (f_heads : Nat → Int32) :
  Option ((Nat → Int32)) :=
  loopN (fun k (s : Int32 × (Nat → Int32)) => mX0_useUntil_B2 x0 i_rowCount i_fight_judgeCount f_row f_fight_blows f_fight_seenBy f_notes_delays  (fun l2 f_heads => k (l2, f_heads)) s.1 s.2) n (l2, f_heads)
def mX0_useUntil (x0 : Int32) (i_rowCount : Int32) (i_fight_judgeCount : Int32) (f_heads : Nat → Int32) (f_row : Nat → Int32) (f_fight_blows : Nat → Int32) (f_fight_seenBy : Nat → Int32) (f_notes_delays : Nat → Int32) :
  Option ((Nat → Int32)) :=
  mX0_useUntil_L2 x0 i_rowCount i_fight_judgeCount f_row f_fight_blows f_fight_seenBy f_notes_delays  FUEL (0 : Int32) f_heads
theorem hdsX0_useUntil : yX0_useUntil.cls ≠ "java/lang/invoke/MethodHandle" ∧ yX0_useUntil.cls ≠ "java/lang/invoke/VarHandle" ∧ (parseMethodDescriptor yX0_useUntil.desc).map (fun d => d.parameters.length) = some 1 := by decide +kernel
theorem hdvX0_useUntil : yX0_useUntil.cls = RX0 ∧ yX0_useUntil.cls ≠ "java/lang/invoke/MethodHandle" ∧ yX0_useUntil.cls ≠ "java/lang/invoke/VarHandle" ∧ (parseMethodDescriptor yX0_useUntil.desc).map (fun d => d.parameters.length) = some 1 := by decide +kernel
abbrev rmX0_useUntil : Room := { frames := 3, cells := 0, slots := 0, locals := 66 }
set_option maxHeartbeats 4000000 in
set_option maxRecDepth 100000 in
theorem qX0_useUntil (l : Launch) (X : XT) (a_this : Nat) (a_fight : Nat) (a_heads : Nat) (a_notes : Nat) (a_row : Nat) (a_fight_blows : Nat) (a_fight_seenBy : Nat) (a_notes_delays : Nat) (a_fight_judges : Nat) (a_fight_forward : Nat) (a_fight_downs : Nat) (a_fight_taken : Nat) (a_fight_sums : Nat) (a_fight_leads : Nat) (a_notes_margins : Nat) (a_notes_odds : Nat)  (i_rowCount : Int32) (i_fight_rounds : Int32) (i_fight_home : Int32) (i_fight_noise : Int32) (i_fight_blowCount : Int32) (i_fight_judgeCount : Int32) (f_heads : Nat → Int32) (f_row : Nat → Int32) (f_fight_blows : Nat → Int32) (f_fight_seenBy : Nat → Int32) (f_notes_delays : Nat → Int32) (x0 : Int32) (o : (Nat → Int32)) (hf : mX0_useUntil x0 i_rowCount i_fight_judgeCount f_heads f_row f_fight_blows f_fight_seenBy f_notes_delays = some o) :
    MC l yX0_useUntil wsX0_useUntil rmX0_useUntil X [.ref a_this, .int x0] [(a_this, .inr (0, [.ref a_fight, .ref a_notes, .ref a_row, .int i_rowCount, .ref a_heads])), (a_fight, .inr (3, [.int i_fight_rounds, .int i_fight_home, .int i_fight_noise, .int i_fight_blowCount, .int i_fight_judgeCount, .ref a_fight_blows, .ref a_fight_judges, .ref a_fight_forward, .ref a_fight_downs, .ref a_fight_taken, .ref a_fight_seenBy, .ref a_fight_sums, .ref a_fight_leads])), (a_heads, .inl (X.2.1 0, 8, .inl f_heads)), (a_notes, .inr (5, [.ref a_notes_delays, .ref a_notes_margins, .ref a_notes_odds])), (a_row, .inl (X.2.1 0, 40, .inl f_row)), (a_fight_blows, .inl (X.2.1 0, 200, .inl f_fight_blows)), (a_fight_seenBy, .inl (X.2.1 0, 40, .inl f_fight_seenBy)), (a_notes_delays, .inl (X.2.1 0, 8, .inl f_notes_delays))]  (fun _ => [(a_this, .inr (0, [.ref a_fight, .ref a_notes, .ref a_row, .int i_rowCount, .ref a_heads])), (a_fight, .inr (3, [.int i_fight_rounds, .int i_fight_home, .int i_fight_noise, .int i_fight_blowCount, .int i_fight_judgeCount, .ref a_fight_blows, .ref a_fight_judges, .ref a_fight_forward, .ref a_fight_downs, .ref a_fight_taken, .ref a_fight_seenBy, .ref a_fight_sums, .ref a_fight_leads])), (a_heads, .inl (X.2.1 0, 8, .inl o)), (a_notes, .inr (5, [.ref a_notes_delays, .ref a_notes_margins, .ref a_notes_odds])), (a_row, .inl (X.2.1 0, 40, .inl f_row)), (a_fight_blows, .inl (X.2.1 0, 200, .inl f_fight_blows)), (a_fight_seenBy, .inl (X.2.1 0, 40, .inl f_fight_seenBy)), (a_notes_delays, .inl (X.2.1 0, 8, .inl f_notes_delays))]) 0 0 := by
  refine MC_ofH (cc := cX0_useUntil) (maxL := 3) (by decide) rfl (Nat.le_of_ble_eq_true rfl) ?_
  intro p e s m below meth c A Q H ls hx hb hml hts hown hin hA hD hG hP hS hl ret
  have hown : s.vm.findClass RX0 = some m.cls := hown
  have hD : aD A [a_this, a_fight, a_heads, a_notes, a_row, a_fight_blows, a_fight_seenBy, a_notes_delays] := hD
  have hl : lv_has ls 3 [(0, .ref a_this), (1, .int x0)] := hl
  have w1 := hts (Cond.fieldLink RX0 22 "ThreeCards$Buttons" "fight" "LThreeCards$Fight;") (List.mem_of_getElem? (i := 1) rfl)
  have in0 : ∀ w ∈ u_ws RX0 TX0 5, w ∈ wsX0_useUntil := by decide +kernel
  have in3 : ∀ w ∈ u_ws RX3 TX3 13, w ∈ wsX0_useUntil := by decide +kernel
  have hL2 : ∀ (n : Nat) (l2 : Int32) (f_heads : Nat → Int32)  (H : Heap) (locs : List Loc) (ls : Array Slot), va_P X.1 vwCl [(a_this, .inr (0, [.ref a_fight, .ref a_notes, .ref a_row, .int i_rowCount, .ref a_heads])), (a_fight, .inr (3, [.int i_fight_rounds, .int i_fight_home, .int i_fight_noise, .int i_fight_blowCount, .int i_fight_judgeCount, .ref a_fight_blows, .ref a_fight_judges, .ref a_fight_forward, .ref a_fight_downs, .ref a_fight_taken, .ref a_fight_seenBy, .ref a_fight_sums, .ref a_fight_leads])), (a_heads, .inl (X.2.1 0, 8, .inl f_heads)), (a_notes, .inr (5, [.ref a_notes_delays, .ref a_notes_margins, .ref a_notes_odds])), (a_row, .inl (X.2.1 0, 40, .inl f_row)), (a_fight_blows, .inl (X.2.1 0, 200, .inl f_fight_blows)), (a_fight_seenBy, .inl (X.2.1 0, 40, .inl f_fight_seenBy)), (a_notes_delays, .inl (X.2.1 0, 8, .inl f_notes_delays))] H → va_S A s.heap H locs → lv_has ls 3 [(0, .ref a_this), (1, .int x0), (2, .int l2)] → mX0_useUntil_L2 x0 i_rowCount i_fight_judgeCount f_row f_fight_blows f_fight_seenBy f_notes_delays  n l2 f_heads = some o → W p l e rmX0_useUntil s m ([.ref a_this, .int x0] : List Value).toArray below meth c H locs 0 0 Q (F0 m 2 ls []) := by
    intro n
    induction n with
    | zero => intro l2 f_heads  H locs ls hP hS hl hf; exact xn hf
    | succ n ih =>
      intro l2 f_heads  H locs ls hP hS hl hf
      have hf : mX0_useUntil_B2 x0 i_rowCount i_fight_judgeCount f_row f_fight_blows f_fight_seenBy f_notes_delays  (mX0_useUntil_L2 x0 i_rowCount i_fight_judgeCount f_row f_fight_blows f_fight_seenBy f_notes_delays  n) l2 f_heads = some o := hf
      generalize mX0_useUntil_L2 x0 i_rowCount i_fight_judgeCount f_row f_fight_blows f_fight_seenBy f_notes_delays  n = k2 at ih hf
      unfold mX0_useUntil_B2 at hf
      refine lv_iload_n hx hb dX0_useUntil_2 rfl (lv_at hl 2 rfl) ?_
      refine lv_aload_n hx hb dX0_useUntil_3 rfl (lv_at hl 0 rfl) ?_
      refine va_get (D := X.1) (ci := 0) (v := .ref a_fight) (C := RX0) (T := TX0) (N := 5) hx hb hts in0 hown hG.1 hP 0 rfl rfl 0 (by decide) w1 (fun _ h9 => h9) rfl dX0_useUntil_4 ?_
      refine va_getN (D := X.1) (ci := 3) (v := .int i_fight_judgeCount) (C := RX3) (T := TX3) (N := 13) hx hb hts in3 hown hG.1 hP 1 rfl rfl 4 (by decide) (va_Nw.use rfl (nf8 hG.2.1)) (fun _ h9 => h9) rfl dX0_useUntil_7 ?_
      refine lv_icmp_ge (tgt := 33) hx hb dX0_useUntil_10 (by decide) (fun c_1 => ?_) (fun c_1 => ?_)
      · have hf := xt hf c_1
        obtain rfl := Option.some.inj hf
        exact ret (fun _ => 0) H _ ls _ hP hD hS dX0_useUntil_33
      · have hf := xf hf c_1
        refine lv_aload_n hx hb dX0_useUntil_13 rfl (lv_at hl 0 rfl) ?_
        refine lv_iload_n hx hb dX0_useUntil_14 rfl (lv_at hl 2 rfl) ?_
        obtain ⟨o_2, ho_2, hf⟩ := ob_s hf
        refine xV_i (As := [.int l2]) (b := a_this) (rest := []) (ws2 := [(a_this, .inr (0, [.ref a_fight, .ref a_notes, .ref a_row, .int i_rowCount, .ref a_heads])), (a_fight, .inr (3, [.int i_fight_rounds, .int i_fight_home, .int i_fight_noise, .int i_fight_blowCount, .int i_fight_judgeCount, .ref a_fight_blows, .ref a_fight_judges, .ref a_fight_forward, .ref a_fight_downs, .ref a_fight_taken, .ref a_fight_seenBy, .ref a_fight_sums, .ref a_fight_leads])), (a_heads, .inl (X.2.1 0, 8, .inl f_heads)), (a_notes, .inr (5, [.ref a_notes_delays, .ref a_notes_margins, .ref a_notes_odds])), (a_row, .inl (X.2.1 0, 40, .inl f_row)), (a_fight_blows, .inl (X.2.1 0, 200, .inl f_fight_blows)), (a_fight_seenBy, .inl (X.2.1 0, 40, .inl f_fight_seenBy)), (a_notes_delays, .inl (X.2.1 0, 8, .inl f_notes_delays))]) hx hb hml hts hown hG hA hP hD rfl hS hl.1 (qX0_secondOf l X a_this a_fight a_heads a_notes a_row a_fight_blows a_notes_delays a_fight_judges a_fight_forward a_fight_downs a_fight_taken a_fight_seenBy a_fight_sums a_fight_leads a_notes_margins a_notes_odds i_rowCount i_fight_rounds i_fight_home i_fight_noise i_fight_blowCount i_fight_judgeCount f_heads f_row f_fight_blows f_notes_delays l2 o_2 ho_2) (cwV (y := yX0_secondOf) 1 hts gX0_useUntil_X0_secondOf rfl rfl rfl hdvX0_secondOf ⟨Nat.le_of_ble_eq_true rfl, Nat.le_of_ble_eq_true rfl⟩) [0, 1, 2, 3, 4, 5, 7] [6] [1, 2, 3, 4, 5, 6, 0, 7] rfl rfl rfl rfl rfl rfl rfl (ci := 0) rfl 0 rfl rfl rfl (Nat.le_of_ble_eq_true rfl) ⟨Nat.le_of_ble_eq_true rfl, Nat.le_of_ble_eq_true rfl⟩ dX0_useUntil_15 (fun H locs hP _ hS => ?_)
        refine lv_iload_n hx hb dX0_useUntil_18 rfl (lv_at hl 1 rfl) ?_
        refine lv_icmp_gt (tgt := 27) hx hb dX0_useUntil_19 (by decide) (fun c_4 => ?_) (fun c_4 => ?_)
        · have hf := xt hf c_4
          obtain ⟨v_5, ev_5, hf⟩ := lb_g hf
          refine lv_iinc (v := v_5) (lv' := [(2, .int v_5), (0, .ref a_this), (1, .int x0)]) hx hb dX0_useUntil_27 hl (k := 2) rfl ev_5.symm (by decide) rfl (fun ls hl => ?_)
          refine lv_goto (tgt := 2) hx hb dX0_useUntil_30 (by decide) ?_
          exact ih v_5 f_heads  H _ ls hP  hS (lv_sub hl [1, 2, 0] rfl) hf
        · have hf := xf hf c_4
          refine lv_aload_n hx hb dX0_useUntil_22 rfl (lv_at hl 0 rfl) ?_
          refine lv_iload_n hx hb dX0_useUntil_23 rfl (lv_at hl 2 rfl) ?_
          obtain ⟨o_6, ho_6, hf⟩ := ob_s hf
          refine xV_v (As := [.int l2]) (b := a_this) (rest := []) (ws2 := fun _ => [(a_this, .inr (0, [.ref a_fight, .ref a_notes, .ref a_row, .int i_rowCount, .ref a_heads])), (a_fight, .inr (3, [.int i_fight_rounds, .int i_fight_home, .int i_fight_noise, .int i_fight_blowCount, .int i_fight_judgeCount, .ref a_fight_blows, .ref a_fight_judges, .ref a_fight_forward, .ref a_fight_downs, .ref a_fight_taken, .ref a_fight_seenBy, .ref a_fight_sums, .ref a_fight_leads])), (a_heads, .inl (X.2.1 0, 8, .inl o_6)), (a_notes, .inr (5, [.ref a_notes_delays, .ref a_notes_margins, .ref a_notes_odds])), (a_row, .inl (X.2.1 0, 40, .inl f_row)), (a_fight_blows, .inl (X.2.1 0, 200, .inl f_fight_blows)), (a_fight_seenBy, .inl (X.2.1 0, 40, .inl f_fight_seenBy)), (a_notes_delays, .inl (X.2.1 0, 8, .inl f_notes_delays))]) hx hb hml hts hown hG hA hP hD rfl hS hl.1 (qX0_useOne l X a_this a_fight a_heads a_row a_fight_seenBy a_notes a_fight_blows a_fight_judges a_fight_forward a_fight_downs a_fight_taken a_fight_sums a_fight_leads i_rowCount i_fight_rounds i_fight_home i_fight_noise i_fight_blowCount i_fight_judgeCount f_heads f_row f_fight_seenBy l2 o_6 ho_6) (cwV (y := yX0_useOne) 1 hts gX0_useUntil_X0_useOne rfl rfl rfl hdvX0_useOne ⟨Nat.le_of_ble_eq_true rfl, Nat.le_of_ble_eq_true rfl⟩) [0, 1, 2, 4, 6] [3, 5, 7] [3, 4, 5, 0, 6, 1, 7, 2] rfl rfl rfl rfl rfl rfl (fun _ => rfl) (ci := 0) rfl 0 rfl rfl rfl (Nat.le_of_ble_eq_true rfl) ⟨Nat.le_of_ble_eq_true rfl, Nat.le_of_ble_eq_true rfl⟩ dX0_useUntil_24 (fun u_7 H locs hP _ hS => ?_)
          obtain ⟨v_8, ev_8, hf⟩ := lb_g hf
          refine lv_iinc (v := v_8) (lv' := [(2, .int v_8), (0, .ref a_this), (1, .int x0)]) hx hb dX0_useUntil_27 hl (k := 2) rfl ev_8.symm (by decide) rfl (fun ls hl => ?_)
          refine lv_goto (tgt := 2) hx hb dX0_useUntil_30 (by decide) ?_
          exact ih v_8 o_6  H _ ls hP  hS (lv_sub hl [1, 2, 0] rfl) hf
  unfold mX0_useUntil at hf
  refine lv_iconst (v := (0 : Int32)) hx hb dX0_useUntil_0 (by decide) ?_
  refine lv_istore_n (lv' := [(2, .int (0 : Int32)), (0, .ref a_this), (1, .int x0)]) hx hb dX0_useUntil_1 rfl hl (by decide) rfl (fun ls hl => ?_)
  exact hL2  FUEL (0 : Int32) f_heads  H _ ls hP  hS (lv_sub hl [1, 2, 0] rfl) hf
def mX0_pointsOf_B105 (x0 : Int32) (x1 : Int32) (x2 : Int32) (x3 : Int32) (i_fight_blowCount : Int32) (i_fight_judgeCount : Int32) (f_fight_blows : Nat → Int32) (f_fight_seenBy : Nat → Int32) (f_notes_delays : Nat → Int32) (k53 : Int32 → Int32 → Int32 → Int32 → (Nat → Int32) → (Nat → Int32) → Option (Int32 × Int32 × (Nat → Int32) × (Nat → Int32))) (l5 : Int32) (l7 : Int32) (i_rowCount : Int32) (f_row : Nat → Int32) (f_heads : Nat → Int32) :
  Option (Int32 × Int32 × (Nat → Int32) × (Nat → Int32)) :=
  (mX0_firstPresser i_rowCount i_fight_judgeCount f_heads f_row f_fight_blows f_notes_delays).bind fun o_24 =>
  lb (l7 + (1 : Int32)) fun v_26 =>
  k53 l5 o_24 v_26 i_rowCount f_row f_heads
def mX0_pointsOf_B53 (x0 : Int32) (x1 : Int32) (x2 : Int32) (x3 : Int32) (i_fight_blowCount : Int32) (i_fight_judgeCount : Int32) (f_fight_blows : Nat → Int32) (f_fight_seenBy : Nat → Int32) (f_notes_delays : Nat → Int32) (k53 : Int32 → Int32 → Int32 → Int32 → (Nat → Int32) → (Nat → Int32) → Option (Int32 × Int32 × (Nat → Int32) × (Nat → Int32))) (l5 : Int32) (l6 : Int32) (l7 : Int32) (i_rowCount : Int32) (f_row : Nat → Int32) (f_heads : Nat → Int32) :
  Option (Int32 × Int32 × (Nat → Int32) × (Nat → Int32)) :=
  if (320 : Int32) ≤ l7 then (some (l5, i_rowCount, f_row, f_heads)) else (if l6 < 0 then (some (l5, i_rowCount, f_row, f_heads)) else ((mX0_secondOf l6 i_rowCount f_heads f_row f_fight_blows f_notes_delays).bind fun o_13 =>
  lb (o_13 + x3) fun v_15 =>
  (mX0_pressersUntil v_15 i_rowCount i_fight_judgeCount f_heads f_row f_fight_blows f_notes_delays).bind fun o_16 =>
  if o_16 < x2 then ((mX0_useOne l6 i_rowCount f_heads f_row f_fight_seenBy).bind fun o_19 =>
  mX0_pointsOf_B105 x0 x1 x2 x3 i_fight_blowCount i_fight_judgeCount f_fight_blows f_fight_seenBy f_notes_delays k53 l5 l7 i_rowCount f_row o_19) else (lb (l5 + (1 : Int32)) fun v_21 =>
  (mX0_useUntil v_15 i_rowCount i_fight_judgeCount f_heads f_row f_fight_blows f_fight_seenBy f_notes_delays).bind fun o_22 =>
  mX0_pointsOf_B105 x0 x1 x2 x3 i_fight_blowCount i_fight_judgeCount f_fight_blows f_fight_seenBy f_notes_delays k53 v_21 l7 i_rowCount f_row o_22)))
def mX0_pointsOf_L53 (x0 : Int32) (x1 : Int32) (x2 : Int32) (x3 : Int32) (i_fight_blowCount : Int32) (i_fight_judgeCount : Int32) (f_fight_blows : Nat → Int32) (f_fight_seenBy : Nat → Int32) (f_notes_delays : Nat → Int32) (n : Nat) (l5 : Int32) (l6 : Int32) (l7 : Int32) (i_rowCount : Int32) (f_row : Nat → Int32) (f_heads : Nat → Int32) :
  Option (Int32 × Int32 × (Nat → Int32) × (Nat → Int32)) :=
  loopN (fun k (s : Int32 × Int32 × Int32 × Int32 × (Nat → Int32) × (Nat → Int32)) => mX0_pointsOf_B53 x0 x1 x2 x3 i_fight_blowCount i_fight_judgeCount f_fight_blows f_fight_seenBy f_notes_delays  (fun l5 l6 l7 i_rowCount f_row f_heads => k (l5, l6, l7, i_rowCount, f_row, f_heads)) s.1 s.2.1 s.2.2.1 s.2.2.2.1 s.2.2.2.2.1 s.2.2.2.2.2) n (l5, l6, l7, i_rowCount, f_row, f_heads)
def mX0_pointsOf_B9 (x0 : Int32) (x1 : Int32) (x2 : Int32) (x3 : Int32) (i_fight_blowCount : Int32) (i_fight_judgeCount : Int32) (f_fight_blows : Nat → Int32) (f_fight_seenBy : Nat → Int32) (f_notes_delays : Nat → Int32) (k9 : Int32 → Int32 → (Nat → Int32) → (Nat → Int32) → Option (Int32 × Int32 × (Nat → Int32) × (Nat → Int32))) (l5 : Int32) (i_rowCount : Int32) (f_row : Nat → Int32) (f_heads : Nat → Int32) :
  Option (Int32 × Int32 × (Nat → Int32) × (Nat → Int32)) :=
  if i_fight_judgeCount ≤ l5 then ((mX0_firstPresser i_rowCount i_fight_judgeCount f_heads f_row f_fight_blows f_notes_delays).bind fun o_4 =>
  mX0_pointsOf_L53 x0 x1 x2 x3 i_fight_blowCount i_fight_judgeCount f_fight_blows f_fight_seenBy f_notes_delays  FUEL (0 : Int32) o_4 (0 : Int32) i_rowCount f_row f_heads) else ((mX0_seenFrom l5 (0 : Int32) i_rowCount f_row f_fight_seenBy).bind fun o_6 =>
  gi l5 8 <|
  lb (upd f_heads l5.toNatClampNeg o_6) fun g_9 =>
  lb (l5 + (1 : Int32)) fun v_10 =>
  k9 v_10 i_rowCount f_row g_9)
def mX0_pointsOf_L9 (x0 : Int32) (x1 : Int32) (x2 : Int32) (x3 : Int32) (i_fight_blowCount : Int32) (i_fight_judgeCount : Int32) (f_fight_blows : Nat → Int32) (f_fight_seenBy : Nat → Int32) (f_notes_delays : Nat → Int32) (n : Nat) (l5 : Int32) (i_rowCount : Int32) (f_row : Nat → Int32) (f_heads : Nat → Int32) :
  Option (Int32 × Int32 × (Nat → Int32) × (Nat → Int32)) :=
  loopN (fun k (s : Int32 × Int32 × (Nat → Int32) × (Nat → Int32)) => mX0_pointsOf_B9 x0 x1 x2 x3 i_fight_blowCount i_fight_judgeCount f_fight_blows f_fight_seenBy f_notes_delays  (fun l5 i_rowCount f_row f_heads => k (l5, i_rowCount, f_row, f_heads)) s.1 s.2.1 s.2.2.1 s.2.2.2) n (l5, i_rowCount, f_row, f_heads)
def mX0_pointsOf (x0 : Int32) (x1 : Int32) (x2 : Int32) (x3 : Int32) (i_rowCount : Int32) (i_fight_blowCount : Int32) (i_fight_judgeCount : Int32) (f_heads : Nat → Int32) (f_row : Nat → Int32) (f_fight_blows : Nat → Int32) (f_fight_seenBy : Nat → Int32) (f_notes_delays : Nat → Int32) :
  Option (Int32 × Int32 × (Nat → Int32) × (Nat → Int32)) :=
  (mX0_fillRow x0 x1 i_rowCount i_fight_blowCount f_row f_fight_blows).bind fun o_1 =>
  mX0_pointsOf_L9 x0 x1 x2 x3 i_fight_blowCount i_fight_judgeCount f_fight_blows f_fight_seenBy f_notes_delays  FUEL (0 : Int32) o_1.1 o_1.2 f_heads
theorem hdsX0_pointsOf : yX0_pointsOf.cls ≠ "java/lang/invoke/MethodHandle" ∧ yX0_pointsOf.cls ≠ "java/lang/invoke/VarHandle" ∧ (parseMethodDescriptor yX0_pointsOf.desc).map (fun d => d.parameters.length) = some 4 := by decide +kernel
theorem hdvX0_pointsOf : yX0_pointsOf.cls = RX0 ∧ yX0_pointsOf.cls ≠ "java/lang/invoke/MethodHandle" ∧ yX0_pointsOf.cls ≠ "java/lang/invoke/VarHandle" ∧ (parseMethodDescriptor yX0_pointsOf.desc).map (fun d => d.parameters.length) = some 4 := by decide +kernel
abbrev rmX0_pointsOf : Room := { frames := 4, cells := 0, slots := 0, locals := 88 }
set_option maxHeartbeats 4000000 in
set_option maxRecDepth 100000 in
theorem qX0_pointsOf (l : Launch) (X : XT) (a_this : Nat) (a_fight : Nat) (a_heads : Nat) (a_notes : Nat) (a_row : Nat) (a_fight_blows : Nat) (a_fight_seenBy : Nat) (a_notes_delays : Nat) (a_fight_judges : Nat) (a_fight_forward : Nat) (a_fight_downs : Nat) (a_fight_taken : Nat) (a_fight_sums : Nat) (a_fight_leads : Nat) (a_notes_margins : Nat) (a_notes_odds : Nat)  (i_rowCount : Int32) (i_fight_rounds : Int32) (i_fight_home : Int32) (i_fight_noise : Int32) (i_fight_blowCount : Int32) (i_fight_judgeCount : Int32) (f_heads : Nat → Int32) (f_row : Nat → Int32) (f_fight_blows : Nat → Int32) (f_fight_seenBy : Nat → Int32) (f_notes_delays : Nat → Int32) (x0 : Int32) (x1 : Int32) (x2 : Int32) (x3 : Int32) (o : Int32 × Int32 × (Nat → Int32) × (Nat → Int32)) (hf : mX0_pointsOf x0 x1 x2 x3 i_rowCount i_fight_blowCount i_fight_judgeCount f_heads f_row f_fight_blows f_fight_seenBy f_notes_delays = some o) :
    MI l yX0_pointsOf wsX0_pointsOf rmX0_pointsOf X [.ref a_this, .int x0, .int x1, .int x2, .int x3] [(a_this, .inr (0, [.ref a_fight, .ref a_notes, .ref a_row, .int i_rowCount, .ref a_heads])), (a_fight, .inr (3, [.int i_fight_rounds, .int i_fight_home, .int i_fight_noise, .int i_fight_blowCount, .int i_fight_judgeCount, .ref a_fight_blows, .ref a_fight_judges, .ref a_fight_forward, .ref a_fight_downs, .ref a_fight_taken, .ref a_fight_seenBy, .ref a_fight_sums, .ref a_fight_leads])), (a_heads, .inl (X.2.1 0, 8, .inl f_heads)), (a_notes, .inr (5, [.ref a_notes_delays, .ref a_notes_margins, .ref a_notes_odds])), (a_row, .inl (X.2.1 0, 40, .inl f_row)), (a_fight_blows, .inl (X.2.1 0, 200, .inl f_fight_blows)), (a_fight_seenBy, .inl (X.2.1 0, 40, .inl f_fight_seenBy)), (a_notes_delays, .inl (X.2.1 0, 8, .inl f_notes_delays))]  [(a_this, .inr (0, [.ref a_fight, .ref a_notes, .ref a_row, .int o.2.1, .ref a_heads])), (a_fight, .inr (3, [.int i_fight_rounds, .int i_fight_home, .int i_fight_noise, .int i_fight_blowCount, .int i_fight_judgeCount, .ref a_fight_blows, .ref a_fight_judges, .ref a_fight_forward, .ref a_fight_downs, .ref a_fight_taken, .ref a_fight_seenBy, .ref a_fight_sums, .ref a_fight_leads])), (a_heads, .inl (X.2.1 0, 8, .inl o.2.2.2)), (a_notes, .inr (5, [.ref a_notes_delays, .ref a_notes_margins, .ref a_notes_odds])), (a_row, .inl (X.2.1 0, 40, .inl o.2.2.1)), (a_fight_blows, .inl (X.2.1 0, 200, .inl f_fight_blows)), (a_fight_seenBy, .inl (X.2.1 0, 40, .inl f_fight_seenBy)), (a_notes_delays, .inl (X.2.1 0, 8, .inl f_notes_delays))] o.1 := by
  refine MI_ofH (cc := cX0_pointsOf) (maxL := 9) (rt := .int) (by decide) rfl (Nat.le_of_ble_eq_true rfl) ?_
  intro p e s m below meth c A Q H ls hx hb hml hts hown hA hD hG hP hS hl ret
  have hown : s.vm.findClass RX0 = some m.cls := hown
  have hD : aD A [a_this, a_fight, a_heads, a_notes, a_row, a_fight_blows, a_fight_seenBy, a_notes_delays] := hD
  have hl : lv_has ls 9 [(0, .ref a_this), (1, .int x0), (2, .int x1), (3, .int x2), (4, .int x3)] := hl
  have w1 := hts (Cond.fieldLink RX0 22 "ThreeCards$Buttons" "fight" "LThreeCards$Fight;") (List.mem_of_getElem? (i := 1) rfl)
  have w2 := hts (Cond.fieldLink RX0 19 "ThreeCards$Buttons" "heads" "[I") (List.mem_of_getElem? (i := 2) rfl)
  have in0 : ∀ w ∈ u_ws RX0 TX0 5, w ∈ wsX0_pointsOf := by decide +kernel
  have in3 : ∀ w ∈ u_ws RX3 TX3 13, w ∈ wsX0_pointsOf := by decide +kernel
  have hB105 : ∀ (k53 : Int32 → Int32 → Int32 → Int32 → (Nat → Int32) → (Nat → Int32) → Option (Int32 × Int32 × (Nat → Int32) × (Nat → Int32))) (hk53 : ∀ (l5 : Int32) (l6 : Int32) (l7 : Int32) (i_rowCount : Int32) (f_row : Nat → Int32) (f_heads : Nat → Int32)  (H : Heap) (locs : List Loc) (ls : Array Slot), va_P X.1 vwCl [(a_this, .inr (0, [.ref a_fight, .ref a_notes, .ref a_row, .int i_rowCount, .ref a_heads])), (a_fight, .inr (3, [.int i_fight_rounds, .int i_fight_home, .int i_fight_noise, .int i_fight_blowCount, .int i_fight_judgeCount, .ref a_fight_blows, .ref a_fight_judges, .ref a_fight_forward, .ref a_fight_downs, .ref a_fight_taken, .ref a_fight_seenBy, .ref a_fight_sums, .ref a_fight_leads])), (a_heads, .inl (X.2.1 0, 8, .inl f_heads)), (a_notes, .inr (5, [.ref a_notes_delays, .ref a_notes_margins, .ref a_notes_odds])), (a_row, .inl (X.2.1 0, 40, .inl f_row)), (a_fight_blows, .inl (X.2.1 0, 200, .inl f_fight_blows)), (a_fight_seenBy, .inl (X.2.1 0, 40, .inl f_fight_seenBy)), (a_notes_delays, .inl (X.2.1 0, 8, .inl f_notes_delays))] H → va_S A s.heap H locs → lv_has ls 9 [(0, .ref a_this), (3, .int x2), (4, .int x3), (5, .int l5), (6, .int l6), (7, .int l7)] → k53 l5 l6 l7 i_rowCount f_row f_heads = some o → W p l e rmX0_pointsOf s m ([.ref a_this, .int x0, .int x1, .int x2, .int x3] : List Value).toArray below meth c H locs 0 0 Q (F0 m 53 ls [])) (l5 : Int32) (l7 : Int32) (i_rowCount : Int32) (f_row : Nat → Int32) (f_heads : Nat → Int32)  (H : Heap) (locs : List Loc) (ls : Array Slot), va_P X.1 vwCl [(a_this, .inr (0, [.ref a_fight, .ref a_notes, .ref a_row, .int i_rowCount, .ref a_heads])), (a_fight, .inr (3, [.int i_fight_rounds, .int i_fight_home, .int i_fight_noise, .int i_fight_blowCount, .int i_fight_judgeCount, .ref a_fight_blows, .ref a_fight_judges, .ref a_fight_forward, .ref a_fight_downs, .ref a_fight_taken, .ref a_fight_seenBy, .ref a_fight_sums, .ref a_fight_leads])), (a_heads, .inl (X.2.1 0, 8, .inl f_heads)), (a_notes, .inr (5, [.ref a_notes_delays, .ref a_notes_margins, .ref a_notes_odds])), (a_row, .inl (X.2.1 0, 40, .inl f_row)), (a_fight_blows, .inl (X.2.1 0, 200, .inl f_fight_blows)), (a_fight_seenBy, .inl (X.2.1 0, 40, .inl f_fight_seenBy)), (a_notes_delays, .inl (X.2.1 0, 8, .inl f_notes_delays))] H → va_S A s.heap H locs → lv_has ls 9 [(0, .ref a_this), (3, .int x2), (4, .int x3), (5, .int l5), (7, .int l7)] → mX0_pointsOf_B105 x0 x1 x2 x3 i_fight_blowCount i_fight_judgeCount f_fight_blows f_fight_seenBy f_notes_delays k53 l5 l7 i_rowCount f_row f_heads = some o → W p l e rmX0_pointsOf s m ([.ref a_this, .int x0, .int x1, .int x2, .int x3] : List Value).toArray below meth c H locs 0 0 Q (F0 m 105 ls []) := by
    intro k53 hk53 l5 l7 i_rowCount f_row f_heads  H locs ls hP hS hl hf
    unfold mX0_pointsOf_B105 at hf
    refine lv_aload_n hx hb dX0_pointsOf_105 rfl (lv_at hl 0 rfl) ?_
    obtain ⟨o_24, ho_24, hf⟩ := ob_s hf
    refine xV_i (As := []) (b := a_this) (rest := []) (ws2 := [(a_this, .inr (0, [.ref a_fight, .ref a_notes, .ref a_row, .int i_rowCount, .ref a_heads])), (a_fight, .inr (3, [.int i_fight_rounds, .int i_fight_home, .int i_fight_noise, .int i_fight_blowCount, .int i_fight_judgeCount, .ref a_fight_blows, .ref a_fight_judges, .ref a_fight_forward, .ref a_fight_downs, .ref a_fight_taken, .ref a_fight_seenBy, .ref a_fight_sums, .ref a_fight_leads])), (a_heads, .inl (X.2.1 0, 8, .inl f_heads)), (a_notes, .inr (5, [.ref a_notes_delays, .ref a_notes_margins, .ref a_notes_odds])), (a_row, .inl (X.2.1 0, 40, .inl f_row)), (a_fight_blows, .inl (X.2.1 0, 200, .inl f_fight_blows)), (a_fight_seenBy, .inl (X.2.1 0, 40, .inl f_fight_seenBy)), (a_notes_delays, .inl (X.2.1 0, 8, .inl f_notes_delays))]) hx hb hml hts hown hG hA hP hD rfl hS hl.1 (qX0_firstPresser l X a_this a_fight a_heads a_notes a_row a_fight_blows a_notes_delays a_fight_judges a_fight_forward a_fight_downs a_fight_taken a_fight_seenBy a_fight_sums a_fight_leads a_notes_margins a_notes_odds i_rowCount i_fight_rounds i_fight_home i_fight_noise i_fight_blowCount i_fight_judgeCount f_heads f_row f_fight_blows f_notes_delays o_24 ho_24) (cwV (y := yX0_firstPresser) 0 hts gX0_pointsOf_X0_firstPresser rfl rfl rfl hdvX0_firstPresser ⟨Nat.le_of_ble_eq_true rfl, Nat.le_of_ble_eq_true rfl⟩) [0, 1, 2, 3, 4, 5, 7] [6] [1, 2, 3, 4, 5, 6, 0, 7] rfl rfl rfl rfl rfl rfl rfl (ci := 0) rfl 0 rfl rfl rfl (Nat.le_of_ble_eq_true rfl) ⟨Nat.le_of_ble_eq_true rfl, Nat.le_of_ble_eq_true rfl⟩ dX0_pointsOf_106 (fun H locs hP _ hS => ?_)
    refine lv_istore (lv' := [(6, .int o_24), (0, .ref a_this), (3, .int x2), (4, .int x3), (5, .int l5), (7, .int l7)]) hx hb dX0_pointsOf_109 hl (by decide) rfl (fun ls hl => ?_)
    obtain ⟨v_26, ev_26, hf⟩ := lb_g hf
    refine lv_iinc (v := v_26) (lv' := [(7, .int v_26), (6, .int o_24), (0, .ref a_this), (3, .int x2), (4, .int x3), (5, .int l5)]) hx hb dX0_pointsOf_111 hl (k := 5) rfl ev_26.symm (by decide) rfl (fun ls hl => ?_)
    refine lv_goto (tgt := 53) hx hb dX0_pointsOf_114 (by decide) ?_
    exact hk53 l5 o_24 v_26 i_rowCount f_row f_heads  H _ ls hP  hS (lv_sub hl [2, 3, 4, 5, 1, 0] rfl) hf
  have hL53 : ∀ (n : Nat) (l5 : Int32) (l6 : Int32) (l7 : Int32) (i_rowCount : Int32) (f_row : Nat → Int32) (f_heads : Nat → Int32)  (H : Heap) (locs : List Loc) (ls : Array Slot), va_P X.1 vwCl [(a_this, .inr (0, [.ref a_fight, .ref a_notes, .ref a_row, .int i_rowCount, .ref a_heads])), (a_fight, .inr (3, [.int i_fight_rounds, .int i_fight_home, .int i_fight_noise, .int i_fight_blowCount, .int i_fight_judgeCount, .ref a_fight_blows, .ref a_fight_judges, .ref a_fight_forward, .ref a_fight_downs, .ref a_fight_taken, .ref a_fight_seenBy, .ref a_fight_sums, .ref a_fight_leads])), (a_heads, .inl (X.2.1 0, 8, .inl f_heads)), (a_notes, .inr (5, [.ref a_notes_delays, .ref a_notes_margins, .ref a_notes_odds])), (a_row, .inl (X.2.1 0, 40, .inl f_row)), (a_fight_blows, .inl (X.2.1 0, 200, .inl f_fight_blows)), (a_fight_seenBy, .inl (X.2.1 0, 40, .inl f_fight_seenBy)), (a_notes_delays, .inl (X.2.1 0, 8, .inl f_notes_delays))] H → va_S A s.heap H locs → lv_has ls 9 [(0, .ref a_this), (3, .int x2), (4, .int x3), (5, .int l5), (6, .int l6), (7, .int l7)] → mX0_pointsOf_L53 x0 x1 x2 x3 i_fight_blowCount i_fight_judgeCount f_fight_blows f_fight_seenBy f_notes_delays  n l5 l6 l7 i_rowCount f_row f_heads = some o → W p l e rmX0_pointsOf s m ([.ref a_this, .int x0, .int x1, .int x2, .int x3] : List Value).toArray below meth c H locs 0 0 Q (F0 m 53 ls []) := by
    intro n
    induction n with
    | zero => intro l5 l6 l7 i_rowCount f_row f_heads  H locs ls hP hS hl hf; exact xn hf
    | succ n ih =>
      intro l5 l6 l7 i_rowCount f_row f_heads  H locs ls hP hS hl hf
      have hf : mX0_pointsOf_B53 x0 x1 x2 x3 i_fight_blowCount i_fight_judgeCount f_fight_blows f_fight_seenBy f_notes_delays  (mX0_pointsOf_L53 x0 x1 x2 x3 i_fight_blowCount i_fight_judgeCount f_fight_blows f_fight_seenBy f_notes_delays  n) l5 l6 l7 i_rowCount f_row f_heads = some o := hf
      generalize mX0_pointsOf_L53 x0 x1 x2 x3 i_fight_blowCount i_fight_judgeCount f_fight_blows f_fight_seenBy f_notes_delays  n = k53 at ih hf
      unfold mX0_pointsOf_B53 at hf
      refine lv_iload hx hb dX0_pointsOf_53 (lv_at hl 5 rfl) ?_
      refine lv_sipush (v := (320 : Int32)) hx hb dX0_pointsOf_55 (by decide) ?_
      refine lv_icmp_ge (tgt := 117) hx hb dX0_pointsOf_58 (by decide) (fun c_11 => ?_) (fun c_11 => ?_)
      · have hf := xt hf c_11
        refine lv_iload hx hb dX0_pointsOf_117 (lv_at hl 3 rfl) ?_
        obtain rfl := Option.some.inj hf
        exact ret H _ ls _ rfl hP hD hS dX0_pointsOf_119
      · have hf := xf hf c_11
        refine lv_iload hx hb dX0_pointsOf_61 (lv_at hl 4 rfl) ?_
        refine lv_if_lt (tgt := 117) hx hb dX0_pointsOf_63 (by decide) (fun c_12 => ?_) (fun c_12 => ?_)
        · have hf := xt hf c_12
          refine lv_iload hx hb dX0_pointsOf_117 (lv_at hl 3 rfl) ?_
          obtain rfl := Option.some.inj hf
          exact ret H _ ls _ rfl hP hD hS dX0_pointsOf_119
        · have hf := xf hf c_12
          refine lv_aload_n hx hb dX0_pointsOf_66 rfl (lv_at hl 0 rfl) ?_
          refine lv_iload hx hb dX0_pointsOf_67 (lv_at hl 4 rfl) ?_
          obtain ⟨o_13, ho_13, hf⟩ := ob_s hf
          refine xV_i (As := [.int l6]) (b := a_this) (rest := []) (ws2 := [(a_this, .inr (0, [.ref a_fight, .ref a_notes, .ref a_row, .int i_rowCount, .ref a_heads])), (a_fight, .inr (3, [.int i_fight_rounds, .int i_fight_home, .int i_fight_noise, .int i_fight_blowCount, .int i_fight_judgeCount, .ref a_fight_blows, .ref a_fight_judges, .ref a_fight_forward, .ref a_fight_downs, .ref a_fight_taken, .ref a_fight_seenBy, .ref a_fight_sums, .ref a_fight_leads])), (a_heads, .inl (X.2.1 0, 8, .inl f_heads)), (a_notes, .inr (5, [.ref a_notes_delays, .ref a_notes_margins, .ref a_notes_odds])), (a_row, .inl (X.2.1 0, 40, .inl f_row)), (a_fight_blows, .inl (X.2.1 0, 200, .inl f_fight_blows)), (a_fight_seenBy, .inl (X.2.1 0, 40, .inl f_fight_seenBy)), (a_notes_delays, .inl (X.2.1 0, 8, .inl f_notes_delays))]) hx hb hml hts hown hG hA hP hD rfl hS hl.1 (qX0_secondOf l X a_this a_fight a_heads a_notes a_row a_fight_blows a_notes_delays a_fight_judges a_fight_forward a_fight_downs a_fight_taken a_fight_seenBy a_fight_sums a_fight_leads a_notes_margins a_notes_odds i_rowCount i_fight_rounds i_fight_home i_fight_noise i_fight_blowCount i_fight_judgeCount f_heads f_row f_fight_blows f_notes_delays l6 o_13 ho_13) (cwV (y := yX0_secondOf) 1 hts gX0_pointsOf_X0_secondOf rfl rfl rfl hdvX0_secondOf ⟨Nat.le_of_ble_eq_true rfl, Nat.le_of_ble_eq_true rfl⟩) [0, 1, 2, 3, 4, 5, 7] [6] [1, 2, 3, 4, 5, 6, 0, 7] rfl rfl rfl rfl rfl rfl rfl (ci := 0) rfl 0 rfl rfl rfl (Nat.le_of_ble_eq_true rfl) ⟨Nat.le_of_ble_eq_true rfl, Nat.le_of_ble_eq_true rfl⟩ dX0_pointsOf_69 (fun H locs hP _ hS => ?_)
          refine lv_iload hx hb dX0_pointsOf_72 (lv_at hl 2 rfl) ?_
          refine lv_iadd hx hb dX0_pointsOf_74 ?_
          refine lv_topi (fun v_15 ev_15 => ?_)
          have hf := lb_s hf ev_15
          refine lv_istore (lv' := [(8, .int v_15), (0, .ref a_this), (3, .int x2), (4, .int x3), (5, .int l5), (6, .int l6), (7, .int l7)]) hx hb dX0_pointsOf_75 hl (by decide) rfl (fun ls hl => ?_)
          refine lv_aload_n hx hb dX0_pointsOf_77 rfl (lv_at hl 1 rfl) ?_
          refine lv_iload hx hb dX0_pointsOf_78 (lv_at hl 0 rfl) ?_
          obtain ⟨o_16, ho_16, hf⟩ := ob_s hf
          refine xV_i (As := [.int v_15]) (b := a_this) (rest := []) (ws2 := [(a_this, .inr (0, [.ref a_fight, .ref a_notes, .ref a_row, .int i_rowCount, .ref a_heads])), (a_fight, .inr (3, [.int i_fight_rounds, .int i_fight_home, .int i_fight_noise, .int i_fight_blowCount, .int i_fight_judgeCount, .ref a_fight_blows, .ref a_fight_judges, .ref a_fight_forward, .ref a_fight_downs, .ref a_fight_taken, .ref a_fight_seenBy, .ref a_fight_sums, .ref a_fight_leads])), (a_heads, .inl (X.2.1 0, 8, .inl f_heads)), (a_notes, .inr (5, [.ref a_notes_delays, .ref a_notes_margins, .ref a_notes_odds])), (a_row, .inl (X.2.1 0, 40, .inl f_row)), (a_fight_blows, .inl (X.2.1 0, 200, .inl f_fight_blows)), (a_fight_seenBy, .inl (X.2.1 0, 40, .inl f_fight_seenBy)), (a_notes_delays, .inl (X.2.1 0, 8, .inl f_notes_delays))]) hx hb hml hts hown hG hA hP hD rfl hS hl.1 (qX0_pressersUntil l X a_this a_fight a_heads a_notes a_row a_fight_blows a_notes_delays a_fight_judges a_fight_forward a_fight_downs a_fight_taken a_fight_seenBy a_fight_sums a_fight_leads a_notes_margins a_notes_odds i_rowCount i_fight_rounds i_fight_home i_fight_noise i_fight_blowCount i_fight_judgeCount f_heads f_row f_fight_blows f_notes_delays v_15 o_16 ho_16) (cwV (y := yX0_pressersUntil) 1 hts gX0_pointsOf_X0_pressersUntil rfl rfl rfl hdvX0_pressersUntil ⟨Nat.le_of_ble_eq_true rfl, Nat.le_of_ble_eq_true rfl⟩) [0, 1, 2, 3, 4, 5, 7] [6] [1, 2, 3, 4, 5, 6, 0, 7] rfl rfl rfl rfl rfl rfl rfl (ci := 0) rfl 0 rfl rfl rfl (Nat.le_of_ble_eq_true rfl) ⟨Nat.le_of_ble_eq_true rfl, Nat.le_of_ble_eq_true rfl⟩ dX0_pointsOf_80 (fun H locs hP _ hS => ?_)
          refine lv_iload_n hx hb dX0_pointsOf_83 rfl (lv_at hl 2 rfl) ?_
          refine lv_icmp_lt (tgt := 99) hx hb dX0_pointsOf_84 (by decide) (fun c_18 => ?_) (fun c_18 => ?_)
          · have hf := xt hf c_18
            refine lv_aload_n hx hb dX0_pointsOf_99 rfl (lv_at hl 1 rfl) ?_
            refine lv_iload hx hb dX0_pointsOf_100 (lv_at hl 5 rfl) ?_
            obtain ⟨o_19, ho_19, hf⟩ := ob_s hf
            refine xV_v (As := [.int l6]) (b := a_this) (rest := []) (ws2 := fun _ => [(a_this, .inr (0, [.ref a_fight, .ref a_notes, .ref a_row, .int i_rowCount, .ref a_heads])), (a_fight, .inr (3, [.int i_fight_rounds, .int i_fight_home, .int i_fight_noise, .int i_fight_blowCount, .int i_fight_judgeCount, .ref a_fight_blows, .ref a_fight_judges, .ref a_fight_forward, .ref a_fight_downs, .ref a_fight_taken, .ref a_fight_seenBy, .ref a_fight_sums, .ref a_fight_leads])), (a_heads, .inl (X.2.1 0, 8, .inl o_19)), (a_notes, .inr (5, [.ref a_notes_delays, .ref a_notes_margins, .ref a_notes_odds])), (a_row, .inl (X.2.1 0, 40, .inl f_row)), (a_fight_blows, .inl (X.2.1 0, 200, .inl f_fight_blows)), (a_fight_seenBy, .inl (X.2.1 0, 40, .inl f_fight_seenBy)), (a_notes_delays, .inl (X.2.1 0, 8, .inl f_notes_delays))]) hx hb hml hts hown hG hA hP hD rfl hS hl.1 (qX0_useOne l X a_this a_fight a_heads a_row a_fight_seenBy a_notes a_fight_blows a_fight_judges a_fight_forward a_fight_downs a_fight_taken a_fight_sums a_fight_leads i_rowCount i_fight_rounds i_fight_home i_fight_noise i_fight_blowCount i_fight_judgeCount f_heads f_row f_fight_seenBy l6 o_19 ho_19) (cwV (y := yX0_useOne) 1 hts gX0_pointsOf_X0_useOne rfl rfl rfl hdvX0_useOne ⟨Nat.le_of_ble_eq_true rfl, Nat.le_of_ble_eq_true rfl⟩) [0, 1, 2, 4, 6] [3, 5, 7] [3, 4, 5, 0, 6, 1, 7, 2] rfl rfl rfl rfl rfl rfl (fun _ => rfl) (ci := 0) rfl 0 rfl rfl rfl (Nat.le_of_ble_eq_true rfl) ⟨Nat.le_of_ble_eq_true rfl, Nat.le_of_ble_eq_true rfl⟩ dX0_pointsOf_102 (fun u_20 H locs hP _ hS => ?_)
            exact hB105 k53 ih l5 l7 i_rowCount f_row o_19  H _ ls hP  hS (lv_sub hl [1, 2, 3, 4, 6] rfl) hf
          · have hf := xf hf c_18
            obtain ⟨v_21, ev_21, hf⟩ := lb_g hf
            refine lv_iinc (v := v_21) (lv' := [(5, .int v_21), (8, .int v_15), (0, .ref a_this), (3, .int x2), (4, .int x3), (6, .int l6), (7, .int l7)]) hx hb dX0_pointsOf_87 hl (k := 4) rfl ev_21.symm (by decide) rfl (fun ls hl => ?_)
            refine lv_aload_n hx hb dX0_pointsOf_90 rfl (lv_at hl 2 rfl) ?_
            refine lv_iload hx hb dX0_pointsOf_91 (lv_at hl 1 rfl) ?_
            obtain ⟨o_22, ho_22, hf⟩ := ob_s hf
            refine xV_v (As := [.int v_15]) (b := a_this) (rest := []) (ws2 := fun _ => [(a_this, .inr (0, [.ref a_fight, .ref a_notes, .ref a_row, .int i_rowCount, .ref a_heads])), (a_fight, .inr (3, [.int i_fight_rounds, .int i_fight_home, .int i_fight_noise, .int i_fight_blowCount, .int i_fight_judgeCount, .ref a_fight_blows, .ref a_fight_judges, .ref a_fight_forward, .ref a_fight_downs, .ref a_fight_taken, .ref a_fight_seenBy, .ref a_fight_sums, .ref a_fight_leads])), (a_heads, .inl (X.2.1 0, 8, .inl o_22)), (a_notes, .inr (5, [.ref a_notes_delays, .ref a_notes_margins, .ref a_notes_odds])), (a_row, .inl (X.2.1 0, 40, .inl f_row)), (a_fight_blows, .inl (X.2.1 0, 200, .inl f_fight_blows)), (a_fight_seenBy, .inl (X.2.1 0, 40, .inl f_fight_seenBy)), (a_notes_delays, .inl (X.2.1 0, 8, .inl f_notes_delays))]) hx hb hml hts hown hG hA hP hD rfl hS hl.1 (qX0_useUntil l X a_this a_fight a_heads a_notes a_row a_fight_blows a_fight_seenBy a_notes_delays a_fight_judges a_fight_forward a_fight_downs a_fight_taken a_fight_sums a_fight_leads a_notes_margins a_notes_odds i_rowCount i_fight_rounds i_fight_home i_fight_noise i_fight_blowCount i_fight_judgeCount f_heads f_row f_fight_blows f_fight_seenBy f_notes_delays v_15 o_22 ho_22) (cwV (y := yX0_useUntil) 1 hts gX0_pointsOf_X0_useUntil rfl rfl rfl hdvX0_useUntil ⟨Nat.le_of_ble_eq_true rfl, Nat.le_of_ble_eq_true rfl⟩) [0, 1, 2, 3, 4, 5, 6, 7] [] [0, 1, 2, 3, 4, 5, 6, 7] rfl rfl rfl rfl rfl rfl (fun _ => rfl) (ci := 0) rfl 0 rfl rfl rfl (Nat.le_of_ble_eq_true rfl) ⟨Nat.le_of_ble_eq_true rfl, Nat.le_of_ble_eq_true rfl⟩ dX0_pointsOf_93 (fun u_23 H locs hP _ hS => ?_)
            refine lv_goto (tgt := 105) hx hb dX0_pointsOf_96 (by decide) ?_
            exact hB105 k53 ih v_21 l7 i_rowCount f_row o_22  H _ ls hP  hS (lv_sub hl [2, 3, 4, 0, 6] rfl) hf
  have hL9 : ∀ (n : Nat) (l5 : Int32) (i_rowCount : Int32) (f_row : Nat → Int32) (f_heads : Nat → Int32)  (H : Heap) (locs : List Loc) (ls : Array Slot), va_P X.1 vwCl [(a_this, .inr (0, [.ref a_fight, .ref a_notes, .ref a_row, .int i_rowCount, .ref a_heads])), (a_fight, .inr (3, [.int i_fight_rounds, .int i_fight_home, .int i_fight_noise, .int i_fight_blowCount, .int i_fight_judgeCount, .ref a_fight_blows, .ref a_fight_judges, .ref a_fight_forward, .ref a_fight_downs, .ref a_fight_taken, .ref a_fight_seenBy, .ref a_fight_sums, .ref a_fight_leads])), (a_heads, .inl (X.2.1 0, 8, .inl f_heads)), (a_notes, .inr (5, [.ref a_notes_delays, .ref a_notes_margins, .ref a_notes_odds])), (a_row, .inl (X.2.1 0, 40, .inl f_row)), (a_fight_blows, .inl (X.2.1 0, 200, .inl f_fight_blows)), (a_fight_seenBy, .inl (X.2.1 0, 40, .inl f_fight_seenBy)), (a_notes_delays, .inl (X.2.1 0, 8, .inl f_notes_delays))] H → va_S A s.heap H locs → lv_has ls 9 [(0, .ref a_this), (3, .int x2), (4, .int x3), (5, .int l5)] → mX0_pointsOf_L9 x0 x1 x2 x3 i_fight_blowCount i_fight_judgeCount f_fight_blows f_fight_seenBy f_notes_delays  n l5 i_rowCount f_row f_heads = some o → W p l e rmX0_pointsOf s m ([.ref a_this, .int x0, .int x1, .int x2, .int x3] : List Value).toArray below meth c H locs 0 0 Q (F0 m 9 ls []) := by
    intro n
    induction n with
    | zero => intro l5 i_rowCount f_row f_heads  H locs ls hP hS hl hf; exact xn hf
    | succ n ih =>
      intro l5 i_rowCount f_row f_heads  H locs ls hP hS hl hf
      have hf : mX0_pointsOf_B9 x0 x1 x2 x3 i_fight_blowCount i_fight_judgeCount f_fight_blows f_fight_seenBy f_notes_delays  (mX0_pointsOf_L9 x0 x1 x2 x3 i_fight_blowCount i_fight_judgeCount f_fight_blows f_fight_seenBy f_notes_delays  n) l5 i_rowCount f_row f_heads = some o := hf
      generalize mX0_pointsOf_L9 x0 x1 x2 x3 i_fight_blowCount i_fight_judgeCount f_fight_blows f_fight_seenBy f_notes_delays  n = k9 at ih hf
      unfold mX0_pointsOf_B9 at hf
      refine lv_iload hx hb dX0_pointsOf_9 (lv_at hl 3 rfl) ?_
      refine lv_aload_n hx hb dX0_pointsOf_11 rfl (lv_at hl 0 rfl) ?_
      refine va_get (D := X.1) (ci := 0) (v := .ref a_fight) (C := RX0) (T := TX0) (N := 5) hx hb hts in0 hown hG.1 hP 0 rfl rfl 0 (by decide) w1 (fun _ h9 => h9) rfl dX0_pointsOf_12 ?_
      refine va_getN (D := X.1) (ci := 3) (v := .int i_fight_judgeCount) (C := RX3) (T := TX3) (N := 13) hx hb hts in3 hown hG.1 hP 1 rfl rfl 4 (by decide) (va_Nw.use rfl (nf8 hG.2.1)) (fun _ h9 => h9) rfl dX0_pointsOf_15 ?_
      refine lv_icmp_ge (tgt := 41) hx hb dX0_pointsOf_18 (by decide) (fun c_3 => ?_) (fun c_3 => ?_)
      · have hf := xt hf c_3
        refine lv_iconst (v := (0 : Int32)) hx hb dX0_pointsOf_41 (by decide) ?_
        refine lv_istore (lv' := [(5, .int (0 : Int32)), (0, .ref a_this), (3, .int x2), (4, .int x3)]) hx hb dX0_pointsOf_42 hl (by decide) rfl (fun ls hl => ?_)
        refine lv_aload_n hx hb dX0_pointsOf_44 rfl (lv_at hl 1 rfl) ?_
        obtain ⟨o_4, ho_4, hf⟩ := ob_s hf
        refine xV_i (As := []) (b := a_this) (rest := []) (ws2 := [(a_this, .inr (0, [.ref a_fight, .ref a_notes, .ref a_row, .int i_rowCount, .ref a_heads])), (a_fight, .inr (3, [.int i_fight_rounds, .int i_fight_home, .int i_fight_noise, .int i_fight_blowCount, .int i_fight_judgeCount, .ref a_fight_blows, .ref a_fight_judges, .ref a_fight_forward, .ref a_fight_downs, .ref a_fight_taken, .ref a_fight_seenBy, .ref a_fight_sums, .ref a_fight_leads])), (a_heads, .inl (X.2.1 0, 8, .inl f_heads)), (a_notes, .inr (5, [.ref a_notes_delays, .ref a_notes_margins, .ref a_notes_odds])), (a_row, .inl (X.2.1 0, 40, .inl f_row)), (a_fight_blows, .inl (X.2.1 0, 200, .inl f_fight_blows)), (a_fight_seenBy, .inl (X.2.1 0, 40, .inl f_fight_seenBy)), (a_notes_delays, .inl (X.2.1 0, 8, .inl f_notes_delays))]) hx hb hml hts hown hG hA hP hD rfl hS hl.1 (qX0_firstPresser l X a_this a_fight a_heads a_notes a_row a_fight_blows a_notes_delays a_fight_judges a_fight_forward a_fight_downs a_fight_taken a_fight_seenBy a_fight_sums a_fight_leads a_notes_margins a_notes_odds i_rowCount i_fight_rounds i_fight_home i_fight_noise i_fight_blowCount i_fight_judgeCount f_heads f_row f_fight_blows f_notes_delays o_4 ho_4) (cwV (y := yX0_firstPresser) 0 hts gX0_pointsOf_X0_firstPresser rfl rfl rfl hdvX0_firstPresser ⟨Nat.le_of_ble_eq_true rfl, Nat.le_of_ble_eq_true rfl⟩) [0, 1, 2, 3, 4, 5, 7] [6] [1, 2, 3, 4, 5, 6, 0, 7] rfl rfl rfl rfl rfl rfl rfl (ci := 0) rfl 0 rfl rfl rfl (Nat.le_of_ble_eq_true rfl) ⟨Nat.le_of_ble_eq_true rfl, Nat.le_of_ble_eq_true rfl⟩ dX0_pointsOf_45 (fun H locs hP _ hS => ?_)
        refine lv_istore (lv' := [(6, .int o_4), (5, .int (0 : Int32)), (0, .ref a_this), (3, .int x2), (4, .int x3)]) hx hb dX0_pointsOf_48 hl (by decide) rfl (fun ls hl => ?_)
        refine lv_iconst (v := (0 : Int32)) hx hb dX0_pointsOf_50 (by decide) ?_
        refine lv_istore (lv' := [(7, .int (0 : Int32)), (6, .int o_4), (5, .int (0 : Int32)), (0, .ref a_this), (3, .int x2), (4, .int x3)]) hx hb dX0_pointsOf_51 hl (by decide) rfl (fun ls hl => ?_)
        exact hL53  FUEL (0 : Int32) o_4 (0 : Int32) i_rowCount f_row f_heads  H _ ls hP  hS (lv_sub hl [3, 4, 5, 2, 1, 0] rfl) hf
      · have hf := xf hf c_3
        refine lv_aload_n hx hb dX0_pointsOf_21 rfl (lv_at hl 0 rfl) ?_
        refine va_get (D := X.1) (ci := 0) (v := .ref a_heads) (C := RX0) (T := TX0) (N := 5) hx hb hts in0 hown hG.1 hP 0 rfl rfl 4 (by decide) w2 (fun _ h9 => h9) rfl dX0_pointsOf_22 ?_
        refine lv_iload hx hb dX0_pointsOf_25 (lv_at hl 3 rfl) ?_
        refine lv_aload_n hx hb dX0_pointsOf_27 rfl (lv_at hl 0 rfl) ?_
        refine lv_iload hx hb dX0_pointsOf_28 (lv_at hl 3 rfl) ?_
        refine lv_iconst (v := (0 : Int32)) hx hb dX0_pointsOf_30 (by decide) ?_
        obtain ⟨o_6, ho_6, hf⟩ := ob_s hf
        refine xV_i (As := [.int l5, .int (0 : Int32)]) (b := a_this) (rest := [.int l5, .ref a_heads]) (ws2 := [(a_this, .inr (0, [.ref a_fight, .ref a_notes, .ref a_row, .int i_rowCount, .ref a_heads])), (a_fight, .inr (3, [.int i_fight_rounds, .int i_fight_home, .int i_fight_noise, .int i_fight_blowCount, .int i_fight_judgeCount, .ref a_fight_blows, .ref a_fight_judges, .ref a_fight_forward, .ref a_fight_downs, .ref a_fight_taken, .ref a_fight_seenBy, .ref a_fight_sums, .ref a_fight_leads])), (a_heads, .inl (X.2.1 0, 8, .inl f_heads)), (a_notes, .inr (5, [.ref a_notes_delays, .ref a_notes_margins, .ref a_notes_odds])), (a_row, .inl (X.2.1 0, 40, .inl f_row)), (a_fight_blows, .inl (X.2.1 0, 200, .inl f_fight_blows)), (a_fight_seenBy, .inl (X.2.1 0, 40, .inl f_fight_seenBy)), (a_notes_delays, .inl (X.2.1 0, 8, .inl f_notes_delays))]) hx hb hml hts hown hG hA hP hD rfl hS hl.1 (qX0_seenFrom l X a_this a_fight a_row a_fight_seenBy a_notes a_heads a_fight_blows a_fight_judges a_fight_forward a_fight_downs a_fight_taken a_fight_sums a_fight_leads i_rowCount i_fight_rounds i_fight_home i_fight_noise i_fight_blowCount i_fight_judgeCount f_row f_fight_seenBy l5 (0 : Int32) o_6 ho_6) (cwV (y := yX0_seenFrom) 2 hts gX0_pointsOf_X0_seenFrom rfl rfl rfl hdvX0_seenFrom ⟨Nat.le_of_ble_eq_true rfl, Nat.le_of_ble_eq_true rfl⟩) [0, 1, 4, 6] [2, 3, 5, 7] [4, 5, 0, 1, 6, 2, 7, 3] rfl rfl rfl rfl rfl rfl rfl (ci := 0) rfl 0 rfl rfl rfl (Nat.le_of_ble_eq_true rfl) ⟨Nat.le_of_ble_eq_true rfl, Nat.le_of_ble_eq_true rfl⟩ dX0_pointsOf_31 (fun H locs hP _ hS => ?_)
        obtain ⟨h_8, hf⟩ := gi_s hf
        obtain ⟨g_9, eg_9, hf⟩ := lb_g hf
        refine x_iast (ws' := [(a_this, .inr (0, [.ref a_fight, .ref a_notes, .ref a_row, .int i_rowCount, .ref a_heads])), (a_fight, .inr (3, [.int i_fight_rounds, .int i_fight_home, .int i_fight_noise, .int i_fight_blowCount, .int i_fight_judgeCount, .ref a_fight_blows, .ref a_fight_judges, .ref a_fight_forward, .ref a_fight_downs, .ref a_fight_taken, .ref a_fight_seenBy, .ref a_fight_sums, .ref a_fight_leads])), (a_heads, .inl (X.2.1 0, 8, .inl g_9)), (a_notes, .inr (5, [.ref a_notes_delays, .ref a_notes_margins, .ref a_notes_odds])), (a_row, .inl (X.2.1 0, 40, .inl f_row)), (a_fight_blows, .inl (X.2.1 0, 200, .inl f_fight_blows)), (a_fight_seenBy, .inl (X.2.1 0, 40, .inl f_fight_seenBy)), (a_notes_delays, .inl (X.2.1 0, 8, .inl f_notes_delays))]) hx hb hG hP hD rfl hS 2 rfl h_8 dX0_pointsOf_34 eg_9 rfl (fun H locs hP hS => ?_)
        obtain ⟨v_10, ev_10, hf⟩ := lb_g hf
        refine lv_iinc (v := v_10) (lv' := [(5, .int v_10), (0, .ref a_this), (3, .int x2), (4, .int x3)]) hx hb dX0_pointsOf_35 hl (k := 3) rfl ev_10.symm (by decide) rfl (fun ls hl => ?_)
        refine lv_goto (tgt := 9) hx hb dX0_pointsOf_38 (by decide) ?_
        exact ih v_10 i_rowCount f_row g_9  H _ ls hP  hS (lv_sub hl [1, 2, 3, 0] rfl) hf
  unfold mX0_pointsOf at hf
  refine lv_aload_n hx hb dX0_pointsOf_0 rfl (lv_at hl 0 rfl) ?_
  refine lv_iload_n hx hb dX0_pointsOf_1 rfl (lv_at hl 1 rfl) ?_
  refine lv_iload_n hx hb dX0_pointsOf_2 rfl (lv_at hl 2 rfl) ?_
  obtain ⟨o_1, ho_1, hf⟩ := ob_s hf
  refine xV_v (As := [.int x0, .int x1]) (b := a_this) (rest := []) (ws2 := fun _ => [(a_this, .inr (0, [.ref a_fight, .ref a_notes, .ref a_row, .int o_1.1, .ref a_heads])), (a_fight, .inr (3, [.int i_fight_rounds, .int i_fight_home, .int i_fight_noise, .int i_fight_blowCount, .int i_fight_judgeCount, .ref a_fight_blows, .ref a_fight_judges, .ref a_fight_forward, .ref a_fight_downs, .ref a_fight_taken, .ref a_fight_seenBy, .ref a_fight_sums, .ref a_fight_leads])), (a_heads, .inl (X.2.1 0, 8, .inl f_heads)), (a_notes, .inr (5, [.ref a_notes_delays, .ref a_notes_margins, .ref a_notes_odds])), (a_row, .inl (X.2.1 0, 40, .inl o_1.2)), (a_fight_blows, .inl (X.2.1 0, 200, .inl f_fight_blows)), (a_fight_seenBy, .inl (X.2.1 0, 40, .inl f_fight_seenBy)), (a_notes_delays, .inl (X.2.1 0, 8, .inl f_notes_delays))]) hx hb hml hts hown hG hA hP hD rfl hS hl.1 (qX0_fillRow l X a_this a_fight a_row a_fight_blows a_notes a_heads a_fight_judges a_fight_forward a_fight_downs a_fight_taken a_fight_seenBy a_fight_sums a_fight_leads i_rowCount i_fight_rounds i_fight_home i_fight_noise i_fight_blowCount i_fight_judgeCount f_row f_fight_blows x0 x1 o_1 ho_1) (cwV (y := yX0_fillRow) 2 hts gX0_pointsOf_X0_fillRow rfl rfl rfl hdvX0_fillRow ⟨Nat.le_of_ble_eq_true rfl, Nat.le_of_ble_eq_true rfl⟩) [0, 1, 4, 5] [2, 3, 6, 7] [4, 5, 0, 1, 6, 7, 2, 3] rfl rfl rfl rfl rfl rfl (fun _ => rfl) (ci := 0) rfl 0 rfl rfl rfl (Nat.le_of_ble_eq_true rfl) ⟨Nat.le_of_ble_eq_true rfl, Nat.le_of_ble_eq_true rfl⟩ dX0_pointsOf_3 (fun u_2 H locs hP _ hS => ?_)
  refine lv_iconst (v := (0 : Int32)) hx hb dX0_pointsOf_6 (by decide) ?_
  refine lv_istore (lv' := [(5, .int (0 : Int32)), (0, .ref a_this), (1, .int x0), (2, .int x1), (3, .int x2), (4, .int x3)]) hx hb dX0_pointsOf_7 hl (by decide) rfl (fun ls hl => ?_)
  exact hL9  FUEL (0 : Int32) o_1.1 o_1.2 f_heads  H _ ls hP  hS (lv_sub hl [1, 4, 5, 0] rfl) hf
def mX0_tellOf_B74 (x0 : Int32) (x1 : Int32) (x2 : Int32) (x3 : Int32) (i_fight_blowCount : Int32) (i_fight_judgeCount : Int32) (f_fight_blows : Nat → Int32) (f_fight_seenBy : Nat → Int32) (f_notes_delays : Nat → Int32) (s0 : Int32) (s1 : Int32) (i_rowCount : Int32) (f_row : Nat → Int32) (f_heads : Nat → Int32) :
  Option (Int32 × Int32 × (Nat → Int32) × (Nat → Int32)) :=
  lb (imax s0 s1) fun v_11 =>
  some (v_11, i_rowCount, f_row, f_heads)
def mX0_tellOf (x0 : Int32) (x1 : Int32) (x2 : Int32) (x3 : Int32) (i_rowCount : Int32) (i_fight_blowCount : Int32) (i_fight_judgeCount : Int32) (f_heads : Nat → Int32) (f_row : Nat → Int32) (f_fight_blows : Nat → Int32) (f_fight_seenBy : Nat → Int32) (f_notes_delays : Nat → Int32) :
  Option (Int32 × Int32 × (Nat → Int32) × (Nat → Int32)) :=
  if (2 : Int32) ≤ x3 then ((mX0_pointsOf x0 (0 : Int32) x1 x2 i_rowCount i_fight_blowCount i_fight_judgeCount f_heads f_row f_fight_blows f_fight_seenBy f_notes_delays).bind fun o_2 =>
  (mX0_pointsOf x0 (1 : Int32) x1 x2 o_2.2.1 i_fight_blowCount i_fight_judgeCount o_2.2.2.2 o_2.2.2.1 f_fight_blows f_fight_seenBy f_notes_delays).bind fun o_4 =>
  lb (o_2.1 + o_4.1) fun v_6 =>
  lb (o_2.2.1 + o_4.2.1) fun v_7 =>
  if x3 = (2 : Int32) then (mX0_tellOf_B74 x0 x1 x2 x3 i_fight_blowCount i_fight_judgeCount f_fight_blows f_fight_seenBy f_notes_delays  (0 : Int32) (v_6 - v_7) o_4.2.1 o_4.2.2.1 o_4.2.2.2) else (mX0_tellOf_B74 x0 x1 x2 x3 i_fight_blowCount i_fight_judgeCount f_fight_blows f_fight_seenBy f_notes_delays  (0 : Int32) (v_7 - v_6) o_4.2.1 o_4.2.2.1 o_4.2.2.2)) else ((mX0_pointsOf x0 x3 x1 x2 i_rowCount i_fight_blowCount i_fight_judgeCount f_heads f_row f_fight_blows f_fight_seenBy f_notes_delays).bind fun o_9 =>
  some (o_9.1, o_9.2.1, o_9.2.2.1, o_9.2.2.2))
theorem hdsX0_tellOf : yX0_tellOf.cls ≠ "java/lang/invoke/MethodHandle" ∧ yX0_tellOf.cls ≠ "java/lang/invoke/VarHandle" ∧ (parseMethodDescriptor yX0_tellOf.desc).map (fun d => d.parameters.length) = some 4 := by decide +kernel
theorem hdvX0_tellOf : yX0_tellOf.cls = RX0 ∧ yX0_tellOf.cls ≠ "java/lang/invoke/MethodHandle" ∧ yX0_tellOf.cls ≠ "java/lang/invoke/VarHandle" ∧ (parseMethodDescriptor yX0_tellOf.desc).map (fun d => d.parameters.length) = some 4 := by decide +kernel
abbrev rmX0_tellOf : Room := { frames := 5, cells := 0, slots := 0, locals := 116 }
set_option maxHeartbeats 4000000 in
set_option maxRecDepth 100000 in
theorem qX0_tellOf (l : Launch) (X : XT) (a_this : Nat) (a_fight : Nat) (a_heads : Nat) (a_notes : Nat) (a_row : Nat) (a_fight_blows : Nat) (a_fight_seenBy : Nat) (a_notes_delays : Nat) (a_fight_judges : Nat) (a_fight_forward : Nat) (a_fight_downs : Nat) (a_fight_taken : Nat) (a_fight_sums : Nat) (a_fight_leads : Nat) (a_notes_margins : Nat) (a_notes_odds : Nat)  (i_rowCount : Int32) (i_fight_rounds : Int32) (i_fight_home : Int32) (i_fight_noise : Int32) (i_fight_blowCount : Int32) (i_fight_judgeCount : Int32) (f_heads : Nat → Int32) (f_row : Nat → Int32) (f_fight_blows : Nat → Int32) (f_fight_seenBy : Nat → Int32) (f_notes_delays : Nat → Int32) (x0 : Int32) (x1 : Int32) (x2 : Int32) (x3 : Int32) (o : Int32 × Int32 × (Nat → Int32) × (Nat → Int32)) (hf : mX0_tellOf x0 x1 x2 x3 i_rowCount i_fight_blowCount i_fight_judgeCount f_heads f_row f_fight_blows f_fight_seenBy f_notes_delays = some o) :
    MI l yX0_tellOf wsX0_tellOf rmX0_tellOf X [.ref a_this, .int x0, .int x1, .int x2, .int x3] [(a_this, .inr (0, [.ref a_fight, .ref a_notes, .ref a_row, .int i_rowCount, .ref a_heads])), (a_fight, .inr (3, [.int i_fight_rounds, .int i_fight_home, .int i_fight_noise, .int i_fight_blowCount, .int i_fight_judgeCount, .ref a_fight_blows, .ref a_fight_judges, .ref a_fight_forward, .ref a_fight_downs, .ref a_fight_taken, .ref a_fight_seenBy, .ref a_fight_sums, .ref a_fight_leads])), (a_heads, .inl (X.2.1 0, 8, .inl f_heads)), (a_notes, .inr (5, [.ref a_notes_delays, .ref a_notes_margins, .ref a_notes_odds])), (a_row, .inl (X.2.1 0, 40, .inl f_row)), (a_fight_blows, .inl (X.2.1 0, 200, .inl f_fight_blows)), (a_fight_seenBy, .inl (X.2.1 0, 40, .inl f_fight_seenBy)), (a_notes_delays, .inl (X.2.1 0, 8, .inl f_notes_delays))]  [(a_this, .inr (0, [.ref a_fight, .ref a_notes, .ref a_row, .int o.2.1, .ref a_heads])), (a_fight, .inr (3, [.int i_fight_rounds, .int i_fight_home, .int i_fight_noise, .int i_fight_blowCount, .int i_fight_judgeCount, .ref a_fight_blows, .ref a_fight_judges, .ref a_fight_forward, .ref a_fight_downs, .ref a_fight_taken, .ref a_fight_seenBy, .ref a_fight_sums, .ref a_fight_leads])), (a_heads, .inl (X.2.1 0, 8, .inl o.2.2.2)), (a_notes, .inr (5, [.ref a_notes_delays, .ref a_notes_margins, .ref a_notes_odds])), (a_row, .inl (X.2.1 0, 40, .inl o.2.2.1)), (a_fight_blows, .inl (X.2.1 0, 200, .inl f_fight_blows)), (a_fight_seenBy, .inl (X.2.1 0, 40, .inl f_fight_seenBy)), (a_notes_delays, .inl (X.2.1 0, 8, .inl f_notes_delays))] o.1 := by
  refine MI_ofH (cc := cX0_tellOf) (maxL := 7) (rt := .int) (by decide) rfl (Nat.le_of_ble_eq_true rfl) ?_
  intro p e s m below meth c A Q H ls hx hb hml hts hown hA hD hG hP hS hl ret
  have hown : s.vm.findClass RX0 = some m.cls := hown
  have hD : aD A [a_this, a_fight, a_heads, a_notes, a_row, a_fight_blows, a_fight_seenBy, a_notes_delays] := hD
  have hl : lv_has ls 7 [(0, .ref a_this), (1, .int x0), (2, .int x1), (3, .int x2), (4, .int x3)] := hl
  have w1 := hts (Cond.fieldLink RX0 15 "ThreeCards$Buttons" "rowCount" "I") (List.mem_of_getElem? (i := 1) rfl)
  have w2 := hts (Cond.methodLink RX0 34 Lib.Math.max.name) (List.mem_of_getElem? (i := 2) rfl)
  have w3 := hts (Cond.static Lib.Math.max.name) (List.mem_of_getElem? (i := 3) rfl)
  have w4 := hts (Cond.initialized "java/lang/Math") (List.mem_of_getElem? (i := 4) rfl)
  have w5 := hts (Cond.code Lib.Math.max.name Lib.Math.max.code 2 (some .int)) (List.mem_of_getElem? (i := 5) rfl)
  have in0 : ∀ w ∈ u_ws RX0 TX0 5, w ∈ wsX0_tellOf := by decide +kernel
  have hB74 : ∀ (s0 : Int32) (s1 : Int32) (i_rowCount : Int32) (f_row : Nat → Int32) (f_heads : Nat → Int32)  (H : Heap) (locs : List Loc) (ls : Array Slot), va_P X.1 vwCl [(a_this, .inr (0, [.ref a_fight, .ref a_notes, .ref a_row, .int i_rowCount, .ref a_heads])), (a_fight, .inr (3, [.int i_fight_rounds, .int i_fight_home, .int i_fight_noise, .int i_fight_blowCount, .int i_fight_judgeCount, .ref a_fight_blows, .ref a_fight_judges, .ref a_fight_forward, .ref a_fight_downs, .ref a_fight_taken, .ref a_fight_seenBy, .ref a_fight_sums, .ref a_fight_leads])), (a_heads, .inl (X.2.1 0, 8, .inl f_heads)), (a_notes, .inr (5, [.ref a_notes_delays, .ref a_notes_margins, .ref a_notes_odds])), (a_row, .inl (X.2.1 0, 40, .inl f_row)), (a_fight_blows, .inl (X.2.1 0, 200, .inl f_fight_blows)), (a_fight_seenBy, .inl (X.2.1 0, 40, .inl f_fight_seenBy)), (a_notes_delays, .inl (X.2.1 0, 8, .inl f_notes_delays))] H → va_S A s.heap H locs → lv_has ls 7 [] → mX0_tellOf_B74 x0 x1 x2 x3 i_fight_blowCount i_fight_judgeCount f_fight_blows f_fight_seenBy f_notes_delays  s0 s1 i_rowCount f_row f_heads = some o → W p l e rmX0_tellOf s m ([.ref a_this, .int x0, .int x1, .int x2, .int x3] : List Value).toArray below meth c H locs 0 0 Q (F0 m 74 ls [.int s1, .int s0]) := by
    intro s0 s1 i_rowCount f_row f_heads  H locs ls hP hS hl hf
    unfold mX0_tellOf_B74 at hf
    refine x_mmax hx hb hml hl.1 hown w2 w3 w4 w5 (Nat.le_of_ble_eq_true rfl) (Nat.le_of_ble_eq_true rfl) (Nat.le_of_ble_eq_true rfl) (Nat.le_of_ble_eq_true rfl) dX0_tellOf_74 ?_
    refine lv_topi (fun v_11 ev_11 => ?_)
    have hf := lb_s hf ev_11
    obtain rfl := Option.some.inj hf
    exact ret H _ ls _ rfl hP hD hS dX0_tellOf_77
  unfold mX0_tellOf at hf
  refine lv_iload hx hb dX0_tellOf_0 (lv_at hl 4 rfl) ?_
  refine lv_iconst (v := (2 : Int32)) hx hb dX0_tellOf_2 (by decide) ?_
  refine lv_icmp_ge (tgt := 16) hx hb dX0_tellOf_3 (by decide) (fun c_1 => ?_) (fun c_1 => ?_)
  · have hf := xt hf c_1
    refine lv_aload_n hx hb dX0_tellOf_16 rfl (lv_at hl 0 rfl) ?_
    refine lv_iload_n hx hb dX0_tellOf_17 rfl (lv_at hl 1 rfl) ?_
    refine lv_iconst (v := (0 : Int32)) hx hb dX0_tellOf_18 (by decide) ?_
    refine lv_iload_n hx hb dX0_tellOf_19 rfl (lv_at hl 2 rfl) ?_
    refine lv_iload_n hx hb dX0_tellOf_20 rfl (lv_at hl 3 rfl) ?_
    obtain ⟨o_2, ho_2, hf⟩ := ob_s hf
    refine xV_i (As := [.int x0, .int (0 : Int32), .int x1, .int x2]) (b := a_this) (rest := []) (ws2 := [(a_this, .inr (0, [.ref a_fight, .ref a_notes, .ref a_row, .int o_2.2.1, .ref a_heads])), (a_fight, .inr (3, [.int i_fight_rounds, .int i_fight_home, .int i_fight_noise, .int i_fight_blowCount, .int i_fight_judgeCount, .ref a_fight_blows, .ref a_fight_judges, .ref a_fight_forward, .ref a_fight_downs, .ref a_fight_taken, .ref a_fight_seenBy, .ref a_fight_sums, .ref a_fight_leads])), (a_heads, .inl (X.2.1 0, 8, .inl o_2.2.2.2)), (a_notes, .inr (5, [.ref a_notes_delays, .ref a_notes_margins, .ref a_notes_odds])), (a_row, .inl (X.2.1 0, 40, .inl o_2.2.2.1)), (a_fight_blows, .inl (X.2.1 0, 200, .inl f_fight_blows)), (a_fight_seenBy, .inl (X.2.1 0, 40, .inl f_fight_seenBy)), (a_notes_delays, .inl (X.2.1 0, 8, .inl f_notes_delays))]) hx hb hml hts hown hG hA hP hD rfl hS hl.1 (qX0_pointsOf l X a_this a_fight a_heads a_notes a_row a_fight_blows a_fight_seenBy a_notes_delays a_fight_judges a_fight_forward a_fight_downs a_fight_taken a_fight_sums a_fight_leads a_notes_margins a_notes_odds i_rowCount i_fight_rounds i_fight_home i_fight_noise i_fight_blowCount i_fight_judgeCount f_heads f_row f_fight_blows f_fight_seenBy f_notes_delays x0 (0 : Int32) x1 x2 o_2 ho_2) (cwV (y := yX0_pointsOf) 4 hts gX0_tellOf_X0_pointsOf rfl rfl rfl hdvX0_pointsOf ⟨Nat.le_of_ble_eq_true rfl, Nat.le_of_ble_eq_true rfl⟩) [0, 1, 2, 3, 4, 5, 6, 7] [] [0, 1, 2, 3, 4, 5, 6, 7] rfl rfl rfl rfl rfl rfl rfl (ci := 0) rfl 0 rfl rfl rfl (Nat.le_of_ble_eq_true rfl) ⟨Nat.le_of_ble_eq_true rfl, Nat.le_of_ble_eq_true rfl⟩ dX0_tellOf_21 (fun H locs hP _ hS => ?_)
    refine lv_istore (lv' := [(5, .int o_2.1), (0, .ref a_this), (1, .int x0), (2, .int x1), (3, .int x2), (4, .int x3)]) hx hb dX0_tellOf_24 hl (by decide) rfl (fun ls hl => ?_)
    refine lv_aload_n hx hb dX0_tellOf_26 rfl (lv_at hl 1 rfl) ?_
    refine va_get (D := X.1) (ci := 0) (v := .int o_2.2.1) (C := RX0) (T := TX0) (N := 5) hx hb hts in0 hown hG.1 hP 0 rfl rfl 3 (by decide) w1 (fun _ h9 => h9) rfl dX0_tellOf_27 ?_
    refine lv_istore (lv' := [(6, .int o_2.2.1), (5, .int o_2.1), (0, .ref a_this), (1, .int x0), (2, .int x1), (3, .int x2), (4, .int x3)]) hx hb dX0_tellOf_30 hl (by decide) rfl (fun ls hl => ?_)
    refine lv_iload hx hb dX0_tellOf_32 (lv_at hl 1 rfl) ?_
    refine lv_aload_n hx hb dX0_tellOf_34 rfl (lv_at hl 2 rfl) ?_
    refine lv_iload_n hx hb dX0_tellOf_35 rfl (lv_at hl 3 rfl) ?_
    refine lv_iconst (v := (1 : Int32)) hx hb dX0_tellOf_36 (by decide) ?_
    refine lv_iload_n hx hb dX0_tellOf_37 rfl (lv_at hl 4 rfl) ?_
    refine lv_iload_n hx hb dX0_tellOf_38 rfl (lv_at hl 5 rfl) ?_
    obtain ⟨o_4, ho_4, hf⟩ := ob_s hf
    refine xV_i (As := [.int x0, .int (1 : Int32), .int x1, .int x2]) (b := a_this) (rest := [.int o_2.1]) (ws2 := [(a_this, .inr (0, [.ref a_fight, .ref a_notes, .ref a_row, .int o_4.2.1, .ref a_heads])), (a_fight, .inr (3, [.int i_fight_rounds, .int i_fight_home, .int i_fight_noise, .int i_fight_blowCount, .int i_fight_judgeCount, .ref a_fight_blows, .ref a_fight_judges, .ref a_fight_forward, .ref a_fight_downs, .ref a_fight_taken, .ref a_fight_seenBy, .ref a_fight_sums, .ref a_fight_leads])), (a_heads, .inl (X.2.1 0, 8, .inl o_4.2.2.2)), (a_notes, .inr (5, [.ref a_notes_delays, .ref a_notes_margins, .ref a_notes_odds])), (a_row, .inl (X.2.1 0, 40, .inl o_4.2.2.1)), (a_fight_blows, .inl (X.2.1 0, 200, .inl f_fight_blows)), (a_fight_seenBy, .inl (X.2.1 0, 40, .inl f_fight_seenBy)), (a_notes_delays, .inl (X.2.1 0, 8, .inl f_notes_delays))]) hx hb hml hts hown hG hA hP hD rfl hS hl.1 (qX0_pointsOf l X a_this a_fight a_heads a_notes a_row a_fight_blows a_fight_seenBy a_notes_delays a_fight_judges a_fight_forward a_fight_downs a_fight_taken a_fight_sums a_fight_leads a_notes_margins a_notes_odds o_2.2.1 i_fight_rounds i_fight_home i_fight_noise i_fight_blowCount i_fight_judgeCount o_2.2.2.2 o_2.2.2.1 f_fight_blows f_fight_seenBy f_notes_delays x0 (1 : Int32) x1 x2 o_4 ho_4) (cwV (y := yX0_pointsOf) 4 hts gX0_tellOf_X0_pointsOf rfl rfl rfl hdvX0_pointsOf ⟨Nat.le_of_ble_eq_true rfl, Nat.le_of_ble_eq_true rfl⟩) [0, 1, 2, 3, 4, 5, 6, 7] [] [0, 1, 2, 3, 4, 5, 6, 7] rfl rfl rfl rfl rfl rfl rfl (ci := 0) rfl 0 rfl rfl rfl (Nat.le_of_ble_eq_true rfl) ⟨Nat.le_of_ble_eq_true rfl, Nat.le_of_ble_eq_true rfl⟩ dX0_tellOf_39 (fun H locs hP _ hS => ?_)
    refine lv_iadd hx hb dX0_tellOf_42 ?_
    refine lv_topi (fun v_6 ev_6 => ?_)
    have hf := lb_s hf ev_6
    refine lv_istore (lv' := [(5, .int v_6), (6, .int o_2.2.1), (0, .ref a_this), (1, .int x0), (2, .int x1), (3, .int x2), (4, .int x3)]) hx hb dX0_tellOf_43 hl (by decide) rfl (fun ls hl => ?_)
    refine lv_iload hx hb dX0_tellOf_45 (lv_at hl 1 rfl) ?_
    refine lv_aload_n hx hb dX0_tellOf_47 rfl (lv_at hl 2 rfl) ?_
    refine va_get (D := X.1) (ci := 0) (v := .int o_4.2.1) (C := RX0) (T := TX0) (N := 5) hx hb hts in0 hown hG.1 hP 0 rfl rfl 3 (by decide) w1 (fun _ h9 => h9) rfl dX0_tellOf_48 ?_
    refine lv_iadd hx hb dX0_tellOf_51 ?_
    refine lv_topi (fun v_7 ev_7 => ?_)
    have hf := lb_s hf ev_7
    refine lv_istore (lv' := [(6, .int v_7), (5, .int v_6), (0, .ref a_this), (1, .int x0), (2, .int x1), (3, .int x2), (4, .int x3)]) hx hb dX0_tellOf_52 hl (by decide) rfl (fun ls hl => ?_)
    refine lv_iconst (v := (0 : Int32)) hx hb dX0_tellOf_54 (by decide) ?_
    refine lv_iload hx hb dX0_tellOf_55 (lv_at hl 6 rfl) ?_
    refine lv_iconst (v := (2 : Int32)) hx hb dX0_tellOf_57 (by decide) ?_
    refine lv_icmp_ne (tgt := 69) hx hb dX0_tellOf_58 (by decide) (fun c_8 => ?_) (fun c_8 => ?_)
    · have hf := xf hf c_8
      refine lv_iload hx hb dX0_tellOf_69 (lv_at hl 0 rfl) ?_
      refine lv_iload hx hb dX0_tellOf_71 (lv_at hl 1 rfl) ?_
      refine lv_isub hx hb dX0_tellOf_73 ?_
      exact hB74  (0 : Int32) (v_7 - v_6) o_4.2.1 o_4.2.2.1 o_4.2.2.2  H _ ls hP  hS (lv_sub hl [] rfl) hf
    · have hf := xt hf c_8
      refine lv_iload hx hb dX0_tellOf_61 (lv_at hl 1 rfl) ?_
      refine lv_iload hx hb dX0_tellOf_63 (lv_at hl 0 rfl) ?_
      refine lv_isub hx hb dX0_tellOf_65 ?_
      refine lv_goto (tgt := 74) hx hb dX0_tellOf_66 (by decide) ?_
      exact hB74  (0 : Int32) (v_6 - v_7) o_4.2.1 o_4.2.2.1 o_4.2.2.2  H _ ls hP  hS (lv_sub hl [] rfl) hf
  · have hf := xf hf c_1
    refine lv_aload_n hx hb dX0_tellOf_6 rfl (lv_at hl 0 rfl) ?_
    refine lv_iload_n hx hb dX0_tellOf_7 rfl (lv_at hl 1 rfl) ?_
    refine lv_iload hx hb dX0_tellOf_8 (lv_at hl 4 rfl) ?_
    refine lv_iload_n hx hb dX0_tellOf_10 rfl (lv_at hl 2 rfl) ?_
    refine lv_iload_n hx hb dX0_tellOf_11 rfl (lv_at hl 3 rfl) ?_
    obtain ⟨o_9, ho_9, hf⟩ := ob_s hf
    refine xV_i (As := [.int x0, .int x3, .int x1, .int x2]) (b := a_this) (rest := []) (ws2 := [(a_this, .inr (0, [.ref a_fight, .ref a_notes, .ref a_row, .int o_9.2.1, .ref a_heads])), (a_fight, .inr (3, [.int i_fight_rounds, .int i_fight_home, .int i_fight_noise, .int i_fight_blowCount, .int i_fight_judgeCount, .ref a_fight_blows, .ref a_fight_judges, .ref a_fight_forward, .ref a_fight_downs, .ref a_fight_taken, .ref a_fight_seenBy, .ref a_fight_sums, .ref a_fight_leads])), (a_heads, .inl (X.2.1 0, 8, .inl o_9.2.2.2)), (a_notes, .inr (5, [.ref a_notes_delays, .ref a_notes_margins, .ref a_notes_odds])), (a_row, .inl (X.2.1 0, 40, .inl o_9.2.2.1)), (a_fight_blows, .inl (X.2.1 0, 200, .inl f_fight_blows)), (a_fight_seenBy, .inl (X.2.1 0, 40, .inl f_fight_seenBy)), (a_notes_delays, .inl (X.2.1 0, 8, .inl f_notes_delays))]) hx hb hml hts hown hG hA hP hD rfl hS hl.1 (qX0_pointsOf l X a_this a_fight a_heads a_notes a_row a_fight_blows a_fight_seenBy a_notes_delays a_fight_judges a_fight_forward a_fight_downs a_fight_taken a_fight_sums a_fight_leads a_notes_margins a_notes_odds i_rowCount i_fight_rounds i_fight_home i_fight_noise i_fight_blowCount i_fight_judgeCount f_heads f_row f_fight_blows f_fight_seenBy f_notes_delays x0 x3 x1 x2 o_9 ho_9) (cwV (y := yX0_pointsOf) 4 hts gX0_tellOf_X0_pointsOf rfl rfl rfl hdvX0_pointsOf ⟨Nat.le_of_ble_eq_true rfl, Nat.le_of_ble_eq_true rfl⟩) [0, 1, 2, 3, 4, 5, 6, 7] [] [0, 1, 2, 3, 4, 5, 6, 7] rfl rfl rfl rfl rfl rfl rfl (ci := 0) rfl 0 rfl rfl rfl (Nat.le_of_ble_eq_true rfl) ⟨Nat.le_of_ble_eq_true rfl, Nat.le_of_ble_eq_true rfl⟩ dX0_tellOf_12 (fun H locs hP _ hS => ?_)
    obtain rfl := Option.some.inj hf
    exact ret H _ ls _ rfl hP hD hS dX0_tellOf_15
