def mX10_signOf (x0 : Int32) :
  Option (Int32) :=
  if x0 = 0 then (some (0 : Int32)) else (if x0 ≤ 0 then (some (-1 : Int32)) else (some (1 : Int32)))
theorem hdsX10_signOf : yX10_signOf.cls ≠ "java/lang/invoke/MethodHandle" ∧ yX10_signOf.cls ≠ "java/lang/invoke/VarHandle" ∧ (parseMethodDescriptor yX10_signOf.desc).map (fun d => d.parameters.length) = some 1 := by decide +kernel
abbrev rmX10_signOf : Room := { frames := 0, cells := 0, slots := 0, locals := 0 }
set_option maxHeartbeats 4000000 in
set_option maxRecDepth 100000 in
theorem qX10_signOf (l : Launch) (X : XT)    (x0 : Int32) (o : Int32) (hf : mX10_signOf x0 = some o) :
    MI l yX10_signOf wsX10_signOf rmX10_signOf X [.int x0] []  [] o := by
  refine MI_ofH (cc := cX10_signOf) (maxL := 1) (rt := .int) (by decide) rfl (Nat.le_of_ble_eq_true rfl) ?_
  intro p e s m below meth c A Q H ls hx hb hml hts hown hA hD hG hP hS hl ret
  have hown : s.vm.findClass RX10 = some m.cls := hown
  have hD : aD A [] := hD
  have hl : lv_has ls 1 [(0, .int x0)] := hl
  unfold mX10_signOf at hf
  refine lv_iload_n hx hb dX10_signOf_0 rfl (lv_at hl 0 rfl) ?_
  refine lv_if_ne (tgt := 6) hx hb dX10_signOf_1 (by decide) (fun c_1 => ?_) (fun c_1 => ?_)
  · have hf := xf hf c_1
    refine lv_iload_n hx hb dX10_signOf_6 rfl (lv_at hl 0 rfl) ?_
    refine lv_if_le (tgt := 14) hx hb dX10_signOf_7 (by decide) (fun c_2 => ?_) (fun c_2 => ?_)
    · have hf := xt hf c_2
      refine lv_iconst (v := (-1 : Int32)) hx hb dX10_signOf_14 (by decide) ?_
      obtain rfl := Option.some.inj hf
      exact ret H _ ls _ rfl hP hD hS dX10_signOf_15
    · have hf := xf hf c_2
      refine lv_iconst (v := (1 : Int32)) hx hb dX10_signOf_10 (by decide) ?_
      refine lv_goto (tgt := 15) hx hb dX10_signOf_11 (by decide) ?_
      obtain rfl := Option.some.inj hf
      exact ret H _ ls _ rfl hP hD hS dX10_signOf_15
  · have hf := xt hf c_1
    refine lv_iconst (v := (0 : Int32)) hx hb dX10_signOf_4 (by decide) ?_
    obtain rfl := Option.some.inj hf
    exact ret H _ ls _ rfl hP hD hS dX10_signOf_5
def mX10_clip (x0 : Int32) (x1 : Int32) :
  Option (Int32) :=
  lb (imax (-x1) (imin x1 x0)) fun v_1 =>
  some v_1
theorem hdsX10_clip : yX10_clip.cls ≠ "java/lang/invoke/MethodHandle" ∧ yX10_clip.cls ≠ "java/lang/invoke/VarHandle" ∧ (parseMethodDescriptor yX10_clip.desc).map (fun d => d.parameters.length) = some 2 := by decide +kernel
abbrev rmX10_clip : Room := { frames := 1, cells := 0, slots := 0, locals := 21 }
set_option maxHeartbeats 4000000 in
set_option maxRecDepth 100000 in
theorem qX10_clip (l : Launch) (X : XT)    (x0 : Int32) (x1 : Int32) (o : Int32) (hf : mX10_clip x0 x1 = some o) :
    MI l yX10_clip wsX10_clip rmX10_clip X [.int x0, .int x1] []  [] o := by
  refine MI_ofH (cc := cX10_clip) (maxL := 2) (rt := .int) (by decide) rfl (Nat.le_of_ble_eq_true rfl) ?_
  intro p e s m below meth c A Q H ls hx hb hml hts hown hA hD hG hP hS hl ret
  have hown : s.vm.findClass RX10 = some m.cls := hown
  have hD : aD A [] := hD
  have hl : lv_has ls 2 [(0, .int x0), (1, .int x1)] := hl
  have w1 := hts (.methodLink RX10 271 Lib.Math.min.name) (List.mem_of_getElem? (i := 1) rfl)
  have w2 := hts (.static Lib.Math.min.name) (List.mem_of_getElem? (i := 2) rfl)
  have w3 := hts (.initialized "java/lang/Math") (List.mem_of_getElem? (i := 3) rfl)
  have w4 := hts (.code Lib.Math.min.name Lib.Math.min.code 2 (some .int)) (List.mem_of_getElem? (i := 4) rfl)
  have w5 := hts (.methodLink RX10 276 Lib.Math.max.name) (List.mem_of_getElem? (i := 5) rfl)
  have w6 := hts (.static Lib.Math.max.name) (List.mem_of_getElem? (i := 6) rfl)
  have w7 := hts (.code Lib.Math.max.name Lib.Math.max.code 2 (some .int)) (List.mem_of_getElem? (i := 7) rfl)
  unfold mX10_clip at hf
  refine lv_iload_n hx hb dX10_clip_0 rfl (lv_at hl 1 rfl) ?_
  refine lv_ineg hx hb dX10_clip_1 ?_
  refine lv_iload_n hx hb dX10_clip_2 rfl (lv_at hl 1 rfl) ?_
  refine lv_iload_n hx hb dX10_clip_3 rfl (lv_at hl 0 rfl) ?_
  refine x_mmin hx hb hml hl.1 hown w1 w2 w3 w4 (Nat.le_of_ble_eq_true rfl) (Nat.le_of_ble_eq_true rfl) (Nat.le_of_ble_eq_true rfl) (Nat.le_of_ble_eq_true rfl) dX10_clip_4 ?_
  refine x_mmax hx hb hml hl.1 hown w5 w6 w3 w7 (Nat.le_of_ble_eq_true rfl) (Nat.le_of_ble_eq_true rfl) (Nat.le_of_ble_eq_true rfl) (Nat.le_of_ble_eq_true rfl) dX10_clip_7 ?_
  refine lv_topi (fun v_1 ev_1 => ?_)
  have hf := lb_s hf ev_1
  obtain rfl := Option.some.inj hf
  exact ret H _ ls _ rfl hP hD hS dX10_clip_10
def mX1_sideOf_B2 (x0 : Int32) (x1 : Int32) (f_fight_leads : Nat → Int32) (k2 : Int32 → Option (Int32)) (l3 : Int32) :
  Option (Int32) :=
  if l3 < 0 then (some (1 : Int32)) else ((mX3_leadOf x0 l3 f_fight_leads).bind fun o_2 =>
  if o_2 = 0 then (lb (l3 + (-1 : Int32)) fun v_5 =>
  k2 v_5) else ((mX10_signOf o_2).bind fun o_6 =>
  some o_6))
def mX1_sideOf_L2 (x0 : Int32) (x1 : Int32) (f_fight_leads : Nat → Int32) (n : Nat) (l3 : Int32) :
  Option (Int32) :=
  loopN (fun k (s : Int32) => mX1_sideOf_B2 x0 x1 f_fight_leads  (k) s) n (l3)
def mX1_sideOf (x0 : Int32) (x1 : Int32) (f_fight_leads : Nat → Int32) :
  Option (Int32) :=
  mX1_sideOf_L2 x0 x1 f_fight_leads  FUEL x1
theorem hdsX1_sideOf : yX1_sideOf.cls ≠ "java/lang/invoke/MethodHandle" ∧ yX1_sideOf.cls ≠ "java/lang/invoke/VarHandle" ∧ (parseMethodDescriptor yX1_sideOf.desc).map (fun d => d.parameters.length) = some 2 := by decide +kernel
theorem hdvX1_sideOf : yX1_sideOf.cls = RX1 ∧ yX1_sideOf.cls ≠ "java/lang/invoke/MethodHandle" ∧ yX1_sideOf.cls ≠ "java/lang/invoke/VarHandle" ∧ (parseMethodDescriptor yX1_sideOf.desc).map (fun d => d.parameters.length) = some 2 := by decide +kernel
abbrev rmX1_sideOf : Room := { frames := 1, cells := 0, slots := 0, locals := 22 }
set_option maxHeartbeats 4000000 in
set_option maxRecDepth 100000 in
theorem qX1_sideOf (l : Launch) (X : XT) (a_this : Nat) (a_fight : Nat) (a_fight_leads : Nat) (a_owners : Nat) (a_fight_blows : Nat) (a_fight_judges : Nat) (a_fight_forward : Nat) (a_fight_downs : Nat) (a_fight_taken : Nat) (a_fight_seenBy : Nat) (a_fight_sums : Nat)  (i_fight_rounds : Int32) (i_fight_home : Int32) (i_fight_noise : Int32) (i_fight_blowCount : Int32) (i_fight_judgeCount : Int32) (f_fight_leads : Nat → Int32) (x0 : Int32) (x1 : Int32) (o : Int32) (hf : mX1_sideOf x0 x1 f_fight_leads = some o) :
    MI l yX1_sideOf wsX1_sideOf rmX1_sideOf X [.ref a_this, .int x0, .int x1] [(a_this, .inr (1, [.ref a_fight, .ref a_owners])), (a_fight, .inr (3, [.int i_fight_rounds, .int i_fight_home, .int i_fight_noise, .int i_fight_blowCount, .int i_fight_judgeCount, .ref a_fight_blows, .ref a_fight_judges, .ref a_fight_forward, .ref a_fight_downs, .ref a_fight_taken, .ref a_fight_seenBy, .ref a_fight_sums, .ref a_fight_leads])), (a_fight_leads, .inl (X.2.1 0, 96, .inl f_fight_leads))]  [(a_this, .inr (1, [.ref a_fight, .ref a_owners])), (a_fight, .inr (3, [.int i_fight_rounds, .int i_fight_home, .int i_fight_noise, .int i_fight_blowCount, .int i_fight_judgeCount, .ref a_fight_blows, .ref a_fight_judges, .ref a_fight_forward, .ref a_fight_downs, .ref a_fight_taken, .ref a_fight_seenBy, .ref a_fight_sums, .ref a_fight_leads])), (a_fight_leads, .inl (X.2.1 0, 96, .inl f_fight_leads))] o := by
  refine MI_ofH (cc := cX1_sideOf) (maxL := 5) (rt := .int) (by decide) rfl (Nat.le_of_ble_eq_true rfl) ?_
  intro p e s m below meth c A Q H ls hx hb hml hts hown hA hD hG hP hS hl ret
  have hown : s.vm.findClass RX1 = some m.cls := hown
  have hD : aD A [a_this, a_fight, a_fight_leads] := hD
  have hl : lv_has ls 5 [(0, .ref a_this), (1, .int x0), (2, .int x1)] := hl
  have w1 := hts (.fieldLink RX1 17 "ThreeCards$Cards" "fight" "LThreeCards$Fight;") (List.mem_of_getElem? (i := 1) rfl)
  have w8 := hts (.static yX10_signOf) (List.mem_of_getElem? (i := 8) rfl)
  have w9 := hts (.initialized RX10) (List.mem_of_getElem? (i := 9) rfl)
  have in1 : ∀ w ∈ u_ws RX1 TX1 2, w ∈ wsX1_sideOf := by decide +kernel
  have hL2 : ∀ (n : Nat) (l3 : Int32)  (H : Heap) (locs : List Loc) (ls : Array Slot), va_P X.1 vwCl [(a_this, .inr (1, [.ref a_fight, .ref a_owners])), (a_fight, .inr (3, [.int i_fight_rounds, .int i_fight_home, .int i_fight_noise, .int i_fight_blowCount, .int i_fight_judgeCount, .ref a_fight_blows, .ref a_fight_judges, .ref a_fight_forward, .ref a_fight_downs, .ref a_fight_taken, .ref a_fight_seenBy, .ref a_fight_sums, .ref a_fight_leads])), (a_fight_leads, .inl (X.2.1 0, 96, .inl f_fight_leads))] H → va_S A s.heap H locs → lv_has ls 5 [(0, .ref a_this), (1, .int x0), (3, .int l3)] → mX1_sideOf_L2 x0 x1 f_fight_leads  n l3 = some o → W p l e rmX1_sideOf s m ([.ref a_this, .int x0, .int x1] : List Value).toArray below meth c H locs 0 0 Q (F0 m 2 ls []) := by
    intro n
    induction n with
    | zero => intro l3  H locs ls hP hS hl hf; exact xn hf
    | succ n ih =>
      intro l3  H locs ls hP hS hl hf
      have hf : mX1_sideOf_B2 x0 x1 f_fight_leads  (mX1_sideOf_L2 x0 x1 f_fight_leads  n) l3 = some o := hf
      generalize mX1_sideOf_L2 x0 x1 f_fight_leads  n = k2 at ih hf
      unfold mX1_sideOf_B2 at hf
      refine lv_iload_n hx hb dX1_sideOf_2 rfl (lv_at hl 2 rfl) ?_
      refine lv_if_lt (tgt := 34) hx hb dX1_sideOf_3 (by decide) (fun c_1 => ?_) (fun c_1 => ?_)
      · have hf := xt hf c_1
        refine lv_iconst (v := (1 : Int32)) hx hb dX1_sideOf_34 (by decide) ?_
        obtain rfl := Option.some.inj hf
        exact ret H _ ls _ rfl hP hD hS dX1_sideOf_35
      · have hf := xf hf c_1
        refine lv_aload_n hx hb dX1_sideOf_6 rfl (lv_at hl 0 rfl) ?_
        refine va_get (D := X.1) (ci := 1) (v := .ref a_fight) (C := RX1) (T := TX1) (N := 2) hx hb hts in1 hown hG.1 hP 0 rfl rfl 0 (by decide) w1 (fun _ h9 => h9) rfl dX1_sideOf_7 ?_
        refine lv_iload_n hx hb dX1_sideOf_10 rfl (lv_at hl 1 rfl) ?_
        refine lv_iload_n hx hb dX1_sideOf_11 rfl (lv_at hl 2 rfl) ?_
        obtain ⟨o_2, ho_2, hf⟩ := ob_s hf
        refine xV_i (As := [.int x0, .int l3]) (b := a_fight) (rest := []) (ws2 := [(a_this, .inr (1, [.ref a_fight, .ref a_owners])), (a_fight, .inr (3, [.int i_fight_rounds, .int i_fight_home, .int i_fight_noise, .int i_fight_blowCount, .int i_fight_judgeCount, .ref a_fight_blows, .ref a_fight_judges, .ref a_fight_forward, .ref a_fight_downs, .ref a_fight_taken, .ref a_fight_seenBy, .ref a_fight_sums, .ref a_fight_leads])), (a_fight_leads, .inl (X.2.1 0, 96, .inl f_fight_leads))]) hx hb hml hts hown hG hA hP hD rfl hS hl.1 (qX3_leadOf l X a_fight a_fight_leads a_fight_blows a_fight_judges a_fight_forward a_fight_downs a_fight_taken a_fight_seenBy a_fight_sums i_fight_rounds i_fight_home i_fight_noise i_fight_blowCount i_fight_judgeCount f_fight_leads x0 l3 o_2 ho_2) (cwV (y := yX3_leadOf) 2 hts gX1_sideOf_X3_leadOf rfl rfl rfl hdvX3_leadOf ⟨Nat.le_of_ble_eq_true rfl, Nat.le_of_ble_eq_true rfl⟩) [1, 2] [0] [0, 1, 2] rfl rfl rfl rfl rfl rfl rfl (ci := 3) rfl 1 rfl rfl rfl (Nat.le_of_ble_eq_true rfl) ⟨Nat.le_of_ble_eq_true rfl, Nat.le_of_ble_eq_true rfl⟩ dX1_sideOf_12 (fun H locs hP _ hS => ?_)
        refine lv_istore (lv' := [(4, .int o_2), (0, .ref a_this), (1, .int x0), (3, .int l3)]) hx hb dX1_sideOf_15 hl (by decide) rfl (fun ls hl => ?_)
        refine lv_iload hx hb dX1_sideOf_17 (lv_at hl 0 rfl) ?_
        refine lv_if_eq (tgt := 28) hx hb dX1_sideOf_19 (by decide) (fun c_4 => ?_) (fun c_4 => ?_)
        · have hf := xt hf c_4
          obtain ⟨v_5, ev_5, hf⟩ := lb_g hf
          refine lv_iinc (v := v_5) (lv' := [(3, .int v_5), (4, .int o_2), (0, .ref a_this), (1, .int x0)]) hx hb dX1_sideOf_28 hl (k := 3) rfl ev_5.symm (by decide) rfl (fun ls hl => ?_)
          refine lv_goto (tgt := 2) hx hb dX1_sideOf_31 (by decide) ?_
          exact ih v_5  H _ ls hP  hS (lv_sub hl [2, 3, 0] rfl) hf
        · have hf := xf hf c_4
          refine lv_iload hx hb dX1_sideOf_22 (lv_at hl 0 rfl) ?_
          obtain ⟨o_6, ho_6, hf⟩ := ob_s hf
          refine xSN_i (As := [.int o_2]) (rest := []) (ws2 := [(a_this, .inr (1, [.ref a_fight, .ref a_owners])), (a_fight, .inr (3, [.int i_fight_rounds, .int i_fight_home, .int i_fight_noise, .int i_fight_blowCount, .int i_fight_judgeCount, .ref a_fight_blows, .ref a_fight_judges, .ref a_fight_forward, .ref a_fight_downs, .ref a_fight_taken, .ref a_fight_seenBy, .ref a_fight_sums, .ref a_fight_leads])), (a_fight_leads, .inl (X.2.1 0, 96, .inl f_fight_leads))]) hx hb hml hts hown hG hA hP hD rfl hS hl.1 (qX10_signOf l X o_2 o_6 ho_6) ⟨va_cnB (y := yX10_signOf) 1 hts gX1_sideOf_X10_signOf_n25 rfl rfl rfl (nm3 hG.2.1) w9 hdsX10_signOf ⟨Nat.le_of_ble_eq_true rfl, Nat.le_of_ble_eq_true rfl⟩, w8, trivial⟩ [] [0, 1, 2] [0, 1, 2] rfl rfl rfl rfl rfl rfl rfl rfl rfl (Nat.le_of_ble_eq_true rfl) ⟨Nat.le_of_ble_eq_true rfl, Nat.le_of_ble_eq_true rfl⟩ dX1_sideOf_24 (fun H locs hP _ hS => ?_)
          obtain rfl := Option.some.inj hf
          exact ret H _ ls _ rfl hP hD hS dX1_sideOf_27
  unfold mX1_sideOf at hf
  refine lv_iload_n hx hb dX1_sideOf_0 rfl (lv_at hl 2 rfl) ?_
  refine lv_istore_n (lv' := [(3, .int x1), (0, .ref a_this), (1, .int x0), (2, .int x1)]) hx hb dX1_sideOf_1 rfl hl (by decide) rfl (fun ls hl => ?_)
  exact hL2  FUEL x1  H _ ls hP  hS (lv_sub hl [1, 2, 0] rfl) hf
def mX1_marginBy_B74 (x0 : Int32) (x1 : Int32) (x2 : Int32) (f_fight_downs : Nat → Int32) (f_fight_judges : Nat → Int32) (f_fight_leads : Nat → Int32) (l4 : Int32) :
  Option (Int32) :=
  (mX1_sideOf x1 x2 f_fight_leads).bind fun o_16 =>
  (mX3_downsFor x2 f_fight_downs).bind fun o_18 =>
  (mX10_clip ((l4 * o_16) + ((2 : Int32) * o_18)) (8 : Int32)).bind fun o_20 =>
  some o_20
def mX1_marginBy_B72 (x0 : Int32) (x1 : Int32) (x2 : Int32) (f_fight_downs : Nat → Int32) (f_fight_judges : Nat → Int32) (f_fight_leads : Nat → Int32) (s0 : Int32) :
  Option (Int32) :=
  mX1_marginBy_B74 x0 x1 x2 f_fight_downs f_fight_judges f_fight_leads  s0
def mX1_marginBy (x0 : Int32) (x1 : Int32) (x2 : Int32) (f_fight_downs : Nat → Int32) (f_fight_judges : Nat → Int32) (f_fight_leads : Nat → Int32) :
  Option (Int32) :=
  if x0 = (3 : Int32) then ((mX3_leadOf x1 x2 f_fight_leads).bind fun o_7 =>
  (mX10_signOf o_7).bind fun o_9 =>
  (mX10_clip ((o_7 / (5 : Int32)) + o_9) (20 : Int32)).bind fun o_11 =>
  (mX3_downsFor x2 f_fight_downs).bind fun o_13 =>
  lb (o_11 + ((4 : Int32) * o_13)) fun v_15 =>
  some v_15) else (if x0 = 0 then (mX1_marginBy_B74 x0 x1 x2 f_fight_downs f_fight_judges f_fight_leads  (2 : Int32)) else ((mX3_isClose x1 x2 f_fight_judges f_fight_leads).bind fun o_3 =>
  if o_3 = 0 then (mX1_marginBy_B74 x0 x1 x2 f_fight_downs f_fight_judges f_fight_leads  (2 : Int32)) else (if x0 = (1 : Int32) then (mX1_marginBy_B72 x0 x1 x2 f_fight_downs f_fight_judges f_fight_leads  (1 : Int32)) else (mX1_marginBy_B72 x0 x1 x2 f_fight_downs f_fight_judges f_fight_leads  (0 : Int32)))))
theorem hdsX1_marginBy : yX1_marginBy.cls ≠ "java/lang/invoke/MethodHandle" ∧ yX1_marginBy.cls ≠ "java/lang/invoke/VarHandle" ∧ (parseMethodDescriptor yX1_marginBy.desc).map (fun d => d.parameters.length) = some 3 := by decide +kernel
theorem hdvX1_marginBy : yX1_marginBy.cls = RX1 ∧ yX1_marginBy.cls ≠ "java/lang/invoke/MethodHandle" ∧ yX1_marginBy.cls ≠ "java/lang/invoke/VarHandle" ∧ (parseMethodDescriptor yX1_marginBy.desc).map (fun d => d.parameters.length) = some 3 := by decide +kernel
abbrev rmX1_marginBy : Room := { frames := 2, cells := 0, slots := 0, locals := 46 }
set_option maxHeartbeats 4000000 in
set_option maxRecDepth 100000 in
theorem qX1_marginBy (l : Launch) (X : XT) (a_this : Nat) (a_fight : Nat) (a_fight_downs : Nat) (a_fight_judges : Nat) (a_fight_leads : Nat) (a_owners : Nat) (a_fight_blows : Nat) (a_fight_forward : Nat) (a_fight_taken : Nat) (a_fight_seenBy : Nat) (a_fight_sums : Nat)  (i_fight_rounds : Int32) (i_fight_home : Int32) (i_fight_noise : Int32) (i_fight_blowCount : Int32) (i_fight_judgeCount : Int32) (f_fight_downs : Nat → Int32) (f_fight_judges : Nat → Int32) (f_fight_leads : Nat → Int32) (x0 : Int32) (x1 : Int32) (x2 : Int32) (o : Int32) (hf : mX1_marginBy x0 x1 x2 f_fight_downs f_fight_judges f_fight_leads = some o) :
    MI l yX1_marginBy wsX1_marginBy rmX1_marginBy X [.ref a_this, .int x0, .int x1, .int x2] [(a_this, .inr (1, [.ref a_fight, .ref a_owners])), (a_fight, .inr (3, [.int i_fight_rounds, .int i_fight_home, .int i_fight_noise, .int i_fight_blowCount, .int i_fight_judgeCount, .ref a_fight_blows, .ref a_fight_judges, .ref a_fight_forward, .ref a_fight_downs, .ref a_fight_taken, .ref a_fight_seenBy, .ref a_fight_sums, .ref a_fight_leads])), (a_fight_downs, .inl (X.2.1 0, 24, .inl f_fight_downs)), (a_fight_judges, .inl (X.2.1 0, 56, .inl f_fight_judges)), (a_fight_leads, .inl (X.2.1 0, 96, .inl f_fight_leads))]  [(a_this, .inr (1, [.ref a_fight, .ref a_owners])), (a_fight, .inr (3, [.int i_fight_rounds, .int i_fight_home, .int i_fight_noise, .int i_fight_blowCount, .int i_fight_judgeCount, .ref a_fight_blows, .ref a_fight_judges, .ref a_fight_forward, .ref a_fight_downs, .ref a_fight_taken, .ref a_fight_seenBy, .ref a_fight_sums, .ref a_fight_leads])), (a_fight_downs, .inl (X.2.1 0, 24, .inl f_fight_downs)), (a_fight_judges, .inl (X.2.1 0, 56, .inl f_fight_judges)), (a_fight_leads, .inl (X.2.1 0, 96, .inl f_fight_leads))] o := by
  refine MI_ofH (cc := cX1_marginBy) (maxL := 5) (rt := .int) (by decide) rfl (Nat.le_of_ble_eq_true rfl) ?_
  intro p e s m below meth c A Q H ls hx hb hml hts hown hA hD hG hP hS hl ret
  have hown : s.vm.findClass RX1 = some m.cls := hown
  have hD : aD A [a_this, a_fight, a_fight_downs, a_fight_judges, a_fight_leads] := hD
  have hl : lv_has ls 5 [(0, .ref a_this), (1, .int x0), (2, .int x1), (3, .int x2)] := hl
  have w1 := hts (Cond.fieldLink RX1 17 "ThreeCards$Cards" "fight" "LThreeCards$Fight;") (List.mem_of_getElem? (i := 1) rfl)
  have w8 := hts (Cond.static yX10_signOf) (List.mem_of_getElem? (i := 8) rfl)
  have w9 := hts (Cond.initialized RX10) (List.mem_of_getElem? (i := 9) rfl)
  have w11 := hts (Cond.static yX10_clip) (List.mem_of_getElem? (i := 11) rfl)
  have in1 : ∀ w ∈ u_ws RX1 TX1 2, w ∈ wsX1_marginBy := by decide +kernel
  have hB74 : ∀ (l4 : Int32)  (H : Heap) (locs : List Loc) (ls : Array Slot), va_P X.1 vwCl [(a_this, .inr (1, [.ref a_fight, .ref a_owners])), (a_fight, .inr (3, [.int i_fight_rounds, .int i_fight_home, .int i_fight_noise, .int i_fight_blowCount, .int i_fight_judgeCount, .ref a_fight_blows, .ref a_fight_judges, .ref a_fight_forward, .ref a_fight_downs, .ref a_fight_taken, .ref a_fight_seenBy, .ref a_fight_sums, .ref a_fight_leads])), (a_fight_downs, .inl (X.2.1 0, 24, .inl f_fight_downs)), (a_fight_judges, .inl (X.2.1 0, 56, .inl f_fight_judges)), (a_fight_leads, .inl (X.2.1 0, 96, .inl f_fight_leads))] H → va_S A s.heap H locs → lv_has ls 5 [(0, .ref a_this), (2, .int x1), (3, .int x2), (4, .int l4)] → mX1_marginBy_B74 x0 x1 x2 f_fight_downs f_fight_judges f_fight_leads  l4 = some o → W p l e rmX1_marginBy s m ([.ref a_this, .int x0, .int x1, .int x2] : List Value).toArray below meth c H locs 0 0 Q (F0 m 74 ls []) := by
    intro l4  H locs ls hP hS hl hf
    unfold mX1_marginBy_B74 at hf
    refine lv_iload hx hb dX1_marginBy_74 (lv_at hl 3 rfl) ?_
    refine lv_aload_n hx hb dX1_marginBy_76 rfl (lv_at hl 0 rfl) ?_
    refine lv_iload_n hx hb dX1_marginBy_77 rfl (lv_at hl 1 rfl) ?_
    refine lv_iload_n hx hb dX1_marginBy_78 rfl (lv_at hl 2 rfl) ?_
    obtain ⟨o_16, ho_16, hf⟩ := ob_s hf
    refine xV_i (As := [.int x1, .int x2]) (b := a_this) (rest := [.int l4]) (ws2 := [(a_this, .inr (1, [.ref a_fight, .ref a_owners])), (a_fight, .inr (3, [.int i_fight_rounds, .int i_fight_home, .int i_fight_noise, .int i_fight_blowCount, .int i_fight_judgeCount, .ref a_fight_blows, .ref a_fight_judges, .ref a_fight_forward, .ref a_fight_downs, .ref a_fight_taken, .ref a_fight_seenBy, .ref a_fight_sums, .ref a_fight_leads])), (a_fight_downs, .inl (X.2.1 0, 24, .inl f_fight_downs)), (a_fight_judges, .inl (X.2.1 0, 56, .inl f_fight_judges)), (a_fight_leads, .inl (X.2.1 0, 96, .inl f_fight_leads))]) hx hb hml hts hown hG hA hP hD rfl hS hl.1 (qX1_sideOf l X a_this a_fight a_fight_leads a_owners a_fight_blows a_fight_judges a_fight_forward a_fight_downs a_fight_taken a_fight_seenBy a_fight_sums i_fight_rounds i_fight_home i_fight_noise i_fight_blowCount i_fight_judgeCount f_fight_leads x1 x2 o_16 ho_16) (cwV (y := yX1_sideOf) 2 hts gX1_marginBy_X1_sideOf rfl rfl rfl hdvX1_sideOf ⟨Nat.le_of_ble_eq_true rfl, Nat.le_of_ble_eq_true rfl⟩) [0, 1, 4] [2, 3] [2, 3, 0, 1, 4] rfl rfl rfl rfl rfl rfl rfl (ci := 1) rfl 0 rfl rfl rfl (Nat.le_of_ble_eq_true rfl) ⟨Nat.le_of_ble_eq_true rfl, Nat.le_of_ble_eq_true rfl⟩ dX1_marginBy_79 (fun H locs hP _ hS => ?_)
    refine lv_imul hx hb dX1_marginBy_82 ?_
    refine lv_iconst (v := (2 : Int32)) hx hb dX1_marginBy_83 (by decide) ?_
    refine lv_aload_n hx hb dX1_marginBy_84 rfl (lv_at hl 0 rfl) ?_
    refine va_get (D := X.1) (ci := 1) (v := .ref a_fight) (C := RX1) (T := TX1) (N := 2) hx hb hts in1 hown hG.1 hP 0 rfl rfl 0 (by decide) w1 (fun _ h9 => h9) rfl dX1_marginBy_85 ?_
    refine lv_iload_n hx hb dX1_marginBy_88 rfl (lv_at hl 2 rfl) ?_
    obtain ⟨o_18, ho_18, hf⟩ := ob_s hf
    refine xV_i (As := [.int x2]) (b := a_fight) (rest := [.int (2 : Int32), .int (l4 * o_16)]) (ws2 := [(a_this, .inr (1, [.ref a_fight, .ref a_owners])), (a_fight, .inr (3, [.int i_fight_rounds, .int i_fight_home, .int i_fight_noise, .int i_fight_blowCount, .int i_fight_judgeCount, .ref a_fight_blows, .ref a_fight_judges, .ref a_fight_forward, .ref a_fight_downs, .ref a_fight_taken, .ref a_fight_seenBy, .ref a_fight_sums, .ref a_fight_leads])), (a_fight_downs, .inl (X.2.1 0, 24, .inl f_fight_downs)), (a_fight_judges, .inl (X.2.1 0, 56, .inl f_fight_judges)), (a_fight_leads, .inl (X.2.1 0, 96, .inl f_fight_leads))]) hx hb hml hts hown hG hA hP hD rfl hS hl.1 (qX3_downsFor l X a_fight a_fight_downs a_fight_blows a_fight_judges a_fight_forward a_fight_taken a_fight_seenBy a_fight_sums a_fight_leads i_fight_rounds i_fight_home i_fight_noise i_fight_blowCount i_fight_judgeCount f_fight_downs x2 o_18 ho_18) (cwV (y := yX3_downsFor) 1 hts gX1_marginBy_X3_downsFor rfl rfl rfl hdvX3_downsFor ⟨Nat.le_of_ble_eq_true rfl, Nat.le_of_ble_eq_true rfl⟩) [1, 2] [0, 3, 4] [0, 3, 4, 1, 2] rfl rfl rfl rfl rfl rfl rfl (ci := 3) rfl 1 rfl rfl rfl (Nat.le_of_ble_eq_true rfl) ⟨Nat.le_of_ble_eq_true rfl, Nat.le_of_ble_eq_true rfl⟩ dX1_marginBy_89 (fun H locs hP _ hS => ?_)
    refine lv_imul hx hb dX1_marginBy_92 ?_
    refine lv_iadd hx hb dX1_marginBy_93 ?_
    refine lv_bipush (v := (8 : Int32)) hx hb dX1_marginBy_94 (by decide) ?_
    obtain ⟨o_20, ho_20, hf⟩ := ob_s hf
    refine xSN_i (As := [.int ((l4 * o_16) + ((2 : Int32) * o_18)), .int (8 : Int32)]) (rest := []) (ws2 := [(a_this, .inr (1, [.ref a_fight, .ref a_owners])), (a_fight, .inr (3, [.int i_fight_rounds, .int i_fight_home, .int i_fight_noise, .int i_fight_blowCount, .int i_fight_judgeCount, .ref a_fight_blows, .ref a_fight_judges, .ref a_fight_forward, .ref a_fight_downs, .ref a_fight_taken, .ref a_fight_seenBy, .ref a_fight_sums, .ref a_fight_leads])), (a_fight_downs, .inl (X.2.1 0, 24, .inl f_fight_downs)), (a_fight_judges, .inl (X.2.1 0, 56, .inl f_fight_judges)), (a_fight_leads, .inl (X.2.1 0, 96, .inl f_fight_leads))]) hx hb hml hts hown hG hA hP hD rfl hS hl.1 (qX10_clip l X ((l4 * o_16) + ((2 : Int32) * o_18)) (8 : Int32) o_20 ho_20) ⟨va_cnB (y := yX10_clip) 2 hts gX1_marginBy_X10_clip_n29 rfl rfl rfl (nm4 hG.2.1) w9 hdsX10_clip ⟨Nat.le_of_ble_eq_true rfl, Nat.le_of_ble_eq_true rfl⟩, w11, trivial⟩ [] [0, 1, 2, 3, 4] [0, 1, 2, 3, 4] rfl rfl rfl rfl rfl rfl rfl rfl rfl (Nat.le_of_ble_eq_true rfl) ⟨Nat.le_of_ble_eq_true rfl, Nat.le_of_ble_eq_true rfl⟩ dX1_marginBy_96 (fun H locs hP _ hS => ?_)
    obtain rfl := Option.some.inj hf
    exact ret H _ ls _ rfl hP hD hS dX1_marginBy_99
  have hB72 : ∀ (s0 : Int32)  (H : Heap) (locs : List Loc) (ls : Array Slot), va_P X.1 vwCl [(a_this, .inr (1, [.ref a_fight, .ref a_owners])), (a_fight, .inr (3, [.int i_fight_rounds, .int i_fight_home, .int i_fight_noise, .int i_fight_blowCount, .int i_fight_judgeCount, .ref a_fight_blows, .ref a_fight_judges, .ref a_fight_forward, .ref a_fight_downs, .ref a_fight_taken, .ref a_fight_seenBy, .ref a_fight_sums, .ref a_fight_leads])), (a_fight_downs, .inl (X.2.1 0, 24, .inl f_fight_downs)), (a_fight_judges, .inl (X.2.1 0, 56, .inl f_fight_judges)), (a_fight_leads, .inl (X.2.1 0, 96, .inl f_fight_leads))] H → va_S A s.heap H locs → lv_has ls 5 [(0, .ref a_this), (2, .int x1), (3, .int x2)] → mX1_marginBy_B72 x0 x1 x2 f_fight_downs f_fight_judges f_fight_leads  s0 = some o → W p l e rmX1_marginBy s m ([.ref a_this, .int x0, .int x1, .int x2] : List Value).toArray below meth c H locs 0 0 Q (F0 m 72 ls [.int s0]) := by
    intro s0  H locs ls hP hS hl hf
    unfold mX1_marginBy_B72 at hf
    refine lv_istore (lv' := [(4, .int s0), (0, .ref a_this), (2, .int x1), (3, .int x2)]) hx hb dX1_marginBy_72 hl (by decide) rfl (fun ls hl => ?_)
    exact hB74  s0  H _ ls hP  hS (lv_sub hl [1, 2, 3, 0] rfl) hf
  unfold mX1_marginBy at hf
  refine lv_iload_n hx hb dX1_marginBy_0 rfl (lv_at hl 1 rfl) ?_
  refine lv_iconst (v := (3 : Int32)) hx hb dX1_marginBy_1 (by decide) ?_
  refine lv_icmp_ne (tgt := 43) hx hb dX1_marginBy_2 (by decide) (fun c_1 => ?_) (fun c_1 => ?_)
  · have hf := xf hf c_1
    refine lv_iconst (v := (2 : Int32)) hx hb dX1_marginBy_43 (by decide) ?_
    refine lv_istore (lv' := [(4, .int (2 : Int32)), (0, .ref a_this), (1, .int x0), (2, .int x1), (3, .int x2)]) hx hb dX1_marginBy_44 hl (by decide) rfl (fun ls hl => ?_)
    refine lv_iload_n hx hb dX1_marginBy_46 rfl (lv_at hl 2 rfl) ?_
    refine lv_if_eq (tgt := 74) hx hb dX1_marginBy_47 (by decide) (fun c_2 => ?_) (fun c_2 => ?_)
    · have hf := xt hf c_2
      exact hB74  (2 : Int32)  H _ ls hP  hS (lv_sub hl [1, 3, 4, 0] rfl) hf
    · have hf := xf hf c_2
      refine lv_aload_n hx hb dX1_marginBy_50 rfl (lv_at hl 1 rfl) ?_
      refine va_get (D := X.1) (ci := 1) (v := .ref a_fight) (C := RX1) (T := TX1) (N := 2) hx hb hts in1 hown hG.1 hP 0 rfl rfl 0 (by decide) w1 (fun _ h9 => h9) rfl dX1_marginBy_51 ?_
      refine lv_iload_n hx hb dX1_marginBy_54 rfl (lv_at hl 3 rfl) ?_
      refine lv_iload_n hx hb dX1_marginBy_55 rfl (lv_at hl 4 rfl) ?_
      obtain ⟨o_3, ho_3, hf⟩ := ob_s hf
      refine xV_i (As := [.int x1, .int x2]) (b := a_fight) (rest := []) (ws2 := [(a_this, .inr (1, [.ref a_fight, .ref a_owners])), (a_fight, .inr (3, [.int i_fight_rounds, .int i_fight_home, .int i_fight_noise, .int i_fight_blowCount, .int i_fight_judgeCount, .ref a_fight_blows, .ref a_fight_judges, .ref a_fight_forward, .ref a_fight_downs, .ref a_fight_taken, .ref a_fight_seenBy, .ref a_fight_sums, .ref a_fight_leads])), (a_fight_downs, .inl (X.2.1 0, 24, .inl f_fight_downs)), (a_fight_judges, .inl (X.2.1 0, 56, .inl f_fight_judges)), (a_fight_leads, .inl (X.2.1 0, 96, .inl f_fight_leads))]) hx hb hml hts hown hG hA hP hD rfl hS hl.1 (qX3_isClose l X a_fight a_fight_judges a_fight_leads a_fight_blows a_fight_forward a_fight_downs a_fight_taken a_fight_seenBy a_fight_sums i_fight_rounds i_fight_home i_fight_noise i_fight_blowCount i_fight_judgeCount f_fight_judges f_fight_leads x1 x2 o_3 ho_3) (cwV (y := yX3_isClose) 2 hts gX1_marginBy_X3_isClose rfl rfl rfl hdvX3_isClose ⟨Nat.le_of_ble_eq_true rfl, Nat.le_of_ble_eq_true rfl⟩) [1, 3, 4] [0, 2] [0, 2, 1, 3, 4] rfl rfl rfl rfl rfl rfl rfl (ci := 3) rfl 1 rfl rfl rfl (Nat.le_of_ble_eq_true rfl) ⟨Nat.le_of_ble_eq_true rfl, Nat.le_of_ble_eq_true rfl⟩ dX1_marginBy_56 (fun H locs hP _ hS => ?_)
      refine lv_if_eq (tgt := 74) hx hb dX1_marginBy_59 (by decide) (fun c_5 => ?_) (fun c_5 => ?_)
      · have hf := xt hf c_5
        exact hB74  (2 : Int32)  H _ ls hP  hS (lv_sub hl [1, 3, 4, 0] rfl) hf
      · have hf := xf hf c_5
        refine lv_iload_n hx hb dX1_marginBy_62 rfl (lv_at hl 2 rfl) ?_
        refine lv_iconst (v := (1 : Int32)) hx hb dX1_marginBy_63 (by decide) ?_
        refine lv_icmp_ne (tgt := 71) hx hb dX1_marginBy_64 (by decide) (fun c_6 => ?_) (fun c_6 => ?_)
        · have hf := xf hf c_6
          refine lv_iconst (v := (0 : Int32)) hx hb dX1_marginBy_71 (by decide) ?_
          exact hB72  (0 : Int32)  H _ ls hP  hS (lv_sub hl [1, 3, 4] rfl) hf
        · have hf := xt hf c_6
          refine lv_iconst (v := (1 : Int32)) hx hb dX1_marginBy_67 (by decide) ?_
          refine lv_goto (tgt := 72) hx hb dX1_marginBy_68 (by decide) ?_
          exact hB72  (1 : Int32)  H _ ls hP  hS (lv_sub hl [1, 3, 4] rfl) hf
  · have hf := xt hf c_1
    refine lv_aload_n hx hb dX1_marginBy_5 rfl (lv_at hl 0 rfl) ?_
    refine va_get (D := X.1) (ci := 1) (v := .ref a_fight) (C := RX1) (T := TX1) (N := 2) hx hb hts in1 hown hG.1 hP 0 rfl rfl 0 (by decide) w1 (fun _ h9 => h9) rfl dX1_marginBy_6 ?_
    refine lv_iload_n hx hb dX1_marginBy_9 rfl (lv_at hl 2 rfl) ?_
    refine lv_iload_n hx hb dX1_marginBy_10 rfl (lv_at hl 3 rfl) ?_
    obtain ⟨o_7, ho_7, hf⟩ := ob_s hf
    refine xV_i (As := [.int x1, .int x2]) (b := a_fight) (rest := []) (ws2 := [(a_this, .inr (1, [.ref a_fight, .ref a_owners])), (a_fight, .inr (3, [.int i_fight_rounds, .int i_fight_home, .int i_fight_noise, .int i_fight_blowCount, .int i_fight_judgeCount, .ref a_fight_blows, .ref a_fight_judges, .ref a_fight_forward, .ref a_fight_downs, .ref a_fight_taken, .ref a_fight_seenBy, .ref a_fight_sums, .ref a_fight_leads])), (a_fight_downs, .inl (X.2.1 0, 24, .inl f_fight_downs)), (a_fight_judges, .inl (X.2.1 0, 56, .inl f_fight_judges)), (a_fight_leads, .inl (X.2.1 0, 96, .inl f_fight_leads))]) hx hb hml hts hown hG hA hP hD rfl hS hl.1 (qX3_leadOf l X a_fight a_fight_leads a_fight_blows a_fight_judges a_fight_forward a_fight_downs a_fight_taken a_fight_seenBy a_fight_sums i_fight_rounds i_fight_home i_fight_noise i_fight_blowCount i_fight_judgeCount f_fight_leads x1 x2 o_7 ho_7) (cwV (y := yX3_leadOf) 2 hts gX1_marginBy_X3_leadOf rfl rfl rfl hdvX3_leadOf ⟨Nat.le_of_ble_eq_true rfl, Nat.le_of_ble_eq_true rfl⟩) [1, 4] [0, 2, 3] [0, 3, 1, 2, 4] rfl rfl rfl rfl rfl rfl rfl (ci := 3) rfl 1 rfl rfl rfl (Nat.le_of_ble_eq_true rfl) ⟨Nat.le_of_ble_eq_true rfl, Nat.le_of_ble_eq_true rfl⟩ dX1_marginBy_11 (fun H locs hP _ hS => ?_)
    refine lv_istore (lv' := [(4, .int o_7), (0, .ref a_this), (1, .int x0), (2, .int x1), (3, .int x2)]) hx hb dX1_marginBy_14 hl (by decide) rfl (fun ls hl => ?_)
    refine lv_iload hx hb dX1_marginBy_16 (lv_at hl 0 rfl) ?_
    refine lv_iconst (v := (5 : Int32)) hx hb dX1_marginBy_18 (by decide) ?_
    refine lv_idiv hx hb dX1_marginBy_19 (by decide) ?_
    refine lv_iload hx hb dX1_marginBy_20 (lv_at hl 0 rfl) ?_
    obtain ⟨o_9, ho_9, hf⟩ := ob_s hf
    refine xSN_i (As := [.int o_7]) (rest := [.int (o_7 / (5 : Int32))]) (ws2 := [(a_this, .inr (1, [.ref a_fight, .ref a_owners])), (a_fight, .inr (3, [.int i_fight_rounds, .int i_fight_home, .int i_fight_noise, .int i_fight_blowCount, .int i_fight_judgeCount, .ref a_fight_blows, .ref a_fight_judges, .ref a_fight_forward, .ref a_fight_downs, .ref a_fight_taken, .ref a_fight_seenBy, .ref a_fight_sums, .ref a_fight_leads])), (a_fight_downs, .inl (X.2.1 0, 24, .inl f_fight_downs)), (a_fight_judges, .inl (X.2.1 0, 56, .inl f_fight_judges)), (a_fight_leads, .inl (X.2.1 0, 96, .inl f_fight_leads))]) hx hb hml hts hown hG hA hP hD rfl hS hl.1 (qX10_signOf l X o_7 o_9 ho_9) ⟨va_cnB (y := yX10_signOf) 1 hts gX1_marginBy_X10_signOf_n25 rfl rfl rfl (nm3 hG.2.1) w9 hdsX10_signOf ⟨Nat.le_of_ble_eq_true rfl, Nat.le_of_ble_eq_true rfl⟩, w8, trivial⟩ [] [0, 1, 2, 3, 4] [0, 1, 2, 3, 4] rfl rfl rfl rfl rfl rfl rfl rfl rfl (Nat.le_of_ble_eq_true rfl) ⟨Nat.le_of_ble_eq_true rfl, Nat.le_of_ble_eq_true rfl⟩ dX1_marginBy_22 (fun H locs hP _ hS => ?_)
    refine lv_iadd hx hb dX1_marginBy_25 ?_
    refine lv_bipush (v := (20 : Int32)) hx hb dX1_marginBy_26 (by decide) ?_
    obtain ⟨o_11, ho_11, hf⟩ := ob_s hf
    refine xSN_i (As := [.int ((o_7 / (5 : Int32)) + o_9), .int (20 : Int32)]) (rest := []) (ws2 := [(a_this, .inr (1, [.ref a_fight, .ref a_owners])), (a_fight, .inr (3, [.int i_fight_rounds, .int i_fight_home, .int i_fight_noise, .int i_fight_blowCount, .int i_fight_judgeCount, .ref a_fight_blows, .ref a_fight_judges, .ref a_fight_forward, .ref a_fight_downs, .ref a_fight_taken, .ref a_fight_seenBy, .ref a_fight_sums, .ref a_fight_leads])), (a_fight_downs, .inl (X.2.1 0, 24, .inl f_fight_downs)), (a_fight_judges, .inl (X.2.1 0, 56, .inl f_fight_judges)), (a_fight_leads, .inl (X.2.1 0, 96, .inl f_fight_leads))]) hx hb hml hts hown hG hA hP hD rfl hS hl.1 (qX10_clip l X ((o_7 / (5 : Int32)) + o_9) (20 : Int32) o_11 ho_11) ⟨va_cnB (y := yX10_clip) 2 hts gX1_marginBy_X10_clip_n29 rfl rfl rfl (nm4 hG.2.1) w9 hdsX10_clip ⟨Nat.le_of_ble_eq_true rfl, Nat.le_of_ble_eq_true rfl⟩, w11, trivial⟩ [] [0, 1, 2, 3, 4] [0, 1, 2, 3, 4] rfl rfl rfl rfl rfl rfl rfl rfl rfl (Nat.le_of_ble_eq_true rfl) ⟨Nat.le_of_ble_eq_true rfl, Nat.le_of_ble_eq_true rfl⟩ dX1_marginBy_28 (fun H locs hP _ hS => ?_)
    refine lv_iconst (v := (4 : Int32)) hx hb dX1_marginBy_31 (by decide) ?_
    refine lv_aload_n hx hb dX1_marginBy_32 rfl (lv_at hl 1 rfl) ?_
    refine va_get (D := X.1) (ci := 1) (v := .ref a_fight) (C := RX1) (T := TX1) (N := 2) hx hb hts in1 hown hG.1 hP 0 rfl rfl 0 (by decide) w1 (fun _ h9 => h9) rfl dX1_marginBy_33 ?_
    refine lv_iload_n hx hb dX1_marginBy_36 rfl (lv_at hl 4 rfl) ?_
    obtain ⟨o_13, ho_13, hf⟩ := ob_s hf
    refine xV_i (As := [.int x2]) (b := a_fight) (rest := [.int (4 : Int32), .int o_11]) (ws2 := [(a_this, .inr (1, [.ref a_fight, .ref a_owners])), (a_fight, .inr (3, [.int i_fight_rounds, .int i_fight_home, .int i_fight_noise, .int i_fight_blowCount, .int i_fight_judgeCount, .ref a_fight_blows, .ref a_fight_judges, .ref a_fight_forward, .ref a_fight_downs, .ref a_fight_taken, .ref a_fight_seenBy, .ref a_fight_sums, .ref a_fight_leads])), (a_fight_downs, .inl (X.2.1 0, 24, .inl f_fight_downs)), (a_fight_judges, .inl (X.2.1 0, 56, .inl f_fight_judges)), (a_fight_leads, .inl (X.2.1 0, 96, .inl f_fight_leads))]) hx hb hml hts hown hG hA hP hD rfl hS hl.1 (qX3_downsFor l X a_fight a_fight_downs a_fight_blows a_fight_judges a_fight_forward a_fight_taken a_fight_seenBy a_fight_sums a_fight_leads i_fight_rounds i_fight_home i_fight_noise i_fight_blowCount i_fight_judgeCount f_fight_downs x2 o_13 ho_13) (cwV (y := yX3_downsFor) 1 hts gX1_marginBy_X3_downsFor rfl rfl rfl hdvX3_downsFor ⟨Nat.le_of_ble_eq_true rfl, Nat.le_of_ble_eq_true rfl⟩) [1, 2] [0, 3, 4] [0, 3, 4, 1, 2] rfl rfl rfl rfl rfl rfl rfl (ci := 3) rfl 1 rfl rfl rfl (Nat.le_of_ble_eq_true rfl) ⟨Nat.le_of_ble_eq_true rfl, Nat.le_of_ble_eq_true rfl⟩ dX1_marginBy_37 (fun H locs hP _ hS => ?_)
    refine lv_imul hx hb dX1_marginBy_40 ?_
    refine lv_iadd hx hb dX1_marginBy_41 ?_
    refine lv_topi (fun v_15 ev_15 => ?_)
    have hf := lb_s hf ev_15
    obtain rfl := Option.some.inj hf
    exact ret H _ ls _ rfl hP hD hS dX1_marginBy_42
def mX1_cardBy_B23 (x0 : Int32) (x1 : Int32) (i_fight_rounds : Int32) (f_fight_downs : Nat → Int32) (f_fight_judges : Nat → Int32) (f_fight_leads : Nat → Int32) (f_fight_taken : Nat → Int32) (k23 : Int32 → Int32 → Option (Int32)) (l3 : Int32) (l4 : Int32) :
  Option (Int32) :=
  if i_fight_rounds ≤ l4 then (some l3) else ((mX1_marginBy x0 x1 l4 f_fight_downs f_fight_judges f_fight_leads).bind fun o_7 =>
  lb (l3 + o_7) fun v_9 =>
  lb (l4 + (1 : Int32)) fun v_10 =>
  k23 v_9 v_10)
def mX1_cardBy_L23 (x0 : Int32) (x1 : Int32) (i_fight_rounds : Int32) (f_fight_downs : Nat → Int32) (f_fight_judges : Nat → Int32) (f_fight_leads : Nat → Int32) (f_fight_taken : Nat → Int32) (n : Nat) (l3 : Int32) (l4 : Int32) :
  Option (Int32) :=
  loopN (fun k (s : Int32 × Int32) => mX1_cardBy_B23 x0 x1 i_fight_rounds f_fight_downs f_fight_judges f_fight_leads f_fight_taken  (fun l3 l4 => k (l3, l4)) s.1 s.2) n (l3, l4)
def mX1_cardBy (x0 : Int32) (x1 : Int32) (i_fight_rounds : Int32) (f_fight_downs : Nat → Int32) (f_fight_judges : Nat → Int32) (f_fight_leads : Nat → Int32) (f_fight_taken : Nat → Int32) :
  Option (Int32) :=
  (mX3_takenOf (1 : Int32) i_fight_rounds f_fight_taken).bind fun o_1 =>
  (mX3_takenOf (0 : Int32) i_fight_rounds f_fight_taken).bind fun o_3 =>
  lb ((2 : Int32) * (o_1 - o_3)) fun v_5 =>
  mX1_cardBy_L23 x0 x1 i_fight_rounds f_fight_downs f_fight_judges f_fight_leads f_fight_taken  FUEL v_5 (0 : Int32)
theorem hdsX1_cardBy : yX1_cardBy.cls ≠ "java/lang/invoke/MethodHandle" ∧ yX1_cardBy.cls ≠ "java/lang/invoke/VarHandle" ∧ (parseMethodDescriptor yX1_cardBy.desc).map (fun d => d.parameters.length) = some 2 := by decide +kernel
theorem hdvX1_cardBy : yX1_cardBy.cls = RX1 ∧ yX1_cardBy.cls ≠ "java/lang/invoke/MethodHandle" ∧ yX1_cardBy.cls ≠ "java/lang/invoke/VarHandle" ∧ (parseMethodDescriptor yX1_cardBy.desc).map (fun d => d.parameters.length) = some 2 := by decide +kernel
abbrev rmX1_cardBy : Room := { frames := 3, cells := 0, slots := 0, locals := 70 }
set_option maxHeartbeats 4000000 in
set_option maxRecDepth 100000 in
theorem qX1_cardBy (l : Launch) (X : XT) (a_this : Nat) (a_fight : Nat) (a_fight_downs : Nat) (a_fight_judges : Nat) (a_fight_leads : Nat) (a_fight_taken : Nat) (a_owners : Nat) (a_fight_blows : Nat) (a_fight_forward : Nat) (a_fight_seenBy : Nat) (a_fight_sums : Nat)  (i_fight_rounds : Int32) (i_fight_home : Int32) (i_fight_noise : Int32) (i_fight_blowCount : Int32) (i_fight_judgeCount : Int32) (f_fight_downs : Nat → Int32) (f_fight_judges : Nat → Int32) (f_fight_leads : Nat → Int32) (f_fight_taken : Nat → Int32) (x0 : Int32) (x1 : Int32) (o : Int32) (hf : mX1_cardBy x0 x1 i_fight_rounds f_fight_downs f_fight_judges f_fight_leads f_fight_taken = some o) :
    MI l yX1_cardBy wsX1_cardBy rmX1_cardBy X [.ref a_this, .int x0, .int x1] [(a_this, .inr (1, [.ref a_fight, .ref a_owners])), (a_fight, .inr (3, [.int i_fight_rounds, .int i_fight_home, .int i_fight_noise, .int i_fight_blowCount, .int i_fight_judgeCount, .ref a_fight_blows, .ref a_fight_judges, .ref a_fight_forward, .ref a_fight_downs, .ref a_fight_taken, .ref a_fight_seenBy, .ref a_fight_sums, .ref a_fight_leads])), (a_fight_downs, .inl (X.2.1 0, 24, .inl f_fight_downs)), (a_fight_judges, .inl (X.2.1 0, 56, .inl f_fight_judges)), (a_fight_leads, .inl (X.2.1 0, 96, .inl f_fight_leads)), (a_fight_taken, .inl (X.2.1 0, 24, .inl f_fight_taken))]  [(a_this, .inr (1, [.ref a_fight, .ref a_owners])), (a_fight, .inr (3, [.int i_fight_rounds, .int i_fight_home, .int i_fight_noise, .int i_fight_blowCount, .int i_fight_judgeCount, .ref a_fight_blows, .ref a_fight_judges, .ref a_fight_forward, .ref a_fight_downs, .ref a_fight_taken, .ref a_fight_seenBy, .ref a_fight_sums, .ref a_fight_leads])), (a_fight_downs, .inl (X.2.1 0, 24, .inl f_fight_downs)), (a_fight_judges, .inl (X.2.1 0, 56, .inl f_fight_judges)), (a_fight_leads, .inl (X.2.1 0, 96, .inl f_fight_leads)), (a_fight_taken, .inl (X.2.1 0, 24, .inl f_fight_taken))] o := by
  refine MI_ofH (cc := cX1_cardBy) (maxL := 5) (rt := .int) (by decide) rfl (Nat.le_of_ble_eq_true rfl) ?_
  intro p e s m below meth c A Q H ls hx hb hml hts hown hA hD hG hP hS hl ret
  have hown : s.vm.findClass RX1 = some m.cls := hown
  have hD : aD A [a_this, a_fight, a_fight_downs, a_fight_judges, a_fight_leads, a_fight_taken] := hD
  have hl : lv_has ls 5 [(0, .ref a_this), (1, .int x0), (2, .int x1)] := hl
  have w1 := hts (Cond.fieldLink RX1 17 "ThreeCards$Cards" "fight" "LThreeCards$Fight;") (List.mem_of_getElem? (i := 1) rfl)
  have in1 : ∀ w ∈ u_ws RX1 TX1 2, w ∈ wsX1_cardBy := by decide +kernel
  have in3 : ∀ w ∈ u_ws RX3 TX3 13, w ∈ wsX1_cardBy := by decide +kernel
  have hL23 : ∀ (n : Nat) (l3 : Int32) (l4 : Int32)  (H : Heap) (locs : List Loc) (ls : Array Slot), va_P X.1 vwCl [(a_this, .inr (1, [.ref a_fight, .ref a_owners])), (a_fight, .inr (3, [.int i_fight_rounds, .int i_fight_home, .int i_fight_noise, .int i_fight_blowCount, .int i_fight_judgeCount, .ref a_fight_blows, .ref a_fight_judges, .ref a_fight_forward, .ref a_fight_downs, .ref a_fight_taken, .ref a_fight_seenBy, .ref a_fight_sums, .ref a_fight_leads])), (a_fight_downs, .inl (X.2.1 0, 24, .inl f_fight_downs)), (a_fight_judges, .inl (X.2.1 0, 56, .inl f_fight_judges)), (a_fight_leads, .inl (X.2.1 0, 96, .inl f_fight_leads)), (a_fight_taken, .inl (X.2.1 0, 24, .inl f_fight_taken))] H → va_S A s.heap H locs → lv_has ls 5 [(0, .ref a_this), (1, .int x0), (2, .int x1), (3, .int l3), (4, .int l4)] → mX1_cardBy_L23 x0 x1 i_fight_rounds f_fight_downs f_fight_judges f_fight_leads f_fight_taken  n l3 l4 = some o → W p l e rmX1_cardBy s m ([.ref a_this, .int x0, .int x1] : List Value).toArray below meth c H locs 0 0 Q (F0 m 23 ls []) := by
    intro n
    induction n with
    | zero => intro l3 l4  H locs ls hP hS hl hf; exact xn hf
    | succ n ih =>
      intro l3 l4  H locs ls hP hS hl hf
      have hf : mX1_cardBy_B23 x0 x1 i_fight_rounds f_fight_downs f_fight_judges f_fight_leads f_fight_taken  (mX1_cardBy_L23 x0 x1 i_fight_rounds f_fight_downs f_fight_judges f_fight_leads f_fight_taken  n) l3 l4 = some o := hf
      generalize mX1_cardBy_L23 x0 x1 i_fight_rounds f_fight_downs f_fight_judges f_fight_leads f_fight_taken  n = k23 at ih hf
      unfold mX1_cardBy_B23 at hf
      refine lv_iload hx hb dX1_cardBy_23 (lv_at hl 4 rfl) ?_
      refine lv_aload_n hx hb dX1_cardBy_25 rfl (lv_at hl 0 rfl) ?_
      refine va_get (D := X.1) (ci := 1) (v := .ref a_fight) (C := RX1) (T := TX1) (N := 2) hx hb hts in1 hown hG.1 hP 0 rfl rfl 0 (by decide) w1 (fun _ h9 => h9) rfl dX1_cardBy_26 ?_
      refine va_getN (D := X.1) (ci := 3) (v := .int i_fight_rounds) (C := RX3) (T := TX3) (N := 13) hx hb hts in3 hown hG.1 hP 1 rfl rfl 0 (by decide) (va_Nw.use rfl (nf3 hG.2.1)) (fun _ h9 => h9) rfl dX1_cardBy_29 ?_
      refine lv_icmp_ge (tgt := 52) hx hb dX1_cardBy_32 (by decide) (fun c_6 => ?_) (fun c_6 => ?_)
      · have hf := xt hf c_6
        refine lv_iload_n hx hb dX1_cardBy_52 rfl (lv_at hl 3 rfl) ?_
        obtain rfl := Option.some.inj hf
        exact ret H _ ls _ rfl hP hD hS dX1_cardBy_53
      · have hf := xf hf c_6
        refine lv_iload_n hx hb dX1_cardBy_35 rfl (lv_at hl 3 rfl) ?_
        refine lv_aload_n hx hb dX1_cardBy_36 rfl (lv_at hl 0 rfl) ?_
        refine lv_iload_n hx hb dX1_cardBy_37 rfl (lv_at hl 1 rfl) ?_
        refine lv_iload_n hx hb dX1_cardBy_38 rfl (lv_at hl 2 rfl) ?_
        refine lv_iload hx hb dX1_cardBy_39 (lv_at hl 4 rfl) ?_
        obtain ⟨o_7, ho_7, hf⟩ := ob_s hf
        refine xV_i (As := [.int x0, .int x1, .int l4]) (b := a_this) (rest := [.int l3]) (ws2 := [(a_this, .inr (1, [.ref a_fight, .ref a_owners])), (a_fight, .inr (3, [.int i_fight_rounds, .int i_fight_home, .int i_fight_noise, .int i_fight_blowCount, .int i_fight_judgeCount, .ref a_fight_blows, .ref a_fight_judges, .ref a_fight_forward, .ref a_fight_downs, .ref a_fight_taken, .ref a_fight_seenBy, .ref a_fight_sums, .ref a_fight_leads])), (a_fight_downs, .inl (X.2.1 0, 24, .inl f_fight_downs)), (a_fight_judges, .inl (X.2.1 0, 56, .inl f_fight_judges)), (a_fight_leads, .inl (X.2.1 0, 96, .inl f_fight_leads)), (a_fight_taken, .inl (X.2.1 0, 24, .inl f_fight_taken))]) hx hb hml hts hown hG hA hP hD rfl hS hl.1 (qX1_marginBy l X a_this a_fight a_fight_downs a_fight_judges a_fight_leads a_owners a_fight_blows a_fight_forward a_fight_taken a_fight_seenBy a_fight_sums i_fight_rounds i_fight_home i_fight_noise i_fight_blowCount i_fight_judgeCount f_fight_downs f_fight_judges f_fight_leads x0 x1 l4 o_7 ho_7) (cwV (y := yX1_marginBy) 3 hts gX1_cardBy_X1_marginBy rfl rfl rfl hdvX1_marginBy ⟨Nat.le_of_ble_eq_true rfl, Nat.le_of_ble_eq_true rfl⟩) [0, 1, 2, 3, 4] [5] [1, 2, 3, 4, 5, 0] rfl rfl rfl rfl rfl rfl rfl (ci := 1) rfl 0 rfl rfl rfl (Nat.le_of_ble_eq_true rfl) ⟨Nat.le_of_ble_eq_true rfl, Nat.le_of_ble_eq_true rfl⟩ dX1_cardBy_41 (fun H locs hP _ hS => ?_)
        refine lv_iadd hx hb dX1_cardBy_44 ?_
        refine lv_topi (fun v_9 ev_9 => ?_)
        have hf := lb_s hf ev_9
        refine lv_istore_n (lv' := [(3, .int v_9), (0, .ref a_this), (1, .int x0), (2, .int x1), (4, .int l4)]) hx hb dX1_cardBy_45 rfl hl (by decide) rfl (fun ls hl => ?_)
        obtain ⟨v_10, ev_10, hf⟩ := lb_g hf
        refine lv_iinc (v := v_10) (lv' := [(4, .int v_10), (3, .int v_9), (0, .ref a_this), (1, .int x0), (2, .int x1)]) hx hb dX1_cardBy_46 hl (k := 4) rfl ev_10.symm (by decide) rfl (fun ls hl => ?_)
        refine lv_goto (tgt := 23) hx hb dX1_cardBy_49 (by decide) ?_
        exact ih v_9 v_10  H _ ls hP  hS (lv_sub hl [2, 3, 4, 1, 0] rfl) hf
  unfold mX1_cardBy at hf
  refine lv_iconst (v := (2 : Int32)) hx hb dX1_cardBy_0 (by decide) ?_
  refine lv_aload_n hx hb dX1_cardBy_1 rfl (lv_at hl 0 rfl) ?_
  refine va_get (D := X.1) (ci := 1) (v := .ref a_fight) (C := RX1) (T := TX1) (N := 2) hx hb hts in1 hown hG.1 hP 0 rfl rfl 0 (by decide) w1 (fun _ h9 => h9) rfl dX1_cardBy_2 ?_
  refine lv_iconst (v := (1 : Int32)) hx hb dX1_cardBy_5 (by decide) ?_
  obtain ⟨o_1, ho_1, hf⟩ := ob_s hf
  refine xV_i (As := [.int (1 : Int32)]) (b := a_fight) (rest := [.int (2 : Int32)]) (ws2 := [(a_this, .inr (1, [.ref a_fight, .ref a_owners])), (a_fight, .inr (3, [.int i_fight_rounds, .int i_fight_home, .int i_fight_noise, .int i_fight_blowCount, .int i_fight_judgeCount, .ref a_fight_blows, .ref a_fight_judges, .ref a_fight_forward, .ref a_fight_downs, .ref a_fight_taken, .ref a_fight_seenBy, .ref a_fight_sums, .ref a_fight_leads])), (a_fight_downs, .inl (X.2.1 0, 24, .inl f_fight_downs)), (a_fight_judges, .inl (X.2.1 0, 56, .inl f_fight_judges)), (a_fight_leads, .inl (X.2.1 0, 96, .inl f_fight_leads)), (a_fight_taken, .inl (X.2.1 0, 24, .inl f_fight_taken))]) hx hb hml hts hown hG hA hP hD rfl hS hl.1 (qX3_takenOf l X a_fight a_fight_taken a_fight_blows a_fight_judges a_fight_forward a_fight_downs a_fight_seenBy a_fight_sums a_fight_leads i_fight_rounds i_fight_home i_fight_noise i_fight_blowCount i_fight_judgeCount f_fight_taken (1 : Int32) o_1 ho_1) (cwV (y := yX3_takenOf) 1 hts gX1_cardBy_X3_takenOf rfl rfl rfl hdvX3_takenOf ⟨Nat.le_of_ble_eq_true rfl, Nat.le_of_ble_eq_true rfl⟩) [1, 5] [0, 2, 3, 4] [0, 4, 1, 2, 3, 5] rfl rfl rfl rfl rfl rfl rfl (ci := 3) rfl 1 rfl rfl rfl (Nat.le_of_ble_eq_true rfl) ⟨Nat.le_of_ble_eq_true rfl, Nat.le_of_ble_eq_true rfl⟩ dX1_cardBy_6 (fun H locs hP _ hS => ?_)
  refine lv_aload_n hx hb dX1_cardBy_9 rfl (lv_at hl 0 rfl) ?_
  refine va_get (D := X.1) (ci := 1) (v := .ref a_fight) (C := RX1) (T := TX1) (N := 2) hx hb hts in1 hown hG.1 hP 0 rfl rfl 0 (by decide) w1 (fun _ h9 => h9) rfl dX1_cardBy_10 ?_
  refine lv_iconst (v := (0 : Int32)) hx hb dX1_cardBy_13 (by decide) ?_
  obtain ⟨o_3, ho_3, hf⟩ := ob_s hf
  refine xV_i (As := [.int (0 : Int32)]) (b := a_fight) (rest := [.int o_1, .int (2 : Int32)]) (ws2 := [(a_this, .inr (1, [.ref a_fight, .ref a_owners])), (a_fight, .inr (3, [.int i_fight_rounds, .int i_fight_home, .int i_fight_noise, .int i_fight_blowCount, .int i_fight_judgeCount, .ref a_fight_blows, .ref a_fight_judges, .ref a_fight_forward, .ref a_fight_downs, .ref a_fight_taken, .ref a_fight_seenBy, .ref a_fight_sums, .ref a_fight_leads])), (a_fight_downs, .inl (X.2.1 0, 24, .inl f_fight_downs)), (a_fight_judges, .inl (X.2.1 0, 56, .inl f_fight_judges)), (a_fight_leads, .inl (X.2.1 0, 96, .inl f_fight_leads)), (a_fight_taken, .inl (X.2.1 0, 24, .inl f_fight_taken))]) hx hb hml hts hown hG hA hP hD rfl hS hl.1 (qX3_takenOf l X a_fight a_fight_taken a_fight_blows a_fight_judges a_fight_forward a_fight_downs a_fight_seenBy a_fight_sums a_fight_leads i_fight_rounds i_fight_home i_fight_noise i_fight_blowCount i_fight_judgeCount f_fight_taken (0 : Int32) o_3 ho_3) (cwV (y := yX3_takenOf) 1 hts gX1_cardBy_X3_takenOf rfl rfl rfl hdvX3_takenOf ⟨Nat.le_of_ble_eq_true rfl, Nat.le_of_ble_eq_true rfl⟩) [1, 5] [0, 2, 3, 4] [0, 4, 1, 2, 3, 5] rfl rfl rfl rfl rfl rfl rfl (ci := 3) rfl 1 rfl rfl rfl (Nat.le_of_ble_eq_true rfl) ⟨Nat.le_of_ble_eq_true rfl, Nat.le_of_ble_eq_true rfl⟩ dX1_cardBy_14 (fun H locs hP _ hS => ?_)
  refine lv_isub hx hb dX1_cardBy_17 ?_
  refine lv_imul hx hb dX1_cardBy_18 ?_
  refine lv_topi (fun v_5 ev_5 => ?_)
  have hf := lb_s hf ev_5
  refine lv_istore_n (lv' := [(3, .int v_5), (0, .ref a_this), (1, .int x0), (2, .int x1)]) hx hb dX1_cardBy_19 rfl hl (by decide) rfl (fun ls hl => ?_)
  refine lv_iconst (v := (0 : Int32)) hx hb dX1_cardBy_20 (by decide) ?_
  refine lv_istore (lv' := [(4, .int (0 : Int32)), (3, .int v_5), (0, .ref a_this), (1, .int x0), (2, .int x1)]) hx hb dX1_cardBy_21 hl (by decide) rfl (fun ls hl => ?_)
  exact hL23  FUEL v_5 (0 : Int32)  H _ ls hP  hS (lv_sub hl [2, 3, 4, 1, 0] rfl) hf
def mX1_pointsBy_B63 (x0 : Int32) (x1 : Int32) (x2 : Int32) (i_fight_rounds : Int32) (f_fight_downs : Nat → Int32) (f_fight_judges : Nat → Int32) (f_fight_leads : Nat → Int32) (f_fight_taken : Nat → Int32) (k26 : Int32 → Int32 → Option (Int32)) (l5 : Int32) (s0 : Int32) (s1 : Int32) (s2 : Int32) :
  Option (Int32) :=
  lb (s0 - (imax s1 s2)) fun v_8 =>
  lb (l5 + (1 : Int32)) fun v_9 =>
  k26 v_8 v_9
def mX1_pointsBy_B26 (x0 : Int32) (x1 : Int32) (x2 : Int32) (i_fight_rounds : Int32) (f_fight_downs : Nat → Int32) (f_fight_judges : Nat → Int32) (f_fight_leads : Nat → Int32) (f_fight_taken : Nat → Int32) (k26 : Int32 → Int32 → Option (Int32)) (l4 : Int32) (l5 : Int32) :
  Option (Int32) :=
  if i_fight_rounds ≤ l5 then (some l4) else ((mX1_marginBy x0 x1 l5 f_fight_downs f_fight_judges f_fight_leads).bind fun o_5 =>
  if x2 = 0 then (mX1_pointsBy_B63 x0 x1 x2 i_fight_rounds f_fight_downs f_fight_judges f_fight_leads f_fight_taken k26 l5 l4 (0 : Int32) (-o_5)) else (mX1_pointsBy_B63 x0 x1 x2 i_fight_rounds f_fight_downs f_fight_judges f_fight_leads f_fight_taken k26 l5 l4 (0 : Int32) o_5))
def mX1_pointsBy_L26 (x0 : Int32) (x1 : Int32) (x2 : Int32) (i_fight_rounds : Int32) (f_fight_downs : Nat → Int32) (f_fight_judges : Nat → Int32) (f_fight_leads : Nat → Int32) (f_fight_taken : Nat → Int32) (n : Nat) (l4 : Int32) (l5 : Int32) :
  Option (Int32) :=
  loopN (fun k (s : Int32 × Int32) => mX1_pointsBy_B26 x0 x1 x2 i_fight_rounds f_fight_downs f_fight_judges f_fight_leads f_fight_taken  (fun l4 l5 => k (l4, l5)) s.1 s.2) n (l4, l5)
def mX1_pointsBy (x0 : Int32) (x1 : Int32) (x2 : Int32) (i_fight_rounds : Int32) (f_fight_downs : Nat → Int32) (f_fight_judges : Nat → Int32) (f_fight_leads : Nat → Int32) (f_fight_taken : Nat → Int32) :
  Option (Int32) :=
  (mX3_takenOf x2 i_fight_rounds f_fight_taken).bind fun o_1 =>
  lb (((20 : Int32) * i_fight_rounds) - ((2 : Int32) * o_1)) fun v_3 =>
  mX1_pointsBy_L26 x0 x1 x2 i_fight_rounds f_fight_downs f_fight_judges f_fight_leads f_fight_taken  FUEL v_3 (0 : Int32)
theorem hdsX1_pointsBy : yX1_pointsBy.cls ≠ "java/lang/invoke/MethodHandle" ∧ yX1_pointsBy.cls ≠ "java/lang/invoke/VarHandle" ∧ (parseMethodDescriptor yX1_pointsBy.desc).map (fun d => d.parameters.length) = some 3 := by decide +kernel
theorem hdvX1_pointsBy : yX1_pointsBy.cls = RX1 ∧ yX1_pointsBy.cls ≠ "java/lang/invoke/MethodHandle" ∧ yX1_pointsBy.cls ≠ "java/lang/invoke/VarHandle" ∧ (parseMethodDescriptor yX1_pointsBy.desc).map (fun d => d.parameters.length) = some 3 := by decide +kernel
abbrev rmX1_pointsBy : Room := { frames := 3, cells := 0, slots := 0, locals := 70 }
set_option maxHeartbeats 4000000 in
set_option maxRecDepth 100000 in
theorem qX1_pointsBy (l : Launch) (X : XT) (a_this : Nat) (a_fight : Nat) (a_fight_downs : Nat) (a_fight_judges : Nat) (a_fight_leads : Nat) (a_fight_taken : Nat) (a_owners : Nat) (a_fight_blows : Nat) (a_fight_forward : Nat) (a_fight_seenBy : Nat) (a_fight_sums : Nat)  (i_fight_rounds : Int32) (i_fight_home : Int32) (i_fight_noise : Int32) (i_fight_blowCount : Int32) (i_fight_judgeCount : Int32) (f_fight_downs : Nat → Int32) (f_fight_judges : Nat → Int32) (f_fight_leads : Nat → Int32) (f_fight_taken : Nat → Int32) (x0 : Int32) (x1 : Int32) (x2 : Int32) (o : Int32) (hf : mX1_pointsBy x0 x1 x2 i_fight_rounds f_fight_downs f_fight_judges f_fight_leads f_fight_taken = some o) :
    MI l yX1_pointsBy wsX1_pointsBy rmX1_pointsBy X [.ref a_this, .int x0, .int x1, .int x2] [(a_this, .inr (1, [.ref a_fight, .ref a_owners])), (a_fight, .inr (3, [.int i_fight_rounds, .int i_fight_home, .int i_fight_noise, .int i_fight_blowCount, .int i_fight_judgeCount, .ref a_fight_blows, .ref a_fight_judges, .ref a_fight_forward, .ref a_fight_downs, .ref a_fight_taken, .ref a_fight_seenBy, .ref a_fight_sums, .ref a_fight_leads])), (a_fight_downs, .inl (X.2.1 0, 24, .inl f_fight_downs)), (a_fight_judges, .inl (X.2.1 0, 56, .inl f_fight_judges)), (a_fight_leads, .inl (X.2.1 0, 96, .inl f_fight_leads)), (a_fight_taken, .inl (X.2.1 0, 24, .inl f_fight_taken))]  [(a_this, .inr (1, [.ref a_fight, .ref a_owners])), (a_fight, .inr (3, [.int i_fight_rounds, .int i_fight_home, .int i_fight_noise, .int i_fight_blowCount, .int i_fight_judgeCount, .ref a_fight_blows, .ref a_fight_judges, .ref a_fight_forward, .ref a_fight_downs, .ref a_fight_taken, .ref a_fight_seenBy, .ref a_fight_sums, .ref a_fight_leads])), (a_fight_downs, .inl (X.2.1 0, 24, .inl f_fight_downs)), (a_fight_judges, .inl (X.2.1 0, 56, .inl f_fight_judges)), (a_fight_leads, .inl (X.2.1 0, 96, .inl f_fight_leads)), (a_fight_taken, .inl (X.2.1 0, 24, .inl f_fight_taken))] o := by
  refine MI_ofH (cc := cX1_pointsBy) (maxL := 7) (rt := .int) (by decide) rfl (Nat.le_of_ble_eq_true rfl) ?_
  intro p e s m below meth c A Q H ls hx hb hml hts hown hA hD hG hP hS hl ret
  have hown : s.vm.findClass RX1 = some m.cls := hown
  have hD : aD A [a_this, a_fight, a_fight_downs, a_fight_judges, a_fight_leads, a_fight_taken] := hD
  have hl : lv_has ls 7 [(0, .ref a_this), (1, .int x0), (2, .int x1), (3, .int x2)] := hl
  have w1 := hts (Cond.fieldLink RX1 17 "ThreeCards$Cards" "fight" "LThreeCards$Fight;") (List.mem_of_getElem? (i := 1) rfl)
  have w2 := hts (Cond.methodLink RX1 53 Lib.Math.max.name) (List.mem_of_getElem? (i := 2) rfl)
  have w3 := hts (Cond.static Lib.Math.max.name) (List.mem_of_getElem? (i := 3) rfl)
  have w4 := hts (Cond.initialized "java/lang/Math") (List.mem_of_getElem? (i := 4) rfl)
  have w5 := hts (Cond.code Lib.Math.max.name Lib.Math.max.code 2 (some .int)) (List.mem_of_getElem? (i := 5) rfl)
  have in1 : ∀ w ∈ u_ws RX1 TX1 2, w ∈ wsX1_pointsBy := by decide +kernel
  have in3 : ∀ w ∈ u_ws RX3 TX3 13, w ∈ wsX1_pointsBy := by decide +kernel
  have hB63 : ∀ (k26 : Int32 → Int32 → Option (Int32)) (hk26 : ∀ (l4 : Int32) (l5 : Int32)  (H : Heap) (locs : List Loc) (ls : Array Slot), va_P X.1 vwCl [(a_this, .inr (1, [.ref a_fight, .ref a_owners])), (a_fight, .inr (3, [.int i_fight_rounds, .int i_fight_home, .int i_fight_noise, .int i_fight_blowCount, .int i_fight_judgeCount, .ref a_fight_blows, .ref a_fight_judges, .ref a_fight_forward, .ref a_fight_downs, .ref a_fight_taken, .ref a_fight_seenBy, .ref a_fight_sums, .ref a_fight_leads])), (a_fight_downs, .inl (X.2.1 0, 24, .inl f_fight_downs)), (a_fight_judges, .inl (X.2.1 0, 56, .inl f_fight_judges)), (a_fight_leads, .inl (X.2.1 0, 96, .inl f_fight_leads)), (a_fight_taken, .inl (X.2.1 0, 24, .inl f_fight_taken))] H → va_S A s.heap H locs → lv_has ls 7 [(0, .ref a_this), (1, .int x0), (2, .int x1), (3, .int x2), (4, .int l4), (5, .int l5)] → k26 l4 l5 = some o → W p l e rmX1_pointsBy s m ([.ref a_this, .int x0, .int x1, .int x2] : List Value).toArray below meth c H locs 0 0 Q (F0 m 26 ls [])) (l5 : Int32) (s0 : Int32) (s1 : Int32) (s2 : Int32)  (H : Heap) (locs : List Loc) (ls : Array Slot), va_P X.1 vwCl [(a_this, .inr (1, [.ref a_fight, .ref a_owners])), (a_fight, .inr (3, [.int i_fight_rounds, .int i_fight_home, .int i_fight_noise, .int i_fight_blowCount, .int i_fight_judgeCount, .ref a_fight_blows, .ref a_fight_judges, .ref a_fight_forward, .ref a_fight_downs, .ref a_fight_taken, .ref a_fight_seenBy, .ref a_fight_sums, .ref a_fight_leads])), (a_fight_downs, .inl (X.2.1 0, 24, .inl f_fight_downs)), (a_fight_judges, .inl (X.2.1 0, 56, .inl f_fight_judges)), (a_fight_leads, .inl (X.2.1 0, 96, .inl f_fight_leads)), (a_fight_taken, .inl (X.2.1 0, 24, .inl f_fight_taken))] H → va_S A s.heap H locs → lv_has ls 7 [(0, .ref a_this), (1, .int x0), (2, .int x1), (3, .int x2), (5, .int l5)] → mX1_pointsBy_B63 x0 x1 x2 i_fight_rounds f_fight_downs f_fight_judges f_fight_leads f_fight_taken k26 l5 s0 s1 s2 = some o → W p l e rmX1_pointsBy s m ([.ref a_this, .int x0, .int x1, .int x2] : List Value).toArray below meth c H locs 0 0 Q (F0 m 63 ls [.int s2, .int s1, .int s0]) := by
    intro k26 hk26 l5 s0 s1 s2  H locs ls hP hS hl hf
    unfold mX1_pointsBy_B63 at hf
    refine x_mmax hx hb hml hl.1 hown w2 w3 w4 w5 (Nat.le_of_ble_eq_true rfl) (Nat.le_of_ble_eq_true rfl) (Nat.le_of_ble_eq_true rfl) (Nat.le_of_ble_eq_true rfl) dX1_pointsBy_63 ?_
    refine lv_isub hx hb dX1_pointsBy_66 ?_
    refine lv_topi (fun v_8 ev_8 => ?_)
    have hf := lb_s hf ev_8
    refine lv_istore (lv' := [(4, .int v_8), (0, .ref a_this), (1, .int x0), (2, .int x1), (3, .int x2), (5, .int l5)]) hx hb dX1_pointsBy_67 hl (by decide) rfl (fun ls hl => ?_)
    obtain ⟨v_9, ev_9, hf⟩ := lb_g hf
    refine lv_iinc (v := v_9) (lv' := [(5, .int v_9), (4, .int v_8), (0, .ref a_this), (1, .int x0), (2, .int x1), (3, .int x2)]) hx hb dX1_pointsBy_69 hl (k := 5) rfl ev_9.symm (by decide) rfl (fun ls hl => ?_)
    refine lv_goto (tgt := 26) hx hb dX1_pointsBy_72 (by decide) ?_
    exact hk26 v_8 v_9  H _ ls hP  hS (lv_sub hl [2, 3, 4, 5, 1, 0] rfl) hf
  have hL26 : ∀ (n : Nat) (l4 : Int32) (l5 : Int32)  (H : Heap) (locs : List Loc) (ls : Array Slot), va_P X.1 vwCl [(a_this, .inr (1, [.ref a_fight, .ref a_owners])), (a_fight, .inr (3, [.int i_fight_rounds, .int i_fight_home, .int i_fight_noise, .int i_fight_blowCount, .int i_fight_judgeCount, .ref a_fight_blows, .ref a_fight_judges, .ref a_fight_forward, .ref a_fight_downs, .ref a_fight_taken, .ref a_fight_seenBy, .ref a_fight_sums, .ref a_fight_leads])), (a_fight_downs, .inl (X.2.1 0, 24, .inl f_fight_downs)), (a_fight_judges, .inl (X.2.1 0, 56, .inl f_fight_judges)), (a_fight_leads, .inl (X.2.1 0, 96, .inl f_fight_leads)), (a_fight_taken, .inl (X.2.1 0, 24, .inl f_fight_taken))] H → va_S A s.heap H locs → lv_has ls 7 [(0, .ref a_this), (1, .int x0), (2, .int x1), (3, .int x2), (4, .int l4), (5, .int l5)] → mX1_pointsBy_L26 x0 x1 x2 i_fight_rounds f_fight_downs f_fight_judges f_fight_leads f_fight_taken  n l4 l5 = some o → W p l e rmX1_pointsBy s m ([.ref a_this, .int x0, .int x1, .int x2] : List Value).toArray below meth c H locs 0 0 Q (F0 m 26 ls []) := by
    intro n
    induction n with
    | zero => intro l4 l5  H locs ls hP hS hl hf; exact xn hf
    | succ n ih =>
      intro l4 l5  H locs ls hP hS hl hf
      have hf : mX1_pointsBy_B26 x0 x1 x2 i_fight_rounds f_fight_downs f_fight_judges f_fight_leads f_fight_taken  (mX1_pointsBy_L26 x0 x1 x2 i_fight_rounds f_fight_downs f_fight_judges f_fight_leads f_fight_taken  n) l4 l5 = some o := hf
      generalize mX1_pointsBy_L26 x0 x1 x2 i_fight_rounds f_fight_downs f_fight_judges f_fight_leads f_fight_taken  n = k26 at ih hf
      unfold mX1_pointsBy_B26 at hf
      refine lv_iload hx hb dX1_pointsBy_26 (lv_at hl 5 rfl) ?_
      refine lv_aload_n hx hb dX1_pointsBy_28 rfl (lv_at hl 0 rfl) ?_
      refine va_get (D := X.1) (ci := 1) (v := .ref a_fight) (C := RX1) (T := TX1) (N := 2) hx hb hts in1 hown hG.1 hP 0 rfl rfl 0 (by decide) w1 (fun _ h9 => h9) rfl dX1_pointsBy_29 ?_
      refine va_getN (D := X.1) (ci := 3) (v := .int i_fight_rounds) (C := RX3) (T := TX3) (N := 13) hx hb hts in3 hown hG.1 hP 1 rfl rfl 0 (by decide) (va_Nw.use rfl (nf3 hG.2.1)) (fun _ h9 => h9) rfl dX1_pointsBy_32 ?_
      refine lv_icmp_ge (tgt := 75) hx hb dX1_pointsBy_35 (by decide) (fun c_4 => ?_) (fun c_4 => ?_)
      · have hf := xt hf c_4
        refine lv_iload hx hb dX1_pointsBy_75 (lv_at hl 4 rfl) ?_
        obtain rfl := Option.some.inj hf
        exact ret H _ ls _ rfl hP hD hS dX1_pointsBy_77
      · have hf := xf hf c_4
        refine lv_aload_n hx hb dX1_pointsBy_38 rfl (lv_at hl 0 rfl) ?_
        refine lv_iload_n hx hb dX1_pointsBy_39 rfl (lv_at hl 1 rfl) ?_
        refine lv_iload_n hx hb dX1_pointsBy_40 rfl (lv_at hl 2 rfl) ?_
        refine lv_iload hx hb dX1_pointsBy_41 (lv_at hl 5 rfl) ?_
        obtain ⟨o_5, ho_5, hf⟩ := ob_s hf
        refine xV_i (As := [.int x0, .int x1, .int l5]) (b := a_this) (rest := []) (ws2 := [(a_this, .inr (1, [.ref a_fight, .ref a_owners])), (a_fight, .inr (3, [.int i_fight_rounds, .int i_fight_home, .int i_fight_noise, .int i_fight_blowCount, .int i_fight_judgeCount, .ref a_fight_blows, .ref a_fight_judges, .ref a_fight_forward, .ref a_fight_downs, .ref a_fight_taken, .ref a_fight_seenBy, .ref a_fight_sums, .ref a_fight_leads])), (a_fight_downs, .inl (X.2.1 0, 24, .inl f_fight_downs)), (a_fight_judges, .inl (X.2.1 0, 56, .inl f_fight_judges)), (a_fight_leads, .inl (X.2.1 0, 96, .inl f_fight_leads)), (a_fight_taken, .inl (X.2.1 0, 24, .inl f_fight_taken))]) hx hb hml hts hown hG hA hP hD rfl hS hl.1 (qX1_marginBy l X a_this a_fight a_fight_downs a_fight_judges a_fight_leads a_owners a_fight_blows a_fight_forward a_fight_taken a_fight_seenBy a_fight_sums i_fight_rounds i_fight_home i_fight_noise i_fight_blowCount i_fight_judgeCount f_fight_downs f_fight_judges f_fight_leads x0 x1 l5 o_5 ho_5) (cwV (y := yX1_marginBy) 3 hts gX1_pointsBy_X1_marginBy rfl rfl rfl hdvX1_marginBy ⟨Nat.le_of_ble_eq_true rfl, Nat.le_of_ble_eq_true rfl⟩) [0, 1, 2, 3, 4] [5] [1, 2, 3, 4, 5, 0] rfl rfl rfl rfl rfl rfl rfl (ci := 1) rfl 0 rfl rfl rfl (Nat.le_of_ble_eq_true rfl) ⟨Nat.le_of_ble_eq_true rfl, Nat.le_of_ble_eq_true rfl⟩ dX1_pointsBy_43 (fun H locs hP _ hS => ?_)
        refine lv_istore (lv' := [(6, .int o_5), (0, .ref a_this), (1, .int x0), (2, .int x1), (3, .int x2), (4, .int l4), (5, .int l5)]) hx hb dX1_pointsBy_46 hl (by decide) rfl (fun ls hl => ?_)
        refine lv_iload hx hb dX1_pointsBy_48 (lv_at hl 5 rfl) ?_
        refine lv_iconst (v := (0 : Int32)) hx hb dX1_pointsBy_50 (by decide) ?_
        refine lv_iload_n hx hb dX1_pointsBy_51 rfl (lv_at hl 4 rfl) ?_
        refine lv_if_ne (tgt := 61) hx hb dX1_pointsBy_52 (by decide) (fun c_7 => ?_) (fun c_7 => ?_)
        · have hf := xf hf c_7
          refine lv_iload hx hb dX1_pointsBy_61 (lv_at hl 0 rfl) ?_
          exact hB63 k26 ih l5 l4 (0 : Int32) o_5  H _ ls hP  hS (lv_sub hl [1, 2, 3, 4, 6] rfl) hf
        · have hf := xt hf c_7
          refine lv_iload hx hb dX1_pointsBy_55 (lv_at hl 0 rfl) ?_
          refine lv_ineg hx hb dX1_pointsBy_57 ?_
          refine lv_goto (tgt := 63) hx hb dX1_pointsBy_58 (by decide) ?_
          exact hB63 k26 ih l5 l4 (0 : Int32) (-o_5)  H _ ls hP  hS (lv_sub hl [1, 2, 3, 4, 6] rfl) hf
  unfold mX1_pointsBy at hf
  refine lv_bipush (v := (20 : Int32)) hx hb dX1_pointsBy_0 (by decide) ?_
  refine lv_aload_n hx hb dX1_pointsBy_2 rfl (lv_at hl 0 rfl) ?_
  refine va_get (D := X.1) (ci := 1) (v := .ref a_fight) (C := RX1) (T := TX1) (N := 2) hx hb hts in1 hown hG.1 hP 0 rfl rfl 0 (by decide) w1 (fun _ h9 => h9) rfl dX1_pointsBy_3 ?_
  refine va_getN (D := X.1) (ci := 3) (v := .int i_fight_rounds) (C := RX3) (T := TX3) (N := 13) hx hb hts in3 hown hG.1 hP 1 rfl rfl 0 (by decide) (va_Nw.use rfl (nf3 hG.2.1)) (fun _ h9 => h9) rfl dX1_pointsBy_6 ?_
  refine lv_imul hx hb dX1_pointsBy_9 ?_
  refine lv_iconst (v := (2 : Int32)) hx hb dX1_pointsBy_10 (by decide) ?_
  refine lv_aload_n hx hb dX1_pointsBy_11 rfl (lv_at hl 0 rfl) ?_
  refine va_get (D := X.1) (ci := 1) (v := .ref a_fight) (C := RX1) (T := TX1) (N := 2) hx hb hts in1 hown hG.1 hP 0 rfl rfl 0 (by decide) w1 (fun _ h9 => h9) rfl dX1_pointsBy_12 ?_
  refine lv_iload_n hx hb dX1_pointsBy_15 rfl (lv_at hl 3 rfl) ?_
  obtain ⟨o_1, ho_1, hf⟩ := ob_s hf
  refine xV_i (As := [.int x2]) (b := a_fight) (rest := [.int (2 : Int32), .int ((20 : Int32) * i_fight_rounds)]) (ws2 := [(a_this, .inr (1, [.ref a_fight, .ref a_owners])), (a_fight, .inr (3, [.int i_fight_rounds, .int i_fight_home, .int i_fight_noise, .int i_fight_blowCount, .int i_fight_judgeCount, .ref a_fight_blows, .ref a_fight_judges, .ref a_fight_forward, .ref a_fight_downs, .ref a_fight_taken, .ref a_fight_seenBy, .ref a_fight_sums, .ref a_fight_leads])), (a_fight_downs, .inl (X.2.1 0, 24, .inl f_fight_downs)), (a_fight_judges, .inl (X.2.1 0, 56, .inl f_fight_judges)), (a_fight_leads, .inl (X.2.1 0, 96, .inl f_fight_leads)), (a_fight_taken, .inl (X.2.1 0, 24, .inl f_fight_taken))]) hx hb hml hts hown hG hA hP hD rfl hS hl.1 (qX3_takenOf l X a_fight a_fight_taken a_fight_blows a_fight_judges a_fight_forward a_fight_downs a_fight_seenBy a_fight_sums a_fight_leads i_fight_rounds i_fight_home i_fight_noise i_fight_blowCount i_fight_judgeCount f_fight_taken x2 o_1 ho_1) (cwV (y := yX3_takenOf) 1 hts gX1_pointsBy_X3_takenOf rfl rfl rfl hdvX3_takenOf ⟨Nat.le_of_ble_eq_true rfl, Nat.le_of_ble_eq_true rfl⟩) [1, 5] [0, 2, 3, 4] [0, 4, 1, 2, 3, 5] rfl rfl rfl rfl rfl rfl rfl (ci := 3) rfl 1 rfl rfl rfl (Nat.le_of_ble_eq_true rfl) ⟨Nat.le_of_ble_eq_true rfl, Nat.le_of_ble_eq_true rfl⟩ dX1_pointsBy_16 (fun H locs hP _ hS => ?_)
  refine lv_imul hx hb dX1_pointsBy_19 ?_
  refine lv_isub hx hb dX1_pointsBy_20 ?_
  refine lv_topi (fun v_3 ev_3 => ?_)
  have hf := lb_s hf ev_3
  refine lv_istore (lv' := [(4, .int v_3), (0, .ref a_this), (1, .int x0), (2, .int x1), (3, .int x2)]) hx hb dX1_pointsBy_21 hl (by decide) rfl (fun ls hl => ?_)
  refine lv_iconst (v := (0 : Int32)) hx hb dX1_pointsBy_23 (by decide) ?_
  refine lv_istore (lv' := [(5, .int (0 : Int32)), (4, .int v_3), (0, .ref a_this), (1, .int x0), (2, .int x1), (3, .int x2)]) hx hb dX1_pointsBy_24 hl (by decide) rfl (fun ls hl => ?_)
  exact hL26  FUEL v_3 (0 : Int32)  H _ ls hP  hS (lv_sub hl [2, 3, 4, 5, 1, 0] rfl) hf
def mX1_ownerOf (x0 : Int32) :
  Option (Int32) :=
  if x0 = 0 then (some (2 : Int32)) else (if x0 ≤ 0 then (some (1 : Int32)) else (some (0 : Int32)))
theorem hdsX1_ownerOf : yX1_ownerOf.cls ≠ "java/lang/invoke/MethodHandle" ∧ yX1_ownerOf.cls ≠ "java/lang/invoke/VarHandle" ∧ (parseMethodDescriptor yX1_ownerOf.desc).map (fun d => d.parameters.length) = some 1 := by decide +kernel
abbrev rmX1_ownerOf : Room := { frames := 0, cells := 0, slots := 0, locals := 0 }
set_option maxHeartbeats 4000000 in
set_option maxRecDepth 100000 in
theorem qX1_ownerOf (l : Launch) (X : XT)    (x0 : Int32) (o : Int32) (hf : mX1_ownerOf x0 = some o) :
    MI l yX1_ownerOf wsX1_ownerOf rmX1_ownerOf X [.int x0] []  [] o := by
  refine MI_ofH (cc := cX1_ownerOf) (maxL := 1) (rt := .int) (by decide) rfl (Nat.le_of_ble_eq_true rfl) ?_
  intro p e s m below meth c A Q H ls hx hb hml hts hown hA hD hG hP hS hl ret
  have hown : s.vm.findClass RX1 = some m.cls := hown
  have hD : aD A [] := hD
  have hl : lv_has ls 1 [(0, .int x0)] := hl
  unfold mX1_ownerOf at hf
  refine lv_iload_n hx hb dX1_ownerOf_0 rfl (lv_at hl 0 rfl) ?_
  refine lv_if_ne (tgt := 6) hx hb dX1_ownerOf_1 (by decide) (fun c_1 => ?_) (fun c_1 => ?_)
  · have hf := xf hf c_1
    refine lv_iload_n hx hb dX1_ownerOf_6 rfl (lv_at hl 0 rfl) ?_
    refine lv_if_le (tgt := 14) hx hb dX1_ownerOf_7 (by decide) (fun c_2 => ?_) (fun c_2 => ?_)
    · have hf := xt hf c_2
      refine lv_iconst (v := (1 : Int32)) hx hb dX1_ownerOf_14 (by decide) ?_
      obtain rfl := Option.some.inj hf
      exact ret H _ ls _ rfl hP hD hS dX1_ownerOf_15
    · have hf := xf hf c_2
      refine lv_iconst (v := (0 : Int32)) hx hb dX1_ownerOf_10 (by decide) ?_
      refine lv_goto (tgt := 15) hx hb dX1_ownerOf_11 (by decide) ?_
      obtain rfl := Option.some.inj hf
      exact ret H _ ls _ rfl hP hD hS dX1_ownerOf_15
  · have hf := xt hf c_1
    refine lv_iconst (v := (2 : Int32)) hx hb dX1_ownerOf_4 (by decide) ?_
    obtain rfl := Option.some.inj hf
    exact ret H _ ls _ rfl hP hD hS dX1_ownerOf_5
def mX1_endOf (x0 : Int32) (x1 : Int32) (x2 : Int32) :
  Option (Int32) :=
  if x0 = x1 then (some x0) else (if x0 = x2 then (some x0) else (if x1 = x2 then (some x1) else (some (2 : Int32))))
theorem hdsX1_endOf : yX1_endOf.cls ≠ "java/lang/invoke/MethodHandle" ∧ yX1_endOf.cls ≠ "java/lang/invoke/VarHandle" ∧ (parseMethodDescriptor yX1_endOf.desc).map (fun d => d.parameters.length) = some 3 := by decide +kernel
abbrev rmX1_endOf : Room := { frames := 0, cells := 0, slots := 0, locals := 0 }
set_option maxHeartbeats 4000000 in
set_option maxRecDepth 100000 in
theorem qX1_endOf (l : Launch) (X : XT)    (x0 : Int32) (x1 : Int32) (x2 : Int32) (o : Int32) (hf : mX1_endOf x0 x1 x2 = some o) :
    MI l yX1_endOf wsX1_endOf rmX1_endOf X [.int x0, .int x1, .int x2] []  [] o := by
  refine MI_ofH (cc := cX1_endOf) (maxL := 3) (rt := .int) (by decide) rfl (Nat.le_of_ble_eq_true rfl) ?_
  intro p e s m below meth c A Q H ls hx hb hml hts hown hA hD hG hP hS hl ret
  have hown : s.vm.findClass RX1 = some m.cls := hown
  have hD : aD A [] := hD
  have hl : lv_has ls 3 [(0, .int x0), (1, .int x1), (2, .int x2)] := hl
  unfold mX1_endOf at hf
  refine lv_iload_n hx hb dX1_endOf_0 rfl (lv_at hl 0 rfl) ?_
  refine lv_iload_n hx hb dX1_endOf_1 rfl (lv_at hl 1 rfl) ?_
  refine lv_icmp_eq (tgt := 10) hx hb dX1_endOf_2 (by decide) (fun c_1 => ?_) (fun c_1 => ?_)
  · have hf := xt hf c_1
    refine lv_iload_n hx hb dX1_endOf_10 rfl (lv_at hl 0 rfl) ?_
    obtain rfl := Option.some.inj hf
    exact ret H _ ls _ rfl hP hD hS dX1_endOf_11
  · have hf := xf hf c_1
    refine lv_iload_n hx hb dX1_endOf_5 rfl (lv_at hl 0 rfl) ?_
    refine lv_iload_n hx hb dX1_endOf_6 rfl (lv_at hl 2 rfl) ?_
    refine lv_icmp_ne (tgt := 12) hx hb dX1_endOf_7 (by decide) (fun c_2 => ?_) (fun c_2 => ?_)
    · have hf := xf hf c_2
      refine lv_iload_n hx hb dX1_endOf_12 rfl (lv_at hl 1 rfl) ?_
      refine lv_iload_n hx hb dX1_endOf_13 rfl (lv_at hl 2 rfl) ?_
      refine lv_icmp_ne (tgt := 21) hx hb dX1_endOf_14 (by decide) (fun c_3 => ?_) (fun c_3 => ?_)
      · have hf := xf hf c_3
        refine lv_iconst (v := (2 : Int32)) hx hb dX1_endOf_21 (by decide) ?_
        obtain rfl := Option.some.inj hf
        exact ret H _ ls _ rfl hP hD hS dX1_endOf_22
      · have hf := xt hf c_3
        refine lv_iload_n hx hb dX1_endOf_17 rfl (lv_at hl 1 rfl) ?_
        refine lv_goto (tgt := 22) hx hb dX1_endOf_18 (by decide) ?_
        obtain rfl := Option.some.inj hf
        exact ret H _ ls _ rfl hP hD hS dX1_endOf_22
    · have hf := xt hf c_2
      refine lv_iload_n hx hb dX1_endOf_10 rfl (lv_at hl 0 rfl) ?_
      obtain rfl := Option.some.inj hf
      exact ret H _ ls _ rfl hP hD hS dX1_endOf_11
def mX1_kindOf_B39 (x0 : Int32) (x1 : Int32) (x2 : Int32) :
  Option (Int32) :=
  some (1 : Int32)
def mX1_kindOf_B12 (x0 : Int32) (x1 : Int32) (x2 : Int32) :
  Option (Int32) :=
  (mX1_endOf x0 x1 x2).bind fun o_3 =>
  if o_3 = (2 : Int32) then (some (3 : Int32)) else (if x0 = (2 : Int32) then (mX1_kindOf_B39 x0 x1 x2  ) else (if x1 = (2 : Int32) then (mX1_kindOf_B39 x0 x1 x2  ) else (if x2 = (2 : Int32) then (mX1_kindOf_B39 x0 x1 x2  ) else (some (2 : Int32)))))
def mX1_kindOf (x0 : Int32) (x1 : Int32) (x2 : Int32) :
  Option (Int32) :=
  if x0 = x1 then (if x1 = x2 then (some (0 : Int32)) else (mX1_kindOf_B12 x0 x1 x2  )) else (mX1_kindOf_B12 x0 x1 x2  )
theorem hdsX1_kindOf : yX1_kindOf.cls ≠ "java/lang/invoke/MethodHandle" ∧ yX1_kindOf.cls ≠ "java/lang/invoke/VarHandle" ∧ (parseMethodDescriptor yX1_kindOf.desc).map (fun d => d.parameters.length) = some 3 := by decide +kernel
abbrev rmX1_kindOf : Room := { frames := 1, cells := 0, slots := 0, locals := 22 }
set_option maxHeartbeats 4000000 in
set_option maxRecDepth 100000 in
theorem qX1_kindOf (l : Launch) (X : XT)    (x0 : Int32) (x1 : Int32) (x2 : Int32) (o : Int32) (hf : mX1_kindOf x0 x1 x2 = some o) :
    MI l yX1_kindOf wsX1_kindOf rmX1_kindOf X [.int x0, .int x1, .int x2] []  [] o := by
  refine MI_ofH (cc := cX1_kindOf) (maxL := 3) (rt := .int) (by decide) rfl (Nat.le_of_ble_eq_true rfl) ?_
  intro p e s m below meth c A Q H ls hx hb hml hts hown hA hD hG hP hS hl ret
  have hown : s.vm.findClass RX1 = some m.cls := hown
  have hD : aD A [] := hD
  have hl : lv_has ls 3 [(0, .int x0), (1, .int x1), (2, .int x2)] := hl
  have hB39 : ∀   (H : Heap) (locs : List Loc) (ls : Array Slot), va_P X.1 vwCl [] H → va_S A s.heap H locs → lv_has ls 3 [] → mX1_kindOf_B39 x0 x1 x2   = some o → W p l e rmX1_kindOf s m ([.int x0, .int x1, .int x2] : List Value).toArray below meth c H locs 0 0 Q (F0 m 39 ls []) := by
    intro   H locs ls hP hS hl hf
    unfold mX1_kindOf_B39 at hf
    refine lv_iconst (v := (1 : Int32)) hx hb dX1_kindOf_39 (by decide) ?_
    refine lv_goto (tgt := 44) hx hb dX1_kindOf_40 (by decide) ?_
    obtain rfl := Option.some.inj hf
    exact ret H _ ls _ rfl hP hD hS dX1_kindOf_44
  have hB12 : ∀   (H : Heap) (locs : List Loc) (ls : Array Slot), va_P X.1 vwCl [] H → va_S A s.heap H locs → lv_has ls 3 [(0, .int x0), (1, .int x1), (2, .int x2)] → mX1_kindOf_B12 x0 x1 x2   = some o → W p l e rmX1_kindOf s m ([.int x0, .int x1, .int x2] : List Value).toArray below meth c H locs 0 0 Q (F0 m 12 ls []) := by
    intro   H locs ls hP hS hl hf
    unfold mX1_kindOf_B12 at hf
    refine lv_iload_n hx hb dX1_kindOf_12 rfl (lv_at hl 0 rfl) ?_
    refine lv_iload_n hx hb dX1_kindOf_13 rfl (lv_at hl 1 rfl) ?_
    refine lv_iload_n hx hb dX1_kindOf_14 rfl (lv_at hl 2 rfl) ?_
    obtain ⟨o_3, ho_3, hf⟩ := ob_s hf
    refine xS_i (As := [.int x0, .int x1, .int x2]) (rest := []) (ws2 := []) hx hb hml hts hown hG hA hP hD rfl hS hl.1 (qX1_endOf l X x0 x1 x2 o_3 ho_3) (va_cwS (y := yX1_endOf) 3 hts gX1_kindOf_X1_endOf rfl rfl rfl hdsX1_endOf ⟨Nat.le_of_ble_eq_true rfl, Nat.le_of_ble_eq_true rfl⟩) [] [] [] rfl rfl rfl rfl rfl rfl rfl rfl rfl (Nat.le_of_ble_eq_true rfl) ⟨Nat.le_of_ble_eq_true rfl, Nat.le_of_ble_eq_true rfl⟩ dX1_kindOf_15 (fun H locs hP _ hS => ?_)
    refine lv_iconst (v := (2 : Int32)) hx hb dX1_kindOf_18 (by decide) ?_
    refine lv_icmp_ne (tgt := 24) hx hb dX1_kindOf_19 (by decide) (fun c_5 => ?_) (fun c_5 => ?_)
    · have hf := xf hf c_5
      refine lv_iload_n hx hb dX1_kindOf_24 rfl (lv_at hl 0 rfl) ?_
      refine lv_iconst (v := (2 : Int32)) hx hb dX1_kindOf_25 (by decide) ?_
      refine lv_icmp_eq (tgt := 39) hx hb dX1_kindOf_26 (by decide) (fun c_6 => ?_) (fun c_6 => ?_)
      · have hf := xt hf c_6
        exact hB39    H _ ls hP  hS (lv_sub hl [] rfl) hf
      · have hf := xf hf c_6
        refine lv_iload_n hx hb dX1_kindOf_29 rfl (lv_at hl 1 rfl) ?_
        refine lv_iconst (v := (2 : Int32)) hx hb dX1_kindOf_30 (by decide) ?_
        refine lv_icmp_eq (tgt := 39) hx hb dX1_kindOf_31 (by decide) (fun c_7 => ?_) (fun c_7 => ?_)
        · have hf := xt hf c_7
          exact hB39    H _ ls hP  hS (lv_sub hl [] rfl) hf
        · have hf := xf hf c_7
          refine lv_iload_n hx hb dX1_kindOf_34 rfl (lv_at hl 2 rfl) ?_
          refine lv_iconst (v := (2 : Int32)) hx hb dX1_kindOf_35 (by decide) ?_
          refine lv_icmp_ne (tgt := 43) hx hb dX1_kindOf_36 (by decide) (fun c_8 => ?_) (fun c_8 => ?_)
          · have hf := xf hf c_8
            refine lv_iconst (v := (2 : Int32)) hx hb dX1_kindOf_43 (by decide) ?_
            obtain rfl := Option.some.inj hf
            exact ret H _ ls _ rfl hP hD hS dX1_kindOf_44
          · have hf := xt hf c_8
            exact hB39    H _ ls hP  hS (lv_sub hl [] rfl) hf
    · have hf := xt hf c_5
      refine lv_iconst (v := (3 : Int32)) hx hb dX1_kindOf_22 (by decide) ?_
      obtain rfl := Option.some.inj hf
      exact ret H _ ls _ rfl hP hD hS dX1_kindOf_23
  unfold mX1_kindOf at hf
  refine lv_iload_n hx hb dX1_kindOf_0 rfl (lv_at hl 0 rfl) ?_
  refine lv_iload_n hx hb dX1_kindOf_1 rfl (lv_at hl 1 rfl) ?_
  refine lv_icmp_ne (tgt := 12) hx hb dX1_kindOf_2 (by decide) (fun c_1 => ?_) (fun c_1 => ?_)
  · have hf := xf hf c_1
    exact hB12    H _ ls hP  hS (lv_sub hl [0, 1, 2] rfl) hf
  · have hf := xt hf c_1
    refine lv_iload_n hx hb dX1_kindOf_5 rfl (lv_at hl 1 rfl) ?_
    refine lv_iload_n hx hb dX1_kindOf_6 rfl (lv_at hl 2 rfl) ?_
    refine lv_icmp_ne (tgt := 12) hx hb dX1_kindOf_7 (by decide) (fun c_2 => ?_) (fun c_2 => ?_)
    · have hf := xf hf c_2
      exact hB12    H _ ls hP  hS (lv_sub hl [0, 1, 2] rfl) hf
    · have hf := xt hf c_2
      refine lv_iconst (v := (0 : Int32)) hx hb dX1_kindOf_10 (by decide) ?_
      obtain rfl := Option.some.inj hf
      exact ret H _ ls _ rfl hP hD hS dX1_kindOf_11
def mX1_setsThatEnd_B75 (x0 : Int32) (x1 : Int32) (i_fight_rounds : Int32) (i_fight_judgeCount : Int32) (f_fight_downs : Nat → Int32) (f_fight_judges : Nat → Int32) (f_fight_leads : Nat → Int32) (f_fight_taken : Nat → Int32) (k39 : Int32 → Int32 → (Nat → Int32) → Option (Int32 × (Nat → Int32))) (k57 : Int32 → Int32 → Int32 → (Nat → Int32) → Option (Int32 × (Nat → Int32))) (k75 : Int32 → Int32 → Int32 → Int32 → (Nat → Int32) → Option (Int32 × (Nat → Int32))) (l3 : Int32) (l4 : Int32) (l5 : Int32) (l6 : Int32) (f_owners : Nat → Int32) :
  Option (Int32 × (Nat → Int32)) :=
  if i_fight_judgeCount ≤ l6 then (lb (l5 + (1 : Int32)) fun v_15 =>
  k57 l3 l4 v_15 f_owners) else (gi l4 8 <|
  gi l5 8 <|
  gi l6 8 <|
  (mX1_endOf (f_owners l4.toNatClampNeg) (f_owners l5.toNatClampNeg) (f_owners l6.toNatClampNeg)).bind fun o_19 =>
  if o_19 = x1 then (lb (l3 + (1 : Int32)) fun v_24 =>
  lb (l6 + (1 : Int32)) fun v_25 =>
  k75 v_24 l4 l5 v_25 f_owners) else (lb (l3 + (0 : Int32)) fun v_22 =>
  lb (l6 + (1 : Int32)) fun v_23 =>
  k75 v_22 l4 l5 v_23 f_owners))
def mX1_setsThatEnd_L75 (x0 : Int32) (x1 : Int32) (i_fight_rounds : Int32) (i_fight_judgeCount : Int32) (f_fight_downs : Nat → Int32) (f_fight_judges : Nat → Int32) (f_fight_leads : Nat → Int32) (f_fight_taken : Nat → Int32) (k39 : Int32 → Int32 → (Nat → Int32) → Option (Int32 × (Nat → Int32))) (k57 : Int32 → Int32 → Int32 → (Nat → Int32) → Option (Int32 × (Nat → Int32))) (n : Nat) (l3 : Int32) (l4 : Int32) (l5 : Int32) (l6 : Int32) (f_owners : Nat → Int32) :
  Option (Int32 × (Nat → Int32)) :=
  loopN (fun k (s : Int32 × Int32 × Int32 × Int32 × (Nat → Int32)) => mX1_setsThatEnd_B75 x0 x1 i_fight_rounds i_fight_judgeCount f_fight_downs f_fight_judges f_fight_leads f_fight_taken k39 k57 (fun l3 l4 l5 l6 f_owners => k (l3, l4, l5, l6, f_owners)) s.1 s.2.1 s.2.2.1 s.2.2.2.1 s.2.2.2.2) n (l3, l4, l5, l6, f_owners)
def mX1_setsThatEnd_B57 (x0 : Int32) (x1 : Int32) (i_fight_rounds : Int32) (i_fight_judgeCount : Int32) (f_fight_downs : Nat → Int32) (f_fight_judges : Nat → Int32) (f_fight_leads : Nat → Int32) (f_fight_taken : Nat → Int32) (k39 : Int32 → Int32 → (Nat → Int32) → Option (Int32 × (Nat → Int32))) (k57 : Int32 → Int32 → Int32 → (Nat → Int32) → Option (Int32 × (Nat → Int32))) (l3 : Int32) (l4 : Int32) (l5 : Int32) (f_owners : Nat → Int32) :
  Option (Int32 × (Nat → Int32)) :=
  if i_fight_judgeCount ≤ l5 then (lb (l4 + (1 : Int32)) fun v_12 =>
  k39 l3 v_12 f_owners) else (lb (l5 + (1 : Int32)) fun v_13 =>
  mX1_setsThatEnd_L75 x0 x1 i_fight_rounds i_fight_judgeCount f_fight_downs f_fight_judges f_fight_leads f_fight_taken k39 k57 FUEL l3 l4 l5 v_13 f_owners)
def mX1_setsThatEnd_L57 (x0 : Int32) (x1 : Int32) (i_fight_rounds : Int32) (i_fight_judgeCount : Int32) (f_fight_downs : Nat → Int32) (f_fight_judges : Nat → Int32) (f_fight_leads : Nat → Int32) (f_fight_taken : Nat → Int32) (k39 : Int32 → Int32 → (Nat → Int32) → Option (Int32 × (Nat → Int32))) (n : Nat) (l3 : Int32) (l4 : Int32) (l5 : Int32) (f_owners : Nat → Int32) :
  Option (Int32 × (Nat → Int32)) :=
  loopN (fun k (s : Int32 × Int32 × Int32 × (Nat → Int32)) => mX1_setsThatEnd_B57 x0 x1 i_fight_rounds i_fight_judgeCount f_fight_downs f_fight_judges f_fight_leads f_fight_taken k39 (fun l3 l4 l5 f_owners => k (l3, l4, l5, f_owners)) s.1 s.2.1 s.2.2.1 s.2.2.2) n (l3, l4, l5, f_owners)
def mX1_setsThatEnd_B39 (x0 : Int32) (x1 : Int32) (i_fight_rounds : Int32) (i_fight_judgeCount : Int32) (f_fight_downs : Nat → Int32) (f_fight_judges : Nat → Int32) (f_fight_leads : Nat → Int32) (f_fight_taken : Nat → Int32) (k39 : Int32 → Int32 → (Nat → Int32) → Option (Int32 × (Nat → Int32))) (l3 : Int32) (l4 : Int32) (f_owners : Nat → Int32) :
  Option (Int32 × (Nat → Int32)) :=
  if i_fight_judgeCount ≤ l4 then (some (l3, f_owners)) else (lb (l4 + (1 : Int32)) fun v_10 =>
  mX1_setsThatEnd_L57 x0 x1 i_fight_rounds i_fight_judgeCount f_fight_downs f_fight_judges f_fight_leads f_fight_taken k39 FUEL l3 l4 v_10 f_owners)
def mX1_setsThatEnd_L39 (x0 : Int32) (x1 : Int32) (i_fight_rounds : Int32) (i_fight_judgeCount : Int32) (f_fight_downs : Nat → Int32) (f_fight_judges : Nat → Int32) (f_fight_leads : Nat → Int32) (f_fight_taken : Nat → Int32) (n : Nat) (l3 : Int32) (l4 : Int32) (f_owners : Nat → Int32) :
  Option (Int32 × (Nat → Int32)) :=
  loopN (fun k (s : Int32 × Int32 × (Nat → Int32)) => mX1_setsThatEnd_B39 x0 x1 i_fight_rounds i_fight_judgeCount f_fight_downs f_fight_judges f_fight_leads f_fight_taken  (fun l3 l4 f_owners => k (l3, l4, f_owners)) s.1 s.2.1 s.2.2) n (l3, l4, f_owners)
def mX1_setsThatEnd_B2 (x0 : Int32) (x1 : Int32) (i_fight_rounds : Int32) (i_fight_judgeCount : Int32) (f_fight_downs : Nat → Int32) (f_fight_judges : Nat → Int32) (f_fight_leads : Nat → Int32) (f_fight_taken : Nat → Int32) (k2 : Int32 → (Nat → Int32) → Option (Int32 × (Nat → Int32))) (l3 : Int32) (f_owners : Nat → Int32) :
  Option (Int32 × (Nat → Int32)) :=
  if i_fight_judgeCount ≤ l3 then (mX1_setsThatEnd_L39 x0 x1 i_fight_rounds i_fight_judgeCount f_fight_downs f_fight_judges f_fight_leads f_fight_taken  FUEL (0 : Int32) (0 : Int32) f_owners) else ((mX1_cardBy x0 l3 i_fight_rounds f_fight_downs f_fight_judges f_fight_leads f_fight_taken).bind fun o_2 =>
  (mX1_ownerOf o_2).bind fun o_4 =>
  gi l3 8 <|
  lb (upd f_owners l3.toNatClampNeg o_4) fun g_7 =>
  lb (l3 + (1 : Int32)) fun v_8 =>
  k2 v_8 g_7)
def mX1_setsThatEnd_L2 (x0 : Int32) (x1 : Int32) (i_fight_rounds : Int32) (i_fight_judgeCount : Int32) (f_fight_downs : Nat → Int32) (f_fight_judges : Nat → Int32) (f_fight_leads : Nat → Int32) (f_fight_taken : Nat → Int32) (n : Nat) (l3 : Int32) (f_owners : Nat → Int32) :
  Option (Int32 × (Nat → Int32)) :=
  loopN (fun k (s : Int32 × (Nat → Int32)) => mX1_setsThatEnd_B2 x0 x1 i_fight_rounds i_fight_judgeCount f_fight_downs f_fight_judges f_fight_leads f_fight_taken  (fun l3 f_owners => k (l3, f_owners)) s.1 s.2) n (l3, f_owners)
def mX1_setsThatEnd (x0 : Int32) (x1 : Int32) (i_fight_rounds : Int32) (i_fight_judgeCount : Int32) (f_owners : Nat → Int32) (f_fight_downs : Nat → Int32) (f_fight_judges : Nat → Int32) (f_fight_leads : Nat → Int32) (f_fight_taken : Nat → Int32) :
  Option (Int32 × (Nat → Int32)) :=
  mX1_setsThatEnd_L2 x0 x1 i_fight_rounds i_fight_judgeCount f_fight_downs f_fight_judges f_fight_leads f_fight_taken  FUEL (0 : Int32) f_owners
theorem hdsX1_setsThatEnd : yX1_setsThatEnd.cls ≠ "java/lang/invoke/MethodHandle" ∧ yX1_setsThatEnd.cls ≠ "java/lang/invoke/VarHandle" ∧ (parseMethodDescriptor yX1_setsThatEnd.desc).map (fun d => d.parameters.length) = some 2 := by decide +kernel
theorem hdvX1_setsThatEnd : yX1_setsThatEnd.cls = RX1 ∧ yX1_setsThatEnd.cls ≠ "java/lang/invoke/MethodHandle" ∧ yX1_setsThatEnd.cls ≠ "java/lang/invoke/VarHandle" ∧ (parseMethodDescriptor yX1_setsThatEnd.desc).map (fun d => d.parameters.length) = some 2 := by decide +kernel
abbrev rmX1_setsThatEnd : Room := { frames := 4, cells := 0, slots := 0, locals := 94 }
set_option maxHeartbeats 4000000 in
set_option maxRecDepth 100000 in
theorem qX1_setsThatEnd (l : Launch) (X : XT) (a_this : Nat) (a_fight : Nat) (a_owners : Nat) (a_fight_downs : Nat) (a_fight_judges : Nat) (a_fight_leads : Nat) (a_fight_taken : Nat) (a_fight_blows : Nat) (a_fight_forward : Nat) (a_fight_seenBy : Nat) (a_fight_sums : Nat)  (i_fight_rounds : Int32) (i_fight_home : Int32) (i_fight_noise : Int32) (i_fight_blowCount : Int32) (i_fight_judgeCount : Int32) (f_owners : Nat → Int32) (f_fight_downs : Nat → Int32) (f_fight_judges : Nat → Int32) (f_fight_leads : Nat → Int32) (f_fight_taken : Nat → Int32) (x0 : Int32) (x1 : Int32) (o : Int32 × (Nat → Int32)) (hf : mX1_setsThatEnd x0 x1 i_fight_rounds i_fight_judgeCount f_owners f_fight_downs f_fight_judges f_fight_leads f_fight_taken = some o) :
    MI l yX1_setsThatEnd wsX1_setsThatEnd rmX1_setsThatEnd X [.ref a_this, .int x0, .int x1] [(a_this, .inr (1, [.ref a_fight, .ref a_owners])), (a_fight, .inr (3, [.int i_fight_rounds, .int i_fight_home, .int i_fight_noise, .int i_fight_blowCount, .int i_fight_judgeCount, .ref a_fight_blows, .ref a_fight_judges, .ref a_fight_forward, .ref a_fight_downs, .ref a_fight_taken, .ref a_fight_seenBy, .ref a_fight_sums, .ref a_fight_leads])), (a_owners, .inl (X.2.1 0, 8, .inl f_owners)), (a_fight_downs, .inl (X.2.1 0, 24, .inl f_fight_downs)), (a_fight_judges, .inl (X.2.1 0, 56, .inl f_fight_judges)), (a_fight_leads, .inl (X.2.1 0, 96, .inl f_fight_leads)), (a_fight_taken, .inl (X.2.1 0, 24, .inl f_fight_taken))]  [(a_this, .inr (1, [.ref a_fight, .ref a_owners])), (a_fight, .inr (3, [.int i_fight_rounds, .int i_fight_home, .int i_fight_noise, .int i_fight_blowCount, .int i_fight_judgeCount, .ref a_fight_blows, .ref a_fight_judges, .ref a_fight_forward, .ref a_fight_downs, .ref a_fight_taken, .ref a_fight_seenBy, .ref a_fight_sums, .ref a_fight_leads])), (a_owners, .inl (X.2.1 0, 8, .inl o.2)), (a_fight_downs, .inl (X.2.1 0, 24, .inl f_fight_downs)), (a_fight_judges, .inl (X.2.1 0, 56, .inl f_fight_judges)), (a_fight_leads, .inl (X.2.1 0, 96, .inl f_fight_leads)), (a_fight_taken, .inl (X.2.1 0, 24, .inl f_fight_taken))] o.1 := by
  refine MI_ofH (cc := cX1_setsThatEnd) (maxL := 7) (rt := .int) (by decide) rfl (Nat.le_of_ble_eq_true rfl) ?_
  intro p e s m below meth c A Q H ls hx hb hml hts hown hA hD hG hP hS hl ret
  have hown : s.vm.findClass RX1 = some m.cls := hown
  have hD : aD A [a_this, a_fight, a_owners, a_fight_downs, a_fight_judges, a_fight_leads, a_fight_taken] := hD
  have hl : lv_has ls 7 [(0, .ref a_this), (1, .int x0), (2, .int x1)] := hl
  have w1 := hts (Cond.fieldLink RX1 17 "ThreeCards$Cards" "fight" "LThreeCards$Fight;") (List.mem_of_getElem? (i := 1) rfl)
  have w2 := hts (Cond.fieldLink RX1 11 "ThreeCards$Cards" "owners" "[I") (List.mem_of_getElem? (i := 2) rfl)
  have in1 : ∀ w ∈ u_ws RX1 TX1 2, w ∈ wsX1_setsThatEnd := by decide +kernel
  have in3 : ∀ w ∈ u_ws RX3 TX3 13, w ∈ wsX1_setsThatEnd := by decide +kernel
  have hL75 : ∀ (k39 : Int32 → Int32 → (Nat → Int32) → Option (Int32 × (Nat → Int32))) (hk39 : ∀ (l3 : Int32) (l4 : Int32) (f_owners : Nat → Int32)  (H : Heap) (locs : List Loc) (ls : Array Slot), va_P X.1 vwCl [(a_this, .inr (1, [.ref a_fight, .ref a_owners])), (a_fight, .inr (3, [.int i_fight_rounds, .int i_fight_home, .int i_fight_noise, .int i_fight_blowCount, .int i_fight_judgeCount, .ref a_fight_blows, .ref a_fight_judges, .ref a_fight_forward, .ref a_fight_downs, .ref a_fight_taken, .ref a_fight_seenBy, .ref a_fight_sums, .ref a_fight_leads])), (a_owners, .inl (X.2.1 0, 8, .inl f_owners)), (a_fight_downs, .inl (X.2.1 0, 24, .inl f_fight_downs)), (a_fight_judges, .inl (X.2.1 0, 56, .inl f_fight_judges)), (a_fight_leads, .inl (X.2.1 0, 96, .inl f_fight_leads)), (a_fight_taken, .inl (X.2.1 0, 24, .inl f_fight_taken))] H → va_S A s.heap H locs → lv_has ls 7 [(0, .ref a_this), (2, .int x1), (3, .int l3), (4, .int l4)] → k39 l3 l4 f_owners = some o → W p l e rmX1_setsThatEnd s m ([.ref a_this, .int x0, .int x1] : List Value).toArray below meth c H locs 0 0 Q (F0 m 39 ls [])) (k57 : Int32 → Int32 → Int32 → (Nat → Int32) → Option (Int32 × (Nat → Int32))) (hk57 : ∀ (l3 : Int32) (l4 : Int32) (l5 : Int32) (f_owners : Nat → Int32)  (H : Heap) (locs : List Loc) (ls : Array Slot), va_P X.1 vwCl [(a_this, .inr (1, [.ref a_fight, .ref a_owners])), (a_fight, .inr (3, [.int i_fight_rounds, .int i_fight_home, .int i_fight_noise, .int i_fight_blowCount, .int i_fight_judgeCount, .ref a_fight_blows, .ref a_fight_judges, .ref a_fight_forward, .ref a_fight_downs, .ref a_fight_taken, .ref a_fight_seenBy, .ref a_fight_sums, .ref a_fight_leads])), (a_owners, .inl (X.2.1 0, 8, .inl f_owners)), (a_fight_downs, .inl (X.2.1 0, 24, .inl f_fight_downs)), (a_fight_judges, .inl (X.2.1 0, 56, .inl f_fight_judges)), (a_fight_leads, .inl (X.2.1 0, 96, .inl f_fight_leads)), (a_fight_taken, .inl (X.2.1 0, 24, .inl f_fight_taken))] H → va_S A s.heap H locs → lv_has ls 7 [(0, .ref a_this), (2, .int x1), (3, .int l3), (4, .int l4), (5, .int l5)] → k57 l3 l4 l5 f_owners = some o → W p l e rmX1_setsThatEnd s m ([.ref a_this, .int x0, .int x1] : List Value).toArray below meth c H locs 0 0 Q (F0 m 57 ls [])) (n : Nat) (l3 : Int32) (l4 : Int32) (l5 : Int32) (l6 : Int32) (f_owners : Nat → Int32)  (H : Heap) (locs : List Loc) (ls : Array Slot), va_P X.1 vwCl [(a_this, .inr (1, [.ref a_fight, .ref a_owners])), (a_fight, .inr (3, [.int i_fight_rounds, .int i_fight_home, .int i_fight_noise, .int i_fight_blowCount, .int i_fight_judgeCount, .ref a_fight_blows, .ref a_fight_judges, .ref a_fight_forward, .ref a_fight_downs, .ref a_fight_taken, .ref a_fight_seenBy, .ref a_fight_sums, .ref a_fight_leads])), (a_owners, .inl (X.2.1 0, 8, .inl f_owners)), (a_fight_downs, .inl (X.2.1 0, 24, .inl f_fight_downs)), (a_fight_judges, .inl (X.2.1 0, 56, .inl f_fight_judges)), (a_fight_leads, .inl (X.2.1 0, 96, .inl f_fight_leads)), (a_fight_taken, .inl (X.2.1 0, 24, .inl f_fight_taken))] H → va_S A s.heap H locs → lv_has ls 7 [(0, .ref a_this), (2, .int x1), (3, .int l3), (4, .int l4), (5, .int l5), (6, .int l6)] → mX1_setsThatEnd_L75 x0 x1 i_fight_rounds i_fight_judgeCount f_fight_downs f_fight_judges f_fight_leads f_fight_taken k39 k57 n l3 l4 l5 l6 f_owners = some o → W p l e rmX1_setsThatEnd s m ([.ref a_this, .int x0, .int x1] : List Value).toArray below meth c H locs 0 0 Q (F0 m 75 ls []) := by
    intro k39 hk39 k57 hk57 n
    induction n with
    | zero => intro l3 l4 l5 l6 f_owners  H locs ls hP hS hl hf; exact xn hf
    | succ n ih =>
      intro l3 l4 l5 l6 f_owners  H locs ls hP hS hl hf
      have hf : mX1_setsThatEnd_B75 x0 x1 i_fight_rounds i_fight_judgeCount f_fight_downs f_fight_judges f_fight_leads f_fight_taken k39 k57 (mX1_setsThatEnd_L75 x0 x1 i_fight_rounds i_fight_judgeCount f_fight_downs f_fight_judges f_fight_leads f_fight_taken k39 k57 n) l3 l4 l5 l6 f_owners = some o := hf
      generalize mX1_setsThatEnd_L75 x0 x1 i_fight_rounds i_fight_judgeCount f_fight_downs f_fight_judges f_fight_leads f_fight_taken k39 k57 n = k75 at ih hf
      unfold mX1_setsThatEnd_B75 at hf
      refine lv_iload hx hb dX1_setsThatEnd_75 (lv_at hl 5 rfl) ?_
      refine lv_aload_n hx hb dX1_setsThatEnd_77 rfl (lv_at hl 0 rfl) ?_
      refine va_get (D := X.1) (ci := 1) (v := .ref a_fight) (C := RX1) (T := TX1) (N := 2) hx hb hts in1 hown hG.1 hP 0 rfl rfl 0 (by decide) w1 (fun _ h9 => h9) rfl dX1_setsThatEnd_78 ?_
      refine va_getN (D := X.1) (ci := 3) (v := .int i_fight_judgeCount) (C := RX3) (T := TX3) (N := 13) hx hb hts in3 hown hG.1 hP 1 rfl rfl 4 (by decide) (va_Nw.use rfl (nf10 hG.2.1)) (fun _ h9 => h9) rfl dX1_setsThatEnd_81 ?_
      refine lv_icmp_ge (tgt := 129) hx hb dX1_setsThatEnd_84 (by decide) (fun c_14 => ?_) (fun c_14 => ?_)
      · have hf := xt hf c_14
        obtain ⟨v_15, ev_15, hf⟩ := lb_g hf
        refine lv_iinc (v := v_15) (lv' := [(5, .int v_15), (0, .ref a_this), (2, .int x1), (3, .int l3), (4, .int l4), (6, .int l6)]) hx hb dX1_setsThatEnd_129 hl (k := 4) rfl ev_15.symm (by decide) rfl (fun ls hl => ?_)
        refine lv_goto (tgt := 57) hx hb dX1_setsThatEnd_132 (by decide) ?_
        exact hk57 l3 l4 v_15 f_owners  H _ ls hP  hS (lv_sub hl [1, 2, 3, 4, 0] rfl) hf
      · have hf := xf hf c_14
        refine lv_iload_n hx hb dX1_setsThatEnd_87 rfl (lv_at hl 2 rfl) ?_
        refine lv_aload_n hx hb dX1_setsThatEnd_88 rfl (lv_at hl 0 rfl) ?_
        refine va_get (D := X.1) (ci := 1) (v := .ref a_owners) (C := RX1) (T := TX1) (N := 2) hx hb hts in1 hown hG.1 hP 0 rfl rfl 1 (by decide) w2 (fun _ h9 => h9) rfl dX1_setsThatEnd_89 ?_
        refine lv_iload hx hb dX1_setsThatEnd_92 (lv_at hl 3 rfl) ?_
        obtain ⟨h_16, hf⟩ := gi_s hf
        refine va_iald (D := X.1) hx hb hG.1 hP 2 0 rfl rfl h_16 dX1_setsThatEnd_94 ?_
        refine lv_aload_n hx hb dX1_setsThatEnd_95 rfl (lv_at hl 0 rfl) ?_
        refine va_get (D := X.1) (ci := 1) (v := .ref a_owners) (C := RX1) (T := TX1) (N := 2) hx hb hts in1 hown hG.1 hP 0 rfl rfl 1 (by decide) w2 (fun _ h9 => h9) rfl dX1_setsThatEnd_96 ?_
        refine lv_iload hx hb dX1_setsThatEnd_99 (lv_at hl 4 rfl) ?_
        obtain ⟨h_17, hf⟩ := gi_s hf
        refine va_iald (D := X.1) hx hb hG.1 hP 2 0 rfl rfl h_17 dX1_setsThatEnd_101 ?_
        refine lv_aload_n hx hb dX1_setsThatEnd_102 rfl (lv_at hl 0 rfl) ?_
        refine va_get (D := X.1) (ci := 1) (v := .ref a_owners) (C := RX1) (T := TX1) (N := 2) hx hb hts in1 hown hG.1 hP 0 rfl rfl 1 (by decide) w2 (fun _ h9 => h9) rfl dX1_setsThatEnd_103 ?_
        refine lv_iload hx hb dX1_setsThatEnd_106 (lv_at hl 5 rfl) ?_
        obtain ⟨h_18, hf⟩ := gi_s hf
        refine va_iald (D := X.1) hx hb hG.1 hP 2 0 rfl rfl h_18 dX1_setsThatEnd_108 ?_
        obtain ⟨o_19, ho_19, hf⟩ := ob_s hf
        refine xS_i (As := [.int (f_owners l4.toNatClampNeg), .int (f_owners l5.toNatClampNeg), .int (f_owners l6.toNatClampNeg)]) (rest := [.int l3]) (ws2 := [(a_this, .inr (1, [.ref a_fight, .ref a_owners])), (a_fight, .inr (3, [.int i_fight_rounds, .int i_fight_home, .int i_fight_noise, .int i_fight_blowCount, .int i_fight_judgeCount, .ref a_fight_blows, .ref a_fight_judges, .ref a_fight_forward, .ref a_fight_downs, .ref a_fight_taken, .ref a_fight_seenBy, .ref a_fight_sums, .ref a_fight_leads])), (a_owners, .inl (X.2.1 0, 8, .inl f_owners)), (a_fight_downs, .inl (X.2.1 0, 24, .inl f_fight_downs)), (a_fight_judges, .inl (X.2.1 0, 56, .inl f_fight_judges)), (a_fight_leads, .inl (X.2.1 0, 96, .inl f_fight_leads)), (a_fight_taken, .inl (X.2.1 0, 24, .inl f_fight_taken))]) hx hb hml hts hown hG hA hP hD rfl hS hl.1 (qX1_endOf l X (f_owners l4.toNatClampNeg) (f_owners l5.toNatClampNeg) (f_owners l6.toNatClampNeg) o_19 ho_19) (va_cwS (y := yX1_endOf) 3 hts gX1_setsThatEnd_X1_endOf rfl rfl rfl hdsX1_endOf ⟨Nat.le_of_ble_eq_true rfl, Nat.le_of_ble_eq_true rfl⟩) [] [0, 1, 2, 3, 4, 5, 6] [0, 1, 2, 3, 4, 5, 6] rfl rfl rfl rfl rfl rfl rfl rfl rfl (Nat.le_of_ble_eq_true rfl) ⟨Nat.le_of_ble_eq_true rfl, Nat.le_of_ble_eq_true rfl⟩ dX1_setsThatEnd_109 (fun H locs hP _ hS => ?_)
        refine lv_iload_n hx hb dX1_setsThatEnd_112 rfl (lv_at hl 1 rfl) ?_
        refine lv_icmp_ne (tgt := 120) hx hb dX1_setsThatEnd_113 (by decide) (fun c_21 => ?_) (fun c_21 => ?_)
        · have hf := xf hf c_21
          refine lv_iconst (v := (0 : Int32)) hx hb dX1_setsThatEnd_120 (by decide) ?_
          refine lv_iadd hx hb dX1_setsThatEnd_121 ?_
          refine lv_topi (fun v_22 ev_22 => ?_)
          have hf := lb_s hf ev_22
          refine lv_istore_n (lv' := [(3, .int v_22), (0, .ref a_this), (2, .int x1), (4, .int l4), (5, .int l5), (6, .int l6)]) hx hb dX1_setsThatEnd_122 rfl hl (by decide) rfl (fun ls hl => ?_)
          obtain ⟨v_23, ev_23, hf⟩ := lb_g hf
          refine lv_iinc (v := v_23) (lv' := [(6, .int v_23), (3, .int v_22), (0, .ref a_this), (2, .int x1), (4, .int l4), (5, .int l5)]) hx hb dX1_setsThatEnd_123 hl (k := 5) rfl ev_23.symm (by decide) rfl (fun ls hl => ?_)
          refine lv_goto (tgt := 75) hx hb dX1_setsThatEnd_126 (by decide) ?_
          exact ih v_22 l4 l5 v_23 f_owners  H _ ls hP  hS (lv_sub hl [2, 3, 1, 4, 5, 0] rfl) hf
        · have hf := xt hf c_21
          refine lv_iconst (v := (1 : Int32)) hx hb dX1_setsThatEnd_116 (by decide) ?_
          refine lv_goto (tgt := 121) hx hb dX1_setsThatEnd_117 (by decide) ?_
          refine lv_iadd hx hb dX1_setsThatEnd_121 ?_
          refine lv_topi (fun v_24 ev_24 => ?_)
          have hf := lb_s hf ev_24
          refine lv_istore_n (lv' := [(3, .int v_24), (0, .ref a_this), (2, .int x1), (4, .int l4), (5, .int l5), (6, .int l6)]) hx hb dX1_setsThatEnd_122 rfl hl (by decide) rfl (fun ls hl => ?_)
          obtain ⟨v_25, ev_25, hf⟩ := lb_g hf
          refine lv_iinc (v := v_25) (lv' := [(6, .int v_25), (3, .int v_24), (0, .ref a_this), (2, .int x1), (4, .int l4), (5, .int l5)]) hx hb dX1_setsThatEnd_123 hl (k := 5) rfl ev_25.symm (by decide) rfl (fun ls hl => ?_)
          refine lv_goto (tgt := 75) hx hb dX1_setsThatEnd_126 (by decide) ?_
          exact ih v_24 l4 l5 v_25 f_owners  H _ ls hP  hS (lv_sub hl [2, 3, 1, 4, 5, 0] rfl) hf
  have hL57 : ∀ (k39 : Int32 → Int32 → (Nat → Int32) → Option (Int32 × (Nat → Int32))) (hk39 : ∀ (l3 : Int32) (l4 : Int32) (f_owners : Nat → Int32)  (H : Heap) (locs : List Loc) (ls : Array Slot), va_P X.1 vwCl [(a_this, .inr (1, [.ref a_fight, .ref a_owners])), (a_fight, .inr (3, [.int i_fight_rounds, .int i_fight_home, .int i_fight_noise, .int i_fight_blowCount, .int i_fight_judgeCount, .ref a_fight_blows, .ref a_fight_judges, .ref a_fight_forward, .ref a_fight_downs, .ref a_fight_taken, .ref a_fight_seenBy, .ref a_fight_sums, .ref a_fight_leads])), (a_owners, .inl (X.2.1 0, 8, .inl f_owners)), (a_fight_downs, .inl (X.2.1 0, 24, .inl f_fight_downs)), (a_fight_judges, .inl (X.2.1 0, 56, .inl f_fight_judges)), (a_fight_leads, .inl (X.2.1 0, 96, .inl f_fight_leads)), (a_fight_taken, .inl (X.2.1 0, 24, .inl f_fight_taken))] H → va_S A s.heap H locs → lv_has ls 7 [(0, .ref a_this), (2, .int x1), (3, .int l3), (4, .int l4)] → k39 l3 l4 f_owners = some o → W p l e rmX1_setsThatEnd s m ([.ref a_this, .int x0, .int x1] : List Value).toArray below meth c H locs 0 0 Q (F0 m 39 ls [])) (n : Nat) (l3 : Int32) (l4 : Int32) (l5 : Int32) (f_owners : Nat → Int32)  (H : Heap) (locs : List Loc) (ls : Array Slot), va_P X.1 vwCl [(a_this, .inr (1, [.ref a_fight, .ref a_owners])), (a_fight, .inr (3, [.int i_fight_rounds, .int i_fight_home, .int i_fight_noise, .int i_fight_blowCount, .int i_fight_judgeCount, .ref a_fight_blows, .ref a_fight_judges, .ref a_fight_forward, .ref a_fight_downs, .ref a_fight_taken, .ref a_fight_seenBy, .ref a_fight_sums, .ref a_fight_leads])), (a_owners, .inl (X.2.1 0, 8, .inl f_owners)), (a_fight_downs, .inl (X.2.1 0, 24, .inl f_fight_downs)), (a_fight_judges, .inl (X.2.1 0, 56, .inl f_fight_judges)), (a_fight_leads, .inl (X.2.1 0, 96, .inl f_fight_leads)), (a_fight_taken, .inl (X.2.1 0, 24, .inl f_fight_taken))] H → va_S A s.heap H locs → lv_has ls 7 [(0, .ref a_this), (2, .int x1), (3, .int l3), (4, .int l4), (5, .int l5)] → mX1_setsThatEnd_L57 x0 x1 i_fight_rounds i_fight_judgeCount f_fight_downs f_fight_judges f_fight_leads f_fight_taken k39 n l3 l4 l5 f_owners = some o → W p l e rmX1_setsThatEnd s m ([.ref a_this, .int x0, .int x1] : List Value).toArray below meth c H locs 0 0 Q (F0 m 57 ls []) := by
    intro k39 hk39 n
    induction n with
    | zero => intro l3 l4 l5 f_owners  H locs ls hP hS hl hf; exact xn hf
    | succ n ih =>
      intro l3 l4 l5 f_owners  H locs ls hP hS hl hf
      have hf : mX1_setsThatEnd_B57 x0 x1 i_fight_rounds i_fight_judgeCount f_fight_downs f_fight_judges f_fight_leads f_fight_taken k39 (mX1_setsThatEnd_L57 x0 x1 i_fight_rounds i_fight_judgeCount f_fight_downs f_fight_judges f_fight_leads f_fight_taken k39 n) l3 l4 l5 f_owners = some o := hf
      generalize mX1_setsThatEnd_L57 x0 x1 i_fight_rounds i_fight_judgeCount f_fight_downs f_fight_judges f_fight_leads f_fight_taken k39 n = k57 at ih hf
      unfold mX1_setsThatEnd_B57 at hf
      refine lv_iload hx hb dX1_setsThatEnd_57 (lv_at hl 4 rfl) ?_
      refine lv_aload_n hx hb dX1_setsThatEnd_59 rfl (lv_at hl 0 rfl) ?_
      refine va_get (D := X.1) (ci := 1) (v := .ref a_fight) (C := RX1) (T := TX1) (N := 2) hx hb hts in1 hown hG.1 hP 0 rfl rfl 0 (by decide) w1 (fun _ h9 => h9) rfl dX1_setsThatEnd_60 ?_
      refine va_getN (D := X.1) (ci := 3) (v := .int i_fight_judgeCount) (C := RX3) (T := TX3) (N := 13) hx hb hts in3 hown hG.1 hP 1 rfl rfl 4 (by decide) (va_Nw.use rfl (nf10 hG.2.1)) (fun _ h9 => h9) rfl dX1_setsThatEnd_63 ?_
      refine lv_icmp_ge (tgt := 135) hx hb dX1_setsThatEnd_66 (by decide) (fun c_11 => ?_) (fun c_11 => ?_)
      · have hf := xt hf c_11
        obtain ⟨v_12, ev_12, hf⟩ := lb_g hf
        refine lv_iinc (v := v_12) (lv' := [(4, .int v_12), (0, .ref a_this), (2, .int x1), (3, .int l3), (5, .int l5)]) hx hb dX1_setsThatEnd_135 hl (k := 3) rfl ev_12.symm (by decide) rfl (fun ls hl => ?_)
        refine lv_goto (tgt := 39) hx hb dX1_setsThatEnd_138 (by decide) ?_
        exact hk39 l3 v_12 f_owners  H _ ls hP  hS (lv_sub hl [1, 2, 3, 0] rfl) hf
      · have hf := xf hf c_11
        refine lv_iload hx hb dX1_setsThatEnd_69 (lv_at hl 4 rfl) ?_
        refine lv_iconst (v := (1 : Int32)) hx hb dX1_setsThatEnd_71 (by decide) ?_
        refine lv_iadd hx hb dX1_setsThatEnd_72 ?_
        refine lv_topi (fun v_13 ev_13 => ?_)
        have hf := lb_s hf ev_13
        refine lv_istore (lv' := [(6, .int v_13), (0, .ref a_this), (2, .int x1), (3, .int l3), (4, .int l4), (5, .int l5)]) hx hb dX1_setsThatEnd_73 hl (by decide) rfl (fun ls hl => ?_)
        exact hL75 k39 hk39 k57 ih FUEL l3 l4 l5 v_13 f_owners  H _ ls hP  hS (lv_sub hl [1, 2, 3, 4, 5, 0] rfl) hf
  have hL39 : ∀ (n : Nat) (l3 : Int32) (l4 : Int32) (f_owners : Nat → Int32)  (H : Heap) (locs : List Loc) (ls : Array Slot), va_P X.1 vwCl [(a_this, .inr (1, [.ref a_fight, .ref a_owners])), (a_fight, .inr (3, [.int i_fight_rounds, .int i_fight_home, .int i_fight_noise, .int i_fight_blowCount, .int i_fight_judgeCount, .ref a_fight_blows, .ref a_fight_judges, .ref a_fight_forward, .ref a_fight_downs, .ref a_fight_taken, .ref a_fight_seenBy, .ref a_fight_sums, .ref a_fight_leads])), (a_owners, .inl (X.2.1 0, 8, .inl f_owners)), (a_fight_downs, .inl (X.2.1 0, 24, .inl f_fight_downs)), (a_fight_judges, .inl (X.2.1 0, 56, .inl f_fight_judges)), (a_fight_leads, .inl (X.2.1 0, 96, .inl f_fight_leads)), (a_fight_taken, .inl (X.2.1 0, 24, .inl f_fight_taken))] H → va_S A s.heap H locs → lv_has ls 7 [(0, .ref a_this), (2, .int x1), (3, .int l3), (4, .int l4)] → mX1_setsThatEnd_L39 x0 x1 i_fight_rounds i_fight_judgeCount f_fight_downs f_fight_judges f_fight_leads f_fight_taken  n l3 l4 f_owners = some o → W p l e rmX1_setsThatEnd s m ([.ref a_this, .int x0, .int x1] : List Value).toArray below meth c H locs 0 0 Q (F0 m 39 ls []) := by
    intro n
    induction n with
    | zero => intro l3 l4 f_owners  H locs ls hP hS hl hf; exact xn hf
    | succ n ih =>
      intro l3 l4 f_owners  H locs ls hP hS hl hf
      have hf : mX1_setsThatEnd_B39 x0 x1 i_fight_rounds i_fight_judgeCount f_fight_downs f_fight_judges f_fight_leads f_fight_taken  (mX1_setsThatEnd_L39 x0 x1 i_fight_rounds i_fight_judgeCount f_fight_downs f_fight_judges f_fight_leads f_fight_taken  n) l3 l4 f_owners = some o := hf
      generalize mX1_setsThatEnd_L39 x0 x1 i_fight_rounds i_fight_judgeCount f_fight_downs f_fight_judges f_fight_leads f_fight_taken  n = k39 at ih hf
      unfold mX1_setsThatEnd_B39 at hf
      refine lv_iload hx hb dX1_setsThatEnd_39 (lv_at hl 3 rfl) ?_
      refine lv_aload_n hx hb dX1_setsThatEnd_41 rfl (lv_at hl 0 rfl) ?_
      refine va_get (D := X.1) (ci := 1) (v := .ref a_fight) (C := RX1) (T := TX1) (N := 2) hx hb hts in1 hown hG.1 hP 0 rfl rfl 0 (by decide) w1 (fun _ h9 => h9) rfl dX1_setsThatEnd_42 ?_
      refine va_getN (D := X.1) (ci := 3) (v := .int i_fight_judgeCount) (C := RX3) (T := TX3) (N := 13) hx hb hts in3 hown hG.1 hP 1 rfl rfl 4 (by decide) (va_Nw.use rfl (nf10 hG.2.1)) (fun _ h9 => h9) rfl dX1_setsThatEnd_45 ?_
      refine lv_icmp_ge (tgt := 141) hx hb dX1_setsThatEnd_48 (by decide) (fun c_9 => ?_) (fun c_9 => ?_)
      · have hf := xt hf c_9
        refine lv_iload_n hx hb dX1_setsThatEnd_141 rfl (lv_at hl 2 rfl) ?_
        obtain rfl := Option.some.inj hf
        exact ret H _ ls _ rfl hP hD hS dX1_setsThatEnd_142
      · have hf := xf hf c_9
        refine lv_iload hx hb dX1_setsThatEnd_51 (lv_at hl 3 rfl) ?_
        refine lv_iconst (v := (1 : Int32)) hx hb dX1_setsThatEnd_53 (by decide) ?_
        refine lv_iadd hx hb dX1_setsThatEnd_54 ?_
        refine lv_topi (fun v_10 ev_10 => ?_)
        have hf := lb_s hf ev_10
        refine lv_istore (lv' := [(5, .int v_10), (0, .ref a_this), (2, .int x1), (3, .int l3), (4, .int l4)]) hx hb dX1_setsThatEnd_55 hl (by decide) rfl (fun ls hl => ?_)
        exact hL57 k39 ih FUEL l3 l4 v_10 f_owners  H _ ls hP  hS (lv_sub hl [1, 2, 3, 4, 0] rfl) hf
  have hL2 : ∀ (n : Nat) (l3 : Int32) (f_owners : Nat → Int32)  (H : Heap) (locs : List Loc) (ls : Array Slot), va_P X.1 vwCl [(a_this, .inr (1, [.ref a_fight, .ref a_owners])), (a_fight, .inr (3, [.int i_fight_rounds, .int i_fight_home, .int i_fight_noise, .int i_fight_blowCount, .int i_fight_judgeCount, .ref a_fight_blows, .ref a_fight_judges, .ref a_fight_forward, .ref a_fight_downs, .ref a_fight_taken, .ref a_fight_seenBy, .ref a_fight_sums, .ref a_fight_leads])), (a_owners, .inl (X.2.1 0, 8, .inl f_owners)), (a_fight_downs, .inl (X.2.1 0, 24, .inl f_fight_downs)), (a_fight_judges, .inl (X.2.1 0, 56, .inl f_fight_judges)), (a_fight_leads, .inl (X.2.1 0, 96, .inl f_fight_leads)), (a_fight_taken, .inl (X.2.1 0, 24, .inl f_fight_taken))] H → va_S A s.heap H locs → lv_has ls 7 [(0, .ref a_this), (1, .int x0), (2, .int x1), (3, .int l3)] → mX1_setsThatEnd_L2 x0 x1 i_fight_rounds i_fight_judgeCount f_fight_downs f_fight_judges f_fight_leads f_fight_taken  n l3 f_owners = some o → W p l e rmX1_setsThatEnd s m ([.ref a_this, .int x0, .int x1] : List Value).toArray below meth c H locs 0 0 Q (F0 m 2 ls []) := by
    intro n
    induction n with
    | zero => intro l3 f_owners  H locs ls hP hS hl hf; exact xn hf
    | succ n ih =>
      intro l3 f_owners  H locs ls hP hS hl hf
      have hf : mX1_setsThatEnd_B2 x0 x1 i_fight_rounds i_fight_judgeCount f_fight_downs f_fight_judges f_fight_leads f_fight_taken  (mX1_setsThatEnd_L2 x0 x1 i_fight_rounds i_fight_judgeCount f_fight_downs f_fight_judges f_fight_leads f_fight_taken  n) l3 f_owners = some o := hf
      generalize mX1_setsThatEnd_L2 x0 x1 i_fight_rounds i_fight_judgeCount f_fight_downs f_fight_judges f_fight_leads f_fight_taken  n = k2 at ih hf
      unfold mX1_setsThatEnd_B2 at hf
      refine lv_iload_n hx hb dX1_setsThatEnd_2 rfl (lv_at hl 3 rfl) ?_
      refine lv_aload_n hx hb dX1_setsThatEnd_3 rfl (lv_at hl 0 rfl) ?_
      refine va_get (D := X.1) (ci := 1) (v := .ref a_fight) (C := RX1) (T := TX1) (N := 2) hx hb hts in1 hown hG.1 hP 0 rfl rfl 0 (by decide) w1 (fun _ h9 => h9) rfl dX1_setsThatEnd_4 ?_
      refine va_getN (D := X.1) (ci := 3) (v := .int i_fight_judgeCount) (C := RX3) (T := TX3) (N := 13) hx hb hts in3 hown hG.1 hP 1 rfl rfl 4 (by decide) (va_Nw.use rfl (nf10 hG.2.1)) (fun _ h9 => h9) rfl dX1_setsThatEnd_7 ?_
      refine lv_icmp_ge (tgt := 34) hx hb dX1_setsThatEnd_10 (by decide) (fun c_1 => ?_) (fun c_1 => ?_)
      · have hf := xt hf c_1
        refine lv_iconst (v := (0 : Int32)) hx hb dX1_setsThatEnd_34 (by decide) ?_
        refine lv_istore_n (lv' := [(3, .int (0 : Int32)), (0, .ref a_this), (1, .int x0), (2, .int x1)]) hx hb dX1_setsThatEnd_35 rfl hl (by decide) rfl (fun ls hl => ?_)
        refine lv_iconst (v := (0 : Int32)) hx hb dX1_setsThatEnd_36 (by decide) ?_
        refine lv_istore (lv' := [(4, .int (0 : Int32)), (3, .int (0 : Int32)), (0, .ref a_this), (1, .int x0), (2, .int x1)]) hx hb dX1_setsThatEnd_37 hl (by decide) rfl (fun ls hl => ?_)
        exact hL39  FUEL (0 : Int32) (0 : Int32) f_owners  H _ ls hP  hS (lv_sub hl [2, 4, 1, 0] rfl) hf
      · have hf := xf hf c_1
        refine lv_aload_n hx hb dX1_setsThatEnd_13 rfl (lv_at hl 0 rfl) ?_
        refine va_get (D := X.1) (ci := 1) (v := .ref a_owners) (C := RX1) (T := TX1) (N := 2) hx hb hts in1 hown hG.1 hP 0 rfl rfl 1 (by decide) w2 (fun _ h9 => h9) rfl dX1_setsThatEnd_14 ?_
        refine lv_iload_n hx hb dX1_setsThatEnd_17 rfl (lv_at hl 3 rfl) ?_
        refine lv_aload_n hx hb dX1_setsThatEnd_18 rfl (lv_at hl 0 rfl) ?_
        refine lv_iload_n hx hb dX1_setsThatEnd_19 rfl (lv_at hl 1 rfl) ?_
        refine lv_iload_n hx hb dX1_setsThatEnd_20 rfl (lv_at hl 3 rfl) ?_
        obtain ⟨o_2, ho_2, hf⟩ := ob_s hf
        refine xV_i (As := [.int x0, .int l3]) (b := a_this) (rest := [.int l3, .ref a_owners]) (ws2 := [(a_this, .inr (1, [.ref a_fight, .ref a_owners])), (a_fight, .inr (3, [.int i_fight_rounds, .int i_fight_home, .int i_fight_noise, .int i_fight_blowCount, .int i_fight_judgeCount, .ref a_fight_blows, .ref a_fight_judges, .ref a_fight_forward, .ref a_fight_downs, .ref a_fight_taken, .ref a_fight_seenBy, .ref a_fight_sums, .ref a_fight_leads])), (a_owners, .inl (X.2.1 0, 8, .inl f_owners)), (a_fight_downs, .inl (X.2.1 0, 24, .inl f_fight_downs)), (a_fight_judges, .inl (X.2.1 0, 56, .inl f_fight_judges)), (a_fight_leads, .inl (X.2.1 0, 96, .inl f_fight_leads)), (a_fight_taken, .inl (X.2.1 0, 24, .inl f_fight_taken))]) hx hb hml hts hown hG hA hP hD rfl hS hl.1 (qX1_cardBy l X a_this a_fight a_fight_downs a_fight_judges a_fight_leads a_fight_taken a_owners a_fight_blows a_fight_forward a_fight_seenBy a_fight_sums i_fight_rounds i_fight_home i_fight_noise i_fight_blowCount i_fight_judgeCount f_fight_downs f_fight_judges f_fight_leads f_fight_taken x0 l3 o_2 ho_2) (cwV (y := yX1_cardBy) 2 hts gX1_setsThatEnd_X1_cardBy rfl rfl rfl hdvX1_cardBy ⟨Nat.le_of_ble_eq_true rfl, Nat.le_of_ble_eq_true rfl⟩) [0, 1, 3, 4, 5, 6] [2] [1, 2, 0, 3, 4, 5, 6] rfl rfl rfl rfl rfl rfl rfl (ci := 1) rfl 0 rfl rfl rfl (Nat.le_of_ble_eq_true rfl) ⟨Nat.le_of_ble_eq_true rfl, Nat.le_of_ble_eq_true rfl⟩ dX1_setsThatEnd_21 (fun H locs hP _ hS => ?_)
        obtain ⟨o_4, ho_4, hf⟩ := ob_s hf
        refine xS_i (As := [.int o_2]) (rest := [.int l3, .ref a_owners]) (ws2 := [(a_this, .inr (1, [.ref a_fight, .ref a_owners])), (a_fight, .inr (3, [.int i_fight_rounds, .int i_fight_home, .int i_fight_noise, .int i_fight_blowCount, .int i_fight_judgeCount, .ref a_fight_blows, .ref a_fight_judges, .ref a_fight_forward, .ref a_fight_downs, .ref a_fight_taken, .ref a_fight_seenBy, .ref a_fight_sums, .ref a_fight_leads])), (a_owners, .inl (X.2.1 0, 8, .inl f_owners)), (a_fight_downs, .inl (X.2.1 0, 24, .inl f_fight_downs)), (a_fight_judges, .inl (X.2.1 0, 56, .inl f_fight_judges)), (a_fight_leads, .inl (X.2.1 0, 96, .inl f_fight_leads)), (a_fight_taken, .inl (X.2.1 0, 24, .inl f_fight_taken))]) hx hb hml hts hown hG hA hP hD rfl hS hl.1 (qX1_ownerOf l X o_2 o_4 ho_4) (va_cwS (y := yX1_ownerOf) 1 hts gX1_setsThatEnd_X1_ownerOf rfl rfl rfl hdsX1_ownerOf ⟨Nat.le_of_ble_eq_true rfl, Nat.le_of_ble_eq_true rfl⟩) [] [0, 1, 2, 3, 4, 5, 6] [0, 1, 2, 3, 4, 5, 6] rfl rfl rfl rfl rfl rfl rfl rfl rfl (Nat.le_of_ble_eq_true rfl) ⟨Nat.le_of_ble_eq_true rfl, Nat.le_of_ble_eq_true rfl⟩ dX1_setsThatEnd_24 (fun H locs hP _ hS => ?_)
        obtain ⟨h_6, hf⟩ := gi_s hf
        obtain ⟨g_7, eg_7, hf⟩ := lb_g hf
        refine x_iast (ws' := [(a_this, .inr (1, [.ref a_fight, .ref a_owners])), (a_fight, .inr (3, [.int i_fight_rounds, .int i_fight_home, .int i_fight_noise, .int i_fight_blowCount, .int i_fight_judgeCount, .ref a_fight_blows, .ref a_fight_judges, .ref a_fight_forward, .ref a_fight_downs, .ref a_fight_taken, .ref a_fight_seenBy, .ref a_fight_sums, .ref a_fight_leads])), (a_owners, .inl (X.2.1 0, 8, .inl g_7)), (a_fight_downs, .inl (X.2.1 0, 24, .inl f_fight_downs)), (a_fight_judges, .inl (X.2.1 0, 56, .inl f_fight_judges)), (a_fight_leads, .inl (X.2.1 0, 96, .inl f_fight_leads)), (a_fight_taken, .inl (X.2.1 0, 24, .inl f_fight_taken))]) hx hb hG hP hD rfl hS 2 rfl h_6 dX1_setsThatEnd_27 eg_7 rfl (fun H locs hP hS => ?_)
        obtain ⟨v_8, ev_8, hf⟩ := lb_g hf
        refine lv_iinc (v := v_8) (lv' := [(3, .int v_8), (0, .ref a_this), (1, .int x0), (2, .int x1)]) hx hb dX1_setsThatEnd_28 hl (k := 3) rfl ev_8.symm (by decide) rfl (fun ls hl => ?_)
        refine lv_goto (tgt := 2) hx hb dX1_setsThatEnd_31 (by decide) ?_
        exact ih v_8 g_7  H _ ls hP  hS (lv_sub hl [1, 2, 3, 0] rfl) hf
  unfold mX1_setsThatEnd at hf
  refine lv_iconst (v := (0 : Int32)) hx hb dX1_setsThatEnd_0 (by decide) ?_
  refine lv_istore_n (lv' := [(3, .int (0 : Int32)), (0, .ref a_this), (1, .int x0), (2, .int x1)]) hx hb dX1_setsThatEnd_1 rfl hl (by decide) rfl (fun ls hl => ?_)
  exact hL2  FUEL (0 : Int32) f_owners  H _ ls hP  hS (lv_sub hl [1, 2, 3, 0] rfl) hf
def mX1_judgesAgainstHardness_B16 (x0 : Int32) (i_fight_rounds : Int32) (i_fight_blowCount : Int32) (i_fight_judgeCount : Int32) (f_fight_blows : Nat → Int32) (f_fight_downs : Nat → Int32) (f_fight_judges : Nat → Int32) (f_fight_leads : Nat → Int32) (f_fight_taken : Nat → Int32) (k16 : Int32 → Int32 → Int32 → Option (Int32)) (l2 : Int32) (l3 : Int32) (l4 : Int32) :
  Option (Int32) :=
  if i_fight_judgeCount ≤ l4 then (some l3) else ((mX1_cardBy x0 l4 i_fight_rounds f_fight_downs f_fight_judges f_fight_leads f_fight_taken).bind fun o_6 =>
  (mX1_ownerOf o_6).bind fun o_8 =>
  if l2 = (2 : Int32) then (lb (l4 + (1 : Int32)) fun v_11 =>
  k16 l2 l3 v_11) else (if o_8 = (2 : Int32) then (lb (l4 + (1 : Int32)) fun v_13 =>
  k16 l2 l3 v_13) else (if o_8 = l2 then (lb (l4 + (1 : Int32)) fun v_15 =>
  k16 l2 l3 v_15) else (lb (l3 ||| ((1 : Int32) <<< (l4 &&& 31))) fun v_16 =>
  lb (l4 + (1 : Int32)) fun v_17 =>
  k16 l2 v_16 v_17))))
def mX1_judgesAgainstHardness_L16 (x0 : Int32) (i_fight_rounds : Int32) (i_fight_blowCount : Int32) (i_fight_judgeCount : Int32) (f_fight_blows : Nat → Int32) (f_fight_downs : Nat → Int32) (f_fight_judges : Nat → Int32) (f_fight_leads : Nat → Int32) (f_fight_taken : Nat → Int32) (n : Nat) (l2 : Int32) (l3 : Int32) (l4 : Int32) :
  Option (Int32) :=
  loopN (fun k (s : Int32 × Int32 × Int32) => mX1_judgesAgainstHardness_B16 x0 i_fight_rounds i_fight_blowCount i_fight_judgeCount f_fight_blows f_fight_downs f_fight_judges f_fight_leads f_fight_taken  (fun l2 l3 l4 => k (l2, l3, l4)) s.1 s.2.1 s.2.2) n (l2, l3, l4)
def mX1_judgesAgainstHardness (x0 : Int32) (i_fight_rounds : Int32) (i_fight_blowCount : Int32) (i_fight_judgeCount : Int32) (f_fight_blows : Nat → Int32) (f_fight_downs : Nat → Int32) (f_fight_judges : Nat → Int32) (f_fight_leads : Nat → Int32) (f_fight_taken : Nat → Int32) :
  Option (Int32) :=
  (mX3_hardnessFor i_fight_rounds i_fight_blowCount f_fight_blows).bind fun o_1 =>
  (mX1_ownerOf o_1).bind fun o_3 =>
  mX1_judgesAgainstHardness_L16 x0 i_fight_rounds i_fight_blowCount i_fight_judgeCount f_fight_blows f_fight_downs f_fight_judges f_fight_leads f_fight_taken  FUEL o_3 (0 : Int32) (0 : Int32)
theorem hdsX1_judgesAgainstHardness : yX1_judgesAgainstHardness.cls ≠ "java/lang/invoke/MethodHandle" ∧ yX1_judgesAgainstHardness.cls ≠ "java/lang/invoke/VarHandle" ∧ (parseMethodDescriptor yX1_judgesAgainstHardness.desc).map (fun d => d.parameters.length) = some 1 := by decide +kernel
theorem hdvX1_judgesAgainstHardness : yX1_judgesAgainstHardness.cls = RX1 ∧ yX1_judgesAgainstHardness.cls ≠ "java/lang/invoke/MethodHandle" ∧ yX1_judgesAgainstHardness.cls ≠ "java/lang/invoke/VarHandle" ∧ (parseMethodDescriptor yX1_judgesAgainstHardness.desc).map (fun d => d.parameters.length) = some 1 := by decide +kernel
abbrev rmX1_judgesAgainstHardness : Room := { frames := 4, cells := 0, slots := 0, locals := 94 }
set_option maxHeartbeats 4000000 in
set_option maxRecDepth 100000 in
theorem qX1_judgesAgainstHardness (l : Launch) (X : XT) (a_this : Nat) (a_fight : Nat) (a_fight_blows : Nat) (a_fight_downs : Nat) (a_fight_judges : Nat) (a_fight_leads : Nat) (a_fight_taken : Nat) (a_owners : Nat) (a_fight_forward : Nat) (a_fight_seenBy : Nat) (a_fight_sums : Nat)  (i_fight_rounds : Int32) (i_fight_home : Int32) (i_fight_noise : Int32) (i_fight_blowCount : Int32) (i_fight_judgeCount : Int32) (f_fight_blows : Nat → Int32) (f_fight_downs : Nat → Int32) (f_fight_judges : Nat → Int32) (f_fight_leads : Nat → Int32) (f_fight_taken : Nat → Int32) (x0 : Int32) (o : Int32) (hf : mX1_judgesAgainstHardness x0 i_fight_rounds i_fight_blowCount i_fight_judgeCount f_fight_blows f_fight_downs f_fight_judges f_fight_leads f_fight_taken = some o) :
    MI l yX1_judgesAgainstHardness wsX1_judgesAgainstHardness rmX1_judgesAgainstHardness X [.ref a_this, .int x0] [(a_this, .inr (1, [.ref a_fight, .ref a_owners])), (a_fight, .inr (3, [.int i_fight_rounds, .int i_fight_home, .int i_fight_noise, .int i_fight_blowCount, .int i_fight_judgeCount, .ref a_fight_blows, .ref a_fight_judges, .ref a_fight_forward, .ref a_fight_downs, .ref a_fight_taken, .ref a_fight_seenBy, .ref a_fight_sums, .ref a_fight_leads])), (a_fight_blows, .inl (X.2.1 0, 200, .inl f_fight_blows)), (a_fight_downs, .inl (X.2.1 0, 24, .inl f_fight_downs)), (a_fight_judges, .inl (X.2.1 0, 56, .inl f_fight_judges)), (a_fight_leads, .inl (X.2.1 0, 96, .inl f_fight_leads)), (a_fight_taken, .inl (X.2.1 0, 24, .inl f_fight_taken))]  [(a_this, .inr (1, [.ref a_fight, .ref a_owners])), (a_fight, .inr (3, [.int i_fight_rounds, .int i_fight_home, .int i_fight_noise, .int i_fight_blowCount, .int i_fight_judgeCount, .ref a_fight_blows, .ref a_fight_judges, .ref a_fight_forward, .ref a_fight_downs, .ref a_fight_taken, .ref a_fight_seenBy, .ref a_fight_sums, .ref a_fight_leads])), (a_fight_blows, .inl (X.2.1 0, 200, .inl f_fight_blows)), (a_fight_downs, .inl (X.2.1 0, 24, .inl f_fight_downs)), (a_fight_judges, .inl (X.2.1 0, 56, .inl f_fight_judges)), (a_fight_leads, .inl (X.2.1 0, 96, .inl f_fight_leads)), (a_fight_taken, .inl (X.2.1 0, 24, .inl f_fight_taken))] o := by
  refine MI_ofH (cc := cX1_judgesAgainstHardness) (maxL := 6) (rt := .int) (by decide) rfl (Nat.le_of_ble_eq_true rfl) ?_
  intro p e s m below meth c A Q H ls hx hb hml hts hown hA hD hG hP hS hl ret
  have hown : s.vm.findClass RX1 = some m.cls := hown
  have hD : aD A [a_this, a_fight, a_fight_blows, a_fight_downs, a_fight_judges, a_fight_leads, a_fight_taken] := hD
  have hl : lv_has ls 6 [(0, .ref a_this), (1, .int x0)] := hl
  have w1 := hts (Cond.fieldLink RX1 17 "ThreeCards$Cards" "fight" "LThreeCards$Fight;") (List.mem_of_getElem? (i := 1) rfl)
  have in1 : ∀ w ∈ u_ws RX1 TX1 2, w ∈ wsX1_judgesAgainstHardness := by decide +kernel
  have in3 : ∀ w ∈ u_ws RX3 TX3 13, w ∈ wsX1_judgesAgainstHardness := by decide +kernel
  have hL16 : ∀ (n : Nat) (l2 : Int32) (l3 : Int32) (l4 : Int32)  (H : Heap) (locs : List Loc) (ls : Array Slot), va_P X.1 vwCl [(a_this, .inr (1, [.ref a_fight, .ref a_owners])), (a_fight, .inr (3, [.int i_fight_rounds, .int i_fight_home, .int i_fight_noise, .int i_fight_blowCount, .int i_fight_judgeCount, .ref a_fight_blows, .ref a_fight_judges, .ref a_fight_forward, .ref a_fight_downs, .ref a_fight_taken, .ref a_fight_seenBy, .ref a_fight_sums, .ref a_fight_leads])), (a_fight_blows, .inl (X.2.1 0, 200, .inl f_fight_blows)), (a_fight_downs, .inl (X.2.1 0, 24, .inl f_fight_downs)), (a_fight_judges, .inl (X.2.1 0, 56, .inl f_fight_judges)), (a_fight_leads, .inl (X.2.1 0, 96, .inl f_fight_leads)), (a_fight_taken, .inl (X.2.1 0, 24, .inl f_fight_taken))] H → va_S A s.heap H locs → lv_has ls 6 [(0, .ref a_this), (1, .int x0), (2, .int l2), (3, .int l3), (4, .int l4)] → mX1_judgesAgainstHardness_L16 x0 i_fight_rounds i_fight_blowCount i_fight_judgeCount f_fight_blows f_fight_downs f_fight_judges f_fight_leads f_fight_taken  n l2 l3 l4 = some o → W p l e rmX1_judgesAgainstHardness s m ([.ref a_this, .int x0] : List Value).toArray below meth c H locs 0 0 Q (F0 m 16 ls []) := by
    intro n
    induction n with
    | zero => intro l2 l3 l4  H locs ls hP hS hl hf; exact xn hf
    | succ n ih =>
      intro l2 l3 l4  H locs ls hP hS hl hf
      have hf : mX1_judgesAgainstHardness_B16 x0 i_fight_rounds i_fight_blowCount i_fight_judgeCount f_fight_blows f_fight_downs f_fight_judges f_fight_leads f_fight_taken  (mX1_judgesAgainstHardness_L16 x0 i_fight_rounds i_fight_blowCount i_fight_judgeCount f_fight_blows f_fight_downs f_fight_judges f_fight_leads f_fight_taken  n) l2 l3 l4 = some o := hf
      generalize mX1_judgesAgainstHardness_L16 x0 i_fight_rounds i_fight_blowCount i_fight_judgeCount f_fight_blows f_fight_downs f_fight_judges f_fight_leads f_fight_taken  n = k16 at ih hf
      unfold mX1_judgesAgainstHardness_B16 at hf
      refine lv_iload hx hb dX1_judgesAgainstHardness_16 (lv_at hl 4 rfl) ?_
      refine lv_aload_n hx hb dX1_judgesAgainstHardness_18 rfl (lv_at hl 0 rfl) ?_
      refine va_get (D := X.1) (ci := 1) (v := .ref a_fight) (C := RX1) (T := TX1) (N := 2) hx hb hts in1 hown hG.1 hP 0 rfl rfl 0 (by decide) w1 (fun _ h9 => h9) rfl dX1_judgesAgainstHardness_19 ?_
      refine va_getN (D := X.1) (ci := 3) (v := .int i_fight_judgeCount) (C := RX3) (T := TX3) (N := 13) hx hb hts in3 hown hG.1 hP 1 rfl rfl 4 (by decide) (va_Nw.use rfl (nf10 hG.2.1)) (fun _ h9 => h9) rfl dX1_judgesAgainstHardness_22 ?_
      refine lv_icmp_ge (tgt := 70) hx hb dX1_judgesAgainstHardness_25 (by decide) (fun c_5 => ?_) (fun c_5 => ?_)
      · have hf := xt hf c_5
        refine lv_iload_n hx hb dX1_judgesAgainstHardness_70 rfl (lv_at hl 3 rfl) ?_
        obtain rfl := Option.some.inj hf
        exact ret H _ ls _ rfl hP hD hS dX1_judgesAgainstHardness_71
      · have hf := xf hf c_5
        refine lv_aload_n hx hb dX1_judgesAgainstHardness_28 rfl (lv_at hl 0 rfl) ?_
        refine lv_iload_n hx hb dX1_judgesAgainstHardness_29 rfl (lv_at hl 1 rfl) ?_
        refine lv_iload hx hb dX1_judgesAgainstHardness_30 (lv_at hl 4 rfl) ?_
        obtain ⟨o_6, ho_6, hf⟩ := ob_s hf
        refine xV_i (As := [.int x0, .int l4]) (b := a_this) (rest := []) (ws2 := [(a_this, .inr (1, [.ref a_fight, .ref a_owners])), (a_fight, .inr (3, [.int i_fight_rounds, .int i_fight_home, .int i_fight_noise, .int i_fight_blowCount, .int i_fight_judgeCount, .ref a_fight_blows, .ref a_fight_judges, .ref a_fight_forward, .ref a_fight_downs, .ref a_fight_taken, .ref a_fight_seenBy, .ref a_fight_sums, .ref a_fight_leads])), (a_fight_blows, .inl (X.2.1 0, 200, .inl f_fight_blows)), (a_fight_downs, .inl (X.2.1 0, 24, .inl f_fight_downs)), (a_fight_judges, .inl (X.2.1 0, 56, .inl f_fight_judges)), (a_fight_leads, .inl (X.2.1 0, 96, .inl f_fight_leads)), (a_fight_taken, .inl (X.2.1 0, 24, .inl f_fight_taken))]) hx hb hml hts hown hG hA hP hD rfl hS hl.1 (qX1_cardBy l X a_this a_fight a_fight_downs a_fight_judges a_fight_leads a_fight_taken a_owners a_fight_blows a_fight_forward a_fight_seenBy a_fight_sums i_fight_rounds i_fight_home i_fight_noise i_fight_blowCount i_fight_judgeCount f_fight_downs f_fight_judges f_fight_leads f_fight_taken x0 l4 o_6 ho_6) (cwV (y := yX1_cardBy) 2 hts gX1_judgesAgainstHardness_X1_cardBy rfl rfl rfl hdvX1_cardBy ⟨Nat.le_of_ble_eq_true rfl, Nat.le_of_ble_eq_true rfl⟩) [0, 1, 3, 4, 5, 6] [2] [1, 2, 0, 3, 4, 5, 6] rfl rfl rfl rfl rfl rfl rfl (ci := 1) rfl 0 rfl rfl rfl (Nat.le_of_ble_eq_true rfl) ⟨Nat.le_of_ble_eq_true rfl, Nat.le_of_ble_eq_true rfl⟩ dX1_judgesAgainstHardness_32 (fun H locs hP _ hS => ?_)
        obtain ⟨o_8, ho_8, hf⟩ := ob_s hf
        refine xS_i (As := [.int o_6]) (rest := []) (ws2 := [(a_this, .inr (1, [.ref a_fight, .ref a_owners])), (a_fight, .inr (3, [.int i_fight_rounds, .int i_fight_home, .int i_fight_noise, .int i_fight_blowCount, .int i_fight_judgeCount, .ref a_fight_blows, .ref a_fight_judges, .ref a_fight_forward, .ref a_fight_downs, .ref a_fight_taken, .ref a_fight_seenBy, .ref a_fight_sums, .ref a_fight_leads])), (a_fight_blows, .inl (X.2.1 0, 200, .inl f_fight_blows)), (a_fight_downs, .inl (X.2.1 0, 24, .inl f_fight_downs)), (a_fight_judges, .inl (X.2.1 0, 56, .inl f_fight_judges)), (a_fight_leads, .inl (X.2.1 0, 96, .inl f_fight_leads)), (a_fight_taken, .inl (X.2.1 0, 24, .inl f_fight_taken))]) hx hb hml hts hown hG hA hP hD rfl hS hl.1 (qX1_ownerOf l X o_6 o_8 ho_8) (va_cwS (y := yX1_ownerOf) 1 hts gX1_judgesAgainstHardness_X1_ownerOf rfl rfl rfl hdsX1_ownerOf ⟨Nat.le_of_ble_eq_true rfl, Nat.le_of_ble_eq_true rfl⟩) [] [0, 1, 2, 3, 4, 5, 6] [0, 1, 2, 3, 4, 5, 6] rfl rfl rfl rfl rfl rfl rfl rfl rfl (Nat.le_of_ble_eq_true rfl) ⟨Nat.le_of_ble_eq_true rfl, Nat.le_of_ble_eq_true rfl⟩ dX1_judgesAgainstHardness_35 (fun H locs hP _ hS => ?_)
        refine lv_istore (lv' := [(5, .int o_8), (0, .ref a_this), (1, .int x0), (2, .int l2), (3, .int l3), (4, .int l4)]) hx hb dX1_judgesAgainstHardness_38 hl (by decide) rfl (fun ls hl => ?_)
        refine lv_iload_n hx hb dX1_judgesAgainstHardness_40 rfl (lv_at hl 3 rfl) ?_
        refine lv_iconst (v := (2 : Int32)) hx hb dX1_judgesAgainstHardness_41 (by decide) ?_
        refine lv_icmp_eq (tgt := 64) hx hb dX1_judgesAgainstHardness_42 (by decide) (fun c_10 => ?_) (fun c_10 => ?_)
        · have hf := xt hf c_10
          obtain ⟨v_11, ev_11, hf⟩ := lb_g hf
          refine lv_iinc (v := v_11) (lv' := [(4, .int v_11), (5, .int o_8), (0, .ref a_this), (1, .int x0), (2, .int l2), (3, .int l3)]) hx hb dX1_judgesAgainstHardness_64 hl (k := 5) rfl ev_11.symm (by decide) rfl (fun ls hl => ?_)
          refine lv_goto (tgt := 16) hx hb dX1_judgesAgainstHardness_67 (by decide) ?_
          exact ih l2 l3 v_11  H _ ls hP  hS (lv_sub hl [2, 3, 4, 5, 0] rfl) hf
        · have hf := xf hf c_10
          refine lv_iload hx hb dX1_judgesAgainstHardness_45 (lv_at hl 0 rfl) ?_
          refine lv_iconst (v := (2 : Int32)) hx hb dX1_judgesAgainstHardness_47 (by decide) ?_
          refine lv_icmp_eq (tgt := 64) hx hb dX1_judgesAgainstHardness_48 (by decide) (fun c_12 => ?_) (fun c_12 => ?_)
          · have hf := xt hf c_12
            obtain ⟨v_13, ev_13, hf⟩ := lb_g hf
            refine lv_iinc (v := v_13) (lv' := [(4, .int v_13), (5, .int o_8), (0, .ref a_this), (1, .int x0), (2, .int l2), (3, .int l3)]) hx hb dX1_judgesAgainstHardness_64 hl (k := 5) rfl ev_13.symm (by decide) rfl (fun ls hl => ?_)
            refine lv_goto (tgt := 16) hx hb dX1_judgesAgainstHardness_67 (by decide) ?_
            exact ih l2 l3 v_13  H _ ls hP  hS (lv_sub hl [2, 3, 4, 5, 0] rfl) hf
          · have hf := xf hf c_12
            refine lv_iload hx hb dX1_judgesAgainstHardness_51 (lv_at hl 0 rfl) ?_
            refine lv_iload_n hx hb dX1_judgesAgainstHardness_53 rfl (lv_at hl 3 rfl) ?_
            refine lv_icmp_eq (tgt := 64) hx hb dX1_judgesAgainstHardness_54 (by decide) (fun c_14 => ?_) (fun c_14 => ?_)
            · have hf := xt hf c_14
              obtain ⟨v_15, ev_15, hf⟩ := lb_g hf
              refine lv_iinc (v := v_15) (lv' := [(4, .int v_15), (5, .int o_8), (0, .ref a_this), (1, .int x0), (2, .int l2), (3, .int l3)]) hx hb dX1_judgesAgainstHardness_64 hl (k := 5) rfl ev_15.symm (by decide) rfl (fun ls hl => ?_)
              refine lv_goto (tgt := 16) hx hb dX1_judgesAgainstHardness_67 (by decide) ?_
              exact ih l2 l3 v_15  H _ ls hP  hS (lv_sub hl [2, 3, 4, 5, 0] rfl) hf
            · have hf := xf hf c_14
              refine lv_iload_n hx hb dX1_judgesAgainstHardness_57 rfl (lv_at hl 4 rfl) ?_
              refine lv_iconst (v := (1 : Int32)) hx hb dX1_judgesAgainstHardness_58 (by decide) ?_
              refine lv_iload hx hb dX1_judgesAgainstHardness_59 (lv_at hl 5 rfl) ?_
              refine lv_ishl hx hb dX1_judgesAgainstHardness_61 ?_
              refine lv_ior hx hb dX1_judgesAgainstHardness_62 ?_
              refine lv_topi (fun v_16 ev_16 => ?_)
              have hf := lb_s hf ev_16
              refine lv_istore_n (lv' := [(3, .int v_16), (5, .int o_8), (0, .ref a_this), (1, .int x0), (2, .int l2), (4, .int l4)]) hx hb dX1_judgesAgainstHardness_63 rfl hl (by decide) rfl (fun ls hl => ?_)
              obtain ⟨v_17, ev_17, hf⟩ := lb_g hf
              refine lv_iinc (v := v_17) (lv' := [(4, .int v_17), (3, .int v_16), (5, .int o_8), (0, .ref a_this), (1, .int x0), (2, .int l2)]) hx hb dX1_judgesAgainstHardness_64 hl (k := 5) rfl ev_17.symm (by decide) rfl (fun ls hl => ?_)
              refine lv_goto (tgt := 16) hx hb dX1_judgesAgainstHardness_67 (by decide) ?_
              exact ih l2 v_16 v_17  H _ ls hP  hS (lv_sub hl [3, 4, 5, 1, 0] rfl) hf
  unfold mX1_judgesAgainstHardness at hf
  refine lv_aload_n hx hb dX1_judgesAgainstHardness_0 rfl (lv_at hl 0 rfl) ?_
  refine va_get (D := X.1) (ci := 1) (v := .ref a_fight) (C := RX1) (T := TX1) (N := 2) hx hb hts in1 hown hG.1 hP 0 rfl rfl 0 (by decide) w1 (fun _ h9 => h9) rfl dX1_judgesAgainstHardness_1 ?_
  obtain ⟨o_1, ho_1, hf⟩ := ob_s hf
  refine xV_i (As := []) (b := a_fight) (rest := []) (ws2 := [(a_this, .inr (1, [.ref a_fight, .ref a_owners])), (a_fight, .inr (3, [.int i_fight_rounds, .int i_fight_home, .int i_fight_noise, .int i_fight_blowCount, .int i_fight_judgeCount, .ref a_fight_blows, .ref a_fight_judges, .ref a_fight_forward, .ref a_fight_downs, .ref a_fight_taken, .ref a_fight_seenBy, .ref a_fight_sums, .ref a_fight_leads])), (a_fight_blows, .inl (X.2.1 0, 200, .inl f_fight_blows)), (a_fight_downs, .inl (X.2.1 0, 24, .inl f_fight_downs)), (a_fight_judges, .inl (X.2.1 0, 56, .inl f_fight_judges)), (a_fight_leads, .inl (X.2.1 0, 96, .inl f_fight_leads)), (a_fight_taken, .inl (X.2.1 0, 24, .inl f_fight_taken))]) hx hb hml hts hown hG hA hP hD rfl hS hl.1 (qX3_hardnessFor l X a_fight a_fight_blows a_fight_judges a_fight_forward a_fight_downs a_fight_taken a_fight_seenBy a_fight_sums a_fight_leads i_fight_rounds i_fight_home i_fight_noise i_fight_blowCount i_fight_judgeCount f_fight_blows o_1 ho_1) (cwV (y := yX3_hardnessFor) 0 hts gX1_judgesAgainstHardness_X3_hardnessFor rfl rfl rfl hdvX3_hardnessFor ⟨Nat.le_of_ble_eq_true rfl, Nat.le_of_ble_eq_true rfl⟩) [1, 2] [0, 3, 4, 5, 6] [0, 5, 6, 1, 2, 3, 4] rfl rfl rfl rfl rfl rfl rfl (ci := 3) rfl 1 rfl rfl rfl (Nat.le_of_ble_eq_true rfl) ⟨Nat.le_of_ble_eq_true rfl, Nat.le_of_ble_eq_true rfl⟩ dX1_judgesAgainstHardness_4 (fun H locs hP _ hS => ?_)
  obtain ⟨o_3, ho_3, hf⟩ := ob_s hf
  refine xS_i (As := [.int o_1]) (rest := []) (ws2 := [(a_this, .inr (1, [.ref a_fight, .ref a_owners])), (a_fight, .inr (3, [.int i_fight_rounds, .int i_fight_home, .int i_fight_noise, .int i_fight_blowCount, .int i_fight_judgeCount, .ref a_fight_blows, .ref a_fight_judges, .ref a_fight_forward, .ref a_fight_downs, .ref a_fight_taken, .ref a_fight_seenBy, .ref a_fight_sums, .ref a_fight_leads])), (a_fight_blows, .inl (X.2.1 0, 200, .inl f_fight_blows)), (a_fight_downs, .inl (X.2.1 0, 24, .inl f_fight_downs)), (a_fight_judges, .inl (X.2.1 0, 56, .inl f_fight_judges)), (a_fight_leads, .inl (X.2.1 0, 96, .inl f_fight_leads)), (a_fight_taken, .inl (X.2.1 0, 24, .inl f_fight_taken))]) hx hb hml hts hown hG hA hP hD rfl hS hl.1 (qX1_ownerOf l X o_1 o_3 ho_3) (va_cwS (y := yX1_ownerOf) 1 hts gX1_judgesAgainstHardness_X1_ownerOf rfl rfl rfl hdsX1_ownerOf ⟨Nat.le_of_ble_eq_true rfl, Nat.le_of_ble_eq_true rfl⟩) [] [0, 1, 2, 3, 4, 5, 6] [0, 1, 2, 3, 4, 5, 6] rfl rfl rfl rfl rfl rfl rfl rfl rfl (Nat.le_of_ble_eq_true rfl) ⟨Nat.le_of_ble_eq_true rfl, Nat.le_of_ble_eq_true rfl⟩ dX1_judgesAgainstHardness_7 (fun H locs hP _ hS => ?_)
  refine lv_istore_n (lv' := [(2, .int o_3), (0, .ref a_this), (1, .int x0)]) hx hb dX1_judgesAgainstHardness_10 rfl hl (by decide) rfl (fun ls hl => ?_)
  refine lv_iconst (v := (0 : Int32)) hx hb dX1_judgesAgainstHardness_11 (by decide) ?_
  refine lv_istore_n (lv' := [(3, .int (0 : Int32)), (2, .int o_3), (0, .ref a_this), (1, .int x0)]) hx hb dX1_judgesAgainstHardness_12 rfl hl (by decide) rfl (fun ls hl => ?_)
  refine lv_iconst (v := (0 : Int32)) hx hb dX1_judgesAgainstHardness_13 (by decide) ?_
  refine lv_istore (lv' := [(4, .int (0 : Int32)), (3, .int (0 : Int32)), (2, .int o_3), (0, .ref a_this), (1, .int x0)]) hx hb dX1_judgesAgainstHardness_14 hl (by decide) rfl (fun ls hl => ?_)
  exact hL16  FUEL o_3 (0 : Int32) (0 : Int32)  H _ ls hP  hS (lv_sub hl [3, 4, 2, 1, 0] rfl) hf
def mX2_tossOne_B86 (x0 : Int32) (x1 : Int32) (x2 : Int32) (i_fight_rounds : Int32) (f_fight_downs : Nat → Int32) (f_fight_judges : Nat → Int32) (f_fight_leads : Nat → Int32) (f_fight_taken : Nat → Int32) (k86 : Int32 → Int32 → Int32 → Int64 → Int32 → Int32 → (Nat → Int64) → Option (Int32 × (Nat → Int64))) (l4 : Int32) (l5 : Int32) (l6 : Int32) (l7 : Int64) (l9 : Int32) (i_howMany : Int32) (f_ways : Nat → Int64) :
  Option (Int32 × (Nat → Int64)) :=
  if l4 < l9 then (some (i_howMany, f_ways)) else (lb (l5 + (l6 * (((2 : Int32) * l9) - l4))) fun v_14 =>
  (mX1_ownerOf v_14).bind fun o_15 =>
  lb (x2 + o_15) fun v_17 =>
  gi v_17 9 <|
  gi v_17 9 <|
  lb (vp_updL f_ways v_17.toNatClampNeg ((f_ways v_17.toNatClampNeg) + l7)) fun g_20 =>
  gd (¬ (Int32.toInt64 (l9 + (1 : Int32))) = 0) <|
  lb ((l7 * (Int32.toInt64 (l4 - l9))) / (Int32.toInt64 (l9 + (1 : Int32)))) fun v_22 =>
  lb (l9 + (1 : Int32)) fun v_23 =>
  k86 l4 l5 l6 v_22 v_23 i_howMany g_20)
def mX2_tossOne_L86 (x0 : Int32) (x1 : Int32) (x2 : Int32) (i_fight_rounds : Int32) (f_fight_downs : Nat → Int32) (f_fight_judges : Nat → Int32) (f_fight_leads : Nat → Int32) (f_fight_taken : Nat → Int32) (n : Nat) (l4 : Int32) (l5 : Int32) (l6 : Int32) (l7 : Int64) (l9 : Int32) (i_howMany : Int32) (f_ways : Nat → Int64) :
  Option (Int32 × (Nat → Int64)) :=
  loopN (fun k (s : Int32 × Int32 × Int32 × Int64 × Int32 × Int32 × (Nat → Int64)) => mX2_tossOne_B86 x0 x1 x2 i_fight_rounds f_fight_downs f_fight_judges f_fight_leads f_fight_taken  (fun l4 l5 l6 l7 l9 i_howMany f_ways => k (l4, l5, l6, l7, l9, i_howMany, f_ways)) s.1 s.2.1 s.2.2.1 s.2.2.2.1 s.2.2.2.2.1 s.2.2.2.2.2.1 s.2.2.2.2.2.2) n (l4, l5, l6, l7, l9, i_howMany, f_ways)
def mX2_tossOne_B6 (x0 : Int32) (x1 : Int32) (x2 : Int32) (i_fight_rounds : Int32) (f_fight_downs : Nat → Int32) (f_fight_judges : Nat → Int32) (f_fight_leads : Nat → Int32) (f_fight_taken : Nat → Int32) (k6 : Int32 → Int32 → Int32 → (Nat → Int64) → Option (Int32 × (Nat → Int64))) (l4 : Int32) (l5 : Int32) (i_howMany : Int32) (f_ways : Nat → Int64) :
  Option (Int32 × (Nat → Int64)) :=
  if i_fight_rounds ≤ l5 then (lb (i_howMany + l4) fun v_2 =>
  (mX1_cardBy (2 : Int32) x1 i_fight_rounds f_fight_downs f_fight_judges f_fight_leads f_fight_taken).bind fun o_3 =>
  if x0 = 0 then (mX2_tossOne_L86 x0 x1 x2 i_fight_rounds f_fight_downs f_fight_judges f_fight_leads f_fight_taken  FUEL l4 o_3 (2 : Int32) (1 : Int64) (0 : Int32) v_2 f_ways) else (mX2_tossOne_L86 x0 x1 x2 i_fight_rounds f_fight_downs f_fight_judges f_fight_leads f_fight_taken  FUEL l4 o_3 (1 : Int32) (1 : Int64) (0 : Int32) v_2 f_ways)) else ((mX3_isClose x1 l5 f_fight_judges f_fight_leads).bind fun o_6 =>
  if o_6 = 0 then (lb (l4 + (0 : Int32)) fun v_9 =>
  lb (l5 + (1 : Int32)) fun v_10 =>
  k6 v_9 v_10 i_howMany f_ways) else (lb (l4 + (1 : Int32)) fun v_11 =>
  lb (l5 + (1 : Int32)) fun v_12 =>
  k6 v_11 v_12 i_howMany f_ways))
def mX2_tossOne_L6 (x0 : Int32) (x1 : Int32) (x2 : Int32) (i_fight_rounds : Int32) (f_fight_downs : Nat → Int32) (f_fight_judges : Nat → Int32) (f_fight_leads : Nat → Int32) (f_fight_taken : Nat → Int32) (n : Nat) (l4 : Int32) (l5 : Int32) (i_howMany : Int32) (f_ways : Nat → Int64) :
  Option (Int32 × (Nat → Int64)) :=
  loopN (fun k (s : Int32 × Int32 × Int32 × (Nat → Int64)) => mX2_tossOne_B6 x0 x1 x2 i_fight_rounds f_fight_downs f_fight_judges f_fight_leads f_fight_taken  (fun l4 l5 i_howMany f_ways => k (l4, l5, i_howMany, f_ways)) s.1 s.2.1 s.2.2.1 s.2.2.2) n (l4, l5, i_howMany, f_ways)
def mX2_tossOne (x0 : Int32) (x1 : Int32) (x2 : Int32) (i_howMany : Int32) (i_fight_rounds : Int32) (f_ways : Nat → Int64) (f_fight_downs : Nat → Int32) (f_fight_judges : Nat → Int32) (f_fight_leads : Nat → Int32) (f_fight_taken : Nat → Int32) :
  Option (Int32 × (Nat → Int64)) :=
  mX2_tossOne_L6 x0 x1 x2 i_fight_rounds f_fight_downs f_fight_judges f_fight_leads f_fight_taken  FUEL (0 : Int32) (0 : Int32) i_howMany f_ways
theorem hdsX2_tossOne : yX2_tossOne.cls ≠ "java/lang/invoke/MethodHandle" ∧ yX2_tossOne.cls ≠ "java/lang/invoke/VarHandle" ∧ (parseMethodDescriptor yX2_tossOne.desc).map (fun d => d.parameters.length) = some 3 := by decide +kernel
theorem hdvX2_tossOne : yX2_tossOne.cls = RX2 ∧ yX2_tossOne.cls ≠ "java/lang/invoke/MethodHandle" ∧ yX2_tossOne.cls ≠ "java/lang/invoke/VarHandle" ∧ (parseMethodDescriptor yX2_tossOne.desc).map (fun d => d.parameters.length) = some 3 := by decide +kernel
abbrev rmX2_tossOne : Room := { frames := 4, cells := 0, slots := 0, locals := 94 }
set_option maxHeartbeats 4000000 in
set_option maxRecDepth 100000 in
theorem qX2_tossOne (l : Launch) (X : XT) (a_this : Nat) (a_cards : Nat) (a_fight : Nat) (a_ways : Nat) (a_fight_downs : Nat) (a_fight_judges : Nat) (a_fight_leads : Nat) (a_fight_taken : Nat) (a_cards_owners : Nat) (a_fight_blows : Nat) (a_fight_forward : Nat) (a_fight_seenBy : Nat) (a_fight_sums : Nat)  (i_howMany : Int32) (i_fight_rounds : Int32) (i_fight_home : Int32) (i_fight_noise : Int32) (i_fight_blowCount : Int32) (i_fight_judgeCount : Int32) (f_ways : Nat → Int64) (f_fight_downs : Nat → Int32) (f_fight_judges : Nat → Int32) (f_fight_leads : Nat → Int32) (f_fight_taken : Nat → Int32) (x0 : Int32) (x1 : Int32) (x2 : Int32) (o : Int32 × (Nat → Int64)) (hf : mX2_tossOne x0 x1 x2 i_howMany i_fight_rounds f_ways f_fight_downs f_fight_judges f_fight_leads f_fight_taken = some o) :
    MC l yX2_tossOne wsX2_tossOne rmX2_tossOne X [.ref a_this, .int x0, .int x1, .int x2] [(a_this, .inr (2, [.ref a_fight, .ref a_cards, .ref a_ways, .int i_howMany])), (a_cards, .inr (1, [.ref a_fight, .ref a_cards_owners])), (a_fight, .inr (3, [.int i_fight_rounds, .int i_fight_home, .int i_fight_noise, .int i_fight_blowCount, .int i_fight_judgeCount, .ref a_fight_blows, .ref a_fight_judges, .ref a_fight_forward, .ref a_fight_downs, .ref a_fight_taken, .ref a_fight_seenBy, .ref a_fight_sums, .ref a_fight_leads])), (a_ways, .inl (X.2.1 1, 9, .inr (.inl f_ways))), (a_fight_downs, .inl (X.2.1 0, 24, .inl f_fight_downs)), (a_fight_judges, .inl (X.2.1 0, 56, .inl f_fight_judges)), (a_fight_leads, .inl (X.2.1 0, 96, .inl f_fight_leads)), (a_fight_taken, .inl (X.2.1 0, 24, .inl f_fight_taken))]  (fun _ => [(a_this, .inr (2, [.ref a_fight, .ref a_cards, .ref a_ways, .int o.1])), (a_cards, .inr (1, [.ref a_fight, .ref a_cards_owners])), (a_fight, .inr (3, [.int i_fight_rounds, .int i_fight_home, .int i_fight_noise, .int i_fight_blowCount, .int i_fight_judgeCount, .ref a_fight_blows, .ref a_fight_judges, .ref a_fight_forward, .ref a_fight_downs, .ref a_fight_taken, .ref a_fight_seenBy, .ref a_fight_sums, .ref a_fight_leads])), (a_ways, .inl (X.2.1 1, 9, .inr (.inl o.2))), (a_fight_downs, .inl (X.2.1 0, 24, .inl f_fight_downs)), (a_fight_judges, .inl (X.2.1 0, 56, .inl f_fight_judges)), (a_fight_leads, .inl (X.2.1 0, 96, .inl f_fight_leads)), (a_fight_taken, .inl (X.2.1 0, 24, .inl f_fight_taken))]) 0 0 := by
  refine MC_ofH (cc := cX2_tossOne) (maxL := 11) (by decide) rfl (Nat.le_of_ble_eq_true rfl) ?_
  intro p e s m below meth c A Q H ls hx hb hml hts hown hin hA hD hG hP hS hl ret
  have hown : s.vm.findClass RX2 = some m.cls := hown
  have hD : aD A [a_this, a_cards, a_fight, a_ways, a_fight_downs, a_fight_judges, a_fight_leads, a_fight_taken] := hD
  have hl : lv_has ls 11 [(0, .ref a_this), (1, .int x0), (2, .int x1), (3, .int x2)] := hl
  have w1 := hts (Cond.fieldLink RX2 19 "ThreeCards$Coins" "fight" "LThreeCards$Fight;") (List.mem_of_getElem? (i := 1) rfl)
  have w2 := hts (Cond.fieldLink RX2 15 "ThreeCards$Coins" "howMany" "I") (List.mem_of_getElem? (i := 2) rfl)
  have w3 := hts (Cond.fieldLink RX2 23 "ThreeCards$Coins" "cards" "LThreeCards$Cards;") (List.mem_of_getElem? (i := 3) rfl)
  have w4 := hts (Cond.fieldLink RX2 9 "ThreeCards$Coins" "ways" "[J") (List.mem_of_getElem? (i := 4) rfl)
  have in2 : ∀ w ∈ u_ws RX2 TX2 4, w ∈ wsX2_tossOne := by decide +kernel
  have in3 : ∀ w ∈ u_ws RX3 TX3 13, w ∈ wsX2_tossOne := by decide +kernel
  have hL86 : ∀ (n : Nat) (l4 : Int32) (l5 : Int32) (l6 : Int32) (l7 : Int64) (l9 : Int32) (i_howMany : Int32) (f_ways : Nat → Int64)  (H : Heap) (locs : List Loc) (ls : Array Slot), va_P X.1 vwCl [(a_this, .inr (2, [.ref a_fight, .ref a_cards, .ref a_ways, .int i_howMany])), (a_cards, .inr (1, [.ref a_fight, .ref a_cards_owners])), (a_fight, .inr (3, [.int i_fight_rounds, .int i_fight_home, .int i_fight_noise, .int i_fight_blowCount, .int i_fight_judgeCount, .ref a_fight_blows, .ref a_fight_judges, .ref a_fight_forward, .ref a_fight_downs, .ref a_fight_taken, .ref a_fight_seenBy, .ref a_fight_sums, .ref a_fight_leads])), (a_ways, .inl (X.2.1 1, 9, .inr (.inl f_ways))), (a_fight_downs, .inl (X.2.1 0, 24, .inl f_fight_downs)), (a_fight_judges, .inl (X.2.1 0, 56, .inl f_fight_judges)), (a_fight_leads, .inl (X.2.1 0, 96, .inl f_fight_leads)), (a_fight_taken, .inl (X.2.1 0, 24, .inl f_fight_taken))] H → va_S A s.heap H locs → lv_has ls 11 [(0, .ref a_this), (3, .int x2), (4, .int l4), (5, .int l5), (6, .int l6), (7, .long l7), (9, .int l9)] → mX2_tossOne_L86 x0 x1 x2 i_fight_rounds f_fight_downs f_fight_judges f_fight_leads f_fight_taken  n l4 l5 l6 l7 l9 i_howMany f_ways = some o → W p l e rmX2_tossOne s m ([.ref a_this, .int x0, .int x1, .int x2] : List Value).toArray below meth c H locs 0 0 Q (F0 m 86 ls []) := by
    intro n
    induction n with
    | zero => intro l4 l5 l6 l7 l9 i_howMany f_ways  H locs ls hP hS hl hf; exact xn hf
    | succ n ih =>
      intro l4 l5 l6 l7 l9 i_howMany f_ways  H locs ls hP hS hl hf
      have hf : mX2_tossOne_B86 x0 x1 x2 i_fight_rounds f_fight_downs f_fight_judges f_fight_leads f_fight_taken  (mX2_tossOne_L86 x0 x1 x2 i_fight_rounds f_fight_downs f_fight_judges f_fight_leads f_fight_taken  n) l4 l5 l6 l7 l9 i_howMany f_ways = some o := hf
      generalize mX2_tossOne_L86 x0 x1 x2 i_fight_rounds f_fight_downs f_fight_judges f_fight_leads f_fight_taken  n = k86 at ih hf
      unfold mX2_tossOne_B86 at hf
      refine lv_iload hx hb dX2_tossOne_86 (lv_at hl 6 rfl) ?_
      refine lv_iload hx hb dX2_tossOne_88 (lv_at hl 2 rfl) ?_
      refine lv_icmp_gt (tgt := 148) hx hb dX2_tossOne_90 (by decide) (fun c_13 => ?_) (fun c_13 => ?_)
      · have hf := xt hf c_13
        obtain rfl := Option.some.inj hf
        exact ret (fun _ => 0) H _ ls _ hP hD hS dX2_tossOne_148
      · have hf := xf hf c_13
        refine lv_iload hx hb dX2_tossOne_93 (lv_at hl 3 rfl) ?_
        refine lv_iload hx hb dX2_tossOne_95 (lv_at hl 4 rfl) ?_
        refine lv_iconst (v := (2 : Int32)) hx hb dX2_tossOne_97 (by decide) ?_
        refine lv_iload hx hb dX2_tossOne_98 (lv_at hl 6 rfl) ?_
        refine lv_imul hx hb dX2_tossOne_100 ?_
        refine lv_iload hx hb dX2_tossOne_101 (lv_at hl 2 rfl) ?_
        refine lv_isub hx hb dX2_tossOne_103 ?_
        refine lv_imul hx hb dX2_tossOne_104 ?_
        refine lv_iadd hx hb dX2_tossOne_105 ?_
        refine lv_topi (fun v_14 ev_14 => ?_)
        have hf := lb_s hf ev_14
        refine lv_istore (lv' := [(10, .int v_14), (0, .ref a_this), (3, .int x2), (4, .int l4), (5, .int l5), (6, .int l6), (7, .long l7), (9, .int l9)]) hx hb dX2_tossOne_106 hl (by decide) rfl (fun ls hl => ?_)
        refine lv_aload_n hx hb dX2_tossOne_108 rfl (lv_at hl 1 rfl) ?_
        refine va_get (D := X.1) (ci := 2) (v := .ref a_ways) (C := RX2) (T := TX2) (N := 4) hx hb hts in2 hown hG.1 hP 0 rfl rfl 2 (by decide) w4 (fun _ h9 => h9) rfl dX2_tossOne_109 ?_
        refine lv_iload_n hx hb dX2_tossOne_112 rfl (lv_at hl 2 rfl) ?_
        refine lv_iload hx hb dX2_tossOne_113 (lv_at hl 0 rfl) ?_
        obtain ⟨o_15, ho_15, hf⟩ := ob_s hf
        refine xS_i (As := [.int v_14]) (rest := [.int x2, .ref a_ways]) (ws2 := [(a_this, .inr (2, [.ref a_fight, .ref a_cards, .ref a_ways, .int i_howMany])), (a_cards, .inr (1, [.ref a_fight, .ref a_cards_owners])), (a_fight, .inr (3, [.int i_fight_rounds, .int i_fight_home, .int i_fight_noise, .int i_fight_blowCount, .int i_fight_judgeCount, .ref a_fight_blows, .ref a_fight_judges, .ref a_fight_forward, .ref a_fight_downs, .ref a_fight_taken, .ref a_fight_seenBy, .ref a_fight_sums, .ref a_fight_leads])), (a_ways, .inl (X.2.1 1, 9, .inr (.inl f_ways))), (a_fight_downs, .inl (X.2.1 0, 24, .inl f_fight_downs)), (a_fight_judges, .inl (X.2.1 0, 56, .inl f_fight_judges)), (a_fight_leads, .inl (X.2.1 0, 96, .inl f_fight_leads)), (a_fight_taken, .inl (X.2.1 0, 24, .inl f_fight_taken))]) hx hb hml hts hown hG hA hP hD rfl hS hl.1 (qX1_ownerOf l X v_14 o_15 ho_15) (va_cwS (y := yX1_ownerOf) 1 hts gX2_tossOne_X1_ownerOf rfl rfl rfl hdsX1_ownerOf ⟨Nat.le_of_ble_eq_true rfl, Nat.le_of_ble_eq_true rfl⟩) [] [0, 1, 2, 3, 4, 5, 6, 7] [0, 1, 2, 3, 4, 5, 6, 7] rfl rfl rfl rfl rfl rfl rfl rfl rfl (Nat.le_of_ble_eq_true rfl) ⟨Nat.le_of_ble_eq_true rfl, Nat.le_of_ble_eq_true rfl⟩ dX2_tossOne_115 (fun H locs hP _ hS => ?_)
        refine lv_iadd hx hb dX2_tossOne_118 ?_
        refine lv_topi (fun v_17 ev_17 => ?_)
        have hf := lb_s hf ev_17
        refine lv_dup2_11 hx hb dX2_tossOne_119 rfl rfl ?_
        obtain ⟨h_18, hf⟩ := gi_s hf
        refine va_lald (D := X.1) hx hb hG.1 hP 3 1 rfl rfl h_18 dX2_tossOne_120 ?_
        refine lv_lload hx hb dX2_tossOne_121 (lv_at hl 6 rfl) ?_
        refine lv_ladd hx hb dX2_tossOne_123 ?_
        obtain ⟨h_19, hf⟩ := gi_s hf
        obtain ⟨g_20, eg_20, hf⟩ := lb_g hf
        refine x_last (ws' := [(a_this, .inr (2, [.ref a_fight, .ref a_cards, .ref a_ways, .int i_howMany])), (a_cards, .inr (1, [.ref a_fight, .ref a_cards_owners])), (a_fight, .inr (3, [.int i_fight_rounds, .int i_fight_home, .int i_fight_noise, .int i_fight_blowCount, .int i_fight_judgeCount, .ref a_fight_blows, .ref a_fight_judges, .ref a_fight_forward, .ref a_fight_downs, .ref a_fight_taken, .ref a_fight_seenBy, .ref a_fight_sums, .ref a_fight_leads])), (a_ways, .inl (X.2.1 1, 9, .inr (.inl g_20))), (a_fight_downs, .inl (X.2.1 0, 24, .inl f_fight_downs)), (a_fight_judges, .inl (X.2.1 0, 56, .inl f_fight_judges)), (a_fight_leads, .inl (X.2.1 0, 96, .inl f_fight_leads)), (a_fight_taken, .inl (X.2.1 0, 24, .inl f_fight_taken))]) hx hb hG hP hD rfl hS 3 rfl h_19 dX2_tossOne_124 eg_20 rfl (fun H locs hP hS => ?_)
        refine lv_lload hx hb dX2_tossOne_125 (lv_at hl 6 rfl) ?_
        refine lv_iload hx hb dX2_tossOne_127 (lv_at hl 3 rfl) ?_
        refine lv_iload hx hb dX2_tossOne_129 (lv_at hl 7 rfl) ?_
        refine lv_isub hx hb dX2_tossOne_131 ?_
        refine lv_i2l hx hb dX2_tossOne_132 rfl ?_
        refine lv_lmul hx hb dX2_tossOne_133 ?_
        refine lv_iload hx hb dX2_tossOne_134 (lv_at hl 7 rfl) ?_
        refine lv_iconst (v := (1 : Int32)) hx hb dX2_tossOne_136 (by decide) ?_
        refine lv_iadd hx hb dX2_tossOne_137 ?_
        refine lv_i2l hx hb dX2_tossOne_138 rfl ?_
        obtain ⟨h_21, hf⟩ := gd_s hf
        refine lv_ldiv hx hb dX2_tossOne_139 h_21 ?_
        refine lv_topl (fun v_22 ev_22 => ?_)
        have hf := lb_s hf ev_22
        refine lv_lstore (lv' := [(7, .long v_22), (10, .int v_14), (0, .ref a_this), (3, .int x2), (4, .int l4), (5, .int l5), (6, .int l6), (9, .int l9)]) hx hb dX2_tossOne_140 hl (by decide) rfl (fun ls hl => ?_)
        obtain ⟨v_23, ev_23, hf⟩ := lb_g hf
        refine lv_iinc (v := v_23) (lv' := [(9, .int v_23), (7, .long v_22), (10, .int v_14), (0, .ref a_this), (3, .int x2), (4, .int l4), (5, .int l5), (6, .int l6)]) hx hb dX2_tossOne_142 hl (k := 7) rfl ev_23.symm (by decide) rfl (fun ls hl => ?_)
        refine lv_goto (tgt := 86) hx hb dX2_tossOne_145 (by decide) ?_
        exact ih l4 l5 l6 v_22 v_23 i_howMany g_20  H _ ls hP  hS (lv_sub hl [3, 4, 5, 6, 7, 1, 0] rfl) hf
  have hL6 : ∀ (n : Nat) (l4 : Int32) (l5 : Int32) (i_howMany : Int32) (f_ways : Nat → Int64)  (H : Heap) (locs : List Loc) (ls : Array Slot), va_P X.1 vwCl [(a_this, .inr (2, [.ref a_fight, .ref a_cards, .ref a_ways, .int i_howMany])), (a_cards, .inr (1, [.ref a_fight, .ref a_cards_owners])), (a_fight, .inr (3, [.int i_fight_rounds, .int i_fight_home, .int i_fight_noise, .int i_fight_blowCount, .int i_fight_judgeCount, .ref a_fight_blows, .ref a_fight_judges, .ref a_fight_forward, .ref a_fight_downs, .ref a_fight_taken, .ref a_fight_seenBy, .ref a_fight_sums, .ref a_fight_leads])), (a_ways, .inl (X.2.1 1, 9, .inr (.inl f_ways))), (a_fight_downs, .inl (X.2.1 0, 24, .inl f_fight_downs)), (a_fight_judges, .inl (X.2.1 0, 56, .inl f_fight_judges)), (a_fight_leads, .inl (X.2.1 0, 96, .inl f_fight_leads)), (a_fight_taken, .inl (X.2.1 0, 24, .inl f_fight_taken))] H → va_S A s.heap H locs → lv_has ls 11 [(0, .ref a_this), (1, .int x0), (2, .int x1), (3, .int x2), (4, .int l4), (5, .int l5)] → mX2_tossOne_L6 x0 x1 x2 i_fight_rounds f_fight_downs f_fight_judges f_fight_leads f_fight_taken  n l4 l5 i_howMany f_ways = some o → W p l e rmX2_tossOne s m ([.ref a_this, .int x0, .int x1, .int x2] : List Value).toArray below meth c H locs 0 0 Q (F0 m 6 ls []) := by
    intro n
    induction n with
    | zero => intro l4 l5 i_howMany f_ways  H locs ls hP hS hl hf; exact xn hf
    | succ n ih =>
      intro l4 l5 i_howMany f_ways  H locs ls hP hS hl hf
      have hf : mX2_tossOne_B6 x0 x1 x2 i_fight_rounds f_fight_downs f_fight_judges f_fight_leads f_fight_taken  (mX2_tossOne_L6 x0 x1 x2 i_fight_rounds f_fight_downs f_fight_judges f_fight_leads f_fight_taken  n) l4 l5 i_howMany f_ways = some o := hf
      generalize mX2_tossOne_L6 x0 x1 x2 i_fight_rounds f_fight_downs f_fight_judges f_fight_leads f_fight_taken  n = k6 at ih hf
      unfold mX2_tossOne_B6 at hf
      refine lv_iload hx hb dX2_tossOne_6 (lv_at hl 5 rfl) ?_
      refine lv_aload_n hx hb dX2_tossOne_8 rfl (lv_at hl 0 rfl) ?_
      refine va_get (D := X.1) (ci := 2) (v := .ref a_fight) (C := RX2) (T := TX2) (N := 4) hx hb hts in2 hown hG.1 hP 0 rfl rfl 0 (by decide) w1 (fun _ h9 => h9) rfl dX2_tossOne_9 ?_
      refine va_getN (D := X.1) (ci := 3) (v := .int i_fight_rounds) (C := RX3) (T := TX3) (N := 13) hx hb hts in3 hown hG.1 hP 2 rfl rfl 0 (by decide) (va_Nw.use rfl (nf2 hG.2.1)) (fun _ h9 => h9) rfl dX2_tossOne_12 ?_
      refine lv_icmp_ge (tgt := 47) hx hb dX2_tossOne_15 (by decide) (fun c_1 => ?_) (fun c_1 => ?_)
      · have hf := xt hf c_1
        refine lv_aload_n hx hb dX2_tossOne_47 rfl (lv_at hl 0 rfl) ?_
        refine lv_dup hx hb dX2_tossOne_48 rfl ?_
        refine va_get (D := X.1) (ci := 2) (v := .int i_howMany) (C := RX2) (T := TX2) (N := 4) hx hb hts in2 hown hG.1 hP 0 rfl rfl 3 (by decide) w2 (fun _ h9 => h9) rfl dX2_tossOne_49 ?_
        refine lv_iload hx hb dX2_tossOne_52 (lv_at hl 4 rfl) ?_
        refine lv_iadd hx hb dX2_tossOne_54 ?_
        refine lv_topi (fun v_2 ev_2 => ?_)
        have hf := lb_s hf ev_2
        refine x_put (ws' := [(a_this, .inr (2, [.ref a_fight, .ref a_cards, .ref a_ways, .int v_2])), (a_cards, .inr (1, [.ref a_fight, .ref a_cards_owners])), (a_fight, .inr (3, [.int i_fight_rounds, .int i_fight_home, .int i_fight_noise, .int i_fight_blowCount, .int i_fight_judgeCount, .ref a_fight_blows, .ref a_fight_judges, .ref a_fight_forward, .ref a_fight_downs, .ref a_fight_taken, .ref a_fight_seenBy, .ref a_fight_sums, .ref a_fight_leads])), (a_ways, .inl (X.2.1 1, 9, .inr (.inl f_ways))), (a_fight_downs, .inl (X.2.1 0, 24, .inl f_fight_downs)), (a_fight_judges, .inl (X.2.1 0, 56, .inl f_fight_judges)), (a_fight_leads, .inl (X.2.1 0, 96, .inl f_fight_leads)), (a_fight_taken, .inl (X.2.1 0, 24, .inl f_fight_taken))]) (ty := .int) (C := RX2) (T := TX2) (N := 4) hx hb hts in2 tyX2 tyX2_ok nmX2 hown hG hP hD rfl hS 0 rfl rfl 3 (by decide) w2 rfl (tyX2_ok 3 (by decide)) rfl rfl (Nat.le_of_ble_eq_true rfl) dX2_tossOne_55 rfl (fun H locs hP hS => ?_)
        refine lv_aload_n hx hb dX2_tossOne_58 rfl (lv_at hl 0 rfl) ?_
        refine va_get (D := X.1) (ci := 2) (v := .ref a_cards) (C := RX2) (T := TX2) (N := 4) hx hb hts in2 hown hG.1 hP 0 rfl rfl 1 (by decide) w3 (fun _ h9 => h9) rfl dX2_tossOne_59 ?_
        refine lv_iconst (v := (2 : Int32)) hx hb dX2_tossOne_62 (by decide) ?_
        refine lv_iload_n hx hb dX2_tossOne_63 rfl (lv_at hl 2 rfl) ?_
        obtain ⟨o_3, ho_3, hf⟩ := ob_s hf
        refine xV_i (As := [.int (2 : Int32), .int x1]) (b := a_cards) (rest := []) (ws2 := [(a_this, .inr (2, [.ref a_fight, .ref a_cards, .ref a_ways, .int v_2])), (a_cards, .inr (1, [.ref a_fight, .ref a_cards_owners])), (a_fight, .inr (3, [.int i_fight_rounds, .int i_fight_home, .int i_fight_noise, .int i_fight_blowCount, .int i_fight_judgeCount, .ref a_fight_blows, .ref a_fight_judges, .ref a_fight_forward, .ref a_fight_downs, .ref a_fight_taken, .ref a_fight_seenBy, .ref a_fight_sums, .ref a_fight_leads])), (a_ways, .inl (X.2.1 1, 9, .inr (.inl f_ways))), (a_fight_downs, .inl (X.2.1 0, 24, .inl f_fight_downs)), (a_fight_judges, .inl (X.2.1 0, 56, .inl f_fight_judges)), (a_fight_leads, .inl (X.2.1 0, 96, .inl f_fight_leads)), (a_fight_taken, .inl (X.2.1 0, 24, .inl f_fight_taken))]) hx hb hml hts hown hG hA hP hD rfl hS hl.1 (qX1_cardBy l X a_cards a_fight a_fight_downs a_fight_judges a_fight_leads a_fight_taken a_cards_owners a_fight_blows a_fight_forward a_fight_seenBy a_fight_sums i_fight_rounds i_fight_home i_fight_noise i_fight_blowCount i_fight_judgeCount f_fight_downs f_fight_judges f_fight_leads f_fight_taken (2 : Int32) x1 o_3 ho_3) (cwV (y := yX1_cardBy) 2 hts gX2_tossOne_X1_cardBy rfl rfl rfl hdvX1_cardBy ⟨Nat.le_of_ble_eq_true rfl, Nat.le_of_ble_eq_true rfl⟩) [1, 2, 4, 5, 6, 7] [0, 3] [0, 2, 3, 1, 4, 5, 6, 7] rfl rfl rfl rfl rfl rfl rfl (ci := 1) rfl 1 rfl rfl rfl (Nat.le_of_ble_eq_true rfl) ⟨Nat.le_of_ble_eq_true rfl, Nat.le_of_ble_eq_true rfl⟩ dX2_tossOne_64 (fun H locs hP _ hS => ?_)
        refine lv_istore (lv' := [(5, .int o_3), (0, .ref a_this), (1, .int x0), (2, .int x1), (3, .int x2), (4, .int l4)]) hx hb dX2_tossOne_67 hl (by decide) rfl (fun ls hl => ?_)
        refine lv_iload_n hx hb dX2_tossOne_69 rfl (lv_at hl 2 rfl) ?_
        refine lv_if_ne (tgt := 77) hx hb dX2_tossOne_70 (by decide) (fun c_5 => ?_) (fun c_5 => ?_)
        · have hf := xf hf c_5
          refine lv_iconst (v := (1 : Int32)) hx hb dX2_tossOne_77 (by decide) ?_
          refine lv_istore (lv' := [(6, .int (1 : Int32)), (5, .int o_3), (0, .ref a_this), (1, .int x0), (2, .int x1), (3, .int x2), (4, .int l4)]) hx hb dX2_tossOne_78 hl (by decide) rfl (fun ls hl => ?_)
          refine lv_lconst (v := (1 : Int64)) hx hb dX2_tossOne_80 rfl ?_
          refine lv_lstore (lv' := [(7, .long (1 : Int64)), (6, .int (1 : Int32)), (5, .int o_3), (0, .ref a_this), (1, .int x0), (2, .int x1), (3, .int x2), (4, .int l4)]) hx hb dX2_tossOne_81 hl (by decide) rfl (fun ls hl => ?_)
          refine lv_iconst (v := (0 : Int32)) hx hb dX2_tossOne_83 (by decide) ?_
          refine lv_istore (lv' := [(9, .int (0 : Int32)), (7, .long (1 : Int64)), (6, .int (1 : Int32)), (5, .int o_3), (0, .ref a_this), (1, .int x0), (2, .int x1), (3, .int x2), (4, .int l4)]) hx hb dX2_tossOne_84 hl (by decide) rfl (fun ls hl => ?_)
          exact hL86  FUEL l4 o_3 (1 : Int32) (1 : Int64) (0 : Int32) v_2 f_ways  H _ ls hP  hS (lv_sub hl [4, 7, 8, 3, 2, 1, 0] rfl) hf
        · have hf := xt hf c_5
          refine lv_iconst (v := (2 : Int32)) hx hb dX2_tossOne_73 (by decide) ?_
          refine lv_goto (tgt := 78) hx hb dX2_tossOne_74 (by decide) ?_
          refine lv_istore (lv' := [(6, .int (2 : Int32)), (5, .int o_3), (0, .ref a_this), (1, .int x0), (2, .int x1), (3, .int x2), (4, .int l4)]) hx hb dX2_tossOne_78 hl (by decide) rfl (fun ls hl => ?_)
          refine lv_lconst (v := (1 : Int64)) hx hb dX2_tossOne_80 rfl ?_
          refine lv_lstore (lv' := [(7, .long (1 : Int64)), (6, .int (2 : Int32)), (5, .int o_3), (0, .ref a_this), (1, .int x0), (2, .int x1), (3, .int x2), (4, .int l4)]) hx hb dX2_tossOne_81 hl (by decide) rfl (fun ls hl => ?_)
          refine lv_iconst (v := (0 : Int32)) hx hb dX2_tossOne_83 (by decide) ?_
          refine lv_istore (lv' := [(9, .int (0 : Int32)), (7, .long (1 : Int64)), (6, .int (2 : Int32)), (5, .int o_3), (0, .ref a_this), (1, .int x0), (2, .int x1), (3, .int x2), (4, .int l4)]) hx hb dX2_tossOne_84 hl (by decide) rfl (fun ls hl => ?_)
          exact hL86  FUEL l4 o_3 (2 : Int32) (1 : Int64) (0 : Int32) v_2 f_ways  H _ ls hP  hS (lv_sub hl [4, 7, 8, 3, 2, 1, 0] rfl) hf
      · have hf := xf hf c_1
        refine lv_iload hx hb dX2_tossOne_18 (lv_at hl 4 rfl) ?_
        refine lv_aload_n hx hb dX2_tossOne_20 rfl (lv_at hl 0 rfl) ?_
        refine va_get (D := X.1) (ci := 2) (v := .ref a_fight) (C := RX2) (T := TX2) (N := 4) hx hb hts in2 hown hG.1 hP 0 rfl rfl 0 (by decide) w1 (fun _ h9 => h9) rfl dX2_tossOne_21 ?_
        refine lv_iload_n hx hb dX2_tossOne_24 rfl (lv_at hl 2 rfl) ?_
        refine lv_iload hx hb dX2_tossOne_25 (lv_at hl 5 rfl) ?_
        obtain ⟨o_6, ho_6, hf⟩ := ob_s hf
        refine xV_i (As := [.int x1, .int l5]) (b := a_fight) (rest := [.int l4]) (ws2 := [(a_this, .inr (2, [.ref a_fight, .ref a_cards, .ref a_ways, .int i_howMany])), (a_cards, .inr (1, [.ref a_fight, .ref a_cards_owners])), (a_fight, .inr (3, [.int i_fight_rounds, .int i_fight_home, .int i_fight_noise, .int i_fight_blowCount, .int i_fight_judgeCount, .ref a_fight_blows, .ref a_fight_judges, .ref a_fight_forward, .ref a_fight_downs, .ref a_fight_taken, .ref a_fight_seenBy, .ref a_fight_sums, .ref a_fight_leads])), (a_ways, .inl (X.2.1 1, 9, .inr (.inl f_ways))), (a_fight_downs, .inl (X.2.1 0, 24, .inl f_fight_downs)), (a_fight_judges, .inl (X.2.1 0, 56, .inl f_fight_judges)), (a_fight_leads, .inl (X.2.1 0, 96, .inl f_fight_leads)), (a_fight_taken, .inl (X.2.1 0, 24, .inl f_fight_taken))]) hx hb hml hts hown hG hA hP hD rfl hS hl.1 (qX3_isClose l X a_fight a_fight_judges a_fight_leads a_fight_blows a_fight_forward a_fight_downs a_fight_taken a_fight_seenBy a_fight_sums i_fight_rounds i_fight_home i_fight_noise i_fight_blowCount i_fight_judgeCount f_fight_judges f_fight_leads x1 l5 o_6 ho_6) (cwV (y := yX3_isClose) 2 hts gX2_tossOne_X3_isClose rfl rfl rfl hdvX3_isClose ⟨Nat.le_of_ble_eq_true rfl, Nat.le_of_ble_eq_true rfl⟩) [2, 5, 6] [0, 1, 3, 4, 7] [0, 1, 5, 2, 3, 6, 7, 4] rfl rfl rfl rfl rfl rfl rfl (ci := 3) rfl 2 rfl rfl rfl (Nat.le_of_ble_eq_true rfl) ⟨Nat.le_of_ble_eq_true rfl, Nat.le_of_ble_eq_true rfl⟩ dX2_tossOne_27 (fun H locs hP _ hS => ?_)
        refine lv_if_eq (tgt := 37) hx hb dX2_tossOne_30 (by decide) (fun c_8 => ?_) (fun c_8 => ?_)
        · have hf := xt hf c_8
          refine lv_iconst (v := (0 : Int32)) hx hb dX2_tossOne_37 (by decide) ?_
          refine lv_iadd hx hb dX2_tossOne_38 ?_
          refine lv_topi (fun v_9 ev_9 => ?_)
          have hf := lb_s hf ev_9
          refine lv_istore (lv' := [(4, .int v_9), (0, .ref a_this), (1, .int x0), (2, .int x1), (3, .int x2), (5, .int l5)]) hx hb dX2_tossOne_39 hl (by decide) rfl (fun ls hl => ?_)
          obtain ⟨v_10, ev_10, hf⟩ := lb_g hf
          refine lv_iinc (v := v_10) (lv' := [(5, .int v_10), (4, .int v_9), (0, .ref a_this), (1, .int x0), (2, .int x1), (3, .int x2)]) hx hb dX2_tossOne_41 hl (k := 5) rfl ev_10.symm (by decide) rfl (fun ls hl => ?_)
          refine lv_goto (tgt := 6) hx hb dX2_tossOne_44 (by decide) ?_
          exact ih v_9 v_10 i_howMany f_ways  H _ ls hP  hS (lv_sub hl [2, 3, 4, 5, 1, 0] rfl) hf
        · have hf := xf hf c_8
          refine lv_iconst (v := (1 : Int32)) hx hb dX2_tossOne_33 (by decide) ?_
          refine lv_goto (tgt := 38) hx hb dX2_tossOne_34 (by decide) ?_
          refine lv_iadd hx hb dX2_tossOne_38 ?_
          refine lv_topi (fun v_11 ev_11 => ?_)
          have hf := lb_s hf ev_11
          refine lv_istore (lv' := [(4, .int v_11), (0, .ref a_this), (1, .int x0), (2, .int x1), (3, .int x2), (5, .int l5)]) hx hb dX2_tossOne_39 hl (by decide) rfl (fun ls hl => ?_)
          obtain ⟨v_12, ev_12, hf⟩ := lb_g hf
          refine lv_iinc (v := v_12) (lv' := [(5, .int v_12), (4, .int v_11), (0, .ref a_this), (1, .int x0), (2, .int x1), (3, .int x2)]) hx hb dX2_tossOne_41 hl (k := 5) rfl ev_12.symm (by decide) rfl (fun ls hl => ?_)
          refine lv_goto (tgt := 6) hx hb dX2_tossOne_44 (by decide) ?_
          exact ih v_11 v_12 i_howMany f_ways  H _ ls hP  hS (lv_sub hl [2, 3, 4, 5, 1, 0] rfl) hf
  unfold mX2_tossOne at hf
  refine lv_iconst (v := (0 : Int32)) hx hb dX2_tossOne_0 (by decide) ?_
  refine lv_istore (lv' := [(4, .int (0 : Int32)), (0, .ref a_this), (1, .int x0), (2, .int x1), (3, .int x2)]) hx hb dX2_tossOne_1 hl (by decide) rfl (fun ls hl => ?_)
  refine lv_iconst (v := (0 : Int32)) hx hb dX2_tossOne_3 (by decide) ?_
  refine lv_istore (lv' := [(5, .int (0 : Int32)), (4, .int (0 : Int32)), (0, .ref a_this), (1, .int x0), (2, .int x1), (3, .int x2)]) hx hb dX2_tossOne_4 hl (by decide) rfl (fun ls hl => ?_)
  exact hL6  FUEL (0 : Int32) (0 : Int32) i_howMany f_ways  H _ ls hP  hS (lv_sub hl [2, 3, 4, 5, 1, 0] rfl) hf
def mX2_toss (x0 : Int32) (x1 : Int32) (x2 : Int32) (x3 : Int32) (i_howMany : Int32) (i_fight_rounds : Int32) (f_ways : Nat → Int64) (f_fight_downs : Nat → Int32) (f_fight_judges : Nat → Int32) (f_fight_leads : Nat → Int32) (f_fight_taken : Nat → Int32) :
  Option ((Nat → Int64) × Int32) :=
  (mJ7_fill_d0a16 9 (0 : Int64) f_ways).bind fun o_1 =>
  (mX2_tossOne x0 x1 (0 : Int32) (0 : Int32) i_fight_rounds o_1 f_fight_downs f_fight_judges f_fight_leads f_fight_taken).bind fun o_3 =>
  (mX2_tossOne x0 x2 (3 : Int32) o_3.1 i_fight_rounds o_3.2 f_fight_downs f_fight_judges f_fight_leads f_fight_taken).bind fun o_5 =>
  (mX2_tossOne x0 x3 (6 : Int32) o_5.1 i_fight_rounds o_5.2 f_fight_downs f_fight_judges f_fight_leads f_fight_taken).bind fun o_7 =>
  some (o_7.2, o_7.1)
theorem hdsX2_toss : yX2_toss.cls ≠ "java/lang/invoke/MethodHandle" ∧ yX2_toss.cls ≠ "java/lang/invoke/VarHandle" ∧ (parseMethodDescriptor yX2_toss.desc).map (fun d => d.parameters.length) = some 4 := by decide +kernel
theorem hdvX2_toss : yX2_toss.cls = RX2 ∧ yX2_toss.cls ≠ "java/lang/invoke/MethodHandle" ∧ yX2_toss.cls ≠ "java/lang/invoke/VarHandle" ∧ (parseMethodDescriptor yX2_toss.desc).map (fun d => d.parameters.length) = some 4 := by decide +kernel
abbrev rmX2_toss : Room := { frames := 5, cells := 0, slots := 0, locals := 124 }
set_option maxHeartbeats 4000000 in
set_option maxRecDepth 100000 in
theorem qX2_toss (l : Launch) (X : XT) (a_this : Nat) (a_cards : Nat) (a_fight : Nat) (a_ways : Nat) (a_fight_downs : Nat) (a_fight_judges : Nat) (a_fight_leads : Nat) (a_fight_taken : Nat) (a_cards_owners : Nat) (a_fight_blows : Nat) (a_fight_forward : Nat) (a_fight_seenBy : Nat) (a_fight_sums : Nat)  (i_howMany : Int32) (i_fight_rounds : Int32) (i_fight_home : Int32) (i_fight_noise : Int32) (i_fight_blowCount : Int32) (i_fight_judgeCount : Int32) (f_ways : Nat → Int64) (f_fight_downs : Nat → Int32) (f_fight_judges : Nat → Int32) (f_fight_leads : Nat → Int32) (f_fight_taken : Nat → Int32) (x0 : Int32) (x1 : Int32) (x2 : Int32) (x3 : Int32) (o : (Nat → Int64) × Int32) (hf : mX2_toss x0 x1 x2 x3 i_howMany i_fight_rounds f_ways f_fight_downs f_fight_judges f_fight_leads f_fight_taken = some o) :
    MC l yX2_toss wsX2_toss rmX2_toss X [.ref a_this, .int x0, .int x1, .int x2, .int x3] [(a_this, .inr (2, [.ref a_fight, .ref a_cards, .ref a_ways, .int i_howMany])), (a_cards, .inr (1, [.ref a_fight, .ref a_cards_owners])), (a_fight, .inr (3, [.int i_fight_rounds, .int i_fight_home, .int i_fight_noise, .int i_fight_blowCount, .int i_fight_judgeCount, .ref a_fight_blows, .ref a_fight_judges, .ref a_fight_forward, .ref a_fight_downs, .ref a_fight_taken, .ref a_fight_seenBy, .ref a_fight_sums, .ref a_fight_leads])), (a_ways, .inl (X.2.1 1, 9, .inr (.inl f_ways))), (a_fight_downs, .inl (X.2.1 0, 24, .inl f_fight_downs)), (a_fight_judges, .inl (X.2.1 0, 56, .inl f_fight_judges)), (a_fight_leads, .inl (X.2.1 0, 96, .inl f_fight_leads)), (a_fight_taken, .inl (X.2.1 0, 24, .inl f_fight_taken))]  (fun _ => [(a_this, .inr (2, [.ref a_fight, .ref a_cards, .ref a_ways, .int o.2])), (a_cards, .inr (1, [.ref a_fight, .ref a_cards_owners])), (a_fight, .inr (3, [.int i_fight_rounds, .int i_fight_home, .int i_fight_noise, .int i_fight_blowCount, .int i_fight_judgeCount, .ref a_fight_blows, .ref a_fight_judges, .ref a_fight_forward, .ref a_fight_downs, .ref a_fight_taken, .ref a_fight_seenBy, .ref a_fight_sums, .ref a_fight_leads])), (a_ways, .inl (X.2.1 1, 9, .inr (.inl o.1))), (a_fight_downs, .inl (X.2.1 0, 24, .inl f_fight_downs)), (a_fight_judges, .inl (X.2.1 0, 56, .inl f_fight_judges)), (a_fight_leads, .inl (X.2.1 0, 96, .inl f_fight_leads)), (a_fight_taken, .inl (X.2.1 0, 24, .inl f_fight_taken))]) 0 0 := by
  refine MC_ofH (cc := cX2_toss) (maxL := 5) (by decide) rfl (Nat.le_of_ble_eq_true rfl) ?_
  intro p e s m below meth c A Q H ls hx hb hml hts hown hin hA hD hG hP hS hl ret
  have hown : s.vm.findClass RX2 = some m.cls := hown
  have hD : aD A [a_this, a_cards, a_fight, a_ways, a_fight_downs, a_fight_judges, a_fight_leads, a_fight_taken] := hD
  have hl : lv_has ls 5 [(0, .ref a_this), (1, .int x0), (2, .int x1), (3, .int x2), (4, .int x3)] := hl
  have w1 := hts (Cond.fieldLink RX2 9 "ThreeCards$Coins" "ways" "[J") (List.mem_of_getElem? (i := 1) rfl)
  have w2 := hts (Cond.fieldLink RX2 15 "ThreeCards$Coins" "howMany" "I") (List.mem_of_getElem? (i := 2) rfl)
  have in2 : ∀ w ∈ u_ws RX2 TX2 4, w ∈ wsX2_toss := by decide +kernel
  unfold mX2_toss at hf
  refine lv_aload_n hx hb dX2_toss_0 rfl (lv_at hl 0 rfl) ?_
  refine va_get (D := X.1) (ci := 2) (v := .ref a_ways) (C := RX2) (T := TX2) (N := 4) hx hb hts in2 hown hG.1 hP 0 rfl rfl 2 (by decide) w1 (fun _ h9 => h9) rfl dX2_toss_1 ?_
  refine lv_lconst (v := (0 : Int64)) hx hb dX2_toss_4 rfl ?_
  obtain ⟨o_1, ho_1, hf⟩ := ob_s hf
  refine xS_v (As := [.ref a_ways, .long (0 : Int64)]) (rest := []) (ws2 := fun _ => [(a_this, .inr (2, [.ref a_fight, .ref a_cards, .ref a_ways, .int i_howMany])), (a_cards, .inr (1, [.ref a_fight, .ref a_cards_owners])), (a_fight, .inr (3, [.int i_fight_rounds, .int i_fight_home, .int i_fight_noise, .int i_fight_blowCount, .int i_fight_judgeCount, .ref a_fight_blows, .ref a_fight_judges, .ref a_fight_forward, .ref a_fight_downs, .ref a_fight_taken, .ref a_fight_seenBy, .ref a_fight_sums, .ref a_fight_leads])), (a_ways, .inl (X.2.1 1, 9, .inr (.inl o_1))), (a_fight_downs, .inl (X.2.1 0, 24, .inl f_fight_downs)), (a_fight_judges, .inl (X.2.1 0, 56, .inl f_fight_judges)), (a_fight_leads, .inl (X.2.1 0, 96, .inl f_fight_leads)), (a_fight_taken, .inl (X.2.1 0, 24, .inl f_fight_taken))]) hx hb hml hts hown hG hA hP hD rfl hS hl.1 (qJ7_fill_d0a16 l X a_ways 9 f_ways (0 : Int64) o_1 ho_1) (va_cwS (y := yJ7_fill_d0a16) 2 hts gX2_toss_J7_fill_d0a16 rfl rfl rfl hdsJ7_fill_d0a16 ⟨Nat.le_of_ble_eq_true rfl, Nat.le_of_ble_eq_true rfl⟩) [3] [0, 1, 2, 4, 5, 6, 7] [0, 1, 2, 7, 3, 4, 5, 6] rfl rfl rfl rfl rfl rfl (fun _ => rfl) rfl rfl (Nat.le_of_ble_eq_true rfl) ⟨Nat.le_of_ble_eq_true rfl, Nat.le_of_ble_eq_true rfl⟩ dX2_toss_5 (fun u_2 H locs hP _ hS => ?_)
  refine lv_aload_n hx hb dX2_toss_8 rfl (lv_at hl 0 rfl) ?_
  refine lv_iconst (v := (0 : Int32)) hx hb dX2_toss_9 (by decide) ?_
  refine x_put (ws' := [(a_this, .inr (2, [.ref a_fight, .ref a_cards, .ref a_ways, .int (0 : Int32)])), (a_cards, .inr (1, [.ref a_fight, .ref a_cards_owners])), (a_fight, .inr (3, [.int i_fight_rounds, .int i_fight_home, .int i_fight_noise, .int i_fight_blowCount, .int i_fight_judgeCount, .ref a_fight_blows, .ref a_fight_judges, .ref a_fight_forward, .ref a_fight_downs, .ref a_fight_taken, .ref a_fight_seenBy, .ref a_fight_sums, .ref a_fight_leads])), (a_ways, .inl (X.2.1 1, 9, .inr (.inl o_1))), (a_fight_downs, .inl (X.2.1 0, 24, .inl f_fight_downs)), (a_fight_judges, .inl (X.2.1 0, 56, .inl f_fight_judges)), (a_fight_leads, .inl (X.2.1 0, 96, .inl f_fight_leads)), (a_fight_taken, .inl (X.2.1 0, 24, .inl f_fight_taken))]) (ty := .int) (C := RX2) (T := TX2) (N := 4) hx hb hts in2 tyX2 tyX2_ok nmX2 hown hG hP hD rfl hS 0 rfl rfl 3 (by decide) w2 rfl (tyX2_ok 3 (by decide)) rfl rfl (Nat.le_of_ble_eq_true rfl) dX2_toss_10 rfl (fun H locs hP hS => ?_)
  refine lv_aload_n hx hb dX2_toss_13 rfl (lv_at hl 0 rfl) ?_
  refine lv_iload_n hx hb dX2_toss_14 rfl (lv_at hl 1 rfl) ?_
  refine lv_iload_n hx hb dX2_toss_15 rfl (lv_at hl 2 rfl) ?_
  refine lv_iconst (v := (0 : Int32)) hx hb dX2_toss_16 (by decide) ?_
  obtain ⟨o_3, ho_3, hf⟩ := ob_s hf
  refine xV_v (As := [.int x0, .int x1, .int (0 : Int32)]) (b := a_this) (rest := []) (ws2 := fun _ => [(a_this, .inr (2, [.ref a_fight, .ref a_cards, .ref a_ways, .int o_3.1])), (a_cards, .inr (1, [.ref a_fight, .ref a_cards_owners])), (a_fight, .inr (3, [.int i_fight_rounds, .int i_fight_home, .int i_fight_noise, .int i_fight_blowCount, .int i_fight_judgeCount, .ref a_fight_blows, .ref a_fight_judges, .ref a_fight_forward, .ref a_fight_downs, .ref a_fight_taken, .ref a_fight_seenBy, .ref a_fight_sums, .ref a_fight_leads])), (a_ways, .inl (X.2.1 1, 9, .inr (.inl o_3.2))), (a_fight_downs, .inl (X.2.1 0, 24, .inl f_fight_downs)), (a_fight_judges, .inl (X.2.1 0, 56, .inl f_fight_judges)), (a_fight_leads, .inl (X.2.1 0, 96, .inl f_fight_leads)), (a_fight_taken, .inl (X.2.1 0, 24, .inl f_fight_taken))]) hx hb hml hts hown hG hA hP hD rfl hS hl.1 (qX2_tossOne l X a_this a_cards a_fight a_ways a_fight_downs a_fight_judges a_fight_leads a_fight_taken a_cards_owners a_fight_blows a_fight_forward a_fight_seenBy a_fight_sums (0 : Int32) i_fight_rounds i_fight_home i_fight_noise i_fight_blowCount i_fight_judgeCount o_1 f_fight_downs f_fight_judges f_fight_leads f_fight_taken x0 x1 (0 : Int32) o_3 ho_3) (cwV (y := yX2_tossOne) 3 hts gX2_toss_X2_tossOne rfl rfl rfl hdvX2_tossOne ⟨Nat.le_of_ble_eq_true rfl, Nat.le_of_ble_eq_true rfl⟩) [0, 1, 2, 3, 4, 5, 6, 7] [] [0, 1, 2, 3, 4, 5, 6, 7] rfl rfl rfl rfl rfl rfl (fun _ => rfl) (ci := 2) rfl 0 rfl rfl rfl (Nat.le_of_ble_eq_true rfl) ⟨Nat.le_of_ble_eq_true rfl, Nat.le_of_ble_eq_true rfl⟩ dX2_toss_17 (fun u_4 H locs hP _ hS => ?_)
  refine lv_aload_n hx hb dX2_toss_20 rfl (lv_at hl 0 rfl) ?_
  refine lv_iload_n hx hb dX2_toss_21 rfl (lv_at hl 1 rfl) ?_
  refine lv_iload_n hx hb dX2_toss_22 rfl (lv_at hl 3 rfl) ?_
  refine lv_iconst (v := (3 : Int32)) hx hb dX2_toss_23 (by decide) ?_
  obtain ⟨o_5, ho_5, hf⟩ := ob_s hf
  refine xV_v (As := [.int x0, .int x2, .int (3 : Int32)]) (b := a_this) (rest := []) (ws2 := fun _ => [(a_this, .inr (2, [.ref a_fight, .ref a_cards, .ref a_ways, .int o_5.1])), (a_cards, .inr (1, [.ref a_fight, .ref a_cards_owners])), (a_fight, .inr (3, [.int i_fight_rounds, .int i_fight_home, .int i_fight_noise, .int i_fight_blowCount, .int i_fight_judgeCount, .ref a_fight_blows, .ref a_fight_judges, .ref a_fight_forward, .ref a_fight_downs, .ref a_fight_taken, .ref a_fight_seenBy, .ref a_fight_sums, .ref a_fight_leads])), (a_ways, .inl (X.2.1 1, 9, .inr (.inl o_5.2))), (a_fight_downs, .inl (X.2.1 0, 24, .inl f_fight_downs)), (a_fight_judges, .inl (X.2.1 0, 56, .inl f_fight_judges)), (a_fight_leads, .inl (X.2.1 0, 96, .inl f_fight_leads)), (a_fight_taken, .inl (X.2.1 0, 24, .inl f_fight_taken))]) hx hb hml hts hown hG hA hP hD rfl hS hl.1 (qX2_tossOne l X a_this a_cards a_fight a_ways a_fight_downs a_fight_judges a_fight_leads a_fight_taken a_cards_owners a_fight_blows a_fight_forward a_fight_seenBy a_fight_sums o_3.1 i_fight_rounds i_fight_home i_fight_noise i_fight_blowCount i_fight_judgeCount o_3.2 f_fight_downs f_fight_judges f_fight_leads f_fight_taken x0 x2 (3 : Int32) o_5 ho_5) (cwV (y := yX2_tossOne) 3 hts gX2_toss_X2_tossOne rfl rfl rfl hdvX2_tossOne ⟨Nat.le_of_ble_eq_true rfl, Nat.le_of_ble_eq_true rfl⟩) [0, 1, 2, 3, 4, 5, 6, 7] [] [0, 1, 2, 3, 4, 5, 6, 7] rfl rfl rfl rfl rfl rfl (fun _ => rfl) (ci := 2) rfl 0 rfl rfl rfl (Nat.le_of_ble_eq_true rfl) ⟨Nat.le_of_ble_eq_true rfl, Nat.le_of_ble_eq_true rfl⟩ dX2_toss_24 (fun u_6 H locs hP _ hS => ?_)
  refine lv_aload_n hx hb dX2_toss_27 rfl (lv_at hl 0 rfl) ?_
  refine lv_iload_n hx hb dX2_toss_28 rfl (lv_at hl 1 rfl) ?_
  refine lv_iload hx hb dX2_toss_29 (lv_at hl 4 rfl) ?_
  refine lv_bipush (v := (6 : Int32)) hx hb dX2_toss_31 (by decide) ?_
  obtain ⟨o_7, ho_7, hf⟩ := ob_s hf
  refine xV_v (As := [.int x0, .int x3, .int (6 : Int32)]) (b := a_this) (rest := []) (ws2 := fun _ => [(a_this, .inr (2, [.ref a_fight, .ref a_cards, .ref a_ways, .int o_7.1])), (a_cards, .inr (1, [.ref a_fight, .ref a_cards_owners])), (a_fight, .inr (3, [.int i_fight_rounds, .int i_fight_home, .int i_fight_noise, .int i_fight_blowCount, .int i_fight_judgeCount, .ref a_fight_blows, .ref a_fight_judges, .ref a_fight_forward, .ref a_fight_downs, .ref a_fight_taken, .ref a_fight_seenBy, .ref a_fight_sums, .ref a_fight_leads])), (a_ways, .inl (X.2.1 1, 9, .inr (.inl o_7.2))), (a_fight_downs, .inl (X.2.1 0, 24, .inl f_fight_downs)), (a_fight_judges, .inl (X.2.1 0, 56, .inl f_fight_judges)), (a_fight_leads, .inl (X.2.1 0, 96, .inl f_fight_leads)), (a_fight_taken, .inl (X.2.1 0, 24, .inl f_fight_taken))]) hx hb hml hts hown hG hA hP hD rfl hS hl.1 (qX2_tossOne l X a_this a_cards a_fight a_ways a_fight_downs a_fight_judges a_fight_leads a_fight_taken a_cards_owners a_fight_blows a_fight_forward a_fight_seenBy a_fight_sums o_5.1 i_fight_rounds i_fight_home i_fight_noise i_fight_blowCount i_fight_judgeCount o_5.2 f_fight_downs f_fight_judges f_fight_leads f_fight_taken x0 x3 (6 : Int32) o_7 ho_7) (cwV (y := yX2_tossOne) 3 hts gX2_toss_X2_tossOne rfl rfl rfl hdvX2_tossOne ⟨Nat.le_of_ble_eq_true rfl, Nat.le_of_ble_eq_true rfl⟩) [0, 1, 2, 3, 4, 5, 6, 7] [] [0, 1, 2, 3, 4, 5, 6, 7] rfl rfl rfl rfl rfl rfl (fun _ => rfl) (ci := 2) rfl 0 rfl rfl rfl (Nat.le_of_ble_eq_true rfl) ⟨Nat.le_of_ble_eq_true rfl, Nat.le_of_ble_eq_true rfl⟩ dX2_toss_33 (fun u_8 H locs hP _ hS => ?_)
  obtain rfl := Option.some.inj hf
  exact ret (fun _ => 0) H _ ls _ hP hD hS dX2_toss_36
def mX2_waysToEnd_B23 (x0 : Int32) (f_ways : Nat → Int64) (k5 : Int64 → Int32 → Option (Int64)) (k14 : Int64 → Int32 → Int32 → Option (Int64)) (k23 : Int64 → Int32 → Int32 → Int32 → Option (Int64)) (l2 : Int64) (l4 : Int32) (l5 : Int32) (l6 : Int32) :
  Option (Int64) :=
  if (3 : Int32) ≤ l6 then (lb (l5 + (1 : Int32)) fun v_5 =>
  k14 l2 l4 v_5) else ((mX1_endOf l4 l5 l6).bind fun o_6 =>
  if o_6 = x0 then (gi l4 9 <|
  gi ((3 : Int32) + l5) 9 <|
  gi ((6 : Int32) + l6) 9 <|
  lb (l2 + (((f_ways l4.toNatClampNeg) * (f_ways ((3 : Int32) + l5).toNatClampNeg)) * (f_ways ((6 : Int32) + l6).toNatClampNeg))) fun v_13 =>
  lb (l6 + (1 : Int32)) fun v_14 =>
  k23 v_13 l4 l5 v_14) else (lb (l6 + (1 : Int32)) fun v_9 =>
  k23 l2 l4 l5 v_9))
def mX2_waysToEnd_L23 (x0 : Int32) (f_ways : Nat → Int64) (k5 : Int64 → Int32 → Option (Int64)) (k14 : Int64 → Int32 → Int32 → Option (Int64)) (n : Nat) (l2 : Int64) (l4 : Int32) (l5 : Int32) (l6 : Int32) :
  Option (Int64) :=
  loopN (fun k (s : Int64 × Int32 × Int32 × Int32) => mX2_waysToEnd_B23 x0 f_ways k5 k14 (fun l2 l4 l5 l6 => k (l2, l4, l5, l6)) s.1 s.2.1 s.2.2.1 s.2.2.2) n (l2, l4, l5, l6)
def mX2_waysToEnd_B14 (x0 : Int32) (f_ways : Nat → Int64) (k5 : Int64 → Int32 → Option (Int64)) (k14 : Int64 → Int32 → Int32 → Option (Int64)) (l2 : Int64) (l4 : Int32) (l5 : Int32) :
  Option (Int64) :=
  if (3 : Int32) ≤ l5 then (lb (l4 + (1 : Int32)) fun v_3 =>
  k5 l2 v_3) else (mX2_waysToEnd_L23 x0 f_ways k5 k14 FUEL l2 l4 l5 (0 : Int32))
def mX2_waysToEnd_L14 (x0 : Int32) (f_ways : Nat → Int64) (k5 : Int64 → Int32 → Option (Int64)) (n : Nat) (l2 : Int64) (l4 : Int32) (l5 : Int32) :
  Option (Int64) :=
  loopN (fun k (s : Int64 × Int32 × Int32) => mX2_waysToEnd_B14 x0 f_ways k5 (fun l2 l4 l5 => k (l2, l4, l5)) s.1 s.2.1 s.2.2) n (l2, l4, l5)
def mX2_waysToEnd_B5 (x0 : Int32) (f_ways : Nat → Int64) (k5 : Int64 → Int32 → Option (Int64)) (l2 : Int64) (l4 : Int32) :
  Option (Int64) :=
  if (3 : Int32) ≤ l4 then (some l2) else (mX2_waysToEnd_L14 x0 f_ways k5 FUEL l2 l4 (0 : Int32))
def mX2_waysToEnd_L5 (x0 : Int32) (f_ways : Nat → Int64) (n : Nat) (l2 : Int64) (l4 : Int32) :
  Option (Int64) :=
  loopN (fun k (s : Int64 × Int32) => mX2_waysToEnd_B5 x0 f_ways  (fun l2 l4 => k (l2, l4)) s.1 s.2) n (l2, l4)
def mX2_waysToEnd (x0 : Int32) (f_ways : Nat → Int64) :
  Option (Int64) :=
  mX2_waysToEnd_L5 x0 f_ways  FUEL (0 : Int64) (0 : Int32)
theorem hdsX2_waysToEnd : yX2_waysToEnd.cls ≠ "java/lang/invoke/MethodHandle" ∧ yX2_waysToEnd.cls ≠ "java/lang/invoke/VarHandle" ∧ (parseMethodDescriptor yX2_waysToEnd.desc).map (fun d => d.parameters.length) = some 1 := by decide +kernel
theorem hdvX2_waysToEnd : yX2_waysToEnd.cls = RX2 ∧ yX2_waysToEnd.cls ≠ "java/lang/invoke/MethodHandle" ∧ yX2_waysToEnd.cls ≠ "java/lang/invoke/VarHandle" ∧ (parseMethodDescriptor yX2_waysToEnd.desc).map (fun d => d.parameters.length) = some 1 := by decide +kernel
abbrev rmX2_waysToEnd : Room := { frames := 1, cells := 0, slots := 0, locals := 22 }
set_option maxHeartbeats 4000000 in
set_option maxRecDepth 100000 in
theorem qX2_waysToEnd (l : Launch) (X : XT) (a_this : Nat) (a_ways : Nat) (a_fight : Nat) (a_cards : Nat)  (i_howMany : Int32) (f_ways : Nat → Int64) (x0 : Int32) (o : Int64) (hf : mX2_waysToEnd x0 f_ways = some o) :
    ML l yX2_waysToEnd wsX2_waysToEnd rmX2_waysToEnd X [.ref a_this, .int x0] [(a_this, .inr (2, [.ref a_fight, .ref a_cards, .ref a_ways, .int i_howMany])), (a_ways, .inl (X.2.1 1, 9, .inr (.inl f_ways)))]  [(a_this, .inr (2, [.ref a_fight, .ref a_cards, .ref a_ways, .int i_howMany])), (a_ways, .inl (X.2.1 1, 9, .inr (.inl f_ways)))] o := by
  refine ML_ofH (cc := cX2_waysToEnd) (maxL := 7) (by decide) rfl (Nat.le_of_ble_eq_true rfl) ?_
  intro p e s m below meth c A Q H ls hx hb hml hts hown hA hD hG hP hS hl ret
  have hown : s.vm.findClass RX2 = some m.cls := hown
  have hD : aD A [a_this, a_ways] := hD
  have hl : lv_has ls 7 [(0, .ref a_this), (1, .int x0)] := hl
  have w1 := hts (.fieldLink RX2 9 "ThreeCards$Coins" "ways" "[J") (List.mem_of_getElem? (i := 1) rfl)
  have in2 : ∀ w ∈ u_ws RX2 TX2 4, w ∈ wsX2_waysToEnd := by decide +kernel
  have hL23 : ∀ (k5 : Int64 → Int32 → Option (Int64)) (hk5 : ∀ (l2 : Int64) (l4 : Int32)  (H : Heap) (locs : List Loc) (ls : Array Slot), va_P X.1 vwCl [(a_this, .inr (2, [.ref a_fight, .ref a_cards, .ref a_ways, .int i_howMany])), (a_ways, .inl (X.2.1 1, 9, .inr (.inl f_ways)))] H → va_S A s.heap H locs → lv_has ls 7 [(0, .ref a_this), (1, .int x0), (2, .long l2), (4, .int l4)] → k5 l2 l4 = some o → W p l e rmX2_waysToEnd s m ([.ref a_this, .int x0] : List Value).toArray below meth c H locs 0 0 Q (F0 m 5 ls [])) (k14 : Int64 → Int32 → Int32 → Option (Int64)) (hk14 : ∀ (l2 : Int64) (l4 : Int32) (l5 : Int32)  (H : Heap) (locs : List Loc) (ls : Array Slot), va_P X.1 vwCl [(a_this, .inr (2, [.ref a_fight, .ref a_cards, .ref a_ways, .int i_howMany])), (a_ways, .inl (X.2.1 1, 9, .inr (.inl f_ways)))] H → va_S A s.heap H locs → lv_has ls 7 [(0, .ref a_this), (1, .int x0), (2, .long l2), (4, .int l4), (5, .int l5)] → k14 l2 l4 l5 = some o → W p l e rmX2_waysToEnd s m ([.ref a_this, .int x0] : List Value).toArray below meth c H locs 0 0 Q (F0 m 14 ls [])) (n : Nat) (l2 : Int64) (l4 : Int32) (l5 : Int32) (l6 : Int32)  (H : Heap) (locs : List Loc) (ls : Array Slot), va_P X.1 vwCl [(a_this, .inr (2, [.ref a_fight, .ref a_cards, .ref a_ways, .int i_howMany])), (a_ways, .inl (X.2.1 1, 9, .inr (.inl f_ways)))] H → va_S A s.heap H locs → lv_has ls 7 [(0, .ref a_this), (1, .int x0), (2, .long l2), (4, .int l4), (5, .int l5), (6, .int l6)] → mX2_waysToEnd_L23 x0 f_ways k5 k14 n l2 l4 l5 l6 = some o → W p l e rmX2_waysToEnd s m ([.ref a_this, .int x0] : List Value).toArray below meth c H locs 0 0 Q (F0 m 23 ls []) := by
    intro k5 hk5 k14 hk14 n
    induction n with
    | zero => intro l2 l4 l5 l6  H locs ls hP hS hl hf; exact xn hf
    | succ n ih =>
      intro l2 l4 l5 l6  H locs ls hP hS hl hf
      have hf : mX2_waysToEnd_B23 x0 f_ways k5 k14 (mX2_waysToEnd_L23 x0 f_ways k5 k14 n) l2 l4 l5 l6 = some o := hf
      generalize mX2_waysToEnd_L23 x0 f_ways k5 k14 n = k23 at ih hf
      unfold mX2_waysToEnd_B23 at hf
      refine lv_iload hx hb dX2_waysToEnd_23 (lv_at hl 5 rfl) ?_
      refine lv_iconst (v := (3 : Int32)) hx hb dX2_waysToEnd_25 (by decide) ?_
      refine lv_icmp_ge (tgt := 79) hx hb dX2_waysToEnd_26 (by decide) (fun c_4 => ?_) (fun c_4 => ?_)
      · have hf := xt hf c_4
        obtain ⟨v_5, ev_5, hf⟩ := lb_g hf
        refine lv_iinc (v := v_5) (lv' := [(5, .int v_5), (0, .ref a_this), (1, .int x0), (2, .long l2), (4, .int l4), (6, .int l6)]) hx hb dX2_waysToEnd_79 hl (k := 4) rfl ev_5.symm (by decide) rfl (fun ls hl => ?_)
        refine lv_goto (tgt := 14) hx hb dX2_waysToEnd_82 (by decide) ?_
        exact hk14 l2 l4 v_5  H _ ls hP  hS (lv_sub hl [1, 2, 3, 4, 0] rfl) hf
      · have hf := xf hf c_4
        refine lv_iload hx hb dX2_waysToEnd_29 (lv_at hl 3 rfl) ?_
        refine lv_iload hx hb dX2_waysToEnd_31 (lv_at hl 4 rfl) ?_
        refine lv_iload hx hb dX2_waysToEnd_33 (lv_at hl 5 rfl) ?_
        obtain ⟨o_6, ho_6, hf⟩ := ob_s hf
        refine xS_i (As := [.int l4, .int l5, .int l6]) (rest := []) (ws2 := [(a_this, .inr (2, [.ref a_fight, .ref a_cards, .ref a_ways, .int i_howMany])), (a_ways, .inl (X.2.1 1, 9, .inr (.inl f_ways)))]) hx hb hml hts hown hG hA hP hD rfl hS hl.1 (qX1_endOf l X l4 l5 l6 o_6 ho_6) (va_cwS (y := yX1_endOf) 3 hts gX2_waysToEnd_X1_endOf rfl rfl rfl hdsX1_endOf ⟨Nat.le_of_ble_eq_true rfl, Nat.le_of_ble_eq_true rfl⟩) [] [0, 1] [0, 1] rfl rfl rfl rfl rfl rfl rfl rfl rfl (Nat.le_of_ble_eq_true rfl) ⟨Nat.le_of_ble_eq_true rfl, Nat.le_of_ble_eq_true rfl⟩ dX2_waysToEnd_35 (fun H locs hP _ hS => ?_)
        refine lv_iload_n hx hb dX2_waysToEnd_38 rfl (lv_at hl 1 rfl) ?_
        refine lv_icmp_ne (tgt := 73) hx hb dX2_waysToEnd_39 (by decide) (fun c_8 => ?_) (fun c_8 => ?_)
        · have hf := xf hf c_8
          obtain ⟨v_9, ev_9, hf⟩ := lb_g hf
          refine lv_iinc (v := v_9) (lv' := [(6, .int v_9), (0, .ref a_this), (1, .int x0), (2, .long l2), (4, .int l4), (5, .int l5)]) hx hb dX2_waysToEnd_73 hl (k := 5) rfl ev_9.symm (by decide) rfl (fun ls hl => ?_)
          refine lv_goto (tgt := 23) hx hb dX2_waysToEnd_76 (by decide) ?_
          exact ih l2 l4 l5 v_9  H _ ls hP  hS (lv_sub hl [1, 2, 3, 4, 5, 0] rfl) hf
        · have hf := xt hf c_8
          refine lv_lload_n hx hb dX2_waysToEnd_42 rfl (lv_at hl 2 rfl) ?_
          refine lv_aload_n hx hb dX2_waysToEnd_43 rfl (lv_at hl 0 rfl) ?_
          refine va_get (D := X.1) (ci := 2) (v := .ref a_ways) (C := RX2) (T := TX2) (N := 4) hx hb hts in2 hown hG.1 hP 0 rfl rfl 2 (by decide) w1 (fun _ h9 => h9) rfl dX2_waysToEnd_44 ?_
          refine lv_iload hx hb dX2_waysToEnd_47 (lv_at hl 3 rfl) ?_
          obtain ⟨h_10, hf⟩ := gi_s hf
          refine va_lald (D := X.1) hx hb hG.1 hP 1 1 rfl rfl h_10 dX2_waysToEnd_49 ?_
          refine lv_aload_n hx hb dX2_waysToEnd_50 rfl (lv_at hl 0 rfl) ?_
          refine va_get (D := X.1) (ci := 2) (v := .ref a_ways) (C := RX2) (T := TX2) (N := 4) hx hb hts in2 hown hG.1 hP 0 rfl rfl 2 (by decide) w1 (fun _ h9 => h9) rfl dX2_waysToEnd_51 ?_
          refine lv_iconst (v := (3 : Int32)) hx hb dX2_waysToEnd_54 (by decide) ?_
          refine lv_iload hx hb dX2_waysToEnd_55 (lv_at hl 4 rfl) ?_
          refine lv_iadd hx hb dX2_waysToEnd_57 ?_
          obtain ⟨h_11, hf⟩ := gi_s hf
          refine va_lald (D := X.1) hx hb hG.1 hP 1 1 rfl rfl h_11 dX2_waysToEnd_58 ?_
          refine lv_lmul hx hb dX2_waysToEnd_59 ?_
          refine lv_aload_n hx hb dX2_waysToEnd_60 rfl (lv_at hl 0 rfl) ?_
          refine va_get (D := X.1) (ci := 2) (v := .ref a_ways) (C := RX2) (T := TX2) (N := 4) hx hb hts in2 hown hG.1 hP 0 rfl rfl 2 (by decide) w1 (fun _ h9 => h9) rfl dX2_waysToEnd_61 ?_
          refine lv_bipush (v := (6 : Int32)) hx hb dX2_waysToEnd_64 (by decide) ?_
          refine lv_iload hx hb dX2_waysToEnd_66 (lv_at hl 5 rfl) ?_
          refine lv_iadd hx hb dX2_waysToEnd_68 ?_
          obtain ⟨h_12, hf⟩ := gi_s hf
          refine va_lald (D := X.1) hx hb hG.1 hP 1 1 rfl rfl h_12 dX2_waysToEnd_69 ?_
          refine lv_lmul hx hb dX2_waysToEnd_70 ?_
          refine lv_ladd hx hb dX2_waysToEnd_71 ?_
          refine lv_topl (fun v_13 ev_13 => ?_)
          have hf := lb_s hf ev_13
          refine lv_lstore_n (lv' := [(2, .long v_13), (0, .ref a_this), (1, .int x0), (4, .int l4), (5, .int l5), (6, .int l6)]) hx hb dX2_waysToEnd_72 rfl hl (by decide) rfl (fun ls hl => ?_)
          obtain ⟨v_14, ev_14, hf⟩ := lb_g hf
          refine lv_iinc (v := v_14) (lv' := [(6, .int v_14), (2, .long v_13), (0, .ref a_this), (1, .int x0), (4, .int l4), (5, .int l5)]) hx hb dX2_waysToEnd_73 hl (k := 5) rfl ev_14.symm (by decide) rfl (fun ls hl => ?_)
          refine lv_goto (tgt := 23) hx hb dX2_waysToEnd_76 (by decide) ?_
          exact ih v_13 l4 l5 v_14  H _ ls hP  hS (lv_sub hl [2, 3, 1, 4, 5, 0] rfl) hf
  have hL14 : ∀ (k5 : Int64 → Int32 → Option (Int64)) (hk5 : ∀ (l2 : Int64) (l4 : Int32)  (H : Heap) (locs : List Loc) (ls : Array Slot), va_P X.1 vwCl [(a_this, .inr (2, [.ref a_fight, .ref a_cards, .ref a_ways, .int i_howMany])), (a_ways, .inl (X.2.1 1, 9, .inr (.inl f_ways)))] H → va_S A s.heap H locs → lv_has ls 7 [(0, .ref a_this), (1, .int x0), (2, .long l2), (4, .int l4)] → k5 l2 l4 = some o → W p l e rmX2_waysToEnd s m ([.ref a_this, .int x0] : List Value).toArray below meth c H locs 0 0 Q (F0 m 5 ls [])) (n : Nat) (l2 : Int64) (l4 : Int32) (l5 : Int32)  (H : Heap) (locs : List Loc) (ls : Array Slot), va_P X.1 vwCl [(a_this, .inr (2, [.ref a_fight, .ref a_cards, .ref a_ways, .int i_howMany])), (a_ways, .inl (X.2.1 1, 9, .inr (.inl f_ways)))] H → va_S A s.heap H locs → lv_has ls 7 [(0, .ref a_this), (1, .int x0), (2, .long l2), (4, .int l4), (5, .int l5)] → mX2_waysToEnd_L14 x0 f_ways k5 n l2 l4 l5 = some o → W p l e rmX2_waysToEnd s m ([.ref a_this, .int x0] : List Value).toArray below meth c H locs 0 0 Q (F0 m 14 ls []) := by
    intro k5 hk5 n
    induction n with
    | zero => intro l2 l4 l5  H locs ls hP hS hl hf; exact xn hf
    | succ n ih =>
      intro l2 l4 l5  H locs ls hP hS hl hf
      have hf : mX2_waysToEnd_B14 x0 f_ways k5 (mX2_waysToEnd_L14 x0 f_ways k5 n) l2 l4 l5 = some o := hf
      generalize mX2_waysToEnd_L14 x0 f_ways k5 n = k14 at ih hf
      unfold mX2_waysToEnd_B14 at hf
      refine lv_iload hx hb dX2_waysToEnd_14 (lv_at hl 4 rfl) ?_
      refine lv_iconst (v := (3 : Int32)) hx hb dX2_waysToEnd_16 (by decide) ?_
      refine lv_icmp_ge (tgt := 85) hx hb dX2_waysToEnd_17 (by decide) (fun c_2 => ?_) (fun c_2 => ?_)
      · have hf := xt hf c_2
        obtain ⟨v_3, ev_3, hf⟩ := lb_g hf
        refine lv_iinc (v := v_3) (lv' := [(4, .int v_3), (0, .ref a_this), (1, .int x0), (2, .long l2), (5, .int l5)]) hx hb dX2_waysToEnd_85 hl (k := 3) rfl ev_3.symm (by decide) rfl (fun ls hl => ?_)
        refine lv_goto (tgt := 5) hx hb dX2_waysToEnd_88 (by decide) ?_
        exact hk5 l2 v_3  H _ ls hP  hS (lv_sub hl [1, 2, 3, 0] rfl) hf
      · have hf := xf hf c_2
        refine lv_iconst (v := (0 : Int32)) hx hb dX2_waysToEnd_20 (by decide) ?_
        refine lv_istore (lv' := [(6, .int (0 : Int32)), (0, .ref a_this), (1, .int x0), (2, .long l2), (4, .int l4), (5, .int l5)]) hx hb dX2_waysToEnd_21 hl (by decide) rfl (fun ls hl => ?_)
        exact hL23 k5 hk5 k14 ih FUEL l2 l4 l5 (0 : Int32)  H _ ls hP  hS (lv_sub hl [1, 2, 3, 4, 5, 0] rfl) hf
  have hL5 : ∀ (n : Nat) (l2 : Int64) (l4 : Int32)  (H : Heap) (locs : List Loc) (ls : Array Slot), va_P X.1 vwCl [(a_this, .inr (2, [.ref a_fight, .ref a_cards, .ref a_ways, .int i_howMany])), (a_ways, .inl (X.2.1 1, 9, .inr (.inl f_ways)))] H → va_S A s.heap H locs → lv_has ls 7 [(0, .ref a_this), (1, .int x0), (2, .long l2), (4, .int l4)] → mX2_waysToEnd_L5 x0 f_ways  n l2 l4 = some o → W p l e rmX2_waysToEnd s m ([.ref a_this, .int x0] : List Value).toArray below meth c H locs 0 0 Q (F0 m 5 ls []) := by
    intro n
    induction n with
    | zero => intro l2 l4  H locs ls hP hS hl hf; exact xn hf
    | succ n ih =>
      intro l2 l4  H locs ls hP hS hl hf
      have hf : mX2_waysToEnd_B5 x0 f_ways  (mX2_waysToEnd_L5 x0 f_ways  n) l2 l4 = some o := hf
      generalize mX2_waysToEnd_L5 x0 f_ways  n = k5 at ih hf
      unfold mX2_waysToEnd_B5 at hf
      refine lv_iload hx hb dX2_waysToEnd_5 (lv_at hl 3 rfl) ?_
      refine lv_iconst (v := (3 : Int32)) hx hb dX2_waysToEnd_7 (by decide) ?_
      refine lv_icmp_ge (tgt := 91) hx hb dX2_waysToEnd_8 (by decide) (fun c_1 => ?_) (fun c_1 => ?_)
      · have hf := xt hf c_1
        refine lv_lload_n hx hb dX2_waysToEnd_91 rfl (lv_at hl 2 rfl) ?_
        obtain rfl := Option.some.inj hf
        exact ret H _ ls _ hP hD hS dX2_waysToEnd_92
      · have hf := xf hf c_1
        refine lv_iconst (v := (0 : Int32)) hx hb dX2_waysToEnd_11 (by decide) ?_
        refine lv_istore (lv' := [(5, .int (0 : Int32)), (0, .ref a_this), (1, .int x0), (2, .long l2), (4, .int l4)]) hx hb dX2_waysToEnd_12 hl (by decide) rfl (fun ls hl => ?_)
        exact hL14 k5 ih FUEL l2 l4 (0 : Int32)  H _ ls hP  hS (lv_sub hl [1, 2, 3, 4, 0] rfl) hf
  unfold mX2_waysToEnd at hf
  refine lv_lconst (v := (0 : Int64)) hx hb dX2_waysToEnd_0 rfl ?_
  refine lv_lstore_n (lv' := [(2, .long (0 : Int64)), (0, .ref a_this), (1, .int x0)]) hx hb dX2_waysToEnd_1 rfl hl (by decide) rfl (fun ls hl => ?_)
  refine lv_iconst (v := (0 : Int32)) hx hb dX2_waysToEnd_2 (by decide) ?_
  refine lv_istore (lv' := [(4, .int (0 : Int32)), (2, .long (0 : Int64)), (0, .ref a_this), (1, .int x0)]) hx hb dX2_waysToEnd_3 hl (by decide) rfl (fun ls hl => ?_)
  exact hL5  FUEL (0 : Int64) (0 : Int32)  H _ ls hP  hS (lv_sub hl [2, 3, 1, 0] rfl) hf
def mX2_oddsOf_B56 (x0 : Int32) (x1 : Int32) (i_howMany : Int32) (f_ways : Nat → Int64) (l3 : Int64) (l5 : Int64) :
  Option (Int64) :=
  if x1 = 0 then (some l3) else (some l5)
def mX2_oddsOf_B17 (x0 : Int32) (x1 : Int32) (i_howMany : Int32) (f_ways : Nat → Int64) (k17 : Int64 → Int64 → Int32 → Option (Int64)) (l3 : Int64) (l5 : Int64) (l7 : Int32) :
  Option (Int64) :=
  if i_howMany ≤ l7 then (mX2_oddsOf_B56 x0 x1 i_howMany f_ways  l3 l5) else (if (lg_cmp (l3 - l3 / (2 : Int64) * (2 : Int64)) (0 : Int64)) = 0 then (lb (l3 / (2 : Int64)) fun v_6 =>
  lb (l5 / (2 : Int64)) fun v_7 =>
  lb (l7 + (1 : Int32)) fun v_8 =>
  k17 v_6 v_7 v_8) else (mX2_oddsOf_B56 x0 x1 i_howMany f_ways  l3 l5))
def mX2_oddsOf_L17 (x0 : Int32) (x1 : Int32) (i_howMany : Int32) (f_ways : Nat → Int64) (n : Nat) (l3 : Int64) (l5 : Int64) (l7 : Int32) :
  Option (Int64) :=
  loopN (fun k (s : Int64 × Int64 × Int32) => mX2_oddsOf_B17 x0 x1 i_howMany f_ways  (fun l3 l5 l7 => k (l3, l5, l7)) s.1 s.2.1 s.2.2) n (l3, l5, l7)
def mX2_oddsOf (x0 : Int32) (x1 : Int32) (i_howMany : Int32) (f_ways : Nat → Int64) :
  Option (Int64) :=
  (mX2_waysToEnd x0 f_ways).bind fun o_1 =>
  lb ((1 : Int64) <<< (Int32.toInt64 i_howMany &&& 63)) fun v_3 =>
  mX2_oddsOf_L17 x0 x1 i_howMany f_ways  FUEL o_1 v_3 (0 : Int32)
theorem hdsX2_oddsOf : yX2_oddsOf.cls ≠ "java/lang/invoke/MethodHandle" ∧ yX2_oddsOf.cls ≠ "java/lang/invoke/VarHandle" ∧ (parseMethodDescriptor yX2_oddsOf.desc).map (fun d => d.parameters.length) = some 2 := by decide +kernel
theorem hdvX2_oddsOf : yX2_oddsOf.cls = RX2 ∧ yX2_oddsOf.cls ≠ "java/lang/invoke/MethodHandle" ∧ yX2_oddsOf.cls ≠ "java/lang/invoke/VarHandle" ∧ (parseMethodDescriptor yX2_oddsOf.desc).map (fun d => d.parameters.length) = some 2 := by decide +kernel
abbrev rmX2_oddsOf : Room := { frames := 2, cells := 0, slots := 0, locals := 48 }
set_option maxHeartbeats 4000000 in
set_option maxRecDepth 100000 in
theorem qX2_oddsOf (l : Launch) (X : XT) (a_this : Nat) (a_ways : Nat) (a_fight : Nat) (a_cards : Nat)  (i_howMany : Int32) (f_ways : Nat → Int64) (x0 : Int32) (x1 : Int32) (o : Int64) (hf : mX2_oddsOf x0 x1 i_howMany f_ways = some o) :
    ML l yX2_oddsOf wsX2_oddsOf rmX2_oddsOf X [.ref a_this, .int x0, .int x1] [(a_this, .inr (2, [.ref a_fight, .ref a_cards, .ref a_ways, .int i_howMany])), (a_ways, .inl (X.2.1 1, 9, .inr (.inl f_ways)))]  [(a_this, .inr (2, [.ref a_fight, .ref a_cards, .ref a_ways, .int i_howMany])), (a_ways, .inl (X.2.1 1, 9, .inr (.inl f_ways)))] o := by
  refine ML_ofH (cc := cX2_oddsOf) (maxL := 8) (by decide) rfl (Nat.le_of_ble_eq_true rfl) ?_
  intro p e s m below meth c A Q H ls hx hb hml hts hown hA hD hG hP hS hl ret
  have hown : s.vm.findClass RX2 = some m.cls := hown
  have hD : aD A [a_this, a_ways] := hD
  have hl : lv_has ls 8 [(0, .ref a_this), (1, .int x0), (2, .int x1)] := hl
  have w1 := hts (.fieldLink RX2 15 "ThreeCards$Coins" "howMany" "I") (List.mem_of_getElem? (i := 1) rfl)
  have w2 := hts (.constantLong RX2 60 (2)) (List.mem_of_getElem? (i := 2) rfl)
  have in2 : ∀ w ∈ u_ws RX2 TX2 4, w ∈ wsX2_oddsOf := by decide +kernel
  have hB56 : ∀ (l3 : Int64) (l5 : Int64)  (H : Heap) (locs : List Loc) (ls : Array Slot), va_P X.1 vwCl [(a_this, .inr (2, [.ref a_fight, .ref a_cards, .ref a_ways, .int i_howMany])), (a_ways, .inl (X.2.1 1, 9, .inr (.inl f_ways)))] H → va_S A s.heap H locs → lv_has ls 8 [(2, .int x1), (3, .long l3), (5, .long l5)] → mX2_oddsOf_B56 x0 x1 i_howMany f_ways  l3 l5 = some o → W p l e rmX2_oddsOf s m ([.ref a_this, .int x0, .int x1] : List Value).toArray below meth c H locs 0 0 Q (F0 m 56 ls []) := by
    intro l3 l5  H locs ls hP hS hl hf
    unfold mX2_oddsOf_B56 at hf
    refine lv_iload_n hx hb dX2_oddsOf_56 rfl (lv_at hl 0 rfl) ?_
    refine lv_if_ne (tgt := 64) hx hb dX2_oddsOf_57 (by decide) (fun c_9 => ?_) (fun c_9 => ?_)
    · have hf := xf hf c_9
      refine lv_lload hx hb dX2_oddsOf_64 (lv_at hl 2 rfl) ?_
      obtain rfl := Option.some.inj hf
      exact ret H _ ls _ hP hD hS dX2_oddsOf_66
    · have hf := xt hf c_9
      refine lv_lload_n hx hb dX2_oddsOf_60 rfl (lv_at hl 1 rfl) ?_
      refine lv_goto (tgt := 66) hx hb dX2_oddsOf_61 (by decide) ?_
      obtain rfl := Option.some.inj hf
      exact ret H _ ls _ hP hD hS dX2_oddsOf_66
  have hL17 : ∀ (n : Nat) (l3 : Int64) (l5 : Int64) (l7 : Int32)  (H : Heap) (locs : List Loc) (ls : Array Slot), va_P X.1 vwCl [(a_this, .inr (2, [.ref a_fight, .ref a_cards, .ref a_ways, .int i_howMany])), (a_ways, .inl (X.2.1 1, 9, .inr (.inl f_ways)))] H → va_S A s.heap H locs → lv_has ls 8 [(0, .ref a_this), (2, .int x1), (3, .long l3), (5, .long l5), (7, .int l7)] → mX2_oddsOf_L17 x0 x1 i_howMany f_ways  n l3 l5 l7 = some o → W p l e rmX2_oddsOf s m ([.ref a_this, .int x0, .int x1] : List Value).toArray below meth c H locs 0 0 Q (F0 m 17 ls []) := by
    intro n
    induction n with
    | zero => intro l3 l5 l7  H locs ls hP hS hl hf; exact xn hf
    | succ n ih =>
      intro l3 l5 l7  H locs ls hP hS hl hf
      have hf : mX2_oddsOf_B17 x0 x1 i_howMany f_ways  (mX2_oddsOf_L17 x0 x1 i_howMany f_ways  n) l3 l5 l7 = some o := hf
      generalize mX2_oddsOf_L17 x0 x1 i_howMany f_ways  n = k17 at ih hf
      unfold mX2_oddsOf_B17 at hf
      refine lv_iload hx hb dX2_oddsOf_17 (lv_at hl 4 rfl) ?_
      refine lv_aload_n hx hb dX2_oddsOf_19 rfl (lv_at hl 0 rfl) ?_
      refine va_get (D := X.1) (ci := 2) (v := .int i_howMany) (C := RX2) (T := TX2) (N := 4) hx hb hts in2 hown hG.1 hP 0 rfl rfl 3 (by decide) w1 (fun _ h9 => h9) rfl dX2_oddsOf_20 ?_
      refine lv_icmp_ge (tgt := 56) hx hb dX2_oddsOf_23 (by decide) (fun c_4 => ?_) (fun c_4 => ?_)
      · have hf := xt hf c_4
        exact hB56  l3 l5  H _ ls hP  hS (lv_sub hl [1, 2, 3] rfl) hf
      · have hf := xf hf c_4
        refine lv_lload_n hx hb dX2_oddsOf_26 rfl (lv_at hl 2 rfl) ?_
        refine lv_ldc2 (v := (2 : Int64)) hx hb hown w2 dX2_oddsOf_27 ?_
        refine lv_lrem hx hb dX2_oddsOf_30 (by decide) ?_
        refine lv_lconst (v := (0 : Int64)) hx hb dX2_oddsOf_31 rfl ?_
        refine W.lcmp hx hb dX2_oddsOf_32 ?_
        refine lv_if_ne (tgt := 56) hx hb dX2_oddsOf_33 (by decide) (fun c_5 => ?_) (fun c_5 => ?_)
        · have hf := xf hf c_5
          exact hB56  l3 l5  H _ ls hP  hS (lv_sub hl [1, 2, 3] rfl) hf
        · have hf := xt hf c_5
          refine lv_lload_n hx hb dX2_oddsOf_36 rfl (lv_at hl 2 rfl) ?_
          refine lv_ldc2 (v := (2 : Int64)) hx hb hown w2 dX2_oddsOf_37 ?_
          refine lv_ldiv hx hb dX2_oddsOf_40 (by decide) ?_
          refine lv_topl (fun v_6 ev_6 => ?_)
          have hf := lb_s hf ev_6
          refine lv_lstore_n (lv' := [(3, .long v_6), (0, .ref a_this), (2, .int x1), (5, .long l5), (7, .int l7)]) hx hb dX2_oddsOf_41 rfl hl (by decide) rfl (fun ls hl => ?_)
          refine lv_lload hx hb dX2_oddsOf_42 (lv_at hl 3 rfl) ?_
          refine lv_ldc2 (v := (2 : Int64)) hx hb hown w2 dX2_oddsOf_44 ?_
          refine lv_ldiv hx hb dX2_oddsOf_47 (by decide) ?_
          refine lv_topl (fun v_7 ev_7 => ?_)
          have hf := lb_s hf ev_7
          refine lv_lstore (lv' := [(5, .long v_7), (3, .long v_6), (0, .ref a_this), (2, .int x1), (7, .int l7)]) hx hb dX2_oddsOf_48 hl (by decide) rfl (fun ls hl => ?_)
          obtain ⟨v_8, ev_8, hf⟩ := lb_g hf
          refine lv_iinc (v := v_8) (lv' := [(7, .int v_8), (5, .long v_7), (3, .long v_6), (0, .ref a_this), (2, .int x1)]) hx hb dX2_oddsOf_50 hl (k := 4) rfl ev_8.symm (by decide) rfl (fun ls hl => ?_)
          refine lv_goto (tgt := 17) hx hb dX2_oddsOf_53 (by decide) ?_
          exact ih v_6 v_7 v_8  H _ ls hP  hS (lv_sub hl [3, 4, 2, 1, 0] rfl) hf
  unfold mX2_oddsOf at hf
  refine lv_aload_n hx hb dX2_oddsOf_0 rfl (lv_at hl 0 rfl) ?_
  refine lv_iload_n hx hb dX2_oddsOf_1 rfl (lv_at hl 1 rfl) ?_
  obtain ⟨o_1, ho_1, hf⟩ := ob_s hf
  refine xV_l (As := [.int x0]) (b := a_this) (rest := []) (ws2 := [(a_this, .inr (2, [.ref a_fight, .ref a_cards, .ref a_ways, .int i_howMany])), (a_ways, .inl (X.2.1 1, 9, .inr (.inl f_ways)))]) hx hb hml hts hown hG hA hP hD rfl hS hl.1 (qX2_waysToEnd l X a_this a_ways a_fight a_cards i_howMany f_ways x0 o_1 ho_1) (cwV (y := yX2_waysToEnd) 1 hts gX2_oddsOf_X2_waysToEnd rfl rfl rfl hdvX2_waysToEnd ⟨Nat.le_of_ble_eq_true rfl, Nat.le_of_ble_eq_true rfl⟩) [0, 1] [] [0, 1] rfl rfl rfl rfl rfl rfl rfl (ci := 2) rfl 0 rfl rfl rfl (Nat.le_of_ble_eq_true rfl) ⟨Nat.le_of_ble_eq_true rfl, Nat.le_of_ble_eq_true rfl⟩ dX2_oddsOf_2 (fun H locs hP _ hS => ?_)
  refine lv_lstore_n (lv' := [(3, .long o_1), (0, .ref a_this), (1, .int x0), (2, .int x1)]) hx hb dX2_oddsOf_5 rfl hl (by decide) rfl (fun ls hl => ?_)
  refine lv_lconst (v := (1 : Int64)) hx hb dX2_oddsOf_6 rfl ?_
  refine lv_aload_n hx hb dX2_oddsOf_7 rfl (lv_at hl 1 rfl) ?_
  refine va_get (D := X.1) (ci := 2) (v := .int i_howMany) (C := RX2) (T := TX2) (N := 4) hx hb hts in2 hown hG.1 hP 0 rfl rfl 3 (by decide) w1 (fun _ h9 => h9) rfl dX2_oddsOf_8 ?_
  refine lv_lshl hx hb dX2_oddsOf_11 rfl ?_
  refine lv_topl (fun v_3 ev_3 => ?_)
  have hf := lb_s hf ev_3
  refine lv_lstore (lv' := [(5, .long v_3), (3, .long o_1), (0, .ref a_this), (1, .int x0), (2, .int x1)]) hx hb dX2_oddsOf_12 hl (by decide) rfl (fun ls hl => ?_)
  refine lv_iconst (v := (0 : Int32)) hx hb dX2_oddsOf_14 (by decide) ?_
  refine lv_istore (lv' := [(7, .int (0 : Int32)), (5, .long v_3), (3, .long o_1), (0, .ref a_this), (1, .int x0), (2, .int x1)]) hx hb dX2_oddsOf_15 hl (by decide) rfl (fun ls hl => ?_)
  exact hL17  FUEL o_1 v_3 (0 : Int32)  H _ ls hP  hS (lv_sub hl [3, 5, 2, 1, 0] rfl) hf
