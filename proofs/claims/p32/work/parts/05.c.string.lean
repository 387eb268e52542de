def mJ0_coder_7d493  :
  Option (Int32) :=
  if (1 : Int32) = 0 then (some (1 : Int32)) else (some (0 : Int32))
theorem hdsJ0_coder_7d493 : yJ0_coder_7d493.cls ≠ "java/lang/invoke/MethodHandle" ∧ yJ0_coder_7d493.cls ≠ "java/lang/invoke/VarHandle" ∧ (parseMethodDescriptor yJ0_coder_7d493.desc).map (fun d => d.parameters.length) = some 0 := by decide +kernel
theorem hdvJ0_coder_7d493 : yJ0_coder_7d493.cls = RJ0 ∧ yJ0_coder_7d493.cls ≠ "java/lang/invoke/MethodHandle" ∧ yJ0_coder_7d493.cls ≠ "java/lang/invoke/VarHandle" ∧ (parseMethodDescriptor yJ0_coder_7d493.desc).map (fun d => d.parameters.length) = some 0 := by decide +kernel
abbrev rmJ0_coder_7d493 : Room := { frames := 0, cells := 0, slots := 0, locals := 0 }
set_option maxHeartbeats 4000000 in
set_option maxRecDepth 100000 in
theorem qJ0_coder_7d493 (l : Launch) (X : XT)     (o : Int32) (hf : mJ0_coder_7d493  = some o) :
    MI l yJ0_coder_7d493 wsJ0_coder_7d493 rmJ0_coder_7d493 X [.ref (X.2.2 4)] []  [] o := by
  refine MI_ofH (cc := cJ0_coder_7d493) (maxL := 1) (rt := .byte) (by decide) rfl (Nat.le_of_ble_eq_true rfl) ?_
  intro p e s m below meth c A Q H ls hx hb hml hts hown hA hD hG hP hS hl ret
  have hown : s.vm.findClass RJ0 = some m.cls := hown
  have hD : aD A [] := hD
  have hl : lv_has ls 1 [(0, .ref (X.2.2 4))] := hl
  have w1 := hts (.fieldLink RJ0 38 "java/lang/String" "COMPACT_STRINGS" "Z") (List.mem_of_getElem? (i := 1) rfl)
  have w2 := hts (.fieldLink RJ0 15 "java/lang/String" "coder" "B") (List.mem_of_getElem? (i := 2) rfl)
  unfold mJ0_coder_7d493 at hf
  refine va_gets hx hb hG.2.2.1.2.2.2.2.1 hS hown w1 (fun _ h9 => h9) dJ0_coder_7d493_0 ?_
  refine lv_if_eq (tgt := 13) hx hb dJ0_coder_7d493_3 (by decide) (fun c_1 => ?_) (fun c_1 => ?_)
  · have hf := xt hf c_1
    refine lv_iconst (v := (1 : Int32)) hx hb dJ0_coder_7d493_13 (by decide) ?_
    obtain rfl := Option.some.inj hf
    exact ret H _ ls _ rfl hP hD hS dJ0_coder_7d493_14
  · have hf := xf hf c_1
    refine lv_aload_n hx hb dJ0_coder_7d493_6 rfl (lv_at hl 0 rfl) ?_
    refine vk_getf hx hb (str_coder hG) hS hown w2 (fun _ h9 => h9) dJ0_coder_7d493_7 ?_
    refine lv_goto (tgt := 14) hx hb dJ0_coder_7d493_10 (by decide) ?_
    obtain rfl := Option.some.inj hf
    exact ret H _ ls _ rfl hP hD hS dJ0_coder_7d493_14
def mJ0_isLatin1_aae02  :
  Option (Int32) :=
  if (1 : Int32) = 0 then (some (0 : Int32)) else (if (0 : Int32) = 0 then (some (1 : Int32)) else (some (0 : Int32)))
theorem hdsJ0_isLatin1_aae02 : yJ0_isLatin1_aae02.cls ≠ "java/lang/invoke/MethodHandle" ∧ yJ0_isLatin1_aae02.cls ≠ "java/lang/invoke/VarHandle" ∧ (parseMethodDescriptor yJ0_isLatin1_aae02.desc).map (fun d => d.parameters.length) = some 0 := by decide +kernel
theorem hdvJ0_isLatin1_aae02 : yJ0_isLatin1_aae02.cls = RJ0 ∧ yJ0_isLatin1_aae02.cls ≠ "java/lang/invoke/MethodHandle" ∧ yJ0_isLatin1_aae02.cls ≠ "java/lang/invoke/VarHandle" ∧ (parseMethodDescriptor yJ0_isLatin1_aae02.desc).map (fun d => d.parameters.length) = some 0 := by decide +kernel
abbrev rmJ0_isLatin1_aae02 : Room := { frames := 0, cells := 0, slots := 0, locals := 0 }
set_option maxHeartbeats 4000000 in
set_option maxRecDepth 100000 in
theorem qJ0_isLatin1_aae02 (l : Launch) (X : XT)     (o : Int32) (hf : mJ0_isLatin1_aae02  = some o) :
    MI l yJ0_isLatin1_aae02 wsJ0_isLatin1_aae02 rmJ0_isLatin1_aae02 X [.ref (X.2.2 4)] []  [] o := by
  refine MI_ofH (cc := cJ0_isLatin1_aae02) (maxL := 1) (rt := .boolean) (by decide) rfl (Nat.le_of_ble_eq_true rfl) ?_
  intro p e s m below meth c A Q H ls hx hb hml hts hown hA hD hG hP hS hl ret
  have hown : s.vm.findClass RJ0 = some m.cls := hown
  have hD : aD A [] := hD
  have hl : lv_has ls 1 [(0, .ref (X.2.2 4))] := hl
  have w1 := hts (.fieldLink RJ0 38 "java/lang/String" "COMPACT_STRINGS" "Z") (List.mem_of_getElem? (i := 1) rfl)
  have w2 := hts (.fieldLink RJ0 15 "java/lang/String" "coder" "B") (List.mem_of_getElem? (i := 2) rfl)
  unfold mJ0_isLatin1_aae02 at hf
  refine va_gets hx hb hG.2.2.1.2.2.2.2.1 hS hown w1 (fun _ h9 => h9) dJ0_isLatin1_aae02_0 ?_
  refine lv_if_eq (tgt := 17) hx hb dJ0_isLatin1_aae02_3 (by decide) (fun c_1 => ?_) (fun c_1 => ?_)
  · have hf := xt hf c_1
    refine lv_iconst (v := (0 : Int32)) hx hb dJ0_isLatin1_aae02_17 (by decide) ?_
    obtain rfl := Option.some.inj hf
    exact ret H _ ls _ (show narrow .boolean (.int (0 : Int32)) = .int (0 : Int32) from rfl) hP hD hS dJ0_isLatin1_aae02_18
  · have hf := xf hf c_1
    refine lv_aload_n hx hb dJ0_isLatin1_aae02_6 rfl (lv_at hl 0 rfl) ?_
    refine vk_getf hx hb (str_coder hG) hS hown w2 (fun _ h9 => h9) dJ0_isLatin1_aae02_7 ?_
    refine lv_if_ne (tgt := 17) hx hb dJ0_isLatin1_aae02_10 (by decide) (fun c_2 => ?_) (fun c_2 => ?_)
    · have hf := xf hf c_2
      refine lv_iconst (v := (0 : Int32)) hx hb dJ0_isLatin1_aae02_17 (by decide) ?_
      obtain rfl := Option.some.inj hf
      exact ret H _ ls _ (show narrow .boolean (.int (0 : Int32)) = .int (0 : Int32) from rfl) hP hD hS dJ0_isLatin1_aae02_18
    · have hf := xt hf c_2
      refine lv_iconst (v := (1 : Int32)) hx hb dJ0_isLatin1_aae02_13 (by decide) ?_
      refine lv_goto (tgt := 18) hx hb dJ0_isLatin1_aae02_14 (by decide) ?_
      obtain rfl := Option.some.inj hf
      exact ret H _ ls _ (show narrow .boolean (.int (1 : Int32)) = .int (1 : Int32) from rfl) hP hD hS dJ0_isLatin1_aae02_18
def mJ0_length_8abf5  :
  Option (Int32) :=
  (mJ0_coder_7d493 ).bind fun o_1 =>
  lb ((7 : Int32) >>> (o_1 &&& 31)) fun v_3 =>
  some v_3
theorem hdsJ0_length_8abf5 : yJ0_length_8abf5.cls ≠ "java/lang/invoke/MethodHandle" ∧ yJ0_length_8abf5.cls ≠ "java/lang/invoke/VarHandle" ∧ (parseMethodDescriptor yJ0_length_8abf5.desc).map (fun d => d.parameters.length) = some 0 := by decide +kernel
theorem hdvJ0_length_8abf5 : yJ0_length_8abf5.cls = RJ0 ∧ yJ0_length_8abf5.cls ≠ "java/lang/invoke/MethodHandle" ∧ yJ0_length_8abf5.cls ≠ "java/lang/invoke/VarHandle" ∧ (parseMethodDescriptor yJ0_length_8abf5.desc).map (fun d => d.parameters.length) = some 0 := by decide +kernel
abbrev rmJ0_length_8abf5 : Room := { frames := 1, cells := 0, slots := 0, locals := 20 }
set_option maxHeartbeats 4000000 in
set_option maxRecDepth 100000 in
theorem qJ0_length_8abf5 (l : Launch) (X : XT)     (o : Int32) (hf : mJ0_length_8abf5  = some o) :
    MI l yJ0_length_8abf5 wsJ0_length_8abf5 rmJ0_length_8abf5 X [.ref (X.2.2 4)] []  [] o := by
  refine MI_ofH (cc := cJ0_length_8abf5) (maxL := 1) (rt := .int) (by decide) rfl (Nat.le_of_ble_eq_true rfl) ?_
  intro p e s m below meth c A Q H ls hx hb hml hts hown hA hD hG hP hS hl ret
  have hown : s.vm.findClass RJ0 = some m.cls := hown
  have hD : aD A [] := hD
  have hl : lv_has ls 1 [(0, .ref (X.2.2 4))] := hl
  have w1 := hts (.fieldLink RJ0 9 "java/lang/String" "value" "[B") (List.mem_of_getElem? (i := 1) rfl)
  unfold mJ0_length_8abf5 at hf
  refine lv_aload_n hx hb dJ0_length_8abf5_0 rfl (lv_at hl 0 rfl) ?_
  refine vk_getf hx hb (str_value hG) hS hown w1 (fun _ h9 => h9) dJ0_length_8abf5_1 ?_
  refine va_tlen (v := (7 : Int32)) hx hb (str_T hG) hS rfl dJ0_length_8abf5_4 ?_
  refine lv_aload_n hx hb dJ0_length_8abf5_5 rfl (lv_at hl 0 rfl) ?_
  obtain ⟨o_1, ho_1, hf⟩ := ob_s hf
  refine xVs_i (As := []) (b := X.2.2 4) (rest := [.int (7 : Int32)]) (ws2 := []) hx hb hml hts hown hG hA hP hD rfl hS hl.1 (qJ0_coder_7d493 l X  o_1 ho_1) (cwV (y := yJ0_coder_7d493) 0 hts gJ0_length_8abf5_J0_coder_7d493 rfl rfl rfl hdvJ0_coder_7d493 ⟨Nat.le_of_ble_eq_true rfl, Nat.le_of_ble_eq_true rfl⟩) [] [] [] rfl rfl rfl rfl rfl rfl rfl (str_recv hG hS) rfl rfl (Nat.le_of_ble_eq_true rfl) ⟨Nat.le_of_ble_eq_true rfl, Nat.le_of_ble_eq_true rfl⟩ dJ0_length_8abf5_6 (fun H locs hP _ hS => ?_)
  refine lv_ishr hx hb dJ0_length_8abf5_9 ?_
  refine lv_topi (fun v_3 ev_3 => ?_)
  have hf := lb_s hf ev_3
  obtain rfl := Option.some.inj hf
  exact ret H _ ls _ rfl hP hD hS dJ0_length_8abf5_10
def mJ1_canEncode_9a6ad (x0 : Int32) :
  Option (Int32) :=
  if x0 < 0 then (some (0 : Int32)) else (if (255 : Int32) < x0 then (some (0 : Int32)) else (some (1 : Int32)))
theorem hdsJ1_canEncode_9a6ad : yJ1_canEncode_9a6ad.cls ≠ "java/lang/invoke/MethodHandle" ∧ yJ1_canEncode_9a6ad.cls ≠ "java/lang/invoke/VarHandle" ∧ (parseMethodDescriptor yJ1_canEncode_9a6ad.desc).map (fun d => d.parameters.length) = some 1 := by decide +kernel
abbrev rmJ1_canEncode_9a6ad : Room := { frames := 0, cells := 0, slots := 0, locals := 0 }
set_option maxHeartbeats 4000000 in
set_option maxRecDepth 100000 in
theorem qJ1_canEncode_9a6ad (l : Launch) (X : XT)    (x0 : Int32) (o : Int32) (hf : mJ1_canEncode_9a6ad x0 = some o) :
    MI l yJ1_canEncode_9a6ad wsJ1_canEncode_9a6ad rmJ1_canEncode_9a6ad X [.int x0] []  [] o := by
  refine MI_ofH (cc := cJ1_canEncode_9a6ad) (maxL := 1) (rt := .boolean) (by decide) rfl (Nat.le_of_ble_eq_true rfl) ?_
  intro p e s m below meth c A Q H ls hx hb hml hts hown hA hD hG hP hS hl ret
  have hown : s.vm.findClass RJ1 = some m.cls := hown
  have hD : aD A [] := hD
  have hl : lv_has ls 1 [(0, .int x0)] := hl
  unfold mJ1_canEncode_9a6ad at hf
  refine lv_iload_n hx hb dJ1_canEncode_9a6ad_0 rfl (lv_at hl 0 rfl) ?_
  refine lv_if_lt (tgt := 15) hx hb dJ1_canEncode_9a6ad_1 (by decide) (fun c_1 => ?_) (fun c_1 => ?_)
  · have hf := xt hf c_1
    refine lv_iconst (v := (0 : Int32)) hx hb dJ1_canEncode_9a6ad_15 (by decide) ?_
    obtain rfl := Option.some.inj hf
    exact ret H _ ls _ (show narrow .boolean (.int (0 : Int32)) = .int (0 : Int32) from rfl) hP hD hS dJ1_canEncode_9a6ad_16
  · have hf := xf hf c_1
    refine lv_iload_n hx hb dJ1_canEncode_9a6ad_4 rfl (lv_at hl 0 rfl) ?_
    refine lv_sipush (v := (255 : Int32)) hx hb dJ1_canEncode_9a6ad_5 (by decide) ?_
    refine lv_icmp_gt (tgt := 15) hx hb dJ1_canEncode_9a6ad_8 (by decide) (fun c_2 => ?_) (fun c_2 => ?_)
    · have hf := xt hf c_2
      refine lv_iconst (v := (0 : Int32)) hx hb dJ1_canEncode_9a6ad_15 (by decide) ?_
      obtain rfl := Option.some.inj hf
      exact ret H _ ls _ (show narrow .boolean (.int (0 : Int32)) = .int (0 : Int32) from rfl) hP hD hS dJ1_canEncode_9a6ad_16
    · have hf := xf hf c_2
      refine lv_iconst (v := (1 : Int32)) hx hb dJ1_canEncode_9a6ad_11 (by decide) ?_
      refine lv_goto (tgt := 16) hx hb dJ1_canEncode_9a6ad_12 (by decide) ?_
      obtain rfl := Option.some.inj hf
      exact ret H _ ls _ (show narrow .boolean (.int (1 : Int32)) = .int (1 : Int32) from rfl) hP hD hS dJ1_canEncode_9a6ad_16
def mJ1_indexOfChar_4cfef_B7 (x1 : Int32) (x2 : Int32) (x3 : Int32) (k7 : Int32 → Int32 → Option (Int32)) (l4 : Int32) (l5 : Int32) :
  Option (Int32) :=
  if x3 ≤ l5 then (some (-1 : Int32)) else (gi l5 7 <|
  if (strB.getD l5.toNatClampNeg 0) = l4 then (some l5) else (lb (l5 + (1 : Int32)) fun v_5 =>
  k7 l4 v_5))
def mJ1_indexOfChar_4cfef_L7 (x1 : Int32) (x2 : Int32) (x3 : Int32) (n : Nat) (l4 : Int32) (l5 : Int32) :
  Option (Int32) :=
  loopN (fun k (s : Int32 × Int32) => mJ1_indexOfChar_4cfef_B7 x1 x2 x3  (fun l4 l5 => k (l4, l5)) s.1 s.2) n (l4, l5)
def mJ1_indexOfChar_4cfef (x1 : Int32) (x2 : Int32) (x3 : Int32) :
  Option (Int32) :=
  lb (Int8.toInt32 (Int32.toInt8 x1)) fun v_1 =>
  mJ1_indexOfChar_4cfef_L7 x1 x2 x3  FUEL v_1 x2
theorem hdsJ1_indexOfChar_4cfef : yJ1_indexOfChar_4cfef.cls ≠ "java/lang/invoke/MethodHandle" ∧ yJ1_indexOfChar_4cfef.cls ≠ "java/lang/invoke/VarHandle" ∧ (parseMethodDescriptor yJ1_indexOfChar_4cfef.desc).map (fun d => d.parameters.length) = some 4 := by decide +kernel
abbrev rmJ1_indexOfChar_4cfef : Room := { frames := 0, cells := 0, slots := 0, locals := 0 }
set_option maxHeartbeats 4000000 in
set_option maxRecDepth 100000 in
theorem qJ1_indexOfChar_4cfef (l : Launch) (X : XT)    (x1 : Int32) (x2 : Int32) (x3 : Int32) (o : Int32) (hf : mJ1_indexOfChar_4cfef x1 x2 x3 = some o) :
    MI l yJ1_indexOfChar_4cfef wsJ1_indexOfChar_4cfef rmJ1_indexOfChar_4cfef X [.ref (X.2.2 5), .int x1, .int x2, .int x3] []  [] o := by
  refine MI_ofH (cc := cJ1_indexOfChar_4cfef) (maxL := 6) (rt := .int) (by decide) rfl (Nat.le_of_ble_eq_true rfl) ?_
  intro p e s m below meth c A Q H ls hx hb hml hts hown hA hD hG hP hS hl ret
  have hown : s.vm.findClass RJ1 = some m.cls := hown
  have hD : aD A [] := hD
  have hl : lv_has ls 6 [(0, .ref (X.2.2 5)), (1, .int x1), (2, .int x2), (3, .int x3)] := hl
  have hL7 : ∀ (n : Nat) (l4 : Int32) (l5 : Int32)  (H : Heap) (locs : List Loc) (ls : Array Slot), va_P X.1 vwCl [] H → va_S A s.heap H locs → lv_has ls 6 [(0, .ref (X.2.2 5)), (3, .int x3), (4, .int l4), (5, .int l5)] → mJ1_indexOfChar_4cfef_L7 x1 x2 x3  n l4 l5 = some o → W p l e rmJ1_indexOfChar_4cfef s m ([.ref (X.2.2 5), .int x1, .int x2, .int x3] : List Value).toArray below meth c H locs 0 0 Q (F0 m 7 ls []) := by
    intro n
    induction n with
    | zero => intro l4 l5  H locs ls hP hS hl hf; exact xn hf
    | succ n ih =>
      intro l4 l5  H locs ls hP hS hl hf
      have hf : mJ1_indexOfChar_4cfef_B7 x1 x2 x3  (mJ1_indexOfChar_4cfef_L7 x1 x2 x3  n) l4 l5 = some o := hf
      generalize mJ1_indexOfChar_4cfef_L7 x1 x2 x3  n = k7 at ih hf
      unfold mJ1_indexOfChar_4cfef_B7 at hf
      refine lv_iload hx hb dJ1_indexOfChar_4cfef_7 (lv_at hl 3 rfl) ?_
      refine lv_iload_n hx hb dJ1_indexOfChar_4cfef_9 rfl (lv_at hl 1 rfl) ?_
      refine lv_icmp_ge (tgt := 31) hx hb dJ1_indexOfChar_4cfef_10 (by decide) (fun c_2 => ?_) (fun c_2 => ?_)
      · have hf := xt hf c_2
        refine lv_iconst (v := (-1 : Int32)) hx hb dJ1_indexOfChar_4cfef_31 (by decide) ?_
        obtain rfl := Option.some.inj hf
        exact ret H _ ls _ rfl hP hD hS dJ1_indexOfChar_4cfef_32
      · have hf := xf hf c_2
        refine lv_aload_n hx hb dJ1_indexOfChar_4cfef_13 rfl (lv_at hl 0 rfl) ?_
        refine lv_iload hx hb dJ1_indexOfChar_4cfef_14 (lv_at hl 3 rfl) ?_
        obtain ⟨h_3, hf⟩ := gi_s hf
        refine va_tb hx hb (str_T hG) hS h_3 rfl dJ1_indexOfChar_4cfef_16 ?_
        refine lv_iload hx hb dJ1_indexOfChar_4cfef_17 (lv_at hl 2 rfl) ?_
        refine lv_icmp_ne (tgt := 25) hx hb dJ1_indexOfChar_4cfef_19 (by decide) (fun c_4 => ?_) (fun c_4 => ?_)
        · have hf := xf hf c_4
          obtain ⟨v_5, ev_5, hf⟩ := lb_g hf
          refine lv_iinc (v := v_5) (lv' := [(5, .int v_5), (0, .ref (X.2.2 5)), (3, .int x3), (4, .int l4)]) hx hb dJ1_indexOfChar_4cfef_25 hl (k := 3) rfl ev_5.symm (by decide) rfl (fun ls hl => ?_)
          refine lv_goto (tgt := 7) hx hb dJ1_indexOfChar_4cfef_28 (by decide) ?_
          exact ih l4 v_5  H _ ls hP  hS (lv_sub hl [1, 2, 3, 0] rfl) hf
        · have hf := xt hf c_4
          refine lv_iload hx hb dJ1_indexOfChar_4cfef_22 (lv_at hl 3 rfl) ?_
          obtain rfl := Option.some.inj hf
          exact ret H _ ls _ rfl hP hD hS dJ1_indexOfChar_4cfef_24
  unfold mJ1_indexOfChar_4cfef at hf
  refine lv_iload_n hx hb dJ1_indexOfChar_4cfef_0 rfl (lv_at hl 1 rfl) ?_
  refine lv_i2b hx hb dJ1_indexOfChar_4cfef_1 rfl ?_
  refine lv_topi (fun v_1 ev_1 => ?_)
  have hf := lb_s hf ev_1
  refine lv_istore (lv' := [(4, .int v_1), (0, .ref (X.2.2 5)), (1, .int x1), (2, .int x2), (3, .int x3)]) hx hb dJ1_indexOfChar_4cfef_2 hl (by decide) rfl (fun ls hl => ?_)
  refine lv_iload_n hx hb dJ1_indexOfChar_4cfef_4 rfl (lv_at hl 3 rfl) ?_
  refine lv_istore (lv' := [(5, .int x2), (4, .int v_1), (0, .ref (X.2.2 5)), (1, .int x1), (2, .int x2), (3, .int x3)]) hx hb dJ1_indexOfChar_4cfef_5 hl (by decide) rfl (fun ls hl => ?_)
  exact hL7  FUEL v_1 x2  H _ ls hP  hS (lv_sub hl [2, 5, 1, 0] rfl) hf
def mJ1_indexOf_4cfef (x1 : Int32) (x2 : Int32) (x3 : Int32) :
  Option (Int32) :=
  (mJ1_canEncode_9a6ad x1).bind fun o_1 =>
  if o_1 = 0 then (some (-1 : Int32)) else (lb (imax x2 (0 : Int32)) fun v_4 =>
  lb (imin x3 (7 : Int32)) fun v_5 =>
  if v_4 < v_5 then ((mJ1_indexOfChar_4cfef x1 v_4 v_5).bind fun o_7 =>
  some o_7) else (some (-1 : Int32)))
theorem hdsJ1_indexOf_4cfef : yJ1_indexOf_4cfef.cls ≠ "java/lang/invoke/MethodHandle" ∧ yJ1_indexOf_4cfef.cls ≠ "java/lang/invoke/VarHandle" ∧ (parseMethodDescriptor yJ1_indexOf_4cfef.desc).map (fun d => d.parameters.length) = some 4 := by decide +kernel
abbrev rmJ1_indexOf_4cfef : Room := { frames := 1, cells := 0, slots := 0, locals := 25 }
set_option maxHeartbeats 4000000 in
set_option maxRecDepth 100000 in
theorem qJ1_indexOf_4cfef (l : Launch) (X : XT)    (x1 : Int32) (x2 : Int32) (x3 : Int32) (o : Int32) (hf : mJ1_indexOf_4cfef x1 x2 x3 = some o) :
    MI l yJ1_indexOf_4cfef wsJ1_indexOf_4cfef rmJ1_indexOf_4cfef X [.ref (X.2.2 5), .int x1, .int x2, .int x3] []  [] o := by
  refine MI_ofH (cc := cJ1_indexOf_4cfef) (maxL := 4) (rt := .int) (by decide) rfl (Nat.le_of_ble_eq_true rfl) ?_
  intro p e s m below meth c A Q H ls hx hb hml hts hown hA hD hG hP hS hl ret
  have hown : s.vm.findClass RJ1 = some m.cls := hown
  have hD : aD A [] := hD
  have hl : lv_has ls 4 [(0, .ref (X.2.2 5)), (1, .int x1), (2, .int x2), (3, .int x3)] := hl
  have w1 := hts (.methodLink RJ1 92 Lib.Math.max.name) (List.mem_of_getElem? (i := 1) rfl)
  have w2 := hts (.static Lib.Math.max.name) (List.mem_of_getElem? (i := 2) rfl)
  have w3 := hts (.initialized "java/lang/Math") (List.mem_of_getElem? (i := 3) rfl)
  have w4 := hts (.code Lib.Math.max.name Lib.Math.max.code 2 (some .int)) (List.mem_of_getElem? (i := 4) rfl)
  have w5 := hts (.methodLink RJ1 38 Lib.Math.min.name) (List.mem_of_getElem? (i := 5) rfl)
  have w6 := hts (.static Lib.Math.min.name) (List.mem_of_getElem? (i := 6) rfl)
  have w7 := hts (.code Lib.Math.min.name Lib.Math.min.code 2 (some .int)) (List.mem_of_getElem? (i := 7) rfl)
  unfold mJ1_indexOf_4cfef at hf
  refine lv_iload_n hx hb dJ1_indexOf_4cfef_0 rfl (lv_at hl 1 rfl) ?_
  obtain ⟨o_1, ho_1, hf⟩ := ob_s hf
  refine xS_i (As := [.int x1]) (rest := []) (ws2 := []) hx hb hml hts hown hG hA hP hD rfl hS hl.1 (qJ1_canEncode_9a6ad l X x1 o_1 ho_1) (va_cwS (y := yJ1_canEncode_9a6ad) 1 hts gJ1_indexOf_4cfef_J1_canEncode_9a6ad rfl rfl rfl hdsJ1_canEncode_9a6ad ⟨Nat.le_of_ble_eq_true rfl, Nat.le_of_ble_eq_true rfl⟩) [] [] [] rfl rfl rfl rfl rfl rfl rfl rfl rfl (Nat.le_of_ble_eq_true rfl) ⟨Nat.le_of_ble_eq_true rfl, Nat.le_of_ble_eq_true rfl⟩ dJ1_indexOf_4cfef_1 (fun H locs hP _ hS => ?_)
  refine lv_if_ne (tgt := 9) hx hb dJ1_indexOf_4cfef_4 (by decide) (fun c_3 => ?_) (fun c_3 => ?_)
  · have hf := xf hf c_3
    refine lv_iload_n hx hb dJ1_indexOf_4cfef_9 rfl (lv_at hl 2 rfl) ?_
    refine lv_iconst (v := (0 : Int32)) hx hb dJ1_indexOf_4cfef_10 (by decide) ?_
    refine x_mmax hx hb hml hl.1 hown w1 w2 w3 w4 (Nat.le_of_ble_eq_true rfl) (Nat.le_of_ble_eq_true rfl) (Nat.le_of_ble_eq_true rfl) (Nat.le_of_ble_eq_true rfl) dJ1_indexOf_4cfef_11 ?_
    refine lv_topi (fun v_4 ev_4 => ?_)
    have hf := lb_s hf ev_4
    refine lv_istore_n (lv' := [(2, .int v_4), (0, .ref (X.2.2 5)), (1, .int x1), (3, .int x3)]) hx hb dJ1_indexOf_4cfef_14 rfl hl (by decide) rfl (fun ls hl => ?_)
    refine lv_iload_n hx hb dJ1_indexOf_4cfef_15 rfl (lv_at hl 3 rfl) ?_
    refine lv_aload_n hx hb dJ1_indexOf_4cfef_16 rfl (lv_at hl 1 rfl) ?_
    refine va_tlen (v := (7 : Int32)) hx hb (str_T hG) hS rfl dJ1_indexOf_4cfef_17 ?_
    refine x_mmin hx hb hml hl.1 hown w5 w6 w3 w7 (Nat.le_of_ble_eq_true rfl) (Nat.le_of_ble_eq_true rfl) (Nat.le_of_ble_eq_true rfl) (Nat.le_of_ble_eq_true rfl) dJ1_indexOf_4cfef_18 ?_
    refine lv_topi (fun v_5 ev_5 => ?_)
    have hf := lb_s hf ev_5
    refine lv_istore_n (lv' := [(3, .int v_5), (2, .int v_4), (0, .ref (X.2.2 5)), (1, .int x1)]) hx hb dJ1_indexOf_4cfef_21 rfl hl (by decide) rfl (fun ls hl => ?_)
    refine lv_iload_n hx hb dJ1_indexOf_4cfef_22 rfl (lv_at hl 1 rfl) ?_
    refine lv_iload_n hx hb dJ1_indexOf_4cfef_23 rfl (lv_at hl 0 rfl) ?_
    refine lv_icmp_lt (tgt := 29) hx hb dJ1_indexOf_4cfef_24 (by decide) (fun c_6 => ?_) (fun c_6 => ?_)
    · have hf := xt hf c_6
      refine lv_aload_n hx hb dJ1_indexOf_4cfef_29 rfl (lv_at hl 2 rfl) ?_
      refine lv_iload_n hx hb dJ1_indexOf_4cfef_30 rfl (lv_at hl 3 rfl) ?_
      refine lv_iload_n hx hb dJ1_indexOf_4cfef_31 rfl (lv_at hl 1 rfl) ?_
      refine lv_iload_n hx hb dJ1_indexOf_4cfef_32 rfl (lv_at hl 0 rfl) ?_
      obtain ⟨o_7, ho_7, hf⟩ := ob_s hf
      refine xS_i (As := [.ref (X.2.2 5), .int x1, .int v_4, .int v_5]) (rest := []) (ws2 := []) hx hb hml hts hown hG hA hP hD rfl hS hl.1 (qJ1_indexOfChar_4cfef l X x1 v_4 v_5 o_7 ho_7) (va_cwS (y := yJ1_indexOfChar_4cfef) 4 hts gJ1_indexOf_4cfef_J1_indexOfChar_4cfef rfl rfl rfl hdsJ1_indexOfChar_4cfef ⟨Nat.le_of_ble_eq_true rfl, Nat.le_of_ble_eq_true rfl⟩) [] [] [] rfl rfl rfl rfl rfl rfl rfl rfl rfl (Nat.le_of_ble_eq_true rfl) ⟨Nat.le_of_ble_eq_true rfl, Nat.le_of_ble_eq_true rfl⟩ dJ1_indexOf_4cfef_33 (fun H locs hP _ hS => ?_)
      obtain rfl := Option.some.inj hf
      exact ret H _ ls _ rfl hP hD hS dJ1_indexOf_4cfef_36
    · have hf := xf hf c_6
      refine lv_iconst (v := (-1 : Int32)) hx hb dJ1_indexOf_4cfef_27 (by decide) ?_
      obtain rfl := Option.some.inj hf
      exact ret H _ ls _ rfl hP hD hS dJ1_indexOf_4cfef_28
  · have hf := xt hf c_3
    refine lv_iconst (v := (-1 : Int32)) hx hb dJ1_indexOf_4cfef_7 (by decide) ?_
    obtain rfl := Option.some.inj hf
    exact ret H _ ls _ rfl hP hD hS dJ1_indexOf_4cfef_8
def mJ0_indexOf_7cf53 (x0 : Int32) (x1 : Int32) :
  Option (Int32) :=
  (mJ0_isLatin1_aae02 ).bind fun o_1 =>
  if o_1 = 0 then ((mJ0_length_8abf5 ).bind fun o_4 =>
  none) else ((mJ0_length_8abf5 ).bind fun o_6 =>
  (mJ1_indexOf_4cfef x0 x1 o_6).bind fun o_8 =>
  some o_8)
theorem hdsJ0_indexOf_7cf53 : yJ0_indexOf_7cf53.cls ≠ "java/lang/invoke/MethodHandle" ∧ yJ0_indexOf_7cf53.cls ≠ "java/lang/invoke/VarHandle" ∧ (parseMethodDescriptor yJ0_indexOf_7cf53.desc).map (fun d => d.parameters.length) = some 2 := by decide +kernel
theorem hdvJ0_indexOf_7cf53 : yJ0_indexOf_7cf53.cls = RJ0 ∧ yJ0_indexOf_7cf53.cls ≠ "java/lang/invoke/MethodHandle" ∧ yJ0_indexOf_7cf53.cls ≠ "java/lang/invoke/VarHandle" ∧ (parseMethodDescriptor yJ0_indexOf_7cf53.desc).map (fun d => d.parameters.length) = some 2 := by decide +kernel
abbrev rmJ0_indexOf_7cf53 : Room := { frames := 2, cells := 0, slots := 0, locals := 48 }
set_option maxHeartbeats 4000000 in
set_option maxRecDepth 100000 in
theorem qJ0_indexOf_7cf53 (l : Launch) (X : XT)    (x0 : Int32) (x1 : Int32) (o : Int32) (hf : mJ0_indexOf_7cf53 x0 x1 = some o) :
    MI l yJ0_indexOf_7cf53 wsJ0_indexOf_7cf53 rmJ0_indexOf_7cf53 X [.ref (X.2.2 4), .int x0, .int x1] []  [] o := by
  refine MI_ofH (cc := cJ0_indexOf_7cf53) (maxL := 3) (rt := .int) (by decide) rfl (Nat.le_of_ble_eq_true rfl) ?_
  intro p e s m below meth c A Q H ls hx hb hml hts hown hA hD hG hP hS hl ret
  have hown : s.vm.findClass RJ0 = some m.cls := hown
  have hD : aD A [] := hD
  have hl : lv_has ls 3 [(0, .ref (X.2.2 4)), (1, .int x0), (2, .int x1)] := hl
  have w1 := hts (Cond.fieldLink RJ0 9 "java/lang/String" "value" "[B") (List.mem_of_getElem? (i := 1) rfl)
  unfold mJ0_indexOf_7cf53 at hf
  refine lv_aload_n hx hb dJ0_indexOf_7cf53_0 rfl (lv_at hl 0 rfl) ?_
  obtain ⟨o_1, ho_1, hf⟩ := ob_s hf
  refine xVs_i (As := []) (b := X.2.2 4) (rest := []) (ws2 := []) hx hb hml hts hown hG hA hP hD rfl hS hl.1 (qJ0_isLatin1_aae02 l X  o_1 ho_1) (cwV (y := yJ0_isLatin1_aae02) 0 hts gJ0_indexOf_7cf53_J0_isLatin1_aae02 rfl rfl rfl hdvJ0_isLatin1_aae02 ⟨Nat.le_of_ble_eq_true rfl, Nat.le_of_ble_eq_true rfl⟩) [] [] [] rfl rfl rfl rfl rfl rfl rfl (str_recv hG hS) rfl rfl (Nat.le_of_ble_eq_true rfl) ⟨Nat.le_of_ble_eq_true rfl, Nat.le_of_ble_eq_true rfl⟩ dJ0_indexOf_7cf53_1 (fun H locs hP _ hS => ?_)
  refine lv_if_eq (tgt := 23) hx hb dJ0_indexOf_7cf53_4 (by decide) (fun c_3 => ?_) (fun c_3 => ?_)
  · have hf := xt hf c_3
    refine lv_aload_n hx hb dJ0_indexOf_7cf53_23 rfl (lv_at hl 0 rfl) ?_
    refine vk_getf hx hb (str_value hG) hS hown w1 (fun _ h9 => h9) dJ0_indexOf_7cf53_24 ?_
    refine lv_iload_n hx hb dJ0_indexOf_7cf53_27 rfl (lv_at hl 1 rfl) ?_
    refine lv_iload_n hx hb dJ0_indexOf_7cf53_28 rfl (lv_at hl 2 rfl) ?_
    refine lv_aload_n hx hb dJ0_indexOf_7cf53_29 rfl (lv_at hl 0 rfl) ?_
    obtain ⟨o_4, ho_4, hf⟩ := ob_s hf
    refine xVs_i (As := []) (b := X.2.2 4) (rest := [.int x1, .int x0, .ref (X.2.2 5)]) (ws2 := []) hx hb hml hts hown hG hA hP hD rfl hS hl.1 (qJ0_length_8abf5 l X  o_4 ho_4) (cwV (y := yJ0_length_8abf5) 0 hts gJ0_indexOf_7cf53_J0_length_8abf5 rfl rfl rfl hdvJ0_length_8abf5 ⟨Nat.le_of_ble_eq_true rfl, Nat.le_of_ble_eq_true rfl⟩) [] [] [] rfl rfl rfl rfl rfl rfl rfl (str_recv hG hS) rfl rfl (Nat.le_of_ble_eq_true rfl) ⟨Nat.le_of_ble_eq_true rfl, Nat.le_of_ble_eq_true rfl⟩ dJ0_indexOf_7cf53_30 (fun H locs hP _ hS => ?_)
    exact xn hf
  · have hf := xf hf c_3
    refine lv_aload_n hx hb dJ0_indexOf_7cf53_7 rfl (lv_at hl 0 rfl) ?_
    refine vk_getf hx hb (str_value hG) hS hown w1 (fun _ h9 => h9) dJ0_indexOf_7cf53_8 ?_
    refine lv_iload_n hx hb dJ0_indexOf_7cf53_11 rfl (lv_at hl 1 rfl) ?_
    refine lv_iload_n hx hb dJ0_indexOf_7cf53_12 rfl (lv_at hl 2 rfl) ?_
    refine lv_aload_n hx hb dJ0_indexOf_7cf53_13 rfl (lv_at hl 0 rfl) ?_
    obtain ⟨o_6, ho_6, hf⟩ := ob_s hf
    refine xVs_i (As := []) (b := X.2.2 4) (rest := [.int x1, .int x0, .ref (X.2.2 5)]) (ws2 := []) hx hb hml hts hown hG hA hP hD rfl hS hl.1 (qJ0_length_8abf5 l X  o_6 ho_6) (cwV (y := yJ0_length_8abf5) 0 hts gJ0_indexOf_7cf53_J0_length_8abf5 rfl rfl rfl hdvJ0_length_8abf5 ⟨Nat.le_of_ble_eq_true rfl, Nat.le_of_ble_eq_true rfl⟩) [] [] [] rfl rfl rfl rfl rfl rfl rfl (str_recv hG hS) rfl rfl (Nat.le_of_ble_eq_true rfl) ⟨Nat.le_of_ble_eq_true rfl, Nat.le_of_ble_eq_true rfl⟩ dJ0_indexOf_7cf53_14 (fun H locs hP _ hS => ?_)
    obtain ⟨o_8, ho_8, hf⟩ := ob_s hf
    refine xS_i (As := [.ref (X.2.2 5), .int x0, .int x1, .int o_6]) (rest := []) (ws2 := []) hx hb hml hts hown hG hA hP hD rfl hS hl.1 (qJ1_indexOf_4cfef l X x0 x1 o_6 o_8 ho_8) (va_cwS (y := yJ1_indexOf_4cfef) 4 hts gJ0_indexOf_7cf53_J1_indexOf_4cfef rfl rfl rfl hdsJ1_indexOf_4cfef ⟨Nat.le_of_ble_eq_true rfl, Nat.le_of_ble_eq_true rfl⟩) [] [] [] rfl rfl rfl rfl rfl rfl rfl rfl rfl (Nat.le_of_ble_eq_true rfl) ⟨Nat.le_of_ble_eq_true rfl, Nat.le_of_ble_eq_true rfl⟩ dJ0_indexOf_7cf53_17 (fun H locs hP _ hS => ?_)
    refine lv_goto (tgt := 36) hx hb dJ0_indexOf_7cf53_20 (by decide) ?_
    obtain rfl := Option.some.inj hf
    exact ret H _ ls _ rfl hP hD hS dJ0_indexOf_7cf53_36
def mJ0_indexOf_0f7a4 (x0 : Int32) :
  Option (Int32) :=
  (mJ0_indexOf_7cf53 x0 (0 : Int32)).bind fun o_1 =>
  some o_1
theorem hdsJ0_indexOf_0f7a4 : yJ0_indexOf_0f7a4.cls ≠ "java/lang/invoke/MethodHandle" ∧ yJ0_indexOf_0f7a4.cls ≠ "java/lang/invoke/VarHandle" ∧ (parseMethodDescriptor yJ0_indexOf_0f7a4.desc).map (fun d => d.parameters.length) = some 1 := by decide +kernel
theorem hdvJ0_indexOf_0f7a4 : yJ0_indexOf_0f7a4.cls = RJ0 ∧ yJ0_indexOf_0f7a4.cls ≠ "java/lang/invoke/MethodHandle" ∧ yJ0_indexOf_0f7a4.cls ≠ "java/lang/invoke/VarHandle" ∧ (parseMethodDescriptor yJ0_indexOf_0f7a4.desc).map (fun d => d.parameters.length) = some 1 := by decide +kernel
abbrev rmJ0_indexOf_0f7a4 : Room := { frames := 3, cells := 0, slots := 0, locals := 70 }
set_option maxHeartbeats 4000000 in
set_option maxRecDepth 100000 in
theorem qJ0_indexOf_0f7a4 (l : Launch) (X : XT)    (x0 : Int32) (o : Int32) (hf : mJ0_indexOf_0f7a4 x0 = some o) :
    MI l yJ0_indexOf_0f7a4 wsJ0_indexOf_0f7a4 rmJ0_indexOf_0f7a4 X [.ref (X.2.2 4), .int x0] []  [] o := by
  refine MI_ofH (cc := cJ0_indexOf_0f7a4) (maxL := 2) (rt := .int) (by decide) rfl (Nat.le_of_ble_eq_true rfl) ?_
  intro p e s m below meth c A Q H ls hx hb hml hts hown hA hD hG hP hS hl ret
  have hown : s.vm.findClass RJ0 = some m.cls := hown
  have hD : aD A [] := hD
  have hl : lv_has ls 2 [(0, .ref (X.2.2 4)), (1, .int x0)] := hl
  unfold mJ0_indexOf_0f7a4 at hf
  refine lv_aload_n hx hb dJ0_indexOf_0f7a4_0 rfl (lv_at hl 0 rfl) ?_
  refine lv_iload_n hx hb dJ0_indexOf_0f7a4_1 rfl (lv_at hl 1 rfl) ?_
  refine lv_iconst (v := (0 : Int32)) hx hb dJ0_indexOf_0f7a4_2 (by decide) ?_
  obtain ⟨o_1, ho_1, hf⟩ := ob_s hf
  refine xVs_i (As := [.int x0, .int (0 : Int32)]) (b := X.2.2 4) (rest := []) (ws2 := []) hx hb hml hts hown hG hA hP hD rfl hS hl.1 (qJ0_indexOf_7cf53 l X x0 (0 : Int32) o_1 ho_1) (cwV (y := yJ0_indexOf_7cf53) 2 hts gJ0_indexOf_0f7a4_J0_indexOf_7cf53 rfl rfl rfl hdvJ0_indexOf_7cf53 ⟨Nat.le_of_ble_eq_true rfl, Nat.le_of_ble_eq_true rfl⟩) [] [] [] rfl rfl rfl rfl rfl rfl rfl (str_recv hG hS) rfl rfl (Nat.le_of_ble_eq_true rfl) ⟨Nat.le_of_ble_eq_true rfl, Nat.le_of_ble_eq_true rfl⟩ dJ0_indexOf_0f7a4_3 (fun H locs hP _ hS => ?_)
  obtain rfl := Option.some.inj hf
  exact ret H _ ls _ rfl hP hD hS dJ0_indexOf_0f7a4_6
