def mX3_init  :
  Option (Unit) :=
  some ()
theorem hdsX3_init : yX3_init.cls ≠ "java/lang/invoke/MethodHandle" ∧ yX3_init.cls ≠ "java/lang/invoke/VarHandle" ∧ (parseMethodDescriptor yX3_init.desc).map (fun d => d.parameters.length) = some 0 := by decide +kernel
abbrev rmX3_init : Room := { frames := 1, cells := 8, slots := 656, locals := 21 }
set_option maxHeartbeats 4000000 in
set_option maxRecDepth 100000 in
theorem qX3_init (l : Launch) (X : XT) (a_this : Nat)    (o : Unit) (hf : mX3_init  = some o) :
    MC l yX3_init wsX3_init rmX3_init X [.ref a_this] [(a_this, .inr (3, [.int (0 : Int32), .int (0 : Int32), .int (0 : Int32), .int (0 : Int32), .int (0 : Int32), .null, .null, .null, .null, .null, .null, .null, .null]))]  (fun u => [(a_this, .inr (3, [.int (0 : Int32), .int (0 : Int32), .int (0 : Int32), .int (0 : Int32), .int (0 : Int32), .ref (u 0), .ref (u 1), .ref (u 2), .ref (u 3), .ref (u 4), .ref (u 5), .ref (u 6), .ref (u 7)])), ((u 0), .inl (X.2.1 0, 200, .inl (fun _ => 0))), ((u 1), .inl (X.2.1 0, 56, .inl (fun _ => 0))), ((u 2), .inl (X.2.1 0, 24, .inl (fun _ => 0))), ((u 3), .inl (X.2.1 0, 24, .inl (fun _ => 0))), ((u 4), .inl (X.2.1 0, 24, .inl (fun _ => 0))), ((u 5), .inl (X.2.1 0, 40, .inl (fun _ => 0))), ((u 6), .inl (X.2.1 0, 192, .inl (fun _ => 0))), ((u 7), .inl (X.2.1 0, 96, .inl (fun _ => 0)))]) 8 656 := by
  refine MC_ofH (cc := cX3_init) (maxL := 1) (by decide) rfl (Nat.le_of_ble_eq_true rfl) ?_
  intro p e s m below meth c A Q H ls hx hb hml hts hown hin hA hD hG hP hS hl ret
  have hin : meth.name = "<init>" := hin
  have hown : s.vm.findClass RX3 = some m.cls := hown
  have hD : aD A [a_this] := hD
  have hl : lv_has ls 1 [(0, .ref a_this)] := hl
  have w1 := hts (.methodLink RX3 1 objectInit) (List.mem_of_getElem? (i := 1) rfl)
  have w2 := hts (.instanceMethod objectInit) (List.mem_of_getElem? (i := 2) rfl)
  have w4 := hts (.arrayClass .int) (List.mem_of_getElem? (i := 4) rfl)
  have w5 := hts (.fieldLink RX3 9 "ThreeCards$Fight" "blows" "[I") (List.mem_of_getElem? (i := 5) rfl)
  have w6 := hts (.fieldLink RX3 13 "ThreeCards$Fight" "judges" "[I") (List.mem_of_getElem? (i := 6) rfl)
  have w7 := hts (.fieldLink RX3 16 "ThreeCards$Fight" "forward" "[I") (List.mem_of_getElem? (i := 7) rfl)
  have w8 := hts (.fieldLink RX3 19 "ThreeCards$Fight" "downs" "[I") (List.mem_of_getElem? (i := 8) rfl)
  have w9 := hts (.fieldLink RX3 22 "ThreeCards$Fight" "taken" "[I") (List.mem_of_getElem? (i := 9) rfl)
  have w10 := hts (.fieldLink RX3 25 "ThreeCards$Fight" "seenBy" "[I") (List.mem_of_getElem? (i := 10) rfl)
  have w11 := hts (.fieldLink RX3 28 "ThreeCards$Fight" "sums" "[I") (List.mem_of_getElem? (i := 11) rfl)
  have w12 := hts (.fieldLink RX3 31 "ThreeCards$Fight" "leads" "[I") (List.mem_of_getElem? (i := 12) rfl)
  have in3 : ∀ w ∈ u_ws RX3 TX3 13, w ∈ wsX3_init := by decide +kernel
  unfold mX3_init at hf
  refine lv_aload_n hx hb dX3_init_0 rfl (lv_at hl 0 rfl) ?_
  refine W.objInit hx hb hown w1 w2 (hts _ (List.mem_of_getElem? (i := 3) rfl)) rfl (by rw [hml]; exact hl.1) rfl dX3_init_1 (Nat.le_of_ble_eq_true rfl) (Nat.le_of_ble_eq_true rfl) ?_
  refine W.eq (g2 := F0 m 4 ls []) rfl ?_
  refine lv_aload_n hx hb dX3_init_4 rfl (lv_at hl 0 rfl) ?_
  refine lv_sipush (v := (200 : Int32)) hx hb dX3_init_5 (by decide) ?_
  refine x_newai (N := 200) (ws' := fun q_1 => [(a_this, .inr (3, [.int (0 : Int32), .int (0 : Int32), .int (0 : Int32), .int (0 : Int32), .int (0 : Int32), .null, .null, .null, .null, .null, .null, .null, .null])), (q_1, .inl (X.2.1 0, 200, .inl (fun _ => 0)))]) hx hb w4 hG hP hD rfl hS hA rfl (Nat.le_of_ble_eq_true rfl) (Nat.le_of_ble_eq_true rfl) (Nat.le_of_ble_eq_true rfl) dX3_init_8 (fun q_1 => rfl) (fun q_1 H hP hD hS => ?_)
  have hP : va_P X.1 vwCl [(a_this, .inr (3, [.int (0 : Int32), .int (0 : Int32), .int (0 : Int32), .int (0 : Int32), .int (0 : Int32), .null, .null, .null, .null, .null, .null, .null, .null])), (q_1, .inl (X.2.1 0, 200, .inl (fun _ => 0)))] H := hP
  have hD : aD A [a_this, q_1] := hD
  refine W.widen (k := 1) (n := 200) (Nat.le_of_ble_eq_true rfl) (Nat.le_of_ble_eq_true rfl) ?_
  refine x_putF (ws' := [(a_this, .inr (3, [.int (0 : Int32), .int (0 : Int32), .int (0 : Int32), .int (0 : Int32), .int (0 : Int32), .ref q_1, .null, .null, .null, .null, .null, .null, .null])), (q_1, .inl (X.2.1 0, 200, .inl (fun _ => 0)))]) (ty := (tyX3 5)) (C := RX3) (T := TX3) (N := 13) hx hb hts in3 tyX3 tyX3_ok nmX3 hown hG hP hD rfl hS 0 rfl rfl 5 (by decide) w5 rfl hin rfl (tyX3_ok 5 (by decide)) rfl rfl (Nat.le_of_ble_eq_true rfl) dX3_init_10 rfl (fun H locs hP hS => ?_)
  refine lv_aload_n hx hb dX3_init_13 rfl (lv_at hl 0 rfl) ?_
  refine lv_bipush (v := (56 : Int32)) hx hb dX3_init_14 (by decide) ?_
  refine x_newai (N := 56) (ws' := fun q_2 => [(a_this, .inr (3, [.int (0 : Int32), .int (0 : Int32), .int (0 : Int32), .int (0 : Int32), .int (0 : Int32), .ref q_1, .null, .null, .null, .null, .null, .null, .null])), (q_1, .inl (X.2.1 0, 200, .inl (fun _ => 0))), (q_2, .inl (X.2.1 0, 56, .inl (fun _ => 0)))]) hx hb w4 hG hP hD rfl hS hA rfl (Nat.le_of_ble_eq_true rfl) (Nat.le_of_ble_eq_true rfl) (Nat.le_of_ble_eq_true rfl) dX3_init_16 (fun q_2 => rfl) (fun q_2 H hP hD hS => ?_)
  have hP : va_P X.1 vwCl [(a_this, .inr (3, [.int (0 : Int32), .int (0 : Int32), .int (0 : Int32), .int (0 : Int32), .int (0 : Int32), .ref q_1, .null, .null, .null, .null, .null, .null, .null])), (q_1, .inl (X.2.1 0, 200, .inl (fun _ => 0))), (q_2, .inl (X.2.1 0, 56, .inl (fun _ => 0)))] H := hP
  have hD : aD A [a_this, q_1, q_2] := hD
  refine W.widen (k := 2) (n := 256) (Nat.le_of_ble_eq_true rfl) (Nat.le_of_ble_eq_true rfl) ?_
  refine x_putF (ws' := [(a_this, .inr (3, [.int (0 : Int32), .int (0 : Int32), .int (0 : Int32), .int (0 : Int32), .int (0 : Int32), .ref q_1, .ref q_2, .null, .null, .null, .null, .null, .null])), (q_1, .inl (X.2.1 0, 200, .inl (fun _ => 0))), (q_2, .inl (X.2.1 0, 56, .inl (fun _ => 0)))]) (ty := (tyX3 6)) (C := RX3) (T := TX3) (N := 13) hx hb hts in3 tyX3 tyX3_ok nmX3 hown hG hP hD rfl hS 0 rfl rfl 6 (by decide) w6 rfl hin rfl (tyX3_ok 6 (by decide)) rfl rfl (Nat.le_of_ble_eq_true rfl) dX3_init_18 rfl (fun H locs hP hS => ?_)
  refine lv_aload_n hx hb dX3_init_21 rfl (lv_at hl 0 rfl) ?_
  refine lv_bipush (v := (24 : Int32)) hx hb dX3_init_22 (by decide) ?_
  refine x_newai (N := 24) (ws' := fun q_3 => [(a_this, .inr (3, [.int (0 : Int32), .int (0 : Int32), .int (0 : Int32), .int (0 : Int32), .int (0 : Int32), .ref q_1, .ref q_2, .null, .null, .null, .null, .null, .null])), (q_1, .inl (X.2.1 0, 200, .inl (fun _ => 0))), (q_2, .inl (X.2.1 0, 56, .inl (fun _ => 0))), (q_3, .inl (X.2.1 0, 24, .inl (fun _ => 0)))]) hx hb w4 hG hP hD rfl hS hA rfl (Nat.le_of_ble_eq_true rfl) (Nat.le_of_ble_eq_true rfl) (Nat.le_of_ble_eq_true rfl) dX3_init_24 (fun q_3 => rfl) (fun q_3 H hP hD hS => ?_)
  have hP : va_P X.1 vwCl [(a_this, .inr (3, [.int (0 : Int32), .int (0 : Int32), .int (0 : Int32), .int (0 : Int32), .int (0 : Int32), .ref q_1, .ref q_2, .null, .null, .null, .null, .null, .null])), (q_1, .inl (X.2.1 0, 200, .inl (fun _ => 0))), (q_2, .inl (X.2.1 0, 56, .inl (fun _ => 0))), (q_3, .inl (X.2.1 0, 24, .inl (fun _ => 0)))] H := hP
  have hD : aD A [a_this, q_1, q_2, q_3] := hD
  refine W.widen (k := 3) (n := 280) (Nat.le_of_ble_eq_true rfl) (Nat.le_of_ble_eq_true rfl) ?_
  refine x_putF (ws' := [(a_this, .inr (3, [.int (0 : Int32), .int (0 : Int32), .int (0 : Int32), .int (0 : Int32), .int (0 : Int32), .ref q_1, .ref q_2, .ref q_3, .null, .null, .null, .null, .null])), (q_1, .inl (X.2.1 0, 200, .inl (fun _ => 0))), (q_2, .inl (X.2.1 0, 56, .inl (fun _ => 0))), (q_3, .inl (X.2.1 0, 24, .inl (fun _ => 0)))]) (ty := (tyX3 7)) (C := RX3) (T := TX3) (N := 13) hx hb hts in3 tyX3 tyX3_ok nmX3 hown hG hP hD rfl hS 0 rfl rfl 7 (by decide) w7 rfl hin rfl (tyX3_ok 7 (by decide)) rfl rfl (Nat.le_of_ble_eq_true rfl) dX3_init_26 rfl (fun H locs hP hS => ?_)
  refine lv_aload_n hx hb dX3_init_29 rfl (lv_at hl 0 rfl) ?_
  refine lv_bipush (v := (24 : Int32)) hx hb dX3_init_30 (by decide) ?_
  refine x_newai (N := 24) (ws' := fun q_4 => [(a_this, .inr (3, [.int (0 : Int32), .int (0 : Int32), .int (0 : Int32), .int (0 : Int32), .int (0 : Int32), .ref q_1, .ref q_2, .ref q_3, .null, .null, .null, .null, .null])), (q_1, .inl (X.2.1 0, 200, .inl (fun _ => 0))), (q_2, .inl (X.2.1 0, 56, .inl (fun _ => 0))), (q_3, .inl (X.2.1 0, 24, .inl (fun _ => 0))), (q_4, .inl (X.2.1 0, 24, .inl (fun _ => 0)))]) hx hb w4 hG hP hD rfl hS hA rfl (Nat.le_of_ble_eq_true rfl) (Nat.le_of_ble_eq_true rfl) (Nat.le_of_ble_eq_true rfl) dX3_init_32 (fun q_4 => rfl) (fun q_4 H hP hD hS => ?_)
  have hP : va_P X.1 vwCl [(a_this, .inr (3, [.int (0 : Int32), .int (0 : Int32), .int (0 : Int32), .int (0 : Int32), .int (0 : Int32), .ref q_1, .ref q_2, .ref q_3, .null, .null, .null, .null, .null])), (q_1, .inl (X.2.1 0, 200, .inl (fun _ => 0))), (q_2, .inl (X.2.1 0, 56, .inl (fun _ => 0))), (q_3, .inl (X.2.1 0, 24, .inl (fun _ => 0))), (q_4, .inl (X.2.1 0, 24, .inl (fun _ => 0)))] H := hP
  have hD : aD A [a_this, q_1, q_2, q_3, q_4] := hD
  refine W.widen (k := 4) (n := 304) (Nat.le_of_ble_eq_true rfl) (Nat.le_of_ble_eq_true rfl) ?_
  refine x_putF (ws' := [(a_this, .inr (3, [.int (0 : Int32), .int (0 : Int32), .int (0 : Int32), .int (0 : Int32), .int (0 : Int32), .ref q_1, .ref q_2, .ref q_3, .ref q_4, .null, .null, .null, .null])), (q_1, .inl (X.2.1 0, 200, .inl (fun _ => 0))), (q_2, .inl (X.2.1 0, 56, .inl (fun _ => 0))), (q_3, .inl (X.2.1 0, 24, .inl (fun _ => 0))), (q_4, .inl (X.2.1 0, 24, .inl (fun _ => 0)))]) (ty := (tyX3 8)) (C := RX3) (T := TX3) (N := 13) hx hb hts in3 tyX3 tyX3_ok nmX3 hown hG hP hD rfl hS 0 rfl rfl 8 (by decide) w8 rfl hin rfl (tyX3_ok 8 (by decide)) rfl rfl (Nat.le_of_ble_eq_true rfl) dX3_init_34 rfl (fun H locs hP hS => ?_)
  refine lv_aload_n hx hb dX3_init_37 rfl (lv_at hl 0 rfl) ?_
  refine lv_bipush (v := (24 : Int32)) hx hb dX3_init_38 (by decide) ?_
  refine x_newai (N := 24) (ws' := fun q_5 => [(a_this, .inr (3, [.int (0 : Int32), .int (0 : Int32), .int (0 : Int32), .int (0 : Int32), .int (0 : Int32), .ref q_1, .ref q_2, .ref q_3, .ref q_4, .null, .null, .null, .null])), (q_1, .inl (X.2.1 0, 200, .inl (fun _ => 0))), (q_2, .inl (X.2.1 0, 56, .inl (fun _ => 0))), (q_3, .inl (X.2.1 0, 24, .inl (fun _ => 0))), (q_4, .inl (X.2.1 0, 24, .inl (fun _ => 0))), (q_5, .inl (X.2.1 0, 24, .inl (fun _ => 0)))]) hx hb w4 hG hP hD rfl hS hA rfl (Nat.le_of_ble_eq_true rfl) (Nat.le_of_ble_eq_true rfl) (Nat.le_of_ble_eq_true rfl) dX3_init_40 (fun q_5 => rfl) (fun q_5 H hP hD hS => ?_)
  have hP : va_P X.1 vwCl [(a_this, .inr (3, [.int (0 : Int32), .int (0 : Int32), .int (0 : Int32), .int (0 : Int32), .int (0 : Int32), .ref q_1, .ref q_2, .ref q_3, .ref q_4, .null, .null, .null, .null])), (q_1, .inl (X.2.1 0, 200, .inl (fun _ => 0))), (q_2, .inl (X.2.1 0, 56, .inl (fun _ => 0))), (q_3, .inl (X.2.1 0, 24, .inl (fun _ => 0))), (q_4, .inl (X.2.1 0, 24, .inl (fun _ => 0))), (q_5, .inl (X.2.1 0, 24, .inl (fun _ => 0)))] H := hP
  have hD : aD A [a_this, q_1, q_2, q_3, q_4, q_5] := hD
  refine W.widen (k := 5) (n := 328) (Nat.le_of_ble_eq_true rfl) (Nat.le_of_ble_eq_true rfl) ?_
  refine x_putF (ws' := [(a_this, .inr (3, [.int (0 : Int32), .int (0 : Int32), .int (0 : Int32), .int (0 : Int32), .int (0 : Int32), .ref q_1, .ref q_2, .ref q_3, .ref q_4, .ref q_5, .null, .null, .null])), (q_1, .inl (X.2.1 0, 200, .inl (fun _ => 0))), (q_2, .inl (X.2.1 0, 56, .inl (fun _ => 0))), (q_3, .inl (X.2.1 0, 24, .inl (fun _ => 0))), (q_4, .inl (X.2.1 0, 24, .inl (fun _ => 0))), (q_5, .inl (X.2.1 0, 24, .inl (fun _ => 0)))]) (ty := (tyX3 9)) (C := RX3) (T := TX3) (N := 13) hx hb hts in3 tyX3 tyX3_ok nmX3 hown hG hP hD rfl hS 0 rfl rfl 9 (by decide) w9 rfl hin rfl (tyX3_ok 9 (by decide)) rfl rfl (Nat.le_of_ble_eq_true rfl) dX3_init_42 rfl (fun H locs hP hS => ?_)
  refine lv_aload_n hx hb dX3_init_45 rfl (lv_at hl 0 rfl) ?_
  refine lv_bipush (v := (40 : Int32)) hx hb dX3_init_46 (by decide) ?_
  refine x_newai (N := 40) (ws' := fun q_6 => [(a_this, .inr (3, [.int (0 : Int32), .int (0 : Int32), .int (0 : Int32), .int (0 : Int32), .int (0 : Int32), .ref q_1, .ref q_2, .ref q_3, .ref q_4, .ref q_5, .null, .null, .null])), (q_1, .inl (X.2.1 0, 200, .inl (fun _ => 0))), (q_2, .inl (X.2.1 0, 56, .inl (fun _ => 0))), (q_3, .inl (X.2.1 0, 24, .inl (fun _ => 0))), (q_4, .inl (X.2.1 0, 24, .inl (fun _ => 0))), (q_5, .inl (X.2.1 0, 24, .inl (fun _ => 0))), (q_6, .inl (X.2.1 0, 40, .inl (fun _ => 0)))]) hx hb w4 hG hP hD rfl hS hA rfl (Nat.le_of_ble_eq_true rfl) (Nat.le_of_ble_eq_true rfl) (Nat.le_of_ble_eq_true rfl) dX3_init_48 (fun q_6 => rfl) (fun q_6 H hP hD hS => ?_)
  have hP : va_P X.1 vwCl [(a_this, .inr (3, [.int (0 : Int32), .int (0 : Int32), .int (0 : Int32), .int (0 : Int32), .int (0 : Int32), .ref q_1, .ref q_2, .ref q_3, .ref q_4, .ref q_5, .null, .null, .null])), (q_1, .inl (X.2.1 0, 200, .inl (fun _ => 0))), (q_2, .inl (X.2.1 0, 56, .inl (fun _ => 0))), (q_3, .inl (X.2.1 0, 24, .inl (fun _ => 0))), (q_4, .inl (X.2.1 0, 24, .inl (fun _ => 0))), (q_5, .inl (X.2.1 0, 24, .inl (fun _ => 0))), (q_6, .inl (X.2.1 0, 40, .inl (fun _ => 0)))] H := hP
  have hD : aD A [a_this, q_1, q_2, q_3, q_4, q_5, q_6] := hD
  refine W.widen (k := 6) (n := 368) (Nat.le_of_ble_eq_true rfl) (Nat.le_of_ble_eq_true rfl) ?_
  refine x_putF (ws' := [(a_this, .inr (3, [.int (0 : Int32), .int (0 : Int32), .int (0 : Int32), .int (0 : Int32), .int (0 : Int32), .ref q_1, .ref q_2, .ref q_3, .ref q_4, .ref q_5, .ref q_6, .null, .null])), (q_1, .inl (X.2.1 0, 200, .inl (fun _ => 0))), (q_2, .inl (X.2.1 0, 56, .inl (fun _ => 0))), (q_3, .inl (X.2.1 0, 24, .inl (fun _ => 0))), (q_4, .inl (X.2.1 0, 24, .inl (fun _ => 0))), (q_5, .inl (X.2.1 0, 24, .inl (fun _ => 0))), (q_6, .inl (X.2.1 0, 40, .inl (fun _ => 0)))]) (ty := (tyX3 10)) (C := RX3) (T := TX3) (N := 13) hx hb hts in3 tyX3 tyX3_ok nmX3 hown hG hP hD rfl hS 0 rfl rfl 10 (by decide) w10 rfl hin rfl (tyX3_ok 10 (by decide)) rfl rfl (Nat.le_of_ble_eq_true rfl) dX3_init_50 rfl (fun H locs hP hS => ?_)
  refine lv_aload_n hx hb dX3_init_53 rfl (lv_at hl 0 rfl) ?_
  refine lv_sipush (v := (192 : Int32)) hx hb dX3_init_54 (by decide) ?_
  refine x_newai (N := 192) (ws' := fun q_7 => [(a_this, .inr (3, [.int (0 : Int32), .int (0 : Int32), .int (0 : Int32), .int (0 : Int32), .int (0 : Int32), .ref q_1, .ref q_2, .ref q_3, .ref q_4, .ref q_5, .ref q_6, .null, .null])), (q_1, .inl (X.2.1 0, 200, .inl (fun _ => 0))), (q_2, .inl (X.2.1 0, 56, .inl (fun _ => 0))), (q_3, .inl (X.2.1 0, 24, .inl (fun _ => 0))), (q_4, .inl (X.2.1 0, 24, .inl (fun _ => 0))), (q_5, .inl (X.2.1 0, 24, .inl (fun _ => 0))), (q_6, .inl (X.2.1 0, 40, .inl (fun _ => 0))), (q_7, .inl (X.2.1 0, 192, .inl (fun _ => 0)))]) hx hb w4 hG hP hD rfl hS hA rfl (Nat.le_of_ble_eq_true rfl) (Nat.le_of_ble_eq_true rfl) (Nat.le_of_ble_eq_true rfl) dX3_init_57 (fun q_7 => rfl) (fun q_7 H hP hD hS => ?_)
  have hP : va_P X.1 vwCl [(a_this, .inr (3, [.int (0 : Int32), .int (0 : Int32), .int (0 : Int32), .int (0 : Int32), .int (0 : Int32), .ref q_1, .ref q_2, .ref q_3, .ref q_4, .ref q_5, .ref q_6, .null, .null])), (q_1, .inl (X.2.1 0, 200, .inl (fun _ => 0))), (q_2, .inl (X.2.1 0, 56, .inl (fun _ => 0))), (q_3, .inl (X.2.1 0, 24, .inl (fun _ => 0))), (q_4, .inl (X.2.1 0, 24, .inl (fun _ => 0))), (q_5, .inl (X.2.1 0, 24, .inl (fun _ => 0))), (q_6, .inl (X.2.1 0, 40, .inl (fun _ => 0))), (q_7, .inl (X.2.1 0, 192, .inl (fun _ => 0)))] H := hP
  have hD : aD A [a_this, q_1, q_2, q_3, q_4, q_5, q_6, q_7] := hD
  refine W.widen (k := 7) (n := 560) (Nat.le_of_ble_eq_true rfl) (Nat.le_of_ble_eq_true rfl) ?_
  refine x_putF (ws' := [(a_this, .inr (3, [.int (0 : Int32), .int (0 : Int32), .int (0 : Int32), .int (0 : Int32), .int (0 : Int32), .ref q_1, .ref q_2, .ref q_3, .ref q_4, .ref q_5, .ref q_6, .ref q_7, .null])), (q_1, .inl (X.2.1 0, 200, .inl (fun _ => 0))), (q_2, .inl (X.2.1 0, 56, .inl (fun _ => 0))), (q_3, .inl (X.2.1 0, 24, .inl (fun _ => 0))), (q_4, .inl (X.2.1 0, 24, .inl (fun _ => 0))), (q_5, .inl (X.2.1 0, 24, .inl (fun _ => 0))), (q_6, .inl (X.2.1 0, 40, .inl (fun _ => 0))), (q_7, .inl (X.2.1 0, 192, .inl (fun _ => 0)))]) (ty := (tyX3 11)) (C := RX3) (T := TX3) (N := 13) hx hb hts in3 tyX3 tyX3_ok nmX3 hown hG hP hD rfl hS 0 rfl rfl 11 (by decide) w11 rfl hin rfl (tyX3_ok 11 (by decide)) rfl rfl (Nat.le_of_ble_eq_true rfl) dX3_init_59 rfl (fun H locs hP hS => ?_)
  refine lv_aload_n hx hb dX3_init_62 rfl (lv_at hl 0 rfl) ?_
  refine lv_bipush (v := (96 : Int32)) hx hb dX3_init_63 (by decide) ?_
  refine x_newai (N := 96) (ws' := fun q_8 => [(a_this, .inr (3, [.int (0 : Int32), .int (0 : Int32), .int (0 : Int32), .int (0 : Int32), .int (0 : Int32), .ref q_1, .ref q_2, .ref q_3, .ref q_4, .ref q_5, .ref q_6, .ref q_7, .null])), (q_1, .inl (X.2.1 0, 200, .inl (fun _ => 0))), (q_2, .inl (X.2.1 0, 56, .inl (fun _ => 0))), (q_3, .inl (X.2.1 0, 24, .inl (fun _ => 0))), (q_4, .inl (X.2.1 0, 24, .inl (fun _ => 0))), (q_5, .inl (X.2.1 0, 24, .inl (fun _ => 0))), (q_6, .inl (X.2.1 0, 40, .inl (fun _ => 0))), (q_7, .inl (X.2.1 0, 192, .inl (fun _ => 0))), (q_8, .inl (X.2.1 0, 96, .inl (fun _ => 0)))]) hx hb w4 hG hP hD rfl hS hA rfl (Nat.le_of_ble_eq_true rfl) (Nat.le_of_ble_eq_true rfl) (Nat.le_of_ble_eq_true rfl) dX3_init_65 (fun q_8 => rfl) (fun q_8 H hP hD hS => ?_)
  have hP : va_P X.1 vwCl [(a_this, .inr (3, [.int (0 : Int32), .int (0 : Int32), .int (0 : Int32), .int (0 : Int32), .int (0 : Int32), .ref q_1, .ref q_2, .ref q_3, .ref q_4, .ref q_5, .ref q_6, .ref q_7, .null])), (q_1, .inl (X.2.1 0, 200, .inl (fun _ => 0))), (q_2, .inl (X.2.1 0, 56, .inl (fun _ => 0))), (q_3, .inl (X.2.1 0, 24, .inl (fun _ => 0))), (q_4, .inl (X.2.1 0, 24, .inl (fun _ => 0))), (q_5, .inl (X.2.1 0, 24, .inl (fun _ => 0))), (q_6, .inl (X.2.1 0, 40, .inl (fun _ => 0))), (q_7, .inl (X.2.1 0, 192, .inl (fun _ => 0))), (q_8, .inl (X.2.1 0, 96, .inl (fun _ => 0)))] H := hP
  have hD : aD A [a_this, q_1, q_2, q_3, q_4, q_5, q_6, q_7, q_8] := hD
  refine W.widen (k := 8) (n := 656) (Nat.le_of_ble_eq_true rfl) (Nat.le_of_ble_eq_true rfl) ?_
  refine x_putF (ws' := [(a_this, .inr (3, [.int (0 : Int32), .int (0 : Int32), .int (0 : Int32), .int (0 : Int32), .int (0 : Int32), .ref q_1, .ref q_2, .ref q_3, .ref q_4, .ref q_5, .ref q_6, .ref q_7, .ref q_8])), (q_1, .inl (X.2.1 0, 200, .inl (fun _ => 0))), (q_2, .inl (X.2.1 0, 56, .inl (fun _ => 0))), (q_3, .inl (X.2.1 0, 24, .inl (fun _ => 0))), (q_4, .inl (X.2.1 0, 24, .inl (fun _ => 0))), (q_5, .inl (X.2.1 0, 24, .inl (fun _ => 0))), (q_6, .inl (X.2.1 0, 40, .inl (fun _ => 0))), (q_7, .inl (X.2.1 0, 192, .inl (fun _ => 0))), (q_8, .inl (X.2.1 0, 96, .inl (fun _ => 0)))]) (ty := (tyX3 12)) (C := RX3) (T := TX3) (N := 13) hx hb hts in3 tyX3 tyX3_ok nmX3 hown hG hP hD rfl hS 0 rfl rfl 12 (by decide) w12 rfl hin rfl (tyX3_ok 12 (by decide)) rfl rfl (Nat.le_of_ble_eq_true rfl) dX3_init_67 rfl (fun H locs hP hS => ?_)
  obtain rfl := Option.some.inj hf
  exact ret (fun k => [q_1, q_2, q_3, q_4, q_5, q_6, q_7, q_8].getD k 0) H _ ls _ hP hD hS dX3_init_70
def mX8_init  :
  Option (Int32) :=
  some (0 : Int32)
theorem hdsX8_init : yX8_init.cls ≠ "java/lang/invoke/MethodHandle" ∧ yX8_init.cls ≠ "java/lang/invoke/VarHandle" ∧ (parseMethodDescriptor yX8_init.desc).map (fun d => d.parameters.length) = some 0 := by decide +kernel
abbrev rmX8_init : Room := { frames := 1, cells := 1, slots := 500, locals := 21 }
set_option maxHeartbeats 4000000 in
set_option maxRecDepth 100000 in
theorem qX8_init (l : Launch) (X : XT) (a_this : Nat)    (o : Int32) (hf : mX8_init  = some o) :
    MC l yX8_init wsX8_init rmX8_init X [.ref a_this] [(a_this, .inr (8, [.null, .int (0 : Int32)]))]  (fun u => [(a_this, .inr (8, [.ref (u 0), .int o])), ((u 0), .inl (X.2.1 2, 500, .inl (fun _ => 0)))]) 1 500 := by
  refine MC_ofH (cc := cX8_init) (maxL := 1) (by decide) rfl (Nat.le_of_ble_eq_true rfl) ?_
  intro p e s m below meth c A Q H ls hx hb hml hts hown hin hA hD hG hP hS hl ret
  have hin : meth.name = "<init>" := hin
  have hown : s.vm.findClass RX8 = some m.cls := hown
  have hD : aD A [a_this] := hD
  have hl : lv_has ls 1 [(0, .ref a_this)] := hl
  have w1 := hts (.methodLink RX8 1 objectInit) (List.mem_of_getElem? (i := 1) rfl)
  have w2 := hts (.instanceMethod objectInit) (List.mem_of_getElem? (i := 2) rfl)
  have w4 := hts (.arrayClass .byte) (List.mem_of_getElem? (i := 4) rfl)
  have w5 := hts (.fieldLink RX8 9 "ThreeCards$Text" "bytes" "[B") (List.mem_of_getElem? (i := 5) rfl)
  have w6 := hts (.fieldLink RX8 13 "ThreeCards$Text" "length" "I") (List.mem_of_getElem? (i := 6) rfl)
  have in8 : ∀ w ∈ u_ws RX8 TX8 2, w ∈ wsX8_init := by decide +kernel
  unfold mX8_init at hf
  refine lv_aload_n hx hb dX8_init_0 rfl (lv_at hl 0 rfl) ?_
  refine W.objInit hx hb hown w1 w2 (hts _ (List.mem_of_getElem? (i := 3) rfl)) rfl (by rw [hml]; exact hl.1) rfl dX8_init_1 (Nat.le_of_ble_eq_true rfl) (Nat.le_of_ble_eq_true rfl) ?_
  refine W.eq (g2 := F0 m 4 ls []) rfl ?_
  refine lv_aload_n hx hb dX8_init_4 rfl (lv_at hl 0 rfl) ?_
  refine lv_sipush (v := (500 : Int32)) hx hb dX8_init_5 (by decide) ?_
  refine x_newab (N := 500) (ws' := fun q_1 => [(a_this, .inr (8, [.null, .int (0 : Int32)])), (q_1, .inl (X.2.1 2, 500, .inl (fun _ => 0)))]) hx hb w4 hG hP hD rfl hS hA rfl (Nat.le_of_ble_eq_true rfl) (Nat.le_of_ble_eq_true rfl) (Nat.le_of_ble_eq_true rfl) dX8_init_8 (fun q_1 => rfl) (fun q_1 H hP hD hS => ?_)
  have hP : va_P X.1 vwCl [(a_this, .inr (8, [.null, .int (0 : Int32)])), (q_1, .inl (X.2.1 2, 500, .inl (fun _ => 0)))] H := hP
  have hD : aD A [a_this, q_1] := hD
  refine W.widen (k := 1) (n := 500) (Nat.le_of_ble_eq_true rfl) (Nat.le_of_ble_eq_true rfl) ?_
  refine x_putF (ws' := [(a_this, .inr (8, [.ref q_1, .int (0 : Int32)])), (q_1, .inl (X.2.1 2, 500, .inl (fun _ => 0)))]) (ty := (tyX8 0)) (C := RX8) (T := TX8) (N := 2) hx hb hts in8 tyX8 tyX8_ok nmX8 hown hG hP hD rfl hS 0 rfl rfl 0 (by decide) w5 rfl hin rfl (tyX8_ok 0 (by decide)) rfl rfl (Nat.le_of_ble_eq_true rfl) dX8_init_10 rfl (fun H locs hP hS => ?_)
  refine lv_aload_n hx hb dX8_init_13 rfl (lv_at hl 0 rfl) ?_
  refine lv_iconst (v := (0 : Int32)) hx hb dX8_init_14 (by decide) ?_
  refine x_put (ws' := [(a_this, .inr (8, [.ref q_1, .int (0 : Int32)])), (q_1, .inl (X.2.1 2, 500, .inl (fun _ => 0)))]) (ty := .int) (C := RX8) (T := TX8) (N := 2) hx hb hts in8 tyX8 tyX8_ok nmX8 hown hG hP hD rfl hS 0 rfl rfl 1 (by decide) w6 rfl (tyX8_ok 1 (by decide)) rfl rfl (Nat.le_of_ble_eq_true rfl) dX8_init_15 rfl (fun H locs hP hS => ?_)
  obtain rfl := Option.some.inj hf
  exact ret (fun k => [q_1].getD k 0) H _ ls _ hP hD hS dX8_init_18
def mX5_init  :
  Option ((Nat → Int32) × (Nat → Int32)) :=
  lb (upd (fun _ => 0) (0 : Int32).toNatClampNeg (5 : Int32)) fun g_4 =>
  lb (upd g_4 (1 : Int32).toNatClampNeg (5 : Int32)) fun g_5 =>
  lb (upd g_5 (2 : Int32).toNatClampNeg (5 : Int32)) fun g_6 =>
  lb (upd g_6 (3 : Int32).toNatClampNeg (5 : Int32)) fun g_7 =>
  (mJ7_fill_53178 144 (-21 : Int32) (fun _ => 0)).bind fun o_8 =>
  some (g_7, o_8)
theorem hdsX5_init : yX5_init.cls ≠ "java/lang/invoke/MethodHandle" ∧ yX5_init.cls ≠ "java/lang/invoke/VarHandle" ∧ (parseMethodDescriptor yX5_init.desc).map (fun d => d.parameters.length) = some 0 := by decide +kernel
abbrev rmX5_init : Room := { frames := 1, cells := 3, slots := 156, locals := 23 }
set_option maxHeartbeats 4000000 in
set_option maxRecDepth 100000 in
theorem qX5_init (l : Launch) (X : XT) (a_this : Nat)    (o : (Nat → Int32) × (Nat → Int32)) (hf : mX5_init  = some o) :
    MC l yX5_init wsX5_init rmX5_init X [.ref a_this] [(a_this, .inr (5, [.null, .null, .null]))]  (fun u => [(a_this, .inr (5, [.ref (u 0), .ref (u 1), .ref (u 2)])), ((u 0), .inl (X.2.1 0, 8, .inl (fun _ => 0))), ((u 1), .inl (X.2.1 0, 144, .inl o.2)), ((u 2), .inl (X.2.1 0, 4, .inl o.1))]) 3 156 := by
  refine MC_ofH (cc := cX5_init) (maxL := 1) (by decide) rfl (Nat.le_of_ble_eq_true rfl) ?_
  intro p e s m below meth c A Q H ls hx hb hml hts hown hin hA hD hG hP hS hl ret
  have hin : meth.name = "<init>" := hin
  have hown : s.vm.findClass RX5 = some m.cls := hown
  have hD : aD A [a_this] := hD
  have hl : lv_has ls 1 [(0, .ref a_this)] := hl
  have w1 := hts (.methodLink RX5 1 objectInit) (List.mem_of_getElem? (i := 1) rfl)
  have w2 := hts (.instanceMethod objectInit) (List.mem_of_getElem? (i := 2) rfl)
  have w4 := hts (.arrayClass .int) (List.mem_of_getElem? (i := 4) rfl)
  have w5 := hts (.fieldLink RX5 9 "ThreeCards$Notes" "delays" "[I") (List.mem_of_getElem? (i := 5) rfl)
  have w6 := hts (.fieldLink RX5 15 "ThreeCards$Notes" "margins" "[I") (List.mem_of_getElem? (i := 6) rfl)
  have w7 := hts (.fieldLink RX5 18 "ThreeCards$Notes" "odds" "[I") (List.mem_of_getElem? (i := 7) rfl)
  have in5 : ∀ w ∈ u_ws RX5 TX5 3, w ∈ wsX5_init := by decide +kernel
  unfold mX5_init at hf
  refine lv_aload_n hx hb dX5_init_0 rfl (lv_at hl 0 rfl) ?_
  refine W.objInit hx hb hown w1 w2 (hts _ (List.mem_of_getElem? (i := 3) rfl)) rfl (by rw [hml]; exact hl.1) rfl dX5_init_1 (Nat.le_of_ble_eq_true rfl) (Nat.le_of_ble_eq_true rfl) ?_
  refine W.eq (g2 := F0 m 4 ls []) rfl ?_
  refine lv_aload_n hx hb dX5_init_4 rfl (lv_at hl 0 rfl) ?_
  refine lv_bipush (v := (8 : Int32)) hx hb dX5_init_5 (by decide) ?_
  refine x_newai (N := 8) (ws' := fun q_1 => [(a_this, .inr (5, [.null, .null, .null])), (q_1, .inl (X.2.1 0, 8, .inl (fun _ => 0)))]) hx hb w4 hG hP hD rfl hS hA rfl (Nat.le_of_ble_eq_true rfl) (Nat.le_of_ble_eq_true rfl) (Nat.le_of_ble_eq_true rfl) dX5_init_7 (fun q_1 => rfl) (fun q_1 H hP hD hS => ?_)
  have hP : va_P X.1 vwCl [(a_this, .inr (5, [.null, .null, .null])), (q_1, .inl (X.2.1 0, 8, .inl (fun _ => 0)))] H := hP
  have hD : aD A [a_this, q_1] := hD
  refine W.widen (k := 1) (n := 8) (Nat.le_of_ble_eq_true rfl) (Nat.le_of_ble_eq_true rfl) ?_
  refine x_putF (ws' := [(a_this, .inr (5, [.ref q_1, .null, .null])), (q_1, .inl (X.2.1 0, 8, .inl (fun _ => 0)))]) (ty := (tyX5 0)) (C := RX5) (T := TX5) (N := 3) hx hb hts in5 tyX5 tyX5_ok nmX5 hown hG hP hD rfl hS 0 rfl rfl 0 (by decide) w5 rfl hin rfl (tyX5_ok 0 (by decide)) rfl rfl (Nat.le_of_ble_eq_true rfl) dX5_init_9 rfl (fun H locs hP hS => ?_)
  refine lv_aload_n hx hb dX5_init_12 rfl (lv_at hl 0 rfl) ?_
  refine lv_sipush (v := (144 : Int32)) hx hb dX5_init_13 (by decide) ?_
  refine x_newai (N := 144) (ws' := fun q_2 => [(a_this, .inr (5, [.ref q_1, .null, .null])), (q_1, .inl (X.2.1 0, 8, .inl (fun _ => 0))), (q_2, .inl (X.2.1 0, 144, .inl (fun _ => 0)))]) hx hb w4 hG hP hD rfl hS hA rfl (Nat.le_of_ble_eq_true rfl) (Nat.le_of_ble_eq_true rfl) (Nat.le_of_ble_eq_true rfl) dX5_init_16 (fun q_2 => rfl) (fun q_2 H hP hD hS => ?_)
  have hP : va_P X.1 vwCl [(a_this, .inr (5, [.ref q_1, .null, .null])), (q_1, .inl (X.2.1 0, 8, .inl (fun _ => 0))), (q_2, .inl (X.2.1 0, 144, .inl (fun _ => 0)))] H := hP
  have hD : aD A [a_this, q_1, q_2] := hD
  refine W.widen (k := 2) (n := 152) (Nat.le_of_ble_eq_true rfl) (Nat.le_of_ble_eq_true rfl) ?_
  refine x_putF (ws' := [(a_this, .inr (5, [.ref q_1, .ref q_2, .null])), (q_1, .inl (X.2.1 0, 8, .inl (fun _ => 0))), (q_2, .inl (X.2.1 0, 144, .inl (fun _ => 0)))]) (ty := (tyX5 1)) (C := RX5) (T := TX5) (N := 3) hx hb hts in5 tyX5 tyX5_ok nmX5 hown hG hP hD rfl hS 0 rfl rfl 1 (by decide) w6 rfl hin rfl (tyX5_ok 1 (by decide)) rfl rfl (Nat.le_of_ble_eq_true rfl) dX5_init_18 rfl (fun H locs hP hS => ?_)
  refine lv_aload_n hx hb dX5_init_21 rfl (lv_at hl 0 rfl) ?_
  refine lv_iconst (v := (4 : Int32)) hx hb dX5_init_22 (by decide) ?_
  refine x_newai (N := 4) (ws' := fun q_3 => [(a_this, .inr (5, [.ref q_1, .ref q_2, .null])), (q_1, .inl (X.2.1 0, 8, .inl (fun _ => 0))), (q_2, .inl (X.2.1 0, 144, .inl (fun _ => 0))), (q_3, .inl (X.2.1 0, 4, .inl (fun _ => 0)))]) hx hb w4 hG hP hD rfl hS hA rfl (Nat.le_of_ble_eq_true rfl) (Nat.le_of_ble_eq_true rfl) (Nat.le_of_ble_eq_true rfl) dX5_init_23 (fun q_3 => rfl) (fun q_3 H hP hD hS => ?_)
  have hP : va_P X.1 vwCl [(a_this, .inr (5, [.ref q_1, .ref q_2, .null])), (q_1, .inl (X.2.1 0, 8, .inl (fun _ => 0))), (q_2, .inl (X.2.1 0, 144, .inl (fun _ => 0))), (q_3, .inl (X.2.1 0, 4, .inl (fun _ => 0)))] H := hP
  have hD : aD A [a_this, q_1, q_2, q_3] := hD
  refine W.widen (k := 3) (n := 156) (Nat.le_of_ble_eq_true rfl) (Nat.le_of_ble_eq_true rfl) ?_
  refine lv_dup hx hb dX5_init_25 rfl ?_
  refine lv_iconst (v := (0 : Int32)) hx hb dX5_init_26 (by decide) ?_
  refine lv_iconst (v := (5 : Int32)) hx hb dX5_init_27 (by decide) ?_
  obtain ⟨g_4, eg_4, hf⟩ := lb_g hf
  refine x_iast (ws' := [(a_this, .inr (5, [.ref q_1, .ref q_2, .null])), (q_1, .inl (X.2.1 0, 8, .inl (fun _ => 0))), (q_2, .inl (X.2.1 0, 144, .inl (fun _ => 0))), (q_3, .inl (X.2.1 0, 4, .inl g_4))]) hx hb hG hP hD rfl hS 3 rfl (vp_lit (by decide)) dX5_init_28 eg_4 rfl (fun H locs hP hS => ?_)
  refine lv_dup hx hb dX5_init_29 rfl ?_
  refine lv_iconst (v := (1 : Int32)) hx hb dX5_init_30 (by decide) ?_
  refine lv_iconst (v := (5 : Int32)) hx hb dX5_init_31 (by decide) ?_
  obtain ⟨g_5, eg_5, hf⟩ := lb_g hf
  refine x_iast (ws' := [(a_this, .inr (5, [.ref q_1, .ref q_2, .null])), (q_1, .inl (X.2.1 0, 8, .inl (fun _ => 0))), (q_2, .inl (X.2.1 0, 144, .inl (fun _ => 0))), (q_3, .inl (X.2.1 0, 4, .inl g_5))]) hx hb hG hP hD rfl hS 3 rfl (vp_lit (by decide)) dX5_init_32 eg_5 rfl (fun H locs hP hS => ?_)
  refine lv_dup hx hb dX5_init_33 rfl ?_
  refine lv_iconst (v := (2 : Int32)) hx hb dX5_init_34 (by decide) ?_
  refine lv_iconst (v := (5 : Int32)) hx hb dX5_init_35 (by decide) ?_
  obtain ⟨g_6, eg_6, hf⟩ := lb_g hf
  refine x_iast (ws' := [(a_this, .inr (5, [.ref q_1, .ref q_2, .null])), (q_1, .inl (X.2.1 0, 8, .inl (fun _ => 0))), (q_2, .inl (X.2.1 0, 144, .inl (fun _ => 0))), (q_3, .inl (X.2.1 0, 4, .inl g_6))]) hx hb hG hP hD rfl hS 3 rfl (vp_lit (by decide)) dX5_init_36 eg_6 rfl (fun H locs hP hS => ?_)
  refine lv_dup hx hb dX5_init_37 rfl ?_
  refine lv_iconst (v := (3 : Int32)) hx hb dX5_init_38 (by decide) ?_
  refine lv_iconst (v := (5 : Int32)) hx hb dX5_init_39 (by decide) ?_
  obtain ⟨g_7, eg_7, hf⟩ := lb_g hf
  refine x_iast (ws' := [(a_this, .inr (5, [.ref q_1, .ref q_2, .null])), (q_1, .inl (X.2.1 0, 8, .inl (fun _ => 0))), (q_2, .inl (X.2.1 0, 144, .inl (fun _ => 0))), (q_3, .inl (X.2.1 0, 4, .inl g_7))]) hx hb hG hP hD rfl hS 3 rfl (vp_lit (by decide)) dX5_init_40 eg_7 rfl (fun H locs hP hS => ?_)
  refine x_putF (ws' := [(a_this, .inr (5, [.ref q_1, .ref q_2, .ref q_3])), (q_1, .inl (X.2.1 0, 8, .inl (fun _ => 0))), (q_2, .inl (X.2.1 0, 144, .inl (fun _ => 0))), (q_3, .inl (X.2.1 0, 4, .inl g_7))]) (ty := (tyX5 2)) (C := RX5) (T := TX5) (N := 3) hx hb hts in5 tyX5 tyX5_ok nmX5 hown hG hP hD rfl hS 0 rfl rfl 2 (by decide) w7 rfl hin rfl (tyX5_ok 2 (by decide)) rfl rfl (Nat.le_of_ble_eq_true rfl) dX5_init_41 rfl (fun H locs hP hS => ?_)
  refine lv_aload_n hx hb dX5_init_44 rfl (lv_at hl 0 rfl) ?_
  refine va_get (D := X.1) (ci := 5) (v := .ref q_2) (C := RX5) (T := TX5) (N := 3) hx hb hts in5 hown hG.1 hP 0 rfl rfl 1 (by decide) w6 (fun _ h9 => h9) rfl dX5_init_45 ?_
  refine lv_bipush (v := (-21 : Int32)) hx hb dX5_init_48 (by decide) ?_
  obtain ⟨o_8, ho_8, hf⟩ := ob_s hf
  refine xS_v (As := [.ref q_2, .int (-21 : Int32)]) (rest := []) (ws2 := fun _ => [(a_this, .inr (5, [.ref q_1, .ref q_2, .ref q_3])), (q_1, .inl (X.2.1 0, 8, .inl (fun _ => 0))), (q_2, .inl (X.2.1 0, 144, .inl o_8)), (q_3, .inl (X.2.1 0, 4, .inl g_7))]) hx hb hml hts hown hG hA hP hD rfl hS hl.1 (qJ7_fill_53178 l X q_2 144 (fun _ => 0) (-21 : Int32) o_8 ho_8) (va_cwS (y := yJ7_fill_53178) 2 hts gX5_init_J7_fill_53178 rfl rfl rfl hdsJ7_fill_53178 ⟨Nat.le_of_ble_eq_true rfl, Nat.le_of_ble_eq_true rfl⟩) [2] [0, 1, 3] [0, 1, 3, 2] rfl rfl rfl rfl rfl rfl (fun _ => rfl) rfl rfl (Nat.le_of_ble_eq_true rfl) ⟨Nat.le_of_ble_eq_true rfl, Nat.le_of_ble_eq_true rfl⟩ dX5_init_50 (fun u_9 H locs hP _ hS => ?_)
  obtain rfl := Option.some.inj hf
  exact ret (fun k => [q_1, q_2, q_3].getD k 0) H _ ls _ hP hD hS dX5_init_53
def mX6_init  :
  Option (Int32) :=
  some (0 : Int32)
theorem hdsX6_init : yX6_init.cls ≠ "java/lang/invoke/MethodHandle" ∧ yX6_init.cls ≠ "java/lang/invoke/VarHandle" ∧ (parseMethodDescriptor yX6_init.desc).map (fun d => d.parameters.length) = some 1 := by decide +kernel
abbrev rmX6_init : Room := { frames := 1, cells := 1, slots := 7, locals := 21 }
set_option maxHeartbeats 4000000 in
set_option maxRecDepth 100000 in
theorem qX6_init (l : Launch) (X : XT) (a_this : Nat) (a_p0 : Nat)    (o : Int32) (hf : mX6_init  = some o) :
    MC l yX6_init wsX6_init rmX6_init X [.ref a_this, .ref a_p0] [(a_this, .inr (6, [.null, .null, .int (0 : Int32)]))]  (fun u => [(a_this, .inr (6, [.ref a_p0, .ref (u 0), .int o])), ((u 0), .inl (X.2.1 0, 7, .inl (fun _ => 0)))]) 1 7 := by
  refine MC_ofH (cc := cX6_init) (maxL := 2) (by decide) rfl (Nat.le_of_ble_eq_true rfl) ?_
  intro p e s m below meth c A Q H ls hx hb hml hts hown hin hA hD hG hP hS hl ret
  have hin : meth.name = "<init>" := hin
  have hown : s.vm.findClass RX6 = some m.cls := hown
  have hD : aD A [a_this] := hD
  have hl : lv_has ls 2 [(0, .ref a_this), (1, .ref a_p0)] := hl
  have w1 := hts (.methodLink RX6 3 objectInit) (List.mem_of_getElem? (i := 1) rfl)
  have w2 := hts (.instanceMethod objectInit) (List.mem_of_getElem? (i := 2) rfl)
  have w4 := hts (.arrayClass .int) (List.mem_of_getElem? (i := 4) rfl)
  have w5 := hts (.fieldLink RX6 11 "ThreeCards$Reader" "numbers" "[I") (List.mem_of_getElem? (i := 5) rfl)
  have w6 := hts (.fieldLink RX6 17 "ThreeCards$Reader" "place" "I") (List.mem_of_getElem? (i := 6) rfl)
  have w7 := hts (.fieldLink RX6 21 "ThreeCards$Reader" "text" "LThreeCards$Text;") (List.mem_of_getElem? (i := 7) rfl)
  have in6 : ∀ w ∈ u_ws RX6 TX6 3, w ∈ wsX6_init := by decide +kernel
  unfold mX6_init at hf
  refine lv_aload_n hx hb dX6_init_0 rfl (lv_at hl 0 rfl) ?_
  refine W.objInit hx hb hown w1 w2 (hts _ (List.mem_of_getElem? (i := 3) rfl)) rfl (by rw [hml]; exact hl.1) rfl dX6_init_1 (Nat.le_of_ble_eq_true rfl) (Nat.le_of_ble_eq_true rfl) ?_
  refine W.eq (g2 := F0 m 4 ls []) rfl ?_
  refine lv_aload_n hx hb dX6_init_4 rfl (lv_at hl 0 rfl) ?_
  refine lv_bipush (v := (7 : Int32)) hx hb dX6_init_5 (by decide) ?_
  refine x_newai (N := 7) (ws' := fun q_1 => [(a_this, .inr (6, [.null, .null, .int (0 : Int32)])), (q_1, .inl (X.2.1 0, 7, .inl (fun _ => 0)))]) hx hb w4 hG hP hD rfl hS hA rfl (Nat.le_of_ble_eq_true rfl) (Nat.le_of_ble_eq_true rfl) (Nat.le_of_ble_eq_true rfl) dX6_init_7 (fun q_1 => rfl) (fun q_1 H hP hD hS => ?_)
  have hP : va_P X.1 vwCl [(a_this, .inr (6, [.null, .null, .int (0 : Int32)])), (q_1, .inl (X.2.1 0, 7, .inl (fun _ => 0)))] H := hP
  have hD : aD A [a_this, q_1] := hD
  refine W.widen (k := 1) (n := 7) (Nat.le_of_ble_eq_true rfl) (Nat.le_of_ble_eq_true rfl) ?_
  refine x_putF (ws' := [(a_this, .inr (6, [.null, .ref q_1, .int (0 : Int32)])), (q_1, .inl (X.2.1 0, 7, .inl (fun _ => 0)))]) (ty := (tyX6 1)) (C := RX6) (T := TX6) (N := 3) hx hb hts in6 tyX6 tyX6_ok nmX6 hown hG hP hD rfl hS 0 rfl rfl 1 (by decide) w5 rfl hin rfl (tyX6_ok 1 (by decide)) rfl rfl (Nat.le_of_ble_eq_true rfl) dX6_init_9 rfl (fun H locs hP hS => ?_)
  refine lv_aload_n hx hb dX6_init_12 rfl (lv_at hl 0 rfl) ?_
  refine lv_iconst (v := (0 : Int32)) hx hb dX6_init_13 (by decide) ?_
  refine x_put (ws' := [(a_this, .inr (6, [.null, .ref q_1, .int (0 : Int32)])), (q_1, .inl (X.2.1 0, 7, .inl (fun _ => 0)))]) (ty := .int) (C := RX6) (T := TX6) (N := 3) hx hb hts in6 tyX6 tyX6_ok nmX6 hown hG hP hD rfl hS 0 rfl rfl 2 (by decide) w6 rfl (tyX6_ok 2 (by decide)) rfl rfl (Nat.le_of_ble_eq_true rfl) dX6_init_14 rfl (fun H locs hP hS => ?_)
  refine lv_aload_n hx hb dX6_init_17 rfl (lv_at hl 0 rfl) ?_
  refine lv_aload_n hx hb dX6_init_18 rfl (lv_at hl 1 rfl) ?_
  refine x_putF (ws' := [(a_this, .inr (6, [.ref a_p0, .ref q_1, .int (0 : Int32)])), (q_1, .inl (X.2.1 0, 7, .inl (fun _ => 0)))]) (ty := (tyX6 0)) (C := RX6) (T := TX6) (N := 3) hx hb hts in6 tyX6 tyX6_ok nmX6 hown hG hP hD rfl hS 0 rfl rfl 0 (by decide) w7 rfl hin rfl (tyX6_ok 0 (by decide)) rfl rfl (Nat.le_of_ble_eq_true rfl) dX6_init_19 rfl (fun H locs hP hS => ?_)
  obtain rfl := Option.some.inj hf
  exact ret (fun k => [q_1].getD k 0) H _ ls _ hP hD hS dX6_init_22
def mX1_init  :
  Option (Unit) :=
  some ()
theorem hdsX1_init : yX1_init.cls ≠ "java/lang/invoke/MethodHandle" ∧ yX1_init.cls ≠ "java/lang/invoke/VarHandle" ∧ (parseMethodDescriptor yX1_init.desc).map (fun d => d.parameters.length) = some 1 := by decide +kernel
abbrev rmX1_init : Room := { frames := 1, cells := 1, slots := 8, locals := 21 }
set_option maxHeartbeats 4000000 in
set_option maxRecDepth 100000 in
theorem qX1_init (l : Launch) (X : XT) (a_this : Nat) (a_p0 : Nat)    (o : Unit) (hf : mX1_init  = some o) :
    MC l yX1_init wsX1_init rmX1_init X [.ref a_this, .ref a_p0] [(a_this, .inr (1, [.null, .null]))]  (fun u => [(a_this, .inr (1, [.ref a_p0, .ref (u 0)])), ((u 0), .inl (X.2.1 0, 8, .inl (fun _ => 0)))]) 1 8 := by
  refine MC_ofH (cc := cX1_init) (maxL := 2) (by decide) rfl (Nat.le_of_ble_eq_true rfl) ?_
  intro p e s m below meth c A Q H ls hx hb hml hts hown hin hA hD hG hP hS hl ret
  have hin : meth.name = "<init>" := hin
  have hown : s.vm.findClass RX1 = some m.cls := hown
  have hD : aD A [a_this] := hD
  have hl : lv_has ls 2 [(0, .ref a_this), (1, .ref a_p0)] := hl
  have w1 := hts (.methodLink RX1 3 objectInit) (List.mem_of_getElem? (i := 1) rfl)
  have w2 := hts (.instanceMethod objectInit) (List.mem_of_getElem? (i := 2) rfl)
  have w4 := hts (.arrayClass .int) (List.mem_of_getElem? (i := 4) rfl)
  have w5 := hts (.fieldLink RX1 11 "ThreeCards$Cards" "owners" "[I") (List.mem_of_getElem? (i := 5) rfl)
  have w6 := hts (.fieldLink RX1 17 "ThreeCards$Cards" "fight" "LThreeCards$Fight;") (List.mem_of_getElem? (i := 6) rfl)
  have in1 : ∀ w ∈ u_ws RX1 TX1 2, w ∈ wsX1_init := by decide +kernel
  unfold mX1_init at hf
  refine lv_aload_n hx hb dX1_init_0 rfl (lv_at hl 0 rfl) ?_
  refine W.objInit hx hb hown w1 w2 (hts _ (List.mem_of_getElem? (i := 3) rfl)) rfl (by rw [hml]; exact hl.1) rfl dX1_init_1 (Nat.le_of_ble_eq_true rfl) (Nat.le_of_ble_eq_true rfl) ?_
  refine W.eq (g2 := F0 m 4 ls []) rfl ?_
  refine lv_aload_n hx hb dX1_init_4 rfl (lv_at hl 0 rfl) ?_
  refine lv_bipush (v := (8 : Int32)) hx hb dX1_init_5 (by decide) ?_
  refine x_newai (N := 8) (ws' := fun q_1 => [(a_this, .inr (1, [.null, .null])), (q_1, .inl (X.2.1 0, 8, .inl (fun _ => 0)))]) hx hb w4 hG hP hD rfl hS hA rfl (Nat.le_of_ble_eq_true rfl) (Nat.le_of_ble_eq_true rfl) (Nat.le_of_ble_eq_true rfl) dX1_init_7 (fun q_1 => rfl) (fun q_1 H hP hD hS => ?_)
  have hP : va_P X.1 vwCl [(a_this, .inr (1, [.null, .null])), (q_1, .inl (X.2.1 0, 8, .inl (fun _ => 0)))] H := hP
  have hD : aD A [a_this, q_1] := hD
  refine W.widen (k := 1) (n := 8) (Nat.le_of_ble_eq_true rfl) (Nat.le_of_ble_eq_true rfl) ?_
  refine x_putF (ws' := [(a_this, .inr (1, [.null, .ref q_1])), (q_1, .inl (X.2.1 0, 8, .inl (fun _ => 0)))]) (ty := (tyX1 1)) (C := RX1) (T := TX1) (N := 2) hx hb hts in1 tyX1 tyX1_ok nmX1 hown hG hP hD rfl hS 0 rfl rfl 1 (by decide) w5 rfl hin rfl (tyX1_ok 1 (by decide)) rfl rfl (Nat.le_of_ble_eq_true rfl) dX1_init_9 rfl (fun H locs hP hS => ?_)
  refine lv_aload_n hx hb dX1_init_12 rfl (lv_at hl 0 rfl) ?_
  refine lv_aload_n hx hb dX1_init_13 rfl (lv_at hl 1 rfl) ?_
  refine x_putF (ws' := [(a_this, .inr (1, [.ref a_p0, .ref q_1])), (q_1, .inl (X.2.1 0, 8, .inl (fun _ => 0)))]) (ty := (tyX1 0)) (C := RX1) (T := TX1) (N := 2) hx hb hts in1 tyX1 tyX1_ok nmX1 hown hG hP hD rfl hS 0 rfl rfl 0 (by decide) w6 rfl hin rfl (tyX1_ok 0 (by decide)) rfl rfl (Nat.le_of_ble_eq_true rfl) dX1_init_14 rfl (fun H locs hP hS => ?_)
  obtain rfl := Option.some.inj hf
  exact ret (fun k => [q_1].getD k 0) H _ ls _ hP hD hS dX1_init_17
def mX2_init  :
  Option (Int32) :=
  some (0 : Int32)
theorem hdsX2_init : yX2_init.cls ≠ "java/lang/invoke/MethodHandle" ∧ yX2_init.cls ≠ "java/lang/invoke/VarHandle" ∧ (parseMethodDescriptor yX2_init.desc).map (fun d => d.parameters.length) = some 2 := by decide +kernel
abbrev rmX2_init : Room := { frames := 1, cells := 1, slots := 9, locals := 21 }
set_option maxHeartbeats 4000000 in
set_option maxRecDepth 100000 in
theorem qX2_init (l : Launch) (X : XT) (a_this : Nat) (a_p0 : Nat) (a_p1 : Nat)    (o : Int32) (hf : mX2_init  = some o) :
    MC l yX2_init wsX2_init rmX2_init X [.ref a_this, .ref a_p0, .ref a_p1] [(a_this, .inr (2, [.null, .null, .null, .int (0 : Int32)]))]  (fun u => [(a_this, .inr (2, [.ref a_p0, .ref a_p1, .ref (u 0), .int o])), ((u 0), .inl (X.2.1 1, 9, .inr (.inl (fun _ => 0))))]) 1 9 := by
  refine MC_ofH (cc := cX2_init) (maxL := 3) (by decide) rfl (Nat.le_of_ble_eq_true rfl) ?_
  intro p e s m below meth c A Q H ls hx hb hml hts hown hin hA hD hG hP hS hl ret
  have hin : meth.name = "<init>" := hin
  have hown : s.vm.findClass RX2 = some m.cls := hown
  have hD : aD A [a_this] := hD
  have hl : lv_has ls 3 [(0, .ref a_this), (1, .ref a_p0), (2, .ref a_p1)] := hl
  have w1 := hts (.methodLink RX2 3 objectInit) (List.mem_of_getElem? (i := 1) rfl)
  have w2 := hts (.instanceMethod objectInit) (List.mem_of_getElem? (i := 2) rfl)
  have w4 := hts (.arrayClass .long) (List.mem_of_getElem? (i := 4) rfl)
  have w5 := hts (.fieldLink RX2 9 "ThreeCards$Coins" "ways" "[J") (List.mem_of_getElem? (i := 5) rfl)
  have w6 := hts (.fieldLink RX2 15 "ThreeCards$Coins" "howMany" "I") (List.mem_of_getElem? (i := 6) rfl)
  have w7 := hts (.fieldLink RX2 19 "ThreeCards$Coins" "fight" "LThreeCards$Fight;") (List.mem_of_getElem? (i := 7) rfl)
  have w8 := hts (.fieldLink RX2 23 "ThreeCards$Coins" "cards" "LThreeCards$Cards;") (List.mem_of_getElem? (i := 8) rfl)
  have in2 : ∀ w ∈ u_ws RX2 TX2 4, w ∈ wsX2_init := by decide +kernel
  unfold mX2_init at hf
  refine lv_aload_n hx hb dX2_init_0 rfl (lv_at hl 0 rfl) ?_
  refine W.objInit hx hb hown w1 w2 (hts _ (List.mem_of_getElem? (i := 3) rfl)) rfl (by rw [hml]; exact hl.1) rfl dX2_init_1 (Nat.le_of_ble_eq_true rfl) (Nat.le_of_ble_eq_true rfl) ?_
  refine W.eq (g2 := F0 m 4 ls []) rfl ?_
  refine lv_aload_n hx hb dX2_init_4 rfl (lv_at hl 0 rfl) ?_
  refine lv_bipush (v := (9 : Int32)) hx hb dX2_init_5 (by decide) ?_
  refine x_newal (N := 9) (ws' := fun q_1 => [(a_this, .inr (2, [.null, .null, .null, .int (0 : Int32)])), (q_1, .inl (X.2.1 1, 9, .inr (.inl (fun _ => 0))))]) hx hb w4 hG hP hD rfl hS hA rfl (Nat.le_of_ble_eq_true rfl) (Nat.le_of_ble_eq_true rfl) (Nat.le_of_ble_eq_true rfl) dX2_init_7 (fun q_1 => rfl) (fun q_1 H hP hD hS => ?_)
  have hP : va_P X.1 vwCl [(a_this, .inr (2, [.null, .null, .null, .int (0 : Int32)])), (q_1, .inl (X.2.1 1, 9, .inr (.inl (fun _ => 0))))] H := hP
  have hD : aD A [a_this, q_1] := hD
  refine W.widen (k := 1) (n := 9) (Nat.le_of_ble_eq_true rfl) (Nat.le_of_ble_eq_true rfl) ?_
  refine x_putF (ws' := [(a_this, .inr (2, [.null, .null, .ref q_1, .int (0 : Int32)])), (q_1, .inl (X.2.1 1, 9, .inr (.inl (fun _ => 0))))]) (ty := (tyX2 2)) (C := RX2) (T := TX2) (N := 4) hx hb hts in2 tyX2 tyX2_ok nmX2 hown hG hP hD rfl hS 0 rfl rfl 2 (by decide) w5 rfl hin rfl (tyX2_ok 2 (by decide)) rfl rfl (Nat.le_of_ble_eq_true rfl) dX2_init_9 rfl (fun H locs hP hS => ?_)
  refine lv_aload_n hx hb dX2_init_12 rfl (lv_at hl 0 rfl) ?_
  refine lv_iconst (v := (0 : Int32)) hx hb dX2_init_13 (by decide) ?_
  refine x_put (ws' := [(a_this, .inr (2, [.null, .null, .ref q_1, .int (0 : Int32)])), (q_1, .inl (X.2.1 1, 9, .inr (.inl (fun _ => 0))))]) (ty := .int) (C := RX2) (T := TX2) (N := 4) hx hb hts in2 tyX2 tyX2_ok nmX2 hown hG hP hD rfl hS 0 rfl rfl 3 (by decide) w6 rfl (tyX2_ok 3 (by decide)) rfl rfl (Nat.le_of_ble_eq_true rfl) dX2_init_14 rfl (fun H locs hP hS => ?_)
  refine lv_aload_n hx hb dX2_init_17 rfl (lv_at hl 0 rfl) ?_
  refine lv_aload_n hx hb dX2_init_18 rfl (lv_at hl 1 rfl) ?_
  refine x_putF (ws' := [(a_this, .inr (2, [.ref a_p0, .null, .ref q_1, .int (0 : Int32)])), (q_1, .inl (X.2.1 1, 9, .inr (.inl (fun _ => 0))))]) (ty := (tyX2 0)) (C := RX2) (T := TX2) (N := 4) hx hb hts in2 tyX2 tyX2_ok nmX2 hown hG hP hD rfl hS 0 rfl rfl 0 (by decide) w7 rfl hin rfl (tyX2_ok 0 (by decide)) rfl rfl (Nat.le_of_ble_eq_true rfl) dX2_init_19 rfl (fun H locs hP hS => ?_)
  refine lv_aload_n hx hb dX2_init_22 rfl (lv_at hl 0 rfl) ?_
  refine lv_aload_n hx hb dX2_init_23 rfl (lv_at hl 2 rfl) ?_
  refine x_putF (ws' := [(a_this, .inr (2, [.ref a_p0, .ref a_p1, .ref q_1, .int (0 : Int32)])), (q_1, .inl (X.2.1 1, 9, .inr (.inl (fun _ => 0))))]) (ty := (tyX2 1)) (C := RX2) (T := TX2) (N := 4) hx hb hts in2 tyX2 tyX2_ok nmX2 hown hG hP hD rfl hS 0 rfl rfl 1 (by decide) w8 rfl hin rfl (tyX2_ok 1 (by decide)) rfl rfl (Nat.le_of_ble_eq_true rfl) dX2_init_24 rfl (fun H locs hP hS => ?_)
  obtain rfl := Option.some.inj hf
  exact ret (fun k => [q_1].getD k 0) H _ ls _ hP hD hS dX2_init_27
def mX7_init_B70 (k34 : Int32 → (Nat → Int32) → Option ((Nat → Int32))) (k42 : Int32 → Int32 → (Nat → Int32) → Option ((Nat → Int32))) (l2 : Int32) (l3 : Int32) (s1 : Int32) (s2 : Int32) (s3 : Int32) (f_watchers : Nat → Int32) :
  Option ((Nat → Int32)) :=
  gi s1 12 <|
  lb (upd f_watchers s1.toNatClampNeg (s2 ||| s3)) fun g_12 =>
  lb (l3 + (1 : Int32)) fun v_13 =>
  k42 l2 v_13 g_12
def mX7_init_B42 (k34 : Int32 → (Nat → Int32) → Option ((Nat → Int32))) (k42 : Int32 → Int32 → (Nat → Int32) → Option ((Nat → Int32))) (l2 : Int32) (l3 : Int32) (f_watchers : Nat → Int32) :
  Option ((Nat → Int32)) :=
  if (12 : Int32) ≤ l3 then (lb (l2 + (1 : Int32)) fun v_6 =>
  k34 v_6 f_watchers) else (gi l2 12 <|
  (mX3_isSeenFrom l3 l2).bind fun o_8 =>
  if o_8 = 0 then (mX7_init_B70  k34 k42 l2 l3 l2 (f_watchers l2.toNatClampNeg) (0 : Int32) f_watchers) else (mX7_init_B70  k34 k42 l2 l3 l2 (f_watchers l2.toNatClampNeg) ((1 : Int32) <<< (l3 &&& 31)) f_watchers))
def mX7_init_L42 (k34 : Int32 → (Nat → Int32) → Option ((Nat → Int32))) (n : Nat) (l2 : Int32) (l3 : Int32) (f_watchers : Nat → Int32) :
  Option ((Nat → Int32)) :=
  loopN (fun k (s : Int32 × Int32 × (Nat → Int32)) => mX7_init_B42  k34 (fun l2 l3 f_watchers => k (l2, l3, f_watchers)) s.1 s.2.1 s.2.2) n (l2, l3, f_watchers)
def mX7_init_B34 (k34 : Int32 → (Nat → Int32) → Option ((Nat → Int32))) (l2 : Int32) (f_watchers : Nat → Int32) :
  Option ((Nat → Int32)) :=
  if (12 : Int32) ≤ l2 then (some f_watchers) else (mX7_init_L42  k34 FUEL l2 (0 : Int32) f_watchers)
def mX7_init_L34  (n : Nat) (l2 : Int32) (f_watchers : Nat → Int32) :
  Option ((Nat → Int32)) :=
  loopN (fun k (s : Int32 × (Nat → Int32)) => mX7_init_B34   (fun l2 f_watchers => k (l2, f_watchers)) s.1 s.2) n (l2, f_watchers)
def mX7_init  :
  Option ((Nat → Int32)) :=
  mX7_init_L34   FUEL (0 : Int32) (fun _ => 0)
theorem hdsX7_init : yX7_init.cls ≠ "java/lang/invoke/MethodHandle" ∧ yX7_init.cls ≠ "java/lang/invoke/VarHandle" ∧ (parseMethodDescriptor yX7_init.desc).map (fun d => d.parameters.length) = some 1 := by decide +kernel
abbrev rmX7_init : Room := { frames := 2, cells := 3, slots := 29, locals := 43 }
set_option maxHeartbeats 4000000 in
set_option maxRecDepth 100000 in
theorem qX7_init (l : Launch) (X : XT) (a_this : Nat) (a_p0 : Nat)    (o : (Nat → Int32)) (hf : mX7_init  = some o) :
    MC l yX7_init wsX7_init rmX7_init X [.ref a_this, .ref a_p0] [(a_this, .inr (7, [.null, .null, .null, .null]))]  (fun u => [(a_this, .inr (7, [.ref a_p0, .ref (u 0), .ref (u 1), .ref (u 2)])), ((u 0), .inl (X.2.1 0, 12, .inl (fun _ => 0))), ((u 1), .inl (X.2.1 0, 12, .inl o)), ((u 2), .inl (X.2.1 0, 5, .inl (fun _ => 0)))]) 3 29 := by
  refine MC_ofH (cc := cX7_init) (maxL := 4) (by decide) rfl (Nat.le_of_ble_eq_true rfl) ?_
  intro p e s m below meth c A Q H ls hx hb hml hts hown hin hA hD hG hP hS hl ret
  have hin : meth.name = "<init>" := hin
  have hown : s.vm.findClass RX7 = some m.cls := hown
  have hD : aD A [a_this] := hD
  have hl : lv_has ls 4 [(0, .ref a_this), (1, .ref a_p0)] := hl
  have w1 := hts (.methodLink RX7 1 objectInit) (List.mem_of_getElem? (i := 1) rfl)
  have w2 := hts (.instanceMethod objectInit) (List.mem_of_getElem? (i := 2) rfl)
  have w4 := hts (.arrayClass .int) (List.mem_of_getElem? (i := 4) rfl)
  have w5 := hts (.fieldLink RX7 9 "ThreeCards$Seats" "shown" "[I") (List.mem_of_getElem? (i := 5) rfl)
  have w6 := hts (.fieldLink RX7 15 "ThreeCards$Seats" "watchers" "[I") (List.mem_of_getElem? (i := 6) rfl)
  have w7 := hts (.fieldLink RX7 18 "ThreeCards$Seats" "best" "[I") (List.mem_of_getElem? (i := 7) rfl)
  have w8 := hts (.fieldLink RX7 21 "ThreeCards$Seats" "fight" "LThreeCards$Fight;") (List.mem_of_getElem? (i := 8) rfl)
  have w9 := hts (.static yX3_isSeenFrom) (List.mem_of_getElem? (i := 9) rfl)
  have w10 := hts (.initialized RX3) (List.mem_of_getElem? (i := 10) rfl)
  have in7 : ∀ w ∈ u_ws RX7 TX7 4, w ∈ wsX7_init := by decide +kernel
  have hB70 : ∀ (k34 : Int32 → (Nat → Int32) → Option ((Nat → Int32))) (hk34 : ∀ (l2 : Int32) (f_watchers : Nat → Int32) (q_0 : Nat) (q_1 : Nat) (q_2 : Nat) (H : Heap) (locs : List Loc) (ls : Array Slot), va_P X.1 vwCl [(a_this, .inr (7, [.ref a_p0, .ref q_0, .ref q_1, .ref q_2])), (q_0, .inl (X.2.1 0, 12, .inl (fun _ => 0))), (q_1, .inl (X.2.1 0, 12, .inl f_watchers)), (q_2, .inl (X.2.1 0, 5, .inl (fun _ => 0)))] H → aD A [a_this, q_0, q_1, q_2] → va_S A s.heap H locs → lv_has ls 4 [(0, .ref a_this), (2, .int l2)] → k34 l2 f_watchers = some o → W p l e rmX7_init s m ([.ref a_this, .ref a_p0] : List Value).toArray below meth c H locs 3 29 Q (F0 m 34 ls [])) (k42 : Int32 → Int32 → (Nat → Int32) → Option ((Nat → Int32))) (hk42 : ∀ (l2 : Int32) (l3 : Int32) (f_watchers : Nat → Int32) (q_0 : Nat) (q_1 : Nat) (q_2 : Nat) (H : Heap) (locs : List Loc) (ls : Array Slot), va_P X.1 vwCl [(a_this, .inr (7, [.ref a_p0, .ref q_0, .ref q_1, .ref q_2])), (q_0, .inl (X.2.1 0, 12, .inl (fun _ => 0))), (q_1, .inl (X.2.1 0, 12, .inl f_watchers)), (q_2, .inl (X.2.1 0, 5, .inl (fun _ => 0)))] H → aD A [a_this, q_0, q_1, q_2] → va_S A s.heap H locs → lv_has ls 4 [(0, .ref a_this), (2, .int l2), (3, .int l3)] → k42 l2 l3 f_watchers = some o → W p l e rmX7_init s m ([.ref a_this, .ref a_p0] : List Value).toArray below meth c H locs 3 29 Q (F0 m 42 ls [])) (l2 : Int32) (l3 : Int32) (s1 : Int32) (s2 : Int32) (s3 : Int32) (f_watchers : Nat → Int32) (q_0 : Nat) (q_1 : Nat) (q_2 : Nat) (H : Heap) (locs : List Loc) (ls : Array Slot), va_P X.1 vwCl [(a_this, .inr (7, [.ref a_p0, .ref q_0, .ref q_1, .ref q_2])), (q_0, .inl (X.2.1 0, 12, .inl (fun _ => 0))), (q_1, .inl (X.2.1 0, 12, .inl f_watchers)), (q_2, .inl (X.2.1 0, 5, .inl (fun _ => 0)))] H → aD A [a_this, q_0, q_1, q_2] → va_S A s.heap H locs → lv_has ls 4 [(0, .ref a_this), (2, .int l2), (3, .int l3)] → mX7_init_B70  k34 k42 l2 l3 s1 s2 s3 f_watchers = some o → W p l e rmX7_init s m ([.ref a_this, .ref a_p0] : List Value).toArray below meth c H locs 3 29 Q (F0 m 70 ls [.int s3, .int s2, .int s1, .ref q_1]) := by
    intro k34 hk34 k42 hk42 l2 l3 s1 s2 s3 f_watchers q_0 q_1 q_2 H locs ls hP hD hS hl hf
    unfold mX7_init_B70 at hf
    refine lv_ior hx hb dX7_init_70 ?_
    obtain ⟨h_11, hf⟩ := gi_s hf
    obtain ⟨g_12, eg_12, hf⟩ := lb_g hf
    refine x_iast (ws' := [(a_this, .inr (7, [.ref a_p0, .ref q_0, .ref q_1, .ref q_2])), (q_0, .inl (X.2.1 0, 12, .inl (fun _ => 0))), (q_1, .inl (X.2.1 0, 12, .inl g_12)), (q_2, .inl (X.2.1 0, 5, .inl (fun _ => 0)))]) hx hb hG hP hD rfl hS 2 rfl h_11 dX7_init_71 eg_12 rfl (fun H locs hP hS => ?_)
    obtain ⟨v_13, ev_13, hf⟩ := lb_g hf
    refine lv_iinc (v := v_13) (lv' := [(3, .int v_13), (0, .ref a_this), (2, .int l2)]) hx hb dX7_init_72 hl (k := 2) rfl ev_13.symm (by decide) rfl (fun ls hl => ?_)
    refine lv_goto (tgt := 42) hx hb dX7_init_75 (by decide) ?_
    exact hk42 l2 v_13 g_12 q_0 q_1 q_2 H _ ls hP hD  hS (lv_sub hl [1, 2, 0] rfl) hf
  have hL42 : ∀ (k34 : Int32 → (Nat → Int32) → Option ((Nat → Int32))) (hk34 : ∀ (l2 : Int32) (f_watchers : Nat → Int32) (q_0 : Nat) (q_1 : Nat) (q_2 : Nat) (H : Heap) (locs : List Loc) (ls : Array Slot), va_P X.1 vwCl [(a_this, .inr (7, [.ref a_p0, .ref q_0, .ref q_1, .ref q_2])), (q_0, .inl (X.2.1 0, 12, .inl (fun _ => 0))), (q_1, .inl (X.2.1 0, 12, .inl f_watchers)), (q_2, .inl (X.2.1 0, 5, .inl (fun _ => 0)))] H → aD A [a_this, q_0, q_1, q_2] → va_S A s.heap H locs → lv_has ls 4 [(0, .ref a_this), (2, .int l2)] → k34 l2 f_watchers = some o → W p l e rmX7_init s m ([.ref a_this, .ref a_p0] : List Value).toArray below meth c H locs 3 29 Q (F0 m 34 ls [])) (n : Nat) (l2 : Int32) (l3 : Int32) (f_watchers : Nat → Int32) (q_0 : Nat) (q_1 : Nat) (q_2 : Nat) (H : Heap) (locs : List Loc) (ls : Array Slot), va_P X.1 vwCl [(a_this, .inr (7, [.ref a_p0, .ref q_0, .ref q_1, .ref q_2])), (q_0, .inl (X.2.1 0, 12, .inl (fun _ => 0))), (q_1, .inl (X.2.1 0, 12, .inl f_watchers)), (q_2, .inl (X.2.1 0, 5, .inl (fun _ => 0)))] H → aD A [a_this, q_0, q_1, q_2] → va_S A s.heap H locs → lv_has ls 4 [(0, .ref a_this), (2, .int l2), (3, .int l3)] → mX7_init_L42  k34 n l2 l3 f_watchers = some o → W p l e rmX7_init s m ([.ref a_this, .ref a_p0] : List Value).toArray below meth c H locs 3 29 Q (F0 m 42 ls []) := by
    intro k34 hk34 n
    induction n with
    | zero => intro l2 l3 f_watchers q_0 q_1 q_2 H locs ls hP hD hS hl hf; exact xn hf
    | succ n ih =>
      intro l2 l3 f_watchers q_0 q_1 q_2 H locs ls hP hD hS hl hf
      have hf : mX7_init_B42  k34 (mX7_init_L42  k34 n) l2 l3 f_watchers = some o := hf
      generalize mX7_init_L42  k34 n = k42 at ih hf
      unfold mX7_init_B42 at hf
      refine lv_iload_n hx hb dX7_init_42 rfl (lv_at hl 2 rfl) ?_
      refine lv_bipush (v := (12 : Int32)) hx hb dX7_init_43 (by decide) ?_
      refine lv_icmp_ge (tgt := 78) hx hb dX7_init_45 (by decide) (fun c_5 => ?_) (fun c_5 => ?_)
      · have hf := xt hf c_5
        obtain ⟨v_6, ev_6, hf⟩ := lb_g hf
        refine lv_iinc (v := v_6) (lv' := [(2, .int v_6), (0, .ref a_this), (3, .int l3)]) hx hb dX7_init_78 hl (k := 1) rfl ev_6.symm (by decide) rfl (fun ls hl => ?_)
        refine lv_goto (tgt := 34) hx hb dX7_init_81 (by decide) ?_
        exact hk34 v_6 f_watchers q_0 q_1 q_2 H _ ls hP hD  hS (lv_sub hl [1, 0] rfl) hf
      · have hf := xf hf c_5
        refine lv_aload_n hx hb dX7_init_48 rfl (lv_at hl 0 rfl) ?_
        refine va_get (D := X.1) (ci := 7) (v := .ref q_1) (C := RX7) (T := TX7) (N := 4) hx hb hts in7 hown hG.1 hP 0 rfl rfl 2 (by decide) w6 (fun _ h9 => h9) rfl dX7_init_49 ?_
        refine lv_iload_n hx hb dX7_init_52 rfl (lv_at hl 1 rfl) ?_
        refine lv_dup2_11 hx hb dX7_init_53 rfl rfl ?_
        obtain ⟨h_7, hf⟩ := gi_s hf
        refine va_iald (D := X.1) hx hb hG.1 hP 2 0 rfl rfl h_7 dX7_init_54 ?_
        refine lv_iload_n hx hb dX7_init_55 rfl (lv_at hl 2 rfl) ?_
        refine lv_iload_n hx hb dX7_init_56 rfl (lv_at hl 1 rfl) ?_
        obtain ⟨o_8, ho_8, hf⟩ := ob_s hf
        refine xSN_i (As := [.int l3, .int l2]) (rest := [.int (f_watchers l2.toNatClampNeg), .int l2, .ref q_1]) (ws2 := [(a_this, .inr (7, [.ref a_p0, .ref q_0, .ref q_1, .ref q_2])), (q_0, .inl (X.2.1 0, 12, .inl (fun _ => 0))), (q_1, .inl (X.2.1 0, 12, .inl f_watchers)), (q_2, .inl (X.2.1 0, 5, .inl (fun _ => 0)))]) hx hb hml hts hown hG hA hP hD rfl hS hl.1 (qX3_isSeenFrom l X l3 l2 o_8 ho_8) ⟨va_cnB (y := yX3_isSeenFrom) 2 hts gX7_init_X3_isSeenFrom_n25 rfl rfl rfl (nm2 hG.2.1) w10 hdsX3_isSeenFrom ⟨Nat.le_of_ble_eq_true rfl, Nat.le_of_ble_eq_true rfl⟩, w9, trivial⟩ [] [0, 1, 2, 3] [0, 1, 2, 3] rfl rfl rfl rfl rfl rfl rfl rfl rfl (Nat.le_of_ble_eq_true rfl) ⟨Nat.le_of_ble_eq_true rfl, Nat.le_of_ble_eq_true rfl⟩ dX7_init_57 (fun H locs hP _ hS => ?_)
        refine lv_if_eq (tgt := 69) hx hb dX7_init_60 (by decide) (fun c_10 => ?_) (fun c_10 => ?_)
        · have hf := xt hf c_10
          refine lv_iconst (v := (0 : Int32)) hx hb dX7_init_69 (by decide) ?_
          exact hB70 k34 hk34 k42 ih l2 l3 l2 (f_watchers l2.toNatClampNeg) (0 : Int32) f_watchers q_0 q_1 q_2 H _ ls hP hD  hS (lv_sub hl [0, 1, 2] rfl) hf
        · have hf := xf hf c_10
          refine lv_iconst (v := (1 : Int32)) hx hb dX7_init_63 (by decide) ?_
          refine lv_iload_n hx hb dX7_init_64 rfl (lv_at hl 2 rfl) ?_
          refine lv_ishl hx hb dX7_init_65 ?_
          refine lv_goto (tgt := 70) hx hb dX7_init_66 (by decide) ?_
          exact hB70 k34 hk34 k42 ih l2 l3 l2 (f_watchers l2.toNatClampNeg) ((1 : Int32) <<< (l3 &&& 31)) f_watchers q_0 q_1 q_2 H _ ls hP hD  hS (lv_sub hl [0, 1, 2] rfl) hf
  have hL34 : ∀ (n : Nat) (l2 : Int32) (f_watchers : Nat → Int32) (q_0 : Nat) (q_1 : Nat) (q_2 : Nat) (H : Heap) (locs : List Loc) (ls : Array Slot), va_P X.1 vwCl [(a_this, .inr (7, [.ref a_p0, .ref q_0, .ref q_1, .ref q_2])), (q_0, .inl (X.2.1 0, 12, .inl (fun _ => 0))), (q_1, .inl (X.2.1 0, 12, .inl f_watchers)), (q_2, .inl (X.2.1 0, 5, .inl (fun _ => 0)))] H → aD A [a_this, q_0, q_1, q_2] → va_S A s.heap H locs → lv_has ls 4 [(0, .ref a_this), (2, .int l2)] → mX7_init_L34   n l2 f_watchers = some o → W p l e rmX7_init s m ([.ref a_this, .ref a_p0] : List Value).toArray below meth c H locs 3 29 Q (F0 m 34 ls []) := by
    intro n
    induction n with
    | zero => intro l2 f_watchers q_0 q_1 q_2 H locs ls hP hD hS hl hf; exact xn hf
    | succ n ih =>
      intro l2 f_watchers q_0 q_1 q_2 H locs ls hP hD hS hl hf
      have hf : mX7_init_B34   (mX7_init_L34   n) l2 f_watchers = some o := hf
      generalize mX7_init_L34   n = k34 at ih hf
      unfold mX7_init_B34 at hf
      refine lv_iload_n hx hb dX7_init_34 rfl (lv_at hl 1 rfl) ?_
      refine lv_bipush (v := (12 : Int32)) hx hb dX7_init_35 (by decide) ?_
      refine lv_icmp_ge (tgt := 84) hx hb dX7_init_37 (by decide) (fun c_4 => ?_) (fun c_4 => ?_)
      · have hf := xt hf c_4
        obtain rfl := Option.some.inj hf
        exact ret (fun k => [q_0, q_1, q_2].getD k 0) H _ ls _ hP hD hS dX7_init_84
      · have hf := xf hf c_4
        refine lv_iconst (v := (0 : Int32)) hx hb dX7_init_40 (by decide) ?_
        refine lv_istore_n (lv' := [(3, .int (0 : Int32)), (0, .ref a_this), (2, .int l2)]) hx hb dX7_init_41 rfl hl (by decide) rfl (fun ls hl => ?_)
        exact hL42 k34 ih FUEL l2 (0 : Int32) f_watchers q_0 q_1 q_2 H _ ls hP hD  hS (lv_sub hl [1, 2, 0] rfl) hf
  unfold mX7_init at hf
  refine lv_aload_n hx hb dX7_init_0 rfl (lv_at hl 0 rfl) ?_
  refine W.objInit hx hb hown w1 w2 (hts _ (List.mem_of_getElem? (i := 3) rfl)) rfl (by rw [hml]; exact hl.1) rfl dX7_init_1 (Nat.le_of_ble_eq_true rfl) (Nat.le_of_ble_eq_true rfl) ?_
  refine W.eq (g2 := F0 m 4 ls []) rfl ?_
  refine lv_aload_n hx hb dX7_init_4 rfl (lv_at hl 0 rfl) ?_
  refine lv_bipush (v := (12 : Int32)) hx hb dX7_init_5 (by decide) ?_
  refine x_newai (N := 12) (ws' := fun q_1 => [(a_this, .inr (7, [.null, .null, .null, .null])), (q_1, .inl (X.2.1 0, 12, .inl (fun _ => 0)))]) hx hb w4 hG hP hD rfl hS hA rfl (Nat.le_of_ble_eq_true rfl) (Nat.le_of_ble_eq_true rfl) (Nat.le_of_ble_eq_true rfl) dX7_init_7 (fun q_1 => rfl) (fun q_1 H hP hD hS => ?_)
  have hP : va_P X.1 vwCl [(a_this, .inr (7, [.null, .null, .null, .null])), (q_1, .inl (X.2.1 0, 12, .inl (fun _ => 0)))] H := hP
  have hD : aD A [a_this, q_1] := hD
  refine W.widen (k := 1) (n := 12) (Nat.le_of_ble_eq_true rfl) (Nat.le_of_ble_eq_true rfl) ?_
  refine x_putF (ws' := [(a_this, .inr (7, [.null, .ref q_1, .null, .null])), (q_1, .inl (X.2.1 0, 12, .inl (fun _ => 0)))]) (ty := (tyX7 1)) (C := RX7) (T := TX7) (N := 4) hx hb hts in7 tyX7 tyX7_ok nmX7 hown hG hP hD rfl hS 0 rfl rfl 1 (by decide) w5 rfl hin rfl (tyX7_ok 1 (by decide)) rfl rfl (Nat.le_of_ble_eq_true rfl) dX7_init_9 rfl (fun H locs hP hS => ?_)
  refine lv_aload_n hx hb dX7_init_12 rfl (lv_at hl 0 rfl) ?_
  refine lv_bipush (v := (12 : Int32)) hx hb dX7_init_13 (by decide) ?_
  refine x_newai (N := 12) (ws' := fun q_2 => [(a_this, .inr (7, [.null, .ref q_1, .null, .null])), (q_1, .inl (X.2.1 0, 12, .inl (fun _ => 0))), (q_2, .inl (X.2.1 0, 12, .inl (fun _ => 0)))]) hx hb w4 hG hP hD rfl hS hA rfl (Nat.le_of_ble_eq_true rfl) (Nat.le_of_ble_eq_true rfl) (Nat.le_of_ble_eq_true rfl) dX7_init_15 (fun q_2 => rfl) (fun q_2 H hP hD hS => ?_)
  have hP : va_P X.1 vwCl [(a_this, .inr (7, [.null, .ref q_1, .null, .null])), (q_1, .inl (X.2.1 0, 12, .inl (fun _ => 0))), (q_2, .inl (X.2.1 0, 12, .inl (fun _ => 0)))] H := hP
  have hD : aD A [a_this, q_1, q_2] := hD
  refine W.widen (k := 2) (n := 24) (Nat.le_of_ble_eq_true rfl) (Nat.le_of_ble_eq_true rfl) ?_
  refine x_putF (ws' := [(a_this, .inr (7, [.null, .ref q_1, .ref q_2, .null])), (q_1, .inl (X.2.1 0, 12, .inl (fun _ => 0))), (q_2, .inl (X.2.1 0, 12, .inl (fun _ => 0)))]) (ty := (tyX7 2)) (C := RX7) (T := TX7) (N := 4) hx hb hts in7 tyX7 tyX7_ok nmX7 hown hG hP hD rfl hS 0 rfl rfl 2 (by decide) w6 rfl hin rfl (tyX7_ok 2 (by decide)) rfl rfl (Nat.le_of_ble_eq_true rfl) dX7_init_17 rfl (fun H locs hP hS => ?_)
  refine lv_aload_n hx hb dX7_init_20 rfl (lv_at hl 0 rfl) ?_
  refine lv_iconst (v := (5 : Int32)) hx hb dX7_init_21 (by decide) ?_
  refine x_newai (N := 5) (ws' := fun q_3 => [(a_this, .inr (7, [.null, .ref q_1, .ref q_2, .null])), (q_1, .inl (X.2.1 0, 12, .inl (fun _ => 0))), (q_2, .inl (X.2.1 0, 12, .inl (fun _ => 0))), (q_3, .inl (X.2.1 0, 5, .inl (fun _ => 0)))]) hx hb w4 hG hP hD rfl hS hA rfl (Nat.le_of_ble_eq_true rfl) (Nat.le_of_ble_eq_true rfl) (Nat.le_of_ble_eq_true rfl) dX7_init_22 (fun q_3 => rfl) (fun q_3 H hP hD hS => ?_)
  have hP : va_P X.1 vwCl [(a_this, .inr (7, [.null, .ref q_1, .ref q_2, .null])), (q_1, .inl (X.2.1 0, 12, .inl (fun _ => 0))), (q_2, .inl (X.2.1 0, 12, .inl (fun _ => 0))), (q_3, .inl (X.2.1 0, 5, .inl (fun _ => 0)))] H := hP
  have hD : aD A [a_this, q_1, q_2, q_3] := hD
  refine W.widen (k := 3) (n := 29) (Nat.le_of_ble_eq_true rfl) (Nat.le_of_ble_eq_true rfl) ?_
  refine x_putF (ws' := [(a_this, .inr (7, [.null, .ref q_1, .ref q_2, .ref q_3])), (q_1, .inl (X.2.1 0, 12, .inl (fun _ => 0))), (q_2, .inl (X.2.1 0, 12, .inl (fun _ => 0))), (q_3, .inl (X.2.1 0, 5, .inl (fun _ => 0)))]) (ty := (tyX7 3)) (C := RX7) (T := TX7) (N := 4) hx hb hts in7 tyX7 tyX7_ok nmX7 hown hG hP hD rfl hS 0 rfl rfl 3 (by decide) w7 rfl hin rfl (tyX7_ok 3 (by decide)) rfl rfl (Nat.le_of_ble_eq_true rfl) dX7_init_24 rfl (fun H locs hP hS => ?_)
  refine lv_aload_n hx hb dX7_init_27 rfl (lv_at hl 0 rfl) ?_
  refine lv_aload_n hx hb dX7_init_28 rfl (lv_at hl 1 rfl) ?_
  refine x_putF (ws' := [(a_this, .inr (7, [.ref a_p0, .ref q_1, .ref q_2, .ref q_3])), (q_1, .inl (X.2.1 0, 12, .inl (fun _ => 0))), (q_2, .inl (X.2.1 0, 12, .inl (fun _ => 0))), (q_3, .inl (X.2.1 0, 5, .inl (fun _ => 0)))]) (ty := (tyX7 0)) (C := RX7) (T := TX7) (N := 4) hx hb hts in7 tyX7 tyX7_ok nmX7 hown hG hP hD rfl hS 0 rfl rfl 0 (by decide) w8 rfl hin rfl (tyX7_ok 0 (by decide)) rfl rfl (Nat.le_of_ble_eq_true rfl) dX7_init_29 rfl (fun H locs hP hS => ?_)
  refine lv_iconst (v := (0 : Int32)) hx hb dX7_init_32 (by decide) ?_
  refine lv_istore_n (lv' := [(2, .int (0 : Int32)), (0, .ref a_this), (1, .ref a_p0)]) hx hb dX7_init_33 rfl hl (by decide) rfl (fun ls hl => ?_)
  exact hL34  FUEL (0 : Int32) (fun _ => 0) q_1 q_2 q_3 H _ ls hP hD  hS (lv_sub hl [1, 0] rfl) hf
def mX0_init  :
  Option (Int32) :=
  some (0 : Int32)
theorem hdsX0_init : yX0_init.cls ≠ "java/lang/invoke/MethodHandle" ∧ yX0_init.cls ≠ "java/lang/invoke/VarHandle" ∧ (parseMethodDescriptor yX0_init.desc).map (fun d => d.parameters.length) = some 2 := by decide +kernel
abbrev rmX0_init : Room := { frames := 1, cells := 2, slots := 48, locals := 21 }
set_option maxHeartbeats 4000000 in
set_option maxRecDepth 100000 in
theorem qX0_init (l : Launch) (X : XT) (a_this : Nat) (a_p0 : Nat) (a_p1 : Nat)    (o : Int32) (hf : mX0_init  = some o) :
    MC l yX0_init wsX0_init rmX0_init X [.ref a_this, .ref a_p0, .ref a_p1] [(a_this, .inr (0, [.null, .null, .null, .int (0 : Int32), .null]))]  (fun u => [(a_this, .inr (0, [.ref a_p0, .ref a_p1, .ref (u 0), .int o, .ref (u 1)])), ((u 0), .inl (X.2.1 0, 40, .inl (fun _ => 0))), ((u 1), .inl (X.2.1 0, 8, .inl (fun _ => 0)))]) 2 48 := by
  refine MC_ofH (cc := cX0_init) (maxL := 3) (by decide) rfl (Nat.le_of_ble_eq_true rfl) ?_
  intro p e s m below meth c A Q H ls hx hb hml hts hown hin hA hD hG hP hS hl ret
  have hin : meth.name = "<init>" := hin
  have hown : s.vm.findClass RX0 = some m.cls := hown
  have hD : aD A [a_this] := hD
  have hl : lv_has ls 3 [(0, .ref a_this), (1, .ref a_p0), (2, .ref a_p1)] := hl
  have w1 := hts (.methodLink RX0 3 objectInit) (List.mem_of_getElem? (i := 1) rfl)
  have w2 := hts (.instanceMethod objectInit) (List.mem_of_getElem? (i := 2) rfl)
  have w4 := hts (.arrayClass .int) (List.mem_of_getElem? (i := 4) rfl)
  have w5 := hts (.fieldLink RX0 9 "ThreeCards$Buttons" "row" "[I") (List.mem_of_getElem? (i := 5) rfl)
  have w6 := hts (.fieldLink RX0 15 "ThreeCards$Buttons" "rowCount" "I") (List.mem_of_getElem? (i := 6) rfl)
  have w7 := hts (.fieldLink RX0 19 "ThreeCards$Buttons" "heads" "[I") (List.mem_of_getElem? (i := 7) rfl)
  have w8 := hts (.fieldLink RX0 22 "ThreeCards$Buttons" "fight" "LThreeCards$Fight;") (List.mem_of_getElem? (i := 8) rfl)
  have w9 := hts (.fieldLink RX0 26 "ThreeCards$Buttons" "notes" "LThreeCards$Notes;") (List.mem_of_getElem? (i := 9) rfl)
  have in0 : ∀ w ∈ u_ws RX0 TX0 5, w ∈ wsX0_init := by decide +kernel
  unfold mX0_init at hf
  refine lv_aload_n hx hb dX0_init_0 rfl (lv_at hl 0 rfl) ?_
  refine W.objInit hx hb hown w1 w2 (hts _ (List.mem_of_getElem? (i := 3) rfl)) rfl (by rw [hml]; exact hl.1) rfl dX0_init_1 (Nat.le_of_ble_eq_true rfl) (Nat.le_of_ble_eq_true rfl) ?_
  refine W.eq (g2 := F0 m 4 ls []) rfl ?_
  refine lv_aload_n hx hb dX0_init_4 rfl (lv_at hl 0 rfl) ?_
  refine lv_bipush (v := (40 : Int32)) hx hb dX0_init_5 (by decide) ?_
  refine x_newai (N := 40) (ws' := fun q_1 => [(a_this, .inr (0, [.null, .null, .null, .int (0 : Int32), .null])), (q_1, .inl (X.2.1 0, 40, .inl (fun _ => 0)))]) hx hb w4 hG hP hD rfl hS hA rfl (Nat.le_of_ble_eq_true rfl) (Nat.le_of_ble_eq_true rfl) (Nat.le_of_ble_eq_true rfl) dX0_init_7 (fun q_1 => rfl) (fun q_1 H hP hD hS => ?_)
  have hP : va_P X.1 vwCl [(a_this, .inr (0, [.null, .null, .null, .int (0 : Int32), .null])), (q_1, .inl (X.2.1 0, 40, .inl (fun _ => 0)))] H := hP
  have hD : aD A [a_this, q_1] := hD
  refine W.widen (k := 1) (n := 40) (Nat.le_of_ble_eq_true rfl) (Nat.le_of_ble_eq_true rfl) ?_
  refine x_putF (ws' := [(a_this, .inr (0, [.null, .null, .ref q_1, .int (0 : Int32), .null])), (q_1, .inl (X.2.1 0, 40, .inl (fun _ => 0)))]) (ty := (tyX0 2)) (C := RX0) (T := TX0) (N := 5) hx hb hts in0 tyX0 tyX0_ok nmX0 hown hG hP hD rfl hS 0 rfl rfl 2 (by decide) w5 rfl hin rfl (tyX0_ok 2 (by decide)) rfl rfl (Nat.le_of_ble_eq_true rfl) dX0_init_9 rfl (fun H locs hP hS => ?_)
  refine lv_aload_n hx hb dX0_init_12 rfl (lv_at hl 0 rfl) ?_
  refine lv_iconst (v := (0 : Int32)) hx hb dX0_init_13 (by decide) ?_
  refine x_put (ws' := [(a_this, .inr (0, [.null, .null, .ref q_1, .int (0 : Int32), .null])), (q_1, .inl (X.2.1 0, 40, .inl (fun _ => 0)))]) (ty := .int) (C := RX0) (T := TX0) (N := 5) hx hb hts in0 tyX0 tyX0_ok nmX0 hown hG hP hD rfl hS 0 rfl rfl 3 (by decide) w6 rfl (tyX0_ok 3 (by decide)) rfl rfl (Nat.le_of_ble_eq_true rfl) dX0_init_14 rfl (fun H locs hP hS => ?_)
  refine lv_aload_n hx hb dX0_init_17 rfl (lv_at hl 0 rfl) ?_
  refine lv_bipush (v := (8 : Int32)) hx hb dX0_init_18 (by decide) ?_
  refine x_newai (N := 8) (ws' := fun q_2 => [(a_this, .inr (0, [.null, .null, .ref q_1, .int (0 : Int32), .null])), (q_1, .inl (X.2.1 0, 40, .inl (fun _ => 0))), (q_2, .inl (X.2.1 0, 8, .inl (fun _ => 0)))]) hx hb w4 hG hP hD rfl hS hA rfl (Nat.le_of_ble_eq_true rfl) (Nat.le_of_ble_eq_true rfl) (Nat.le_of_ble_eq_true rfl) dX0_init_20 (fun q_2 => rfl) (fun q_2 H hP hD hS => ?_)
  have hP : va_P X.1 vwCl [(a_this, .inr (0, [.null, .null, .ref q_1, .int (0 : Int32), .null])), (q_1, .inl (X.2.1 0, 40, .inl (fun _ => 0))), (q_2, .inl (X.2.1 0, 8, .inl (fun _ => 0)))] H := hP
  have hD : aD A [a_this, q_1, q_2] := hD
  refine W.widen (k := 2) (n := 48) (Nat.le_of_ble_eq_true rfl) (Nat.le_of_ble_eq_true rfl) ?_
  refine x_putF (ws' := [(a_this, .inr (0, [.null, .null, .ref q_1, .int (0 : Int32), .ref q_2])), (q_1, .inl (X.2.1 0, 40, .inl (fun _ => 0))), (q_2, .inl (X.2.1 0, 8, .inl (fun _ => 0)))]) (ty := (tyX0 4)) (C := RX0) (T := TX0) (N := 5) hx hb hts in0 tyX0 tyX0_ok nmX0 hown hG hP hD rfl hS 0 rfl rfl 4 (by decide) w7 rfl hin rfl (tyX0_ok 4 (by decide)) rfl rfl (Nat.le_of_ble_eq_true rfl) dX0_init_22 rfl (fun H locs hP hS => ?_)
  refine lv_aload_n hx hb dX0_init_25 rfl (lv_at hl 0 rfl) ?_
  refine lv_aload_n hx hb dX0_init_26 rfl (lv_at hl 1 rfl) ?_
  refine x_putF (ws' := [(a_this, .inr (0, [.ref a_p0, .null, .ref q_1, .int (0 : Int32), .ref q_2])), (q_1, .inl (X.2.1 0, 40, .inl (fun _ => 0))), (q_2, .inl (X.2.1 0, 8, .inl (fun _ => 0)))]) (ty := (tyX0 0)) (C := RX0) (T := TX0) (N := 5) hx hb hts in0 tyX0 tyX0_ok nmX0 hown hG hP hD rfl hS 0 rfl rfl 0 (by decide) w8 rfl hin rfl (tyX0_ok 0 (by decide)) rfl rfl (Nat.le_of_ble_eq_true rfl) dX0_init_27 rfl (fun H locs hP hS => ?_)
  refine lv_aload_n hx hb dX0_init_30 rfl (lv_at hl 0 rfl) ?_
  refine lv_aload_n hx hb dX0_init_31 rfl (lv_at hl 2 rfl) ?_
  refine x_putF (ws' := [(a_this, .inr (0, [.ref a_p0, .ref a_p1, .ref q_1, .int (0 : Int32), .ref q_2])), (q_1, .inl (X.2.1 0, 40, .inl (fun _ => 0))), (q_2, .inl (X.2.1 0, 8, .inl (fun _ => 0)))]) (ty := (tyX0 1)) (C := RX0) (T := TX0) (N := 5) hx hb hts in0 tyX0 tyX0_ok nmX0 hown hG hP hD rfl hS 0 rfl rfl 1 (by decide) w9 rfl hin rfl (tyX0_ok 1 (by decide)) rfl rfl (Nat.le_of_ble_eq_true rfl) dX0_init_32 rfl (fun H locs hP hS => ?_)
  obtain rfl := Option.some.inj hf
  exact ret (fun k => [q_1, q_2].getD k 0) H _ ls _ hP hD hS dX0_init_35
def mX9_init  :
  Option (Int32) :=
  some (0 : Int32)
theorem hdsX9_init : yX9_init.cls ≠ "java/lang/invoke/MethodHandle" ∧ yX9_init.cls ≠ "java/lang/invoke/VarHandle" ∧ (parseMethodDescriptor yX9_init.desc).map (fun d => d.parameters.length) = some 1 := by decide +kernel
abbrev rmX9_init : Room := { frames := 1, cells := 3, slots := 12, locals := 21 }
set_option maxHeartbeats 4000000 in
set_option maxRecDepth 100000 in
theorem qX9_init (l : Launch) (X : XT) (a_this : Nat) (a_p0 : Nat)    (o : Int32) (hf : mX9_init  = some o) :
    MC l yX9_init wsX9_init rmX9_init X [.ref a_this, .ref a_p0] [(a_this, .inr (9, [.null, .null, .null, .null, .int (0 : Int32)]))]  (fun u => [(a_this, .inr (9, [.ref a_p0, .ref (u 0), .ref (u 1), .ref (u 2), .int o])), ((u 0), .inl (X.2.1 0, 3, .inl (fun _ => 0))), ((u 1), .inl (X.2.1 0, 3, .inl (fun _ => 0))), ((u 2), .inl (X.2.1 0, 6, .inl (fun _ => 0)))]) 3 12 := by
  refine MC_ofH (cc := cX9_init) (maxL := 2) (by decide) rfl (Nat.le_of_ble_eq_true rfl) ?_
  intro p e s m below meth c A Q H ls hx hb hml hts hown hin hA hD hG hP hS hl ret
  have hin : meth.name = "<init>" := hin
  have hown : s.vm.findClass RX9 = some m.cls := hown
  have hD : aD A [a_this] := hD
  have hl : lv_has ls 2 [(0, .ref a_this), (1, .ref a_p0)] := hl
  have w1 := hts (.methodLink RX9 3 objectInit) (List.mem_of_getElem? (i := 1) rfl)
  have w2 := hts (.instanceMethod objectInit) (List.mem_of_getElem? (i := 2) rfl)
  have w4 := hts (.arrayClass .int) (List.mem_of_getElem? (i := 4) rfl)
  have w5 := hts (.fieldLink RX9 9 "ThreeCards$Told" "ofOne" "[I") (List.mem_of_getElem? (i := 5) rfl)
  have w6 := hts (.fieldLink RX9 15 "ThreeCards$Told" "ofOther" "[I") (List.mem_of_getElem? (i := 6) rfl)
  have w7 := hts (.fieldLink RX9 20 "ThreeCards$Told" "row" "[I") (List.mem_of_getElem? (i := 7) rfl)
  have w8 := hts (.fieldLink RX9 23 "ThreeCards$Told" "rowCount" "I") (List.mem_of_getElem? (i := 8) rfl)
  have w9 := hts (.fieldLink RX9 27 "ThreeCards$Told" "notes" "LThreeCards$Notes;") (List.mem_of_getElem? (i := 9) rfl)
  have in9 : ∀ w ∈ u_ws RX9 TX9 5, w ∈ wsX9_init := by decide +kernel
  unfold mX9_init at hf
  refine lv_aload_n hx hb dX9_init_0 rfl (lv_at hl 0 rfl) ?_
  refine W.objInit hx hb hown w1 w2 (hts _ (List.mem_of_getElem? (i := 3) rfl)) rfl (by rw [hml]; exact hl.1) rfl dX9_init_1 (Nat.le_of_ble_eq_true rfl) (Nat.le_of_ble_eq_true rfl) ?_
  refine W.eq (g2 := F0 m 4 ls []) rfl ?_
  refine lv_aload_n hx hb dX9_init_4 rfl (lv_at hl 0 rfl) ?_
  refine lv_iconst (v := (3 : Int32)) hx hb dX9_init_5 (by decide) ?_
  refine x_newai (N := 3) (ws' := fun q_1 => [(a_this, .inr (9, [.null, .null, .null, .null, .int (0 : Int32)])), (q_1, .inl (X.2.1 0, 3, .inl (fun _ => 0)))]) hx hb w4 hG hP hD rfl hS hA rfl (Nat.le_of_ble_eq_true rfl) (Nat.le_of_ble_eq_true rfl) (Nat.le_of_ble_eq_true rfl) dX9_init_6 (fun q_1 => rfl) (fun q_1 H hP hD hS => ?_)
  have hP : va_P X.1 vwCl [(a_this, .inr (9, [.null, .null, .null, .null, .int (0 : Int32)])), (q_1, .inl (X.2.1 0, 3, .inl (fun _ => 0)))] H := hP
  have hD : aD A [a_this, q_1] := hD
  refine W.widen (k := 1) (n := 3) (Nat.le_of_ble_eq_true rfl) (Nat.le_of_ble_eq_true rfl) ?_
  refine x_putF (ws' := [(a_this, .inr (9, [.null, .ref q_1, .null, .null, .int (0 : Int32)])), (q_1, .inl (X.2.1 0, 3, .inl (fun _ => 0)))]) (ty := (tyX9 1)) (C := RX9) (T := TX9) (N := 5) hx hb hts in9 tyX9 tyX9_ok nmX9 hown hG hP hD rfl hS 0 rfl rfl 1 (by decide) w5 rfl hin rfl (tyX9_ok 1 (by decide)) rfl rfl (Nat.le_of_ble_eq_true rfl) dX9_init_8 rfl (fun H locs hP hS => ?_)
  refine lv_aload_n hx hb dX9_init_11 rfl (lv_at hl 0 rfl) ?_
  refine lv_iconst (v := (3 : Int32)) hx hb dX9_init_12 (by decide) ?_
  refine x_newai (N := 3) (ws' := fun q_2 => [(a_this, .inr (9, [.null, .ref q_1, .null, .null, .int (0 : Int32)])), (q_1, .inl (X.2.1 0, 3, .inl (fun _ => 0))), (q_2, .inl (X.2.1 0, 3, .inl (fun _ => 0)))]) hx hb w4 hG hP hD rfl hS hA rfl (Nat.le_of_ble_eq_true rfl) (Nat.le_of_ble_eq_true rfl) (Nat.le_of_ble_eq_true rfl) dX9_init_13 (fun q_2 => rfl) (fun q_2 H hP hD hS => ?_)
  have hP : va_P X.1 vwCl [(a_this, .inr (9, [.null, .ref q_1, .null, .null, .int (0 : Int32)])), (q_1, .inl (X.2.1 0, 3, .inl (fun _ => 0))), (q_2, .inl (X.2.1 0, 3, .inl (fun _ => 0)))] H := hP
  have hD : aD A [a_this, q_1, q_2] := hD
  refine W.widen (k := 2) (n := 6) (Nat.le_of_ble_eq_true rfl) (Nat.le_of_ble_eq_true rfl) ?_
  refine x_putF (ws' := [(a_this, .inr (9, [.null, .ref q_1, .ref q_2, .null, .int (0 : Int32)])), (q_1, .inl (X.2.1 0, 3, .inl (fun _ => 0))), (q_2, .inl (X.2.1 0, 3, .inl (fun _ => 0)))]) (ty := (tyX9 2)) (C := RX9) (T := TX9) (N := 5) hx hb hts in9 tyX9 tyX9_ok nmX9 hown hG hP hD rfl hS 0 rfl rfl 2 (by decide) w6 rfl hin rfl (tyX9_ok 2 (by decide)) rfl rfl (Nat.le_of_ble_eq_true rfl) dX9_init_15 rfl (fun H locs hP hS => ?_)
  refine lv_aload_n hx hb dX9_init_18 rfl (lv_at hl 0 rfl) ?_
  refine lv_bipush (v := (6 : Int32)) hx hb dX9_init_19 (by decide) ?_
  refine x_newai (N := 6) (ws' := fun q_3 => [(a_this, .inr (9, [.null, .ref q_1, .ref q_2, .null, .int (0 : Int32)])), (q_1, .inl (X.2.1 0, 3, .inl (fun _ => 0))), (q_2, .inl (X.2.1 0, 3, .inl (fun _ => 0))), (q_3, .inl (X.2.1 0, 6, .inl (fun _ => 0)))]) hx hb w4 hG hP hD rfl hS hA rfl (Nat.le_of_ble_eq_true rfl) (Nat.le_of_ble_eq_true rfl) (Nat.le_of_ble_eq_true rfl) dX9_init_21 (fun q_3 => rfl) (fun q_3 H hP hD hS => ?_)
  have hP : va_P X.1 vwCl [(a_this, .inr (9, [.null, .ref q_1, .ref q_2, .null, .int (0 : Int32)])), (q_1, .inl (X.2.1 0, 3, .inl (fun _ => 0))), (q_2, .inl (X.2.1 0, 3, .inl (fun _ => 0))), (q_3, .inl (X.2.1 0, 6, .inl (fun _ => 0)))] H := hP
  have hD : aD A [a_this, q_1, q_2, q_3] := hD
  refine W.widen (k := 3) (n := 12) (Nat.le_of_ble_eq_true rfl) (Nat.le_of_ble_eq_true rfl) ?_
  refine x_putF (ws' := [(a_this, .inr (9, [.null, .ref q_1, .ref q_2, .ref q_3, .int (0 : Int32)])), (q_1, .inl (X.2.1 0, 3, .inl (fun _ => 0))), (q_2, .inl (X.2.1 0, 3, .inl (fun _ => 0))), (q_3, .inl (X.2.1 0, 6, .inl (fun _ => 0)))]) (ty := (tyX9 3)) (C := RX9) (T := TX9) (N := 5) hx hb hts in9 tyX9 tyX9_ok nmX9 hown hG hP hD rfl hS 0 rfl rfl 3 (by decide) w7 rfl hin rfl (tyX9_ok 3 (by decide)) rfl rfl (Nat.le_of_ble_eq_true rfl) dX9_init_23 rfl (fun H locs hP hS => ?_)
  refine lv_aload_n hx hb dX9_init_26 rfl (lv_at hl 0 rfl) ?_
  refine lv_iconst (v := (0 : Int32)) hx hb dX9_init_27 (by decide) ?_
  refine x_put (ws' := [(a_this, .inr (9, [.null, .ref q_1, .ref q_2, .ref q_3, .int (0 : Int32)])), (q_1, .inl (X.2.1 0, 3, .inl (fun _ => 0))), (q_2, .inl (X.2.1 0, 3, .inl (fun _ => 0))), (q_3, .inl (X.2.1 0, 6, .inl (fun _ => 0)))]) (ty := .int) (C := RX9) (T := TX9) (N := 5) hx hb hts in9 tyX9 tyX9_ok nmX9 hown hG hP hD rfl hS 0 rfl rfl 4 (by decide) w8 rfl (tyX9_ok 4 (by decide)) rfl rfl (Nat.le_of_ble_eq_true rfl) dX9_init_28 rfl (fun H locs hP hS => ?_)
  refine lv_aload_n hx hb dX9_init_31 rfl (lv_at hl 0 rfl) ?_
  refine lv_aload_n hx hb dX9_init_32 rfl (lv_at hl 1 rfl) ?_
  refine x_putF (ws' := [(a_this, .inr (9, [.ref a_p0, .ref q_1, .ref q_2, .ref q_3, .int (0 : Int32)])), (q_1, .inl (X.2.1 0, 3, .inl (fun _ => 0))), (q_2, .inl (X.2.1 0, 3, .inl (fun _ => 0))), (q_3, .inl (X.2.1 0, 6, .inl (fun _ => 0)))]) (ty := (tyX9 0)) (C := RX9) (T := TX9) (N := 5) hx hb hts in9 tyX9 tyX9_ok nmX9 hown hG hP hD rfl hS 0 rfl rfl 0 (by decide) w9 rfl hin rfl (tyX9_ok 0 (by decide)) rfl rfl (Nat.le_of_ble_eq_true rfl) dX9_init_33 rfl (fun H locs hP hS => ?_)
  obtain rfl := Option.some.inj hf
  exact ret (fun k => [q_1, q_2, q_3].getD k 0) H _ ls _ hP hD hS dX9_init_36
def mX4_init  :
  Option (Int32 × Int32 × Int32) :=
  some ((0 : Int32), (0 : Int32), (0 : Int32))
theorem hdsX4_init : yX4_init.cls ≠ "java/lang/invoke/MethodHandle" ∧ yX4_init.cls ≠ "java/lang/invoke/VarHandle" ∧ (parseMethodDescriptor yX4_init.desc).map (fun d => d.parameters.length) = some 1 := by decide +kernel
abbrev rmX4_init : Room := { frames := 1, cells := 2, slots := 98, locals := 21 }
set_option maxHeartbeats 4000000 in
set_option maxRecDepth 100000 in
theorem qX4_init (l : Launch) (X : XT) (a_this : Nat) (a_p0 : Nat)    (o : Int32 × Int32 × Int32) (hf : mX4_init  = some o) :
    MC l yX4_init wsX4_init rmX4_init X [.ref a_this, .ref a_p0] [(a_this, .inr (4, [.null, .null, .null, .int (0 : Int32), .int (0 : Int32), .int (0 : Int32)]))]  (fun u => [(a_this, .inr (4, [.ref a_p0, .ref (u 0), .ref (u 1), .int o.1, .int o.2.1, .int o.2.2])), ((u 0), .inl (X.2.1 0, 49, .inl (fun _ => 0))), ((u 1), .inl (X.2.1 0, 49, .inl (fun _ => 0)))]) 2 98 := by
  refine MC_ofH (cc := cX4_init) (maxL := 2) (by decide) rfl (Nat.le_of_ble_eq_true rfl) ?_
  intro p e s m below meth c A Q H ls hx hb hml hts hown hin hA hD hG hP hS hl ret
  have hin : meth.name = "<init>" := hin
  have hown : s.vm.findClass RX4 = some m.cls := hown
  have hD : aD A [a_this] := hD
  have hl : lv_has ls 2 [(0, .ref a_this), (1, .ref a_p0)] := hl
  have w1 := hts (.methodLink RX4 3 objectInit) (List.mem_of_getElem? (i := 1) rfl)
  have w2 := hts (.instanceMethod objectInit) (List.mem_of_getElem? (i := 2) rfl)
  have w4 := hts (.arrayClass .int) (List.mem_of_getElem? (i := 4) rfl)
  have w5 := hts (.fieldLink RX4 9 "ThreeCards$Game" "values" "[I") (List.mem_of_getElem? (i := 5) rfl)
  have w6 := hts (.fieldLink RX4 13 "ThreeCards$Game" "before" "[I") (List.mem_of_getElem? (i := 6) rfl)
  have w7 := hts (.fieldLink RX4 16 "ThreeCards$Game" "value" "I") (List.mem_of_getElem? (i := 7) rfl)
  have w8 := hts (.fieldLink RX4 20 "ThreeCards$Game" "zeroPushes" "I") (List.mem_of_getElem? (i := 8) rfl)
  have w9 := hts (.fieldLink RX4 23 "ThreeCards$Game" "onePushes" "I") (List.mem_of_getElem? (i := 9) rfl)
  have w10 := hts (.fieldLink RX4 26 "ThreeCards$Game" "notes" "LThreeCards$Notes;") (List.mem_of_getElem? (i := 10) rfl)
  have in4 : ∀ w ∈ u_ws RX4 TX4 6, w ∈ wsX4_init := by decide +kernel
  unfold mX4_init at hf
  refine lv_aload_n hx hb dX4_init_0 rfl (lv_at hl 0 rfl) ?_
  refine W.objInit hx hb hown w1 w2 (hts _ (List.mem_of_getElem? (i := 3) rfl)) rfl (by rw [hml]; exact hl.1) rfl dX4_init_1 (Nat.le_of_ble_eq_true rfl) (Nat.le_of_ble_eq_true rfl) ?_
  refine W.eq (g2 := F0 m 4 ls []) rfl ?_
  refine lv_aload_n hx hb dX4_init_4 rfl (lv_at hl 0 rfl) ?_
  refine lv_bipush (v := (49 : Int32)) hx hb dX4_init_5 (by decide) ?_
  refine x_newai (N := 49) (ws' := fun q_1 => [(a_this, .inr (4, [.null, .null, .null, .int (0 : Int32), .int (0 : Int32), .int (0 : Int32)])), (q_1, .inl (X.2.1 0, 49, .inl (fun _ => 0)))]) hx hb w4 hG hP hD rfl hS hA rfl (Nat.le_of_ble_eq_true rfl) (Nat.le_of_ble_eq_true rfl) (Nat.le_of_ble_eq_true rfl) dX4_init_7 (fun q_1 => rfl) (fun q_1 H hP hD hS => ?_)
  have hP : va_P X.1 vwCl [(a_this, .inr (4, [.null, .null, .null, .int (0 : Int32), .int (0 : Int32), .int (0 : Int32)])), (q_1, .inl (X.2.1 0, 49, .inl (fun _ => 0)))] H := hP
  have hD : aD A [a_this, q_1] := hD
  refine W.widen (k := 1) (n := 49) (Nat.le_of_ble_eq_true rfl) (Nat.le_of_ble_eq_true rfl) ?_
  refine x_put (ws' := [(a_this, .inr (4, [.null, .ref q_1, .null, .int (0 : Int32), .int (0 : Int32), .int (0 : Int32)])), (q_1, .inl (X.2.1 0, 49, .inl (fun _ => 0)))]) (ty := (tyX4 1)) (C := RX4) (T := TX4) (N := 6) hx hb hts in4 tyX4 tyX4_ok nmX4 hown hG hP hD rfl hS 0 rfl rfl 1 (by decide) w5 rfl (tyX4_ok 1 (by decide)) rfl rfl (Nat.le_of_ble_eq_true rfl) dX4_init_9 rfl (fun H locs hP hS => ?_)
  refine lv_aload_n hx hb dX4_init_12 rfl (lv_at hl 0 rfl) ?_
  refine lv_bipush (v := (49 : Int32)) hx hb dX4_init_13 (by decide) ?_
  refine x_newai (N := 49) (ws' := fun q_2 => [(a_this, .inr (4, [.null, .ref q_1, .null, .int (0 : Int32), .int (0 : Int32), .int (0 : Int32)])), (q_1, .inl (X.2.1 0, 49, .inl (fun _ => 0))), (q_2, .inl (X.2.1 0, 49, .inl (fun _ => 0)))]) hx hb w4 hG hP hD rfl hS hA rfl (Nat.le_of_ble_eq_true rfl) (Nat.le_of_ble_eq_true rfl) (Nat.le_of_ble_eq_true rfl) dX4_init_15 (fun q_2 => rfl) (fun q_2 H hP hD hS => ?_)
  have hP : va_P X.1 vwCl [(a_this, .inr (4, [.null, .ref q_1, .null, .int (0 : Int32), .int (0 : Int32), .int (0 : Int32)])), (q_1, .inl (X.2.1 0, 49, .inl (fun _ => 0))), (q_2, .inl (X.2.1 0, 49, .inl (fun _ => 0)))] H := hP
  have hD : aD A [a_this, q_1, q_2] := hD
  refine W.widen (k := 2) (n := 98) (Nat.le_of_ble_eq_true rfl) (Nat.le_of_ble_eq_true rfl) ?_
  refine x_put (ws' := [(a_this, .inr (4, [.null, .ref q_1, .ref q_2, .int (0 : Int32), .int (0 : Int32), .int (0 : Int32)])), (q_1, .inl (X.2.1 0, 49, .inl (fun _ => 0))), (q_2, .inl (X.2.1 0, 49, .inl (fun _ => 0)))]) (ty := (tyX4 2)) (C := RX4) (T := TX4) (N := 6) hx hb hts in4 tyX4 tyX4_ok nmX4 hown hG hP hD rfl hS 0 rfl rfl 2 (by decide) w6 rfl (tyX4_ok 2 (by decide)) rfl rfl (Nat.le_of_ble_eq_true rfl) dX4_init_17 rfl (fun H locs hP hS => ?_)
  refine lv_aload_n hx hb dX4_init_20 rfl (lv_at hl 0 rfl) ?_
  refine lv_iconst (v := (0 : Int32)) hx hb dX4_init_21 (by decide) ?_
  refine x_put (ws' := [(a_this, .inr (4, [.null, .ref q_1, .ref q_2, .int (0 : Int32), .int (0 : Int32), .int (0 : Int32)])), (q_1, .inl (X.2.1 0, 49, .inl (fun _ => 0))), (q_2, .inl (X.2.1 0, 49, .inl (fun _ => 0)))]) (ty := .int) (C := RX4) (T := TX4) (N := 6) hx hb hts in4 tyX4 tyX4_ok nmX4 hown hG hP hD rfl hS 0 rfl rfl 3 (by decide) w7 rfl (tyX4_ok 3 (by decide)) rfl rfl (Nat.le_of_ble_eq_true rfl) dX4_init_22 rfl (fun H locs hP hS => ?_)
  refine lv_aload_n hx hb dX4_init_25 rfl (lv_at hl 0 rfl) ?_
  refine lv_iconst (v := (0 : Int32)) hx hb dX4_init_26 (by decide) ?_
  refine x_put (ws' := [(a_this, .inr (4, [.null, .ref q_1, .ref q_2, .int (0 : Int32), .int (0 : Int32), .int (0 : Int32)])), (q_1, .inl (X.2.1 0, 49, .inl (fun _ => 0))), (q_2, .inl (X.2.1 0, 49, .inl (fun _ => 0)))]) (ty := .int) (C := RX4) (T := TX4) (N := 6) hx hb hts in4 tyX4 tyX4_ok nmX4 hown hG hP hD rfl hS 0 rfl rfl 4 (by decide) w8 rfl (tyX4_ok 4 (by decide)) rfl rfl (Nat.le_of_ble_eq_true rfl) dX4_init_27 rfl (fun H locs hP hS => ?_)
  refine lv_aload_n hx hb dX4_init_30 rfl (lv_at hl 0 rfl) ?_
  refine lv_iconst (v := (0 : Int32)) hx hb dX4_init_31 (by decide) ?_
  refine x_put (ws' := [(a_this, .inr (4, [.null, .ref q_1, .ref q_2, .int (0 : Int32), .int (0 : Int32), .int (0 : Int32)])), (q_1, .inl (X.2.1 0, 49, .inl (fun _ => 0))), (q_2, .inl (X.2.1 0, 49, .inl (fun _ => 0)))]) (ty := .int) (C := RX4) (T := TX4) (N := 6) hx hb hts in4 tyX4 tyX4_ok nmX4 hown hG hP hD rfl hS 0 rfl rfl 5 (by decide) w9 rfl (tyX4_ok 5 (by decide)) rfl rfl (Nat.le_of_ble_eq_true rfl) dX4_init_32 rfl (fun H locs hP hS => ?_)
  refine lv_aload_n hx hb dX4_init_35 rfl (lv_at hl 0 rfl) ?_
  refine lv_aload_n hx hb dX4_init_36 rfl (lv_at hl 1 rfl) ?_
  refine x_putF (ws' := [(a_this, .inr (4, [.ref a_p0, .ref q_1, .ref q_2, .int (0 : Int32), .int (0 : Int32), .int (0 : Int32)])), (q_1, .inl (X.2.1 0, 49, .inl (fun _ => 0))), (q_2, .inl (X.2.1 0, 49, .inl (fun _ => 0)))]) (ty := (tyX4 0)) (C := RX4) (T := TX4) (N := 6) hx hb hts in4 tyX4 tyX4_ok nmX4 hown hG hP hD rfl hS 0 rfl rfl 0 (by decide) w10 rfl hin rfl (tyX4_ok 0 (by decide)) rfl rfl (Nat.le_of_ble_eq_true rfl) dX4_init_37 rfl (fun H locs hP hS => ?_)
  obtain rfl := Option.some.inj hf
  exact ret (fun k => [q_1, q_2].getD k 0) H _ ls _ hP hD hS dX4_init_40
