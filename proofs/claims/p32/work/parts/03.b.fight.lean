def mJ7_fill_d0a16_B6 (n_p0 : Nat) (x1 : Int64) (k6 : Int32 → Int32 → (Nat → Int64) → Option ((Nat → Int64))) (l3 : Int32) (l4 : Int32) (f_p0 : Nat → Int64) :
  Option ((Nat → Int64)) :=
  if l4 ≤ l3 then (some f_p0) else (gi l3 n_p0 <|
  lb (vp_updL f_p0 l3.toNatClampNeg x1) fun g_4 =>
  lb (l3 + (1 : Int32)) fun v_5 =>
  k6 v_5 l4 g_4)
def mJ7_fill_d0a16_L6 (n_p0 : Nat) (x1 : Int64) (n : Nat) (l3 : Int32) (l4 : Int32) (f_p0 : Nat → Int64) :
  Option ((Nat → Int64)) :=
  loopN (fun k (s : Int32 × Int32 × (Nat → Int64)) => mJ7_fill_d0a16_B6 n_p0 x1  (fun l3 l4 f_p0 => k (l3, l4, f_p0)) s.1 s.2.1 s.2.2) n (l3, l4, f_p0)
def mJ7_fill_d0a16 (n_p0 : Nat) (x1 : Int64) (f_p0 : Nat → Int64) :
  Option ((Nat → Int64)) :=
  lb (nI n_p0) fun v_1 =>
  mJ7_fill_d0a16_L6 n_p0 x1  FUEL (0 : Int32) v_1 f_p0
theorem hdsJ7_fill_d0a16 : yJ7_fill_d0a16.cls ≠ "java/lang/invoke/MethodHandle" ∧ yJ7_fill_d0a16.cls ≠ "java/lang/invoke/VarHandle" ∧ (parseMethodDescriptor yJ7_fill_d0a16.desc).map (fun d => d.parameters.length) = some 2 := by decide +kernel
abbrev rmJ7_fill_d0a16 : Room := { frames := 0, cells := 0, slots := 0, locals := 0 }
set_option maxHeartbeats 4000000 in
set_option maxRecDepth 100000 in
theorem qJ7_fill_d0a16 (l : Launch) (X : XT) (a_p0 : Nat) (n_p0 : Nat) (f_p0 : Nat → Int64) (x1 : Int64) (o : (Nat → Int64)) (hf : mJ7_fill_d0a16 n_p0 x1 f_p0 = some o) :
    MC l yJ7_fill_d0a16 wsJ7_fill_d0a16 rmJ7_fill_d0a16 X [.ref a_p0, .long x1] [(a_p0, .inl (X.2.1 1, n_p0, .inr (.inl f_p0)))]  (fun _ => [(a_p0, .inl (X.2.1 1, n_p0, .inr (.inl o)))]) 0 0 := by
  refine MC_ofH (cc := cJ7_fill_d0a16) (maxL := 5) (by decide) rfl (Nat.le_of_ble_eq_true rfl) ?_
  intro p e s m below meth c A Q H ls hx hb hml hts hown hin hA hD hG hP hS hl ret
  have hown : s.vm.findClass RJ7 = some m.cls := hown
  have hD : aD A [a_p0] := hD
  have hl : lv_has ls 5 [(0, .ref a_p0), (1, .long x1)] := hl
  have hL6 : ∀ (n : Nat) (l3 : Int32) (l4 : Int32) (f_p0 : Nat → Int64)  (H : Heap) (locs : List Loc) (ls : Array Slot), va_P X.1 vwCl [(a_p0, .inl (X.2.1 1, n_p0, .inr (.inl f_p0)))] H → va_S A s.heap H locs → lv_has ls 5 [(0, .ref a_p0), (1, .long x1), (3, .int l3), (4, .int l4)] → mJ7_fill_d0a16_L6 n_p0 x1  n l3 l4 f_p0 = some o → W p l e rmJ7_fill_d0a16 s m ([.ref a_p0, .long x1] : List Value).toArray below meth c H locs 0 0 Q (F0 m 6 ls []) := by
    intro n
    induction n with
    | zero => intro l3 l4 f_p0  H locs ls hP hS hl hf; exact xn hf
    | succ n ih =>
      intro l3 l4 f_p0  H locs ls hP hS hl hf
      have hf : mJ7_fill_d0a16_B6 n_p0 x1  (mJ7_fill_d0a16_L6 n_p0 x1  n) l3 l4 f_p0 = some o := hf
      generalize mJ7_fill_d0a16_L6 n_p0 x1  n = k6 at ih hf
      unfold mJ7_fill_d0a16_B6 at hf
      refine lv_iload_n hx hb dJ7_fill_d0a16_6 rfl (lv_at hl 2 rfl) ?_
      refine lv_iload hx hb dJ7_fill_d0a16_7 (lv_at hl 3 rfl) ?_
      refine lv_icmp_ge (tgt := 22) hx hb dJ7_fill_d0a16_9 (by decide) (fun c_2 => ?_) (fun c_2 => ?_)
      · have hf := xt hf c_2
        obtain rfl := Option.some.inj hf
        exact ret (fun _ => 0) H _ ls _ hP hD hS dJ7_fill_d0a16_22
      · have hf := xf hf c_2
        refine lv_aload_n hx hb dJ7_fill_d0a16_12 rfl (lv_at hl 0 rfl) ?_
        refine lv_iload_n hx hb dJ7_fill_d0a16_13 rfl (lv_at hl 2 rfl) ?_
        refine lv_lload_n hx hb dJ7_fill_d0a16_14 rfl (lv_at hl 1 rfl) ?_
        obtain ⟨h_3, hf⟩ := gi_s hf
        obtain ⟨g_4, eg_4, hf⟩ := lb_g hf
        refine x_last (ws' := [(a_p0, .inl (X.2.1 1, n_p0, .inr (.inl g_4)))]) hx hb hG hP hD rfl hS 0 rfl h_3 dJ7_fill_d0a16_15 eg_4 rfl (fun H locs hP hS => ?_)
        obtain ⟨v_5, ev_5, hf⟩ := lb_g hf
        refine lv_iinc (v := v_5) (lv' := [(3, .int v_5), (0, .ref a_p0), (1, .long x1), (4, .int l4)]) hx hb dJ7_fill_d0a16_16 hl (k := 2) rfl ev_5.symm (by decide) rfl (fun ls hl => ?_)
        refine lv_goto (tgt := 6) hx hb dJ7_fill_d0a16_19 (by decide) ?_
        exact ih v_5 l4 g_4  H _ ls hP  hS (lv_sub hl [1, 2, 0, 3] rfl) hf
  unfold mJ7_fill_d0a16 at hf
  refine lv_iconst (v := (0 : Int32)) hx hb dJ7_fill_d0a16_0 (by decide) ?_
  refine lv_istore_n (lv' := [(3, .int (0 : Int32)), (0, .ref a_p0), (1, .long x1)]) hx hb dJ7_fill_d0a16_1 rfl hl (by decide) rfl (fun ls hl => ?_)
  refine lv_aload_n hx hb dJ7_fill_d0a16_2 rfl (lv_at hl 1 rfl) ?_
  refine va_alen (D := X.1) (v := (nI n_p0)) hx hb hG.1 hP 0 1 rfl rfl rfl dJ7_fill_d0a16_3 ?_
  refine lv_topi (fun v_1 ev_1 => ?_)
  have hf := lb_s hf ev_1
  refine lv_istore (lv' := [(4, .int v_1), (3, .int (0 : Int32)), (0, .ref a_p0), (1, .long x1)]) hx hb dJ7_fill_d0a16_4 hl (by decide) rfl (fun ls hl => ?_)
  exact hL6  FUEL (0 : Int32) v_1 f_p0  H _ ls hP  hS (lv_sub hl [2, 3, 1, 0] rfl) hf
def mJ7_fill_53178_B5 (n_p0 : Nat) (x1 : Int32) (k5 : Int32 → Int32 → (Nat → Int32) → Option ((Nat → Int32))) (l2 : Int32) (l3 : Int32) (f_p0 : Nat → Int32) :
  Option ((Nat → Int32)) :=
  if l3 ≤ l2 then (some f_p0) else (gi l2 n_p0 <|
  lb (upd f_p0 l2.toNatClampNeg x1) fun g_4 =>
  lb (l2 + (1 : Int32)) fun v_5 =>
  k5 v_5 l3 g_4)
def mJ7_fill_53178_L5 (n_p0 : Nat) (x1 : Int32) (n : Nat) (l2 : Int32) (l3 : Int32) (f_p0 : Nat → Int32) :
  Option ((Nat → Int32)) :=
  loopN (fun k (s : Int32 × Int32 × (Nat → Int32)) => mJ7_fill_53178_B5 n_p0 x1  (fun l2 l3 f_p0 => k (l2, l3, f_p0)) s.1 s.2.1 s.2.2) n (l2, l3, f_p0)
def mJ7_fill_53178 (n_p0 : Nat) (x1 : Int32) (f_p0 : Nat → Int32) :
  Option ((Nat → Int32)) :=
  lb (nI n_p0) fun v_1 =>
  mJ7_fill_53178_L5 n_p0 x1  FUEL (0 : Int32) v_1 f_p0
theorem hdsJ7_fill_53178 : yJ7_fill_53178.cls ≠ "java/lang/invoke/MethodHandle" ∧ yJ7_fill_53178.cls ≠ "java/lang/invoke/VarHandle" ∧ (parseMethodDescriptor yJ7_fill_53178.desc).map (fun d => d.parameters.length) = some 2 := by decide +kernel
abbrev rmJ7_fill_53178 : Room := { frames := 0, cells := 0, slots := 0, locals := 0 }
set_option maxHeartbeats 4000000 in
set_option maxRecDepth 100000 in
theorem qJ7_fill_53178 (l : Launch) (X : XT) (a_p0 : Nat) (n_p0 : Nat) (f_p0 : Nat → Int32) (x1 : Int32) (o : (Nat → Int32)) (hf : mJ7_fill_53178 n_p0 x1 f_p0 = some o) :
    MC l yJ7_fill_53178 wsJ7_fill_53178 rmJ7_fill_53178 X [.ref a_p0, .int x1] [(a_p0, .inl (X.2.1 0, n_p0, .inl f_p0))]  (fun _ => [(a_p0, .inl (X.2.1 0, n_p0, .inl o))]) 0 0 := by
  refine MC_ofH (cc := cJ7_fill_53178) (maxL := 4) (by decide) rfl (Nat.le_of_ble_eq_true rfl) ?_
  intro p e s m below meth c A Q H ls hx hb hml hts hown hin hA hD hG hP hS hl ret
  have hown : s.vm.findClass RJ7 = some m.cls := hown
  have hD : aD A [a_p0] := hD
  have hl : lv_has ls 4 [(0, .ref a_p0), (1, .int x1)] := hl
  have hL5 : ∀ (n : Nat) (l2 : Int32) (l3 : Int32) (f_p0 : Nat → Int32)  (H : Heap) (locs : List Loc) (ls : Array Slot), va_P X.1 vwCl [(a_p0, .inl (X.2.1 0, n_p0, .inl f_p0))] H → va_S A s.heap H locs → lv_has ls 4 [(0, .ref a_p0), (1, .int x1), (2, .int l2), (3, .int l3)] → mJ7_fill_53178_L5 n_p0 x1  n l2 l3 f_p0 = some o → W p l e rmJ7_fill_53178 s m ([.ref a_p0, .int x1] : List Value).toArray below meth c H locs 0 0 Q (F0 m 5 ls []) := by
    intro n
    induction n with
    | zero => intro l2 l3 f_p0  H locs ls hP hS hl hf; exact xn hf
    | succ n ih =>
      intro l2 l3 f_p0  H locs ls hP hS hl hf
      have hf : mJ7_fill_53178_B5 n_p0 x1  (mJ7_fill_53178_L5 n_p0 x1  n) l2 l3 f_p0 = some o := hf
      generalize mJ7_fill_53178_L5 n_p0 x1  n = k5 at ih hf
      unfold mJ7_fill_53178_B5 at hf
      refine lv_iload_n hx hb dJ7_fill_53178_5 rfl (lv_at hl 2 rfl) ?_
      refine lv_iload_n hx hb dJ7_fill_53178_6 rfl (lv_at hl 3 rfl) ?_
      refine lv_icmp_ge (tgt := 20) hx hb dJ7_fill_53178_7 (by decide) (fun c_2 => ?_) (fun c_2 => ?_)
      · have hf := xt hf c_2
        obtain rfl := Option.some.inj hf
        exact ret (fun _ => 0) H _ ls _ hP hD hS dJ7_fill_53178_20
      · have hf := xf hf c_2
        refine lv_aload_n hx hb dJ7_fill_53178_10 rfl (lv_at hl 0 rfl) ?_
        refine lv_iload_n hx hb dJ7_fill_53178_11 rfl (lv_at hl 2 rfl) ?_
        refine lv_iload_n hx hb dJ7_fill_53178_12 rfl (lv_at hl 1 rfl) ?_
        obtain ⟨h_3, hf⟩ := gi_s hf
        obtain ⟨g_4, eg_4, hf⟩ := lb_g hf
        refine x_iast (ws' := [(a_p0, .inl (X.2.1 0, n_p0, .inl g_4))]) hx hb hG hP hD rfl hS 0 rfl h_3 dJ7_fill_53178_13 eg_4 rfl (fun H locs hP hS => ?_)
        obtain ⟨v_5, ev_5, hf⟩ := lb_g hf
        refine lv_iinc (v := v_5) (lv' := [(2, .int v_5), (0, .ref a_p0), (1, .int x1), (3, .int l3)]) hx hb dJ7_fill_53178_14 hl (k := 2) rfl ev_5.symm (by decide) rfl (fun ls hl => ?_)
        refine lv_goto (tgt := 5) hx hb dJ7_fill_53178_17 (by decide) ?_
        exact ih v_5 l3 g_4  H _ ls hP  hS (lv_sub hl [1, 2, 0, 3] rfl) hf
  unfold mJ7_fill_53178 at hf
  refine lv_iconst (v := (0 : Int32)) hx hb dJ7_fill_53178_0 (by decide) ?_
  refine lv_istore_n (lv' := [(2, .int (0 : Int32)), (0, .ref a_p0), (1, .int x1)]) hx hb dJ7_fill_53178_1 rfl hl (by decide) rfl (fun ls hl => ?_)
  refine lv_aload_n hx hb dJ7_fill_53178_2 rfl (lv_at hl 1 rfl) ?_
  refine va_alen (D := X.1) (v := (nI n_p0)) hx hb hG.1 hP 0 0 rfl rfl rfl dJ7_fill_53178_3 ?_
  refine lv_topi (fun v_1 ev_1 => ?_)
  have hf := lb_s hf ev_1
  refine lv_istore_n (lv' := [(3, .int v_1), (2, .int (0 : Int32)), (0, .ref a_p0), (1, .int x1)]) hx hb dJ7_fill_53178_4 rfl hl (by decide) rfl (fun ls hl => ?_)
  exact hL5  FUEL (0 : Int32) v_1 f_p0  H _ ls hP  hS (lv_sub hl [2, 3, 1, 0] rfl) hf
def mX3_clear (i_rounds : Int32) (i_home : Int32) (i_noise : Int32) (i_blowCount : Int32) (i_judgeCount : Int32) (f_downs : Nat → Int32) (f_forward : Nat → Int32) (f_taken : Nat → Int32) :
  Option (Int32 × Int32 × Int32 × Int32 × Int32 × (Nat → Int32) × (Nat → Int32) × (Nat → Int32)) :=
  (mJ7_fill_53178 24 (0 : Int32) f_forward).bind fun o_1 =>
  (mJ7_fill_53178 24 (0 : Int32) f_downs).bind fun o_3 =>
  (mJ7_fill_53178 24 (0 : Int32) f_taken).bind fun o_5 =>
  some ((12 : Int32), (0 : Int32), (0 : Int32), (0 : Int32), (0 : Int32), o_1, o_3, o_5)
theorem hdsX3_clear : yX3_clear.cls ≠ "java/lang/invoke/MethodHandle" ∧ yX3_clear.cls ≠ "java/lang/invoke/VarHandle" ∧ (parseMethodDescriptor yX3_clear.desc).map (fun d => d.parameters.length) = some 0 := by decide +kernel
theorem hdvX3_clear : yX3_clear.cls = RX3 ∧ yX3_clear.cls ≠ "java/lang/invoke/MethodHandle" ∧ yX3_clear.cls ≠ "java/lang/invoke/VarHandle" ∧ (parseMethodDescriptor yX3_clear.desc).map (fun d => d.parameters.length) = some 0 := by decide +kernel
abbrev rmX3_clear : Room := { frames := 1, cells := 0, slots := 0, locals := 23 }
set_option maxHeartbeats 4000000 in
set_option maxRecDepth 100000 in
theorem qX3_clear (l : Launch) (X : XT) (a_this : Nat) (a_downs : Nat) (a_forward : Nat) (a_taken : Nat) (a_blows : Nat) (a_judges : Nat) (a_seenBy : Nat) (a_sums : Nat) (a_leads : Nat)  (i_rounds : Int32) (i_home : Int32) (i_noise : Int32) (i_blowCount : Int32) (i_judgeCount : Int32) (f_downs : Nat → Int32) (f_forward : Nat → Int32) (f_taken : Nat → Int32)  (o : Int32 × Int32 × Int32 × Int32 × Int32 × (Nat → Int32) × (Nat → Int32) × (Nat → Int32)) (hf : mX3_clear i_rounds i_home i_noise i_blowCount i_judgeCount f_downs f_forward f_taken = some o) :
    MC l yX3_clear wsX3_clear rmX3_clear X [.ref a_this] [(a_this, .inr (3, [.int i_rounds, .int i_home, .int i_noise, .int i_blowCount, .int i_judgeCount, .ref a_blows, .ref a_judges, .ref a_forward, .ref a_downs, .ref a_taken, .ref a_seenBy, .ref a_sums, .ref a_leads])), (a_downs, .inl (X.2.1 0, 24, .inl f_downs)), (a_forward, .inl (X.2.1 0, 24, .inl f_forward)), (a_taken, .inl (X.2.1 0, 24, .inl f_taken))]  (fun _ => [(a_this, .inr (3, [.int o.1, .int o.2.1, .int o.2.2.1, .int o.2.2.2.1, .int o.2.2.2.2.1, .ref a_blows, .ref a_judges, .ref a_forward, .ref a_downs, .ref a_taken, .ref a_seenBy, .ref a_sums, .ref a_leads])), (a_downs, .inl (X.2.1 0, 24, .inl o.2.2.2.2.2.2.1)), (a_forward, .inl (X.2.1 0, 24, .inl o.2.2.2.2.2.1)), (a_taken, .inl (X.2.1 0, 24, .inl o.2.2.2.2.2.2.2))]) 0 0 := by
  refine MC_ofH (cc := cX3_clear) (maxL := 1) (by decide) rfl (Nat.le_of_ble_eq_true rfl) ?_
  intro p e s m below meth c A Q H ls hx hb hml hts hown hin hA hD hG hP hS hl ret
  have hown : s.vm.findClass RX3 = some m.cls := hown
  have hD : aD A [a_this, a_downs, a_forward, a_taken] := hD
  have hl : lv_has ls 1 [(0, .ref a_this)] := hl
  have w1 := hts (.fieldLink RX3 34 "ThreeCards$Fight" "rounds" "I") (List.mem_of_getElem? (i := 1) rfl)
  have w2 := hts (.fieldLink RX3 38 "ThreeCards$Fight" "home" "I") (List.mem_of_getElem? (i := 2) rfl)
  have w3 := hts (.fieldLink RX3 41 "ThreeCards$Fight" "noise" "I") (List.mem_of_getElem? (i := 3) rfl)
  have w4 := hts (.fieldLink RX3 44 "ThreeCards$Fight" "blowCount" "I") (List.mem_of_getElem? (i := 4) rfl)
  have w5 := hts (.fieldLink RX3 47 "ThreeCards$Fight" "judgeCount" "I") (List.mem_of_getElem? (i := 5) rfl)
  have w6 := hts (.fieldLink RX3 16 "ThreeCards$Fight" "forward" "[I") (List.mem_of_getElem? (i := 6) rfl)
  have w7 := hts (.fieldLink RX3 19 "ThreeCards$Fight" "downs" "[I") (List.mem_of_getElem? (i := 7) rfl)
  have w8 := hts (.fieldLink RX3 22 "ThreeCards$Fight" "taken" "[I") (List.mem_of_getElem? (i := 8) rfl)
  have in3 : ∀ w ∈ u_ws RX3 TX3 13, w ∈ wsX3_clear := by decide +kernel
  unfold mX3_clear at hf
  refine lv_aload_n hx hb dX3_clear_0 rfl (lv_at hl 0 rfl) ?_
  refine lv_bipush (v := (12 : Int32)) hx hb dX3_clear_1 (by decide) ?_
  refine x_put (ws' := [(a_this, .inr (3, [.int (12 : Int32), .int i_home, .int i_noise, .int i_blowCount, .int i_judgeCount, .ref a_blows, .ref a_judges, .ref a_forward, .ref a_downs, .ref a_taken, .ref a_seenBy, .ref a_sums, .ref a_leads])), (a_downs, .inl (X.2.1 0, 24, .inl f_downs)), (a_forward, .inl (X.2.1 0, 24, .inl f_forward)), (a_taken, .inl (X.2.1 0, 24, .inl f_taken))]) (ty := .int) (C := RX3) (T := TX3) (N := 13) hx hb hts in3 tyX3 tyX3_ok nmX3 hown hG hP hD rfl hS 0 rfl rfl 0 (by decide) w1 rfl (tyX3_ok 0 (by decide)) rfl rfl (Nat.le_of_ble_eq_true rfl) dX3_clear_3 rfl (fun H locs hP hS => ?_)
  refine lv_aload_n hx hb dX3_clear_6 rfl (lv_at hl 0 rfl) ?_
  refine lv_iconst (v := (0 : Int32)) hx hb dX3_clear_7 (by decide) ?_
  refine x_put (ws' := [(a_this, .inr (3, [.int (12 : Int32), .int (0 : Int32), .int i_noise, .int i_blowCount, .int i_judgeCount, .ref a_blows, .ref a_judges, .ref a_forward, .ref a_downs, .ref a_taken, .ref a_seenBy, .ref a_sums, .ref a_leads])), (a_downs, .inl (X.2.1 0, 24, .inl f_downs)), (a_forward, .inl (X.2.1 0, 24, .inl f_forward)), (a_taken, .inl (X.2.1 0, 24, .inl f_taken))]) (ty := .int) (C := RX3) (T := TX3) (N := 13) hx hb hts in3 tyX3 tyX3_ok nmX3 hown hG hP hD rfl hS 0 rfl rfl 1 (by decide) w2 rfl (tyX3_ok 1 (by decide)) rfl rfl (Nat.le_of_ble_eq_true rfl) dX3_clear_8 rfl (fun H locs hP hS => ?_)
  refine lv_aload_n hx hb dX3_clear_11 rfl (lv_at hl 0 rfl) ?_
  refine lv_iconst (v := (0 : Int32)) hx hb dX3_clear_12 (by decide) ?_
  refine x_put (ws' := [(a_this, .inr (3, [.int (12 : Int32), .int (0 : Int32), .int (0 : Int32), .int i_blowCount, .int i_judgeCount, .ref a_blows, .ref a_judges, .ref a_forward, .ref a_downs, .ref a_taken, .ref a_seenBy, .ref a_sums, .ref a_leads])), (a_downs, .inl (X.2.1 0, 24, .inl f_downs)), (a_forward, .inl (X.2.1 0, 24, .inl f_forward)), (a_taken, .inl (X.2.1 0, 24, .inl f_taken))]) (ty := .int) (C := RX3) (T := TX3) (N := 13) hx hb hts in3 tyX3 tyX3_ok nmX3 hown hG hP hD rfl hS 0 rfl rfl 2 (by decide) w3 rfl (tyX3_ok 2 (by decide)) rfl rfl (Nat.le_of_ble_eq_true rfl) dX3_clear_13 rfl (fun H locs hP hS => ?_)
  refine lv_aload_n hx hb dX3_clear_16 rfl (lv_at hl 0 rfl) ?_
  refine lv_iconst (v := (0 : Int32)) hx hb dX3_clear_17 (by decide) ?_
  refine x_put (ws' := [(a_this, .inr (3, [.int (12 : Int32), .int (0 : Int32), .int (0 : Int32), .int (0 : Int32), .int i_judgeCount, .ref a_blows, .ref a_judges, .ref a_forward, .ref a_downs, .ref a_taken, .ref a_seenBy, .ref a_sums, .ref a_leads])), (a_downs, .inl (X.2.1 0, 24, .inl f_downs)), (a_forward, .inl (X.2.1 0, 24, .inl f_forward)), (a_taken, .inl (X.2.1 0, 24, .inl f_taken))]) (ty := .int) (C := RX3) (T := TX3) (N := 13) hx hb hts in3 tyX3 tyX3_ok nmX3 hown hG hP hD rfl hS 0 rfl rfl 3 (by decide) w4 rfl (tyX3_ok 3 (by decide)) rfl rfl (Nat.le_of_ble_eq_true rfl) dX3_clear_18 rfl (fun H locs hP hS => ?_)
  refine lv_aload_n hx hb dX3_clear_21 rfl (lv_at hl 0 rfl) ?_
  refine lv_iconst (v := (0 : Int32)) hx hb dX3_clear_22 (by decide) ?_
  refine x_put (ws' := [(a_this, .inr (3, [.int (12 : Int32), .int (0 : Int32), .int (0 : Int32), .int (0 : Int32), .int (0 : Int32), .ref a_blows, .ref a_judges, .ref a_forward, .ref a_downs, .ref a_taken, .ref a_seenBy, .ref a_sums, .ref a_leads])), (a_downs, .inl (X.2.1 0, 24, .inl f_downs)), (a_forward, .inl (X.2.1 0, 24, .inl f_forward)), (a_taken, .inl (X.2.1 0, 24, .inl f_taken))]) (ty := .int) (C := RX3) (T := TX3) (N := 13) hx hb hts in3 tyX3 tyX3_ok nmX3 hown hG hP hD rfl hS 0 rfl rfl 4 (by decide) w5 rfl (tyX3_ok 4 (by decide)) rfl rfl (Nat.le_of_ble_eq_true rfl) dX3_clear_23 rfl (fun H locs hP hS => ?_)
  refine lv_aload_n hx hb dX3_clear_26 rfl (lv_at hl 0 rfl) ?_
  refine va_get (D := X.1) (ci := 3) (v := .ref a_forward) (C := RX3) (T := TX3) (N := 13) hx hb hts in3 hown hG.1 hP 0 rfl rfl 7 (by decide) w6 (fun _ h9 => h9) rfl dX3_clear_27 ?_
  refine lv_iconst (v := (0 : Int32)) hx hb dX3_clear_30 (by decide) ?_
  obtain ⟨o_1, ho_1, hf⟩ := ob_s hf
  refine xS_v (As := [.ref a_forward, .int (0 : Int32)]) (rest := []) (ws2 := fun _ => [(a_this, .inr (3, [.int (12 : Int32), .int (0 : Int32), .int (0 : Int32), .int (0 : Int32), .int (0 : Int32), .ref a_blows, .ref a_judges, .ref a_forward, .ref a_downs, .ref a_taken, .ref a_seenBy, .ref a_sums, .ref a_leads])), (a_downs, .inl (X.2.1 0, 24, .inl f_downs)), (a_forward, .inl (X.2.1 0, 24, .inl o_1)), (a_taken, .inl (X.2.1 0, 24, .inl f_taken))]) hx hb hml hts hown hG hA hP hD rfl hS hl.1 (qJ7_fill_53178 l X a_forward 24 f_forward (0 : Int32) o_1 ho_1) (va_cwS (y := yJ7_fill_53178) 2 hts gX3_clear_J7_fill_53178 rfl rfl rfl hdsJ7_fill_53178 ⟨Nat.le_of_ble_eq_true rfl, Nat.le_of_ble_eq_true rfl⟩) [2] [0, 1, 3] [0, 1, 3, 2] rfl rfl rfl rfl rfl rfl (fun _ => rfl) rfl rfl (Nat.le_of_ble_eq_true rfl) ⟨Nat.le_of_ble_eq_true rfl, Nat.le_of_ble_eq_true rfl⟩ dX3_clear_31 (fun u_2 H locs hP _ hS => ?_)
  refine lv_aload_n hx hb dX3_clear_34 rfl (lv_at hl 0 rfl) ?_
  refine va_get (D := X.1) (ci := 3) (v := .ref a_downs) (C := RX3) (T := TX3) (N := 13) hx hb hts in3 hown hG.1 hP 0 rfl rfl 8 (by decide) w7 (fun _ h9 => h9) rfl dX3_clear_35 ?_
  refine lv_iconst (v := (0 : Int32)) hx hb dX3_clear_38 (by decide) ?_
  obtain ⟨o_3, ho_3, hf⟩ := ob_s hf
  refine xS_v (As := [.ref a_downs, .int (0 : Int32)]) (rest := []) (ws2 := fun _ => [(a_this, .inr (3, [.int (12 : Int32), .int (0 : Int32), .int (0 : Int32), .int (0 : Int32), .int (0 : Int32), .ref a_blows, .ref a_judges, .ref a_forward, .ref a_downs, .ref a_taken, .ref a_seenBy, .ref a_sums, .ref a_leads])), (a_downs, .inl (X.2.1 0, 24, .inl o_3)), (a_forward, .inl (X.2.1 0, 24, .inl o_1)), (a_taken, .inl (X.2.1 0, 24, .inl f_taken))]) hx hb hml hts hown hG hA hP hD rfl hS hl.1 (qJ7_fill_53178 l X a_downs 24 f_downs (0 : Int32) o_3 ho_3) (va_cwS (y := yJ7_fill_53178) 2 hts gX3_clear_J7_fill_53178 rfl rfl rfl hdsJ7_fill_53178 ⟨Nat.le_of_ble_eq_true rfl, Nat.le_of_ble_eq_true rfl⟩) [1] [0, 2, 3] [0, 3, 1, 2] rfl rfl rfl rfl rfl rfl (fun _ => rfl) rfl rfl (Nat.le_of_ble_eq_true rfl) ⟨Nat.le_of_ble_eq_true rfl, Nat.le_of_ble_eq_true rfl⟩ dX3_clear_39 (fun u_4 H locs hP _ hS => ?_)
  refine lv_aload_n hx hb dX3_clear_42 rfl (lv_at hl 0 rfl) ?_
  refine va_get (D := X.1) (ci := 3) (v := .ref a_taken) (C := RX3) (T := TX3) (N := 13) hx hb hts in3 hown hG.1 hP 0 rfl rfl 9 (by decide) w8 (fun _ h9 => h9) rfl dX3_clear_43 ?_
  refine lv_iconst (v := (0 : Int32)) hx hb dX3_clear_46 (by decide) ?_
  obtain ⟨o_5, ho_5, hf⟩ := ob_s hf
  refine xS_v (As := [.ref a_taken, .int (0 : Int32)]) (rest := []) (ws2 := fun _ => [(a_this, .inr (3, [.int (12 : Int32), .int (0 : Int32), .int (0 : Int32), .int (0 : Int32), .int (0 : Int32), .ref a_blows, .ref a_judges, .ref a_forward, .ref a_downs, .ref a_taken, .ref a_seenBy, .ref a_sums, .ref a_leads])), (a_downs, .inl (X.2.1 0, 24, .inl o_3)), (a_forward, .inl (X.2.1 0, 24, .inl o_1)), (a_taken, .inl (X.2.1 0, 24, .inl o_5))]) hx hb hml hts hown hG hA hP hD rfl hS hl.1 (qJ7_fill_53178 l X a_taken 24 f_taken (0 : Int32) o_5 ho_5) (va_cwS (y := yJ7_fill_53178) 2 hts gX3_clear_J7_fill_53178 rfl rfl rfl hdsJ7_fill_53178 ⟨Nat.le_of_ble_eq_true rfl, Nat.le_of_ble_eq_true rfl⟩) [3] [0, 1, 2] [0, 1, 2, 3] rfl rfl rfl rfl rfl rfl (fun _ => rfl) rfl rfl (Nat.le_of_ble_eq_true rfl) ⟨Nat.le_of_ble_eq_true rfl, Nat.le_of_ble_eq_true rfl⟩ dX3_clear_47 (fun u_6 H locs hP _ hS => ?_)
  obtain rfl := Option.some.inj hf
  exact ret (fun _ => 0) H _ ls _ hP hD hS dX3_clear_50
def mX3_addBlow (i_blowCount : Int32) (f_blows : Nat → Int32) (f_p0 : Nat → Int32) :
  Option (Int32 × (Nat → Int32) × Int32) :=
  if i_blowCount < (40 : Int32) then (gcp (0 : Int32) (i_blowCount * (5 : Int32)) (5 : Int32) 7 200 <|
  lb (va_cpy f_p0 f_blows (0 : Int32).toNatClampNeg (i_blowCount * (5 : Int32)).toNatClampNeg (5 : Int32).toNatClampNeg) fun g_3 =>
  lb (i_blowCount + (1 : Int32)) fun v_4 =>
  some ((1 : Int32), g_3, v_4)) else (some ((0 : Int32), f_blows, i_blowCount))
theorem hdsX3_addBlow : yX3_addBlow.cls ≠ "java/lang/invoke/MethodHandle" ∧ yX3_addBlow.cls ≠ "java/lang/invoke/VarHandle" ∧ (parseMethodDescriptor yX3_addBlow.desc).map (fun d => d.parameters.length) = some 1 := by decide +kernel
theorem hdvX3_addBlow : yX3_addBlow.cls = RX3 ∧ yX3_addBlow.cls ≠ "java/lang/invoke/MethodHandle" ∧ yX3_addBlow.cls ≠ "java/lang/invoke/VarHandle" ∧ (parseMethodDescriptor yX3_addBlow.desc).map (fun d => d.parameters.length) = some 1 := by decide +kernel
abbrev rmX3_addBlow : Room := { frames := 1, cells := 0, slots := 0, locals := 60 }
set_option maxHeartbeats 4000000 in
set_option maxRecDepth 100000 in
theorem qX3_addBlow (l : Launch) (X : XT) (a_this : Nat) (a_blows : Nat) (a_p0 : Nat) (a_judges : Nat) (a_forward : Nat) (a_downs : Nat) (a_taken : Nat) (a_seenBy : Nat) (a_sums : Nat) (a_leads : Nat)  (i_rounds : Int32) (i_home : Int32) (i_noise : Int32) (i_blowCount : Int32) (i_judgeCount : Int32) (f_blows : Nat → Int32) (f_p0 : Nat → Int32)  (o : Int32 × (Nat → Int32) × Int32) (hf : mX3_addBlow i_blowCount f_blows f_p0 = some o) :
    MI l yX3_addBlow wsX3_addBlow rmX3_addBlow X [.ref a_this, .ref a_p0] [(a_this, .inr (3, [.int i_rounds, .int i_home, .int i_noise, .int i_blowCount, .int i_judgeCount, .ref a_blows, .ref a_judges, .ref a_forward, .ref a_downs, .ref a_taken, .ref a_seenBy, .ref a_sums, .ref a_leads])), (a_blows, .inl (X.2.1 0, 200, .inl f_blows)), (a_p0, .inl (X.2.1 0, 7, .inl f_p0))]  [(a_this, .inr (3, [.int i_rounds, .int i_home, .int i_noise, .int o.2.2, .int i_judgeCount, .ref a_blows, .ref a_judges, .ref a_forward, .ref a_downs, .ref a_taken, .ref a_seenBy, .ref a_sums, .ref a_leads])), (a_blows, .inl (X.2.1 0, 200, .inl o.2.1)), (a_p0, .inl (X.2.1 0, 7, .inl f_p0))] o.1 := by
  refine MI_ofH (cc := cX3_addBlow) (maxL := 2) (rt := .boolean) (by decide) rfl (Nat.le_of_ble_eq_true rfl) ?_
  intro p e s m below meth c A Q H ls hx hb hml hts hown hA hD hG hP hS hl ret
  have hown : s.vm.findClass RX3 = some m.cls := hown
  have hD : aD A [a_this, a_blows, a_p0] := hD
  have hl : lv_has ls 2 [(0, .ref a_this), (1, .ref a_p0)] := hl
  have w1 := hts (.fieldLink RX3 44 "ThreeCards$Fight" "blowCount" "I") (List.mem_of_getElem? (i := 1) rfl)
  have w2 := hts (.fieldLink RX3 9 "ThreeCards$Fight" "blows" "[I") (List.mem_of_getElem? (i := 2) rfl)
  have w3 := hts (.methodLink RX3 76 arraycopyName) (List.mem_of_getElem? (i := 3) rfl)
  have w4 := hts (.native arraycopyName) (List.mem_of_getElem? (i := 4) rfl)
  have w5 := hts (.static arraycopyName) (List.mem_of_getElem? (i := 5) rfl)
  have w6 := hts (.initialized "java/lang/System") (List.mem_of_getElem? (i := 6) rfl)
  have in3 : ∀ w ∈ u_ws RX3 TX3 13, w ∈ wsX3_addBlow := by decide +kernel
  unfold mX3_addBlow at hf
  refine lv_aload_n hx hb dX3_addBlow_0 rfl (lv_at hl 0 rfl) ?_
  refine va_get (D := X.1) (ci := 3) (v := .int i_blowCount) (C := RX3) (T := TX3) (N := 13) hx hb hts in3 hown hG.1 hP 0 rfl rfl 3 (by decide) w1 (fun _ h9 => h9) rfl dX3_addBlow_1 ?_
  refine lv_bipush (v := (40 : Int32)) hx hb dX3_addBlow_4 (by decide) ?_
  refine lv_icmp_lt (tgt := 11) hx hb dX3_addBlow_6 (by decide) (fun c_1 => ?_) (fun c_1 => ?_)
  · have hf := xt hf c_1
    refine lv_aload_n hx hb dX3_addBlow_11 rfl (lv_at hl 1 rfl) ?_
    refine lv_iconst (v := (0 : Int32)) hx hb dX3_addBlow_12 (by decide) ?_
    refine lv_aload_n hx hb dX3_addBlow_13 rfl (lv_at hl 0 rfl) ?_
    refine va_get (D := X.1) (ci := 3) (v := .ref a_blows) (C := RX3) (T := TX3) (N := 13) hx hb hts in3 hown hG.1 hP 0 rfl rfl 5 (by decide) w2 (fun _ h9 => h9) rfl dX3_addBlow_14 ?_
    refine lv_aload_n hx hb dX3_addBlow_17 rfl (lv_at hl 0 rfl) ?_
    refine va_get (D := X.1) (ci := 3) (v := .int i_blowCount) (C := RX3) (T := TX3) (N := 13) hx hb hts in3 hown hG.1 hP 0 rfl rfl 3 (by decide) w1 (fun _ h9 => h9) rfl dX3_addBlow_18 ?_
    refine lv_iconst (v := (5 : Int32)) hx hb dX3_addBlow_21 (by decide) ?_
    refine lv_imul hx hb dX3_addBlow_22 ?_
    refine lv_iconst (v := (5 : Int32)) hx hb dX3_addBlow_23 (by decide) ?_
    obtain ⟨h_2, hf⟩ := gcp_s hf
    obtain ⟨g_3, eg_3, hf⟩ := lb_g hf
    refine x_copyi (ws' := [(a_this, .inr (3, [.int i_rounds, .int i_home, .int i_noise, .int i_blowCount, .int i_judgeCount, .ref a_blows, .ref a_judges, .ref a_forward, .ref a_downs, .ref a_taken, .ref a_seenBy, .ref a_sums, .ref a_leads])), (a_blows, .inl (X.2.1 0, 200, .inl g_3)), (a_p0, .inl (X.2.1 0, 7, .inl f_p0))]) hx hb hml hl.1 hown w3 w4 w5 w6 hG hP hD rfl hS 2 1 rfl rfl h_2 (Nat.le_of_ble_eq_true rfl) (Nat.le_of_ble_eq_true rfl) dX3_addBlow_24 eg_3 rfl (fun H locs hP hS => ?_)
    refine lv_aload_n hx hb dX3_addBlow_27 rfl (lv_at hl 0 rfl) ?_
    refine lv_dup hx hb dX3_addBlow_28 rfl ?_
    refine va_get (D := X.1) (ci := 3) (v := .int i_blowCount) (C := RX3) (T := TX3) (N := 13) hx hb hts in3 hown hG.1 hP 0 rfl rfl 3 (by decide) w1 (fun _ h9 => h9) rfl dX3_addBlow_29 ?_
    refine lv_iconst (v := (1 : Int32)) hx hb dX3_addBlow_32 (by decide) ?_
    refine lv_iadd hx hb dX3_addBlow_33 ?_
    refine lv_topi (fun v_4 ev_4 => ?_)
    have hf := lb_s hf ev_4
    refine x_put (ws' := [(a_this, .inr (3, [.int i_rounds, .int i_home, .int i_noise, .int v_4, .int i_judgeCount, .ref a_blows, .ref a_judges, .ref a_forward, .ref a_downs, .ref a_taken, .ref a_seenBy, .ref a_sums, .ref a_leads])), (a_blows, .inl (X.2.1 0, 200, .inl g_3)), (a_p0, .inl (X.2.1 0, 7, .inl f_p0))]) (ty := .int) (C := RX3) (T := TX3) (N := 13) hx hb hts in3 tyX3 tyX3_ok nmX3 hown hG hP hD rfl hS 0 rfl rfl 3 (by decide) w1 rfl (tyX3_ok 3 (by decide)) rfl rfl (Nat.le_of_ble_eq_true rfl) dX3_addBlow_34 rfl (fun H locs hP hS => ?_)
    refine lv_iconst (v := (1 : Int32)) hx hb dX3_addBlow_37 (by decide) ?_
    obtain rfl := Option.some.inj hf
    exact ret H _ ls _ (show narrow .boolean (.int (1 : Int32)) = .int (1 : Int32) from rfl) hP hD hS dX3_addBlow_38
  · have hf := xf hf c_1
    refine lv_iconst (v := (0 : Int32)) hx hb dX3_addBlow_9 (by decide) ?_
    obtain rfl := Option.some.inj hf
    exact ret H _ ls _ (show narrow .boolean (.int (0 : Int32)) = .int (0 : Int32) from rfl) hP hD hS dX3_addBlow_10
def mX3_addJudge (i_judgeCount : Int32) (f_judges : Nat → Int32) (f_p0 : Nat → Int32) :
  Option (Int32 × (Nat → Int32) × Int32) :=
  if i_judgeCount < (8 : Int32) then (gcp (0 : Int32) (i_judgeCount * (7 : Int32)) (7 : Int32) 7 56 <|
  lb (va_cpy f_p0 f_judges (0 : Int32).toNatClampNeg (i_judgeCount * (7 : Int32)).toNatClampNeg (7 : Int32).toNatClampNeg) fun g_3 =>
  lb (i_judgeCount + (1 : Int32)) fun v_4 =>
  some ((1 : Int32), g_3, v_4)) else (some ((0 : Int32), f_judges, i_judgeCount))
theorem hdsX3_addJudge : yX3_addJudge.cls ≠ "java/lang/invoke/MethodHandle" ∧ yX3_addJudge.cls ≠ "java/lang/invoke/VarHandle" ∧ (parseMethodDescriptor yX3_addJudge.desc).map (fun d => d.parameters.length) = some 1 := by decide +kernel
theorem hdvX3_addJudge : yX3_addJudge.cls = RX3 ∧ yX3_addJudge.cls ≠ "java/lang/invoke/MethodHandle" ∧ yX3_addJudge.cls ≠ "java/lang/invoke/VarHandle" ∧ (parseMethodDescriptor yX3_addJudge.desc).map (fun d => d.parameters.length) = some 1 := by decide +kernel
abbrev rmX3_addJudge : Room := { frames := 1, cells := 0, slots := 0, locals := 60 }
set_option maxHeartbeats 4000000 in
set_option maxRecDepth 100000 in
theorem qX3_addJudge (l : Launch) (X : XT) (a_this : Nat) (a_judges : Nat) (a_p0 : Nat) (a_blows : Nat) (a_forward : Nat) (a_downs : Nat) (a_taken : Nat) (a_seenBy : Nat) (a_sums : Nat) (a_leads : Nat)  (i_rounds : Int32) (i_home : Int32) (i_noise : Int32) (i_blowCount : Int32) (i_judgeCount : Int32) (f_judges : Nat → Int32) (f_p0 : Nat → Int32)  (o : Int32 × (Nat → Int32) × Int32) (hf : mX3_addJudge i_judgeCount f_judges f_p0 = some o) :
    MI l yX3_addJudge wsX3_addJudge rmX3_addJudge X [.ref a_this, .ref a_p0] [(a_this, .inr (3, [.int i_rounds, .int i_home, .int i_noise, .int i_blowCount, .int i_judgeCount, .ref a_blows, .ref a_judges, .ref a_forward, .ref a_downs, .ref a_taken, .ref a_seenBy, .ref a_sums, .ref a_leads])), (a_judges, .inl (X.2.1 0, 56, .inl f_judges)), (a_p0, .inl (X.2.1 0, 7, .inl f_p0))]  [(a_this, .inr (3, [.int i_rounds, .int i_home, .int i_noise, .int i_blowCount, .int o.2.2, .ref a_blows, .ref a_judges, .ref a_forward, .ref a_downs, .ref a_taken, .ref a_seenBy, .ref a_sums, .ref a_leads])), (a_judges, .inl (X.2.1 0, 56, .inl o.2.1)), (a_p0, .inl (X.2.1 0, 7, .inl f_p0))] o.1 := by
  refine MI_ofH (cc := cX3_addJudge) (maxL := 2) (rt := .boolean) (by decide) rfl (Nat.le_of_ble_eq_true rfl) ?_
  intro p e s m below meth c A Q H ls hx hb hml hts hown hA hD hG hP hS hl ret
  have hown : s.vm.findClass RX3 = some m.cls := hown
  have hD : aD A [a_this, a_judges, a_p0] := hD
  have hl : lv_has ls 2 [(0, .ref a_this), (1, .ref a_p0)] := hl
  have w1 := hts (.fieldLink RX3 47 "ThreeCards$Fight" "judgeCount" "I") (List.mem_of_getElem? (i := 1) rfl)
  have w2 := hts (.fieldLink RX3 13 "ThreeCards$Fight" "judges" "[I") (List.mem_of_getElem? (i := 2) rfl)
  have w3 := hts (.methodLink RX3 76 arraycopyName) (List.mem_of_getElem? (i := 3) rfl)
  have w4 := hts (.native arraycopyName) (List.mem_of_getElem? (i := 4) rfl)
  have w5 := hts (.static arraycopyName) (List.mem_of_getElem? (i := 5) rfl)
  have w6 := hts (.initialized "java/lang/System") (List.mem_of_getElem? (i := 6) rfl)
  have in3 : ∀ w ∈ u_ws RX3 TX3 13, w ∈ wsX3_addJudge := by decide +kernel
  unfold mX3_addJudge at hf
  refine lv_aload_n hx hb dX3_addJudge_0 rfl (lv_at hl 0 rfl) ?_
  refine va_get (D := X.1) (ci := 3) (v := .int i_judgeCount) (C := RX3) (T := TX3) (N := 13) hx hb hts in3 hown hG.1 hP 0 rfl rfl 4 (by decide) w1 (fun _ h9 => h9) rfl dX3_addJudge_1 ?_
  refine lv_bipush (v := (8 : Int32)) hx hb dX3_addJudge_4 (by decide) ?_
  refine lv_icmp_lt (tgt := 11) hx hb dX3_addJudge_6 (by decide) (fun c_1 => ?_) (fun c_1 => ?_)
  · have hf := xt hf c_1
    refine lv_aload_n hx hb dX3_addJudge_11 rfl (lv_at hl 1 rfl) ?_
    refine lv_iconst (v := (0 : Int32)) hx hb dX3_addJudge_12 (by decide) ?_
    refine lv_aload_n hx hb dX3_addJudge_13 rfl (lv_at hl 0 rfl) ?_
    refine va_get (D := X.1) (ci := 3) (v := .ref a_judges) (C := RX3) (T := TX3) (N := 13) hx hb hts in3 hown hG.1 hP 0 rfl rfl 6 (by decide) w2 (fun _ h9 => h9) rfl dX3_addJudge_14 ?_
    refine lv_aload_n hx hb dX3_addJudge_17 rfl (lv_at hl 0 rfl) ?_
    refine va_get (D := X.1) (ci := 3) (v := .int i_judgeCount) (C := RX3) (T := TX3) (N := 13) hx hb hts in3 hown hG.1 hP 0 rfl rfl 4 (by decide) w1 (fun _ h9 => h9) rfl dX3_addJudge_18 ?_
    refine lv_bipush (v := (7 : Int32)) hx hb dX3_addJudge_21 (by decide) ?_
    refine lv_imul hx hb dX3_addJudge_23 ?_
    refine lv_bipush (v := (7 : Int32)) hx hb dX3_addJudge_24 (by decide) ?_
    obtain ⟨h_2, hf⟩ := gcp_s hf
    obtain ⟨g_3, eg_3, hf⟩ := lb_g hf
    refine x_copyi (ws' := [(a_this, .inr (3, [.int i_rounds, .int i_home, .int i_noise, .int i_blowCount, .int i_judgeCount, .ref a_blows, .ref a_judges, .ref a_forward, .ref a_downs, .ref a_taken, .ref a_seenBy, .ref a_sums, .ref a_leads])), (a_judges, .inl (X.2.1 0, 56, .inl g_3)), (a_p0, .inl (X.2.1 0, 7, .inl f_p0))]) hx hb hml hl.1 hown w3 w4 w5 w6 hG hP hD rfl hS 2 1 rfl rfl h_2 (Nat.le_of_ble_eq_true rfl) (Nat.le_of_ble_eq_true rfl) dX3_addJudge_26 eg_3 rfl (fun H locs hP hS => ?_)
    refine lv_aload_n hx hb dX3_addJudge_29 rfl (lv_at hl 0 rfl) ?_
    refine lv_dup hx hb dX3_addJudge_30 rfl ?_
    refine va_get (D := X.1) (ci := 3) (v := .int i_judgeCount) (C := RX3) (T := TX3) (N := 13) hx hb hts in3 hown hG.1 hP 0 rfl rfl 4 (by decide) w1 (fun _ h9 => h9) rfl dX3_addJudge_31 ?_
    refine lv_iconst (v := (1 : Int32)) hx hb dX3_addJudge_34 (by decide) ?_
    refine lv_iadd hx hb dX3_addJudge_35 ?_
    refine lv_topi (fun v_4 ev_4 => ?_)
    have hf := lb_s hf ev_4
    refine x_put (ws' := [(a_this, .inr (3, [.int i_rounds, .int i_home, .int i_noise, .int i_blowCount, .int v_4, .ref a_blows, .ref a_judges, .ref a_forward, .ref a_downs, .ref a_taken, .ref a_seenBy, .ref a_sums, .ref a_leads])), (a_judges, .inl (X.2.1 0, 56, .inl g_3)), (a_p0, .inl (X.2.1 0, 7, .inl f_p0))]) (ty := .int) (C := RX3) (T := TX3) (N := 13) hx hb hts in3 tyX3 tyX3_ok nmX3 hown hG hP hD rfl hS 0 rfl rfl 4 (by decide) w1 rfl (tyX3_ok 4 (by decide)) rfl rfl (Nat.le_of_ble_eq_true rfl) dX3_addJudge_36 rfl (fun H locs hP hS => ?_)
    refine lv_iconst (v := (1 : Int32)) hx hb dX3_addJudge_39 (by decide) ?_
    obtain rfl := Option.some.inj hf
    exact ret H _ ls _ (show narrow .boolean (.int (1 : Int32)) = .int (1 : Int32) from rfl) hP hD hS dX3_addJudge_40
  · have hf := xf hf c_1
    refine lv_iconst (v := (0 : Int32)) hx hb dX3_addJudge_9 (by decide) ?_
    obtain rfl := Option.some.inj hf
    exact ret H _ ls _ (show narrow .boolean (.int (0 : Int32)) = .int (0 : Int32) from rfl) hP hD hS dX3_addJudge_10
def mX3_addOne (x1 : Int32) (x2 : Int32) (f_p0 : Nat → Int32) :
  Option (Int32 × (Nat → Int32)) :=
  gi (x1 * (2 : Int32)) 24 <|
  gi ((x1 * (2 : Int32)) + (1 : Int32)) 24 <|
  if ((f_p0 (x1 * (2 : Int32)).toNatClampNeg) + (f_p0 ((x1 * (2 : Int32)) + (1 : Int32)).toNatClampNeg)) < (3 : Int32) then (lb ((x1 * (2 : Int32)) + x2) fun v_4 =>
  gi v_4 24 <|
  gi v_4 24 <|
  lb (upd f_p0 v_4.toNatClampNeg ((f_p0 v_4.toNatClampNeg) + (1 : Int32))) fun g_7 =>
  some ((1 : Int32), g_7)) else (some ((0 : Int32), f_p0))
theorem hdsX3_addOne : yX3_addOne.cls ≠ "java/lang/invoke/MethodHandle" ∧ yX3_addOne.cls ≠ "java/lang/invoke/VarHandle" ∧ (parseMethodDescriptor yX3_addOne.desc).map (fun d => d.parameters.length) = some 3 := by decide +kernel
theorem hdvX3_addOne : yX3_addOne.cls = RX3 ∧ yX3_addOne.cls ≠ "java/lang/invoke/MethodHandle" ∧ yX3_addOne.cls ≠ "java/lang/invoke/VarHandle" ∧ (parseMethodDescriptor yX3_addOne.desc).map (fun d => d.parameters.length) = some 3 := by decide +kernel
abbrev rmX3_addOne : Room := { frames := 0, cells := 0, slots := 0, locals := 0 }
set_option maxHeartbeats 4000000 in
set_option maxRecDepth 100000 in
theorem qX3_addOne (l : Launch) (X : XT) (a_this : Nat) (a_p0 : Nat) (a_blows : Nat) (a_judges : Nat) (a_forward : Nat) (a_downs : Nat) (a_taken : Nat) (a_seenBy : Nat) (a_sums : Nat) (a_leads : Nat)  (i_rounds : Int32) (i_home : Int32) (i_noise : Int32) (i_blowCount : Int32) (i_judgeCount : Int32) (f_p0 : Nat → Int32) (x1 : Int32) (x2 : Int32) (o : Int32 × (Nat → Int32)) (hf : mX3_addOne x1 x2 f_p0 = some o) :
    MI l yX3_addOne wsX3_addOne rmX3_addOne X [.ref a_this, .ref a_p0, .int x1, .int x2] [(a_this, .inr (3, [.int i_rounds, .int i_home, .int i_noise, .int i_blowCount, .int i_judgeCount, .ref a_blows, .ref a_judges, .ref a_forward, .ref a_downs, .ref a_taken, .ref a_seenBy, .ref a_sums, .ref a_leads])), (a_p0, .inl (X.2.1 0, 24, .inl f_p0))]  [(a_this, .inr (3, [.int i_rounds, .int i_home, .int i_noise, .int i_blowCount, .int i_judgeCount, .ref a_blows, .ref a_judges, .ref a_forward, .ref a_downs, .ref a_taken, .ref a_seenBy, .ref a_sums, .ref a_leads])), (a_p0, .inl (X.2.1 0, 24, .inl o.2))] o.1 := by
  refine MI_ofH (cc := cX3_addOne) (maxL := 4) (rt := .boolean) (by decide) rfl (Nat.le_of_ble_eq_true rfl) ?_
  intro p e s m below meth c A Q H ls hx hb hml hts hown hA hD hG hP hS hl ret
  have hown : s.vm.findClass RX3 = some m.cls := hown
  have hD : aD A [a_this, a_p0] := hD
  have hl : lv_has ls 4 [(0, .ref a_this), (1, .ref a_p0), (2, .int x1), (3, .int x2)] := hl
  unfold mX3_addOne at hf
  refine lv_aload_n hx hb dX3_addOne_0 rfl (lv_at hl 1 rfl) ?_
  refine lv_iload_n hx hb dX3_addOne_1 rfl (lv_at hl 2 rfl) ?_
  refine lv_iconst (v := (2 : Int32)) hx hb dX3_addOne_2 (by decide) ?_
  refine lv_imul hx hb dX3_addOne_3 ?_
  obtain ⟨h_1, hf⟩ := gi_s hf
  refine va_iald (D := X.1) hx hb hG.1 hP 1 0 rfl rfl h_1 dX3_addOne_4 ?_
  refine lv_aload_n hx hb dX3_addOne_5 rfl (lv_at hl 1 rfl) ?_
  refine lv_iload_n hx hb dX3_addOne_6 rfl (lv_at hl 2 rfl) ?_
  refine lv_iconst (v := (2 : Int32)) hx hb dX3_addOne_7 (by decide) ?_
  refine lv_imul hx hb dX3_addOne_8 ?_
  refine lv_iconst (v := (1 : Int32)) hx hb dX3_addOne_9 (by decide) ?_
  refine lv_iadd hx hb dX3_addOne_10 ?_
  obtain ⟨h_2, hf⟩ := gi_s hf
  refine va_iald (D := X.1) hx hb hG.1 hP 1 0 rfl rfl h_2 dX3_addOne_11 ?_
  refine lv_iadd hx hb dX3_addOne_12 ?_
  refine lv_iconst (v := (3 : Int32)) hx hb dX3_addOne_13 (by decide) ?_
  refine lv_icmp_lt (tgt := 19) hx hb dX3_addOne_14 (by decide) (fun c_3 => ?_) (fun c_3 => ?_)
  · have hf := xt hf c_3
    refine lv_aload_n hx hb dX3_addOne_19 rfl (lv_at hl 1 rfl) ?_
    refine lv_iload_n hx hb dX3_addOne_20 rfl (lv_at hl 2 rfl) ?_
    refine lv_iconst (v := (2 : Int32)) hx hb dX3_addOne_21 (by decide) ?_
    refine lv_imul hx hb dX3_addOne_22 ?_
    refine lv_iload_n hx hb dX3_addOne_23 rfl (lv_at hl 3 rfl) ?_
    refine lv_iadd hx hb dX3_addOne_24 ?_
    refine lv_topi (fun v_4 ev_4 => ?_)
    have hf := lb_s hf ev_4
    refine lv_dup2_11 hx hb dX3_addOne_25 rfl rfl ?_
    obtain ⟨h_5, hf⟩ := gi_s hf
    refine va_iald (D := X.1) hx hb hG.1 hP 1 0 rfl rfl h_5 dX3_addOne_26 ?_
    refine lv_iconst (v := (1 : Int32)) hx hb dX3_addOne_27 (by decide) ?_
    refine lv_iadd hx hb dX3_addOne_28 ?_
    obtain ⟨h_6, hf⟩ := gi_s hf
    obtain ⟨g_7, eg_7, hf⟩ := lb_g hf
    refine x_iast (ws' := [(a_this, .inr (3, [.int i_rounds, .int i_home, .int i_noise, .int i_blowCount, .int i_judgeCount, .ref a_blows, .ref a_judges, .ref a_forward, .ref a_downs, .ref a_taken, .ref a_seenBy, .ref a_sums, .ref a_leads])), (a_p0, .inl (X.2.1 0, 24, .inl g_7))]) hx hb hG hP hD rfl hS 1 rfl h_6 dX3_addOne_29 eg_7 rfl (fun H locs hP hS => ?_)
    refine lv_iconst (v := (1 : Int32)) hx hb dX3_addOne_30 (by decide) ?_
    obtain rfl := Option.some.inj hf
    exact ret H _ ls _ (show narrow .boolean (.int (1 : Int32)) = .int (1 : Int32) from rfl) hP hD hS dX3_addOne_31
  · have hf := xf hf c_3
    refine lv_iconst (v := (0 : Int32)) hx hb dX3_addOne_17 (by decide) ?_
    obtain rfl := Option.some.inj hf
    exact ret H _ ls _ (show narrow .boolean (.int (0 : Int32)) = .int (0 : Int32) from rfl) hP hD hS dX3_addOne_18
def mX3_take (x0 : Int32) (i_rounds : Int32) (i_home : Int32) (i_noise : Int32) (i_blowCount : Int32) (i_judgeCount : Int32) (f_blows : Nat → Int32) (f_downs : Nat → Int32) (f_forward : Nat → Int32) (f_judges : Nat → Int32) (f_taken : Nat → Int32) (f_p1 : Nat → Int32) :
  Option (Int32 × (Nat → Int32) × Int32 × Int32 × (Nat → Int32) × Int32 × Int32 × (Nat → Int32) × (Nat → Int32) × (Nat → Int32) × Int32) :=
  if x0 = (98 : Int32) then ((mX3_addBlow i_blowCount f_blows f_p1).bind fun o_5 =>
  gz o_5.1 <|
  some (o_5.1, f_judges, i_judgeCount, i_rounds, f_downs, i_home, i_noise, f_forward, f_taken, o_5.2.1, o_5.2.2)) else (if x0 = (100 : Int32) then ((mX3_addOne (f_p1 (0 : Int32).toNatClampNeg) (f_p1 (1 : Int32).toNatClampNeg) f_taken).bind fun o_9 =>
  gz o_9.1 <|
  some (o_9.1, f_judges, i_judgeCount, i_rounds, f_downs, i_home, i_noise, f_forward, o_9.2, f_blows, i_blowCount)) else (if x0 = (102 : Int32) then (gi (((f_p1 (0 : Int32).toNatClampNeg) * (2 : Int32)) + (f_p1 (1 : Int32).toNatClampNeg)) 24 <|
  lb (upd f_forward (((f_p1 (0 : Int32).toNatClampNeg) * (2 : Int32)) + (f_p1 (1 : Int32).toNatClampNeg)).toNatClampNeg (f_p1 (2 : Int32).toNatClampNeg)) fun g_14 =>
  some ((1 : Int32), f_judges, i_judgeCount, i_rounds, f_downs, i_home, i_noise, g_14, f_taken, f_blows, i_blowCount)) else (if x0 = (104 : Int32) then (lb (f_p1 (0 : Int32).toNatClampNeg) fun v_16 =>
  lb (f_p1 (1 : Int32).toNatClampNeg) fun v_17 =>
  some ((1 : Int32), f_judges, i_judgeCount, i_rounds, f_downs, v_16, v_17, f_forward, f_taken, f_blows, i_blowCount)) else (if x0 = (107 : Int32) then ((mX3_addOne (f_p1 (0 : Int32).toNatClampNeg) (f_p1 (1 : Int32).toNatClampNeg) f_downs).bind fun o_19 =>
  gz o_19.1 <|
  some (o_19.1, f_judges, i_judgeCount, i_rounds, o_19.2, i_home, i_noise, f_forward, f_taken, f_blows, i_blowCount)) else (if x0 = (114 : Int32) then (lb (f_p1 (0 : Int32).toNatClampNeg) fun v_23 =>
  some ((1 : Int32), f_judges, i_judgeCount, v_23, f_downs, i_home, i_noise, f_forward, f_taken, f_blows, i_blowCount)) else ((mX3_addJudge i_judgeCount f_judges f_p1).bind fun o_1 =>
  gz o_1.1 <|
  some (o_1.1, o_1.2.1, o_1.2.2, i_rounds, f_downs, i_home, i_noise, f_forward, f_taken, f_blows, i_blowCount)))))))
theorem hdsX3_take : yX3_take.cls ≠ "java/lang/invoke/MethodHandle" ∧ yX3_take.cls ≠ "java/lang/invoke/VarHandle" ∧ (parseMethodDescriptor yX3_take.desc).map (fun d => d.parameters.length) = some 2 := by decide +kernel
theorem hdvX3_take : yX3_take.cls = RX3 ∧ yX3_take.cls ≠ "java/lang/invoke/MethodHandle" ∧ yX3_take.cls ≠ "java/lang/invoke/VarHandle" ∧ (parseMethodDescriptor yX3_take.desc).map (fun d => d.parameters.length) = some 2 := by decide +kernel
abbrev rmX3_take : Room := { frames := 2, cells := 0, slots := 0, locals := 81 }
set_option maxHeartbeats 4000000 in
set_option maxRecDepth 100000 in
theorem qX3_take (l : Launch) (X : XT) (a_this : Nat) (a_blows : Nat) (a_downs : Nat) (a_forward : Nat) (a_judges : Nat) (a_taken : Nat) (a_p1 : Nat) (a_seenBy : Nat) (a_sums : Nat) (a_leads : Nat)  (i_rounds : Int32) (i_home : Int32) (i_noise : Int32) (i_blowCount : Int32) (i_judgeCount : Int32) (f_blows : Nat → Int32) (f_downs : Nat → Int32) (f_forward : Nat → Int32) (f_judges : Nat → Int32) (f_taken : Nat → Int32) (f_p1 : Nat → Int32) (x0 : Int32) (o : Int32 × (Nat → Int32) × Int32 × Int32 × (Nat → Int32) × Int32 × Int32 × (Nat → Int32) × (Nat → Int32) × (Nat → Int32) × Int32) (hf : mX3_take x0 i_rounds i_home i_noise i_blowCount i_judgeCount f_blows f_downs f_forward f_judges f_taken f_p1 = some o) :
    MI l yX3_take wsX3_take rmX3_take X [.ref a_this, .int x0, .ref a_p1] [(a_this, .inr (3, [.int i_rounds, .int i_home, .int i_noise, .int i_blowCount, .int i_judgeCount, .ref a_blows, .ref a_judges, .ref a_forward, .ref a_downs, .ref a_taken, .ref a_seenBy, .ref a_sums, .ref a_leads])), (a_blows, .inl (X.2.1 0, 200, .inl f_blows)), (a_downs, .inl (X.2.1 0, 24, .inl f_downs)), (a_forward, .inl (X.2.1 0, 24, .inl f_forward)), (a_judges, .inl (X.2.1 0, 56, .inl f_judges)), (a_taken, .inl (X.2.1 0, 24, .inl f_taken)), (a_p1, .inl (X.2.1 0, 7, .inl f_p1))]  [(a_this, .inr (3, [.int o.2.2.2.1, .int o.2.2.2.2.2.1, .int o.2.2.2.2.2.2.1, .int o.2.2.2.2.2.2.2.2.2.2, .int o.2.2.1, .ref a_blows, .ref a_judges, .ref a_forward, .ref a_downs, .ref a_taken, .ref a_seenBy, .ref a_sums, .ref a_leads])), (a_blows, .inl (X.2.1 0, 200, .inl o.2.2.2.2.2.2.2.2.2.1)), (a_downs, .inl (X.2.1 0, 24, .inl o.2.2.2.2.1)), (a_forward, .inl (X.2.1 0, 24, .inl o.2.2.2.2.2.2.2.1)), (a_judges, .inl (X.2.1 0, 56, .inl o.2.1)), (a_taken, .inl (X.2.1 0, 24, .inl o.2.2.2.2.2.2.2.2.1)), (a_p1, .inl (X.2.1 0, 7, .inl f_p1))] o.1 := by
  refine MI_ofH (cc := cX3_take) (maxL := 3) (rt := .boolean) (by decide) rfl (Nat.le_of_ble_eq_true rfl) ?_
  intro p e s m below meth c A Q H ls hx hb hml hts hown hA hD hG hP hS hl ret
  have hown : s.vm.findClass RX3 = some m.cls := hown
  have hD : aD A [a_this, a_blows, a_downs, a_forward, a_judges, a_taken, a_p1] := hD
  have hl : lv_has ls 3 [(0, .ref a_this), (1, .int x0), (2, .ref a_p1)] := hl
  have w1 := hts (Cond.fieldLink RX3 34 "ThreeCards$Fight" "rounds" "I") (List.mem_of_getElem? (i := 1) rfl)
  have w2 := hts (Cond.fieldLink RX3 16 "ThreeCards$Fight" "forward" "[I") (List.mem_of_getElem? (i := 2) rfl)
  have w3 := hts (Cond.fieldLink RX3 19 "ThreeCards$Fight" "downs" "[I") (List.mem_of_getElem? (i := 3) rfl)
  have w4 := hts (Cond.fieldLink RX3 22 "ThreeCards$Fight" "taken" "[I") (List.mem_of_getElem? (i := 4) rfl)
  have w5 := hts (Cond.fieldLink RX3 38 "ThreeCards$Fight" "home" "I") (List.mem_of_getElem? (i := 5) rfl)
  have w6 := hts (Cond.fieldLink RX3 41 "ThreeCards$Fight" "noise" "I") (List.mem_of_getElem? (i := 6) rfl)
  have in3 : ∀ w ∈ u_ws RX3 TX3 13, w ∈ wsX3_take := by decide +kernel
  unfold mX3_take at hf
  refine lv_iload_n hx hb dX3_take_0 rfl (lv_at hl 1 rfl) ?_
  by_cases c_4 : x0 = (98 : Int32)
  · have hf := xt hf c_4
    refine lv_tableIn (tgt := 93) (off := 92) hx hb dX3_take_1 (by rw [c_4]; decide) (by rw [c_4]; decide) (by rw [c_4]; decide) (by decide) ?_
    refine lv_aload_n hx hb dX3_take_93 rfl (lv_at hl 0 rfl) ?_
    refine lv_aload_n hx hb dX3_take_94 rfl (lv_at hl 2 rfl) ?_
    obtain ⟨o_5, ho_5, hf⟩ := ob_s hf
    refine xV_i (As := [.ref a_p1]) (b := a_this) (rest := []) (ws2 := [(a_this, .inr (3, [.int i_rounds, .int i_home, .int i_noise, .int o_5.2.2, .int i_judgeCount, .ref a_blows, .ref a_judges, .ref a_forward, .ref a_downs, .ref a_taken, .ref a_seenBy, .ref a_sums, .ref a_leads])), (a_blows, .inl (X.2.1 0, 200, .inl o_5.2.1)), (a_downs, .inl (X.2.1 0, 24, .inl f_downs)), (a_forward, .inl (X.2.1 0, 24, .inl f_forward)), (a_judges, .inl (X.2.1 0, 56, .inl f_judges)), (a_taken, .inl (X.2.1 0, 24, .inl f_taken)), (a_p1, .inl (X.2.1 0, 7, .inl f_p1))]) hx hb hml hts hown hG hA hP hD rfl hS hl.1 (qX3_addBlow l X a_this a_blows a_p1 a_judges a_forward a_downs a_taken a_seenBy a_sums a_leads i_rounds i_home i_noise i_blowCount i_judgeCount f_blows f_p1 o_5 ho_5) (cwV (y := yX3_addBlow) 1 hts gX3_take_X3_addBlow rfl rfl rfl hdvX3_addBlow ⟨Nat.le_of_ble_eq_true rfl, Nat.le_of_ble_eq_true rfl⟩) [0, 1, 6] [2, 3, 4, 5] [4, 5, 0, 1, 2, 3, 6] rfl rfl rfl rfl rfl rfl rfl (ci := 3) rfl 0 rfl rfl rfl (Nat.le_of_ble_eq_true rfl) ⟨Nat.le_of_ble_eq_true rfl, Nat.le_of_ble_eq_true rfl⟩ dX3_take_95 (fun H locs hP _ hS => ?_)
    obtain ⟨h_7, hf⟩ := gz_s hf
    obtain rfl := Option.some.inj hf
    exact ret H _ ls _ h_7 hP hD hS dX3_take_98
  · have hf := xf hf c_4
    by_cases c_8 : x0 = (100 : Int32)
    · have hf := xt hf c_8
      refine lv_tableIn (tgt := 133) (off := 132) hx hb dX3_take_1 (by rw [c_8]; decide) (by rw [c_8]; decide) (by rw [c_8]; decide) (by decide) ?_
      refine lv_aload_n hx hb dX3_take_133 rfl (lv_at hl 0 rfl) ?_
      refine lv_aload_n hx hb dX3_take_134 rfl (lv_at hl 0 rfl) ?_
      refine va_get (D := X.1) (ci := 3) (v := .ref a_taken) (C := RX3) (T := TX3) (N := 13) hx hb hts in3 hown hG.1 hP 0 rfl rfl 9 (by decide) w4 (fun _ h9 => h9) rfl dX3_take_135 ?_
      refine lv_aload_n hx hb dX3_take_138 rfl (lv_at hl 2 rfl) ?_
      refine lv_iconst (v := (0 : Int32)) hx hb dX3_take_139 (by decide) ?_
      refine va_iald (D := X.1) hx hb hG.1 hP 6 0 rfl rfl (vp_lit (by decide)) dX3_take_140 ?_
      refine lv_aload_n hx hb dX3_take_141 rfl (lv_at hl 2 rfl) ?_
      refine lv_iconst (v := (1 : Int32)) hx hb dX3_take_142 (by decide) ?_
      refine va_iald (D := X.1) hx hb hG.1 hP 6 0 rfl rfl (vp_lit (by decide)) dX3_take_143 ?_
      obtain ⟨o_9, ho_9, hf⟩ := ob_s hf
      refine xV_i (As := [.ref a_taken, .int (f_p1 (0 : Int32).toNatClampNeg), .int (f_p1 (1 : Int32).toNatClampNeg)]) (b := a_this) (rest := []) (ws2 := [(a_this, .inr (3, [.int i_rounds, .int i_home, .int i_noise, .int i_blowCount, .int i_judgeCount, .ref a_blows, .ref a_judges, .ref a_forward, .ref a_downs, .ref a_taken, .ref a_seenBy, .ref a_sums, .ref a_leads])), (a_blows, .inl (X.2.1 0, 200, .inl f_blows)), (a_downs, .inl (X.2.1 0, 24, .inl f_downs)), (a_forward, .inl (X.2.1 0, 24, .inl f_forward)), (a_judges, .inl (X.2.1 0, 56, .inl f_judges)), (a_taken, .inl (X.2.1 0, 24, .inl o_9.2)), (a_p1, .inl (X.2.1 0, 7, .inl f_p1))]) hx hb hml hts hown hG hA hP hD rfl hS hl.1 (qX3_addOne l X a_this a_taken a_blows a_judges a_forward a_downs a_taken a_seenBy a_sums a_leads i_rounds i_home i_noise i_blowCount i_judgeCount f_taken (f_p1 (0 : Int32).toNatClampNeg) (f_p1 (1 : Int32).toNatClampNeg) o_9 ho_9) (cwV (y := yX3_addOne) 3 hts gX3_take_X3_addOne rfl rfl rfl hdvX3_addOne ⟨Nat.le_of_ble_eq_true rfl, Nat.le_of_ble_eq_true rfl⟩) [0, 5] [1, 2, 3, 4, 6] [5, 0, 1, 2, 3, 6, 4] rfl rfl rfl rfl rfl rfl rfl (ci := 3) rfl 0 rfl rfl rfl (Nat.le_of_ble_eq_true rfl) ⟨Nat.le_of_ble_eq_true rfl, Nat.le_of_ble_eq_true rfl⟩ dX3_take_144 (fun H locs hP _ hS => ?_)
      obtain ⟨h_11, hf⟩ := gz_s hf
      obtain rfl := Option.some.inj hf
      exact ret H _ ls _ h_11 hP hD hS dX3_take_147
    · have hf := xf hf c_8
      by_cases c_12 : x0 = (102 : Int32)
      · have hf := xt hf c_12
        refine lv_tableIn (tgt := 99) (off := 98) hx hb dX3_take_1 (by rw [c_12]; decide) (by rw [c_12]; decide) (by rw [c_12]; decide) (by decide) ?_
        refine lv_aload_n hx hb dX3_take_99 rfl (lv_at hl 0 rfl) ?_
        refine va_get (D := X.1) (ci := 3) (v := .ref a_forward) (C := RX3) (T := TX3) (N := 13) hx hb hts in3 hown hG.1 hP 0 rfl rfl 7 (by decide) w2 (fun _ h9 => h9) rfl dX3_take_100 ?_
        refine lv_aload_n hx hb dX3_take_103 rfl (lv_at hl 2 rfl) ?_
        refine lv_iconst (v := (0 : Int32)) hx hb dX3_take_104 (by decide) ?_
        refine va_iald (D := X.1) hx hb hG.1 hP 6 0 rfl rfl (vp_lit (by decide)) dX3_take_105 ?_
        refine lv_iconst (v := (2 : Int32)) hx hb dX3_take_106 (by decide) ?_
        refine lv_imul hx hb dX3_take_107 ?_
        refine lv_aload_n hx hb dX3_take_108 rfl (lv_at hl 2 rfl) ?_
        refine lv_iconst (v := (1 : Int32)) hx hb dX3_take_109 (by decide) ?_
        refine va_iald (D := X.1) hx hb hG.1 hP 6 0 rfl rfl (vp_lit (by decide)) dX3_take_110 ?_
        refine lv_iadd hx hb dX3_take_111 ?_
        refine lv_aload_n hx hb dX3_take_112 rfl (lv_at hl 2 rfl) ?_
        refine lv_iconst (v := (2 : Int32)) hx hb dX3_take_113 (by decide) ?_
        refine va_iald (D := X.1) hx hb hG.1 hP 6 0 rfl rfl (vp_lit (by decide)) dX3_take_114 ?_
        obtain ⟨h_13, hf⟩ := gi_s hf
        obtain ⟨g_14, eg_14, hf⟩ := lb_g hf
        refine x_iast (ws' := [(a_this, .inr (3, [.int i_rounds, .int i_home, .int i_noise, .int i_blowCount, .int i_judgeCount, .ref a_blows, .ref a_judges, .ref a_forward, .ref a_downs, .ref a_taken, .ref a_seenBy, .ref a_sums, .ref a_leads])), (a_blows, .inl (X.2.1 0, 200, .inl f_blows)), (a_downs, .inl (X.2.1 0, 24, .inl f_downs)), (a_forward, .inl (X.2.1 0, 24, .inl g_14)), (a_judges, .inl (X.2.1 0, 56, .inl f_judges)), (a_taken, .inl (X.2.1 0, 24, .inl f_taken)), (a_p1, .inl (X.2.1 0, 7, .inl f_p1))]) hx hb hG hP hD rfl hS 3 rfl h_13 dX3_take_115 eg_14 rfl (fun H locs hP hS => ?_)
        refine lv_iconst (v := (1 : Int32)) hx hb dX3_take_116 (by decide) ?_
        obtain rfl := Option.some.inj hf
        exact ret H _ ls _ (show narrow .boolean (.int (1 : Int32)) = .int (1 : Int32) from rfl) hP hD hS dX3_take_117
      · have hf := xf hf c_12
        by_cases c_15 : x0 = (104 : Int32)
        · have hf := xt hf c_15
          refine lv_tableIn (tgt := 148) (off := 147) hx hb dX3_take_1 (by rw [c_15]; decide) (by rw [c_15]; decide) (by rw [c_15]; decide) (by decide) ?_
          refine lv_aload_n hx hb dX3_take_148 rfl (lv_at hl 0 rfl) ?_
          refine lv_aload_n hx hb dX3_take_149 rfl (lv_at hl 2 rfl) ?_
          refine lv_iconst (v := (0 : Int32)) hx hb dX3_take_150 (by decide) ?_
          refine va_iald (D := X.1) hx hb hG.1 hP 6 0 rfl rfl (vp_lit (by decide)) dX3_take_151 ?_
          refine lv_topi (fun v_16 ev_16 => ?_)
          have hf := lb_s hf ev_16
          refine x_put (ws' := [(a_this, .inr (3, [.int i_rounds, .int v_16, .int i_noise, .int i_blowCount, .int i_judgeCount, .ref a_blows, .ref a_judges, .ref a_forward, .ref a_downs, .ref a_taken, .ref a_seenBy, .ref a_sums, .ref a_leads])), (a_blows, .inl (X.2.1 0, 200, .inl f_blows)), (a_downs, .inl (X.2.1 0, 24, .inl f_downs)), (a_forward, .inl (X.2.1 0, 24, .inl f_forward)), (a_judges, .inl (X.2.1 0, 56, .inl f_judges)), (a_taken, .inl (X.2.1 0, 24, .inl f_taken)), (a_p1, .inl (X.2.1 0, 7, .inl f_p1))]) (ty := .int) (C := RX3) (T := TX3) (N := 13) hx hb hts in3 tyX3 tyX3_ok nmX3 hown hG hP hD rfl hS 0 rfl rfl 1 (by decide) w5 rfl (tyX3_ok 1 (by decide)) rfl rfl (Nat.le_of_ble_eq_true rfl) dX3_take_152 rfl (fun H locs hP hS => ?_)
          refine lv_aload_n hx hb dX3_take_155 rfl (lv_at hl 0 rfl) ?_
          refine lv_aload_n hx hb dX3_take_156 rfl (lv_at hl 2 rfl) ?_
          refine lv_iconst (v := (1 : Int32)) hx hb dX3_take_157 (by decide) ?_
          refine va_iald (D := X.1) hx hb hG.1 hP 6 0 rfl rfl (vp_lit (by decide)) dX3_take_158 ?_
          refine lv_topi (fun v_17 ev_17 => ?_)
          have hf := lb_s hf ev_17
          refine x_put (ws' := [(a_this, .inr (3, [.int i_rounds, .int v_16, .int v_17, .int i_blowCount, .int i_judgeCount, .ref a_blows, .ref a_judges, .ref a_forward, .ref a_downs, .ref a_taken, .ref a_seenBy, .ref a_sums, .ref a_leads])), (a_blows, .inl (X.2.1 0, 200, .inl f_blows)), (a_downs, .inl (X.2.1 0, 24, .inl f_downs)), (a_forward, .inl (X.2.1 0, 24, .inl f_forward)), (a_judges, .inl (X.2.1 0, 56, .inl f_judges)), (a_taken, .inl (X.2.1 0, 24, .inl f_taken)), (a_p1, .inl (X.2.1 0, 7, .inl f_p1))]) (ty := .int) (C := RX3) (T := TX3) (N := 13) hx hb hts in3 tyX3 tyX3_ok nmX3 hown hG hP hD rfl hS 0 rfl rfl 2 (by decide) w6 rfl (tyX3_ok 2 (by decide)) rfl rfl (Nat.le_of_ble_eq_true rfl) dX3_take_159 rfl (fun H locs hP hS => ?_)
          refine lv_iconst (v := (1 : Int32)) hx hb dX3_take_162 (by decide) ?_
          obtain rfl := Option.some.inj hf
          exact ret H _ ls _ (show narrow .boolean (.int (1 : Int32)) = .int (1 : Int32) from rfl) hP hD hS dX3_take_163
        · have hf := xf hf c_15
          by_cases c_18 : x0 = (107 : Int32)
          · have hf := xt hf c_18
            refine lv_tableIn (tgt := 118) (off := 117) hx hb dX3_take_1 (by rw [c_18]; decide) (by rw [c_18]; decide) (by rw [c_18]; decide) (by decide) ?_
            refine lv_aload_n hx hb dX3_take_118 rfl (lv_at hl 0 rfl) ?_
            refine lv_aload_n hx hb dX3_take_119 rfl (lv_at hl 0 rfl) ?_
            refine va_get (D := X.1) (ci := 3) (v := .ref a_downs) (C := RX3) (T := TX3) (N := 13) hx hb hts in3 hown hG.1 hP 0 rfl rfl 8 (by decide) w3 (fun _ h9 => h9) rfl dX3_take_120 ?_
            refine lv_aload_n hx hb dX3_take_123 rfl (lv_at hl 2 rfl) ?_
            refine lv_iconst (v := (0 : Int32)) hx hb dX3_take_124 (by decide) ?_
            refine va_iald (D := X.1) hx hb hG.1 hP 6 0 rfl rfl (vp_lit (by decide)) dX3_take_125 ?_
            refine lv_aload_n hx hb dX3_take_126 rfl (lv_at hl 2 rfl) ?_
            refine lv_iconst (v := (1 : Int32)) hx hb dX3_take_127 (by decide) ?_
            refine va_iald (D := X.1) hx hb hG.1 hP 6 0 rfl rfl (vp_lit (by decide)) dX3_take_128 ?_
            obtain ⟨o_19, ho_19, hf⟩ := ob_s hf
            refine xV_i (As := [.ref a_downs, .int (f_p1 (0 : Int32).toNatClampNeg), .int (f_p1 (1 : Int32).toNatClampNeg)]) (b := a_this) (rest := []) (ws2 := [(a_this, .inr (3, [.int i_rounds, .int i_home, .int i_noise, .int i_blowCount, .int i_judgeCount, .ref a_blows, .ref a_judges, .ref a_forward, .ref a_downs, .ref a_taken, .ref a_seenBy, .ref a_sums, .ref a_leads])), (a_blows, .inl (X.2.1 0, 200, .inl f_blows)), (a_downs, .inl (X.2.1 0, 24, .inl o_19.2)), (a_forward, .inl (X.2.1 0, 24, .inl f_forward)), (a_judges, .inl (X.2.1 0, 56, .inl f_judges)), (a_taken, .inl (X.2.1 0, 24, .inl f_taken)), (a_p1, .inl (X.2.1 0, 7, .inl f_p1))]) hx hb hml hts hown hG hA hP hD rfl hS hl.1 (qX3_addOne l X a_this a_downs a_blows a_judges a_forward a_downs a_taken a_seenBy a_sums a_leads i_rounds i_home i_noise i_blowCount i_judgeCount f_downs (f_p1 (0 : Int32).toNatClampNeg) (f_p1 (1 : Int32).toNatClampNeg) o_19 ho_19) (cwV (y := yX3_addOne) 3 hts gX3_take_X3_addOne rfl rfl rfl hdvX3_addOne ⟨Nat.le_of_ble_eq_true rfl, Nat.le_of_ble_eq_true rfl⟩) [0, 2] [1, 3, 4, 5, 6] [5, 0, 6, 1, 2, 3, 4] rfl rfl rfl rfl rfl rfl rfl (ci := 3) rfl 0 rfl rfl rfl (Nat.le_of_ble_eq_true rfl) ⟨Nat.le_of_ble_eq_true rfl, Nat.le_of_ble_eq_true rfl⟩ dX3_take_129 (fun H locs hP _ hS => ?_)
            obtain ⟨h_21, hf⟩ := gz_s hf
            obtain rfl := Option.some.inj hf
            exact ret H _ ls _ h_21 hP hD hS dX3_take_132
          · have hf := xf hf c_18
            by_cases c_22 : x0 = (114 : Int32)
            · have hf := xt hf c_22
              refine lv_tableIn (tgt := 84) (off := 83) hx hb dX3_take_1 (by rw [c_22]; decide) (by rw [c_22]; decide) (by rw [c_22]; decide) (by decide) ?_
              refine lv_aload_n hx hb dX3_take_84 rfl (lv_at hl 0 rfl) ?_
              refine lv_aload_n hx hb dX3_take_85 rfl (lv_at hl 2 rfl) ?_
              refine lv_iconst (v := (0 : Int32)) hx hb dX3_take_86 (by decide) ?_
              refine va_iald (D := X.1) hx hb hG.1 hP 6 0 rfl rfl (vp_lit (by decide)) dX3_take_87 ?_
              refine lv_topi (fun v_23 ev_23 => ?_)
              have hf := lb_s hf ev_23
              refine x_put (ws' := [(a_this, .inr (3, [.int v_23, .int i_home, .int i_noise, .int i_blowCount, .int i_judgeCount, .ref a_blows, .ref a_judges, .ref a_forward, .ref a_downs, .ref a_taken, .ref a_seenBy, .ref a_sums, .ref a_leads])), (a_blows, .inl (X.2.1 0, 200, .inl f_blows)), (a_downs, .inl (X.2.1 0, 24, .inl f_downs)), (a_forward, .inl (X.2.1 0, 24, .inl f_forward)), (a_judges, .inl (X.2.1 0, 56, .inl f_judges)), (a_taken, .inl (X.2.1 0, 24, .inl f_taken)), (a_p1, .inl (X.2.1 0, 7, .inl f_p1))]) (ty := .int) (C := RX3) (T := TX3) (N := 13) hx hb hts in3 tyX3 tyX3_ok nmX3 hown hG hP hD rfl hS 0 rfl rfl 0 (by decide) w1 rfl (tyX3_ok 0 (by decide)) rfl rfl (Nat.le_of_ble_eq_true rfl) dX3_take_88 rfl (fun H locs hP hS => ?_)
              refine lv_iconst (v := (1 : Int32)) hx hb dX3_take_91 (by decide) ?_
              obtain rfl := Option.some.inj hf
              exact ret H _ ls _ (show narrow .boolean (.int (1 : Int32)) = .int (1 : Int32) from rfl) hP hD hS dX3_take_92
            · have hf := xf hf c_22
              refine lv_tabD (tgt := 164) hx hb dX3_take_1 (fun h1_ h2_ => ?_) (by decide) ?_
              · have nc_4 := i32_ne (98 : Int32) c_4
                have nc_8 := i32_ne (100 : Int32) c_8
                have nc_12 := i32_ne (102 : Int32) c_12
                have nc_15 := i32_ne (104 : Int32) c_15
                have nc_18 := i32_ne (107 : Int32) c_18
                have nc_22 := i32_ne (114 : Int32) c_22
                rw [show (98 : Int32).toInt = 98 from by decide] at nc_4
                rw [show (100 : Int32).toInt = 100 from by decide] at nc_8
                rw [show (102 : Int32).toInt = 102 from by decide] at nc_12
                rw [show (104 : Int32).toInt = 104 from by decide] at nc_15
                rw [show (107 : Int32).toInt = 107 from by decide] at nc_18
                rw [show (114 : Int32).toInt = 114 from by decide] at nc_22
                have hdf : x0.toInt = 99 ∨ x0.toInt = 101 ∨ x0.toInt = 103 ∨ x0.toInt = 105 ∨ x0.toInt = 106 ∨ x0.toInt = 108 ∨ x0.toInt = 109 ∨ x0.toInt = 110 ∨ x0.toInt = 111 ∨ x0.toInt = 112 ∨ x0.toInt = 113 := by omega
                rcases hdf with hdf | hdf | hdf | hdf | hdf | hdf | hdf | hdf | hdf | hdf | hdf <;> rw [hdf] <;> rfl
              refine lv_aload_n hx hb dX3_take_164 rfl (lv_at hl 0 rfl) ?_
              refine lv_aload_n hx hb dX3_take_165 rfl (lv_at hl 2 rfl) ?_
              obtain ⟨o_1, ho_1, hf⟩ := ob_s hf
              refine xV_i (As := [.ref a_p1]) (b := a_this) (rest := []) (ws2 := [(a_this, .inr (3, [.int i_rounds, .int i_home, .int i_noise, .int i_blowCount, .int o_1.2.2, .ref a_blows, .ref a_judges, .ref a_forward, .ref a_downs, .ref a_taken, .ref a_seenBy, .ref a_sums, .ref a_leads])), (a_blows, .inl (X.2.1 0, 200, .inl f_blows)), (a_downs, .inl (X.2.1 0, 24, .inl f_downs)), (a_forward, .inl (X.2.1 0, 24, .inl f_forward)), (a_judges, .inl (X.2.1 0, 56, .inl o_1.2.1)), (a_taken, .inl (X.2.1 0, 24, .inl f_taken)), (a_p1, .inl (X.2.1 0, 7, .inl f_p1))]) hx hb hml hts hown hG hA hP hD rfl hS hl.1 (qX3_addJudge l X a_this a_judges a_p1 a_blows a_forward a_downs a_taken a_seenBy a_sums a_leads i_rounds i_home i_noise i_blowCount i_judgeCount f_judges f_p1 o_1 ho_1) (cwV (y := yX3_addJudge) 1 hts gX3_take_X3_addJudge rfl rfl rfl hdvX3_addJudge ⟨Nat.le_of_ble_eq_true rfl, Nat.le_of_ble_eq_true rfl⟩) [0, 4, 6] [1, 2, 3, 5] [4, 0, 1, 2, 5, 3, 6] rfl rfl rfl rfl rfl rfl rfl (ci := 3) rfl 0 rfl rfl rfl (Nat.le_of_ble_eq_true rfl) ⟨Nat.le_of_ble_eq_true rfl, Nat.le_of_ble_eq_true rfl⟩ dX3_take_166 (fun H locs hP _ hS => ?_)
              obtain ⟨h_3, hf⟩ := gz_s hf
              obtain rfl := Option.some.inj hf
              exact ret H _ ls _ h_3 hP hD hS dX3_take_169
def mX3_addUpBlow_B95 (x0 : Int32) (x1 : Int32) (i_home : Int32) (i_noise : Int32) (f_blows : Nat → Int32) (f_judges : Nat → Int32) (l3 : Int32) (f_seenBy : Nat → Int32) (f_sums : Nat → Int32) :
  Option ((Nat → Int32) × (Nat → Int32)) :=
  (mX3_blowPart x1 (0 : Int32) f_blows).bind fun o_28 =>
  (mX3_blowPart x1 (2 : Int32) f_blows).bind fun o_30 =>
  (mX3_sumPlace x0 o_28 o_30).bind fun o_32 =>
  gi o_32 192 <|
  gi o_32 192 <|
  lb (upd f_sums o_32.toNatClampNeg ((f_sums o_32.toNatClampNeg) + l3)) fun g_36 =>
  some (f_seenBy, g_36)
def mX3_addUpBlow (x0 : Int32) (x1 : Int32) (i_home : Int32) (i_noise : Int32) (f_blows : Nat → Int32) (f_judges : Nat → Int32) (f_seenBy : Nat → Int32) (f_sums : Nat → Int32) :
  Option ((Nat → Int32) × (Nat → Int32)) :=
  (mX3_judgePart x0 (0 : Int32) f_judges).bind fun o_1 =>
  (mX3_blowPart x1 (4 : Int32) f_blows).bind fun o_3 =>
  (mX3_isSeenFrom o_1 o_3).bind fun o_5 =>
  if o_5 = 0 then ((mX3_blowPart x1 (2 : Int32) f_blows).bind fun o_8 =>
  if o_8 = i_home then ((mX3_judgePart x0 (5 : Int32) f_judges).bind fun o_11 =>
  lb (i_noise * o_11) fun v_13 =>
  mX3_addUpBlow_B95 x0 x1 i_home i_noise f_blows f_judges  v_13 f_seenBy f_sums) else (mX3_addUpBlow_B95 x0 x1 i_home i_noise f_blows f_judges  (0 : Int32) f_seenBy f_sums)) else (gi x1 40 <|
  gi x1 40 <|
  lb (upd f_seenBy x1.toNatClampNeg ((f_seenBy x1.toNatClampNeg) ||| ((1 : Int32) <<< (x0 &&& 31)))) fun g_16 =>
  (mX3_judgePart x0 (1 : Int32) f_judges).bind fun o_17 =>
  (mX3_blowPart x1 (3 : Int32) f_blows).bind fun o_19 =>
  lb (o_17 * o_19) fun v_21 =>
  (mX3_blowPart x1 (1 : Int32) f_blows).bind fun o_22 =>
  if o_22 < (170 : Int32) then (mX3_addUpBlow_B95 x0 x1 i_home i_noise f_blows f_judges  v_21 g_16 f_sums) else ((mX3_judgePart x0 (4 : Int32) f_judges).bind fun o_25 =>
  lb (v_21 * o_25) fun v_27 =>
  mX3_addUpBlow_B95 x0 x1 i_home i_noise f_blows f_judges  v_27 g_16 f_sums))
theorem hdsX3_addUpBlow : yX3_addUpBlow.cls ≠ "java/lang/invoke/MethodHandle" ∧ yX3_addUpBlow.cls ≠ "java/lang/invoke/VarHandle" ∧ (parseMethodDescriptor yX3_addUpBlow.desc).map (fun d => d.parameters.length) = some 2 := by decide +kernel
theorem hdvX3_addUpBlow : yX3_addUpBlow.cls = RX3 ∧ yX3_addUpBlow.cls ≠ "java/lang/invoke/MethodHandle" ∧ yX3_addUpBlow.cls ≠ "java/lang/invoke/VarHandle" ∧ (parseMethodDescriptor yX3_addUpBlow.desc).map (fun d => d.parameters.length) = some 2 := by decide +kernel
abbrev rmX3_addUpBlow : Room := { frames := 2, cells := 0, slots := 0, locals := 43 }
set_option maxHeartbeats 4000000 in
set_option maxRecDepth 100000 in
theorem qX3_addUpBlow (l : Launch) (X : XT) (a_this : Nat) (a_blows : Nat) (a_judges : Nat) (a_seenBy : Nat) (a_sums : Nat) (a_forward : Nat) (a_downs : Nat) (a_taken : Nat) (a_leads : Nat)  (i_rounds : Int32) (i_home : Int32) (i_noise : Int32) (i_blowCount : Int32) (i_judgeCount : Int32) (f_blows : Nat → Int32) (f_judges : Nat → Int32) (f_seenBy : Nat → Int32) (f_sums : Nat → Int32) (x0 : Int32) (x1 : Int32) (o : (Nat → Int32) × (Nat → Int32)) (hf : mX3_addUpBlow x0 x1 i_home i_noise f_blows f_judges f_seenBy f_sums = some o) :
    MC l yX3_addUpBlow wsX3_addUpBlow rmX3_addUpBlow X [.ref a_this, .int x0, .int x1] [(a_this, .inr (3, [.int i_rounds, .int i_home, .int i_noise, .int i_blowCount, .int i_judgeCount, .ref a_blows, .ref a_judges, .ref a_forward, .ref a_downs, .ref a_taken, .ref a_seenBy, .ref a_sums, .ref a_leads])), (a_blows, .inl (X.2.1 0, 200, .inl f_blows)), (a_judges, .inl (X.2.1 0, 56, .inl f_judges)), (a_seenBy, .inl (X.2.1 0, 40, .inl f_seenBy)), (a_sums, .inl (X.2.1 0, 192, .inl f_sums))]  (fun _ => [(a_this, .inr (3, [.int i_rounds, .int i_home, .int i_noise, .int i_blowCount, .int i_judgeCount, .ref a_blows, .ref a_judges, .ref a_forward, .ref a_downs, .ref a_taken, .ref a_seenBy, .ref a_sums, .ref a_leads])), (a_blows, .inl (X.2.1 0, 200, .inl f_blows)), (a_judges, .inl (X.2.1 0, 56, .inl f_judges)), (a_seenBy, .inl (X.2.1 0, 40, .inl o.1)), (a_sums, .inl (X.2.1 0, 192, .inl o.2))]) 0 0 := by
  refine MC_ofH (cc := cX3_addUpBlow) (maxL := 4) (by decide) rfl (Nat.le_of_ble_eq_true rfl) ?_
  intro p e s m below meth c A Q H ls hx hb hml hts hown hin hA hD hG hP hS hl ret
  have hown : s.vm.findClass RX3 = some m.cls := hown
  have hD : aD A [a_this, a_blows, a_judges, a_seenBy, a_sums] := hD
  have hl : lv_has ls 4 [(0, .ref a_this), (1, .int x0), (2, .int x1)] := hl
  have w1 := hts (Cond.fieldLink RX3 25 "ThreeCards$Fight" "seenBy" "[I") (List.mem_of_getElem? (i := 1) rfl)
  have w2 := hts (Cond.fieldLink RX3 38 "ThreeCards$Fight" "home" "I") (List.mem_of_getElem? (i := 2) rfl)
  have w3 := hts (Cond.fieldLink RX3 41 "ThreeCards$Fight" "noise" "I") (List.mem_of_getElem? (i := 3) rfl)
  have w4 := hts (Cond.fieldLink RX3 28 "ThreeCards$Fight" "sums" "[I") (List.mem_of_getElem? (i := 4) rfl)
  have in3 : ∀ w ∈ u_ws RX3 TX3 13, w ∈ wsX3_addUpBlow := by decide +kernel
  have hB95 : ∀ (l3 : Int32) (f_seenBy : Nat → Int32) (f_sums : Nat → Int32)  (H : Heap) (locs : List Loc) (ls : Array Slot), va_P X.1 vwCl [(a_this, .inr (3, [.int i_rounds, .int i_home, .int i_noise, .int i_blowCount, .int i_judgeCount, .ref a_blows, .ref a_judges, .ref a_forward, .ref a_downs, .ref a_taken, .ref a_seenBy, .ref a_sums, .ref a_leads])), (a_blows, .inl (X.2.1 0, 200, .inl f_blows)), (a_judges, .inl (X.2.1 0, 56, .inl f_judges)), (a_seenBy, .inl (X.2.1 0, 40, .inl f_seenBy)), (a_sums, .inl (X.2.1 0, 192, .inl f_sums))] H → va_S A s.heap H locs → lv_has ls 4 [(0, .ref a_this), (1, .int x0), (2, .int x1), (3, .int l3)] → mX3_addUpBlow_B95 x0 x1 i_home i_noise f_blows f_judges  l3 f_seenBy f_sums = some o → W p l e rmX3_addUpBlow s m ([.ref a_this, .int x0, .int x1] : List Value).toArray below meth c H locs 0 0 Q (F0 m 95 ls []) := by
    intro l3 f_seenBy f_sums  H locs ls hP hS hl hf
    unfold mX3_addUpBlow_B95 at hf
    refine lv_aload_n hx hb dX3_addUpBlow_95 rfl (lv_at hl 0 rfl) ?_
    refine va_get (D := X.1) (ci := 3) (v := .ref a_sums) (C := RX3) (T := TX3) (N := 13) hx hb hts in3 hown hG.1 hP 0 rfl rfl 11 (by decide) w4 (fun _ h9 => h9) rfl dX3_addUpBlow_96 ?_
    refine lv_iload_n hx hb dX3_addUpBlow_99 rfl (lv_at hl 1 rfl) ?_
    refine lv_aload_n hx hb dX3_addUpBlow_100 rfl (lv_at hl 0 rfl) ?_
    refine lv_iload_n hx hb dX3_addUpBlow_101 rfl (lv_at hl 2 rfl) ?_
    refine lv_iconst (v := (0 : Int32)) hx hb dX3_addUpBlow_102 (by decide) ?_
    obtain ⟨o_28, ho_28, hf⟩ := ob_s hf
    refine xV_i (As := [.int x1, .int (0 : Int32)]) (b := a_this) (rest := [.int x0, .ref a_sums]) (ws2 := [(a_this, .inr (3, [.int i_rounds, .int i_home, .int i_noise, .int i_blowCount, .int i_judgeCount, .ref a_blows, .ref a_judges, .ref a_forward, .ref a_downs, .ref a_taken, .ref a_seenBy, .ref a_sums, .ref a_leads])), (a_blows, .inl (X.2.1 0, 200, .inl f_blows)), (a_judges, .inl (X.2.1 0, 56, .inl f_judges)), (a_seenBy, .inl (X.2.1 0, 40, .inl f_seenBy)), (a_sums, .inl (X.2.1 0, 192, .inl f_sums))]) hx hb hml hts hown hG hA hP hD rfl hS hl.1 (qX3_blowPart l X a_this a_blows a_judges a_forward a_downs a_taken a_seenBy a_sums a_leads i_rounds i_home i_noise i_blowCount i_judgeCount f_blows x1 (0 : Int32) o_28 ho_28) (cwV (y := yX3_blowPart) 2 hts gX3_addUpBlow_X3_blowPart rfl rfl rfl hdvX3_blowPart ⟨Nat.le_of_ble_eq_true rfl, Nat.le_of_ble_eq_true rfl⟩) [0, 1] [2, 3, 4] [3, 4, 0, 1, 2] rfl rfl rfl rfl rfl rfl rfl (ci := 3) rfl 0 rfl rfl rfl (Nat.le_of_ble_eq_true rfl) ⟨Nat.le_of_ble_eq_true rfl, Nat.le_of_ble_eq_true rfl⟩ dX3_addUpBlow_103 (fun H locs hP _ hS => ?_)
    refine lv_aload_n hx hb dX3_addUpBlow_106 rfl (lv_at hl 0 rfl) ?_
    refine lv_iload_n hx hb dX3_addUpBlow_107 rfl (lv_at hl 2 rfl) ?_
    refine lv_iconst (v := (2 : Int32)) hx hb dX3_addUpBlow_108 (by decide) ?_
    obtain ⟨o_30, ho_30, hf⟩ := ob_s hf
    refine xV_i (As := [.int x1, .int (2 : Int32)]) (b := a_this) (rest := [.int o_28, .int x0, .ref a_sums]) (ws2 := [(a_this, .inr (3, [.int i_rounds, .int i_home, .int i_noise, .int i_blowCount, .int i_judgeCount, .ref a_blows, .ref a_judges, .ref a_forward, .ref a_downs, .ref a_taken, .ref a_seenBy, .ref a_sums, .ref a_leads])), (a_blows, .inl (X.2.1 0, 200, .inl f_blows)), (a_judges, .inl (X.2.1 0, 56, .inl f_judges)), (a_seenBy, .inl (X.2.1 0, 40, .inl f_seenBy)), (a_sums, .inl (X.2.1 0, 192, .inl f_sums))]) hx hb hml hts hown hG hA hP hD rfl hS hl.1 (qX3_blowPart l X a_this a_blows a_judges a_forward a_downs a_taken a_seenBy a_sums a_leads i_rounds i_home i_noise i_blowCount i_judgeCount f_blows x1 (2 : Int32) o_30 ho_30) (cwV (y := yX3_blowPart) 2 hts gX3_addUpBlow_X3_blowPart rfl rfl rfl hdvX3_blowPart ⟨Nat.le_of_ble_eq_true rfl, Nat.le_of_ble_eq_true rfl⟩) [0, 1] [2, 3, 4] [3, 4, 0, 1, 2] rfl rfl rfl rfl rfl rfl rfl (ci := 3) rfl 0 rfl rfl rfl (Nat.le_of_ble_eq_true rfl) ⟨Nat.le_of_ble_eq_true rfl, Nat.le_of_ble_eq_true rfl⟩ dX3_addUpBlow_109 (fun H locs hP _ hS => ?_)
    obtain ⟨o_32, ho_32, hf⟩ := ob_s hf
    refine xS_i (As := [.int x0, .int o_28, .int o_30]) (rest := [.ref a_sums]) (ws2 := [(a_this, .inr (3, [.int i_rounds, .int i_home, .int i_noise, .int i_blowCount, .int i_judgeCount, .ref a_blows, .ref a_judges, .ref a_forward, .ref a_downs, .ref a_taken, .ref a_seenBy, .ref a_sums, .ref a_leads])), (a_blows, .inl (X.2.1 0, 200, .inl f_blows)), (a_judges, .inl (X.2.1 0, 56, .inl f_judges)), (a_seenBy, .inl (X.2.1 0, 40, .inl f_seenBy)), (a_sums, .inl (X.2.1 0, 192, .inl f_sums))]) hx hb hml hts hown hG hA hP hD rfl hS hl.1 (qX3_sumPlace l X x0 o_28 o_30 o_32 ho_32) (va_cwS (y := yX3_sumPlace) 3 hts gX3_addUpBlow_X3_sumPlace rfl rfl rfl hdsX3_sumPlace ⟨Nat.le_of_ble_eq_true rfl, Nat.le_of_ble_eq_true rfl⟩) [] [0, 1, 2, 3, 4] [0, 1, 2, 3, 4] rfl rfl rfl rfl rfl rfl rfl rfl rfl (Nat.le_of_ble_eq_true rfl) ⟨Nat.le_of_ble_eq_true rfl, Nat.le_of_ble_eq_true rfl⟩ dX3_addUpBlow_112 (fun H locs hP _ hS => ?_)
    refine lv_dup2_11 hx hb dX3_addUpBlow_115 rfl rfl ?_
    obtain ⟨h_34, hf⟩ := gi_s hf
    refine va_iald (D := X.1) hx hb hG.1 hP 4 0 rfl rfl h_34 dX3_addUpBlow_116 ?_
    refine lv_iload_n hx hb dX3_addUpBlow_117 rfl (lv_at hl 3 rfl) ?_
    refine lv_iadd hx hb dX3_addUpBlow_118 ?_
    obtain ⟨h_35, hf⟩ := gi_s hf
    obtain ⟨g_36, eg_36, hf⟩ := lb_g hf
    refine x_iast (ws' := [(a_this, .inr (3, [.int i_rounds, .int i_home, .int i_noise, .int i_blowCount, .int i_judgeCount, .ref a_blows, .ref a_judges, .ref a_forward, .ref a_downs, .ref a_taken, .ref a_seenBy, .ref a_sums, .ref a_leads])), (a_blows, .inl (X.2.1 0, 200, .inl f_blows)), (a_judges, .inl (X.2.1 0, 56, .inl f_judges)), (a_seenBy, .inl (X.2.1 0, 40, .inl f_seenBy)), (a_sums, .inl (X.2.1 0, 192, .inl g_36))]) hx hb hG hP hD rfl hS 4 rfl h_35 dX3_addUpBlow_119 eg_36 rfl (fun H locs hP hS => ?_)
    obtain rfl := Option.some.inj hf
    exact ret (fun _ => 0) H _ ls _ hP hD hS dX3_addUpBlow_120
  unfold mX3_addUpBlow at hf
  refine lv_iconst (v := (0 : Int32)) hx hb dX3_addUpBlow_0 (by decide) ?_
  refine lv_istore_n (lv' := [(3, .int (0 : Int32)), (0, .ref a_this), (1, .int x0), (2, .int x1)]) hx hb dX3_addUpBlow_1 rfl hl (by decide) rfl (fun ls hl => ?_)
  refine lv_aload_n hx hb dX3_addUpBlow_2 rfl (lv_at hl 1 rfl) ?_
  refine lv_iload_n hx hb dX3_addUpBlow_3 rfl (lv_at hl 2 rfl) ?_
  refine lv_iconst (v := (0 : Int32)) hx hb dX3_addUpBlow_4 (by decide) ?_
  obtain ⟨o_1, ho_1, hf⟩ := ob_s hf
  refine xV_i (As := [.int x0, .int (0 : Int32)]) (b := a_this) (rest := []) (ws2 := [(a_this, .inr (3, [.int i_rounds, .int i_home, .int i_noise, .int i_blowCount, .int i_judgeCount, .ref a_blows, .ref a_judges, .ref a_forward, .ref a_downs, .ref a_taken, .ref a_seenBy, .ref a_sums, .ref a_leads])), (a_blows, .inl (X.2.1 0, 200, .inl f_blows)), (a_judges, .inl (X.2.1 0, 56, .inl f_judges)), (a_seenBy, .inl (X.2.1 0, 40, .inl f_seenBy)), (a_sums, .inl (X.2.1 0, 192, .inl f_sums))]) hx hb hml hts hown hG hA hP hD rfl hS hl.1 (qX3_judgePart l X a_this a_judges a_blows a_forward a_downs a_taken a_seenBy a_sums a_leads i_rounds i_home i_noise i_blowCount i_judgeCount f_judges x0 (0 : Int32) o_1 ho_1) (cwV (y := yX3_judgePart) 2 hts gX3_addUpBlow_X3_judgePart rfl rfl rfl hdvX3_judgePart ⟨Nat.le_of_ble_eq_true rfl, Nat.le_of_ble_eq_true rfl⟩) [0, 2] [1, 3, 4] [3, 0, 4, 1, 2] rfl rfl rfl rfl rfl rfl rfl (ci := 3) rfl 0 rfl rfl rfl (Nat.le_of_ble_eq_true rfl) ⟨Nat.le_of_ble_eq_true rfl, Nat.le_of_ble_eq_true rfl⟩ dX3_addUpBlow_5 (fun H locs hP _ hS => ?_)
  refine lv_aload_n hx hb dX3_addUpBlow_8 rfl (lv_at hl 1 rfl) ?_
  refine lv_iload_n hx hb dX3_addUpBlow_9 rfl (lv_at hl 3 rfl) ?_
  refine lv_iconst (v := (4 : Int32)) hx hb dX3_addUpBlow_10 (by decide) ?_
  obtain ⟨o_3, ho_3, hf⟩ := ob_s hf
  refine xV_i (As := [.int x1, .int (4 : Int32)]) (b := a_this) (rest := [.int o_1]) (ws2 := [(a_this, .inr (3, [.int i_rounds, .int i_home, .int i_noise, .int i_blowCount, .int i_judgeCount, .ref a_blows, .ref a_judges, .ref a_forward, .ref a_downs, .ref a_taken, .ref a_seenBy, .ref a_sums, .ref a_leads])), (a_blows, .inl (X.2.1 0, 200, .inl f_blows)), (a_judges, .inl (X.2.1 0, 56, .inl f_judges)), (a_seenBy, .inl (X.2.1 0, 40, .inl f_seenBy)), (a_sums, .inl (X.2.1 0, 192, .inl f_sums))]) hx hb hml hts hown hG hA hP hD rfl hS hl.1 (qX3_blowPart l X a_this a_blows a_judges a_forward a_downs a_taken a_seenBy a_sums a_leads i_rounds i_home i_noise i_blowCount i_judgeCount f_blows x1 (4 : Int32) o_3 ho_3) (cwV (y := yX3_blowPart) 2 hts gX3_addUpBlow_X3_blowPart rfl rfl rfl hdvX3_blowPart ⟨Nat.le_of_ble_eq_true rfl, Nat.le_of_ble_eq_true rfl⟩) [0, 1] [2, 3, 4] [3, 4, 0, 1, 2] rfl rfl rfl rfl rfl rfl rfl (ci := 3) rfl 0 rfl rfl rfl (Nat.le_of_ble_eq_true rfl) ⟨Nat.le_of_ble_eq_true rfl, Nat.le_of_ble_eq_true rfl⟩ dX3_addUpBlow_11 (fun H locs hP _ hS => ?_)
  obtain ⟨o_5, ho_5, hf⟩ := ob_s hf
  refine xS_i (As := [.int o_1, .int o_3]) (rest := []) (ws2 := [(a_this, .inr (3, [.int i_rounds, .int i_home, .int i_noise, .int i_blowCount, .int i_judgeCount, .ref a_blows, .ref a_judges, .ref a_forward, .ref a_downs, .ref a_taken, .ref a_seenBy, .ref a_sums, .ref a_leads])), (a_blows, .inl (X.2.1 0, 200, .inl f_blows)), (a_judges, .inl (X.2.1 0, 56, .inl f_judges)), (a_seenBy, .inl (X.2.1 0, 40, .inl f_seenBy)), (a_sums, .inl (X.2.1 0, 192, .inl f_sums))]) hx hb hml hts hown hG hA hP hD rfl hS hl.1 (qX3_isSeenFrom l X o_1 o_3 o_5 ho_5) (va_cwS (y := yX3_isSeenFrom) 2 hts gX3_addUpBlow_X3_isSeenFrom rfl rfl rfl hdsX3_isSeenFrom ⟨Nat.le_of_ble_eq_true rfl, Nat.le_of_ble_eq_true rfl⟩) [] [0, 1, 2, 3, 4] [0, 1, 2, 3, 4] rfl rfl rfl rfl rfl rfl rfl rfl rfl (Nat.le_of_ble_eq_true rfl) ⟨Nat.le_of_ble_eq_true rfl, Nat.le_of_ble_eq_true rfl⟩ dX3_addUpBlow_14 (fun H locs hP _ hS => ?_)
  refine lv_if_eq (tgt := 70) hx hb dX3_addUpBlow_17 (by decide) (fun c_7 => ?_) (fun c_7 => ?_)
  · have hf := xt hf c_7
    refine lv_aload_n hx hb dX3_addUpBlow_70 rfl (lv_at hl 1 rfl) ?_
    refine lv_iload_n hx hb dX3_addUpBlow_71 rfl (lv_at hl 3 rfl) ?_
    refine lv_iconst (v := (2 : Int32)) hx hb dX3_addUpBlow_72 (by decide) ?_
    obtain ⟨o_8, ho_8, hf⟩ := ob_s hf
    refine xV_i (As := [.int x1, .int (2 : Int32)]) (b := a_this) (rest := []) (ws2 := [(a_this, .inr (3, [.int i_rounds, .int i_home, .int i_noise, .int i_blowCount, .int i_judgeCount, .ref a_blows, .ref a_judges, .ref a_forward, .ref a_downs, .ref a_taken, .ref a_seenBy, .ref a_sums, .ref a_leads])), (a_blows, .inl (X.2.1 0, 200, .inl f_blows)), (a_judges, .inl (X.2.1 0, 56, .inl f_judges)), (a_seenBy, .inl (X.2.1 0, 40, .inl f_seenBy)), (a_sums, .inl (X.2.1 0, 192, .inl f_sums))]) hx hb hml hts hown hG hA hP hD rfl hS hl.1 (qX3_blowPart l X a_this a_blows a_judges a_forward a_downs a_taken a_seenBy a_sums a_leads i_rounds i_home i_noise i_blowCount i_judgeCount f_blows x1 (2 : Int32) o_8 ho_8) (cwV (y := yX3_blowPart) 2 hts gX3_addUpBlow_X3_blowPart rfl rfl rfl hdvX3_blowPart ⟨Nat.le_of_ble_eq_true rfl, Nat.le_of_ble_eq_true rfl⟩) [0, 1] [2, 3, 4] [3, 4, 0, 1, 2] rfl rfl rfl rfl rfl rfl rfl (ci := 3) rfl 0 rfl rfl rfl (Nat.le_of_ble_eq_true rfl) ⟨Nat.le_of_ble_eq_true rfl, Nat.le_of_ble_eq_true rfl⟩ dX3_addUpBlow_73 (fun H locs hP _ hS => ?_)
    refine lv_aload_n hx hb dX3_addUpBlow_76 rfl (lv_at hl 1 rfl) ?_
    refine va_get (D := X.1) (ci := 3) (v := .int i_home) (C := RX3) (T := TX3) (N := 13) hx hb hts in3 hown hG.1 hP 0 rfl rfl 1 (by decide) w2 (fun _ h9 => h9) rfl dX3_addUpBlow_77 ?_
    refine lv_icmp_ne (tgt := 95) hx hb dX3_addUpBlow_80 (by decide) (fun c_10 => ?_) (fun c_10 => ?_)
    · have hf := xf hf c_10
      exact hB95  (0 : Int32) f_seenBy f_sums  H _ ls hP  hS (lv_sub hl [1, 2, 3, 0] rfl) hf
    · have hf := xt hf c_10
      refine lv_aload_n hx hb dX3_addUpBlow_83 rfl (lv_at hl 1 rfl) ?_
      refine va_get (D := X.1) (ci := 3) (v := .int i_noise) (C := RX3) (T := TX3) (N := 13) hx hb hts in3 hown hG.1 hP 0 rfl rfl 2 (by decide) w3 (fun _ h9 => h9) rfl dX3_addUpBlow_84 ?_
      refine lv_aload_n hx hb dX3_addUpBlow_87 rfl (lv_at hl 1 rfl) ?_
      refine lv_iload_n hx hb dX3_addUpBlow_88 rfl (lv_at hl 2 rfl) ?_
      refine lv_iconst (v := (5 : Int32)) hx hb dX3_addUpBlow_89 (by decide) ?_
      obtain ⟨o_11, ho_11, hf⟩ := ob_s hf
      refine xV_i (As := [.int x0, .int (5 : Int32)]) (b := a_this) (rest := [.int i_noise]) (ws2 := [(a_this, .inr (3, [.int i_rounds, .int i_home, .int i_noise, .int i_blowCount, .int i_judgeCount, .ref a_blows, .ref a_judges, .ref a_forward, .ref a_downs, .ref a_taken, .ref a_seenBy, .ref a_sums, .ref a_leads])), (a_blows, .inl (X.2.1 0, 200, .inl f_blows)), (a_judges, .inl (X.2.1 0, 56, .inl f_judges)), (a_seenBy, .inl (X.2.1 0, 40, .inl f_seenBy)), (a_sums, .inl (X.2.1 0, 192, .inl f_sums))]) hx hb hml hts hown hG hA hP hD rfl hS hl.1 (qX3_judgePart l X a_this a_judges a_blows a_forward a_downs a_taken a_seenBy a_sums a_leads i_rounds i_home i_noise i_blowCount i_judgeCount f_judges x0 (5 : Int32) o_11 ho_11) (cwV (y := yX3_judgePart) 2 hts gX3_addUpBlow_X3_judgePart rfl rfl rfl hdvX3_judgePart ⟨Nat.le_of_ble_eq_true rfl, Nat.le_of_ble_eq_true rfl⟩) [0, 2] [1, 3, 4] [3, 0, 4, 1, 2] rfl rfl rfl rfl rfl rfl rfl (ci := 3) rfl 0 rfl rfl rfl (Nat.le_of_ble_eq_true rfl) ⟨Nat.le_of_ble_eq_true rfl, Nat.le_of_ble_eq_true rfl⟩ dX3_addUpBlow_90 (fun H locs hP _ hS => ?_)
      refine lv_imul hx hb dX3_addUpBlow_93 ?_
      refine lv_topi (fun v_13 ev_13 => ?_)
      have hf := lb_s hf ev_13
      refine lv_istore_n (lv' := [(3, .int v_13), (0, .ref a_this), (1, .int x0), (2, .int x1)]) hx hb dX3_addUpBlow_94 rfl hl (by decide) rfl (fun ls hl => ?_)
      exact hB95  v_13 f_seenBy f_sums  H _ ls hP  hS (lv_sub hl [1, 2, 3, 0] rfl) hf
  · have hf := xf hf c_7
    refine lv_aload_n hx hb dX3_addUpBlow_20 rfl (lv_at hl 1 rfl) ?_
    refine va_get (D := X.1) (ci := 3) (v := .ref a_seenBy) (C := RX3) (T := TX3) (N := 13) hx hb hts in3 hown hG.1 hP 0 rfl rfl 10 (by decide) w1 (fun _ h9 => h9) rfl dX3_addUpBlow_21 ?_
    refine lv_iload_n hx hb dX3_addUpBlow_24 rfl (lv_at hl 3 rfl) ?_
    refine lv_dup2_11 hx hb dX3_addUpBlow_25 rfl rfl ?_
    obtain ⟨h_14, hf⟩ := gi_s hf
    refine va_iald (D := X.1) hx hb hG.1 hP 3 0 rfl rfl h_14 dX3_addUpBlow_26 ?_
    refine lv_iconst (v := (1 : Int32)) hx hb dX3_addUpBlow_27 (by decide) ?_
    refine lv_iload_n hx hb dX3_addUpBlow_28 rfl (lv_at hl 2 rfl) ?_
    refine lv_ishl hx hb dX3_addUpBlow_29 ?_
    refine lv_ior hx hb dX3_addUpBlow_30 ?_
    obtain ⟨h_15, hf⟩ := gi_s hf
    obtain ⟨g_16, eg_16, hf⟩ := lb_g hf
    refine x_iast (ws' := [(a_this, .inr (3, [.int i_rounds, .int i_home, .int i_noise, .int i_blowCount, .int i_judgeCount, .ref a_blows, .ref a_judges, .ref a_forward, .ref a_downs, .ref a_taken, .ref a_seenBy, .ref a_sums, .ref a_leads])), (a_blows, .inl (X.2.1 0, 200, .inl f_blows)), (a_judges, .inl (X.2.1 0, 56, .inl f_judges)), (a_seenBy, .inl (X.2.1 0, 40, .inl g_16)), (a_sums, .inl (X.2.1 0, 192, .inl f_sums))]) hx hb hG hP hD rfl hS 3 rfl h_15 dX3_addUpBlow_31 eg_16 rfl (fun H locs hP hS => ?_)
    refine lv_aload_n hx hb dX3_addUpBlow_32 rfl (lv_at hl 1 rfl) ?_
    refine lv_iload_n hx hb dX3_addUpBlow_33 rfl (lv_at hl 2 rfl) ?_
    refine lv_iconst (v := (1 : Int32)) hx hb dX3_addUpBlow_34 (by decide) ?_
    obtain ⟨o_17, ho_17, hf⟩ := ob_s hf
    refine xV_i (As := [.int x0, .int (1 : Int32)]) (b := a_this) (rest := []) (ws2 := [(a_this, .inr (3, [.int i_rounds, .int i_home, .int i_noise, .int i_blowCount, .int i_judgeCount, .ref a_blows, .ref a_judges, .ref a_forward, .ref a_downs, .ref a_taken, .ref a_seenBy, .ref a_sums, .ref a_leads])), (a_blows, .inl (X.2.1 0, 200, .inl f_blows)), (a_judges, .inl (X.2.1 0, 56, .inl f_judges)), (a_seenBy, .inl (X.2.1 0, 40, .inl g_16)), (a_sums, .inl (X.2.1 0, 192, .inl f_sums))]) hx hb hml hts hown hG hA hP hD rfl hS hl.1 (qX3_judgePart l X a_this a_judges a_blows a_forward a_downs a_taken a_seenBy a_sums a_leads i_rounds i_home i_noise i_blowCount i_judgeCount f_judges x0 (1 : Int32) o_17 ho_17) (cwV (y := yX3_judgePart) 2 hts gX3_addUpBlow_X3_judgePart rfl rfl rfl hdvX3_judgePart ⟨Nat.le_of_ble_eq_true rfl, Nat.le_of_ble_eq_true rfl⟩) [0, 2] [1, 3, 4] [3, 0, 4, 1, 2] rfl rfl rfl rfl rfl rfl rfl (ci := 3) rfl 0 rfl rfl rfl (Nat.le_of_ble_eq_true rfl) ⟨Nat.le_of_ble_eq_true rfl, Nat.le_of_ble_eq_true rfl⟩ dX3_addUpBlow_35 (fun H locs hP _ hS => ?_)
    refine lv_aload_n hx hb dX3_addUpBlow_38 rfl (lv_at hl 1 rfl) ?_
    refine lv_iload_n hx hb dX3_addUpBlow_39 rfl (lv_at hl 3 rfl) ?_
    refine lv_iconst (v := (3 : Int32)) hx hb dX3_addUpBlow_40 (by decide) ?_
    obtain ⟨o_19, ho_19, hf⟩ := ob_s hf
    refine xV_i (As := [.int x1, .int (3 : Int32)]) (b := a_this) (rest := [.int o_17]) (ws2 := [(a_this, .inr (3, [.int i_rounds, .int i_home, .int i_noise, .int i_blowCount, .int i_judgeCount, .ref a_blows, .ref a_judges, .ref a_forward, .ref a_downs, .ref a_taken, .ref a_seenBy, .ref a_sums, .ref a_leads])), (a_blows, .inl (X.2.1 0, 200, .inl f_blows)), (a_judges, .inl (X.2.1 0, 56, .inl f_judges)), (a_seenBy, .inl (X.2.1 0, 40, .inl g_16)), (a_sums, .inl (X.2.1 0, 192, .inl f_sums))]) hx hb hml hts hown hG hA hP hD rfl hS hl.1 (qX3_blowPart l X a_this a_blows a_judges a_forward a_downs a_taken a_seenBy a_sums a_leads i_rounds i_home i_noise i_blowCount i_judgeCount f_blows x1 (3 : Int32) o_19 ho_19) (cwV (y := yX3_blowPart) 2 hts gX3_addUpBlow_X3_blowPart rfl rfl rfl hdvX3_blowPart ⟨Nat.le_of_ble_eq_true rfl, Nat.le_of_ble_eq_true rfl⟩) [0, 1] [2, 3, 4] [3, 4, 0, 1, 2] rfl rfl rfl rfl rfl rfl rfl (ci := 3) rfl 0 rfl rfl rfl (Nat.le_of_ble_eq_true rfl) ⟨Nat.le_of_ble_eq_true rfl, Nat.le_of_ble_eq_true rfl⟩ dX3_addUpBlow_41 (fun H locs hP _ hS => ?_)
    refine lv_imul hx hb dX3_addUpBlow_44 ?_
    refine lv_topi (fun v_21 ev_21 => ?_)
    have hf := lb_s hf ev_21
    refine lv_istore_n (lv' := [(3, .int v_21), (0, .ref a_this), (1, .int x0), (2, .int x1)]) hx hb dX3_addUpBlow_45 rfl hl (by decide) rfl (fun ls hl => ?_)
    refine lv_aload_n hx hb dX3_addUpBlow_46 rfl (lv_at hl 1 rfl) ?_
    refine lv_iload_n hx hb dX3_addUpBlow_47 rfl (lv_at hl 3 rfl) ?_
    refine lv_iconst (v := (1 : Int32)) hx hb dX3_addUpBlow_48 (by decide) ?_
    obtain ⟨o_22, ho_22, hf⟩ := ob_s hf
    refine xV_i (As := [.int x1, .int (1 : Int32)]) (b := a_this) (rest := []) (ws2 := [(a_this, .inr (3, [.int i_rounds, .int i_home, .int i_noise, .int i_blowCount, .int i_judgeCount, .ref a_blows, .ref a_judges, .ref a_forward, .ref a_downs, .ref a_taken, .ref a_seenBy, .ref a_sums, .ref a_leads])), (a_blows, .inl (X.2.1 0, 200, .inl f_blows)), (a_judges, .inl (X.2.1 0, 56, .inl f_judges)), (a_seenBy, .inl (X.2.1 0, 40, .inl g_16)), (a_sums, .inl (X.2.1 0, 192, .inl f_sums))]) hx hb hml hts hown hG hA hP hD rfl hS hl.1 (qX3_blowPart l X a_this a_blows a_judges a_forward a_downs a_taken a_seenBy a_sums a_leads i_rounds i_home i_noise i_blowCount i_judgeCount f_blows x1 (1 : Int32) o_22 ho_22) (cwV (y := yX3_blowPart) 2 hts gX3_addUpBlow_X3_blowPart rfl rfl rfl hdvX3_blowPart ⟨Nat.le_of_ble_eq_true rfl, Nat.le_of_ble_eq_true rfl⟩) [0, 1] [2, 3, 4] [3, 4, 0, 1, 2] rfl rfl rfl rfl rfl rfl rfl (ci := 3) rfl 0 rfl rfl rfl (Nat.le_of_ble_eq_true rfl) ⟨Nat.le_of_ble_eq_true rfl, Nat.le_of_ble_eq_true rfl⟩ dX3_addUpBlow_49 (fun H locs hP _ hS => ?_)
    refine lv_sipush (v := (170 : Int32)) hx hb dX3_addUpBlow_52 (by decide) ?_
    refine lv_icmp_lt (tgt := 95) hx hb dX3_addUpBlow_55 (by decide) (fun c_24 => ?_) (fun c_24 => ?_)
    · have hf := xt hf c_24
      exact hB95  v_21 g_16 f_sums  H _ ls hP  hS (lv_sub hl [1, 2, 3, 0] rfl) hf
    · have hf := xf hf c_24
      refine lv_iload_n hx hb dX3_addUpBlow_58 rfl (lv_at hl 0 rfl) ?_
      refine lv_aload_n hx hb dX3_addUpBlow_59 rfl (lv_at hl 1 rfl) ?_
      refine lv_iload_n hx hb dX3_addUpBlow_60 rfl (lv_at hl 2 rfl) ?_
      refine lv_iconst (v := (4 : Int32)) hx hb dX3_addUpBlow_61 (by decide) ?_
      obtain ⟨o_25, ho_25, hf⟩ := ob_s hf
      refine xV_i (As := [.int x0, .int (4 : Int32)]) (b := a_this) (rest := [.int v_21]) (ws2 := [(a_this, .inr (3, [.int i_rounds, .int i_home, .int i_noise, .int i_blowCount, .int i_judgeCount, .ref a_blows, .ref a_judges, .ref a_forward, .ref a_downs, .ref a_taken, .ref a_seenBy, .ref a_sums, .ref a_leads])), (a_blows, .inl (X.2.1 0, 200, .inl f_blows)), (a_judges, .inl (X.2.1 0, 56, .inl f_judges)), (a_seenBy, .inl (X.2.1 0, 40, .inl g_16)), (a_sums, .inl (X.2.1 0, 192, .inl f_sums))]) hx hb hml hts hown hG hA hP hD rfl hS hl.1 (qX3_judgePart l X a_this a_judges a_blows a_forward a_downs a_taken a_seenBy a_sums a_leads i_rounds i_home i_noise i_blowCount i_judgeCount f_judges x0 (4 : Int32) o_25 ho_25) (cwV (y := yX3_judgePart) 2 hts gX3_addUpBlow_X3_judgePart rfl rfl rfl hdvX3_judgePart ⟨Nat.le_of_ble_eq_true rfl, Nat.le_of_ble_eq_true rfl⟩) [0, 2] [1, 3, 4] [3, 0, 4, 1, 2] rfl rfl rfl rfl rfl rfl rfl (ci := 3) rfl 0 rfl rfl rfl (Nat.le_of_ble_eq_true rfl) ⟨Nat.le_of_ble_eq_true rfl, Nat.le_of_ble_eq_true rfl⟩ dX3_addUpBlow_62 (fun H locs hP _ hS => ?_)
      refine lv_imul hx hb dX3_addUpBlow_65 ?_
      refine lv_topi (fun v_27 ev_27 => ?_)
      have hf := lb_s hf ev_27
      refine lv_istore_n (lv' := [(3, .int v_27), (0, .ref a_this), (1, .int x0), (2, .int x1)]) hx hb dX3_addUpBlow_66 rfl hl (by decide) rfl (fun ls hl => ?_)
      refine lv_goto (tgt := 95) hx hb dX3_addUpBlow_67 (by decide) ?_
      exact hB95  v_27 g_16 f_sums  H _ ls hP  hS (lv_sub hl [1, 2, 3, 0] rfl) hf
def mX3_addUp_B82 (i_home : Int32) (i_noise : Int32) (i_blowCount : Int32) (i_judgeCount : Int32) (f_blows : Nat → Int32) (f_forward : Nat → Int32) (f_judges : Nat → Int32) (k10 : Int32 → (Nat → Int32) → (Nat → Int32) → (Nat → Int32) → Option ((Nat → Int32) × (Nat → Int32) × (Nat → Int32))) (k82 : Int32 → Int32 → (Nat → Int32) → (Nat → Int32) → (Nat → Int32) → Option ((Nat → Int32) × (Nat → Int32) × (Nat → Int32))) (l1 : Int32) (l2 : Int32) (f_seenBy : Nat → Int32) (f_sums : Nat → Int32) (f_leads : Nat → Int32) :
  Option ((Nat → Int32) × (Nat → Int32) × (Nat → Int32)) :=
  if (12 : Int32) ≤ l2 then (lb (l1 + (1 : Int32)) fun v_16 =>
  k10 v_16 f_seenBy f_sums f_leads) else ((mX3_sumOf l1 l2 (0 : Int32) f_sums).bind fun o_17 =>
  (mX3_sumOf l1 l2 (1 : Int32) f_sums).bind fun o_19 =>
  lb (o_17 - o_19) fun v_21 =>
  (mX3_judgePart l1 (3 : Int32) f_judges).bind fun o_22 =>
  gi ((l1 * (12 : Int32)) + l2) 96 <|
  lb (upd f_leads ((l1 * (12 : Int32)) + l2).toNatClampNeg ((v_21 + o_22) - (20 : Int32))) fun g_25 =>
  lb (l2 + (1 : Int32)) fun v_26 =>
  k82 l1 v_26 f_seenBy f_sums g_25)
def mX3_addUp_L82 (i_home : Int32) (i_noise : Int32) (i_blowCount : Int32) (i_judgeCount : Int32) (f_blows : Nat → Int32) (f_forward : Nat → Int32) (f_judges : Nat → Int32) (k10 : Int32 → (Nat → Int32) → (Nat → Int32) → (Nat → Int32) → Option ((Nat → Int32) × (Nat → Int32) × (Nat → Int32))) (n : Nat) (l1 : Int32) (l2 : Int32) (f_seenBy : Nat → Int32) (f_sums : Nat → Int32) (f_leads : Nat → Int32) :
  Option ((Nat → Int32) × (Nat → Int32) × (Nat → Int32)) :=
  loopN (fun k (s : Int32 × Int32 × (Nat → Int32) × (Nat → Int32) × (Nat → Int32)) => mX3_addUp_B82 i_home i_noise i_blowCount i_judgeCount f_blows f_forward f_judges k10 (fun l1 l2 f_seenBy f_sums f_leads => k (l1, l2, f_seenBy, f_sums, f_leads)) s.1 s.2.1 s.2.2.1 s.2.2.2.1 s.2.2.2.2) n (l1, l2, f_seenBy, f_sums, f_leads)
def mX3_addUp_B60 (i_home : Int32) (i_noise : Int32) (i_blowCount : Int32) (i_judgeCount : Int32) (f_blows : Nat → Int32) (f_forward : Nat → Int32) (f_judges : Nat → Int32) (k10 : Int32 → (Nat → Int32) → (Nat → Int32) → (Nat → Int32) → Option ((Nat → Int32) × (Nat → Int32) × (Nat → Int32))) (k60 : Int32 → Int32 → (Nat → Int32) → (Nat → Int32) → (Nat → Int32) → Option ((Nat → Int32) × (Nat → Int32) × (Nat → Int32))) (l1 : Int32) (l2 : Int32) (f_seenBy : Nat → Int32) (f_sums : Nat → Int32) (f_leads : Nat → Int32) :
  Option ((Nat → Int32) × (Nat → Int32) × (Nat → Int32)) :=
  if i_blowCount ≤ l2 then (mX3_addUp_L82 i_home i_noise i_blowCount i_judgeCount f_blows f_forward f_judges k10 FUEL l1 (0 : Int32) f_seenBy f_sums f_leads) else ((mX3_addUpBlow l1 l2 i_home i_noise f_blows f_judges f_seenBy f_sums).bind fun o_12 =>
  lb (l2 + (1 : Int32)) fun v_14 =>
  k60 l1 v_14 o_12.1 o_12.2 f_leads)
def mX3_addUp_L60 (i_home : Int32) (i_noise : Int32) (i_blowCount : Int32) (i_judgeCount : Int32) (f_blows : Nat → Int32) (f_forward : Nat → Int32) (f_judges : Nat → Int32) (k10 : Int32 → (Nat → Int32) → (Nat → Int32) → (Nat → Int32) → Option ((Nat → Int32) × (Nat → Int32) × (Nat → Int32))) (n : Nat) (l1 : Int32) (l2 : Int32) (f_seenBy : Nat → Int32) (f_sums : Nat → Int32) (f_leads : Nat → Int32) :
  Option ((Nat → Int32) × (Nat → Int32) × (Nat → Int32)) :=
  loopN (fun k (s : Int32 × Int32 × (Nat → Int32) × (Nat → Int32) × (Nat → Int32)) => mX3_addUp_B60 i_home i_noise i_blowCount i_judgeCount f_blows f_forward f_judges k10 (fun l1 l2 f_seenBy f_sums f_leads => k (l1, l2, f_seenBy, f_sums, f_leads)) s.1 s.2.1 s.2.2.1 s.2.2.2.1 s.2.2.2.2) n (l1, l2, f_seenBy, f_sums, f_leads)
def mX3_addUp_B20 (i_home : Int32) (i_noise : Int32) (i_blowCount : Int32) (i_judgeCount : Int32) (f_blows : Nat → Int32) (f_forward : Nat → Int32) (f_judges : Nat → Int32) (k10 : Int32 → (Nat → Int32) → (Nat → Int32) → (Nat → Int32) → Option ((Nat → Int32) × (Nat → Int32) × (Nat → Int32))) (k20 : Int32 → Int32 → (Nat → Int32) → (Nat → Int32) → (Nat → Int32) → Option ((Nat → Int32) × (Nat → Int32) × (Nat → Int32))) (l1 : Int32) (l2 : Int32) (f_seenBy : Nat → Int32) (f_sums : Nat → Int32) (f_leads : Nat → Int32) :
  Option ((Nat → Int32) × (Nat → Int32) × (Nat → Int32)) :=
  if (24 : Int32) ≤ l2 then (mX3_addUp_L60 i_home i_noise i_blowCount i_judgeCount f_blows f_forward f_judges k10 FUEL l1 (0 : Int32) f_seenBy f_sums f_leads) else ((mX3_judgePart l1 (2 : Int32) f_judges).bind fun o_5 =>
  gi l2 24 <|
  gi (((l1 * (12 : Int32)) * (2 : Int32)) + l2) 192 <|
  lb (upd f_sums (((l1 * (12 : Int32)) * (2 : Int32)) + l2).toNatClampNeg (o_5 * (f_forward l2.toNatClampNeg))) fun g_9 =>
  lb (l2 + (1 : Int32)) fun v_10 =>
  k20 l1 v_10 f_seenBy g_9 f_leads)
def mX3_addUp_L20 (i_home : Int32) (i_noise : Int32) (i_blowCount : Int32) (i_judgeCount : Int32) (f_blows : Nat → Int32) (f_forward : Nat → Int32) (f_judges : Nat → Int32) (k10 : Int32 → (Nat → Int32) → (Nat → Int32) → (Nat → Int32) → Option ((Nat → Int32) × (Nat → Int32) × (Nat → Int32))) (n : Nat) (l1 : Int32) (l2 : Int32) (f_seenBy : Nat → Int32) (f_sums : Nat → Int32) (f_leads : Nat → Int32) :
  Option ((Nat → Int32) × (Nat → Int32) × (Nat → Int32)) :=
  loopN (fun k (s : Int32 × Int32 × (Nat → Int32) × (Nat → Int32) × (Nat → Int32)) => mX3_addUp_B20 i_home i_noise i_blowCount i_judgeCount f_blows f_forward f_judges k10 (fun l1 l2 f_seenBy f_sums f_leads => k (l1, l2, f_seenBy, f_sums, f_leads)) s.1 s.2.1 s.2.2.1 s.2.2.2.1 s.2.2.2.2) n (l1, l2, f_seenBy, f_sums, f_leads)
def mX3_addUp_B10 (i_home : Int32) (i_noise : Int32) (i_blowCount : Int32) (i_judgeCount : Int32) (f_blows : Nat → Int32) (f_forward : Nat → Int32) (f_judges : Nat → Int32) (k10 : Int32 → (Nat → Int32) → (Nat → Int32) → (Nat → Int32) → Option ((Nat → Int32) × (Nat → Int32) × (Nat → Int32))) (l1 : Int32) (f_seenBy : Nat → Int32) (f_sums : Nat → Int32) (f_leads : Nat → Int32) :
  Option ((Nat → Int32) × (Nat → Int32) × (Nat → Int32)) :=
  if i_judgeCount ≤ l1 then (some (f_seenBy, f_sums, f_leads)) else (mX3_addUp_L20 i_home i_noise i_blowCount i_judgeCount f_blows f_forward f_judges k10 FUEL l1 (0 : Int32) f_seenBy f_sums f_leads)
def mX3_addUp_L10 (i_home : Int32) (i_noise : Int32) (i_blowCount : Int32) (i_judgeCount : Int32) (f_blows : Nat → Int32) (f_forward : Nat → Int32) (f_judges : Nat → Int32) (n : Nat) (l1 : Int32) (f_seenBy : Nat → Int32) (f_sums : Nat → Int32) (f_leads : Nat → Int32) :
  Option ((Nat → Int32) × (Nat → Int32) × (Nat → Int32)) :=
  loopN (fun k (s : Int32 × (Nat → Int32) × (Nat → Int32) × (Nat → Int32)) => mX3_addUp_B10 i_home i_noise i_blowCount i_judgeCount f_blows f_forward f_judges  (fun l1 f_seenBy f_sums f_leads => k (l1, f_seenBy, f_sums, f_leads)) s.1 s.2.1 s.2.2.1 s.2.2.2) n (l1, f_seenBy, f_sums, f_leads)
def mX3_addUp (i_home : Int32) (i_noise : Int32) (i_blowCount : Int32) (i_judgeCount : Int32) (f_blows : Nat → Int32) (f_forward : Nat → Int32) (f_judges : Nat → Int32) (f_leads : Nat → Int32) (f_seenBy : Nat → Int32) (f_sums : Nat → Int32) :
  Option ((Nat → Int32) × (Nat → Int32) × (Nat → Int32)) :=
  (mJ7_fill_53178 40 (0 : Int32) f_seenBy).bind fun o_1 =>
  mX3_addUp_L10 i_home i_noise i_blowCount i_judgeCount f_blows f_forward f_judges  FUEL (0 : Int32) o_1 f_sums f_leads
theorem hdsX3_addUp : yX3_addUp.cls ≠ "java/lang/invoke/MethodHandle" ∧ yX3_addUp.cls ≠ "java/lang/invoke/VarHandle" ∧ (parseMethodDescriptor yX3_addUp.desc).map (fun d => d.parameters.length) = some 0 := by decide +kernel
theorem hdvX3_addUp : yX3_addUp.cls = RX3 ∧ yX3_addUp.cls ≠ "java/lang/invoke/MethodHandle" ∧ yX3_addUp.cls ≠ "java/lang/invoke/VarHandle" ∧ (parseMethodDescriptor yX3_addUp.desc).map (fun d => d.parameters.length) = some 0 := by decide +kernel
abbrev rmX3_addUp : Room := { frames := 3, cells := 0, slots := 0, locals := 66 }
set_option maxHeartbeats 4000000 in
set_option maxRecDepth 100000 in
theorem qX3_addUp (l : Launch) (X : XT) (a_this : Nat) (a_blows : Nat) (a_forward : Nat) (a_judges : Nat) (a_leads : Nat) (a_seenBy : Nat) (a_sums : Nat) (a_downs : Nat) (a_taken : Nat)  (i_rounds : Int32) (i_home : Int32) (i_noise : Int32) (i_blowCount : Int32) (i_judgeCount : Int32) (f_blows : Nat → Int32) (f_forward : Nat → Int32) (f_judges : Nat → Int32) (f_leads : Nat → Int32) (f_seenBy : Nat → Int32) (f_sums : Nat → Int32)  (o : (Nat → Int32) × (Nat → Int32) × (Nat → Int32)) (hf : mX3_addUp i_home i_noise i_blowCount i_judgeCount f_blows f_forward f_judges f_leads f_seenBy f_sums = some o) :
    MC l yX3_addUp wsX3_addUp rmX3_addUp X [.ref a_this] [(a_this, .inr (3, [.int i_rounds, .int i_home, .int i_noise, .int i_blowCount, .int i_judgeCount, .ref a_blows, .ref a_judges, .ref a_forward, .ref a_downs, .ref a_taken, .ref a_seenBy, .ref a_sums, .ref a_leads])), (a_blows, .inl (X.2.1 0, 200, .inl f_blows)), (a_forward, .inl (X.2.1 0, 24, .inl f_forward)), (a_judges, .inl (X.2.1 0, 56, .inl f_judges)), (a_leads, .inl (X.2.1 0, 96, .inl f_leads)), (a_seenBy, .inl (X.2.1 0, 40, .inl f_seenBy)), (a_sums, .inl (X.2.1 0, 192, .inl f_sums))]  (fun _ => [(a_this, .inr (3, [.int i_rounds, .int i_home, .int i_noise, .int i_blowCount, .int i_judgeCount, .ref a_blows, .ref a_judges, .ref a_forward, .ref a_downs, .ref a_taken, .ref a_seenBy, .ref a_sums, .ref a_leads])), (a_blows, .inl (X.2.1 0, 200, .inl f_blows)), (a_forward, .inl (X.2.1 0, 24, .inl f_forward)), (a_judges, .inl (X.2.1 0, 56, .inl f_judges)), (a_leads, .inl (X.2.1 0, 96, .inl o.2.2)), (a_seenBy, .inl (X.2.1 0, 40, .inl o.1)), (a_sums, .inl (X.2.1 0, 192, .inl o.2.1))]) 0 0 := by
  refine MC_ofH (cc := cX3_addUp) (maxL := 4) (by decide) rfl (Nat.le_of_ble_eq_true rfl) ?_
  intro p e s m below meth c A Q H ls hx hb hml hts hown hin hA hD hG hP hS hl ret
  have hown : s.vm.findClass RX3 = some m.cls := hown
  have hD : aD A [a_this, a_blows, a_forward, a_judges, a_leads, a_seenBy, a_sums] := hD
  have hl : lv_has ls 4 [(0, .ref a_this)] := hl
  have w1 := hts (Cond.fieldLink RX3 25 "ThreeCards$Fight" "seenBy" "[I") (List.mem_of_getElem? (i := 1) rfl)
  have w2 := hts (Cond.fieldLink RX3 47 "ThreeCards$Fight" "judgeCount" "I") (List.mem_of_getElem? (i := 2) rfl)
  have w3 := hts (Cond.fieldLink RX3 28 "ThreeCards$Fight" "sums" "[I") (List.mem_of_getElem? (i := 3) rfl)
  have w4 := hts (Cond.fieldLink RX3 16 "ThreeCards$Fight" "forward" "[I") (List.mem_of_getElem? (i := 4) rfl)
  have w5 := hts (Cond.fieldLink RX3 44 "ThreeCards$Fight" "blowCount" "I") (List.mem_of_getElem? (i := 5) rfl)
  have w6 := hts (Cond.fieldLink RX3 31 "ThreeCards$Fight" "leads" "[I") (List.mem_of_getElem? (i := 6) rfl)
  have in3 : ∀ w ∈ u_ws RX3 TX3 13, w ∈ wsX3_addUp := by decide +kernel
  have hL82 : ∀ (k10 : Int32 → (Nat → Int32) → (Nat → Int32) → (Nat → Int32) → Option ((Nat → Int32) × (Nat → Int32) × (Nat → Int32))) (hk10 : ∀ (l1 : Int32) (f_seenBy : Nat → Int32) (f_sums : Nat → Int32) (f_leads : Nat → Int32)  (H : Heap) (locs : List Loc) (ls : Array Slot), va_P X.1 vwCl [(a_this, .inr (3, [.int i_rounds, .int i_home, .int i_noise, .int i_blowCount, .int i_judgeCount, .ref a_blows, .ref a_judges, .ref a_forward, .ref a_downs, .ref a_taken, .ref a_seenBy, .ref a_sums, .ref a_leads])), (a_blows, .inl (X.2.1 0, 200, .inl f_blows)), (a_forward, .inl (X.2.1 0, 24, .inl f_forward)), (a_judges, .inl (X.2.1 0, 56, .inl f_judges)), (a_leads, .inl (X.2.1 0, 96, .inl f_leads)), (a_seenBy, .inl (X.2.1 0, 40, .inl f_seenBy)), (a_sums, .inl (X.2.1 0, 192, .inl f_sums))] H → va_S A s.heap H locs → lv_has ls 4 [(0, .ref a_this), (1, .int l1)] → k10 l1 f_seenBy f_sums f_leads = some o → W p l e rmX3_addUp s m ([.ref a_this] : List Value).toArray below meth c H locs 0 0 Q (F0 m 10 ls [])) (n : Nat) (l1 : Int32) (l2 : Int32) (f_seenBy : Nat → Int32) (f_sums : Nat → Int32) (f_leads : Nat → Int32)  (H : Heap) (locs : List Loc) (ls : Array Slot), va_P X.1 vwCl [(a_this, .inr (3, [.int i_rounds, .int i_home, .int i_noise, .int i_blowCount, .int i_judgeCount, .ref a_blows, .ref a_judges, .ref a_forward, .ref a_downs, .ref a_taken, .ref a_seenBy, .ref a_sums, .ref a_leads])), (a_blows, .inl (X.2.1 0, 200, .inl f_blows)), (a_forward, .inl (X.2.1 0, 24, .inl f_forward)), (a_judges, .inl (X.2.1 0, 56, .inl f_judges)), (a_leads, .inl (X.2.1 0, 96, .inl f_leads)), (a_seenBy, .inl (X.2.1 0, 40, .inl f_seenBy)), (a_sums, .inl (X.2.1 0, 192, .inl f_sums))] H → va_S A s.heap H locs → lv_has ls 4 [(0, .ref a_this), (1, .int l1), (2, .int l2)] → mX3_addUp_L82 i_home i_noise i_blowCount i_judgeCount f_blows f_forward f_judges k10 n l1 l2 f_seenBy f_sums f_leads = some o → W p l e rmX3_addUp s m ([.ref a_this] : List Value).toArray below meth c H locs 0 0 Q (F0 m 82 ls []) := by
    intro k10 hk10 n
    induction n with
    | zero => intro l1 l2 f_seenBy f_sums f_leads  H locs ls hP hS hl hf; exact xn hf
    | succ n ih =>
      intro l1 l2 f_seenBy f_sums f_leads  H locs ls hP hS hl hf
      have hf : mX3_addUp_B82 i_home i_noise i_blowCount i_judgeCount f_blows f_forward f_judges k10 (mX3_addUp_L82 i_home i_noise i_blowCount i_judgeCount f_blows f_forward f_judges k10 n) l1 l2 f_seenBy f_sums f_leads = some o := hf
      generalize mX3_addUp_L82 i_home i_noise i_blowCount i_judgeCount f_blows f_forward f_judges k10 n = k82 at ih hf
      unfold mX3_addUp_B82 at hf
      refine lv_iload_n hx hb dX3_addUp_82 rfl (lv_at hl 2 rfl) ?_
      refine lv_bipush (v := (12 : Int32)) hx hb dX3_addUp_83 (by decide) ?_
      refine lv_icmp_ge (tgt := 132) hx hb dX3_addUp_85 (by decide) (fun c_15 => ?_) (fun c_15 => ?_)
      · have hf := xt hf c_15
        obtain ⟨v_16, ev_16, hf⟩ := lb_g hf
        refine lv_iinc (v := v_16) (lv' := [(1, .int v_16), (0, .ref a_this), (2, .int l2)]) hx hb dX3_addUp_132 hl (k := 1) rfl ev_16.symm (by decide) rfl (fun ls hl => ?_)
        refine lv_goto (tgt := 10) hx hb dX3_addUp_135 (by decide) ?_
        exact hk10 v_16 f_seenBy f_sums f_leads  H _ ls hP  hS (lv_sub hl [1, 0] rfl) hf
      · have hf := xf hf c_15
        refine lv_aload_n hx hb dX3_addUp_88 rfl (lv_at hl 0 rfl) ?_
        refine lv_iload_n hx hb dX3_addUp_89 rfl (lv_at hl 1 rfl) ?_
        refine lv_iload_n hx hb dX3_addUp_90 rfl (lv_at hl 2 rfl) ?_
        refine lv_iconst (v := (0 : Int32)) hx hb dX3_addUp_91 (by decide) ?_
        obtain ⟨o_17, ho_17, hf⟩ := ob_s hf
        refine xV_i (As := [.int l1, .int l2, .int (0 : Int32)]) (b := a_this) (rest := []) (ws2 := [(a_this, .inr (3, [.int i_rounds, .int i_home, .int i_noise, .int i_blowCount, .int i_judgeCount, .ref a_blows, .ref a_judges, .ref a_forward, .ref a_downs, .ref a_taken, .ref a_seenBy, .ref a_sums, .ref a_leads])), (a_blows, .inl (X.2.1 0, 200, .inl f_blows)), (a_forward, .inl (X.2.1 0, 24, .inl f_forward)), (a_judges, .inl (X.2.1 0, 56, .inl f_judges)), (a_leads, .inl (X.2.1 0, 96, .inl f_leads)), (a_seenBy, .inl (X.2.1 0, 40, .inl f_seenBy)), (a_sums, .inl (X.2.1 0, 192, .inl f_sums))]) hx hb hml hts hown hG hA hP hD rfl hS hl.1 (qX3_sumOf l X a_this a_sums a_blows a_judges a_forward a_downs a_taken a_seenBy a_leads i_rounds i_home i_noise i_blowCount i_judgeCount f_sums l1 l2 (0 : Int32) o_17 ho_17) (cwV (y := yX3_sumOf) 3 hts gX3_addUp_X3_sumOf rfl rfl rfl hdvX3_sumOf ⟨Nat.le_of_ble_eq_true rfl, Nat.le_of_ble_eq_true rfl⟩) [0, 6] [1, 2, 3, 4, 5] [5, 0, 1, 2, 3, 4, 6] rfl rfl rfl rfl rfl rfl rfl (ci := 3) rfl 0 rfl rfl rfl (Nat.le_of_ble_eq_true rfl) ⟨Nat.le_of_ble_eq_true rfl, Nat.le_of_ble_eq_true rfl⟩ dX3_addUp_92 (fun H locs hP _ hS => ?_)
        refine lv_aload_n hx hb dX3_addUp_95 rfl (lv_at hl 0 rfl) ?_
        refine lv_iload_n hx hb dX3_addUp_96 rfl (lv_at hl 1 rfl) ?_
        refine lv_iload_n hx hb dX3_addUp_97 rfl (lv_at hl 2 rfl) ?_
        refine lv_iconst (v := (1 : Int32)) hx hb dX3_addUp_98 (by decide) ?_
        obtain ⟨o_19, ho_19, hf⟩ := ob_s hf
        refine xV_i (As := [.int l1, .int l2, .int (1 : Int32)]) (b := a_this) (rest := [.int o_17]) (ws2 := [(a_this, .inr (3, [.int i_rounds, .int i_home, .int i_noise, .int i_blowCount, .int i_judgeCount, .ref a_blows, .ref a_judges, .ref a_forward, .ref a_downs, .ref a_taken, .ref a_seenBy, .ref a_sums, .ref a_leads])), (a_blows, .inl (X.2.1 0, 200, .inl f_blows)), (a_forward, .inl (X.2.1 0, 24, .inl f_forward)), (a_judges, .inl (X.2.1 0, 56, .inl f_judges)), (a_leads, .inl (X.2.1 0, 96, .inl f_leads)), (a_seenBy, .inl (X.2.1 0, 40, .inl f_seenBy)), (a_sums, .inl (X.2.1 0, 192, .inl f_sums))]) hx hb hml hts hown hG hA hP hD rfl hS hl.1 (qX3_sumOf l X a_this a_sums a_blows a_judges a_forward a_downs a_taken a_seenBy a_leads i_rounds i_home i_noise i_blowCount i_judgeCount f_sums l1 l2 (1 : Int32) o_19 ho_19) (cwV (y := yX3_sumOf) 3 hts gX3_addUp_X3_sumOf rfl rfl rfl hdvX3_sumOf ⟨Nat.le_of_ble_eq_true rfl, Nat.le_of_ble_eq_true rfl⟩) [0, 6] [1, 2, 3, 4, 5] [5, 0, 1, 2, 3, 4, 6] rfl rfl rfl rfl rfl rfl rfl (ci := 3) rfl 0 rfl rfl rfl (Nat.le_of_ble_eq_true rfl) ⟨Nat.le_of_ble_eq_true rfl, Nat.le_of_ble_eq_true rfl⟩ dX3_addUp_99 (fun H locs hP _ hS => ?_)
        refine lv_isub hx hb dX3_addUp_102 ?_
        refine lv_topi (fun v_21 ev_21 => ?_)
        have hf := lb_s hf ev_21
        refine lv_istore_n (lv' := [(3, .int v_21), (0, .ref a_this), (1, .int l1), (2, .int l2)]) hx hb dX3_addUp_103 rfl hl (by decide) rfl (fun ls hl => ?_)
        refine lv_aload_n hx hb dX3_addUp_104 rfl (lv_at hl 1 rfl) ?_
        refine va_get (D := X.1) (ci := 3) (v := .ref a_leads) (C := RX3) (T := TX3) (N := 13) hx hb hts in3 hown hG.1 hP 0 rfl rfl 12 (by decide) w6 (fun _ h9 => h9) rfl dX3_addUp_105 ?_
        refine lv_iload_n hx hb dX3_addUp_108 rfl (lv_at hl 2 rfl) ?_
        refine lv_bipush (v := (12 : Int32)) hx hb dX3_addUp_109 (by decide) ?_
        refine lv_imul hx hb dX3_addUp_111 ?_
        refine lv_iload_n hx hb dX3_addUp_112 rfl (lv_at hl 3 rfl) ?_
        refine lv_iadd hx hb dX3_addUp_113 ?_
        refine lv_iload_n hx hb dX3_addUp_114 rfl (lv_at hl 0 rfl) ?_
        refine lv_aload_n hx hb dX3_addUp_115 rfl (lv_at hl 1 rfl) ?_
        refine lv_iload_n hx hb dX3_addUp_116 rfl (lv_at hl 2 rfl) ?_
        refine lv_iconst (v := (3 : Int32)) hx hb dX3_addUp_117 (by decide) ?_
        obtain ⟨o_22, ho_22, hf⟩ := ob_s hf
        refine xV_i (As := [.int l1, .int (3 : Int32)]) (b := a_this) (rest := [.int v_21, .int ((l1 * (12 : Int32)) + l2), .ref a_leads]) (ws2 := [(a_this, .inr (3, [.int i_rounds, .int i_home, .int i_noise, .int i_blowCount, .int i_judgeCount, .ref a_blows, .ref a_judges, .ref a_forward, .ref a_downs, .ref a_taken, .ref a_seenBy, .ref a_sums, .ref a_leads])), (a_blows, .inl (X.2.1 0, 200, .inl f_blows)), (a_forward, .inl (X.2.1 0, 24, .inl f_forward)), (a_judges, .inl (X.2.1 0, 56, .inl f_judges)), (a_leads, .inl (X.2.1 0, 96, .inl f_leads)), (a_seenBy, .inl (X.2.1 0, 40, .inl f_seenBy)), (a_sums, .inl (X.2.1 0, 192, .inl f_sums))]) hx hb hml hts hown hG hA hP hD rfl hS hl.1 (qX3_judgePart l X a_this a_judges a_blows a_forward a_downs a_taken a_seenBy a_sums a_leads i_rounds i_home i_noise i_blowCount i_judgeCount f_judges l1 (3 : Int32) o_22 ho_22) (cwV (y := yX3_judgePart) 2 hts gX3_addUp_X3_judgePart rfl rfl rfl hdvX3_judgePart ⟨Nat.le_of_ble_eq_true rfl, Nat.le_of_ble_eq_true rfl⟩) [0, 3] [1, 2, 4, 5, 6] [5, 0, 1, 6, 2, 3, 4] rfl rfl rfl rfl rfl rfl rfl (ci := 3) rfl 0 rfl rfl rfl (Nat.le_of_ble_eq_true rfl) ⟨Nat.le_of_ble_eq_true rfl, Nat.le_of_ble_eq_true rfl⟩ dX3_addUp_118 (fun H locs hP _ hS => ?_)
        refine lv_iadd hx hb dX3_addUp_121 ?_
        refine lv_bipush (v := (20 : Int32)) hx hb dX3_addUp_122 (by decide) ?_
        refine lv_isub hx hb dX3_addUp_124 ?_
        obtain ⟨h_24, hf⟩ := gi_s hf
        obtain ⟨g_25, eg_25, hf⟩ := lb_g hf
        refine x_iast (ws' := [(a_this, .inr (3, [.int i_rounds, .int i_home, .int i_noise, .int i_blowCount, .int i_judgeCount, .ref a_blows, .ref a_judges, .ref a_forward, .ref a_downs, .ref a_taken, .ref a_seenBy, .ref a_sums, .ref a_leads])), (a_blows, .inl (X.2.1 0, 200, .inl f_blows)), (a_forward, .inl (X.2.1 0, 24, .inl f_forward)), (a_judges, .inl (X.2.1 0, 56, .inl f_judges)), (a_leads, .inl (X.2.1 0, 96, .inl g_25)), (a_seenBy, .inl (X.2.1 0, 40, .inl f_seenBy)), (a_sums, .inl (X.2.1 0, 192, .inl f_sums))]) hx hb hG hP hD rfl hS 4 rfl h_24 dX3_addUp_125 eg_25 rfl (fun H locs hP hS => ?_)
        obtain ⟨v_26, ev_26, hf⟩ := lb_g hf
        refine lv_iinc (v := v_26) (lv' := [(2, .int v_26), (3, .int v_21), (0, .ref a_this), (1, .int l1)]) hx hb dX3_addUp_126 hl (k := 3) rfl ev_26.symm (by decide) rfl (fun ls hl => ?_)
        refine lv_goto (tgt := 82) hx hb dX3_addUp_129 (by decide) ?_
        exact ih l1 v_26 f_seenBy f_sums g_25  H _ ls hP  hS (lv_sub hl [2, 3, 0] rfl) hf
  have hL60 : ∀ (k10 : Int32 → (Nat → Int32) → (Nat → Int32) → (Nat → Int32) → Option ((Nat → Int32) × (Nat → Int32) × (Nat → Int32))) (hk10 : ∀ (l1 : Int32) (f_seenBy : Nat → Int32) (f_sums : Nat → Int32) (f_leads : Nat → Int32)  (H : Heap) (locs : List Loc) (ls : Array Slot), va_P X.1 vwCl [(a_this, .inr (3, [.int i_rounds, .int i_home, .int i_noise, .int i_blowCount, .int i_judgeCount, .ref a_blows, .ref a_judges, .ref a_forward, .ref a_downs, .ref a_taken, .ref a_seenBy, .ref a_sums, .ref a_leads])), (a_blows, .inl (X.2.1 0, 200, .inl f_blows)), (a_forward, .inl (X.2.1 0, 24, .inl f_forward)), (a_judges, .inl (X.2.1 0, 56, .inl f_judges)), (a_leads, .inl (X.2.1 0, 96, .inl f_leads)), (a_seenBy, .inl (X.2.1 0, 40, .inl f_seenBy)), (a_sums, .inl (X.2.1 0, 192, .inl f_sums))] H → va_S A s.heap H locs → lv_has ls 4 [(0, .ref a_this), (1, .int l1)] → k10 l1 f_seenBy f_sums f_leads = some o → W p l e rmX3_addUp s m ([.ref a_this] : List Value).toArray below meth c H locs 0 0 Q (F0 m 10 ls [])) (n : Nat) (l1 : Int32) (l2 : Int32) (f_seenBy : Nat → Int32) (f_sums : Nat → Int32) (f_leads : Nat → Int32)  (H : Heap) (locs : List Loc) (ls : Array Slot), va_P X.1 vwCl [(a_this, .inr (3, [.int i_rounds, .int i_home, .int i_noise, .int i_blowCount, .int i_judgeCount, .ref a_blows, .ref a_judges, .ref a_forward, .ref a_downs, .ref a_taken, .ref a_seenBy, .ref a_sums, .ref a_leads])), (a_blows, .inl (X.2.1 0, 200, .inl f_blows)), (a_forward, .inl (X.2.1 0, 24, .inl f_forward)), (a_judges, .inl (X.2.1 0, 56, .inl f_judges)), (a_leads, .inl (X.2.1 0, 96, .inl f_leads)), (a_seenBy, .inl (X.2.1 0, 40, .inl f_seenBy)), (a_sums, .inl (X.2.1 0, 192, .inl f_sums))] H → va_S A s.heap H locs → lv_has ls 4 [(0, .ref a_this), (1, .int l1), (2, .int l2)] → mX3_addUp_L60 i_home i_noise i_blowCount i_judgeCount f_blows f_forward f_judges k10 n l1 l2 f_seenBy f_sums f_leads = some o → W p l e rmX3_addUp s m ([.ref a_this] : List Value).toArray below meth c H locs 0 0 Q (F0 m 60 ls []) := by
    intro k10 hk10 n
    induction n with
    | zero => intro l1 l2 f_seenBy f_sums f_leads  H locs ls hP hS hl hf; exact xn hf
    | succ n ih =>
      intro l1 l2 f_seenBy f_sums f_leads  H locs ls hP hS hl hf
      have hf : mX3_addUp_B60 i_home i_noise i_blowCount i_judgeCount f_blows f_forward f_judges k10 (mX3_addUp_L60 i_home i_noise i_blowCount i_judgeCount f_blows f_forward f_judges k10 n) l1 l2 f_seenBy f_sums f_leads = some o := hf
      generalize mX3_addUp_L60 i_home i_noise i_blowCount i_judgeCount f_blows f_forward f_judges k10 n = k60 at ih hf
      unfold mX3_addUp_B60 at hf
      refine lv_iload_n hx hb dX3_addUp_60 rfl (lv_at hl 2 rfl) ?_
      refine lv_aload_n hx hb dX3_addUp_61 rfl (lv_at hl 0 rfl) ?_
      refine va_get (D := X.1) (ci := 3) (v := .int i_blowCount) (C := RX3) (T := TX3) (N := 13) hx hb hts in3 hown hG.1 hP 0 rfl rfl 3 (by decide) w5 (fun _ h9 => h9) rfl dX3_addUp_62 ?_
      refine lv_icmp_ge (tgt := 80) hx hb dX3_addUp_65 (by decide) (fun c_11 => ?_) (fun c_11 => ?_)
      · have hf := xt hf c_11
        refine lv_iconst (v := (0 : Int32)) hx hb dX3_addUp_80 (by decide) ?_
        refine lv_istore_n (lv' := [(2, .int (0 : Int32)), (0, .ref a_this), (1, .int l1)]) hx hb dX3_addUp_81 rfl hl (by decide) rfl (fun ls hl => ?_)
        exact hL82 k10 hk10 FUEL l1 (0 : Int32) f_seenBy f_sums f_leads  H _ ls hP  hS (lv_sub hl [1, 2, 0] rfl) hf
      · have hf := xf hf c_11
        refine lv_aload_n hx hb dX3_addUp_68 rfl (lv_at hl 0 rfl) ?_
        refine lv_iload_n hx hb dX3_addUp_69 rfl (lv_at hl 1 rfl) ?_
        refine lv_iload_n hx hb dX3_addUp_70 rfl (lv_at hl 2 rfl) ?_
        obtain ⟨o_12, ho_12, hf⟩ := ob_s hf
        refine xV_v (As := [.int l1, .int l2]) (b := a_this) (rest := []) (ws2 := fun _ => [(a_this, .inr (3, [.int i_rounds, .int i_home, .int i_noise, .int i_blowCount, .int i_judgeCount, .ref a_blows, .ref a_judges, .ref a_forward, .ref a_downs, .ref a_taken, .ref a_seenBy, .ref a_sums, .ref a_leads])), (a_blows, .inl (X.2.1 0, 200, .inl f_blows)), (a_forward, .inl (X.2.1 0, 24, .inl f_forward)), (a_judges, .inl (X.2.1 0, 56, .inl f_judges)), (a_leads, .inl (X.2.1 0, 96, .inl f_leads)), (a_seenBy, .inl (X.2.1 0, 40, .inl o_12.1)), (a_sums, .inl (X.2.1 0, 192, .inl o_12.2))]) hx hb hml hts hown hG hA hP hD rfl hS hl.1 (qX3_addUpBlow l X a_this a_blows a_judges a_seenBy a_sums a_forward a_downs a_taken a_leads i_rounds i_home i_noise i_blowCount i_judgeCount f_blows f_judges f_seenBy f_sums l1 l2 o_12 ho_12) (cwV (y := yX3_addUpBlow) 2 hts gX3_addUp_X3_addUpBlow rfl rfl rfl hdvX3_addUpBlow ⟨Nat.le_of_ble_eq_true rfl, Nat.le_of_ble_eq_true rfl⟩) [0, 1, 3, 5, 6] [2, 4] [2, 3, 0, 4, 1, 5, 6] rfl rfl rfl rfl rfl rfl (fun _ => rfl) (ci := 3) rfl 0 rfl rfl rfl (Nat.le_of_ble_eq_true rfl) ⟨Nat.le_of_ble_eq_true rfl, Nat.le_of_ble_eq_true rfl⟩ dX3_addUp_71 (fun u_13 H locs hP _ hS => ?_)
        obtain ⟨v_14, ev_14, hf⟩ := lb_g hf
        refine lv_iinc (v := v_14) (lv' := [(2, .int v_14), (0, .ref a_this), (1, .int l1)]) hx hb dX3_addUp_74 hl (k := 2) rfl ev_14.symm (by decide) rfl (fun ls hl => ?_)
        refine lv_goto (tgt := 60) hx hb dX3_addUp_77 (by decide) ?_
        exact ih l1 v_14 o_12.1 o_12.2 f_leads  H _ ls hP  hS (lv_sub hl [1, 2, 0] rfl) hf
  have hL20 : ∀ (k10 : Int32 → (Nat → Int32) → (Nat → Int32) → (Nat → Int32) → Option ((Nat → Int32) × (Nat → Int32) × (Nat → Int32))) (hk10 : ∀ (l1 : Int32) (f_seenBy : Nat → Int32) (f_sums : Nat → Int32) (f_leads : Nat → Int32)  (H : Heap) (locs : List Loc) (ls : Array Slot), va_P X.1 vwCl [(a_this, .inr (3, [.int i_rounds, .int i_home, .int i_noise, .int i_blowCount, .int i_judgeCount, .ref a_blows, .ref a_judges, .ref a_forward, .ref a_downs, .ref a_taken, .ref a_seenBy, .ref a_sums, .ref a_leads])), (a_blows, .inl (X.2.1 0, 200, .inl f_blows)), (a_forward, .inl (X.2.1 0, 24, .inl f_forward)), (a_judges, .inl (X.2.1 0, 56, .inl f_judges)), (a_leads, .inl (X.2.1 0, 96, .inl f_leads)), (a_seenBy, .inl (X.2.1 0, 40, .inl f_seenBy)), (a_sums, .inl (X.2.1 0, 192, .inl f_sums))] H → va_S A s.heap H locs → lv_has ls 4 [(0, .ref a_this), (1, .int l1)] → k10 l1 f_seenBy f_sums f_leads = some o → W p l e rmX3_addUp s m ([.ref a_this] : List Value).toArray below meth c H locs 0 0 Q (F0 m 10 ls [])) (n : Nat) (l1 : Int32) (l2 : Int32) (f_seenBy : Nat → Int32) (f_sums : Nat → Int32) (f_leads : Nat → Int32)  (H : Heap) (locs : List Loc) (ls : Array Slot), va_P X.1 vwCl [(a_this, .inr (3, [.int i_rounds, .int i_home, .int i_noise, .int i_blowCount, .int i_judgeCount, .ref a_blows, .ref a_judges, .ref a_forward, .ref a_downs, .ref a_taken, .ref a_seenBy, .ref a_sums, .ref a_leads])), (a_blows, .inl (X.2.1 0, 200, .inl f_blows)), (a_forward, .inl (X.2.1 0, 24, .inl f_forward)), (a_judges, .inl (X.2.1 0, 56, .inl f_judges)), (a_leads, .inl (X.2.1 0, 96, .inl f_leads)), (a_seenBy, .inl (X.2.1 0, 40, .inl f_seenBy)), (a_sums, .inl (X.2.1 0, 192, .inl f_sums))] H → va_S A s.heap H locs → lv_has ls 4 [(0, .ref a_this), (1, .int l1), (2, .int l2)] → mX3_addUp_L20 i_home i_noise i_blowCount i_judgeCount f_blows f_forward f_judges k10 n l1 l2 f_seenBy f_sums f_leads = some o → W p l e rmX3_addUp s m ([.ref a_this] : List Value).toArray below meth c H locs 0 0 Q (F0 m 20 ls []) := by
    intro k10 hk10 n
    induction n with
    | zero => intro l1 l2 f_seenBy f_sums f_leads  H locs ls hP hS hl hf; exact xn hf
    | succ n ih =>
      intro l1 l2 f_seenBy f_sums f_leads  H locs ls hP hS hl hf
      have hf : mX3_addUp_B20 i_home i_noise i_blowCount i_judgeCount f_blows f_forward f_judges k10 (mX3_addUp_L20 i_home i_noise i_blowCount i_judgeCount f_blows f_forward f_judges k10 n) l1 l2 f_seenBy f_sums f_leads = some o := hf
      generalize mX3_addUp_L20 i_home i_noise i_blowCount i_judgeCount f_blows f_forward f_judges k10 n = k20 at ih hf
      unfold mX3_addUp_B20 at hf
      refine lv_iload_n hx hb dX3_addUp_20 rfl (lv_at hl 2 rfl) ?_
      refine lv_bipush (v := (24 : Int32)) hx hb dX3_addUp_21 (by decide) ?_
      refine lv_icmp_ge (tgt := 58) hx hb dX3_addUp_23 (by decide) (fun c_4 => ?_) (fun c_4 => ?_)
      · have hf := xt hf c_4
        refine lv_iconst (v := (0 : Int32)) hx hb dX3_addUp_58 (by decide) ?_
        refine lv_istore_n (lv' := [(2, .int (0 : Int32)), (0, .ref a_this), (1, .int l1)]) hx hb dX3_addUp_59 rfl hl (by decide) rfl (fun ls hl => ?_)
        exact hL60 k10 hk10 FUEL l1 (0 : Int32) f_seenBy f_sums f_leads  H _ ls hP  hS (lv_sub hl [1, 2, 0] rfl) hf
      · have hf := xf hf c_4
        refine lv_aload_n hx hb dX3_addUp_26 rfl (lv_at hl 0 rfl) ?_
        refine va_get (D := X.1) (ci := 3) (v := .ref a_sums) (C := RX3) (T := TX3) (N := 13) hx hb hts in3 hown hG.1 hP 0 rfl rfl 11 (by decide) w3 (fun _ h9 => h9) rfl dX3_addUp_27 ?_
        refine lv_iload_n hx hb dX3_addUp_30 rfl (lv_at hl 1 rfl) ?_
        refine lv_bipush (v := (12 : Int32)) hx hb dX3_addUp_31 (by decide) ?_
        refine lv_imul hx hb dX3_addUp_33 ?_
        refine lv_iconst (v := (2 : Int32)) hx hb dX3_addUp_34 (by decide) ?_
        refine lv_imul hx hb dX3_addUp_35 ?_
        refine lv_iload_n hx hb dX3_addUp_36 rfl (lv_at hl 2 rfl) ?_
        refine lv_iadd hx hb dX3_addUp_37 ?_
        refine lv_aload_n hx hb dX3_addUp_38 rfl (lv_at hl 0 rfl) ?_
        refine lv_iload_n hx hb dX3_addUp_39 rfl (lv_at hl 1 rfl) ?_
        refine lv_iconst (v := (2 : Int32)) hx hb dX3_addUp_40 (by decide) ?_
        obtain ⟨o_5, ho_5, hf⟩ := ob_s hf
        refine xV_i (As := [.int l1, .int (2 : Int32)]) (b := a_this) (rest := [.int (((l1 * (12 : Int32)) * (2 : Int32)) + l2), .ref a_sums]) (ws2 := [(a_this, .inr (3, [.int i_rounds, .int i_home, .int i_noise, .int i_blowCount, .int i_judgeCount, .ref a_blows, .ref a_judges, .ref a_forward, .ref a_downs, .ref a_taken, .ref a_seenBy, .ref a_sums, .ref a_leads])), (a_blows, .inl (X.2.1 0, 200, .inl f_blows)), (a_forward, .inl (X.2.1 0, 24, .inl f_forward)), (a_judges, .inl (X.2.1 0, 56, .inl f_judges)), (a_leads, .inl (X.2.1 0, 96, .inl f_leads)), (a_seenBy, .inl (X.2.1 0, 40, .inl f_seenBy)), (a_sums, .inl (X.2.1 0, 192, .inl f_sums))]) hx hb hml hts hown hG hA hP hD rfl hS hl.1 (qX3_judgePart l X a_this a_judges a_blows a_forward a_downs a_taken a_seenBy a_sums a_leads i_rounds i_home i_noise i_blowCount i_judgeCount f_judges l1 (2 : Int32) o_5 ho_5) (cwV (y := yX3_judgePart) 2 hts gX3_addUp_X3_judgePart rfl rfl rfl hdvX3_judgePart ⟨Nat.le_of_ble_eq_true rfl, Nat.le_of_ble_eq_true rfl⟩) [0, 3] [1, 2, 4, 5, 6] [5, 0, 1, 6, 2, 3, 4] rfl rfl rfl rfl rfl rfl rfl (ci := 3) rfl 0 rfl rfl rfl (Nat.le_of_ble_eq_true rfl) ⟨Nat.le_of_ble_eq_true rfl, Nat.le_of_ble_eq_true rfl⟩ dX3_addUp_41 (fun H locs hP _ hS => ?_)
        refine lv_aload_n hx hb dX3_addUp_44 rfl (lv_at hl 0 rfl) ?_
        refine va_get (D := X.1) (ci := 3) (v := .ref a_forward) (C := RX3) (T := TX3) (N := 13) hx hb hts in3 hown hG.1 hP 0 rfl rfl 7 (by decide) w4 (fun _ h9 => h9) rfl dX3_addUp_45 ?_
        refine lv_iload_n hx hb dX3_addUp_48 rfl (lv_at hl 2 rfl) ?_
        obtain ⟨h_7, hf⟩ := gi_s hf
        refine va_iald (D := X.1) hx hb hG.1 hP 2 0 rfl rfl h_7 dX3_addUp_49 ?_
        refine lv_imul hx hb dX3_addUp_50 ?_
        obtain ⟨h_8, hf⟩ := gi_s hf
        obtain ⟨g_9, eg_9, hf⟩ := lb_g hf
        refine x_iast (ws' := [(a_this, .inr (3, [.int i_rounds, .int i_home, .int i_noise, .int i_blowCount, .int i_judgeCount, .ref a_blows, .ref a_judges, .ref a_forward, .ref a_downs, .ref a_taken, .ref a_seenBy, .ref a_sums, .ref a_leads])), (a_blows, .inl (X.2.1 0, 200, .inl f_blows)), (a_forward, .inl (X.2.1 0, 24, .inl f_forward)), (a_judges, .inl (X.2.1 0, 56, .inl f_judges)), (a_leads, .inl (X.2.1 0, 96, .inl f_leads)), (a_seenBy, .inl (X.2.1 0, 40, .inl f_seenBy)), (a_sums, .inl (X.2.1 0, 192, .inl g_9))]) hx hb hG hP hD rfl hS 6 rfl h_8 dX3_addUp_51 eg_9 rfl (fun H locs hP hS => ?_)
        obtain ⟨v_10, ev_10, hf⟩ := lb_g hf
        refine lv_iinc (v := v_10) (lv' := [(2, .int v_10), (0, .ref a_this), (1, .int l1)]) hx hb dX3_addUp_52 hl (k := 2) rfl ev_10.symm (by decide) rfl (fun ls hl => ?_)
        refine lv_goto (tgt := 20) hx hb dX3_addUp_55 (by decide) ?_
        exact ih l1 v_10 f_seenBy g_9 f_leads  H _ ls hP  hS (lv_sub hl [1, 2, 0] rfl) hf
  have hL10 : ∀ (n : Nat) (l1 : Int32) (f_seenBy : Nat → Int32) (f_sums : Nat → Int32) (f_leads : Nat → Int32)  (H : Heap) (locs : List Loc) (ls : Array Slot), va_P X.1 vwCl [(a_this, .inr (3, [.int i_rounds, .int i_home, .int i_noise, .int i_blowCount, .int i_judgeCount, .ref a_blows, .ref a_judges, .ref a_forward, .ref a_downs, .ref a_taken, .ref a_seenBy, .ref a_sums, .ref a_leads])), (a_blows, .inl (X.2.1 0, 200, .inl f_blows)), (a_forward, .inl (X.2.1 0, 24, .inl f_forward)), (a_judges, .inl (X.2.1 0, 56, .inl f_judges)), (a_leads, .inl (X.2.1 0, 96, .inl f_leads)), (a_seenBy, .inl (X.2.1 0, 40, .inl f_seenBy)), (a_sums, .inl (X.2.1 0, 192, .inl f_sums))] H → va_S A s.heap H locs → lv_has ls 4 [(0, .ref a_this), (1, .int l1)] → mX3_addUp_L10 i_home i_noise i_blowCount i_judgeCount f_blows f_forward f_judges  n l1 f_seenBy f_sums f_leads = some o → W p l e rmX3_addUp s m ([.ref a_this] : List Value).toArray below meth c H locs 0 0 Q (F0 m 10 ls []) := by
    intro n
    induction n with
    | zero => intro l1 f_seenBy f_sums f_leads  H locs ls hP hS hl hf; exact xn hf
    | succ n ih =>
      intro l1 f_seenBy f_sums f_leads  H locs ls hP hS hl hf
      have hf : mX3_addUp_B10 i_home i_noise i_blowCount i_judgeCount f_blows f_forward f_judges  (mX3_addUp_L10 i_home i_noise i_blowCount i_judgeCount f_blows f_forward f_judges  n) l1 f_seenBy f_sums f_leads = some o := hf
      generalize mX3_addUp_L10 i_home i_noise i_blowCount i_judgeCount f_blows f_forward f_judges  n = k10 at ih hf
      unfold mX3_addUp_B10 at hf
      refine lv_iload_n hx hb dX3_addUp_10 rfl (lv_at hl 1 rfl) ?_
      refine lv_aload_n hx hb dX3_addUp_11 rfl (lv_at hl 0 rfl) ?_
      refine va_get (D := X.1) (ci := 3) (v := .int i_judgeCount) (C := RX3) (T := TX3) (N := 13) hx hb hts in3 hown hG.1 hP 0 rfl rfl 4 (by decide) w2 (fun _ h9 => h9) rfl dX3_addUp_12 ?_
      refine lv_icmp_ge (tgt := 138) hx hb dX3_addUp_15 (by decide) (fun c_3 => ?_) (fun c_3 => ?_)
      · have hf := xt hf c_3
        obtain rfl := Option.some.inj hf
        exact ret (fun _ => 0) H _ ls _ hP hD hS dX3_addUp_138
      · have hf := xf hf c_3
        refine lv_iconst (v := (0 : Int32)) hx hb dX3_addUp_18 (by decide) ?_
        refine lv_istore_n (lv' := [(2, .int (0 : Int32)), (0, .ref a_this), (1, .int l1)]) hx hb dX3_addUp_19 rfl hl (by decide) rfl (fun ls hl => ?_)
        exact hL20 k10 ih FUEL l1 (0 : Int32) f_seenBy f_sums f_leads  H _ ls hP  hS (lv_sub hl [1, 2, 0] rfl) hf
  unfold mX3_addUp at hf
  refine lv_aload_n hx hb dX3_addUp_0 rfl (lv_at hl 0 rfl) ?_
  refine va_get (D := X.1) (ci := 3) (v := .ref a_seenBy) (C := RX3) (T := TX3) (N := 13) hx hb hts in3 hown hG.1 hP 0 rfl rfl 10 (by decide) w1 (fun _ h9 => h9) rfl dX3_addUp_1 ?_
  refine lv_iconst (v := (0 : Int32)) hx hb dX3_addUp_4 (by decide) ?_
  obtain ⟨o_1, ho_1, hf⟩ := ob_s hf
  refine xS_v (As := [.ref a_seenBy, .int (0 : Int32)]) (rest := []) (ws2 := fun _ => [(a_this, .inr (3, [.int i_rounds, .int i_home, .int i_noise, .int i_blowCount, .int i_judgeCount, .ref a_blows, .ref a_judges, .ref a_forward, .ref a_downs, .ref a_taken, .ref a_seenBy, .ref a_sums, .ref a_leads])), (a_blows, .inl (X.2.1 0, 200, .inl f_blows)), (a_forward, .inl (X.2.1 0, 24, .inl f_forward)), (a_judges, .inl (X.2.1 0, 56, .inl f_judges)), (a_leads, .inl (X.2.1 0, 96, .inl f_leads)), (a_seenBy, .inl (X.2.1 0, 40, .inl o_1)), (a_sums, .inl (X.2.1 0, 192, .inl f_sums))]) hx hb hml hts hown hG hA hP hD rfl hS hl.1 (qJ7_fill_53178 l X a_seenBy 40 f_seenBy (0 : Int32) o_1 ho_1) (va_cwS (y := yJ7_fill_53178) 2 hts gX3_addUp_J7_fill_53178 rfl rfl rfl hdsJ7_fill_53178 ⟨Nat.le_of_ble_eq_true rfl, Nat.le_of_ble_eq_true rfl⟩) [5] [0, 1, 2, 3, 4, 6] [0, 1, 2, 3, 4, 6, 5] rfl rfl rfl rfl rfl rfl (fun _ => rfl) rfl rfl (Nat.le_of_ble_eq_true rfl) ⟨Nat.le_of_ble_eq_true rfl, Nat.le_of_ble_eq_true rfl⟩ dX3_addUp_5 (fun u_2 H locs hP _ hS => ?_)
  refine lv_iconst (v := (0 : Int32)) hx hb dX3_addUp_8 (by decide) ?_
  refine lv_istore_n (lv' := [(1, .int (0 : Int32)), (0, .ref a_this)]) hx hb dX3_addUp_9 rfl hl (by decide) rfl (fun ls hl => ?_)
  exact hL10  FUEL (0 : Int32) o_1 f_sums f_leads  H _ ls hP  hS (lv_sub hl [1, 0] rfl) hf
def mX3_addJudge_p0t3 (i_judgeCount : Int32) (f_judges : Nat → Int32) :
  Option (Int32 × (Nat → Int32) × Int32) :=
  if i_judgeCount < (8 : Int32) then (gcp (0 : Int32) (i_judgeCount * (7 : Int32)) (7 : Int32) 7 56 <|
  lb (va_cpy tab3 f_judges (0 : Int32).toNatClampNeg (i_judgeCount * (7 : Int32)).toNatClampNeg (7 : Int32).toNatClampNeg) fun g_3 =>
  lb (i_judgeCount + (1 : Int32)) fun v_4 =>
  some ((1 : Int32), g_3, v_4)) else (some ((0 : Int32), f_judges, i_judgeCount))
abbrev rmX3_addJudge_p0t3 : Room := { frames := 1, cells := 0, slots := 0, locals := 60 }
set_option maxHeartbeats 4000000 in
set_option maxRecDepth 100000 in
theorem qX3_addJudge_p0t3 (l : Launch) (X : XT) (a_this : Nat) (a_judges : Nat) (a_blows : Nat) (a_forward : Nat) (a_downs : Nat) (a_taken : Nat) (a_seenBy : Nat) (a_sums : Nat) (a_leads : Nat)  (i_rounds : Int32) (i_home : Int32) (i_noise : Int32) (i_blowCount : Int32) (i_judgeCount : Int32) (f_judges : Nat → Int32)  (o : Int32 × (Nat → Int32) × Int32) (hf : mX3_addJudge_p0t3 i_judgeCount f_judges = some o) :
    MI l yX3_addJudge wsX3_addJudge rmX3_addJudge_p0t3 X [.ref a_this, .ref (X.2.2 3)] [(a_this, .inr (3, [.int i_rounds, .int i_home, .int i_noise, .int i_blowCount, .int i_judgeCount, .ref a_blows, .ref a_judges, .ref a_forward, .ref a_downs, .ref a_taken, .ref a_seenBy, .ref a_sums, .ref a_leads])), (a_judges, .inl (X.2.1 0, 56, .inl f_judges))]  [(a_this, .inr (3, [.int i_rounds, .int i_home, .int i_noise, .int i_blowCount, .int o.2.2, .ref a_blows, .ref a_judges, .ref a_forward, .ref a_downs, .ref a_taken, .ref a_seenBy, .ref a_sums, .ref a_leads])), (a_judges, .inl (X.2.1 0, 56, .inl o.2.1))] o.1 := by
  refine MI_ofH (cc := cX3_addJudge) (maxL := 2) (rt := .boolean) (by decide) rfl (Nat.le_of_ble_eq_true rfl) ?_
  intro p e s m below meth c A Q H ls hx hb hml hts hown hA hD hG hP hS hl ret
  have hown : s.vm.findClass RX3 = some m.cls := hown
  have hD : aD A [a_this, a_judges] := hD
  have hl : lv_has ls 2 [(0, .ref a_this), (1, .ref (X.2.2 3))] := hl
  have w1 := hts (.fieldLink RX3 47 "ThreeCards$Fight" "judgeCount" "I") (List.mem_of_getElem? (i := 1) rfl)
  have w2 := hts (.fieldLink RX3 13 "ThreeCards$Fight" "judges" "[I") (List.mem_of_getElem? (i := 2) rfl)
  have w3 := hts (.methodLink RX3 76 arraycopyName) (List.mem_of_getElem? (i := 3) rfl)
  have w4 := hts (.native arraycopyName) (List.mem_of_getElem? (i := 4) rfl)
  have w5 := hts (.static arraycopyName) (List.mem_of_getElem? (i := 5) rfl)
  have w6 := hts (.initialized "java/lang/System") (List.mem_of_getElem? (i := 6) rfl)
  have in3 : ∀ w ∈ u_ws RX3 TX3 13, w ∈ wsX3_addJudge := by decide +kernel
  unfold mX3_addJudge_p0t3 at hf
  refine lv_aload_n hx hb dX3_addJudge_0 rfl (lv_at hl 0 rfl) ?_
  refine va_get (D := X.1) (ci := 3) (v := .int i_judgeCount) (C := RX3) (T := TX3) (N := 13) hx hb hts in3 hown hG.1 hP 0 rfl rfl 4 (by decide) w1 (fun _ h9 => h9) rfl dX3_addJudge_1 ?_
  refine lv_bipush (v := (8 : Int32)) hx hb dX3_addJudge_4 (by decide) ?_
  refine lv_icmp_lt (tgt := 11) hx hb dX3_addJudge_6 (by decide) (fun c_1 => ?_) (fun c_1 => ?_)
  · have hf := xt hf c_1
    refine lv_aload_n hx hb dX3_addJudge_11 rfl (lv_at hl 1 rfl) ?_
    refine lv_iconst (v := (0 : Int32)) hx hb dX3_addJudge_12 (by decide) ?_
    refine lv_aload_n hx hb dX3_addJudge_13 rfl (lv_at hl 0 rfl) ?_
    refine va_get (D := X.1) (ci := 3) (v := .ref a_judges) (C := RX3) (T := TX3) (N := 13) hx hb hts in3 hown hG.1 hP 0 rfl rfl 6 (by decide) w2 (fun _ h9 => h9) rfl dX3_addJudge_14 ?_
    refine lv_aload_n hx hb dX3_addJudge_17 rfl (lv_at hl 0 rfl) ?_
    refine va_get (D := X.1) (ci := 3) (v := .int i_judgeCount) (C := RX3) (T := TX3) (N := 13) hx hb hts in3 hown hG.1 hP 0 rfl rfl 4 (by decide) w1 (fun _ h9 => h9) rfl dX3_addJudge_18 ?_
    refine lv_bipush (v := (7 : Int32)) hx hb dX3_addJudge_21 (by decide) ?_
    refine lv_imul hx hb dX3_addJudge_23 ?_
    refine lv_bipush (v := (7 : Int32)) hx hb dX3_addJudge_24 (by decide) ?_
    obtain ⟨h_2, hf⟩ := gcp_s hf
    obtain ⟨g_3, eg_3, hf⟩ := lb_g hf
    refine x_copyt (ws' := [(a_this, .inr (3, [.int i_rounds, .int i_home, .int i_noise, .int i_blowCount, .int i_judgeCount, .ref a_blows, .ref a_judges, .ref a_forward, .ref a_downs, .ref a_taken, .ref a_seenBy, .ref a_sums, .ref a_leads])), (a_judges, .inl (X.2.1 0, 56, .inl g_3))]) hx hb hml hl.1 hown w3 w4 w5 w6 hG hP hD rfl hS hG.2.2.1.2.2.2.1.2 1 rfl h_2 (Nat.le_of_ble_eq_true rfl) (Nat.le_of_ble_eq_true rfl) dX3_addJudge_26 eg_3 rfl (fun H locs hP hS => ?_)
    refine lv_aload_n hx hb dX3_addJudge_29 rfl (lv_at hl 0 rfl) ?_
    refine lv_dup hx hb dX3_addJudge_30 rfl ?_
    refine va_get (D := X.1) (ci := 3) (v := .int i_judgeCount) (C := RX3) (T := TX3) (N := 13) hx hb hts in3 hown hG.1 hP 0 rfl rfl 4 (by decide) w1 (fun _ h9 => h9) rfl dX3_addJudge_31 ?_
    refine lv_iconst (v := (1 : Int32)) hx hb dX3_addJudge_34 (by decide) ?_
    refine lv_iadd hx hb dX3_addJudge_35 ?_
    refine lv_topi (fun v_4 ev_4 => ?_)
    have hf := lb_s hf ev_4
    refine x_put (ws' := [(a_this, .inr (3, [.int i_rounds, .int i_home, .int i_noise, .int i_blowCount, .int v_4, .ref a_blows, .ref a_judges, .ref a_forward, .ref a_downs, .ref a_taken, .ref a_seenBy, .ref a_sums, .ref a_leads])), (a_judges, .inl (X.2.1 0, 56, .inl g_3))]) (ty := .int) (C := RX3) (T := TX3) (N := 13) hx hb hts in3 tyX3 tyX3_ok nmX3 hown hG hP hD rfl hS 0 rfl rfl 4 (by decide) w1 rfl (tyX3_ok 4 (by decide)) rfl rfl (Nat.le_of_ble_eq_true rfl) dX3_addJudge_36 rfl (fun H locs hP hS => ?_)
    refine lv_iconst (v := (1 : Int32)) hx hb dX3_addJudge_39 (by decide) ?_
    obtain rfl := Option.some.inj hf
    exact ret H _ ls _ (show narrow .boolean (.int (1 : Int32)) = .int (1 : Int32) from rfl) hP hD hS dX3_addJudge_40
  · have hf := xf hf c_1
    refine lv_iconst (v := (0 : Int32)) hx hb dX3_addJudge_9 (by decide) ?_
    obtain rfl := Option.some.inj hf
    exact ret H _ ls _ (show narrow .boolean (.int (0 : Int32)) = .int (0 : Int32) from rfl) hP hD hS dX3_addJudge_10
def mX3_startPlain_B6 (f_blows : Nat → Int32) (k6 : Int32 → Int32 → Int32 → Int32 → Int32 → Int32 → (Nat → Int32) → (Nat → Int32) → (Nat → Int32) → (Nat → Int32) → (Nat → Int32) → (Nat → Int32) → (Nat → Int32) → Option (Int32 × Int32 × Int32 × Int32 × Int32 × (Nat → Int32) × (Nat → Int32) × (Nat → Int32) × (Nat → Int32) × (Nat → Int32) × (Nat → Int32) × (Nat → Int32))) (l1 : Int32) (i_rounds : Int32) (i_home : Int32) (i_noise : Int32) (i_blowCount : Int32) (i_judgeCount : Int32) (f_forward : Nat → Int32) (f_downs : Nat → Int32) (f_taken : Nat → Int32) (f_judges : Nat → Int32) (f_seenBy : Nat → Int32) (f_sums : Nat → Int32) (f_leads : Nat → Int32) :
  Option (Int32 × Int32 × Int32 × Int32 × Int32 × (Nat → Int32) × (Nat → Int32) × (Nat → Int32) × (Nat → Int32) × (Nat → Int32) × (Nat → Int32) × (Nat → Int32)) :=
  if (3 : Int32) ≤ l1 then ((mX3_addUp i_home i_noise i_blowCount i_judgeCount f_blows f_forward f_judges f_leads f_seenBy f_sums).bind fun o_4 =>
  some (i_rounds, i_home, i_noise, i_blowCount, i_judgeCount, f_forward, f_downs, f_taken, f_judges, o_4.1, o_4.2.1, o_4.2.2)) else ((mX3_addJudge_p0t3 i_judgeCount f_judges).bind fun o_6 =>
  lb (l1 + (1 : Int32)) fun v_8 =>
  k6 v_8 i_rounds i_home i_noise i_blowCount o_6.2.2 f_forward f_downs f_taken o_6.2.1 f_seenBy f_sums f_leads)
def mX3_startPlain_L6 (f_blows : Nat → Int32) (n : Nat) (l1 : Int32) (i_rounds : Int32) (i_home : Int32) (i_noise : Int32) (i_blowCount : Int32) (i_judgeCount : Int32) (f_forward : Nat → Int32) (f_downs : Nat → Int32) (f_taken : Nat → Int32) (f_judges : Nat → Int32) (f_seenBy : Nat → Int32) (f_sums : Nat → Int32) (f_leads : Nat → Int32) :
  Option (Int32 × Int32 × Int32 × Int32 × Int32 × (Nat → Int32) × (Nat → Int32) × (Nat → Int32) × (Nat → Int32) × (Nat → Int32) × (Nat → Int32) × (Nat → Int32)) :=
  loopN (fun k (s : Int32 × Int32 × Int32 × Int32 × Int32 × Int32 × (Nat → Int32) × (Nat → Int32) × (Nat → Int32) × (Nat → Int32) × (Nat → Int32) × (Nat → Int32) × (Nat → Int32)) => mX3_startPlain_B6 f_blows  (fun l1 i_rounds i_home i_noise i_blowCount i_judgeCount f_forward f_downs f_taken f_judges f_seenBy f_sums f_leads => k (l1, i_rounds, i_home, i_noise, i_blowCount, i_judgeCount, f_forward, f_downs, f_taken, f_judges, f_seenBy, f_sums, f_leads)) s.1 s.2.1 s.2.2.1 s.2.2.2.1 s.2.2.2.2.1 s.2.2.2.2.2.1 s.2.2.2.2.2.2.1 s.2.2.2.2.2.2.2.1 s.2.2.2.2.2.2.2.2.1 s.2.2.2.2.2.2.2.2.2.1 s.2.2.2.2.2.2.2.2.2.2.1 s.2.2.2.2.2.2.2.2.2.2.2.1 s.2.2.2.2.2.2.2.2.2.2.2.2) n (l1, i_rounds, i_home, i_noise, i_blowCount, i_judgeCount, f_forward, f_downs, f_taken, f_judges, f_seenBy, f_sums, f_leads)
def mX3_startPlain (i_rounds : Int32) (i_home : Int32) (i_noise : Int32) (i_blowCount : Int32) (i_judgeCount : Int32) (f_blows : Nat → Int32) (f_downs : Nat → Int32) (f_forward : Nat → Int32) (f_judges : Nat → Int32) (f_leads : Nat → Int32) (f_seenBy : Nat → Int32) (f_sums : Nat → Int32) (f_taken : Nat → Int32) :
  Option (Int32 × Int32 × Int32 × Int32 × Int32 × (Nat → Int32) × (Nat → Int32) × (Nat → Int32) × (Nat → Int32) × (Nat → Int32) × (Nat → Int32) × (Nat → Int32)) :=
  (mX3_clear i_rounds i_home i_noise i_blowCount i_judgeCount f_downs f_forward f_taken).bind fun o_1 =>
  mX3_startPlain_L6 f_blows  FUEL (0 : Int32) o_1.1 o_1.2.1 o_1.2.2.1 o_1.2.2.2.1 o_1.2.2.2.2.1 o_1.2.2.2.2.2.1 o_1.2.2.2.2.2.2.1 o_1.2.2.2.2.2.2.2 f_judges f_seenBy f_sums f_leads
theorem hdsX3_startPlain : yX3_startPlain.cls ≠ "java/lang/invoke/MethodHandle" ∧ yX3_startPlain.cls ≠ "java/lang/invoke/VarHandle" ∧ (parseMethodDescriptor yX3_startPlain.desc).map (fun d => d.parameters.length) = some 0 := by decide +kernel
theorem hdvX3_startPlain : yX3_startPlain.cls = RX3 ∧ yX3_startPlain.cls ≠ "java/lang/invoke/MethodHandle" ∧ yX3_startPlain.cls ≠ "java/lang/invoke/VarHandle" ∧ (parseMethodDescriptor yX3_startPlain.desc).map (fun d => d.parameters.length) = some 0 := by decide +kernel
abbrev rmX3_startPlain : Room := { frames := 4, cells := 0, slots := 0, locals := 89 }
set_option maxHeartbeats 4000000 in
set_option maxRecDepth 100000 in
theorem qX3_startPlain (l : Launch) (X : XT) (a_this : Nat) (a_blows : Nat) (a_downs : Nat) (a_forward : Nat) (a_judges : Nat) (a_leads : Nat) (a_seenBy : Nat) (a_sums : Nat) (a_taken : Nat)  (i_rounds : Int32) (i_home : Int32) (i_noise : Int32) (i_blowCount : Int32) (i_judgeCount : Int32) (f_blows : Nat → Int32) (f_downs : Nat → Int32) (f_forward : Nat → Int32) (f_judges : Nat → Int32) (f_leads : Nat → Int32) (f_seenBy : Nat → Int32) (f_sums : Nat → Int32) (f_taken : Nat → Int32)  (o : Int32 × Int32 × Int32 × Int32 × Int32 × (Nat → Int32) × (Nat → Int32) × (Nat → Int32) × (Nat → Int32) × (Nat → Int32) × (Nat → Int32) × (Nat → Int32)) (hf : mX3_startPlain i_rounds i_home i_noise i_blowCount i_judgeCount f_blows f_downs f_forward f_judges f_leads f_seenBy f_sums f_taken = some o) :
    MC l yX3_startPlain wsX3_startPlain rmX3_startPlain X [.ref a_this] [(a_this, .inr (3, [.int i_rounds, .int i_home, .int i_noise, .int i_blowCount, .int i_judgeCount, .ref a_blows, .ref a_judges, .ref a_forward, .ref a_downs, .ref a_taken, .ref a_seenBy, .ref a_sums, .ref a_leads])), (a_blows, .inl (X.2.1 0, 200, .inl f_blows)), (a_downs, .inl (X.2.1 0, 24, .inl f_downs)), (a_forward, .inl (X.2.1 0, 24, .inl f_forward)), (a_judges, .inl (X.2.1 0, 56, .inl f_judges)), (a_leads, .inl (X.2.1 0, 96, .inl f_leads)), (a_seenBy, .inl (X.2.1 0, 40, .inl f_seenBy)), (a_sums, .inl (X.2.1 0, 192, .inl f_sums)), (a_taken, .inl (X.2.1 0, 24, .inl f_taken))]  (fun _ => [(a_this, .inr (3, [.int o.1, .int o.2.1, .int o.2.2.1, .int o.2.2.2.1, .int o.2.2.2.2.1, .ref a_blows, .ref a_judges, .ref a_forward, .ref a_downs, .ref a_taken, .ref a_seenBy, .ref a_sums, .ref a_leads])), (a_blows, .inl (X.2.1 0, 200, .inl f_blows)), (a_downs, .inl (X.2.1 0, 24, .inl o.2.2.2.2.2.2.1)), (a_forward, .inl (X.2.1 0, 24, .inl o.2.2.2.2.2.1)), (a_judges, .inl (X.2.1 0, 56, .inl o.2.2.2.2.2.2.2.2.1)), (a_leads, .inl (X.2.1 0, 96, .inl o.2.2.2.2.2.2.2.2.2.2.2)), (a_seenBy, .inl (X.2.1 0, 40, .inl o.2.2.2.2.2.2.2.2.2.1)), (a_sums, .inl (X.2.1 0, 192, .inl o.2.2.2.2.2.2.2.2.2.2.1)), (a_taken, .inl (X.2.1 0, 24, .inl o.2.2.2.2.2.2.2.1))]) 0 0 := by
  refine MC_ofH (cc := cX3_startPlain) (maxL := 2) (by decide) rfl (Nat.le_of_ble_eq_true rfl) ?_
  intro p e s m below meth c A Q H ls hx hb hml hts hown hin hA hD hG hP hS hl ret
  have hown : s.vm.findClass RX3 = some m.cls := hown
  have hD : aD A [a_this, a_blows, a_downs, a_forward, a_judges, a_leads, a_seenBy, a_sums, a_taken] := hD
  have hl : lv_has ls 2 [(0, .ref a_this)] := hl
  have w1 := hts (Cond.fieldLink RX3 59 "ThreeCards$Fight" "PLAIN_JUDGE" "[I") (List.mem_of_getElem? (i := 1) rfl)
  have hL6 : ∀ (n : Nat) (l1 : Int32) (i_rounds : Int32) (i_home : Int32) (i_noise : Int32) (i_blowCount : Int32) (i_judgeCount : Int32) (f_forward : Nat → Int32) (f_downs : Nat → Int32) (f_taken : Nat → Int32) (f_judges : Nat → Int32) (f_seenBy : Nat → Int32) (f_sums : Nat → Int32) (f_leads : Nat → Int32)  (H : Heap) (locs : List Loc) (ls : Array Slot), va_P X.1 vwCl [(a_this, .inr (3, [.int i_rounds, .int i_home, .int i_noise, .int i_blowCount, .int i_judgeCount, .ref a_blows, .ref a_judges, .ref a_forward, .ref a_downs, .ref a_taken, .ref a_seenBy, .ref a_sums, .ref a_leads])), (a_blows, .inl (X.2.1 0, 200, .inl f_blows)), (a_downs, .inl (X.2.1 0, 24, .inl f_downs)), (a_forward, .inl (X.2.1 0, 24, .inl f_forward)), (a_judges, .inl (X.2.1 0, 56, .inl f_judges)), (a_leads, .inl (X.2.1 0, 96, .inl f_leads)), (a_seenBy, .inl (X.2.1 0, 40, .inl f_seenBy)), (a_sums, .inl (X.2.1 0, 192, .inl f_sums)), (a_taken, .inl (X.2.1 0, 24, .inl f_taken))] H → va_S A s.heap H locs → lv_has ls 2 [(0, .ref a_this), (1, .int l1)] → mX3_startPlain_L6 f_blows  n l1 i_rounds i_home i_noise i_blowCount i_judgeCount f_forward f_downs f_taken f_judges f_seenBy f_sums f_leads = some o → W p l e rmX3_startPlain s m ([.ref a_this] : List Value).toArray below meth c H locs 0 0 Q (F0 m 6 ls []) := by
    intro n
    induction n with
    | zero => intro l1 i_rounds i_home i_noise i_blowCount i_judgeCount f_forward f_downs f_taken f_judges f_seenBy f_sums f_leads  H locs ls hP hS hl hf; exact xn hf
    | succ n ih =>
      intro l1 i_rounds i_home i_noise i_blowCount i_judgeCount f_forward f_downs f_taken f_judges f_seenBy f_sums f_leads  H locs ls hP hS hl hf
      have hf : mX3_startPlain_B6 f_blows  (mX3_startPlain_L6 f_blows  n) l1 i_rounds i_home i_noise i_blowCount i_judgeCount f_forward f_downs f_taken f_judges f_seenBy f_sums f_leads = some o := hf
      generalize mX3_startPlain_L6 f_blows  n = k6 at ih hf
      unfold mX3_startPlain_B6 at hf
      refine lv_iload_n hx hb dX3_startPlain_6 rfl (lv_at hl 1 rfl) ?_
      refine lv_iconst (v := (3 : Int32)) hx hb dX3_startPlain_7 (by decide) ?_
      refine lv_icmp_ge (tgt := 25) hx hb dX3_startPlain_8 (by decide) (fun c_3 => ?_) (fun c_3 => ?_)
      · have hf := xt hf c_3
        refine lv_aload_n hx hb dX3_startPlain_25 rfl (lv_at hl 0 rfl) ?_
        obtain ⟨o_4, ho_4, hf⟩ := ob_s hf
        refine xV_v (As := []) (b := a_this) (rest := []) (ws2 := fun _ => [(a_this, .inr (3, [.int i_rounds, .int i_home, .int i_noise, .int i_blowCount, .int i_judgeCount, .ref a_blows, .ref a_judges, .ref a_forward, .ref a_downs, .ref a_taken, .ref a_seenBy, .ref a_sums, .ref a_leads])), (a_blows, .inl (X.2.1 0, 200, .inl f_blows)), (a_downs, .inl (X.2.1 0, 24, .inl f_downs)), (a_forward, .inl (X.2.1 0, 24, .inl f_forward)), (a_judges, .inl (X.2.1 0, 56, .inl f_judges)), (a_leads, .inl (X.2.1 0, 96, .inl o_4.2.2)), (a_seenBy, .inl (X.2.1 0, 40, .inl o_4.1)), (a_sums, .inl (X.2.1 0, 192, .inl o_4.2.1)), (a_taken, .inl (X.2.1 0, 24, .inl f_taken))]) hx hb hml hts hown hG hA hP hD rfl hS hl.1 (qX3_addUp l X a_this a_blows a_forward a_judges a_leads a_seenBy a_sums a_downs a_taken i_rounds i_home i_noise i_blowCount i_judgeCount f_blows f_forward f_judges f_leads f_seenBy f_sums o_4 ho_4) (cwV (y := yX3_addUp) 0 hts gX3_startPlain_X3_addUp rfl rfl rfl hdvX3_addUp ⟨Nat.le_of_ble_eq_true rfl, Nat.le_of_ble_eq_true rfl⟩) [0, 1, 3, 4, 5, 6, 7] [2, 8] [2, 3, 0, 4, 5, 6, 7, 8, 1] rfl rfl rfl rfl rfl rfl (fun _ => rfl) (ci := 3) rfl 0 rfl rfl rfl (Nat.le_of_ble_eq_true rfl) ⟨Nat.le_of_ble_eq_true rfl, Nat.le_of_ble_eq_true rfl⟩ dX3_startPlain_26 (fun u_5 H locs hP _ hS => ?_)
        obtain rfl := Option.some.inj hf
        exact ret (fun _ => 0) H _ ls _ hP hD hS dX3_startPlain_29
      · have hf := xf hf c_3
        refine lv_aload_n hx hb dX3_startPlain_11 rfl (lv_at hl 0 rfl) ?_
        refine va_gets hx hb hG.2.2.1.2.2.2.1.1 hS hown w1 (fun _ h9 => h9) dX3_startPlain_12 ?_
        obtain ⟨o_6, ho_6, hf⟩ := ob_s hf
        refine xV_i (As := [.ref (X.2.2 3)]) (b := a_this) (rest := []) (ws2 := [(a_this, .inr (3, [.int i_rounds, .int i_home, .int i_noise, .int i_blowCount, .int o_6.2.2, .ref a_blows, .ref a_judges, .ref a_forward, .ref a_downs, .ref a_taken, .ref a_seenBy, .ref a_sums, .ref a_leads])), (a_blows, .inl (X.2.1 0, 200, .inl f_blows)), (a_downs, .inl (X.2.1 0, 24, .inl f_downs)), (a_forward, .inl (X.2.1 0, 24, .inl f_forward)), (a_judges, .inl (X.2.1 0, 56, .inl o_6.2.1)), (a_leads, .inl (X.2.1 0, 96, .inl f_leads)), (a_seenBy, .inl (X.2.1 0, 40, .inl f_seenBy)), (a_sums, .inl (X.2.1 0, 192, .inl f_sums)), (a_taken, .inl (X.2.1 0, 24, .inl f_taken))]) hx hb hml hts hown hG hA hP hD rfl hS hl.1 (qX3_addJudge_p0t3 l X a_this a_judges a_blows a_forward a_downs a_taken a_seenBy a_sums a_leads i_rounds i_home i_noise i_blowCount i_judgeCount f_judges o_6 ho_6) (cwV (y := yX3_addJudge) 1 hts gX3_startPlain_X3_addJudge rfl rfl rfl hdvX3_addJudge ⟨Nat.le_of_ble_eq_true rfl, Nat.le_of_ble_eq_true rfl⟩) [0, 4] [1, 2, 3, 5, 6, 7, 8] [7, 0, 1, 2, 8, 3, 4, 5, 6] rfl rfl rfl rfl rfl rfl rfl (ci := 3) rfl 0 rfl rfl rfl (Nat.le_of_ble_eq_true rfl) ⟨Nat.le_of_ble_eq_true rfl, Nat.le_of_ble_eq_true rfl⟩ dX3_startPlain_15 (fun H locs hP _ hS => ?_)
        refine lv_pop hx hb dX3_startPlain_18 rfl ?_
        obtain ⟨v_8, ev_8, hf⟩ := lb_g hf
        refine lv_iinc (v := v_8) (lv' := [(1, .int v_8), (0, .ref a_this)]) hx hb dX3_startPlain_19 hl (k := 1) rfl ev_8.symm (by decide) rfl (fun ls hl => ?_)
        refine lv_goto (tgt := 6) hx hb dX3_startPlain_22 (by decide) ?_
        exact ih v_8 i_rounds i_home i_noise i_blowCount o_6.2.2 f_forward f_downs f_taken o_6.2.1 f_seenBy f_sums f_leads  H _ ls hP  hS (lv_sub hl [1, 0] rfl) hf
  unfold mX3_startPlain at hf
  refine lv_aload_n hx hb dX3_startPlain_0 rfl (lv_at hl 0 rfl) ?_
  obtain ⟨o_1, ho_1, hf⟩ := ob_s hf
  refine xV_v (As := []) (b := a_this) (rest := []) (ws2 := fun _ => [(a_this, .inr (3, [.int o_1.1, .int o_1.2.1, .int o_1.2.2.1, .int o_1.2.2.2.1, .int o_1.2.2.2.2.1, .ref a_blows, .ref a_judges, .ref a_forward, .ref a_downs, .ref a_taken, .ref a_seenBy, .ref a_sums, .ref a_leads])), (a_blows, .inl (X.2.1 0, 200, .inl f_blows)), (a_downs, .inl (X.2.1 0, 24, .inl o_1.2.2.2.2.2.2.1)), (a_forward, .inl (X.2.1 0, 24, .inl o_1.2.2.2.2.2.1)), (a_judges, .inl (X.2.1 0, 56, .inl f_judges)), (a_leads, .inl (X.2.1 0, 96, .inl f_leads)), (a_seenBy, .inl (X.2.1 0, 40, .inl f_seenBy)), (a_sums, .inl (X.2.1 0, 192, .inl f_sums)), (a_taken, .inl (X.2.1 0, 24, .inl o_1.2.2.2.2.2.2.2))]) hx hb hml hts hown hG hA hP hD rfl hS hl.1 (qX3_clear l X a_this a_downs a_forward a_taken a_blows a_judges a_seenBy a_sums a_leads i_rounds i_home i_noise i_blowCount i_judgeCount f_downs f_forward f_taken o_1 ho_1) (cwV (y := yX3_clear) 0 hts gX3_startPlain_X3_clear rfl rfl rfl hdvX3_clear ⟨Nat.le_of_ble_eq_true rfl, Nat.le_of_ble_eq_true rfl⟩) [0, 2, 3, 8] [1, 4, 5, 6, 7] [5, 0, 6, 7, 1, 2, 3, 4, 8] rfl rfl rfl rfl rfl rfl (fun _ => rfl) (ci := 3) rfl 0 rfl rfl rfl (Nat.le_of_ble_eq_true rfl) ⟨Nat.le_of_ble_eq_true rfl, Nat.le_of_ble_eq_true rfl⟩ dX3_startPlain_1 (fun u_2 H locs hP _ hS => ?_)
  refine lv_iconst (v := (0 : Int32)) hx hb dX3_startPlain_4 (by decide) ?_
  refine lv_istore_n (lv' := [(1, .int (0 : Int32)), (0, .ref a_this)]) hx hb dX3_startPlain_5 rfl hl (by decide) rfl (fun ls hl => ?_)
  exact hL6  FUEL (0 : Int32) o_1.1 o_1.2.1 o_1.2.2.1 o_1.2.2.2.1 o_1.2.2.2.2.1 o_1.2.2.2.2.2.1 o_1.2.2.2.2.2.2.1 o_1.2.2.2.2.2.2.2 f_judges f_seenBy f_sums f_leads  H _ ls hP  hS (lv_sub hl [1, 0] rfl) hf
