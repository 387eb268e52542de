/-! MODEL: the common state of two machines: plain functions -/
def mX11_in (x0 : Int64) (x1 : Int64) (x2 : Int64) :
  Option (Int32) :=
  if (lg_cmp x0 x1) < 0 then (some (0 : Int32)) else (if 0 < (lg_cmp x0 x2) then (some (0 : Int32)) else (some (1 : Int32)))
def mX11_noFight_B38 (x0 : Int32) (k38 : Int32 → (Nat → Int32) → (Nat → Int32) → (Nat → Int32) → (Nat → Int32) → (Nat → Int32) → (Nat → Int32) → (Nat → Int32) → (Nat → Int32) → Option ((Nat → Int32) × (Nat → Int32) × (Nat → Int32) × (Nat → Int32) × (Nat → Int32) × (Nat → Int32) × (Nat → Int32) × (Nat → Int32))) (l2 : Int32) (f_roundMany : Nat → Int32) (f_blowMany : Nat → Int32) (f_judgeMany : Nat → Int32) (f_homes : Nat → Int32) (f_noises : Nat → Int32) (f_forwards : Nat → Int32) (f_downs : Nat → Int32) (f_takens : Nat → Int32) :
  Option ((Nat → Int32) × (Nat → Int32) × (Nat → Int32) × (Nat → Int32) × (Nat → Int32) × (Nat → Int32) × (Nat → Int32) × (Nat → Int32)) :=
  if (24 : Int32) ≤ l2 then (some (f_roundMany, f_blowMany, f_judgeMany, f_homes, f_noises, f_forwards, f_downs, f_takens)) else (gi (((24 : Int32) * x0) + l2) 48 <|
  lb (upd f_forwards (((24 : Int32) * x0) + l2).toNatClampNeg (0 : Int32)) fun g13 =>
  gi (((24 : Int32) * x0) + l2) 48 <|
  lb (upd f_downs (((24 : Int32) * x0) + l2).toNatClampNeg (0 : Int32)) fun g15 =>
  gi (((24 : Int32) * x0) + l2) 48 <|
  lb (upd f_takens (((24 : Int32) * x0) + l2).toNatClampNeg (0 : Int32)) fun g17 =>
  lb (l2 + (1 : Int32)) fun v18 =>
  k38 v18 f_roundMany f_blowMany f_judgeMany f_homes f_noises g13 g15 g17)
def mX11_noFight_L38 (x0 : Int32) (n : Nat) (l2 : Int32) (f_roundMany : Nat → Int32) (f_blowMany : Nat → Int32) (f_judgeMany : Nat → Int32) (f_homes : Nat → Int32) (f_noises : Nat → Int32) (f_forwards : Nat → Int32) (f_downs : Nat → Int32) (f_takens : Nat → Int32) :
  Option ((Nat → Int32) × (Nat → Int32) × (Nat → Int32) × (Nat → Int32) × (Nat → Int32) × (Nat → Int32) × (Nat → Int32) × (Nat → Int32)) :=
  loopN (fun k (s : Int32 × (Nat → Int32) × (Nat → Int32) × (Nat → Int32) × (Nat → Int32) × (Nat → Int32) × (Nat → Int32) × (Nat → Int32) × (Nat → Int32)) => mX11_noFight_B38 x0  (fun l2 f_roundMany f_blowMany f_judgeMany f_homes f_noises f_forwards f_downs f_takens => k (l2, f_roundMany, f_blowMany, f_judgeMany, f_homes, f_noises, f_forwards, f_downs, f_takens)) s.1 s.2.1 s.2.2.1 s.2.2.2.1 s.2.2.2.2.1 s.2.2.2.2.2.1 s.2.2.2.2.2.2.1 s.2.2.2.2.2.2.2.1 s.2.2.2.2.2.2.2.2) n (l2, f_roundMany, f_blowMany, f_judgeMany, f_homes, f_noises, f_forwards, f_downs, f_takens)
def mX11_noFight (x0 : Int32) (f_blowMany : Nat → Int32) (f_downs : Nat → Int32) (f_forwards : Nat → Int32) (f_homes : Nat → Int32) (f_judgeMany : Nat → Int32) (f_noises : Nat → Int32) (f_roundMany : Nat → Int32) (f_takens : Nat → Int32) :
  Option ((Nat → Int32) × (Nat → Int32) × (Nat → Int32) × (Nat → Int32) × (Nat → Int32) × (Nat → Int32) × (Nat → Int32) × (Nat → Int32)) :=
  gi x0 2 <|
  lb (upd f_roundMany x0.toNatClampNeg (12 : Int32)) fun g2 =>
  gi x0 2 <|
  lb (upd f_blowMany x0.toNatClampNeg (0 : Int32)) fun g4 =>
  gi x0 2 <|
  lb (upd f_judgeMany x0.toNatClampNeg (0 : Int32)) fun g6 =>
  gi x0 2 <|
  lb (upd f_homes x0.toNatClampNeg (0 : Int32)) fun g8 =>
  gi x0 2 <|
  lb (upd f_noises x0.toNatClampNeg (0 : Int32)) fun g10 =>
  mX11_noFight_L38 x0  FUEL (0 : Int32) g2 g4 g6 g8 g10 f_forwards f_downs f_takens
def mX11_write_B34 (x0 : Int32) (x1 : Int64) (k34 : Int32 → (Nat → Int32) → Int32 → Option (Int32 × (Nat → Int32) × Int32)) (l4 : Int32) (f_text : Nat → Int32) (i_length : Int32) :
  Option (Int32 × (Nat → Int32) × Int32) :=
  if l4 < 0 then (some (i_length, f_text, i_length)) else (gi i_length 500 <|
  lb (upd f_text i_length.toNatClampNeg (Int64.toInt32 ((x1 >>> (Int32.toInt64 ((8 : Int32) * l4) &&& 63)) &&& (255 : Int64)))) fun g8 =>
  lb (i_length + (1 : Int32)) fun v9 =>
  lb (l4 + (-1 : Int32)) fun v10 =>
  k34 v10 g8 v9)
def mX11_write_L34 (x0 : Int32) (x1 : Int64) (n : Nat) (l4 : Int32) (f_text : Nat → Int32) (i_length : Int32) :
  Option (Int32 × (Nat → Int32) × Int32) :=
  loopN (fun k (s : Int32 × (Nat → Int32) × Int32) => mX11_write_B34 x0 x1  (fun l4 f_text i_length => k (l4, f_text, i_length)) s.1 s.2.1 s.2.2) n (l4, f_text, i_length)
def mX11_write (x0 : Int32) (x1 : Int64) (i_length : Int32) (f_text : Nat → Int32) :
  Option (Int32 × (Nat → Int32) × Int32) :=
  (mX11_in (Int32.toInt64 x0) (1 : Int64) (8 : Int64)).bind fun o1 =>
  if o1 = 0 then (some ((-1 : Int32), f_text, i_length)) else (if (i_length + x0) ≤ (500 : Int32) then (lb (x0 - (1 : Int32)) fun v5 =>
  mX11_write_L34 x0 x1  FUEL v5 f_text i_length) else (some ((-3 : Int32), f_text, i_length)))
def mX11_wipe (i_length : Int32) :
  Option (Int32 × Int32) :=
  some (i_length, (0 : Int32))
def mX11_byteAt (x0 : Int32) (i_length : Int32) (f_text : Nat → Int32) :
  Option (Int32) :=
  if i_length ≤ x0 then (some (0 : Int32)) else (gi x0 500 <|
  lb (f_text x0.toNatClampNeg) fun v3 =>
  some v3)
def mX11_figures_B107 (x0 : Int32) (i_length : Int32) (f_text : Nat → Int32) (k2 : Int32 → Int32 → (Nat → Int32) → Option (Int32 × Int32 × (Nat → Int32))) (l2 : Int32) (l4 : Int32) (s0 : Int32) (s1 : Int32) (i_place : Int32) (f_told : Nat → Int32) :
  Option (Int32 × Int32 × (Nat → Int32)) :=
  if s0 = s1 then (gi l2 7 <|
  lb (upd f_told l2.toNatClampNeg l4) fun g21 =>
  lb (i_place + (1 : Int32)) fun v22 =>
  lb (l2 + (1 : Int32)) fun v23 =>
  k2 v23 v22 g21) else (some ((0 : Int32), i_place, f_told))
def mX11_figures_B73 (x0 : Int32) (i_length : Int32) (f_text : Nat → Int32) (k2 : Int32 → Int32 → (Nat → Int32) → Option (Int32 × Int32 × (Nat → Int32))) (l2 : Int32) (l3 : Int32) (l4 : Int32) (i_place : Int32) (f_told : Nat → Int32) :
  Option (Int32 × Int32 × (Nat → Int32)) :=
  (mX11_in (Int32.toInt64 l3) (1 : Int64) (3 : Int64)).bind fun o13 =>
  if o13 = 0 then (some ((0 : Int32), i_place, f_told)) else ((mX11_byteAt i_place i_length f_text).bind fun o16 =>
  if (x0 - (1 : Int32)) ≤ l2 then (mX11_figures_B107 x0 i_length f_text k2 l2 l4 o16 (59 : Int32) i_place f_told) else (mX11_figures_B107 x0 i_length f_text k2 l2 l4 o16 (44 : Int32) i_place f_told))
def mX11_figures_B12 (x0 : Int32) (i_length : Int32) (f_text : Nat → Int32) (k2 : Int32 → Int32 → (Nat → Int32) → Option (Int32 × Int32 × (Nat → Int32))) (k12 : Int32 → Int32 → Int32 → Int32 → (Nat → Int32) → Option (Int32 × Int32 × (Nat → Int32))) (l2 : Int32) (l3 : Int32) (l4 : Int32) (i_place : Int32) (f_told : Nat → Int32) :
  Option (Int32 × Int32 × (Nat → Int32)) :=
  (mX11_byteAt i_place i_length f_text).bind fun o2 =>
  (mX11_in (Int32.toInt64 o2) (48 : Int64) (57 : Int64)).bind fun o4 =>
  if o4 = 0 then (mX11_figures_B73 x0 i_length f_text k2 l2 l3 l4 i_place f_told) else (if (4 : Int32) ≤ l3 then (mX11_figures_B73 x0 i_length f_text k2 l2 l3 l4 i_place f_told) else ((mX11_byteAt i_place i_length f_text).bind fun o8 =>
  lb ((((10 : Int32) * l4) + o8) - (48 : Int32)) fun v10 =>
  lb (l3 + (1 : Int32)) fun v11 =>
  lb (i_place + (1 : Int32)) fun v12 =>
  k12 l2 v11 v10 v12 f_told))
def mX11_figures_L12 (x0 : Int32) (i_length : Int32) (f_text : Nat → Int32) (k2 : Int32 → Int32 → (Nat → Int32) → Option (Int32 × Int32 × (Nat → Int32))) (n : Nat) (l2 : Int32) (l3 : Int32) (l4 : Int32) (i_place : Int32) (f_told : Nat → Int32) :
  Option (Int32 × Int32 × (Nat → Int32)) :=
  loopN (fun k (s : Int32 × Int32 × Int32 × Int32 × (Nat → Int32)) => mX11_figures_B12 x0 i_length f_text k2 (fun l2 l3 l4 i_place f_told => k (l2, l3, l4, i_place, f_told)) s.1 s.2.1 s.2.2.1 s.2.2.2.1 s.2.2.2.2) n (l2, l3, l4, i_place, f_told)
def mX11_figures_B2 (x0 : Int32) (i_length : Int32) (f_text : Nat → Int32) (k2 : Int32 → Int32 → (Nat → Int32) → Option (Int32 × Int32 × (Nat → Int32))) (l2 : Int32) (i_place : Int32) (f_told : Nat → Int32) :
  Option (Int32 × Int32 × (Nat → Int32)) :=
  if x0 ≤ l2 then (some ((1 : Int32), i_place, f_told)) else (mX11_figures_L12 x0 i_length f_text k2 FUEL l2 (0 : Int32) (0 : Int32) i_place f_told)
def mX11_figures_L2 (x0 : Int32) (i_length : Int32) (f_text : Nat → Int32) (n : Nat) (l2 : Int32) (i_place : Int32) (f_told : Nat → Int32) :
  Option (Int32 × Int32 × (Nat → Int32)) :=
  loopN (fun k (s : Int32 × Int32 × (Nat → Int32)) => mX11_figures_B2 x0 i_length f_text  (fun l2 i_place f_told => k (l2, i_place, f_told)) s.1 s.2.1 s.2.2) n (l2, i_place, f_told)
def mX11_figures (x0 : Int32) (i_length : Int32) (i_place : Int32) (f_text : Nat → Int32) (f_told : Nat → Int32) :
  Option (Int32 × Int32 × (Nat → Int32)) :=
  mX11_figures_L2 x0 i_length f_text  FUEL (0 : Int32) i_place f_told
def mX11_blowItem_B86 (i_length : Int32) (f_text : Nat → Int32) (k86 : Int32 → Int32 → Int32 → (Nat → Int32) → (Nat → Int32) → (Nat → Int32) → Option (Int32 × Int32 × (Nat → Int32) × (Nat → Int32) × (Nat → Int32))) (l1 : Int32) (l2 : Int32) (i_place : Int32) (f_told : Nat → Int32) (f_blows : Nat → Int32) (f_blowMany : Nat → Int32) :
  Option (Int32 × Int32 × (Nat → Int32) × (Nat → Int32) × (Nat → Int32)) :=
  if (5 : Int32) ≤ l2 then (lb (upd f_blowMany (1 : Int32).toNatClampNeg ((f_blowMany (1 : Int32).toNatClampNeg) + (1 : Int32))) fun g14 =>
  some ((1 : Int32), i_place, f_told, f_blows, g14)) else (gi l2 7 <|
  gi (((200 : Int32) + ((5 : Int32) * l1)) + l2) 400 <|
  lb (upd f_blows (((200 : Int32) + ((5 : Int32) * l1)) + l2).toNatClampNeg (f_told l2.toNatClampNeg)) fun g17 =>
  lb (l2 + (1 : Int32)) fun v18 =>
  k86 l1 v18 i_place f_told g17 f_blowMany)
def mX11_blowItem_L86 (i_length : Int32) (f_text : Nat → Int32) (n : Nat) (l1 : Int32) (l2 : Int32) (i_place : Int32) (f_told : Nat → Int32) (f_blows : Nat → Int32) (f_blowMany : Nat → Int32) :
  Option (Int32 × Int32 × (Nat → Int32) × (Nat → Int32) × (Nat → Int32)) :=
  loopN (fun k (s : Int32 × Int32 × Int32 × (Nat → Int32) × (Nat → Int32) × (Nat → Int32)) => mX11_blowItem_B86 i_length f_text  (fun l1 l2 i_place f_told f_blows f_blowMany => k (l1, l2, i_place, f_told, f_blows, f_blowMany)) s.1 s.2.1 s.2.2.1 s.2.2.2.1 s.2.2.2.2.1 s.2.2.2.2.2) n (l1, l2, i_place, f_told, f_blows, f_blowMany)
def mX11_blowItem (i_length : Int32) (i_place : Int32) (f_blowMany : Nat → Int32) (f_blows : Nat → Int32) (f_text : Nat → Int32) (f_told : Nat → Int32) :
  Option (Int32 × Int32 × (Nat → Int32) × (Nat → Int32) × (Nat → Int32)) :=
  lb (f_blowMany (1 : Int32).toNatClampNeg) fun v1 =>
  (mX11_figures (5 : Int32) i_length i_place f_text f_told).bind fun o2 =>
  if o2.1 = 0 then (some ((0 : Int32), o2.2.1, o2.2.2, f_blows, f_blowMany)) else (if v1 = (40 : Int32) then (some ((0 : Int32), o2.2.1, o2.2.2, f_blows, f_blowMany)) else (if (11 : Int32) < (o2.2.2 (0 : Int32).toNatClampNeg) then (some ((0 : Int32), o2.2.1, o2.2.2, f_blows, f_blowMany)) else (if (179 : Int32) < (o2.2.2 (1 : Int32).toNatClampNeg) then (some ((0 : Int32), o2.2.1, o2.2.2, f_blows, f_blowMany)) else (if (1 : Int32) < (o2.2.2 (2 : Int32).toNatClampNeg) then (some ((0 : Int32), o2.2.1, o2.2.2, f_blows, f_blowMany)) else ((mX11_in (Int32.toInt64 (o2.2.2 (3 : Int32).toNatClampNeg)) (1 : Int64) (9 : Int64)).bind fun o9 =>
  if o9 = 0 then (some ((0 : Int32), o2.2.1, o2.2.2, f_blows, f_blowMany)) else (if (o2.2.2 (4 : Int32).toNatClampNeg) ≤ (11 : Int32) then (mX11_blowItem_L86 i_length f_text  FUEL v1 (0 : Int32) o2.2.1 o2.2.2 f_blows f_blowMany) else (some ((0 : Int32), o2.2.1, o2.2.2, f_blows, f_blowMany))))))))
def mX11_judgeItem_B110 (i_length : Int32) (f_text : Nat → Int32) (k110 : Int32 → Int32 → Int32 → (Nat → Int32) → (Nat → Int32) → (Nat → Int32) → Option (Int32 × Int32 × (Nat → Int32) × (Nat → Int32) × (Nat → Int32))) (l1 : Int32) (l2 : Int32) (i_place : Int32) (f_told : Nat → Int32) (f_judges : Nat → Int32) (f_judgeMany : Nat → Int32) :
  Option (Int32 × Int32 × (Nat → Int32) × (Nat → Int32) × (Nat → Int32)) :=
  if (7 : Int32) ≤ l2 then (lb (upd f_judgeMany (1 : Int32).toNatClampNeg ((f_judgeMany (1 : Int32).toNatClampNeg) + (1 : Int32))) fun g16 =>
  some ((1 : Int32), i_place, f_told, f_judges, g16)) else (gi l2 7 <|
  gi (((56 : Int32) + ((7 : Int32) * l1)) + l2) 112 <|
  lb (upd f_judges (((56 : Int32) + ((7 : Int32) * l1)) + l2).toNatClampNeg (f_told l2.toNatClampNeg)) fun g19 =>
  lb (l2 + (1 : Int32)) fun v20 =>
  k110 l1 v20 i_place f_told g19 f_judgeMany)
def mX11_judgeItem_L110 (i_length : Int32) (f_text : Nat → Int32) (n : Nat) (l1 : Int32) (l2 : Int32) (i_place : Int32) (f_told : Nat → Int32) (f_judges : Nat → Int32) (f_judgeMany : Nat → Int32) :
  Option (Int32 × Int32 × (Nat → Int32) × (Nat → Int32) × (Nat → Int32)) :=
  loopN (fun k (s : Int32 × Int32 × Int32 × (Nat → Int32) × (Nat → Int32) × (Nat → Int32)) => mX11_judgeItem_B110 i_length f_text  (fun l1 l2 i_place f_told f_judges f_judgeMany => k (l1, l2, i_place, f_told, f_judges, f_judgeMany)) s.1 s.2.1 s.2.2.1 s.2.2.2.1 s.2.2.2.2.1 s.2.2.2.2.2) n (l1, l2, i_place, f_told, f_judges, f_judgeMany)
def mX11_judgeItem (i_length : Int32) (i_place : Int32) (f_judgeMany : Nat → Int32) (f_judges : Nat → Int32) (f_text : Nat → Int32) (f_told : Nat → Int32) :
  Option (Int32 × Int32 × (Nat → Int32) × (Nat → Int32) × (Nat → Int32)) :=
  lb (f_judgeMany (1 : Int32).toNatClampNeg) fun v1 =>
  (mX11_figures (7 : Int32) i_length i_place f_text f_told).bind fun o2 =>
  if o2.1 = 0 then (some ((0 : Int32), o2.2.1, o2.2.2, f_judges, f_judgeMany)) else (if v1 = (8 : Int32) then (some ((0 : Int32), o2.2.1, o2.2.2, f_judges, f_judgeMany)) else (if (11 : Int32) < (o2.2.2 (0 : Int32).toNatClampNeg) then (some ((0 : Int32), o2.2.1, o2.2.2, f_judges, f_judgeMany)) else (if (9 : Int32) < (o2.2.2 (1 : Int32).toNatClampNeg) then (some ((0 : Int32), o2.2.1, o2.2.2, f_judges, f_judgeMany)) else (if (9 : Int32) < (o2.2.2 (2 : Int32).toNatClampNeg) then (some ((0 : Int32), o2.2.1, o2.2.2, f_judges, f_judgeMany)) else (if (40 : Int32) < (o2.2.2 (3 : Int32).toNatClampNeg) then (some ((0 : Int32), o2.2.1, o2.2.2, f_judges, f_judgeMany)) else ((mX11_in (Int32.toInt64 (o2.2.2 (4 : Int32).toNatClampNeg)) (1 : Int64) (9 : Int64)).bind fun o10 =>
  if o10 = 0 then (some ((0 : Int32), o2.2.1, o2.2.2, f_judges, f_judgeMany)) else (if (9 : Int32) < (o2.2.2 (5 : Int32).toNatClampNeg) then (some ((0 : Int32), o2.2.1, o2.2.2, f_judges, f_judgeMany)) else (if (o2.2.2 (6 : Int32).toNatClampNeg) ≤ (99 : Int32) then (mX11_judgeItem_L110 i_length f_text  FUEL v1 (0 : Int32) o2.2.1 o2.2.2 f_judges f_judgeMany) else (some ((0 : Int32), o2.2.1, o2.2.2, f_judges, f_judgeMany))))))))))
def mX11_more (i_length : Int32) (i_place : Int32) (f_text : Nat → Int32) (f_told : Nat → Int32) (f_p0 : Nat → Int32) :
  Option (Int32 × Int32 × (Nat → Int32) × (Nat → Int32)) :=
  (mX11_figures (2 : Int32) i_length i_place f_text f_told).bind fun o1 =>
  if o1.1 = 0 then (some ((0 : Int32), o1.2.1, o1.2.2, f_p0)) else (if (11 : Int32) < (o1.2.2 (0 : Int32).toNatClampNeg) then (some ((0 : Int32), o1.2.1, o1.2.2, f_p0)) else (if (1 : Int32) < (o1.2.2 (1 : Int32).toNatClampNeg) then (some ((0 : Int32), o1.2.1, o1.2.2, f_p0)) else (gi ((24 : Int32) + ((2 : Int32) * (o1.2.2 (0 : Int32).toNatClampNeg))) 48 <|
  gi ((25 : Int32) + ((2 : Int32) * (o1.2.2 (0 : Int32).toNatClampNeg))) 48 <|
  if ((f_p0 ((24 : Int32) + ((2 : Int32) * (o1.2.2 (0 : Int32).toNatClampNeg))).toNatClampNeg) + (f_p0 ((25 : Int32) + ((2 : Int32) * (o1.2.2 (0 : Int32).toNatClampNeg))).toNatClampNeg)) = (3 : Int32) then (some ((0 : Int32), o1.2.1, o1.2.2, f_p0)) else (lb (((24 : Int32) + ((2 : Int32) * (o1.2.2 (0 : Int32).toNatClampNeg))) + (o1.2.2 (1 : Int32).toNatClampNeg)) fun v9 =>
  gi v9 48 <|
  gi v9 48 <|
  lb (upd f_p0 v9.toNatClampNeg ((f_p0 v9.toNatClampNeg) + (1 : Int32))) fun g12 =>
  some ((1 : Int32), o1.2.1, o1.2.2, g12)))))
def mX11_item (i_length : Int32) (i_place : Int32) (f_blowMany : Nat → Int32) (f_blows : Nat → Int32) (f_downs : Nat → Int32) (f_forwards : Nat → Int32) (f_homes : Nat → Int32) (f_judgeMany : Nat → Int32) (f_judges : Nat → Int32) (f_noises : Nat → Int32) (f_roundMany : Nat → Int32) (f_takens : Nat → Int32) (f_text : Nat → Int32) (f_told : Nat → Int32) :
  Option (Int32 × Int32 × (Nat → Int32) × (Nat → Int32) × (Nat → Int32) × (Nat → Int32) × (Nat → Int32) × (Nat → Int32) × (Nat → Int32) × (Nat → Int32) × (Nat → Int32) × (Nat → Int32) × (Nat → Int32)) :=
  (mX11_byteAt i_place i_length f_text).bind fun o1 =>
  lb (i_place + (1 : Int32)) fun v3 =>
  if o1 = (98 : Int32) then ((mX11_blowItem i_length v3 f_blowMany f_blows f_text f_told).bind fun o5 =>
  gz o5.1 <|
  some (o5.1, o5.2.1, o5.2.2.1, f_roundMany, f_downs, f_judges, f_judgeMany, f_homes, f_noises, f_forwards, f_takens, o5.2.2.2.1, o5.2.2.2.2)) else (if o1 = (100 : Int32) then ((mX11_more i_length v3 f_text f_told f_takens).bind fun o9 =>
  gz o9.1 <|
  some (o9.1, o9.2.1, o9.2.2.1, f_roundMany, f_downs, f_judges, f_judgeMany, f_homes, f_noises, f_forwards, o9.2.2.2, f_blows, f_blowMany)) else (if o1 = (102 : Int32) then ((mX11_figures (3 : Int32) i_length v3 f_text f_told).bind fun o13 =>
  if o13.1 = 0 then (some ((0 : Int32), o13.2.1, o13.2.2, f_roundMany, f_downs, f_judges, f_judgeMany, f_homes, f_noises, f_forwards, f_takens, f_blows, f_blowMany)) else (if (11 : Int32) < (o13.2.2 (0 : Int32).toNatClampNeg) then (some ((0 : Int32), o13.2.1, o13.2.2, f_roundMany, f_downs, f_judges, f_judgeMany, f_homes, f_noises, f_forwards, f_takens, f_blows, f_blowMany)) else (if (1 : Int32) < (o13.2.2 (1 : Int32).toNatClampNeg) then (some ((0 : Int32), o13.2.1, o13.2.2, f_roundMany, f_downs, f_judges, f_judgeMany, f_homes, f_noises, f_forwards, f_takens, f_blows, f_blowMany)) else (if (o13.2.2 (2 : Int32).toNatClampNeg) ≤ (9 : Int32) then (gi (((24 : Int32) + ((2 : Int32) * (o13.2.2 (0 : Int32).toNatClampNeg))) + (o13.2.2 (1 : Int32).toNatClampNeg)) 48 <|
  lb (upd f_forwards (((24 : Int32) + ((2 : Int32) * (o13.2.2 (0 : Int32).toNatClampNeg))) + (o13.2.2 (1 : Int32).toNatClampNeg)).toNatClampNeg (o13.2.2 (2 : Int32).toNatClampNeg)) fun g20 =>
  some ((1 : Int32), o13.2.1, o13.2.2, f_roundMany, f_downs, f_judges, f_judgeMany, f_homes, f_noises, g20, f_takens, f_blows, f_blowMany)) else (some ((0 : Int32), o13.2.1, o13.2.2, f_roundMany, f_downs, f_judges, f_judgeMany, f_homes, f_noises, f_forwards, f_takens, f_blows, f_blowMany)))))) else (if o1 = (104 : Int32) then ((mX11_figures (2 : Int32) i_length v3 f_text f_told).bind fun o22 =>
  if o22.1 = 0 then (some ((0 : Int32), o22.2.1, o22.2.2, f_roundMany, f_downs, f_judges, f_judgeMany, f_homes, f_noises, f_forwards, f_takens, f_blows, f_blowMany)) else (if (1 : Int32) < (o22.2.2 (0 : Int32).toNatClampNeg) then (some ((0 : Int32), o22.2.1, o22.2.2, f_roundMany, f_downs, f_judges, f_judgeMany, f_homes, f_noises, f_forwards, f_takens, f_blows, f_blowMany)) else (if (o22.2.2 (1 : Int32).toNatClampNeg) ≤ (9 : Int32) then (lb (upd f_homes (1 : Int32).toNatClampNeg (o22.2.2 (0 : Int32).toNatClampNeg)) fun g27 =>
  lb (upd f_noises (1 : Int32).toNatClampNeg (o22.2.2 (1 : Int32).toNatClampNeg)) fun g28 =>
  some ((1 : Int32), o22.2.1, o22.2.2, f_roundMany, f_downs, f_judges, f_judgeMany, g27, g28, f_forwards, f_takens, f_blows, f_blowMany)) else (some ((0 : Int32), o22.2.1, o22.2.2, f_roundMany, f_downs, f_judges, f_judgeMany, f_homes, f_noises, f_forwards, f_takens, f_blows, f_blowMany))))) else (if o1 = (106 : Int32) then ((mX11_judgeItem i_length v3 f_judgeMany f_judges f_text f_told).bind fun o30 =>
  gz o30.1 <|
  some (o30.1, o30.2.1, o30.2.2.1, f_roundMany, f_downs, o30.2.2.2.1, o30.2.2.2.2, f_homes, f_noises, f_forwards, f_takens, f_blows, f_blowMany)) else (if o1 = (107 : Int32) then ((mX11_more i_length v3 f_text f_told f_downs).bind fun o34 =>
  gz o34.1 <|
  some (o34.1, o34.2.1, o34.2.2.1, f_roundMany, o34.2.2.2, f_judges, f_judgeMany, f_homes, f_noises, f_forwards, f_takens, f_blows, f_blowMany)) else (if o1 = (114 : Int32) then ((mX11_figures (1 : Int32) i_length v3 f_text f_told).bind fun o38 =>
  if o38.1 = 0 then (some ((0 : Int32), o38.2.1, o38.2.2, f_roundMany, f_downs, f_judges, f_judgeMany, f_homes, f_noises, f_forwards, f_takens, f_blows, f_blowMany)) else ((mX11_in (Int32.toInt64 (o38.2.2 (0 : Int32).toNatClampNeg)) (1 : Int64) (12 : Int64)).bind fun o41 =>
  if o41 = 0 then (some ((0 : Int32), o38.2.1, o38.2.2, f_roundMany, f_downs, f_judges, f_judgeMany, f_homes, f_noises, f_forwards, f_takens, f_blows, f_blowMany)) else (lb (upd f_roundMany (1 : Int32).toNatClampNeg (o38.2.2 (0 : Int32).toNatClampNeg)) fun g44 =>
  some ((1 : Int32), o38.2.1, o38.2.2, g44, f_downs, f_judges, f_judgeMany, f_homes, f_noises, f_forwards, f_takens, f_blows, f_blowMany)))) else (some ((0 : Int32), v3, f_told, f_roundMany, f_downs, f_judges, f_judgeMany, f_homes, f_noises, f_forwards, f_takens, f_blows, f_blowMany))))))))
def mX11_readAll_B10 (i_length : Int32) (f_text : Nat → Int32) (k10 : (Nat → Int32) → (Nat → Int32) → (Nat → Int32) → (Nat → Int32) → (Nat → Int32) → (Nat → Int32) → (Nat → Int32) → (Nat → Int32) → Int32 → (Nat → Int32) → (Nat → Int32) → (Nat → Int32) → Option (Int32 × (Nat → Int32) × (Nat → Int32) × (Nat → Int32) × (Nat → Int32) × (Nat → Int32) × (Nat → Int32) × (Nat → Int32) × (Nat → Int32) × Int32 × (Nat → Int32) × (Nat → Int32) × (Nat → Int32))) (f_roundMany : Nat → Int32) (f_blowMany : Nat → Int32) (f_judgeMany : Nat → Int32) (f_homes : Nat → Int32) (f_noises : Nat → Int32) (f_forwards : Nat → Int32) (f_downs : Nat → Int32) (f_takens : Nat → Int32) (i_place : Int32) (f_told : Nat → Int32) (f_judges : Nat → Int32) (f_blows : Nat → Int32) :
  Option (Int32 × (Nat → Int32) × (Nat → Int32) × (Nat → Int32) × (Nat → Int32) × (Nat → Int32) × (Nat → Int32) × (Nat → Int32) × (Nat → Int32) × Int32 × (Nat → Int32) × (Nat → Int32) × (Nat → Int32)) :=
  if i_length ≤ i_place then (some ((-4 : Int32), f_roundMany, f_blowMany, f_judgeMany, f_homes, f_noises, f_forwards, f_downs, f_takens, i_place, f_told, f_judges, f_blows)) else ((mX11_item i_length i_place f_blowMany f_blows f_downs f_forwards f_homes f_judgeMany f_judges f_noises f_roundMany f_takens f_text f_told).bind fun o4 =>
  if o4.1 = 0 then (some (i_place, o4.2.2.2.1, o4.2.2.2.2.2.2.2.2.2.2.2.2, o4.2.2.2.2.2.2.1, o4.2.2.2.2.2.2.2.1, o4.2.2.2.2.2.2.2.2.1, o4.2.2.2.2.2.2.2.2.2.1, o4.2.2.2.2.1, o4.2.2.2.2.2.2.2.2.2.2.1, o4.2.1, o4.2.2.1, o4.2.2.2.2.2.1, o4.2.2.2.2.2.2.2.2.2.2.2.1)) else (k10 o4.2.2.2.1 o4.2.2.2.2.2.2.2.2.2.2.2.2 o4.2.2.2.2.2.2.1 o4.2.2.2.2.2.2.2.1 o4.2.2.2.2.2.2.2.2.1 o4.2.2.2.2.2.2.2.2.2.1 o4.2.2.2.2.1 o4.2.2.2.2.2.2.2.2.2.2.1 o4.2.1 o4.2.2.1 o4.2.2.2.2.2.1 o4.2.2.2.2.2.2.2.2.2.2.2.1))
def mX11_readAll_L10 (i_length : Int32) (f_text : Nat → Int32) (n : Nat) (f_roundMany : Nat → Int32) (f_blowMany : Nat → Int32) (f_judgeMany : Nat → Int32) (f_homes : Nat → Int32) (f_noises : Nat → Int32) (f_forwards : Nat → Int32) (f_downs : Nat → Int32) (f_takens : Nat → Int32) (i_place : Int32) (f_told : Nat → Int32) (f_judges : Nat → Int32) (f_blows : Nat → Int32) :
  Option (Int32 × (Nat → Int32) × (Nat → Int32) × (Nat → Int32) × (Nat → Int32) × (Nat → Int32) × (Nat → Int32) × (Nat → Int32) × (Nat → Int32) × Int32 × (Nat → Int32) × (Nat → Int32) × (Nat → Int32)) :=
  loopN (fun k (s : (Nat → Int32) × (Nat → Int32) × (Nat → Int32) × (Nat → Int32) × (Nat → Int32) × (Nat → Int32) × (Nat → Int32) × (Nat → Int32) × Int32 × (Nat → Int32) × (Nat → Int32) × (Nat → Int32)) => mX11_readAll_B10 i_length f_text  (fun f_roundMany f_blowMany f_judgeMany f_homes f_noises f_forwards f_downs f_takens i_place f_told f_judges f_blows => k (f_roundMany, f_blowMany, f_judgeMany, f_homes, f_noises, f_forwards, f_downs, f_takens, i_place, f_told, f_judges, f_blows)) s.1 s.2.1 s.2.2.1 s.2.2.2.1 s.2.2.2.2.1 s.2.2.2.2.2.1 s.2.2.2.2.2.2.1 s.2.2.2.2.2.2.2.1 s.2.2.2.2.2.2.2.2.1 s.2.2.2.2.2.2.2.2.2.1 s.2.2.2.2.2.2.2.2.2.2.1 s.2.2.2.2.2.2.2.2.2.2.2) n (f_roundMany, f_blowMany, f_judgeMany, f_homes, f_noises, f_forwards, f_downs, f_takens, i_place, f_told, f_judges, f_blows)
def mX11_readAll (i_length : Int32) (i_place : Int32) (f_blowMany : Nat → Int32) (f_blows : Nat → Int32) (f_downs : Nat → Int32) (f_forwards : Nat → Int32) (f_homes : Nat → Int32) (f_judgeMany : Nat → Int32) (f_judges : Nat → Int32) (f_noises : Nat → Int32) (f_roundMany : Nat → Int32) (f_takens : Nat → Int32) (f_text : Nat → Int32) (f_told : Nat → Int32) :
  Option (Int32 × (Nat → Int32) × (Nat → Int32) × (Nat → Int32) × (Nat → Int32) × (Nat → Int32) × (Nat → Int32) × (Nat → Int32) × (Nat → Int32) × Int32 × (Nat → Int32) × (Nat → Int32) × (Nat → Int32)) :=
  (mX11_noFight (1 : Int32) f_blowMany f_downs f_forwards f_homes f_judgeMany f_noises f_roundMany f_takens).bind fun o1 =>
  mX11_readAll_L10 i_length f_text  FUEL o1.1 o1.2.1 o1.2.2.1 o1.2.2.2.1 o1.2.2.2.2.1 o1.2.2.2.2.2.1 o1.2.2.2.2.2.2.1 o1.2.2.2.2.2.2.2 (0 : Int32) f_told f_judges f_blows
def mX11_fault (i_length : Int32) (i_place : Int32) (f_blowMany : Nat → Int32) (f_blows : Nat → Int32) (f_downs : Nat → Int32) (f_forwards : Nat → Int32) (f_homes : Nat → Int32) (f_judgeMany : Nat → Int32) (f_judges : Nat → Int32) (f_noises : Nat → Int32) (f_roundMany : Nat → Int32) (f_takens : Nat → Int32) (f_text : Nat → Int32) (f_told : Nat → Int32) :
  Option (Int32 × (Nat → Int32) × (Nat → Int32) × (Nat → Int32) × (Nat → Int32) × (Nat → Int32) × (Nat → Int32) × (Nat → Int32) × (Nat → Int32) × Int32 × (Nat → Int32) × (Nat → Int32) × (Nat → Int32)) :=
  (mX11_readAll i_length i_place f_blowMany f_blows f_downs f_forwards f_homes f_judgeMany f_judges f_noises f_roundMany f_takens f_text f_told).bind fun o1 =>
  some (o1.1, o1.2.1, o1.2.2.1, o1.2.2.2.1, o1.2.2.2.2.1, o1.2.2.2.2.2.1, o1.2.2.2.2.2.2.1, o1.2.2.2.2.2.2.2.1, o1.2.2.2.2.2.2.2.2.1, o1.2.2.2.2.2.2.2.2.2.1, o1.2.2.2.2.2.2.2.2.2.2.1, o1.2.2.2.2.2.2.2.2.2.2.2.1, o1.2.2.2.2.2.2.2.2.2.2.2.2)
def mX11_lay_B203 (i_length : Int32) (f_text : Nat → Int32) (k203 : Int32 → (Nat → Int32) → (Nat → Int32) → (Nat → Int32) → (Nat → Int32) → (Nat → Int32) → (Nat → Int32) → (Nat → Int32) → (Nat → Int32) → Int32 → (Nat → Int32) → (Nat → Int32) → (Nat → Int32) → (Nat → Int32) → Int32 → Option (Int32 × (Nat → Int32) × (Nat → Int32) × (Nat → Int32) × (Nat → Int32) × (Nat → Int32) × (Nat → Int32) × (Nat → Int32) × (Nat → Int32) × Int32 × (Nat → Int32) × (Nat → Int32) × (Nat → Int32) × (Nat → Int32) × Int32)) (l1 : Int32) (f_roundMany : Nat → Int32) (f_blowMany : Nat → Int32) (f_judgeMany : Nat → Int32) (f_homes : Nat → Int32) (f_noises : Nat → Int32) (f_forwards : Nat → Int32) (f_downs : Nat → Int32) (f_takens : Nat → Int32) (i_place : Int32) (f_told : Nat → Int32) (f_judges : Nat → Int32) (f_blows : Nat → Int32) (f_delays : Nat → Int32) (i_keptMany : Int32) :
  Option (Int32 × (Nat → Int32) × (Nat → Int32) × (Nat → Int32) × (Nat → Int32) × (Nat → Int32) × (Nat → Int32) × (Nat → Int32) × (Nat → Int32) × Int32 × (Nat → Int32) × (Nat → Int32) × (Nat → Int32) × (Nat → Int32) × Int32) :=
  if (8 : Int32) ≤ l1 then (lb (f_judgeMany (0 : Int32).toNatClampNeg) fun v32 =>
  some (v32, f_roundMany, f_blowMany, f_judgeMany, f_homes, f_noises, f_forwards, f_downs, f_takens, i_place, f_told, f_judges, f_blows, f_delays, (0 : Int32))) else (gi l1 24 <|
  lb (upd f_delays l1.toNatClampNeg (0 : Int32)) fun g34 =>
  lb (l1 + (1 : Int32)) fun v35 =>
  k203 v35 f_roundMany f_blowMany f_judgeMany f_homes f_noises f_forwards f_downs f_takens i_place f_told f_judges f_blows g34 i_keptMany)
def mX11_lay_L203 (i_length : Int32) (f_text : Nat → Int32) (n : Nat) (l1 : Int32) (f_roundMany : Nat → Int32) (f_blowMany : Nat → Int32) (f_judgeMany : Nat → Int32) (f_homes : Nat → Int32) (f_noises : Nat → Int32) (f_forwards : Nat → Int32) (f_downs : Nat → Int32) (f_takens : Nat → Int32) (i_place : Int32) (f_told : Nat → Int32) (f_judges : Nat → Int32) (f_blows : Nat → Int32) (f_delays : Nat → Int32) (i_keptMany : Int32) :
  Option (Int32 × (Nat → Int32) × (Nat → Int32) × (Nat → Int32) × (Nat → Int32) × (Nat → Int32) × (Nat → Int32) × (Nat → Int32) × (Nat → Int32) × Int32 × (Nat → Int32) × (Nat → Int32) × (Nat → Int32) × (Nat → Int32) × Int32) :=
  loopN (fun k (s : Int32 × (Nat → Int32) × (Nat → Int32) × (Nat → Int32) × (Nat → Int32) × (Nat → Int32) × (Nat → Int32) × (Nat → Int32) × (Nat → Int32) × Int32 × (Nat → Int32) × (Nat → Int32) × (Nat → Int32) × (Nat → Int32) × Int32) => mX11_lay_B203 i_length f_text  (fun l1 f_roundMany f_blowMany f_judgeMany f_homes f_noises f_forwards f_downs f_takens i_place f_told f_judges f_blows f_delays i_keptMany => k (l1, f_roundMany, f_blowMany, f_judgeMany, f_homes, f_noises, f_forwards, f_downs, f_takens, i_place, f_told, f_judges, f_blows, f_delays, i_keptMany)) s.1 s.2.1 s.2.2.1 s.2.2.2.1 s.2.2.2.2.1 s.2.2.2.2.2.1 s.2.2.2.2.2.2.1 s.2.2.2.2.2.2.2.1 s.2.2.2.2.2.2.2.2.1 s.2.2.2.2.2.2.2.2.2.1 s.2.2.2.2.2.2.2.2.2.2.1 s.2.2.2.2.2.2.2.2.2.2.2.1 s.2.2.2.2.2.2.2.2.2.2.2.2.1 s.2.2.2.2.2.2.2.2.2.2.2.2.2.1 s.2.2.2.2.2.2.2.2.2.2.2.2.2.2) n (l1, f_roundMany, f_blowMany, f_judgeMany, f_homes, f_noises, f_forwards, f_downs, f_takens, i_place, f_told, f_judges, f_blows, f_delays, i_keptMany)
def mX11_lay_B144 (i_length : Int32) (f_text : Nat → Int32) (k144 : Int32 → (Nat → Int32) → (Nat → Int32) → (Nat → Int32) → (Nat → Int32) → (Nat → Int32) → (Nat → Int32) → (Nat → Int32) → (Nat → Int32) → Int32 → (Nat → Int32) → (Nat → Int32) → (Nat → Int32) → (Nat → Int32) → Int32 → Option (Int32 × (Nat → Int32) × (Nat → Int32) × (Nat → Int32) × (Nat → Int32) × (Nat → Int32) × (Nat → Int32) × (Nat → Int32) × (Nat → Int32) × Int32 × (Nat → Int32) × (Nat → Int32) × (Nat → Int32) × (Nat → Int32) × Int32)) (l1 : Int32) (f_roundMany : Nat → Int32) (f_blowMany : Nat → Int32) (f_judgeMany : Nat → Int32) (f_homes : Nat → Int32) (f_noises : Nat → Int32) (f_forwards : Nat → Int32) (f_downs : Nat → Int32) (f_takens : Nat → Int32) (i_place : Int32) (f_told : Nat → Int32) (f_judges : Nat → Int32) (f_blows : Nat → Int32) (f_delays : Nat → Int32) (i_keptMany : Int32) :
  Option (Int32 × (Nat → Int32) × (Nat → Int32) × (Nat → Int32) × (Nat → Int32) × (Nat → Int32) × (Nat → Int32) × (Nat → Int32) × (Nat → Int32) × Int32 × (Nat → Int32) × (Nat → Int32) × (Nat → Int32) × (Nat → Int32) × Int32) :=
  if (24 : Int32) ≤ l1 then (mX11_lay_L203 i_length f_text  FUEL (0 : Int32) f_roundMany f_blowMany f_judgeMany f_homes f_noises f_forwards f_downs f_takens i_place f_told f_judges f_blows f_delays i_keptMany) else (gi ((24 : Int32) + l1) 48 <|
  gi l1 48 <|
  lb (upd f_forwards l1.toNatClampNeg (f_forwards ((24 : Int32) + l1).toNatClampNeg)) fun g23 =>
  gi ((24 : Int32) + l1) 48 <|
  gi l1 48 <|
  lb (upd f_downs l1.toNatClampNeg (f_downs ((24 : Int32) + l1).toNatClampNeg)) fun g26 =>
  gi ((24 : Int32) + l1) 48 <|
  gi l1 48 <|
  lb (upd f_takens l1.toNatClampNeg (f_takens ((24 : Int32) + l1).toNatClampNeg)) fun g29 =>
  lb (l1 + (1 : Int32)) fun v30 =>
  k144 v30 f_roundMany f_blowMany f_judgeMany f_homes f_noises g23 g26 g29 i_place f_told f_judges f_blows f_delays i_keptMany)
def mX11_lay_L144 (i_length : Int32) (f_text : Nat → Int32) (n : Nat) (l1 : Int32) (f_roundMany : Nat → Int32) (f_blowMany : Nat → Int32) (f_judgeMany : Nat → Int32) (f_homes : Nat → Int32) (f_noises : Nat → Int32) (f_forwards : Nat → Int32) (f_downs : Nat → Int32) (f_takens : Nat → Int32) (i_place : Int32) (f_told : Nat → Int32) (f_judges : Nat → Int32) (f_blows : Nat → Int32) (f_delays : Nat → Int32) (i_keptMany : Int32) :
  Option (Int32 × (Nat → Int32) × (Nat → Int32) × (Nat → Int32) × (Nat → Int32) × (Nat → Int32) × (Nat → Int32) × (Nat → Int32) × (Nat → Int32) × Int32 × (Nat → Int32) × (Nat → Int32) × (Nat → Int32) × (Nat → Int32) × Int32) :=
  loopN (fun k (s : Int32 × (Nat → Int32) × (Nat → Int32) × (Nat → Int32) × (Nat → Int32) × (Nat → Int32) × (Nat → Int32) × (Nat → Int32) × (Nat → Int32) × Int32 × (Nat → Int32) × (Nat → Int32) × (Nat → Int32) × (Nat → Int32) × Int32) => mX11_lay_B144 i_length f_text  (fun l1 f_roundMany f_blowMany f_judgeMany f_homes f_noises f_forwards f_downs f_takens i_place f_told f_judges f_blows f_delays i_keptMany => k (l1, f_roundMany, f_blowMany, f_judgeMany, f_homes, f_noises, f_forwards, f_downs, f_takens, i_place, f_told, f_judges, f_blows, f_delays, i_keptMany)) s.1 s.2.1 s.2.2.1 s.2.2.2.1 s.2.2.2.2.1 s.2.2.2.2.2.1 s.2.2.2.2.2.2.1 s.2.2.2.2.2.2.2.1 s.2.2.2.2.2.2.2.2.1 s.2.2.2.2.2.2.2.2.2.1 s.2.2.2.2.2.2.2.2.2.2.1 s.2.2.2.2.2.2.2.2.2.2.2.1 s.2.2.2.2.2.2.2.2.2.2.2.2.1 s.2.2.2.2.2.2.2.2.2.2.2.2.2.1 s.2.2.2.2.2.2.2.2.2.2.2.2.2.2) n (l1, f_roundMany, f_blowMany, f_judgeMany, f_homes, f_noises, f_forwards, f_downs, f_takens, i_place, f_told, f_judges, f_blows, f_delays, i_keptMany)
def mX11_lay_B115 (i_length : Int32) (f_text : Nat → Int32) (k115 : Int32 → (Nat → Int32) → (Nat → Int32) → (Nat → Int32) → (Nat → Int32) → (Nat → Int32) → (Nat → Int32) → (Nat → Int32) → (Nat → Int32) → Int32 → (Nat → Int32) → (Nat → Int32) → (Nat → Int32) → (Nat → Int32) → Int32 → Option (Int32 × (Nat → Int32) × (Nat → Int32) × (Nat → Int32) × (Nat → Int32) × (Nat → Int32) × (Nat → Int32) × (Nat → Int32) × (Nat → Int32) × Int32 × (Nat → Int32) × (Nat → Int32) × (Nat → Int32) × (Nat → Int32) × Int32)) (l1 : Int32) (f_roundMany : Nat → Int32) (f_blowMany : Nat → Int32) (f_judgeMany : Nat → Int32) (f_homes : Nat → Int32) (f_noises : Nat → Int32) (f_forwards : Nat → Int32) (f_downs : Nat → Int32) (f_takens : Nat → Int32) (i_place : Int32) (f_told : Nat → Int32) (f_judges : Nat → Int32) (f_blows : Nat → Int32) (f_delays : Nat → Int32) (i_keptMany : Int32) :
  Option (Int32 × (Nat → Int32) × (Nat → Int32) × (Nat → Int32) × (Nat → Int32) × (Nat → Int32) × (Nat → Int32) × (Nat → Int32) × (Nat → Int32) × Int32 × (Nat → Int32) × (Nat → Int32) × (Nat → Int32) × (Nat → Int32) × Int32) :=
  if (56 : Int32) ≤ l1 then (mX11_lay_L144 i_length f_text  FUEL (0 : Int32) f_roundMany f_blowMany f_judgeMany f_homes f_noises f_forwards f_downs f_takens i_place f_told f_judges f_blows f_delays i_keptMany) else (gi ((56 : Int32) + l1) 112 <|
  gi l1 112 <|
  lb (upd f_judges l1.toNatClampNeg (f_judges ((56 : Int32) + l1).toNatClampNeg)) fun g18 =>
  lb (l1 + (1 : Int32)) fun v19 =>
  k115 v19 f_roundMany f_blowMany f_judgeMany f_homes f_noises f_forwards f_downs f_takens i_place f_told g18 f_blows f_delays i_keptMany)
def mX11_lay_L115 (i_length : Int32) (f_text : Nat → Int32) (n : Nat) (l1 : Int32) (f_roundMany : Nat → Int32) (f_blowMany : Nat → Int32) (f_judgeMany : Nat → Int32) (f_homes : Nat → Int32) (f_noises : Nat → Int32) (f_forwards : Nat → Int32) (f_downs : Nat → Int32) (f_takens : Nat → Int32) (i_place : Int32) (f_told : Nat → Int32) (f_judges : Nat → Int32) (f_blows : Nat → Int32) (f_delays : Nat → Int32) (i_keptMany : Int32) :
  Option (Int32 × (Nat → Int32) × (Nat → Int32) × (Nat → Int32) × (Nat → Int32) × (Nat → Int32) × (Nat → Int32) × (Nat → Int32) × (Nat → Int32) × Int32 × (Nat → Int32) × (Nat → Int32) × (Nat → Int32) × (Nat → Int32) × Int32) :=
  loopN (fun k (s : Int32 × (Nat → Int32) × (Nat → Int32) × (Nat → Int32) × (Nat → Int32) × (Nat → Int32) × (Nat → Int32) × (Nat → Int32) × (Nat → Int32) × Int32 × (Nat → Int32) × (Nat → Int32) × (Nat → Int32) × (Nat → Int32) × Int32) => mX11_lay_B115 i_length f_text  (fun l1 f_roundMany f_blowMany f_judgeMany f_homes f_noises f_forwards f_downs f_takens i_place f_told f_judges f_blows f_delays i_keptMany => k (l1, f_roundMany, f_blowMany, f_judgeMany, f_homes, f_noises, f_forwards, f_downs, f_takens, i_place, f_told, f_judges, f_blows, f_delays, i_keptMany)) s.1 s.2.1 s.2.2.1 s.2.2.2.1 s.2.2.2.2.1 s.2.2.2.2.2.1 s.2.2.2.2.2.2.1 s.2.2.2.2.2.2.2.1 s.2.2.2.2.2.2.2.2.1 s.2.2.2.2.2.2.2.2.2.1 s.2.2.2.2.2.2.2.2.2.2.1 s.2.2.2.2.2.2.2.2.2.2.2.1 s.2.2.2.2.2.2.2.2.2.2.2.2.1 s.2.2.2.2.2.2.2.2.2.2.2.2.2.1 s.2.2.2.2.2.2.2.2.2.2.2.2.2.2) n (l1, f_roundMany, f_blowMany, f_judgeMany, f_homes, f_noises, f_forwards, f_downs, f_takens, i_place, f_told, f_judges, f_blows, f_delays, i_keptMany)
def mX11_lay_B84 (i_length : Int32) (f_text : Nat → Int32) (k84 : Int32 → (Nat → Int32) → (Nat → Int32) → (Nat → Int32) → (Nat → Int32) → (Nat → Int32) → (Nat → Int32) → (Nat → Int32) → (Nat → Int32) → Int32 → (Nat → Int32) → (Nat → Int32) → (Nat → Int32) → (Nat → Int32) → Int32 → Option (Int32 × (Nat → Int32) × (Nat → Int32) × (Nat → Int32) × (Nat → Int32) × (Nat → Int32) × (Nat → Int32) × (Nat → Int32) × (Nat → Int32) × Int32 × (Nat → Int32) × (Nat → Int32) × (Nat → Int32) × (Nat → Int32) × Int32)) (l1 : Int32) (f_roundMany : Nat → Int32) (f_blowMany : Nat → Int32) (f_judgeMany : Nat → Int32) (f_homes : Nat → Int32) (f_noises : Nat → Int32) (f_forwards : Nat → Int32) (f_downs : Nat → Int32) (f_takens : Nat → Int32) (i_place : Int32) (f_told : Nat → Int32) (f_judges : Nat → Int32) (f_blows : Nat → Int32) (f_delays : Nat → Int32) (i_keptMany : Int32) :
  Option (Int32 × (Nat → Int32) × (Nat → Int32) × (Nat → Int32) × (Nat → Int32) × (Nat → Int32) × (Nat → Int32) × (Nat → Int32) × (Nat → Int32) × Int32 × (Nat → Int32) × (Nat → Int32) × (Nat → Int32) × (Nat → Int32) × Int32) :=
  if (200 : Int32) ≤ l1 then (mX11_lay_L115 i_length f_text  FUEL (0 : Int32) f_roundMany f_blowMany f_judgeMany f_homes f_noises f_forwards f_downs f_takens i_place f_told f_judges f_blows f_delays i_keptMany) else (gi ((200 : Int32) + l1) 400 <|
  gi l1 400 <|
  lb (upd f_blows l1.toNatClampNeg (f_blows ((200 : Int32) + l1).toNatClampNeg)) fun g13 =>
  lb (l1 + (1 : Int32)) fun v14 =>
  k84 v14 f_roundMany f_blowMany f_judgeMany f_homes f_noises f_forwards f_downs f_takens i_place f_told f_judges g13 f_delays i_keptMany)
def mX11_lay_L84 (i_length : Int32) (f_text : Nat → Int32) (n : Nat) (l1 : Int32) (f_roundMany : Nat → Int32) (f_blowMany : Nat → Int32) (f_judgeMany : Nat → Int32) (f_homes : Nat → Int32) (f_noises : Nat → Int32) (f_forwards : Nat → Int32) (f_downs : Nat → Int32) (f_takens : Nat → Int32) (i_place : Int32) (f_told : Nat → Int32) (f_judges : Nat → Int32) (f_blows : Nat → Int32) (f_delays : Nat → Int32) (i_keptMany : Int32) :
  Option (Int32 × (Nat → Int32) × (Nat → Int32) × (Nat → Int32) × (Nat → Int32) × (Nat → Int32) × (Nat → Int32) × (Nat → Int32) × (Nat → Int32) × Int32 × (Nat → Int32) × (Nat → Int32) × (Nat → Int32) × (Nat → Int32) × Int32) :=
  loopN (fun k (s : Int32 × (Nat → Int32) × (Nat → Int32) × (Nat → Int32) × (Nat → Int32) × (Nat → Int32) × (Nat → Int32) × (Nat → Int32) × (Nat → Int32) × Int32 × (Nat → Int32) × (Nat → Int32) × (Nat → Int32) × (Nat → Int32) × Int32) => mX11_lay_B84 i_length f_text  (fun l1 f_roundMany f_blowMany f_judgeMany f_homes f_noises f_forwards f_downs f_takens i_place f_told f_judges f_blows f_delays i_keptMany => k (l1, f_roundMany, f_blowMany, f_judgeMany, f_homes, f_noises, f_forwards, f_downs, f_takens, i_place, f_told, f_judges, f_blows, f_delays, i_keptMany)) s.1 s.2.1 s.2.2.1 s.2.2.2.1 s.2.2.2.2.1 s.2.2.2.2.2.1 s.2.2.2.2.2.2.1 s.2.2.2.2.2.2.2.1 s.2.2.2.2.2.2.2.2.1 s.2.2.2.2.2.2.2.2.2.1 s.2.2.2.2.2.2.2.2.2.2.1 s.2.2.2.2.2.2.2.2.2.2.2.1 s.2.2.2.2.2.2.2.2.2.2.2.2.1 s.2.2.2.2.2.2.2.2.2.2.2.2.2.1 s.2.2.2.2.2.2.2.2.2.2.2.2.2.2) n (l1, f_roundMany, f_blowMany, f_judgeMany, f_homes, f_noises, f_forwards, f_downs, f_takens, i_place, f_told, f_judges, f_blows, f_delays, i_keptMany)
def mX11_lay (i_length : Int32) (i_keptMany : Int32) (i_place : Int32) (f_blowMany : Nat → Int32) (f_blows : Nat → Int32) (f_delays : Nat → Int32) (f_downs : Nat → Int32) (f_forwards : Nat → Int32) (f_homes : Nat → Int32) (f_judgeMany : Nat → Int32) (f_judges : Nat → Int32) (f_noises : Nat → Int32) (f_roundMany : Nat → Int32) (f_takens : Nat → Int32) (f_text : Nat → Int32) (f_told : Nat → Int32) :
  Option (Int32 × (Nat → Int32) × (Nat → Int32) × (Nat → Int32) × (Nat → Int32) × (Nat → Int32) × (Nat → Int32) × (Nat → Int32) × (Nat → Int32) × Int32 × (Nat → Int32) × (Nat → Int32) × (Nat → Int32) × (Nat → Int32) × Int32) :=
  (mX11_readAll i_length i_place f_blowMany f_blows f_downs f_forwards f_homes f_judgeMany f_judges f_noises f_roundMany f_takens f_text f_told).bind fun o1 =>
  if o1.1 = (-4 : Int32) then (if (3 : Int32) ≤ (o1.2.2.2.1 (1 : Int32).toNatClampNeg) then (lb (upd o1.2.1 (0 : Int32).toNatClampNeg (o1.2.1 (1 : Int32).toNatClampNeg)) fun g5 =>
  lb (upd o1.2.2.1 (0 : Int32).toNatClampNeg (o1.2.2.1 (1 : Int32).toNatClampNeg)) fun g6 =>
  lb (upd o1.2.2.2.1 (0 : Int32).toNatClampNeg (o1.2.2.2.1 (1 : Int32).toNatClampNeg)) fun g7 =>
  lb (upd o1.2.2.2.2.1 (0 : Int32).toNatClampNeg (o1.2.2.2.2.1 (1 : Int32).toNatClampNeg)) fun g8 =>
  lb (upd o1.2.2.2.2.2.1 (0 : Int32).toNatClampNeg (o1.2.2.2.2.2.1 (1 : Int32).toNatClampNeg)) fun g9 =>
  mX11_lay_L84 i_length f_text  FUEL (0 : Int32) g5 g6 g7 g8 g9 o1.2.2.2.2.2.2.1 o1.2.2.2.2.2.2.2.1 o1.2.2.2.2.2.2.2.2.1 o1.2.2.2.2.2.2.2.2.2.1 o1.2.2.2.2.2.2.2.2.2.2.1 o1.2.2.2.2.2.2.2.2.2.2.2.1 o1.2.2.2.2.2.2.2.2.2.2.2.2 f_delays i_keptMany) else (some ((-2 : Int32), o1.2.1, o1.2.2.1, o1.2.2.2.1, o1.2.2.2.2.1, o1.2.2.2.2.2.1, o1.2.2.2.2.2.2.1, o1.2.2.2.2.2.2.2.1, o1.2.2.2.2.2.2.2.2.1, o1.2.2.2.2.2.2.2.2.2.1, o1.2.2.2.2.2.2.2.2.2.2.1, o1.2.2.2.2.2.2.2.2.2.2.2.1, o1.2.2.2.2.2.2.2.2.2.2.2.2, f_delays, i_keptMany))) else (some ((-2 : Int32), o1.2.1, o1.2.2.1, o1.2.2.2.1, o1.2.2.2.2.1, o1.2.2.2.2.2.1, o1.2.2.2.2.2.2.1, o1.2.2.2.2.2.2.2.1, o1.2.2.2.2.2.2.2.2.1, o1.2.2.2.2.2.2.2.2.2.1, o1.2.2.2.2.2.2.2.2.2.2.1, o1.2.2.2.2.2.2.2.2.2.2.2.1, o1.2.2.2.2.2.2.2.2.2.2.2.2, f_delays, i_keptMany))
def mX11_isJudge (x0 : Int32) (f_judgeMany : Nat → Int32) :
  Option (Int32) :=
  (mX11_in (Int32.toInt64 x0) (0 : Int64) (Int32.toInt64 ((f_judgeMany (0 : Int32).toNatClampNeg) - (1 : Int32)))).bind fun o1 =>
  gz o1 <|
  some o1
def mX11_isRound (x0 : Int32) (f_roundMany : Nat → Int32) :
  Option (Int32) :=
  (mX11_in (Int32.toInt64 x0) (0 : Int64) (Int32.toInt64 ((f_roundMany (0 : Int32).toNatClampNeg) - (1 : Int32)))).bind fun o1 =>
  gz o1 <|
  some o1
def mX11_shows_B26 (x0 : Int32) (x1 : Int32) :
  Option (Int32) :=
  some (1 : Int32)
def mX11_shows_B14 (x0 : Int32) (x1 : Int32) (s0 : Int32) :
  Option (Int32) :=
  if s0 ≤ (4 : Int32) then (mX11_shows_B26 x0 x1  ) else (if s0 < (8 : Int32) then (some (0 : Int32)) else (mX11_shows_B26 x0 x1  ))
def mX11_shows (x0 : Int32) (x1 : Int32) :
  Option (Int32) :=
  if x1 ≤ x0 then (mX11_shows_B14 x0 x1  (x0 - x1)) else (mX11_shows_B14 x0 x1  (x1 - x0))
def mX11_sees (x0 : Int32) (x1 : Int32) (f_blows : Nat → Int32) (f_judges : Nat → Int32) :
  Option (Int32) :=
  gi ((7 : Int32) * x0) 112 <|
  gi (((5 : Int32) * x1) + (4 : Int32)) 400 <|
  (mX11_shows (f_judges ((7 : Int32) * x0).toNatClampNeg) (f_blows (((5 : Int32) * x1) + (4 : Int32)).toNatClampNeg)).bind fun o3 =>
  gz o3 <|
  some o3
def mX11_blow_B53 (x0 : Int32) (x1 : Int32) (f_blowMany : Nat → Int32) (f_blows : Nat → Int32) (f_judgeMany : Nat → Int32) (f_judges : Nat → Int32) (k53 : Int32 → Int32 → Option (Int32)) (l3 : Int32) (l4 : Int32) :
  Option (Int32) :=
  if (f_judgeMany (0 : Int32).toNatClampNeg) ≤ l4 then (some l3) else ((mX11_sees l4 x0 f_blows f_judges).bind fun o11 =>
  if o11 = 0 then (lb (l3 ||| (0 : Int32)) fun v14 =>
  lb (l4 + (1 : Int32)) fun v15 =>
  k53 v14 v15) else (lb (l3 ||| ((1 : Int32) <<< (l4 &&& 31))) fun v16 =>
  lb (l4 + (1 : Int32)) fun v17 =>
  k53 v16 v17))
def mX11_blow_L53 (x0 : Int32) (x1 : Int32) (f_blowMany : Nat → Int32) (f_blows : Nat → Int32) (f_judgeMany : Nat → Int32) (f_judges : Nat → Int32) (n : Nat) (l3 : Int32) (l4 : Int32) :
  Option (Int32) :=
  loopN (fun k (s : Int32 × Int32) => mX11_blow_B53 x0 x1 f_blowMany f_blows f_judgeMany f_judges  (fun l3 l4 => k (l3, l4)) s.1 s.2) n (l3, l4)
def mX11_blow (x0 : Int32) (x1 : Int32) (f_blowMany : Nat → Int32) (f_blows : Nat → Int32) (f_judgeMany : Nat → Int32) (f_judges : Nat → Int32) :
  Option (Int32) :=
  (mX11_in (Int32.toInt64 x0) (0 : Int64) (Int32.toInt64 ((f_blowMany (0 : Int32).toNatClampNeg) - (1 : Int32)))).bind fun o1 =>
  if o1 = 0 then (some (-1 : Int32)) else ((mX11_in (Int32.toInt64 x1) (0 : Int64) (5 : Int64)).bind fun o4 =>
  if o4 = 0 then (some (-1 : Int32)) else (if (5 : Int32) ≤ x1 then (mX11_blow_L53 x0 x1 f_blowMany f_blows f_judgeMany f_judges  FUEL (0 : Int32) (0 : Int32)) else (gi (((5 : Int32) * x0) + x1) 400 <|
  lb (f_blows (((5 : Int32) * x0) + x1).toNatClampNeg) fun v9 =>
  some v9)))
def mX11_sumOf_B132 (x0 : Int32) (x1 : Int32) (x2 : Int32) (f_blowMany : Nat → Int32) (f_blows : Nat → Int32) (f_forwards : Nat → Int32) (f_homes : Nat → Int32) (f_judges : Nat → Int32) (f_noises : Nat → Int32) (k27 : Int32 → Int32 → Option (Int32)) (l4 : Int32) (l5 : Int32) (l6 : Int32) (s0 : Int32) :
  Option (Int32) :=
  (mX11_sees x0 l5 f_blows f_judges).bind fun o16 =>
  if o16 = 0 then (lb (l4 + s0) fun v19 =>
  lb (l5 + (1 : Int32)) fun v20 =>
  k27 v19 v20) else (gi (((7 : Int32) * x0) + (1 : Int32)) 112 <|
  gi (((5 : Int32) * l5) + (3 : Int32)) 400 <|
  lb (l4 + (((f_judges (((7 : Int32) * x0) + (1 : Int32)).toNatClampNeg) * (f_blows (((5 : Int32) * l5) + (3 : Int32)).toNatClampNeg)) * l6)) fun v23 =>
  lb (l5 + (1 : Int32)) fun v24 =>
  k27 v23 v24)
def mX11_sumOf_B98 (x0 : Int32) (x1 : Int32) (x2 : Int32) (f_blowMany : Nat → Int32) (f_blows : Nat → Int32) (f_forwards : Nat → Int32) (f_homes : Nat → Int32) (f_judges : Nat → Int32) (f_noises : Nat → Int32) (k27 : Int32 → Int32 → Option (Int32)) (l4 : Int32) (l5 : Int32) (s0 : Int32) :
  Option (Int32) :=
  if (f_homes (0 : Int32).toNatClampNeg) = x2 then (gi (((7 : Int32) * x0) + (5 : Int32)) 112 <|
  mX11_sumOf_B132 x0 x1 x2 f_blowMany f_blows f_forwards f_homes f_judges f_noises k27 l4 l5 s0 ((f_noises (0 : Int32).toNatClampNeg) * (f_judges (((7 : Int32) * x0) + (5 : Int32)).toNatClampNeg))) else (mX11_sumOf_B132 x0 x1 x2 f_blowMany f_blows f_forwards f_homes f_judges f_noises k27 l4 l5 s0 (0 : Int32))
def mX11_sumOf_B27 (x0 : Int32) (x1 : Int32) (x2 : Int32) (f_blowMany : Nat → Int32) (f_blows : Nat → Int32) (f_forwards : Nat → Int32) (f_homes : Nat → Int32) (f_judges : Nat → Int32) (f_noises : Nat → Int32) (k27 : Int32 → Int32 → Option (Int32)) (l4 : Int32) (l5 : Int32) :
  Option (Int32) :=
  if (f_blowMany (0 : Int32).toNatClampNeg) ≤ l5 then (some l4) else (gi ((5 : Int32) * l5) 400 <|
  if (f_blows ((5 : Int32) * l5).toNatClampNeg) = x1 then (gi (((5 : Int32) * l5) + (2 : Int32)) 400 <|
  if (f_blows (((5 : Int32) * l5) + (2 : Int32)).toNatClampNeg) = x2 then (gi (((5 : Int32) * l5) + (1 : Int32)) 400 <|
  if (f_blows (((5 : Int32) * l5) + (1 : Int32)).toNatClampNeg) < (170 : Int32) then (mX11_sumOf_B98 x0 x1 x2 f_blowMany f_blows f_forwards f_homes f_judges f_noises k27 l4 l5 (1 : Int32)) else (gi (((7 : Int32) * x0) + (4 : Int32)) 112 <|
  mX11_sumOf_B98 x0 x1 x2 f_blowMany f_blows f_forwards f_homes f_judges f_noises k27 l4 l5 (f_judges (((7 : Int32) * x0) + (4 : Int32)).toNatClampNeg))) else (lb (l5 + (1 : Int32)) fun v10 =>
  k27 l4 v10)) else (lb (l5 + (1 : Int32)) fun v7 =>
  k27 l4 v7))
def mX11_sumOf_L27 (x0 : Int32) (x1 : Int32) (x2 : Int32) (f_blowMany : Nat → Int32) (f_blows : Nat → Int32) (f_forwards : Nat → Int32) (f_homes : Nat → Int32) (f_judges : Nat → Int32) (f_noises : Nat → Int32) (n : Nat) (l4 : Int32) (l5 : Int32) :
  Option (Int32) :=
  loopN (fun k (s : Int32 × Int32) => mX11_sumOf_B27 x0 x1 x2 f_blowMany f_blows f_forwards f_homes f_judges f_noises  (fun l4 l5 => k (l4, l5)) s.1 s.2) n (l4, l5)
def mX11_sumOf (x0 : Int32) (x1 : Int32) (x2 : Int32) (f_blowMany : Nat → Int32) (f_blows : Nat → Int32) (f_forwards : Nat → Int32) (f_homes : Nat → Int32) (f_judges : Nat → Int32) (f_noises : Nat → Int32) :
  Option (Int32) :=
  gi (((7 : Int32) * x0) + (2 : Int32)) 112 <|
  gi (((2 : Int32) * x1) + x2) 48 <|
  lb ((f_judges (((7 : Int32) * x0) + (2 : Int32)).toNatClampNeg) * (f_forwards (((2 : Int32) * x1) + x2).toNatClampNeg)) fun v3 =>
  mX11_sumOf_L27 x0 x1 x2 f_blowMany f_blows f_forwards f_homes f_judges f_noises  FUEL v3 (0 : Int32)
def mX11_leadOf (x0 : Int32) (x1 : Int32) (f_blowMany : Nat → Int32) (f_blows : Nat → Int32) (f_forwards : Nat → Int32) (f_homes : Nat → Int32) (f_judges : Nat → Int32) (f_noises : Nat → Int32) :
  Option (Int32) :=
  (mX11_sumOf x0 x1 (0 : Int32) f_blowMany f_blows f_forwards f_homes f_judges f_noises).bind fun o1 =>
  (mX11_sumOf x0 x1 (1 : Int32) f_blowMany f_blows f_forwards f_homes f_judges f_noises).bind fun o3 =>
  gi (((7 : Int32) * x0) + (3 : Int32)) 112 <|
  lb (((o1 - o3) + (f_judges (((7 : Int32) * x0) + (3 : Int32)).toNatClampNeg)) - (20 : Int32)) fun v6 =>
  some v6
def mX11_isClose (x0 : Int32) (x1 : Int32) (f_blowMany : Nat → Int32) (f_blows : Nat → Int32) (f_forwards : Nat → Int32) (f_homes : Nat → Int32) (f_judges : Nat → Int32) (f_noises : Nat → Int32) :
  Option (Int32) :=
  (mX11_leadOf x0 x1 f_blowMany f_blows f_forwards f_homes f_judges f_noises).bind fun o1 =>
  gi (((7 : Int32) * x0) + (6 : Int32)) 112 <|
  gi (((7 : Int32) * x0) + (6 : Int32)) 112 <|
  (mX11_in (Int32.toInt64 o1) (Int32.toInt64 (-(f_judges (((7 : Int32) * x0) + (6 : Int32)).toNatClampNeg))) (Int32.toInt64 (f_judges (((7 : Int32) * x0) + (6 : Int32)).toNatClampNeg))).bind fun o5 =>
  gz o5 <|
  some o5
def mX11_sum (x0 : Int32) (x1 : Int32) (x2 : Int32) (f_blowMany : Nat → Int32) (f_blows : Nat → Int32) (f_forwards : Nat → Int32) (f_homes : Nat → Int32) (f_judgeMany : Nat → Int32) (f_judges : Nat → Int32) (f_noises : Nat → Int32) (f_roundMany : Nat → Int32) :
  Option (Int32) :=
  (mX11_isJudge x0 f_judgeMany).bind fun o1 =>
  if o1 = 0 then (some (-1 : Int32)) else ((mX11_isRound x1 f_roundMany).bind fun o4 =>
  if o4 = 0 then (some (-1 : Int32)) else ((mX11_in (Int32.toInt64 x2) (0 : Int64) (1 : Int64)).bind fun o7 =>
  if o7 = 0 then (some (-1 : Int32)) else ((mX11_sumOf x0 x1 x2 f_blowMany f_blows f_forwards f_homes f_judges f_noises).bind fun o10 =>
  some o10)))
def mX11_lead (x0 : Int32) (x1 : Int32) (f_blowMany : Nat → Int32) (f_blows : Nat → Int32) (f_forwards : Nat → Int32) (f_homes : Nat → Int32) (f_judgeMany : Nat → Int32) (f_judges : Nat → Int32) (f_noises : Nat → Int32) (f_roundMany : Nat → Int32) :
  Option (Int32) :=
  (mX11_isJudge x0 f_judgeMany).bind fun o1 =>
  if o1 = 0 then (some (-100001 : Int32)) else ((mX11_isRound x1 f_roundMany).bind fun o4 =>
  if o4 = 0 then (some (-100001 : Int32)) else ((mX11_leadOf x0 x1 f_blowMany f_blows f_forwards f_homes f_judges f_noises).bind fun o7 =>
  some o7))
def mX11_close (x0 : Int32) (x1 : Int32) (f_blowMany : Nat → Int32) (f_blows : Nat → Int32) (f_forwards : Nat → Int32) (f_homes : Nat → Int32) (f_judgeMany : Nat → Int32) (f_judges : Nat → Int32) (f_noises : Nat → Int32) (f_roundMany : Nat → Int32) :
  Option (Int32) :=
  (mX11_isJudge x0 f_judgeMany).bind fun o1 =>
  if o1 = 0 then (some (-1 : Int32)) else ((mX11_isRound x1 f_roundMany).bind fun o4 =>
  if o4 = 0 then (some (-1 : Int32)) else ((mX11_isClose x0 x1 f_blowMany f_blows f_forwards f_homes f_judges f_noises).bind fun o7 =>
  if o7 = 0 then (some (0 : Int32)) else (some (1 : Int32))))
def mX11_side_B2 (x0 : Int32) (x1 : Int32) (f_blowMany : Nat → Int32) (f_blows : Nat → Int32) (f_forwards : Nat → Int32) (f_homes : Nat → Int32) (f_judges : Nat → Int32) (f_noises : Nat → Int32) (k2 : Int32 → Option (Int32)) (l3 : Int32) :
  Option (Int32) :=
  if l3 < 0 then (some (1 : Int32)) else ((mX11_leadOf x0 l3 f_blowMany f_blows f_forwards f_homes f_judges f_noises).bind fun o2 =>
  if o2 = 0 then (lb (l3 + (-1 : Int32)) fun v5 =>
  k2 v5) else (if o2 ≤ 0 then (some (-1 : Int32)) else (some (1 : Int32))))
def mX11_side_L2 (x0 : Int32) (x1 : Int32) (f_blowMany : Nat → Int32) (f_blows : Nat → Int32) (f_forwards : Nat → Int32) (f_homes : Nat → Int32) (f_judges : Nat → Int32) (f_noises : Nat → Int32) (n : Nat) (l3 : Int32) :
  Option (Int32) :=
  loopN (fun k (s : Int32) => mX11_side_B2 x0 x1 f_blowMany f_blows f_forwards f_homes f_judges f_noises  (k) s) n (l3)
def mX11_side (x0 : Int32) (x1 : Int32) (f_blowMany : Nat → Int32) (f_blows : Nat → Int32) (f_forwards : Nat → Int32) (f_homes : Nat → Int32) (f_judges : Nat → Int32) (f_noises : Nat → Int32) :
  Option (Int32) :=
  mX11_side_L2 x0 x1 f_blowMany f_blows f_forwards f_homes f_judges f_noises  FUEL x1
def mX11_bound (x0 : Int32) (x1 : Int32) :
  Option (Int32) :=
  if x0 ≤ x1 then (if (-x1) ≤ x0 then (some x0) else (lb (-x1) fun v3 =>
  some v3)) else (some x1)
def mX11_downOf (x0 : Int32) (f_downs : Nat → Int32) :
  Option (Int32) :=
  gi (((2 : Int32) * x0) + (1 : Int32)) 48 <|
  gi ((2 : Int32) * x0) 48 <|
  lb ((f_downs (((2 : Int32) * x0) + (1 : Int32)).toNatClampNeg) - (f_downs ((2 : Int32) * x0).toNatClampNeg)) fun v3 =>
  some v3
def mX11_margin0_B111 (x0 : Int32) (x1 : Int32) (x2 : Int32) (x3 : Int32) (f_blowMany : Nat → Int32) (f_blows : Nat → Int32) (f_downs : Nat → Int32) (f_forwards : Nat → Int32) (f_homes : Nat → Int32) (f_judges : Nat → Int32) (f_noises : Nat → Int32) (s0 : Int32) :
  Option (Int32) :=
  (mX11_downOf x2 f_downs).bind fun o22 =>
  (mX11_bound (s0 + ((2 : Int32) * o22)) (8 : Int32)).bind fun o24 =>
  some o24
def mX11_margin0_B82 (x0 : Int32) (x1 : Int32) (x2 : Int32) (x3 : Int32) (f_blowMany : Nat → Int32) (f_blows : Nat → Int32) (f_downs : Nat → Int32) (f_forwards : Nat → Int32) (f_homes : Nat → Int32) (f_judges : Nat → Int32) (f_noises : Nat → Int32) (s0 : Int32) :
  Option (Int32) :=
  if x3 = 0 then ((mX11_side x1 x2 f_blowMany f_blows f_forwards f_homes f_judges f_noises).bind fun o12 =>
  mX11_margin0_B111 x0 x1 x2 x3 f_blowMany f_blows f_downs f_forwards f_homes f_judges f_noises  (s0 * o12)) else ((mX11_side x1 x2 f_blowMany f_blows f_forwards f_homes f_judges f_noises).bind fun o14 =>
  mX11_margin0_B111 x0 x1 x2 x3 f_blowMany f_blows f_downs f_forwards f_homes f_judges f_noises  ((-s0) * o14))
def mX11_margin0_B68 (x0 : Int32) (x1 : Int32) (x2 : Int32) (x3 : Int32) (f_blowMany : Nat → Int32) (f_blows : Nat → Int32) (f_downs : Nat → Int32) (f_forwards : Nat → Int32) (f_homes : Nat → Int32) (f_judges : Nat → Int32) (f_noises : Nat → Int32) :
  Option (Int32) :=
  mX11_margin0_B82 x0 x1 x2 x3 f_blowMany f_blows f_downs f_forwards f_homes f_judges f_noises  (2 : Int32)
def mX11_margin0_B36 (x0 : Int32) (x1 : Int32) (x2 : Int32) (x3 : Int32) (f_blowMany : Nat → Int32) (f_blows : Nat → Int32) (f_downs : Nat → Int32) (f_forwards : Nat → Int32) (f_homes : Nat → Int32) (f_judges : Nat → Int32) (f_noises : Nat → Int32) (s0 : Int32) (s1 : Int32) :
  Option (Int32) :=
  lb (s0 + s1) fun v16 =>
  (mX11_bound v16 (20 : Int32)).bind fun o17 =>
  (mX11_downOf x2 f_downs).bind fun o19 =>
  lb (o17 + ((4 : Int32) * o19)) fun v21 =>
  some v21
def mX11_margin0 (x0 : Int32) (x1 : Int32) (x2 : Int32) (x3 : Int32) (f_blowMany : Nat → Int32) (f_blows : Nat → Int32) (f_downs : Nat → Int32) (f_forwards : Nat → Int32) (f_homes : Nat → Int32) (f_judges : Nat → Int32) (f_noises : Nat → Int32) :
  Option (Int32) :=
  if x0 = (3 : Int32) then ((mX11_leadOf x1 x2 f_blowMany f_blows f_forwards f_homes f_judges f_noises).bind fun o7 =>
  if o7 ≤ 0 then (if 0 ≤ o7 then (mX11_margin0_B36 x0 x1 x2 x3 f_blowMany f_blows f_downs f_forwards f_homes f_judges f_noises  (o7 / (5 : Int32)) (0 : Int32)) else (mX11_margin0_B36 x0 x1 x2 x3 f_blowMany f_blows f_downs f_forwards f_homes f_judges f_noises  (o7 / (5 : Int32)) (-1 : Int32))) else (mX11_margin0_B36 x0 x1 x2 x3 f_blowMany f_blows f_downs f_forwards f_homes f_judges f_noises  (o7 / (5 : Int32)) (1 : Int32))) else (if x0 = 0 then (mX11_margin0_B68 x0 x1 x2 x3 f_blowMany f_blows f_downs f_forwards f_homes f_judges f_noises  ) else ((mX11_isClose x1 x2 f_blowMany f_blows f_forwards f_homes f_judges f_noises).bind fun o3 =>
  if o3 = 0 then (mX11_margin0_B68 x0 x1 x2 x3 f_blowMany f_blows f_downs f_forwards f_homes f_judges f_noises  ) else (if x0 = (1 : Int32) then (mX11_margin0_B82 x0 x1 x2 x3 f_blowMany f_blows f_downs f_forwards f_homes f_judges f_noises  (1 : Int32)) else (mX11_margin0_B82 x0 x1 x2 x3 f_blowMany f_blows f_downs f_forwards f_homes f_judges f_noises  (0 : Int32)))))
def mX11_isRule (x0 : Int32) :
  Option (Int32) :=
  (mX11_in (Int32.toInt64 x0) (0 : Int64) (3 : Int64)).bind fun o1 =>
  gz o1 <|
  some o1
def mX11_margin (x0 : Int32) (x1 : Int32) (x2 : Int32) (f_blowMany : Nat → Int32) (f_blows : Nat → Int32) (f_downs : Nat → Int32) (f_forwards : Nat → Int32) (f_homes : Nat → Int32) (f_judgeMany : Nat → Int32) (f_judges : Nat → Int32) (f_noises : Nat → Int32) (f_roundMany : Nat → Int32) :
  Option (Int32) :=
  (mX11_isRule x0).bind fun o1 =>
  if o1 = 0 then (some (-100001 : Int32)) else ((mX11_isJudge x1 f_judgeMany).bind fun o4 =>
  if o4 = 0 then (some (-100001 : Int32)) else ((mX11_isRound x2 f_roundMany).bind fun o7 =>
  if o7 = 0 then (some (-100001 : Int32)) else ((mX11_margin0 x0 x1 x2 (0 : Int32) f_blowMany f_blows f_downs f_forwards f_homes f_judges f_noises).bind fun o10 =>
  some o10)))
def mX11_takenOf_B4 (x0 : Int32) (f_roundMany : Nat → Int32) (f_takens : Nat → Int32) (k4 : Int32 → Int32 → Option (Int32)) (l2 : Int32) (l3 : Int32) :
  Option (Int32) :=
  if (f_roundMany (0 : Int32).toNatClampNeg) ≤ l3 then (some l2) else (gi (((2 : Int32) * l3) + x0) 48 <|
  lb (l2 + (f_takens (((2 : Int32) * l3) + x0).toNatClampNeg)) fun v3 =>
  lb (l3 + (1 : Int32)) fun v4 =>
  k4 v3 v4)
def mX11_takenOf_L4 (x0 : Int32) (f_roundMany : Nat → Int32) (f_takens : Nat → Int32) (n : Nat) (l2 : Int32) (l3 : Int32) :
  Option (Int32) :=
  loopN (fun k (s : Int32 × Int32) => mX11_takenOf_B4 x0 f_roundMany f_takens  (fun l2 l3 => k (l2, l3)) s.1 s.2) n (l2, l3)
def mX11_takenOf (x0 : Int32) (f_roundMany : Nat → Int32) (f_takens : Nat → Int32) :
  Option (Int32) :=
  mX11_takenOf_L4 x0 f_roundMany f_takens  FUEL (0 : Int32) (0 : Int32)
def mX11_cardOf_B19 (x0 : Int32) (x1 : Int32) (f_blowMany : Nat → Int32) (f_blows : Nat → Int32) (f_downs : Nat → Int32) (f_forwards : Nat → Int32) (f_homes : Nat → Int32) (f_judges : Nat → Int32) (f_noises : Nat → Int32) (f_roundMany : Nat → Int32) (f_takens : Nat → Int32) (k19 : Int32 → Int32 → Option (Int32)) (l3 : Int32) (l4 : Int32) :
  Option (Int32) :=
  if (f_roundMany (0 : Int32).toNatClampNeg) ≤ l4 then (some l3) else ((mX11_margin0 x0 x1 l4 (0 : Int32) f_blowMany f_blows f_downs f_forwards f_homes f_judges f_noises).bind fun o7 =>
  lb (l3 + o7) fun v9 =>
  lb (l4 + (1 : Int32)) fun v10 =>
  k19 v9 v10)
def mX11_cardOf_L19 (x0 : Int32) (x1 : Int32) (f_blowMany : Nat → Int32) (f_blows : Nat → Int32) (f_downs : Nat → Int32) (f_forwards : Nat → Int32) (f_homes : Nat → Int32) (f_judges : Nat → Int32) (f_noises : Nat → Int32) (f_roundMany : Nat → Int32) (f_takens : Nat → Int32) (n : Nat) (l3 : Int32) (l4 : Int32) :
  Option (Int32) :=
  loopN (fun k (s : Int32 × Int32) => mX11_cardOf_B19 x0 x1 f_blowMany f_blows f_downs f_forwards f_homes f_judges f_noises f_roundMany f_takens  (fun l3 l4 => k (l3, l4)) s.1 s.2) n (l3, l4)
def mX11_cardOf (x0 : Int32) (x1 : Int32) (f_blowMany : Nat → Int32) (f_blows : Nat → Int32) (f_downs : Nat → Int32) (f_forwards : Nat → Int32) (f_homes : Nat → Int32) (f_judges : Nat → Int32) (f_noises : Nat → Int32) (f_roundMany : Nat → Int32) (f_takens : Nat → Int32) :
  Option (Int32) :=
  (mX11_takenOf (1 : Int32) f_roundMany f_takens).bind fun o1 =>
  (mX11_takenOf (0 : Int32) f_roundMany f_takens).bind fun o3 =>
  lb (((2 : Int32) * o1) - ((2 : Int32) * o3)) fun v5 =>
  mX11_cardOf_L19 x0 x1 f_blowMany f_blows f_downs f_forwards f_homes f_judges f_noises f_roundMany f_takens  FUEL v5 (0 : Int32)
def mX11_card (x0 : Int32) (x1 : Int32) (f_blowMany : Nat → Int32) (f_blows : Nat → Int32) (f_downs : Nat → Int32) (f_forwards : Nat → Int32) (f_homes : Nat → Int32) (f_judgeMany : Nat → Int32) (f_judges : Nat → Int32) (f_noises : Nat → Int32) (f_roundMany : Nat → Int32) (f_takens : Nat → Int32) :
  Option (Int32) :=
  (mX11_isRule x0).bind fun o1 =>
  if o1 = 0 then (some (-100001 : Int32)) else ((mX11_isJudge x1 f_judgeMany).bind fun o4 =>
  if o4 = 0 then (some (-100001 : Int32)) else ((mX11_cardOf x0 x1 f_blowMany f_blows f_downs f_forwards f_homes f_judges f_noises f_roundMany f_takens).bind fun o7 =>
  some o7))
def mX11_pointsOf_B47 (x0 : Int32) (x1 : Int32) (x2 : Int32) (f_blowMany : Nat → Int32) (f_blows : Nat → Int32) (f_downs : Nat → Int32) (f_forwards : Nat → Int32) (f_homes : Nat → Int32) (f_judges : Nat → Int32) (f_noises : Nat → Int32) (f_roundMany : Nat → Int32) (f_takens : Nat → Int32) (k13 : Int32 → Int32 → Option (Int32)) (l4 : Int32) (l5 : Int32) (s0 : Int32) :
  Option (Int32) :=
  if s0 ≤ 0 then (lb (l4 + ((20 : Int32) - (0 : Int32))) fun v9 =>
  lb (l5 + (1 : Int32)) fun v10 =>
  k13 v9 v10) else (lb (l4 + ((20 : Int32) - s0)) fun v11 =>
  lb (l5 + (1 : Int32)) fun v12 =>
  k13 v11 v12)
def mX11_pointsOf_B13 (x0 : Int32) (x1 : Int32) (x2 : Int32) (f_blowMany : Nat → Int32) (f_blows : Nat → Int32) (f_downs : Nat → Int32) (f_forwards : Nat → Int32) (f_homes : Nat → Int32) (f_judges : Nat → Int32) (f_noises : Nat → Int32) (f_roundMany : Nat → Int32) (f_takens : Nat → Int32) (k13 : Int32 → Int32 → Option (Int32)) (l4 : Int32) (l5 : Int32) :
  Option (Int32) :=
  if (f_roundMany (0 : Int32).toNatClampNeg) ≤ l5 then (some l4) else ((mX11_margin0 x0 x1 l5 (0 : Int32) f_blowMany f_blows f_downs f_forwards f_homes f_judges f_noises).bind fun o5 =>
  if x2 = 0 then (mX11_pointsOf_B47 x0 x1 x2 f_blowMany f_blows f_downs f_forwards f_homes f_judges f_noises f_roundMany f_takens k13 l4 l5 (-o5)) else (mX11_pointsOf_B47 x0 x1 x2 f_blowMany f_blows f_downs f_forwards f_homes f_judges f_noises f_roundMany f_takens k13 l4 l5 o5))
def mX11_pointsOf_L13 (x0 : Int32) (x1 : Int32) (x2 : Int32) (f_blowMany : Nat → Int32) (f_blows : Nat → Int32) (f_downs : Nat → Int32) (f_forwards : Nat → Int32) (f_homes : Nat → Int32) (f_judges : Nat → Int32) (f_noises : Nat → Int32) (f_roundMany : Nat → Int32) (f_takens : Nat → Int32) (n : Nat) (l4 : Int32) (l5 : Int32) :
  Option (Int32) :=
  loopN (fun k (s : Int32 × Int32) => mX11_pointsOf_B13 x0 x1 x2 f_blowMany f_blows f_downs f_forwards f_homes f_judges f_noises f_roundMany f_takens  (fun l4 l5 => k (l4, l5)) s.1 s.2) n (l4, l5)
def mX11_pointsOf (x0 : Int32) (x1 : Int32) (x2 : Int32) (f_blowMany : Nat → Int32) (f_blows : Nat → Int32) (f_downs : Nat → Int32) (f_forwards : Nat → Int32) (f_homes : Nat → Int32) (f_judges : Nat → Int32) (f_noises : Nat → Int32) (f_roundMany : Nat → Int32) (f_takens : Nat → Int32) :
  Option (Int32) :=
  (mX11_takenOf x2 f_roundMany f_takens).bind fun o1 =>
  lb ((-2 : Int32) * o1) fun v3 =>
  mX11_pointsOf_L13 x0 x1 x2 f_blowMany f_blows f_downs f_forwards f_homes f_judges f_noises f_roundMany f_takens  FUEL v3 (0 : Int32)
def mX11_points (x0 : Int32) (x1 : Int32) (x2 : Int32) (f_blowMany : Nat → Int32) (f_blows : Nat → Int32) (f_downs : Nat → Int32) (f_forwards : Nat → Int32) (f_homes : Nat → Int32) (f_judgeMany : Nat → Int32) (f_judges : Nat → Int32) (f_noises : Nat → Int32) (f_roundMany : Nat → Int32) (f_takens : Nat → Int32) :
  Option (Int32) :=
  (mX11_in (Int32.toInt64 x0) (0 : Int64) (2 : Int64)).bind fun o1 =>
  if o1 = 0 then (some (-1 : Int32)) else ((mX11_isJudge x1 f_judgeMany).bind fun o4 =>
  if o4 = 0 then (some (-1 : Int32)) else ((mX11_in (Int32.toInt64 x2) (0 : Int64) (1 : Int64)).bind fun o7 =>
  if o7 = 0 then (some (-1 : Int32)) else ((mX11_pointsOf x0 x1 x2 f_blowMany f_blows f_downs f_forwards f_homes f_judges f_noises f_roundMany f_takens).bind fun o10 =>
  some o10)))
def mX11_areThree (x0 : Int32) (x1 : Int32) (x2 : Int32) (f_judgeMany : Nat → Int32) :
  Option (Int32) :=
  (mX11_isJudge x0 f_judgeMany).bind fun o1 =>
  if o1 = 0 then (some (0 : Int32)) else ((mX11_isJudge x1 f_judgeMany).bind fun o4 =>
  if o4 = 0 then (some (0 : Int32)) else ((mX11_isJudge x2 f_judgeMany).bind fun o7 =>
  if o7 = 0 then (some (0 : Int32)) else (if x0 = x1 then (some (0 : Int32)) else (if x0 = x2 then (some (0 : Int32)) else (if x1 = x2 then (some (0 : Int32)) else (some (1 : Int32)))))))
def mX11_sign (x0 : Int32) :
  Option (Int32) :=
  if x0 ≤ 0 then (if 0 ≤ x0 then (some (0 : Int32)) else (some (-1 : Int32))) else (some (1 : Int32))
def mX11_whoBy_B58 (x0 : Int32) (x1 : Int32) (x2 : Int32) (l3 : Int32) (s0 : Int32) (s1 : Int32) :
  Option (Int32) :=
  lb (s0 + s1) fun v8 =>
  if l3 ≤ (1 : Int32) then (if v8 ≤ (1 : Int32) then (some (2 : Int32)) else (some (1 : Int32))) else (some (0 : Int32))
def mX11_whoBy_B48 (x0 : Int32) (x1 : Int32) (x2 : Int32) (l3 : Int32) (s0 : Int32) (s1 : Int32) :
  Option (Int32) :=
  if 0 ≤ x2 then (mX11_whoBy_B58 x0 x1 x2  l3 (s0 + s1) (0 : Int32)) else (mX11_whoBy_B58 x0 x1 x2  l3 (s0 + s1) (1 : Int32))
def mX11_whoBy_B39 (x0 : Int32) (x1 : Int32) (x2 : Int32) (l3 : Int32) (s0 : Int32) :
  Option (Int32) :=
  if 0 ≤ x1 then (mX11_whoBy_B48 x0 x1 x2  l3 s0 (0 : Int32)) else (mX11_whoBy_B48 x0 x1 x2  l3 s0 (1 : Int32))
def mX11_whoBy_B28 (x0 : Int32) (x1 : Int32) (x2 : Int32) (s0 : Int32) (s1 : Int32) :
  Option (Int32) :=
  lb (s0 + s1) fun v4 =>
  if 0 ≤ x0 then (mX11_whoBy_B39 x0 x1 x2  v4 (0 : Int32)) else (mX11_whoBy_B39 x0 x1 x2  v4 (1 : Int32))
def mX11_whoBy_B18 (x0 : Int32) (x1 : Int32) (x2 : Int32) (s0 : Int32) (s1 : Int32) :
  Option (Int32) :=
  if x2 ≤ 0 then (mX11_whoBy_B28 x0 x1 x2  (s0 + s1) (0 : Int32)) else (mX11_whoBy_B28 x0 x1 x2  (s0 + s1) (1 : Int32))
def mX11_whoBy_B9 (x0 : Int32) (x1 : Int32) (x2 : Int32) (s0 : Int32) :
  Option (Int32) :=
  if x1 ≤ 0 then (mX11_whoBy_B18 x0 x1 x2  s0 (0 : Int32)) else (mX11_whoBy_B18 x0 x1 x2  s0 (1 : Int32))
def mX11_whoBy (x0 : Int32) (x1 : Int32) (x2 : Int32) :
  Option (Int32) :=
  if x0 ≤ 0 then (mX11_whoBy_B9 x0 x1 x2  (0 : Int32)) else (mX11_whoBy_B9 x0 x1 x2  (1 : Int32))
def mX11_kindBy_B68 (x0 : Int32) (x1 : Int32) (x2 : Int32) (l3 : Int32) (l4 : Int32) :
  Option (Int32) :=
  if l3 = (2 : Int32) then (some (3 : Int32)) else (if l4 = (1 : Int32) then (some (1 : Int32)) else (some (2 : Int32)))
def mX11_kindBy_B35 (x0 : Int32) (x1 : Int32) (x2 : Int32) (l3 : Int32) (s0 : Int32) (s1 : Int32) :
  Option (Int32) :=
  lb (s0 + s1) fun v6 =>
  if v6 = (3 : Int32) then (some (0 : Int32)) else ((mX11_sign x0).bind fun o8 =>
  (mX11_sign x1).bind fun o10 =>
  if o8 = o10 then ((mX11_sign x1).bind fun o13 =>
  (mX11_sign x2).bind fun o15 =>
  if o13 = o15 then (some (0 : Int32)) else (mX11_kindBy_B68 x0 x1 x2  l3 v6)) else (mX11_kindBy_B68 x0 x1 x2  l3 v6))
def mX11_kindBy_B25 (x0 : Int32) (x1 : Int32) (x2 : Int32) (l3 : Int32) (s0 : Int32) (s1 : Int32) :
  Option (Int32) :=
  if x2 = 0 then (mX11_kindBy_B35 x0 x1 x2  l3 (s0 + s1) (1 : Int32)) else (mX11_kindBy_B35 x0 x1 x2  l3 (s0 + s1) (0 : Int32))
def mX11_kindBy_B16 (x0 : Int32) (x1 : Int32) (x2 : Int32) (l3 : Int32) (s0 : Int32) :
  Option (Int32) :=
  if x1 = 0 then (mX11_kindBy_B25 x0 x1 x2  l3 s0 (1 : Int32)) else (mX11_kindBy_B25 x0 x1 x2  l3 s0 (0 : Int32))
def mX11_kindBy (x0 : Int32) (x1 : Int32) (x2 : Int32) :
  Option (Int32) :=
  (mX11_whoBy x0 x1 x2).bind fun o1 =>
  if x0 = 0 then (mX11_kindBy_B16 x0 x1 x2  o1 (1 : Int32)) else (mX11_kindBy_B16 x0 x1 x2  o1 (0 : Int32))
def mX11_end (x0 : Int32) (x1 : Int32) (x2 : Int32) (x3 : Int32) (x4 : Int32) (f_blowMany : Nat → Int32) (f_blows : Nat → Int32) (f_downs : Nat → Int32) (f_forwards : Nat → Int32) (f_homes : Nat → Int32) (f_judgeMany : Nat → Int32) (f_judges : Nat → Int32) (f_noises : Nat → Int32) (f_roundMany : Nat → Int32) (f_takens : Nat → Int32) :
  Option (Int32) :=
  (mX11_isRule x0).bind fun o1 =>
  if o1 = 0 then (some (-1 : Int32)) else ((mX11_areThree x1 x2 x3 f_judgeMany).bind fun o4 =>
  if o4 = 0 then (some (-1 : Int32)) else ((mX11_in (Int32.toInt64 x4) (0 : Int64) (1 : Int64)).bind fun o7 =>
  if o7 = 0 then (some (-1 : Int32)) else ((mX11_cardOf x0 x1 f_blowMany f_blows f_downs f_forwards f_homes f_judges f_noises f_roundMany f_takens).bind fun o10 =>
  (mX11_cardOf x0 x2 f_blowMany f_blows f_downs f_forwards f_homes f_judges f_noises f_roundMany f_takens).bind fun o12 =>
  (mX11_cardOf x0 x3 f_blowMany f_blows f_downs f_forwards f_homes f_judges f_noises f_roundMany f_takens).bind fun o14 =>
  if x4 = 0 then ((mX11_whoBy o10 o12 o14).bind fun o19 =>
  some o19) else ((mX11_kindBy o10 o12 o14).bind fun o17 =>
  some o17))))
def mX11_others_B60 (x0 : Int32) (x1 : Int32) (f_blowMany : Nat → Int32) (f_blows : Nat → Int32) (f_downs : Nat → Int32) (f_forwards : Nat → Int32) (f_homes : Nat → Int32) (f_judgeMany : Nat → Int32) (f_judges : Nat → Int32) (f_noises : Nat → Int32) (f_roundMany : Nat → Int32) (f_takens : Nat → Int32) (k26 : Int32 → Int32 → Option (Int32)) (k43 : Int32 → Int32 → Int32 → Option (Int32)) (k60 : Int32 → Int32 → Int32 → Int32 → Option (Int32)) (l3 : Int32) (l4 : Int32) (l5 : Int32) (l6 : Int32) :
  Option (Int32) :=
  if (f_judgeMany (0 : Int32).toNatClampNeg) ≤ l6 then (lb (l5 + (1 : Int32)) fun v13 =>
  k43 l3 l4 v13) else ((mX11_cardOf x0 l4 f_blowMany f_blows f_downs f_forwards f_homes f_judges f_noises f_roundMany f_takens).bind fun o14 =>
  (mX11_cardOf x0 l5 f_blowMany f_blows f_downs f_forwards f_homes f_judges f_noises f_roundMany f_takens).bind fun o16 =>
  (mX11_cardOf x0 l6 f_blowMany f_blows f_downs f_forwards f_homes f_judges f_noises f_roundMany f_takens).bind fun o18 =>
  (mX11_whoBy o14 o16 o18).bind fun o20 =>
  if o20 = x1 then (lb (l3 + (1 : Int32)) fun v25 =>
  lb (l6 + (1 : Int32)) fun v26 =>
  k60 v25 l4 l5 v26) else (lb (l3 + (0 : Int32)) fun v23 =>
  lb (l6 + (1 : Int32)) fun v24 =>
  k60 v23 l4 l5 v24))
def mX11_others_L60 (x0 : Int32) (x1 : Int32) (f_blowMany : Nat → Int32) (f_blows : Nat → Int32) (f_downs : Nat → Int32) (f_forwards : Nat → Int32) (f_homes : Nat → Int32) (f_judgeMany : Nat → Int32) (f_judges : Nat → Int32) (f_noises : Nat → Int32) (f_roundMany : Nat → Int32) (f_takens : Nat → Int32) (k26 : Int32 → Int32 → Option (Int32)) (k43 : Int32 → Int32 → Int32 → Option (Int32)) (n : Nat) (l3 : Int32) (l4 : Int32) (l5 : Int32) (l6 : Int32) :
  Option (Int32) :=
  loopN (fun k (s : Int32 × Int32 × Int32 × Int32) => mX11_others_B60 x0 x1 f_blowMany f_blows f_downs f_forwards f_homes f_judgeMany f_judges f_noises f_roundMany f_takens k26 k43 (fun l3 l4 l5 l6 => k (l3, l4, l5, l6)) s.1 s.2.1 s.2.2.1 s.2.2.2) n (l3, l4, l5, l6)
def mX11_others_B43 (x0 : Int32) (x1 : Int32) (f_blowMany : Nat → Int32) (f_blows : Nat → Int32) (f_downs : Nat → Int32) (f_forwards : Nat → Int32) (f_homes : Nat → Int32) (f_judgeMany : Nat → Int32) (f_judges : Nat → Int32) (f_noises : Nat → Int32) (f_roundMany : Nat → Int32) (f_takens : Nat → Int32) (k26 : Int32 → Int32 → Option (Int32)) (k43 : Int32 → Int32 → Int32 → Option (Int32)) (l3 : Int32) (l4 : Int32) (l5 : Int32) :
  Option (Int32) :=
  if (f_judgeMany (0 : Int32).toNatClampNeg) ≤ l5 then (lb (l4 + (1 : Int32)) fun v10 =>
  k26 l3 v10) else (lb (l5 + (1 : Int32)) fun v11 =>
  mX11_others_L60 x0 x1 f_blowMany f_blows f_downs f_forwards f_homes f_judgeMany f_judges f_noises f_roundMany f_takens k26 k43 FUEL l3 l4 l5 v11)
def mX11_others_L43 (x0 : Int32) (x1 : Int32) (f_blowMany : Nat → Int32) (f_blows : Nat → Int32) (f_downs : Nat → Int32) (f_forwards : Nat → Int32) (f_homes : Nat → Int32) (f_judgeMany : Nat → Int32) (f_judges : Nat → Int32) (f_noises : Nat → Int32) (f_roundMany : Nat → Int32) (f_takens : Nat → Int32) (k26 : Int32 → Int32 → Option (Int32)) (n : Nat) (l3 : Int32) (l4 : Int32) (l5 : Int32) :
  Option (Int32) :=
  loopN (fun k (s : Int32 × Int32 × Int32) => mX11_others_B43 x0 x1 f_blowMany f_blows f_downs f_forwards f_homes f_judgeMany f_judges f_noises f_roundMany f_takens k26 (fun l3 l4 l5 => k (l3, l4, l5)) s.1 s.2.1 s.2.2) n (l3, l4, l5)
def mX11_others_B26 (x0 : Int32) (x1 : Int32) (f_blowMany : Nat → Int32) (f_blows : Nat → Int32) (f_downs : Nat → Int32) (f_forwards : Nat → Int32) (f_homes : Nat → Int32) (f_judgeMany : Nat → Int32) (f_judges : Nat → Int32) (f_noises : Nat → Int32) (f_roundMany : Nat → Int32) (f_takens : Nat → Int32) (k26 : Int32 → Int32 → Option (Int32)) (l3 : Int32) (l4 : Int32) :
  Option (Int32) :=
  if (f_judgeMany (0 : Int32).toNatClampNeg) ≤ l4 then (some l3) else (lb (l4 + (1 : Int32)) fun v8 =>
  mX11_others_L43 x0 x1 f_blowMany f_blows f_downs f_forwards f_homes f_judgeMany f_judges f_noises f_roundMany f_takens k26 FUEL l3 l4 v8)
def mX11_others_L26 (x0 : Int32) (x1 : Int32) (f_blowMany : Nat → Int32) (f_blows : Nat → Int32) (f_downs : Nat → Int32) (f_forwards : Nat → Int32) (f_homes : Nat → Int32) (f_judgeMany : Nat → Int32) (f_judges : Nat → Int32) (f_noises : Nat → Int32) (f_roundMany : Nat → Int32) (f_takens : Nat → Int32) (n : Nat) (l3 : Int32) (l4 : Int32) :
  Option (Int32) :=
  loopN (fun k (s : Int32 × Int32) => mX11_others_B26 x0 x1 f_blowMany f_blows f_downs f_forwards f_homes f_judgeMany f_judges f_noises f_roundMany f_takens  (fun l3 l4 => k (l3, l4)) s.1 s.2) n (l3, l4)
def mX11_others (x0 : Int32) (x1 : Int32) (f_blowMany : Nat → Int32) (f_blows : Nat → Int32) (f_downs : Nat → Int32) (f_forwards : Nat → Int32) (f_homes : Nat → Int32) (f_judgeMany : Nat → Int32) (f_judges : Nat → Int32) (f_noises : Nat → Int32) (f_roundMany : Nat → Int32) (f_takens : Nat → Int32) :
  Option (Int32) :=
  (mX11_isRule x0).bind fun o1 =>
  if o1 = 0 then (some (-1 : Int32)) else ((mX11_in (Int32.toInt64 x1) (0 : Int64) (2 : Int64)).bind fun o4 =>
  if o4 = 0 then (some (-1 : Int32)) else (mX11_others_L26 x0 x1 f_blowMany f_blows f_downs f_forwards f_homes f_judgeMany f_judges f_noises f_roundMany f_takens  FUEL (0 : Int32) (0 : Int32)))
def mX11_men_B91 (x0 : Int32) (f_blowMany : Nat → Int32) (f_blows : Nat → Int32) (f_downs : Nat → Int32) (f_forwards : Nat → Int32) (f_homes : Nat → Int32) (f_judgeMany : Nat → Int32) (f_judges : Nat → Int32) (f_noises : Nat → Int32) (f_roundMany : Nat → Int32) (f_takens : Nat → Int32) (k91 : Int32 → Int32 → Int32 → Option (Int32)) (l2 : Int32) (l3 : Int32) (l4 : Int32) :
  Option (Int32) :=
  if (f_judgeMany (0 : Int32).toNatClampNeg) ≤ l4 then (some l3) else ((mX11_cardOf x0 l4 f_blowMany f_blows f_downs f_forwards f_homes f_judges f_noises f_roundMany f_takens).bind fun o9 =>
  if l2 = 0 then (lb (l3 ||| (0 : Int32)) fun v12 =>
  lb (l4 + (1 : Int32)) fun v13 =>
  k91 l2 v12 v13) else (if o9 = 0 then (lb (l3 ||| (0 : Int32)) fun v15 =>
  lb (l4 + (1 : Int32)) fun v16 =>
  k91 l2 v15 v16) else ((mX11_sign o9).bind fun o17 =>
  (mX11_sign l2).bind fun o19 =>
  if o17 = o19 then (lb (l3 ||| (0 : Int32)) fun v22 =>
  lb (l4 + (1 : Int32)) fun v23 =>
  k91 l2 v22 v23) else (lb (l3 ||| ((1 : Int32) <<< (l4 &&& 31))) fun v24 =>
  lb (l4 + (1 : Int32)) fun v25 =>
  k91 l2 v24 v25))))
def mX11_men_L91 (x0 : Int32) (f_blowMany : Nat → Int32) (f_blows : Nat → Int32) (f_downs : Nat → Int32) (f_forwards : Nat → Int32) (f_homes : Nat → Int32) (f_judgeMany : Nat → Int32) (f_judges : Nat → Int32) (f_noises : Nat → Int32) (f_roundMany : Nat → Int32) (f_takens : Nat → Int32) (n : Nat) (l2 : Int32) (l3 : Int32) (l4 : Int32) :
  Option (Int32) :=
  loopN (fun k (s : Int32 × Int32 × Int32) => mX11_men_B91 x0 f_blowMany f_blows f_downs f_forwards f_homes f_judgeMany f_judges f_noises f_roundMany f_takens  (fun l2 l3 l4 => k (l2, l3, l4)) s.1 s.2.1 s.2.2) n (l2, l3, l4)
def mX11_men_B54 (x0 : Int32) (f_blowMany : Nat → Int32) (f_blows : Nat → Int32) (f_downs : Nat → Int32) (f_forwards : Nat → Int32) (f_homes : Nat → Int32) (f_judgeMany : Nat → Int32) (f_judges : Nat → Int32) (f_noises : Nat → Int32) (f_roundMany : Nat → Int32) (f_takens : Nat → Int32) (k13 : Int32 → Int32 → Option (Int32)) (l2 : Int32) (l3 : Int32) (s0 : Int32) :
  Option (Int32) :=
  gi (((5 : Int32) * l3) + (2 : Int32)) 400 <|
  if (f_blows (((5 : Int32) * l3) + (2 : Int32)).toNatClampNeg) = 0 then (lb (l2 + s0) fun v30 =>
  lb (l3 + (1 : Int32)) fun v31 =>
  k13 v30 v31) else (lb (l2 + (-s0)) fun v28 =>
  lb (l3 + (1 : Int32)) fun v29 =>
  k13 v28 v29)
def mX11_men_B13 (x0 : Int32) (f_blowMany : Nat → Int32) (f_blows : Nat → Int32) (f_downs : Nat → Int32) (f_forwards : Nat → Int32) (f_homes : Nat → Int32) (f_judgeMany : Nat → Int32) (f_judges : Nat → Int32) (f_noises : Nat → Int32) (f_roundMany : Nat → Int32) (f_takens : Nat → Int32) (k13 : Int32 → Int32 → Option (Int32)) (l2 : Int32) (l3 : Int32) :
  Option (Int32) :=
  if (f_blowMany (0 : Int32).toNatClampNeg) ≤ l3 then (mX11_men_L91 x0 f_blowMany f_blows f_downs f_forwards f_homes f_judgeMany f_judges f_noises f_roundMany f_takens  FUEL l2 (0 : Int32) (0 : Int32)) else (gi ((5 : Int32) * l3) 400 <|
  if (f_roundMany (0 : Int32).toNatClampNeg) ≤ (f_blows ((5 : Int32) * l3).toNatClampNeg) then (mX11_men_B54 x0 f_blowMany f_blows f_downs f_forwards f_homes f_judgeMany f_judges f_noises f_roundMany f_takens k13 l2 l3 (0 : Int32)) else (gi (((5 : Int32) * l3) + (3 : Int32)) 400 <|
  mX11_men_B54 x0 f_blowMany f_blows f_downs f_forwards f_homes f_judgeMany f_judges f_noises f_roundMany f_takens k13 l2 l3 (f_blows (((5 : Int32) * l3) + (3 : Int32)).toNatClampNeg)))
def mX11_men_L13 (x0 : Int32) (f_blowMany : Nat → Int32) (f_blows : Nat → Int32) (f_downs : Nat → Int32) (f_forwards : Nat → Int32) (f_homes : Nat → Int32) (f_judgeMany : Nat → Int32) (f_judges : Nat → Int32) (f_noises : Nat → Int32) (f_roundMany : Nat → Int32) (f_takens : Nat → Int32) (n : Nat) (l2 : Int32) (l3 : Int32) :
  Option (Int32) :=
  loopN (fun k (s : Int32 × Int32) => mX11_men_B13 x0 f_blowMany f_blows f_downs f_forwards f_homes f_judgeMany f_judges f_noises f_roundMany f_takens  (fun l2 l3 => k (l2, l3)) s.1 s.2) n (l2, l3)
def mX11_men (x0 : Int32) (f_blowMany : Nat → Int32) (f_blows : Nat → Int32) (f_downs : Nat → Int32) (f_forwards : Nat → Int32) (f_homes : Nat → Int32) (f_judgeMany : Nat → Int32) (f_judges : Nat → Int32) (f_noises : Nat → Int32) (f_roundMany : Nat → Int32) (f_takens : Nat → Int32) :
  Option (Int32) :=
  (mX11_isRule x0).bind fun o1 =>
  if o1 = 0 then (some (-1 : Int32)) else (mX11_men_L13 x0 f_blowMany f_blows f_downs f_forwards f_homes f_judgeMany f_judges f_noises f_roundMany f_takens  FUEL (0 : Int32) (0 : Int32))
def mX11_coinsOf_B4 (x0 : Int32) (f_blowMany : Nat → Int32) (f_blows : Nat → Int32) (f_forwards : Nat → Int32) (f_homes : Nat → Int32) (f_judges : Nat → Int32) (f_noises : Nat → Int32) (f_roundMany : Nat → Int32) (k4 : Int32 → Int32 → Option (Int32)) (l2 : Int32) (l3 : Int32) :
  Option (Int32) :=
  if (f_roundMany (0 : Int32).toNatClampNeg) ≤ l3 then (some l2) else ((mX11_isClose x0 l3 f_blowMany f_blows f_forwards f_homes f_judges f_noises).bind fun o2 =>
  if o2 = 0 then (lb (l2 + (0 : Int32)) fun v5 =>
  lb (l3 + (1 : Int32)) fun v6 =>
  k4 v5 v6) else (lb (l2 + (1 : Int32)) fun v7 =>
  lb (l3 + (1 : Int32)) fun v8 =>
  k4 v7 v8))
def mX11_coinsOf_L4 (x0 : Int32) (f_blowMany : Nat → Int32) (f_blows : Nat → Int32) (f_forwards : Nat → Int32) (f_homes : Nat → Int32) (f_judges : Nat → Int32) (f_noises : Nat → Int32) (f_roundMany : Nat → Int32) (n : Nat) (l2 : Int32) (l3 : Int32) :
  Option (Int32) :=
  loopN (fun k (s : Int32 × Int32) => mX11_coinsOf_B4 x0 f_blowMany f_blows f_forwards f_homes f_judges f_noises f_roundMany  (fun l2 l3 => k (l2, l3)) s.1 s.2) n (l2, l3)
def mX11_coinsOf (x0 : Int32) (f_blowMany : Nat → Int32) (f_blows : Nat → Int32) (f_forwards : Nat → Int32) (f_homes : Nat → Int32) (f_judges : Nat → Int32) (f_noises : Nat → Int32) (f_roundMany : Nat → Int32) :
  Option (Int32) :=
  mX11_coinsOf_L4 x0 f_blowMany f_blows f_forwards f_homes f_judges f_noises f_roundMany  FUEL (0 : Int32) (0 : Int32)
def mX11_layWays_B294 (x0 : Int32) (x1 : Int32) (x2 : Int32) (f_blowMany : Nat → Int32) (f_blows : Nat → Int32) (f_downs : Nat → Int32) (f_forwards : Nat → Int32) (f_homes : Nat → Int32) (f_judges : Nat → Int32) (f_noises : Nat → Int32) (f_roundMany : Nat → Int32) (f_takens : Nat → Int32) (k254 : Int32 → (Nat → Int64) → (Nat → Int64) → (Nat → Int64) → Option ((Nat → Int64) × (Nat → Int64) × (Nat → Int64))) (l4 : Int32) (s1 : Int32) (s2 : Int32) (f_ways : Nat → Int64) (f_nextWays : Nat → Int64) (f_tallies : Nat → Int64) :
  Option ((Nat → Int64) × (Nat → Int64) × (Nat → Int64)) :=
  lb (s1 + s2) fun v39 =>
  gi v39 9 <|
  gi l4 601 <|
  gi v39 9 <|
  lb (vp_updL f_tallies v39.toNatClampNeg ((f_tallies v39.toNatClampNeg) + (f_ways l4.toNatClampNeg))) fun g43 =>
  lb (l4 + (1 : Int32)) fun v44 =>
  k254 v44 f_ways f_nextWays g43
def mX11_layWays_B254 (x0 : Int32) (x1 : Int32) (x2 : Int32) (f_blowMany : Nat → Int32) (f_blows : Nat → Int32) (f_downs : Nat → Int32) (f_forwards : Nat → Int32) (f_homes : Nat → Int32) (f_judges : Nat → Int32) (f_noises : Nat → Int32) (f_roundMany : Nat → Int32) (f_takens : Nat → Int32) (k254 : Int32 → (Nat → Int64) → (Nat → Int64) → (Nat → Int64) → Option ((Nat → Int64) × (Nat → Int64) × (Nat → Int64))) (l4 : Int32) (f_ways : Nat → Int64) (f_nextWays : Nat → Int64) (f_tallies : Nat → Int64) :
  Option ((Nat → Int64) × (Nat → Int64) × (Nat → Int64)) :=
  if (600 : Int32) < l4 then (some (f_ways, f_nextWays, f_tallies)) else (if l4 ≤ (300 : Int32) then (if (300 : Int32) ≤ l4 then (mX11_layWays_B294 x0 x1 x2 f_blowMany f_blows f_downs f_forwards f_homes f_judges f_noises f_roundMany f_takens k254 l4 ((3 : Int32) * x2) (2 : Int32) f_ways f_nextWays f_tallies) else (mX11_layWays_B294 x0 x1 x2 f_blowMany f_blows f_downs f_forwards f_homes f_judges f_noises f_roundMany f_takens k254 l4 ((3 : Int32) * x2) (1 : Int32) f_ways f_nextWays f_tallies)) else (mX11_layWays_B294 x0 x1 x2 f_blowMany f_blows f_downs f_forwards f_homes f_judges f_noises f_roundMany f_takens k254 l4 ((3 : Int32) * x2) (0 : Int32) f_ways f_nextWays f_tallies))
def mX11_layWays_L254 (x0 : Int32) (x1 : Int32) (x2 : Int32) (f_blowMany : Nat → Int32) (f_blows : Nat → Int32) (f_downs : Nat → Int32) (f_forwards : Nat → Int32) (f_homes : Nat → Int32) (f_judges : Nat → Int32) (f_noises : Nat → Int32) (f_roundMany : Nat → Int32) (f_takens : Nat → Int32) (n : Nat) (l4 : Int32) (f_ways : Nat → Int64) (f_nextWays : Nat → Int64) (f_tallies : Nat → Int64) :
  Option ((Nat → Int64) × (Nat → Int64) × (Nat → Int64)) :=
  loopN (fun k (s : Int32 × (Nat → Int64) × (Nat → Int64) × (Nat → Int64)) => mX11_layWays_B254 x0 x1 x2 f_blowMany f_blows f_downs f_forwards f_homes f_judges f_noises f_roundMany f_takens  (fun l4 f_ways f_nextWays f_tallies => k (l4, f_ways, f_nextWays, f_tallies)) s.1 s.2.1 s.2.2.1 s.2.2.2) n (l4, f_ways, f_nextWays, f_tallies)
def mX11_layWays_B227 (x0 : Int32) (x1 : Int32) (x2 : Int32) (f_blowMany : Nat → Int32) (f_blows : Nat → Int32) (f_downs : Nat → Int32) (f_forwards : Nat → Int32) (f_homes : Nat → Int32) (f_judges : Nat → Int32) (f_noises : Nat → Int32) (f_roundMany : Nat → Int32) (f_takens : Nat → Int32) (k227 : Int32 → (Nat → Int64) → (Nat → Int64) → (Nat → Int64) → Option ((Nat → Int64) × (Nat → Int64) × (Nat → Int64))) (l4 : Int32) (f_ways : Nat → Int64) (f_nextWays : Nat → Int64) (f_tallies : Nat → Int64) :
  Option ((Nat → Int64) × (Nat → Int64) × (Nat → Int64)) :=
  if (3 : Int32) ≤ l4 then (mX11_layWays_L254 x0 x1 x2 f_blowMany f_blows f_downs f_forwards f_homes f_judges f_noises f_roundMany f_takens  FUEL (0 : Int32) f_ways f_nextWays f_tallies) else (gi (((3 : Int32) * x2) + l4) 9 <|
  lb (vp_updL f_tallies (((3 : Int32) * x2) + l4).toNatClampNeg (0 : Int64)) fun g20 =>
  lb (l4 + (1 : Int32)) fun v21 =>
  k227 v21 f_ways f_nextWays g20)
def mX11_layWays_L227 (x0 : Int32) (x1 : Int32) (x2 : Int32) (f_blowMany : Nat → Int32) (f_blows : Nat → Int32) (f_downs : Nat → Int32) (f_forwards : Nat → Int32) (f_homes : Nat → Int32) (f_judges : Nat → Int32) (f_noises : Nat → Int32) (f_roundMany : Nat → Int32) (f_takens : Nat → Int32) (n : Nat) (l4 : Int32) (f_ways : Nat → Int64) (f_nextWays : Nat → Int64) (f_tallies : Nat → Int64) :
  Option ((Nat → Int64) × (Nat → Int64) × (Nat → Int64)) :=
  loopN (fun k (s : Int32 × (Nat → Int64) × (Nat → Int64) × (Nat → Int64)) => mX11_layWays_B227 x0 x1 x2 f_blowMany f_blows f_downs f_forwards f_homes f_judges f_noises f_roundMany f_takens  (fun l4 f_ways f_nextWays f_tallies => k (l4, f_ways, f_nextWays, f_tallies)) s.1 s.2.1 s.2.2.1 s.2.2.2) n (l4, f_ways, f_nextWays, f_tallies)
def mX11_layWays_B190 (x0 : Int32) (x1 : Int32) (x2 : Int32) (f_blowMany : Nat → Int32) (f_blows : Nat → Int32) (f_downs : Nat → Int32) (f_forwards : Nat → Int32) (f_homes : Nat → Int32) (f_judges : Nat → Int32) (f_noises : Nat → Int32) (f_roundMany : Nat → Int32) (f_takens : Nat → Int32) (k53 : Int32 → (Nat → Int64) → (Nat → Int64) → (Nat → Int64) → Option ((Nat → Int64) × (Nat → Int64) × (Nat → Int64))) (k190 : Int32 → Int32 → (Nat → Int64) → (Nat → Int64) → (Nat → Int64) → Option ((Nat → Int64) × (Nat → Int64) × (Nat → Int64))) (l4 : Int32) (l8 : Int32) (f_ways : Nat → Int64) (f_nextWays : Nat → Int64) (f_tallies : Nat → Int64) :
  Option ((Nat → Int64) × (Nat → Int64) × (Nat → Int64)) :=
  if (600 : Int32) < l8 then (lb (l4 + (1 : Int32)) fun v46 =>
  k53 v46 f_ways f_nextWays f_tallies) else (gi l8 601 <|
  gi l8 601 <|
  lb (vp_updL f_ways l8.toNatClampNeg (f_nextWays l8.toNatClampNeg)) fun g49 =>
  lb (l8 + (1 : Int32)) fun v50 =>
  k190 l4 v50 g49 f_nextWays f_tallies)
def mX11_layWays_L190 (x0 : Int32) (x1 : Int32) (x2 : Int32) (f_blowMany : Nat → Int32) (f_blows : Nat → Int32) (f_downs : Nat → Int32) (f_forwards : Nat → Int32) (f_homes : Nat → Int32) (f_judges : Nat → Int32) (f_noises : Nat → Int32) (f_roundMany : Nat → Int32) (f_takens : Nat → Int32) (k53 : Int32 → (Nat → Int64) → (Nat → Int64) → (Nat → Int64) → Option ((Nat → Int64) × (Nat → Int64) × (Nat → Int64))) (n : Nat) (l4 : Int32) (l8 : Int32) (f_ways : Nat → Int64) (f_nextWays : Nat → Int64) (f_tallies : Nat → Int64) :
  Option ((Nat → Int64) × (Nat → Int64) × (Nat → Int64)) :=
  loopN (fun k (s : Int32 × Int32 × (Nat → Int64) × (Nat → Int64) × (Nat → Int64)) => mX11_layWays_B190 x0 x1 x2 f_blowMany f_blows f_downs f_forwards f_homes f_judges f_noises f_roundMany f_takens k53 (fun l4 l8 f_ways f_nextWays f_tallies => k (l4, l8, f_ways, f_nextWays, f_tallies)) s.1 s.2.1 s.2.2.1 s.2.2.2.1 s.2.2.2.2) n (l4, l8, f_ways, f_nextWays, f_tallies)
def mX11_layWays_B179 (x0 : Int32) (x1 : Int32) (x2 : Int32) (f_blowMany : Nat → Int32) (f_blows : Nat → Int32) (f_downs : Nat → Int32) (f_forwards : Nat → Int32) (f_homes : Nat → Int32) (f_judges : Nat → Int32) (f_noises : Nat → Int32) (f_roundMany : Nat → Int32) (f_takens : Nat → Int32) (k53 : Int32 → (Nat → Int64) → (Nat → Int64) → (Nat → Int64) → Option ((Nat → Int64) × (Nat → Int64) × (Nat → Int64))) (k124 : Int32 → Int32 → Int32 → Int32 → Int32 → (Nat → Int64) → (Nat → Int64) → (Nat → Int64) → Option ((Nat → Int64) × (Nat → Int64) × (Nat → Int64))) (l4 : Int32) (l5 : Int32) (l6 : Int32) (l7 : Int32) (l8 : Int32) (s1 : Int32) (s2 : Int64) (s3 : Int64) (f_ways : Nat → Int64) (f_nextWays : Nat → Int64) (f_tallies : Nat → Int64) :
  Option ((Nat → Int64) × (Nat → Int64) × (Nat → Int64)) :=
  gi s1 601 <|
  lb (vp_updL f_nextWays s1.toNatClampNeg (s2 + s3)) fun g52 =>
  lb (l8 + (1 : Int32)) fun v53 =>
  k124 l4 l5 l6 l7 v53 f_ways g52 f_tallies
def mX11_layWays_B124 (x0 : Int32) (x1 : Int32) (x2 : Int32) (f_blowMany : Nat → Int32) (f_blows : Nat → Int32) (f_downs : Nat → Int32) (f_forwards : Nat → Int32) (f_homes : Nat → Int32) (f_judges : Nat → Int32) (f_noises : Nat → Int32) (f_roundMany : Nat → Int32) (f_takens : Nat → Int32) (k53 : Int32 → (Nat → Int64) → (Nat → Int64) → (Nat → Int64) → Option ((Nat → Int64) × (Nat → Int64) × (Nat → Int64))) (k124 : Int32 → Int32 → Int32 → Int32 → Int32 → (Nat → Int64) → (Nat → Int64) → (Nat → Int64) → Option ((Nat → Int64) × (Nat → Int64) × (Nat → Int64))) (l4 : Int32) (l5 : Int32) (l6 : Int32) (l7 : Int32) (l8 : Int32) (f_ways : Nat → Int64) (f_nextWays : Nat → Int64) (f_tallies : Nat → Int64) :
  Option ((Nat → Int64) × (Nat → Int64) × (Nat → Int64)) :=
  if (590 : Int32) < l8 then (mX11_layWays_L190 x0 x1 x2 f_blowMany f_blows f_downs f_forwards f_homes f_judges f_noises f_roundMany f_takens k53 FUEL l4 (0 : Int32) f_ways f_nextWays f_tallies) else (lb (l8 + l5) fun v30 =>
  gi v30 601 <|
  gi l8 601 <|
  gi v30 601 <|
  lb (vp_updL f_nextWays v30.toNatClampNeg ((f_nextWays v30.toNatClampNeg) + (f_ways l8.toNatClampNeg))) fun g34 =>
  lb (l8 + l6) fun v35 =>
  gi v35 601 <|
  if l7 = 0 then (mX11_layWays_B179 x0 x1 x2 f_blowMany f_blows f_downs f_forwards f_homes f_judges f_noises f_roundMany f_takens k53 k124 l4 l5 l6 l7 l8 v35 (g34 v35.toNatClampNeg) (0 : Int64) f_ways g34 f_tallies) else (gi l8 601 <|
  mX11_layWays_B179 x0 x1 x2 f_blowMany f_blows f_downs f_forwards f_homes f_judges f_noises f_roundMany f_takens k53 k124 l4 l5 l6 l7 l8 v35 (g34 v35.toNatClampNeg) (f_ways l8.toNatClampNeg) f_ways g34 f_tallies))
def mX11_layWays_L124 (x0 : Int32) (x1 : Int32) (x2 : Int32) (f_blowMany : Nat → Int32) (f_blows : Nat → Int32) (f_downs : Nat → Int32) (f_forwards : Nat → Int32) (f_homes : Nat → Int32) (f_judges : Nat → Int32) (f_noises : Nat → Int32) (f_roundMany : Nat → Int32) (f_takens : Nat → Int32) (k53 : Int32 → (Nat → Int64) → (Nat → Int64) → (Nat → Int64) → Option ((Nat → Int64) × (Nat → Int64) × (Nat → Int64))) (n : Nat) (l4 : Int32) (l5 : Int32) (l6 : Int32) (l7 : Int32) (l8 : Int32) (f_ways : Nat → Int64) (f_nextWays : Nat → Int64) (f_tallies : Nat → Int64) :
  Option ((Nat → Int64) × (Nat → Int64) × (Nat → Int64)) :=
  loopN (fun k (s : Int32 × Int32 × Int32 × Int32 × Int32 × (Nat → Int64) × (Nat → Int64) × (Nat → Int64)) => mX11_layWays_B124 x0 x1 x2 f_blowMany f_blows f_downs f_forwards f_homes f_judges f_noises f_roundMany f_takens k53 (fun l4 l5 l6 l7 l8 f_ways f_nextWays f_tallies => k (l4, l5, l6, l7, l8, f_ways, f_nextWays, f_tallies)) s.1 s.2.1 s.2.2.1 s.2.2.2.1 s.2.2.2.2.1 s.2.2.2.2.2.1 s.2.2.2.2.2.2.1 s.2.2.2.2.2.2.2) n (l4, l5, l6, l7, l8, f_ways, f_nextWays, f_tallies)
def mX11_layWays_B98 (x0 : Int32) (x1 : Int32) (x2 : Int32) (f_blowMany : Nat → Int32) (f_blows : Nat → Int32) (f_downs : Nat → Int32) (f_forwards : Nat → Int32) (f_homes : Nat → Int32) (f_judges : Nat → Int32) (f_noises : Nat → Int32) (f_roundMany : Nat → Int32) (f_takens : Nat → Int32) (k53 : Int32 → (Nat → Int64) → (Nat → Int64) → (Nat → Int64) → Option ((Nat → Int64) × (Nat → Int64) × (Nat → Int64))) (k98 : Int32 → Int32 → Int32 → Int32 → Int32 → (Nat → Int64) → (Nat → Int64) → (Nat → Int64) → Option ((Nat → Int64) × (Nat → Int64) × (Nat → Int64))) (l4 : Int32) (l5 : Int32) (l6 : Int32) (l7 : Int32) (l8 : Int32) (f_ways : Nat → Int64) (f_nextWays : Nat → Int64) (f_tallies : Nat → Int64) :
  Option ((Nat → Int64) × (Nat → Int64) × (Nat → Int64)) :=
  if (600 : Int32) < l8 then (mX11_layWays_L124 x0 x1 x2 f_blowMany f_blows f_downs f_forwards f_homes f_judges f_noises f_roundMany f_takens k53 FUEL l4 l5 l6 l7 (10 : Int32) f_ways f_nextWays f_tallies) else (gi l8 601 <|
  lb (vp_updL f_nextWays l8.toNatClampNeg (0 : Int64)) fun g24 =>
  lb (l8 + (1 : Int32)) fun v25 =>
  k98 l4 l5 l6 l7 v25 f_ways g24 f_tallies)
def mX11_layWays_L98 (x0 : Int32) (x1 : Int32) (x2 : Int32) (f_blowMany : Nat → Int32) (f_blows : Nat → Int32) (f_downs : Nat → Int32) (f_forwards : Nat → Int32) (f_homes : Nat → Int32) (f_judges : Nat → Int32) (f_noises : Nat → Int32) (f_roundMany : Nat → Int32) (f_takens : Nat → Int32) (k53 : Int32 → (Nat → Int64) → (Nat → Int64) → (Nat → Int64) → Option ((Nat → Int64) × (Nat → Int64) × (Nat → Int64))) (n : Nat) (l4 : Int32) (l5 : Int32) (l6 : Int32) (l7 : Int32) (l8 : Int32) (f_ways : Nat → Int64) (f_nextWays : Nat → Int64) (f_tallies : Nat → Int64) :
  Option ((Nat → Int64) × (Nat → Int64) × (Nat → Int64)) :=
  loopN (fun k (s : Int32 × Int32 × Int32 × Int32 × Int32 × (Nat → Int64) × (Nat → Int64) × (Nat → Int64)) => mX11_layWays_B98 x0 x1 x2 f_blowMany f_blows f_downs f_forwards f_homes f_judges f_noises f_roundMany f_takens k53 (fun l4 l5 l6 l7 l8 f_ways f_nextWays f_tallies => k (l4, l5, l6, l7, l8, f_ways, f_nextWays, f_tallies)) s.1 s.2.1 s.2.2.1 s.2.2.2.1 s.2.2.2.2.1 s.2.2.2.2.2.1 s.2.2.2.2.2.2.1 s.2.2.2.2.2.2.2) n (l4, l5, l6, l7, l8, f_ways, f_nextWays, f_tallies)
def mX11_layWays_B53 (x0 : Int32) (x1 : Int32) (x2 : Int32) (f_blowMany : Nat → Int32) (f_blows : Nat → Int32) (f_downs : Nat → Int32) (f_forwards : Nat → Int32) (f_homes : Nat → Int32) (f_judges : Nat → Int32) (f_noises : Nat → Int32) (f_roundMany : Nat → Int32) (f_takens : Nat → Int32) (k53 : Int32 → (Nat → Int64) → (Nat → Int64) → (Nat → Int64) → Option ((Nat → Int64) × (Nat → Int64) × (Nat → Int64))) (l4 : Int32) (f_ways : Nat → Int64) (f_nextWays : Nat → Int64) (f_tallies : Nat → Int64) :
  Option ((Nat → Int64) × (Nat → Int64) × (Nat → Int64)) :=
  if (f_roundMany (0 : Int32).toNatClampNeg) ≤ l4 then (mX11_layWays_L227 x0 x1 x2 f_blowMany f_blows f_downs f_forwards f_homes f_judges f_noises f_roundMany f_takens  FUEL (0 : Int32) f_ways f_nextWays f_tallies) else ((mX11_margin0 x0 x1 l4 (0 : Int32) f_blowMany f_blows f_downs f_forwards f_homes f_judges f_noises).bind fun o12 =>
  (mX11_margin0 x0 x1 l4 (1 : Int32) f_blowMany f_blows f_downs f_forwards f_homes f_judges f_noises).bind fun o14 =>
  (mX11_isClose x1 l4 f_blowMany f_blows f_forwards f_homes f_judges f_noises).bind fun o16 =>
  mX11_layWays_L98 x0 x1 x2 f_blowMany f_blows f_downs f_forwards f_homes f_judges f_noises f_roundMany f_takens k53 FUEL l4 o12 o14 o16 (0 : Int32) f_ways f_nextWays f_tallies)
def mX11_layWays_L53 (x0 : Int32) (x1 : Int32) (x2 : Int32) (f_blowMany : Nat → Int32) (f_blows : Nat → Int32) (f_downs : Nat → Int32) (f_forwards : Nat → Int32) (f_homes : Nat → Int32) (f_judges : Nat → Int32) (f_noises : Nat → Int32) (f_roundMany : Nat → Int32) (f_takens : Nat → Int32) (n : Nat) (l4 : Int32) (f_ways : Nat → Int64) (f_nextWays : Nat → Int64) (f_tallies : Nat → Int64) :
  Option ((Nat → Int64) × (Nat → Int64) × (Nat → Int64)) :=
  loopN (fun k (s : Int32 × (Nat → Int64) × (Nat → Int64) × (Nat → Int64)) => mX11_layWays_B53 x0 x1 x2 f_blowMany f_blows f_downs f_forwards f_homes f_judges f_noises f_roundMany f_takens  (fun l4 f_ways f_nextWays f_tallies => k (l4, f_ways, f_nextWays, f_tallies)) s.1 s.2.1 s.2.2.1 s.2.2.2) n (l4, f_ways, f_nextWays, f_tallies)
def mX11_layWays_B3 (x0 : Int32) (x1 : Int32) (x2 : Int32) (f_blowMany : Nat → Int32) (f_blows : Nat → Int32) (f_downs : Nat → Int32) (f_forwards : Nat → Int32) (f_homes : Nat → Int32) (f_judges : Nat → Int32) (f_noises : Nat → Int32) (f_roundMany : Nat → Int32) (f_takens : Nat → Int32) (k3 : Int32 → (Nat → Int64) → (Nat → Int64) → (Nat → Int64) → Option ((Nat → Int64) × (Nat → Int64) × (Nat → Int64))) (l4 : Int32) (f_ways : Nat → Int64) (f_nextWays : Nat → Int64) (f_tallies : Nat → Int64) :
  Option ((Nat → Int64) × (Nat → Int64) × (Nat → Int64)) :=
  if (600 : Int32) < l4 then ((mX11_takenOf (1 : Int32) f_roundMany f_takens).bind fun o2 =>
  (mX11_takenOf (0 : Int32) f_roundMany f_takens).bind fun o4 =>
  gi (((300 : Int32) + ((2 : Int32) * o2)) - ((2 : Int32) * o4)) 601 <|
  lb (vp_updL f_ways (((300 : Int32) + ((2 : Int32) * o2)) - ((2 : Int32) * o4)).toNatClampNeg (1 : Int64)) fun g7 =>
  mX11_layWays_L53 x0 x1 x2 f_blowMany f_blows f_downs f_forwards f_homes f_judges f_noises f_roundMany f_takens  FUEL (0 : Int32) g7 f_nextWays f_tallies) else (gi l4 601 <|
  lb (vp_updL f_ways l4.toNatClampNeg (0 : Int64)) fun g9 =>
  lb (l4 + (1 : Int32)) fun v10 =>
  k3 v10 g9 f_nextWays f_tallies)
def mX11_layWays_L3 (x0 : Int32) (x1 : Int32) (x2 : Int32) (f_blowMany : Nat → Int32) (f_blows : Nat → Int32) (f_downs : Nat → Int32) (f_forwards : Nat → Int32) (f_homes : Nat → Int32) (f_judges : Nat → Int32) (f_noises : Nat → Int32) (f_roundMany : Nat → Int32) (f_takens : Nat → Int32) (n : Nat) (l4 : Int32) (f_ways : Nat → Int64) (f_nextWays : Nat → Int64) (f_tallies : Nat → Int64) :
  Option ((Nat → Int64) × (Nat → Int64) × (Nat → Int64)) :=
  loopN (fun k (s : Int32 × (Nat → Int64) × (Nat → Int64) × (Nat → Int64)) => mX11_layWays_B3 x0 x1 x2 f_blowMany f_blows f_downs f_forwards f_homes f_judges f_noises f_roundMany f_takens  (fun l4 f_ways f_nextWays f_tallies => k (l4, f_ways, f_nextWays, f_tallies)) s.1 s.2.1 s.2.2.1 s.2.2.2) n (l4, f_ways, f_nextWays, f_tallies)
def mX11_layWays (x0 : Int32) (x1 : Int32) (x2 : Int32) (f_blowMany : Nat → Int32) (f_blows : Nat → Int32) (f_downs : Nat → Int32) (f_forwards : Nat → Int32) (f_homes : Nat → Int32) (f_judges : Nat → Int32) (f_nextWays : Nat → Int64) (f_noises : Nat → Int32) (f_roundMany : Nat → Int32) (f_takens : Nat → Int32) (f_tallies : Nat → Int64) (f_ways : Nat → Int64) :
  Option ((Nat → Int64) × (Nat → Int64) × (Nat → Int64)) :=
  mX11_layWays_L3 x0 x1 x2 f_blowMany f_blows f_downs f_forwards f_homes f_judges f_noises f_roundMany f_takens  FUEL (0 : Int32) f_ways f_nextWays f_tallies
def mX11_cardAs (x0 : Int32) :
  Option (Int32) :=
  if x0 = 0 then (some (1 : Int32)) else (if x0 = (1 : Int32) then (some (-1 : Int32)) else (some (0 : Int32)))
def mX11_common_B6 (x0 : Int64) (x1 : Int64) (k6 : Int64 → Int64 → Option (Int64)) (l4 : Int64) (l6 : Int64) :
  Option (Int64) :=
  if (lg_cmp l6 (0 : Int64)) = 0 then (some l4) else (gd (¬ l6 = 0) <|
  lb (l4 - l4 / l6 * l6) fun v3 =>
  k6 l6 v3)
def mX11_common_L6 (x0 : Int64) (x1 : Int64) (n : Nat) (l4 : Int64) (l6 : Int64) :
  Option (Int64) :=
  loopN (fun k (s : Int64 × Int64) => mX11_common_B6 x0 x1  (fun l4 l6 => k (l4, l6)) s.1 s.2) n (l4, l6)
def mX11_common (x0 : Int64) (x1 : Int64) :
  Option (Int64) :=
  mX11_common_L6 x0 x1  FUEL x0 x1
def mX11_coins_B169 (x0 : Int32) (x1 : Int32) (x2 : Int32) (x3 : Int32) (x4 : Int32) (x5 : Int32) (f_blowMany : Nat → Int32) (f_blows : Nat → Int32) (f_downs : Nat → Int32) (f_forwards : Nat → Int32) (f_homes : Nat → Int32) (f_judgeMany : Nat → Int32) (f_judges : Nat → Int32) (f_noises : Nat → Int32) (f_roundMany : Nat → Int32) (f_takens : Nat → Int32) (k117 : Int32 → Int64 → Int32 → (Nat → Int64) → (Nat → Int64) → (Nat → Int64) → Option (Int64 × (Nat → Int64) × (Nat → Int64) × (Nat → Int64))) (k126 : Int32 → Int64 → Int32 → Int32 → (Nat → Int64) → (Nat → Int64) → (Nat → Int64) → Option (Int64 × (Nat → Int64) × (Nat → Int64) × (Nat → Int64))) (k135 : Int32 → Int64 → Int32 → Int32 → Int32 → (Nat → Int64) → (Nat → Int64) → (Nat → Int64) → Option (Int64 × (Nat → Int64) × (Nat → Int64) × (Nat → Int64))) (l7 : Int32) (l8 : Int64) (l10 : Int32) (l11 : Int32) (l12 : Int32) (s0 : Int32) (f_ways : Nat → Int64) (f_nextWays : Nat → Int64) (f_tallies : Nat → Int64) :
  Option (Int64 × (Nat → Int64) × (Nat → Int64) × (Nat → Int64)) :=
  if s0 = 0 then (lb (l8 + (0 : Int64)) fun v52 =>
  lb (l12 + (1 : Int32)) fun v53 =>
  k135 l7 v52 l10 l11 v53 f_ways f_nextWays f_tallies) else (gi l10 9 <|
  gi ((3 : Int32) + l11) 9 <|
  gi ((6 : Int32) + l12) 9 <|
  lb (l8 + (((f_tallies l10.toNatClampNeg) * (f_tallies ((3 : Int32) + l11).toNatClampNeg)) * (f_tallies ((6 : Int32) + l12).toNatClampNeg))) fun v57 =>
  lb (l12 + (1 : Int32)) fun v58 =>
  k135 l7 v57 l10 l11 v58 f_ways f_nextWays f_tallies)
def mX11_coins_B135 (x0 : Int32) (x1 : Int32) (x2 : Int32) (x3 : Int32) (x4 : Int32) (x5 : Int32) (f_blowMany : Nat → Int32) (f_blows : Nat → Int32) (f_downs : Nat → Int32) (f_forwards : Nat → Int32) (f_homes : Nat → Int32) (f_judgeMany : Nat → Int32) (f_judges : Nat → Int32) (f_noises : Nat → Int32) (f_roundMany : Nat → Int32) (f_takens : Nat → Int32) (k117 : Int32 → Int64 → Int32 → (Nat → Int64) → (Nat → Int64) → (Nat → Int64) → Option (Int64 × (Nat → Int64) × (Nat → Int64) × (Nat → Int64))) (k126 : Int32 → Int64 → Int32 → Int32 → (Nat → Int64) → (Nat → Int64) → (Nat → Int64) → Option (Int64 × (Nat → Int64) × (Nat → Int64) × (Nat → Int64))) (k135 : Int32 → Int64 → Int32 → Int32 → Int32 → (Nat → Int64) → (Nat → Int64) → (Nat → Int64) → Option (Int64 × (Nat → Int64) × (Nat → Int64) × (Nat → Int64))) (l7 : Int32) (l8 : Int64) (l10 : Int32) (l11 : Int32) (l12 : Int32) (f_ways : Nat → Int64) (f_nextWays : Nat → Int64) (f_tallies : Nat → Int64) :
  Option (Int64 × (Nat → Int64) × (Nat → Int64) × (Nat → Int64)) :=
  if (3 : Int32) ≤ l12 then (lb (l11 + (1 : Int32)) fun v41 =>
  k126 l7 l8 l10 v41 f_ways f_nextWays f_tallies) else ((mX11_cardAs l10).bind fun o42 =>
  (mX11_cardAs l11).bind fun o44 =>
  (mX11_cardAs l12).bind fun o46 =>
  (mX11_whoBy o42 o44 o46).bind fun o48 =>
  if o48 = x4 then (mX11_coins_B169 x0 x1 x2 x3 x4 x5 f_blowMany f_blows f_downs f_forwards f_homes f_judgeMany f_judges f_noises f_roundMany f_takens k117 k126 k135 l7 l8 l10 l11 l12 (1 : Int32) f_ways f_nextWays f_tallies) else (mX11_coins_B169 x0 x1 x2 x3 x4 x5 f_blowMany f_blows f_downs f_forwards f_homes f_judgeMany f_judges f_noises f_roundMany f_takens k117 k126 k135 l7 l8 l10 l11 l12 (0 : Int32) f_ways f_nextWays f_tallies))
def mX11_coins_L135 (x0 : Int32) (x1 : Int32) (x2 : Int32) (x3 : Int32) (x4 : Int32) (x5 : Int32) (f_blowMany : Nat → Int32) (f_blows : Nat → Int32) (f_downs : Nat → Int32) (f_forwards : Nat → Int32) (f_homes : Nat → Int32) (f_judgeMany : Nat → Int32) (f_judges : Nat → Int32) (f_noises : Nat → Int32) (f_roundMany : Nat → Int32) (f_takens : Nat → Int32) (k117 : Int32 → Int64 → Int32 → (Nat → Int64) → (Nat → Int64) → (Nat → Int64) → Option (Int64 × (Nat → Int64) × (Nat → Int64) × (Nat → Int64))) (k126 : Int32 → Int64 → Int32 → Int32 → (Nat → Int64) → (Nat → Int64) → (Nat → Int64) → Option (Int64 × (Nat → Int64) × (Nat → Int64) × (Nat → Int64))) (n : Nat) (l7 : Int32) (l8 : Int64) (l10 : Int32) (l11 : Int32) (l12 : Int32) (f_ways : Nat → Int64) (f_nextWays : Nat → Int64) (f_tallies : Nat → Int64) :
  Option (Int64 × (Nat → Int64) × (Nat → Int64) × (Nat → Int64)) :=
  loopN (fun k (s : Int32 × Int64 × Int32 × Int32 × Int32 × (Nat → Int64) × (Nat → Int64) × (Nat → Int64)) => mX11_coins_B135 x0 x1 x2 x3 x4 x5 f_blowMany f_blows f_downs f_forwards f_homes f_judgeMany f_judges f_noises f_roundMany f_takens k117 k126 (fun l7 l8 l10 l11 l12 f_ways f_nextWays f_tallies => k (l7, l8, l10, l11, l12, f_ways, f_nextWays, f_tallies)) s.1 s.2.1 s.2.2.1 s.2.2.2.1 s.2.2.2.2.1 s.2.2.2.2.2.1 s.2.2.2.2.2.2.1 s.2.2.2.2.2.2.2) n (l7, l8, l10, l11, l12, f_ways, f_nextWays, f_tallies)
def mX11_coins_B126 (x0 : Int32) (x1 : Int32) (x2 : Int32) (x3 : Int32) (x4 : Int32) (x5 : Int32) (f_blowMany : Nat → Int32) (f_blows : Nat → Int32) (f_downs : Nat → Int32) (f_forwards : Nat → Int32) (f_homes : Nat → Int32) (f_judgeMany : Nat → Int32) (f_judges : Nat → Int32) (f_noises : Nat → Int32) (f_roundMany : Nat → Int32) (f_takens : Nat → Int32) (k117 : Int32 → Int64 → Int32 → (Nat → Int64) → (Nat → Int64) → (Nat → Int64) → Option (Int64 × (Nat → Int64) × (Nat → Int64) × (Nat → Int64))) (k126 : Int32 → Int64 → Int32 → Int32 → (Nat → Int64) → (Nat → Int64) → (Nat → Int64) → Option (Int64 × (Nat → Int64) × (Nat → Int64) × (Nat → Int64))) (l7 : Int32) (l8 : Int64) (l10 : Int32) (l11 : Int32) (f_ways : Nat → Int64) (f_nextWays : Nat → Int64) (f_tallies : Nat → Int64) :
  Option (Int64 × (Nat → Int64) × (Nat → Int64) × (Nat → Int64)) :=
  if (3 : Int32) ≤ l11 then (lb (l10 + (1 : Int32)) fun v39 =>
  k117 l7 l8 v39 f_ways f_nextWays f_tallies) else (mX11_coins_L135 x0 x1 x2 x3 x4 x5 f_blowMany f_blows f_downs f_forwards f_homes f_judgeMany f_judges f_noises f_roundMany f_takens k117 k126 FUEL l7 l8 l10 l11 (0 : Int32) f_ways f_nextWays f_tallies)
def mX11_coins_L126 (x0 : Int32) (x1 : Int32) (x2 : Int32) (x3 : Int32) (x4 : Int32) (x5 : Int32) (f_blowMany : Nat → Int32) (f_blows : Nat → Int32) (f_downs : Nat → Int32) (f_forwards : Nat → Int32) (f_homes : Nat → Int32) (f_judgeMany : Nat → Int32) (f_judges : Nat → Int32) (f_noises : Nat → Int32) (f_roundMany : Nat → Int32) (f_takens : Nat → Int32) (k117 : Int32 → Int64 → Int32 → (Nat → Int64) → (Nat → Int64) → (Nat → Int64) → Option (Int64 × (Nat → Int64) × (Nat → Int64) × (Nat → Int64))) (n : Nat) (l7 : Int32) (l8 : Int64) (l10 : Int32) (l11 : Int32) (f_ways : Nat → Int64) (f_nextWays : Nat → Int64) (f_tallies : Nat → Int64) :
  Option (Int64 × (Nat → Int64) × (Nat → Int64) × (Nat → Int64)) :=
  loopN (fun k (s : Int32 × Int64 × Int32 × Int32 × (Nat → Int64) × (Nat → Int64) × (Nat → Int64)) => mX11_coins_B126 x0 x1 x2 x3 x4 x5 f_blowMany f_blows f_downs f_forwards f_homes f_judgeMany f_judges f_noises f_roundMany f_takens k117 (fun l7 l8 l10 l11 f_ways f_nextWays f_tallies => k (l7, l8, l10, l11, f_ways, f_nextWays, f_tallies)) s.1 s.2.1 s.2.2.1 s.2.2.2.1 s.2.2.2.2.1 s.2.2.2.2.2.1 s.2.2.2.2.2.2) n (l7, l8, l10, l11, f_ways, f_nextWays, f_tallies)
def mX11_coins_B117 (x0 : Int32) (x1 : Int32) (x2 : Int32) (x3 : Int32) (x4 : Int32) (x5 : Int32) (f_blowMany : Nat → Int32) (f_blows : Nat → Int32) (f_downs : Nat → Int32) (f_forwards : Nat → Int32) (f_homes : Nat → Int32) (f_judgeMany : Nat → Int32) (f_judges : Nat → Int32) (f_noises : Nat → Int32) (f_roundMany : Nat → Int32) (f_takens : Nat → Int32) (k117 : Int32 → Int64 → Int32 → (Nat → Int64) → (Nat → Int64) → (Nat → Int64) → Option (Int64 × (Nat → Int64) × (Nat → Int64) × (Nat → Int64))) (l7 : Int32) (l8 : Int64) (l10 : Int32) (f_ways : Nat → Int64) (f_nextWays : Nat → Int64) (f_tallies : Nat → Int64) :
  Option (Int64 × (Nat → Int64) × (Nat → Int64) × (Nat → Int64)) :=
  if (3 : Int32) ≤ l10 then (lb ((1 : Int64) <<< (Int32.toInt64 l7 &&& 63)) fun v30 =>
  (mX11_common l8 v30).bind fun o31 =>
  if x5 = 0 then (gd (¬ o31 = 0) <|
  lb (l8 / o31) fun v37 =>
  some (v37, f_ways, f_nextWays, f_tallies)) else (gd (¬ o31 = 0) <|
  lb (v30 / o31) fun v35 =>
  some (v35, f_ways, f_nextWays, f_tallies))) else (mX11_coins_L126 x0 x1 x2 x3 x4 x5 f_blowMany f_blows f_downs f_forwards f_homes f_judgeMany f_judges f_noises f_roundMany f_takens k117 FUEL l7 l8 l10 (0 : Int32) f_ways f_nextWays f_tallies)
def mX11_coins_L117 (x0 : Int32) (x1 : Int32) (x2 : Int32) (x3 : Int32) (x4 : Int32) (x5 : Int32) (f_blowMany : Nat → Int32) (f_blows : Nat → Int32) (f_downs : Nat → Int32) (f_forwards : Nat → Int32) (f_homes : Nat → Int32) (f_judgeMany : Nat → Int32) (f_judges : Nat → Int32) (f_noises : Nat → Int32) (f_roundMany : Nat → Int32) (f_takens : Nat → Int32) (n : Nat) (l7 : Int32) (l8 : Int64) (l10 : Int32) (f_ways : Nat → Int64) (f_nextWays : Nat → Int64) (f_tallies : Nat → Int64) :
  Option (Int64 × (Nat → Int64) × (Nat → Int64) × (Nat → Int64)) :=
  loopN (fun k (s : Int32 × Int64 × Int32 × (Nat → Int64) × (Nat → Int64) × (Nat → Int64)) => mX11_coins_B117 x0 x1 x2 x3 x4 x5 f_blowMany f_blows f_downs f_forwards f_homes f_judgeMany f_judges f_noises f_roundMany f_takens  (fun l7 l8 l10 f_ways f_nextWays f_tallies => k (l7, l8, l10, f_ways, f_nextWays, f_tallies)) s.1 s.2.1 s.2.2.1 s.2.2.2.1 s.2.2.2.2.1 s.2.2.2.2.2) n (l7, l8, l10, f_ways, f_nextWays, f_tallies)
def mX11_coins_B50 (x0 : Int32) (x1 : Int32) (x2 : Int32) (x3 : Int32) (x4 : Int32) (x5 : Int32) (f_blowMany : Nat → Int32) (f_blows : Nat → Int32) (f_downs : Nat → Int32) (f_forwards : Nat → Int32) (f_homes : Nat → Int32) (f_judgeMany : Nat → Int32) (f_judges : Nat → Int32) (f_noises : Nat → Int32) (f_roundMany : Nat → Int32) (f_takens : Nat → Int32) (s0 : Int64) (s1 : Int64) (s2 : Int64) (f_ways : Nat → Int64) (f_nextWays : Nat → Int64) (f_tallies : Nat → Int64) :
  Option (Int64 × (Nat → Int64) × (Nat → Int64) × (Nat → Int64)) :=
  (mX11_in s0 s1 s2).bind fun o11 =>
  if o11 = 0 then (some ((-1 : Int64), f_ways, f_nextWays, f_tallies)) else ((mX11_coinsOf x1 f_blowMany f_blows f_forwards f_homes f_judges f_noises f_roundMany).bind fun o14 =>
  (mX11_coinsOf x2 f_blowMany f_blows f_forwards f_homes f_judges f_noises f_roundMany).bind fun o16 =>
  (mX11_coinsOf x3 f_blowMany f_blows f_forwards f_homes f_judges f_noises f_roundMany).bind fun o18 =>
  lb ((o14 + o16) + o18) fun v20 =>
  if 0 ≤ x4 then ((mX11_layWays x0 x1 (0 : Int32) f_blowMany f_blows f_downs f_forwards f_homes f_judges f_nextWays f_noises f_roundMany f_takens f_tallies f_ways).bind fun o22 =>
  (mX11_layWays x0 x2 (1 : Int32) f_blowMany f_blows f_downs f_forwards f_homes f_judges o22.2.1 f_noises f_roundMany f_takens o22.2.2 o22.1).bind fun o24 =>
  (mX11_layWays x0 x3 (2 : Int32) f_blowMany f_blows f_downs f_forwards f_homes f_judges o24.2.1 f_noises f_roundMany f_takens o24.2.2 o24.1).bind fun o26 =>
  mX11_coins_L117 x0 x1 x2 x3 x4 x5 f_blowMany f_blows f_downs f_forwards f_homes f_judgeMany f_judges f_noises f_roundMany f_takens  FUEL v20 (0 : Int64) (0 : Int32) o26.1 o26.2.1 o26.2.2) else (lb (Int32.toInt64 v20) fun v28 =>
  some (v28, f_ways, f_nextWays, f_tallies)))
def mX11_coins (x0 : Int32) (x1 : Int32) (x2 : Int32) (x3 : Int32) (x4 : Int32) (x5 : Int32) (f_blowMany : Nat → Int32) (f_blows : Nat → Int32) (f_downs : Nat → Int32) (f_forwards : Nat → Int32) (f_homes : Nat → Int32) (f_judgeMany : Nat → Int32) (f_judges : Nat → Int32) (f_nextWays : Nat → Int64) (f_noises : Nat → Int32) (f_roundMany : Nat → Int32) (f_takens : Nat → Int32) (f_tallies : Nat → Int64) (f_ways : Nat → Int64) :
  Option (Int64 × (Nat → Int64) × (Nat → Int64) × (Nat → Int64)) :=
  (mX11_in (Int32.toInt64 x0) (0 : Int64) (1 : Int64)).bind fun o1 =>
  if o1 = 0 then (some ((-1 : Int64), f_ways, f_nextWays, f_tallies)) else ((mX11_areThree x1 x2 x3 f_judgeMany).bind fun o4 =>
  if o4 = 0 then (some ((-1 : Int64), f_ways, f_nextWays, f_tallies)) else ((mX11_in (Int32.toInt64 x4) (-1 : Int64) (2 : Int64)).bind fun o7 =>
  if o7 = 0 then (some ((-1 : Int64), f_ways, f_nextWays, f_tallies)) else (if 0 ≤ x4 then (mX11_coins_B50 x0 x1 x2 x3 x4 x5 f_blowMany f_blows f_downs f_forwards f_homes f_judgeMany f_judges f_noises f_roundMany f_takens  (Int32.toInt64 x5) (0 : Int64) (1 : Int64) f_ways f_nextWays f_tallies) else (mX11_coins_B50 x0 x1 x2 x3 x4 x5 f_blowMany f_blows f_downs f_forwards f_homes f_judgeMany f_judges f_noises f_roundMany f_takens  (Int32.toInt64 x5) (0 : Int64) (0 : Int64) f_ways f_nextWays f_tallies))))
def mX11_unseenBy_B73 (x0 : Int32) (x1 : Int32) (x2 : Int32) (x3 : Int32) (f_blowMany : Nat → Int32) (f_blows : Nat → Int32) (f_roundMany : Nat → Int32) (k6 : Int32 → Int32 → Option (Int32)) (l5 : Int32) (l6 : Int32) (s0 : Int32) (s1 : Int32) :
  Option (Int32) :=
  lb (s0 + s1) fun v13 =>
  gi ((5 : Int32) * l6) 400 <|
  if (f_roundMany (0 : Int32).toNatClampNeg) ≤ (f_blows ((5 : Int32) * l6).toNatClampNeg) then (lb (l5 + (0 : Int32)) fun v16 =>
  lb (l6 + (1 : Int32)) fun v17 =>
  k6 v16 v17) else (if x3 ≤ v13 then (lb (l5 + (0 : Int32)) fun v19 =>
  lb (l6 + (1 : Int32)) fun v20 =>
  k6 v19 v20) else (lb (l5 + (1 : Int32)) fun v21 =>
  lb (l6 + (1 : Int32)) fun v22 =>
  k6 v21 v22))
def mX11_unseenBy_B58 (x0 : Int32) (x1 : Int32) (x2 : Int32) (x3 : Int32) (f_blowMany : Nat → Int32) (f_blows : Nat → Int32) (f_roundMany : Nat → Int32) (k6 : Int32 → Int32 → Option (Int32)) (l5 : Int32) (l6 : Int32) (l7 : Int32) (s0 : Int32) (s1 : Int32) :
  Option (Int32) :=
  (mX11_shows x2 l7).bind fun o10 =>
  if o10 = 0 then (mX11_unseenBy_B73 x0 x1 x2 x3 f_blowMany f_blows f_roundMany k6 l5 l6 (s0 + s1) (0 : Int32)) else (mX11_unseenBy_B73 x0 x1 x2 x3 f_blowMany f_blows f_roundMany k6 l5 l6 (s0 + s1) (1 : Int32))
def mX11_unseenBy_B44 (x0 : Int32) (x1 : Int32) (x2 : Int32) (x3 : Int32) (f_blowMany : Nat → Int32) (f_blows : Nat → Int32) (f_roundMany : Nat → Int32) (k6 : Int32 → Int32 → Option (Int32)) (l5 : Int32) (l6 : Int32) (l7 : Int32) (s0 : Int32) :
  Option (Int32) :=
  (mX11_shows x1 l7).bind fun o7 =>
  if o7 = 0 then (mX11_unseenBy_B58 x0 x1 x2 x3 f_blowMany f_blows f_roundMany k6 l5 l6 l7 s0 (0 : Int32)) else (mX11_unseenBy_B58 x0 x1 x2 x3 f_blowMany f_blows f_roundMany k6 l5 l6 l7 s0 (1 : Int32))
def mX11_unseenBy_B6 (x0 : Int32) (x1 : Int32) (x2 : Int32) (x3 : Int32) (f_blowMany : Nat → Int32) (f_blows : Nat → Int32) (f_roundMany : Nat → Int32) (k6 : Int32 → Int32 → Option (Int32)) (l5 : Int32) (l6 : Int32) :
  Option (Int32) :=
  if (f_blowMany (0 : Int32).toNatClampNeg) ≤ l6 then (some l5) else (gi (((5 : Int32) * l6) + (4 : Int32)) 400 <|
  lb (f_blows (((5 : Int32) * l6) + (4 : Int32)).toNatClampNeg) fun v3 =>
  (mX11_shows x0 v3).bind fun o4 =>
  if o4 = 0 then (mX11_unseenBy_B44 x0 x1 x2 x3 f_blowMany f_blows f_roundMany k6 l5 l6 v3 (0 : Int32)) else (mX11_unseenBy_B44 x0 x1 x2 x3 f_blowMany f_blows f_roundMany k6 l5 l6 v3 (1 : Int32)))
def mX11_unseenBy_L6 (x0 : Int32) (x1 : Int32) (x2 : Int32) (x3 : Int32) (f_blowMany : Nat → Int32) (f_blows : Nat → Int32) (f_roundMany : Nat → Int32) (n : Nat) (l5 : Int32) (l6 : Int32) :
  Option (Int32) :=
  loopN (fun k (s : Int32 × Int32) => mX11_unseenBy_B6 x0 x1 x2 x3 f_blowMany f_blows f_roundMany  (fun l5 l6 => k (l5, l6)) s.1 s.2) n (l5, l6)
def mX11_unseenBy (x0 : Int32) (x1 : Int32) (x2 : Int32) (x3 : Int32) (f_blowMany : Nat → Int32) (f_blows : Nat → Int32) (f_roundMany : Nat → Int32) :
  Option (Int32) :=
  mX11_unseenBy_L6 x0 x1 x2 x3 f_blowMany f_blows f_roundMany  FUEL (0 : Int32) (0 : Int32)
def mX11_seats_B93 (x0 : Int32) (f_blowMany : Nat → Int32) (f_blows : Nat → Int32) (f_roundMany : Nat → Int32) (k22 : Int32 → Int32 → Int32 → Option (Int32)) (k35 : Int32 → Int32 → Int32 → Int32 → Option (Int32)) (k48 : Int32 → Int32 → Int32 → Int32 → Int32 → Option (Int32)) (l4 : Int32) (l5 : Int32) (l6 : Int32) (l7 : Int32) :
  Option (Int32) :=
  lb ((((144 : Int32) * l4) + ((12 : Int32) * l5)) + l6) fun v28 =>
  lb (l6 + (1 : Int32)) fun v29 =>
  k48 v28 l7 l4 l5 v29
def mX11_seats_B48 (x0 : Int32) (f_blowMany : Nat → Int32) (f_blows : Nat → Int32) (f_roundMany : Nat → Int32) (k22 : Int32 → Int32 → Int32 → Option (Int32)) (k35 : Int32 → Int32 → Int32 → Int32 → Option (Int32)) (k48 : Int32 → Int32 → Int32 → Int32 → Int32 → Option (Int32)) (l2 : Int32) (l3 : Int32) (l4 : Int32) (l5 : Int32) (l6 : Int32) :
  Option (Int32) :=
  if (12 : Int32) ≤ l6 then (lb (l5 + (1 : Int32)) fun v19 =>
  k35 l2 l3 l4 v19) else ((mX11_unseenBy l4 l5 l6 (2 : Int32) f_blowMany f_blows f_roundMany).bind fun o20 =>
  (mX11_unseenBy l4 l5 l6 (1 : Int32) f_blowMany f_blows f_roundMany).bind fun o22 =>
  lb (((100 : Int32) * o20) + o22) fun v24 =>
  if l2 < 0 then (mX11_seats_B93 x0 f_blowMany f_blows f_roundMany k22 k35 k48 l4 l5 l6 v24) else (if l3 ≤ v24 then (lb (l6 + (1 : Int32)) fun v27 =>
  k48 l2 l3 l4 l5 v27) else (mX11_seats_B93 x0 f_blowMany f_blows f_roundMany k22 k35 k48 l4 l5 l6 v24)))
def mX11_seats_L48 (x0 : Int32) (f_blowMany : Nat → Int32) (f_blows : Nat → Int32) (f_roundMany : Nat → Int32) (k22 : Int32 → Int32 → Int32 → Option (Int32)) (k35 : Int32 → Int32 → Int32 → Int32 → Option (Int32)) (n : Nat) (l2 : Int32) (l3 : Int32) (l4 : Int32) (l5 : Int32) (l6 : Int32) :
  Option (Int32) :=
  loopN (fun k (s : Int32 × Int32 × Int32 × Int32 × Int32) => mX11_seats_B48 x0 f_blowMany f_blows f_roundMany k22 k35 (fun l2 l3 l4 l5 l6 => k (l2, l3, l4, l5, l6)) s.1 s.2.1 s.2.2.1 s.2.2.2.1 s.2.2.2.2) n (l2, l3, l4, l5, l6)
def mX11_seats_B35 (x0 : Int32) (f_blowMany : Nat → Int32) (f_blows : Nat → Int32) (f_roundMany : Nat → Int32) (k22 : Int32 → Int32 → Int32 → Option (Int32)) (k35 : Int32 → Int32 → Int32 → Int32 → Option (Int32)) (l2 : Int32) (l3 : Int32) (l4 : Int32) (l5 : Int32) :
  Option (Int32) :=
  if (12 : Int32) ≤ l5 then (lb (l4 + (1 : Int32)) fun v16 =>
  k22 l2 l3 v16) else (lb (l5 + (1 : Int32)) fun v17 =>
  mX11_seats_L48 x0 f_blowMany f_blows f_roundMany k22 k35 FUEL l2 l3 l4 l5 v17)
def mX11_seats_L35 (x0 : Int32) (f_blowMany : Nat → Int32) (f_blows : Nat → Int32) (f_roundMany : Nat → Int32) (k22 : Int32 → Int32 → Int32 → Option (Int32)) (n : Nat) (l2 : Int32) (l3 : Int32) (l4 : Int32) (l5 : Int32) :
  Option (Int32) :=
  loopN (fun k (s : Int32 × Int32 × Int32 × Int32) => mX11_seats_B35 x0 f_blowMany f_blows f_roundMany k22 (fun l2 l3 l4 l5 => k (l2, l3, l4, l5)) s.1 s.2.1 s.2.2.1 s.2.2.2) n (l2, l3, l4, l5)
def mX11_seats_B22 (x0 : Int32) (f_blowMany : Nat → Int32) (f_blows : Nat → Int32) (f_roundMany : Nat → Int32) (k22 : Int32 → Int32 → Int32 → Option (Int32)) (l2 : Int32) (l3 : Int32) (l4 : Int32) :
  Option (Int32) :=
  if (12 : Int32) ≤ l4 then (if x0 = (0 : Int32) then (lb (l2 / (144 : Int32)) fun v7 =>
  some v7) else (if x0 = (1 : Int32) then (lb ((l2 / (12 : Int32)) - (l2 / (12 : Int32)) / (12 : Int32) * (12 : Int32)) fun v9 =>
  some v9) else (if x0 = (2 : Int32) then (lb (l2 - l2 / (12 : Int32) * (12 : Int32)) fun v11 =>
  some v11) else (if x0 = (3 : Int32) then (lb (l3 / (100 : Int32)) fun v13 =>
  some v13) else (lb (l3 - l3 / (100 : Int32) * (100 : Int32)) fun v5 =>
  some v5))))) else (lb (l4 + (1 : Int32)) fun v14 =>
  mX11_seats_L35 x0 f_blowMany f_blows f_roundMany k22 FUEL l2 l3 l4 v14)
def mX11_seats_L22 (x0 : Int32) (f_blowMany : Nat → Int32) (f_blows : Nat → Int32) (f_roundMany : Nat → Int32) (n : Nat) (l2 : Int32) (l3 : Int32) (l4 : Int32) :
  Option (Int32) :=
  loopN (fun k (s : Int32 × Int32 × Int32) => mX11_seats_B22 x0 f_blowMany f_blows f_roundMany  (fun l2 l3 l4 => k (l2, l3, l4)) s.1 s.2.1 s.2.2) n (l2, l3, l4)
def mX11_seats (x0 : Int32) (f_blowMany : Nat → Int32) (f_blows : Nat → Int32) (f_roundMany : Nat → Int32) :
  Option (Int32) :=
  (mX11_in (Int32.toInt64 x0) (0 : Int64) (4 : Int64)).bind fun o1 =>
  if o1 = 0 then (some (-1 : Int32)) else (mX11_seats_L22 x0 f_blowMany f_blows f_roundMany  FUEL (-4 : Int32) (0 : Int32) (0 : Int32))
def mX11_delay (x0 : Int32) (x1 : Int32) (f_delays : Nat → Int32) (f_judgeMany : Nat → Int32) :
  Option (Int32 × (Nat → Int32)) :=
  (mX11_isJudge x0 f_judgeMany).bind fun o1 =>
  if o1 = 0 then (some ((-1 : Int32), f_delays)) else ((mX11_in (Int32.toInt64 x1) (0 : Int64) (9 : Int64)).bind fun o4 =>
  if o4 = 0 then (some ((-1 : Int32), f_delays)) else (gi x0 24 <|
  lb (f_delays x0.toNatClampNeg) fun v8 =>
  gi x0 24 <|
  lb (upd f_delays x0.toNatClampNeg x1) fun g10 =>
  some (v8, g10)))
def mX11_pressOf_B3 (x0 : Int32) (x1 : Int32) (x2 : Int32) (f_presses : Nat → Int32) (k3 : Int32 → Option (Int32)) (l4 : Int32) :
  Option (Int32) :=
  if x2 < l4 then (some (-4 : Int32)) else (if (190 : Int32) ≤ l4 then (some (-4 : Int32)) else (gi (((8 : Int32) * l4) + x0) 1520 <|
  if (f_presses (((8 : Int32) * l4) + x0).toNatClampNeg) ≤ 0 then (lb (l4 + (1 : Int32)) fun v5 =>
  k3 v5) else (some l4)))
def mX11_pressOf_L3 (x0 : Int32) (x1 : Int32) (x2 : Int32) (f_presses : Nat → Int32) (n : Nat) (l4 : Int32) :
  Option (Int32) :=
  loopN (fun k (s : Int32) => mX11_pressOf_B3 x0 x1 x2 f_presses  (k) s) n (l4)
def mX11_pressOf (x0 : Int32) (x1 : Int32) (x2 : Int32) (f_presses : Nat → Int32) :
  Option (Int32) :=
  mX11_pressOf_L3 x0 x1 x2 f_presses  FUEL x1
def mX11_pressing_B5 (x0 : Int32) (x1 : Int32) (f_presses : Nat → Int32) (k5 : Int32 → Int32 → Option (Int32)) (l3 : Int32) (l4 : Int32) :
  Option (Int32) :=
  if (8 : Int32) ≤ l4 then (some l3) else ((mX11_pressOf l4 x0 (x0 + x1) f_presses).bind fun o2 =>
  if o2 < 0 then (lb (l3 + (0 : Int32)) fun v5 =>
  lb (l4 + (1 : Int32)) fun v6 =>
  k5 v5 v6) else (lb (l3 + (1 : Int32)) fun v7 =>
  lb (l4 + (1 : Int32)) fun v8 =>
  k5 v7 v8))
def mX11_pressing_L5 (x0 : Int32) (x1 : Int32) (f_presses : Nat → Int32) (n : Nat) (l3 : Int32) (l4 : Int32) :
  Option (Int32) :=
  loopN (fun k (s : Int32 × Int32) => mX11_pressing_B5 x0 x1 f_presses  (fun l3 l4 => k (l3, l4)) s.1 s.2) n (l3, l4)
def mX11_pressing (x0 : Int32) (x1 : Int32) (f_presses : Nat → Int32) :
  Option (Int32) :=
  mX11_pressing_L5 x0 x1 f_presses  FUEL (0 : Int32) (0 : Int32)
def mX11_use_B2 (x0 : Int32) (x1 : Int32) (k2 : Int32 → (Nat → Int32) → Option ((Nat → Int32))) (l3 : Int32) (f_presses : Nat → Int32) :
  Option ((Nat → Int32)) :=
  if (8 : Int32) ≤ l3 then (some f_presses) else ((mX11_pressOf l3 x0 (x0 + x1) f_presses).bind fun o2 =>
  if o2 < 0 then (lb (l3 + (1 : Int32)) fun v5 =>
  k2 v5 f_presses) else (lb (((8 : Int32) * o2) + l3) fun v6 =>
  gi v6 1520 <|
  gi v6 1520 <|
  lb (upd f_presses v6.toNatClampNeg ((f_presses v6.toNatClampNeg) - (1 : Int32))) fun g9 =>
  lb (l3 + (1 : Int32)) fun v10 =>
  k2 v10 g9))
def mX11_use_L2 (x0 : Int32) (x1 : Int32) (n : Nat) (l3 : Int32) (f_presses : Nat → Int32) :
  Option ((Nat → Int32)) :=
  loopN (fun k (s : Int32 × (Nat → Int32)) => mX11_use_B2 x0 x1  (fun l3 f_presses => k (l3, f_presses)) s.1 s.2) n (l3, f_presses)
def mX11_use (x0 : Int32) (x1 : Int32) (f_presses : Nat → Int32) :
  Option ((Nat → Int32)) :=
  mX11_use_L2 x0 x1  FUEL (0 : Int32) f_presses
def mX11_pointsBy_B144 (x0 : Int32) (x1 : Int32) (x2 : Int32) (x3 : Int32) (f_blowMany : Nat → Int32) (f_blows : Nat → Int32) (f_delays : Nat → Int32) (f_judgeMany : Nat → Int32) (f_judges : Nat → Int32) (k144 : Int32 → Int32 → (Nat → Int32) → Option (Int32 × (Nat → Int32))) (l5 : Int32) (l6 : Int32) (f_presses : Nat → Int32) :
  Option (Int32 × (Nat → Int32)) :=
  if (1520 : Int32) ≤ l6 then (some (l5, f_presses)) else (gi l6 1520 <|
  if (f_presses l6.toNatClampNeg) = 0 then (lb (l6 + (1 : Int32)) fun v18 =>
  k144 l5 v18 f_presses) else ((mX11_pressing (l6 / (8 : Int32)) x3 f_presses).bind fun o9 =>
  if o9 < x2 then (gi l6 1520 <|
  gi l6 1520 <|
  lb (upd f_presses l6.toNatClampNeg ((f_presses l6.toNatClampNeg) - (1 : Int32))) fun g14 =>
  k144 l5 l6 g14) else (lb (l5 + (1 : Int32)) fun v15 =>
  (mX11_use (l6 / (8 : Int32)) x3 f_presses).bind fun o16 =>
  k144 v15 l6 o16)))
def mX11_pointsBy_L144 (x0 : Int32) (x1 : Int32) (x2 : Int32) (x3 : Int32) (f_blowMany : Nat → Int32) (f_blows : Nat → Int32) (f_delays : Nat → Int32) (f_judgeMany : Nat → Int32) (f_judges : Nat → Int32) (n : Nat) (l5 : Int32) (l6 : Int32) (f_presses : Nat → Int32) :
  Option (Int32 × (Nat → Int32)) :=
  loopN (fun k (s : Int32 × Int32 × (Nat → Int32)) => mX11_pointsBy_B144 x0 x1 x2 x3 f_blowMany f_blows f_delays f_judgeMany f_judges  (fun l5 l6 f_presses => k (l5, l6, f_presses)) s.1 s.2.1 s.2.2) n (l5, l6, f_presses)
def mX11_pointsBy_B42 (x0 : Int32) (x1 : Int32) (x2 : Int32) (x3 : Int32) (f_blowMany : Nat → Int32) (f_blows : Nat → Int32) (f_delays : Nat → Int32) (f_judgeMany : Nat → Int32) (f_judges : Nat → Int32) (k28 : Int32 → (Nat → Int32) → Option (Int32 × (Nat → Int32))) (k42 : Int32 → Int32 → (Nat → Int32) → Option (Int32 × (Nat → Int32))) (l5 : Int32) (l6 : Int32) (f_presses : Nat → Int32) :
  Option (Int32 × (Nat → Int32)) :=
  if (f_judgeMany (0 : Int32).toNatClampNeg) ≤ l6 then (lb (l5 + (1 : Int32)) fun v20 =>
  k28 v20 f_presses) else (gi ((5 : Int32) * l5) 400 <|
  if (f_blows ((5 : Int32) * l5).toNatClampNeg) = x0 then (gi (((5 : Int32) * l5) + (2 : Int32)) 400 <|
  if (f_blows (((5 : Int32) * l5) + (2 : Int32)).toNatClampNeg) = x1 then ((mX11_sees l6 l5 f_blows f_judges).bind fun o27 =>
  if o27 = 0 then (lb (l6 + (1 : Int32)) fun v30 =>
  k42 l5 v30 f_presses) else (gi (((5 : Int32) * l5) + (1 : Int32)) 400 <|
  gi l6 24 <|
  lb (((8 : Int32) * ((f_blows (((5 : Int32) * l5) + (1 : Int32)).toNatClampNeg) + (f_delays l6.toNatClampNeg))) + l6) fun v33 =>
  gi v33 1520 <|
  gi v33 1520 <|
  lb (upd f_presses v33.toNatClampNeg ((f_presses v33.toNatClampNeg) + (1 : Int32))) fun g36 =>
  lb (l6 + (1 : Int32)) fun v37 =>
  k42 l5 v37 g36)) else (lb (l6 + (1 : Int32)) fun v26 =>
  k42 l5 v26 f_presses)) else (lb (l6 + (1 : Int32)) fun v23 =>
  k42 l5 v23 f_presses))
def mX11_pointsBy_L42 (x0 : Int32) (x1 : Int32) (x2 : Int32) (x3 : Int32) (f_blowMany : Nat → Int32) (f_blows : Nat → Int32) (f_delays : Nat → Int32) (f_judgeMany : Nat → Int32) (f_judges : Nat → Int32) (k28 : Int32 → (Nat → Int32) → Option (Int32 × (Nat → Int32))) (n : Nat) (l5 : Int32) (l6 : Int32) (f_presses : Nat → Int32) :
  Option (Int32 × (Nat → Int32)) :=
  loopN (fun k (s : Int32 × Int32 × (Nat → Int32)) => mX11_pointsBy_B42 x0 x1 x2 x3 f_blowMany f_blows f_delays f_judgeMany f_judges k28 (fun l5 l6 f_presses => k (l5, l6, f_presses)) s.1 s.2.1 s.2.2) n (l5, l6, f_presses)
def mX11_pointsBy_B28 (x0 : Int32) (x1 : Int32) (x2 : Int32) (x3 : Int32) (f_blowMany : Nat → Int32) (f_blows : Nat → Int32) (f_delays : Nat → Int32) (f_judgeMany : Nat → Int32) (f_judges : Nat → Int32) (k28 : Int32 → (Nat → Int32) → Option (Int32 × (Nat → Int32))) (l5 : Int32) (f_presses : Nat → Int32) :
  Option (Int32 × (Nat → Int32)) :=
  if (f_blowMany (0 : Int32).toNatClampNeg) ≤ l5 then (mX11_pointsBy_L144 x0 x1 x2 x3 f_blowMany f_blows f_delays f_judgeMany f_judges  FUEL (0 : Int32) (0 : Int32) f_presses) else (mX11_pointsBy_L42 x0 x1 x2 x3 f_blowMany f_blows f_delays f_judgeMany f_judges k28 FUEL l5 (0 : Int32) f_presses)
def mX11_pointsBy_L28 (x0 : Int32) (x1 : Int32) (x2 : Int32) (x3 : Int32) (f_blowMany : Nat → Int32) (f_blows : Nat → Int32) (f_delays : Nat → Int32) (f_judgeMany : Nat → Int32) (f_judges : Nat → Int32) (n : Nat) (l5 : Int32) (f_presses : Nat → Int32) :
  Option (Int32 × (Nat → Int32)) :=
  loopN (fun k (s : Int32 × (Nat → Int32)) => mX11_pointsBy_B28 x0 x1 x2 x3 f_blowMany f_blows f_delays f_judgeMany f_judges  (fun l5 f_presses => k (l5, f_presses)) s.1 s.2) n (l5, f_presses)
def mX11_pointsBy_B3 (x0 : Int32) (x1 : Int32) (x2 : Int32) (x3 : Int32) (f_blowMany : Nat → Int32) (f_blows : Nat → Int32) (f_delays : Nat → Int32) (f_judgeMany : Nat → Int32) (f_judges : Nat → Int32) (k3 : Int32 → (Nat → Int32) → Option (Int32 × (Nat → Int32))) (l5 : Int32) (f_presses : Nat → Int32) :
  Option (Int32 × (Nat → Int32)) :=
  if (1520 : Int32) ≤ l5 then (mX11_pointsBy_L28 x0 x1 x2 x3 f_blowMany f_blows f_delays f_judgeMany f_judges  FUEL (0 : Int32) f_presses) else (gi l5 1520 <|
  lb (upd f_presses l5.toNatClampNeg (0 : Int32)) fun g3 =>
  lb (l5 + (1 : Int32)) fun v4 =>
  k3 v4 g3)
def mX11_pointsBy_L3 (x0 : Int32) (x1 : Int32) (x2 : Int32) (x3 : Int32) (f_blowMany : Nat → Int32) (f_blows : Nat → Int32) (f_delays : Nat → Int32) (f_judgeMany : Nat → Int32) (f_judges : Nat → Int32) (n : Nat) (l5 : Int32) (f_presses : Nat → Int32) :
  Option (Int32 × (Nat → Int32)) :=
  loopN (fun k (s : Int32 × (Nat → Int32)) => mX11_pointsBy_B3 x0 x1 x2 x3 f_blowMany f_blows f_delays f_judgeMany f_judges  (fun l5 f_presses => k (l5, f_presses)) s.1 s.2) n (l5, f_presses)
def mX11_pointsBy (x0 : Int32) (x1 : Int32) (x2 : Int32) (x3 : Int32) (f_blowMany : Nat → Int32) (f_blows : Nat → Int32) (f_delays : Nat → Int32) (f_judgeMany : Nat → Int32) (f_judges : Nat → Int32) (f_presses : Nat → Int32) :
  Option (Int32 × (Nat → Int32)) :=
  mX11_pointsBy_L3 x0 x1 x2 x3 f_blowMany f_blows f_delays f_judgeMany f_judges  FUEL (0 : Int32) f_presses
def mX11_blowsIn_B4 (x0 : Int32) (f_blowMany : Nat → Int32) (f_blows : Nat → Int32) (k4 : Int32 → Int32 → Option (Int32)) (l2 : Int32) (l3 : Int32) :
  Option (Int32) :=
  if (f_blowMany (0 : Int32).toNatClampNeg) ≤ l3 then (some l2) else (gi ((5 : Int32) * l3) 400 <|
  if (f_blows ((5 : Int32) * l3).toNatClampNeg) = x0 then (lb (l2 + (1 : Int32)) fun v6 =>
  lb (l3 + (1 : Int32)) fun v7 =>
  k4 v6 v7) else (lb (l2 + (0 : Int32)) fun v4 =>
  lb (l3 + (1 : Int32)) fun v5 =>
  k4 v4 v5))
def mX11_blowsIn_L4 (x0 : Int32) (f_blowMany : Nat → Int32) (f_blows : Nat → Int32) (n : Nat) (l2 : Int32) (l3 : Int32) :
  Option (Int32) :=
  loopN (fun k (s : Int32 × Int32) => mX11_blowsIn_B4 x0 f_blowMany f_blows  (fun l2 l3 => k (l2, l3)) s.1 s.2) n (l2, l3)
def mX11_blowsIn (x0 : Int32) (f_blowMany : Nat → Int32) (f_blows : Nat → Int32) :
  Option (Int32) :=
  mX11_blowsIn_L4 x0 f_blowMany f_blows  FUEL (0 : Int32) (0 : Int32)
def mX11_buttonsOf_B37 (x0 : Int32) (x1 : Int32) (x2 : Int32) (x3 : Int32) (f_blowMany : Nat → Int32) (f_blows : Nat → Int32) (f_delays : Nat → Int32) (f_judgeMany : Nat → Int32) (f_judges : Nat → Int32) (l5 : Int32) (s0 : Int32) (f_presses : Nat → Int32) :
  Option (Int32 × (Nat → Int32)) :=
  (mX11_blowsIn x0 f_blowMany f_blows).bind fun o7 =>
  lb ((l5 + s0) - o7) fun v9 =>
  if (2 : Int32) ≤ x3 then (if x3 = (2 : Int32) then (if v9 ≤ 0 then (some ((0 : Int32), f_presses)) else (some (v9, f_presses))) else (if 0 ≤ v9 then (some ((0 : Int32), f_presses)) else (lb (-v9) fun v13 =>
  some (v13, f_presses)))) else (lb (l5 + s0) fun v15 =>
  some (v15, f_presses))
def mX11_buttonsOf_B18 (x0 : Int32) (x1 : Int32) (x2 : Int32) (x3 : Int32) (f_blowMany : Nat → Int32) (f_blows : Nat → Int32) (f_delays : Nat → Int32) (f_judgeMany : Nat → Int32) (f_judges : Nat → Int32) (s0 : Int32) (f_presses : Nat → Int32) :
  Option (Int32 × (Nat → Int32)) :=
  if x3 = 0 then (mX11_buttonsOf_B37 x0 x1 x2 x3 f_blowMany f_blows f_delays f_judgeMany f_judges  s0 (0 : Int32) f_presses) else ((mX11_pointsBy x0 (1 : Int32) x1 x2 f_blowMany f_blows f_delays f_judgeMany f_judges f_presses).bind fun o5 =>
  mX11_buttonsOf_B37 x0 x1 x2 x3 f_blowMany f_blows f_delays f_judgeMany f_judges  s0 o5.1 o5.2)
def mX11_buttonsOf (x0 : Int32) (x1 : Int32) (x2 : Int32) (x3 : Int32) (f_blowMany : Nat → Int32) (f_blows : Nat → Int32) (f_delays : Nat → Int32) (f_judgeMany : Nat → Int32) (f_judges : Nat → Int32) (f_presses : Nat → Int32) :
  Option (Int32 × (Nat → Int32)) :=
  if x3 = (1 : Int32) then (mX11_buttonsOf_B18 x0 x1 x2 x3 f_blowMany f_blows f_delays f_judgeMany f_judges  (0 : Int32) f_presses) else ((mX11_pointsBy x0 (0 : Int32) x1 x2 f_blowMany f_blows f_delays f_judgeMany f_judges f_presses).bind fun o2 =>
  mX11_buttonsOf_B18 x0 x1 x2 x3 f_blowMany f_blows f_delays f_judgeMany f_judges  o2.1 o2.2)
def mX11_buttons_B72 (x0 : Int32) (x1 : Int32) (x2 : Int32) (x3 : Int32) (f_blowMany : Nat → Int32) (f_blows : Nat → Int32) (f_delays : Nat → Int32) (f_judgeMany : Nat → Int32) (f_judges : Nat → Int32) (f_roundMany : Nat → Int32) (k72 : Int32 → Int32 → (Nat → Int32) → Option (Int32 × (Nat → Int32))) (l5 : Int32) (l6 : Int32) (f_presses : Nat → Int32) :
  Option (Int32 × (Nat → Int32)) :=
  if (f_roundMany (0 : Int32).toNatClampNeg) ≤ l6 then (some (l5, f_presses)) else ((mX11_buttonsOf l6 x1 x2 x3 f_blowMany f_blows f_delays f_judgeMany f_judges f_presses).bind fun o18 =>
  lb (l5 + o18.1) fun v20 =>
  lb (l6 + (1 : Int32)) fun v21 =>
  k72 v20 v21 o18.2)
def mX11_buttons_L72 (x0 : Int32) (x1 : Int32) (x2 : Int32) (x3 : Int32) (f_blowMany : Nat → Int32) (f_blows : Nat → Int32) (f_delays : Nat → Int32) (f_judgeMany : Nat → Int32) (f_judges : Nat → Int32) (f_roundMany : Nat → Int32) (n : Nat) (l5 : Int32) (l6 : Int32) (f_presses : Nat → Int32) :
  Option (Int32 × (Nat → Int32)) :=
  loopN (fun k (s : Int32 × Int32 × (Nat → Int32)) => mX11_buttons_B72 x0 x1 x2 x3 f_blowMany f_blows f_delays f_judgeMany f_judges f_roundMany  (fun l5 l6 f_presses => k (l5, l6, f_presses)) s.1 s.2.1 s.2.2) n (l5, l6, f_presses)
def mX11_buttons_B13 (x0 : Int32) (x1 : Int32) (x2 : Int32) (x3 : Int32) (f_blowMany : Nat → Int32) (f_blows : Nat → Int32) (f_delays : Nat → Int32) (f_judgeMany : Nat → Int32) (f_judges : Nat → Int32) (f_roundMany : Nat → Int32) (f_presses : Nat → Int32) :
  Option (Int32 × (Nat → Int32)) :=
  (mX11_in (Int32.toInt64 x1) (1 : Int64) (8 : Int64)).bind fun o5 =>
  if o5 = 0 then (some ((-1 : Int32), f_presses)) else ((mX11_in (Int32.toInt64 x2) (0 : Int64) (9 : Int64)).bind fun o8 =>
  if o8 = 0 then (some ((-1 : Int32), f_presses)) else ((mX11_in (Int32.toInt64 x3) (0 : Int64) (3 : Int64)).bind fun o11 =>
  if o11 = 0 then (some ((-1 : Int32), f_presses)) else (if x0 < 0 then (mX11_buttons_L72 x0 x1 x2 x3 f_blowMany f_blows f_delays f_judgeMany f_judges f_roundMany  FUEL (0 : Int32) (0 : Int32) f_presses) else ((mX11_buttonsOf x0 x1 x2 x3 f_blowMany f_blows f_delays f_judgeMany f_judges f_presses).bind fun o15 =>
  some (o15.1, o15.2)))))
def mX11_buttons (x0 : Int32) (x1 : Int32) (x2 : Int32) (x3 : Int32) (f_blowMany : Nat → Int32) (f_blows : Nat → Int32) (f_delays : Nat → Int32) (f_judgeMany : Nat → Int32) (f_judges : Nat → Int32) (f_presses : Nat → Int32) (f_roundMany : Nat → Int32) :
  Option (Int32 × (Nat → Int32)) :=
  if x0 = (-1 : Int32) then (mX11_buttons_B13 x0 x1 x2 x3 f_blowMany f_blows f_delays f_judgeMany f_judges f_roundMany  f_presses) else ((mX11_isRound x0 f_roundMany).bind fun o2 =>
  if o2 = 0 then (some ((-1 : Int32), f_presses)) else (mX11_buttons_B13 x0 x1 x2 x3 f_blowMany f_blows f_delays f_judgeMany f_judges f_roundMany  f_presses))
def mX11_isName (x0 : Int32) :
  Option (Int32) :=
  (mX11_in (Int32.toInt64 x0) (0 : Int64) (5 : Int64)).bind fun o1 =>
  gz o1 <|
  some o1
def mX11_toldOf (x0 : Int32) (x1 : Int32) (f_tolds : Nat → Int32) :
  Option (Int32) :=
  gi (((24 : Int32) * x0) + x1) 432 <|
  lb (f_tolds (((24 : Int32) * x0) + x1).toNatClampNeg) fun v2 =>
  some v2
def mX11_tell (x0 : Int32) (x1 : Int32) (x2 : Int32) (f_tolds : Nat → Int32) :
  Option (Int32 × (Nat → Int32)) :=
  (mX11_isName x0).bind fun o1 =>
  if o1 = 0 then (some ((-22 : Int32), f_tolds)) else ((mX11_in (Int32.toInt64 x1) (0 : Int64) (23 : Int64)).bind fun o4 =>
  if o4 = 0 then (some ((-22 : Int32), f_tolds)) else ((mX11_in (Int32.toInt64 x2) (-21 : Int64) (20 : Int64)).bind fun o7 =>
  if o7 = 0 then (some ((-22 : Int32), f_tolds)) else ((mX11_toldOf x0 x1 f_tolds).bind fun o10 =>
  gi (((24 : Int32) * x0) + x1) 432 <|
  lb (upd f_tolds (((24 : Int32) * x0) + x1).toNatClampNeg x2) fun g13 =>
  some (o10, g13))))
def mX11_signsOf_B42 (x0 : Int32) (x1 : Int32) (x2 : Int32) (f_tolds : Nat → Int32) (k6 : Int32 → Int32 → Option (Int32)) (l4 : Int32) (l5 : Int32) (s0 : Int32) :
  Option (Int32) :=
  if s0 = 0 then (lb (l4 + (0 : Int32)) fun v9 =>
  lb (l5 + (1 : Int32)) fun v10 =>
  k6 v9 v10) else ((mX11_toldOf x0 l5 f_tolds).bind fun o11 =>
  (mX11_sign o11).bind fun o13 =>
  if o13 = x2 then (lb (l4 + (1 : Int32)) fun v18 =>
  lb (l5 + (1 : Int32)) fun v19 =>
  k6 v18 v19) else (lb (l4 + (0 : Int32)) fun v16 =>
  lb (l5 + (1 : Int32)) fun v17 =>
  k6 v16 v17))
def mX11_signsOf_B41 (x0 : Int32) (x1 : Int32) (x2 : Int32) (f_tolds : Nat → Int32) (k6 : Int32 → Int32 → Option (Int32)) (l4 : Int32) (l5 : Int32) :
  Option (Int32) :=
  mX11_signsOf_B42 x0 x1 x2 f_tolds k6 l4 l5 (0 : Int32)
def mX11_signsOf_B6 (x0 : Int32) (x1 : Int32) (x2 : Int32) (f_tolds : Nat → Int32) (k6 : Int32 → Int32 → Option (Int32)) (l4 : Int32) (l5 : Int32) :
  Option (Int32) :=
  if (24 : Int32) ≤ l5 then (some l4) else ((mX11_toldOf x0 l5 f_tolds).bind fun o2 =>
  if o2 ≤ (-21 : Int32) then (mX11_signsOf_B41 x0 x1 x2 f_tolds k6 l4 l5) else ((mX11_toldOf x1 l5 f_tolds).bind fun o5 =>
  if o5 ≤ (-21 : Int32) then (mX11_signsOf_B41 x0 x1 x2 f_tolds k6 l4 l5) else (mX11_signsOf_B42 x0 x1 x2 f_tolds k6 l4 l5 (1 : Int32))))
def mX11_signsOf_L6 (x0 : Int32) (x1 : Int32) (x2 : Int32) (f_tolds : Nat → Int32) (n : Nat) (l4 : Int32) (l5 : Int32) :
  Option (Int32) :=
  loopN (fun k (s : Int32 × Int32) => mX11_signsOf_B6 x0 x1 x2 f_tolds  (fun l4 l5 => k (l4, l5)) s.1 s.2) n (l4, l5)
def mX11_signsOf (x0 : Int32) (x1 : Int32) (x2 : Int32) (f_tolds : Nat → Int32) :
  Option (Int32) :=
  mX11_signsOf_L6 x0 x1 x2 f_tolds  FUEL (0 : Int32) (0 : Int32)
def mX11_same_B162 (x0 : Int32) (x1 : Int32) (x2 : Int32) (f_tolds : Nat → Int32) (k162 : Int32 → Int32 → Int32 → Option (Int32)) (l4 : Int32) (l6 : Int32) (l7 : Int32) :
  Option (Int32) :=
  if (2 : Int32) ≤ l7 then (if l4 = 0 then (some (-4 : Int32)) else (gd (¬ l4 = 0) <|
  lb (l6 / l4) fun v23 =>
  some v23)) else ((mX11_signsOf x0 x1 l7 f_tolds).bind fun o24 =>
  (mX11_signsOf x1 x0 l7 f_tolds).bind fun o26 =>
  lb (l6 + (o24 * o26)) fun v28 =>
  lb (l7 + (1 : Int32)) fun v29 =>
  k162 l4 v28 v29)
def mX11_same_L162 (x0 : Int32) (x1 : Int32) (x2 : Int32) (f_tolds : Nat → Int32) (n : Nat) (l4 : Int32) (l6 : Int32) (l7 : Int32) :
  Option (Int32) :=
  loopN (fun k (s : Int32 × Int32 × Int32) => mX11_same_B162 x0 x1 x2 f_tolds  (fun l4 l6 l7 => k (l4, l6, l7)) s.1 s.2.1 s.2.2) n (l4, l6, l7)
def mX11_same_B92 (x0 : Int32) (x1 : Int32) (x2 : Int32) (f_tolds : Nat → Int32) (k42 : Int32 → Int32 → Int32 → Option (Int32)) (l5 : Int32) (l6 : Int32) (l7 : Int32) (s0 : Int32) (s1 : Int32) :
  Option (Int32) :=
  lb (s0 + s1) fun v31 =>
  if l7 = 0 then (lb (l5 + (0 : Int32)) fun v33 =>
  lb (l6 + (1 : Int32)) fun v34 =>
  k42 v31 v33 v34) else ((mX11_toldOf x0 l6 f_tolds).bind fun o35 =>
  (mX11_sign o35).bind fun o37 =>
  (mX11_toldOf x1 l6 f_tolds).bind fun o39 =>
  (mX11_sign o39).bind fun o41 =>
  if o37 = o41 then (lb (l5 + (1 : Int32)) fun v46 =>
  lb (l6 + (1 : Int32)) fun v47 =>
  k42 v31 v46 v47) else (lb (l5 + (0 : Int32)) fun v44 =>
  lb (l6 + (1 : Int32)) fun v45 =>
  k42 v31 v44 v45))
def mX11_same_B78 (x0 : Int32) (x1 : Int32) (x2 : Int32) (f_tolds : Nat → Int32) (k42 : Int32 → Int32 → Int32 → Option (Int32)) (l4 : Int32) (l5 : Int32) (l6 : Int32) (s0 : Int32) :
  Option (Int32) :=
  if s0 = 0 then (mX11_same_B92 x0 x1 x2 f_tolds k42 l5 l6 s0 l4 (0 : Int32)) else (mX11_same_B92 x0 x1 x2 f_tolds k42 l5 l6 s0 l4 (1 : Int32))
def mX11_same_B77 (x0 : Int32) (x1 : Int32) (x2 : Int32) (f_tolds : Nat → Int32) (k42 : Int32 → Int32 → Int32 → Option (Int32)) (l4 : Int32) (l5 : Int32) (l6 : Int32) :
  Option (Int32) :=
  mX11_same_B78 x0 x1 x2 f_tolds k42 l4 l5 l6 (0 : Int32)
def mX11_same_B42 (x0 : Int32) (x1 : Int32) (x2 : Int32) (f_tolds : Nat → Int32) (k42 : Int32 → Int32 → Int32 → Option (Int32)) (l4 : Int32) (l5 : Int32) (l6 : Int32) :
  Option (Int32) :=
  if (24 : Int32) ≤ l6 then (if (2 : Int32) ≤ x2 then (mX11_same_L162 x0 x1 x2 f_tolds  FUEL l4 (0 : Int32) (-1 : Int32)) else (if x2 = 0 then (some l5) else (some l4))) else ((mX11_toldOf x0 l6 f_tolds).bind fun o14 =>
  if o14 ≤ (-21 : Int32) then (mX11_same_B77 x0 x1 x2 f_tolds k42 l4 l5 l6) else ((mX11_toldOf x1 l6 f_tolds).bind fun o17 =>
  if o17 ≤ (-21 : Int32) then (mX11_same_B77 x0 x1 x2 f_tolds k42 l4 l5 l6) else (mX11_same_B78 x0 x1 x2 f_tolds k42 l4 l5 l6 (1 : Int32))))
def mX11_same_L42 (x0 : Int32) (x1 : Int32) (x2 : Int32) (f_tolds : Nat → Int32) (n : Nat) (l4 : Int32) (l5 : Int32) (l6 : Int32) :
  Option (Int32) :=
  loopN (fun k (s : Int32 × Int32 × Int32) => mX11_same_B42 x0 x1 x2 f_tolds  (fun l4 l5 l6 => k (l4, l5, l6)) s.1 s.2.1 s.2.2) n (l4, l5, l6)
def mX11_same (x0 : Int32) (x1 : Int32) (x2 : Int32) (f_tolds : Nat → Int32) :
  Option (Int32) :=
  (mX11_isName x0).bind fun o1 =>
  if o1 = 0 then (some (-1 : Int32)) else ((mX11_isName x1).bind fun o4 =>
  if o4 = 0 then (some (-1 : Int32)) else (if x0 = x1 then (some (-1 : Int32)) else ((mX11_in (Int32.toInt64 x2) (0 : Int64) (2 : Int64)).bind fun o8 =>
  if o8 = 0 then (some (-1 : Int32)) else (mX11_same_L42 x0 x1 x2 f_tolds  FUEL (0 : Int32) (0 : Int32) (0 : Int32)))))
def mX11_lean_B44 (x0 : Int32) (x1 : Int32) (f_tolds : Nat → Int32) (k28 : Int32 → Int32 → Int32 → Option (Int32)) (k44 : Int32 → Int32 → Int32 → Int32 → Int32 → Int32 → Option (Int32)) (l3 : Int32) (l4 : Int32) (l5 : Int32) (l6 : Int32) (l7 : Int32) (l8 : Int32) :
  Option (Int32) :=
  if (6 : Int32) ≤ l8 then ((mX11_toldOf x0 l5 f_tolds).bind fun o10 =>
  if o10 ≤ (-21 : Int32) then (lb (l5 + (1 : Int32)) fun v13 =>
  k28 l3 l4 v13) else (if l7 ≤ 0 then (lb (l5 + (1 : Int32)) fun v15 =>
  k28 l3 l4 v15) else ((mX11_toldOf x0 l5 f_tolds).bind fun o16 =>
  gd (¬ l7 = 0) <|
  lb (l3 + (o16 - (l6 / l7))) fun v19 =>
  lb (l4 + (1 : Int32)) fun v20 =>
  lb (l5 + (1 : Int32)) fun v21 =>
  k28 v19 v20 v21))) else (if l8 = x0 then (lb (l8 + (1 : Int32)) fun v23 =>
  k44 l3 l4 l5 l6 l7 v23) else ((mX11_toldOf l8 l5 f_tolds).bind fun o24 =>
  if o24 ≤ (-21 : Int32) then (lb (l8 + (1 : Int32)) fun v27 =>
  k44 l3 l4 l5 l6 l7 v27) else ((mX11_toldOf l8 l5 f_tolds).bind fun o28 =>
  lb (l6 + o28) fun v30 =>
  lb (l7 + (1 : Int32)) fun v31 =>
  lb (l8 + (1 : Int32)) fun v32 =>
  k44 l3 l4 l5 v30 v31 v32)))
def mX11_lean_L44 (x0 : Int32) (x1 : Int32) (f_tolds : Nat → Int32) (k28 : Int32 → Int32 → Int32 → Option (Int32)) (n : Nat) (l3 : Int32) (l4 : Int32) (l5 : Int32) (l6 : Int32) (l7 : Int32) (l8 : Int32) :
  Option (Int32) :=
  loopN (fun k (s : Int32 × Int32 × Int32 × Int32 × Int32 × Int32) => mX11_lean_B44 x0 x1 f_tolds k28 (fun l3 l4 l5 l6 l7 l8 => k (l3, l4, l5, l6, l7, l8)) s.1 s.2.1 s.2.2.1 s.2.2.2.1 s.2.2.2.2.1 s.2.2.2.2.2) n (l3, l4, l5, l6, l7, l8)
def mX11_lean_B28 (x0 : Int32) (x1 : Int32) (f_tolds : Nat → Int32) (k28 : Int32 → Int32 → Int32 → Option (Int32)) (l3 : Int32) (l4 : Int32) (l5 : Int32) :
  Option (Int32) :=
  if (24 : Int32) ≤ l5 then (if x1 = 0 then (some l3) else (some l4)) else (mX11_lean_L44 x0 x1 f_tolds k28 FUEL l3 l4 l5 (0 : Int32) (0 : Int32) (0 : Int32))
def mX11_lean_L28 (x0 : Int32) (x1 : Int32) (f_tolds : Nat → Int32) (n : Nat) (l3 : Int32) (l4 : Int32) (l5 : Int32) :
  Option (Int32) :=
  loopN (fun k (s : Int32 × Int32 × Int32) => mX11_lean_B28 x0 x1 f_tolds  (fun l3 l4 l5 => k (l3, l4, l5)) s.1 s.2.1 s.2.2) n (l3, l4, l5)
def mX11_lean (x0 : Int32) (x1 : Int32) (f_tolds : Nat → Int32) :
  Option (Int32) :=
  (mX11_isName x0).bind fun o1 =>
  if o1 = 0 then (some (-100001 : Int32)) else ((mX11_in (Int32.toInt64 x1) (0 : Int64) (1 : Int64)).bind fun o4 =>
  if o4 = 0 then (some (-100001 : Int32)) else (mX11_lean_L28 x0 x1 f_tolds  FUEL (0 : Int32) (0 : Int32) (0 : Int32)))
def mX11_middle_B72 (x0 : Int32) (x1 : Int32) (f_tolds : Nat → Int32) (k59 : Int32 → Int32 → Int32 → Option (Int32)) (k72 : Int32 → Int32 → Int32 → Int32 → Option (Int32)) (l3 : Int32) (l4 : Int32) (l5 : Int32) (l6 : Int32) :
  Option (Int32) :=
  if (6 : Int32) ≤ l6 then (lb (l4 + (1 : Int32)) fun v16 =>
  k59 l3 v16 l5) else (if l6 = x0 then (lb (l5 + (0 : Int32)) fun v18 =>
  lb (l6 + (1 : Int32)) fun v19 =>
  k72 l3 l4 v18 v19) else ((mX11_toldOf l6 x1 f_tolds).bind fun o20 =>
  if o20 = l4 then (lb (l5 + (1 : Int32)) fun v25 =>
  lb (l6 + (1 : Int32)) fun v26 =>
  k72 l3 l4 v25 v26) else (lb (l5 + (0 : Int32)) fun v23 =>
  lb (l6 + (1 : Int32)) fun v24 =>
  k72 l3 l4 v23 v24)))
def mX11_middle_L72 (x0 : Int32) (x1 : Int32) (f_tolds : Nat → Int32) (k59 : Int32 → Int32 → Int32 → Option (Int32)) (n : Nat) (l3 : Int32) (l4 : Int32) (l5 : Int32) (l6 : Int32) :
  Option (Int32) :=
  loopN (fun k (s : Int32 × Int32 × Int32 × Int32) => mX11_middle_B72 x0 x1 f_tolds k59 (fun l3 l4 l5 l6 => k (l3, l4, l5, l6)) s.1 s.2.1 s.2.2.1 s.2.2.2) n (l3, l4, l5, l6)
def mX11_middle_B59 (x0 : Int32) (x1 : Int32) (f_tolds : Nat → Int32) (k59 : Int32 → Int32 → Int32 → Option (Int32)) (l3 : Int32) (l4 : Int32) (l5 : Int32) :
  Option (Int32) :=
  if ((l3 - (1 : Int32)) / (2 : Int32)) < l5 then (lb (l4 - (1 : Int32)) fun v14 =>
  some v14) else (mX11_middle_L72 x0 x1 f_tolds k59 FUEL l3 l4 l5 (0 : Int32))
def mX11_middle_L59 (x0 : Int32) (x1 : Int32) (f_tolds : Nat → Int32) (n : Nat) (l3 : Int32) (l4 : Int32) (l5 : Int32) :
  Option (Int32) :=
  loopN (fun k (s : Int32 × Int32 × Int32) => mX11_middle_B59 x0 x1 f_tolds  (fun l3 l4 l5 => k (l3, l4, l5)) s.1 s.2.1 s.2.2) n (l3, l4, l5)
def mX11_middle_B5 (x0 : Int32) (x1 : Int32) (f_tolds : Nat → Int32) (k5 : Int32 → Int32 → Option (Int32)) (l3 : Int32) (l4 : Int32) :
  Option (Int32) :=
  if (6 : Int32) ≤ l4 then (if (2 : Int32) ≤ l3 then (mX11_middle_L59 x0 x1 f_tolds  FUEL l3 (-20 : Int32) (0 : Int32)) else (some (-21 : Int32))) else (if l4 = x0 then (lb (l3 + (0 : Int32)) fun v4 =>
  lb (l4 + (1 : Int32)) fun v5 =>
  k5 v4 v5) else ((mX11_toldOf l4 x1 f_tolds).bind fun o6 =>
  if o6 ≤ (-21 : Int32) then (lb (l3 + (0 : Int32)) fun v9 =>
  lb (l4 + (1 : Int32)) fun v10 =>
  k5 v9 v10) else (lb (l3 + (1 : Int32)) fun v11 =>
  lb (l4 + (1 : Int32)) fun v12 =>
  k5 v11 v12)))
def mX11_middle_L5 (x0 : Int32) (x1 : Int32) (f_tolds : Nat → Int32) (n : Nat) (l3 : Int32) (l4 : Int32) :
  Option (Int32) :=
  loopN (fun k (s : Int32 × Int32) => mX11_middle_B5 x0 x1 f_tolds  (fun l3 l4 => k (l3, l4)) s.1 s.2) n (l3, l4)
def mX11_middle (x0 : Int32) (x1 : Int32) (f_tolds : Nat → Int32) :
  Option (Int32) :=
  mX11_middle_L5 x0 x1 f_tolds  FUEL (0 : Int32) (0 : Int32)
def mX11_unlike_B89 (x0 : Int32) (f_tolds : Nat → Int32) (k17 : Int32 → Int32 → Int32 → Option (Int32)) (l4 : Int32) (l6 : Int32) :
  Option (Int32) :=
  lb (l4 + (1 : Int32)) fun v20 =>
  k17 l4 l6 v20
def mX11_unlike_B77 (x0 : Int32) (f_tolds : Nat → Int32) (k17 : Int32 → Int32 → Int32 → Option (Int32)) (l2 : Int32) (l3 : Int32) (l4 : Int32) (s0 : Int32) :
  Option (Int32) :=
  if l2 < 0 then (mX11_unlike_B89 x0 f_tolds k17 l4 s0) else (if s0 ≤ l3 then (lb (l4 + (1 : Int32)) fun v19 =>
  k17 l2 l3 v19) else (mX11_unlike_B89 x0 f_tolds k17 l4 s0))
def mX11_unlike_B17 (x0 : Int32) (f_tolds : Nat → Int32) (k17 : Int32 → Int32 → Int32 → Option (Int32)) (l2 : Int32) (l3 : Int32) (l4 : Int32) :
  Option (Int32) :=
  if (24 : Int32) ≤ l4 then (some l2) else ((mX11_middle x0 l4 f_tolds).bind fun o5 =>
  (mX11_toldOf x0 l4 f_tolds).bind fun o7 =>
  if o7 ≤ (-21 : Int32) then (lb (l4 + (1 : Int32)) fun v10 =>
  k17 l2 l3 v10) else (if o5 ≤ (-21 : Int32) then (lb (l4 + (1 : Int32)) fun v12 =>
  k17 l2 l3 v12) else ((mX11_toldOf x0 l4 f_tolds).bind fun o13 =>
  lb (o13 - o5) fun v15 =>
  if 0 ≤ v15 then (mX11_unlike_B77 x0 f_tolds k17 l2 l3 l4 v15) else (mX11_unlike_B77 x0 f_tolds k17 l2 l3 l4 (-v15)))))
def mX11_unlike_L17 (x0 : Int32) (f_tolds : Nat → Int32) (n : Nat) (l2 : Int32) (l3 : Int32) (l4 : Int32) :
  Option (Int32) :=
  loopN (fun k (s : Int32 × Int32 × Int32) => mX11_unlike_B17 x0 f_tolds  (fun l2 l3 l4 => k (l2, l3, l4)) s.1 s.2.1 s.2.2) n (l2, l3, l4)
def mX11_unlike (x0 : Int32) (f_tolds : Nat → Int32) :
  Option (Int32) :=
  (mX11_isName x0).bind fun o1 =>
  if o1 = 0 then (some (-1 : Int32)) else (mX11_unlike_L17 x0 f_tolds  FUEL (-4 : Int32) (0 : Int32) (0 : Int32))
def mX11_areTold (x0 : Int32) :
  Option (Int32) :=
  (mX11_in (Int32.toInt64 x0) (0 : Int64) (999 : Int64)).bind fun o1 =>
  gz o1 <|
  some o1
def mX11_added_B78 (x0 : Int32) (x1 : Int32) (x2 : Int32) (x3 : Int32) (x4 : Int32) (f_blowMany : Nat → Int32) (f_blows : Nat → Int32) (f_downs : Nat → Int32) (f_forwards : Nat → Int32) (f_homes : Nat → Int32) (f_judges : Nat → Int32) (f_noises : Nat → Int32) (f_roundMany : Nat → Int32) (f_takens : Nat → Int32) (k50 : Int32 → Option (Int32)) (l6 : Int32) (s0 : Int32) :
  Option (Int32) :=
  (mX11_pointsOf x0 l6 x1 f_blowMany f_blows f_downs f_forwards f_homes f_judges f_noises f_roundMany f_takens).bind fun o19 =>
  if o19 = s0 then (lb (l6 + (1 : Int32)) fun v22 =>
  k50 v22) else (some l6)
def mX11_added_B50 (x0 : Int32) (x1 : Int32) (x2 : Int32) (x3 : Int32) (x4 : Int32) (f_blowMany : Nat → Int32) (f_blows : Nat → Int32) (f_downs : Nat → Int32) (f_forwards : Nat → Int32) (f_homes : Nat → Int32) (f_judges : Nat → Int32) (f_noises : Nat → Int32) (f_roundMany : Nat → Int32) (f_takens : Nat → Int32) (k50 : Int32 → Option (Int32)) (l6 : Int32) :
  Option (Int32) :=
  if (3 : Int32) ≤ l6 then (some (-4 : Int32)) else (if l6 = 0 then (mX11_added_B78 x0 x1 x2 x3 x4 f_blowMany f_blows f_downs f_forwards f_homes f_judges f_noises f_roundMany f_takens k50 l6 x2) else (if l6 = (1 : Int32) then (mX11_added_B78 x0 x1 x2 x3 x4 f_blowMany f_blows f_downs f_forwards f_homes f_judges f_noises f_roundMany f_takens k50 l6 x3) else (mX11_added_B78 x0 x1 x2 x3 x4 f_blowMany f_blows f_downs f_forwards f_homes f_judges f_noises f_roundMany f_takens k50 l6 x4)))
def mX11_added_L50 (x0 : Int32) (x1 : Int32) (x2 : Int32) (x3 : Int32) (x4 : Int32) (f_blowMany : Nat → Int32) (f_blows : Nat → Int32) (f_downs : Nat → Int32) (f_forwards : Nat → Int32) (f_homes : Nat → Int32) (f_judges : Nat → Int32) (f_noises : Nat → Int32) (f_roundMany : Nat → Int32) (f_takens : Nat → Int32) (n : Nat) (l6 : Int32) :
  Option (Int32) :=
  loopN (fun k (s : Int32) => mX11_added_B50 x0 x1 x2 x3 x4 f_blowMany f_blows f_downs f_forwards f_homes f_judges f_noises f_roundMany f_takens  (k) s) n (l6)
def mX11_added (x0 : Int32) (x1 : Int32) (x2 : Int32) (x3 : Int32) (x4 : Int32) (f_blowMany : Nat → Int32) (f_blows : Nat → Int32) (f_downs : Nat → Int32) (f_forwards : Nat → Int32) (f_homes : Nat → Int32) (f_judges : Nat → Int32) (f_noises : Nat → Int32) (f_roundMany : Nat → Int32) (f_takens : Nat → Int32) :
  Option (Int32) :=
  (mX11_in (Int32.toInt64 x0) (0 : Int64) (2 : Int64)).bind fun o1 =>
  if o1 = 0 then (some (-1 : Int32)) else ((mX11_in (Int32.toInt64 x1) (0 : Int64) (1 : Int64)).bind fun o4 =>
  if o4 = 0 then (some (-1 : Int32)) else ((mX11_areTold x2).bind fun o7 =>
  if o7 = 0 then (some (-1 : Int32)) else ((mX11_areTold x3).bind fun o10 =>
  if o10 = 0 then (some (-1 : Int32)) else ((mX11_areTold x4).bind fun o13 =>
  if o13 = 0 then (some (-1 : Int32)) else (mX11_added_L50 x0 x1 x2 x3 x4 f_blowMany f_blows f_downs f_forwards f_homes f_judges f_noises f_roundMany f_takens  FUEL (0 : Int32))))))
def mX11_tenths (x0 : Int32) (x1 : Int32) (x2 : Int32) (f_tens : Nat → Int32) :
  Option (Int32 × (Nat → Int32)) :=
  (mX11_in (Int32.toInt64 x0) (0 : Int64) (1 : Int64)).bind fun o1 =>
  if o1 = 0 then (some ((-1 : Int32), f_tens)) else ((mX11_in (Int32.toInt64 x1) (0 : Int64) (1 : Int64)).bind fun o4 =>
  if o4 = 0 then (some ((-1 : Int32), f_tens)) else ((mX11_in (Int32.toInt64 x2) (0 : Int64) (10 : Int64)).bind fun o7 =>
  if o7 = 0 then (some ((-1 : Int32), f_tens)) else (gi (((2 : Int32) * x0) + x1) 12 <|
  lb (f_tens (((2 : Int32) * x0) + x1).toNatClampNeg) fun v11 =>
  gi (((2 : Int32) * x0) + x1) 12 <|
  lb (upd f_tens (((2 : Int32) * x0) + x1).toNatClampNeg x2) fun g13 =>
  some (v11, g13))))
def mX11_endValues_B38 (k2 : Int32 → (Nat → Int32) → Option ((Nat → Int32))) (l1 : Int32) (s1 : Int32) (s2 : Int32) (f_values : Nat → Int32) :
  Option ((Nat → Int32)) :=
  gi s1 51 <|
  lb (upd f_values s1.toNatClampNeg s2) fun g5 =>
  lb (l1 + (1 : Int32)) fun v6 =>
  k2 v6 g5
def mX11_endValues_B2 (k2 : Int32 → (Nat → Int32) → Option ((Nat → Int32))) (l1 : Int32) (f_values : Nat → Int32) :
  Option ((Nat → Int32)) :=
  if (51 : Int32) ≤ l1 then (some f_values) else (if l1 ≤ (25 : Int32) then (if l1 = (25 : Int32) then (mX11_endValues_B38  k2 l1 l1 (500000 : Int32) f_values) else (mX11_endValues_B38  k2 l1 l1 (0 : Int32) f_values)) else (mX11_endValues_B38  k2 l1 l1 (1000000 : Int32) f_values))
def mX11_endValues_L2  (n : Nat) (l1 : Int32) (f_values : Nat → Int32) :
  Option ((Nat → Int32)) :=
  loopN (fun k (s : Int32 × (Nat → Int32)) => mX11_endValues_B2   (fun l1 f_values => k (l1, f_values)) s.1 s.2) n (l1, f_values)
def mX11_endValues (f_values : Nat → Int32) :
  Option ((Nat → Int32)) :=
  mX11_endValues_L2   FUEL (0 : Int32) f_values
def mX11_roundBy (x0 : Int32) (x1 : Int32) (x2 : Int32) (f_tens : Nat → Int32) (f_values : Nat → Int32) :
  Option (Int32) :=
  gi (((2 : Int32) * x1) + x2) 12 <|
  lb (f_tens (((2 : Int32) * x1) + x2).toNatClampNeg) fun v2 =>
  gi (x0 + (1 : Int32)) 51 <|
  gi (x0 - (1 : Int32)) 51 <|
  lb ((Int64.toInt32 (((Int32.toInt64 v2) * (Int32.toInt64 (f_values (x0 + (1 : Int32)).toNatClampNeg))) + ((Int32.toInt64 ((10 : Int32) - v2)) * (Int32.toInt64 (f_values (x0 - (1 : Int32)).toNatClampNeg))))) / (10 : Int32)) fun v5 =>
  some v5
def mX11_answer (x0 : Int32) (x1 : Int32) (f_tens : Nat → Int32) (f_values : Nat → Int32) :
  Option (Int32) :=
  (mX11_roundBy x0 x1 (1 : Int32) f_tens f_values).bind fun o1 =>
  (mX11_roundBy x0 x1 (0 : Int32) f_tens f_values).bind fun o3 =>
  if o3 ≤ o1 then (some (0 : Int32)) else (some (1 : Int32))
def mX11_choice (x0 : Int32) (f_tens : Nat → Int32) (f_values : Nat → Int32) :
  Option (Int32) :=
  (mX11_answer x0 (1 : Int32) f_tens f_values).bind fun o1 =>
  (mX11_roundBy x0 (1 : Int32) o1 f_tens f_values).bind fun o3 =>
  (mX11_answer x0 (0 : Int32) f_tens f_values).bind fun o5 =>
  (mX11_roundBy x0 (0 : Int32) o5 f_tens f_values).bind fun o7 =>
  if o3 ≤ o7 then (some (0 : Int32)) else (some (1 : Int32))
def mX11_takeNext_B2 (f_nextValues : Nat → Int32) (k2 : Int32 → (Nat → Int32) → Option ((Nat → Int32))) (l1 : Int32) (f_values : Nat → Int32) :
  Option ((Nat → Int32)) :=
  if (50 : Int32) ≤ l1 then (some f_values) else (gi l1 51 <|
  gi l1 51 <|
  lb (upd f_values l1.toNatClampNeg (f_nextValues l1.toNatClampNeg)) fun g4 =>
  lb (l1 + (1 : Int32)) fun v5 =>
  k2 v5 g4)
def mX11_takeNext_L2 (f_nextValues : Nat → Int32) (n : Nat) (l1 : Int32) (f_values : Nat → Int32) :
  Option ((Nat → Int32)) :=
  loopN (fun k (s : Int32 × (Nat → Int32)) => mX11_takeNext_B2 f_nextValues  (fun l1 f_values => k (l1, f_values)) s.1 s.2) n (l1, f_values)
def mX11_takeNext (f_nextValues : Nat → Int32) (f_values : Nat → Int32) :
  Option ((Nat → Int32)) :=
  mX11_takeNext_L2 f_nextValues  FUEL (1 : Int32) f_values
def mX11_areLeft (x0 : Int32) (x1 : Int32) :
  Option (Int32) :=
  (mX11_in (Int32.toInt64 x0) (1 : Int64) (12 : Int64)).bind fun o1 =>
  if o1 = 0 then (some (0 : Int32)) else ((mX11_in (Int32.toInt64 x1) (-12 : Int64) (12 : Int64)).bind fun o4 =>
  if o4 = 0 then (some (0 : Int32)) else (some (1 : Int32)))
def mX11_open_B38 (x0 : Int32) (x1 : Int32) (x2 : Int32) (f_tens : Nat → Int32) (k29 : Int32 → (Nat → Int32) → (Nat → Int32) → Option (Int32 × (Nat → Int32) × (Nat → Int32))) (k38 : Int32 → Int32 → (Nat → Int32) → (Nat → Int32) → Option (Int32 × (Nat → Int32) × (Nat → Int32))) (l4 : Int32) (l5 : Int32) (f_values : Nat → Int32) (f_nextValues : Nat → Int32) :
  Option (Int32 × (Nat → Int32) × (Nat → Int32)) :=
  if (50 : Int32) ≤ l5 then ((mX11_takeNext f_nextValues f_values).bind fun o19 =>
  lb (l4 + (1 : Int32)) fun v21 =>
  k29 v21 o19 f_nextValues) else ((mX11_choice l5 f_tens f_values).bind fun o22 =>
  (mX11_choice l5 f_tens f_values).bind fun o24 =>
  (mX11_answer l5 o24 f_tens f_values).bind fun o26 =>
  (mX11_roundBy l5 o22 o26 f_tens f_values).bind fun o28 =>
  gi l5 51 <|
  lb (upd f_nextValues l5.toNatClampNeg o28) fun g31 =>
  lb (l5 + (1 : Int32)) fun v32 =>
  k38 l4 v32 f_values g31)
def mX11_open_L38 (x0 : Int32) (x1 : Int32) (x2 : Int32) (f_tens : Nat → Int32) (k29 : Int32 → (Nat → Int32) → (Nat → Int32) → Option (Int32 × (Nat → Int32) × (Nat → Int32))) (n : Nat) (l4 : Int32) (l5 : Int32) (f_values : Nat → Int32) (f_nextValues : Nat → Int32) :
  Option (Int32 × (Nat → Int32) × (Nat → Int32)) :=
  loopN (fun k (s : Int32 × Int32 × (Nat → Int32) × (Nat → Int32)) => mX11_open_B38 x0 x1 x2 f_tens k29 (fun l4 l5 f_values f_nextValues => k (l4, l5, f_values, f_nextValues)) s.1 s.2.1 s.2.2.1 s.2.2.2) n (l4, l5, f_values, f_nextValues)
def mX11_open_B29 (x0 : Int32) (x1 : Int32) (x2 : Int32) (f_tens : Nat → Int32) (k29 : Int32 → (Nat → Int32) → (Nat → Int32) → Option (Int32 × (Nat → Int32) × (Nat → Int32))) (l4 : Int32) (f_values : Nat → Int32) (f_nextValues : Nat → Int32) :
  Option (Int32 × (Nat → Int32) × (Nat → Int32)) :=
  if x0 ≤ l4 then ((mX11_choice ((25 : Int32) + x1) f_tens f_values).bind fun o10 =>
  (mX11_answer ((25 : Int32) + x1) o10 f_tens f_values).bind fun o12 =>
  if x2 = 0 then ((mX11_roundBy ((25 : Int32) + x1) o10 o12 f_tens f_values).bind fun o16 =>
  some (o16, f_values, f_nextValues)) else (if x2 = (1 : Int32) then (some (o10, f_values, f_nextValues)) else (some (o12, f_values, f_nextValues)))) else (mX11_open_L38 x0 x1 x2 f_tens k29 FUEL l4 (1 : Int32) f_values f_nextValues)
def mX11_open_L29 (x0 : Int32) (x1 : Int32) (x2 : Int32) (f_tens : Nat → Int32) (n : Nat) (l4 : Int32) (f_values : Nat → Int32) (f_nextValues : Nat → Int32) :
  Option (Int32 × (Nat → Int32) × (Nat → Int32)) :=
  loopN (fun k (s : Int32 × (Nat → Int32) × (Nat → Int32)) => mX11_open_B29 x0 x1 x2 f_tens  (fun l4 f_values f_nextValues => k (l4, f_values, f_nextValues)) s.1 s.2.1 s.2.2) n (l4, f_values, f_nextValues)
def mX11_open (x0 : Int32) (x1 : Int32) (x2 : Int32) (f_nextValues : Nat → Int32) (f_tens : Nat → Int32) (f_values : Nat → Int32) :
  Option (Int32 × (Nat → Int32) × (Nat → Int32)) :=
  (mX11_areLeft x0 x1).bind fun o1 =>
  if o1 = 0 then (some ((-1 : Int32), f_values, f_nextValues)) else ((mX11_in (Int32.toInt64 x2) (0 : Int64) (2 : Int64)).bind fun o4 =>
  if o4 = 0 then (some ((-1 : Int32), f_values, f_nextValues)) else ((mX11_endValues f_values).bind fun o7 =>
  mX11_open_L29 x0 x1 x2 f_tens  FUEL (1 : Int32) o7 f_nextValues))
def mX11_always_B16 (x0 : Int32) (x1 : Int32) (x2 : Int32) (x3 : Int32) (f_tens : Nat → Int32) (k7 : Int32 → (Nat → Int32) → (Nat → Int32) → Option (Int32 × (Nat → Int32) × (Nat → Int32))) (k16 : Int32 → Int32 → (Nat → Int32) → (Nat → Int32) → Option (Int32 × (Nat → Int32) × (Nat → Int32))) (l5 : Int32) (l6 : Int32) (f_values : Nat → Int32) (f_nextValues : Nat → Int32) :
  Option (Int32 × (Nat → Int32) × (Nat → Int32)) :=
  if (50 : Int32) ≤ l6 then ((mX11_takeNext f_nextValues f_values).bind fun o7 =>
  lb (l5 + (1 : Int32)) fun v9 =>
  k7 v9 o7 f_nextValues) else ((mX11_roundBy l6 x2 x3 f_tens f_values).bind fun o10 =>
  gi l6 51 <|
  lb (upd f_nextValues l6.toNatClampNeg o10) fun g13 =>
  lb (l6 + (1 : Int32)) fun v14 =>
  k16 l5 v14 f_values g13)
def mX11_always_L16 (x0 : Int32) (x1 : Int32) (x2 : Int32) (x3 : Int32) (f_tens : Nat → Int32) (k7 : Int32 → (Nat → Int32) → (Nat → Int32) → Option (Int32 × (Nat → Int32) × (Nat → Int32))) (n : Nat) (l5 : Int32) (l6 : Int32) (f_values : Nat → Int32) (f_nextValues : Nat → Int32) :
  Option (Int32 × (Nat → Int32) × (Nat → Int32)) :=
  loopN (fun k (s : Int32 × Int32 × (Nat → Int32) × (Nat → Int32)) => mX11_always_B16 x0 x1 x2 x3 f_tens k7 (fun l5 l6 f_values f_nextValues => k (l5, l6, f_values, f_nextValues)) s.1 s.2.1 s.2.2.1 s.2.2.2) n (l5, l6, f_values, f_nextValues)
def mX11_always_B7 (x0 : Int32) (x1 : Int32) (x2 : Int32) (x3 : Int32) (f_tens : Nat → Int32) (k7 : Int32 → (Nat → Int32) → (Nat → Int32) → Option (Int32 × (Nat → Int32) × (Nat → Int32))) (l5 : Int32) (f_values : Nat → Int32) (f_nextValues : Nat → Int32) :
  Option (Int32 × (Nat → Int32) × (Nat → Int32)) :=
  if x0 ≤ l5 then (gi ((25 : Int32) + x1) 51 <|
  lb (f_values ((25 : Int32) + x1).toNatClampNeg) fun v5 =>
  some (v5, f_values, f_nextValues)) else (mX11_always_L16 x0 x1 x2 x3 f_tens k7 FUEL l5 (1 : Int32) f_values f_nextValues)
def mX11_always_L7 (x0 : Int32) (x1 : Int32) (x2 : Int32) (x3 : Int32) (f_tens : Nat → Int32) (n : Nat) (l5 : Int32) (f_values : Nat → Int32) (f_nextValues : Nat → Int32) :
  Option (Int32 × (Nat → Int32) × (Nat → Int32)) :=
  loopN (fun k (s : Int32 × (Nat → Int32) × (Nat → Int32)) => mX11_always_B7 x0 x1 x2 x3 f_tens  (fun l5 f_values f_nextValues => k (l5, f_values, f_nextValues)) s.1 s.2.1 s.2.2) n (l5, f_values, f_nextValues)
def mX11_always (x0 : Int32) (x1 : Int32) (x2 : Int32) (x3 : Int32) (f_nextValues : Nat → Int32) (f_tens : Nat → Int32) (f_values : Nat → Int32) :
  Option (Int32 × (Nat → Int32) × (Nat → Int32)) :=
  (mX11_endValues f_values).bind fun o1 =>
  mX11_always_L7 x0 x1 x2 x3 f_tens  FUEL (0 : Int32) o1 f_nextValues
def mX11_answerAlways (x0 : Int32) (x1 : Int32) (x2 : Int32) (f_nextValues : Nat → Int32) (f_tens : Nat → Int32) (f_values : Nat → Int32) :
  Option (Int32 × (Nat → Int32) × (Nat → Int32)) :=
  (mX11_always x0 x1 x2 (1 : Int32) f_nextValues f_tens f_values).bind fun o1 =>
  (mX11_always x0 x1 x2 (0 : Int32) o1.2.2 f_tens o1.2.1).bind fun o3 =>
  if o3.1 ≤ o1.1 then (some ((0 : Int32), o3.2.1, o3.2.2)) else (some ((1 : Int32), o3.2.1, o3.2.2))
def mX11_hidden_B66 (x0 : Int32) (x1 : Int32) (x2 : Int32) (f_tens : Nat → Int32) (l4 : Int32) (l5 : Int32) (s0 : Int32) (f_values : Nat → Int32) (f_nextValues : Nat → Int32) :
  Option (Int32 × (Nat → Int32) × (Nat → Int32)) :=
  if x2 = 0 then (if s0 = (1 : Int32) then (some (l5, f_values, f_nextValues)) else (some (l4, f_values, f_nextValues))) else (if x2 = (1 : Int32) then (some (s0, f_values, f_nextValues)) else ((mX11_answerAlways x0 x1 s0 f_nextValues f_tens f_values).bind fun o18 =>
  some (o18.1, o18.2.1, o18.2.2)))
def mX11_hidden (x0 : Int32) (x1 : Int32) (x2 : Int32) (f_nextValues : Nat → Int32) (f_tens : Nat → Int32) (f_values : Nat → Int32) :
  Option (Int32 × (Nat → Int32) × (Nat → Int32)) :=
  (mX11_areLeft x0 x1).bind fun o1 =>
  if o1 = 0 then (some ((-1 : Int32), f_values, f_nextValues)) else ((mX11_in (Int32.toInt64 x2) (0 : Int64) (2 : Int64)).bind fun o4 =>
  if o4 = 0 then (some ((-1 : Int32), f_values, f_nextValues)) else ((mX11_answerAlways x0 x1 (0 : Int32) f_nextValues f_tens f_values).bind fun o7 =>
  (mX11_always x0 x1 (0 : Int32) o7.1 o7.2.2 f_tens o7.2.1).bind fun o9 =>
  (mX11_answerAlways x0 x1 (1 : Int32) o9.2.2 f_tens o9.2.1).bind fun o11 =>
  (mX11_always x0 x1 (1 : Int32) o11.1 o11.2.2 f_tens o11.2.1).bind fun o13 =>
  if o13.1 ≤ o9.1 then (mX11_hidden_B66 x0 x1 x2 f_tens  o9.1 o13.1 (0 : Int32) o13.2.1 o13.2.2) else (mX11_hidden_B66 x0 x1 x2 f_tens  o9.1 o13.1 (1 : Int32) o13.2.1 o13.2.2)))
def mX11_copy_B77 (x0 : Int32) (x1 : Int32) (k77 : Int32 → (Nat → Int32) → (Nat → Int32) → (Nat → Int32) → Option ((Nat → Int32) × (Nat → Int32) × (Nat → Int32))) (l3 : Int32) (f_delays : Nat → Int32) (f_tolds : Nat → Int32) (f_tens : Nat → Int32) :
  Option ((Nat → Int32) × (Nat → Int32) × (Nat → Int32)) :=
  if (4 : Int32) ≤ l3 then (some (f_delays, f_tolds, f_tens)) else (gi (((4 : Int32) * x0) + l3) 12 <|
  gi (((4 : Int32) * x1) + l3) 12 <|
  lb (upd f_tens (((4 : Int32) * x1) + l3).toNatClampNeg (f_tens (((4 : Int32) * x0) + l3).toNatClampNeg)) fun g14 =>
  lb (l3 + (1 : Int32)) fun v15 =>
  k77 v15 f_delays f_tolds g14)
def mX11_copy_L77 (x0 : Int32) (x1 : Int32) (n : Nat) (l3 : Int32) (f_delays : Nat → Int32) (f_tolds : Nat → Int32) (f_tens : Nat → Int32) :
  Option ((Nat → Int32) × (Nat → Int32) × (Nat → Int32)) :=
  loopN (fun k (s : Int32 × (Nat → Int32) × (Nat → Int32) × (Nat → Int32)) => mX11_copy_B77 x0 x1  (fun l3 f_delays f_tolds f_tens => k (l3, f_delays, f_tolds, f_tens)) s.1 s.2.1 s.2.2.1 s.2.2.2) n (l3, f_delays, f_tolds, f_tens)
def mX11_copy_B38 (x0 : Int32) (x1 : Int32) (k38 : Int32 → (Nat → Int32) → (Nat → Int32) → (Nat → Int32) → Option ((Nat → Int32) × (Nat → Int32) × (Nat → Int32))) (l3 : Int32) (f_delays : Nat → Int32) (f_tolds : Nat → Int32) (f_tens : Nat → Int32) :
  Option ((Nat → Int32) × (Nat → Int32) × (Nat → Int32)) :=
  if (144 : Int32) ≤ l3 then (mX11_copy_L77 x0 x1  FUEL (0 : Int32) f_delays f_tolds f_tens) else (gi (((144 : Int32) * x0) + l3) 432 <|
  gi (((144 : Int32) * x1) + l3) 432 <|
  lb (upd f_tolds (((144 : Int32) * x1) + l3).toNatClampNeg (f_tolds (((144 : Int32) * x0) + l3).toNatClampNeg)) fun g9 =>
  lb (l3 + (1 : Int32)) fun v10 =>
  k38 v10 f_delays g9 f_tens)
def mX11_copy_L38 (x0 : Int32) (x1 : Int32) (n : Nat) (l3 : Int32) (f_delays : Nat → Int32) (f_tolds : Nat → Int32) (f_tens : Nat → Int32) :
  Option ((Nat → Int32) × (Nat → Int32) × (Nat → Int32)) :=
  loopN (fun k (s : Int32 × (Nat → Int32) × (Nat → Int32) × (Nat → Int32)) => mX11_copy_B38 x0 x1  (fun l3 f_delays f_tolds f_tens => k (l3, f_delays, f_tolds, f_tens)) s.1 s.2.1 s.2.2.1 s.2.2.2) n (l3, f_delays, f_tolds, f_tens)
def mX11_copy_B2 (x0 : Int32) (x1 : Int32) (k2 : Int32 → (Nat → Int32) → (Nat → Int32) → (Nat → Int32) → Option ((Nat → Int32) × (Nat → Int32) × (Nat → Int32))) (l3 : Int32) (f_delays : Nat → Int32) (f_tolds : Nat → Int32) (f_tens : Nat → Int32) :
  Option ((Nat → Int32) × (Nat → Int32) × (Nat → Int32)) :=
  if (8 : Int32) ≤ l3 then (mX11_copy_L38 x0 x1  FUEL (0 : Int32) f_delays f_tolds f_tens) else (gi (((8 : Int32) * x0) + l3) 24 <|
  gi (((8 : Int32) * x1) + l3) 24 <|
  lb (upd f_delays (((8 : Int32) * x1) + l3).toNatClampNeg (f_delays (((8 : Int32) * x0) + l3).toNatClampNeg)) fun g4 =>
  lb (l3 + (1 : Int32)) fun v5 =>
  k2 v5 g4 f_tolds f_tens)
def mX11_copy_L2 (x0 : Int32) (x1 : Int32) (n : Nat) (l3 : Int32) (f_delays : Nat → Int32) (f_tolds : Nat → Int32) (f_tens : Nat → Int32) :
  Option ((Nat → Int32) × (Nat → Int32) × (Nat → Int32)) :=
  loopN (fun k (s : Int32 × (Nat → Int32) × (Nat → Int32) × (Nat → Int32)) => mX11_copy_B2 x0 x1  (fun l3 f_delays f_tolds f_tens => k (l3, f_delays, f_tolds, f_tens)) s.1 s.2.1 s.2.2.1 s.2.2.2) n (l3, f_delays, f_tolds, f_tens)
def mX11_copy (x0 : Int32) (x1 : Int32) (f_delays : Nat → Int32) (f_tens : Nat → Int32) (f_tolds : Nat → Int32) :
  Option ((Nat → Int32) × (Nat → Int32) × (Nat → Int32)) :=
  mX11_copy_L2 x0 x1  FUEL (0 : Int32) f_delays f_tolds f_tens
def mX11_keep (i_keptMany : Int32) (f_delays : Nat → Int32) (f_tens : Nat → Int32) (f_tolds : Nat → Int32) :
  Option (Int32 × Int32 × (Nat → Int32) × (Nat → Int32) × (Nat → Int32)) :=
  if i_keptMany = (2 : Int32) then (some ((-3 : Int32), i_keptMany, f_delays, f_tolds, f_tens)) else (lb (i_keptMany + (1 : Int32)) fun v2 =>
  (mX11_copy (0 : Int32) v2 f_delays f_tens f_tolds).bind fun o3 =>
  some (v2, v2, o3.1, o3.2.1, o3.2.2))
def mX11_back (i_keptMany : Int32) (f_delays : Nat → Int32) (f_tens : Nat → Int32) (f_tolds : Nat → Int32) :
  Option (Int32 × (Nat → Int32) × (Nat → Int32) × (Nat → Int32) × Int32) :=
  if i_keptMany = 0 then (some ((-2 : Int32), f_delays, f_tolds, f_tens, i_keptMany)) else ((mX11_copy i_keptMany (0 : Int32) f_delays f_tens f_tolds).bind fun o2 =>
  lb (i_keptMany - (1 : Int32)) fun v4 =>
  some (v4, o2.1, o2.2.1, o2.2.2, v4))
def mX11_count_B68 (x0 : Int32) (i_length : Int32) (i_keptMany : Int32) (f_blowMany : Nat → Int32) (f_judgeMany : Nat → Int32) (f_roundMany : Nat → Int32) (f_tolds : Nat → Int32) (k68 : Int32 → Int32 → Option (Int32)) (l2 : Int32) (l3 : Int32) :
  Option (Int32) :=
  if (144 : Int32) ≤ l3 then (some l2) else (gi l3 432 <|
  if (f_tolds l3.toNatClampNeg) ≤ (-21 : Int32) then (lb (l2 + (0 : Int32)) fun v13 =>
  lb (l3 + (1 : Int32)) fun v14 =>
  k68 v13 v14) else (lb (l2 + (1 : Int32)) fun v15 =>
  lb (l3 + (1 : Int32)) fun v16 =>
  k68 v15 v16))
def mX11_count_L68 (x0 : Int32) (i_length : Int32) (i_keptMany : Int32) (f_blowMany : Nat → Int32) (f_judgeMany : Nat → Int32) (f_roundMany : Nat → Int32) (f_tolds : Nat → Int32) (n : Nat) (l2 : Int32) (l3 : Int32) :
  Option (Int32) :=
  loopN (fun k (s : Int32 × Int32) => mX11_count_B68 x0 i_length i_keptMany f_blowMany f_judgeMany f_roundMany f_tolds  (fun l2 l3 => k (l2, l3)) s.1 s.2) n (l2, l3)
def mX11_count (x0 : Int32) (i_length : Int32) (i_keptMany : Int32) (f_blowMany : Nat → Int32) (f_judgeMany : Nat → Int32) (f_roundMany : Nat → Int32) (f_tolds : Nat → Int32) :
  Option (Int32) :=
  if x0 = (0 : Int32) then (lb (f_roundMany (0 : Int32).toNatClampNeg) fun v2 =>
  some v2) else (if x0 = (1 : Int32) then (lb (f_judgeMany (0 : Int32).toNatClampNeg) fun v4 =>
  some v4) else (if x0 = (2 : Int32) then (lb (f_blowMany (0 : Int32).toNatClampNeg) fun v6 =>
  some v6) else (if x0 = (3 : Int32) then (some i_length) else (if x0 = (4 : Int32) then (mX11_count_L68 x0 i_length i_keptMany f_blowMany f_judgeMany f_roundMany f_tolds  FUEL (0 : Int32) (0 : Int32)) else (if x0 = (5 : Int32) then (some i_keptMany) else (some (-1 : Int32)))))))
def mX11_init_B260 (k260 : Int32 → (Nat → Int32) → (Nat → Int32) → (Nat → Int32) → (Nat → Int32) → (Nat → Int32) → (Nat → Int32) → (Nat → Int32) → (Nat → Int32) → (Nat → Int32) → (Nat → Int32) → (Nat → Int32) → Option ((Nat → Int32) × (Nat → Int32) × (Nat → Int32) × (Nat → Int32) × (Nat → Int32) × (Nat → Int32) × (Nat → Int32) × (Nat → Int32) × (Nat → Int32) × (Nat → Int32) × (Nat → Int32))) (l1 : Int32) (f_roundMany : Nat → Int32) (f_blowMany : Nat → Int32) (f_judgeMany : Nat → Int32) (f_homes : Nat → Int32) (f_noises : Nat → Int32) (f_forwards : Nat → Int32) (f_downs : Nat → Int32) (f_takens : Nat → Int32) (f_judges : Nat → Int32) (f_tolds : Nat → Int32) (f_tens : Nat → Int32) :
  Option ((Nat → Int32) × (Nat → Int32) × (Nat → Int32) × (Nat → Int32) × (Nat → Int32) × (Nat → Int32) × (Nat → Int32) × (Nat → Int32) × (Nat → Int32) × (Nat → Int32) × (Nat → Int32)) :=
  if (4 : Int32) ≤ l1 then (some (f_roundMany, f_blowMany, f_judgeMany, f_homes, f_noises, f_forwards, f_downs, f_takens, f_judges, f_tolds, f_tens)) else (gi l1 12 <|
  lb (upd f_tens l1.toNatClampNeg (5 : Int32)) fun g39 =>
  lb (l1 + (1 : Int32)) fun v40 =>
  k260 v40 f_roundMany f_blowMany f_judgeMany f_homes f_noises f_forwards f_downs f_takens f_judges f_tolds g39)
def mX11_init_L260  (n : Nat) (l1 : Int32) (f_roundMany : Nat → Int32) (f_blowMany : Nat → Int32) (f_judgeMany : Nat → Int32) (f_homes : Nat → Int32) (f_noises : Nat → Int32) (f_forwards : Nat → Int32) (f_downs : Nat → Int32) (f_takens : Nat → Int32) (f_judges : Nat → Int32) (f_tolds : Nat → Int32) (f_tens : Nat → Int32) :
  Option ((Nat → Int32) × (Nat → Int32) × (Nat → Int32) × (Nat → Int32) × (Nat → Int32) × (Nat → Int32) × (Nat → Int32) × (Nat → Int32) × (Nat → Int32) × (Nat → Int32) × (Nat → Int32)) :=
  loopN (fun k (s : Int32 × (Nat → Int32) × (Nat → Int32) × (Nat → Int32) × (Nat → Int32) × (Nat → Int32) × (Nat → Int32) × (Nat → Int32) × (Nat → Int32) × (Nat → Int32) × (Nat → Int32) × (Nat → Int32)) => mX11_init_B260   (fun l1 f_roundMany f_blowMany f_judgeMany f_homes f_noises f_forwards f_downs f_takens f_judges f_tolds f_tens => k (l1, f_roundMany, f_blowMany, f_judgeMany, f_homes, f_noises, f_forwards, f_downs, f_takens, f_judges, f_tolds, f_tens)) s.1 s.2.1 s.2.2.1 s.2.2.2.1 s.2.2.2.2.1 s.2.2.2.2.2.1 s.2.2.2.2.2.2.1 s.2.2.2.2.2.2.2.1 s.2.2.2.2.2.2.2.2.1 s.2.2.2.2.2.2.2.2.2.1 s.2.2.2.2.2.2.2.2.2.2.1 s.2.2.2.2.2.2.2.2.2.2.2) n (l1, f_roundMany, f_blowMany, f_judgeMany, f_homes, f_noises, f_forwards, f_downs, f_takens, f_judges, f_tolds, f_tens)
def mX11_init_B237 (k237 : Int32 → (Nat → Int32) → (Nat → Int32) → (Nat → Int32) → (Nat → Int32) → (Nat → Int32) → (Nat → Int32) → (Nat → Int32) → (Nat → Int32) → (Nat → Int32) → (Nat → Int32) → (Nat → Int32) → Option ((Nat → Int32) × (Nat → Int32) × (Nat → Int32) × (Nat → Int32) × (Nat → Int32) × (Nat → Int32) × (Nat → Int32) × (Nat → Int32) × (Nat → Int32) × (Nat → Int32) × (Nat → Int32))) (l1 : Int32) (f_roundMany : Nat → Int32) (f_blowMany : Nat → Int32) (f_judgeMany : Nat → Int32) (f_homes : Nat → Int32) (f_noises : Nat → Int32) (f_forwards : Nat → Int32) (f_downs : Nat → Int32) (f_takens : Nat → Int32) (f_judges : Nat → Int32) (f_tolds : Nat → Int32) (f_tens : Nat → Int32) :
  Option ((Nat → Int32) × (Nat → Int32) × (Nat → Int32) × (Nat → Int32) × (Nat → Int32) × (Nat → Int32) × (Nat → Int32) × (Nat → Int32) × (Nat → Int32) × (Nat → Int32) × (Nat → Int32)) :=
  if (144 : Int32) ≤ l1 then (mX11_init_L260   FUEL (0 : Int32) f_roundMany f_blowMany f_judgeMany f_homes f_noises f_forwards f_downs f_takens f_judges f_tolds f_tens) else (gi l1 432 <|
  lb (upd f_tolds l1.toNatClampNeg (-21 : Int32)) fun g35 =>
  lb (l1 + (1 : Int32)) fun v36 =>
  k237 v36 f_roundMany f_blowMany f_judgeMany f_homes f_noises f_forwards f_downs f_takens f_judges g35 f_tens)
def mX11_init_L237  (n : Nat) (l1 : Int32) (f_roundMany : Nat → Int32) (f_blowMany : Nat → Int32) (f_judgeMany : Nat → Int32) (f_homes : Nat → Int32) (f_noises : Nat → Int32) (f_forwards : Nat → Int32) (f_downs : Nat → Int32) (f_takens : Nat → Int32) (f_judges : Nat → Int32) (f_tolds : Nat → Int32) (f_tens : Nat → Int32) :
  Option ((Nat → Int32) × (Nat → Int32) × (Nat → Int32) × (Nat → Int32) × (Nat → Int32) × (Nat → Int32) × (Nat → Int32) × (Nat → Int32) × (Nat → Int32) × (Nat → Int32) × (Nat → Int32)) :=
  loopN (fun k (s : Int32 × (Nat → Int32) × (Nat → Int32) × (Nat → Int32) × (Nat → Int32) × (Nat → Int32) × (Nat → Int32) × (Nat → Int32) × (Nat → Int32) × (Nat → Int32) × (Nat → Int32) × (Nat → Int32)) => mX11_init_B237   (fun l1 f_roundMany f_blowMany f_judgeMany f_homes f_noises f_forwards f_downs f_takens f_judges f_tolds f_tens => k (l1, f_roundMany, f_blowMany, f_judgeMany, f_homes, f_noises, f_forwards, f_downs, f_takens, f_judges, f_tolds, f_tens)) s.1 s.2.1 s.2.2.1 s.2.2.2.1 s.2.2.2.2.1 s.2.2.2.2.2.1 s.2.2.2.2.2.2.1 s.2.2.2.2.2.2.2.1 s.2.2.2.2.2.2.2.2.1 s.2.2.2.2.2.2.2.2.2.1 s.2.2.2.2.2.2.2.2.2.2.1 s.2.2.2.2.2.2.2.2.2.2.2) n (l1, f_roundMany, f_blowMany, f_judgeMany, f_homes, f_noises, f_forwards, f_downs, f_takens, f_judges, f_tolds, f_tens)
def mX11_init_B187 (k187 : Int32 → (Nat → Int32) → (Nat → Int32) → (Nat → Int32) → (Nat → Int32) → (Nat → Int32) → (Nat → Int32) → (Nat → Int32) → (Nat → Int32) → (Nat → Int32) → (Nat → Int32) → (Nat → Int32) → Option ((Nat → Int32) × (Nat → Int32) × (Nat → Int32) × (Nat → Int32) × (Nat → Int32) × (Nat → Int32) × (Nat → Int32) × (Nat → Int32) × (Nat → Int32) × (Nat → Int32) × (Nat → Int32))) (l1 : Int32) (f_roundMany : Nat → Int32) (f_blowMany : Nat → Int32) (f_judgeMany : Nat → Int32) (f_homes : Nat → Int32) (f_noises : Nat → Int32) (f_forwards : Nat → Int32) (f_downs : Nat → Int32) (f_takens : Nat → Int32) (f_judges : Nat → Int32) (f_tolds : Nat → Int32) (f_tens : Nat → Int32) :
  Option ((Nat → Int32) × (Nat → Int32) × (Nat → Int32) × (Nat → Int32) × (Nat → Int32) × (Nat → Int32) × (Nat → Int32) × (Nat → Int32) × (Nat → Int32) × (Nat → Int32) × (Nat → Int32)) :=
  if (3 : Int32) ≤ l1 then (mX11_init_L237   FUEL (0 : Int32) f_roundMany f_blowMany f_judgeMany f_homes f_noises f_forwards f_downs f_takens f_judges f_tolds f_tens) else (gi (((7 : Int32) * l1) + (1 : Int32)) 112 <|
  lb (upd f_judges (((7 : Int32) * l1) + (1 : Int32)).toNatClampNeg (1 : Int32)) fun g27 =>
  gi (((7 : Int32) * l1) + (3 : Int32)) 112 <|
  lb (upd g27 (((7 : Int32) * l1) + (3 : Int32)).toNatClampNeg (20 : Int32)) fun g29 =>
  gi (((7 : Int32) * l1) + (4 : Int32)) 112 <|
  lb (upd g29 (((7 : Int32) * l1) + (4 : Int32)).toNatClampNeg (1 : Int32)) fun g31 =>
  lb (l1 + (1 : Int32)) fun v32 =>
  k187 v32 f_roundMany f_blowMany f_judgeMany f_homes f_noises f_forwards f_downs f_takens g31 f_tolds f_tens)
def mX11_init_L187  (n : Nat) (l1 : Int32) (f_roundMany : Nat → Int32) (f_blowMany : Nat → Int32) (f_judgeMany : Nat → Int32) (f_homes : Nat → Int32) (f_noises : Nat → Int32) (f_forwards : Nat → Int32) (f_downs : Nat → Int32) (f_takens : Nat → Int32) (f_judges : Nat → Int32) (f_tolds : Nat → Int32) (f_tens : Nat → Int32) :
  Option ((Nat → Int32) × (Nat → Int32) × (Nat → Int32) × (Nat → Int32) × (Nat → Int32) × (Nat → Int32) × (Nat → Int32) × (Nat → Int32) × (Nat → Int32) × (Nat → Int32) × (Nat → Int32)) :=
  loopN (fun k (s : Int32 × (Nat → Int32) × (Nat → Int32) × (Nat → Int32) × (Nat → Int32) × (Nat → Int32) × (Nat → Int32) × (Nat → Int32) × (Nat → Int32) × (Nat → Int32) × (Nat → Int32) × (Nat → Int32)) => mX11_init_B187   (fun l1 f_roundMany f_blowMany f_judgeMany f_homes f_noises f_forwards f_downs f_takens f_judges f_tolds f_tens => k (l1, f_roundMany, f_blowMany, f_judgeMany, f_homes, f_noises, f_forwards, f_downs, f_takens, f_judges, f_tolds, f_tens)) s.1 s.2.1 s.2.2.1 s.2.2.2.1 s.2.2.2.2.1 s.2.2.2.2.2.1 s.2.2.2.2.2.2.1 s.2.2.2.2.2.2.2.1 s.2.2.2.2.2.2.2.2.1 s.2.2.2.2.2.2.2.2.2.1 s.2.2.2.2.2.2.2.2.2.2.1 s.2.2.2.2.2.2.2.2.2.2.2) n (l1, f_roundMany, f_blowMany, f_judgeMany, f_homes, f_noises, f_forwards, f_downs, f_takens, f_judges, f_tolds, f_tens)
def mX11_init  :
  Option ((Nat → Int32) × (Nat → Int32) × (Nat → Int32) × (Nat → Int32) × (Nat → Int32) × (Nat → Int32) × (Nat → Int32) × (Nat → Int32) × (Nat → Int32) × (Nat → Int32) × (Nat → Int32)) :=
  (mX11_noFight (0 : Int32) (fun _ => 0) (fun _ => 0) (fun _ => 0) (fun _ => 0) (fun _ => 0) (fun _ => 0) (fun _ => 0) (fun _ => 0)).bind fun o22 =>
  lb (upd o22.2.2.1 (0 : Int32).toNatClampNeg (3 : Int32)) fun g24 =>
  mX11_init_L187   FUEL (0 : Int32) o22.1 o22.2.1 g24 o22.2.2.2.1 o22.2.2.2.2.1 o22.2.2.2.2.2.1 o22.2.2.2.2.2.2.1 o22.2.2.2.2.2.2.2 (fun _ => 0) (fun _ => 0) (fun _ => 0)
