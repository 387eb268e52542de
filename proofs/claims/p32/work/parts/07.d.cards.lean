/-! API D: margins, cards, points -/
def sgS (z : Int) : Int := if z = 0 then 0 else if z ≤ 0 then -1 else 1
def clipS (z m : Int) : Int := if z ≤ m then (if -m ≤ z then z else -m) else m
def sideS (a : AT) (j : Nat) : Nat → Int
  | 0 => if leadS a j 0 = 0 then 1 else sgS (leadS a j 0)
  | r + 1 => if leadS a j (r + 1) = 0 then sideS a j r else sgS (leadS a j (r + 1))
def downS (a : AT) (r : Nat) : Int := (dn a (2 * r + 1) : Int) - dn a (2 * r)
def twoS (p : Nat) (a : AT) (j r : Nat) : Int := if p = 0 then 2 else if closeB a j r = true then (if p = 1 then 1 else 0) else 2
def marginS (p : Nat) (a : AT) (j r : Nat) (t : Bool) : Int :=
  if p = 3 then clipS ((leadS a j r).tdiv 5 + sgS (leadS a j r)) 20 + 4 * downS a r else clipS ((if t = true then -twoS p a j r else twoS p a j r) * sideS a j r + 2 * downS a r) 8
theorem sgS_in (z : Int) : -1 ≤ sgS z ∧ sgS z ≤ 1 := by unfold sgS; split <;> (try split) <;> omega
theorem clipS_in {z m : Int} (h : 0 ≤ m) : -m ≤ clipS z m ∧ clipS z m ≤ m := by unfold clipS; split <;> (try split) <;> omega
theorem sideS_in (a : AT) (j : Nat) : ∀ r, -1 ≤ sideS a j r ∧ sideS a j r ≤ 1
  | 0 => by rw [sideS]; split; omega; exact sgS_in _
  | r + 1 => by rw [sideS]; split; exact sideS_in a j r; exact sgS_in _
theorem downS_in {a : AT} (hA : OKD a) {r : Nat} (hr : r < 12) : -3 ≤ downS a r ∧ downS a r ≤ 3 := by
  have h := hA.2.2.2.2.2.2.2.1 r hr
  unfold downS
  omega
theorem twoS_in (p : Nat) (a : AT) (j r : Nat) : 0 ≤ twoS p a j r ∧ twoS p a j r ≤ 2 := by unfold twoS; split <;> (try split) <;> (try split) <;> omega
theorem marginS_in {a : AT} (hA : OKD a) (p j : Nat) {r : Nat} (hr : r < 12) (t : Bool) : -32 ≤ marginS p a j r t ∧ marginS p a j r t ≤ 32 := by
  have h := downS_in hA hr
  unfold marginS
  split
  · have := clipS_in (z := (leadS a j r).tdiv 5 + sgS (leadS a j r)) (show (0 : Int) ≤ 20 by omega)
    omega
  · have := clipS_in (z := (if t = true then -twoS p a j r else twoS p a j r) * sideS a j r + 2 * downS a r) (show (0 : Int) ≤ 8 by omega)
    omega
theorem X10_signOf_s {z : Int} (h1 : -2147483648 ≤ z) (h2 : z < 2147483648) : mX10_signOf (iI z) = some (iI (sgS z)) := by
  unfold mX10_signOf sgS
  rw [i_0]
  by_cases c : z = 0
  · rw [if_pos (by rw [c]), if_pos c]
  · rw [if_neg (fun hh => c ((iI_eq h1 h2 (by omega) (by omega)).mp hh)), if_neg c]
    by_cases c2 : z ≤ 0
    · rw [if_pos ((iI_le h1 h2 (by omega) (by omega)).mpr c2), if_pos c2, i_1, iI_neg]
    · rw [if_neg (fun hh => c2 ((iI_le h1 h2 (by omega) (by omega)).mp hh)), if_neg c2, i_1]
theorem X10_clip_s {z m : Int} (hz : -1000000 ≤ z ∧ z ≤ 1000000) (hm : 0 ≤ m ∧ m ≤ 100) : mX10_clip (iI z) (iI m) = some (iI (clipS z m)) := by
  unfold mX10_clip
  rw [lb_d, iI_neg, imin_i (by omega) (by omega), imax_i (by omega) (by split <;> omega)]
  congr 2
  unfold clipS
  split <;> split <;> (try split) <;> omega
theorem X11_bound_s {z m : Int} (hz : -1000000 ≤ z ∧ z ≤ 1000000) (hm : 0 ≤ m ∧ m ≤ 100) : mX11_bound (iI z) (iI m) = some (iI (clipS z m)) := by
  unfold mX11_bound clipS
  by_cases c : z ≤ m
  · rw [if_pos ((iI_le (by omega) (by omega) (by omega) (by omega)).mpr c), if_pos c, iI_neg]
    by_cases c2 : -m ≤ z
    · rw [if_pos ((iI_le (by omega) (by omega) (by omega) (by omega)).mpr c2), if_pos c2]
    · rw [if_neg (fun hh => c2 ((iI_le (by omega) (by omega) (by omega) (by omega)).mp hh)), if_neg c2, lb_d]
  · rw [if_neg (fun hh => c ((iI_le (by omega) (by omega) (by omega) (by omega)).mp hh)), if_neg c]
theorem i_m1 : (-1 : Int32) = iI (-1) := by rw [i_1, iI_neg]
section CD
variable {a : AT} {rounds home noise blowCount judgeCount : Int32} {cblows cjudges cforward cdowns ctaken seenBy sums leads : Nat → Int32} {roundMany blowMany blows forwards downs takens homes noises judgeMany judges : Nat → Int32}
theorem X1_sideOf_L (hA : OKD a) (hS : RCs a seenBy sums leads) {j : Nat} (x1 : Int32) (hj : j < aJ a) : ∀ (r n : Nat), r < 12 → r + 1 < n → mX1_sideOf_L2 (nI j) x1 leads n (iI (r : Int)) = some (iI (sideS a j r)) := by
  intro r
  induction r with
  | zero =>
    intro n hr hn
    obtain ⟨n, rfl⟩ : ∃ q, n = q + 2 := ⟨n - 2, by omega⟩
    have hl := leadS_in hA hj (r := 0) (by omega)
    rw [eX1_sideOf_2]
    unfold mX1_sideOf_B2
    rw [i_0, if_neg (fun hh => absurd ((iI_lt (by omega) (by omega) (by omega) (by omega)).mp hh) (by omega)), ← nI_iI, X3_leadOf_s hA hS hj hr, b_some, sideS]
    by_cases c : leadS a j 0 = 0
    · rw [if_pos (by rw [c]), if_pos c, lb_d, eX1_sideOf_2]
      unfold mX1_sideOf_B2
      rw [i_0, nI_iI 0, i_m1, iI_add, if_pos ((iI_lt (by omega) (by omega) (by omega) (by omega)).mpr (by omega)), i_1]
    · rw [if_neg (fun hh => c ((iI_eq (by omega) (by omega) (by omega) (by omega)).mp hh)), if_neg c, X10_signOf_s (by omega) (by omega), b_some]
  | succ r ih =>
    intro n hr hn
    obtain ⟨n, rfl⟩ : ∃ q, n = q + 1 := ⟨n - 1, by omega⟩
    have hl := leadS_in hA hj hr
    rw [eX1_sideOf_2]
    unfold mX1_sideOf_B2
    rw [i_0, if_neg (fun hh => absurd ((iI_lt (by omega) (by omega) (by omega) (by omega)).mp hh) (by omega)), ← nI_iI, X3_leadOf_s hA hS hj hr, b_some, sideS]
    by_cases c : leadS a j (r + 1) = 0
    · rw [if_pos (by rw [c]), if_pos c, lb_d, nI_iI (r + 1), i_m1, iI_add, show ((r + 1 : Nat) : Int) + -1 = (r : Int) by omega, ih n (by omega) (by omega)]
    · rw [if_neg (fun hh => c ((iI_eq (by omega) (by omega) (by omega) (by omega)).mp hh)), if_neg c, X10_signOf_s (by omega) (by omega), b_some]
theorem X11_side_L (hA : OKD a) (hM : RM a roundMany blowMany blows forwards downs takens homes noises judgeMany judges) {j : Nat} (x1 : Int32) (hj : j < aJ a) : ∀ (r n : Nat), r < 12 → r + 1 < n → mX11_side_L2 (nI j) x1 blowMany blows forwards homes judges noises n (iI (r : Int)) = some (iI (sideS a j r)) := by
  have sg : ∀ z : Int, -2147483648 ≤ z → z < 2147483648 → ¬ z = 0 → (if iI z ≤ iI 0 then some (-1) else some (1 : Int32)) = some (iI (sgS z)) := by
    intro z h1 h2 c
    unfold sgS
    rw [if_neg c]
    by_cases c2 : z ≤ 0
    · rw [if_pos ((iI_le h1 h2 (by omega) (by omega)).mpr c2), if_pos c2, i_m1]
    · rw [if_neg (fun hh => c2 ((iI_le h1 h2 (by omega) (by omega)).mp hh)), if_neg c2, i_1]
  intro r
  induction r with
  | zero =>
    intro n hr hn
    obtain ⟨n, rfl⟩ : ∃ q, n = q + 2 := ⟨n - 2, by omega⟩
    have hl := leadS_in hA hj (r := 0) (by omega)
    rw [eX11_side_2]
    unfold mX11_side_B2
    rw [i_0, if_neg (fun hh => absurd ((iI_lt (by omega) (by omega) (by omega) (by omega)).mp hh) (by omega)), ← nI_iI, X11_leadOf_s hA hM hj hr, b_some, sideS]
    by_cases c : leadS a j 0 = 0
    · rw [if_pos (by rw [c]), if_pos c, lb_d, eX11_side_2]
      unfold mX11_side_B2
      rw [i_0, nI_iI 0, i_m1, iI_add, if_pos ((iI_lt (by omega) (by omega) (by omega) (by omega)).mpr (by omega)), i_1]
    · rw [if_neg (fun hh => c ((iI_eq (by omega) (by omega) (by omega) (by omega)).mp hh)), if_neg c, sg _ (by omega) (by omega) c]
  | succ r ih =>
    intro n hr hn
    obtain ⟨n, rfl⟩ : ∃ q, n = q + 1 := ⟨n - 1, by omega⟩
    have hl := leadS_in hA hj hr
    rw [eX11_side_2]
    unfold mX11_side_B2
    rw [i_0, if_neg (fun hh => absurd ((iI_lt (by omega) (by omega) (by omega) (by omega)).mp hh) (by omega)), ← nI_iI, X11_leadOf_s hA hM hj hr, b_some, sideS]
    by_cases c : leadS a j (r + 1) = 0
    · rw [if_pos (by rw [c]), if_pos c, lb_d, nI_iI (r + 1), i_m1, iI_add, show ((r + 1 : Nat) : Int) + -1 = (r : Int) by omega, ih n (by omega) (by omega)]
    · rw [if_neg (fun hh => c ((iI_eq (by omega) (by omega) (by omega) (by omega)).mp hh)), if_neg c, sg _ (by omega) (by omega) c]
theorem X3_downsFor_s (hd : ∀ k, k < 24 → cdowns k = nI (dn a k)) {r : Nat} (hr : r < 12) : mX3_downsFor (nI r) cdowns = some (iI (downS a r)) := by
  unfold mX3_downsFor downS
  rw [n_lit 2, n_lit 1, n_mul, n_add]
  simp only [gi_n (show r * 2 + 1 < 24 by omega) (show 24 ≤ 2147483648 by omega), gi_n (show r * 2 < 24 by omega) (show 24 ≤ 2147483648 by omega), lb_d, n_cl (show r * 2 + 1 < 2147483648 by omega), n_cl (show r * 2 < 2147483648 by omega), hd (r * 2 + 1) (by omega), hd (r * 2) (by omega)]
  rw [nI_iI, nI_iI, iI_sub, Nat.mul_comm r 2]
theorem X11_downOf_s (hd : ∀ k, k < 24 → downs k = nI (dn a k)) {r : Nat} (hr : r < 12) : mX11_downOf (nI r) downs = some (iI (downS a r)) := by
  unfold mX11_downOf downS
  rw [n_lit 2, n_lit 1, n_mul, n_add]
  simp only [gi_n (show 2 * r + 1 < 48 by omega) (show 48 ≤ 2147483648 by omega), gi_n (show 2 * r < 48 by omega) (show 48 ≤ 2147483648 by omega), lb_d, n_cl (show 2 * r + 1 < 2147483648 by omega), n_cl (show 2 * r < 2147483648 by omega), hd (2 * r + 1) (by omega), hd (2 * r) (by omega)]
  rw [nI_iI, nI_iI, iI_sub]
theorem i_div5 {z : Int} (h1 : -1000000 ≤ z) (h2 : z ≤ 1000000) : iI z / (5 : Int32) = iI (z.tdiv 5) := by
  apply Int32.toInt_inj.mp
  have h5 : (5 : Int32).toInt = 5 := by decide
  have h3 := Int.mul_tdiv_add_tmod z 5
  have h4 := Int.tmod_lt_of_pos z (show (0 : Int) < 5 by omega)
  have h6 : -5 < z.tmod 5 := by
    have := Int.lt_tmod_of_pos z (show (0 : Int) < 5 by omega)
    omega
  rw [Int32.toInt_div_of_ne_right _ _ (by decide), h5, iI_toInt (by omega) (by omega), iI_toInt (by omega) (by omega)]
theorem tdiv5_in {z : Int} (h1 : -1000000 ≤ z) (h2 : z ≤ 1000000) : -200000 ≤ z.tdiv 5 ∧ z.tdiv 5 ≤ 200000 := by
  have h3 := Int.mul_tdiv_add_tmod z 5
  have h4 := Int.tmod_lt_of_pos z (show (0 : Int) < 5 by omega)
  have h6 := Int.lt_tmod_of_pos z (show (0 : Int) < 5 by omega)
  omega
theorem X1_marginBy_B (hA : OKD a) (hd : ∀ k, k < 24 → cdowns k = nI (dn a k)) (hS : RCs a seenBy sums leads) {p j r : Nat} (hj : j < aJ a) (hr : r < 12) {t : Int} (ht : 0 ≤ t ∧ t ≤ 2) : mX1_marginBy_B74 (nI p) (nI j) (nI r) cdowns cjudges leads (iI t) = some (iI (clipS (t * sideS a j r + 2 * downS a r) 8)) := by
  have h1 := downS_in hA hr
  have h2 := sideS_in a j r
  have h3 : -2 ≤ t * sideS a j r ∧ t * sideS a j r ≤ 2 := by
    rcases (show sideS a j r = -1 ∨ sideS a j r = 0 ∨ sideS a j r = 1 by omega) with h | h | h <;> rw [h] <;> omega
  unfold mX1_marginBy_B74 mX1_sideOf
  rw [show mX1_sideOf_L2 (nI j) (nI r) leads FUEL (nI r) = some (iI (sideS a j r)) from by rw [nI_iI r]; exact X1_sideOf_L hA hS _ hj r FUEL hr (by unfold FUEL; omega), b_some, X3_downsFor_s hd hr, b_some, iI_mul, i_2, iI_mul, iI_add, i_8, X10_clip_s (by omega) (by omega), b_some]
theorem X1_marginBy_s (hA : OKD a) (hC : ∀ k, k < 7 * aJ a → cjudges k = nI (jd a k)) (hd : ∀ k, k < 24 → cdowns k = nI (dn a k)) (hS : RCs a seenBy sums leads) {p j r : Nat} (hp : p ≤ 3) (hj : j < aJ a) (hr : r < 12) : mX1_marginBy (nI p) (nI j) (nI r) cdowns cjudges leads = some (iI (marginS p a j r false)) := by
  have hl := leadS_in hA hj hr
  have hdn := downS_in hA hr
  have ht := tdiv5_in (z := leadS a j r) (by omega) (by omega)
  have hsg := sgS_in (leadS a j r)
  unfold mX1_marginBy marginS
  rw [n_lit 3, n_lit 0, n_lit 1]
  by_cases c3 : p = 3
  · subst c3
    rw [if_pos rfl, if_pos rfl, X3_leadOf_s hA hS hj hr, b_some, X10_signOf_s (by omega) (by omega), b_some, i_div5 (by omega) (by omega), iI_add, i_20, X10_clip_s (by omega) (by omega), b_some, X3_downsFor_s hd hr, b_some, lb_d, i_4, iI_mul, iI_add]
  · rw [if_neg (fun hh => c3 ((n_eq (by omega) (by omega)).mp hh)), if_neg c3]
    by_cases c0 : p = 0
    · subst c0
      rw [if_pos rfl, i_2, X1_marginBy_B hA hd hS hj hr (by omega)]
      rfl
    · rw [if_neg (fun hh => c0 ((n_eq (by omega) (by omega)).mp hh)), X3_isClose_s hA hC hS hj hr, b_some, show nI 0 = (0 : Int32) from rfl, if10]
      unfold twoS
      rw [if_neg c0]
      unfold mX1_marginBy_B72
      by_cases cc : closeB a j r = true
      · rw [if_pos cc, if_pos cc]
        by_cases c1 : p = 1
        · subst c1
          rw [if_pos rfl, if_pos rfl]
          exact X1_marginBy_B (t := 1) hA hd hS hj hr (by omega)
        · rw [if_neg (fun hh => c1 ((n_eq (by omega) (by omega)).mp hh)), if_neg c1]
          exact X1_marginBy_B (t := 0) hA hd hS hj hr (by omega)
      · rw [if_neg cc, if_neg cc, i_2, X1_marginBy_B hA hd hS hj hr (by omega)]
        rfl
theorem X11_margin0_B (hA : OKD a) (hM : RM a roundMany blowMany blows forwards downs takens homes noises judgeMany judges) {p j r : Nat} (hj : j < aJ a) (hr : r < 12) {w : Int} (ht : 0 ≤ w ∧ w ≤ 2) (t : Bool) : mX11_margin0_B82 (nI p) (nI j) (nI r) (if t = true then 1 else 0) blowMany blows downs forwards homes judges noises (iI w) = some (iI (clipS ((if t = true then -w else w) * sideS a j r + 2 * downS a r) 8)) := by
  have h1 := downS_in hA hr
  have h2 := sideS_in a j r
  have h3 : -2 ≤ w * sideS a j r ∧ w * sideS a j r ≤ 2 := by
    rcases (show sideS a j r = -1 ∨ sideS a j r = 0 ∨ sideS a j r = 1 by omega) with h | h | h <;> rw [h] <;> omega
  have hs : mX11_side (nI j) (nI r) blowMany blows forwards homes judges noises = some (iI (sideS a j r)) := by
    unfold mX11_side
    rw [show mX11_side_L2 (nI j) (nI r) blowMany blows forwards homes judges noises FUEL (nI r) = mX11_side_L2 (nI j) (nI r) blowMany blows forwards homes judges noises FUEL (iI (r : Int)) from by rw [nI_iI r]]
    exact X11_side_L hA hM _ hj r FUEL hr (by unfold FUEL; omega)
  unfold mX11_margin0_B82 mX11_margin0_B111
  rw [if10, hs, b_some, b_some, X11_downOf_s hM.2.2.2.2.2.2.2.2.1 hr, b_some, b_some, iI_mul, iI_neg, iI_mul, i_2, iI_mul, iI_add, iI_add, i_8]
  have h4 : -w * sideS a j r = -(w * sideS a j r) := Int.neg_mul _ _
  cases t
  · rw [if_neg (by decide), if_neg (by decide), X11_bound_s (by omega) (by omega), b_some]
  · rw [if_pos rfl, if_pos rfl, X11_bound_s (by rw [h4]; omega) (by omega), b_some]
theorem X11_margin0_s (hA : OKD a) (hM : RM a roundMany blowMany blows forwards downs takens homes noises judgeMany judges) {p j r : Nat} (hp : p ≤ 3) (hj : j < aJ a) (hr : r < 12) (t : Bool) : mX11_margin0 (nI p) (nI j) (nI r) (if t = true then 1 else 0) blowMany blows downs forwards homes judges noises = some (iI (marginS p a j r t)) := by
  have hl := leadS_in hA hj hr
  have hdn := downS_in hA hr
  have ht := tdiv5_in (z := leadS a j r) (by omega) (by omega)
  have hsg := sgS_in (leadS a j r)
  unfold mX11_margin0 marginS
  rw [n_lit 3, n_lit 1]
  by_cases c3 : p = 3
  · subst c3
    rw [if_pos rfl, if_pos rfl, X11_leadOf_s hA hM hj hr, b_some]
    have key : ∀ g : Int, g = sgS (leadS a j r) → mX11_margin0_B36 (nI 3) (nI j) (nI r) (if t = true then nI 1 else 0) blowMany blows downs forwards homes judges noises (iI (leadS a j r) / 5) (iI g) = some (iI (clipS ((leadS a j r).tdiv 5 + sgS (leadS a j r)) 20 + 4 * downS a r)) := by
      intro g hg
      subst hg
      unfold mX11_margin0_B36
      rw [lb_d, i_div5 (by omega) (by omega), iI_add, i_20, X11_bound_s (by omega) (by omega), b_some, X11_downOf_s hM.2.2.2.2.2.2.2.2.1 hr, b_some, lb_d, i_4, iI_mul, iI_add]
    rw [show (0 : Int32) = iI 0 from i_0, show (-nI 1 : Int32) = iI (-1) from i_m1, show nI 1 = iI 1 from i_1] at *
    by_cases z1 : leadS a j r ≤ 0
    · rw [if_pos ((iI_le (by omega) (by omega) (by omega) (by omega)).mpr z1)]
      by_cases z2 : 0 ≤ leadS a j r
      · rw [if_pos ((iI_le (by omega) (by omega) (by omega) (by omega)).mpr z2), key 0 (by unfold sgS; rw [if_pos (by omega)])]
      · rw [if_neg (fun hh => z2 ((iI_le (by omega) (by omega) (by omega) (by omega)).mp hh)), key (-1) (by unfold sgS; rw [if_neg (by omega), if_pos z1])]
    · rw [if_neg (fun hh => z1 ((iI_le (by omega) (by omega) (by omega) (by omega)).mp hh)), key 1 (by unfold sgS; rw [if_neg (by omega), if_neg z1])]
  · rw [if_neg (fun hh => c3 ((n_eq (by omega) (by omega)).mp hh)), if_neg c3]
    unfold mX11_margin0_B68 twoS
    rw [show nI 1 = (1 : Int32) from rfl]
    by_cases c0 : p = 0
    · subst c0
      rw [if_pos (show nI 0 = (0 : Int32) from rfl), i_2, X11_margin0_B hA hM hj hr (by omega) t]
      rfl
    · rw [if_neg (show ¬ nI p = (0 : Int32) from fun hh => c0 ((n_eq (by omega) (by omega)).mp (show nI p = nI 0 from hh))), X11_isClose_s hA hM hj hr, b_some, if10, if_neg c0]
      by_cases cc : closeB a j r = true
      · rw [if_pos cc, if_pos cc]
        by_cases c1 : p = 1
        · subst c1
          rw [if_pos (show nI 1 = (1 : Int32) from rfl), if_pos rfl]
          exact X11_margin0_B (w := 1) hA hM hj hr (by omega) t
        · rw [if_neg (show ¬ nI p = (1 : Int32) from fun hh => c1 ((n_eq (by omega) (by omega)).mp (show nI p = nI 1 from hh))), if_neg c1]
          exact X11_margin0_B (w := 0) hA hM hj hr (by omega) t
      · rw [if_neg cc, if_neg cc]
        exact X11_margin0_B (w := 2) hA hM hj hr (by omega) t
end CD
