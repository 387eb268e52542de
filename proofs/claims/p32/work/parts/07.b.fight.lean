/-! API B: what the judges see and add up -/
theorem n_or (a b : Nat) : nI a ||| nI b = nI (a ||| b) := by
  apply Int32.toBitVec_inj.mp
  show BitVec.ofNat 32 a ||| BitVec.ofNat 32 b = BitVec.ofNat 32 (a ||| b)
  exact (BitVec.ofNat_or).symm
theorem n_bit : ∀ n : Nat, n < 12 → (1 : Int32) <<< (nI n &&& 31) = nI (1 <<< n) := by decide
theorem X11_shows_s {x y : Nat} (hx : x < 12) (hy : y < 12) : mX11_shows (nI x) (nI y) = some (if nearB x y = true then 1 else 0) := by
  unfold mX11_shows mX11_shows_B14 mX11_shows_B26 nearB
  simp only [decide_eq_true_eq]
  by_cases h : y ≤ x
  · rw [if_pos ((n_le (by omega) (by omega)).mpr h), n_sub h, n_lit 4, n_lit 8, if_neg (show ¬ x < y by omega)]
    by_cases h4 : x - y ≤ 4
    · rw [if_pos ((n_le (by omega) (by omega)).mpr h4), if_pos (Or.inl h4)]
    · rw [if_neg (fun hh => h4 ((n_le (by omega) (by omega)).mp hh))]
      by_cases h8 : x - y < 8
      · rw [if_pos ((n_lt (by omega) (by omega)).mpr h8), if_neg (by omega)]
      · rw [if_neg (fun hh => h8 ((n_lt (by omega) (by omega)).mp hh)), if_pos (by omega)]
  · rw [if_neg (fun hh => h ((n_le (by omega) (by omega)).mp hh)), n_sub (by omega), n_lit 4, n_lit 8, if_pos (show x < y by omega)]
    by_cases h4 : y - x ≤ 4
    · rw [if_pos ((n_le (by omega) (by omega)).mpr h4), if_pos (Or.inl h4)]
    · rw [if_neg (fun hh => h4 ((n_le (by omega) (by omega)).mp hh))]
      by_cases h8 : y - x < 8
      · rw [if_pos ((n_lt (by omega) (by omega)).mpr h8), if_neg (by omega)]
      · rw [if_neg (fun hh => h8 ((n_lt (by omega) (by omega)).mp hh)), if_pos (by omega)]
theorem iabs_i {z : Int} (h1 : -2147483647 ≤ z) (h2 : z < 2147483648) : iabs (iI z) = iI (if 0 ≤ z then z else -z) := by
  unfold iabs
  rw [i_0]
  by_cases h : 0 ≤ z
  · rw [if_pos ((iI_le (by omega) (by omega) (by omega) (by omega)).mpr h), if_pos h]
  · rw [if_neg (fun hh => h ((iI_le (by omega) (by omega) (by omega) (by omega)).mp hh)), if_neg h, iI_sub]
    congr 1
    omega
theorem imin_i {x y : Int} (hx : -2147483648 ≤ x ∧ x < 2147483648) (hy : -2147483648 ≤ y ∧ y < 2147483648) : imin (iI x) (iI y) = iI (if y < x then y else x) := by
  unfold imin
  by_cases h : y < x
  · rw [if_pos ((iI_lt hy.1 hy.2 hx.1 hx.2).mpr h), if_pos h]
  · rw [if_neg (fun hh => h ((iI_lt hy.1 hy.2 hx.1 hx.2).mp hh)), if_neg h]
theorem imax_i {x y : Int} (hx : -2147483648 ≤ x ∧ x < 2147483648) (hy : -2147483648 ≤ y ∧ y < 2147483648) : imax (iI x) (iI y) = iI (if x < y then y else x) := by
  unfold imax
  by_cases h : x < y
  · rw [if_pos ((iI_lt hx.1 hx.2 hy.1 hy.2).mpr h), if_pos h]
  · rw [if_neg (fun hh => h ((iI_lt hx.1 hx.2 hy.1 hy.2).mp hh)), if_neg h]
theorem X3_isSeenFrom_s {x y : Nat} (hx : x < 12) (hy : y < 12) : mX3_isSeenFrom (nI x) (nI y) = some (if nearB x y = true then 1 else 0) := by
  unfold mX3_isSeenFrom nearB
  simp only [lb_d, decide_eq_true_eq]
  rw [nI_iI, nI_iI, iI_sub, iabs_i (by omega) (by omega), i_12, iI_sub, imin_i (by constructor <;> split <;> omega) (by constructor <;> split <;> omega), i_4]
  by_cases h : (if x < y then y - x else x - y) ≤ 4 ∨ 8 ≤ (if x < y then y - x else x - y)
  · rw [if_pos h, if_neg]
    intro hh
    have h9 := (iI_lt (by omega) (by omega) (by split <;> split <;> omega) (by split <;> split <;> omega)).mp hh
    revert h h9
    split <;> split <;> split <;> omega
  · rw [if_neg h, if_pos]
    apply (iI_lt (by omega) (by omega) (by split <;> split <;> omega) (by split <;> split <;> omega)).mpr
    revert h
    split <;> split <;> split <;> omega
/-! the model's sums -/
section MS
variable {a : AT} {roundMany blowMany blows forwards downs takens homes noises judgeMany judges : Nat → Int32}
theorem X11_sees_s (hA : OKD a) (hM : RM a roundMany blowMany blows forwards downs takens homes noises judgeMany judges) {j k : Nat} (hj : j < aJ a) (hk : k < aB a) : mX11_sees (nI j) (nI k) blows judges = some (if seesB a j k = true then 1 else 0) := by
  obtain ⟨-, hB, hJ, -, hbl, hjd, -⟩ := hA
  have hb := hbl k hk
  have hd := hjd j hj
  unfold okBl at hb
  unfold okJd at hd
  unfold mX11_sees seesB
  rw [n_lit 7, n_mul, n_lit 5, n_mul, n_lit 4, n_add]
  simp only [gi_n (show 7 * j < 112 by omega) (show 112 ≤ 2147483648 by omega), gi_n (show 5 * k + 4 < 400 by omega) (show 400 ≤ 2147483648 by omega), n_cl (show 7 * j < 2147483648 by omega), n_cl (show 5 * k + 4 < 2147483648 by omega)]
  rw [hM.2.2.2.2.2.1 _ (show 5 * k + 4 < 5 * aB a by omega), hM.2.2.2.2.2.2.1 _ (show 7 * j < 7 * aJ a by omega), X11_shows_s hd.1 hb.2.2.2.2.2, b_some, gz_b]
theorem gW_le (hA : OKD a) {j r c k : Nat} (hj : j < aJ a) (hk : k < aB a) : gW a j r c k ≤ 729 := by
  obtain ⟨-, hB, hJ, ⟨-, hN⟩, hbl, hjd, -⟩ := hA
  have hb := hbl k hk
  have hd := hjd j hj
  unfold okBl at hb
  unfold okJd at hd
  have e1 : jd a (7 * j + 1) * bl a (5 * k + 3) ≤ 81 := Nat.mul_le_mul hd.2.1 hb.2.2.2.2.1
  have e2 : aN a * jd a (7 * j + 5) ≤ 81 := Nat.mul_le_mul hN hd.2.2.2.2.2.2.1
  have e3 : jd a (7 * j + 1) * bl a (5 * k + 3) * (if bl a (5 * k + 1) < 170 then 1 else jd a (7 * j + 4)) ≤ 81 * 9 := Nat.mul_le_mul e1 (by split <;> omega)
  unfold gW
  split
  · split
    · omega
    · split <;> omega
  · omega
theorem sF_le {g : Nat → Nat} {m N : Nat} (h : ∀ k, k < N → g k ≤ m) : ∀ d i, i + d ≤ N → sF g i d ≤ m * d
  | 0, _, _ => by simp [sF]
  | d + 1, i, hi => by
    have h1 := h i (by omega)
    have h2 := sF_le h d (i + 1) (by omega)
    rw [sF, Nat.mul_succ]
    omega
theorem sumS_le (hA : OKD a) {j r c : Nat} (hj : j < aJ a) (hr : r < 12) (hc : c < 2) : sumS a j r c ≤ 29241 := by
  have h1 := sF_le (g := gW a j r c) (m := 729) (N := aB a) (fun k hk => gW_le hA hj hk) (aB a) 0 (by omega)
  obtain ⟨-, hB, hJ, -, hbl, hjd, hfw, -⟩ := hA
  have hd := hjd j hj
  unfold okJd at hd
  have h2 : jd a (7 * j + 2) * fw a (2 * r + c) ≤ 9 * 9 := Nat.mul_le_mul hd.2.2.1 (hfw _ (by omega))
  unfold sumS
  omega
theorem leadS_in (hA : OKD a) {j r : Nat} (hj : j < aJ a) (hr : r < 12) : -29261 ≤ leadS a j r ∧ leadS a j r ≤ 29261 := by
  have h0 := sumS_le hA hj hr (c := 0) (by omega)
  have h1 := sumS_le hA hj hr (c := 1) (by omega)
  have hd := hA.2.2.2.2.2.1 j hj
  unfold okJd at hd
  unfold leadS
  omega
theorem X11_sumOf_step (hA : OKD a) (hM : RM a roundMany blowMany blows forwards downs takens homes noises judgeMany judges) {j r c i acc : Nat} (hj : j < aJ a) (hr : r < 12) (hc : c < 2) (hi : i < aB a) (k27 : Int32 → Int32 → Option Int32) :
    mX11_sumOf_B27 (nI j) (nI r) (nI c) blowMany blows forwards homes judges noises k27 (nI acc) (nI i) = k27 (nI (acc + gW a j r c i)) (nI (i + 1)) := by
  have hs := X11_sees_s hA hM hj hi
  obtain ⟨-, hB, hJ, ⟨hH, -⟩, hbl, hjd, -⟩ := hA
  obtain ⟨hM1, hM2, hM3, hM4, hM5, hM6, hM7, -⟩ := hM
  have hb := hbl i hi
  have hd := hjd j hj
  unfold okBl at hb
  unfold okJd at hd
  unfold mX11_sumOf_B27 mX11_sumOf_B98 mX11_sumOf_B132 gW
  rw [hs]
  simp only [n_lit, n_mul, n_add, lb_d, b_some, n_cl (show 0 < 2147483648 by omega), hM2, n_cl (show 5 * i < 2147483648 by omega), n_cl (show 5 * i + 1 < 2147483648 by omega), n_cl (show 5 * i + 2 < 2147483648 by omega), n_cl (show 5 * i + 3 < 2147483648 by omega), n_cl (show 7 * j + 1 < 2147483648 by omega), n_cl (show 7 * j + 4 < 2147483648 by omega), n_cl (show 7 * j + 5 < 2147483648 by omega), hM4, hM5,
    gi_n (show 5 * i < 400 by omega) (show 400 ≤ 2147483648 by omega), gi_n (show 5 * i + 1 < 400 by omega) (show 400 ≤ 2147483648 by omega), gi_n (show 5 * i + 2 < 400 by omega) (show 400 ≤ 2147483648 by omega), gi_n (show 5 * i + 3 < 400 by omega) (show 400 ≤ 2147483648 by omega), gi_n (show 7 * j + 1 < 112 by omega) (show 112 ≤ 2147483648 by omega), gi_n (show 7 * j + 4 < 112 by omega) (show 112 ≤ 2147483648 by omega), gi_n (show 7 * j + 5 < 112 by omega) (show 112 ≤ 2147483648 by omega),
    hM6 (5 * i) (by omega), hM6 (5 * i + 1) (by omega), hM6 (5 * i + 2) (by omega), hM6 (5 * i + 3) (by omega), hM7 (7 * j + 1) (by omega), hM7 (7 * j + 4) (by omega), hM7 (7 * j + 5) (by omega),
    n_le (show aB a < 2147483648 by omega) (show i < 2147483648 by omega), n_eq (show bl a (5 * i) < 2147483648 by omega) (show r < 2147483648 by omega), n_eq (show bl a (5 * i + 2) < 2147483648 by omega) (show c < 2147483648 by omega), n_lt (show bl a (5 * i + 1) < 2147483648 by omega) (show 170 < 2147483648 by omega), n_eq (show aH a < 2147483648 by omega) (show c < 2147483648 by omega)]
  rw [if_neg (show ¬ aB a ≤ i by omega)]
  have h10 : ¬ nI 1 = nI 0 := by decide
  by_cases c1 : bl a (5 * i) = r
  · by_cases c2 : bl a (5 * i + 2) = c
    · by_cases c3 : seesB a j i = true <;> by_cases c4 : bl a (5 * i + 1) < 170 <;> by_cases c5 : aH a = c <;> simp [c1, c2, c3, c4, c5, h10]
    · simp [c1, c2]
  · simp [c1]
theorem X11_sumOf_L (hA : OKD a) (hM : RM a roundMany blowMany blows forwards downs takens homes noises judgeMany judges) {j r c : Nat} (hj : j < aJ a) (hr : r < 12) (hc : c < 2) :
    ∀ (d i n acc : Nat), i + d = aB a → d < n → mX11_sumOf_L27 (nI j) (nI r) (nI c) blowMany blows forwards homes judges noises n (nI acc) (nI i) = some (nI (acc + sF (gW a j r c) i d)) := by
  intro d
  induction d with
  | zero =>
    intro i n acc hi hn
    obtain ⟨n, rfl⟩ : ∃ q, n = q + 1 := ⟨n - 1, by omega⟩
    rw [eX11_sumOf_27]
    unfold mX11_sumOf_B27
    have hB := hA.2.1
    rw [show (0 : Int32).toNatClampNeg = 0 from rfl, hM.2.1, if_pos ((n_le (by omega) (by omega)).mpr (by omega))]
    rfl
  | succ d ih =>
    intro i n acc hi hn
    obtain ⟨n, rfl⟩ : ∃ q, n = q + 1 := ⟨n - 1, by omega⟩
    rw [eX11_sumOf_27, X11_sumOf_step hA hM hj hr hc (by omega), ih (i + 1) n _ (by omega) (by omega), sF, Nat.add_assoc]
theorem X11_sumOf_s (hA : OKD a) (hM : RM a roundMany blowMany blows forwards downs takens homes noises judgeMany judges) {j r c : Nat} (hj : j < aJ a) (hr : r < 12) (hc : c < 2) : mX11_sumOf (nI j) (nI r) (nI c) blowMany blows forwards homes judges noises = some (nI (sumS a j r c)) := by
  have hJ := hA.2.2.1
  have hB := hA.2.1
  unfold mX11_sumOf
  simp only [n_lit 7, n_lit 2, n_lit 0, n_mul, n_add, lb_d, gi_n (show 7 * j + 2 < 112 by omega) (show 112 ≤ 2147483648 by omega), gi_n (show 2 * r + c < 48 by omega) (show 48 ≤ 2147483648 by omega), n_cl (show 7 * j + 2 < 2147483648 by omega), n_cl (show 2 * r + c < 2147483648 by omega), hM.2.2.2.2.2.2.1 (7 * j + 2) (by omega), hM.2.2.2.2.2.2.2.1 (2 * r + c) (by omega)]
  rw [X11_sumOf_L hA hM hj hr hc (aB a) 0 FUEL _ (by omega) (by unfold FUEL; omega)]
  rfl
theorem X11_leadOf_s (hA : OKD a) (hM : RM a roundMany blowMany blows forwards downs takens homes noises judgeMany judges) {j r : Nat} (hj : j < aJ a) (hr : r < 12) : mX11_leadOf (nI j) (nI r) blowMany blows forwards homes judges noises = some (iI (leadS a j r)) := by
  have hJ := hA.2.2.1
  unfold mX11_leadOf
  rw [n_lit 0, n_lit 1, X11_sumOf_s hA hM hj hr (by omega), X11_sumOf_s hA hM hj hr (by omega), b_some, b_some]
  simp only [n_lit 7, n_lit 3, n_mul, n_add, lb_d, gi_n (show 7 * j + 3 < 112 by omega) (show 112 ≤ 2147483648 by omega), n_cl (show 7 * j + 3 < 2147483648 by omega), hM.2.2.2.2.2.2.1 (7 * j + 3) (by omega)]
  unfold leadS
  rw [nI_iI, nI_iI, nI_iI, i_20, iI_sub, iI_add, iI_sub]
def closeB (a : AT) (j r : Nat) : Bool := decide (-(jd a (7 * j + 6) : Int) ≤ leadS a j r ∧ leadS a j r ≤ jd a (7 * j + 6))
theorem X11_isClose_s (hA : OKD a) (hM : RM a roundMany blowMany blows forwards downs takens homes noises judgeMany judges) {j r : Nat} (hj : j < aJ a) (hr : r < 12) : mX11_isClose (nI j) (nI r) blowMany blows forwards homes judges noises = some (if closeB a j r = true then 1 else 0) := by
  have hl := leadS_in hA hj hr
  have hd := hA.2.2.2.2.2.1 j hj
  have hJ := hA.2.2.1
  unfold okJd at hd
  unfold mX11_isClose
  rw [X11_leadOf_s hA hM hj hr, b_some]
  simp only [n_lit 7, n_lit 6, n_mul, n_add, gi_n (show 7 * j + 6 < 112 by omega) (show 112 ≤ 2147483648 by omega), n_cl (show 7 * j + 6 < 2147483648 by omega), hM.2.2.2.2.2.2.1 (7 * j + 6) (by omega)]
  rw [in_w, X10_within_s, b_some, gz_b]
  refine congrArg some (if_cg ?_ 1 0)
  unfold closeB
  rw [decide_eq_true_eq, nI_iI, iI_neg, iI_le (by omega) (by omega) (by omega) (by omega), iI_le (by omega) (by omega) (by omega) (by omega)]
end MS
