/-! TOOL: whole numbers as the machine's ints -/
def iI (z : Int) : Int32 := Int32.ofInt z
theorem iI_toInt {z : Int} (h1 : -2147483648 ≤ z) (h2 : z < 2147483648) : (iI z).toInt = z := Int32.toInt_ofInt_of_le (by simpa using h1) (by simpa using h2)
theorem iI_lit (n : Nat) : (OfNat.ofNat n : Int32) = iI (OfNat.ofNat n) := (Int32.ofInt_eq_ofNat (n := n)).symm
theorem i_0 : (0 : Int32) = iI 0 := iI_lit 0
theorem i_1 : (1 : Int32) = iI 1 := iI_lit 1
theorem i_2 : (2 : Int32) = iI 2 := iI_lit 2
theorem i_3 : (3 : Int32) = iI 3 := iI_lit 3
theorem i_4 : (4 : Int32) = iI 4 := iI_lit 4
theorem i_5 : (5 : Int32) = iI 5 := iI_lit 5
theorem i_6 : (6 : Int32) = iI 6 := iI_lit 6
theorem i_7 : (7 : Int32) = iI 7 := iI_lit 7
theorem i_8 : (8 : Int32) = iI 8 := iI_lit 8
theorem i_9 : (9 : Int32) = iI 9 := iI_lit 9
theorem i_10 : (10 : Int32) = iI 10 := iI_lit 10
theorem i_11 : (11 : Int32) = iI 11 := iI_lit 11
theorem i_12 : (12 : Int32) = iI 12 := iI_lit 12
theorem i_13 : (13 : Int32) = iI 13 := iI_lit 13
theorem i_15 : (15 : Int32) = iI 15 := iI_lit 15
theorem i_20 : (20 : Int32) = iI 20 := iI_lit 20
theorem i_24 : (24 : Int32) = iI 24 := iI_lit 24
theorem i_25 : (25 : Int32) = iI 25 := iI_lit 25
theorem i_40 : (40 : Int32) = iI 40 := iI_lit 40
theorem i_50 : (50 : Int32) = iI 50 := iI_lit 50
theorem i_99 : (99 : Int32) = iI 99 := iI_lit 99
theorem i_100 : (100 : Int32) = iI 100 := iI_lit 100
theorem i_144 : (144 : Int32) = iI 144 := iI_lit 144
theorem i_170 : (170 : Int32) = iI 170 := iI_lit 170
theorem i_1000 : (1000 : Int32) = iI 1000 := iI_lit 1000
theorem iI_add (a b : Int) : iI a + iI b = iI (a + b) := (Int32.ofInt_add a b).symm
theorem iI_sub (a b : Int) : iI a - iI b = iI (a - b) := (Int32.ofInt_sub a b).symm
theorem iI_mul (a b : Int) : iI a * iI b = iI (a * b) := (Int32.ofInt_mul a b).symm
theorem iI_neg (a : Int) : -iI a = iI (-a) := (Int32.ofInt_neg a).symm
theorem nI_iI (n : Nat) : nI n = iI (n : Int) := (Int32.ofInt_eq_ofNat (n := n)).symm
theorem n_lit (n : Nat) : (OfNat.ofNat n : Int32) = nI n := rfl
theorem iI_le {a b : Int} (h1 : -2147483648 ≤ a) (h2 : a < 2147483648) (h3 : -2147483648 ≤ b) (h4 : b < 2147483648) : iI a ≤ iI b ↔ a ≤ b := by
  rw [Int32.le_iff_toInt_le, iI_toInt h1 h2, iI_toInt h3 h4]
theorem iI_lt {a b : Int} (h1 : -2147483648 ≤ a) (h2 : a < 2147483648) (h3 : -2147483648 ≤ b) (h4 : b < 2147483648) : iI a < iI b ↔ a < b := by
  rw [Int32.lt_iff_toInt_lt, iI_toInt h1 h2, iI_toInt h3 h4]
theorem iI_eq {a b : Int} (h1 : -2147483648 ≤ a) (h2 : a < 2147483648) (h3 : -2147483648 ≤ b) (h4 : b < 2147483648) : iI a = iI b ↔ a = b := by
  rw [← Int32.toInt_inj, iI_toInt h1 h2, iI_toInt h3 h4]
theorem iI_of (x : Int32) : ∃ z : Int, -2147483648 ≤ z ∧ z < 2147483648 ∧ x = iI z := ⟨x.toInt, by have := Int32.le_toInt x; omega, by have := Int32.toInt_lt x; omega, (Int32.ofInt_toInt x).symm⟩
theorem n_le {a b : Nat} (ha : a < 2147483648) (hb : b < 2147483648) : nI a ≤ nI b ↔ a ≤ b := nI_leI (by omega) (by omega)
theorem n_lt {a b : Nat} (ha : a < 2147483648) (hb : b < 2147483648) : nI a < nI b ↔ a < b := nI_ltI (by omega) (by omega)
theorem n_eq {a b : Nat} (ha : a < 2147483648) (hb : b < 2147483648) : nI a = nI b ↔ a = b := nI_eq (by omega) (by omega)
theorem n_cl {n : Nat} (h : n < 2147483648) : (nI n).toNatClampNeg = n := nI_clamp (by omega)
theorem n_add (a b : Nat) : nI a + nI b = nI (a + b) := nI_add a b
theorem n_mul (a b : Nat) : nI a * nI b = nI (a * b) := pk_mul a b
theorem n_sub {a b : Nat} (h : b ≤ a) : nI a - nI b = nI (a - b) := pk_sub h
theorem gi_n {α : Type} {j n : Nat} {k : Option α} (h : j < n) (hn : n ≤ 2147483648) : gi (nI j) n k = k := by
  unfold gi
  rw [if_pos]
  refine ⟨?_, ?_⟩
  · rw [n_lit 0, n_le (by omega) (by omega)]; omega
  · rw [n_cl (by omega)]; exact h
theorem iI_cl {z : Int} (h1 : -2147483648 ≤ z) (h2 : z < 2147483648) : (iI z).toNatClampNeg = z.toNat := by
  show (iI z).toInt.toNat = z.toNat
  rw [iI_toInt h1 h2]
theorem gi_i {α : Type} {z : Int} {n : Nat} {k : Option α} (h0 : 0 ≤ z) (h : z < n) (hn : n ≤ 2147483648) : gi (iI z) n k = k := by
  unfold gi
  rw [if_pos]
  refine ⟨?_, ?_⟩
  · rw [i_0, iI_le (by omega) (by omega) (by omega) (by omega)]; exact h0
  · rw [iI_cl (by omega) (by omega)]; omega
theorem gz_0 {α : Type} {k : Option α} : gz 0 k = k := by unfold gz; rw [if_pos (Or.inl rfl)]
theorem gz_1 {α : Type} {k : Option α} : gz 1 k = k := by unfold gz; rw [if_pos (Or.inr rfl)]
theorem gz_b {α : Type} {c : Prop} [Decidable c] {k : Option α} : gz (if c then 1 else 0) k = k := by
  by_cases h : c
  · rw [if_pos h]; exact gz_1
  · rw [if_neg h]; exact gz_0
theorem lb_d {α β : Type} (a : α) (k : α → Option β) : lb a k = k a := rfl
theorem b_some {α β : Type} (a : α) (k : α → Option β) : (some a).bind k = k a := rfl
theorem upd_s {f : Nat → Int32} {k : Nat} {x : Int32} : upd f k x k = x := by unfold upd; rw [if_pos rfl]
theorem upd_n {f : Nat → Int32} {k j : Nat} {x : Int32} (h : j ≠ k) : upd f k x j = f j := by unfold upd; rw [if_neg h]
theorem upd_d (f : Nat → Int32) (k j : Nat) (x : Int32) : upd f k x j = if j = k then x else f j := rfl
/-- the long that an int is -/
def lI (z : Int) : Int64 := Int64.ofInt z
theorem lI_toInt {z : Int} (h1 : -9223372036854775808 ≤ z) (h2 : z < 9223372036854775808) : (lI z).toInt = z := Int64.toInt_ofInt_of_le (by simpa using h1) (by simpa using h2)
theorem lI_lit (n : Nat) : (OfNat.ofNat n : Int64) = lI (OfNat.ofNat n) := (Int64.ofInt_eq_ofNat (n := n)).symm
theorem lI_of32 (x : Int32) : Int32.toInt64 x = lI x.toInt := by
  apply Int64.toInt_inj.mp
  rw [Int32.toInt_toInt64, lI_toInt (by have := Int32.le_toInt x; omega) (by have := Int32.toInt_lt x; omega)]
theorem lI_le {a b : Int} (h1 : -9223372036854775808 ≤ a) (h2 : a < 9223372036854775808) (h3 : -9223372036854775808 ≤ b) (h4 : b < 9223372036854775808) : lI a ≤ lI b ↔ a ≤ b := by
  rw [Int64.le_iff_toInt_le, lI_toInt h1 h2, lI_toInt h3 h4]
theorem lI_lt {a b : Int} (h1 : -9223372036854775808 ≤ a) (h2 : a < 9223372036854775808) (h3 : -9223372036854775808 ≤ b) (h4 : b < 9223372036854775808) : lI a < lI b ↔ a < b := by
  rw [Int64.lt_iff_toInt_lt, lI_toInt h1 h2, lI_toInt h3 h4]
theorem lI_eq {a b : Int} (h1 : -9223372036854775808 ≤ a) (h2 : a < 9223372036854775808) (h3 : -9223372036854775808 ≤ b) (h4 : b < 9223372036854775808) : lI a = lI b ↔ a = b := by
  rw [← Int64.toInt_inj, lI_toInt h1 h2, lI_toInt h3 h4]
theorem lcmp_lt (x y : Int64) : (lg_cmp x y) < 0 ↔ x < y := by
  unfold lg_cmp
  by_cases h : x > y
  · rw [if_pos h]
    exact ⟨fun h1 => absurd h1 (by decide), fun h1 => absurd h (Int64.lt_asymm h1)⟩
  · rw [if_neg h]
    by_cases h2 : x = y
    · rw [if_pos h2]
      exact ⟨fun h1 => absurd h1 (by decide), fun h1 => absurd h1 (by rw [h2]; exact Int64.lt_irrefl)⟩
    · rw [if_neg h2]
      exact ⟨fun _ => Int64.lt_of_le_of_ne (Int64.not_lt.mp h) h2, fun _ => by decide⟩
theorem lcmp_gt (x y : Int64) : 0 < (lg_cmp x y) ↔ y < x := by
  unfold lg_cmp
  by_cases h : x > y
  · rw [if_pos h]
    exact ⟨fun _ => h, fun _ => by decide⟩
  · rw [if_neg h]
    by_cases h2 : x = y
    · rw [if_pos h2]
      exact ⟨fun h1 => absurd h1 (by decide), fun h1 => absurd h1 (by rw [h2]; exact Int64.lt_irrefl)⟩
    · rw [if_neg h2]
      exact ⟨fun h1 => absurd h1 (by decide), fun h1 => absurd h1 h⟩
/-- in(v, low, high) of the model -/
theorem X11_in_s (x y z : Int64) : mX11_in x y z = some (if y ≤ x ∧ x ≤ z then 1 else 0) := by
  unfold mX11_in
  by_cases h : x < y
  · rw [if_pos ((lcmp_lt x y).mpr h), if_neg (fun hh => absurd h (Int64.not_lt.mpr hh.1))]
  · rw [if_neg (fun hh => h ((lcmp_lt x y).mp hh))]
    by_cases h2 : z < x
    · rw [if_pos ((lcmp_gt x z).mpr h2), if_neg (fun hh => absurd h2 (Int64.not_lt.mpr hh.2))]
    · rw [if_neg (fun hh => h2 ((lcmp_gt x z).mp hh)), if_pos ⟨Int64.not_lt.mp h, Int64.not_lt.mp h2⟩]
/-- for ints, against whole numbers -/
theorem X11_in_i (x : Int32) (a b : Int) (h1 : -9223372036854775808 ≤ a) (h2 : a < 9223372036854775808) (h3 : -9223372036854775808 ≤ b) (h4 : b < 9223372036854775808) : mX11_in (Int32.toInt64 x) (lI a) (lI b) = some (if a ≤ x.toInt ∧ x.toInt ≤ b then 1 else 0) := by
  have hx := Int32.le_toInt x
  have hx2 := Int32.toInt_lt x
  rw [X11_in_s, lI_of32]
  congr 1
  simp only [lI_le h1 h2 (show -9223372036854775808 ≤ x.toInt by omega) (show x.toInt < 9223372036854775808 by omega), lI_le (show -9223372036854775808 ≤ x.toInt by omega) (show x.toInt < 9223372036854775808 by omega) h3 h4]
theorem X10_within_s (x a b : Int32) : mX10_within x a b = some (if a ≤ x ∧ x ≤ b then 1 else 0) := by
  unfold mX10_within
  by_cases h : x < a
  · rw [if_pos h, if_neg (fun hh => absurd h (Int32.not_lt.mpr hh.1))]
  · rw [if_neg h]
    by_cases h2 : b < x
    · rw [if_pos h2, if_neg (fun hh => absurd h2 (Int32.not_lt.mpr hh.2))]
    · rw [if_neg h2, if_pos ⟨Int32.not_lt.mp h, Int32.not_lt.mp h2⟩]
theorem if10 {α : Type} {c : Prop} [Decidable c] (a b : α) : (if (if c then (1 : Int32) else 0) = 0 then a else b) = if c then b else a := by
  by_cases h : c
  · rw [if_pos h, if_pos h, if_neg (by decide)]
  · rw [if_neg h, if_neg h, if_pos rfl]
theorem toInt_n {n : Nat} (h : n < 2147483648) : (nI n).toInt = n := nI_toInt (by omega)
/-- an int between 0 and a number is a small number -/
theorem n_of {x : Int32} {b : Nat} (h0 : 0 ≤ x.toInt) (h1 : x.toInt < b) : ∃ j : Nat, j < b ∧ x = nI j := ⟨x.toInt.toNat, by omega, by
  rw [nI_iI, Int.toNat_of_nonneg h0]; exact (Int32.ofInt_toInt x).symm⟩
