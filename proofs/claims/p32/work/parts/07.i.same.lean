/-! API I: same -/
def sgN (z : Int) : Nat := if z = 0 then 1 else if z ≤ 0 then 0 else 2
theorem sgN_lt (z : Int) : sgN z < 3 := by unfold sgN; split <;> (try split) <;> omega
theorem sgN_s (z : Int) : sgS z = (sgN z : Int) - 1 := by unfold sgN sgS; split <;> (try split) <;> rfl
theorem sgN_i (z : Int) : iI (sgS z) + (1 : Int32) = nI (sgN z) := by unfold sgN sgS; split <;> (try split) <;> decide
theorem sgS_eq (z w : Int) : (iI (sgS z) = iI (sgS w)) ↔ sgN z = sgN w := by
  have h1 := sgS_in z
  have h2 := sgS_in w
  have h3 := sgN_s z
  have h4 := sgN_s w
  rw [iI_eq (by omega) (by omega) (by omega) (by omega)]
  omega
theorem X11_sign_t {z : Int} (hz : -2147483648 ≤ z ∧ z < 2147483648) : mX11_sign (iI z) = some (iI (sgS z)) := by
  rw [X11_sign_s hz]
  unfold ownS sgS
  by_cases c1 : z = 0
  · subst c1; rfl
  · by_cases c2 : z ≤ 0
    · rw [if_neg c1, if_pos c2]
      (repeat' split) <;> first | rfl | (exfalso; omega)
    · rw [if_neg c1, if_neg c2]
      (repeat' split) <;> first | rfl | (exfalso; omega)
theorem fill_s (x : Int32) (N : Nat) (hN : N < 4096) (f : Nat → Int32) : mJ7_fill_53178 N x f = some (fun k => if k < N then x else f k) := by
  have key : ∀ (d i n : Nat), i + d = N → d < n → mJ7_fill_53178_L5 N x n (nI i) (nI N) (fun k => if k < i then x else f k) = some (fun k => if k < N then x else f k) := by
    intro d
    induction d with
    | zero =>
      intro i n hi hn
      obtain ⟨n, rfl⟩ : ∃ q, n = q + 1 := ⟨n - 1, by omega⟩
      rw [eJ7_fill_53178_5]
      unfold mJ7_fill_53178_B5
      rw [if_pos ((n_le (by omega) (by omega)).mpr (by omega)), show i = N by omega]
    | succ d ih =>
      intro i n hi hn
      obtain ⟨n, rfl⟩ : ∃ q, n = q + 1 := ⟨n - 1, by omega⟩
      rw [eJ7_fill_53178_5]
      unfold mJ7_fill_53178_B5
      rw [if_neg (fun hh => absurd ((n_le (by omega) (by omega)).mp hh) (by omega))]
      simp only [gi_n (show i < N by omega) (show N ≤ 2147483648 by omega), lb_d, n_cl (show i < 2147483648 by omega), n_lit 1, n_add]
      have e : upd (fun k => if k < i then x else f k) i x = (fun k => if k < i + 1 then x else f k) := by
        funext k
        rw [upd_d]
        by_cases h : k = i
        · rw [if_pos h, if_pos (by omega)]
        · rw [if_neg h]
          by_cases h2 : k < i
          · rw [if_pos h2, if_pos (by omega)]
          · rw [if_neg h2, if_neg (by omega)]
      rw [e]
      exact ih (i + 1) n (by omega) (by omega)
  unfold mJ7_fill_53178
  rw [lb_d, n_lit 0]
  have h := key N 0 FUEL (by omega) (by unfold FUEL; omega)
  have e0 : (fun k => if k < 0 then x else f k) = f := by funext k; rw [if_neg (by omega)]
  rw [e0] at h
  exact h
def okT (tv : Nat → Int) (m mt : Nat → Int32) : Prop := ∀ k, k < 144 → (-21 ≤ tv k ∧ tv k ≤ 20) ∧ m k = iI (tv k) ∧ mt k = iI (tv k)
theorem okT_of {d m o md mt mo : Nat → Int32} (h : NR d m o md mt mo 0) : ∃ tv, okT tv m mt := by
  refine ⟨fun k => if h9 : k < 144 then (h.2.1 k h9).choose else 0, fun k hk => ?_⟩
  have h8 := (h.2.1 k hk).choose_spec
  simp only [dif_pos hk]
  exact ⟨⟨h8.1, h8.2.1⟩, h8.2.2.1, (congrArg mt (show k = 144 * 0 + k by omega)).trans h8.2.2.2⟩
theorem X5_toldOf_s {tv : Nat → Int} {m mt : Nat → Int32} (h : okT tv m mt) {p i : Nat} (hp : p ≤ 5) (hi : i < 24) : mX5_toldOf (nI p) (nI i) m = some (iI (tv (24 * p + i))) := by
  unfold mX5_toldOf
  rw [n_lit 24, n_mul, n_add]
  simp only [gi_n (show p * 24 + i < 144 by omega) (show 144 ≤ 2147483648 by omega), lb_d, n_cl (show p * 24 + i < 2147483648 by omega)]
  rw [show p * 24 + i = 24 * p + i by omega, (h _ (by omega)).2.1]
theorem X11_toldOf_s {tv : Nat → Int} {m mt : Nat → Int32} (h : okT tv m mt) {p i : Nat} (hp : p ≤ 5) (hi : i < 24) : mX11_toldOf (nI p) (nI i) mt = some (iI (tv (24 * p + i))) := by
  unfold mX11_toldOf
  rw [n_lit 24, n_mul, n_add]
  simp only [gi_n (show 24 * p + i < 432 by omega) (show 432 ≤ 2147483648 by omega), lb_d, n_cl (show 24 * p + i < 2147483648 by omega)]
  rw [(h _ (by omega)).2.2]
theorem i_m21 : (-21 : Int32) = iI (-21) := by decide
theorem X5_isTold_s {tv : Nat → Int} {m mt : Nat → Int32} (h : okT tv m mt) {p i : Nat} (hp : p ≤ 5) (hi : i < 24) : mX5_isTold (nI p) (nI i) m = some (if tv (24 * p + i) = -21 then 0 else 1) := by
  have hb := (h (24 * p + i) (by omega)).1
  unfold mX5_isTold
  rw [X5_toldOf_s h hp hi, b_some, i_m21]
  by_cases c : tv (24 * p + i) = -21
  · rw [if_pos c, if_pos (by rw [c])]
  · rw [if_neg c, if_neg (fun hh => c ((iI_eq (by omega) (by omega) (by omega) (by omega)).mp hh))]
def gSg (tv : Nat → Int) (p q j k : Nat) : Nat := if tv (24 * p + k) = -21 ∨ tv (24 * q + k) = -21 then 0 else if sgN (tv (24 * p + k)) = j then 1 else 0
def gBo (tv : Nat → Int) (p q k : Nat) : Nat := if tv (24 * p + k) = -21 ∨ tv (24 * q + k) = -21 then 0 else 1
def gEq (tv : Nat → Int) (p q k : Nat) : Nat := if tv (24 * p + k) = -21 ∨ tv (24 * q + k) = -21 then 0 else if sgN (tv (24 * p + k)) = sgN (tv (24 * q + k)) then 1 else 0
theorem X9_alike_s {tv : Nat → Int} {m mt : Nat → Int32} (h : okT tv m mt) {p q : Nat} (hp : p ≤ 5) (hq : q ≤ 5) (x2 : Int32) : ∀ (d i n b e : Nat) (f1 f2 : Nat → Int32) (a1 a2 : Nat → Nat), i + d = 24 → d < n → (∀ j, j < 3 → f1 j = nI (a1 j)) → (∀ j, j < 3 → f2 j = nI (a2 j)) → ∃ g1 g2 : Nat → Int32, (∀ j, j < 3 → g1 j = nI (a1 j + sF (gSg tv p q j) i d)) ∧ (∀ j, j < 3 → g2 j = nI (a2 j + sF (gSg tv q p j) i d)) ∧ mX9_alike_L25 (nI p) (nI q) x2 m n (nI b) (nI e) (nI i) f1 f2 = (if x2 = 2 then ((mX9_byChance (nI (b + sF (gBo tv p q) i d)) g1 g2).bind fun o_8 => some (o_8, g1, g2)) else (if x2 = 0 then (some (nI (e + sF (gEq tv p q) i d), g1, g2)) else (some (nI (b + sF (gBo tv p q) i d), g1, g2)))) := by
  intro d
  induction d with
  | zero =>
    intro i n b e f1 f2 a1 a2 hi hn h1 h2
    obtain ⟨n, rfl⟩ : ∃ q, n = q + 1 := ⟨n - 1, by omega⟩
    refine ⟨f1, f2, h1, h2, ?_⟩
    rw [eX9_alike_25]
    unfold mX9_alike_B25
    rw [n_lit 24, if_pos ((n_le (by omega) (by omega)).mpr (by omega))]
    rfl
  | succ d ih =>
    intro i n b e f1 f2 a1 a2 hi hn h1 h2
    obtain ⟨n, rfl⟩ : ∃ q, n = q + 1 := ⟨n - 1, by omega⟩
    have z1 := (h (24 * p + i) (by omega)).1
    have z2 := (h (24 * q + i) (by omega)).1
    rw [eX9_alike_25]
    unfold mX9_alike_B25
    rw [n_lit 24, if_neg (fun hh => absurd ((n_le (by omega) (by omega)).mp hh) (by omega)), X5_isTold_s h hp (by omega), b_some]
    have skip : (tv (24 * p + i) = -21 ∨ tv (24 * q + i) = -21) → ∃ g1 g2 : Nat → Int32, (∀ j, j < 3 → g1 j = nI (a1 j + sF (gSg tv p q j) i (d + 1))) ∧ (∀ j, j < 3 → g2 j = nI (a2 j + sF (gSg tv q p j) i (d + 1))) ∧ mX9_alike_L25 (nI p) (nI q) x2 m n (nI b) (nI e) (nI (i + 1)) f1 f2 = (if x2 = 2 then ((mX9_byChance (nI (b + sF (gBo tv p q) i (d + 1))) g1 g2).bind fun o_8 => some (o_8, g1, g2)) else (if x2 = 0 then (some (nI (e + sF (gEq tv p q) i (d + 1)), g1, g2)) else (some (nI (b + sF (gBo tv p q) i (d + 1)), g1, g2)))) := by
      intro c
      have e1 : ∀ j, sF (gSg tv p q j) i (d + 1) = sF (gSg tv p q j) (i + 1) d := fun j => by
        show gSg tv p q j i + _ = _
        unfold gSg
        rw [if_pos c, Nat.zero_add]
      have e2 : ∀ j, sF (gSg tv q p j) i (d + 1) = sF (gSg tv q p j) (i + 1) d := fun j => by
        show gSg tv q p j i + _ = _
        unfold gSg
        rw [if_pos c.symm, Nat.zero_add]
      have e3 : sF (gBo tv p q) i (d + 1) = sF (gBo tv p q) (i + 1) d := by
        show gBo tv p q i + _ = _
        unfold gBo
        rw [if_pos c, Nat.zero_add]
      have e4 : sF (gEq tv p q) i (d + 1) = sF (gEq tv p q) (i + 1) d := by
        show gEq tv p q i + _ = _
        unfold gEq
        rw [if_pos c, Nat.zero_add]
      rw [e3, e4]
      simp only [e1, e2]
      exact ih (i + 1) n b e f1 f2 a1 a2 (by omega) (by omega) h1 h2
    by_cases c1 : tv (24 * p + i) = -21
    · rw [if_pos c1, if_pos rfl, n_lit 1, n_add, lb_d]
      exact skip (Or.inl c1)
    · rw [if_neg c1, if_neg (show ¬ (1 : Int32) = 0 by decide), X5_isTold_s h hq (by omega), b_some]
      by_cases c2 : tv (24 * q + i) = -21
      · rw [if_pos c2, if_pos rfl, n_lit 1, n_add, lb_d]
        exact skip (Or.inr c2)
      · rw [if_neg c2, if_neg (show ¬ (1 : Int32) = 0 by decide), X5_toldOf_s h hp (by omega), b_some, X10_signOf_s (by omega) (by omega), b_some, X5_toldOf_s h hq (by omega), b_some, X10_signOf_s (by omega) (by omega), b_some]
        have c : ¬ (tv (24 * p + i) = -21 ∨ tv (24 * q + i) = -21) := by omega
        have c' : ¬ (tv (24 * q + i) = -21 ∨ tv (24 * p + i) = -21) := by omega
        have l1 := sgN_lt (tv (24 * p + i))
        have l2 := sgN_lt (tv (24 * q + i))
        unfold mX9_alike_B105
        simp only [sgN_i, gi_n (show sgN (tv (24 * p + i)) < 3 by omega) (show 3 ≤ 2147483648 by omega), gi_n (show sgN (tv (24 * q + i)) < 3 by omega) (show 3 ≤ 2147483648 by omega), lb_d, n_cl (show sgN (tv (24 * p + i)) < 2147483648 by omega), n_cl (show sgN (tv (24 * q + i)) < 2147483648 by omega), sgS_eq, h1 _ l1, h2 _ l2]
        simp only [n_lit 1, n_add]
        obtain ⟨g1, g2, k1, k2, k3⟩ := ih (i + 1) n (b + 1) (e + if sgN (tv (24 * p + i)) = sgN (tv (24 * q + i)) then 1 else 0) (upd f1 (sgN (tv (24 * p + i))) (nI (a1 (sgN (tv (24 * p + i))) + 1))) (upd f2 (sgN (tv (24 * q + i))) (nI (a2 (sgN (tv (24 * q + i))) + 1))) (fun j => a1 j + gSg tv p q j i) (fun j => a2 j + gSg tv q p j i) (by omega) (by omega) (fun j hj => by
          rw [upd_d]
          unfold gSg
          rw [if_neg c]
          by_cases c3 : j = sgN (tv (24 * p + i))
          · rw [if_pos c3, if_pos c3.symm, c3]
          · rw [if_neg c3, if_neg (fun hh => c3 hh.symm), Nat.add_zero, h1 j hj]) (fun j hj => by
          rw [upd_d]
          unfold gSg
          rw [if_neg c']
          by_cases c3 : j = sgN (tv (24 * q + i))
          · rw [if_pos c3, if_pos c3.symm, c3]
          · rw [if_neg c3, if_neg (fun hh => c3 hh.symm), Nat.add_zero, h2 j hj])
        refine ⟨g1, g2, fun j hj => (k1 j hj).trans (by rw [Nat.add_assoc]; rfl), fun j hj => (k2 j hj).trans (by rw [Nat.add_assoc]; rfl), ?_⟩
        have e3 : sF (gBo tv p q) i (d + 1) = 1 + sF (gBo tv p q) (i + 1) d := by
          show gBo tv p q i + _ = _
          unfold gBo
          rw [if_neg c]
        have e4 : sF (gEq tv p q) i (d + 1) = (if sgN (tv (24 * p + i)) = sgN (tv (24 * q + i)) then 1 else 0) + sF (gEq tv p q) (i + 1) d := by
          show gEq tv p q i + _ = _
          unfold gEq
          rw [if_neg c]
        rw [e3, e4, ← Nat.add_assoc, ← Nat.add_assoc, ← k3]
        by_cases c3 : sgN (tv (24 * p + i)) = sgN (tv (24 * q + i))
        · simp only [if_pos c3]
        · simp only [if_neg c3, n_lit 0, n_add]
theorem X11_signsOf_s {tv : Nat → Int} {m mt : Nat → Int32} (h : okT tv m mt) {p q j : Nat} (hp : p ≤ 5) (hq : q ≤ 5) (hj : j < 3) : mX11_signsOf (nI p) (nI q) (iI ((j : Int) - 1)) mt = some (nI (sF (gSg tv p q j) 0 24)) := by
  have key : ∀ (d i n a : Nat), i + d = 24 → d < n → mX11_signsOf_L6 (nI p) (nI q) (iI ((j : Int) - 1)) mt n (nI a) (nI i) = some (nI (a + sF (gSg tv p q j) i d)) := by
    intro d
    induction d with
    | zero =>
      intro i n a hi hn
      obtain ⟨n, rfl⟩ : ∃ q, n = q + 1 := ⟨n - 1, by omega⟩
      rw [eX11_signsOf_6]
      unfold mX11_signsOf_B6
      rw [n_lit 24, if_pos ((n_le (by omega) (by omega)).mpr (by omega))]
      rfl
    | succ d ih =>
      intro i n a hi hn
      obtain ⟨n, rfl⟩ : ∃ q, n = q + 1 := ⟨n - 1, by omega⟩
      have z1 := (h (24 * p + i) (by omega)).1
      have z2 := (h (24 * q + i) (by omega)).1
      rw [eX11_signsOf_6]
      unfold mX11_signsOf_B6 mX11_signsOf_B41
      rw [n_lit 24, if_neg (fun hh => absurd ((n_le (by omega) (by omega)).mp hh) (by omega)), X11_toldOf_s h hp (by omega), b_some, X11_toldOf_s h hq (by omega), b_some, i_m21]
      show _ = some (nI (a + (gSg tv p q j i + sF (gSg tv p q j) (i + 1) d)))
      rw [← Nat.add_assoc]
      have skip : (tv (24 * p + i) = -21 ∨ tv (24 * q + i) = -21) → mX11_signsOf_B42 (nI p) (nI q) (iI ((j : Int) - 1)) mt (mX11_signsOf_L6 (nI p) (nI q) (iI ((j : Int) - 1)) mt n) (nI a) (nI i) 0 = some (nI (a + gSg tv p q j i + sF (gSg tv p q j) (i + 1) d)) := by
        intro c
        unfold mX11_signsOf_B42 gSg
        rw [if_pos rfl, if_pos c, n_lit 0, n_lit 1, n_add, n_add, lb_d, lb_d]
        exact ih (i + 1) n (a + 0) (by omega) (by omega)
      by_cases c1 : tv (24 * p + i) = -21
      · rw [if_pos ((iI_le (by omega) (by omega) (by omega) (by omega)).mpr (by omega))]
        exact skip (Or.inl c1)
      · rw [if_neg (fun hh => absurd ((iI_le (by omega) (by omega) (by omega) (by omega)).mp hh) (by omega))]
        by_cases c2 : tv (24 * q + i) = -21
        · rw [if_pos ((iI_le (by omega) (by omega) (by omega) (by omega)).mpr (by omega))]
          exact skip (Or.inr c2)
        · rw [if_neg (fun hh => absurd ((iI_le (by omega) (by omega) (by omega) (by omega)).mp hh) (by omega))]
          have c : ¬ (tv (24 * p + i) = -21 ∨ tv (24 * q + i) = -21) := by omega
          unfold mX11_signsOf_B42 gSg
          rw [if_neg (show ¬ (1 : Int32) = 0 by decide), if_neg c, X11_toldOf_s h hp (by omega), b_some, X11_sign_t (by omega), b_some]
          have h3 := sgN_s (tv (24 * p + i))
          have l1 := sgN_lt (tv (24 * p + i))
          by_cases c3 : sgN (tv (24 * p + i)) = j
          · rw [if_pos ((iI_eq (by omega) (by omega) (by omega) (by omega)).mpr (by omega)), if_pos c3, n_lit 1, n_add, n_add, lb_d, lb_d]
            exact ih (i + 1) n (a + 1) (by omega) (by omega)
          · rw [if_neg (fun hh => c3 (by have := (iI_eq (by omega) (by omega) (by omega) (by omega)).mp hh; omega)), if_neg c3, n_lit 0, n_lit 1, n_add, n_add, lb_d, lb_d]
            exact ih (i + 1) n (a + 0) (by omega) (by omega)
  unfold mX11_signsOf
  rw [n_lit 0]
  have h9 := key 24 0 FUEL 0 (by omega) (by unfold FUEL; omega)
  rw [Nat.zero_add] at h9
  exact h9
theorem X9_alike_t {tv : Nat → Int} {m mt : Nat → Int32} (h : okT tv m mt) {p q : Nat} (hp : p ≤ 5) (hq : q ≤ 5) (x2 : Int32) (f1 f2 : Nat → Int32) : ∃ g1 g2 : Nat → Int32, (∀ j, j < 3 → g1 j = nI (sF (gSg tv p q j) 0 24)) ∧ (∀ j, j < 3 → g2 j = nI (sF (gSg tv q p j) 0 24)) ∧ mX9_alike (nI p) (nI q) x2 f1 f2 m = (if x2 = 2 then ((mX9_byChance (nI (sF (gBo tv p q) 0 24)) g1 g2).bind fun o_8 => some (o_8, g1, g2)) else (if x2 = 0 then (some (nI (sF (gEq tv p q) 0 24), g1, g2)) else (some (nI (sF (gBo tv p q) 0 24), g1, g2)))) := by
  obtain ⟨g1, g2, k1, k2, k3⟩ := X9_alike_s h hp hq x2 24 0 FUEL 0 0 (fun k => if k < 3 then 0 else f1 k) (fun k => if k < 3 then 0 else f2 k) (fun _ => 0) (fun _ => 0) (by omega) (by unfold FUEL; omega) (fun j hj => by rw [if_pos hj]; rfl) (fun j hj => by rw [if_pos hj]; rfl)
  simp only [Nat.zero_add] at k1 k2 k3
  refine ⟨g1, g2, k1, k2, ?_⟩
  unfold mX9_alike
  rw [fill_s 0 3 (by omega), fill_s 0 3 (by omega), b_some, b_some, n_lit 0]
  exact k3
theorem X11_same_s {tv : Nat → Int} {m mt : Nat → Int32} (h : okT tv m mt) {p q : Nat} (hp : p ≤ 5) (hq : q ≤ 5) (x2 : Int32) : mX11_same_L42 (nI p) (nI q) x2 mt FUEL 0 0 0 = (if 2 ≤ x2 then (mX11_same_L162 (nI p) (nI q) x2 mt FUEL (nI (sF (gBo tv p q) 0 24)) 0 (-1)) else (if x2 = 0 then (some (nI (sF (gEq tv p q) 0 24))) else (some (nI (sF (gBo tv p q) 0 24))))) := by
  have key : ∀ (d i n b e : Nat), i + d = 24 → d < n → mX11_same_L42 (nI p) (nI q) x2 mt n (nI b) (nI e) (nI i) = (if 2 ≤ x2 then (mX11_same_L162 (nI p) (nI q) x2 mt FUEL (nI (b + sF (gBo tv p q) i d)) 0 (-1)) else (if x2 = 0 then (some (nI (e + sF (gEq tv p q) i d))) else (some (nI (b + sF (gBo tv p q) i d))))) := by
    intro d
    induction d with
    | zero =>
      intro i n b e hi hn
      obtain ⟨n, rfl⟩ : ∃ q, n = q + 1 := ⟨n - 1, by omega⟩
      rw [eX11_same_42]
      unfold mX11_same_B42
      rw [n_lit 24, if_pos ((n_le (by omega) (by omega)).mpr (by omega))]
      rfl
    | succ d ih =>
      intro i n b e hi hn
      obtain ⟨n, rfl⟩ : ∃ q, n = q + 1 := ⟨n - 1, by omega⟩
      have z1 := (h (24 * p + i) (by omega)).1
      have z2 := (h (24 * q + i) (by omega)).1
      have e3 : sF (gBo tv p q) i (d + 1) = gBo tv p q i + sF (gBo tv p q) (i + 1) d := rfl
      have e4 : sF (gEq tv p q) i (d + 1) = gEq tv p q i + sF (gEq tv p q) (i + 1) d := rfl
      rw [eX11_same_42, e3, e4, ← Nat.add_assoc, ← Nat.add_assoc]
      unfold mX11_same_B42 mX11_same_B77
      rw [n_lit 24, if_neg (fun hh => absurd ((n_le (by omega) (by omega)).mp hh) (by omega)), X11_toldOf_s h hp (by omega), b_some, X11_toldOf_s h hq (by omega), b_some, i_m21]
      have skip : (tv (24 * p + i) = -21 ∨ tv (24 * q + i) = -21) → mX11_same_B78 (nI p) (nI q) x2 mt (mX11_same_L42 (nI p) (nI q) x2 mt n) (nI b) (nI e) (nI i) 0 = (if 2 ≤ x2 then (mX11_same_L162 (nI p) (nI q) x2 mt FUEL (nI (b + gBo tv p q i + sF (gBo tv p q) (i + 1) d)) 0 (-1)) else (if x2 = 0 then (some (nI (e + gEq tv p q i + sF (gEq tv p q) (i + 1) d))) else (some (nI (b + gBo tv p q i + sF (gBo tv p q) (i + 1) d))))) := by
        intro c
        unfold mX11_same_B78 mX11_same_B92 gBo gEq
        rw [if_pos rfl, lb_d, if_pos rfl, if_pos c, if_pos c, n_lit 0, n_lit 1, n_add, n_add, n_add, lb_d, lb_d]
        exact ih (i + 1) n (b + 0) (e + 0) (by omega) (by omega)
      by_cases c1 : tv (24 * p + i) = -21
      · rw [if_pos ((iI_le (by omega) (by omega) (by omega) (by omega)).mpr (by omega))]
        exact skip (Or.inl c1)
      · rw [if_neg (fun hh => absurd ((iI_le (by omega) (by omega) (by omega) (by omega)).mp hh) (by omega))]
        by_cases c2 : tv (24 * q + i) = -21
        · rw [if_pos ((iI_le (by omega) (by omega) (by omega) (by omega)).mpr (by omega))]
          exact skip (Or.inr c2)
        · rw [if_neg (fun hh => absurd ((iI_le (by omega) (by omega) (by omega) (by omega)).mp hh) (by omega))]
          have c : ¬ (tv (24 * p + i) = -21 ∨ tv (24 * q + i) = -21) := by omega
          unfold mX11_same_B78 mX11_same_B92 gBo gEq
          rw [if_neg (show ¬ (1 : Int32) = 0 by decide), lb_d, if_neg (show ¬ (1 : Int32) = 0 by decide), if_neg c, if_neg c, X11_toldOf_s h hp (by omega), b_some, X11_sign_t (by omega), b_some, X11_toldOf_s h hq (by omega), b_some, X11_sign_t (by omega), b_some]
          by_cases c3 : sgN (tv (24 * p + i)) = sgN (tv (24 * q + i))
          · rw [if_pos ((sgS_eq _ _).mpr c3), if_pos c3, n_lit 1, n_add, n_add, n_add, lb_d, lb_d]
            exact ih (i + 1) n (b + 1) (e + 1) (by omega) (by omega)
          · rw [if_neg (fun hh => c3 ((sgS_eq _ _).mp hh)), if_neg c3, n_lit 0, n_lit 1, n_add, n_add, n_add, lb_d, lb_d]
            exact ih (i + 1) n (b + 1) (e + 0) (by omega) (by omega)
  have h9 := key 24 0 FUEL 0 0 (by omega) (by unfold FUEL; omega)
  rw [Nat.zero_add, Nat.zero_add] at h9
  exact h9
set_option maxRecDepth 100000 in
theorem api_same {c_text_length : Int32} {c_text_bytes : Nat → Int32} {c_laid_rounds : Int32} {c_laid_home : Int32} {c_laid_noise : Int32} {c_laid_blowCount : Int32} {c_laid_judgeCount : Int32} {c_laid_blows : Nat → Int32} {c_laid_judges : Nat → Int32} {c_laid_forward : Nat → Int32} {c_laid_downs : Nat → Int32} {c_laid_taken : Nat → Int32} {c_laid_seenBy : Nat → Int32} {c_laid_sums : Nat → Int32} {c_laid_leads : Nat → Int32} {c_bench_watchers : Nat → Int32} {c_notes_delays : Nat → Int32} {c_notes_margins : Nat → Int32} {c_notes_odds : Nat → Int32} {c_kept_0_delays : Nat → Int32} {c_kept_0_margins : Nat → Int32} {c_kept_0_odds : Nat → Int32} {c_kept_1_delays : Nat → Int32} {c_kept_1_margins : Nat → Int32} {c_kept_1_odds : Nat → Int32} {c_keptCount : Int32} {m_length : Int32} {m_text : Nat → Int32} {m_roundMany : Nat → Int32} {m_blowMany : Nat → Int32} {m_blows : Nat → Int32} {m_forwards : Nat → Int32} {m_downs : Nat → Int32} {m_takens : Nat → Int32} {m_homes : Nat → Int32} {m_noises : Nat → Int32} {m_judgeMany : Nat → Int32} {m_judges : Nat → Int32} {m_delays : Nat → Int32} {m_tolds : Nat → Int32} {m_tens : Nat → Int32} {m_keptMany : Int32} (x0 : Int32) (x1 : Int32) (x2 : Int32) (c_told_ofOne : Nat → Int32) (c_told_ofOther : Nat → Int32) (hR : RR c_text_length c_text_bytes c_laid_rounds c_laid_home c_laid_noise c_laid_blowCount c_laid_judgeCount c_laid_blows c_laid_judges c_laid_forward c_laid_downs c_laid_taken c_laid_seenBy c_laid_sums c_laid_leads c_bench_watchers c_notes_delays c_notes_margins c_notes_odds c_kept_0_delays c_kept_0_margins c_kept_0_odds c_kept_1_delays c_kept_1_margins c_kept_1_odds c_keptCount m_length m_text m_roundMany m_blowMany m_blows m_forwards m_downs m_takens m_homes m_noises m_judgeMany m_judges m_delays m_tolds m_tens m_keptMany) : ∃ (oc : Int32 × (Nat → Int32) × (Nat → Int32)) (om : Int32), mX10_same x0 x1 x2 c_notes_margins c_told_ofOne c_told_ofOther = some oc ∧ mX11_same x0 x1 x2 m_tolds = some om ∧ oc.1 = om := by
  obtain ⟨hT, hF, hW, K, hK, rfl, rfl, h0, h1, h2⟩ := hR
  obtain ⟨tv, h⟩ := okT_of h0
  unfold mX10_same mX11_same
  rw [X11_isName_s, X10_isName_s, b_some, b_some, if10, if10, X11_isName_s, X10_isName_s, b_some, b_some, if10, if10]
  by_cases c1 : (0 : Int32) ≤ x0 ∧ x0 ≤ 5
  · rw [if_pos c1, if_pos c1]
    by_cases c2 : (0 : Int32) ≤ x1 ∧ x1 ≤ 5
    · rw [if_pos c2, if_pos c2]
      by_cases c3 : x0 = x1
      · rw [if_pos c3, if_pos c3]
        exact ⟨_, _, rfl, rfl, rfl⟩
      · rw [if_neg c3, if_neg c3, in_wl 0 2 (by decide) (by decide), X10_within_s, b_some, b_some, if10, if10]
        by_cases c4 : (0 : Int32) ≤ x2 ∧ x2 ≤ 2
        · rw [if_pos c4, if_pos c4]
          obtain ⟨p, hp, rfl⟩ := w_n (b := 5) (by omega) c1
          obtain ⟨q, hq, rfl⟩ := w_n (b := 5) (by omega) c2
          obtain ⟨t, ht, rfl⟩ := w_n (b := 2) (by omega) c4
          obtain ⟨g1, g2, k1, k2, k3⟩ := X9_alike_t h hp hq (nI t) c_told_ofOne c_told_ofOther
          rw [k3, X11_same_s h hp hq]
          rcases (show t = 0 ∨ t = 1 ∨ t = 2 by omega) with rfl | rfl | rfl
          · exact ⟨_, _, rfl, rfl, rfl⟩
          · exact ⟨_, _, rfl, rfl, rfl⟩
          · rw [if_pos (show nI 2 = (2 : Int32) from rfl), if_pos (show (2 : Int32) ≤ nI 2 by decide)]
            have u0 := X11_signsOf_s h hp hq (show 0 < 3 by omega)
            have u1 := X11_signsOf_s h hp hq (show 1 < 3 by omega)
            have u2 := X11_signsOf_s h hp hq (show 2 < 3 by omega)
            have w0 := X11_signsOf_s h hq hp (show 0 < 3 by omega)
            have w1 := X11_signsOf_s h hq hp (show 1 < 3 by omega)
            have w2 := X11_signsOf_s h hq hp (show 2 < 3 by omega)
            have e0 : iI (((0 : Nat) : Int) - 1) = (-1 : Int32) := by decide
            have e1 : iI (((1 : Nat) : Int) - 1) = (-1 : Int32) + 1 := by decide
            have e2 : iI (((2 : Nat) : Int) - 1) = (-1 : Int32) + 1 + 1 := by decide
            rw [e0] at u0 w0
            rw [e1] at u1 w1
            rw [e2] at u2 w2
            have E : mX11_same_L162 (nI p) (nI q) (nI 2) m_tolds FUEL (nI (sF (gBo tv p q) 0 24)) 0 (-1) = (mX9_byChance (nI (sF (gBo tv p q) 0 24)) g1 g2) := by
              rw [show FUEL = 4092 + 1 + 1 + 1 + 1 from rfl, eX11_same_162]
              unfold mX11_same_B162
              rw [if_neg (by decide), u0, b_some, w0, b_some, lb_d, lb_d, eX11_same_162]
              unfold mX11_same_B162
              rw [if_neg (by decide), u1, b_some, w1, b_some, lb_d, lb_d, eX11_same_162]
              unfold mX11_same_B162
              rw [if_neg (by decide), u2, b_some, w2, b_some, lb_d, lb_d, eX11_same_162]
              unfold mX11_same_B162 mX9_byChance
              rw [if_pos (by decide)]
              have s0 : Int32.toNatClampNeg 0 = 0 := by decide
              have s1 : Int32.toNatClampNeg 1 = 1 := by decide
              have s2 : Int32.toNatClampNeg 2 = 2 := by decide
              rw [s0, s1, s2, k1 0 (by omega), k1 1 (by omega), k1 2 (by omega), k2 0 (by omega), k2 1 (by omega), k2 2 (by omega), n_mul, n_mul, n_mul, n_lit 0, n_add, n_add, n_add, n_add, n_add, Nat.zero_add]
            rw [E]
            unfold mX9_byChance
            by_cases c5 : nI (sF (gBo tv p q) 0 24) = 0
            · rw [if_pos c5]
              exact ⟨_, _, rfl, rfl, rfl⟩
            · rw [if_neg c5]
              unfold gd
              rw [if_pos c5]
              exact ⟨_, _, rfl, rfl, rfl⟩
        · rw [if_neg c4, if_neg c4]
          exact ⟨_, _, rfl, rfl, rfl⟩
    · rw [if_neg c2, if_neg c2]
      exact ⟨_, _, rfl, rfl, rfl⟩
  · rw [if_neg c1, if_neg c1]
    exact ⟨_, _, rfl, rfl, rfl⟩
