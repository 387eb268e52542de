/-! GAME: open cards as a game round by round -/
def rvN (t L R : Nat) : Nat := (t * L + (10 - t) * R) / 10
theorem rvN_le {t L R : Nat} (ht : t ≤ 10) (hL : L ≤ 1000000) (hR : R ≤ 1000000) : rvN t L R ≤ 1000000 := by
  unfold rvN
  have h1 : t * L ≤ t * 1000000 := Nat.mul_le_mul_left _ hL
  have h2 : (10 - t) * R ≤ (10 - t) * 1000000 := Nat.mul_le_mul_left _ hR
  omega
theorem rvN_t {t L R : Nat} (ht : t ≤ 10) (hL : L ≤ 1000000) (hR : R ≤ 1000000) : t * L + (10 - t) * R ≤ 10000000 := by
  have h1 : t * L ≤ t * 1000000 := Nat.mul_le_mul_left _ hL
  have h2 : (10 - t) * R ≤ (10 - t) * 1000000 := Nat.mul_le_mul_left _ hR
  omega
def endV (m : Int) : Nat := if m < 0 then 0 else if m = 0 then 500000 else 1000000
theorem endV_le (m : Int) : endV m ≤ 1000000 := by unfold endV; split <;> (try split) <;> omega
/-- the value of the game with so many rounds left at a margin, by a round's rule -/
def Vv (g : Nat → Nat → Nat) : Nat → Int → Nat
  | 0, m => endV m
  | l + 1, m => g (Vv g l (m + 1)) (Vv g l (m - 1))
def okG (g : Nat → Nat → Nat) : Prop := ∀ L R, L ≤ 1000000 → R ≤ 1000000 → g L R ≤ 1000000
theorem Vv_le {g : Nat → Nat → Nat} (hg : okG g) : ∀ l m, Vv g l m ≤ 1000000 := by
  intro l
  induction l with
  | zero => intro m; exact endV_le m
  | succ l ih => intro m; exact hg _ _ (ih _) (ih _)
/-- the same over places 0 to 50 -/
def Vx (g : Nat → Nat → Nat) : Nat → Nat → Nat
  | 0, k => endV ((k : Int) - 25)
  | l + 1, k => if 1 ≤ k ∧ k < 50 then g (Vx g l (k + 1)) (Vx g l (k - 1)) else Vx g l k
theorem Vx_le {g : Nat → Nat → Nat} (hg : okG g) : ∀ l k, Vx g l k ≤ 1000000 := by
  intro l
  induction l with
  | zero => intro m; exact endV_le _
  | succ l ih =>
    intro k
    unfold Vx
    split
    · exact hg _ _ (ih _) (ih _)
    · exact ih _
theorem Vx_s (g : Nat → Nat → Nat) : ∀ l k, l ≤ k → k + l ≤ 50 → Vx g l k = Vv g l ((k : Int) - 25) := by
  intro l
  induction l with
  | zero => intro k _ _; rfl
  | succ l ih =>
    intro k h1 h2
    unfold Vx Vv
    rw [if_pos (by omega), ih (k + 1) (by omega) (by omega), ih (k - 1) (by omega) (by omega), show ((k + 1 : Nat) : Int) - 25 = (k : Int) - 25 + 1 by omega, show ((k - 1 : Nat) : Int) - 25 = (k : Int) - 25 - 1 by omega]
/-- who answers, who is held -/
def ansN (t : Nat → Nat) (z L R : Nat) : Nat := if rvN (t (2 * z)) L R ≤ rvN (t (2 * z + 1)) L R then 0 else 1
def ansV (t : Nat → Nat) (z L R : Nat) : Nat := rvN (t (2 * z + ansN t z L R)) L R
def choN (t : Nat → Nat) (L R : Nat) : Nat := if ansV t 1 L R ≤ ansV t 0 L R then 0 else 1
def choV (t : Nat → Nat) (L R : Nat) : Nat := ansV t (choN t L R) L R
theorem ansN_le (t : Nat → Nat) (z L R : Nat) : ansN t z L R ≤ 1 := by unfold ansN; split <;> omega
theorem choN_le (t : Nat → Nat) (L R : Nat) : choN t L R ≤ 1 := by unfold choN; split <;> omega
theorem choV_ok {t : Nat → Nat} (ht : ∀ k, k < 4 → t k ≤ 10) : okG (choV t) := by
  intro L R hL hR
  unfold choV ansV
  exact rvN_le (ht _ (by have := ansN_le t (choN t L R) L R; have := choN_le t L R; omega)) hL hR
theorem rvN_ok {t : Nat} (ht : t ≤ 10) : okG (rvN t) := fun _ _ hL hR => rvN_le ht hL hR
theorem X4_roundValue_s {t L R : Nat} (ht : t ≤ 10) (hL : L ≤ 1000000) (hR : R ≤ 1000000) : mX4_roundValue (nI t) (nI L) (nI R) = some (nI (rvN t L R)) := by
  have h := rvN_t ht hL hR
  unfold mX4_roundValue
  rw [n_lit 10, n_sub (by omega), n_mul, n_mul, n_add, pk_div (by omega) (by omega) (by omega), lb_d]
  rfl
theorem X11_roundBy_s {tens vals : Nat → Int32} {t : Nat → Nat} (hT : ∀ k, k < 4 → t k ≤ 10 ∧ tens k = nI (t k)) {p z o L R : Nat} (hp : 1 ≤ p) (hp2 : p < 50) (hz : z ≤ 1) (ho : o ≤ 1) (hL : L ≤ 1000000) (hR : R ≤ 1000000) (h1 : vals (p + 1) = nI L) (h2 : vals (p - 1) = nI R) : mX11_roundBy (nI p) (nI z) (nI o) tens vals = some (nI (rvN (t (2 * z + o)) L R)) := by
  obtain ⟨ht, ht2⟩ := hT (2 * z + o) (by omega)
  have h := rvN_t ht hL hR
  unfold mX11_roundBy
  rw [n_lit 2, n_mul, n_add, gi_n (by omega) (by omega), lb_d, n_cl (by omega), ht2, n_lit 1, n_add, n_sub hp, gi_n (by omega) (by omega), gi_n (by omega) (by omega), lb_d, n_cl (by omega), n_cl (by omega), h1, h2, n_lit 10, n_sub (by omega), nI_l (by omega), nI_l (by omega), nI_l (by omega), nI_l (by omega), lN_mul, lN_mul, lN_add, lN_i, pk_div (by omega) (by omega) (by omega)]
  rfl
theorem X11_answer_s {tens vals : Nat → Int32} {t : Nat → Nat} (hT : ∀ k, k < 4 → t k ≤ 10 ∧ tens k = nI (t k)) {p z L R : Nat} (hp : 1 ≤ p) (hp2 : p < 50) (hz : z ≤ 1) (hL : L ≤ 1000000) (hR : R ≤ 1000000) (h1 : vals (p + 1) = nI L) (h2 : vals (p - 1) = nI R) : mX11_answer (nI p) (nI z) tens vals = some (nI (ansN t z L R)) := by
  have e : ∀ k, k < 4 → rvN (t k) L R ≤ 1000000 := fun k hk => rvN_le (hT k hk).1 hL hR
  have e1 := e (2 * z) (by omega)
  have e2 := e (2 * z + 1) (by omega)
  unfold mX11_answer ansN
  rw [show (1 : Int32) = nI 1 from rfl, show (0 : Int32) = nI 0 from rfl, X11_roundBy_s hT hp hp2 hz (by omega) hL hR h1 h2, b_some, X11_roundBy_s hT hp hp2 hz (by omega) hL hR h1 h2, b_some, Nat.add_zero]
  by_cases h : rvN (t (2 * z)) L R ≤ rvN (t (2 * z + 1)) L R
  · rw [if_pos ((n_le (by omega) (by omega)).mpr h), if_pos h]
  · rw [if_neg (fun hh => h ((n_le (by omega) (by omega)).mp hh)), if_neg h]
theorem X11_choice_s {tens vals : Nat → Int32} {t : Nat → Nat} (hT : ∀ k, k < 4 → t k ≤ 10 ∧ tens k = nI (t k)) {p L R : Nat} (hp : 1 ≤ p) (hp2 : p < 50) (hL : L ≤ 1000000) (hR : R ≤ 1000000) (h1 : vals (p + 1) = nI L) (h2 : vals (p - 1) = nI R) : mX11_choice (nI p) tens vals = some (nI (choN t L R)) := by
  have e : ∀ k, k < 4 → rvN (t k) L R ≤ 1000000 := fun k hk => rvN_le (hT k hk).1 hL hR
  have a0 := ansN_le t 0 L R
  have a1 := ansN_le t 1 L R
  have e1 : ansV t 0 L R ≤ 1000000 := e _ (by omega)
  have e2 : ansV t 1 L R ≤ 1000000 := e _ (by omega)
  unfold mX11_choice
  rw [show (1 : Int32) = nI 1 from rfl, show (0 : Int32) = nI 0 from rfl, X11_answer_s hT hp hp2 (by omega) hL hR h1 h2, b_some, X11_roundBy_s hT hp hp2 (by omega) a1 hL hR h1 h2, b_some, X11_answer_s hT hp hp2 (by omega) hL hR h1 h2, b_some, X11_roundBy_s hT hp hp2 (by omega) a0 hL hR h1 h2, b_some]
  change (if nI (ansV t 1 L R) ≤ nI (ansV t 0 L R) then some (nI 0) else some (nI 1)) = some (nI (choN t L R))
  unfold choN
  by_cases h : ansV t 1 L R ≤ ansV t 0 L R
  · rw [if_pos ((n_le (by omega) (by omega)).mpr h), if_pos h]
  · rw [if_neg (fun hh => h ((n_le (by omega) (by omega)).mp hh)), if_neg h]
theorem X11_endValues_s (f : Nat → Int32) : ∃ f', mX11_endValues f = some f' ∧ ∀ k, k < 51 → f' k = nI (endV ((k : Int) - 25)) := by
  have key : ∀ (d i n : Nat) (f : Nat → Int32), i + d = 51 → d < n → (∀ k, k < i → f k = nI (endV ((k : Int) - 25))) → ∃ f', mX11_endValues_L2 n (nI i) f = some f' ∧ ∀ k, k < 51 → f' k = nI (endV ((k : Int) - 25)) := by
    intro d
    induction d with
    | zero =>
      intro i n f hi hn h1
      obtain ⟨n, rfl⟩ : ∃ q, n = q + 1 := ⟨n - 1, by omega⟩
      refine ⟨f, ?_, fun k hk => h1 k (by omega)⟩
      rw [eX11_endValues_2]
      unfold mX11_endValues_B2
      rw [n_lit 51, if_pos ((n_le (by omega) (by omega)).mpr (by omega))]
    | succ d ih =>
      intro i n f hi hn h1
      obtain ⟨n, rfl⟩ : ∃ q, n = q + 1 := ⟨n - 1, by omega⟩
      obtain ⟨f', e1, e2⟩ := ih (i + 1) n (upd f i (nI (endV ((i : Int) - 25)))) (by omega) (by omega) (fun k hk => by
        by_cases h : k = i
        · rw [h, upd_s]
        · rw [upd_n h, h1 k (by omega)])
      refine ⟨f', ?_, e2⟩
      have e3 : ∀ v : Nat, v = endV ((i : Int) - 25) → mX11_endValues_B38 (mX11_endValues_L2 n) (nI i) (nI i) (nI v) f = some f' := by
        intro v hv
        unfold mX11_endValues_B38
        rw [gi_n (by omega) (by omega), lb_d, n_lit 1, n_add, n_cl (by omega), lb_d, hv]
        exact e1
      rw [eX11_endValues_2]
      unfold mX11_endValues_B2
      rw [n_lit 51, if_neg (fun hh => absurd ((n_le (a := 51) (by omega) (by omega)).mp hh) (by omega)), n_lit 25, n_lit 500000, n_lit 1000000, show (0 : Int32) = nI 0 from rfl]
      by_cases h5 : i ≤ 25
      · rw [if_pos ((n_le (by omega) (by omega)).mpr h5)]
        by_cases h6 : i = 25
        · rw [if_pos ((n_eq (by omega) (by omega)).mpr h6)]
          exact e3 _ (by unfold endV; rw [if_neg (by omega), if_pos (by omega)])
        · rw [if_neg (fun hh => h6 ((n_eq (by omega) (by omega)).mp hh))]
          exact e3 _ (by unfold endV; rw [if_pos (by omega)])
      · rw [if_neg (fun hh => h5 ((n_le (by omega) (by omega)).mp hh))]
        exact e3 _ (by unfold endV; rw [if_neg (by omega), if_neg (by omega)])
  unfold mX11_endValues
  exact key 51 0 FUEL f (by omega) (by unfold FUEL; omega) (fun k hk => absurd hk (by omega))
theorem X11_takeNext_s (nx f : Nat → Int32) : mX11_takeNext nx f = some (fun k => if 1 ≤ k ∧ k < 50 then nx k else f k) := by
  have key : ∀ (d i n : Nat) (f : Nat → Int32), 1 ≤ i → i + d = 50 → d < n → mX11_takeNext_L2 nx n (nI i) f = some (fun k => if i ≤ k ∧ k < 50 then nx k else f k) := by
    intro d
    induction d with
    | zero =>
      intro i n f h1 hi hn
      obtain ⟨n, rfl⟩ : ∃ q, n = q + 1 := ⟨n - 1, by omega⟩
      rw [eX11_takeNext_2]
      unfold mX11_takeNext_B2
      rw [n_lit 50, if_pos ((n_le (by omega) (by omega)).mpr (by omega)), show (fun k => if i ≤ k ∧ k < 50 then nx k else f k) = f from by funext k; rw [if_neg (by omega)]]
    | succ d ih =>
      intro i n f h1 hi hn
      obtain ⟨n, rfl⟩ : ∃ q, n = q + 1 := ⟨n - 1, by omega⟩
      rw [eX11_takeNext_2]
      unfold mX11_takeNext_B2
      rw [n_lit 50, if_neg (fun hh => absurd ((n_le (a := 50) (by omega) (by omega)).mp hh) (by omega)), gi_n (by omega) (by omega), gi_n (by omega) (by omega), lb_d, lb_d, n_lit 1, n_add, n_cl (by omega), ih (i + 1) n _ (by omega) (by omega) (by omega)]
      congr 1
      funext k
      by_cases h : k = i
      · rw [if_neg (by omega), h, upd_s, if_pos (by omega)]
      · rw [upd_n h]
        by_cases h2 : i + 1 ≤ k ∧ k < 50
        · rw [if_pos h2, if_pos (by omega)]
        · rw [if_neg h2, if_neg (by omega)]
  unfold mX11_takeNext
  exact key 49 1 FUEL f (by omega) (by omega) (by unfold FUEL; omega)
/-- after the places are walked, the next values stand -/
theorem Vx_next {g : Nat → Nat → Nat} {l : Nat} {vals nx : Nat → Int32} (hv : ∀ k, k < 51 → vals k = nI (Vx g l k)) (hn : ∀ k, 1 ≤ k → k < 50 → nx k = nI (g (Vx g l (k + 1)) (Vx g l (k - 1)))) : ∀ k, k < 51 → (fun k => if 1 ≤ k ∧ k < 50 then nx k else vals k) k = nI (Vx g (l + 1) k) := by
  intro k hk
  show (if 1 ≤ k ∧ k < 50 then nx k else vals k) = nI (if 1 ≤ k ∧ k < 50 then g (Vx g l (k + 1)) (Vx g l (k - 1)) else Vx g l k)
  by_cases h : 1 ≤ k ∧ k < 50
  · rw [if_pos h, if_pos h, hn k h.1 h.2]
  · rw [if_neg h, if_neg h, hv k hk]
theorem X11_open_38 {tens : Nat → Int32} {t : Nat → Nat} (hT : ∀ k, k < 4 → t k ≤ 10 ∧ tens k = nI (t k)) (x0 x1 x2 : Int32) (k29) {l : Nat} {vals : Nat → Int32} (hv : ∀ k, k < 51 → vals k = nI (Vx (choV t) l k)) (w : Nat) : ∀ (d i n : Nat) (nx : Nat → Int32), 1 ≤ i → i + d = 50 → d < n → (∀ k, 1 ≤ k → k < i → nx k = nI (choV t (Vx (choV t) l (k + 1)) (Vx (choV t) l (k - 1)))) → ∃ vals' nx', mX11_open_L38 x0 x1 x2 tens k29 n (nI w) (nI i) vals nx = k29 (nI (w + 1)) vals' nx' ∧ ∀ k, k < 51 → vals' k = nI (Vx (choV t) (l + 1) k) := by
  intro d
  induction d with
  | zero =>
    intro i n nx h1 hi hn h2
    obtain ⟨n, rfl⟩ : ∃ q, n = q + 1 := ⟨n - 1, by omega⟩
    refine ⟨_, nx, ?_, Vx_next hv (fun k hk hk2 => h2 k hk (by omega))⟩
    rw [eX11_open_38]
    unfold mX11_open_B38
    rw [n_lit 50, if_pos ((n_le (by omega) (by omega)).mpr (by omega)), X11_takeNext_s, b_some, n_lit 1, n_add, lb_d]
  | succ d ih =>
    intro i n nx h1 hi hn h2
    obtain ⟨n, rfl⟩ : ∃ q, n = q + 1 := ⟨n - 1, by omega⟩
    have hg := choV_ok (fun k hk => (hT k hk).1)
    have hL := Vx_le hg l (i + 1)
    have hR := Vx_le hg l (i - 1)
    have e1 := hv (i + 1) (by omega)
    have e2 := hv (i - 1) (by omega)
    obtain ⟨vals', nx', f1, f2⟩ := ih (i + 1) n (upd nx i (nI (choV t (Vx (choV t) l (i + 1)) (Vx (choV t) l (i - 1))))) (by omega) (by omega) (by omega) (fun k hk hk2 => by
      by_cases h : k = i
      · rw [h, upd_s]
      · rw [upd_n h, h2 k hk (by omega)])
    refine ⟨vals', nx', ?_, f2⟩
    rw [eX11_open_38]
    unfold mX11_open_B38
    rw [n_lit 50, if_neg (fun hh => absurd ((n_le (a := 50) (by omega) (by omega)).mp hh) (by omega)), X11_choice_s hT h1 (by omega) hL hR e1 e2, b_some, b_some, X11_answer_s hT h1 (by omega) (choN_le _ _ _) hL hR e1 e2, b_some, X11_roundBy_s hT h1 (by omega) (choN_le _ _ _) (ansN_le _ _ _ _) hL hR e1 e2, b_some, gi_n (by omega) (by omega), n_cl (by omega), lb_d, n_lit 1, n_add, lb_d]
    exact f1
/-- what open answers, in whole numbers -/
def openN (t : Nat → Nat) (n : Nat) (z : Int) (x2 : Nat) : Nat :=
  if x2 = 0 then choV t (Vv (choV t) (n - 1) (z + 1)) (Vv (choV t) (n - 1) (z - 1)) else if x2 = 1 then choN t (Vv (choV t) (n - 1) (z + 1)) (Vv (choV t) (n - 1) (z - 1)) else ansN t (choN t (Vv (choV t) (n - 1) (z + 1)) (Vv (choV t) (n - 1) (z - 1))) (Vv (choV t) (n - 1) (z + 1)) (Vv (choV t) (n - 1) (z - 1))
theorem X11_open_29 {tens : Nat → Int32} {t : Nat → Nat} (hT : ∀ k, k < 4 → t k ≤ 10 ∧ tens k = nI (t k)) {n : Nat} {z : Int} {x2 : Nat} (hn1 : 1 ≤ n) (hn : n ≤ 12) (hz1 : -12 ≤ z) (hz2 : z ≤ 12) (hx : x2 < 3) : ∀ (d i m : Nat) (vals nx : Nat → Int32), 1 ≤ i → i + d = n → d < m → (∀ k, k < 51 → vals k = nI (Vx (choV t) (i - 1) k)) → ∃ om : Int32 × (Nat → Int32) × (Nat → Int32), mX11_open_L29 (nI n) (iI z) (nI x2) tens m (nI i) vals nx = some om ∧ om.1 = nI (openN t n z x2) := by
  intro d
  induction d with
  | zero =>
    intro i m vals nx h1 hi hm hv
    obtain ⟨m, rfl⟩ : ∃ q, m = q + 1 := ⟨m - 1, by omega⟩
    have hin : i = n := by omega
    subst hin
    obtain ⟨X, hX⟩ : ∃ X : Nat, (X : Int) = 25 + z := ⟨(25 + z).toNat, by omega⟩
    have eX : (25 : Int32) + iI z = nI X := by rw [i_25, iI_add, nI_iI, hX]
    have hg := choV_ok (fun k hk => (hT k hk).1)
    have e1 := hv (X + 1) (by omega)
    have e2 := hv (X - 1) (by omega)
    rw [Vx_s _ _ _ (by omega) (by omega), show ((X + 1 : Nat) : Int) - 25 = z + 1 by omega] at e1
    rw [Vx_s _ _ _ (by omega) (by omega), show ((X - 1 : Nat) : Int) - 25 = z - 1 by omega] at e2
    have hL := Vv_le hg (i - 1) (z + 1)
    have hR := Vv_le hg (i - 1) (z - 1)
    rw [eX11_open_29]
    unfold mX11_open_B29
    rw [if_pos ((n_le (by omega) (by omega)).mpr (by omega)), eX, X11_choice_s hT (by omega) (by omega) hL hR e1 e2, b_some, X11_answer_s hT (by omega) (by omega) (choN_le _ _ _) hL hR e1 e2, b_some, X11_roundBy_s hT (by omega) (by omega) (choN_le _ _ _) (ansN_le _ _ _ _) hL hR e1 e2, b_some, show (0 : Int32) = nI 0 from rfl, n_lit 1]
    unfold openN
    by_cases h0 : x2 = 0
    · rw [if_pos ((n_eq (by omega) (by omega)).mpr h0), if_pos h0]
      exact ⟨_, rfl, rfl⟩
    · rw [if_neg (fun hh => h0 ((n_eq (by omega) (by omega)).mp hh)), if_neg h0]
      by_cases h1 : x2 = 1
      · rw [if_pos ((n_eq (by omega) (by omega)).mpr h1), if_pos h1]
        exact ⟨_, rfl, rfl⟩
      · rw [if_neg (fun hh => h1 ((n_eq (by omega) (by omega)).mp hh)), if_neg h1]
        exact ⟨_, rfl, rfl⟩
  | succ d ih =>
    intro i m vals nx h1 hi hm hv
    obtain ⟨m, rfl⟩ : ∃ q, m = q + 1 := ⟨m - 1, by omega⟩
    obtain ⟨vals', nx', e1, e2⟩ := X11_open_38 hT (nI n) (iI z) (nI x2) (mX11_open_L29 (nI n) (iI z) (nI x2) tens m) hv i 49 1 FUEL nx (by omega) (by omega) (by unfold FUEL; omega) (fun k hk hk2 => absurd hk2 (by omega))
    rw [eX11_open_29]
    unfold mX11_open_B29
    rw [if_neg (fun hh => absurd ((n_le (by omega) (by omega)).mp hh) (by omega)), n_lit 1, e1]
    exact ih (i + 1) m vals' nx' (by omega) (by omega) (by omega) (fun k hk => by rw [e2 k hk, show i - 1 + 1 = i + 1 - 1 by omega])
/-! the class's game -/
theorem X4_answer_s {t : Nat → Nat} (ht : ∀ k, k < 4 → t k ≤ 10) {z L R : Nat} (hz : z ≤ 1) (hL : L ≤ 1000000) (hR : R ≤ 1000000) (v o : Int32) : mX4_answer (nI (rvN (t (2 * z)) L R)) (nI (rvN (t (2 * z + 1)) L R)) v o = some (nI (ansN t z L R), nI (ansV t z L R)) := by
  have e1 : rvN (t (2 * z)) L R ≤ 1000000 := rvN_le (ht _ (by omega)) hL hR
  have e2 : rvN (t (2 * z + 1)) L R ≤ 1000000 := rvN_le (ht _ (by omega)) hL hR
  unfold mX4_answer mX4_answer_B11 ansV ansN imin
  by_cases h : rvN (t (2 * z)) L R ≤ rvN (t (2 * z + 1)) L R
  · rw [if_pos ((n_le (by omega) (by omega)).mpr h), if_pos h, if_neg (fun hh => absurd ((n_lt (by omega) (by omega)).mp hh) (by omega))]
    rfl
  · rw [if_neg (fun hh => h ((n_le (by omega) (by omega)).mp hh)), if_neg h, if_pos ((n_lt (by omega) (by omega)).mpr (by omega))]
    rfl
theorem X4_prefer_s {t : Nat → Nat} (ht : ∀ k, k < 4 → t k ≤ 10) {L R : Nat} (hL : L ≤ 1000000) (hR : R ≤ 1000000) (x : Int32) : mX4_preferHeld (nI (ansV t 0 L R)) (nI (ansN t 0 L R)) (nI (ansV t 1 L R)) x (nI (ansN t 1 L R)) = some (nI (choN t L R), nI (ansN t (choN t L R) L R), nI (choV t L R)) := by
  have a0 := ansN_le t 0 L R
  have a1 := ansN_le t 1 L R
  have e1 : ansV t 0 L R ≤ 1000000 := rvN_le (ht _ (by omega)) hL hR
  have e2 : ansV t 1 L R ≤ 1000000 := rvN_le (ht _ (by omega)) hL hR
  unfold mX4_preferHeld choV choN
  by_cases h : ansV t 1 L R ≤ ansV t 0 L R
  · rw [if_pos ((n_le (by omega) (by omega)).mpr h), if_pos h]
    rfl
  · rw [if_neg (fun hh => h ((n_le (by omega) (by omega)).mp hh)), if_neg h]
    rfl
theorem X5_tenths_g {odds : Nat → Int32} {t : Nat → Nat} (hT : ∀ k, k < 4 → t k ≤ 10 ∧ odds k = nI (t k)) {z o : Nat} (hz : z ≤ 1) (ho : o ≤ 1) : mX5_tenthsOf (nI z) (nI o) odds = some (nI (t (2 * z + o))) := by
  unfold mX5_tenthsOf
  rw [n_lit 2, n_mul, n_add, gi_n (by omega) (by omega), lb_d, n_cl (by omega), (hT (z * 2 + o) (by omega)).2, Nat.mul_comm z 2]
theorem X4_chooseOpen_s {odds : Nat → Int32} {t : Nat → Nat} (hT : ∀ k, k < 4 → t k ≤ 10 ∧ odds k = nI (t k)) {L R : Nat} (hL : L ≤ 1000000) (hR : R ≤ 1000000) (v zp op : Int32) : mX4_chooseOpen (nI L) (nI R) v zp op odds = some (nI (ansN t (choN t L R) L R), nI (choV t L R), nI (choN t L R)) := by
  have ht : ∀ k, k < 4 → t k ≤ 10 := fun k hk => (hT k hk).1
  unfold mX4_chooseOpen
  rw [show (0 : Int32) = nI 0 from rfl, n_lit 1]
  rw [X5_tenths_g hT (by omega) (by omega), b_some, X4_roundValue_s (ht _ (by omega)) hL hR, b_some, X5_tenths_g hT (by omega) (by omega), b_some, X4_roundValue_s (ht _ (by omega)) hL hR, b_some, Nat.add_zero, X4_answer_s ht (by omega) hL hR, b_some]
  rw [X5_tenths_g hT (by omega) (by omega), b_some, X4_roundValue_s (ht _ (by omega)) hL hR, b_some, X5_tenths_g hT (by omega) (by omega), b_some, X4_roundValue_s (ht _ (by omega)) hL hR, b_some, Nat.add_zero, X4_answer_s ht (by omega) hL hR, b_some]
  simp only []
  rw [X4_prefer_s ht hL hR, b_some]
theorem X4_setEnds_s {n X : Nat} {z : Int} (hn : n ≤ 12) (hz1 : -12 ≤ z) (hz2 : z ≤ 12) (hX : (X : Int) = 24 + z) (f : Nat → Int32) : ∃ f', mX4_setEnds (nI n) (iI z) f = some f' ∧ ∀ k : Nat, X - n ≤ k → k ≤ X + n → f' k = nI (endV ((k : Int) - 24)) := by
  have key : ∀ (d m : Nat) (w : Int) (f : Nat → Int32), w + d = z + n + 1 → z - n ≤ w → d < m → (∀ k : Nat, X - n ≤ k → (k : Int) < 24 + w → f k = nI (endV ((k : Int) - 24))) → ∃ f', mX4_setEnds_L4 (nI n) (iI z) m (iI w) f = some f' ∧ ∀ k : Nat, X - n ≤ k → k ≤ X + n → f' k = nI (endV ((k : Int) - 24)) := by
    intro d
    induction d with
    | zero =>
      intro m w f hw hw2 hm h1
      obtain ⟨m, rfl⟩ : ∃ q, m = q + 1 := ⟨m - 1, by omega⟩
      refine ⟨f, ?_, fun k hk hk2 => h1 k hk (by omega)⟩
      rw [eX4_setEnds_4]
      unfold mX4_setEnds_B4
      rw [nI_iI, iI_add, if_pos ((iI_lt (by omega) (by omega) (by omega) (by omega)).mpr (by omega))]
    | succ d ih =>
      intro m w f hw hw2 hm h1
      obtain ⟨m, rfl⟩ : ∃ q, m = q + 1 := ⟨m - 1, by omega⟩
      obtain ⟨W, hW⟩ : ∃ W : Nat, (W : Int) = 24 + w := ⟨(24 + w).toNat, by omega⟩
      obtain ⟨f', e1, e2⟩ := ih m (w + 1) (upd f W (nI (endV w))) (by omega) (by omega) (by omega) (fun k hk hk2 => by
        by_cases h : k = W
        · rw [h, upd_s, hW, show 24 + w - 24 = w by omega]
        · rw [upd_n h, h1 k hk (by omega)])
      refine ⟨f', ?_, e2⟩
      have eW : (24 : Int32) + iI w = nI W := by rw [i_24, iI_add, nI_iI, hW]
      have e3 : ∀ v : Nat, v = endV w → mX4_setEnds_B38 (nI n) (iI z) (mX4_setEnds_L4 (nI n) (iI z) m) (iI w) (nI W) (nI v) f = some f' := by
        intro v hv
        unfold mX4_setEnds_B38
        rw [gi_n (by omega) (by omega), lb_d, i_1, iI_add, n_cl (by omega), lb_d, hv]
        exact e1
      rw [eX4_setEnds_4]
      unfold mX4_setEnds_B4
      rw [show iI z + nI n = iI (z + n) by rw [nI_iI, iI_add], if_neg (fun hh => absurd ((iI_lt (by omega) (by omega) (by omega) (by omega)).mp hh) (by omega)), eW, n_lit 500000, n_lit 1000000, show mX4_setEnds_B38 (nI n) (iI z) (mX4_setEnds_L4 (nI n) (iI z) m) (iI w) (nI W) (0 : Int32) f = mX4_setEnds_B38 (nI n) (iI z) (mX4_setEnds_L4 (nI n) (iI z) m) (iI w) (nI W) (nI 0) f from rfl, i_0]
      by_cases h6 : w = 0
      · rw [if_pos (by rw [h6])]
        exact e3 _ (by unfold endV; rw [if_neg (by omega), if_pos (by omega)])
      · rw [if_neg (fun hh => h6 ((iI_eq (by omega) (by omega) (by omega) (by omega)).mp hh))]
        by_cases h5 : w ≤ 0
        · rw [if_pos ((iI_le (by omega) (by omega) (by omega) (by omega)).mpr h5)]
          exact e3 _ (by unfold endV; rw [if_pos (by omega)])
        · rw [if_neg (fun hh => h5 ((iI_le (by omega) (by omega) (by omega) (by omega)).mp hh))]
          exact e3 _ (by unfold endV; rw [if_neg (by omega), if_neg (by omega)])
  unfold mX4_setEnds
  rw [nI_iI, iI_sub, lb_d, ← nI_iI]
  exact key (2 * n + 1) FUEL (z - n) f (by omega) (by omega) (by unfold FUEL; omega) (fun k hk hk2 => absurd hk2 (by omega))
theorem X4_open_22 {odds : Nat → Int32} {t : Nat → Nat} (hT : ∀ k, k < 4 → t k ≤ 10 ∧ odds k = nI (t k)) {X l d : Nat} {z : Int} (hX : (X : Int) = 24 + z) (hz1 : -12 ≤ z) (hz2 : z ≤ 12) (hd : l + d + 1 ≤ 12) (x0 : Int32) (k10) {vals : Nat → Int32} (hv : ∀ k : Nat, X - (d + 1) ≤ k → k ≤ X + (d + 1) → vals k = nI (Vv (choV t) l ((k : Int) - 24))) (av ab : Nat) : ∀ (e i m : Nat) (bf : Nat → Int32) (op v zp : Int32), X - d ≤ i → i + e = X + d + 1 → e < m → (∀ k : Nat, X - d ≤ k → k < i → bf k = nI (Vv (choV t) (l + 1) ((k : Int) - 24))) → ∃ (bf' : Nat → Int32) (op' v' zp' : Int32), mX4_playOpen_L22 x0 (iI z) odds k10 m (nI d) (nI i) vals op v zp bf av ab = k10 (iI ((d : Int) - 1)) bf' op' v' zp' vals ab av ∧ (∀ k : Nat, X - d ≤ k → k ≤ X + d → bf' k = nI (Vv (choV t) (l + 1) ((k : Int) - 24))) ∧ (1 ≤ e → op' = nI (ansN t (choN t (Vv (choV t) l (z + d + 1)) (Vv (choV t) l (z + d - 1))) (Vv (choV t) l (z + d + 1)) (Vv (choV t) l (z + d - 1))) ∧ v' = nI (choV t (Vv (choV t) l (z + d + 1)) (Vv (choV t) l (z + d - 1))) ∧ zp' = nI (choN t (Vv (choV t) l (z + d + 1)) (Vv (choV t) l (z + d - 1)))) ∧ (e = 0 → op' = op ∧ v' = v ∧ zp' = zp) := by
  have hg := choV_ok (fun k hk => (hT k hk).1)
  have eX : (24 : Int32) + iI z = nI X := by rw [i_24, iI_add, nI_iI, hX]
  intro e
  induction e with
  | zero =>
    intro i m bf op v zp h1 hi hm h2
    obtain ⟨m, rfl⟩ : ∃ q, m = q + 1 := ⟨m - 1, by omega⟩
    refine ⟨bf, op, v, zp, ?_, fun k hk hk2 => h2 k hk (by omega), fun h => absurd h (by omega), fun _ => ⟨rfl, rfl, rfl⟩⟩
    rw [eX4_playOpen_22]
    unfold mX4_playOpen_B22 mX4_stepBack
    rw [eX, n_add, if_pos ((n_lt (by omega) (by omega)).mpr (by omega)), b_some, i_m1, nI_iI, iI_add, lb_d]
    rfl
  | succ e ih =>
    intro i m bf op v zp h1 hi hm h2
    obtain ⟨m, rfl⟩ : ∃ q, m = q + 1 := ⟨m - 1, by omega⟩
    have e1 := hv (i + 1) (by omega) (by omega)
    have e2 := hv (i - 1) (by omega) (by omega)
    have hL := Vv_le hg l (((i + 1 : Nat) : Int) - 24)
    have hR := Vv_le hg l (((i - 1 : Nat) : Int) - 24)
    have hc := X4_chooseOpen_s hT hL hR v zp op
    rw [show ((i + 1 : Nat) : Int) - 24 = (i : Int) - 24 + 1 by omega, show ((i - 1 : Nat) : Int) - 24 = (i : Int) - 24 - 1 by omega] at hc
    rw [show ((i + 1 : Nat) : Int) - 24 = (i : Int) - 24 + 1 by omega] at e1
    rw [show ((i - 1 : Nat) : Int) - 24 = (i : Int) - 24 - 1 by omega] at e2
    obtain ⟨bf', op', v', zp', f1, f2, f3, f4⟩ := ih (i + 1) m (upd bf i (nI (Vv (choV t) (l + 1) ((i : Int) - 24)))) (nI (ansN t (choN t (Vv (choV t) l ((i : Int) - 24 + 1)) (Vv (choV t) l ((i : Int) - 24 - 1))) (Vv (choV t) l ((i : Int) - 24 + 1)) (Vv (choV t) l ((i : Int) - 24 - 1)))) (nI (choV t (Vv (choV t) l ((i : Int) - 24 + 1)) (Vv (choV t) l ((i : Int) - 24 - 1)))) (nI (choN t (Vv (choV t) l ((i : Int) - 24 + 1)) (Vv (choV t) l ((i : Int) - 24 - 1)))) (by omega) (by omega) (by omega) (fun k hk hk2 => by
      by_cases h : k = i
      · rw [h, upd_s]
      · rw [upd_n h, h2 k hk (by omega)])
    refine ⟨bf', op', v', zp', ?_, f2, fun _ => ?_, fun h => absurd h (by omega)⟩
    · rw [eX4_playOpen_22]
      unfold mX4_playOpen_B22
      rw [eX, n_add, if_neg (fun hh => absurd ((n_lt (by omega) (by omega)).mp hh) (by omega)), n_lit 1, n_add, n_sub (by omega), gi_n (by omega) (by omega), gi_n (by omega) (by omega), n_cl (by omega), n_cl (by omega), e1, e2, hc, b_some, gi_n (by omega) (by omega), n_cl (by omega), lb_d, lb_d]
      exact f1
    · by_cases h : e = 0
      · obtain ⟨g1, g2, g3⟩ := f4 h
        rw [g1, g2, g3, show (i : Int) - 24 + 1 = z + d + 1 by omega, show (i : Int) - 24 - 1 = z + d - 1 by omega]
        exact ⟨rfl, rfl, rfl⟩
      · exact f3 (by omega)
theorem X4_open_10 {odds : Nat → Int32} {t : Nat → Nat} (hT : ∀ k, k < 4 → t k ≤ 10 ∧ odds k = nI (t k)) {X n : Nat} {z : Int} (hX : (X : Int) = 24 + z) (hz1 : -12 ≤ z) (hz2 : z ≤ 12) (hn : n ≤ 12) : ∀ (d m l : Nat) (vals bf : Nat → Int32) (op v zp : Int32) (av ab : Nat), l + d = n → d < m → (∀ k : Nat, X - d ≤ k → k ≤ X + d → vals k = nI (Vv (choV t) l ((k : Int) - 24))) → ∃ o, mX4_playOpen_L10 (nI n) (iI z) odds m (iI ((d : Int) - 1)) vals op v zp bf av ab = some o ∧ (1 ≤ d → o.2.1 = nI (ansN t (choN t (Vv (choV t) (n - 1) (z + 1)) (Vv (choV t) (n - 1) (z - 1))) (Vv (choV t) (n - 1) (z + 1)) (Vv (choV t) (n - 1) (z - 1))) ∧ o.2.2.1 = nI (choV t (Vv (choV t) (n - 1) (z + 1)) (Vv (choV t) (n - 1) (z - 1))) ∧ o.2.2.2.1 = nI (choN t (Vv (choV t) (n - 1) (z + 1)) (Vv (choV t) (n - 1) (z - 1)))) ∧ (d = 0 → o.2.1 = op ∧ o.2.2.1 = v ∧ o.2.2.2.1 = zp) := by
  have eX : (24 : Int32) + iI z = nI X := by rw [i_24, iI_add, nI_iI, hX]
  intro d
  induction d with
  | zero =>
    intro m l vals bf op v zp av ab hl hm hv
    obtain ⟨m, rfl⟩ : ∃ q, m = q + 1 := ⟨m - 1, by omega⟩
    refine ⟨(vals, op, v, zp, bf, av, ab), ?_, fun h => absurd h (by omega), fun _ => ⟨rfl, rfl, rfl⟩⟩
    rw [eX4_playOpen_10]
    unfold mX4_playOpen_B10
    rw [i_0, if_pos ((iI_lt (by omega) (by omega) (by omega) (by omega)).mpr (by omega))]
  | succ d ih =>
    intro m l vals bf op v zp av ab hl hm hv
    obtain ⟨m, rfl⟩ : ∃ q, m = q + 1 := ⟨m - 1, by omega⟩
    obtain ⟨bf', op', v', zp', f1, f2, f3, -⟩ := X4_open_22 hT hX hz1 hz2 (show l + d + 1 ≤ 12 by omega) (nI n) (mX4_playOpen_L10 (nI n) (iI z) odds m) hv av ab (2 * d + 1) (X - d) FUEL bf op v zp (by omega) (by omega) (by unfold FUEL; omega) (fun k hk hk2 => absurd hk2 (by omega))
    obtain ⟨o, g1, g2, g3⟩ := ih m (l + 1) bf' vals op' v' zp' ab av (by omega) (by omega) (fun k hk hk2 => f2 k hk hk2)
    refine ⟨o, ?_, fun _ => ?_, fun h => absurd h (by omega)⟩
    · rw [eX4_playOpen_10]
      unfold mX4_playOpen_B10
      rw [show iI (((d + 1 : Nat) : Int) - 1) = nI d by rw [nI_iI]; congr 1; omega, if_neg (nI_pos (by omega)), eX, n_sub (by omega), lb_d, f1]
      exact g1
    · by_cases h : d = 0
      · obtain ⟨h1, h2, h3⟩ := g3 h
        obtain ⟨k1, k2, k3⟩ := f3 (by omega)
        rw [h1, h2, h3, k1, k2, k3, show l = n - 1 by omega, show z + (d : Int) + 1 = z + 1 by omega, show z + (d : Int) - 1 = z - 1 by omega]
        exact ⟨rfl, rfl, rfl⟩
      · exact g2 (by omega)
theorem X10_isGame_s (x0 x1 x2 : Int32) : mX10_isGame x0 x1 x2 = some (if ((1 : Int32) ≤ x0 ∧ x0 ≤ 12) ∧ ((-12 : Int32) ≤ x1 ∧ x1 ≤ 12) ∧ ((0 : Int32) ≤ x2 ∧ x2 ≤ 2) then 1 else 0) := by
  unfold mX10_isGame
  rw [wi_bind, wi_bind, wi_bind]
  by_cases c1 : (1 : Int32) ≤ x0 ∧ x0 ≤ 12
  · rw [if_pos c1]
    by_cases c2 : (-12 : Int32) ≤ x1 ∧ x1 ≤ 12
    · rw [if_pos c2]
      by_cases c3 : (0 : Int32) ≤ x2 ∧ x2 ≤ 2
      · rw [if_pos c3, if_pos ⟨c1, c2, c3⟩]
      · rw [if_neg c3, if_neg (fun h => c3 h.2.2)]
    · rw [if_neg c2, if_neg (fun h => c2 h.2.1)]
  · rw [if_neg c1, if_neg (fun h => c1 h.1)]
theorem X11_gameL {α : Type} (x0 x1 x2 : Int32) (A B C : Option α) : ((mX11_areLeft x0 x1).bind fun o1 => if o1 = 0 then A else ((mX11_in (Int32.toInt64 x2) (0 : Int64) (2 : Int64)).bind fun o4 => if o4 = 0 then B else C)) = if ((1 : Int32) ≤ x0 ∧ x0 ≤ 12) ∧ ((-12 : Int32) ≤ x1 ∧ x1 ≤ 12) then (if (0 : Int32) ≤ x2 ∧ x2 ≤ 2 then C else B) else A := by
  unfold mX11_areLeft
  rw [in_wl 1 12 (by decide) (by decide), in_wl (-12) 12 (by decide) (by decide), in_wl 0 2 (by decide) (by decide), wi_bind, wi_bind, wi_bind]
  by_cases c1 : (1 : Int32) ≤ x0 ∧ x0 ≤ 12
  · rw [if_pos c1]
    by_cases c2 : (-12 : Int32) ≤ x1 ∧ x1 ≤ 12
    · rw [if_pos c2, if_pos (show ((1 : Int32) ≤ x0 ∧ x0 ≤ 12) ∧ ((-12 : Int32) ≤ x1 ∧ x1 ≤ 12) from ⟨c1, c2⟩), b_some, if_neg (by decide)]
    · rw [if_neg c2, if_neg (show ¬ (((1 : Int32) ≤ x0 ∧ x0 ≤ 12) ∧ ((-12 : Int32) ≤ x1 ∧ x1 ≤ 12)) from fun h => c2 h.2), b_some, if_pos rfl]
  · rw [if_neg c1, if_neg (show ¬ (((1 : Int32) ≤ x0 ∧ x0 ≤ 12) ∧ ((-12 : Int32) ≤ x1 ∧ x1 ≤ 12)) from fun h => c1 h.1), b_some, if_pos rfl]
theorem game_in {x0 x1 x2 : Int32} (h1 : ((1 : Int32) ≤ x0 ∧ x0 ≤ 12) ∧ ((-12 : Int32) ≤ x1 ∧ x1 ≤ 12)) (h2 : (0 : Int32) ≤ x2 ∧ x2 ≤ 2) : ∃ (n : Nat) (z : Int) (q : Nat), x0 = nI n ∧ x1 = iI z ∧ x2 = nI q ∧ 1 ≤ n ∧ n ≤ 12 ∧ -12 ≤ z ∧ z ≤ 12 ∧ q < 3 := by
  obtain ⟨y, a1, a2, rfl⟩ := w_i (a := 1) (b := 12) (by omega) (by omega) (by omega) (show iI 1 ≤ x0 ∧ x0 ≤ iI 12 from h1.1)
  obtain ⟨z, a3, a4, rfl⟩ := w_i (a := -12) (b := 12) (by omega) (by omega) (by omega) (show iI (-12) ≤ x1 ∧ x1 ≤ iI 12 from h1.2)
  obtain ⟨q, a5, rfl⟩ := w_n (b := 2) (by omega) h2
  refine ⟨y.toNat, z, q, ?_, rfl, rfl, by omega, by omega, a3, a4, by omega⟩
  rw [nI_iI, show ((y.toNat : Nat) : Int) = y by omega]
theorem result_s {v zp op : Nat} {q : Nat} (hq : q < 3) : mX4_result (nI q) (nI v) (nI zp) (nI op) = some (nI (if q = 0 then v else if q = 1 then zp else op)) := by
  unfold mX4_result
  rw [show (0 : Int32) = nI 0 from rfl, n_lit 1]
  by_cases h0 : q = 0
  · rw [if_pos ((n_eq (by omega) (by omega)).mpr h0), if_pos h0]
  · rw [if_neg (fun hh => h0 ((n_eq (by omega) (by omega)).mp hh)), if_neg h0]
    by_cases h1 : q = 1
    · rw [if_pos ((n_eq (by omega) (by omega)).mpr h1), if_pos h1]
    · rw [if_neg (fun hh => h1 ((n_eq (by omega) (by omega)).mp hh)), if_neg h1]
set_option maxRecDepth 100000 in
theorem api_open {c_text_length : Int32} {c_text_bytes : Nat → Int32} {c_laid_rounds : Int32} {c_laid_home : Int32} {c_laid_noise : Int32} {c_laid_blowCount : Int32} {c_laid_judgeCount : Int32} {c_laid_blows : Nat → Int32} {c_laid_judges : Nat → Int32} {c_laid_forward : Nat → Int32} {c_laid_downs : Nat → Int32} {c_laid_taken : Nat → Int32} {c_laid_seenBy : Nat → Int32} {c_laid_sums : Nat → Int32} {c_laid_leads : Nat → Int32} {c_bench_watchers : Nat → Int32} {c_notes_delays : Nat → Int32} {c_notes_margins : Nat → Int32} {c_notes_odds : Nat → Int32} {c_kept_0_delays : Nat → Int32} {c_kept_0_margins : Nat → Int32} {c_kept_0_odds : Nat → Int32} {c_kept_1_delays : Nat → Int32} {c_kept_1_margins : Nat → Int32} {c_kept_1_odds : Nat → Int32} {c_keptCount : Int32} {m_length : Int32} {m_text : Nat → Int32} {m_roundMany : Nat → Int32} {m_blowMany : Nat → Int32} {m_blows : Nat → Int32} {m_forwards : Nat → Int32} {m_downs : Nat → Int32} {m_takens : Nat → Int32} {m_homes : Nat → Int32} {m_noises : Nat → Int32} {m_judgeMany : Nat → Int32} {m_judges : Nat → Int32} {m_delays : Nat → Int32} {m_tolds : Nat → Int32} {m_tens : Nat → Int32} {m_keptMany : Int32} (x0 : Int32) (x1 : Int32) (x2 : Int32) (c_game_value : Int32) (c_game_zeroPushes : Int32) (c_game_onePushes : Int32) (c_game_before : Nat → Int32) (c_game_values : Nat → Int32) (ca_game_values : Nat) (ca_game_before : Nat) (m_nextValues : Nat → Int32) (m_values : Nat → Int32) (hR : RR c_text_length c_text_bytes c_laid_rounds c_laid_home c_laid_noise c_laid_blowCount c_laid_judgeCount c_laid_blows c_laid_judges c_laid_forward c_laid_downs c_laid_taken c_laid_seenBy c_laid_sums c_laid_leads c_bench_watchers c_notes_delays c_notes_margins c_notes_odds c_kept_0_delays c_kept_0_margins c_kept_0_odds c_kept_1_delays c_kept_1_margins c_kept_1_odds c_keptCount m_length m_text m_roundMany m_blowMany m_blows m_forwards m_downs m_takens m_homes m_noises m_judgeMany m_judges m_delays m_tolds m_tens m_keptMany) : ∃ (oc : Int32 × (Nat → Int32) × Int32 × Int32 × Int32 × (Nat → Int32) × Nat × Nat) (om : Int32 × (Nat → Int32) × (Nat → Int32)), mX10_open x0 x1 x2 c_game_value c_game_zeroPushes c_game_onePushes c_game_before c_game_values c_notes_odds ca_game_values ca_game_before = some oc ∧ mX11_open x0 x1 x2 m_nextValues m_tens m_values = some om ∧ oc.1 = om.1 := by
  obtain ⟨-, -, -, K, hK, rfl, rfl, h0, h1, h2⟩ := hR
  have hC : ∀ k, k < 4 → (c_notes_odds k).toNatClampNeg ≤ 10 ∧ c_notes_odds k = nI ((c_notes_odds k).toNatClampNeg) := by
    intro k hk
    obtain ⟨v, hv, e1, e2⟩ := h0.2.2 k hk
    rw [e1, n_cl (by omega)]
    exact ⟨hv, rfl⟩
  have hM : ∀ k, k < 4 → (c_notes_odds k).toNatClampNeg ≤ 10 ∧ m_tens k = nI ((c_notes_odds k).toNatClampNeg) := by
    intro k hk
    obtain ⟨v, hv, e1, e2⟩ := h0.2.2 k hk
    rw [Nat.mul_zero, Nat.zero_add] at e2
    rw [e1, n_cl (by omega), e2]
    exact ⟨hv, rfl⟩
  unfold mX10_open mX11_open
  rw [X10_isGame_s, X11_gameL, b_some, if10]
  by_cases c1 : ((1 : Int32) ≤ x0 ∧ x0 ≤ 12) ∧ ((-12 : Int32) ≤ x1 ∧ x1 ≤ 12)
  · rw [if_pos c1]
    by_cases c3 : (0 : Int32) ≤ x2 ∧ x2 ≤ 2
    · rw [if_pos ⟨c1.1, c1.2, c3⟩, if_pos c3]
      obtain ⟨n, z, q, rfl, rfl, rfl, hn1, hn2, hz1, hz2, hq⟩ := game_in c1 c3
      obtain ⟨X, hX⟩ : ∃ X : Nat, (X : Int) = 24 + z := ⟨(24 + z).toNat, by omega⟩
      obtain ⟨f, e1, e2⟩ := X4_setEnds_s hn2 hz1 hz2 hX c_game_values
      obtain ⟨o, e3, e4, -⟩ := X4_open_10 hC hX hz1 hz2 hn2 n FUEL 0 f c_game_before c_game_onePushes c_game_value c_game_zeroPushes ca_game_values ca_game_before (by omega) (by unfold FUEL; omega) e2
      obtain ⟨e5, e6, e7⟩ := e4 hn1
      obtain ⟨g, e8, e9⟩ := X11_endValues_s m_values
      obtain ⟨om, e10, e11⟩ := X11_open_29 hM hn1 hn2 hz1 hz2 hq (n - 1) 1 FUEL g m_nextValues (by omega) (by omega) (by unfold FUEL; omega) e9
      have e12 : mX4_playOpen (nI n) (iI z) c_game_value c_game_zeroPushes c_game_onePushes c_game_before c_game_values c_notes_odds ca_game_values ca_game_before = some o := by
        unfold mX4_playOpen
        rw [e1, b_some, lb_d, show nI n - (1 : Int32) = iI ((n : Int) - 1) by rw [nI_iI, i_1, iI_sub]]
        exact e3
      rw [e12, b_some, e8, b_some, e6, e7, e5, result_s hq, b_some]
      refine ⟨_, om, rfl, e10, ?_⟩
      rw [e11]
      unfold openN
      rfl
    · rw [if_neg (fun h => c3 h.2.2), if_neg c3]
      exact ⟨_, _, rfl, rfl, rfl⟩
  · rw [if_neg (fun h => c1 ⟨h.1, h.2.1⟩), if_neg c1]
    exact ⟨_, _, rfl, rfl, rfl⟩
