/-! SEATS: where three sit best -/
def b2n (b : Bool) : Nat := if b = true then 1 else 0
def cnS (x y z s : Nat) : Nat := b2n (nearB x s) + b2n (nearB y s) + b2n (nearB z s)
/-- the blows in the rounds that fewer than m of three see -/
def unS (a : AT) (m x y z : Nat) : Nat := sF (fun k => if bl a (5 * k) < aR a ∧ cnS x y z (bl a (5 * k + 4)) < m then 1 else 0) 0 (aB a)
def shS (a : AT) (d s : Nat) : Nat := sF (fun k => if bl a (5 * k) < aR a ∧ bl a (5 * k + 4) = s then 1 else 0) 0 d
def unT (a : AT) (m x y z : Nat) : Nat := sF (fun s => if cnS x y z s < m then shS a (aB a) s else 0) 0 12
theorem un_eq {a : AT} (hA : OKD a) (m x y z : Nat) : unT a m x y z = unS a m x y z := by
  have key : ∀ d, d ≤ aB a → sF (fun s => if cnS x y z s < m then shS a d s else 0) 0 12 = sF (fun k => if bl a (5 * k) < aR a ∧ cnS x y z (bl a (5 * k + 4)) < m then 1 else 0) 0 d := by
    intro d
    induction d with
    | zero =>
      intro _
      refine sF_nil 12 0 (fun s _ _ => ?_)
      show (if cnS x y z s < m then 0 else 0) = 0
      split <;> rfl
    | succ d ih =>
      intro hd
      have hb := hA.2.2.2.2.1 d (by omega)
      unfold okBl at hb
      rw [sF_snoc (fun k => if bl a (5 * k) < aR a ∧ cnS x y z (bl a (5 * k + 4)) < m then 1 else 0) d 0, Nat.zero_add, ← ih (by omega)]
      by_cases hr : bl a (5 * d) < aR a
      · rw [← sF_upd (p := bl a (5 * d + 4)) 12 0 (by omega) (by omega)]
        refine sF_cong 12 0 (fun s _ _ => ?_)
        have e : shS a (d + 1) s = shS a d s + if bl a (5 * d) < aR a ∧ bl a (5 * d + 4) = s then 1 else 0 := by
          unfold shS
          rw [sF_snoc, Nat.zero_add]
        rw [e]
        by_cases hs : s = bl a (5 * d + 4)
        · subst hs
          rw [if_pos (show bl a (5 * d) < aR a ∧ bl a (5 * d + 4) = bl a (5 * d + 4) from ⟨hr, rfl⟩), if_pos rfl]
          by_cases hc : cnS x y z (bl a (5 * d + 4)) < m
          · rw [if_pos hc, if_pos hc, if_pos ⟨hr, hc⟩]
          · rw [if_neg hc, if_neg hc, if_neg (fun h => hc h.2)]
        · rw [if_neg (show ¬ (bl a (5 * d) < aR a ∧ bl a (5 * d + 4) = s) from fun h => hs h.2.symm), if_neg hs, Nat.add_zero]
      · rw [if_neg (show ¬ (bl a (5 * d) < aR a ∧ cnS x y z (bl a (5 * d + 4)) < m) from fun h => hr h.1)]
        refine Eq.trans ?_ (Nat.add_zero _).symm
        refine sF_cong 12 0 (fun s _ _ => ?_)
        have e : shS a (d + 1) s = shS a d s + if bl a (5 * d) < aR a ∧ bl a (5 * d + 4) = s then 1 else 0 := by
          unfold shS
          rw [sF_snoc, Nat.zero_add]
        rw [e, if_neg (show ¬ (bl a (5 * d) < aR a ∧ bl a (5 * d + 4) = s) from fun h => hr h.1), Nat.add_zero]
  exact key (aB a) (by omega)
theorem unS_le {a : AT} (hA : OKD a) (m x y z : Nat) : unS a m x y z ≤ 40 := by
  have hB := hA.2.1
  have h := sF_le (g := fun k => if bl a (5 * k) < aR a ∧ cnS x y z (bl a (5 * k + 4)) < m then 1 else 0) (m := 1) (N := aB a) (fun k _ => by split <;> omega) (aB a) 0 (by omega)
  unfold unS
  omega
theorem X11_unseen_s {a : AT} {blowMany blows roundMany : Nat → Int32} (hA : OKD a) (hR : roundMany 0 = nI (aR a)) (hB : blowMany 0 = nI (aB a)) (hC : ∀ k, k < 5 * aB a → blows k = nI (bl a k)) {x y z m : Nat} (hx : x < 12) (hy : y < 12) (hz : z < 12) (hm : m < 4) : mX11_unseenBy (nI x) (nI y) (nI z) (nI m) blowMany blows roundMany = some (nI (unS a m x y z)) := by
  have hB2 := hA.2.1
  have hR2 := hA.1
  have key : ∀ (d i n acc : Nat), i + d = aB a → d < n → mX11_unseenBy_L6 (nI x) (nI y) (nI z) (nI m) blowMany blows roundMany n (nI acc) (nI i) = some (nI (acc + sF (fun k => if bl a (5 * k) < aR a ∧ cnS x y z (bl a (5 * k + 4)) < m then 1 else 0) i d)) := by
    intro d
    induction d with
    | zero =>
      intro i n acc hi hn
      obtain ⟨n, rfl⟩ : ∃ q, n = q + 1 := ⟨n - 1, by omega⟩
      rw [eX11_unseenBy_6]
      unfold mX11_unseenBy_B6
      rw [show (0 : Int32).toNatClampNeg = 0 from rfl, hB, if_pos ((n_le (by omega) (by omega)).mpr (by omega))]
      rfl
    | succ d ih =>
      intro i n acc hi hn
      obtain ⟨n, rfl⟩ : ∃ q, n = q + 1 := ⟨n - 1, by omega⟩
      have hb := hA.2.2.2.2.1 i (by omega)
      unfold okBl at hb
      have hs : sF (fun k => if bl a (5 * k) < aR a ∧ cnS x y z (bl a (5 * k + 4)) < m then 1 else 0) i (d + 1) = (if bl a (5 * i) < aR a ∧ cnS x y z (bl a (5 * i + 4)) < m then 1 else 0) + sF (fun k => if bl a (5 * k) < aR a ∧ cnS x y z (bl a (5 * k + 4)) < m then 1 else 0) (i + 1) d := rfl
      have e73 : ∀ p q : Nat, p + q = cnS x y z (bl a (5 * i + 4)) → mX11_unseenBy_B73 (nI x) (nI y) (nI z) (nI m) blowMany blows roundMany (mX11_unseenBy_L6 (nI x) (nI y) (nI z) (nI m) blowMany blows roundMany n) (nI acc) (nI i) (nI p) (nI q) = some (nI (acc + sF (fun k => if bl a (5 * k) < aR a ∧ cnS x y z (bl a (5 * k + 4)) < m then 1 else 0) i (d + 1))) := by
        intro p q hpq
        have hc3 : cnS x y z (bl a (5 * i + 4)) ≤ 3 := by unfold cnS b2n; split <;> split <;> split <;> omega
        unfold mX11_unseenBy_B73
        rw [n_add, hpq, lb_d, n_lit 5, n_mul, gi_n (by omega) (by omega), show (0 : Int32).toNatClampNeg = 0 from rfl, hR, n_cl (by omega), hC _ (by omega), hs, ← Nat.add_assoc]
        by_cases h1 : bl a (5 * i) < aR a
        · rw [if_neg (fun hh => absurd ((n_le (by omega) (by omega)).mp hh) (by omega))]
          by_cases h2 : cnS x y z (bl a (5 * i + 4)) < m
          · rw [if_neg (fun hh => absurd ((n_le (by omega) (by omega)).mp hh) (by omega)), if_pos ⟨h1, h2⟩, n_lit 1, n_add, n_add, lb_d, lb_d]
            exact ih (i + 1) n _ (by omega) (by omega)
          · rw [if_pos ((n_le (by omega) (by omega)).mpr (by omega)), if_neg (fun h => h2 h.2), show (0 : Int32) = nI 0 from rfl, n_lit 1, n_add, n_add, lb_d, lb_d]
            exact ih (i + 1) n _ (by omega) (by omega)
        · rw [if_pos ((n_le (by omega) (by omega)).mpr (by omega)), if_neg (fun h => h1 h.1), show (0 : Int32) = nI 0 from rfl, n_lit 1, n_add, n_add, lb_d, lb_d]
          exact ih (i + 1) n _ (by omega) (by omega)
      have e58 : ∀ p q : Nat, p + q = b2n (nearB x (bl a (5 * i + 4))) + b2n (nearB y (bl a (5 * i + 4))) → mX11_unseenBy_B58 (nI x) (nI y) (nI z) (nI m) blowMany blows roundMany (mX11_unseenBy_L6 (nI x) (nI y) (nI z) (nI m) blowMany blows roundMany n) (nI acc) (nI i) (nI (bl a (5 * i + 4))) (nI p) (nI q) = some (nI (acc + sF (fun k => if bl a (5 * k) < aR a ∧ cnS x y z (bl a (5 * k + 4)) < m then 1 else 0) i (d + 1))) := by
        intro p q hpq
        unfold mX11_unseenBy_B58
        rw [X11_shows_s hz (by omega), b_some, if10, n_add]
        by_cases h : nearB z (bl a (5 * i + 4)) = true
        · rw [if_pos h]
          exact e73 (p + q) 1 (by unfold cnS; rw [hpq]; unfold b2n; rw [if_pos h])
        · rw [if_neg h]
          exact e73 (p + q) 0 (by unfold cnS; rw [hpq]; unfold b2n; rw [if_neg h])
      have e44 : ∀ p : Nat, p = b2n (nearB x (bl a (5 * i + 4))) → mX11_unseenBy_B44 (nI x) (nI y) (nI z) (nI m) blowMany blows roundMany (mX11_unseenBy_L6 (nI x) (nI y) (nI z) (nI m) blowMany blows roundMany n) (nI acc) (nI i) (nI (bl a (5 * i + 4))) (nI p) = some (nI (acc + sF (fun k => if bl a (5 * k) < aR a ∧ cnS x y z (bl a (5 * k + 4)) < m then 1 else 0) i (d + 1))) := by
        intro p hp
        unfold mX11_unseenBy_B44
        rw [X11_shows_s hy (by omega), b_some, if10]
        by_cases h : nearB y (bl a (5 * i + 4)) = true
        · rw [if_pos h]
          exact e58 p 1 (by rw [hp]; unfold b2n; rw [if_pos h])
        · rw [if_neg h]
          exact e58 p 0 (by rw [hp]; unfold b2n; rw [if_neg h])
      rw [eX11_unseenBy_6]
      unfold mX11_unseenBy_B6
      rw [show (0 : Int32).toNatClampNeg = 0 from rfl, hB, if_neg (fun hh => absurd ((n_le (by omega) (by omega)).mp hh) (by omega)), n_lit 5, n_lit 4, n_mul, n_add, gi_n (by omega) (by omega), n_cl (by omega), hC _ (by omega), lb_d, X11_shows_s hx (by omega), b_some, if10]
      by_cases h : nearB x (bl a (5 * i + 4)) = true
      · rw [if_pos h]
        exact e44 1 (by unfold b2n; rw [if_pos h])
      · rw [if_neg h]
        exact e44 0 (by unfold b2n; rw [if_neg h])
  unfold mX11_unseenBy
  refine (key (aB a) 0 FUEL 0 (by omega) (by unfold FUEL; omega)).trans ?_
  rw [Nat.zero_add]
  rfl
/-- three seats, and the bits of those who see a side -/
def bitsB (x y z s : Nat) : Bool := !(decide (x < y) && decide (y < z)) || decide (mJ6_bitCount_0f7a4 (((((1 : Int32) <<< (nI x &&& 31)) ||| ((1 : Int32) <<< (nI y &&& 31))) ||| ((1 : Int32) <<< (nI z &&& 31))) &&& nI (watchS s 12)) = some (nI (cnS x y z s)))
theorem bits_ok : ((List.range 12).all fun x => (List.range 12).all fun y => (List.range 12).all fun z => (List.range 12).all fun s => bitsB x y z s) = true := by decide +kernel
theorem bits_3 (x : Nat) (hx : x < 12) (y : Nat) (hy : y < 12) (z : Nat) (hz : z < 12) (s : Nat) (hs : s < 12) (h : x < y ∧ y < z) : mJ6_bitCount_0f7a4 (((((1 : Int32) <<< (nI x &&& 31)) ||| ((1 : Int32) <<< (nI y &&& 31))) ||| ((1 : Int32) <<< (nI z &&& 31))) &&& nI (watchS s 12)) = some (nI (cnS x y z s)) := by
  have h1 := List.all_eq_true.mp bits_ok x (List.mem_range.mpr hx)
  have h2 := List.all_eq_true.mp h1 y (List.mem_range.mpr hy)
  have h3 := List.all_eq_true.mp h2 z (List.mem_range.mpr hz)
  have h4 := List.all_eq_true.mp h3 s (List.mem_range.mpr hs)
  unfold bitsB at h4
  rw [decide_eq_true h.1, decide_eq_true h.2, Bool.and_self, Bool.not_true, Bool.false_or] at h4
  exact of_decide_eq_true h4
abbrev SS : Type := Option (Nat × Nat × Nat × Nat × Nat)
def sstep (a : AT) (st : SS) (x y z : Nat) : SS :=
  match st with
  | none => some (x, y, z, unS a 2 x y z, unS a 1 x y z)
  | some v => if unS a 2 x y z < v.2.2.2.1 ∨ (unS a 2 x y z = v.2.2.2.1 ∧ unS a 1 x y z < v.2.2.2.2) then some (x, y, z, unS a 2 x y z, unS a 1 x y z) else some v
def fC (a : AT) (x y : Nat) : Nat → Nat → SS → SS
  | _, 0, st => st
  | i, d + 1, st => fC a x y (i + 1) d (sstep a st x y i)
def fB (a : AT) (x : Nat) : Nat → Nat → SS → SS
  | _, 0, st => st
  | i, d + 1, st => fB a x (i + 1) d (fC a x i (i + 1) (11 - i) st)
def fA (a : AT) : Nat → Nat → SS → SS
  | _, 0, st => st
  | i, d + 1, st => fA a (i + 1) d (fB a i (i + 1) (11 - i) st)
theorem sstep_some (a : AT) (st : SS) (x y z : Nat) : ∃ v, sstep a st x y z = some v := by
  unfold sstep
  split
  · exact ⟨_, rfl⟩
  · split
    · exact ⟨_, rfl⟩
    · exact ⟨_, rfl⟩
theorem fC_some (a : AT) (x y : Nat) : ∀ (d i : Nat) (v), ∃ v', fC a x y i d (some v) = some v' := by
  intro d
  induction d with
  | zero => intro i v; exact ⟨v, rfl⟩
  | succ d ih =>
    intro i v
    obtain ⟨v1, e⟩ := sstep_some a (some v) x y i
    show ∃ v', fC a x y (i + 1) d (sstep a (some v) x y i) = some v'
    rw [e]
    exact ih (i + 1) v1
theorem fB_some (a : AT) (x : Nat) : ∀ (d i : Nat) (v), ∃ v', fB a x i d (some v) = some v' := by
  intro d
  induction d with
  | zero => intro i v; exact ⟨v, rfl⟩
  | succ d ih =>
    intro i v
    obtain ⟨v1, e⟩ := fC_some a x i (11 - i) (i + 1) v
    show ∃ v', fB a x (i + 1) d (fC a x i (i + 1) (11 - i) (some v)) = some v'
    rw [e]
    exact ih (i + 1) v1
theorem fA_some (a : AT) : ∀ (d i : Nat) (v), ∃ v', fA a i d (some v) = some v' := by
  intro d
  induction d with
  | zero => intro i v; exact ⟨v, rfl⟩
  | succ d ih =>
    intro i v
    obtain ⟨v1, e⟩ := fB_some a i (11 - i) (i + 1) v
    show ∃ v', fA a (i + 1) d (fB a i (i + 1) (11 - i) (some v)) = some v'
    rw [e]
    exact ih (i + 1) v1
theorem fA_12 (a : AT) : ∃ v, fA a 0 12 none = some v := by
  obtain ⟨v1, e1⟩ := fC_some a 0 1 9 3 (0, 1, 2, unS a 2 0 1 2, unS a 1 0 1 2)
  obtain ⟨v2, e2⟩ := fB_some a 0 10 2 v1
  obtain ⟨v3, e3⟩ := fA_some a 11 1 v2
  refine ⟨v3, ?_⟩
  show fA a 1 11 (fB a 0 2 10 (fC a 0 1 3 9 (some (0, 1, 2, unS a 2 0 1 2, unS a 1 0 1 2)))) = some v3
  rw [e1, e2, e3]
def RB (st : SS) (best : Nat → Int32) : Prop :=
  match st with
  | none => best 3 = nI 41
  | some v => best 0 = nI v.1 ∧ best 1 = nI v.2.1 ∧ best 2 = nI v.2.2.1 ∧ best 3 = nI v.2.2.2.1 ∧ best 4 = nI v.2.2.2.2 ∧ v.1 < 12 ∧ v.2.1 < 12 ∧ v.2.2.1 < 12 ∧ v.2.2.2.1 ≤ 40 ∧ v.2.2.2.2 ≤ 40
def RSeat (st : SS) (l2 l3 : Int32) : Prop :=
  match st with
  | none => l2 = -4
  | some v => l2 = nI (144 * v.1 + 12 * v.2.1 + v.2.2.1) ∧ l3 = nI (100 * v.2.2.2.1 + v.2.2.2.2) ∧ v.1 < 12 ∧ v.2.1 < 12 ∧ v.2.2.1 < 12 ∧ v.2.2.2.1 ≤ 40 ∧ v.2.2.2.2 ≤ 40
theorem X7_try_s {a : AT} (hA : OKD a) {shown watch : Nat → Int32} (hW : RW watch) (hSh : ∀ s, s < 12 → shown s = nI (shS a (aB a) s)) {x y z : Nat} (hxy : x < y) (hyz : y < z) (hz : z < 12) {st : SS} {best : Nat → Int32} (hB : RB st best) : ∃ best', mX7_tryThree (nI x) (nI y) (nI z) best shown watch = some best' ∧ RB (sstep a st x y z) best' := by
  have hB2 := hA.2.1
  have u2 := unS_le hA 2 x y z
  have u1 := unS_le hA 1 x y z
  have hsh : ∀ s, shS a (aB a) s ≤ 40 := by
    intro s
    have h := sF_le (g := fun k => if bl a (5 * k) < aR a ∧ bl a (5 * k + 4) = s then 1 else 0) (m := 1) (N := aB a) (fun k _ => by split <;> omega) (aB a) 0 (by omega)
    unfold shS
    omega
  have fin : ∃ best', (if nI (unS a 2 x y z) < best 3 then mX7_tryThree_B137 (nI x) (nI y) (nI z) shown watch (nI (unS a 2 x y z)) (nI (unS a 1 x y z)) best else (if nI (unS a 2 x y z) = best 3 then (if best 4 ≤ nI (unS a 1 x y z) then some best else mX7_tryThree_B137 (nI x) (nI y) (nI z) shown watch (nI (unS a 2 x y z)) (nI (unS a 1 x y z)) best) else some best)) = some best' ∧ RB (sstep a st x y z) best' := by
    have take : mX7_tryThree_B137 (nI x) (nI y) (nI z) shown watch (nI (unS a 2 x y z)) (nI (unS a 1 x y z)) best = some (upd (upd (upd (upd (upd best 0 (nI x)) 1 (nI y)) 2 (nI z)) 3 (nI (unS a 2 x y z))) 4 (nI (unS a 1 x y z))) := rfl
    have rb : RB (some (x, y, z, unS a 2 x y z, unS a 1 x y z)) (upd (upd (upd (upd (upd best 0 (nI x)) 1 (nI y)) 2 (nI z)) 3 (nI (unS a 2 x y z))) 4 (nI (unS a 1 x y z))) := ⟨rfl, rfl, rfl, rfl, rfl, by show x < 12; omega, by show y < 12; omega, by show z < 12; omega, u2, u1⟩
    cases st with
    | none =>
      have h3 : best 3 = nI 41 := hB
      rw [h3, if_pos ((n_lt (by omega) (by omega)).mpr (by omega)), take]
      exact ⟨_, rfl, rb⟩
    | some v =>
      have hB0 := hB
      obtain ⟨-, -, -, h3, h4, -, -, -, h5, h6⟩ := hB
      rw [h3, h4]
      show ∃ best', _ = some best' ∧ RB (if unS a 2 x y z < v.2.2.2.1 ∨ (unS a 2 x y z = v.2.2.2.1 ∧ unS a 1 x y z < v.2.2.2.2) then some (x, y, z, unS a 2 x y z, unS a 1 x y z) else some v) best'
      by_cases c1 : unS a 2 x y z < v.2.2.2.1
      · rw [if_pos ((n_lt (by omega) (by omega)).mpr c1), if_pos (Or.inl c1), take]
        exact ⟨_, rfl, rb⟩
      · rw [if_neg (fun hh => c1 ((n_lt (by omega) (by omega)).mp hh))]
        by_cases c2 : unS a 2 x y z = v.2.2.2.1
        · rw [if_pos ((n_eq (by omega) (by omega)).mpr c2)]
          by_cases c3 : v.2.2.2.2 ≤ unS a 1 x y z
          · rw [if_pos ((n_le (by omega) (by omega)).mpr c3), if_neg (by omega)]
            exact ⟨_, rfl, hB0⟩
          · rw [if_neg (fun hh => c3 ((n_le (by omega) (by omega)).mp hh)), if_pos (Or.inr ⟨c2, by omega⟩), take]
            exact ⟨_, rfl, rb⟩
        · rw [if_neg (fun hh => c2 ((n_eq (by omega) (by omega)).mp hh)), if_neg (by omega)]
          exact ⟨_, rfl, hB0⟩
  have key : ∀ (d i n f g : Nat), i + d = 12 → d < n → f + sF (fun s => if cnS x y z s < 2 then shS a (aB a) s else 0) i d = unS a 2 x y z → g + sF (fun s => if cnS x y z s < 1 then shS a (aB a) s else 0) i d = unS a 1 x y z → ∃ best', mX7_tryThree_L22 (nI x) (nI y) (nI z) shown watch n ((((1 : Int32) <<< (nI x &&& 31)) ||| ((1 : Int32) <<< (nI y &&& 31))) ||| ((1 : Int32) <<< (nI z &&& 31))) (nI f) (nI g) (nI i) best = some best' ∧ RB (sstep a st x y z) best' := by
    intro d
    induction d with
    | zero =>
      intro i n f g hi hn hf hg
      obtain ⟨n, rfl⟩ : ∃ q, n = q + 1 := ⟨n - 1, by omega⟩
      have hf2 : f = unS a 2 x y z := hf
      have hg2 : g = unS a 1 x y z := hg
      subst hf2
      subst hg2
      rw [eX7_tryThree_22]
      unfold mX7_tryThree_B22
      rw [n_lit 12, if_pos ((n_le (by omega) (by omega)).mpr (by omega)), show (3 : Int32).toNatClampNeg = 3 from rfl, show (4 : Int32).toNatClampNeg = 4 from rfl]
      exact fin
    | succ d ih =>
      intro i n f g hi hn hf hg
      obtain ⟨n, rfl⟩ : ∃ q, n = q + 1 := ⟨n - 1, by omega⟩
      have hc3 : cnS x y z i ≤ 3 := by unfold cnS b2n; split <;> split <;> split <;> omega
      have hs := hsh i
      have hf2 : f + ((if cnS x y z i < 2 then shS a (aB a) i else 0) + sF (fun s => if cnS x y z s < 2 then shS a (aB a) s else 0) (i + 1) d) = unS a 2 x y z := hf
      have hg2 : g + ((if cnS x y z i < 1 then shS a (aB a) i else 0) + sF (fun s => if cnS x y z s < 1 then shS a (aB a) s else 0) (i + 1) d) = unS a 1 x y z := hg
      rw [← Nat.add_assoc] at hf2 hg2
      have nx := ih (i + 1) n _ _ (by omega) (by omega) hf2 hg2
      rw [eX7_tryThree_22]
      unfold mX7_tryThree_B22
      rw [n_lit 12, if_neg (fun hh => absurd ((n_le (a := 12) (by omega) (by omega)).mp hh) (by omega)), gi_n (by omega) (by omega), n_cl (by omega), hSh i (by omega)]
      by_cases c0 : shS a (aB a) i = 0
      · rw [c0, if_pos (by decide), lb_d, n_lit 1, n_add]
        rw [c0] at nx
        simp only [ite_self, Nat.add_zero] at nx
        exact nx
      · rw [if_neg (fun hh => c0 (by have := (n_le (b := 0) (by omega) (by omega)).mp hh; omega)), gi_n (by omega) (by omega), hW i (by omega), bits_3 x (by omega) y (by omega) z hz i (by omega) ⟨hxy, hyz⟩, b_some]
        have e73 : ∀ v : Nat, v = (if cnS x y z i < 2 then shS a (aB a) i else 0) → ∃ best', mX7_tryThree_B73 (nI x) (nI y) (nI z) shown watch (mX7_tryThree_L22 (nI x) (nI y) (nI z) shown watch n) ((((1 : Int32) <<< (nI x &&& 31)) ||| ((1 : Int32) <<< (nI y &&& 31))) ||| ((1 : Int32) <<< (nI z &&& 31))) (nI g) (nI i) (nI (cnS x y z i)) (nI f) (nI v) best = some best' ∧ RB (sstep a st x y z) best' := by
          intro v hv
          unfold mX7_tryThree_B73
          rw [n_add, lb_d, n_lit 1, hv]
          by_cases c1 : 1 ≤ cnS x y z i
          · rw [if_neg (show ¬ cnS x y z i < 1 by omega)] at nx
            rw [if_pos ((n_le (by omega) (by omega)).mpr c1), show (0 : Int32) = nI 0 from rfl, n_add, n_add, lb_d, lb_d]
            exact nx
          · rw [if_pos (show cnS x y z i < 1 by omega)] at nx
            rw [if_neg (fun hh => c1 ((n_le (by omega) (by omega)).mp hh)), gi_n (by omega) (by omega), n_cl (by omega), hSh i (by omega), n_add, n_add, lb_d, lb_d]
            exact nx
        by_cases c2 : 2 ≤ cnS x y z i
        · rw [n_lit 2, if_pos ((n_le (by omega) (by omega)).mpr c2)]
          exact e73 0 (by rw [if_neg (by omega)])
        · rw [n_lit 2, if_neg (fun hh => c2 ((n_le (by omega) (by omega)).mp hh)), gi_n (by omega) (by omega)]
          exact e73 _ (by rw [if_pos (by omega)])
  unfold mX7_tryThree
  rw [lb_d]
  refine key 12 0 FUEL 0 0 (by omega) (by unfold FUEL; omega) ?_ ?_
  · rw [Nat.zero_add]
    exact un_eq hA 2 x y z
  · rw [Nat.zero_add]
    exact un_eq hA 1 x y z
theorem X7_choose_34 {a : AT} (hA : OKD a) {shown watch blows : Nat → Int32} (hW : RW watch) (hSh : ∀ s, s < 12 → shown s = nI (shS a (aB a) s)) (r b : Int32) {x y : Nat} (hxy : x < y) (hy : y < 12) (k14) (k24) : ∀ (d i n : Nat) (st : SS) (best : Nat → Int32), y < i → i + d = 12 → d < n → RB st best → ∃ best', mX7_choose_L34 r b watch blows k14 k24 n (nI x) (nI y) (nI i) shown best = k24 (nI x) (nI (y + 1)) shown best' ∧ RB (fC a x y i d st) best' := by
  intro d
  induction d with
  | zero =>
    intro i n st best h1 hi hn hb
    obtain ⟨n, rfl⟩ : ∃ q, n = q + 1 := ⟨n - 1, by omega⟩
    refine ⟨best, ?_, hb⟩
    rw [eX7_choose_34]
    unfold mX7_choose_B34
    rw [n_lit 12, if_pos ((n_le (by omega) (by omega)).mpr (by omega)), n_lit 1, n_add, lb_d]
  | succ d ih =>
    intro i n st best h1 hi hn hb
    obtain ⟨n, rfl⟩ : ∃ q, n = q + 1 := ⟨n - 1, by omega⟩
    obtain ⟨b1, e1, e2⟩ := X7_try_s hA hW hSh hxy h1 (show i < 12 by omega) hb
    obtain ⟨b2, e3, e4⟩ := ih (i + 1) n _ b1 (by omega) (by omega) (by omega) e2
    refine ⟨b2, ?_, e4⟩
    rw [eX7_choose_34]
    unfold mX7_choose_B34
    rw [n_lit 12, if_neg (fun hh => absurd ((n_le (a := 12) (by omega) (by omega)).mp hh) (by omega)), e1, b_some, n_lit 1, n_add, lb_d]
    exact e3
theorem X7_choose_24 {a : AT} (hA : OKD a) {shown watch blows : Nat → Int32} (hW : RW watch) (hSh : ∀ s, s < 12 → shown s = nI (shS a (aB a) s)) (r b : Int32) {x : Nat} (hx : x < 12) (k14) : ∀ (d i n : Nat) (st : SS) (best : Nat → Int32), x < i → i + d = 12 → d < n → RB st best → ∃ best', mX7_choose_L24 r b watch blows k14 n (nI x) (nI i) shown best = k14 (nI (x + 1)) shown best' ∧ RB (fB a x i d st) best' := by
  intro d
  induction d with
  | zero =>
    intro i n st best h1 hi hn hb
    obtain ⟨n, rfl⟩ : ∃ q, n = q + 1 := ⟨n - 1, by omega⟩
    refine ⟨best, ?_, hb⟩
    rw [eX7_choose_24]
    unfold mX7_choose_B24
    rw [n_lit 12, if_pos ((n_le (by omega) (by omega)).mpr (by omega)), n_lit 1, n_add, lb_d]
  | succ d ih =>
    intro i n st best h1 hi hn hb
    obtain ⟨n, rfl⟩ : ∃ q, n = q + 1 := ⟨n - 1, by omega⟩
    obtain ⟨b1, e1, e2⟩ := X7_choose_34 (blows := blows) hA hW hSh r b h1 (show i < 12 by omega) k14 (mX7_choose_L24 r b watch blows k14 n) (11 - i) (i + 1) FUEL st best (by omega) (by omega) (by unfold FUEL; omega) hb
    obtain ⟨b2, e3, e4⟩ := ih (i + 1) n _ b1 (by omega) (by omega) (by omega) e2
    refine ⟨b2, ?_, e4⟩
    rw [eX7_choose_24]
    unfold mX7_choose_B24
    rw [n_lit 12, if_neg (fun hh => absurd ((n_le (a := 12) (by omega) (by omega)).mp hh) (by omega)), n_lit 1, n_add, lb_d, e1]
    exact e3
theorem X7_choose_14 {a : AT} (hA : OKD a) {shown watch blows : Nat → Int32} (hW : RW watch) (hSh : ∀ s, s < 12 → shown s = nI (shS a (aB a) s)) (r b : Int32) : ∀ (d i n : Nat) (st : SS) (best : Nat → Int32), i + d = 12 → d < n → RB st best → ∃ best', mX7_choose_L14 r b watch blows n (nI i) shown best = some (shown, best') ∧ RB (fA a i d st) best' := by
  intro d
  induction d with
  | zero =>
    intro i n st best hi hn hb
    obtain ⟨n, rfl⟩ : ∃ q, n = q + 1 := ⟨n - 1, by omega⟩
    refine ⟨best, ?_, hb⟩
    rw [eX7_choose_14]
    unfold mX7_choose_B14
    rw [n_lit 12, if_pos ((n_le (by omega) (by omega)).mpr (by omega))]
  | succ d ih =>
    intro i n st best hi hn hb
    obtain ⟨n, rfl⟩ : ∃ q, n = q + 1 := ⟨n - 1, by omega⟩
    obtain ⟨b1, e1, e2⟩ := X7_choose_24 (blows := blows) hA hW hSh r b (show i < 12 by omega) (mX7_choose_L14 r b watch blows n) (11 - i) (i + 1) FUEL st best (by omega) (by omega) (by unfold FUEL; omega) hb
    obtain ⟨b2, e3, e4⟩ := ih (i + 1) n _ b1 (by omega) (by omega) e2
    refine ⟨b2, ?_, e4⟩
    rw [eX7_choose_14]
    unfold mX7_choose_B14
    rw [n_lit 12, if_neg (fun hh => absurd ((n_le (a := 12) (by omega) (by omega)).mp hh) (by omega)), n_lit 1, n_add, lb_d, e1]
    exact e3
theorem X7_shown_s {a : AT} (hA : OKD a) {blows : Nat → Int32} (hC : ∀ k, k < 5 * aB a → blows k = nI (bl a k)) (shown : Nat → Int32) : ∃ sh', mX7_countShown (nI (aR a)) (nI (aB a)) shown blows = some sh' ∧ ∀ s, s < 12 → sh' s = nI (shS a (aB a) s) := by
  have hB := hA.2.1
  have hR := hA.1
  have key : ∀ (d i n : Nat) (sh : Nat → Int32), i + d = aB a → d < n → (∀ s, s < 12 → sh s = nI (shS a i s)) → ∃ sh', mX7_countShown_L10 (nI (aR a)) (nI (aB a)) blows n (nI i) sh = some sh' ∧ ∀ s, s < 12 → sh' s = nI (shS a (aB a) s) := by
    intro d
    induction d with
    | zero =>
      intro i n sh hi hn h
      obtain ⟨n, rfl⟩ : ∃ q, n = q + 1 := ⟨n - 1, by omega⟩
      refine ⟨sh, ?_, fun s hs => by rw [h s hs, show i = aB a by omega]⟩
      rw [eX7_countShown_10]
      unfold mX7_countShown_B10
      rw [if_pos ((n_le (by omega) (by omega)).mpr (by omega))]
    | succ d ih =>
      intro i n sh hi hn h
      obtain ⟨n, rfl⟩ : ∃ q, n = q + 1 := ⟨n - 1, by omega⟩
      have hb := hA.2.2.2.2.1 i (by omega)
      unfold okBl at hb
      have e : ∀ s, shS a (i + 1) s = shS a i s + if bl a (5 * i) < aR a ∧ bl a (5 * i + 4) = s then 1 else 0 := by
        intro s
        unfold shS
        rw [sF_snoc, Nat.zero_add]
      have e0 : mX3_isInRounds (nI i) (nI (aR a)) blows = some (if aR a ≤ bl a (5 * i) then 0 else 1) := by
        unfold mX3_isInRounds
        rw [show (0 : Int32) = nI 0 from rfl, X3_blowPart_s hA hC (by omega) (by omega), b_some, Nat.add_zero]
        by_cases c : aR a ≤ bl a (5 * i)
        · rw [if_pos ((n_le (by omega) (by omega)).mpr c), if_pos c]
        · rw [if_neg (fun hh => c ((n_le (by omega) (by omega)).mp hh)), if_neg c]
      rw [eX7_countShown_10]
      unfold mX7_countShown_B10
      rw [if_neg (fun hh => absurd ((n_le (by omega) (by omega)).mp hh) (by omega)), e0, b_some, n_lit 1, n_add, n_lit 4, X3_blowPart_s hA hC (by omega) (by omega)]
      by_cases c : aR a ≤ bl a (5 * i)
      · rw [if_pos c, if_pos rfl, lb_d]
        exact ih (i + 1) n sh (by omega) (by omega) (fun s hs => by rw [h s hs, e s, if_neg (by omega), Nat.add_zero])
      · rw [if_neg c, if_neg (by decide), b_some, gi_n (by omega) (by omega), gi_n (by omega) (by omega), n_cl (by omega), h _ (by omega), n_add, lb_d, lb_d]
        exact ih (i + 1) n _ (by omega) (by omega) (fun s hs => by
          rw [e s]
          by_cases hp : s = bl a (5 * i + 4)
          · rw [hp, upd_s, if_pos ⟨by omega, rfl⟩]
          · rw [upd_n hp, h s hs, if_neg (fun hh => hp hh.2.symm), Nat.add_zero])
  unfold mX7_countShown
  rw [fill_s _ 12 (by omega), b_some]
  exact key (aB a) 0 FUEL _ (by omega) (by unfold FUEL; omega) (fun s hs => by rw [if_pos hs]; rfl)
/-- the model's -/
theorem X11_seats_try {a : AT} (hA : OKD a) {x0 : Int32} {blowMany blows roundMany : Nat → Int32} (hR : roundMany 0 = nI (aR a)) (hB : blowMany 0 = nI (aB a)) (hC : ∀ k, k < 5 * aB a → blows k = nI (bl a k)) {x y : Nat} (hxy : x < y) (hy : y < 12) (k22) (k35) : ∀ (d i n : Nat) (st : SS) (l2 l3 : Int32), y < i → i + d = 12 → d < n → RSeat st l2 l3 → ∃ l2' l3', mX11_seats_L48 x0 blowMany blows roundMany k22 k35 n l2 l3 (nI x) (nI y) (nI i) = k35 l2' l3' (nI x) (nI (y + 1)) ∧ RSeat (fC a x y i d st) l2' l3' := by
  intro d
  induction d with
  | zero =>
    intro i n st l2 l3 h1 hi hn hb
    obtain ⟨n, rfl⟩ : ∃ q, n = q + 1 := ⟨n - 1, by omega⟩
    refine ⟨l2, l3, ?_, hb⟩
    rw [eX11_seats_48]
    unfold mX11_seats_B48
    rw [n_lit 12, if_pos ((n_le (by omega) (by omega)).mpr (by omega)), n_lit 1, n_add, lb_d]
  | succ d ih =>
    intro i n st l2 l3 h1 hi hn hb
    obtain ⟨n, rfl⟩ : ∃ q, n = q + 1 := ⟨n - 1, by omega⟩
    have u2 := unS_le hA 2 x y i
    have u1 := unS_le hA 1 x y i
    have rl : RSeat (some (x, y, i, unS a 2 x y i, unS a 1 x y i)) (nI (144 * x + 12 * y + i)) (nI (100 * unS a 2 x y i + unS a 1 x y i)) := ⟨rfl, rfl, by show x < 12; omega, hy, by show i < 12; omega, u2, u1⟩
    have take : ∃ l2' l3', mX11_seats_B93 x0 blowMany blows roundMany k22 k35 (mX11_seats_L48 x0 blowMany blows roundMany k22 k35 n) (nI x) (nI y) (nI i) (nI (100 * unS a 2 x y i + unS a 1 x y i)) = k35 l2' l3' (nI x) (nI (y + 1)) ∧ RSeat (fC a x y (i + 1) d (some (x, y, i, unS a 2 x y i, unS a 1 x y i))) l2' l3' := by
      unfold mX11_seats_B93
      rw [n_lit 144, n_lit 12, n_lit 1, n_mul, n_mul, n_add, n_add, n_add, lb_d, lb_d]
      exact ih (i + 1) n _ _ _ (by omega) (by omega) (by omega) rl
    rw [eX11_seats_48]
    unfold mX11_seats_B48
    rw [n_lit 12, if_neg (fun hh => absurd ((n_le (a := 12) (by omega) (by omega)).mp hh) (by omega)), n_lit 2, n_lit 1, X11_unseen_s hA hR hB hC (by omega) hy (by omega) (by omega), b_some, X11_unseen_s hA hR hB hC (by omega) hy (by omega) (by omega), b_some, n_lit 100, n_mul, n_add, lb_d]
    show ∃ l2' l3', _ ∧ RSeat (fC a x y (i + 1) d (sstep a st x y i)) l2' l3'
    cases st with
    | none =>
      have h2 : l2 = -4 := hb
      rw [h2, if_pos (by decide)]
      exact take
    | some v =>
      have hb0 := hb
      obtain ⟨e2, e3, g1, g2, g3, g4, g5⟩ := hb
      rw [e2, e3, if_neg (nI_pos (by omega))]
      show ∃ l2' l3', _ ∧ RSeat (fC a x y (i + 1) d (if unS a 2 x y i < v.2.2.2.1 ∨ (unS a 2 x y i = v.2.2.2.1 ∧ unS a 1 x y i < v.2.2.2.2) then some (x, y, i, unS a 2 x y i, unS a 1 x y i) else some v)) l2' l3'
      by_cases c : 100 * v.2.2.2.1 + v.2.2.2.2 ≤ 100 * unS a 2 x y i + unS a 1 x y i
      · rw [if_pos ((n_le (by omega) (by omega)).mpr c), if_neg (by omega), n_add, lb_d]
        exact ih (i + 1) n _ _ _ (by omega) (by omega) (by omega) ⟨rfl, rfl, g1, g2, g3, g4, g5⟩
      · rw [if_neg (fun hh => c ((n_le (by omega) (by omega)).mp hh)), if_pos (by omega)]
        exact take
theorem X11_seats_35 {a : AT} (hA : OKD a) {x0 : Int32} {blowMany blows roundMany : Nat → Int32} (hR : roundMany 0 = nI (aR a)) (hB : blowMany 0 = nI (aB a)) (hC : ∀ k, k < 5 * aB a → blows k = nI (bl a k)) {x : Nat} (hx : x < 12) (k22) : ∀ (d i n : Nat) (st : SS) (l2 l3 : Int32), x < i → i + d = 12 → d < n → RSeat st l2 l3 → ∃ l2' l3', mX11_seats_L35 x0 blowMany blows roundMany k22 n l2 l3 (nI x) (nI i) = k22 l2' l3' (nI (x + 1)) ∧ RSeat (fB a x i d st) l2' l3' := by
  intro d
  induction d with
  | zero =>
    intro i n st l2 l3 h1 hi hn hb
    obtain ⟨n, rfl⟩ : ∃ q, n = q + 1 := ⟨n - 1, by omega⟩
    refine ⟨l2, l3, ?_, hb⟩
    rw [eX11_seats_35]
    unfold mX11_seats_B35
    rw [n_lit 12, if_pos ((n_le (by omega) (by omega)).mpr (by omega)), n_lit 1, n_add, lb_d]
  | succ d ih =>
    intro i n st l2 l3 h1 hi hn hb
    obtain ⟨n, rfl⟩ : ∃ q, n = q + 1 := ⟨n - 1, by omega⟩
    obtain ⟨m2, m3, e1, e2⟩ := X11_seats_try (x0 := x0) hA hR hB hC h1 (show i < 12 by omega) k22 (mX11_seats_L35 x0 blowMany blows roundMany k22 n) (11 - i) (i + 1) FUEL st l2 l3 (by omega) (by omega) (by unfold FUEL; omega) hb
    obtain ⟨p2, p3, e3, e4⟩ := ih (i + 1) n _ m2 m3 (by omega) (by omega) (by omega) e2
    refine ⟨p2, p3, ?_, e4⟩
    rw [eX11_seats_35]
    unfold mX11_seats_B35
    rw [n_lit 12, if_neg (fun hh => absurd ((n_le (a := 12) (by omega) (by omega)).mp hh) (by omega)), n_lit 1, n_add, lb_d, e1]
    exact e3
theorem X11_seats_22 {a : AT} (hA : OKD a) {q : Nat} (hq : q ≤ 4) {blowMany blows roundMany : Nat → Int32} (hR : roundMany 0 = nI (aR a)) (hB : blowMany 0 = nI (aB a)) (hC : ∀ k, k < 5 * aB a → blows k = nI (bl a k)) {v : Nat × Nat × Nat × Nat × Nat} : ∀ (d i n : Nat) (st : SS) (l2 l3 : Int32), i + d = 12 → d < n → RSeat st l2 l3 → fA a i d st = some v → mX11_seats_L22 (nI q) blowMany blows roundMany n l2 l3 (nI i) = some (nI (if q = 0 then v.1 else if q = 1 then v.2.1 else if q = 2 then v.2.2.1 else if q = 3 then v.2.2.2.1 else v.2.2.2.2)) := by
  intro d
  induction d with
  | zero =>
    intro i n st l2 l3 hi hn hb hv
    obtain ⟨n, rfl⟩ : ∃ q, n = q + 1 := ⟨n - 1, by omega⟩
    have hv2 : st = some v := hv
    subst hv2
    obtain ⟨e2, e3, g1, g2, g3, g4, g5⟩ := hb
    rw [eX11_seats_22]
    unfold mX11_seats_B22
    rw [n_lit 12, if_pos ((n_le (by omega) (by omega)).mpr (by omega)), e2, e3, show (0 : Int32) = nI 0 from rfl, n_lit 1, n_lit 2, n_lit 3, n_lit 144, n_lit 100]
    have r0 : nI (144 * v.1 + 12 * v.2.1 + v.2.2.1) / nI 144 = nI v.1 := by
      rw [pk_div (by omega) (by omega) (by omega)]
      congr 1
      omega
    have r1 : (nI (144 * v.1 + 12 * v.2.1 + v.2.2.1) / nI 12) - (nI (144 * v.1 + 12 * v.2.1 + v.2.2.1) / nI 12) / nI 12 * nI 12 = nI v.2.1 := by
      rw [pk_div (by omega) (by omega) (by omega), pk_rem (by omega) (by omega) (by omega)]
      congr 1
      omega
    have r2 : nI (144 * v.1 + 12 * v.2.1 + v.2.2.1) - nI (144 * v.1 + 12 * v.2.1 + v.2.2.1) / nI 12 * nI 12 = nI v.2.2.1 := by
      rw [pk_rem (by omega) (by omega) (by omega)]
      congr 1
      omega
    have r3 : nI (100 * v.2.2.2.1 + v.2.2.2.2) / nI 100 = nI v.2.2.2.1 := by
      rw [pk_div (by omega) (by omega) (by omega)]
      congr 1
      omega
    have r4 : nI (100 * v.2.2.2.1 + v.2.2.2.2) - nI (100 * v.2.2.2.1 + v.2.2.2.2) / nI 100 * nI 100 = nI v.2.2.2.2 := by
      rw [pk_rem (by omega) (by omega) (by omega)]
      congr 1
      omega
    rw [r0, r1, r2, r4, r3, lb_d, lb_d, lb_d, lb_d, lb_d]
    by_cases c0 : q = 0
    · rw [if_pos ((n_eq (by omega) (by omega)).mpr c0), if_pos c0]
    · rw [if_neg (fun hh => c0 ((n_eq (by omega) (by omega)).mp hh)), if_neg c0]
      by_cases c1 : q = 1
      · rw [if_pos ((n_eq (by omega) (by omega)).mpr c1), if_pos c1]
      · rw [if_neg (fun hh => c1 ((n_eq (by omega) (by omega)).mp hh)), if_neg c1]
        by_cases c2 : q = 2
        · rw [if_pos ((n_eq (by omega) (by omega)).mpr c2), if_pos c2]
        · rw [if_neg (fun hh => c2 ((n_eq (by omega) (by omega)).mp hh)), if_neg c2]
          by_cases c3 : q = 3
          · rw [if_pos ((n_eq (by omega) (by omega)).mpr c3), if_pos c3]
          · rw [if_neg (fun hh => c3 ((n_eq (by omega) (by omega)).mp hh)), if_neg c3]
  | succ d ih =>
    intro i n st l2 l3 hi hn hb hv
    obtain ⟨n, rfl⟩ : ∃ q, n = q + 1 := ⟨n - 1, by omega⟩
    obtain ⟨m2, m3, e1, e2⟩ := X11_seats_35 (x0 := nI q) hA hR hB hC (show i < 12 by omega) (mX11_seats_L22 (nI q) blowMany blows roundMany n) (11 - i) (i + 1) FUEL st l2 l3 (by omega) (by omega) (by unfold FUEL; omega) hb
    rw [eX11_seats_22]
    unfold mX11_seats_B22
    rw [n_lit 12, if_neg (fun hh => absurd ((n_le (a := 12) (by omega) (by omega)).mp hh) (by omega)), n_lit 1, n_add, lb_d, e1]
    exact ih (i + 1) n _ m2 m3 (by omega) (by omega) e2 hv
set_option maxRecDepth 100000 in
theorem api_seats {c_text_length : Int32} {c_text_bytes : Nat → Int32} {c_laid_rounds : Int32} {c_laid_home : Int32} {c_laid_noise : Int32} {c_laid_blowCount : Int32} {c_laid_judgeCount : Int32} {c_laid_blows : Nat → Int32} {c_laid_judges : Nat → Int32} {c_laid_forward : Nat → Int32} {c_laid_downs : Nat → Int32} {c_laid_taken : Nat → Int32} {c_laid_seenBy : Nat → Int32} {c_laid_sums : Nat → Int32} {c_laid_leads : Nat → Int32} {c_bench_watchers : Nat → Int32} {c_notes_delays : Nat → Int32} {c_notes_margins : Nat → Int32} {c_notes_odds : Nat → Int32} {c_kept_0_delays : Nat → Int32} {c_kept_0_margins : Nat → Int32} {c_kept_0_odds : Nat → Int32} {c_kept_1_delays : Nat → Int32} {c_kept_1_margins : Nat → Int32} {c_kept_1_odds : Nat → Int32} {c_keptCount : Int32} {m_length : Int32} {m_text : Nat → Int32} {m_roundMany : Nat → Int32} {m_blowMany : Nat → Int32} {m_blows : Nat → Int32} {m_forwards : Nat → Int32} {m_downs : Nat → Int32} {m_takens : Nat → Int32} {m_homes : Nat → Int32} {m_noises : Nat → Int32} {m_judgeMany : Nat → Int32} {m_judges : Nat → Int32} {m_delays : Nat → Int32} {m_tolds : Nat → Int32} {m_tens : Nat → Int32} {m_keptMany : Int32} (x0 : Int32) (c_bench_best : Nat → Int32) (c_bench_shown : Nat → Int32) (hR : RR c_text_length c_text_bytes c_laid_rounds c_laid_home c_laid_noise c_laid_blowCount c_laid_judgeCount c_laid_blows c_laid_judges c_laid_forward c_laid_downs c_laid_taken c_laid_seenBy c_laid_sums c_laid_leads c_bench_watchers c_notes_delays c_notes_margins c_notes_odds c_kept_0_delays c_kept_0_margins c_kept_0_odds c_kept_1_delays c_kept_1_margins c_kept_1_odds c_keptCount m_length m_text m_roundMany m_blowMany m_blows m_forwards m_downs m_takens m_homes m_noises m_judgeMany m_judges m_delays m_tolds m_tens m_keptMany) : ∃ (oc : Int32 × (Nat → Int32) × (Nat → Int32)) (om : Int32), mX10_seats x0 c_laid_rounds c_laid_blowCount c_bench_best c_bench_shown c_bench_watchers c_laid_blows = some oc ∧ mX11_seats x0 m_blowMany m_blows m_roundMany = some om ∧ oc.1 = om := by
  obtain ⟨-, ⟨a, hA, ⟨rfl, rfl, rfl, rfl, rfl, hC⟩, hS, hM⟩, hW, -⟩ := hR
  unfold mX10_seats mX11_seats
  rw [in_wl 0 4 (by decide) (by decide), wi_bind, wi_bind]
  by_cases c : (0 : Int32) ≤ x0 ∧ x0 ≤ 4
  · rw [if_pos c, if_pos c]
    obtain ⟨q, hq, rfl⟩ := w_n (b := 4) (by omega) c
    obtain ⟨v, hv⟩ := fA_12 a
    obtain ⟨sh, e1, e2⟩ := X7_shown_s hA.1 hC.1 c_bench_shown
    obtain ⟨best, e3, e4⟩ := X7_choose_14 (blows := c_laid_blows) hA.1 hW e2 (nI (aR a)) (nI (aB a)) 12 0 FUEL none (upd c_bench_best 3 (nI 41)) (by omega) (by unfold FUEL; omega) rfl
    rw [hv] at e4
    obtain ⟨b0, b1, b2, b3, b4, -⟩ := e4
    have e5 : mX7_choose c_bench_best (nI (aR a)) (nI (aB a)) c_bench_shown c_bench_watchers c_laid_blows = some (sh, best) := by
      unfold mX7_choose
      rw [e1, b_some, lb_d]
      exact e3
    have e6 := X11_seats_22 (q := q) hA.1 hq hM.1 hM.2.1 hM.2.2.2.2.2.1 12 0 FUEL none (-4) 0 (by omega) (by unfold FUEL; omega) rfl hv
    rw [e5, b_some, gi_n (by omega) (by omega), n_cl (by omega), lb_d]
    refine ⟨_, _, rfl, e6, ?_⟩
    show best q = _
    rcases (show q = 0 ∨ q = 1 ∨ q = 2 ∨ q = 3 ∨ q = 4 by omega) with h | h | h | h | h <;> subst h
    · exact b0
    · exact b1
    · exact b2
    · exact b3
    · exact b4
  · rw [if_neg c, if_neg c]
    exact ⟨_, _, rfl, rfl, rfl⟩
