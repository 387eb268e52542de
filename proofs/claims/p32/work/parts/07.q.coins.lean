/-! COINS: close rounds that are coins -/
theorem sF_snoc (g : Nat → Nat) : ∀ (d i : Nat), sF g i (d + 1) = sF g i d + g (i + d) := by
  intro d
  induction d with
  | zero => intro i; show g i + 0 = 0 + g (i + 0); rw [Nat.add_zero, Nat.zero_add, Nat.add_zero]
  | succ d ih =>
    intro i
    show g i + sF g (i + 1) (d + 1) = g i + sF g (i + 1) d + g (i + (d + 1))
    rw [ih (i + 1), show i + 1 + d = i + (d + 1) by omega]
    omega
theorem sF_shift (g : Nat → Nat) : ∀ (d i : Nat), sF g (i + 1) d = sF (fun k => g (k + 1)) i d := by
  intro d
  induction d with
  | zero => intro i; rfl
  | succ d ih =>
    intro i
    show g (i + 1) + sF g (i + 1 + 1) d = g (i + 1) + sF (fun k => g (k + 1)) (i + 1) d
    rw [ih (i + 1)]
theorem sF_plus {e f g : Nat → Nat} (h : ∀ k, e k = f k + g k) : ∀ (d i : Nat), sF e i d = sF f i d + sF g i d := by
  intro d
  induction d with
  | zero => intro i; rfl
  | succ d ih =>
    intro i
    show e i + sF e (i + 1) d = f i + sF f (i + 1) d + (g i + sF g (i + 1) d)
    rw [ih (i + 1), h i]
    omega
theorem sF_cong {g g' : Nat → Nat} : ∀ (d i : Nat), (∀ k, i ≤ k → k < i + d → g k = g' k) → sF g i d = sF g' i d := by
  intro d
  induction d with
  | zero => intro i _; rfl
  | succ d ih =>
    intro i h
    show g i + sF g (i + 1) d = g' i + sF g' (i + 1) d
    rw [ih (i + 1) (fun k h1 h2 => h k (by omega) (by omega)), h i (by omega) (by omega)]
theorem sF_app (g : Nat → Nat) : ∀ (d e i : Nat), sF g i (d + e) = sF g i d + sF g (i + d) e := by
  intro d
  induction d with
  | zero => intro e i; rw [Nat.zero_add, Nat.add_zero]; exact (Nat.zero_add _).symm
  | succ d ih =>
    intro e i
    rw [show d + 1 + e = (d + e) + 1 by omega]
    show g i + sF g (i + 1) (d + e) = g i + sF g (i + 1) d + sF g (i + (d + 1)) e
    rw [ih e (i + 1), show i + 1 + d = i + (d + 1) by omega, Nat.add_assoc]
theorem sF_nil {g : Nat → Nat} : ∀ (d i : Nat), (∀ k, i ≤ k → k < i + d → g k = 0) → sF g i d = 0 := by
  intro d
  induction d with
  | zero => intro i _; rfl
  | succ d ih =>
    intro i h
    show g i + sF g (i + 1) d = 0
    rw [ih (i + 1) (fun k h1 h2 => h k (by omega) (by omega)), h i (by omega) (by omega)]
theorem sF_upd {g : Nat → Nat} {p x : Nat} : ∀ (d i : Nat), i ≤ p → p < i + d → sF (fun k => if k = p then g k + x else g k) i d = sF g i d + x := by
  intro d
  induction d with
  | zero => intro i h1 h2; exact absurd h2 (by omega)
  | succ d ih =>
    intro i h1 h2
    show (if i = p then g i + x else g i) + sF (fun k => if k = p then g k + x else g k) (i + 1) d = g i + sF g (i + 1) d + x
    by_cases h : i = p
    · rw [if_pos h, sF_cong (g' := g) d (i + 1) (fun k h3 _ => by rw [if_neg (by omega)])]
      omega
    · rw [if_neg h, ih (i + 1) (by omega) (by omega)]
      omega
/-- N coins of s each, from c on: the sum of f over all the ends -/
def Gs (s : Int) : Nat → Int → (Int → Nat) → Nat
  | 0, c, f => f c
  | N + 1, c, f => Gs s N (c + s) f + Gs s N (c - s) f
theorem Gs_shift (s y : Int) (f : Int → Nat) : ∀ (N : Nat) (c : Int), Gs s N c (fun v => f (v + y)) = Gs s N (c + y) f := by
  intro N
  induction N with
  | zero => intro c; rfl
  | succ N ih =>
    intro c
    show Gs s N (c + s) _ + Gs s N (c - s) _ = Gs s N (c + y + s) f + Gs s N (c + y - s) f
    rw [ih, ih, show c + s + y = c + y + s by omega, show c - s + y = c + y - s by omega]
theorem Gs_plus {s : Int} {e f g : Int → Nat} (h : ∀ v, e v = f v + g v) : ∀ (N : Nat) (c : Int), Gs s N c e = Gs s N c f + Gs s N c g := by
  intro N
  induction N with
  | zero => intro c; exact h c
  | succ N ih =>
    intro c
    show Gs s N (c + s) e + Gs s N (c - s) e = Gs s N (c + s) f + Gs s N (c - s) f + (Gs s N (c + s) g + Gs s N (c - s) g)
    rw [ih, ih]
    omega
def sP (p : Nat) : Int := if p = 0 then 2 else 1
def cS (a : AT) (j r : Nat) : Int := 2 * ((takS a 1 : Int) - takS a 0) + sZ (fun r => marginS 2 a j r false) 0 r
def nS (a : AT) (j r : Nat) : Nat := sF (fun r => if closeB a j r = true then 1 else 0) 0 r
def EE (p : Nat) (a : AT) (j : Nat) : Nat → (Int → Nat) → Nat
  | 0, f => f (2 * ((takS a 1 : Int) - takS a 0))
  | r + 1, f => EE p a j r (fun v => f (v + marginS p a j r false) + (if closeB a j r = true then f (v + marginS p a j r true) else 0))
theorem sgS_pm {z : Int} (h : ¬ z = 0) : sgS z = 1 ∨ sgS z = -1 := by
  unfold sgS
  rw [if_neg h]
  split
  · exact Or.inr rfl
  · exact Or.inl rfl
theorem sideS_pm (a : AT) (j : Nat) : ∀ r, sideS a j r = 1 ∨ sideS a j r = -1 := by
  intro r
  induction r with
  | zero =>
    unfold sideS
    split
    · exact Or.inl rfl
    · rename_i h
      exact sgS_pm h
  | succ r ih =>
    unfold sideS
    split
    · exact ih
    · rename_i h
      exact sgS_pm h
theorem marg_open {a : AT} {p j r : Nat} (hp : p ≤ 1) (h : ¬ closeB a j r = true) : marginS p a j r false = marginS 2 a j r false := by
  unfold marginS twoS
  rw [if_neg (show ¬ p = 3 by omega), if_neg (show ¬ (2 : Nat) = 3 by omega)]
  simp only [if_neg h]
  by_cases h0 : p = 0
  · rw [if_pos h0]
    rfl
  · rw [if_neg h0]
    rfl
theorem clipS_id {z m : Int} (h1 : -m ≤ z) (h2 : z ≤ m) : clipS z m = z := by unfold clipS; rw [if_pos h2, if_pos h1]
theorem marg_close {a : AT} (hA : OKD a) {p j r : Nat} (hr : r < 12) (hp : p ≤ 1) (h : closeB a j r = true) : marginS p a j r false = marginS 2 a j r false + sP p * sideS a j r ∧ marginS p a j r true = marginS 2 a j r false - sP p * sideS a j r := by
  have hd := downS_in hA hr
  have hs := sideS_pm a j r
  have e2 : marginS 2 a j r false = 2 * downS a r := by
    unfold marginS twoS
    rw [if_neg (show ¬ (2 : Nat) = 3 by omega), if_neg (show ¬ false = true by decide), if_neg (show ¬ (2 : Nat) = 0 by omega), if_pos h, if_neg (show ¬ (2 : Nat) = 1 by omega), Int.zero_mul, Int.zero_add, clipS_id (by omega) (by omega)]
  have e3 : twoS p a j r = sP p := by
    unfold twoS sP
    by_cases h0 : p = 0
    · rw [if_pos h0, if_pos h0]
    · rw [if_neg h0, if_neg h0, if_pos h, if_pos (by omega)]
  have hsp : sP p = 2 ∨ sP p = 1 := by
    unfold sP
    split
    · exact Or.inl rfl
    · exact Or.inr rfl
  have e : ∀ t, marginS p a j r t = clipS ((if t = true then -sP p else sP p) * sideS a j r + 2 * downS a r) 8 := by
    intro t
    unfold marginS
    rw [if_neg (show ¬ p = 3 by omega), e3]
  rw [e2, e false, e true, if_neg (show ¬ false = true by decide), if_pos rfl]
  rcases hs with hs | hs <;> rcases hsp with hsp | hsp <;> rw [hs, hsp] <;> constructor <;> rw [clipS_id (by omega) (by omega)] <;> omega
theorem EE_s {a : AT} (hA : OKD a) {p j : Nat} (hp : p ≤ 1) : ∀ (r : Nat) (f : Int → Nat), r ≤ 12 → EE p a j r f = Gs (sP p) (nS a j r) (cS a j r) f := by
  intro r
  induction r with
  | zero =>
    intro f _
    show f _ = f _
    unfold cS
    rw [sZ, Int.add_zero]
  | succ r ih =>
    intro f hr
    have ec : cS a j (r + 1) = cS a j r + marginS 2 a j r false := by
      unfold cS
      rw [sZ_last, Nat.zero_add, Int.add_assoc]
    have en : nS a j (r + 1) = nS a j r + if closeB a j r = true then 1 else 0 := by
      unfold nS
      rw [sF_snoc, Nat.zero_add]
    show EE p a j r _ = _
    rw [ih _ (by omega), ec, en]
    by_cases h : closeB a j r = true
    · rw [if_pos h]
      obtain ⟨e1, e2⟩ := marg_close hA (show r < 12 by omega) hp h
      rw [Gs_plus (f := fun v => f (v + marginS p a j r false)) (g := fun v => f (v + marginS p a j r true)) (fun v => by rw [if_pos h]), Gs_shift, Gs_shift, e1, e2]
      show _ = Gs (sP p) (nS a j r) (cS a j r + marginS 2 a j r false + sP p) f + Gs (sP p) (nS a j r) (cS a j r + marginS 2 a j r false - sP p) f
      rcases sideS_pm a j r with hs | hs
      · rw [hs, Int.mul_one, ← Int.add_assoc, ← Int.add_sub_assoc]
      · rw [hs, Int.mul_neg, Int.mul_one, Nat.add_comm, Int.sub_neg, ← Int.add_assoc, ← Int.sub_eq_add_neg, ← Int.add_sub_assoc]
    · rw [if_neg h, Nat.add_zero, ← marg_open hp h, ← Gs_shift]
      congr 1
      funext v
      rw [if_neg h, Nat.add_zero]
/-- the ways are laid -/
def PS (w : Nat → Nat) (f : Int → Nat) : Nat := sF (fun k => w k * f ((k : Int) - 300)) 0 601
def LA (g : Nat → Int64) (w : Nat → Nat) : Prop := ∀ k, k < 601 → g k = lN (w k)
def outB (b : Nat) (w : Nat → Nat) : Prop := ∀ k, k < 601 → (k + b < 300 ∨ 300 + b < k) → w k = 0
theorem PS_upd (w : Nat → Nat) (f : Int → Nat) {p x : Nat} (hp : p < 601) : PS (fun k => if k = p then w k + x else w k) f = PS w f + x * f ((p : Int) - 300) := by
  unfold PS
  rw [← sF_upd 601 0 (Nat.zero_le _) (by omega : p < 0 + 601)]
  refine sF_cong 601 0 (fun k _ _ => ?_)
  show (if k = p then w k + x else w k) * f ((k : Int) - 300) = if k = p then w k * f ((k : Int) - 300) + x * f ((p : Int) - 300) else w k * f ((k : Int) - 300)
  by_cases h : k = p
  · rw [if_pos h, if_pos h, Nat.add_mul, h]
  · rw [if_neg h, if_neg h]
theorem LA_upd {g : Nat → Int64} {w : Nat → Nat} (h : LA g w) {p x : Nat} : LA (vp_updL g p (lN (w p) + lN x)) (fun k => if k = p then w k + x else w k) := by
  intro k hk
  show vp_updL g p _ k = lN (if k = p then w k + x else w k)
  by_cases hp : k = p
  · rw [hp, pk_uLs, if_pos rfl, lN_add]
  · rw [pk_uLn hp, if_neg hp, h k hk]
theorem X11_lay_190 {blowMany blows downs forwards homes judges noises roundMany takens : Nat → Int32} (x0 x1 x2 : Int32) (k53) (r : Nat) (nx t : Nat → Int64) : ∀ (d i n : Nat) (ways : Nat → Int64), i + d = 601 → d < n → (∀ k, k < i → ways k = nx k) → ∃ ways', mX11_layWays_L190 x0 x1 x2 blowMany blows downs forwards homes judges noises roundMany takens k53 n (nI r) (nI i) ways nx t = k53 (nI (r + 1)) ways' nx t ∧ ∀ k, k < 601 → ways' k = nx k := by
  intro d
  induction d with
  | zero =>
    intro i n ways hi hn h
    obtain ⟨n, rfl⟩ : ∃ q, n = q + 1 := ⟨n - 1, by omega⟩
    refine ⟨ways, ?_, fun k hk => h k (by omega)⟩
    rw [eX11_layWays_190]
    unfold mX11_layWays_B190
    rw [n_lit 600, if_pos ((n_lt (by omega) (by omega)).mpr (by omega)), n_lit 1, n_add, lb_d]
  | succ d ih =>
    intro i n ways hi hn h
    obtain ⟨n, rfl⟩ : ∃ q, n = q + 1 := ⟨n - 1, by omega⟩
    obtain ⟨ways', e1, e2⟩ := ih (i + 1) n (vp_updL ways i (nx i)) (by omega) (by omega) (fun k hk => by
      by_cases hp : k = i
      · rw [hp, pk_uLs]
      · rw [pk_uLn hp, h k (by omega)])
    refine ⟨ways', ?_, e2⟩
    rw [eX11_layWays_190]
    unfold mX11_layWays_B190
    rw [n_lit 600, if_neg (fun hh => absurd ((n_lt (a := 600) (by omega) (by omega)).mp hh) (by omega)), gi_n (by omega) (by omega), gi_n (by omega) (by omega), lb_d, n_lit 1, n_add, lb_d, n_cl (by omega)]
    exact e1
theorem X11_lay_98 {blowMany blows downs forwards homes judges noises roundMany takens : Nat → Int32} (x0 x1 x2 l4 l5 l6 l7 : Int32) (k53) (ways t : Nat → Int64) : ∀ (d i n : Nat) (nx : Nat → Int64), i + d = 601 → d < n → (∀ k, k < i → nx k = 0) → ∃ nx', mX11_layWays_L98 x0 x1 x2 blowMany blows downs forwards homes judges noises roundMany takens k53 n l4 l5 l6 l7 (nI i) ways nx t = mX11_layWays_L124 x0 x1 x2 blowMany blows downs forwards homes judges noises roundMany takens k53 FUEL l4 l5 l6 l7 (nI 10) ways nx' t ∧ ∀ k, k < 601 → nx' k = 0 := by
  intro d
  induction d with
  | zero =>
    intro i n nx hi hn h
    obtain ⟨n, rfl⟩ : ∃ q, n = q + 1 := ⟨n - 1, by omega⟩
    refine ⟨nx, ?_, fun k hk => h k (by omega)⟩
    rw [eX11_layWays_98]
    unfold mX11_layWays_B98
    rw [n_lit 600, if_pos ((n_lt (by omega) (by omega)).mpr (by omega))]
    rfl
  | succ d ih =>
    intro i n nx hi hn h
    obtain ⟨n, rfl⟩ : ∃ q, n = q + 1 := ⟨n - 1, by omega⟩
    obtain ⟨nx', e1, e2⟩ := ih (i + 1) n (vp_updL nx i 0) (by omega) (by omega) (fun k hk => by
      by_cases hp : k = i
      · rw [hp, pk_uLs]
      · rw [pk_uLn hp, h k (by omega)])
    refine ⟨nx', ?_, e2⟩
    rw [eX11_layWays_98]
    unfold mX11_layWays_B98
    rw [n_lit 600, if_neg (fun hh => absurd ((n_lt (a := 600) (by omega) (by omega)).mp hh) (by omega)), gi_n (by omega) (by omega), lb_d, n_lit 1, n_add, lb_d, n_cl (by omega)]
    exact e1
theorem X11_lay_124 {blowMany blows downs forwards homes judges noises roundMany takens : Nat → Int32} (x0 x1 x2 : Int32) (k53) (r : Nat) {m0 m1 : Int} (h0 : -8 ≤ m0 ∧ m0 ≤ 8) (h1 : -8 ≤ m1 ∧ m1 ≤ 8) (cl : Bool) {ways : Nat → Int64} {w : Nat → Nat} (hw : LA ways w) {b : Nat} (hb : outB b w) (t : Nat → Int64) : ∀ (d i n : Nat) (nx : Nat → Int64) (v : Nat → Nat), 10 ≤ i → i + d = 591 → d < n → LA nx v → outB (b + 8) v → ∃ nx' v', mX11_layWays_L124 x0 x1 x2 blowMany blows downs forwards homes judges noises roundMany takens k53 n (nI r) (iI m0) (iI m1) (if cl = true then 1 else 0) (nI i) ways nx t = mX11_layWays_L190 x0 x1 x2 blowMany blows downs forwards homes judges noises roundMany takens k53 FUEL (nI r) (nI 0) ways nx' t ∧ LA nx' v' ∧ outB (b + 8) v' ∧ ∀ f : Int → Nat, PS v' f = PS v f + sF (fun k => w k * (f ((k : Int) - 300 + m0) + if cl = true then f ((k : Int) - 300 + m1) else 0)) i d := by
  intro d
  induction d with
  | zero =>
    intro i n nx v h10 hi hn h2 h3
    obtain ⟨n, rfl⟩ : ∃ q, n = q + 1 := ⟨n - 1, by omega⟩
    refine ⟨nx, v, ?_, h2, h3, fun f => (Nat.add_zero _).symm⟩
    rw [eX11_layWays_124]
    unfold mX11_layWays_B124
    rw [n_lit 590, if_pos ((n_lt (by omega) (by omega)).mpr (by omega))]
    rfl
  | succ d ih =>
    intro i n nx v h10 hi hn h2 h3
    obtain ⟨n, rfl⟩ : ∃ q, n = q + 1 := ⟨n - 1, by omega⟩
    obtain ⟨A, hA⟩ : ∃ A : Nat, (A : Int) = i + m0 := ⟨((i : Int) + m0).toNat, by omega⟩
    obtain ⟨B, hB⟩ : ∃ B : Nat, (B : Int) = i + m1 := ⟨((i : Int) + m1).toNat, by omega⟩
    have eA : nI i + iI m0 = nI A := by rw [nI_iI, iI_add, nI_iI, hA]
    have eB : nI i + iI m1 = nI B := by rw [nI_iI, iI_add, nI_iI, hB]
    have g2 := LA_upd h2 (p := A) (x := w i)
    have g3 := LA_upd g2 (p := B) (x := if cl = true then w i else 0)
    have s2 : outB (b + 8) (fun k => if k = A then v k + w i else v k) := by
      intro k hk ho
      show (if k = A then v k + w i else v k) = 0
      by_cases hp : k = A
      · rw [if_pos hp, h3 k hk ho, hb i (by omega) (by omega)]
      · rw [if_neg hp, h3 k hk ho]
    have s3 : outB (b + 8) (fun k => if k = B then (fun k => if k = A then v k + w i else v k) k + (if cl = true then w i else 0) else (fun k => if k = A then v k + w i else v k) k) := by
      intro k hk ho
      show (if k = B then (fun k => if k = A then v k + w i else v k) k + (if cl = true then w i else 0) else (fun k => if k = A then v k + w i else v k) k) = 0
      by_cases hp : k = B
      · rw [if_pos hp, s2 k hk ho]
        by_cases hc : cl = true
        · rw [if_pos hc, hb i (by omega) (by omega)]
        · rw [if_neg hc]
      · rw [if_neg hp, s2 k hk ho]
    obtain ⟨nx', v', e1, e2, e3, e4⟩ := ih (i + 1) n _ _ (by omega) (by omega) (by omega) g3 s3
    refine ⟨nx', v', ?_, e2, e3, fun f => ?_⟩
    · rw [eX11_layWays_124]
      unfold mX11_layWays_B124 mX11_layWays_B179
      rw [n_lit 590, if_neg (fun hh => absurd ((n_lt (a := 590) (by omega) (by omega)).mp hh) (by omega)), eA, eB, lb_d, gi_n (show A < 601 by omega) (by omega), gi_n (show i < 601 by omega) (by omega), gi_n (show A < 601 by omega) (by omega), lb_d, lb_d, gi_n (show B < 601 by omega) (by omega), n_cl (show A < 2147483648 by omega), n_cl (show B < 2147483648 by omega), n_cl (show i < 2147483648 by omega), h2 A (by omega), hw i (by omega), g2 B (by omega)]
      by_cases hc : cl = true
      · rw [if_pos hc, if_neg (by decide), gi_n (show i < 601 by omega) (by omega), gi_n (show B < 601 by omega) (by omega), lb_d, lb_d, n_lit 1, n_add]
        simp only [if_pos hc] at e1
        exact e1
      · rw [if_neg hc, if_pos rfl, gi_n (show B < 601 by omega) (by omega), lb_d, lb_d, n_lit 1, n_add]
        simp only [if_neg hc] at e1
        exact e1
    · rw [e4 f, PS_upd _ f (show B < 601 by omega), PS_upd _ f (show A < 601 by omega)]
      have e5 : sF (fun k => w k * (f ((k : Int) - 300 + m0) + if cl = true then f ((k : Int) - 300 + m1) else 0)) i (d + 1) = w i * (f ((i : Int) - 300 + m0) + if cl = true then f ((i : Int) - 300 + m1) else 0) + sF (fun k => w k * (f ((k : Int) - 300 + m0) + if cl = true then f ((k : Int) - 300 + m1) else 0)) (i + 1) d := rfl
      rw [e5, Nat.mul_add, show (A : Int) - 300 = (i : Int) - 300 + m0 by omega, show (B : Int) - 300 = (i : Int) - 300 + m1 by omega]
      by_cases hc : cl = true
      · simp only [if_pos hc]
        omega
      · simp only [if_neg hc, Nat.zero_mul, Nat.mul_zero]
        omega
theorem margin8 {a : AT} {p j r : Nat} (hp : p ≤ 1) (t : Bool) : -8 ≤ marginS p a j r t ∧ marginS p a j r t ≤ 8 := by
  unfold marginS
  rw [if_neg (by omega)]
  exact clipS_in (by omega)
theorem X11_lay_53 {a : AT} {blowMany blows downs forwards homes judges noises roundMany takens judgeMany : Nat → Int32} (hA : OKD a) (hM : RM a roundMany blowMany blows forwards downs takens homes noises judgeMany judges) {p j : Nat} (hp : p ≤ 1) (hj : j < aJ a) (x2 : Int32) (t : Nat → Int64) : ∀ (d r n : Nat) (ways nx : Nat → Int64) (w : Nat → Nat), r + d = aR a → d < n → LA ways w → outB (72 + 8 * r) w → (∀ f, PS w f = EE p a j r f) → ∃ ways' nx' w', mX11_layWays_L53 (nI p) (nI j) x2 blowMany blows downs forwards homes judges noises roundMany takens n (nI r) ways nx t = mX11_layWays_L227 (nI p) (nI j) x2 blowMany blows downs forwards homes judges noises roundMany takens FUEL (nI 0) ways' nx' t ∧ LA ways' w' ∧ ∀ f, PS w' f = EE p a j (aR a) f := by
  have hR := hA.1
  intro d
  induction d with
  | zero =>
    intro r n ways nx w hr hn h1 h2 h3
    obtain ⟨n, rfl⟩ : ∃ q, n = q + 1 := ⟨n - 1, by omega⟩
    refine ⟨ways, nx, w, ?_, h1, fun f => by rw [h3 f, show r = aR a by omega]⟩
    rw [eX11_layWays_53]
    unfold mX11_layWays_B53
    rw [show (0 : Int32).toNatClampNeg = 0 from rfl, hM.1, if_pos ((n_le (by omega) (by omega)).mpr (by omega))]
    rfl
  | succ d ih =>
    intro r n ways nx w hr hn h1 h2 h3
    obtain ⟨n, rfl⟩ : ∃ q, n = q + 1 := ⟨n - 1, by omega⟩
    have m0 := X11_margin0_s hA hM (show p ≤ 3 by omega) hj (show r < 12 by omega) false
    have m1 := X11_margin0_s hA hM (show p ≤ 3 by omega) hj (show r < 12 by omega) true
    rw [if_neg (by decide)] at m0
    rw [if_pos rfl] at m1
    have b0 := margin8 (a := a) (j := j) (r := r) hp false
    have b1 := margin8 (a := a) (j := j) (r := r) hp true
    obtain ⟨nx1, e1, e2⟩ := X11_lay_98 (blowMany := blowMany) (blows := blows) (downs := downs) (forwards := forwards) (homes := homes) (judges := judges) (noises := noises) (roundMany := roundMany) (takens := takens) (nI p) (nI j) x2 (nI r) (iI (marginS p a j r false)) (iI (marginS p a j r true)) (if closeB a j r = true then 1 else 0) (mX11_layWays_L53 (nI p) (nI j) x2 blowMany blows downs forwards homes judges noises roundMany takens n) ways t 601 0 FUEL nx (by omega) (by unfold FUEL; omega) (fun k hk => absurd hk (by omega))
    obtain ⟨nx2, v2, e3, e4, e5, e6⟩ := X11_lay_124 (blowMany := blowMany) (blows := blows) (downs := downs) (forwards := forwards) (homes := homes) (judges := judges) (noises := noises) (roundMany := roundMany) (takens := takens) (nI p) (nI j) x2 (mX11_layWays_L53 (nI p) (nI j) x2 blowMany blows downs forwards homes judges noises roundMany takens n) r b0 b1 (closeB a j r) h1 h2 t 581 10 FUEL nx1 (fun _ => 0) (by omega) (by omega) (by unfold FUEL; omega) (fun k hk => e2 k hk) (fun _ _ _ => rfl)
    obtain ⟨ways3, e7, e8⟩ := X11_lay_190 (blowMany := blowMany) (blows := blows) (downs := downs) (forwards := forwards) (homes := homes) (judges := judges) (noises := noises) (roundMany := roundMany) (takens := takens) (nI p) (nI j) x2 (mX11_layWays_L53 (nI p) (nI j) x2 blowMany blows downs forwards homes judges noises roundMany takens n) r nx2 t 601 0 FUEL ways (by omega) (by unfold FUEL; omega) (fun k hk => absurd hk (by omega))
    obtain ⟨ways', nx', w', f1, f2, f3⟩ := ih (r + 1) n ways3 nx2 v2 (by omega) (by omega) (fun k hk => by rw [e8 k hk, e4 k hk]) (by rw [show 72 + 8 * (r + 1) = 72 + 8 * r + 8 by omega]; exact e5) (fun f => by
      have e9 : PS (fun _ => 0) f = 0 := sF_nil 601 0 (fun k _ _ => Nat.zero_mul _)
      rw [e6 f, e9, Nat.zero_add]
      show _ = EE p a j r _
      rw [← h3]
      unfold PS
      rw [show (601 : Nat) = 10 + (581 + 10) from rfl, sF_app _ 10 (581 + 10) 0, sF_app _ 581 10 (0 + 10), sF_nil 10 0 (fun k _ hk => by rw [h2 k (by omega) (by omega), Nat.zero_mul]), sF_nil 10 (0 + 10 + 581) (fun k hk1 hk => by rw [h2 k (by omega) (by omega), Nat.zero_mul]), Nat.zero_add, Nat.add_zero])
    refine ⟨ways', nx', w', ?_, f2, f3⟩
    rw [eX11_layWays_53]
    unfold mX11_layWays_B53
    rw [show (0 : Int32).toNatClampNeg = 0 from rfl, hM.1, if_neg (fun hh => absurd ((n_le (by omega) (by omega)).mp hh) (by omega)), m0, b_some, m1, b_some, X11_isClose_s hA hM hj (by omega), b_some]
    exact (e1.trans e3).trans (e7.trans f1)
def ownF (o : Nat) (v : Int) : Nat := if ownS v = o then 1 else 0
theorem X11_lay_254 {blowMany blows downs forwards homes judges noises roundMany takens : Nat → Int32} (x0 x1 : Int32) {q : Nat} (hq : q < 3) {ways : Nat → Int64} {w : Nat → Nat} (hw : LA ways w) (nx : Nat → Int64) : ∀ (d i n : Nat) (t : Nat → Int64) (T : Nat → Nat), i + d = 601 → d < n → (∀ o, o < 3 → t (3 * q + o) = lN (T o)) → ∃ t', mX11_layWays_L254 x0 x1 (nI q) blowMany blows downs forwards homes judges noises roundMany takens n (nI i) ways nx t = some (ways, nx, t') ∧ (∀ o, o < 3 → t' (3 * q + o) = lN (T o + sF (fun k => w k * ownF o ((k : Int) - 300)) i d)) ∧ (∀ k, (k < 3 * q ∨ 3 * q + 3 ≤ k) → t' k = t k) := by
  intro d
  induction d with
  | zero =>
    intro i n t T hi hn h
    obtain ⟨n, rfl⟩ : ∃ q, n = q + 1 := ⟨n - 1, by omega⟩
    refine ⟨t, ?_, h, fun _ _ => rfl⟩
    rw [eX11_layWays_254]
    unfold mX11_layWays_B254
    rw [n_lit 600, if_pos ((n_lt (by omega) (by omega)).mpr (by omega))]
  | succ d ih =>
    intro i n t T hi hn h
    obtain ⟨n, rfl⟩ : ∃ q, n = q + 1 := ⟨n - 1, by omega⟩
    have ho := ownS_le ((i : Int) - 300)
    obtain ⟨t', e1, e2, e3⟩ := ih (i + 1) n (vp_updL t (3 * q + ownS ((i : Int) - 300)) (lN (T (ownS ((i : Int) - 300))) + lN (w i))) (fun o => T o + w i * ownF o ((i : Int) - 300)) (by omega) (by omega) (fun o h3 => by
      by_cases hp : o = ownS ((i : Int) - 300)
      · rw [hp, pk_uLs, lN_add]
        unfold ownF
        rw [if_pos rfl, Nat.mul_one]
      · rw [pk_uLn (by omega), h o h3]
        unfold ownF
        rw [if_neg (fun hh => hp hh.symm), Nat.mul_zero, Nat.add_zero])
    refine ⟨t', ?_, fun o h3 => ?_, fun k hk => ?_⟩
    · have step : ∀ o : Nat, o = ownS ((i : Int) - 300) → mX11_layWays_B294 x0 x1 (nI q) blowMany blows downs forwards homes judges noises roundMany takens (mX11_layWays_L254 x0 x1 (nI q) blowMany blows downs forwards homes judges noises roundMany takens n) (nI i) (nI 3 * nI q) (nI o) ways nx t = some (ways, nx, t') := by
        intro o h3
        subst h3
        unfold mX11_layWays_B294
        simp only [lb_d]
        rw [n_mul, n_add, gi_n (show 3 * q + ownS ((i : Int) - 300) < 9 by omega) (by omega), gi_n (show i < 601 by omega) (by omega), gi_n (show 3 * q + ownS ((i : Int) - 300) < 9 by omega) (by omega), n_cl (show 3 * q + ownS ((i : Int) - 300) < 2147483648 by omega), n_cl (show i < 2147483648 by omega), h _ (by omega), hw i (by omega), n_lit 1, n_add]
        exact e1
      rw [eX11_layWays_254]
      unfold mX11_layWays_B254
      rw [n_lit 600, if_neg (fun hh => absurd ((n_lt (a := 600) (by omega) (by omega)).mp hh) (by omega)), n_lit 300, n_lit 3, n_lit 2, n_lit 1, show (0 : Int32) = nI 0 from rfl]
      unfold ownS at step
      by_cases c1 : i ≤ 300
      · rw [if_pos ((n_le (by omega) (by omega)).mpr c1)]
        by_cases c2 : 300 ≤ i
        · rw [if_pos ((n_le (by omega) (by omega)).mpr c2)]
          exact step 2 (by rw [if_pos (by omega)])
        · rw [if_neg (fun hh => c2 ((n_le (by omega) (by omega)).mp hh))]
          exact step 1 (by rw [if_neg (by omega), if_pos (by omega)])
      · rw [if_neg (fun hh => c1 ((n_le (by omega) (by omega)).mp hh))]
        exact step 0 (by rw [if_neg (by omega), if_neg (by omega)])
    · rw [e2 o h3]
      show lN (T o + w i * ownF o ((i : Int) - 300) + _) = lN (T o + (w i * ownF o ((i : Int) - 300) + _))
      rw [Nat.add_assoc]
    · rw [e3 k hk, pk_uLn (by omega)]
theorem X11_lay_227 {blowMany blows downs forwards homes judges noises roundMany takens : Nat → Int32} (x0 x1 : Int32) {q : Nat} (hq : q < 3) (ways nx : Nat → Int64) : ∀ (d i n : Nat) (t : Nat → Int64), i + d = 3 → d < n → (∀ o, o < i → t (3 * q + o) = 0) → ∃ t', mX11_layWays_L227 x0 x1 (nI q) blowMany blows downs forwards homes judges noises roundMany takens n (nI i) ways nx t = mX11_layWays_L254 x0 x1 (nI q) blowMany blows downs forwards homes judges noises roundMany takens FUEL (nI 0) ways nx t' ∧ (∀ o, o < 3 → t' (3 * q + o) = lN 0) ∧ (∀ k, (k < 3 * q ∨ 3 * q + 3 ≤ k) → t' k = t k) := by
  intro d
  induction d with
  | zero =>
    intro i n t hi hn h
    obtain ⟨n, rfl⟩ : ∃ q, n = q + 1 := ⟨n - 1, by omega⟩
    refine ⟨t, ?_, fun o h3 => h o (by omega), fun _ _ => rfl⟩
    rw [eX11_layWays_227]
    unfold mX11_layWays_B227
    rw [n_lit 3, if_pos ((n_le (by omega) (by omega)).mpr (by omega))]
    rfl
  | succ d ih =>
    intro i n t hi hn h
    obtain ⟨n, rfl⟩ : ∃ q, n = q + 1 := ⟨n - 1, by omega⟩
    obtain ⟨t', e1, e2, e3⟩ := ih (i + 1) n (vp_updL t (3 * q + i) 0) (by omega) (by omega) (fun o h3 => by
      by_cases hp : o = i
      · rw [hp, pk_uLs]
      · rw [pk_uLn (by omega), h o (by omega)])
    refine ⟨t', ?_, e2, fun k hk => by rw [e3 k hk, pk_uLn (by omega)]⟩
    rw [eX11_layWays_227]
    unfold mX11_layWays_B227
    rw [n_lit 3, if_neg (fun hh => absurd ((n_le (a := 3) (by omega) (by omega)).mp hh) (by omega)), n_mul, n_add, gi_n (by omega) (by omega), lb_d, n_lit 1, n_add, lb_d, n_cl (by omega)]

    exact e1
def G3 (p : Nat) (a : AT) (j o : Nat) : Nat := Gs (sP p) (nS a j (aR a)) (cardS 2 a j) (ownF o)
theorem X11_layWays_s {a : AT} {blowMany blows downs forwards homes judges noises roundMany takens judgeMany : Nat → Int32} (hA : OKD a) (hM : RM a roundMany blowMany blows forwards downs takens homes noises judgeMany judges) {p j q : Nat} (hp : p ≤ 1) (hj : j < aJ a) (hq : q < 3) (nx t ways : Nat → Int64) : ∃ o, mX11_layWays (nI p) (nI j) (nI q) blowMany blows downs forwards homes judges nx noises roundMany takens t ways = some o ∧ (∀ i, i < 3 → o.2.2 (3 * q + i) = lN (G3 p a j i)) ∧ (∀ k, (k < 3 * q ∨ 3 * q + 3 ≤ k) → o.2.2 k = t k) := by
  have hR := hA.1
  have t0 := takS_le hA (show 0 < 2 by omega)
  have t1 := takS_le hA (show 1 < 2 by omega)
  obtain ⟨S, hS⟩ : ∃ S : Nat, (S : Int) = 300 + 2 * ((takS a 1 : Int) - takS a 0) := ⟨(300 + 2 * ((takS a 1 : Int) - takS a 0)).toNat, by omega⟩
  have eS : (((300 : Int32) + ((2 : Int32) * nI (takS a 1))) - ((2 : Int32) * nI (takS a 0))) = nI S := by
    rw [show (300 : Int32) = iI 300 from iI_lit 300, i_2, nI_iI, nI_iI, iI_mul, iI_mul, iI_add, iI_sub, nI_iI]
    congr 1
    omega
  have l3 : ∀ (d i n : Nat) (ways : Nat → Int64), i + d = 601 → d < n → (∀ k, k < i → ways k = 0) → ∃ ways', mX11_layWays_L3 (nI p) (nI j) (nI q) blowMany blows downs forwards homes judges noises roundMany takens n (nI i) ways nx t = mX11_layWays_L53 (nI p) (nI j) (nI q) blowMany blows downs forwards homes judges noises roundMany takens FUEL (nI 0) (vp_updL ways' S 1) nx t ∧ ∀ k, k < 601 → ways' k = 0 := by
    intro d
    induction d with
    | zero =>
      intro i n ways hi hn h
      obtain ⟨n, rfl⟩ : ∃ q, n = q + 1 := ⟨n - 1, by omega⟩
      refine ⟨ways, ?_, fun k hk => h k (by omega)⟩
      rw [eX11_layWays_3]
      unfold mX11_layWays_B3
      rw [n_lit 600, if_pos ((n_lt (by omega) (by omega)).mpr (by omega)), n_lit 1, X11_takenOf_s hA hM.1 hM.2.2.2.2.2.2.2.2.2 (by omega), b_some, show mX11_takenOf (0 : Int32) = mX11_takenOf (nI 0) from rfl, X11_takenOf_s hA hM.1 hM.2.2.2.2.2.2.2.2.2 (by omega), b_some, eS, gi_n (by omega) (by omega), n_cl (by omega), lb_d]
      rfl
    | succ d ih =>
      intro i n ways hi hn h
      obtain ⟨n, rfl⟩ : ∃ q, n = q + 1 := ⟨n - 1, by omega⟩
      obtain ⟨ways', e1, e2⟩ := ih (i + 1) n (vp_updL ways i 0) (by omega) (by omega) (fun k hk => by
        by_cases hp : k = i
        · rw [hp, pk_uLs]
        · rw [pk_uLn hp, h k (by omega)])
      refine ⟨ways', ?_, e2⟩
      rw [eX11_layWays_3]
      unfold mX11_layWays_B3
      rw [n_lit 600, if_neg (fun hh => absurd ((n_lt (a := 600) (by omega) (by omega)).mp hh) (by omega)), gi_n (by omega) (by omega), lb_d, n_lit 1, n_add, lb_d, n_cl (by omega)]
      exact e1
  obtain ⟨w0, e1, e2⟩ := l3 601 0 FUEL ways (by omega) (by unfold FUEL; omega) (fun k hk => absurd hk (by omega))
  have hL0 : LA (vp_updL w0 S 1) (fun k => if k = S then (fun _ => 0) k + 1 else (fun _ => 0) k) := LA_upd (g := w0) (w := fun _ => 0) (p := S) (x := 1) (fun k hk => e2 k hk)
  obtain ⟨w1, nx1, u1, e3, e4, e5⟩ := X11_lay_53 hA hM hp hj (nI q) t (aR a) 0 FUEL (vp_updL w0 S 1) nx _ (by omega) (by unfold FUEL; omega) hL0 (fun k hk ho => by
    show (if k = S then 0 + 1 else 0) = 0
    rw [if_neg (by omega)]) (fun f => by
    rw [PS_upd (fun _ => 0) f (show S < 601 by omega)]
    have e9 : PS (fun _ => 0) f = 0 := sF_nil 601 0 (fun k _ _ => Nat.zero_mul _)
    rw [e9, Nat.zero_add, Nat.one_mul, show (S : Int) - 300 = 2 * ((takS a 1 : Int) - takS a 0) by omega]
    rfl)
  obtain ⟨t2, e6, e7, e8⟩ := X11_lay_227 (blowMany := blowMany) (blows := blows) (downs := downs) (forwards := forwards) (homes := homes) (judges := judges) (noises := noises) (roundMany := roundMany) (takens := takens) (nI p) (nI j) hq w1 nx1 3 0 FUEL t (by omega) (by unfold FUEL; omega) (fun k hk => absurd hk (by omega))
  obtain ⟨t3, e9, e10, e11⟩ := X11_lay_254 (blowMany := blowMany) (blows := blows) (downs := downs) (forwards := forwards) (homes := homes) (judges := judges) (noises := noises) (roundMany := roundMany) (takens := takens) (nI p) (nI j) hq e4 nx1 601 0 FUEL t2 (fun _ => 0) (by omega) (by unfold FUEL; omega) e7
  refine ⟨(w1, nx1, t3), ?_, fun i hi => ?_, fun k hk => (e11 k hk).trans (e8 k hk)⟩
  · unfold mX11_layWays
    exact (e1.trans e3).trans (e6.trans e9)
  · refine (e10 i hi).trans ?_
    rw [Nat.zero_add]
    have e12 := e5 (ownF i)
    unfold PS at e12
    rw [e12, EE_s hA hp (aR a) _ (by omega)]
    rfl
