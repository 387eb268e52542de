/-! the class's coins -/
def ch : Nat → Nat → Nat
  | _, 0 => 1
  | 0, _ + 1 => 0
  | n + 1, i + 1 => ch n i + ch n (i + 1)
theorem ch_top : ∀ N k, N < k → ch N k = 0 := by
  intro N
  induction N with
  | zero =>
    intro k h
    obtain ⟨k, rfl⟩ : ∃ q, k = q + 1 := ⟨k - 1, by omega⟩
    rfl
  | succ N ih =>
    intro k h
    obtain ⟨k, rfl⟩ : ∃ q, k = q + 1 := ⟨k - 1, by omega⟩
    show ch N k + ch N (k + 1) = 0
    rw [ih k (by omega), ih (k + 1) (by omega)]
theorem ch_next : ∀ N, N < 13 → ∀ i, i < 13 → i ≤ N → ch N i * (N - i) / (i + 1) = ch N (i + 1) ∧ ch N i * (N - i) < 100000 := by decide +kernel
theorem ch_0 (N : Nat) : ch N 0 = 1 := by cases N <;> rfl
theorem Gs_ch (s : Int) (f : Int → Nat) : ∀ (N : Nat) (c : Int), sF (fun i => ch N i * f (c + s * (2 * (i : Int) - N))) 0 (N + 1) = Gs s N c f := by
  intro N
  induction N with
  | zero =>
    intro c
    show ch 0 0 * f (c + s * (2 * ((0 : Nat) : Int) - ((0 : Nat) : Int))) + 0 = f c
    rw [show (2 * ((0 : Nat) : Int) - ((0 : Nat) : Int)) = 0 by omega, Int.mul_zero, Int.add_zero, Nat.add_zero]
    exact Nat.one_mul _
  | succ N ih =>
    intro c
    show _ = Gs s N (c + s) f + Gs s N (c - s) f
    rw [← ih (c + s), ← ih (c - s)]
    have e1 : sF (fun i => ch N i * f (c + s + s * (2 * (i : Int) - N))) 0 (N + 1) = sF (fun i => ch N i * f (c + s * (2 * ((i + 1 : Nat) : Int) - ((N + 1 : Nat) : Int)))) 0 (N + 1) := by
      refine sF_cong _ _ (fun k _ _ => ?_)
      have e : c + s + s * (2 * (k : Int) - N) = c + s * (2 * ((k + 1 : Nat) : Int) - ((N + 1 : Nat) : Int)) := by
        rw [show (2 * ((k + 1 : Nat) : Int) - ((N + 1 : Nat) : Int)) = 1 + (2 * (k : Int) - N) by omega, Int.mul_add, Int.mul_one, Int.add_assoc]
      rw [e]
    have e2 : sF (fun i => ch N i * f (c - s + s * (2 * (i : Int) - N))) 0 (N + 1) = sF (fun i => ch N i * f (c + s * (2 * (i : Int) - ((N + 1 : Nat) : Int)))) 0 (N + 1) := by
      refine sF_cong _ _ (fun k _ _ => ?_)
      have e : c - s + s * (2 * (k : Int) - N) = c + s * (2 * (k : Int) - ((N + 1 : Nat) : Int)) := by
        have e9 : s * ((2 * (k : Int) - N) - 1) = s * (2 * (k : Int) - N) - s := by rw [Int.mul_sub s (2 * (k : Int) - N) 1, Int.mul_one]
        rw [show (2 * (k : Int) - ((N + 1 : Nat) : Int)) = (2 * (k : Int) - N) - 1 by omega, e9]
        omega
      rw [e]
    have e3 : sF (fun i => ch (N + 1) i * f (c + s * (2 * (i : Int) - ((N + 1 : Nat) : Int)))) 0 (N + 1 + 1) = ch (N + 1) 0 * f (c + s * (2 * ((0 : Nat) : Int) - ((N + 1 : Nat) : Int))) + sF (fun i => ch (N + 1) i * f (c + s * (2 * (i : Int) - ((N + 1 : Nat) : Int)))) (0 + 1) (N + 1) := rfl
    have e4 : sF (fun i => ch N i * f (c + s * (2 * (i : Int) - ((N + 1 : Nat) : Int)))) 0 (N + 1) + 0 = ch N 0 * f (c + s * (2 * ((0 : Nat) : Int) - ((N + 1 : Nat) : Int))) + sF (fun i => ch N i * f (c + s * (2 * (i : Int) - ((N + 1 : Nat) : Int)))) (0 + 1) (N + 1) := by
      have h : sF (fun i => ch N i * f (c + s * (2 * (i : Int) - ((N + 1 : Nat) : Int)))) 0 (N + 1 + 1) = sF (fun i => ch N i * f (c + s * (2 * (i : Int) - ((N + 1 : Nat) : Int)))) 0 (N + 1) + ch N (0 + (N + 1)) * f (c + s * (2 * ((0 + (N + 1) : Nat) : Int) - ((N + 1 : Nat) : Int))) := sF_snoc (fun i => ch N i * f (c + s * (2 * (i : Int) - ((N + 1 : Nat) : Int)))) (N + 1) 0
      rw [ch_top N (0 + (N + 1)) (by omega), Nat.zero_mul] at h
      exact h.symm
    rw [e1, e2, e3, sF_shift, ch_0]
    rw [sF_shift, ch_0, Nat.add_zero] at e4
    rw [e4, ← Nat.add_left_comm, ← sF_plus (e := fun k => ch (N + 1) (k + 1) * f (c + s * (2 * ((k + 1 : Nat) : Int) - ((N + 1 : Nat) : Int)))) (fun k => by
      show (ch N k + ch N (k + 1)) * _ = _
      rw [Nat.add_mul])]
theorem fillL_s (x : Int64) (N : Nat) (hN : N < 4096) (f : Nat → Int64) : mJ7_fill_d0a16 N x f = some (fun k => if k < N then x else f k) := by
  have key : ∀ (d i n : Nat) (f : Nat → Int64), i + d = N → d < n → mJ7_fill_d0a16_L6 N x n (nI i) (nI N) f = some (fun k => if i ≤ k ∧ k < N then x else f k) := by
    intro d
    induction d with
    | zero =>
      intro i n f hi hn
      obtain ⟨n, rfl⟩ : ∃ q, n = q + 1 := ⟨n - 1, by omega⟩
      rw [eJ7_fill_d0a16_6]
      unfold mJ7_fill_d0a16_B6
      rw [if_pos ((n_le (by omega) (by omega)).mpr (by omega)), show (fun k => if i ≤ k ∧ k < N then x else f k) = f from by funext k; rw [if_neg (by omega)]]
    | succ d ih =>
      intro i n f hi hn
      obtain ⟨n, rfl⟩ : ∃ q, n = q + 1 := ⟨n - 1, by omega⟩
      rw [eJ7_fill_d0a16_6]
      unfold mJ7_fill_d0a16_B6
      rw [if_neg (fun hh => absurd ((n_le (by omega) (by omega)).mp hh) (by omega)), gi_n (by omega) (by omega), lb_d, n_lit 1, n_add, lb_d, n_cl (by omega), ih (i + 1) n _ (by omega) (by omega)]
      congr 1
      funext k
      by_cases h : k = i
      · rw [if_neg (by omega), h, pk_uLs, if_pos (by omega)]
      · rw [pk_uLn h]
        by_cases h2 : i + 1 ≤ k ∧ k < N
        · rw [if_pos h2, if_pos (by omega)]
        · rw [if_neg h2, if_neg (by omega)]
  unfold mJ7_fill_d0a16
  rw [lb_d]
  refine (key N 0 FUEL f (by omega) (by unfold FUEL; omega)).trans ?_
  congr 1
  funext k
  by_cases h : k < N
  · rw [if_pos (by omega), if_pos h]
  · rw [if_neg (by omega), if_neg h]
theorem nS_le {a : AT} (j : Nat) {r : Nat} : nS a j r ≤ r := by
  have h := sF_le (g := fun r => if closeB a j r = true then 1 else 0) (m := 1) (N := r) (fun k _ => by split <;> omega) r 0 (by omega)
  unfold nS
  omega
theorem X2_toss_86 {x0 x1 : Int32} {a1 : Int32} {downs judges leads taken : Nat → Int32} {N q : Nat} (hN : N ≤ 12) (hq : q < 3) {C s : Int} (hC : -1000 ≤ C ∧ C ≤ 1000) (hs : s = 2 ∨ s = 1) (hm : Int32) : ∀ (d i n : Nat) (w : Nat → Int64) (T : Nat → Nat), i + d = N + 1 → d < n → (∀ o, o < 3 → w (3 * q + o) = lN (T o)) → ∃ w', mX2_tossOne_L86 x0 x1 (nI (3 * q)) a1 downs judges leads taken n (nI N) (iI C) (iI s) (lN (ch N i)) (nI i) hm w = some (hm, w') ∧ (∀ o, o < 3 → w' (3 * q + o) = lN (T o + sF (fun i => ch N i * ownF o (C + s * (2 * (i : Int) - N))) i d)) ∧ (∀ k, (k < 3 * q ∨ 3 * q + 3 ≤ k) → w' k = w k) := by
  intro d
  induction d with
  | zero =>
    intro i n w T hi hn h
    obtain ⟨n, rfl⟩ : ∃ q, n = q + 1 := ⟨n - 1, by omega⟩
    refine ⟨w, ?_, h, fun _ _ => rfl⟩
    rw [eX2_tossOne_86]
    unfold mX2_tossOne_B86
    rw [if_pos ((n_lt (by omega) (by omega)).mpr (by omega))]
  | succ d ih =>
    intro i n w T hi hn h
    obtain ⟨n, rfl⟩ : ∃ q, n = q + 1 := ⟨n - 1, by omega⟩
    have hb : -12 ≤ 2 * (i : Int) - N ∧ 2 * (i : Int) - N ≤ 12 := by omega
    have hb2 : -24 ≤ s * (2 * (i : Int) - N) ∧ s * (2 * (i : Int) - N) ≤ 24 := by rcases hs with hs | hs <;> rw [hs] <;> omega
    have ho := ownS_le (C + s * (2 * (i : Int) - N))
    obtain ⟨c1, c2⟩ := ch_next N (by omega) i (by omega) (by omega)
    have ev : iI C + iI s * (nI 2 * nI i - nI N) = iI (C + s * (2 * (i : Int) - N)) := by
      rw [nI_iI 2, nI_iI i, nI_iI N, iI_mul, iI_sub, iI_mul, iI_add]
      rfl
    obtain ⟨w', e1, e2, e3⟩ := ih (i + 1) n (vp_updL w (3 * q + ownS (C + s * (2 * (i : Int) - N))) (lN (T (ownS (C + s * (2 * (i : Int) - N)))) + lN (ch N i))) (fun o => T o + ch N i * ownF o (C + s * (2 * (i : Int) - N))) (by omega) (by omega) (fun o h3 => by
      by_cases hp : o = ownS (C + s * (2 * (i : Int) - N))
      · rw [hp, pk_uLs, lN_add]
        unfold ownF
        rw [if_pos rfl, Nat.mul_one]
      · rw [pk_uLn (by omega), h o h3]
        unfold ownF
        rw [if_neg (fun hh => hp hh.symm), Nat.mul_zero, Nat.add_zero])
    refine ⟨w', ?_, fun o h3 => ?_, fun k hk => ?_⟩
    · rw [eX2_tossOne_86]
      unfold mX2_tossOne_B86
      rw [if_neg (fun hh => absurd ((n_lt (by omega) (by omega)).mp hh) (by omega)), n_lit 2, ev, lb_d, X1_ownerOf_s (by omega), b_some, n_add, lb_d, gi_n (by omega) (by omega), gi_n (by omega) (by omega), n_cl (by omega), h _ (by omega), lb_d, n_lit 1, n_add, n_sub (by omega), nI_l (by omega), nI_l (by omega), lN_mul, pk_lDiv (by omega) (by omega) (by omega), c1]
      unfold gd
      rw [if_pos (show ¬ lN (i + 1) = 0 from fun hh => absurd ((lN_eq (a := i + 1) (b := 0) (by omega) (by omega)).mp hh) (by omega)), lb_d, lb_d]
      exact e1
    · rw [e2 o h3]
      show lN (T o + ch N i * ownF o _ + _) = lN (T o + (ch N i * ownF o _ + _))
      rw [Nat.add_assoc]
    · rw [e3 k hk, pk_uLn (by omega)]
theorem X2_tossOne_s {a : AT} {cjudges cdowns ctaken leads sums seenBy : Nat → Int32} (hA : OKD a) (hC : ∀ k, k < 7 * aJ a → cjudges k = nI (jd a k)) (hd : ∀ k, k < 24 → cdowns k = nI (dn a k)) (ht : ∀ k, k < 24 → ctaken k = nI (tk a k)) (hS : RCs a seenBy sums leads) {p j q : Nat} (hp : p ≤ 1) (hj : j < aJ a) (hq : q < 3) (h0 : Nat) (w : Nat → Int64) (hw : ∀ o, o < 3 → w (3 * q + o) = 0) : ∃ w', mX2_tossOne (nI p) (nI j) (nI (3 * q)) (nI h0) (nI (aR a)) w cdowns cjudges leads ctaken = some (nI (h0 + nS a j (aR a)), w') ∧ (∀ o, o < 3 → w' (3 * q + o) = lN (G3 p a j o)) ∧ (∀ k, (k < 3 * q ∨ 3 * q + 3 ≤ k) → w' k = w k) := by
  have hR := hA.1
  have hn := nS_le (a := a) j (r := aR a)
  have hc := cardS_in hA 2 j
  have key : ∀ (d i n acc : Nat), i + d = aR a → d < n → acc + sF (fun r => if closeB a j r = true then 1 else 0) i d = nS a j (aR a) → ∃ w', mX2_tossOne_L6 (nI p) (nI j) (nI (3 * q)) (nI (aR a)) cdowns cjudges leads ctaken n (nI acc) (nI i) (nI h0) w = some (nI (h0 + nS a j (aR a)), w') ∧ (∀ o, o < 3 → w' (3 * q + o) = lN (G3 p a j o)) ∧ (∀ k, (k < 3 * q ∨ 3 * q + 3 ≤ k) → w' k = w k) := by
    intro d
    induction d with
    | zero =>
      intro i n acc hi hn2 hacc
      obtain ⟨n, rfl⟩ : ∃ q, n = q + 1 := ⟨n - 1, by omega⟩
      have hacc2 : acc = nS a j (aR a) := hacc
      subst hacc2
      obtain ⟨w', e1, e2, e3⟩ := X2_toss_86 (x0 := nI p) (x1 := nI j) (a1 := nI (aR a)) (downs := cdowns) (judges := cjudges) (leads := leads) (taken := ctaken) (N := nS a j (aR a)) (s := sP p) (show nS a j (aR a) ≤ 12 by omega) hq hc (by unfold sP; split <;> omega) (nI (h0 + nS a j (aR a))) (nS a j (aR a) + 1) 0 FUEL w (fun _ => 0) (by omega) (by unfold FUEL; omega) hw
      rw [ch_0] at e1
      refine ⟨w', ?_, fun o h3 => ?_, e3⟩
      · rw [eX2_tossOne_6]
        unfold mX2_tossOne_B6
        rw [if_pos ((n_le (by omega) (by omega)).mpr (by omega)), n_add, lb_d, show (2 : Int32) = nI 2 from rfl, X1_cardBy_s hA hC hd ht hS (by omega) hj, b_some]
        unfold sP at e1
        by_cases c0 : p = 0
        · rw [if_pos c0] at e1
          subst c0
          rw [if_pos (show nI 0 = (0 : Int32) from rfl)]
          exact e1
        · rw [if_neg c0] at e1
          rw [if_neg (show ¬ nI p = (0 : Int32) from fun hh => c0 ((n_eq (by omega) (by omega)).mp (show nI p = nI 0 from hh)))]
          exact e1
      · rw [e2 o h3, Nat.zero_add, Gs_ch]
        rfl
    | succ d ih =>
      intro i n acc hi hn2 hacc
      obtain ⟨n, rfl⟩ : ∃ q, n = q + 1 := ⟨n - 1, by omega⟩
      have hacc2 : acc + ((if closeB a j i = true then 1 else 0) + sF (fun r => if closeB a j r = true then 1 else 0) (i + 1) d) = nS a j (aR a) := hacc
      rw [← Nat.add_assoc] at hacc2
      obtain ⟨w', e1, e2, e3⟩ := ih (i + 1) n _ (by omega) (by omega) hacc2
      refine ⟨w', ?_, e2, e3⟩
      rw [eX2_tossOne_6]
      unfold mX2_tossOne_B6
      rw [if_neg (fun hh => absurd ((n_le (by omega) (by omega)).mp hh) (by omega)), X3_isClose_s hA hC hS hj (by omega), b_some, n_lit 1, n_add, n_add]
      by_cases hcl : closeB a j i = true
      · rw [if_pos hcl] at e1
        rw [if_pos hcl, if_neg (by decide), lb_d, lb_d]
        exact e1
      · rw [if_neg hcl] at e1
        rw [if_neg hcl, if_pos rfl, lb_d, lb_d, show (0 : Int32) = nI 0 from rfl, n_add]
        exact e1
  unfold mX2_tossOne
  exact key (aR a) 0 FUEL 0 (by omega) (by unfold FUEL; omega) (Nat.zero_add _)
theorem X11_coinsOf_s {a : AT} {blowMany blows downs forwards homes judges noises roundMany takens judgeMany : Nat → Int32} (hA : OKD a) (hM : RM a roundMany blowMany blows forwards downs takens homes noises judgeMany judges) {j : Nat} (hj : j < aJ a) : mX11_coinsOf (nI j) blowMany blows forwards homes judges noises roundMany = some (nI (nS a j (aR a))) := by
  have hR := hA.1
  have key : ∀ (d i n acc : Nat), i + d = aR a → d < n → acc + sF (fun r => if closeB a j r = true then 1 else 0) i d = nS a j (aR a) → mX11_coinsOf_L4 (nI j) blowMany blows forwards homes judges noises roundMany n (nI acc) (nI i) = some (nI (nS a j (aR a))) := by
    intro d
    induction d with
    | zero =>
      intro i n acc hi hn2 hacc
      obtain ⟨n, rfl⟩ : ∃ q, n = q + 1 := ⟨n - 1, by omega⟩
      have hacc2 : acc = nS a j (aR a) := hacc
      rw [eX11_coinsOf_4]
      unfold mX11_coinsOf_B4
      rw [show (0 : Int32).toNatClampNeg = 0 from rfl, hM.1, if_pos ((n_le (by omega) (by omega)).mpr (by omega)), hacc2]
    | succ d ih =>
      intro i n acc hi hn2 hacc
      obtain ⟨n, rfl⟩ : ∃ q, n = q + 1 := ⟨n - 1, by omega⟩
      have hacc2 : acc + ((if closeB a j i = true then 1 else 0) + sF (fun r => if closeB a j r = true then 1 else 0) (i + 1) d) = nS a j (aR a) := hacc
      rw [← Nat.add_assoc] at hacc2
      have e1 := ih (i + 1) n _ (by omega) (by omega) hacc2
      rw [eX11_coinsOf_4]
      unfold mX11_coinsOf_B4
      rw [show (0 : Int32).toNatClampNeg = 0 from rfl, hM.1, if_neg (fun hh => absurd ((n_le (by omega) (by omega)).mp hh) (by omega)), X11_isClose_s hA hM hj (by omega), b_some, n_lit 1, n_add, n_add]
      by_cases hcl : closeB a j i = true
      · rw [if_pos hcl] at e1
        rw [if_pos hcl, if_neg (by decide), lb_d, lb_d]
        exact e1
      · rw [if_neg hcl] at e1
        rw [if_neg hcl, if_pos rfl, lb_d, lb_d, show (0 : Int32) = nI 0 from rfl, n_add]
        exact e1
  unfold mX11_coinsOf
  exact key (aR a) 0 FUEL 0 (by omega) (by unfold FUEL; omega) (Nat.zero_add _)
