/-! BUTTONS -/
def Wp (a : AT) (dl : Nat → Nat) (r c j s k : Nat) : Nat := if bl a (5 * k) = r ∧ bl a (5 * k + 2) = c then (if seesB a j k = true ∧ bl a (5 * k + 1) + dl j = s then 1 else 0) else 0
theorem X0_heads_s {a : AT} {cdl blows seenBy sums leads : Nat → Int32} (hA : OKD a) (hS : RCs a seenBy sums leads) {r c m : Nat} {rv : Nat → Nat} (hr : RowOK a r c (aB a) m rv) {row : Nat → Int32} (hrow : ∀ t, t < m → row t = nI (rv t)) (x0 x1 x2 x3 bc : Int32) : ∀ (d j n : Nat) (heads : Nat → Int32), j + d = aJ a → d < n → (∀ k, k < j → heads k = nI (nx a rv k m 0)) → ∃ heads', mX0_pointsOf_L9 x0 x1 x2 x3 bc (nI (aJ a)) blows seenBy cdl n (nI j) (nI m) row heads = ((mX0_firstPresser (nI m) (nI (aJ a)) heads' row blows cdl).bind fun o4 => mX0_pointsOf_L53 x0 x1 x2 x3 bc (nI (aJ a)) blows seenBy cdl FUEL (nI 0) o4 (nI 0) (nI m) row heads') ∧ ∀ k, k < aJ a → heads' k = nI (nx a rv k m 0) := by
  have hJ := hA.2.2.1
  intro d
  induction d with
  | zero =>
    intro j n heads hj hn h
    obtain ⟨n, rfl⟩ : ∃ q, n = q + 1 := ⟨n - 1, by omega⟩
    refine ⟨heads, ?_, fun k hk => h k (by omega)⟩
    rw [eX0_pointsOf_9]
    unfold mX0_pointsOf_B9
    rw [if_pos ((n_le (by omega) (by omega)).mpr (by omega))]
    rfl
  | succ d ih =>
    intro j n heads hj hn h
    obtain ⟨n, rfl⟩ : ∃ q, n = q + 1 := ⟨n - 1, by omega⟩
    obtain ⟨heads', e1, e2⟩ := ih (j + 1) n (upd heads j (nI (nx a rv j m 0))) (by omega) (by omega) (fun k hk => by
      by_cases hkj : k = j
      · rw [hkj, upd_s]
      · rw [upd_n hkj, h k (by omega)])
    refine ⟨heads', ?_, e2⟩
    have hs := X0_seenFrom_s hA hS hr hrow (show j < aJ a by omega) (show 0 ≤ m by omega)
    rw [Nat.sub_zero] at hs
    rw [eX0_pointsOf_9]
    unfold mX0_pointsOf_B9
    rw [if_neg (fun hh => absurd ((n_le (by omega) (by omega)).mp hh) (by omega)), show mX0_seenFrom (nI j) (0 : Int32) = mX0_seenFrom (nI j) (nI 0) from rfl, hs, b_some, gi_n (by omega) (by omega), n_cl (by omega), lb_d, nI_1, lb_d]
    exact e1
theorem X11_presses_42 {a : AT} {bm bls dls fws dns tks hms nss jm jds rm : Nat → Int32} (hA : OKD a) (hM : RM a rm bm bls fws dns tks hms nss jm jds) {dl : Nat → Nat} (hdl : ∀ j, j < 8 → dl j ≤ 9) (hmd : ∀ j, j < 8 → dls j = nI (dl j)) {r c : Nat} (hr : r < 12) (hc : c < 2) (x2 x3 : Int32) (k28) {i : Nat} (hi : i < aB a) : ∀ (d j n : Nat) (pr : Nat → Int32) (V : Nat → Nat → Nat), j + d = aJ a → d < n → (∀ s k, s < 190 → k < 8 → pr (8 * s + k) = nI (V s k)) → ∃ pr', mX11_pointsBy_L42 (nI r) (nI c) x2 x3 bm bls dls jm jds k28 n (nI i) (nI j) pr = k28 (nI (i + 1)) pr' ∧ ∀ s k, s < 190 → k < 8 → pr' (8 * s + k) = nI (V s k + if j ≤ k ∧ k < aJ a then Wp a dl r c k s i else 0) := by
  have hB := hA.2.1
  have hJ := hA.2.2.1
  have hb := hA.2.2.2.2.1 i hi
  unfold okBl at hb
  have hbl := hM.2.2.2.2.2.1
  intro d
  induction d with
  | zero =>
    intro j n pr V hj hn h
    obtain ⟨n, rfl⟩ : ∃ q, n = q + 1 := ⟨n - 1, by omega⟩
    refine ⟨pr, ?_, fun s k hs hk => by rw [if_neg (by omega), Nat.add_zero]; exact h s k hs hk⟩
    rw [eX11_pointsBy_42]
    unfold mX11_pointsBy_B42
    rw [show (0 : Int32).toNatClampNeg = 0 from rfl, hM.2.2.1, if_pos ((n_le (by omega) (by omega)).mpr (by omega)), nI_1, lb_d]
  | succ d ih =>
    intro j n pr V hj hn h
    obtain ⟨n, rfl⟩ : ∃ q, n = q + 1 := ⟨n - 1, by omega⟩
    have stay : (∀ s, s < 190 → Wp a dl r c j s i = 0) → ∃ pr', mX11_pointsBy_L42 (nI r) (nI c) x2 x3 bm bls dls jm jds k28 n (nI i) (nI (j + 1)) pr = k28 (nI (i + 1)) pr' ∧ ∀ s k, s < 190 → k < 8 → pr' (8 * s + k) = nI (V s k + if j ≤ k ∧ k < aJ a then Wp a dl r c k s i else 0) := by
      intro hw
      obtain ⟨pr', e1, e2⟩ := ih (j + 1) n pr V (by omega) (by omega) h
      refine ⟨pr', e1, fun s k hs hk => ?_⟩
      rw [e2 s k hs hk]
      by_cases c1 : k = j
      · rw [if_neg (by omega), if_pos (by omega), c1, hw s hs]
      · by_cases c2 : j + 1 ≤ k ∧ k < aJ a
        · rw [if_pos c2, if_pos (by omega)]
        · rw [if_neg c2, if_neg (by omega)]
    rw [eX11_pointsBy_42]
    unfold mX11_pointsBy_B42
    rw [show (0 : Int32).toNatClampNeg = 0 from rfl, hM.2.2.1, if_neg (fun hh => absurd ((n_le (by omega) (by omega)).mp hh) (by omega)), n_lit 5, n_mul, gi_n (by omega) (by omega), n_cl (by omega), hbl _ (by omega), n_lit 2, n_add, nI_1]
    by_cases c1 : bl a (5 * i) = r
    · rw [if_pos ((n_eq (by omega) (by omega)).mpr c1), gi_n (by omega) (by omega), n_cl (by omega), hbl _ (by omega)]
      by_cases c2 : bl a (5 * i + 2) = c
      · rw [if_pos ((n_eq (by omega) (by omega)).mpr c2), X11_sees_s hA hM (by omega) hi, b_some, if10]
        by_cases c3 : seesB a j i = true
        · have hd9 := hdl j (by omega)
          rw [if_pos c3, nI_1, gi_n (by omega) (by omega), gi_n (by omega) (by omega), n_cl (by omega), n_cl (by omega), hbl _ (by omega), hmd j (by omega), n_lit 8, n_add, n_mul, n_add, lb_d, gi_n (by omega) (by omega), gi_n (by omega) (by omega), n_cl (by omega), h _ j (by omega) (by omega), nI_1, lb_d, lb_d]
          obtain ⟨pr', e1, e2⟩ := ih (j + 1) n (upd pr (8 * (bl a (5 * i + 1) + dl j) + j) (nI (V (bl a (5 * i + 1) + dl j) j + 1))) (fun s k => if s = bl a (5 * i + 1) + dl j ∧ k = j then V s k + 1 else V s k) (by omega) (by omega) (fun s k hs hk => by
            by_cases c4 : s = bl a (5 * i + 1) + dl j ∧ k = j
            · rw [if_pos c4, c4.1, c4.2, upd_s]
            · rw [if_neg c4, upd_n (by omega), h s k hs hk])
          refine ⟨pr', e1, fun s k hs hk => ?_⟩
          rw [e2 s k hs hk]
          by_cases c5 : k = j
          · rw [if_neg (show ¬ (j + 1 ≤ k ∧ k < aJ a) by omega), if_pos (show j ≤ k ∧ k < aJ a by omega), c5]
            have hW : Wp a dl r c j s i = if s = bl a (5 * i + 1) + dl j then 1 else 0 := by
              unfold Wp
              rw [if_pos (show bl a (5 * i) = r ∧ bl a (5 * i + 2) = c from ⟨c1, c2⟩)]
              by_cases c6 : s = bl a (5 * i + 1) + dl j
              · rw [if_pos c6, if_pos (show seesB a j i = true ∧ bl a (5 * i + 1) + dl j = s from ⟨c3, c6.symm⟩)]
              · rw [if_neg c6, if_neg (show ¬ (seesB a j i = true ∧ bl a (5 * i + 1) + dl j = s) from fun hh => c6 hh.2.symm)]
            rw [hW]
            show nI ((if s = bl a (5 * i + 1) + dl j ∧ j = j then V s j + 1 else V s j) + 0) = _
            by_cases c6 : s = bl a (5 * i + 1) + dl j
            · rw [if_pos (show s = bl a (5 * i + 1) + dl j ∧ j = j from ⟨c6, rfl⟩), if_pos c6]
              all_goals rfl
            · rw [if_neg (show ¬ (s = bl a (5 * i + 1) + dl j ∧ j = j) from fun hh => c6 hh.1), if_neg c6]
              all_goals rfl
          · rw [if_neg (show ¬ (s = bl a (5 * i + 1) + dl j ∧ k = j) from fun hh => c5 hh.2)]
            by_cases c6 : j + 1 ≤ k ∧ k < aJ a
            · rw [if_pos c6, if_pos (show j ≤ k ∧ k < aJ a by omega)]
            · rw [if_neg c6, if_neg (show ¬ (j ≤ k ∧ k < aJ a) by omega)]
        · rw [if_neg c3, lb_d]
          exact stay (fun s _ => by
            unfold Wp
            rw [if_pos ⟨c1, c2⟩, if_neg (fun hh => c3 hh.1)])
      · rw [if_neg (fun hh => c2 ((n_eq (by omega) (by omega)).mp hh)), lb_d]
        exact stay (fun s _ => by
          unfold Wp
          rw [if_neg (fun hh => c2 hh.2)])
    · rw [if_neg (fun hh => c1 ((n_eq (by omega) (by omega)).mp hh)), lb_d]
      exact stay (fun s _ => by
        unfold Wp
        rw [if_neg (fun hh => c1 hh.1)])
theorem X11_presses_28 {a : AT} {bm bls dls fws dns tks hms nss jm jds rm : Nat → Int32} (hA : OKD a) (hM : RM a rm bm bls fws dns tks hms nss jm jds) {dl : Nat → Nat} (hdl : ∀ j, j < 8 → dl j ≤ 9) (hmd : ∀ j, j < 8 → dls j = nI (dl j)) {r c : Nat} (hr : r < 12) (hc : c < 2) (x2 x3 : Int32) : ∀ (d i n : Nat) (pr : Nat → Int32) (V : Nat → Nat → Nat), i + d = aB a → d < n → (∀ s k, s < 190 → k < 8 → pr (8 * s + k) = nI (V s k)) → ∃ pr', mX11_pointsBy_L28 (nI r) (nI c) x2 x3 bm bls dls jm jds n (nI i) pr = mX11_pointsBy_L144 (nI r) (nI c) x2 x3 bm bls dls jm jds FUEL (nI 0) (nI 0) pr' ∧ ∀ s k, s < 190 → k < 8 → pr' (8 * s + k) = nI (V s k + if k < aJ a then sF (Wp a dl r c k s) i d else 0) := by
  have hB := hA.2.1
  have hJ := hA.2.2.1
  intro d
  induction d with
  | zero =>
    intro i n pr V hi hn h
    obtain ⟨n, rfl⟩ : ∃ q, n = q + 1 := ⟨n - 1, by omega⟩
    refine ⟨pr, ?_, fun s k hs hk => ?_⟩
    · rw [eX11_pointsBy_28]
      unfold mX11_pointsBy_B28
      rw [show (0 : Int32).toNatClampNeg = 0 from rfl, hM.2.1, if_pos ((n_le (by omega) (by omega)).mpr (by omega))]
      rfl
    · rw [h s k hs hk]
      show nI (V s k) = nI (V s k + if k < aJ a then 0 else 0)
      rw [ite_self, Nat.add_zero]
  | succ d ih =>
    intro i n pr V hi hn h
    obtain ⟨n, rfl⟩ : ∃ q, n = q + 1 := ⟨n - 1, by omega⟩
    obtain ⟨pr1, e1, e2⟩ := X11_presses_42 hA hM hdl hmd hr hc x2 x3 (mX11_pointsBy_L28 (nI r) (nI c) x2 x3 bm bls dls jm jds n) (show i < aB a by omega) (aJ a) 0 FUEL pr V (by omega) (by unfold FUEL; omega) h
    obtain ⟨pr2, e3, e4⟩ := ih (i + 1) n pr1 _ (by omega) (by omega) e2
    refine ⟨pr2, ?_, fun s k hs hk => ?_⟩
    · rw [eX11_pointsBy_28]
      unfold mX11_pointsBy_B28
      rw [show (0 : Int32).toNatClampNeg = 0 from rfl, hM.2.1, if_neg (fun hh => absurd ((n_le (by omega) (by omega)).mp hh) (by omega)), show (0 : Int32) = nI 0 from rfl, e1]
      exact e3
    · rw [e4 s k hs hk]
      have hq : sF (Wp a dl r c k s) i (d + 1) = Wp a dl r c k s i + sF (Wp a dl r c k s) (i + 1) d := rfl
      by_cases c1 : k < aJ a
      · rw [if_pos (show 0 ≤ k ∧ k < aJ a from ⟨Nat.zero_le _, c1⟩), if_pos c1, if_pos c1, hq, Nat.add_assoc]
      · rw [if_neg (show ¬ (0 ≤ k ∧ k < aJ a) from fun hh => c1 hh.2), if_neg c1, if_neg c1]
        all_goals rfl
theorem X11_presses_3 {bm bls dls jm jds : Nat → Int32} (x0 x1 x2 x3 : Int32) : ∀ (d i n : Nat) (pr : Nat → Int32), i + d = 1520 → d < n → (∀ k, k < i → pr k = 0) → ∃ pr', mX11_pointsBy_L3 x0 x1 x2 x3 bm bls dls jm jds n (nI i) pr = mX11_pointsBy_L28 x0 x1 x2 x3 bm bls dls jm jds FUEL (nI 0) pr' ∧ ∀ k, k < 1520 → pr' k = 0 := by
  intro d
  induction d with
  | zero =>
    intro i n pr hi hn h
    obtain ⟨n, rfl⟩ : ∃ q, n = q + 1 := ⟨n - 1, by omega⟩
    refine ⟨pr, ?_, fun k hk => h k (by omega)⟩
    rw [eX11_pointsBy_3]
    unfold mX11_pointsBy_B3
    rw [n_lit 1520, if_pos ((n_le (by omega) (by omega)).mpr (by omega))]
    rfl
  | succ d ih =>
    intro i n pr hi hn h
    obtain ⟨n, rfl⟩ : ∃ q, n = q + 1 := ⟨n - 1, by omega⟩
    obtain ⟨pr', e1, e2⟩ := ih (i + 1) n (upd pr i 0) (by omega) (by omega) (fun k hk => by
      by_cases hki : k = i
      · rw [hki, upd_s]
      · rw [upd_n hki, h k (by omega)])
    refine ⟨pr', ?_, e2⟩
    rw [eX11_pointsBy_3]
    unfold mX11_pointsBy_B3
    rw [n_lit 1520, if_neg (fun hh => absurd ((n_le (a := 1520) (by omega) (by omega)).mp hh) (by omega)), gi_n (by omega) (by omega), lb_d, nI_1, lb_d, n_cl (by omega)]
    exact e1
def cntS (a : AT) (r c : Nat) : Nat := sF (fun k => if bl a (5 * k) = r ∧ bl a (5 * k + 2) = c then 1 else 0) 0 (aB a)
theorem points_both {a : AT} {blows cdl seenBy sums leads : Nat → Int32} (hA : OKD a) (hC : ∀ k, k < 5 * aB a → blows k = nI (bl a k)) (hS : RCs a seenBy sums leads) {bm bls dls fws dns tks hms nss jm jds rm : Nat → Int32} (hM : RM a rm bm bls fws dns tks hms nss jm jds) {dl : Nat → Nat} (hdl : ∀ j, j < 8 → dl j ≤ 9) (hcd : ∀ j, j < 8 → cdl j = nI (dl j)) (hmd : ∀ j, j < 8 → dls j = nI (dl j)) {r c q w : Nat} (hr : r < 12) (hc : c < 2) (hq : q ≤ 8) (hw : w ≤ 9) : ∃ P, P ≤ 320 ∧ (∀ (rc : Int32) (heads row : Nat → Int32), ∃ row' heads', mX0_pointsOf (nI r) (nI c) (nI q) (nI w) rc (nI (aB a)) (nI (aJ a)) heads row blows seenBy cdl = some (nI P, nI (cntS a r c), row', heads')) ∧ ∀ pr : Nat → Int32, ∃ pr', mX11_pointsBy (nI r) (nI c) (nI q) (nI w) bm bls dls jm jds pr = some (nI P, pr') := by
  have hB := hA.2.1
  have hJ := hA.2.2.1
  have go : ∀ (rc : Int32) (heads row pr : Nat → Int32), ∃ P row' heads' pr', P ≤ 320 ∧ mX0_pointsOf (nI r) (nI c) (nI q) (nI w) rc (nI (aB a)) (nI (aJ a)) heads row blows seenBy cdl = some (nI P, nI (cntS a r c), row', heads') ∧ mX11_pointsBy (nI r) (nI c) (nI q) (nI w) bm bls dls jm jds pr = some (nI P, pr') := by
    intro rc heads row pr
    obtain ⟨m, row', rv, e1, e2, e3⟩ := X0_fill_s hA hC hr hc rc row
    have hm := e2.1
    have hmc : m = cntS a r c := by
      have h1 := e2.2.2.2 (fun _ => 1)
      have h2 : ∀ d i, sF (fun _ => 1) i d = d := by
        intro d
        induction d with
        | zero => intro i; rfl
        | succ d ih => intro i; show 1 + sF (fun _ => 1) (i + 1) d = d + 1; rw [ih]; omega
      rw [h2] at h1
      exact h1
    obtain ⟨heads', g1, g2⟩ := X0_heads_s (cdl := cdl) (blows := blows) hA hS e2 e3 (nI r) (nI c) (nI q) (nI w) (nI (aB a)) (aJ a) 0 FUEL heads (by omega) (by unfold FUEL; omega) (fun k hk => absurd hk (by omega))
    obtain ⟨pr1, p1, p2⟩ := X11_presses_3 (bm := bm) (bls := bls) (dls := dls) (jm := jm) (jds := jds) (nI r) (nI c) (nI q) (nI w) 1520 0 FUEL pr (by omega) (by unfold FUEL; omega) (fun k hk => absurd hk (by omega))
    obtain ⟨pr2, p3, p4⟩ := X11_presses_28 hA hM hdl hmd hr hc (nI q) (nI w) (aB a) 0 FUEL pr1 (fun _ _ => 0) (by omega) (by unfold FUEL; omega) (fun s k hs hk => p2 _ (by omega))
    have hnx := fun j => nx_s a dl rv m j m 0 (by omega)
    have hhd : HD a (fun j => if j < aJ a then nx a rv j m 0 else m) heads' := fun j hj => by
      show heads' j = nI (if j < aJ a then nx a rv j m 0 else m)
      rw [if_pos hj]
      exact g2 j hj
    have hgh : ∀ j, j < 8 → GH a rv m j (if j < aJ a then nx a rv j m 0 else m) := by
      intro j hj
      split
      · exact (hnx j).1
      · exact ⟨Nat.le_refl _, fun h => absurd h (by omega)⟩
    have hrp : RPr a dl rv m (fun j => if j < aJ a then nx a rv j m 0 else m) pr2 := by
      intro s k hs hk
      rw [p4 s k hs hk, Nat.zero_add]
      show nI (if k < aJ a then sF (Wp a dl r c k s) 0 (aB a) else 0) = nI (cnt a dl rv m k (if k < aJ a then nx a rv k m 0 else m) s)
      by_cases c1 : k < aJ a
      · rw [if_pos c1, if_pos c1, (hnx k).2.2 s]
        unfold cnt
        rw [Nat.sub_zero]
        exact congrArg nI (e2.2.2.2 (fun t => if seesB a k t = true ∧ bl a (5 * t + 1) + dl k = s then 1 else 0)).symm
      · rw [if_neg c1, if_neg c1]
        unfold cnt
        rw [Nat.sub_self]
        rfl
    have htot := sF_le (g := fun j => m - (if j < aJ a then nx a rv j m 0 else m)) (m := 40) (N := 8) (fun k _ => by omega) 8 0 (by omega)
    obtain ⟨b, f1, -⟩ := X0_first_s hA hC hdl hcd e2 e3 hhd (fun j hj => (hgh j hj).1)
    obtain ⟨P, heads'', pr3, k1, k2, k3⟩ := points_loop (x0 := nI r) (x1 := nI c) (bc := nI (aB a)) (bm := bm) (bls := bls) (dls := dls) (jm := jm) (jds := jds) hA hC hS hdl hcd e2 e3 hq hw 320 FUEL FUEL _ heads' pr2 0 0 0 (iI b.1) htot hgh (fun j h1 h2 => if_neg (by omega)) hhd hrp (fun p' hp' => absurd hp' (by omega)) (by omega) (by omega) (by unfold FUEL; omega) (by unfold FUEL; omega) f1
    refine ⟨P, row', heads'', pr3, by omega, ?_, ?_⟩
    · unfold mX0_pointsOf
      rw [e1, b_some, ← hmc]
      refine g1.trans ?_
      rw [f1, b_some]
      exact k2
    · unfold mX11_pointsBy
      exact p1.trans (p3.trans k3)
  obtain ⟨P, -, -, -, hP, -, -⟩ := go 0 (fun _ => 0) (fun _ => 0) (fun _ => 0)
  obtain ⟨P0, -, -, pr0, hP0, u1, u2⟩ := go 0 (fun _ => 0) (fun _ => 0) (fun _ => 0)
  have same : ∀ (rc : Int32) (heads row : Nat → Int32), ∃ row' heads', mX0_pointsOf (nI r) (nI c) (nI q) (nI w) rc (nI (aB a)) (nI (aJ a)) heads row blows seenBy cdl = some (nI P0, nI (cntS a r c), row', heads') := by
    intro rc heads row
    obtain ⟨P1, row', heads', pr', h1, h2, h3⟩ := go rc heads row (fun _ => 0)
    rw [u2] at h3
    have h4 := congrArg Prod.fst (Option.some.inj h3)
    have h5 : nI P0 = nI P1 := h4
    exact ⟨row', heads', by rw [h2, h5]⟩
  refine ⟨P0, hP0, same, fun pr => ?_⟩
  obtain ⟨P1, row', heads', pr', h1, h2, h3⟩ := go 0 (fun _ => 0) (fun _ => 0) pr
  obtain ⟨row2, heads2, h6⟩ := same 0 (fun _ => 0) (fun _ => 0)
  rw [h6] at h2
  have h4 := congrArg Prod.fst (Option.some.inj h2)
  have h5 : nI P0 = nI P1 := h4
  exact ⟨pr', by rw [h3, h5]⟩
theorem X11_blowsIn_s {a : AT} {bm bls : Nat → Int32} (hA : OKD a) (hB0 : bm 0 = nI (aB a)) (hC : ∀ k, k < 5 * aB a → bls k = nI (bl a k)) {r : Nat} (hr : r < 12) : mX11_blowsIn (nI r) bm bls = some (nI (cntS a r 0 + cntS a r 1)) := by
  have hB := hA.2.1
  have key : ∀ (d i n acc : Nat), i + d = aB a → d < n → mX11_blowsIn_L4 (nI r) bm bls n (nI acc) (nI i) = some (nI (acc + sF (fun k => if bl a (5 * k) = r then 1 else 0) i d)) := by
    intro d
    induction d with
    | zero =>
      intro i n acc hi hn
      obtain ⟨n, rfl⟩ : ∃ q, n = q + 1 := ⟨n - 1, by omega⟩
      rw [eX11_blowsIn_4]
      unfold mX11_blowsIn_B4
      rw [show (0 : Int32).toNatClampNeg = 0 from rfl, hB0, if_pos ((n_le (by omega) (by omega)).mpr (by omega))]
      rfl
    | succ d ih =>
      intro i n acc hi hn
      obtain ⟨n, rfl⟩ : ∃ q, n = q + 1 := ⟨n - 1, by omega⟩
      have hb := hA.2.2.2.2.1 i (by omega)
      unfold okBl at hb
      have hs : sF (fun k => if bl a (5 * k) = r then 1 else 0) i (d + 1) = (if bl a (5 * i) = r then 1 else 0) + sF (fun k => if bl a (5 * k) = r then 1 else 0) (i + 1) d := rfl
      rw [eX11_blowsIn_4]
      unfold mX11_blowsIn_B4
      rw [show (0 : Int32).toNatClampNeg = 0 from rfl, hB0, if_neg (fun hh => absurd ((n_le (by omega) (by omega)).mp hh) (by omega)), n_lit 5, n_mul, gi_n (by omega) (by omega), n_cl (by omega), hC _ (by omega), nI_1, nI_1, hs, ← Nat.add_assoc]
      by_cases c1 : bl a (5 * i) = r
      · rw [if_pos ((n_eq (by omega) (by omega)).mpr c1), if_pos c1, lb_d, lb_d]
        exact ih (i + 1) n _ (by omega) (by omega)
      · rw [if_neg (fun hh => c1 ((n_eq (by omega) (by omega)).mp hh)), if_neg c1, show (0 : Int32) = nI 0 from rfl, n_add, lb_d, lb_d]
        exact ih (i + 1) n (acc + 0) (by omega) (by omega)
  have e : sF (fun k => if bl a (5 * k) = r then 1 else 0) 0 (aB a) = cntS a r 0 + cntS a r 1 := by
    unfold cntS
    have h1 : sF (fun k => if bl a (5 * k) = r then 1 else 0) 0 (aB a) = sF (fun k => (if bl a (5 * k) = r ∧ bl a (5 * k + 2) = 0 then 1 else 0) + (if bl a (5 * k) = r ∧ bl a (5 * k + 2) = 1 then 1 else 0)) 0 (aB a) := by
      refine sF_cong _ _ (fun k _ hk => ?_)
      have hb := hA.2.2.2.2.1 k (by omega)
      unfold okBl at hb
      by_cases c1 : bl a (5 * k) = r
      · by_cases c2 : bl a (5 * k + 2) = 0
        · rw [if_pos c1, if_pos ⟨c1, c2⟩, if_neg (by omega)]
        · rw [if_pos c1, if_neg (fun hh => c2 hh.2), if_pos ⟨c1, by omega⟩]
      · rw [if_neg c1, if_neg (fun hh => c1 hh.1), if_neg (fun hh => c1 hh.1)]
    rw [h1]
    exact sF_plus (fun k => rfl) (aB a) 0
  unfold mX11_blowsIn
  refine (key (aB a) 0 FUEL 0 (by omega) (by unfold FUEL; omega)).trans ?_
  rw [Nat.zero_add, e]
theorem cntS_le {a : AT} (hA : OKD a) (r c : Nat) : cntS a r c ≤ 40 := by
  have hB := hA.2.1
  have h := sF_le (g := fun k => if bl a (5 * k) = r ∧ bl a (5 * k + 2) = c then 1 else 0) (m := 1) (N := aB a) (fun k _ => by split <;> omega) (aB a) 0 (by omega)
  unfold cntS
  omega
/-- what a round tells, on both sides -/
theorem tell_both {a : AT} {blows cdl seenBy sums leads : Nat → Int32} (hA : OKD a) (hC : ∀ k, k < 5 * aB a → blows k = nI (bl a k)) (hS : RCs a seenBy sums leads) {bm bls dls fws dns tks hms nss jm jds rm : Nat → Int32} (hM : RM a rm bm bls fws dns tks hms nss jm jds) {dl : Nat → Nat} (hdl : ∀ j, j < 8 → dl j ≤ 9) (hcd : ∀ j, j < 8 → cdl j = nI (dl j)) (hmd : ∀ j, j < 8 → dls j = nI (dl j)) {r q w x : Nat} (hr : r < 12) (hq : q ≤ 8) (hw : w ≤ 9) (hx : x ≤ 3) (rc : Int32) (heads row pr : Nat → Int32) : ∃ v rc' row' heads' pr', mX0_tellOf (nI r) (nI q) (nI w) (nI x) rc (nI (aB a)) (nI (aJ a)) heads row blows seenBy cdl = some (v, rc', row', heads') ∧ mX11_buttonsOf (nI r) (nI q) (nI w) (nI x) bm bls dls jm jds pr = some (v, pr') := by
  obtain ⟨P0, a1, a2, a3⟩ := points_both hA hC hS hM hdl hcd hmd hr (show 0 < 2 by omega) hq hw
  obtain ⟨P1, b1, b2, b3⟩ := points_both hA hC hS hM hdl hcd hmd hr (show 1 < 2 by omega) hq hw
  have l0 := cntS_le hA r 0
  have l1 := cntS_le hA r 1
  have hin := X11_blowsIn_s hA hM.2.1 hM.2.2.2.2.2.1 hr
  have fin : ∀ (p0 p1 : Nat) (pr : Nat → Int32), p0 ≤ 320 → p1 ≤ 320 → mX11_buttonsOf_B37 (nI r) (nI q) (nI w) (nI x) bm bls dls jm jds (nI p0) (nI p1) pr = some (if 2 ≤ x then (if x = 2 then iI (if ((p0 : Int) + p1) - (cntS a r 0 + cntS a r 1 : Nat) ≤ 0 then 0 else ((p0 : Int) + p1) - (cntS a r 0 + cntS a r 1 : Nat)) else iI (if 0 ≤ ((p0 : Int) + p1) - (cntS a r 0 + cntS a r 1 : Nat) then 0 else -(((p0 : Int) + p1) - (cntS a r 0 + cntS a r 1 : Nat)))) else nI (p0 + p1), pr) := by
    intro p0 p1 pr h1 h2
    have ev : (nI p0 + nI p1) - nI (cntS a r 0 + cntS a r 1) = iI (((p0 : Int) + p1) - (cntS a r 0 + cntS a r 1 : Nat)) := by rw [nI_iI p0, nI_iI p1, nI_iI (cntS a r 0 + cntS a r 1), iI_add, iI_sub]
    unfold mX11_buttonsOf_B37
    rw [hin, b_some, ev, lb_d, n_lit 2]
    by_cases c2 : 2 ≤ x
    · rw [if_pos ((n_le (by omega) (by omega)).mpr c2), if_pos c2]
      by_cases c3 : x = 2
      · rw [if_pos ((n_eq (by omega) (by omega)).mpr c3), if_pos c3, i_0]
        by_cases c4 : ((p0 : Int) + p1) - (cntS a r 0 + cntS a r 1 : Nat) ≤ 0
        · rw [if_pos ((iI_le (by omega) (by omega) (by omega) (by omega)).mpr c4), if_pos c4]
        · rw [if_neg (fun hh => c4 ((iI_le (by omega) (by omega) (by omega) (by omega)).mp hh)), if_neg c4]
      · rw [if_neg (fun hh => c3 ((n_eq (by omega) (by omega)).mp hh)), if_neg c3, i_0]
        by_cases c4 : 0 ≤ ((p0 : Int) + p1) - (cntS a r 0 + cntS a r 1 : Nat)
        · rw [if_pos ((iI_le (by omega) (by omega) (by omega) (by omega)).mpr c4), if_pos c4]
        · rw [if_neg (fun hh => c4 ((iI_le (by omega) (by omega) (by omega) (by omega)).mp hh)), if_neg c4, iI_neg, lb_d]
    · rw [if_neg (fun hh => c2 ((n_le (by omega) (by omega)).mp hh)), if_neg c2, n_add, lb_d]
  obtain ⟨pr1, g1⟩ := a3 pr
  unfold mX0_tellOf mX11_buttonsOf
  by_cases c2 : 2 ≤ x
  · obtain ⟨row1, heads1, e1⟩ := a2 rc heads row
    obtain ⟨row2, heads2, e2⟩ := b2 (nI (cntS a r 0)) heads1 row1
    obtain ⟨pr2, g2⟩ := b3 pr1
    have hv : (nI P0 + nI P1) = iI ((P0 : Int) + P1) := by rw [nI_iI P0, nI_iI P1, iI_add]
    have hm : mX11_buttonsOf_B18 (nI r) (nI q) (nI w) (nI x) bm bls dls jm jds (nI P0) pr1 = some (if x = 2 then iI (if ((P0 : Int) + P1) - (cntS a r 0 + cntS a r 1 : Nat) ≤ 0 then 0 else ((P0 : Int) + P1) - (cntS a r 0 + cntS a r 1 : Nat)) else iI (if 0 ≤ ((P0 : Int) + P1) - (cntS a r 0 + cntS a r 1 : Nat) then 0 else -(((P0 : Int) + P1) - (cntS a r 0 + cntS a r 1 : Nat))), pr2) := by
      unfold mX11_buttonsOf_B18
      rw [if_neg (show ¬ nI x = (0 : Int32) from fun hh => absurd ((n_eq (b := 0) (by omega) (by omega)).mp hh) (by omega)), show (1 : Int32) = nI 1 from rfl, g2, b_some, fin P0 P1 pr2 a1 b1, if_pos c2]
    rw [if_pos (show (2 : Int32) ≤ nI x from (n_le (a := 2) (by omega) (by omega)).mpr c2), if_neg (show ¬ nI x = (1 : Int32) from fun hh => absurd ((n_eq (b := 1) (by omega) (by omega)).mp hh) (by omega)), show (0 : Int32) = nI 0 from rfl, show (1 : Int32) = nI 1 from rfl, e1, b_some, e2, b_some, g1, b_some, hm]
    have eb : ∀ z : Int, -2000 ≤ z → z ≤ 2000 → mX0_tellOf_B74 (nI r) (nI q) (nI w) (nI x) (nI (aB a)) (nI (aJ a)) blows seenBy cdl (nI 0) (iI z) (nI (cntS a r 1)) row2 heads2 = some (iI (if z ≤ 0 then 0 else z), nI (cntS a r 1), row2, heads2) := by
      intro z h1 h2
      unfold mX0_tellOf_B74 imax
      rw [lb_d, nI_iI 0]
      by_cases c4 : z ≤ 0
      · rw [if_pos c4]
        by_cases c5 : z = 0
        · subst c5
          split <;> rfl
        · rw [if_neg (fun hh => absurd ((iI_lt (by omega) (by omega) (by omega) (by omega)).mp hh) (by omega))]
          rfl
      · rw [if_neg c4, if_pos ((iI_lt (by omega) (by omega) (by omega) (by omega)).mpr (by omega))]
    rw [lb_d, lb_d]
    by_cases c3 : x = 2
    · have ez : (nI P0 + nI P1) - (nI (cntS a r 0) + nI (cntS a r 1)) = iI (((P0 : Int) + P1) - (cntS a r 0 + cntS a r 1 : Nat)) := by rw [hv, n_add, nI_iI (cntS a r 0 + cntS a r 1), iI_sub]
      rw [if_pos (show nI x = (2 : Int32) from (n_eq (b := 2) (by omega) (by omega)).mpr c3), if_pos c3]
      dsimp only
      rw [ez, eb _ (by omega) (by omega)]
      exact ⟨_, _, _, _, _, rfl, rfl⟩
    · have ez : (nI (cntS a r 0) + nI (cntS a r 1)) - (nI P0 + nI P1) = iI (-(((P0 : Int) + P1) - (cntS a r 0 + cntS a r 1 : Nat))) := by
        rw [hv, n_add, nI_iI (cntS a r 0 + cntS a r 1), iI_sub]
        exact congrArg iI (by omega)
      rw [if_neg (show ¬ nI x = (2 : Int32) from fun hh => c3 ((n_eq (b := 2) (by omega) (by omega)).mp hh)), if_neg c3]
      dsimp only
      rw [ez, eb _ (by omega) (by omega)]
      have ed : (if 0 ≤ ((P0 : Int) + P1) - (cntS a r 0 + cntS a r 1 : Nat) then 0 else -(((P0 : Int) + P1) - (cntS a r 0 + cntS a r 1 : Nat))) = (if -(((P0 : Int) + P1) - (cntS a r 0 + cntS a r 1 : Nat)) ≤ 0 then 0 else -(((P0 : Int) + P1) - (cntS a r 0 + cntS a r 1 : Nat))) := by
        by_cases c4 : 0 ≤ ((P0 : Int) + P1) - (cntS a r 0 + cntS a r 1 : Nat)
        · rw [if_pos c4, if_pos (by omega)]
        · rw [if_neg c4, if_neg (by omega)]
      rw [ed]
      exact ⟨_, _, _, _, pr2, rfl, rfl⟩
  · rw [if_neg (show ¬ (2 : Int32) ≤ nI x from fun hh => c2 ((n_le (a := 2) (by omega) (by omega)).mp hh))]
    by_cases c1 : x = 1
    · subst c1
      obtain ⟨row1, heads1, e1⟩ := b2 rc heads row
      obtain ⟨pr2, g2⟩ := b3 pr
      rw [e1, b_some, if_pos (show nI 1 = (1 : Int32) from rfl)]
      refine ⟨nI P1, _, _, _, pr2, rfl, ?_⟩
      unfold mX11_buttonsOf_B18
      rw [if_neg (show ¬ nI 1 = (0 : Int32) by decide), show (1 : Int32) = nI 1 from rfl, g2, b_some]
      show mX11_buttonsOf_B37 (nI r) (nI q) (nI w) (nI 1) bm bls dls jm jds (nI 0) (nI P1) pr2 = _
      rw [fin 0 P1 pr2 (by omega) b1, if_neg (by omega), Nat.zero_add]
    · have hx0 : x = 0 := by omega
      subst hx0
      obtain ⟨row1, heads1, e1⟩ := a2 rc heads row
      rw [e1, b_some, if_neg (show ¬ nI 0 = (1 : Int32) by decide), show (0 : Int32) = nI 0 from rfl, g1, b_some]
      refine ⟨nI P0, _, _, _, pr1, rfl, ?_⟩
      unfold mX11_buttonsOf_B18
      rw [if_pos (show nI 0 = (0 : Int32) from rfl)]
      show mX11_buttonsOf_B37 (nI r) (nI q) (nI w) (nI 0) bm bls dls jm jds (nI P0) (nI 0) pr1 = _
      rw [fin P0 0 pr1 a1 (by omega), if_neg (by omega), Nat.add_zero]
set_option maxRecDepth 100000 in
theorem api_buttons {c_text_length : Int32} {c_text_bytes : Nat → Int32} {c_laid_rounds : Int32} {c_laid_home : Int32} {c_laid_noise : Int32} {c_laid_blowCount : Int32} {c_laid_judgeCount : Int32} {c_laid_blows : Nat → Int32} {c_laid_judges : Nat → Int32} {c_laid_forward : Nat → Int32} {c_laid_downs : Nat → Int32} {c_laid_taken : Nat → Int32} {c_laid_seenBy : Nat → Int32} {c_laid_sums : Nat → Int32} {c_laid_leads : Nat → Int32} {c_bench_watchers : Nat → Int32} {c_notes_delays : Nat → Int32} {c_notes_margins : Nat → Int32} {c_notes_odds : Nat → Int32} {c_kept_0_delays : Nat → Int32} {c_kept_0_margins : Nat → Int32} {c_kept_0_odds : Nat → Int32} {c_kept_1_delays : Nat → Int32} {c_kept_1_margins : Nat → Int32} {c_kept_1_odds : Nat → Int32} {c_keptCount : Int32} {m_length : Int32} {m_text : Nat → Int32} {m_roundMany : Nat → Int32} {m_blowMany : Nat → Int32} {m_blows : Nat → Int32} {m_forwards : Nat → Int32} {m_downs : Nat → Int32} {m_takens : Nat → Int32} {m_homes : Nat → Int32} {m_noises : Nat → Int32} {m_judgeMany : Nat → Int32} {m_judges : Nat → Int32} {m_delays : Nat → Int32} {m_tolds : Nat → Int32} {m_tens : Nat → Int32} {m_keptMany : Int32} (x0 : Int32) (x1 : Int32) (x2 : Int32) (x3 : Int32) (c_presses_rowCount : Int32) (c_presses_heads : Nat → Int32) (c_presses_row : Nat → Int32) (m_presses : Nat → Int32) (hR : RR c_text_length c_text_bytes c_laid_rounds c_laid_home c_laid_noise c_laid_blowCount c_laid_judgeCount c_laid_blows c_laid_judges c_laid_forward c_laid_downs c_laid_taken c_laid_seenBy c_laid_sums c_laid_leads c_bench_watchers c_notes_delays c_notes_margins c_notes_odds c_kept_0_delays c_kept_0_margins c_kept_0_odds c_kept_1_delays c_kept_1_margins c_kept_1_odds c_keptCount m_length m_text m_roundMany m_blowMany m_blows m_forwards m_downs m_takens m_homes m_noises m_judgeMany m_judges m_delays m_tolds m_tens m_keptMany) : ∃ (oc : Int32 × Int32 × (Nat → Int32) × (Nat → Int32)) (om : Int32 × (Nat → Int32)), mX10_buttons x0 x1 x2 x3 c_laid_rounds c_laid_blowCount c_laid_judgeCount c_presses_rowCount c_laid_blows c_laid_seenBy c_notes_delays c_presses_heads c_presses_row = some oc ∧ mX11_buttons x0 x1 x2 x3 m_blowMany m_blows m_delays m_judgeMany m_judges m_presses m_roundMany = some om ∧ oc.1 = om.1 := by
  obtain ⟨-, ⟨a, hA, ⟨rfl, rfl, rfl, rfl, rfl, hC⟩, hS, hM⟩, -, K, hK, rfl, rfl, h0, -, -⟩ := hR
  have hR1 := hA.1.1
  have hdl : ∀ j, j < 8 → (c_notes_delays j).toNatClampNeg ≤ 9 := by
    intro j hj
    obtain ⟨v, hv, e1, e2⟩ := h0.1 j hj
    rw [e1, n_cl (by omega)]
    exact hv
  have hcd : ∀ j, j < 8 → c_notes_delays j = nI ((c_notes_delays j).toNatClampNeg) := by
    intro j hj
    obtain ⟨v, hv, e1, e2⟩ := h0.1 j hj
    rw [e1, n_cl (by omega)]
  have hmd : ∀ j, j < 8 → m_delays j = nI ((c_notes_delays j).toNatClampNeg) := by
    intro j hj
    obtain ⟨v, hv, e1, e2⟩ := h0.1 j hj
    rw [Nat.mul_zero, Nat.zero_add] at e2
    rw [e1, n_cl (by omega), e2]
  have tell : ∀ {r q w x : Nat}, r < 12 → q ≤ 8 → w ≤ 9 → x ≤ 3 → ∀ (rc : Int32) (heads row pr : Nat → Int32), ∃ v rc' row' heads' pr', mX0_tellOf (nI r) (nI q) (nI w) (nI x) rc (nI (aB a)) (nI (aJ a)) heads row c_laid_blows c_laid_seenBy c_notes_delays = some (v, rc', row', heads') ∧ mX11_buttonsOf (nI r) (nI q) (nI w) (nI x) m_blowMany m_blows m_delays m_judgeMany m_judges pr = some (v, pr') := fun h1 h2 h3 h4 rc heads row pr => tell_both hA.1 hC.1 hS hM (dl := fun j => (c_notes_delays j).toNatClampNeg) hdl hcd hmd h1 h2 h3 h4 rc heads row pr
  have eM : mX11_buttons x0 x1 x2 x3 m_blowMany m_blows m_delays m_judgeMany m_judges m_presses m_roundMany = if x0 = -1 ∨ isJ x0 (aR a) then mX11_buttons_B13 x0 x1 x2 x3 m_blowMany m_blows m_delays m_judgeMany m_judges m_roundMany m_presses else some (-1, m_presses) := by
    unfold mX11_buttons
    rw [X11_isRound_s x0 (aR a) hM.1, jd_bind]
    by_cases c1 : x0 = -1
    · rw [if_pos c1, if_pos (Or.inl c1)]
    · rw [if_neg c1]
      by_cases c2 : isJ x0 (aR a)
      · rw [if_pos c2, if_pos (Or.inr c2)]
      · rw [if_neg c2, if_neg (fun hh => hh.elim c1 c2)]
  have eR : ((-1 : Int32) ≤ x0 ∧ x0 ≤ nI (aR a) - 1) ↔ (x0 = -1 ∨ isJ x0 (aR a)) := by
    obtain ⟨z, h1, h2, rfl⟩ := iI_of x0
    have e1 : nI (aR a) - 1 = iI ((aR a : Int) - 1) := by rw [nI_iI, i_1, iI_sub]
    unfold isJ
    rw [e1, i_m1, i_0, iI_le (by omega) (by omega) (by omega) (by omega), iI_le (by omega) (by omega) (by omega) (by omega), iI_le (by omega) (by omega) (by omega) (by omega), iI_eq (by omega) (by omega) (by omega) (by omega)]
    omega
  rw [eM]
  unfold mX10_buttons
  rw [wi_bind, wi_bind, wi_bind, wi_bind]
  by_cases c0 : x0 = -1 ∨ isJ x0 (aR a)
  · rw [if_pos (eR.mpr c0), if_pos c0]
    unfold mX11_buttons_B13
    rw [in_wl 1 8 (by decide) (by decide), in_wl 0 9 (by decide) (by decide), in_wl 0 3 (by decide) (by decide), wi_bind, wi_bind, wi_bind]
    by_cases c1 : (1 : Int32) ≤ x1 ∧ x1 ≤ 8
    · rw [if_pos c1, if_pos c1]
      by_cases c2 : (0 : Int32) ≤ x2 ∧ x2 ≤ 9
      · rw [if_pos c2, if_pos c2]
        by_cases c3 : (0 : Int32) ≤ x3 ∧ x3 ≤ 3
        · rw [if_pos c3, if_pos c3]
          obtain ⟨q, hq, rfl⟩ := w_n (b := 8) (by omega) (show (0 : Int32) ≤ x1 ∧ x1 ≤ nI 8 from ⟨Int32.le_trans (by decide) c1.1, c1.2⟩)
          obtain ⟨w, hw, rfl⟩ := w_n (b := 9) (by omega) c2
          obtain ⟨x, hx, rfl⟩ := w_n (b := 3) (by omega) c3
          by_cases c4 : x0 < 0
          · rw [if_pos c4, if_pos c4]
            have key : ∀ (d i n1 n2 : Nat) (acc rc : Int32) (row heads pr : Nat → Int32), i + d = aR a → d < n1 → d < n2 → ∃ (oc : Int32 × Int32 × (Nat → Int32) × (Nat → Int32)) (om : Int32 × (Nat → Int32)), mX10_buttons_L74 x0 (nI q) (nI w) (nI x) (nI (aR a)) (nI (aB a)) (nI (aJ a)) c_laid_blows c_laid_seenBy c_notes_delays n1 acc (nI i) rc row heads = some oc ∧ mX11_buttons_L72 x0 (nI q) (nI w) (nI x) m_blowMany m_blows m_delays m_judgeMany m_judges m_roundMany n2 acc (nI i) pr = some om ∧ oc.1 = om.1 := by
              intro d
              induction d with
              | zero =>
                intro i n1 n2 acc rc row heads pr hi hn1 hn2
                obtain ⟨n1, rfl⟩ : ∃ q, n1 = q + 1 := ⟨n1 - 1, by omega⟩
                obtain ⟨n2, rfl⟩ : ∃ q, n2 = q + 1 := ⟨n2 - 1, by omega⟩
                rw [eX10_buttons_74, eX11_buttons_72]
                unfold mX10_buttons_B74 mX11_buttons_B72
                rw [show (0 : Int32).toNatClampNeg = 0 from rfl, hM.1, if_pos ((n_le (by omega) (by omega)).mpr (by omega)), if_pos ((n_le (by omega) (by omega)).mpr (by omega))]
                exact ⟨_, _, rfl, rfl, rfl⟩
              | succ d ih =>
                intro i n1 n2 acc rc row heads pr hi hn1 hn2
                obtain ⟨n1, rfl⟩ : ∃ q, n1 = q + 1 := ⟨n1 - 1, by omega⟩
                obtain ⟨n2, rfl⟩ : ∃ q, n2 = q + 1 := ⟨n2 - 1, by omega⟩
                obtain ⟨v, rc', row', heads', pr', t1, t2⟩ := tell (show i < 12 by omega) hq hw hx rc heads row pr
                rw [eX10_buttons_74, eX11_buttons_72]
                unfold mX10_buttons_B74 mX11_buttons_B72
                rw [show (0 : Int32).toNatClampNeg = 0 from rfl, hM.1, if_neg (fun hh => absurd ((n_le (by omega) (by omega)).mp hh) (by omega)), if_neg (fun hh => absurd ((n_le (by omega) (by omega)).mp hh) (by omega)), t1, b_some, t2, b_some, nI_1, lb_d, lb_d, lb_d, lb_d]
                exact ih (i + 1) n1 n2 (acc + v) rc' row' heads' pr' (by omega) (by omega) (by omega)
            exact key (aR a) 0 FUEL FUEL 0 c_presses_rowCount c_presses_row c_presses_heads m_presses (by omega) (by unfold FUEL; omega) (by unfold FUEL; omega)
          · rw [if_neg c4, if_neg c4]
            have c5 : isJ x0 (aR a) := by
              rcases c0 with h | h
              · exact absurd (by rw [h]; decide) c4
              · exact h
            obtain ⟨r, hr, rfl⟩ := w_J (by omega) c5
            obtain ⟨v, rc', row', heads', pr', t1, t2⟩ := tell (show r < 12 by omega) hq hw hx c_presses_rowCount c_presses_heads c_presses_row m_presses
            rw [t1, b_some, t2, b_some]
            exact ⟨_, _, rfl, rfl, rfl⟩
        · rw [if_neg c3, if_neg c3]
          exact ⟨_, _, rfl, rfl, rfl⟩
      · rw [if_neg c2, if_neg c2]
        exact ⟨_, _, rfl, rfl, rfl⟩
    · rw [if_neg c1, if_neg c1]
      exact ⟨_, _, rfl, rfl, rfl⟩
  · rw [if_neg (fun hh => c0 (eR.mp hh)), if_neg c0]
    exact ⟨_, _, rfl, rfl, rfl⟩
