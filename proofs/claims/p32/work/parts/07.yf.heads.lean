/-! BUTTONS: who presses, who is used -/
def inW (a : AT) (dl rv : Nat → Nat) (m : Nat) (hd : Nat → Nat) (u j : Nat) : Nat := if TT a dl rv m j (hd j) ≤ u then 1 else 0
def useS (a : AT) (dl rv : Nat → Nat) (m : Nat) (hd : Nat → Nat) (u : Nat) : Nat → Nat := fun j => if TT a dl rv m j (hd j) ≤ u then nxt a rv m j (hd j) else hd j
def oneS (a : AT) (rv : Nat → Nat) (m : Nat) (hd : Nat → Nat) (j0 : Nat) : Nat → Nat := fun j => if j = j0 then nxt a rv m j (hd j) else hd j
theorem X11_pressing_s {a : AT} (hA : OKD a) {dl rv : Nat → Nat} {r c m : Nat} (hr : RowOK a r c (aB a) m rv) (hdl : ∀ j, j < 8 → dl j ≤ 9) {hd : Nat → Nat} (hg : ∀ j, j < 8 → GH a rv m j (hd j)) {pr : Nat → Int32} (hp : RPr a dl rv m hd pr) {s w : Nat} (hs : s < 190) (hw : w ≤ 9) (hst : ∀ j, j < 8 → s ≤ TT a dl rv m j (hd j)) : mX11_pressing (nI s) (nI w) pr = some (nI (sF (inW a dl rv m hd (s + w)) 0 8)) := by
  have key : ∀ (d j n acc : Nat), j + d = 8 → d < n → mX11_pressing_L5 (nI s) (nI w) pr n (nI acc) (nI j) = some (nI (acc + sF (inW a dl rv m hd (s + w)) j d)) := by
    intro d
    induction d with
    | zero =>
      intro j n acc hj hn
      obtain ⟨n, rfl⟩ : ∃ q, n = q + 1 := ⟨n - 1, by omega⟩
      rw [eX11_pressing_5]
      unfold mX11_pressing_B5
      rw [n_lit 8, if_pos ((n_le (by omega) (by omega)).mpr (by omega))]
      rfl
    | succ d ih =>
      intro j n acc hj hn
      obtain ⟨n, rfl⟩ : ∃ q, n = q + 1 := ⟨n - 1, by omega⟩
      have hi : sF (inW a dl rv m hd (s + w)) j (d + 1) = inW a dl rv m hd (s + w) j + sF (inW a dl rv m hd (s + w)) (j + 1) d := rfl
      have ht := TT_lt hA hr hdl (h := hd j) (show j < 8 by omega)
      rw [eX11_pressing_5]
      unfold mX11_pressing_B5
      rw [n_lit 8, if_neg (fun hh => absurd ((n_le (a := 8) (by omega) (by omega)).mp hh) (by omega)), n_add, X11_pressOf_k hA hr hdl (by omega) (hg j (by omega)) (fun s' hs' => hp s' j hs' (by omega)) hs hw (hst j (by omega)), b_some, hi, ← Nat.add_assoc]
      unfold inW
      by_cases c1 : TT a dl rv m j (hd j) ≤ s + w
      · rw [if_pos c1, if_pos c1, if_neg (nI_pos (by omega)), nI_1, nI_1, lb_d, lb_d]
        exact ih (j + 1) n _ (by omega) (by omega)
      · rw [if_neg c1, if_neg c1, if_pos (by decide), nI_1, show (0 : Int32) = nI 0 from rfl, n_add, lb_d, lb_d]
        exact ih (j + 1) n (acc + 0) (by omega) (by omega)
  unfold mX11_pressing
  refine (key 8 0 FUEL 0 (by omega) (by unfold FUEL; omega)).trans ?_
  rw [Nat.zero_add]
/-- one press taken away -/
theorem RPr_one {a : AT} {dl rv : Nat → Nat} {m : Nat} (hm : m ≤ 40) {hd : Nat → Nat} {pr : Nat → Int32} (hp : RPr a dl rv m hd pr) {j0 : Nat} (hj : j0 < 8) (hg : GH a rv m j0 (hd j0)) (h0 : hd j0 < m) (hT : TT a dl rv m j0 (hd j0) < 190) : RPr a dl rv m (oneS a rv m hd j0) (upd pr (8 * TT a dl rv m j0 (hd j0) + j0) (pr (8 * TT a dl rv m j0 (hd j0) + j0) - 1)) := by
  intro s j hs hj2
  have hc := fun s => cnt_le (a := a) (dl := dl) (rv := rv) (m := m) (j := j0) (h := hd j0) (s := s) hm
  have hn := (nxt_s a dl rv hg h0).2.2
  unfold oneS
  by_cases c1 : j = j0
  · subst c1
    rw [if_pos rfl]
    have h1 := hn s
    by_cases c2 : s = TT a dl rv m j (hd j)
    · rw [if_pos c2.symm] at h1
      rw [← c2, upd_s, hp s j hs hj2, n_lit 1, n_sub (by omega)]
      congr 1
      omega
    · rw [if_neg (fun hh => c2 hh.symm)] at h1
      rw [upd_n (by omega), hp s j hs hj2, h1, Nat.zero_add]
  · rw [if_neg c1, upd_n (by omega), hp s j hs hj2]
theorem X11_use_s {a : AT} (hA : OKD a) {dl rv : Nat → Nat} {r c m : Nat} (hr : RowOK a r c (aB a) m rv) (hdl : ∀ j, j < 8 → dl j ≤ 9) {hd : Nat → Nat} (hg : ∀ j, j < 8 → GH a rv m j (hd j)) {pr : Nat → Int32} (hp : RPr a dl rv m hd pr) {s w : Nat} (hs : s < 190) (hw : w ≤ 9) (hst : ∀ j, j < 8 → s ≤ TT a dl rv m j (hd j)) : ∃ pr', mX11_use (nI s) (nI w) pr = some pr' ∧ RPr a dl rv m (useS a dl rv m hd (s + w)) pr' := by
  have hB := hA.2.1
  have hm := hr.1
  have key : ∀ (d j n : Nat) (hc : Nat → Nat) (pr : Nat → Int32), j + d = 8 → d < n → (∀ k, j ≤ k → hc k = hd k) → (∀ k, k < j → hc k = useS a dl rv m hd (s + w) k) → RPr a dl rv m hc pr → ∃ pr', mX11_use_L2 (nI s) (nI w) n (nI j) pr = some pr' ∧ RPr a dl rv m (useS a dl rv m hd (s + w)) pr' := by
    intro d
    induction d with
    | zero =>
      intro j n hc pr hj hn h1 h2 h3
      obtain ⟨n, rfl⟩ : ∃ q, n = q + 1 := ⟨n - 1, by omega⟩
      refine ⟨pr, ?_, fun s' k hs' hk => by rw [h3 s' k hs' hk, h2 k (by omega)]⟩
      rw [eX11_use_2]
      unfold mX11_use_B2
      rw [n_lit 8, if_pos ((n_le (by omega) (by omega)).mpr (by omega))]
    | succ d ih =>
      intro j n hc pr hj hn h1 h2 h3
      obtain ⟨n, rfl⟩ : ∃ q, n = q + 1 := ⟨n - 1, by omega⟩
      have ht := TT_lt hA hr hdl (h := hd j) (show j < 8 by omega)
      have hj0 := h1 j (Nat.le_refl _)
      have hgj : GH a rv m j (hc j) := by rw [hj0]; exact hg j (by omega)
      have hpo := X11_pressOf_k hA hr hdl (show j < 8 by omega) hgj (fun s' hs' => h3 s' j hs' (by omega)) hs hw (by rw [hj0]; exact hst j (by omega))
      rw [hj0] at hpo
      rw [eX11_use_2]
      unfold mX11_use_B2
      rw [n_lit 8, if_neg (fun hh => absurd ((n_le (a := 8) (by omega) (by omega)).mp hh) (by omega)), n_add, hpo, b_some]
      by_cases c1 : TT a dl rv m j (hd j) ≤ s + w
      · have h4 : hd j < m := by omega
        have hne := RPr_one (by omega) h3 (show j < 8 by omega) hgj (by rw [hj0]; exact h4) (by rw [hj0]; omega)
        rw [hj0] at hne
        rw [if_pos c1, if_neg (nI_pos (by omega)), n_mul, n_add, lb_d, gi_n (by omega) (by omega), gi_n (by omega) (by omega), n_cl (by omega), lb_d, nI_1, lb_d]
        refine ih (j + 1) n (oneS a rv m hc j) _ (by omega) (by omega) (fun k hk => ?_) (fun k hk => ?_) hne
        · unfold oneS
          rw [if_neg (by omega)]
          exact h1 k (by omega)
        · unfold oneS
          by_cases c2 : k = j
          · rw [if_pos c2, c2, hj0]
            unfold useS
            rw [if_pos c1]
          · rw [if_neg c2]
            exact h2 k (by omega)
      · rw [if_neg c1, if_pos (by decide), nI_1, lb_d]
        refine ih (j + 1) n hc pr (by omega) (by omega) (fun k hk => h1 k (by omega)) (fun k hk => ?_) h3
        by_cases c2 : k = j
        · rw [c2, hj0]
          unfold useS
          rw [if_neg c1]
        · exact h2 k (by omega)
  unfold mX11_use
  exact key 8 0 FUEL hd pr (by omega) (by unfold FUEL; omega) (fun _ _ => rfl) (fun k hk => absurd hk (by omega)) hp
/-! the class -/
theorem X0_seenFrom_s {a : AT} {seenBy sums leads : Nat → Int32} (hA : OKD a) (hS : RCs a seenBy sums leads) {r c m : Nat} {rv : Nat → Nat} (hr : RowOK a r c (aB a) m rv) {row : Nat → Int32} (hrow : ∀ t, t < m → row t = nI (rv t)) {j : Nat} (hj : j < aJ a) {x : Nat} (hx : x ≤ m) : mX0_seenFrom (nI j) (nI x) (nI m) row seenBy = some (nI (nx a rv j (m - x) x)) := by
  have hB := hA.2.1
  have hm := hr.1
  have key : ∀ (d x n : Nat) (y : Int32), x + d = m → d < n → mX0_seenFrom_L2 (nI j) y (nI m) row seenBy n (nI x) = some (nI (nx a rv j d x)) := by
    intro d
    induction d with
    | zero =>
      intro x n y hx hn
      obtain ⟨n, rfl⟩ : ∃ q, n = q + 1 := ⟨n - 1, by omega⟩
      rw [eX0_seenFrom_2]
      unfold mX0_seenFrom_B2
      rw [if_pos ((n_le (by omega) (by omega)).mpr (by omega))]
      rfl
    | succ d ih =>
      intro x n y hx hn
      obtain ⟨n, rfl⟩ : ∃ q, n = q + 1 := ⟨n - 1, by omega⟩
      rw [eX0_seenFrom_2]
      unfold mX0_seenFrom_B2 nx
      rw [if_neg (fun hh => absurd ((n_le (by omega) (by omega)).mp hh) (by omega)), gi_n (by omega) (by omega), n_cl (by omega), hrow x (by omega), X3_isSeen_s hA hS hj (hr.2.1 x (by omega)), b_some, if10]
      by_cases h : seesB a j (rv x) = true
      · rw [if_pos h, if_pos h]
      · rw [if_neg h, if_neg h, nI_1, lb_d]
        exact ih (x + 1) n y (by omega) (by omega)
  unfold mX0_seenFrom
  exact key (m - x) x FUEL _ (by omega) (by unfold FUEL; omega)
def HD (a : AT) (hd : Nat → Nat) (heads : Nat → Int32) : Prop := ∀ j, j < aJ a → heads j = nI (hd j)
theorem X0_secondOf_s {a : AT} {blows cdl : Nat → Int32} (hA : OKD a) (hC : ∀ k, k < 5 * aB a → blows k = nI (bl a k)) {dl : Nat → Nat} (hcd : ∀ j, j < 8 → cdl j = nI (dl j)) {r c m : Nat} {rv : Nat → Nat} (hr : RowOK a r c (aB a) m rv) {row heads : Nat → Int32} (hrow : ∀ t, t < m → row t = nI (rv t)) {hd : Nat → Nat} (hh : HD a hd heads) (hle : ∀ j, j < 8 → hd j ≤ m) {j : Nat} (hj : j < aJ a) : mX0_secondOf (nI j) (nI m) heads row blows cdl = some (nI (TT a dl rv m j (hd j))) := by
  have hB := hA.2.1
  have hJ := hA.2.2.1
  have hm := hr.1
  have h8 := hle j (by omega)
  unfold mX0_secondOf TT
  rw [gi_n (by omega) (by omega), n_cl (by omega), hh j hj, lb_d]
  by_cases c1 : hd j < m
  · rw [if_neg (fun hh => absurd ((n_le (by omega) (by omega)).mp hh) (by omega)), if_pos c1, gi_n (by omega) (by omega), n_cl (by omega), hrow _ c1, show (1 : Int32) = nI 1 from rfl, X3_blowPart_s hA hC (hr.2.1 _ c1) (by omega), b_some, gi_n (by omega) (by omega), hcd j (by omega), n_add, lb_d]
  · rw [if_pos ((n_le (by omega) (by omega)).mpr (by omega)), if_neg c1]
    rfl
/-- the first press: nobody's, or the lowest judge's of the earliest -/
def FP (a : AT) (dl rv : Nat → Nat) (m : Nat) (hd : Nat → Nat) (i : Nat) (b : Int × Nat) : Prop := (b = (-1, 1000) ∧ ∀ j, j < i → 1000 ≤ TT a dl rv m j (hd j)) ∨ ∃ j, j < i ∧ b = ((j : Int), TT a dl rv m j (hd j)) ∧ TT a dl rv m j (hd j) < 1000 ∧ (∀ k, k < i → TT a dl rv m j (hd j) ≤ TT a dl rv m k (hd k)) ∧ ∀ k, k < j → TT a dl rv m j (hd j) < TT a dl rv m k (hd k)
theorem X0_first_s {a : AT} {blows cdl : Nat → Int32} (hA : OKD a) (hC : ∀ k, k < 5 * aB a → blows k = nI (bl a k)) {dl : Nat → Nat} (hdl : ∀ j, j < 8 → dl j ≤ 9) (hcd : ∀ j, j < 8 → cdl j = nI (dl j)) {r c m : Nat} {rv : Nat → Nat} (hr : RowOK a r c (aB a) m rv) {row heads : Nat → Int32} (hrow : ∀ t, t < m → row t = nI (rv t)) {hd : Nat → Nat} (hh : HD a hd heads) (hle : ∀ j, j < 8 → hd j ≤ m) : ∃ b, mX0_firstPresser (nI m) (nI (aJ a)) heads row blows cdl = some (iI b.1) ∧ FP a dl rv m hd (aJ a) b := by
  have hJ := hA.2.2.1
  have key : ∀ (d i n : Nat) (b : Int × Nat), i + d = aJ a → d < n → FP a dl rv m hd i b → ∃ b', mX0_firstPresser_L8 (nI m) (nI (aJ a)) heads row blows cdl n (iI b.1) (nI b.2) (nI i) = some (iI b'.1) ∧ FP a dl rv m hd (aJ a) b' := by
    intro d
    induction d with
    | zero =>
      intro i n b hi hn hb
      obtain ⟨n, rfl⟩ : ∃ q, n = q + 1 := ⟨n - 1, by omega⟩
      have hi2 : i = aJ a := by omega
      subst hi2
      refine ⟨b, ?_, hb⟩
      rw [eX0_firstPresser_8]
      unfold mX0_firstPresser_B8
      rw [if_pos ((n_le (by omega) (by omega)).mpr (by omega))]
    | succ d ih =>
      intro i n b hi hn hb
      obtain ⟨n, rfl⟩ : ∃ q, n = q + 1 := ⟨n - 1, by omega⟩
      have ht := TT_lt hA hr hdl (h := hd i) (show i < 8 by omega)
      have hb2 : b.2 ≤ 1000 := by
        rcases hb with ⟨h1, -⟩ | ⟨j, -, h1, h2, -⟩
        · rw [h1]; exact Nat.le_refl _
        · rw [h1]; show TT a dl rv m j (hd j) ≤ 1000; omega
      rw [eX0_firstPresser_8]
      unfold mX0_firstPresser_B8
      rw [if_neg (fun hh => absurd ((n_le (by omega) (by omega)).mp hh) (by omega)), X0_secondOf_s hA hC hcd hr hrow hh hle (by omega), b_some, nI_1]
      by_cases c1 : b.2 ≤ TT a dl rv m i (hd i)
      · rw [if_pos ((n_le (by omega) (by omega)).mpr c1), lb_d]
        refine ih (i + 1) n b (by omega) (by omega) ?_
        rcases hb with ⟨h1, h2⟩ | ⟨j, h0, h1, h2, h3, h4⟩
        · refine Or.inl ⟨h1, fun j hj => ?_⟩
          by_cases c2 : j = i
          · rw [h1] at c1
            rw [c2]
            exact c1
          · exact h2 j (by omega)
        · refine Or.inr ⟨j, by omega, h1, h2, fun k hk => ?_, h4⟩
          by_cases c2 : k = i
          · rw [h1] at c1
            rw [c2]
            exact c1
          · exact h3 k (by omega)
      · rw [if_neg (fun hh => c1 ((n_le (by omega) (by omega)).mp hh)), lb_d, nI_iI i]
        refine ih (i + 1) n ((i : Int), TT a dl rv m i (hd i)) (by omega) (by omega) ?_
        refine Or.inr ⟨i, by omega, rfl, by omega, fun k hk => ?_, fun k hk => ?_⟩
        · by_cases c2 : k = i
          · rw [c2]
            exact Nat.le_refl _
          · rcases hb with ⟨h1, h2⟩ | ⟨j, h0, h1, h2, h3, h4⟩
            · have := h2 k (by omega)
              omega
            · have h5 := h3 k (by omega)
              rw [h1] at c1
              have h6 : ¬ TT a dl rv m j (hd j) ≤ TT a dl rv m i (hd i) := c1
              omega
        · rcases hb with ⟨h1, h2⟩ | ⟨j, h0, h1, h2, h3, h4⟩
          · have h5 := h2 k hk
            have h6 : ¬ 1000 ≤ TT a dl rv m i (hd i) := by rw [h1] at c1; exact c1
            omega
          · have h5 := h3 k hk
            rw [h1] at c1
            have h6 : ¬ TT a dl rv m j (hd j) ≤ TT a dl rv m i (hd i) := c1
            omega
  unfold mX0_firstPresser
  rw [i_m1]
  exact key (aJ a) 0 FUEL (-1, 1000) (by omega) (by unfold FUEL; omega) (Or.inl ⟨rfl, fun j hj => absurd hj (by omega)⟩)
theorem X0_until_s {a : AT} {blows cdl : Nat → Int32} (hA : OKD a) (hC : ∀ k, k < 5 * aB a → blows k = nI (bl a k)) {dl : Nat → Nat} (hdl : ∀ j, j < 8 → dl j ≤ 9) (hcd : ∀ j, j < 8 → cdl j = nI (dl j)) {r c m : Nat} {rv : Nat → Nat} (hr : RowOK a r c (aB a) m rv) {row heads : Nat → Int32} (hrow : ∀ t, t < m → row t = nI (rv t)) {hd : Nat → Nat} (hh : HD a hd heads) (hle : ∀ j, j < 8 → hd j ≤ m) {u : Nat} (hu : u < 1000) : mX0_pressersUntil (nI u) (nI m) (nI (aJ a)) heads row blows cdl = some (nI (sF (inW a dl rv m hd u) 0 (aJ a))) := by
  have hJ := hA.2.2.1
  have key : ∀ (d j n acc : Nat), j + d = aJ a → d < n → mX0_pressersUntil_L4 (nI u) (nI m) (nI (aJ a)) heads row blows cdl n (nI acc) (nI j) = some (nI (acc + sF (inW a dl rv m hd u) j d)) := by
    intro d
    induction d with
    | zero =>
      intro j n acc hj hn
      obtain ⟨n, rfl⟩ : ∃ q, n = q + 1 := ⟨n - 1, by omega⟩
      rw [eX0_pressersUntil_4]
      unfold mX0_pressersUntil_B4
      rw [if_pos ((n_le (by omega) (by omega)).mpr (by omega))]
      rfl
    | succ d ih =>
      intro j n acc hj hn
      obtain ⟨n, rfl⟩ : ∃ q, n = q + 1 := ⟨n - 1, by omega⟩
      have hi : sF (inW a dl rv m hd u) j (d + 1) = inW a dl rv m hd u j + sF (inW a dl rv m hd u) (j + 1) d := rfl
      have ht := TT_lt hA hr hdl (h := hd j) (show j < 8 by omega)
      rw [eX0_pressersUntil_4]
      unfold mX0_pressersUntil_B4
      rw [if_neg (fun hh => absurd ((n_le (by omega) (by omega)).mp hh) (by omega)), X0_secondOf_s hA hC hcd hr hrow hh hle (by omega), b_some, nI_1, nI_1, hi, ← Nat.add_assoc]
      unfold inW
      by_cases c1 : u < TT a dl rv m j (hd j)
      · rw [if_pos ((n_lt (by omega) (by omega)).mpr c1), if_neg (by omega), show (0 : Int32) = nI 0 from rfl, n_add, lb_d, lb_d]
        exact ih (j + 1) n (acc + 0) (by omega) (by omega)
      · rw [if_neg (fun hh => c1 ((n_lt (by omega) (by omega)).mp hh)), if_pos (by omega), lb_d, lb_d]
        exact ih (j + 1) n _ (by omega) (by omega)
  unfold mX0_pressersUntil
  refine (key (aJ a) 0 FUEL 0 (by omega) (by unfold FUEL; omega)).trans ?_
  rw [Nat.zero_add]
theorem X0_useOne_s {a : AT} {seenBy sums leads : Nat → Int32} (hA : OKD a) (hS : RCs a seenBy sums leads) {r c m : Nat} {rv : Nat → Nat} (hr : RowOK a r c (aB a) m rv) {row heads : Nat → Int32} (hrow : ∀ t, t < m → row t = nI (rv t)) {hd : Nat → Nat} (hh : HD a hd heads) {j : Nat} (hj : j < aJ a) (hlt : hd j < m) : ∃ heads', mX0_useOne (nI j) (nI m) heads row seenBy = some heads' ∧ HD a (oneS a rv m hd j) heads' := by
  have hJ := hA.2.2.1
  refine ⟨upd heads j (nI (nxt a rv m j (hd j))), ?_, fun k hk => ?_⟩
  · unfold mX0_useOne
    rw [gi_n (by omega) (by omega), n_cl (by omega), hh j hj, nI_1, X0_seenFrom_s hA hS hr hrow hj (by omega), b_some, gi_n (by omega) (by omega), lb_d]
    rfl
  · unfold oneS
    by_cases c1 : k = j
    · rw [c1, upd_s, if_pos rfl]
    · rw [upd_n c1, if_neg c1]
      exact hh k hk
theorem X0_useUntil_s {a : AT} {blows cdl seenBy sums leads : Nat → Int32} (hA : OKD a) (hC : ∀ k, k < 5 * aB a → blows k = nI (bl a k)) (hS : RCs a seenBy sums leads) {dl : Nat → Nat} (hdl : ∀ j, j < 8 → dl j ≤ 9) (hcd : ∀ j, j < 8 → cdl j = nI (dl j)) {r c m : Nat} {rv : Nat → Nat} (hr : RowOK a r c (aB a) m rv) {row heads : Nat → Int32} (hrow : ∀ t, t < m → row t = nI (rv t)) {hd : Nat → Nat} (hh : HD a hd heads) (hg : ∀ j, j < 8 → GH a rv m j (hd j)) {u : Nat} (hu : u < 1000) : ∃ heads', mX0_useUntil (nI u) (nI m) (nI (aJ a)) heads row blows seenBy cdl = some heads' ∧ HD a (useS a dl rv m hd u) heads' := by
  have hJ := hA.2.2.1
  have key : ∀ (d j n : Nat) (hc : Nat → Nat) (heads : Nat → Int32), j + d = aJ a → d < n → (∀ k, j ≤ k → hc k = hd k) → (∀ k, k < j → hc k = useS a dl rv m hd u k) → (∀ k, k < 8 → hc k ≤ m) → HD a hc heads → ∃ heads', mX0_useUntil_L2 (nI u) (nI m) (nI (aJ a)) row blows seenBy cdl n (nI j) heads = some heads' ∧ HD a (useS a dl rv m hd u) heads' := by
    intro d
    induction d with
    | zero =>
      intro j n hc heads hj hn h1 h2 h3 h4
      obtain ⟨n, rfl⟩ : ∃ q, n = q + 1 := ⟨n - 1, by omega⟩
      refine ⟨heads, ?_, fun k hk => by rw [h4 k hk, h2 k (by omega)]⟩
      rw [eX0_useUntil_2]
      unfold mX0_useUntil_B2
      rw [if_pos ((n_le (by omega) (by omega)).mpr (by omega))]
    | succ d ih =>
      intro j n hc heads hj hn h1 h2 h3 h4
      obtain ⟨n, rfl⟩ : ∃ q, n = q + 1 := ⟨n - 1, by omega⟩
      have ht := TT_lt hA hr hdl (h := hd j) (show j < 8 by omega)
      have hj0 := h1 j (Nat.le_refl _)
      have e := X0_secondOf_s hA hC hcd hr hrow h4 h3 (show j < aJ a by omega)
      rw [hj0] at e
      rw [eX0_useUntil_2]
      unfold mX0_useUntil_B2
      rw [if_neg (fun hh => absurd ((n_le (by omega) (by omega)).mp hh) (by omega)), e, b_some, nI_1]
      by_cases c1 : u < TT a dl rv m j (hd j)
      · rw [if_pos ((n_lt (by omega) (by omega)).mpr c1), lb_d]
        refine ih (j + 1) n hc heads (by omega) (by omega) (fun k hk => h1 k (by omega)) (fun k hk => ?_) h3 h4
        by_cases c2 : k = j
        · rw [c2, hj0]
          unfold useS
          rw [if_neg (by omega)]
        · exact h2 k (by omega)
      · have h5 : hd j < m := by omega
        obtain ⟨heads', e1, e2⟩ := X0_useOne_s hA hS hr hrow h4 (show j < aJ a by omega) (by rw [hj0]; exact h5)
        rw [if_neg (fun hh => c1 ((n_lt (by omega) (by omega)).mp hh)), e1, b_some, lb_d]
        refine ih (j + 1) n (oneS a rv m hc j) heads' (by omega) (by omega) (fun k hk => ?_) (fun k hk => ?_) (fun k hk => ?_) e2
        · unfold oneS
          rw [if_neg (by omega)]
          exact h1 k (by omega)
        · unfold oneS
          by_cases c2 : k = j
          · rw [if_pos c2, c2, hj0]
            unfold useS
            rw [if_pos (by omega)]
          · rw [if_neg c2]
            exact h2 k (by omega)
        · unfold oneS
          by_cases c2 : k = j
          · rw [if_pos c2, c2, hj0]
            exact (nxt_s a dl rv (hg j (by omega)) h5).1.1
          · rw [if_neg c2]
            exact h3 k hk
  unfold mX0_useUntil
  exact key (aJ a) 0 FUEL hd heads (by omega) (by unfold FUEL; omega) (fun _ _ => rfl) (fun k hk => absurd hk (by omega)) (fun k hk => (hg k hk).1) hh
