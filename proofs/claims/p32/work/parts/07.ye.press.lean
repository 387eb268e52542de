/-! BUTTONS: presses, as heads and as counts by second -/
def nx (a : AT) (rv : Nat → Nat) (j : Nat) : Nat → Nat → Nat
  | 0, x => x
  | d + 1, x => if seesB a j (rv x) = true then x else nx a rv j d (x + 1)
def cnt (a : AT) (dl rv : Nat → Nat) (m j h s : Nat) : Nat := sF (fun t => if seesB a j (rv t) = true ∧ bl a (5 * rv t + 1) + dl j = s then 1 else 0) h (m - h)
def TT (a : AT) (dl rv : Nat → Nat) (m j h : Nat) : Nat := if h < m then bl a (5 * rv h + 1) + dl j else 1000
def GH (a : AT) (rv : Nat → Nat) (m j h : Nat) : Prop := h ≤ m ∧ (h < m → seesB a j (rv h) = true)
def nxt (a : AT) (rv : Nat → Nat) (m j h : Nat) : Nat := nx a rv j (m - (h + 1)) (h + 1)
theorem nx_s (a : AT) (dl rv : Nat → Nat) (m j : Nat) : ∀ (d x : Nat), x + d = m → GH a rv m j (nx a rv j d x) ∧ x ≤ nx a rv j d x ∧ ∀ s, cnt a dl rv m j (nx a rv j d x) s = cnt a dl rv m j x s := by
  intro d
  induction d with
  | zero => intro x hx; exact ⟨⟨by show x ≤ m; omega, fun h => absurd h (by show ¬ x < m; omega)⟩, Nat.le_refl _, fun _ => rfl⟩
  | succ d ih =>
    intro x hx
    unfold nx
    by_cases h : seesB a j (rv x) = true
    · rw [if_pos h]
      exact ⟨⟨by omega, fun _ => h⟩, Nat.le_refl _, fun _ => rfl⟩
    · rw [if_neg h]
      obtain ⟨h1, h2, h3⟩ := ih (x + 1) (by omega)
      refine ⟨h1, by omega, fun s => ?_⟩
      rw [h3 s]
      unfold cnt
      rw [show m - x = (m - (x + 1)) + 1 by omega]
      show _ = (if seesB a j (rv x) = true ∧ bl a (5 * rv x + 1) + dl j = s then 1 else 0) + sF (fun t => if seesB a j (rv t) = true ∧ bl a (5 * rv t + 1) + dl j = s then 1 else 0) (x + 1) (m - (x + 1))
      rw [if_neg (show ¬ (seesB a j (rv x) = true ∧ bl a (5 * rv x + 1) + dl j = s) from fun hh => h hh.1), Nat.zero_add]
theorem nxt_s (a : AT) (dl rv : Nat → Nat) {m j h : Nat} (hg : GH a rv m j h) (hm : h < m) : GH a rv m j (nxt a rv m j h) ∧ h < nxt a rv m j h ∧ ∀ s, cnt a dl rv m j h s = (if TT a dl rv m j h = s then 1 else 0) + cnt a dl rv m j (nxt a rv m j h) s := by
  obtain ⟨h1, h2, h3⟩ := nx_s a dl rv m j (m - (h + 1)) (h + 1) (by omega)
  refine ⟨h1, by unfold nxt; omega, fun s => ?_⟩
  unfold nxt
  rw [h3 s]
  have e : cnt a dl rv m j h s = (if seesB a j (rv h) = true ∧ bl a (5 * rv h + 1) + dl j = s then 1 else 0) + cnt a dl rv m j (h + 1) s := by
    unfold cnt
    rw [show m - h = (m - (h + 1)) + 1 by omega]
    rfl
  rw [e]
  unfold TT
  rw [if_pos hm]
  by_cases c : bl a (5 * rv h + 1) + dl j = s
  · rw [if_pos (show seesB a j (rv h) = true ∧ bl a (5 * rv h + 1) + dl j = s from ⟨hg.2 hm, c⟩), if_pos c]
  · rw [if_neg (show ¬ (seesB a j (rv h) = true ∧ bl a (5 * rv h + 1) + dl j = s) from fun hh => c hh.2), if_neg c]
theorem cnt_low {a : AT} {dl rv : Nat → Nat} {r c m : Nat} (hr : RowOK a r c (aB a) m rv) {j h s : Nat} (hs : s < TT a dl rv m j h) : cnt a dl rv m j h s = 0 := by
  unfold cnt
  refine sF_nil _ _ (fun t h1 h2 => ?_)
  rw [if_neg]
  intro hh
  have h3 := hr.2.2.1 h t h1 (by omega)
  unfold TT at hs
  rw [if_pos (by omega)] at hs
  omega
theorem cnt_le {a : AT} {dl rv : Nat → Nat} {m j h s : Nat} (hm : m ≤ 40) : cnt a dl rv m j h s ≤ 40 := by
  have h1 := sF_le (g := fun t => if seesB a j (rv t) = true ∧ bl a (5 * rv t + 1) + dl j = s then 1 else 0) (m := 1) (N := h + (m - h)) (fun k _ => by split <;> omega) (m - h) h (by omega)
  unfold cnt
  omega
theorem TT_lt {a : AT} (hA : OKD a) {dl rv : Nat → Nat} {r c m : Nat} (hr : RowOK a r c (aB a) m rv) (hdl : ∀ j, j < 8 → dl j ≤ 9) {j h : Nat} (hj : j < 8) : (h < m ∧ TT a dl rv m j h ≤ 188) ∨ (m ≤ h ∧ TT a dl rv m j h = 1000) := by
  unfold TT
  by_cases c1 : h < m
  · have hb := hA.2.2.2.2.1 (rv h) (hr.2.1 h c1)
    unfold okBl at hb
    have := hdl j hj
    rw [if_pos c1]
    exact Or.inl ⟨c1, by omega⟩
  · rw [if_neg c1]
    exact Or.inr ⟨by omega, rfl⟩
/-- the model's presses hold what stands from the heads on -/
def RPr (a : AT) (dl rv : Nat → Nat) (m : Nat) (hd : Nat → Nat) (pr : Nat → Int32) : Prop := ∀ s j, s < 190 → j < 8 → pr (8 * s + j) = nI (cnt a dl rv m j (hd j) s)
theorem X11_pressOf_s {a : AT} (hA : OKD a) {dl rv : Nat → Nat} {r c m : Nat} (hr : RowOK a r c (aB a) m rv) (hdl : ∀ j, j < 8 → dl j ≤ 9) {j h : Nat} (hj : j < 8) (hg : GH a rv m j h) {pr : Nat → Int32} (hp : ∀ s, s < 190 → pr (8 * s + j) = nI (cnt a dl rv m j h s)) {lim : Nat} (hl : lim < 300) : ∀ (d s n : Nat), s + d = 191 → d < n → s ≤ TT a dl rv m j h → mX11_pressOf_L3 (nI j) (nI (lim - lim)) (nI lim) pr n (nI s) = some (if TT a dl rv m j h ≤ lim then nI (TT a dl rv m j h) else -4) := by
  have hB := hA.2.1
  have hm := hr.1
  have ht := TT_lt hA hr hdl (h := h) hj
  intro d
  induction d with
  | zero =>
    intro s n hs hn hst
    obtain ⟨n, rfl⟩ : ∃ q, n = q + 1 := ⟨n - 1, by omega⟩
    have h9 : ¬ TT a dl rv m j h ≤ lim := by omega
    rw [eX11_pressOf_3]
    unfold mX11_pressOf_B3
    rw [n_lit 190, if_pos (show nI 190 ≤ nI s from (n_le (by omega) (by omega)).mpr (by omega)), ite_self, if_neg h9]
  | succ d ih =>
    intro s n hs hn hst
    obtain ⟨n, rfl⟩ : ∃ q, n = q + 1 := ⟨n - 1, by omega⟩
    rw [eX11_pressOf_3]
    unfold mX11_pressOf_B3
    by_cases c1 : lim < s
    · rw [if_pos ((n_lt (by omega) (by omega)).mpr c1), if_neg (by omega)]
    · rw [if_neg (fun hh => c1 ((n_lt (by omega) (by omega)).mp hh))]
      by_cases c2 : 190 ≤ s
      · rw [n_lit 190, if_pos ((n_le (by omega) (by omega)).mpr c2), if_neg (by omega)]
      · have hc := cnt_le (a := a) (dl := dl) (rv := rv) (m := m) (j := j) (h := h) (s := s) (by omega)
        rw [n_lit 190, if_neg (fun hh => c2 ((n_le (by omega) (by omega)).mp hh)), n_lit 8, n_mul, n_add, gi_n (by omega) (by omega), n_cl (by omega), hp s (by omega)]
        by_cases c3 : s = TT a dl rv m j h
        · have h1 : h < m := by omega
          have h2 := (nxt_s a dl rv hg h1).2.2 s
          rw [if_pos c3.symm] at h2
          rw [if_neg (show ¬ nI (cnt a dl rv m j h s) ≤ (0 : Int32) from fun hh => absurd ((n_le (b := 0) (by omega) (by omega)).mp hh) (by omega)), if_pos (by omega), ← c3]
        · rw [cnt_low hr (by omega), if_pos (show nI 0 ≤ (0 : Int32) by decide), nI_1, lb_d]
          exact ih (s + 1) n (by omega) (by omega) (by omega)
theorem X11_pressOf_k {a : AT} (hA : OKD a) {dl rv : Nat → Nat} {r c m : Nat} (hr : RowOK a r c (aB a) m rv) (hdl : ∀ j, j < 8 → dl j ≤ 9) {j h : Nat} (hj : j < 8) (hg : GH a rv m j h) {pr : Nat → Int32} (hp : ∀ s, s < 190 → pr (8 * s + j) = nI (cnt a dl rv m j h s)) {s w : Nat} (hs : s < 190) (hw : w ≤ 9) (hst : s ≤ TT a dl rv m j h) : mX11_pressOf (nI j) (nI s) (nI (s + w)) pr = some (if TT a dl rv m j h ≤ s + w then nI (TT a dl rv m j h) else -4) := by
  unfold mX11_pressOf
  exact X11_pressOf_s hA hr hdl hj hg hp (lim := s + w) (by omega) (191 - s) s FUEL (by omega) (by unfold FUEL; omega) hst
