/-! BUTTONS: the points of a corner in a round -/
theorem sF_mono {g g' : Nat → Nat} : ∀ (d i : Nat), (∀ k, i ≤ k → k < i + d → g' k ≤ g k) → sF g' i d ≤ sF g i d := by
  intro d
  induction d with
  | zero => intro i _; exact Nat.le_refl _
  | succ d ih =>
    intro i h
    have h1 := ih (i + 1) (fun k h1 h2 => h k (by omega) (by omega))
    have h2 := h i (by omega) (by omega)
    show g' i + sF g' (i + 1) d ≤ g i + sF g (i + 1) d
    omega
theorem sF_lt {g g' : Nat → Nat} {j : Nat} (hj : g' j < g j) : ∀ (d i : Nat), i ≤ j → j < i + d → (∀ k, i ≤ k → k < i + d → g' k ≤ g k) → sF g' i d < sF g i d := by
  intro d
  induction d with
  | zero => intro i h1 h2; exact absurd h2 (by omega)
  | succ d ih =>
    intro i h1 h2 h
    show g' i + sF g' (i + 1) d < g i + sF g (i + 1) d
    by_cases c : i = j
    · have h3 := sF_mono d (i + 1) (fun k h1 h2 => h k (by omega) (by omega))
      rw [c] at h3 ⊢
      omega
    · have h3 := ih (i + 1) (by omega) (by omega) (fun k h1 h2 => h k (by omega) (by omega))
      have h4 := h i (by omega) (by omega)
      omega
theorem X11_scan {x0 x1 x2 x3 : Int32} {bm bls dls jm jds : Nat → Int32} (pts : Int32) (pr : Nat → Int32) : ∀ (d p n : Nat), (∀ p', p ≤ p' → p' < p + d → pr p' = 0) → p + d ≤ 1520 → mX11_pointsBy_L144 x0 x1 x2 x3 bm bls dls jm jds (n + d) pts (nI p) pr = mX11_pointsBy_L144 x0 x1 x2 x3 bm bls dls jm jds n pts (nI (p + d)) pr := by
  intro d
  induction d with
  | zero => intro p n _ _; rfl
  | succ d ih =>
    intro p n h hp
    rw [show n + (d + 1) = (n + d) + 1 by omega, eX11_pointsBy_144]
    unfold mX11_pointsBy_B144
    rw [n_lit 1520, if_neg (fun hh => absurd ((n_le (a := 1520) (by omega) (by omega)).mp hh) (by omega)), gi_n (by omega) (by omega), n_cl (by omega), if_pos (h p (by omega) (by omega)), nI_1, lb_d, ih (p + 1) n (fun p' h1 h2 => h p' (by omega) (by omega)) (by omega), show p + 1 + d = p + (d + 1) by omega]
theorem points_loop {a : AT} {blows cdl seenBy sums leads : Nat → Int32} (hA : OKD a) (hC : ∀ k, k < 5 * aB a → blows k = nI (bl a k)) (hS : RCs a seenBy sums leads) {dl : Nat → Nat} (hdl : ∀ j, j < 8 → dl j ≤ 9) (hcd : ∀ j, j < 8 → cdl j = nI (dl j)) {r c m : Nat} {rv : Nat → Nat} (hr : RowOK a r c (aB a) m rv) {row : Nat → Int32} (hrow : ∀ t, t < m → row t = nI (rv t)) {q w : Nat} (hq : q ≤ 8) (hw : w ≤ 9) {x0 x1 : Int32} {bc : Int32} {bm bls dls jm jds : Nat → Int32} : ∀ (tot f1 f2 : Nat) (hd : Nat → Nat) (heads pr : Nat → Int32) (pts used p : Nat) (first : Int32), sF (fun j => m - hd j) 0 8 ≤ tot → (∀ j, j < 8 → GH a rv m j (hd j)) → (∀ j, aJ a ≤ j → j < 8 → hd j = m) → HD a hd heads → RPr a dl rv m hd pr → (∀ p', p' < p → pr p' = 0) → p ≤ 1520 → used + tot ≤ 320 → tot < f1 → (1520 - p) + tot < f2 → mX0_firstPresser (nI m) (nI (aJ a)) heads row blows cdl = some first → ∃ P heads' pr', P ≤ pts + tot ∧ mX0_pointsOf_L53 x0 x1 (nI q) (nI w) bc (nI (aJ a)) blows seenBy cdl f1 (nI pts) first (nI used) (nI m) row heads = some (nI P, nI m, row, heads') ∧ mX11_pointsBy_L144 x0 x1 (nI q) (nI w) bm bls dls jm jds f2 (nI pts) (nI p) pr = some (nI P, pr') := by
  have hB := hA.2.1
  have hJ := hA.2.2.1
  have hm := hr.1
  intro tot
  induction tot with
  | zero =>
    intro f1 f2 hd heads pr pts used p first htot hg hge hh hp hz hp2 hu hf1 hf2 hfirst
    obtain ⟨b, e1, e2⟩ := X0_first_s hA hC hdl hcd hr hrow hh (fun j hj => (hg j hj).1)
    rw [hfirst] at e1
    have hb := Option.some.inj e1
    obtain ⟨f1, rfl⟩ : ∃ q, f1 = q + 1 := ⟨f1 - 1, by omega⟩
    rcases e2 with ⟨e2, e3⟩ | ⟨j0, h0, e2, e3, -⟩
    · have hall : ∀ j, j < 8 → hd j = m := by
        intro j hj
        by_cases c1 : j < aJ a
        · have h1 := e3 j c1
          have ht := TT_lt hA hr hdl (h := hd j) hj
          have := (hg j hj).1
          omega
        · exact hge j (by omega) hj
      have hz2 : ∀ p', p ≤ p' → p' < p + (1520 - p) → pr p' = 0 := by
        intro p' h1 h2
        have h3 := hp (p' / 8) (p' % 8) (by omega) (by omega)
        rw [show 8 * (p' / 8) + p' % 8 = p' by omega] at h3
        rw [h3, cnt_low hr (by unfold TT; rw [if_neg (by rw [hall _ (by omega)]; omega)]; omega)]
        rfl
      refine ⟨pts, heads, pr, by omega, ?_, ?_⟩
      · rw [eX0_pointsOf_53]
        unfold mX0_pointsOf_B53
        rw [hb, e2, if_pos (show iI (-1) < (0 : Int32) by decide), ite_self]
      · rw [show f2 = (f2 - (1520 - p)) + (1520 - p) by omega, X11_scan _ _ _ _ _ hz2 (by omega)]
        obtain ⟨f2, hf⟩ : ∃ q, f2 - (1520 - p) = q + 1 := ⟨f2 - (1520 - p) - 1, by omega⟩
        rw [hf, eX11_pointsBy_144]
        unfold mX11_pointsBy_B144
        rw [n_lit 1520, if_pos ((n_le (by omega) (by omega)).mpr (by omega))]
    · have ht := TT_lt hA hr hdl (h := hd j0) (show j0 < 8 by omega)
      have h4 := sF_lt (g := fun j => m - hd j) (g' := fun _ => 0) (j := j0) (show 0 < m - hd j0 by omega) 8 0 (by omega) (by omega) (fun k _ _ => Nat.zero_le _)
      omega
  | succ tot ih =>
    intro f1 f2 hd heads pr pts used p first htot hg hge hh hp hz hp2 hu hf1 hf2 hfirst
    obtain ⟨b, e1, e2⟩ := X0_first_s hA hC hdl hcd hr hrow hh (fun j hj => (hg j hj).1)
    rw [hfirst] at e1
    have hb := Option.some.inj e1
    obtain ⟨f1, rfl⟩ : ∃ q, f1 = q + 1 := ⟨f1 - 1, by omega⟩
    rcases e2 with ⟨e2, e3⟩ | ⟨j0, h0, e2, e3, e4, e5⟩
    · have hall : ∀ j, j < 8 → hd j = m := by
        intro j hj
        by_cases c1 : j < aJ a
        · have h1 := e3 j c1
          have ht := TT_lt hA hr hdl (h := hd j) hj
          have := (hg j hj).1
          omega
        · exact hge j (by omega) hj
      have hz2 : ∀ p', p ≤ p' → p' < p + (1520 - p) → pr p' = 0 := by
        intro p' h1 h2
        have h3 := hp (p' / 8) (p' % 8) (by omega) (by omega)
        rw [show 8 * (p' / 8) + p' % 8 = p' by omega] at h3
        rw [h3, cnt_low hr (by unfold TT; rw [if_neg (by rw [hall _ (by omega)]; omega)]; omega)]
        rfl
      refine ⟨pts, heads, pr, by omega, ?_, ?_⟩
      · rw [eX0_pointsOf_53]
        unfold mX0_pointsOf_B53
        rw [hb, e2, if_pos (show iI (-1) < (0 : Int32) by decide), ite_self]
      · rw [show f2 = (f2 - (1520 - p)) + (1520 - p) by omega, X11_scan _ _ _ _ _ hz2 (by omega)]
        obtain ⟨f2, hf⟩ : ∃ q, f2 - (1520 - p) = q + 1 := ⟨f2 - (1520 - p) - 1, by omega⟩
        rw [hf, eX11_pointsBy_144]
        unfold mX11_pointsBy_B144
        rw [n_lit 1520, if_pos ((n_le (by omega) (by omega)).mpr (by omega))]
    · have ht := TT_lt hA hr hdl (h := hd j0) (show j0 < 8 by omega)
      have hlt : hd j0 < m := by omega
      obtain ⟨s0, hs0⟩ : ∃ s, s = TT a dl rv m j0 (hd j0) := ⟨_, rfl⟩
      have hs1 : s0 ≤ 188 := by omega
      have hTall : ∀ j, j < 8 → s0 ≤ TT a dl rv m j (hd j) := by
        intro j hj
        by_cases c1 : j < aJ a
        · rw [hs0]; exact e4 j c1
        · have h1 := hge j (by omega) hj
          have h2 := TT_lt hA hr hdl (h := hd j) hj
          omega
      have hpos : 1 ≤ cnt a dl rv m j0 (hd j0) s0 := by
        have h1 := (nxt_s a dl rv (hg j0 (by omega)) hlt).2.2 s0
        rw [if_pos hs0.symm] at h1
        omega
      have hle40 := fun j h s => cnt_le (a := a) (dl := dl) (rv := rv) (m := m) (j := j) (h := h) (s := s) (show m ≤ 40 by omega)
      have hP := hp s0 j0 (by omega) (by omega)
      have hne : ¬ pr (8 * s0 + j0) = 0 := by
        rw [hP]
        intro hh2
        have := (n_eq (b := 0) (by have := hle40 j0 (hd j0) s0; omega) (by omega)).mp hh2
        omega
      have hz2 : ∀ p', p' < 8 * s0 + j0 → pr p' = 0 := by
        intro p' h1
        have h3 := hp (p' / 8) (p' % 8) (by omega) (by omega)
        rw [show 8 * (p' / 8) + p' % 8 = p' by omega] at h3
        rw [h3, cnt_low hr]
        · rfl
        · by_cases c1 : p' / 8 = s0
          · have h4 := e5 (p' % 8) (by omega)
            omega
          · have h4 := hTall (p' % 8) (by omega)
            omega
      have hpP : p ≤ 8 * s0 + j0 := by
        by_cases c1 : p ≤ 8 * s0 + j0
        · exact c1
        · exact absurd (hz _ (by omega)) hne
      have hsc : mX11_pointsBy_L144 x0 x1 (nI q) (nI w) bm bls dls jm jds f2 (nI pts) (nI p) pr = mX11_pointsBy_L144 x0 x1 (nI q) (nI w) bm bls dls jm jds (f2 - (8 * s0 + j0 - p)) (nI pts) (nI (8 * s0 + j0)) pr := by
        have h1 := X11_scan (x0 := x0) (x1 := x1) (x2 := nI q) (x3 := nI w) (bm := bm) (bls := bls) (dls := dls) (jm := jm) (jds := jds) (nI pts) pr (8 * s0 + j0 - p) p (f2 - (8 * s0 + j0 - p)) (fun p' h1 h2 => hz2 p' (by omega)) (by omega)
        rw [show f2 - (8 * s0 + j0 - p) + (8 * s0 + j0 - p) = f2 by omega, show p + (8 * s0 + j0 - p) = 8 * s0 + j0 by omega] at h1
        exact h1
      obtain ⟨f3, hf3⟩ : ∃ q, f2 - (8 * s0 + j0 - p) = q + 1 := ⟨f2 - (8 * s0 + j0 - p) - 1, by omega⟩
      have hC8 : sF (inW a dl rv m hd (s0 + w)) 0 8 = sF (inW a dl rv m hd (s0 + w)) 0 (aJ a) := by
        have h1 := sF_app (inW a dl rv m hd (s0 + w)) (aJ a) (8 - aJ a) 0
        rw [show aJ a + (8 - aJ a) = 8 by omega] at h1
        rw [h1, sF_nil (8 - aJ a) (0 + aJ a) (fun k h2 h3 => by
          unfold inW
          rw [if_neg]
          have h4 := hge k (by omega) (by omega)
          have h5 := TT_lt hA hr hdl (h := hd k) (show k < 8 by omega)
          omega), Nat.add_zero]
      have hcle : sF (inW a dl rv m hd (s0 + w)) 0 (aJ a) ≤ 8 := by
        have h1 := sF_le (g := inW a dl rv m hd (s0 + w)) (m := 1) (N := aJ a) (fun k _ => by unfold inW; split <;> omega) (aJ a) 0 (by omega)
        omega
      have hpress := X11_pressing_s hA hr hdl hg hp (show s0 < 190 by omega) hw hTall
      have hunt := X0_until_s hA hC hdl hcd hr hrow hh (fun j hj => (hg j hj).1) (show s0 + w < 1000 by omega)
      have hsec := X0_secondOf_s hA hC hcd hr hrow hh (fun j hj => (hg j hj).1) h0
      rw [← hs0] at hsec
      -- the class's step
      have eC : mX0_pointsOf_L53 x0 x1 (nI q) (nI w) bc (nI (aJ a)) blows seenBy cdl (f1 + 1) (nI pts) first (nI used) (nI m) row heads = if sF (inW a dl rv m hd (s0 + w)) 0 (aJ a) < q then ((mX0_useOne (nI j0) (nI m) heads row seenBy).bind fun o19 => mX0_pointsOf_B105 x0 x1 (nI q) (nI w) bc (nI (aJ a)) blows seenBy cdl (mX0_pointsOf_L53 x0 x1 (nI q) (nI w) bc (nI (aJ a)) blows seenBy cdl f1) (nI pts) (nI used) (nI m) row o19) else ((mX0_useUntil (nI (s0 + w)) (nI m) (nI (aJ a)) heads row blows seenBy cdl).bind fun o22 => mX0_pointsOf_B105 x0 x1 (nI q) (nI w) bc (nI (aJ a)) blows seenBy cdl (mX0_pointsOf_L53 x0 x1 (nI q) (nI w) bc (nI (aJ a)) blows seenBy cdl f1) (nI (pts + 1)) (nI used) (nI m) row o22) := by
        rw [eX0_pointsOf_53]
        unfold mX0_pointsOf_B53
        rw [hb, e2]
        change (if (320 : Int32) ≤ nI used then _ else if iI (j0 : Int) < 0 then _ else (mX0_secondOf (iI (j0 : Int)) (nI m) heads row blows cdl).bind _) = _
        rw [← nI_iI j0, n_lit 320, if_neg (fun hh => absurd ((n_le (a := 320) (by omega) (by omega)).mp hh) (by omega)), if_neg (nI_pos (by omega)), hsec, b_some, n_add, lb_d, hunt, b_some]
        by_cases c1 : sF (inW a dl rv m hd (s0 + w)) 0 (aJ a) < q
        · rw [if_pos ((n_lt (by omega) (by omega)).mpr c1), if_pos c1]
        · rw [if_neg (fun hh => c1 ((n_lt (by omega) (by omega)).mp hh)), if_neg c1, nI_1, lb_d]
      have eM : mX11_pointsBy_L144 x0 x1 (nI q) (nI w) bm bls dls jm jds (f3 + 1) (nI pts) (nI (8 * s0 + j0)) pr = if sF (inW a dl rv m hd (s0 + w)) 0 (aJ a) < q then (mX11_pointsBy_L144 x0 x1 (nI q) (nI w) bm bls dls jm jds f3 (nI pts) (nI (8 * s0 + j0)) (upd pr (8 * s0 + j0) (pr (8 * s0 + j0) - 1))) else ((mX11_use (nI s0) (nI w) pr).bind fun o16 => mX11_pointsBy_L144 x0 x1 (nI q) (nI w) bm bls dls jm jds f3 (nI (pts + 1)) (nI (8 * s0 + j0)) o16) := by
        rw [eX11_pointsBy_144]
        unfold mX11_pointsBy_B144
        rw [n_lit 1520, if_neg (fun hh => absurd ((n_le (a := 1520) (by omega) (by omega)).mp hh) (by omega)), gi_n (by omega) (by omega), n_cl (by omega), if_neg hne, n_lit 8, pk_div (by omega) (by omega) (by omega), show (8 * s0 + j0) / 8 = s0 by omega, hpress, b_some, hC8]
        by_cases c1 : sF (inW a dl rv m hd (s0 + w)) 0 (aJ a) < q
        · rw [if_pos ((n_lt (by omega) (by omega)).mpr c1), if_pos c1, gi_n (by omega) (by omega), gi_n (by omega) (by omega), lb_d]
        · rw [if_neg (fun hh => c1 ((n_lt (by omega) (by omega)).mp hh)), if_neg c1, nI_1, lb_d]
      -- the next state
      have go : ∀ (hd' : Nat → Nat) (heads' pr' : Nat → Int32) (pts' : Nat), pts' ≤ pts + 1 → (∀ j, j < 8 → GH a rv m j (hd' j)) → (∀ j, j < 8 → hd j ≤ hd' j) → hd j0 < hd' j0 → (∀ j, aJ a ≤ j → j < 8 → hd' j = m) → (∀ j s, j < 8 → cnt a dl rv m j (hd' j) s ≤ cnt a dl rv m j (hd j) s) → HD a hd' heads' → RPr a dl rv m hd' pr' → ∃ P heads'' pr'', P ≤ pts + (tot + 1) ∧ mX0_pointsOf_B105 x0 x1 (nI q) (nI w) bc (nI (aJ a)) blows seenBy cdl (mX0_pointsOf_L53 x0 x1 (nI q) (nI w) bc (nI (aJ a)) blows seenBy cdl f1) (nI pts') (nI used) (nI m) row heads' = some (nI P, nI m, row, heads'') ∧ mX11_pointsBy_L144 x0 x1 (nI q) (nI w) bm bls dls jm jds f3 (nI pts') (nI (8 * s0 + j0)) pr' = some (nI P, pr'') := by
        intro hd' heads' pr' pts' hpt g1 g2 g3 g4 g5 g6 g7
        obtain ⟨b', k1, -⟩ := X0_first_s hA hC hdl hcd hr hrow g6 (fun j hj => (g1 j hj).1)
        have hsum := sF_lt (g := fun j => m - hd j) (g' := fun j => m - hd' j) (j := j0) (by show m - hd' j0 < m - hd j0; omega) 8 0 (by omega) (by omega) (fun k _ hk => by
          have := g2 k (by omega)
          show m - hd' k ≤ m - hd k
          omega)
        obtain ⟨P, heads'', pr'', k2, k3, k4⟩ := ih f1 f3 hd' heads' pr' pts' (used + 1) (8 * s0 + j0) (iI b'.1) (by omega) g1 g4 g6 g7 (fun p' hp' => by
          have h3 := hp (p' / 8) (p' % 8) (by omega) (by omega)
          have h4 := g7 (p' / 8) (p' % 8) (by omega) (by omega)
          rw [show 8 * (p' / 8) + p' % 8 = p' by omega] at h3 h4
          have h5 := hz2 p' hp'
          rw [h3] at h5
          have h6 := (n_eq (b := 0) (by have := hle40 (p' % 8) (hd (p' % 8)) (p' / 8); omega) (by omega)).mp h5
          have h7 := g5 (p' % 8) (p' / 8) (by omega)
          rw [h4, show cnt a dl rv m (p' % 8) (hd' (p' % 8)) (p' / 8) = 0 by omega]
          rfl) (by omega) (by omega) (by omega) (by omega) k1
        refine ⟨P, heads'', pr'', by omega, ?_, k4⟩
        unfold mX0_pointsOf_B105
        rw [k1, b_some, nI_1, lb_d]
        exact k3
      rw [eC, hsc, hf3, eM]
      by_cases c1 : sF (inW a dl rv m hd (s0 + w)) 0 (aJ a) < q
      · rw [if_pos c1, if_pos c1]
        obtain ⟨heads', u1, u2⟩ := X0_useOne_s hA hS hr hrow hh h0 hlt
        have hn := nxt_s a dl rv (hg j0 (by omega)) hlt
        have hR := RPr_one (show m ≤ 40 by omega) hp (show j0 < 8 by omega) (hg j0 (by omega)) hlt (by omega)
        rw [← hs0] at hR
        rw [u1, b_some]
        refine go (oneS a rv m hd j0) heads' _ pts (by omega) (fun j hj => ?_) (fun j hj => ?_) ?_ (fun j hj1 hj2 => ?_) (fun j s hj => ?_) u2 hR
        · unfold oneS
          split
          · rename_i hj0
            rw [hj0]
            exact hn.1
          · exact hg j hj
        · unfold oneS
          split
          · rename_i hj0
            rw [hj0]
            omega
          · exact Nat.le_refl _
        · unfold oneS
          rw [if_pos rfl]
          exact hn.2.1
        · unfold oneS
          rw [if_neg (by omega)]
          exact hge j hj1 hj2
        · unfold oneS
          split
          · rename_i hj0
            rw [hj0, hn.2.2 s]
            omega
          · exact Nat.le_refl _
      · rw [if_neg c1, if_neg c1]
        obtain ⟨heads', u1, u2⟩ := X0_useUntil_s hA hC hS hdl hcd hr hrow hh hg (show s0 + w < 1000 by omega)
        obtain ⟨pr', u3, u4⟩ := X11_use_s hA hr hdl hg hp (show s0 < 190 by omega) hw hTall
        have hn : ∀ j, j < 8 → TT a dl rv m j (hd j) ≤ s0 + w → hd j < m := by
          intro j hj h1
          have h2 := TT_lt hA hr hdl (h := hd j) hj
          omega
        rw [u1, b_some, u3, b_some]
        refine go (useS a dl rv m hd (s0 + w)) heads' pr' (pts + 1) (by omega) (fun j hj => ?_) (fun j hj => ?_) ?_ (fun j hj1 hj2 => ?_) (fun j s hj => ?_) u2 u4
        · unfold useS
          split
          · rename_i h1
            exact (nxt_s a dl rv (hg j hj) (hn j hj h1)).1
          · exact hg j hj
        · unfold useS
          split
          · rename_i h1
            have := (nxt_s a dl rv (hg j hj) (hn j hj h1)).2.1
            omega
          · exact Nat.le_refl _
        · unfold useS
          rw [if_pos (by omega)]
          exact (nxt_s a dl rv (hg j0 (by omega)) hlt).2.1
        · unfold useS
          have h1 := hge j hj1 hj2
          have h2 := TT_lt hA hr hdl (h := hd j) hj2
          rw [if_neg (by omega)]
          exact h1
        · unfold useS
          split
          · rename_i h1
            rw [(nxt_s a dl rv (hg j hj) (hn j hj h1)).2.2 s]
            omega
          · exact Nat.le_refl _
