/-! READER: the letters -/
theorem item_f {n : Nat} {t : Nat → Nat} {bytes text : Nat → Int32} (hB : TB n t bytes text) (hn : n ≤ 500) {a0 a : AT} (h0 : OKD a0) (hA : OKD a) {rounds home noise bc jc : Int32} {cbl cjd cfw cdn ctk : Nat → Int32} (hC : RCr a rounds home noise bc jc cbl cjd cfw cdn ctk) {bm bls dns fws hms jm jds nss rm tks : Nat → Int32} (hM : RM a0 rm bm bls fws dns tks hms nss jm jds) (h1 : RB1 a rm bm bls fws dns tks hms nss jm jds) (told nums : Nat → Int32) {p : Nat} (hp : p < n) (ht : t p = 102) : ∃ (om : OM) (oi : Int32 × Int32 × (Nat → Int32)), mX11_item (nI n) (nI p) bm bls dns fws hms jm jds nss rm tks text told = some om ∧ mX6_readItem (nI p) nums (nI n) bytes = some oi ∧ ItemOut n p a0 om oi (mX3_take (nI (t p)) rounds home noise bc jc cbl cdn cfw cjd ctk oi.2.2) := by
  have hc := X6_readItem_k hB hn nums hp (q := 2) (by omega) (by rw [ht]; rfl)
  change ((∃ oi, mX6_readItem (nI p) nums (nI n) bytes = some oi ∧ oi.1 = 0) ∧ ∀ o, pN n t 3 (p + 1) 0 (fun _ => 0) = some o → ¬ inR 6 0 3 o.1) ∨ (∃ o, pN n t 3 (p + 1) 0 (fun _ => 0) = some o ∧ inR 6 0 3 o.1 ∧ ∃ nm, mX6_readItem (nI p) nums (nI n) bytes = some (1, nI o.2, nm) ∧ ∀ k, k < 3 → nm k = nI (o.1 k)) at hc
  have hP := fun o h => pN_bd (n := n) (t := t) 3 (p + 1) 0 (fun _ => 0) o h
  unfold mX11_item
  rw [X11_byteAt_s hB hn (by omega), b_some, if_pos hp, ht, nI_1, lb_d, if_neg (by decide), if_neg (by decide), if_pos (by decide)]
  rcases X11_figures_k hB hn told hp (cnt := 3) (by omega) (x0 := 3) rfl with ⟨f1, q, told', f2⟩ | ⟨o, f1, told', f2, f3⟩
  · rw [f2, b_some, if_pos rfl]
    rcases hc with ⟨⟨oi, c1, c2⟩, -⟩ | ⟨o, c1, -⟩
    · exact ⟨_, oi, rfl, c1, hM, Or.inl ⟨rfl, Or.inl c2⟩⟩
    · rw [f1] at c1
      cases c1
  · have g0 : told' (0 : Int32).toNatClampNeg = nI (o.1 0) := f3 0 (by omega)
    have g1 : told' (1 : Int32).toNatClampNeg = nI (o.1 1) := f3 1 (by omega)
    have g2 : told' (2 : Int32).toNatClampNeg = nI (o.1 2) := f3 2 (by omega)
    obtain ⟨p1, p2, p3, p4⟩ := hP o f1
    have v0 := p2 0 (by omega) (by omega)
    have v1 := p2 1 (by omega) (by omega)
    have v2 := p2 2 (by omega) (by omega)
    rw [f2, b_some, if_neg (show ¬ (1 : Int32) = 0 by decide)]
    simp only [g0, g1, g2]
    have fail : ¬ (o.1 0 ≤ 11 ∧ o.1 1 ≤ 1 ∧ o.1 2 ≤ 9) → ∃ oi : Int32 × Int32 × (Nat → Int32), mX6_readItem (nI p) nums (nI n) bytes = some oi ∧ oi.1 = 0 := by
      intro hno
      rcases hc with ⟨hc1, -⟩ | ⟨o', c1, c2, -⟩
      · exact hc1
      · rw [f1] at c1
        have hoo := Option.some.inj c1
        subst hoo
        exact absurd ⟨(c2 0 (by omega) (by omega)).2, (c2 1 (by omega) (by omega)).2, (c2 2 (by omega) (by omega)).2⟩ hno
    by_cases k0 : o.1 0 ≤ 11
    · rw [if_neg (show ¬ (11 : Int32) < nI (o.1 0) from fun hh => absurd ((n_lt (a := 11) (by omega) (by omega)).mp hh) (by omega))]
      by_cases k1 : o.1 1 ≤ 1
      · rw [if_neg (show ¬ (1 : Int32) < nI (o.1 1) from fun hh => absurd ((n_lt (a := 1) (by omega) (by omega)).mp hh) (by omega))]
        by_cases k2 : o.1 2 ≤ 9
        · rw [if_pos (show nI (o.1 2) ≤ (9 : Int32) from (n_le (b := 9) (by omega) (by omega)).mpr k2)]
          rcases hc with ⟨-, c3⟩ | ⟨o', c1, c2, nm, c3, c4⟩
          · refine absurd ?_ (c3 o f1)
            intro j _ hj
            rcases (show j = 0 ∨ j = 1 ∨ j = 2 by omega) with h | h | h <;> subst h
            · exact ⟨Nat.zero_le _, k0⟩
            · exact ⟨Nat.zero_le _, k1⟩
            · exact ⟨Nat.zero_le _, k2⟩
          · rw [f1] at c1
            have hoo := Option.some.inj c1
            subst hoo
            have ei : ((24 : Int32) + (2 : Int32) * nI (o.1 0)) + nI (o.1 1) = nI (24 + 2 * o.1 0 + o.1 1) := by rw [n_lit 24, n_lit 2, n_mul, n_add, n_add]
            rw [ei, gi_n (by omega) (by omega), n_cl (by omega), lb_d]
            refine ⟨_, _, rfl, c3, ⟨hM.1, hM.2.1, hM.2.2.1, hM.2.2.2.1, hM.2.2.2.2.1, hM.2.2.2.2.2.1, hM.2.2.2.2.2.2.1, fun k hk => (upd_n (by omega)).trans (hM.2.2.2.2.2.2.2.1 k hk), hM.2.2.2.2.2.2.2.2⟩, Or.inr ⟨rfl, rfl, (1, cjd, jc, rounds, cdn, home, noise, upd cfw (2 * o.1 0 + o.1 1) (nI (o.1 2)), ctk, cbl, bc), setF a (2 * o.1 0 + o.1 1) (o.1 2), o.2, ?_, rfl, rfl, rfl, by have := (p4 (by omega)).1; omega, (p4 (by omega)).2, ⟨hA.1, hA.2.1, hA.2.2.1, hA.2.2.2.1, hA.2.2.2.2.1, hA.2.2.2.2.2.1, fun k hk => ?_, hA.2.2.2.2.2.2.2⟩, ⟨hC.1, hC.2.1, hC.2.2.1, hC.2.2.2.1, hC.2.2.2.2.1, hC.2.2.2.2.2.1, hC.2.2.2.2.2.2.1, fun k hk => ?_, hC.2.2.2.2.2.2.2.2⟩, ⟨h1.1, h1.2.1, h1.2.2.1, h1.2.2.2.1, h1.2.2.2.2.1, h1.2.2.2.2.2.1, h1.2.2.2.2.2.2.1, fun k hk => ?_, h1.2.2.2.2.2.2.2.2⟩⟩⟩
            · unfold mX3_take
              rw [if_neg (by decide), if_neg (by decide), if_pos (by decide)]
              show gi ((nm 0 * (2 : Int32)) + nm 1) 24 (lb (upd cfw ((nm 0 * (2 : Int32)) + nm 1).toNatClampNeg (nm 2)) fun g14 => some (1, cjd, jc, rounds, cdn, home, noise, g14, ctk, cbl, bc)) = _
              rw [c4 0 (by omega), c4 1 (by omega), c4 2 (by omega), n_lit 2, n_mul, n_add, gi_n (by omega) (by omega), n_cl (by omega), lb_d, Nat.mul_comm (o.1 0) 2]
            · show (if k = 2 * o.1 0 + o.1 1 then o.1 2 else fw a k) ≤ 9
              split
              · exact k2
              · exact hA.2.2.2.2.2.2.1 k hk
            · show upd cfw (2 * o.1 0 + o.1 1) (nI (o.1 2)) k = nI (if k = 2 * o.1 0 + o.1 1 then o.1 2 else fw a k)
              by_cases hk2 : k = 2 * o.1 0 + o.1 1
              · rw [hk2, upd_s, if_pos rfl]
              · rw [upd_n hk2, if_neg hk2]
                exact hC.2.2.2.2.2.2.2.1 k hk
            · show upd fws (24 + 2 * o.1 0 + o.1 1) (nI (o.1 2)) (24 + k) = nI (if k = 2 * o.1 0 + o.1 1 then o.1 2 else fw a k)
              by_cases hk2 : k = 2 * o.1 0 + o.1 1
              · rw [show 24 + k = 24 + 2 * o.1 0 + o.1 1 by omega, upd_s, if_pos hk2]
              · rw [upd_n (by omega), if_neg hk2]
                exact h1.2.2.2.2.2.2.2.1 k hk
        · obtain ⟨oi, c1, c2⟩ := fail (fun hh => k2 hh.2.2)
          rw [if_neg (show ¬ nI (o.1 2) ≤ (9 : Int32) from fun hh => k2 ((n_le (b := 9) (by omega) (by omega)).mp hh))]
          exact ⟨_, oi, rfl, c1, hM, Or.inl ⟨rfl, Or.inl c2⟩⟩
      · obtain ⟨oi, c1, c2⟩ := fail (fun hh => k1 hh.2.1)
        rw [if_pos (show (1 : Int32) < nI (o.1 1) from (n_lt (a := 1) (by omega) (by omega)).mpr (by omega))]
        exact ⟨_, oi, rfl, c1, hM, Or.inl ⟨rfl, Or.inl c2⟩⟩
    · obtain ⟨oi, c1, c2⟩ := fail (fun hh => k0 hh.1)
      rw [if_pos (show (11 : Int32) < nI (o.1 0) from (n_lt (a := 11) (by omega) (by omega)).mpr (by omega))]
      exact ⟨_, oi, rfl, c1, hM, Or.inl ⟨rfl, Or.inl c2⟩⟩
theorem item_h {n : Nat} {t : Nat → Nat} {bytes text : Nat → Int32} (hB : TB n t bytes text) (hn : n ≤ 500) {a0 a : AT} (h0 : OKD a0) (hA : OKD a) {rounds home noise bc jc : Int32} {cbl cjd cfw cdn ctk : Nat → Int32} (hC : RCr a rounds home noise bc jc cbl cjd cfw cdn ctk) {bm bls dns fws hms jm jds nss rm tks : Nat → Int32} (hM : RM a0 rm bm bls fws dns tks hms nss jm jds) (h1 : RB1 a rm bm bls fws dns tks hms nss jm jds) (told nums : Nat → Int32) {p : Nat} (hp : p < n) (ht : t p = 104) : ∃ (om : OM) (oi : Int32 × Int32 × (Nat → Int32)), mX11_item (nI n) (nI p) bm bls dns fws hms jm jds nss rm tks text told = some om ∧ mX6_readItem (nI p) nums (nI n) bytes = some oi ∧ ItemOut n p a0 om oi (mX3_take (nI (t p)) rounds home noise bc jc cbl cdn cfw cjd ctk oi.2.2) := by
  have hc := X6_readItem_k hB hn nums hp (q := 5) (by omega) (by rw [ht]; rfl)
  change ((∃ oi, mX6_readItem (nI p) nums (nI n) bytes = some oi ∧ oi.1 = 0) ∧ ∀ o, pN n t 2 (p + 1) 0 (fun _ => 0) = some o → ¬ inR 13 0 2 o.1) ∨ (∃ o, pN n t 2 (p + 1) 0 (fun _ => 0) = some o ∧ inR 13 0 2 o.1 ∧ ∃ nm, mX6_readItem (nI p) nums (nI n) bytes = some (1, nI o.2, nm) ∧ ∀ k, k < 2 → nm k = nI (o.1 k)) at hc
  have hP := fun o h => pN_bd (n := n) (t := t) 2 (p + 1) 0 (fun _ => 0) o h
  unfold mX11_item
  rw [X11_byteAt_s hB hn (by omega), b_some, if_pos hp, ht, nI_1, lb_d, if_neg (by decide), if_neg (by decide), if_neg (by decide), if_pos (by decide)]
  rcases X11_figures_k hB hn told hp (cnt := 2) (by omega) (x0 := 2) rfl with ⟨f1, q, told', f2⟩ | ⟨o, f1, told', f2, f3⟩
  · rw [f2, b_some, if_pos rfl]
    rcases hc with ⟨⟨oi, c1, c2⟩, -⟩ | ⟨o, c1, -⟩
    · exact ⟨_, oi, rfl, c1, hM, Or.inl ⟨rfl, Or.inl c2⟩⟩
    · rw [f1] at c1
      cases c1
  · have g0 : told' (0 : Int32).toNatClampNeg = nI (o.1 0) := f3 0 (by omega)
    have g1 : told' (1 : Int32).toNatClampNeg = nI (o.1 1) := f3 1 (by omega)
    obtain ⟨p1, p2, p3, p4⟩ := hP o f1
    have v0 := p2 0 (by omega) (by omega)
    have v1 := p2 1 (by omega) (by omega)
    rw [f2, b_some, if_neg (show ¬ (1 : Int32) = 0 by decide)]
    simp only [g0, g1]
    have fail : ¬ (o.1 0 ≤ 1 ∧ o.1 1 ≤ 9) → ∃ oi : Int32 × Int32 × (Nat → Int32), mX6_readItem (nI p) nums (nI n) bytes = some oi ∧ oi.1 = 0 := by
      intro hno
      rcases hc with ⟨hc1, -⟩ | ⟨o', c1, c2, -⟩
      · exact hc1
      · rw [f1] at c1
        have hoo := Option.some.inj c1
        subst hoo
        exact absurd ⟨(c2 0 (by omega) (by omega)).2, (c2 1 (by omega) (by omega)).2⟩ hno
    by_cases k0 : o.1 0 ≤ 1
    · rw [if_neg (show ¬ (1 : Int32) < nI (o.1 0) from fun hh => absurd ((n_lt (a := 1) (by omega) (by omega)).mp hh) (by omega))]
      by_cases k1 : o.1 1 ≤ 9
      · rw [if_pos (show nI (o.1 1) ≤ (9 : Int32) from (n_le (b := 9) (by omega) (by omega)).mpr k1), lb_d, lb_d]
        rcases hc with ⟨-, c3⟩ | ⟨o', c1, c2, nm, c3, c4⟩
        · refine absurd ?_ (c3 o f1)
          intro j _ hj
          rcases (show j = 0 ∨ j = 1 by omega) with h | h <;> subst h
          · exact ⟨Nat.zero_le _, k0⟩
          · exact ⟨Nat.zero_le _, k1⟩
        · rw [f1] at c1
          have hoo := Option.some.inj c1
          subst hoo
          refine ⟨_, _, rfl, c3, ⟨hM.1, hM.2.1, hM.2.2.1, hM.2.2.2.1, hM.2.2.2.2.1, hM.2.2.2.2.2⟩, Or.inr ⟨rfl, rfl, (1, cjd, jc, rounds, cdn, nI (o.1 0), nI (o.1 1), cfw, ctk, cbl, bc), setH a (o.1 0) (o.1 1), o.2, ?_, rfl, rfl, rfl, by have := (p4 (by omega)).1; omega, (p4 (by omega)).2, ⟨hA.1, hA.2.1, hA.2.2.1, ⟨k0, k1⟩, hA.2.2.2.2⟩, ⟨hC.1, rfl, rfl, hC.2.2.2⟩, ⟨h1.1, h1.2.1, h1.2.2.1, rfl, rfl, h1.2.2.2.2.2⟩⟩⟩
          unfold mX3_take
          rw [if_neg (by decide), if_neg (by decide), if_neg (by decide), if_pos (by decide), lb_d, lb_d]
          show some (1, cjd, jc, rounds, cdn, nm 0, nm 1, cfw, ctk, cbl, bc) = _
          rw [c4 0 (by omega), c4 1 (by omega)]
      · obtain ⟨oi, c1, c2⟩ := fail (fun hh => k1 hh.2)
        rw [if_neg (show ¬ nI (o.1 1) ≤ (9 : Int32) from fun hh => k1 ((n_le (b := 9) (by omega) (by omega)).mp hh))]
        exact ⟨_, oi, rfl, c1, hM, Or.inl ⟨rfl, Or.inl c2⟩⟩
    · obtain ⟨oi, c1, c2⟩ := fail (fun hh => k0 hh.1)
      rw [if_pos (show (1 : Int32) < nI (o.1 0) from (n_lt (a := 1) (by omega) (by omega)).mpr (by omega))]
      exact ⟨_, oi, rfl, c1, hM, Or.inl ⟨rfl, Or.inl c2⟩⟩
theorem X3_addOne_s {f : Nat → Int32} {u : Nat → Nat} (hf : ∀ k, k < 24 → f k = nI (u k)) {x y : Nat} (hx : x ≤ 11) (hy : y ≤ 1) (hs : u (2 * x) + u (2 * x + 1) ≤ 3) : mX3_addOne (nI x) (nI y) f = some (if u (2 * x) + u (2 * x + 1) < 3 then (1, upd f (2 * x + y) (nI (u (2 * x + y) + 1))) else (0, f)) := by
  unfold mX3_addOne
  rw [n_lit 2, n_lit 1, n_mul, Nat.mul_comm x 2, n_add, n_add, gi_n (by omega) (by omega), gi_n (by omega) (by omega), n_cl (by omega), n_cl (by omega), hf _ (by omega), hf _ (by omega), n_add, n_lit 3]
  by_cases c : u (2 * x) + u (2 * x + 1) < 3
  · rw [if_pos ((n_lt (by omega) (by omega)).mpr c), if_pos c, lb_d, gi_n (by omega) (by omega), gi_n (by omega) (by omega), n_cl (by omega), hf _ (by omega), n_add, lb_d]
  · rw [if_neg (fun hh => c ((n_lt (by omega) (by omega)).mp hh)), if_neg c]
theorem X11_more_s {n : Nat} {t : Nat → Nat} {bytes text : Nat → Int32} (hB : TB n t bytes text) (hn : n ≤ 500) (told : Nat → Int32) {p : Nat} (hp : p < n) {f : Nat → Int32} {u : Nat → Nat} (hf : ∀ k, k < 24 → f (24 + k) = nI (u k)) (hs : ∀ r, r < 12 → u (2 * r) + u (2 * r + 1) ≤ 3) : ∃ om : Int32 × Int32 × (Nat → Int32) × (Nat → Int32), mX11_more (nI n) (nI (p + 1)) text told f = some om ∧ ((om.1 = 0 ∧ om.2.2.2 = f ∧ ∀ o, pN n t 2 (p + 1) 0 (fun _ => 0) = some o → ¬ (o.1 0 ≤ 11 ∧ o.1 1 ≤ 1 ∧ u (2 * o.1 0) + u (2 * o.1 0 + 1) < 3)) ∨ (om.1 = 1 ∧ ∃ o, pN n t 2 (p + 1) 0 (fun _ => 0) = some o ∧ (o.1 0 ≤ 11 ∧ o.1 1 ≤ 1 ∧ u (2 * o.1 0) + u (2 * o.1 0 + 1) < 3) ∧ om.2.1 = nI o.2 ∧ om.2.2.2 = upd f (24 + 2 * o.1 0 + o.1 1) (nI (u (2 * o.1 0 + o.1 1) + 1)))) := by
  unfold mX11_more
  rcases X11_figures_k hB hn told hp (cnt := 2) (by omega) (x0 := 2) rfl with ⟨f1, q, told', f2⟩ | ⟨o, f1, told', f2, f3⟩
  · rw [f2, b_some, if_pos rfl]
    refine ⟨_, rfl, Or.inl ⟨rfl, rfl, fun o ho => ?_⟩⟩
    rw [f1] at ho
    cases ho
  · have g0 : told' (0 : Int32).toNatClampNeg = nI (o.1 0) := f3 0 (by omega)
    have g1 : told' (1 : Int32).toNatClampNeg = nI (o.1 1) := f3 1 (by omega)
    obtain ⟨p1, p2, p3, p4⟩ := pN_bd (n := n) (t := t) 2 (p + 1) 0 (fun _ => 0) o f1
    have v0 := p2 0 (by omega) (by omega)
    have v1 := p2 1 (by omega) (by omega)
    have bad : ¬ (o.1 0 ≤ 11 ∧ o.1 1 ≤ 1 ∧ u (2 * o.1 0) + u (2 * o.1 0 + 1) < 3) → ∀ o', pN n t 2 (p + 1) 0 (fun _ => 0) = some o' → ¬ (o'.1 0 ≤ 11 ∧ o'.1 1 ≤ 1 ∧ u (2 * o'.1 0) + u (2 * o'.1 0 + 1) < 3) := by
      intro h o' ho'
      rw [f1] at ho'
      have hoo := Option.some.inj ho'
      subst hoo
      exact h
    rw [f2, b_some, if_neg (show ¬ (1 : Int32) = 0 by decide)]
    simp only [g0, g1]
    by_cases k0 : o.1 0 ≤ 11
    · rw [if_neg (show ¬ (11 : Int32) < nI (o.1 0) from fun hh => absurd ((n_lt (a := 11) (by omega) (by omega)).mp hh) (by omega))]
      by_cases k1 : o.1 1 ≤ 1
      · have hs0 := hs (o.1 0) (by omega)
        have e1 : (24 : Int32) + (2 : Int32) * nI (o.1 0) = nI (24 + 2 * o.1 0) := by rw [n_lit 24, n_lit 2, n_mul, n_add]
        have e2 : (25 : Int32) + (2 : Int32) * nI (o.1 0) = nI (24 + (2 * o.1 0 + 1)) := by rw [n_lit 25, n_lit 2, n_mul, n_add, show 25 + 2 * o.1 0 = 24 + (2 * o.1 0 + 1) by omega]
        rw [if_neg (show ¬ (1 : Int32) < nI (o.1 1) from fun hh => absurd ((n_lt (a := 1) (by omega) (by omega)).mp hh) (by omega)), e1, e2, gi_n (by omega) (by omega), gi_n (by omega) (by omega), n_cl (by omega), n_cl (by omega), hf _ (by omega), hf _ (by omega), n_add]
        by_cases k2 : u (2 * o.1 0) + u (2 * o.1 0 + 1) < 3
        · rw [if_neg (show ¬ nI (u (2 * o.1 0) + u (2 * o.1 0 + 1)) = (3 : Int32) from fun hh => absurd ((n_eq (b := 3) (by omega) (by omega)).mp hh) (by omega)), n_add, lb_d, gi_n (by omega) (by omega), gi_n (by omega) (by omega), n_cl (by omega), show 24 + 2 * o.1 0 + o.1 1 = 24 + (2 * o.1 0 + o.1 1) by omega, hf _ (by omega), nI_1, lb_d]
          exact ⟨_, rfl, Or.inr ⟨rfl, o, f1, ⟨k0, k1, k2⟩, rfl, by rw [show 24 + 2 * o.1 0 + o.1 1 = 24 + (2 * o.1 0 + o.1 1) by omega]⟩⟩
        · rw [if_pos (show nI (u (2 * o.1 0) + u (2 * o.1 0 + 1)) = (3 : Int32) from (n_eq (b := 3) (by omega) (by omega)).mpr (by omega))]
          exact ⟨_, rfl, Or.inl ⟨rfl, rfl, bad (fun hh => k2 hh.2.2)⟩⟩
      · rw [if_pos (show (1 : Int32) < nI (o.1 1) from (n_lt (a := 1) (by omega) (by omega)).mpr (by omega))]
        exact ⟨_, rfl, Or.inl ⟨rfl, rfl, bad (fun hh => k1 hh.2.1)⟩⟩
    · rw [if_pos (show (11 : Int32) < nI (o.1 0) from (n_lt (a := 11) (by omega) (by omega)).mpr (by omega))]
      exact ⟨_, rfl, Or.inl ⟨rfl, rfl, bad (fun hh => k0 hh.1)⟩⟩
theorem item_k {n : Nat} {t : Nat → Nat} {bytes text : Nat → Int32} (hB : TB n t bytes text) (hn : n ≤ 500) {a0 a : AT} (h0 : OKD a0) (hA : OKD a) {rounds home noise bc jc : Int32} {cbl cjd cfw cdn ctk : Nat → Int32} (hC : RCr a rounds home noise bc jc cbl cjd cfw cdn ctk) {bm bls dns fws hms jm jds nss rm tks : Nat → Int32} (hM : RM a0 rm bm bls fws dns tks hms nss jm jds) (h1 : RB1 a rm bm bls fws dns tks hms nss jm jds) (told nums : Nat → Int32) {p : Nat} (hp : p < n) (ht : t p = 107) : ∃ (om : OM) (oi : Int32 × Int32 × (Nat → Int32)), mX11_item (nI n) (nI p) bm bls dns fws hms jm jds nss rm tks text told = some om ∧ mX6_readItem (nI p) nums (nI n) bytes = some oi ∧ ItemOut n p a0 om oi (mX3_take (nI (t p)) rounds home noise bc jc cbl cdn cfw cjd ctk oi.2.2) := by
  have hc := X6_readItem_k hB hn nums hp (q := 3) (by omega) (by rw [ht]; rfl)
  change ((∃ oi, mX6_readItem (nI p) nums (nI n) bytes = some oi ∧ oi.1 = 0) ∧ ∀ o, pN n t 2 (p + 1) 0 (fun _ => 0) = some o → ¬ inR 9 0 2 o.1) ∨ (∃ o, pN n t 2 (p + 1) 0 (fun _ => 0) = some o ∧ inR 9 0 2 o.1 ∧ ∃ nm, mX6_readItem (nI p) nums (nI n) bytes = some (1, nI o.2, nm) ∧ ∀ k, k < 2 → nm k = nI (o.1 k)) at hc
  have hP := fun o h => pN_bd (n := n) (t := t) 2 (p + 1) 0 (fun _ => 0) o h
  unfold mX11_item
  rw [X11_byteAt_s hB hn (by omega), b_some, if_pos hp, ht, nI_1, lb_d, if_neg (by decide), if_neg (by decide), if_neg (by decide), if_neg (by decide), if_neg (by decide), if_pos (by decide)]
  obtain ⟨o4, m1, m2⟩ := X11_more_s hB hn told hp (f := dns) (u := dn a) (h1.2.2.2.2.2.2.2.2.1) (hA.2.2.2.2.2.2.2.1)
  rw [m1, b_some]
  rcases hc with ⟨⟨oi, c1, c2⟩, c3⟩ | ⟨o, c1, c2, nm, c3, c4⟩
  · rcases m2 with ⟨z1, z2, -⟩ | ⟨-, o, z2, z3, -⟩
    · rw [z1, gz_0, z2]
      exact ⟨_, oi, rfl, c1, hM, Or.inl ⟨rfl, Or.inl c2⟩⟩
    · refine absurd ?_ (c3 o z2)
      intro j _ hj
      rcases (show j = 0 ∨ j = 1 by omega) with h | h <;> subst h
      · exact ⟨Nat.zero_le _, z3.1⟩
      · exact ⟨Nat.zero_le _, z3.2.1⟩
  · have k0 : o.1 0 ≤ 11 := (c2 0 (by omega) (by omega)).2
    have k1 : o.1 1 ≤ 1 := (c2 1 (by omega) (by omega)).2
    obtain ⟨p1, p2, p3, p4⟩ := hP o c1
    have ea := X3_addOne_s (f := cdn) (u := dn a) (hC.2.2.2.2.2.2.2.2.1) k0 k1 (hA.2.2.2.2.2.2.2.1 _ (by omega))
    have et : mX3_take (nI 107) rounds home noise bc jc cbl cdn cfw cjd ctk nm = (mX3_addOne (nm 0) (nm 1) cdn).bind fun o9 => gz o9.1 <| some (o9.1, cjd, jc, rounds, o9.2, home, noise, cfw, ctk, cbl, bc) := by
      unfold mX3_take
      rw [if_neg (by decide), if_neg (by decide), if_neg (by decide), if_neg (by decide),  if_pos (by decide)]
      rfl
    rw [c4 0 (by omega), c4 1 (by omega), ea, b_some] at et
    rcases m2 with ⟨z1, z2, z3⟩ | ⟨z1, o', z2, z3, z4, z5⟩
    · have hno := z3 o c1
      rw [if_neg (fun hh => hno ⟨k0, k1, hh⟩), gz_0] at et
      rw [z1, gz_0, z2]
      exact ⟨_, _, rfl, c3, hM, Or.inl ⟨rfl, Or.inr ⟨rfl, _, et, rfl⟩⟩⟩
    · rw [c1] at z2
      have hoo := Option.some.inj z2
      subst hoo
      rw [if_pos z3.2.2, gz_1] at et
      rw [z1, gz_1, z5]
      refine ⟨_, _, rfl, c3, ⟨hM.1, hM.2.1, hM.2.2.1, hM.2.2.2.1, hM.2.2.2.2.1, hM.2.2.2.2.2.1, hM.2.2.2.2.2.2.1, hM.2.2.2.2.2.2.2.1, fun k hk => (upd_n (by omega)).trans (hM.2.2.2.2.2.2.2.2.1 k hk), hM.2.2.2.2.2.2.2.2.2⟩, Or.inr ⟨rfl, rfl, (1, cjd, jc, rounds, upd cdn (2 * o.1 0 + o.1 1) (nI (dn a (2 * o.1 0 + o.1 1) + 1)), home, noise, cfw, ctk, cbl, bc), setD a (2 * o.1 0 + o.1 1), o.2, et, rfl, rfl, z4, by have := (p4 (by omega)).1; omega, (p4 (by omega)).2, ⟨hA.1, hA.2.1, hA.2.2.1, hA.2.2.2.1, hA.2.2.2.2.1, hA.2.2.2.2.2.1, hA.2.2.2.2.2.2.1, fun r hr => ?_, hA.2.2.2.2.2.2.2.2⟩, ⟨hC.1, hC.2.1, hC.2.2.1, hC.2.2.2.1, hC.2.2.2.2.1, hC.2.2.2.2.2.1, hC.2.2.2.2.2.2.1, hC.2.2.2.2.2.2.2.1, fun k hk => ?_, hC.2.2.2.2.2.2.2.2.2⟩, ⟨h1.1, h1.2.1, h1.2.2.1, h1.2.2.2.1, h1.2.2.2.2.1, h1.2.2.2.2.2.1, h1.2.2.2.2.2.2.1, h1.2.2.2.2.2.2.2.1, fun k hk => ?_, h1.2.2.2.2.2.2.2.2.2⟩⟩⟩
      · have hs0 := z3.2.2
        have hsr := hA.2.2.2.2.2.2.2.1 r hr
        show (if 2 * r = 2 * o.1 0 + o.1 1 then dn a (2 * r) + 1 else dn a (2 * r)) + (if 2 * r + 1 = 2 * o.1 0 + o.1 1 then dn a (2 * r + 1) + 1 else dn a (2 * r + 1)) ≤ 3
        by_cases hr0 : r = o.1 0
        · rw [← hr0] at hs0 ⊢
          split <;> split <;> omega
        · rw [if_neg (by omega), if_neg (by omega)]
          exact hsr
      · show upd cdn (2 * o.1 0 + o.1 1) (nI (dn a (2 * o.1 0 + o.1 1) + 1)) k = nI (if k = 2 * o.1 0 + o.1 1 then dn a k + 1 else dn a k)
        by_cases hk2 : k = 2 * o.1 0 + o.1 1
        · rw [hk2, upd_s, if_pos rfl]
        · rw [upd_n hk2, if_neg hk2]
          exact hC.2.2.2.2.2.2.2.2.1 k hk
      · show upd dns (24 + 2 * o.1 0 + o.1 1) (nI (dn a (2 * o.1 0 + o.1 1) + 1)) (24 + k) = nI (if k = 2 * o.1 0 + o.1 1 then dn a k + 1 else dn a k)
        by_cases hk2 : k = 2 * o.1 0 + o.1 1
        · rw [show 24 + k = 24 + 2 * o.1 0 + o.1 1 by omega, upd_s, if_pos hk2, hk2]
        · rw [upd_n (by omega), if_neg hk2]
          exact h1.2.2.2.2.2.2.2.2.1 k hk
theorem item_d {n : Nat} {t : Nat → Nat} {bytes text : Nat → Int32} (hB : TB n t bytes text) (hn : n ≤ 500) {a0 a : AT} (h0 : OKD a0) (hA : OKD a) {rounds home noise bc jc : Int32} {cbl cjd cfw cdn ctk : Nat → Int32} (hC : RCr a rounds home noise bc jc cbl cjd cfw cdn ctk) {bm bls dns fws hms jm jds nss rm tks : Nat → Int32} (hM : RM a0 rm bm bls fws dns tks hms nss jm jds) (h1 : RB1 a rm bm bls fws dns tks hms nss jm jds) (told nums : Nat → Int32) {p : Nat} (hp : p < n) (ht : t p = 100) : ∃ (om : OM) (oi : Int32 × Int32 × (Nat → Int32)), mX11_item (nI n) (nI p) bm bls dns fws hms jm jds nss rm tks text told = some om ∧ mX6_readItem (nI p) nums (nI n) bytes = some oi ∧ ItemOut n p a0 om oi (mX3_take (nI (t p)) rounds home noise bc jc cbl cdn cfw cjd ctk oi.2.2) := by
  have hc := X6_readItem_k hB hn nums hp (q := 4) (by omega) (by rw [ht]; rfl)
  change ((∃ oi, mX6_readItem (nI p) nums (nI n) bytes = some oi ∧ oi.1 = 0) ∧ ∀ o, pN n t 2 (p + 1) 0 (fun _ => 0) = some o → ¬ inR 11 0 2 o.1) ∨ (∃ o, pN n t 2 (p + 1) 0 (fun _ => 0) = some o ∧ inR 11 0 2 o.1 ∧ ∃ nm, mX6_readItem (nI p) nums (nI n) bytes = some (1, nI o.2, nm) ∧ ∀ k, k < 2 → nm k = nI (o.1 k)) at hc
  have hP := fun o h => pN_bd (n := n) (t := t) 2 (p + 1) 0 (fun _ => 0) o h
  unfold mX11_item
  rw [X11_byteAt_s hB hn (by omega), b_some, if_pos hp, ht, nI_1, lb_d, if_neg (by decide), if_pos (by decide)]
  obtain ⟨o4, m1, m2⟩ := X11_more_s hB hn told hp (f := tks) (u := tk a) (h1.2.2.2.2.2.2.2.2.2) (hA.2.2.2.2.2.2.2.2)
  rw [m1, b_some]
  rcases hc with ⟨⟨oi, c1, c2⟩, c3⟩ | ⟨o, c1, c2, nm, c3, c4⟩
  · rcases m2 with ⟨z1, z2, -⟩ | ⟨-, o, z2, z3, -⟩
    · rw [z1, gz_0, z2]
      exact ⟨_, oi, rfl, c1, hM, Or.inl ⟨rfl, Or.inl c2⟩⟩
    · refine absurd ?_ (c3 o z2)
      intro j _ hj
      rcases (show j = 0 ∨ j = 1 by omega) with h | h <;> subst h
      · exact ⟨Nat.zero_le _, z3.1⟩
      · exact ⟨Nat.zero_le _, z3.2.1⟩
  · have k0 : o.1 0 ≤ 11 := (c2 0 (by omega) (by omega)).2
    have k1 : o.1 1 ≤ 1 := (c2 1 (by omega) (by omega)).2
    obtain ⟨p1, p2, p3, p4⟩ := hP o c1
    have ea := X3_addOne_s (f := ctk) (u := tk a) (hC.2.2.2.2.2.2.2.2.2) k0 k1 (hA.2.2.2.2.2.2.2.2 _ (by omega))
    have et : mX3_take (nI 100) rounds home noise bc jc cbl cdn cfw cjd ctk nm = (mX3_addOne (nm 0) (nm 1) ctk).bind fun o9 => gz o9.1 <| some (o9.1, cjd, jc, rounds, cdn, home, noise, cfw, o9.2, cbl, bc) := by
      unfold mX3_take
      rw [if_neg (by decide),  if_pos (by decide)]
      rfl
    rw [c4 0 (by omega), c4 1 (by omega), ea, b_some] at et
    rcases m2 with ⟨z1, z2, z3⟩ | ⟨z1, o', z2, z3, z4, z5⟩
    · have hno := z3 o c1
      rw [if_neg (fun hh => hno ⟨k0, k1, hh⟩), gz_0] at et
      rw [z1, gz_0, z2]
      exact ⟨_, _, rfl, c3, hM, Or.inl ⟨rfl, Or.inr ⟨rfl, _, et, rfl⟩⟩⟩
    · rw [c1] at z2
      have hoo := Option.some.inj z2
      subst hoo
      rw [if_pos z3.2.2, gz_1] at et
      rw [z1, gz_1, z5]
      refine ⟨_, _, rfl, c3, ⟨hM.1, hM.2.1, hM.2.2.1, hM.2.2.2.1, hM.2.2.2.2.1, hM.2.2.2.2.2.1, hM.2.2.2.2.2.2.1, hM.2.2.2.2.2.2.2.1, hM.2.2.2.2.2.2.2.2.1, fun k hk => (upd_n (by omega)).trans (hM.2.2.2.2.2.2.2.2.2 k hk)⟩, Or.inr ⟨rfl, rfl, (1, cjd, jc, rounds, cdn, home, noise, cfw, upd ctk (2 * o.1 0 + o.1 1) (nI (tk a (2 * o.1 0 + o.1 1) + 1)), cbl, bc), setT a (2 * o.1 0 + o.1 1), o.2, et, rfl, rfl, z4, by have := (p4 (by omega)).1; omega, (p4 (by omega)).2, ⟨hA.1, hA.2.1, hA.2.2.1, hA.2.2.2.1, hA.2.2.2.2.1, hA.2.2.2.2.2.1, hA.2.2.2.2.2.2.1, hA.2.2.2.2.2.2.2.1, fun r hr => ?_⟩, ⟨hC.1, hC.2.1, hC.2.2.1, hC.2.2.2.1, hC.2.2.2.2.1, hC.2.2.2.2.2.1, hC.2.2.2.2.2.2.1, hC.2.2.2.2.2.2.2.1, hC.2.2.2.2.2.2.2.2.1, fun k hk => ?_⟩, ⟨h1.1, h1.2.1, h1.2.2.1, h1.2.2.2.1, h1.2.2.2.2.1, h1.2.2.2.2.2.1, h1.2.2.2.2.2.2.1, h1.2.2.2.2.2.2.2.1, h1.2.2.2.2.2.2.2.2.1, fun k hk => ?_⟩⟩⟩
      · have hs0 := z3.2.2
        have hsr := hA.2.2.2.2.2.2.2.2 r hr
        show (if 2 * r = 2 * o.1 0 + o.1 1 then tk a (2 * r) + 1 else tk a (2 * r)) + (if 2 * r + 1 = 2 * o.1 0 + o.1 1 then tk a (2 * r + 1) + 1 else tk a (2 * r + 1)) ≤ 3
        by_cases hr0 : r = o.1 0
        · rw [← hr0] at hs0 ⊢
          split <;> split <;> omega
        · rw [if_neg (by omega), if_neg (by omega)]
          exact hsr
      · show upd ctk (2 * o.1 0 + o.1 1) (nI (tk a (2 * o.1 0 + o.1 1) + 1)) k = nI (if k = 2 * o.1 0 + o.1 1 then tk a k + 1 else tk a k)
        by_cases hk2 : k = 2 * o.1 0 + o.1 1
        · rw [hk2, upd_s, if_pos rfl]
        · rw [upd_n hk2, if_neg hk2]
          exact hC.2.2.2.2.2.2.2.2.2 k hk
      · show upd tks (24 + 2 * o.1 0 + o.1 1) (nI (tk a (2 * o.1 0 + o.1 1) + 1)) (24 + k) = nI (if k = 2 * o.1 0 + o.1 1 then tk a k + 1 else tk a k)
        by_cases hk2 : k = 2 * o.1 0 + o.1 1
        · rw [show 24 + k = 24 + 2 * o.1 0 + o.1 1 by omega, upd_s, if_pos hk2, hk2]
        · rw [upd_n (by omega), if_neg hk2]
          exact h1.2.2.2.2.2.2.2.2.2 k hk
