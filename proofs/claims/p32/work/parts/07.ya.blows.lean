/-! READER: blows and judges -/
theorem X11_blowItem_86 {n : Nat} {text : Nat → Int32} {K : Nat} (hK : K < 40) {told : Nat → Int32} {g : Nat → Nat} (hg : ∀ k, k < 5 → told k = nI (g k)) (pl : Int32) (m : Nat → Int32) (hm : m 1 = nI K) : ∀ (d i f : Nat) (x : Nat → Int32), i + d = 5 → d < f → mX11_blowItem_L86 (nI n) text f (nI K) (nI i) pl told x m = some (1, pl, told, (fun k => if 200 + 5 * K + i ≤ k ∧ k < 200 + 5 * K + 5 then nI (g (k - (200 + 5 * K))) else x k), upd m 1 (nI (K + 1))) := by
  intro d
  induction d with
  | zero =>
    intro i f x hi hf
    obtain ⟨f, rfl⟩ : ∃ q, f = q + 1 := ⟨f - 1, by omega⟩
    rw [eX11_blowItem_86]
    unfold mX11_blowItem_B86
    rw [n_lit 5, if_pos ((n_le (by omega) (by omega)).mpr (by omega)), show (1 : Int32).toNatClampNeg = 1 from rfl, hm, nI_1, lb_d, show (fun k => if 200 + 5 * K + i ≤ k ∧ k < 200 + 5 * K + 5 then nI (g (k - (200 + 5 * K))) else x k) = x from by funext k; rw [if_neg (by omega)]]
  | succ d ih =>
    intro i f x hi hf
    obtain ⟨f, rfl⟩ : ∃ q, f = q + 1 := ⟨f - 1, by omega⟩
    rw [eX11_blowItem_86]
    unfold mX11_blowItem_B86
    rw [n_lit 5, if_neg (fun hh => absurd ((n_le (a := 5) (by omega) (by omega)).mp hh) (by omega)), n_lit 200, n_mul, n_add, n_add, nI_1, gi_n (by omega) (by omega), gi_n (by omega) (by omega), lb_d, lb_d, n_cl (by omega), n_cl (by omega), hg i (by omega), ih (i + 1) f _ (by omega) (by omega)]
    congr 5
    funext k
    by_cases h : k = 200 + 5 * K + i
    · rw [if_neg (by omega), h, upd_s, if_pos (by omega), show 200 + 5 * K + i - (200 + 5 * K) = i by omega]
    · rw [upd_n h]
      by_cases h2 : 200 + 5 * K + (i + 1) ≤ k ∧ k < 200 + 5 * K + 5
      · rw [if_pos h2, if_pos (by omega)]
      · rw [if_neg h2, if_neg (by omega)]
theorem X11_blowItem_s {n : Nat} {t : Nat → Nat} {bytes text : Nat → Int32} (hB : TB n t bytes text) (hn : n ≤ 500) (told : Nat → Int32) {p : Nat} (hp : p < n) {K : Nat} (hK : K ≤ 40) {m x : Nat → Int32} (hm : m 1 = nI K) : ∃ om : Int32 × Int32 × (Nat → Int32) × (Nat → Int32) × (Nat → Int32), mX11_blowItem (nI n) (nI (p + 1)) m x text told = some om ∧ ((om.1 = 0 ∧ om.2.2.2.1 = x ∧ om.2.2.2.2 = m ∧ ∀ o, pN n t 5 (p + 1) 0 (fun _ => 0) = some o → ¬ (K < 40 ∧ inR 1 0 5 o.1)) ∨ (om.1 = 1 ∧ ∃ o, pN n t 5 (p + 1) 0 (fun _ => 0) = some o ∧ (K < 40 ∧ inR 1 0 5 o.1) ∧ om.2.1 = nI o.2 ∧ om.2.2.2.1 = (fun k => if 200 + 5 * K + 0 ≤ k ∧ k < 200 + 5 * K + 5 then nI (o.1 (k - (200 + 5 * K))) else x k) ∧ om.2.2.2.2 = upd m 1 (nI (K + 1)))) := by
  unfold mX11_blowItem
  rw [show (1 : Int32).toNatClampNeg = 1 from rfl, hm, lb_d]
  rcases X11_figures_k hB hn told hp (cnt := 5) (by omega) (x0 := 5) rfl with ⟨f1, q, told', f2⟩ | ⟨o, f1, told', f2, f3⟩
  · rw [f2, b_some, if_pos rfl]
    refine ⟨_, rfl, Or.inl ⟨rfl, rfl, rfl, fun o ho => ?_⟩⟩
    rw [f1] at ho
    cases ho
  · obtain ⟨p1, p2, p3, p4⟩ := pN_bd (n := n) (t := t) 5 (p + 1) 0 (fun _ => 0) o f1
    have g0 : told' (0 : Int32).toNatClampNeg = nI (o.1 0) := f3 0 (by omega)
    have v0 := p2 0 (by omega) (by omega)
    have g1 : told' (1 : Int32).toNatClampNeg = nI (o.1 1) := f3 1 (by omega)
    have v1 := p2 1 (by omega) (by omega)
    have g2 : told' (2 : Int32).toNatClampNeg = nI (o.1 2) := f3 2 (by omega)
    have v2 := p2 2 (by omega) (by omega)
    have g3 : told' (3 : Int32).toNatClampNeg = nI (o.1 3) := f3 3 (by omega)
    have v3 := p2 3 (by omega) (by omega)
    have g4 : told' (4 : Int32).toNatClampNeg = nI (o.1 4) := f3 4 (by omega)
    have v4 := p2 4 (by omega) (by omega)
    have g1b : told' 1 = nI (o.1 1) := f3 1 (by omega)
    have bad : ¬ (K < 40 ∧ inR 1 0 5 o.1) → ∀ o', pN n t 5 (p + 1) 0 (fun _ => 0) = some o' → ¬ (K < 40 ∧ inR 1 0 5 o'.1) := by
      intro h o' ho'
      rw [f1] at ho'
      have hoo := Option.some.inj ho'
      subst hoo
      exact h
    rw [f2, b_some, if_neg (show ¬ (1 : Int32) = 0 by decide)]
    simp only [g1b, g0, g1, g2, g3, g4]
    by_cases kK : K = 40
    · rw [if_pos (show nI K = (40 : Int32) from (n_eq (b := 40) (by omega) (by omega)).mpr kK)]
      exact ⟨_, rfl, Or.inl ⟨rfl, rfl, rfl, bad (fun hh => absurd hh.1 (by omega))⟩⟩
    rw [if_neg (show ¬ nI K = (40 : Int32) from fun hh => kK ((n_eq (b := 40) (by omega) (by omega)).mp hh))]
    by_cases k0 : o.1 0 ≤ 11
    rotate_left
    · rw [if_pos (show (11 : Int32) < nI (o.1 0) from (n_lt (a := 11) (by omega) (by omega)).mpr (by omega))]
      exact ⟨_, rfl, Or.inl ⟨rfl, rfl, rfl, bad (fun hh => k0 (hh.2 0 (by omega) (by omega)).2)⟩⟩
    rw [if_neg (show ¬ (11 : Int32) < nI (o.1 0) from fun hh => absurd ((n_lt (a := 11) (by omega) (by omega)).mp hh) (by omega))]
    by_cases k1 : o.1 1 ≤ 179
    rotate_left
    · rw [if_pos (show (179 : Int32) < nI (o.1 1) from (n_lt (a := 179) (by omega) (by omega)).mpr (by omega))]
      exact ⟨_, rfl, Or.inl ⟨rfl, rfl, rfl, bad (fun hh => k1 (hh.2 1 (by omega) (by omega)).2)⟩⟩
    rw [if_neg (show ¬ (179 : Int32) < nI (o.1 1) from fun hh => absurd ((n_lt (a := 179) (by omega) (by omega)).mp hh) (by omega))]
    by_cases k2 : o.1 2 ≤ 1
    rotate_left
    · rw [if_pos (show (1 : Int32) < nI (o.1 2) from (n_lt (a := 1) (by omega) (by omega)).mpr (by omega))]
      exact ⟨_, rfl, Or.inl ⟨rfl, rfl, rfl, bad (fun hh => k2 (hh.2 2 (by omega) (by omega)).2)⟩⟩
    rw [if_neg (show ¬ (1 : Int32) < nI (o.1 2) from fun hh => absurd ((n_lt (a := 1) (by omega) (by omega)).mp hh) (by omega))]
    rw [in_wl 1 9 (by decide) (by decide), wi_bind]
    have er3 : ((1 : Int32) ≤ nI (o.1 3) ∧ nI (o.1 3) ≤ (9 : Int32)) ↔ (1 ≤ o.1 3 ∧ o.1 3 ≤ 9) := by rw [n_lit 1, n_lit 9, n_le (by omega) (by omega), n_le (by omega) (by omega)]
    by_cases k3 : 1 ≤ o.1 3 ∧ o.1 3 ≤ 9
    rotate_left
    · rw [if_neg (fun hh => k3 (er3.mp hh))]
      exact ⟨_, rfl, Or.inl ⟨rfl, rfl, rfl, bad (fun hh => k3 (hh.2 3 (by omega) (by omega)))⟩⟩
    rw [if_pos (er3.mpr k3)]
    by_cases k4 : o.1 4 ≤ 11
    rotate_left
    · rw [if_neg (show ¬ nI (o.1 4) ≤ (11 : Int32) from fun hh => k4 ((n_le (b := 11) (by omega) (by omega)).mp hh))]
      exact ⟨_, rfl, Or.inl ⟨rfl, rfl, rfl, bad (fun hh => k4 (hh.2 4 (by omega) (by omega)).2)⟩⟩
    rw [if_pos (show nI (o.1 4) ≤ (11 : Int32) from (n_le (b := 11) (by omega) (by omega)).mpr k4)]
    refine ⟨_, X11_blowItem_86 (by omega) f3 (nI o.2) m hm 5 0 FUEL x (by omega) (by unfold FUEL; omega), Or.inr ⟨rfl, o, f1, ⟨by omega, ?_⟩, rfl, rfl, rfl⟩⟩
    intro j _ hj
    rcases (show j = 0 ∨ j = 1 ∨ j = 2 ∨ j = 3 ∨ j = 4 by omega) with h | h | h | h | h <;> subst h
    · exact ⟨Nat.zero_le _, k0⟩
    · exact ⟨Nat.zero_le _, k1⟩
    · exact ⟨Nat.zero_le _, k2⟩
    · exact k3
    · exact ⟨Nat.zero_le _, k4⟩
theorem X3_addBlow_s {K : Nat} (hK : K ≤ 40) (f x : Nat → Int32) : mX3_addBlow (nI K) x f = some (if K < 40 then (1, va_cpy f x 0 (K * 5) 5, nI (K + 1)) else (0, x, nI K)) := by
  unfold mX3_addBlow gcp
  rw [n_lit 40]
  by_cases c : K < 40
  · rw [if_pos ((n_lt (by omega) (by omega)).mpr c), if_pos c, n_lit 5, n_mul, nI_1, show (0 : Int32) = nI 0 from rfl, n_cl (by omega), n_cl (by omega), n_cl (by omega)]
    rw [if_pos ⟨fun hh => absurd ((n_lt (by omega) (by omega)).mp hh) (by omega), fun hh => absurd ((n_lt (by omega) (by omega)).mp hh) (by omega), fun hh => absurd ((n_lt (by omega) (by omega)).mp hh) (by omega), by omega, by omega⟩]
    all_goals rfl
  · rw [if_neg (fun hh => c ((n_lt (by omega) (by omega)).mp hh)), if_neg c]
    all_goals rfl
theorem item_b {n : Nat} {t : Nat → Nat} {bytes text : Nat → Int32} (hB : TB n t bytes text) (hn : n ≤ 500) {a0 a : AT} (h0 : OKD a0) (hA : OKD a) {rounds home noise bc jc : Int32} {cbl cjd cfw cdn ctk : Nat → Int32} (hC : RCr a rounds home noise bc jc cbl cjd cfw cdn ctk) {bm bls dns fws hms jm jds nss rm tks : Nat → Int32} (hM : RM a0 rm bm bls fws dns tks hms nss jm jds) (h1 : RB1 a rm bm bls fws dns tks hms nss jm jds) (told nums : Nat → Int32) {p : Nat} (hp : p < n) (ht : t p = 98) : ∃ (om : OM) (oi : Int32 × Int32 × (Nat → Int32)), mX11_item (nI n) (nI p) bm bls dns fws hms jm jds nss rm tks text told = some om ∧ mX6_readItem (nI p) nums (nI n) bytes = some oi ∧ ItemOut n p a0 om oi (mX3_take (nI (t p)) rounds home noise bc jc cbl cdn cfw cjd ctk oi.2.2) := by
  have hc := X6_readItem_k hB hn nums hp (q := 1) (by omega) (by rw [ht]; rfl)
  change ((∃ oi, mX6_readItem (nI p) nums (nI n) bytes = some oi ∧ oi.1 = 0) ∧ ∀ o, pN n t 5 (p + 1) 0 (fun _ => 0) = some o → ¬ inR 1 0 5 o.1) ∨ (∃ o, pN n t 5 (p + 1) 0 (fun _ => 0) = some o ∧ inR 1 0 5 o.1 ∧ ∃ nm, mX6_readItem (nI p) nums (nI n) bytes = some (1, nI o.2, nm) ∧ ∀ k, k < 5 → nm k = nI (o.1 k)) at hc
  have hP := fun o h => pN_bd (n := n) (t := t) 5 (p + 1) 0 (fun _ => 0) o h
  unfold mX11_item
  rw [X11_byteAt_s hB hn (by omega), b_some, if_pos hp, ht, nI_1, lb_d, if_pos (by decide)]
  have hbc := hC.2.2.2.1
  subst hbc
  have hK : aB a ≤ 40 := hA.2.1
  obtain ⟨o4, m1, m2⟩ := X11_blowItem_s hB hn told hp (K := aB a) (m := bm) (x := bls) hK h1.2.1
  rw [m1, b_some]
  rcases hc with ⟨⟨oi, c1, c2⟩, c3⟩ | ⟨o, c1, c2, nm, c3, c4⟩
  · rcases m2 with ⟨z1, z2, z3, -⟩ | ⟨-, o, z2, z3, -⟩
    · rw [z1, gz_0, z2, z3]
      exact ⟨_, oi, rfl, c1, hM, Or.inl ⟨rfl, Or.inl c2⟩⟩
    · exact absurd z3.2 (c3 o z2)
  · obtain ⟨p1, p2, p3, p4⟩ := hP o c1
    have ea := X3_addBlow_s hK nm cbl
    have et : mX3_take (nI 98) rounds home noise (nI (aB a)) jc cbl cdn cfw cjd ctk nm = (mX3_addBlow (nI (aB a)) cbl nm).bind fun o9 => gz o9.1 <| some (o9.1, cjd, jc, rounds, cdn, home, noise, cfw, ctk, o9.2.1, o9.2.2) := by
      unfold mX3_take
      rw [if_pos (by decide)]
      all_goals rfl
    rw [ea, b_some] at et
    rcases m2 with ⟨z1, z2, z3, z4⟩ | ⟨z1, o', z2, z3, z4, z5, z6⟩
    · have hno := z4 o c1
      rw [if_neg (fun hh => hno ⟨hh, c2⟩), gz_0] at et
      rw [z1, gz_0, z2, z3]
      exact ⟨_, _, rfl, c3, hM, Or.inl ⟨rfl, Or.inr ⟨rfl, _, et, rfl⟩⟩⟩
    · rw [c1] at z2
      have hoo := Option.some.inj z2
      subst hoo
      rw [if_pos z3.1, gz_1] at et
      rw [z1, gz_1, z5, z6]
      have hv : ∀ k, k < 5 → loL.getD (1 + k) 0 ≤ o.1 k ∧ o.1 k ≤ hiL.getD (1 + k) 0 := fun k hk => c2 k (by omega) hk
      refine ⟨_, _, rfl, c3, ⟨hM.1, (by show upd bm 1 (nI (aB a + 1)) 0 = _; rw [upd_n (by omega)]; exact hM.2.1), hM.2.2.1, hM.2.2.2.1, hM.2.2.2.2.1, fun k hk => ?_, hM.2.2.2.2.2.2⟩, Or.inr ⟨rfl, rfl, (1, cjd, jc, rounds, cdn, home, noise, cfw, ctk, va_cpy nm cbl 0 (aB a * 5) 5, nI (aB a + 1)), addB a o.1, o.2, ?_, rfl, rfl, z4, by have := (p4 (by omega)).1; omega, (p4 (by omega)).2, ⟨hA.1, by show aB a + 1 ≤ 40; omega, hA.2.2.1, hA.2.2.2.1, fun k hk => ?_, hA.2.2.2.2.2⟩, ⟨hC.1, hC.2.1, hC.2.2.1, rfl, hC.2.2.2.2.1, fun k hk => ?_, hC.2.2.2.2.2.2⟩, ⟨h1.1, (by show upd bm 1 (nI (aB a + 1)) 1 = _; rw [upd_s]; rfl), h1.2.2.1, h1.2.2.2.1, h1.2.2.2.2.1, fun k hk => ?_, h1.2.2.2.2.2.2⟩⟩⟩
      · have h5 := h0.2.1
        show (if 200 + 5 * aB a + 0 ≤ k ∧ k < 200 + 5 * aB a + 5 then nI (o.1 (k - (200 + 5 * aB a))) else bls k) = nI (bl a0 k)
        rw [if_neg (by omega)]
        exact hM.2.2.2.2.2.1 k hk
      · exact et
      · show okBl (fun k => if 5 * aB a ≤ k ∧ k < 5 * aB a + 5 then o.1 (k - 5 * aB a) else bl a k) k
        have hk2 : k < aB a + 1 := hk
        unfold okBl
        dsimp only
        by_cases hkB : k = aB a
        · subst hkB
          rw [if_pos (by omega), if_pos (by omega), if_pos (by omega), if_pos (by omega), if_pos (by omega), show 5 * aB a - 5 * aB a = 0 by omega, show 5 * aB a + 1 - 5 * aB a = 1 by omega, show 5 * aB a + 2 - 5 * aB a = 2 by omega, show 5 * aB a + 3 - 5 * aB a = 3 by omega, show 5 * aB a + 4 - 5 * aB a = 4 by omega]
          have w0 : o.1 0 ≤ 11 := (hv 0 (by omega)).2
          have w1 : o.1 1 ≤ 179 := (hv 1 (by omega)).2
          have w2 : o.1 2 ≤ 1 := (hv 2 (by omega)).2
          have w3 : 1 ≤ o.1 3 ∧ o.1 3 ≤ 9 := hv 3 (by omega)
          have w4 : o.1 4 ≤ 11 := (hv 4 (by omega)).2
          omega
        · have hb := hA.2.2.2.2.1 k (by omega)
          unfold okBl at hb
          rw [if_neg (by omega), if_neg (by omega), if_neg (by omega), if_neg (by omega), if_neg (by omega)]
          exact hb
      · have hk2 : k < 5 * (aB a + 1) := hk
        show va_cpy nm cbl 0 (aB a * 5) 5 k = nI (if 5 * aB a ≤ k ∧ k < 5 * aB a + 5 then o.1 (k - 5 * aB a) else bl a k)
        unfold va_cpy
        by_cases hkB : 5 * aB a ≤ k ∧ k < 5 * aB a + 5
        · rw [if_pos (by omega), if_pos hkB, show 0 + (k - aB a * 5) = k - 5 * aB a by omega, c4 _ (by omega)]
        · rw [if_neg (by omega), if_neg hkB]
          exact hC.2.2.2.2.2.1 k (by omega)
      · have hk2 : k < 5 * (aB a + 1) := hk
        show (if 200 + 5 * aB a + 0 ≤ 200 + k ∧ 200 + k < 200 + 5 * aB a + 5 then nI (o.1 (200 + k - (200 + 5 * aB a))) else bls (200 + k)) = nI (if 5 * aB a ≤ k ∧ k < 5 * aB a + 5 then o.1 (k - 5 * aB a) else bl a k)
        by_cases hkB : 5 * aB a ≤ k ∧ k < 5 * aB a + 5
        · rw [if_pos (by omega), if_pos hkB, show 200 + k - (200 + 5 * aB a) = k - 5 * aB a by omega]
        · rw [if_neg (by omega), if_neg hkB]
          exact h1.2.2.2.2.2.1 k (by omega)
theorem X11_judgeItem_110 {n : Nat} {text : Nat → Int32} {K : Nat} (hK : K < 8) {told : Nat → Int32} {g : Nat → Nat} (hg : ∀ k, k < 7 → told k = nI (g k)) (pl : Int32) (m : Nat → Int32) (hm : m 1 = nI K) : ∀ (d i f : Nat) (x : Nat → Int32), i + d = 7 → d < f → mX11_judgeItem_L110 (nI n) text f (nI K) (nI i) pl told x m = some (1, pl, told, (fun k => if 56 + 7 * K + i ≤ k ∧ k < 56 + 7 * K + 7 then nI (g (k - (56 + 7 * K))) else x k), upd m 1 (nI (K + 1))) := by
  intro d
  induction d with
  | zero =>
    intro i f x hi hf
    obtain ⟨f, rfl⟩ : ∃ q, f = q + 1 := ⟨f - 1, by omega⟩
    rw [eX11_judgeItem_110]
    unfold mX11_judgeItem_B110
    rw [n_lit 7, if_pos ((n_le (by omega) (by omega)).mpr (by omega)), show (1 : Int32).toNatClampNeg = 1 from rfl, hm, nI_1, lb_d, show (fun k => if 56 + 7 * K + i ≤ k ∧ k < 56 + 7 * K + 7 then nI (g (k - (56 + 7 * K))) else x k) = x from by funext k; rw [if_neg (by omega)]]
  | succ d ih =>
    intro i f x hi hf
    obtain ⟨f, rfl⟩ : ∃ q, f = q + 1 := ⟨f - 1, by omega⟩
    rw [eX11_judgeItem_110]
    unfold mX11_judgeItem_B110
    rw [n_lit 7, if_neg (fun hh => absurd ((n_le (a := 7) (by omega) (by omega)).mp hh) (by omega)), n_lit 56, n_mul, n_add, n_add, nI_1, gi_n (by omega) (by omega), gi_n (by omega) (by omega), lb_d, lb_d, n_cl (by omega), n_cl (by omega), hg i (by omega), ih (i + 1) f _ (by omega) (by omega)]
    congr 5
    funext k
    by_cases h : k = 56 + 7 * K + i
    · rw [if_neg (by omega), h, upd_s, if_pos (by omega), show 56 + 7 * K + i - (56 + 7 * K) = i by omega]
    · rw [upd_n h]
      by_cases h2 : 56 + 7 * K + (i + 1) ≤ k ∧ k < 56 + 7 * K + 7
      · rw [if_pos h2, if_pos (by omega)]
      · rw [if_neg h2, if_neg (by omega)]
theorem X11_judgeItem_s {n : Nat} {t : Nat → Nat} {bytes text : Nat → Int32} (hB : TB n t bytes text) (hn : n ≤ 500) (told : Nat → Int32) {p : Nat} (hp : p < n) {K : Nat} (hK : K ≤ 8) {m x : Nat → Int32} (hm : m 1 = nI K) : ∃ om : Int32 × Int32 × (Nat → Int32) × (Nat → Int32) × (Nat → Int32), mX11_judgeItem (nI n) (nI (p + 1)) m x text told = some om ∧ ((om.1 = 0 ∧ om.2.2.2.1 = x ∧ om.2.2.2.2 = m ∧ ∀ o, pN n t 7 (p + 1) 0 (fun _ => 0) = some o → ¬ (K < 8 ∧ inR 15 0 7 o.1)) ∨ (om.1 = 1 ∧ ∃ o, pN n t 7 (p + 1) 0 (fun _ => 0) = some o ∧ (K < 8 ∧ inR 15 0 7 o.1) ∧ om.2.1 = nI o.2 ∧ om.2.2.2.1 = (fun k => if 56 + 7 * K + 0 ≤ k ∧ k < 56 + 7 * K + 7 then nI (o.1 (k - (56 + 7 * K))) else x k) ∧ om.2.2.2.2 = upd m 1 (nI (K + 1)))) := by
  unfold mX11_judgeItem
  rw [show (1 : Int32).toNatClampNeg = 1 from rfl, hm, lb_d]
  rcases X11_figures_k hB hn told hp (cnt := 7) (by omega) (x0 := 7) rfl with ⟨f1, q, told', f2⟩ | ⟨o, f1, told', f2, f3⟩
  · rw [f2, b_some, if_pos rfl]
    refine ⟨_, rfl, Or.inl ⟨rfl, rfl, rfl, fun o ho => ?_⟩⟩
    rw [f1] at ho
    cases ho
  · obtain ⟨p1, p2, p3, p4⟩ := pN_bd (n := n) (t := t) 7 (p + 1) 0 (fun _ => 0) o f1
    have g0 : told' (0 : Int32).toNatClampNeg = nI (o.1 0) := f3 0 (by omega)
    have v0 := p2 0 (by omega) (by omega)
    have g1 : told' (1 : Int32).toNatClampNeg = nI (o.1 1) := f3 1 (by omega)
    have v1 := p2 1 (by omega) (by omega)
    have g2 : told' (2 : Int32).toNatClampNeg = nI (o.1 2) := f3 2 (by omega)
    have v2 := p2 2 (by omega) (by omega)
    have g3 : told' (3 : Int32).toNatClampNeg = nI (o.1 3) := f3 3 (by omega)
    have v3 := p2 3 (by omega) (by omega)
    have g4 : told' (4 : Int32).toNatClampNeg = nI (o.1 4) := f3 4 (by omega)
    have v4 := p2 4 (by omega) (by omega)
    have g5 : told' (5 : Int32).toNatClampNeg = nI (o.1 5) := f3 5 (by omega)
    have v5 := p2 5 (by omega) (by omega)
    have g6 : told' (6 : Int32).toNatClampNeg = nI (o.1 6) := f3 6 (by omega)
    have v6 := p2 6 (by omega) (by omega)
    have g1b : told' 1 = nI (o.1 1) := f3 1 (by omega)
    have bad : ¬ (K < 8 ∧ inR 15 0 7 o.1) → ∀ o', pN n t 7 (p + 1) 0 (fun _ => 0) = some o' → ¬ (K < 8 ∧ inR 15 0 7 o'.1) := by
      intro h o' ho'
      rw [f1] at ho'
      have hoo := Option.some.inj ho'
      subst hoo
      exact h
    rw [f2, b_some, if_neg (show ¬ (1 : Int32) = 0 by decide)]
    simp only [g1b, g0, g1, g2, g3, g4, g5, g6]
    by_cases kK : K = 8
    · rw [if_pos (show nI K = (8 : Int32) from (n_eq (b := 8) (by omega) (by omega)).mpr kK)]
      exact ⟨_, rfl, Or.inl ⟨rfl, rfl, rfl, bad (fun hh => absurd hh.1 (by omega))⟩⟩
    rw [if_neg (show ¬ nI K = (8 : Int32) from fun hh => kK ((n_eq (b := 8) (by omega) (by omega)).mp hh))]
    by_cases k0 : o.1 0 ≤ 11
    rotate_left
    · rw [if_pos (show (11 : Int32) < nI (o.1 0) from (n_lt (a := 11) (by omega) (by omega)).mpr (by omega))]
      exact ⟨_, rfl, Or.inl ⟨rfl, rfl, rfl, bad (fun hh => k0 (hh.2 0 (by omega) (by omega)).2)⟩⟩
    rw [if_neg (show ¬ (11 : Int32) < nI (o.1 0) from fun hh => absurd ((n_lt (a := 11) (by omega) (by omega)).mp hh) (by omega))]
    by_cases k1 : o.1 1 ≤ 9
    rotate_left
    · rw [if_pos (show (9 : Int32) < nI (o.1 1) from (n_lt (a := 9) (by omega) (by omega)).mpr (by omega))]
      exact ⟨_, rfl, Or.inl ⟨rfl, rfl, rfl, bad (fun hh => k1 (hh.2 1 (by omega) (by omega)).2)⟩⟩
    rw [if_neg (show ¬ (9 : Int32) < nI (o.1 1) from fun hh => absurd ((n_lt (a := 9) (by omega) (by omega)).mp hh) (by omega))]
    by_cases k2 : o.1 2 ≤ 9
    rotate_left
    · rw [if_pos (show (9 : Int32) < nI (o.1 2) from (n_lt (a := 9) (by omega) (by omega)).mpr (by omega))]
      exact ⟨_, rfl, Or.inl ⟨rfl, rfl, rfl, bad (fun hh => k2 (hh.2 2 (by omega) (by omega)).2)⟩⟩
    rw [if_neg (show ¬ (9 : Int32) < nI (o.1 2) from fun hh => absurd ((n_lt (a := 9) (by omega) (by omega)).mp hh) (by omega))]
    by_cases k3 : o.1 3 ≤ 40
    rotate_left
    · rw [if_pos (show (40 : Int32) < nI (o.1 3) from (n_lt (a := 40) (by omega) (by omega)).mpr (by omega))]
      exact ⟨_, rfl, Or.inl ⟨rfl, rfl, rfl, bad (fun hh => k3 (hh.2 3 (by omega) (by omega)).2)⟩⟩
    rw [if_neg (show ¬ (40 : Int32) < nI (o.1 3) from fun hh => absurd ((n_lt (a := 40) (by omega) (by omega)).mp hh) (by omega))]
    rw [in_wl 1 9 (by decide) (by decide), wi_bind]
    have er4 : ((1 : Int32) ≤ nI (o.1 4) ∧ nI (o.1 4) ≤ (9 : Int32)) ↔ (1 ≤ o.1 4 ∧ o.1 4 ≤ 9) := by rw [n_lit 1, n_lit 9, n_le (by omega) (by omega), n_le (by omega) (by omega)]
    by_cases k4 : 1 ≤ o.1 4 ∧ o.1 4 ≤ 9
    rotate_left
    · rw [if_neg (fun hh => k4 (er4.mp hh))]
      exact ⟨_, rfl, Or.inl ⟨rfl, rfl, rfl, bad (fun hh => k4 (hh.2 4 (by omega) (by omega)))⟩⟩
    rw [if_pos (er4.mpr k4)]
    by_cases k5 : o.1 5 ≤ 9
    rotate_left
    · rw [if_pos (show (9 : Int32) < nI (o.1 5) from (n_lt (a := 9) (by omega) (by omega)).mpr (by omega))]
      exact ⟨_, rfl, Or.inl ⟨rfl, rfl, rfl, bad (fun hh => k5 (hh.2 5 (by omega) (by omega)).2)⟩⟩
    rw [if_neg (show ¬ (9 : Int32) < nI (o.1 5) from fun hh => absurd ((n_lt (a := 9) (by omega) (by omega)).mp hh) (by omega))]
    by_cases k6 : o.1 6 ≤ 99
    rotate_left
    · rw [if_neg (show ¬ nI (o.1 6) ≤ (99 : Int32) from fun hh => k6 ((n_le (b := 99) (by omega) (by omega)).mp hh))]
      exact ⟨_, rfl, Or.inl ⟨rfl, rfl, rfl, bad (fun hh => k6 (hh.2 6 (by omega) (by omega)).2)⟩⟩
    rw [if_pos (show nI (o.1 6) ≤ (99 : Int32) from (n_le (b := 99) (by omega) (by omega)).mpr k6)]
    refine ⟨_, X11_judgeItem_110 (by omega) f3 (nI o.2) m hm 7 0 FUEL x (by omega) (by unfold FUEL; omega), Or.inr ⟨rfl, o, f1, ⟨by omega, ?_⟩, rfl, rfl, rfl⟩⟩
    intro j _ hj
    rcases (show j = 0 ∨ j = 1 ∨ j = 2 ∨ j = 3 ∨ j = 4 ∨ j = 5 ∨ j = 6 by omega) with h | h | h | h | h | h | h <;> subst h
    · exact ⟨Nat.zero_le _, k0⟩
    · exact ⟨Nat.zero_le _, k1⟩
    · exact ⟨Nat.zero_le _, k2⟩
    · exact ⟨Nat.zero_le _, k3⟩
    · exact k4
    · exact ⟨Nat.zero_le _, k5⟩
    · exact ⟨Nat.zero_le _, k6⟩
theorem X3_addJudge_s {K : Nat} (hK : K ≤ 8) (f x : Nat → Int32) : mX3_addJudge (nI K) x f = some (if K < 8 then (1, va_cpy f x 0 (K * 7) 7, nI (K + 1)) else (0, x, nI K)) := by
  unfold mX3_addJudge gcp
  rw [n_lit 8]
  by_cases c : K < 8
  · rw [if_pos ((n_lt (by omega) (by omega)).mpr c), if_pos c, n_lit 7, n_mul, nI_1, show (0 : Int32) = nI 0 from rfl, n_cl (by omega), n_cl (by omega), n_cl (by omega)]
    rw [if_pos ⟨fun hh => absurd ((n_lt (by omega) (by omega)).mp hh) (by omega), fun hh => absurd ((n_lt (by omega) (by omega)).mp hh) (by omega), fun hh => absurd ((n_lt (by omega) (by omega)).mp hh) (by omega), by omega, by omega⟩]
    all_goals rfl
  · rw [if_neg (fun hh => c ((n_lt (by omega) (by omega)).mp hh)), if_neg c]
    all_goals rfl
theorem item_j {n : Nat} {t : Nat → Nat} {bytes text : Nat → Int32} (hB : TB n t bytes text) (hn : n ≤ 500) {a0 a : AT} (h0 : OKD a0) (hA : OKD a) {rounds home noise bc jc : Int32} {cbl cjd cfw cdn ctk : Nat → Int32} (hC : RCr a rounds home noise bc jc cbl cjd cfw cdn ctk) {bm bls dns fws hms jm jds nss rm tks : Nat → Int32} (hM : RM a0 rm bm bls fws dns tks hms nss jm jds) (h1 : RB1 a rm bm bls fws dns tks hms nss jm jds) (told nums : Nat → Int32) {p : Nat} (hp : p < n) (ht : t p = 106) : ∃ (om : OM) (oi : Int32 × Int32 × (Nat → Int32)), mX11_item (nI n) (nI p) bm bls dns fws hms jm jds nss rm tks text told = some om ∧ mX6_readItem (nI p) nums (nI n) bytes = some oi ∧ ItemOut n p a0 om oi (mX3_take (nI (t p)) rounds home noise bc jc cbl cdn cfw cjd ctk oi.2.2) := by
  have hc := X6_readItem_k hB hn nums hp (q := 6) (by omega) (by rw [ht]; rfl)
  change ((∃ oi, mX6_readItem (nI p) nums (nI n) bytes = some oi ∧ oi.1 = 0) ∧ ∀ o, pN n t 7 (p + 1) 0 (fun _ => 0) = some o → ¬ inR 15 0 7 o.1) ∨ (∃ o, pN n t 7 (p + 1) 0 (fun _ => 0) = some o ∧ inR 15 0 7 o.1 ∧ ∃ nm, mX6_readItem (nI p) nums (nI n) bytes = some (1, nI o.2, nm) ∧ ∀ k, k < 7 → nm k = nI (o.1 k)) at hc
  have hP := fun o h => pN_bd (n := n) (t := t) 7 (p + 1) 0 (fun _ => 0) o h
  unfold mX11_item
  rw [X11_byteAt_s hB hn (by omega), b_some, if_pos hp, ht, nI_1, lb_d, if_neg (by decide), if_neg (by decide), if_neg (by decide), if_neg (by decide), if_pos (by decide)]
  have hbc := hC.2.2.2.2.1
  subst hbc
  have hK : aJ a ≤ 8 := hA.2.2.1
  obtain ⟨o4, m1, m2⟩ := X11_judgeItem_s hB hn told hp (K := aJ a) (m := jm) (x := jds) hK h1.2.2.1
  rw [m1, b_some]
  rcases hc with ⟨⟨oi, c1, c2⟩, c3⟩ | ⟨o, c1, c2, nm, c3, c4⟩
  · rcases m2 with ⟨z1, z2, z3, -⟩ | ⟨-, o, z2, z3, -⟩
    · rw [z1, gz_0, z2, z3]
      exact ⟨_, oi, rfl, c1, hM, Or.inl ⟨rfl, Or.inl c2⟩⟩
    · exact absurd z3.2 (c3 o z2)
  · obtain ⟨p1, p2, p3, p4⟩ := hP o c1
    have ea := X3_addJudge_s hK nm cjd
    have et : mX3_take (nI 106) rounds home noise bc (nI (aJ a)) cbl cdn cfw cjd ctk nm = (mX3_addJudge (nI (aJ a)) cjd nm).bind fun o9 => gz o9.1 <| some (o9.1, o9.2.1, o9.2.2, rounds, cdn, home, noise, cfw, ctk, cbl, bc) := by
      unfold mX3_take
      rw [if_neg (by decide), if_neg (by decide), if_neg (by decide), if_neg (by decide), if_neg (by decide), if_neg (by decide)]
      all_goals rfl
    rw [ea, b_some] at et
    rcases m2 with ⟨z1, z2, z3, z4⟩ | ⟨z1, o', z2, z3, z4, z5, z6⟩
    · have hno := z4 o c1
      rw [if_neg (fun hh => hno ⟨hh, c2⟩), gz_0] at et
      rw [z1, gz_0, z2, z3]
      exact ⟨_, _, rfl, c3, hM, Or.inl ⟨rfl, Or.inr ⟨rfl, _, et, rfl⟩⟩⟩
    · rw [c1] at z2
      have hoo := Option.some.inj z2
      subst hoo
      rw [if_pos z3.1, gz_1] at et
      rw [z1, gz_1, z5, z6]
      have hv : ∀ k, k < 7 → loL.getD (15 + k) 0 ≤ o.1 k ∧ o.1 k ≤ hiL.getD (15 + k) 0 := fun k hk => c2 k (by omega) hk
      refine ⟨_, _, rfl, c3, ⟨hM.1, hM.2.1, (by show upd jm 1 (nI (aJ a + 1)) 0 = _; rw [upd_n (by omega)]; exact hM.2.2.1), hM.2.2.2.1, hM.2.2.2.2.1, hM.2.2.2.2.2.1, fun k hk => ?_, hM.2.2.2.2.2.2.2⟩, Or.inr ⟨rfl, rfl, (1, va_cpy nm cjd 0 (aJ a * 7) 7, nI (aJ a + 1), rounds, cdn, home, noise, cfw, ctk, cbl, bc), addJ a o.1, o.2, ?_, rfl, rfl, z4, by have := (p4 (by omega)).1; omega, (p4 (by omega)).2, ⟨hA.1, hA.2.1, by show aJ a + 1 ≤ 8; omega, hA.2.2.2.1, hA.2.2.2.2.1, fun k hk => ?_, hA.2.2.2.2.2.2⟩, ⟨hC.1, hC.2.1, hC.2.2.1, hC.2.2.2.1, rfl, hC.2.2.2.2.2.1, fun k hk => ?_, hC.2.2.2.2.2.2.2⟩, ⟨h1.1, h1.2.1, (by show upd jm 1 (nI (aJ a + 1)) 1 = _; rw [upd_s]; rfl), h1.2.2.2.1, h1.2.2.2.2.1, h1.2.2.2.2.2.1, fun k hk => ?_, h1.2.2.2.2.2.2.2⟩⟩⟩
      · have h5 := h0.2.2.1
        show (if 56 + 7 * aJ a + 0 ≤ k ∧ k < 56 + 7 * aJ a + 7 then nI (o.1 (k - (56 + 7 * aJ a))) else jds k) = nI (jd a0 k)
        rw [if_neg (by omega)]
        exact hM.2.2.2.2.2.2.1 k hk
      · exact et
      · show okJd (fun k => if 7 * aJ a ≤ k ∧ k < 7 * aJ a + 7 then o.1 (k - 7 * aJ a) else jd a k) k
        have hk2 : k < aJ a + 1 := hk
        unfold okJd
        dsimp only
        by_cases hkB : k = aJ a
        · subst hkB
          rw [if_pos (by omega), if_pos (by omega), if_pos (by omega), if_pos (by omega), if_pos (by omega), if_pos (by omega), if_pos (by omega), show 7 * aJ a - 7 * aJ a = 0 by omega, show 7 * aJ a + 1 - 7 * aJ a = 1 by omega, show 7 * aJ a + 2 - 7 * aJ a = 2 by omega, show 7 * aJ a + 3 - 7 * aJ a = 3 by omega, show 7 * aJ a + 4 - 7 * aJ a = 4 by omega, show 7 * aJ a + 5 - 7 * aJ a = 5 by omega, show 7 * aJ a + 6 - 7 * aJ a = 6 by omega]
          have w0 : o.1 0 ≤ 11 := (hv 0 (by omega)).2
          have w1 : o.1 1 ≤ 9 := (hv 1 (by omega)).2
          have w2 : o.1 2 ≤ 9 := (hv 2 (by omega)).2
          have w3 : o.1 3 ≤ 40 := (hv 3 (by omega)).2
          have w4 : 1 ≤ o.1 4 ∧ o.1 4 ≤ 9 := hv 4 (by omega)
          have w5 : o.1 5 ≤ 9 := (hv 5 (by omega)).2
          have w6 : o.1 6 ≤ 99 := (hv 6 (by omega)).2
          omega
        · have hb := hA.2.2.2.2.2.1 k (by omega)
          unfold okJd at hb
          rw [if_neg (by omega), if_neg (by omega), if_neg (by omega), if_neg (by omega), if_neg (by omega), if_neg (by omega), if_neg (by omega)]
          exact hb
      · have hk2 : k < 7 * (aJ a + 1) := hk
        show va_cpy nm cjd 0 (aJ a * 7) 7 k = nI (if 7 * aJ a ≤ k ∧ k < 7 * aJ a + 7 then o.1 (k - 7 * aJ a) else jd a k)
        unfold va_cpy
        by_cases hkB : 7 * aJ a ≤ k ∧ k < 7 * aJ a + 7
        · rw [if_pos (by omega), if_pos hkB, show 0 + (k - aJ a * 7) = k - 7 * aJ a by omega, c4 _ (by omega)]
        · rw [if_neg (by omega), if_neg hkB]
          exact hC.2.2.2.2.2.2.1 k (by omega)
      · have hk2 : k < 7 * (aJ a + 1) := hk
        show (if 56 + 7 * aJ a + 0 ≤ 56 + k ∧ 56 + k < 56 + 7 * aJ a + 7 then nI (o.1 (56 + k - (56 + 7 * aJ a))) else jds (56 + k)) = nI (if 7 * aJ a ≤ k ∧ k < 7 * aJ a + 7 then o.1 (k - 7 * aJ a) else jd a k)
        by_cases hkB : 7 * aJ a ≤ k ∧ k < 7 * aJ a + 7
        · rw [if_pos (by omega), if_pos hkB, show 56 + k - (56 + 7 * aJ a) = k - 7 * aJ a by omega]
        · rw [if_neg (by omega), if_neg hkB]
          exact h1.2.2.2.2.2.2.1 k (by omega)
