/-! READER: the whole text -/
theorem item_else {n : Nat} {t : Nat → Nat} {bytes text : Nat → Int32} (hB : TB n t bytes text) (hn : n ≤ 500) {a0 a : AT} (h0 : OKD a0) (hA : OKD a) {rounds home noise bc jc : Int32} {cbl cjd cfw cdn ctk : Nat → Int32} (hC : RCr a rounds home noise bc jc cbl cjd cfw cdn ctk) {bm bls dns fws hms jm jds nss rm tks : Nat → Int32} (hM : RM a0 rm bm bls fws dns tks hms nss jm jds) (h1 : RB1 a rm bm bls fws dns tks hms nss jm jds) (told nums : Nat → Int32) {p : Nat} (hp : p < n) (ht : ¬ t p = 114 ∧ ¬ t p = 98 ∧ ¬ t p = 102 ∧ ¬ t p = 107 ∧ ¬ t p = 100 ∧ ¬ t p = 104 ∧ ¬ t p = 106) : ∃ (om : OM) (oi : Int32 × Int32 × (Nat → Int32)), mX11_item (nI n) (nI p) bm bls dns fws hms jm jds nss rm tks text told = some om ∧ mX6_readItem (nI p) nums (nI n) bytes = some oi ∧ ItemOut n p a0 om oi (mX3_take (nI (t p)) rounds home noise bc jc cbl cdn cfw cjd ctk oi.2.2) := by
  obtain ⟨u1, u2, u3, u4, u5, u6, u7⟩ := ht
  have h9 := (hB p hp).1
  have hk : kI (t p) = -1 := by
    unfold kI
    rw [if_neg u1, if_neg u2, if_neg u3, if_neg u4, if_neg u5, if_neg u6, if_neg u7]
  have hc : mX6_readItem (nI p) nums (nI n) bytes = some (0, nI p, nums) := by
    unfold mX6_readItem
    rw [X8_byteAt_s hB hn (by omega), b_some, if_pos hp, kind_s _ h9, b_some, hk, if_neg (by decide)]
  have ne : ∀ c : Nat, c < 256 → ¬ t p = c → ¬ nI (t p) = nI c := fun c hc h hh => h ((n_eq (by omega) (by omega)).mp hh)
  have hm : mX11_item (nI n) (nI p) bm bls dns fws hms jm jds nss rm tks text told = some (0, nI (p + 1), told, rm, dns, jds, jm, hms, nss, fws, tks, bls, bm) := by
    unfold mX11_item
    rw [X11_byteAt_s hB hn (by omega), b_some, if_pos hp, nI_1, lb_d, if_neg (show ¬ nI (t p) = (98 : Int32) from ne 98 (by omega) u2), if_neg (show ¬ nI (t p) = (100 : Int32) from ne 100 (by omega) u5), if_neg (show ¬ nI (t p) = (102 : Int32) from ne 102 (by omega) u3), if_neg (show ¬ nI (t p) = (104 : Int32) from ne 104 (by omega) u6), if_neg (show ¬ nI (t p) = (106 : Int32) from ne 106 (by omega) u7), if_neg (show ¬ nI (t p) = (107 : Int32) from ne 107 (by omega) u4), if_neg (show ¬ nI (t p) = (114 : Int32) from ne 114 (by omega) u1)]
  exact ⟨_, _, hm, hc, hM, Or.inl ⟨rfl, Or.inl rfl⟩⟩
theorem item_both {n : Nat} {t : Nat → Nat} {bytes text : Nat → Int32} (hB : TB n t bytes text) (hn : n ≤ 500) {a0 a : AT} (h0 : OKD a0) (hA : OKD a) {rounds home noise bc jc : Int32} {cbl cjd cfw cdn ctk : Nat → Int32} (hC : RCr a rounds home noise bc jc cbl cjd cfw cdn ctk) {bm bls dns fws hms jm jds nss rm tks : Nat → Int32} (hM : RM a0 rm bm bls fws dns tks hms nss jm jds) (h1 : RB1 a rm bm bls fws dns tks hms nss jm jds) (told nums : Nat → Int32) {p : Nat} (hp : p < n) : ∃ (om : OM) (oi : Int32 × Int32 × (Nat → Int32)), mX11_item (nI n) (nI p) bm bls dns fws hms jm jds nss rm tks text told = some om ∧ mX6_readItem (nI p) nums (nI n) bytes = some oi ∧ ItemOut n p a0 om oi (mX3_take (nI (t p)) rounds home noise bc jc cbl cdn cfw cjd ctk oi.2.2) := by
  by_cases u1 : t p = 114
  · exact item_r hB hn h0 hA hC hM h1 told nums hp u1
  by_cases u2 : t p = 98
  · exact item_b hB hn h0 hA hC hM h1 told nums hp u2
  by_cases u3 : t p = 102
  · exact item_f hB hn h0 hA hC hM h1 told nums hp u3
  by_cases u4 : t p = 107
  · exact item_k hB hn h0 hA hC hM h1 told nums hp u4
  by_cases u5 : t p = 100
  · exact item_d hB hn h0 hA hC hM h1 told nums hp u5
  by_cases u6 : t p = 104
  · exact item_h hB hn h0 hA hC hM h1 told nums hp u6
  by_cases u7 : t p = 106
  · exact item_j hB hn h0 hA hC hM h1 told nums hp u7
  exact item_else hB hn h0 hA hC hM h1 told nums hp ⟨u1, u2, u3, u4, u5, u6, u7⟩
abbrev OC : Type := Int32 × Int32 × Int32 × Int32 × Int32 × Int32 × (Nat → Int32) × (Nat → Int32) × (Nat → Int32) × Int32 × (Nat → Int32) × (Nat → Int32) × (Nat → Int32)
abbrev OR : Type := Int32 × (Nat → Int32) × (Nat → Int32) × (Nat → Int32) × (Nat → Int32) × (Nat → Int32) × (Nat → Int32) × (Nat → Int32) × (Nat → Int32) × Int32 × (Nat → Int32) × (Nat → Int32) × (Nat → Int32)
def OC1 (a : AT) (o : OC) : Prop := RCr a o.2.1 o.2.2.1 o.2.2.2.1 o.2.2.2.2.1 o.2.2.2.2.2.1 o.2.2.2.2.2.2.2.2.2.2.2.2 o.2.2.2.2.2.2.2.2.2.2.2.1 o.2.2.2.2.2.2.1 o.2.2.2.2.2.2.2.1 o.2.2.2.2.2.2.2.2.1
def OR0 (a : AT) (o : OR) : Prop := RM a o.2.1 o.2.2.1 o.2.2.2.2.2.2.2.2.2.2.2.2 o.2.2.2.2.2.2.1 o.2.2.2.2.2.2.2.1 o.2.2.2.2.2.2.2.2.1 o.2.2.2.2.1 o.2.2.2.2.2.1 o.2.2.2.1 o.2.2.2.2.2.2.2.2.2.2.2.1
def OR1 (a : AT) (o : OR) : Prop := RB1 a o.2.1 o.2.2.1 o.2.2.2.2.2.2.2.2.2.2.2.2 o.2.2.2.2.2.2.1 o.2.2.2.2.2.2.2.1 o.2.2.2.2.2.2.2.2.1 o.2.2.2.2.1 o.2.2.2.2.2.1 o.2.2.2.1 o.2.2.2.2.2.2.2.2.2.2.2.1
theorem read_both {n : Nat} {t : Nat → Nat} {bytes text : Nat → Int32} (hB : TB n t bytes text) (hn : n ≤ 500) {a0 : AT} (h0 : OKD a0) : ∀ (d l p m1 m2 : Nat) {a : AT} {rounds home noise bc jc : Int32} {cbl cjd cfw cdn ctk : Nat → Int32} {bm bls dns fws hms jm jds nss rm tks : Nat → Int32} (told nums : Nat → Int32), n - p ≤ d → d < m1 → d < m2 → p ≤ n → l ≤ p → OKD a → RCr a rounds home noise bc jc cbl cjd cfw cdn ctk → RM a0 rm bm bls fws dns tks hms nss jm jds → RB1 a rm bm bls fws dns tks hms nss jm jds → ∃ (oc : OC) (om : OR), mX6_readInto_L11 (nI n) bytes m1 (nI l) rounds home noise bc jc cfw cdn ctk (nI p) nums cjd cbl = some oc ∧ mX11_readAll_L10 (nI n) text m2 rm bm jm hms nss fws dns tks (nI p) told jds bls = some om ∧ oc.1 = om.1 ∧ OR0 a0 om ∧ (om.1 = -4 → ∃ a', OKD a' ∧ OC1 a' oc ∧ OR1 a' om) := by
  intro d
  induction d with
  | zero =>
    intro l p m1 m2 a rounds home noise bc jc cbl cjd cfw cdn ctk bm bls dns fws hms jm jds nss rm tks told nums hd hm1 hm2 hp hl hA hC hM h1
    obtain ⟨m1, rfl⟩ : ∃ q, m1 = q + 1 := ⟨m1 - 1, by omega⟩
    obtain ⟨m2, rfl⟩ : ∃ q, m2 = q + 1 := ⟨m2 - 1, by omega⟩
    refine ⟨(-4, rounds, home, noise, bc, jc, cfw, cdn, ctk, nI p, nums, cjd, cbl), (-4, rm, bm, jm, hms, nss, fws, dns, tks, nI p, told, jds, bls), ?_, ?_, rfl, hM, fun _ => ⟨a, hA, hC, h1⟩⟩
    · rw [eX6_readInto_11]
      unfold mX6_readInto_B11
      rw [if_pos (show nI n ≤ nI p from (n_le (by omega) (by omega)).mpr (by omega)), ite_self]
    · rw [eX11_readAll_10]
      unfold mX11_readAll_B10
      rw [if_pos (show nI n ≤ nI p from (n_le (by omega) (by omega)).mpr (by omega))]
  | succ d ih =>
    intro l p m1 m2 a rounds home noise bc jc cbl cjd cfw cdn ctk bm bls dns fws hms jm jds nss rm tks told nums hd hm1 hm2 hp hl hA hC hM h1
    obtain ⟨m1, rfl⟩ : ∃ q, m1 = q + 1 := ⟨m1 - 1, by omega⟩
    obtain ⟨m2, rfl⟩ : ∃ q, m2 = q + 1 := ⟨m2 - 1, by omega⟩
    by_cases hpn : p < n
    rotate_left
    · refine ⟨(-4, rounds, home, noise, bc, jc, cfw, cdn, ctk, nI p, nums, cjd, cbl), (-4, rm, bm, jm, hms, nss, fws, dns, tks, nI p, told, jds, bls), ?_, ?_, rfl, hM, fun _ => ⟨a, hA, hC, h1⟩⟩
      · rw [eX6_readInto_11]
        unfold mX6_readInto_B11
        rw [if_pos (show nI n ≤ nI p from (n_le (by omega) (by omega)).mpr (by omega)), ite_self]
      · rw [eX11_readAll_10]
        unfold mX11_readAll_B10
        rw [if_pos (show nI n ≤ nI p from (n_le (by omega) (by omega)).mpr (by omega))]
    obtain ⟨om, oi, e1, e2, hM2, hout⟩ := item_both hB hn h0 hA hC hM h1 told nums hpn
    have np4 : ¬ nI p = (-4 : Int32) := by
      intro hh
      have h9 : iI (p : Int) = iI (-4) := (nI_iI p).symm.trans hh
      have := (iI_eq (by omega) (by omega) (by omega) (by omega)).mp h9
      omega
    have ec : mX6_readInto_L11 (nI n) bytes (m1 + 1) (nI l) rounds home noise bc jc cfw cdn ctk (nI p) nums cjd cbl = if oi.1 = 0 then (some (nI p, rounds, home, noise, bc, jc, cfw, cdn, ctk, oi.2.1, oi.2.2, cjd, cbl)) else ((mX3_take (nI (t p)) rounds home noise bc jc cbl cdn cfw cjd ctk oi.2.2).bind fun o_10 => if o_10.1 = 0 then (some (nI p, o_10.2.2.2.1, o_10.2.2.2.2.2.1, o_10.2.2.2.2.2.2.1, o_10.2.2.2.2.2.2.2.2.2.2, o_10.2.2.1, o_10.2.2.2.2.2.2.2.1, o_10.2.2.2.2.1, o_10.2.2.2.2.2.2.2.2.1, oi.2.1, oi.2.2, o_10.2.1, o_10.2.2.2.2.2.2.2.2.2.1)) else (mX6_readInto_L11 (nI n) bytes m1 (nI (l + 1)) o_10.2.2.2.1 o_10.2.2.2.2.2.1 o_10.2.2.2.2.2.2.1 o_10.2.2.2.2.2.2.2.2.2.2 o_10.2.2.1 o_10.2.2.2.2.2.2.2.1 o_10.2.2.2.2.1 o_10.2.2.2.2.2.2.2.2.1 oi.2.1 oi.2.2 o_10.2.1 o_10.2.2.2.2.2.2.2.2.2.1)) := by
      rw [eX6_readInto_11]
      unfold mX6_readInto_B11
      rw [if_neg (show ¬ (500 : Int32) ≤ nI l from fun hh => absurd ((n_le (a := 500) (by omega) (by omega)).mp hh) (by omega)), if_neg (show ¬ nI n ≤ nI p from fun hh => absurd ((n_le (by omega) (by omega)).mp hh) (by omega)), e2, b_some, X8_byteAt_s hB hn (by omega), b_some, if_pos hpn, nI_1]
      rfl
    have em : mX11_readAll_L10 (nI n) text (m2 + 1) rm bm jm hms nss fws dns tks (nI p) told jds bls = if om.1 = 0 then (some (nI p, om.2.2.2.1, om.2.2.2.2.2.2.2.2.2.2.2.2, om.2.2.2.2.2.2.1, om.2.2.2.2.2.2.2.1, om.2.2.2.2.2.2.2.2.1, om.2.2.2.2.2.2.2.2.2.1, om.2.2.2.2.1, om.2.2.2.2.2.2.2.2.2.2.1, om.2.1, om.2.2.1, om.2.2.2.2.2.1, om.2.2.2.2.2.2.2.2.2.2.2.1)) else (mX11_readAll_L10 (nI n) text m2 om.2.2.2.1 om.2.2.2.2.2.2.2.2.2.2.2.2 om.2.2.2.2.2.2.1 om.2.2.2.2.2.2.2.1 om.2.2.2.2.2.2.2.2.1 om.2.2.2.2.2.2.2.2.2.1 om.2.2.2.2.1 om.2.2.2.2.2.2.2.2.2.2.1 om.2.1 om.2.2.1 om.2.2.2.2.2.1 om.2.2.2.2.2.2.2.2.2.2.2.1) := by
      rw [eX11_readAll_10]
      unfold mX11_readAll_B10
      rw [if_neg (show ¬ nI n ≤ nI p from fun hh => absurd ((n_le (by omega) (by omega)).mp hh) (by omega)), e1, b_some]
    rw [ec, em]
    rcases hout with ⟨z1, z2 | ⟨z2, ot, z3, z4⟩⟩ | ⟨z1, z2, ot, a', p', z3, z4, z5, z6, z7, z8, z9, z10, z11⟩
    · rw [if_pos z1, if_pos z2]
      exact ⟨_, _, rfl, rfl, rfl, hM2, fun hh => absurd hh np4⟩
    · rw [if_pos z1, if_neg (show ¬ oi.1 = 0 by rw [z2]; decide), z3, b_some, if_pos z4]
      exact ⟨_, _, rfl, rfl, rfl, hM2, fun hh => absurd hh np4⟩
    · rw [if_neg (show ¬ om.1 = 0 by rw [z1]; decide), if_neg (show ¬ oi.1 = 0 by rw [z2]; decide), z3, b_some, if_neg (show ¬ ot.1 = 0 by rw [z4]; decide), z5, z6]
      exact ih (l + 1) p' m1 m2 om.2.2.1 oi.2.2 (by omega) (by omega) (by omega) z8 (by omega) z9 z10 hM2 z11
def clrA : AT := ((12, 0, 0, 0, 0), (fun _ => 0, fun _ => 0, fun _ => 0, fun _ => 0, fun _ => 0))
theorem clr_ok : OKD clrA := ⟨⟨by decide, by decide⟩, by decide, by decide, ⟨by decide, by decide⟩, fun k hk => absurd hk (by show ¬ k < 0; omega), fun j hj => absurd hj (by show ¬ j < 0; omega), fun _ _ => by show 0 ≤ 9; omega, fun _ _ => by show 0 + 0 ≤ 3; omega, fun _ _ => by show 0 + 0 ≤ 3; omega⟩
def zer (f : Nat → Int32) : Nat → Int32 := fun k => if 24 ≤ k ∧ k < 48 then 0 else f k
theorem X11_noFight_1 (bm dns fws hms jm nss rm tks : Nat → Int32) : mX11_noFight 1 bm dns fws hms jm nss rm tks = some (upd rm 1 12, upd bm 1 0, upd jm 1 0, upd hms 1 0, upd nss 1 0, zer fws, zer dns, zer tks) := by
  have key : ∀ (d i m : Nat) (rm bm jm hms nss f1 f2 f3 : Nat → Int32), i + d = 24 → d < m → mX11_noFight_L38 (nI 1) m (nI i) rm bm jm hms nss f1 f2 f3 = some (rm, bm, jm, hms, nss, (fun k => if 24 + i ≤ k ∧ k < 48 then 0 else f1 k), (fun k => if 24 + i ≤ k ∧ k < 48 then 0 else f2 k), (fun k => if 24 + i ≤ k ∧ k < 48 then 0 else f3 k)) := by
    intro d
    induction d with
    | zero =>
      intro i m rm bm jm hms nss f1 f2 f3 hi hm
      obtain ⟨m, rfl⟩ : ∃ q, m = q + 1 := ⟨m - 1, by omega⟩
      have e : ∀ f : Nat → Int32, (fun k => if 24 + i ≤ k ∧ k < 48 then (0 : Int32) else f k) = f := fun f => by funext k; rw [if_neg (by omega)]
      rw [eX11_noFight_38]
      unfold mX11_noFight_B38
      rw [n_lit 24, if_pos ((n_le (by omega) (by omega)).mpr (by omega)), e, e, e]
    | succ d ih =>
      intro i m rm bm jm hms nss f1 f2 f3 hi hm
      obtain ⟨m, rfl⟩ : ∃ q, m = q + 1 := ⟨m - 1, by omega⟩
      have e : ∀ f : Nat → Int32, (fun k => if 24 + (i + 1) ≤ k ∧ k < 48 then (0 : Int32) else upd f (24 + i) 0 k) = (fun k => if 24 + i ≤ k ∧ k < 48 then (0 : Int32) else f k) := by
        intro f
        funext k
        by_cases h : k = 24 + i
        · rw [if_neg (by omega), h, upd_s, if_pos (by omega)]
        · rw [upd_n h]
          by_cases h2 : 24 + (i + 1) ≤ k ∧ k < 48
          · rw [if_pos h2, if_pos (by omega)]
          · rw [if_neg h2, if_neg (by omega)]
      have e24 : nI 24 * nI 1 + nI i = nI (24 + i) := by rw [n_mul, n_add]
      rw [eX11_noFight_38]
      unfold mX11_noFight_B38
      rw [n_lit 24, if_neg (fun hh => absurd ((n_le (a := 24) (by omega) (by omega)).mp hh) (by omega)), e24, gi_n (by omega) (by omega), lb_d, gi_n (by omega) (by omega), lb_d, gi_n (by omega) (by omega), lb_d, lb_d, n_cl (by omega), nI_1, ih (i + 1) m _ _ _ _ _ _ _ _ (by omega) (by omega), e, e, e]
  have g0 : ∀ (k : Option ((Nat → Int32) × (Nat → Int32) × (Nat → Int32) × (Nat → Int32) × (Nat → Int32) × (Nat → Int32) × (Nat → Int32) × (Nat → Int32))), gi (1 : Int32) 2 k = k := fun k => gi_n (j := 1) (by omega) (by omega)
  unfold mX11_noFight
  rw [g0, lb_d, g0, lb_d, g0, lb_d, g0, lb_d, g0, lb_d, show (1 : Int32).toNatClampNeg = 1 from rfl]
  exact key 24 0 FUEL _ _ _ _ _ _ _ _ (by omega) (by unfold FUEL; omega)
theorem readInto_both {n : Nat} {t : Nat → Nat} {bytes text : Nat → Int32} (hB : TB n t bytes text) (hn : n ≤ 500) {a0 : AT} (h0 : OKD a0) {bm bls dns fws hms jm jds nss rm tks : Nat → Int32} (hM : RM a0 rm bm bls fws dns tks hms nss jm jds) (told : Nat → Int32) (mpl : Int32) : ∃ om : OR, mX11_readAll (nI n) mpl bm bls dns fws hms jm jds nss rm tks text told = some om ∧ OR0 a0 om ∧ ∀ (pl : Int32) (nums : Nat → Int32) (rounds home noise bc jc : Int32) (cbl cdn cfw cjd ctk : Nat → Int32), ∃ oc : OC, mX6_readInto pl nums (nI n) bytes rounds home noise bc jc cbl cdn cfw cjd ctk = some oc ∧ oc.1 = om.1 ∧ (om.1 = -4 → ∃ a', OKD a' ∧ OC1 a' oc ∧ OR1 a' om) := by
  have z0 : ∀ (f g : Nat → Int32) {u : Nat → Nat}, (∀ k, k < 24 → f k = nI (u k)) → ∀ k, k < 24 → zer f k = nI (u k) := fun f g u h k hk => by unfold zer; rw [if_neg (by omega)]; exact h k hk
  have hM1 : RM a0 (upd rm 1 12) (upd bm 1 0) bls (zer fws) (zer dns) (zer tks) (upd hms 1 0) (upd nss 1 0) (upd jm 1 0) jds := ⟨by rw [upd_n (by omega)]; exact hM.1, by rw [upd_n (by omega)]; exact hM.2.1, by rw [upd_n (by omega)]; exact hM.2.2.1, by rw [upd_n (by omega)]; exact hM.2.2.2.1, by rw [upd_n (by omega)]; exact hM.2.2.2.2.1, hM.2.2.2.2.2.1, hM.2.2.2.2.2.2.1, z0 fws fws hM.2.2.2.2.2.2.2.1, z0 dns dns hM.2.2.2.2.2.2.2.2.1, z0 tks tks hM.2.2.2.2.2.2.2.2.2⟩
  have z1 : ∀ (f : Nat → Int32) (k : Nat), k < 24 → zer f (24 + k) = nI 0 := fun f k hk => by unfold zer; rw [if_pos (by omega)]; rfl
  have hB1 : RB1 clrA (upd rm 1 12) (upd bm 1 0) bls (zer fws) (zer dns) (zer tks) (upd hms 1 0) (upd nss 1 0) (upd jm 1 0) jds := ⟨upd_s, upd_s, upd_s, upd_s, upd_s, fun k hk => absurd hk (by show ¬ k < 5 * 0; omega), fun k hk => absurd hk (by show ¬ k < 7 * 0; omega), fun k hk => z1 fws k hk, fun k hk => z1 dns k hk, fun k hk => z1 tks k hk⟩
  have go : ∀ (nums : Nat → Int32) (cbl cdn cfw cjd ctk : Nat → Int32), (∀ k, k < 24 → cfw k = nI 0) → (∀ k, k < 24 → cdn k = nI 0) → (∀ k, k < 24 → ctk k = nI 0) → ∃ (oc : OC) (om : OR), mX6_readInto_L11 (nI n) bytes FUEL (nI 0) 12 0 0 0 0 cfw cdn ctk (nI 0) nums cjd cbl = some oc ∧ mX11_readAll_L10 (nI n) text FUEL (upd rm 1 12) (upd bm 1 0) (upd jm 1 0) (upd hms 1 0) (upd nss 1 0) (zer fws) (zer dns) (zer tks) (nI 0) told jds bls = some om ∧ oc.1 = om.1 ∧ OR0 a0 om ∧ (om.1 = -4 → ∃ a', OKD a' ∧ OC1 a' oc ∧ OR1 a' om) := by
    intro nums cbl cdn cfw cjd ctk q1 q2 q3
    exact read_both hB hn h0 500 0 0 FUEL FUEL told nums (by omega) (by unfold FUEL; omega) (by unfold FUEL; omega) (by omega) (by omega) clr_ok ⟨rfl, rfl, rfl, rfl, rfl, fun k hk => absurd hk (by show ¬ k < 5 * 0; omega), fun k hk => absurd hk (by show ¬ k < 7 * 0; omega), q1, q2, q3⟩ hM1 hB1
  have em : ∀ om : OR, mX11_readAll_L10 (nI n) text FUEL (upd rm 1 12) (upd bm 1 0) (upd jm 1 0) (upd hms 1 0) (upd nss 1 0) (zer fws) (zer dns) (zer tks) (nI 0) told jds bls = some om → mX11_readAll (nI n) mpl bm bls dns fws hms jm jds nss rm tks text told = some om := by
    intro om h
    unfold mX11_readAll
    rw [X11_noFight_1, b_some]
    exact h
  obtain ⟨-, om, -, e2, -, e4, -⟩ := go (fun _ => 0) (fun _ => 0) (fun _ => 0) (fun _ => 0) (fun _ => 0) (fun _ => 0) (fun _ _ => rfl) (fun _ _ => rfl) (fun _ _ => rfl)
  refine ⟨om, em om e2, e4, ?_⟩
  intro pl nums rounds home noise bc jc cbl cdn cfw cjd ctk
  have z2 : ∀ (f : Nat → Int32) (k : Nat), k < 24 → (fun k => if k < 24 then (0 : Int32) else f k) k = nI 0 := fun f k hk => by show (if k < 24 then (0 : Int32) else f k) = nI 0; rw [if_pos hk]; rfl
  obtain ⟨oc, om', f1, f2, f3, -, f5⟩ := go nums cbl (fun k => if k < 24 then 0 else cdn k) (fun k => if k < 24 then 0 else cfw k) cjd (fun k => if k < 24 then 0 else ctk k) (z2 cfw) (z2 cdn) (z2 ctk)
  rw [e2] at f2
  have hoo := Option.some.inj f2
  subst hoo
  refine ⟨oc, ?_, f3, f5⟩
  unfold mX6_readInto mX3_clear
  rw [fill_s _ 24 (by omega), b_some, fill_s _ 24 (by omega), b_some, fill_s _ 24 (by omega), b_some, b_some]
  exact f1
set_option maxRecDepth 100000 in
theorem api_fault {c_text_length : Int32} {c_text_bytes : Nat → Int32} {c_laid_rounds : Int32} {c_laid_home : Int32} {c_laid_noise : Int32} {c_laid_blowCount : Int32} {c_laid_judgeCount : Int32} {c_laid_blows : Nat → Int32} {c_laid_judges : Nat → Int32} {c_laid_forward : Nat → Int32} {c_laid_downs : Nat → Int32} {c_laid_taken : Nat → Int32} {c_laid_seenBy : Nat → Int32} {c_laid_sums : Nat → Int32} {c_laid_leads : Nat → Int32} {c_bench_watchers : Nat → Int32} {c_notes_delays : Nat → Int32} {c_notes_margins : Nat → Int32} {c_notes_odds : Nat → Int32} {c_kept_0_delays : Nat → Int32} {c_kept_0_margins : Nat → Int32} {c_kept_0_odds : Nat → Int32} {c_kept_1_delays : Nat → Int32} {c_kept_1_margins : Nat → Int32} {c_kept_1_odds : Nat → Int32} {c_keptCount : Int32} {m_length : Int32} {m_text : Nat → Int32} {m_roundMany : Nat → Int32} {m_blowMany : Nat → Int32} {m_blows : Nat → Int32} {m_forwards : Nat → Int32} {m_downs : Nat → Int32} {m_takens : Nat → Int32} {m_homes : Nat → Int32} {m_noises : Nat → Int32} {m_judgeMany : Nat → Int32} {m_judges : Nat → Int32} {m_delays : Nat → Int32} {m_tolds : Nat → Int32} {m_tens : Nat → Int32} {m_keptMany : Int32}  (c_draft_rounds : Int32) (c_draft_home : Int32) (c_draft_noise : Int32) (c_draft_blowCount : Int32) (c_draft_judgeCount : Int32) (c_reader_place : Int32) (c_draft_blows : Nat → Int32) (c_draft_downs : Nat → Int32) (c_draft_forward : Nat → Int32) (c_draft_judges : Nat → Int32) (c_draft_taken : Nat → Int32) (c_reader_numbers : Nat → Int32) (m_place : Int32) (m_told : Nat → Int32) (hR : RR c_text_length c_text_bytes c_laid_rounds c_laid_home c_laid_noise c_laid_blowCount c_laid_judgeCount c_laid_blows c_laid_judges c_laid_forward c_laid_downs c_laid_taken c_laid_seenBy c_laid_sums c_laid_leads c_bench_watchers c_notes_delays c_notes_margins c_notes_odds c_kept_0_delays c_kept_0_margins c_kept_0_odds c_kept_1_delays c_kept_1_margins c_kept_1_odds c_keptCount m_length m_text m_roundMany m_blowMany m_blows m_forwards m_downs m_takens m_homes m_noises m_judgeMany m_judges m_delays m_tolds m_tens m_keptMany) : ∃ (oc : Int32 × Int32 × Int32 × Int32 × Int32 × Int32 × (Nat → Int32) × (Nat → Int32) × (Nat → Int32) × Int32 × (Nat → Int32) × (Nat → Int32) × (Nat → Int32)) (om : Int32 × (Nat → Int32) × (Nat → Int32) × (Nat → Int32) × (Nat → Int32) × (Nat → Int32) × (Nat → Int32) × (Nat → Int32) × (Nat → Int32) × Int32 × (Nat → Int32) × (Nat → Int32) × (Nat → Int32)), mX10_fault c_draft_rounds c_draft_home c_draft_noise c_draft_blowCount c_draft_judgeCount c_reader_place c_text_length c_draft_blows c_draft_downs c_draft_forward c_draft_judges c_draft_taken c_reader_numbers c_text_bytes = some oc ∧ mX11_fault m_length m_place m_blowMany m_blows m_downs m_forwards m_homes m_judgeMany m_judges m_noises m_roundMany m_takens m_text m_told = some om ∧ oc.1 = om.1 ∧ RR c_text_length c_text_bytes c_laid_rounds c_laid_home c_laid_noise c_laid_blowCount c_laid_judgeCount c_laid_blows c_laid_judges c_laid_forward c_laid_downs c_laid_taken c_laid_seenBy c_laid_sums c_laid_leads c_bench_watchers c_notes_delays c_notes_margins c_notes_odds c_kept_0_delays c_kept_0_margins c_kept_0_odds c_kept_1_delays c_kept_1_margins c_kept_1_odds c_keptCount m_length m_text om.2.1 om.2.2.1 om.2.2.2.2.2.2.2.2.2.2.2.2 om.2.2.2.2.2.2.1 om.2.2.2.2.2.2.2.1 om.2.2.2.2.2.2.2.2.1 om.2.2.2.2.1 om.2.2.2.2.2.1 om.2.2.2.1 om.2.2.2.2.2.2.2.2.2.2.2.1 m_delays m_tolds m_tens m_keptMany := by
  obtain ⟨⟨n, t, hn, rfl, rfl, ht⟩, ⟨a, hA, hC, hS, hM⟩, hW, hN⟩ := hR
  obtain ⟨om, e1, e2, e3⟩ := readInto_both (t := t) (bytes := c_text_bytes) (text := m_text) ht hn hA.1 hM m_told m_place
  obtain ⟨oc, f1, f2, -⟩ := e3 c_reader_place c_reader_numbers c_draft_rounds c_draft_home c_draft_noise c_draft_blowCount c_draft_judgeCount c_draft_blows c_draft_downs c_draft_forward c_draft_judges c_draft_taken
  unfold mX10_fault mX11_fault
  rw [f1, b_some, e1, b_some]
  exact ⟨_, _, rfl, rfl, f2, ⟨n, t, hn, rfl, rfl, ht⟩, ⟨a, hA, hC, hS, e2⟩, hW, hN⟩
