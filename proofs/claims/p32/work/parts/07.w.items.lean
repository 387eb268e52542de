/-! READER: items -/
def loL : List Nat := [1, 0, 0, 0, 1, 0, 0, 0, 0, 0, 0, 0, 0, 0, 0, 0, 0, 0, 0, 1, 0, 0]
def hiL : List Nat := [12, 11, 179, 1, 9, 11, 11, 1, 9, 11, 1, 11, 1, 1, 9, 11, 9, 9, 40, 9, 9, 99]
def fiL : List Nat := [0, 1, 6, 9, 11, 13, 15]
def ctL : List Nat := [1, 5, 3, 2, 2, 2, 7]
theorem tab12_s : ∀ k, k < 22 → tab1 k = nI (loL.getD k 0) ∧ tab2 k = nI (hiL.getD k 0) ∧ hiL.getD k 0 ≤ 179 ∧ loL.getD k 0 ≤ 1 := by decide
theorem tab0_s : ∀ q, q < 7 → tab0 q = nI (fiL.getD q 0) ∧ tab0 (q + 1) = nI (fiL.getD q 0 + ctL.getD q 0) ∧ fiL.getD q 0 + ctL.getD q 0 ≤ 22 ∧ ctL.getD q 0 ≤ 7 ∧ 1 ≤ ctL.getD q 0 := by decide
def inR (first i cnt : Nat) (g : Nat → Nat) : Prop := ∀ j, i ≤ j → j < cnt → loL.getD (first + j) 0 ≤ g j ∧ g j ≤ hiL.getD (first + j) 0
theorem X6_items {n : Nat} {t : Nat → Nat} {bytes text : Nat → Int32} (hB : TB n t bytes text) (hn : n ≤ 500) {first cnt : Nat} (hf : first + cnt ≤ 22) (hc : cnt ≤ 7) : ∀ (d i f p : Nat) (g : Nat → Nat) (nums : Nat → Int32), i + d = cnt → d < f → p < 50000 → (∀ k, k < i → nums k = nI (g k)) → ((∃ q nm, mX6_readItem_L51 (nI n) bytes f (nI first) (nI (first + cnt)) (nI (first + i)) (nI p) nums = some (0, q, nm)) ∧ ∀ o, pN n t d p i g = some o → ¬ inR first i cnt o.1) ∨ (∃ o, pN n t d p i g = some o ∧ inR first i cnt o.1 ∧ ∃ nm, mX6_readItem_L51 (nI n) bytes f (nI first) (nI (first + cnt)) (nI (first + i)) (nI p) nums = some (1, nI o.2, nm) ∧ ∀ k, k < cnt → nm k = nI (o.1 k)) := by
  intro d
  induction d with
  | zero =>
    intro i f p g nums hi hf2 hp h
    obtain ⟨f, rfl⟩ : ∃ q, f = q + 1 := ⟨f - 1, by omega⟩
    refine Or.inr ⟨(g, p), rfl, fun j h1 h2 => absurd h2 (by omega), nums, ?_, fun k hk => h k (by omega)⟩
    rw [eX6_readItem_51]
    unfold mX6_readItem_B51
    rw [if_pos ((n_le (by omega) (by omega)).mpr (by omega))]
  | succ d ih =>
    intro i f p g nums hi hf2 hp h
    obtain ⟨f, rfl⟩ : ∃ q, f = q + 1 := ⟨f - 1, by omega⟩
    obtain ⟨t1, t2, t3, t4⟩ := tab12_s (first + i) (by omega)
    have h3 := rdN_bd n t 3 p 0 0
    have hsep : (if d = 0 then 59 else 44) = 59 ∨ (if d = 0 then 59 else 44) = 44 := by split <;> omega
    have en : pNum n t p (if d = 0 then 59 else 44) = if 1 ≤ (rdN n t 3 p 0 0).2.1 ∧ (rdN n t 3 p 0 0).2.2 < n ∧ t (rdN n t 3 p 0 0).2.2 = (if d = 0 then 59 else 44) then some ((rdN n t 3 p 0 0).1, (rdN n t 3 p 0 0).2.2 + 1) else none := rfl
    rw [eX6_readItem_51]
    unfold mX6_readItem_B51
    rw [if_neg (fun hh => absurd ((n_le (by omega) (by omega)).mp hh) (by omega)), X6_readNumber_s hB hn (by omega), b_some, gi_n (by omega) (by omega), gi_n (by omega) (by omega), n_cl (by omega), t1, t2, X10_within_s, b_some, if10]
    generalize rdN n t 3 p 0 0 = r at h3 en
    obtain ⟨v, c, q⟩ := r
    have hv : v ≤ 999 := by have h9 : v + 1 ≤ 10 ^ 3 * (0 + 1) := h3.2.2.2; omega
    have hcq : c ≤ 3 ∧ q + 0 = p + c := by have h9 : c ≤ 0 + 3 := h3.2.1; have h8 : q + 0 = p + c := h3.2.2.1; omega
    change pNum n t p (if d = 0 then 59 else 44) = (if 1 ≤ c ∧ q < n ∧ t q = (if d = 0 then 59 else 44) then some (v, q + 1) else none) at en
    by_cases c0 : c = 0
    · subst c0
      rw [if_neg (show ¬ (1 ≤ 0 ∧ q < n ∧ t q = (if d = 0 then 59 else 44)) from fun hh => absurd hh.1 (by omega))] at en
      refine Or.inl ⟨⟨nI q, nums, ?_⟩, fun o ho => ?_⟩
      · refine if_neg (fun hh => ?_)
        have h9 : nI (loL.getD (first + i) 0) ≤ (-1 : Int32) := hh.1
        rw [i_m1, nI_iI, iI_le (by omega) (by omega) (by omega) (by omega)] at h9
        omega
      · unfold pN at ho
        rw [en] at ho
        cases ho
    · have ew : ((nI (loL.getD (first + i) 0) ≤ (if c = 0 then (-1 : Int32) else nI v)) ∧ (if c = 0 then (-1 : Int32) else nI v) ≤ nI (hiL.getD (first + i) 0)) ↔ (loL.getD (first + i) 0 ≤ v ∧ v ≤ hiL.getD (first + i) 0) := by
        rw [if_neg c0, n_le (by omega) (by omega), n_le (by omega) (by omega)]
      by_cases cw : loL.getD (first + i) 0 ≤ v ∧ v ≤ hiL.getD (first + i) 0
      · have eb := X8_byteAt_s hB hn (show q < 2147483648 by omega)
        have e111 : mX6_readItem_B111 (nI n) bytes (mX6_readItem_L51 (nI n) bytes f) (nI first) (nI (first + cnt)) (nI (first + i)) (nI v) (if q < n then nI (t q) else -1) (nI (if d = 0 then 59 else 44)) (nI q) nums = if q < n ∧ t q = (if d = 0 then 59 else 44) then mX6_readItem_L51 (nI n) bytes f (nI first) (nI (first + cnt)) (nI (first + (i + 1))) (nI (q + 1)) (upd nums i (nI v)) else some (0, nI q, nums) := by
          unfold mX6_readItem_B111
          have hq := sep_if (n := n) (t := t) (p := q) (fun h => (hB _ h).1) hsep (x := -1) (Or.inl rfl)
          by_cases cs : q < n ∧ t q = (if d = 0 then 59 else 44)
          · rw [if_pos (hq.mpr cs), if_pos cs, n_sub (by omega), show first + i - first = i by omega, lb_d, gi_n (by omega) (by omega), n_cl (by omega), n_lit 1, n_add, n_add, lb_d, lb_d]
            rfl
          · rw [if_neg (fun hh => cs (hq.mp hh)), if_neg cs]
        have e99 : (if nI (first + i) = (nI (first + cnt) - (1 : Int32)) then (mX6_readItem_B111 (nI n) bytes (mX6_readItem_L51 (nI n) bytes f) (nI first) (nI (first + cnt)) (nI (first + i)) (nI v) (if q < n then nI (t q) else -1) (59 : Int32) (nI q) nums) else (mX6_readItem_B111 (nI n) bytes (mX6_readItem_L51 (nI n) bytes f) (nI first) (nI (first + cnt)) (nI (first + i)) (nI v) (if q < n then nI (t q) else -1) (44 : Int32) (nI q) nums)) = mX6_readItem_B111 (nI n) bytes (mX6_readItem_L51 (nI n) bytes f) (nI first) (nI (first + cnt)) (nI (first + i)) (nI v) (if q < n then nI (t q) else -1) (nI (if d = 0 then 59 else 44)) (nI q) nums := by
          rw [n_lit 1, n_sub (by omega)]
          by_cases cd : d = 0
          · rw [if_pos ((n_eq (by omega) (by omega)).mpr (by omega)), if_pos cd]
            rfl
          · rw [if_neg (fun hh => absurd ((n_eq (by omega) (by omega)).mp hh) (by omega)), if_neg cd]
            rfl
        rw [if_pos (ew.mpr cw)]
        dsimp only
        rw [if_neg c0, eb, b_some, e99, e111]
        unfold pN
        by_cases cs : q < n ∧ t q = (if d = 0 then 59 else 44)
        · rw [if_pos (show (1 ≤ c ∧ q < n ∧ t q = (if d = 0 then 59 else 44)) from ⟨by omega, cs⟩)] at en
          rw [if_pos cs, en]
          have hk : ∀ o, pN n t d (q + 1) (i + 1) (fun k => if k = i then v else g k) = some o → o.1 i = v := by
            intro o ho
            rw [(pN_bd d _ _ _ o ho).1 i (by omega)]
            exact if_pos rfl
          rcases ih (i + 1) f (q + 1) (fun k => if k = i then v else g k) (upd nums i (nI v)) (by omega) (by omega) (by omega) (fun k hk => by
            by_cases hki : k = i
            · rw [hki, upd_s]
              show _ = nI (if i = i then v else g i)
              rw [if_pos rfl]
            · rw [upd_n hki, h k (by omega)]
              show _ = nI (if k = i then v else g k)
              rw [if_neg hki]) with ⟨⟨q1, nm, e1⟩, e2⟩ | ⟨o, e1, e2, nm, e3, e4⟩
          · exact Or.inl ⟨⟨q1, nm, e1⟩, fun o ho hh => e2 o ho (fun j h5 h6 => hh j (by omega) h6)⟩
          · refine Or.inr ⟨o, e1, fun j h5 h6 => ?_, nm, e3, e4⟩
            by_cases hj : j = i
            · rw [hj, hk o e1]
              exact cw
            · exact e2 j (by omega) h6
        · rw [if_neg (show ¬ (1 ≤ c ∧ q < n ∧ t q = (if d = 0 then 59 else 44)) from fun hh => cs hh.2)] at en
          rw [if_neg cs, en]
          exact Or.inl ⟨⟨_, _, rfl⟩, fun o ho => by cases ho⟩
      · refine Or.inl ⟨⟨nI q, nums, if_neg (fun hh => cw (ew.mp hh))⟩, fun o ho hh => ?_⟩
        unfold pN at ho
        by_cases cs : 1 ≤ c ∧ q < n ∧ t q = (if d = 0 then 59 else 44)
        · rw [if_pos (show (1 ≤ c ∧ q < n ∧ t q = (if d = 0 then 59 else 44)) from cs)] at en
          rw [en] at ho
          have hk := (pN_bd d _ _ _ o ho).1 i (by omega)
          have hk2 : o.1 i = v := by rw [hk]; exact if_pos rfl
          have h9 := hh i (by omega) (by omega)
          rw [hk2] at h9
          exact cw h9
        · rw [if_neg (show ¬ (1 ≤ c ∧ q < n ∧ t q = (if d = 0 then 59 else 44)) from cs)] at en
          rw [en] at ho
          cases ho
def kI (v : Nat) : Int32 := if v = 114 then 0 else if v = 98 then 1 else if v = 102 then 2 else if v = 107 then 3 else if v = 100 then 4 else if v = 104 then 5 else if v = 106 then 6 else -1
theorem kind_s : ∀ v, v < 256 → mJ0_indexOf_0f7a4 (UInt32.toInt32 (Int32.toUInt32 (nI v) % 65536)) = some (kI v) := by decide +kernel
theorem X6_readItem_k {n : Nat} {t : Nat → Nat} {bytes text : Nat → Int32} (hB : TB n t bytes text) (hn : n ≤ 500) (nums : Nat → Int32) {p q : Nat} (hp : p < n) (hq : q < 7) (hk : kI (t p) = nI q) : ((∃ oi, mX6_readItem (nI p) nums (nI n) bytes = some oi ∧ oi.1 = 0) ∧ ∀ o, pN n t (ctL.getD q 0) (p + 1) 0 (fun _ => 0) = some o → ¬ inR (fiL.getD q 0) 0 (ctL.getD q 0) o.1) ∨ (∃ o, pN n t (ctL.getD q 0) (p + 1) 0 (fun _ => 0) = some o ∧ inR (fiL.getD q 0) 0 (ctL.getD q 0) o.1 ∧ ∃ nm, mX6_readItem (nI p) nums (nI n) bytes = some (1, nI o.2, nm) ∧ ∀ k, k < ctL.getD q 0 → nm k = nI (o.1 k)) := by
  obtain ⟨t1, t2, t3, t4, -⟩ := tab0_s q hq
  have e : mX6_readItem (nI p) nums (nI n) bytes = mX6_readItem_L51 (nI n) bytes FUEL (nI (fiL.getD q 0)) (nI (fiL.getD q 0 + ctL.getD q 0)) (nI (fiL.getD q 0 + 0)) (nI (p + 1)) nums := by
    unfold mX6_readItem
    rw [X8_byteAt_s hB hn (by omega), b_some, if_pos hp, kind_s _ (hB p hp).1, b_some, hk, if_pos (nI_pos' (by omega)), nI_1, nI_1, lb_d, gi_n (by omega) (by omega), lb_d, gi_n (by omega) (by omega), lb_d, n_cl (by omega), n_cl (by omega), t1, t2]
    rfl
  rw [e]
  rcases X6_items hB hn t3 t4 (ctL.getD q 0) 0 FUEL (p + 1) (fun _ => 0) nums (by omega) (by unfold FUEL; omega) (by omega) (fun k hk => absurd hk (by omega)) with ⟨⟨q1, nm, e1⟩, e2⟩ | h
  · exact Or.inl ⟨⟨_, e1, rfl⟩, e2⟩
  · exact Or.inr h
theorem X11_figures_k {n : Nat} {t : Nat → Nat} {bytes text : Nat → Int32} (hB : TB n t bytes text) (hn : n ≤ 500) (told : Nat → Int32) {p cnt : Nat} (hp : p < n) (hc : cnt ≤ 7) {x0 : Int32} (hx : x0 = nI cnt) : (pN n t cnt (p + 1) 0 (fun _ => 0) = none ∧ ∃ q told', mX11_figures x0 (nI n) (nI (p + 1)) text told = some (0, q, told')) ∨ (∃ o, pN n t cnt (p + 1) 0 (fun _ => 0) = some o ∧ ∃ told', mX11_figures x0 (nI n) (nI (p + 1)) text told = some (1, nI o.2, told') ∧ ∀ k, k < cnt → told' k = nI (o.1 k)) := by
  subst hx
  unfold mX11_figures
  exact X11_figures_s hB hn hc cnt 0 FUEL (p + 1) (fun _ => 0) told (by omega) (by unfold FUEL; omega) (by omega) (fun k hk => absurd hk (by omega))
/-- the model's second book -/
def RB1 (a : AT) (roundMany blowMany blows forwards downs takens homes noises judgeMany judges : Nat → Int32) : Prop :=
  roundMany 1 = nI (aR a) ∧ blowMany 1 = nI (aB a) ∧ judgeMany 1 = nI (aJ a) ∧ homes 1 = nI (aH a) ∧ noises 1 = nI (aN a) ∧
  (∀ k, k < 5 * aB a → blows (200 + k) = nI (bl a k)) ∧ (∀ k, k < 7 * aJ a → judges (56 + k) = nI (jd a k)) ∧ (∀ k, k < 24 → forwards (24 + k) = nI (fw a k)) ∧ (∀ k, k < 24 → downs (24 + k) = nI (dn a k)) ∧ (∀ k, k < 24 → takens (24 + k) = nI (tk a k))
abbrev OM : Type := Int32 × Int32 × (Nat → Int32) × (Nat → Int32) × (Nat → Int32) × (Nat → Int32) × (Nat → Int32) × (Nat → Int32) × (Nat → Int32) × (Nat → Int32) × (Nat → Int32) × (Nat → Int32) × (Nat → Int32)
abbrev OT : Type := Int32 × (Nat → Int32) × Int32 × Int32 × (Nat → Int32) × Int32 × Int32 × (Nat → Int32) × (Nat → Int32) × (Nat → Int32) × Int32
def MR0 (a0 : AT) (o : OM) : Prop := RM a0 o.2.2.2.1 o.2.2.2.2.2.2.2.2.2.2.2.2 o.2.2.2.2.2.2.2.2.2.2.2.1 o.2.2.2.2.2.2.2.2.2.1 o.2.2.2.2.1 o.2.2.2.2.2.2.2.2.2.2.1 o.2.2.2.2.2.2.2.1 o.2.2.2.2.2.2.2.2.1 o.2.2.2.2.2.2.1 o.2.2.2.2.2.1
def MR1 (a : AT) (o : OM) : Prop := RB1 a o.2.2.2.1 o.2.2.2.2.2.2.2.2.2.2.2.2 o.2.2.2.2.2.2.2.2.2.2.2.1 o.2.2.2.2.2.2.2.2.2.1 o.2.2.2.2.1 o.2.2.2.2.2.2.2.2.2.2.1 o.2.2.2.2.2.2.2.1 o.2.2.2.2.2.2.2.2.1 o.2.2.2.2.2.2.1 o.2.2.2.2.2.1
def CR1 (a : AT) (o : OT) : Prop := RCr a o.2.2.2.1 o.2.2.2.2.2.1 o.2.2.2.2.2.2.1 o.2.2.2.2.2.2.2.2.2.2 o.2.2.1 o.2.2.2.2.2.2.2.2.2.1 o.2.1 o.2.2.2.2.2.2.2.1 o.2.2.2.2.1 o.2.2.2.2.2.2.2.2.1
def ItemOut (n p : Nat) (a0 : AT) (om : OM) (oi : Int32 × Int32 × (Nat → Int32)) (ta : Option OT) : Prop :=
  MR0 a0 om ∧ ((om.1 = 0 ∧ (oi.1 = 0 ∨ (oi.1 = 1 ∧ ∃ ot : OT, ta = some ot ∧ ot.1 = 0))) ∨ (om.1 = 1 ∧ oi.1 = 1 ∧ ∃ (ot : OT) (a' : AT) (p' : Nat), ta = some ot ∧ ot.1 = 1 ∧ oi.2.1 = nI p' ∧ om.2.1 = nI p' ∧ p < p' ∧ p' ≤ n ∧ OKD a' ∧ CR1 a' ot ∧ MR1 a' om))
def setR (a : AT) (v : Nat) : AT := ((v, aB a, aJ a, aH a, aN a), (bl a, jd a, fw a, dn a, tk a))
def setH (a : AT) (v w : Nat) : AT := ((aR a, aB a, aJ a, v, w), (bl a, jd a, fw a, dn a, tk a))
def setF (a : AT) (i v : Nat) : AT := ((aR a, aB a, aJ a, aH a, aN a), (bl a, jd a, fun k => if k = i then v else fw a k, dn a, tk a))
def setD (a : AT) (i : Nat) : AT := ((aR a, aB a, aJ a, aH a, aN a), (bl a, jd a, fw a, fun k => if k = i then dn a k + 1 else dn a k, tk a))
def setT (a : AT) (i : Nat) : AT := ((aR a, aB a, aJ a, aH a, aN a), (bl a, jd a, fw a, dn a, fun k => if k = i then tk a k + 1 else tk a k))
def addB (a : AT) (g : Nat → Nat) : AT := ((aR a, aB a + 1, aJ a, aH a, aN a), (fun k => if 5 * aB a ≤ k ∧ k < 5 * aB a + 5 then g (k - 5 * aB a) else bl a k, jd a, fw a, dn a, tk a))
def addJ (a : AT) (g : Nat → Nat) : AT := ((aR a, aB a, aJ a + 1, aH a, aN a), (bl a, fun k => if 7 * aJ a ≤ k ∧ k < 7 * aJ a + 7 then g (k - 7 * aJ a) else jd a k, fw a, dn a, tk a))
theorem item_r {n : Nat} {t : Nat → Nat} {bytes text : Nat → Int32} (hB : TB n t bytes text) (hn : n ≤ 500) {a0 a : AT} (h0 : OKD a0) (hA : OKD a) {rounds home noise bc jc : Int32} {cbl cjd cfw cdn ctk : Nat → Int32} (hC : RCr a rounds home noise bc jc cbl cjd cfw cdn ctk) {bm bls dns fws hms jm jds nss rm tks : Nat → Int32} (hM : RM a0 rm bm bls fws dns tks hms nss jm jds) (h1 : RB1 a rm bm bls fws dns tks hms nss jm jds) (told nums : Nat → Int32) {p : Nat} (hp : p < n) (ht : t p = 114) : ∃ (om : OM) (oi : Int32 × Int32 × (Nat → Int32)), mX11_item (nI n) (nI p) bm bls dns fws hms jm jds nss rm tks text told = some om ∧ mX6_readItem (nI p) nums (nI n) bytes = some oi ∧ ItemOut n p a0 om oi (mX3_take (nI (t p)) rounds home noise bc jc cbl cdn cfw cjd ctk oi.2.2) := by
  have hc := X6_readItem_k hB hn nums hp (q := 0) (by omega) (by rw [ht]; rfl)
  have hf := X11_figures_k hB hn told hp (cnt := 1) (by omega) (x0 := 1) rfl
  change ((∃ oi, mX6_readItem (nI p) nums (nI n) bytes = some oi ∧ oi.1 = 0) ∧ ∀ o, pN n t 1 (p + 1) 0 (fun _ => 0) = some o → ¬ inR 0 0 1 o.1) ∨ (∃ o, pN n t 1 (p + 1) 0 (fun _ => 0) = some o ∧ inR 0 0 1 o.1 ∧ ∃ nm, mX6_readItem (nI p) nums (nI n) bytes = some (1, nI o.2, nm) ∧ ∀ k, k < 1 → nm k = nI (o.1 k)) at hc
  have hP := fun o h => pN_bd (n := n) (t := t) 1 (p + 1) 0 (fun _ => 0) o h
  unfold mX11_item
  rw [X11_byteAt_s hB hn (by omega), b_some, if_pos hp, ht, nI_1, lb_d, if_neg (by decide), if_neg (by decide), if_neg (by decide), if_neg (by decide), if_neg (by decide), if_neg (by decide), if_pos (by decide)]
  rcases hf with ⟨f1, q, told', f2⟩ | ⟨o, f1, told', f2, f3⟩
  · rw [f2, b_some, if_pos rfl]
    rcases hc with ⟨⟨oi, c1, c2⟩, -⟩ | ⟨o, c1, -⟩
    · exact ⟨_, oi, rfl, c1, hM, Or.inl ⟨rfl, Or.inl c2⟩⟩
    · rw [f1] at c1
      cases c1
  · rw [f2, b_some, if_neg (show ¬ (1 : Int32) = 0 by decide), in_wl 1 12 (by decide) (by decide), wi_bind]
    have g0 : told' (0 : Int32).toNatClampNeg = nI (o.1 0) := f3 0 (by omega)
    obtain ⟨p1, p2, p3, p4⟩ := hP o f1
    have v0 := p2 0 (by omega) (by omega)
    simp only []
    rw [g0]
    have er : ((1 : Int32) ≤ nI (o.1 0) ∧ nI (o.1 0) ≤ (12 : Int32)) ↔ (1 ≤ o.1 0 ∧ o.1 0 ≤ 12) := by rw [n_lit 1, n_lit 12, n_le (by omega) (by omega), n_le (by omega) (by omega)]
    rcases hc with ⟨⟨oi, c1, c2⟩, c3⟩ | ⟨o', c1, c2, nm, c3, c4⟩
    · have hno : ¬ (1 ≤ o.1 0 ∧ o.1 0 ≤ 12) := fun hh => c3 o f1 (fun j _ h2 => by have hj : j = 0 := by omega
                                                                                   subst hj
                                                                                   exact hh)
      rw [if_neg (fun hh => hno (er.mp hh))]
      exact ⟨_, oi, rfl, c1, hM, Or.inl ⟨rfl, Or.inl c2⟩⟩
    · rw [f1] at c1
      have hoo := Option.some.inj c1
      subst hoo
      have hr : 1 ≤ o.1 0 ∧ o.1 0 ≤ 12 := c2 0 (by omega) (by omega)
      rw [if_pos (er.mpr hr), lb_d]
      refine ⟨_, _, rfl, c3, ⟨hM.1, hM.2⟩, Or.inr ⟨rfl, rfl, (1, cjd, jc, nI (o.1 0), cdn, home, noise, cfw, ctk, cbl, bc), setR a (o.1 0), o.2, ?_, rfl, rfl, rfl, by have := (p4 (by omega)).1; omega, (p4 (by omega)).2, ⟨hr, hA.2⟩, ⟨rfl, hC.2⟩, ⟨rfl, h1.2⟩⟩⟩
      unfold mX3_take
      rw [if_neg (by decide), if_neg (by decide), if_neg (by decide), if_neg (by decide), if_neg (by decide), if_pos (by decide), lb_d]
      show some (1, cjd, jc, nm 0, cdn, home, noise, cfw, ctk, cbl, bc) = _
      rw [c4 0 (by omega)]
