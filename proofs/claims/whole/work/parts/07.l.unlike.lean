/-! API L: unlike -/
theorem srt_cnt {rv : Nat → Int} (u : Int) : ∀ c, srt rv c → ∃ n : Nat, n ≤ c ∧ sZ (fun k => if rv k ≤ u then 1 else 0) 0 c = n ∧ (∀ k, k < n → rv k ≤ u) ∧ (∀ k, n ≤ k → k < c → u < rv k) := by
  intro c
  induction c with
  | zero => intro _; exact ⟨0, by omega, rfl, fun k hk => absurd hk (by omega), fun k _ hk => absurd hk (by omega)⟩
  | succ c ih =>
    intro hs
    obtain ⟨n, h1, h2, h3, h4⟩ := ih (fun a b hab hb => hs a b hab (by omega))
    rw [sZ_last, h2, Nat.zero_add]
    by_cases c1 : rv c ≤ u
    · have e : n = c := by
        by_cases c2 : n = c
        · exact c2
        · have := h4 n (by omega) (by omega)
          have := hs n c (by omega) (by omega)
          omega
      refine ⟨c + 1, by omega, by rw [if_pos c1, e]; omega, fun k hk => ?_, fun k hk hk2 => by omega⟩
      have := hs k c (by omega) (by omega)
      omega
    · refine ⟨n, by omega, by rw [if_neg c1]; omega, h3, fun k hk hk2 => ?_⟩
      by_cases c2 : k = c
      · rw [c2]; omega
      · exact h4 k hk (by omega)
theorem srt_mid {rv : Nat → Int} {c q : Nat} (hs : srt rv c) (hq : q < c) (u : Int) : ((q : Int) < sZ (fun k => if rv k ≤ u then 1 else 0) 0 c) ↔ rv q ≤ u := by
  obtain ⟨n, h1, h2, h3, h4⟩ := srt_cnt u c hs
  rw [h2]
  constructor
  · intro hh; exact h3 q (by omega)
  · intro hh
    by_cases c1 : q < n
    · omega
    · have := h4 q (by omega) hq; omega
theorem sZ_plus {f g e : Nat → Int} (h : ∀ k, e k = f k + g k) : ∀ d i, sZ e i d = sZ f i d + sZ g i d := by
  intro d
  induction d with
  | zero => intro i; rfl
  | succ d ih =>
    intro i
    show e i + sZ e (i + 1) d = (f i + sZ f (i + 1) d) + (g i + sZ g (i + 1) d)
    rw [ih, h]
    omega
theorem X11_mid72_s {tv : Nat → Int} {m mt : Nat → Int32} (h : okT tv m mt) {p t : Nat} (hp : p ≤ 5) (ht : t < 24) {v : Int} (hv : -20 ≤ v ∧ v ≤ 30) (k59 : Int32 → Int32 → Int32 → Option Int32) (l3 : Int32) : ∀ (d i n : Nat) (a : Int), i + d = 6 → d < n → mX11_middle_L72 (nI p) (nI t) mt k59 n l3 (iI v) (iI a) (nI i) = k59 l3 (iI (v + 1)) (iI (a + sZ (oT (fun z => if z = v then 1 else 0) tv p t) i d)) := by
  intro d
  induction d with
  | zero =>
    intro i n a hi hn
    obtain ⟨n, rfl⟩ : ∃ q, n = q + 1 := ⟨n - 1, by omega⟩
    rw [eX11_middle_72]
    unfold mX11_middle_B72
    rw [n_lit 6, if_pos ((n_le (by omega) (by omega)).mpr (by omega)), show ∀ g, a + sZ g i 0 = a from fun g => Int.add_zero a, lb_d, show (1 : Int32) = iI 1 from by decide, iI_add]
  | succ d ih =>
    intro i n a hi hn
    obtain ⟨n, rfl⟩ : ∃ q, n = q + 1 := ⟨n - 1, by omega⟩
    have z1 := (h (24 * i + t) (by omega)).1
    rw [eX11_middle_72]
    unfold mX11_middle_B72
    rw [n_lit 6, if_neg (fun hh => absurd ((n_le (by omega) (by omega)).mp hh) (by omega)), show ∀ g, sZ g i (d + 1) = g i + sZ g (i + 1) d from fun _ => rfl, ← Int.add_assoc]
    have e1 : nI i + (1 : Int32) = nI (i + 1) := by rw [n_lit 1, n_add]
    have e0 : iI a + (0 : Int32) = iI (a + 0) := by rw [show (0 : Int32) = iI 0 from by decide, iI_add]
    have e2 : iI a + (1 : Int32) = iI (a + 1) := by rw [show (1 : Int32) = iI 1 from by decide, iI_add]
    by_cases c1 : i = p
    · rw [if_pos (by rw [c1]), lb_d, lb_d, e1, e0]
      have e : oT (fun z => if z = v then 1 else 0) tv p t i = 0 := by unfold oT; rw [if_pos (Or.inl c1)]
      rw [e]
      exact ih (i + 1) n (a + 0) (by omega) (by omega)
    · rw [if_neg (fun hh => c1 ((n_eq (by omega) (by omega)).mp hh)), X11_toldOf_s h (by omega) ht, b_some]
      by_cases c2 : tv (24 * i + t) = v
      · rw [if_pos (by rw [c2]), lb_d, lb_d, e1, e2]
        have e : oT (fun z => if z = v then 1 else 0) tv p t i = 1 := by unfold oT; rw [if_neg (by omega)]; exact if_pos c2
        rw [e]
        exact ih (i + 1) n (a + 1) (by omega) (by omega)
      · rw [if_neg (fun hh => c2 ((iI_eq (by omega) (by omega) (by omega) (by omega)).mp hh)), lb_d, lb_d, e1, e0]
        have e : oT (fun z => if z = v then 1 else 0) tv p t i = 0 := by
          unfold oT
          split
          · rfl
          · exact if_neg c2
        rw [e]
        exact ih (i + 1) n (a + 0) (by omega) (by omega)
theorem X11_mid59_s {tv : Nat → Int} {m mt : Nat → Int32} (h : okT tv m mt) {p t : Nat} (hp : p ≤ 5) (ht : t < 24) {c : Nat} (hc : 2 ≤ c ∧ c ≤ 6) {rv : Nat → Int} (hs : srt rv c) (hr : ∀ k, k < c → -20 ≤ rv k ∧ rv k ≤ 20) (hG : ∀ G : Int → Int, sZ (fun k => G (rv k)) 0 c = sZ (oT G tv p t) 0 6) : ∀ (d n : Nat) (v : Int), v + d = rv ((c - 1) / 2) + 1 → -20 ≤ v → d < n → mX11_middle_L59 (nI p) (nI t) mt n (nI c) (iI v) (iI (sZ (oT (fun z => if z ≤ v - 1 then 1 else 0) tv p t) 0 6)) = some (iI (rv ((c - 1) / 2))) := by
  have hq : (c - 1) / 2 < c := by omega
  have hr' := hr _ hq
  have eq : (nI c - 1) / 2 = iI (((c - 1) / 2 : Nat) : Int) := by
    rcases (show c = 2 ∨ c = 3 ∨ c = 4 ∨ c = 5 ∨ c = 6 by omega) with rfl | rfl | rfl | rfl | rfl <;> decide
  have cb : ∀ u : Int, 0 ≤ sZ (oT (fun z => if z ≤ u then 1 else 0) tv p t) 0 6 ∧ sZ (oT (fun z => if z ≤ u then 1 else 0) tv p t) 0 6 ≤ 6 := by
    intro u
    have h8 := hG (fun z => if z ≤ u then 1 else 0)
    obtain ⟨n, h1, h2, -, -⟩ := srt_cnt u c hs
    rw [← h8, h2]
    omega
  intro d
  induction d with
  | zero =>
    intro n v h1 h2 hn
    obtain ⟨n, rfl⟩ : ∃ q, n = q + 1 := ⟨n - 1, by omega⟩
    have b := cb (v - 1)
    have k := (srt_mid hs hq (v - 1)).mpr (by omega)
    have k' := hG (fun z => if z ≤ v - 1 then 1 else 0)
    rw [eX11_middle_59]
    unfold mX11_middle_B59
    rw [eq, if_pos ((iI_lt (by omega) (by omega) (by omega) (by omega)).mpr (by rw [← k']; exact k)), lb_d, show (1 : Int32) = iI 1 from by decide, iI_sub, show v - 1 = rv ((c - 1) / 2) by omega]
  | succ d ih =>
    intro n v h1 h2 hn
    obtain ⟨n, rfl⟩ : ∃ q, n = q + 1 := ⟨n - 1, by omega⟩
    have b := cb (v - 1)
    have k' := hG (fun z => if z ≤ v - 1 then 1 else 0)
    rw [eX11_middle_59]
    unfold mX11_middle_B59
    rw [eq, if_neg (fun hh => by
      have h9 := (iI_lt (by omega) (by omega) (by omega) (by omega)).mp hh
      rw [← k'] at h9
      have := (srt_mid hs hq (v - 1)).mp h9
      omega)]
    have y := X11_mid72_s h hp ht (v := v) (by omega) (mX11_middle_L59 (nI p) (nI t) mt n) (nI c) 6 0 FUEL (sZ (oT (fun z => if z ≤ v - 1 then 1 else 0) tv p t) 0 6) (by omega) (by unfold FUEL; omega)
    refine (show _ = _ from y).trans ?_
    rw [← sZ_plus (e := oT (fun z => if z ≤ v + 1 - 1 then 1 else 0) tv p t) (fun k => by
      unfold oT
      by_cases c1 : k = p ∨ tv (24 * k + t) = -21
      · rw [if_pos c1, if_pos c1, if_pos c1]; rfl
      · rw [if_neg c1, if_neg c1, if_neg c1]
        show (if tv (24 * k + t) ≤ v + 1 - 1 then (1 : Int) else 0) = (if tv (24 * k + t) ≤ v - 1 then (1 : Int) else 0) + (if tv (24 * k + t) = v then (1 : Int) else 0)
        by_cases c2 : tv (24 * k + t) ≤ v - 1
        · rw [if_pos c2, if_pos (show tv (24 * k + t) ≤ v + 1 - 1 by omega), if_neg (show ¬ tv (24 * k + t) = v by omega)]; rfl
        · rw [if_neg c2]
          by_cases c3 : tv (24 * k + t) = v
          · rw [if_pos (show tv (24 * k + t) ≤ v + 1 - 1 by omega), if_pos c3]; rfl
          · rw [if_neg (show ¬ tv (24 * k + t) ≤ v + 1 - 1 by omega), if_neg c3]; rfl)]
    exact ih n (v + 1) (by omega) (by omega) (by omega)
theorem X11_mid5_s {tv : Nat → Int} {m mt : Nat → Int32} (h : okT tv m mt) {p t : Nat} (hp : p ≤ 5) (ht : t < 24) : ∀ (d i n : Nat) (c : Int), i + d = 6 → d < n → mX11_middle_L5 (nI p) (nI t) mt n (iI c) (nI i) = (if 2 ≤ iI (c + sZ (oT (fun _ => 1) tv p t) i d) then (mX11_middle_L59 (nI p) (nI t) mt FUEL (iI (c + sZ (oT (fun _ => 1) tv p t) i d)) (-20) 0) else (some (-21))) := by
  intro d
  induction d with
  | zero =>
    intro i n c hi hn
    obtain ⟨n, rfl⟩ : ∃ q, n = q + 1 := ⟨n - 1, by omega⟩
    rw [eX11_middle_5]
    unfold mX11_middle_B5
    rw [n_lit 6, if_pos ((n_le (by omega) (by omega)).mpr (by omega)), show ∀ g, c + sZ g i 0 = c from fun g => Int.add_zero c]
  | succ d ih =>
    intro i n c hi hn
    obtain ⟨n, rfl⟩ : ∃ q, n = q + 1 := ⟨n - 1, by omega⟩
    have z1 := (h (24 * i + t) (by omega)).1
    rw [eX11_middle_5]
    unfold mX11_middle_B5
    rw [n_lit 6, if_neg (fun hh => absurd ((n_le (by omega) (by omega)).mp hh) (by omega)), show ∀ g, sZ g i (d + 1) = g i + sZ g (i + 1) d from fun _ => rfl, ← Int.add_assoc]
    have e1 : nI i + (1 : Int32) = nI (i + 1) := by rw [n_lit 1, n_add]
    have e0 : iI c + (0 : Int32) = iI (c + 0) := by rw [show (0 : Int32) = iI 0 from by decide, iI_add]
    have e2 : iI c + (1 : Int32) = iI (c + 1) := by rw [show (1 : Int32) = iI 1 from by decide, iI_add]
    by_cases c1 : i = p
    · rw [if_pos (by rw [c1]), lb_d, lb_d, e1, e0]
      have e : oT (fun _ => 1) tv p t i = 0 := by unfold oT; rw [if_pos (Or.inl c1)]
      rw [e]
      exact ih (i + 1) n (c + 0) (by omega) (by omega)
    · rw [if_neg (fun hh => c1 ((n_eq (by omega) (by omega)).mp hh)), X11_toldOf_s h (by omega) ht, b_some, i_m21]
      by_cases c2 : tv (24 * i + t) = -21
      · rw [if_pos ((iI_le (by omega) (by omega) (by omega) (by omega)).mpr (by omega)), lb_d, lb_d, e1, e0]
        have e : oT (fun _ => 1) tv p t i = 0 := by unfold oT; rw [if_pos (Or.inr c2)]
        rw [e]
        exact ih (i + 1) n (c + 0) (by omega) (by omega)
      · rw [if_neg (fun hh => absurd ((iI_le (by omega) (by omega) (by omega) (by omega)).mp hh) (by omega)), lb_d, lb_d, e1, e2]
        have e : oT (fun _ => 1) tv p t i = 1 := by unfold oT; rw [if_neg (by omega)]
        rw [e]
        exact ih (i + 1) n (c + 1) (by omega) (by omega)
theorem X11_middle_s {tv : Nat → Int} {m mt : Nat → Int32} (h : okT tv m mt) {p t : Nat} (hp : p ≤ 5) (ht : t < 24) {c : Nat} (hc : c ≤ 6) {rv : Nat → Int} (hs : srt rv c) (hr : ∀ k, k < c → -20 ≤ rv k ∧ rv k ≤ 20) (hG : ∀ G : Int → Int, sZ (fun k => G (rv k)) 0 c = sZ (oT G tv p t) 0 6) : mX11_middle (nI p) (nI t) mt = some (if c < 2 then iI (-21) else iI (rv ((c - 1) / 2))) := by
  have y := X11_mid5_s h hp ht 6 0 FUEL 0 (by omega) (by unfold FUEL; omega)
  have k := hG (fun _ => 1)
  rw [sZ_one] at k
  rw [← k, Int.zero_add, ← nI_iI] at y
  unfold mX11_middle
  refine (show _ = _ from y).trans ?_
  by_cases c1 : c < 2
  · rw [if_pos c1, n_lit 2, if_neg (fun hh => absurd ((n_le (by omega) (by omega)).mp hh) (by omega)), i_m21]
  · rw [if_neg c1, n_lit 2, if_pos ((n_le (by omega) (by omega)).mpr (by omega))]
    have hr' := hr ((c - 1) / 2) (by omega)
    have z := X11_mid59_s h hp ht (c := c) (by omega) hs hr hG (rv ((c - 1) / 2) + 21).toNat FUEL (-20) (by omega) (by omega) (by unfold FUEL; omega)
    have e : sZ (oT (fun z => if z ≤ -20 - 1 then 1 else 0) tv p t) 0 6 = 0 := by
      rw [← hG (fun z => if z ≤ -20 - 1 then 1 else 0)]
      obtain ⟨n, h1, h2, h3, -⟩ := srt_cnt (-20 - 1) c hs
      rw [h2]
      by_cases c2 : n = 0
      · rw [c2]; rfl
      · have := h3 0 (by omega)
        have := hr 0 (by omega)
        omega
    rw [e] at z
    exact z
