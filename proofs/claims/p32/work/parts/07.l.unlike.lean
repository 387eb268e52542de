/-! API L: unlike -/
theorem srt_cnt {rv : Nat → Int} (u : Int) : ∀ c, srt rv c → ∃ n : Nat, n ≤ c ∧ sZ (fun k => if rv k ≤ u then 1 else 0) 0 c = n ∧ (∀ k, k < n → rv k ≤ u) ∧ (∀ k, n ≤ k → k < c → u < rv k) := by
  intro c
  induction c with
  | zero => intro _; exact ⟨0, by omega, rfl, fun k hk => absurd hk (by omega), fun k _ hk => absurd hk (by omega)⟩
  | succ c ih =>
    intro hs
    obtain ⟨n, h1, h2, h3, h4⟩ := ih (fun a b hab hb => hs a b hab (by omega))
    rw [sZ_last, h2, Nat.zero_add]
    by_cases c1 : rv c ≤ u
    · have e : n = c := by
        by_cases c2 : n = c
        · exact c2
        · have := h4 n (by omega) (by omega)
          have := hs n c (by omega) (by omega)
          omega
      refine ⟨c + 1, by omega, by rw [if_pos c1, e]; omega, fun k hk => ?_, fun k hk hk2 => by omega⟩
      have := hs k c (by omega) (by omega)
      omega
    · refine ⟨n, by omega, by rw [if_neg c1]; omega, h3, fun k hk hk2 => ?_⟩
      by_cases c2 : k = c
      · rw [c2]; omega
      · exact h4 k hk (by omega)
theorem srt_mid {rv : Nat → Int} {c q : Nat} (hs : srt rv c) (hq : q < c) (u : Int) : ((q : Int) < sZ (fun k => if rv k ≤ u then 1 else 0) 0 c) ↔ rv q ≤ u := by
  obtain ⟨n, h1, h2, h3, h4⟩ := srt_cnt u c hs
  rw [h2]
  constructor
  · intro hh; exact h3 q (by omega)
  · intro hh
    by_cases c1 : q < n
    · omega
    · have := h4 q (by omega) hq; omega
theorem sZ_plus {f g e : Nat → Int} (h : ∀ k, e k = f k + g k) : ∀ d i, sZ e i d = sZ f i d + sZ g i d := by
  intro d
  induction d with
  | zero => intro i; rfl
  | succ d ih =>
    intro i
    show e i + sZ e (i + 1) d = (f i + sZ f (i + 1) d) + (g i + sZ g (i + 1) d)
    rw [ih, h]
    omega
theorem X11_mid72_s {tv : Nat → Int} {m mt : Nat → Int32} (h : okT tv m mt) {p t : Nat} (hp : p ≤ 5) (ht : t < 24) {v : Int} (hv : -20 ≤ v ∧ v ≤ 30) (k59 : Int32 → Int32 → Int32 → Option Int32) (l3 : Int32) : ∀ (d i n : Nat) (a : Int), i + d = 6 → d < n → mX11_middle_L72 (nI p) (nI t) mt k59 n l3 (iI v) (iI a) (nI i) = k59 l3 (iI (v + 1)) (iI (a + sZ (oT (fun z => if z = v then 1 else 0) tv p t) i d)) := by
  intro d
  induction d with
  | zero =>
    intro i n a hi hn
    obtain ⟨n, rfl⟩ : ∃ q, n = q + 1 := ⟨n - 1, by omega⟩
    rw [eX11_middle_72]
    unfold mX11_middle_B72
    rw [n_lit 6, if_pos ((n_le (by omega) (by omega)).mpr (by omega)), show ∀ g, a + sZ g i 0 = a from fun g => Int.add_zero a, lb_d, show (1 : Int32) = iI 1 from by decide, iI_add]
  | succ d ih =>
    intro i n a hi hn
    obtain ⟨n, rfl⟩ : ∃ q, n = q + 1 := ⟨n - 1, by omega⟩
    have z1 := (h (24 * i + t) (by omega)).1
    rw [eX11_middle_72]
    unfold mX11_middle_B72
    rw [n_lit 6, if_neg (fun hh => absurd ((n_le (by omega) (by omega)).mp hh) (by omega)), show ∀ g, sZ g i (d + 1) = g i + sZ g (i + 1) d from fun _ => rfl, ← Int.add_assoc]
    have e1 : nI i + (1 : Int32) = nI (i + 1) := by rw [n_lit 1, n_add]
    have e0 : iI a + (0 : Int32) = iI (a + 0) := by rw [show (0 : Int32) = iI 0 from by decide, iI_add]
    have e2 : iI a + (1 : Int32) = iI (a + 1) := by rw [show (1 : Int32) = iI 1 from by decide, iI_add]
    by_cases c1 : i = p
    · rw [if_pos (by rw [c1]), lb_d, lb_d, e1, e0]
      have e : oT (fun z => if z = v then 1 else 0) tv p t i = 0 := by unfold oT; rw [if_pos (Or.inl c1)]
      rw [e]
      exact ih (i + 1) n (a + 0) (by omega) (by omega)
    · rw [if_neg (fun hh => c1 ((n_eq (by omega) (by omega)).mp hh)), X11_toldOf_s h (by omega) ht, b_some]
      by_cases c2 : tv (24 * i + t) = v
      · rw [if_pos (by rw [c2]), lb_d, lb_d, e1, e2]
        have e : oT (fun z => if z = v then 1 else 0) tv p t i = 1 := by unfold oT; rw [if_neg (by omega)]; exact if_pos c2
        rw [e]
        exact ih (i + 1) n (a + 1) (by omega) (by omega)
      · rw [if_neg (fun hh => c2 ((iI_eq (by omega) (by omega) (by omega) (by omega)).mp hh)), lb_d, lb_d, e1, e0]
        have e : oT (fun z => if z = v then 1 else 0) tv p t i = 0 := by
          unfold oT
          split
          · rfl
          · exact if_neg c2
        rw [e]
        exact ih (i + 1) n (a + 0) (by omega) (by omega)
theorem X11_mid59_s {tv : Nat → Int} {m mt : Nat → Int32} (h : okT tv m mt) {p t : Nat} (hp : p ≤ 5) (ht : t < 24) {c : Nat} (hc : 2 ≤ c ∧ c ≤ 6) {rv : Nat → Int} (hs : srt rv c) (hr : ∀ k, k < c → -20 ≤ rv k ∧ rv k ≤ 20) (hG : ∀ G : Int → Int, sZ (fun k => G (rv k)) 0 c = sZ (oT G tv p t) 0 6) : ∀ (d n : Nat) (v : Int), v + d = rv ((c - 1) / 2) + 1 → -20 ≤ v → d < n → mX11_middle_L59 (nI p) (nI t) mt n (nI c) (iI v) (iI (sZ (oT (fun z => if z ≤ v - 1 then 1 else 0) tv p t) 0 6)) = some (iI (rv ((c - 1) / 2))) := by
  have hq : (c - 1) / 2 < c := by omega
  have hr' := hr _ hq
  have eq : (nI c - 1) / 2 = iI (((c - 1) / 2 : Nat) : Int) := by
    rcases (show c = 2 ∨ c = 3 ∨ c = 4 ∨ c = 5 ∨ c = 6 by omega) with rfl | rfl | rfl | rfl | rfl <;> decide
  have cb : ∀ u : Int, 0 ≤ sZ (oT (fun z => if z ≤ u then 1 else 0) tv p t) 0 6 ∧ sZ (oT (fun z => if z ≤ u then 1 else 0) tv p t) 0 6 ≤ 6 := by
    intro u
    have h8 := hG (fun z => if z ≤ u then 1 else 0)
    obtain ⟨n, h1, h2, -, -⟩ := srt_cnt u c hs
    rw [← h8, h2]
    omega
  intro d
  induction d with
  | zero =>
    intro n v h1 h2 hn
    obtain ⟨n, rfl⟩ : ∃ q, n = q + 1 := ⟨n - 1, by omega⟩
    have b := cb (v - 1)
    have k := (srt_mid hs hq (v - 1)).mpr (by omega)
    have k' := hG (fun z => if z ≤ v - 1 then 1 else 0)
    rw [eX11_middle_59]
    unfold mX11_middle_B59
    rw [eq, if_pos ((iI_lt (by omega) (by omega) (by omega) (by omega)).mpr (by rw [← k']; exact k)), lb_d, show (1 : Int32) = iI 1 from by decide, iI_sub, show v - 1 = rv ((c - 1) / 2) by omega]
  | succ d ih =>
    intro n v h1 h2 hn
    obtain ⟨n, rfl⟩ : ∃ q, n = q + 1 := ⟨n - 1, by omega⟩
    have b := cb (v - 1)
    have k' := hG (fun z => if z ≤ v - 1 then 1 else 0)
    rw [eX11_middle_59]
    unfold mX11_middle_B59
    rw [eq, if_neg (fun hh => by
      have h9 := (iI_lt (by omega) (by omega) (by omega) (by omega)).mp hh
      rw [← k'] at h9
      have := (srt_mid hs hq (v - 1)).mp h9
      omega)]
    have y := X11_mid72_s h hp ht (v := v) (by omega) (mX11_middle_L59 (nI p) (nI t) mt n) (nI c) 6 0 FUEL (sZ (oT (fun z => if z ≤ v - 1 then 1 else 0) tv p t) 0 6) (by omega) (by unfold FUEL; omega)
    refine (show _ = _ from y).trans ?_
    rw [← sZ_plus (e := oT (fun z => if z ≤ v + 1 - 1 then 1 else 0) tv p t) (fun k => by
      unfold oT
      by_cases c1 : k = p ∨ tv (24 * k + t) = -21
      · rw [if_pos c1, if_pos c1, if_pos c1]; rfl
      · rw [if_neg c1, if_neg c1, if_neg c1]
        show (if tv (24 * k + t) ≤ v + 1 - 1 then (1 : Int) else 0) = (if tv (24 * k + t) ≤ v - 1 then (1 : Int) else 0) + (if tv (24 * k + t) = v then (1 : Int) else 0)
        by_cases c2 : tv (24 * k + t) ≤ v - 1
        · rw [if_pos c2, if_pos (show tv (24 * k + t) ≤ v + 1 - 1 by omega), if_neg (show ¬ tv (24 * k + t) = v by omega)]; rfl
        · rw [if_neg c2]
          by_cases c3 : tv (24 * k + t) = v
          · rw [if_pos (show tv (24 * k + t) ≤ v + 1 - 1 by omega), if_pos c3]; rfl
          · rw [if_neg (show ¬ tv (24 * k + t) ≤ v + 1 - 1 by omega), if_neg c3]; rfl)]
    exact ih n (v + 1) (by omega) (by omega) (by omega)
theorem X11_mid5_s {tv : Nat → Int} {m mt : Nat → Int32} (h : okT tv m mt) {p t : Nat} (hp : p ≤ 5) (ht : t < 24) : ∀ (d i n : Nat) (c : Int), i + d = 6 → d < n → mX11_middle_L5 (nI p) (nI t) mt n (iI c) (nI i) = (if 2 ≤ iI (c + sZ (oT (fun _ => 1) tv p t) i d) then (mX11_middle_L59 (nI p) (nI t) mt FUEL (iI (c + sZ (oT (fun _ => 1) tv p t) i d)) (-20) 0) else (some (-21))) := by
  intro d
  induction d with
  | zero =>
    intro i n c hi hn
    obtain ⟨n, rfl⟩ : ∃ q, n = q + 1 := ⟨n - 1, by omega⟩
    rw [eX11_middle_5]
    unfold mX11_middle_B5
    rw [n_lit 6, if_pos ((n_le (by omega) (by omega)).mpr (by omega)), show ∀ g, c + sZ g i 0 = c from fun g => Int.add_zero c]
  | succ d ih =>
    intro i n c hi hn
    obtain ⟨n, rfl⟩ : ∃ q, n = q + 1 := ⟨n - 1, by omega⟩
    have z1 := (h (24 * i + t) (by omega)).1
    rw [eX11_middle_5]
    unfold mX11_middle_B5
    rw [n_lit 6, if_neg (fun hh => absurd ((n_le (by omega) (by omega)).mp hh) (by omega)), show ∀ g, sZ g i (d + 1) = g i + sZ g (i + 1) d from fun _ => rfl, ← Int.add_assoc]
    have e1 : nI i + (1 : Int32) = nI (i + 1) := by rw [n_lit 1, n_add]
    have e0 : iI c + (0 : Int32) = iI (c + 0) := by rw [show (0 : Int32) = iI 0 from by decide, iI_add]
    have e2 : iI c + (1 : Int32) = iI (c + 1) := by rw [show (1 : Int32) = iI 1 from by decide, iI_add]
    by_cases c1 : i = p
    · rw [if_pos (by rw [c1]), lb_d, lb_d, e1, e0]
      have e : oT (fun _ => 1) tv p t i = 0 := by unfold oT; rw [if_pos (Or.inl c1)]
      rw [e]
      exact ih (i + 1) n (c + 0) (by omega) (by omega)
    · rw [if_neg (fun hh => c1 ((n_eq (by omega) (by omega)).mp hh)), X11_toldOf_s h (by omega) ht, b_some, i_m21]
      by_cases c2 : tv (24 * i + t) = -21
      · rw [if_pos ((iI_le (by omega) (by omega) (by omega) (by omega)).mpr (by omega)), lb_d, lb_d, e1, e0]
        have e : oT (fun _ => 1) tv p t i = 0 := by unfold oT; rw [if_pos (Or.inr c2)]
        rw [e]
        exact ih (i + 1) n (c + 0) (by omega) (by omega)
      · rw [if_neg (fun hh => absurd ((iI_le (by omega) (by omega) (by omega) (by omega)).mp hh) (by omega)), lb_d, lb_d, e1, e2]
        have e : oT (fun _ => 1) tv p t i = 1 := by unfold oT; rw [if_neg (by omega)]
        rw [e]
        exact ih (i + 1) n (c + 1) (by omega) (by omega)
theorem X11_middle_s {tv : Nat → Int} {m mt : Nat → Int32} (h : okT tv m mt) {p t : Nat} (hp : p ≤ 5) (ht : t < 24) {c : Nat} (hc : c ≤ 6) {rv : Nat → Int} (hs : srt rv c) (hr : ∀ k, k < c → -20 ≤ rv k ∧ rv k ≤ 20) (hG : ∀ G : Int → Int, sZ (fun k => G (rv k)) 0 c = sZ (oT G tv p t) 0 6) : mX11_middle (nI p) (nI t) mt = some (if c < 2 then iI (-21) else iI (rv ((c - 1) / 2))) := by
  have y := X11_mid5_s h hp ht 6 0 FUEL 0 (by omega) (by unfold FUEL; omega)
  have k := hG (fun _ => 1)
  rw [sZ_one] at k
  rw [← k, Int.zero_add, ← nI_iI] at y
  unfold mX11_middle
  refine (show _ = _ from y).trans ?_
  by_cases c1 : c < 2
  · rw [if_pos c1, n_lit 2, if_neg (fun hh => absurd ((n_le (by omega) (by omega)).mp hh) (by omega)), i_m21]
  · rw [if_neg c1, n_lit 2, if_pos ((n_le (by omega) (by omega)).mpr (by omega))]
    have hr' := hr ((c - 1) / 2) (by omega)
    have z := X11_mid59_s h hp ht (c := c) (by omega) hs hr hG (rv ((c - 1) / 2) + 21).toNat FUEL (-20) (by omega) (by omega) (by unfold FUEL; omega)
    have e : sZ (oT (fun z => if z ≤ -20 - 1 then 1 else 0) tv p t) 0 6 = 0 := by
      rw [← hG (fun z => if z ≤ -20 - 1 then 1 else 0)]
      obtain ⟨n, h1, h2, h3, -⟩ := srt_cnt (-20 - 1) c hs
      rw [h2]
      by_cases c2 : n = 0
      · rw [c2]; rfl
      · have := h3 0 (by omega)
        have := hr 0 (by omega)
        omega
    rw [e] at z
    exact z
def bestU (l2 lc lm : Int32) : Prop := (l2 = -4 ∧ lc = -1 ∧ lm = 0) ∨ (∃ b w : Nat, b < 24 ∧ w ≤ 41 ∧ l2 = nI b ∧ lc = nI w ∧ lm = nI w)
theorem unlike_s {tv : Nat → Int} {m mt : Nat → Int32} (h : okT tv m mt) {p : Nat} (hp : p ≤ 5) : ∀ (d i n n' : Nat) (l2 lc lm c0 : Int32) (f0 : Nat → Int32), i + d = 24 → d < n → d < n' → bestU l2 lc lm → ∃ (oc : Int32 × Int32 × (Nat → Int32)) (om : Int32), mX9_farthestNight_L8 (nI p) m n l2 lc (nI i) c0 f0 = some oc ∧ mX11_unlike_L17 (nI p) mt n' l2 lm (nI i) = some om ∧ oc.1 = om := by
  intro d
  induction d with
  | zero =>
    intro i n n' l2 lc lm c0 f0 hi hn hn' hb
    obtain ⟨n, rfl⟩ : ∃ q, n = q + 1 := ⟨n - 1, by omega⟩
    obtain ⟨n', rfl⟩ : ∃ q, n' = q + 1 := ⟨n' - 1, by omega⟩
    rw [eX9_farthestNight_8, eX11_unlike_17]
    unfold mX9_farthestNight_B8 mX11_unlike_B17
    rw [n_lit 24, if_pos ((n_le (by omega) (by omega)).mpr (by omega)), if_pos ((n_le (by omega) (by omega)).mpr (by omega))]
    exact ⟨_, _, rfl, rfl, rfl⟩
  | succ d ih =>
    intro i n n' l2 lc lm c0 f0 hi hn hn' hb
    obtain ⟨n, rfl⟩ : ∃ q, n = q + 1 := ⟨n - 1, by omega⟩
    obtain ⟨n', rfl⟩ : ∃ q, n' = q + 1 := ⟨n' - 1, by omega⟩
    have z1 := (h (24 * p + i) (by omega)).1
    rw [eX9_farthestNight_8, eX11_unlike_17]
    unfold mX9_farthestNight_B8 mX11_unlike_B17
    rw [n_lit 24, if_neg (fun hh => absurd ((n_le (by omega) (by omega)).mp hh) (by omega)), if_neg (fun hh => absurd ((n_le (by omega) (by omega)).mp hh) (by omega))]
    obtain ⟨c', rv', f', k1, k2, k3, k4, k5, k6⟩ := X9_fillRow_s h hp (show i < 24 by omega) 6 0 FUEL 0 (fun _ => 0) f0 (by omega) (by unfold FUEL; omega) (by omega) (fun a b _ hb => absurd hb (by omega)) (fun k hk => absurd hk (by omega)) (fun k hk => absurd hk (by omega))
    have q6 : mX9_fillRow (nI p) (nI i) c0 f0 m = some (nI c', f') := by
      unfold mX9_fillRow
      exact k6
    have hG : ∀ G : Int → Int, sZ (fun k => G (rv' k)) 0 c' = sZ (oT G tv p i) 0 6 := fun G => (k5 G).trans (Int.zero_add _)
    rw [q6, b_some, X5_isTold_s h hp (by omega), b_some, X11_middle_s h hp (show i < 24 by omega) k1 k2 k3 hG, b_some, X11_toldOf_s h hp (by omega), b_some, i_m21]
    have nx : nI i + (1 : Int32) = nI (i + 1) := by rw [n_lit 1, n_add]
    by_cases c1 : tv (24 * p + i) = -21
    · rw [if_pos c1, if_pos rfl, if_pos ((iI_le (by omega) (by omega) (by omega) (by omega)).mpr (by omega)), lb_d, lb_d, nx]
      exact ih (i + 1) n n' l2 lc lm _ _ (by omega) (by omega) (by omega) hb
    · rw [if_neg c1, if_neg (show ¬ (1 : Int32) = 0 by decide), if_neg (fun hh => absurd ((iI_le (by omega) (by omega) (by omega) (by omega)).mp hh) (by omega))]
      by_cases c2 : c' < 2
      · have e5 : (nI c', f').1 < (2 : Int32) := (n_lt (b := 2) (by omega) (by omega)).mpr c2
        rw [if_pos c2, if_pos e5, if_pos ((iI_le (by omega) (by omega) (by omega) (by omega)).mpr (by omega)), lb_d, lb_d, nx]
        exact ih (i + 1) n n' l2 lc lm _ _ (by omega) (by omega) (by omega) hb
      · have e5 : ¬ (nI c', f').1 < (2 : Int32) := fun hh => c2 ((n_lt (b := 2) (by omega) (by omega)).mp hh)
        have hr := k3 ((c' - 1) / 2) (by omega)
        have eq : (nI c' - 1) / 2 = nI ((c' - 1) / 2) := by
          rcases (show c' = 2 ∨ c' = 3 ∨ c' = 4 ∨ c' = 5 ∨ c' = 6 by omega) with rfl | rfl | rfl | rfl | rfl <;> decide
        rw [if_neg c2, if_neg e5, if_neg (fun hh => absurd ((iI_le (by omega) (by omega) (by omega) (by omega)).mp hh) (by omega)), X5_toldOf_s h hp (by omega), b_some, b_some]
        simp only [eq, gi_n (show (c' - 1) / 2 < 6 by omega) (show 6 ≤ 2147483648 by omega), n_cl (show (c' - 1) / 2 < 2147483648 by omega), k4 _ (show (c' - 1) / 2 < c' by omega), iI_sub, lb_d, nx]
        rw [iabs_i (by omega) (by omega)]
        generalize hz : tv (24 * p + i) - rv' ((c' - 1) / 2) = z at *
        have eB : ∀ w : Nat, w ≤ 41 → iI (if 0 ≤ z then z else -z) = nI w → True := fun _ _ _ => trivial
        obtain ⟨w, hw, ew⟩ : ∃ w : Nat, w ≤ 41 ∧ (if 0 ≤ z then z else -z) = (w : Int) := ⟨(if 0 ≤ z then z else -z).toNat, by split <;> omega, by split <;> omega⟩
        have em : ∀ k : Int32 → Option Int32, (if (0 : Int32) ≤ iI z then k (iI z) else k (-iI z)) = k (nI w) := by
          intro k
          rw [show (0 : Int32) = iI 0 from by decide, iI_neg, nI_iI]
          by_cases c3 : 0 ≤ z
          · rw [if_pos c3] at ew
            rw [if_pos ((iI_le (by omega) (by omega) (by omega) (by omega)).mpr c3), ew]
          · rw [if_neg c3] at ew
            rw [if_neg (fun hh => c3 ((iI_le (by omega) (by omega) (by omega) (by omega)).mp hh)), ew]
        rw [ew, ← nI_iI, em (fun v => mX11_unlike_B77 (nI p) mt (mX11_unlike_L17 (nI p) mt n') l2 lm (nI i) v)]
        unfold mX11_unlike_B77 mX11_unlike_B89
        rw [nx]
        rcases hb with ⟨rfl, rfl, rfl⟩ | ⟨b, u, hb1, hu, rfl, rfl, rfl⟩
        · rw [if_pos (show (-4 : Int32) < 0 by decide), i_m1, nI_iI, if_neg (fun hh => absurd ((iI_le (by omega) (by omega) (by omega) (by omega)).mp hh) (by omega)), ← nI_iI]
          exact ih (i + 1) n n' _ _ _ _ _ (by omega) (by omega) (by omega) (Or.inr ⟨i, w, by omega, hw, rfl, rfl, rfl⟩)
        · rw [n_lit 0, if_neg (fun hh => absurd ((n_lt (by omega) (by omega)).mp hh) (by omega))]
          by_cases c4 : w ≤ u
          · rw [if_pos ((n_le (by omega) (by omega)).mpr c4), if_pos ((n_le (by omega) (by omega)).mpr c4)]
            exact ih (i + 1) n n' _ _ _ _ _ (by omega) (by omega) (by omega) (Or.inr ⟨b, u, hb1, hu, rfl, rfl, rfl⟩)
          · rw [if_neg (fun hh => c4 ((n_le (by omega) (by omega)).mp hh)), if_neg (fun hh => c4 ((n_le (by omega) (by omega)).mp hh))]
            exact ih (i + 1) n n' _ _ _ _ _ (by omega) (by omega) (by omega) (Or.inr ⟨i, w, by omega, hw, rfl, rfl, rfl⟩)
set_option maxRecDepth 100000 in
theorem api_unlike {c_text_length : Int32} {c_text_bytes : Nat → Int32} {c_laid_rounds : Int32} {c_laid_home : Int32} {c_laid_noise : Int32} {c_laid_blowCount : Int32} {c_laid_judgeCount : Int32} {c_laid_blows : Nat → Int32} {c_laid_judges : Nat → Int32} {c_laid_forward : Nat → Int32} {c_laid_downs : Nat → Int32} {c_laid_taken : Nat → Int32} {c_laid_seenBy : Nat → Int32} {c_laid_sums : Nat → Int32} {c_laid_leads : Nat → Int32} {c_bench_watchers : Nat → Int32} {c_notes_delays : Nat → Int32} {c_notes_margins : Nat → Int32} {c_notes_odds : Nat → Int32} {c_kept_0_delays : Nat → Int32} {c_kept_0_margins : Nat → Int32} {c_kept_0_odds : Nat → Int32} {c_kept_1_delays : Nat → Int32} {c_kept_1_margins : Nat → Int32} {c_kept_1_odds : Nat → Int32} {c_keptCount : Int32} {m_length : Int32} {m_text : Nat → Int32} {m_roundMany : Nat → Int32} {m_blowMany : Nat → Int32} {m_blows : Nat → Int32} {m_forwards : Nat → Int32} {m_downs : Nat → Int32} {m_takens : Nat → Int32} {m_homes : Nat → Int32} {m_noises : Nat → Int32} {m_judgeMany : Nat → Int32} {m_judges : Nat → Int32} {m_delays : Nat → Int32} {m_tolds : Nat → Int32} {m_tens : Nat → Int32} {m_keptMany : Int32} (x0 : Int32) (c_told_rowCount : Int32) (c_told_row : Nat → Int32) (hR : RR c_text_length c_text_bytes c_laid_rounds c_laid_home c_laid_noise c_laid_blowCount c_laid_judgeCount c_laid_blows c_laid_judges c_laid_forward c_laid_downs c_laid_taken c_laid_seenBy c_laid_sums c_laid_leads c_bench_watchers c_notes_delays c_notes_margins c_notes_odds c_kept_0_delays c_kept_0_margins c_kept_0_odds c_kept_1_delays c_kept_1_margins c_kept_1_odds c_keptCount m_length m_text m_roundMany m_blowMany m_blows m_forwards m_downs m_takens m_homes m_noises m_judgeMany m_judges m_delays m_tolds m_tens m_keptMany) : ∃ (oc : Int32 × Int32 × (Nat → Int32)) (om : Int32), mX10_unlike x0 c_told_rowCount c_notes_margins c_told_row = some oc ∧ mX11_unlike x0 m_tolds = some om ∧ oc.1 = om := by
  obtain ⟨hT, hF, hW, K, hK, rfl, rfl, h0, h1, h2⟩ := hR
  obtain ⟨tv, h⟩ := okT_of h0
  unfold mX10_unlike mX11_unlike
  rw [X11_isName_s, X10_isName_s, b_some, b_some, if10, if10]
  by_cases c1 : (0 : Int32) ≤ x0 ∧ x0 ≤ 5
  · rw [if_pos c1, if_pos c1]
    obtain ⟨p, hp, rfl⟩ := w_n (b := 5) (by omega) c1
    unfold mX9_farthestNight
    obtain ⟨oc, om, e1, e2, e3⟩ := unlike_s h hp 24 0 FUEL FUEL (-4) (-1) 0 c_told_rowCount c_told_row (by omega) (by unfold FUEL; omega) (by unfold FUEL; omega) (Or.inl ⟨rfl, rfl, rfl⟩)
    rw [show (mX9_farthestNight_L8 (nI p) c_notes_margins FUEL (-4) (-1) 0 c_told_rowCount c_told_row) = some oc from e1, b_some]
    exact ⟨_, om, rfl, e2, e3⟩
  · rw [if_neg c1, if_neg c1]
    exact ⟨_, _, rfl, rfl, rfl⟩
