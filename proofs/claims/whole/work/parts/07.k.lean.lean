/-! API K: lean -/
theorem X9_mean_s {rv : Nat → Int} {f : Nat → Int32} {c : Nat} (hc : c ≤ 6) (hf : ∀ k, k < c → f k = iI (rv k)) : mX9_meanOfRow (nI c) f = (if nI c = 0 then (some 0) else (gd (¬ nI c = 0) <| lb (iI (sZ rv 0 c) / nI c) fun v_4 => some v_4)) := by
  have key : ∀ (d i n : Nat) (s : Int), i + d = c → d < n → mX9_meanOfRow_L4 (nI c) f n (iI s) (nI i) = (if nI c = 0 then (some 0) else (gd (¬ nI c = 0) <| lb (iI (s + sZ rv i d) / nI c) fun v_4 => some v_4)) := by
    intro d
    induction d with
    | zero =>
      intro i n s hi hn
      obtain ⟨n, rfl⟩ : ∃ q, n = q + 1 := ⟨n - 1, by omega⟩
      rw [eX9_meanOfRow_4]
      unfold mX9_meanOfRow_B4
      rw [if_pos ((n_le (by omega) (by omega)).mpr (by omega)), show s + sZ rv i 0 = s from Int.add_zero s]
    | succ d ih =>
      intro i n s hi hn
      obtain ⟨n, rfl⟩ : ∃ q, n = q + 1 := ⟨n - 1, by omega⟩
      rw [eX9_meanOfRow_4]
      unfold mX9_meanOfRow_B4
      rw [if_neg (fun hh => absurd ((n_le (by omega) (by omega)).mp hh) (by omega))]
      simp only [gi_n (show i < 6 by omega) (show 6 ≤ 2147483648 by omega), lb_d, n_cl (show i < 2147483648 by omega), hf i (by omega), n_lit 1, n_add, iI_add]
      rw [ih (i + 1) n (s + rv i) (by omega) (by omega), show sZ rv i (d + 1) = rv i + sZ rv (i + 1) d from rfl, Int.add_assoc]
  unfold mX9_meanOfRow
  have h := key c 0 FUEL 0 (by omega) (by unfold FUEL; omega)
  rw [Int.zero_add] at h
  exact h
theorem sZ_one : ∀ (d i : Nat), sZ (fun _ => 1) i d = d := by
  intro d
  induction d with
  | zero => intro i; rfl
  | succ d ih => intro i; show 1 + sZ (fun _ => 1) (i + 1) d = _; rw [ih]; omega
def leanEnd (x0 : Int32) (mt : Nat → Int32) (k28 : Int32 → Int32 → Int32 → Option Int32) (l3 l4 l5 l6 l7 : Int32) : Option Int32 := (mX11_toldOf x0 l5 mt).bind fun o_10 => if o_10 ≤ -21 then (lb (l5 + 1) fun v_13 => k28 l3 l4 v_13) else (if l7 ≤ 0 then (lb (l5 + 1) fun v_15 => k28 l3 l4 v_15) else ((mX11_toldOf x0 l5 mt).bind fun o_16 => gd (¬ l7 = 0) <| lb (l3 + (o_16 - (l6 / l7))) fun v_19 => lb (l4 + 1) fun v_20 => lb (l5 + 1) fun v_21 => k28 v_19 v_20 v_21))
theorem X11_lean44_s {tv : Nat → Int} {m mt : Nat → Int32} (h : okT tv m mt) {p t : Nat} (hp : p ≤ 5) (ht : t < 24) (x1 : Int32) (k28 : Int32 → Int32 → Int32 → Option Int32) (l3 l4 : Int32) : ∀ (d i n : Nat) (s c : Int), i + d = 6 → d < n → mX11_lean_L44 (nI p) x1 mt k28 n l3 l4 (nI t) (iI s) (iI c) (nI i) = leanEnd (nI p) mt k28 l3 l4 (nI t) (iI (s + sZ (oT (fun z => z) tv p t) i d)) (iI (c + sZ (oT (fun _ => 1) tv p t) i d)) := by
  intro d
  induction d with
  | zero =>
    intro i n s c hi hn
    obtain ⟨n, rfl⟩ : ∃ q, n = q + 1 := ⟨n - 1, by omega⟩
    rw [eX11_lean_44]
    unfold mX11_lean_B44
    rw [n_lit 6, if_pos ((n_le (by omega) (by omega)).mpr (by omega)), show ∀ g, s + sZ g i 0 = s from fun g => Int.add_zero s, show ∀ g, c + sZ g i 0 = c from fun g => Int.add_zero c]
    rfl
  | succ d ih =>
    intro i n s c hi hn
    obtain ⟨n, rfl⟩ : ∃ q, n = q + 1 := ⟨n - 1, by omega⟩
    have z1 := (h (24 * i + t) (by omega)).1
    rw [eX11_lean_44]
    unfold mX11_lean_B44
    rw [n_lit 6, if_neg (fun hh => absurd ((n_le (by omega) (by omega)).mp hh) (by omega)), show ∀ g, sZ g i (d + 1) = g i + sZ g (i + 1) d from fun _ => rfl, show ∀ g, sZ g i (d + 1) = g i + sZ g (i + 1) d from fun _ => rfl]
    unfold oT
    by_cases c1 : i = p
    · rw [if_pos (by rw [c1]), lb_d, n_lit 1, n_add, if_pos (Or.inl c1), if_pos (Or.inl c1), Int.zero_add, Int.zero_add]
      exact ih (i + 1) n s c (by omega) (by omega)
    · rw [if_neg (fun hh => c1 ((n_eq (by omega) (by omega)).mp hh)), X11_toldOf_s h (by omega) ht, b_some, i_m21]
      by_cases c2 : tv (24 * i + t) = -21
      · rw [if_pos ((iI_le (by omega) (by omega) (by omega) (by omega)).mpr (by omega)), lb_d, n_lit 1, n_add, if_pos (Or.inr c2), if_pos (Or.inr c2), Int.zero_add, Int.zero_add]
        exact ih (i + 1) n s c (by omega) (by omega)
      · rw [if_neg (fun hh => absurd ((iI_le (by omega) (by omega) (by omega) (by omega)).mp hh) (by omega)), b_some, lb_d, lb_d, lb_d, iI_add, show (1 : Int32) = iI 1 from by decide, iI_add, if_neg (by omega), if_neg (by omega), ← Int.add_assoc, ← Int.add_assoc, show nI i + iI 1 = nI (i + 1) from by rw [show iI 1 = nI 1 from by decide, n_add]]
        exact ih (i + 1) n (s + tv (24 * i + t)) (c + 1) (by omega) (by omega)
