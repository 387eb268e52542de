/-! API L: unlike -/
theorem srt_cnt {rv : Nat → Int} (u : Int) : ∀ c, srt rv c → ∃ n : Nat, n ≤ c ∧ sZ (fun k => if rv k ≤ u then 1 else 0) 0 c = n ∧ (∀ k, k < n → rv k ≤ u) ∧ (∀ k, n ≤ k → k < c → u < rv k) := by
  intro c
  induction c with
  | zero => intro _; exact ⟨0, by omega, rfl, fun k hk => absurd hk (by omega), fun k _ hk => absurd hk (by omega)⟩
  | succ c ih =>
    intro hs
    obtain ⟨n, h1, h2, h3, h4⟩ := ih (fun a b hab hb => hs a b hab (by omega))
    rw [sZ_last, h2, Nat.zero_add]
    by_cases c1 : rv c ≤ u
    · have e : n = c := by
        by_cases c2 : n = c
        · exact c2
        · have := h4 n (by omega) (by omega)
          have := hs n c (by omega) (by omega)
          omega
      refine ⟨c + 1, by omega, by rw [if_pos c1, e]; omega, fun k hk => ?_, fun k hk hk2 => by omega⟩
      have := hs k c (by omega) (by omega)
      omega
    · refine ⟨n, by omega, by rw [if_neg c1]; omega, h3, fun k hk hk2 => ?_⟩
      by_cases c2 : k = c
      · rw [c2]; omega
      · exact h4 k hk (by omega)
theorem srt_mid {rv : Nat → Int} {c q : Nat} (hs : srt rv c) (hq : q < c) (u : Int) : ((q : Int) < sZ (fun k => if rv k ≤ u then 1 else 0) 0 c) ↔ rv q ≤ u := by
  obtain ⟨n, h1, h2, h3, h4⟩ := srt_cnt u c hs
  rw [h2]
  constructor
  · intro hh; exact h3 q (by omega)
  · intro hh
    by_cases c1 : q < n
    · omega
    · have := h4 q (by omega) hq; omega
