/-- what both ways to keep an image share -/
theorem im_inv {N j q : Nat} {g : Nat → Option Nat} {σ τ : St} (hI : Inv N g σ) (hj : j < 2) (hq : 46 ≤ q) (hb : BEq τ q σ 1) (ho : ∀ c, c < q ∨ q + 7 < c → τ c = σ c) (hd : ∀ i p, i ≠ j → g i = some p → p + 7 < q ∨ q + 7 < p) : Inv N (va_up g j (some q)) (imF j τ) := by
  have ho2 : ∀ c k, c ≠ 44 → c ≠ 45 → c < 46 → imF j τ c k = σ c k := fun c k h1 h2 h3 => by rw [imF_out (Or.inl ⟨h1, h2⟩), ho c (Or.inl (by omega))]
  refine ⟨?_, ?_, ?_, ?_⟩
  · refine LR_congr2 hI.1 (fun k h1 h2 => ⟨?_, ?_⟩) (fun i k h1 h2 hk => ⟨?_, ?_⟩) (fun i k h1 h2 hk => ⟨?_, ?_⟩)
    · exact ho2 _ _ (by omega) (by omega) (by omega)
    · obtain rfl | rfl | rfl | rfl | rfl | rfl : k = 7 ∨ k = 8 ∨ k = 9 ∨ k = 10 ∨ k = 11 ∨ k = 12 := by omega
      all_goals exact ho2 _ _ (by decide) (by decide) (by decide)
    · exact ho2 _ _ (by omega) (by omega) (by omega)
    · obtain rfl | rfl | rfl | rfl | rfl : i = 1 ∨ i = 2 ∨ i = 3 ∨ i = 4 ∨ i = 5 := by omega
      all_goals exact ho2 _ _ (by decide) (by decide) (by decide)
    · exact ho2 _ _ (by omega) (by omega) (by omega)
    · obtain rfl | rfl : i = 6 ∨ i = 7 := by omega
      all_goals exact ho2 _ _ (by decide) (by decide) (by decide)
  · exact PAD_congr hI.2.1 (ho2 _ _ (by decide) (by decide) (by decide)) (ho2 _ _ (by decide) (by decide) (by decide)) (fun k => ho2 _ _ (by decide) (by decide) (by decide)) (fun k => ho2 _ _ (by decide) (by decide) (by decide))
  · intro i hi
    by_cases hij : i = j
    · subst hij
      refine Or.inr ⟨q, hq, va_up_self _ _ _, by simp [imF], ?_⟩
      have hm := imF_iv (j := i) (σ := τ)
      have hmv : mv τ = mv σ := by
        funext a b
        simp only [mv, ho 29 (Or.inl (by omega)), ho 30 (Or.inl (by omega)), ho 31 (Or.inl (by omega)), ho 32 (Or.inl (by omega)), ho 33 (Or.inl (by omega)), ho 34 (Or.inl (by omega)), ho 35 (Or.inl (by omega))]
      rw [hmv] at hm
      refine LR_congr2 hI.1 (fun k h1 h2 => ⟨?_, hm.1 k h1 h2⟩) (fun a k h1 h2 hk => ⟨?_, hm.2.1 a k h1 h2 hk⟩) (fun a k h1 h2 hk => ⟨?_, hm.2.2 a k h1 h2 hk⟩)
      · unfold cv; rw [imF_out (Or.inl ⟨by omega, by omega⟩)]; exact hb.1 k h1 h2
      · unfold cv; rw [imF_out (Or.inl ⟨by omega, by omega⟩)]; exact hb.2.1 a k h1 h2 hk
      · unfold cv; rw [imF_out (Or.inl ⟨by omega, by omega⟩)]; exact hb.2.2 a k h1 h2 hk
    · rw [va_up_ne _ _ hij]
      have e45 : imF j τ 45 i = σ 45 i := by rw [imF_out (Or.inr (Or.inl ⟨rfl, hij⟩)), ho 45 (Or.inl (by omega))]
      have e44 : ∀ k, k < 56 → imF j τ 44 (70 * i + k) = σ 44 (70 * i + k) := fun k hk => by rw [imF_out (Or.inr (Or.inr ⟨rfl, by omega⟩)), ho 44 (Or.inl (by omega))]
      rcases hI.2.2.1 i hi with ⟨q1, q2⟩ | ⟨p, q1, q2, q3, q4⟩
      · exact Or.inl ⟨q1, e45.trans q2⟩
      · have hpq := hd i p hij q2
        have hp : ∀ a k, a ≤ 7 → imF j τ (p + a) k = σ (p + a) k := fun a k ha => by rw [imF_out (Or.inl ⟨by omega, by omega⟩), ho _ (by omega)]
        refine Or.inr ⟨p, q1, q2, e45.trans q3, LR_congr2 q4 (fun k h1 h2 => ⟨hp 0 k (by decide), ?_⟩) (fun a k h1 h2 hk => ⟨hp a k (by omega), ?_⟩) (fun a k h1 h2 hk => ⟨hp a k (by omega), ?_⟩)⟩
        · obtain rfl | rfl | rfl | rfl | rfl | rfl : k = 7 ∨ k = 8 ∨ k = 9 ∨ k = 10 ∨ k = 11 ∨ k = 12 := by omega
          all_goals exact e44 _ (by decide)
        · obtain rfl | rfl | rfl | rfl | rfl : a = 1 ∨ a = 2 ∨ a = 3 ∨ a = 4 ∨ a = 5 := by omega
          all_goals simp only [iv, Nat.add_assoc]; exact e44 _ (by omega)
        · obtain rfl | rfl : a = 6 ∨ a = 7 := by omega
          all_goals simp only [iv, Nat.add_assoc]; exact e44 _ (by omega)
  · intro i hi
    rw [va_up_ne _ _ (by omega)]
    exact hI.2.2.2 i hi
