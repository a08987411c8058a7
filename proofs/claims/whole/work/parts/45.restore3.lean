theorem rsF_mv {j : Nat} {σ : St} : (∀ k, 7 ≤ k → k ≤ 12 → mv (rsF j σ) 0 k = iv σ j 0 k) ∧ (∀ i k, 1 ≤ i → i ≤ 5 → k < 6 → mv (rsF j σ) i k = iv σ j i k) ∧ (∀ i k, 6 ≤ i → i ≤ 7 → k < 8 → mv (rsF j σ) i k = iv σ j i k) := by
  refine ⟨fun k h1 h2 => ?_, fun i k h1 h2 hk => ?_, fun i k h1 h2 hk => ?_⟩
  · obtain rfl | rfl | rfl | rfl | rfl | rfl : k = 7 ∨ k = 8 ∨ k = 9 ∨ k = 10 ∨ k = 11 ∨ k = 12 := by omega
    all_goals simp [mv, iv, rsF]
  · obtain rfl | rfl | rfl | rfl | rfl : i = 1 ∨ i = 2 ∨ i = 3 ∨ i = 4 ∨ i = 5 := by omega
    all_goals simp [mv, iv, rsF, rsA, rsB, hk]
  · obtain rfl | rfl : i = 6 ∨ i = 7 := by omega
    · simp [mv, iv, rsF, rsA, rsB, show 2 * k < 16 by omega]
    · simp [mv, iv, rsF, rsA, rsB, show 2 * k + 1 < 16 by omega, show 70 * j + 30 + (2 * k + 1) = 70 * j + 31 + 2 * k by omega]
theorem pc_restore : PC_restore := by
  intro N g σ a1 hN hI
  rcases (wi_cases a1 0 1).symm with ⟨w1, w2⟩ | ⟨w1, w2, w3⟩
  · refine ⟨-2, σ, σ, ?_, ?_, Inv_mono hI⟩
    · unfold f_X5_restore; rw [w1]; rfl
    · unfold f_X6_restore; rw [in_eq, w1]; rfl
  obtain ⟨j, -, hj, rfl⟩ := nI_btw (lo := 0) (hi := 1) (by decide) w2 w3 (by decide)
  have hj2 : j < 2 := by omega
  have ej : (nI j).toNatClampNeg = j := r70n j (by omega)
  rcases hI.2.2.1 j hj2 with ⟨q1, q2⟩ | ⟨q, q1, q2, q3, q4⟩
  · refine ⟨-3, σ, σ, ?_, ?_, Inv_mono hI⟩
    · unfold f_X5_restore
      rw [w1, bnd_some, if_pos (by decide), gi_in hj2 (by decide), ej, q1]
    · unfold f_X6_restore
      rw [in_eq, w1, bnd_some, if_pos (by decide), gi_in hj2 (by decide), ej, q2, if_neg (by decide)]
  have ho : ∀ c, 8 < c → becS σ 1 q c = σ c := fun c hc => becS_out (Or.inr (by omega))
  refine ⟨1, becS σ 1 q, rsF j (becS σ 1 q), ?_, ?_, Inv_mono ⟨?_, ?_, ?_⟩⟩
  · unfold f_X5_restore
    rw [w1, bnd_some, if_pos (by decide), gi_in hj2 (by decide), ej, q2]
  · exact rs_fin hj2 (by rw [ho 45 (by decide)]; exact q3)
  · have hb := becS_BEq σ 1 q
    have hm := rsF_mv (j := j) (σ := becS σ 1 q)
    have hiv : iv (becS σ 1 q) j = iv σ j := by
      funext i k
      simp only [iv, ho 44 (by decide)]
    rw [hiv] at hm
    refine LR_congr2 q4 (fun k h1 h2 => ⟨?_, hm.1 k h1 h2⟩) (fun i k h1 h2 hk => ⟨?_, hm.2.1 i k h1 h2 hk⟩) (fun i k h1 h2 hk => ⟨?_, hm.2.2 i k h1 h2 hk⟩)
    · unfold cv
      rw [rsF_out (Or.inl (by omega))]
      exact hb.1 k h1 h2
    · unfold cv
      rw [rsF_out (Or.inl (by omega))]
      exact hb.2.1 i k h1 h2 hk
    · unfold cv
      rw [rsF_out (Or.inl (by omega))]
      exact hb.2.2 i k h1 h2 hk
  · exact PAD_congr hI.2.1 (by rw [rsF_out (Or.inl (by decide)), ho 18 (by decide)]) (by rw [rsF_out (Or.inr (Or.inr ⟨rfl, by decide⟩)), ho 29 (by decide)]) (fun k => by rw [rsF_out (Or.inl (by decide)), ho 19 (by decide)]) (fun k => by rw [rsF_out (Or.inr (Or.inl (by decide))), ho 36 (by decide)])
  · exact IM_congr hI.2.2 (fun k => by rw [rsF_out (Or.inr (Or.inl (by decide))), ho 44 (by decide)]) (fun k => by rw [rsF_out (Or.inr (Or.inl (by decide))), ho 45 (by decide)]) (fun c k hc => by rw [rsF_out (Or.inr (Or.inl (by omega))), ho c (by omega)])
