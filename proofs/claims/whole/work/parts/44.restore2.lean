def rsF (j : Nat) (σ : St) : St := fun c k => if c = 29 ∧ k = 0 then σ 44 (70 * j + 50) else if c = 29 ∧ k = 2 then σ 44 (70 * j + 51) else if c = 29 ∧ k = 3 then σ 44 (70 * j + 52) else if c = 29 ∧ k = 4 then σ 44 (70 * j + 53) else if c = 29 ∧ k = 11 then σ 44 (70 * j + 54) else if c = 29 ∧ k = 5 then σ 44 (70 * j + 55) else rsB j (rsA j σ 6) 16 c k
theorem rs44 (j : Nat) (σ : St) (k : Nat) : rsB j (rsA j σ 6) 16 44 k = σ 44 k := by simp [rsA, rsB]
theorem rsF_out {j : Nat} {σ : St} {c k : Nat} (h : c < 29 ∨ 35 < c ∨ (c = 29 ∧ 11 < k)) : rsF j σ c k = σ c k := by
  rcases h with h | h | ⟨rfl, h⟩
  · simp [rsF, rsA, rsB, show c ≠ 29 by omega, show c ≠ 30 by omega, show c ≠ 31 by omega, show c ≠ 32 by omega, show c ≠ 33 by omega, show c ≠ 34 by omega, show c ≠ 35 by omega]
  · simp [rsF, rsA, rsB, show c ≠ 29 by omega, show c ≠ 30 by omega, show c ≠ 31 by omega, show c ≠ 32 by omega, show c ≠ 33 by omega, show c ≠ 34 by omega, show c ≠ 35 by omega]
  · simp [rsF, rsA, rsB, show k ≠ 0 by omega, show k ≠ 2 by omega, show k ≠ 3 by omega, show k ≠ 4 by omega, show k ≠ 5 by omega, show k ≠ 11 by omega]
theorem rs_fin {j : Nat} {σ : St} (hj : j < 2) (h : σ 45 j = 1) : f_X6_restore (nI j) σ = some (1, rsF j σ) := by
  obtain ⟨e1, e2, e3, e4, e5, e6⟩ := r70c j hj
  have ej : (nI j).toNatClampNeg = j := r70n j (by omega)
  have ew : f_X6_in (nI j) 0 1 = some 1 := by
    rw [in_eq]
    obtain rfl | rfl : j = 0 ∨ j = 1 := by omega
    · rfl
    · rfl
  unfold f_X6_restore
  rw [ew, bnd_some, if_pos (by decide), gi_in hj (by decide), ej, h, if_pos (by decide), rsA_loop σ hj, bnd_some, rsB_loop _ hj, bnd_some, e1, e2, e3, e4, e5, e6]
  simp only [nm_eq]
  rw [gi_in (by omega) (by decide), gi_in (by omega) (by decide), gi_in (by omega) (by decide), gi_in (by omega) (by decide), gi_in (by omega) (by decide), gi_in (by omega) (by decide)]
  rw [r70n _ (by omega), r70n _ (by omega), r70n _ (by omega), r70n _ (by omega), r70n _ (by omega), r70n _ (by omega)]
  congr 2
  funext c k
  by_cases hc : c = 29
  · subst hc
    simp only [up2, upd, if_true, if_neg (show ¬ 44 = 29 by decide), rs44, rsF, true_and]
    by_cases h5 : k = 5 <;> by_cases h11 : k = 11 <;> by_cases h4 : k = 4 <;> by_cases h3 : k = 3 <;> by_cases h2 : k = 2 <;> by_cases h0 : k = 0 <;> first | omega | simp [h5, h11, h4, h3, h2, h0]
  · simp [up2, hc, rsF]
