/-! ===== restore ===== -/
theorem blk_LR {B q : Nat} {W : VW} {σ τ : St} (h : LR B (cv σ q) W) (hb : BEq τ 1 σ q) : LR B (cv τ 1) W :=
  LR_congr2 h (fun k h1 h2 => ⟨hb.1 k h1 h2, rfl⟩) (fun i k h1 h2 hk => ⟨hb.2.1 i k h1 h2 hk, rfl⟩) (fun i k h1 h2 hk => ⟨hb.2.2 i k h1 h2 hk, rfl⟩)
def rsA (j : Nat) (σ : St) (i : Nat) : St := fun c k => if k < i ∧ c = 30 then σ 44 (70 * j + k) else if k < i ∧ c = 32 then σ 44 (70 * j + 6 + k) else if k < i ∧ c = 33 then σ 44 (70 * j + 12 + k) else if k < i ∧ c = 34 then σ 44 (70 * j + 18 + k) else if k < i ∧ c = 35 then σ 44 (70 * j + 24 + k) else σ c k
def rsB (j : Nat) (σ : St) (i : Nat) : St := fun c k => if k < i ∧ c = 31 then σ 44 (70 * j + 30 + k) else σ c k
theorem r70a : ∀ j, j < 2 → ∀ i, i < 6 → (70 : Int32) * nI j + nI i = nI (70 * j + i) ∧ (70 : Int32) * nI j + 6 + nI i = nI (70 * j + 6 + i) ∧ (70 : Int32) * nI j + 12 + nI i = nI (70 * j + 12 + i) ∧ (70 : Int32) * nI j + 18 + nI i = nI (70 * j + 18 + i) ∧ (70 : Int32) * nI j + 24 + nI i = nI (70 * j + 24 + i) ∧ nI i + 1 = nI (i + 1) ∧ (nI i).toNatClampNeg = i ∧ ¬ (6 : Int32) ≤ nI i := by decide
theorem r70b : ∀ j, j < 2 → ∀ i, i < 16 → (70 : Int32) * nI j + 30 + nI i = nI (70 * j + 30 + i) ∧ nI i + 1 = nI (i + 1) ∧ (nI i).toNatClampNeg = i ∧ ¬ (16 : Int32) ≤ nI i := by decide
theorem r70c : ∀ j, j < 2 → (70 : Int32) * nI j + 50 = nI (70 * j + 50) ∧ (70 : Int32) * nI j + 51 = nI (70 * j + 51) ∧ (70 : Int32) * nI j + 52 = nI (70 * j + 52) ∧ (70 : Int32) * nI j + 53 = nI (70 * j + 53) ∧ (70 : Int32) * nI j + 54 = nI (70 * j + 54) ∧ (70 : Int32) * nI j + 55 = nI (70 * j + 55) := by decide
theorem r70n : ∀ n, n < 140 → (nI n).toNatClampNeg = n := by decide
theorem rsA_step {j i : Nat} (σ : St) (hj : j < 2) (hi : i < 6) : l_X6_restore_31 (nI j) (nI i) (rsA j σ i) = some (.inl (nI (i + 1), rsA j σ (i + 1))) := by
  obtain ⟨e1, e2, e3, e4, e5, e6, e7, e8⟩ := r70a j hj i hi
  unfold l_X6_restore_31
  rw [if_neg e8, e1, e2, e3, e4, e5, e6]
  simp only [nm_eq]
  rw [gi_in (by omega) (by decide), gi_in hi (by decide), gi_in (by omega) (by decide), gi_in hi (by decide), gi_in (by omega) (by decide), gi_in hi (by decide), gi_in (by omega) (by decide), gi_in hi (by decide), gi_in (by omega) (by decide), gi_in hi (by decide)]
  rw [e7, r70n _ (by omega), r70n _ (by omega), r70n _ (by omega), r70n _ (by omega), r70n _ (by omega)]
  congr 3
  funext c k
  by_cases hk : k = i
  · subst hk
    by_cases h0 : c = 30 <;> by_cases h2 : c = 32 <;> by_cases h3 : c = 33 <;> by_cases h4 : c = 34 <;> by_cases h5 : c = 35 <;> first | omega | simp [up2, upd, rsA, h0, h2, h3, h4, h5]
  · have hk2 : k < i + 1 ↔ k < i := by omega
    by_cases h0 : c = 30 <;> by_cases h2 : c = 32 <;> by_cases h3 : c = 33 <;> by_cases h4 : c = 34 <;> by_cases h5 : c = 35 <;> first | omega | simp [up2, upd, rsA, h0, h2, h3, h4, h5, hk, hk2]
theorem rsB_step {j i : Nat} (σ : St) (hj : j < 2) (hi : i < 16) : l_X6_restore_127 (nI j) (nI i) (rsB j σ i) = some (.inl (nI (i + 1), rsB j σ (i + 1))) := by
  obtain ⟨e1, e6, e7, e8⟩ := r70b j hj i hi
  unfold l_X6_restore_127
  rw [if_neg e8, e1, e6]
  simp only [nm_eq]
  rw [gi_in (by omega) (by decide), gi_in hi (by decide)]
  rw [e7, r70n _ (by omega)]
  congr 3
  funext c k
  by_cases hk : k = i
  · subst hk
    by_cases h0 : c = 31 <;> simp [up2, upd, rsB, h0]
  · have hk2 : k < i + 1 ↔ k < i := by omega
    by_cases h0 : c = 31 <;> simp [up2, upd, rsB, h0, hk, hk2]
theorem rs_0 (j : Nat) (σ : St) : rsA j σ 0 = σ ∧ rsB j σ 0 = σ := ⟨by funext c k; simp [rsA], by funext c k; simp [rsB]⟩
theorem rsA_loop {j : Nat} (σ : St) (hj : j < 2) : loop (fun s : Int32 × St => l_X6_restore_31 (nI j) s.1 s.2) 400 (0, σ) = some (rsA j σ 6) := by
  have h := loop_to (body := fun s : Int32 × St => l_X6_restore_31 (nI j) s.1 s.2) (fun i => (nI i, rsA j σ i)) 6 (rsA j σ 6) (fun i hi => rsA_step σ hj hi) (by simp only [l_X6_restore_31]; rw [if_pos (by decide)]) 400 (by decide)
  rw [(rs_0 j σ).1] at h
  exact h
theorem rsB_loop {j : Nat} (σ : St) (hj : j < 2) : loop (fun s : Int32 × St => l_X6_restore_127 (nI j) s.1 s.2) 400 (0, σ) = some (rsB j σ 16) := by
  have h := loop_to (body := fun s : Int32 × St => l_X6_restore_127 (nI j) s.1 s.2) (fun i => (nI i, rsB j σ i)) 16 (rsB j σ 16) (fun i hi => rsB_step σ hj hi) (by simp only [l_X6_restore_127]; rw [if_pos (by decide)]) 400 (by decide)
  rw [(rs_0 j σ).2] at h
  exact h
