theorem im_0 (j : Nat) (σ : St) : imA j σ 0 = σ ∧ imB j σ 0 = σ := by
  refine ⟨?_, ?_⟩
  · funext c m; unfold imA; rw [if_neg (by omega)]
  · funext c m; unfold imB; rw [if_neg (by omega)]
theorem imA_loop {j : Nat} (σ : St) (hj : j < 2) : loop (fun s : Int32 × St => l_X6_image_19 (nI j) s.1 s.2) 400 (0, σ) = some (imA j σ 6) := by
  have h := loop_to (body := fun s : Int32 × St => l_X6_image_19 (nI j) s.1 s.2) (fun i => (nI i, imA j σ i)) 6 (imA j σ 6) (fun i hi => imA_step σ hj hi) (by simp only [l_X6_image_19]; rw [if_pos (by decide)]) 400 (by decide)
  rw [(im_0 j σ).1] at h
  exact h
theorem imB_loop {j : Nat} (σ : St) (hj : j < 2) : loop (fun s : Int32 × St => l_X6_image_115 (nI j) s.1 s.2) 400 (0, σ) = some (imB j σ 16) := by
  have h := loop_to (body := fun s : Int32 × St => l_X6_image_115 (nI j) s.1 s.2) (fun i => (nI i, imB j σ i)) 16 (imB j σ 16) (fun i hi => imB_step σ hj hi) (by simp only [l_X6_image_115]; rw [if_pos (by decide)]) 400 (by decide)
  rw [(im_0 j σ).2] at h
  exact h
def imF (j : Nat) (σ : St) : St := fun c m => if c = 45 ∧ m = j then 1 else if c = 44 ∧ m = 70 * j + 55 then σ 29 5 else if c = 44 ∧ m = 70 * j + 54 then σ 29 11 else if c = 44 ∧ m = 70 * j + 53 then σ 29 4 else if c = 44 ∧ m = 70 * j + 52 then σ 29 3 else if c = 44 ∧ m = 70 * j + 51 then σ 29 2 else if c = 44 ∧ m = 70 * j + 50 then σ 29 0 else imB j (imA j σ 6) 16 c m
theorem imBA_out {j c m : Nat} {σ : St} (h : c ≠ 44 ∨ m < 70 * j ∨ 70 * j + 46 ≤ m) : imB j (imA j σ 6) 16 c m = σ c m := by
  unfold imB
  rw [if_neg (by omega), imA_out (by omega)]
theorem imF_out {j c m : Nat} {σ : St} (h : (c ≠ 44 ∧ c ≠ 45) ∨ (c = 45 ∧ m ≠ j) ∨ (c = 44 ∧ (m < 70 * j ∨ 70 * j + 56 ≤ m))) : imF j σ c m = σ c m := by
  unfold imF
  rw [if_neg (by omega), if_neg (by omega), if_neg (by omega), if_neg (by omega), if_neg (by omega), if_neg (by omega), if_neg (by omega), imBA_out (by omega)]
theorem im_fin {j : Nat} {σ : St} (hj : j < 2) : f_X6_image (nI j) σ = some (1, imF j σ) := by
  obtain ⟨e1, e2, e3, e4, e5, e6⟩ := r70c j hj
  have ej : (nI j).toNatClampNeg = j := r70n j (by omega)
  have ew : f_X6_in (nI j) 0 1 = some 1 := by
    rw [in_eq]
    obtain rfl | rfl : j = 0 ∨ j = 1 := by omega
    · rfl
    · rfl
  have o29 : ∀ k, imB j (imA j σ 6) 16 29 k = σ 29 k := fun k => imBA_out (Or.inl (by decide))
  unfold f_X6_image
  rw [ew, bnd_some, if_pos (by decide), imA_loop σ hj, bnd_some, imB_loop _ hj, bnd_some, e1, e2, e3, e4, e5, e6]
  simp only [nm_eq]
  rw [gi_in (by omega) (by decide), gi_in (by omega) (by decide), gi_in (by omega) (by decide), gi_in (by omega) (by decide), gi_in (by omega) (by decide), gi_in (by omega) (by decide), gi_in hj (by decide)]
  rw [ej, r70n _ (by omega), r70n _ (by omega), r70n _ (by omega), r70n _ (by omega), r70n _ (by omega), r70n _ (by omega), show jz 1 = 1 from rfl]
  congr 2
  funext c m
  unfold imF
  by_cases hc : c = 45
  · subst hc
    by_cases hm : m = j
    · subst hm; simp [up2, upd]
    · simp [up2, upd, hm]
  by_cases hd : c = 44
  · subst hd
    simp only [up2, upd, if_true, if_neg (show ¬ 44 = 45 by decide), if_neg (show ¬ 29 = 44 by decide), o29, true_and, false_and, if_false]
    rw [if_neg (show ¬ (44 = 45 ∧ m = j) by omega)]
  · simp [up2, hc, hd]
theorem imF_iv {j : Nat} {σ : St} : (∀ k, 7 ≤ k → k ≤ 12 → iv (imF j σ) j 0 k = mv σ 0 k) ∧ (∀ i k, 1 ≤ i → i ≤ 5 → k < 6 → iv (imF j σ) j i k = mv σ i k) ∧ (∀ i k, 6 ≤ i → i ≤ 7 → k < 8 → iv (imF j σ) j i k = mv σ i k) := by
  have hA : ∀ t r, t < 5 → r < 6 → imF j σ 44 (70 * j + 6 * t + r) = σ (imC t) r := by
    intro t r ht hr
    unfold imF
    rw [if_neg (by omega), if_neg (by omega), if_neg (by omega), if_neg (by omega), if_neg (by omega), if_neg (by omega), if_neg (by omega)]
    unfold imB
    rw [if_neg (by omega), imA_in ht hr, if_pos hr]
  have hB : ∀ r, r < 16 → imF j σ 44 (70 * j + 30 + r) = σ 31 r := by
    intro r hr
    unfold imF
    rw [if_neg (by omega), if_neg (by omega), if_neg (by omega), if_neg (by omega), if_neg (by omega), if_neg (by omega), if_neg (by omega)]
    unfold imB
    rw [if_pos ⟨rfl, by omega, by omega⟩, imA_out (Or.inl (by decide)), show 70 * j + 30 + r - 70 * j - 30 = r by omega]
  refine ⟨fun k h1 h2 => ?_, fun i k h1 h2 hk => ?_, fun i k h1 h2 hk => ?_⟩
  · obtain rfl | rfl | rfl | rfl | rfl | rfl : k = 7 ∨ k = 8 ∨ k = 9 ∨ k = 10 ∨ k = 11 ∨ k = 12 := by omega
    all_goals simp [mv, iv, imF]
  · obtain rfl | rfl | rfl | rfl | rfl : i = 1 ∨ i = 2 ∨ i = 3 ∨ i = 4 ∨ i = 5 := by omega
    · exact hA 1 k (by decide) hk
    · exact hA 0 k (by decide) hk
    · exact hA 2 k (by decide) hk
    · exact hA 3 k (by decide) hk
    · exact hA 4 k (by decide) hk
  · obtain rfl | rfl : i = 6 ∨ i = 7 := by omega
    · exact hB (2 * k) (by omega)
    · have := hB (2 * k + 1) (by omega)
      rw [show 70 * j + 30 + (2 * k + 1) = 70 * j + 31 + 2 * k by omega] at this
      exact this
