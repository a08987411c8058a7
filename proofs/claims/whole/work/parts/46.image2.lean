/-! ===== image ===== -/
def imC (t : Nat) : Nat := match t with
  | 0 => 30
  | 1 => 32
  | 2 => 33
  | 3 => 34
  | _ => 35
def imA (j : Nat) (σ : St) (i : Nat) : St := fun c m => if c = 44 ∧ 70 * j ≤ m ∧ m < 70 * j + 30 ∧ (m - 70 * j) % 6 < i then σ (imC ((m - 70 * j) / 6)) ((m - 70 * j) % 6) else σ c m
def imB (j : Nat) (σ : St) (i : Nat) : St := fun c m => if c = 44 ∧ 70 * j + 30 ≤ m ∧ m < 70 * j + 30 + i then σ 31 (m - 70 * j - 30) else σ c m
theorem imA_in {j t r i : Nat} {σ : St} (ht : t < 5) (hr : r < 6) : imA j σ i 44 (70 * j + 6 * t + r) = if r < i then σ (imC t) r else σ 44 (70 * j + 6 * t + r) := by
  have e1 : (70 * j + 6 * t + r - 70 * j) % 6 = r := by omega
  have e2 : (70 * j + 6 * t + r - 70 * j) / 6 = t := by omega
  unfold imA
  rw [e1, e2]
  by_cases h : r < i
  · rw [if_pos ⟨rfl, by omega, by omega, h⟩, if_pos h]
  · rw [if_neg (fun q => h q.2.2.2), if_neg h]
theorem imA_out {j i c m : Nat} {σ : St} (h : c ≠ 44 ∨ m < 70 * j ∨ 70 * j + 30 ≤ m) : imA j σ i c m = σ c m := by
  unfold imA
  rw [if_neg (by omega)]
theorem imA_step {j i : Nat} (σ : St) (hj : j < 2) (hi : i < 6) : l_X6_image_19 (nI j) (nI i) (imA j σ i) = some (.inl (nI (i + 1), imA j σ (i + 1))) := by
  obtain ⟨e1, e2, e3, e4, e5, e6, e7, e8⟩ := r70a j hj i hi
  unfold l_X6_image_19
  rw [if_neg e8, e1, e2, e3, e4, e5, e6]
  simp only [nm_eq]
  rw [gi_in hi (by decide), gi_in (by omega) (by decide), gi_in hi (by decide), gi_in (by omega) (by decide), gi_in hi (by decide), gi_in (by omega) (by decide), gi_in hi (by decide), gi_in (by omega) (by decide), gi_in hi (by decide), gi_in (by omega) (by decide)]
  rw [e7, r70n _ (by omega), r70n _ (by omega), r70n _ (by omega), r70n _ (by omega), r70n _ (by omega)]
  congr 3
  have o30 : imA j σ i 30 i = σ 30 i := imA_out (Or.inl (by decide))
  have o32 : imA j σ i 32 i = σ 32 i := imA_out (Or.inl (by decide))
  have o33 : imA j σ i 33 i = σ 33 i := imA_out (Or.inl (by decide))
  have o34 : imA j σ i 34 i = σ 34 i := imA_out (Or.inl (by decide))
  have o35 : imA j σ i 35 i = σ 35 i := imA_out (Or.inl (by decide))
  funext c m
  by_cases hc : ¬ c = 44
  · rw [imA_out (Or.inl hc)]
    simp [up2, hc, imA_out (Or.inl hc)]
  obtain rfl : c = 44 := by omega
  simp only [up2, upd, if_true, if_neg (show ¬ 32 = 44 by decide), if_neg (show ¬ 33 = 44 by decide), if_neg (show ¬ 34 = 44 by decide), if_neg (show ¬ 35 = 44 by decide), o30, o32, o33, o34, o35]
  by_cases hm : m < 70 * j ∨ 70 * j + 30 ≤ m
  · rw [imA_out (Or.inr hm), imA_out (Or.inr hm), if_neg (by omega), if_neg (by omega), if_neg (by omega), if_neg (by omega), if_neg (by omega)]
  obtain ⟨t, r, ht, hr, rfl⟩ : ∃ t r, t < 5 ∧ r < 6 ∧ m = 70 * j + 6 * t + r := ⟨(m - 70 * j) / 6, (m - 70 * j) % 6, by omega, by omega, by omega⟩
  rw [imA_in ht hr, imA_in ht hr]
  by_cases hri : r = i
  · subst hri
    rw [if_pos (show r < r + 1 by omega)]
    obtain rfl | rfl | rfl | rfl | rfl : t = 0 ∨ t = 1 ∨ t = 2 ∨ t = 3 ∨ t = 4 := by omega
    · rw [if_neg (by omega), if_neg (by omega), if_neg (by omega), if_neg (by omega), if_pos (by omega)]; rfl
    · rw [if_neg (by omega), if_neg (by omega), if_neg (by omega), if_pos (by omega)]; rfl
    · rw [if_neg (by omega), if_neg (by omega), if_pos (by omega)]; rfl
    · rw [if_neg (by omega), if_pos (by omega)]; rfl
    · rw [if_pos (by omega)]; rfl
  · rw [if_neg (by omega), if_neg (by omega), if_neg (by omega), if_neg (by omega), if_neg (by omega)]
    by_cases h : r < i
    · rw [if_pos h, if_pos (by omega)]
    · rw [if_neg h, if_neg (by omega)]
theorem imB_step {j i : Nat} (σ : St) (hj : j < 2) (hi : i < 16) : l_X6_image_115 (nI j) (nI i) (imB j σ i) = some (.inl (nI (i + 1), imB j σ (i + 1))) := by
  obtain ⟨e1, e6, e7, e8⟩ := r70b j hj i hi
  unfold l_X6_image_115
  rw [if_neg e8, e1, e6]
  simp only [nm_eq]
  rw [gi_in hi (by decide), gi_in (by omega) (by decide)]
  rw [e7, r70n _ (by omega)]
  congr 3
  funext c m
  by_cases hc : c = 44
  · subst hc
    simp only [up2, upd, if_true]
    by_cases hm : m = 70 * j + 30 + i
    · subst hm
      rw [if_pos rfl]
      unfold imB
      rw [if_neg (by omega), if_pos ⟨rfl, by omega, by omega⟩, show 70 * j + 30 + i - 70 * j - 30 = i by omega]
    · rw [if_neg hm]
      unfold imB
      by_cases h : 70 * j + 30 ≤ m ∧ m < 70 * j + 30 + i
      · rw [if_pos ⟨rfl, h.1, h.2⟩, if_pos ⟨rfl, h.1, by omega⟩]
      · rw [if_neg (by omega), if_neg (by omega)]
  · simp [up2, hc, imB]
