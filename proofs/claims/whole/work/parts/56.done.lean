/-! ===== done ===== -/
def dnL (σ : St) (i : Nat) : St := fun c j => if c = 32 ∧ j < i then σ 37 j else if c = 33 ∧ j < i then σ 38 j else if c = 34 ∧ j < i then σ 39 j else if c = 35 ∧ j < i then σ 40 j else σ c j
theorem dnL_0 (σ : St) : dnL σ 0 = σ := by
  funext c j
  simp [dnL]
theorem dnL_s (σ : St) (i : Nat) : up2 (up2 (up2 (up2 (dnL σ i) 32 i (σ 37 i)) 33 i (σ 38 i)) 34 i (σ 39 i)) 35 i (σ 40 i) = dnL σ (i + 1) := by
  funext c j
  have hlt : j ≠ i → (j < i + 1) = (j < i) := fun h => by apply propext; omega
  by_cases h1 : c = 32
  · subst h1
    by_cases hj : j = i
    · subst hj; simp [dnL, up2, upd]
    · simp [dnL, up2, upd, hj, hlt hj]
  by_cases h2 : c = 33
  · subst h2
    by_cases hj : j = i
    · subst hj; simp [dnL, up2, upd]
    · simp [dnL, up2, upd, hj, hlt hj]
  by_cases h3 : c = 34
  · subst h3
    by_cases hj : j = i
    · subst hj; simp [dnL, up2, upd]
    · simp [dnL, up2, upd, hj, hlt hj]
  by_cases h4 : c = 35
  · subst h4
    by_cases hj : j = i
    · subst hj; simp [dnL, up2, upd]
    · simp [dnL, up2, upd, hj, hlt hj]
  simp [dnL, up2, h1, h2, h3, h4]
theorem dnL_out {σ : St} {i c j : Nat} (h : c < 32 ∨ 35 < c) : dnL σ i c j = σ c j := by
  have e1 : ¬ (c = 32 ∧ j < i) := by omega
  have e2 : ¬ (c = 33 ∧ j < i) := by omega
  have e3 : ¬ (c = 34 ∧ j < i) := by omega
  have e4 : ¬ (c = 35 ∧ j < i) := by omega
  simp only [dnL, e1, e2, e3, e4, if_false]
theorem done_loop (σ : St) : loop (fun s : Int32 × St => l_X6_done_12 s.1 s.2) 400 (0, σ) = some (dnL σ 6) := by
  have h := loop_to (body := fun s : Int32 × St => l_X6_done_12 s.1 s.2) (fun i => (nI i, dnL σ i)) 6 (dnL σ 6) (fun i hi => ?_) ?_ 400 (by decide)
  · rw [dnL_0] at h
    exact h
  · show l_X6_done_12 (nI i) (dnL σ i) = some (.inl (nI (i + 1), dnL σ (i + 1)))
    unfold l_X6_done_12
    rw [if_neg (six_le hi)]
    simp only [gi_in hi (show 6 < 2 ^ 31 by decide), nm_eq, nI_clamp (show i < 2 ^ 31 by omega)]
    rw [dnL_out (c := 37) (by omega), up2_out (c' := 38) (by decide), dnL_out (c := 38) (by omega), up2_out (c' := 39) (by decide), up2_out (c' := 39) (by decide), dnL_out (c := 39) (by omega), up2_out (c' := 40) (by decide), up2_out (c' := 40) (by decide), up2_out (c' := 40) (by decide), dnL_out (c := 40) (by omega), dnL_s, nI_1]
  · show l_X6_done_12 (nI 6) _ = _
    unfold l_X6_done_12
    rw [if_pos (by decide)]
def dnS (τ : St) : St := up2 (up2 (up2 (up2 (up2 (dnL τ 6) 29 11 (τ 29 18)) 29 2 (τ 29 19)) 29 3 (τ 29 20)) 29 4 (τ 29 21)) 29 12 0
theorem dnS_out {τ : St} {c j : Nat} (h : (c < 32 ∨ 35 < c) ∧ c ≠ 29) : dnS τ c j = τ c j := by
  unfold dnS
  rw [up2_out h.2, up2_out h.2, up2_out h.2, up2_out h.2, up2_out h.2, dnL_out h.1]
theorem dnS_a {τ : St} {j : Nat} (hj : j < 6) : dnS τ 32 j = τ 37 j ∧ dnS τ 33 j = τ 38 j ∧ dnS τ 34 j = τ 39 j ∧ dnS τ 35 j = τ 40 j := by
  unfold dnS
  refine ⟨?_, ?_, ?_, ?_⟩ <;> (rw [up2_out (by decide), up2_out (by decide), up2_out (by decide), up2_out (by decide), up2_out (by decide)]; simp [dnL, hj])
theorem LR_done {B : Nat} {V : VW} {τ : St} (h : LR B V (nv τ)) : LR B V (mv (dnS τ)) := by
  refine LR_congr2 h (fun k h1 h2 => ⟨rfl, ?_⟩) (fun i k h1 h2 hk => ⟨rfl, ?_⟩) (fun i k h1 h2 hk => ⟨rfl, ?_⟩)
  · rcases (show k = 7 ∨ k = 8 ∨ k = 9 ∨ k = 10 ∨ k = 11 ∨ k = 12 by omega) with rfl | rfl | rfl | rfl | rfl | rfl <;> rfl
  · obtain ⟨x1, x2, x3, x4⟩ := dnS_a (τ := τ) hk
    rcases (show i = 1 ∨ i = 2 ∨ i = 3 ∨ i = 4 ∨ i = 5 by omega) with rfl | rfl | rfl | rfl | rfl
    · exact x1
    · exact dnS_out (c := 30) (by omega)
    · exact x2
    · exact x3
    · exact x4
  · rcases (show i = 6 ∨ i = 7 by omega) with rfl | rfl
    · exact dnS_out (c := 31) (by omega)
    · exact dnS_out (c := 31) (by omega)
theorem pc_done : PC_done := by
  intro N g σ hN hI
  obtain ⟨p, c, hPT⟩ := PAD_PT hI.2.1
  rcases FA_c c p hPT.1 with ⟨hF, hLF⟩ | ⟨k, hk, hF⟩
  rotate_left
  · refine ⟨-5, σ, σ, ?_, ?_, Inv_mono hI⟩
    · unfold f_X5_done; rw [draft_no hPT hk hF]; rfl
    · unfold f_X6_done f_X6_barOfNights; rw [f6_fault hPT, bnd_some, hF, if_pos (show (0 : Int32) ≤ nI k from nI_le (a := 0) (by omega) (by omega))]; rfl
  obtain ⟨r, σ1, h1, h2, h3, h4⟩ := nights (by omega) hI.1 hPT hLF
  have hd := draft_ok hPT hF h1 h2
  have hX1 : ∀ c k, 29 ≤ c → c ≤ 36 → σ1 c k = σ c k := fun c k q1 q2 => h3 c k (by omega) (by omega)
  rcases h2 with rfl | rfl
  · obtain ⟨s, τ, k1, k2, k3⟩ := h4 σ1 hX1
    have hInv : Inv (N + 1) g τ := Inv_next hI (Agr_trans (NF5_Agr h3) (NF6_Agr k2))
    rcases k3 with ⟨hz, -⟩ | ⟨a, w, -, rfl, x1, x2, x3, x4, x5, x6⟩
    · exact absurd hz (by decide)
    · refine ⟨-5, σ1, τ, ?_, ?_, hInv⟩
      · unfold f_X5_done; rw [hd]; rfl
      · unfold f_X6_done f_X6_barOfNights; rw [fo_congr hX1, f6_fault hPT, bnd_some, hF, if_neg (by decide), k1, bnd_some, if_neg (lt_neg (by omega))]; rfl
  · have hX3 : ∀ c k, 29 ≤ c → c ≤ 36 → up2 (becS σ1 1 9) 18 1 0 c k = σ c k := fun c k q1 q2 => by
      rw [up2_out (by omega), becS_out (by omega)]
      exact hX1 c k q1 q2
    obtain ⟨s, τ, k1, k2, k3⟩ := h4 _ hX3
    rcases k3 with ⟨-, rfl, hL1, a, ha, y1, y2⟩ | ⟨a, w, hz, -⟩
    rotate_left
    · exact absurd hz (by decide)
    have hfar : ∀ c k, 44 ≤ c → dnS τ c k = σ c k := fun c k hc => by
      rw [dnS_out (by omega), k2 c k (by omega) (by omega), up2_out (by omega), becS_out (by omega), h3 c k (by omega) (by omega)]
    refine ⟨nI a, up2 (becS σ1 1 9) 18 1 0, dnS τ, ?_, ?_, ?_, ?_, ?_⟩
    · unfold f_X5_done
      rw [hd, bnd_some, if_pos (show ¬ (1 : Int32) = 0 by decide), nm_eq, nm_eq]
      rw [show up2 (becS σ1 1 9) 18 1 0 18 2 = σ1 18 2 from by rw [up2_k _ _ _ _ _ (by decide), becS_out (by decide)], y1]
    · unfold f_X6_done f_X6_barOfNights
      rw [fo_congr hX3, f6_fault hPT, bnd_some, hF, if_neg (by decide), k1, bnd_some, if_pos (show (-6 : Int32) < 0 by decide), bnd_some, if_pos (show (0 : Int32) ≤ 0 by decide)]
      show Option.bind (loop (fun s : Int32 × St => l_X6_done_12 s.1 s.2) 400 (0, τ)) _ = _
      rw [done_loop, bnd_some]
      simp only [nm_eq]
      have e29 : ∀ k, dnL τ 6 29 k = τ 29 k := fun k => dnL_out (by decide)
      show some (dnL τ 6 29 23, up2 (up2 (up2 (up2 (up2 (dnL τ 6) 29 11 (dnL τ 6 29 18)) 29 2 (dnL τ 6 29 19)) 29 3 (dnL τ 6 29 20)) 29 4 (dnL τ 6 29 21)) 29 12 0) = _
      rw [e29, e29, e29, e29, e29, y2]
      rfl
    · have hb := becS_BEq σ1 1 9
      refine LR_mono (B := 600 * N + 600) (by omega) (LR_done (LR_congr2 (V' := cv (dnS τ) 1) hL1 (fun k h1 h2 => ⟨?_, rfl⟩) (fun i k h1 h2 hk => ⟨?_, rfl⟩) (fun i k h1 h2 hk => ⟨?_, rfl⟩)))
      · show dnS τ (1 + 0) k = σ1 (9 + 0) k
        rw [dnS_out (by omega), k2 _ k (by omega) (by omega), up2_out (by omega)]
        exact hb.1 k h1 h2
      · show dnS τ (1 + i) k = σ1 (9 + i) k
        rw [dnS_out (by omega), k2 _ k (by omega) (by omega), up2_out (by omega)]
        exact hb.2.1 i k h1 h2 hk
      · show dnS τ (1 + i) k = σ1 (9 + i) k
        rw [dnS_out (by omega), k2 _ k (by omega) (by omega), up2_out (by omega)]
        exact hb.2.2 i k h1 h2 hk
    · refine ⟨0, by decide, ?_, rfl, fun k hk => absurd hk (Nat.not_lt_zero _)⟩
      rw [dnS_out (by omega), k2 18 1 (by decide) (by decide)]
      exact up2_s _ _ _ _
    · exact IM_congr (IM_mono (by omega) hI.2.2) (fun k => hfar 44 k (by decide)) (fun k => hfar 45 k (by decide)) (fun c k hc => hfar c k (by omega))
