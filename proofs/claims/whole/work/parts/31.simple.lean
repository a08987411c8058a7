/-! ===== frost, wipe, forget, told, exchange, say, seen ===== -/
theorem PK_congr {B h o k : Nat} {V W V' W' : VW} (p : PK B h o k V W) (hv : ∀ i, 1 ≤ i → i ≤ 5 → V' i k = V i k) (hw : ∀ i, 1 ≤ i → i ≤ 5 → W' i k = W i k) : PK B h o k V' W' := by
  unfold PK
  rw [hv 1 (by decide) (by decide), hv 2 (by decide) (by decide), hv 3 (by decide) (by decide), hv 4 (by decide) (by decide), hv 5 (by decide) (by decide), hw 1 (by decide) (by decide), hw 2 (by decide) (by decide), hw 3 (by decide) (by decide), hw 4 (by decide) (by decide), hw 5 (by decide) (by decide)]
  exact p
theorem up2_s (σ : St) (c k : Nat) (v : Int32) : up2 σ c k v c k = v := by simp [up2, upd]
theorem up2_k (σ : St) (c k k' : Nat) (v : Int32) (h : k' ≠ k) : up2 σ c k v c k' = σ c k' := by simp [up2, upd, h]
theorem cv_up {σ : St} {b c k : Nat} {v : Int32} (h : c < b ∨ b + 7 < c) : ∀ i j, i ≤ 7 → cv (up2 σ c k v) b i j = cv σ b i j := by
  intro i j hi
  unfold cv
  rw [up2_out (by omega)]
theorem pc_frost : PC_frost := by
  intro N g σ a1 hN hI
  rcases wi_cases a1 0 30 with ⟨hw, h1, h2⟩ | ⟨hw, -⟩
  · obtain ⟨n, -, hn, rfl⟩ := nI_btw (lo := 0) (hi := 30) (by decide) h1 h2 (by decide)
    have hL := hI.1
    obtain ⟨h, o, d, l, f, s, h1, h2, h3, h4, h5, h6, e1, e2, e3, e4, e5, e6, e7, e8, e9, e10, e11, e12, q1, q2, q3, q4, q5⟩ := hL
    refine ⟨nI f, up2 σ 1 12 (nI n), up2 (up2 σ 1 12 (nI n)) 29 4 (nI n), ?_, ?_, Inv_mono ⟨?_, ?_, ?_⟩⟩
    · unfold f_X5_frost
      rw [hw, bnd_some, if_pos (by decide), nm_eq]
      exact congrArg (fun z => some (z, _)) e9
    · unfold f_X6_frost
      rw [in_eq, hw, bnd_some, if_pos (by decide), nm_eq]
      have e : up2 σ 1 12 (nI n) 29 4 = σ 29 4 := rfl
      rw [e]
      exact congrArg (fun z => some (z, _)) e10
    · refine ⟨h, o, d, l, n, s, h1, h2, h3, h4, hn, h6, e1, e2, e3, e4, e5, e6, e7, e8, rfl, rfl, e11, e12, q1, q2, q3, fun k hk => ?_, fun i hi => ?_⟩
      · refine PK_congr (q4 k hk) (fun i h1 h2 => ?_) (fun i h1 h2 => ?_)
        · rcases (show i = 1 ∨ i = 2 ∨ i = 3 ∨ i = 4 ∨ i = 5 by omega) with rfl | rfl | rfl | rfl | rfl <;> rfl
        · rcases (show i = 1 ∨ i = 2 ∨ i = 3 ∨ i = 4 ∨ i = 5 by omega) with rfl | rfl | rfl | rfl | rfl <;> rfl
      · exact q5 i hi
    · exact PAD_congr hI.2.1 rfl rfl (fun _ => rfl) (fun _ => rfl)
    · exact IM_congr hI.2.2 (fun _ => rfl) (fun _ => rfl) (fun c k hc => by rw [up2_out (by omega), up2_out (by omega)])
  · refine ⟨-2, σ, σ, ?_, ?_, Inv_mono hI⟩
    · unfold f_X5_frost
      rw [hw, bnd_some, if_neg (by decide)]
    · unfold f_X6_frost
      rw [in_eq, hw, bnd_some, if_neg (by decide)]
theorem pc_wipe : PC_wipe := by
  intro N g σ hN hI
  obtain ⟨p, h1, h2, h3, h4⟩ := hI.2.1
  refine ⟨nI p, up2 σ 18 1 0, up2 (up2 σ 18 1 0) 29 12 0, ?_, ?_, Inv_mono ⟨?_, ⟨0, by decide, rfl, rfl, fun k hk => absurd hk (Nat.not_lt_zero _)⟩, ?_⟩⟩
  · unfold f_X5_wipe
    rw [nm_eq]
    exact congrArg (fun z => some (z, _)) h2
  · unfold f_X6_wipe
    rw [nm_eq]
    exact congrArg (fun z => some (z, _)) h3
  · refine LR_congr hI.1 (fun i k _ hi => ?_) (fun i k h0 hi => ?_)
    · rw [cv_up (by omega) i k hi, cv_up (by omega) i k hi]
    · match i, hi with
      | 0, _ =>
        obtain ⟨q1, q2⟩ := h0 rfl
        rcases (show k = 7 ∨ k = 8 ∨ k = 9 ∨ k = 10 ∨ k = 11 ∨ k = 12 by omega) with rfl | rfl | rfl | rfl | rfl | rfl <;> rfl
      | 1, _ | 2, _ | 3, _ | 4, _ | 5, _ | 6, _ | 7, _ => rfl
  · exact IM_congr hI.2.2 (fun _ => rfl) (fun _ => rfl) (fun c k hc => by rw [up2_out (by omega), up2_out (by omega)])
theorem pc_forget : PC_forget := by
  intro N g σ hN hI
  obtain ⟨h, o, d, l, f, s, h1, h2, h3, h4, h5, h6, e1, e2, e3, e4, e5, e6, e7, e8, e9, e10, e11, e12, q1, q2, q3, q4, q5⟩ := hI.1
  refine ⟨nI s, up2 σ 1 7 0, up2 (up2 σ 1 7 0) 29 5 0, ?_, ?_, Inv_mono ⟨?_, ?_, ?_⟩⟩
  · unfold f_X5_forget
    rw [nm_eq]
    exact congrArg (fun z => some (z, _)) e11
  · unfold f_X6_forget
    rw [nm_eq]
    exact congrArg (fun z => some (z, _)) e12
  · refine ⟨h, o, d, l, f, 0, h1, h2, h3, h4, h5, by decide, e1, e2, e3, e4, e5, e6, e7, e8, e9, e10, rfl, rfl, q1, q2, q3, fun k hk => ?_, fun i hi => absurd hi (Nat.not_lt_zero _)⟩
    refine PK_congr (q4 k hk) (fun i h1 h2 => ?_) (fun i h1 h2 => ?_)
    · rcases (show i = 1 ∨ i = 2 ∨ i = 3 ∨ i = 4 ∨ i = 5 by omega) with rfl | rfl | rfl | rfl | rfl <;> rfl
    · rcases (show i = 1 ∨ i = 2 ∨ i = 3 ∨ i = 4 ∨ i = 5 by omega) with rfl | rfl | rfl | rfl | rfl <;> rfl
  · exact PAD_congr hI.2.1 rfl rfl (fun _ => rfl) (fun _ => rfl)
  · exact IM_congr hI.2.2 (fun _ => rfl) (fun _ => rfl) (fun c k hc => by rw [up2_out (by omega), up2_out (by omega)])
