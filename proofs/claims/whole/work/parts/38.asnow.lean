/-! ===== asNow; state ===== -/
def anL (σ : St) (i : Nat) : St := fun c j => if c = 37 ∧ j < i then σ 32 j else if c = 38 ∧ j < i then σ 33 j else if c = 39 ∧ j < i then σ 34 j else if c = 40 ∧ j < i then σ 35 j else σ c j
def anS (σ : St) : St := up2 (up2 (up2 (up2 (anL σ 6) 29 18 (σ 29 11)) 29 19 (σ 29 2)) 29 20 (σ 29 3)) 29 21 (σ 29 4)
theorem anL_0 (σ : St) : anL σ 0 = σ := by
  funext c j
  simp [anL]
theorem anL_s (σ : St) (i : Nat) : up2 (up2 (up2 (up2 (anL σ i) 37 i (σ 32 i)) 38 i (σ 33 i)) 39 i (σ 34 i)) 40 i (σ 35 i) = anL σ (i + 1) := by
  funext c j
  have hlt : j ≠ i → (j < i + 1) = (j < i) := fun h => by apply propext; omega
  by_cases h1 : c = 37
  · subst h1
    by_cases hj : j = i
    · subst hj; simp [anL, up2, upd]
    · simp [anL, up2, upd, hj, hlt hj]
  by_cases h2 : c = 38
  · subst h2
    by_cases hj : j = i
    · subst hj; simp [anL, up2, upd]
    · simp [anL, up2, upd, hj, hlt hj]
  by_cases h3 : c = 39
  · subst h3
    by_cases hj : j = i
    · subst hj; simp [anL, up2, upd]
    · simp [anL, up2, upd, hj, hlt hj]
  by_cases h4 : c = 40
  · subst h4
    by_cases hj : j = i
    · subst hj; simp [anL, up2, upd]
    · simp [anL, up2, upd, hj, hlt hj]
  simp [anL, up2, h1, h2, h3, h4]
theorem anL_out {σ : St} {i c j : Nat} (h : c < 37 ∨ 40 < c) : anL σ i c j = σ c j := by
  have e1 : ¬ (c = 37 ∧ j < i) := by omega
  have e2 : ¬ (c = 38 ∧ j < i) := by omega
  have e3 : ¬ (c = 39 ∧ j < i) := by omega
  have e4 : ¬ (c = 40 ∧ j < i) := by omega
  simp only [anL, e1, e2, e3, e4, if_false]
theorem asNow_eq (σ : St) : f_X6_asNow σ = some (anS σ) := by
  have h := loop_to (body := fun s : Int32 × St => l_X6_asNow_2 s.1 s.2) (fun i => (nI i, anL σ i)) 6 (anL σ 6) (fun i hi => ?_) ?_ 400 (by decide)
  · rw [anL_0] at h
    unfold f_X6_asNow
    have h : loop (fun s : Int32 × St => l_X6_asNow_2 s.1 s.2) 400 (0, σ) = some (anL σ 6) := h
    rw [h]
    rfl
  · show l_X6_asNow_2 (nI i) (anL σ i) = some (.inl (nI (i + 1), anL σ (i + 1)))
    unfold l_X6_asNow_2
    rw [if_neg (six_le hi)]
    simp only [gi_in hi (show 6 < 2 ^ 31 by decide), nm_eq, nI_clamp (show i < 2 ^ 31 by omega)]
    rw [anL_out (c := 32) (by omega), up2_out (c' := 33) (by decide), anL_out (c := 33) (by omega), up2_out (c' := 34) (by decide), up2_out (c' := 34) (by decide), anL_out (c := 34) (by omega), up2_out (c' := 35) (by decide), up2_out (c' := 35) (by decide), up2_out (c' := 35) (by decide), anL_out (c := 35) (by omega), anL_s, nI_1]
  · show l_X6_asNow_2 (nI 6) _ = _
    unfold l_X6_asNow_2
    rw [if_pos (by decide)]
theorem anS_out {σ : St} {c : Nat} (h : (c < 37 ∨ 40 < c) ∧ c ≠ 29) : anS σ c = σ c := by
  funext j
  unfold anS
  rw [up2_out h.2, up2_out h.2, up2_out h.2, up2_out h.2, anL_out h.1]
theorem anS_29 {σ : St} {k : Nat} (h : k < 18 ∨ 21 < k) : anS σ 29 k = σ 29 k := by
  unfold anS
  rw [up2_k _ _ _ _ _ (by omega), up2_k _ _ _ _ _ (by omega), up2_k _ _ _ _ _ (by omega), up2_k _ _ _ _ _ (by omega), anL_out (by omega)]
theorem Agr_anS (σ : St) : Agr σ (anS σ) := by
  intro c k h
  by_cases h29 : c = 29
  · subst h29
    rcases h with h | h | h | h | h | h | h | h
    all_goals first | omega | (exact anS_29 (by omega))
  · rw [anS_out ⟨by unfold rel at h; omega, h29⟩]
theorem anS_a {σ : St} {j : Nat} (hj : j < 6) : anS σ 37 j = σ 32 j ∧ anS σ 38 j = σ 33 j ∧ anS σ 39 j = σ 34 j ∧ anS σ 40 j = σ 35 j := by
  unfold anS
  refine ⟨?_, ?_, ?_, ?_⟩ <;> (rw [up2_out (by decide), up2_out (by decide), up2_out (by decide), up2_out (by decide)]; simp [anL, hj])
theorem anS_s (σ : St) : anS σ 29 18 = σ 29 11 ∧ anS σ 29 19 = σ 29 2 ∧ anS σ 29 20 = σ 29 3 ∧ anS σ 29 21 = σ 29 4 := by
  refine ⟨rfl, rfl, rfl, rfl⟩
theorem LR_congr2 {B : Nat} {V W V' W' : VW} (h : LR B V W) (hs : ∀ k, 7 ≤ k → k ≤ 12 → V' 0 k = V 0 k ∧ W' 0 k = W 0 k) (ha : ∀ i k, 1 ≤ i → i ≤ 5 → k < 6 → V' i k = V i k ∧ W' i k = W i k) (hb : ∀ i k, 6 ≤ i → i ≤ 7 → k < 8 → V' i k = V i k ∧ W' i k = W i k) : LR B V' W' := by
  obtain ⟨h, o, d, l, f, s, h1, h2, h3, h4, h5, h6, e1, e2, e3, e4, e5, e6, e7, e8, e9, e10, e11, e12, q1, q2, q3, q4, q5⟩ := h
  refine ⟨h, o, d, l, f, s, h1, h2, h3, h4, h5, h6, (hs 8 (by decide) (by decide)).1.trans e1, (hs 8 (by decide) (by decide)).2.trans e2, (hs 9 (by decide) (by decide)).1.trans e3, (hs 9 (by decide) (by decide)).2.trans e4, (hs 10 (by decide) (by decide)).1.trans e5, (hs 10 (by decide) (by decide)).2.trans e6, (hs 11 (by decide) (by decide)).1.trans e7, (hs 11 (by decide) (by decide)).2.trans e8, (hs 12 (by decide) (by decide)).1.trans e9, (hs 12 (by decide) (by decide)).2.trans e10, (hs 7 (by decide) (by decide)).1.trans e11, (hs 7 (by decide) (by decide)).2.trans e12, q1, q2, q3, fun k hk => PK_congr (q4 k hk) (fun i h1 h2 => (ha i k h1 h2 hk).1) (fun i h1 h2 => (ha i k h1 h2 hk).2), fun i hi => ?_⟩
  rw [(hb 6 i (by decide) (by decide) (by omega)).1, (hb 6 i (by decide) (by decide) (by omega)).2, (hb 7 i (by decide) (by decide) (by omega)).1, (hb 7 i (by decide) (by decide) (by omega)).2]
  exact q5 i hi
/-- the reference's picture of now, just laid -/
theorem LR_now {B : Nat} {V : VW} {σ : St} (h : LR B V (mv σ)) : LR B V (nv (anS σ)) := by
  refine LR_congr2 h (fun k h1 h2 => ⟨rfl, ?_⟩) (fun i k h1 h2 hk => ⟨rfl, ?_⟩) (fun i k h1 h2 hk => ⟨rfl, ?_⟩)
  · rcases (show k = 7 ∨ k = 8 ∨ k = 9 ∨ k = 10 ∨ k = 11 ∨ k = 12 by omega) with rfl | rfl | rfl | rfl | rfl | rfl
    · exact anS_29 (by omega)
    · exact anS_29 (by omega)
    · rfl
    · rfl
    · rfl
    · rfl
  · obtain ⟨x1, x2, x3, x4⟩ := anS_a (σ := σ) hk
    rcases (show i = 1 ∨ i = 2 ∨ i = 3 ∨ i = 4 ∨ i = 5 by omega) with rfl | rfl | rfl | rfl | rfl
    · exact x1
    · exact congrFun (anS_out (by omega)) k
    · exact x2
    · exact x3
    · exact x4
  · rcases (show i = 6 ∨ i = 7 by omega) with rfl | rfl
    · exact congrFun (anS_out (c := 31) (by omega)) _
    · exact congrFun (anS_out (c := 31) (by omega)) _
theorem LR_draft {B : Nat} {W : VW} {σ : St} (h : LR B (cv σ 1) W) : LR B (cv (becS σ 9 1) 9) W := by
  have hb := becS_BEq σ 9 1
  refine LR_congr2 h (fun k h1 h2 => ⟨hb.1 k h1 h2, rfl⟩) (fun i k h1 h2 hk => ⟨hb.2.1 i k h1 h2 hk, rfl⟩) (fun i k h1 h2 hk => ⟨hb.2.2 i k h1 h2 hk, rfl⟩)
theorem Agr_bec (σ : St) : Agr σ (becS σ 9 1) := by
  intro c k h
  rw [becS_out (by unfold rel at h; omega)]
theorem Agr_refl (σ : St) : Agr σ σ := fun _ _ _ => rfl
theorem Agr_trans {σ τ ρ : St} (h1 : Agr σ τ) (h2 : Agr τ ρ) : Agr σ ρ := fun c k h => (h2 c k h).trans (h1 c k h)
theorem holds_in {o k : Nat} (ho : o < 64) (hk : k < 6) : f_X0_holds (nI o) (nI k) = some (if o.testBit k then 1 else 0) := by
  unfold f_X0_holds
  by_cases hb : o.testBit k = true
  · rw [if_neg (fun q => by rw [(has_tab o ho k hk).1.mp q] at hb; cases hb), if_pos hb]
  · rw [if_pos ((has_tab o ho k hk).1.mpr (by simpa using hb)), if_neg hb]
/-- tell against stateNow -/
theorem tell_eq {B b : Nat} {σ τ : St} {k : Nat} {a2 : Int32} {h o d l f s : Nat} (hk : k < 6) (h2 : o < 64) (e3 : cv σ b 0 9 = nI o) (e4 : nv τ 0 9 = nI o) (q4 : PK B h o k (cv σ b) (nv τ)) (hb : h.testBit k = true) (hw : ¬ a2 < 0 ∧ ¬ (3 : Int32) < a2) : ∃ r, f_X0_tell b (nI k) a2 σ = some r ∧ f_X6_stateNow (nI k) a2 τ = some r := by
  obtain ⟨n, -, hn, rfl⟩ := nI_btw (lo := 0) (hi := 3) (by decide) hw.1 hw.2 (by decide)
  obtain ⟨a, bg, hp, rb, y1, y2, y3, y4, y5, y6, y7, y8, y9, y10, y11, y12, y13, -⟩ := q4.1 hb
  have hkc : (nI k).toNatClampNeg = k := nI_clamp (by omega)
  unfold f_X0_tell f_X6_stateNow
  rcases (show n = 0 ∨ n = 1 ∨ n = 2 ∨ n = 3 by omega) with rfl | rfl | rfl | rfl
  · refine ⟨nI a, ?_, ?_⟩
    · rw [if_pos (by decide), gi_in hk (by decide), hkc]; exact congrArg some y6
    · rw [if_neg (by decide), gi_in hk (by decide), hkc]; exact congrArg some y7
  · refine ⟨nI hp, ?_, ?_⟩
    · rw [if_neg (by decide), if_pos (by decide), gi_in hk (by decide), hkc]; exact congrArg some y10
    · rw [if_pos (by decide), if_neg (by decide), gi_in hk (by decide), hkc]; exact congrArg some y11
  · refine ⟨if o.testBit k then 1 else 0, ?_, ?_⟩
    · rw [if_neg (by decide), if_neg (by decide), if_pos (by decide), show σ b 9 = nI o from e3, holds_in h2 hk, bnd_some]
      by_cases hob : o.testBit k = true <;> simp [hob]
    · rw [if_pos (by decide), if_pos (by decide), if_neg (by decide), show τ 29 18 = nI o from e4, (has_tab o h2 k hk).2]
  · refine ⟨nI rb, ?_, ?_⟩
    · rw [if_neg (by decide), if_neg (by decide), if_neg (by decide), gi_in hk (by decide), hkc]; exact congrArg some y12
    · rw [if_pos (by decide), if_pos (by decide), if_pos (by decide), gi_in hk (by decide), hkc]; exact congrArg some y13
theorem pc_state : PC_state := by
  intro N g σ a1 a2 hN hI
  have hL := hI.1
  rcases there (x := a1) hL (σ := σ) (σ' := σ) rfl rfl with ⟨u1, u2⟩ | ⟨h', k, hh, hk, rfl, v1, w1, b1, u1, u2⟩
  · refine ⟨-1, σ, ?_, ?_, Inv_mono hI⟩
    · unfold f_X5_state; rw [u1]; rfl
    · unfold f_X6_state; rw [u2]; rfl
  rcases wi_cases a2 0 3 with ⟨hw, c1, c2⟩ | ⟨hw, -⟩
  · obtain ⟨h, o, d, l, f, s, h1, h2, h3, h4, h5, h6, e1, e2, e3, e4, e5, e6, e7, e8, e9, e10, e11, e12, q1, q2, q3, q4, q5⟩ := LR_now hI.1
    have hhe : h' = h := (nI_eq (by omega) (by omega)).mp (v1.symm.trans e1)
    subst hhe
    obtain ⟨r, ha, hb⟩ := tell_eq (f := f) (s := s) (d := d) (l := l) hk h2 e3 e4 (q4 k hk) b1 ⟨c1, c2⟩
    refine ⟨r, anS σ, ?_, ?_, Inv_next hI (Agr_anS σ)⟩
    · unfold f_X5_state
      rw [u1, bnd_some, if_pos (by decide), hw, bnd_some, if_pos (by decide), ha]
      rfl
    · unfold f_X6_state
      rw [u2, bnd_some, if_pos (by decide), in_eq, hw, bnd_some, if_pos (by decide), asNow_eq, bnd_some, hb]
      rfl
  · refine ⟨-2, σ, ?_, ?_, Inv_mono hI⟩
    · unfold f_X5_state; rw [u1, bnd_some, if_pos (by decide), hw]; rfl
    · unfold f_X6_state; rw [u2, bnd_some, if_pos (by decide), in_eq, hw]; rfl
