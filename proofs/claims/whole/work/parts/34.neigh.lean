/-! ===== neighbour ===== -/
def ngC (σ : St) (h' k a bg : Nat) : St := up2 (up2 (up2 σ 1 8 (nI h')) 2 k (nI a)) 3 k (nI bg)
def ngR (σ : St) (k : Nat) : St := up2 (up2 (up2 σ 33 k 0) 34 k 0) 35 k (-6)
def ngM (ρ : St) (h' k a bg : Nat) : St := up2 (up2 (up2 ρ 29 0 (nI h')) 32 k (nI a)) 30 k (nI bg)
theorem ng_LR {B h o d l f s k a bg : Nat} {σ ρ : St} (hk : k < 6) (ha : a ≤ 99) (hb1 : 1 ≤ bg) (hb2 : bg ≤ 20) (h1 : h < 64) (h2 : o < 64) (h3 : d < 64) (h4 : l < 64) (h5 : f ≤ 30) (h6 : s ≤ 8)
    (e3 : cv σ 1 0 9 = nI o) (e4 : mv σ 0 9 = nI o) (e5 : cv σ 1 0 10 = nI d) (e6 : mv σ 0 10 = nI d) (e7 : cv σ 1 0 11 = nI l) (e8 : mv σ 0 11 = nI l) (e9 : cv σ 1 0 12 = nI f) (e10 : mv σ 0 12 = nI f) (e11 : cv σ 1 0 7 = nI s) (e12 : mv σ 0 7 = nI s)
    (q1 : ∀ k, o.testBit k = true → h.testBit k = true) (q2 : ∀ k, d.testBit k = true → h.testBit k = true) (q3 : ∀ k, l.testBit k = true → h.testBit k = true) (q4 : ∀ k, k < 6 → PK B h o k (cv σ 1) (mv σ)) (q5 : ∀ i, i < s → ∃ q a : Nat, q < 6 ∧ a ≤ 99 ∧ cv σ 1 6 i = nI q ∧ mv σ 6 i = nI q ∧ cv σ 1 7 i = nI a ∧ mv σ 7 i = nI a)
    (hρ : (h.testBit k = true ∧ ρ = ngC σ (h ||| 1 <<< k) k a bg) ∨ (h.testBit k = false ∧ ρ = ngR (ngC σ (h ||| 1 <<< k) k a bg) k)) : LR B (cv (ngM ρ (h ||| 1 <<< k) k a bg) 1) (mv (ngM ρ (h ||| 1 <<< k) k a bg)) := by
  have h64 := (or_tab h h1 k hk).2
  have up : ∀ j, h.testBit j = true → (h ||| 1 <<< k).testBit j = true := fun j hj => by rw [tb_or, hj]; rfl
  have hne : ∀ j, j ≠ k → (h ||| 1 <<< k).testBit j = h.testBit j := fun j hj => by rw [tb_or]; simp [Ne.symm hj]
  rcases hρ with ⟨hb, rfl⟩ | ⟨hb, rfl⟩
  · refine ⟨h ||| 1 <<< k, o, d, l, f, s, h64, h2, h3, h4, h5, h6, rfl, rfl, e3, e4, e5, e6, e7, e8, e9, e10, e11, e12, fun j hj => up j (q1 j hj), fun j hj => up j (q2 j hj), fun j hj => up j (q3 j hj), fun j hj => ?_, q5⟩
    have V1 : cv (ngM (ngC σ (h ||| 1 <<< k) k a bg) (h ||| 1 <<< k) k a bg) 1 1 j = if j = k then nI a else cv σ 1 1 j := rfl
    have V2 : cv (ngM (ngC σ (h ||| 1 <<< k) k a bg) (h ||| 1 <<< k) k a bg) 1 2 j = if j = k then nI bg else cv σ 1 2 j := rfl
    have V3 : cv (ngM (ngC σ (h ||| 1 <<< k) k a bg) (h ||| 1 <<< k) k a bg) 1 3 j = cv σ 1 3 j := rfl
    have V4 : cv (ngM (ngC σ (h ||| 1 <<< k) k a bg) (h ||| 1 <<< k) k a bg) 1 4 j = cv σ 1 4 j := rfl
    have V5 : cv (ngM (ngC σ (h ||| 1 <<< k) k a bg) (h ||| 1 <<< k) k a bg) 1 5 j = cv σ 1 5 j := rfl
    have W1 : mv (ngM (ngC σ (h ||| 1 <<< k) k a bg) (h ||| 1 <<< k) k a bg) 1 j = if j = k then nI a else mv σ 1 j := rfl
    have W2 : mv (ngM (ngC σ (h ||| 1 <<< k) k a bg) (h ||| 1 <<< k) k a bg) 2 j = if j = k then nI bg else mv σ 2 j := rfl
    have W3 : mv (ngM (ngC σ (h ||| 1 <<< k) k a bg) (h ||| 1 <<< k) k a bg) 3 j = mv σ 3 j := rfl
    have W4 : mv (ngM (ngC σ (h ||| 1 <<< k) k a bg) (h ||| 1 <<< k) k a bg) 4 j = mv σ 4 j := rfl
    have W5 : mv (ngM (ngC σ (h ||| 1 <<< k) k a bg) (h ||| 1 <<< k) k a bg) 5 j = mv σ 5 j := rfl
    unfold PK
    rw [V1, V2, V3, V4, V5, W1, W2, W3, W4, W5]
    by_cases hjk : j = k
    · subst hjk
      refine ⟨fun _ => ?_, fun hf => by rw [up j hb] at hf; cases hf⟩
      obtain ⟨a0, bg0, hp, rb, y1, y2, y3, y4, y5, y6, y7, y8, y9, y10, y11, y12, y13, y14⟩ := (q4 j hj).1 hb
      refine ⟨a, bg, hp, rb, ha, hb1, hb2, y4, y5, if_pos rfl, if_pos rfl, if_pos rfl, if_pos rfl, y10, y11, y12, y13, fun ho => ⟨(y14 ho).1, (y14 ho).2.imp id (fun ⟨q, z1, z2, z3⟩ => ⟨q, z1, z2, up q z3⟩)⟩⟩
    · rw [if_neg hjk, if_neg hjk, if_neg hjk, if_neg hjk, hne j hjk]
      refine ⟨fun hj1 => ?_, (q4 j hj).2⟩
      obtain ⟨a0, bg0, hp, rb, y1, y2, y3, y4, y5, y6, y7, y8, y9, y10, y11, y12, y13, y14⟩ := (q4 j hj).1 hj1
      exact ⟨a0, bg0, hp, rb, y1, y2, y3, y4, y5, y6, y7, y8, y9, y10, y11, y12, y13, fun ho => ⟨(y14 ho).1, (y14 ho).2.imp id (fun ⟨q, z1, z2, z3⟩ => ⟨q, z1, z2, up q z3⟩)⟩⟩
  · refine ⟨h ||| 1 <<< k, o, d, l, f, s, h64, h2, h3, h4, h5, h6, rfl, rfl, e3, e4, e5, e6, e7, e8, e9, e10, e11, e12, fun j hj => up j (q1 j hj), fun j hj => up j (q2 j hj), fun j hj => up j (q3 j hj), fun j hj => ?_, q5⟩
    have V1 : cv (ngM (ngR (ngC σ (h ||| 1 <<< k) k a bg) k) (h ||| 1 <<< k) k a bg) 1 1 j = if j = k then nI a else cv σ 1 1 j := rfl
    have V2 : cv (ngM (ngR (ngC σ (h ||| 1 <<< k) k a bg) k) (h ||| 1 <<< k) k a bg) 1 2 j = if j = k then nI bg else cv σ 1 2 j := rfl
    have V3 : cv (ngM (ngR (ngC σ (h ||| 1 <<< k) k a bg) k) (h ||| 1 <<< k) k a bg) 1 3 j = cv σ 1 3 j := rfl
    have V4 : cv (ngM (ngR (ngC σ (h ||| 1 <<< k) k a bg) k) (h ||| 1 <<< k) k a bg) 1 4 j = cv σ 1 4 j := rfl
    have V5 : cv (ngM (ngR (ngC σ (h ||| 1 <<< k) k a bg) k) (h ||| 1 <<< k) k a bg) 1 5 j = cv σ 1 5 j := rfl
    have W1 : mv (ngM (ngR (ngC σ (h ||| 1 <<< k) k a bg) k) (h ||| 1 <<< k) k a bg) 1 j = if j = k then nI a else mv σ 1 j := rfl
    have W2 : mv (ngM (ngR (ngC σ (h ||| 1 <<< k) k a bg) k) (h ||| 1 <<< k) k a bg) 2 j = if j = k then nI bg else mv σ 2 j := rfl
    have W3 : mv (ngM (ngR (ngC σ (h ||| 1 <<< k) k a bg) k) (h ||| 1 <<< k) k a bg) 3 j = if j = k then 0 else mv σ 3 j := rfl
    have W4 : mv (ngM (ngR (ngC σ (h ||| 1 <<< k) k a bg) k) (h ||| 1 <<< k) k a bg) 4 j = if j = k then 0 else mv σ 4 j := rfl
    have W5 : mv (ngM (ngR (ngC σ (h ||| 1 <<< k) k a bg) k) (h ||| 1 <<< k) k a bg) 5 j = if j = k then -6 else mv σ 5 j := rfl
    unfold PK
    rw [V1, V2, V3, V4, V5, W1, W2, W3, W4, W5]
    by_cases hjk : j = k
    · subst hjk
      refine ⟨fun _ => ?_, fun hf => by rw [tb_or] at hf; simp at hf⟩
      obtain ⟨y1, y2, y3, y4, -⟩ := (q4 j hj).2 hb
      exact ⟨a, bg, 0, 0, ha, hb1, hb2, Nat.zero_le _, by decide, if_pos rfl, if_pos rfl, if_pos rfl, if_pos rfl, y3, if_pos rfl, y4, if_pos rfl, fun ho => by rw [q1 j ho] at hb; cases hb⟩
    · rw [if_neg hjk, if_neg hjk, if_neg hjk, if_neg hjk, if_neg hjk, if_neg hjk, if_neg hjk, hne j hjk]
      refine ⟨fun hj1 => ?_, (q4 j hj).2⟩
      obtain ⟨a0, bg0, hp, rb, y1, y2, y3, y4, y5, y6, y7, y8, y9, y10, y11, y12, y13, y14⟩ := (q4 j hj).1 hj1
      exact ⟨a0, bg0, hp, rb, y1, y2, y3, y4, y5, y6, y7, y8, y9, y10, y11, y12, y13, fun ho => ⟨(y14 ho).1, (y14 ho).2.imp id (fun ⟨q, z1, z2, z3⟩ => ⟨q, z1, z2, up q z3⟩)⟩⟩
theorem pc_neighbour : PC_neighbour := by
  intro N g σ a1 a2 a3 hN hI
  rcases wi_cases a1 0 5 with ⟨hw1, c1, c2⟩ | ⟨hw1, -⟩
  rotate_left
  · refine ⟨-1, σ, σ, ?_, ?_, Inv_mono hI⟩
    · unfold f_X5_neighbour; rw [hw1]; rfl
    · unfold f_X6_neighbour; rw [in_eq, hw1]; rfl
  rcases wi_cases a2 0 99 with ⟨hw2, c3, c4⟩ | ⟨hw2, -⟩
  rotate_left
  · refine ⟨-2, σ, σ, ?_, ?_, Inv_mono hI⟩
    · unfold f_X5_neighbour; rw [hw1, hw2]; rfl
    · unfold f_X6_neighbour; rw [in_eq, hw1, hw2]; rfl
  rcases wi_cases a3 1 20 with ⟨hw3, c5, c6⟩ | ⟨hw3, -⟩
  rotate_left
  · refine ⟨-2, σ, σ, ?_, ?_, Inv_mono hI⟩
    · unfold f_X5_neighbour; rw [hw1, hw2, hw3]; rfl
    · unfold f_X6_neighbour; rw [in_eq, hw1, hw2, hw3]; rfl
  obtain ⟨k, -, hk, rfl⟩ := nI_btw (lo := 0) (hi := 5) (by decide) c1 c2 (by decide)
  obtain ⟨a, -, ha, rfl⟩ := nI_btw (lo := 0) (hi := 99) (by decide) c3 c4 (by decide)
  obtain ⟨bg, hb1, hb2, rfl⟩ := nI_btw (lo := 1) (hi := 20) (by decide) c5 c6 (by decide)
  have hk : k < 6 := by omega
  obtain ⟨h, o, d, l, f, s, h1, h2, h3, h4, h5, h6, e1, e2, e3, e4, e5, e6, e7, e8, e9, e10, e11, e12, q1, q2, q3, q4, q5⟩ := hI.1
  have E1 : σ 1 8 = nI h := e1
  have E2 : σ 29 0 = nI h := e2
  obtain ⟨r, hr1, hr2⟩ := bits_tab _ (or_tab h h1 k hk).2
  have hkc : (nI k).toNatClampNeg = k := nI_clamp (by omega)
  have hA : f_X5_neighbour (nI k) (nI a) (nI bg) σ = some (r, ngC σ (h ||| 1 <<< k) k a bg) := by
    unfold f_X5_neighbour f_X0_settle f_X0_count
    rw [hw1, bnd_some, if_pos (by decide), hw2, bnd_some, if_neg (by decide), hw3, bnd_some, if_pos (by decide), E1, (or_tab h h1 k hk).1, nm_eq, gi_in hk (by decide), nm_eq, gi_in hk (by decide), nm_eq, bnd_some, hkc]
    show Option.bind (Option.bind (f_J6_bitCount_0f7a4 (nI (h ||| 1 <<< k))) _) _ = _
    rw [hr1]
    rfl
  have hX : ∀ ρ : St, ρ 29 0 = nI h → (∃ σ2, σ2 = ngM ρ (h ||| 1 <<< k) k a bg ∧ Option.bind (α := St) (some ρ) (fun (j5 : St) => nm (up2 j5 29 0 ((j5 29 0) ||| ((1 : Int32) <<< (nI k &&& 31)))) (fun σ6 => gi (nI k) 6 (nm (up2 σ6 32 (nI k).toNatClampNeg (nI a)) (fun σ7 => gi (nI k) 6 (nm (up2 σ7 30 (nI k).toNatClampNeg (nI bg)) (fun σ8 => Option.bind (f_X6_bits (σ8 29 0)) (fun r9 => some ((r9, σ8))))))))) = some (r, σ2)) := by
    intro ρ hρ
    refine ⟨_, rfl, ?_⟩
    rw [bnd_some, hρ, (or_tab h h1 k hk).1, nm_eq, gi_in hk (by decide), nm_eq, gi_in hk (by decide), nm_eq, hkc]
    show Option.bind (f_X6_bits (nI (h ||| 1 <<< k))) _ = _
    rw [hr2]
    rfl
  have hpad : ∀ ρ, PAD ρ → PAD (ngM ρ (h ||| 1 <<< k) k a bg) := fun ρ hp => PAD_congr hp rfl rfl (fun _ => rfl) (fun _ => rfl)
  have hpadC : PAD (ngC σ (h ||| 1 <<< k) k a bg) := PAD_congr hI.2.1 rfl rfl (fun _ => rfl) (fun _ => rfl)
  by_cases hb : h.testBit k = true
  · obtain ⟨σ2, rfl, hM⟩ := hX (ngC σ (h ||| 1 <<< k) k a bg) E2
    refine ⟨r, _, _, hA, ?_, Inv_mono ⟨ng_LR hk ha hb1 hb2 h1 h2 h3 h4 h5 h6 e3 e4 e5 e6 e7 e8 e9 e10 e11 e12 q1 q2 q3 q4 q5 (Or.inl ⟨hb, rfl⟩), hpad _ hpadC, ?_⟩⟩
    · unfold f_X6_neighbour
      have x1 : ngC σ (h ||| 1 <<< k) k a bg 29 0 = nI h := E2
      rw [in_eq, hw1, bnd_some, if_pos (by decide), hw2, bnd_some, if_neg (by decide), hw3, bnd_some, if_pos (by decide), x1, mhas_in h1 hk, if_pos hb, bnd_some, if_pos (by decide)]
      exact hM
    · exact IM_congr hI.2.2 (fun _ => rfl) (fun _ => rfl) (fun c j hc => by unfold ngM ngC; rw [up2_out (by omega), up2_out (by omega), up2_out (by omega), up2_out (by omega), up2_out (by omega), up2_out (by omega)])
  · have hb : h.testBit k = false := by simpa using hb
    obtain ⟨σ2, rfl, hM⟩ := hX (ngR (ngC σ (h ||| 1 <<< k) k a bg) k) E2
    refine ⟨r, _, _, hA, ?_, Inv_mono ⟨ng_LR hk ha hb1 hb2 h1 h2 h3 h4 h5 h6 e3 e4 e5 e6 e7 e8 e9 e10 e11 e12 q1 q2 q3 q4 q5 (Or.inr ⟨hb, rfl⟩), hpad _ (PAD_congr hpadC rfl rfl (fun _ => rfl) (fun _ => rfl)), ?_⟩⟩
    · unfold f_X6_neighbour
      have x1 : ngC σ (h ||| 1 <<< k) k a bg 29 0 = nI h := E2
      rw [in_eq, hw1, bnd_some, if_pos (by decide), hw2, bnd_some, if_neg (by decide), hw3, bnd_some, if_pos (by decide), x1, mhas_in h1 hk, hb, bnd_some, if_neg (by decide), gi_in hk (by decide), nm_eq, gi_in hk (by decide), nm_eq, gi_in hk (by decide), nm_eq, hkc]
      rw [hkc] at hM
      exact hM
    · exact IM_congr hI.2.2 (fun _ => rfl) (fun _ => rfl) (fun c j hc => by unfold ngM ngR ngC; rw [up2_out (by omega), up2_out (by omega), up2_out (by omega), up2_out (by omega), up2_out (by omega), up2_out (by omega), up2_out (by omega), up2_out (by omega), up2_out (by omega)])
