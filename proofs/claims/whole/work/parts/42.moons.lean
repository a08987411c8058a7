/-! ===== moons ===== -/
def pop (h : Nat) : Nat := (if h.testBit 0 then 1 else 0) + (if h.testBit 1 then 1 else 0) + (if h.testBit 2 then 1 else 0) + (if h.testBit 3 then 1 else 0) + (if h.testBit 4 then 1 else 0) + (if h.testBit 5 then 1 else 0)
theorem pop_tab : ∀ h, h < 64 → f_J6_bitCount_0f7a4 (nI h) = some (nI (pop h)) ∧ f_X6_bits (nI h) = some (nI (pop h)) ∧ pop h ≤ 6 ∧ (h ≠ 0 → 1 ≤ pop h) := by decide +kernel
theorem jmax1 : ∀ n, n < 7 → 1 ≤ n → jmax 1 (nI n) = nI n ∧ ¬ nI n = 0 := by decide +kernel
def cntP (P : Nat → Bool) : Nat → Nat
  | 0 => 0
  | n + 1 => cntP P n + (if P n = true then 1 else 0)
theorem cntP_s {P : Nat → Bool} {i : Nat} : (if P i = true then nI (cntP P i) + 1 else nI (cntP P i)) = nI (cntP P (i + 1)) := by
  show _ = nI (cntP P i + (if P i = true then 1 else 0))
  by_cases h : P i = true
  · rw [if_pos h, if_pos h, nI_1]
  · rw [if_neg h, if_neg h]; rfl
def LSm (h : Nat) (hp : Nat → Nat) (k q : Nat) : Bool := h.testBit q && (decide (hp q < hp k) || (decide (hp q = hp k) && decide (q < k)))
theorem smaller_eq {B h o d l f s b k : Nat} {ap bg hp rb : Nat → Nat} {W : VW} {σ : St} (hB : B < 2 ^ 30) (H : LM B h o d l f s ap bg hp rb (cv σ b) W) (hk : k < 6) (hbk : h.testBit k = true) : f_X0_smallerHeaps b (nI k) σ = some (nI (cntP (LSm h hp k) 6)) := by
  obtain ⟨⟨h1, -⟩, ⟨e1, -⟩, -, p1, -, -⟩ := H
  have hkc : (nI k).toNatClampNeg = k := nI_clamp (by omega)
  obtain ⟨⟨-, -, -, xk, -⟩, -, -, ⟨yk, -⟩, -⟩ := p1 k hk hbk
  have yk : σ (b + 3) k = nI (hp k) := yk
  have hl : loop (fun s : Int32 × Int32 => l_X0_smallerHeaps_4 b (nI k) σ s.1 s.2) 400 (0, 0) = some (nI (cntP (LSm h hp k) 6)) := by
    refine loop_to (body := fun s : Int32 × Int32 => l_X0_smallerHeaps_4 b (nI k) σ s.1 s.2) (fun i => (nI (cntP (LSm h hp k) i), nI i)) 6 _ (fun i hi => ?_) ?_ 400 (by decide)
    · show l_X0_smallerHeaps_4 b (nI k) σ (nI _) (nI i) = some (.inl (nI _, nI (i + 1)))
      unfold l_X0_smallerHeaps_4
      have hic : (nI i).toNatClampNeg = i := nI_clamp (by omega)
      rw [if_neg (six_le hi)]
      simp only [gi_in hi (show 6 < 2 ^ 31 by decide), gi_in hk (show 6 < 2 ^ 31 by decide), hic, hkc, has_in (b := b) (σ := σ) h1 hi e1, bnd_some, nI_1, yk]
      rw [← cntP_s]
      by_cases hb : h.testBit i = true
      · obtain ⟨⟨-, -, -, xi, -⟩, -, -, ⟨yi, -⟩, -⟩ := p1 i hi hb
        have yi : σ (b + 3) i = nI (hp i) := yi
        rw [yi]
        simp only [LSm, hb, if_true, Bool.true_and, nI_leI (show hp k < 2 ^ 31 by omega) (show hp i < 2 ^ 31 by omega), nI_eq (show hp i < 2 ^ 31 by omega) (show hp k < 2 ^ 31 by omega), nI_leI (show k < 2 ^ 31 by omega) (show i < 2 ^ 31 by omega)]
        by_cases c1 : hp k ≤ hp i
        · have c1' : ¬ hp i < hp k := by omega
          by_cases c2 : hp i = hp k
          · by_cases c3 : k ≤ i
            · have c3' : ¬ i < k := by omega
              simp [c2, c3, c3']
            · have c3' : i < k := by omega
              simp [c2, c3, c3', nI_1]
          · simp [c1, c1', c2]
        · have c1' : hp i < hp k := by omega
          have c2 : ¬ hp i = hp k := by omega
          simp [c1, c1', c2, nI_1]
      · have hbf : h.testBit i = false := by simpa using hb
        simp only [LSm, hbf, Bool.false_and]
        by_cases c1 : nI (hp k) ≤ σ (b + 3) i <;> by_cases c2 : σ (b + 3) i = nI (hp k) <;> by_cases c3 : nI k ≤ nI i <;> simp [c1, c2, c3]
    · show l_X0_smallerHeaps_4 b (nI k) σ _ (nI 6) = _
      unfold l_X0_smallerHeaps_4
      rw [if_pos (by decide)]
  unfold f_X0_smallerHeaps
  rw [hl]
  rfl
theorem moons_loop {B h o d l f s k : Nat} {ap bg hp rb : Nat → Nat} {V : VW} {σ : St} (hB : B < 2 ^ 30) (H : LM B h o d l f s ap bg hp rb V (mv σ)) (hk : k < 6) (hbk : h.testBit k = true) : loop (fun s : Int32 × Int32 => l_X6_moons_28 (nI k) σ s.1 s.2) 400 (0, 0) = some (nI (cntP (LSm h hp k) 6)) := by
  obtain ⟨⟨h1, -⟩, ⟨-, e2, -⟩, -, p1, -, -⟩ := H
  have e2 : σ 29 0 = nI h := e2
  have hkc : (nI k).toNatClampNeg = k := nI_clamp (by omega)
  obtain ⟨⟨-, -, -, xk, -⟩, -, -, ⟨-, yk⟩, -⟩ := p1 k hk hbk
  have yk : σ 33 k = nI (hp k) := yk
  refine loop_to (body := fun s : Int32 × Int32 => l_X6_moons_28 (nI k) σ s.1 s.2) (fun i => (nI (cntP (LSm h hp k) i), nI i)) 6 _ (fun i hi => ?_) ?_ 400 (by decide)
  · show l_X6_moons_28 (nI k) σ (nI _) (nI i) = some (.inl (nI _, nI (i + 1)))
    unfold l_X6_moons_28
    have hic : (nI i).toNatClampNeg = i := nI_clamp (by omega)
    rw [if_neg (six_le hi)]
    simp only [gi_in hi (show 6 < 2 ^ 31 by decide), gi_in hk (show 6 < 2 ^ 31 by decide), hic, hkc, e2, mhas_in h1 hi, bnd_some, nI_1, yk]
    rw [← cntP_s]
    by_cases hb : h.testBit i = true
    · obtain ⟨⟨-, -, -, xi, -⟩, -, -, ⟨-, yi⟩, -⟩ := p1 i hi hb
      have yi : σ 33 i = nI (hp i) := yi
      rw [yi]
      simp only [LSm, hb, if_true, Bool.true_and, nI_ltI (show hp i < 2 ^ 31 by omega) (show hp k < 2 ^ 31 by omega), nI_eq (show hp i < 2 ^ 31 by omega) (show hp k < 2 ^ 31 by omega), nI_leI (show k < 2 ^ 31 by omega) (show i < 2 ^ 31 by omega)]
      by_cases c1 : hp i < hp k
      · simp [c1]
      · by_cases c2 : hp i = hp k
        · by_cases c3 : k ≤ i
          · have c3' : ¬ i < k := by omega
            simp [c2, c3, c3']
          · have c3' : i < k := by omega
            simp [c2, c3, c3']
        · simp [c1, c2]
    · have hbf : h.testBit i = false := by simpa using hb
      simp only [LSm, hbf, Bool.false_and]
      by_cases c1 : σ 33 i < nI (hp k) <;> by_cases c2 : σ 33 i = nI (hp k) <;> by_cases c3 : nI k ≤ nI i <;> simp [c1, c2, c3]
  · show l_X6_moons_28 (nI k) σ _ (nI 6) = _
    unfold l_X6_moons_28
    rw [if_pos (by decide)]
theorem pc_moons : PC_moons := by
  intro N g σ a1 a2 hN hI
  suffices hh : ∃ r, f_X5_moons a1 a2 σ = some r ∧ f_X6_moons a1 a2 σ = some r by
    obtain ⟨r, ha, hb⟩ := hh
    exact ⟨r, ha, hb, Inv_mono hI⟩
  have hL := hI.1
  rcases there (x := a1) hL (σ := σ) (σ' := σ) rfl rfl with ⟨u1, u2⟩ | ⟨h', k, hh, hk, rfl, v1, w1, b1, u1, u2⟩
  · refine ⟨-1, ?_, ?_⟩
    · unfold f_X5_moons; rw [u1]; rfl
    · unfold f_X6_moons; rw [u2]; rfl
  rcases wi_cases a2 0 60 with ⟨hw, c1, c2⟩ | ⟨hw, -⟩
  · obtain ⟨h, o, d, l, f, s, ap, bg, hp, rb, H⟩ := LR_LM hI.1
    obtain ⟨⟨h1, -⟩, ⟨e1, e2, -⟩, -⟩ := id H
    have hhe : h' = h := (nI_eq (by omega) (by omega)).mp (v1.symm.trans e1)
    subst hhe
    have h0 : h' ≠ 0 := fun z => by rw [z] at b1; simp at b1
    obtain ⟨t1, t2, t3, t4⟩ := pop_tab h' h1
    obtain ⟨j1, j2⟩ := jmax1 (pop h') (by omega) (t4 h0)
    have gzz : ∀ {α : Type} (z : Option α), gz (nI (pop h')) z = z := fun z => by unfold gz; rw [if_neg j2]
    refine ⟨(a2 / nI (pop h')) + (if jrem a2 (nI (pop h')) ≤ nI (cntP (LSm h' hp k) 6) then 0 else 1), ?_, ?_⟩
    · unfold f_X5_moons f_X0_count
      rw [u1, bnd_some, if_pos (by decide), hw, bnd_some, if_pos (by decide), smaller_eq (b := 1) (σ := σ) (by omega) H hk b1, show σ 1 8 = nI h' from e1, t1]
      simp only [bnd_some, j1, gzz]
      by_cases c : jrem a2 (nI (pop h')) ≤ nI (cntP (LSm h' hp k) 6)
      · simp only [if_pos c, bnd_some]
      · simp only [if_neg c, bnd_some]
    · unfold f_X6_moons
      rw [u2, bnd_some, if_pos (by decide), in_eq, hw, bnd_some, if_pos (by decide), moons_loop (by omega) H hk b1, show σ 29 0 = nI h' from e2, t2]
      simp only [bnd_some, gzz]
      by_cases c : jrem a2 (nI (pop h')) ≤ nI (cntP (LSm h' hp k) 6)
      · simp only [if_pos c, bnd_some]
      · simp only [if_neg c, bnd_some]
  · refine ⟨-2, ?_, ?_⟩
    · unfold f_X5_moons; rw [u1, bnd_some, if_pos (by decide), hw]; rfl
    · unfold f_X6_moons; rw [u2, bnd_some, if_pos (by decide), in_eq, hw]; rfl
