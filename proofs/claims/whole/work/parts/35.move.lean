/-! ===== loops that count; move ===== -/
theorem loop_to {S X : Type} {body : S → Option (S ⊕ X)} (st : Nat → S) (n : Nat) (x : X) (hs : ∀ i, i < n → body (st i) = some (.inl (st (i + 1)))) (he : body (st n) = some (.inr x)) : ∀ fuel, n < fuel → loop body fuel (st 0) = some x := by
  have key : ∀ m i, i + m = n → ∀ fuel, m < fuel → loop body fuel (st i) = some x := by
    intro m
    induction m with
    | zero =>
      intro i hi fuel hf
      obtain ⟨f, rfl⟩ : ∃ f, fuel = f + 1 := ⟨fuel - 1, by omega⟩
      have hi : i = n := by omega
      subst hi
      unfold loop
      rw [he]
      rfl
    | succ m ih =>
      intro i hi fuel hf
      obtain ⟨f, rfl⟩ : ∃ f, fuel = f + 1 := ⟨fuel - 1, by omega⟩
      unfold loop
      rw [hs i (by omega)]
      exact ih (i + 1) (by omega) f (by omega)
  intro fuel hf
  exact key n 0 (by omega) fuel hf
def mvS (σ : St) (cr cl : Nat) (m kk : Int32) (i : Nat) : St := fun c j => if c = cr ∧ j < i then σ cr j &&& m else if c = cl ∧ j < i then (if σ cl j = kk then -6 else σ cl j) else σ c j
theorem mvS_0 (σ : St) (cr cl : Nat) (m kk : Int32) : mvS σ cr cl m kk 0 = σ := by
  funext c j
  simp [mvS]
theorem mvS_s {σ : St} {cr cl : Nat} {m kk : Int32} {i : Nat} (hc : cr ≠ cl) : up2 (up2 (mvS σ cr cl m kk i) cr i (σ cr i &&& m)) cl i (if σ cl i = kk then -6 else σ cl i) = mvS σ cr cl m kk (i + 1) := by
  funext c j
  by_cases h1 : c = cl
  · subst h1
    by_cases hj : j = i
    · subst hj
      simp [mvS, up2, upd, Ne.symm hc]
    · have : (j < i + 1) = (j < i) := by apply propext; omega
      simp [mvS, up2, upd, Ne.symm hc, hj, this]
  · by_cases h2 : c = cr
    · subst h2
      by_cases hj : j = i
      · subst hj
        simp [mvS, up2, upd, hc]
      · have : (j < i + 1) = (j < i) := by apply propext; omega
        simp [mvS, up2, upd, hc, hj, this]
    · simp [mvS, up2, h1, h2]
theorem mvS_s2 {σ : St} {cr cl : Nat} {m kk : Int32} {i : Nat} (hc : cr ≠ cl) (hne : ¬ σ cl i = kk) : up2 (mvS σ cr cl m kk i) cr i (σ cr i &&& m) = mvS σ cr cl m kk (i + 1) := by
  rw [← mvS_s hc, if_neg hne]
  funext c j
  by_cases h1 : c = cl
  · subst h1
    by_cases hj : j = i
    · subst hj
      simp [mvS, up2, upd, Ne.symm hc]
    · simp [up2, upd, Ne.symm hc, hj]
  · simp [up2, h1]
theorem mvS_r (σ : St) (cr cl : Nat) (m kk : Int32) (i : Nat) : mvS σ cr cl m kk i cr i = σ cr i := by simp [mvS]
theorem mvS_l (σ : St) (cr cl : Nat) (m kk : Int32) (i : Nat) : mvS σ cr cl m kk i cl i = σ cl i := by simp [mvS]
theorem leave_loop {σ : St} {kk m : Int32} {b : Nat} : loop (fun s : Int32 × St => l_X0_leave_76 b kk m s.1 s.2) 400 (0, σ) = some (mvS σ (b + 4) (b + 5) m kk 6) := by
  have h := loop_to (body := fun s : Int32 × St => l_X0_leave_76 b kk m s.1 s.2) (fun i => (nI i, mvS σ (b + 4) (b + 5) m kk i)) 6 (mvS σ (b + 4) (b + 5) m kk 6) (fun i hi => ?_) ?_ 400 (by decide)
  · rw [mvS_0] at h
    exact h
  · show l_X0_leave_76 b kk m (nI i) (mvS σ (b + 4) (b + 5) m kk i) = some (.inl (nI (i + 1), mvS σ (b + 4) (b + 5) m kk (i + 1)))
    unfold l_X0_leave_76
    have hl : up2 (mvS σ (b + 4) (b + 5) m kk i) (b + 4) i (σ (b + 4) i &&& m) (b + 5) i = σ (b + 5) i := by
      rw [up2_out (by omega), mvS_l]
    rw [if_neg (six_le hi), gi_in hi (by decide), gi_in hi (by decide), nm_eq, gi_in hi (by decide), nI_clamp (by omega), mvS_r, hl, nI_1]
    by_cases hc : σ (b + 5) i = kk
    · rw [if_neg (fun q => q hc), gi_in hi (by decide), nm_eq, bnd_some]
      have := mvS_s (σ := σ) (m := m) (kk := kk) (i := i) (show b + 4 ≠ b + 5 by omega)
      rw [if_pos hc] at this
      rw [this]
    · rw [if_pos hc, bnd_some, mvS_s2 (by omega) hc]
  · show l_X0_leave_76 b kk m (nI 6) _ = _
    unfold l_X0_leave_76
    rw [if_pos (by decide)]
theorem move_loop {σ : St} {kk : Int32} : loop (fun s : Int32 × St => l_X6_move_68 kk s.1 s.2) 400 (0, σ) = some (mvS σ 34 35 (((1 : Int32) <<< (kk &&& 31)) ^^^ (-1 : Int32)) kk 6) := by
  have h := loop_to (body := fun s : Int32 × St => l_X6_move_68 kk s.1 s.2) (fun i => (nI i, mvS σ 34 35 (((1 : Int32) <<< (kk &&& 31)) ^^^ (-1 : Int32)) kk i)) 6 (mvS σ 34 35 (((1 : Int32) <<< (kk &&& 31)) ^^^ (-1 : Int32)) kk 6) (fun i hi => ?_) ?_ 400 (by decide)
  · rw [mvS_0] at h
    exact h
  · show l_X6_move_68 kk (nI i) (mvS σ 34 35 _ kk i) = some (.inl (nI (i + 1), mvS σ 34 35 _ kk (i + 1)))
    unfold l_X6_move_68
    have hl : ∀ m, up2 (mvS σ 34 35 m kk i) 34 i (σ 34 i &&& m) 35 i = σ 35 i := fun m => by
      rw [up2_out (by omega), mvS_l]
    rw [if_neg (six_le hi), gi_in hi (by decide), gi_in hi (by decide), nm_eq, gi_in hi (by decide), nI_clamp (by omega), mvS_r, hl, nI_1]
    have hs := mvS_s (σ := σ) (m := (((1 : Int32) <<< (kk &&& 31)) ^^^ (-1 : Int32))) (kk := kk) (i := i) (show 34 ≠ 35 by decide)
    by_cases hc : σ 35 i = kk
    · rw [if_neg (fun q => q hc), bnd_some, gi_in hi (by decide), nm_eq]
      rw [if_pos hc] at hs
      rw [hs]
    · rw [if_pos hc, gi_in hi (by decide), bnd_some, gi_in hi (by decide), nm_eq]
      rw [if_neg hc] at hs
      rw [hs]
  · show l_X6_move_68 kk (nI 6) _ = _
    unfold l_X6_move_68
    rw [if_pos (by decide)]
