/-! ===== sets built bit by bit; may, safe ===== -/
def bset (P : Nat → Bool) : Nat → Nat
  | 0 => 0
  | n + 1 => if P n = true then bset P n ||| 1 <<< n else bset P n
theorem bset_lt (P : Nat → Bool) : ∀ n, n ≤ 6 → bset P n < 64 := by
  intro n
  induction n with
  | zero => intro _; exact (by decide : (0 : Nat) < 64)
  | succ n ih =>
    intro hn
    unfold bset
    by_cases h : P n = true
    · rw [if_pos h]; exact (or_tab _ (ih (by omega)) n (by omega)).2
    · rw [if_neg h]; exact ih (by omega)
theorem bset_tb (P : Nat → Bool) : ∀ n j, (bset P n).testBit j = (decide (j < n) && P j) := by
  intro n
  induction n with
  | zero => intro j; simp [bset]
  | succ n ih =>
    intro j
    unfold bset
    by_cases h : P n = true
    · rw [if_pos h, tb_or, ih j]
      by_cases hj : n = j
      · subst hj; simp [h]
      · by_cases h2 : j < n
        · have : j < n + 1 := by omega
          simp [hj, h2, this]
        · have : ¬ j < n + 1 := by omega
          simp [hj, h2, this]
    · rw [if_neg h, ih j]
      by_cases hj : n = j
      · subst hj; simp [h]
      · by_cases h2 : j < n
        · have : j < n + 1 := by omega
          simp [h2, this]
        · have : ¬ j < n + 1 := by omega
          simp [h2, this]
theorem bset_or {P : Nat → Bool} {i : Nat} (hi : i < 6) : (if P i = true then nI (bset P i) ||| ((1 : Int32) <<< (nI i &&& 31)) else nI (bset P i)) = nI (bset P (i + 1)) := by
  show _ = nI (if P i = true then bset P i ||| 1 <<< i else bset P i)
  by_cases h : P i = true
  · rw [if_pos h, if_pos h, (or_tab _ (bset_lt P i (by omega)) i hi).1]
  · rw [if_neg h, if_neg h]
/-- a counting loop that gathers bits -/
theorem bset_loop {body : Int32 × Int32 → Option ((Int32 × Int32) ⊕ Int32)} {P : Nat → Bool} (hb : ∀ i, i < 6 → body (nI (bset P i), nI i) = some (.inl (nI (bset P (i + 1)), nI (i + 1)))) (he : ∀ x, body (x, 6) = some (.inr x)) : loop body 400 (0, 0) = some (nI (bset P 6)) :=
  loop_to (body := body) (fun i => (nI (bset P i), nI i)) 6 (nI (bset P 6)) hb (he _) 400 (by decide)
theorem canRob_eq {B h o d l f s b k : Nat} {ap bg hp rb : Nat → Nat} {W : VW} {σ : St} (H : LM B h o d l f s ap bg hp rb (cv σ b) W) (hk : k < 6) : f_X0_canRobNow b (nI k) σ = some (nI (bset (fun q => RB h o d l f ap rb k q == 0) 6)) := by
  unfold f_X0_canRobNow
  rw [bset_loop (P := fun q => RB h o d l f ap rb k q == 0) (fun i hi => ?_) (fun x => ?_)]
  · rfl
  · show l_X0_canRobNow_4 b (nI k) σ (nI (bset _ i)) (nI i) = _
    unfold l_X0_canRobNow_4
    rw [if_neg (six_le hi), robBar_eq H hk hi, bnd_some, nI_1, ← bset_or hi, nm_eq]
    have hr : RB h o d l f ap rb k i < 2 ^ 31 := by
      unfold RB
      repeat' split
      all_goals omega
    by_cases c : RB h o d l f ap rb k i = 0
    · rw [c]; rfl
    · rw [if_pos (nI_ne0 (by omega) hr), if_neg (by simpa using c)]; rfl
  · show l_X0_canRobNow_4 b (nI k) σ x 6 = _
    unfold l_X0_canRobNow_4
    rw [if_pos (by decide)]
theorem or_z (x : Int32) : x ||| 0 = x := by simp
theorem may6_loop {B h o d l f s k : Nat} {ap bg hp rb : Nat → Nat} {V : VW} {τ : St} (H : LM B h o d l f s ap bg hp rb V (nv τ)) (hk : k < 6) : loop (fun s : Int32 × Int32 => l_X6_may_18 (nI k) τ s.1 s.2) 400 (0, 0) = some (nI (bset (fun q => RB h o d l f ap rb k q == 0) 6)) := by
  refine bset_loop (P := fun q => RB h o d l f ap rb k q == 0) (fun i hi => ?_) (fun x => ?_)
  · show l_X6_may_18 (nI k) τ (nI (bset _ i)) (nI i) = _
    unfold l_X6_may_18
    rw [if_neg (six_le hi), whyNot_eq H hk hi, bnd_some, nI_1, ← bset_or hi]
    have hr : RB h o d l f ap rb k i < 2 ^ 31 := by
      unfold RB
      repeat' split
      all_goals omega
    by_cases c : RB h o d l f ap rb k i = 0
    · rw [c]; rfl
    · rw [if_pos (nI_ne0 (by omega) hr), if_neg (by simpa using c), bnd_some, or_z]
  · show l_X6_may_18 (nI k) τ x 6 = _
    unfold l_X6_may_18
    rw [if_pos (by decide)]
theorem pc_may : PC_may := by
  intro N g σ a1 hN hI
  have hL := hI.1
  rcases there (x := a1) hL (σ := σ) (σ' := σ) rfl rfl with ⟨u1, u2⟩ | ⟨h', k, hh, hk, rfl, v1, w1, b1, u1, u2⟩
  · refine ⟨-1, σ, ?_, ?_, Inv_mono hI⟩
    · unfold f_X5_may; rw [u1]; rfl
    · unfold f_X6_may; rw [u2]; rfl
  obtain ⟨h, o, d, l, f, s, ap, bg, hp, rb, H⟩ := LR_LM (LR_now hI.1)
  refine ⟨nI (bset (fun q => RB h o d l f ap rb k q == 0) 6), anS σ, ?_, ?_, Inv_next hI (Agr_anS σ)⟩
  · unfold f_X5_may
    rw [u1, bnd_some, if_neg (by decide), canRob_eq H hk]
    rfl
  · unfold f_X6_may
    rw [u2, bnd_some, if_pos (by decide), asNow_eq, bnd_some, may6_loop H hk]
    rfl
/-! who may rob whom, frost and outings aside -/
theorem mayRob5_eq {B h o d l f s b k q : Nat} {ap bg hp rb : Nat → Nat} {W : VW} {σ : St} (H : LM B h o d l f s ap bg hp rb (cv σ b) W) (hk : k < 6) (hq : q < 6) : f_X0_mayRob b (nI k) (nI q) σ = some (b2 (MRb h d l ap rb k q)) := by
  obtain ⟨⟨h1, h2, h3, h4, h5, h6⟩, ⟨e1, e2, e3, e4, e5, e6, e7, e8, e9, e10, e11, e12⟩, -, p1, -, -⟩ := H
  have hkc : (nI k).toNatClampNeg = k := nI_clamp (by omega)
  have hqc : (nI q).toNatClampNeg = q := nI_clamp (by omega)
  unfold f_X0_mayRob f_X0_hasTwo MRb
  rw [has_in (b := b) (σ := σ) h1 hk e1, has_in (b := b) (σ := σ) h1 hq e1, bnd_some, bnd_some]
  by_cases b1 : h.testBit k = true
  · by_cases b2' : h.testBit q = true
    · obtain ⟨⟨x1, x2, x3, x4, x5⟩, ⟨y1, -⟩, -, -, ⟨y7, -⟩, -⟩ := p1 k hk b1
      obtain ⟨⟨u1, u2, u3, u4, u5⟩, ⟨v1, -⟩, -, -, ⟨v7, -⟩, -⟩ := p1 q hq b2'
      have y7 : σ (b + 4) k = nI (rb k) := y7
      have v1 : σ (b + 1) q = nI (ap q) := v1
      rw [if_pos b1, if_pos b2', if_neg (by decide), if_neg (by decide), b1, b2']
      by_cases c : k = q
      · subst c
        rw [if_pos rfl]
        simp [b2]
      · have c' : ¬ nI k = nI q := fun z => c ((nI_eq (by omega) (by omega)).mp z)
        rw [if_neg c', bnd_some, if_neg (by decide), gi_in hk (by decide), hkc, y7, holds_in x5 hq, bnd_some]
        by_cases c3 : (rb k).testBit q = true
        · rw [if_pos c3, if_pos (by decide), c3]; simp [b2]
        · have c3f : (rb k).testBit q = false := by simpa using c3
          rw [if_neg c3, if_neg (by decide), guard_in (b := b) (σ := σ) h3 h4 hq e5 e7, bnd_some, c3f]
          by_cases c5 : (d.testBit q && !l.testBit q) = true
          · rw [if_pos c5, if_pos (by decide), c5]; simp [b2]
          · have c5f : (d.testBit q && !l.testBit q) = false := by simpa using c5
            rw [if_neg c5, if_neg (by decide), gi_in hq (by decide), hqc, v1, c5f]
            by_cases c6 : ap q = 0
            · rw [c6, if_pos (by decide)]; simp [b2]
            · rw [if_neg (nI_nle (by omega) (by omega))]; simp [b2, c, c6]
    · have b2f : h.testBit q = false := by simpa using b2'
      rw [if_pos b1, if_neg b2', if_neg (by decide), if_pos rfl, b2f]; simp [b2]
  · have b1f : h.testBit k = false := by simpa using b1
    rw [if_neg b1, if_pos rfl, b1f]; simp [b2]
theorem BR_z {h d l k q : Nat} {ap rb : Nat → Nat} : (BR h d l ap rb k q = 0) ↔ MRb h d l ap rb k q = true := by
  unfold BR MRb
  by_cases c1 : (h.testBit k && h.testBit q) = false
  · simp [c1]
  · have c1t : (h.testBit k && h.testBit q) = true := by simpa using c1
    rw [if_neg c1, c1t]
    by_cases c2 : k = q
    · simp [c2]
    · by_cases c3 : (rb k).testBit q = true
      · simp [c2, c3]
      · by_cases c5 : (d.testBit q && !l.testBit q) = true
        · simp [c2, c3, c5]
        · by_cases c6 : ap q = 0
          · simp [c2, c3, c5, c6]
          · simp [c2, c3, c5, c6]
