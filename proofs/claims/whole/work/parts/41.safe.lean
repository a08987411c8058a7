/-! ===== safe ===== -/
theorem or64 : ∀ x, x < 64 → ∀ y, y < 64 → (nI x ||| nI y) = nI (x ||| y) ∧ x ||| y < 64 := by decide +kernel
theorem eq64 {x y : Nat} (hx : x < 64) (hy : y < 64) (h : ∀ j, j < 6 → x.testBit j = y.testBit j) : x = y := by
  apply Nat.eq_of_testBit_eq
  intro j
  by_cases hj : j < 6
  · exact h j hj
  · have hp : 2 ^ 6 ≤ 2 ^ j := Nat.pow_le_pow_right (by decide) (by omega)
    rw [Nat.testBit_lt_two_pow (by omega), Nat.testBit_lt_two_pow (by omega)]
theorem b2_z (b : Bool) : (b2 b = 0) ↔ b = false := by cases b <;> decide
theorem mayRobOf_eq {B h o d l f s b k : Nat} {ap bg hp rb : Nat → Nat} {W : VW} {σ : St} (H : LM B h o d l f s ap bg hp rb (cv σ b) W) (hk : k < 6) : f_X0_mayRobOf b (nI k) σ = some (nI (bset (MRb h d l ap rb k) 6)) := by
  unfold f_X0_mayRobOf
  rw [bset_loop (P := MRb h d l ap rb k) (fun i hi => ?_) (fun x => ?_)]
  · rfl
  · show l_X0_mayRobOf_4 b (nI k) σ (nI (bset _ i)) (nI i) = _
    unfold l_X0_mayRobOf_4
    rw [if_neg (six_le hi), mayRob5_eq H hk hi, bnd_some, nI_1, ← bset_or hi, nm_eq]
    by_cases c : MRb h d l ap rb k i = true
    · rw [c]; rfl
    · have c : MRb h d l ap rb k i = false := by simpa using c
      rw [c]; rfl
  · show l_X0_mayRobOf_4 b (nI k) σ x 6 = _
    unfold l_X0_mayRobOf_4
    rw [if_pos (by decide)]
theorem thievesOf_eq {B h o d l f s b q : Nat} {ap bg hp rb : Nat → Nat} {W : VW} {σ : St} (H : LM B h o d l f s ap bg hp rb (cv σ b) W) (hq : q < 6) : f_X0_thievesOf b (nI q) σ = some (nI (bset (fun k => MRb h d l ap rb k q) 6)) := by
  unfold f_X0_thievesOf
  rw [bset_loop (P := fun k => MRb h d l ap rb k q) (fun i hi => ?_) (fun x => ?_)]
  · rfl
  · show l_X0_thievesOf_4 b (nI q) σ (nI (bset _ i)) (nI i) = _
    unfold l_X0_thievesOf_4
    rw [if_neg (six_le hi), mayRob5_eq H hi hq, bnd_some, nI_1, ← bset_or hi, nm_eq]
    by_cases c : MRb h d l ap rb i q = true
    · rw [c]; rfl
    · have c : MRb h d l ap rb i q = false := by simpa using c
      rw [c]; rfl
  · show l_X0_thievesOf_4 b (nI q) σ x 6 = _
    unfold l_X0_thievesOf_4
    rw [if_pos (by decide)]
theorem BR_lt {h d l k q : Nat} {ap rb : Nat → Nat} : BR h d l ap rb k q < 2 ^ 31 := by
  unfold BR
  repeat' split
  all_goals omega
theorem mayRob6_eq {B h o d l f s k : Nat} {ap bg hp rb : Nat → Nat} {V : VW} {τ : St} (H : LM B h o d l f s ap bg hp rb V (nv τ)) (hk : k < 6) : f_X6_mayRob (nI k) τ = some (nI (bset (MRb h d l ap rb k) 6)) := by
  unfold f_X6_mayRob
  rw [bset_loop (P := MRb h d l ap rb k) (fun i hi => ?_) (fun x => ?_)]
  · rfl
  · show l_X6_mayRob_4 (nI k) τ (nI (bset _ i)) (nI i) = _
    unfold l_X6_mayRob_4
    rw [if_neg (six_le hi), bar_eq H hk hi, bnd_some, nI_1, ← bset_or hi]
    by_cases c : BR h d l ap rb k i = 0
    · rw [c, BR_z.mp c]; rfl
    · have c2 : ¬ MRb h d l ap rb k i = true := fun q => c (BR_z.mpr q)
      rw [if_pos (nI_ne0 (by omega) BR_lt), if_neg c2, bnd_some, or_z]
  · show l_X6_mayRob_4 (nI k) τ x 6 = _
    unfold l_X6_mayRob_4
    rw [if_pos (by decide)]
def uU (M : Nat → Nat) : Nat → Nat
  | 0 => 0
  | n + 1 => uU M n ||| M n
def uD (M : Nat → Nat) (h : Nat) : Nat → Nat
  | 0 => h
  | n + 1 => uD M h n &&& (63 ^^^ M n)
theorem uU_lt {M : Nat → Nat} (hM : ∀ k, M k < 64) : ∀ n, uU M n < 64 := by
  intro n
  induction n with
  | zero => exact (by decide : (0 : Nat) < 64)
  | succ n ih => exact (or64 _ ih _ (hM n)).2
theorem uD_lt {M : Nat → Nat} {h : Nat} (hh : h < 64) : ∀ n, uD M h n < 64 := by
  intro n
  induction n with
  | zero => exact hh
  | succ n ih => exact andn_lt ih
theorem uUD {M : Nat → Nat} {h j : Nat} (hj : j < 6) : ∀ n, (uD M h n).testBit j = (h.testBit j && !(uU M n).testBit j) := by
  intro n
  induction n with
  | zero => simp [uD, uU]
  | succ n ih =>
    unfold uD uU
    rw [andn_tb hj, ih, Nat.testBit_or]
    cases h.testBit j <;> cases (uU M n).testBit j <;> cases (M n).testBit j <;> rfl
theorem pc_safe : PC_safe := by
  intro N g σ hN hI
  obtain ⟨h, o, d, l, f, s, ap, bg, hp, rb, H⟩ := LR_LM (LR_now hI.1)
  have hM : ∀ k, bset (MRb h d l ap rb k) 6 < 64 := fun k => bset_lt _ 6 (by decide)
  obtain ⟨⟨h1, -⟩, ⟨e1, e2, -⟩, -⟩ := id H
  have c5 : loop (fun s : Int32 × Int32 => l_X5_safe_4 σ s.1 s.2) 400 (0, 0) = some (nI (uU (fun k => bset (MRb h d l ap rb k) 6) 6)) := by
    refine loop_to (body := fun s : Int32 × Int32 => l_X5_safe_4 σ s.1 s.2) (fun i => (nI (uU (fun k => bset (MRb h d l ap rb k) 6) i), nI i)) 6 _ (fun i hi => ?_) ?_ 400 (by decide)
    · show l_X5_safe_4 σ (nI _) (nI i) = _
      unfold l_X5_safe_4
      rw [if_neg (six_le hi), mayRobOf_eq H hi, bnd_some, nI_1, (or64 _ (uU_lt hM i) _ (hM i)).1]
      rfl
    · show l_X5_safe_4 σ _ (nI 6) = _
      unfold l_X5_safe_4
      rw [if_pos (by decide)]
  have c6 : loop (fun s : Int32 × Int32 => l_X6_safe_11 (anS σ) s.1 s.2) 400 (nI h, 0) = some (nI (uD (fun k => bset (MRb h d l ap rb k) 6) h 6)) := by
    refine loop_to (body := fun s : Int32 × Int32 => l_X6_safe_11 (anS σ) s.1 s.2) (fun i => (nI (uD (fun k => bset (MRb h d l ap rb k) 6) h i), nI i)) 6 _ (fun i hi => ?_) ?_ 400 (by decide)
    · show l_X6_safe_11 (anS σ) (nI _) (nI i) = _
      unfold l_X6_safe_11
      rw [if_neg (six_le hi), mayRob6_eq H hi, bnd_some, nm_eq, nI_1, andn_tab _ (uD_lt h1 i) _ (hM i)]
      rfl
    · show l_X6_safe_11 (anS σ) _ (nI 6) = _
      unfold l_X6_safe_11
      rw [if_pos (by decide)]
  have he : h &&& (63 ^^^ uU (fun k => bset (MRb h d l ap rb k) 6) 6) = uD (fun k => bset (MRb h d l ap rb k) 6) h 6 := eq64 (andn_lt h1) (uD_lt h1 6) (fun j hj => by rw [andn_tb hj, uUD hj])
  refine ⟨nI (uD (fun k => bset (MRb h d l ap rb k) 6) h 6), anS σ, ?_, ?_, Inv_next hI (Agr_anS σ)⟩
  · unfold f_X5_safe
    rw [c5, bnd_some, show σ 1 8 = nI h from e1, andn_tab h h1 _ (uU_lt hM 6), he]
  · unfold f_X6_safe
    rw [asNow_eq, bnd_some, show anS σ 29 0 = nI h from e2, c6]
    rfl
