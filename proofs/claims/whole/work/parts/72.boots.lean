/-! ===== boots ===== -/
theorem p76 : (7 : Nat) ^ 6 = 117649 := by decide
theorem sumN_pos {G : Nat → Nat} : ∀ n, 0 < sumN G n ↔ ∃ i, i < n ∧ 0 < G i := by
  intro n
  induction n with
  | zero =>
    show 0 < 0 ↔ _
    constructor
    · intro h; omega
    · rintro ⟨i, hi, -⟩; omega
  | succ n ih =>
    show 0 < sumN G n + G n ↔ _
    constructor
    · intro h
      by_cases c : 0 < sumN G n
      · obtain ⟨i, h1, h2⟩ := ih.mp c
        exact ⟨i, by omega, h2⟩
      · exact ⟨n, by omega, by omega⟩
    · rintro ⟨i, h1, h2⟩
      by_cases c : i = n
      · subst c; omega
      · have := ih.mpr ⟨i, by omega, h2⟩
        omega
theorem rows_v {h s : Nat} {sq sa bg base : Nat → Nat} {abl : Nat → Nat → Bool} (hsq : ∀ i, i < s → sq i < 6) : sumN (cwW (okN h s sq sa abl bg base) 6 6) 64 = sumN (fun c => if vld h s sq sa abl bg base c = true then 1 else 0) 117649 := by
  rw [rows_eq, p76]
  exact sumN_eq _ (fun c _ => vld_prod hsq c)
theorem ways_v {h s S : Nat} {sq sa bg base : Nat → Nat} {abl : Nat → Nat → Bool} (hsq : ∀ i, i < s → sq i < 6) (hS : S < 64) : cwW (okN h s sq sa abl bg base) 6 6 S = sumN (fun c => if went 6 c = S then (if vld h s sq sa abl bg base c = true then 1 else 0) else 0) 117649 := by
  rw [ways_eq hS, p76]
  refine sumN_eq _ (fun c _ => ?_)
  unfold wgt
  rw [vld_prod hsq]
theorem ways_p {h s S : Nat} {sq sa bg base : Nat → Nat} {abl : Nat → Nat → Bool} (hsq : ∀ i, i < s → sq i < 6) (hS : S < 64) : 0 < cwW (okN h s sq sa abl bg base) 6 6 S ↔ ∃ c, c < 117649 ∧ vld h s sq sa abl bg base c = true ∧ went 6 c = S := by
  rw [ways_v hsq hS, sumN_pos]
  constructor
  · rintro ⟨c, h1, h2⟩
    by_cases e : went 6 c = S
    · rw [if_pos e] at h2
      by_cases e2 : vld h s sq sa abl bg base c = true
      · exact ⟨c, h1, e2, e⟩
      · rw [if_neg e2] at h2; omega
    · rw [if_neg e] at h2; omega
  · rintro ⟨c, h1, h2, h3⟩
    exact ⟨c, h1, by rw [if_pos h3, if_pos h2]; decide⟩
theorem cnt_le (P : Nat → Bool) : sumN (fun c => if P c = true then 1 else 0) 117649 ≤ 117649 := by
  have := sumN_bd (F := fun c => if P c = true then 1 else 0) (c := 1) 117649 (fun i _ => by
    show (if P i = true then 1 else 0) ≤ 1
    by_cases c : P i = true
    · rw [if_pos c]; exact Nat.le_refl _
    · rw [if_neg c]; exact Nat.zero_le _)
  omega
theorem ways_le {h s S : Nat} {sq sa bg base : Nat → Nat} {abl : Nat → Nat → Bool} (hsq : ∀ i, i < s → sq i < 6) (hS : S < 64) : cwW (okN h s sq sa abl bg base) 6 6 S ≤ 117649 := by
  rw [ways_v hsq hS]
  refine Nat.le_trans (sumN_le (G := fun c => if vld h s sq sa abl bg base c = true then 1 else 0) 117649 (fun c _ => ?_)) (cnt_le _)
  by_cases e : went 6 c = S
  · rw [if_pos e]; exact Nat.le_refl _
  · rw [if_neg e]; exact Nat.zero_le _
theorem some_eq {h s : Nat} {sq sa bg base : Nat → Nat} {abl : Nat → Nat → Bool} (hsq : ∀ i, i < s → sq i < 6) : orF (fun S => decide (0 < cwW (okN h s sq sa abl bg base) 6 6 S)) (fun S => S) 64 = orF (vld h s sq sa abl bg base) (went 6) 117649 := by
  refine eq64 (orF_lt 64 (fun i hi => hi)) (orF_lt _ (fun i _ => went_lt i)) (fun j hj => ?_)
  rw [Bool.eq_iff_iff, orF_tb, orF_tb]
  constructor
  · rintro ⟨S, h1, h2, h3⟩
    obtain ⟨c, y1, y2, y3⟩ := (ways_p hsq h1).mp (of_decide_eq_true h2)
    exact ⟨c, y1, y2, by rw [y3]; exact h3⟩
  · rintro ⟨c, h1, h2, h3⟩
    exact ⟨went 6 c, went_lt c, decide_eq_true ((ways_p hsq (went_lt c)).mpr ⟨c, h1, h2, rfl⟩), h3⟩
theorem every_eq {h s : Nat} {sq sa bg base : Nat → Nat} {abl : Nat → Nat → Bool} (hsq : ∀ i, i < s → sq i < 6) : andF (fun S => decide (0 < cwW (okN h s sq sa abl bg base) 6 6 S)) (fun S => S) 64 = andF (vld h s sq sa abl bg base) (went 6) 117649 := by
  refine eq64 (andF_lt 64) (andF_lt _) (fun j hj => ?_)
  rw [Bool.eq_iff_iff, andF_tb hj, andF_tb hj]
  constructor
  · intro hh c h1 h2
    exact hh (went 6 c) (went_lt c) (decide_eq_true ((ways_p hsq (went_lt c)).mpr ⟨c, h1, h2, rfl⟩))
  · intro hh S h1 h2
    obtain ⟨c, y1, y2, y3⟩ := (ways_p hsq h1).mp (of_decide_eq_true h2)
    have := hh c y1 y2
    rw [y3] at this
    exact this
theorem none6 : ∀ i, i < 6 → (nI i = -6 ↔ i = 6) := fun i hi => ⟨fun w => absurd w (ne6 (by omega)), fun w => by omega⟩
theorem pc_boots : PC_boots := by
  intro N g σ a1 hN hI
  rcases wi_cases a1 0 2 with ⟨hw, c1, c2⟩ | ⟨hw, -⟩
  rotate_left
  · refine ⟨-2, σ, σ, ?_, ?_, Inv_mono hI⟩
    · unfold f_X5_boots; rw [hw]; rfl
    · unfold f_X6_boots; rw [in_eq, hw]; rfl
  obtain ⟨h, o, d, l, f, s, ap, bg, hp, rb, H⟩ := LR_LM hI.1
  obtain ⟨sq, sa, hS⟩ := SG_of H
  have hsq : ∀ i, i < s → sq i < 6 := fun i hi => (hS i hi).1
  obtain ⟨z, z1, z2, z3⟩ := count5 (sq := sq) (sa := sa) H (fun i hi => ⟨(hS i hi).1, (hS i hi).2.1, (hS i hi).2.2.1, (hS i hi).2.2.2.2.1⟩) none6
  have hA := RF_Agr z2
  have hSz : SG s sq sa (cv σ 1) (mv z) := fun j hj => by
    obtain ⟨x1, x2, x3, x4, x5, x6⟩ := hS j hj
    exact ⟨x1, x2, x3, (Agr_mv hA 6 j (fun w => by omega) (by decide)).trans x4, x5, (Agr_mv hA 7 j (fun w => by omega) (by decide)).trans x6⟩
  obtain ⟨Y, y1, y2, y3, y4, y5, -⟩ := lay6 (LM_agr H hA) hSz
  have hInv : Inv (N + 1) g Y := Inv_next hI (Agr_trans hA (BF_Agr y2))
  have hW : ∀ k, k < 64 → cwW (okN h s sq sa (abN h o d l f ap rb) bg (apH h ap)) 6 6 k < 2 ^ 31 := fun k hk => Nat.lt_of_le_of_lt (ways_le hsq hk) (by decide)
  have hR := rows_v (h := h) (s := s) (sa := sa) (bg := bg) (base := apH h ap) (abl := abN h o d l f ap rb) hsq
  have hRl := cnt_le (vld h s sq sa (abN h o d l f ap rb) bg (apH h ap))
  have t5 := total5 z3
  have s5 := some5 z3 hW
  have a5 := all5 z3 hW (by rw [hR]; exact Nat.lt_of_le_of_lt hRl (by decide))
  rw [hR] at t5 a5
  rw [some_eq hsq] at s5
  rw [every_eq hsq] at a5
  generalize hRn : sumN (fun c => if vld h s sq sa (abN h o d l f ap rb) bg (apH h ap) c = true then 1 else 0) 117649 = R at *
  have E5 : f_X5_boots a1 σ = (if ¬ a1 = 0 then (if ¬ a1 = 1 then (Option.bind (f_X3_outInAll z) (fun r3 => some ((r3, z)))) else (Option.bind (f_X3_outInSome z) (fun r4 => some ((r4, z))))) else (Option.bind (f_X3_total z) (fun r5 => some ((r5, z))))) := by
    unfold f_X5_boots
    rw [hw, bnd_some, if_pos (by decide), z1, bnd_some]
  have E6 : f_X6_boots a1 z = (if ¬ a1 = 0 then (if ¬ a1 = 1 then (if ¬ (Y 29 25) = 0 then (some ((Y 29 27, Y))) else (some ((0, Y)))) else (some ((Y 29 26, Y)))) else (some ((Y 29 25, Y)))) := by
    unfold f_X6_boots
    rw [in_eq, hw, bnd_some, if_pos (by decide), y1, bnd_some]
  rw [t5, s5, a5, bnd_some, bnd_some, bnd_some] at E5
  rw [y3, y4, y5] at E6
  by_cases d1 : a1 = 0
  · exact ⟨nI R, z, Y, by rw [E5, if_neg (fun w => w d1)], by rw [E6, if_neg (fun w => w d1)], hInv⟩
  · by_cases d2 : a1 = 1
    · exact ⟨_, z, Y, by rw [E5, if_pos d1, if_neg (fun w => w d2)], by rw [E6, if_pos d1, if_neg (fun w => w d2)], hInv⟩
    · refine ⟨nI (if R = 0 then 0 else andF (vld h s sq sa (abN h o d l f ap rb) bg (apH h ap)) (went 6) 117649), z, Y, by rw [E5, if_pos d1, if_pos d2], ?_, hInv⟩
      rw [E6, if_pos d1, if_pos d2]
      by_cases e : R = 0
      · rw [e, if_neg (fun w => w rfl), if_pos rfl]; rfl
      · rw [if_pos (nI_ne0 (by omega) (by omega)), if_neg e]
