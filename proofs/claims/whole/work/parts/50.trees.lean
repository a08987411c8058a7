/-! ===== trees ===== -/
def gho (h : Nat) (hp : Nat → Nat) : Nat → Option Nat
  | 0 => none
  | i + 1 => if h.testBit i = true then (match gho h hp i with
    | none => some i
    | some q => if hp i ≤ hp q then some q else some i) else gho h hp i
def encO (x : Option Nat) : Int32 := match x with
  | none => -6
  | some q => nI q
theorem gho_in {h : Nat} {hp : Nat → Nat} : ∀ i q, gho h hp i = some q → q < i ∧ h.testBit q = true := by
  intro i
  induction i with
  | zero => intro q hq; cases hq
  | succ i ih =>
    intro q hq
    unfold gho at hq
    by_cases hb : h.testBit i = true
    · rw [if_pos hb] at hq
      cases hg : gho h hp i with
      | none => rw [hg] at hq; cases hq; exact ⟨by omega, hb⟩
      | some q' =>
        rw [hg] at hq
        have hq : (if hp i ≤ hp q' then some q' else some i) = some q := hq
        obtain ⟨y1, y2⟩ := ih q' hg
        by_cases hc : hp i ≤ hp q'
        · rw [if_pos hc] at hq; cases hq; exact ⟨by omega, y2⟩
        · rw [if_neg hc] at hq; cases hq; exact ⟨by omega, hb⟩
    · rw [if_neg hb] at hq
      obtain ⟨y1, y2⟩ := ih q hq
      exact ⟨by omega, y2⟩
def rbH (h : Nat) (rb : Nat → Nat) (k : Nat) : Nat := if k < 6 ∧ h.testBit k = true then rb k else 0
theorem bare5 {B h o d l f s : Nat} {ap bg hp rb : Nat → Nat} {W : VW} {σ : St} (H : LM B h o d l f s ap bg hp rb (cv σ 1) W) : f_X0_bareTrees 1 σ = some (nI (bset (fun k => h.testBit k && ap k == 0) 6)) := by
  obtain ⟨⟨h1, -⟩, ⟨e1, -⟩, -, p1, -, -⟩ := H
  unfold f_X0_bareTrees
  rw [bset_loop (P := fun k => h.testBit k && ap k == 0) (fun i hi => ?_) (fun x => ?_)]
  · rfl
  · show l_X0_bareTrees_4 1 σ (nI (bset _ i)) (nI i) = _
    unfold l_X0_bareTrees_4
    rw [if_neg (six_le hi), has_in (b := 1) (σ := σ) h1 hi e1, bnd_some, nI_1, ← bset_or hi]
    by_cases hb : h.testBit i = true
    · obtain ⟨⟨x1, -⟩, ⟨y1, -⟩, -⟩ := p1 i hi hb
      have y1 : σ 2 i = nI (ap i) := y1
      rw [if_pos hb, if_neg (by decide), gi_in hi (by decide), nI_clamp (by omega), show σ (1 + 1) i = nI (ap i) from y1]
      by_cases c : ap i = 0
      · simp [hb, c, nm_eq, nI_0]
      · rw [if_pos (nI_ne0 (by omega) (by omega))]
        simp [hb, c]
    · simp [hb]
  · show l_X0_bareTrees_4 1 σ x 6 = _
    unfold l_X0_bareTrees_4
    rw [if_pos (by decide)]
theorem robbed5 {B h o d l f s : Nat} {ap bg hp rb : Nat → Nat} {W : VW} {σ : St} (H : LM B h o d l f s ap bg hp rb (cv σ 1) W) : (∀ k, rbH h rb k < 64) ∧ f_X0_robbedTrees 1 σ = some (nI (uU (rbH h rb) 6)) := by
  obtain ⟨⟨h1, -⟩, ⟨e1, -⟩, -, p1, p2, -⟩ := H
  have hM : ∀ k, rbH h rb k < 64 := by
    intro k
    unfold rbH
    by_cases hk : k < 6 ∧ h.testBit k = true
    · rw [if_pos hk]; exact (p1 k hk.1 hk.2).1.2.2.2.2
    · rw [if_neg hk]; decide
  refine ⟨hM, ?_⟩
  have hl : loop (fun s : Int32 × Int32 => l_X0_robbedTrees_4 1 σ s.1 s.2) 400 (0, 0) = some (nI (uU (rbH h rb) 6)) := by
    refine loop_to (body := fun s : Int32 × Int32 => l_X0_robbedTrees_4 1 σ s.1 s.2) (fun i => (nI (uU (rbH h rb) i), nI i)) 6 _ (fun i hi => ?_) ?_ 400 (by decide)
    · show l_X0_robbedTrees_4 1 σ (nI _) (nI i) = _
      unfold l_X0_robbedTrees_4
      have hv : σ (1 + 4) i = nI (rbH h rb i) := by
        unfold rbH
        by_cases hb : h.testBit i = true
        · rw [if_pos ⟨hi, hb⟩]; exact (p1 i hi hb).2.2.2.2.1.1
        · rw [if_neg (fun z => hb z.2)]; exact (p2 i hi (by simpa using hb)).2.2.2.1
      rw [if_neg (six_le hi), gi_in hi (by decide), nm_eq, nI_clamp (by omega), hv, (or64 _ (uU_lt hM i) _ (hM i)).1, nI_1]
      rfl
    · show l_X0_robbedTrees_4 1 σ _ (nI 6) = _
      unfold l_X0_robbedTrees_4
      rw [if_pos (by decide)]
  unfold f_X0_robbedTrees
  rw [hl]
  rfl
theorem great5 {B h o d l f s : Nat} {ap bg hp rb : Nat → Nat} {W : VW} {σ : St} (hB : B < 2 ^ 30) (H : LM B h o d l f s ap bg hp rb (cv σ 1) W) : f_X0_greatestHeap 1 σ = some (encO (gho h hp 6)) := by
  obtain ⟨⟨h1, -⟩, ⟨e1, -⟩, -, p1, p2, -⟩ := H
  have hl : loop (fun s : Int32 × Int32 => l_X0_greatestHeap_5 1 σ s.1 s.2) 400 ((-6 : Int32), 0) = some (encO (gho h hp 6)) := by
    refine loop_to (body := fun s : Int32 × Int32 => l_X0_greatestHeap_5 1 σ s.1 s.2) (fun i => (encO (gho h hp i), nI i)) 6 _ (fun i hi => ?_) ?_ 400 (by decide)
    · show l_X0_greatestHeap_5 1 σ (encO (gho h hp i)) (nI i) = some (.inl (encO (gho h hp (i + 1)), nI (i + 1)))
      unfold l_X0_greatestHeap_5
      rw [if_neg (six_le hi), has_in (b := 1) (σ := σ) h1 hi e1, bnd_some, nI_1]
      by_cases hb : h.testBit i = true
      · obtain ⟨⟨-, -, -, xi, -⟩, -, -, ⟨yi, -⟩, -⟩ := p1 i hi hb
        have yi : σ (1 + 3) i = nI (hp i) := yi
        rw [if_pos hb, if_neg (by decide)]
        cases hg : gho h hp i with
        | none => simp [encO, gho, hb, hg]
        | some q =>
          obtain ⟨g1, g2⟩ := gho_in i q hg
          obtain ⟨⟨-, -, -, xq, -⟩, -, -, ⟨yq, -⟩, -⟩ := p1 q (by omega) g2
          have yq : σ (1 + 3) q = nI (hp q) := yq
          have hne : ¬ nI q = -6 := fun z => by
            have := congrArg (fun w : Int32 => decide (w < 0)) z
            simp only [decide_eq_decide] at this
            exact lt_neg (k := q) (by omega) (this.mpr (by decide))
          show Option.bind (if nI q = -6 then _ else _) _ = _
          rw [if_neg hne, gi_in hi (by decide), show encO (some q) = nI q from rfl, gi_in (show q < 6 by omega) (by decide), nI_clamp (show i < 2 ^ 31 by omega), nI_clamp (show q < 2 ^ 31 by omega), yi, yq]
          by_cases c : hp i ≤ hp q
          · rw [if_pos (nI_le c (by omega))]
            simp [encO, gho, hb, hg, c]
          · rw [if_neg (nI_ge (by omega) (by omega))]
            simp [encO, gho, hb, hg, c]
      · simp [gho, hb]
    · show l_X0_greatestHeap_5 1 σ _ (nI 6) = _
      unfold l_X0_greatestHeap_5
      rw [if_pos (by decide)]
  unfold f_X0_greatestHeap
  rw [hl]
  rfl
theorem trees6 {B h o d l f s : Nat} {ap bg hp rb : Nat → Nat} {V : VW} {σ : St} (hB : B < 2 ^ 30) (H : LM B h o d l f s ap bg hp rb V (mv σ)) : loop (fun s : Int32 × Int32 × Int32 × Int32 => l_X6_trees_26 σ s.1 s.2.1 s.2.2.1 s.2.2.2) 400 (0, nI h, (-6 : Int32), 0) = some (nI (bset (fun k => h.testBit k && ap k == 0) 6), nI (uD (rbH h rb) h 6), encO (gho h hp 6)) := by
  obtain ⟨⟨h1, -⟩, ⟨-, e2, -⟩, -, p1, p2, -⟩ := H
  have e2 : σ 29 0 = nI h := e2
  have hM : ∀ k, rbH h rb k < 64 := by
    intro k
    unfold rbH
    by_cases hk : k < 6 ∧ h.testBit k = true
    · rw [if_pos hk]; exact (p1 k hk.1 hk.2).1.2.2.2.2
    · rw [if_neg hk]; decide
  refine loop_to (body := fun s : Int32 × Int32 × Int32 × Int32 => l_X6_trees_26 σ s.1 s.2.1 s.2.2.1 s.2.2.2) (fun i => (nI (bset (fun k => h.testBit k && ap k == 0) i), nI (uD (rbH h rb) h i), encO (gho h hp i), nI i)) 6 _ (fun i hi => ?_) ?_ 400 (by decide)
  · show l_X6_trees_26 σ (nI _) (nI _) (encO (gho h hp i)) (nI i) = _
    unfold l_X6_trees_26
    have hD : nI (uD (rbH h rb) h (i + 1)) = nI (uD (rbH h rb) h i) &&& (nI (rbH h rb i) ^^^ (-1 : Int32)) := (andn_tab _ (uD_lt h1 i) _ (hM i)).symm
    rw [if_neg (six_le hi), e2, mhas_in h1 hi, bnd_some, nI_1, ← bset_or hi, hD]
    by_cases hb : h.testBit i = true
    · obtain ⟨⟨xa, -, -, xi, -⟩, ⟨-, ya⟩, -, ⟨-, yi⟩, ⟨-, yr⟩, -⟩ := p1 i hi hb
      have yi : σ 33 i = nI (hp i) := yi
      have ya : σ 32 i = nI (ap i) := ya
      have yr : σ 34 i = nI (rb i) := yr
      have hr : rbH h rb i = rb i := if_pos ⟨hi, hb⟩
      have hj9 : (if ¬ nI (ap i) = 0 then some (0 : Int32) else some ((1 : Int32) <<< (nI i &&& 31))) = some (if ap i = 0 then (1 : Int32) <<< (nI i &&& 31) else 0) := by
        by_cases c : ap i = 0
        · simp [c, nI_0]
        · rw [if_pos (nI_ne0 (by omega) (by omega)), if_neg c]
      have hor : nI (bset (fun k => h.testBit k && ap k == 0) i) ||| (if ap i = 0 then (1 : Int32) <<< (nI i &&& 31) else 0) = if (h.testBit i && ap i == 0) = true then nI (bset (fun k => h.testBit k && ap k == 0) i) ||| ((1 : Int32) <<< (nI i &&& 31)) else nI (bset (fun k => h.testBit k && ap k == 0) i) := by
        by_cases c : ap i = 0
        · simp [c, hb]
        · simp [c]
      simp only [if_pos hb, show ¬ ((1 : Int32) = 0) from by decide, if_false, gi_in hi (show 6 < 2 ^ 31 by decide), nI_clamp (show i < 2 ^ 31 by omega), ya, yi, yr, hj9, bnd_some, nm_eq, hr, hor]
      cases hg : gho h hp i with
      | none =>
        rw [if_pos (show encO none < 0 from by decide)]
        simp [encO, gho, hb, hg]
      | some q =>
        obtain ⟨g1, g2⟩ := gho_in i q hg
        obtain ⟨⟨-, -, -, xq, -⟩, -, -, ⟨-, yq⟩, -⟩ := p1 q (by omega) g2
        have yq : σ 33 q = nI (hp q) := yq
        rw [show encO (some q) = nI q from rfl, if_neg (lt_neg (by omega)), gi_in (show q < 6 by omega) (by decide), nI_clamp (show q < 2 ^ 31 by omega), yq]
        by_cases c : hp i ≤ hp q
        · rw [if_pos (nI_le c (by omega))]
          simp [encO, gho, hb, hg, c]
        · rw [if_neg (nI_ge (by omega) (by omega))]
          simp [encO, gho, hb, hg, c]
    · have hr : rbH h rb i = 0 := if_neg (fun z => hb z.2)
      have hz : nI (uD (rbH h rb) h i) &&& (nI 0 ^^^ (-1 : Int32)) = nI (uD (rbH h rb) h i) := by
        rw [show nI 0 ^^^ (-1 : Int32) = -1 from by decide]
        simp
      rw [hr, hz]
      simp [gho, hb]
  · show l_X6_trees_26 σ _ _ _ (nI 6) = _
    unfold l_X6_trees_26
    rw [if_pos (by decide)]
theorem pc_trees : PC_trees := by
  intro N g σ a1 hN hI
  obtain ⟨h, o, d, l, f, s, ap, bg, hp, rb, H⟩ := LR_LM hI.1
  obtain ⟨⟨h1, -⟩, ⟨e1, e2, -⟩, -⟩ := id H
  have e1 : σ 1 8 = nI h := e1
  have e2 : σ 29 0 = nI h := e2
  have t6 := trees6 (by omega) H
  obtain ⟨hM, r5⟩ := robbed5 H
  have g5 := great5 (by omega) H
  have b5 := bare5 H
  have he : h &&& (63 ^^^ uU (rbH h rb) 6) = uD (rbH h rb) h 6 := eq64 (andn_lt h1) (uD_lt h1 6) (fun j hj => by rw [andn_tb hj, uUD hj])
  rcases wi_cases a1 0 2 with ⟨hw, c1, c2⟩ | ⟨hw, hc⟩
  · obtain ⟨n, -, hn, rfl⟩ := nI_btw (lo := 0) (hi := 2) (by decide) c1 c2 (by decide)
    have e6 : ∀ r, f_X6_trees (nI n) σ = some r ↔ (if ¬ nI n = 0 then (if ¬ nI n = 1 then (some (encO (gho h hp 6))) else (some (nI (uD (rbH h rb) h 6)))) else (some (nI (bset (fun k => h.testBit k && ap k == 0) 6)))) = some r := by
      intro r
      unfold f_X6_trees
      rw [in_eq, hw, bnd_some, if_pos (by decide), e2, t6, bnd_some]
    rcases (show n = 0 ∨ n = 1 ∨ n = 2 by omega) with rfl | rfl | rfl
    · refine ⟨nI (bset (fun k => h.testBit k && ap k == 0) 6), ?_, (e6 _).mpr ?_, Inv_mono hI⟩
      rotate_left
      · rw [if_neg (by decide)]
      · unfold f_X5_trees
        rw [if_pos (by decide), b5]
        rfl
    · refine ⟨nI (uD (rbH h rb) h 6), ?_, (e6 _).mpr ?_, Inv_mono hI⟩
      rotate_left
      · rw [if_pos (by decide), if_neg (by decide)]
      · unfold f_X5_trees
        rw [if_neg (by decide), if_pos (by decide), r5, bnd_some, e1, andn_tab h h1 _ (uU_lt hM 6), he]
    · refine ⟨encO (gho h hp 6), ?_, (e6 _).mpr ?_, Inv_mono hI⟩
      rotate_left
      · rw [if_pos (by decide), if_pos (by decide)]
      · unfold f_X5_trees
        rw [if_neg (by decide), if_neg (by decide), if_pos (by decide), g5]
        rfl
  · refine ⟨-2, ?_, ?_, Inv_mono hI⟩
    · unfold f_X5_trees
      rw [if_neg (fun z => by subst z; revert hc; decide), if_neg (fun z => by subst z; revert hc; decide), if_neg (fun z => by subst z; revert hc; decide)]
    · unfold f_X6_trees
      rw [in_eq, hw]
      rfl
