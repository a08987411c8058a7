/-! ===== thefts, stripped ===== -/
theorem LM_congr2 {B h o d l f s : Nat} {ap bg hp rb : Nat → Nat} {V W V' W' : VW} (H : LM B h o d l f s ap bg hp rb V W) (hs : ∀ k, 7 ≤ k → k ≤ 12 → V' 0 k = V 0 k ∧ W' 0 k = W 0 k) (ha : ∀ i k, 1 ≤ i → i ≤ 5 → k < 6 → V' i k = V i k ∧ W' i k = W i k) (hb : ∀ i k, 6 ≤ i → i ≤ 7 → k < 8 → V' i k = V i k ∧ W' i k = W i k) : LM B h o d l f s ap bg hp rb V' W' := by
  obtain ⟨⟨h1, h2, h3, h4, h5, h6⟩, ⟨e1, e2, e3, e4, e5, e6, e7, e8, e9, e10, e11, e12⟩, q, p1, p2, q5⟩ := H
  refine ⟨⟨h1, h2, h3, h4, h5, h6⟩, ⟨(hs 8 (by decide) (by decide)).1.trans e1, (hs 8 (by decide) (by decide)).2.trans e2, (hs 9 (by decide) (by decide)).1.trans e3, (hs 9 (by decide) (by decide)).2.trans e4, (hs 10 (by decide) (by decide)).1.trans e5, (hs 10 (by decide) (by decide)).2.trans e6, (hs 11 (by decide) (by decide)).1.trans e7, (hs 11 (by decide) (by decide)).2.trans e8, (hs 12 (by decide) (by decide)).1.trans e9, (hs 12 (by decide) (by decide)).2.trans e10, (hs 7 (by decide) (by decide)).1.trans e11, (hs 7 (by decide) (by decide)).2.trans e12⟩, q, fun k hk hbk => ?_, fun k hk hbk => ?_, fun i hi => ?_⟩
  · rw [(ha 1 k (by decide) (by decide) hk).1, (ha 1 k (by decide) (by decide) hk).2, (ha 2 k (by decide) (by decide) hk).1, (ha 2 k (by decide) (by decide) hk).2, (ha 3 k (by decide) (by decide) hk).1, (ha 3 k (by decide) (by decide) hk).2, (ha 4 k (by decide) (by decide) hk).1, (ha 4 k (by decide) (by decide) hk).2, (ha 5 k (by decide) (by decide) hk).1, (ha 5 k (by decide) (by decide) hk).2]
    exact p1 k hk hbk
  · rw [(ha 1 k (by decide) (by decide) hk).1, (ha 1 k (by decide) (by decide) hk).2, (ha 2 k (by decide) (by decide) hk).1, (ha 3 k (by decide) (by decide) hk).1, (ha 4 k (by decide) (by decide) hk).1]
    exact p2 k hk hbk
  · rw [(hb 6 i (by decide) (by decide) (by omega)).1, (hb 6 i (by decide) (by decide) (by omega)).2, (hb 7 i (by decide) (by decide) (by omega)).1, (hb 7 i (by decide) (by decide) (by omega)).2]
    exact q5 i hi
theorem nv_anS {σ : St} : (∀ k, 7 ≤ k → k ≤ 12 → nv (anS σ) 0 k = mv σ 0 k) ∧ (∀ i k, 1 ≤ i → i ≤ 5 → k < 6 → nv (anS σ) i k = mv σ i k) ∧ (∀ i k, 6 ≤ i → i ≤ 7 → nv (anS σ) i k = mv σ i k) := by
  refine ⟨fun k h1 h2 => ?_, fun i k h1 h2 hk => ?_, fun i k h1 h2 => ?_⟩
  · rcases (show k = 7 ∨ k = 8 ∨ k = 9 ∨ k = 10 ∨ k = 11 ∨ k = 12 by omega) with rfl | rfl | rfl | rfl | rfl | rfl
    · exact anS_29 (by omega)
    · exact anS_29 (by omega)
    · rfl
    · rfl
    · rfl
    · rfl
  · obtain ⟨x1, x2, x3, x4⟩ := anS_a (σ := σ) hk
    rcases (show i = 1 ∨ i = 2 ∨ i = 3 ∨ i = 4 ∨ i = 5 by omega) with rfl | rfl | rfl | rfl | rfl
    · exact x1
    · exact congrFun (anS_out (by omega)) k
    · exact x2
    · exact x3
    · exact x4
  · rcases (show i = 6 ∨ i = 7 by omega) with rfl | rfl
    · exact congrFun (anS_out (c := 31) (by omega)) _
    · exact congrFun (anS_out (c := 31) (by omega)) _
theorem LM_now {B h o d l f s : Nat} {ap bg hp rb : Nat → Nat} {V : VW} {σ : St} (H : LM B h o d l f s ap bg hp rb V (mv σ)) : LM B h o d l f s ap bg hp rb V (nv (anS σ)) :=
  LM_congr2 H (fun k h1 h2 => ⟨rfl, nv_anS.1 k h1 h2⟩) (fun i k h1 h2 hk => ⟨rfl, nv_anS.2.1 i k h1 h2 hk⟩) (fun i k h1 h2 _ => ⟨rfl, nv_anS.2.2 i k h1 h2⟩)
theorem LM_agr {B h o d l f s : Nat} {ap bg hp rb : Nat → Nat} {V : VW} {σ τ : St} (H : LM B h o d l f s ap bg hp rb V (mv σ)) (ha : Agr σ τ) : LM B h o d l f s ap bg hp rb V (mv τ) :=
  LM_congr2 H (fun k h1 h2 => ⟨rfl, Agr_mv ha 0 k (fun _ => ⟨h1, h2⟩) (by decide)⟩) (fun i k h1 h2 hk => ⟨rfl, Agr_mv ha i k (fun z => by omega) (by omega)⟩) (fun i k h1 h2 _ => ⟨rfl, Agr_mv ha i k (fun z => by omega) h2⟩)
theorem LM_agrC {B h o d l f s : Nat} {ap bg hp rb : Nat → Nat} {W : VW} {σ τ : St} (H : LM B h o d l f s ap bg hp rb (cv σ 1) W) (ha : Agr σ τ) : LM B h o d l f s ap bg hp rb (cv τ 1) W :=
  LM_congr2 H (fun k h1 h2 => ⟨Agr_cv ha 0 k (fun _ => ⟨h1, h2⟩) (by decide), rfl⟩) (fun i k h1 h2 hk => ⟨Agr_cv ha i k (fun z => by omega) (by omega), rfl⟩) (fun i k h1 h2 _ => ⟨Agr_cv ha i k (fun z => by omega) h2, rfl⟩)
theorem and64 : ∀ x, x < 64 → ∀ y, y < 64 → (nI x &&& nI y) = nI (x &&& y) ∧ x &&& y < 64 := by decide +kernel
theorem sub_tab : ∀ h, h < 64 → ∀ s, s < 64 → s &&& (63 ^^^ h) = 0 → pop s ≤ pop h ∧ pop h - pop s = pop (h &&& (63 ^^^ s)) := by decide +kernel
def apH (h : Nat) (ap : Nat → Nat) (q : Nat) : Nat := if h.testBit q = true then ap q else 0
def wtN (h : Nat) (ap : Nat → Nat) (b q : Nat) : Nat := (apH h ap q + b - 1) / b
def thS (h d l : Nat) (ap rb : Nat → Nat) (q : Nat) : Nat := bset (fun k => MRb h d l ap rb k q) 6
def sumN (F : Nat → Nat) : Nat → Nat
  | 0 => 0
  | n + 1 => sumN F n + F n
def cutN (h d l : Nat) (ap rb : Nat → Nat) (b k x : Nat) : Nat := k * pop (h &&& (63 ^^^ x)) + sumN (fun q => min (wtN h ap b q) (pop (x &&& thS h d l ap rb q))) 6
def L5N (C : Nat → Nat) (W : Nat) : Nat → Nat
  | 0 => W
  | n + 1 => min (L5N C W n) (C n)
def L6N (C : Nat → Nat) (h : Nat) : Nat → Nat
  | 0 => 1000000
  | n + 1 => if n &&& (63 ^^^ h) = 0 then min (L6N C h n) (C n) else L6N C h n
theorem L5N_le {C : Nat → Nat} {W : Nat} : ∀ n, L5N C W n ≤ W ∧ ∀ i, i < n → L5N C W n ≤ C i := by
  intro n
  induction n with
  | zero => exact ⟨Nat.le_refl _, fun i hi => absurd hi (Nat.not_lt_zero _)⟩
  | succ n ih =>
    unfold L5N
    refine ⟨Nat.le_trans (Nat.min_le_left _ _) ih.1, fun i hi => ?_⟩
    by_cases c : i = n
    · rw [c]; exact Nat.min_le_right _ _
    · exact Nat.le_trans (Nat.min_le_left _ _) (ih.2 i (by omega))
theorem L5N_ge {C : Nat → Nat} {W v : Nat} (h0 : v ≤ W) : ∀ n, (∀ i, i < n → v ≤ C i) → v ≤ L5N C W n := by
  intro n
  induction n with
  | zero => intro _; exact h0
  | succ n ih =>
    intro h
    unfold L5N
    exact Nat.le_min.mpr ⟨ih (fun i hi => h i (by omega)), h n (by omega)⟩
theorem L6N_le {C : Nat → Nat} {h : Nat} : ∀ n, L6N C h n ≤ 1000000 ∧ ∀ i, i < n → i &&& (63 ^^^ h) = 0 → L6N C h n ≤ C i := by
  intro n
  induction n with
  | zero => exact ⟨Nat.le_refl _, fun i hi => absurd hi (Nat.not_lt_zero _)⟩
  | succ n ih =>
    unfold L6N
    by_cases c : n &&& (63 ^^^ h) = 0
    · rw [if_pos c]
      refine ⟨Nat.le_trans (Nat.min_le_left _ _) ih.1, fun i hi hs => ?_⟩
      by_cases c2 : i = n
      · rw [c2]; exact Nat.min_le_right _ _
      · exact Nat.le_trans (Nat.min_le_left _ _) (ih.2 i (by omega) hs)
    · rw [if_neg c]
      refine ⟨ih.1, fun i hi hs => ?_⟩
      by_cases c2 : i = n
      · rw [c2] at hs; exact absurd hs c
      · exact ih.2 i (by omega) hs
theorem L6N_ge {C : Nat → Nat} {h v : Nat} (h0 : v ≤ 1000000) : ∀ n, (∀ i, i < n → i &&& (63 ^^^ h) = 0 → v ≤ C i) → v ≤ L6N C h n := by
  intro n
  induction n with
  | zero => intro _; exact h0
  | succ n ih =>
    intro hh
    unfold L6N
    by_cases c : n &&& (63 ^^^ h) = 0
    · rw [if_pos c]
      exact Nat.le_min.mpr ⟨ih (fun i hi => hh i (by omega)), hh n (by omega) c⟩
    · rw [if_neg c]
      exact ih (fun i hi => hh i (by omega))
theorem sumN_le {F G : Nat → Nat} : ∀ n, (∀ i, i < n → F i ≤ G i) → sumN F n ≤ sumN G n := by
  intro n
  induction n with
  | zero => intro _; exact Nat.le_refl _
  | succ n ih =>
    intro h
    exact Nat.add_le_add (ih (fun i hi => h i (by omega))) (h n (by omega))
theorem sumN_eq {F G : Nat → Nat} : ∀ n, (∀ i, i < n → F i = G i) → sumN F n = sumN G n := by
  intro n
  induction n with
  | zero => intro _; rfl
  | succ n ih =>
    intro h
    show sumN F n + F n = sumN G n + G n
    rw [ih (fun i hi => h i (by omega)), h n (by omega)]
theorem sumN_bd {F : Nat → Nat} {c : Nat} : ∀ n, (∀ i, i < n → F i ≤ c) → sumN F n ≤ n * c := by
  intro n
  induction n with
  | zero => intro _; exact Nat.zero_le _
  | succ n ih =>
    intro h
    have h1 := ih (fun i hi => h i (by omega))
    have h2 := h n (by omega)
    show sumN F n + F n ≤ (n + 1) * c
    rw [Nat.succ_mul]
    omega
theorem thS_lt {h d l q : Nat} {ap rb : Nat → Nat} : thS h d l ap rb q < 64 := bset_lt _ 6 (by decide)
theorem thS_tb {h d l q j : Nat} {ap rb : Nat → Nat} (hj : j < 6) : (thS h d l ap rb q).testBit j = MRb h d l ap rb j q := by
  unfold thS
  rw [bset_tb]
  simp [hj]
theorem MRb_h {h d l k q : Nat} {ap rb : Nat → Nat} (hm : MRb h d l ap rb k q = true) : h.testBit k = true ∧ h.testBit q = true := by
  unfold MRb at hm
  simp [Bool.and_eq_true] at hm
  exact ⟨hm.1.1.1.1.1, hm.1.1.1.1.2⟩
theorem cut_and {h d l b k x : Nat} {ap rb : Nat → Nat} (hh : h < 64) (hx : x < 64) : cutN h d l ap rb b k (x &&& h) = cutN h d l ap rb b k x := by
  have hxh : x &&& h < 64 := (and64 x hx h hh).2
  unfold cutN
  have e1 : h &&& (63 ^^^ (x &&& h)) = h &&& (63 ^^^ x) := eq64 (andn_lt hh) (andn_lt hh) (fun j hj => by
    rw [andn_tb hj, andn_tb hj, Nat.testBit_and]
    cases h.testBit j <;> cases x.testBit j <;> rfl)
  rw [e1]
  congr 1
  refine sumN_eq 6 (fun q hq => ?_)
  have e2 : x &&& h &&& thS h d l ap rb q = x &&& thS h d l ap rb q := eq64 (and64 _ hxh _ thS_lt).2 (and64 _ hx _ thS_lt).2 (fun j hj => by
    rw [Nat.testBit_and, Nat.testBit_and, Nat.testBit_and, thS_tb hj]
    by_cases hm : MRb h d l ap rb j q = true
    · rw [(MRb_h hm).1]; simp
    · have hm : MRb h d l ap rb j q = false := by simpa using hm
      rw [hm]; simp)
  rw [e2]
theorem wt_le {h b q : Nat} {ap : Nat → Nat} (hb : 1 ≤ b) (hb2 : b ≤ 20) (ha : apH h ap q ≤ 99) : wtN h ap b q ≤ 118 := by
  unfold wtN
  exact Nat.le_trans (Nat.div_le_self _ _) (by omega)
theorem min_eq {h d l b k : Nat} {ap rb : Nat → Nat} (hh : h < 64) (hb : 1 ≤ b) (hb2 : b ≤ 20) (ha : ∀ q, q < 6 → apH h ap q ≤ 99) : L6N (cutN h d l ap rb b k) h 64 = L5N (cutN h d l ap rb b k) (sumN (wtN h ap b) 6) 64 := by
  have hW : sumN (wtN h ap b) 6 ≤ 6 * 118 := sumN_bd 6 (fun i hi => wt_le hb hb2 (ha i hi))
  apply Nat.le_antisymm
  · refine L5N_ge ?_ 64 (fun i hi => ?_)
    · have h1 := (L6N_le (C := cutN h d l ap rb b k) (h := h) 64).2 h hh (eq64 (andn_lt hh) (by decide) (fun j hj => by rw [andn_tb hj]; simp))
      refine Nat.le_trans h1 ?_
      unfold cutN
      have e : h &&& (63 ^^^ h) = 0 := eq64 (andn_lt hh) (by decide) (fun j hj => by rw [andn_tb hj]; simp)
      rw [e, show pop 0 = 0 from by decide, Nat.mul_zero, Nat.zero_add]
      exact sumN_le 6 (fun i hi => Nat.min_le_left _ _)
    · rw [← cut_and hh hi]
      refine (L6N_le (C := cutN h d l ap rb b k) (h := h) 64).2 (i &&& h) (and64 i hi h hh).2 ?_
      exact eq64 (andn_lt (and64 i hi h hh).2) (by decide) (fun j hj => by
        rw [andn_tb hj, Nat.testBit_and]
        cases i.testBit j <;> cases h.testBit j <;> simp)
  · refine L6N_ge ?_ 64 (fun i hi _ => (L5N_le 64).2 i hi)
    have := (L5N_le (C := cutN h d l ap rb b k) (W := sumN (wtN h ap b) 6) 64).1
    omega
theorem apH_v {B h o d l f s q : Nat} {ap bg hp rb : Nat → Nat} {W : VW} {σ : St} (H : LM B h o d l f s ap bg hp rb (cv σ 1) W) (hq : q < 6) : apH h ap q ≤ 99 ∧ σ 2 q = nI (apH h ap q) := by
  obtain ⟨-, -, -, p1, p2, -⟩ := H
  unfold apH
  by_cases hb : h.testBit q = true
  · rw [if_pos hb]
    obtain ⟨⟨x1, -⟩, ⟨y1, -⟩, -⟩ := p1 q hq hb
    exact ⟨x1, y1⟩
  · rw [if_neg hb]
    exact ⟨by decide, (p2 q hq (by simpa using hb)).1⟩
theorem wanted5 {B h o d l f s q b : Nat} {ap bg hp rb : Nat → Nat} {W : VW} {σ : St} (H : LM B h o d l f s ap bg hp rb (cv σ 1) W) (hq : q < 6) (hb : 1 ≤ b) (hb2 : b ≤ 20) : f_X0_wanted 1 (nI q) (nI b) σ = some (nI (wtN h ap b q)) := by
  obtain ⟨x1, x2⟩ := apH_v H hq
  unfold f_X0_wanted
  rw [gi_in hq (by decide), show jmax 1 (nI b) = nI (max 1 b) from jmax_n (a := 1) (by decide) (by omega), Nat.max_eq_right hb, gz_n (by omega) (by omega), nI_clamp (by omega), show σ (1 + 1) q = nI (apH h ap q) from x2, nI_add, show nI (apH h ap q + b) - 1 = nI (apH h ap q + b - 1) from pk_sub (b := 1) (by omega), pk_div (by omega) (by omega) (by omega)]
  rfl
theorem together5 {B h o d l f s b : Nat} {ap bg hp rb : Nat → Nat} {W : VW} {σ : St} (H : LM B h o d l f s ap bg hp rb (cv σ 1) W) (hb : 1 ≤ b) (hb2 : b ≤ 20) : f_X0_wantedTogether 1 (nI b) σ = some (nI (sumN (wtN h ap b) 6)) := by
  have hl : loop (fun s : Int32 × Int32 => l_X0_wantedTogether_4 1 (nI b) σ s.1 s.2) 400 (0, 0) = some (nI (sumN (wtN h ap b) 6)) := by
    refine loop_to (body := fun s : Int32 × Int32 => l_X0_wantedTogether_4 1 (nI b) σ s.1 s.2) (fun i => (nI (sumN (wtN h ap b) i), nI i)) 6 _ (fun i hi => ?_) ?_ 400 (by decide)
    · show l_X0_wantedTogether_4 1 (nI b) σ (nI _) (nI i) = _
      unfold l_X0_wantedTogether_4
      rw [if_neg (six_le hi), wanted5 H hi hb hb2, bnd_some, nI_add, nI_1]
      rfl
    · show l_X0_wantedTogether_4 1 (nI b) σ _ (nI 6) = _
      unfold l_X0_wantedTogether_4
      rw [if_pos (by decide)]
  unfold f_X0_wantedTogether
  rw [hl]
  rfl
theorem pop_le {x : Nat} : pop x ≤ 6 := by
  unfold pop
  repeat' split
  all_goals omega
theorem cut_le {h d l b k x : Nat} {ap rb : Nat → Nat} (hk : k ≤ 5) : cutN h d l ap rb b k x ≤ 66 := by
  unfold cutN
  have h1 : k * pop (h &&& (63 ^^^ x)) ≤ 5 * 6 := Nat.mul_le_mul hk pop_le
  have h2 : sumN (fun q => min (wtN h ap b q) (pop (x &&& thS h d l ap rb q))) 6 ≤ 6 * 6 := sumN_bd 6 (fun i hi => Nat.le_trans (Nat.min_le_right _ _) pop_le)
  omega
theorem most5 {B h o d l f s b k : Nat} {ap bg hp rb : Nat → Nat} {W : VW} {σ : St} (H : LM B h o d l f s ap bg hp rb (cv σ 1) W) (hb : 1 ≤ b) (hb2 : b ≤ 20) (hk : k ≤ 5) : f_X5_mostThefts (nI b) (nI k) σ = some (nI (L5N (cutN h d l ap rb b k) (sumN (wtN h ap b) 6) 64)) := by
  obtain ⟨⟨h1, -⟩, ⟨e1, -⟩, -⟩ := id H
  have e1 : σ 1 8 = nI h := e1
  have hW : sumN (wtN h ap b) 6 ≤ 6 * 118 := sumN_bd 6 (fun i hi => wt_le hb hb2 (apH_v H hi).1)
  have inner : ∀ x, x < 64 → loop (fun s : Int32 × Int32 => l_X5_mostThefts_35 (nI b) σ (nI x) s.1 s.2) 400 (nI (k * pop (h &&& (63 ^^^ x))), 0) = some (nI (cutN h d l ap rb b k x)) := by
    intro x hx
    refine loop_to (body := fun s : Int32 × Int32 => l_X5_mostThefts_35 (nI b) σ (nI x) s.1 s.2) (fun i => (nI (k * pop (h &&& (63 ^^^ x)) + sumN (fun q => min (wtN h ap b q) (pop (x &&& thS h d l ap rb q))) i), nI i)) 6 _ (fun i hi => ?_) ?_ 400 (by decide)
    · show l_X5_mostThefts_35 (nI b) σ (nI x) (nI _) (nI i) = _
      unfold l_X5_mostThefts_35
      have hw := wt_le hb hb2 (apH_v H hi).1
      have hp := pop_le (x := x &&& thS h d l ap rb i)
      rw [if_neg (six_le hi), thievesOf_eq H hi, bnd_some]
      show Option.bind (f_J6_bitCount_0f7a4 (nI x &&& nI (thS h d l ap rb i))) _ = _
      rw [(and64 x hx _ thS_lt).1, (pop_tab _ (and64 x hx _ thS_lt).2).1, bnd_some, wanted5 H hi hb hb2, bnd_some, jmin_n (by omega) (by omega), nI_add, nI_1, Nat.add_assoc]
      rfl
    · show l_X5_mostThefts_35 (nI b) σ (nI x) _ (nI 6) = _
      unfold l_X5_mostThefts_35
      rw [if_pos (by decide)]
      rfl
  have hl : loop (fun s : Int32 × Int32 => l_X5_mostThefts_9 (nI b) (nI k) σ s.1 s.2) 400 (nI (sumN (wtN h ap b) 6), 0) = some (nI (L5N (cutN h d l ap rb b k) (sumN (wtN h ap b) 6) 64)) := by
    refine loop_to (body := fun s : Int32 × Int32 => l_X5_mostThefts_9 (nI b) (nI k) σ s.1 s.2) (fun i => (nI (L5N (cutN h d l ap rb b k) (sumN (wtN h ap b) 6) i), nI i)) 64 _ (fun i hi => ?_) ?_ 400 (by decide)
    · show l_X5_mostThefts_9 (nI b) (nI k) σ (nI _) (nI i) = _
      unfold l_X5_mostThefts_9
      have h2 := (L5N_le (C := cutN h d l ap rb b k) (W := sumN (wtN h ap b) 6) i).1
      have h3 := cut_le (h := h) (d := d) (l := l) (ap := ap) (rb := rb) (b := b) (x := i) hk
      rw [if_neg (show ¬ (64 : Int32) ≤ nI i from nI_ge (b := 64) hi (by decide)), e1, andn_tab h h1 i hi, (pop_tab _ (andn_lt h1)).1, bnd_some, pk_mul, inner i hi, bnd_some, jmin_n (by omega) (by omega), nI_1]
      rfl
    · show l_X5_mostThefts_9 (nI b) (nI k) σ _ (nI 64) = _
      unfold l_X5_mostThefts_9
      rw [if_pos (by decide)]
  unfold f_X5_mostThefts
  rw [together5 H hb hb2, bnd_some, hl]
  rfl
theorem wanted6 {B h o d l f s q b : Nat} {ap bg hp rb : Nat → Nat} {V : VW} {σ : St} (H : LM B h o d l f s ap bg hp rb V (mv σ)) (hq : q < 6) (hb : 1 ≤ b) (hb2 : b ≤ 20) : f_X6_wanted (nI q) (nI b) σ = some (nI (wtN h ap b q)) := by
  obtain ⟨⟨h1, -⟩, ⟨-, e2, -⟩, -, p1, -, -⟩ := H
  have e2 : σ 29 0 = nI h := e2
  unfold f_X6_wanted wtN apH
  rw [e2, mhas_in h1 hq, bnd_some]
  by_cases hbq : h.testBit q = true
  · obtain ⟨⟨x1, -⟩, ⟨-, y1⟩, -⟩ := p1 q hq hbq
    have y1 : σ 32 q = nI (ap q) := y1
    rw [if_pos hbq, if_neg (by decide), gi_in hq (by decide), gz_n (by omega) (by omega), nI_clamp (by omega), y1, nI_add, show nI (ap q + b) - 1 = nI (ap q + b - 1) from pk_sub (b := 1) (by omega), pk_div (by omega) (by omega) (by omega), if_pos hbq]
  · rw [if_neg hbq, if_pos rfl, if_neg hbq, Nat.div_eq_of_lt (by omega)]
    rfl
theorem most6 {B h o d l f s b k : Nat} {ap bg hp rb : Nat → Nat} {V : VW} {σ : St} (H : LM B h o d l f s ap bg hp rb V (mv σ)) (ha : ∀ q, q < 6 → apH h ap q ≤ 99) (hb : 1 ≤ b) (hb2 : b ≤ 20) (hk : k ≤ 5) : f_X6_mostThefts (nI b) (nI k) σ = some (nI (L6N (cutN h d l ap rb b k) h 64), anS σ) := by
  have HN := LM_now H
  have HM := LM_agr H (Agr_anS σ)
  obtain ⟨⟨h1, -⟩, ⟨-, e2, -⟩, -⟩ := id HM
  have e2 : anS σ 29 0 = nI h := e2
  have cnt : ∀ x, x < 64 → ∀ q, q < 6 → loop (fun s : Int32 × Int32 => l_X6_mostThefts_62 (anS σ) (nI x) (nI q) s.1 s.2) 400 (0, 0) = some (nI (pop (x &&& thS h d l ap rb q))) := by
    intro x hx q hq
    have e : pop (x &&& thS h d l ap rb q) = cntP (fun j => x.testBit j && MRb h d l ap rb j q) 6 := by
      unfold pop
      simp only [Nat.testBit_and, thS_tb (show 0 < 6 by decide), thS_tb (show 1 < 6 by decide), thS_tb (show 2 < 6 by decide), thS_tb (show 3 < 6 by decide), thS_tb (show 4 < 6 by decide), thS_tb (show 5 < 6 by decide), cntP]
      omega
    rw [e]
    refine loop_to (body := fun s : Int32 × Int32 => l_X6_mostThefts_62 (anS σ) (nI x) (nI q) s.1 s.2) (fun i => (nI (cntP (fun j => x.testBit j && MRb h d l ap rb j q) i), nI i)) 6 _ (fun i hi => ?_) ?_ 400 (by decide)
    · show l_X6_mostThefts_62 (anS σ) (nI x) (nI q) (nI _) (nI i) = _
      unfold l_X6_mostThefts_62
      rw [if_neg (six_le hi), mhas_in hx hi, bnd_some, bar_eq HN hi hq, nI_1, ← cntP_s]
      by_cases c1 : x.testBit i = true
      · by_cases c2 : BR h d l ap rb i q = 0
        · have := BR_z.mp c2
          simp [c1, c2, this, nI_0]
        · have c3 : ¬ MRb h d l ap rb i q = true := fun z => c2 (BR_z.mpr z)
          have c4 : ¬ nI (BR h d l ap rb i q) = 0 := nI_ne0 (by omega) BR_lt
          simp [c1, c3, c4]
      · simp [c1]
    · show l_X6_mostThefts_62 (anS σ) (nI x) (nI q) _ (nI 6) = _
      unfold l_X6_mostThefts_62
      rw [if_pos (by decide)]
  have inner : ∀ x, x < 64 → loop (fun s : Int32 × Int32 => l_X6_mostThefts_49 (nI b) (anS σ) (nI x) s.1 s.2) 400 (nI (k * pop (h &&& (63 ^^^ x))), 0) = some (nI (cutN h d l ap rb b k x)) := by
    intro x hx
    refine loop_to (body := fun s : Int32 × Int32 => l_X6_mostThefts_49 (nI b) (anS σ) (nI x) s.1 s.2) (fun i => (nI (k * pop (h &&& (63 ^^^ x)) + sumN (fun q => min (wtN h ap b q) (pop (x &&& thS h d l ap rb q))) i), nI i)) 6 _ (fun i hi => ?_) ?_ 400 (by decide)
    · show l_X6_mostThefts_49 (nI b) (anS σ) (nI x) (nI _) (nI i) = _
      unfold l_X6_mostThefts_49
      have hw := wt_le hb hb2 (ha i hi)
      have hp := pop_le (x := x &&& thS h d l ap rb i)
      rw [if_neg (six_le hi), cnt x hx i hi, bnd_some, wanted6 HM hi hb hb2, bnd_some]
      have e : (if nI (wtN h ap b i) ≤ nI (pop (x &&& thS h d l ap rb i)) then (Option.bind (some (nI (wtN h ap b i))) (fun r19 : Int32 => some r19)) else some (nI (pop (x &&& thS h d l ap rb i)))) = some (nI (min (wtN h ap b i) (pop (x &&& thS h d l ap rb i)))) := by
        by_cases c : wtN h ap b i ≤ pop (x &&& thS h d l ap rb i)
        · rw [if_pos (nI_le c (by omega)), Nat.min_eq_left c]; rfl
        · rw [if_neg (nI_ge (by omega) (by omega)), Nat.min_eq_right (by omega)]
      rw [e, bnd_some, nI_add, nI_1, Nat.add_assoc]
      rfl
    · show l_X6_mostThefts_49 (nI b) (anS σ) (nI x) _ (nI 6) = _
      unfold l_X6_mostThefts_49
      rw [if_pos (by decide)]
      rfl
  have hl : loop (fun s : Int32 × Int32 => l_X6_mostThefts_10 (nI b) (nI k) (anS σ) s.1 s.2) 400 (1000000, 0) = some (nI (L6N (cutN h d l ap rb b k) h 64)) := by
    refine loop_to (body := fun s : Int32 × Int32 => l_X6_mostThefts_10 (nI b) (nI k) (anS σ) s.1 s.2) (fun i => (nI (L6N (cutN h d l ap rb b k) h i), nI i)) 64 _ (fun i hi => ?_) ?_ 400 (by decide)
    · show l_X6_mostThefts_10 (nI b) (nI k) (anS σ) (nI _) (nI i) = _
      unfold l_X6_mostThefts_10
      have h2 := (L6N_le (C := cutN h d l ap rb b k) (h := h) i).1
      have h3 := cut_le (h := h) (d := d) (l := l) (ap := ap) (rb := rb) (b := b) (x := i) hk
      have hlt : i &&& (63 ^^^ h) < 64 := andn_lt hi
      rw [if_neg (show ¬ (64 : Int32) ≤ nI i from nI_ge (b := 64) hi (by decide)), e2, andn_tab i hi h h1, nI_1]
      by_cases c : i &&& (63 ^^^ h) = 0
      · obtain ⟨t1, t2⟩ := sub_tab h h1 i hi c
        rw [if_neg (fun z => z (by rw [c]; rfl)), (pop_tab h h1).2.1, bnd_some, (pop_tab i hi).2.1, bnd_some, pk_sub t1, t2, pk_mul, inner i hi, bnd_some]
        have e : (if nI (L6N (cutN h d l ap rb b k) h i) ≤ nI (cutN h d l ap rb b k i) then some (nI (L6N (cutN h d l ap rb b k) h i)) else some (nI (cutN h d l ap rb b k i))) = some (nI (L6N (cutN h d l ap rb b k) h (i + 1))) := by
          rw [show L6N (cutN h d l ap rb b k) h (i + 1) = min (L6N (cutN h d l ap rb b k) h i) (cutN h d l ap rb b k i) from if_pos c]
          by_cases c2 : L6N (cutN h d l ap rb b k) h i ≤ cutN h d l ap rb b k i
          · rw [if_pos (nI_le c2 (by omega)), Nat.min_eq_left c2]
          · rw [if_neg (nI_ge (by omega) (by omega)), Nat.min_eq_right (by omega)]
        rw [e]
        rfl
      · rw [if_pos (nI_ne0 (by omega) (by omega)), bnd_some]
        show _ = some (Sum.inl (nI (if i &&& (63 ^^^ h) = 0 then _ else _), nI (i + 1)))
        rw [if_neg c]
    · show l_X6_mostThefts_10 (nI b) (nI k) (anS σ) _ (nI 64) = _
      unfold l_X6_mostThefts_10
      rw [if_pos (by decide)]
  unfold f_X6_mostThefts
  rw [asNow_eq, bnd_some, hl]
  rfl
theorem apH_all {B h o d l f s : Nat} {ap bg hp rb : Nat → Nat} {V W : VW} (H : LM B h o d l f s ap bg hp rb V W) : ∀ q, q < 6 → apH h ap q ≤ 99 := by
  intro q hq
  unfold apH
  by_cases hb : h.testBit q = true
  · rw [if_pos hb]; exact (H.2.2.2.1 q hq hb).1.1
  · rw [if_neg hb]; decide
theorem pc_thefts : PC_thefts := by
  intro N g σ a1 a2 hN hI
  rcases wi_cases a1 1 20 with ⟨w1, c1, c2⟩ | ⟨w1, -⟩
  rotate_left
  · refine ⟨-2, σ, ?_, ?_, Inv_mono hI⟩
    · unfold f_X5_thefts; rw [w1]; rfl
    · unfold f_X6_thefts; rw [in_eq, w1]; rfl
  rcases wi_cases a2 0 5 with ⟨w2, c3, c4⟩ | ⟨w2, -⟩
  rotate_left
  · refine ⟨-2, σ, ?_, ?_, Inv_mono hI⟩
    · unfold f_X5_thefts; rw [w1, bnd_some, if_neg (by decide), w2]; rfl
    · unfold f_X6_thefts; rw [in_eq, w1, bnd_some, if_neg (by decide), w2]; rfl
  obtain ⟨b, hb, hb2, rfl⟩ := nI_btw (lo := 1) (hi := 20) (by decide) c1 c2 (by decide)
  obtain ⟨k, -, hk, rfl⟩ := nI_btw (lo := 0) (hi := 5) (by decide) c3 c4 (by decide)
  obtain ⟨h, o, d, l, f, s, ap, bg, hp, rb, H⟩ := LR_LM hI.1
  refine ⟨nI (L5N (cutN h d l ap rb b k) (sumN (wtN h ap b) 6) 64), anS σ, ?_, ?_, Inv_next hI (Agr_anS σ)⟩
  · unfold f_X5_thefts
    rw [w1, bnd_some, if_neg (by decide), w2, bnd_some, if_pos (by decide), most5 H hb hb2 hk]
    rfl
  · unfold f_X6_thefts
    rw [in_eq, w1, bnd_some, if_neg (by decide), w2, bnd_some, if_neg (by decide), most6 H (apH_all H) hb hb2 hk, bnd_some, min_eq H.1.1 hb hb2 (apH_all H)]
def sZ (z : Unit ⊕ Int32) (Y : St) : St ⊕ (Int32 × St) := match z with
  | .inl _ => .inl Y
  | .inr y => .inr (y, Y)
def sR (z : Unit ⊕ Int32) : Int32 := match z with
  | .inl _ => -6
  | .inr y => y
theorem strip_loops {B h o d l f s b : Nat} {ap bg hp rb : Nat → Nat} {σ : St} {N : Nat} {g : Nat → Option Nat} (H : LM B h o d l f s ap bg hp rb (cv σ 1) (mv σ)) (hb : 1 ≤ b) (hb2 : b ≤ 20) : ∀ (n : Nat), n ≤ 6 → ∀ (X : St) (f1 f2 : Nat), Agr σ X → n < f1 → n < f2 → ∃ (z : Unit ⊕ Int32) (Y : St), Agr σ Y ∧ loop (fun s : Int32 => l_X5_stripped_24 (nI b) σ (nI (sumN (wtN h ap b) 6)) s) f1 (nI (6 - n)) = some z ∧ loop (fun s : Int32 × St => l_X6_stripped_40 (nI b) (nI (sumN (wtN h ap b) 6)) s.1 s.2) f2 (nI (6 - n), X) = some (sZ z Y) := by
  intro n
  induction n with
  | zero =>
    intro hn X f1 f2 hX h1 h2
    obtain ⟨f1, rfl⟩ : ∃ f, f1 = f + 1 := ⟨f1 - 1, by omega⟩
    obtain ⟨f2, rfl⟩ : ∃ f, f2 = f + 1 := ⟨f2 - 1, by omega⟩
    refine ⟨.inl (), X, hX, ?_, ?_⟩
    · exact loop_ex (body := fun s : Int32 => l_X5_stripped_24 (nI b) σ (nI (sumN (wtN h ap b) 6)) s) (s := nI (6 - 0)) (if_pos (by decide))
    · exact loop_ex (body := fun s : Int32 × St => l_X6_stripped_40 (nI b) (nI (sumN (wtN h ap b) 6)) s.1 s.2) (s := (nI (6 - 0), X)) (if_pos (show (6 : Int32) ≤ nI (6 - 0) by decide))
  | succ n ih =>
    intro hn X f1 f2 hX h1 h2
    obtain ⟨f1, rfl⟩ : ∃ f, f1 = f + 1 := ⟨f1 - 1, by omega⟩
    obtain ⟨f2, rfl⟩ : ∃ f, f2 = f + 1 := ⟨f2 - 1, by omega⟩
    have hk : 6 - (n + 1) ≤ 5 := by omega
    have hsub : 6 - n = 6 - (n + 1) + 1 := by omega
    generalize 6 - (n + 1) = k at hk hsub ⊢
    have m5 := most5 H hb hb2 hk
    have m6 := most6 (LM_agr H hX) (apH_all H) hb hb2 hk
    rw [min_eq H.1.1 hb hb2 (apH_all H)] at m6
    generalize L5N (cutN h d l ap rb b k) (sumN (wtN h ap b) 6) 64 = v at m5 m6
    have hX1 : Agr σ (anS X) := Agr_trans hX (Agr_anS X)
    by_cases c : nI v = nI (sumN (wtN h ap b) 6)
    · refine ⟨.inr (nI k), anS X, hX1, ?_, ?_⟩
      · refine loop_ex (body := fun s : Int32 => l_X5_stripped_24 (nI b) σ (nI (sumN (wtN h ap b) 6)) s) (s := nI k) ?_
        show l_X5_stripped_24 (nI b) σ (nI (sumN (wtN h ap b) 6)) (nI k) = _
        unfold l_X5_stripped_24
        rw [if_neg (show ¬ (5 : Int32) < nI k from nI_nlt (a := 5) hk (by decide)), m5, bnd_some, if_neg (fun z => z c)]
      · refine loop_ex (body := fun s : Int32 × St => l_X6_stripped_40 (nI b) (nI (sumN (wtN h ap b) 6)) s.1 s.2) (s := (nI k, X)) ?_
        show l_X6_stripped_40 (nI b) (nI (sumN (wtN h ap b) 6)) (nI k) X = _
        unfold l_X6_stripped_40
        rw [if_neg (six_le (by omega)), m6, bnd_some, if_neg (fun z => z c)]
        rfl
    · obtain ⟨z, Y, k1, k2, k3⟩ := ih (by omega) (anS X) f1 f2 hX1 (by omega) (by omega)
      rw [hsub] at k2 k3
      refine ⟨z, Y, k1, ?_, ?_⟩
      · rw [loop_in (body := fun s : Int32 => l_X5_stripped_24 (nI b) σ (nI (sumN (wtN h ap b) 6)) s) (s := nI k) (s' := nI (k + 1)) (by
          show l_X5_stripped_24 (nI b) σ (nI (sumN (wtN h ap b) 6)) (nI k) = _
          unfold l_X5_stripped_24
          rw [if_neg (show ¬ (5 : Int32) < nI k from nI_nlt (a := 5) hk (by decide)), m5, bnd_some, if_pos c, nI_1])]
        exact k2
      · rw [loop_in (body := fun s : Int32 × St => l_X6_stripped_40 (nI b) (nI (sumN (wtN h ap b) 6)) s.1 s.2) (s := (nI k, X)) (s' := (nI (k + 1), anS X)) (by
          show l_X6_stripped_40 (nI b) (nI (sumN (wtN h ap b) 6)) (nI k) X = _
          unfold l_X6_stripped_40
          rw [if_neg (six_le (by omega)), m6, bnd_some, if_pos c, nI_1])]
        exact k3
theorem pc_stripped : PC_stripped := by
  intro N g σ a1 hN hI
  rcases wi_cases a1 1 20 with ⟨w1, c1, c2⟩ | ⟨w1, -⟩
  rotate_left
  · refine ⟨-2, σ, ?_, ?_, Inv_mono hI⟩
    · unfold f_X5_stripped; rw [w1]; rfl
    · unfold f_X6_stripped; rw [in_eq, w1]; rfl
  obtain ⟨b, hb, hb2, rfl⟩ := nI_btw (lo := 1) (hi := 20) (by decide) c1 c2 (by decide)
  obtain ⟨h, o, d, l, f, s, ap, bg, hp, rb, H⟩ := LR_LM hI.1
  have hl : loop (fun s : Int32 × Int32 => l_X6_stripped_17 (nI b) σ s.1 s.2) 400 (0, 0) = some (nI (sumN (wtN h ap b) 6)) := by
    refine loop_to (body := fun s : Int32 × Int32 => l_X6_stripped_17 (nI b) σ s.1 s.2) (fun i => (nI (sumN (wtN h ap b) i), nI i)) 6 _ (fun i hi => ?_) ?_ 400 (by decide)
    · show l_X6_stripped_17 (nI b) σ (nI _) (nI i) = _
      unfold l_X6_stripped_17
      rw [if_neg (six_le hi), wanted6 H hi hb hb2, bnd_some, nI_add, nI_1]
      rfl
    · show l_X6_stripped_17 (nI b) σ _ (nI 6) = _
      unfold l_X6_stripped_17
      rw [if_pos (by decide)]
  obtain ⟨z, Y, k1, k2, k3⟩ := strip_loops (N := N) (g := g) H hb hb2 6 (Nat.le_refl _) σ 400 400 (Agr_refl σ) (by decide) (by decide)
  have k2 : loop (fun s : Int32 => l_X5_stripped_24 (nI b) σ (nI (sumN (wtN h ap b) 6)) s) 400 0 = some z := k2
  have k3 : loop (fun s : Int32 × St => l_X6_stripped_40 (nI b) (nI (sumN (wtN h ap b) 6)) s.1 s.2) 400 (0, σ) = some (sZ z Y) := k3
  refine ⟨sR z, Y, ?_, ?_, Inv_next hI k1⟩
  · unfold f_X5_stripped
    rw [w1, bnd_some, if_pos (by decide), together5 H hb hb2, bnd_some, k2, bnd_some]
    cases z <;> rfl
  · unfold f_X6_stripped
    rw [in_eq, w1, bnd_some, if_pos (by decide), hl, bnd_some, k3, bnd_some]
    cases z <;> rfl
