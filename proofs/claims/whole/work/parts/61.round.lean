/-! ===== round ===== -/
theorem jmaxI (x y : Int32) : (jmax x y).toInt = max x.toInt y.toInt := by
  unfold jmax
  by_cases c : x < y
  · rw [if_pos c]
    rw [Int32.lt_iff_toInt_lt] at c
    omega
  · rw [if_neg c]
    rw [Int32.lt_iff_toInt_lt] at c
    omega
theorem jmax_as (x y z : Int32) : jmax (jmax x y) z = jmax x (jmax y z) := by
  apply Int32.toInt_inj.mp
  rw [jmaxI, jmaxI, jmaxI, jmaxI]
  omega
theorem jmax_id (x y : Int32) : jmax (jmax x y) y = jmax x y := by
  apply Int32.toInt_inj.mp
  rw [jmaxI, jmaxI]
  omega
theorem foldM_j {P : Nat → Bool} {y z : Int32} : ∀ n, foldM P n (jmax y z) = jmax y (foldM P n z) := by
  intro n
  induction n with
  | zero => rfl
  | succ n ih =>
    show (if P n = true then jmax (foldM P n (jmax y z)) (nI (pop n)) else foldM P n (jmax y z)) = jmax y (if P n = true then jmax (foldM P n z) (nI (pop n)) else foldM P n z)
    rw [ih]
    by_cases c : P n = true
    · rw [if_pos c, if_pos c, jmax_as]
    · rw [if_neg c, if_neg c]
theorem jmax_6 {y : Int32} (h : -6 ≤ y.toInt) : jmax y (-6) = y := by
  apply Int32.toInt_inj.mp
  rw [jmaxI, show (-6 : Int32).toInt = -6 from by decide]
  omega
theorem foldM_none {P : Nat → Bool} {y : Int32} : ∀ n, (∀ i, i < n → P i = false) → foldM P n y = y := by
  intro n
  induction n with
  | zero => intro _; rfl
  | succ n ih =>
    intro h
    show (if P n = true then _ else foldM P n y) = y
    rw [h n (by omega), if_neg (by decide), ih (fun i hi => h i (by omega))]
theorem cE_cE {σ : St} {G G' : GT} : cE (cE σ G) G' = cE σ G' := by
  funext c k
  unfold cE
  by_cases h : c = 22 ∧ k < 64
  · rw [if_pos h, if_pos h]
  · rw [if_neg h, if_neg h, if_neg h]
def PR (h d l : Nat) (ap rb : Nat → Nat) (a s : Nat) : Bool := anyU (fun k => GG (mS h d l ap rb) a 64 s k && MRb h d l ap rb k a) 6
def bR (h d l : Nat) (ap rb : Nat → Nat) : Nat → Int32
  | 0 => -6
  | i + 1 => jmax (bR h d l ap rb i) (foldM (PR h d l ap rb i) 64 (-6))
theorem bR_ge {h d l : Nat} {ap rb : Nat → Nat} : ∀ i, -6 ≤ (bR h d l ap rb i).toInt := by
  intro i
  induction i with
  | zero =>
    show -6 ≤ (-6 : Int32).toInt
    decide
  | succ i ih =>
    show -6 ≤ (jmax (bR h d l ap rb i) _).toInt
    rw [jmaxI]
    omega
def rS (σ : St) (M : Nat → Nat) : Nat → St
  | 0 => σ
  | i + 1 => cE σ (GG M i 64)
theorem rS_cE {σ : St} {M : Nat → Nat} {G : GT} : ∀ i, cE (rS σ M i) G = cE σ G := by
  intro i
  cases i with
  | zero => rfl
  | succ i => exact cE_cE
theorem rS_NX {σ : St} {M : Nat → Nat} (h : NX σ M) : ∀ i, NX (rS σ M i) M := by
  intro i
  cases i with
  | zero => exact h
  | succ i => exact ⟨h.1, fun k hk => by show cE σ _ 21 k = _; rw [cE_out (by decide)]; exact h.2 k hk⟩
theorem round5 {B h o d l f s : Nat} {ap bg hp rb : Nat → Nat} {W : VW} {σ : St} (H : LM B h o d l f s ap bg hp rb (cv σ 1) W) : f_X2_longestRound σ = some (bR h d l ap rb 6, rS (rnS σ (mS h d l ap rb) 6) (mS h d l ap rb) 6) := by
  have hl := loop_to (body := fun s : Int32 × Int32 × St => l_X2_longestRound_10 s.1 s.2.1 s.2.2) (fun i => (bR h d l ap rb i, nI i, rS (rnS σ (mS h d l ap rb) 6) (mS h d l ap rb) i)) 6 (bR h d l ap rb 6, rS (rnS σ (mS h d l ap rb) 6) (mS h d l ap rb) 6) (fun i hi => ?_) ?_ 400 (by decide)
  · have hl : loop (fun s : Int32 × Int32 × St => l_X2_longestRound_10 s.1 s.2.1 s.2.2) 400 (-6, 0, rnS σ (mS h d l ap rb) 6) = _ := hl
    unfold f_X2_longestRound
    rw [readNext_eq H, bnd_some, hl, bnd_some]
  · show l_X2_longestRound_10 (bR h d l ap rb i) (nI i) (rS (rnS σ (mS h d l ap rb) 6) (mS h d l ap rb) i) = _
    unfold l_X2_longestRound_10
    have hA : Agr σ (cE (rnS σ (mS h d l ap rb) 6) (GG (mS h d l ap rb) i 64)) := Agr_trans Agr_rnS Agr_cE
    rw [if_neg (six_le hi), follow5 (rS_NX NX_rn i) hi, bnd_some, rS_cE, thievesOf_eq (LM_agrC H hA) hi, bnd_some, longest5 (bset_lt _ 6 (by decide)), bnd_some, nI_1]
    have e : foldM (fun s => anyU (fun k => GG (mS h d l ap rb) i 64 s k && (bset (fun k => MRb h d l ap rb k i) 6).testBit k) 6) 64 (-6) = foldM (PR h d l ap rb i) 64 (-6) := by
      refine foldM_c 64 (fun s _ => ?_)
      unfold PR
      refine anyU_c 6 (fun k hk => ?_)
      rw [bset_tb]
      simp [hk]
    rw [e]
    rfl
  · show l_X2_longestRound_10 _ (nI 6) _ = _
    unfold l_X2_longestRound_10
    rw [if_pos (by decide)]
theorem round38 {B h o d l f s a set : Nat} {ap bg hp rb : Nat → Nat} {V : VW} {X : St} {y : Int32} (H : LM B h o d l f s ap bg hp rb V (nv X)) (ha : a < 6) (hs : set < 64) : loop (fun s : Int32 × Int32 => l_X6_round_38 (nI a) (mE X (GG (mS h d l ap rb) a 64)) (nI set) s.1 s.2) 400 (y, 0) = some (if PR h d l ap rb a set = true then jmax y (nI (pop set)) else y) := by
  have hl := loop_to (body := fun s : Int32 × Int32 => l_X6_round_38 (nI a) (mE X (GG (mS h d l ap rb) a 64)) (nI set) s.1 s.2) (fun i => ((if anyU (fun k => GG (mS h d l ap rb) a 64 set k && MRb h d l ap rb k a) i = true then jmax y (nI (pop set)) else y), nI i)) 6 (if PR h d l ap rb a set = true then jmax y (nI (pop set)) else y) (fun i hi => ?_) ?_ 400 (by decide)
  · exact hl
  · show l_X6_round_38 (nI a) (mE X (GG (mS h d l ap rb) a 64)) (nI set) _ (nI i) = some (Sum.inl ((if (anyU (fun k => GG (mS h d l ap rb) a 64 set k && MRb h d l ap rb k a) i || (GG (mS h d l ap rb) a 64 set i && MRb h d l ap rb i a)) = true then jmax y (nI (pop set)) else y), nI (i + 1)))
    have H' : LM B h o d l f s ap bg hp rb V (nv (mE X (GG (mS h d l ap rb) a 64))) := by rw [nv_mE]; exact H
    unfold l_X6_round_38
    rw [if_neg (six_le hi), i6, gi_in (by omega) (by decide), nI_clamp (by omega), mE_at hs hi, mayRob6_eq H' hi, bnd_some, mhas_in (bset_lt _ 6 (by decide)) ha, bnd_some, (pop_tab set hs).2.1, bnd_some, bnd_some, le_jmax, nI_1, bset_tb]
    have hP : MRb h d l ap rb i a = true → ¬ nI i = nI a := fun hm z => by
      have := (nI_eq (by omega) (by omega)).mp z
      subst this
      unfold MRb at hm
      simp at hm
    have hcond : (if b2 (GG (mS h d l ap rb) a 64 set i) = 0 then some (0 : Int32) else if nI i = nI a then some 0 else if (if (decide (a < 6) && MRb h d l ap rb i a) = true then (1 : Int32) else 0) = 0 then some 0 else some 1) = some (b2 (GG (mS h d l ap rb) a 64 set i && MRb h d l ap rb i a)) := by
      by_cases c1 : GG (mS h d l ap rb) a 64 set i = true
      · rw [c1, if_neg (by decide)]
        by_cases c2 : MRb h d l ap rb i a = true
        · rw [if_neg (hP c2), c2]
          simp [ha, b2]
        · have c2 : MRb h d l ap rb i a = false := by simpa using c2
          rw [c2]
          simp [b2]
      · have c1 : GG (mS h d l ap rb) a 64 set i = false := by simpa using c1
        rw [c1]
        rfl
    rw [hcond, bnd_some]
    by_cases c3 : (GG (mS h d l ap rb) a 64 set i && MRb h d l ap rb i a) = true
    · rw [c3, if_neg (show ¬ b2 true = 0 by decide), bnd_some]
      by_cases c4 : anyU (fun k => GG (mS h d l ap rb) a 64 set k && MRb h d l ap rb k a) i = true
      · rw [c4, if_pos rfl, jmax_id]; simp
      · have c4 : anyU (fun k => GG (mS h d l ap rb) a 64 set k && MRb h d l ap rb k a) i = false := by simpa using c4
        rw [c4]; simp
    · have c3 : (GG (mS h d l ap rb) a 64 set i && MRb h d l ap rb i a) = false := by simpa using c3
      rw [c3, if_pos (show b2 false = 0 from rfl), bnd_some, Bool.or_false]
  · show l_X6_round_38 (nI a) (mE X (GG (mS h d l ap rb) a 64)) (nI set) _ (nI 6) = _
    unfold l_X6_round_38
    rw [if_pos (by decide)]
    rfl
theorem round29 {B h o d l f s a : Nat} {ap bg hp rb : Nat → Nat} {V : VW} {X : St} {y : Int32} (H : LM B h o d l f s ap bg hp rb V (nv X)) (ha : a < 6) : loop (fun s : Int32 × Int32 => l_X6_round_29 (nI a) (mE X (GG (mS h d l ap rb) a 64)) s.1 s.2) 400 (y, 0) = some (foldM (PR h d l ap rb a) 64 y) := by
  refine loop_to (body := fun s : Int32 × Int32 => l_X6_round_29 (nI a) (mE X (GG (mS h d l ap rb) a 64)) s.1 s.2) (fun i => (foldM (PR h d l ap rb a) i y, nI i)) 64 _ (fun i hi => ?_) ?_ 400 (by decide)
  · show l_X6_round_29 (nI a) (mE X (GG (mS h d l ap rb) a 64)) _ (nI i) = _
    unfold l_X6_round_29
    rw [if_neg (show ¬ (64 : Int32) ≤ nI i from nI_ge (b := 64) hi (by decide)), round38 H ha hi, bnd_some, nI_1]
    rfl
  · show l_X6_round_29 (nI a) (mE X (GG (mS h d l ap rb) a 64)) _ (nI 64) = _
    unfold l_X6_round_29
    rw [if_pos (by decide)]
def rM (σ : St) (M : Nat → Nat) (h : Nat) : Nat → St
  | 0 => σ
  | i + 1 => if h.testBit i = true then mE (anS (rM σ M h i)) (GG M i 64) else rM σ M h i
theorem rM_Agr {σ : St} {M : Nat → Nat} {h : Nat} : ∀ i, Agr σ (rM σ M h i) := by
  intro i
  induction i with
  | zero => exact Agr_refl σ
  | succ i ih =>
    show Agr σ (if h.testBit i = true then _ else _)
    by_cases c : h.testBit i = true
    · rw [if_pos c]; exact Agr_trans ih Agr_mE
    · rw [if_neg c]; exact ih
theorem round6 {B h o d l f s : Nat} {ap bg hp rb : Nat → Nat} {V : VW} {σ : St} (H : LM B h o d l f s ap bg hp rb V (mv σ)) : f_X6_round σ = some (bR h d l ap rb 6, rM σ (mS h d l ap rb) h 6) := by
  obtain ⟨⟨h1, -⟩, -⟩ := id H
  have hl := loop_to (body := fun s : Int32 × Int32 × St => l_X6_round_5 s.1 s.2.1 s.2.2) (fun i => (bR h d l ap rb i, nI i, rM σ (mS h d l ap rb) h i)) 6 (bR h d l ap rb 6, rM σ (mS h d l ap rb) h 6) (fun i hi => ?_) ?_ 400 (by decide)
  · have hl : loop (fun s : Int32 × Int32 × St => l_X6_round_5 s.1 s.2.1 s.2.2) 400 (-6, 0, σ) = _ := hl
    unfold f_X6_round
    rw [hl, bnd_some]
  · show l_X6_round_5 (bR h d l ap rb i) (nI i) (rM σ (mS h d l ap rb) h i) = some (Sum.inl (jmax (bR h d l ap rb i) (foldM (PR h d l ap rb i) 64 (-6)), nI (i + 1), if h.testBit i = true then mE (anS (rM σ (mS h d l ap rb) h i)) (GG (mS h d l ap rb) i 64) else rM σ (mS h d l ap rb) h i))
    have Hi := LM_agr H (rM_Agr (σ := σ) (M := mS h d l ap rb) (h := h) i)
    have e2 : rM σ (mS h d l ap rb) h i 29 0 = nI h := Hi.2.1.2.1
    have hf : foldM (PR h d l ap rb i) 64 (bR h d l ap rb i) = jmax (bR h d l ap rb i) (foldM (PR h d l ap rb i) 64 (-6)) := by
      rw [← foldM_j, jmax_6 (bR_ge i)]
    unfold l_X6_round_5
    rw [if_neg (six_le hi), e2, mhas_in h1 hi, bnd_some, lay_eq Hi hi, bnd_some, round29 (LM_now Hi) hi, bnd_some, nI_1, hf]
    by_cases c : h.testBit i = true
    · rw [if_pos c, if_neg (by decide), if_pos c, bnd_some]
    · rw [if_neg c, if_pos rfl, if_neg c, bnd_some, foldM_none 64 (fun s hs => ?_), jmax_6 (bR_ge i)]
      have : ¬ PR h d l ap rb i s = true := fun z => by
        unfold PR at z
        obtain ⟨k, hk, hp⟩ := (anyU_iff 6).mp z
        rw [Bool.and_eq_true] at hp
        exact c (MRb_h hp.2).2
      simpa using this
  · show l_X6_round_5 _ (nI 6) _ = _
    unfold l_X6_round_5
    rw [if_pos (by decide)]
theorem pc_round : PC_round := by
  intro N g σ hN hI
  obtain ⟨h, o, d, l, f, s, ap, bg, hp, rb, H⟩ := LR_LM hI.1
  have hA : Agr σ (rS (rnS σ (mS h d l ap rb) 6) (mS h d l ap rb) 6) := Agr_trans Agr_rnS Agr_cE
  refine ⟨bR h d l ap rb 6, rS (rnS σ (mS h d l ap rb) 6) (mS h d l ap rb) 6, _, ?_, round6 (LM_agr H hA), Inv_next hI (Agr_trans hA (rM_Agr 6))⟩
  unfold f_X5_round
  rw [round5 H, bnd_some]
