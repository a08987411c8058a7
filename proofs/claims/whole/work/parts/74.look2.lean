/-! ===== look: the tree to look at ===== -/
def lkN (cand : Nat → Bool) (M : Nat → Nat) : Nat → Option (Nat × Nat)
  | 0 => none
  | i + 1 => if cand i = true then (match lkN cand M i with
    | none => some (i, M i)
    | some p => if M i < p.2 then some (i, M i) else some p) else lkN cand M i
def lk1 (x : Option (Nat × Nat)) : Int32 := match x with
  | none => -6
  | some p => nI p.1
def lk2 (x : Option (Nat × Nat)) : Int32 := match x with
  | none => -6
  | some p => nI p.2
def lk3 (x : Option (Nat × Nat)) : Int32 := match x with
  | none => 1000000
  | some p => nI p.2
theorem lkN_in {cand : Nat → Bool} {M : Nat → Nat} (hM : ∀ i, M i ≤ 117649) : ∀ i p, lkN cand M i = some p → p.1 < i ∧ p.2 ≤ 117649 := by
  intro i
  induction i with
  | zero => intro p hp; cases hp
  | succ i ih =>
    intro p hp
    have hp : (if cand i = true then (match lkN cand M i with
      | none => some (i, M i)
      | some p => if M i < p.2 then some (i, M i) else some p) else lkN cand M i) = some p := hp
    by_cases c : cand i = true
    · rw [if_pos c] at hp
      cases hr : lkN cand M i with
      | none =>
        rw [hr] at hp
        cases hp
        exact ⟨Nat.lt_succ_self i, hM i⟩
      | some p' =>
        rw [hr] at hp
        have hp : (if M i < p'.2 then some (i, M i) else some p') = some p := hp
        by_cases c2 : M i < p'.2
        · rw [if_pos c2] at hp; cases hp; exact ⟨Nat.lt_succ_self i, hM i⟩
        · rw [if_neg c2] at hp; cases hp
          have := ih p hr
          exact ⟨by omega, this.2⟩
    · rw [if_neg c] at hp
      have := ih p hp
      exact ⟨by omega, this.2⟩
def fX (F : Nat → Int32) : Nat → Int32
  | 0 => 0
  | n + 1 => if F n ≤ fX F n then fX F n else F n
theorem fX_n {F : Nat → Int32} {T : Nat → Nat} : ∀ n, (∀ v, v < n → F v = nI (T v) ∧ T v ≤ 117649) → fX F n = nI (mxN T n) := by
  intro n
  induction n with
  | zero => intro _; rfl
  | succ n ih =>
    intro h
    have e := ih (fun v hv => h v (by omega))
    obtain ⟨x1, x2⟩ := h n (by omega)
    have hb : mxN T n ≤ 117649 := (mxN_le n).mpr (fun v hv => (h v (by omega)).2)
    show (if F n ≤ fX F n then fX F n else F n) = nI (max (mxN T n) (T n))
    rw [e, x1]
    by_cases c : T n ≤ mxN T n
    · rw [if_pos (nI_le c (by omega)), Nat.max_eq_left c]
    · rw [if_neg (nI_ge (by omega) (by omega)), Nat.max_eq_right (by omega)]
theorem worst6 {Y : St} {k : Nat} (hk : k < 6) : loop (fun s : Int32 × Int32 => l_X6_look_92 Y (nI k) s.1 s.2) 400 (0, 0) = some (fX (fun v => Y 42 (100 * k + v)) 100) := by
  refine loop_to (body := fun s : Int32 × Int32 => l_X6_look_92 Y (nI k) s.1 s.2) (fun i => (fX (fun v => Y 42 (100 * k + v)) i, nI i)) 100 _ (fun i hi => ?_) ?_ 400 (by decide)
  · show l_X6_look_92 Y (nI k) (fX (fun v => Y 42 (100 * k + v)) i) (nI i) = some (.inl ((if Y 42 (100 * k + i) ≤ fX (fun v => Y 42 (100 * k + v)) i then fX (fun v => Y 42 (100 * k + v)) i else Y 42 (100 * k + i)), nI (i + 1)))
    unfold l_X6_look_92
    have hix : (100 : Int32) * nI k + nI i = nI (100 * k + i) := by
      rw [show (100 : Int32) * nI k = nI (100 * k) from pk_mul 100 k, nI_add]
    rw [if_neg (show ¬ (100 : Int32) ≤ nI i from nI_ge (b := 100) hi (by decide)), hix, gi_in (by omega) (by decide), gi_in (by omega) (by decide), nI_clamp (by omega), nI_1]
    by_cases c : Y 42 (100 * k + i) ≤ fX (fun v => Y 42 (100 * k + v)) i
    · rw [if_pos c, if_pos c, bnd_some]
    · rw [if_neg c, if_neg c, bnd_some]
  · show l_X6_look_92 Y (nI k) _ (nI 100) = _
    unfold l_X6_look_92
    rw [if_pos (by decide)]
theorem seen6 {Y : St} {k s : Nat} {sq sa : Nat → Nat} (hk : k < 6) (hs : s ≤ 8) (e5 : Y 29 5 = nI s) (hS : ∀ i, i < s → sq i < 6 ∧ Y 31 (2 * i) = nI (sq i)) : loop (fun s : Int32 × Int32 => l_X6_look_45 Y (nI k) s.1 s.2) 400 (0, 0) = some (b2 (anyU (fun i => sq i == k) s)) := by
  refine loop_to (body := fun s : Int32 × Int32 => l_X6_look_45 Y (nI k) s.1 s.2) (fun i => (b2 (anyU (fun i => sq i == k) i), nI i)) s _ (fun i hi => ?_) ?_ 400 (by omega)
  · show l_X6_look_45 Y (nI k) (b2 (anyU (fun i => sq i == k) i)) (nI i) = some (.inl (b2 (anyU (fun i => sq i == k) i || (sq i == k)), nI (i + 1)))
    obtain ⟨x1, x2⟩ := hS i hi
    unfold l_X6_look_45
    rw [e5, if_neg (nI_ge hi (by omega)), mul2, gi_in (by omega) (by decide), nI_clamp (by omega), x2, nI_1]
    by_cases c : anyU (fun i => sq i == k) i = true
    · rw [c, if_pos (show ¬ b2 true = 0 by decide), bnd_some]
      rfl
    · have c : anyU (fun i => sq i == k) i = false := by simpa using c
      rw [c, if_neg (show ¬ ¬ b2 false = 0 by decide)]
      by_cases c2 : sq i = k
      · rw [if_neg (fun w => w (by rw [c2])), bnd_some]
        simp [c2, b2]
      · rw [if_pos (fun w => c2 ((nI_eq (by omega) (by omega)).mp w)), bnd_some]
        simp [c2, b2]
  · show l_X6_look_45 Y (nI k) _ (nI s) = _
    unfold l_X6_look_45
    rw [e5, if_pos (Int32.le_refl _)]
def cdN (h s : Nat) (sq : Nat → Nat) (i : Nat) : Bool := h.testBit i && !anyU (fun j => sq j == i) s
def MN (h s : Nat) (sq sa : Nat → Nat) (abl : Nat → Nat → Bool) (bg base : Nat → Nat) (t : Nat) : Nat := mxN (lvN h s sq sa abl bg base t) 100
theorem MN_le {h s : Nat} {sq sa bg base : Nat → Nat} {abl : Nat → Nat → Bool} (t : Nat) : MN h s sq sa abl bg base t ≤ 117649 := (mxN_le 100).mpr (fun v _ => cnt_le _)
theorem look5 {B h o d l f s : Nat} {ap bg hp rb sq sa : Nat → Nat} {W : VW} {σ z : St} (H : LM B h o d l f s ap bg hp rb (cv σ 1) W) (hS : ∀ i, i < s → sq i < 6 ∧ sa i ≤ 99 ∧ σ 7 i = nI (sq i) ∧ σ 8 i = nI (sa i)) (hz : RF σ z) : ∃ ζ, loop (fun s : Int32 × Int32 × Int32 × St => l_X5_look_47 s.1 s.2.1 s.2.2.1 s.2.2.2) 400 (-6, -6, 0, z) = some (lk1 (lkN (cdN h s sq) (MN h s sq sa (abN h o d l f ap rb) bg (apH h ap)) 6), lk2 (lkN (cdN h s sq) (MN h s sq sa (abN h o d l f ap rb) bg (apH h ap)) 6), ζ) ∧ RF σ ζ := by
  generalize hMd : MN h s sq sa (abN h o d l f ap rb) bg (apH h ap) = M
  have hMl : ∀ i, M i ≤ 117649 := fun i => by rw [← hMd]; exact MN_le i
  have hl := loop_inv (body := fun s : Int32 × Int32 × Int32 × St => l_X5_look_47 s.1 s.2.1 s.2.2.1 s.2.2.2) (fun i y => y.1 = lk1 (lkN (cdN h s sq) M i) ∧ y.2.1 = lk2 (lkN (cdN h s sq) M i) ∧ y.2.2.1 = nI i ∧ RF σ y.2.2.2) (fun y => y.1 = lk1 (lkN (cdN h s sq) M 6) ∧ y.2.1 = lk2 (lkN (cdN h s sq) M 6) ∧ RF σ y.2.2) 6 (fun i y hi hI => ?_) (fun y hI => ?_) 6 0 (-6, -6, 0, z) (by decide) ⟨rfl, rfl, rfl, hz⟩ 400 (by decide)
  · obtain ⟨⟨a, b, ζ⟩, e1, e2, e3, e4⟩ := hl
    have e2 : a = lk1 (lkN (cdN h s sq) M 6) := e2
    have e3 : b = lk2 (lkN (cdN h s sq) M 6) := e3
    rw [e2, e3] at e1
    exact ⟨ζ, e1, e4⟩
  · obtain ⟨a, b, y, x⟩ := y
    obtain ⟨ha, hb, hy, hf⟩ := hI
    have ha : a = lk1 (lkN (cdN h s sq) M i) := ha
    have hb : b = lk2 (lkN (cdN h s sq) M i) := hb
    have hy : y = nI i := hy
    have hfx : RF σ x := hf
    subst ha
    subst hb
    subst hy
    clear hf
    have hf : RF σ x := hfx
    clear hfx
    have Hx := LM_agrC H (RF_Agr hf)
    have hSx : ∀ j, j < s → sq j < 6 ∧ sa j ≤ 99 ∧ x 7 j = nI (sq j) ∧ x 8 j = nI (sa j) := fun j hj => by
      rw [hf 7 j (by decide) (by decide) (by decide), hf 8 j (by decide) (by decide) (by decide)]
      exact hS j hj
    have hh := has_in (b := 1) (σ := x) Hx.1.1 hi Hx.2.1.1
    have hsi := sight5 Hx hSx hi
    have hstep : lkN (cdN h s sq) M (i + 1) = (if cdN h s sq i = true then (match lkN (cdN h s sq) M i with
      | none => some (i, M i)
      | some p => if M i < p.2 then some (i, M i) else some p) else lkN (cdN h s sq) M i) := rfl
    by_cases c1 : h.testBit i = true
    · by_cases c2 : anyU (fun j => sq j == i) s = true
      · have cf : ¬ cdN h s sq i = true := by unfold cdN; rw [c2]; simp
        rw [if_neg cf] at hstep
        refine ⟨(_, _, nI (i + 1), x), ?_, by rw [hstep], by rw [hstep], rfl, hf⟩
        show l_X5_look_47 _ _ (nI i) x = _
        unfold l_X5_look_47
        rw [if_neg (six_le hi), hh, bnd_some, if_pos c1, if_neg (by decide), hsi, bnd_some, c2, if_pos (show ¬ b2 true = 0 by decide), bnd_some, nI_1]
      · have c2f : anyU (fun j => sq j == i) s = false := by simpa using c2
        have ct : cdN h s sq i = true := by unfold cdN; rw [c1, c2f]; rfl
        rw [if_pos ct] at hstep
        obtain ⟨x', m1, m2⟩ := most5b Hx hSx hi (fun j hj e => c2 ((anyU_iff s).mpr ⟨j, hj, by simpa using e⟩))
        have m1 : f_X3_mostLeftBy (nI i) x = some (nI (M i), x') := by rw [← hMd]; exact m1
        have hbody : ∀ R : Int32 × Int32 × St, (if lk1 (lkN (cdN h s sq) M i) = (-6 : Int32) then (some (nI i, nI (M i), x')) else (if lk2 (lkN (cdN h s sq) M i) ≤ nI (M i) then (some (lk1 (lkN (cdN h s sq) M i), lk2 (lkN (cdN h s sq) M i), x')) else (some (nI i, nI (M i), x')))) = some R → l_X5_look_47 (lk1 (lkN (cdN h s sq) M i)) (lk2 (lkN (cdN h s sq) M i)) (nI i) x = some (.inl (R.1, R.2.1, nI (i + 1), R.2.2)) := by
          intro R hR
          unfold l_X5_look_47
          rw [if_neg (six_le hi), hh, bnd_some, if_pos c1, if_neg (by decide), hsi, bnd_some, c2f, if_neg (show ¬ ¬ b2 false = 0 by decide), m1, bnd_some, hR, bnd_some, nI_1]
        cases hr : lkN (cdN h s sq) M i with
        | none =>
          rw [hr] at hstep hbody
          have hstep : lkN (cdN h s sq) M (i + 1) = some (i, M i) := hstep
          refine ⟨(nI i, nI (M i), nI (i + 1), x'), hbody (nI i, nI (M i), x') (if_pos rfl), by rw [hstep]; rfl, by rw [hstep]; rfl, rfl, RF_tr hf m2⟩
        | some p =>
          obtain ⟨q1, q2⟩ := lkN_in hMl i p hr
          rw [hr] at hstep hbody
          have hstep : lkN (cdN h s sq) M (i + 1) = (if M i < p.2 then some (i, M i) else some p) := hstep
          have hne : ¬ lk1 (some p) = -6 := ne6 (k := p.1) (by omega)
          have hMi := hMl i
          by_cases c3 : M i < p.2
          · rw [if_pos c3] at hstep
            refine ⟨(nI i, nI (M i), nI (i + 1), x'), hbody (nI i, nI (M i), x') ?_, by rw [hstep]; rfl, by rw [hstep]; rfl, rfl, RF_tr hf m2⟩
            rw [if_neg hne, if_neg (show ¬ lk2 (some p) ≤ nI (M i) from nI_ge c3 (by omega))]
          · rw [if_neg c3] at hstep
            refine ⟨(lk1 (some p), lk2 (some p), nI (i + 1), x'), hbody (lk1 (some p), lk2 (some p), x') ?_, by rw [hstep], by rw [hstep], rfl, RF_tr hf m2⟩
            rw [if_neg hne, if_pos (show lk2 (some p) ≤ nI (M i) from nI_le (a := p.2) (by omega) (by omega))]
    · have cf : ¬ cdN h s sq i = true := by unfold cdN; simp [c1]
      rw [if_neg cf] at hstep
      refine ⟨(_, _, nI (i + 1), x), ?_, by rw [hstep], by rw [hstep], rfl, hf⟩
      show l_X5_look_47 _ _ (nI i) x = _
      unfold l_X5_look_47
      rw [if_neg (six_le hi), hh, bnd_some, if_neg c1, if_pos rfl, bnd_some, nI_1]
  · obtain ⟨a, b, y, x⟩ := y
    obtain ⟨ha, hb, hy, hf⟩ := hI
    have hy : y = nI 6 := hy
    subst hy
    refine ⟨(a, b, x), ?_, ha, hb, hf⟩
    show l_X5_look_47 a b (nI 6) x = _
    unfold l_X5_look_47
    rw [if_pos (by decide)]
theorem look6 {h s R : Nat} {sq sa bg base : Nat → Nat} {abl : Nat → Nat → Bool} {Y : St} (hh : h < 64) (hs : s ≤ 8) (e0 : Y 29 0 = nI h) (e5 : Y 29 5 = nI s) (hS : ∀ i, i < s → sq i < 6 ∧ Y 31 (2 * i) = nI (sq i)) (hR : Y 29 25 = nI R) (hRp : 0 < R) (hRl : R ≤ 117649) (h42 : ∀ k, k < 6 → h.testBit k = true → ∀ v, v < 100 → Y 42 (100 * k + v) = nI (lvN h s sq sa abl bg base k v)) : loop (fun s : Int32 × Int32 × Int32 => l_X6_look_25 Y s.1 s.2.1 s.2.2) 400 (-6, 1000000, 0) = some (lk1 (lkN (cdN h s sq) (MN h s sq sa abl bg base) 6), lk3 (lkN (cdN h s sq) (MN h s sq sa abl bg base) 6)) := by
  generalize hMd : MN h s sq sa abl bg base = M
  have hMl : ∀ i, M i ≤ 117649 := fun i => by rw [← hMd]; exact MN_le i
  refine loop_to (body := fun s : Int32 × Int32 × Int32 => l_X6_look_25 Y s.1 s.2.1 s.2.2) (fun i => (lk1 (lkN (cdN h s sq) M i), lk3 (lkN (cdN h s sq) M i), nI i)) 6 _ (fun i hi => ?_) ?_ 400 (by decide)
  · have hstep : lkN (cdN h s sq) M (i + 1) = (if cdN h s sq i = true then (match lkN (cdN h s sq) M i with
      | none => some (i, M i)
      | some p => if M i < p.2 then some (i, M i) else some p) else lkN (cdN h s sq) M i) := rfl
    have hbody : ∀ j : Int32, (if (if h.testBit i = true then (1 : Int32) else 0) = 0 then some (0 : Int32) else (if ¬ b2 (anyU (fun j => sq j == i) s) = 0 then some 0 else (if lk3 (lkN (cdN h s sq) M i) ≤ fX (fun v => Y 42 (100 * i + v)) 100 then some 0 else some 1))) = some j → l_X6_look_25 Y (lk1 (lkN (cdN h s sq) M i)) (lk3 (lkN (cdN h s sq) M i)) (nI i) = some (.inl ((if j = 0 then lk1 (lkN (cdN h s sq) M i) else nI i), (if j = 0 then lk3 (lkN (cdN h s sq) M i) else fX (fun v => Y 42 (100 * i + v)) 100), nI (i + 1))) := by
      intro j hj
      unfold l_X6_look_25
      rw [if_neg (six_le hi), hR, if_neg (nI_nle hRp (by omega)), seen6 (sa := sa) hi hs e5 hS, bnd_some, worst6 hi, bnd_some, e0, mhas_in hh hi, bnd_some, hj, bnd_some, nI_1]
      by_cases c : j = 0
      · simp only [if_pos c, bnd_some]
      · simp only [if_neg c, bnd_some]
    show l_X6_look_25 Y (lk1 (lkN (cdN h s sq) M i)) (lk3 (lkN (cdN h s sq) M i)) (nI i) = some (.inl (lk1 (lkN (cdN h s sq) M (i + 1)), lk3 (lkN (cdN h s sq) M (i + 1)), nI (i + 1)))
    by_cases c1 : h.testBit i = true
    · by_cases c2 : anyU (fun j => sq j == i) s = true
      · have cf : ¬ cdN h s sq i = true := by unfold cdN; rw [c2]; simp
        rw [if_neg cf] at hstep
        rw [hbody 0 (by rw [if_pos c1, if_neg (by decide), c2, if_pos (show ¬ b2 true = 0 by decide)]), if_pos rfl, if_pos rfl, hstep]
      · have c2f : anyU (fun j => sq j == i) s = false := by simpa using c2
        have ct : cdN h s sq i = true := by unfold cdN; rw [c1, c2f]; rfl
        rw [if_pos ct] at hstep
        have hfX : fX (fun v => Y 42 (100 * i + v)) 100 = nI (M i) := by
          rw [← hMd]
          exact fX_n 100 (fun v hv => ⟨h42 i hi c1 v hv, cnt_le _⟩)
        rw [hfX] at hbody
        have hMi := hMl i
        have hpre : ∀ X : Option Int32, (if (if h.testBit i = true then (1 : Int32) else 0) = 0 then some (0 : Int32) else (if ¬ b2 (anyU (fun j => sq j == i) s) = 0 then some 0 else X)) = X := fun X => by
          rw [if_pos c1, if_neg (by decide), c2f, if_neg (show ¬ ¬ b2 false = 0 by decide)]
        cases hr : lkN (cdN h s sq) M i with
        | none =>
          rw [hr] at hstep hbody
          have hstep : lkN (cdN h s sq) M (i + 1) = some (i, M i) := hstep
          rw [hbody 1 (by rw [hpre, if_neg (show ¬ lk3 none ≤ nI (M i) from nI_ge (b := 1000000) (by omega) (by decide))]), if_neg (by decide), if_neg (by decide), hstep]
          rfl
        | some p =>
          obtain ⟨q1, q2⟩ := lkN_in hMl i p hr
          rw [hr] at hstep hbody
          have hstep : lkN (cdN h s sq) M (i + 1) = (if M i < p.2 then some (i, M i) else some p) := hstep
          by_cases c3 : M i < p.2
          · rw [if_pos c3] at hstep
            rw [hbody 1 (by rw [hpre, if_neg (show ¬ lk3 (some p) ≤ nI (M i) from nI_ge c3 (by omega))]), if_neg (by decide), if_neg (by decide), hstep]
            rfl
          · rw [if_neg c3] at hstep
            rw [hbody 0 (by rw [hpre, if_pos (show lk3 (some p) ≤ nI (M i) from nI_le (a := p.2) (by omega) (by omega))]), if_pos rfl, if_pos rfl, hstep]
    · have cf : ¬ cdN h s sq i = true := by unfold cdN; simp [c1]
      rw [if_neg cf] at hstep
      rw [hbody 0 (by rw [if_neg c1, if_pos rfl]), if_pos rfl, if_pos rfl, hstep]
  · show l_X6_look_25 Y _ _ (nI 6) = _
    unfold l_X6_look_25
    rw [if_pos (by decide)]
theorem pc_look : PC_look := by
  intro N g σ a1 hN hI
  rcases wi_cases a1 0 1 with ⟨hw, c1, c2⟩ | ⟨hw, -⟩
  rotate_left
  · refine ⟨-2, σ, σ, ?_, ?_, Inv_mono hI⟩
    · unfold f_X5_look; rw [hw]; rfl
    · unfold f_X6_look; rw [in_eq, hw]; rfl
  obtain ⟨h, o, d, l, f, s, ap, bg, hp, rb, H⟩ := LR_LM hI.1
  obtain ⟨sq, sa, hS⟩ := SG_of H
  have hsq : ∀ i, i < s → sq i < 6 := fun i hi => (hS i hi).1
  have hS5 : ∀ i, i < s → sq i < 6 ∧ sa i ≤ 99 ∧ σ 7 i = nI (sq i) ∧ σ 8 i = nI (sa i) := fun i hi => ⟨(hS i hi).1, (hS i hi).2.1, (hS i hi).2.2.1, (hS i hi).2.2.2.2.1⟩
  obtain ⟨z, z1, z2, z3⟩ := count5 (sq := sq) (sa := sa) H hS5 none6
  have hR := rows_v (h := h) (s := s) (sa := sa) (bg := bg) (base := apH h ap) (abl := abN h o d l f ap rb) hsq
  have hRl := cnt_le (vld h s sq sa (abN h o d l f ap rb) bg (apH h ap))
  have t5 := total5 z3
  rw [hR] at t5
  -- the reference, over what the component leaves
  have key : ∀ ζ, RF σ ζ → ∃ Y, f_X6_layBoots ζ = some Y ∧ BF ζ Y ∧ Y 29 25 = nI (sumN (fun c => if vld h s sq sa (abN h o d l f ap rb) bg (apH h ap) c = true then 1 else 0) 117649) ∧ Inv (N + 1) g Y ∧ Y 29 0 = nI h ∧ Y 29 5 = nI s ∧ (∀ i, i < s → sq i < 6 ∧ Y 31 (2 * i) = nI (sq i)) ∧ ∀ k, k < 6 → h.testBit k = true → ∀ v, v < 100 → Y 42 (100 * k + v) = nI (lvN h s sq sa (abN h o d l f ap rb) bg (apH h ap) k v) := by
    intro ζ hζ
    have hA := RF_Agr hζ
    have hSz : SG s sq sa (cv σ 1) (mv ζ) := fun j hj => by
      obtain ⟨x1, x2, x3, x4, x5, x6⟩ := hS j hj
      exact ⟨x1, x2, x3, (Agr_mv hA 6 j (fun w => by omega) (by decide)).trans x4, x5, (Agr_mv hA 7 j (fun w => by omega) (by decide)).trans x6⟩
    obtain ⟨Y, y1, y2, y3, -, -, y6⟩ := lay6 (LM_agr H hA) hSz
    have hAY := Agr_trans hA (BF_Agr y2)
    have HY := LM_agr H hAY
    refine ⟨Y, y1, y2, y3, Inv_next hI hAY, HY.2.1.2.1, HY.2.1.2.2.2.2.2.2.2.2.2.2.2, fun i hi => ⟨hsq i hi, ?_⟩, y6⟩
    exact (Agr_mv hAY 6 i (fun w => by omega) (by decide)).trans (hS i hi).2.2.2.1
  generalize hRn : sumN (fun c => if vld h s sq sa (abN h o d l f ap rb) bg (apH h ap) c = true then 1 else 0) 117649 = R at *
  by_cases hR0 : R = 0
  · obtain ⟨Y, y1, y2, y3, y4, -⟩ := key z z2
    refine ⟨-6, z, Y, ?_, ?_, y4⟩
    · unfold f_X5_look
      rw [hw, bnd_some, if_pos (by decide), z1, bnd_some, t5, bnd_some, hR0, if_neg (fun w => w rfl)]
    · have hl : loop (fun s : Int32 × Int32 × Int32 => l_X6_look_25 Y s.1 s.2.1 s.2.2) 400 (-6, 1000000, 0) = some (-6, 1000000) := by
        refine loop_ex (body := fun s : Int32 × Int32 × Int32 => l_X6_look_25 Y s.1 s.2.1 s.2.2) (f := 399) (s := (-6, 1000000, 0)) ?_
        show l_X6_look_25 Y (-6) 1000000 0 = _
        unfold l_X6_look_25
        rw [if_neg (by decide), y3, hR0, if_pos (by decide)]
      unfold f_X6_look
      rw [in_eq, hw, bnd_some, if_pos (by decide), y1, bnd_some, hl, bnd_some, if_pos (show (-6 : Int32) < 0 by decide)]
  · obtain ⟨ζ, l1, l2⟩ := look5 H hS5 z2
    obtain ⟨Y, y1, y2, y3, y4, y5, y6, y7, y8⟩ := key ζ l2
    have l6 := look6 (sa := sa) H.1.1 H.1.2.2.2.2.2 y5 y6 y7 y3 (by omega) hRl y8
    have hMl : ∀ i, MN h s sq sa (abN h o d l f ap rb) bg (apH h ap) i ≤ 117649 := fun i => MN_le i
    have hin := lkN_in (cand := cdN h s sq) hMl 6
    generalize lkN (cdN h s sq) (MN h s sq sa (abN h o d l f ap rb) bg (apH h ap)) 6 = x at l1 l6 hin
    have E5 : f_X5_look a1 σ = (if ¬ a1 = 0 then (some ((lk2 x, ζ))) else (some ((lk1 x, ζ)))) := by
      unfold f_X5_look
      rw [hw, bnd_some, if_pos (by decide), z1, bnd_some, t5, bnd_some, if_pos (nI_ne0 (by omega) (by omega)), l1, bnd_some]
    have E6 : f_X6_look a1 ζ = (if lk1 x < 0 then (some ((lk1 x, Y))) else (if ¬ a1 = 0 then (some ((lk3 x, Y))) else (some ((lk1 x, Y))))) := by
      unfold f_X6_look
      rw [in_eq, hw, bnd_some, if_pos (by decide), y1, bnd_some, l6, bnd_some]
    cases x with
    | none =>
      refine ⟨-6, ζ, Y, ?_, ?_, y4⟩
      · rw [E5]
        by_cases c : a1 = 0
        · rw [if_neg (fun w => w c)]; rfl
        · rw [if_pos c]; rfl
      · rw [E6, if_pos (show lk1 none < 0 by decide)]; rfl
    | some p =>
      obtain ⟨q1, q2⟩ := hin p rfl
      rw [if_neg (show ¬ lk1 (some p) < 0 from lt_neg (k := p.1) (by omega))] at E6
      by_cases c : a1 = 0
      · exact ⟨nI p.1, ζ, Y, by rw [E5, if_neg (fun w => w c)]; rfl, by rw [E6, if_neg (fun w => w c)]; rfl, y4⟩
      · exact ⟨nI p.2, ζ, Y, by rw [E5, if_pos c]; rfl, by rw [E6, if_pos c]; rfl, y4⟩
