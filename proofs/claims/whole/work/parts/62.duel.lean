/-! ===== duel ===== -/
theorem loop_inv {S X : Type} {body : S → Option (S ⊕ X)} (I : Nat → S → Prop) (E : X → Prop) (n : Nat) (hs : ∀ i s, i < n → I i s → ∃ s', body s = some (.inl s') ∧ I (i + 1) s') (he : ∀ s, I n s → ∃ x, body s = some (.inr x) ∧ E x) : ∀ (m i : Nat) (s : S), i + m = n → I i s → ∀ fuel, m < fuel → ∃ x, loop body fuel s = some x ∧ E x := by
  intro m
  induction m with
  | zero =>
    intro i s hi hI fuel hf
    obtain ⟨f, rfl⟩ : ∃ f, fuel = f + 1 := ⟨fuel - 1, by omega⟩
    have hi : i = n := by omega
    subst hi
    obtain ⟨x, h1, h2⟩ := he s hI
    exact ⟨x, loop_ex h1, h2⟩
  | succ m ih =>
    intro i s hi hI fuel hf
    obtain ⟨f, rfl⟩ : ∃ f, fuel = f + 1 := ⟨fuel - 1, by omega⟩
    obtain ⟨s', h1, h2⟩ := hs i s (by omega) hI
    obtain ⟨x, h3, h4⟩ := ih (i + 1) s' (by omega) h2 f (by omega)
    exact ⟨x, (loop_in h1).trans h3, h4⟩
def Sub (s t : Nat) : Prop := ∀ j, j < 6 → s.testBit j = true → t.testBit j = true
theorem Sub_iff {s t : Nat} (hs : s < 64) : (s &&& (63 ^^^ t) = 0) ↔ Sub s t := by
  constructor
  · intro h j hj hb
    have := congrArg (fun w : Nat => w.testBit j) h
    simp only [andn_tb hj, hb, Nat.zero_testBit, Bool.true_and] at this
    simpa using this
  · intro h
    refine eq64 (andn_lt hs) (by decide) (fun j hj => ?_)
    rw [andn_tb hj, Nat.zero_testBit]
    by_cases hb : s.testBit j = true
    · rw [hb, h j hj hb]; rfl
    · have hb : s.testBit j = false := by simpa using hb
      rw [hb]; rfl
theorem Sub_le {s t : Nat} (hs : s < 64) (ht : t < 64) (h : Sub s t) : s ≤ t := by
  have e : s &&& t = s := eq64 (and64 s hs t ht).2 hs (fun j hj => by
    rw [Nat.testBit_and]
    by_cases hb : s.testBit j = true
    · rw [hb, h j hj hb]; rfl
    · have hb : s.testBit j = false := by simpa using hb
      rw [hb]; rfl)
  rw [← e]
  exact Nat.and_le_right
theorem xs_tab : ∀ s, s < 64 → ∀ k, k < 6 → s.testBit k = true → s &&& (63 - 1 <<< k) = s ^^^ 1 <<< k ∧ s ^^^ 1 <<< k < s := by decide +kernel
theorem Sub_x {s t k : Nat} (h : Sub s t) (hb : s.testBit k = true) : Sub (s ^^^ 1 <<< k) t := by
  intro j hj hx
  rw [tb_xor] at hx
  by_cases c : k = j
  · subst c; rw [hb] at hx; simp at hx
  · simp [c] at hx; exact h j hj hx
def IsB (s : Nat) (g : Nat → Int) (n : Nat) (m : Int) (q0 : Nat) : Prop := q0 < n ∧ s.testBit q0 = true ∧ g q0 = m ∧ (∀ q, q < n → s.testBit q = true → g q ≤ m) ∧ (∀ q, q < q0 → s.testBit q = true → g q < m)
theorem IsB_u {s n : Nat} {g g' : Nat → Int} {m m' : Int} {q q' : Nat} (h : IsB s g n m q) (h' : IsB s g' n m' q') (e : ∀ q, q < n → s.testBit q = true → g q = g' q) : m = m' ∧ q = q' := by
  obtain ⟨a1, a2, a3, a4, a5⟩ := h
  obtain ⟨b1, b2, b3, b4, b5⟩ := h'
  have x1 := b4 q a1 a2
  have x2 := a4 q' b1 b2
  have y1 := e q a1 a2
  have y2 := e q' b1 b2
  have hm : m = m' := by omega
  refine ⟨hm, ?_⟩
  rcases Nat.lt_trichotomy q q' with c | c | c
  · have := b5 q c a2
    omega
  · exact c
  · have := a5 q' c b2
    omega
theorem IsB_c {s n : Nat} {g g' : Nat → Int} {m : Int} {q : Nat} (h : IsB s g n m q) (e : ∀ q, q < n → s.testBit q = true → g q = g' q) : IsB s g' n m q := by
  obtain ⟨a1, a2, a3, a4, a5⟩ := h
  refine ⟨a1, a2, (e q a1 a2).symm.trans a3, fun q' h1 h2 => ?_, fun q' h1 h2 => ?_⟩
  · rw [← e q' h1 h2]; exact a4 q' h1 h2
  · rw [← e q' (by omega) h2]; exact a5 q' h1 h2
def gT (F : Nat → Nat → Nat) (A : Nat → Int32) (s q : Nat) : Int := (F s q : Int) - (A (s ^^^ 1 <<< q)).toInt
def GoodT (F : Nat → Nat → Nat) (A : Nat → Int32) (s : Nat) : Prop := -(20 * (s : Int)) ≤ (A s).toInt ∧ (A s).toInt ≤ 20 * (s : Int) ∧ ∃ q0, IsB s (gT F A s) 6 (A s).toInt q0
theorem gT_c {F : Nat → Nat → Nat} {A A' : Nat → Int32} {s : Nat} (hs : s < 64) (e : ∀ x, x < s → A x = A' x) : ∀ q, q < 6 → s.testBit q = true → gT F A s q = gT F A' s q := by
  intro q hq hb
  unfold gT
  rw [e _ (xs_tab s hs q hq hb).2]
theorem GoodT_c {F : Nat → Nat → Nat} {A A' : Nat → Int32} {s : Nat} (hs : s < 64) (e : ∀ x, x ≤ s → A x = A' x) (h : GoodT F A s) : GoodT F A' s := by
  obtain ⟨a1, a2, q0, a3⟩ := h
  unfold GoodT
  rw [← e s (Nat.le_refl _)]
  exact ⟨a1, a2, q0, IsB_c a3 (gT_c hs (fun x hx => e x (by omega)))⟩
theorem tab_eq {F : Nat → Nat → Nat} {A A' : Nat → Int32} {t : Nat} (h0 : A 0 = A' 0) (h : ∀ s, 0 < s → s < 64 → Sub s t → GoodT F A s) (h' : ∀ s, 0 < s → s < 64 → Sub s t → GoodT F A' s) : ∀ n s, s < n → s < 64 → Sub s t → A s = A' s := by
  intro n
  induction n with
  | zero => intro s hs; omega
  | succ n ih =>
    intro s hs h64 hS
    by_cases c : s = 0
    · subst c; exact h0
    · obtain ⟨-, -, q0, a3⟩ := h s (by omega) h64 hS
      obtain ⟨-, -, q1, b3⟩ := h' s (by omega) h64 hS
      have e : ∀ q, q < 6 → s.testBit q = true → gT F A s q = gT F A' s q := by
        intro q hq hb
        unfold gT
        have hx := (xs_tab s h64 q hq hb).2
        rw [ih _ (by omega) (by omega) (Sub_x hS hb)]
      exact Int32.toInt_inj.mp (IsB_u a3 b3 e).1
theorem sub_I {x y : Int32} (hx : -(2 ^ 29) ≤ x.toInt ∧ x.toInt ≤ 2 ^ 29) (hy : -(2 ^ 29) ≤ y.toInt ∧ y.toInt ≤ 2 ^ 29) : (x - y).toInt = x.toInt - y.toInt := by
  rw [Int32.toInt_sub]
  exact Int.bmod_eq_of_le (by omega) (by omega)
theorem ne0_bit {s : Nat} (hs : s < 64) (h0 : 0 < s) : ¬ ∀ q, q < 6 → s.testBit q = false := fun h => by
  have : s = 0 := eq64 hs (by decide) (fun j hj => by rw [h j hj, Nat.zero_testBit])
  omega
def CFD (σ σ' : St) : Prop := ∀ c k, c ≠ 27 → c ≠ 28 → σ' c k = σ c k
theorem CFD_Agr {σ σ' : St} (h : CFD σ σ') : Agr σ σ' := fun c k hr => h c k (by unfold rel at hr; omega) (by unfold rel at hr; omega)
theorem take5 {B h o d l f s set kt : Nat} {ap bg hp rb : Nat → Nat} {W : VW} {σ : St} {F : Nat → Nat → Nat} (H : LM B h o d l f s ap bg hp rb (cv σ 1) W) (h0 : 0 < set) (hs : set < 64) (hsub : Sub set h) (hkt : kt < 6) (hbk : h.testBit kt = true) (hF : ∀ q, q < 6 → F set q = min (bg kt) (ap q)) (hA : ∀ x, x < set → (∃ q, q < 6 ∧ set.testBit q = true ∧ x = set ^^^ 1 <<< q) → -1280 ≤ (σ 28 x).toInt ∧ (σ 28 x).toInt ≤ 1280) : ∃ σ', f_X4_takeBest (nI kt) (nI set) σ = some σ' ∧ CFD σ σ' ∧ (∀ k, k ≠ set → σ' 28 k = σ 28 k) ∧ σ' 27 1 = σ' 28 set ∧ ∃ q0, σ' 27 2 = nI q0 ∧ IsB set (gT F (fun k => σ 28 k) set) 6 (σ' 28 set).toInt q0 := by
  have hbg := (H.2.2.2.1 kt hkt hbk).1.2.2.1
  have hl := loop_inv (body := fun s : Int32 × St => l_X4_takeBest_9 (nI kt) (nI set) s.1 s.2) (fun j z => z.1 = nI j ∧ (∀ c k, c ≠ 27 → z.2 c k = σ c k) ∧ ((z.2 27 2 = -6 ∧ ∀ q, q < j → set.testBit q = false) ∨ ∃ m q0, IsB set (gT F (fun k => σ 28 k) set) j m q0 ∧ z.2 27 2 = nI q0 ∧ (z.2 27 1).toInt = m)) (fun z => (∀ c k, c ≠ 27 → z c k = σ c k) ∧ ∃ m q0, IsB set (gT F (fun k => σ 28 k) set) 6 m q0 ∧ z 27 2 = nI q0 ∧ (z 27 1).toInt = m) 6 (fun j z hj hI => ?_) (fun z hI => ?_) 6 0 (0, up2 σ 27 2 (-6)) (by decide) ⟨rfl, fun c k hc => congrFun (up2_out (σ := σ) (k := 2) (v := -6) hc) k, Or.inl ⟨up2_s σ 27 2 (-6), fun q hq => absurd hq (Nat.not_lt_zero _)⟩⟩ 400 (by decide)
  · obtain ⟨z, e1, e2, m, q0, e3, e4, e5⟩ := hl
    refine ⟨up2 z 28 set (z 27 1), ?_, ?_, ?_, ?_, q0, ?_, ?_⟩
    · unfold f_X4_takeBest
      rw [nm_eq, e1, bnd_some, gi_in hs (by decide), nm_eq, nI_clamp (by omega)]
    · intro c k h1 h2
      rw [up2_out h2]; exact e2 c k h1
    · intro k hk
      rw [up2_k _ _ _ _ _ hk]; exact e2 28 k (by decide)
    · rw [up2_s, up2_out (by decide)]
    · rw [up2_out (by decide)]; exact e4
    · rw [up2_s, e5]; exact e3
  · obtain ⟨y, z⟩ := z
    obtain ⟨hy, hf, hst⟩ := hI
    have hy : y = nI j := hy
    subst hy
    have hf : ∀ c k, c ≠ 27 → z c k = σ c k := hf
    have H' := LM_agrC H (fun c k hr => hf c k (by unfold rel at hr; omega) : Agr σ z)
    by_cases c : set.testBit j = true
    · have hx := xs_tab set hs j hj c
      have hld := load_eq H' hkt hj hbk (hsub j hj c)
      have hz28 : z 28 (set ^^^ 1 <<< j) = σ 28 (set ^^^ 1 <<< j) := hf 28 _ (by decide)
      have hbd := hA _ hx.2 ⟨j, hj, c, rfl⟩
      have hg : (nI (min (bg kt) (ap j)) - σ 28 (set ^^^ 1 <<< j)).toInt = gT F (fun k => σ 28 k) set j := by
        rw [sub_I (by rw [nI_toInt (by omega)]; omega) (by omega), nI_toInt (by omega)]
        unfold gT
        rw [hF j hj]
      have body : ∀ R, (if z 27 2 = (-6 : Int32) then some (up2 (up2 z 27 1 (nI (min (bg kt) (ap j)) - σ 28 (set ^^^ 1 <<< j))) 27 2 (nI j)) else if nI (min (bg kt) (ap j)) - σ 28 (set ^^^ 1 <<< j) ≤ z 27 1 then some z else some (up2 (up2 z 27 1 (nI (min (bg kt) (ap j)) - σ 28 (set ^^^ 1 <<< j))) 27 2 (nI j))) = some R → l_X4_takeBest_9 (nI kt) (nI set) (nI j) z = some (.inl (nI (j + 1), R)) := by
        intro R hR
        unfold l_X4_takeBest_9
        rw [if_neg (six_le hj), holds_in hs hj, bnd_some, if_pos c, if_neg (by decide), hld, bnd_some, (xor_tab set hs j hj).1, gi_in (by omega) (by decide), nI_clamp (by omega), nm_eq, hz28]
        simp only [nm_eq]
        rw [hR, bnd_some, nI_1]
      have fr : ∀ v, (∀ c k, c ≠ 27 → up2 (up2 z 27 1 v) 27 2 (nI j) c k = σ c k) := fun v c k hc => by
        rw [up2_out hc, up2_out hc]; exact hf c k hc
      generalize nI (min (bg kt) (ap j)) - σ 28 (set ^^^ 1 <<< j) = x at hg body
      have v1 : up2 (up2 z 27 1 x) 27 2 (nI j) 27 1 = x := by rw [up2_k _ _ _ _ _ (by decide), up2_s]
      rcases hst with ⟨s1, s2⟩ | ⟨m, q0, s1, s2, s3⟩
      · have s1 : z 27 2 = -6 := s1
        refine ⟨(nI (j + 1), up2 (up2 z 27 1 x) 27 2 (nI j)), body _ (if_pos s1), rfl, fr x, Or.inr ⟨_, j, ⟨by omega, c, rfl, fun q h1 h2 => ?_, fun q h1 h2 => ?_⟩, up2_s (up2 z 27 1 x) 27 2 (nI j), ?_⟩⟩
        · by_cases hq : q = j
          · rw [hq]; exact Int.le_refl _
          · rw [s2 q (by omega)] at h2; cases h2
        · rw [s2 q h1] at h2; cases h2
        · show (up2 (up2 z 27 1 x) 27 2 (nI j) 27 1).toInt = _
          rw [v1]; exact hg
      · have s2 : z 27 2 = nI q0 := s2
        have s3 : (z 27 1).toInt = m := s3
        obtain ⟨b1, b2, b3, b4, b5⟩ := s1
        have hne : ¬ z 27 2 = -6 := by rw [s2]; exact ne6 (by omega)
        by_cases cx : x ≤ z 27 1
        · have cx' : x.toInt ≤ (z 27 1).toInt := Int32.le_iff_toInt_le.mp cx
          refine ⟨(nI (j + 1), z), body _ (by rw [if_neg hne, if_pos cx]), rfl, hf, Or.inr ⟨m, q0, ⟨by omega, b2, b3, fun q h1 h2 => ?_, b5⟩, s2, s3⟩⟩
          by_cases hq : q = j
          · rw [hq]; omega
          · exact b4 q (by omega) h2
        · have cx' : ¬ x.toInt ≤ (z 27 1).toInt := fun w => cx (Int32.le_iff_toInt_le.mpr w)
          refine ⟨(nI (j + 1), up2 (up2 z 27 1 x) 27 2 (nI j)), body _ (by rw [if_neg hne, if_neg cx]), rfl, fr x, Or.inr ⟨_, j, ⟨by omega, c, rfl, fun q h1 h2 => ?_, fun q h1 h2 => ?_⟩, up2_s (up2 z 27 1 x) 27 2 (nI j), ?_⟩⟩
          · by_cases hq : q = j
            · rw [hq]; exact Int.le_refl _
            · have := b4 q (by omega) h2
              omega
          · have := b4 q (by omega) h2
            omega
          · show (up2 (up2 z 27 1 x) 27 2 (nI j) 27 1).toInt = _
            rw [v1]; exact hg
    · have cf : set.testBit j = false := by simpa using c
      refine ⟨(nI (j + 1), z), ?_, rfl, hf, ?_⟩
      · show l_X4_takeBest_9 (nI kt) (nI set) (nI j) z = _
        unfold l_X4_takeBest_9
        rw [if_neg (six_le hj), holds_in hs hj, bnd_some, if_neg c, if_pos rfl, bnd_some, nI_1]
      · rcases hst with ⟨s1, s2⟩ | ⟨m, q0, ⟨b1, b2, b3, b4, b5⟩, s2, s3⟩
        · refine Or.inl ⟨s1, fun q hq => ?_⟩
          by_cases e : q = j
          · rw [e]; exact cf
          · exact s2 q (by omega)
        · refine Or.inr ⟨m, q0, ⟨by omega, b2, b3, fun q h1 h2 => ?_, b5⟩, s2, s3⟩
          by_cases e : q = j
          · rw [e, cf] at h2; cases h2
          · exact b4 q (by omega) h2
  · obtain ⟨y, z⟩ := z
    obtain ⟨hy, hf, hst⟩ := hI
    have hy : y = nI 6 := hy
    subst hy
    refine ⟨z, ?_, hf, ?_⟩
    · show l_X4_takeBest_9 (nI kt) (nI set) (nI 6) z = _
      unfold l_X4_takeBest_9
      rw [if_pos (by decide)]
    · rcases hst with ⟨s1, s2⟩ | s
      · exact absurd s2 (ne0_bit hs h0)
      · exact s
