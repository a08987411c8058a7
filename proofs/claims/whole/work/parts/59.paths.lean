/-! ===== chains: the same table on both sides ===== -/
def anyU (P : Nat → Bool) : Nat → Bool
  | 0 => false
  | n + 1 => anyU P n || P n
def anyR (P : Nat → Bool) : Nat → Bool
  | 0 => false
  | n + 1 => P (6 - (n + 1)) || anyR P n
theorem anyRU (P : Nat → Bool) : anyR P 6 = anyU P 6 := by
  show (P 0 || (P 1 || (P 2 || (P 3 || (P 4 || (P 5 || false)))))) = ((((((false || P 0) || P 1) || P 2) || P 3) || P 4) || P 5)
  cases P 0 <;> cases P 1 <;> cases P 2 <;> cases P 3 <;> cases P 4 <;> cases P 5 <;> rfl
theorem anyU_c {P Q : Nat → Bool} : ∀ n, (∀ i, i < n → P i = Q i) → anyU P n = anyU Q n := by
  intro n
  induction n with
  | zero => intro _; rfl
  | succ n ih =>
    intro h
    show (anyU P n || P n) = (anyU Q n || Q n)
    rw [ih (fun i hi => h i (by omega)), h n (by omega)]
theorem anyU_iff {P : Nat → Bool} : ∀ n, anyU P n = true ↔ ∃ i, i < n ∧ P i = true := by
  intro n
  induction n with
  | zero => simp [anyU]
  | succ n ih =>
    show (anyU P n || P n) = true ↔ _
    rw [Bool.or_eq_true, ih]
    constructor
    · rintro (⟨i, h1, h2⟩ | h)
      · exact ⟨i, by omega, h2⟩
      · exact ⟨n, by omega, h⟩
    · rintro ⟨i, h1, h2⟩
      by_cases c : i = n
      · subst c; exact Or.inr h2
      · exact Or.inl ⟨i, by omega, h2⟩
theorem one_tab : ∀ k, k < 6 → ((1 : Int32) <<< (nI k &&& 31)) = nI (1 <<< k) ∧ 1 <<< k < 64 := by decide +kernel
abbrev GT : Type := Nat → Nat → Bool
def addG (G : GT) (s q : Nat) (b : Bool) : GT := fun s' q' => G s' q' || (b && (s' == s) && (q' == q))
def Lq (M : Nat → Nat) (g : Nat → Bool) (n q : Nat) : Bool := anyU (fun k => g k && (M k).testBit q) n
/-- the table with set's row led on, ones below j -/
def nx (M : Nat → Nat) (G : GT) (set j : Nat) : GT := fun s q => G s q || (decide (q < j) && (s == (set ||| 1 <<< q)) && !set.testBit q && Lq M (G set) 6 q)
theorem or_ne {set q : Nat} (h : set.testBit q = false) : ¬ set = set ||| 1 <<< q := fun z => by
  have := congrArg (fun w : Nat => w.testBit q) z
  simp only [tb_or, h] at this
  simp at this
theorem nx_row (M : Nat → Nat) (G : GT) (set j : Nat) : ∀ k, nx M G set j set k = G set k := by
  intro k
  unfold nx
  by_cases hb : set.testBit k = true
  · simp [hb]
  · have hb : set.testBit k = false := by simpa using hb
    have := or_ne hb
    have e : (set == (set ||| 1 <<< k)) = false := by simpa using this
    simp [e]
theorem nx_s (M : Nat → Nat) (G : GT) (set j : Nat) : addG (nx M G set j) (set ||| 1 <<< j) j (!set.testBit j && Lq M (G set) 6 j) = nx M G set (j + 1) := by
  funext s q
  unfold addG nx
  by_cases c : q = j
  · subst c
    have e1 : decide (q < q) = false := by simp
    have e2 : decide (q < q + 1) = true := by simp
    rw [e1, e2]
    cases G s q <;> cases (s == (set ||| 1 <<< q)) <;> cases set.testBit q <;> cases Lq M (G set) 6 q <;> simp
  · have e1 : decide (q < j + 1) = decide (q < j) := by
      apply decide_eq_decide.mpr
      omega
    have e2 : (q == j) = false := by simpa using c
    rw [e1, e2]
    simp
theorem nx_0 (M : Nat → Nat) (G : GT) (set : Nat) : nx M G set 0 = G := by
  funext s q
  simp [nx]
def GG (M : Nat → Nat) (from' : Nat) : Nat → GT
  | 0 => fun s q => (s == 1 <<< from') && (q == from')
  | i + 1 => nx M (GG M from' i) i 6
/-! the component's table -/
def cE (σ : St) (G : GT) : St := fun c k => if c = 22 ∧ k < 64 then nI (bset (G k) 6) else σ c k
theorem cE_at {σ : St} {G : GT} {k : Nat} (h : k < 64) : cE σ G 22 k = nI (bset (G k) 6) := by simp [cE, h]
theorem cE_out {σ : St} {G : GT} {c : Nat} (h : c ≠ 22) : cE σ G c = σ c := by
  funext k
  simp [cE, h]
theorem bset_add {G : GT} {s j : Nat} (hj : j < 6) : bset (addG G s j true s) 6 = bset (G s) 6 ||| 1 <<< j := by
  refine eq64 (bset_lt _ 6 (by decide)) (or_tab _ (bset_lt _ 6 (by decide)) j hj).2 (fun i hi => ?_)
  rw [tb_or, bset_tb, bset_tb]
  unfold addG
  by_cases c : i = j
  · subst c; simp [hi]
  · have c' : ¬ j = i := fun z => c z.symm
    simp [hi, c, c']
theorem cE_up {σ : St} {G : GT} {s j : Nat} (hs : s < 64) (hj : j < 6) : up2 (cE σ G) 22 s (nI (bset (G s) 6 ||| 1 <<< j)) = cE σ (addG G s j true) := by
  funext c k
  by_cases h : c = 22
  · subst h
    rw [up2_at]
    by_cases hk : k = s
    · rw [if_pos hk, hk, cE_at hs, bset_add hj]
    · rw [if_neg hk]
      have e : addG G s j true k = G k := by
        funext q
        have e2 : (k == s) = false := by simpa using hk
        simp [addG, e2]
      unfold cE
      rw [e]
  · rw [up2_out h, cE_out h, cE_out h]
theorem addG_f (G : GT) (s q : Nat) : addG G s q false = G := by
  funext s' q'
  simp [addG]
def NX (σ : St) (M : Nat → Nat) : Prop := (∀ k, M k < 64) ∧ ∀ k, k < 6 → σ 21 k = nI (M k)
theorem leads_eq {σ : St} {M : Nat → Nat} {e j : Nat} (hN : NX σ M) (he : e < 64) (hj : j < 6) : f_X2_leadsTo (nI e) ((1 : Int32) <<< (nI j &&& 31)) σ = some (b2 (Lq M (fun k => e.testBit k) 6 j)) := by
  have hl : ∀ n, n ≤ 6 → ∀ fuel, n < fuel → loop (fun s : Int32 => l_X2_leadsTo_2 (nI e) ((1 : Int32) <<< (nI j &&& 31)) σ s) fuel (nI (6 - n)) = some (if anyR (fun k => e.testBit k && (M k).testBit j) n = true then .inr 1 else .inl ()) := by
    intro n
    induction n with
    | zero =>
      intro hn fuel hf
      obtain ⟨f, rfl⟩ : ∃ f, fuel = f + 1 := ⟨fuel - 1, by omega⟩
      exact loop_ex (body := fun s : Int32 => l_X2_leadsTo_2 (nI e) ((1 : Int32) <<< (nI j &&& 31)) σ s) (s := nI (6 - 0)) (if_pos (by decide))
    | succ n ih =>
      intro hn fuel hf
      obtain ⟨f, rfl⟩ : ∃ f, fuel = f + 1 := ⟨fuel - 1, by omega⟩
      have ih := ih (by omega) f (by omega)
      show _ = some (if ((e.testBit (6 - (n + 1)) && (M (6 - (n + 1))).testBit j) || anyR (fun k => e.testBit k && (M k).testBit j) n) = true then (.inr 1 : Unit ⊕ Int32) else .inl ())
      have hi : 6 - (n + 1) < 6 := by omega
      rw [show 6 - n = 6 - (n + 1) + 1 by omega] at ih
      generalize 6 - (n + 1) = i at *
      have hb : l_X2_leadsTo_2 (nI e) ((1 : Int32) <<< (nI j &&& 31)) σ (nI i) = if (e.testBit i && (M i).testBit j) = true then some (.inr (.inr 1)) else some (.inl (nI (i + 1))) := by
        unfold l_X2_leadsTo_2
        rw [if_neg (six_le hi), holds_in he hi, bnd_some, gi_in hi (by decide), nI_clamp (by omega), hN.2 i hi, nI_1]
        by_cases c1 : e.testBit i = true
        · by_cases c2 : (M i).testBit j = true
          · rw [if_pos c1, if_neg (by decide), if_neg (fun q => by rw [(has_tab _ (hN.1 i) j hj).1.mp q] at c2; cases c2), if_pos (by simp [c1, c2])]
          · rw [if_pos c1, if_neg (by decide), if_pos ((has_tab _ (hN.1 i) j hj).1.mpr (by simpa using c2)), if_neg (by simp [c2])]
        · rw [if_neg c1, if_pos rfl, if_neg (by simp [c1])]
      by_cases c : (e.testBit i && (M i).testBit j) = true
      · rw [if_pos c] at hb
        rw [loop_ex (body := fun s : Int32 => l_X2_leadsTo_2 (nI e) ((1 : Int32) <<< (nI j &&& 31)) σ s) (s := nI i) hb, c]
        rfl
      · rw [if_neg c] at hb
        rw [loop_in (body := fun s : Int32 => l_X2_leadsTo_2 (nI e) ((1 : Int32) <<< (nI j &&& 31)) σ s) (s := nI i) hb, ih]
        have c : (e.testBit i && (M i).testBit j) = false := by simpa using c
        rw [c]
        rfl
  have h6 := hl 6 (Nat.le_refl _) 400 (by decide)
  rw [anyRU] at h6
  have h6 : loop (fun s : Int32 => l_X2_leadsTo_2 (nI e) ((1 : Int32) <<< (nI j &&& 31)) σ s) 400 0 = some (if Lq M (fun k => e.testBit k) 6 j = true then .inr 1 else .inl ()) := h6
  unfold f_X2_leadsTo
  rw [h6, bnd_some]
  cases Lq M (fun k => e.testBit k) 6 j <;> rfl
theorem Lq_bset {M : Nat → Nat} {g : Nat → Bool} {j : Nat} : Lq M (fun k => (bset g 6).testBit k) 6 j = Lq M g 6 j := by
  unfold Lq
  refine anyU_c 6 (fun i hi => ?_)
  show ((bset g 6).testBit i && _) = _
  rw [bset_tb]
  simp [hi]
theorem inner5 {σ : St} {M : Nat → Nat} {G : GT} {set : Nat} (hN : NX σ M) (hs : set < 64) : loop (fun s : Int32 × St => l_X2_followFrom_29 (nI set) s.1 s.2) 400 (0, cE σ G) = some (cE σ (nx M G set 6)) := by
  have h := loop_to (body := fun s : Int32 × St => l_X2_followFrom_29 (nI set) s.1 s.2) (fun i => (nI i, cE σ (nx M G set i))) 6 (cE σ (nx M G set 6)) (fun i hi => ?_) ?_ 400 (by decide)
  · rw [nx_0] at h
    exact h
  · show l_X2_followFrom_29 (nI set) (nI i) (cE σ (nx M G set i)) = some (.inl (nI (i + 1), cE σ (nx M G set (i + 1))))
    have hN' : NX (cE σ (nx M G set i)) M := ⟨hN.1, fun k hk => by rw [cE_out (by decide)]; exact hN.2 k hk⟩
    have hle := leads_eq (e := bset (G set) 6) hN' (bset_lt _ 6 (by decide)) hi
    rw [Lq_bset] at hle
    have hrow : cE σ (nx M G set i) 22 set = nI (bset (G set) 6) := by
      rw [cE_at hs, show nx M G set i set = G set from funext (nx_row M G set i)]
    obtain ⟨o1, o2⟩ := or_tab set hs i hi
    unfold l_X2_followFrom_29
    rw [if_neg (six_le hi), nm_eq, ← nx_s, gi_in hs (by decide), nI_clamp (by omega), hrow, hle, bnd_some, o1, gi_in o2 (by decide), gi_in o2 (by decide), nI_clamp (by omega), nm_eq, nI_1, cE_at o2]
    by_cases c1 : set.testBit i = true
    · rw [if_pos (fun q => by rw [(has_tab set hs i hi).1.mp q] at c1; cases c1), c1, bnd_some]
      show _ = some (Sum.inl (nI (i + 1), cE σ (addG (nx M G set i) (set ||| 1 <<< i) i false)))
      rw [addG_f]
    · have c1 : set.testBit i = false := by simpa using c1
      rw [if_neg (fun w => w ((has_tab set hs i hi).1.mpr c1)), c1]
      by_cases c2 : Lq M (G set) 6 i = true
      · rw [c2, if_neg (by decide), bnd_some, (or_tab _ (bset_lt _ 6 (by decide)) i hi).1, cE_up o2 hi]
        rfl
      · have c2 : Lq M (G set) 6 i = false := by simpa using c2
        rw [c2, if_pos (show b2 false = 0 from rfl), bnd_some]
        show _ = some (Sum.inl (nI (i + 1), cE σ (addG (nx M G set i) (set ||| 1 <<< i) i false)))
        rw [addG_f]
  · show l_X2_followFrom_29 (nI set) (nI 6) _ = _
    unfold l_X2_followFrom_29
    rw [if_pos (by decide)]
theorem cE_0 {σ : St} {M : Nat → Nat} {a : Nat} (ha : a < 6) : up2 (fillS σ 22 64 0) 22 (1 <<< a) (nI (1 <<< a)) = cE σ (GG M a 0) := by
  have h1 := (one_tab a ha).2
  funext c k
  by_cases h : c = 22
  · subst h
    rw [up2_at, fillS_at]
    by_cases hk : k = 1 <<< a
    · rw [if_pos hk, hk, cE_at h1]
      congr 1
      refine eq64 h1 (bset_lt _ 6 (by decide)) (fun i hi => ?_)
      rw [bset_tb]
      have e : (1 <<< a : Nat).testBit i = decide (a = i) := by
        rw [Nat.shiftLeft_eq, Nat.one_mul, Nat.testBit_two_pow]
      rw [e]
      by_cases c : i = a
      · subst c; simp [GG, hi]
      · have c' : ¬ a = i := fun z => c z.symm
        simp [GG, c, c']
    · rw [if_neg hk]
      by_cases h64 : k < 64
      · rw [if_pos h64, cE_at h64]
        have : bset (GG M a 0 k) 6 = 0 := eq64 (bset_lt _ 6 (by decide)) (by decide) (fun i hi => by
          rw [bset_tb]
          have e2 : (k == 1 <<< a) = false := by simpa using hk
          simp [GG, e2])
        rw [this]
        rfl
      · rw [if_neg h64]
        simp [cE, h64]
  · rw [up2_out h, fillS_out h, cE_out h]
theorem follow5 {σ : St} {M : Nat → Nat} {a : Nat} (hN : NX σ M) (ha : a < 6) : f_X2_followFrom (nI a) σ = some (cE σ (GG M a 64)) := by
  obtain ⟨o1, o2⟩ := one_tab a ha
  unfold f_X2_followFrom
  rw [nm_eq, o1, gi_in o2 (by decide), nm_eq, nI_clamp (by omega), cE_0 (M := M) ha]
  have h := loop_to (body := fun s : Int32 × St => l_X2_followFrom_21 s.1 s.2) (fun i => (nI i, cE σ (GG M a i))) 64 (cE σ (GG M a 64)) (fun i hi => ?_) ?_ 400 (by decide)
  · have h : loop (fun s : Int32 × St => l_X2_followFrom_21 s.1 s.2) 400 (0, cE σ (GG M a 0)) = _ := h
    rw [h]
    rfl
  · show l_X2_followFrom_21 (nI i) (cE σ (GG M a i)) = _
    unfold l_X2_followFrom_21
    rw [if_neg (show ¬ (64 : Int32) ≤ nI i from nI_ge (b := 64) hi (by decide)), inner5 hN hi, bnd_some, nI_1]
    rfl
  · show l_X2_followFrom_21 (nI 64) _ = _
    unfold l_X2_followFrom_21
    rw [if_pos (by decide)]
def foldM (P : Nat → Bool) : Nat → Int32 → Int32
  | 0, y => y
  | n + 1, y => if P n = true then jmax (foldM P n y) (nI (pop n)) else foldM P n y
theorem longest5 {σ : St} {G : GT} {e : Nat} (he : e < 64) : f_X2_longestEnding (nI e) (cE σ G) = some (foldM (fun s => anyU (fun k => G s k && e.testBit k) 6) 64 (-6)) := by
  have h := loop_to (body := fun s : Int32 × Int32 => l_X2_longestEnding_5 (nI e) (cE σ G) s.1 s.2) (fun i => (foldM (fun s => anyU (fun k => G s k && e.testBit k) 6) i (-6), nI i)) 64 (foldM (fun s => anyU (fun k => G s k && e.testBit k) 6) 64 (-6)) (fun i hi => ?_) ?_ 400 (by decide)
  · unfold f_X2_longestEnding
    have h : loop (fun s : Int32 × Int32 => l_X2_longestEnding_5 (nI e) (cE σ G) s.1 s.2) 400 (-6, 0) = _ := h
    rw [h]
    rfl
  · show l_X2_longestEnding_5 (nI e) (cE σ G) _ (nI i) = _
    unfold l_X2_longestEnding_5
    have hbl := bset_lt (G i) 6 (by decide)
    have hz : (bset (G i) 6 &&& e = 0) ↔ ¬ anyU (fun k => G i k && e.testBit k) 6 = true := by
      rw [anyU_iff]
      constructor
      · rintro h0 ⟨k, hk, hp⟩
        have := congrArg (fun w : Nat => w.testBit k) h0
        simp only [Nat.testBit_and, bset_tb, Nat.zero_testBit, hk, decide_true, Bool.true_and] at this
        rw [this] at hp
        cases hp
      · intro h0
        refine eq64 (and64 _ hbl e he).2 (by decide) (fun k hk => ?_)
        rw [Nat.testBit_and, bset_tb, Nat.zero_testBit]
        by_cases c : (G i k && e.testBit k) = true
        · exact absurd ⟨k, hk, c⟩ h0
        · simp only [hk, decide_true, Bool.true_and]
          simpa using c
    rw [if_neg (show ¬ (64 : Int32) ≤ nI i from nI_ge (b := 64) hi (by decide)), gi_in hi (by decide), nI_clamp (by omega), cE_at hi, (and64 _ hbl e he).1, (pop_tab i hi).1, bnd_some, nI_1]
    have hlt := (and64 _ hbl e he).2
    show _ = some (Sum.inl ((if anyU (fun k => G i k && e.testBit k) 6 = true then jmax (foldM (fun s => anyU (fun k => G s k && e.testBit k) 6) i (-6)) (nI (pop i)) else foldM (fun s => anyU (fun k => G s k && e.testBit k) 6) i (-6)), nI (i + 1)))
    by_cases c : anyU (fun k => G i k && e.testBit k) 6 = true
    · rw [if_pos c, if_neg (nI_ne0 (Nat.pos_of_ne_zero (fun q => hz.mp q c)) (by omega))]
      rfl
    · rw [if_neg c, hz.mpr c, if_pos nI_0]
      rfl
  · show l_X2_longestEnding_5 (nI e) (cE σ G) _ (nI 64) = _
    unfold l_X2_longestEnding_5
    rw [if_pos (by decide)]
def mS (h d l : Nat) (ap rb : Nat → Nat) (k : Nat) : Nat := bset (MRb h d l ap rb k) 6
def rnS (σ : St) (M : Nat → Nat) (i : Nat) : St := fun c k => if c = 21 ∧ k < i then nI (M k) else σ c k
theorem rnS_out {σ : St} {M : Nat → Nat} {i c : Nat} (h : c ≠ 21) : rnS σ M i c = σ c := by
  funext k
  simp [rnS, h]
theorem rnS_s {σ : St} {M : Nat → Nat} {i : Nat} : up2 (rnS σ M i) 21 i (nI (M i)) = rnS σ M (i + 1) := by
  funext c k
  by_cases h : c = 21
  · subst h
    rw [up2_at]
    by_cases hk : k = i
    · rw [if_pos hk, hk]; simp [rnS]
    · rw [if_neg hk]
      have : (k < i + 1) = (k < i) := by apply propext; omega
      simp [rnS, this]
  · rw [up2_out h, rnS_out h, rnS_out h]
theorem Agr_rnS {σ : St} {M : Nat → Nat} {i : Nat} : Agr σ (rnS σ M i) := fun c k hr => by
  rw [rnS_out (by unfold rel at hr; omega)]
theorem Agr_cE {σ : St} {G : GT} : Agr σ (cE σ G) := fun c k hr => by
  rw [cE_out (by unfold rel at hr; omega)]
theorem readNext_eq {B h o d l f s : Nat} {ap bg hp rb : Nat → Nat} {W : VW} {σ : St} (H : LM B h o d l f s ap bg hp rb (cv σ 1) W) : f_X2_readNext σ = some (rnS σ (mS h d l ap rb) 6) := by
  have hL := loop_to (body := fun s : Int32 × St => l_X2_readNext_2 s.1 s.2) (fun i => (nI i, rnS σ (mS h d l ap rb) i)) 6 (rnS σ (mS h d l ap rb) 6) (fun i hi => ?_) ?_ 400 (by decide)
  · have e : rnS σ (mS h d l ap rb) 0 = σ := by funext c k; simp [rnS]
    rw [e] at hL
    unfold f_X2_readNext
    have hL : loop (fun s : Int32 × St => l_X2_readNext_2 s.1 s.2) 400 (0, σ) = _ := hL
    rw [hL]
    rfl
  · show l_X2_readNext_2 (nI i) (rnS σ (mS h d l ap rb) i) = _
    unfold l_X2_readNext_2
    rw [if_neg (six_le hi), mayRobOf_eq (LM_agrC H Agr_rnS) hi, bnd_some, gi_in hi (by decide), nm_eq, nI_clamp (by omega), nI_1]
    show some (Sum.inl (nI (i + 1), up2 (rnS σ (mS h d l ap rb) i) 21 i (nI (mS h d l ap rb i)))) = _
    rw [rnS_s]
  · show l_X2_readNext_2 (nI 6) _ = _
    unfold l_X2_readNext_2
    rw [if_pos (by decide)]
theorem mS_lt {h d l k : Nat} {ap rb : Nat → Nat} : mS h d l ap rb k < 64 := bset_lt _ 6 (by decide)
theorem NX_rn {σ : St} {h d l : Nat} {ap rb : Nat → Nat} : NX (rnS σ (mS h d l ap rb) 6) (mS h d l ap rb) := ⟨fun _ => mS_lt, fun k hk => by simp [rnS, hk]⟩
