/-! ===== the reference's table; chain, round ===== -/
def mE (σ : St) (G : GT) : St := fun c k => if c = 41 ∧ k < 384 then b2 (G (k / 6) (k % 6)) else σ c k
theorem mE_out {σ : St} {G : GT} {c : Nat} (h : c ≠ 41) : mE σ G c = σ c := by
  funext k
  simp [mE, h]
theorem ix6 {s k : Nat} (hk : k < 6) : (6 * s + k) / 6 = s ∧ (6 * s + k) % 6 = k := by omega
theorem mE_at {σ : St} {G : GT} {s k : Nat} (hs : s < 64) (hk : k < 6) : mE σ G 41 (6 * s + k) = b2 (G s k) := by
  have h : 6 * s + k < 384 := by omega
  simp [mE, h, ix6 hk]
theorem mE_up {σ : St} {G : GT} {s q : Nat} (hs : s < 64) (hq : q < 6) : up2 (mE σ G) 41 (6 * s + q) 1 = mE σ (addG G s q true) := by
  funext c k
  by_cases h : c = 41
  · subst h
    rw [up2_at]
    by_cases hk : k = 6 * s + q
    · rw [if_pos hk, hk, mE_at hs hq]
      simp [addG, b2]
    · rw [if_neg hk]
      unfold mE
      by_cases h3 : k < 384
      · rw [if_pos ⟨rfl, h3⟩, if_pos ⟨rfl, h3⟩]
        congr 1
        unfold addG
        have : ¬ (k / 6 = s ∧ k % 6 = q) := by omega
        by_cases c1 : k / 6 = s
        · have c2 : ¬ k % 6 = q := fun z => this ⟨c1, z⟩
          simp [c2]
        · simp [c1]
      · rw [if_neg (fun z => h3 z.2), if_neg (fun z => h3 z.2)]
  · rw [up2_out h, mE_out h, mE_out h]
theorem i6 (s k : Nat) : (6 : Int32) * nI s + nI k = nI (6 * s + k) := by
  rw [show (6 : Int32) * nI s = nI (6 * s) from pk_mul 6 s, nI_add]
theorem nv_congr {τ τ' : St} (h : ∀ c k, 29 ≤ c → c ≤ 40 → τ' c k = τ c k) : nv τ' = nv τ := by
  funext i k
  match i with
  | 0 =>
    match k with
    | 7 => exact h _ _ (by decide) (by decide)
    | 8 => exact h _ _ (by decide) (by decide)
    | 9 => exact h _ _ (by decide) (by decide)
    | 10 => exact h _ _ (by decide) (by decide)
    | 11 => exact h _ _ (by decide) (by decide)
    | 0 | 1 | 2 | 3 | 4 | 5 | 6 => exact h _ _ (by decide) (by decide)
    | k + 12 => exact h _ _ (by decide) (by decide)
  | 1 => exact h _ _ (by decide) (by decide)
  | 2 => exact h _ _ (by decide) (by decide)
  | 3 => exact h _ _ (by decide) (by decide)
  | 4 => exact h _ _ (by decide) (by decide)
  | 5 => exact h _ _ (by decide) (by decide)
  | 6 => exact h _ _ (by decide) (by decide)
  | i + 7 => exact h _ _ (by decide) (by decide)
theorem nv_mE {σ : St} {G : GT} : nv (mE σ G) = nv σ := nv_congr (fun c k h1 h2 => by rw [mE_out (by omega)])
/-- one who leads on: his targets below j -/
def ny (m : Nat) (G : GT) (set j : Nat) : GT := fun s q => G s q || (decide (q < j) && (s == (set ||| 1 <<< q)) && !set.testBit q && m.testBit q)
theorem ny_s (m : Nat) (G : GT) (set j : Nat) : addG (ny m G set j) (set ||| 1 <<< j) j (!set.testBit j && m.testBit j) = ny m G set (j + 1) := by
  funext s q
  unfold addG ny
  by_cases c : q = j
  · subst c
    have e1 : decide (q < q) = false := by simp
    have e2 : decide (q < q + 1) = true := by simp
    rw [e1, e2]
    cases G s q <;> cases (s == (set ||| 1 <<< q)) <;> cases set.testBit q <;> cases m.testBit q <;> simp
  · have e1 : decide (q < j + 1) = decide (q < j) := by
      apply decide_eq_decide.mpr
      omega
    have e2 : (q == j) = false := by simpa using c
    rw [e1, e2]
    simp
theorem ny_0 (m : Nat) (G : GT) (set : Nat) : ny m G set 0 = G := by
  funext s q
  simp [ny]
/-- the table with set's row led on, by those below n -/
def nz (M : Nat → Nat) (G : GT) (set n : Nat) : GT := fun s q => G s q || (decide (q < 6) && (s == (set ||| 1 <<< q)) && !set.testBit q && Lq M (G set) n q)
theorem nz_0 (M : Nat → Nat) (G : GT) (set : Nat) : nz M G set 0 = G := by
  funext s q
  simp [nz, Lq, anyU]
theorem nz_row (M : Nat → Nat) (G : GT) (set j : Nat) : ∀ k, nz M G set j set k = G set k := by
  intro k
  unfold nz
  by_cases hb : set.testBit k = true
  · simp [hb]
  · have hb : set.testBit k = false := by simpa using hb
    have := or_ne hb
    have e : (set == (set ||| 1 <<< k)) = false := by simpa using this
    simp [e]
theorem nz_s (M : Nat → Nat) (G : GT) (set n : Nat) : (if G set n = true then ny (M n) (nz M G set n) set 6 else nz M G set n) = nz M G set (n + 1) := by
  have hL : ∀ q, Lq M (G set) (n + 1) q = (Lq M (G set) n q || (G set n && (M n).testBit q)) := fun q => rfl
  funext s q
  by_cases c : G set n = true
  · rw [if_pos c]
    unfold ny nz
    rw [hL, c]
    cases G s q <;> cases decide (q < 6) <;> cases (s == (set ||| 1 <<< q)) <;> cases set.testBit q <;> cases Lq M (G set) n q <;> cases (M n).testBit q <;> rfl
  · rw [if_neg c]
    have c : G set n = false := by simpa using c
    unfold nz
    rw [hL, c]
    simp
theorem jz1 : jz 1 = 1 := by decide
theorem jz0 : jz 0 = 0 := by decide
theorem q_loop {σ : St} {m set : Nat} {G : GT} (hm : m < 64) (hs : set < 64) : loop (fun s : Int32 × St => l_X6_layChains_86 (nI set) (nI (m &&& (63 ^^^ set))) s.1 s.2) 400 (0, mE σ G) = some (mE σ (ny m G set 6)) := by
  have h := loop_to (body := fun s : Int32 × St => l_X6_layChains_86 (nI set) (nI (m &&& (63 ^^^ set))) s.1 s.2) (fun i => (nI i, mE σ (ny m G set i))) 6 (mE σ (ny m G set 6)) (fun i hi => ?_) ?_ 400 (by decide)
  · rw [ny_0] at h
    exact h
  · show l_X6_layChains_86 (nI set) (nI (m &&& (63 ^^^ set))) (nI i) (mE σ (ny m G set i)) = some (.inl (nI (i + 1), mE σ (ny m G set (i + 1))))
    obtain ⟨o1, o2⟩ := or_tab set hs i hi
    unfold l_X6_layChains_86
    rw [if_neg (six_le hi), mhas_in (andn_lt hm) hi, bnd_some, o1, i6, gi_in (by omega) (by decide), nI_clamp (by omega), nm_eq, jz1, mE_up o2 hi, ← ny_s, andn_tb hi, nI_1]
    by_cases c1 : set.testBit i = true
    · rw [c1]
      simp [addG_f]
    · have c1 : set.testBit i = false := by simpa using c1
      by_cases c2 : m.testBit i = true
      · rw [c1, c2]
        simp
      · have c2 : m.testBit i = false := by simpa using c2
        rw [c2]
        simp [addG_f]
  · show l_X6_layChains_86 (nI set) (nI (m &&& (63 ^^^ set))) (nI 6) _ = _
    unfold l_X6_layChains_86
    rw [if_pos (by decide)]
theorem k_loop {B h o d l f s set : Nat} {ap bg hp rb : Nat → Nat} {V : VW} {σ : St} {G : GT} (H : LM B h o d l f s ap bg hp rb V (nv σ)) (hs : set < 64) : loop (fun s : Int32 × St => l_X6_layChains_52 (nI set) s.1 s.2) 400 (0, mE σ G) = some (mE σ (nz (mS h d l ap rb) G set 6)) := by
  have hl := loop_to (body := fun s : Int32 × St => l_X6_layChains_52 (nI set) s.1 s.2) (fun i => (nI i, mE σ (nz (mS h d l ap rb) G set i))) 6 (mE σ (nz (mS h d l ap rb) G set 6)) (fun i hi => ?_) ?_ 400 (by decide)
  · rw [nz_0] at hl
    exact hl
  · show l_X6_layChains_52 (nI set) (nI i) (mE σ (nz (mS h d l ap rb) G set i)) = some (.inl (nI (i + 1), mE σ (nz (mS h d l ap rb) G set (i + 1))))
    have H' : LM B h o d l f s ap bg hp rb V (nv (mE σ (nz (mS h d l ap rb) G set i))) := by rw [nv_mE]; exact H
    unfold l_X6_layChains_52
    rw [if_neg (six_le hi), i6, gi_in (by omega) (by decide), nI_clamp (by omega), mE_at hs hi, nz_row, mayRob6_eq H' hi, bnd_some, nm_eq]
    show Option.bind (if b2 (G set i) = 0 then some (mE σ (nz (mS h d l ap rb) G set i)) else Option.bind (loop (fun s : Int32 × St => l_X6_layChains_86 (nI set) (nI (mS h d l ap rb i) &&& (nI set ^^^ (-1 : Int32))) s.1 s.2) 400 (0, mE σ (nz (mS h d l ap rb) G set i))) (fun (z18 : St) => some z18)) _ = _
    rw [andn_tab _ mS_lt set hs, q_loop mS_lt hs, bnd_some, nI_1, ← nz_s]
    by_cases c : G set i = true
    · rw [if_pos c, c, if_neg (by decide), bnd_some]
    · rw [if_neg c]
      have c : G set i = false := by simpa using c
      rw [c, if_pos (show b2 false = 0 from rfl), bnd_some]
  · show l_X6_layChains_52 (nI set) (nI 6) _ = _
    unfold l_X6_layChains_52
    rw [if_pos (by decide)]
theorem nz_nx (M : Nat → Nat) (G : GT) (set : Nat) : nz M G set 6 = nx M G set 6 := rfl
def mI (σ : St) (a i : Nat) : St := fun c k => if c = 41 ∧ k < i then b2 (decide (k = 6 * 1 <<< a + a)) else σ c k
theorem mI_s {σ : St} {a i : Nat} : up2 (mI σ a i) 41 i (b2 (decide (i = 6 * 1 <<< a + a))) = mI σ a (i + 1) := by
  funext c k
  by_cases h : c = 41
  · subst h
    rw [up2_at]
    by_cases hk : k = i
    · rw [if_pos hk, hk]; simp [mI]
    · rw [if_neg hk]
      have : (k < i + 1) = (k < i) := by apply propext; omega
      simp [mI, this]
  · rw [up2_out h]
    simp [mI, h]
theorem lay_eq {B h o d l f s a : Nat} {ap bg hp rb : Nat → Nat} {V : VW} {σ : St} (H : LM B h o d l f s ap bg hp rb V (mv σ)) (ha : a < 6) : f_X6_layChains (nI a) σ = some (mE (anS σ) (GG (mS h d l ap rb) a 64)) := by
  obtain ⟨o1, o2⟩ := one_tab a ha
  have h1 := loop_to (body := fun s : Int32 × St => l_X6_layChains_6 (nI a) s.1 s.2) (fun i => (nI i, mI (anS σ) a i)) 384 (mI (anS σ) a 384) (fun i hi => ?_) ?_ 400 (by decide)
  rotate_left
  · show l_X6_layChains_6 (nI a) (nI i) (mI (anS σ) a i) = some (.inl (nI (i + 1), mI (anS σ) a (i + 1)))
    unfold l_X6_layChains_6
    rw [if_neg (show ¬ (384 : Int32) ≤ nI i from nI_ge (b := 384) hi (by decide)), o1, i6, nI_clamp (by omega), nI_1, ← mI_s]
    by_cases c : i = 6 * 1 <<< a + a
    · rw [if_neg (fun w => w (by rw [c])), bnd_some, gi_in hi (by decide), nm_eq, jz1]
      simp [c, b2]
    · rw [if_pos (fun w => c ((nI_eq (by omega) (by omega)).mp w)), bnd_some, gi_in hi (by decide), nm_eq, jz0]
      simp [c, b2]
  · show l_X6_layChains_6 (nI a) (nI 384) _ = _
    unfold l_X6_layChains_6
    rw [if_pos (by decide)]
  have e0 : mI (anS σ) a 0 = anS σ := by
    funext c k
    simp [mI]
  have e1 : mI (anS σ) a 384 = mE (anS σ) (GG (mS h d l ap rb) a 0) := by
    funext c k
    unfold mI mE
    by_cases hc : c = 41 ∧ k < 384
    · rw [if_pos hc, if_pos hc]
      congr 1
      show _ = ((k / 6 == 1 <<< a) && (k % 6 == a))
      by_cases ck : k = 6 * 1 <<< a + a
      · rw [ck, (ix6 ha).1, (ix6 ha).2]; simp
      · have : ¬ (k / 6 = 1 <<< a ∧ k % 6 = a) := by omega
        by_cases c1 : k / 6 = 1 <<< a
        · have c2 : ¬ k % 6 = a := fun z => this ⟨c1, z⟩
          simp [ck, c2]
        · simp [ck, c1]
    · rw [if_neg hc, if_neg hc]
  have h2 := loop_to (body := fun s : Int32 × St => l_X6_layChains_44 s.1 s.2) (fun i => (nI i, mE (anS σ) (GG (mS h d l ap rb) a i))) 64 (mE (anS σ) (GG (mS h d l ap rb) a 64)) (fun i hi => ?_) ?_ 400 (by decide)
  rotate_left
  · show l_X6_layChains_44 (nI i) (mE (anS σ) (GG (mS h d l ap rb) a i)) = _
    unfold l_X6_layChains_44
    rw [if_neg (show ¬ (64 : Int32) ≤ nI i from nI_ge (b := 64) hi (by decide)), k_loop (LM_now H) hi, bnd_some, nI_1]
    rfl
  · show l_X6_layChains_44 (nI 64) _ = _
    unfold l_X6_layChains_44
    rw [if_pos (by decide)]
  rw [e0, e1] at h1
  have h1 : loop (fun s : Int32 × St => l_X6_layChains_6 (nI a) s.1 s.2) 400 (0, anS σ) = some (mE (anS σ) (GG (mS h d l ap rb) a 0)) := h1
  have h2 : loop (fun s : Int32 × St => l_X6_layChains_44 s.1 s.2) 400 (0, mE (anS σ) (GG (mS h d l ap rb) a 0)) = _ := h2
  unfold f_X6_layChains
  rw [asNow_eq, bnd_some, h1, bnd_some, h2, bnd_some]
theorem Agr_mE {σ : St} {G : GT} : Agr σ (mE (anS σ) G) := fun c k hr => by
  rw [mE_out (by unfold rel at hr; omega)]
  exact Agr_anS σ c k hr
theorem le_jmax {x y : Int32} : (if y ≤ x then some x else some y) = some (jmax x y) := by
  unfold jmax
  by_cases c : y ≤ x
  · rw [if_pos c, if_neg (fun z => by
      rw [Int32.lt_iff_toInt_lt] at z
      rw [Int32.le_iff_toInt_le] at c
      omega)]
  · rw [if_neg c, if_pos (by
      rw [Int32.lt_iff_toInt_lt]
      rw [Int32.le_iff_toInt_le] at c
      omega)]
theorem chain6 {σ : St} {G : GT} {t : Nat} (ht : t < 6) : loop (fun s : Int32 × Int32 => l_X6_chain_34 (nI t) (mE σ G) s.1 s.2) 400 (-6, 0) = some (foldM (fun s => G s t) 64 (-6)) := by
  refine loop_to (body := fun s : Int32 × Int32 => l_X6_chain_34 (nI t) (mE σ G) s.1 s.2) (fun i => (foldM (fun s => G s t) i (-6), nI i)) 64 _ (fun i hi => ?_) ?_ 400 (by decide)
  · show l_X6_chain_34 (nI t) (mE σ G) _ (nI i) = some (Sum.inl ((if G i t = true then jmax (foldM (fun s => G s t) i (-6)) (nI (pop i)) else foldM (fun s => G s t) i (-6)), nI (i + 1)))
    unfold l_X6_chain_34
    rw [if_neg (show ¬ (64 : Int32) ≤ nI i from nI_ge (b := 64) hi (by decide)), i6, gi_in (by omega) (by decide), nI_clamp (by omega), mE_at hi ht, (pop_tab i hi).2.1, bnd_some, bnd_some, le_jmax, nI_1]
    by_cases c : G i t = true
    · rw [c, if_neg (by decide), if_pos rfl, bnd_some]
    · have c : G i t = false := by simpa using c
      rw [c, if_pos (show b2 false = 0 from rfl), if_neg (by decide), bnd_some]
  · show l_X6_chain_34 (nI t) (mE σ G) _ (nI 64) = _
    unfold l_X6_chain_34
    rw [if_pos (by decide)]
theorem foldM_c {P Q : Nat → Bool} {y : Int32} : ∀ n, (∀ i, i < n → P i = Q i) → foldM P n y = foldM Q n y := by
  intro n
  induction n with
  | zero => intro _; rfl
  | succ n ih =>
    intro h
    show (if P n = true then jmax (foldM P n y) (nI (pop n)) else foldM P n y) = (if Q n = true then jmax (foldM Q n y) (nI (pop n)) else foldM Q n y)
    rw [ih (fun i hi => h i (by omega)), h n (by omega)]
theorem pc_chain : PC_chain := by
  intro N g σ a1 a2 hN hI
  obtain ⟨h, o, d, l, f, s, ap, bg, hp, rb, H⟩ := LR_LM hI.1
  obtain ⟨⟨h1, -⟩, ⟨e1, e2, -⟩, -⟩ := id H
  have e1 : σ 1 8 = nI h := e1
  have e2 : σ 29 0 = nI h := e2
  rcases two (σ := σ) (σ' := σ) h1 e1 e2 a1 a2 with ⟨z5, z6⟩ | ⟨k, q, hk, hq, rfl, rfl, hkq, hne, hbk, hbq, z5, z6, z7⟩
  · refine ⟨-1, σ, σ, ?_, ?_, Inv_mono hI⟩
    · unfold f_X5_chain; rw [z5]; rfl
    · unfold f_X6_chain
      rcases z6 with z6 | ⟨z6, z7 | ⟨z7, z8⟩⟩
      · rw [z6]; rfl
      · rw [z6, bnd_some, if_neg (by decide), z7]; rfl
      · rw [z6, bnd_some, if_neg (by decide), z7, bnd_some, if_neg (by decide), if_neg (fun w => w z8)]
  have hA : Agr σ (cE (rnS σ (mS h d l ap rb) 6) (GG (mS h d l ap rb) k 64)) := Agr_trans Agr_rnS Agr_cE
  have H2 := LM_agr H hA
  obtain ⟨o1, o2⟩ := one_tab q hq
  have e2' : cE (rnS σ (mS h d l ap rb) 6) (GG (mS h d l ap rb) k 64) 29 0 = nI h := by
    rw [hA 29 0 (by simp [rel])]; exact e2
  refine ⟨foldM (fun s => GG (mS h d l ap rb) k 64 s q) 64 (-6), cE (rnS σ (mS h d l ap rb) 6) (GG (mS h d l ap rb) k 64), mE (anS (cE (rnS σ (mS h d l ap rb) 6) (GG (mS h d l ap rb) k 64))) (GG (mS h d l ap rb) k 64), ?_, ?_, Inv_next hI (Agr_trans hA Agr_mE)⟩
  · unfold f_X5_chain f_X2_longestChain
    rw [z5, bnd_some, if_pos (by decide), readNext_eq H, bnd_some, follow5 NX_rn hk, bnd_some, o1, longest5 o2, bnd_some, bnd_some]
    have ef : foldM (fun s => anyU (fun j => GG (mS h d l ap rb) k 64 s j && (1 <<< q : Nat).testBit j) 6) 64 (-6) = foldM (fun s => GG (mS h d l ap rb) k 64 s q) 64 (-6) := by
      refine foldM_c 64 (fun i hi => ?_)
      have e : ∀ j, (1 <<< q : Nat).testBit j = decide (q = j) := fun j => by
        rw [Nat.shiftLeft_eq, Nat.one_mul, Nat.testBit_two_pow]
      simp only [e]
      rw [Bool.eq_iff_iff, anyU_iff]
      constructor
      · rintro ⟨j, hj, hp⟩
        rw [Bool.and_eq_true] at hp
        have := of_decide_eq_true hp.2
        rw [this]; exact hp.1
      · intro hp
        exact ⟨q, hq, by rw [hp]; simp⟩
    rw [ef]
  · unfold f_X6_chain
    have t1 := isT_in (σ := cE (rnS σ (mS h d l ap rb) 6) (GG (mS h d l ap rb) k 64)) h1 hk e2'
    have t2 := isT_in (σ := cE (rnS σ (mS h d l ap rb) 6) (GG (mS h d l ap rb) k 64)) h1 hq e2'
    rw [if_pos hbk] at t1
    rw [if_pos hbq] at t2
    rw [t1, bnd_some, if_neg (by decide), t2, bnd_some, if_neg (by decide), if_pos hne, lay_eq H2 hk, bnd_some, chain6 hq]
    rfl
