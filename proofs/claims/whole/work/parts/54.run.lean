/-! ===== the run of the nights on the pad ===== -/
theorem loop_in {S X : Type} {body : S → Option (S ⊕ X)} {s s' : S} {f : Nat} (h : body s = some (.inl s')) : loop body (f + 1) s = loop body f s' := by
  rw [loop, h]
  rfl
theorem loop_ex {S X : Type} {body : S → Option (S ⊕ X)} {s : S} {x : X} {f : Nat} (h : body s = some (.inr x)) : loop body (f + 1) s = some x := by
  rw [loop, h]
  rfl
def NF5 (σ σ' : St) : Prop := ∀ c k, ¬ (9 ≤ c ∧ c ≤ 16) → ¬ (c = 18 ∧ (k = 2 ∨ k = 3)) → σ' c k = σ c k
def NF6 (τ τ' : St) : Prop := ∀ c k, ¬ (c = 29 ∧ 18 ≤ k ∧ k ≤ 23) → ¬ (37 ≤ c ∧ c ≤ 40) → τ' c k = τ c k
theorem NF5_tr {a b c : St} (h1 : NF5 a b) (h2 : NF5 b c) : NF5 a c := fun x k q1 q2 => (h2 x k q1 q2).trans (h1 x k q1 q2)
theorem NF6_tr {a b c : St} (h1 : NF6 a b) (h2 : NF6 b c) : NF6 a c := fun x k q1 q2 => (h2 x k q1 q2).trans (h1 x k q1 q2)
theorem CF_NF {σ σ' : St} (h : CF σ σ') : NF5 σ σ' := fun c k h1 _ => h c k h1
theorem MF_NF {τ τ' : St} (h : MF τ τ') : NF6 τ τ' := fun c k h1 h2 => h c k (fun q => h1 ⟨q.1, q.2.1, by omega⟩) h2
def T5 (σ : St) (p : Nat) (c : Nat → Nat) : Prop := σ 18 1 = nI p ∧ ∀ k, k < p → σ 19 k = nI (c k)
def T6 (τ : St) (p : Nat) (c : Nat → Nat) : Prop := τ 29 12 = nI p ∧ ∀ k, k < p → τ 36 k = nI (c k)
theorem T5_nf {σ σ' : St} {p : Nat} {c : Nat → Nat} (h : T5 σ p c) (hn : NF5 σ σ') : T5 σ' p c :=
  ⟨(hn 18 1 (by decide) (by decide)).trans h.1, fun k hk => (hn 19 k (by omega) (by omega)).trans (h.2 k hk)⟩
theorem T6_nf {τ τ' : St} {p : Nat} {c : Nat → Nat} (h : T6 τ p c) (hn : NF6 τ τ') : T6 τ' p c :=
  ⟨(hn 29 12 (by decide) (by decide)).trans h.1, fun k hk => (hn 36 k (by omega) (by omega)).trans (h.2 k hk)⟩
theorem nv_up {B : Nat} {V : VW} {τ : St} {j : Nat} {v : Int32} (hj : j = 22 ∨ j = 23) (h : LR B V (nv τ)) : LR B V (nv (up2 τ 29 j v)) := by
  refine LR_congr h (fun _ _ _ _ => rfl) (fun i k h0 hi => ?_)
  have e : ∀ k', k' < 22 → up2 τ 29 j v 29 k' = τ 29 k' := fun k' hk => up2_k _ _ _ _ _ (by omega)
  match i, hi with
  | 0, _ =>
    obtain ⟨q1, q2⟩ := h0 rfl
    rcases (show k = 7 ∨ k = 8 ∨ k = 9 ∨ k = 10 ∨ k = 11 ∨ k = 12 by omega) with rfl | rfl | rfl | rfl | rfl | rfl
    · exact e 5 (by decide)
    · exact e 0 (by decide)
    · exact e 18 (by decide)
    · exact e 19 (by decide)
    · exact e 20 (by decide)
    · exact e 21 (by decide)
  | 1, _ | 2, _ | 3, _ | 4, _ | 5, _ | 6, _ | 7, _ => rfl
theorem cv9_up {B : Nat} {W : VW} {σ : St} {k : Nat} {v : Int32} (h : LR B (cv σ 9) W) : LR B (cv (up2 σ 18 k v) 9) W :=
  LR_congr h (fun i j _ hi => cv_up (by omega) i j hi) (fun _ _ _ _ => rfl)
def Fin5 (y : Int32) (A : Option (Int32 × St)) : Option ((Int32 × Int32 × St) ⊕ ((St) ⊕ (Int32 × St))) := Option.bind A (fun r9 => nm (up2 r9.2 18 3 r9.1) (fun σ10 => if (σ10 18 3) = 0 then (nm (up2 σ10 18 2 ((σ10 18 2) + 1)) (fun σ11 => some (.inl ((-6 : Int32), y + 1, σ11)))) else (some (.inr (.inr ((0, σ10)))))))
def Fin6 (J : Option (Int32 × St)) : Option ((Int32 × St) ⊕ ((St) ⊕ (Int32 × St))) := Option.bind J (fun (j6 : Int32 × St) => if (j6.2 29 22) ≤ 0 then (nm (up2 j6.2 29 23 ((j6.2 29 23) + 1)) (fun σ7 => some (.inl (j6.1, σ7)))) else (some (.inr (.inr ((j6.2 29 23, j6.2))))))
theorem sub65 {c : Nat} (h : ltr c = true) : nI c - 65 = nI (c - 65) ∧ c - 65 < 6 := by
  unfold ltr at h
  simp at h
  exact ⟨pk_sub (b := 65) h.1, by omega⟩
theorem ne6 {k : Nat} (h : k < 2 ^ 31) : ¬ nI k = -6 := fun z => by
  have := congrArg (fun w : Int32 => decide (w < 0)) z
  simp only [decide_eq_decide] at this
  exact lt_neg h (this.mpr (by decide))
theorem b5a {σ : St} {p i : Nat} {c : Nat → Nat} (hp : p ≤ 60) (hc : ∀ k, k < p → 33 ≤ c k ∧ c k ≤ 126) (hT : T5 σ p c) (hi : i < p) (hl : ltr (c i) = false) : l_X1_runOn_15 (-6) (nI i) σ = Fin5 (nI i) (f_X0_tryAct 9 (nI (c i)) (-6) (nI (c i) - 65) σ) := by
  have := hc i hi
  have ht := (lt_tab (c i) (by omega)).1
  rw [hl] at ht
  unfold l_X1_runOn_15 Fin5
  rw [hT.1, if_neg (nI_ge hi (by omega)), gi_in (by omega) (by decide), nI_clamp (by omega), hT.2 i hi, if_neg (fun w => w rfl), ht, bnd_some, if_pos (show b2 false = 0 from rfl), bnd_some, if_pos (show b2 false = 0 from rfl), bnd_some]
theorem b5b {σ : St} {p i : Nat} {c : Nat → Nat} (hp : p ≤ 60) (hc : ∀ k, k < p → 33 ≤ c k ∧ c k ≤ 126) (hT : T5 σ p c) (hi : i < p) (hl : ltr (c i) = true) : l_X1_runOn_15 (-6) (nI i) σ = some (.inl (nI (c i - 65), nI (i + 1), σ)) := by
  have := hc i hi
  have ht := (lt_tab (c i) (by omega)).1
  rw [hl] at ht
  unfold l_X1_runOn_15
  rw [hT.1, if_neg (nI_ge hi (by omega)), gi_in (by omega) (by decide), nI_clamp (by omega), hT.2 i hi, if_neg (fun w => w rfl), ht, bnd_some, if_neg (show ¬ b2 true = 0 by decide), nm_eq, (sub65 hl).1, nI_1]
theorem b5c {σ : St} {p i k : Nat} {c : Nat → Nat} (hp : p ≤ 60) (hc : ∀ k, k < p → 33 ≤ c k ∧ c k ≤ 126) (hT : T5 σ p c) (hi : i < p) (hk : k < 6) : l_X1_runOn_15 (nI k) (nI i) σ = Fin5 (nI i) (f_X0_tryAct 9 (if ltr (c i) = true then 0 else nI (c i)) (nI k) (nI (c i) - 65) σ) := by
  have := hc i hi
  have ht := (lt_tab (c i) (by omega)).1
  unfold l_X1_runOn_15 Fin5
  rw [hT.1, if_neg (nI_ge hi (by omega)), gi_in (by omega) (by decide), nI_clamp (by omega), hT.2 i hi, if_pos (ne6 (by omega)), ht, bnd_some]
  by_cases hl : ltr (c i) = true
  · rw [hl, if_neg (show ¬ b2 true = 0 by decide), if_pos rfl, bnd_some]
  · have hl : ltr (c i) = false := by simpa using hl
    rw [hl, if_pos (show b2 false = 0 from rfl), if_neg (by decide), bnd_some]
/-- one act of the text: both sides -/
def StepR (B i' : Nat) (σ τ : St) (A : Option (Int32 × St)) (R : Option ((Int32 × St) ⊕ ((St) ⊕ (Int32 × St)))) : Prop := ∃ (w : Nat) (σ' τ1 : St), w < 9 ∧ A = some (nI w, σ') ∧ R = Fin6 (some (nI i', τ1)) ∧ τ1 29 22 = nI w ∧ τ1 29 23 = τ 29 23 ∧ NF6 τ τ1 ∧ LR B (cv σ' 9) (nv τ1) ∧ CF σ σ'
theorem NF_22 {τ : St} {j : Nat} {v : Int32} (hj : j = 22 ∨ j = 23) : NF6 τ (up2 τ 29 j v) := by
  intro c k h1 h2
  by_cases h29 : c = 29
  · subst h29; rw [up2_k _ _ _ _ _ (by omega)]
  · rw [up2_out h29]
theorem r6a {τ : St} {p i : Nat} {c : Nat → Nat} (hp : p ≤ 60) (hT : T6 τ p c) (hi : i < p) (h46 : c i = 46) : l_X6_goNights_11 (nI i) τ = Fin6 (Option.bind (f_X6_endNight τ) (fun r16 => some (nI (i + 1), up2 r16.2 29 22 r16.1))) := by
  unfold l_X6_goNights_11 Fin6
  rw [hT.1, if_neg (nI_ge hi (by omega)), gi_in (by omega) (by decide), nI_clamp (by omega), hT.2 i hi, h46, if_neg (fun w => w rfl), nI_1]
  rfl
theorem r6b {τ : St} {p i : Nat} {c : Nat → Nat} (hp : p ≤ 60) (hT : T6 τ p c) (hi : i < p) (h36 : c i = 36) : l_X6_goNights_11 (nI i) τ = Fin6 (some (nI (i + 1), fillS (fillS (up2 (up2 τ 29 22 0) 29 18 0) 40 6 (-6)) 39 6 0)) := by
  unfold l_X6_goNights_11 Fin6
  rw [hT.1, if_neg (nI_ge hi (by omega)), gi_in (by omega) (by decide), nI_clamp (by omega), hT.2 i hi, h36, if_pos (by decide), if_neg (fun w => w rfl), nm_eq, nobody_eq, bnd_some, zero_eq, bnd_some, nI_1]
theorem r6c {τ : St} {p i : Nat} {c : Nat → Nat} (hp : p ≤ 60) (hT : T6 τ p c) (hi : i + 1 < p) (hl : ltr (c i) = true) : l_X6_goNights_11 (nI i) τ = Fin6 (Option.bind (f_X6_act (nI (c i - 65)) (nI (c (i + 1))) τ) (fun r8 => some (nI (i + 2), up2 r8.2 29 22 r8.1))) := by
  have h65 := sub65 hl
  have hr : 65 ≤ c i ∧ c i ≤ 70 := by unfold ltr at hl; simpa using hl
  have e1 : ¬ nI (c i) = 46 := fun z => by
    have := (nI_eq (a := c i) (b := 46) (by omega) (by decide)).mp z
    omega
  have e2 : ¬ nI (c i) = 36 := fun z => by
    have := (nI_eq (a := c i) (b := 36) (by omega) (by decide)).mp z
    omega
  unfold l_X6_goNights_11 Fin6
  rw [hT.1, if_neg (nI_ge (by omega) (by omega)), gi_in (by omega) (by decide), nI_clamp (by omega), hT.2 i (by omega), if_pos e1, if_pos e2, nI_1, gi_in (by omega) (by decide), nI_clamp (by omega), hT.2 (i + 1) hi, h65.1, show nI i + 2 = nI (i + 2) from nI_add i 2]
  rfl
theorem act_step {B : Nat} {σ τ : St} {A E : Option (Int32 × St)} {i' : Nat} (h : ActR B σ τ A E) : StepR B i' σ τ A (Fin6 (Option.bind E (fun r => some (nI i', up2 r.2 29 22 r.1)))) := by
  obtain ⟨w, σ', τ', hw, h1, h2, h3, h4, h5⟩ := h
  refine ⟨w, σ', up2 τ' 29 22 (nI w), hw, h1, ?_, up2_s _ _ _ _, ?_, NF6_tr (MF_NF h5) (NF_22 (Or.inl rfl)), nv_up (Or.inl rfl) h3, h4⟩
  · rw [h2]; rfl
  · rw [up2_k _ _ _ _ _ (by decide), h5 29 23 (by decide) (by decide)]
def RunR (Bf : Nat) (σ τ : St) (L5 L6 : Option (St ⊕ (Int32 × St))) : Prop := ∃ σ' τ', NF5 σ σ' ∧ NF6 τ τ' ∧ ((L5 = some (.inl σ') ∧ L6 = some (.inl τ') ∧ LR Bf (cv σ' 9) (nv τ') ∧ ∃ a', a' ≤ 60 ∧ σ' 18 2 = nI a' ∧ τ' 29 23 = nI a') ∨ (∃ a' w, a' ≤ 60 ∧ 0 < w ∧ w < 9 ∧ L5 = some (.inr (0, σ')) ∧ L6 = some (.inr (nI a', τ')) ∧ σ' 18 2 = nI a' ∧ σ' 18 3 = nI w ∧ τ' 29 22 = nI w))
theorem cont {Bf B a i' f1 f2 : Nat} {σ τ : St} {y s6 : Int32} {A : Option (Int32 × St)} {s5 : Int32 × Int32 × St} (hS : StepR B i' σ τ A (l_X6_goNights_11 s6 τ)) (h5 : l_X1_runOn_15 s5.1 s5.2.1 s5.2.2 = Fin5 y A) (hy : y + 1 = nI i') (ha5 : σ 18 2 = nI a) (ha6 : τ 29 23 = nI a) (ha : a ≤ 60) (ih : ∀ σ1 τ1, NF5 σ σ1 → NF6 τ τ1 → LR B (cv σ1 9) (nv τ1) → σ1 18 2 = nI (a + 1) → τ1 29 23 = nI (a + 1) → RunR Bf σ1 τ1 (loop (fun s : Int32 × Int32 × St => l_X1_runOn_15 s.1 s.2.1 s.2.2) f1 (-6, nI i', σ1)) (loop (fun s : Int32 × St => l_X6_goNights_11 s.1 s.2) f2 (nI i', τ1))) : RunR Bf σ τ (loop (fun s : Int32 × Int32 × St => l_X1_runOn_15 s.1 s.2.1 s.2.2) (f1 + 1) s5) (loop (fun s : Int32 × St => l_X6_goNights_11 s.1 s.2) (f2 + 1) (s6, τ)) := by
  obtain ⟨w, σ', τ1, hw, h1, h2, h3, h4, h6, h7, h8⟩ := hS
  have c2 : σ' 18 2 = nI a := (h8 18 2 (by decide)).trans ha5
  rw [h1] at h5
  have hNF : NF5 σ (up2 σ' 18 3 (nI w)) := fun c k q1 q2 => by
    rw [show up2 σ' 18 3 (nI w) c k = σ' c k from by
      by_cases h18 : c = 18
      · subst h18; rw [up2_k _ _ _ _ _ (by omega)]
      · rw [up2_out h18]]
    exact h8 c k q1
  by_cases c : w = 0
  · subst c
    have hNF1 : NF5 σ (up2 (up2 σ' 18 3 (nI 0)) 18 2 (nI (a + 1))) := fun c k q1 q2 => by
      rw [show up2 (up2 σ' 18 3 (nI 0)) 18 2 (nI (a + 1)) c k = up2 σ' 18 3 (nI 0) c k from by
        by_cases h18 : c = 18
        · subst h18; rw [up2_k _ _ _ _ _ (by omega)]
        · rw [up2_out h18]]
      exact hNF c k q1 q2
    have r := ih (up2 (up2 σ' 18 3 (nI 0)) 18 2 (nI (a + 1))) (up2 τ1 29 23 (nI (a + 1))) hNF1 (NF6_tr h6 (NF_22 (Or.inr rfl))) (nv_up (Or.inr rfl) (cv9_up (cv9_up h7))) (up2_s _ _ _ _) (up2_s _ _ _ _)
    have e5 : l_X1_runOn_15 s5.1 s5.2.1 s5.2.2 = some (.inl (-6, nI i', up2 (up2 σ' 18 3 (nI 0)) 18 2 (nI (a + 1)))) := by
      rw [h5]
      unfold Fin5
      rw [bnd_some, nm_eq]
      show (if up2 σ' 18 3 (nI 0) 18 3 = 0 then _ else _) = _
      rw [up2_s, if_pos nI_0, nm_eq, show up2 σ' 18 3 (nI 0) 18 2 = σ' 18 2 from rfl, c2, nI_1, hy]
    have e6 : l_X6_goNights_11 s6 τ = some (.inl (nI i', up2 τ1 29 23 (nI (a + 1)))) := by
      rw [h2]
      unfold Fin6
      rw [bnd_some]
      show (if τ1 29 22 ≤ 0 then _ else _) = _
      rw [h3, if_pos (by decide), nm_eq]
      show some (Sum.inl (nI i', up2 τ1 29 23 (τ1 29 23 + 1))) = _
      rw [h4, ha6, nI_1]
    rw [loop_in (body := fun s : Int32 × Int32 × St => l_X1_runOn_15 s.1 s.2.1 s.2.2) (s := s5) e5, loop_in (body := fun s : Int32 × St => l_X6_goNights_11 s.1 s.2) (s := (s6, τ)) e6]
    obtain ⟨σ2, τ2, g1, g2, g3⟩ := r
    exact ⟨σ2, τ2, NF5_tr hNF1 g1, NF6_tr (NF6_tr h6 (NF_22 (Or.inr rfl))) g2, g3⟩
  · have e5 : l_X1_runOn_15 s5.1 s5.2.1 s5.2.2 = some (.inr (.inr (0, up2 σ' 18 3 (nI w)))) := by
      rw [h5]
      unfold Fin5
      rw [bnd_some, nm_eq]
      show (if up2 σ' 18 3 (nI w) 18 3 = 0 then _ else _) = _
      rw [up2_s, if_neg (nI_ne0 (by omega) (by omega))]
    have e6 : l_X6_goNights_11 s6 τ = some (.inr (.inr (nI a, τ1))) := by
      rw [h2]
      unfold Fin6
      rw [bnd_some]
      show (if τ1 29 22 ≤ 0 then _ else _) = _
      rw [h3, if_neg (nI_nle (by omega) (by omega))]
      show some (Sum.inr (Sum.inr (τ1 29 23, τ1))) = _
      rw [h4, ha6]
    rw [loop_ex (body := fun s : Int32 × Int32 × St => l_X1_runOn_15 s.1 s.2.1 s.2.2) (s := s5) e5, loop_ex (body := fun s : Int32 × St => l_X6_goNights_11 s.1 s.2) (s := (s6, τ)) e6]
    refine ⟨_, _, hNF, h6, Or.inr ⟨a, w, ha, by omega, hw, rfl, rfl, ?_, up2_s _ _ _ _, h3⟩⟩
    rw [up2_k _ _ _ _ _ (by decide)]; exact c2
theorem run_all {p : Nat} {c : Nat → Nat} (hp : p ≤ 60) (hc : ∀ k, k < p → 33 ≤ c k ∧ c k ≤ 126) : ∀ (m : Nat), m ≤ p → ∀ (B a : Nat) (σ τ : St) (f1 f2 : Nat), LF c p m false = .inl 0 → LR B (cv σ 9) (nv τ) → B + 10 * m < 2 ^ 30 → T5 σ p c → T6 τ p c → σ 18 2 = nI a → τ 29 23 = nI a → a + m ≤ 60 → m < f1 → m < f2 → RunR (B + 10 * m) σ τ (loop (fun s : Int32 × Int32 × St => l_X1_runOn_15 s.1 s.2.1 s.2.2) f1 (-6, nI (p - m), σ)) (loop (fun s : Int32 × St => l_X6_goNights_11 s.1 s.2) f2 (nI (p - m), τ)) := by
  intro m
  induction m using Nat.strongRecOn with
  | _ m IH =>
    intro hm B a σ τ f1 f2 hF hL hB hT5 hT6 ha5 ha6 ha hf1 hf2
    obtain ⟨f1, rfl⟩ : ∃ f, f1 = f + 1 := ⟨f1 - 1, by omega⟩
    obtain ⟨f2, rfl⟩ : ∃ f, f2 = f + 1 := ⟨f2 - 1, by omega⟩
    cases m with
    | zero =>
      have e5 : l_X1_runOn_15 (-6) (nI (p - 0)) σ = some (.inr (.inl σ)) := by
        unfold l_X1_runOn_15
        rw [hT5.1, Nat.sub_zero, if_pos (Int32.le_refl _)]
      have e6 : l_X6_goNights_11 (nI (p - 0)) τ = some (.inr (.inl τ)) := by
        unfold l_X6_goNights_11
        rw [hT6.1, Nat.sub_zero, if_pos (Int32.le_refl _)]
      rw [loop_ex (body := fun s : Int32 × Int32 × St => l_X1_runOn_15 s.1 s.2.1 s.2.2) (s := (-6, nI (p - 0), σ)) e5, loop_ex (body := fun s : Int32 × St => l_X6_goNights_11 s.1 s.2) (s := (nI (p - 0), τ)) e6]
      exact ⟨σ, τ, fun _ _ _ _ => rfl, fun _ _ _ _ => rfl, Or.inl ⟨rfl, rfl, hL, a, by omega, ha5, ha6⟩⟩
    | succ m =>
      have hi : p - (m + 1) < p := by omega
      unfold LF at hF
      by_cases hcs : cst false (c (p - (m + 1))) = true
      rotate_left
      · rw [if_neg hcs] at hF; cases hF
      rw [if_pos hcs] at hF
      by_cases hl : ltr (c (p - (m + 1))) = true
      · -- a letter: an act of two signs
        rw [hl] at hF
        cases m with
        | zero =>
          have hF : (Sum.inl (b2 true) : Int32 ⊕ Int32) = .inl 0 := hF
          exact absurd (Sum.inl.inj hF) (by decide)
        | succ m =>
          unfold LF at hF
          have hi2 : p - (m + 1) = p - (m + 1 + 1) + 1 := by omega
          rw [hi2] at hF
          have hF2 : (if cst true (c (p - (m + 1 + 1) + 1)) = true then LF c p m false else .inr (nI (p - (m + 1 + 1) + 1))) = .inl 0 := hF
          clear hF
          by_cases hcs2 : cst true (c (p - (m + 1 + 1) + 1)) = true
          rotate_left
          · rw [if_neg hcs2] at hF2; cases hF2
          rw [if_pos hcs2] at hF2
          generalize hq : p - (m + 1 + 1) = i at *
          have hi1 : i + 1 < p := by omega
          obtain ⟨f1, rfl⟩ : ∃ f, f1 = f + 1 := ⟨f1 - 1, by omega⟩
          have hk : c i - 65 < 6 := (sub65 hl).2
          have e5 := b5b hp hc hT5 hi hl
          rw [loop_in (body := fun s : Int32 × Int32 × St => l_X1_runOn_15 s.1 s.2.1 s.2.2) (s := (-6, nI i, σ)) e5]
          have hact : ActR (B + 20) σ τ (f_X0_tryAct 9 (if ltr (c (i + 1)) = true then 0 else nI (c (i + 1))) (nI (c i - 65)) (nI (c (i + 1)) - 65) σ) (f_X6_act (nI (c i - 65)) (nI (c (i + 1))) τ) := by
            by_cases hl2 : ltr (c (i + 1)) = true
            · obtain ⟨u1, u2⟩ := sub65 hl2
              have h65 : 65 + (c (i + 1) - 65) = c (i + 1) := by
                unfold ltr at hl2; simp at hl2; omega
              have := a_rob hL hk u2
              rw [h65] at this
              rw [if_pos hl2, u1]
              exact this
            · rw [if_neg hl2]
              have hl2 : ltr (c (i + 1)) = false := by simpa using hl2
              unfold cst at hcs2
              simp [hl2] at hcs2
              have hL' := LR_mono (show B ≤ B + 20 by omega) hL
              rcases hcs2 with (h42 | h126) | h33
              · rw [h42]; exact a_lamp hL' hk
              · rw [h126]; exact a_dog hL' hk
              · rw [h33]; exact a_catch (by omega) hL' hk
          have hS := act_step (i' := i + 2) hact
          rw [← r6c hp hT6 hi1 hl] at hS
          refine cont (y := nI (i + 1)) hS (b5c hp hc hT5 hi1 hk) (nI_1 _) ha5 ha6 (by omega) (fun σ1 τ1 n5 n6 hL1 g5 g6 => ?_)
          have r := IH m (by omega) (by omega) (B + 20) (a + 1) σ1 τ1 f1 f2 hF2 hL1 (by omega) (T5_nf hT5 n5) (T6_nf hT6 n6) g5 g6 (by omega) (by omega) (by omega)
          rw [show p - m = i + 2 by omega, show B + 20 + 10 * m = B + 10 * (m + 1 + 1) by omega] at r
          exact r
      · have hl : ltr (c (p - (m + 1))) = false := by simpa using hl
        rw [hl] at hF
        have hF : LF c p m false = .inl 0 := hF
        unfold cst at hcs
        simp [hl] at hcs
        generalize hq : p - (m + 1) = i at *
        have ih : ∀ σ1 τ1, NF5 σ σ1 → NF6 τ τ1 → LR B (cv σ1 9) (nv τ1) → σ1 18 2 = nI (a + 1) → τ1 29 23 = nI (a + 1) → RunR (B + 10 * (m + 1)) σ1 τ1 (loop (fun s : Int32 × Int32 × St => l_X1_runOn_15 s.1 s.2.1 s.2.2) f1 (-6, nI (i + 1), σ1)) (loop (fun s : Int32 × St => l_X6_goNights_11 s.1 s.2) f2 (nI (i + 1), τ1)) := by
          intro σ1 τ1 n5 n6 hL1 g5 g6
          have r := IH m (by omega) (by omega) (B + 10) (a + 1) σ1 τ1 f1 f2 hF (LR_mono (by omega) hL1) (by omega) (T5_nf hT5 n5) (T6_nf hT6 n6) g5 g6 (by omega) (by omega) (by omega)
          rw [show p - m = i + 1 by omega, show B + 10 + 10 * m = B + 10 * (m + 1) by omega] at r
          exact r
        have e5 := b5a hp hc hT5 hi hl
        rcases hcs with h46 | h36
        · have hact : ActR B σ τ (f_X0_tryAct 9 (nI (c i)) (-6) (nI (c i) - 65) σ) (f_X6_endNight τ) := by
            rw [h46]; exact a_night hL
          have hS := act_step (i' := i + 1) hact
          rw [← r6a hp hT6 hi h46] at hS
          exact cont (y := nI i) hS e5 (nI_1 _) ha5 ha6 (by omega) ih
        · obtain ⟨w, σ', τ', hw, x1, x2, x3, x4, x5⟩ := a_year (y := -6) (z := nI (c i) - 65) (nv_up (j := 22) (v := 0) (Or.inl rfl) hL)
          have hS : StepR B (i + 1) σ τ (f_X0_tryAct 9 (nI (c i)) (-6) (nI (c i) - 65) σ) (l_X6_goNights_11 (nI i) τ) := by
            have x2' := Option.some.inj x2
            have w0 : nI w = 0 := (congrArg Prod.fst x2').symm
            have t0 : τ' = fillS (fillS (up2 (up2 τ 29 22 0) 29 18 0) 40 6 (-6)) 39 6 0 := (congrArg Prod.snd x2').symm
            refine ⟨w, σ', τ', hw, ?_, ?_, ?_, ?_, NF6_tr (NF_22 (Or.inl rfl)) (MF_NF x5), x3, x4⟩
            · rw [h36]; rw [h36] at x1; exact x1
            · rw [r6b hp hT6 hi h36, t0]
            · rw [x5 29 22 (by decide) (by decide), up2_s, w0]
            · rw [x5 29 23 (by decide) (by decide), up2_k _ _ _ _ _ (by decide)]
          exact cont (y := nI i) hS e5 (nI_1 _) ha5 ha6 (by omega) ih
