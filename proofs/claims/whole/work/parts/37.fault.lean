/-! ===== fault: the text on the pad ===== -/
def ltr (c : Nat) : Bool := decide (65 ≤ c) && decide (c ≤ 70)
def cst (op : Bool) (c : Nat) : Bool := if op then (ltr c || c == 42 || c == 126 || c == 33) else (ltr c || c == 46 || c == 36)
def b2 (op : Bool) : Int32 := if op then 1 else 0
/-- what the loop over the pad comes to, with m signs to go -/
def LF (c : Nat → Nat) (p : Nat) : Nat → Bool → Int32 ⊕ Int32
  | 0, op => .inl (b2 op)
  | m + 1, op => if cst op (c (p - (m + 1))) = true then LF c p m (!op && ltr (c (p - (m + 1)))) else .inr (nI (p - (m + 1)))
def FA (c : Nat → Nat) (p : Nat) : Int32 := match LF c p p false with
  | .inl z => if z = 0 then -6 else nI p
  | .inr z => z
def e5 (y1 x : Int32) : Option Int32 := if y1 = 0 then (Option.bind (f_X1_isLetter x) (fun r7 => if ¬ r7 = 0 then (some 1) else (Option.bind (f_X1_standsAlone x) (fun r8 => if r8 = 0 then (some 0) else (some 1))))) else (Option.bind (f_X1_endsAct x) (fun r9 => some r9))
def g5 (y1 x : Int32) : Option Int32 := if ¬ y1 = 0 then (some 0) else (Option.bind (f_X1_isLetter x) (fun r6 => if r6 = 0 then (some 0) else (some 1)))
def e6 (y1 x : Int32) : Option Int32 := if y1 = 0 then (Option.bind (f_X6_isLetter x) (fun r7 => if ¬ r7 = 0 then (some 1) else (if x = 46 then (some 1) else (if ¬ x = 36 then (some 0) else (some 1))))) else (Option.bind (f_X6_isLetter x) (fun r8 => if ¬ r8 = 0 then (some 1) else (if x = 42 then (some 1) else (if x = 126 then (some 1) else (if ¬ x = 33 then (some 0) else (some 1))))))
def g6 (y1 x : Int32) : Option Int32 := if ¬ y1 = 0 then (some 0) else (Option.bind (f_X6_isLetter x) (fun r6 => if r6 = 0 then (some 0) else (some 1)))
theorem lt_tab : ∀ c, c < 127 → f_X1_isLetter (nI c) = some (b2 (ltr c)) ∧ f_X6_isLetter (nI c) = some (b2 (ltr c)) := by decide +kernel
theorem e5_tab : ∀ c, c < 127 → ∀ op : Bool, e5 (b2 op) (nI c) = some (b2 (cst op c)) ∧ g5 (b2 op) (nI c) = some (b2 (!op && ltr c)) := by decide +kernel
theorem e6_tab : ∀ c, c < 127 → ∀ op : Bool, e6 (b2 op) (nI c) = some (b2 (cst op c)) ∧ g6 (b2 op) (nI c) = some (b2 (!op && ltr c)) := by decide +kernel
theorem b2_ne (b : Bool) : (¬ b2 b = 0) ↔ b = true := by cases b <;> decide
/-- the text: its signs as numbers -/
def PT (σ : St) (p : Nat) (c : Nat → Nat) : Prop := p ≤ 60 ∧ σ 18 1 = nI p ∧ σ 29 12 = nI p ∧ ∀ k, k < p → σ 36 k = nI (c k) ∧ σ 19 k = nI (c k) ∧ 33 ≤ c k ∧ c k ≤ 126
theorem PAD_PT {σ : St} (h : PAD σ) : ∃ p c, PT σ p c := by
  obtain ⟨p, h1, h2, h3, h4⟩ := h
  have hc : ∀ k, ∃ c : Nat, k < p → (33 ≤ c ∧ c ≤ 126 ∧ σ 19 k = nI c) := by
    intro k
    by_cases hk : k < p
    · obtain ⟨-, c, x1, x2, x3⟩ := h4 k hk
      exact ⟨c, fun _ => ⟨x1, x2, x3⟩⟩
    · exact ⟨0, fun q => absurd q hk⟩
  refine ⟨p, fun k => Classical.choose (hc k), h1, h2, h3, fun k hk => ?_⟩
  obtain ⟨x1, x2, x3⟩ := Classical.choose_spec (hc k) hk
  exact ⟨(h4 k hk).1.trans x3, x3, x1, x2⟩
theorem l5_eq (σ : St) (y1 y2 : Int32) : l_X1_faultPlace_4 σ y1 y2 = (if σ 18 1 ≤ y2 then some (.inr (.inl y1)) else gi y2 60 (Option.bind (e5 y1 (σ 19 y2.toNatClampNeg)) (fun j4 : Int32 => if ¬ j4 = 0 then Option.bind (g5 y1 (σ 19 y2.toNatClampNeg)) (fun j5 : Int32 => some (.inl (j5, y2 + 1))) else some (.inr (.inr y2)))) : Option ((Int32 × Int32) ⊕ (Int32 ⊕ Int32))) := rfl
theorem f5_body {σ : St} {p i : Nat} {c : Nat → Nat} {op : Bool} (h : PT σ p c) (hi : i < p) : l_X1_faultPlace_4 σ (b2 op) (nI i) = if cst op (c i) = true then some (.inl (b2 (!op && ltr (c i)), nI (i + 1))) else some (.inr (.inr (nI i))) := by
  obtain ⟨h1, h2, h3, h4⟩ := h
  obtain ⟨x1, x2, x3, x4⟩ := h4 i hi
  rw [l5_eq]
  rw [h2, if_neg (nI_ge hi (by omega)), gi_in (by omega) (by decide), nI_clamp (by omega), x2, (e5_tab (c i) (by omega) op).1, (e5_tab (c i) (by omega) op).2, bnd_some, bnd_some, nI_1]
  by_cases hc : cst op (c i) = true
  · rw [if_pos ((b2_ne _).mpr hc), if_pos hc]
  · rw [if_neg (fun q => hc ((b2_ne _).mp q)), if_neg hc]
theorem l6_eq (σ : St) (y1 y2 : Int32) : l_X6_faultOf_4 σ y1 y2 = (if σ 29 12 ≤ y2 then some (.inr (.inl y1)) else gi y2 60 (Option.bind (e6 y1 (σ 36 y2.toNatClampNeg)) (fun j4 : Int32 => if ¬ j4 = 0 then Option.bind (g6 y1 (σ 36 y2.toNatClampNeg)) (fun j5 : Int32 => some (.inl (j5, y2 + 1))) else some (.inr (.inr y2)))) : Option ((Int32 × Int32) ⊕ (Int32 ⊕ Int32))) := rfl
theorem f6_body {σ : St} {p i : Nat} {c : Nat → Nat} {op : Bool} (h : PT σ p c) (hi : i < p) : l_X6_faultOf_4 σ (b2 op) (nI i) = if cst op (c i) = true then some (.inl (b2 (!op && ltr (c i)), nI (i + 1))) else some (.inr (.inr (nI i))) := by
  obtain ⟨h1, h2, h3, h4⟩ := h
  obtain ⟨x1, x2, x3, x4⟩ := h4 i hi
  rw [l6_eq]
  rw [h3, if_neg (nI_ge hi (by omega)), gi_in (by omega) (by decide), nI_clamp (by omega), x1, (e6_tab (c i) (by omega) op).1, (e6_tab (c i) (by omega) op).2, bnd_some, bnd_some, nI_1]
  by_cases hc : cst op (c i) = true
  · rw [if_pos ((b2_ne _).mpr hc), if_pos hc]
  · rw [if_neg (fun q => hc ((b2_ne _).mp q)), if_neg hc]
theorem f_loop {body : Int32 × Int32 → Option ((Int32 × Int32) ⊕ (Int32 ⊕ Int32))} {p : Nat} {c : Nat → Nat} (hb : ∀ (i : Nat) (op : Bool), i < p → body (b2 op, nI i) = if cst op (c i) = true then some (.inl (b2 (!op && ltr (c i)), nI (i + 1))) else some (.inr (.inr (nI i)))) (he : ∀ op : Bool, body (b2 op, nI p) = some (.inr (.inl (b2 op)))) : ∀ (m : Nat) (op : Bool) (fuel : Nat), m ≤ p → m < fuel → loop body fuel (b2 op, nI (p - m)) = some (LF c p m op) := by
  intro m
  induction m with
  | zero =>
    intro op fuel h1 h2
    obtain ⟨f, rfl⟩ : ∃ f, fuel = f + 1 := ⟨fuel - 1, by omega⟩
    unfold loop
    rw [Nat.sub_zero, he op]
    rfl
  | succ m ih =>
    intro op fuel h1 h2
    obtain ⟨f, rfl⟩ : ∃ f, fuel = f + 1 := ⟨fuel - 1, by omega⟩
    unfold loop LF
    rw [hb (p - (m + 1)) op (by omega)]
    by_cases hc : cst op (c (p - (m + 1))) = true
    · rw [if_pos hc, if_pos hc, bnd_some]
      have := ih (!op && ltr (c (p - (m + 1)))) f (by omega) (by omega)
      rw [show p - m = p - (m + 1) + 1 by omega] at this
      exact this
    · rw [if_neg hc, if_neg hc]
      rfl
theorem f5_fault {σ : St} {p : Nat} {c : Nat → Nat} (h : PT σ p c) : f_X1_faultPlace σ = some (FA c p) := by
  have hl := f_loop (body := fun s : Int32 × Int32 => l_X1_faultPlace_4 σ s.1 s.2) (p := p) (c := c) (fun i op hi => f5_body h hi) (fun op => by
    show (if σ 18 1 ≤ nI p then _ else _) = _
    rw [h.2.1, if_pos (Int32.le_refl _)]) p false 400 (Nat.le_refl _) (by have := h.1; omega)
  rw [Nat.sub_self] at hl
  unfold f_X1_faultPlace
  have hl : loop (fun s : Int32 × Int32 => l_X1_faultPlace_4 σ s.1 s.2) 400 (0, 0) = some (LF c p p false) := hl
  rw [hl, bnd_some]
  unfold FA
  cases LF c p p false with
  | inl z =>
    show (if z = 0 then some (-6 : Int32) else some (σ 18 1)) = _
    rw [h.2.1]
    by_cases hz : z = 0 <;> simp [hz]
  | inr z => rfl
theorem f6_fault {σ : St} {p : Nat} {c : Nat → Nat} (h : PT σ p c) : f_X6_faultOf σ = some (FA c p) := by
  have hl := f_loop (body := fun s : Int32 × Int32 => l_X6_faultOf_4 σ s.1 s.2) (p := p) (c := c) (fun i op hi => f6_body h hi) (fun op => by
    show (if σ 29 12 ≤ nI p then _ else _) = _
    rw [h.2.2.1, if_pos (Int32.le_refl _)]) p false 400 (Nat.le_refl _) (by have := h.1; omega)
  rw [Nat.sub_self] at hl
  unfold f_X6_faultOf
  have hl : loop (fun s : Int32 × Int32 => l_X6_faultOf_4 σ s.1 s.2) 400 (0, 0) = some (LF c p p false) := hl
  rw [hl, bnd_some]
  unfold FA
  cases LF c p p false with
  | inl z =>
    show (if z = 0 then some (-6 : Int32) else some (σ 29 12)) = _
    rw [h.2.2.1]
    by_cases hz : z = 0 <;> simp [hz]
  | inr z => rfl
theorem pc_fault : PC_fault := by
  intro N g σ hN hI
  obtain ⟨p, c, h⟩ := PAD_PT hI.2.1
  refine ⟨FA c p, ?_, ?_, Inv_mono hI⟩
  · unfold f_X5_fault
    rw [f5_fault h]
    rfl
  · unfold f_X6_fault
    rw [f6_fault h]
    rfl
