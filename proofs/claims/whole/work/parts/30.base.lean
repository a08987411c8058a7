/-! ===== pure rows: small laws of the lifted programs ===== -/
theorem in_eq : f_X6_in = f_X5_within := rfl
theorem bnd_some {α β : Type} (x : α) (f : α → Option β) : Option.bind (some x) f = f x := rfl
theorem nm_eq {α β : Type} (e : α) (f : α → Option β) : nm e f = f e := rfl
theorem gi_in {α : Type} {n m : Nat} {o : Option α} (h : n < m) (hm : m < 2 ^ 31) : gi (nI n) m o = o := by
  unfold gi
  rw [if_neg (nI_in h hm)]
theorem wi_in {a lo hi : Int32} (h1 : ¬ a < lo) (h2 : ¬ hi < a) : f_X5_within a lo hi = some 1 := by simp [f_X5_within, h1, h2]
theorem wi_out {a lo hi : Int32} (h : a < lo ∨ hi < a) : f_X5_within a lo hi = some 0 := by
  unfold f_X5_within
  rcases h with h | h
  · rw [if_pos h]
  · by_cases h1 : a < lo
    · rw [if_pos h1]
    · rw [if_neg h1, if_pos h]
theorem wi_cases (a lo hi : Int32) : (f_X5_within a lo hi = some 1 ∧ ¬ a < lo ∧ ¬ hi < a) ∨ (f_X5_within a lo hi = some 0 ∧ (a < lo ∨ hi < a)) := by
  by_cases h1 : a < lo
  · exact Or.inr ⟨wi_out (Or.inl h1), Or.inl h1⟩
  · by_cases h2 : hi < a
    · exact Or.inr ⟨wi_out (Or.inr h2), Or.inr h2⟩
    · exact Or.inl ⟨wi_in h1 h2, h1, h2⟩
/-- an int between two numbers -/
theorem nI_btw {a : Int32} {lo hi : Nat} (hh : hi < 2 ^ 31) (h1 : ¬ a < nI lo) (h2 : ¬ nI hi < a) (hl : lo ≤ hi) : ∃ n : Nat, lo ≤ n ∧ n ≤ hi ∧ a = nI n := by
  have h0 : ¬ a < 0 := by
    intro h
    apply h1
    rw [Int32.lt_iff_toInt_lt] at h ⊢
    rw [nI_toInt (by omega)]
    have : (0 : Int32).toInt = 0 := by decide
    omega
  obtain ⟨n, hn, rfl⟩ := nI_of h0
  refine ⟨n, ?_, ?_, rfl⟩
  · apply Nat.le_of_not_lt
    intro h
    exact h1 (nI_lt h (by omega))
  · apply Nat.le_of_not_lt
    intro h
    exact h2 (nI_lt h (by omega))
theorem has_tab : ∀ h, h < 64 → ∀ k, k < 6 → (((nI h &&& ((1 : Int32) <<< (nI k &&& 31))) = 0) ↔ h.testBit k = false) ∧ ((nI h >>> (nI k &&& 31)) &&& 1) = (if h.testBit k then 1 else 0) := by decide +kernel
theorem or_tab : ∀ h, h < 64 → ∀ k, k < 6 → (nI h ||| ((1 : Int32) <<< (nI k &&& 31))) = nI (h ||| 1 <<< k) ∧ h ||| 1 <<< k < 64 := by decide +kernel
theorem not_tab : ∀ h, h < 64 → ∀ k, k < 6 → (nI h &&& (((1 : Int32) <<< (nI k &&& 31)) ^^^ (-1 : Int32))) = nI (h &&& (63 - 1 <<< k)) ∧ h &&& (63 - 1 <<< k) < 64 := by decide +kernel
theorem bits_tab : ∀ h, h < 64 → ∃ r, f_J6_bitCount_0f7a4 (nI h) = some r ∧ f_X6_bits (nI h) = some r := by
  have h : ∀ h, h < 64 → f_X6_bits (nI h) = f_J6_bitCount_0f7a4 (nI h) := by decide +kernel
  intro k hk
  exact ⟨_, rfl, h k hk⟩
theorem tb_or {h k j : Nat} : (h ||| 1 <<< k).testBit j = (h.testBit j || decide (k = j)) := by
  rw [Nat.testBit_or, Nat.shiftLeft_eq, Nat.one_mul, Nat.testBit_two_pow]
theorem tb_not : ∀ h, h < 64 → ∀ k, k < 6 → ∀ j, j < 6 → (h &&& (63 - 1 <<< k)).testBit j = (h.testBit j && !decide (k = j)) := by decide +kernel
theorem lt_neg {k : Nat} (h : k < 2 ^ 31) : ¬ nI k < 0 := nI_pos h
theorem six_le {k : Nat} (h : k < 6) : ¬ (6 : Int32) ≤ nI k := nI_ge (a := k) (b := 6) h (by decide)
theorem ix_cases (x : Int32) : (∃ k : Nat, k < 6 ∧ x = nI k) ∨ (x < 0 ∨ (6 : Int32) ≤ x) := by
  rcases pk_ix x (n := 6) (by decide) with h | h | h
  · exact Or.inr (Or.inl h)
  · exact Or.inr (Or.inr h)
  · exact Or.inl h
theorem has_in {b h k : Nat} {σ : St} (hh : h < 64) (hk : k < 6) (e : σ b 8 = nI h) : f_X0_has b (nI k) σ = some (if h.testBit k then 1 else 0) := by
  unfold f_X0_has
  rw [if_neg (lt_neg (by omega)), if_neg (six_le hk), e]
  by_cases hb : h.testBit k = true
  · rw [if_neg (fun q => by rw [(has_tab h hh k hk).1.mp q] at hb; cases hb), if_pos hb]
  · rw [if_pos ((has_tab h hh k hk).1.mpr (by simpa using hb)), if_neg hb]
theorem has_out {b : Nat} {x : Int32} {σ : St} (h : x < 0 ∨ (6 : Int32) ≤ x) : f_X0_has b x σ = some 0 := by
  unfold f_X0_has
  by_cases h1 : x < 0
  · rw [if_pos h1]
  · rw [if_neg h1, if_pos (h.resolve_left h1)]
theorem mhas_in {h k : Nat} (hh : h < 64) (hk : k < 6) : f_X6_has (nI h) (nI k) = some (if h.testBit k then 1 else 0) := by
  unfold f_X6_has
  rw [(has_tab h hh k hk).2]
  by_cases hb : h.testBit k = true
  · simp [hb]
  · simp [hb]
theorem isT_in {h k : Nat} {σ : St} (hh : h < 64) (hk : k < 6) (e : σ 29 0 = nI h) : f_X6_isThere (nI k) σ = some (if h.testBit k then 1 else 0) := by
  unfold f_X6_isThere
  have h1 : f_X6_in (nI k) 0 5 = some 1 := wi_in (lt_neg (by omega)) (by
    show ¬ nI 5 < nI k
    exact nI_nlt (by omega) (by omega))
  rw [h1, e, bnd_some, if_neg (by decide), mhas_in hh hk, bnd_some]
  by_cases hb : h.testBit k = true <;> simp [hb]
theorem isT_out {x : Int32} {σ : St} (h : x < 0 ∨ (6 : Int32) ≤ x) : f_X6_isThere x σ = some 0 := by
  unfold f_X6_isThere
  have h1 : f_X6_in x 0 5 = some 0 := wi_out (h.imp id (fun h => by
    rw [Int32.le_iff_toInt_le] at h
    rw [Int32.lt_iff_toInt_lt]
    have e6 : (6 : Int32).toInt = 6 := by decide
    have e5 : (5 : Int32).toInt = 5 := by decide
    omega))
  rw [h1, bnd_some, if_pos rfl]
/-- who is there: both sides say the same -/
theorem there {B : Nat} {σ σ' : St} {V W : VW} {x : Int32} (hL : LR B V W) (e1 : σ 1 8 = V 0 8) (e2 : σ' 29 0 = W 0 8) : (f_X0_has 1 x σ = some 0 ∧ f_X6_isThere x σ' = some 0) ∨ ∃ h k : Nat, h < 64 ∧ k < 6 ∧ x = nI k ∧ V 0 8 = nI h ∧ W 0 8 = nI h ∧ h.testBit k = true ∧ f_X0_has 1 x σ = some 1 ∧ f_X6_isThere x σ' = some 1 := by
  obtain ⟨h, o, d, l, f, s, h1, h2, h3, h4, h5, h6, v1, w1, -⟩ := hL
  rcases ix_cases x with ⟨k, hk, rfl⟩ | hx
  · have a1 := has_in (b := 1) (σ := σ) h1 hk (e1.trans v1)
    have a2 := isT_in (σ := σ') h1 hk (e2.trans w1)
    by_cases hb : h.testBit k = true
    · rw [if_pos hb] at a1 a2
      exact Or.inr ⟨h, k, h1, hk, rfl, v1, w1, hb, a1, a2⟩
    · rw [if_neg hb] at a1 a2
      exact Or.inl ⟨a1, a2⟩
  · exact Or.inl ⟨has_out hx, isT_out hx⟩
/-- what the relation reads -/
def rel (c k : Nat) : Prop := (1 ≤ c ∧ c ≤ 8) ∨ (c = 18 ∧ k = 1) ∨ c = 19 ∨ (c = 29 ∧ (k = 0 ∨ k = 2 ∨ k = 3 ∨ k = 4 ∨ k = 5 ∨ k = 11 ∨ k = 12)) ∨ (30 ≤ c ∧ c ≤ 36) ∨ c = 44 ∨ c = 45 ∨ 46 ≤ c
def Agr (σ τ : St) : Prop := ∀ c k, rel c k → τ c k = σ c k
theorem LR_congr {B : Nat} {V W V' W' : VW} (h : LR B V W) (hv : ∀ i k, (i = 0 → 7 ≤ k ∧ k ≤ 12) → i ≤ 7 → V' i k = V i k) (hw : ∀ i k, (i = 0 → 7 ≤ k ∧ k ≤ 12) → i ≤ 7 → W' i k = W i k) : LR B V' W' := by
  obtain ⟨h, o, d, l, f, s, h1, h2, h3, h4, h5, h6, e1, e2, e3, e4, e5, e6, e7, e8, e9, e10, e11, e12, q1, q2, q3, q4, q5⟩ := h
  have z : ∀ i k, i ≠ 0 → (i = 0 → 7 ≤ k ∧ k ≤ 12) := fun i k h1 h2 => absurd h2 h1
  refine ⟨h, o, d, l, f, s, h1, h2, h3, h4, h5, h6, ?_, ?_, ?_, ?_, ?_, ?_, ?_, ?_, ?_, ?_, ?_, ?_, q1, q2, q3, fun k hk => ⟨fun hb => ?_, fun hb => ?_⟩, fun i hi => ?_⟩
  · rw [hv 0 8 (by omega) (by omega)]; exact e1
  · rw [hw 0 8 (by omega) (by omega)]; exact e2
  · rw [hv 0 9 (by omega) (by omega)]; exact e3
  · rw [hw 0 9 (by omega) (by omega)]; exact e4
  · rw [hv 0 10 (by omega) (by omega)]; exact e5
  · rw [hw 0 10 (by omega) (by omega)]; exact e6
  · rw [hv 0 11 (by omega) (by omega)]; exact e7
  · rw [hw 0 11 (by omega) (by omega)]; exact e8
  · rw [hv 0 12 (by omega) (by omega)]; exact e9
  · rw [hw 0 12 (by omega) (by omega)]; exact e10
  · rw [hv 0 7 (by omega) (by omega)]; exact e11
  · rw [hw 0 7 (by omega) (by omega)]; exact e12
  · rw [hv 1 k (z 1 k (by decide)) (by decide), hw 1 k (z 1 k (by decide)) (by decide), hv 2 k (z 2 k (by decide)) (by decide), hw 2 k (z 2 k (by decide)) (by decide), hv 3 k (z 3 k (by decide)) (by decide), hw 3 k (z 3 k (by decide)) (by decide), hv 4 k (z 4 k (by decide)) (by decide), hw 4 k (z 4 k (by decide)) (by decide), hv 5 k (z 5 k (by decide)) (by decide), hw 5 k (z 5 k (by decide)) (by decide)]
    exact (q4 k hk).1 hb
  · rw [hv 1 k (z 1 k (by decide)) (by decide), hw 1 k (z 1 k (by decide)) (by decide), hv 2 k (z 2 k (by decide)) (by decide), hv 3 k (z 3 k (by decide)) (by decide), hv 4 k (z 4 k (by decide)) (by decide)]
    exact (q4 k hk).2 hb
  · rw [hv 6 i (z 6 i (by decide)) (by decide), hw 6 i (z 6 i (by decide)) (by decide), hv 7 i (z 7 i (by decide)) (by decide), hw 7 i (z 7 i (by decide)) (by decide)]
    exact q5 i hi
theorem Agr_cv {σ τ : St} (h : Agr σ τ) : ∀ i k, (i = 0 → 7 ≤ k ∧ k ≤ 12) → i ≤ 7 → cv τ 1 i k = cv σ 1 i k := fun i k _ hi => h _ _ (Or.inl (by omega))
theorem Agr_mv {σ τ : St} (h : Agr σ τ) : ∀ i k, (i = 0 → 7 ≤ k ∧ k ≤ 12) → i ≤ 7 → mv τ i k = mv σ i k := by
  intro i k h0 hi
  match i, hi with
  | 0, _ =>
    obtain ⟨q1, q2⟩ := h0 rfl
    rcases (show k = 7 ∨ k = 8 ∨ k = 9 ∨ k = 10 ∨ k = 11 ∨ k = 12 by omega) with rfl | rfl | rfl | rfl | rfl | rfl <;> exact h _ _ (by simp [rel])
  | 1, _ => exact h _ _ (by simp [rel])
  | 2, _ => exact h _ _ (by simp [rel])
  | 3, _ => exact h _ _ (by simp [rel])
  | 4, _ => exact h _ _ (by simp [rel])
  | 5, _ => exact h _ _ (by simp [rel])
  | 6, _ => exact h _ _ (by simp [rel])
  | 7, _ => exact h _ _ (by simp [rel])
theorem Agr_iv {σ τ : St} (h : ∀ k, τ 44 k = σ 44 k) (j : Nat) : iv τ j = iv σ j := by
  funext i k
  match i with
  | 0 =>
    match k with
    | 7 => exact h _
    | 8 => exact h _
    | 9 => exact h _
    | 10 => exact h _
    | 11 => exact h _
    | 0 | 1 | 2 | 3 | 4 | 5 | 6 => exact h _
    | k + 12 => exact h _
  | 1 => exact h _
  | 2 => exact h _
  | 3 => exact h _
  | 4 => exact h _
  | 5 => exact h _
  | 6 => exact h _
  | i + 7 => exact h _
theorem IM_congr {B : Nat} {g : Nat → Option Nat} {σ τ : St} (h : IM B g σ) (h1 : ∀ k, τ 44 k = σ 44 k) (h2 : ∀ k, τ 45 k = σ 45 k) (h3 : ∀ c k, 46 ≤ c → τ c k = σ c k) : IM B g τ := by
  refine ⟨fun j hj => ?_, h.2⟩
  rcases h.1 j hj with ⟨q1, q2⟩ | ⟨q, q1, q2, q3, q4⟩
  · exact Or.inl ⟨q1, (h2 j).trans q2⟩
  · refine Or.inr ⟨q, q1, q2, (h2 j).trans q3, ?_⟩
    rw [Agr_iv h1]
    exact LR_congr q4 (fun i k _ _ => h3 _ _ (by omega)) (fun _ _ _ _ => rfl)
theorem PAD_congr {σ τ : St} (h : PAD σ) (h1 : τ 18 1 = σ 18 1) (h2 : τ 29 12 = σ 29 12) (h3 : ∀ k, τ 19 k = σ 19 k) (h4 : ∀ k, τ 36 k = σ 36 k) : PAD τ := by
  obtain ⟨p, q1, q2, q3, q4⟩ := h
  exact ⟨p, q1, h1.trans q2, h2.trans q3, fun k hk => by rw [h3, h4]; exact q4 k hk⟩
theorem Inv_congr {N : Nat} {g : Nat → Option Nat} {σ τ : St} (h : Inv N g σ) (ha : Agr σ τ) : Inv N g τ :=
  ⟨LR_congr h.1 (Agr_cv ha) (Agr_mv ha), PAD_congr h.2.1 (ha _ _ (by simp [rel])) (ha _ _ (by simp [rel])) (fun k => ha _ _ (by simp [rel])) (fun k => ha _ _ (by simp [rel])), IM_congr h.2.2 (fun k => ha _ _ (by simp [rel])) (fun k => ha _ _ (by simp [rel])) (fun c k hc => ha _ _ (by simp [rel]; omega))⟩
theorem Inv_next {N : Nat} {g : Nat → Option Nat} {σ τ : St} (h : Inv N g σ) (ha : Agr σ τ) : Inv (N + 1) g τ := Inv_mono (Inv_congr h ha)
