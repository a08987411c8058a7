/-! ===== a row is all its gangs ===== -/
theorem six_all (b : Nat → Bool) : (∀ q, q < 6 → b q = true) ↔ (b 0 && b 1 && b 2 && b 3 && b 4 && b 5) = true := by
  simp only [Bool.and_eq_true]
  constructor
  · intro h
    exact ⟨⟨⟨⟨⟨h 0 (by decide), h 1 (by decide)⟩, h 2 (by decide)⟩, h 3 (by decide)⟩, h 4 (by decide)⟩, h 5 (by decide)⟩
  · rintro ⟨⟨⟨⟨⟨h0, h1⟩, h2⟩, h3⟩, h4⟩, h5⟩ q hq
    rcases (show q = 0 ∨ q = 1 ∨ q = 2 ∨ q = 3 ∨ q = 4 ∨ q = 5 by omega) with rfl | rfl | rfl | rfl | rfl | rfl <;> assumption
theorem prod_b (b : Nat → Bool) : (if b 0 = true then 1 else 0) * (if b 1 = true then 1 else 0) * (if b 2 = true then 1 else 0) * (if b 3 = true then 1 else 0) * (if b 4 = true then 1 else 0) * (if b 5 = true then 1 else 0) = (if (b 0 && b 1 && b 2 && b 3 && b 4 && b 5) = true then 1 else 0) := by
  cases b 0 <;> cases b 1 <;> cases b 2 <;> cases b 3 <;> cases b 4 <;> cases b 5 <;> rfl
theorem vld_prod {h s : Nat} {sq sa bg base : Nat → Nat} {abl : Nat → Nat → Bool} (hsq : ∀ i, i < s → sq i < 6) (c : Nat) : prodG (okN h s sq sa abl bg base) (gang 6 c) = if vld h s sq sa abl bg base c = true then 1 else 0 := by
  show (if okq h s sq sa abl bg base 0 (gang 6 c 0) = true then 1 else 0) * _ * _ * _ * _ * _ = _
  refine (prod_b (fun q => okq h s sq sa abl bg base q (gang 6 c q))).trans ?_
  obtain ⟨r1, r2⟩ := rT_rG (abl := abl) (bg := bg) (base := base) (gang_tb c) 6 (Nat.le_refl _)
  have e : (∀ q, q < 6 → okq h s sq sa abl bg base q (gang 6 c q) = true) ↔ vld h s sq sa abl bg base c = true := by
    unfold vld
    cases hr : rT abl bg base (dg c) 6 with
    | none =>
      obtain ⟨q, hq, h0⟩ := r2 hr
      constructor
      · intro hh
        have := hh q hq
        unfold okq at this
        rw [h0] at this
        cases this
      · intro hh; cases hh
    | some tr =>
      have h0 := r1 tr hr
      show _ ↔ fitT h s sq sa tr = true
      rw [fit_iff hsq]
      constructor
      · intro hh q hq
        have := hh q hq
        unfold okq at this
        rw [h0 q hq] at this
        exact this
      · intro hh q hq
        unfold okq
        rw [h0 q hq]
        exact hh q hq
  rw [six_all] at e
  by_cases cc : vld h s sq sa abl bg base c = true
  · rw [if_pos cc]
    exact if_pos (e.mpr cc)
  · rw [if_neg cc]
    exact if_neg (fun w => cc (e.mp w))
def fvT (h s : Nat) (sq sa : Nat → Nat) (abl : Nat → Nat → Bool) (bg base : Nat → Nat) (t v q g : Nat) : Nat := if q = t then (if rG abl bg base t 6 g = some v then 1 else 0) else okN h s sq sa abl bg base q g
theorem vldT_prod {h s t v : Nat} {sq sa bg base : Nat → Nat} {abl : Nat → Nat → Bool} (hsq : ∀ i, i < s → sq i < 6) (ht : t < 6) (hns : ∀ i, i < s → sq i ≠ t) (c : Nat) : prodG (fvT h s sq sa abl bg base t v) (gang 6 c) = if vldT h s sq sa abl bg base t v c = true then 1 else 0 := by
  have hb : ∀ q, fvT h s sq sa abl bg base t v q (gang 6 c q) = if (if q = t then decide (rG abl bg base t 6 (gang 6 c q) = some v) else okq h s sq sa abl bg base q (gang 6 c q)) = true then 1 else 0 := by
    intro q
    unfold fvT okN
    by_cases e : q = t
    · rw [if_pos e, if_pos e]
      by_cases e2 : rG abl bg base t 6 (gang 6 c q) = some v
      · rw [if_pos e2, if_pos (by simpa using e2)]
      · rw [if_neg e2, if_neg (by simpa using e2)]
    · rw [if_neg e, if_neg e]
  unfold prodG
  rw [hb 0, hb 1, hb 2, hb 3, hb 4, hb 5]
  refine (prod_b (fun q => if q = t then decide (rG abl bg base t 6 (gang 6 c q) = some v) else okq h s sq sa abl bg base q (gang 6 c q))).trans ?_
  obtain ⟨r1, r2⟩ := rT_rG (abl := abl) (bg := bg) (base := base) (gang_tb c) 6 (Nat.le_refl _)
  have hft : ∀ a, fitq h s sq sa t a = true := fun a => by
    unfold fitq
    have : ¬ anyU (fun i => (sq i == t) && (!h.testBit t || !(sa i == a))) s = true := fun w => by
      obtain ⟨i, hi, hp⟩ := (anyU_iff s).mp w
      have e : (sq i == t) = false := by simpa using hns i hi
      rw [e] at hp; cases hp
    simpa using this
  have e : (∀ q, q < 6 → (if q = t then decide (rG abl bg base t 6 (gang 6 c q) = some v) else okq h s sq sa abl bg base q (gang 6 c q)) = true) ↔ vldT h s sq sa abl bg base t v c = true := by
    unfold vldT
    cases hr : rT abl bg base (dg c) 6 with
    | none =>
      obtain ⟨q, hq, h0⟩ := r2 hr
      constructor
      · intro hh
        have := hh q hq
        by_cases e : q = t
        · rw [if_pos e] at this
          have := of_decide_eq_true this
          rw [e] at h0 this
          rw [h0] at this; cases this
        · rw [if_neg e] at this
          unfold okq at this
          rw [h0] at this
          cases this
      · intro hh; cases hh
    | some tr =>
      have h0 := r1 tr hr
      show _ ↔ (fitT h s sq sa tr && (tr t == v)) = true
      rw [Bool.and_eq_true, fit_iff hsq]
      constructor
      · intro hh
        refine ⟨fun q hq => ?_, ?_⟩
        · by_cases e : q = t
          · rw [e]; exact hft _
          · have := hh q hq
            rw [if_neg e] at this
            unfold okq at this
            rw [h0 q hq] at this
            exact this
        · have := hh t ht
          rw [if_pos rfl] at this
          have := of_decide_eq_true this
          rw [h0 t ht] at this
          have := Option.some.inj this
          simpa using this
      · rintro ⟨h1, h2⟩ q hq
        by_cases e : q = t
        · rw [if_pos e]
          have h2 : tr t = v := by simpa using h2
          rw [e, h0 t ht, h2]
          simp
        · rw [if_neg e]
          unfold okq
          rw [h0 q hq]
          exact h1 q hq
  rw [six_all] at e
  by_cases cc : vldT h s sq sa abl bg base t v c = true
  · rw [if_pos cc]
    exact if_pos (e.mpr cc)
  · rw [if_neg cc]
    exact if_neg (fun w => cc (e.mp w))
theorem rG_le {abl : Nat → Nat → Bool} {bg base : Nat → Nat} {q g : Nat} : ∀ n a, rG abl bg base q n g = some a → a ≤ base q := by
  intro n
  induction n with
  | zero => intro a h; cases h; exact Nat.le_refl _
  | succ n ih =>
    intro a h
    have h : (if g.testBit n = true then (match rG abl bg base q n g with
      | none => none
      | some a => if (abl n q && decide (0 < a)) = true then some (a - min a (bg n)) else none) else rG abl bg base q n g) = some a := h
    by_cases c : g.testBit n = true
    · rw [if_pos c] at h
      cases hr : rG abl bg base q n g with
      | none => rw [hr] at h; cases h
      | some b =>
        rw [hr] at h
        have h : (if (abl n q && decide (0 < b)) = true then some (b - min b (bg n)) else none) = some a := h
        have := ih b hr
        by_cases c2 : (abl n q && decide (0 < b)) = true
        · rw [if_pos c2] at h; cases h; omega
        · rw [if_neg c2] at h; cases h
    · rw [if_neg c] at h
      exact ih a h
theorem shl2 (n : Nat) : 1 <<< n = 2 ^ n := by rw [Nat.shiftLeft_eq, Nat.one_mul]
theorem rG_top {abl : Nat → Nat → Bool} {bg base : Nat → Nat} {q n j : Nat} (hn : n < 6) (hj : j < 1 <<< n) : rG abl bg base q 6 (j ||| 1 <<< n) = (match rG abl bg base q 6 j with
    | none => none
    | some a => if (abl n q && decide (0 < a)) = true then some (a - min a (bg n)) else none) := by
  rw [shl2] at hj
  have hjb : ∀ k, n ≤ k → j.testBit k = false := fun k hk => Nat.testBit_lt_two_pow (Nat.lt_of_lt_of_le hj (Nat.pow_le_pow_right (by decide) hk))
  have e1 : rG abl bg base q 6 j = rG abl bg base q n j := by
    have := rG_up (abl := abl) (bg := bg) (base := base) (q := q) (g := j) (n := n) (6 - n) (fun k h1 _ => hjb k h1)
    rw [show n + (6 - n) = 6 by omega] at this
    exact this
  have e2 : rG abl bg base q 6 (j ||| 1 <<< n) = rG abl bg base q (n + 1) (j ||| 1 <<< n) := by
    have := rG_up (abl := abl) (bg := bg) (base := base) (q := q) (g := j ||| 1 <<< n) (n := n + 1) (6 - (n + 1)) (fun k h1 _ => by
      have e : ¬ n = k := by omega
      rw [tb_or, hjb k (by omega)]
      simp [e])
    rw [show n + 1 + (6 - (n + 1)) = 6 by omega] at this
    exact this
  have e3 : rG abl bg base q n (j ||| 1 <<< n) = rG abl bg base q n j := rG_c n (fun k hk => by
    have e : ¬ n = k := by omega
    rw [tb_or]
    simp [e])
  rw [e2, e1, ← e3]
  show (if (j ||| 1 <<< n).testBit n = true then _ else _) = _
  rw [if_pos (by rw [tb_or]; simp)]
  cases rG abl bg base q n (j ||| 1 <<< n) <;> rfl
/-! ===== the component's rows ===== -/
theorem anyU_front (P : Nat → Bool) : ∀ m, anyU P (m + 1) = (P 0 || anyU (fun j => P (j + 1)) m) := by
  intro m
  induction m with
  | zero => show (false || P 0) = (P 0 || false); cases P 0 <;> rfl
  | succ m ih =>
    show (anyU P (m + 1) || P (m + 1)) = (P 0 || (anyU (fun j => P (j + 1)) m || P (m + 1)))
    rw [ih, Bool.or_assoc]
theorem loop_any {body : Int32 → Option (Int32 ⊕ (Unit ⊕ Int32))} {s : Nat} {v : Int32} (P : Nat → Bool) (hb : ∀ i, i < s → body (nI i) = some (if P i = true then .inr (.inr v) else .inl (nI (i + 1)))) (he : body (nI s) = some (.inr (.inl ()))) : ∀ m i, i + m = s → ∀ fuel, m < fuel → loop body fuel (nI i) = some (if anyU (fun j => P (i + j)) m = true then .inr v else .inl ()) := by
  intro m
  induction m with
  | zero =>
    intro i hi fuel hf
    obtain ⟨f, rfl⟩ : ∃ f, fuel = f + 1 := ⟨fuel - 1, by omega⟩
    have hi : i = s := by omega
    subst hi
    rw [loop_ex he]
    rfl
  | succ m ih =>
    intro i hi fuel hf
    obtain ⟨f, rfl⟩ : ∃ f, fuel = f + 1 := ⟨fuel - 1, by omega⟩
    rw [anyU_front]
    have hbi := hb i (by omega)
    show _ = some (if (P i || anyU (fun j => P (i + (j + 1))) m) = true then (.inr v : Unit ⊕ Int32) else .inl ())
    by_cases c : P i = true
    · rw [if_pos c] at hbi
      rw [loop_ex hbi, c]
      rfl
    · rw [if_neg c] at hbi
      rw [loop_in hbi, ih (i + 1) (by omega) f (by omega)]
      have c : P i = false := by simpa using c
      rw [c]
      have e : (fun j => P (i + 1 + j)) = (fun j => P (i + (j + 1))) := funext (fun j => by rw [show i + 1 + j = i + (j + 1) by omega])
      rw [e]
      rfl
def SG (s : Nat) (sq sa : Nat → Nat) (V W : VW) : Prop := ∀ i, i < s → sq i < 6 ∧ sa i ≤ 99 ∧ V 6 i = nI (sq i) ∧ W 6 i = nI (sq i) ∧ V 7 i = nI (sa i) ∧ W 7 i = nI (sa i)
theorem SG_of {B h o d l f s : Nat} {ap bg hp rb : Nat → Nat} {V W : VW} (H : LM B h o d l f s ap bg hp rb V W) : ∃ sq sa, SG s sq sa V W := by
  have q5 := H.2.2.2.2.2
  have hc : ∀ i, ∃ z : Nat × Nat, i < s → z.1 < 6 ∧ z.2 ≤ 99 ∧ V 6 i = nI z.1 ∧ W 6 i = nI z.1 ∧ V 7 i = nI z.2 ∧ W 7 i = nI z.2 := by
    intro i
    by_cases hi : i < s
    · obtain ⟨q, a, x⟩ := q5 i hi
      exact ⟨(q, a), fun _ => x⟩
    · exact ⟨(0, 0), fun q => absurd q hi⟩
  exact ⟨fun i => (Classical.choose (hc i)).1, fun i => (Classical.choose (hc i)).2, fun i hi => Classical.choose_spec (hc i) hi⟩
theorem fits5 {B h o d l f s q a : Nat} {ap bg hp rb sq sa : Nat → Nat} {W : VW} {σ : St} (H : LM B h o d l f s ap bg hp rb (cv σ 1) W) (hS : ∀ i, i < s → sq i < 6 ∧ sa i ≤ 99 ∧ σ 7 i = nI (sq i) ∧ σ 8 i = nI (sa i)) (hq : q < 6) (ha : a ≤ 99) : f_X0_fitsSights 1 (nI q) (nI a) σ = some (b2 (fitq h s sq sa q a)) := by
  obtain ⟨⟨h1, -, -, -, -, h6⟩, ⟨e1, -, -, -, -, -, -, -, -, -, e11, -⟩, -⟩ := H
  have e1 : σ 1 8 = nI h := e1
  have e11 : σ 1 7 = nI s := e11
  have hl := loop_any (body := fun y => l_X0_fitsSights_2 1 (nI q) (nI a) σ y) (s := s) (v := 0) (fun i => (sq i == q) && (!h.testBit q || !(sa i == a))) (fun i hi => ?_) ?_ s 0 (by omega) 400 (by omega)
  · unfold f_X0_fitsSights
    have hl : loop (fun y => l_X0_fitsSights_2 1 (nI q) (nI a) σ y) 400 0 = some (if anyU (fun j => (sq (0 + j) == q) && (!h.testBit q || !(sa (0 + j) == a))) s = true then .inr 0 else .inl ()) := hl
    rw [hl, bnd_some]
    have e : (fun j => (sq (0 + j) == q) && (!h.testBit q || !(sa (0 + j) == a))) = (fun j => (sq j == q) && (!h.testBit q || !(sa j == a))) := funext (fun j => by rw [Nat.zero_add])
    rw [e]
    unfold fitq
    cases anyU (fun j => (sq j == q) && (!h.testBit q || !(sa j == a))) s <;> rfl
  · show l_X0_fitsSights_2 1 (nI q) (nI a) σ (nI i) = _
    obtain ⟨x1, x2, x3, x4⟩ := hS i hi
    unfold l_X0_fitsSights_2
    rw [e11, if_neg (nI_ge hi (by omega)), gi_in (by omega) (by decide), nI_clamp (by omega), show σ (1 + 6) i = nI (sq i) from x3, show σ (1 + 7) i = nI (sa i) from x4, has_in (b := 1) (σ := σ) h1 hq e1, bnd_some, gi_in (by omega) (by decide), nI_1]
    by_cases c1 : sq i = q
    · rw [if_neg (fun w => w (by rw [c1])), bnd_some, if_neg (by decide)]
      by_cases c2 : h.testBit q = true
      · rw [if_pos c2, if_neg (by decide)]
        by_cases c3 : sa i = a
        · rw [if_pos (by rw [c3])]
          simp [c1, c2, c3]
        · rw [if_neg (fun w => c3 ((nI_eq (by omega) (by omega)).mp w))]
          simp [c1, c2, c3]
      · rw [if_neg c2, if_pos rfl]
        simp [c1, c2]
    · rw [if_pos (fun w => c1 ((nI_eq (by omega) (by omega)).mp w)), bnd_some, if_pos rfl]
      simp [c1]
  · show l_X0_fitsSights_2 1 (nI q) (nI a) σ (nI s) = _
    unfold l_X0_fitsSights_2
    rw [e11, if_pos (Int32.le_refl _)]
theorem sight5 {B h o d l f s q : Nat} {ap bg hp rb sq sa : Nat → Nat} {W : VW} {σ : St} (H : LM B h o d l f s ap bg hp rb (cv σ 1) W) (hS : ∀ i, i < s → sq i < 6 ∧ sa i ≤ 99 ∧ σ 7 i = nI (sq i) ∧ σ 8 i = nI (sa i)) (hq : q < 6) : f_X0_hasSightOf 1 (nI q) σ = some (b2 (anyU (fun i => sq i == q) s)) := by
  obtain ⟨⟨h1, -, -, -, -, h6⟩, ⟨e1, -, -, -, -, -, -, -, -, -, e11, -⟩, -⟩ := H
  have e11 : σ 1 7 = nI s := e11
  have hl := loop_any (body := fun y => l_X0_hasSightOf_2 1 (nI q) σ y) (s := s) (v := 1) (fun i => sq i == q) (fun i hi => ?_) ?_ s 0 (by omega) 400 (by omega)
  · unfold f_X0_hasSightOf
    have hl : loop (fun y => l_X0_hasSightOf_2 1 (nI q) σ y) 400 0 = some (if anyU (fun j => sq (0 + j) == q) s = true then .inr 1 else .inl ()) := hl
    rw [hl, bnd_some]
    have e : (fun j => sq (0 + j) == q) = (fun j => sq j == q) := funext (fun j => by rw [Nat.zero_add])
    rw [e]
    cases anyU (fun j => sq j == q) s <;> rfl
  · show l_X0_hasSightOf_2 1 (nI q) σ (nI i) = _
    obtain ⟨x1, x2, x3, x4⟩ := hS i hi
    unfold l_X0_hasSightOf_2
    rw [e11, if_neg (nI_ge hi (by omega)), gi_in (by omega) (by decide), nI_clamp (by omega), show σ (1 + 6) i = nI (sq i) from x3, nI_1]
    by_cases c1 : sq i = q
    · rw [if_neg (fun w => w (by rw [c1]))]
      simp [c1]
    · rw [if_pos (fun w => c1 ((nI_eq (by omega) (by omega)).mp w))]
      simp [c1]
  · show l_X0_hasSightOf_2 1 (nI q) σ (nI s) = _
    unfold l_X0_hasSightOf_2
    rw [e11, if_pos (Int32.le_refl _)]
