/-! ===== the relation with its numbers; who can rob whom ===== -/
theorem andn_tab : ∀ x, x < 64 → ∀ y, y < 64 → (nI x &&& (nI y ^^^ (-1 : Int32))) = nI (x &&& (63 ^^^ y)) := by decide +kernel
theorem andn_lt {x y : Nat} (h : x < 64) : x &&& (63 ^^^ y) < 64 := Nat.lt_of_le_of_lt Nat.and_le_left h
theorem t63 : ∀ q, q < 6 → (63 : Nat).testBit q = true := by decide
theorem andn_tb {x y q : Nat} (hq : q < 6) : (x &&& (63 ^^^ y)).testBit q = (x.testBit q && !y.testBit q) := by
  rw [Nat.testBit_and, Nat.testBit_xor, t63 q hq]
  cases x.testBit q <;> cases y.testBit q <;> rfl
def LM (B h o d l f s : Nat) (ap bg hp rb : Nat → Nat) (V W : VW) : Prop := (h < 64 ∧ o < 64 ∧ d < 64 ∧ l < 64 ∧ f ≤ 30 ∧ s ≤ 8) ∧
  (V 0 8 = nI h ∧ W 0 8 = nI h ∧ V 0 9 = nI o ∧ W 0 9 = nI o ∧ V 0 10 = nI d ∧ W 0 10 = nI d ∧ V 0 11 = nI l ∧ W 0 11 = nI l ∧ V 0 12 = nI f ∧ W 0 12 = nI f ∧ V 0 7 = nI s ∧ W 0 7 = nI s) ∧
  ((∀ k, o.testBit k = true → h.testBit k = true) ∧ (∀ k, d.testBit k = true → h.testBit k = true) ∧ (∀ k, l.testBit k = true → h.testBit k = true)) ∧
  (∀ k, k < 6 → h.testBit k = true → (ap k ≤ 99 ∧ 1 ≤ bg k ∧ bg k ≤ 20 ∧ hp k ≤ B ∧ rb k < 64) ∧ (V 1 k = nI (ap k) ∧ W 1 k = nI (ap k)) ∧ (V 2 k = nI (bg k) ∧ W 2 k = nI (bg k)) ∧ (V 3 k = nI (hp k) ∧ W 3 k = nI (hp k)) ∧ (V 4 k = nI (rb k) ∧ W 4 k = nI (rb k)) ∧ (o.testBit k = true → W 5 k = V 5 k ∧ (V 5 k = -6 ∨ ∃ q : Nat, q < 6 ∧ V 5 k = nI q ∧ h.testBit q = true))) ∧
  (∀ k, k < 6 → h.testBit k = false → V 1 k = 0 ∧ V 2 k = 0 ∧ V 3 k = 0 ∧ V 4 k = 0 ∧ ∃ a : Nat, a ≤ 99 ∧ W 1 k = nI a) ∧
  (∀ i, i < s → ∃ q a : Nat, q < 6 ∧ a ≤ 99 ∧ V 6 i = nI q ∧ W 6 i = nI q ∧ V 7 i = nI a ∧ W 7 i = nI a)
theorem LM_LR {B h o d l f s : Nat} {ap bg hp rb : Nat → Nat} {V W : VW} (H : LM B h o d l f s ap bg hp rb V W) : LR B V W := by
  obtain ⟨⟨h1, h2, h3, h4, h5, h6⟩, ⟨e1, e2, e3, e4, e5, e6, e7, e8, e9, e10, e11, e12⟩, ⟨q1, q2, q3⟩, p1, p2, q5⟩ := H
  refine ⟨h, o, d, l, f, s, h1, h2, h3, h4, h5, h6, e1, e2, e3, e4, e5, e6, e7, e8, e9, e10, e11, e12, q1, q2, q3, fun k hk => ⟨fun hb => ?_, p2 k hk⟩, q5⟩
  obtain ⟨⟨x1, x2, x3, x4, x5⟩, ⟨y1, y2⟩, ⟨y3, y4⟩, ⟨y5, y6⟩, ⟨y7, y8⟩, z⟩ := p1 k hk hb
  exact ⟨ap k, bg k, hp k, rb k, x1, x2, x3, x4, x5, y1, y2, y3, y4, y5, y6, y7, y8, z⟩
theorem LR_LM {B : Nat} {V W : VW} (H : LR B V W) : ∃ (h o d l f s : Nat) (ap bg hp rb : Nat → Nat), LM B h o d l f s ap bg hp rb V W := by
  obtain ⟨h, o, d, l, f, s, h1, h2, h3, h4, h5, h6, e1, e2, e3, e4, e5, e6, e7, e8, e9, e10, e11, e12, q1, q2, q3, q4, q5⟩ := H
  have hc : ∀ k, ∃ z : Nat × Nat × Nat × Nat, k < 6 → h.testBit k = true → (z.1 ≤ 99 ∧ 1 ≤ z.2.1 ∧ z.2.1 ≤ 20 ∧ z.2.2.1 ≤ B ∧ z.2.2.2 < 64) ∧ (V 1 k = nI z.1 ∧ W 1 k = nI z.1) ∧ (V 2 k = nI z.2.1 ∧ W 2 k = nI z.2.1) ∧ (V 3 k = nI z.2.2.1 ∧ W 3 k = nI z.2.2.1) ∧ (V 4 k = nI z.2.2.2 ∧ W 4 k = nI z.2.2.2) ∧ (o.testBit k = true → W 5 k = V 5 k ∧ (V 5 k = -6 ∨ ∃ q : Nat, q < 6 ∧ V 5 k = nI q ∧ h.testBit q = true)) := by
    intro k
    by_cases hk : k < 6
    · by_cases hb : h.testBit k = true
      · obtain ⟨a, bg, hp, rb, x1, x2, x3, x4, x5, y1, y2, y3, y4, y5, y6, y7, y8, z⟩ := (q4 k hk).1 hb
        exact ⟨(a, bg, hp, rb), fun _ _ => ⟨⟨x1, x2, x3, x4, x5⟩, ⟨y1, y2⟩, ⟨y3, y4⟩, ⟨y5, y6⟩, ⟨y7, y8⟩, z⟩⟩
      · exact ⟨(0, 0, 0, 0), fun _ q => absurd q hb⟩
    · exact ⟨(0, 0, 0, 0), fun q => absurd q hk⟩
  exact ⟨h, o, d, l, f, s, fun k => (Classical.choose (hc k)).1, fun k => (Classical.choose (hc k)).2.1, fun k => (Classical.choose (hc k)).2.2.1, fun k => (Classical.choose (hc k)).2.2.2, ⟨h1, h2, h3, h4, h5, h6⟩, ⟨e1, e2, e3, e4, e5, e6, e7, e8, e9, e10, e11, e12⟩, ⟨q1, q2, q3⟩, fun k hk hb => Classical.choose_spec (hc k) hk hb, fun k hk => (q4 k hk).2, q5⟩
/-- why one can not rob another one: the number of the reason -/
def RB (h o d l f : Nat) (ap rb : Nat → Nat) (k q : Nat) : Nat := if (h.testBit k && h.testBit q) = false then 1 else if k = q then 2 else if (rb k).testBit q = true then 3 else if o.testBit k = true then 4 else if (d.testBit q && !l.testBit q) = true then 5 else if ap q = 0 then 6 else if f = 0 then 7 else 0
def MRb (h d l : Nat) (ap rb : Nat → Nat) (k q : Nat) : Bool := h.testBit k && h.testBit q && !decide (k = q) && !(rb k).testBit q && !(d.testBit q && !l.testBit q) && !decide (ap q = 0)
theorem guard_in {b d l q : Nat} {σ : St} (hd : d < 64) (hl : l < 64) (hq : q < 6) (e5 : σ b 10 = nI d) (e7 : σ b 11 = nI l) : f_X0_isGuarded b (nI q) σ = some (if (d.testBit q && !l.testBit q) = true then 1 else 0) := by
  unfold f_X0_isGuarded
  rw [e5, e7, andn_tab d hd l hl]
  have ht := (has_tab _ (andn_lt (y := l) hd) q hq).1
  rw [andn_tb hq] at ht
  by_cases hb : (d.testBit q && !l.testBit q) = true
  · rw [if_neg (fun z => by rw [ht.mp z] at hb; cases hb), if_pos hb]
  · rw [if_pos (ht.mpr (by simpa using hb)), if_neg hb]
theorem robBar_eq {B h o d l f s b k q : Nat} {ap bg hp rb : Nat → Nat} {W : VW} {σ : St} (H : LM B h o d l f s ap bg hp rb (cv σ b) W) (hk : k < 6) (hq : q < 6) : f_X0_robBar b (nI k) (nI q) σ = some (nI (RB h o d l f ap rb k q)) := by
  obtain ⟨⟨h1, h2, h3, h4, h5, h6⟩, ⟨e1, e2, e3, e4, e5, e6, e7, e8, e9, e10, e11, e12⟩, -, p1, -, -⟩ := H
  have hkc : (nI k).toNatClampNeg = k := nI_clamp (by omega)
  have hqc : (nI q).toNatClampNeg = q := nI_clamp (by omega)
  unfold f_X0_robBar RB
  rw [has_in (b := b) (σ := σ) h1 hk e1, has_in (b := b) (σ := σ) h1 hq e1, bnd_some, bnd_some]
  by_cases b1 : h.testBit k = true
  · by_cases b2 : h.testBit q = true
    · obtain ⟨⟨x1, x2, x3, x4, x5⟩, ⟨y1, -⟩, -, -, ⟨y7, -⟩, -⟩ := p1 k hk b1
      obtain ⟨⟨u1, u2, u3, u4, u5⟩, ⟨v1, -⟩, -, -, ⟨v7, -⟩, -⟩ := p1 q hq b2
      have y7 : σ (b + 4) k = nI (rb k) := y7
      have v1 : σ (b + 1) q = nI (ap q) := v1
      rw [if_pos b1, if_pos b2, if_neg (by decide), if_pos (by decide), b1, b2, if_neg (show ¬ ((true && true) = false) by decide)]
      by_cases c : k = q
      · rw [if_neg (fun z => z (by rw [c])), if_pos c]; rfl
      · have c' : ¬ nI k = nI q := fun z => c ((nI_eq (by omega) (by omega)).mp z)
        rw [if_pos c', if_neg c, gi_in hk (by decide), hkc, y7, holds_in x5 hq, bnd_some]
        by_cases c3 : (rb k).testBit q = true
        · rw [if_pos c3, if_neg (by decide), if_pos c3]; rfl
        · rw [if_neg c3, if_pos rfl, if_neg c3, show σ b 9 = nI o from e3, holds_in h2 hk, bnd_some]
          by_cases c4 : o.testBit k = true
          · rw [if_pos c4, if_neg (by decide), if_pos c4]; rfl
          · rw [if_neg c4, if_pos rfl, if_neg c4, guard_in (b := b) (σ := σ) h3 h4 hq e5 e7, bnd_some]
            by_cases c5 : (d.testBit q && !l.testBit q) = true
            · rw [if_pos c5, if_neg (by decide), if_pos c5]; rfl
            · rw [if_neg c5, if_pos rfl, if_neg c5, gi_in hq (by decide), hqc, v1, show σ b 12 = nI f from e9]
              by_cases c6 : ap q = 0
              · rw [if_pos c6, if_neg (fun z => z (by rw [c6]; rfl))]; rfl
              · rw [if_neg c6, if_pos (nI_ne0 (by omega) (by omega))]
                by_cases c7 : f = 0
                · rw [if_pos c7, if_neg (fun z => z (by rw [c7]; rfl))]; rfl
                · rw [if_neg c7, if_pos (nI_ne0 (by omega) (by omega))]; rfl
    · rw [if_pos b1, if_neg b2, if_neg (by decide), if_neg (by decide)]
      have : h.testBit q = false := by simpa using b2
      rw [this, if_pos (by simp)]; rfl
  · rw [if_neg b1, if_pos rfl]
    have : h.testBit k = false := by simpa using b1
    rw [this, if_pos (by simp)]; rfl
/-- the reference's bar, in the picture of now -/
def BR (h d l : Nat) (ap rb : Nat → Nat) (k q : Nat) : Nat := if (h.testBit k && h.testBit q) = false then 1 else if k = q then 2 else if (rb k).testBit q = true then 3 else if (d.testBit q && !l.testBit q) = true then 5 else if ap q = 0 then 6 else 0
theorem bar_eq {B h o d l f s k q : Nat} {ap bg hp rb : Nat → Nat} {V : VW} {τ : St} (H : LM B h o d l f s ap bg hp rb V (nv τ)) (hk : k < 6) (hq : q < 6) : f_X6_bar (nI k) (nI q) τ = some (nI (BR h d l ap rb k q)) := by
  obtain ⟨⟨h1, h2, h3, h4, h5, h6⟩, ⟨e1, e2, e3, e4, e5, e6, e7, e8, e9, e10, e11, e12⟩, -, p1, -, -⟩ := H
  have hkc : (nI k).toNatClampNeg = k := nI_clamp (by omega)
  have hqc : (nI q).toNatClampNeg = q := nI_clamp (by omega)
  unfold f_X6_bar BR
  rw [isT_in (σ := τ) h1 hk e2, isT_in (σ := τ) h1 hq e2, bnd_some, bnd_some]
  by_cases b1 : h.testBit k = true
  · by_cases b2 : h.testBit q = true
    · obtain ⟨⟨x1, x2, x3, x4, x5⟩, -, -, -, ⟨-, y8⟩, -⟩ := p1 k hk b1
      obtain ⟨⟨u1, u2, u3, u4, u5⟩, ⟨-, v2⟩, -, -, -, -⟩ := p1 q hq b2
      have y8 : τ 39 k = nI (rb k) := y8
      have v2 : τ 37 q = nI (ap q) := v2
      rw [if_pos b1, if_pos b2, if_neg (by decide), if_pos (by decide), b1, b2, if_neg (show ¬ ((true && true) = false) by decide)]
      by_cases c : k = q
      · rw [if_neg (fun z => z (by rw [c])), if_pos c]; rfl
      · have c' : ¬ nI k = nI q := fun z => c ((nI_eq (by omega) (by omega)).mp z)
        have fin : (gi (nI q) 6 (if ¬ (τ 37 (nI q).toNatClampNeg) = 0 then (some (0 : Int32)) else (some (6)))) = some (nI (if ap q = 0 then 6 else 0)) := by
          rw [gi_in hq (by decide), hqc, v2]
          by_cases c6 : ap q = 0
          · rw [if_pos c6, if_neg (fun z => z (by rw [c6]; rfl))]; rfl
          · rw [if_neg c6, if_pos (nI_ne0 (by omega) (by omega))]; rfl
        rw [if_pos c', if_neg c, gi_in hk (by decide), hkc, y8, mhas_in x5 hq, bnd_some]
        by_cases c3 : (rb k).testBit q = true
        · rw [if_pos c3, if_neg (by decide), if_pos c3]; rfl
        · rw [if_neg c3, if_pos rfl, if_neg c3, show τ 29 19 = nI d from e6, mhas_in h3 hq, bnd_some, show τ 29 20 = nI l from e8, mhas_in h4 hq, bnd_some, fin]
          by_cases c5 : d.testBit q = true
          · rw [if_pos c5, if_neg (by decide), c5]
            by_cases c6 : l.testBit q = true
            · rw [if_pos c6, if_pos (by decide), c6]; rfl
            · have c6 : l.testBit q = false := by simpa using c6
              rw [c6]; rfl
          · have c5 : d.testBit q = false := by simpa using c5
            rw [c5]; rfl
    · rw [if_pos b1, if_neg b2, if_neg (by decide), if_neg (by decide)]
      have : h.testBit q = false := by simpa using b2
      rw [this, if_pos (by simp)]; rfl
  · rw [if_neg b1, if_pos rfl]
    have : h.testBit k = false := by simpa using b1
    rw [this, if_pos (by simp)]; rfl
theorem whyNot_eq {B h o d l f s k q : Nat} {ap bg hp rb : Nat → Nat} {V : VW} {τ : St} (H : LM B h o d l f s ap bg hp rb V (nv τ)) (hk : k < 6) (hq : q < 6) : f_X6_whyNot (nI k) (nI q) τ = some (nI (RB h o d l f ap rb k q)) := by
  have hbar := bar_eq H hk hq
  obtain ⟨⟨h1, h2, h3, h4, h5, h6⟩, ⟨e1, e2, e3, e4, e5, e6, e7, e8, e9, e10, e11, e12⟩, -, p1, -, -⟩ := H
  unfold f_X6_whyNot
  rw [hbar, bnd_some, show τ 29 18 = nI o from e4, mhas_in h2 hk, bnd_some, show τ 29 21 = nI f from e10]
  unfold BR RB
  have ff : (if ¬ nI f = 0 then some (0 : Int32) else some 7) = some (nI (if f = 0 then 7 else 0)) := by
    by_cases c7 : f = 0
    · rw [if_pos c7, if_neg (fun z => z (by rw [c7]; rfl))]; rfl
    · rw [if_neg c7, if_pos (nI_ne0 (by omega) (by omega))]; rfl
  by_cases c1 : (h.testBit k && h.testBit q) = false
  · simp only [if_pos c1]; rfl
  · simp only [if_neg c1]
    by_cases c2 : k = q
    · simp only [if_pos c2]; rfl
    · simp only [if_neg c2]
      by_cases c3 : (rb k).testBit q = true
      · simp only [if_pos c3]; rfl
      · simp only [if_neg c3]
        by_cases c4 : o.testBit k = true
        · simp only [if_pos c4]
          by_cases c5 : (d.testBit q && !l.testBit q) = true
          · simp only [if_pos c5]; rfl
          · simp only [if_neg c5]
            by_cases c6 : ap q = 0
            · simp only [if_pos c6]; rfl
            · simp only [if_neg c6]; rfl
        · simp only [if_neg c4]
          by_cases c5 : (d.testBit q && !l.testBit q) = true
          · simp only [if_pos c5]; rfl
          · simp only [if_neg c5]
            by_cases c6 : ap q = 0
            · simp only [if_pos c6]; rfl
            · simp only [if_neg c6]
              rw [if_pos (by decide), if_pos trivial, if_pos (by decide)]
              exact ff
