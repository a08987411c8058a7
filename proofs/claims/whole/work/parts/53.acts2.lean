/-! ===== the other acts ===== -/
theorem has_neg {σ : St} {b : Nat} : f_X0_has b (-6) σ = some 0 := has_out (Or.inl (by decide))
def gbC (σ : St) (q k : Nat) (x3 x1 : Int32) : St := up2 (up2 σ 12 k x3) 10 q x1
def gbM (τ : St) (q k : Nat) (x3 x1 : Int32) : St := up2 (up2 τ 38 k x3) 37 q x1
theorem catch_LM {B h o d l f s k q x y : Nat} {ap bg hp rb : Nat → Nat} {σ τ : St} (H : LM B h o d l f s ap bg hp rb (cv σ 9) (nv τ)) (hbk : h.testBit k = true) (hbq : h.testBit q = true) (hx : x ≤ B) (hy : y ≤ 99) : LM B h o d l f s (updN ap q y) bg (updN hp k x) rb (cv (gbC σ q k (nI x) (nI y)) 9) (nv (gbM τ q k (nI x) (nI y))) := by
  obtain ⟨⟨h1, h2, h3, h4, h5, h6⟩, ⟨v1, v2, v3, v4, v5, v6, v7, v8, v9, v10, v11, v12⟩, ⟨q1, q2, q3⟩, p1, p2, q5⟩ := id H
  refine LM_act H ⟨h2, h3, h4, h5⟩ ⟨rfl, rfl, rfl, rfl⟩ ⟨v3, v4, v5, v6, v7, v8, v9, v10⟩ ⟨q1, q2, q3⟩ (fun j hj => ⟨rfl, rfl⟩) (fun j => ⟨⟨rfl, rfl⟩, ⟨rfl, rfl⟩⟩) (fun j hj hb => ?_) (fun j hj hb => ?_)
  · obtain ⟨⟨z1, z2, z3, z4, z5⟩, ⟨a1, a2⟩, -, ⟨b1, b2⟩, ⟨c1, c2⟩, dd⟩ := p1 j hj hb
    refine ⟨⟨?_, ?_, z5⟩, ⟨?_, ?_⟩, ⟨?_, ?_⟩, ⟨c1, c2⟩, dd⟩
    · unfold updN; split <;> omega
    · unfold updN; split <;> omega
    · refine (up2_at (up2 σ 12 k (nI x)) 10 q j _).trans ?_
      unfold updN
      by_cases c : j = q
      · rw [if_pos c, if_pos c]
      · rw [if_neg c, if_neg c]; exact a1
    · refine (up2_at (up2 τ 38 k (nI x)) 37 q j _).trans ?_
      unfold updN
      by_cases c : j = q
      · rw [if_pos c, if_pos c]
      · rw [if_neg c, if_neg c]; exact a2
    · refine (up2_at σ 12 k j _).trans ?_
      unfold updN
      by_cases c : j = k
      · rw [if_pos c, if_pos c]
      · rw [if_neg c, if_neg c]; exact b1
    · refine (up2_at τ 38 k j _).trans ?_
      unfold updN
      by_cases c : j = k
      · rw [if_pos c, if_pos c]
      · rw [if_neg c, if_neg c]; exact b2
  · obtain ⟨a1, a2, a3, a4, a, a5, a6⟩ := p2 j hj hb
    have nq : j ≠ q := fun z => by rw [z, hbq] at hb; cases hb
    have nk : j ≠ k := fun z => by rw [z, hbk] at hb; cases hb
    refine ⟨?_, ?_, a4, a, a5, ?_⟩
    · refine (up2_at (up2 σ 12 k (nI x)) 10 q j _).trans ?_
      rw [if_neg nq]; exact a1
    · refine (up2_at σ 12 k j _).trans ?_
      rw [if_neg nk]; exact a3
    · refine (up2_at (up2 τ 38 k (nI x)) 37 q j _).trans ?_
      rw [if_neg nq]; exact a6
theorem a_catch {B k : Nat} {z : Int32} {σ τ : St} (hB : B < 2 ^ 30) (hL : LR B (cv σ 9) (nv τ)) (hk : k < 6) : ActR B σ τ (f_X0_tryAct 9 33 (nI k) z σ) (f_X6_act (nI k) 33 τ) := by
  obtain ⟨h, o, d, l, f, s, ap, bg, hp, rb, H⟩ := LR_LM hL
  obtain ⟨⟨h1, h2, h3, h4, h5, h6⟩, ⟨v1, v2, v3, v4, v5, v6, v7, v8, v9, v10, v11, v12⟩, ⟨q1, q2, q3⟩, p1, p2, q5⟩ := id H
  have hh5 := has_in (b := 9) (σ := σ) h1 hk v1
  have hh6 := isT_in (σ := τ) h1 hk v2
  have ho5 : f_X0_holds (σ 9 9) (nI k) = _ := (congrArg (fun w => f_X0_holds w (nI k)) v3).trans (holds_in h2 hk)
  have ho6 : f_X6_has (τ 29 18) (nI k) = _ := (congrArg (fun w => f_X6_has w (nI k)) v4).trans (mhas_in h2 hk)
  have hkc : (nI k).toNatClampNeg = k := nI_clamp (by omega)
  have hl : f_X6_isLetter 33 = some 0 := by decide
  have E5 : ∀ X, (Option.bind (f_X0_catchBar 9 (nI k) σ) (fun r1 => if r1 = 0 then Option.bind (f_X0_giveBack 9 (nI k) (σ 14 k) σ) (fun r4 => some ((0 : Int32), r4)) else some (r1, σ))) = X → f_X0_tryAct 9 33 (nI k) z σ = X := by
    intro X hX
    rw [← hX]
    unfold f_X0_tryAct f_X0_actBar
    rw [if_neg (show ¬ (33 : Int32) = 0 by decide), if_pos (show (33 : Int32) = 33 from rfl), gi_in hk (by decide), hkc]
    cases f_X0_catchBar 9 (nI k) σ with
    | none => rfl
    | some r =>
      show (if r = 0 then _ else _) = (if r = 0 then _ else _)
      by_cases hr : r = 0
      · rw [if_pos hr, if_pos hr]
        cases f_X0_giveBack 9 (nI k) (σ 14 k) σ with
        | none => rfl
        | some t => rfl
      · rw [if_neg hr, if_neg hr]
  have E6 : ∀ X, (Option.bind (f_X6_whyNotCaught (nI k) τ) (fun r9 => if ¬ r9 = 0 then (some (r9, τ)) else (Option.bind (f_X6_caughtNow (nI k) τ) (fun r10 => some (r9, r10))))) = X → f_X6_act (nI k) 33 τ = X := by
    intro X hX
    rw [← hX]
    unfold f_X6_act
    rw [hl, bnd_some, if_pos rfl, if_neg (fun w => w rfl)]
    generalize Option.bind (f_X6_whyNotCaught (nI k) τ) _ = Y
    cases Y <;> rfl
  by_cases hbk : h.testBit k = true
  rotate_left
  · rw [if_neg hbk] at hh5 hh6
    refine act_none hL (w := 1) (by decide) (E5 _ ?_) (E6 _ ?_)
    · unfold f_X0_catchBar; rw [hh5]; rfl
    · unfold f_X6_whyNotCaught; rw [hh6]; rfl
  rw [if_pos hbk] at hh5 hh6
  by_cases hok : o.testBit k = true
  rotate_left
  · rw [if_neg hok] at ho5 ho6
    refine act_none hL (w := 8) (by decide) (E5 _ ?_) (E6 _ ?_)
    · unfold f_X0_catchBar; rw [hh5, bnd_some, if_pos (by decide), ho5]; rfl
    · unfold f_X6_whyNotCaught; rw [hh6, bnd_some, if_pos (by decide), ho6]; rfl
  rw [if_pos hok] at ho5 ho6
  obtain ⟨⟨xa, -, -, xh, xr⟩, -, -, ⟨yh5, yh6⟩, -, dd⟩ := p1 k hk hbk
  obtain ⟨d1, d2⟩ := dd hok
  have d1 : τ 40 k = σ 14 k := d1
  have d2 : σ 14 k = -6 ∨ ∃ q : Nat, q < 6 ∧ σ 14 k = nI q ∧ h.testBit q = true := d2
  have yh5 : σ 12 k = nI (hp k) := yh5
  have yh6 : τ 38 k = nI (hp k) := yh6
  rcases d2 with d2 | ⟨q, hq, d2, hbq⟩
  · refine act_none hL (w := 8) (by decide) (E5 _ ?_) (E6 _ ?_)
    · unfold f_X0_catchBar; rw [hh5, bnd_some, if_pos (by decide), ho5, bnd_some, if_neg (by decide), gi_in hk (by decide), hkc, show σ (9 + 5) k = -6 from d2, has_neg]; rfl
    · unfold f_X6_whyNotCaught; rw [hh6, bnd_some, if_pos (by decide), ho6, bnd_some, if_neg (by decide), gi_in hk (by decide), hkc, d1, d2]; rfl
  obtain ⟨⟨xq, -⟩, ⟨ya5, ya6⟩, -⟩ := p1 q hq hbq
  have ya5 : σ 10 q = nI (ap q) := ya5
  have ya6 : τ 37 q = nI (ap q) := ya6
  have hhq := has_in (b := 9) (σ := σ) h1 hq v1
  rw [if_pos hbq] at hhq
  have hqc : (nI q).toNatClampNeg = q := nI_clamp (by omega)
  have LMx := catch_LM (x := hp k - min 9 (hp k)) (y := min 99 (ap q + min 9 (hp k))) H hbk hbq (by omega) (by omega)
  refine ⟨0, gbC σ q k (nI (hp k - min 9 (hp k))) (nI (min 99 (ap q + min 9 (hp k)))), gbM τ q k (nI (hp k - min 9 (hp k))) (nI (min 99 (ap q + min 9 (hp k)))), by decide, E5 _ ?_, E6 _ ?_, LR_mono (by omega) (LM_LR LMx), ?_, ?_⟩
  · unfold f_X0_catchBar
    rw [hh5, bnd_some, if_pos (by decide), ho5, bnd_some, if_neg (by decide), gi_in hk (by decide), hkc, show σ (9 + 5) k = nI q from d2, hhq, bnd_some, if_neg (by decide), bnd_some, if_pos rfl]
    unfold f_X0_giveBack
    simp only [gi_in hk (show 6 < 2 ^ 31 by decide), gi_in hq (show 6 < 2 ^ 31 by decide), nm_eq, hkc, hqc, bnd_some]
    rw [show σ (9 + 3) k = nI (hp k) from yh5, show jmin 9 (nI (hp k)) = nI (min 9 (hp k)) from jmin_n (a := 9) (by decide) (by omega), pk_sub (Nat.min_le_right _ _), show up2 σ (9 + 3) k (nI (hp k - min 9 (hp k))) (9 + 1) q = nI (ap q) from ya5, nI_add, show jmin 99 (nI (ap q + min 9 (hp k))) = nI (min 99 (ap q + min 9 (hp k))) from jmin_n (a := 99) (by decide) (by omega)]
    rfl
  · unfold f_X6_whyNotCaught
    rw [hh6, bnd_some, if_pos (by decide), ho6, bnd_some, if_neg (by decide), gi_in hk (by decide), hkc, d1, d2, if_pos (show (0 : Int32) ≤ nI q from nI_le (a := 0) (by omega) (by omega)), bnd_some, if_neg (fun w => w rfl)]
    unfold f_X6_caughtNow
    simp only [gi_in hk (show 6 < 2 ^ 31 by decide), nm_eq, hkc, d1, d2, gi_in hq (show 6 < 2 ^ 31 by decide), hqc, yh6]
    have hj : (if (9 : Int32) ≤ nI (hp k) then some (9 : Int32) else some (nI (hp k))) = some (nI (min 9 (hp k))) := by
      by_cases c : 9 ≤ hp k
      · rw [if_pos (show (9 : Int32) ≤ nI (hp k) from nI_le (a := 9) c (by omega)), Nat.min_eq_left c]; rfl
      · rw [if_neg (show ¬ (9 : Int32) ≤ nI (hp k) from nI_ge (b := 9) (by omega) (by decide)), Nat.min_eq_right (by omega)]
    rw [hj, bnd_some, pk_sub (Nat.min_le_right _ _), show up2 τ 38 k (nI (hp k - min 9 (hp k))) 37 q = nI (ap q) from ya6, nI_add]
    have hj3 : (if nI (ap q + min 9 (hp k)) ≤ 99 then some (nI (ap q + min 9 (hp k))) else some (99 : Int32)) = some (nI (min 99 (ap q + min 9 (hp k)))) := by
      by_cases c : ap q + min 9 (hp k) ≤ 99
      · rw [if_pos (show nI (ap q + min 9 (hp k)) ≤ 99 from nI_le (b := 99) c (by decide)), Nat.min_eq_right c]
      · rw [if_neg (show ¬ nI (ap q + min 9 (hp k)) ≤ 99 from nI_ge (a := 99) (by omega) (by omega)), Nat.min_eq_left (by omega)]; rfl
    rw [hj3]
    rfl
  · intro c j hc
    unfold gbC
    rw [up2_out (by omega), up2_out (by omega)]
  · intro c j hc1 hc2
    unfold gbM
    rw [up2_out (by omega), up2_out (by omega)]
theorem xor_tab : ∀ h, h < 64 → ∀ k, k < 6 → (nI h ^^^ ((1 : Int32) <<< (nI k &&& 31))) = nI (h ^^^ 1 <<< k) ∧ h ^^^ 1 <<< k < 64 := by decide +kernel
theorem tb_xor {h k j : Nat} : (h ^^^ 1 <<< k).testBit j = (h.testBit j ^^ decide (k = j)) := by
  rw [Nat.testBit_xor, Nat.shiftLeft_eq, Nat.one_mul, Nat.testBit_two_pow]
theorem xor_sub {h l k : Nat} (q : ∀ j, l.testBit j = true → h.testBit j = true) (hb : h.testBit k = true) : ∀ j, (l ^^^ 1 <<< k).testBit j = true → h.testBit j = true := by
  intro j hj
  rw [tb_xor] at hj
  by_cases c : k = j
  · rw [← c]; exact hb
  · simp [c] at hj; exact q j hj
theorem xor0 (x : Int32) : x ^^^ 0 = x := by simp
theorem up2_self (σ : St) (c k : Nat) : up2 σ c k (σ c k) = σ := by
  funext c' k'
  by_cases h : c' = c
  · subst h
    rw [up2_at]
    by_cases hk : k' = k
    · rw [if_pos hk, hk]
    · rw [if_neg hk]
  · rw [up2_out h]
theorem a_lamp {B k : Nat} {z : Int32} {σ τ : St} (hL : LR B (cv σ 9) (nv τ)) (hk : k < 6) : ActR B σ τ (f_X0_tryAct 9 42 (nI k) z σ) (f_X6_act (nI k) 42 τ) := by
  obtain ⟨h, o, d, l, f, s, ap, bg, hp, rb, H⟩ := LR_LM hL
  obtain ⟨⟨h1, h2, h3, h4, h5, h6⟩, ⟨v1, v2, v3, v4, v5, v6, v7, v8, v9, v10, v11, v12⟩, ⟨q1, q2, q3⟩, p1, p2, q5⟩ := id H
  have hh5 := has_in (b := 9) (σ := σ) h1 hk v1
  have hh6 := isT_in (σ := τ) h1 hk v2
  have hl : f_X6_isLetter 42 = some 0 := by decide
  by_cases hbk : h.testBit k = true
  · rw [if_pos hbk] at hh5 hh6
    have LMx : LM B h o d (l ^^^ 1 <<< k) f s ap bg hp rb (cv (up2 σ 9 11 (nI (l ^^^ 1 <<< k))) 9) (nv (up2 τ 29 20 (nI (l ^^^ 1 <<< k)))) := LM_act H ⟨h2, h3, (xor_tab l h4 k hk).2, h5⟩ ⟨rfl, rfl, rfl, rfl⟩ ⟨v3, v4, v5, v6, rfl, rfl, v9, v10⟩ ⟨q1, q2, xor_sub q3 hbk⟩ (fun j hj => ⟨rfl, rfl⟩) (fun j => ⟨⟨rfl, rfl⟩, ⟨rfl, rfl⟩⟩) (fun j hj hb => by
        obtain ⟨⟨z1, z2, z3, z4, z5⟩, a, -, b, c, dd⟩ := p1 j hj hb
        exact ⟨⟨z1, z4, z5⟩, a, b, c, dd⟩) (fun j hj hb => by
        obtain ⟨a1, a2, a3, a4, a⟩ := p2 j hj hb
        exact ⟨a1, a3, a4, a⟩)
    refine ⟨0, up2 σ 9 11 (nI (l ^^^ 1 <<< k)), up2 τ 29 20 (nI (l ^^^ 1 <<< k)), by decide, ?_, ?_, LR_mono (by omega) (LM_LR LMx), ?_, ?_⟩
    · unfold f_X0_tryAct f_X0_actBar
      rw [if_neg (show ¬ (42 : Int32) = 0 by decide), if_neg (show ¬ (42 : Int32) = 33 by decide), if_neg (show ¬ (42 : Int32) = 36 by decide), if_neg (show ¬ (42 : Int32) = 46 by decide), hh5, bnd_some, if_neg (by decide), bnd_some, if_pos rfl, if_neg (show ¬ (42 : Int32) = 0 by decide), if_neg (show ¬ (42 : Int32) = 33 by decide), if_pos rfl, nm_eq, show σ 9 11 = nI l from v7, (xor_tab l h4 k hk).1]
      rfl
    · unfold f_X6_act
      rw [hl, bnd_some, if_pos rfl, if_pos (by decide), hh6, bnd_some, if_neg (by decide), bnd_some, if_neg (fun w => w rfl), if_neg (fun w => w rfl), bnd_some, nm_eq, if_neg (fun w => w rfl), if_pos (by decide), bnd_some, nm_eq, xor0, up2_self, bnd_some, show τ 29 20 = nI l from v8, (xor_tab l h4 k hk).1]
      rfl
    · intro c j hc
      rw [up2_out (by omega)]
    · intro c j hc1 hc2
      by_cases h29 : c = 29
      · subst h29; rw [up2_k _ _ _ _ _ (by omega)]
      · rw [up2_out h29]
  · rw [if_neg hbk] at hh5 hh6
    refine act_none hL (w := 1) (by decide) ?_ ?_
    · unfold f_X0_tryAct f_X0_actBar
      rw [if_neg (show ¬ (42 : Int32) = 0 by decide), if_neg (show ¬ (42 : Int32) = 33 by decide), if_neg (show ¬ (42 : Int32) = 36 by decide), if_neg (show ¬ (42 : Int32) = 46 by decide), hh5]
      rfl
    · unfold f_X6_act
      rw [hl, bnd_some, if_pos rfl, if_pos (by decide), hh6, bnd_some, if_pos rfl, bnd_some, if_pos (by decide), bnd_some, nm_eq, xor0, up2_self, if_pos (by decide), bnd_some, nm_eq, xor0, up2_self]
      rfl
theorem a_dog {B k : Nat} {z : Int32} {σ τ : St} (hL : LR B (cv σ 9) (nv τ)) (hk : k < 6) : ActR B σ τ (f_X0_tryAct 9 126 (nI k) z σ) (f_X6_act (nI k) 126 τ) := by
  obtain ⟨h, o, d, l, f, s, ap, bg, hp, rb, H⟩ := LR_LM hL
  obtain ⟨⟨h1, h2, h3, h4, h5, h6⟩, ⟨v1, v2, v3, v4, v5, v6, v7, v8, v9, v10, v11, v12⟩, ⟨q1, q2, q3⟩, p1, p2, q5⟩ := id H
  have hh5 := has_in (b := 9) (σ := σ) h1 hk v1
  have hh6 := isT_in (σ := τ) h1 hk v2
  have hl : f_X6_isLetter 126 = some 0 := by decide
  by_cases hbk : h.testBit k = true
  · rw [if_pos hbk] at hh5 hh6
    have LMx : LM B h o (d ^^^ 1 <<< k) l f s ap bg hp rb (cv (up2 σ 9 10 (nI (d ^^^ 1 <<< k))) 9) (nv (up2 τ 29 19 (nI (d ^^^ 1 <<< k)))) := LM_act H ⟨h2, (xor_tab d h3 k hk).2, h4, h5⟩ ⟨rfl, rfl, rfl, rfl⟩ ⟨v3, v4, rfl, rfl, v7, v8, v9, v10⟩ ⟨q1, xor_sub q2 hbk, q3⟩ (fun j hj => ⟨rfl, rfl⟩) (fun j => ⟨⟨rfl, rfl⟩, ⟨rfl, rfl⟩⟩) (fun j hj hb => by
        obtain ⟨⟨z1, z2, z3, z4, z5⟩, a, -, b, c, dd⟩ := p1 j hj hb
        exact ⟨⟨z1, z4, z5⟩, a, b, c, dd⟩) (fun j hj hb => by
        obtain ⟨a1, a2, a3, a4, a⟩ := p2 j hj hb
        exact ⟨a1, a3, a4, a⟩)
    refine ⟨0, up2 σ 9 10 (nI (d ^^^ 1 <<< k)), up2 τ 29 19 (nI (d ^^^ 1 <<< k)), by decide, ?_, ?_, LR_mono (by omega) (LM_LR LMx), ?_, ?_⟩
    · unfold f_X0_tryAct f_X0_actBar
      rw [if_neg (show ¬ (126 : Int32) = 0 by decide), if_neg (show ¬ (126 : Int32) = 33 by decide), if_neg (show ¬ (126 : Int32) = 36 by decide), if_neg (show ¬ (126 : Int32) = 46 by decide), hh5, bnd_some, if_neg (by decide), bnd_some, if_pos rfl, if_neg (show ¬ (126 : Int32) = 0 by decide), if_neg (show ¬ (126 : Int32) = 33 by decide), if_neg (show ¬ (126 : Int32) = 42 by decide), if_neg (show ¬ (126 : Int32) = 46 by decide), if_pos rfl, nm_eq, show σ 9 10 = nI d from v5, (xor_tab d h3 k hk).1]
      rfl
    · unfold f_X6_act
      rw [hl, bnd_some, if_pos rfl, if_pos (by decide), hh6, bnd_some, if_neg (by decide), bnd_some, if_neg (fun w => w rfl), if_pos (by decide), bnd_some, nm_eq, xor0, up2_self, if_neg (fun w => w rfl), if_neg (fun w => w rfl), bnd_some, nm_eq, bnd_some, show τ 29 19 = nI d from v6, (xor_tab d h3 k hk).1]
      rfl
    · intro c j hc
      rw [up2_out (by omega)]
    · intro c j hc1 hc2
      by_cases h29 : c = 29
      · subst h29; rw [up2_k _ _ _ _ _ (by omega)]
      · rw [up2_out h29]
  · rw [if_neg hbk] at hh5 hh6
    refine act_none hL (w := 1) (by decide) ?_ ?_
    · unfold f_X0_tryAct f_X0_actBar
      rw [if_neg (show ¬ (126 : Int32) = 0 by decide), if_neg (show ¬ (126 : Int32) = 33 by decide), if_neg (show ¬ (126 : Int32) = 36 by decide), if_neg (show ¬ (126 : Int32) = 46 by decide), hh5]
      rfl
    · unfold f_X6_act
      rw [hl, bnd_some, if_pos rfl, if_pos (by decide), hh6, bnd_some, if_pos rfl, bnd_some, if_pos (by decide), bnd_some, nm_eq, xor0, up2_self, if_pos (by decide), bnd_some, nm_eq, xor0, up2_self]
      rfl
theorem fillS_at (σ : St) (c n k : Nat) (v : Int32) : fillS σ c n v c k = if k < n then v else σ c k := by simp [fillS, upC]
theorem fillS_out {σ : St} {c n c' : Nat} {v : Int32} (h : c' ≠ c) : fillS σ c n v c' = σ c' := by simp [fillS, upC, h]
theorem nobody_eq (τ : St) : f_X6_nobodyOut τ = some (fillS (up2 τ 29 18 0) 40 6 (-6)) := by
  have h := loop_to (body := fun s : Int32 × St => l_X6_nobodyOut_7 s.1 s.2) (fun i => (nI i, fillS (up2 τ 29 18 0) 40 i (-6))) 6 (fillS (up2 τ 29 18 0) 40 6 (-6)) (fun i hi => ?_) ?_ 400 (by decide)
  · rw [fillS_0] at h
    unfold f_X6_nobodyOut
    have h : loop (fun s : Int32 × St => l_X6_nobodyOut_7 s.1 s.2) 400 (0, up2 τ 29 18 0) = _ := h
    rw [nm_eq, h]
    rfl
  · show l_X6_nobodyOut_7 (nI i) _ = _
    unfold l_X6_nobodyOut_7
    rw [if_neg (six_le hi), gi_in hi (by decide), nm_eq, nI_clamp (by omega), fillS_s, nI_1]
  · show l_X6_nobodyOut_7 (nI 6) _ = _
    unfold l_X6_nobodyOut_7
    rw [if_pos (by decide)]
theorem zero_eq (τ : St) : loop (fun s : Int32 × St => l_X6_goNights_63 s.1 s.2) 400 (0, τ) = some (fillS τ 39 6 0) := by
  have h := loop_to (body := fun s : Int32 × St => l_X6_goNights_63 s.1 s.2) (fun i => (nI i, fillS τ 39 i 0)) 6 (fillS τ 39 6 0) (fun i hi => ?_) ?_ 400 (by decide)
  · rw [fillS_0] at h
    exact h
  · show l_X6_goNights_63 (nI i) _ = _
    unfold l_X6_goNights_63
    rw [if_neg (six_le hi), gi_in hi (by decide), nm_eq, nI_clamp (by omega), fillS_s, nI_1]
  · show l_X6_goNights_63 (nI 6) _ = _
    unfold l_X6_goNights_63
    rw [if_pos (by decide)]
theorem a_night {B : Nat} {y z : Int32} {σ τ : St} (hL : LR B (cv σ 9) (nv τ)) : ActR B σ τ (f_X0_tryAct 9 46 y z σ) (f_X6_endNight τ) := by
  obtain ⟨h, o, d, l, f, s, ap, bg, hp, rb, H⟩ := LR_LM hL
  obtain ⟨⟨h1, h2, h3, h4, h5, h6⟩, ⟨v1, v2, v3, v4, v5, v6, v7, v8, v9, v10, v11, v12⟩, ⟨q1, q2, q3⟩, p1, p2, q5⟩ := id H
  have v9' : σ 9 12 = nI f := v9
  have v10' : τ 29 21 = nI f := v10
  by_cases c : f = 0
  · refine act_none hL (w := 7) (by decide) ?_ ?_
    · unfold f_X0_tryAct f_X0_actBar
      rw [if_neg (show ¬ (46 : Int32) = 0 by decide), if_neg (show ¬ (46 : Int32) = 33 by decide), if_neg (show ¬ (46 : Int32) = 36 by decide), if_pos (show (46 : Int32) = 46 from rfl), v9', c, if_neg (fun w => w rfl)]
      rfl
    · unfold f_X6_endNight
      rw [v10', c, if_neg (fun w => w rfl)]
      rfl
  · have hm : nI f - 1 = nI (f - 1) := pk_sub (b := 1) (by omega)
    have LMx : LM B h 0 d l (f - 1) s ap bg hp rb (cv (up2 (up2 σ 9 9 0) 9 12 (nI (f - 1))) 9) (nv (fillS (up2 (up2 τ 29 21 (nI (f - 1))) 29 18 0) 40 6 (-6))) := LM_act H ⟨by decide, h3, h4, by omega⟩ ⟨rfl, rfl, rfl, rfl⟩ ⟨rfl, rfl, v5, v6, v7, v8, rfl, rfl⟩ ⟨fun k hk => by simp at hk, q2, q3⟩ (fun j hj => ⟨rfl, rfl⟩) (fun j => ⟨⟨rfl, rfl⟩, ⟨rfl, rfl⟩⟩) (fun j hj hb => by
        obtain ⟨⟨z1, z2, z3, z4, z5⟩, a, -, b, c, dd⟩ := p1 j hj hb
        exact ⟨⟨z1, z4, z5⟩, a, b, c, fun q => by simp at q⟩) (fun j hj hb => by
        obtain ⟨a1, a2, a3, a4, a⟩ := p2 j hj hb
        exact ⟨a1, a3, a4, a⟩)
    refine ⟨0, up2 (up2 σ 9 9 0) 9 12 (nI (f - 1)), fillS (up2 (up2 τ 29 21 (nI (f - 1))) 29 18 0) 40 6 (-6), by decide, ?_, ?_, LR_mono (by omega) (LM_LR LMx), ?_, ?_⟩
    · unfold f_X0_tryAct f_X0_actBar
      rw [if_neg (show ¬ (46 : Int32) = 0 by decide), if_neg (show ¬ (46 : Int32) = 33 by decide), if_neg (show ¬ (46 : Int32) = 36 by decide), if_pos (show (46 : Int32) = 46 from rfl), v9', if_pos (nI_ne0 (by omega) (by omega)), bnd_some, if_pos rfl, if_neg (show ¬ (46 : Int32) = 0 by decide), if_neg (show ¬ (46 : Int32) = 33 by decide), if_neg (show ¬ (46 : Int32) = 42 by decide), if_pos rfl, nm_eq, nm_eq, show up2 σ 9 9 0 9 12 = σ 9 12 from rfl, v9', hm]
      rfl
    · unfold f_X6_endNight
      rw [v10', if_pos (nI_ne0 (by omega) (by omega)), nm_eq, nobody_eq, bnd_some, hm]
      rfl
    · intro c j hc
      rw [up2_out (by omega), up2_out (by omega)]
    · intro c j hc1 hc2
      rw [fillS_out (by omega)]
      by_cases h29 : c = 29
      · subst h29; rw [up2_k _ _ _ _ _ (by omega), up2_k _ _ _ _ _ (by omega)]
      · rw [up2_out h29, up2_out h29]
theorem a_year {B : Nat} {y z : Int32} {σ τ : St} (hL : LR B (cv σ 9) (nv τ)) : ActR B σ τ (f_X0_tryAct 9 36 y z σ) (some (0, fillS (fillS (up2 τ 29 18 0) 40 6 (-6)) 39 6 0)) := by
  obtain ⟨h, o, d, l, f, s, ap, bg, hp, rb, H⟩ := LR_LM hL
  obtain ⟨⟨h1, h2, h3, h4, h5, h6⟩, ⟨v1, v2, v3, v4, v5, v6, v7, v8, v9, v10, v11, v12⟩, ⟨q1, q2, q3⟩, p1, p2, q5⟩ := id H
  have LMx : LM B h 0 d l f s ap bg hp (fun _ => 0) (cv (fillS (up2 σ 9 9 0) 13 6 0) 9) (nv (fillS (fillS (up2 τ 29 18 0) 40 6 (-6)) 39 6 0)) := LM_act H ⟨by decide, h3, h4, by omega⟩ ⟨rfl, rfl, rfl, rfl⟩ ⟨rfl, rfl, v5, v6, v7, v8, v9, v10⟩ ⟨fun k hk => by simp at hk, q2, q3⟩ (fun j hj => ⟨rfl, rfl⟩) (fun j => ⟨⟨rfl, rfl⟩, ⟨rfl, rfl⟩⟩) (fun j hj hb => by
      obtain ⟨⟨z1, z2, z3, z4, z5⟩, a, -, b, c, dd⟩ := p1 j hj hb
      refine ⟨⟨z1, z4, by decide⟩, a, b, ⟨?_, ?_⟩, fun q => by simp at q⟩
      · refine (fillS_at (up2 σ 9 9 0) 13 6 j 0).trans ?_
        rw [if_pos hj]; rfl
      · refine (fillS_at (fillS (up2 τ 29 18 0) 40 6 (-6)) 39 6 j 0).trans ?_
        rw [if_pos hj]; rfl) (fun j hj hb => by
      obtain ⟨a1, a2, a3, a4, a⟩ := p2 j hj hb
      refine ⟨a1, a3, ?_, a⟩
      refine (fillS_at (up2 σ 9 9 0) 13 6 j 0).trans ?_
      rw [if_pos hj])
  refine ⟨0, fillS (up2 σ 9 9 0) 13 6 0, _, by decide, ?_, rfl, LR_mono (by omega) (LM_LR LMx), ?_, ?_⟩
  · unfold f_X0_tryAct f_X0_actBar f_X0_endYear
    rw [if_neg (show ¬ (36 : Int32) = 0 by decide), if_neg (show ¬ (36 : Int32) = 33 by decide), if_pos (show (36 : Int32) = 36 from rfl), bnd_some, if_pos rfl, if_neg (show ¬ (36 : Int32) = 0 by decide), if_neg (show ¬ (36 : Int32) = 33 by decide), if_neg (show ¬ (36 : Int32) = 42 by decide), if_neg (show ¬ (36 : Int32) = 46 by decide), if_neg (show ¬ (36 : Int32) = 126 by decide)]
    rfl
  · intro c j hc
    rw [fillS_out (by omega), up2_out (by omega)]
  · intro c j hc1 hc2
    rw [fillS_out (by omega), fillS_out (by omega)]
    by_cases h29 : c = 29
    · subst h29; rw [up2_k _ _ _ _ _ (by omega)]
    · rw [up2_out h29]
