/-! ===== acts: both sides do the same ===== -/
theorem LM_act {B B' h o o' d d' l l' f f' s : Nat} {ap bg hp rb ap' hp' rb' : Nat → Nat} {V W V' W' : VW} (H : LM B h o d l f s ap bg hp rb V W)
    (n1 : o' < 64 ∧ d' < 64 ∧ l' < 64 ∧ f' ≤ 30)
    (es : V' 0 8 = V 0 8 ∧ W' 0 8 = W 0 8 ∧ V' 0 7 = V 0 7 ∧ W' 0 7 = W 0 7)
    (en : V' 0 9 = nI o' ∧ W' 0 9 = nI o' ∧ V' 0 10 = nI d' ∧ W' 0 10 = nI d' ∧ V' 0 11 = nI l' ∧ W' 0 11 = nI l' ∧ V' 0 12 = nI f' ∧ W' 0 12 = nI f')
    (sb : (∀ k, o'.testBit k = true → h.testBit k = true) ∧ (∀ k, d'.testBit k = true → h.testBit k = true) ∧ (∀ k, l'.testBit k = true → h.testBit k = true))
    (e2 : ∀ k, k < 6 → V' 2 k = V 2 k ∧ W' 2 k = W 2 k)
    (e6 : ∀ k, (V' 6 k = V 6 k ∧ W' 6 k = W 6 k) ∧ (V' 7 k = V 7 k ∧ W' 7 k = W 7 k))
    (pt : ∀ k, k < 6 → h.testBit k = true → (ap' k ≤ 99 ∧ hp' k ≤ B' ∧ rb' k < 64) ∧ (V' 1 k = nI (ap' k) ∧ W' 1 k = nI (ap' k)) ∧ (V' 3 k = nI (hp' k) ∧ W' 3 k = nI (hp' k)) ∧ (V' 4 k = nI (rb' k) ∧ W' 4 k = nI (rb' k)) ∧ (o'.testBit k = true → W' 5 k = V' 5 k ∧ (V' 5 k = -6 ∨ ∃ q : Nat, q < 6 ∧ V' 5 k = nI q ∧ h.testBit q = true)))
    (pn : ∀ k, k < 6 → h.testBit k = false → V' 1 k = 0 ∧ V' 3 k = 0 ∧ V' 4 k = 0 ∧ ∃ a : Nat, a ≤ 99 ∧ W' 1 k = nI a) : LM B' h o' d' l' f' s ap' bg hp' rb' V' W' := by
  obtain ⟨⟨h1, h2, h3, h4, h5, h6⟩, ⟨v1, v2, v3, v4, v5, v6, v7, v8, v9, v10, v11, v12⟩, -, p1, p2, q5⟩ := H
  obtain ⟨n1, n2, n3, n4⟩ := n1
  obtain ⟨s1, s2, s3, s4⟩ := es
  obtain ⟨m1, m2, m3, m4, m5, m6, m7, m8⟩ := en
  refine ⟨⟨h1, n1, n2, n3, n4, h6⟩, ⟨s1.trans v1, s2.trans v2, m1, m2, m3, m4, m5, m6, m7, m8, s3.trans v11, s4.trans v12⟩, sb, fun k hk hb => ?_, fun k hk hb => ?_, fun i hi => ?_⟩
  · obtain ⟨⟨-, x2, x3, -, -⟩, -, ⟨y3, y4⟩, -⟩ := p1 k hk hb
    obtain ⟨⟨a1, a2, a3⟩, b1, b2, b3, b4⟩ := pt k hk hb
    exact ⟨⟨a1, x2, x3, a2, a3⟩, b1, ⟨(e2 k hk).1.trans y3, (e2 k hk).2.trans y4⟩, b2, b3, b4⟩
  · obtain ⟨a1, a2, a3, a4⟩ := pn k hk hb
    exact ⟨a1, (e2 k hk).1.trans (p2 k hk hb).2.1, a2, a3, a4⟩
  · obtain ⟨q, a, z1, z2, z3, z4, z5, z6⟩ := q5 i hi
    exact ⟨q, a, z1, z2, (e6 i).1.1.trans z3, (e6 i).1.2.trans z4, (e6 i).2.1.trans z5, (e6 i).2.2.trans z6⟩
theorem up2_at (σ : St) (c k j : Nat) (v : Int32) : up2 σ c k v c j = if j = k then v else σ c j := by simp [up2, upd]
def CF (σ σ' : St) : Prop := ∀ c k, ¬ (9 ≤ c ∧ c ≤ 16) → σ' c k = σ c k
def MF (τ τ' : St) : Prop := ∀ c k, ¬ (c = 29 ∧ 18 ≤ k ∧ k ≤ 21) → ¬ (37 ≤ c ∧ c ≤ 40) → τ' c k = τ c k
def ActR (B : Nat) (σ τ : St) (A E : Option (Int32 × St)) : Prop := ∃ (w : Nat) (σ' τ' : St), w < 9 ∧ A = some (nI w, σ') ∧ E = some (nI w, τ') ∧ LR B (cv σ' 9) (nv τ') ∧ CF σ σ' ∧ MF τ τ'
theorem act_none {B w : Nat} {σ τ : St} {A E : Option (Int32 × St)} (hL : LR B (cv σ 9) (nv τ)) (hw : w < 9) (h1 : A = some (nI w, σ)) (h2 : E = some (nI w, τ)) : ActR B σ τ A E :=
  ⟨w, σ, τ, hw, h1, h2, hL, fun _ _ _ => rfl, fun _ _ _ _ => rfl⟩
theorem RB_lt {h o d l f k q : Nat} {ap rb : Nat → Nat} : RB h o d l f ap rb k q < 9 := by
  unfold RB
  repeat' split
  all_goals omega
theorem RB_there {h o d l f k q : Nat} {ap rb : Nat → Nat} (h0 : RB h o d l f ap rb k q = 0) : h.testBit k = true ∧ h.testBit q = true ∧ k ≠ q ∧ (rb k).testBit q = false ∧ o.testBit k = false ∧ 0 < ap q := by
  unfold RB at h0
  by_cases c1 : (h.testBit k && h.testBit q) = false
  · rw [if_pos c1] at h0; cases h0
  rw [if_neg c1] at h0
  by_cases c2 : k = q
  · rw [if_pos c2] at h0; cases h0
  rw [if_neg c2] at h0
  by_cases c3 : (rb k).testBit q = true
  · rw [if_pos c3] at h0; cases h0
  rw [if_neg c3] at h0
  by_cases c4 : o.testBit k = true
  · rw [if_pos c4] at h0; cases h0
  rw [if_neg c4] at h0
  by_cases c5 : (d.testBit q && !l.testBit q) = true
  · rw [if_pos c5] at h0; cases h0
  rw [if_neg c5] at h0
  by_cases c6 : ap q = 0
  · rw [if_pos c6] at h0; cases h0
  have c1 : (h.testBit k && h.testBit q) = true := by simpa using c1
  rw [Bool.and_eq_true] at c1
  exact ⟨c1.1, c1.2, c2, by simpa using c3, by simpa using c4, by omega⟩
def robC (σ : St) (q k : Nat) (x1 x3 x4 x9 x5 : Int32) : St := up2 (up2 (up2 (up2 (up2 σ 10 q x1) 12 k x3) 13 k x4) 9 9 x9) 14 k x5
def robM (τ : St) (q k : Nat) (x1 x3 x4 x5 x9 : Int32) : St := up2 (up2 (up2 (up2 (up2 τ 37 q x1) 38 k x3) 39 k x4) 40 k x5) 29 18 x9
theorem rob5_eq {B h o d l f s k q : Nat} {ap bg hp rb : Nat → Nat} {W : VW} {σ : St} (H : LM B h o d l f s ap bg hp rb (cv σ 9) W) (hk : k < 6) (hq : q < 6) (hbk : h.testBit k = true) (hbq : h.testBit q = true) : f_X0_rob 9 (nI k) (nI q) σ = some (robC σ q k (nI (ap q - min (bg k) (ap q))) (nI (hp k + min (bg k) (ap q))) (nI (rb k ||| 1 <<< q)) (nI (o ||| 1 <<< k)) (nI q)) := by
  have hl := load_eq H hk hq hbk hbq
  obtain ⟨⟨h1, h2, -⟩, ⟨-, -, v3, -⟩, -, p1, -, -⟩ := H
  obtain ⟨⟨-, -, -, -, xr⟩, -, -, ⟨yh, -⟩, ⟨yr, -⟩, -⟩ := p1 k hk hbk
  obtain ⟨⟨xa, -⟩, ⟨ya, -⟩, -⟩ := p1 q hq hbq
  have e1 : σ 10 q - nI (min (bg k) (ap q)) = nI (ap q - min (bg k) (ap q)) := by rw [show σ 10 q = nI (ap q) from ya, pk_sub (Nat.min_le_right _ _)]
  have e3 : σ 12 k + nI (min (bg k) (ap q)) = nI (hp k + min (bg k) (ap q)) := by rw [show σ 12 k = nI (hp k) from yh, nI_add]
  have e4 : σ 13 k ||| ((1 : Int32) <<< (nI q &&& 31)) = nI (rb k ||| 1 <<< q) := by rw [show σ 13 k = nI (rb k) from yr, (or_tab _ xr q hq).1]
  have e9 : σ 9 9 ||| ((1 : Int32) <<< (nI k &&& 31)) = nI (o ||| 1 <<< k) := by rw [show σ 9 9 = nI o from v3, (or_tab _ h2 k hk).1]
  unfold f_X0_rob
  rw [hl, bnd_some]
  simp only [gi_in hk (show 6 < 2 ^ 31 by decide), gi_in hq (show 6 < 2 ^ 31 by decide), nm_eq, nI_clamp (show k < 2 ^ 31 by omega), nI_clamp (show q < 2 ^ 31 by omega)]
  rw [← e1, ← e3, ← e4, ← e9]
  rfl
theorem rob6_eq {B h o d l f s k q : Nat} {ap bg hp rb : Nat → Nat} {V : VW} {τ : St} (H : LM B h o d l f s ap bg hp rb V (nv τ)) (hk : k < 6) (hq : q < 6) (hbk : h.testBit k = true) (hbq : h.testBit q = true) : f_X6_rob (nI k) (nI q) τ = some (robM τ q k (nI (ap q - min (bg k) (ap q))) (nI (hp k + min (bg k) (ap q))) (nI (rb k ||| 1 <<< q)) (nI q) (nI (o ||| 1 <<< k))) := by
  have hl := takes_eq H hk hq hbk hbq
  obtain ⟨⟨h1, h2, -⟩, ⟨-, -, -, v4, -⟩, -, p1, -, -⟩ := H
  obtain ⟨⟨-, -, -, -, xr⟩, -, -, ⟨-, yh⟩, ⟨-, yr⟩, -⟩ := p1 k hk hbk
  obtain ⟨⟨xa, -⟩, ⟨-, ya⟩, -⟩ := p1 q hq hbq
  have e1 : τ 37 q - nI (min (bg k) (ap q)) = nI (ap q - min (bg k) (ap q)) := by rw [show τ 37 q = nI (ap q) from ya, pk_sub (Nat.min_le_right _ _)]
  have e3 : τ 38 k + nI (min (bg k) (ap q)) = nI (hp k + min (bg k) (ap q)) := by rw [show τ 38 k = nI (hp k) from yh, nI_add]
  have e4 : τ 39 k ||| ((1 : Int32) <<< (nI q &&& 31)) = nI (rb k ||| 1 <<< q) := by rw [show τ 39 k = nI (rb k) from yr, (or_tab _ xr q hq).1]
  have e9 : τ 29 18 ||| ((1 : Int32) <<< (nI k &&& 31)) = nI (o ||| 1 <<< k) := by rw [show τ 29 18 = nI o from v4, (or_tab _ h2 k hk).1]
  unfold f_X6_rob
  rw [hl, bnd_some]
  simp only [gi_in hk (show 6 < 2 ^ 31 by decide), gi_in hq (show 6 < 2 ^ 31 by decide), nm_eq, nI_clamp (show k < 2 ^ 31 by omega), nI_clamp (show q < 2 ^ 31 by omega)]
  rw [← e1, ← e3, ← e4, ← e9]
  rfl
def updN (f : Nat → Nat) (k v : Nat) : Nat → Nat := fun j => if j = k then v else f j
theorem rob_LM {B h o d l f s k q : Nat} {ap bg hp rb : Nat → Nat} {σ τ : St} (H : LM B h o d l f s ap bg hp rb (cv σ 9) (nv τ)) (hk : k < 6) (hq : q < 6) (hbk : h.testBit k = true) (hbq : h.testBit q = true) : LM (B + 20) h (o ||| 1 <<< k) d l f s (updN ap q (ap q - min (bg k) (ap q))) bg (updN hp k (hp k + min (bg k) (ap q))) (updN rb k (rb k ||| 1 <<< q)) (cv (robC σ q k (nI (ap q - min (bg k) (ap q))) (nI (hp k + min (bg k) (ap q))) (nI (rb k ||| 1 <<< q)) (nI (o ||| 1 <<< k)) (nI q)) 9) (nv (robM τ q k (nI (ap q - min (bg k) (ap q))) (nI (hp k + min (bg k) (ap q))) (nI (rb k ||| 1 <<< q)) (nI q) (nI (o ||| 1 <<< k)))) := by
  obtain ⟨⟨h1, h2, h3, h4, h5, h6⟩, ⟨v1, v2, v3, v4, v5, v6, v7, v8, v9, v10, v11, v12⟩, ⟨q1, q2, q3⟩, p1, p2, q5⟩ := id H
  obtain ⟨⟨-, -, xb, xh, xr⟩, -, -, ⟨yh, -⟩, ⟨yr, -⟩, -⟩ := p1 k hk hbk
  obtain ⟨⟨xa, -⟩, ⟨ya, -⟩, -⟩ := p1 q hq hbq
  refine LM_act H ⟨(or_tab o h2 k hk).2, h3, h4, h5⟩ ⟨rfl, rfl, rfl, rfl⟩ ⟨rfl, rfl, v5, v6, v7, v8, v9, v10⟩ ⟨fun j hj => ?_, q2, q3⟩ (fun j hj => ⟨rfl, rfl⟩) (fun j => ⟨⟨rfl, rfl⟩, ⟨rfl, rfl⟩⟩) (fun j hj hb => ?_) (fun j hj hb => ?_)
  · rw [tb_or] at hj
    by_cases c : k = j
    · rw [← c]; exact hbk
    · simp [c] at hj; exact q1 j hj
  · obtain ⟨⟨z1, z2, z3, z4, z5⟩, ⟨a1, a2⟩, -, ⟨b1, b2⟩, ⟨c1, c2⟩, dd⟩ := p1 j hj hb
    refine ⟨⟨?_, ?_, ?_⟩, ⟨?_, ?_⟩, ⟨?_, ?_⟩, ⟨?_, ?_⟩, fun ho => ?_⟩
    · unfold updN; split <;> omega
    · unfold updN; split <;> omega
    · unfold updN
      split
      · exact (or_tab _ xr q hq).2
      · exact z5
    · refine (up2_at σ 10 q j _).trans ?_
      unfold updN
      by_cases c : j = q
      · rw [if_pos c, if_pos c]
      · rw [if_neg c, if_neg c]; exact a1
    · refine (up2_at τ 37 q j _).trans ?_
      unfold updN
      by_cases c : j = q
      · rw [if_pos c, if_pos c]
      · rw [if_neg c, if_neg c]; exact a2
    · refine (up2_at σ 12 k j _).trans ?_
      unfold updN
      by_cases c : j = k
      · rw [if_pos c, if_pos c]
      · rw [if_neg c, if_neg c]; exact b1
    · refine (up2_at τ 38 k j _).trans ?_
      unfold updN
      by_cases c : j = k
      · rw [if_pos c, if_pos c]
      · rw [if_neg c, if_neg c]; exact b2
    · refine (up2_at σ 13 k j _).trans ?_
      unfold updN
      by_cases c : j = k
      · rw [if_pos c, if_pos c]
      · rw [if_neg c, if_neg c]; exact c1
    · refine (up2_at τ 39 k j _).trans ?_
      unfold updN
      by_cases c : j = k
      · rw [if_pos c, if_pos c]
      · rw [if_neg c, if_neg c]; exact c2
    · have w1 : cv (robC σ q k (nI (ap q - min (bg k) (ap q))) (nI (hp k + min (bg k) (ap q))) (nI (rb k ||| 1 <<< q)) (nI (o ||| 1 <<< k)) (nI q)) 9 5 j = if j = k then nI q else σ 14 j := up2_at σ 14 k j _
      have w2 : nv (robM τ q k (nI (ap q - min (bg k) (ap q))) (nI (hp k + min (bg k) (ap q))) (nI (rb k ||| 1 <<< q)) (nI q) (nI (o ||| 1 <<< k))) 5 j = if j = k then nI q else τ 40 j := up2_at τ 40 k j _
      rw [w1, w2]
      by_cases c : j = k
      · rw [if_pos c, if_pos c]
        exact ⟨rfl, Or.inr ⟨q, hq, rfl, hbq⟩⟩
      · rw [if_neg c, if_neg c]
        rw [tb_or] at ho
        have c' : ¬ k = j := fun z => c z.symm
        simp [c'] at ho
        exact dd ho
  · obtain ⟨a1, a2, a3, a4, a, a5, a6⟩ := p2 j hj hb
    have nq : j ≠ q := fun z => by rw [z, hbq] at hb; cases hb
    have nk : j ≠ k := fun z => by rw [z, hbk] at hb; cases hb
    refine ⟨?_, ?_, ?_, a, a5, ?_⟩
    · refine (up2_at σ 10 q j _).trans ?_
      rw [if_neg nq]; exact a1
    · refine (up2_at σ 12 k j _).trans ?_
      rw [if_neg nk]; exact a3
    · refine (up2_at σ 13 k j _).trans ?_
      rw [if_neg nk]; exact a4
    · refine (up2_at τ 37 q j _).trans ?_
      rw [if_neg nq]; exact a6
theorem robC_CF {σ : St} {q k : Nat} {x1 x3 x4 x9 x5 : Int32} : CF σ (robC σ q k x1 x3 x4 x9 x5) := by
  intro c j hc
  unfold robC
  rw [up2_out (by omega), up2_out (by omega), up2_out (by omega), up2_out (by omega), up2_out (by omega)]
theorem robM_MF {τ : St} {q k : Nat} {x1 x3 x4 x9 x5 : Int32} : MF τ (robM τ q k x1 x3 x4 x5 x9) := by
  intro c j h1 h2
  unfold robM
  by_cases h29 : c = 29
  · subst h29
    rw [up2_k _ _ _ _ _ (by omega), up2_out (by decide), up2_out (by decide), up2_out (by decide), up2_out (by decide)]
  · rw [up2_out h29, up2_out (by omega), up2_out (by omega), up2_out (by omega), up2_out (by omega)]
theorem a_rob {B k q : Nat} {σ τ : St} (hL : LR B (cv σ 9) (nv τ)) (hk : k < 6) (hq : q < 6) : ActR (B + 20) σ τ (f_X0_tryAct 9 0 (nI k) (nI q) σ) (f_X6_act (nI k) (nI (65 + q)) τ) := by
  obtain ⟨h, o, d, l, f, s, ap, bg, hp, rb, H⟩ := LR_LM hL
  have e5 := robBar_eq H hk hq
  have e6 := whyNot_eq H hk hq
  have hlt := RB_lt (h := h) (o := o) (d := d) (l := l) (f := f) (k := k) (q := q) (ap := ap) (rb := rb)
  have hl : f_X6_isLetter (nI (65 + q)) = some 1 := by
    rw [(lt_tab (65 + q) (by omega)).2]
    have : ltr (65 + q) = true := by unfold ltr; simp; omega
    rw [this]; rfl
  have hs : nI (65 + q) - 65 = nI q := by
    have := pk_sub (a := 65 + q) (b := 65) (by omega)
    rw [show 65 + q - 65 = q by omega] at this
    exact this
  by_cases c : RB h o d l f ap rb k q = 0
  · obtain ⟨hbk, hbq, -⟩ := RB_there c
    rw [c] at e5 e6
    refine ⟨0, _, _, by decide, ?_, ?_, LM_LR (rob_LM H hk hq hbk hbq), robC_CF, robM_MF⟩
    · unfold f_X0_tryAct f_X0_actBar
      rw [if_pos rfl, e5, bnd_some, bnd_some, if_pos nI_0, if_pos rfl, rob5_eq H hk hq hbk hbq]
      rfl
    · unfold f_X6_act
      rw [hl, bnd_some, if_neg (by decide), hs, e6, bnd_some, if_neg (fun z => z rfl), rob6_eq H hk hq hbk hbq]
      rfl
  · refine act_none (LR_mono (by omega) hL) hlt ?_ ?_
    · unfold f_X0_tryAct f_X0_actBar
      rw [if_pos rfl, e5, bnd_some, bnd_some, if_neg (nI_ne0 (by omega) (by omega))]
    · unfold f_X6_act
      rw [hl, bnd_some, if_neg (by decide), hs, e6, bnd_some, if_pos (nI_ne0 (by omega) (by omega))]
      rfl
