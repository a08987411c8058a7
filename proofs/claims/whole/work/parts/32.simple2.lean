/-! ===== told, exchange, say, seen ===== -/
theorem jmin_le (x y : Int32) : jmin x y = if y ≤ x then y else x := by
  unfold jmin
  by_cases h : y < x
  · rw [if_pos h, if_pos (Int32.le_of_lt h)]
  · rw [if_neg h]
    by_cases h2 : y ≤ x
    · rw [if_pos h2]
      exact Int32.le_antisymm (Int32.not_lt.mp h) h2
    · rw [if_neg h2]
theorem jmin_comm (x y : Int32) : jmin x y = jmin y x := by
  rw [jmin_le, jmin_le]
  by_cases h1 : y ≤ x
  · by_cases h2 : x ≤ y
    · rw [if_pos h1, if_pos h2]; exact Int32.le_antisymm h1 h2
    · rw [if_pos h1, if_neg h2]
  · have h2 : x ≤ y := Int32.le_of_lt (Int32.not_le.mp h1)
    rw [if_neg h1, if_pos h2]
theorem pc_told : PC_told := by
  intro N g σ a1 hN hI
  obtain ⟨p, p1, p2, p3, p4⟩ := hI.2.1
  have hL := hI.1
  obtain ⟨h, o, d, l, f, s, h1, h2, h3, h4, h5, h6, e1, e2, e3, e4, e5, e6, e7, e8, e9, e10, e11, e12, q1, q2, q3, q4, q5⟩ := hI.1
  suffices hh : ∃ r, f_X5_told a1 σ = some r ∧ f_X6_told a1 σ = some r by
    obtain ⟨r, ha, hb⟩ := hh
    exact ⟨r, ha, hb, Inv_mono hI⟩
  unfold f_X5_told f_X6_told
  by_cases c0 : a1 = 0
  · subst c0
    exact ⟨nI p, by rw [if_pos rfl]; exact congrArg some p2, by rw [if_pos (by decide), if_pos rfl]; exact congrArg some p3⟩
  by_cases c1 : a1 = 1
  · subst c1
    exact ⟨nI h, congrArg some e1, congrArg some e2⟩
  by_cases c2 : a1 = 2
  · subst c2
    exact ⟨nI f, congrArg some e9, congrArg some e10⟩
  by_cases c3 : a1 = 3
  · subst c3
    exact ⟨nI d, congrArg some e5, congrArg some e6⟩
  by_cases c4 : a1 = 4
  · subst c4
    exact ⟨nI l, congrArg some e7, congrArg some e8⟩
  by_cases c5 : a1 = 5
  · subst c5
    exact ⟨nI s, congrArg some e11, congrArg some e12⟩
  rw [if_neg c0, if_neg c1, if_neg c2, if_neg c3, if_neg c4, if_neg c5, if_neg c0, if_neg c1, if_neg c2, if_neg c3, if_neg c4, if_pos c5]
  unfold f_X5_toldBag
  rcases wi_cases a1 10 15 with ⟨hw, w1, w2⟩ | ⟨hw, hout⟩
  · obtain ⟨n, n1, n2, rfl⟩ := nI_btw (lo := 10) (hi := 15) (by decide) w1 w2 (by decide)
    have hs : nI n - 10 = nI (n - 10) := pk_sub (b := 10) n1
    rw [hw, if_neg w1, hs, bnd_some, if_pos (by decide)]
    have hk : n - 10 < 6 := by omega
    rw [has_in (b := 1) (σ := σ) h1 hk e1, isT_in (σ := σ) h1 hk e2, bnd_some, bnd_some]
    by_cases hb : h.testBit (n - 10) = true
    · obtain ⟨a, bg, hp, rb, z1, z2, z3, z4, z5, z6, z7, z8, z9, -⟩ := (q4 _ hk).1 hb
      refine ⟨nI bg, ?_, ?_⟩
      · rw [if_pos hb, if_neg (by decide), gi_in hk (by decide), nI_clamp (by omega)]
        exact congrArg some z8
      · rw [if_pos hb, if_neg (by decide), gi_in hk (by decide), nI_clamp (by omega)]
        exact congrArg some z9
    · rw [if_neg hb]
      exact ⟨-2, rfl, rfl⟩
  · rw [hw, bnd_some, if_neg (by decide)]
    refine ⟨-2, rfl, ?_⟩
    by_cases hl : a1 < 10
    · rw [if_pos hl]
    · rw [if_neg hl]
      have hg : (15 : Int32) < a1 := hout.resolve_left hl
      have ho : (6 : Int32) ≤ a1 - 10 := by
        obtain ⟨n, hn, rfl⟩ := nI_of (x := a1) (by
          intro hz
          apply hl
          rw [Int32.lt_iff_toInt_lt] at hz ⊢
          have : (0 : Int32).toInt = 0 := by decide
          have : (10 : Int32).toInt = 10 := by decide
          omega)
        have hn15 : 15 < n := (nI_ltI (a := 15) (by decide) hn).mp hg
        have hs : nI n - 10 = nI (n - 10) := pk_sub (b := 10) (by omega)
        rw [hs]
        exact nI_le (a := 6) (by omega) (by omega)
      rw [isT_out (Or.inr ho)]
      rfl
theorem pc_exchange : PC_exchange := by
  intro N g σ a1 a2 a3 hN hI
  suffices hh : ∃ r, f_X5_exchange a1 a2 a3 σ = some r ∧ f_X6_exchange a1 a2 a3 σ = some r by
    obtain ⟨r, ha, hb⟩ := hh
    exact ⟨r, ha, hb, Inv_mono hI⟩
  have hL := hI.1
  unfold f_X5_exchange f_X6_exchange f_X0_hasTwo
  rcases there (x := a1) hL (σ := σ) (σ' := σ) rfl rfl with ⟨u1, u2⟩ | ⟨h, k1, hh, hk1, rfl, v1, w1, b1, u1, u2⟩
  · rw [u1, u2]
    exact ⟨-1, rfl, rfl⟩
  rcases there (x := a2) hL (σ := σ) (σ' := σ) rfl rfl with ⟨t1, t2⟩ | ⟨h', k2, hh', hk2, rfl, v2, w2, b2, t1, t2⟩
  · rw [u1, u2, t1, t2]
    exact ⟨-1, rfl, rfl⟩
  rcases there (x := a3) hL (σ := σ) (σ' := σ) rfl rfl with ⟨s1, s2⟩ | ⟨h'', k3, hh'', hk3, rfl, v3, w3, b3, s1, s2⟩
  · rw [u1, u2, t1, t2, s1, s2]
    refine ⟨-1, ?_, rfl⟩
    simp only [bnd_some]
    by_cases c : nI k1 = nI k2 <;> simp [c]
  rw [u1, u2, t1, t2, s1, s2]
  simp only [bnd_some]
  by_cases c12 : k1 = k2
  · subst c12
    exact ⟨-1, by simp, by simp⟩
  have c12 : ¬ nI k1 = nI k2 := fun q => c12 ((nI_eq (by omega) (by omega)).mp q)
  by_cases c13 : k1 = k3
  · subst c13
    exact ⟨-1, by simp [c12], by simp [c12]⟩
  have c13 : ¬ nI k1 = nI k3 := fun q => c13 ((nI_eq (by omega) (by omega)).mp q)
  by_cases c23 : k2 = k3
  · subst c23
    exact ⟨-1, by simp [c12], by simp [c12]⟩
  have c23 : ¬ nI k2 = nI k3 := fun q => c23 ((nI_eq (by omega) (by omega)).mp q)
  obtain ⟨h0, o, d, l, f, s, z1, z2, z3, z4, z5, z6, e1, e2, -, -, -, -, -, -, -, -, -, -, -, -, -, q4, -⟩ := hI.1
  have hh1 : h = h0 := by
    have := v1.symm.trans e1
    exact (nI_eq (by omega) (by omega)).mp this
  have hh2 : h' = h0 := (nI_eq (by omega) (by omega)).mp (v2.symm.trans e1)
  have hh3 : h'' = h0 := (nI_eq (by omega) (by omega)).mp (v3.symm.trans e1)
  subst hh1; subst hh2; subst hh3
  obtain ⟨a, bg, hp, rb, y1, y2, y3, y4, y5, y6, y7, y8, y9, -⟩ := (q4 k1 hk1).1 b1
  obtain ⟨a', bg', hp', rb', x1, x2, x3, x4, x5, x6, x7, x8, x9, -⟩ := (q4 k2 hk2).1 b2
  obtain ⟨a'', bg'', hp'', rb'', t1', t2', t3', t4', t5', t6', t7', t8', t9', -⟩ := (q4 k3 hk3).1 b3
  have A1 : σ 3 k1 = nI bg := y8
  have A2 : σ 30 k1 = nI bg := y9
  have B1 : σ 3 k2 = nI bg' := x8
  have B2 : σ 30 k2 = nI bg' := x9
  have C1 : σ 2 k3 = nI a'' := t6'
  have C2 : σ 32 k3 = nI a'' := t7'
  unfold f_X0_load
  refine ⟨jmin (nI a'' - jmin (nI bg) (nI a'')) (nI bg'), ?_, ?_⟩
  · simp [c12, c13, c23, gi_in hk1, gi_in hk2, gi_in hk3, nm_eq, nI_clamp (show k1 < 2 ^ 31 by omega), nI_clamp (show k2 < 2 ^ 31 by omega), nI_clamp (show k3 < 2 ^ 31 by omega), A1, B1, C1]
  · rw [jmin_comm (nI a'' - jmin (nI bg) (nI a''))]
    simp only [jmin_le]
    simp only [c12, c13, c23, if_false, if_true, gi_in hk1 (show 6 < 2 ^ 31 by decide), gi_in hk2 (show 6 < 2 ^ 31 by decide), gi_in hk3 (show 6 < 2 ^ 31 by decide), nm_eq, nI_clamp (show k1 < 2 ^ 31 by omega), nI_clamp (show k2 < 2 ^ 31 by omega), nI_clamp (show k3 < 2 ^ 31 by omega), A2, B2, C2, not_false_eq_true, show ¬ (1 : Int32) = 0 by decide]
    by_cases c : nI a'' ≤ nI bg
    · simp only [if_pos c, bnd_some]
      by_cases c' : nI a'' - nI a'' ≤ nI bg'
      · simp only [if_pos c']
      · simp only [if_neg c']
    · simp only [if_neg c, bnd_some]
      by_cases c' : nI a'' - nI bg ≤ nI bg'
      · simp only [if_pos c']
      · simp only [if_neg c']
theorem pc_say : PC_say := by
  intro N g σ a1 hN hI
  obtain ⟨p, p1, p2, p3, p4⟩ := hI.2.1
  rcases wi_cases a1 33 126 with ⟨hw, w1, w2⟩ | ⟨hw, -⟩
  · obtain ⟨n, n1, n2, rfl⟩ := nI_btw (lo := 33) (hi := 126) (by decide) w1 w2 (by decide)
    by_cases hp : p = 60
    · subst hp
      refine ⟨-4, σ, σ, ?_, ?_, Inv_mono hI⟩
      · unfold f_X5_say f_X1_write
        rw [hw, bnd_some, if_pos (by decide), p2, if_neg (by decide)]
        rfl
      · unfold f_X6_say
        rw [in_eq, hw, bnd_some, if_pos (by decide), p3, if_neg (by decide)]
    · have hp : p < 60 := by omega
      refine ⟨nI (p + 1), up2 (up2 σ 19 p (nI n)) 18 1 (nI (p + 1)), up2 (up2 (up2 (up2 σ 19 p (nI n)) 18 1 (nI (p + 1))) 36 p (nI n)) 29 12 (nI (p + 1)), ?_, ?_, Inv_mono ⟨?_, ?_, ?_⟩⟩
      · unfold f_X5_say f_X1_write
        rw [hw, bnd_some, if_pos (by decide), p2, if_pos (show nI p < 60 from nI_lt (b := 60) hp (by decide)), gi_in hp (by decide), nm_eq, nm_eq, nI_clamp (by omega), show up2 σ 19 p (nI n) 18 1 = σ 18 1 from rfl, p2, nI_1]
        rfl
      · unfold f_X6_say
        have e1 : up2 (up2 σ 19 p (nI n)) 18 1 (nI (p + 1)) 29 12 = σ 29 12 := rfl
        rw [in_eq, hw, bnd_some, if_pos (by decide), e1, p3, if_pos (fun q => by have := (nI_eq (a := p) (b := 60) (by omega) (by decide)).mp q; omega), gi_in hp (by decide), nm_eq, nm_eq, nI_clamp (by omega), show up2 (up2 (up2 σ 19 p (nI n)) 18 1 (nI (p + 1))) 36 p (nI n) 29 12 = σ 29 12 from rfl, p3, nI_1]
        rfl
      · refine LR_congr hI.1 (fun i k _ hi => ?_) (fun i k h0 hi => ?_)
        · rw [cv_up (by omega) i k hi, cv_up (by omega) i k hi, cv_up (by omega) i k hi, cv_up (by omega) i k hi]
        · match i, hi with
          | 0, _ =>
            obtain ⟨q1, q2⟩ := h0 rfl
            rcases (show k = 7 ∨ k = 8 ∨ k = 9 ∨ k = 10 ∨ k = 11 ∨ k = 12 by omega) with rfl | rfl | rfl | rfl | rfl | rfl <;> rfl
          | 1, _ | 2, _ | 3, _ | 4, _ | 5, _ | 6, _ | 7, _ => rfl
      · refine ⟨p + 1, by omega, rfl, rfl, fun k hk => ?_⟩
        by_cases hkp : k = p
        · subst hkp
          refine ⟨?_, n, n1, n2, ?_⟩
          · show upd (σ 36) k (nI n) k = upd (σ 19) k (nI n) k
            simp [upd]
          · show upd (σ 19) k (nI n) k = nI n
            simp [upd]
        · have e1 : up2 (up2 (up2 (up2 σ 19 p (nI n)) 18 1 (nI (p + 1))) 36 p (nI n)) 29 12 (nI (p + 1)) 36 k = σ 36 k := by
            show upd (σ 36) p (nI n) k = _
            simp [upd, hkp]
          have e2 : up2 (up2 (up2 (up2 σ 19 p (nI n)) 18 1 (nI (p + 1))) 36 p (nI n)) 29 12 (nI (p + 1)) 19 k = σ 19 k := by
            show upd (σ 19) p (nI n) k = _
            simp [upd, hkp]
          rw [e1, e2]
          exact p4 k (by omega)
      · exact IM_congr hI.2.2 (fun _ => rfl) (fun _ => rfl) (fun c k hc => by rw [up2_out (by omega), up2_out (by omega), up2_out (by omega), up2_out (by omega)])
  · refine ⟨-2, σ, σ, ?_, ?_, Inv_mono hI⟩
    · unfold f_X5_say
      rw [hw]
      rfl
    · unfold f_X6_say
      rw [in_eq, hw]
      rfl
