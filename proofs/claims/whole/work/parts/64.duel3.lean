/-! ===== duel: the end ===== -/
theorem play6 {B h o d l f s t k1 k2 : Nat} {ap bg hp rb : Nat → Nat} {V : VW} {σ : St} (H : LM B h o d l f s ap bg hp rb V (mv σ)) (ht : t < 64) (hsub : Sub t h) (h1 : k1 < 6) (h2 : k2 < 6) (b1 : h.testBit k1 = true) (b2 : h.testBit k2 = true) : ∃ (b : Int32) (σ' : St), loop (fun s : Int32 × Int32 × St => l_X6_duel_58 (nI k1) (nI k2) (nI t) s.1 s.2.1 s.2.2) 400 (-6, 0, σ) = some (b, σ') ∧ MFD σ σ' ∧ σ' 43 0 = 0 ∧ (∀ s, 0 < s → s < 64 → Sub s t → GoodT (FN t k1 k2 bg ap) (fun k => σ' 43 k) s) ∧ (t = 0 → b = -6) ∧ (0 < t → ∃ q0, b = nI q0 ∧ IsB t (gT (FN t k1 k2 bg ap) (fun k => σ' 43 k) t) 6 (σ' 43 t).toInt q0) := by
  have hl := loop_inv (body := fun s : Int32 × Int32 × St => l_X6_duel_58 (nI k1) (nI k2) (nI t) s.1 s.2.1 s.2.2) (fun i z => z.2.1 = nI i ∧ MFD σ z.2.2 ∧ (0 < i → z.2.2 43 0 = 0) ∧ (∀ s, 0 < s → s < i → Sub s t → GoodT (FN t k1 k2 bg ap) (fun k => z.2.2 43 k) s) ∧ (t = 0 → z.1 = -6) ∧ (0 < t → t < i → ∃ q0, z.1 = nI q0 ∧ IsB t (gT (FN t k1 k2 bg ap) (fun k => z.2.2 43 k) t) 6 (z.2.2 43 t).toInt q0)) (fun z => MFD σ z.2 ∧ z.2 43 0 = 0 ∧ (∀ s, 0 < s → s < 64 → Sub s t → GoodT (FN t k1 k2 bg ap) (fun k => z.2 43 k) s) ∧ (t = 0 → z.1 = -6) ∧ (0 < t → ∃ q0, z.1 = nI q0 ∧ IsB t (gT (FN t k1 k2 bg ap) (fun k => z.2 43 k) t) 6 (z.2 43 t).toInt q0)) 64 (fun i z hi hI => ?_) (fun z hI => ?_) 64 0 (-6, 0, σ) (by decide) ⟨rfl, fun _ _ _ => rfl, fun w => absurd w (by omega), fun s q1 q2 => absurd q2 (by omega), fun _ => rfl, fun q1 q2 => absurd q2 (by omega)⟩ 400 (by decide)
  · obtain ⟨⟨b, σ'⟩, e1, e2, e3, e4, e5, e6⟩ := hl
    exact ⟨b, σ', e1, e2, e3, e4, e5, e6⟩
  · obtain ⟨b, y, z⟩ := z
    obtain ⟨hy, hf, hz0, hG, hE0, hE⟩ := hI
    have hy : y = nI i := hy
    subst hy
    have hf : MFD σ z := hf
    have hz0 : 0 < i → z 43 0 = 0 := hz0
    have hG : ∀ s, 0 < s → s < i → Sub s t → GoodT (FN t k1 k2 bg ap) (fun k => z 43 k) s := hG
    have hE0 : t = 0 → b = -6 := hE0
    have hE : 0 < t → t < i → ∃ q0, b = nI q0 ∧ IsB t (gT (FN t k1 k2 bg ap) (fun k => z 43 k) t) 6 (z 43 t).toInt q0 := hE
    have hlt : i &&& (63 ^^^ t) < 64 := andn_lt hi
    have hj11 : (if ¬ nI i = 0 then (some kF) else (some 0)) = some (if i = 0 then 0 else kF) := by
      by_cases c : i = 0
      · rw [if_neg (fun w => w (by rw [c]; rfl)), if_pos c]
      · rw [if_pos (nI_ne0 (by omega) (by omega)), if_neg c]
    have E58 : ∀ (b' : Int32) (σ' : St), loop (fun s : Int32 × Int32 × St => l_X6_duel_108 (nI k1) (nI k2) (nI t) (nI i) (if jrem (nI (pop t) - nI (pop i)) 2 = 0 then 1 else 0) s.1 s.2.1 s.2.2) 400 (b, 5, up2 z 43 i (if i = 0 then 0 else kF)) = some (b', σ') → l_X6_duel_58 (nI k1) (nI k2) (nI t) b (nI i) z = some (.inl (b', nI (i + 1), σ')) := by
      intro b' σ' hl
      unfold l_X6_duel_58
      rw [if_neg (show ¬ (64 : Int32) ≤ nI i from nI_ge (b := 64) hi (by decide)), (pop_tab t ht).2.1, bnd_some, (pop_tab i hi).2.1, bnd_some, hj11, nI_1]
      have hj10 : (if ¬ jrem (nI (pop t) - nI (pop i)) 2 = 0 then some (0 : Int32) else some 1) = some (if jrem (nI (pop t) - nI (pop i)) 2 = 0 then 1 else 0) := by
        by_cases c : jrem (nI (pop t) - nI (pop i)) 2 = 0
        · rw [if_neg (fun w => w c), if_pos c]
        · rw [if_pos c, if_neg c]
      rw [hj10, bnd_some, bnd_some, gi_in hi (by decide), nI_clamp (by omega), nm_eq, hl, bnd_some]
    have zf : ∀ v, MFD σ (up2 z 43 i v) := fun v c k hc => by rw [up2_out hc]; exact hf c k hc
    by_cases c : i &&& (63 ^^^ t) = 0
    · have hS := (Sub_iff hi).mp c
      have hle := Sub_le hi ht hS
      have hpop := (sub_tab t ht i hi c).1
      obtain ⟨tk1, tk2⟩ := tk_in (t := t) (s := i) h1 h2 b1 b2
      have hrem : jrem (nI (pop t) - nI (pop i)) 2 = nI ((pop t - pop i) % 2) := by
        rw [pk_sub hpop]
        exact rem_n (d := 2) 2 rfl (Nat.lt_of_le_of_lt (Nat.sub_le _ _) (Nat.lt_of_le_of_lt pop_le (by decide))) (by decide) (by decide)
      have hj : (if (if jrem (nI (pop t) - nI (pop i)) 2 = 0 then (1 : Int32) else 0) = 0 then some (nI k2) else some (nI k1)) = some (nI (tkN t k1 k2 i)) := by
        rw [hrem]
        unfold tkN
        by_cases c2 : (pop t - pop i) % 2 = 0
        · rw [c2, if_pos nI_0, if_neg (by decide), if_pos rfl]
        · rw [if_neg (nI_ne0 (by omega) (by omega)), if_pos rfl, if_neg c2]
      obtain ⟨b', σ', g1, g2, g3, g4, g5⟩ := take6 (F := FN t k1 k2 bg ap) (b0 := b) (LM_agr H (MFD_Agr (zf (if i = 0 then 0 else kF)))) hi ht hS (Sub_tr hS hsub) tk1 tk2 hj (fun q hq => rfl) (fun w => by rw [up2_s, if_neg (by omega)]) (fun x hx hq => by
        obtain ⟨q, hq6, hqb, hqx⟩ := hq
        rw [up2_k _ _ _ _ _ (by omega)]
        by_cases x0 : x = 0
        · subst x0; rw [hz0 (by omega)]; decide
        · obtain ⟨y1, y2, -⟩ := hG x (by omega) hx (by rw [hqx]; exact Sub_x hS hqb)
          have y1 : -(20 * (x : Int)) ≤ (z 43 x).toInt := y1
          have y2 : (z 43 x).toInt ≤ 20 * (x : Int) := y2
          omega)
      have eA : ∀ x, x < i → z 43 x = σ' 43 x := fun x hx => by rw [g3 x (by omega), up2_k _ _ _ _ _ (by omega)]
      have eA2 : ∀ x, x < i → up2 z 43 i (if i = 0 then 0 else kF) 43 x = σ' 43 x := fun x hx => (g3 x (by omega)).symm
      have hIB : 0 < i → ∃ q0, IsB i (gT (FN t k1 k2 bg ap) (fun k => σ' 43 k) i) 6 (σ' 43 i).toInt q0 ∧ (i = t → b' = nI q0) := by
        intro hpos
        rcases g5 with ⟨x1, -⟩ | ⟨q0, x1, x2⟩
        · omega
        · exact ⟨q0, IsB_c x1 (gT_c hi eA2), x2⟩
      refine ⟨(b', nI (i + 1), σ'), E58 b' σ' g1, rfl, fun c k q1 => (g2 c k q1).trans (zf _ c k q1), fun _ => ?_, fun s' q1 q2 q3 => ?_, fun t0 => ?_, fun q1 q2 => ?_⟩
      · show σ' 43 0 = 0
        by_cases i0 : i = 0
        · subst i0
          rcases g5 with ⟨-, x2, -⟩ | ⟨q0, ⟨x1, x2, -⟩, -⟩
          · rw [x2, up2_s, if_pos rfl]
          · simp at x2
        · rw [← eA 0 (by omega)]; exact hz0 (by omega)
      · by_cases e : s' = i
        · subst e
          obtain ⟨q0, hB, -⟩ := hIB q1
          obtain ⟨x1, x2, x3, -, -⟩ := id hB
          have hx := xs_tab s' hi q0 x1 x2
          have hF : FN t k1 k2 bg ap s' q0 ≤ 20 := Nat.le_trans (Nat.min_le_left _ _) (H.2.2.2.1 _ tk1 tk2).1.2.2.1
          have bd : -(20 * ((s' ^^^ 1 <<< q0 : Nat) : Int)) ≤ (σ' 43 (s' ^^^ 1 <<< q0)).toInt ∧ (σ' 43 (s' ^^^ 1 <<< q0)).toInt ≤ 20 * ((s' ^^^ 1 <<< q0 : Nat) : Int) := by
            rw [← eA _ hx.2]
            by_cases x0 : s' ^^^ 1 <<< q0 = 0
            · rw [x0, hz0 q1]; decide
            · obtain ⟨y1, y2, -⟩ := hG (s' ^^^ 1 <<< q0) (by omega) hx.2 (Sub_x hS x2)
              exact ⟨y1, y2⟩
          unfold gT at x3
          have x3 : (FN t k1 k2 bg ap s' q0 : Int) - (σ' 43 (s' ^^^ 1 <<< q0)).toInt = (σ' 43 s').toInt := x3
          refine ⟨?_, ?_, q0, hB⟩
          · show -(20 * (s' : Int)) ≤ (σ' 43 s').toInt
            omega
          · show (σ' 43 s').toInt ≤ 20 * (s' : Int)
            omega
        · exact GoodT_c (by omega) (fun x hx => eA x (by omega)) (hG s' q1 (by omega) q3)
      · show b' = -6
        have i0 : i = 0 := by omega
        rcases g5 with ⟨-, -, x3⟩ | ⟨q0, ⟨x1, x2, -⟩, -⟩
        · rw [x3]; exact hE0 t0
        · rw [i0] at x2; simp at x2
      · have e : t = i := by omega
        obtain ⟨q0, y1, y2⟩ := hIB (by omega)
        refine ⟨q0, y2 e.symm, ?_⟩
        rw [← e] at y1
        exact y1
    · have hS : ¬ Sub i t := fun w => c ((Sub_iff hi).mpr w)
      have hne : ¬ i = 0 := fun w => by rw [w] at c; simp at c
      have hcm : ¬ nI i &&& (nI t ^^^ (-1 : Int32)) = 0 := by
        rw [andn_tab i hi t ht]; exact nI_ne0 (by omega) (by omega)
      have hex : l_X6_duel_108 (nI k1) (nI k2) (nI t) (nI i) (if jrem (nI (pop t) - nI (pop i)) 2 = 0 then 1 else 0) b 5 (up2 z 43 i (if i = 0 then 0 else kF)) = some (.inr (b, up2 z 43 i (if i = 0 then 0 else kF))) := by
        unfold l_X6_duel_108
        rw [if_neg (by decide), if_pos hcm]
      have eA : ∀ x, x < i → z 43 x = up2 z 43 i (if i = 0 then 0 else kF) 43 x := fun x hx => by rw [up2_k _ _ _ _ _ (by omega)]
      refine ⟨(b, nI (i + 1), up2 z 43 i (if i = 0 then 0 else kF)), E58 _ _ (loop_ex (body := fun s : Int32 × Int32 × St => l_X6_duel_108 (nI k1) (nI k2) (nI t) (nI i) (if jrem (nI (pop t) - nI (pop i)) 2 = 0 then 1 else 0) s.1 s.2.1 s.2.2) (f := 399) (s := (b, 5, up2 z 43 i (if i = 0 then 0 else kF))) hex), rfl, zf _, fun _ => ?_, fun s' q1 q2 q3 => ?_, hE0, fun q1 q2 => ?_⟩
      · show up2 z 43 i (if i = 0 then 0 else kF) 43 0 = 0
        rw [← eA 0 (by omega)]; exact hz0 (by omega)
      · by_cases e : s' = i
        · rw [e] at q3; exact absurd q3 hS
        · exact GoodT_c (by omega) (fun x hx => eA x (by omega)) (hG s' q1 (by omega) q3)
      · have hti : t < i := by
          by_cases e : t = i
          · rw [← e] at hS; exact absurd (fun j _ hj => hj) hS
          · omega
        obtain ⟨q0, y1, y2⟩ := hE q1 hti
        refine ⟨q0, y1, ?_⟩
        show IsB t (gT (FN t k1 k2 bg ap) (fun k => up2 z 43 i (if i = 0 then 0 else kF) 43 k) t) 6 (up2 z 43 i (if i = 0 then 0 else kF) 43 t).toInt q0
        rw [← eA t hti]
        exact IsB_c y2 (gT_c ht (fun x hx => eA x (by omega)))
  · obtain ⟨b, y, z⟩ := z
    obtain ⟨hy, hf, hz0, hG, hE0, hE⟩ := hI
    have hy : y = nI 64 := hy
    subst hy
    refine ⟨(b, z), ?_, hf, hz0 (by decide), hG, hE0, fun q => hE q ht⟩
    show l_X6_duel_58 (nI k1) (nI k2) (nI t) b (nI 64) z = _
    unfold l_X6_duel_58
    rw [if_pos (by decide)]
theorem mask_of {x : Int32} {h : Nat} (hh : h < 64) (e : x &&& (nI h ^^^ (-1 : Int32)) = 0) : ∃ t : Nat, t < 64 ∧ x = nI t ∧ Sub t h := by
  have hx : x = x &&& nI h := by
    apply Int32.toBitVec_inj.mp
    have e2 := congrArg Int32.toBitVec e
    rw [Int32.toBitVec_and, Int32.toBitVec_xor] at e2
    rw [Int32.toBitVec_and]
    apply BitVec.eq_of_getLsbD_eq
    intro i hi
    have e3 := congrArg (fun w : BitVec 32 => w.getLsbD i) e2
    have hm : (Int32.toBitVec (-1)) = BitVec.allOnes 32 := by decide
    have h0 : (Int32.toBitVec 0) = 0#32 := by decide
    rw [hm, h0] at e3
    simp only [BitVec.getLsbD_and, BitVec.getLsbD_xor, BitVec.getLsbD_allOnes, BitVec.getLsbD_zero, hi, decide_true] at e3
    rw [BitVec.getLsbD_and]
    cases hb : x.toBitVec.getLsbD i <;> cases hb2 : (nI h).toBitVec.getLsbD i <;> rw [hb, hb2] at e3 <;> simp at e3 ⊢
  have hn : x.toBitVec.toNat = x.toBitVec.toNat &&& h := by
    have := congrArg (fun w : Int32 => w.toBitVec.toNat) hx
    simp only [Int32.toBitVec_and, BitVec.toNat_and] at this
    rw [pk_tn (by omega)] at this
    exact this
  have hlt : x.toBitVec.toNat < 64 := by
    rw [hn]
    exact Nat.lt_of_le_of_lt Nat.and_le_right hh
  have hxe : x = nI x.toBitVec.toNat := by
    apply Int32.toBitVec_inj.mp
    apply BitVec.eq_of_toNat_eq
    rw [pk_tn (by omega)]
  refine ⟨x.toBitVec.toNat, hlt, hxe, ?_⟩
  rw [hxe, andn_tab _ hlt h hh] at e
  exact (Sub_iff hlt).mp ((nI_eq (b := 0) (Nat.lt_of_lt_of_le (andn_lt hlt) (by decide)) (by decide)).mp e)
theorem pc_duel : PC_duel := by
  intro N g σ a1 a2 a3 a4 hN hI
  obtain ⟨h, o, d, l, f, s, ap, bg, hp, rb, H⟩ := LR_LM hI.1
  obtain ⟨⟨h1, -⟩, ⟨e1, e2, -⟩, -⟩ := id H
  have e1 : σ 1 8 = nI h := e1
  have e2 : σ 29 0 = nI h := e2
  rcases two (σ := σ) (σ' := σ) h1 e1 e2 a1 a2 with ⟨z5, z6⟩ | ⟨k, q, hk, hq, rfl, rfl, hkq, hne, hbk, hbq, z5, z6, z7⟩
  · refine ⟨-1, σ, σ, ?_, ?_, Inv_mono hI⟩
    · unfold f_X5_duel; rw [z5]; rfl
    · unfold f_X6_duel
      rcases z6 with z6 | ⟨z6, z7 | ⟨z7, z8⟩⟩
      · rw [z6]; rfl
      · rw [z6, bnd_some, if_neg (by decide), z7]; rfl
      · rw [z6, bnd_some, if_neg (by decide), z7, bnd_some, if_neg (by decide), if_pos z8]
  by_cases cm : a3 &&& (nI h ^^^ (-1 : Int32)) = 0
  rotate_left
  · refine ⟨-1, σ, σ, ?_, ?_, Inv_mono hI⟩
    · unfold f_X5_duel; rw [z5, bnd_some, if_neg (by decide), e1, if_neg cm]
    · unfold f_X6_duel
      rw [z6, bnd_some, if_neg (by decide), z7, bnd_some, if_neg (by decide), if_neg hne, e2, if_neg cm]
      by_cases c : a3 < 0
      · rw [if_pos c]
      · rw [if_neg c]
  obtain ⟨t, ht, rfl, hS⟩ := mask_of h1 cm
  rcases wi_cases a4 0 1 with ⟨w4, c3, c4⟩ | ⟨w4, -⟩
  rotate_left
  · refine ⟨-2, σ, σ, ?_, ?_, Inv_mono hI⟩
    · unfold f_X5_duel; rw [z5, bnd_some, if_neg (by decide), e1, if_pos cm, w4]; rfl
    · unfold f_X6_duel
      rw [z6, bnd_some, if_neg (by decide), z7, bnd_some, if_neg (by decide), if_neg hne, e2, if_neg (lt_neg (by omega)), if_pos cm, in_eq, w4]; rfl
  obtain ⟨σ1, p1, p2, p3, p4, p5, p6⟩ := play5 H ht hS hk hq hbk hbq
  have hA := CFD_Agr p2
  obtain ⟨b, σ2, r1, r2, r3, r4, r5, r6⟩ := play6 (LM_agr H hA) ht hS hk hq hbk hbq
  have hInv : Inv (N + 1) g σ2 := Inv_next hI (Agr_trans hA (MFD_Agr r2))
  have htab := tab_eq (F := FN t k q bg ap) (A := fun k => σ1 28 k) (A' := fun k => σ2 43 k) (t := t) (p3.trans r3.symm) p4 r4
  have hval : σ1 28 t = σ2 43 t := htab (t + 1) t (by omega) ht (fun j _ hj => hj)
  have e2' : σ1 29 0 = nI h := (p2 29 0 (by decide) (by decide)).trans e2
  have t1 := isT_in (σ := σ1) h1 hk e2'
  have t2 := isT_in (σ := σ1) h1 hq e2'
  rw [if_pos hbk] at t1
  rw [if_pos hbq] at t2
  have E5 : f_X5_duel (nI k) (nI q) (nI t) a4 σ = (if ¬ a4 = 0 then (some ((σ1 27 2, σ1))) else (some (((σ1 27 1) + 1000, σ1)))) := by
    unfold f_X5_duel
    rw [z5, bnd_some, if_neg (by decide), e1, if_pos cm, w4, bnd_some, if_pos (by decide), p1, bnd_some]
  have E6 : f_X6_duel (nI k) (nI q) (nI t) a4 σ1 = (if ¬ a4 = 0 then (some ((b, σ2))) else (some (((σ2 43 t) + 1000, σ2)))) := by
    unfold f_X6_duel
    rw [t1, bnd_some, if_neg (by decide), t2, bnd_some, if_neg (by decide), if_neg hne, e2', if_neg (lt_neg (by omega)), if_pos cm, in_eq, w4, bnd_some, if_pos (by decide), r1, bnd_some, gi_in ht (by decide), nI_clamp (by omega)]
  have hlead : σ1 27 1 = σ2 43 t := by
    by_cases t0 : t = 0
    · rw [(p5 t0).1, t0, r3]
    · rw [(p6 (by omega)).1, hval]
  have hopen : σ1 27 2 = b := by
    by_cases t0 : t = 0
    · rw [(p5 t0).2, r5 t0]
    · obtain ⟨-, q0, y1, y2⟩ := p6 (by omega)
      obtain ⟨q1, y3, y4⟩ := r6 (by omega)
      have e : ∀ q', q' < 6 → t.testBit q' = true → gT (FN t k q bg ap) (fun k => σ1 28 k) t q' = gT (FN t k q bg ap) (fun k => σ2 43 k) t q' := by
        intro q' hq' hb'
        have hx := (xs_tab t ht q' hq' hb').2
        have hx2 : σ1 28 (t ^^^ 1 <<< q') = σ2 43 (t ^^^ 1 <<< q') := htab 64 _ (by omega) (by omega) (Sub_x (fun j _ hj => hj) hb')
        show (FN t k q bg ap t q' : Int) - (σ1 28 (t ^^^ 1 <<< q')).toInt = (FN t k q bg ap t q' : Int) - (σ2 43 (t ^^^ 1 <<< q')).toInt
        rw [hx2]
      rw [y1, y3, (IsB_u y2 y4 e).2]
  by_cases c : a4 = 0
  · exact ⟨σ2 43 t + 1000, σ1, σ2, by rw [E5, if_neg (fun w => w c), hlead], by rw [E6, if_neg (fun w => w c)], hInv⟩
  · exact ⟨b, σ1, σ2, by rw [E5, if_pos c, hopen], by rw [E6, if_pos c], hInv⟩
