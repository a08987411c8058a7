/-! ===== duel: the component's turns ===== -/
def tkN (t k1 k2 s : Nat) : Nat := if (pop t - pop s) % 2 = 0 then k1 else k2
def FN (t k1 k2 : Nat) (bg ap : Nat → Nat) (s q : Nat) : Nat := min (bg (tkN t k1 k2 s)) (ap q)
theorem tk_in {t k1 k2 s h : Nat} (h1 : k1 < 6) (h2 : k2 < 6) (b1 : h.testBit k1 = true) (b2 : h.testBit k2 = true) : tkN t k1 k2 s < 6 ∧ h.testBit (tkN t k1 k2 s) = true := by
  unfold tkN
  by_cases c : (pop t - pop s) % 2 = 0
  · rw [if_pos c]; exact ⟨h1, b1⟩
  · rw [if_neg c]; exact ⟨h2, b2⟩
theorem Sub_tr {a b c : Nat} (h1 : Sub a b) (h2 : Sub b c) : Sub a c := fun j hj h => h2 j hj (h1 j hj h)
theorem play5 {B h o d l f s t k1 k2 : Nat} {ap bg hp rb : Nat → Nat} {W : VW} {σ : St} (H : LM B h o d l f s ap bg hp rb (cv σ 1) W) (ht : t < 64) (hsub : Sub t h) (h1 : k1 < 6) (h2 : k2 < 6) (b1 : h.testBit k1 = true) (b2 : h.testBit k2 = true) : ∃ σ', f_X4_play (nI k1) (nI k2) (nI t) σ = some σ' ∧ CFD σ σ' ∧ σ' 28 0 = 0 ∧ (∀ s, 0 < s → s < 64 → Sub s t → GoodT (FN t k1 k2 bg ap) (fun k => σ' 28 k) s) ∧ (t = 0 → σ' 27 1 = 0 ∧ σ' 27 2 = -6) ∧ (0 < t → σ' 27 1 = σ' 28 t ∧ ∃ q0, σ' 27 2 = nI q0 ∧ IsB t (gT (FN t k1 k2 bg ap) (fun k => σ' 28 k) t) 6 (σ' 28 t).toInt q0) := by
  have hl := loop_inv (body := fun s : Int32 × St => l_X4_play_28 (nI k1) (nI k2) (nI t) (nI (pop t)) s.1 s.2) (fun i z => z.1 = nI (i + 1) ∧ CFD σ z.2 ∧ z.2 28 0 = 0 ∧ (∀ s, 0 < s → s ≤ i → Sub s t → GoodT (FN t k1 k2 bg ap) (fun k => z.2 28 k) s) ∧ (t = 0 → z.2 27 1 = 0 ∧ z.2 27 2 = -6) ∧ (0 < t → t ≤ i → z.2 27 1 = z.2 28 t ∧ ∃ q0, z.2 27 2 = nI q0 ∧ IsB t (gT (FN t k1 k2 bg ap) (fun k => z.2 28 k) t) 6 (z.2 28 t).toInt q0)) (fun z => CFD σ z ∧ z 28 0 = 0 ∧ (∀ s, 0 < s → s ≤ 63 → Sub s t → GoodT (FN t k1 k2 bg ap) (fun k => z 28 k) s) ∧ (t = 0 → z 27 1 = 0 ∧ z 27 2 = -6) ∧ (0 < t → t ≤ 63 → z 27 1 = z 28 t ∧ ∃ q0, z 27 2 = nI q0 ∧ IsB t (gT (FN t k1 k2 bg ap) (fun k => z 28 k) t) 6 (z 28 t).toInt q0)) 63 (fun i z hi hI => ?_) (fun z hI => ?_) 63 0 (1, up2 (up2 (up2 σ 27 1 0) 27 2 (-6)) 28 0 0) (by decide) ⟨rfl, fun c k q1 q2 => ?_, up2_s (up2 (up2 σ 27 1 0) 27 2 (-6)) 28 0 0, fun s q1 q2 => absurd q2 (by omega), fun _ => ⟨rfl, rfl⟩, fun q1 q2 => absurd q2 (by omega)⟩ 400 (by decide)
  · obtain ⟨z, e1, e2, e3, e4, e5, e6⟩ := hl
    refine ⟨z, ?_, e2, e3, fun s q1 q2 q3 => e4 s q1 (by omega) q3, e5, fun q => e6 q (by omega)⟩
    unfold f_X4_play
    rw [(pop_tab t ht).1, bnd_some, nm_eq, nm_eq]
    show Option.bind (loop (fun s : Int32 × St => l_X4_play_28 (nI k1) (nI k2) (nI t) (nI (pop t)) s.1 s.2) 400 (1, up2 (up2 (up2 σ 27 1 0) 27 2 (-6)) 28 0 0)) _ = _
    rw [e1, bnd_some]
  · obtain ⟨y, z⟩ := z
    obtain ⟨hy, hf, hz0, hG, hE0, hE⟩ := hI
    have hy : y = nI (i + 1) := hy
    subst hy
    have hf : CFD σ z := hf
    have hz0 : z 28 0 = 0 := hz0
    have hG : ∀ s, 0 < s → s ≤ i → Sub s t → GoodT (FN t k1 k2 bg ap) (fun k => z 28 k) s := hG
    have hE0 : t = 0 → z 27 1 = 0 ∧ z 27 2 = -6 := hE0
    have hi64 : i + 1 < 64 := by omega
    have hlt : i + 1 &&& (63 ^^^ t) < 64 := andn_lt hi64
    by_cases c : i + 1 &&& (63 ^^^ t) = 0
    · have hS := (Sub_iff hi64).mp c
      have hle := Sub_le hi64 ht hS
      have hpop := (sub_tab t ht (i + 1) hi64 c).1
      obtain ⟨tk1, tk2⟩ := tk_in (t := t) (s := i + 1) h1 h2 b1 b2
      obtain ⟨σ', g1, g2, g3, g4, q0, g5, g6⟩ := take5 (F := FN t k1 k2 bg ap) (LM_agrC H (CFD_Agr hf)) (by omega) hi64 (Sub_tr hS hsub) tk1 tk2 (fun q hq => rfl) (fun x hx hq => by
        obtain ⟨q, hq6, hqb, hqx⟩ := hq
        by_cases x0 : x = 0
        · subst x0; rw [hz0]; decide
        · obtain ⟨y1, y2, -⟩ := hG x (by omega) (by omega) (by rw [hqx]; exact Sub_x hS hqb)
          have y1 : -(20 * (x : Int)) ≤ (z 28 x).toInt := y1
          have y2 : (z 28 x).toInt ≤ 20 * (x : Int) := y2
          omega)
      have eA : ∀ x, x < i + 1 → z 28 x = σ' 28 x := fun x hx => (g3 x (by omega)).symm
      have hB : IsB (i + 1) (gT (FN t k1 k2 bg ap) (fun k => σ' 28 k) (i + 1)) 6 (σ' 28 (i + 1)).toInt q0 := IsB_c g6 (gT_c hi64 eA)
      refine ⟨(nI (i + 1 + 1), σ'), ?_, rfl, fun c k q1 q2 => (g2 c k q1 q2).trans (hf c k q1 q2), ?_, fun s' q1 q2 q3 => ?_, fun t0 => by omega, fun q1 q2 => ?_⟩
      · show l_X4_play_28 (nI k1) (nI k2) (nI t) (nI (pop t)) (nI (i + 1)) z = _
        unfold l_X4_play_28
        rw [if_neg (show ¬ (64 : Int32) ≤ nI (i + 1) from nI_ge (b := 64) hi64 (by decide)), andn_tab _ hi64 t ht, c, if_neg (fun w => w rfl), (pop_tab _ hi64).1, bnd_some, pk_sub hpop, rem_n (d := 2) 2 rfl (Nat.lt_of_le_of_lt (Nat.sub_le _ _) (Nat.lt_of_le_of_lt pop_le (by decide))) (by decide) (by decide), nI_1]
        have htk : (Option.bind (α := Int32) (if ¬ nI ((pop t - pop (i + 1)) % 2) = 0 then (some 0) else (some 1)) (fun (j10 : Int32) => Option.bind (α := Int32) (if j10 = 0 then (some (nI k2)) else (some (nI k1))) (fun (j11 : Int32) => Option.bind (f_X4_takeBest j11 (nI (i + 1)) z) (fun r12 => some r12)))) = Option.bind (f_X4_takeBest (nI (tkN t k1 k2 (i + 1))) (nI (i + 1)) z) (fun r12 => some r12) := by
          unfold tkN
          by_cases c2 : (pop t - pop (i + 1)) % 2 = 0
          · rw [c2, if_neg (fun w => w rfl), bnd_some, if_neg (by decide), bnd_some, if_pos rfl]
          · rw [if_pos (nI_ne0 (by omega) (by omega)), bnd_some, if_pos rfl, bnd_some, if_neg c2]
        rw [htk, g1]
        rfl
      · show σ' 28 0 = 0
        rw [g3 0 (by omega)]; exact hz0
      · by_cases e : s' = i + 1
        · subst e
          obtain ⟨x1, x2, x3, -, -⟩ := id hB
          have hx := xs_tab (i + 1) hi64 q0 x1 x2
          have hF : FN t k1 k2 bg ap (i + 1) q0 ≤ 20 := Nat.le_trans (Nat.min_le_left _ _) (H.2.2.2.1 _ tk1 tk2).1.2.2.1
          have bd : -(20 * ((i + 1 ^^^ 1 <<< q0 : Nat) : Int)) ≤ (σ' 28 (i + 1 ^^^ 1 <<< q0)).toInt ∧ (σ' 28 (i + 1 ^^^ 1 <<< q0)).toInt ≤ 20 * ((i + 1 ^^^ 1 <<< q0 : Nat) : Int) := by
            rw [← eA _ hx.2]
            by_cases x0 : i + 1 ^^^ 1 <<< q0 = 0
            · rw [x0, hz0]; decide
            · obtain ⟨y1, y2, -⟩ := hG (i + 1 ^^^ 1 <<< q0) (by omega) (by omega) (Sub_x hS x2)
              exact ⟨y1, y2⟩
          unfold gT at x3
          have x3 : (FN t k1 k2 bg ap (i + 1) q0 : Int) - (σ' 28 (i + 1 ^^^ 1 <<< q0)).toInt = (σ' 28 (i + 1)).toInt := x3
          refine ⟨?_, ?_, q0, hB⟩
          · show -(20 * ((i + 1 : Nat) : Int)) ≤ (σ' 28 (i + 1)).toInt
            omega
          · show (σ' 28 (i + 1)).toInt ≤ 20 * ((i + 1 : Nat) : Int)
            omega
        · exact GoodT_c (by omega) (fun x hx => eA x (by omega)) (hG s' q1 (by omega) q3)
      · have e : t = i + 1 := by omega
        rw [e]
        exact ⟨g4, q0, g5, by rw [e] at hB; exact hB⟩
    · have hS : ¬ Sub (i + 1) t := fun w => c ((Sub_iff hi64).mpr w)
      refine ⟨(nI (i + 1 + 1), z), ?_, rfl, hf, hz0, fun s' q1 q2 q3 => ?_, hE0, fun q1 q2 => ?_⟩
      · show l_X4_play_28 (nI k1) (nI k2) (nI t) (nI (pop t)) (nI (i + 1)) z = _
        unfold l_X4_play_28
        rw [if_neg (show ¬ (64 : Int32) ≤ nI (i + 1) from nI_ge (b := 64) hi64 (by decide)), andn_tab _ hi64 t ht, if_pos (nI_ne0 (by omega) (by omega)), bnd_some, nI_1]
      · by_cases e : s' = i + 1
        · rw [e] at q3; exact absurd q3 hS
        · exact hG s' q1 (by omega) q3
      · refine hE q1 ?_
        by_cases e : t = i + 1
        · rw [← e] at hS; exact absurd (fun j _ hj => hj) hS
        · omega
  · obtain ⟨y, z⟩ := z
    obtain ⟨hy, hf, hz0, hG, hE0, hE⟩ := hI
    have hy : y = nI 64 := hy
    subst hy
    refine ⟨z, ?_, hf, hz0, hG, hE0, hE⟩
    show l_X4_play_28 (nI k1) (nI k2) (nI t) (nI (pop t)) (nI 64) z = _
    unfold l_X4_play_28
    rw [if_pos (by decide)]
  · show up2 (up2 (up2 σ 27 1 0) 27 2 (-6)) 28 0 0 c k = σ c k
    rw [up2_out q2, up2_out q1, up2_out q1]
/-! ===== duel: the reference's turns ===== -/
def MFD (σ σ' : St) : Prop := ∀ c k, c ≠ 43 → σ' c k = σ c k
theorem MFD_Agr {σ σ' : St} (h : MFD σ σ') : Agr σ σ' := fun c k hr => h c k (by unfold rel at hr; omega)
theorem worth_eq {B h o d l f s k q : Nat} {ap bg hp rb : Nat → Nat} {V : VW} {σ : St} (H : LM B h o d l f s ap bg hp rb V (mv σ)) (hk : k < 6) (hq : q < 6) (hbk : h.testBit k = true) (hbq : h.testBit q = true) : f_X6_worth (nI k) (nI q) σ = some (nI (min (bg k) (ap q))) := by
  obtain ⟨-, -, -, p1, -, -⟩ := H
  obtain ⟨⟨-, -, x3, -, -⟩, -, ⟨-, y3⟩, -⟩ := p1 k hk hbk
  obtain ⟨⟨u1, -⟩, ⟨-, v1⟩, -⟩ := p1 q hq hbq
  have y3 : σ 30 k = nI (bg k) := y3
  have v1 : σ 32 q = nI (ap q) := v1
  unfold f_X6_worth
  rw [gi_in hk (by decide), gi_in hq (by decide), gi_in hq (by decide), gi_in hk (by decide), nI_clamp (by omega), nI_clamp (by omega), y3, v1]
  by_cases c : ap q ≤ bg k
  · rw [if_pos (nI_le c (by omega)), Nat.min_eq_right c]
  · rw [if_neg (nI_ge (by omega) (by omega)), Nat.min_eq_left (by omega)]
theorem take6 {B h o d l f s own t k1 k2 kt : Nat} {ap bg hp rb : Nat → Nat} {V : VW} {σ : St} {F : Nat → Nat → Nat} {b0 j10 : Int32} (H : LM B h o d l f s ap bg hp rb V (mv σ)) (hs : own < 64) (ht : t < 64) (hst : Sub own t) (hsub : Sub own h) (hkt : kt < 6) (hbk : h.testBit kt = true) (hj : (if j10 = 0 then some (nI k2) else some (nI k1)) = some (nI kt)) (hF : ∀ q, q < 6 → F own q = min (bg kt) (ap q)) (hown : 0 < own → σ 43 own = kF) (hA : ∀ x, x < own → (∃ q, q < 6 ∧ own.testBit q = true ∧ x = own ^^^ 1 <<< q) → -1280 ≤ (σ 43 x).toInt ∧ (σ 43 x).toInt ≤ 1280) : ∃ (b' : Int32) (σ' : St), loop (fun s : Int32 × Int32 × St => l_X6_duel_108 (nI k1) (nI k2) (nI t) (nI own) j10 s.1 s.2.1 s.2.2) 400 (b0, 5, σ) = some (b', σ') ∧ MFD σ σ' ∧ (∀ k, k ≠ own → σ' 43 k = σ 43 k) ∧ (own ≠ t → b' = b0) ∧ ((own = 0 ∧ σ' 43 own = σ 43 own ∧ b' = b0) ∨ ∃ q0, IsB own (gT F (fun k => σ 43 k) own) 6 (σ' 43 own).toInt q0 ∧ (own = t → b' = nI q0)) := by
  have hbg := (H.2.2.2.1 kt hkt hbk).1.2.2.1
  have hc0 : nI own &&& (nI t ^^^ (-1 : Int32)) = 0 := by rw [andn_tab own hs t ht, (Sub_iff hs).mpr hst]; rfl
  have hl := loop_inv (body := fun s : Int32 × Int32 × St => l_X6_duel_108 (nI k1) (nI k2) (nI t) (nI own) j10 s.1 s.2.1 s.2.2) (fun j z => z.2.1 = nI (6 - j) + (-1) ∧ MFD σ z.2.2 ∧ (∀ k, k ≠ own → z.2.2 43 k = σ 43 k) ∧ (own ≠ t → z.1 = b0) ∧ (((∀ q, 6 - j ≤ q → q < 6 → own.testBit q = false) ∧ z.2.2 43 own = σ 43 own ∧ z.1 = b0) ∨ ∃ q0, 6 - j ≤ q0 ∧ q0 < 6 ∧ own.testBit q0 = true ∧ gT F (fun k => σ 43 k) own q0 = (z.2.2 43 own).toInt ∧ (∀ q, 6 - j ≤ q → q < 6 → own.testBit q = true → gT F (fun k => σ 43 k) own q ≤ (z.2.2 43 own).toInt) ∧ (∀ q, 6 - j ≤ q → q < q0 → own.testBit q = true → gT F (fun k => σ 43 k) own q < (z.2.2 43 own).toInt) ∧ (own = t → z.1 = nI q0))) (fun z => MFD σ z.2 ∧ (∀ k, k ≠ own → z.2 43 k = σ 43 k) ∧ (own ≠ t → z.1 = b0) ∧ (((∀ q, q < 6 → own.testBit q = false) ∧ z.2 43 own = σ 43 own ∧ z.1 = b0) ∨ ∃ q0, IsB own (gT F (fun k => σ 43 k) own) 6 (z.2 43 own).toInt q0 ∧ (own = t → z.1 = nI q0))) 6 (fun j z hj6 hI => ?_) (fun z hI => ?_) 6 0 (b0, 5, σ) (by decide) ⟨show (5 : Int32) = nI (6 - 0) + (-1) by decide, fun _ _ _ => rfl, fun _ _ => rfl, fun _ => rfl, Or.inl ⟨fun q q1 q2 => absurd q2 (by omega), rfl, rfl⟩⟩ 400 (by decide)
  · obtain ⟨⟨b', σ'⟩, e1, e2, e3, e4, e5⟩ := hl
    refine ⟨b', σ', e1, e2, e3, e4, ?_⟩
    rcases e5 with ⟨x1, x2, x3⟩ | x
    · refine Or.inl ⟨?_, x2, x3⟩
      exact Nat.eq_zero_of_not_pos (fun w => ne0_bit hs w x1)
    · exact Or.inr x
  · obtain ⟨b, y, z⟩ := z
    obtain ⟨hy, hf, ho, hbt, hst2⟩ := hI
    have hy : y = nI (6 - j) + (-1) := hy
    have hn : 6 - j = 5 - j + 1 := by omega
    have hq6 : 5 - j < 6 := by omega
    have hsub1 : 6 - (j + 1) = 5 - j := by omega
    rw [hn, pk_m1] at hy
    subst hy
    rw [hn] at hst2
    have hf : MFD σ z := hf
    have ho : ∀ k, k ≠ own → z 43 k = σ 43 k := ho
    have hbt : own ≠ t → b = b0 := hbt
    rw [hsub1]
    have hm1 : nI (5 - j) + (-1) = nI (6 - (j + 1)) + (-1) := by rw [hsub1]
    generalize 5 - j = n at *
    have H' := LM_agr H (MFD_Agr hf)
    by_cases c : own.testBit n = true
    · have hx := xs_tab own hs n hq6 c
      have hw := worth_eq H' hkt hq6 hbk (hsub n hq6 c)
      have hz43 : z 43 (own ^^^ 1 <<< n) = σ 43 (own ^^^ 1 <<< n) := ho _ (by omega)
      have hbd := hA _ hx.2 ⟨n, hq6, c, rfl⟩
      have hg : (nI (min (bg kt) (ap n)) - σ 43 (own ^^^ 1 <<< n)).toInt = gT F (fun k => σ 43 k) own n := by
        rw [sub_I (by rw [nI_toInt (by omega)]; omega) (by omega), nI_toInt (by omega)]
        unfold gT
        rw [hF n hq6]
      have hgb : -1300 ≤ gT F (fun k => σ 43 k) own n := by
        unfold gT
        show -1300 ≤ (F own n : Int) - (σ 43 (own ^^^ 1 <<< n)).toInt
        omega
      have hnt := (not_tab own hs n hq6).1
      rw [hx.1] at hnt
      have body : ∀ b2 x2, (if ¬ nI own = nI t then some b else if nI (min (bg kt) (ap n)) - σ 43 (own ^^^ 1 <<< n) < z 43 own then some b else some (nI n)) = some b2 → (if nI (min (bg kt) (ap n)) - σ 43 (own ^^^ 1 <<< n) ≤ z 43 own then some (z 43 own) else some (nI (min (bg kt) (ap n)) - σ 43 (own ^^^ 1 <<< n))) = some x2 → l_X6_duel_108 (nI k1) (nI k2) (nI t) (nI own) j10 b (nI n) z = some (.inl (b2, nI n + (-1), up2 z 43 own x2)) := by
        intro b2 x2 hb2 hx2
        unfold l_X6_duel_108
        rw [if_neg (lt_neg (by omega)), if_neg (fun w => w hc0), mhas_in hs hq6, bnd_some, if_pos c, if_neg (by decide), hj, bnd_some, hw, bnd_some, hnt, gi_in (by omega) (by decide), nI_clamp (by omega), nm_eq, hz43, gi_in hs (by decide), nI_clamp (by omega), hb2, bnd_some, gi_in hs (by decide), gi_in hs (by decide), hx2, bnd_some, gi_in hs (by decide), nm_eq, bnd_some]
      generalize nI (min (bg kt) (ap n)) - σ 43 (own ^^^ 1 <<< n) = x at hg body
      have fr : ∀ v, MFD σ (up2 z 43 own v) := fun v c k hc => by rw [up2_out hc]; exact hf c k hc
      have fo : ∀ v k, k ≠ own → up2 z 43 own v 43 k = σ 43 k := fun v k hk => by rw [up2_k _ _ _ _ _ hk]; exact ho k hk
      -- the new one is the best, if it is at least as great
      have put : ∀ b2 x2, (own ≠ t → b2 = b0) → (own = t → b2 = nI n) → x2.toInt = gT F (fun k => σ 43 k) own n → (∀ q, n + 1 ≤ q → q < 6 → own.testBit q = true → gT F (fun k => σ 43 k) own q ≤ gT F (fun k => σ 43 k) own n) → l_X6_duel_108 (nI k1) (nI k2) (nI t) (nI own) j10 b (nI n) z = some (.inl (b2, nI n + (-1), up2 z 43 own x2)) → ∃ s', l_X6_duel_108 (nI k1) (nI k2) (nI t) (nI own) j10 b (nI n) z = some (.inl s') ∧ s'.2.1 = nI n + (-1) ∧ MFD σ s'.2.2 ∧ (∀ k, k ≠ own → s'.2.2 43 k = σ 43 k) ∧ (own ≠ t → s'.1 = b0) ∧ (((∀ q, n ≤ q → q < 6 → own.testBit q = false) ∧ s'.2.2 43 own = σ 43 own ∧ s'.1 = b0) ∨ ∃ q0, n ≤ q0 ∧ q0 < 6 ∧ own.testBit q0 = true ∧ gT F (fun k => σ 43 k) own q0 = (s'.2.2 43 own).toInt ∧ (∀ q, n ≤ q → q < 6 → own.testBit q = true → gT F (fun k => σ 43 k) own q ≤ (s'.2.2 43 own).toInt) ∧ (∀ q, n ≤ q → q < q0 → own.testBit q = true → gT F (fun k => σ 43 k) own q < (s'.2.2 43 own).toInt) ∧ (own = t → s'.1 = nI q0)) := by
        intro b2 x2 hb1 hb2 hx2 hall hbody
        refine ⟨(b2, nI n + (-1), up2 z 43 own x2), hbody, rfl, fr x2, fo x2, hb1, Or.inr ⟨n, Nat.le_refl _, hq6, c, ?_, fun q q1 q2 q3 => ?_, fun q q1 q2 => absurd q2 (by omega), hb2⟩⟩
        · show _ = (up2 z 43 own x2 43 own).toInt
          rw [up2_s, hx2]
        · show _ ≤ (up2 z 43 own x2 43 own).toInt
          rw [up2_s, hx2]
          by_cases e : q = n
          · rw [e]; exact Int.le_refl _
          · exact hall q (by omega) q2 q3
      rcases hst2 with ⟨s1, s2, s3⟩ | ⟨q0, s1, s2, s3, s4, s5, s6, s7⟩
      · have s2 : z 43 own = σ 43 own := s2
        have s3 : b = b0 := s3
        have hpos : 0 < own := Nat.pos_of_ne_zero (fun w => by rw [w] at c; simp at c)
        have hk : z 43 own = kF := s2.trans (hown hpos)
        have hkI : (z 43 own).toInt = -1000000 := by rw [hk]; decide
        have c1 : ¬ x < z 43 own := fun w => by rw [Int32.lt_iff_toInt_lt] at w; omega
        have c2 : ¬ x ≤ z 43 own := fun w => by rw [Int32.le_iff_toInt_le] at w; omega
        refine put (if own = t then nI n else b) x (fun e => by rw [if_neg e]; exact hbt e) (fun e => if_pos e) hg (fun q q1 q2 q3 => by rw [s1 q q1 q2] at q3; cases q3) (body _ _ ?_ (if_neg c2))
        by_cases e : own = t
        · rw [if_neg (fun w => w (by rw [e])), if_neg c1, if_pos e]
        · rw [if_pos (fun w => e ((nI_eq (by omega) (by omega)).mp w)), if_neg e]
      · have s4 : gT F (fun k => σ 43 k) own q0 = (z 43 own).toInt := s4
        have s5 : ∀ q, n + 1 ≤ q → q < 6 → own.testBit q = true → gT F (fun k => σ 43 k) own q ≤ (z 43 own).toInt := s5
        have s6 : ∀ q, n + 1 ≤ q → q < q0 → own.testBit q = true → gT F (fun k => σ 43 k) own q < (z 43 own).toInt := s6
        have s7 : own = t → b = nI q0 := s7
        by_cases c1 : x < z 43 own
        · have c1' : x.toInt < (z 43 own).toInt := Int32.lt_iff_toInt_lt.mp c1
          have c2 : x ≤ z 43 own := Int32.le_iff_toInt_le.mpr (by omega)
          refine ⟨(b, nI n + (-1), up2 z 43 own (z 43 own)), body _ _ ?_ (if_pos c2), rfl, fr _, fo _, hbt, Or.inr ⟨q0, by omega, s2, s3, ?_, fun q q1 q2 q3 => ?_, fun q q1 q2 q3 => ?_, s7⟩⟩
          · by_cases e : own = t
            · rw [if_neg (fun w => w (by rw [e])), if_pos c1]
            · rw [if_pos (fun w => e ((nI_eq (by omega) (by omega)).mp w))]
          · show _ = (up2 z 43 own (z 43 own) 43 own).toInt
            rw [up2_s]; exact s4
          · show _ ≤ (up2 z 43 own (z 43 own) 43 own).toInt
            rw [up2_s]
            by_cases e : q = n
            · rw [e]; omega
            · exact s5 q (by omega) q2 q3
          · show _ < (up2 z 43 own (z 43 own) 43 own).toInt
            rw [up2_s]
            by_cases e : q = n
            · rw [e]; omega
            · exact s6 q (by omega) q2 q3
        · have c1' : ¬ x.toInt < (z 43 own).toInt := fun w => c1 (Int32.lt_iff_toInt_lt.mpr w)
          have hb : (if ¬ nI own = nI t then some b else if x < z 43 own then some b else some (nI n)) = some (if own = t then nI n else b) := by
            by_cases e : own = t
            · rw [if_neg (fun w => w (by rw [e])), if_neg c1, if_pos e]
            · rw [if_pos (fun w => e ((nI_eq (by omega) (by omega)).mp w)), if_neg e]
          by_cases c2 : x ≤ z 43 own
          · have c2' := Int32.le_iff_toInt_le.mp c2
            exact put (if own = t then nI n else b) (z 43 own) (fun e => by rw [if_neg e]; exact hbt e) (fun e => if_pos e) (by omega) (fun q q1 q2 q3 => by have := s5 q q1 q2 q3; omega) (body _ _ hb (if_pos c2))
          · exact put (if own = t then nI n else b) x (fun e => by rw [if_neg e]; exact hbt e) (fun e => if_pos e) hg (fun q q1 q2 q3 => by have := s5 q q1 q2 q3; omega) (body _ _ hb (if_neg c2))
    · have cf : own.testBit n = false := by simpa using c
      refine ⟨(b, nI n + (-1), z), ?_, rfl, hf, ho, hbt, ?_⟩
      · show l_X6_duel_108 (nI k1) (nI k2) (nI t) (nI own) j10 b (nI n) z = _
        unfold l_X6_duel_108
        rw [if_neg (lt_neg (by omega)), if_neg (fun w => w hc0), mhas_in hs hq6, bnd_some, if_neg c, if_pos rfl, bnd_some]
      · rcases hst2 with ⟨s1, s2, s3⟩ | ⟨q0, s1, s2, s3, s4, s5, s6, s7⟩
        · refine Or.inl ⟨fun q q1 q2 => ?_, s2, s3⟩
          by_cases e : q = n
          · rw [e]; exact cf
          · exact s1 q (by omega) q2
        · refine Or.inr ⟨q0, by omega, s2, s3, s4, fun q q1 q2 q3 => ?_, fun q q1 q2 q3 => ?_, s7⟩
          · by_cases e : q = n
            · rw [e, cf] at q3; cases q3
            · exact s5 q (by omega) q2 q3
          · by_cases e : q = n
            · rw [e, cf] at q3; cases q3
            · exact s6 q (by omega) q2 q3
  · obtain ⟨b, y, z⟩ := z
    obtain ⟨hy, hf, ho, hbt, hst2⟩ := hI
    have hy : y = nI (6 - 6) + (-1) := hy
    subst hy
    refine ⟨(b, z), ?_, hf, ho, hbt, ?_⟩
    · show l_X6_duel_108 (nI k1) (nI k2) (nI t) (nI own) j10 b (nI (6 - 6) + (-1)) z = _
      unfold l_X6_duel_108
      rw [if_pos (by decide)]
    · rcases hst2 with ⟨s1, s2, s3⟩ | ⟨q0, s1, s2, s3, s4, s5, s6, s7⟩
      · exact Or.inl ⟨fun q q2 => s1 q (by omega) q2, s2, s3⟩
      · exact Or.inr ⟨q0, ⟨s2, s3, s4, fun q q2 q3 => s5 q (by omega) q2 q3, fun q q2 q3 => s6 q (by omega) q2 q3⟩, s7⟩
