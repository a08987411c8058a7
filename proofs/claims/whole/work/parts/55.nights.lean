/-! ===== judge, done, behind ===== -/
theorem LF_c (c : Nat → Nat) (p : Nat) : ∀ (m : Nat) (op : Bool), m ≤ p → (∃ q : Bool, LF c p m op = .inl (b2 q)) ∨ ∃ k, k < p ∧ LF c p m op = .inr (nI k) := by
  intro m
  induction m with
  | zero => intro op _; exact Or.inl ⟨op, rfl⟩
  | succ m ih =>
    intro op hm
    unfold LF
    by_cases hc : cst op (c (p - (m + 1))) = true
    · rw [if_pos hc]; exact ih _ (by omega)
    · rw [if_neg hc]; exact Or.inr ⟨p - (m + 1), by omega, rfl⟩
theorem FA_c (c : Nat → Nat) (p : Nat) (hp : p ≤ 60) : (FA c p = -6 ∧ LF c p p false = .inl 0) ∨ ∃ k, k ≤ 60 ∧ FA c p = nI k := by
  unfold FA
  rcases LF_c c p p false (Nat.le_refl _) with ⟨q, h⟩ | ⟨k, hk, h⟩
  · rw [h]
    cases q with
    | false => exact Or.inl ⟨rfl, rfl⟩
    | true => exact Or.inr ⟨p, hp, rfl⟩
  · rw [h]; exact Or.inr ⟨k, by omega, rfl⟩
theorem fo_congr {σ X : St} (h : ∀ c k, 29 ≤ c → c ≤ 36 → X c k = σ c k) : f_X6_faultOf X = f_X6_faultOf σ := by
  have h12 : X 29 12 = σ 29 12 := h _ _ (by decide) (by decide)
  have h36 : ∀ k, X 36 k = σ 36 k := fun k => h _ _ (by decide) (by decide)
  have e : ∀ y1 y2, l_X6_faultOf_4 X y1 y2 = l_X6_faultOf_4 σ y1 y2 := fun y1 y2 => by rw [l6_eq, l6_eq, h12, h36]
  unfold f_X6_faultOf
  simp only [e, h12]
theorem mv_congr {B : Nat} {V : VW} {σ X : St} (h : ∀ c k, 29 ≤ c → c ≤ 36 → X c k = σ c k) (hL : LR B V (mv σ)) : LR B V (mv X) := by
  refine LR_congr hL (fun _ _ _ _ => rfl) (fun i k h0 hi => ?_)
  match i, hi with
  | 0, _ =>
    obtain ⟨q1, q2⟩ := h0 rfl
    rcases (show k = 7 ∨ k = 8 ∨ k = 9 ∨ k = 10 ∨ k = 11 ∨ k = 12 by omega) with rfl | rfl | rfl | rfl | rfl | rfl <;> exact h _ _ (by decide) (by decide)
  | 1, _ | 2, _ | 3, _ | 4, _ | 5, _ | 6, _ | 7, _ => exact h _ _ (by decide) (by decide)
theorem NF5_Agr {σ σ' : St} (h : NF5 σ σ') : Agr σ σ' := fun c k hr => h c k (by unfold rel at hr; omega) (by unfold rel at hr; omega)
theorem NF6_Agr {τ τ' : St} (h : NF6 τ τ') : Agr τ τ' := fun c k hr => h c k (by unfold rel at hr; omega) (by unfold rel at hr; omega)
theorem nights {σ : St} {p B : Nat} {c : Nat → Nat} (hB : B < 2 ^ 29) (hL : LR B (cv σ 1) (mv σ)) (hPT : PT σ p c) (hF : LF c p p false = .inl 0) : ∃ (r : Int32) (σ1 : St), f_X1_runOn (becS σ 9 1) = some (r, σ1) ∧ (r = 0 ∨ r = 1) ∧ NF5 σ σ1 ∧ ∀ X : St, (∀ c k, 29 ≤ c → c ≤ 36 → X c k = σ c k) → ∃ (s : Int32) (τ : St), f_X6_goNights X = some (s, τ) ∧ NF6 X τ ∧ ((r = 1 ∧ s = -6 ∧ LR (B + 600) (cv σ1 9) (nv τ) ∧ ∃ a : Nat, a ≤ 60 ∧ σ1 18 2 = nI a ∧ τ 29 23 = nI a) ∨ (∃ a w : Nat, r = 0 ∧ s = nI a ∧ a ≤ 60 ∧ 0 < w ∧ w < 9 ∧ σ1 18 2 = nI a ∧ σ1 18 3 = nI w ∧ τ 29 22 = nI w)) := by
  obtain ⟨hp, g1, g2, g3⟩ := hPT
  have hN0 : NF5 σ (up2 (up2 (becS σ 9 1) 18 2 0) 18 3 0) := by
    intro c k h1 h2
    by_cases h18 : c = 18
    · subst h18
      rw [up2_k _ _ _ _ _ (by omega), up2_k _ _ _ _ _ (by omega), becS_out (by omega)]
    · rw [up2_out h18, up2_out h18, becS_out (by omega)]
  have hT5 : T5 (up2 (up2 (becS σ 9 1) 18 2 0) 18 3 0) p c := T5_nf ⟨g1, fun k hk => (g3 k hk).2.1⟩ hN0
  have key : ∀ X : St, (∀ c k, 29 ≤ c → c ≤ 36 → X c k = σ c k) → RunR (B + 600) (up2 (up2 (becS σ 9 1) 18 2 0) 18 3 0) (up2 (anS X) 29 23 0) (loop (fun s : Int32 × Int32 × St => l_X1_runOn_15 s.1 s.2.1 s.2.2) 400 (-6, 0, up2 (up2 (becS σ 9 1) 18 2 0) 18 3 0)) (loop (fun s : Int32 × St => l_X6_goNights_11 s.1 s.2) 400 (0, up2 (anS X) 29 23 0)) := by
    intro X hX
    have hL0 : LR B (cv (up2 (up2 (becS σ 9 1) 18 2 0) 18 3 0) 9) (nv (up2 (anS X) 29 23 0)) := nv_up (Or.inr rfl) (LR_now (mv_congr hX (cv9_up (cv9_up (LR_draft hL)))))
    have hT6 : T6 (up2 (anS X) 29 23 0) p c := by
      refine ⟨?_, fun k hk => ?_⟩
      · rw [up2_k _ _ _ _ _ (by decide), anS_29 (by omega), hX 29 12 (by decide) (by decide)]; exact g2
      · rw [up2_out (by decide), anS_out (by omega), hX 36 k (by decide) (by decide)]; exact (g3 k hk).1
    have r := run_all hp (fun k hk => (g3 k hk).2.2) p (Nat.le_refl _) B 0 _ _ 400 400 hF hL0 (by omega) hT5 hT6 rfl rfl (by omega) (by omega) (by omega)
    rw [Nat.sub_self] at r
    obtain ⟨σ2, τ2, x1, x2, x3⟩ := r
    refine ⟨σ2, τ2, x1, x2, ?_⟩
    rcases x3 with ⟨y1, y2, y3, y4⟩ | x3
    · exact Or.inl ⟨y1, y2, LR_mono (by omega) y3, y4⟩
    · exact Or.inr x3
  have run : ∀ (z : St ⊕ (Int32 × St)), loop (fun s : Int32 × Int32 × St => l_X1_runOn_15 s.1 s.2.1 s.2.2) 400 (-6, 0, up2 (up2 (becS σ 9 1) 18 2 0) 18 3 0) = some z → f_X1_runOn (becS σ 9 1) = (match z with
      | .inl z6 => some ((1, z6))
      | .inr z19 => some (z19)) := by
    intro z hz
    unfold f_X1_runOn
    rw [nm_eq, nm_eq, hz, bnd_some]
    cases z <;> rfl
  have go : ∀ (X : St) (z : St ⊕ (Int32 × St)), loop (fun s : Int32 × St => l_X6_goNights_11 s.1 s.2) 400 (0, up2 (anS X) 29 23 0) = some z → f_X6_goNights X = (match z with
      | .inl z5 => some (((-6 : Int32), z5))
      | .inr z18 => some (z18)) := by
    intro X z hz
    unfold f_X6_goNights
    rw [asNow_eq, bnd_some, nm_eq, hz, bnd_some]
    cases z <;> rfl
  have hNX : ∀ X τ, NF6 (up2 (anS X) 29 23 0) τ → NF6 X τ := fun X τ h c k h1 h2 => by
    rw [h c k h1 h2]
    by_cases h29 : c = 29
    · subst h29; rw [up2_k _ _ _ _ _ (by omega), anS_29 (by omega)]
    · rw [up2_out h29, anS_out (by omega)]
  obtain ⟨σ1, τx, a1, ax, a3⟩ := key σ (fun _ _ _ _ => rfl)
  rcases a3 with ⟨L5, l2, l3, l4⟩ | ⟨m1, m2, m3, m4, m5, L5, m6⟩
  · refine ⟨1, σ1, (run _ L5).trans rfl, Or.inr rfl, NF5_tr hN0 a1, fun X hX => ?_⟩
    obtain ⟨σ2, τ2, b1, b2, b3⟩ := key X hX
    rcases b3 with ⟨M5, M6, hL1, a', ha, u1, u2⟩ | ⟨n1, n2, n3, n4, n5, M5, n6⟩
    · have e : σ2 = σ1 := Sum.inl.inj (Option.some.inj (M5.symm.trans L5))
      subst e
      exact ⟨-6, τ2, (go X _ M6).trans rfl, hNX X τ2 b2, Or.inl ⟨rfl, rfl, hL1, a', ha, u1, u2⟩⟩
    · have := Option.some.inj (M5.symm.trans L5); cases this
  · refine ⟨0, σ1, (run _ L5).trans rfl, Or.inl rfl, NF5_tr hN0 a1, fun X hX => ?_⟩
    obtain ⟨σ2, τ2, b1, b2, b3⟩ := key X hX
    rcases b3 with ⟨M5, M6, hL1, a', ha, u1, u2⟩ | ⟨a', w, u1, u2, u3, M5, M6, u4, u5, u6⟩
    · have := Option.some.inj (M5.symm.trans L5); cases this
    · have e : σ2 = σ1 := congrArg Prod.snd (Sum.inr.inj (Option.some.inj (M5.symm.trans L5)))
      subst e
      exact ⟨nI a', τ2, (go X _ M6).trans rfl, hNX X τ2 b2, Or.inr ⟨a', w, rfl, rfl, u1, u2, u3, u4, u5, u6⟩⟩
theorem draft_ok {σ σ1 : St} {p : Nat} {c : Nat → Nat} {r : Int32} (hPT : PT σ p c) (hF : FA c p = -6) (h : f_X1_runOn (becS σ 9 1) = some (r, σ1)) (hr : r = 0 ∨ r = 1) : f_X5_draftNights σ = some (r, σ1) := by
  unfold f_X5_draftNights
  rw [f5_fault hPT, bnd_some, hF, if_pos rfl, nm_eq, h, bnd_some]
  unfold gb
  exact if_pos hr
theorem draft_no {σ : St} {p k : Nat} {c : Nat → Nat} (hPT : PT σ p c) (hk : k ≤ 60) (hF : FA c p = nI k) : f_X5_draftNights σ = some (0, σ) := by
  unfold f_X5_draftNights
  rw [f5_fault hPT, bnd_some, hF, if_neg (ne6 (by omega))]
theorem pc_judge : PC_judge := by
  intro N g σ a1 hN hI
  rcases wi_cases a1 0 1 with ⟨hw, c1, c2⟩ | ⟨hw, -⟩
  rotate_left
  · refine ⟨-2, σ, σ, ?_, ?_, Inv_mono hI⟩
    · unfold f_X5_judge; rw [hw]; rfl
    · unfold f_X6_judge; rw [in_eq, hw]; rfl
  obtain ⟨p, c, hPT⟩ := PAD_PT hI.2.1
  rcases FA_c c p hPT.1 with ⟨hF, hLF⟩ | ⟨k, hk, hF⟩
  rotate_left
  · refine ⟨-5, σ, σ, ?_, ?_, Inv_mono hI⟩
    · unfold f_X5_judge; rw [hw, bnd_some, if_pos (by decide), f5_fault hPT, bnd_some, hF, if_neg (ne6 (by omega))]
    · unfold f_X6_judge; rw [in_eq, hw, bnd_some, if_pos (by decide), f6_fault hPT, bnd_some, hF, if_neg (lt_neg (by omega))]
  obtain ⟨r, σ1, h1, h2, h3, h4⟩ := nights (by omega) hI.1 hPT hLF
  have hX : ∀ c k, 29 ≤ c → c ≤ 36 → σ1 c k = σ c k := fun c k q1 q2 => h3 c k (by omega) (by omega)
  obtain ⟨s, τ, k1, k2, k3⟩ := h4 σ1 hX
  have hd := draft_ok hPT hF h1 h2
  have hInv : Inv (N + 1) g τ := Inv_next hI (Agr_trans (NF5_Agr h3) (NF6_Agr k2))
  have E5 : f_X5_judge a1 σ = (if r = 0 then (if ¬ a1 = 0 then (some ((σ1 18 3, σ1))) else (some ((σ1 18 2, σ1)))) else (some (((-6 : Int32), σ1)))) := by
    unfold f_X5_judge
    rw [hw, bnd_some, if_pos (by decide), f5_fault hPT, bnd_some, hF, if_pos rfl, hd, bnd_some]
  have E6 : f_X6_judge a1 σ1 = (if s < 0 then (some ((s, τ))) else (if ¬ a1 = 0 then (some ((τ 29 22, τ))) else (some ((s, τ))))) := by
    unfold f_X6_judge
    rw [in_eq, hw, bnd_some, if_pos (by decide), fo_congr hX, f6_fault hPT, bnd_some, hF, if_pos (by decide), k1, bnd_some]
  rcases k3 with ⟨rfl, rfl, -⟩ | ⟨a, w, rfl, rfl, x1, x2, x3, x4, x5, x6⟩
  · refine ⟨-6, σ1, τ, ?_, ?_, hInv⟩
    · rw [E5, if_neg (by decide)]
    · rw [E6, if_pos (by decide)]
  · rw [if_pos rfl] at E5
    rw [if_neg (lt_neg (by omega))] at E6
    by_cases c : a1 = 0
    · refine ⟨nI a, σ1, τ, ?_, ?_, hInv⟩
      · rw [E5, if_neg (fun z => z c), x4]
      · rw [E6, if_neg (fun z => z c)]
    · refine ⟨nI w, σ1, τ, ?_, ?_, hInv⟩
      · rw [E5, if_pos c, x5]
      · rw [E6, if_pos c, x6]
theorem pc_behind : PC_behind := by
  intro N g σ a1 a2 hN hI
  rcases there (x := a1) hI.1 (σ := σ) (σ' := σ) rfl rfl with ⟨u1, u2⟩ | ⟨h', k', hh, hk', rfl, v1, w1, b1, u1, u2⟩
  · refine ⟨-1, σ, σ, ?_, ?_, Inv_mono hI⟩
    · unfold f_X5_behind; rw [u1]; rfl
    · unfold f_X6_behind; rw [u2]; rfl
  rcases wi_cases a2 0 3 with ⟨hw, c1, c2⟩ | ⟨hw, -⟩
  rotate_left
  · refine ⟨-2, σ, σ, ?_, ?_, Inv_mono hI⟩
    · unfold f_X5_behind; rw [u1, bnd_some, if_pos (by decide), hw]; rfl
    · unfold f_X6_behind; rw [u2, bnd_some, if_pos (by decide), in_eq, hw]; rfl
  obtain ⟨p, c, hPT⟩ := PAD_PT hI.2.1
  rcases FA_c c p hPT.1 with ⟨hF, hLF⟩ | ⟨k, hk, hF⟩
  rotate_left
  · refine ⟨-5, σ, σ, ?_, ?_, Inv_mono hI⟩
    · unfold f_X5_behind; rw [u1, bnd_some, if_pos (by decide), hw, bnd_some, if_pos (by decide), draft_no hPT hk hF]; rfl
    · unfold f_X6_behind f_X6_barOfNights; rw [u2, bnd_some, if_pos (by decide), in_eq, hw, bnd_some, if_pos (by decide), f6_fault hPT, bnd_some, hF, if_pos (show (0 : Int32) ≤ nI k from nI_le (a := 0) (by omega) (by omega))]; rfl
  obtain ⟨r, σ1, h1, h2, h3, h4⟩ := nights (by omega) hI.1 hPT hLF
  have hX : ∀ c k, 29 ≤ c → c ≤ 36 → σ1 c k = σ c k := fun c k q1 q2 => h3 c k (by omega) (by omega)
  obtain ⟨s, τ, k1, k2, k3⟩ := h4 σ1 hX
  have hd := draft_ok hPT hF h1 h2
  have hInv : Inv (N + 1) g τ := Inv_next hI (Agr_trans (NF5_Agr h3) (NF6_Agr k2))
  have u2' : f_X6_isThere (nI k') σ1 = some 1 := by
    have := isT_in (σ := σ1) hh hk' ((hX 29 0 (by decide) (by decide)).trans w1)
    rw [if_pos b1] at this
    exact this
  have E5 : f_X5_behind (nI k') a2 σ = (if r = 0 then (some (((-5 : Int32), σ1))) else (Option.bind (f_X0_tell 9 (nI k') a2 σ1) (fun r4 => some ((r4, σ1))))) := by
    unfold f_X5_behind
    rw [u1, bnd_some, if_pos (by decide), hw, bnd_some, if_pos (by decide), hd, bnd_some]
  have E6 : f_X6_behind (nI k') a2 σ1 = (if s < 0 then Option.bind (f_X6_stateNow (nI k') a2 τ) (fun r4 => some ((r4, τ))) else some (((-5 : Int32), τ))) := by
    unfold f_X6_behind f_X6_barOfNights
    rw [u2', bnd_some, if_pos (by decide), in_eq, hw, bnd_some, if_pos (by decide), fo_congr hX, f6_fault hPT, bnd_some, hF, if_neg (by decide), k1, bnd_some]
    by_cases hs : s < 0
    · rw [if_pos hs, if_pos hs]; rfl
    · rw [if_neg hs, if_neg hs]; rfl
  rcases k3 with ⟨rfl, rfl, hL1, -⟩ | ⟨a, w, rfl, rfl, x1, x2, x3, x4, x5, x6⟩
  · obtain ⟨h, o, d, l, f, s, g1, g2, g3, g4, g5, g6, e1, e2, e3, e4, e5, e6, e7, e8, e9, e10, e11, e12, q1, q2, q3, q4, q5⟩ := hL1
    have hτ : τ 29 0 = σ 29 0 := (k2 29 0 (by decide) (by decide)).trans (hX 29 0 (by decide) (by decide))
    have hhe : h' = h := (nI_eq (by omega) (by omega)).mp ((w1.symm.trans hτ.symm).trans e2)
    subst hhe
    obtain ⟨r, ha, hb⟩ := tell_eq (f := f) (s := s) (d := d) (l := l) hk' g2 e3 e4 (q4 k' hk') b1 ⟨c1, c2⟩
    refine ⟨r, σ1, τ, ?_, ?_, hInv⟩
    · rw [E5, if_neg (by decide), ha]; rfl
    · rw [E6, if_pos (by decide), hb]; rfl
  · refine ⟨-5, σ1, τ, ?_, ?_, hInv⟩
    · rw [E5, if_pos rfl]
    · rw [E6, if_neg (lt_neg (by omega))]
