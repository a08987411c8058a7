/-! ===== year ===== -/
theorem dk_tab : ∀ r, r < 8 → f_X0_drawnKind (nI r) = some (if r = 0 then 46 else if r = 1 then 42 else if r = 2 then 126 else if r = 3 then 33 else 0) := by decide +kernel
theorem rem_n {a : Nat} {d : Nat} (x : Int32) (hx : x = nI d) (ha : a < 2 ^ 31) (h0 : 0 < d) (hd : d < 2 ^ 31) : jrem (nI a) x = nI (a % d) := by rw [hx]; exact jrem_n ha h0 hd
theorem div_n {a : Nat} {d : Nat} (x : Int32) (hx : x = nI d) (ha : a < 2 ^ 31) (h0 : 0 < d) (hd : d < 2 ^ 31) : nI a / x = nI (a / d) := by rw [hx]; exact pk_div ha h0 hd
/-- one drawn act, both sides -/
theorem draw_step {B x cnt : Nat} {σ τ : St} (hx : x < 65537) (hB : B < 2 ^ 29) (hL : LR B (cv σ 9) (nv τ)) (m i : Nat) (him : i < m) (hm : m ≤ 99) : ∃ (cnt' : Nat) (σ' τ' : St), cnt' ≤ cnt + 1 ∧ l_X0_runYear_8 9 (nI m) (nI cnt) (nI x) (nI i) σ = some (.inl (nI cnt', nI ((75 * x + 74) % 65537), nI (i + 1), σ')) ∧ l_X6_year_46 (nI m) (nI x) (nI cnt) (nI i) τ = some (.inl (nI ((75 * x + 74) % 65537), nI cnt', nI (i + 1), τ')) ∧ LR (B + 20) (cv σ' 9) (nv τ') ∧ CF σ σ' ∧ MF τ τ' := by
  have hx' : jrem ((75 : Int32) * nI x + 74) 65537 = nI ((75 * x + 74) % 65537) := by
    rw [show (75 : Int32) * nI x = nI (75 * x) from pk_mul 75 x, show nI (75 * x) + 74 = nI (75 * x + 74) from nI_add _ 74]
    exact rem_n (d := 65537) 65537 rfl (by omega) (by decide) (by decide)
  have hlt : (75 * x + 74) % 65537 < 65537 := Nat.mod_lt _ (by decide)
  generalize (75 * x + 74) % 65537 = y at hx' hlt ⊢
  have h8 : jrem (nI y) 8 = nI (y % 8) := rem_n (d := 8) 8 rfl (by omega) (by decide) (by decide)
  have hd8 : nI y / 8 = nI (y / 8) := div_n (d := 8) 8 rfl (by omega) (by decide) (by decide)
  have hd64 : nI y / 64 = nI (y / 64) := div_n (d := 64) 64 rfl (by omega) (by decide) (by decide)
  have hk : jrem (nI (y / 8)) 6 = nI (y / 8 % 6) := rem_n (d := 6) 6 rfl (by omega) (by decide) (by decide)
  have hq : jrem (nI (y / 64)) 6 = nI (y / 64 % 6) := rem_n (d := 6) 6 rfl (by omega) (by decide) (by decide)
  have hk6 : y / 8 % 6 < 6 := Nat.mod_lt _ (by decide)
  have hq6 : y / 64 % 6 < 6 := Nat.mod_lt _ (by decide)
  have h8l : y % 8 < 8 := Nat.mod_lt _ (by decide)
  generalize y / 8 % 6 = k at hk hk6
  generalize y / 64 % 6 = q at hq hq6
  generalize y % 8 = r at h8 h8l
  have hL' := LR_mono (show B ≤ B + 20 by omega) hL
  have E5 : ∀ (kd : Int32) (w : Int32) (σ' : St), f_X0_drawnKind (nI r) = some kd → f_X0_tryAct 9 kd (nI k) (nI q) σ = some (w, σ') → l_X0_runYear_8 9 (nI m) (nI cnt) (nI x) (nI i) σ = some (.inl ((if ¬ kd = 0 then nI cnt else if ¬ w = 0 then nI cnt else nI cnt + 1), nI y, nI (i + 1), σ')) := by
    intro kd w σ' e1 e2
    unfold l_X0_runYear_8
    rw [if_neg (nI_ge him (by omega)), nm_eq, hx', h8, e1, bnd_some, hd8, hd64, hk, hq, e2, bnd_some]
    by_cases c1 : kd = 0
    · by_cases c2 : w = 0
      · simp [c1, c2, nI_1]
      · simp [c1, c2, nI_1]
    · simp [c1, nI_1]
  have E6 : ∀ (sg : Int32) (w : Int32) (τ' : St), ¬ r = 0 → (if ¬ nI r = 1 then (if ¬ nI r = 2 then (if ¬ nI r = 3 then (some (65 + nI q)) else (some (33 : Int32))) else (some 126)) else (some 42)) = some sg → f_X6_act (nI k) sg τ = some (w, τ') → l_X6_year_46 (nI m) (nI x) (nI cnt) (nI i) τ = some (.inl (nI y, nI cnt + (if ¬ w = 0 then 0 else if nI r ≤ 3 then 0 else 1), nI (i + 1), τ')) := by
    intro sg w τ' hr e1 e2
    unfold l_X6_year_46
    rw [if_neg (nI_ge him (by omega)), nm_eq, hx', h8, if_pos (nI_ne0 (by omega) (by omega)), hd8, hd64, hk, hq, e1, bnd_some, e2, bnd_some, nI_1]
    by_cases c1 : w = 0
    · by_cases c2 : nI r ≤ 3
      · simp [c1, c2]
      · simp [c1, c2]
    · simp [c1]
  have nz : nI cnt + 0 = nI cnt := by simp
  rcases (show r = 0 ∨ r = 1 ∨ r = 2 ∨ r = 3 ∨ (3 < r ∧ r < 8) by omega) with rfl | rfl | rfl | rfl | ⟨hr, -⟩
  · obtain ⟨w, σ', τ', hw, e1, e2, e3, e4, e5⟩ := a_night (y := nI k) (z := nI q) hL'
    refine ⟨cnt, σ', τ', by omega, ?_, ?_, e3, e4, e5⟩
    · rw [E5 46 (nI w) σ' (dk_tab 0 (by decide)) e1, if_pos (by decide)]
    · unfold l_X6_year_46
      rw [if_neg (nI_ge him (by omega)), nm_eq, hx', h8, if_neg (fun w => w rfl), e2, nI_1]
      rfl
  · obtain ⟨w, σ', τ', hw, e1, e2, e3, e4, e5⟩ := a_lamp (z := nI q) hL' hk6
    refine ⟨cnt, σ', τ', by omega, ?_, ?_, e3, e4, e5⟩
    · rw [E5 42 (nI w) σ' (dk_tab 1 (by decide)) e1, if_pos (by decide)]
    · rw [E6 42 (nI w) τ' (by decide) (if_neg (fun w => w rfl)) e2]
      by_cases c : nI w = 0
      · simp [c]; rfl
      · simp [c]
  · obtain ⟨w, σ', τ', hw, e1, e2, e3, e4, e5⟩ := a_dog (z := nI q) hL' hk6
    refine ⟨cnt, σ', τ', by omega, ?_, ?_, e3, e4, e5⟩
    · rw [E5 126 (nI w) σ' (dk_tab 2 (by decide)) e1, if_pos (by decide)]
    · rw [E6 126 (nI w) τ' (by decide) (by rw [if_pos (by decide), if_neg (fun w => w rfl)]) e2]
      by_cases c : nI w = 0
      · simp [c]; rfl
      · simp [c]
  · obtain ⟨w, σ', τ', hw, e1, e2, e3, e4, e5⟩ := a_catch (z := nI q) (by omega) hL' hk6
    refine ⟨cnt, σ', τ', by omega, ?_, ?_, e3, e4, e5⟩
    · rw [E5 33 (nI w) σ' (dk_tab 3 (by decide)) e1, if_pos (by decide)]
    · rw [E6 33 (nI w) τ' (by decide) (by rw [if_pos (by decide), if_pos (by decide), if_neg (fun w => w rfl)]) e2]
      by_cases c : nI w = 0
      · simp [c]; rfl
      · simp [c]
  · obtain ⟨w, σ', τ', hw, e1, e2, e3, e4, e5⟩ := a_rob hL hk6 hq6
    have hdk : f_X0_drawnKind (nI r) = some 0 := by
      rw [dk_tab r h8l, if_neg (by omega), if_neg (by omega), if_neg (by omega), if_neg (by omega)]
    have ne : ∀ j : Nat, j ≤ 3 → ¬ nI r = nI j := fun j hj z => by
      have := (nI_eq (a := r) (b := j) (by omega) (by omega)).mp z
      omega
    have h65 : (65 : Int32) + nI q = nI (65 + q) := nI_add 65 q
    have hsg : (if ¬ nI r = 1 then (if ¬ nI r = 2 then (if ¬ nI r = 3 then (some (65 + nI q)) else (some (33 : Int32))) else (some 126)) else (some 42)) = some (nI (65 + q)) := by
      rw [if_pos (show ¬ nI r = 1 from ne 1 (by decide)), if_pos (show ¬ nI r = 2 from ne 2 (by decide)), if_pos (show ¬ nI r = 3 from ne 3 (by decide)), h65]
    refine ⟨if w = 0 then cnt + 1 else cnt, σ', τ', by split <;> omega, ?_, ?_, e3, e4, e5⟩
    · rw [E5 0 (nI w) σ' hdk e1, if_neg (fun w => w rfl)]
      by_cases c : w = 0
      · rw [if_neg (fun z => z (by rw [c]; rfl)), if_pos c, nI_1]
      · rw [if_pos (nI_ne0 (by omega) (by omega)), if_neg c]
    · rw [E6 _ (nI w) τ' (by omega) hsg e2]
      by_cases c : w = 0
      · rw [if_neg (fun z => z (by rw [c]; rfl)), if_neg (show ¬ nI r ≤ 3 from nI_ge (a := 3) hr (by omega)), if_pos c, nI_1]
      · rw [if_pos (nI_ne0 (by omega) (by omega)), if_neg c, nz]
theorem year_loops {m : Nat} (hm : m ≤ 99) : ∀ (n : Nat), n ≤ m → ∀ (B x cnt : Nat) (σ τ : St) (f1 f2 : Nat), x < 65537 → B + 20 * n < 2 ^ 29 → LR B (cv σ 9) (nv τ) → n < f1 → n < f2 → ∃ (cnt' : Nat) (σ' τ' : St), loop (fun s : Int32 × Int32 × Int32 × St => l_X0_runYear_8 9 (nI m) s.1 s.2.1 s.2.2.1 s.2.2.2) f1 (nI cnt, nI x, nI (m - n), σ) = some (nI cnt', σ') ∧ loop (fun s : Int32 × Int32 × Int32 × St => l_X6_year_46 (nI m) s.1 s.2.1 s.2.2.1 s.2.2.2) f2 (nI x, nI cnt, nI (m - n), τ) = some (nI cnt', τ') ∧ LR (B + 20 * n) (cv σ' 9) (nv τ') ∧ CF σ σ' ∧ MF τ τ' := by
  intro n
  induction n with
  | zero =>
    intro hn B x cnt σ τ f1 f2 hx hB hL h1 h2
    obtain ⟨f1, rfl⟩ : ∃ f, f1 = f + 1 := ⟨f1 - 1, by omega⟩
    obtain ⟨f2, rfl⟩ : ∃ f, f2 = f + 1 := ⟨f2 - 1, by omega⟩
    refine ⟨cnt, σ, τ, ?_, ?_, hL, fun _ _ _ => rfl, fun _ _ _ _ => rfl⟩
    · refine loop_ex (body := fun s : Int32 × Int32 × Int32 × St => l_X0_runYear_8 9 (nI m) s.1 s.2.1 s.2.2.1 s.2.2.2) (s := (nI cnt, nI x, nI (m - 0), σ)) ?_
      show l_X0_runYear_8 9 (nI m) (nI cnt) (nI x) (nI (m - 0)) σ = _
      unfold l_X0_runYear_8
      rw [Nat.sub_zero, if_pos (Int32.le_refl _)]
    · refine loop_ex (body := fun s : Int32 × Int32 × Int32 × St => l_X6_year_46 (nI m) s.1 s.2.1 s.2.2.1 s.2.2.2) (s := (nI x, nI cnt, nI (m - 0), τ)) ?_
      show l_X6_year_46 (nI m) (nI x) (nI cnt) (nI (m - 0)) τ = _
      unfold l_X6_year_46
      rw [Nat.sub_zero, if_pos (Int32.le_refl _)]
  | succ n ih =>
    intro hn B x cnt σ τ f1 f2 hx hB hL h1 h2
    obtain ⟨f1, rfl⟩ : ∃ f, f1 = f + 1 := ⟨f1 - 1, by omega⟩
    obtain ⟨f2, rfl⟩ : ∃ f, f2 = f + 1 := ⟨f2 - 1, by omega⟩
    obtain ⟨cnt1, σ1, τ1, -, e1, e2, e3, e4, e5⟩ := draw_step (cnt := cnt) hx (by omega) hL m (m - (n + 1)) (by omega) hm
    obtain ⟨cnt2, σ2, τ2, k1, k2, k3, k4, k5⟩ := ih (by omega) (B + 20) ((75 * x + 74) % 65537) cnt1 σ1 τ1 f1 f2 (Nat.mod_lt _ (by decide)) (by omega) e3 (by omega) (by omega)
    rw [show m - n = m - (n + 1) + 1 by omega] at k1 k2
    refine ⟨cnt2, σ2, τ2, ?_, ?_, ?_, fun c k h => (k4 c k h).trans (e4 c k h), fun c k h h' => (k5 c k h h').trans (e5 c k h h')⟩
    · rw [loop_in (body := fun s : Int32 × Int32 × Int32 × St => l_X0_runYear_8 9 (nI m) s.1 s.2.1 s.2.2.1 s.2.2.2) (s := (nI cnt, nI x, nI (m - (n + 1)), σ)) e1]
      exact k1
    · rw [loop_in (body := fun s : Int32 × Int32 × Int32 × St => l_X6_year_46 (nI m) s.1 s.2.1 s.2.2.1 s.2.2.2) (s := (nI x, nI cnt, nI (m - (n + 1)), τ)) e2]
      exact k2
    · rw [show B + 20 * (n + 1) = B + 20 + 20 * n by omega]
      exact k3
def sumV (F : Nat → Int32) : Nat → Int32
  | 0 => 0
  | n + 1 => sumV F n + F n
theorem heaps_eq (σ : St) : f_X0_heapsTogether 9 σ = some (sumV (fun j => σ 12 j) 6) := by
  have h := loop_to (body := fun s : Int32 × Int32 => l_X0_heapsTogether_4 9 σ s.1 s.2) (fun i => (sumV (fun j => σ 12 j) i, nI i)) 6 (sumV (fun j => σ 12 j) 6) (fun i hi => ?_) ?_ 400 (by decide)
  · unfold f_X0_heapsTogether
    have h : loop (fun s : Int32 × Int32 => l_X0_heapsTogether_4 9 σ s.1 s.2) 400 (0, 0) = _ := h
    rw [h]
    rfl
  · show l_X0_heapsTogether_4 9 σ _ (nI i) = _
    unfold l_X0_heapsTogether_4
    rw [if_neg (six_le hi), gi_in hi (by decide), nm_eq, nI_clamp (by omega), nI_1]
    rfl
  · show l_X0_heapsTogether_4 9 σ _ (nI 6) = _
    unfold l_X0_heapsTogether_4
    rw [if_pos (by decide)]
theorem apples_eq (σ : St) : f_X0_applesTogether 9 σ = some (sumV (fun j => σ 10 j) 6) := by
  have h := loop_to (body := fun s : Int32 × Int32 => l_X0_applesTogether_4 9 σ s.1 s.2) (fun i => (sumV (fun j => σ 10 j) i, nI i)) 6 (sumV (fun j => σ 10 j) 6) (fun i hi => ?_) ?_ 400 (by decide)
  · unfold f_X0_applesTogether
    have h : loop (fun s : Int32 × Int32 => l_X0_applesTogether_4 9 σ s.1 s.2) 400 (0, 0) = _ := h
    rw [h]
    rfl
  · show l_X0_applesTogether_4 9 σ _ (nI i) = _
    unfold l_X0_applesTogether_4
    rw [if_neg (six_le hi), gi_in hi (by decide), nm_eq, nI_clamp (by omega), nI_1]
    rfl
  · show l_X0_applesTogether_4 9 σ _ (nI 6) = _
    unfold l_X0_applesTogether_4
    rw [if_pos (by decide)]
theorem year_sums {B : Nat} {σ τ : St} {z : Int32} (hL : LR B (cv σ 9) (nv τ)) : loop (fun s : Int32 × Int32 × Int32 => l_X6_year_187 (z, τ) s.1 s.2.1 s.2.2) 400 (0, 0, 0) = some (sumV (fun j => σ 12 j) 6, sumV (fun j => σ 10 j) 6) := by
  obtain ⟨h, o, d, l, f, s, ap, bg, hp, rb, H⟩ := LR_LM hL
  obtain ⟨⟨h1, -⟩, ⟨-, e2, -⟩, -, p1, p2, -⟩ := H
  have e2 : τ 29 0 = nI h := e2
  refine loop_to (body := fun s : Int32 × Int32 × Int32 => l_X6_year_187 (z, τ) s.1 s.2.1 s.2.2) (fun i => (sumV (fun j => σ 12 j) i, sumV (fun j => σ 10 j) i, nI i)) 6 _ (fun i hi => ?_) ?_ 400 (by decide)
  · show l_X6_year_187 (z, τ) _ _ (nI i) = _
    unfold l_X6_year_187
    rw [if_neg (six_le hi), show (z, τ).2 29 0 = nI h from e2, mhas_in h1 hi, bnd_some]
    by_cases hb : h.testBit i = true
    · obtain ⟨-, ⟨a1, a2⟩, -, ⟨b1, b2⟩, -⟩ := p1 i hi hb
      rw [if_pos hb, if_neg (by decide), gi_in hi (by decide), gi_in hi (by decide), nI_clamp (by omega), bnd_some, bnd_some, if_neg (by decide), bnd_some, nI_1, show (z, τ).2 38 i = nI (hp i) from b2, show (z, τ).2 37 i = nI (ap i) from a2]
      show some (Sum.inl (sumV (fun j => σ 12 j) i + nI (hp i), sumV (fun j => σ 10 j) i + nI (ap i), nI (i + 1))) = some (Sum.inl (sumV (fun j => σ 12 j) i + σ 12 i, sumV (fun j => σ 10 j) i + σ 10 i, nI (i + 1)))
      rw [show σ 12 i = nI (hp i) from b1, show σ 10 i = nI (ap i) from a1]
    · obtain ⟨a1, -, a3, -⟩ := p2 i hi (by simpa using hb)
      rw [if_neg hb, if_pos rfl, bnd_some, bnd_some, if_pos rfl, bnd_some, nI_1]
      show _ = some (Sum.inl (sumV (fun j => σ 12 j) i + σ 12 i, sumV (fun j => σ 10 j) i + σ 10 i, nI (i + 1)))
      rw [show σ 12 i = 0 from a3, show σ 10 i = 0 from a1]
  · show l_X6_year_187 (z, τ) _ _ (nI 6) = _
    unfold l_X6_year_187
    rw [if_pos (by decide)]
theorem pc_year : PC_year := by
  intro N g σ a1 a2 a3 hN hI
  rcases wi_cases a1 0 9999 with ⟨w1, c1, c2⟩ | ⟨w1, -⟩
  rotate_left
  · refine ⟨-2, σ, σ, ?_, ?_, Inv_mono hI⟩
    · unfold f_X5_year; rw [w1]; rfl
    · unfold f_X6_year; rw [in_eq, w1]; rfl
  rcases wi_cases a2 1 99 with ⟨w2, c3, c4⟩ | ⟨w2, -⟩
  rotate_left
  · refine ⟨-2, σ, σ, ?_, ?_, Inv_mono hI⟩
    · unfold f_X5_year; rw [w1, bnd_some, if_neg (by decide), w2]; rfl
    · unfold f_X6_year; rw [in_eq, w1, bnd_some, if_neg (by decide), w2]; rfl
  rcases wi_cases a3 0 2 with ⟨w3, c5, c6⟩ | ⟨w3, -⟩
  rotate_left
  · refine ⟨-2, σ, σ, ?_, ?_, Inv_mono hI⟩
    · unfold f_X5_year; rw [w1, bnd_some, if_neg (by decide), w2, bnd_some, if_neg (by decide), w3]; rfl
    · unfold f_X6_year; rw [in_eq, w1, bnd_some, if_neg (by decide), w2, bnd_some, if_neg (by decide), w3]; rfl
  obtain ⟨x, -, hx, rfl⟩ := nI_btw (lo := 0) (hi := 9999) (by decide) c1 c2 (by decide)
  obtain ⟨m, hm1, hm, rfl⟩ := nI_btw (lo := 1) (hi := 99) (by decide) c3 c4 (by decide)
  have key : ∀ X : St, (∀ c k, 29 ≤ c → c ≤ 36 → X c k = σ c k) → _ := fun X hX => year_loops hm m (Nat.le_refl _) (600 * N) x 0 (becS σ 9 1) (anS X) 400 400 (by omega) (by omega) (LR_now (mv_congr hX (LR_draft hI.1))) (by omega) (by omega)
  rw [Nat.sub_self] at key
  obtain ⟨cnt, σ1, τx, e1, -, -, e4, -⟩ := key σ (fun _ _ _ _ => rfl)
  have hN5 : NF5 σ σ1 := fun c k h1 h2 => by rw [e4 c k h1, becS_out (by omega)]
  have hX : ∀ c k, 29 ≤ c → c ≤ 36 → σ1 c k = σ c k := fun c k q1 q2 => hN5 c k (by omega) (by omega)
  obtain ⟨cnt2, σ2, τ, e1', e2, e3, -, e5⟩ := key σ1 hX
  have hs := Option.some.inj (e1'.symm.trans e1)
  have hcnt : nI cnt2 = nI cnt := congrArg Prod.fst hs
  have hσ : σ2 = σ1 := congrArg Prod.snd hs
  subst hσ
  rw [hcnt] at e2
  have hInv : Inv (N + 1) g τ := Inv_next hI (Agr_trans (NF5_Agr hN5) (Agr_trans (Agr_anS σ2) (NF6_Agr (MF_NF e5))))
  have e1 : loop (fun s : Int32 × Int32 × Int32 × St => l_X0_runYear_8 9 (nI m) s.1 s.2.1 s.2.2.1 s.2.2.2) 400 (0, nI x, 0, becS σ 9 1) = some (nI cnt, σ2) := e1
  have e2 : loop (fun s : Int32 × Int32 × Int32 × St => l_X6_year_46 (nI m) s.1 s.2.1 s.2.2.1 s.2.2.2) 400 (nI x, 0, 0, anS σ2) = some (nI cnt, τ) := e2
  have E5 : f_X5_year (nI x) (nI m) a3 σ = (if ¬ a3 = 0 then (if ¬ a3 = 1 then (some ((nI cnt, σ2))) else (some ((sumV (fun j => σ2 10 j) 6, σ2)))) else (some ((sumV (fun j => σ2 12 j) 6, σ2)))) := by
    unfold f_X5_year f_X0_runYear
    rw [w1, bnd_some, if_neg (by decide), w2, bnd_some, if_neg (by decide), w3, bnd_some, if_pos (by decide), nm_eq, e1, bnd_some, bnd_some]
    show (if ¬ a3 = 0 then (if ¬ a3 = 1 then (some ((nI cnt, σ2))) else (Option.bind (f_X0_applesTogether 9 σ2) (fun r6 => some ((r6, σ2))))) else (Option.bind (f_X0_heapsTogether 9 σ2) (fun r7 => some ((r7, σ2))))) = _
    rw [heaps_eq, apples_eq]
    rfl
  have E6 : f_X6_year (nI x) (nI m) a3 σ2 = (if ¬ a3 = 0 then (if ¬ a3 = 1 then (some ((nI cnt, τ))) else (some ((sumV (fun j => σ2 10 j) 6, τ)))) else (some ((sumV (fun j => σ2 12 j) 6, τ)))) := by
    unfold f_X6_year
    rw [in_eq, w1, bnd_some, if_neg (by decide), w2, bnd_some, if_neg (by decide), w3, bnd_some, if_pos (by decide), asNow_eq, bnd_some, e2, bnd_some, year_sums e3, bnd_some]
  by_cases d1 : a3 = 0
  · exact ⟨sumV (fun j => σ2 12 j) 6, σ2, τ, by rw [E5, if_neg (fun z => z d1)], by rw [E6, if_neg (fun z => z d1)], hInv⟩
  · by_cases d2 : a3 = 1
    · exact ⟨sumV (fun j => σ2 10 j) 6, σ2, τ, by rw [E5, if_pos d1, if_neg (fun z => z d2)], by rw [E6, if_pos d1, if_neg (fun z => z d2)], hInv⟩
    · exact ⟨nI cnt, σ2, τ, by rw [E5, if_pos d1, if_pos d2], by rw [E6, if_pos d1, if_pos d2], hInv⟩
