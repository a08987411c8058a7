/-! ===== restore, image ===== -/
def WI (g : Nat → Option Nat) (S : List SC) : Prop := (∀ j q, g j = some q → 46 ≤ q ∧ q + 8 ≤ S.length ∧ LA S q) ∧ (∀ i j p q, i ≠ j → g i = some p → g j = some q → p + 7 < q ∨ q + 7 < p)
def f_X5_restore (g : Nat → Option Nat) (a1 : Int32) (σ : St) : Option (Int32 × St) := Option.bind (f_X5_within a1 0 1) (fun r1 => if ¬ r1 = 0 then (gi a1 2 (match g a1.toNatClampNeg with
  | none => some ((-3 : Int32), σ)
  | some q => some ((1 : Int32), becS σ 1 q))) else (some ((-2 : Int32), σ)))
set_option maxHeartbeats 4000000 in
set_option maxRecDepth 20000 in
theorem t_X5_restore {g : Nat → Option Nat} {S : List SC} (hS : Wf g S) (hI : WI g S) {σ : St} {Q : QT} (a1 : Int32) (h : ok (f_X5_restore g a1 σ) (fun r => Q (some (.int r.1)) S r.2)) : AW MX5_restore E0 rmX5_restore 0 0 Q 0 0 S σ 0 [(0, .ref 0), (1, .int a1)] [] := by
  unfold f_X5_restore at h
  refine aw_run tTX5_restore 3 (pc2 := 3) (L2 := [(0, .ref 0), (1, .int a1)]) (st2 := [.int 1, .int 0, .int a1]) rfl ?_
  obtain ⟨r1, er1, h⟩ := ok_b h
  refine aw_cS tTX5_restore rfl 6 rfl (M' := MX5_within) (av := [.int a1, .int 0, .int 1]) (rest := []) rfl lkX5_51 hMX5_within rfl (s_X5_within hS er1) ⟨rfl, rfl, ⟨by decide, by decide⟩, by decide, by decide⟩ (Nat.le_of_ble_eq_true rfl) 46 (wf_len hS) rfl [.int r1] rfl ?_
  refine aw_if_ne tTX5_restore rfl 12 9 rfl rfl (fun hc => ?_) (fun hc => ?_)
  · have h := ok_t hc h
    obtain ⟨hi, h⟩ := ok_gi h
    refine aw_run tTX5_restore 1 (pc2 := 13) (L2 := [(0, .ref 0), (1, .int a1)]) (st2 := [.ref 0]) rfl ?_
    refine aw_getR tTX5_restore rfl 16 rfl (w_0 hS) rfl flX5_19 ?_
    refine aw_run tTX5_restore 1 (pc2 := 17) (L2 := [(0, .ref 0), (1, .int a1)]) (st2 := [.int a1, .ref 17]) rfl ?_
    cases hg : g a1.toNatClampNeg with
    | none =>
      rw [hg] at h
      refine aw_aald (u := .null) tTX5_restore rfl 18 rfl (w_17 hS) hi (by rw [hg]; rfl) ?_
      refine aw_run tTX5_restore 2 (pc2 := 23) (L2 := [(0, .ref 0), (1, .int a1)]) (st2 := [.int (-3 : Int32)]) rfl ?_
      have h := ok_r h
      exact aw_ir tTX5_restore rfl rfl rfl (Nat.le_refl _) (Nat.le_refl _) h
    | some q =>
      rw [hg] at h
      obtain ⟨hq1, hq2, hq3⟩ := hI.1 _ _ hg
      refine aw_aald (u := .ref q) tTX5_restore rfl 18 rfl (w_17 hS) hi (by rw [hg]; rfl) ?_
      refine aw_run tTX5_restore 2 (pc2 := 25) (L2 := [(0, .ref 0), (1, .int a1)]) (st2 := [.ref 0]) rfl ?_
      refine aw_getR tTX5_restore rfl 28 rfl (w_0 hS) rfl flX5_12 ?_
      refine aw_run tTX5_restore 1 (pc2 := 29) (L2 := [(0, .ref 0), (1, .int a1)]) (st2 := [.ref 0, .ref 1]) rfl ?_
      refine aw_getR tTX5_restore rfl 32 rfl (w_0 hS) rfl flX5_19 ?_
      refine aw_run tTX5_restore 1 (pc2 := 33) (L2 := [(0, .ref 0), (1, .int a1)]) (st2 := [.int a1, .ref 17, .ref 1]) rfl ?_
      refine aw_aald (u := .ref q) tTX5_restore rfl 34 rfl (w_17 hS) hi (by rw [hg]; rfl) ?_
      refine aw_cV tTX5_restore rfl 37 rfl (M' := MX0_become) (av := [.ref q]) (rest := []) rfl lkX5_94 hMX0_become rfl (w_1 hS) ⟨_, _, rfl⟩ (s_become (la_1 hS) hq3 (by omega)) ⟨rfl, rfl, ⟨by decide, by decide⟩, by decide, by decide⟩ (Nat.le_of_ble_eq_true rfl) 46 (wf_len hS) rfl [] rfl ?_
      refine aw_run tTX5_restore 1 (pc2 := 38) (L2 := [(0, .ref 0), (1, .int a1)]) (st2 := [.int 1]) rfl ?_
      have h := ok_r h
      exact aw_ir tTX5_restore rfl rfl rfl (Nat.le_refl _) (Nat.le_refl _) h
  · have h := ok_fn hc h
    refine aw_run tTX5_restore 1 (pc2 := 11) (L2 := [(0, .ref 0), (1, .int a1)]) (st2 := [.int (-2 : Int32)]) rfl ?_
    have h := ok_r h
    exact aw_ir tTX5_restore rfl rfl rfl (Nat.le_refl _) (Nat.le_refl _) h
theorem s_X5_restore {g : Nat → Option Nat} {S : List SC} (hS : Wf g S) (hI : WI g S) {σ : St} {a1 : Int32} {r : Int32 × St} (e : f_X5_restore g a1 σ = some r) : Fn MX5_restore rmX5_restore [.ref 0, .int a1] S σ (some (.int r.1)) r.2 := Sp.of (by decide) (Nat.le_of_ble_eq_true rfl) (t_X5_restore hS hI a1 ⟨r, e, rfl, rfl, rfl⟩)
/-- what image() leaves behind: the shape with perhaps one more land, the land's ints in the image's block, nothing else changed -/
def BEq (σ' : St) (q : Nat) (σ : St) (b : Nat) : Prop := (∀ k, 7 ≤ k → k ≤ 12 → σ' q k = σ b k) ∧ (∀ i k, 1 ≤ i → i ≤ 5 → k < 6 → σ' (q + i) k = σ (b + i) k) ∧ (∀ i k, 6 ≤ i → i ≤ 7 → k < 8 → σ' (q + i) k = σ (b + i) k)
theorem becS_BEq (σ : St) (a b : Nat) : BEq (becS σ a b) a σ b := by
  refine ⟨fun k h1 h2 => by simp [becS, h1, h2], fun i k h1 h2 h3 => ?_, fun i k h1 h2 h3 => ?_⟩
  · have e0 : ¬ (a + i = a ∧ 7 ≤ k ∧ k ≤ 12) := by omega
    have e1 : a + 1 ≤ a + i ∧ a + i ≤ a + 5 ∧ k < 6 := by omega
    simp only [becS, e0, e1, if_true, if_false, and_self, show a + i - a + b = b + i by omega]
  · have e0 : ¬ (a + i = a ∧ 7 ≤ k ∧ k ≤ 12) := by omega
    have e1 : ¬ (a + 1 ≤ a + i ∧ a + i ≤ a + 5 ∧ k < 6) := by omega
    have e2 : a + 6 ≤ a + i ∧ a + i ≤ a + 7 ∧ k < 8 := by omega
    simp only [becS, e0, e1, e2, if_true, if_false, and_self, show a + i - a + b = b + i by omega]
theorem becS_out {σ : St} {a b c : Nat} (h : c < a ∨ a + 7 < c) : becS σ a b c = σ c := by
  funext k
  have e0 : ¬ (c = a ∧ 7 ≤ k ∧ k ≤ 12) := by omega
  have e1 : ¬ (a + 1 ≤ c ∧ c ≤ a + 5 ∧ k < 6) := by omega
  have e2 : ¬ (a + 6 ≤ c ∧ c ≤ a + 7 ∧ k < 8) := by omega
  simp only [becS, e0, e1, e2, if_false]
theorem up2_out {σ : St} {c k c' : Nat} {v : Int32} (h : c' ≠ c) : up2 σ c k v c' = σ c' := by simp [up2, h]
theorem upC_out {σ : St} {c c' : Nat} {f : Nat → Int32} (h : c' ≠ c) : upC σ c f c' = σ c' := by simp [upC, h]
theorem iniL_out {σ : St} {n l c : Nat} (h1 : c ≠ n) (h2 : c < l ∨ l + 6 < c) : iniX0_init σ n l c = σ c := by
  unfold iniX0_init
  simp only [up2_out h1]
  rw [upC_out (by omega), upC_out (by omega), upC_out (by omega), upC_out (by omega), upC_out (by omega), upC_out (by omega), upC_out (by omega)]
/-- the shape behind the making of a new land for image j -/
abbrev bL : SC := .inl (0, [some none, some none, some none, some none, some none, some none, some none, none, none, none, none, none, none])
def newL (S : List SC) (g : Nat → Option Nat) (j : Nat) : List SC := ((S ++ [bL]).set S.length (.inl (0, frmX0_init (S.length + 1))) ++ arrX0_init).set 17 (.inr (.inr (2, va_up g j (some S.length))))
theorem newL_len {S : List SC} {g : Nat → Option Nat} {j : Nat} : (newL S g j).length = S.length + 8 := by
  simp [newL, arrX0_init]
theorem newL_old {S : List SC} {g : Nat → Option Nat} {j k : Nat} (hk : k < S.length) (h17 : k ≠ 17) : (newL S g j)[k]? = S[k]? := by
  unfold newL
  rw [List.getElem?_set_ne (Ne.symm h17), List.getElem?_append_left (by simp; omega), List.getElem?_set_ne (by omega), List.getElem?_append_left hk]
theorem newL_new {S : List SC} {g : Nat → Option Nat} {j : Nat} (hl : 46 ≤ S.length) : LA (newL S g j) S.length := by
  have h0 : ∀ i, (newL S g j)[S.length + 1 + i]? = arrX0_init[i]? := by
    intro i
    unfold newL
    rw [List.getElem?_set_ne (by omega), List.getElem?_append_right (by simp <;> omega)]
    congr 1
    simp <;> omega
  refine ⟨?_, h0 0, h0 1, h0 2, h0 3, h0 4, h0 5, h0 6⟩
  unfold newL
  rw [List.getElem?_set_ne (by omega), List.getElem?_append_left (by simp), List.getElem?_set_self (by simp)]
  rfl
theorem newL_wf {S : List SC} {g : Nat → Option Nat} {j : Nat} (hS : Wf g S) : Wf (va_up g j (some S.length)) (newL S g j) := by
  have hl := wf_len hS
  apply List.ext_getElem?
  intro k
  by_cases hk : k < 46
  · rw [List.getElem?_take, if_pos hk]
    by_cases h17 : k = 17
    · subst h17
      unfold newL
      rw [List.getElem?_set_self (by simp [arrX0_init]; omega)]
      rfl
    · rw [newL_old (by omega) h17]
      have h1 : S[k]? = (shp g)[k]? := by rw [← hS, List.getElem?_take, if_pos hk]
      rw [h1]
      have h2 : shp (va_up g j (some S.length)) = (shp g).set 17 (.inr (.inr (2, va_up g j (some S.length)))) := rfl
      rw [h2, List.getElem?_set_ne (Ne.symm h17)]
  · rw [List.getElem?_take, if_neg hk]
    have h3 : (shp (va_up g j (some S.length))).length = 46 := rfl
    rw [List.getElem?_eq_none (by omega)]
theorem LA_kept {S S' : List SC} {q : Nat} (h : LA S q) (hk : ∀ i, i ≤ 7 → S'[q + i]? = S[q + i]?) : LA S' q := by
  obtain ⟨h0, h1, h2, h3, h4, h5, h6, h7⟩ := h
  exact ⟨(hk 0 (by omega)).trans h0, (hk 1 (by omega)).trans h1, (hk 2 (by omega)).trans h2, (hk 3 (by omega)).trans h3, (hk 4 (by omega)).trans h4, (hk 5 (by omega)).trans h5, (hk 6 (by omega)).trans h6, (hk 7 (by omega)).trans h7⟩
theorem newL_wi {S : List SC} {g : Nat → Option Nat} {j : Nat} (hS : Wf g S) (hI : WI g S) : WI (va_up g j (some S.length)) (newL S g j) := by
  have hl := wf_len hS
  refine ⟨fun i q hq => ?_, fun i i' p q hne hp hq => ?_⟩
  · rw [newL_len]
    by_cases hi : i = j
    · subst hi
      rw [va_up_self] at hq
      cases hq
      exact ⟨hl, by omega, newL_new hl⟩
    · rw [va_up_ne _ _ hi] at hq
      obtain ⟨h1, h2, h3⟩ := hI.1 i q hq
      exact ⟨h1, by omega, LA_kept h3 (fun i hi => newL_old (by omega) (by omega))⟩
  · by_cases hi : i = j
    · subst hi
      rw [va_up_self] at hp
      cases hp
      rw [va_up_ne _ _ (Ne.symm hne)] at hq
      have := (hI.1 i' q hq).2.1
      omega
    · rw [va_up_ne _ _ hi] at hp
      by_cases hi' : i' = j
      · subst hi'
        rw [va_up_self] at hq
        cases hq
        have := (hI.1 i p hp).2.1
        omega
      · rw [va_up_ne _ _ hi'] at hq
        exact hI.2 i i' p q hne hp hq
theorem sok_q {S : List SC} {n : Nat} {g : Nat → Option Nat} (hs : sokP S S.length) (hg : ∀ j k, g j = some k → k < S.length) : sokP (S.set n (.inr (.inr (2, g)))) (S.set n (.inr (.inr (2, g)))).length := by
  intro c hc
  rw [List.length_set]
  rcases List.mem_or_eq_of_mem_set hc with h | h
  · exact hs c h
  · subst h
    exact hg
def imgQ (g : Nat → Option Nat) (S : List SC) (a1 : Int32) (σ : St) (r1 : Int32) : QT := fun v S' σ' => (v = some (.int (-2)) ∧ r1 = 0 ∧ S' = S ∧ σ' = σ) ∨ (v = some (.int 1) ∧ ¬ r1 = 0 ∧ ((∃ q, g a1.toNatClampNeg = some q ∧ S' = S ∧ σ' = becS σ q 1) ∨ (g a1.toNatClampNeg = none ∧ S' = newL S g a1.toNatClampNeg ∧ sokP S' S'.length ∧ σ' = becS (iniX0_init (upC σ S.length (fun _ => 0)) S.length (S.length + 1)) S.length 1)))
set_option maxHeartbeats 4000000 in
set_option maxRecDepth 20000 in
theorem s_X5_image {g : Nat → Option Nat} {S : List SC} (hS : Wf g S) (hI : WI g S) (hso : sokP S S.length) (hlen : S.length + 50 < 700) {σ : St} {a1 r1 : Int32} (er1 : f_X5_within a1 0 1 = some r1) (hv : ¬ r1 = 0 → vp_in a1 2) : Sp MX5_image rmX5_image 8 59 [.ref 0, .int a1] S σ (imgQ g S a1 σ r1) := by
  have hl46 := wf_len hS
  refine Sp.of (by decide) (Nat.le_of_ble_eq_true rfl) ?_
  show AW MX5_image _ _ 8 59 _ 0 0 S σ 0 [(0, .ref 0), (1, .int a1)] []
  refine aw_run tTX5_image 3 (pc2 := 3) (L2 := [(0, .ref 0), (1, .int a1)]) (st2 := [.int 1, .int 0, .int a1]) rfl ?_
  refine aw_cS tTX5_image rfl 6 rfl (M' := MX5_within) (av := [.int a1, .int 0, .int 1]) (rest := []) rfl lkX5_51 hMX5_within rfl (s_X5_within hS er1) ⟨rfl, rfl, ⟨by decide, by decide⟩, by decide, by decide⟩ (Nat.le_of_ble_eq_true rfl) 46 (wf_len hS) rfl [.int r1] rfl ?_
  refine aw_if_ne tTX5_image rfl 12 9 rfl rfl (fun hc => ?_) (fun hc => ?_)
  · have hi := hv hc
    refine aw_run tTX5_image 1 (pc2 := 13) (L2 := [(0, .ref 0), (1, .int a1)]) (st2 := [.ref 0]) rfl ?_
    refine aw_getR tTX5_image rfl 16 rfl (w_0 hS) rfl flX5_19 ?_
    refine aw_run tTX5_image 1 (pc2 := 17) (L2 := [(0, .ref 0), (1, .int a1)]) (st2 := [.int a1, .ref 17]) rfl ?_
    cases hg : g a1.toNatClampNeg with
    | some q =>
      obtain ⟨hq1, hq2, hq3⟩ := hI.1 _ _ hg
      refine aw_aald (u := .ref q) tTX5_image rfl 18 rfl (w_17 hS) hi (by rw [hg]; rfl) ?_
      refine aw_run tTX5_image 2 (pc2 := 35) (L2 := [(0, .ref 0), (1, .int a1)]) (st2 := [.ref 0]) rfl ?_
      refine aw_getR tTX5_image rfl 38 rfl (w_0 hS) rfl flX5_19 ?_
      refine aw_run tTX5_image 1 (pc2 := 39) (L2 := [(0, .ref 0), (1, .int a1)]) (st2 := [.int a1, .ref 17]) rfl ?_
      refine aw_aald (u := .ref q) tTX5_image rfl 40 rfl (w_17 hS) hi (by rw [hg]; rfl) ?_
      refine aw_run tTX5_image 1 (pc2 := 41) (L2 := [(0, .ref 0), (1, .int a1)]) (st2 := [.ref 0, .ref q]) rfl ?_
      refine aw_getR tTX5_image rfl 44 rfl (w_0 hS) rfl flX5_12 ?_
      refine aw_cV tTX5_image rfl 47 rfl (M' := MX0_become) (av := [.ref 1]) (rest := []) rfl lkX5_94 hMX0_become rfl hq3.1 ⟨_, _, rfl⟩ (s_become hq3 (la_1 hS) (by omega)) ⟨rfl, rfl, ⟨by decide, by decide⟩, by decide, by decide⟩ (Nat.le_of_ble_eq_true rfl) 46 (wf_len hS) rfl [] rfl ?_
      refine aw_run tTX5_image 1 (pc2 := 48) (L2 := [(0, .ref 0), (1, .int a1)]) (st2 := [.int 1]) rfl ?_
      exact aw_ir tTX5_image rfl rfl rfl (Nat.zero_le _) (Nat.zero_le _) (Or.inr ⟨rfl, hc, Or.inl ⟨q, hg, rfl, rfl⟩⟩)
    | none =>
      refine aw_aald (u := .null) tTX5_image rfl 18 rfl (w_17 hS) hi (by rw [hg]; rfl) ?_
      refine aw_run tTX5_image 2 (pc2 := 22) (L2 := [(0, .ref 0), (1, .int a1)]) (st2 := [.ref 0]) rfl ?_
      refine aw_getR tTX5_image rfl 25 rfl (w_0 hS) rfl flX5_19 ?_
      refine aw_run tTX5_image 1 (pc2 := 26) (L2 := [(0, .ref 0), (1, .int a1)]) (st2 := [.int a1, .ref 17]) rfl ?_
      refine aw_new (C := RX0) (T := TX0) (ty0 := tyX0) (ci := 0) (n := 13) (fr := [some none, some none, some none, some none, some none, some none, some none, none, none, none, none, none, none]) tTX5_image rfl 29 rfl rfl iwX0 tyX0_ok (gt_at 20 (by decide +kernel) rfl) (gt_at 21 (by decide +kernel) rfl) (gt_at 2 (by decide +kernel) rfl) dfX0 nlX0 46 hl46 rfl hso (by omega) (by decide) ?_
      have hso1 := sokP_push (c := bL) hso (fun k hk => absurd hk (nlX0 k))
      have hl1 : (S ++ [bL]).length = S.length + 1 := by simp
      refine aw_run tTX5_image 1 (pc2 := 30) (L2 := [(0, .ref 0), (1, .int a1)]) (st2 := [.ref S.length, .ref S.length, .int a1, .ref 17]) rfl ?_
      have hbl : (S ++ [bL])[S.length]? = some bL := by simp
      refine aw_callIN (M' := MX0_init) (rm := rmX0_init) (mc' := 7) (ms' := 46) (av := []) (rest := [.ref S.length, .int a1, .ref 17]) (n := 0) tTX5_image rfl 33 rfl rfl lkNX5_11 hMX0_init rfl (s_X0_init (n := S.length) hbl hso1 (by rw [hl1]; omega)) ⟨rfl, rfl, ⟨by decide, by decide⟩, by decide, by decide⟩ (Nat.le_of_ble_eq_true rfl) (S.length + 1) (by rw [hl1]; exact Nat.le_refl _) (by simp [vok, Nat.blt, Nat.ble]; omega) (fun v S' σ' q => ?_)
      obtain ⟨rfl, rfl, hso2, rfl⟩ := q
      rw [hl1] at hso2 ⊢
      have h17 : ((S ++ [bL]).set S.length (.inl (0, frmX0_init (S.length + 1))) ++ arrX0_init)[17]? = some (.inr (.inr (2, g))) := by
        rw [List.getElem?_append_left (by simp; omega), List.getElem?_set_ne (by omega), List.getElem?_append_left (by omega)]
        exact w_17 hS
      have hq : ((S ++ [bL]).set S.length (.inl (0, frmX0_init (S.length + 1))) ++ arrX0_init)[S.length]? = some (.inl (0, frmX0_init (S.length + 1))) := at_app (by simp)
      refine aw_V (st := [.ref S.length, .int a1, .ref 17]) rfl ?_
      refine aw_aast tTX5_image rfl 34 rfl h17 hq hi ?_
      have hgb : ∀ j k, va_up g a1.toNatClampNeg (some S.length) j = some k → k < ((S ++ [bL]).set S.length (.inl (0, frmX0_init (S.length + 1))) ++ arrX0_init).length := by
        intro j k hjk
        have hll : S.length < ((S ++ [bL]).set S.length (.inl (0, frmX0_init (S.length + 1))) ++ arrX0_init).length := by simp [arrX0_init]
        by_cases hj : j = a1.toNatClampNeg
        · rw [hj, va_up_self] at hjk
          cases hjk
          exact hll
        · rw [va_up_ne _ _ hj] at hjk
          have := (hI.1 j k hjk).2.1
          omega
      have hso3 := sok_q (n := 17) hso2 hgb
      have hS' := newL_wf (j := a1.toNatClampNeg) hS
      have hI' := newL_wi (j := a1.toNatClampNeg) hS hI
      refine aw_W (S := newL S g a1.toNatClampNeg) rfl ?_
      have hso3 : sokP (newL S g a1.toNatClampNeg) (newL S g a1.toNatClampNeg).length := hso3
      have hgn : va_up g a1.toNatClampNeg (some S.length) a1.toNatClampNeg = some S.length := va_up_self _ _ _
      obtain ⟨hq1, hq2, hq3⟩ := hI'.1 _ _ hgn
      refine aw_run tTX5_image 1 (pc2 := 35) (L2 := [(0, .ref 0), (1, .int a1)]) (st2 := [.ref 0]) rfl ?_
      refine aw_getR tTX5_image rfl 38 rfl (w_0 hS') rfl flX5_19 ?_
      refine aw_run tTX5_image 1 (pc2 := 39) (L2 := [(0, .ref 0), (1, .int a1)]) (st2 := [.int a1, .ref 17]) rfl ?_
      refine aw_aald (u := .ref S.length) tTX5_image rfl 40 rfl (w_17 hS') hi (by rw [hgn]; rfl) ?_
      refine aw_run tTX5_image 1 (pc2 := 41) (L2 := [(0, .ref 0), (1, .int a1)]) (st2 := [.ref 0, .ref S.length]) rfl ?_
      refine aw_getR tTX5_image rfl 44 rfl (w_0 hS') rfl flX5_12 ?_
      refine aw_cV tTX5_image rfl 47 rfl (M' := MX0_become) (av := [.ref 1]) (rest := []) rfl lkX5_94 hMX0_become rfl hq3.1 ⟨_, _, rfl⟩ (s_become hq3 (la_1 hS') (by omega)) ⟨rfl, rfl, ⟨by decide, by decide⟩, by decide, by decide⟩ (Nat.le_of_ble_eq_true rfl) 46 (wf_len hS') rfl [] rfl ?_
      refine aw_run tTX5_image 1 (pc2 := 48) (L2 := [(0, .ref 0), (1, .int a1)]) (st2 := [.int 1]) rfl ?_
      exact aw_ir tTX5_image rfl rfl rfl (by decide) (by decide) (Or.inr ⟨rfl, hc, Or.inr ⟨hg, rfl, hso3, rfl⟩⟩)
  · refine aw_run tTX5_image 1 (pc2 := 11) (L2 := [(0, .ref 0), (1, .int a1)]) (st2 := [.int (-2 : Int32)]) rfl ?_
    exact aw_ir tTX5_image rfl rfl rfl (Nat.zero_le _) (Nat.zero_le _) (Or.inl ⟨rfl, hc, rfl, rfl⟩)
