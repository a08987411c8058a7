/-! ===== move ===== -/
def mkI (k : Nat) : Int32 := ((1 : Int32) <<< (nI k &&& 31)) ^^^ (-1 : Int32)
def nb (h k : Nat) : Nat := h &&& (63 - 1 <<< k)
theorem nb_eq {h k : Nat} (hh : h < 64) (hk : k < 6) : nI h &&& mkI k = nI (nb h k) ∧ nb h k < 64 := not_tab h hh k hk
theorem nb_sub {h o k : Nat} (q : ∀ j, o.testBit j = true → h.testBit j = true) : ∀ j, (nb o k).testBit j = true → (nb h k).testBit j = true := by
  intro j hj
  unfold nb at *
  rw [Nat.testBit_and, Bool.and_eq_true] at hj ⊢
  exact ⟨q j hj.1, hj.2⟩
theorem nb_tb {h k j : Nat} (hh : h < 64) (hk : k < 6) (hj : j < 6) : (nb h k).testBit j = (h.testBit j && !decide (k = j)) := tb_not h hh k hk j hj
def lvC (σ : St) (h o d l k : Nat) : St := up2 (up2 (up2 (up2 (up2 (up2 (up2 (up2 σ 1 8 (nI (nb h k))) 1 9 (nI (nb o k))) 1 10 (nI (nb d k))) 1 11 (nI (nb l k))) 2 k 0) 3 k 0) 4 k 0) 5 k 0
def lvD (σ : St) (h o d l k : Nat) : St := mvS (lvC σ h o d l k) 5 6 (mkI k) (nI k) 6
def lvM (σ : St) (h o d l k : Nat) : St := up2 (mvS (up2 (up2 (up2 (up2 σ 29 0 (nI (nb h k))) 29 2 (nI (nb d k))) 29 3 (nI (nb l k))) 29 11 (nI (nb o k))) 34 35 (mkI k) (nI k) 6) 34 k 0
theorem mvS_ar {σ : St} {cr cl j : Nat} {m kk : Int32} (hj : j < 6) : mvS σ cr cl m kk 6 cr j = σ cr j &&& m := by simp [mvS, hj]
theorem mvS_al {σ : St} {cr cl j : Nat} {m kk : Int32} (hj : j < 6) (hc : cl ≠ cr) : mvS σ cr cl m kk 6 cl j = if σ cl j = kk then -6 else σ cl j := by simp [mvS, hj, hc]
theorem mv_views {σ : St} {h o d l k j : Nat} (hj : j < 6) : cv (lvM (lvD σ h o d l k) h o d l k) 1 1 j = (if j = k then 0 else σ 2 j) ∧ cv (lvM (lvD σ h o d l k) h o d l k) 1 2 j = (if j = k then 0 else σ 3 j) ∧ cv (lvM (lvD σ h o d l k) h o d l k) 1 3 j = (if j = k then 0 else σ 4 j) ∧ cv (lvM (lvD σ h o d l k) h o d l k) 1 4 j = ((if j = k then 0 else σ 5 j) &&& mkI k) ∧ cv (lvM (lvD σ h o d l k) h o d l k) 1 5 j = (if σ 6 j = nI k then -6 else σ 6 j) ∧
    mv (lvM (lvD σ h o d l k) h o d l k) 1 j = σ 32 j ∧ mv (lvM (lvD σ h o d l k) h o d l k) 2 j = σ 30 j ∧ mv (lvM (lvD σ h o d l k) h o d l k) 3 j = σ 33 j ∧ mv (lvM (lvD σ h o d l k) h o d l k) 4 j = (if j = k then 0 else σ 34 j &&& mkI k) ∧ mv (lvM (lvD σ h o d l k) h o d l k) 5 j = (if σ 35 j = nI k then -6 else σ 35 j) := by
  refine ⟨rfl, rfl, rfl, ?_, ?_, rfl, rfl, rfl, ?_, ?_⟩
  · show mvS (lvC σ h o d l k) 5 6 (mkI k) (nI k) 6 5 j = _
    rw [mvS_ar hj]
    rfl
  · show mvS (lvC σ h o d l k) 5 6 (mkI k) (nI k) 6 6 j = _
    rw [mvS_al hj (by decide)]
    rfl
  · show (if j = k then (0 : Int32) else mvS (up2 (up2 (up2 (up2 (lvD σ h o d l k) 29 0 (nI (nb h k))) 29 2 (nI (nb d k))) 29 3 (nI (nb l k))) 29 11 (nI (nb o k))) 34 35 (mkI k) (nI k) 6 34 j) = _
    rw [mvS_ar hj]
    rfl
  · show mvS (up2 (up2 (up2 (up2 (lvD σ h o d l k) 29 0 (nI (nb h k))) 29 2 (nI (nb d k))) 29 3 (nI (nb l k))) 29 11 (nI (nb o k))) 34 35 (mkI k) (nI k) 6 35 j = _
    rw [mvS_al hj (by decide)]
    rfl
theorem and_z (m : Int32) : (0 : Int32) &&& m = 0 := by simp
theorem pc_move : PC_move := by
  intro N g σ a1 hN hI
  have hL := hI.1
  rcases there (x := a1) hL (σ := σ) (σ' := σ) rfl rfl with ⟨u1, u2⟩ | ⟨h', k, hh, hk, rfl, v1, w1, b1, u1, u2⟩
  · refine ⟨-1, σ, σ, ?_, ?_, Inv_mono hI⟩
    · unfold f_X5_move; rw [u1]; rfl
    · unfold f_X6_move; rw [u2]; rfl
  obtain ⟨h, o, d, l, f, s, h1, h2, h3, h4, h5, h6, e1, e2, e3, e4, e5, e6, e7, e8, e9, e10, e11, e12, q1, q2, q3, q4, q5⟩ := hI.1
  have hhe : h' = h := (nI_eq (by omega) (by omega)).mp (v1.symm.trans e1)
  subst hhe
  have hkc : (nI k).toNatClampNeg = k := nI_clamp (by omega)
  obtain ⟨r, hr1, hr2⟩ := bits_tab _ (nb_eq h1 hk).2
  have hA : f_X5_move (nI k) σ = some (r, lvD σ h' o d l k) := by
    unfold f_X5_move f_X0_leave f_X0_count
    rw [u1, bnd_some, if_pos (by decide), nm_eq, show ((1 : Int32) <<< (nI k &&& 31)) ^^^ (-1 : Int32) = mkI k from rfl]
    rw [show σ 1 8 = nI h' from e1, (nb_eq h1 hk).1, nm_eq]
    rw [show up2 σ 1 8 (nI (nb h' k)) 1 9 = nI o from e3, (nb_eq h2 hk).1, nm_eq]
    rw [show up2 (up2 σ 1 8 (nI (nb h' k))) 1 9 (nI (nb o k)) 1 10 = nI d from e5, (nb_eq h3 hk).1, nm_eq]
    rw [show up2 (up2 (up2 σ 1 8 (nI (nb h' k))) 1 9 (nI (nb o k))) 1 10 (nI (nb d k)) 1 11 = nI l from e7, (nb_eq h4 hk).1, nm_eq]
    rw [gi_in hk (by decide), nm_eq, gi_in hk (by decide), nm_eq, gi_in hk (by decide), nm_eq, gi_in hk (by decide), nm_eq, hkc, leave_loop, bnd_some, bnd_some]
    show Option.bind (Option.bind (f_J6_bitCount_0f7a4 (nI (nb h' k))) _) _ = _
    rw [hr1]
    rfl
  have hB : f_X6_move (nI k) (lvD σ h' o d l k) = some (r, lvM (lvD σ h' o d l k) h' o d l k) := by
    have t2 : f_X6_isThere (nI k) (lvD σ h' o d l k) = some 1 := by
      rw [isT_in (σ := lvD σ h' o d l k) h1 hk e2, if_pos b1]
    unfold f_X6_move
    rw [t2, bnd_some, if_pos (by decide), show ((1 : Int32) <<< (nI k &&& 31)) ^^^ (-1 : Int32) = mkI k from rfl]
    rw [show lvD σ h' o d l k 29 0 = nI h' from e2, (nb_eq h1 hk).1, nm_eq]
    rw [show up2 (lvD σ h' o d l k) 29 0 (nI (nb h' k)) 29 2 = nI d from e6, (nb_eq h3 hk).1, nm_eq]
    rw [show up2 (up2 (lvD σ h' o d l k) 29 0 (nI (nb h' k))) 29 2 (nI (nb d k)) 29 3 = nI l from e8, (nb_eq h4 hk).1, nm_eq]
    rw [show up2 (up2 (up2 (lvD σ h' o d l k) 29 0 (nI (nb h' k))) 29 2 (nI (nb d k))) 29 3 (nI (nb l k)) 29 11 = nI o from e4, (nb_eq h2 hk).1, nm_eq]
    rw [move_loop, bnd_some, gi_in hk (by decide), nm_eq, hkc]
    show Option.bind (f_X6_bits (nI (nb h' k))) _ = _
    rw [hr2]
    rfl
  refine ⟨r, _, _, hA, hB, Inv_mono ⟨?_, ?_, ?_⟩⟩
  · refine ⟨nb h' k, nb o k, nb d k, nb l k, f, s, (nb_eq h1 hk).2, (nb_eq h2 hk).2, (nb_eq h3 hk).2, (nb_eq h4 hk).2, h5, h6, rfl, rfl, rfl, rfl, rfl, rfl, rfl, rfl, e9, e10, e11, e12, nb_sub q1, nb_sub q2, nb_sub q3, fun j hj => ?_, fun i hi => ?_⟩
    · obtain ⟨V1, V2, V3, V4, V5, W1, W2, W3, W4, W5⟩ := mv_views (σ := σ) (h := h') (o := o) (d := d) (l := l) (k := k) hj
      unfold PK
      rw [V1, V2, V3, V4, V5, W1, W2, W3, W4, W5, nb_tb h1 hk hj, nb_tb h2 hk hj]
      by_cases hjk : j = k
      · subst hjk
        refine ⟨fun hf => by simp at hf, fun _ => ⟨if_pos rfl, if_pos rfl, if_pos rfl, by rw [if_pos rfl, and_z], ?_⟩⟩
        obtain ⟨a, bg, hp, rb, y1, y2, y3, y4, y5, y6, y7, -⟩ := (q4 j hj).1 b1
        exact ⟨a, y1, y7⟩
      · have hkj : decide (k = j) = false := by simp [Ne.symm hjk]
        rw [hkj, if_neg hjk, if_neg hjk, if_neg hjk, if_neg hjk, if_neg hjk]
        simp only [Bool.not_false, Bool.and_true]
        refine ⟨fun hj1 => ?_, fun hj1 => ?_⟩
        · obtain ⟨a, bg, hp, rb, y1, y2, y3, y4, y5, y6, y7, y8, y9, y10, y11, y12, y13, y14⟩ := (q4 j hj).1 hj1
          have y12 : σ 5 j = nI rb := y12
          have y13 : σ 34 j = nI rb := y13
          refine ⟨a, bg, hp, nb rb k, y1, y2, y3, y4, (nb_eq y5 hk).2, y6, y7, y8, y9, y10, y11, by rw [y12]; exact (nb_eq y5 hk).1, by rw [y13]; exact (nb_eq y5 hk).1, fun ho => ?_⟩
          obtain ⟨z1, z2⟩ := y14 ho
          have z1 : σ 35 j = σ 6 j := z1
          rw [z1]
          refine ⟨rfl, ?_⟩
          by_cases hc : σ 6 j = nI k
          · rw [if_pos hc]; exact Or.inl rfl
          · rw [if_neg hc]
            rcases z2 with z2 | ⟨q, x1, x2, x3⟩
            · exact Or.inl z2
            · refine Or.inr ⟨q, x1, x2, ?_⟩
              have hqk : ¬ k = q := fun hq => hc (by rw [hq]; exact x2)
              rw [nb_tb h1 hk x1, x3]
              simp [hqk]
        · obtain ⟨y1, y2, y3, y4, y5⟩ := (q4 j hj).2 hj1
          have y4 : σ 5 j = 0 := y4
          exact ⟨y1, y2, y3, by rw [y4, and_z], y5⟩
    · exact q5 i hi
  · exact PAD_congr hI.2.1 rfl rfl (fun _ => rfl) (fun _ => rfl)
  · refine IM_congr hI.2.2 (fun _ => rfl) (fun _ => rfl) (fun c j hc => ?_)
    have x1 : ∀ (τ : St) (cr cl : Nat) (m kk : Int32), cr < 46 → cl < 46 → mvS τ cr cl m kk 6 c j = τ c j := fun τ cr cl m kk h1 h2 => by
      have e1 : ¬ (c = cr ∧ j < 6) := by omega
      have e2 : ¬ (c = cl ∧ j < 6) := by omega
      simp only [mvS, e1, e2, if_false]
    unfold lvM
    rw [up2_out (by omega), x1 _ _ _ _ _ (by decide) (by decide), up2_out (by omega), up2_out (by omega), up2_out (by omega), up2_out (by omega)]
    unfold lvD
    rw [x1 _ _ _ _ _ (by decide) (by decide)]
    unfold lvC
    rw [up2_out (by omega), up2_out (by omega), up2_out (by omega), up2_out (by omega), up2_out (by omega), up2_out (by omega), up2_out (by omega), up2_out (by omega)]
