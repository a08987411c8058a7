/-! ===== seen, neighbour ===== -/
theorem mul2 (s : Nat) : (2 : Int32) * nI s = nI (2 * s) := pk_mul 2 s
theorem pc_seen : PC_seen := by
  intro N g σ a1 a2 hN hI
  have hL := hI.1
  rcases there (x := a1) hL (σ := σ) (σ' := σ) rfl rfl with ⟨u1, u2⟩ | ⟨h', k1, hh, hk1, rfl, v1, w1, b1, u1, u2⟩
  · refine ⟨-1, σ, σ, ?_, ?_, Inv_mono hI⟩
    · unfold f_X5_seen
      rw [u1]
      rfl
    · unfold f_X6_seen
      rw [u2]
      rfl
  rcases wi_cases a2 0 99 with ⟨hw, c1, c2⟩ | ⟨hw, -⟩
  · obtain ⟨n, n1, n2, rfl⟩ := nI_btw (lo := 0) (hi := 99) (by decide) c1 c2 (by decide)
    obtain ⟨h, o, d, l, f, s, h1, h2, h3, h4, h5, h6, e1, e2, e3, e4, e5, e6, e7, e8, e9, e10, e11, e12, q1, q2, q3, q4, q5⟩ := hI.1
    have E1 : σ 1 7 = nI s := e11
    have E2 : σ 29 5 = nI s := e12
    by_cases hs : s = 8
    · subst hs
      refine ⟨-4, σ, σ, ?_, ?_, Inv_mono hI⟩
      · unfold f_X5_seen f_X0_addSight
        rw [u1, bnd_some, if_pos (by decide), hw, bnd_some, if_pos (by decide), E1, if_neg (by decide)]
        rfl
      · unfold f_X6_seen
        rw [u2, bnd_some, if_pos (by decide), in_eq, hw, bnd_some, if_pos (by decide), E2, if_neg (by decide)]
    · have hs : s < 8 := by omega
      refine ⟨nI (s + 1), up2 (up2 (up2 σ 7 s (nI k1)) 8 s (nI n)) 1 7 (nI (s + 1)), up2 (up2 (up2 (up2 (up2 (up2 σ 7 s (nI k1)) 8 s (nI n)) 1 7 (nI (s + 1))) 31 (2 * s) (nI k1)) 31 (2 * s + 1) (nI n)) 29 5 (nI (s + 1)), ?_, ?_, Inv_mono ⟨?_, ?_, ?_⟩⟩
      · unfold f_X5_seen f_X0_addSight
        rw [u1, bnd_some, if_pos (by decide), hw, bnd_some, if_pos (by decide), E1, if_pos (show nI s < 8 from nI_lt (b := 8) hs (by decide)), gi_in hs (by decide), nm_eq, nI_clamp (by omega), show up2 σ (1 + 6) s (nI k1) 1 7 = σ 1 7 from rfl, E1, gi_in hs (by decide), nm_eq, nm_eq, nI_clamp (by omega), show up2 (up2 σ (1 + 6) s (nI k1)) (1 + 7) s (nI n) 1 7 = σ 1 7 from rfl, E1, nI_1]
        rfl
      · unfold f_X6_seen
        have x1 : up2 (up2 (up2 σ 7 s (nI k1)) 8 s (nI n)) 1 7 (nI (s + 1)) 29 5 = nI s := E2
        have x2 : up2 (up2 (up2 (up2 σ 7 s (nI k1)) 8 s (nI n)) 1 7 (nI (s + 1))) 31 (2 * s) (nI k1) 29 5 = nI s := E2
        have x3 : up2 (up2 (up2 (up2 (up2 σ 7 s (nI k1)) 8 s (nI n)) 1 7 (nI (s + 1))) 31 (2 * s) (nI k1)) 31 (2 * s + 1) (nI n) 29 5 = nI s := E2
        rcases there (x := nI k1) hL (σ := σ) (σ' := up2 (up2 (up2 σ 7 s (nI k1)) 8 s (nI n)) 1 7 (nI (s + 1))) rfl rfl with ⟨t1, t2⟩ | ⟨_, _, _, _, _, _, _, _, t1, t2⟩
        · rw [u1] at t1; cases t1
        · rw [t2, bnd_some, if_pos (by decide), in_eq, hw, bnd_some, if_pos (by decide), x1, if_pos (fun q => by have := (nI_eq (a := s) (b := 8) (by omega) (by decide)).mp q; omega), mul2, gi_in (by omega) (by decide), nm_eq, nI_clamp (by omega), x2, mul2, nI_1, gi_in (by omega) (by decide), nm_eq, nm_eq, nI_clamp (by omega), x3, nI_1]
          rfl
      · refine ⟨h, o, d, l, f, s + 1, h1, h2, h3, h4, h5, by omega, e1, e2, e3, e4, e5, e6, e7, e8, e9, e10, rfl, rfl, q1, q2, q3, fun k hk => ?_, fun i hi => ?_⟩
        · refine PK_congr (q4 k hk) (fun i h1 h2 => ?_) (fun i h1 h2 => ?_)
          · rcases (show i = 1 ∨ i = 2 ∨ i = 3 ∨ i = 4 ∨ i = 5 by omega) with rfl | rfl | rfl | rfl | rfl <;> rfl
          · rcases (show i = 1 ∨ i = 2 ∨ i = 3 ∨ i = 4 ∨ i = 5 by omega) with rfl | rfl | rfl | rfl | rfl <;> rfl
        · have V6 : cv (up2 (up2 (up2 (up2 (up2 (up2 σ 7 s (nI k1)) 8 s (nI n)) 1 7 (nI (s + 1))) 31 (2 * s) (nI k1)) 31 (2 * s + 1) (nI n)) 29 5 (nI (s + 1))) 1 6 i = if i = s then nI k1 else σ 7 i := rfl
          have V7 : cv (up2 (up2 (up2 (up2 (up2 (up2 σ 7 s (nI k1)) 8 s (nI n)) 1 7 (nI (s + 1))) 31 (2 * s) (nI k1)) 31 (2 * s + 1) (nI n)) 29 5 (nI (s + 1))) 1 7 i = if i = s then nI n else σ 8 i := rfl
          have W6 : mv (up2 (up2 (up2 (up2 (up2 (up2 σ 7 s (nI k1)) 8 s (nI n)) 1 7 (nI (s + 1))) 31 (2 * s) (nI k1)) 31 (2 * s + 1) (nI n)) 29 5 (nI (s + 1))) 6 i = if 2 * i = 2 * s + 1 then nI n else if 2 * i = 2 * s then nI k1 else σ 31 (2 * i) := rfl
          have W7 : mv (up2 (up2 (up2 (up2 (up2 (up2 σ 7 s (nI k1)) 8 s (nI n)) 1 7 (nI (s + 1))) 31 (2 * s) (nI k1)) 31 (2 * s + 1) (nI n)) 29 5 (nI (s + 1))) 7 i = if 2 * i + 1 = 2 * s + 1 then nI n else if 2 * i + 1 = 2 * s then nI k1 else σ 31 (2 * i + 1) := rfl
          rw [V6, V7, W6, W7]
          by_cases his : i = s
          · subst his
            exact ⟨k1, n, hk1, n2, if_pos rfl, by rw [if_neg (by omega), if_pos rfl], if_pos rfl, if_pos rfl⟩
          · rw [if_neg his, if_neg his, if_neg (by omega), if_neg (by omega), if_neg (by omega), if_neg (by omega)]
            exact q5 i (by omega)
      · exact PAD_congr hI.2.1 rfl rfl (fun _ => rfl) (fun _ => rfl)
      · exact IM_congr hI.2.2 (fun _ => rfl) (fun _ => rfl) (fun c k hc => by rw [up2_out (by omega), up2_out (by omega), up2_out (by omega), up2_out (by omega), up2_out (by omega), up2_out (by omega)])
  · refine ⟨-2, σ, σ, ?_, ?_, Inv_mono hI⟩
    · unfold f_X5_seen
      rw [u1, bnd_some, if_pos (by decide), hw]
      rfl
    · unfold f_X6_seen
      rw [u2, bnd_some, if_pos (by decide), in_eq, hw]
      rfl
