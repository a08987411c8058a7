/-! ===== the law's loop ===== -/
theorem PK_mono {B B' h o k : Nat} {V W : VW} (hb : B ≤ B') (p : PK B h o k V W) : PK B' h o k V W := by
  refine ⟨fun q => ?_, p.2⟩
  obtain ⟨a, bg, hp, rb, h1, h2, h3, h4, h5⟩ := p.1 q
  exact ⟨a, bg, hp, rb, h1, h2, h3, Nat.le_trans h4 hb, h5⟩
theorem LR_mono {B B' : Nat} {V W : VW} (hb : B ≤ B') (h : LR B V W) : LR B' V W := by
  obtain ⟨h, o, d, l, f, s, h1, h2, h3, h4, h5, h6, e1, e2, e3, e4, e5, e6, e7, e8, e9, e10, e11, e12, q1, q2, q3, q4, q5⟩ := h
  exact ⟨h, o, d, l, f, s, h1, h2, h3, h4, h5, h6, e1, e2, e3, e4, e5, e6, e7, e8, e9, e10, e11, e12, q1, q2, q3, fun k hk => PK_mono hb (q4 k hk), q5⟩
theorem IM_mono {B B' : Nat} {g : Nat → Option Nat} {σ : St} (hb : B ≤ B') (h : IM B g σ) : IM B' g σ := by
  refine ⟨fun j hj => ?_, h.2⟩
  rcases h.1 j hj with q | ⟨q, h1, h2, h3, h4⟩
  · exact Or.inl q
  · exact Or.inr ⟨q, h1, h2, h3, LR_mono hb h4⟩
theorem Inv_mono {N : Nat} {g : Nat → Option Nat} {σ : St} (h : Inv N g σ) : Inv (N + 1) g σ := ⟨LR_mono (by omega) h.1, h.2.1, IM_mono (by omega) h.2.2⟩
theorem idx_eq {j k : Nat} : nI (6 * j) + nI k = nI (6 * j + k) := nI_add _ _
set_option maxHeartbeats 8000000 in
set_option maxRecDepth 20000 in
theorem law_loop (H : PCs) {nm : String} {b L : Nat} {xs : Nat → Int32} (hL : L ≤ 384) : ∀ (n j : Nat), 6 * j ≤ L → 64 ≤ j + n → ∀ (kc kn : Nat) (g : Nat → Option Nat) (S : List SC) (σ : St), kc ≤ 1000 + 8 * j → kn ≤ 5000 + 59 * j → LI j g S σ → AW (ML nm) (XS b L xs) room_1 600000 7302250 QL kc kn S σ 18 [(0, .ref 777), (1, .ref 0), (2, .ref 29), (3, .int (nI (6 * j)))] [] := by
  obtain ⟨H0, H1, H2, H3, H4, H5, H6, H7, H8, H9, H10, H11, H12, H13, H14, H15, H16, H17, H18, H19, H20, H21, H22, H23, H24, H25, H26, H27, H28⟩ := H
  intro n
  induction n with
  | zero =>
    intro j h1 h2 kc kn g S σ hkc hkn hI
    have hj : j = 64 := by omega
    have hLL : L = 384 := by omega
    subst hj; subst hLL
    refine aw_run (tL_0 nm) 2 (pc2 := 20) (L2 := [(0, .ref 777), (1, .ref 0), (2, .ref 29), (3, .int (nI (6 * 64)))]) (st2 := [.ref 777, .int (nI (6 * 64))]) rfl ?_
    refine aw_slen (tL_0 nm) rfl 21 rfl ?_
    refine aw_run (tL_0 nm) 2 (pc2 := 24) (L2 := [(0, .ref 777), (1, .ref 0), (2, .ref 29), (3, .int (nI (6 * 64)))]) (st2 := [.int (Int32.ofNat 384 - 6), .int (nI (6 * 64))]) rfl ?_
    refine aw_icmp_gt (tL_0 nm) rfl 968 27 rfl rfl (fun hc => ?_) (fun hc => ?_)
    · refine aw_run (tL_30 nm) 1 (pc2 := 969) (L2 := [(0, .ref 777), (1, .ref 0), (2, .ref 29), (3, .int (nI (6 * 64)))]) (st2 := [.int 1]) rfl ?_
      exact aw_ir (tL_30 nm) rfl rfl rfl (by omega) (by omega) rfl
    · exact absurd (by decide) hc
  | succ n ih =>
    intro j h1 h2 kc kn g S σ hkc hkn hI
    obtain ⟨i0, hi0⟩ : ∃ i0, i0 = nI (6 * j) := ⟨_, rfl⟩
    rw [← hi0]
    refine aw_run (tL_0 nm) 2 (pc2 := 20) (L2 := [(0, .ref 777), (1, .ref 0), (2, .ref 29), (3, .int i0)]) (st2 := [.ref 777, .int i0]) rfl ?_
    refine aw_slen (tL_0 nm) rfl 21 rfl ?_
    refine aw_run (tL_0 nm) 2 (pc2 := 24) (L2 := [(0, .ref 777), (1, .ref 0), (2, .ref 29), (3, .int i0)]) (st2 := [.int (Int32.ofNat L - 6), .int i0]) rfl ?_
    refine aw_icmp_gt (tL_0 nm) rfl 968 27 rfl rfl (fun hc => ?_) (fun hc => ?_)
    · refine aw_run (tL_30 nm) 1 (pc2 := 969) (L2 := [(0, .ref 777), (1, .ref 0), (2, .ref 29), (3, .int i0)]) (st2 := [.int 1]) rfl ?_
      exact aw_ir (tL_30 nm) rfl rfl rfl (by omega) (by omega) rfl
    · have hjL : 6 * j + 6 ≤ L := by
        apply Nat.le_of_not_lt
        intro hlt
        apply hc
        rw [hi0, Int32.lt_iff_toInt_lt, nI_toInt (by omega)]
        have h6 : (6 : Int32) = nI 6 := by decide
        have e2 : (Int32.ofNat L - 6).toInt = (L : Int) - 6 := by
          show (nI L - 6).toInt = _
          rw [h6, pk_sub_toInt (by omega) (by omega)]
          rfl
        rw [e2]
        omega
      have hk : ∀ k : Nat, k ≤ 5 → vp_in (nI (6 * j) + nI k) L := fun k hk => by rw [idx_eq]; exact vp_in_nI (by omega) (by omega)
      have hin0 : vp_in i0 L := by have := hk 0 (by omega); rw [nI_add] at this; rw [hi0]; exact this
      have hin1 : vp_in (i0 + 1) L := by rw [hi0]; exact hk 1 (by omega)
      have hin2 : vp_in (i0 + 2) L := by rw [hi0]; exact hk 2 (by omega)
      have hin3 : vp_in (i0 + 3) L := by rw [hi0]; exact hk 3 (by omega)
      have hin4 : vp_in (i0 + 4) L := by rw [hi0]; exact hk 4 (by omega)
      have hin5 : vp_in (i0 + 5) L := by rw [hi0]; exact hk 5 (by omega)
      have kk : ∀ (kc2 kn2 : Nat) (g2 : Nat → Option Nat) (S2 : List SC) (τ : St), kc2 ≤ kc + 8 → kn2 ≤ kn + 59 → LI (j + 1) g2 S2 τ → AW (ML nm) (XS b L xs) room_1 600000 7302250 QL kc2 kn2 S2 τ 962 [(0, .ref 777), (1, .ref 0), (2, .ref 29), (3, .int i0)] [] := by
        intro kc2 kn2 g2 S2 τ q1 q2 q3
        refine aw_run (tL_30 nm) 1 (pc2 := 965) (L2 := [(3, .int (i0 + 6)), (0, .ref 777), (1, .ref 0), (2, .ref 29)]) (st2 := []) rfl ?_
        have e6 : i0 + 6 = nI (6 * (j + 1)) := by rw [hi0]; exact nI_add _ _
        rw [e6]
        refine aw_run (tL_30 nm) 1 (pc2 := 18) (L2 := [(3, .int (nI (6 * (j + 1)))), (0, .ref 777), (1, .ref 0), (2, .ref 29)]) (st2 := []) rfl ?_
        refine aw_sub [1, 2, 3, 0] rfl ?_
        exact ih (j + 1) (by omega) (by omega) kc2 kn2 g2 S2 τ (by omega) (by omega) q3
      refine aw_run (tL_0 nm) 2 (pc2 := 29) (L2 := [(0, .ref 777), (1, .ref 0), (2, .ref 29), (3, .int i0)]) (st2 := [.int i0, .ref 777]) rfl ?_
      refine aw_sld (tL_0 nm) rfl 30 rfl hin0 ?_
      refine aw_run (tL_0 nm) 2 (pc2 := 33) (L2 := [(0, .ref 777), (1, .ref 0), (2, .ref 29), (3, .int i0)]) (st2 := [.int (xs i0.toNatClampNeg &&& 31)]) rfl ?_
      refine aw_nm (fun x ex => ?_)
      by_cases hc0 : x = 0
      · refine aw_tableK (off := 131) (tL_0 nm) rfl 0 hc0 rfl 164 rfl ?_
        exact law_neighbour hin1 hin2 hin3 hin4 hin5 (by omega) (by omega) (by omega) hI H0 kk
      by_cases hc1 : x = 1
      · refine aw_tableK (off := 174) (tL_0 nm) rfl 1 hc1 rfl 207 rfl ?_
        exact law_move hin1 hin2 hin3 hin4 hin5 (by omega) (by omega) (by omega) hI H1 kk
      by_cases hc2 : x = 2
      · refine aw_tableK (off := 197) (tL_0 nm) rfl 2 hc2 rfl 230 rfl ?_
        exact law_frost hin1 hin2 hin3 hin4 hin5 (by omega) (by omega) (by omega) hI H2 kk
      by_cases hc3 : x = 3
      · refine aw_tableK (off := 220) (tL_0 nm) rfl 3 hc3 rfl 253 rfl ?_
        exact law_say hin1 hin2 hin3 hin4 hin5 (by omega) (by omega) (by omega) hI H3 kk
      by_cases hc4 : x = 4
      · refine aw_tableK (off := 243) (tL_0 nm) rfl 4 hc4 rfl 276 rfl ?_
        exact law_wipe hin1 hin2 hin3 hin4 hin5 (by omega) (by omega) (by omega) hI H4 kk
      by_cases hc5 : x = 5
      · refine aw_tableK (off := 256) (tL_0 nm) rfl 5 hc5 rfl 289 rfl ?_
        exact law_fault hin1 hin2 hin3 hin4 hin5 (by omega) (by omega) (by omega) hI H5 kk
      by_cases hc6 : x = 6
      · refine aw_tableK (off := 269) (tL_0 nm) rfl 6 hc6 rfl 302 rfl ?_
        exact law_judge hin1 hin2 hin3 hin4 hin5 (by omega) (by omega) (by omega) hI H6 kk
      by_cases hc7 : x = 7
      · refine aw_tableK (off := 292) (tL_0 nm) rfl 7 hc7 rfl 325 rfl ?_
        exact law_done hin1 hin2 hin3 hin4 hin5 (by omega) (by omega) (by omega) hI H7 kk
      by_cases hc8 : x = 8
      · refine aw_tableK (off := 305) (tL_0 nm) rfl 8 hc8 rfl 338 rfl ?_
        exact law_state hin1 hin2 hin3 hin4 hin5 (by omega) (by omega) (by omega) hI H8 kk
      by_cases hc9 : x = 9
      · refine aw_tableK (off := 338) (tL_0 nm) rfl 9 hc9 rfl 371 rfl ?_
        exact law_behind hin1 hin2 hin3 hin4 hin5 (by omega) (by omega) (by omega) hI H9 kk
      by_cases hc10 : x = 10
      · refine aw_tableK (off := 371) (tL_0 nm) rfl 10 hc10 rfl 404 rfl ?_
        exact law_trees hin1 hin2 hin3 hin4 hin5 (by omega) (by omega) (by omega) hI H10 kk
      by_cases hc11 : x = 11
      · refine aw_tableK (off := 394) (tL_0 nm) rfl 11 hc11 rfl 427 rfl ?_
        exact law_may hin1 hin2 hin3 hin4 hin5 (by omega) (by omega) (by omega) hI H11 kk
      by_cases hc12 : x = 12
      · refine aw_tableK (off := 417) (tL_0 nm) rfl 12 hc12 rfl 450 rfl ?_
        exact law_safe hin1 hin2 hin3 hin4 hin5 (by omega) (by omega) (by omega) hI H12 kk
      by_cases hc13 : x = 13
      · refine aw_tableK (off := 430) (tL_0 nm) rfl 13 hc13 rfl 463 rfl ?_
        exact law_stripped hin1 hin2 hin3 hin4 hin5 (by omega) (by omega) (by omega) hI H13 kk
      by_cases hc14 : x = 14
      · refine aw_tableK (off := 453) (tL_0 nm) rfl 14 hc14 rfl 486 rfl ?_
        exact law_thefts hin1 hin2 hin3 hin4 hin5 (by omega) (by omega) (by omega) hI H14 kk
      by_cases hc15 : x = 15
      · refine aw_tableK (off := 486) (tL_0 nm) rfl 15 hc15 rfl 519 rfl ?_
        exact law_round hin1 hin2 hin3 hin4 hin5 (by omega) (by omega) (by omega) hI H15 kk
      by_cases hc16 : x = 16
      · refine aw_tableK (off := 499) (tL_0 nm) rfl 16 hc16 rfl 532 rfl ?_
        exact law_chain hin1 hin2 hin3 hin4 hin5 (by omega) (by omega) (by omega) hI H16 kk
      by_cases hc17 : x = 17
      · refine aw_tableK (off := 532) (tL_0 nm) rfl 17 hc17 rfl 565 rfl ?_
        exact law_exchange hin1 hin2 hin3 hin4 hin5 (by omega) (by omega) (by omega) hI H17 kk
      by_cases hc18 : x = 18
      · refine aw_tableK (off := 575) (tL_0 nm) rfl 18 hc18 rfl 608 rfl ?_
        exact law_seen hin1 hin2 hin3 hin4 hin5 (by omega) (by omega) (by omega) hI H18 kk
      by_cases hc19 : x = 19
      · refine aw_tableK (off := 608) (tL_0 nm) rfl 19 hc19 rfl 641 rfl ?_
        exact law_forget hin1 hin2 hin3 hin4 hin5 (by omega) (by omega) (by omega) hI H19 kk
      by_cases hc20 : x = 20
      · refine aw_tableK (off := 621) (tL_0 nm) rfl 20 hc20 rfl 654 rfl ?_
        exact law_boots hin1 hin2 hin3 hin4 hin5 (by omega) (by omega) (by omega) hI H20 kk
      by_cases hc21 : x = 21
      · refine aw_tableK (off := 644) (tL_0 nm) rfl 21 hc21 rfl 677 rfl ?_
        exact law_look hin1 hin2 hin3 hin4 hin5 (by omega) (by omega) (by omega) hI H21 kk
      by_cases hc22 : x = 22
      · refine aw_tableK (off := 667) (tL_0 nm) rfl 22 hc22 rfl 700 rfl ?_
        exact law_duel hin1 hin2 hin3 hin4 hin5 (by omega) (by omega) (by omega) hI H22 kk
      by_cases hc23 : x = 23
      · refine aw_tableK (off := 720) (tL_0 nm) rfl 23 hc23 rfl 753 rfl ?_
        exact law_caught hin1 hin2 hin3 hin4 hin5 (by omega) (by omega) (by omega) hI H23 kk
      by_cases hc24 : x = 24
      · refine aw_tableK (off := 784) (tL_0 nm) rfl 24 hc24 rfl 817 rfl ?_
        exact law_moons hin1 hin2 hin3 hin4 hin5 (by omega) (by omega) (by omega) hI H24 kk
      by_cases hc25 : x = 25
      · refine aw_tableK (off := 817) (tL_0 nm) rfl 25 hc25 rfl 850 rfl ?_
        exact law_year hin1 hin2 hin3 hin4 hin5 (by omega) (by omega) (by omega) hI H25 kk
      by_cases hc26 : x = 26
      · refine aw_tableK (off := 860) (tL_0 nm) rfl 26 hc26 rfl 893 rfl ?_
        exact law_image hin1 hin2 hin3 hin4 hin5 (by omega) (by omega) (by omega) hI H26 kk
      by_cases hc27 : x = 27
      · refine aw_tableK (off := 883) (tL_0 nm) rfl 27 hc27 rfl 916 rfl ?_
        exact law_restore hin1 hin2 hin3 hin4 hin5 (by omega) (by omega) (by omega) hI H27 kk
      by_cases hc28 : x = 28
      · refine aw_tableK (off := 906) (tL_0 nm) rfl 28 hc28 rfl 939 rfl ?_
        exact law_told hin1 hin2 hin3 hin4 hin5 (by omega) (by omega) (by omega) hI H28 kk
      refine aw_tableN (tL_0 nm) rfl [0, 1, 2, 3, 4, 5, 6, 7, 8, 9, 10, 11, 12, 13, 14, 15, 16, 17, 18, 19, 20, 21, 22, 23, 24, 25, 26, 27, 28] (by intro k hk; simp only [List.mem_cons, List.not_mem_nil, or_false] at hk; rcases hk with rfl | rfl | rfl | rfl | rfl | rfl | rfl | rfl | rfl | rfl | rfl | rfl | rfl | rfl | rfl | rfl | rfl | rfl | rfl | rfl | rfl | rfl | rfl | rfl | rfl | rfl | rfl | rfl | rfl <;> assumption) (by decide) 962 rfl ?_
      exact kk kc kn g S σ (by omega) (by omega) ⟨hI.1, hI.2.1, hI.2.2.1, by have := hI.2.2.2.1; omega, Inv_mono hI.2.2.2.2⟩
