theorem pc_image : PC_image := by
  intro N g S σ a1 hN hL
  obtain ⟨hS, hW, hso, hlen, hI⟩ := hL
  rcases (wi_cases a1 0 1).symm with ⟨w1, w2⟩ | ⟨w1, w2, w3⟩
  · refine ⟨0, w1, fun h => absurd rfl h, fun v S1 σ1 h => ?_⟩
    rcases h with ⟨rfl, -, rfl, rfl⟩ | ⟨-, h, -⟩
    · refine ⟨g, -2, σ1, rfl, ?_, hS, hW, hso, by omega, Inv_mono hI⟩
      unfold f_X6_image; rw [in_eq, w1]; rfl
    · exact absurd rfl h
  obtain ⟨j, -, hj, rfl⟩ := nI_btw (lo := 0) (hi := 1) (by decide) w2 w3 (by decide)
  have hj2 : j < 2 := by omega
  have ej : (nI j).toNatClampNeg = j := r70n j (by omega)
  have hl46 := wf_len hS
  refine ⟨1, w1, fun _ => ?_, fun v S1 σ1 h => ?_⟩
  · exact nI_in hj2 (by decide)
  rcases h with ⟨-, h, -⟩ | ⟨rfl, -, ⟨q, hq, rfl, rfl⟩ | ⟨hq, rfl, hso1, rfl⟩⟩
  · exact absurd h (by decide)
  · rw [ej] at hq
    have hg : va_up g j (some q) = g := by
      funext i
      by_cases hi : i = j
      · rw [hi, va_up_self, hq]
      · rw [va_up_ne _ _ hi]
    have hK := im_inv (q := q) (τ := becS σ q 1) hI hj2 (hW.1 j q hq).1 (becS_BEq σ q 1) (fun c hc => becS_out hc) (fun i p hi hp => hW.2 i j p q hi hp hq)
    rw [hg] at hK
    exact ⟨g, 1, _, rfl, im_fin hj2, hS, hW, hso, by omega, Inv_mono hK⟩
  · rw [ej] at hq hso1 ⊢
    have hout : ∀ c, c < S.length ∨ S.length + 7 < c → iniX0_init (upC σ S.length (fun _ => 0)) S.length (S.length + 1) c = σ c := fun c hc => by
      rw [iniL_out (by omega) (by omega), upC_out (by omega)]
    have hb := becS_BEq (iniX0_init (upC σ S.length (fun _ => 0)) S.length (S.length + 1)) S.length 1
    have hK := im_inv (q := S.length) (τ := becS (iniX0_init (upC σ S.length (fun _ => 0)) S.length (S.length + 1)) S.length 1) hI hj2 hl46
      ⟨fun k h1 h2 => by rw [hb.1 k h1 h2, hout 1 (Or.inl (by omega))], fun i k h1 h2 hk => by rw [hb.2.1 i k h1 h2 hk, hout (1 + i) (Or.inl (by omega))], fun i k h1 h2 hk => by rw [hb.2.2 i k h1 h2 hk, hout (1 + i) (Or.inl (by omega))]⟩
      (fun c hc => by rw [becS_out hc, hout c hc]) (fun i p hi hp => by have := (hW.1 i p hp).2.1; omega)
    exact ⟨_, 1, _, rfl, im_fin hj2, newL_wf hS, newL_wi hS hW, hso1, by rw [newL_len]; omega, Inv_mono hK⟩
