/-! ===== the law: its cases, its loop, its start ===== -/
theorem lgc (x : Int64) : lg_cmp x x = 0 := by simp [lg_cmp]
abbrev QL : QT := fun v _ _ => v = some (.int 1)
set_option maxHeartbeats 4000000 in
set_option maxRecDepth 20000 in
theorem law_neighbour {nm : String} {b L : Nat} {xs : Nat → Int32} {i0 : Int32} (hin1 : vp_in (i0 + 1) L) (hin2 : vp_in (i0 + 2) L) (hin3 : vp_in (i0 + 3) L) (hin4 : vp_in (i0 + 4) L) (hin5 : vp_in (i0 + 5) L) {N : Nat} {g : Nat → Option Nat} {S : List SC} {σ : St} {kc kn : Nat} (hkc : kc ≤ 50000) (hkn : kn ≤ 500000) (hN : N < 64) (hI : LI N g S σ) (H : PC_neighbour) (kk : ∀ (kc2 kn2 : Nat) (g2 : Nat → Option Nat) (S2 : List SC) (τ : St), kc2 ≤ kc + 8 → kn2 ≤ kn + 59 → LI (N + 1) g2 S2 τ → AW (ML nm) (XS b L xs) room_1 600000 7302250 QL kc2 kn2 S2 τ 962 [(0, .ref 777), (1, .ref 0), (2, .ref 29), (3, .int i0)] []) : AW (ML nm) (XS b L xs) room_1 600000 7302250 QL kc kn S σ 164 [(0, .ref 777), (1, .ref 0), (2, .ref 29), (3, .int i0)] [] := by
  have hS := hI.1
  obtain ⟨r, σ1, σ2, ha, hb, hJ⟩ := H N g σ (xs (i0 + 1).toNatClampNeg) (xs (i0 + 2).toNatClampNeg) (xs (i0 + 3).toNatClampNeg) hN hI.2.2.2.2
  refine aw_run (tL_1 nm) 5 (pc2 := 169) (L2 := [(0, .ref 777), (1, .ref 0), (2, .ref 29), (3, .int i0)]) (st2 := [.int (i0 + 1), .ref 777, .ref 0]) rfl ?_
  refine aw_sld (tL_1 nm) rfl 170 rfl hin1 ?_
  refine aw_run (tL_1 nm) 4 (pc2 := 174) (L2 := [(0, .ref 777), (1, .ref 0), (2, .ref 29), (3, .int i0)]) (st2 := [.int (i0 + 2), .ref 777, .int (xs (i0 + 1).toNatClampNeg), .ref 0]) rfl ?_
  refine aw_sld (tL_1 nm) rfl 175 rfl hin2 ?_
  refine aw_run (tL_1 nm) 4 (pc2 := 179) (L2 := [(0, .ref 777), (1, .ref 0), (2, .ref 29), (3, .int i0)]) (st2 := [.int (i0 + 3), .ref 777, .int (xs (i0 + 2).toNatClampNeg), .int (xs (i0 + 1).toNatClampNeg), .ref 0]) rfl ?_
  refine aw_sld (tL_1 nm) rfl 180 rfl hin3 ?_
  refine aw_cV (M' := MX5_neighbour) (av := [.int (xs (i0 + 1).toNatClampNeg), .int (xs (i0 + 2).toNatClampNeg), .int (xs (i0 + 3).toNatClampNeg)]) (rest := []) (n := 3) (tL_1 nm) rfl 183 rfl rfl lkL_13 hMX5_neighbour rfl (w_0 hS) ⟨_, _, rfl⟩ (s_X5_neighbour hS ha) ⟨rfl, rfl, ⟨by decide, by decide⟩, by show kc + 0 ≤ 600000; omega, by show kn + 0 ≤ 7302250; omega⟩ (Nat.le_of_ble_eq_true rfl) 46 (wf_len hS) rfl [.int r] rfl ?_
  refine aw_run (tL_1 nm) 5 (pc2 := 188) (L2 := [(0, .ref 777), (1, .ref 0), (2, .ref 29), (3, .int i0)]) (st2 := [.int (i0 + 1), .ref 777, .ref 29, .int r]) rfl ?_
  refine aw_sld (tL_1 nm) rfl 189 rfl hin1 ?_
  refine aw_run (tL_1 nm) 4 (pc2 := 193) (L2 := [(0, .ref 777), (1, .ref 0), (2, .ref 29), (3, .int i0)]) (st2 := [.int (i0 + 2), .ref 777, .int (xs (i0 + 1).toNatClampNeg), .ref 29, .int r]) rfl ?_
  refine aw_sld (tL_1 nm) rfl 194 rfl hin2 ?_
  refine aw_run (tL_1 nm) 4 (pc2 := 198) (L2 := [(0, .ref 777), (1, .ref 0), (2, .ref 29), (3, .int i0)]) (st2 := [.int (i0 + 3), .ref 777, .int (xs (i0 + 2).toNatClampNeg), .int (xs (i0 + 1).toNatClampNeg), .ref 29, .int r]) rfl ?_
  refine aw_sld (tL_1 nm) rfl 199 rfl hin3 ?_
  refine aw_cV (M' := MX6_neighbour) (av := [.int (xs (i0 + 1).toNatClampNeg), .int (xs (i0 + 2).toNatClampNeg), .int (xs (i0 + 3).toNatClampNeg)]) (rest := [.int r]) (n := 3) (tL_1 nm) rfl 202 rfl rfl lkL_17 hMX6_neighbour rfl (w_29 hS) ⟨_, _, rfl⟩ (s_X6_neighbour hS hb) ⟨rfl, rfl, ⟨by decide, by decide⟩, by show kc + 0 ≤ 600000; omega, by show kn + 0 ≤ 7302250; omega⟩ (Nat.le_of_ble_eq_true rfl) 46 (wf_len hS) rfl [.int r, .int r] rfl ?_
  refine aw_icmp_eq (tL_1 nm) rfl 962 205 rfl rfl (fun hc => ?_) (fun hc => ?_)
  · exact kk _ _ g S _ (Nat.le_add_right _ _) (Nat.le_add_right _ _) ⟨hI.1, hI.2.1, hI.2.2.1, by have := hI.2.2.2.1; omega, hJ⟩
  · exact absurd rfl hc
set_option maxHeartbeats 4000000 in
set_option maxRecDepth 20000 in
theorem law_move {nm : String} {b L : Nat} {xs : Nat → Int32} {i0 : Int32} (hin1 : vp_in (i0 + 1) L) (hin2 : vp_in (i0 + 2) L) (hin3 : vp_in (i0 + 3) L) (hin4 : vp_in (i0 + 4) L) (hin5 : vp_in (i0 + 5) L) {N : Nat} {g : Nat → Option Nat} {S : List SC} {σ : St} {kc kn : Nat} (hkc : kc ≤ 50000) (hkn : kn ≤ 500000) (hN : N < 64) (hI : LI N g S σ) (H : PC_move) (kk : ∀ (kc2 kn2 : Nat) (g2 : Nat → Option Nat) (S2 : List SC) (τ : St), kc2 ≤ kc + 8 → kn2 ≤ kn + 59 → LI (N + 1) g2 S2 τ → AW (ML nm) (XS b L xs) room_1 600000 7302250 QL kc2 kn2 S2 τ 962 [(0, .ref 777), (1, .ref 0), (2, .ref 29), (3, .int i0)] []) : AW (ML nm) (XS b L xs) room_1 600000 7302250 QL kc kn S σ 207 [(0, .ref 777), (1, .ref 0), (2, .ref 29), (3, .int i0)] [] := by
  have hS := hI.1
  obtain ⟨r, σ1, σ2, ha, hb, hJ⟩ := H N g σ (xs (i0 + 1).toNatClampNeg) hN hI.2.2.2.2
  refine aw_run (tL_2 nm) 5 (pc2 := 212) (L2 := [(0, .ref 777), (1, .ref 0), (2, .ref 29), (3, .int i0)]) (st2 := [.int (i0 + 1), .ref 777, .ref 0]) rfl ?_
  refine aw_sld (tL_2 nm) rfl 213 rfl hin1 ?_
  refine aw_cV (M' := MX5_move) (av := [.int (xs (i0 + 1).toNatClampNeg)]) (rest := []) (n := 1) (tL_2 nm) rfl 216 rfl rfl lkL_18 hMX5_move rfl (w_0 hS) ⟨_, _, rfl⟩ (s_X5_move hS ha) ⟨rfl, rfl, ⟨by decide, by decide⟩, by show kc + 0 ≤ 600000; omega, by show kn + 0 ≤ 7302250; omega⟩ (Nat.le_of_ble_eq_true rfl) 46 (wf_len hS) rfl [.int r] rfl ?_
  refine aw_run (tL_2 nm) 5 (pc2 := 221) (L2 := [(0, .ref 777), (1, .ref 0), (2, .ref 29), (3, .int i0)]) (st2 := [.int (i0 + 1), .ref 777, .ref 29, .int r]) rfl ?_
  refine aw_sld (tL_2 nm) rfl 222 rfl hin1 ?_
  refine aw_cV (M' := MX6_move) (av := [.int (xs (i0 + 1).toNatClampNeg)]) (rest := [.int r]) (n := 1) (tL_2 nm) rfl 225 rfl rfl lkL_22 hMX6_move rfl (w_29 hS) ⟨_, _, rfl⟩ (s_X6_move hS hb) ⟨rfl, rfl, ⟨by decide, by decide⟩, by show kc + 0 ≤ 600000; omega, by show kn + 0 ≤ 7302250; omega⟩ (Nat.le_of_ble_eq_true rfl) 46 (wf_len hS) rfl [.int r, .int r] rfl ?_
  refine aw_icmp_eq (tL_2 nm) rfl 962 228 rfl rfl (fun hc => ?_) (fun hc => ?_)
  · exact kk _ _ g S _ (Nat.le_add_right _ _) (Nat.le_add_right _ _) ⟨hI.1, hI.2.1, hI.2.2.1, by have := hI.2.2.2.1; omega, hJ⟩
  · exact absurd rfl hc
set_option maxHeartbeats 4000000 in
set_option maxRecDepth 20000 in
theorem law_frost {nm : String} {b L : Nat} {xs : Nat → Int32} {i0 : Int32} (hin1 : vp_in (i0 + 1) L) (hin2 : vp_in (i0 + 2) L) (hin3 : vp_in (i0 + 3) L) (hin4 : vp_in (i0 + 4) L) (hin5 : vp_in (i0 + 5) L) {N : Nat} {g : Nat → Option Nat} {S : List SC} {σ : St} {kc kn : Nat} (hkc : kc ≤ 50000) (hkn : kn ≤ 500000) (hN : N < 64) (hI : LI N g S σ) (H : PC_frost) (kk : ∀ (kc2 kn2 : Nat) (g2 : Nat → Option Nat) (S2 : List SC) (τ : St), kc2 ≤ kc + 8 → kn2 ≤ kn + 59 → LI (N + 1) g2 S2 τ → AW (ML nm) (XS b L xs) room_1 600000 7302250 QL kc2 kn2 S2 τ 962 [(0, .ref 777), (1, .ref 0), (2, .ref 29), (3, .int i0)] []) : AW (ML nm) (XS b L xs) room_1 600000 7302250 QL kc kn S σ 230 [(0, .ref 777), (1, .ref 0), (2, .ref 29), (3, .int i0)] [] := by
  have hS := hI.1
  obtain ⟨r, σ1, σ2, ha, hb, hJ⟩ := H N g σ (xs (i0 + 1).toNatClampNeg) hN hI.2.2.2.2
  refine aw_run (tL_3 nm) 5 (pc2 := 235) (L2 := [(0, .ref 777), (1, .ref 0), (2, .ref 29), (3, .int i0)]) (st2 := [.int (i0 + 1), .ref 777, .ref 0]) rfl ?_
  refine aw_sld (tL_3 nm) rfl 236 rfl hin1 ?_
  refine aw_cV (M' := MX5_frost) (av := [.int (xs (i0 + 1).toNatClampNeg)]) (rest := []) (n := 1) (tL_3 nm) rfl 239 rfl rfl lkL_23 hMX5_frost rfl (w_0 hS) ⟨_, _, rfl⟩ (s_X5_frost hS ha) ⟨rfl, rfl, ⟨by decide, by decide⟩, by show kc + 0 ≤ 600000; omega, by show kn + 0 ≤ 7302250; omega⟩ (Nat.le_of_ble_eq_true rfl) 46 (wf_len hS) rfl [.int r] rfl ?_
  refine aw_run (tL_3 nm) 5 (pc2 := 244) (L2 := [(0, .ref 777), (1, .ref 0), (2, .ref 29), (3, .int i0)]) (st2 := [.int (i0 + 1), .ref 777, .ref 29, .int r]) rfl ?_
  refine aw_sld (tL_3 nm) rfl 245 rfl hin1 ?_
  refine aw_cV (M' := MX6_frost) (av := [.int (xs (i0 + 1).toNatClampNeg)]) (rest := [.int r]) (n := 1) (tL_3 nm) rfl 248 rfl rfl lkL_26 hMX6_frost rfl (w_29 hS) ⟨_, _, rfl⟩ (s_X6_frost hS hb) ⟨rfl, rfl, ⟨by decide, by decide⟩, by show kc + 0 ≤ 600000; omega, by show kn + 0 ≤ 7302250; omega⟩ (Nat.le_of_ble_eq_true rfl) 46 (wf_len hS) rfl [.int r, .int r] rfl ?_
  refine aw_icmp_eq (tL_3 nm) rfl 962 251 rfl rfl (fun hc => ?_) (fun hc => ?_)
  · exact kk _ _ g S _ (Nat.le_add_right _ _) (Nat.le_add_right _ _) ⟨hI.1, hI.2.1, hI.2.2.1, by have := hI.2.2.2.1; omega, hJ⟩
  · exact absurd rfl hc
set_option maxHeartbeats 4000000 in
set_option maxRecDepth 20000 in
theorem law_say {nm : String} {b L : Nat} {xs : Nat → Int32} {i0 : Int32} (hin1 : vp_in (i0 + 1) L) (hin2 : vp_in (i0 + 2) L) (hin3 : vp_in (i0 + 3) L) (hin4 : vp_in (i0 + 4) L) (hin5 : vp_in (i0 + 5) L) {N : Nat} {g : Nat → Option Nat} {S : List SC} {σ : St} {kc kn : Nat} (hkc : kc ≤ 50000) (hkn : kn ≤ 500000) (hN : N < 64) (hI : LI N g S σ) (H : PC_say) (kk : ∀ (kc2 kn2 : Nat) (g2 : Nat → Option Nat) (S2 : List SC) (τ : St), kc2 ≤ kc + 8 → kn2 ≤ kn + 59 → LI (N + 1) g2 S2 τ → AW (ML nm) (XS b L xs) room_1 600000 7302250 QL kc2 kn2 S2 τ 962 [(0, .ref 777), (1, .ref 0), (2, .ref 29), (3, .int i0)] []) : AW (ML nm) (XS b L xs) room_1 600000 7302250 QL kc kn S σ 253 [(0, .ref 777), (1, .ref 0), (2, .ref 29), (3, .int i0)] [] := by
  have hS := hI.1
  obtain ⟨r, σ1, σ2, ha, hb, hJ⟩ := H N g σ (xs (i0 + 1).toNatClampNeg) hN hI.2.2.2.2
  refine aw_run (tL_4 nm) 5 (pc2 := 258) (L2 := [(0, .ref 777), (1, .ref 0), (2, .ref 29), (3, .int i0)]) (st2 := [.int (i0 + 1), .ref 777, .ref 0]) rfl ?_
  refine aw_sld (tL_4 nm) rfl 259 rfl hin1 ?_
  refine aw_cV (M' := MX5_say) (av := [.int (xs (i0 + 1).toNatClampNeg)]) (rest := []) (n := 1) (tL_4 nm) rfl 262 rfl rfl lkL_27 hMX5_say rfl (w_0 hS) ⟨_, _, rfl⟩ (s_X5_say hS ha) ⟨rfl, rfl, ⟨by decide, by decide⟩, by show kc + 0 ≤ 600000; omega, by show kn + 0 ≤ 7302250; omega⟩ (Nat.le_of_ble_eq_true rfl) 46 (wf_len hS) rfl [.int r] rfl ?_
  refine aw_run (tL_4 nm) 5 (pc2 := 267) (L2 := [(0, .ref 777), (1, .ref 0), (2, .ref 29), (3, .int i0)]) (st2 := [.int (i0 + 1), .ref 777, .ref 29, .int r]) rfl ?_
  refine aw_sld (tL_4 nm) rfl 268 rfl hin1 ?_
  refine aw_cV (M' := MX6_say) (av := [.int (xs (i0 + 1).toNatClampNeg)]) (rest := [.int r]) (n := 1) (tL_4 nm) rfl 271 rfl rfl lkL_30 hMX6_say rfl (w_29 hS) ⟨_, _, rfl⟩ (s_X6_say hS hb) ⟨rfl, rfl, ⟨by decide, by decide⟩, by show kc + 0 ≤ 600000; omega, by show kn + 0 ≤ 7302250; omega⟩ (Nat.le_of_ble_eq_true rfl) 46 (wf_len hS) rfl [.int r, .int r] rfl ?_
  refine aw_icmp_eq (tL_4 nm) rfl 962 274 rfl rfl (fun hc => ?_) (fun hc => ?_)
  · exact kk _ _ g S _ (Nat.le_add_right _ _) (Nat.le_add_right _ _) ⟨hI.1, hI.2.1, hI.2.2.1, by have := hI.2.2.2.1; omega, hJ⟩
  · exact absurd rfl hc
set_option maxHeartbeats 4000000 in
set_option maxRecDepth 20000 in
theorem law_wipe {nm : String} {b L : Nat} {xs : Nat → Int32} {i0 : Int32} (hin1 : vp_in (i0 + 1) L) (hin2 : vp_in (i0 + 2) L) (hin3 : vp_in (i0 + 3) L) (hin4 : vp_in (i0 + 4) L) (hin5 : vp_in (i0 + 5) L) {N : Nat} {g : Nat → Option Nat} {S : List SC} {σ : St} {kc kn : Nat} (hkc : kc ≤ 50000) (hkn : kn ≤ 500000) (hN : N < 64) (hI : LI N g S σ) (H : PC_wipe) (kk : ∀ (kc2 kn2 : Nat) (g2 : Nat → Option Nat) (S2 : List SC) (τ : St), kc2 ≤ kc + 8 → kn2 ≤ kn + 59 → LI (N + 1) g2 S2 τ → AW (ML nm) (XS b L xs) room_1 600000 7302250 QL kc2 kn2 S2 τ 962 [(0, .ref 777), (1, .ref 0), (2, .ref 29), (3, .int i0)] []) : AW (ML nm) (XS b L xs) room_1 600000 7302250 QL kc kn S σ 276 [(0, .ref 777), (1, .ref 0), (2, .ref 29), (3, .int i0)] [] := by
  have hS := hI.1
  obtain ⟨r, σ1, σ2, ha, hb, hJ⟩ := H N g σ  hN hI.2.2.2.2
  refine aw_run (tL_5 nm) 1 (pc2 := 277) (L2 := [(0, .ref 777), (1, .ref 0), (2, .ref 29), (3, .int i0)]) (st2 := [.ref 0]) rfl ?_
  refine aw_cV (M' := MX5_wipe) (av := []) (rest := []) (n := 0) (tL_5 nm) rfl 280 rfl rfl lkL_31 hMX5_wipe rfl (w_0 hS) ⟨_, _, rfl⟩ (s_X5_wipe hS ha) ⟨rfl, rfl, ⟨by decide, by decide⟩, by show kc + 0 ≤ 600000; omega, by show kn + 0 ≤ 7302250; omega⟩ (Nat.le_of_ble_eq_true rfl) 46 (wf_len hS) rfl [.int r] rfl ?_
  refine aw_run (tL_5 nm) 1 (pc2 := 281) (L2 := [(0, .ref 777), (1, .ref 0), (2, .ref 29), (3, .int i0)]) (st2 := [.ref 29, .int r]) rfl ?_
  refine aw_cV (M' := MX6_wipe) (av := []) (rest := [.int r]) (n := 0) (tL_5 nm) rfl 284 rfl rfl lkL_35 hMX6_wipe rfl (w_29 hS) ⟨_, _, rfl⟩ (s_X6_wipe hS hb) ⟨rfl, rfl, ⟨by decide, by decide⟩, by show kc + 0 ≤ 600000; omega, by show kn + 0 ≤ 7302250; omega⟩ (Nat.le_of_ble_eq_true rfl) 46 (wf_len hS) rfl [.int r, .int r] rfl ?_
  refine aw_icmp_eq (tL_5 nm) rfl 962 287 rfl rfl (fun hc => ?_) (fun hc => ?_)
  · exact kk _ _ g S _ (Nat.le_add_right _ _) (Nat.le_add_right _ _) ⟨hI.1, hI.2.1, hI.2.2.1, by have := hI.2.2.2.1; omega, hJ⟩
  · exact absurd rfl hc
set_option maxHeartbeats 4000000 in
set_option maxRecDepth 20000 in
theorem law_fault {nm : String} {b L : Nat} {xs : Nat → Int32} {i0 : Int32} (hin1 : vp_in (i0 + 1) L) (hin2 : vp_in (i0 + 2) L) (hin3 : vp_in (i0 + 3) L) (hin4 : vp_in (i0 + 4) L) (hin5 : vp_in (i0 + 5) L) {N : Nat} {g : Nat → Option Nat} {S : List SC} {σ : St} {kc kn : Nat} (hkc : kc ≤ 50000) (hkn : kn ≤ 500000) (hN : N < 64) (hI : LI N g S σ) (H : PC_fault) (kk : ∀ (kc2 kn2 : Nat) (g2 : Nat → Option Nat) (S2 : List SC) (τ : St), kc2 ≤ kc + 8 → kn2 ≤ kn + 59 → LI (N + 1) g2 S2 τ → AW (ML nm) (XS b L xs) room_1 600000 7302250 QL kc2 kn2 S2 τ 962 [(0, .ref 777), (1, .ref 0), (2, .ref 29), (3, .int i0)] []) : AW (ML nm) (XS b L xs) room_1 600000 7302250 QL kc kn S σ 289 [(0, .ref 777), (1, .ref 0), (2, .ref 29), (3, .int i0)] [] := by
  have hS := hI.1
  obtain ⟨r, ha, hb, hJ⟩ := H N g σ  hN hI.2.2.2.2
  refine aw_run (tL_6 nm) 1 (pc2 := 290) (L2 := [(0, .ref 777), (1, .ref 0), (2, .ref 29), (3, .int i0)]) (st2 := [.ref 0]) rfl ?_
  refine aw_cV (M' := MX5_fault) (av := []) (rest := []) (n := 0) (tL_6 nm) rfl 293 rfl rfl lkL_36 hMX5_fault rfl (w_0 hS) ⟨_, _, rfl⟩ (s_X5_fault hS ha) ⟨rfl, rfl, ⟨by decide, by decide⟩, by show kc + 0 ≤ 600000; omega, by show kn + 0 ≤ 7302250; omega⟩ (Nat.le_of_ble_eq_true rfl) 46 (wf_len hS) rfl [.int r] rfl ?_
  refine aw_run (tL_6 nm) 1 (pc2 := 294) (L2 := [(0, .ref 777), (1, .ref 0), (2, .ref 29), (3, .int i0)]) (st2 := [.ref 29, .int r]) rfl ?_
  refine aw_cV (M' := MX6_fault) (av := []) (rest := [.int r]) (n := 0) (tL_6 nm) rfl 297 rfl rfl lkL_39 hMX6_fault rfl (w_29 hS) ⟨_, _, rfl⟩ (s_X6_fault hS hb) ⟨rfl, rfl, ⟨by decide, by decide⟩, by show kc + 0 ≤ 600000; omega, by show kn + 0 ≤ 7302250; omega⟩ (Nat.le_of_ble_eq_true rfl) 46 (wf_len hS) rfl [.int r, .int r] rfl ?_
  refine aw_icmp_eq (tL_6 nm) rfl 962 300 rfl rfl (fun hc => ?_) (fun hc => ?_)
  · exact kk _ _ g S _ (Nat.le_add_right _ _) (Nat.le_add_right _ _) ⟨hI.1, hI.2.1, hI.2.2.1, by have := hI.2.2.2.1; omega, hJ⟩
  · exact absurd rfl hc
set_option maxHeartbeats 4000000 in
set_option maxRecDepth 20000 in
theorem law_judge {nm : String} {b L : Nat} {xs : Nat → Int32} {i0 : Int32} (hin1 : vp_in (i0 + 1) L) (hin2 : vp_in (i0 + 2) L) (hin3 : vp_in (i0 + 3) L) (hin4 : vp_in (i0 + 4) L) (hin5 : vp_in (i0 + 5) L) {N : Nat} {g : Nat → Option Nat} {S : List SC} {σ : St} {kc kn : Nat} (hkc : kc ≤ 50000) (hkn : kn ≤ 500000) (hN : N < 64) (hI : LI N g S σ) (H : PC_judge) (kk : ∀ (kc2 kn2 : Nat) (g2 : Nat → Option Nat) (S2 : List SC) (τ : St), kc2 ≤ kc + 8 → kn2 ≤ kn + 59 → LI (N + 1) g2 S2 τ → AW (ML nm) (XS b L xs) room_1 600000 7302250 QL kc2 kn2 S2 τ 962 [(0, .ref 777), (1, .ref 0), (2, .ref 29), (3, .int i0)] []) : AW (ML nm) (XS b L xs) room_1 600000 7302250 QL kc kn S σ 302 [(0, .ref 777), (1, .ref 0), (2, .ref 29), (3, .int i0)] [] := by
  have hS := hI.1
  obtain ⟨r, σ1, σ2, ha, hb, hJ⟩ := H N g σ (xs (i0 + 1).toNatClampNeg) hN hI.2.2.2.2
  refine aw_run (tL_7 nm) 5 (pc2 := 307) (L2 := [(0, .ref 777), (1, .ref 0), (2, .ref 29), (3, .int i0)]) (st2 := [.int (i0 + 1), .ref 777, .ref 0]) rfl ?_
  refine aw_sld (tL_7 nm) rfl 308 rfl hin1 ?_
  refine aw_cV (M' := MX5_judge) (av := [.int (xs (i0 + 1).toNatClampNeg)]) (rest := []) (n := 1) (tL_7 nm) rfl 311 rfl rfl lkL_40 hMX5_judge rfl (w_0 hS) ⟨_, _, rfl⟩ (s_X5_judge hS ha) ⟨rfl, rfl, ⟨by decide, by decide⟩, by show kc + 0 ≤ 600000; omega, by show kn + 0 ≤ 7302250; omega⟩ (Nat.le_of_ble_eq_true rfl) 46 (wf_len hS) rfl [.int r] rfl ?_
  refine aw_run (tL_7 nm) 5 (pc2 := 316) (L2 := [(0, .ref 777), (1, .ref 0), (2, .ref 29), (3, .int i0)]) (st2 := [.int (i0 + 1), .ref 777, .ref 29, .int r]) rfl ?_
  refine aw_sld (tL_7 nm) rfl 317 rfl hin1 ?_
  refine aw_cV (M' := MX6_judge) (av := [.int (xs (i0 + 1).toNatClampNeg)]) (rest := [.int r]) (n := 1) (tL_7 nm) rfl 320 rfl rfl lkL_43 hMX6_judge rfl (w_29 hS) ⟨_, _, rfl⟩ (s_X6_judge hS hb) ⟨rfl, rfl, ⟨by decide, by decide⟩, by show kc + 0 ≤ 600000; omega, by show kn + 0 ≤ 7302250; omega⟩ (Nat.le_of_ble_eq_true rfl) 46 (wf_len hS) rfl [.int r, .int r] rfl ?_
  refine aw_icmp_eq (tL_7 nm) rfl 962 323 rfl rfl (fun hc => ?_) (fun hc => ?_)
  · exact kk _ _ g S _ (Nat.le_add_right _ _) (Nat.le_add_right _ _) ⟨hI.1, hI.2.1, hI.2.2.1, by have := hI.2.2.2.1; omega, hJ⟩
  · exact absurd rfl hc
set_option maxHeartbeats 4000000 in
set_option maxRecDepth 20000 in
theorem law_done {nm : String} {b L : Nat} {xs : Nat → Int32} {i0 : Int32} (hin1 : vp_in (i0 + 1) L) (hin2 : vp_in (i0 + 2) L) (hin3 : vp_in (i0 + 3) L) (hin4 : vp_in (i0 + 4) L) (hin5 : vp_in (i0 + 5) L) {N : Nat} {g : Nat → Option Nat} {S : List SC} {σ : St} {kc kn : Nat} (hkc : kc ≤ 50000) (hkn : kn ≤ 500000) (hN : N < 64) (hI : LI N g S σ) (H : PC_done) (kk : ∀ (kc2 kn2 : Nat) (g2 : Nat → Option Nat) (S2 : List SC) (τ : St), kc2 ≤ kc + 8 → kn2 ≤ kn + 59 → LI (N + 1) g2 S2 τ → AW (ML nm) (XS b L xs) room_1 600000 7302250 QL kc2 kn2 S2 τ 962 [(0, .ref 777), (1, .ref 0), (2, .ref 29), (3, .int i0)] []) : AW (ML nm) (XS b L xs) room_1 600000 7302250 QL kc kn S σ 325 [(0, .ref 777), (1, .ref 0), (2, .ref 29), (3, .int i0)] [] := by
  have hS := hI.1
  obtain ⟨r, σ1, σ2, ha, hb, hJ⟩ := H N g σ  hN hI.2.2.2.2
  refine aw_run (tL_8 nm) 1 (pc2 := 326) (L2 := [(0, .ref 777), (1, .ref 0), (2, .ref 29), (3, .int i0)]) (st2 := [.ref 0]) rfl ?_
  refine aw_cV (M' := MX5_done) (av := []) (rest := []) (n := 0) (tL_8 nm) rfl 329 rfl rfl lkL_44 hMX5_done rfl (w_0 hS) ⟨_, _, rfl⟩ (s_X5_done hS ha) ⟨rfl, rfl, ⟨by decide, by decide⟩, by show kc + 0 ≤ 600000; omega, by show kn + 0 ≤ 7302250; omega⟩ (Nat.le_of_ble_eq_true rfl) 46 (wf_len hS) rfl [.int r] rfl ?_
  refine aw_run (tL_8 nm) 1 (pc2 := 330) (L2 := [(0, .ref 777), (1, .ref 0), (2, .ref 29), (3, .int i0)]) (st2 := [.ref 29, .int r]) rfl ?_
  refine aw_cV (M' := MX6_done) (av := []) (rest := [.int r]) (n := 0) (tL_8 nm) rfl 333 rfl rfl lkL_47 hMX6_done rfl (w_29 hS) ⟨_, _, rfl⟩ (s_X6_done hS hb) ⟨rfl, rfl, ⟨by decide, by decide⟩, by show kc + 0 ≤ 600000; omega, by show kn + 0 ≤ 7302250; omega⟩ (Nat.le_of_ble_eq_true rfl) 46 (wf_len hS) rfl [.int r, .int r] rfl ?_
  refine aw_icmp_eq (tL_8 nm) rfl 962 336 rfl rfl (fun hc => ?_) (fun hc => ?_)
  · exact kk _ _ g S _ (Nat.le_add_right _ _) (Nat.le_add_right _ _) ⟨hI.1, hI.2.1, hI.2.2.1, by have := hI.2.2.2.1; omega, hJ⟩
  · exact absurd rfl hc
set_option maxHeartbeats 4000000 in
set_option maxRecDepth 20000 in
theorem law_state {nm : String} {b L : Nat} {xs : Nat → Int32} {i0 : Int32} (hin1 : vp_in (i0 + 1) L) (hin2 : vp_in (i0 + 2) L) (hin3 : vp_in (i0 + 3) L) (hin4 : vp_in (i0 + 4) L) (hin5 : vp_in (i0 + 5) L) {N : Nat} {g : Nat → Option Nat} {S : List SC} {σ : St} {kc kn : Nat} (hkc : kc ≤ 50000) (hkn : kn ≤ 500000) (hN : N < 64) (hI : LI N g S σ) (H : PC_state) (kk : ∀ (kc2 kn2 : Nat) (g2 : Nat → Option Nat) (S2 : List SC) (τ : St), kc2 ≤ kc + 8 → kn2 ≤ kn + 59 → LI (N + 1) g2 S2 τ → AW (ML nm) (XS b L xs) room_1 600000 7302250 QL kc2 kn2 S2 τ 962 [(0, .ref 777), (1, .ref 0), (2, .ref 29), (3, .int i0)] []) : AW (ML nm) (XS b L xs) room_1 600000 7302250 QL kc kn S σ 338 [(0, .ref 777), (1, .ref 0), (2, .ref 29), (3, .int i0)] [] := by
  have hS := hI.1
  obtain ⟨r, σ2, ha, hb, hJ⟩ := H N g σ (xs (i0 + 1).toNatClampNeg) (xs (i0 + 2).toNatClampNeg) hN hI.2.2.2.2
  refine aw_run (tL_9 nm) 5 (pc2 := 343) (L2 := [(0, .ref 777), (1, .ref 0), (2, .ref 29), (3, .int i0)]) (st2 := [.int (i0 + 1), .ref 777, .ref 0]) rfl ?_
  refine aw_sld (tL_9 nm) rfl 344 rfl hin1 ?_
  refine aw_run (tL_9 nm) 4 (pc2 := 348) (L2 := [(0, .ref 777), (1, .ref 0), (2, .ref 29), (3, .int i0)]) (st2 := [.int (i0 + 2), .ref 777, .int (xs (i0 + 1).toNatClampNeg), .ref 0]) rfl ?_
  refine aw_sld (tL_9 nm) rfl 349 rfl hin2 ?_
  refine aw_cV (M' := MX5_state) (av := [.int (xs (i0 + 1).toNatClampNeg), .int (xs (i0 + 2).toNatClampNeg)]) (rest := []) (n := 2) (tL_9 nm) rfl 352 rfl rfl lkL_48 hMX5_state rfl (w_0 hS) ⟨_, _, rfl⟩ (s_X5_state hS ha) ⟨rfl, rfl, ⟨by decide, by decide⟩, by show kc + 0 ≤ 600000; omega, by show kn + 0 ≤ 7302250; omega⟩ (Nat.le_of_ble_eq_true rfl) 46 (wf_len hS) rfl [.int r] rfl ?_
  refine aw_run (tL_9 nm) 5 (pc2 := 357) (L2 := [(0, .ref 777), (1, .ref 0), (2, .ref 29), (3, .int i0)]) (st2 := [.int (i0 + 1), .ref 777, .ref 29, .int r]) rfl ?_
  refine aw_sld (tL_9 nm) rfl 358 rfl hin1 ?_
  refine aw_run (tL_9 nm) 4 (pc2 := 362) (L2 := [(0, .ref 777), (1, .ref 0), (2, .ref 29), (3, .int i0)]) (st2 := [.int (i0 + 2), .ref 777, .int (xs (i0 + 1).toNatClampNeg), .ref 29, .int r]) rfl ?_
  refine aw_sld (tL_9 nm) rfl 363 rfl hin2 ?_
  refine aw_cV (M' := MX6_state) (av := [.int (xs (i0 + 1).toNatClampNeg), .int (xs (i0 + 2).toNatClampNeg)]) (rest := [.int r]) (n := 2) (tL_9 nm) rfl 366 rfl rfl lkL_52 hMX6_state rfl (w_29 hS) ⟨_, _, rfl⟩ (s_X6_state hS hb) ⟨rfl, rfl, ⟨by decide, by decide⟩, by show kc + 0 ≤ 600000; omega, by show kn + 0 ≤ 7302250; omega⟩ (Nat.le_of_ble_eq_true rfl) 46 (wf_len hS) rfl [.int r, .int r] rfl ?_
  refine aw_icmp_eq (tL_9 nm) rfl 962 369 rfl rfl (fun hc => ?_) (fun hc => ?_)
  · exact kk _ _ g S _ (Nat.le_add_right _ _) (Nat.le_add_right _ _) ⟨hI.1, hI.2.1, hI.2.2.1, by have := hI.2.2.2.1; omega, hJ⟩
  · exact absurd rfl hc
set_option maxHeartbeats 4000000 in
set_option maxRecDepth 20000 in
theorem law_behind {nm : String} {b L : Nat} {xs : Nat → Int32} {i0 : Int32} (hin1 : vp_in (i0 + 1) L) (hin2 : vp_in (i0 + 2) L) (hin3 : vp_in (i0 + 3) L) (hin4 : vp_in (i0 + 4) L) (hin5 : vp_in (i0 + 5) L) {N : Nat} {g : Nat → Option Nat} {S : List SC} {σ : St} {kc kn : Nat} (hkc : kc ≤ 50000) (hkn : kn ≤ 500000) (hN : N < 64) (hI : LI N g S σ) (H : PC_behind) (kk : ∀ (kc2 kn2 : Nat) (g2 : Nat → Option Nat) (S2 : List SC) (τ : St), kc2 ≤ kc + 8 → kn2 ≤ kn + 59 → LI (N + 1) g2 S2 τ → AW (ML nm) (XS b L xs) room_1 600000 7302250 QL kc2 kn2 S2 τ 962 [(0, .ref 777), (1, .ref 0), (2, .ref 29), (3, .int i0)] []) : AW (ML nm) (XS b L xs) room_1 600000 7302250 QL kc kn S σ 371 [(0, .ref 777), (1, .ref 0), (2, .ref 29), (3, .int i0)] [] := by
  have hS := hI.1
  obtain ⟨r, σ1, σ2, ha, hb, hJ⟩ := H N g σ (xs (i0 + 1).toNatClampNeg) (xs (i0 + 2).toNatClampNeg) hN hI.2.2.2.2
  refine aw_run (tL_10 nm) 5 (pc2 := 376) (L2 := [(0, .ref 777), (1, .ref 0), (2, .ref 29), (3, .int i0)]) (st2 := [.int (i0 + 1), .ref 777, .ref 0]) rfl ?_
  refine aw_sld (tL_10 nm) rfl 377 rfl hin1 ?_
  refine aw_run (tL_10 nm) 4 (pc2 := 381) (L2 := [(0, .ref 777), (1, .ref 0), (2, .ref 29), (3, .int i0)]) (st2 := [.int (i0 + 2), .ref 777, .int (xs (i0 + 1).toNatClampNeg), .ref 0]) rfl ?_
  refine aw_sld (tL_10 nm) rfl 382 rfl hin2 ?_
  refine aw_cV (M' := MX5_behind) (av := [.int (xs (i0 + 1).toNatClampNeg), .int (xs (i0 + 2).toNatClampNeg)]) (rest := []) (n := 2) (tL_10 nm) rfl 385 rfl rfl lkL_53 hMX5_behind rfl (w_0 hS) ⟨_, _, rfl⟩ (s_X5_behind hS ha) ⟨rfl, rfl, ⟨by decide, by decide⟩, by show kc + 0 ≤ 600000; omega, by show kn + 0 ≤ 7302250; omega⟩ (Nat.le_of_ble_eq_true rfl) 46 (wf_len hS) rfl [.int r] rfl ?_
  refine aw_run (tL_10 nm) 5 (pc2 := 390) (L2 := [(0, .ref 777), (1, .ref 0), (2, .ref 29), (3, .int i0)]) (st2 := [.int (i0 + 1), .ref 777, .ref 29, .int r]) rfl ?_
  refine aw_sld (tL_10 nm) rfl 391 rfl hin1 ?_
  refine aw_run (tL_10 nm) 4 (pc2 := 395) (L2 := [(0, .ref 777), (1, .ref 0), (2, .ref 29), (3, .int i0)]) (st2 := [.int (i0 + 2), .ref 777, .int (xs (i0 + 1).toNatClampNeg), .ref 29, .int r]) rfl ?_
  refine aw_sld (tL_10 nm) rfl 396 rfl hin2 ?_
  refine aw_cV (M' := MX6_behind) (av := [.int (xs (i0 + 1).toNatClampNeg), .int (xs (i0 + 2).toNatClampNeg)]) (rest := [.int r]) (n := 2) (tL_10 nm) rfl 399 rfl rfl lkL_56 hMX6_behind rfl (w_29 hS) ⟨_, _, rfl⟩ (s_X6_behind hS hb) ⟨rfl, rfl, ⟨by decide, by decide⟩, by show kc + 0 ≤ 600000; omega, by show kn + 0 ≤ 7302250; omega⟩ (Nat.le_of_ble_eq_true rfl) 46 (wf_len hS) rfl [.int r, .int r] rfl ?_
  refine aw_icmp_eq (tL_10 nm) rfl 962 402 rfl rfl (fun hc => ?_) (fun hc => ?_)
  · exact kk _ _ g S _ (Nat.le_add_right _ _) (Nat.le_add_right _ _) ⟨hI.1, hI.2.1, hI.2.2.1, by have := hI.2.2.2.1; omega, hJ⟩
  · exact absurd rfl hc
set_option maxHeartbeats 4000000 in
set_option maxRecDepth 20000 in
theorem law_trees {nm : String} {b L : Nat} {xs : Nat → Int32} {i0 : Int32} (hin1 : vp_in (i0 + 1) L) (hin2 : vp_in (i0 + 2) L) (hin3 : vp_in (i0 + 3) L) (hin4 : vp_in (i0 + 4) L) (hin5 : vp_in (i0 + 5) L) {N : Nat} {g : Nat → Option Nat} {S : List SC} {σ : St} {kc kn : Nat} (hkc : kc ≤ 50000) (hkn : kn ≤ 500000) (hN : N < 64) (hI : LI N g S σ) (H : PC_trees) (kk : ∀ (kc2 kn2 : Nat) (g2 : Nat → Option Nat) (S2 : List SC) (τ : St), kc2 ≤ kc + 8 → kn2 ≤ kn + 59 → LI (N + 1) g2 S2 τ → AW (ML nm) (XS b L xs) room_1 600000 7302250 QL kc2 kn2 S2 τ 962 [(0, .ref 777), (1, .ref 0), (2, .ref 29), (3, .int i0)] []) : AW (ML nm) (XS b L xs) room_1 600000 7302250 QL kc kn S σ 404 [(0, .ref 777), (1, .ref 0), (2, .ref 29), (3, .int i0)] [] := by
  have hS := hI.1
  obtain ⟨r, ha, hb, hJ⟩ := H N g σ (xs (i0 + 1).toNatClampNeg) hN hI.2.2.2.2
  refine aw_run (tL_11 nm) 5 (pc2 := 409) (L2 := [(0, .ref 777), (1, .ref 0), (2, .ref 29), (3, .int i0)]) (st2 := [.int (i0 + 1), .ref 777, .ref 0]) rfl ?_
  refine aw_sld (tL_11 nm) rfl 410 rfl hin1 ?_
  refine aw_cV (M' := MX5_trees) (av := [.int (xs (i0 + 1).toNatClampNeg)]) (rest := []) (n := 1) (tL_11 nm) rfl 413 rfl rfl lkL_57 hMX5_trees rfl (w_0 hS) ⟨_, _, rfl⟩ (s_X5_trees hS ha) ⟨rfl, rfl, ⟨by decide, by decide⟩, by show kc + 0 ≤ 600000; omega, by show kn + 0 ≤ 7302250; omega⟩ (Nat.le_of_ble_eq_true rfl) 46 (wf_len hS) rfl [.int r] rfl ?_
  refine aw_run (tL_11 nm) 5 (pc2 := 418) (L2 := [(0, .ref 777), (1, .ref 0), (2, .ref 29), (3, .int i0)]) (st2 := [.int (i0 + 1), .ref 777, .ref 29, .int r]) rfl ?_
  refine aw_sld (tL_11 nm) rfl 419 rfl hin1 ?_
  refine aw_cV (M' := MX6_trees) (av := [.int (xs (i0 + 1).toNatClampNeg)]) (rest := [.int r]) (n := 1) (tL_11 nm) rfl 422 rfl rfl lkL_60 hMX6_trees rfl (w_29 hS) ⟨_, _, rfl⟩ (s_X6_trees hS hb) ⟨rfl, rfl, ⟨by decide, by decide⟩, by show kc + 0 ≤ 600000; omega, by show kn + 0 ≤ 7302250; omega⟩ (Nat.le_of_ble_eq_true rfl) 46 (wf_len hS) rfl [.int r, .int r] rfl ?_
  refine aw_icmp_eq (tL_11 nm) rfl 962 425 rfl rfl (fun hc => ?_) (fun hc => ?_)
  · exact kk _ _ g S _ (Nat.le_add_right _ _) (Nat.le_add_right _ _) ⟨hI.1, hI.2.1, hI.2.2.1, by have := hI.2.2.2.1; omega, hJ⟩
  · exact absurd rfl hc
set_option maxHeartbeats 4000000 in
set_option maxRecDepth 20000 in
theorem law_may {nm : String} {b L : Nat} {xs : Nat → Int32} {i0 : Int32} (hin1 : vp_in (i0 + 1) L) (hin2 : vp_in (i0 + 2) L) (hin3 : vp_in (i0 + 3) L) (hin4 : vp_in (i0 + 4) L) (hin5 : vp_in (i0 + 5) L) {N : Nat} {g : Nat → Option Nat} {S : List SC} {σ : St} {kc kn : Nat} (hkc : kc ≤ 50000) (hkn : kn ≤ 500000) (hN : N < 64) (hI : LI N g S σ) (H : PC_may) (kk : ∀ (kc2 kn2 : Nat) (g2 : Nat → Option Nat) (S2 : List SC) (τ : St), kc2 ≤ kc + 8 → kn2 ≤ kn + 59 → LI (N + 1) g2 S2 τ → AW (ML nm) (XS b L xs) room_1 600000 7302250 QL kc2 kn2 S2 τ 962 [(0, .ref 777), (1, .ref 0), (2, .ref 29), (3, .int i0)] []) : AW (ML nm) (XS b L xs) room_1 600000 7302250 QL kc kn S σ 427 [(0, .ref 777), (1, .ref 0), (2, .ref 29), (3, .int i0)] [] := by
  have hS := hI.1
  obtain ⟨r, σ2, ha, hb, hJ⟩ := H N g σ (xs (i0 + 1).toNatClampNeg) hN hI.2.2.2.2
  refine aw_run (tL_12 nm) 5 (pc2 := 432) (L2 := [(0, .ref 777), (1, .ref 0), (2, .ref 29), (3, .int i0)]) (st2 := [.int (i0 + 1), .ref 777, .ref 0]) rfl ?_
  refine aw_sld (tL_12 nm) rfl 433 rfl hin1 ?_
  refine aw_cV (M' := MX5_may) (av := [.int (xs (i0 + 1).toNatClampNeg)]) (rest := []) (n := 1) (tL_12 nm) rfl 436 rfl rfl lkL_61 hMX5_may rfl (w_0 hS) ⟨_, _, rfl⟩ (s_X5_may hS ha) ⟨rfl, rfl, ⟨by decide, by decide⟩, by show kc + 0 ≤ 600000; omega, by show kn + 0 ≤ 7302250; omega⟩ (Nat.le_of_ble_eq_true rfl) 46 (wf_len hS) rfl [.int r] rfl ?_
  refine aw_run (tL_12 nm) 5 (pc2 := 441) (L2 := [(0, .ref 777), (1, .ref 0), (2, .ref 29), (3, .int i0)]) (st2 := [.int (i0 + 1), .ref 777, .ref 29, .int r]) rfl ?_
  refine aw_sld (tL_12 nm) rfl 442 rfl hin1 ?_
  refine aw_cV (M' := MX6_may) (av := [.int (xs (i0 + 1).toNatClampNeg)]) (rest := [.int r]) (n := 1) (tL_12 nm) rfl 445 rfl rfl lkL_64 hMX6_may rfl (w_29 hS) ⟨_, _, rfl⟩ (s_X6_may hS hb) ⟨rfl, rfl, ⟨by decide, by decide⟩, by show kc + 0 ≤ 600000; omega, by show kn + 0 ≤ 7302250; omega⟩ (Nat.le_of_ble_eq_true rfl) 46 (wf_len hS) rfl [.int r, .int r] rfl ?_
  refine aw_icmp_eq (tL_12 nm) rfl 962 448 rfl rfl (fun hc => ?_) (fun hc => ?_)
  · exact kk _ _ g S _ (Nat.le_add_right _ _) (Nat.le_add_right _ _) ⟨hI.1, hI.2.1, hI.2.2.1, by have := hI.2.2.2.1; omega, hJ⟩
  · exact absurd rfl hc
set_option maxHeartbeats 4000000 in
set_option maxRecDepth 20000 in
theorem law_safe {nm : String} {b L : Nat} {xs : Nat → Int32} {i0 : Int32} (hin1 : vp_in (i0 + 1) L) (hin2 : vp_in (i0 + 2) L) (hin3 : vp_in (i0 + 3) L) (hin4 : vp_in (i0 + 4) L) (hin5 : vp_in (i0 + 5) L) {N : Nat} {g : Nat → Option Nat} {S : List SC} {σ : St} {kc kn : Nat} (hkc : kc ≤ 50000) (hkn : kn ≤ 500000) (hN : N < 64) (hI : LI N g S σ) (H : PC_safe) (kk : ∀ (kc2 kn2 : Nat) (g2 : Nat → Option Nat) (S2 : List SC) (τ : St), kc2 ≤ kc + 8 → kn2 ≤ kn + 59 → LI (N + 1) g2 S2 τ → AW (ML nm) (XS b L xs) room_1 600000 7302250 QL kc2 kn2 S2 τ 962 [(0, .ref 777), (1, .ref 0), (2, .ref 29), (3, .int i0)] []) : AW (ML nm) (XS b L xs) room_1 600000 7302250 QL kc kn S σ 450 [(0, .ref 777), (1, .ref 0), (2, .ref 29), (3, .int i0)] [] := by
  have hS := hI.1
  obtain ⟨r, σ2, ha, hb, hJ⟩ := H N g σ  hN hI.2.2.2.2
  refine aw_run (tL_13 nm) 1 (pc2 := 451) (L2 := [(0, .ref 777), (1, .ref 0), (2, .ref 29), (3, .int i0)]) (st2 := [.ref 0]) rfl ?_
  refine aw_cV (M' := MX5_safe) (av := []) (rest := []) (n := 0) (tL_13 nm) rfl 454 rfl rfl lkL_65 hMX5_safe rfl (w_0 hS) ⟨_, _, rfl⟩ (s_X5_safe hS ha) ⟨rfl, rfl, ⟨by decide, by decide⟩, by show kc + 0 ≤ 600000; omega, by show kn + 0 ≤ 7302250; omega⟩ (Nat.le_of_ble_eq_true rfl) 46 (wf_len hS) rfl [.int r] rfl ?_
  refine aw_run (tL_13 nm) 1 (pc2 := 455) (L2 := [(0, .ref 777), (1, .ref 0), (2, .ref 29), (3, .int i0)]) (st2 := [.ref 29, .int r]) rfl ?_
  refine aw_cV (M' := MX6_safe) (av := []) (rest := [.int r]) (n := 0) (tL_13 nm) rfl 458 rfl rfl lkL_68 hMX6_safe rfl (w_29 hS) ⟨_, _, rfl⟩ (s_X6_safe hS hb) ⟨rfl, rfl, ⟨by decide, by decide⟩, by show kc + 0 ≤ 600000; omega, by show kn + 0 ≤ 7302250; omega⟩ (Nat.le_of_ble_eq_true rfl) 46 (wf_len hS) rfl [.int r, .int r] rfl ?_
  refine aw_icmp_eq (tL_13 nm) rfl 962 461 rfl rfl (fun hc => ?_) (fun hc => ?_)
  · exact kk _ _ g S _ (Nat.le_add_right _ _) (Nat.le_add_right _ _) ⟨hI.1, hI.2.1, hI.2.2.1, by have := hI.2.2.2.1; omega, hJ⟩
  · exact absurd rfl hc
set_option maxHeartbeats 4000000 in
set_option maxRecDepth 20000 in
theorem law_stripped {nm : String} {b L : Nat} {xs : Nat → Int32} {i0 : Int32} (hin1 : vp_in (i0 + 1) L) (hin2 : vp_in (i0 + 2) L) (hin3 : vp_in (i0 + 3) L) (hin4 : vp_in (i0 + 4) L) (hin5 : vp_in (i0 + 5) L) {N : Nat} {g : Nat → Option Nat} {S : List SC} {σ : St} {kc kn : Nat} (hkc : kc ≤ 50000) (hkn : kn ≤ 500000) (hN : N < 64) (hI : LI N g S σ) (H : PC_stripped) (kk : ∀ (kc2 kn2 : Nat) (g2 : Nat → Option Nat) (S2 : List SC) (τ : St), kc2 ≤ kc + 8 → kn2 ≤ kn + 59 → LI (N + 1) g2 S2 τ → AW (ML nm) (XS b L xs) room_1 600000 7302250 QL kc2 kn2 S2 τ 962 [(0, .ref 777), (1, .ref 0), (2, .ref 29), (3, .int i0)] []) : AW (ML nm) (XS b L xs) room_1 600000 7302250 QL kc kn S σ 463 [(0, .ref 777), (1, .ref 0), (2, .ref 29), (3, .int i0)] [] := by
  have hS := hI.1
  obtain ⟨r, σ2, ha, hb, hJ⟩ := H N g σ (xs (i0 + 1).toNatClampNeg) hN hI.2.2.2.2
  refine aw_run (tL_14 nm) 5 (pc2 := 468) (L2 := [(0, .ref 777), (1, .ref 0), (2, .ref 29), (3, .int i0)]) (st2 := [.int (i0 + 1), .ref 777, .ref 0]) rfl ?_
  refine aw_sld (tL_14 nm) rfl 469 rfl hin1 ?_
  refine aw_cV (M' := MX5_stripped) (av := [.int (xs (i0 + 1).toNatClampNeg)]) (rest := []) (n := 1) (tL_14 nm) rfl 472 rfl rfl lkL_69 hMX5_stripped rfl (w_0 hS) ⟨_, _, rfl⟩ (s_X5_stripped hS ha) ⟨rfl, rfl, ⟨by decide, by decide⟩, by show kc + 0 ≤ 600000; omega, by show kn + 0 ≤ 7302250; omega⟩ (Nat.le_of_ble_eq_true rfl) 46 (wf_len hS) rfl [.int r] rfl ?_
  refine aw_run (tL_14 nm) 5 (pc2 := 477) (L2 := [(0, .ref 777), (1, .ref 0), (2, .ref 29), (3, .int i0)]) (st2 := [.int (i0 + 1), .ref 777, .ref 29, .int r]) rfl ?_
  refine aw_sld (tL_14 nm) rfl 478 rfl hin1 ?_
  refine aw_cV (M' := MX6_stripped) (av := [.int (xs (i0 + 1).toNatClampNeg)]) (rest := [.int r]) (n := 1) (tL_14 nm) rfl 481 rfl rfl lkL_72 hMX6_stripped rfl (w_29 hS) ⟨_, _, rfl⟩ (s_X6_stripped hS hb) ⟨rfl, rfl, ⟨by decide, by decide⟩, by show kc + 0 ≤ 600000; omega, by show kn + 0 ≤ 7302250; omega⟩ (Nat.le_of_ble_eq_true rfl) 46 (wf_len hS) rfl [.int r, .int r] rfl ?_
  refine aw_icmp_eq (tL_14 nm) rfl 962 484 rfl rfl (fun hc => ?_) (fun hc => ?_)
  · exact kk _ _ g S _ (Nat.le_add_right _ _) (Nat.le_add_right _ _) ⟨hI.1, hI.2.1, hI.2.2.1, by have := hI.2.2.2.1; omega, hJ⟩
  · exact absurd rfl hc
set_option maxHeartbeats 4000000 in
set_option maxRecDepth 20000 in
theorem law_thefts {nm : String} {b L : Nat} {xs : Nat → Int32} {i0 : Int32} (hin1 : vp_in (i0 + 1) L) (hin2 : vp_in (i0 + 2) L) (hin3 : vp_in (i0 + 3) L) (hin4 : vp_in (i0 + 4) L) (hin5 : vp_in (i0 + 5) L) {N : Nat} {g : Nat → Option Nat} {S : List SC} {σ : St} {kc kn : Nat} (hkc : kc ≤ 50000) (hkn : kn ≤ 500000) (hN : N < 64) (hI : LI N g S σ) (H : PC_thefts) (kk : ∀ (kc2 kn2 : Nat) (g2 : Nat → Option Nat) (S2 : List SC) (τ : St), kc2 ≤ kc + 8 → kn2 ≤ kn + 59 → LI (N + 1) g2 S2 τ → AW (ML nm) (XS b L xs) room_1 600000 7302250 QL kc2 kn2 S2 τ 962 [(0, .ref 777), (1, .ref 0), (2, .ref 29), (3, .int i0)] []) : AW (ML nm) (XS b L xs) room_1 600000 7302250 QL kc kn S σ 486 [(0, .ref 777), (1, .ref 0), (2, .ref 29), (3, .int i0)] [] := by
  have hS := hI.1
  obtain ⟨r, σ2, ha, hb, hJ⟩ := H N g σ (xs (i0 + 1).toNatClampNeg) (xs (i0 + 2).toNatClampNeg) hN hI.2.2.2.2
  refine aw_run (tL_15 nm) 5 (pc2 := 491) (L2 := [(0, .ref 777), (1, .ref 0), (2, .ref 29), (3, .int i0)]) (st2 := [.int (i0 + 1), .ref 777, .ref 0]) rfl ?_
  refine aw_sld (tL_15 nm) rfl 492 rfl hin1 ?_
  refine aw_run (tL_15 nm) 4 (pc2 := 496) (L2 := [(0, .ref 777), (1, .ref 0), (2, .ref 29), (3, .int i0)]) (st2 := [.int (i0 + 2), .ref 777, .int (xs (i0 + 1).toNatClampNeg), .ref 0]) rfl ?_
  refine aw_sld (tL_15 nm) rfl 497 rfl hin2 ?_
  refine aw_cV (M' := MX5_thefts) (av := [.int (xs (i0 + 1).toNatClampNeg), .int (xs (i0 + 2).toNatClampNeg)]) (rest := []) (n := 2) (tL_15 nm) rfl 500 rfl rfl lkL_73 hMX5_thefts rfl (w_0 hS) ⟨_, _, rfl⟩ (s_X5_thefts hS ha) ⟨rfl, rfl, ⟨by decide, by decide⟩, by show kc + 0 ≤ 600000; omega, by show kn + 0 ≤ 7302250; omega⟩ (Nat.le_of_ble_eq_true rfl) 46 (wf_len hS) rfl [.int r] rfl ?_
  refine aw_run (tL_15 nm) 5 (pc2 := 505) (L2 := [(0, .ref 777), (1, .ref 0), (2, .ref 29), (3, .int i0)]) (st2 := [.int (i0 + 1), .ref 777, .ref 29, .int r]) rfl ?_
  refine aw_sld (tL_15 nm) rfl 506 rfl hin1 ?_
  refine aw_run (tL_15 nm) 4 (pc2 := 510) (L2 := [(0, .ref 777), (1, .ref 0), (2, .ref 29), (3, .int i0)]) (st2 := [.int (i0 + 2), .ref 777, .int (xs (i0 + 1).toNatClampNeg), .ref 29, .int r]) rfl ?_
  refine aw_sld (tL_15 nm) rfl 511 rfl hin2 ?_
  refine aw_cV (M' := MX6_thefts) (av := [.int (xs (i0 + 1).toNatClampNeg), .int (xs (i0 + 2).toNatClampNeg)]) (rest := [.int r]) (n := 2) (tL_15 nm) rfl 514 rfl rfl lkL_76 hMX6_thefts rfl (w_29 hS) ⟨_, _, rfl⟩ (s_X6_thefts hS hb) ⟨rfl, rfl, ⟨by decide, by decide⟩, by show kc + 0 ≤ 600000; omega, by show kn + 0 ≤ 7302250; omega⟩ (Nat.le_of_ble_eq_true rfl) 46 (wf_len hS) rfl [.int r, .int r] rfl ?_
  refine aw_icmp_eq (tL_15 nm) rfl 962 517 rfl rfl (fun hc => ?_) (fun hc => ?_)
  · exact kk _ _ g S _ (Nat.le_add_right _ _) (Nat.le_add_right _ _) ⟨hI.1, hI.2.1, hI.2.2.1, by have := hI.2.2.2.1; omega, hJ⟩
  · exact absurd rfl hc
set_option maxHeartbeats 4000000 in
set_option maxRecDepth 20000 in
theorem law_round {nm : String} {b L : Nat} {xs : Nat → Int32} {i0 : Int32} (hin1 : vp_in (i0 + 1) L) (hin2 : vp_in (i0 + 2) L) (hin3 : vp_in (i0 + 3) L) (hin4 : vp_in (i0 + 4) L) (hin5 : vp_in (i0 + 5) L) {N : Nat} {g : Nat → Option Nat} {S : List SC} {σ : St} {kc kn : Nat} (hkc : kc ≤ 50000) (hkn : kn ≤ 500000) (hN : N < 64) (hI : LI N g S σ) (H : PC_round) (kk : ∀ (kc2 kn2 : Nat) (g2 : Nat → Option Nat) (S2 : List SC) (τ : St), kc2 ≤ kc + 8 → kn2 ≤ kn + 59 → LI (N + 1) g2 S2 τ → AW (ML nm) (XS b L xs) room_1 600000 7302250 QL kc2 kn2 S2 τ 962 [(0, .ref 777), (1, .ref 0), (2, .ref 29), (3, .int i0)] []) : AW (ML nm) (XS b L xs) room_1 600000 7302250 QL kc kn S σ 519 [(0, .ref 777), (1, .ref 0), (2, .ref 29), (3, .int i0)] [] := by
  have hS := hI.1
  obtain ⟨r, σ1, σ2, ha, hb, hJ⟩ := H N g σ  hN hI.2.2.2.2
  refine aw_run (tL_16 nm) 1 (pc2 := 520) (L2 := [(0, .ref 777), (1, .ref 0), (2, .ref 29), (3, .int i0)]) (st2 := [.ref 0]) rfl ?_
  refine aw_cV (M' := MX5_round) (av := []) (rest := []) (n := 0) (tL_16 nm) rfl 523 rfl rfl lkL_77 hMX5_round rfl (w_0 hS) ⟨_, _, rfl⟩ (s_X5_round hS ha) ⟨rfl, rfl, ⟨by decide, by decide⟩, by show kc + 0 ≤ 600000; omega, by show kn + 0 ≤ 7302250; omega⟩ (Nat.le_of_ble_eq_true rfl) 46 (wf_len hS) rfl [.int r] rfl ?_
  refine aw_run (tL_16 nm) 1 (pc2 := 524) (L2 := [(0, .ref 777), (1, .ref 0), (2, .ref 29), (3, .int i0)]) (st2 := [.ref 29, .int r]) rfl ?_
  refine aw_cV (M' := MX6_round) (av := []) (rest := [.int r]) (n := 0) (tL_16 nm) rfl 527 rfl rfl lkL_80 hMX6_round rfl (w_29 hS) ⟨_, _, rfl⟩ (s_X6_round hS hb) ⟨rfl, rfl, ⟨by decide, by decide⟩, by show kc + 0 ≤ 600000; omega, by show kn + 0 ≤ 7302250; omega⟩ (Nat.le_of_ble_eq_true rfl) 46 (wf_len hS) rfl [.int r, .int r] rfl ?_
  refine aw_icmp_eq (tL_16 nm) rfl 962 530 rfl rfl (fun hc => ?_) (fun hc => ?_)
  · exact kk _ _ g S _ (Nat.le_add_right _ _) (Nat.le_add_right _ _) ⟨hI.1, hI.2.1, hI.2.2.1, by have := hI.2.2.2.1; omega, hJ⟩
  · exact absurd rfl hc
set_option maxHeartbeats 4000000 in
set_option maxRecDepth 20000 in
theorem law_chain {nm : String} {b L : Nat} {xs : Nat → Int32} {i0 : Int32} (hin1 : vp_in (i0 + 1) L) (hin2 : vp_in (i0 + 2) L) (hin3 : vp_in (i0 + 3) L) (hin4 : vp_in (i0 + 4) L) (hin5 : vp_in (i0 + 5) L) {N : Nat} {g : Nat → Option Nat} {S : List SC} {σ : St} {kc kn : Nat} (hkc : kc ≤ 50000) (hkn : kn ≤ 500000) (hN : N < 64) (hI : LI N g S σ) (H : PC_chain) (kk : ∀ (kc2 kn2 : Nat) (g2 : Nat → Option Nat) (S2 : List SC) (τ : St), kc2 ≤ kc + 8 → kn2 ≤ kn + 59 → LI (N + 1) g2 S2 τ → AW (ML nm) (XS b L xs) room_1 600000 7302250 QL kc2 kn2 S2 τ 962 [(0, .ref 777), (1, .ref 0), (2, .ref 29), (3, .int i0)] []) : AW (ML nm) (XS b L xs) room_1 600000 7302250 QL kc kn S σ 532 [(0, .ref 777), (1, .ref 0), (2, .ref 29), (3, .int i0)] [] := by
  have hS := hI.1
  obtain ⟨r, σ1, σ2, ha, hb, hJ⟩ := H N g σ (xs (i0 + 1).toNatClampNeg) (xs (i0 + 2).toNatClampNeg) hN hI.2.2.2.2
  refine aw_run (tL_17 nm) 5 (pc2 := 537) (L2 := [(0, .ref 777), (1, .ref 0), (2, .ref 29), (3, .int i0)]) (st2 := [.int (i0 + 1), .ref 777, .ref 0]) rfl ?_
  refine aw_sld (tL_17 nm) rfl 538 rfl hin1 ?_
  refine aw_run (tL_17 nm) 4 (pc2 := 542) (L2 := [(0, .ref 777), (1, .ref 0), (2, .ref 29), (3, .int i0)]) (st2 := [.int (i0 + 2), .ref 777, .int (xs (i0 + 1).toNatClampNeg), .ref 0]) rfl ?_
  refine aw_sld (tL_17 nm) rfl 543 rfl hin2 ?_
  refine aw_cV (M' := MX5_chain) (av := [.int (xs (i0 + 1).toNatClampNeg), .int (xs (i0 + 2).toNatClampNeg)]) (rest := []) (n := 2) (tL_17 nm) rfl 546 rfl rfl lkL_81 hMX5_chain rfl (w_0 hS) ⟨_, _, rfl⟩ (s_X5_chain hS ha) ⟨rfl, rfl, ⟨by decide, by decide⟩, by show kc + 0 ≤ 600000; omega, by show kn + 0 ≤ 7302250; omega⟩ (Nat.le_of_ble_eq_true rfl) 46 (wf_len hS) rfl [.int r] rfl ?_
  refine aw_run (tL_17 nm) 5 (pc2 := 551) (L2 := [(0, .ref 777), (1, .ref 0), (2, .ref 29), (3, .int i0)]) (st2 := [.int (i0 + 1), .ref 777, .ref 29, .int r]) rfl ?_
  refine aw_sld (tL_17 nm) rfl 552 rfl hin1 ?_
  refine aw_run (tL_17 nm) 4 (pc2 := 556) (L2 := [(0, .ref 777), (1, .ref 0), (2, .ref 29), (3, .int i0)]) (st2 := [.int (i0 + 2), .ref 777, .int (xs (i0 + 1).toNatClampNeg), .ref 29, .int r]) rfl ?_
  refine aw_sld (tL_17 nm) rfl 557 rfl hin2 ?_
  refine aw_cV (M' := MX6_chain) (av := [.int (xs (i0 + 1).toNatClampNeg), .int (xs (i0 + 2).toNatClampNeg)]) (rest := [.int r]) (n := 2) (tL_17 nm) rfl 560 rfl rfl lkL_84 hMX6_chain rfl (w_29 hS) ⟨_, _, rfl⟩ (s_X6_chain hS hb) ⟨rfl, rfl, ⟨by decide, by decide⟩, by show kc + 0 ≤ 600000; omega, by show kn + 0 ≤ 7302250; omega⟩ (Nat.le_of_ble_eq_true rfl) 46 (wf_len hS) rfl [.int r, .int r] rfl ?_
  refine aw_icmp_eq (tL_17 nm) rfl 962 563 rfl rfl (fun hc => ?_) (fun hc => ?_)
  · exact kk _ _ g S _ (Nat.le_add_right _ _) (Nat.le_add_right _ _) ⟨hI.1, hI.2.1, hI.2.2.1, by have := hI.2.2.2.1; omega, hJ⟩
  · exact absurd rfl hc
set_option maxHeartbeats 4000000 in
set_option maxRecDepth 20000 in
theorem law_exchange {nm : String} {b L : Nat} {xs : Nat → Int32} {i0 : Int32} (hin1 : vp_in (i0 + 1) L) (hin2 : vp_in (i0 + 2) L) (hin3 : vp_in (i0 + 3) L) (hin4 : vp_in (i0 + 4) L) (hin5 : vp_in (i0 + 5) L) {N : Nat} {g : Nat → Option Nat} {S : List SC} {σ : St} {kc kn : Nat} (hkc : kc ≤ 50000) (hkn : kn ≤ 500000) (hN : N < 64) (hI : LI N g S σ) (H : PC_exchange) (kk : ∀ (kc2 kn2 : Nat) (g2 : Nat → Option Nat) (S2 : List SC) (τ : St), kc2 ≤ kc + 8 → kn2 ≤ kn + 59 → LI (N + 1) g2 S2 τ → AW (ML nm) (XS b L xs) room_1 600000 7302250 QL kc2 kn2 S2 τ 962 [(0, .ref 777), (1, .ref 0), (2, .ref 29), (3, .int i0)] []) : AW (ML nm) (XS b L xs) room_1 600000 7302250 QL kc kn S σ 565 [(0, .ref 777), (1, .ref 0), (2, .ref 29), (3, .int i0)] [] := by
  have hS := hI.1
  obtain ⟨r, ha, hb, hJ⟩ := H N g σ (xs (i0 + 1).toNatClampNeg) (xs (i0 + 2).toNatClampNeg) (xs (i0 + 3).toNatClampNeg) hN hI.2.2.2.2
  refine aw_run (tL_18 nm) 5 (pc2 := 570) (L2 := [(0, .ref 777), (1, .ref 0), (2, .ref 29), (3, .int i0)]) (st2 := [.int (i0 + 1), .ref 777, .ref 0]) rfl ?_
  refine aw_sld (tL_18 nm) rfl 571 rfl hin1 ?_
  refine aw_run (tL_18 nm) 4 (pc2 := 575) (L2 := [(0, .ref 777), (1, .ref 0), (2, .ref 29), (3, .int i0)]) (st2 := [.int (i0 + 2), .ref 777, .int (xs (i0 + 1).toNatClampNeg), .ref 0]) rfl ?_
  refine aw_sld (tL_18 nm) rfl 576 rfl hin2 ?_
  refine aw_run (tL_18 nm) 4 (pc2 := 580) (L2 := [(0, .ref 777), (1, .ref 0), (2, .ref 29), (3, .int i0)]) (st2 := [.int (i0 + 3), .ref 777, .int (xs (i0 + 2).toNatClampNeg), .int (xs (i0 + 1).toNatClampNeg), .ref 0]) rfl ?_
  refine aw_sld (tL_18 nm) rfl 581 rfl hin3 ?_
  refine aw_cV (M' := MX5_exchange) (av := [.int (xs (i0 + 1).toNatClampNeg), .int (xs (i0 + 2).toNatClampNeg), .int (xs (i0 + 3).toNatClampNeg)]) (rest := []) (n := 3) (tL_18 nm) rfl 584 rfl rfl lkL_85 hMX5_exchange rfl (w_0 hS) ⟨_, _, rfl⟩ (s_X5_exchange hS ha) ⟨rfl, rfl, ⟨by decide, by decide⟩, by show kc + 0 ≤ 600000; omega, by show kn + 0 ≤ 7302250; omega⟩ (Nat.le_of_ble_eq_true rfl) 46 (wf_len hS) rfl [.int r] rfl ?_
  refine aw_run (tL_18 nm) 5 (pc2 := 589) (L2 := [(0, .ref 777), (1, .ref 0), (2, .ref 29), (3, .int i0)]) (st2 := [.int (i0 + 1), .ref 777, .ref 29, .int r]) rfl ?_
  refine aw_sld (tL_18 nm) rfl 590 rfl hin1 ?_
  refine aw_run (tL_18 nm) 4 (pc2 := 594) (L2 := [(0, .ref 777), (1, .ref 0), (2, .ref 29), (3, .int i0)]) (st2 := [.int (i0 + 2), .ref 777, .int (xs (i0 + 1).toNatClampNeg), .ref 29, .int r]) rfl ?_
  refine aw_sld (tL_18 nm) rfl 595 rfl hin2 ?_
  refine aw_run (tL_18 nm) 4 (pc2 := 599) (L2 := [(0, .ref 777), (1, .ref 0), (2, .ref 29), (3, .int i0)]) (st2 := [.int (i0 + 3), .ref 777, .int (xs (i0 + 2).toNatClampNeg), .int (xs (i0 + 1).toNatClampNeg), .ref 29, .int r]) rfl ?_
  refine aw_sld (tL_18 nm) rfl 600 rfl hin3 ?_
  refine aw_cV (M' := MX6_exchange) (av := [.int (xs (i0 + 1).toNatClampNeg), .int (xs (i0 + 2).toNatClampNeg), .int (xs (i0 + 3).toNatClampNeg)]) (rest := [.int r]) (n := 3) (tL_18 nm) rfl 603 rfl rfl lkL_88 hMX6_exchange rfl (w_29 hS) ⟨_, _, rfl⟩ (s_X6_exchange hS hb) ⟨rfl, rfl, ⟨by decide, by decide⟩, by show kc + 0 ≤ 600000; omega, by show kn + 0 ≤ 7302250; omega⟩ (Nat.le_of_ble_eq_true rfl) 46 (wf_len hS) rfl [.int r, .int r] rfl ?_
  refine aw_icmp_eq (tL_18 nm) rfl 962 606 rfl rfl (fun hc => ?_) (fun hc => ?_)
  · exact kk _ _ g S _ (Nat.le_add_right _ _) (Nat.le_add_right _ _) ⟨hI.1, hI.2.1, hI.2.2.1, by have := hI.2.2.2.1; omega, hJ⟩
  · exact absurd rfl hc
set_option maxHeartbeats 4000000 in
set_option maxRecDepth 20000 in
theorem law_seen {nm : String} {b L : Nat} {xs : Nat → Int32} {i0 : Int32} (hin1 : vp_in (i0 + 1) L) (hin2 : vp_in (i0 + 2) L) (hin3 : vp_in (i0 + 3) L) (hin4 : vp_in (i0 + 4) L) (hin5 : vp_in (i0 + 5) L) {N : Nat} {g : Nat → Option Nat} {S : List SC} {σ : St} {kc kn : Nat} (hkc : kc ≤ 50000) (hkn : kn ≤ 500000) (hN : N < 64) (hI : LI N g S σ) (H : PC_seen) (kk : ∀ (kc2 kn2 : Nat) (g2 : Nat → Option Nat) (S2 : List SC) (τ : St), kc2 ≤ kc + 8 → kn2 ≤ kn + 59 → LI (N + 1) g2 S2 τ → AW (ML nm) (XS b L xs) room_1 600000 7302250 QL kc2 kn2 S2 τ 962 [(0, .ref 777), (1, .ref 0), (2, .ref 29), (3, .int i0)] []) : AW (ML nm) (XS b L xs) room_1 600000 7302250 QL kc kn S σ 608 [(0, .ref 777), (1, .ref 0), (2, .ref 29), (3, .int i0)] [] := by
  have hS := hI.1
  obtain ⟨r, σ1, σ2, ha, hb, hJ⟩ := H N g σ (xs (i0 + 1).toNatClampNeg) (xs (i0 + 2).toNatClampNeg) hN hI.2.2.2.2
  refine aw_run (tL_19 nm) 5 (pc2 := 613) (L2 := [(0, .ref 777), (1, .ref 0), (2, .ref 29), (3, .int i0)]) (st2 := [.int (i0 + 1), .ref 777, .ref 0]) rfl ?_
  refine aw_sld (tL_19 nm) rfl 614 rfl hin1 ?_
  refine aw_run (tL_19 nm) 4 (pc2 := 618) (L2 := [(0, .ref 777), (1, .ref 0), (2, .ref 29), (3, .int i0)]) (st2 := [.int (i0 + 2), .ref 777, .int (xs (i0 + 1).toNatClampNeg), .ref 0]) rfl ?_
  refine aw_sld (tL_19 nm) rfl 619 rfl hin2 ?_
  refine aw_cV (M' := MX5_seen) (av := [.int (xs (i0 + 1).toNatClampNeg), .int (xs (i0 + 2).toNatClampNeg)]) (rest := []) (n := 2) (tL_19 nm) rfl 622 rfl rfl lkL_89 hMX5_seen rfl (w_0 hS) ⟨_, _, rfl⟩ (s_X5_seen hS ha) ⟨rfl, rfl, ⟨by decide, by decide⟩, by show kc + 0 ≤ 600000; omega, by show kn + 0 ≤ 7302250; omega⟩ (Nat.le_of_ble_eq_true rfl) 46 (wf_len hS) rfl [.int r] rfl ?_
  refine aw_run (tL_19 nm) 5 (pc2 := 627) (L2 := [(0, .ref 777), (1, .ref 0), (2, .ref 29), (3, .int i0)]) (st2 := [.int (i0 + 1), .ref 777, .ref 29, .int r]) rfl ?_
  refine aw_sld (tL_19 nm) rfl 628 rfl hin1 ?_
  refine aw_run (tL_19 nm) 4 (pc2 := 632) (L2 := [(0, .ref 777), (1, .ref 0), (2, .ref 29), (3, .int i0)]) (st2 := [.int (i0 + 2), .ref 777, .int (xs (i0 + 1).toNatClampNeg), .ref 29, .int r]) rfl ?_
  refine aw_sld (tL_19 nm) rfl 633 rfl hin2 ?_
  refine aw_cV (M' := MX6_seen) (av := [.int (xs (i0 + 1).toNatClampNeg), .int (xs (i0 + 2).toNatClampNeg)]) (rest := [.int r]) (n := 2) (tL_19 nm) rfl 636 rfl rfl lkL_92 hMX6_seen rfl (w_29 hS) ⟨_, _, rfl⟩ (s_X6_seen hS hb) ⟨rfl, rfl, ⟨by decide, by decide⟩, by show kc + 0 ≤ 600000; omega, by show kn + 0 ≤ 7302250; omega⟩ (Nat.le_of_ble_eq_true rfl) 46 (wf_len hS) rfl [.int r, .int r] rfl ?_
  refine aw_icmp_eq (tL_19 nm) rfl 962 639 rfl rfl (fun hc => ?_) (fun hc => ?_)
  · exact kk _ _ g S _ (Nat.le_add_right _ _) (Nat.le_add_right _ _) ⟨hI.1, hI.2.1, hI.2.2.1, by have := hI.2.2.2.1; omega, hJ⟩
  · exact absurd rfl hc
set_option maxHeartbeats 4000000 in
set_option maxRecDepth 20000 in
theorem law_forget {nm : String} {b L : Nat} {xs : Nat → Int32} {i0 : Int32} (hin1 : vp_in (i0 + 1) L) (hin2 : vp_in (i0 + 2) L) (hin3 : vp_in (i0 + 3) L) (hin4 : vp_in (i0 + 4) L) (hin5 : vp_in (i0 + 5) L) {N : Nat} {g : Nat → Option Nat} {S : List SC} {σ : St} {kc kn : Nat} (hkc : kc ≤ 50000) (hkn : kn ≤ 500000) (hN : N < 64) (hI : LI N g S σ) (H : PC_forget) (kk : ∀ (kc2 kn2 : Nat) (g2 : Nat → Option Nat) (S2 : List SC) (τ : St), kc2 ≤ kc + 8 → kn2 ≤ kn + 59 → LI (N + 1) g2 S2 τ → AW (ML nm) (XS b L xs) room_1 600000 7302250 QL kc2 kn2 S2 τ 962 [(0, .ref 777), (1, .ref 0), (2, .ref 29), (3, .int i0)] []) : AW (ML nm) (XS b L xs) room_1 600000 7302250 QL kc kn S σ 641 [(0, .ref 777), (1, .ref 0), (2, .ref 29), (3, .int i0)] [] := by
  have hS := hI.1
  obtain ⟨r, σ1, σ2, ha, hb, hJ⟩ := H N g σ  hN hI.2.2.2.2
  refine aw_run (tL_20 nm) 1 (pc2 := 642) (L2 := [(0, .ref 777), (1, .ref 0), (2, .ref 29), (3, .int i0)]) (st2 := [.ref 0]) rfl ?_
  refine aw_cV (M' := MX5_forget) (av := []) (rest := []) (n := 0) (tL_20 nm) rfl 645 rfl rfl lkL_93 hMX5_forget rfl (w_0 hS) ⟨_, _, rfl⟩ (s_X5_forget hS ha) ⟨rfl, rfl, ⟨by decide, by decide⟩, by show kc + 0 ≤ 600000; omega, by show kn + 0 ≤ 7302250; omega⟩ (Nat.le_of_ble_eq_true rfl) 46 (wf_len hS) rfl [.int r] rfl ?_
  refine aw_run (tL_20 nm) 1 (pc2 := 646) (L2 := [(0, .ref 777), (1, .ref 0), (2, .ref 29), (3, .int i0)]) (st2 := [.ref 29, .int r]) rfl ?_
  refine aw_cV (M' := MX6_forget) (av := []) (rest := [.int r]) (n := 0) (tL_20 nm) rfl 649 rfl rfl lkL_96 hMX6_forget rfl (w_29 hS) ⟨_, _, rfl⟩ (s_X6_forget hS hb) ⟨rfl, rfl, ⟨by decide, by decide⟩, by show kc + 0 ≤ 600000; omega, by show kn + 0 ≤ 7302250; omega⟩ (Nat.le_of_ble_eq_true rfl) 46 (wf_len hS) rfl [.int r, .int r] rfl ?_
  refine aw_icmp_eq (tL_20 nm) rfl 962 652 rfl rfl (fun hc => ?_) (fun hc => ?_)
  · exact kk _ _ g S _ (Nat.le_add_right _ _) (Nat.le_add_right _ _) ⟨hI.1, hI.2.1, hI.2.2.1, by have := hI.2.2.2.1; omega, hJ⟩
  · exact absurd rfl hc
set_option maxHeartbeats 4000000 in
set_option maxRecDepth 20000 in
theorem law_boots {nm : String} {b L : Nat} {xs : Nat → Int32} {i0 : Int32} (hin1 : vp_in (i0 + 1) L) (hin2 : vp_in (i0 + 2) L) (hin3 : vp_in (i0 + 3) L) (hin4 : vp_in (i0 + 4) L) (hin5 : vp_in (i0 + 5) L) {N : Nat} {g : Nat → Option Nat} {S : List SC} {σ : St} {kc kn : Nat} (hkc : kc ≤ 50000) (hkn : kn ≤ 500000) (hN : N < 64) (hI : LI N g S σ) (H : PC_boots) (kk : ∀ (kc2 kn2 : Nat) (g2 : Nat → Option Nat) (S2 : List SC) (τ : St), kc2 ≤ kc + 8 → kn2 ≤ kn + 59 → LI (N + 1) g2 S2 τ → AW (ML nm) (XS b L xs) room_1 600000 7302250 QL kc2 kn2 S2 τ 962 [(0, .ref 777), (1, .ref 0), (2, .ref 29), (3, .int i0)] []) : AW (ML nm) (XS b L xs) room_1 600000 7302250 QL kc kn S σ 654 [(0, .ref 777), (1, .ref 0), (2, .ref 29), (3, .int i0)] [] := by
  have hS := hI.1
  obtain ⟨r, σ1, σ2, ha, hb, hJ⟩ := H N g σ (xs (i0 + 1).toNatClampNeg) hN hI.2.2.2.2
  refine aw_run (tL_21 nm) 5 (pc2 := 659) (L2 := [(0, .ref 777), (1, .ref 0), (2, .ref 29), (3, .int i0)]) (st2 := [.int (i0 + 1), .ref 777, .ref 0]) rfl ?_
  refine aw_sld (tL_21 nm) rfl 660 rfl hin1 ?_
  refine aw_cV (M' := MX5_boots) (av := [.int (xs (i0 + 1).toNatClampNeg)]) (rest := []) (n := 1) (tL_21 nm) rfl 663 rfl rfl lkL_97 hMX5_boots rfl (w_0 hS) ⟨_, _, rfl⟩ (s_X5_boots hS ha) ⟨rfl, rfl, ⟨by decide, by decide⟩, by show kc + 0 ≤ 600000; omega, by show kn + 0 ≤ 7302250; omega⟩ (Nat.le_of_ble_eq_true rfl) 46 (wf_len hS) rfl [.int r] rfl ?_
  refine aw_run (tL_21 nm) 5 (pc2 := 668) (L2 := [(0, .ref 777), (1, .ref 0), (2, .ref 29), (3, .int i0)]) (st2 := [.int (i0 + 1), .ref 777, .ref 29, .int r]) rfl ?_
  refine aw_sld (tL_21 nm) rfl 669 rfl hin1 ?_
  refine aw_cV (M' := MX6_boots) (av := [.int (xs (i0 + 1).toNatClampNeg)]) (rest := [.int r]) (n := 1) (tL_21 nm) rfl 672 rfl rfl lkL_100 hMX6_boots rfl (w_29 hS) ⟨_, _, rfl⟩ (s_X6_boots hS hb) ⟨rfl, rfl, ⟨by decide, by decide⟩, by show kc + 0 ≤ 600000; omega, by show kn + 0 ≤ 7302250; omega⟩ (Nat.le_of_ble_eq_true rfl) 46 (wf_len hS) rfl [.int r, .int r] rfl ?_
  refine aw_icmp_eq (tL_21 nm) rfl 962 675 rfl rfl (fun hc => ?_) (fun hc => ?_)
  · exact kk _ _ g S _ (Nat.le_add_right _ _) (Nat.le_add_right _ _) ⟨hI.1, hI.2.1, hI.2.2.1, by have := hI.2.2.2.1; omega, hJ⟩
  · exact absurd rfl hc
set_option maxHeartbeats 4000000 in
set_option maxRecDepth 20000 in
theorem law_look {nm : String} {b L : Nat} {xs : Nat → Int32} {i0 : Int32} (hin1 : vp_in (i0 + 1) L) (hin2 : vp_in (i0 + 2) L) (hin3 : vp_in (i0 + 3) L) (hin4 : vp_in (i0 + 4) L) (hin5 : vp_in (i0 + 5) L) {N : Nat} {g : Nat → Option Nat} {S : List SC} {σ : St} {kc kn : Nat} (hkc : kc ≤ 50000) (hkn : kn ≤ 500000) (hN : N < 64) (hI : LI N g S σ) (H : PC_look) (kk : ∀ (kc2 kn2 : Nat) (g2 : Nat → Option Nat) (S2 : List SC) (τ : St), kc2 ≤ kc + 8 → kn2 ≤ kn + 59 → LI (N + 1) g2 S2 τ → AW (ML nm) (XS b L xs) room_1 600000 7302250 QL kc2 kn2 S2 τ 962 [(0, .ref 777), (1, .ref 0), (2, .ref 29), (3, .int i0)] []) : AW (ML nm) (XS b L xs) room_1 600000 7302250 QL kc kn S σ 677 [(0, .ref 777), (1, .ref 0), (2, .ref 29), (3, .int i0)] [] := by
  have hS := hI.1
  obtain ⟨r, σ1, σ2, ha, hb, hJ⟩ := H N g σ (xs (i0 + 1).toNatClampNeg) hN hI.2.2.2.2
  refine aw_run (tL_22 nm) 5 (pc2 := 682) (L2 := [(0, .ref 777), (1, .ref 0), (2, .ref 29), (3, .int i0)]) (st2 := [.int (i0 + 1), .ref 777, .ref 0]) rfl ?_
  refine aw_sld (tL_22 nm) rfl 683 rfl hin1 ?_
  refine aw_cV (M' := MX5_look) (av := [.int (xs (i0 + 1).toNatClampNeg)]) (rest := []) (n := 1) (tL_22 nm) rfl 686 rfl rfl lkL_101 hMX5_look rfl (w_0 hS) ⟨_, _, rfl⟩ (s_X5_look hS ha) ⟨rfl, rfl, ⟨by decide, by decide⟩, by show kc + 0 ≤ 600000; omega, by show kn + 0 ≤ 7302250; omega⟩ (Nat.le_of_ble_eq_true rfl) 46 (wf_len hS) rfl [.int r] rfl ?_
  refine aw_run (tL_22 nm) 5 (pc2 := 691) (L2 := [(0, .ref 777), (1, .ref 0), (2, .ref 29), (3, .int i0)]) (st2 := [.int (i0 + 1), .ref 777, .ref 29, .int r]) rfl ?_
  refine aw_sld (tL_22 nm) rfl 692 rfl hin1 ?_
  refine aw_cV (M' := MX6_look) (av := [.int (xs (i0 + 1).toNatClampNeg)]) (rest := [.int r]) (n := 1) (tL_22 nm) rfl 695 rfl rfl lkL_104 hMX6_look rfl (w_29 hS) ⟨_, _, rfl⟩ (s_X6_look hS hb) ⟨rfl, rfl, ⟨by decide, by decide⟩, by show kc + 0 ≤ 600000; omega, by show kn + 0 ≤ 7302250; omega⟩ (Nat.le_of_ble_eq_true rfl) 46 (wf_len hS) rfl [.int r, .int r] rfl ?_
  refine aw_icmp_eq (tL_22 nm) rfl 962 698 rfl rfl (fun hc => ?_) (fun hc => ?_)
  · exact kk _ _ g S _ (Nat.le_add_right _ _) (Nat.le_add_right _ _) ⟨hI.1, hI.2.1, hI.2.2.1, by have := hI.2.2.2.1; omega, hJ⟩
  · exact absurd rfl hc
set_option maxHeartbeats 4000000 in
set_option maxRecDepth 20000 in
theorem law_duel {nm : String} {b L : Nat} {xs : Nat → Int32} {i0 : Int32} (hin1 : vp_in (i0 + 1) L) (hin2 : vp_in (i0 + 2) L) (hin3 : vp_in (i0 + 3) L) (hin4 : vp_in (i0 + 4) L) (hin5 : vp_in (i0 + 5) L) {N : Nat} {g : Nat → Option Nat} {S : List SC} {σ : St} {kc kn : Nat} (hkc : kc ≤ 50000) (hkn : kn ≤ 500000) (hN : N < 64) (hI : LI N g S σ) (H : PC_duel) (kk : ∀ (kc2 kn2 : Nat) (g2 : Nat → Option Nat) (S2 : List SC) (τ : St), kc2 ≤ kc + 8 → kn2 ≤ kn + 59 → LI (N + 1) g2 S2 τ → AW (ML nm) (XS b L xs) room_1 600000 7302250 QL kc2 kn2 S2 τ 962 [(0, .ref 777), (1, .ref 0), (2, .ref 29), (3, .int i0)] []) : AW (ML nm) (XS b L xs) room_1 600000 7302250 QL kc kn S σ 700 [(0, .ref 777), (1, .ref 0), (2, .ref 29), (3, .int i0)] [] := by
  have hS := hI.1
  obtain ⟨r, σ1, σ2, ha, hb, hJ⟩ := H N g σ (xs (i0 + 1).toNatClampNeg) (xs (i0 + 2).toNatClampNeg) (xs (i0 + 3).toNatClampNeg) (xs (i0 + 4).toNatClampNeg) hN hI.2.2.2.2
  refine aw_run (tL_23 nm) 5 (pc2 := 705) (L2 := [(0, .ref 777), (1, .ref 0), (2, .ref 29), (3, .int i0)]) (st2 := [.int (i0 + 1), .ref 777, .ref 0]) rfl ?_
  refine aw_sld (tL_23 nm) rfl 706 rfl hin1 ?_
  refine aw_run (tL_23 nm) 4 (pc2 := 710) (L2 := [(0, .ref 777), (1, .ref 0), (2, .ref 29), (3, .int i0)]) (st2 := [.int (i0 + 2), .ref 777, .int (xs (i0 + 1).toNatClampNeg), .ref 0]) rfl ?_
  refine aw_sld (tL_23 nm) rfl 711 rfl hin2 ?_
  refine aw_run (tL_23 nm) 4 (pc2 := 715) (L2 := [(0, .ref 777), (1, .ref 0), (2, .ref 29), (3, .int i0)]) (st2 := [.int (i0 + 3), .ref 777, .int (xs (i0 + 2).toNatClampNeg), .int (xs (i0 + 1).toNatClampNeg), .ref 0]) rfl ?_
  refine aw_sld (tL_23 nm) rfl 716 rfl hin3 ?_
  refine aw_run (tL_23 nm) 4 (pc2 := 720) (L2 := [(0, .ref 777), (1, .ref 0), (2, .ref 29), (3, .int i0)]) (st2 := [.int (i0 + 4), .ref 777, .int (xs (i0 + 3).toNatClampNeg), .int (xs (i0 + 2).toNatClampNeg), .int (xs (i0 + 1).toNatClampNeg), .ref 0]) rfl ?_
  refine aw_sld (tL_23 nm) rfl 721 rfl hin4 ?_
  refine aw_cV (M' := MX5_duel) (av := [.int (xs (i0 + 1).toNatClampNeg), .int (xs (i0 + 2).toNatClampNeg), .int (xs (i0 + 3).toNatClampNeg), .int (xs (i0 + 4).toNatClampNeg)]) (rest := []) (n := 4) (tL_23 nm) rfl 724 rfl rfl lkL_105 hMX5_duel rfl (w_0 hS) ⟨_, _, rfl⟩ (s_X5_duel hS ha) ⟨rfl, rfl, ⟨by decide, by decide⟩, by show kc + 0 ≤ 600000; omega, by show kn + 0 ≤ 7302250; omega⟩ (Nat.le_of_ble_eq_true rfl) 46 (wf_len hS) rfl [.int r] rfl ?_
  refine aw_run (tL_23 nm) 5 (pc2 := 729) (L2 := [(0, .ref 777), (1, .ref 0), (2, .ref 29), (3, .int i0)]) (st2 := [.int (i0 + 1), .ref 777, .ref 29, .int r]) rfl ?_
  refine aw_sld (tL_23 nm) rfl 730 rfl hin1 ?_
  refine aw_run (tL_23 nm) 4 (pc2 := 734) (L2 := [(0, .ref 777), (1, .ref 0), (2, .ref 29), (3, .int i0)]) (st2 := [.int (i0 + 2), .ref 777, .int (xs (i0 + 1).toNatClampNeg), .ref 29, .int r]) rfl ?_
  refine aw_sld (tL_23 nm) rfl 735 rfl hin2 ?_
  refine aw_run (tL_23 nm) 4 (pc2 := 739) (L2 := [(0, .ref 777), (1, .ref 0), (2, .ref 29), (3, .int i0)]) (st2 := [.int (i0 + 3), .ref 777, .int (xs (i0 + 2).toNatClampNeg), .int (xs (i0 + 1).toNatClampNeg), .ref 29, .int r]) rfl ?_
  refine aw_sld (tL_23 nm) rfl 740 rfl hin3 ?_
  refine aw_run (tL_23 nm) 4 (pc2 := 744) (L2 := [(0, .ref 777), (1, .ref 0), (2, .ref 29), (3, .int i0)]) (st2 := [.int (i0 + 4), .ref 777, .int (xs (i0 + 3).toNatClampNeg), .int (xs (i0 + 2).toNatClampNeg), .int (xs (i0 + 1).toNatClampNeg), .ref 29, .int r]) rfl ?_
  refine aw_sld (tL_23 nm) rfl 745 rfl hin4 ?_
  refine aw_cV (M' := MX6_duel) (av := [.int (xs (i0 + 1).toNatClampNeg), .int (xs (i0 + 2).toNatClampNeg), .int (xs (i0 + 3).toNatClampNeg), .int (xs (i0 + 4).toNatClampNeg)]) (rest := [.int r]) (n := 4) (tL_23 nm) rfl 748 rfl rfl lkL_109 hMX6_duel rfl (w_29 hS) ⟨_, _, rfl⟩ (s_X6_duel hS hb) ⟨rfl, rfl, ⟨by decide, by decide⟩, by show kc + 0 ≤ 600000; omega, by show kn + 0 ≤ 7302250; omega⟩ (Nat.le_of_ble_eq_true rfl) 46 (wf_len hS) rfl [.int r, .int r] rfl ?_
  refine aw_icmp_eq (tL_23 nm) rfl 962 751 rfl rfl (fun hc => ?_) (fun hc => ?_)
  · exact kk _ _ g S _ (Nat.le_add_right _ _) (Nat.le_add_right _ _) ⟨hI.1, hI.2.1, hI.2.2.1, by have := hI.2.2.2.1; omega, hJ⟩
  · exact absurd rfl hc
set_option maxHeartbeats 4000000 in
set_option maxRecDepth 20000 in
theorem law_caught {nm : String} {b L : Nat} {xs : Nat → Int32} {i0 : Int32} (hin1 : vp_in (i0 + 1) L) (hin2 : vp_in (i0 + 2) L) (hin3 : vp_in (i0 + 3) L) (hin4 : vp_in (i0 + 4) L) (hin5 : vp_in (i0 + 5) L) {N : Nat} {g : Nat → Option Nat} {S : List SC} {σ : St} {kc kn : Nat} (hkc : kc ≤ 50000) (hkn : kn ≤ 500000) (hN : N < 64) (hI : LI N g S σ) (H : PC_caught) (kk : ∀ (kc2 kn2 : Nat) (g2 : Nat → Option Nat) (S2 : List SC) (τ : St), kc2 ≤ kc + 8 → kn2 ≤ kn + 59 → LI (N + 1) g2 S2 τ → AW (ML nm) (XS b L xs) room_1 600000 7302250 QL kc2 kn2 S2 τ 962 [(0, .ref 777), (1, .ref 0), (2, .ref 29), (3, .int i0)] []) : AW (ML nm) (XS b L xs) room_1 600000 7302250 QL kc kn S σ 753 [(0, .ref 777), (1, .ref 0), (2, .ref 29), (3, .int i0)] [] := by
  have hS := hI.1
  obtain ⟨r, σ2, ha, hb, hJ⟩ := H N g σ (xs (i0 + 1).toNatClampNeg) (xs (i0 + 2).toNatClampNeg) (xs (i0 + 3).toNatClampNeg) (xs (i0 + 4).toNatClampNeg) (xs (i0 + 5).toNatClampNeg) hN hI.2.2.2.2
  refine aw_run (tL_24 nm) 5 (pc2 := 758) (L2 := [(0, .ref 777), (1, .ref 0), (2, .ref 29), (3, .int i0)]) (st2 := [.int (i0 + 1), .ref 777, .ref 0]) rfl ?_
  refine aw_sld (tL_24 nm) rfl 759 rfl hin1 ?_
  refine aw_run (tL_24 nm) 4 (pc2 := 763) (L2 := [(0, .ref 777), (1, .ref 0), (2, .ref 29), (3, .int i0)]) (st2 := [.int (i0 + 2), .ref 777, .int (xs (i0 + 1).toNatClampNeg), .ref 0]) rfl ?_
  refine aw_sld (tL_24 nm) rfl 764 rfl hin2 ?_
  refine aw_run (tL_24 nm) 4 (pc2 := 768) (L2 := [(0, .ref 777), (1, .ref 0), (2, .ref 29), (3, .int i0)]) (st2 := [.int (i0 + 3), .ref 777, .int (xs (i0 + 2).toNatClampNeg), .int (xs (i0 + 1).toNatClampNeg), .ref 0]) rfl ?_
  refine aw_sld (tL_24 nm) rfl 769 rfl hin3 ?_
  refine aw_run (tL_24 nm) 4 (pc2 := 773) (L2 := [(0, .ref 777), (1, .ref 0), (2, .ref 29), (3, .int i0)]) (st2 := [.int (i0 + 4), .ref 777, .int (xs (i0 + 3).toNatClampNeg), .int (xs (i0 + 2).toNatClampNeg), .int (xs (i0 + 1).toNatClampNeg), .ref 0]) rfl ?_
  refine aw_sld (tL_24 nm) rfl 774 rfl hin4 ?_
  refine aw_run (tL_24 nm) 4 (pc2 := 778) (L2 := [(0, .ref 777), (1, .ref 0), (2, .ref 29), (3, .int i0)]) (st2 := [.int (i0 + 5), .ref 777, .int (xs (i0 + 4).toNatClampNeg), .int (xs (i0 + 3).toNatClampNeg), .int (xs (i0 + 2).toNatClampNeg), .int (xs (i0 + 1).toNatClampNeg), .ref 0]) rfl ?_
  refine aw_sld (tL_24 nm) rfl 779 rfl hin5 ?_
  refine aw_cV (M' := MX5_caught) (av := [.int (xs (i0 + 1).toNatClampNeg), .int (xs (i0 + 2).toNatClampNeg), .int (xs (i0 + 3).toNatClampNeg), .int (xs (i0 + 4).toNatClampNeg), .int (xs (i0 + 5).toNatClampNeg)]) (rest := []) (n := 5) (tL_24 nm) rfl 782 rfl rfl lkL_110 hMX5_caught rfl (w_0 hS) ⟨_, _, rfl⟩ (s_X5_caught hS ha) ⟨rfl, rfl, ⟨by decide, by decide⟩, by show kc + 0 ≤ 600000; omega, by show kn + 0 ≤ 7302250; omega⟩ (Nat.le_of_ble_eq_true rfl) 46 (wf_len hS) rfl [.long r] rfl ?_
  refine aw_run (tL_24 nm) 5 (pc2 := 787) (L2 := [(0, .ref 777), (1, .ref 0), (2, .ref 29), (3, .int i0)]) (st2 := [.int (i0 + 1), .ref 777, .ref 29, .long r]) rfl ?_
  refine aw_sld (tL_24 nm) rfl 788 rfl hin1 ?_
  refine aw_run (tL_24 nm) 4 (pc2 := 792) (L2 := [(0, .ref 777), (1, .ref 0), (2, .ref 29), (3, .int i0)]) (st2 := [.int (i0 + 2), .ref 777, .int (xs (i0 + 1).toNatClampNeg), .ref 29, .long r]) rfl ?_
  refine aw_sld (tL_24 nm) rfl 793 rfl hin2 ?_
  refine aw_run (tL_24 nm) 4 (pc2 := 797) (L2 := [(0, .ref 777), (1, .ref 0), (2, .ref 29), (3, .int i0)]) (st2 := [.int (i0 + 3), .ref 777, .int (xs (i0 + 2).toNatClampNeg), .int (xs (i0 + 1).toNatClampNeg), .ref 29, .long r]) rfl ?_
  refine aw_sld (tL_24 nm) rfl 798 rfl hin3 ?_
  refine aw_run (tL_24 nm) 4 (pc2 := 802) (L2 := [(0, .ref 777), (1, .ref 0), (2, .ref 29), (3, .int i0)]) (st2 := [.int (i0 + 4), .ref 777, .int (xs (i0 + 3).toNatClampNeg), .int (xs (i0 + 2).toNatClampNeg), .int (xs (i0 + 1).toNatClampNeg), .ref 29, .long r]) rfl ?_
  refine aw_sld (tL_24 nm) rfl 803 rfl hin4 ?_
  refine aw_run (tL_24 nm) 4 (pc2 := 807) (L2 := [(0, .ref 777), (1, .ref 0), (2, .ref 29), (3, .int i0)]) (st2 := [.int (i0 + 5), .ref 777, .int (xs (i0 + 4).toNatClampNeg), .int (xs (i0 + 3).toNatClampNeg), .int (xs (i0 + 2).toNatClampNeg), .int (xs (i0 + 1).toNatClampNeg), .ref 29, .long r]) rfl ?_
  refine aw_sld (tL_24 nm) rfl 808 rfl hin5 ?_
  refine aw_cV (M' := MX6_caught) (av := [.int (xs (i0 + 1).toNatClampNeg), .int (xs (i0 + 2).toNatClampNeg), .int (xs (i0 + 3).toNatClampNeg), .int (xs (i0 + 4).toNatClampNeg), .int (xs (i0 + 5).toNatClampNeg)]) (rest := [.long r]) (n := 5) (tL_24 nm) rfl 811 rfl rfl lkL_114 hMX6_caught rfl (w_29 hS) ⟨_, _, rfl⟩ (s_X6_caught hS hb) ⟨rfl, rfl, ⟨by decide, by decide⟩, by show kc + 0 ≤ 600000; omega, by show kn + 0 ≤ 7302250; omega⟩ (Nat.le_of_ble_eq_true rfl) 46 (wf_len hS) rfl [.long r, .long r] rfl ?_
  refine aw_run (tL_24 nm) 1 (pc2 := 812) (L2 := [(0, .ref 777), (1, .ref 0), (2, .ref 29), (3, .int i0)]) (st2 := [.int (lg_cmp r r)]) rfl ?_
  refine aw_if_eq (tL_24 nm) rfl 962 815 rfl rfl (fun hc => ?_) (fun hc => ?_)
  · exact kk _ _ g S _ (Nat.le_add_right _ _) (Nat.le_add_right _ _) ⟨hI.1, hI.2.1, hI.2.2.1, by have := hI.2.2.2.1; omega, hJ⟩
  · exact absurd (lgc r) hc
set_option maxHeartbeats 4000000 in
set_option maxRecDepth 20000 in
theorem law_moons {nm : String} {b L : Nat} {xs : Nat → Int32} {i0 : Int32} (hin1 : vp_in (i0 + 1) L) (hin2 : vp_in (i0 + 2) L) (hin3 : vp_in (i0 + 3) L) (hin4 : vp_in (i0 + 4) L) (hin5 : vp_in (i0 + 5) L) {N : Nat} {g : Nat → Option Nat} {S : List SC} {σ : St} {kc kn : Nat} (hkc : kc ≤ 50000) (hkn : kn ≤ 500000) (hN : N < 64) (hI : LI N g S σ) (H : PC_moons) (kk : ∀ (kc2 kn2 : Nat) (g2 : Nat → Option Nat) (S2 : List SC) (τ : St), kc2 ≤ kc + 8 → kn2 ≤ kn + 59 → LI (N + 1) g2 S2 τ → AW (ML nm) (XS b L xs) room_1 600000 7302250 QL kc2 kn2 S2 τ 962 [(0, .ref 777), (1, .ref 0), (2, .ref 29), (3, .int i0)] []) : AW (ML nm) (XS b L xs) room_1 600000 7302250 QL kc kn S σ 817 [(0, .ref 777), (1, .ref 0), (2, .ref 29), (3, .int i0)] [] := by
  have hS := hI.1
  obtain ⟨r, ha, hb, hJ⟩ := H N g σ (xs (i0 + 1).toNatClampNeg) (xs (i0 + 2).toNatClampNeg) hN hI.2.2.2.2
  refine aw_run (tL_25 nm) 5 (pc2 := 822) (L2 := [(0, .ref 777), (1, .ref 0), (2, .ref 29), (3, .int i0)]) (st2 := [.int (i0 + 1), .ref 777, .ref 0]) rfl ?_
  refine aw_sld (tL_25 nm) rfl 823 rfl hin1 ?_
  refine aw_run (tL_25 nm) 4 (pc2 := 827) (L2 := [(0, .ref 777), (1, .ref 0), (2, .ref 29), (3, .int i0)]) (st2 := [.int (i0 + 2), .ref 777, .int (xs (i0 + 1).toNatClampNeg), .ref 0]) rfl ?_
  refine aw_sld (tL_25 nm) rfl 828 rfl hin2 ?_
  refine aw_cV (M' := MX5_moons) (av := [.int (xs (i0 + 1).toNatClampNeg), .int (xs (i0 + 2).toNatClampNeg)]) (rest := []) (n := 2) (tL_25 nm) rfl 831 rfl rfl lkL_115 hMX5_moons rfl (w_0 hS) ⟨_, _, rfl⟩ (s_X5_moons hS ha) ⟨rfl, rfl, ⟨by decide, by decide⟩, by show kc + 0 ≤ 600000; omega, by show kn + 0 ≤ 7302250; omega⟩ (Nat.le_of_ble_eq_true rfl) 46 (wf_len hS) rfl [.int r] rfl ?_
  refine aw_run (tL_25 nm) 5 (pc2 := 836) (L2 := [(0, .ref 777), (1, .ref 0), (2, .ref 29), (3, .int i0)]) (st2 := [.int (i0 + 1), .ref 777, .ref 29, .int r]) rfl ?_
  refine aw_sld (tL_25 nm) rfl 837 rfl hin1 ?_
  refine aw_run (tL_25 nm) 4 (pc2 := 841) (L2 := [(0, .ref 777), (1, .ref 0), (2, .ref 29), (3, .int i0)]) (st2 := [.int (i0 + 2), .ref 777, .int (xs (i0 + 1).toNatClampNeg), .ref 29, .int r]) rfl ?_
  refine aw_sld (tL_25 nm) rfl 842 rfl hin2 ?_
  refine aw_cV (M' := MX6_moons) (av := [.int (xs (i0 + 1).toNatClampNeg), .int (xs (i0 + 2).toNatClampNeg)]) (rest := [.int r]) (n := 2) (tL_25 nm) rfl 845 rfl rfl lkL_118 hMX6_moons rfl (w_29 hS) ⟨_, _, rfl⟩ (s_X6_moons hS hb) ⟨rfl, rfl, ⟨by decide, by decide⟩, by show kc + 0 ≤ 600000; omega, by show kn + 0 ≤ 7302250; omega⟩ (Nat.le_of_ble_eq_true rfl) 46 (wf_len hS) rfl [.int r, .int r] rfl ?_
  refine aw_icmp_eq (tL_25 nm) rfl 962 848 rfl rfl (fun hc => ?_) (fun hc => ?_)
  · exact kk _ _ g S _ (Nat.le_add_right _ _) (Nat.le_add_right _ _) ⟨hI.1, hI.2.1, hI.2.2.1, by have := hI.2.2.2.1; omega, hJ⟩
  · exact absurd rfl hc
set_option maxHeartbeats 4000000 in
set_option maxRecDepth 20000 in
theorem law_year {nm : String} {b L : Nat} {xs : Nat → Int32} {i0 : Int32} (hin1 : vp_in (i0 + 1) L) (hin2 : vp_in (i0 + 2) L) (hin3 : vp_in (i0 + 3) L) (hin4 : vp_in (i0 + 4) L) (hin5 : vp_in (i0 + 5) L) {N : Nat} {g : Nat → Option Nat} {S : List SC} {σ : St} {kc kn : Nat} (hkc : kc ≤ 50000) (hkn : kn ≤ 500000) (hN : N < 64) (hI : LI N g S σ) (H : PC_year) (kk : ∀ (kc2 kn2 : Nat) (g2 : Nat → Option Nat) (S2 : List SC) (τ : St), kc2 ≤ kc + 8 → kn2 ≤ kn + 59 → LI (N + 1) g2 S2 τ → AW (ML nm) (XS b L xs) room_1 600000 7302250 QL kc2 kn2 S2 τ 962 [(0, .ref 777), (1, .ref 0), (2, .ref 29), (3, .int i0)] []) : AW (ML nm) (XS b L xs) room_1 600000 7302250 QL kc kn S σ 850 [(0, .ref 777), (1, .ref 0), (2, .ref 29), (3, .int i0)] [] := by
  have hS := hI.1
  obtain ⟨r, σ1, σ2, ha, hb, hJ⟩ := H N g σ (xs (i0 + 1).toNatClampNeg) (xs (i0 + 2).toNatClampNeg) (xs (i0 + 3).toNatClampNeg) hN hI.2.2.2.2
  refine aw_run (tL_26 nm) 5 (pc2 := 855) (L2 := [(0, .ref 777), (1, .ref 0), (2, .ref 29), (3, .int i0)]) (st2 := [.int (i0 + 1), .ref 777, .ref 0]) rfl ?_
  refine aw_sld (tL_26 nm) rfl 856 rfl hin1 ?_
  refine aw_run (tL_26 nm) 4 (pc2 := 860) (L2 := [(0, .ref 777), (1, .ref 0), (2, .ref 29), (3, .int i0)]) (st2 := [.int (i0 + 2), .ref 777, .int (xs (i0 + 1).toNatClampNeg), .ref 0]) rfl ?_
  refine aw_sld (tL_26 nm) rfl 861 rfl hin2 ?_
  refine aw_run (tL_26 nm) 4 (pc2 := 865) (L2 := [(0, .ref 777), (1, .ref 0), (2, .ref 29), (3, .int i0)]) (st2 := [.int (i0 + 3), .ref 777, .int (xs (i0 + 2).toNatClampNeg), .int (xs (i0 + 1).toNatClampNeg), .ref 0]) rfl ?_
  refine aw_sld (tL_26 nm) rfl 866 rfl hin3 ?_
  refine aw_cV (M' := MX5_year) (av := [.int (xs (i0 + 1).toNatClampNeg), .int (xs (i0 + 2).toNatClampNeg), .int (xs (i0 + 3).toNatClampNeg)]) (rest := []) (n := 3) (tL_26 nm) rfl 869 rfl rfl lkL_119 hMX5_year rfl (w_0 hS) ⟨_, _, rfl⟩ (s_X5_year hS ha) ⟨rfl, rfl, ⟨by decide, by decide⟩, by show kc + 0 ≤ 600000; omega, by show kn + 0 ≤ 7302250; omega⟩ (Nat.le_of_ble_eq_true rfl) 46 (wf_len hS) rfl [.int r] rfl ?_
  refine aw_run (tL_26 nm) 5 (pc2 := 874) (L2 := [(0, .ref 777), (1, .ref 0), (2, .ref 29), (3, .int i0)]) (st2 := [.int (i0 + 1), .ref 777, .ref 29, .int r]) rfl ?_
  refine aw_sld (tL_26 nm) rfl 875 rfl hin1 ?_
  refine aw_run (tL_26 nm) 4 (pc2 := 879) (L2 := [(0, .ref 777), (1, .ref 0), (2, .ref 29), (3, .int i0)]) (st2 := [.int (i0 + 2), .ref 777, .int (xs (i0 + 1).toNatClampNeg), .ref 29, .int r]) rfl ?_
  refine aw_sld (tL_26 nm) rfl 880 rfl hin2 ?_
  refine aw_run (tL_26 nm) 4 (pc2 := 884) (L2 := [(0, .ref 777), (1, .ref 0), (2, .ref 29), (3, .int i0)]) (st2 := [.int (i0 + 3), .ref 777, .int (xs (i0 + 2).toNatClampNeg), .int (xs (i0 + 1).toNatClampNeg), .ref 29, .int r]) rfl ?_
  refine aw_sld (tL_26 nm) rfl 885 rfl hin3 ?_
  refine aw_cV (M' := MX6_year) (av := [.int (xs (i0 + 1).toNatClampNeg), .int (xs (i0 + 2).toNatClampNeg), .int (xs (i0 + 3).toNatClampNeg)]) (rest := [.int r]) (n := 3) (tL_26 nm) rfl 888 rfl rfl lkL_122 hMX6_year rfl (w_29 hS) ⟨_, _, rfl⟩ (s_X6_year hS hb) ⟨rfl, rfl, ⟨by decide, by decide⟩, by show kc + 0 ≤ 600000; omega, by show kn + 0 ≤ 7302250; omega⟩ (Nat.le_of_ble_eq_true rfl) 46 (wf_len hS) rfl [.int r, .int r] rfl ?_
  refine aw_icmp_eq (tL_26 nm) rfl 962 891 rfl rfl (fun hc => ?_) (fun hc => ?_)
  · exact kk _ _ g S _ (Nat.le_add_right _ _) (Nat.le_add_right _ _) ⟨hI.1, hI.2.1, hI.2.2.1, by have := hI.2.2.2.1; omega, hJ⟩
  · exact absurd rfl hc
set_option maxHeartbeats 4000000 in
set_option maxRecDepth 20000 in
theorem law_image {nm : String} {b L : Nat} {xs : Nat → Int32} {i0 : Int32} (hin1 : vp_in (i0 + 1) L) (hin2 : vp_in (i0 + 2) L) (hin3 : vp_in (i0 + 3) L) (hin4 : vp_in (i0 + 4) L) (hin5 : vp_in (i0 + 5) L) {N : Nat} {g : Nat → Option Nat} {S : List SC} {σ : St} {kc kn : Nat} (hkc : kc ≤ 50000) (hkn : kn ≤ 500000) (hN : N < 64) (hI : LI N g S σ) (H : PC_image) (kk : ∀ (kc2 kn2 : Nat) (g2 : Nat → Option Nat) (S2 : List SC) (τ : St), kc2 ≤ kc + 8 → kn2 ≤ kn + 59 → LI (N + 1) g2 S2 τ → AW (ML nm) (XS b L xs) room_1 600000 7302250 QL kc2 kn2 S2 τ 962 [(0, .ref 777), (1, .ref 0), (2, .ref 29), (3, .int i0)] []) : AW (ML nm) (XS b L xs) room_1 600000 7302250 QL kc kn S σ 893 [(0, .ref 777), (1, .ref 0), (2, .ref 29), (3, .int i0)] [] := by
  have hS := hI.1
  obtain ⟨r1, er1, hv1, hH⟩ := H N g S σ (xs (i0 + 1).toNatClampNeg) hN hI
  refine aw_run (tL_27 nm) 5 (pc2 := 898) (L2 := [(0, .ref 777), (1, .ref 0), (2, .ref 29), (3, .int i0)]) (st2 := [.int (i0 + 1), .ref 777, .ref 0]) rfl ?_
  refine aw_sld (tL_27 nm) rfl 899 rfl hin1 ?_
  refine aw_callV (M' := MX5_image) (rm := rmX5_image) (mc' := 8) (ms' := 59) (av := [.int (xs (i0 + 1).toNatClampNeg)]) (rest := []) (n := 1) (tL_27 nm) rfl 902 rfl rfl lkL_123 hMX5_image rfl (w_0 hS) ⟨_, _, rfl⟩ (s_X5_image hS hI.2.1 hI.2.2.1 (by have := hI.2.2.2.1; omega) er1 hv1) ⟨rfl, rfl, ⟨by decide, by decide⟩, by show kc + 8 ≤ 600000; omega, by show kn + 59 ≤ 7302250; omega⟩ (Nat.le_of_ble_eq_true rfl) 46 (wf_len hS) rfl (fun v S' σ1 q => ?_)
  obtain ⟨g1, r, σ2, rfl, hb, hJ⟩ := hH v S' σ1 q
  have hS := hJ.1
  refine aw_V (st := [.int r]) rfl ?_
  refine aw_run (tL_27 nm) 5 (pc2 := 907) (L2 := [(0, .ref 777), (1, .ref 0), (2, .ref 29), (3, .int i0)]) (st2 := [.int (i0 + 1), .ref 777, .ref 29, .int r]) rfl ?_
  refine aw_sld (tL_27 nm) rfl 908 rfl hin1 ?_
  refine aw_cV (M' := MX6_image) (av := [.int (xs (i0 + 1).toNatClampNeg)]) (rest := [.int r]) (n := 1) (tL_27 nm) rfl 911 rfl rfl lkL_126 hMX6_image rfl (w_29 hS) ⟨_, _, rfl⟩ (s_X6_image hS hb) ⟨rfl, rfl, ⟨by decide, by decide⟩, by show kc + 8 + 0 ≤ 600000; omega, by show kn + 59 + 0 ≤ 7302250; omega⟩ (Nat.le_of_ble_eq_true rfl) 46 (wf_len hS) rfl [.int r, .int r] rfl ?_
  refine aw_icmp_eq (tL_27 nm) rfl 962 914 rfl rfl (fun hc => ?_) (fun hc => ?_)
  · exact kk _ _ g1 S' σ2 (Nat.le_refl _) (Nat.le_refl _) hJ
  · exact absurd rfl hc
set_option maxHeartbeats 4000000 in
set_option maxRecDepth 20000 in
theorem law_restore {nm : String} {b L : Nat} {xs : Nat → Int32} {i0 : Int32} (hin1 : vp_in (i0 + 1) L) (hin2 : vp_in (i0 + 2) L) (hin3 : vp_in (i0 + 3) L) (hin4 : vp_in (i0 + 4) L) (hin5 : vp_in (i0 + 5) L) {N : Nat} {g : Nat → Option Nat} {S : List SC} {σ : St} {kc kn : Nat} (hkc : kc ≤ 50000) (hkn : kn ≤ 500000) (hN : N < 64) (hI : LI N g S σ) (H : PC_restore) (kk : ∀ (kc2 kn2 : Nat) (g2 : Nat → Option Nat) (S2 : List SC) (τ : St), kc2 ≤ kc + 8 → kn2 ≤ kn + 59 → LI (N + 1) g2 S2 τ → AW (ML nm) (XS b L xs) room_1 600000 7302250 QL kc2 kn2 S2 τ 962 [(0, .ref 777), (1, .ref 0), (2, .ref 29), (3, .int i0)] []) : AW (ML nm) (XS b L xs) room_1 600000 7302250 QL kc kn S σ 916 [(0, .ref 777), (1, .ref 0), (2, .ref 29), (3, .int i0)] [] := by
  have hS := hI.1
  obtain ⟨r, σ1, σ2, ha, hb, hJ⟩ := H N g σ (xs (i0 + 1).toNatClampNeg) hN hI.2.2.2.2
  refine aw_run (tL_28 nm) 5 (pc2 := 921) (L2 := [(0, .ref 777), (1, .ref 0), (2, .ref 29), (3, .int i0)]) (st2 := [.int (i0 + 1), .ref 777, .ref 0]) rfl ?_
  refine aw_sld (tL_28 nm) rfl 922 rfl hin1 ?_
  refine aw_cV (M' := MX5_restore) (av := [.int (xs (i0 + 1).toNatClampNeg)]) (rest := []) (n := 1) (tL_28 nm) rfl 925 rfl rfl lkL_127 hMX5_restore rfl (w_0 hS) ⟨_, _, rfl⟩ (s_X5_restore hS hI.2.1 ha) ⟨rfl, rfl, ⟨by decide, by decide⟩, by show kc + 0 ≤ 600000; omega, by show kn + 0 ≤ 7302250; omega⟩ (Nat.le_of_ble_eq_true rfl) 46 (wf_len hS) rfl [.int r] rfl ?_
  refine aw_run (tL_28 nm) 5 (pc2 := 930) (L2 := [(0, .ref 777), (1, .ref 0), (2, .ref 29), (3, .int i0)]) (st2 := [.int (i0 + 1), .ref 777, .ref 29, .int r]) rfl ?_
  refine aw_sld (tL_28 nm) rfl 931 rfl hin1 ?_
  refine aw_cV (M' := MX6_restore) (av := [.int (xs (i0 + 1).toNatClampNeg)]) (rest := [.int r]) (n := 1) (tL_28 nm) rfl 934 rfl rfl lkL_130 hMX6_restore rfl (w_29 hS) ⟨_, _, rfl⟩ (s_X6_restore hS hb) ⟨rfl, rfl, ⟨by decide, by decide⟩, by show kc + 0 ≤ 600000; omega, by show kn + 0 ≤ 7302250; omega⟩ (Nat.le_of_ble_eq_true rfl) 46 (wf_len hS) rfl [.int r, .int r] rfl ?_
  refine aw_icmp_eq (tL_28 nm) rfl 962 937 rfl rfl (fun hc => ?_) (fun hc => ?_)
  · exact kk _ _ g S _ (Nat.le_add_right _ _) (Nat.le_add_right _ _) ⟨hI.1, hI.2.1, hI.2.2.1, by have := hI.2.2.2.1; omega, hJ⟩
  · exact absurd rfl hc
set_option maxHeartbeats 4000000 in
set_option maxRecDepth 20000 in
theorem law_told {nm : String} {b L : Nat} {xs : Nat → Int32} {i0 : Int32} (hin1 : vp_in (i0 + 1) L) (hin2 : vp_in (i0 + 2) L) (hin3 : vp_in (i0 + 3) L) (hin4 : vp_in (i0 + 4) L) (hin5 : vp_in (i0 + 5) L) {N : Nat} {g : Nat → Option Nat} {S : List SC} {σ : St} {kc kn : Nat} (hkc : kc ≤ 50000) (hkn : kn ≤ 500000) (hN : N < 64) (hI : LI N g S σ) (H : PC_told) (kk : ∀ (kc2 kn2 : Nat) (g2 : Nat → Option Nat) (S2 : List SC) (τ : St), kc2 ≤ kc + 8 → kn2 ≤ kn + 59 → LI (N + 1) g2 S2 τ → AW (ML nm) (XS b L xs) room_1 600000 7302250 QL kc2 kn2 S2 τ 962 [(0, .ref 777), (1, .ref 0), (2, .ref 29), (3, .int i0)] []) : AW (ML nm) (XS b L xs) room_1 600000 7302250 QL kc kn S σ 939 [(0, .ref 777), (1, .ref 0), (2, .ref 29), (3, .int i0)] [] := by
  have hS := hI.1
  obtain ⟨r, ha, hb, hJ⟩ := H N g σ (xs (i0 + 1).toNatClampNeg) hN hI.2.2.2.2
  refine aw_run (tL_29 nm) 5 (pc2 := 944) (L2 := [(0, .ref 777), (1, .ref 0), (2, .ref 29), (3, .int i0)]) (st2 := [.int (i0 + 1), .ref 777, .ref 0]) rfl ?_
  refine aw_sld (tL_29 nm) rfl 945 rfl hin1 ?_
  refine aw_cV (M' := MX5_told) (av := [.int (xs (i0 + 1).toNatClampNeg)]) (rest := []) (n := 1) (tL_29 nm) rfl 948 rfl rfl lkL_131 hMX5_told rfl (w_0 hS) ⟨_, _, rfl⟩ (s_X5_told hS ha) ⟨rfl, rfl, ⟨by decide, by decide⟩, by show kc + 0 ≤ 600000; omega, by show kn + 0 ≤ 7302250; omega⟩ (Nat.le_of_ble_eq_true rfl) 46 (wf_len hS) rfl [.int r] rfl ?_
  refine aw_run (tL_29 nm) 5 (pc2 := 953) (L2 := [(0, .ref 777), (1, .ref 0), (2, .ref 29), (3, .int i0)]) (st2 := [.int (i0 + 1), .ref 777, .ref 29, .int r]) rfl ?_
  refine aw_sld (tL_29 nm) rfl 954 rfl hin1 ?_
  refine aw_cV (M' := MX6_told) (av := [.int (xs (i0 + 1).toNatClampNeg)]) (rest := [.int r]) (n := 1) (tL_29 nm) rfl 957 rfl rfl lkL_134 hMX6_told rfl (w_29 hS) ⟨_, _, rfl⟩ (s_X6_told hS hb) ⟨rfl, rfl, ⟨by decide, by decide⟩, by show kc + 0 ≤ 600000; omega, by show kn + 0 ≤ 7302250; omega⟩ (Nat.le_of_ble_eq_true rfl) 46 (wf_len hS) rfl [.int r, .int r] rfl ?_
  refine aw_icmp_eq (tL_29 nm) rfl 962 960 rfl rfl (fun hc => ?_) (fun hc => ?_)
  · exact kk _ _ g S _ (Nat.le_add_right _ _) (Nat.le_add_right _ _) ⟨hI.1, hI.2.1, hI.2.2.1, by have := hI.2.2.2.1; omega, hJ⟩
  · exact absurd rfl hc
