/-! lifted by program (wip/gen/lift.py) -/
def f_X6_wanted (a1 : Int32) (a2 : Int32) (σ : St) : Option (Int32) := Option.bind (f_X6_has (σ 29 0) a1) (fun r1 => if r1 = 0 then (some (0)) else (gi a1 6 (gz a2 (some ((((σ 32 a1.toNatClampNeg) + a2) - 1) / a2)))))
set_option maxHeartbeats 4000000 in
set_option maxRecDepth 20000 in
theorem t_X6_wanted {g : Nat → Option Nat} {S : List SC} (hS : Wf g S) {σ : St} {Q : QT} (a1 : Int32) (a2 : Int32) (h : ok (f_X6_wanted a1 a2 σ) (fun r => Q (some (.int r)) S σ)) : AW MX6_wanted E0 rmX6_wanted 0 0 Q 0 0 S σ 0 [(0, .ref 29), (1, .int a1), (2, .int a2)] [] := by
  unfold f_X6_wanted at h
  refine aw_run tTX6_wanted 1 (pc2 := 1) (L2 := [(0, .ref 29), (1, .int a1), (2, .int a2)]) (st2 := [.ref 29]) rfl ?_
  refine aw_getI tTX6_wanted rfl 4 rfl (w_29 hS) rfl flX6_63 ?_
  refine aw_run tTX6_wanted 1 (pc2 := 5) (L2 := [(0, .ref 29), (1, .int a1), (2, .int a2)]) (st2 := [.int a1, .int (σ 29 0)]) rfl ?_
  obtain ⟨r1, er1, h⟩ := ok_b h
  refine aw_cS tTX6_wanted rfl 8 rfl (M' := MX6_has) (av := [.int (σ 29 0), .int a1]) (rest := []) rfl lkX6_70 hMX6_has rfl (s_X6_has hS er1) ⟨rfl, rfl, ⟨by decide, by decide⟩, by decide, by decide⟩ (Nat.le_of_ble_eq_true rfl) 46 (wf_len hS) rfl [.int r1] rfl ?_
  refine aw_if_eq tTX6_wanted rfl 26 11 rfl rfl (fun hc => ?_) (fun hc => ?_)
  · have h := ok_t hc h
    refine aw_run tTX6_wanted 1 (pc2 := 27) (L2 := [(0, .ref 29), (1, .int a1), (2, .int a2)]) (st2 := [.int 0]) rfl ?_
    have h := ok_r h
    exact aw_ir tTX6_wanted rfl rfl rfl (Nat.le_refl _) (Nat.le_refl _) h
  · have h := ok_f hc h
    refine aw_run tTX6_wanted 1 (pc2 := 12) (L2 := [(0, .ref 29), (1, .int a1), (2, .int a2)]) (st2 := [.ref 29]) rfl ?_
    refine aw_getR tTX6_wanted rfl 15 rfl (w_29 hS) rfl flX6_20 ?_
    refine aw_run tTX6_wanted 1 (pc2 := 16) (L2 := [(0, .ref 29), (1, .int a1), (2, .int a2)]) (st2 := [.int a1, .ref 32]) rfl ?_
    obtain ⟨hi, h⟩ := ok_gi h
    refine aw_iald tTX6_wanted rfl 17 rfl (w_32 hS) hi ?_
    refine aw_run tTX6_wanted 5 (pc2 := 22) (L2 := [(0, .ref 29), (1, .int a1), (2, .int a2)]) (st2 := [.int a2, .int (((σ 32 a1.toNatClampNeg) + a2) - 1)]) rfl ?_
    obtain ⟨hz, h⟩ := ok_gz h
    refine aw_idiv tTX6_wanted rfl 23 rfl hz ?_
    refine aw_run tTX6_wanted 1 (pc2 := 27) (L2 := [(0, .ref 29), (1, .int a1), (2, .int a2)]) (st2 := [.int ((((σ 32 a1.toNatClampNeg) + a2) - 1) / a2)]) rfl ?_
    have h := ok_r h
    exact aw_ir tTX6_wanted rfl rfl rfl (Nat.le_refl _) (Nat.le_refl _) h
theorem s_X6_wanted {g : Nat → Option Nat} {S : List SC} (hS : Wf g S) {σ : St} {a1 : Int32} {a2 : Int32} {r : Int32} (e : f_X6_wanted a1 a2 σ = some r) : Fn MX6_wanted rmX6_wanted [.ref 29, .int a1, .int a2] S σ (some (.int r)) σ := Sp.of (by decide) (Nat.le_of_ble_eq_true rfl) (t_X6_wanted hS a1 a2 ⟨r, e, rfl, rfl, rfl⟩)
def l_X6_mostThefts_62 (r1 : St) (y3 : Int32) (y9 : Int32) (y11 : Int32) (y12 : Int32) : Option ((Int32 × Int32) ⊕ (Int32)) := if 6 ≤ y12 then (some (.inr y11)) else (Option.bind (f_X6_has y3 y12) (fun r14 => Option.bind (α := Int32) (if r14 = 0 then (some 0) else (Option.bind (f_X6_bar y12 y9 r1) (fun r16 => if ¬ r16 = 0 then (some 0) else (some 1)))) (fun (j15 : Int32) => some (.inl (y11 + j15, y12 + 1)))))
def l_X6_mostThefts_49 (a1 : Int32) (r1 : St) (y3 : Int32) (y8 : Int32) (y9 : Int32) : Option ((Int32 × Int32) ⊕ (Int32)) := if 6 ≤ y9 then (some (.inr y8)) else (Option.bind (loop (fun s : Int32 × Int32 => l_X6_mostThefts_62 r1 y3 y9 s.1 s.2) 400 (0, 0)) (fun (z13 : Int32) => Option.bind (f_X6_wanted y9 a1 r1) (fun r17 => Option.bind (α := Int32) (if r17 ≤ z13 then (Option.bind (f_X6_wanted y9 a1 r1) (fun r19 => some r19)) else (some z13)) (fun (j18 : Int32) => some (.inl (y8 + j18, y9 + 1))))))
def l_X6_mostThefts_10 (a1 : Int32) (a2 : Int32) (r1 : St) (y2 : Int32) (y3 : Int32) : Option ((Int32 × Int32) ⊕ (Int32)) := if 64 ≤ y3 then (some (.inr y2)) else (Option.bind (α := Int32) (if ¬ (y3 &&& ((r1 29 0) ^^^ (-1 : Int32))) = 0 then (some y2) else (Option.bind (f_X6_bits (r1 29 0)) (fun r6 => Option.bind (f_X6_bits y3) (fun r7 => Option.bind (loop (fun s : Int32 × Int32 => l_X6_mostThefts_49 a1 r1 y3 s.1 s.2) 400 (a2 * (r6 - r7), 0)) (fun (z10 : Int32) => Option.bind (α := Int32) (if y2 ≤ z10 then (some y2) else (some z10)) (fun (j20 : Int32) => some j20)))))) (fun (j5 : Int32) => some (.inl (j5, y3 + 1))))
def f_X6_mostThefts (a1 : Int32) (a2 : Int32) (σ : St) : Option (Int32 × St) := Option.bind (f_X6_asNow  σ) (fun r1 => Option.bind (loop (fun s : Int32 × Int32 => l_X6_mostThefts_10 a1 a2 r1 s.1 s.2) 400 (1000000, 0)) (fun (z4 : Int32) => some ((z4, r1))))
set_option maxHeartbeats 4000000 in
set_option maxRecDepth 20000 in
theorem t_X6_mostThefts {g : Nat → Option Nat} {S : List SC} (hS : Wf g S) {σ : St} {Q : QT} (a1 : Int32) (a2 : Int32) (h : ok (f_X6_mostThefts a1 a2 σ) (fun r => Q (some (.int r.1)) S r.2)) : AW MX6_mostThefts E0 rmX6_mostThefts 0 0 Q 0 0 S σ 0 [(0, .ref 29), (1, .int a1), (2, .int a2)] [] := by
  unfold f_X6_mostThefts at h
  refine aw_run tTX6_mostThefts 1 (pc2 := 1) (L2 := [(0, .ref 29), (1, .int a1), (2, .int a2)]) (st2 := [.ref 29]) rfl ?_
  obtain ⟨r1, er1, h⟩ := ok_b h
  refine aw_cV tTX6_mostThefts rfl 4 rfl (M' := MX6_asNow) (av := []) (rest := []) rfl lkX6_137 hMX6_asNow rfl (w_29 hS) ⟨_, _, rfl⟩ (s_X6_asNow hS er1) ⟨rfl, rfl, ⟨by decide, by decide⟩, by decide, by decide⟩ (Nat.le_of_ble_eq_true rfl) 46 (wf_len hS) rfl [] rfl ?_
  refine aw_run tTX6_mostThefts 4 (pc2 := 10) (L2 := [(4, .int 0), (3, .int 1000000), (0, .ref 29), (1, .int a1), (2, .int a2)]) (st2 := []) rfl ?_
  refine ok_use (P := fun z4 : Int32 => AW MX6_mostThefts E0 rmX6_mostThefts 0 0 Q 0 0 S r1 160 [(3, .int z4)] []) (ok_b h) (fun z4 h => ?_) (fun h => ?_)
  · refine aw_run tTX6_mostThefts 1 (pc2 := 161) (L2 := [(3, .int z4)]) (st2 := [.int z4]) rfl ?_
    have h := ok_r h
    exact aw_ir tTX6_mostThefts rfl rfl rfl (Nat.le_refl _) (Nat.le_refl _) h
  · refine aw_sub [2, 3, 4, 1, 0] rfl ?_
    refine loop_P (P := fun s : Int32 × Int32 => AW MX6_mostThefts E0 rmX6_mostThefts 0 0 Q 0 0 S r1 10 [(0, .ref 29), (1, .int a1), (2, .int a2), (3, .int s.1), (4, .int s.2)] []) (fun s h => ?_) _ _ h
    obtain ⟨y2, y3⟩ := s
    replace h : ok (l_X6_mostThefts_10 a1 a2 r1 y2 y3) _ := h
    unfold l_X6_mostThefts_10 at h
    show AW MX6_mostThefts E0 rmX6_mostThefts 0 0 Q 0 0 S r1 10 [(0, .ref 29), (1, .int a1), (2, .int a2), (3, .int y2), (4, .int y3)] []
    refine aw_run tTX6_mostThefts 2 (pc2 := 14) (L2 := [(0, .ref 29), (1, .int a1), (2, .int a2), (3, .int y2), (4, .int y3)]) (st2 := [.int 64, .int y3]) rfl ?_
    refine aw_icmp_ge tTX6_mostThefts rfl 160 17 rfl rfl (fun hc => ?_) (fun hc => ?_)
    · have h := ok_t hc h
      refine aw_sub [3] rfl ?_
      have h := ok_r h
      exact h
    · have h := ok_f hc h
      refine aw_run tTX6_mostThefts 2 (pc2 := 20) (L2 := [(0, .ref 29), (1, .int a1), (2, .int a2), (3, .int y2), (4, .int y3)]) (st2 := [.ref 29, .int y3]) rfl ?_
      refine aw_getI tTX6_mostThefts rfl 23 rfl (w_29 hS) rfl flX6_63 ?_
      refine aw_run tTX6_mostThefts 3 (pc2 := 26) (L2 := [(0, .ref 29), (1, .int a1), (2, .int a2), (3, .int y2), (4, .int y3)]) (st2 := [.int (y3 &&& ((r1 29 0) ^^^ (-1 : Int32)))]) rfl ?_
      refine ok_use (P := fun j5 : Int32 => AW MX6_mostThefts E0 rmX6_mostThefts 0 0 Q 0 0 S r1 154 [(0, .ref 29), (1, .int a1), (2, .int a2), (3, .int j5), (4, .int y3)] []) (ok_b h) (fun j5 h => ?_) (fun h => ?_)
      · refine aw_run tTX6_mostThefts 2 (pc2 := 10) (L2 := [(4, .int (y3 + 1)), (0, .ref 29), (1, .int a1), (2, .int a2), (3, .int j5)]) (st2 := []) rfl ?_
        refine aw_sub [1, 2, 3, 4, 0] rfl ?_
        have h := ok_r h
        exact h
      · refine aw_if_ne tTX6_mostThefts rfl 154 29 rfl rfl (fun hc => ?_) (fun hc => ?_)
        · have h := ok_t hc h
          refine aw_sub [0, 1, 2, 3, 4] rfl ?_
          have h := ok_r h
          exact h
        · have h := ok_fn hc h
          refine aw_run tTX6_mostThefts 2 (pc2 := 31) (L2 := [(0, .ref 29), (1, .int a1), (2, .int a2), (3, .int y2), (4, .int y3)]) (st2 := [.ref 29, .int a2]) rfl ?_
          refine aw_getI tTX6_mostThefts rfl 34 rfl (w_29 hS) rfl flX6_63 ?_
          obtain ⟨r6, er6, h⟩ := ok_b h
          refine aw_cS tTX6_mostThefts rfl 37 rfl (M' := MX6_bits) (av := [.int (r1 29 0)]) (rest := [.int a2]) rfl lkX6_74 hMX6_bits rfl (s_X6_bits hS er6) ⟨rfl, rfl, ⟨by decide, by decide⟩, by decide, by decide⟩ (Nat.le_of_ble_eq_true rfl) 46 (wf_len hS) rfl [.int r6, .int a2] rfl ?_
          refine aw_run tTX6_mostThefts 1 (pc2 := 39) (L2 := [(0, .ref 29), (1, .int a1), (2, .int a2), (3, .int y2), (4, .int y3)]) (st2 := [.int y3, .int r6, .int a2]) rfl ?_
          obtain ⟨r7, er7, h⟩ := ok_b h
          refine aw_cS tTX6_mostThefts rfl 42 rfl (M' := MX6_bits) (av := [.int y3]) (rest := [.int r6, .int a2]) rfl lkX6_74 hMX6_bits rfl (s_X6_bits hS er7) ⟨rfl, rfl, ⟨by decide, by decide⟩, by decide, by decide⟩ (Nat.le_of_ble_eq_true rfl) 46 (wf_len hS) rfl [.int r7, .int r6, .int a2] rfl ?_
          refine aw_run tTX6_mostThefts 5 (pc2 := 49) (L2 := [(6, .int 0), (5, .int (a2 * (r6 - r7))), (0, .ref 29), (1, .int a1), (2, .int a2), (3, .int y2), (4, .int y3)]) (st2 := []) rfl ?_
          refine ok_use (P := fun z10 : Int32 => AW MX6_mostThefts E0 rmX6_mostThefts 0 0 Q 0 0 S r1 141 [(0, .ref 29), (1, .int a1), (2, .int a2), (3, .int y2), (4, .int y3), (5, .int z10)] []) (ok_b h) (fun z10 h => ?_) (fun h => ?_)
          · refine aw_run tTX6_mostThefts 2 (pc2 := 144) (L2 := [(0, .ref 29), (1, .int a1), (2, .int a2), (3, .int y2), (4, .int y3), (5, .int z10)]) (st2 := [.int y2, .int z10]) rfl ?_
            refine ok_use (P := fun j20 : Int32 => AW MX6_mostThefts E0 rmX6_mostThefts 0 0 Q 0 0 S r1 153 [(0, .ref 29), (1, .int a1), (2, .int a2), (4, .int y3)] [.int j20]) (ok_b h) (fun j20 h => ?_) (fun h => ?_)
            · refine aw_run tTX6_mostThefts 1 (pc2 := 154) (L2 := [(3, .int j20), (0, .ref 29), (1, .int a1), (2, .int a2), (4, .int y3)]) (st2 := []) rfl ?_
              refine aw_sub [1, 2, 3, 0, 4] rfl ?_
              have h := ok_r h
              exact h
            · refine aw_icmp_ge tTX6_mostThefts rfl 152 147 rfl rfl (fun hc => ?_) (fun hc => ?_)
              · have h := ok_t hc h
                refine aw_run tTX6_mostThefts 1 (pc2 := 153) (L2 := [(0, .ref 29), (1, .int a1), (2, .int a2), (3, .int y2), (4, .int y3), (5, .int z10)]) (st2 := [.int y2]) rfl ?_
                refine aw_sub [0, 1, 2, 4] rfl ?_
                have h := ok_r h
                exact h
              · have h := ok_f hc h
                refine aw_run tTX6_mostThefts 2 (pc2 := 153) (L2 := [(0, .ref 29), (1, .int a1), (2, .int a2), (3, .int y2), (4, .int y3), (5, .int z10)]) (st2 := [.int z10]) rfl ?_
                refine aw_sub [0, 1, 2, 4] rfl ?_
                have h := ok_r h
                exact h
          · refine aw_sub [2, 3, 4, 5, 6, 1, 0] rfl ?_
            refine loop_P (P := fun s : Int32 × Int32 => AW MX6_mostThefts E0 rmX6_mostThefts 0 0 Q 0 0 S r1 49 [(0, .ref 29), (1, .int a1), (2, .int a2), (3, .int y2), (4, .int y3), (5, .int s.1), (6, .int s.2)] []) (fun s h => ?_) _ _ h
            obtain ⟨y8, y9⟩ := s
            replace h : ok (l_X6_mostThefts_49 a1 r1 y3 y8 y9) _ := h
            unfold l_X6_mostThefts_49 at h
            show AW MX6_mostThefts E0 rmX6_mostThefts 0 0 Q 0 0 S r1 49 [(0, .ref 29), (1, .int a1), (2, .int a2), (3, .int y2), (4, .int y3), (5, .int y8), (6, .int y9)] []
            refine aw_run tTX6_mostThefts 2 (pc2 := 53) (L2 := [(0, .ref 29), (1, .int a1), (2, .int a2), (3, .int y2), (4, .int y3), (5, .int y8), (6, .int y9)]) (st2 := [.int 6, .int y9]) rfl ?_
            refine aw_icmp_ge tTX6_mostThefts rfl 141 56 rfl rfl (fun hc => ?_) (fun hc => ?_)
            · have h := ok_t hc h
              refine aw_sub [0, 1, 2, 3, 4, 5] rfl ?_
              have h := ok_r h
              exact h
            · have h := ok_f hc h
              refine aw_run tTX6_mostThefts 4 (pc2 := 62) (L2 := [(8, .int 0), (7, .int 0), (0, .ref 29), (1, .int a1), (2, .int a2), (3, .int y2), (4, .int y3), (5, .int y8), (6, .int y9)]) (st2 := []) rfl ?_
              refine ok_use (P := fun z13 : Int32 => AW MX6_mostThefts E0 rmX6_mostThefts 0 0 Q 0 0 S r1 106 [(0, .ref 29), (1, .int a1), (2, .int a2), (3, .int y2), (4, .int y3), (5, .int y8), (6, .int y9), (7, .int z13)] []) (ok_b h) (fun z13 h => ?_) (fun h => ?_)
              · refine aw_run tTX6_mostThefts 5 (pc2 := 114) (L2 := [(0, .ref 29), (1, .int a1), (2, .int a2), (3, .int y2), (4, .int y3), (5, .int y8), (6, .int y9), (7, .int z13)]) (st2 := [.int a1, .int y9, .ref 29, .int z13, .int y8]) rfl ?_
                obtain ⟨r17, er17, h⟩ := ok_b h
                refine aw_cV tTX6_mostThefts rfl 117 rfl (M' := MX6_wanted) (av := [.int y9, .int a1]) (rest := [.int z13, .int y8]) rfl lkX6_165 hMX6_wanted rfl (w_29 hS) ⟨_, _, rfl⟩ (s_X6_wanted hS er17) ⟨rfl, rfl, ⟨by decide, by decide⟩, by decide, by decide⟩ (Nat.le_of_ble_eq_true rfl) 46 (wf_len hS) rfl [.int r17, .int z13, .int y8] rfl ?_
                refine ok_use (P := fun j18 : Int32 => AW MX6_mostThefts E0 rmX6_mostThefts 0 0 Q 0 0 S r1 132 [(0, .ref 29), (1, .int a1), (2, .int a2), (3, .int y2), (4, .int y3), (6, .int y9)] [.int j18, .int y8]) (ok_b h) (fun j18 h => ?_) (fun h => ?_)
                · refine aw_run tTX6_mostThefts 4 (pc2 := 49) (L2 := [(6, .int (y9 + 1)), (5, .int (y8 + j18)), (0, .ref 29), (1, .int a1), (2, .int a2), (3, .int y2), (4, .int y3)]) (st2 := []) rfl ?_
                  refine aw_sub [2, 3, 4, 5, 6, 1, 0] rfl ?_
                  have h := ok_r h
                  exact h
                · refine aw_icmp_ge tTX6_mostThefts rfl 125 120 rfl rfl (fun hc => ?_) (fun hc => ?_)
                  · have h := ok_t hc h
                    refine aw_run tTX6_mostThefts 3 (pc2 := 129) (L2 := [(0, .ref 29), (1, .int a1), (2, .int a2), (3, .int y2), (4, .int y3), (5, .int y8), (6, .int y9), (7, .int z13)]) (st2 := [.int a1, .int y9, .ref 29, .int y8]) rfl ?_
                    obtain ⟨r19, er19, h⟩ := ok_b h
                    refine aw_cV tTX6_mostThefts rfl 132 rfl (M' := MX6_wanted) (av := [.int y9, .int a1]) (rest := [.int y8]) rfl lkX6_165 hMX6_wanted rfl (w_29 hS) ⟨_, _, rfl⟩ (s_X6_wanted hS er19) ⟨rfl, rfl, ⟨by decide, by decide⟩, by decide, by decide⟩ (Nat.le_of_ble_eq_true rfl) 46 (wf_len hS) rfl [.int r19, .int y8] rfl ?_
                    refine aw_sub [0, 1, 2, 3, 4, 6] rfl ?_
                    have h := ok_r h
                    exact h
                  · have h := ok_f hc h
                    refine aw_run tTX6_mostThefts 2 (pc2 := 132) (L2 := [(0, .ref 29), (1, .int a1), (2, .int a2), (3, .int y2), (4, .int y3), (5, .int y8), (6, .int y9), (7, .int z13)]) (st2 := [.int z13, .int y8]) rfl ?_
                    refine aw_sub [0, 1, 2, 3, 4, 6] rfl ?_
                    have h := ok_r h
                    exact h
              · refine aw_sub [2, 3, 4, 5, 6, 7, 8, 1, 0] rfl ?_
                refine loop_P (P := fun s : Int32 × Int32 => AW MX6_mostThefts E0 rmX6_mostThefts 0 0 Q 0 0 S r1 62 [(0, .ref 29), (1, .int a1), (2, .int a2), (3, .int y2), (4, .int y3), (5, .int y8), (6, .int y9), (7, .int s.1), (8, .int s.2)] []) (fun s h => ?_) _ _ h
                obtain ⟨y11, y12⟩ := s
                replace h : ok (l_X6_mostThefts_62 r1 y3 y9 y11 y12) _ := h
                unfold l_X6_mostThefts_62 at h
                show AW MX6_mostThefts E0 rmX6_mostThefts 0 0 Q 0 0 S r1 62 [(0, .ref 29), (1, .int a1), (2, .int a2), (3, .int y2), (4, .int y3), (5, .int y8), (6, .int y9), (7, .int y11), (8, .int y12)] []
                refine aw_run tTX6_mostThefts 2 (pc2 := 66) (L2 := [(0, .ref 29), (1, .int a1), (2, .int a2), (3, .int y2), (4, .int y3), (5, .int y8), (6, .int y9), (7, .int y11), (8, .int y12)]) (st2 := [.int 6, .int y12]) rfl ?_
                refine aw_icmp_ge tTX6_mostThefts rfl 106 69 rfl rfl (fun hc => ?_) (fun hc => ?_)
                · have h := ok_t hc h
                  refine aw_sub [0, 1, 2, 3, 4, 5, 6, 7] rfl ?_
                  have h := ok_r h
                  exact h
                · have h := ok_f hc h
                  refine aw_run tTX6_mostThefts 3 (pc2 := 75) (L2 := [(0, .ref 29), (1, .int a1), (2, .int a2), (3, .int y2), (4, .int y3), (5, .int y8), (6, .int y9), (7, .int y11), (8, .int y12)]) (st2 := [.int y12, .int y3, .int y11]) rfl ?_
                  obtain ⟨r14, er14, h⟩ := ok_b h
                  refine aw_cS tTX6_mostThefts rfl 78 rfl (M' := MX6_has) (av := [.int y3, .int y12]) (rest := [.int y11]) rfl lkX6_70 hMX6_has rfl (s_X6_has hS er14) ⟨rfl, rfl, ⟨by decide, by decide⟩, by decide, by decide⟩ (Nat.le_of_ble_eq_true rfl) 46 (wf_len hS) rfl [.int r14, .int y11] rfl ?_
                  refine ok_use (P := fun j15 : Int32 => AW MX6_mostThefts E0 rmX6_mostThefts 0 0 Q 0 0 S r1 97 [(0, .ref 29), (1, .int a1), (2, .int a2), (3, .int y2), (4, .int y3), (5, .int y8), (6, .int y9), (8, .int y12)] [.int j15, .int y11]) (ok_b h) (fun j15 h => ?_) (fun h => ?_)
                  · refine aw_run tTX6_mostThefts 4 (pc2 := 62) (L2 := [(8, .int (y12 + 1)), (7, .int (y11 + j15)), (0, .ref 29), (1, .int a1), (2, .int a2), (3, .int y2), (4, .int y3), (5, .int y8), (6, .int y9)]) (st2 := []) rfl ?_
                    refine aw_sub [2, 3, 4, 5, 6, 7, 8, 1, 0] rfl ?_
                    have h := ok_r h
                    exact h
                  · refine aw_if_eq tTX6_mostThefts rfl 96 81 rfl rfl (fun hc => ?_) (fun hc => ?_)
                    · have h := ok_t hc h
                      refine aw_run tTX6_mostThefts 1 (pc2 := 97) (L2 := [(0, .ref 29), (1, .int a1), (2, .int a2), (3, .int y2), (4, .int y3), (5, .int y8), (6, .int y9), (7, .int y11), (8, .int y12)]) (st2 := [.int 0, .int y11]) rfl ?_
                      refine aw_sub [0, 1, 2, 3, 4, 5, 6, 8] rfl ?_
                      have h := ok_r h
                      exact h
                    · have h := ok_f hc h
                      refine aw_run tTX6_mostThefts 3 (pc2 := 86) (L2 := [(0, .ref 29), (1, .int a1), (2, .int a2), (3, .int y2), (4, .int y3), (5, .int y8), (6, .int y9), (7, .int y11), (8, .int y12)]) (st2 := [.int y9, .int y12, .ref 29, .int y11]) rfl ?_
                      obtain ⟨r16, er16, h⟩ := ok_b h
                      refine aw_cV tTX6_mostThefts rfl 89 rfl (M' := MX6_bar) (av := [.int y12, .int y9]) (rest := [.int y11]) rfl lkX6_113 hMX6_bar rfl (w_29 hS) ⟨_, _, rfl⟩ (s_X6_bar hS er16) ⟨rfl, rfl, ⟨by decide, by decide⟩, by decide, by decide⟩ (Nat.le_of_ble_eq_true rfl) 46 (wf_len hS) rfl [.int r16, .int y11] rfl ?_
                      refine aw_if_ne tTX6_mostThefts rfl 96 92 rfl rfl (fun hc => ?_) (fun hc => ?_)
                      · have h := ok_t hc h
                        refine aw_run tTX6_mostThefts 1 (pc2 := 97) (L2 := [(0, .ref 29), (1, .int a1), (2, .int a2), (3, .int y2), (4, .int y3), (5, .int y8), (6, .int y9), (7, .int y11), (8, .int y12)]) (st2 := [.int 0, .int y11]) rfl ?_
                        refine aw_sub [0, 1, 2, 3, 4, 5, 6, 8] rfl ?_
                        have h := ok_r h
                        exact h
                      · have h := ok_fn hc h
                        refine aw_run tTX6_mostThefts 2 (pc2 := 97) (L2 := [(0, .ref 29), (1, .int a1), (2, .int a2), (3, .int y2), (4, .int y3), (5, .int y8), (6, .int y9), (7, .int y11), (8, .int y12)]) (st2 := [.int 1, .int y11]) rfl ?_
                        refine aw_sub [0, 1, 2, 3, 4, 5, 6, 8] rfl ?_
                        have h := ok_r h
                        exact h
theorem s_X6_mostThefts {g : Nat → Option Nat} {S : List SC} (hS : Wf g S) {σ : St} {a1 : Int32} {a2 : Int32} {r : Int32 × St} (e : f_X6_mostThefts a1 a2 σ = some r) : Fn MX6_mostThefts rmX6_mostThefts [.ref 29, .int a1, .int a2] S σ (some (.int r.1)) r.2 := Sp.of (by decide) (Nat.le_of_ble_eq_true rfl) (t_X6_mostThefts hS a1 a2 ⟨r, e, rfl, rfl, rfl⟩)
def l_X6_stripped_17 (a1 : Int32) (σ : St) (y2 : Int32) (y3 : Int32) : Option ((Int32 × Int32) ⊕ (Int32)) := if 6 ≤ y3 then (some (.inr y2)) else (Option.bind (f_X6_wanted y3 a1 σ) (fun r5 => some (.inl (y2 + r5, y3 + 1))))
def l_X6_stripped_40 (a1 : Int32) (z4 : Int32) (y6 : Int32) (σ7 : St) : Option ((Int32 × St) ⊕ ((St) ⊕ (Int32 × St))) := if 6 ≤ y6 then (some (.inr (.inl σ7))) else (Option.bind (f_X6_mostThefts a1 y6 σ7) (fun r9 => if ¬ r9.1 = z4 then (some (.inl (y6 + 1, r9.2))) else (some (.inr (.inr ((y6, r9.2)))))))
def f_X6_stripped (a1 : Int32) (σ : St) : Option (Int32 × St) := Option.bind (f_X6_in a1 1 20) (fun r1 => if ¬ r1 = 0 then (Option.bind (loop (fun s : Int32 × Int32 => l_X6_stripped_17 a1 σ s.1 s.2) 400 (0, 0)) (fun (z4 : Int32) => Option.bind (loop (fun s : Int32 × St => l_X6_stripped_40 a1 z4 s.1 s.2) 400 (0, σ)) (fun z10 => match z10 with
    | .inl z8 => some (((-6 : Int32), z8))
    | .inr z10 => some (z10)))) else (some (((-2 : Int32), σ))))
set_option maxHeartbeats 4000000 in
set_option maxRecDepth 20000 in
theorem t_X6_stripped {g : Nat → Option Nat} {S : List SC} (hS : Wf g S) {σ : St} {Q : QT} (a1 : Int32) (h : ok (f_X6_stripped a1 σ) (fun r => Q (some (.int r.1)) S r.2)) : AW MX6_stripped E0 rmX6_stripped 0 0 Q 0 0 S σ 0 [(0, .ref 29), (1, .int a1)] [] := by
  unfold f_X6_stripped at h
  refine aw_run tTX6_stripped 3 (pc2 := 4) (L2 := [(0, .ref 29), (1, .int a1)]) (st2 := [.int 20, .int 1, .int a1]) rfl ?_
  obtain ⟨r1, er1, h⟩ := ok_b h
  refine aw_cS tTX6_stripped rfl 7 rfl (M' := MX6_in) (av := [.int a1, .int 1, .int 20]) (rest := []) rfl lkX6_66 hMX6_in rfl (s_X6_in hS er1) ⟨rfl, rfl, ⟨by decide, by decide⟩, by decide, by decide⟩ (Nat.le_of_ble_eq_true rfl) 46 (wf_len hS) rfl [.int r1] rfl ?_
  refine aw_if_ne tTX6_stripped rfl 13 10 rfl rfl (fun hc => ?_) (fun hc => ?_)
  · have h := ok_t hc h
    refine aw_run tTX6_stripped 4 (pc2 := 17) (L2 := [(3, .int 0), (2, .int 0), (0, .ref 29), (1, .int a1)]) (st2 := []) rfl ?_
    refine ok_use (P := fun z4 : Int32 => AW MX6_stripped E0 rmX6_stripped 0 0 Q 0 0 S σ 38 [(0, .ref 29), (1, .int a1), (2, .int z4)] []) (ok_b h) (fun z4 h => ?_) (fun h => ?_)
    · refine aw_run tTX6_stripped 2 (pc2 := 40) (L2 := [(3, .int 0), (0, .ref 29), (1, .int a1), (2, .int z4)]) (st2 := []) rfl ?_
      refine ok_use (P := fun z10 : (St) ⊕ (Int32 × St) => match z10 with
    | .inl z8 => AW MX6_stripped E0 rmX6_stripped 0 0 Q 0 0 S z8 64 [] []
    | .inr z10 => Q (some (.int z10.1)) S z10.2) (ok_b h) (fun z10 h => ?_) (fun h => ?_)
      · cases z10 with
        | inl z8 =>
          refine aw_run tTX6_stripped 1 (pc2 := 66) (L2 := []) (st2 := [.int (-6 : Int32)]) rfl ?_
          have h := ok_r h
          exact aw_ir tTX6_stripped rfl rfl rfl (Nat.le_refl _) (Nat.le_refl _) h
        | inr z10 =>
          have h := ok_r h
          exact h
      · refine aw_sub [1, 2, 3, 0] rfl ?_
        refine loop_P (P := fun s : Int32 × St => AW MX6_stripped E0 rmX6_stripped 0 0 Q 0 0 S s.2 40 [(0, .ref 29), (1, .int a1), (2, .int z4), (3, .int s.1)] []) (fun s h => ?_) _ _ h
        obtain ⟨y6, σ7⟩ := s
        replace h : ok (l_X6_stripped_40 a1 z4 y6 σ7) _ := h
        unfold l_X6_stripped_40 at h
        show AW MX6_stripped E0 rmX6_stripped 0 0 Q 0 0 S σ7 40 [(0, .ref 29), (1, .int a1), (2, .int z4), (3, .int y6)] []
        refine aw_run tTX6_stripped 2 (pc2 := 43) (L2 := [(0, .ref 29), (1, .int a1), (2, .int z4), (3, .int y6)]) (st2 := [.int 6, .int y6]) rfl ?_
        refine aw_icmp_ge tTX6_stripped rfl 64 46 rfl rfl (fun hc => ?_) (fun hc => ?_)
        · have h := ok_t hc h
          refine aw_sub [] rfl ?_
          have h := ok_r h
          exact h
        · have h := ok_f hc h
          refine aw_run tTX6_stripped 3 (pc2 := 49) (L2 := [(0, .ref 29), (1, .int a1), (2, .int z4), (3, .int y6)]) (st2 := [.int y6, .int a1, .ref 29]) rfl ?_
          obtain ⟨r9, er9, h⟩ := ok_b h
          refine aw_cV tTX6_stripped rfl 52 rfl (M' := MX6_mostThefts) (av := [.int a1, .int y6]) (rest := []) rfl lkX6_168 hMX6_mostThefts rfl (w_29 hS) ⟨_, _, rfl⟩ (s_X6_mostThefts hS er9) ⟨rfl, rfl, ⟨by decide, by decide⟩, by decide, by decide⟩ (Nat.le_of_ble_eq_true rfl) 46 (wf_len hS) rfl [.int r9.1] rfl ?_
          refine aw_run tTX6_stripped 1 (pc2 := 53) (L2 := [(0, .ref 29), (1, .int a1), (2, .int z4), (3, .int y6)]) (st2 := [.int z4, .int r9.1]) rfl ?_
          refine aw_icmp_ne tTX6_stripped rfl 58 56 rfl rfl (fun hc => ?_) (fun hc => ?_)
          · have h := ok_t hc h
            refine aw_run tTX6_stripped 2 (pc2 := 40) (L2 := [(3, .int (y6 + 1)), (0, .ref 29), (1, .int a1), (2, .int z4)]) (st2 := []) rfl ?_
            refine aw_sub [1, 2, 3, 0] rfl ?_
            have h := ok_r h
            exact h
          · have h := ok_fn hc h
            refine aw_run tTX6_stripped 1 (pc2 := 57) (L2 := [(0, .ref 29), (1, .int a1), (2, .int z4), (3, .int y6)]) (st2 := [.int y6]) rfl ?_
            have h := ok_r h
            exact aw_ir tTX6_stripped rfl rfl rfl (Nat.le_refl _) (Nat.le_refl _) h
    · refine aw_sub [2, 3, 1, 0] rfl ?_
      refine loop_P (P := fun s : Int32 × Int32 => AW MX6_stripped E0 rmX6_stripped 0 0 Q 0 0 S σ 17 [(0, .ref 29), (1, .int a1), (2, .int s.1), (3, .int s.2)] []) (fun s h => ?_) _ _ h
      obtain ⟨y2, y3⟩ := s
      replace h : ok (l_X6_stripped_17 a1 σ y2 y3) _ := h
      unfold l_X6_stripped_17 at h
      show AW MX6_stripped E0 rmX6_stripped 0 0 Q 0 0 S σ 17 [(0, .ref 29), (1, .int a1), (2, .int y2), (3, .int y3)] []
      refine aw_run tTX6_stripped 2 (pc2 := 20) (L2 := [(0, .ref 29), (1, .int a1), (2, .int y2), (3, .int y3)]) (st2 := [.int 6, .int y3]) rfl ?_
      refine aw_icmp_ge tTX6_stripped rfl 38 23 rfl rfl (fun hc => ?_) (fun hc => ?_)
      · have h := ok_t hc h
        refine aw_sub [0, 1, 2] rfl ?_
        have h := ok_r h
        exact h
      · have h := ok_f hc h
        refine aw_run tTX6_stripped 4 (pc2 := 27) (L2 := [(0, .ref 29), (1, .int a1), (2, .int y2), (3, .int y3)]) (st2 := [.int a1, .int y3, .ref 29, .int y2]) rfl ?_
        obtain ⟨r5, er5, h⟩ := ok_b h
        refine aw_cV tTX6_stripped rfl 30 rfl (M' := MX6_wanted) (av := [.int y3, .int a1]) (rest := [.int y2]) rfl lkX6_165 hMX6_wanted rfl (w_29 hS) ⟨_, _, rfl⟩ (s_X6_wanted hS er5) ⟨rfl, rfl, ⟨by decide, by decide⟩, by decide, by decide⟩ (Nat.le_of_ble_eq_true rfl) 46 (wf_len hS) rfl [.int r5, .int y2] rfl ?_
        refine aw_run tTX6_stripped 4 (pc2 := 17) (L2 := [(3, .int (y3 + 1)), (2, .int (y2 + r5)), (0, .ref 29), (1, .int a1)]) (st2 := []) rfl ?_
        refine aw_sub [2, 3, 1, 0] rfl ?_
        have h := ok_r h
        exact h
  · have h := ok_fn hc h
    refine aw_run tTX6_stripped 1 (pc2 := 12) (L2 := [(0, .ref 29), (1, .int a1)]) (st2 := [.int (-2 : Int32)]) rfl ?_
    have h := ok_r h
    exact aw_ir tTX6_stripped rfl rfl rfl (Nat.le_refl _) (Nat.le_refl _) h
theorem s_X6_stripped {g : Nat → Option Nat} {S : List SC} (hS : Wf g S) {σ : St} {a1 : Int32} {r : Int32 × St} (e : f_X6_stripped a1 σ = some r) : Fn MX6_stripped rmX6_stripped [.ref 29, .int a1] S σ (some (.int r.1)) r.2 := Sp.of (by decide) (Nat.le_of_ble_eq_true rfl) (t_X6_stripped hS a1 ⟨r, e, rfl, rfl, rfl⟩)
def f_X6_thefts (a1 : Int32) (a2 : Int32) (σ : St) : Option (Int32 × St) := Option.bind (f_X6_in a1 1 20) (fun r1 => if r1 = 0 then (some (((-2 : Int32), σ))) else (Option.bind (f_X6_in a2 0 5) (fun r2 => if r2 = 0 then (some (((-2 : Int32), σ))) else (Option.bind (f_X6_mostThefts a1 a2 σ) (fun r3 => some ((r3.1, r3.2)))))))
set_option maxHeartbeats 4000000 in
set_option maxRecDepth 20000 in
theorem t_X6_thefts {g : Nat → Option Nat} {S : List SC} (hS : Wf g S) {σ : St} {Q : QT} (a1 : Int32) (a2 : Int32) (h : ok (f_X6_thefts a1 a2 σ) (fun r => Q (some (.int r.1)) S r.2)) : AW MX6_thefts E0 rmX6_thefts 0 0 Q 0 0 S σ 0 [(0, .ref 29), (1, .int a1), (2, .int a2)] [] := by
  unfold f_X6_thefts at h
  refine aw_run tTX6_thefts 3 (pc2 := 4) (L2 := [(0, .ref 29), (1, .int a1), (2, .int a2)]) (st2 := [.int 20, .int 1, .int a1]) rfl ?_
  obtain ⟨r1, er1, h⟩ := ok_b h
  refine aw_cS tTX6_thefts rfl 7 rfl (M' := MX6_in) (av := [.int a1, .int 1, .int 20]) (rest := []) rfl lkX6_66 hMX6_in rfl (s_X6_in hS er1) ⟨rfl, rfl, ⟨by decide, by decide⟩, by decide, by decide⟩ (Nat.le_of_ble_eq_true rfl) 46 (wf_len hS) rfl [.int r1] rfl ?_
  refine aw_if_eq tTX6_thefts rfl 28 10 rfl rfl (fun hc => ?_) (fun hc => ?_)
  · have h := ok_t hc h
    refine aw_run tTX6_thefts 1 (pc2 := 30) (L2 := [(0, .ref 29), (1, .int a1), (2, .int a2)]) (st2 := [.int (-2 : Int32)]) rfl ?_
    have h := ok_r h
    exact aw_ir tTX6_thefts rfl rfl rfl (Nat.le_refl _) (Nat.le_refl _) h
  · have h := ok_f hc h
    refine aw_run tTX6_thefts 3 (pc2 := 13) (L2 := [(0, .ref 29), (1, .int a1), (2, .int a2)]) (st2 := [.int 5, .int 0, .int a2]) rfl ?_
    obtain ⟨r2, er2, h⟩ := ok_b h
    refine aw_cS tTX6_thefts rfl 16 rfl (M' := MX6_in) (av := [.int a2, .int 0, .int 5]) (rest := []) rfl lkX6_66 hMX6_in rfl (s_X6_in hS er2) ⟨rfl, rfl, ⟨by decide, by decide⟩, by decide, by decide⟩ (Nat.le_of_ble_eq_true rfl) 46 (wf_len hS) rfl [.int r2] rfl ?_
    refine aw_if_eq tTX6_thefts rfl 28 19 rfl rfl (fun hc => ?_) (fun hc => ?_)
    · have h := ok_t hc h
      refine aw_run tTX6_thefts 1 (pc2 := 30) (L2 := [(0, .ref 29), (1, .int a1), (2, .int a2)]) (st2 := [.int (-2 : Int32)]) rfl ?_
      have h := ok_r h
      exact aw_ir tTX6_thefts rfl rfl rfl (Nat.le_refl _) (Nat.le_refl _) h
    · have h := ok_f hc h
      refine aw_run tTX6_thefts 3 (pc2 := 22) (L2 := [(0, .ref 29), (1, .int a1), (2, .int a2)]) (st2 := [.int a2, .int a1, .ref 29]) rfl ?_
      obtain ⟨r3, er3, h⟩ := ok_b h
      refine aw_cV tTX6_thefts rfl 25 rfl (M' := MX6_mostThefts) (av := [.int a1, .int a2]) (rest := []) rfl lkX6_168 hMX6_mostThefts rfl (w_29 hS) ⟨_, _, rfl⟩ (s_X6_mostThefts hS er3) ⟨rfl, rfl, ⟨by decide, by decide⟩, by decide, by decide⟩ (Nat.le_of_ble_eq_true rfl) 46 (wf_len hS) rfl [.int r3.1] rfl ?_
      refine aw_run tTX6_thefts 1 (pc2 := 30) (L2 := [(0, .ref 29), (1, .int a1), (2, .int a2)]) (st2 := [.int r3.1]) rfl ?_
      have h := ok_r h
      exact aw_ir tTX6_thefts rfl rfl rfl (Nat.le_refl _) (Nat.le_refl _) h
theorem s_X6_thefts {g : Nat → Option Nat} {S : List SC} (hS : Wf g S) {σ : St} {a1 : Int32} {a2 : Int32} {r : Int32 × St} (e : f_X6_thefts a1 a2 σ = some r) : Fn MX6_thefts rmX6_thefts [.ref 29, .int a1, .int a2] S σ (some (.int r.1)) r.2 := Sp.of (by decide) (Nat.le_of_ble_eq_true rfl) (t_X6_thefts hS a1 a2 ⟨r, e, rfl, rfl, rfl⟩)
def l_X6_layChains_6 (a1 : Int32) (y2 : Int32) (σ3 : St) : Option ((Int32 × St) ⊕ (St)) := if 384 ≤ y2 then (some (.inr σ3)) else (Option.bind (α := Int32) (if ¬ y2 = (((6 : Int32) * ((1 : Int32) <<< (a1 &&& 31))) + a1) then (some 0) else (some 1)) (fun (j5 : Int32) => gi y2 384 (nm (up2 σ3 41 y2.toNatClampNeg (jz j5)) (fun σ6 => some (.inl (y2 + 1, σ6))))))
def l_X6_layChains_86 (y7 : Int32) (x15 : Int32) (y16 : Int32) (σ17 : St) : Option ((Int32 × St) ⊕ (St)) := if 6 ≤ y16 then (some (.inr σ17)) else (Option.bind (f_X6_has x15 y16) (fun r19 => Option.bind (α := St) (if r19 = 0 then (some σ17) else (gi (((6 : Int32) * (y7 ||| ((1 : Int32) <<< (y16 &&& 31)))) + y16) 384 (nm (up2 σ17 41 (((6 : Int32) * (y7 ||| ((1 : Int32) <<< (y16 &&& 31)))) + y16).toNatClampNeg (jz 1)) (fun σ21 => some σ21)))) (fun (j20 : St) => some (.inl (y16 + 1, j20)))))
def l_X6_layChains_52 (y7 : Int32) (y10 : Int32) (σ11 : St) : Option ((Int32 × St) ⊕ (St)) := if 6 ≤ y10 then (some (.inr σ11)) else (gi (((6 : Int32) * y7) + y10) 384 (Option.bind (α := St) (if (σ11 41 (((6 : Int32) * y7) + y10).toNatClampNeg) = 0 then (some σ11) else (Option.bind (f_X6_mayRob y10 σ11) (fun r14 => nm (r14 &&& (y7 ^^^ (-1 : Int32))) (fun (x15 : Int32) => Option.bind (loop (fun s : Int32 × St => l_X6_layChains_86 y7 x15 s.1 s.2) 400 (0, σ11)) (fun (z18 : St) => some z18))))) (fun (j13 : St) => some (.inl (y10 + 1, j13)))))
def l_X6_layChains_44  (y7 : Int32) (σ8 : St) : Option ((Int32 × St) ⊕ (St)) := if 64 ≤ y7 then (some (.inr σ8)) else (Option.bind (loop (fun s : Int32 × St => l_X6_layChains_52 y7 s.1 s.2) 400 (0, σ8)) (fun (z12 : St) => some (.inl (y7 + 1, z12))))
def f_X6_layChains (a1 : Int32) (σ : St) : Option (St) := Option.bind (f_X6_asNow  σ) (fun r1 => Option.bind (loop (fun s : Int32 × St => l_X6_layChains_6 a1 s.1 s.2) 400 (0, r1)) (fun (z4 : St) => Option.bind (loop (fun s : Int32 × St => l_X6_layChains_44  s.1 s.2) 400 (0, z4)) (fun (z9 : St) => some (z9))))
set_option maxHeartbeats 4000000 in
set_option maxRecDepth 20000 in
theorem t_X6_layChains {g : Nat → Option Nat} {S : List SC} (hS : Wf g S) {σ : St} {Q : QT} (a1 : Int32) (h : ok (f_X6_layChains a1 σ) (fun r => Q none S r)) : AW MX6_layChains E0 rmX6_layChains 0 0 Q 0 0 S σ 0 [(0, .ref 29), (1, .int a1)] [] := by
  unfold f_X6_layChains at h
  refine aw_run tTX6_layChains 1 (pc2 := 1) (L2 := [(0, .ref 29), (1, .int a1)]) (st2 := [.ref 29]) rfl ?_
  obtain ⟨r1, er1, h⟩ := ok_b h
  refine aw_cV tTX6_layChains rfl 4 rfl (M' := MX6_asNow) (av := []) (rest := []) rfl lkX6_137 hMX6_asNow rfl (w_29 hS) ⟨_, _, rfl⟩ (s_X6_asNow hS er1) ⟨rfl, rfl, ⟨by decide, by decide⟩, by decide, by decide⟩ (Nat.le_of_ble_eq_true rfl) 46 (wf_len hS) rfl [] rfl ?_
  refine aw_run tTX6_layChains 2 (pc2 := 6) (L2 := [(2, .int 0), (0, .ref 29), (1, .int a1)]) (st2 := []) rfl ?_
  refine ok_use (P := fun z4 : St => AW MX6_layChains E0 rmX6_layChains 0 0 Q 0 0 S z4 42 [(0, .ref 29)] []) (ok_b h) (fun z4 h => ?_) (fun h => ?_)
  · refine aw_run tTX6_layChains 2 (pc2 := 44) (L2 := [(2, .int 0), (0, .ref 29)]) (st2 := []) rfl ?_
    refine ok_use (P := fun z9 : St => AW MX6_layChains E0 rmX6_layChains 0 0 Q 0 0 S z9 139 [] []) (ok_b h) (fun z9 h => ?_) (fun h => ?_)
    · have h := ok_r h
      exact aw_vr tTX6_layChains rfl rfl (Nat.le_refl _) (Nat.le_refl _) h
    · refine aw_sub [1, 0] rfl ?_
      refine loop_P (P := fun s : Int32 × St => AW MX6_layChains E0 rmX6_layChains 0 0 Q 0 0 S s.2 44 [(0, .ref 29), (2, .int s.1)] []) (fun s h => ?_) _ _ h
      obtain ⟨y7, σ8⟩ := s
      replace h : ok (l_X6_layChains_44  y7 σ8) _ := h
      unfold l_X6_layChains_44 at h
      show AW MX6_layChains E0 rmX6_layChains 0 0 Q 0 0 S σ8 44 [(0, .ref 29), (2, .int y7)] []
      refine aw_run tTX6_layChains 2 (pc2 := 47) (L2 := [(0, .ref 29), (2, .int y7)]) (st2 := [.int 64, .int y7]) rfl ?_
      refine aw_icmp_ge tTX6_layChains rfl 139 50 rfl rfl (fun hc => ?_) (fun hc => ?_)
      · have h := ok_t hc h
        refine aw_sub [] rfl ?_
        have h := ok_r h
        exact h
      · have h := ok_f hc h
        refine aw_run tTX6_layChains 2 (pc2 := 52) (L2 := [(3, .int 0), (0, .ref 29), (2, .int y7)]) (st2 := []) rfl ?_
        refine ok_use (P := fun z12 : St => AW MX6_layChains E0 rmX6_layChains 0 0 Q 0 0 S z12 133 [(0, .ref 29), (2, .int y7)] []) (ok_b h) (fun z12 h => ?_) (fun h => ?_)
        · refine aw_run tTX6_layChains 2 (pc2 := 44) (L2 := [(2, .int (y7 + 1)), (0, .ref 29)]) (st2 := []) rfl ?_
          refine aw_sub [1, 0] rfl ?_
          have h := ok_r h
          exact h
        · refine aw_sub [1, 2, 0] rfl ?_
          refine loop_P (P := fun s : Int32 × St => AW MX6_layChains E0 rmX6_layChains 0 0 Q 0 0 S s.2 52 [(0, .ref 29), (2, .int y7), (3, .int s.1)] []) (fun s h => ?_) _ _ h
          obtain ⟨y10, σ11⟩ := s
          replace h : ok (l_X6_layChains_52 y7 y10 σ11) _ := h
          unfold l_X6_layChains_52 at h
          show AW MX6_layChains E0 rmX6_layChains 0 0 Q 0 0 S σ11 52 [(0, .ref 29), (2, .int y7), (3, .int y10)] []
          refine aw_run tTX6_layChains 2 (pc2 := 55) (L2 := [(0, .ref 29), (2, .int y7), (3, .int y10)]) (st2 := [.int 6, .int y10]) rfl ?_
          refine aw_icmp_ge tTX6_layChains rfl 133 58 rfl rfl (fun hc => ?_) (fun hc => ?_)
          · have h := ok_t hc h
            refine aw_sub [0, 1] rfl ?_
            have h := ok_r h
            exact h
          · have h := ok_f hc h
            refine aw_run tTX6_layChains 1 (pc2 := 59) (L2 := [(0, .ref 29), (2, .int y7), (3, .int y10)]) (st2 := [.ref 29]) rfl ?_
            refine aw_getR tTX6_layChains rfl 62 rfl (w_29 hS) rfl flX6_47 ?_
            refine aw_run tTX6_layChains 5 (pc2 := 68) (L2 := [(0, .ref 29), (2, .int y7), (3, .int y10)]) (st2 := [.int (((6 : Int32) * y7) + y10), .ref 41]) rfl ?_
            obtain ⟨hi, h⟩ := ok_gi h
            refine aw_zald tTX6_layChains rfl 69 rfl (w_41 hS) hi ?_
            refine ok_use (P := fun j13 : St => AW MX6_layChains E0 rmX6_layChains 0 0 Q 0 0 S j13 127 [(0, .ref 29), (2, .int y7), (3, .int y10)] []) (ok_b h) (fun j13 h => ?_) (fun h => ?_)
            · refine aw_run tTX6_layChains 2 (pc2 := 52) (L2 := [(3, .int (y10 + 1)), (0, .ref 29), (2, .int y7)]) (st2 := []) rfl ?_
              refine aw_sub [1, 2, 0] rfl ?_
              have h := ok_r h
              exact h
            · refine aw_if_eq tTX6_layChains rfl 127 72 rfl rfl (fun hc => ?_) (fun hc => ?_)
              · have h := ok_t hc h
                refine aw_sub [0, 1, 2] rfl ?_
                have h := ok_r h
                exact h
              · have h := ok_f hc h
                refine aw_run tTX6_layChains 2 (pc2 := 74) (L2 := [(0, .ref 29), (2, .int y7), (3, .int y10)]) (st2 := [.int y10, .ref 29]) rfl ?_
                obtain ⟨r14, er14, h⟩ := ok_b h
                refine aw_cV tTX6_layChains rfl 77 rfl (M' := MX6_mayRob) (av := [.int y10]) (rest := []) rfl lkX6_161 hMX6_mayRob rfl (w_29 hS) ⟨_, _, rfl⟩ (s_X6_mayRob hS er14) ⟨rfl, rfl, ⟨by decide, by decide⟩, by decide, by decide⟩ (Nat.le_of_ble_eq_true rfl) 46 (wf_len hS) rfl [.int r14] rfl ?_
                refine aw_run tTX6_layChains 4 (pc2 := 81) (L2 := [(0, .ref 29), (2, .int y7), (3, .int y10)]) (st2 := [.int (r14 &&& (y7 ^^^ (-1 : Int32)))]) rfl ?_
                refine aw_nm (fun x15 ex15 => ?_)
                have h := ok_nm h x15 ex15
                refine aw_run tTX6_layChains 1 (pc2 := 83) (L2 := [(4, .int x15), (0, .ref 29), (2, .int y7), (3, .int y10)]) (st2 := []) rfl ?_
                refine aw_run tTX6_layChains 2 (pc2 := 86) (L2 := [(5, .int 0), (4, .int x15), (0, .ref 29), (2, .int y7), (3, .int y10)]) (st2 := []) rfl ?_
                refine ok_use (P := fun z18 : St => AW MX6_layChains E0 rmX6_layChains 0 0 Q 0 0 S z18 127 [(0, .ref 29), (2, .int y7), (3, .int y10)] []) (ok_b h) (fun z18 h => ?_) (fun h => ?_)
                · refine aw_sub [0, 1, 2] rfl ?_
                  have h := ok_r h
                  exact h
                · refine aw_sub [2, 3, 4, 1, 0] rfl ?_
                  refine loop_P (P := fun s : Int32 × St => AW MX6_layChains E0 rmX6_layChains 0 0 Q 0 0 S s.2 86 [(0, .ref 29), (2, .int y7), (3, .int y10), (4, .int x15), (5, .int s.1)] []) (fun s h => ?_) _ _ h
                  obtain ⟨y16, σ17⟩ := s
                  replace h : ok (l_X6_layChains_86 y7 x15 y16 σ17) _ := h
                  unfold l_X6_layChains_86 at h
                  show AW MX6_layChains E0 rmX6_layChains 0 0 Q 0 0 S σ17 86 [(0, .ref 29), (2, .int y7), (3, .int y10), (4, .int x15), (5, .int y16)] []
                  refine aw_run tTX6_layChains 2 (pc2 := 90) (L2 := [(0, .ref 29), (2, .int y7), (3, .int y10), (4, .int x15), (5, .int y16)]) (st2 := [.int 6, .int y16]) rfl ?_
                  refine aw_icmp_ge tTX6_layChains rfl 127 93 rfl rfl (fun hc => ?_) (fun hc => ?_)
                  · have h := ok_t hc h
                    refine aw_sub [0, 1, 2] rfl ?_
                    have h := ok_r h
                    exact h
                  · have h := ok_f hc h
                    refine aw_run tTX6_layChains 2 (pc2 := 97) (L2 := [(0, .ref 29), (2, .int y7), (3, .int y10), (4, .int x15), (5, .int y16)]) (st2 := [.int y16, .int x15]) rfl ?_
                    obtain ⟨r19, er19, h⟩ := ok_b h
                    refine aw_cS tTX6_layChains rfl 100 rfl (M' := MX6_has) (av := [.int x15, .int y16]) (rest := []) rfl lkX6_70 hMX6_has rfl (s_X6_has hS er19) ⟨rfl, rfl, ⟨by decide, by decide⟩, by decide, by decide⟩ (Nat.le_of_ble_eq_true rfl) 46 (wf_len hS) rfl [.int r19] rfl ?_
                    refine ok_use (P := fun j20 : St => AW MX6_layChains E0 rmX6_layChains 0 0 Q 0 0 S j20 121 [(0, .ref 29), (2, .int y7), (3, .int y10), (4, .int x15), (5, .int y16)] []) (ok_b h) (fun j20 h => ?_) (fun h => ?_)
                    · refine aw_run tTX6_layChains 2 (pc2 := 86) (L2 := [(5, .int (y16 + 1)), (0, .ref 29), (2, .int y7), (3, .int y10), (4, .int x15)]) (st2 := []) rfl ?_
                      refine aw_sub [1, 2, 3, 4, 0] rfl ?_
                      have h := ok_r h
                      exact h
                    · refine aw_if_eq tTX6_layChains rfl 121 103 rfl rfl (fun hc => ?_) (fun hc => ?_)
                      · have h := ok_t hc h
                        refine aw_sub [0, 1, 2, 3, 4] rfl ?_
                        have h := ok_r h
                        exact h
                      · have h := ok_f hc h
                        refine aw_run tTX6_layChains 1 (pc2 := 104) (L2 := [(0, .ref 29), (2, .int y7), (3, .int y10), (4, .int x15), (5, .int y16)]) (st2 := [.ref 29]) rfl ?_
                        refine aw_getR tTX6_layChains rfl 107 rfl (w_29 hS) rfl flX6_47 ?_
                        refine aw_run tTX6_layChains 10 (pc2 := 120) (L2 := [(0, .ref 29), (2, .int y7), (3, .int y10), (4, .int x15), (5, .int y16)]) (st2 := [.int 1, .int (((6 : Int32) * (y7 ||| ((1 : Int32) <<< (y16 &&& 31)))) + y16), .ref 41]) rfl ?_
                        obtain ⟨hi, h⟩ := ok_gi h
                        refine aw_zast tTX6_layChains rfl 121 rfl (w_41 hS) hi ?_
                        refine aw_nmS (fun σ21 eσ21 => ?_)
                        have h := ok_nm h σ21 eσ21
                        refine aw_sub [0, 1, 2, 3, 4] rfl ?_
                        have h := ok_r h
                        exact h
  · refine aw_sub [1, 2, 0] rfl ?_
    refine loop_P (P := fun s : Int32 × St => AW MX6_layChains E0 rmX6_layChains 0 0 Q 0 0 S s.2 6 [(0, .ref 29), (1, .int a1), (2, .int s.1)] []) (fun s h => ?_) _ _ h
    obtain ⟨y2, σ3⟩ := s
    replace h : ok (l_X6_layChains_6 a1 y2 σ3) _ := h
    unfold l_X6_layChains_6 at h
    show AW MX6_layChains E0 rmX6_layChains 0 0 Q 0 0 S σ3 6 [(0, .ref 29), (1, .int a1), (2, .int y2)] []
    refine aw_run tTX6_layChains 2 (pc2 := 10) (L2 := [(0, .ref 29), (1, .int a1), (2, .int y2)]) (st2 := [.int 384, .int y2]) rfl ?_
    refine aw_icmp_ge tTX6_layChains rfl 42 13 rfl rfl (fun hc => ?_) (fun hc => ?_)
    · have h := ok_t hc h
      refine aw_sub [0] rfl ?_
      have h := ok_r h
      exact h
    · have h := ok_f hc h
      refine aw_run tTX6_layChains 1 (pc2 := 14) (L2 := [(0, .ref 29), (1, .int a1), (2, .int y2)]) (st2 := [.ref 29]) rfl ?_
      refine aw_getR tTX6_layChains rfl 17 rfl (w_29 hS) rfl flX6_47 ?_
      refine aw_run tTX6_layChains 9 (pc2 := 27) (L2 := [(0, .ref 29), (1, .int a1), (2, .int y2)]) (st2 := [.int (((6 : Int32) * ((1 : Int32) <<< (a1 &&& 31))) + a1), .int y2, .int y2, .ref 41]) rfl ?_
      refine ok_use (P := fun j5 : Int32 => AW MX6_layChains E0 rmX6_layChains 0 0 Q 0 0 S σ3 35 [(0, .ref 29), (1, .int a1), (2, .int y2)] [.int j5, .int y2, .ref 41]) (ok_b h) (fun j5 h => ?_) (fun h => ?_)
      · obtain ⟨hi, h⟩ := ok_gi h
        refine aw_zast tTX6_layChains rfl 36 rfl (w_41 hS) hi ?_
        refine aw_nmS (fun σ6 eσ6 => ?_)
        have h := ok_nm h σ6 eσ6
        refine aw_run tTX6_layChains 2 (pc2 := 6) (L2 := [(2, .int (y2 + 1)), (0, .ref 29), (1, .int a1)]) (st2 := []) rfl ?_
        refine aw_sub [1, 2, 0] rfl ?_
        have h := ok_r h
        exact h
      · refine aw_icmp_ne tTX6_layChains rfl 34 30 rfl rfl (fun hc => ?_) (fun hc => ?_)
        · have h := ok_t hc h
          refine aw_run tTX6_layChains 1 (pc2 := 35) (L2 := [(0, .ref 29), (1, .int a1), (2, .int y2)]) (st2 := [.int 0, .int y2, .ref 41]) rfl ?_
          refine aw_sub [0, 1, 2] rfl ?_
          have h := ok_r h
          exact h
        · have h := ok_fn hc h
          refine aw_run tTX6_layChains 2 (pc2 := 35) (L2 := [(0, .ref 29), (1, .int a1), (2, .int y2)]) (st2 := [.int 1, .int y2, .ref 41]) rfl ?_
          refine aw_sub [0, 1, 2] rfl ?_
          have h := ok_r h
          exact h
theorem s_X6_layChains {g : Nat → Option Nat} {S : List SC} (hS : Wf g S) {σ : St} {a1 : Int32} {r : St} (e : f_X6_layChains a1 σ = some r) : Fn MX6_layChains rmX6_layChains [.ref 29, .int a1] S σ none r := Sp.of (by decide) (Nat.le_of_ble_eq_true rfl) (t_X6_layChains hS a1 ⟨r, e, rfl, rfl, rfl⟩)
def l_X6_round_38 (y2 : Int32) (r7 : St) (y9 : Int32) (y11 : Int32) (y12 : Int32) : Option ((Int32 × Int32) ⊕ (Int32)) := if 6 ≤ y12 then (some (.inr y11)) else (gi (((6 : Int32) * y9) + y12) 384 (Option.bind (α := Int32) (if (r7 41 (((6 : Int32) * y9) + y12).toNatClampNeg) = 0 then (some 0) else (if y12 = y2 then (some 0) else (Option.bind (f_X6_mayRob y12 r7) (fun r18 => Option.bind (f_X6_has r18 y2) (fun r19 => if r19 = 0 then (some 0) else (some 1)))))) (fun (j14 : Int32) => Option.bind (α := Int32) (if j14 = 0 then (some y11) else (Option.bind (f_X6_bits y9) (fun r16 => if r16 ≤ y11 then (some y11) else (Option.bind (f_X6_bits y9) (fun r17 => some r17))))) (fun (j15 : Int32) => some (.inl (j15, y12 + 1))))))
def l_X6_round_29 (y2 : Int32) (r7 : St) (y8 : Int32) (y9 : Int32) : Option ((Int32 × Int32) ⊕ (Int32)) := if 64 ≤ y9 then (some (.inr y8)) else (Option.bind (loop (fun s : Int32 × Int32 => l_X6_round_38 y2 r7 y9 s.1 s.2) 400 (y8, 0)) (fun (z13 : Int32) => some (.inl (z13, y9 + 1))))
def l_X6_round_5  (y1 : Int32) (y2 : Int32) (σ3 : St) : Option ((Int32 × Int32 × St) ⊕ (Int32 × St)) := if 6 ≤ y2 then (some (.inr (y1, σ3))) else (Option.bind (f_X6_has (σ3 29 0) y2) (fun r5 => Option.bind (α := Int32 × St) (if r5 = 0 then (some (y1, σ3)) else (Option.bind (f_X6_layChains y2 σ3) (fun r7 => Option.bind (loop (fun s : Int32 × Int32 => l_X6_round_29 y2 r7 s.1 s.2) 400 (y1, 0)) (fun (z10 : Int32) => some (z10, r7))))) (fun (j6 : Int32 × St) => some (.inl (j6.1, y2 + 1, j6.2)))))
def f_X6_round  (σ : St) : Option (Int32 × St) := Option.bind (loop (fun s : Int32 × Int32 × St => l_X6_round_5  s.1 s.2.1 s.2.2) 400 ((-6 : Int32), 0, σ)) (fun (z4 : Int32 × St) => some ((z4.1, z4.2)))
set_option maxHeartbeats 4000000 in
set_option maxRecDepth 20000 in
theorem t_X6_round {g : Nat → Option Nat} {S : List SC} (hS : Wf g S) {σ : St} {Q : QT}  (h : ok (f_X6_round  σ) (fun r => Q (some (.int r.1)) S r.2)) : AW MX6_round E0 rmX6_round 0 0 Q 0 0 S σ 0 [(0, .ref 29)] [] := by
  unfold f_X6_round at h
  refine aw_run tTX6_round 4 (pc2 := 5) (L2 := [(2, .int 0), (1, .int (-6 : Int32)), (0, .ref 29)]) (st2 := []) rfl ?_
  refine ok_use (P := fun z4 : Int32 × St => AW MX6_round E0 rmX6_round 0 0 Q 0 0 S z4.2 126 [(1, .int z4.1)] []) (ok_b h) (fun z4 h => ?_) (fun h => ?_)
  · refine aw_run tTX6_round 1 (pc2 := 127) (L2 := [(1, .int z4.1)]) (st2 := [.int z4.1]) rfl ?_
    have h := ok_r h
    exact aw_ir tTX6_round rfl rfl rfl (Nat.le_refl _) (Nat.le_refl _) h
  · refine aw_sub [2, 1, 0] rfl ?_
    refine loop_P (P := fun s : Int32 × Int32 × St => AW MX6_round E0 rmX6_round 0 0 Q 0 0 S s.2.2 5 [(0, .ref 29), (1, .int s.1), (2, .int s.2.1)] []) (fun s h => ?_) _ _ h
    obtain ⟨y1, y2, σ3⟩ := s
    replace h : ok (l_X6_round_5  y1 y2 σ3) _ := h
    unfold l_X6_round_5 at h
    show AW MX6_round E0 rmX6_round 0 0 Q 0 0 S σ3 5 [(0, .ref 29), (1, .int y1), (2, .int y2)] []
    refine aw_run tTX6_round 2 (pc2 := 8) (L2 := [(0, .ref 29), (1, .int y1), (2, .int y2)]) (st2 := [.int 6, .int y2]) rfl ?_
    refine aw_icmp_ge tTX6_round rfl 126 11 rfl rfl (fun hc => ?_) (fun hc => ?_)
    · have h := ok_t hc h
      refine aw_sub [1] rfl ?_
      have h := ok_r h
      exact h
    · have h := ok_f hc h
      refine aw_run tTX6_round 1 (pc2 := 12) (L2 := [(0, .ref 29), (1, .int y1), (2, .int y2)]) (st2 := [.ref 29]) rfl ?_
      refine aw_getI tTX6_round rfl 15 rfl (w_29 hS) rfl flX6_63 ?_
      refine aw_run tTX6_round 1 (pc2 := 16) (L2 := [(0, .ref 29), (1, .int y1), (2, .int y2)]) (st2 := [.int y2, .int (σ3 29 0)]) rfl ?_
      obtain ⟨r5, er5, h⟩ := ok_b h
      refine aw_cS tTX6_round rfl 19 rfl (M' := MX6_has) (av := [.int (σ3 29 0), .int y2]) (rest := []) rfl lkX6_70 hMX6_has rfl (s_X6_has hS er5) ⟨rfl, rfl, ⟨by decide, by decide⟩, by decide, by decide⟩ (Nat.le_of_ble_eq_true rfl) 46 (wf_len hS) rfl [.int r5] rfl ?_
      refine ok_use (P := fun j6 : Int32 × St => AW MX6_round E0 rmX6_round 0 0 Q 0 0 S j6.2 120 [(0, .ref 29), (1, .int j6.1), (2, .int y2)] []) (ok_b h) (fun j6 h => ?_) (fun h => ?_)
      · refine aw_run tTX6_round 2 (pc2 := 5) (L2 := [(2, .int (y2 + 1)), (0, .ref 29), (1, .int j6.1)]) (st2 := []) rfl ?_
        refine aw_sub [1, 2, 0] rfl ?_
        have h := ok_r h
        exact h
      · refine aw_if_eq tTX6_round rfl 120 22 rfl rfl (fun hc => ?_) (fun hc => ?_)
        · have h := ok_t hc h
          refine aw_sub [0, 1, 2] rfl ?_
          have h := ok_r h
          exact h
        · have h := ok_f hc h
          refine aw_run tTX6_round 2 (pc2 := 24) (L2 := [(0, .ref 29), (1, .int y1), (2, .int y2)]) (st2 := [.int y2, .ref 29]) rfl ?_
          obtain ⟨r7, er7, h⟩ := ok_b h
          refine aw_cV tTX6_round rfl 27 rfl (M' := MX6_layChains) (av := [.int y2]) (rest := []) rfl lkX6_171 hMX6_layChains rfl (w_29 hS) ⟨_, _, rfl⟩ (s_X6_layChains hS er7) ⟨rfl, rfl, ⟨by decide, by decide⟩, by decide, by decide⟩ (Nat.le_of_ble_eq_true rfl) 46 (wf_len hS) rfl [] rfl ?_
          refine aw_run tTX6_round 2 (pc2 := 29) (L2 := [(3, .int 0), (0, .ref 29), (1, .int y1), (2, .int y2)]) (st2 := []) rfl ?_
          refine ok_use (P := fun z10 : Int32 => AW MX6_round E0 rmX6_round 0 0 Q 0 0 S r7 120 [(0, .ref 29), (1, .int z10), (2, .int y2)] []) (ok_b h) (fun z10 h => ?_) (fun h => ?_)
          · refine aw_sub [0, 1, 2] rfl ?_
            have h := ok_r h
            exact h
          · refine aw_sub [1, 2, 3, 0] rfl ?_
            refine loop_P (P := fun s : Int32 × Int32 => AW MX6_round E0 rmX6_round 0 0 Q 0 0 S r7 29 [(0, .ref 29), (1, .int s.1), (2, .int y2), (3, .int s.2)] []) (fun s h => ?_) _ _ h
            obtain ⟨y8, y9⟩ := s
            replace h : ok (l_X6_round_29 y2 r7 y8 y9) _ := h
            unfold l_X6_round_29 at h
            show AW MX6_round E0 rmX6_round 0 0 Q 0 0 S r7 29 [(0, .ref 29), (1, .int y8), (2, .int y2), (3, .int y9)] []
            refine aw_run tTX6_round 2 (pc2 := 32) (L2 := [(0, .ref 29), (1, .int y8), (2, .int y2), (3, .int y9)]) (st2 := [.int 64, .int y9]) rfl ?_
            refine aw_icmp_ge tTX6_round rfl 120 35 rfl rfl (fun hc => ?_) (fun hc => ?_)
            · have h := ok_t hc h
              refine aw_sub [0, 1, 2] rfl ?_
              have h := ok_r h
              exact h
            · have h := ok_f hc h
              refine aw_run tTX6_round 2 (pc2 := 38) (L2 := [(4, .int 0), (0, .ref 29), (1, .int y8), (2, .int y2), (3, .int y9)]) (st2 := []) rfl ?_
              refine ok_use (P := fun z13 : Int32 => AW MX6_round E0 rmX6_round 0 0 Q 0 0 S r7 114 [(0, .ref 29), (1, .int z13), (2, .int y2), (3, .int y9)] []) (ok_b h) (fun z13 h => ?_) (fun h => ?_)
              · refine aw_run tTX6_round 2 (pc2 := 29) (L2 := [(3, .int (y9 + 1)), (0, .ref 29), (1, .int z13), (2, .int y2)]) (st2 := []) rfl ?_
                refine aw_sub [1, 2, 3, 0] rfl ?_
                have h := ok_r h
                exact h
              · refine aw_sub [1, 2, 3, 4, 0] rfl ?_
                refine loop_P (P := fun s : Int32 × Int32 => AW MX6_round E0 rmX6_round 0 0 Q 0 0 S r7 38 [(0, .ref 29), (1, .int s.1), (2, .int y2), (3, .int y9), (4, .int s.2)] []) (fun s h => ?_) _ _ h
                obtain ⟨y11, y12⟩ := s
                replace h : ok (l_X6_round_38 y2 r7 y9 y11 y12) _ := h
                unfold l_X6_round_38 at h
                show AW MX6_round E0 rmX6_round 0 0 Q 0 0 S r7 38 [(0, .ref 29), (1, .int y11), (2, .int y2), (3, .int y9), (4, .int y12)] []
                refine aw_run tTX6_round 2 (pc2 := 42) (L2 := [(0, .ref 29), (1, .int y11), (2, .int y2), (3, .int y9), (4, .int y12)]) (st2 := [.int 6, .int y12]) rfl ?_
                refine aw_icmp_ge tTX6_round rfl 114 45 rfl rfl (fun hc => ?_) (fun hc => ?_)
                · have h := ok_t hc h
                  refine aw_sub [0, 1, 2, 3] rfl ?_
                  have h := ok_r h
                  exact h
                · have h := ok_f hc h
                  refine aw_run tTX6_round 1 (pc2 := 46) (L2 := [(0, .ref 29), (1, .int y11), (2, .int y2), (3, .int y9), (4, .int y12)]) (st2 := [.ref 29]) rfl ?_
                  refine aw_getR tTX6_round rfl 49 rfl (w_29 hS) rfl flX6_47 ?_
                  refine aw_run tTX6_round 5 (pc2 := 56) (L2 := [(0, .ref 29), (1, .int y11), (2, .int y2), (3, .int y9), (4, .int y12)]) (st2 := [.int (((6 : Int32) * y9) + y12), .ref 41]) rfl ?_
                  obtain ⟨hi, h⟩ := ok_gi h
                  refine aw_zald tTX6_round rfl 57 rfl (w_41 hS) hi ?_
                  refine ok_use (P := fun j14 : Int32 => AW MX6_round E0 rmX6_round 0 0 Q 0 0 S r7 84 [(0, .ref 29), (1, .int y11), (2, .int y2), (3, .int y9), (4, .int y12)] [.int j14]) (ok_b h) (fun j14 h => ?_) (fun h => ?_)
                  · refine aw_run tTX6_round 2 (pc2 := 88) (L2 := [(5, .int j14), (0, .ref 29), (1, .int y11), (2, .int y2), (3, .int y9), (4, .int y12)]) (st2 := [.int j14]) rfl ?_
                    refine ok_use (P := fun j15 : Int32 => AW MX6_round E0 rmX6_round 0 0 Q 0 0 S r7 107 [(0, .ref 29), (2, .int y2), (3, .int y9), (4, .int y12)] [.int j15]) (ok_b h) (fun j15 h => ?_) (fun h => ?_)
                    · refine aw_run tTX6_round 3 (pc2 := 38) (L2 := [(4, .int (y12 + 1)), (1, .int j15), (0, .ref 29), (2, .int y2), (3, .int y9)]) (st2 := []) rfl ?_
                      refine aw_sub [2, 1, 3, 4, 0] rfl ?_
                      have h := ok_r h
                      exact h
                    · refine aw_if_eq tTX6_round rfl 106 91 rfl rfl (fun hc => ?_) (fun hc => ?_)
                      · have h := ok_t hc h
                        refine aw_run tTX6_round 1 (pc2 := 107) (L2 := [(5, .int j14), (0, .ref 29), (1, .int y11), (2, .int y2), (3, .int y9), (4, .int y12)]) (st2 := [.int y11]) rfl ?_
                        refine aw_sub [1, 3, 4, 5] rfl ?_
                        have h := ok_r h
                        exact h
                      · have h := ok_f hc h
                        refine aw_run tTX6_round 1 (pc2 := 92) (L2 := [(5, .int j14), (0, .ref 29), (1, .int y11), (2, .int y2), (3, .int y9), (4, .int y12)]) (st2 := [.int y9]) rfl ?_
                        obtain ⟨r16, er16, h⟩ := ok_b h
                        refine aw_cS tTX6_round rfl 95 rfl (M' := MX6_bits) (av := [.int y9]) (rest := []) rfl lkX6_74 hMX6_bits rfl (s_X6_bits hS er16) ⟨rfl, rfl, ⟨by decide, by decide⟩, by decide, by decide⟩ (Nat.le_of_ble_eq_true rfl) 46 (wf_len hS) rfl [.int r16] rfl ?_
                        refine aw_run tTX6_round 1 (pc2 := 96) (L2 := [(5, .int j14), (0, .ref 29), (1, .int y11), (2, .int y2), (3, .int y9), (4, .int y12)]) (st2 := [.int y11, .int r16]) rfl ?_
                        refine aw_icmp_le tTX6_round rfl 106 99 rfl rfl (fun hc => ?_) (fun hc => ?_)
                        · have h := ok_t hc h
                          refine aw_run tTX6_round 1 (pc2 := 107) (L2 := [(5, .int j14), (0, .ref 29), (1, .int y11), (2, .int y2), (3, .int y9), (4, .int y12)]) (st2 := [.int y11]) rfl ?_
                          refine aw_sub [1, 3, 4, 5] rfl ?_
                          have h := ok_r h
                          exact h
                        · have h := ok_f hc h
                          refine aw_run tTX6_round 1 (pc2 := 100) (L2 := [(5, .int j14), (0, .ref 29), (1, .int y11), (2, .int y2), (3, .int y9), (4, .int y12)]) (st2 := [.int y9]) rfl ?_
                          obtain ⟨r17, er17, h⟩ := ok_b h
                          refine aw_cS tTX6_round rfl 103 rfl (M' := MX6_bits) (av := [.int y9]) (rest := []) rfl lkX6_74 hMX6_bits rfl (s_X6_bits hS er17) ⟨rfl, rfl, ⟨by decide, by decide⟩, by decide, by decide⟩ (Nat.le_of_ble_eq_true rfl) 46 (wf_len hS) rfl [.int r17] rfl ?_
                          refine aw_run tTX6_round 1 (pc2 := 107) (L2 := [(5, .int j14), (0, .ref 29), (1, .int y11), (2, .int y2), (3, .int y9), (4, .int y12)]) (st2 := [.int r17]) rfl ?_
                          refine aw_sub [1, 3, 4, 5] rfl ?_
                          have h := ok_r h
                          exact h
                  · refine aw_if_eq tTX6_round rfl 83 60 rfl rfl (fun hc => ?_) (fun hc => ?_)
                    · have h := ok_t hc h
                      refine aw_run tTX6_round 1 (pc2 := 84) (L2 := [(0, .ref 29), (1, .int y11), (2, .int y2), (3, .int y9), (4, .int y12)]) (st2 := [.int 0]) rfl ?_
                      refine aw_sub [0, 1, 2, 3, 4] rfl ?_
                      have h := ok_r h
                      exact h
                    · have h := ok_f hc h
                      refine aw_run tTX6_round 2 (pc2 := 63) (L2 := [(0, .ref 29), (1, .int y11), (2, .int y2), (3, .int y9), (4, .int y12)]) (st2 := [.int y2, .int y12]) rfl ?_
                      refine aw_icmp_eq tTX6_round rfl 83 66 rfl rfl (fun hc => ?_) (fun hc => ?_)
                      · have h := ok_t hc h
                        refine aw_run tTX6_round 1 (pc2 := 84) (L2 := [(0, .ref 29), (1, .int y11), (2, .int y2), (3, .int y9), (4, .int y12)]) (st2 := [.int 0]) rfl ?_
                        refine aw_sub [0, 1, 2, 3, 4] rfl ?_
                        have h := ok_r h
                        exact h
                      · have h := ok_f hc h
                        refine aw_run tTX6_round 2 (pc2 := 69) (L2 := [(0, .ref 29), (1, .int y11), (2, .int y2), (3, .int y9), (4, .int y12)]) (st2 := [.int y12, .ref 29]) rfl ?_
                        obtain ⟨r18, er18, h⟩ := ok_b h
                        refine aw_cV tTX6_round rfl 72 rfl (M' := MX6_mayRob) (av := [.int y12]) (rest := []) rfl lkX6_161 hMX6_mayRob rfl (w_29 hS) ⟨_, _, rfl⟩ (s_X6_mayRob hS er18) ⟨rfl, rfl, ⟨by decide, by decide⟩, by decide, by decide⟩ (Nat.le_of_ble_eq_true rfl) 46 (wf_len hS) rfl [.int r18] rfl ?_
                        refine aw_run tTX6_round 1 (pc2 := 73) (L2 := [(0, .ref 29), (1, .int y11), (2, .int y2), (3, .int y9), (4, .int y12)]) (st2 := [.int y2, .int r18]) rfl ?_
                        obtain ⟨r19, er19, h⟩ := ok_b h
                        refine aw_cS tTX6_round rfl 76 rfl (M' := MX6_has) (av := [.int r18, .int y2]) (rest := []) rfl lkX6_70 hMX6_has rfl (s_X6_has hS er19) ⟨rfl, rfl, ⟨by decide, by decide⟩, by decide, by decide⟩ (Nat.le_of_ble_eq_true rfl) 46 (wf_len hS) rfl [.int r19] rfl ?_
                        refine aw_if_eq tTX6_round rfl 83 79 rfl rfl (fun hc => ?_) (fun hc => ?_)
                        · have h := ok_t hc h
                          refine aw_run tTX6_round 1 (pc2 := 84) (L2 := [(0, .ref 29), (1, .int y11), (2, .int y2), (3, .int y9), (4, .int y12)]) (st2 := [.int 0]) rfl ?_
                          refine aw_sub [0, 1, 2, 3, 4] rfl ?_
                          have h := ok_r h
                          exact h
                        · have h := ok_f hc h
                          refine aw_run tTX6_round 2 (pc2 := 84) (L2 := [(0, .ref 29), (1, .int y11), (2, .int y2), (3, .int y9), (4, .int y12)]) (st2 := [.int 1]) rfl ?_
                          refine aw_sub [0, 1, 2, 3, 4] rfl ?_
                          have h := ok_r h
                          exact h
theorem s_X6_round {g : Nat → Option Nat} {S : List SC} (hS : Wf g S) {σ : St}  {r : Int32 × St} (e : f_X6_round  σ = some r) : Fn MX6_round rmX6_round [.ref 29] S σ (some (.int r.1)) r.2 := Sp.of (by decide) (Nat.le_of_ble_eq_true rfl) (t_X6_round hS  ⟨r, e, rfl, rfl, rfl⟩)
def l_X6_chain_34 (a2 : Int32) (r3 : St) (y4 : Int32) (y5 : Int32) : Option ((Int32 × Int32) ⊕ (Int32)) := if 64 ≤ y5 then (some (.inr y4)) else (gi (((6 : Int32) * y5) + a2) 384 (Option.bind (α := Int32) (if (r3 41 (((6 : Int32) * y5) + a2).toNatClampNeg) = 0 then (some y4) else (Option.bind (f_X6_bits y5) (fun r8 => if r8 ≤ y4 then (some y4) else (Option.bind (f_X6_bits y5) (fun r9 => some r9))))) (fun (j7 : Int32) => some (.inl (j7, y5 + 1)))))
def f_X6_chain (a1 : Int32) (a2 : Int32) (σ : St) : Option (Int32 × St) := Option.bind (f_X6_isThere a1 σ) (fun r1 => if r1 = 0 then (some (((-1 : Int32), σ))) else (Option.bind (f_X6_isThere a2 σ) (fun r2 => if r2 = 0 then (some (((-1 : Int32), σ))) else (if ¬ a1 = a2 then (Option.bind (f_X6_layChains a1 σ) (fun r3 => Option.bind (loop (fun s : Int32 × Int32 => l_X6_chain_34 a2 r3 s.1 s.2) 400 ((-6 : Int32), 0)) (fun (z6 : Int32) => some ((z6, r3))))) else (some (((-1 : Int32), σ)))))))
set_option maxHeartbeats 4000000 in
set_option maxRecDepth 20000 in
theorem t_X6_chain {g : Nat → Option Nat} {S : List SC} (hS : Wf g S) {σ : St} {Q : QT} (a1 : Int32) (a2 : Int32) (h : ok (f_X6_chain a1 a2 σ) (fun r => Q (some (.int r.1)) S r.2)) : AW MX6_chain E0 rmX6_chain 0 0 Q 0 0 S σ 0 [(0, .ref 29), (1, .int a1), (2, .int a2)] [] := by
  unfold f_X6_chain at h
  refine aw_run tTX6_chain 2 (pc2 := 2) (L2 := [(0, .ref 29), (1, .int a1), (2, .int a2)]) (st2 := [.int a1, .ref 29]) rfl ?_
  obtain ⟨r1, er1, h⟩ := ok_b h
  refine aw_cV tTX6_chain rfl 5 rfl (M' := MX6_isThere) (av := [.int a1]) (rest := []) rfl lkX6_78 hMX6_isThere rfl (w_29 hS) ⟨_, _, rfl⟩ (s_X6_isThere hS er1) ⟨rfl, rfl, ⟨by decide, by decide⟩, by decide, by decide⟩ (Nat.le_of_ble_eq_true rfl) 46 (wf_len hS) rfl [.int r1] rfl ?_
  refine aw_if_eq tTX6_chain rfl 21 8 rfl rfl (fun hc => ?_) (fun hc => ?_)
  · have h := ok_t hc h
    refine aw_run tTX6_chain 1 (pc2 := 22) (L2 := [(0, .ref 29), (1, .int a1), (2, .int a2)]) (st2 := [.int (-1 : Int32)]) rfl ?_
    have h := ok_r h
    exact aw_ir tTX6_chain rfl rfl rfl (Nat.le_refl _) (Nat.le_refl _) h
  · have h := ok_f hc h
    refine aw_run tTX6_chain 2 (pc2 := 10) (L2 := [(0, .ref 29), (1, .int a1), (2, .int a2)]) (st2 := [.int a2, .ref 29]) rfl ?_
    obtain ⟨r2, er2, h⟩ := ok_b h
    refine aw_cV tTX6_chain rfl 13 rfl (M' := MX6_isThere) (av := [.int a2]) (rest := []) rfl lkX6_78 hMX6_isThere rfl (w_29 hS) ⟨_, _, rfl⟩ (s_X6_isThere hS er2) ⟨rfl, rfl, ⟨by decide, by decide⟩, by decide, by decide⟩ (Nat.le_of_ble_eq_true rfl) 46 (wf_len hS) rfl [.int r2] rfl ?_
    refine aw_if_eq tTX6_chain rfl 21 16 rfl rfl (fun hc => ?_) (fun hc => ?_)
    · have h := ok_t hc h
      refine aw_run tTX6_chain 1 (pc2 := 22) (L2 := [(0, .ref 29), (1, .int a1), (2, .int a2)]) (st2 := [.int (-1 : Int32)]) rfl ?_
      have h := ok_r h
      exact aw_ir tTX6_chain rfl rfl rfl (Nat.le_refl _) (Nat.le_refl _) h
    · have h := ok_f hc h
      refine aw_run tTX6_chain 2 (pc2 := 18) (L2 := [(0, .ref 29), (1, .int a1), (2, .int a2)]) (st2 := [.int a2, .int a1]) rfl ?_
      refine aw_icmp_ne tTX6_chain rfl 23 21 rfl rfl (fun hc => ?_) (fun hc => ?_)
      · have h := ok_t hc h
        refine aw_run tTX6_chain 2 (pc2 := 25) (L2 := [(0, .ref 29), (1, .int a1), (2, .int a2)]) (st2 := [.int a1, .ref 29]) rfl ?_
        obtain ⟨r3, er3, h⟩ := ok_b h
        refine aw_cV tTX6_chain rfl 28 rfl (M' := MX6_layChains) (av := [.int a1]) (rest := []) rfl lkX6_171 hMX6_layChains rfl (w_29 hS) ⟨_, _, rfl⟩ (s_X6_layChains hS er3) ⟨rfl, rfl, ⟨by decide, by decide⟩, by decide, by decide⟩ (Nat.le_of_ble_eq_true rfl) 46 (wf_len hS) rfl [] rfl ?_
        refine aw_run tTX6_chain 4 (pc2 := 34) (L2 := [(4, .int 0), (3, .int (-6 : Int32)), (0, .ref 29), (1, .int a1), (2, .int a2)]) (st2 := []) rfl ?_
        refine ok_use (P := fun z6 : Int32 => AW MX6_chain E0 rmX6_chain 0 0 Q 0 0 S r3 81 [(3, .int z6)] []) (ok_b h) (fun z6 h => ?_) (fun h => ?_)
        · refine aw_run tTX6_chain 1 (pc2 := 82) (L2 := [(3, .int z6)]) (st2 := [.int z6]) rfl ?_
          have h := ok_r h
          exact aw_ir tTX6_chain rfl rfl rfl (Nat.le_refl _) (Nat.le_refl _) h
        · refine aw_sub [2, 4, 1, 0] rfl ?_
          refine loop_P (P := fun s : Int32 × Int32 => AW MX6_chain E0 rmX6_chain 0 0 Q 0 0 S r3 34 [(0, .ref 29), (2, .int a2), (3, .int s.1), (4, .int s.2)] []) (fun s h => ?_) _ _ h
          obtain ⟨y4, y5⟩ := s
          replace h : ok (l_X6_chain_34 a2 r3 y4 y5) _ := h
          unfold l_X6_chain_34 at h
          show AW MX6_chain E0 rmX6_chain 0 0 Q 0 0 S r3 34 [(0, .ref 29), (2, .int a2), (3, .int y4), (4, .int y5)] []
          refine aw_run tTX6_chain 2 (pc2 := 38) (L2 := [(0, .ref 29), (2, .int a2), (3, .int y4), (4, .int y5)]) (st2 := [.int 64, .int y5]) rfl ?_
          refine aw_icmp_ge tTX6_chain rfl 81 41 rfl rfl (fun hc => ?_) (fun hc => ?_)
          · have h := ok_t hc h
            refine aw_sub [2] rfl ?_
            have h := ok_r h
            exact h
          · have h := ok_f hc h
            refine aw_run tTX6_chain 1 (pc2 := 42) (L2 := [(0, .ref 29), (2, .int a2), (3, .int y4), (4, .int y5)]) (st2 := [.ref 29]) rfl ?_
            refine aw_getR tTX6_chain rfl 45 rfl (w_29 hS) rfl flX6_47 ?_
            refine aw_run tTX6_chain 5 (pc2 := 52) (L2 := [(0, .ref 29), (2, .int a2), (3, .int y4), (4, .int y5)]) (st2 := [.int (((6 : Int32) * y5) + a2), .ref 41]) rfl ?_
            obtain ⟨hi, h⟩ := ok_gi h
            refine aw_zald tTX6_chain rfl 53 rfl (w_41 hS) hi ?_
            refine ok_use (P := fun j7 : Int32 => AW MX6_chain E0 rmX6_chain 0 0 Q 0 0 S r3 74 [(0, .ref 29), (2, .int a2), (4, .int y5)] [.int j7]) (ok_b h) (fun j7 h => ?_) (fun h => ?_)
            · refine aw_run tTX6_chain 3 (pc2 := 34) (L2 := [(4, .int (y5 + 1)), (3, .int j7), (0, .ref 29), (2, .int a2)]) (st2 := []) rfl ?_
              refine aw_sub [2, 3, 1, 0] rfl ?_
              have h := ok_r h
              exact h
            · refine aw_if_eq tTX6_chain rfl 73 56 rfl rfl (fun hc => ?_) (fun hc => ?_)
              · have h := ok_t hc h
                refine aw_run tTX6_chain 1 (pc2 := 74) (L2 := [(0, .ref 29), (2, .int a2), (3, .int y4), (4, .int y5)]) (st2 := [.int y4]) rfl ?_
                refine aw_sub [0, 1, 3] rfl ?_
                have h := ok_r h
                exact h
              · have h := ok_f hc h
                refine aw_run tTX6_chain 1 (pc2 := 58) (L2 := [(0, .ref 29), (2, .int a2), (3, .int y4), (4, .int y5)]) (st2 := [.int y5]) rfl ?_
                obtain ⟨r8, er8, h⟩ := ok_b h
                refine aw_cS tTX6_chain rfl 61 rfl (M' := MX6_bits) (av := [.int y5]) (rest := []) rfl lkX6_74 hMX6_bits rfl (s_X6_bits hS er8) ⟨rfl, rfl, ⟨by decide, by decide⟩, by decide, by decide⟩ (Nat.le_of_ble_eq_true rfl) 46 (wf_len hS) rfl [.int r8] rfl ?_
                refine aw_run tTX6_chain 1 (pc2 := 62) (L2 := [(0, .ref 29), (2, .int a2), (3, .int y4), (4, .int y5)]) (st2 := [.int y4, .int r8]) rfl ?_
                refine aw_icmp_le tTX6_chain rfl 73 65 rfl rfl (fun hc => ?_) (fun hc => ?_)
                · have h := ok_t hc h
                  refine aw_run tTX6_chain 1 (pc2 := 74) (L2 := [(0, .ref 29), (2, .int a2), (3, .int y4), (4, .int y5)]) (st2 := [.int y4]) rfl ?_
                  refine aw_sub [0, 1, 3] rfl ?_
                  have h := ok_r h
                  exact h
                · have h := ok_f hc h
                  refine aw_run tTX6_chain 1 (pc2 := 67) (L2 := [(0, .ref 29), (2, .int a2), (3, .int y4), (4, .int y5)]) (st2 := [.int y5]) rfl ?_
                  obtain ⟨r9, er9, h⟩ := ok_b h
                  refine aw_cS tTX6_chain rfl 70 rfl (M' := MX6_bits) (av := [.int y5]) (rest := []) rfl lkX6_74 hMX6_bits rfl (s_X6_bits hS er9) ⟨rfl, rfl, ⟨by decide, by decide⟩, by decide, by decide⟩ (Nat.le_of_ble_eq_true rfl) 46 (wf_len hS) rfl [.int r9] rfl ?_
                  refine aw_run tTX6_chain 1 (pc2 := 74) (L2 := [(0, .ref 29), (2, .int a2), (3, .int y4), (4, .int y5)]) (st2 := [.int r9]) rfl ?_
                  refine aw_sub [0, 1, 3] rfl ?_
                  have h := ok_r h
                  exact h
      · have h := ok_fn hc h
        refine aw_run tTX6_chain 1 (pc2 := 22) (L2 := [(0, .ref 29), (1, .int a1), (2, .int a2)]) (st2 := [.int (-1 : Int32)]) rfl ?_
        have h := ok_r h
        exact aw_ir tTX6_chain rfl rfl rfl (Nat.le_refl _) (Nat.le_refl _) h
theorem s_X6_chain {g : Nat → Option Nat} {S : List SC} (hS : Wf g S) {σ : St} {a1 : Int32} {a2 : Int32} {r : Int32 × St} (e : f_X6_chain a1 a2 σ = some r) : Fn MX6_chain rmX6_chain [.ref 29, .int a1, .int a2] S σ (some (.int r.1)) r.2 := Sp.of (by decide) (Nat.le_of_ble_eq_true rfl) (t_X6_chain hS a1 a2 ⟨r, e, rfl, rfl, rfl⟩)
def f_X6_exchange (a1 : Int32) (a2 : Int32) (a3 : Int32) (σ : St) : Option (Int32) := Option.bind (f_X6_isThere a1 σ) (fun r1 => if r1 = 0 then (some ((-1 : Int32))) else (Option.bind (f_X6_isThere a2 σ) (fun r2 => if r2 = 0 then (some ((-1 : Int32))) else (Option.bind (f_X6_isThere a3 σ) (fun r3 => if r3 = 0 then (some ((-1 : Int32))) else (if a1 = a2 then (some ((-1 : Int32))) else (if a1 = a3 then (some ((-1 : Int32))) else (if ¬ a2 = a3 then (gi a1 6 (gi a3 6 (Option.bind (α := Int32) (if (σ 32 a3.toNatClampNeg) ≤ (σ 30 a1.toNatClampNeg) then (gi a3 6 (some (σ 32 a3.toNatClampNeg))) else (gi a1 6 (some (σ 30 a1.toNatClampNeg)))) (fun (j4 : Int32) => gi a3 6 (nm ((σ 32 a3.toNatClampNeg) - j4) (fun (x5 : Int32) => gi a2 6 (if x5 ≤ (σ 30 a2.toNatClampNeg) then (some (x5)) else (gi a2 6 (some (σ 30 a2.toNatClampNeg)))))))))) else (some ((-1 : Int32)))))))))))
set_option maxHeartbeats 4000000 in
set_option maxRecDepth 20000 in
theorem t_X6_exchange {g : Nat → Option Nat} {S : List SC} (hS : Wf g S) {σ : St} {Q : QT} (a1 : Int32) (a2 : Int32) (a3 : Int32) (h : ok (f_X6_exchange a1 a2 a3 σ) (fun r => Q (some (.int r)) S σ)) : AW MX6_exchange E0 rmX6_exchange 0 0 Q 0 0 S σ 0 [(0, .ref 29), (1, .int a1), (2, .int a2), (3, .int a3)] [] := by
  unfold f_X6_exchange at h
  refine aw_run tTX6_exchange 2 (pc2 := 2) (L2 := [(0, .ref 29), (1, .int a1), (2, .int a2), (3, .int a3)]) (st2 := [.int a1, .ref 29]) rfl ?_
  obtain ⟨r1, er1, h⟩ := ok_b h
  refine aw_cV tTX6_exchange rfl 5 rfl (M' := MX6_isThere) (av := [.int a1]) (rest := []) rfl lkX6_78 hMX6_isThere rfl (w_29 hS) ⟨_, _, rfl⟩ (s_X6_isThere hS er1) ⟨rfl, rfl, ⟨by decide, by decide⟩, by decide, by decide⟩ (Nat.le_of_ble_eq_true rfl) 46 (wf_len hS) rfl [.int r1] rfl ?_
  refine aw_if_eq tTX6_exchange rfl 39 8 rfl rfl (fun hc => ?_) (fun hc => ?_)
  · have h := ok_t hc h
    refine aw_run tTX6_exchange 1 (pc2 := 40) (L2 := [(0, .ref 29), (1, .int a1), (2, .int a2), (3, .int a3)]) (st2 := [.int (-1 : Int32)]) rfl ?_
    have h := ok_r h
    exact aw_ir tTX6_exchange rfl rfl rfl (Nat.le_refl _) (Nat.le_refl _) h
  · have h := ok_f hc h
    refine aw_run tTX6_exchange 2 (pc2 := 10) (L2 := [(0, .ref 29), (1, .int a1), (2, .int a2), (3, .int a3)]) (st2 := [.int a2, .ref 29]) rfl ?_
    obtain ⟨r2, er2, h⟩ := ok_b h
    refine aw_cV tTX6_exchange rfl 13 rfl (M' := MX6_isThere) (av := [.int a2]) (rest := []) rfl lkX6_78 hMX6_isThere rfl (w_29 hS) ⟨_, _, rfl⟩ (s_X6_isThere hS er2) ⟨rfl, rfl, ⟨by decide, by decide⟩, by decide, by decide⟩ (Nat.le_of_ble_eq_true rfl) 46 (wf_len hS) rfl [.int r2] rfl ?_
    refine aw_if_eq tTX6_exchange rfl 39 16 rfl rfl (fun hc => ?_) (fun hc => ?_)
    · have h := ok_t hc h
      refine aw_run tTX6_exchange 1 (pc2 := 40) (L2 := [(0, .ref 29), (1, .int a1), (2, .int a2), (3, .int a3)]) (st2 := [.int (-1 : Int32)]) rfl ?_
      have h := ok_r h
      exact aw_ir tTX6_exchange rfl rfl rfl (Nat.le_refl _) (Nat.le_refl _) h
    · have h := ok_f hc h
      refine aw_run tTX6_exchange 2 (pc2 := 18) (L2 := [(0, .ref 29), (1, .int a1), (2, .int a2), (3, .int a3)]) (st2 := [.int a3, .ref 29]) rfl ?_
      obtain ⟨r3, er3, h⟩ := ok_b h
      refine aw_cV tTX6_exchange rfl 21 rfl (M' := MX6_isThere) (av := [.int a3]) (rest := []) rfl lkX6_78 hMX6_isThere rfl (w_29 hS) ⟨_, _, rfl⟩ (s_X6_isThere hS er3) ⟨rfl, rfl, ⟨by decide, by decide⟩, by decide, by decide⟩ (Nat.le_of_ble_eq_true rfl) 46 (wf_len hS) rfl [.int r3] rfl ?_
      refine aw_if_eq tTX6_exchange rfl 39 24 rfl rfl (fun hc => ?_) (fun hc => ?_)
      · have h := ok_t hc h
        refine aw_run tTX6_exchange 1 (pc2 := 40) (L2 := [(0, .ref 29), (1, .int a1), (2, .int a2), (3, .int a3)]) (st2 := [.int (-1 : Int32)]) rfl ?_
        have h := ok_r h
        exact aw_ir tTX6_exchange rfl rfl rfl (Nat.le_refl _) (Nat.le_refl _) h
      · have h := ok_f hc h
        refine aw_run tTX6_exchange 2 (pc2 := 26) (L2 := [(0, .ref 29), (1, .int a1), (2, .int a2), (3, .int a3)]) (st2 := [.int a2, .int a1]) rfl ?_
        refine aw_icmp_eq tTX6_exchange rfl 39 29 rfl rfl (fun hc => ?_) (fun hc => ?_)
        · have h := ok_t hc h
          refine aw_run tTX6_exchange 1 (pc2 := 40) (L2 := [(0, .ref 29), (1, .int a1), (2, .int a2), (3, .int a3)]) (st2 := [.int (-1 : Int32)]) rfl ?_
          have h := ok_r h
          exact aw_ir tTX6_exchange rfl rfl rfl (Nat.le_refl _) (Nat.le_refl _) h
        · have h := ok_f hc h
          refine aw_run tTX6_exchange 2 (pc2 := 31) (L2 := [(0, .ref 29), (1, .int a1), (2, .int a2), (3, .int a3)]) (st2 := [.int a3, .int a1]) rfl ?_
          refine aw_icmp_eq tTX6_exchange rfl 39 34 rfl rfl (fun hc => ?_) (fun hc => ?_)
          · have h := ok_t hc h
            refine aw_run tTX6_exchange 1 (pc2 := 40) (L2 := [(0, .ref 29), (1, .int a1), (2, .int a2), (3, .int a3)]) (st2 := [.int (-1 : Int32)]) rfl ?_
            have h := ok_r h
            exact aw_ir tTX6_exchange rfl rfl rfl (Nat.le_refl _) (Nat.le_refl _) h
          · have h := ok_f hc h
            refine aw_run tTX6_exchange 2 (pc2 := 36) (L2 := [(0, .ref 29), (1, .int a1), (2, .int a2), (3, .int a3)]) (st2 := [.int a3, .int a2]) rfl ?_
            refine aw_icmp_ne tTX6_exchange rfl 41 39 rfl rfl (fun hc => ?_) (fun hc => ?_)
            · have h := ok_t hc h
              refine aw_run tTX6_exchange 1 (pc2 := 42) (L2 := [(0, .ref 29), (1, .int a1), (2, .int a2), (3, .int a3)]) (st2 := [.ref 29]) rfl ?_
              refine aw_getR tTX6_exchange rfl 45 rfl (w_29 hS) rfl flX6_7 ?_
              refine aw_run tTX6_exchange 1 (pc2 := 46) (L2 := [(0, .ref 29), (1, .int a1), (2, .int a2), (3, .int a3)]) (st2 := [.int a1, .ref 30]) rfl ?_
              obtain ⟨hi, h⟩ := ok_gi h
              refine aw_iald tTX6_exchange rfl 47 rfl (w_30 hS) hi ?_
              refine aw_run tTX6_exchange 1 (pc2 := 48) (L2 := [(0, .ref 29), (1, .int a1), (2, .int a2), (3, .int a3)]) (st2 := [.ref 29, .int (σ 30 a1.toNatClampNeg)]) rfl ?_
              refine aw_getR tTX6_exchange rfl 51 rfl (w_29 hS) rfl flX6_20 ?_
              refine aw_run tTX6_exchange 1 (pc2 := 52) (L2 := [(0, .ref 29), (1, .int a1), (2, .int a2), (3, .int a3)]) (st2 := [.int a3, .ref 32, .int (σ 30 a1.toNatClampNeg)]) rfl ?_
              obtain ⟨hi, h⟩ := ok_gi h
              refine aw_iald tTX6_exchange rfl 53 rfl (w_32 hS) hi ?_
              refine ok_use (P := fun j4 : Int32 => AW MX6_exchange E0 rmX6_exchange 0 0 Q 0 0 S σ 71 [(0, .ref 29), (2, .int a2), (3, .int a3)] [.int j4]) (ok_b h) (fun j4 h => ?_) (fun h => ?_)
              · refine aw_run tTX6_exchange 2 (pc2 := 74) (L2 := [(4, .int j4), (0, .ref 29), (2, .int a2), (3, .int a3)]) (st2 := [.ref 29]) rfl ?_
                refine aw_getR tTX6_exchange rfl 77 rfl (w_29 hS) rfl flX6_20 ?_
                refine aw_run tTX6_exchange 1 (pc2 := 78) (L2 := [(4, .int j4), (0, .ref 29), (2, .int a2), (3, .int a3)]) (st2 := [.int a3, .ref 32]) rfl ?_
                obtain ⟨hi, h⟩ := ok_gi h
                refine aw_iald tTX6_exchange rfl 79 rfl (w_32 hS) hi ?_
                refine aw_run tTX6_exchange 2 (pc2 := 82) (L2 := [(4, .int j4), (0, .ref 29), (2, .int a2), (3, .int a3)]) (st2 := [.int ((σ 32 a3.toNatClampNeg) - j4)]) rfl ?_
                refine aw_nm (fun x5 ex5 => ?_)
                have h := ok_nm h x5 ex5
                refine aw_run tTX6_exchange 1 (pc2 := 84) (L2 := [(5, .int x5), (4, .int j4), (0, .ref 29), (2, .int a2), (3, .int a3)]) (st2 := []) rfl ?_
                refine aw_run tTX6_exchange 1 (pc2 := 85) (L2 := [(5, .int x5), (4, .int j4), (0, .ref 29), (2, .int a2), (3, .int a3)]) (st2 := [.ref 29]) rfl ?_
                refine aw_getR tTX6_exchange rfl 88 rfl (w_29 hS) rfl flX6_7 ?_
                refine aw_run tTX6_exchange 1 (pc2 := 89) (L2 := [(5, .int x5), (4, .int j4), (0, .ref 29), (2, .int a2), (3, .int a3)]) (st2 := [.int a2, .ref 30]) rfl ?_
                obtain ⟨hi, h⟩ := ok_gi h
                refine aw_iald tTX6_exchange rfl 90 rfl (w_30 hS) hi ?_
                refine aw_run tTX6_exchange 1 (pc2 := 92) (L2 := [(5, .int x5), (4, .int j4), (0, .ref 29), (2, .int a2), (3, .int a3)]) (st2 := [.int x5, .int (σ 30 a2.toNatClampNeg)]) rfl ?_
                refine aw_icmp_ge tTX6_exchange rfl 104 95 rfl rfl (fun hc => ?_) (fun hc => ?_)
                · have h := ok_t hc h
                  refine aw_run tTX6_exchange 1 (pc2 := 106) (L2 := [(5, .int x5), (4, .int j4), (0, .ref 29), (2, .int a2), (3, .int a3)]) (st2 := [.int x5]) rfl ?_
                  have h := ok_r h
                  exact aw_ir tTX6_exchange rfl rfl rfl (Nat.le_refl _) (Nat.le_refl _) h
                · have h := ok_f hc h
                  refine aw_run tTX6_exchange 1 (pc2 := 96) (L2 := [(5, .int x5), (4, .int j4), (0, .ref 29), (2, .int a2), (3, .int a3)]) (st2 := [.ref 29]) rfl ?_
                  refine aw_getR tTX6_exchange rfl 99 rfl (w_29 hS) rfl flX6_7 ?_
                  refine aw_run tTX6_exchange 1 (pc2 := 100) (L2 := [(5, .int x5), (4, .int j4), (0, .ref 29), (2, .int a2), (3, .int a3)]) (st2 := [.int a2, .ref 30]) rfl ?_
                  obtain ⟨hi, h⟩ := ok_gi h
                  refine aw_iald tTX6_exchange rfl 101 rfl (w_30 hS) hi ?_
                  refine aw_run tTX6_exchange 1 (pc2 := 106) (L2 := [(5, .int x5), (4, .int j4), (0, .ref 29), (2, .int a2), (3, .int a3)]) (st2 := [.int (σ 30 a2.toNatClampNeg)]) rfl ?_
                  have h := ok_r h
                  exact aw_ir tTX6_exchange rfl rfl rfl (Nat.le_refl _) (Nat.le_refl _) h
              · refine aw_icmp_ge tTX6_exchange rfl 65 56 rfl rfl (fun hc => ?_) (fun hc => ?_)
                · have h := ok_t hc h
                  refine aw_run tTX6_exchange 1 (pc2 := 66) (L2 := [(0, .ref 29), (1, .int a1), (2, .int a2), (3, .int a3)]) (st2 := [.ref 29]) rfl ?_
                  refine aw_getR tTX6_exchange rfl 69 rfl (w_29 hS) rfl flX6_20 ?_
                  refine aw_run tTX6_exchange 1 (pc2 := 70) (L2 := [(0, .ref 29), (1, .int a1), (2, .int a2), (3, .int a3)]) (st2 := [.int a3, .ref 32]) rfl ?_
                  obtain ⟨hi, h⟩ := ok_gi h
                  refine aw_iald tTX6_exchange rfl 71 rfl (w_32 hS) hi ?_
                  refine aw_sub [0, 2, 3] rfl ?_
                  have h := ok_r h
                  exact h
                · have h := ok_f hc h
                  refine aw_run tTX6_exchange 1 (pc2 := 57) (L2 := [(0, .ref 29), (1, .int a1), (2, .int a2), (3, .int a3)]) (st2 := [.ref 29]) rfl ?_
                  refine aw_getR tTX6_exchange rfl 60 rfl (w_29 hS) rfl flX6_7 ?_
                  refine aw_run tTX6_exchange 1 (pc2 := 61) (L2 := [(0, .ref 29), (1, .int a1), (2, .int a2), (3, .int a3)]) (st2 := [.int a1, .ref 30]) rfl ?_
                  obtain ⟨hi, h⟩ := ok_gi h
                  refine aw_iald tTX6_exchange rfl 62 rfl (w_30 hS) hi ?_
                  refine aw_run tTX6_exchange 1 (pc2 := 71) (L2 := [(0, .ref 29), (1, .int a1), (2, .int a2), (3, .int a3)]) (st2 := [.int (σ 30 a1.toNatClampNeg)]) rfl ?_
                  refine aw_sub [0, 2, 3] rfl ?_
                  have h := ok_r h
                  exact h
            · have h := ok_fn hc h
              refine aw_run tTX6_exchange 1 (pc2 := 40) (L2 := [(0, .ref 29), (1, .int a1), (2, .int a2), (3, .int a3)]) (st2 := [.int (-1 : Int32)]) rfl ?_
              have h := ok_r h
              exact aw_ir tTX6_exchange rfl rfl rfl (Nat.le_refl _) (Nat.le_refl _) h
theorem s_X6_exchange {g : Nat → Option Nat} {S : List SC} (hS : Wf g S) {σ : St} {a1 : Int32} {a2 : Int32} {a3 : Int32} {r : Int32} (e : f_X6_exchange a1 a2 a3 σ = some r) : Fn MX6_exchange rmX6_exchange [.ref 29, .int a1, .int a2, .int a3] S σ (some (.int r)) σ := Sp.of (by decide) (Nat.le_of_ble_eq_true rfl) (t_X6_exchange hS a1 a2 a3 ⟨r, e, rfl, rfl, rfl⟩)
def f_X6_seen (a1 : Int32) (a2 : Int32) (σ : St) : Option (Int32 × St) := Option.bind (f_X6_isThere a1 σ) (fun r1 => if ¬ r1 = 0 then (Option.bind (f_X6_in a2 0 99) (fun r2 => if ¬ r2 = 0 then (if ¬ (σ 29 5) = 8 then (gi ((2 : Int32) * (σ 29 5)) 16 (nm (up2 σ 31 ((2 : Int32) * (σ 29 5)).toNatClampNeg a1) (fun σ3 => gi (((2 : Int32) * (σ3 29 5)) + 1) 16 (nm (up2 σ3 31 (((2 : Int32) * (σ3 29 5)) + 1).toNatClampNeg a2) (fun σ4 => nm (up2 σ4 29 5 ((σ4 29 5) + 1)) (fun σ5 => some ((σ5 29 5, σ5)))))))) else (some (((-4 : Int32), σ)))) else (some (((-2 : Int32), σ))))) else (some (((-1 : Int32), σ))))
set_option maxHeartbeats 4000000 in
set_option maxRecDepth 20000 in
theorem t_X6_seen {g : Nat → Option Nat} {S : List SC} (hS : Wf g S) {σ : St} {Q : QT} (a1 : Int32) (a2 : Int32) (h : ok (f_X6_seen a1 a2 σ) (fun r => Q (some (.int r.1)) S r.2)) : AW MX6_seen E0 rmX6_seen 0 0 Q 0 0 S σ 0 [(0, .ref 29), (1, .int a1), (2, .int a2)] [] := by
  unfold f_X6_seen at h
  refine aw_run tTX6_seen 2 (pc2 := 2) (L2 := [(0, .ref 29), (1, .int a1), (2, .int a2)]) (st2 := [.int a1, .ref 29]) rfl ?_
  obtain ⟨r1, er1, h⟩ := ok_b h
  refine aw_cV tTX6_seen rfl 5 rfl (M' := MX6_isThere) (av := [.int a1]) (rest := []) rfl lkX6_78 hMX6_isThere rfl (w_29 hS) ⟨_, _, rfl⟩ (s_X6_isThere hS er1) ⟨rfl, rfl, ⟨by decide, by decide⟩, by decide, by decide⟩ (Nat.le_of_ble_eq_true rfl) 46 (wf_len hS) rfl [.int r1] rfl ?_
  refine aw_if_ne tTX6_seen rfl 10 8 rfl rfl (fun hc => ?_) (fun hc => ?_)
  · have h := ok_t hc h
    refine aw_run tTX6_seen 3 (pc2 := 14) (L2 := [(0, .ref 29), (1, .int a1), (2, .int a2)]) (st2 := [.int 99, .int 0, .int a2]) rfl ?_
    obtain ⟨r2, er2, h⟩ := ok_b h
    refine aw_cS tTX6_seen rfl 17 rfl (M' := MX6_in) (av := [.int a2, .int 0, .int 99]) (rest := []) rfl lkX6_66 hMX6_in rfl (s_X6_in hS er2) ⟨rfl, rfl, ⟨by decide, by decide⟩, by decide, by decide⟩ (Nat.le_of_ble_eq_true rfl) 46 (wf_len hS) rfl [.int r2] rfl ?_
    refine aw_if_ne tTX6_seen rfl 23 20 rfl rfl (fun hc => ?_) (fun hc => ?_)
    · have h := ok_t hc h
      refine aw_run tTX6_seen 1 (pc2 := 24) (L2 := [(0, .ref 29), (1, .int a1), (2, .int a2)]) (st2 := [.ref 29]) rfl ?_
      refine aw_getI tTX6_seen rfl 27 rfl (w_29 hS) rfl flX6_174 ?_
      refine aw_run tTX6_seen 1 (pc2 := 29) (L2 := [(0, .ref 29), (1, .int a1), (2, .int a2)]) (st2 := [.int 8, .int (σ 29 5)]) rfl ?_
      refine aw_icmp_ne tTX6_seen rfl 35 32 rfl rfl (fun hc => ?_) (fun hc => ?_)
      · have h := ok_t hc h
        refine aw_run tTX6_seen 1 (pc2 := 36) (L2 := [(0, .ref 29), (1, .int a1), (2, .int a2)]) (st2 := [.ref 29]) rfl ?_
        refine aw_getR tTX6_seen rfl 39 rfl (w_29 hS) rfl flX6_17 ?_
        refine aw_run tTX6_seen 2 (pc2 := 41) (L2 := [(0, .ref 29), (1, .int a1), (2, .int a2)]) (st2 := [.ref 29, .int 2, .ref 31]) rfl ?_
        refine aw_getI tTX6_seen rfl 44 rfl (w_29 hS) rfl flX6_174 ?_
        refine aw_run tTX6_seen 2 (pc2 := 46) (L2 := [(0, .ref 29), (1, .int a1), (2, .int a2)]) (st2 := [.int a1, .int ((2 : Int32) * (σ 29 5)), .ref 31]) rfl ?_
        obtain ⟨hi, h⟩ := ok_gi h
        refine aw_iast tTX6_seen rfl 47 rfl (w_31 hS) hi ?_
        refine aw_nmS (fun σ3 eσ3 => ?_)
        have h := ok_nm h σ3 eσ3
        refine aw_run tTX6_seen 1 (pc2 := 48) (L2 := [(0, .ref 29), (1, .int a1), (2, .int a2)]) (st2 := [.ref 29]) rfl ?_
        refine aw_getR tTX6_seen rfl 51 rfl (w_29 hS) rfl flX6_17 ?_
        refine aw_run tTX6_seen 2 (pc2 := 53) (L2 := [(0, .ref 29), (1, .int a1), (2, .int a2)]) (st2 := [.ref 29, .int 2, .ref 31]) rfl ?_
        refine aw_getI tTX6_seen rfl 56 rfl (w_29 hS) rfl flX6_174 ?_
        refine aw_run tTX6_seen 4 (pc2 := 60) (L2 := [(0, .ref 29), (1, .int a1), (2, .int a2)]) (st2 := [.int a2, .int (((2 : Int32) * (σ3 29 5)) + 1), .ref 31]) rfl ?_
        obtain ⟨hi, h⟩ := ok_gi h
        refine aw_iast tTX6_seen rfl 61 rfl (w_31 hS) hi ?_
        refine aw_nmS (fun σ4 eσ4 => ?_)
        have h := ok_nm h σ4 eσ4
        refine aw_run tTX6_seen 2 (pc2 := 63) (L2 := [(0, .ref 29), (1, .int a1), (2, .int a2)]) (st2 := [.ref 29, .ref 29]) rfl ?_
        refine aw_getI tTX6_seen rfl 66 rfl (w_29 hS) rfl flX6_174 ?_
        refine aw_run tTX6_seen 2 (pc2 := 68) (L2 := [(0, .ref 29), (1, .int a1), (2, .int a2)]) (st2 := [.int ((σ4 29 5) + 1), .ref 29]) rfl ?_
        refine aw_putI tTX6_seen rfl 71 rfl (w_29 hS) rfl fpX6_174 ?_
        refine aw_nmS (fun σ5 eσ5 => ?_)
        have h := ok_nm h σ5 eσ5
        refine aw_run tTX6_seen 1 (pc2 := 72) (L2 := [(0, .ref 29), (1, .int a1), (2, .int a2)]) (st2 := [.ref 29]) rfl ?_
        refine aw_getI tTX6_seen rfl 75 rfl (w_29 hS) rfl flX6_174 ?_
        have h := ok_r h
        exact aw_ir tTX6_seen rfl rfl rfl (Nat.le_refl _) (Nat.le_refl _) h
      · have h := ok_fn hc h
        refine aw_run tTX6_seen 1 (pc2 := 34) (L2 := [(0, .ref 29), (1, .int a1), (2, .int a2)]) (st2 := [.int (-4 : Int32)]) rfl ?_
        have h := ok_r h
        exact aw_ir tTX6_seen rfl rfl rfl (Nat.le_refl _) (Nat.le_refl _) h
    · have h := ok_fn hc h
      refine aw_run tTX6_seen 1 (pc2 := 22) (L2 := [(0, .ref 29), (1, .int a1), (2, .int a2)]) (st2 := [.int (-2 : Int32)]) rfl ?_
      have h := ok_r h
      exact aw_ir tTX6_seen rfl rfl rfl (Nat.le_refl _) (Nat.le_refl _) h
  · have h := ok_fn hc h
    refine aw_run tTX6_seen 1 (pc2 := 9) (L2 := [(0, .ref 29), (1, .int a1), (2, .int a2)]) (st2 := [.int (-1 : Int32)]) rfl ?_
    have h := ok_r h
    exact aw_ir tTX6_seen rfl rfl rfl (Nat.le_refl _) (Nat.le_refl _) h
theorem s_X6_seen {g : Nat → Option Nat} {S : List SC} (hS : Wf g S) {σ : St} {a1 : Int32} {a2 : Int32} {r : Int32 × St} (e : f_X6_seen a1 a2 σ = some r) : Fn MX6_seen rmX6_seen [.ref 29, .int a1, .int a2] S σ (some (.int r.1)) r.2 := Sp.of (by decide) (Nat.le_of_ble_eq_true rfl) (t_X6_seen hS a1 a2 ⟨r, e, rfl, rfl, rfl⟩)
def f_X6_forget  (σ : St) : Option (Int32 × St) := nm (up2 σ 29 5 0) (fun σ1 => some ((σ 29 5, σ1)))
set_option maxHeartbeats 4000000 in
set_option maxRecDepth 20000 in
theorem t_X6_forget {g : Nat → Option Nat} {S : List SC} (hS : Wf g S) {σ : St} {Q : QT}  (h : ok (f_X6_forget  σ) (fun r => Q (some (.int r.1)) S r.2)) : AW MX6_forget E0 rmX6_forget 0 0 Q 0 0 S σ 0 [(0, .ref 29)] [] := by
  unfold f_X6_forget at h
  refine aw_run tTX6_forget 1 (pc2 := 1) (L2 := [(0, .ref 29)]) (st2 := [.ref 29]) rfl ?_
  refine aw_getI tTX6_forget rfl 4 rfl (w_29 hS) rfl flX6_174 ?_
  refine aw_run tTX6_forget 3 (pc2 := 7) (L2 := [(1, .int (σ 29 5)), (0, .ref 29)]) (st2 := [.int 0, .ref 29]) rfl ?_
  refine aw_putI tTX6_forget rfl 10 rfl (w_29 hS) rfl fpX6_174 ?_
  refine aw_nmS (fun σ1 eσ1 => ?_)
  have h := ok_nm h σ1 eσ1
  refine aw_run tTX6_forget 1 (pc2 := 11) (L2 := [(1, .int (σ 29 5)), (0, .ref 29)]) (st2 := [.int (σ 29 5)]) rfl ?_
  have h := ok_r h
  exact aw_ir tTX6_forget rfl rfl rfl (Nat.le_refl _) (Nat.le_refl _) h
theorem s_X6_forget {g : Nat → Option Nat} {S : List SC} (hS : Wf g S) {σ : St}  {r : Int32 × St} (e : f_X6_forget  σ = some r) : Fn MX6_forget rmX6_forget [.ref 29] S σ (some (.int r.1)) r.2 := Sp.of (by decide) (Nat.le_of_ble_eq_true rfl) (t_X6_forget hS  ⟨r, e, rfl, rfl, rfl⟩)
def l_X6_tryBoots_14  (y2 : Int32) (y3 : Int32) (y4 : Int32) (y5 : Int32) (σ6 : St) : Option ((Int32 × Int32 × Int32 × Int32 × St) ⊕ (Int32 × Int32 × St)) := if 6 ≤ y5 then (some (.inr (y3, y4, σ6))) else (if y4 = 0 then (some (.inr (y3, y4, σ6))) else (Option.bind (α := Int32 × Int32 × St) (if 6 ≤ (jrem y2 7) then (some (y3, y4, σ6)) else (Option.bind (f_X6_whyNot y5 (jrem y2 7) σ6) (fun r9 => Option.bind (α := Int32) (if ¬ r9 = 0 then (some 0) else (some 1)) (fun (j10 : Int32) => if j10 = 0 then (some (y3, j10, σ6)) else (Option.bind (f_X6_rob y5 (jrem y2 7) σ6) (fun r11 => nm (y3 ||| ((1 : Int32) <<< (y5 &&& 31))) (fun (x12 : Int32) => some (x12, j10, r11)))))))) (fun (j8 : Int32 × Int32 × St) => some (.inl (y2 / 7, j8.1, j8.2.1, y5 + 1, j8.2.2)))))
def l_X6_tryBoots_91 (z7 : Int32 × Int32 × St) (y13 : Int32) (y14 : Int32) : Option ((Int32 × Int32) ⊕ (Int32)) := if (z7.2.2 29 5) ≤ y14 then (some (.inr y13)) else (if y13 = 0 then (some (.inr y13)) else (gi ((2 : Int32) * y14) 16 (Option.bind (f_X6_has (z7.2.2 29 0) (z7.2.2 31 ((2 : Int32) * y14).toNatClampNeg)) (fun r16 => Option.bind (α := Int32) (if r16 = 0 then (some 0) else (gi ((2 : Int32) * y14) 16 (gi (z7.2.2 31 ((2 : Int32) * y14).toNatClampNeg) 6 (gi (((2 : Int32) * y14) + 1) 16 (if ¬ (z7.2.2 37 (z7.2.2 31 ((2 : Int32) * y14).toNatClampNeg).toNatClampNeg) = (z7.2.2 31 (((2 : Int32) * y14) + 1).toNatClampNeg) then (some 0) else (some 1)))))) (fun (j17 : Int32) => some (.inl (j17, y14 + 1)))))))
def l_X6_tryBoots_203  (y21 : Int32) (σ22 : St) : Option ((Int32 × St) ⊕ (St)) := if 6 ≤ y21 then (some (.inr σ22)) else (gi y21 6 (gi (((100 : Int32) * y21) + (σ22 37 y21.toNatClampNeg)) 600 (gi (((100 : Int32) * y21) + (σ22 37 y21.toNatClampNeg)) 600 (nm (up2 σ22 42 (((100 : Int32) * y21) + (σ22 37 y21.toNatClampNeg)).toNatClampNeg ((σ22 42 (((100 : Int32) * y21) + (σ22 37 y21.toNatClampNeg)).toNatClampNeg) + 1)) (fun σ24 => some (.inl (y21 + 1, σ24)))))))
def f_X6_tryBoots (a1 : Int32) (σ : St) : Option (St) := Option.bind (f_X6_asNow  σ) (fun r1 => Option.bind (loop (fun s : Int32 × Int32 × Int32 × Int32 × St => l_X6_tryBoots_14  s.1 s.2.1 s.2.2.1 s.2.2.2.1 s.2.2.2.2) 400 (a1, 0, 1, 0, r1)) (fun (z7 : Int32 × Int32 × St) => Option.bind (loop (fun s : Int32 × Int32 => l_X6_tryBoots_91 z7 s.1 s.2) 400 (z7.2.1, 0)) (fun (z15 : Int32) => if z15 = 0 then (some (z7.2.2)) else (nm (up2 z7.2.2 29 25 ((z7.2.2 29 25) + 1)) (fun σ18 => nm (up2 σ18 29 26 ((σ18 29 26) ||| z7.1)) (fun σ19 => nm (up2 σ19 29 27 ((σ19 29 27) &&& z7.1)) (fun σ20 => Option.bind (loop (fun s : Int32 × St => l_X6_tryBoots_203  s.1 s.2) 400 (0, σ20)) (fun (z23 : St) => some (z23)))))))))
set_option maxHeartbeats 4000000 in
set_option maxRecDepth 20000 in
theorem t_X6_tryBoots {g : Nat → Option Nat} {S : List SC} (hS : Wf g S) {σ : St} {Q : QT} (a1 : Int32) (h : ok (f_X6_tryBoots a1 σ) (fun r => Q none S r)) : AW MX6_tryBoots E0 rmX6_tryBoots 0 0 Q 0 0 S σ 0 [(0, .ref 29), (1, .int a1)] [] := by
  unfold f_X6_tryBoots at h
  refine aw_run tTX6_tryBoots 7 (pc2 := 8) (L2 := [(4, .int 1), (3, .int 0), (2, .int a1), (0, .ref 29), (1, .int a1)]) (st2 := [.ref 29]) rfl ?_
  obtain ⟨r1, er1, h⟩ := ok_b h
  refine aw_cV tTX6_tryBoots rfl 11 rfl (M' := MX6_asNow) (av := []) (rest := []) rfl lkX6_137 hMX6_asNow rfl (w_29 hS) ⟨_, _, rfl⟩ (s_X6_asNow hS er1) ⟨rfl, rfl, ⟨by decide, by decide⟩, by decide, by decide⟩ (Nat.le_of_ble_eq_true rfl) 46 (wf_len hS) rfl [] rfl ?_
  refine aw_run tTX6_tryBoots 2 (pc2 := 14) (L2 := [(5, .int 0), (4, .int 1), (3, .int 0), (2, .int a1), (0, .ref 29), (1, .int a1)]) (st2 := []) rfl ?_
  refine ok_use (P := fun z7 : Int32 × Int32 × St => AW MX6_tryBoots E0 rmX6_tryBoots 0 0 Q 0 0 S z7.2.2 88 [(0, .ref 29), (3, .int z7.1), (4, .int z7.2.1)] []) (ok_b h) (fun z7 h => ?_) (fun h => ?_)
  · refine aw_run tTX6_tryBoots 2 (pc2 := 91) (L2 := [(5, .int 0), (0, .ref 29), (3, .int z7.1), (4, .int z7.2.1)]) (st2 := []) rfl ?_
    refine ok_use (P := fun z15 : Int32 => AW MX6_tryBoots E0 rmX6_tryBoots 0 0 Q 0 0 S z7.2.2 165 [(0, .ref 29), (3, .int z7.1), (4, .int z15)] []) (ok_b h) (fun z15 h => ?_) (fun h => ?_)
    · refine aw_run tTX6_tryBoots 1 (pc2 := 167) (L2 := [(0, .ref 29), (3, .int z7.1), (4, .int z15)]) (st2 := [.int z15]) rfl ?_
      refine aw_if_eq tTX6_tryBoots rfl 238 170 rfl rfl (fun hc => ?_) (fun hc => ?_)
      · have h := ok_t hc h
        have h := ok_r h
        exact aw_vr tTX6_tryBoots rfl rfl (Nat.le_refl _) (Nat.le_refl _) h
      · have h := ok_f hc h
        refine aw_run tTX6_tryBoots 2 (pc2 := 172) (L2 := [(0, .ref 29), (3, .int z7.1), (4, .int z15)]) (st2 := [.ref 29, .ref 29]) rfl ?_
        refine aw_getI tTX6_tryBoots rfl 175 rfl (w_29 hS) rfl flX6_177 ?_
        refine aw_run tTX6_tryBoots 2 (pc2 := 177) (L2 := [(0, .ref 29), (3, .int z7.1), (4, .int z15)]) (st2 := [.int ((z7.2.2 29 25) + 1), .ref 29]) rfl ?_
        refine aw_putI tTX6_tryBoots rfl 180 rfl (w_29 hS) rfl fpX6_177 ?_
        refine aw_nmS (fun σ18 eσ18 => ?_)
        have h := ok_nm h σ18 eσ18
        refine aw_run tTX6_tryBoots 2 (pc2 := 182) (L2 := [(0, .ref 29), (3, .int z7.1), (4, .int z15)]) (st2 := [.ref 29, .ref 29]) rfl ?_
        refine aw_getI tTX6_tryBoots rfl 185 rfl (w_29 hS) rfl flX6_180 ?_
        refine aw_run tTX6_tryBoots 2 (pc2 := 187) (L2 := [(0, .ref 29), (3, .int z7.1), (4, .int z15)]) (st2 := [.int ((σ18 29 26) ||| z7.1), .ref 29]) rfl ?_
        refine aw_putI tTX6_tryBoots rfl 190 rfl (w_29 hS) rfl fpX6_180 ?_
        refine aw_nmS (fun σ19 eσ19 => ?_)
        have h := ok_nm h σ19 eσ19
        refine aw_run tTX6_tryBoots 2 (pc2 := 192) (L2 := [(0, .ref 29), (3, .int z7.1), (4, .int z15)]) (st2 := [.ref 29, .ref 29]) rfl ?_
        refine aw_getI tTX6_tryBoots rfl 195 rfl (w_29 hS) rfl flX6_183 ?_
        refine aw_run tTX6_tryBoots 2 (pc2 := 197) (L2 := [(0, .ref 29), (3, .int z7.1), (4, .int z15)]) (st2 := [.int ((σ19 29 27) &&& z7.1), .ref 29]) rfl ?_
        refine aw_putI tTX6_tryBoots rfl 200 rfl (w_29 hS) rfl fpX6_183 ?_
        refine aw_nmS (fun σ20 eσ20 => ?_)
        have h := ok_nm h σ20 eσ20
        refine aw_run tTX6_tryBoots 2 (pc2 := 203) (L2 := [(5, .int 0), (0, .ref 29), (3, .int z7.1), (4, .int z15)]) (st2 := []) rfl ?_
        refine ok_use (P := fun z23 : St => AW MX6_tryBoots E0 rmX6_tryBoots 0 0 Q 0 0 S z23 238 [] []) (ok_b h) (fun z23 h => ?_) (fun h => ?_)
        · have h := ok_r h
          exact aw_vr tTX6_tryBoots rfl rfl (Nat.le_refl _) (Nat.le_refl _) h
        · refine aw_sub [1, 0] rfl ?_
          refine loop_P (P := fun s : Int32 × St => AW MX6_tryBoots E0 rmX6_tryBoots 0 0 Q 0 0 S s.2 203 [(0, .ref 29), (5, .int s.1)] []) (fun s h => ?_) _ _ h
          obtain ⟨y21, σ22⟩ := s
          replace h : ok (l_X6_tryBoots_203  y21 σ22) _ := h
          unfold l_X6_tryBoots_203 at h
          show AW MX6_tryBoots E0 rmX6_tryBoots 0 0 Q 0 0 S σ22 203 [(0, .ref 29), (5, .int y21)] []
          refine aw_run tTX6_tryBoots 2 (pc2 := 207) (L2 := [(0, .ref 29), (5, .int y21)]) (st2 := [.int 6, .int y21]) rfl ?_
          refine aw_icmp_ge tTX6_tryBoots rfl 238 210 rfl rfl (fun hc => ?_) (fun hc => ?_)
          · have h := ok_t hc h
            refine aw_sub [] rfl ?_
            have h := ok_r h
            exact h
          · have h := ok_f hc h
            refine aw_run tTX6_tryBoots 1 (pc2 := 211) (L2 := [(0, .ref 29), (5, .int y21)]) (st2 := [.ref 29]) rfl ?_
            refine aw_getR tTX6_tryBoots rfl 214 rfl (w_29 hS) rfl flX6_51 ?_
            refine aw_run tTX6_tryBoots 4 (pc2 := 220) (L2 := [(0, .ref 29), (5, .int y21)]) (st2 := [.ref 29, .int ((100 : Int32) * y21), .ref 42]) rfl ?_
            refine aw_getR tTX6_tryBoots rfl 223 rfl (w_29 hS) rfl flX6_35 ?_
            refine aw_run tTX6_tryBoots 1 (pc2 := 225) (L2 := [(0, .ref 29), (5, .int y21)]) (st2 := [.int y21, .ref 37, .int ((100 : Int32) * y21), .ref 42]) rfl ?_
            obtain ⟨hi, h⟩ := ok_gi h
            refine aw_iald tTX6_tryBoots rfl 226 rfl (w_37 hS) hi ?_
            refine aw_run tTX6_tryBoots 2 (pc2 := 228) (L2 := [(0, .ref 29), (5, .int y21)]) (st2 := [.int (((100 : Int32) * y21) + (σ22 37 y21.toNatClampNeg)), .ref 42, .int (((100 : Int32) * y21) + (σ22 37 y21.toNatClampNeg)), .ref 42]) rfl ?_
            obtain ⟨hi, h⟩ := ok_gi h
            refine aw_iald tTX6_tryBoots rfl 229 rfl (w_42 hS) hi ?_
            refine aw_run tTX6_tryBoots 2 (pc2 := 231) (L2 := [(0, .ref 29), (5, .int y21)]) (st2 := [.int ((σ22 42 (((100 : Int32) * y21) + (σ22 37 y21.toNatClampNeg)).toNatClampNeg) + 1), .int (((100 : Int32) * y21) + (σ22 37 y21.toNatClampNeg)), .ref 42]) rfl ?_
            obtain ⟨hi, h⟩ := ok_gi h
            refine aw_iast tTX6_tryBoots rfl 232 rfl (w_42 hS) hi ?_
            refine aw_nmS (fun σ24 eσ24 => ?_)
            have h := ok_nm h σ24 eσ24
            refine aw_run tTX6_tryBoots 2 (pc2 := 203) (L2 := [(5, .int (y21 + 1)), (0, .ref 29)]) (st2 := []) rfl ?_
            refine aw_sub [1, 0] rfl ?_
            have h := ok_r h
            exact h
    · refine aw_sub [1, 2, 3, 0] rfl ?_
      refine loop_P (P := fun s : Int32 × Int32 => AW MX6_tryBoots E0 rmX6_tryBoots 0 0 Q 0 0 S z7.2.2 91 [(0, .ref 29), (3, .int z7.1), (4, .int s.1), (5, .int s.2)] []) (fun s h => ?_) _ _ h
      obtain ⟨y13, y14⟩ := s
      replace h : ok (l_X6_tryBoots_91 z7 y13 y14) _ := h
      unfold l_X6_tryBoots_91 at h
      show AW MX6_tryBoots E0 rmX6_tryBoots 0 0 Q 0 0 S z7.2.2 91 [(0, .ref 29), (3, .int z7.1), (4, .int y13), (5, .int y14)] []
      refine aw_run tTX6_tryBoots 2 (pc2 := 94) (L2 := [(0, .ref 29), (3, .int z7.1), (4, .int y13), (5, .int y14)]) (st2 := [.ref 29, .int y14]) rfl ?_
      refine aw_getI tTX6_tryBoots rfl 97 rfl (w_29 hS) rfl flX6_174 ?_
      refine aw_icmp_ge tTX6_tryBoots rfl 165 100 rfl rfl (fun hc => ?_) (fun hc => ?_)
      · have h := ok_t hc h
        refine aw_sub [0, 1, 2] rfl ?_
        have h := ok_r h
        exact h
      · have h := ok_f hc h
        refine aw_run tTX6_tryBoots 1 (pc2 := 102) (L2 := [(0, .ref 29), (3, .int z7.1), (4, .int y13), (5, .int y14)]) (st2 := [.int y13]) rfl ?_
        refine aw_if_eq tTX6_tryBoots rfl 165 105 rfl rfl (fun hc => ?_) (fun hc => ?_)
        · have h := ok_t hc h
          refine aw_sub [0, 1, 2] rfl ?_
          have h := ok_r h
          exact h
        · have h := ok_f hc h
          refine aw_run tTX6_tryBoots 1 (pc2 := 106) (L2 := [(0, .ref 29), (3, .int z7.1), (4, .int y13), (5, .int y14)]) (st2 := [.ref 29]) rfl ?_
          refine aw_getI tTX6_tryBoots rfl 109 rfl (w_29 hS) rfl flX6_63 ?_
          refine aw_run tTX6_tryBoots 1 (pc2 := 110) (L2 := [(0, .ref 29), (3, .int z7.1), (4, .int y13), (5, .int y14)]) (st2 := [.ref 29, .int (z7.2.2 29 0)]) rfl ?_
          refine aw_getR tTX6_tryBoots rfl 113 rfl (w_29 hS) rfl flX6_17 ?_
          refine aw_run tTX6_tryBoots 3 (pc2 := 117) (L2 := [(0, .ref 29), (3, .int z7.1), (4, .int y13), (5, .int y14)]) (st2 := [.int ((2 : Int32) * y14), .ref 31, .int (z7.2.2 29 0)]) rfl ?_
          obtain ⟨hi, h⟩ := ok_gi h
          refine aw_iald tTX6_tryBoots rfl 118 rfl (w_31 hS) hi ?_
          obtain ⟨r16, er16, h⟩ := ok_b h
          refine aw_cS tTX6_tryBoots rfl 121 rfl (M' := MX6_has) (av := [.int (z7.2.2 29 0), .int (z7.2.2 31 ((2 : Int32) * y14).toNatClampNeg)]) (rest := []) rfl lkX6_70 hMX6_has rfl (s_X6_has hS er16) ⟨rfl, rfl, ⟨by decide, by decide⟩, by decide, by decide⟩ (Nat.le_of_ble_eq_true rfl) 46 (wf_len hS) rfl [.int r16] rfl ?_
          refine ok_use (P := fun j17 : Int32 => AW MX6_tryBoots E0 rmX6_tryBoots 0 0 Q 0 0 S z7.2.2 157 [(0, .ref 29), (3, .int z7.1), (5, .int y14)] [.int j17]) (ok_b h) (fun j17 h => ?_) (fun h => ?_)
          · refine aw_run tTX6_tryBoots 3 (pc2 := 91) (L2 := [(5, .int (y14 + 1)), (4, .int j17), (0, .ref 29), (3, .int z7.1)]) (st2 := []) rfl ?_
            refine aw_sub [2, 3, 1, 0] rfl ?_
            have h := ok_r h
            exact h
          · refine aw_if_eq tTX6_tryBoots rfl 156 124 rfl rfl (fun hc => ?_) (fun hc => ?_)
            · have h := ok_t hc h
              refine aw_run tTX6_tryBoots 1 (pc2 := 157) (L2 := [(0, .ref 29), (3, .int z7.1), (4, .int y13), (5, .int y14)]) (st2 := [.int 0]) rfl ?_
              refine aw_sub [0, 1, 3] rfl ?_
              have h := ok_r h
              exact h
            · have h := ok_f hc h
              refine aw_run tTX6_tryBoots 1 (pc2 := 125) (L2 := [(0, .ref 29), (3, .int z7.1), (4, .int y13), (5, .int y14)]) (st2 := [.ref 29]) rfl ?_
              refine aw_getR tTX6_tryBoots rfl 128 rfl (w_29 hS) rfl flX6_35 ?_
              refine aw_run tTX6_tryBoots 1 (pc2 := 129) (L2 := [(0, .ref 29), (3, .int z7.1), (4, .int y13), (5, .int y14)]) (st2 := [.ref 29, .ref 37]) rfl ?_
              refine aw_getR tTX6_tryBoots rfl 132 rfl (w_29 hS) rfl flX6_17 ?_
              refine aw_run tTX6_tryBoots 3 (pc2 := 136) (L2 := [(0, .ref 29), (3, .int z7.1), (4, .int y13), (5, .int y14)]) (st2 := [.int ((2 : Int32) * y14), .ref 31, .ref 37]) rfl ?_
              obtain ⟨hi, h⟩ := ok_gi h
              refine aw_iald tTX6_tryBoots rfl 137 rfl (w_31 hS) hi ?_
              obtain ⟨hi, h⟩ := ok_gi h
              refine aw_iald tTX6_tryBoots rfl 138 rfl (w_37 hS) hi ?_
              refine aw_run tTX6_tryBoots 1 (pc2 := 139) (L2 := [(0, .ref 29), (3, .int z7.1), (4, .int y13), (5, .int y14)]) (st2 := [.ref 29, .int (z7.2.2 37 (z7.2.2 31 ((2 : Int32) * y14).toNatClampNeg).toNatClampNeg)]) rfl ?_
              refine aw_getR tTX6_tryBoots rfl 142 rfl (w_29 hS) rfl flX6_17 ?_
              refine aw_run tTX6_tryBoots 5 (pc2 := 148) (L2 := [(0, .ref 29), (3, .int z7.1), (4, .int y13), (5, .int y14)]) (st2 := [.int (((2 : Int32) * y14) + 1), .ref 31, .int (z7.2.2 37 (z7.2.2 31 ((2 : Int32) * y14).toNatClampNeg).toNatClampNeg)]) rfl ?_
              obtain ⟨hi, h⟩ := ok_gi h
              refine aw_iald tTX6_tryBoots rfl 149 rfl (w_31 hS) hi ?_
              refine aw_icmp_ne tTX6_tryBoots rfl 156 152 rfl rfl (fun hc => ?_) (fun hc => ?_)
              · have h := ok_t hc h
                refine aw_run tTX6_tryBoots 1 (pc2 := 157) (L2 := [(0, .ref 29), (3, .int z7.1), (4, .int y13), (5, .int y14)]) (st2 := [.int 0]) rfl ?_
                refine aw_sub [0, 1, 3] rfl ?_
                have h := ok_r h
                exact h
              · have h := ok_fn hc h
                refine aw_run tTX6_tryBoots 2 (pc2 := 157) (L2 := [(0, .ref 29), (3, .int z7.1), (4, .int y13), (5, .int y14)]) (st2 := [.int 1]) rfl ?_
                refine aw_sub [0, 1, 3] rfl ?_
                have h := ok_r h
                exact h
  · refine aw_sub [4, 3, 2, 1, 0] rfl ?_
    refine loop_P (P := fun s : Int32 × Int32 × Int32 × Int32 × St => AW MX6_tryBoots E0 rmX6_tryBoots 0 0 Q 0 0 S s.2.2.2.2 14 [(0, .ref 29), (2, .int s.1), (3, .int s.2.1), (4, .int s.2.2.1), (5, .int s.2.2.2.1)] []) (fun s h => ?_) _ _ h
    obtain ⟨y2, y3, y4, y5, σ6⟩ := s
    replace h : ok (l_X6_tryBoots_14  y2 y3 y4 y5 σ6) _ := h
    unfold l_X6_tryBoots_14 at h
    show AW MX6_tryBoots E0 rmX6_tryBoots 0 0 Q 0 0 S σ6 14 [(0, .ref 29), (2, .int y2), (3, .int y3), (4, .int y4), (5, .int y5)] []
    refine aw_run tTX6_tryBoots 2 (pc2 := 18) (L2 := [(0, .ref 29), (2, .int y2), (3, .int y3), (4, .int y4), (5, .int y5)]) (st2 := [.int 6, .int y5]) rfl ?_
    refine aw_icmp_ge tTX6_tryBoots rfl 88 21 rfl rfl (fun hc => ?_) (fun hc => ?_)
    · have h := ok_t hc h
      refine aw_sub [0, 2, 3] rfl ?_
      have h := ok_r h
      exact h
    · have h := ok_f hc h
      refine aw_run tTX6_tryBoots 1 (pc2 := 23) (L2 := [(0, .ref 29), (2, .int y2), (3, .int y3), (4, .int y4), (5, .int y5)]) (st2 := [.int y4]) rfl ?_
      refine aw_if_eq tTX6_tryBoots rfl 88 26 rfl rfl (fun hc => ?_) (fun hc => ?_)
      · have h := ok_t hc h
        refine aw_sub [0, 2, 3] rfl ?_
        have h := ok_r h
        exact h
      · have h := ok_f hc h
        refine aw_run tTX6_tryBoots 2 (pc2 := 29) (L2 := [(0, .ref 29), (2, .int y2), (3, .int y3), (4, .int y4), (5, .int y5)]) (st2 := [.int 7, .int y2]) rfl ?_
        refine aw_irem tTX6_tryBoots rfl 30 rfl (by decide) ?_
        refine aw_run tTX6_tryBoots 3 (pc2 := 35) (L2 := [(6, .int (jrem y2 7)), (0, .ref 29), (2, .int y2), (3, .int y3), (4, .int y4), (5, .int y5)]) (st2 := [.int 7, .int y2]) rfl ?_
        refine aw_idiv tTX6_tryBoots rfl 36 rfl (by decide) ?_
        refine aw_run tTX6_tryBoots 3 (pc2 := 41) (L2 := [(2, .int (y2 / 7)), (6, .int (jrem y2 7)), (0, .ref 29), (3, .int y3), (4, .int y4), (5, .int y5)]) (st2 := [.int 6, .int (jrem y2 7)]) rfl ?_
        refine ok_use (P := fun j8 : Int32 × Int32 × St => AW MX6_tryBoots E0 rmX6_tryBoots 0 0 Q 0 0 S j8.2.2 82 [(0, .ref 29), (2, .int (y2 / 7)), (3, .int j8.1), (4, .int j8.2.1), (5, .int y5)] []) (ok_b h) (fun j8 h => ?_) (fun h => ?_)
        · refine aw_run tTX6_tryBoots 2 (pc2 := 14) (L2 := [(5, .int (y5 + 1)), (0, .ref 29), (2, .int (y2 / 7)), (3, .int j8.1), (4, .int j8.2.1)]) (st2 := []) rfl ?_
          refine aw_sub [1, 2, 3, 4, 0] rfl ?_
          have h := ok_r h
          exact h
        · refine aw_icmp_ge tTX6_tryBoots rfl 82 44 rfl rfl (fun hc => ?_) (fun hc => ?_)
          · have h := ok_t hc h
            refine aw_sub [2, 0, 3, 4, 5] rfl ?_
            have h := ok_r h
            exact h
          · have h := ok_f hc h
            refine aw_run tTX6_tryBoots 3 (pc2 := 49) (L2 := [(2, .int (y2 / 7)), (6, .int (jrem y2 7)), (0, .ref 29), (3, .int y3), (4, .int y4), (5, .int y5)]) (st2 := [.int (jrem y2 7), .int y5, .ref 29]) rfl ?_
            obtain ⟨r9, er9, h⟩ := ok_b h
            refine aw_cV tTX6_tryBoots rfl 52 rfl (M' := MX6_whyNot) (av := [.int y5, .int (jrem y2 7)]) (rest := []) rfl lkX6_120 hMX6_whyNot rfl (w_29 hS) ⟨_, _, rfl⟩ (s_X6_whyNot hS er9) ⟨rfl, rfl, ⟨by decide, by decide⟩, by decide, by decide⟩ (Nat.le_of_ble_eq_true rfl) 46 (wf_len hS) rfl [.int r9] rfl ?_
            refine ok_use (P := fun j10 : Int32 => AW MX6_tryBoots E0 rmX6_tryBoots 0 0 Q 0 0 S σ6 60 [(0, .ref 29), (2, .int (y2 / 7)), (3, .int y3), (5, .int y5), (6, .int (jrem y2 7))] [.int j10]) (ok_b h) (fun j10 h => ?_) (fun h => ?_)
            · refine aw_run tTX6_tryBoots 2 (pc2 := 64) (L2 := [(4, .int j10), (0, .ref 29), (2, .int (y2 / 7)), (3, .int y3), (5, .int y5), (6, .int (jrem y2 7))]) (st2 := [.int j10]) rfl ?_
              refine aw_if_eq tTX6_tryBoots rfl 82 67 rfl rfl (fun hc => ?_) (fun hc => ?_)
              · have h := ok_t hc h
                refine aw_sub [1, 2, 3, 0, 4] rfl ?_
                have h := ok_r h
                exact h
              · have h := ok_f hc h
                refine aw_run tTX6_tryBoots 3 (pc2 := 72) (L2 := [(4, .int j10), (0, .ref 29), (2, .int (y2 / 7)), (3, .int y3), (5, .int y5), (6, .int (jrem y2 7))]) (st2 := [.int (jrem y2 7), .int y5, .ref 29]) rfl ?_
                obtain ⟨r11, er11, h⟩ := ok_b h
                refine aw_cV tTX6_tryBoots rfl 75 rfl (M' := MX6_rob) (av := [.int y5, .int (jrem y2 7)]) (rest := []) rfl lkX6_123 hMX6_rob rfl (w_29 hS) ⟨_, _, rfl⟩ (s_X6_rob hS er11) ⟨rfl, rfl, ⟨by decide, by decide⟩, by decide, by decide⟩ (Nat.le_of_ble_eq_true rfl) 46 (wf_len hS) rfl [] rfl ?_
                refine aw_run tTX6_tryBoots 5 (pc2 := 81) (L2 := [(4, .int j10), (0, .ref 29), (2, .int (y2 / 7)), (3, .int y3), (5, .int y5), (6, .int (jrem y2 7))]) (st2 := [.int (y3 ||| ((1 : Int32) <<< (y5 &&& 31)))]) rfl ?_
                refine aw_nm (fun x12 ex12 => ?_)
                have h := ok_nm h x12 ex12
                refine aw_run tTX6_tryBoots 1 (pc2 := 82) (L2 := [(3, .int x12), (4, .int j10), (0, .ref 29), (2, .int (y2 / 7)), (5, .int y5), (6, .int (jrem y2 7))]) (st2 := []) rfl ?_
                refine aw_sub [2, 3, 0, 1, 4] rfl ?_
                have h := ok_r h
                exact h
            · refine aw_if_ne tTX6_tryBoots rfl 59 55 rfl rfl (fun hc => ?_) (fun hc => ?_)
              · have h := ok_t hc h
                refine aw_run tTX6_tryBoots 1 (pc2 := 60) (L2 := [(2, .int (y2 / 7)), (6, .int (jrem y2 7)), (0, .ref 29), (3, .int y3), (4, .int y4), (5, .int y5)]) (st2 := [.int 0]) rfl ?_
                refine aw_sub [2, 0, 3, 5, 1] rfl ?_
                have h := ok_r h
                exact h
              · have h := ok_fn hc h
                refine aw_run tTX6_tryBoots 2 (pc2 := 60) (L2 := [(2, .int (y2 / 7)), (6, .int (jrem y2 7)), (0, .ref 29), (3, .int y3), (4, .int y4), (5, .int y5)]) (st2 := [.int 1]) rfl ?_
                refine aw_sub [2, 0, 3, 5, 1] rfl ?_
                have h := ok_r h
                exact h
theorem s_X6_tryBoots {g : Nat → Option Nat} {S : List SC} (hS : Wf g S) {σ : St} {a1 : Int32} {r : St} (e : f_X6_tryBoots a1 σ = some r) : Fn MX6_tryBoots rmX6_tryBoots [.ref 29, .int a1] S σ none r := Sp.of (by decide) (Nat.le_of_ble_eq_true rfl) (t_X6_tryBoots hS a1 ⟨r, e, rfl, rfl, rfl⟩)
def l_X6_layBoots_18  (y4 : Int32) (σ5 : St) : Option ((Int32 × St) ⊕ (St)) := if 600 ≤ y4 then (some (.inr σ5)) else (gi y4 600 (nm (up2 σ5 42 y4.toNatClampNeg 0) (fun σ7 => some (.inl (y4 + 1, σ7)))))
def l_X6_layBoots_53 (σ9 : St) (y11 : Int32) (y12 : Int32) (y13 : Int32) : Option ((Int32 × Int32 × Int32) ⊕ (Int32)) := if 6 ≤ y13 then (some (.inr y12)) else (if y12 = 0 then (some (.inr y12)) else (Option.bind (α := Int32) (if (jrem y11 7) = 6 then (some 1) else (Option.bind (f_X6_has (σ9 29 0) y13) (fun r16 => if r16 = 0 then (some 0) else (Option.bind (f_X6_has (σ9 29 0) (jrem y11 7)) (fun r17 => if r17 = 0 then (some 0) else (if (jrem y11 7) = y13 then (some 0) else (some 1))))))) (fun (j15 : Int32) => some (.inl (y11 / 7, j15, y13 + 1)))))
def l_X6_layBoots_40  (y8 : Int32) (σ9 : St) : Option ((Int32 × St) ⊕ (St)) := if 117649 ≤ y8 then (some (.inr σ9)) else (Option.bind (loop (fun s : Int32 × Int32 × Int32 => l_X6_layBoots_53 σ9 s.1 s.2.1 s.2.2) 400 (y8, 1, 0)) (fun (z14 : Int32) => Option.bind (α := St) (if z14 = 0 then (some σ9) else (Option.bind (f_X6_tryBoots y8 σ9) (fun r19 => some r19))) (fun (j18 : St) => some (.inl (y8 + 1, j18)))))
def f_X6_layBoots  (σ : St) : Option (St) := nm (up2 σ 29 25 0) (fun σ1 => nm (up2 σ1 29 26 0) (fun σ2 => nm (up2 σ2 29 27 63) (fun σ3 => Option.bind (loop (fun s : Int32 × St => l_X6_layBoots_18  s.1 s.2) 700 (0, σ3)) (fun (z6 : St) => Option.bind (loop (fun s : Int32 × St => l_X6_layBoots_40  s.1 s.2) 120000 (0, z6)) (fun (z10 : St) => some (z10))))))
set_option maxHeartbeats 4000000 in
set_option maxRecDepth 20000 in
theorem t_X6_layBoots {g : Nat → Option Nat} {S : List SC} (hS : Wf g S) {σ : St} {Q : QT}  (h : ok (f_X6_layBoots  σ) (fun r => Q none S r)) : AW MX6_layBoots E0 rmX6_layBoots 0 0 Q 0 0 S σ 0 [(0, .ref 29)] [] := by
  unfold f_X6_layBoots at h
  refine aw_run tTX6_layBoots 2 (pc2 := 2) (L2 := [(0, .ref 29)]) (st2 := [.int 0, .ref 29]) rfl ?_
  refine aw_putI tTX6_layBoots rfl 5 rfl (w_29 hS) rfl fpX6_177 ?_
  refine aw_nmS (fun σ1 eσ1 => ?_)
  have h := ok_nm h σ1 eσ1
  refine aw_run tTX6_layBoots 2 (pc2 := 7) (L2 := [(0, .ref 29)]) (st2 := [.int 0, .ref 29]) rfl ?_
  refine aw_putI tTX6_layBoots rfl 10 rfl (w_29 hS) rfl fpX6_180 ?_
  refine aw_nmS (fun σ2 eσ2 => ?_)
  have h := ok_nm h σ2 eσ2
  refine aw_run tTX6_layBoots 2 (pc2 := 13) (L2 := [(0, .ref 29)]) (st2 := [.int 63, .ref 29]) rfl ?_
  refine aw_putI tTX6_layBoots rfl 16 rfl (w_29 hS) rfl fpX6_183 ?_
  refine aw_nmS (fun σ3 eσ3 => ?_)
  have h := ok_nm h σ3 eσ3
  refine aw_run tTX6_layBoots 2 (pc2 := 18) (L2 := [(1, .int 0), (0, .ref 29)]) (st2 := []) rfl ?_
  refine ok_use (P := fun z6 : St => AW MX6_layBoots E0 rmX6_layBoots 0 0 Q 0 0 S z6 38 [(0, .ref 29)] []) (ok_b h) (fun z6 h => ?_) (fun h => ?_)
  · refine aw_run tTX6_layBoots 2 (pc2 := 40) (L2 := [(1, .int 0), (0, .ref 29)]) (st2 := []) rfl ?_
    refine ok_use (P := fun z10 : St => AW MX6_layBoots E0 rmX6_layBoots 0 0 Q 0 0 S z10 140 [] []) (ok_b h) (fun z10 h => ?_) (fun h => ?_)
    · have h := ok_r h
      exact aw_vr tTX6_layBoots rfl rfl (Nat.le_refl _) (Nat.le_refl _) h
    · refine aw_sub [1, 0] rfl ?_
      refine loop_P (P := fun s : Int32 × St => AW MX6_layBoots E0 rmX6_layBoots 0 0 Q 0 0 S s.2 40 [(0, .ref 29), (1, .int s.1)] []) (fun s h => ?_) _ _ h
      obtain ⟨y8, σ9⟩ := s
      replace h : ok (l_X6_layBoots_40  y8 σ9) _ := h
      unfold l_X6_layBoots_40 at h
      show AW MX6_layBoots E0 rmX6_layBoots 0 0 Q 0 0 S σ9 40 [(0, .ref 29), (1, .int y8)] []
      refine aw_run tTX6_layBoots 2 (pc2 := 43) (L2 := [(0, .ref 29), (1, .int y8)]) (st2 := [.int 117649, .int y8]) rfl ?_
      refine aw_icmp_ge tTX6_layBoots rfl 140 46 rfl rfl (fun hc => ?_) (fun hc => ?_)
      · have h := ok_t hc h
        refine aw_sub [] rfl ?_
        have h := ok_r h
        exact h
      · have h := ok_f hc h
        refine aw_run tTX6_layBoots 6 (pc2 := 53) (L2 := [(4, .int 0), (3, .int 1), (2, .int y8), (0, .ref 29), (1, .int y8)]) (st2 := []) rfl ?_
        refine ok_use (P := fun z14 : Int32 => AW MX6_layBoots E0 rmX6_layBoots 0 0 Q 0 0 S σ9 125 [(0, .ref 29), (1, .int y8), (3, .int z14)] []) (ok_b h) (fun z14 h => ?_) (fun h => ?_)
        · refine aw_run tTX6_layBoots 1 (pc2 := 126) (L2 := [(0, .ref 29), (1, .int y8), (3, .int z14)]) (st2 := [.int z14]) rfl ?_
          refine ok_use (P := fun j18 : St => AW MX6_layBoots E0 rmX6_layBoots 0 0 Q 0 0 S j18 134 [(0, .ref 29), (1, .int y8)] []) (ok_b h) (fun j18 h => ?_) (fun h => ?_)
          · refine aw_run tTX6_layBoots 2 (pc2 := 40) (L2 := [(1, .int (y8 + 1)), (0, .ref 29)]) (st2 := []) rfl ?_
            refine aw_sub [1, 0] rfl ?_
            have h := ok_r h
            exact h
          · refine aw_if_eq tTX6_layBoots rfl 134 129 rfl rfl (fun hc => ?_) (fun hc => ?_)
            · have h := ok_t hc h
              refine aw_sub [0, 1] rfl ?_
              have h := ok_r h
              exact h
            · have h := ok_f hc h
              refine aw_run tTX6_layBoots 2 (pc2 := 131) (L2 := [(0, .ref 29), (1, .int y8), (3, .int z14)]) (st2 := [.int y8, .ref 29]) rfl ?_
              obtain ⟨r19, er19, h⟩ := ok_b h
              refine aw_cV tTX6_layBoots rfl 134 rfl (M' := MX6_tryBoots) (av := [.int y8]) (rest := []) rfl lkX6_187 hMX6_tryBoots rfl (w_29 hS) ⟨_, _, rfl⟩ (s_X6_tryBoots hS er19) ⟨rfl, rfl, ⟨by decide, by decide⟩, by decide, by decide⟩ (Nat.le_of_ble_eq_true rfl) 46 (wf_len hS) rfl [] rfl ?_
              refine aw_sub [0, 1] rfl ?_
              have h := ok_r h
              exact h
        · refine aw_sub [3, 4, 2, 1, 0] rfl ?_
          refine loop_P (P := fun s : Int32 × Int32 × Int32 => AW MX6_layBoots E0 rmX6_layBoots 0 0 Q 0 0 S σ9 53 [(0, .ref 29), (1, .int y8), (2, .int s.1), (3, .int s.2.1), (4, .int s.2.2)] []) (fun s h => ?_) _ _ h
          obtain ⟨y11, y12, y13⟩ := s
          replace h : ok (l_X6_layBoots_53 σ9 y11 y12 y13) _ := h
          unfold l_X6_layBoots_53 at h
          show AW MX6_layBoots E0 rmX6_layBoots 0 0 Q 0 0 S σ9 53 [(0, .ref 29), (1, .int y8), (2, .int y11), (3, .int y12), (4, .int y13)] []
          refine aw_run tTX6_layBoots 2 (pc2 := 57) (L2 := [(0, .ref 29), (1, .int y8), (2, .int y11), (3, .int y12), (4, .int y13)]) (st2 := [.int 6, .int y13]) rfl ?_
          refine aw_icmp_ge tTX6_layBoots rfl 125 60 rfl rfl (fun hc => ?_) (fun hc => ?_)
          · have h := ok_t hc h
            refine aw_sub [0, 1, 3] rfl ?_
            have h := ok_r h
            exact h
          · have h := ok_f hc h
            refine aw_run tTX6_layBoots 1 (pc2 := 61) (L2 := [(0, .ref 29), (1, .int y8), (2, .int y11), (3, .int y12), (4, .int y13)]) (st2 := [.int y12]) rfl ?_
            refine aw_if_eq tTX6_layBoots rfl 125 64 rfl rfl (fun hc => ?_) (fun hc => ?_)
            · have h := ok_t hc h
              refine aw_sub [0, 1, 3] rfl ?_
              have h := ok_r h
              exact h
            · have h := ok_f hc h
              refine aw_run tTX6_layBoots 2 (pc2 := 67) (L2 := [(0, .ref 29), (1, .int y8), (2, .int y11), (3, .int y12), (4, .int y13)]) (st2 := [.int 7, .int y11]) rfl ?_
              refine aw_irem tTX6_layBoots rfl 68 rfl (by decide) ?_
              refine aw_run tTX6_layBoots 3 (pc2 := 73) (L2 := [(5, .int (jrem y11 7)), (0, .ref 29), (1, .int y8), (2, .int y11), (3, .int y12), (4, .int y13)]) (st2 := [.int 7, .int y11]) rfl ?_
              refine aw_idiv tTX6_layBoots rfl 74 rfl (by decide) ?_
              refine aw_run tTX6_layBoots 3 (pc2 := 79) (L2 := [(2, .int (y11 / 7)), (5, .int (jrem y11 7)), (0, .ref 29), (1, .int y8), (3, .int y12), (4, .int y13)]) (st2 := [.int 6, .int (jrem y11 7)]) rfl ?_
              refine ok_use (P := fun j15 : Int32 => AW MX6_layBoots E0 rmX6_layBoots 0 0 Q 0 0 S σ9 118 [(0, .ref 29), (1, .int y8), (2, .int (y11 / 7)), (4, .int y13)] [.int j15]) (ok_b h) (fun j15 h => ?_) (fun h => ?_)
              · refine aw_run tTX6_layBoots 3 (pc2 := 53) (L2 := [(4, .int (y13 + 1)), (3, .int j15), (0, .ref 29), (1, .int y8), (2, .int (y11 / 7))]) (st2 := []) rfl ?_
                refine aw_sub [2, 3, 4, 1, 0] rfl ?_
                have h := ok_r h
                exact h
              · refine aw_icmp_eq tTX6_layBoots rfl 113 82 rfl rfl (fun hc => ?_) (fun hc => ?_)
                · have h := ok_t hc h
                  refine aw_run tTX6_layBoots 2 (pc2 := 118) (L2 := [(2, .int (y11 / 7)), (5, .int (jrem y11 7)), (0, .ref 29), (1, .int y8), (3, .int y12), (4, .int y13)]) (st2 := [.int 1]) rfl ?_
                  refine aw_sub [2, 3, 0, 5] rfl ?_
                  have h := ok_r h
                  exact h
                · have h := ok_f hc h
                  refine aw_run tTX6_layBoots 1 (pc2 := 83) (L2 := [(2, .int (y11 / 7)), (5, .int (jrem y11 7)), (0, .ref 29), (1, .int y8), (3, .int y12), (4, .int y13)]) (st2 := [.ref 29]) rfl ?_
                  refine aw_getI tTX6_layBoots rfl 86 rfl (w_29 hS) rfl flX6_63 ?_
                  refine aw_run tTX6_layBoots 1 (pc2 := 88) (L2 := [(2, .int (y11 / 7)), (5, .int (jrem y11 7)), (0, .ref 29), (1, .int y8), (3, .int y12), (4, .int y13)]) (st2 := [.int y13, .int (σ9 29 0)]) rfl ?_
                  obtain ⟨r16, er16, h⟩ := ok_b h
                  refine aw_cS tTX6_layBoots rfl 91 rfl (M' := MX6_has) (av := [.int (σ9 29 0), .int y13]) (rest := []) rfl lkX6_70 hMX6_has rfl (s_X6_has hS er16) ⟨rfl, rfl, ⟨by decide, by decide⟩, by decide, by decide⟩ (Nat.le_of_ble_eq_true rfl) 46 (wf_len hS) rfl [.int r16] rfl ?_
                  refine aw_if_eq tTX6_layBoots rfl 117 94 rfl rfl (fun hc => ?_) (fun hc => ?_)
                  · have h := ok_t hc h
                    refine aw_run tTX6_layBoots 1 (pc2 := 118) (L2 := [(2, .int (y11 / 7)), (5, .int (jrem y11 7)), (0, .ref 29), (1, .int y8), (3, .int y12), (4, .int y13)]) (st2 := [.int 0]) rfl ?_
                    refine aw_sub [2, 3, 0, 5] rfl ?_
                    have h := ok_r h
                    exact h
                  · have h := ok_f hc h
                    refine aw_run tTX6_layBoots 1 (pc2 := 95) (L2 := [(2, .int (y11 / 7)), (5, .int (jrem y11 7)), (0, .ref 29), (1, .int y8), (3, .int y12), (4, .int y13)]) (st2 := [.ref 29]) rfl ?_
                    refine aw_getI tTX6_layBoots rfl 98 rfl (w_29 hS) rfl flX6_63 ?_
                    refine aw_run tTX6_layBoots 1 (pc2 := 100) (L2 := [(2, .int (y11 / 7)), (5, .int (jrem y11 7)), (0, .ref 29), (1, .int y8), (3, .int y12), (4, .int y13)]) (st2 := [.int (jrem y11 7), .int (σ9 29 0)]) rfl ?_
                    obtain ⟨r17, er17, h⟩ := ok_b h
                    refine aw_cS tTX6_layBoots rfl 103 rfl (M' := MX6_has) (av := [.int (σ9 29 0), .int (jrem y11 7)]) (rest := []) rfl lkX6_70 hMX6_has rfl (s_X6_has hS er17) ⟨rfl, rfl, ⟨by decide, by decide⟩, by decide, by decide⟩ (Nat.le_of_ble_eq_true rfl) 46 (wf_len hS) rfl [.int r17] rfl ?_
                    refine aw_if_eq tTX6_layBoots rfl 117 106 rfl rfl (fun hc => ?_) (fun hc => ?_)
                    · have h := ok_t hc h
                      refine aw_run tTX6_layBoots 1 (pc2 := 118) (L2 := [(2, .int (y11 / 7)), (5, .int (jrem y11 7)), (0, .ref 29), (1, .int y8), (3, .int y12), (4, .int y13)]) (st2 := [.int 0]) rfl ?_
                      refine aw_sub [2, 3, 0, 5] rfl ?_
                      have h := ok_r h
                      exact h
                    · have h := ok_f hc h
                      refine aw_run tTX6_layBoots 2 (pc2 := 110) (L2 := [(2, .int (y11 / 7)), (5, .int (jrem y11 7)), (0, .ref 29), (1, .int y8), (3, .int y12), (4, .int y13)]) (st2 := [.int y13, .int (jrem y11 7)]) rfl ?_
                      refine aw_icmp_eq tTX6_layBoots rfl 117 113 rfl rfl (fun hc => ?_) (fun hc => ?_)
                      · have h := ok_t hc h
                        refine aw_run tTX6_layBoots 1 (pc2 := 118) (L2 := [(2, .int (y11 / 7)), (5, .int (jrem y11 7)), (0, .ref 29), (1, .int y8), (3, .int y12), (4, .int y13)]) (st2 := [.int 0]) rfl ?_
                        refine aw_sub [2, 3, 0, 5] rfl ?_
                        have h := ok_r h
                        exact h
                      · have h := ok_f hc h
                        refine aw_run tTX6_layBoots 2 (pc2 := 118) (L2 := [(2, .int (y11 / 7)), (5, .int (jrem y11 7)), (0, .ref 29), (1, .int y8), (3, .int y12), (4, .int y13)]) (st2 := [.int 1]) rfl ?_
                        refine aw_sub [2, 3, 0, 5] rfl ?_
                        have h := ok_r h
                        exact h
  · refine aw_sub [1, 0] rfl ?_
    refine loop_P (P := fun s : Int32 × St => AW MX6_layBoots E0 rmX6_layBoots 0 0 Q 0 0 S s.2 18 [(0, .ref 29), (1, .int s.1)] []) (fun s h => ?_) _ _ h
    obtain ⟨y4, σ5⟩ := s
    replace h : ok (l_X6_layBoots_18  y4 σ5) _ := h
    unfold l_X6_layBoots_18 at h
    show AW MX6_layBoots E0 rmX6_layBoots 0 0 Q 0 0 S σ5 18 [(0, .ref 29), (1, .int y4)] []
    refine aw_run tTX6_layBoots 2 (pc2 := 22) (L2 := [(0, .ref 29), (1, .int y4)]) (st2 := [.int 600, .int y4]) rfl ?_
    refine aw_icmp_ge tTX6_layBoots rfl 38 25 rfl rfl (fun hc => ?_) (fun hc => ?_)
    · have h := ok_t hc h
      refine aw_sub [0] rfl ?_
      have h := ok_r h
      exact h
    · have h := ok_f hc h
      refine aw_run tTX6_layBoots 1 (pc2 := 26) (L2 := [(0, .ref 29), (1, .int y4)]) (st2 := [.ref 29]) rfl ?_
      refine aw_getR tTX6_layBoots rfl 29 rfl (w_29 hS) rfl flX6_51 ?_
      refine aw_run tTX6_layBoots 2 (pc2 := 31) (L2 := [(0, .ref 29), (1, .int y4)]) (st2 := [.int 0, .int y4, .ref 42]) rfl ?_
      obtain ⟨hi, h⟩ := ok_gi h
      refine aw_iast tTX6_layBoots rfl 32 rfl (w_42 hS) hi ?_
      refine aw_nmS (fun σ7 eσ7 => ?_)
      have h := ok_nm h σ7 eσ7
      refine aw_run tTX6_layBoots 2 (pc2 := 18) (L2 := [(1, .int (y4 + 1)), (0, .ref 29)]) (st2 := []) rfl ?_
      refine aw_sub [1, 0] rfl ?_
      have h := ok_r h
      exact h
theorem s_X6_layBoots {g : Nat → Option Nat} {S : List SC} (hS : Wf g S) {σ : St}  {r : St} (e : f_X6_layBoots  σ = some r) : Fn MX6_layBoots rmX6_layBoots [.ref 29] S σ none r := Sp.of (by decide) (Nat.le_of_ble_eq_true rfl) (t_X6_layBoots hS  ⟨r, e, rfl, rfl, rfl⟩)
