/-! lifted by program (wip/gen/lift.py) -/
def l_X3_fillLeft_44 (y2 : Int32) (j6 : Int32) (x7 : Int32) (y8 : Int32) (σ9 : St) : Option ((Int32 × St) ⊕ (St)) := if x7 ≤ y8 then (some (.inr σ9)) else (gi y8 64 (Option.bind (α := Int32) (if j6 = 0 then (some 0) else (if (σ9 25 y8.toNatClampNeg) ≤ 0 then (some 0) else (some 1))) (fun (j11 : Int32) => Option.bind (α := Int32) (if j11 = 0 then (some (-6 : Int32)) else (gi y2 6 (some ((σ9 25 y8.toNatClampNeg) - (jmin (σ9 25 y8.toNatClampNeg) (σ9 3 y2.toNatClampNeg)))))) (fun (j12 : Int32) => gi (y8 ||| x7) 64 (nm (up2 σ9 25 (y8 ||| x7).toNatClampNeg j12) (fun σ13 => some (.inl (y8 + 1, σ13))))))))
def l_X3_fillLeft_14 (a2 : Int32) (y2 : Int32) (σ3 : St) : Option ((Int32 × St) ⊕ (St)) := if 6 ≤ y2 then (some (.inr σ3)) else (Option.bind (f_X0_robBar 1 y2 a2 σ3) (fun r5 => Option.bind (α := Int32) (if ¬ r5 = 0 then (some 0) else (some 1)) (fun (j6 : Int32) => nm ((1 : Int32) <<< (y2 &&& 31)) (fun (x7 : Int32) => Option.bind (loop (fun s : Int32 × St => l_X3_fillLeft_44 y2 j6 x7 s.1 s.2) 400 (0, σ3)) (fun (z10 : St) => some (.inl (y2 + 1, z10)))))))
def f_X3_fillLeft (a2 : Int32) (σ : St) : Option (St) := gi a2 6 (gi 0 64 (nm (up2 σ 25 (0 : Int32).toNatClampNeg (σ 2 a2.toNatClampNeg)) (fun σ1 => Option.bind (loop (fun s : Int32 × St => l_X3_fillLeft_14 a2 s.1 s.2) 400 (0, σ1)) (fun (z4 : St) => some (z4)))))
set_option maxHeartbeats 4000000 in
set_option maxRecDepth 20000 in
theorem t_X3_fillLeft {g : Nat → Option Nat} {S : List SC} (hS : Wf g S) {σ : St} {Q : QT} (a2 : Int32) (h : ok (f_X3_fillLeft a2 σ) (fun r => Q none S r)) : AW MX3_fillLeft E0 rmX3_fillLeft 0 0 Q 0 0 S σ 0 [(0, .ref 23), (1, .ref 1), (2, .int a2)] [] := by
  unfold f_X3_fillLeft at h
  refine aw_run tTX3_fillLeft 1 (pc2 := 1) (L2 := [(0, .ref 23), (1, .ref 1), (2, .int a2)]) (st2 := [.ref 23]) rfl ?_
  refine aw_getR tTX3_fillLeft rfl 4 rfl (w_23 hS) rfl flX3_15 ?_
  refine aw_run tTX3_fillLeft 2 (pc2 := 6) (L2 := [(0, .ref 23), (1, .ref 1), (2, .int a2)]) (st2 := [.ref 1, .int 0, .ref 25]) rfl ?_
  refine aw_getR tTX3_fillLeft rfl 9 rfl (w_1 hS) rfl flX3_37 ?_
  refine aw_run tTX3_fillLeft 1 (pc2 := 10) (L2 := [(0, .ref 23), (1, .ref 1), (2, .int a2)]) (st2 := [.int a2, .ref 2, .int 0, .ref 25]) rfl ?_
  obtain ⟨hi, h⟩ := ok_gi h
  refine aw_iald tTX3_fillLeft rfl 11 rfl (w_2 hS) hi ?_
  obtain ⟨hi, h⟩ := ok_gi h
  refine aw_iast tTX3_fillLeft rfl 12 rfl (w_25 hS) hi ?_
  refine aw_nmS (fun σ1 eσ1 => ?_)
  have h := ok_nm h σ1 eσ1
  refine aw_run tTX3_fillLeft 2 (pc2 := 14) (L2 := [(3, .int 0), (0, .ref 23), (1, .ref 1), (2, .int a2)]) (st2 := []) rfl ?_
  refine ok_use (P := fun z4 : St => AW MX3_fillLeft E0 rmX3_fillLeft 0 0 Q 0 0 S z4 123 [] []) (ok_b h) (fun z4 h => ?_) (fun h => ?_)
  · have h := ok_r h
    exact aw_vr tTX3_fillLeft rfl rfl (Nat.le_refl _) (Nat.le_refl _) h
  · refine aw_sub [1, 2, 3, 0] rfl ?_
    refine loop_P (P := fun s : Int32 × St => AW MX3_fillLeft E0 rmX3_fillLeft 0 0 Q 0 0 S s.2 14 [(0, .ref 23), (1, .ref 1), (2, .int a2), (3, .int s.1)] []) (fun s h => ?_) _ _ h
    obtain ⟨y2, σ3⟩ := s
    replace h : ok (l_X3_fillLeft_14 a2 y2 σ3) _ := h
    unfold l_X3_fillLeft_14 at h
    show AW MX3_fillLeft E0 rmX3_fillLeft 0 0 Q 0 0 S σ3 14 [(0, .ref 23), (1, .ref 1), (2, .int a2), (3, .int y2)] []
    refine aw_run tTX3_fillLeft 2 (pc2 := 17) (L2 := [(0, .ref 23), (1, .ref 1), (2, .int a2), (3, .int y2)]) (st2 := [.int 6, .int y2]) rfl ?_
    refine aw_icmp_ge tTX3_fillLeft rfl 123 20 rfl rfl (fun hc => ?_) (fun hc => ?_)
    · have h := ok_t hc h
      refine aw_sub [] rfl ?_
      have h := ok_r h
      exact h
    · have h := ok_f hc h
      refine aw_run tTX3_fillLeft 3 (pc2 := 23) (L2 := [(0, .ref 23), (1, .ref 1), (2, .int a2), (3, .int y2)]) (st2 := [.int a2, .int y2, .ref 1]) rfl ?_
      obtain ⟨r5, er5, h⟩ := ok_b h
      refine aw_cV tTX3_fillLeft rfl 26 rfl (M' := MX0_robBar) (av := [.int y2, .int a2]) (rest := []) rfl lkX3_42 hMX0_robBar rfl (w_1 hS) ⟨_, _, rfl⟩ (s_X0_robBar_1 hS er5) ⟨rfl, rfl, ⟨by decide, by decide⟩, by decide, by decide⟩ (Nat.le_of_ble_eq_true rfl) 46 (wf_len hS) rfl [.int r5] rfl ?_
      refine ok_use (P := fun j6 : Int32 => AW MX3_fillLeft E0 rmX3_fillLeft 0 0 Q 0 0 S σ3 34 [(0, .ref 23), (1, .ref 1), (2, .int a2), (3, .int y2)] [.int j6]) (ok_b h) (fun j6 h => ?_) (fun h => ?_)
      · refine aw_run tTX3_fillLeft 4 (pc2 := 39) (L2 := [(4, .int j6), (0, .ref 23), (1, .ref 1), (2, .int a2), (3, .int y2)]) (st2 := [.int ((1 : Int32) <<< (y2 &&& 31))]) rfl ?_
        refine aw_nm (fun x7 ex7 => ?_)
        have h := ok_nm h x7 ex7
        refine aw_run tTX3_fillLeft 1 (pc2 := 41) (L2 := [(5, .int x7), (4, .int j6), (0, .ref 23), (1, .ref 1), (2, .int a2), (3, .int y2)]) (st2 := []) rfl ?_
        refine aw_run tTX3_fillLeft 2 (pc2 := 44) (L2 := [(6, .int 0), (5, .int x7), (4, .int j6), (0, .ref 23), (1, .ref 1), (2, .int a2), (3, .int y2)]) (st2 := []) rfl ?_
        refine ok_use (P := fun z10 : St => AW MX3_fillLeft E0 rmX3_fillLeft 0 0 Q 0 0 S z10 117 [(0, .ref 23), (1, .ref 1), (2, .int a2), (3, .int y2)] []) (ok_b h) (fun z10 h => ?_) (fun h => ?_)
        · refine aw_run tTX3_fillLeft 2 (pc2 := 14) (L2 := [(3, .int (y2 + 1)), (0, .ref 23), (1, .ref 1), (2, .int a2)]) (st2 := []) rfl ?_
          refine aw_sub [1, 2, 3, 0] rfl ?_
          have h := ok_r h
          exact h
        · refine aw_sub [3, 4, 5, 6, 2, 1, 0] rfl ?_
          refine loop_P (P := fun s : Int32 × St => AW MX3_fillLeft E0 rmX3_fillLeft 0 0 Q 0 0 S s.2 44 [(0, .ref 23), (1, .ref 1), (2, .int a2), (3, .int y2), (4, .int j6), (5, .int x7), (6, .int s.1)] []) (fun s h => ?_) _ _ h
          obtain ⟨y8, σ9⟩ := s
          replace h : ok (l_X3_fillLeft_44 y2 j6 x7 y8 σ9) _ := h
          unfold l_X3_fillLeft_44 at h
          show AW MX3_fillLeft E0 rmX3_fillLeft 0 0 Q 0 0 S σ9 44 [(0, .ref 23), (1, .ref 1), (2, .int a2), (3, .int y2), (4, .int j6), (5, .int x7), (6, .int y8)] []
          refine aw_run tTX3_fillLeft 2 (pc2 := 48) (L2 := [(0, .ref 23), (1, .ref 1), (2, .int a2), (3, .int y2), (4, .int j6), (5, .int x7), (6, .int y8)]) (st2 := [.int x7, .int y8]) rfl ?_
          refine aw_icmp_ge tTX3_fillLeft rfl 117 51 rfl rfl (fun hc => ?_) (fun hc => ?_)
          · have h := ok_t hc h
            refine aw_sub [0, 1, 2, 3] rfl ?_
            have h := ok_r h
            exact h
          · have h := ok_f hc h
            refine aw_run tTX3_fillLeft 1 (pc2 := 52) (L2 := [(0, .ref 23), (1, .ref 1), (2, .int a2), (3, .int y2), (4, .int j6), (5, .int x7), (6, .int y8)]) (st2 := [.ref 23]) rfl ?_
            refine aw_getR tTX3_fillLeft rfl 55 rfl (w_23 hS) rfl flX3_15 ?_
            refine aw_run tTX3_fillLeft 1 (pc2 := 57) (L2 := [(0, .ref 23), (1, .ref 1), (2, .int a2), (3, .int y2), (4, .int j6), (5, .int x7), (6, .int y8)]) (st2 := [.int y8, .ref 25]) rfl ?_
            obtain ⟨hi, h⟩ := ok_gi h
            refine aw_iald tTX3_fillLeft rfl 58 rfl (w_25 hS) hi ?_
            refine aw_run tTX3_fillLeft 2 (pc2 := 62) (L2 := [(7, .int (σ9 25 y8.toNatClampNeg)), (0, .ref 23), (1, .ref 1), (2, .int a2), (3, .int y2), (4, .int j6), (5, .int x7), (6, .int y8)]) (st2 := [.int j6]) rfl ?_
            refine ok_use (P := fun j11 : Int32 => AW MX3_fillLeft E0 rmX3_fillLeft 0 0 Q 0 0 S σ9 75 [(0, .ref 23), (1, .ref 1), (2, .int a2), (3, .int y2), (4, .int j6), (5, .int x7), (6, .int y8), (7, .int (σ9 25 y8.toNatClampNeg))] [.int j11]) (ok_b h) (fun j11 h => ?_) (fun h => ?_)
            · refine aw_run tTX3_fillLeft 2 (pc2 := 78) (L2 := [(8, .int j11), (0, .ref 23), (1, .ref 1), (2, .int a2), (3, .int y2), (4, .int j6), (5, .int x7), (6, .int y8), (7, .int (σ9 25 y8.toNatClampNeg))]) (st2 := [.ref 23]) rfl ?_
              refine aw_getR tTX3_fillLeft rfl 81 rfl (w_23 hS) rfl flX3_15 ?_
              refine aw_run tTX3_fillLeft 4 (pc2 := 88) (L2 := [(8, .int j11), (0, .ref 23), (1, .ref 1), (2, .int a2), (3, .int y2), (4, .int j6), (5, .int x7), (6, .int y8), (7, .int (σ9 25 y8.toNatClampNeg))]) (st2 := [.int j11, .int (y8 ||| x7), .ref 25]) rfl ?_
              refine ok_use (P := fun j12 : Int32 => AW MX3_fillLeft E0 rmX3_fillLeft 0 0 Q 0 0 S σ9 110 [(0, .ref 23), (1, .ref 1), (2, .int a2), (3, .int y2), (4, .int j6), (5, .int x7), (6, .int y8)] [.int j12, .int (y8 ||| x7), .ref 25]) (ok_b h) (fun j12 h => ?_) (fun h => ?_)
              · obtain ⟨hi, h⟩ := ok_gi h
                refine aw_iast tTX3_fillLeft rfl 111 rfl (w_25 hS) hi ?_
                refine aw_nmS (fun σ13 eσ13 => ?_)
                have h := ok_nm h σ13 eσ13
                refine aw_run tTX3_fillLeft 2 (pc2 := 44) (L2 := [(6, .int (y8 + 1)), (0, .ref 23), (1, .ref 1), (2, .int a2), (3, .int y2), (4, .int j6), (5, .int x7)]) (st2 := []) rfl ?_
                refine aw_sub [1, 2, 3, 4, 5, 6, 0] rfl ?_
                have h := ok_r h
                exact h
              · refine aw_if_eq tTX3_fillLeft rfl 108 91 rfl rfl (fun hc => ?_) (fun hc => ?_)
                · have h := ok_t hc h
                  refine aw_run tTX3_fillLeft 1 (pc2 := 110) (L2 := [(8, .int j11), (0, .ref 23), (1, .ref 1), (2, .int a2), (3, .int y2), (4, .int j6), (5, .int x7), (6, .int y8), (7, .int (σ9 25 y8.toNatClampNeg))]) (st2 := [.int (-6 : Int32), .int (y8 ||| x7), .ref 25]) rfl ?_
                  refine aw_sub [1, 2, 3, 4, 5, 6, 7] rfl ?_
                  have h := ok_r h
                  exact h
                · have h := ok_f hc h
                  refine aw_run tTX3_fillLeft 3 (pc2 := 96) (L2 := [(8, .int j11), (0, .ref 23), (1, .ref 1), (2, .int a2), (3, .int y2), (4, .int j6), (5, .int x7), (6, .int y8), (7, .int (σ9 25 y8.toNatClampNeg))]) (st2 := [.ref 1, .int (σ9 25 y8.toNatClampNeg), .int (σ9 25 y8.toNatClampNeg), .int (y8 ||| x7), .ref 25]) rfl ?_
                  refine aw_getR tTX3_fillLeft rfl 99 rfl (w_1 hS) rfl flX3_46 ?_
                  refine aw_run tTX3_fillLeft 1 (pc2 := 100) (L2 := [(8, .int j11), (0, .ref 23), (1, .ref 1), (2, .int a2), (3, .int y2), (4, .int j6), (5, .int x7), (6, .int y8), (7, .int (σ9 25 y8.toNatClampNeg))]) (st2 := [.int y2, .ref 3, .int (σ9 25 y8.toNatClampNeg), .int (σ9 25 y8.toNatClampNeg), .int (y8 ||| x7), .ref 25]) rfl ?_
                  obtain ⟨hi, h⟩ := ok_gi h
                  refine aw_iald tTX3_fillLeft rfl 101 rfl (w_3 hS) hi ?_
                  refine aw_min tTX3_fillLeft rfl 104 rfl lkX3_49 (by decide) (Nat.le_of_ble_eq_true rfl) (Nat.zero_le _) (Nat.zero_le _) ?_
                  refine aw_run tTX3_fillLeft 2 (pc2 := 110) (L2 := [(8, .int j11), (0, .ref 23), (1, .ref 1), (2, .int a2), (3, .int y2), (4, .int j6), (5, .int x7), (6, .int y8), (7, .int (σ9 25 y8.toNatClampNeg))]) (st2 := [.int ((σ9 25 y8.toNatClampNeg) - (jmin (σ9 25 y8.toNatClampNeg) (σ9 3 y2.toNatClampNeg))), .int (y8 ||| x7), .ref 25]) rfl ?_
                  refine aw_sub [1, 2, 3, 4, 5, 6, 7] rfl ?_
                  have h := ok_r h
                  exact h
            · refine aw_if_eq tTX3_fillLeft rfl 74 65 rfl rfl (fun hc => ?_) (fun hc => ?_)
              · have h := ok_t hc h
                refine aw_run tTX3_fillLeft 1 (pc2 := 75) (L2 := [(7, .int (σ9 25 y8.toNatClampNeg)), (0, .ref 23), (1, .ref 1), (2, .int a2), (3, .int y2), (4, .int j6), (5, .int x7), (6, .int y8)]) (st2 := [.int 0]) rfl ?_
                refine aw_sub [1, 2, 3, 4, 5, 6, 7, 0] rfl ?_
                have h := ok_r h
                exact h
              · have h := ok_f hc h
                refine aw_run tTX3_fillLeft 1 (pc2 := 67) (L2 := [(7, .int (σ9 25 y8.toNatClampNeg)), (0, .ref 23), (1, .ref 1), (2, .int a2), (3, .int y2), (4, .int j6), (5, .int x7), (6, .int y8)]) (st2 := [.int (σ9 25 y8.toNatClampNeg)]) rfl ?_
                refine aw_if_le tTX3_fillLeft rfl 74 70 rfl rfl (fun hc => ?_) (fun hc => ?_)
                · have h := ok_t hc h
                  refine aw_run tTX3_fillLeft 1 (pc2 := 75) (L2 := [(7, .int (σ9 25 y8.toNatClampNeg)), (0, .ref 23), (1, .ref 1), (2, .int a2), (3, .int y2), (4, .int j6), (5, .int x7), (6, .int y8)]) (st2 := [.int 0]) rfl ?_
                  refine aw_sub [1, 2, 3, 4, 5, 6, 7, 0] rfl ?_
                  have h := ok_r h
                  exact h
                · have h := ok_f hc h
                  refine aw_run tTX3_fillLeft 2 (pc2 := 75) (L2 := [(7, .int (σ9 25 y8.toNatClampNeg)), (0, .ref 23), (1, .ref 1), (2, .int a2), (3, .int y2), (4, .int j6), (5, .int x7), (6, .int y8)]) (st2 := [.int 1]) rfl ?_
                  refine aw_sub [1, 2, 3, 4, 5, 6, 7, 0] rfl ?_
                  have h := ok_r h
                  exact h
      · refine aw_if_ne tTX3_fillLeft rfl 33 29 rfl rfl (fun hc => ?_) (fun hc => ?_)
        · have h := ok_t hc h
          refine aw_run tTX3_fillLeft 1 (pc2 := 34) (L2 := [(0, .ref 23), (1, .ref 1), (2, .int a2), (3, .int y2)]) (st2 := [.int 0]) rfl ?_
          refine aw_sub [0, 1, 2, 3] rfl ?_
          have h := ok_r h
          exact h
        · have h := ok_fn hc h
          refine aw_run tTX3_fillLeft 2 (pc2 := 34) (L2 := [(0, .ref 23), (1, .ref 1), (2, .int a2), (3, .int y2)]) (st2 := [.int 1]) rfl ?_
          refine aw_sub [0, 1, 2, 3] rfl ?_
          have h := ok_r h
          exact h
theorem s_X3_fillLeft {g : Nat → Option Nat} {S : List SC} (hS : Wf g S) {σ : St} {a2 : Int32} {r : St} (e : f_X3_fillLeft a2 σ = some r) : Fn MX3_fillLeft rmX3_fillLeft [.ref 23, .ref 1, .int a2] S σ none r := Sp.of (by decide) (Nat.le_of_ble_eq_true rfl) (t_X3_fillLeft hS a2 ⟨r, e, rfl, rfl, rfl⟩)
def l_X3_keepFitting_2 (a2 : Int32) (y1 : Int32) (σ2 : St) : Option ((Int32 × St) ⊕ (St)) := if 64 ≤ y1 then (some (.inr σ2)) else (gi y1 64 (Option.bind (α := St) (if (σ2 25 y1.toNatClampNeg) < 0 then (some σ2) else (gi y1 64 (Option.bind (f_X0_fitsSights 1 a2 (σ2 25 y1.toNatClampNeg) σ2) (fun r5 => if ¬ r5 = 0 then (some σ2) else (gi y1 64 (nm (up2 σ2 25 y1.toNatClampNeg (-6 : Int32)) (fun σ6 => some σ6))))))) (fun (j4 : St) => some (.inl (y1 + 1, j4)))))
def f_X3_keepFitting (a2 : Int32) (σ : St) : Option (St) := Option.bind (loop (fun s : Int32 × St => l_X3_keepFitting_2 a2 s.1 s.2) 400 (0, σ)) (fun (z3 : St) => some (z3))
set_option maxHeartbeats 4000000 in
set_option maxRecDepth 20000 in
theorem t_X3_keepFitting {g : Nat → Option Nat} {S : List SC} (hS : Wf g S) {σ : St} {Q : QT} (a2 : Int32) (h : ok (f_X3_keepFitting a2 σ) (fun r => Q none S r)) : AW MX3_keepFitting E0 rmX3_keepFitting 0 0 Q 0 0 S σ 0 [(0, .ref 23), (1, .ref 1), (2, .int a2)] [] := by
  unfold f_X3_keepFitting at h
  refine aw_run tTX3_keepFitting 2 (pc2 := 2) (L2 := [(3, .int 0), (0, .ref 23), (1, .ref 1), (2, .int a2)]) (st2 := []) rfl ?_
  refine ok_use (P := fun z3 : St => AW MX3_keepFitting E0 rmX3_keepFitting 0 0 Q 0 0 S z3 45 [] []) (ok_b h) (fun z3 h => ?_) (fun h => ?_)
  · have h := ok_r h
    exact aw_vr tTX3_keepFitting rfl rfl (Nat.le_refl _) (Nat.le_refl _) h
  · refine aw_sub [1, 2, 3, 0] rfl ?_
    refine loop_P (P := fun s : Int32 × St => AW MX3_keepFitting E0 rmX3_keepFitting 0 0 Q 0 0 S s.2 2 [(0, .ref 23), (1, .ref 1), (2, .int a2), (3, .int s.1)] []) (fun s h => ?_) _ _ h
    obtain ⟨y1, σ2⟩ := s
    replace h : ok (l_X3_keepFitting_2 a2 y1 σ2) _ := h
    unfold l_X3_keepFitting_2 at h
    show AW MX3_keepFitting E0 rmX3_keepFitting 0 0 Q 0 0 S σ2 2 [(0, .ref 23), (1, .ref 1), (2, .int a2), (3, .int y1)] []
    refine aw_run tTX3_keepFitting 2 (pc2 := 5) (L2 := [(0, .ref 23), (1, .ref 1), (2, .int a2), (3, .int y1)]) (st2 := [.int 64, .int y1]) rfl ?_
    refine aw_icmp_ge tTX3_keepFitting rfl 45 8 rfl rfl (fun hc => ?_) (fun hc => ?_)
    · have h := ok_t hc h
      refine aw_sub [] rfl ?_
      have h := ok_r h
      exact h
    · have h := ok_f hc h
      refine aw_run tTX3_keepFitting 1 (pc2 := 9) (L2 := [(0, .ref 23), (1, .ref 1), (2, .int a2), (3, .int y1)]) (st2 := [.ref 23]) rfl ?_
      refine aw_getR tTX3_keepFitting rfl 12 rfl (w_23 hS) rfl flX3_15 ?_
      refine aw_run tTX3_keepFitting 1 (pc2 := 13) (L2 := [(0, .ref 23), (1, .ref 1), (2, .int a2), (3, .int y1)]) (st2 := [.int y1, .ref 25]) rfl ?_
      obtain ⟨hi, h⟩ := ok_gi h
      refine aw_iald tTX3_keepFitting rfl 14 rfl (w_25 hS) hi ?_
      refine ok_use (P := fun j4 : St => AW MX3_keepFitting E0 rmX3_keepFitting 0 0 Q 0 0 S j4 39 [(0, .ref 23), (1, .ref 1), (2, .int a2), (3, .int y1)] []) (ok_b h) (fun j4 h => ?_) (fun h => ?_)
      · refine aw_run tTX3_keepFitting 2 (pc2 := 2) (L2 := [(3, .int (y1 + 1)), (0, .ref 23), (1, .ref 1), (2, .int a2)]) (st2 := []) rfl ?_
        refine aw_sub [1, 2, 3, 0] rfl ?_
        have h := ok_r h
        exact h
      · refine aw_if_lt tTX3_keepFitting rfl 39 17 rfl rfl (fun hc => ?_) (fun hc => ?_)
        · have h := ok_t hc h
          refine aw_sub [0, 1, 2, 3] rfl ?_
          have h := ok_r h
          exact h
        · have h := ok_f hc h
          refine aw_run tTX3_keepFitting 3 (pc2 := 20) (L2 := [(0, .ref 23), (1, .ref 1), (2, .int a2), (3, .int y1)]) (st2 := [.ref 23, .int a2, .ref 1]) rfl ?_
          refine aw_getR tTX3_keepFitting rfl 23 rfl (w_23 hS) rfl flX3_15 ?_
          refine aw_run tTX3_keepFitting 1 (pc2 := 24) (L2 := [(0, .ref 23), (1, .ref 1), (2, .int a2), (3, .int y1)]) (st2 := [.int y1, .ref 25, .int a2, .ref 1]) rfl ?_
          obtain ⟨hi, h⟩ := ok_gi h
          refine aw_iald tTX3_keepFitting rfl 25 rfl (w_25 hS) hi ?_
          obtain ⟨r5, er5, h⟩ := ok_b h
          refine aw_cV tTX3_keepFitting rfl 28 rfl (M' := MX0_fitsSights) (av := [.int a2, .int (σ2 25 y1.toNatClampNeg)]) (rest := []) rfl lkX3_54 hMX0_fitsSights rfl (w_1 hS) ⟨_, _, rfl⟩ (s_X0_fitsSights hS er5) ⟨rfl, rfl, ⟨by decide, by decide⟩, by decide, by decide⟩ (Nat.le_of_ble_eq_true rfl) 46 (wf_len hS) rfl [.int r5] rfl ?_
          refine aw_if_ne tTX3_keepFitting rfl 39 31 rfl rfl (fun hc => ?_) (fun hc => ?_)
          · have h := ok_t hc h
            refine aw_sub [0, 1, 2, 3] rfl ?_
            have h := ok_r h
            exact h
          · have h := ok_fn hc h
            refine aw_run tTX3_keepFitting 1 (pc2 := 32) (L2 := [(0, .ref 23), (1, .ref 1), (2, .int a2), (3, .int y1)]) (st2 := [.ref 23]) rfl ?_
            refine aw_getR tTX3_keepFitting rfl 35 rfl (w_23 hS) rfl flX3_15 ?_
            refine aw_run tTX3_keepFitting 2 (pc2 := 38) (L2 := [(0, .ref 23), (1, .ref 1), (2, .int a2), (3, .int y1)]) (st2 := [.int (-6 : Int32), .int y1, .ref 25]) rfl ?_
            obtain ⟨hi, h⟩ := ok_gi h
            refine aw_iast tTX3_keepFitting rfl 39 rfl (w_25 hS) hi ?_
            refine aw_nmS (fun σ6 eσ6 => ?_)
            have h := ok_nm h σ6 eσ6
            refine aw_sub [0, 1, 2, 3] rfl ?_
            have h := ok_r h
            exact h
theorem s_X3_keepFitting {g : Nat → Option Nat} {S : List SC} (hS : Wf g S) {σ : St} {a2 : Int32} {r : St} (e : f_X3_keepFitting a2 σ = some r) : Fn MX3_keepFitting rmX3_keepFitting [.ref 23, .ref 1, .int a2] S σ none r := Sp.of (by decide) (Nat.le_of_ble_eq_true rfl) (t_X3_keepFitting hS a2 ⟨r, e, rfl, rfl, rfl⟩)
def l_X3_spread_29 (y1 : Int32) (σ2 : St) (y5 : Int32) (y6 : Int32) : Option ((Int32 × Int32) ⊕ (Int32)) := if y6 ≤ 0 then (some (.inr y5)) else (gi y6 64 (Option.bind (α := Int32) (if (σ2 25 y6.toNatClampNeg) < 0 then (some y5) else (gi (y1 ^^^ y6) 64 (nm (y5 + (σ2 24 (y1 ^^^ y6).toNatClampNeg)) (fun (x9 : Int32) => some x9)))) (fun (j8 : Int32) => some (.inl (j8, (y6 - 1) &&& y1)))))
def l_X3_spread_3  (y1 : Int32) (σ2 : St) : Option ((Int32 × St) ⊕ (St)) := if y1 < 0 then (some (.inr σ2)) else (gi 0 64 (Option.bind (α := Int32) (if (σ2 25 (0 : Int32).toNatClampNeg) < 0 then (some 0) else (gi y1 64 (some (σ2 24 y1.toNatClampNeg)))) (fun (j4 : Int32) => Option.bind (loop (fun s : Int32 × Int32 => l_X3_spread_29 y1 σ2 s.1 s.2) 400 (j4, y1)) (fun (z7 : Int32) => gi y1 64 (nm (up2 σ2 24 y1.toNatClampNeg z7) (fun σ10 => some (.inl (y1 + (-1 : Int32), σ10))))))))
def f_X3_spread  (σ : St) : Option (St) := Option.bind (loop (fun s : Int32 × St => l_X3_spread_3  s.1 s.2) 400 (63, σ)) (fun (z3 : St) => some (z3))
set_option maxHeartbeats 4000000 in
set_option maxRecDepth 20000 in
theorem t_X3_spread {g : Nat → Option Nat} {S : List SC} (hS : Wf g S) {σ : St} {Q : QT}  (h : ok (f_X3_spread  σ) (fun r => Q none S r)) : AW MX3_spread E0 rmX3_spread 0 0 Q 0 0 S σ 0 [(0, .ref 23)] [] := by
  unfold f_X3_spread at h
  refine aw_run tTX3_spread 2 (pc2 := 3) (L2 := [(1, .int 63), (0, .ref 23)]) (st2 := []) rfl ?_
  refine ok_use (P := fun z3 : St => AW MX3_spread E0 rmX3_spread 0 0 Q 0 0 S z3 75 [] []) (ok_b h) (fun z3 h => ?_) (fun h => ?_)
  · have h := ok_r h
    exact aw_vr tTX3_spread rfl rfl (Nat.le_refl _) (Nat.le_refl _) h
  · refine aw_sub [1, 0] rfl ?_
    refine loop_P (P := fun s : Int32 × St => AW MX3_spread E0 rmX3_spread 0 0 Q 0 0 S s.2 3 [(0, .ref 23), (1, .int s.1)] []) (fun s h => ?_) _ _ h
    obtain ⟨y1, σ2⟩ := s
    replace h : ok (l_X3_spread_3  y1 σ2) _ := h
    unfold l_X3_spread_3 at h
    show AW MX3_spread E0 rmX3_spread 0 0 Q 0 0 S σ2 3 [(0, .ref 23), (1, .int y1)] []
    refine aw_run tTX3_spread 1 (pc2 := 4) (L2 := [(0, .ref 23), (1, .int y1)]) (st2 := [.int y1]) rfl ?_
    refine aw_if_lt tTX3_spread rfl 75 7 rfl rfl (fun hc => ?_) (fun hc => ?_)
    · have h := ok_t hc h
      refine aw_sub [] rfl ?_
      have h := ok_r h
      exact h
    · have h := ok_f hc h
      refine aw_run tTX3_spread 1 (pc2 := 8) (L2 := [(0, .ref 23), (1, .int y1)]) (st2 := [.ref 23]) rfl ?_
      refine aw_getR tTX3_spread rfl 11 rfl (w_23 hS) rfl flX3_15 ?_
      refine aw_run tTX3_spread 1 (pc2 := 12) (L2 := [(0, .ref 23), (1, .int y1)]) (st2 := [.int 0, .ref 25]) rfl ?_
      obtain ⟨hi, h⟩ := ok_gi h
      refine aw_iald tTX3_spread rfl 13 rfl (w_25 hS) hi ?_
      refine ok_use (P := fun j4 : Int32 => AW MX3_spread E0 rmX3_spread 0 0 Q 0 0 S σ2 26 [(0, .ref 23), (1, .int y1)] [.int j4]) (ok_b h) (fun j4 h => ?_) (fun h => ?_)
      · refine aw_run tTX3_spread 3 (pc2 := 29) (L2 := [(3, .int y1), (2, .int j4), (0, .ref 23), (1, .int y1)]) (st2 := []) rfl ?_
        refine ok_use (P := fun z7 : Int32 => AW MX3_spread E0 rmX3_spread 0 0 Q 0 0 S σ2 62 [(0, .ref 23), (1, .int y1), (2, .int z7)] []) (ok_b h) (fun z7 h => ?_) (fun h => ?_)
        · refine aw_run tTX3_spread 1 (pc2 := 63) (L2 := [(0, .ref 23), (1, .int y1), (2, .int z7)]) (st2 := [.ref 23]) rfl ?_
          refine aw_getR tTX3_spread rfl 66 rfl (w_23 hS) rfl flX3_9 ?_
          refine aw_run tTX3_spread 2 (pc2 := 68) (L2 := [(0, .ref 23), (1, .int y1), (2, .int z7)]) (st2 := [.int z7, .int y1, .ref 24]) rfl ?_
          obtain ⟨hi, h⟩ := ok_gi h
          refine aw_iast tTX3_spread rfl 69 rfl (w_24 hS) hi ?_
          refine aw_nmS (fun σ10 eσ10 => ?_)
          have h := ok_nm h σ10 eσ10
          refine aw_run tTX3_spread 2 (pc2 := 3) (L2 := [(1, .int (y1 + (-1 : Int32))), (0, .ref 23), (2, .int z7)]) (st2 := []) rfl ?_
          refine aw_sub [1, 0] rfl ?_
          have h := ok_r h
          exact h
        · refine aw_sub [2, 3, 1, 0] rfl ?_
          refine loop_P (P := fun s : Int32 × Int32 => AW MX3_spread E0 rmX3_spread 0 0 Q 0 0 S σ2 29 [(0, .ref 23), (1, .int y1), (2, .int s.1), (3, .int s.2)] []) (fun s h => ?_) _ _ h
          obtain ⟨y5, y6⟩ := s
          replace h : ok (l_X3_spread_29 y1 σ2 y5 y6) _ := h
          unfold l_X3_spread_29 at h
          show AW MX3_spread E0 rmX3_spread 0 0 Q 0 0 S σ2 29 [(0, .ref 23), (1, .int y1), (2, .int y5), (3, .int y6)] []
          refine aw_run tTX3_spread 1 (pc2 := 30) (L2 := [(0, .ref 23), (1, .int y1), (2, .int y5), (3, .int y6)]) (st2 := [.int y6]) rfl ?_
          refine aw_if_le tTX3_spread rfl 62 33 rfl rfl (fun hc => ?_) (fun hc => ?_)
          · have h := ok_t hc h
            refine aw_sub [0, 1, 2] rfl ?_
            have h := ok_r h
            exact h
          · have h := ok_f hc h
            refine aw_run tTX3_spread 1 (pc2 := 34) (L2 := [(0, .ref 23), (1, .int y1), (2, .int y5), (3, .int y6)]) (st2 := [.ref 23]) rfl ?_
            refine aw_getR tTX3_spread rfl 37 rfl (w_23 hS) rfl flX3_15 ?_
            refine aw_run tTX3_spread 1 (pc2 := 38) (L2 := [(0, .ref 23), (1, .int y1), (2, .int y5), (3, .int y6)]) (st2 := [.int y6, .ref 25]) rfl ?_
            obtain ⟨hi, h⟩ := ok_gi h
            refine aw_iald tTX3_spread rfl 39 rfl (w_25 hS) hi ?_
            refine ok_use (P := fun j8 : Int32 => AW MX3_spread E0 rmX3_spread 0 0 Q 0 0 S σ2 53 [(0, .ref 23), (1, .int y1), (2, .int j8), (3, .int y6)] []) (ok_b h) (fun j8 h => ?_) (fun h => ?_)
            · refine aw_run tTX3_spread 7 (pc2 := 29) (L2 := [(3, .int ((y6 - 1) &&& y1)), (0, .ref 23), (1, .int y1), (2, .int j8)]) (st2 := []) rfl ?_
              refine aw_sub [1, 2, 3, 0] rfl ?_
              have h := ok_r h
              exact h
            · refine aw_if_lt tTX3_spread rfl 53 42 rfl rfl (fun hc => ?_) (fun hc => ?_)
              · have h := ok_t hc h
                refine aw_sub [0, 1, 2, 3] rfl ?_
                have h := ok_r h
                exact h
              · have h := ok_f hc h
                refine aw_run tTX3_spread 2 (pc2 := 44) (L2 := [(0, .ref 23), (1, .int y1), (2, .int y5), (3, .int y6)]) (st2 := [.ref 23, .int y5]) rfl ?_
                refine aw_getR tTX3_spread rfl 47 rfl (w_23 hS) rfl flX3_9 ?_
                refine aw_run tTX3_spread 3 (pc2 := 50) (L2 := [(0, .ref 23), (1, .int y1), (2, .int y5), (3, .int y6)]) (st2 := [.int (y1 ^^^ y6), .ref 24, .int y5]) rfl ?_
                obtain ⟨hi, h⟩ := ok_gi h
                refine aw_iald tTX3_spread rfl 51 rfl (w_24 hS) hi ?_
                refine aw_run tTX3_spread 1 (pc2 := 52) (L2 := [(0, .ref 23), (1, .int y1), (2, .int y5), (3, .int y6)]) (st2 := [.int (y5 + (σ2 24 (y1 ^^^ y6).toNatClampNeg))]) rfl ?_
                refine aw_nm (fun x9 ex9 => ?_)
                have h := ok_nm h x9 ex9
                refine aw_run tTX3_spread 1 (pc2 := 53) (L2 := [(2, .int x9), (0, .ref 23), (1, .int y1), (3, .int y6)]) (st2 := []) rfl ?_
                refine aw_sub [1, 2, 0, 3] rfl ?_
                have h := ok_r h
                exact h
      · refine aw_if_lt tTX3_spread rfl 25 16 rfl rfl (fun hc => ?_) (fun hc => ?_)
        · have h := ok_t hc h
          refine aw_run tTX3_spread 1 (pc2 := 26) (L2 := [(0, .ref 23), (1, .int y1)]) (st2 := [.int 0]) rfl ?_
          refine aw_sub [0, 1] rfl ?_
          have h := ok_r h
          exact h
        · have h := ok_f hc h
          refine aw_run tTX3_spread 1 (pc2 := 17) (L2 := [(0, .ref 23), (1, .int y1)]) (st2 := [.ref 23]) rfl ?_
          refine aw_getR tTX3_spread rfl 20 rfl (w_23 hS) rfl flX3_9 ?_
          refine aw_run tTX3_spread 1 (pc2 := 21) (L2 := [(0, .ref 23), (1, .int y1)]) (st2 := [.int y1, .ref 24]) rfl ?_
          obtain ⟨hi, h⟩ := ok_gi h
          refine aw_iald tTX3_spread rfl 22 rfl (w_24 hS) hi ?_
          refine aw_run tTX3_spread 1 (pc2 := 26) (L2 := [(0, .ref 23), (1, .int y1)]) (st2 := [.int (σ2 24 y1.toNatClampNeg)]) rfl ?_
          refine aw_sub [0, 1] rfl ?_
          have h := ok_r h
          exact h
theorem s_X3_spread {g : Nat → Option Nat} {S : List SC} (hS : Wf g S) {σ : St}  {r : St} (e : f_X3_spread  σ = some r) : Fn MX3_spread rmX3_spread [.ref 23] S σ none r := Sp.of (by decide) (Nat.le_of_ble_eq_true rfl) (t_X3_spread hS  ⟨r, e, rfl, rfl, rfl⟩)
def l_X3_countWithout_17 (a2 : Int32) (y3 : Int32) (σ4 : St) : Option ((Int32 × St) ⊕ (St)) := if 6 ≤ y3 then (some (.inr σ4)) else (Option.bind (α := St) (if y3 = a2 then (some σ4) else (Option.bind (f_X3_fillLeft y3 σ4) (fun r7 => Option.bind (f_X3_keepFitting y3 r7) (fun r8 => Option.bind (f_X3_spread  r8) (fun r9 => some r9))))) (fun (j6 : St) => some (.inl (y3 + 1, j6))))
def f_X3_countWithout (a2 : Int32) (σ : St) : Option (St) := nm (fillS σ 24 64 0) (fun σ1 => gi 0 64 (nm (up2 σ1 24 (0 : Int32).toNatClampNeg 1) (fun σ2 => Option.bind (loop (fun s : Int32 × St => l_X3_countWithout_17 a2 s.1 s.2) 400 (0, σ2)) (fun (z5 : St) => some (z5)))))
set_option maxHeartbeats 4000000 in
set_option maxRecDepth 20000 in
theorem t_X3_countWithout {g : Nat → Option Nat} {S : List SC} (hS : Wf g S) {σ : St} {Q : QT} (a2 : Int32) (h : ok (f_X3_countWithout a2 σ) (fun r => Q none S r)) : AW MX3_countWithout E0 rmX3_countWithout 0 0 Q 0 0 S σ 0 [(0, .ref 23), (1, .ref 1), (2, .int a2)] [] := by
  unfold f_X3_countWithout at h
  refine aw_run tTX3_countWithout 1 (pc2 := 1) (L2 := [(0, .ref 23), (1, .ref 1), (2, .int a2)]) (st2 := [.ref 23]) rfl ?_
  refine aw_getR tTX3_countWithout rfl 4 rfl (w_23 hS) rfl flX3_9 ?_
  refine aw_run tTX3_countWithout 1 (pc2 := 5) (L2 := [(0, .ref 23), (1, .ref 1), (2, .int a2)]) (st2 := [.int 0, .ref 24]) rfl ?_
  refine aw_cS tTX3_countWithout rfl 8 rfl (M' := MJ7_fill_53178) (av := [.ref 24, .int 0]) (rest := []) rfl lkX3_21 hMJ7_fill_53178 rfl (s_fill (w_24 hS) (by decide)) ⟨rfl, rfl, ⟨by decide, by decide⟩, by decide, by decide⟩ (Nat.le_of_ble_eq_true rfl) 46 (wf_len hS) rfl [] rfl ?_
  refine aw_nmS (fun σ1 eσ1 => ?_)
  have h := ok_nm h σ1 eσ1
  refine aw_run tTX3_countWithout 1 (pc2 := 9) (L2 := [(0, .ref 23), (1, .ref 1), (2, .int a2)]) (st2 := [.ref 23]) rfl ?_
  refine aw_getR tTX3_countWithout rfl 12 rfl (w_23 hS) rfl flX3_9 ?_
  refine aw_run tTX3_countWithout 2 (pc2 := 14) (L2 := [(0, .ref 23), (1, .ref 1), (2, .int a2)]) (st2 := [.int 1, .int 0, .ref 24]) rfl ?_
  obtain ⟨hi, h⟩ := ok_gi h
  refine aw_iast tTX3_countWithout rfl 15 rfl (w_24 hS) hi ?_
  refine aw_nmS (fun σ2 eσ2 => ?_)
  have h := ok_nm h σ2 eσ2
  refine aw_run tTX3_countWithout 2 (pc2 := 17) (L2 := [(3, .int 0), (0, .ref 23), (1, .ref 1), (2, .int a2)]) (st2 := []) rfl ?_
  refine ok_use (P := fun z5 : St => AW MX3_countWithout E0 rmX3_countWithout 0 0 Q 0 0 S z5 50 [] []) (ok_b h) (fun z5 h => ?_) (fun h => ?_)
  · have h := ok_r h
    exact aw_vr tTX3_countWithout rfl rfl (Nat.le_refl _) (Nat.le_refl _) h
  · refine aw_sub [1, 2, 3, 0] rfl ?_
    refine loop_P (P := fun s : Int32 × St => AW MX3_countWithout E0 rmX3_countWithout 0 0 Q 0 0 S s.2 17 [(0, .ref 23), (1, .ref 1), (2, .int a2), (3, .int s.1)] []) (fun s h => ?_) _ _ h
    obtain ⟨y3, σ4⟩ := s
    replace h : ok (l_X3_countWithout_17 a2 y3 σ4) _ := h
    unfold l_X3_countWithout_17 at h
    show AW MX3_countWithout E0 rmX3_countWithout 0 0 Q 0 0 S σ4 17 [(0, .ref 23), (1, .ref 1), (2, .int a2), (3, .int y3)] []
    refine aw_run tTX3_countWithout 2 (pc2 := 20) (L2 := [(0, .ref 23), (1, .ref 1), (2, .int a2), (3, .int y3)]) (st2 := [.int 6, .int y3]) rfl ?_
    refine aw_icmp_ge tTX3_countWithout rfl 50 23 rfl rfl (fun hc => ?_) (fun hc => ?_)
    · have h := ok_t hc h
      refine aw_sub [] rfl ?_
      have h := ok_r h
      exact h
    · have h := ok_f hc h
      refine aw_run tTX3_countWithout 2 (pc2 := 25) (L2 := [(0, .ref 23), (1, .ref 1), (2, .int a2), (3, .int y3)]) (st2 := [.int a2, .int y3]) rfl ?_
      refine ok_use (P := fun j6 : St => AW MX3_countWithout E0 rmX3_countWithout 0 0 Q 0 0 S j6 44 [(0, .ref 23), (1, .ref 1), (2, .int a2), (3, .int y3)] []) (ok_b h) (fun j6 h => ?_) (fun h => ?_)
      · refine aw_run tTX3_countWithout 2 (pc2 := 17) (L2 := [(3, .int (y3 + 1)), (0, .ref 23), (1, .ref 1), (2, .int a2)]) (st2 := []) rfl ?_
        refine aw_sub [1, 2, 3, 0] rfl ?_
        have h := ok_r h
        exact h
      · refine aw_icmp_eq tTX3_countWithout rfl 44 28 rfl rfl (fun hc => ?_) (fun hc => ?_)
        · have h := ok_t hc h
          refine aw_sub [0, 1, 2, 3] rfl ?_
          have h := ok_r h
          exact h
        · have h := ok_f hc h
          refine aw_run tTX3_countWithout 3 (pc2 := 31) (L2 := [(0, .ref 23), (1, .ref 1), (2, .int a2), (3, .int y3)]) (st2 := [.int y3, .ref 1, .ref 23]) rfl ?_
          obtain ⟨r7, er7, h⟩ := ok_b h
          refine aw_cV tTX3_countWithout rfl 34 rfl (M' := MX3_fillLeft) (av := [.ref 1, .int y3]) (rest := []) rfl lkX3_27 hMX3_fillLeft rfl (w_23 hS) ⟨_, _, rfl⟩ (s_X3_fillLeft hS er7) ⟨rfl, rfl, ⟨by decide, by decide⟩, by decide, by decide⟩ (Nat.le_of_ble_eq_true rfl) 46 (wf_len hS) rfl [] rfl ?_
          refine aw_run tTX3_countWithout 3 (pc2 := 37) (L2 := [(0, .ref 23), (1, .ref 1), (2, .int a2), (3, .int y3)]) (st2 := [.int y3, .ref 1, .ref 23]) rfl ?_
          obtain ⟨r8, er8, h⟩ := ok_b h
          refine aw_cV tTX3_countWithout rfl 40 rfl (M' := MX3_keepFitting) (av := [.ref 1, .int y3]) (rest := []) rfl lkX3_31 hMX3_keepFitting rfl (w_23 hS) ⟨_, _, rfl⟩ (s_X3_keepFitting hS er8) ⟨rfl, rfl, ⟨by decide, by decide⟩, by decide, by decide⟩ (Nat.le_of_ble_eq_true rfl) 46 (wf_len hS) rfl [] rfl ?_
          refine aw_run tTX3_countWithout 1 (pc2 := 41) (L2 := [(0, .ref 23), (1, .ref 1), (2, .int a2), (3, .int y3)]) (st2 := [.ref 23]) rfl ?_
          obtain ⟨r9, er9, h⟩ := ok_b h
          refine aw_cV tTX3_countWithout rfl 44 rfl (M' := MX3_spread) (av := []) (rest := []) rfl lkX3_34 hMX3_spread rfl (w_23 hS) ⟨_, _, rfl⟩ (s_X3_spread hS er9) ⟨rfl, rfl, ⟨by decide, by decide⟩, by decide, by decide⟩ (Nat.le_of_ble_eq_true rfl) 46 (wf_len hS) rfl [] rfl ?_
          refine aw_sub [0, 1, 2, 3] rfl ?_
          have h := ok_r h
          exact h
theorem s_X3_countWithout {g : Nat → Option Nat} {S : List SC} (hS : Wf g S) {σ : St} {a2 : Int32} {r : St} (e : f_X3_countWithout a2 σ = some r) : Fn MX3_countWithout rmX3_countWithout [.ref 23, .ref 1, .int a2] S σ none r := Sp.of (by decide) (Nat.le_of_ble_eq_true rfl) (t_X3_countWithout hS a2 ⟨r, e, rfl, rfl, rfl⟩)
def l_X3_waysWithin_4 (a1 : Int32) (σ : St) (y1 : Int32) (y2 : Int32) : Option ((Int32 × Int32) ⊕ (Int32)) := if 64 ≤ y2 then (some (.inr y1)) else (Option.bind (α := Int32) (if ¬ (y2 &&& (a1 ^^^ (-1 : Int32))) = 0 then (some y1) else (gi y2 64 (nm (y1 + (σ 24 y2.toNatClampNeg)) (fun (x5 : Int32) => some x5)))) (fun (j4 : Int32) => some (.inl (j4, y2 + 1))))
def f_X3_waysWithin (a1 : Int32) (σ : St) : Option (Int32) := Option.bind (loop (fun s : Int32 × Int32 => l_X3_waysWithin_4 a1 σ s.1 s.2) 400 (0, 0)) (fun (z3 : Int32) => some (z3))
set_option maxHeartbeats 4000000 in
set_option maxRecDepth 20000 in
theorem t_X3_waysWithin {g : Nat → Option Nat} {S : List SC} (hS : Wf g S) {σ : St} {Q : QT} (a1 : Int32) (h : ok (f_X3_waysWithin a1 σ) (fun r => Q (some (.int r)) S σ)) : AW MX3_waysWithin E0 rmX3_waysWithin 0 0 Q 0 0 S σ 0 [(0, .ref 23), (1, .int a1)] [] := by
  unfold f_X3_waysWithin at h
  refine aw_run tTX3_waysWithin 4 (pc2 := 4) (L2 := [(3, .int 0), (2, .int 0), (0, .ref 23), (1, .int a1)]) (st2 := []) rfl ?_
  refine ok_use (P := fun z3 : Int32 => AW MX3_waysWithin E0 rmX3_waysWithin 0 0 Q 0 0 S σ 33 [(2, .int z3)] []) (ok_b h) (fun z3 h => ?_) (fun h => ?_)
  · refine aw_run tTX3_waysWithin 1 (pc2 := 34) (L2 := [(2, .int z3)]) (st2 := [.int z3]) rfl ?_
    have h := ok_r h
    exact aw_ir tTX3_waysWithin rfl rfl rfl (Nat.le_refl _) (Nat.le_refl _) h
  · refine aw_sub [2, 3, 1, 0] rfl ?_
    refine loop_P (P := fun s : Int32 × Int32 => AW MX3_waysWithin E0 rmX3_waysWithin 0 0 Q 0 0 S σ 4 [(0, .ref 23), (1, .int a1), (2, .int s.1), (3, .int s.2)] []) (fun s h => ?_) _ _ h
    obtain ⟨y1, y2⟩ := s
    replace h : ok (l_X3_waysWithin_4 a1 σ y1 y2) _ := h
    unfold l_X3_waysWithin_4 at h
    show AW MX3_waysWithin E0 rmX3_waysWithin 0 0 Q 0 0 S σ 4 [(0, .ref 23), (1, .int a1), (2, .int y1), (3, .int y2)] []
    refine aw_run tTX3_waysWithin 2 (pc2 := 7) (L2 := [(0, .ref 23), (1, .int a1), (2, .int y1), (3, .int y2)]) (st2 := [.int 64, .int y2]) rfl ?_
    refine aw_icmp_ge tTX3_waysWithin rfl 33 10 rfl rfl (fun hc => ?_) (fun hc => ?_)
    · have h := ok_t hc h
      refine aw_sub [2] rfl ?_
      have h := ok_r h
      exact h
    · have h := ok_f hc h
      refine aw_run tTX3_waysWithin 5 (pc2 := 15) (L2 := [(0, .ref 23), (1, .int a1), (2, .int y1), (3, .int y2)]) (st2 := [.int (y2 &&& (a1 ^^^ (-1 : Int32)))]) rfl ?_
      refine ok_use (P := fun j4 : Int32 => AW MX3_waysWithin E0 rmX3_waysWithin 0 0 Q 0 0 S σ 27 [(0, .ref 23), (1, .int a1), (2, .int j4), (3, .int y2)] []) (ok_b h) (fun j4 h => ?_) (fun h => ?_)
      · refine aw_run tTX3_waysWithin 2 (pc2 := 4) (L2 := [(3, .int (y2 + 1)), (0, .ref 23), (1, .int a1), (2, .int j4)]) (st2 := []) rfl ?_
        refine aw_sub [1, 2, 3, 0] rfl ?_
        have h := ok_r h
        exact h
      · refine aw_if_ne tTX3_waysWithin rfl 27 18 rfl rfl (fun hc => ?_) (fun hc => ?_)
        · have h := ok_t hc h
          refine aw_sub [0, 1, 2, 3] rfl ?_
          have h := ok_r h
          exact h
        · have h := ok_fn hc h
          refine aw_run tTX3_waysWithin 2 (pc2 := 20) (L2 := [(0, .ref 23), (1, .int a1), (2, .int y1), (3, .int y2)]) (st2 := [.ref 23, .int y1]) rfl ?_
          refine aw_getR tTX3_waysWithin rfl 23 rfl (w_23 hS) rfl flX3_9 ?_
          refine aw_run tTX3_waysWithin 1 (pc2 := 24) (L2 := [(0, .ref 23), (1, .int a1), (2, .int y1), (3, .int y2)]) (st2 := [.int y2, .ref 24, .int y1]) rfl ?_
          obtain ⟨hi, h⟩ := ok_gi h
          refine aw_iald tTX3_waysWithin rfl 25 rfl (w_24 hS) hi ?_
          refine aw_run tTX3_waysWithin 1 (pc2 := 26) (L2 := [(0, .ref 23), (1, .int a1), (2, .int y1), (3, .int y2)]) (st2 := [.int (y1 + (σ 24 y2.toNatClampNeg))]) rfl ?_
          refine aw_nm (fun x5 ex5 => ?_)
          have h := ok_nm h x5 ex5
          refine aw_run tTX3_waysWithin 1 (pc2 := 27) (L2 := [(2, .int x5), (0, .ref 23), (1, .int a1), (3, .int y2)]) (st2 := []) rfl ?_
          refine aw_sub [1, 2, 0, 3] rfl ?_
          have h := ok_r h
          exact h
theorem s_X3_waysWithin {g : Nat → Option Nat} {S : List SC} (hS : Wf g S) {σ : St} {a1 : Int32} {r : Int32} (e : f_X3_waysWithin a1 σ = some r) : Fn MX3_waysWithin rmX3_waysWithin [.ref 23, .int a1] S σ (some (.int r)) σ := Sp.of (by decide) (Nat.le_of_ble_eq_true rfl) (t_X3_waysWithin hS a1 ⟨r, e, rfl, rfl, rfl⟩)
def f_X3_total  (σ : St) : Option (Int32) := Option.bind (f_X3_waysWithin 63 σ) (fun r1 => some (r1))
set_option maxHeartbeats 4000000 in
set_option maxRecDepth 20000 in
theorem t_X3_total {g : Nat → Option Nat} {S : List SC} (hS : Wf g S) {σ : St} {Q : QT}  (h : ok (f_X3_total  σ) (fun r => Q (some (.int r)) S σ)) : AW MX3_total E0 rmX3_total 0 0 Q 0 0 S σ 0 [(0, .ref 23)] [] := by
  unfold f_X3_total at h
  refine aw_run tTX3_total 2 (pc2 := 3) (L2 := [(0, .ref 23)]) (st2 := [.int 63, .ref 23]) rfl ?_
  obtain ⟨r1, er1, h⟩ := ok_b h
  refine aw_cV tTX3_total rfl 6 rfl (M' := MX3_waysWithin) (av := [.int 63]) (rest := []) rfl lkX3_58 hMX3_waysWithin rfl (w_23 hS) ⟨_, _, rfl⟩ (s_X3_waysWithin hS er1) ⟨rfl, rfl, ⟨by decide, by decide⟩, by decide, by decide⟩ (Nat.le_of_ble_eq_true rfl) 46 (wf_len hS) rfl [.int r1] rfl ?_
  have h := ok_r h
  exact aw_ir tTX3_total rfl rfl rfl (Nat.le_refl _) (Nat.le_refl _) h
theorem s_X3_total {g : Nat → Option Nat} {S : List SC} (hS : Wf g S) {σ : St}  {r : Int32} (e : f_X3_total  σ = some r) : Fn MX3_total rmX3_total [.ref 23] S σ (some (.int r)) σ := Sp.of (by decide) (Nat.le_of_ble_eq_true rfl) (t_X3_total hS  ⟨r, e, rfl, rfl, rfl⟩)
def l_X3_outInSome_4 (σ : St) (y1 : Int32) (y2 : Int32) : Option ((Int32 × Int32) ⊕ (Int32)) := if 64 ≤ y2 then (some (.inr y1)) else (gi y2 64 (Option.bind (α := Int32) (if (σ 24 y2.toNatClampNeg) ≤ 0 then (some y1) else (some (y1 ||| y2))) (fun (j4 : Int32) => some (.inl (j4, y2 + 1)))))
def f_X3_outInSome  (σ : St) : Option (Int32) := Option.bind (loop (fun s : Int32 × Int32 => l_X3_outInSome_4 σ s.1 s.2) 400 (0, 0)) (fun (z3 : Int32) => some (z3))
set_option maxHeartbeats 4000000 in
set_option maxRecDepth 20000 in
theorem t_X3_outInSome {g : Nat → Option Nat} {S : List SC} (hS : Wf g S) {σ : St} {Q : QT}  (h : ok (f_X3_outInSome  σ) (fun r => Q (some (.int r)) S σ)) : AW MX3_outInSome E0 rmX3_outInSome 0 0 Q 0 0 S σ 0 [(0, .ref 23)] [] := by
  unfold f_X3_outInSome at h
  refine aw_run tTX3_outInSome 4 (pc2 := 4) (L2 := [(2, .int 0), (1, .int 0), (0, .ref 23)]) (st2 := []) rfl ?_
  refine ok_use (P := fun z3 : Int32 => AW MX3_outInSome E0 rmX3_outInSome 0 0 Q 0 0 S σ 29 [(1, .int z3)] []) (ok_b h) (fun z3 h => ?_) (fun h => ?_)
  · refine aw_run tTX3_outInSome 1 (pc2 := 30) (L2 := [(1, .int z3)]) (st2 := [.int z3]) rfl ?_
    have h := ok_r h
    exact aw_ir tTX3_outInSome rfl rfl rfl (Nat.le_refl _) (Nat.le_refl _) h
  · refine aw_sub [2, 1, 0] rfl ?_
    refine loop_P (P := fun s : Int32 × Int32 => AW MX3_outInSome E0 rmX3_outInSome 0 0 Q 0 0 S σ 4 [(0, .ref 23), (1, .int s.1), (2, .int s.2)] []) (fun s h => ?_) _ _ h
    obtain ⟨y1, y2⟩ := s
    replace h : ok (l_X3_outInSome_4 σ y1 y2) _ := h
    unfold l_X3_outInSome_4 at h
    show AW MX3_outInSome E0 rmX3_outInSome 0 0 Q 0 0 S σ 4 [(0, .ref 23), (1, .int y1), (2, .int y2)] []
    refine aw_run tTX3_outInSome 2 (pc2 := 7) (L2 := [(0, .ref 23), (1, .int y1), (2, .int y2)]) (st2 := [.int 64, .int y2]) rfl ?_
    refine aw_icmp_ge tTX3_outInSome rfl 29 10 rfl rfl (fun hc => ?_) (fun hc => ?_)
    · have h := ok_t hc h
      refine aw_sub [1] rfl ?_
      have h := ok_r h
      exact h
    · have h := ok_f hc h
      refine aw_run tTX3_outInSome 1 (pc2 := 11) (L2 := [(0, .ref 23), (1, .int y1), (2, .int y2)]) (st2 := [.ref 23]) rfl ?_
      refine aw_getR tTX3_outInSome rfl 14 rfl (w_23 hS) rfl flX3_9 ?_
      refine aw_run tTX3_outInSome 1 (pc2 := 15) (L2 := [(0, .ref 23), (1, .int y1), (2, .int y2)]) (st2 := [.int y2, .ref 24]) rfl ?_
      obtain ⟨hi, h⟩ := ok_gi h
      refine aw_iald tTX3_outInSome rfl 16 rfl (w_24 hS) hi ?_
      refine ok_use (P := fun j4 : Int32 => AW MX3_outInSome E0 rmX3_outInSome 0 0 Q 0 0 S σ 23 [(0, .ref 23), (1, .int j4), (2, .int y2)] []) (ok_b h) (fun j4 h => ?_) (fun h => ?_)
      · refine aw_run tTX3_outInSome 2 (pc2 := 4) (L2 := [(2, .int (y2 + 1)), (0, .ref 23), (1, .int j4)]) (st2 := []) rfl ?_
        refine aw_sub [1, 2, 0] rfl ?_
        have h := ok_r h
        exact h
      · refine aw_if_le tTX3_outInSome rfl 23 19 rfl rfl (fun hc => ?_) (fun hc => ?_)
        · have h := ok_t hc h
          refine aw_sub [0, 1, 2] rfl ?_
          have h := ok_r h
          exact h
        · have h := ok_f hc h
          refine aw_run tTX3_outInSome 4 (pc2 := 23) (L2 := [(1, .int (y1 ||| y2)), (0, .ref 23), (2, .int y2)]) (st2 := []) rfl ?_
          refine aw_sub [1, 0, 2] rfl ?_
          have h := ok_r h
          exact h
theorem s_X3_outInSome {g : Nat → Option Nat} {S : List SC} (hS : Wf g S) {σ : St}  {r : Int32} (e : f_X3_outInSome  σ = some r) : Fn MX3_outInSome rmX3_outInSome [.ref 23] S σ (some (.int r)) σ := Sp.of (by decide) (Nat.le_of_ble_eq_true rfl) (t_X3_outInSome hS  ⟨r, e, rfl, rfl, rfl⟩)
def l_X3_outInAll_5 (σ : St) (y1 : Int32) (y2 : Int32) : Option ((Int32 × Int32) ⊕ (Int32)) := if 64 ≤ y2 then (some (.inr y1)) else (gi y2 64 (Option.bind (α := Int32) (if (σ 24 y2.toNatClampNeg) ≤ 0 then (some y1) else (some (y1 &&& y2))) (fun (j4 : Int32) => some (.inl (j4, y2 + 1)))))
def f_X3_outInAll  (σ : St) : Option (Int32) := Option.bind (loop (fun s : Int32 × Int32 => l_X3_outInAll_5 σ s.1 s.2) 400 (63, 0)) (fun (z3 : Int32) => Option.bind (f_X3_total  σ) (fun r5 => if ¬ r5 = 0 then (some (z3)) else (some (0))))
set_option maxHeartbeats 4000000 in
set_option maxRecDepth 20000 in
theorem t_X3_outInAll {g : Nat → Option Nat} {S : List SC} (hS : Wf g S) {σ : St} {Q : QT}  (h : ok (f_X3_outInAll  σ) (fun r => Q (some (.int r)) S σ)) : AW MX3_outInAll E0 rmX3_outInAll 0 0 Q 0 0 S σ 0 [(0, .ref 23)] [] := by
  unfold f_X3_outInAll at h
  refine aw_run tTX3_outInAll 4 (pc2 := 5) (L2 := [(2, .int 0), (1, .int 63), (0, .ref 23)]) (st2 := []) rfl ?_
  refine ok_use (P := fun z3 : Int32 => AW MX3_outInAll E0 rmX3_outInAll 0 0 Q 0 0 S σ 30 [(0, .ref 23), (1, .int z3)] []) (ok_b h) (fun z3 h => ?_) (fun h => ?_)
  · refine aw_run tTX3_outInAll 1 (pc2 := 31) (L2 := [(0, .ref 23), (1, .int z3)]) (st2 := [.ref 23]) rfl ?_
    obtain ⟨r5, er5, h⟩ := ok_b h
    refine aw_cV tTX3_outInAll rfl 34 rfl (M' := MX3_total) (av := []) (rest := []) rfl lkX3_62 hMX3_total rfl (w_23 hS) ⟨_, _, rfl⟩ (s_X3_total hS er5) ⟨rfl, rfl, ⟨by decide, by decide⟩, by decide, by decide⟩ (Nat.le_of_ble_eq_true rfl) 46 (wf_len hS) rfl [.int r5] rfl ?_
    refine aw_if_ne tTX3_outInAll rfl 41 37 rfl rfl (fun hc => ?_) (fun hc => ?_)
    · have h := ok_t hc h
      refine aw_run tTX3_outInAll 1 (pc2 := 42) (L2 := [(0, .ref 23), (1, .int z3)]) (st2 := [.int z3]) rfl ?_
      have h := ok_r h
      exact aw_ir tTX3_outInAll rfl rfl rfl (Nat.le_refl _) (Nat.le_refl _) h
    · have h := ok_fn hc h
      refine aw_run tTX3_outInAll 2 (pc2 := 42) (L2 := [(0, .ref 23), (1, .int z3)]) (st2 := [.int 0]) rfl ?_
      have h := ok_r h
      exact aw_ir tTX3_outInAll rfl rfl rfl (Nat.le_refl _) (Nat.le_refl _) h
  · refine aw_sub [2, 1, 0] rfl ?_
    refine loop_P (P := fun s : Int32 × Int32 => AW MX3_outInAll E0 rmX3_outInAll 0 0 Q 0 0 S σ 5 [(0, .ref 23), (1, .int s.1), (2, .int s.2)] []) (fun s h => ?_) _ _ h
    obtain ⟨y1, y2⟩ := s
    replace h : ok (l_X3_outInAll_5 σ y1 y2) _ := h
    unfold l_X3_outInAll_5 at h
    show AW MX3_outInAll E0 rmX3_outInAll 0 0 Q 0 0 S σ 5 [(0, .ref 23), (1, .int y1), (2, .int y2)] []
    refine aw_run tTX3_outInAll 2 (pc2 := 8) (L2 := [(0, .ref 23), (1, .int y1), (2, .int y2)]) (st2 := [.int 64, .int y2]) rfl ?_
    refine aw_icmp_ge tTX3_outInAll rfl 30 11 rfl rfl (fun hc => ?_) (fun hc => ?_)
    · have h := ok_t hc h
      refine aw_sub [0, 1] rfl ?_
      have h := ok_r h
      exact h
    · have h := ok_f hc h
      refine aw_run tTX3_outInAll 1 (pc2 := 12) (L2 := [(0, .ref 23), (1, .int y1), (2, .int y2)]) (st2 := [.ref 23]) rfl ?_
      refine aw_getR tTX3_outInAll rfl 15 rfl (w_23 hS) rfl flX3_9 ?_
      refine aw_run tTX3_outInAll 1 (pc2 := 16) (L2 := [(0, .ref 23), (1, .int y1), (2, .int y2)]) (st2 := [.int y2, .ref 24]) rfl ?_
      obtain ⟨hi, h⟩ := ok_gi h
      refine aw_iald tTX3_outInAll rfl 17 rfl (w_24 hS) hi ?_
      refine ok_use (P := fun j4 : Int32 => AW MX3_outInAll E0 rmX3_outInAll 0 0 Q 0 0 S σ 24 [(0, .ref 23), (1, .int j4), (2, .int y2)] []) (ok_b h) (fun j4 h => ?_) (fun h => ?_)
      · refine aw_run tTX3_outInAll 2 (pc2 := 5) (L2 := [(2, .int (y2 + 1)), (0, .ref 23), (1, .int j4)]) (st2 := []) rfl ?_
        refine aw_sub [1, 2, 0] rfl ?_
        have h := ok_r h
        exact h
      · refine aw_if_le tTX3_outInAll rfl 24 20 rfl rfl (fun hc => ?_) (fun hc => ?_)
        · have h := ok_t hc h
          refine aw_sub [0, 1, 2] rfl ?_
          have h := ok_r h
          exact h
        · have h := ok_f hc h
          refine aw_run tTX3_outInAll 4 (pc2 := 24) (L2 := [(1, .int (y1 &&& y2)), (0, .ref 23), (2, .int y2)]) (st2 := []) rfl ?_
          refine aw_sub [1, 0, 2] rfl ?_
          have h := ok_r h
          exact h
theorem s_X3_outInAll {g : Nat → Option Nat} {S : List SC} (hS : Wf g S) {σ : St}  {r : Int32} (e : f_X3_outInAll  σ = some r) : Fn MX3_outInAll rmX3_outInAll [.ref 23] S σ (some (.int r)) σ := Sp.of (by decide) (Nat.le_of_ble_eq_true rfl) (t_X3_outInAll hS  ⟨r, e, rfl, rfl, rfl⟩)
def l_X3_mostLeftBy_25  (y4 : Int32) (y5 : Int32) (σ6 : St) : Option ((Int32 × Int32 × St) ⊕ (Int32 × St)) := if 64 ≤ y5 then (some (.inr (y4, σ6))) else (gi y5 64 (Option.bind (f_X5_within (σ6 25 y5.toNatClampNeg) 0 99) (fun r8 => Option.bind (α := Int32 × St) (if r8 = 0 then (some (y4, σ6)) else (gi (σ6 25 y5.toNatClampNeg) 100 (Option.bind (f_X3_waysWithin (y5 ^^^ (-1 : Int32)) σ6) (fun r10 => gi (σ6 25 y5.toNatClampNeg) 100 (nm (up2 σ6 26 (σ6 25 y5.toNatClampNeg).toNatClampNeg ((σ6 26 (σ6 25 y5.toNatClampNeg).toNatClampNeg) + r10)) (fun σ11 => gi (σ6 25 y5.toNatClampNeg) 100 (nm (jmax y4 (σ11 26 (σ6 25 y5.toNatClampNeg).toNatClampNeg)) (fun (x12 : Int32) => some (x12, σ11))))))))) (fun (j9 : Int32 × St) => some (.inl (j9.1, y5 + 1, j9.2))))))
def f_X3_mostLeftBy (a2 : Int32) (σ : St) : Option (Int32 × St) := Option.bind (f_X3_countWithout a2 σ) (fun r1 => Option.bind (f_X3_fillLeft a2 r1) (fun r2 => nm (fillS r2 26 100 0) (fun σ3 => Option.bind (loop (fun s : Int32 × Int32 × St => l_X3_mostLeftBy_25  s.1 s.2.1 s.2.2) 400 (0, 0, σ3)) (fun (z7 : Int32 × St) => some ((z7.1, z7.2))))))
set_option maxHeartbeats 4000000 in
set_option maxRecDepth 20000 in
theorem t_X3_mostLeftBy {g : Nat → Option Nat} {S : List SC} (hS : Wf g S) {σ : St} {Q : QT} (a2 : Int32) (h : ok (f_X3_mostLeftBy a2 σ) (fun r => Q (some (.int r.1)) S r.2)) : AW MX3_mostLeftBy E0 rmX3_mostLeftBy 0 0 Q 0 0 S σ 0 [(0, .ref 23), (1, .ref 1), (2, .int a2)] [] := by
  unfold f_X3_mostLeftBy at h
  refine aw_run tTX3_mostLeftBy 3 (pc2 := 3) (L2 := [(0, .ref 23), (1, .ref 1), (2, .int a2)]) (st2 := [.int a2, .ref 1, .ref 23]) rfl ?_
  obtain ⟨r1, er1, h⟩ := ok_b h
  refine aw_cV tTX3_mostLeftBy rfl 6 rfl (M' := MX3_countWithout) (av := [.ref 1, .int a2]) (rest := []) rfl lkX3_66 hMX3_countWithout rfl (w_23 hS) ⟨_, _, rfl⟩ (s_X3_countWithout hS er1) ⟨rfl, rfl, ⟨by decide, by decide⟩, by decide, by decide⟩ (Nat.le_of_ble_eq_true rfl) 46 (wf_len hS) rfl [] rfl ?_
  refine aw_run tTX3_mostLeftBy 3 (pc2 := 9) (L2 := [(0, .ref 23), (1, .ref 1), (2, .int a2)]) (st2 := [.int a2, .ref 1, .ref 23]) rfl ?_
  obtain ⟨r2, er2, h⟩ := ok_b h
  refine aw_cV tTX3_mostLeftBy rfl 12 rfl (M' := MX3_fillLeft) (av := [.ref 1, .int a2]) (rest := []) rfl lkX3_27 hMX3_fillLeft rfl (w_23 hS) ⟨_, _, rfl⟩ (s_X3_fillLeft hS er2) ⟨rfl, rfl, ⟨by decide, by decide⟩, by decide, by decide⟩ (Nat.le_of_ble_eq_true rfl) 46 (wf_len hS) rfl [] rfl ?_
  refine aw_run tTX3_mostLeftBy 1 (pc2 := 13) (L2 := [(0, .ref 23), (1, .ref 1), (2, .int a2)]) (st2 := [.ref 23]) rfl ?_
  refine aw_getR tTX3_mostLeftBy rfl 16 rfl (w_23 hS) rfl flX3_18 ?_
  refine aw_run tTX3_mostLeftBy 1 (pc2 := 17) (L2 := [(0, .ref 23), (1, .ref 1), (2, .int a2)]) (st2 := [.int 0, .ref 26]) rfl ?_
  refine aw_cS tTX3_mostLeftBy rfl 20 rfl (M' := MJ7_fill_53178) (av := [.ref 26, .int 0]) (rest := []) rfl lkX3_21 hMJ7_fill_53178 rfl (s_fill (w_26 hS) (by decide)) ⟨rfl, rfl, ⟨by decide, by decide⟩, by decide, by decide⟩ (Nat.le_of_ble_eq_true rfl) 46 (wf_len hS) rfl [] rfl ?_
  refine aw_nmS (fun σ3 eσ3 => ?_)
  have h := ok_nm h σ3 eσ3
  refine aw_run tTX3_mostLeftBy 4 (pc2 := 25) (L2 := [(4, .int 0), (3, .int 0), (0, .ref 23), (1, .ref 1), (2, .int a2)]) (st2 := []) rfl ?_
  refine ok_use (P := fun z7 : Int32 × St => AW MX3_mostLeftBy E0 rmX3_mostLeftBy 0 0 Q 0 0 S z7.2 88 [(3, .int z7.1)] []) (ok_b h) (fun z7 h => ?_) (fun h => ?_)
  · refine aw_run tTX3_mostLeftBy 1 (pc2 := 89) (L2 := [(3, .int z7.1)]) (st2 := [.int z7.1]) rfl ?_
    have h := ok_r h
    exact aw_ir tTX3_mostLeftBy rfl rfl rfl (Nat.le_refl _) (Nat.le_refl _) h
  · refine aw_sub [2, 1, 0] rfl ?_
    refine loop_P (P := fun s : Int32 × Int32 × St => AW MX3_mostLeftBy E0 rmX3_mostLeftBy 0 0 Q 0 0 S s.2.2 25 [(0, .ref 23), (3, .int s.1), (4, .int s.2.1)] []) (fun s h => ?_) _ _ h
    obtain ⟨y4, y5, σ6⟩ := s
    replace h : ok (l_X3_mostLeftBy_25  y4 y5 σ6) _ := h
    unfold l_X3_mostLeftBy_25 at h
    show AW MX3_mostLeftBy E0 rmX3_mostLeftBy 0 0 Q 0 0 S σ6 25 [(0, .ref 23), (3, .int y4), (4, .int y5)] []
    refine aw_run tTX3_mostLeftBy 2 (pc2 := 29) (L2 := [(0, .ref 23), (3, .int y4), (4, .int y5)]) (st2 := [.int 64, .int y5]) rfl ?_
    refine aw_icmp_ge tTX3_mostLeftBy rfl 88 32 rfl rfl (fun hc => ?_) (fun hc => ?_)
    · have h := ok_t hc h
      refine aw_sub [1] rfl ?_
      have h := ok_r h
      exact h
    · have h := ok_f hc h
      refine aw_run tTX3_mostLeftBy 1 (pc2 := 33) (L2 := [(0, .ref 23), (3, .int y4), (4, .int y5)]) (st2 := [.ref 23]) rfl ?_
      refine aw_getR tTX3_mostLeftBy rfl 36 rfl (w_23 hS) rfl flX3_15 ?_
      refine aw_run tTX3_mostLeftBy 1 (pc2 := 38) (L2 := [(0, .ref 23), (3, .int y4), (4, .int y5)]) (st2 := [.int y5, .ref 25]) rfl ?_
      obtain ⟨hi, h⟩ := ok_gi h
      refine aw_iald tTX3_mostLeftBy rfl 39 rfl (w_25 hS) hi ?_
      refine aw_run tTX3_mostLeftBy 4 (pc2 := 46) (L2 := [(5, .int (σ6 25 y5.toNatClampNeg)), (0, .ref 23), (3, .int y4), (4, .int y5)]) (st2 := [.int 99, .int 0, .int (σ6 25 y5.toNatClampNeg)]) rfl ?_
      obtain ⟨r8, er8, h⟩ := ok_b h
      refine aw_cSN tTX3_mostLeftBy rfl 49 rfl (M' := MX5_within) (av := [.int (σ6 25 y5.toNatClampNeg), .int 0, .int 99]) (rest := []) rfl lkNX3_69 hMX5_within rfl (s_X5_within hS er8) ⟨rfl, rfl, ⟨by decide, by decide⟩, by decide, by decide⟩ (Nat.le_of_ble_eq_true rfl) 46 (wf_len hS) rfl [.int r8] rfl ?_
      refine ok_use (P := fun j9 : Int32 × St => AW MX3_mostLeftBy E0 rmX3_mostLeftBy 0 0 Q 0 0 S j9.2 82 [(0, .ref 23), (3, .int j9.1), (4, .int y5)] []) (ok_b h) (fun j9 h => ?_) (fun h => ?_)
      · refine aw_run tTX3_mostLeftBy 2 (pc2 := 25) (L2 := [(4, .int (y5 + 1)), (0, .ref 23), (3, .int j9.1)]) (st2 := []) rfl ?_
        refine aw_sub [1, 2, 0] rfl ?_
        have h := ok_r h
        exact h
      · refine aw_if_eq tTX3_mostLeftBy rfl 82 52 rfl rfl (fun hc => ?_) (fun hc => ?_)
        · have h := ok_t hc h
          refine aw_sub [1, 2, 3] rfl ?_
          have h := ok_r h
          exact h
        · have h := ok_f hc h
          refine aw_run tTX3_mostLeftBy 1 (pc2 := 53) (L2 := [(5, .int (σ6 25 y5.toNatClampNeg)), (0, .ref 23), (3, .int y4), (4, .int y5)]) (st2 := [.ref 23]) rfl ?_
          refine aw_getR tTX3_mostLeftBy rfl 56 rfl (w_23 hS) rfl flX3_18 ?_
          refine aw_run tTX3_mostLeftBy 2 (pc2 := 59) (L2 := [(5, .int (σ6 25 y5.toNatClampNeg)), (0, .ref 23), (3, .int y4), (4, .int y5)]) (st2 := [.int (σ6 25 y5.toNatClampNeg), .ref 26, .int (σ6 25 y5.toNatClampNeg), .ref 26]) rfl ?_
          obtain ⟨hi, h⟩ := ok_gi h
          refine aw_iald tTX3_mostLeftBy rfl 60 rfl (w_26 hS) hi ?_
          refine aw_run tTX3_mostLeftBy 4 (pc2 := 65) (L2 := [(5, .int (σ6 25 y5.toNatClampNeg)), (0, .ref 23), (3, .int y4), (4, .int y5)]) (st2 := [.int (y5 ^^^ (-1 : Int32)), .ref 23, .int (σ6 26 (σ6 25 y5.toNatClampNeg).toNatClampNeg), .int (σ6 25 y5.toNatClampNeg), .ref 26]) rfl ?_
          obtain ⟨r10, er10, h⟩ := ok_b h
          refine aw_cV tTX3_mostLeftBy rfl 68 rfl (M' := MX3_waysWithin) (av := [.int (y5 ^^^ (-1 : Int32))]) (rest := [.int (σ6 26 (σ6 25 y5.toNatClampNeg).toNatClampNeg), .int (σ6 25 y5.toNatClampNeg), .ref 26]) rfl lkX3_58 hMX3_waysWithin rfl (w_23 hS) ⟨_, _, rfl⟩ (s_X3_waysWithin hS er10) ⟨rfl, rfl, ⟨by decide, by decide⟩, by decide, by decide⟩ (Nat.le_of_ble_eq_true rfl) 46 (wf_len hS) rfl [.int r10, .int (σ6 26 (σ6 25 y5.toNatClampNeg).toNatClampNeg), .int (σ6 25 y5.toNatClampNeg), .ref 26] rfl ?_
          refine aw_run tTX3_mostLeftBy 1 (pc2 := 69) (L2 := [(5, .int (σ6 25 y5.toNatClampNeg)), (0, .ref 23), (3, .int y4), (4, .int y5)]) (st2 := [.int ((σ6 26 (σ6 25 y5.toNatClampNeg).toNatClampNeg) + r10), .int (σ6 25 y5.toNatClampNeg), .ref 26]) rfl ?_
          obtain ⟨hi, h⟩ := ok_gi h
          refine aw_iast tTX3_mostLeftBy rfl 70 rfl (w_26 hS) hi ?_
          refine aw_nmS (fun σ11 eσ11 => ?_)
          have h := ok_nm h σ11 eσ11
          refine aw_run tTX3_mostLeftBy 2 (pc2 := 72) (L2 := [(5, .int (σ6 25 y5.toNatClampNeg)), (0, .ref 23), (3, .int y4), (4, .int y5)]) (st2 := [.ref 23, .int y4]) rfl ?_
          refine aw_getR tTX3_mostLeftBy rfl 75 rfl (w_23 hS) rfl flX3_18 ?_
          refine aw_run tTX3_mostLeftBy 1 (pc2 := 77) (L2 := [(5, .int (σ6 25 y5.toNatClampNeg)), (0, .ref 23), (3, .int y4), (4, .int y5)]) (st2 := [.int (σ6 25 y5.toNatClampNeg), .ref 26, .int y4]) rfl ?_
          obtain ⟨hi, h⟩ := ok_gi h
          refine aw_iald tTX3_mostLeftBy rfl 78 rfl (w_26 hS) hi ?_
          refine aw_max tTX3_mostLeftBy rfl 81 rfl lkX3_73 (by decide) (Nat.le_of_ble_eq_true rfl) (Nat.zero_le _) (Nat.zero_le _) ?_
          refine aw_nm (fun x12 ex12 => ?_)
          have h := ok_nm h x12 ex12
          refine aw_run tTX3_mostLeftBy 1 (pc2 := 82) (L2 := [(3, .int x12), (5, .int (σ6 25 y5.toNatClampNeg)), (0, .ref 23), (4, .int y5)]) (st2 := []) rfl ?_
          refine aw_sub [2, 0, 3] rfl ?_
          have h := ok_r h
          exact h
theorem s_X3_mostLeftBy {g : Nat → Option Nat} {S : List SC} (hS : Wf g S) {σ : St} {a2 : Int32} {r : Int32 × St} (e : f_X3_mostLeftBy a2 σ = some r) : Fn MX3_mostLeftBy rmX3_mostLeftBy [.ref 23, .ref 1, .int a2] S σ (some (.int r.1)) r.2 := Sp.of (by decide) (Nat.le_of_ble_eq_true rfl) (t_X3_mostLeftBy hS a2 ⟨r, e, rfl, rfl, rfl⟩)
