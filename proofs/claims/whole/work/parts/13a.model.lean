/-! lifted by program (wip/gen/lift.py) -/
def f_X6_in (a1 : Int32) (a2 : Int32) (a3 : Int32)  : Option (Int32) := if a1 < a2 then (some (0)) else (if a3 < a1 then (some (0)) else (some (1)))
set_option maxHeartbeats 4000000 in
set_option maxRecDepth 20000 in
theorem t_X6_in {g : Nat → Option Nat} {S : List SC} (hS : Wf g S) {σ : St} {Q : QT} (a1 : Int32) (a2 : Int32) (a3 : Int32) (h : ok (f_X6_in a1 a2 a3 ) (fun r => Q (some (.int r)) S σ)) : AW MX6_in E0 rmX6_in 0 0 Q 0 0 S σ 0 [(0, .int a1), (1, .int a2), (2, .int a3)] [] := by
  unfold f_X6_in at h
  refine aw_run tTX6_in 2 (pc2 := 2) (L2 := [(0, .int a1), (1, .int a2), (2, .int a3)]) (st2 := [.int a2, .int a1]) rfl ?_
  refine aw_icmp_lt tTX6_in rfl 14 5 rfl rfl (fun hc => ?_) (fun hc => ?_)
  · have h := ok_t hc h
    refine aw_run tTX6_in 1 (pc2 := 15) (L2 := [(0, .int a1), (1, .int a2), (2, .int a3)]) (st2 := [.int 0]) rfl ?_
    have h := ok_r h
    exact aw_ir tTX6_in rfl rfl rfl (Nat.le_refl _) (Nat.le_refl _) h
  · have h := ok_f hc h
    refine aw_run tTX6_in 2 (pc2 := 7) (L2 := [(0, .int a1), (1, .int a2), (2, .int a3)]) (st2 := [.int a3, .int a1]) rfl ?_
    refine aw_icmp_gt tTX6_in rfl 14 10 rfl rfl (fun hc => ?_) (fun hc => ?_)
    · have h := ok_t hc h
      refine aw_run tTX6_in 1 (pc2 := 15) (L2 := [(0, .int a1), (1, .int a2), (2, .int a3)]) (st2 := [.int 0]) rfl ?_
      have h := ok_r h
      exact aw_ir tTX6_in rfl rfl rfl (Nat.le_refl _) (Nat.le_refl _) h
    · have h := ok_f hc h
      refine aw_run tTX6_in 2 (pc2 := 15) (L2 := [(0, .int a1), (1, .int a2), (2, .int a3)]) (st2 := [.int 1]) rfl ?_
      have h := ok_r h
      exact aw_ir tTX6_in rfl rfl rfl (Nat.le_refl _) (Nat.le_refl _) h
theorem s_X6_in {g : Nat → Option Nat} {S : List SC} (hS : Wf g S) {σ : St} {a1 : Int32} {a2 : Int32} {a3 : Int32} {r : Int32} (e : f_X6_in a1 a2 a3  = some r) : Fn MX6_in rmX6_in [.int a1, .int a2, .int a3] S σ (some (.int r)) σ := Sp.of (by decide) (Nat.le_of_ble_eq_true rfl) (t_X6_in hS a1 a2 a3 ⟨r, e, rfl, rfl, rfl⟩)
def f_X6_has (a1 : Int32) (a2 : Int32)  : Option (Int32) := if ¬ ((a1 >>> (a2 &&& 31)) &&& 1) = 1 then (some (0)) else (some (1))
set_option maxHeartbeats 4000000 in
set_option maxRecDepth 20000 in
theorem t_X6_has {g : Nat → Option Nat} {S : List SC} (hS : Wf g S) {σ : St} {Q : QT} (a1 : Int32) (a2 : Int32) (h : ok (f_X6_has a1 a2 ) (fun r => Q (some (.int r)) S σ)) : AW MX6_has E0 rmX6_has 0 0 Q 0 0 S σ 0 [(0, .int a1), (1, .int a2)] [] := by
  unfold f_X6_has at h
  refine aw_run tTX6_has 6 (pc2 := 6) (L2 := [(0, .int a1), (1, .int a2)]) (st2 := [.int 1, .int ((a1 >>> (a2 &&& 31)) &&& 1)]) rfl ?_
  refine aw_icmp_ne tTX6_has rfl 13 9 rfl rfl (fun hc => ?_) (fun hc => ?_)
  · have h := ok_t hc h
    refine aw_run tTX6_has 1 (pc2 := 14) (L2 := [(0, .int a1), (1, .int a2)]) (st2 := [.int 0]) rfl ?_
    have h := ok_r h
    exact aw_ir tTX6_has rfl rfl rfl (Nat.le_refl _) (Nat.le_refl _) h
  · have h := ok_fn hc h
    refine aw_run tTX6_has 2 (pc2 := 14) (L2 := [(0, .int a1), (1, .int a2)]) (st2 := [.int 1]) rfl ?_
    have h := ok_r h
    exact aw_ir tTX6_has rfl rfl rfl (Nat.le_refl _) (Nat.le_refl _) h
theorem s_X6_has {g : Nat → Option Nat} {S : List SC} (hS : Wf g S) {σ : St} {a1 : Int32} {a2 : Int32} {r : Int32} (e : f_X6_has a1 a2  = some r) : Fn MX6_has rmX6_has [.int a1, .int a2] S σ (some (.int r)) σ := Sp.of (by decide) (Nat.le_of_ble_eq_true rfl) (t_X6_has hS a1 a2 ⟨r, e, rfl, rfl, rfl⟩)
def l_X6_bits_4 (a1 : Int32) (y1 : Int32) (y2 : Int32) : Option ((Int32 × Int32) ⊕ (Int32)) := if 6 ≤ y2 then (some (.inr y1)) else (nm (y1 + ((a1 >>> (y2 &&& 31)) &&& 1)) (fun (x4 : Int32) => some (.inl (x4, y2 + 1))))
def f_X6_bits (a1 : Int32)  : Option (Int32) := Option.bind (loop (fun s : Int32 × Int32 => l_X6_bits_4 a1 s.1 s.2) 400 (0, 0)) (fun (z3 : Int32) => some (z3))
set_option maxHeartbeats 4000000 in
set_option maxRecDepth 20000 in
theorem t_X6_bits {g : Nat → Option Nat} {S : List SC} (hS : Wf g S) {σ : St} {Q : QT} (a1 : Int32) (h : ok (f_X6_bits a1 ) (fun r => Q (some (.int r)) S σ)) : AW MX6_bits E0 rmX6_bits 0 0 Q 0 0 S σ 0 [(0, .int a1)] [] := by
  unfold f_X6_bits at h
  refine aw_run tTX6_bits 4 (pc2 := 4) (L2 := [(2, .int 0), (1, .int 0), (0, .int a1)]) (st2 := []) rfl ?_
  refine ok_use (P := fun z3 : Int32 => AW MX6_bits E0 rmX6_bits 0 0 Q 0 0 S σ 24 [(1, .int z3)] []) (ok_b h) (fun z3 h => ?_) (fun h => ?_)
  · refine aw_run tTX6_bits 1 (pc2 := 25) (L2 := [(1, .int z3)]) (st2 := [.int z3]) rfl ?_
    have h := ok_r h
    exact aw_ir tTX6_bits rfl rfl rfl (Nat.le_refl _) (Nat.le_refl _) h
  · refine aw_sub [2, 1, 0] rfl ?_
    refine loop_P (P := fun s : Int32 × Int32 => AW MX6_bits E0 rmX6_bits 0 0 Q 0 0 S σ 4 [(0, .int a1), (1, .int s.1), (2, .int s.2)] []) (fun s h => ?_) _ _ h
    obtain ⟨y1, y2⟩ := s
    replace h : ok (l_X6_bits_4 a1 y1 y2) _ := h
    unfold l_X6_bits_4 at h
    show AW MX6_bits E0 rmX6_bits 0 0 Q 0 0 S σ 4 [(0, .int a1), (1, .int y1), (2, .int y2)] []
    refine aw_run tTX6_bits 2 (pc2 := 7) (L2 := [(0, .int a1), (1, .int y1), (2, .int y2)]) (st2 := [.int 6, .int y2]) rfl ?_
    refine aw_icmp_ge tTX6_bits rfl 24 10 rfl rfl (fun hc => ?_) (fun hc => ?_)
    · have h := ok_t hc h
      refine aw_sub [1] rfl ?_
      have h := ok_r h
      exact h
    · have h := ok_f hc h
      refine aw_run tTX6_bits 7 (pc2 := 17) (L2 := [(0, .int a1), (1, .int y1), (2, .int y2)]) (st2 := [.int (y1 + ((a1 >>> (y2 &&& 31)) &&& 1))]) rfl ?_
      refine aw_nm (fun x4 ex4 => ?_)
      have h := ok_nm h x4 ex4
      refine aw_run tTX6_bits 1 (pc2 := 18) (L2 := [(1, .int x4), (0, .int a1), (2, .int y2)]) (st2 := []) rfl ?_
      refine aw_run tTX6_bits 2 (pc2 := 4) (L2 := [(2, .int (y2 + 1)), (1, .int x4), (0, .int a1)]) (st2 := []) rfl ?_
      refine aw_sub [2, 1, 0] rfl ?_
      have h := ok_r h
      exact h
theorem s_X6_bits {g : Nat → Option Nat} {S : List SC} (hS : Wf g S) {σ : St} {a1 : Int32} {r : Int32} (e : f_X6_bits a1  = some r) : Fn MX6_bits rmX6_bits [.int a1] S σ (some (.int r)) σ := Sp.of (by decide) (Nat.le_of_ble_eq_true rfl) (t_X6_bits hS a1 ⟨r, e, rfl, rfl, rfl⟩)
def f_X6_isThere (a1 : Int32) (σ : St) : Option (Int32) := Option.bind (f_X6_in a1 0 5) (fun r1 => if r1 = 0 then (some (0)) else (Option.bind (f_X6_has (σ 29 0) a1) (fun r2 => if r2 = 0 then (some (0)) else (some (1)))))
set_option maxHeartbeats 4000000 in
set_option maxRecDepth 20000 in
theorem t_X6_isThere {g : Nat → Option Nat} {S : List SC} (hS : Wf g S) {σ : St} {Q : QT} (a1 : Int32) (h : ok (f_X6_isThere a1 σ) (fun r => Q (some (.int r)) S σ)) : AW MX6_isThere E0 rmX6_isThere 0 0 Q 0 0 S σ 0 [(0, .ref 29), (1, .int a1)] [] := by
  unfold f_X6_isThere at h
  refine aw_run tTX6_isThere 3 (pc2 := 3) (L2 := [(0, .ref 29), (1, .int a1)]) (st2 := [.int 5, .int 0, .int a1]) rfl ?_
  obtain ⟨r1, er1, h⟩ := ok_b h
  refine aw_cS tTX6_isThere rfl 6 rfl (M' := MX6_in) (av := [.int a1, .int 0, .int 5]) (rest := []) rfl lkX6_66 hMX6_in rfl (s_X6_in hS er1) ⟨rfl, rfl, ⟨by decide, by decide⟩, by decide, by decide⟩ (Nat.le_of_ble_eq_true rfl) 46 (wf_len hS) rfl [.int r1] rfl ?_
  refine aw_if_eq tTX6_isThere rfl 24 9 rfl rfl (fun hc => ?_) (fun hc => ?_)
  · have h := ok_t hc h
    refine aw_run tTX6_isThere 1 (pc2 := 25) (L2 := [(0, .ref 29), (1, .int a1)]) (st2 := [.int 0]) rfl ?_
    have h := ok_r h
    exact aw_ir tTX6_isThere rfl rfl rfl (Nat.le_refl _) (Nat.le_refl _) h
  · have h := ok_f hc h
    refine aw_run tTX6_isThere 1 (pc2 := 10) (L2 := [(0, .ref 29), (1, .int a1)]) (st2 := [.ref 29]) rfl ?_
    refine aw_getI tTX6_isThere rfl 13 rfl (w_29 hS) rfl flX6_63 ?_
    refine aw_run tTX6_isThere 1 (pc2 := 14) (L2 := [(0, .ref 29), (1, .int a1)]) (st2 := [.int a1, .int (σ 29 0)]) rfl ?_
    obtain ⟨r2, er2, h⟩ := ok_b h
    refine aw_cS tTX6_isThere rfl 17 rfl (M' := MX6_has) (av := [.int (σ 29 0), .int a1]) (rest := []) rfl lkX6_70 hMX6_has rfl (s_X6_has hS er2) ⟨rfl, rfl, ⟨by decide, by decide⟩, by decide, by decide⟩ (Nat.le_of_ble_eq_true rfl) 46 (wf_len hS) rfl [.int r2] rfl ?_
    refine aw_if_eq tTX6_isThere rfl 24 20 rfl rfl (fun hc => ?_) (fun hc => ?_)
    · have h := ok_t hc h
      refine aw_run tTX6_isThere 1 (pc2 := 25) (L2 := [(0, .ref 29), (1, .int a1)]) (st2 := [.int 0]) rfl ?_
      have h := ok_r h
      exact aw_ir tTX6_isThere rfl rfl rfl (Nat.le_refl _) (Nat.le_refl _) h
    · have h := ok_f hc h
      refine aw_run tTX6_isThere 2 (pc2 := 25) (L2 := [(0, .ref 29), (1, .int a1)]) (st2 := [.int 1]) rfl ?_
      have h := ok_r h
      exact aw_ir tTX6_isThere rfl rfl rfl (Nat.le_refl _) (Nat.le_refl _) h
theorem s_X6_isThere {g : Nat → Option Nat} {S : List SC} (hS : Wf g S) {σ : St} {a1 : Int32} {r : Int32} (e : f_X6_isThere a1 σ = some r) : Fn MX6_isThere rmX6_isThere [.ref 29, .int a1] S σ (some (.int r)) σ := Sp.of (by decide) (Nat.le_of_ble_eq_true rfl) (t_X6_isThere hS a1 ⟨r, e, rfl, rfl, rfl⟩)
def f_X6_neighbour (a1 : Int32) (a2 : Int32) (a3 : Int32) (σ : St) : Option (Int32 × St) := Option.bind (f_X6_in a1 0 5) (fun r1 => if ¬ r1 = 0 then (Option.bind (f_X6_in a2 0 99) (fun r2 => if r2 = 0 then (some (((-2 : Int32), σ))) else (Option.bind (f_X6_in a3 1 20) (fun r3 => if ¬ r3 = 0 then (Option.bind (f_X6_has (σ 29 0) a1) (fun r4 => Option.bind (α := St) (if ¬ r4 = 0 then (some σ) else (gi a1 6 (nm (up2 σ 33 a1.toNatClampNeg 0) (fun σ10 => gi a1 6 (nm (up2 σ10 34 a1.toNatClampNeg 0) (fun σ11 => gi a1 6 (nm (up2 σ11 35 a1.toNatClampNeg (-6 : Int32)) (fun σ12 => some σ12)))))))) (fun (j5 : St) => nm (up2 j5 29 0 ((j5 29 0) ||| ((1 : Int32) <<< (a1 &&& 31)))) (fun σ6 => gi a1 6 (nm (up2 σ6 32 a1.toNatClampNeg a2) (fun σ7 => gi a1 6 (nm (up2 σ7 30 a1.toNatClampNeg a3) (fun σ8 => Option.bind (f_X6_bits (σ8 29 0)) (fun r9 => some ((r9, σ8))))))))))) else (some (((-2 : Int32), σ))))))) else (some (((-1 : Int32), σ))))
set_option maxHeartbeats 4000000 in
set_option maxRecDepth 20000 in
theorem t_X6_neighbour {g : Nat → Option Nat} {S : List SC} (hS : Wf g S) {σ : St} {Q : QT} (a1 : Int32) (a2 : Int32) (a3 : Int32) (h : ok (f_X6_neighbour a1 a2 a3 σ) (fun r => Q (some (.int r.1)) S r.2)) : AW MX6_neighbour E0 rmX6_neighbour 0 0 Q 0 0 S σ 0 [(0, .ref 29), (1, .int a1), (2, .int a2), (3, .int a3)] [] := by
  unfold f_X6_neighbour at h
  refine aw_run tTX6_neighbour 3 (pc2 := 3) (L2 := [(0, .ref 29), (1, .int a1), (2, .int a2), (3, .int a3)]) (st2 := [.int 5, .int 0, .int a1]) rfl ?_
  obtain ⟨r1, er1, h⟩ := ok_b h
  refine aw_cS tTX6_neighbour rfl 6 rfl (M' := MX6_in) (av := [.int a1, .int 0, .int 5]) (rest := []) rfl lkX6_66 hMX6_in rfl (s_X6_in hS er1) ⟨rfl, rfl, ⟨by decide, by decide⟩, by decide, by decide⟩ (Nat.le_of_ble_eq_true rfl) 46 (wf_len hS) rfl [.int r1] rfl ?_
  refine aw_if_ne tTX6_neighbour rfl 11 9 rfl rfl (fun hc => ?_) (fun hc => ?_)
  · have h := ok_t hc h
    refine aw_run tTX6_neighbour 3 (pc2 := 15) (L2 := [(0, .ref 29), (1, .int a1), (2, .int a2), (3, .int a3)]) (st2 := [.int 99, .int 0, .int a2]) rfl ?_
    obtain ⟨r2, er2, h⟩ := ok_b h
    refine aw_cS tTX6_neighbour rfl 18 rfl (M' := MX6_in) (av := [.int a2, .int 0, .int 99]) (rest := []) rfl lkX6_66 hMX6_in rfl (s_X6_in hS er2) ⟨rfl, rfl, ⟨by decide, by decide⟩, by decide, by decide⟩ (Nat.le_of_ble_eq_true rfl) 46 (wf_len hS) rfl [.int r2] rfl ?_
    refine aw_if_eq tTX6_neighbour rfl 31 21 rfl rfl (fun hc => ?_) (fun hc => ?_)
    · have h := ok_t hc h
      refine aw_run tTX6_neighbour 1 (pc2 := 33) (L2 := [(0, .ref 29), (1, .int a1), (2, .int a2), (3, .int a3)]) (st2 := [.int (-2 : Int32)]) rfl ?_
      have h := ok_r h
      exact aw_ir tTX6_neighbour rfl rfl rfl (Nat.le_refl _) (Nat.le_refl _) h
    · have h := ok_f hc h
      refine aw_run tTX6_neighbour 3 (pc2 := 25) (L2 := [(0, .ref 29), (1, .int a1), (2, .int a2), (3, .int a3)]) (st2 := [.int 20, .int 1, .int a3]) rfl ?_
      obtain ⟨r3, er3, h⟩ := ok_b h
      refine aw_cS tTX6_neighbour rfl 28 rfl (M' := MX6_in) (av := [.int a3, .int 1, .int 20]) (rest := []) rfl lkX6_66 hMX6_in rfl (s_X6_in hS er3) ⟨rfl, rfl, ⟨by decide, by decide⟩, by decide, by decide⟩ (Nat.le_of_ble_eq_true rfl) 46 (wf_len hS) rfl [.int r3] rfl ?_
      refine aw_if_ne tTX6_neighbour rfl 34 31 rfl rfl (fun hc => ?_) (fun hc => ?_)
      · have h := ok_t hc h
        refine aw_run tTX6_neighbour 1 (pc2 := 35) (L2 := [(0, .ref 29), (1, .int a1), (2, .int a2), (3, .int a3)]) (st2 := [.ref 29]) rfl ?_
        refine aw_getI tTX6_neighbour rfl 38 rfl (w_29 hS) rfl flX6_63 ?_
        refine aw_run tTX6_neighbour 1 (pc2 := 39) (L2 := [(0, .ref 29), (1, .int a1), (2, .int a2), (3, .int a3)]) (st2 := [.int a1, .int (σ 29 0)]) rfl ?_
        obtain ⟨r4, er4, h⟩ := ok_b h
        refine aw_cS tTX6_neighbour rfl 42 rfl (M' := MX6_has) (av := [.int (σ 29 0), .int a1]) (rest := []) rfl lkX6_70 hMX6_has rfl (s_X6_has hS er4) ⟨rfl, rfl, ⟨by decide, by decide⟩, by decide, by decide⟩ (Nat.le_of_ble_eq_true rfl) 46 (wf_len hS) rfl [.int r4] rfl ?_
        refine ok_use (P := fun j5 : St => AW MX6_neighbour E0 rmX6_neighbour 0 0 Q 0 0 S j5 67 [(0, .ref 29), (1, .int a1), (2, .int a2), (3, .int a3)] []) (ok_b h) (fun j5 h => ?_) (fun h => ?_)
        · refine aw_run tTX6_neighbour 2 (pc2 := 69) (L2 := [(0, .ref 29), (1, .int a1), (2, .int a2), (3, .int a3)]) (st2 := [.ref 29, .ref 29]) rfl ?_
          refine aw_getI tTX6_neighbour rfl 72 rfl (w_29 hS) rfl flX6_63 ?_
          refine aw_run tTX6_neighbour 4 (pc2 := 76) (L2 := [(0, .ref 29), (1, .int a1), (2, .int a2), (3, .int a3)]) (st2 := [.int ((j5 29 0) ||| ((1 : Int32) <<< (a1 &&& 31))), .ref 29]) rfl ?_
          refine aw_putI tTX6_neighbour rfl 79 rfl (w_29 hS) rfl fpX6_63 ?_
          refine aw_nmS (fun σ6 eσ6 => ?_)
          have h := ok_nm h σ6 eσ6
          refine aw_run tTX6_neighbour 1 (pc2 := 80) (L2 := [(0, .ref 29), (1, .int a1), (2, .int a2), (3, .int a3)]) (st2 := [.ref 29]) rfl ?_
          refine aw_getR tTX6_neighbour rfl 83 rfl (w_29 hS) rfl flX6_20 ?_
          refine aw_run tTX6_neighbour 2 (pc2 := 85) (L2 := [(0, .ref 29), (1, .int a1), (2, .int a2), (3, .int a3)]) (st2 := [.int a2, .int a1, .ref 32]) rfl ?_
          obtain ⟨hi, h⟩ := ok_gi h
          refine aw_iast tTX6_neighbour rfl 86 rfl (w_32 hS) hi ?_
          refine aw_nmS (fun σ7 eσ7 => ?_)
          have h := ok_nm h σ7 eσ7
          refine aw_run tTX6_neighbour 1 (pc2 := 87) (L2 := [(0, .ref 29), (1, .int a1), (2, .int a2), (3, .int a3)]) (st2 := [.ref 29]) rfl ?_
          refine aw_getR tTX6_neighbour rfl 90 rfl (w_29 hS) rfl flX6_7 ?_
          refine aw_run tTX6_neighbour 2 (pc2 := 92) (L2 := [(0, .ref 29), (1, .int a1), (2, .int a2), (3, .int a3)]) (st2 := [.int a3, .int a1, .ref 30]) rfl ?_
          obtain ⟨hi, h⟩ := ok_gi h
          refine aw_iast tTX6_neighbour rfl 93 rfl (w_30 hS) hi ?_
          refine aw_nmS (fun σ8 eσ8 => ?_)
          have h := ok_nm h σ8 eσ8
          refine aw_run tTX6_neighbour 1 (pc2 := 94) (L2 := [(0, .ref 29), (1, .int a1), (2, .int a2), (3, .int a3)]) (st2 := [.ref 29]) rfl ?_
          refine aw_getI tTX6_neighbour rfl 97 rfl (w_29 hS) rfl flX6_63 ?_
          obtain ⟨r9, er9, h⟩ := ok_b h
          refine aw_cS tTX6_neighbour rfl 100 rfl (M' := MX6_bits) (av := [.int (σ8 29 0)]) (rest := []) rfl lkX6_74 hMX6_bits rfl (s_X6_bits hS er9) ⟨rfl, rfl, ⟨by decide, by decide⟩, by decide, by decide⟩ (Nat.le_of_ble_eq_true rfl) 46 (wf_len hS) rfl [.int r9] rfl ?_
          have h := ok_r h
          exact aw_ir tTX6_neighbour rfl rfl rfl (Nat.le_refl _) (Nat.le_refl _) h
        · refine aw_if_ne tTX6_neighbour rfl 67 45 rfl rfl (fun hc => ?_) (fun hc => ?_)
          · have h := ok_t hc h
            refine aw_sub [0, 1, 2, 3] rfl ?_
            have h := ok_r h
            exact h
          · have h := ok_fn hc h
            refine aw_run tTX6_neighbour 1 (pc2 := 46) (L2 := [(0, .ref 29), (1, .int a1), (2, .int a2), (3, .int a3)]) (st2 := [.ref 29]) rfl ?_
            refine aw_getR tTX6_neighbour rfl 49 rfl (w_29 hS) rfl flX6_23 ?_
            refine aw_run tTX6_neighbour 2 (pc2 := 51) (L2 := [(0, .ref 29), (1, .int a1), (2, .int a2), (3, .int a3)]) (st2 := [.int 0, .int a1, .ref 33]) rfl ?_
            obtain ⟨hi, h⟩ := ok_gi h
            refine aw_iast tTX6_neighbour rfl 52 rfl (w_33 hS) hi ?_
            refine aw_nmS (fun σ10 eσ10 => ?_)
            have h := ok_nm h σ10 eσ10
            refine aw_run tTX6_neighbour 1 (pc2 := 53) (L2 := [(0, .ref 29), (1, .int a1), (2, .int a2), (3, .int a3)]) (st2 := [.ref 29]) rfl ?_
            refine aw_getR tTX6_neighbour rfl 56 rfl (w_29 hS) rfl flX6_26 ?_
            refine aw_run tTX6_neighbour 2 (pc2 := 58) (L2 := [(0, .ref 29), (1, .int a1), (2, .int a2), (3, .int a3)]) (st2 := [.int 0, .int a1, .ref 34]) rfl ?_
            obtain ⟨hi, h⟩ := ok_gi h
            refine aw_iast tTX6_neighbour rfl 59 rfl (w_34 hS) hi ?_
            refine aw_nmS (fun σ11 eσ11 => ?_)
            have h := ok_nm h σ11 eσ11
            refine aw_run tTX6_neighbour 1 (pc2 := 60) (L2 := [(0, .ref 29), (1, .int a1), (2, .int a2), (3, .int a3)]) (st2 := [.ref 29]) rfl ?_
            refine aw_getR tTX6_neighbour rfl 63 rfl (w_29 hS) rfl flX6_29 ?_
            refine aw_run tTX6_neighbour 2 (pc2 := 66) (L2 := [(0, .ref 29), (1, .int a1), (2, .int a2), (3, .int a3)]) (st2 := [.int (-6 : Int32), .int a1, .ref 35]) rfl ?_
            obtain ⟨hi, h⟩ := ok_gi h
            refine aw_iast tTX6_neighbour rfl 67 rfl (w_35 hS) hi ?_
            refine aw_nmS (fun σ12 eσ12 => ?_)
            have h := ok_nm h σ12 eσ12
            refine aw_sub [0, 1, 2, 3] rfl ?_
            have h := ok_r h
            exact h
      · have h := ok_fn hc h
        refine aw_run tTX6_neighbour 1 (pc2 := 33) (L2 := [(0, .ref 29), (1, .int a1), (2, .int a2), (3, .int a3)]) (st2 := [.int (-2 : Int32)]) rfl ?_
        have h := ok_r h
        exact aw_ir tTX6_neighbour rfl rfl rfl (Nat.le_refl _) (Nat.le_refl _) h
  · have h := ok_fn hc h
    refine aw_run tTX6_neighbour 1 (pc2 := 10) (L2 := [(0, .ref 29), (1, .int a1), (2, .int a2), (3, .int a3)]) (st2 := [.int (-1 : Int32)]) rfl ?_
    have h := ok_r h
    exact aw_ir tTX6_neighbour rfl rfl rfl (Nat.le_refl _) (Nat.le_refl _) h
theorem s_X6_neighbour {g : Nat → Option Nat} {S : List SC} (hS : Wf g S) {σ : St} {a1 : Int32} {a2 : Int32} {a3 : Int32} {r : Int32 × St} (e : f_X6_neighbour a1 a2 a3 σ = some r) : Fn MX6_neighbour rmX6_neighbour [.ref 29, .int a1, .int a2, .int a3] S σ (some (.int r.1)) r.2 := Sp.of (by decide) (Nat.le_of_ble_eq_true rfl) (t_X6_neighbour hS a1 a2 a3 ⟨r, e, rfl, rfl, rfl⟩)
def l_X6_move_68 (a1 : Int32) (y6 : Int32) (σ7 : St) : Option ((Int32 × St) ⊕ (St)) := if 6 ≤ y6 then (some (.inr σ7)) else (gi y6 6 (gi y6 6 (nm (up2 σ7 34 y6.toNatClampNeg ((σ7 34 y6.toNatClampNeg) &&& (((1 : Int32) <<< (a1 &&& 31)) ^^^ (-1 : Int32)))) (fun σ9 => gi y6 6 (Option.bind (α := Int32) (if ¬ (σ9 35 y6.toNatClampNeg) = a1 then (gi y6 6 (some (σ9 35 y6.toNatClampNeg))) else (some (-6 : Int32))) (fun (j10 : Int32) => gi y6 6 (nm (up2 σ9 35 y6.toNatClampNeg j10) (fun σ11 => some (.inl (y6 + 1, σ11))))))))))
def f_X6_move (a1 : Int32) (σ : St) : Option (Int32 × St) := Option.bind (f_X6_isThere a1 σ) (fun r1 => if ¬ r1 = 0 then (nm (up2 σ 29 0 ((σ 29 0) &&& (((1 : Int32) <<< (a1 &&& 31)) ^^^ (-1 : Int32)))) (fun σ2 => nm (up2 σ2 29 2 ((σ2 29 2) &&& (((1 : Int32) <<< (a1 &&& 31)) ^^^ (-1 : Int32)))) (fun σ3 => nm (up2 σ3 29 3 ((σ3 29 3) &&& (((1 : Int32) <<< (a1 &&& 31)) ^^^ (-1 : Int32)))) (fun σ4 => nm (up2 σ4 29 11 ((σ4 29 11) &&& (((1 : Int32) <<< (a1 &&& 31)) ^^^ (-1 : Int32)))) (fun σ5 => Option.bind (loop (fun s : Int32 × St => l_X6_move_68 a1 s.1 s.2) 400 (0, σ5)) (fun (z8 : St) => gi a1 6 (nm (up2 z8 34 a1.toNatClampNeg 0) (fun σ12 => Option.bind (f_X6_bits (σ12 29 0)) (fun r13 => some ((r13, σ12))))))))))) else (some (((-1 : Int32), σ))))
set_option maxHeartbeats 4000000 in
set_option maxRecDepth 20000 in
theorem t_X6_move {g : Nat → Option Nat} {S : List SC} (hS : Wf g S) {σ : St} {Q : QT} (a1 : Int32) (h : ok (f_X6_move a1 σ) (fun r => Q (some (.int r.1)) S r.2)) : AW MX6_move E0 rmX6_move 0 0 Q 0 0 S σ 0 [(0, .ref 29), (1, .int a1)] [] := by
  unfold f_X6_move at h
  refine aw_run tTX6_move 2 (pc2 := 2) (L2 := [(0, .ref 29), (1, .int a1)]) (st2 := [.int a1, .ref 29]) rfl ?_
  obtain ⟨r1, er1, h⟩ := ok_b h
  refine aw_cV tTX6_move rfl 5 rfl (M' := MX6_isThere) (av := [.int a1]) (rest := []) rfl lkX6_78 hMX6_isThere rfl (w_29 hS) ⟨_, _, rfl⟩ (s_X6_isThere hS er1) ⟨rfl, rfl, ⟨by decide, by decide⟩, by decide, by decide⟩ (Nat.le_of_ble_eq_true rfl) 46 (wf_len hS) rfl [.int r1] rfl ?_
  refine aw_if_ne tTX6_move rfl 10 8 rfl rfl (fun hc => ?_) (fun hc => ?_)
  · have h := ok_t hc h
    refine aw_run tTX6_move 2 (pc2 := 12) (L2 := [(0, .ref 29), (1, .int a1)]) (st2 := [.ref 29, .ref 29]) rfl ?_
    refine aw_getI tTX6_move rfl 15 rfl (w_29 hS) rfl flX6_63 ?_
    refine aw_run tTX6_move 6 (pc2 := 21) (L2 := [(0, .ref 29), (1, .int a1)]) (st2 := [.int ((σ 29 0) &&& (((1 : Int32) <<< (a1 &&& 31)) ^^^ (-1 : Int32))), .ref 29]) rfl ?_
    refine aw_putI tTX6_move rfl 24 rfl (w_29 hS) rfl fpX6_63 ?_
    refine aw_nmS (fun σ2 eσ2 => ?_)
    have h := ok_nm h σ2 eσ2
    refine aw_run tTX6_move 2 (pc2 := 26) (L2 := [(0, .ref 29), (1, .int a1)]) (st2 := [.ref 29, .ref 29]) rfl ?_
    refine aw_getI tTX6_move rfl 29 rfl (w_29 hS) rfl flX6_82 ?_
    refine aw_run tTX6_move 6 (pc2 := 35) (L2 := [(0, .ref 29), (1, .int a1)]) (st2 := [.int ((σ2 29 2) &&& (((1 : Int32) <<< (a1 &&& 31)) ^^^ (-1 : Int32))), .ref 29]) rfl ?_
    refine aw_putI tTX6_move rfl 38 rfl (w_29 hS) rfl fpX6_82 ?_
    refine aw_nmS (fun σ3 eσ3 => ?_)
    have h := ok_nm h σ3 eσ3
    refine aw_run tTX6_move 2 (pc2 := 40) (L2 := [(0, .ref 29), (1, .int a1)]) (st2 := [.ref 29, .ref 29]) rfl ?_
    refine aw_getI tTX6_move rfl 43 rfl (w_29 hS) rfl flX6_85 ?_
    refine aw_run tTX6_move 6 (pc2 := 49) (L2 := [(0, .ref 29), (1, .int a1)]) (st2 := [.int ((σ3 29 3) &&& (((1 : Int32) <<< (a1 &&& 31)) ^^^ (-1 : Int32))), .ref 29]) rfl ?_
    refine aw_putI tTX6_move rfl 52 rfl (w_29 hS) rfl fpX6_85 ?_
    refine aw_nmS (fun σ4 eσ4 => ?_)
    have h := ok_nm h σ4 eσ4
    refine aw_run tTX6_move 2 (pc2 := 54) (L2 := [(0, .ref 29), (1, .int a1)]) (st2 := [.ref 29, .ref 29]) rfl ?_
    refine aw_getI tTX6_move rfl 57 rfl (w_29 hS) rfl flX6_88 ?_
    refine aw_run tTX6_move 6 (pc2 := 63) (L2 := [(0, .ref 29), (1, .int a1)]) (st2 := [.int ((σ4 29 11) &&& (((1 : Int32) <<< (a1 &&& 31)) ^^^ (-1 : Int32))), .ref 29]) rfl ?_
    refine aw_putI tTX6_move rfl 66 rfl (w_29 hS) rfl fpX6_88 ?_
    refine aw_nmS (fun σ5 eσ5 => ?_)
    have h := ok_nm h σ5 eσ5
    refine aw_run tTX6_move 2 (pc2 := 68) (L2 := [(2, .int 0), (0, .ref 29), (1, .int a1)]) (st2 := []) rfl ?_
    refine ok_use (P := fun z8 : St => AW MX6_move E0 rmX6_move 0 0 Q 0 0 S z8 121 [(0, .ref 29), (1, .int a1)] []) (ok_b h) (fun z8 h => ?_) (fun h => ?_)
    · refine aw_run tTX6_move 1 (pc2 := 122) (L2 := [(0, .ref 29), (1, .int a1)]) (st2 := [.ref 29]) rfl ?_
      refine aw_getR tTX6_move rfl 125 rfl (w_29 hS) rfl flX6_26 ?_
      refine aw_run tTX6_move 2 (pc2 := 127) (L2 := [(0, .ref 29), (1, .int a1)]) (st2 := [.int 0, .int a1, .ref 34]) rfl ?_
      obtain ⟨hi, h⟩ := ok_gi h
      refine aw_iast tTX6_move rfl 128 rfl (w_34 hS) hi ?_
      refine aw_nmS (fun σ12 eσ12 => ?_)
      have h := ok_nm h σ12 eσ12
      refine aw_run tTX6_move 1 (pc2 := 129) (L2 := [(0, .ref 29), (1, .int a1)]) (st2 := [.ref 29]) rfl ?_
      refine aw_getI tTX6_move rfl 132 rfl (w_29 hS) rfl flX6_63 ?_
      obtain ⟨r13, er13, h⟩ := ok_b h
      refine aw_cS tTX6_move rfl 135 rfl (M' := MX6_bits) (av := [.int (σ12 29 0)]) (rest := []) rfl lkX6_74 hMX6_bits rfl (s_X6_bits hS er13) ⟨rfl, rfl, ⟨by decide, by decide⟩, by decide, by decide⟩ (Nat.le_of_ble_eq_true rfl) 46 (wf_len hS) rfl [.int r13] rfl ?_
      have h := ok_r h
      exact aw_ir tTX6_move rfl rfl rfl (Nat.le_refl _) (Nat.le_refl _) h
    · refine aw_sub [1, 2, 0] rfl ?_
      refine loop_P (P := fun s : Int32 × St => AW MX6_move E0 rmX6_move 0 0 Q 0 0 S s.2 68 [(0, .ref 29), (1, .int a1), (2, .int s.1)] []) (fun s h => ?_) _ _ h
      obtain ⟨y6, σ7⟩ := s
      replace h : ok (l_X6_move_68 a1 y6 σ7) _ := h
      unfold l_X6_move_68 at h
      show AW MX6_move E0 rmX6_move 0 0 Q 0 0 S σ7 68 [(0, .ref 29), (1, .int a1), (2, .int y6)] []
      refine aw_run tTX6_move 2 (pc2 := 71) (L2 := [(0, .ref 29), (1, .int a1), (2, .int y6)]) (st2 := [.int 6, .int y6]) rfl ?_
      refine aw_icmp_ge tTX6_move rfl 121 74 rfl rfl (fun hc => ?_) (fun hc => ?_)
      · have h := ok_t hc h
        refine aw_sub [0, 1] rfl ?_
        have h := ok_r h
        exact h
      · have h := ok_f hc h
        refine aw_run tTX6_move 1 (pc2 := 75) (L2 := [(0, .ref 29), (1, .int a1), (2, .int y6)]) (st2 := [.ref 29]) rfl ?_
        refine aw_getR tTX6_move rfl 78 rfl (w_29 hS) rfl flX6_26 ?_
        refine aw_run tTX6_move 2 (pc2 := 80) (L2 := [(0, .ref 29), (1, .int a1), (2, .int y6)]) (st2 := [.int y6, .ref 34, .int y6, .ref 34]) rfl ?_
        obtain ⟨hi, h⟩ := ok_gi h
        refine aw_iald tTX6_move rfl 81 rfl (w_34 hS) hi ?_
        refine aw_run tTX6_move 6 (pc2 := 87) (L2 := [(0, .ref 29), (1, .int a1), (2, .int y6)]) (st2 := [.int ((σ7 34 y6.toNatClampNeg) &&& (((1 : Int32) <<< (a1 &&& 31)) ^^^ (-1 : Int32))), .int y6, .ref 34]) rfl ?_
        obtain ⟨hi, h⟩ := ok_gi h
        refine aw_iast tTX6_move rfl 88 rfl (w_34 hS) hi ?_
        refine aw_nmS (fun σ9 eσ9 => ?_)
        have h := ok_nm h σ9 eσ9
        refine aw_run tTX6_move 1 (pc2 := 89) (L2 := [(0, .ref 29), (1, .int a1), (2, .int y6)]) (st2 := [.ref 29]) rfl ?_
        refine aw_getR tTX6_move rfl 92 rfl (w_29 hS) rfl flX6_29 ?_
        refine aw_run tTX6_move 2 (pc2 := 94) (L2 := [(0, .ref 29), (1, .int a1), (2, .int y6)]) (st2 := [.ref 29, .int y6, .ref 35]) rfl ?_
        refine aw_getR tTX6_move rfl 97 rfl (w_29 hS) rfl flX6_29 ?_
        refine aw_run tTX6_move 1 (pc2 := 98) (L2 := [(0, .ref 29), (1, .int a1), (2, .int y6)]) (st2 := [.int y6, .ref 35, .int y6, .ref 35]) rfl ?_
        obtain ⟨hi, h⟩ := ok_gi h
        refine aw_iald tTX6_move rfl 99 rfl (w_35 hS) hi ?_
        refine aw_run tTX6_move 1 (pc2 := 100) (L2 := [(0, .ref 29), (1, .int a1), (2, .int y6)]) (st2 := [.int a1, .int (σ9 35 y6.toNatClampNeg), .int y6, .ref 35]) rfl ?_
        refine ok_use (P := fun j10 : Int32 => AW MX6_move E0 rmX6_move 0 0 Q 0 0 S σ9 114 [(0, .ref 29), (1, .int a1), (2, .int y6)] [.int j10, .int y6, .ref 35]) (ok_b h) (fun j10 h => ?_) (fun h => ?_)
        · obtain ⟨hi, h⟩ := ok_gi h
          refine aw_iast tTX6_move rfl 115 rfl (w_35 hS) hi ?_
          refine aw_nmS (fun σ11 eσ11 => ?_)
          have h := ok_nm h σ11 eσ11
          refine aw_run tTX6_move 2 (pc2 := 68) (L2 := [(2, .int (y6 + 1)), (0, .ref 29), (1, .int a1)]) (st2 := []) rfl ?_
          refine aw_sub [1, 2, 0] rfl ?_
          have h := ok_r h
          exact h
        · refine aw_icmp_ne tTX6_move rfl 108 103 rfl rfl (fun hc => ?_) (fun hc => ?_)
          · have h := ok_t hc h
            refine aw_run tTX6_move 1 (pc2 := 109) (L2 := [(0, .ref 29), (1, .int a1), (2, .int y6)]) (st2 := [.ref 29, .int y6, .ref 35]) rfl ?_
            refine aw_getR tTX6_move rfl 112 rfl (w_29 hS) rfl flX6_29 ?_
            refine aw_run tTX6_move 1 (pc2 := 113) (L2 := [(0, .ref 29), (1, .int a1), (2, .int y6)]) (st2 := [.int y6, .ref 35, .int y6, .ref 35]) rfl ?_
            obtain ⟨hi, h⟩ := ok_gi h
            refine aw_iald tTX6_move rfl 114 rfl (w_35 hS) hi ?_
            refine aw_sub [0, 1, 2] rfl ?_
            have h := ok_r h
            exact h
          · have h := ok_fn hc h
            refine aw_run tTX6_move 2 (pc2 := 114) (L2 := [(0, .ref 29), (1, .int a1), (2, .int y6)]) (st2 := [.int (-6 : Int32), .int y6, .ref 35]) rfl ?_
            refine aw_sub [0, 1, 2] rfl ?_
            have h := ok_r h
            exact h
  · have h := ok_fn hc h
    refine aw_run tTX6_move 1 (pc2 := 9) (L2 := [(0, .ref 29), (1, .int a1)]) (st2 := [.int (-1 : Int32)]) rfl ?_
    have h := ok_r h
    exact aw_ir tTX6_move rfl rfl rfl (Nat.le_refl _) (Nat.le_refl _) h
theorem s_X6_move {g : Nat → Option Nat} {S : List SC} (hS : Wf g S) {σ : St} {a1 : Int32} {r : Int32 × St} (e : f_X6_move a1 σ = some r) : Fn MX6_move rmX6_move [.ref 29, .int a1] S σ (some (.int r.1)) r.2 := Sp.of (by decide) (Nat.le_of_ble_eq_true rfl) (t_X6_move hS a1 ⟨r, e, rfl, rfl, rfl⟩)
def f_X6_frost (a1 : Int32) (σ : St) : Option (Int32 × St) := Option.bind (f_X6_in a1 0 30) (fun r1 => if ¬ r1 = 0 then (nm (up2 σ 29 4 a1) (fun σ2 => some ((σ 29 4, σ2)))) else (some (((-2 : Int32), σ))))
set_option maxHeartbeats 4000000 in
set_option maxRecDepth 20000 in
theorem t_X6_frost {g : Nat → Option Nat} {S : List SC} (hS : Wf g S) {σ : St} {Q : QT} (a1 : Int32) (h : ok (f_X6_frost a1 σ) (fun r => Q (some (.int r.1)) S r.2)) : AW MX6_frost E0 rmX6_frost 0 0 Q 0 0 S σ 0 [(0, .ref 29), (1, .int a1)] [] := by
  unfold f_X6_frost at h
  refine aw_run tTX6_frost 3 (pc2 := 4) (L2 := [(0, .ref 29), (1, .int a1)]) (st2 := [.int 30, .int 0, .int a1]) rfl ?_
  obtain ⟨r1, er1, h⟩ := ok_b h
  refine aw_cS tTX6_frost rfl 7 rfl (M' := MX6_in) (av := [.int a1, .int 0, .int 30]) (rest := []) rfl lkX6_66 hMX6_in rfl (s_X6_in hS er1) ⟨rfl, rfl, ⟨by decide, by decide⟩, by decide, by decide⟩ (Nat.le_of_ble_eq_true rfl) 46 (wf_len hS) rfl [.int r1] rfl ?_
  refine aw_if_ne tTX6_frost rfl 13 10 rfl rfl (fun hc => ?_) (fun hc => ?_)
  · have h := ok_t hc h
    refine aw_run tTX6_frost 1 (pc2 := 14) (L2 := [(0, .ref 29), (1, .int a1)]) (st2 := [.ref 29]) rfl ?_
    refine aw_getI tTX6_frost rfl 17 rfl (w_29 hS) rfl flX6_13 ?_
    refine aw_run tTX6_frost 3 (pc2 := 20) (L2 := [(2, .int (σ 29 4)), (0, .ref 29), (1, .int a1)]) (st2 := [.int a1, .ref 29]) rfl ?_
    refine aw_putI tTX6_frost rfl 23 rfl (w_29 hS) rfl fpX6_13 ?_
    refine aw_nmS (fun σ2 eσ2 => ?_)
    have h := ok_nm h σ2 eσ2
    refine aw_run tTX6_frost 1 (pc2 := 24) (L2 := [(2, .int (σ 29 4)), (0, .ref 29), (1, .int a1)]) (st2 := [.int (σ 29 4)]) rfl ?_
    have h := ok_r h
    exact aw_ir tTX6_frost rfl rfl rfl (Nat.le_refl _) (Nat.le_refl _) h
  · have h := ok_fn hc h
    refine aw_run tTX6_frost 1 (pc2 := 12) (L2 := [(0, .ref 29), (1, .int a1)]) (st2 := [.int (-2 : Int32)]) rfl ?_
    have h := ok_r h
    exact aw_ir tTX6_frost rfl rfl rfl (Nat.le_refl _) (Nat.le_refl _) h
theorem s_X6_frost {g : Nat → Option Nat} {S : List SC} (hS : Wf g S) {σ : St} {a1 : Int32} {r : Int32 × St} (e : f_X6_frost a1 σ = some r) : Fn MX6_frost rmX6_frost [.ref 29, .int a1] S σ (some (.int r.1)) r.2 := Sp.of (by decide) (Nat.le_of_ble_eq_true rfl) (t_X6_frost hS a1 ⟨r, e, rfl, rfl, rfl⟩)
def f_X6_say (a1 : Int32) (σ : St) : Option (Int32 × St) := Option.bind (f_X6_in a1 33 126) (fun r1 => if ¬ r1 = 0 then (if ¬ (σ 29 12) = 60 then (gi (σ 29 12) 60 (nm (up2 σ 36 (σ 29 12).toNatClampNeg a1) (fun σ2 => nm (up2 σ2 29 12 ((σ2 29 12) + 1)) (fun σ3 => some ((σ3 29 12, σ3)))))) else (some (((-4 : Int32), σ)))) else (some (((-2 : Int32), σ))))
set_option maxHeartbeats 4000000 in
set_option maxRecDepth 20000 in
theorem t_X6_say {g : Nat → Option Nat} {S : List SC} (hS : Wf g S) {σ : St} {Q : QT} (a1 : Int32) (h : ok (f_X6_say a1 σ) (fun r => Q (some (.int r.1)) S r.2)) : AW MX6_say E0 rmX6_say 0 0 Q 0 0 S σ 0 [(0, .ref 29), (1, .int a1)] [] := by
  unfold f_X6_say at h
  refine aw_run tTX6_say 3 (pc2 := 5) (L2 := [(0, .ref 29), (1, .int a1)]) (st2 := [.int 126, .int 33, .int a1]) rfl ?_
  obtain ⟨r1, er1, h⟩ := ok_b h
  refine aw_cS tTX6_say rfl 8 rfl (M' := MX6_in) (av := [.int a1, .int 33, .int 126]) (rest := []) rfl lkX6_66 hMX6_in rfl (s_X6_in hS er1) ⟨rfl, rfl, ⟨by decide, by decide⟩, by decide, by decide⟩ (Nat.le_of_ble_eq_true rfl) 46 (wf_len hS) rfl [.int r1] rfl ?_
  refine aw_if_ne tTX6_say rfl 14 11 rfl rfl (fun hc => ?_) (fun hc => ?_)
  · have h := ok_t hc h
    refine aw_run tTX6_say 1 (pc2 := 15) (L2 := [(0, .ref 29), (1, .int a1)]) (st2 := [.ref 29]) rfl ?_
    refine aw_getI tTX6_say rfl 18 rfl (w_29 hS) rfl flX6_91 ?_
    refine aw_run tTX6_say 1 (pc2 := 20) (L2 := [(0, .ref 29), (1, .int a1)]) (st2 := [.int 60, .int (σ 29 12)]) rfl ?_
    refine aw_icmp_ne tTX6_say rfl 26 23 rfl rfl (fun hc => ?_) (fun hc => ?_)
    · have h := ok_t hc h
      refine aw_run tTX6_say 1 (pc2 := 27) (L2 := [(0, .ref 29), (1, .int a1)]) (st2 := [.ref 29]) rfl ?_
      refine aw_getR tTX6_say rfl 30 rfl (w_29 hS) rfl flX6_32 ?_
      refine aw_run tTX6_say 1 (pc2 := 31) (L2 := [(0, .ref 29), (1, .int a1)]) (st2 := [.ref 29, .ref 36]) rfl ?_
      refine aw_getI tTX6_say rfl 34 rfl (w_29 hS) rfl flX6_91 ?_
      refine aw_run tTX6_say 1 (pc2 := 35) (L2 := [(0, .ref 29), (1, .int a1)]) (st2 := [.int a1, .int (σ 29 12), .ref 36]) rfl ?_
      obtain ⟨hi, h⟩ := ok_gi h
      refine aw_iast tTX6_say rfl 36 rfl (w_36 hS) hi ?_
      refine aw_nmS (fun σ2 eσ2 => ?_)
      have h := ok_nm h σ2 eσ2
      refine aw_run tTX6_say 2 (pc2 := 38) (L2 := [(0, .ref 29), (1, .int a1)]) (st2 := [.ref 29, .ref 29]) rfl ?_
      refine aw_getI tTX6_say rfl 41 rfl (w_29 hS) rfl flX6_91 ?_
      refine aw_run tTX6_say 2 (pc2 := 43) (L2 := [(0, .ref 29), (1, .int a1)]) (st2 := [.int ((σ2 29 12) + 1), .ref 29]) rfl ?_
      refine aw_putI tTX6_say rfl 46 rfl (w_29 hS) rfl fpX6_91 ?_
      refine aw_nmS (fun σ3 eσ3 => ?_)
      have h := ok_nm h σ3 eσ3
      refine aw_run tTX6_say 1 (pc2 := 47) (L2 := [(0, .ref 29), (1, .int a1)]) (st2 := [.ref 29]) rfl ?_
      refine aw_getI tTX6_say rfl 50 rfl (w_29 hS) rfl flX6_91 ?_
      have h := ok_r h
      exact aw_ir tTX6_say rfl rfl rfl (Nat.le_refl _) (Nat.le_refl _) h
    · have h := ok_fn hc h
      refine aw_run tTX6_say 1 (pc2 := 25) (L2 := [(0, .ref 29), (1, .int a1)]) (st2 := [.int (-4 : Int32)]) rfl ?_
      have h := ok_r h
      exact aw_ir tTX6_say rfl rfl rfl (Nat.le_refl _) (Nat.le_refl _) h
  · have h := ok_fn hc h
    refine aw_run tTX6_say 1 (pc2 := 13) (L2 := [(0, .ref 29), (1, .int a1)]) (st2 := [.int (-2 : Int32)]) rfl ?_
    have h := ok_r h
    exact aw_ir tTX6_say rfl rfl rfl (Nat.le_refl _) (Nat.le_refl _) h
theorem s_X6_say {g : Nat → Option Nat} {S : List SC} (hS : Wf g S) {σ : St} {a1 : Int32} {r : Int32 × St} (e : f_X6_say a1 σ = some r) : Fn MX6_say rmX6_say [.ref 29, .int a1] S σ (some (.int r.1)) r.2 := Sp.of (by decide) (Nat.le_of_ble_eq_true rfl) (t_X6_say hS a1 ⟨r, e, rfl, rfl, rfl⟩)
def f_X6_wipe  (σ : St) : Option (Int32 × St) := nm (up2 σ 29 12 0) (fun σ1 => some ((σ 29 12, σ1)))
set_option maxHeartbeats 4000000 in
set_option maxRecDepth 20000 in
theorem t_X6_wipe {g : Nat → Option Nat} {S : List SC} (hS : Wf g S) {σ : St} {Q : QT}  (h : ok (f_X6_wipe  σ) (fun r => Q (some (.int r.1)) S r.2)) : AW MX6_wipe E0 rmX6_wipe 0 0 Q 0 0 S σ 0 [(0, .ref 29)] [] := by
  unfold f_X6_wipe at h
  refine aw_run tTX6_wipe 1 (pc2 := 1) (L2 := [(0, .ref 29)]) (st2 := [.ref 29]) rfl ?_
  refine aw_getI tTX6_wipe rfl 4 rfl (w_29 hS) rfl flX6_91 ?_
  refine aw_run tTX6_wipe 3 (pc2 := 7) (L2 := [(1, .int (σ 29 12)), (0, .ref 29)]) (st2 := [.int 0, .ref 29]) rfl ?_
  refine aw_putI tTX6_wipe rfl 10 rfl (w_29 hS) rfl fpX6_91 ?_
  refine aw_nmS (fun σ1 eσ1 => ?_)
  have h := ok_nm h σ1 eσ1
  refine aw_run tTX6_wipe 1 (pc2 := 11) (L2 := [(1, .int (σ 29 12)), (0, .ref 29)]) (st2 := [.int (σ 29 12)]) rfl ?_
  have h := ok_r h
  exact aw_ir tTX6_wipe rfl rfl rfl (Nat.le_refl _) (Nat.le_refl _) h
theorem s_X6_wipe {g : Nat → Option Nat} {S : List SC} (hS : Wf g S) {σ : St}  {r : Int32 × St} (e : f_X6_wipe  σ = some r) : Fn MX6_wipe rmX6_wipe [.ref 29] S σ (some (.int r.1)) r.2 := Sp.of (by decide) (Nat.le_of_ble_eq_true rfl) (t_X6_wipe hS  ⟨r, e, rfl, rfl, rfl⟩)
def f_X6_isLetter (a1 : Int32)  : Option (Int32) := Option.bind (f_X6_in a1 65 70) (fun r1 => gb r1 (some (r1)))
set_option maxHeartbeats 4000000 in
set_option maxRecDepth 20000 in
theorem t_X6_isLetter {g : Nat → Option Nat} {S : List SC} (hS : Wf g S) {σ : St} {Q : QT} (a1 : Int32) (h : ok (f_X6_isLetter a1 ) (fun r => Q (some (.int r)) S σ)) : AW MX6_isLetter E0 rmX6_isLetter 0 0 Q 0 0 S σ 0 [(0, .int a1)] [] := by
  unfold f_X6_isLetter at h
  refine aw_run tTX6_isLetter 3 (pc2 := 5) (L2 := [(0, .int a1)]) (st2 := [.int 70, .int 65, .int a1]) rfl ?_
  obtain ⟨r1, er1, h⟩ := ok_b h
  refine aw_cS tTX6_isLetter rfl 8 rfl (M' := MX6_in) (av := [.int a1, .int 65, .int 70]) (rest := []) rfl lkX6_66 hMX6_in rfl (s_X6_in hS er1) ⟨rfl, rfl, ⟨by decide, by decide⟩, by decide, by decide⟩ (Nat.le_of_ble_eq_true rfl) 46 (wf_len hS) rfl [.int r1] rfl ?_
  obtain ⟨hn, h⟩ := ok_gb h
  have h := ok_r h
  exact aw_ir tTX6_isLetter rfl rfl hn (Nat.le_refl _) (Nat.le_refl _) h
theorem s_X6_isLetter {g : Nat → Option Nat} {S : List SC} (hS : Wf g S) {σ : St} {a1 : Int32} {r : Int32} (e : f_X6_isLetter a1  = some r) : Fn MX6_isLetter rmX6_isLetter [.int a1] S σ (some (.int r)) σ := Sp.of (by decide) (Nat.le_of_ble_eq_true rfl) (t_X6_isLetter hS a1 ⟨r, e, rfl, rfl, rfl⟩)
def l_X6_faultOf_4 (σ : St) (y1 : Int32) (y2 : Int32) : Option ((Int32 × Int32) ⊕ ((Int32) ⊕ (Int32))) := if (σ 29 12) ≤ y2 then (some (.inr (.inl y1))) else (gi y2 60 (Option.bind (α := Int32) (if y1 = 0 then (Option.bind (f_X6_isLetter (σ 36 y2.toNatClampNeg)) (fun r7 => if ¬ r7 = 0 then (some 1) else (if (σ 36 y2.toNatClampNeg) = 46 then (some 1) else (if ¬ (σ 36 y2.toNatClampNeg) = 36 then (some 0) else (some 1))))) else (Option.bind (f_X6_isLetter (σ 36 y2.toNatClampNeg)) (fun r8 => if ¬ r8 = 0 then (some 1) else (if (σ 36 y2.toNatClampNeg) = 42 then (some 1) else (if (σ 36 y2.toNatClampNeg) = 126 then (some 1) else (if ¬ (σ 36 y2.toNatClampNeg) = 33 then (some 0) else (some 1))))))) (fun (j4 : Int32) => if ¬ j4 = 0 then (Option.bind (α := Int32) (if ¬ y1 = 0 then (some 0) else (Option.bind (f_X6_isLetter (σ 36 y2.toNatClampNeg)) (fun r6 => if r6 = 0 then (some 0) else (some 1)))) (fun (j5 : Int32) => some (.inl (j5, y2 + 1)))) else (some (.inr (.inr (y2)))))))
def f_X6_faultOf  (σ : St) : Option (Int32) := Option.bind (loop (fun s : Int32 × Int32 => l_X6_faultOf_4 σ s.1 s.2) 400 (0, 0)) (fun z9 => match z9 with
    | .inl z3 => if z3 = 0 then (some ((-6 : Int32))) else (some (σ 29 12))
    | .inr z9 => some (z9))
set_option maxHeartbeats 4000000 in
set_option maxRecDepth 20000 in
theorem t_X6_faultOf {g : Nat → Option Nat} {S : List SC} (hS : Wf g S) {σ : St} {Q : QT}  (h : ok (f_X6_faultOf  σ) (fun r => Q (some (.int r)) S σ)) : AW MX6_faultOf E0 rmX6_faultOf 0 0 Q 0 0 S σ 0 [(0, .ref 29)] [] := by
  unfold f_X6_faultOf at h
  refine aw_run tTX6_faultOf 4 (pc2 := 4) (L2 := [(2, .int 0), (1, .int 0), (0, .ref 29)]) (st2 := []) rfl ?_
  refine ok_use (P := fun z9 : (Int32) ⊕ (Int32) => match z9 with
    | .inl z3 => AW MX6_faultOf E0 rmX6_faultOf 0 0 Q 0 0 S σ 112 [(0, .ref 29), (1, .int z3)] []
    | .inr z9 => Q (some (.int z9)) S σ) (ok_b h) (fun z9 h => ?_) (fun h => ?_)
  · cases z9 with
    | inl z3 =>
      refine aw_run tTX6_faultOf 1 (pc2 := 113) (L2 := [(0, .ref 29), (1, .int z3)]) (st2 := [.int z3]) rfl ?_
      refine aw_if_eq tTX6_faultOf rfl 123 116 rfl rfl (fun hc => ?_) (fun hc => ?_)
      · have h := ok_t hc h
        refine aw_run tTX6_faultOf 1 (pc2 := 125) (L2 := [(0, .ref 29), (1, .int z3)]) (st2 := [.int (-6 : Int32)]) rfl ?_
        have h := ok_r h
        exact aw_ir tTX6_faultOf rfl rfl rfl (Nat.le_refl _) (Nat.le_refl _) h
      · have h := ok_f hc h
        refine aw_run tTX6_faultOf 1 (pc2 := 117) (L2 := [(0, .ref 29), (1, .int z3)]) (st2 := [.ref 29]) rfl ?_
        refine aw_getI tTX6_faultOf rfl 120 rfl (w_29 hS) rfl flX6_91 ?_
        refine aw_run tTX6_faultOf 1 (pc2 := 125) (L2 := [(0, .ref 29), (1, .int z3)]) (st2 := [.int (σ 29 12)]) rfl ?_
        have h := ok_r h
        exact aw_ir tTX6_faultOf rfl rfl rfl (Nat.le_refl _) (Nat.le_refl _) h
    | inr z9 =>
      have h := ok_r h
      exact h
  · refine aw_sub [2, 1, 0] rfl ?_
    refine loop_P (P := fun s : Int32 × Int32 => AW MX6_faultOf E0 rmX6_faultOf 0 0 Q 0 0 S σ 4 [(0, .ref 29), (1, .int s.1), (2, .int s.2)] []) (fun s h => ?_) _ _ h
    obtain ⟨y1, y2⟩ := s
    replace h : ok (l_X6_faultOf_4 σ y1 y2) _ := h
    unfold l_X6_faultOf_4 at h
    show AW MX6_faultOf E0 rmX6_faultOf 0 0 Q 0 0 S σ 4 [(0, .ref 29), (1, .int y1), (2, .int y2)] []
    refine aw_run tTX6_faultOf 2 (pc2 := 6) (L2 := [(0, .ref 29), (1, .int y1), (2, .int y2)]) (st2 := [.ref 29, .int y2]) rfl ?_
    refine aw_getI tTX6_faultOf rfl 9 rfl (w_29 hS) rfl flX6_91 ?_
    refine aw_icmp_ge tTX6_faultOf rfl 112 12 rfl rfl (fun hc => ?_) (fun hc => ?_)
    · have h := ok_t hc h
      refine aw_sub [0, 1] rfl ?_
      have h := ok_r h
      exact h
    · have h := ok_f hc h
      refine aw_run tTX6_faultOf 1 (pc2 := 13) (L2 := [(0, .ref 29), (1, .int y1), (2, .int y2)]) (st2 := [.ref 29]) rfl ?_
      refine aw_getR tTX6_faultOf rfl 16 rfl (w_29 hS) rfl flX6_32 ?_
      refine aw_run tTX6_faultOf 1 (pc2 := 17) (L2 := [(0, .ref 29), (1, .int y1), (2, .int y2)]) (st2 := [.int y2, .ref 36]) rfl ?_
      obtain ⟨hi, h⟩ := ok_gi h
      refine aw_iald tTX6_faultOf rfl 18 rfl (w_36 hS) hi ?_
      refine aw_run tTX6_faultOf 2 (pc2 := 20) (L2 := [(3, .int (σ 36 y2.toNatClampNeg)), (0, .ref 29), (1, .int y1), (2, .int y2)]) (st2 := [.int y1]) rfl ?_
      refine ok_use (P := fun j4 : Int32 => AW MX6_faultOf E0 rmX6_faultOf 0 0 Q 0 0 S σ 80 [(0, .ref 29), (1, .int y1), (2, .int y2), (3, .int (σ 36 y2.toNatClampNeg))] [.int j4]) (ok_b h) (fun j4 h => ?_) (fun h => ?_)
      · refine aw_run tTX6_faultOf 2 (pc2 := 84) (L2 := [(4, .int j4), (0, .ref 29), (1, .int y1), (2, .int y2), (3, .int (σ 36 y2.toNatClampNeg))]) (st2 := [.int j4]) rfl ?_
        refine aw_if_ne tTX6_faultOf rfl 89 87 rfl rfl (fun hc => ?_) (fun hc => ?_)
        · have h := ok_t hc h
          refine aw_run tTX6_faultOf 1 (pc2 := 90) (L2 := [(4, .int j4), (0, .ref 29), (1, .int y1), (2, .int y2), (3, .int (σ 36 y2.toNatClampNeg))]) (st2 := [.int y1]) rfl ?_
          refine ok_use (P := fun j5 : Int32 => AW MX6_faultOf E0 rmX6_faultOf 0 0 Q 0 0 S σ 105 [(0, .ref 29), (2, .int y2)] [.int j5]) (ok_b h) (fun j5 h => ?_) (fun h => ?_)
          · refine aw_run tTX6_faultOf 3 (pc2 := 4) (L2 := [(2, .int (y2 + 1)), (1, .int j5), (0, .ref 29)]) (st2 := []) rfl ?_
            refine aw_sub [2, 1, 0] rfl ?_
            have h := ok_r h
            exact h
          · refine aw_if_ne tTX6_faultOf rfl 104 93 rfl rfl (fun hc => ?_) (fun hc => ?_)
            · have h := ok_t hc h
              refine aw_run tTX6_faultOf 1 (pc2 := 105) (L2 := [(4, .int j4), (0, .ref 29), (1, .int y1), (2, .int y2), (3, .int (σ 36 y2.toNatClampNeg))]) (st2 := [.int 0]) rfl ?_
              refine aw_sub [1, 3] rfl ?_
              have h := ok_r h
              exact h
            · have h := ok_fn hc h
              refine aw_run tTX6_faultOf 1 (pc2 := 94) (L2 := [(4, .int j4), (0, .ref 29), (1, .int y1), (2, .int y2), (3, .int (σ 36 y2.toNatClampNeg))]) (st2 := [.int (σ 36 y2.toNatClampNeg)]) rfl ?_
              obtain ⟨r6, er6, h⟩ := ok_b h
              refine aw_cS tTX6_faultOf rfl 97 rfl (M' := MX6_isLetter) (av := [.int (σ 36 y2.toNatClampNeg)]) (rest := []) rfl lkX6_94 hMX6_isLetter rfl (s_X6_isLetter hS er6) ⟨rfl, rfl, ⟨by decide, by decide⟩, by decide, by decide⟩ (Nat.le_of_ble_eq_true rfl) 46 (wf_len hS) rfl [.int r6] rfl ?_
              refine aw_if_eq tTX6_faultOf rfl 104 100 rfl rfl (fun hc => ?_) (fun hc => ?_)
              · have h := ok_t hc h
                refine aw_run tTX6_faultOf 1 (pc2 := 105) (L2 := [(4, .int j4), (0, .ref 29), (1, .int y1), (2, .int y2), (3, .int (σ 36 y2.toNatClampNeg))]) (st2 := [.int 0]) rfl ?_
                refine aw_sub [1, 3] rfl ?_
                have h := ok_r h
                exact h
              · have h := ok_f hc h
                refine aw_run tTX6_faultOf 2 (pc2 := 105) (L2 := [(4, .int j4), (0, .ref 29), (1, .int y1), (2, .int y2), (3, .int (σ 36 y2.toNatClampNeg))]) (st2 := [.int 1]) rfl ?_
                refine aw_sub [1, 3] rfl ?_
                have h := ok_r h
                exact h
        · have h := ok_fn hc h
          refine aw_run tTX6_faultOf 1 (pc2 := 88) (L2 := [(4, .int j4), (0, .ref 29), (1, .int y1), (2, .int y2), (3, .int (σ 36 y2.toNatClampNeg))]) (st2 := [.int y2]) rfl ?_
          have h := ok_r h
          exact aw_ir tTX6_faultOf rfl rfl rfl (Nat.le_refl _) (Nat.le_refl _) h
      · refine aw_if_eq tTX6_faultOf rfl 56 23 rfl rfl (fun hc => ?_) (fun hc => ?_)
        · have h := ok_t hc h
          refine aw_run tTX6_faultOf 1 (pc2 := 57) (L2 := [(3, .int (σ 36 y2.toNatClampNeg)), (0, .ref 29), (1, .int y1), (2, .int y2)]) (st2 := [.int (σ 36 y2.toNatClampNeg)]) rfl ?_
          obtain ⟨r7, er7, h⟩ := ok_b h
          refine aw_cS tTX6_faultOf rfl 60 rfl (M' := MX6_isLetter) (av := [.int (σ 36 y2.toNatClampNeg)]) (rest := []) rfl lkX6_94 hMX6_isLetter rfl (s_X6_isLetter hS er7) ⟨rfl, rfl, ⟨by decide, by decide⟩, by decide, by decide⟩ (Nat.le_of_ble_eq_true rfl) 46 (wf_len hS) rfl [.int r7] rfl ?_
          refine aw_if_ne tTX6_faultOf rfl 75 63 rfl rfl (fun hc => ?_) (fun hc => ?_)
          · have h := ok_t hc h
            refine aw_run tTX6_faultOf 2 (pc2 := 80) (L2 := [(3, .int (σ 36 y2.toNatClampNeg)), (0, .ref 29), (1, .int y1), (2, .int y2)]) (st2 := [.int 1]) rfl ?_
            refine aw_sub [1, 2, 3, 0] rfl ?_
            have h := ok_r h
            exact h
          · have h := ok_fn hc h
            refine aw_run tTX6_faultOf 2 (pc2 := 66) (L2 := [(3, .int (σ 36 y2.toNatClampNeg)), (0, .ref 29), (1, .int y1), (2, .int y2)]) (st2 := [.int 46, .int (σ 36 y2.toNatClampNeg)]) rfl ?_
            refine aw_icmp_eq tTX6_faultOf rfl 75 69 rfl rfl (fun hc => ?_) (fun hc => ?_)
            · have h := ok_t hc h
              refine aw_run tTX6_faultOf 2 (pc2 := 80) (L2 := [(3, .int (σ 36 y2.toNatClampNeg)), (0, .ref 29), (1, .int y1), (2, .int y2)]) (st2 := [.int 1]) rfl ?_
              refine aw_sub [1, 2, 3, 0] rfl ?_
              have h := ok_r h
              exact h
            · have h := ok_f hc h
              refine aw_run tTX6_faultOf 2 (pc2 := 72) (L2 := [(3, .int (σ 36 y2.toNatClampNeg)), (0, .ref 29), (1, .int y1), (2, .int y2)]) (st2 := [.int 36, .int (σ 36 y2.toNatClampNeg)]) rfl ?_
              refine aw_icmp_ne tTX6_faultOf rfl 79 75 rfl rfl (fun hc => ?_) (fun hc => ?_)
              · have h := ok_t hc h
                refine aw_run tTX6_faultOf 1 (pc2 := 80) (L2 := [(3, .int (σ 36 y2.toNatClampNeg)), (0, .ref 29), (1, .int y1), (2, .int y2)]) (st2 := [.int 0]) rfl ?_
                refine aw_sub [1, 2, 3, 0] rfl ?_
                have h := ok_r h
                exact h
              · have h := ok_fn hc h
                refine aw_run tTX6_faultOf 2 (pc2 := 80) (L2 := [(3, .int (σ 36 y2.toNatClampNeg)), (0, .ref 29), (1, .int y1), (2, .int y2)]) (st2 := [.int 1]) rfl ?_
                refine aw_sub [1, 2, 3, 0] rfl ?_
                have h := ok_r h
                exact h
        · have h := ok_f hc h
          refine aw_run tTX6_faultOf 1 (pc2 := 24) (L2 := [(3, .int (σ 36 y2.toNatClampNeg)), (0, .ref 29), (1, .int y1), (2, .int y2)]) (st2 := [.int (σ 36 y2.toNatClampNeg)]) rfl ?_
          obtain ⟨r8, er8, h⟩ := ok_b h
          refine aw_cS tTX6_faultOf rfl 27 rfl (M' := MX6_isLetter) (av := [.int (σ 36 y2.toNatClampNeg)]) (rest := []) rfl lkX6_94 hMX6_isLetter rfl (s_X6_isLetter hS er8) ⟨rfl, rfl, ⟨by decide, by decide⟩, by decide, by decide⟩ (Nat.le_of_ble_eq_true rfl) 46 (wf_len hS) rfl [.int r8] rfl ?_
          refine aw_if_ne tTX6_faultOf rfl 48 30 rfl rfl (fun hc => ?_) (fun hc => ?_)
          · have h := ok_t hc h
            refine aw_run tTX6_faultOf 2 (pc2 := 80) (L2 := [(3, .int (σ 36 y2.toNatClampNeg)), (0, .ref 29), (1, .int y1), (2, .int y2)]) (st2 := [.int 1]) rfl ?_
            refine aw_sub [1, 2, 3, 0] rfl ?_
            have h := ok_r h
            exact h
          · have h := ok_fn hc h
            refine aw_run tTX6_faultOf 2 (pc2 := 33) (L2 := [(3, .int (σ 36 y2.toNatClampNeg)), (0, .ref 29), (1, .int y1), (2, .int y2)]) (st2 := [.int 42, .int (σ 36 y2.toNatClampNeg)]) rfl ?_
            refine aw_icmp_eq tTX6_faultOf rfl 48 36 rfl rfl (fun hc => ?_) (fun hc => ?_)
            · have h := ok_t hc h
              refine aw_run tTX6_faultOf 2 (pc2 := 80) (L2 := [(3, .int (σ 36 y2.toNatClampNeg)), (0, .ref 29), (1, .int y1), (2, .int y2)]) (st2 := [.int 1]) rfl ?_
              refine aw_sub [1, 2, 3, 0] rfl ?_
              have h := ok_r h
              exact h
            · have h := ok_f hc h
              refine aw_run tTX6_faultOf 2 (pc2 := 39) (L2 := [(3, .int (σ 36 y2.toNatClampNeg)), (0, .ref 29), (1, .int y1), (2, .int y2)]) (st2 := [.int 126, .int (σ 36 y2.toNatClampNeg)]) rfl ?_
              refine aw_icmp_eq tTX6_faultOf rfl 48 42 rfl rfl (fun hc => ?_) (fun hc => ?_)
              · have h := ok_t hc h
                refine aw_run tTX6_faultOf 2 (pc2 := 80) (L2 := [(3, .int (σ 36 y2.toNatClampNeg)), (0, .ref 29), (1, .int y1), (2, .int y2)]) (st2 := [.int 1]) rfl ?_
                refine aw_sub [1, 2, 3, 0] rfl ?_
                have h := ok_r h
                exact h
              · have h := ok_f hc h
                refine aw_run tTX6_faultOf 2 (pc2 := 45) (L2 := [(3, .int (σ 36 y2.toNatClampNeg)), (0, .ref 29), (1, .int y1), (2, .int y2)]) (st2 := [.int 33, .int (σ 36 y2.toNatClampNeg)]) rfl ?_
                refine aw_icmp_ne tTX6_faultOf rfl 52 48 rfl rfl (fun hc => ?_) (fun hc => ?_)
                · have h := ok_t hc h
                  refine aw_run tTX6_faultOf 2 (pc2 := 80) (L2 := [(3, .int (σ 36 y2.toNatClampNeg)), (0, .ref 29), (1, .int y1), (2, .int y2)]) (st2 := [.int 0]) rfl ?_
                  refine aw_sub [1, 2, 3, 0] rfl ?_
                  have h := ok_r h
                  exact h
                · have h := ok_fn hc h
                  refine aw_run tTX6_faultOf 2 (pc2 := 80) (L2 := [(3, .int (σ 36 y2.toNatClampNeg)), (0, .ref 29), (1, .int y1), (2, .int y2)]) (st2 := [.int 1]) rfl ?_
                  refine aw_sub [1, 2, 3, 0] rfl ?_
                  have h := ok_r h
                  exact h
theorem s_X6_faultOf {g : Nat → Option Nat} {S : List SC} (hS : Wf g S) {σ : St}  {r : Int32} (e : f_X6_faultOf  σ = some r) : Fn MX6_faultOf rmX6_faultOf [.ref 29] S σ (some (.int r)) σ := Sp.of (by decide) (Nat.le_of_ble_eq_true rfl) (t_X6_faultOf hS  ⟨r, e, rfl, rfl, rfl⟩)
def f_X6_fault  (σ : St) : Option (Int32) := Option.bind (f_X6_faultOf  σ) (fun r1 => some (r1))
set_option maxHeartbeats 4000000 in
set_option maxRecDepth 20000 in
theorem t_X6_fault {g : Nat → Option Nat} {S : List SC} (hS : Wf g S) {σ : St} {Q : QT}  (h : ok (f_X6_fault  σ) (fun r => Q (some (.int r)) S σ)) : AW MX6_fault E0 rmX6_fault 0 0 Q 0 0 S σ 0 [(0, .ref 29)] [] := by
  unfold f_X6_fault at h
  refine aw_run tTX6_fault 1 (pc2 := 1) (L2 := [(0, .ref 29)]) (st2 := [.ref 29]) rfl ?_
  obtain ⟨r1, er1, h⟩ := ok_b h
  refine aw_cV tTX6_fault rfl 4 rfl (M' := MX6_faultOf) (av := []) (rest := []) rfl lkX6_97 hMX6_faultOf rfl (w_29 hS) ⟨_, _, rfl⟩ (s_X6_faultOf hS er1) ⟨rfl, rfl, ⟨by decide, by decide⟩, by decide, by decide⟩ (Nat.le_of_ble_eq_true rfl) 46 (wf_len hS) rfl [.int r1] rfl ?_
  have h := ok_r h
  exact aw_ir tTX6_fault rfl rfl rfl (Nat.le_refl _) (Nat.le_refl _) h
theorem s_X6_fault {g : Nat → Option Nat} {S : List SC} (hS : Wf g S) {σ : St}  {r : Int32} (e : f_X6_fault  σ = some r) : Fn MX6_fault rmX6_fault [.ref 29] S σ (some (.int r)) σ := Sp.of (by decide) (Nat.le_of_ble_eq_true rfl) (t_X6_fault hS  ⟨r, e, rfl, rfl, rfl⟩)
def l_X6_asNow_2  (y1 : Int32) (σ2 : St) : Option ((Int32 × St) ⊕ (St)) := if 6 ≤ y1 then (some (.inr σ2)) else (gi y1 6 (gi y1 6 (nm (up2 σ2 37 y1.toNatClampNeg (σ2 32 y1.toNatClampNeg)) (fun σ4 => gi y1 6 (gi y1 6 (nm (up2 σ4 38 y1.toNatClampNeg (σ4 33 y1.toNatClampNeg)) (fun σ5 => gi y1 6 (gi y1 6 (nm (up2 σ5 39 y1.toNatClampNeg (σ5 34 y1.toNatClampNeg)) (fun σ6 => gi y1 6 (gi y1 6 (nm (up2 σ6 40 y1.toNatClampNeg (σ6 35 y1.toNatClampNeg)) (fun σ7 => some (.inl (y1 + 1, σ7)))))))))))))))
def f_X6_asNow  (σ : St) : Option (St) := Option.bind (loop (fun s : Int32 × St => l_X6_asNow_2  s.1 s.2) 400 (0, σ)) (fun (z3 : St) => nm (up2 z3 29 18 (z3 29 11)) (fun σ8 => nm (up2 σ8 29 19 (σ8 29 2)) (fun σ9 => nm (up2 σ9 29 20 (σ9 29 3)) (fun σ10 => nm (up2 σ10 29 21 (σ10 29 4)) (fun σ11 => some (σ11))))))
set_option maxHeartbeats 4000000 in
set_option maxRecDepth 20000 in
theorem t_X6_asNow {g : Nat → Option Nat} {S : List SC} (hS : Wf g S) {σ : St} {Q : QT}  (h : ok (f_X6_asNow  σ) (fun r => Q none S r)) : AW MX6_asNow E0 rmX6_asNow 0 0 Q 0 0 S σ 0 [(0, .ref 29)] [] := by
  unfold f_X6_asNow at h
  refine aw_run tTX6_asNow 2 (pc2 := 2) (L2 := [(1, .int 0), (0, .ref 29)]) (st2 := []) rfl ?_
  refine ok_use (P := fun z3 : St => AW MX6_asNow E0 rmX6_asNow 0 0 Q 0 0 S z3 62 [(0, .ref 29)] []) (ok_b h) (fun z3 h => ?_) (fun h => ?_)
  · refine aw_run tTX6_asNow 2 (pc2 := 64) (L2 := [(0, .ref 29)]) (st2 := [.ref 29, .ref 29]) rfl ?_
    refine aw_getI tTX6_asNow rfl 67 rfl (w_29 hS) rfl flX6_88 ?_
    refine aw_putI tTX6_asNow rfl 70 rfl (w_29 hS) rfl fpX6_101 ?_
    refine aw_nmS (fun σ8 eσ8 => ?_)
    have h := ok_nm h σ8 eσ8
    refine aw_run tTX6_asNow 2 (pc2 := 72) (L2 := [(0, .ref 29)]) (st2 := [.ref 29, .ref 29]) rfl ?_
    refine aw_getI tTX6_asNow rfl 75 rfl (w_29 hS) rfl flX6_82 ?_
    refine aw_putI tTX6_asNow rfl 78 rfl (w_29 hS) rfl fpX6_104 ?_
    refine aw_nmS (fun σ9 eσ9 => ?_)
    have h := ok_nm h σ9 eσ9
    refine aw_run tTX6_asNow 2 (pc2 := 80) (L2 := [(0, .ref 29)]) (st2 := [.ref 29, .ref 29]) rfl ?_
    refine aw_getI tTX6_asNow rfl 83 rfl (w_29 hS) rfl flX6_85 ?_
    refine aw_putI tTX6_asNow rfl 86 rfl (w_29 hS) rfl fpX6_107 ?_
    refine aw_nmS (fun σ10 eσ10 => ?_)
    have h := ok_nm h σ10 eσ10
    refine aw_run tTX6_asNow 2 (pc2 := 88) (L2 := [(0, .ref 29)]) (st2 := [.ref 29, .ref 29]) rfl ?_
    refine aw_getI tTX6_asNow rfl 91 rfl (w_29 hS) rfl flX6_13 ?_
    refine aw_putI tTX6_asNow rfl 94 rfl (w_29 hS) rfl fpX6_110 ?_
    refine aw_nmS (fun σ11 eσ11 => ?_)
    have h := ok_nm h σ11 eσ11
    have h := ok_r h
    exact aw_vr tTX6_asNow rfl rfl (Nat.le_refl _) (Nat.le_refl _) h
  · refine aw_sub [1, 0] rfl ?_
    refine loop_P (P := fun s : Int32 × St => AW MX6_asNow E0 rmX6_asNow 0 0 Q 0 0 S s.2 2 [(0, .ref 29), (1, .int s.1)] []) (fun s h => ?_) _ _ h
    obtain ⟨y1, σ2⟩ := s
    replace h : ok (l_X6_asNow_2  y1 σ2) _ := h
    unfold l_X6_asNow_2 at h
    show AW MX6_asNow E0 rmX6_asNow 0 0 Q 0 0 S σ2 2 [(0, .ref 29), (1, .int y1)] []
    refine aw_run tTX6_asNow 2 (pc2 := 5) (L2 := [(0, .ref 29), (1, .int y1)]) (st2 := [.int 6, .int y1]) rfl ?_
    refine aw_icmp_ge tTX6_asNow rfl 62 8 rfl rfl (fun hc => ?_) (fun hc => ?_)
    · have h := ok_t hc h
      refine aw_sub [0] rfl ?_
      have h := ok_r h
      exact h
    · have h := ok_f hc h
      refine aw_run tTX6_asNow 1 (pc2 := 9) (L2 := [(0, .ref 29), (1, .int y1)]) (st2 := [.ref 29]) rfl ?_
      refine aw_getR tTX6_asNow rfl 12 rfl (w_29 hS) rfl flX6_35 ?_
      refine aw_run tTX6_asNow 2 (pc2 := 14) (L2 := [(0, .ref 29), (1, .int y1)]) (st2 := [.ref 29, .int y1, .ref 37]) rfl ?_
      refine aw_getR tTX6_asNow rfl 17 rfl (w_29 hS) rfl flX6_20 ?_
      refine aw_run tTX6_asNow 1 (pc2 := 18) (L2 := [(0, .ref 29), (1, .int y1)]) (st2 := [.int y1, .ref 32, .int y1, .ref 37]) rfl ?_
      obtain ⟨hi, h⟩ := ok_gi h
      refine aw_iald tTX6_asNow rfl 19 rfl (w_32 hS) hi ?_
      obtain ⟨hi, h⟩ := ok_gi h
      refine aw_iast tTX6_asNow rfl 20 rfl (w_37 hS) hi ?_
      refine aw_nmS (fun σ4 eσ4 => ?_)
      have h := ok_nm h σ4 eσ4
      refine aw_run tTX6_asNow 1 (pc2 := 21) (L2 := [(0, .ref 29), (1, .int y1)]) (st2 := [.ref 29]) rfl ?_
      refine aw_getR tTX6_asNow rfl 24 rfl (w_29 hS) rfl flX6_38 ?_
      refine aw_run tTX6_asNow 2 (pc2 := 26) (L2 := [(0, .ref 29), (1, .int y1)]) (st2 := [.ref 29, .int y1, .ref 38]) rfl ?_
      refine aw_getR tTX6_asNow rfl 29 rfl (w_29 hS) rfl flX6_23 ?_
      refine aw_run tTX6_asNow 1 (pc2 := 30) (L2 := [(0, .ref 29), (1, .int y1)]) (st2 := [.int y1, .ref 33, .int y1, .ref 38]) rfl ?_
      obtain ⟨hi, h⟩ := ok_gi h
      refine aw_iald tTX6_asNow rfl 31 rfl (w_33 hS) hi ?_
      obtain ⟨hi, h⟩ := ok_gi h
      refine aw_iast tTX6_asNow rfl 32 rfl (w_38 hS) hi ?_
      refine aw_nmS (fun σ5 eσ5 => ?_)
      have h := ok_nm h σ5 eσ5
      refine aw_run tTX6_asNow 1 (pc2 := 33) (L2 := [(0, .ref 29), (1, .int y1)]) (st2 := [.ref 29]) rfl ?_
      refine aw_getR tTX6_asNow rfl 36 rfl (w_29 hS) rfl flX6_41 ?_
      refine aw_run tTX6_asNow 2 (pc2 := 38) (L2 := [(0, .ref 29), (1, .int y1)]) (st2 := [.ref 29, .int y1, .ref 39]) rfl ?_
      refine aw_getR tTX6_asNow rfl 41 rfl (w_29 hS) rfl flX6_26 ?_
      refine aw_run tTX6_asNow 1 (pc2 := 42) (L2 := [(0, .ref 29), (1, .int y1)]) (st2 := [.int y1, .ref 34, .int y1, .ref 39]) rfl ?_
      obtain ⟨hi, h⟩ := ok_gi h
      refine aw_iald tTX6_asNow rfl 43 rfl (w_34 hS) hi ?_
      obtain ⟨hi, h⟩ := ok_gi h
      refine aw_iast tTX6_asNow rfl 44 rfl (w_39 hS) hi ?_
      refine aw_nmS (fun σ6 eσ6 => ?_)
      have h := ok_nm h σ6 eσ6
      refine aw_run tTX6_asNow 1 (pc2 := 45) (L2 := [(0, .ref 29), (1, .int y1)]) (st2 := [.ref 29]) rfl ?_
      refine aw_getR tTX6_asNow rfl 48 rfl (w_29 hS) rfl flX6_44 ?_
      refine aw_run tTX6_asNow 2 (pc2 := 50) (L2 := [(0, .ref 29), (1, .int y1)]) (st2 := [.ref 29, .int y1, .ref 40]) rfl ?_
      refine aw_getR tTX6_asNow rfl 53 rfl (w_29 hS) rfl flX6_29 ?_
      refine aw_run tTX6_asNow 1 (pc2 := 54) (L2 := [(0, .ref 29), (1, .int y1)]) (st2 := [.int y1, .ref 35, .int y1, .ref 40]) rfl ?_
      obtain ⟨hi, h⟩ := ok_gi h
      refine aw_iald tTX6_asNow rfl 55 rfl (w_35 hS) hi ?_
      obtain ⟨hi, h⟩ := ok_gi h
      refine aw_iast tTX6_asNow rfl 56 rfl (w_40 hS) hi ?_
      refine aw_nmS (fun σ7 eσ7 => ?_)
      have h := ok_nm h σ7 eσ7
      refine aw_run tTX6_asNow 2 (pc2 := 2) (L2 := [(1, .int (y1 + 1)), (0, .ref 29)]) (st2 := []) rfl ?_
      refine aw_sub [1, 0] rfl ?_
      have h := ok_r h
      exact h
theorem s_X6_asNow {g : Nat → Option Nat} {S : List SC} (hS : Wf g S) {σ : St}  {r : St} (e : f_X6_asNow  σ = some r) : Fn MX6_asNow rmX6_asNow [.ref 29] S σ none r := Sp.of (by decide) (Nat.le_of_ble_eq_true rfl) (t_X6_asNow hS  ⟨r, e, rfl, rfl, rfl⟩)
def f_X6_bar (a1 : Int32) (a2 : Int32) (σ : St) : Option (Int32) := Option.bind (f_X6_isThere a1 σ) (fun r1 => if r1 = 0 then (some (1)) else (Option.bind (f_X6_isThere a2 σ) (fun r2 => if ¬ r2 = 0 then (if ¬ a1 = a2 then (gi a1 6 (Option.bind (f_X6_has (σ 39 a1.toNatClampNeg) a2) (fun r3 => if r3 = 0 then (Option.bind (f_X6_has (σ 29 19) a2) (fun r4 => if r4 = 0 then (gi a2 6 (if ¬ (σ 37 a2.toNatClampNeg) = 0 then (some (0)) else (some (6)))) else (Option.bind (f_X6_has (σ 29 20) a2) (fun r5 => if ¬ r5 = 0 then (gi a2 6 (if ¬ (σ 37 a2.toNatClampNeg) = 0 then (some (0)) else (some (6)))) else (some (5)))))) else (some (3))))) else (some (2))) else (some (1)))))
set_option maxHeartbeats 4000000 in
set_option maxRecDepth 20000 in
theorem t_X6_bar {g : Nat → Option Nat} {S : List SC} (hS : Wf g S) {σ : St} {Q : QT} (a1 : Int32) (a2 : Int32) (h : ok (f_X6_bar a1 a2 σ) (fun r => Q (some (.int r)) S σ)) : AW MX6_bar E0 rmX6_bar 0 0 Q 0 0 S σ 0 [(0, .ref 29), (1, .int a1), (2, .int a2)] [] := by
  unfold f_X6_bar at h
  refine aw_run tTX6_bar 2 (pc2 := 2) (L2 := [(0, .ref 29), (1, .int a1), (2, .int a2)]) (st2 := [.int a1, .ref 29]) rfl ?_
  obtain ⟨r1, er1, h⟩ := ok_b h
  refine aw_cV tTX6_bar rfl 5 rfl (M' := MX6_isThere) (av := [.int a1]) (rest := []) rfl lkX6_78 hMX6_isThere rfl (w_29 hS) ⟨_, _, rfl⟩ (s_X6_isThere hS er1) ⟨rfl, rfl, ⟨by decide, by decide⟩, by decide, by decide⟩ (Nat.le_of_ble_eq_true rfl) 46 (wf_len hS) rfl [.int r1] rfl ?_
  refine aw_if_eq tTX6_bar rfl 16 8 rfl rfl (fun hc => ?_) (fun hc => ?_)
  · have h := ok_t hc h
    refine aw_run tTX6_bar 1 (pc2 := 17) (L2 := [(0, .ref 29), (1, .int a1), (2, .int a2)]) (st2 := [.int 1]) rfl ?_
    have h := ok_r h
    exact aw_ir tTX6_bar rfl rfl rfl (Nat.le_refl _) (Nat.le_refl _) h
  · have h := ok_f hc h
    refine aw_run tTX6_bar 2 (pc2 := 10) (L2 := [(0, .ref 29), (1, .int a1), (2, .int a2)]) (st2 := [.int a2, .ref 29]) rfl ?_
    obtain ⟨r2, er2, h⟩ := ok_b h
    refine aw_cV tTX6_bar rfl 13 rfl (M' := MX6_isThere) (av := [.int a2]) (rest := []) rfl lkX6_78 hMX6_isThere rfl (w_29 hS) ⟨_, _, rfl⟩ (s_X6_isThere hS er2) ⟨rfl, rfl, ⟨by decide, by decide⟩, by decide, by decide⟩ (Nat.le_of_ble_eq_true rfl) 46 (wf_len hS) rfl [.int r2] rfl ?_
    refine aw_if_ne tTX6_bar rfl 18 16 rfl rfl (fun hc => ?_) (fun hc => ?_)
    · have h := ok_t hc h
      refine aw_run tTX6_bar 2 (pc2 := 20) (L2 := [(0, .ref 29), (1, .int a1), (2, .int a2)]) (st2 := [.int a2, .int a1]) rfl ?_
      refine aw_icmp_ne tTX6_bar rfl 25 23 rfl rfl (fun hc => ?_) (fun hc => ?_)
      · have h := ok_t hc h
        refine aw_run tTX6_bar 1 (pc2 := 26) (L2 := [(0, .ref 29), (1, .int a1), (2, .int a2)]) (st2 := [.ref 29]) rfl ?_
        refine aw_getR tTX6_bar rfl 29 rfl (w_29 hS) rfl flX6_41 ?_
        refine aw_run tTX6_bar 1 (pc2 := 30) (L2 := [(0, .ref 29), (1, .int a1), (2, .int a2)]) (st2 := [.int a1, .ref 39]) rfl ?_
        obtain ⟨hi, h⟩ := ok_gi h
        refine aw_iald tTX6_bar rfl 31 rfl (w_39 hS) hi ?_
        refine aw_run tTX6_bar 1 (pc2 := 32) (L2 := [(0, .ref 29), (1, .int a1), (2, .int a2)]) (st2 := [.int a2, .int (σ 39 a1.toNatClampNeg)]) rfl ?_
        obtain ⟨r3, er3, h⟩ := ok_b h
        refine aw_cS tTX6_bar rfl 35 rfl (M' := MX6_has) (av := [.int (σ 39 a1.toNatClampNeg), .int a2]) (rest := []) rfl lkX6_70 hMX6_has rfl (s_X6_has hS er3) ⟨rfl, rfl, ⟨by decide, by decide⟩, by decide, by decide⟩ (Nat.le_of_ble_eq_true rfl) 46 (wf_len hS) rfl [.int r3] rfl ?_
        refine aw_if_eq tTX6_bar rfl 42 38 rfl rfl (fun hc => ?_) (fun hc => ?_)
        · have h := ok_t hc h
          refine aw_run tTX6_bar 1 (pc2 := 43) (L2 := [(0, .ref 29), (1, .int a1), (2, .int a2)]) (st2 := [.ref 29]) rfl ?_
          refine aw_getI tTX6_bar rfl 46 rfl (w_29 hS) rfl flX6_104 ?_
          refine aw_run tTX6_bar 1 (pc2 := 47) (L2 := [(0, .ref 29), (1, .int a1), (2, .int a2)]) (st2 := [.int a2, .int (σ 29 19)]) rfl ?_
          obtain ⟨r4, er4, h⟩ := ok_b h
          refine aw_cS tTX6_bar rfl 50 rfl (M' := MX6_has) (av := [.int (σ 29 19), .int a2]) (rest := []) rfl lkX6_70 hMX6_has rfl (s_X6_has hS er4) ⟨rfl, rfl, ⟨by decide, by decide⟩, by decide, by decide⟩ (Nat.le_of_ble_eq_true rfl) 46 (wf_len hS) rfl [.int r4] rfl ?_
          refine aw_if_eq tTX6_bar rfl 68 53 rfl rfl (fun hc => ?_) (fun hc => ?_)
          · have h := ok_t hc h
            refine aw_run tTX6_bar 1 (pc2 := 69) (L2 := [(0, .ref 29), (1, .int a1), (2, .int a2)]) (st2 := [.ref 29]) rfl ?_
            refine aw_getR tTX6_bar rfl 72 rfl (w_29 hS) rfl flX6_35 ?_
            refine aw_run tTX6_bar 1 (pc2 := 73) (L2 := [(0, .ref 29), (1, .int a1), (2, .int a2)]) (st2 := [.int a2, .ref 37]) rfl ?_
            obtain ⟨hi, h⟩ := ok_gi h
            refine aw_iald tTX6_bar rfl 74 rfl (w_37 hS) hi ?_
            refine aw_if_ne tTX6_bar rfl 82 77 rfl rfl (fun hc => ?_) (fun hc => ?_)
            · have h := ok_t hc h
              refine aw_run tTX6_bar 1 (pc2 := 83) (L2 := [(0, .ref 29), (1, .int a1), (2, .int a2)]) (st2 := [.int 0]) rfl ?_
              have h := ok_r h
              exact aw_ir tTX6_bar rfl rfl rfl (Nat.le_refl _) (Nat.le_refl _) h
            · have h := ok_fn hc h
              refine aw_run tTX6_bar 2 (pc2 := 83) (L2 := [(0, .ref 29), (1, .int a1), (2, .int a2)]) (st2 := [.int 6]) rfl ?_
              have h := ok_r h
              exact aw_ir tTX6_bar rfl rfl rfl (Nat.le_refl _) (Nat.le_refl _) h
          · have h := ok_f hc h
            refine aw_run tTX6_bar 1 (pc2 := 54) (L2 := [(0, .ref 29), (1, .int a1), (2, .int a2)]) (st2 := [.ref 29]) rfl ?_
            refine aw_getI tTX6_bar rfl 57 rfl (w_29 hS) rfl flX6_107 ?_
            refine aw_run tTX6_bar 1 (pc2 := 58) (L2 := [(0, .ref 29), (1, .int a1), (2, .int a2)]) (st2 := [.int a2, .int (σ 29 20)]) rfl ?_
            obtain ⟨r5, er5, h⟩ := ok_b h
            refine aw_cS tTX6_bar rfl 61 rfl (M' := MX6_has) (av := [.int (σ 29 20), .int a2]) (rest := []) rfl lkX6_70 hMX6_has rfl (s_X6_has hS er5) ⟨rfl, rfl, ⟨by decide, by decide⟩, by decide, by decide⟩ (Nat.le_of_ble_eq_true rfl) 46 (wf_len hS) rfl [.int r5] rfl ?_
            refine aw_if_ne tTX6_bar rfl 68 64 rfl rfl (fun hc => ?_) (fun hc => ?_)
            · have h := ok_t hc h
              refine aw_run tTX6_bar 1 (pc2 := 69) (L2 := [(0, .ref 29), (1, .int a1), (2, .int a2)]) (st2 := [.ref 29]) rfl ?_
              refine aw_getR tTX6_bar rfl 72 rfl (w_29 hS) rfl flX6_35 ?_
              refine aw_run tTX6_bar 1 (pc2 := 73) (L2 := [(0, .ref 29), (1, .int a1), (2, .int a2)]) (st2 := [.int a2, .ref 37]) rfl ?_
              obtain ⟨hi, h⟩ := ok_gi h
              refine aw_iald tTX6_bar rfl 74 rfl (w_37 hS) hi ?_
              refine aw_if_ne tTX6_bar rfl 82 77 rfl rfl (fun hc => ?_) (fun hc => ?_)
              · have h := ok_t hc h
                refine aw_run tTX6_bar 1 (pc2 := 83) (L2 := [(0, .ref 29), (1, .int a1), (2, .int a2)]) (st2 := [.int 0]) rfl ?_
                have h := ok_r h
                exact aw_ir tTX6_bar rfl rfl rfl (Nat.le_refl _) (Nat.le_refl _) h
              · have h := ok_fn hc h
                refine aw_run tTX6_bar 2 (pc2 := 83) (L2 := [(0, .ref 29), (1, .int a1), (2, .int a2)]) (st2 := [.int 6]) rfl ?_
                have h := ok_r h
                exact aw_ir tTX6_bar rfl rfl rfl (Nat.le_refl _) (Nat.le_refl _) h
            · have h := ok_fn hc h
              refine aw_run tTX6_bar 2 (pc2 := 83) (L2 := [(0, .ref 29), (1, .int a1), (2, .int a2)]) (st2 := [.int 5]) rfl ?_
              have h := ok_r h
              exact aw_ir tTX6_bar rfl rfl rfl (Nat.le_refl _) (Nat.le_refl _) h
        · have h := ok_f hc h
          refine aw_run tTX6_bar 2 (pc2 := 83) (L2 := [(0, .ref 29), (1, .int a1), (2, .int a2)]) (st2 := [.int 3]) rfl ?_
          have h := ok_r h
          exact aw_ir tTX6_bar rfl rfl rfl (Nat.le_refl _) (Nat.le_refl _) h
      · have h := ok_fn hc h
        refine aw_run tTX6_bar 1 (pc2 := 24) (L2 := [(0, .ref 29), (1, .int a1), (2, .int a2)]) (st2 := [.int 2]) rfl ?_
        have h := ok_r h
        exact aw_ir tTX6_bar rfl rfl rfl (Nat.le_refl _) (Nat.le_refl _) h
    · have h := ok_fn hc h
      refine aw_run tTX6_bar 1 (pc2 := 17) (L2 := [(0, .ref 29), (1, .int a1), (2, .int a2)]) (st2 := [.int 1]) rfl ?_
      have h := ok_r h
      exact aw_ir tTX6_bar rfl rfl rfl (Nat.le_refl _) (Nat.le_refl _) h
theorem s_X6_bar {g : Nat → Option Nat} {S : List SC} (hS : Wf g S) {σ : St} {a1 : Int32} {a2 : Int32} {r : Int32} (e : f_X6_bar a1 a2 σ = some r) : Fn MX6_bar rmX6_bar [.ref 29, .int a1, .int a2] S σ (some (.int r)) σ := Sp.of (by decide) (Nat.le_of_ble_eq_true rfl) (t_X6_bar hS a1 a2 ⟨r, e, rfl, rfl, rfl⟩)
def f_X6_whyNot (a1 : Int32) (a2 : Int32) (σ : St) : Option (Int32) := Option.bind (f_X6_bar a1 a2 σ) (fun r1 => if r1 ≤ 0 then (Option.bind (f_X6_has (σ 29 18) a1) (fun r2 => if r2 = 0 then (if r1 ≤ 0 then (if ¬ (σ 29 21) = 0 then (some (0)) else (some (7))) else (some (r1))) else (some (4)))) else (if 4 ≤ r1 then (Option.bind (f_X6_has (σ 29 18) a1) (fun r3 => if r3 = 0 then (if r1 ≤ 0 then (if ¬ (σ 29 21) = 0 then (some (0)) else (some (7))) else (some (r1))) else (some (4)))) else (some (r1))))
set_option maxHeartbeats 4000000 in
set_option maxRecDepth 20000 in
theorem t_X6_whyNot {g : Nat → Option Nat} {S : List SC} (hS : Wf g S) {σ : St} {Q : QT} (a1 : Int32) (a2 : Int32) (h : ok (f_X6_whyNot a1 a2 σ) (fun r => Q (some (.int r)) S σ)) : AW MX6_whyNot E0 rmX6_whyNot 0 0 Q 0 0 S σ 0 [(0, .ref 29), (1, .int a1), (2, .int a2)] [] := by
  unfold f_X6_whyNot at h
  refine aw_run tTX6_whyNot 3 (pc2 := 3) (L2 := [(0, .ref 29), (1, .int a1), (2, .int a2)]) (st2 := [.int a2, .int a1, .ref 29]) rfl ?_
  obtain ⟨r1, er1, h⟩ := ok_b h
  refine aw_cV tTX6_whyNot rfl 6 rfl (M' := MX6_bar) (av := [.int a1, .int a2]) (rest := []) rfl lkX6_113 hMX6_bar rfl (w_29 hS) ⟨_, _, rfl⟩ (s_X6_bar hS er1) ⟨rfl, rfl, ⟨by decide, by decide⟩, by decide, by decide⟩ (Nat.le_of_ble_eq_true rfl) 46 (wf_len hS) rfl [.int r1] rfl ?_
  refine aw_run tTX6_whyNot 2 (pc2 := 8) (L2 := [(3, .int r1), (0, .ref 29), (1, .int a1), (2, .int a2)]) (st2 := [.int r1]) rfl ?_
  refine aw_if_le tTX6_whyNot rfl 18 11 rfl rfl (fun hc => ?_) (fun hc => ?_)
  · have h := ok_t hc h
    refine aw_run tTX6_whyNot 1 (pc2 := 19) (L2 := [(3, .int r1), (0, .ref 29), (1, .int a1), (2, .int a2)]) (st2 := [.ref 29]) rfl ?_
    refine aw_getI tTX6_whyNot rfl 22 rfl (w_29 hS) rfl flX6_101 ?_
    refine aw_run tTX6_whyNot 1 (pc2 := 23) (L2 := [(3, .int r1), (0, .ref 29), (1, .int a1), (2, .int a2)]) (st2 := [.int a1, .int (σ 29 18)]) rfl ?_
    obtain ⟨r2, er2, h⟩ := ok_b h
    refine aw_cS tTX6_whyNot rfl 26 rfl (M' := MX6_has) (av := [.int (σ 29 18), .int a1]) (rest := []) rfl lkX6_70 hMX6_has rfl (s_X6_has hS er2) ⟨rfl, rfl, ⟨by decide, by decide⟩, by decide, by decide⟩ (Nat.le_of_ble_eq_true rfl) 46 (wf_len hS) rfl [.int r2] rfl ?_
    refine aw_if_eq tTX6_whyNot rfl 33 29 rfl rfl (fun hc => ?_) (fun hc => ?_)
    · have h := ok_t hc h
      refine aw_run tTX6_whyNot 1 (pc2 := 34) (L2 := [(3, .int r1), (0, .ref 29), (1, .int a1), (2, .int a2)]) (st2 := [.int r1]) rfl ?_
      refine aw_if_le tTX6_whyNot rfl 41 37 rfl rfl (fun hc => ?_) (fun hc => ?_)
      · have h := ok_t hc h
        refine aw_run tTX6_whyNot 1 (pc2 := 42) (L2 := [(3, .int r1), (0, .ref 29), (1, .int a1), (2, .int a2)]) (st2 := [.ref 29]) rfl ?_
        refine aw_getI tTX6_whyNot rfl 45 rfl (w_29 hS) rfl flX6_110 ?_
        refine aw_if_ne tTX6_whyNot rfl 53 48 rfl rfl (fun hc => ?_) (fun hc => ?_)
        · have h := ok_t hc h
          refine aw_run tTX6_whyNot 1 (pc2 := 54) (L2 := [(3, .int r1), (0, .ref 29), (1, .int a1), (2, .int a2)]) (st2 := [.int 0]) rfl ?_
          have h := ok_r h
          exact aw_ir tTX6_whyNot rfl rfl rfl (Nat.le_refl _) (Nat.le_refl _) h
        · have h := ok_fn hc h
          refine aw_run tTX6_whyNot 2 (pc2 := 54) (L2 := [(3, .int r1), (0, .ref 29), (1, .int a1), (2, .int a2)]) (st2 := [.int 7]) rfl ?_
          have h := ok_r h
          exact aw_ir tTX6_whyNot rfl rfl rfl (Nat.le_refl _) (Nat.le_refl _) h
      · have h := ok_f hc h
        refine aw_run tTX6_whyNot 2 (pc2 := 54) (L2 := [(3, .int r1), (0, .ref 29), (1, .int a1), (2, .int a2)]) (st2 := [.int r1]) rfl ?_
        have h := ok_r h
        exact aw_ir tTX6_whyNot rfl rfl rfl (Nat.le_refl _) (Nat.le_refl _) h
    · have h := ok_f hc h
      refine aw_run tTX6_whyNot 2 (pc2 := 54) (L2 := [(3, .int r1), (0, .ref 29), (1, .int a1), (2, .int a2)]) (st2 := [.int 4]) rfl ?_
      have h := ok_r h
      exact aw_ir tTX6_whyNot rfl rfl rfl (Nat.le_refl _) (Nat.le_refl _) h
  · have h := ok_f hc h
    refine aw_run tTX6_whyNot 2 (pc2 := 13) (L2 := [(3, .int r1), (0, .ref 29), (1, .int a1), (2, .int a2)]) (st2 := [.int 4, .int r1]) rfl ?_
    refine aw_icmp_ge tTX6_whyNot rfl 18 16 rfl rfl (fun hc => ?_) (fun hc => ?_)
    · have h := ok_t hc h
      refine aw_run tTX6_whyNot 1 (pc2 := 19) (L2 := [(3, .int r1), (0, .ref 29), (1, .int a1), (2, .int a2)]) (st2 := [.ref 29]) rfl ?_
      refine aw_getI tTX6_whyNot rfl 22 rfl (w_29 hS) rfl flX6_101 ?_
      refine aw_run tTX6_whyNot 1 (pc2 := 23) (L2 := [(3, .int r1), (0, .ref 29), (1, .int a1), (2, .int a2)]) (st2 := [.int a1, .int (σ 29 18)]) rfl ?_
      obtain ⟨r3, er3, h⟩ := ok_b h
      refine aw_cS tTX6_whyNot rfl 26 rfl (M' := MX6_has) (av := [.int (σ 29 18), .int a1]) (rest := []) rfl lkX6_70 hMX6_has rfl (s_X6_has hS er3) ⟨rfl, rfl, ⟨by decide, by decide⟩, by decide, by decide⟩ (Nat.le_of_ble_eq_true rfl) 46 (wf_len hS) rfl [.int r3] rfl ?_
      refine aw_if_eq tTX6_whyNot rfl 33 29 rfl rfl (fun hc => ?_) (fun hc => ?_)
      · have h := ok_t hc h
        refine aw_run tTX6_whyNot 1 (pc2 := 34) (L2 := [(3, .int r1), (0, .ref 29), (1, .int a1), (2, .int a2)]) (st2 := [.int r1]) rfl ?_
        refine aw_if_le tTX6_whyNot rfl 41 37 rfl rfl (fun hc => ?_) (fun hc => ?_)
        · have h := ok_t hc h
          refine aw_run tTX6_whyNot 1 (pc2 := 42) (L2 := [(3, .int r1), (0, .ref 29), (1, .int a1), (2, .int a2)]) (st2 := [.ref 29]) rfl ?_
          refine aw_getI tTX6_whyNot rfl 45 rfl (w_29 hS) rfl flX6_110 ?_
          refine aw_if_ne tTX6_whyNot rfl 53 48 rfl rfl (fun hc => ?_) (fun hc => ?_)
          · have h := ok_t hc h
            refine aw_run tTX6_whyNot 1 (pc2 := 54) (L2 := [(3, .int r1), (0, .ref 29), (1, .int a1), (2, .int a2)]) (st2 := [.int 0]) rfl ?_
            have h := ok_r h
            exact aw_ir tTX6_whyNot rfl rfl rfl (Nat.le_refl _) (Nat.le_refl _) h
          · have h := ok_fn hc h
            refine aw_run tTX6_whyNot 2 (pc2 := 54) (L2 := [(3, .int r1), (0, .ref 29), (1, .int a1), (2, .int a2)]) (st2 := [.int 7]) rfl ?_
            have h := ok_r h
            exact aw_ir tTX6_whyNot rfl rfl rfl (Nat.le_refl _) (Nat.le_refl _) h
        · have h := ok_f hc h
          refine aw_run tTX6_whyNot 2 (pc2 := 54) (L2 := [(3, .int r1), (0, .ref 29), (1, .int a1), (2, .int a2)]) (st2 := [.int r1]) rfl ?_
          have h := ok_r h
          exact aw_ir tTX6_whyNot rfl rfl rfl (Nat.le_refl _) (Nat.le_refl _) h
      · have h := ok_f hc h
        refine aw_run tTX6_whyNot 2 (pc2 := 54) (L2 := [(3, .int r1), (0, .ref 29), (1, .int a1), (2, .int a2)]) (st2 := [.int 4]) rfl ?_
        have h := ok_r h
        exact aw_ir tTX6_whyNot rfl rfl rfl (Nat.le_refl _) (Nat.le_refl _) h
    · have h := ok_f hc h
      refine aw_run tTX6_whyNot 1 (pc2 := 17) (L2 := [(3, .int r1), (0, .ref 29), (1, .int a1), (2, .int a2)]) (st2 := [.int r1]) rfl ?_
      have h := ok_r h
      exact aw_ir tTX6_whyNot rfl rfl rfl (Nat.le_refl _) (Nat.le_refl _) h
theorem s_X6_whyNot {g : Nat → Option Nat} {S : List SC} (hS : Wf g S) {σ : St} {a1 : Int32} {a2 : Int32} {r : Int32} (e : f_X6_whyNot a1 a2 σ = some r) : Fn MX6_whyNot rmX6_whyNot [.ref 29, .int a1, .int a2] S σ (some (.int r)) σ := Sp.of (by decide) (Nat.le_of_ble_eq_true rfl) (t_X6_whyNot hS a1 a2 ⟨r, e, rfl, rfl, rfl⟩)
def f_X6_takes (a1 : Int32) (a2 : Int32) (σ : St) : Option (Int32) := gi a1 6 (gi a2 6 (if (σ 37 a2.toNatClampNeg) ≤ (σ 30 a1.toNatClampNeg) then (gi a2 6 (some (σ 37 a2.toNatClampNeg))) else (gi a1 6 (some (σ 30 a1.toNatClampNeg)))))
set_option maxHeartbeats 4000000 in
set_option maxRecDepth 20000 in
theorem t_X6_takes {g : Nat → Option Nat} {S : List SC} (hS : Wf g S) {σ : St} {Q : QT} (a1 : Int32) (a2 : Int32) (h : ok (f_X6_takes a1 a2 σ) (fun r => Q (some (.int r)) S σ)) : AW MX6_takes E0 rmX6_takes 0 0 Q 0 0 S σ 0 [(0, .ref 29), (1, .int a1), (2, .int a2)] [] := by
  unfold f_X6_takes at h
  refine aw_run tTX6_takes 1 (pc2 := 1) (L2 := [(0, .ref 29), (1, .int a1), (2, .int a2)]) (st2 := [.ref 29]) rfl ?_
  refine aw_getR tTX6_takes rfl 4 rfl (w_29 hS) rfl flX6_7 ?_
  refine aw_run tTX6_takes 1 (pc2 := 5) (L2 := [(0, .ref 29), (1, .int a1), (2, .int a2)]) (st2 := [.int a1, .ref 30]) rfl ?_
  obtain ⟨hi, h⟩ := ok_gi h
  refine aw_iald tTX6_takes rfl 6 rfl (w_30 hS) hi ?_
  refine aw_run tTX6_takes 1 (pc2 := 7) (L2 := [(0, .ref 29), (1, .int a1), (2, .int a2)]) (st2 := [.ref 29, .int (σ 30 a1.toNatClampNeg)]) rfl ?_
  refine aw_getR tTX6_takes rfl 10 rfl (w_29 hS) rfl flX6_35 ?_
  refine aw_run tTX6_takes 1 (pc2 := 11) (L2 := [(0, .ref 29), (1, .int a1), (2, .int a2)]) (st2 := [.int a2, .ref 37, .int (σ 30 a1.toNatClampNeg)]) rfl ?_
  obtain ⟨hi, h⟩ := ok_gi h
  refine aw_iald tTX6_takes rfl 12 rfl (w_37 hS) hi ?_
  refine aw_icmp_ge tTX6_takes rfl 24 15 rfl rfl (fun hc => ?_) (fun hc => ?_)
  · have h := ok_t hc h
    refine aw_run tTX6_takes 1 (pc2 := 25) (L2 := [(0, .ref 29), (1, .int a1), (2, .int a2)]) (st2 := [.ref 29]) rfl ?_
    refine aw_getR tTX6_takes rfl 28 rfl (w_29 hS) rfl flX6_35 ?_
    refine aw_run tTX6_takes 1 (pc2 := 29) (L2 := [(0, .ref 29), (1, .int a1), (2, .int a2)]) (st2 := [.int a2, .ref 37]) rfl ?_
    obtain ⟨hi, h⟩ := ok_gi h
    refine aw_iald tTX6_takes rfl 30 rfl (w_37 hS) hi ?_
    have h := ok_r h
    exact aw_ir tTX6_takes rfl rfl rfl (Nat.le_refl _) (Nat.le_refl _) h
  · have h := ok_f hc h
    refine aw_run tTX6_takes 1 (pc2 := 16) (L2 := [(0, .ref 29), (1, .int a1), (2, .int a2)]) (st2 := [.ref 29]) rfl ?_
    refine aw_getR tTX6_takes rfl 19 rfl (w_29 hS) rfl flX6_7 ?_
    refine aw_run tTX6_takes 1 (pc2 := 20) (L2 := [(0, .ref 29), (1, .int a1), (2, .int a2)]) (st2 := [.int a1, .ref 30]) rfl ?_
    obtain ⟨hi, h⟩ := ok_gi h
    refine aw_iald tTX6_takes rfl 21 rfl (w_30 hS) hi ?_
    refine aw_run tTX6_takes 1 (pc2 := 30) (L2 := [(0, .ref 29), (1, .int a1), (2, .int a2)]) (st2 := [.int (σ 30 a1.toNatClampNeg)]) rfl ?_
    have h := ok_r h
    exact aw_ir tTX6_takes rfl rfl rfl (Nat.le_refl _) (Nat.le_refl _) h
theorem s_X6_takes {g : Nat → Option Nat} {S : List SC} (hS : Wf g S) {σ : St} {a1 : Int32} {a2 : Int32} {r : Int32} (e : f_X6_takes a1 a2 σ = some r) : Fn MX6_takes rmX6_takes [.ref 29, .int a1, .int a2] S σ (some (.int r)) σ := Sp.of (by decide) (Nat.le_of_ble_eq_true rfl) (t_X6_takes hS a1 a2 ⟨r, e, rfl, rfl, rfl⟩)
def f_X6_rob (a1 : Int32) (a2 : Int32) (σ : St) : Option (St) := Option.bind (f_X6_takes a1 a2 σ) (fun r1 => gi a2 6 (gi a2 6 (nm (up2 σ 37 a2.toNatClampNeg ((σ 37 a2.toNatClampNeg) - r1)) (fun σ2 => gi a1 6 (gi a1 6 (nm (up2 σ2 38 a1.toNatClampNeg ((σ2 38 a1.toNatClampNeg) + r1)) (fun σ3 => gi a1 6 (gi a1 6 (nm (up2 σ3 39 a1.toNatClampNeg ((σ3 39 a1.toNatClampNeg) ||| ((1 : Int32) <<< (a2 &&& 31)))) (fun σ4 => gi a1 6 (nm (up2 σ4 40 a1.toNatClampNeg a2) (fun σ5 => nm (up2 σ5 29 18 ((σ5 29 18) ||| ((1 : Int32) <<< (a1 &&& 31)))) (fun σ6 => some (σ6))))))))))))))
set_option maxHeartbeats 4000000 in
set_option maxRecDepth 20000 in
theorem t_X6_rob {g : Nat → Option Nat} {S : List SC} (hS : Wf g S) {σ : St} {Q : QT} (a1 : Int32) (a2 : Int32) (h : ok (f_X6_rob a1 a2 σ) (fun r => Q none S r)) : AW MX6_rob E0 rmX6_rob 0 0 Q 0 0 S σ 0 [(0, .ref 29), (1, .int a1), (2, .int a2)] [] := by
  unfold f_X6_rob at h
  refine aw_run tTX6_rob 3 (pc2 := 3) (L2 := [(0, .ref 29), (1, .int a1), (2, .int a2)]) (st2 := [.int a2, .int a1, .ref 29]) rfl ?_
  obtain ⟨r1, er1, h⟩ := ok_b h
  refine aw_cV tTX6_rob rfl 6 rfl (M' := MX6_takes) (av := [.int a1, .int a2]) (rest := []) rfl lkX6_117 hMX6_takes rfl (w_29 hS) ⟨_, _, rfl⟩ (s_X6_takes hS er1) ⟨rfl, rfl, ⟨by decide, by decide⟩, by decide, by decide⟩ (Nat.le_of_ble_eq_true rfl) 46 (wf_len hS) rfl [.int r1] rfl ?_
  refine aw_run tTX6_rob 2 (pc2 := 8) (L2 := [(3, .int r1), (0, .ref 29), (1, .int a1), (2, .int a2)]) (st2 := [.ref 29]) rfl ?_
  refine aw_getR tTX6_rob rfl 11 rfl (w_29 hS) rfl flX6_35 ?_
  refine aw_run tTX6_rob 2 (pc2 := 13) (L2 := [(3, .int r1), (0, .ref 29), (1, .int a1), (2, .int a2)]) (st2 := [.int a2, .ref 37, .int a2, .ref 37]) rfl ?_
  obtain ⟨hi, h⟩ := ok_gi h
  refine aw_iald tTX6_rob rfl 14 rfl (w_37 hS) hi ?_
  refine aw_run tTX6_rob 2 (pc2 := 16) (L2 := [(3, .int r1), (0, .ref 29), (1, .int a1), (2, .int a2)]) (st2 := [.int ((σ 37 a2.toNatClampNeg) - r1), .int a2, .ref 37]) rfl ?_
  obtain ⟨hi, h⟩ := ok_gi h
  refine aw_iast tTX6_rob rfl 17 rfl (w_37 hS) hi ?_
  refine aw_nmS (fun σ2 eσ2 => ?_)
  have h := ok_nm h σ2 eσ2
  refine aw_run tTX6_rob 1 (pc2 := 18) (L2 := [(3, .int r1), (0, .ref 29), (1, .int a1), (2, .int a2)]) (st2 := [.ref 29]) rfl ?_
  refine aw_getR tTX6_rob rfl 21 rfl (w_29 hS) rfl flX6_38 ?_
  refine aw_run tTX6_rob 2 (pc2 := 23) (L2 := [(3, .int r1), (0, .ref 29), (1, .int a1), (2, .int a2)]) (st2 := [.int a1, .ref 38, .int a1, .ref 38]) rfl ?_
  obtain ⟨hi, h⟩ := ok_gi h
  refine aw_iald tTX6_rob rfl 24 rfl (w_38 hS) hi ?_
  refine aw_run tTX6_rob 2 (pc2 := 26) (L2 := [(3, .int r1), (0, .ref 29), (1, .int a1), (2, .int a2)]) (st2 := [.int ((σ2 38 a1.toNatClampNeg) + r1), .int a1, .ref 38]) rfl ?_
  obtain ⟨hi, h⟩ := ok_gi h
  refine aw_iast tTX6_rob rfl 27 rfl (w_38 hS) hi ?_
  refine aw_nmS (fun σ3 eσ3 => ?_)
  have h := ok_nm h σ3 eσ3
  refine aw_run tTX6_rob 1 (pc2 := 28) (L2 := [(3, .int r1), (0, .ref 29), (1, .int a1), (2, .int a2)]) (st2 := [.ref 29]) rfl ?_
  refine aw_getR tTX6_rob rfl 31 rfl (w_29 hS) rfl flX6_41 ?_
  refine aw_run tTX6_rob 2 (pc2 := 33) (L2 := [(3, .int r1), (0, .ref 29), (1, .int a1), (2, .int a2)]) (st2 := [.int a1, .ref 39, .int a1, .ref 39]) rfl ?_
  obtain ⟨hi, h⟩ := ok_gi h
  refine aw_iald tTX6_rob rfl 34 rfl (w_39 hS) hi ?_
  refine aw_run tTX6_rob 4 (pc2 := 38) (L2 := [(3, .int r1), (0, .ref 29), (1, .int a1), (2, .int a2)]) (st2 := [.int ((σ3 39 a1.toNatClampNeg) ||| ((1 : Int32) <<< (a2 &&& 31))), .int a1, .ref 39]) rfl ?_
  obtain ⟨hi, h⟩ := ok_gi h
  refine aw_iast tTX6_rob rfl 39 rfl (w_39 hS) hi ?_
  refine aw_nmS (fun σ4 eσ4 => ?_)
  have h := ok_nm h σ4 eσ4
  refine aw_run tTX6_rob 1 (pc2 := 40) (L2 := [(3, .int r1), (0, .ref 29), (1, .int a1), (2, .int a2)]) (st2 := [.ref 29]) rfl ?_
  refine aw_getR tTX6_rob rfl 43 rfl (w_29 hS) rfl flX6_44 ?_
  refine aw_run tTX6_rob 2 (pc2 := 45) (L2 := [(3, .int r1), (0, .ref 29), (1, .int a1), (2, .int a2)]) (st2 := [.int a2, .int a1, .ref 40]) rfl ?_
  obtain ⟨hi, h⟩ := ok_gi h
  refine aw_iast tTX6_rob rfl 46 rfl (w_40 hS) hi ?_
  refine aw_nmS (fun σ5 eσ5 => ?_)
  have h := ok_nm h σ5 eσ5
  refine aw_run tTX6_rob 2 (pc2 := 48) (L2 := [(3, .int r1), (0, .ref 29), (1, .int a1), (2, .int a2)]) (st2 := [.ref 29, .ref 29]) rfl ?_
  refine aw_getI tTX6_rob rfl 51 rfl (w_29 hS) rfl flX6_101 ?_
  refine aw_run tTX6_rob 4 (pc2 := 55) (L2 := [(3, .int r1), (0, .ref 29), (1, .int a1), (2, .int a2)]) (st2 := [.int ((σ5 29 18) ||| ((1 : Int32) <<< (a1 &&& 31))), .ref 29]) rfl ?_
  refine aw_putI tTX6_rob rfl 58 rfl (w_29 hS) rfl fpX6_101 ?_
  refine aw_nmS (fun σ6 eσ6 => ?_)
  have h := ok_nm h σ6 eσ6
  have h := ok_r h
  exact aw_vr tTX6_rob rfl rfl (Nat.le_refl _) (Nat.le_refl _) h
theorem s_X6_rob {g : Nat → Option Nat} {S : List SC} (hS : Wf g S) {σ : St} {a1 : Int32} {a2 : Int32} {r : St} (e : f_X6_rob a1 a2 σ = some r) : Fn MX6_rob rmX6_rob [.ref 29, .int a1, .int a2] S σ none r := Sp.of (by decide) (Nat.le_of_ble_eq_true rfl) (t_X6_rob hS a1 a2 ⟨r, e, rfl, rfl, rfl⟩)
def f_X6_whyNotCaught (a1 : Int32) (σ : St) : Option (Int32) := Option.bind (f_X6_isThere a1 σ) (fun r1 => if ¬ r1 = 0 then (Option.bind (f_X6_has (σ 29 18) a1) (fun r2 => if r2 = 0 then (some (8)) else (gi a1 6 (if 0 ≤ (σ 40 a1.toNatClampNeg) then (some (0)) else (some (8)))))) else (some (1)))
set_option maxHeartbeats 4000000 in
set_option maxRecDepth 20000 in
theorem t_X6_whyNotCaught {g : Nat → Option Nat} {S : List SC} (hS : Wf g S) {σ : St} {Q : QT} (a1 : Int32) (h : ok (f_X6_whyNotCaught a1 σ) (fun r => Q (some (.int r)) S σ)) : AW MX6_whyNotCaught E0 rmX6_whyNotCaught 0 0 Q 0 0 S σ 0 [(0, .ref 29), (1, .int a1)] [] := by
  unfold f_X6_whyNotCaught at h
  refine aw_run tTX6_whyNotCaught 2 (pc2 := 2) (L2 := [(0, .ref 29), (1, .int a1)]) (st2 := [.int a1, .ref 29]) rfl ?_
  obtain ⟨r1, er1, h⟩ := ok_b h
  refine aw_cV tTX6_whyNotCaught rfl 5 rfl (M' := MX6_isThere) (av := [.int a1]) (rest := []) rfl lkX6_78 hMX6_isThere rfl (w_29 hS) ⟨_, _, rfl⟩ (s_X6_isThere hS er1) ⟨rfl, rfl, ⟨by decide, by decide⟩, by decide, by decide⟩ (Nat.le_of_ble_eq_true rfl) 46 (wf_len hS) rfl [.int r1] rfl ?_
  refine aw_if_ne tTX6_whyNotCaught rfl 12 8 rfl rfl (fun hc => ?_) (fun hc => ?_)
  · have h := ok_t hc h
    refine aw_run tTX6_whyNotCaught 1 (pc2 := 13) (L2 := [(0, .ref 29), (1, .int a1)]) (st2 := [.ref 29]) rfl ?_
    refine aw_getI tTX6_whyNotCaught rfl 16 rfl (w_29 hS) rfl flX6_101 ?_
    refine aw_run tTX6_whyNotCaught 1 (pc2 := 17) (L2 := [(0, .ref 29), (1, .int a1)]) (st2 := [.int a1, .int (σ 29 18)]) rfl ?_
    obtain ⟨r2, er2, h⟩ := ok_b h
    refine aw_cS tTX6_whyNotCaught rfl 20 rfl (M' := MX6_has) (av := [.int (σ 29 18), .int a1]) (rest := []) rfl lkX6_70 hMX6_has rfl (s_X6_has hS er2) ⟨rfl, rfl, ⟨by decide, by decide⟩, by decide, by decide⟩ (Nat.le_of_ble_eq_true rfl) 46 (wf_len hS) rfl [.int r2] rfl ?_
    refine aw_if_eq tTX6_whyNotCaught rfl 32 23 rfl rfl (fun hc => ?_) (fun hc => ?_)
    · have h := ok_t hc h
      refine aw_run tTX6_whyNotCaught 2 (pc2 := 38) (L2 := [(0, .ref 29), (1, .int a1)]) (st2 := [.int 8]) rfl ?_
      have h := ok_r h
      exact aw_ir tTX6_whyNotCaught rfl rfl rfl (Nat.le_refl _) (Nat.le_refl _) h
    · have h := ok_f hc h
      refine aw_run tTX6_whyNotCaught 1 (pc2 := 24) (L2 := [(0, .ref 29), (1, .int a1)]) (st2 := [.ref 29]) rfl ?_
      refine aw_getR tTX6_whyNotCaught rfl 27 rfl (w_29 hS) rfl flX6_44 ?_
      refine aw_run tTX6_whyNotCaught 1 (pc2 := 28) (L2 := [(0, .ref 29), (1, .int a1)]) (st2 := [.int a1, .ref 40]) rfl ?_
      obtain ⟨hi, h⟩ := ok_gi h
      refine aw_iald tTX6_whyNotCaught rfl 29 rfl (w_40 hS) hi ?_
      refine aw_if_ge tTX6_whyNotCaught rfl 37 32 rfl rfl (fun hc => ?_) (fun hc => ?_)
      · have h := ok_t hc h
        refine aw_run tTX6_whyNotCaught 1 (pc2 := 38) (L2 := [(0, .ref 29), (1, .int a1)]) (st2 := [.int 0]) rfl ?_
        have h := ok_r h
        exact aw_ir tTX6_whyNotCaught rfl rfl rfl (Nat.le_refl _) (Nat.le_refl _) h
      · have h := ok_f hc h
        refine aw_run tTX6_whyNotCaught 2 (pc2 := 38) (L2 := [(0, .ref 29), (1, .int a1)]) (st2 := [.int 8]) rfl ?_
        have h := ok_r h
        exact aw_ir tTX6_whyNotCaught rfl rfl rfl (Nat.le_refl _) (Nat.le_refl _) h
  · have h := ok_fn hc h
    refine aw_run tTX6_whyNotCaught 2 (pc2 := 38) (L2 := [(0, .ref 29), (1, .int a1)]) (st2 := [.int 1]) rfl ?_
    have h := ok_r h
    exact aw_ir tTX6_whyNotCaught rfl rfl rfl (Nat.le_refl _) (Nat.le_refl _) h
theorem s_X6_whyNotCaught {g : Nat → Option Nat} {S : List SC} (hS : Wf g S) {σ : St} {a1 : Int32} {r : Int32} (e : f_X6_whyNotCaught a1 σ = some r) : Fn MX6_whyNotCaught rmX6_whyNotCaught [.ref 29, .int a1] S σ (some (.int r)) σ := Sp.of (by decide) (Nat.le_of_ble_eq_true rfl) (t_X6_whyNotCaught hS a1 ⟨r, e, rfl, rfl, rfl⟩)
def f_X6_caughtNow (a1 : Int32) (σ : St) : Option (St) := gi a1 6 (Option.bind (α := Int32) (if 9 ≤ (σ 38 a1.toNatClampNeg) then (some 9) else (gi a1 6 (some (σ 38 a1.toNatClampNeg)))) (fun (j1 : Int32) => gi a1 6 (gi a1 6 (gi a1 6 (nm (up2 σ 38 a1.toNatClampNeg ((σ 38 a1.toNatClampNeg) - j1)) (fun σ2 => gi (σ 40 a1.toNatClampNeg) 6 (Option.bind (α := Int32) (if ((σ2 37 (σ 40 a1.toNatClampNeg).toNatClampNeg) + j1) ≤ 99 then (gi (σ 40 a1.toNatClampNeg) 6 (some ((σ2 37 (σ 40 a1.toNatClampNeg).toNatClampNeg) + j1))) else (some 99)) (fun (j3 : Int32) => gi (σ 40 a1.toNatClampNeg) 6 (nm (up2 σ2 37 (σ 40 a1.toNatClampNeg).toNatClampNeg j3) (fun σ4 => some (σ4)))))))))))
set_option maxHeartbeats 4000000 in
set_option maxRecDepth 20000 in
theorem t_X6_caughtNow {g : Nat → Option Nat} {S : List SC} (hS : Wf g S) {σ : St} {Q : QT} (a1 : Int32) (h : ok (f_X6_caughtNow a1 σ) (fun r => Q none S r)) : AW MX6_caughtNow E0 rmX6_caughtNow 0 0 Q 0 0 S σ 0 [(0, .ref 29), (1, .int a1)] [] := by
  unfold f_X6_caughtNow at h
  refine aw_run tTX6_caughtNow 1 (pc2 := 1) (L2 := [(0, .ref 29), (1, .int a1)]) (st2 := [.ref 29]) rfl ?_
  refine aw_getR tTX6_caughtNow rfl 4 rfl (w_29 hS) rfl flX6_38 ?_
  refine aw_run tTX6_caughtNow 1 (pc2 := 5) (L2 := [(0, .ref 29), (1, .int a1)]) (st2 := [.int a1, .ref 38]) rfl ?_
  obtain ⟨hi, h⟩ := ok_gi h
  refine aw_iald tTX6_caughtNow rfl 6 rfl (w_38 hS) hi ?_
  refine aw_run tTX6_caughtNow 1 (pc2 := 8) (L2 := [(0, .ref 29), (1, .int a1)]) (st2 := [.int 9, .int (σ 38 a1.toNatClampNeg)]) rfl ?_
  refine ok_use (P := fun j1 : Int32 => AW MX6_caughtNow E0 rmX6_caughtNow 0 0 Q 0 0 S σ 22 [(0, .ref 29), (1, .int a1)] [.int j1]) (ok_b h) (fun j1 h => ?_) (fun h => ?_)
  · refine aw_run tTX6_caughtNow 2 (pc2 := 24) (L2 := [(2, .int j1), (0, .ref 29), (1, .int a1)]) (st2 := [.ref 29]) rfl ?_
    refine aw_getR tTX6_caughtNow rfl 27 rfl (w_29 hS) rfl flX6_44 ?_
    refine aw_run tTX6_caughtNow 1 (pc2 := 28) (L2 := [(2, .int j1), (0, .ref 29), (1, .int a1)]) (st2 := [.int a1, .ref 40]) rfl ?_
    obtain ⟨hi, h⟩ := ok_gi h
    refine aw_iald tTX6_caughtNow rfl 29 rfl (w_40 hS) hi ?_
    refine aw_run tTX6_caughtNow 2 (pc2 := 31) (L2 := [(3, .int (σ 40 a1.toNatClampNeg)), (2, .int j1), (0, .ref 29), (1, .int a1)]) (st2 := [.ref 29]) rfl ?_
    refine aw_getR tTX6_caughtNow rfl 34 rfl (w_29 hS) rfl flX6_38 ?_
    refine aw_run tTX6_caughtNow 2 (pc2 := 36) (L2 := [(3, .int (σ 40 a1.toNatClampNeg)), (2, .int j1), (0, .ref 29), (1, .int a1)]) (st2 := [.int a1, .ref 38, .int a1, .ref 38]) rfl ?_
    obtain ⟨hi, h⟩ := ok_gi h
    refine aw_iald tTX6_caughtNow rfl 37 rfl (w_38 hS) hi ?_
    refine aw_run tTX6_caughtNow 2 (pc2 := 39) (L2 := [(3, .int (σ 40 a1.toNatClampNeg)), (2, .int j1), (0, .ref 29), (1, .int a1)]) (st2 := [.int ((σ 38 a1.toNatClampNeg) - j1), .int a1, .ref 38]) rfl ?_
    obtain ⟨hi, h⟩ := ok_gi h
    refine aw_iast tTX6_caughtNow rfl 40 rfl (w_38 hS) hi ?_
    refine aw_nmS (fun σ2 eσ2 => ?_)
    have h := ok_nm h σ2 eσ2
    refine aw_run tTX6_caughtNow 1 (pc2 := 41) (L2 := [(3, .int (σ 40 a1.toNatClampNeg)), (2, .int j1), (0, .ref 29), (1, .int a1)]) (st2 := [.ref 29]) rfl ?_
    refine aw_getR tTX6_caughtNow rfl 44 rfl (w_29 hS) rfl flX6_35 ?_
    refine aw_run tTX6_caughtNow 2 (pc2 := 46) (L2 := [(3, .int (σ 40 a1.toNatClampNeg)), (2, .int j1), (0, .ref 29), (1, .int a1)]) (st2 := [.ref 29, .int (σ 40 a1.toNatClampNeg), .ref 37]) rfl ?_
    refine aw_getR tTX6_caughtNow rfl 49 rfl (w_29 hS) rfl flX6_35 ?_
    refine aw_run tTX6_caughtNow 1 (pc2 := 50) (L2 := [(3, .int (σ 40 a1.toNatClampNeg)), (2, .int j1), (0, .ref 29), (1, .int a1)]) (st2 := [.int (σ 40 a1.toNatClampNeg), .ref 37, .int (σ 40 a1.toNatClampNeg), .ref 37]) rfl ?_
    obtain ⟨hi, h⟩ := ok_gi h
    refine aw_iald tTX6_caughtNow rfl 51 rfl (w_37 hS) hi ?_
    refine aw_run tTX6_caughtNow 3 (pc2 := 55) (L2 := [(3, .int (σ 40 a1.toNatClampNeg)), (2, .int j1), (0, .ref 29), (1, .int a1)]) (st2 := [.int 99, .int ((σ2 37 (σ 40 a1.toNatClampNeg).toNatClampNeg) + j1), .int (σ 40 a1.toNatClampNeg), .ref 37]) rfl ?_
    refine ok_use (P := fun j3 : Int32 => AW MX6_caughtNow E0 rmX6_caughtNow 0 0 Q 0 0 S σ2 71 [] [.int j3, .int (σ 40 a1.toNatClampNeg), .ref 37]) (ok_b h) (fun j3 h => ?_) (fun h => ?_)
    · obtain ⟨hi, h⟩ := ok_gi h
      refine aw_iast tTX6_caughtNow rfl 72 rfl (w_37 hS) hi ?_
      refine aw_nmS (fun σ4 eσ4 => ?_)
      have h := ok_nm h σ4 eσ4
      have h := ok_r h
      exact aw_vr tTX6_caughtNow rfl rfl (Nat.le_refl _) (Nat.le_refl _) h
    · refine aw_icmp_le tTX6_caughtNow rfl 63 58 rfl rfl (fun hc => ?_) (fun hc => ?_)
      · have h := ok_t hc h
        refine aw_run tTX6_caughtNow 1 (pc2 := 64) (L2 := [(3, .int (σ 40 a1.toNatClampNeg)), (2, .int j1), (0, .ref 29), (1, .int a1)]) (st2 := [.ref 29, .int (σ 40 a1.toNatClampNeg), .ref 37]) rfl ?_
        refine aw_getR tTX6_caughtNow rfl 67 rfl (w_29 hS) rfl flX6_35 ?_
        refine aw_run tTX6_caughtNow 1 (pc2 := 68) (L2 := [(3, .int (σ 40 a1.toNatClampNeg)), (2, .int j1), (0, .ref 29), (1, .int a1)]) (st2 := [.int (σ 40 a1.toNatClampNeg), .ref 37, .int (σ 40 a1.toNatClampNeg), .ref 37]) rfl ?_
        obtain ⟨hi, h⟩ := ok_gi h
        refine aw_iald tTX6_caughtNow rfl 69 rfl (w_37 hS) hi ?_
        refine aw_run tTX6_caughtNow 2 (pc2 := 71) (L2 := [(3, .int (σ 40 a1.toNatClampNeg)), (2, .int j1), (0, .ref 29), (1, .int a1)]) (st2 := [.int ((σ2 37 (σ 40 a1.toNatClampNeg).toNatClampNeg) + j1), .int (σ 40 a1.toNatClampNeg), .ref 37]) rfl ?_
        refine aw_sub [] rfl ?_
        have h := ok_r h
        exact h
      · have h := ok_f hc h
        refine aw_run tTX6_caughtNow 2 (pc2 := 71) (L2 := [(3, .int (σ 40 a1.toNatClampNeg)), (2, .int j1), (0, .ref 29), (1, .int a1)]) (st2 := [.int 99, .int (σ 40 a1.toNatClampNeg), .ref 37]) rfl ?_
        refine aw_sub [] rfl ?_
        have h := ok_r h
        exact h
  · refine aw_icmp_ge tTX6_caughtNow rfl 20 11 rfl rfl (fun hc => ?_) (fun hc => ?_)
    · have h := ok_t hc h
      refine aw_run tTX6_caughtNow 1 (pc2 := 22) (L2 := [(0, .ref 29), (1, .int a1)]) (st2 := [.int 9]) rfl ?_
      refine aw_sub [0, 1] rfl ?_
      have h := ok_r h
      exact h
    · have h := ok_f hc h
      refine aw_run tTX6_caughtNow 1 (pc2 := 12) (L2 := [(0, .ref 29), (1, .int a1)]) (st2 := [.ref 29]) rfl ?_
      refine aw_getR tTX6_caughtNow rfl 15 rfl (w_29 hS) rfl flX6_38 ?_
      refine aw_run tTX6_caughtNow 1 (pc2 := 16) (L2 := [(0, .ref 29), (1, .int a1)]) (st2 := [.int a1, .ref 38]) rfl ?_
      obtain ⟨hi, h⟩ := ok_gi h
      refine aw_iald tTX6_caughtNow rfl 17 rfl (w_38 hS) hi ?_
      refine aw_run tTX6_caughtNow 1 (pc2 := 22) (L2 := [(0, .ref 29), (1, .int a1)]) (st2 := [.int (σ 38 a1.toNatClampNeg)]) rfl ?_
      refine aw_sub [0, 1] rfl ?_
      have h := ok_r h
      exact h
theorem s_X6_caughtNow {g : Nat → Option Nat} {S : List SC} (hS : Wf g S) {σ : St} {a1 : Int32} {r : St} (e : f_X6_caughtNow a1 σ = some r) : Fn MX6_caughtNow rmX6_caughtNow [.ref 29, .int a1] S σ none r := Sp.of (by decide) (Nat.le_of_ble_eq_true rfl) (t_X6_caughtNow hS a1 ⟨r, e, rfl, rfl, rfl⟩)
def l_X6_nobodyOut_7  (y2 : Int32) (σ3 : St) : Option ((Int32 × St) ⊕ (St)) := if 6 ≤ y2 then (some (.inr σ3)) else (gi y2 6 (nm (up2 σ3 40 y2.toNatClampNeg (-6 : Int32)) (fun σ5 => some (.inl (y2 + 1, σ5)))))
def f_X6_nobodyOut  (σ : St) : Option (St) := nm (up2 σ 29 18 0) (fun σ1 => Option.bind (loop (fun s : Int32 × St => l_X6_nobodyOut_7  s.1 s.2) 400 (0, σ1)) (fun (z4 : St) => some (z4)))
set_option maxHeartbeats 4000000 in
set_option maxRecDepth 20000 in
theorem t_X6_nobodyOut {g : Nat → Option Nat} {S : List SC} (hS : Wf g S) {σ : St} {Q : QT}  (h : ok (f_X6_nobodyOut  σ) (fun r => Q none S r)) : AW MX6_nobodyOut E0 rmX6_nobodyOut 0 0 Q 0 0 S σ 0 [(0, .ref 29)] [] := by
  unfold f_X6_nobodyOut at h
  refine aw_run tTX6_nobodyOut 2 (pc2 := 2) (L2 := [(0, .ref 29)]) (st2 := [.int 0, .ref 29]) rfl ?_
  refine aw_putI tTX6_nobodyOut rfl 5 rfl (w_29 hS) rfl fpX6_101 ?_
  refine aw_nmS (fun σ1 eσ1 => ?_)
  have h := ok_nm h σ1 eσ1
  refine aw_run tTX6_nobodyOut 2 (pc2 := 7) (L2 := [(1, .int 0), (0, .ref 29)]) (st2 := []) rfl ?_
  refine ok_use (P := fun z4 : St => AW MX6_nobodyOut E0 rmX6_nobodyOut 0 0 Q 0 0 S z4 27 [] []) (ok_b h) (fun z4 h => ?_) (fun h => ?_)
  · have h := ok_r h
    exact aw_vr tTX6_nobodyOut rfl rfl (Nat.le_refl _) (Nat.le_refl _) h
  · refine aw_sub [1, 0] rfl ?_
    refine loop_P (P := fun s : Int32 × St => AW MX6_nobodyOut E0 rmX6_nobodyOut 0 0 Q 0 0 S s.2 7 [(0, .ref 29), (1, .int s.1)] []) (fun s h => ?_) _ _ h
    obtain ⟨y2, σ3⟩ := s
    replace h : ok (l_X6_nobodyOut_7  y2 σ3) _ := h
    unfold l_X6_nobodyOut_7 at h
    show AW MX6_nobodyOut E0 rmX6_nobodyOut 0 0 Q 0 0 S σ3 7 [(0, .ref 29), (1, .int y2)] []
    refine aw_run tTX6_nobodyOut 2 (pc2 := 10) (L2 := [(0, .ref 29), (1, .int y2)]) (st2 := [.int 6, .int y2]) rfl ?_
    refine aw_icmp_ge tTX6_nobodyOut rfl 27 13 rfl rfl (fun hc => ?_) (fun hc => ?_)
    · have h := ok_t hc h
      refine aw_sub [] rfl ?_
      have h := ok_r h
      exact h
    · have h := ok_f hc h
      refine aw_run tTX6_nobodyOut 1 (pc2 := 14) (L2 := [(0, .ref 29), (1, .int y2)]) (st2 := [.ref 29]) rfl ?_
      refine aw_getR tTX6_nobodyOut rfl 17 rfl (w_29 hS) rfl flX6_44 ?_
      refine aw_run tTX6_nobodyOut 2 (pc2 := 20) (L2 := [(0, .ref 29), (1, .int y2)]) (st2 := [.int (-6 : Int32), .int y2, .ref 40]) rfl ?_
      obtain ⟨hi, h⟩ := ok_gi h
      refine aw_iast tTX6_nobodyOut rfl 21 rfl (w_40 hS) hi ?_
      refine aw_nmS (fun σ5 eσ5 => ?_)
      have h := ok_nm h σ5 eσ5
      refine aw_run tTX6_nobodyOut 2 (pc2 := 7) (L2 := [(1, .int (y2 + 1)), (0, .ref 29)]) (st2 := []) rfl ?_
      refine aw_sub [1, 0] rfl ?_
      have h := ok_r h
      exact h
theorem s_X6_nobodyOut {g : Nat → Option Nat} {S : List SC} (hS : Wf g S) {σ : St}  {r : St} (e : f_X6_nobodyOut  σ = some r) : Fn MX6_nobodyOut rmX6_nobodyOut [.ref 29] S σ none r := Sp.of (by decide) (Nat.le_of_ble_eq_true rfl) (t_X6_nobodyOut hS  ⟨r, e, rfl, rfl, rfl⟩)
def f_X6_act (a1 : Int32) (a2 : Int32) (σ : St) : Option (Int32 × St) := Option.bind (f_X6_isLetter a2) (fun r1 => Option.bind (α := Int32 × St) (if r1 = 0 then (if ¬ a2 = 33 then (Option.bind (f_X6_isThere a1 σ) (fun r3 => Option.bind (α := Int32) (if r3 = 0 then (some 1) else (some 0)) (fun (j4 : Int32) => Option.bind (α := Int32) (if ¬ j4 = 0 then (some 0) else (if ¬ a2 = 42 then (some 0) else (some ((1 : Int32) <<< (a1 &&& 31))))) (fun (j5 : Int32) => nm (up2 σ 29 20 ((σ 29 20) ^^^ j5)) (fun σ6 => Option.bind (α := Int32) (if ¬ j4 = 0 then (some 0) else (if ¬ a2 = 126 then (some 0) else (some ((1 : Int32) <<< (a1 &&& 31))))) (fun (j7 : Int32) => nm (up2 σ6 29 19 ((σ6 29 19) ^^^ j7)) (fun σ8 => some (j4, σ8)))))))) else (Option.bind (f_X6_whyNotCaught a1 σ) (fun r9 => if ¬ r9 = 0 then (some (r9, σ)) else (Option.bind (f_X6_caughtNow a1 σ) (fun r10 => some (r9, r10)))))) else (Option.bind (f_X6_whyNot a1 (a2 - 65) σ) (fun r11 => if ¬ r11 = 0 then (some (r11, σ)) else (Option.bind (f_X6_rob a1 (a2 - 65) σ) (fun r12 => some (r11, r12)))))) (fun (j2 : Int32 × St) => some ((j2.1, j2.2))))
set_option maxHeartbeats 4000000 in
set_option maxRecDepth 20000 in
theorem t_X6_act {g : Nat → Option Nat} {S : List SC} (hS : Wf g S) {σ : St} {Q : QT} (a1 : Int32) (a2 : Int32) (h : ok (f_X6_act a1 a2 σ) (fun r => Q (some (.int r.1)) S r.2)) : AW MX6_act E0 rmX6_act 0 0 Q 0 0 S σ 0 [(0, .ref 29), (1, .int a1), (2, .int a2)] [] := by
  unfold f_X6_act at h
  refine aw_run tTX6_act 1 (pc2 := 1) (L2 := [(0, .ref 29), (1, .int a1), (2, .int a2)]) (st2 := [.int a2]) rfl ?_
  obtain ⟨r1, er1, h⟩ := ok_b h
  refine aw_cS tTX6_act rfl 4 rfl (M' := MX6_isLetter) (av := [.int a2]) (rest := []) rfl lkX6_94 hMX6_isLetter rfl (s_X6_isLetter hS er1) ⟨rfl, rfl, ⟨by decide, by decide⟩, by decide, by decide⟩ (Nat.le_of_ble_eq_true rfl) 46 (wf_len hS) rfl [.int r1] rfl ?_
  refine ok_use (P := fun j2 : Int32 × St => AW MX6_act E0 rmX6_act 0 0 Q 0 0 S j2.2 123 [(3, .int j2.1)] []) (ok_b h) (fun j2 h => ?_) (fun h => ?_)
  · refine aw_run tTX6_act 1 (pc2 := 124) (L2 := [(3, .int j2.1)]) (st2 := [.int j2.1]) rfl ?_
    have h := ok_r h
    exact aw_ir tTX6_act rfl rfl rfl (Nat.le_refl _) (Nat.le_refl _) h
  · refine aw_if_eq tTX6_act rfl 33 7 rfl rfl (fun hc => ?_) (fun hc => ?_)
    · have h := ok_t hc h
      refine aw_run tTX6_act 2 (pc2 := 36) (L2 := [(0, .ref 29), (1, .int a1), (2, .int a2)]) (st2 := [.int 33, .int a2]) rfl ?_
      refine aw_icmp_ne tTX6_act rfl 57 39 rfl rfl (fun hc => ?_) (fun hc => ?_)
      · have h := ok_t hc h
        refine aw_run tTX6_act 2 (pc2 := 59) (L2 := [(0, .ref 29), (1, .int a1), (2, .int a2)]) (st2 := [.int a1, .ref 29]) rfl ?_
        obtain ⟨r3, er3, h⟩ := ok_b h
        refine aw_cV tTX6_act rfl 62 rfl (M' := MX6_isThere) (av := [.int a1]) (rest := []) rfl lkX6_78 hMX6_isThere rfl (w_29 hS) ⟨_, _, rfl⟩ (s_X6_isThere hS er3) ⟨rfl, rfl, ⟨by decide, by decide⟩, by decide, by decide⟩ (Nat.le_of_ble_eq_true rfl) 46 (wf_len hS) rfl [.int r3] rfl ?_
        refine ok_use (P := fun j4 : Int32 => AW MX6_act E0 rmX6_act 0 0 Q 0 0 S σ 70 [(0, .ref 29), (1, .int a1), (2, .int a2)] [.int j4]) (ok_b h) (fun j4 h => ?_) (fun h => ?_)
        · refine aw_run tTX6_act 3 (pc2 := 73) (L2 := [(3, .int j4), (0, .ref 29), (1, .int a1), (2, .int a2)]) (st2 := [.ref 29, .ref 29]) rfl ?_
          refine aw_getI tTX6_act rfl 76 rfl (w_29 hS) rfl flX6_107 ?_
          refine aw_run tTX6_act 1 (pc2 := 77) (L2 := [(3, .int j4), (0, .ref 29), (1, .int a1), (2, .int a2)]) (st2 := [.int j4, .int (σ 29 20), .ref 29]) rfl ?_
          refine ok_use (P := fun j5 : Int32 => AW MX6_act E0 rmX6_act 0 0 Q 0 0 S σ 93 [(0, .ref 29), (1, .int a1), (2, .int a2), (3, .int j4)] [.int j5, .int (σ 29 20), .ref 29]) (ok_b h) (fun j5 h => ?_) (fun h => ?_)
          · refine aw_run tTX6_act 1 (pc2 := 94) (L2 := [(0, .ref 29), (1, .int a1), (2, .int a2), (3, .int j4)]) (st2 := [.int ((σ 29 20) ^^^ j5), .ref 29]) rfl ?_
            refine aw_putI tTX6_act rfl 97 rfl (w_29 hS) rfl fpX6_107 ?_
            refine aw_nmS (fun σ6 eσ6 => ?_)
            have h := ok_nm h σ6 eσ6
            refine aw_run tTX6_act 2 (pc2 := 99) (L2 := [(0, .ref 29), (1, .int a1), (2, .int a2), (3, .int j4)]) (st2 := [.ref 29, .ref 29]) rfl ?_
            refine aw_getI tTX6_act rfl 102 rfl (w_29 hS) rfl flX6_104 ?_
            refine aw_run tTX6_act 1 (pc2 := 103) (L2 := [(0, .ref 29), (1, .int a1), (2, .int a2), (3, .int j4)]) (st2 := [.int j4, .int (σ6 29 19), .ref 29]) rfl ?_
            refine ok_use (P := fun j7 : Int32 => AW MX6_act E0 rmX6_act 0 0 Q 0 0 S σ6 119 [(3, .int j4)] [.int j7, .int (σ6 29 19), .ref 29]) (ok_b h) (fun j7 h => ?_) (fun h => ?_)
            · refine aw_run tTX6_act 1 (pc2 := 120) (L2 := [(3, .int j4)]) (st2 := [.int ((σ6 29 19) ^^^ j7), .ref 29]) rfl ?_
              refine aw_putI tTX6_act rfl 123 rfl (w_29 hS) rfl fpX6_104 ?_
              refine aw_nmS (fun σ8 eσ8 => ?_)
              have h := ok_nm h σ8 eσ8
              refine aw_sub [0] rfl ?_
              have h := ok_r h
              exact h
            · refine aw_if_ne tTX6_act rfl 118 106 rfl rfl (fun hc => ?_) (fun hc => ?_)
              · have h := ok_t hc h
                refine aw_run tTX6_act 1 (pc2 := 119) (L2 := [(0, .ref 29), (1, .int a1), (2, .int a2), (3, .int j4)]) (st2 := [.int 0, .int (σ6 29 19), .ref 29]) rfl ?_
                refine aw_sub [3] rfl ?_
                have h := ok_r h
                exact h
              · have h := ok_fn hc h
                refine aw_run tTX6_act 2 (pc2 := 109) (L2 := [(0, .ref 29), (1, .int a1), (2, .int a2), (3, .int j4)]) (st2 := [.int 126, .int a2, .int (σ6 29 19), .ref 29]) rfl ?_
                refine aw_icmp_ne tTX6_act rfl 118 112 rfl rfl (fun hc => ?_) (fun hc => ?_)
                · have h := ok_t hc h
                  refine aw_run tTX6_act 1 (pc2 := 119) (L2 := [(0, .ref 29), (1, .int a1), (2, .int a2), (3, .int j4)]) (st2 := [.int 0, .int (σ6 29 19), .ref 29]) rfl ?_
                  refine aw_sub [3] rfl ?_
                  have h := ok_r h
                  exact h
                · have h := ok_fn hc h
                  refine aw_run tTX6_act 4 (pc2 := 119) (L2 := [(0, .ref 29), (1, .int a1), (2, .int a2), (3, .int j4)]) (st2 := [.int ((1 : Int32) <<< (a1 &&& 31)), .int (σ6 29 19), .ref 29]) rfl ?_
                  refine aw_sub [3] rfl ?_
                  have h := ok_r h
                  exact h
          · refine aw_if_ne tTX6_act rfl 92 80 rfl rfl (fun hc => ?_) (fun hc => ?_)
            · have h := ok_t hc h
              refine aw_run tTX6_act 1 (pc2 := 93) (L2 := [(3, .int j4), (0, .ref 29), (1, .int a1), (2, .int a2)]) (st2 := [.int 0, .int (σ 29 20), .ref 29]) rfl ?_
              refine aw_sub [1, 2, 3, 0] rfl ?_
              have h := ok_r h
              exact h
            · have h := ok_fn hc h
              refine aw_run tTX6_act 2 (pc2 := 83) (L2 := [(3, .int j4), (0, .ref 29), (1, .int a1), (2, .int a2)]) (st2 := [.int 42, .int a2, .int (σ 29 20), .ref 29]) rfl ?_
              refine aw_icmp_ne tTX6_act rfl 92 86 rfl rfl (fun hc => ?_) (fun hc => ?_)
              · have h := ok_t hc h
                refine aw_run tTX6_act 1 (pc2 := 93) (L2 := [(3, .int j4), (0, .ref 29), (1, .int a1), (2, .int a2)]) (st2 := [.int 0, .int (σ 29 20), .ref 29]) rfl ?_
                refine aw_sub [1, 2, 3, 0] rfl ?_
                have h := ok_r h
                exact h
              · have h := ok_fn hc h
                refine aw_run tTX6_act 4 (pc2 := 93) (L2 := [(3, .int j4), (0, .ref 29), (1, .int a1), (2, .int a2)]) (st2 := [.int ((1 : Int32) <<< (a1 &&& 31)), .int (σ 29 20), .ref 29]) rfl ?_
                refine aw_sub [1, 2, 3, 0] rfl ?_
                have h := ok_r h
                exact h
        · refine aw_if_eq tTX6_act rfl 69 65 rfl rfl (fun hc => ?_) (fun hc => ?_)
          · have h := ok_t hc h
            refine aw_run tTX6_act 1 (pc2 := 70) (L2 := [(0, .ref 29), (1, .int a1), (2, .int a2)]) (st2 := [.int 1]) rfl ?_
            refine aw_sub [0, 1, 2] rfl ?_
            have h := ok_r h
            exact h
          · have h := ok_f hc h
            refine aw_run tTX6_act 2 (pc2 := 70) (L2 := [(0, .ref 29), (1, .int a1), (2, .int a2)]) (st2 := [.int 0]) rfl ?_
            refine aw_sub [0, 1, 2] rfl ?_
            have h := ok_r h
            exact h
      · have h := ok_fn hc h
        refine aw_run tTX6_act 2 (pc2 := 41) (L2 := [(0, .ref 29), (1, .int a1), (2, .int a2)]) (st2 := [.int a1, .ref 29]) rfl ?_
        obtain ⟨r9, er9, h⟩ := ok_b h
        refine aw_cV tTX6_act rfl 44 rfl (M' := MX6_whyNotCaught) (av := [.int a1]) (rest := []) rfl lkX6_127 hMX6_whyNotCaught rfl (w_29 hS) ⟨_, _, rfl⟩ (s_X6_whyNotCaught hS er9) ⟨rfl, rfl, ⟨by decide, by decide⟩, by decide, by decide⟩ (Nat.le_of_ble_eq_true rfl) 46 (wf_len hS) rfl [.int r9] rfl ?_
        refine aw_run tTX6_act 2 (pc2 := 46) (L2 := [(3, .int r9), (0, .ref 29), (1, .int a1), (2, .int a2)]) (st2 := [.int r9]) rfl ?_
        refine aw_if_ne tTX6_act rfl 123 49 rfl rfl (fun hc => ?_) (fun hc => ?_)
        · have h := ok_t hc h
          refine aw_sub [0] rfl ?_
          have h := ok_r h
          exact h
        · have h := ok_fn hc h
          refine aw_run tTX6_act 2 (pc2 := 51) (L2 := [(3, .int r9), (0, .ref 29), (1, .int a1), (2, .int a2)]) (st2 := [.int a1, .ref 29]) rfl ?_
          obtain ⟨r10, er10, h⟩ := ok_b h
          refine aw_cV tTX6_act rfl 54 rfl (M' := MX6_caughtNow) (av := [.int a1]) (rest := []) rfl lkX6_130 hMX6_caughtNow rfl (w_29 hS) ⟨_, _, rfl⟩ (s_X6_caughtNow hS er10) ⟨rfl, rfl, ⟨by decide, by decide⟩, by decide, by decide⟩ (Nat.le_of_ble_eq_true rfl) 46 (wf_len hS) rfl [] rfl ?_
          refine aw_run tTX6_act 1 (pc2 := 123) (L2 := [(3, .int r9), (0, .ref 29), (1, .int a1), (2, .int a2)]) (st2 := []) rfl ?_
          refine aw_sub [0] rfl ?_
          have h := ok_r h
          exact h
    · have h := ok_f hc h
      refine aw_run tTX6_act 5 (pc2 := 13) (L2 := [(0, .ref 29), (1, .int a1), (2, .int a2)]) (st2 := [.int (a2 - 65), .int a1, .ref 29]) rfl ?_
      obtain ⟨r11, er11, h⟩ := ok_b h
      refine aw_cV tTX6_act rfl 16 rfl (M' := MX6_whyNot) (av := [.int a1, .int (a2 - 65)]) (rest := []) rfl lkX6_120 hMX6_whyNot rfl (w_29 hS) ⟨_, _, rfl⟩ (s_X6_whyNot hS er11) ⟨rfl, rfl, ⟨by decide, by decide⟩, by decide, by decide⟩ (Nat.le_of_ble_eq_true rfl) 46 (wf_len hS) rfl [.int r11] rfl ?_
      refine aw_run tTX6_act 2 (pc2 := 18) (L2 := [(3, .int r11), (0, .ref 29), (1, .int a1), (2, .int a2)]) (st2 := [.int r11]) rfl ?_
      refine aw_if_ne tTX6_act rfl 123 21 rfl rfl (fun hc => ?_) (fun hc => ?_)
      · have h := ok_t hc h
        refine aw_sub [0] rfl ?_
        have h := ok_r h
        exact h
      · have h := ok_fn hc h
        refine aw_run tTX6_act 5 (pc2 := 27) (L2 := [(3, .int r11), (0, .ref 29), (1, .int a1), (2, .int a2)]) (st2 := [.int (a2 - 65), .int a1, .ref 29]) rfl ?_
        obtain ⟨r12, er12, h⟩ := ok_b h
        refine aw_cV tTX6_act rfl 30 rfl (M' := MX6_rob) (av := [.int a1, .int (a2 - 65)]) (rest := []) rfl lkX6_123 hMX6_rob rfl (w_29 hS) ⟨_, _, rfl⟩ (s_X6_rob hS er12) ⟨rfl, rfl, ⟨by decide, by decide⟩, by decide, by decide⟩ (Nat.le_of_ble_eq_true rfl) 46 (wf_len hS) rfl [] rfl ?_
        refine aw_run tTX6_act 1 (pc2 := 123) (L2 := [(3, .int r11), (0, .ref 29), (1, .int a1), (2, .int a2)]) (st2 := []) rfl ?_
        refine aw_sub [0] rfl ?_
        have h := ok_r h
        exact h
theorem s_X6_act {g : Nat → Option Nat} {S : List SC} (hS : Wf g S) {σ : St} {a1 : Int32} {a2 : Int32} {r : Int32 × St} (e : f_X6_act a1 a2 σ = some r) : Fn MX6_act rmX6_act [.ref 29, .int a1, .int a2] S σ (some (.int r.1)) r.2 := Sp.of (by decide) (Nat.le_of_ble_eq_true rfl) (t_X6_act hS a1 a2 ⟨r, e, rfl, rfl, rfl⟩)
def f_X6_endNight  (σ : St) : Option (Int32 × St) := if ¬ (σ 29 21) = 0 then (nm (up2 σ 29 21 ((σ 29 21) - 1)) (fun σ1 => Option.bind (f_X6_nobodyOut  σ1) (fun r2 => some ((0, r2))))) else (some ((7, σ)))
set_option maxHeartbeats 4000000 in
set_option maxRecDepth 20000 in
theorem t_X6_endNight {g : Nat → Option Nat} {S : List SC} (hS : Wf g S) {σ : St} {Q : QT}  (h : ok (f_X6_endNight  σ) (fun r => Q (some (.int r.1)) S r.2)) : AW MX6_endNight E0 rmX6_endNight 0 0 Q 0 0 S σ 0 [(0, .ref 29)] [] := by
  unfold f_X6_endNight at h
  refine aw_run tTX6_endNight 1 (pc2 := 1) (L2 := [(0, .ref 29)]) (st2 := [.ref 29]) rfl ?_
  refine aw_getI tTX6_endNight rfl 4 rfl (w_29 hS) rfl flX6_110 ?_
  refine aw_if_ne tTX6_endNight rfl 10 7 rfl rfl (fun hc => ?_) (fun hc => ?_)
  · have h := ok_t hc h
    refine aw_run tTX6_endNight 2 (pc2 := 12) (L2 := [(0, .ref 29)]) (st2 := [.ref 29, .ref 29]) rfl ?_
    refine aw_getI tTX6_endNight rfl 15 rfl (w_29 hS) rfl flX6_110 ?_
    refine aw_run tTX6_endNight 2 (pc2 := 17) (L2 := [(0, .ref 29)]) (st2 := [.int ((σ 29 21) - 1), .ref 29]) rfl ?_
    refine aw_putI tTX6_endNight rfl 20 rfl (w_29 hS) rfl fpX6_110 ?_
    refine aw_nmS (fun σ1 eσ1 => ?_)
    have h := ok_nm h σ1 eσ1
    refine aw_run tTX6_endNight 1 (pc2 := 21) (L2 := [(0, .ref 29)]) (st2 := [.ref 29]) rfl ?_
    obtain ⟨r2, er2, h⟩ := ok_b h
    refine aw_cV tTX6_endNight rfl 24 rfl (M' := MX6_nobodyOut) (av := []) (rest := []) rfl lkX6_134 hMX6_nobodyOut rfl (w_29 hS) ⟨_, _, rfl⟩ (s_X6_nobodyOut hS er2) ⟨rfl, rfl, ⟨by decide, by decide⟩, by decide, by decide⟩ (Nat.le_of_ble_eq_true rfl) 46 (wf_len hS) rfl [] rfl ?_
    refine aw_run tTX6_endNight 1 (pc2 := 25) (L2 := [(0, .ref 29)]) (st2 := [.int 0]) rfl ?_
    have h := ok_r h
    exact aw_ir tTX6_endNight rfl rfl rfl (Nat.le_refl _) (Nat.le_refl _) h
  · have h := ok_fn hc h
    refine aw_run tTX6_endNight 1 (pc2 := 9) (L2 := [(0, .ref 29)]) (st2 := [.int 7]) rfl ?_
    have h := ok_r h
    exact aw_ir tTX6_endNight rfl rfl rfl (Nat.le_refl _) (Nat.le_refl _) h
theorem s_X6_endNight {g : Nat → Option Nat} {S : List SC} (hS : Wf g S) {σ : St}  {r : Int32 × St} (e : f_X6_endNight  σ = some r) : Fn MX6_endNight rmX6_endNight [.ref 29] S σ (some (.int r.1)) r.2 := Sp.of (by decide) (Nat.le_of_ble_eq_true rfl) (t_X6_endNight hS  ⟨r, e, rfl, rfl, rfl⟩)
def l_X6_goNights_63  (y12 : Int32) (σ13 : St) : Option ((Int32 × St) ⊕ (St)) := if 6 ≤ y12 then (some (.inr σ13)) else (gi y12 6 (nm (up2 σ13 39 y12.toNatClampNeg 0) (fun σ15 => some (.inl (y12 + 1, σ15)))))
def l_X6_goNights_11  (y3 : Int32) (σ4 : St) : Option ((Int32 × St) ⊕ ((St) ⊕ (Int32 × St))) := if (σ4 29 12) ≤ y3 then (some (.inr (.inl σ4))) else (gi y3 60 (Option.bind (α := Int32 × St) (if ¬ (σ4 36 y3.toNatClampNeg) = 46 then (if ¬ (σ4 36 y3.toNatClampNeg) = 36 then (gi (y3 + 1) 60 (Option.bind (f_X6_act ((σ4 36 y3.toNatClampNeg) - 65) (σ4 36 (y3 + 1).toNatClampNeg) σ4) (fun r8 => nm (up2 r8.2 29 22 r8.1) (fun σ9 => some (y3 + 2, σ9))))) else (nm (up2 σ4 29 22 0) (fun σ10 => Option.bind (f_X6_nobodyOut  σ10) (fun r11 => Option.bind (loop (fun s : Int32 × St => l_X6_goNights_63  s.1 s.2) 400 (0, r11)) (fun (z14 : St) => some (y3 + 1, z14)))))) else (Option.bind (f_X6_endNight  σ4) (fun r16 => nm (up2 r16.2 29 22 r16.1) (fun σ17 => some (y3 + 1, σ17))))) (fun (j6 : Int32 × St) => if (j6.2 29 22) ≤ 0 then (nm (up2 j6.2 29 23 ((j6.2 29 23) + 1)) (fun σ7 => some (.inl (j6.1, σ7)))) else (some (.inr (.inr ((j6.2 29 23, j6.2))))))))
def f_X6_goNights  (σ : St) : Option (Int32 × St) := Option.bind (f_X6_asNow  σ) (fun r1 => nm (up2 r1 29 23 0) (fun σ2 => Option.bind (loop (fun s : Int32 × St => l_X6_goNights_11  s.1 s.2) 400 (0, σ2)) (fun z18 => match z18 with
    | .inl z5 => some (((-6 : Int32), z5))
    | .inr z18 => some (z18))))
set_option maxHeartbeats 4000000 in
set_option maxRecDepth 20000 in
theorem t_X6_goNights {g : Nat → Option Nat} {S : List SC} (hS : Wf g S) {σ : St} {Q : QT}  (h : ok (f_X6_goNights  σ) (fun r => Q (some (.int r.1)) S r.2)) : AW MX6_goNights E0 rmX6_goNights 0 0 Q 0 0 S σ 0 [(0, .ref 29)] [] := by
  unfold f_X6_goNights at h
  refine aw_run tTX6_goNights 1 (pc2 := 1) (L2 := [(0, .ref 29)]) (st2 := [.ref 29]) rfl ?_
  obtain ⟨r1, er1, h⟩ := ok_b h
  refine aw_cV tTX6_goNights rfl 4 rfl (M' := MX6_asNow) (av := []) (rest := []) rfl lkX6_137 hMX6_asNow rfl (w_29 hS) ⟨_, _, rfl⟩ (s_X6_asNow hS er1) ⟨rfl, rfl, ⟨by decide, by decide⟩, by decide, by decide⟩ (Nat.le_of_ble_eq_true rfl) 46 (wf_len hS) rfl [] rfl ?_
  refine aw_run tTX6_goNights 2 (pc2 := 6) (L2 := [(0, .ref 29)]) (st2 := [.int 0, .ref 29]) rfl ?_
  refine aw_putI tTX6_goNights rfl 9 rfl (w_29 hS) rfl fpX6_140 ?_
  refine aw_nmS (fun σ2 eσ2 => ?_)
  have h := ok_nm h σ2 eσ2
  refine aw_run tTX6_goNights 2 (pc2 := 11) (L2 := [(1, .int 0), (0, .ref 29)]) (st2 := []) rfl ?_
  refine ok_use (P := fun z18 : (St) ⊕ (Int32 × St) => match z18 with
    | .inl z5 => AW MX6_goNights E0 rmX6_goNights 0 0 Q 0 0 S z5 136 [] []
    | .inr z18 => Q (some (.int z18.1)) S z18.2) (ok_b h) (fun z18 h => ?_) (fun h => ?_)
  · cases z18 with
    | inl z5 =>
      refine aw_run tTX6_goNights 1 (pc2 := 138) (L2 := []) (st2 := [.int (-6 : Int32)]) rfl ?_
      have h := ok_r h
      exact aw_ir tTX6_goNights rfl rfl rfl (Nat.le_refl _) (Nat.le_refl _) h
    | inr z18 =>
      have h := ok_r h
      exact h
  · refine aw_sub [1, 0] rfl ?_
    refine loop_P (P := fun s : Int32 × St => AW MX6_goNights E0 rmX6_goNights 0 0 Q 0 0 S s.2 11 [(0, .ref 29), (1, .int s.1)] []) (fun s h => ?_) _ _ h
    obtain ⟨y3, σ4⟩ := s
    replace h : ok (l_X6_goNights_11  y3 σ4) _ := h
    unfold l_X6_goNights_11 at h
    show AW MX6_goNights E0 rmX6_goNights 0 0 Q 0 0 S σ4 11 [(0, .ref 29), (1, .int y3)] []
    refine aw_run tTX6_goNights 2 (pc2 := 13) (L2 := [(0, .ref 29), (1, .int y3)]) (st2 := [.ref 29, .int y3]) rfl ?_
    refine aw_getI tTX6_goNights rfl 16 rfl (w_29 hS) rfl flX6_91 ?_
    refine aw_icmp_ge tTX6_goNights rfl 136 19 rfl rfl (fun hc => ?_) (fun hc => ?_)
    · have h := ok_t hc h
      refine aw_sub [] rfl ?_
      have h := ok_r h
      exact h
    · have h := ok_f hc h
      refine aw_run tTX6_goNights 1 (pc2 := 20) (L2 := [(0, .ref 29), (1, .int y3)]) (st2 := [.ref 29]) rfl ?_
      refine aw_getR tTX6_goNights rfl 23 rfl (w_29 hS) rfl flX6_32 ?_
      refine aw_run tTX6_goNights 1 (pc2 := 24) (L2 := [(0, .ref 29), (1, .int y3)]) (st2 := [.int y3, .ref 36]) rfl ?_
      obtain ⟨hi, h⟩ := ok_gi h
      refine aw_iald tTX6_goNights rfl 25 rfl (w_36 hS) hi ?_
      refine aw_run tTX6_goNights 3 (pc2 := 29) (L2 := [(2, .int (σ4 36 y3.toNatClampNeg)), (0, .ref 29), (1, .int y3)]) (st2 := [.int 46, .int (σ4 36 y3.toNatClampNeg)]) rfl ?_
      refine ok_use (P := fun j6 : Int32 × St => AW MX6_goNights E0 rmX6_goNights 0 0 Q 0 0 S j6.2 111 [(0, .ref 29), (1, .int j6.1)] []) (ok_b h) (fun j6 h => ?_) (fun h => ?_)
      · refine aw_run tTX6_goNights 1 (pc2 := 112) (L2 := [(0, .ref 29), (1, .int j6.1)]) (st2 := [.ref 29]) rfl ?_
        refine aw_getI tTX6_goNights rfl 115 rfl (w_29 hS) rfl flX6_146 ?_
        refine aw_if_le tTX6_goNights rfl 123 118 rfl rfl (fun hc => ?_) (fun hc => ?_)
        · have h := ok_t hc h
          refine aw_run tTX6_goNights 2 (pc2 := 125) (L2 := [(0, .ref 29), (1, .int j6.1)]) (st2 := [.ref 29, .ref 29]) rfl ?_
          refine aw_getI tTX6_goNights rfl 128 rfl (w_29 hS) rfl flX6_140 ?_
          refine aw_run tTX6_goNights 2 (pc2 := 130) (L2 := [(0, .ref 29), (1, .int j6.1)]) (st2 := [.int ((j6.2 29 23) + 1), .ref 29]) rfl ?_
          refine aw_putI tTX6_goNights rfl 133 rfl (w_29 hS) rfl fpX6_140 ?_
          refine aw_nmS (fun σ7 eσ7 => ?_)
          have h := ok_nm h σ7 eσ7
          refine aw_run tTX6_goNights 1 (pc2 := 11) (L2 := [(0, .ref 29), (1, .int j6.1)]) (st2 := []) rfl ?_
          refine aw_sub [0, 1] rfl ?_
          have h := ok_r h
          exact h
        · have h := ok_f hc h
          refine aw_run tTX6_goNights 1 (pc2 := 119) (L2 := [(0, .ref 29), (1, .int j6.1)]) (st2 := [.ref 29]) rfl ?_
          refine aw_getI tTX6_goNights rfl 122 rfl (w_29 hS) rfl flX6_140 ?_
          have h := ok_r h
          exact aw_ir tTX6_goNights rfl rfl rfl (Nat.le_refl _) (Nat.le_refl _) h
      · refine aw_icmp_ne tTX6_goNights rfl 46 32 rfl rfl (fun hc => ?_) (fun hc => ?_)
        · have h := ok_t hc h
          refine aw_run tTX6_goNights 2 (pc2 := 49) (L2 := [(2, .int (σ4 36 y3.toNatClampNeg)), (0, .ref 29), (1, .int y3)]) (st2 := [.int 36, .int (σ4 36 y3.toNatClampNeg)]) rfl ?_
          refine aw_icmp_ne tTX6_goNights rfl 88 52 rfl rfl (fun hc => ?_) (fun hc => ?_)
          · have h := ok_t hc h
            refine aw_run tTX6_goNights 6 (pc2 := 95) (L2 := [(2, .int (σ4 36 y3.toNatClampNeg)), (0, .ref 29), (1, .int y3)]) (st2 := [.ref 29, .int ((σ4 36 y3.toNatClampNeg) - 65), .ref 29, .ref 29]) rfl ?_
            refine aw_getR tTX6_goNights rfl 98 rfl (w_29 hS) rfl flX6_32 ?_
            refine aw_run tTX6_goNights 3 (pc2 := 101) (L2 := [(2, .int (σ4 36 y3.toNatClampNeg)), (0, .ref 29), (1, .int y3)]) (st2 := [.int (y3 + 1), .ref 36, .int ((σ4 36 y3.toNatClampNeg) - 65), .ref 29, .ref 29]) rfl ?_
            obtain ⟨hi, h⟩ := ok_gi h
            refine aw_iald tTX6_goNights rfl 102 rfl (w_36 hS) hi ?_
            obtain ⟨r8, er8, h⟩ := ok_b h
            refine aw_cV tTX6_goNights rfl 105 rfl (M' := MX6_act) (av := [.int ((σ4 36 y3.toNatClampNeg) - 65), .int (σ4 36 (y3 + 1).toNatClampNeg)]) (rest := [.ref 29]) rfl lkX6_149 hMX6_act rfl (w_29 hS) ⟨_, _, rfl⟩ (s_X6_act hS er8) ⟨rfl, rfl, ⟨by decide, by decide⟩, by decide, by decide⟩ (Nat.le_of_ble_eq_true rfl) 46 (wf_len hS) rfl [.int r8.1, .ref 29] rfl ?_
            refine aw_putI tTX6_goNights rfl 108 rfl (w_29 hS) rfl fpX6_146 ?_
            refine aw_nmS (fun σ9 eσ9 => ?_)
            have h := ok_nm h σ9 eσ9
            refine aw_run tTX6_goNights 1 (pc2 := 111) (L2 := [(1, .int (y3 + 2)), (2, .int (σ4 36 y3.toNatClampNeg)), (0, .ref 29)]) (st2 := []) rfl ?_
            refine aw_sub [2, 0] rfl ?_
            have h := ok_r h
            exact h
          · have h := ok_fn hc h
            refine aw_run tTX6_goNights 2 (pc2 := 54) (L2 := [(2, .int (σ4 36 y3.toNatClampNeg)), (0, .ref 29), (1, .int y3)]) (st2 := [.int 0, .ref 29]) rfl ?_
            refine aw_putI tTX6_goNights rfl 57 rfl (w_29 hS) rfl fpX6_146 ?_
            refine aw_nmS (fun σ10 eσ10 => ?_)
            have h := ok_nm h σ10 eσ10
            refine aw_run tTX6_goNights 1 (pc2 := 58) (L2 := [(2, .int (σ4 36 y3.toNatClampNeg)), (0, .ref 29), (1, .int y3)]) (st2 := [.ref 29]) rfl ?_
            obtain ⟨r11, er11, h⟩ := ok_b h
            refine aw_cV tTX6_goNights rfl 61 rfl (M' := MX6_nobodyOut) (av := []) (rest := []) rfl lkX6_134 hMX6_nobodyOut rfl (w_29 hS) ⟨_, _, rfl⟩ (s_X6_nobodyOut hS er11) ⟨rfl, rfl, ⟨by decide, by decide⟩, by decide, by decide⟩ (Nat.le_of_ble_eq_true rfl) 46 (wf_len hS) rfl [] rfl ?_
            refine aw_run tTX6_goNights 2 (pc2 := 63) (L2 := [(3, .int 0), (2, .int (σ4 36 y3.toNatClampNeg)), (0, .ref 29), (1, .int y3)]) (st2 := []) rfl ?_
            refine ok_use (P := fun z14 : St => AW MX6_goNights E0 rmX6_goNights 0 0 Q 0 0 S z14 82 [(0, .ref 29), (1, .int y3)] []) (ok_b h) (fun z14 h => ?_) (fun h => ?_)
            · refine aw_run tTX6_goNights 2 (pc2 := 111) (L2 := [(1, .int (y3 + 1)), (0, .ref 29)]) (st2 := []) rfl ?_
              refine aw_sub [1, 0] rfl ?_
              have h := ok_r h
              exact h
            · refine aw_sub [2, 3, 0] rfl ?_
              refine loop_P (P := fun s : Int32 × St => AW MX6_goNights E0 rmX6_goNights 0 0 Q 0 0 S s.2 63 [(0, .ref 29), (1, .int y3), (3, .int s.1)] []) (fun s h => ?_) _ _ h
              obtain ⟨y12, σ13⟩ := s
              replace h : ok (l_X6_goNights_63  y12 σ13) _ := h
              unfold l_X6_goNights_63 at h
              show AW MX6_goNights E0 rmX6_goNights 0 0 Q 0 0 S σ13 63 [(0, .ref 29), (1, .int y3), (3, .int y12)] []
              refine aw_run tTX6_goNights 2 (pc2 := 66) (L2 := [(0, .ref 29), (1, .int y3), (3, .int y12)]) (st2 := [.int 6, .int y12]) rfl ?_
              refine aw_icmp_ge tTX6_goNights rfl 82 69 rfl rfl (fun hc => ?_) (fun hc => ?_)
              · have h := ok_t hc h
                refine aw_sub [0, 1] rfl ?_
                have h := ok_r h
                exact h
              · have h := ok_f hc h
                refine aw_run tTX6_goNights 1 (pc2 := 70) (L2 := [(0, .ref 29), (1, .int y3), (3, .int y12)]) (st2 := [.ref 29]) rfl ?_
                refine aw_getR tTX6_goNights rfl 73 rfl (w_29 hS) rfl flX6_41 ?_
                refine aw_run tTX6_goNights 2 (pc2 := 75) (L2 := [(0, .ref 29), (1, .int y3), (3, .int y12)]) (st2 := [.int 0, .int y12, .ref 39]) rfl ?_
                obtain ⟨hi, h⟩ := ok_gi h
                refine aw_iast tTX6_goNights rfl 76 rfl (w_39 hS) hi ?_
                refine aw_nmS (fun σ15 eσ15 => ?_)
                have h := ok_nm h σ15 eσ15
                refine aw_run tTX6_goNights 2 (pc2 := 63) (L2 := [(3, .int (y12 + 1)), (0, .ref 29), (1, .int y3)]) (st2 := []) rfl ?_
                refine aw_sub [1, 2, 0] rfl ?_
                have h := ok_r h
                exact h
        · have h := ok_fn hc h
          refine aw_run tTX6_goNights 2 (pc2 := 34) (L2 := [(2, .int (σ4 36 y3.toNatClampNeg)), (0, .ref 29), (1, .int y3)]) (st2 := [.ref 29, .ref 29]) rfl ?_
          obtain ⟨r16, er16, h⟩ := ok_b h
          refine aw_cV tTX6_goNights rfl 37 rfl (M' := MX6_endNight) (av := []) (rest := [.ref 29]) rfl lkX6_143 hMX6_endNight rfl (w_29 hS) ⟨_, _, rfl⟩ (s_X6_endNight hS er16) ⟨rfl, rfl, ⟨by decide, by decide⟩, by decide, by decide⟩ (Nat.le_of_ble_eq_true rfl) 46 (wf_len hS) rfl [.int r16.1, .ref 29] rfl ?_
          refine aw_putI tTX6_goNights rfl 40 rfl (w_29 hS) rfl fpX6_146 ?_
          refine aw_nmS (fun σ17 eσ17 => ?_)
          have h := ok_nm h σ17 eσ17
          refine aw_run tTX6_goNights 2 (pc2 := 111) (L2 := [(1, .int (y3 + 1)), (2, .int (σ4 36 y3.toNatClampNeg)), (0, .ref 29)]) (st2 := []) rfl ?_
          refine aw_sub [2, 0] rfl ?_
          have h := ok_r h
          exact h
theorem s_X6_goNights {g : Nat → Option Nat} {S : List SC} (hS : Wf g S) {σ : St}  {r : Int32 × St} (e : f_X6_goNights  σ = some r) : Fn MX6_goNights rmX6_goNights [.ref 29] S σ (some (.int r.1)) r.2 := Sp.of (by decide) (Nat.le_of_ble_eq_true rfl) (t_X6_goNights hS  ⟨r, e, rfl, rfl, rfl⟩)
def f_X6_judge (a1 : Int32) (σ : St) : Option (Int32 × St) := Option.bind (f_X6_in a1 0 1) (fun r1 => if ¬ r1 = 0 then (Option.bind (f_X6_faultOf  σ) (fun r2 => if r2 < 0 then (Option.bind (f_X6_goNights  σ) (fun r3 => if r3.1 < 0 then (some ((r3.1, r3.2))) else (if ¬ a1 = 0 then (some ((r3.2 29 22, r3.2))) else (some ((r3.1, r3.2)))))) else (some (((-5 : Int32), σ))))) else (some (((-2 : Int32), σ))))
set_option maxHeartbeats 4000000 in
set_option maxRecDepth 20000 in
theorem t_X6_judge {g : Nat → Option Nat} {S : List SC} (hS : Wf g S) {σ : St} {Q : QT} (a1 : Int32) (h : ok (f_X6_judge a1 σ) (fun r => Q (some (.int r.1)) S r.2)) : AW MX6_judge E0 rmX6_judge 0 0 Q 0 0 S σ 0 [(0, .ref 29), (1, .int a1)] [] := by
  unfold f_X6_judge at h
  refine aw_run tTX6_judge 3 (pc2 := 3) (L2 := [(0, .ref 29), (1, .int a1)]) (st2 := [.int 1, .int 0, .int a1]) rfl ?_
  obtain ⟨r1, er1, h⟩ := ok_b h
  refine aw_cS tTX6_judge rfl 6 rfl (M' := MX6_in) (av := [.int a1, .int 0, .int 1]) (rest := []) rfl lkX6_66 hMX6_in rfl (s_X6_in hS er1) ⟨rfl, rfl, ⟨by decide, by decide⟩, by decide, by decide⟩ (Nat.le_of_ble_eq_true rfl) 46 (wf_len hS) rfl [.int r1] rfl ?_
  refine aw_if_ne tTX6_judge rfl 12 9 rfl rfl (fun hc => ?_) (fun hc => ?_)
  · have h := ok_t hc h
    refine aw_run tTX6_judge 1 (pc2 := 13) (L2 := [(0, .ref 29), (1, .int a1)]) (st2 := [.ref 29]) rfl ?_
    obtain ⟨r2, er2, h⟩ := ok_b h
    refine aw_cV tTX6_judge rfl 16 rfl (M' := MX6_faultOf) (av := []) (rest := []) rfl lkX6_97 hMX6_faultOf rfl (w_29 hS) ⟨_, _, rfl⟩ (s_X6_faultOf hS er2) ⟨rfl, rfl, ⟨by decide, by decide⟩, by decide, by decide⟩ (Nat.le_of_ble_eq_true rfl) 46 (wf_len hS) rfl [.int r2] rfl ?_
    refine aw_if_lt tTX6_judge rfl 22 19 rfl rfl (fun hc => ?_) (fun hc => ?_)
    · have h := ok_t hc h
      refine aw_run tTX6_judge 1 (pc2 := 23) (L2 := [(0, .ref 29), (1, .int a1)]) (st2 := [.ref 29]) rfl ?_
      obtain ⟨r3, er3, h⟩ := ok_b h
      refine aw_cV tTX6_judge rfl 26 rfl (M' := MX6_goNights) (av := []) (rest := []) rfl lkX6_152 hMX6_goNights rfl (w_29 hS) ⟨_, _, rfl⟩ (s_X6_goNights hS er3) ⟨rfl, rfl, ⟨by decide, by decide⟩, by decide, by decide⟩ (Nat.le_of_ble_eq_true rfl) 46 (wf_len hS) rfl [.int r3.1] rfl ?_
      refine aw_run tTX6_judge 2 (pc2 := 28) (L2 := [(2, .int r3.1), (0, .ref 29), (1, .int a1)]) (st2 := [.int r3.1]) rfl ?_
      refine aw_if_lt tTX6_judge rfl 35 31 rfl rfl (fun hc => ?_) (fun hc => ?_)
      · have h := ok_t hc h
        refine aw_run tTX6_judge 2 (pc2 := 43) (L2 := [(2, .int r3.1), (0, .ref 29), (1, .int a1)]) (st2 := [.int r3.1]) rfl ?_
        have h := ok_r h
        exact aw_ir tTX6_judge rfl rfl rfl (Nat.le_refl _) (Nat.le_refl _) h
      · have h := ok_f hc h
        refine aw_run tTX6_judge 1 (pc2 := 32) (L2 := [(2, .int r3.1), (0, .ref 29), (1, .int a1)]) (st2 := [.int a1]) rfl ?_
        refine aw_if_ne tTX6_judge rfl 39 35 rfl rfl (fun hc => ?_) (fun hc => ?_)
        · have h := ok_t hc h
          refine aw_run tTX6_judge 1 (pc2 := 40) (L2 := [(2, .int r3.1), (0, .ref 29), (1, .int a1)]) (st2 := [.ref 29]) rfl ?_
          refine aw_getI tTX6_judge rfl 43 rfl (w_29 hS) rfl flX6_146 ?_
          have h := ok_r h
          exact aw_ir tTX6_judge rfl rfl rfl (Nat.le_refl _) (Nat.le_refl _) h
        · have h := ok_fn hc h
          refine aw_run tTX6_judge 2 (pc2 := 43) (L2 := [(2, .int r3.1), (0, .ref 29), (1, .int a1)]) (st2 := [.int r3.1]) rfl ?_
          have h := ok_r h
          exact aw_ir tTX6_judge rfl rfl rfl (Nat.le_refl _) (Nat.le_refl _) h
    · have h := ok_f hc h
      refine aw_run tTX6_judge 1 (pc2 := 21) (L2 := [(0, .ref 29), (1, .int a1)]) (st2 := [.int (-5 : Int32)]) rfl ?_
      have h := ok_r h
      exact aw_ir tTX6_judge rfl rfl rfl (Nat.le_refl _) (Nat.le_refl _) h
  · have h := ok_fn hc h
    refine aw_run tTX6_judge 1 (pc2 := 11) (L2 := [(0, .ref 29), (1, .int a1)]) (st2 := [.int (-2 : Int32)]) rfl ?_
    have h := ok_r h
    exact aw_ir tTX6_judge rfl rfl rfl (Nat.le_refl _) (Nat.le_refl _) h
theorem s_X6_judge {g : Nat → Option Nat} {S : List SC} (hS : Wf g S) {σ : St} {a1 : Int32} {r : Int32 × St} (e : f_X6_judge a1 σ = some r) : Fn MX6_judge rmX6_judge [.ref 29, .int a1] S σ (some (.int r.1)) r.2 := Sp.of (by decide) (Nat.le_of_ble_eq_true rfl) (t_X6_judge hS a1 ⟨r, e, rfl, rfl, rfl⟩)
def f_X6_barOfNights  (σ : St) : Option (Int32 × St) := Option.bind (f_X6_faultOf  σ) (fun r1 => if 0 ≤ r1 then (some (((-5 : Int32), σ))) else (Option.bind (f_X6_goNights  σ) (fun r2 => if r2.1 < 0 then (some ((0, r2.2))) else (some (((-5 : Int32), r2.2))))))
set_option maxHeartbeats 4000000 in
set_option maxRecDepth 20000 in
theorem t_X6_barOfNights {g : Nat → Option Nat} {S : List SC} (hS : Wf g S) {σ : St} {Q : QT}  (h : ok (f_X6_barOfNights  σ) (fun r => Q (some (.int r.1)) S r.2)) : AW MX6_barOfNights E0 rmX6_barOfNights 0 0 Q 0 0 S σ 0 [(0, .ref 29)] [] := by
  unfold f_X6_barOfNights at h
  refine aw_run tTX6_barOfNights 1 (pc2 := 1) (L2 := [(0, .ref 29)]) (st2 := [.ref 29]) rfl ?_
  obtain ⟨r1, er1, h⟩ := ok_b h
  refine aw_cV tTX6_barOfNights rfl 4 rfl (M' := MX6_faultOf) (av := []) (rest := []) rfl lkX6_97 hMX6_faultOf rfl (w_29 hS) ⟨_, _, rfl⟩ (s_X6_faultOf hS er1) ⟨rfl, rfl, ⟨by decide, by decide⟩, by decide, by decide⟩ (Nat.le_of_ble_eq_true rfl) 46 (wf_len hS) rfl [.int r1] rfl ?_
  refine aw_if_ge tTX6_barOfNights rfl 14 7 rfl rfl (fun hc => ?_) (fun hc => ?_)
  · have h := ok_t hc h
    refine aw_run tTX6_barOfNights 2 (pc2 := 20) (L2 := [(0, .ref 29)]) (st2 := [.int (-5 : Int32)]) rfl ?_
    have h := ok_r h
    exact aw_ir tTX6_barOfNights rfl rfl rfl (Nat.le_refl _) (Nat.le_refl _) h
  · have h := ok_f hc h
    refine aw_run tTX6_barOfNights 1 (pc2 := 8) (L2 := [(0, .ref 29)]) (st2 := [.ref 29]) rfl ?_
    obtain ⟨r2, er2, h⟩ := ok_b h
    refine aw_cV tTX6_barOfNights rfl 11 rfl (M' := MX6_goNights) (av := []) (rest := []) rfl lkX6_152 hMX6_goNights rfl (w_29 hS) ⟨_, _, rfl⟩ (s_X6_goNights hS er2) ⟨rfl, rfl, ⟨by decide, by decide⟩, by decide, by decide⟩ (Nat.le_of_ble_eq_true rfl) 46 (wf_len hS) rfl [.int r2.1] rfl ?_
    refine aw_if_lt tTX6_barOfNights rfl 19 14 rfl rfl (fun hc => ?_) (fun hc => ?_)
    · have h := ok_t hc h
      refine aw_run tTX6_barOfNights 1 (pc2 := 20) (L2 := [(0, .ref 29)]) (st2 := [.int 0]) rfl ?_
      have h := ok_r h
      exact aw_ir tTX6_barOfNights rfl rfl rfl (Nat.le_refl _) (Nat.le_refl _) h
    · have h := ok_f hc h
      refine aw_run tTX6_barOfNights 2 (pc2 := 20) (L2 := [(0, .ref 29)]) (st2 := [.int (-5 : Int32)]) rfl ?_
      have h := ok_r h
      exact aw_ir tTX6_barOfNights rfl rfl rfl (Nat.le_refl _) (Nat.le_refl _) h
theorem s_X6_barOfNights {g : Nat → Option Nat} {S : List SC} (hS : Wf g S) {σ : St}  {r : Int32 × St} (e : f_X6_barOfNights  σ = some r) : Fn MX6_barOfNights rmX6_barOfNights [.ref 29] S σ (some (.int r.1)) r.2 := Sp.of (by decide) (Nat.le_of_ble_eq_true rfl) (t_X6_barOfNights hS  ⟨r, e, rfl, rfl, rfl⟩)
def l_X6_done_12  (y2 : Int32) (σ3 : St) : Option ((Int32 × St) ⊕ (St)) := if 6 ≤ y2 then (some (.inr σ3)) else (gi y2 6 (gi y2 6 (nm (up2 σ3 32 y2.toNatClampNeg (σ3 37 y2.toNatClampNeg)) (fun σ5 => gi y2 6 (gi y2 6 (nm (up2 σ5 33 y2.toNatClampNeg (σ5 38 y2.toNatClampNeg)) (fun σ6 => gi y2 6 (gi y2 6 (nm (up2 σ6 34 y2.toNatClampNeg (σ6 39 y2.toNatClampNeg)) (fun σ7 => gi y2 6 (gi y2 6 (nm (up2 σ7 35 y2.toNatClampNeg (σ7 40 y2.toNatClampNeg)) (fun σ8 => some (.inl (y2 + 1, σ8)))))))))))))))
def f_X6_done  (σ : St) : Option (Int32 × St) := Option.bind (f_X6_barOfNights  σ) (fun r1 => if 0 ≤ r1.1 then (Option.bind (loop (fun s : Int32 × St => l_X6_done_12  s.1 s.2) 400 (0, r1.2)) (fun (z4 : St) => nm (up2 z4 29 11 (z4 29 18)) (fun σ9 => nm (up2 σ9 29 2 (σ9 29 19)) (fun σ10 => nm (up2 σ10 29 3 (σ10 29 20)) (fun σ11 => nm (up2 σ11 29 4 (σ11 29 21)) (fun σ12 => nm (up2 σ12 29 12 0) (fun σ13 => some ((σ13 29 23, σ13))))))))) else (some (((-5 : Int32), r1.2))))
set_option maxHeartbeats 4000000 in
set_option maxRecDepth 20000 in
theorem t_X6_done {g : Nat → Option Nat} {S : List SC} (hS : Wf g S) {σ : St} {Q : QT}  (h : ok (f_X6_done  σ) (fun r => Q (some (.int r.1)) S r.2)) : AW MX6_done E0 rmX6_done 0 0 Q 0 0 S σ 0 [(0, .ref 29)] [] := by
  unfold f_X6_done at h
  refine aw_run tTX6_done 1 (pc2 := 1) (L2 := [(0, .ref 29)]) (st2 := [.ref 29]) rfl ?_
  obtain ⟨r1, er1, h⟩ := ok_b h
  refine aw_cV tTX6_done rfl 4 rfl (M' := MX6_barOfNights) (av := []) (rest := []) rfl lkX6_155 hMX6_barOfNights rfl (w_29 hS) ⟨_, _, rfl⟩ (s_X6_barOfNights hS er1) ⟨rfl, rfl, ⟨by decide, by decide⟩, by decide, by decide⟩ (Nat.le_of_ble_eq_true rfl) 46 (wf_len hS) rfl [.int r1.1] rfl ?_
  refine aw_if_ge tTX6_done rfl 10 7 rfl rfl (fun hc => ?_) (fun hc => ?_)
  · have h := ok_t hc h
    refine aw_run tTX6_done 2 (pc2 := 12) (L2 := [(1, .int 0), (0, .ref 29)]) (st2 := []) rfl ?_
    refine ok_use (P := fun z4 : St => AW MX6_done E0 rmX6_done 0 0 Q 0 0 S z4 72 [(0, .ref 29)] []) (ok_b h) (fun z4 h => ?_) (fun h => ?_)
    · refine aw_run tTX6_done 2 (pc2 := 74) (L2 := [(0, .ref 29)]) (st2 := [.ref 29, .ref 29]) rfl ?_
      refine aw_getI tTX6_done rfl 77 rfl (w_29 hS) rfl flX6_101 ?_
      refine aw_putI tTX6_done rfl 80 rfl (w_29 hS) rfl fpX6_88 ?_
      refine aw_nmS (fun σ9 eσ9 => ?_)
      have h := ok_nm h σ9 eσ9
      refine aw_run tTX6_done 2 (pc2 := 82) (L2 := [(0, .ref 29)]) (st2 := [.ref 29, .ref 29]) rfl ?_
      refine aw_getI tTX6_done rfl 85 rfl (w_29 hS) rfl flX6_104 ?_
      refine aw_putI tTX6_done rfl 88 rfl (w_29 hS) rfl fpX6_82 ?_
      refine aw_nmS (fun σ10 eσ10 => ?_)
      have h := ok_nm h σ10 eσ10
      refine aw_run tTX6_done 2 (pc2 := 90) (L2 := [(0, .ref 29)]) (st2 := [.ref 29, .ref 29]) rfl ?_
      refine aw_getI tTX6_done rfl 93 rfl (w_29 hS) rfl flX6_107 ?_
      refine aw_putI tTX6_done rfl 96 rfl (w_29 hS) rfl fpX6_85 ?_
      refine aw_nmS (fun σ11 eσ11 => ?_)
      have h := ok_nm h σ11 eσ11
      refine aw_run tTX6_done 2 (pc2 := 98) (L2 := [(0, .ref 29)]) (st2 := [.ref 29, .ref 29]) rfl ?_
      refine aw_getI tTX6_done rfl 101 rfl (w_29 hS) rfl flX6_110 ?_
      refine aw_putI tTX6_done rfl 104 rfl (w_29 hS) rfl fpX6_13 ?_
      refine aw_nmS (fun σ12 eσ12 => ?_)
      have h := ok_nm h σ12 eσ12
      refine aw_run tTX6_done 2 (pc2 := 106) (L2 := [(0, .ref 29)]) (st2 := [.int 0, .ref 29]) rfl ?_
      refine aw_putI tTX6_done rfl 109 rfl (w_29 hS) rfl fpX6_91 ?_
      refine aw_nmS (fun σ13 eσ13 => ?_)
      have h := ok_nm h σ13 eσ13
      refine aw_run tTX6_done 1 (pc2 := 110) (L2 := [(0, .ref 29)]) (st2 := [.ref 29]) rfl ?_
      refine aw_getI tTX6_done rfl 113 rfl (w_29 hS) rfl flX6_140 ?_
      have h := ok_r h
      exact aw_ir tTX6_done rfl rfl rfl (Nat.le_refl _) (Nat.le_refl _) h
    · refine aw_sub [1, 0] rfl ?_
      refine loop_P (P := fun s : Int32 × St => AW MX6_done E0 rmX6_done 0 0 Q 0 0 S s.2 12 [(0, .ref 29), (1, .int s.1)] []) (fun s h => ?_) _ _ h
      obtain ⟨y2, σ3⟩ := s
      replace h : ok (l_X6_done_12  y2 σ3) _ := h
      unfold l_X6_done_12 at h
      show AW MX6_done E0 rmX6_done 0 0 Q 0 0 S σ3 12 [(0, .ref 29), (1, .int y2)] []
      refine aw_run tTX6_done 2 (pc2 := 15) (L2 := [(0, .ref 29), (1, .int y2)]) (st2 := [.int 6, .int y2]) rfl ?_
      refine aw_icmp_ge tTX6_done rfl 72 18 rfl rfl (fun hc => ?_) (fun hc => ?_)
      · have h := ok_t hc h
        refine aw_sub [0] rfl ?_
        have h := ok_r h
        exact h
      · have h := ok_f hc h
        refine aw_run tTX6_done 1 (pc2 := 19) (L2 := [(0, .ref 29), (1, .int y2)]) (st2 := [.ref 29]) rfl ?_
        refine aw_getR tTX6_done rfl 22 rfl (w_29 hS) rfl flX6_20 ?_
        refine aw_run tTX6_done 2 (pc2 := 24) (L2 := [(0, .ref 29), (1, .int y2)]) (st2 := [.ref 29, .int y2, .ref 32]) rfl ?_
        refine aw_getR tTX6_done rfl 27 rfl (w_29 hS) rfl flX6_35 ?_
        refine aw_run tTX6_done 1 (pc2 := 28) (L2 := [(0, .ref 29), (1, .int y2)]) (st2 := [.int y2, .ref 37, .int y2, .ref 32]) rfl ?_
        obtain ⟨hi, h⟩ := ok_gi h
        refine aw_iald tTX6_done rfl 29 rfl (w_37 hS) hi ?_
        obtain ⟨hi, h⟩ := ok_gi h
        refine aw_iast tTX6_done rfl 30 rfl (w_32 hS) hi ?_
        refine aw_nmS (fun σ5 eσ5 => ?_)
        have h := ok_nm h σ5 eσ5
        refine aw_run tTX6_done 1 (pc2 := 31) (L2 := [(0, .ref 29), (1, .int y2)]) (st2 := [.ref 29]) rfl ?_
        refine aw_getR tTX6_done rfl 34 rfl (w_29 hS) rfl flX6_23 ?_
        refine aw_run tTX6_done 2 (pc2 := 36) (L2 := [(0, .ref 29), (1, .int y2)]) (st2 := [.ref 29, .int y2, .ref 33]) rfl ?_
        refine aw_getR tTX6_done rfl 39 rfl (w_29 hS) rfl flX6_38 ?_
        refine aw_run tTX6_done 1 (pc2 := 40) (L2 := [(0, .ref 29), (1, .int y2)]) (st2 := [.int y2, .ref 38, .int y2, .ref 33]) rfl ?_
        obtain ⟨hi, h⟩ := ok_gi h
        refine aw_iald tTX6_done rfl 41 rfl (w_38 hS) hi ?_
        obtain ⟨hi, h⟩ := ok_gi h
        refine aw_iast tTX6_done rfl 42 rfl (w_33 hS) hi ?_
        refine aw_nmS (fun σ6 eσ6 => ?_)
        have h := ok_nm h σ6 eσ6
        refine aw_run tTX6_done 1 (pc2 := 43) (L2 := [(0, .ref 29), (1, .int y2)]) (st2 := [.ref 29]) rfl ?_
        refine aw_getR tTX6_done rfl 46 rfl (w_29 hS) rfl flX6_26 ?_
        refine aw_run tTX6_done 2 (pc2 := 48) (L2 := [(0, .ref 29), (1, .int y2)]) (st2 := [.ref 29, .int y2, .ref 34]) rfl ?_
        refine aw_getR tTX6_done rfl 51 rfl (w_29 hS) rfl flX6_41 ?_
        refine aw_run tTX6_done 1 (pc2 := 52) (L2 := [(0, .ref 29), (1, .int y2)]) (st2 := [.int y2, .ref 39, .int y2, .ref 34]) rfl ?_
        obtain ⟨hi, h⟩ := ok_gi h
        refine aw_iald tTX6_done rfl 53 rfl (w_39 hS) hi ?_
        obtain ⟨hi, h⟩ := ok_gi h
        refine aw_iast tTX6_done rfl 54 rfl (w_34 hS) hi ?_
        refine aw_nmS (fun σ7 eσ7 => ?_)
        have h := ok_nm h σ7 eσ7
        refine aw_run tTX6_done 1 (pc2 := 55) (L2 := [(0, .ref 29), (1, .int y2)]) (st2 := [.ref 29]) rfl ?_
        refine aw_getR tTX6_done rfl 58 rfl (w_29 hS) rfl flX6_29 ?_
        refine aw_run tTX6_done 2 (pc2 := 60) (L2 := [(0, .ref 29), (1, .int y2)]) (st2 := [.ref 29, .int y2, .ref 35]) rfl ?_
        refine aw_getR tTX6_done rfl 63 rfl (w_29 hS) rfl flX6_44 ?_
        refine aw_run tTX6_done 1 (pc2 := 64) (L2 := [(0, .ref 29), (1, .int y2)]) (st2 := [.int y2, .ref 40, .int y2, .ref 35]) rfl ?_
        obtain ⟨hi, h⟩ := ok_gi h
        refine aw_iald tTX6_done rfl 65 rfl (w_40 hS) hi ?_
        obtain ⟨hi, h⟩ := ok_gi h
        refine aw_iast tTX6_done rfl 66 rfl (w_35 hS) hi ?_
        refine aw_nmS (fun σ8 eσ8 => ?_)
        have h := ok_nm h σ8 eσ8
        refine aw_run tTX6_done 2 (pc2 := 12) (L2 := [(1, .int (y2 + 1)), (0, .ref 29)]) (st2 := []) rfl ?_
        refine aw_sub [1, 0] rfl ?_
        have h := ok_r h
        exact h
  · have h := ok_f hc h
    refine aw_run tTX6_done 1 (pc2 := 9) (L2 := [(0, .ref 29)]) (st2 := [.int (-5 : Int32)]) rfl ?_
    have h := ok_r h
    exact aw_ir tTX6_done rfl rfl rfl (Nat.le_refl _) (Nat.le_refl _) h
theorem s_X6_done {g : Nat → Option Nat} {S : List SC} (hS : Wf g S) {σ : St}  {r : Int32 × St} (e : f_X6_done  σ = some r) : Fn MX6_done rmX6_done [.ref 29] S σ (some (.int r.1)) r.2 := Sp.of (by decide) (Nat.le_of_ble_eq_true rfl) (t_X6_done hS  ⟨r, e, rfl, rfl, rfl⟩)
def f_X6_stateNow (a1 : Int32) (a2 : Int32) (σ : St) : Option (Int32) := if ¬ a2 = 0 then (if ¬ a2 = 1 then (if ¬ a2 = 2 then (gi a1 6 (some (σ 39 a1.toNatClampNeg))) else (some (((σ 29 18) >>> (a1 &&& 31)) &&& 1))) else (gi a1 6 (some (σ 38 a1.toNatClampNeg)))) else (gi a1 6 (some (σ 37 a1.toNatClampNeg)))
set_option maxHeartbeats 4000000 in
set_option maxRecDepth 20000 in
theorem t_X6_stateNow {g : Nat → Option Nat} {S : List SC} (hS : Wf g S) {σ : St} {Q : QT} (a1 : Int32) (a2 : Int32) (h : ok (f_X6_stateNow a1 a2 σ) (fun r => Q (some (.int r)) S σ)) : AW MX6_stateNow E0 rmX6_stateNow 0 0 Q 0 0 S σ 0 [(0, .ref 29), (1, .int a1), (2, .int a2)] [] := by
  unfold f_X6_stateNow at h
  refine aw_run tTX6_stateNow 1 (pc2 := 1) (L2 := [(0, .ref 29), (1, .int a1), (2, .int a2)]) (st2 := [.int a2]) rfl ?_
  refine aw_if_ne tTX6_stateNow rfl 13 4 rfl rfl (fun hc => ?_) (fun hc => ?_)
  · have h := ok_t hc h
    refine aw_run tTX6_stateNow 2 (pc2 := 15) (L2 := [(0, .ref 29), (1, .int a1), (2, .int a2)]) (st2 := [.int 1, .int a2]) rfl ?_
    refine aw_icmp_ne tTX6_stateNow rfl 27 18 rfl rfl (fun hc => ?_) (fun hc => ?_)
    · have h := ok_t hc h
      refine aw_run tTX6_stateNow 2 (pc2 := 29) (L2 := [(0, .ref 29), (1, .int a1), (2, .int a2)]) (st2 := [.int 2, .int a2]) rfl ?_
      refine aw_icmp_ne tTX6_stateNow rfl 43 32 rfl rfl (fun hc => ?_) (fun hc => ?_)
      · have h := ok_t hc h
        refine aw_run tTX6_stateNow 1 (pc2 := 44) (L2 := [(0, .ref 29), (1, .int a1), (2, .int a2)]) (st2 := [.ref 29]) rfl ?_
        refine aw_getR tTX6_stateNow rfl 47 rfl (w_29 hS) rfl flX6_41 ?_
        refine aw_run tTX6_stateNow 1 (pc2 := 48) (L2 := [(0, .ref 29), (1, .int a1), (2, .int a2)]) (st2 := [.int a1, .ref 39]) rfl ?_
        obtain ⟨hi, h⟩ := ok_gi h
        refine aw_iald tTX6_stateNow rfl 49 rfl (w_39 hS) hi ?_
        have h := ok_r h
        exact aw_ir tTX6_stateNow rfl rfl rfl (Nat.le_refl _) (Nat.le_refl _) h
      · have h := ok_fn hc h
        refine aw_run tTX6_stateNow 1 (pc2 := 33) (L2 := [(0, .ref 29), (1, .int a1), (2, .int a2)]) (st2 := [.ref 29]) rfl ?_
        refine aw_getI tTX6_stateNow rfl 36 rfl (w_29 hS) rfl flX6_101 ?_
        refine aw_run tTX6_stateNow 5 (pc2 := 49) (L2 := [(0, .ref 29), (1, .int a1), (2, .int a2)]) (st2 := [.int (((σ 29 18) >>> (a1 &&& 31)) &&& 1)]) rfl ?_
        have h := ok_r h
        exact aw_ir tTX6_stateNow rfl rfl rfl (Nat.le_refl _) (Nat.le_refl _) h
    · have h := ok_fn hc h
      refine aw_run tTX6_stateNow 1 (pc2 := 19) (L2 := [(0, .ref 29), (1, .int a1), (2, .int a2)]) (st2 := [.ref 29]) rfl ?_
      refine aw_getR tTX6_stateNow rfl 22 rfl (w_29 hS) rfl flX6_38 ?_
      refine aw_run tTX6_stateNow 1 (pc2 := 23) (L2 := [(0, .ref 29), (1, .int a1), (2, .int a2)]) (st2 := [.int a1, .ref 38]) rfl ?_
      obtain ⟨hi, h⟩ := ok_gi h
      refine aw_iald tTX6_stateNow rfl 24 rfl (w_38 hS) hi ?_
      refine aw_run tTX6_stateNow 1 (pc2 := 49) (L2 := [(0, .ref 29), (1, .int a1), (2, .int a2)]) (st2 := [.int (σ 38 a1.toNatClampNeg)]) rfl ?_
      have h := ok_r h
      exact aw_ir tTX6_stateNow rfl rfl rfl (Nat.le_refl _) (Nat.le_refl _) h
  · have h := ok_fn hc h
    refine aw_run tTX6_stateNow 1 (pc2 := 5) (L2 := [(0, .ref 29), (1, .int a1), (2, .int a2)]) (st2 := [.ref 29]) rfl ?_
    refine aw_getR tTX6_stateNow rfl 8 rfl (w_29 hS) rfl flX6_35 ?_
    refine aw_run tTX6_stateNow 1 (pc2 := 9) (L2 := [(0, .ref 29), (1, .int a1), (2, .int a2)]) (st2 := [.int a1, .ref 37]) rfl ?_
    obtain ⟨hi, h⟩ := ok_gi h
    refine aw_iald tTX6_stateNow rfl 10 rfl (w_37 hS) hi ?_
    refine aw_run tTX6_stateNow 1 (pc2 := 49) (L2 := [(0, .ref 29), (1, .int a1), (2, .int a2)]) (st2 := [.int (σ 37 a1.toNatClampNeg)]) rfl ?_
    have h := ok_r h
    exact aw_ir tTX6_stateNow rfl rfl rfl (Nat.le_refl _) (Nat.le_refl _) h
theorem s_X6_stateNow {g : Nat → Option Nat} {S : List SC} (hS : Wf g S) {σ : St} {a1 : Int32} {a2 : Int32} {r : Int32} (e : f_X6_stateNow a1 a2 σ = some r) : Fn MX6_stateNow rmX6_stateNow [.ref 29, .int a1, .int a2] S σ (some (.int r)) σ := Sp.of (by decide) (Nat.le_of_ble_eq_true rfl) (t_X6_stateNow hS a1 a2 ⟨r, e, rfl, rfl, rfl⟩)
def f_X6_state (a1 : Int32) (a2 : Int32) (σ : St) : Option (Int32 × St) := Option.bind (f_X6_isThere a1 σ) (fun r1 => if ¬ r1 = 0 then (Option.bind (f_X6_in a2 0 3) (fun r2 => if ¬ r2 = 0 then (Option.bind (f_X6_asNow  σ) (fun r3 => Option.bind (f_X6_stateNow a1 a2 r3) (fun r4 => some ((r4, r3))))) else (some (((-2 : Int32), σ))))) else (some (((-1 : Int32), σ))))
set_option maxHeartbeats 4000000 in
set_option maxRecDepth 20000 in
theorem t_X6_state {g : Nat → Option Nat} {S : List SC} (hS : Wf g S) {σ : St} {Q : QT} (a1 : Int32) (a2 : Int32) (h : ok (f_X6_state a1 a2 σ) (fun r => Q (some (.int r.1)) S r.2)) : AW MX6_state E0 rmX6_state 0 0 Q 0 0 S σ 0 [(0, .ref 29), (1, .int a1), (2, .int a2)] [] := by
  unfold f_X6_state at h
  refine aw_run tTX6_state 2 (pc2 := 2) (L2 := [(0, .ref 29), (1, .int a1), (2, .int a2)]) (st2 := [.int a1, .ref 29]) rfl ?_
  obtain ⟨r1, er1, h⟩ := ok_b h
  refine aw_cV tTX6_state rfl 5 rfl (M' := MX6_isThere) (av := [.int a1]) (rest := []) rfl lkX6_78 hMX6_isThere rfl (w_29 hS) ⟨_, _, rfl⟩ (s_X6_isThere hS er1) ⟨rfl, rfl, ⟨by decide, by decide⟩, by decide, by decide⟩ (Nat.le_of_ble_eq_true rfl) 46 (wf_len hS) rfl [.int r1] rfl ?_
  refine aw_if_ne tTX6_state rfl 10 8 rfl rfl (fun hc => ?_) (fun hc => ?_)
  · have h := ok_t hc h
    refine aw_run tTX6_state 3 (pc2 := 13) (L2 := [(0, .ref 29), (1, .int a1), (2, .int a2)]) (st2 := [.int 3, .int 0, .int a2]) rfl ?_
    obtain ⟨r2, er2, h⟩ := ok_b h
    refine aw_cS tTX6_state rfl 16 rfl (M' := MX6_in) (av := [.int a2, .int 0, .int 3]) (rest := []) rfl lkX6_66 hMX6_in rfl (s_X6_in hS er2) ⟨rfl, rfl, ⟨by decide, by decide⟩, by decide, by decide⟩ (Nat.le_of_ble_eq_true rfl) 46 (wf_len hS) rfl [.int r2] rfl ?_
    refine aw_if_ne tTX6_state rfl 22 19 rfl rfl (fun hc => ?_) (fun hc => ?_)
    · have h := ok_t hc h
      refine aw_run tTX6_state 1 (pc2 := 23) (L2 := [(0, .ref 29), (1, .int a1), (2, .int a2)]) (st2 := [.ref 29]) rfl ?_
      obtain ⟨r3, er3, h⟩ := ok_b h
      refine aw_cV tTX6_state rfl 26 rfl (M' := MX6_asNow) (av := []) (rest := []) rfl lkX6_137 hMX6_asNow rfl (w_29 hS) ⟨_, _, rfl⟩ (s_X6_asNow hS er3) ⟨rfl, rfl, ⟨by decide, by decide⟩, by decide, by decide⟩ (Nat.le_of_ble_eq_true rfl) 46 (wf_len hS) rfl [] rfl ?_
      refine aw_run tTX6_state 3 (pc2 := 29) (L2 := [(0, .ref 29), (1, .int a1), (2, .int a2)]) (st2 := [.int a2, .int a1, .ref 29]) rfl ?_
      obtain ⟨r4, er4, h⟩ := ok_b h
      refine aw_cV tTX6_state rfl 32 rfl (M' := MX6_stateNow) (av := [.int a1, .int a2]) (rest := []) rfl lkX6_158 hMX6_stateNow rfl (w_29 hS) ⟨_, _, rfl⟩ (s_X6_stateNow hS er4) ⟨rfl, rfl, ⟨by decide, by decide⟩, by decide, by decide⟩ (Nat.le_of_ble_eq_true rfl) 46 (wf_len hS) rfl [.int r4] rfl ?_
      have h := ok_r h
      exact aw_ir tTX6_state rfl rfl rfl (Nat.le_refl _) (Nat.le_refl _) h
    · have h := ok_fn hc h
      refine aw_run tTX6_state 1 (pc2 := 21) (L2 := [(0, .ref 29), (1, .int a1), (2, .int a2)]) (st2 := [.int (-2 : Int32)]) rfl ?_
      have h := ok_r h
      exact aw_ir tTX6_state rfl rfl rfl (Nat.le_refl _) (Nat.le_refl _) h
  · have h := ok_fn hc h
    refine aw_run tTX6_state 1 (pc2 := 9) (L2 := [(0, .ref 29), (1, .int a1), (2, .int a2)]) (st2 := [.int (-1 : Int32)]) rfl ?_
    have h := ok_r h
    exact aw_ir tTX6_state rfl rfl rfl (Nat.le_refl _) (Nat.le_refl _) h
theorem s_X6_state {g : Nat → Option Nat} {S : List SC} (hS : Wf g S) {σ : St} {a1 : Int32} {a2 : Int32} {r : Int32 × St} (e : f_X6_state a1 a2 σ = some r) : Fn MX6_state rmX6_state [.ref 29, .int a1, .int a2] S σ (some (.int r.1)) r.2 := Sp.of (by decide) (Nat.le_of_ble_eq_true rfl) (t_X6_state hS a1 a2 ⟨r, e, rfl, rfl, rfl⟩)
def f_X6_behind (a1 : Int32) (a2 : Int32) (σ : St) : Option (Int32 × St) := Option.bind (f_X6_isThere a1 σ) (fun r1 => if ¬ r1 = 0 then (Option.bind (f_X6_in a2 0 3) (fun r2 => if ¬ r2 = 0 then (Option.bind (f_X6_barOfNights  σ) (fun r3 => if 0 ≤ r3.1 then (Option.bind (f_X6_stateNow a1 a2 r3.2) (fun r4 => some ((r4, r3.2)))) else (some (((-5 : Int32), r3.2))))) else (some (((-2 : Int32), σ))))) else (some (((-1 : Int32), σ))))
set_option maxHeartbeats 4000000 in
set_option maxRecDepth 20000 in
theorem t_X6_behind {g : Nat → Option Nat} {S : List SC} (hS : Wf g S) {σ : St} {Q : QT} (a1 : Int32) (a2 : Int32) (h : ok (f_X6_behind a1 a2 σ) (fun r => Q (some (.int r.1)) S r.2)) : AW MX6_behind E0 rmX6_behind 0 0 Q 0 0 S σ 0 [(0, .ref 29), (1, .int a1), (2, .int a2)] [] := by
  unfold f_X6_behind at h
  refine aw_run tTX6_behind 2 (pc2 := 2) (L2 := [(0, .ref 29), (1, .int a1), (2, .int a2)]) (st2 := [.int a1, .ref 29]) rfl ?_
  obtain ⟨r1, er1, h⟩ := ok_b h
  refine aw_cV tTX6_behind rfl 5 rfl (M' := MX6_isThere) (av := [.int a1]) (rest := []) rfl lkX6_78 hMX6_isThere rfl (w_29 hS) ⟨_, _, rfl⟩ (s_X6_isThere hS er1) ⟨rfl, rfl, ⟨by decide, by decide⟩, by decide, by decide⟩ (Nat.le_of_ble_eq_true rfl) 46 (wf_len hS) rfl [.int r1] rfl ?_
  refine aw_if_ne tTX6_behind rfl 10 8 rfl rfl (fun hc => ?_) (fun hc => ?_)
  · have h := ok_t hc h
    refine aw_run tTX6_behind 3 (pc2 := 13) (L2 := [(0, .ref 29), (1, .int a1), (2, .int a2)]) (st2 := [.int 3, .int 0, .int a2]) rfl ?_
    obtain ⟨r2, er2, h⟩ := ok_b h
    refine aw_cS tTX6_behind rfl 16 rfl (M' := MX6_in) (av := [.int a2, .int 0, .int 3]) (rest := []) rfl lkX6_66 hMX6_in rfl (s_X6_in hS er2) ⟨rfl, rfl, ⟨by decide, by decide⟩, by decide, by decide⟩ (Nat.le_of_ble_eq_true rfl) 46 (wf_len hS) rfl [.int r2] rfl ?_
    refine aw_if_ne tTX6_behind rfl 22 19 rfl rfl (fun hc => ?_) (fun hc => ?_)
    · have h := ok_t hc h
      refine aw_run tTX6_behind 1 (pc2 := 23) (L2 := [(0, .ref 29), (1, .int a1), (2, .int a2)]) (st2 := [.ref 29]) rfl ?_
      obtain ⟨r3, er3, h⟩ := ok_b h
      refine aw_cV tTX6_behind rfl 26 rfl (M' := MX6_barOfNights) (av := []) (rest := []) rfl lkX6_155 hMX6_barOfNights rfl (w_29 hS) ⟨_, _, rfl⟩ (s_X6_barOfNights hS er3) ⟨rfl, rfl, ⟨by decide, by decide⟩, by decide, by decide⟩ (Nat.le_of_ble_eq_true rfl) 46 (wf_len hS) rfl [.int r3.1] rfl ?_
      refine aw_if_ge tTX6_behind rfl 34 29 rfl rfl (fun hc => ?_) (fun hc => ?_)
      · have h := ok_t hc h
        refine aw_run tTX6_behind 3 (pc2 := 37) (L2 := [(0, .ref 29), (1, .int a1), (2, .int a2)]) (st2 := [.int a2, .int a1, .ref 29]) rfl ?_
        obtain ⟨r4, er4, h⟩ := ok_b h
        refine aw_cV tTX6_behind rfl 40 rfl (M' := MX6_stateNow) (av := [.int a1, .int a2]) (rest := []) rfl lkX6_158 hMX6_stateNow rfl (w_29 hS) ⟨_, _, rfl⟩ (s_X6_stateNow hS er4) ⟨rfl, rfl, ⟨by decide, by decide⟩, by decide, by decide⟩ (Nat.le_of_ble_eq_true rfl) 46 (wf_len hS) rfl [.int r4] rfl ?_
        have h := ok_r h
        exact aw_ir tTX6_behind rfl rfl rfl (Nat.le_refl _) (Nat.le_refl _) h
      · have h := ok_f hc h
        refine aw_run tTX6_behind 2 (pc2 := 40) (L2 := [(0, .ref 29), (1, .int a1), (2, .int a2)]) (st2 := [.int (-5 : Int32)]) rfl ?_
        have h := ok_r h
        exact aw_ir tTX6_behind rfl rfl rfl (Nat.le_refl _) (Nat.le_refl _) h
    · have h := ok_fn hc h
      refine aw_run tTX6_behind 1 (pc2 := 21) (L2 := [(0, .ref 29), (1, .int a1), (2, .int a2)]) (st2 := [.int (-2 : Int32)]) rfl ?_
      have h := ok_r h
      exact aw_ir tTX6_behind rfl rfl rfl (Nat.le_refl _) (Nat.le_refl _) h
  · have h := ok_fn hc h
    refine aw_run tTX6_behind 1 (pc2 := 9) (L2 := [(0, .ref 29), (1, .int a1), (2, .int a2)]) (st2 := [.int (-1 : Int32)]) rfl ?_
    have h := ok_r h
    exact aw_ir tTX6_behind rfl rfl rfl (Nat.le_refl _) (Nat.le_refl _) h
theorem s_X6_behind {g : Nat → Option Nat} {S : List SC} (hS : Wf g S) {σ : St} {a1 : Int32} {a2 : Int32} {r : Int32 × St} (e : f_X6_behind a1 a2 σ = some r) : Fn MX6_behind rmX6_behind [.ref 29, .int a1, .int a2] S σ (some (.int r.1)) r.2 := Sp.of (by decide) (Nat.le_of_ble_eq_true rfl) (t_X6_behind hS a1 a2 ⟨r, e, rfl, rfl, rfl⟩)
def l_X6_trees_26 (σ : St) (y2 : Int32) (y3 : Int32) (y4 : Int32) (y5 : Int32) : Option ((Int32 × Int32 × Int32 × Int32) ⊕ (Int32 × Int32 × Int32)) := if 6 ≤ y5 then (some (.inr (y2, y3, y4))) else (Option.bind (f_X6_has (σ 29 0) y5) (fun r7 => Option.bind (α := Int32 × Int32 × Int32) (if r7 = 0 then (some (y2, y3, y4)) else (gi y5 6 (Option.bind (α := Int32) (if ¬ (σ 32 y5.toNatClampNeg) = 0 then (some 0) else (some ((1 : Int32) <<< (y5 &&& 31)))) (fun (j9 : Int32) => gi y5 6 (nm (y3 &&& ((σ 34 y5.toNatClampNeg) ^^^ (-1 : Int32))) (fun (x10 : Int32) => Option.bind (α := Int32) (if y4 < 0 then (some y5) else (gi y5 6 (gi y4 6 (if (σ 33 y5.toNatClampNeg) ≤ (σ 33 y4.toNatClampNeg) then (some y4) else (some y5))))) (fun (j11 : Int32) => some (y2 ||| j9, x10, j11)))))))) (fun (j8 : Int32 × Int32 × Int32) => some (.inl (j8.1, j8.2.1, j8.2.2, y5 + 1)))))
def f_X6_trees (a1 : Int32) (σ : St) : Option (Int32) := Option.bind (f_X6_in a1 0 2) (fun r1 => if ¬ r1 = 0 then (Option.bind (loop (fun s : Int32 × Int32 × Int32 × Int32 => l_X6_trees_26 σ s.1 s.2.1 s.2.2.1 s.2.2.2) 400 (0, σ 29 0, (-6 : Int32), 0)) (fun (z6 : Int32 × Int32 × Int32) => if ¬ a1 = 0 then (if ¬ a1 = 1 then (some (z6.2.2)) else (some (z6.2.1))) else (some (z6.1)))) else (some ((-2 : Int32))))
set_option maxHeartbeats 4000000 in
set_option maxRecDepth 20000 in
theorem t_X6_trees {g : Nat → Option Nat} {S : List SC} (hS : Wf g S) {σ : St} {Q : QT} (a1 : Int32) (h : ok (f_X6_trees a1 σ) (fun r => Q (some (.int r)) S σ)) : AW MX6_trees E0 rmX6_trees 0 0 Q 0 0 S σ 0 [(0, .ref 29), (1, .int a1)] [] := by
  unfold f_X6_trees at h
  refine aw_run tTX6_trees 3 (pc2 := 3) (L2 := [(0, .ref 29), (1, .int a1)]) (st2 := [.int 2, .int 0, .int a1]) rfl ?_
  obtain ⟨r1, er1, h⟩ := ok_b h
  refine aw_cS tTX6_trees rfl 6 rfl (M' := MX6_in) (av := [.int a1, .int 0, .int 2]) (rest := []) rfl lkX6_66 hMX6_in rfl (s_X6_in hS er1) ⟨rfl, rfl, ⟨by decide, by decide⟩, by decide, by decide⟩ (Nat.le_of_ble_eq_true rfl) 46 (wf_len hS) rfl [.int r1] rfl ?_
  refine aw_if_ne tTX6_trees rfl 12 9 rfl rfl (fun hc => ?_) (fun hc => ?_)
  · have h := ok_t hc h
    refine aw_run tTX6_trees 3 (pc2 := 15) (L2 := [(2, .int 0), (0, .ref 29), (1, .int a1)]) (st2 := [.ref 29]) rfl ?_
    refine aw_getI tTX6_trees rfl 18 rfl (w_29 hS) rfl flX6_63 ?_
    refine aw_run tTX6_trees 5 (pc2 := 26) (L2 := [(5, .int 0), (4, .int (-6 : Int32)), (3, .int (σ 29 0)), (2, .int 0), (0, .ref 29), (1, .int a1)]) (st2 := []) rfl ?_
    refine ok_use (P := fun z6 : Int32 × Int32 × Int32 => AW MX6_trees E0 rmX6_trees 0 0 Q 0 0 S σ 115 [(1, .int a1), (2, .int z6.1), (3, .int z6.2.1), (4, .int z6.2.2)] []) (ok_b h) (fun z6 h => ?_) (fun h => ?_)
    · refine aw_run tTX6_trees 1 (pc2 := 116) (L2 := [(1, .int a1), (2, .int z6.1), (3, .int z6.2.1), (4, .int z6.2.2)]) (st2 := [.int a1]) rfl ?_
      refine aw_if_ne tTX6_trees rfl 123 119 rfl rfl (fun hc => ?_) (fun hc => ?_)
      · have h := ok_t hc h
        refine aw_run tTX6_trees 2 (pc2 := 125) (L2 := [(1, .int a1), (2, .int z6.1), (3, .int z6.2.1), (4, .int z6.2.2)]) (st2 := [.int 1, .int a1]) rfl ?_
        refine aw_icmp_ne tTX6_trees rfl 132 128 rfl rfl (fun hc => ?_) (fun hc => ?_)
        · have h := ok_t hc h
          refine aw_run tTX6_trees 1 (pc2 := 134) (L2 := [(1, .int a1), (2, .int z6.1), (3, .int z6.2.1), (4, .int z6.2.2)]) (st2 := [.int z6.2.2]) rfl ?_
          have h := ok_r h
          exact aw_ir tTX6_trees rfl rfl rfl (Nat.le_refl _) (Nat.le_refl _) h
        · have h := ok_fn hc h
          refine aw_run tTX6_trees 2 (pc2 := 134) (L2 := [(1, .int a1), (2, .int z6.1), (3, .int z6.2.1), (4, .int z6.2.2)]) (st2 := [.int z6.2.1]) rfl ?_
          have h := ok_r h
          exact aw_ir tTX6_trees rfl rfl rfl (Nat.le_refl _) (Nat.le_refl _) h
      · have h := ok_fn hc h
        refine aw_run tTX6_trees 2 (pc2 := 134) (L2 := [(1, .int a1), (2, .int z6.1), (3, .int z6.2.1), (4, .int z6.2.2)]) (st2 := [.int z6.1]) rfl ?_
        have h := ok_r h
        exact aw_ir tTX6_trees rfl rfl rfl (Nat.le_refl _) (Nat.le_refl _) h
    · refine aw_sub [4, 5, 3, 2, 1, 0] rfl ?_
      refine loop_P (P := fun s : Int32 × Int32 × Int32 × Int32 => AW MX6_trees E0 rmX6_trees 0 0 Q 0 0 S σ 26 [(0, .ref 29), (1, .int a1), (2, .int s.1), (3, .int s.2.1), (4, .int s.2.2.1), (5, .int s.2.2.2)] []) (fun s h => ?_) _ _ h
      obtain ⟨y2, y3, y4, y5⟩ := s
      replace h : ok (l_X6_trees_26 σ y2 y3 y4 y5) _ := h
      unfold l_X6_trees_26 at h
      show AW MX6_trees E0 rmX6_trees 0 0 Q 0 0 S σ 26 [(0, .ref 29), (1, .int a1), (2, .int y2), (3, .int y3), (4, .int y4), (5, .int y5)] []
      refine aw_run tTX6_trees 2 (pc2 := 30) (L2 := [(0, .ref 29), (1, .int a1), (2, .int y2), (3, .int y3), (4, .int y4), (5, .int y5)]) (st2 := [.int 6, .int y5]) rfl ?_
      refine aw_icmp_ge tTX6_trees rfl 115 33 rfl rfl (fun hc => ?_) (fun hc => ?_)
      · have h := ok_t hc h
        refine aw_sub [1, 2, 3, 4] rfl ?_
        have h := ok_r h
        exact h
      · have h := ok_f hc h
        refine aw_run tTX6_trees 1 (pc2 := 34) (L2 := [(0, .ref 29), (1, .int a1), (2, .int y2), (3, .int y3), (4, .int y4), (5, .int y5)]) (st2 := [.ref 29]) rfl ?_
        refine aw_getI tTX6_trees rfl 37 rfl (w_29 hS) rfl flX6_63 ?_
        refine aw_run tTX6_trees 1 (pc2 := 39) (L2 := [(0, .ref 29), (1, .int a1), (2, .int y2), (3, .int y3), (4, .int y4), (5, .int y5)]) (st2 := [.int y5, .int (σ 29 0)]) rfl ?_
        obtain ⟨r7, er7, h⟩ := ok_b h
        refine aw_cS tTX6_trees rfl 42 rfl (M' := MX6_has) (av := [.int (σ 29 0), .int y5]) (rest := []) rfl lkX6_70 hMX6_has rfl (s_X6_has hS er7) ⟨rfl, rfl, ⟨by decide, by decide⟩, by decide, by decide⟩ (Nat.le_of_ble_eq_true rfl) 46 (wf_len hS) rfl [.int r7] rfl ?_
        refine ok_use (P := fun j8 : Int32 × Int32 × Int32 => AW MX6_trees E0 rmX6_trees 0 0 Q 0 0 S σ 109 [(0, .ref 29), (1, .int a1), (2, .int j8.1), (3, .int j8.2.1), (4, .int j8.2.2), (5, .int y5)] []) (ok_b h) (fun j8 h => ?_) (fun h => ?_)
        · refine aw_run tTX6_trees 2 (pc2 := 26) (L2 := [(5, .int (y5 + 1)), (0, .ref 29), (1, .int a1), (2, .int j8.1), (3, .int j8.2.1), (4, .int j8.2.2)]) (st2 := []) rfl ?_
          refine aw_sub [1, 2, 3, 4, 5, 0] rfl ?_
          have h := ok_r h
          exact h
        · refine aw_if_eq tTX6_trees rfl 109 45 rfl rfl (fun hc => ?_) (fun hc => ?_)
          · have h := ok_t hc h
            refine aw_sub [0, 1, 2, 3, 4, 5] rfl ?_
            have h := ok_r h
            exact h
          · have h := ok_f hc h
            refine aw_run tTX6_trees 2 (pc2 := 47) (L2 := [(0, .ref 29), (1, .int a1), (2, .int y2), (3, .int y3), (4, .int y4), (5, .int y5)]) (st2 := [.ref 29, .int y2]) rfl ?_
            refine aw_getR tTX6_trees rfl 50 rfl (w_29 hS) rfl flX6_20 ?_
            refine aw_run tTX6_trees 1 (pc2 := 52) (L2 := [(0, .ref 29), (1, .int a1), (2, .int y2), (3, .int y3), (4, .int y4), (5, .int y5)]) (st2 := [.int y5, .ref 32, .int y2]) rfl ?_
            obtain ⟨hi, h⟩ := ok_gi h
            refine aw_iald tTX6_trees rfl 53 rfl (w_32 hS) hi ?_
            refine ok_use (P := fun j9 : Int32 => AW MX6_trees E0 rmX6_trees 0 0 Q 0 0 S σ 64 [(0, .ref 29), (1, .int a1), (3, .int y3), (4, .int y4), (5, .int y5)] [.int j9, .int y2]) (ok_b h) (fun j9 h => ?_) (fun h => ?_)
            · refine aw_run tTX6_trees 4 (pc2 := 68) (L2 := [(2, .int (y2 ||| j9)), (0, .ref 29), (1, .int a1), (3, .int y3), (4, .int y4), (5, .int y5)]) (st2 := [.ref 29, .int y3]) rfl ?_
              refine aw_getR tTX6_trees rfl 71 rfl (w_29 hS) rfl flX6_26 ?_
              refine aw_run tTX6_trees 1 (pc2 := 73) (L2 := [(2, .int (y2 ||| j9)), (0, .ref 29), (1, .int a1), (3, .int y3), (4, .int y4), (5, .int y5)]) (st2 := [.int y5, .ref 34, .int y3]) rfl ?_
              obtain ⟨hi, h⟩ := ok_gi h
              refine aw_iald tTX6_trees rfl 74 rfl (w_34 hS) hi ?_
              refine aw_run tTX6_trees 3 (pc2 := 77) (L2 := [(2, .int (y2 ||| j9)), (0, .ref 29), (1, .int a1), (3, .int y3), (4, .int y4), (5, .int y5)]) (st2 := [.int (y3 &&& ((σ 34 y5.toNatClampNeg) ^^^ (-1 : Int32)))]) rfl ?_
              refine aw_nm (fun x10 ex10 => ?_)
              have h := ok_nm h x10 ex10
              refine aw_run tTX6_trees 1 (pc2 := 78) (L2 := [(3, .int x10), (2, .int (y2 ||| j9)), (0, .ref 29), (1, .int a1), (4, .int y4), (5, .int y5)]) (st2 := []) rfl ?_
              refine aw_run tTX6_trees 1 (pc2 := 80) (L2 := [(3, .int x10), (2, .int (y2 ||| j9)), (0, .ref 29), (1, .int a1), (4, .int y4), (5, .int y5)]) (st2 := [.int y4]) rfl ?_
              refine ok_use (P := fun j11 : Int32 => AW MX6_trees E0 rmX6_trees 0 0 Q 0 0 S σ 107 [(0, .ref 29), (1, .int a1), (2, .int (y2 ||| j9)), (3, .int x10), (5, .int y5)] [.int j11]) (ok_b h) (fun j11 h => ?_) (fun h => ?_)
              · refine aw_run tTX6_trees 1 (pc2 := 109) (L2 := [(4, .int j11), (0, .ref 29), (1, .int a1), (2, .int (y2 ||| j9)), (3, .int x10), (5, .int y5)]) (st2 := []) rfl ?_
                refine aw_sub [1, 2, 3, 4, 0, 5] rfl ?_
                have h := ok_r h
                exact h
              · refine aw_if_lt tTX6_trees rfl 100 83 rfl rfl (fun hc => ?_) (fun hc => ?_)
                · have h := ok_t hc h
                  refine aw_run tTX6_trees 2 (pc2 := 107) (L2 := [(3, .int x10), (2, .int (y2 ||| j9)), (0, .ref 29), (1, .int a1), (4, .int y4), (5, .int y5)]) (st2 := [.int y5]) rfl ?_
                  refine aw_sub [2, 3, 1, 0, 5] rfl ?_
                  have h := ok_r h
                  exact h
                · have h := ok_f hc h
                  refine aw_run tTX6_trees 1 (pc2 := 84) (L2 := [(3, .int x10), (2, .int (y2 ||| j9)), (0, .ref 29), (1, .int a1), (4, .int y4), (5, .int y5)]) (st2 := [.ref 29]) rfl ?_
                  refine aw_getR tTX6_trees rfl 87 rfl (w_29 hS) rfl flX6_23 ?_
                  refine aw_run tTX6_trees 1 (pc2 := 89) (L2 := [(3, .int x10), (2, .int (y2 ||| j9)), (0, .ref 29), (1, .int a1), (4, .int y4), (5, .int y5)]) (st2 := [.int y5, .ref 33]) rfl ?_
                  obtain ⟨hi, h⟩ := ok_gi h
                  refine aw_iald tTX6_trees rfl 90 rfl (w_33 hS) hi ?_
                  refine aw_run tTX6_trees 1 (pc2 := 91) (L2 := [(3, .int x10), (2, .int (y2 ||| j9)), (0, .ref 29), (1, .int a1), (4, .int y4), (5, .int y5)]) (st2 := [.ref 29, .int (σ 33 y5.toNatClampNeg)]) rfl ?_
                  refine aw_getR tTX6_trees rfl 94 rfl (w_29 hS) rfl flX6_23 ?_
                  refine aw_run tTX6_trees 1 (pc2 := 96) (L2 := [(3, .int x10), (2, .int (y2 ||| j9)), (0, .ref 29), (1, .int a1), (4, .int y4), (5, .int y5)]) (st2 := [.int y4, .ref 33, .int (σ 33 y5.toNatClampNeg)]) rfl ?_
                  obtain ⟨hi, h⟩ := ok_gi h
                  refine aw_iald tTX6_trees rfl 97 rfl (w_33 hS) hi ?_
                  refine aw_icmp_le tTX6_trees rfl 105 100 rfl rfl (fun hc => ?_) (fun hc => ?_)
                  · have h := ok_t hc h
                    refine aw_run tTX6_trees 1 (pc2 := 107) (L2 := [(3, .int x10), (2, .int (y2 ||| j9)), (0, .ref 29), (1, .int a1), (4, .int y4), (5, .int y5)]) (st2 := [.int y4]) rfl ?_
                    refine aw_sub [2, 3, 1, 0, 5] rfl ?_
                    have h := ok_r h
                    exact h
                  · have h := ok_f hc h
                    refine aw_run tTX6_trees 2 (pc2 := 107) (L2 := [(3, .int x10), (2, .int (y2 ||| j9)), (0, .ref 29), (1, .int a1), (4, .int y4), (5, .int y5)]) (st2 := [.int y5]) rfl ?_
                    refine aw_sub [2, 3, 1, 0, 5] rfl ?_
                    have h := ok_r h
                    exact h
            · refine aw_if_ne tTX6_trees rfl 63 56 rfl rfl (fun hc => ?_) (fun hc => ?_)
              · have h := ok_t hc h
                refine aw_run tTX6_trees 1 (pc2 := 64) (L2 := [(0, .ref 29), (1, .int a1), (2, .int y2), (3, .int y3), (4, .int y4), (5, .int y5)]) (st2 := [.int 0, .int y2]) rfl ?_
                refine aw_sub [0, 1, 3, 4, 5] rfl ?_
                have h := ok_r h
                exact h
              · have h := ok_fn hc h
                refine aw_run tTX6_trees 4 (pc2 := 64) (L2 := [(0, .ref 29), (1, .int a1), (2, .int y2), (3, .int y3), (4, .int y4), (5, .int y5)]) (st2 := [.int ((1 : Int32) <<< (y5 &&& 31)), .int y2]) rfl ?_
                refine aw_sub [0, 1, 3, 4, 5] rfl ?_
                have h := ok_r h
                exact h
  · have h := ok_fn hc h
    refine aw_run tTX6_trees 1 (pc2 := 11) (L2 := [(0, .ref 29), (1, .int a1)]) (st2 := [.int (-2 : Int32)]) rfl ?_
    have h := ok_r h
    exact aw_ir tTX6_trees rfl rfl rfl (Nat.le_refl _) (Nat.le_refl _) h
theorem s_X6_trees {g : Nat → Option Nat} {S : List SC} (hS : Wf g S) {σ : St} {a1 : Int32} {r : Int32} (e : f_X6_trees a1 σ = some r) : Fn MX6_trees rmX6_trees [.ref 29, .int a1] S σ (some (.int r)) σ := Sp.of (by decide) (Nat.le_of_ble_eq_true rfl) (t_X6_trees hS a1 ⟨r, e, rfl, rfl, rfl⟩)
def l_X6_may_18 (a1 : Int32) (r2 : St) (y3 : Int32) (y4 : Int32) : Option ((Int32 × Int32) ⊕ (Int32)) := if 6 ≤ y4 then (some (.inr y3)) else (Option.bind (f_X6_whyNot a1 y4 r2) (fun r6 => Option.bind (α := Int32) (if ¬ r6 = 0 then (some 0) else (some ((1 : Int32) <<< (y4 &&& 31)))) (fun (j7 : Int32) => some (.inl (y3 ||| j7, y4 + 1)))))
def f_X6_may (a1 : Int32) (σ : St) : Option (Int32 × St) := Option.bind (f_X6_isThere a1 σ) (fun r1 => if ¬ r1 = 0 then (Option.bind (f_X6_asNow  σ) (fun r2 => Option.bind (loop (fun s : Int32 × Int32 => l_X6_may_18 a1 r2 s.1 s.2) 400 (0, 0)) (fun (z5 : Int32) => some ((z5, r2))))) else (some (((-1 : Int32), σ))))
set_option maxHeartbeats 4000000 in
set_option maxRecDepth 20000 in
theorem t_X6_may {g : Nat → Option Nat} {S : List SC} (hS : Wf g S) {σ : St} {Q : QT} (a1 : Int32) (h : ok (f_X6_may a1 σ) (fun r => Q (some (.int r.1)) S r.2)) : AW MX6_may E0 rmX6_may 0 0 Q 0 0 S σ 0 [(0, .ref 29), (1, .int a1)] [] := by
  unfold f_X6_may at h
  refine aw_run tTX6_may 2 (pc2 := 2) (L2 := [(0, .ref 29), (1, .int a1)]) (st2 := [.int a1, .ref 29]) rfl ?_
  obtain ⟨r1, er1, h⟩ := ok_b h
  refine aw_cV tTX6_may rfl 5 rfl (M' := MX6_isThere) (av := [.int a1]) (rest := []) rfl lkX6_78 hMX6_isThere rfl (w_29 hS) ⟨_, _, rfl⟩ (s_X6_isThere hS er1) ⟨rfl, rfl, ⟨by decide, by decide⟩, by decide, by decide⟩ (Nat.le_of_ble_eq_true rfl) 46 (wf_len hS) rfl [.int r1] rfl ?_
  refine aw_if_ne tTX6_may rfl 10 8 rfl rfl (fun hc => ?_) (fun hc => ?_)
  · have h := ok_t hc h
    refine aw_run tTX6_may 1 (pc2 := 11) (L2 := [(0, .ref 29), (1, .int a1)]) (st2 := [.ref 29]) rfl ?_
    obtain ⟨r2, er2, h⟩ := ok_b h
    refine aw_cV tTX6_may rfl 14 rfl (M' := MX6_asNow) (av := []) (rest := []) rfl lkX6_137 hMX6_asNow rfl (w_29 hS) ⟨_, _, rfl⟩ (s_X6_asNow hS er2) ⟨rfl, rfl, ⟨by decide, by decide⟩, by decide, by decide⟩ (Nat.le_of_ble_eq_true rfl) 46 (wf_len hS) rfl [] rfl ?_
    refine aw_run tTX6_may 4 (pc2 := 18) (L2 := [(3, .int 0), (2, .int 0), (0, .ref 29), (1, .int a1)]) (st2 := []) rfl ?_
    refine ok_use (P := fun z5 : Int32 => AW MX6_may E0 rmX6_may 0 0 Q 0 0 S r2 49 [(2, .int z5)] []) (ok_b h) (fun z5 h => ?_) (fun h => ?_)
    · refine aw_run tTX6_may 1 (pc2 := 50) (L2 := [(2, .int z5)]) (st2 := [.int z5]) rfl ?_
      have h := ok_r h
      exact aw_ir tTX6_may rfl rfl rfl (Nat.le_refl _) (Nat.le_refl _) h
    · refine aw_sub [2, 3, 1, 0] rfl ?_
      refine loop_P (P := fun s : Int32 × Int32 => AW MX6_may E0 rmX6_may 0 0 Q 0 0 S r2 18 [(0, .ref 29), (1, .int a1), (2, .int s.1), (3, .int s.2)] []) (fun s h => ?_) _ _ h
      obtain ⟨y3, y4⟩ := s
      replace h : ok (l_X6_may_18 a1 r2 y3 y4) _ := h
      unfold l_X6_may_18 at h
      show AW MX6_may E0 rmX6_may 0 0 Q 0 0 S r2 18 [(0, .ref 29), (1, .int a1), (2, .int y3), (3, .int y4)] []
      refine aw_run tTX6_may 2 (pc2 := 21) (L2 := [(0, .ref 29), (1, .int a1), (2, .int y3), (3, .int y4)]) (st2 := [.int 6, .int y4]) rfl ?_
      refine aw_icmp_ge tTX6_may rfl 49 24 rfl rfl (fun hc => ?_) (fun hc => ?_)
      · have h := ok_t hc h
        refine aw_sub [2] rfl ?_
        have h := ok_r h
        exact h
      · have h := ok_f hc h
        refine aw_run tTX6_may 4 (pc2 := 28) (L2 := [(0, .ref 29), (1, .int a1), (2, .int y3), (3, .int y4)]) (st2 := [.int y4, .int a1, .ref 29, .int y3]) rfl ?_
        obtain ⟨r6, er6, h⟩ := ok_b h
        refine aw_cV tTX6_may rfl 31 rfl (M' := MX6_whyNot) (av := [.int a1, .int y4]) (rest := [.int y3]) rfl lkX6_120 hMX6_whyNot rfl (w_29 hS) ⟨_, _, rfl⟩ (s_X6_whyNot hS er6) ⟨rfl, rfl, ⟨by decide, by decide⟩, by decide, by decide⟩ (Nat.le_of_ble_eq_true rfl) 46 (wf_len hS) rfl [.int r6, .int y3] rfl ?_
        refine ok_use (P := fun j7 : Int32 => AW MX6_may E0 rmX6_may 0 0 Q 0 0 S r2 41 [(0, .ref 29), (1, .int a1), (3, .int y4)] [.int j7, .int y3]) (ok_b h) (fun j7 h => ?_) (fun h => ?_)
        · refine aw_run tTX6_may 4 (pc2 := 18) (L2 := [(3, .int (y4 + 1)), (2, .int (y3 ||| j7)), (0, .ref 29), (1, .int a1)]) (st2 := []) rfl ?_
          refine aw_sub [2, 3, 1, 0] rfl ?_
          have h := ok_r h
          exact h
        · refine aw_if_ne tTX6_may rfl 40 34 rfl rfl (fun hc => ?_) (fun hc => ?_)
          · have h := ok_t hc h
            refine aw_run tTX6_may 1 (pc2 := 41) (L2 := [(0, .ref 29), (1, .int a1), (2, .int y3), (3, .int y4)]) (st2 := [.int 0, .int y3]) rfl ?_
            refine aw_sub [0, 1, 3] rfl ?_
            have h := ok_r h
            exact h
          · have h := ok_fn hc h
            refine aw_run tTX6_may 4 (pc2 := 41) (L2 := [(0, .ref 29), (1, .int a1), (2, .int y3), (3, .int y4)]) (st2 := [.int ((1 : Int32) <<< (y4 &&& 31)), .int y3]) rfl ?_
            refine aw_sub [0, 1, 3] rfl ?_
            have h := ok_r h
            exact h
  · have h := ok_fn hc h
    refine aw_run tTX6_may 1 (pc2 := 9) (L2 := [(0, .ref 29), (1, .int a1)]) (st2 := [.int (-1 : Int32)]) rfl ?_
    have h := ok_r h
    exact aw_ir tTX6_may rfl rfl rfl (Nat.le_refl _) (Nat.le_refl _) h
theorem s_X6_may {g : Nat → Option Nat} {S : List SC} (hS : Wf g S) {σ : St} {a1 : Int32} {r : Int32 × St} (e : f_X6_may a1 σ = some r) : Fn MX6_may rmX6_may [.ref 29, .int a1] S σ (some (.int r.1)) r.2 := Sp.of (by decide) (Nat.le_of_ble_eq_true rfl) (t_X6_may hS a1 ⟨r, e, rfl, rfl, rfl⟩)
def l_X6_mayRob_4 (a1 : Int32) (σ : St) (y1 : Int32) (y2 : Int32) : Option ((Int32 × Int32) ⊕ (Int32)) := if 6 ≤ y2 then (some (.inr y1)) else (Option.bind (f_X6_bar a1 y2 σ) (fun r4 => Option.bind (α := Int32) (if ¬ r4 = 0 then (some 0) else (some ((1 : Int32) <<< (y2 &&& 31)))) (fun (j5 : Int32) => some (.inl (y1 ||| j5, y2 + 1)))))
def f_X6_mayRob (a1 : Int32) (σ : St) : Option (Int32) := Option.bind (loop (fun s : Int32 × Int32 => l_X6_mayRob_4 a1 σ s.1 s.2) 400 (0, 0)) (fun (z3 : Int32) => some (z3))
set_option maxHeartbeats 4000000 in
set_option maxRecDepth 20000 in
theorem t_X6_mayRob {g : Nat → Option Nat} {S : List SC} (hS : Wf g S) {σ : St} {Q : QT} (a1 : Int32) (h : ok (f_X6_mayRob a1 σ) (fun r => Q (some (.int r)) S σ)) : AW MX6_mayRob E0 rmX6_mayRob 0 0 Q 0 0 S σ 0 [(0, .ref 29), (1, .int a1)] [] := by
  unfold f_X6_mayRob at h
  refine aw_run tTX6_mayRob 4 (pc2 := 4) (L2 := [(3, .int 0), (2, .int 0), (0, .ref 29), (1, .int a1)]) (st2 := []) rfl ?_
  refine ok_use (P := fun z3 : Int32 => AW MX6_mayRob E0 rmX6_mayRob 0 0 Q 0 0 S σ 35 [(2, .int z3)] []) (ok_b h) (fun z3 h => ?_) (fun h => ?_)
  · refine aw_run tTX6_mayRob 1 (pc2 := 36) (L2 := [(2, .int z3)]) (st2 := [.int z3]) rfl ?_
    have h := ok_r h
    exact aw_ir tTX6_mayRob rfl rfl rfl (Nat.le_refl _) (Nat.le_refl _) h
  · refine aw_sub [2, 3, 1, 0] rfl ?_
    refine loop_P (P := fun s : Int32 × Int32 => AW MX6_mayRob E0 rmX6_mayRob 0 0 Q 0 0 S σ 4 [(0, .ref 29), (1, .int a1), (2, .int s.1), (3, .int s.2)] []) (fun s h => ?_) _ _ h
    obtain ⟨y1, y2⟩ := s
    replace h : ok (l_X6_mayRob_4 a1 σ y1 y2) _ := h
    unfold l_X6_mayRob_4 at h
    show AW MX6_mayRob E0 rmX6_mayRob 0 0 Q 0 0 S σ 4 [(0, .ref 29), (1, .int a1), (2, .int y1), (3, .int y2)] []
    refine aw_run tTX6_mayRob 2 (pc2 := 7) (L2 := [(0, .ref 29), (1, .int a1), (2, .int y1), (3, .int y2)]) (st2 := [.int 6, .int y2]) rfl ?_
    refine aw_icmp_ge tTX6_mayRob rfl 35 10 rfl rfl (fun hc => ?_) (fun hc => ?_)
    · have h := ok_t hc h
      refine aw_sub [2] rfl ?_
      have h := ok_r h
      exact h
    · have h := ok_f hc h
      refine aw_run tTX6_mayRob 4 (pc2 := 14) (L2 := [(0, .ref 29), (1, .int a1), (2, .int y1), (3, .int y2)]) (st2 := [.int y2, .int a1, .ref 29, .int y1]) rfl ?_
      obtain ⟨r4, er4, h⟩ := ok_b h
      refine aw_cV tTX6_mayRob rfl 17 rfl (M' := MX6_bar) (av := [.int a1, .int y2]) (rest := [.int y1]) rfl lkX6_113 hMX6_bar rfl (w_29 hS) ⟨_, _, rfl⟩ (s_X6_bar hS er4) ⟨rfl, rfl, ⟨by decide, by decide⟩, by decide, by decide⟩ (Nat.le_of_ble_eq_true rfl) 46 (wf_len hS) rfl [.int r4, .int y1] rfl ?_
      refine ok_use (P := fun j5 : Int32 => AW MX6_mayRob E0 rmX6_mayRob 0 0 Q 0 0 S σ 27 [(0, .ref 29), (1, .int a1), (3, .int y2)] [.int j5, .int y1]) (ok_b h) (fun j5 h => ?_) (fun h => ?_)
      · refine aw_run tTX6_mayRob 4 (pc2 := 4) (L2 := [(3, .int (y2 + 1)), (2, .int (y1 ||| j5)), (0, .ref 29), (1, .int a1)]) (st2 := []) rfl ?_
        refine aw_sub [2, 3, 1, 0] rfl ?_
        have h := ok_r h
        exact h
      · refine aw_if_ne tTX6_mayRob rfl 26 20 rfl rfl (fun hc => ?_) (fun hc => ?_)
        · have h := ok_t hc h
          refine aw_run tTX6_mayRob 1 (pc2 := 27) (L2 := [(0, .ref 29), (1, .int a1), (2, .int y1), (3, .int y2)]) (st2 := [.int 0, .int y1]) rfl ?_
          refine aw_sub [0, 1, 3] rfl ?_
          have h := ok_r h
          exact h
        · have h := ok_fn hc h
          refine aw_run tTX6_mayRob 4 (pc2 := 27) (L2 := [(0, .ref 29), (1, .int a1), (2, .int y1), (3, .int y2)]) (st2 := [.int ((1 : Int32) <<< (y2 &&& 31)), .int y1]) rfl ?_
          refine aw_sub [0, 1, 3] rfl ?_
          have h := ok_r h
          exact h
theorem s_X6_mayRob {g : Nat → Option Nat} {S : List SC} (hS : Wf g S) {σ : St} {a1 : Int32} {r : Int32} (e : f_X6_mayRob a1 σ = some r) : Fn MX6_mayRob rmX6_mayRob [.ref 29, .int a1] S σ (some (.int r)) σ := Sp.of (by decide) (Nat.le_of_ble_eq_true rfl) (t_X6_mayRob hS a1 ⟨r, e, rfl, rfl, rfl⟩)
def l_X6_safe_11 (r1 : St) (y2 : Int32) (y3 : Int32) : Option ((Int32 × Int32) ⊕ (Int32)) := if 6 ≤ y3 then (some (.inr y2)) else (Option.bind (f_X6_mayRob y3 r1) (fun r5 => nm (y2 &&& (r5 ^^^ (-1 : Int32))) (fun (x6 : Int32) => some (.inl (x6, y3 + 1)))))
def f_X6_safe  (σ : St) : Option (Int32 × St) := Option.bind (f_X6_asNow  σ) (fun r1 => Option.bind (loop (fun s : Int32 × Int32 => l_X6_safe_11 r1 s.1 s.2) 400 (r1 29 0, 0)) (fun (z4 : Int32) => some ((z4, r1))))
set_option maxHeartbeats 4000000 in
set_option maxRecDepth 20000 in
theorem t_X6_safe {g : Nat → Option Nat} {S : List SC} (hS : Wf g S) {σ : St} {Q : QT}  (h : ok (f_X6_safe  σ) (fun r => Q (some (.int r.1)) S r.2)) : AW MX6_safe E0 rmX6_safe 0 0 Q 0 0 S σ 0 [(0, .ref 29)] [] := by
  unfold f_X6_safe at h
  refine aw_run tTX6_safe 1 (pc2 := 1) (L2 := [(0, .ref 29)]) (st2 := [.ref 29]) rfl ?_
  obtain ⟨r1, er1, h⟩ := ok_b h
  refine aw_cV tTX6_safe rfl 4 rfl (M' := MX6_asNow) (av := []) (rest := []) rfl lkX6_137 hMX6_asNow rfl (w_29 hS) ⟨_, _, rfl⟩ (s_X6_asNow hS er1) ⟨rfl, rfl, ⟨by decide, by decide⟩, by decide, by decide⟩ (Nat.le_of_ble_eq_true rfl) 46 (wf_len hS) rfl [] rfl ?_
  refine aw_run tTX6_safe 1 (pc2 := 5) (L2 := [(0, .ref 29)]) (st2 := [.ref 29]) rfl ?_
  refine aw_getI tTX6_safe rfl 8 rfl (w_29 hS) rfl flX6_63 ?_
  refine aw_run tTX6_safe 3 (pc2 := 11) (L2 := [(2, .int 0), (1, .int (r1 29 0)), (0, .ref 29)]) (st2 := []) rfl ?_
  refine ok_use (P := fun z4 : Int32 => AW MX6_safe E0 rmX6_safe 0 0 Q 0 0 S r1 33 [(1, .int z4)] []) (ok_b h) (fun z4 h => ?_) (fun h => ?_)
  · refine aw_run tTX6_safe 1 (pc2 := 34) (L2 := [(1, .int z4)]) (st2 := [.int z4]) rfl ?_
    have h := ok_r h
    exact aw_ir tTX6_safe rfl rfl rfl (Nat.le_refl _) (Nat.le_refl _) h
  · refine aw_sub [2, 1, 0] rfl ?_
    refine loop_P (P := fun s : Int32 × Int32 => AW MX6_safe E0 rmX6_safe 0 0 Q 0 0 S r1 11 [(0, .ref 29), (1, .int s.1), (2, .int s.2)] []) (fun s h => ?_) _ _ h
    obtain ⟨y2, y3⟩ := s
    replace h : ok (l_X6_safe_11 r1 y2 y3) _ := h
    unfold l_X6_safe_11 at h
    show AW MX6_safe E0 rmX6_safe 0 0 Q 0 0 S r1 11 [(0, .ref 29), (1, .int y2), (2, .int y3)] []
    refine aw_run tTX6_safe 2 (pc2 := 14) (L2 := [(0, .ref 29), (1, .int y2), (2, .int y3)]) (st2 := [.int 6, .int y3]) rfl ?_
    refine aw_icmp_ge tTX6_safe rfl 33 17 rfl rfl (fun hc => ?_) (fun hc => ?_)
    · have h := ok_t hc h
      refine aw_sub [1] rfl ?_
      have h := ok_r h
      exact h
    · have h := ok_f hc h
      refine aw_run tTX6_safe 3 (pc2 := 20) (L2 := [(0, .ref 29), (1, .int y2), (2, .int y3)]) (st2 := [.int y3, .ref 29, .int y2]) rfl ?_
      obtain ⟨r5, er5, h⟩ := ok_b h
      refine aw_cV tTX6_safe rfl 23 rfl (M' := MX6_mayRob) (av := [.int y3]) (rest := [.int y2]) rfl lkX6_161 hMX6_mayRob rfl (w_29 hS) ⟨_, _, rfl⟩ (s_X6_mayRob hS er5) ⟨rfl, rfl, ⟨by decide, by decide⟩, by decide, by decide⟩ (Nat.le_of_ble_eq_true rfl) 46 (wf_len hS) rfl [.int r5, .int y2] rfl ?_
      refine aw_run tTX6_safe 3 (pc2 := 26) (L2 := [(0, .ref 29), (1, .int y2), (2, .int y3)]) (st2 := [.int (y2 &&& (r5 ^^^ (-1 : Int32)))]) rfl ?_
      refine aw_nm (fun x6 ex6 => ?_)
      have h := ok_nm h x6 ex6
      refine aw_run tTX6_safe 1 (pc2 := 27) (L2 := [(1, .int x6), (0, .ref 29), (2, .int y3)]) (st2 := []) rfl ?_
      refine aw_run tTX6_safe 2 (pc2 := 11) (L2 := [(2, .int (y3 + 1)), (1, .int x6), (0, .ref 29)]) (st2 := []) rfl ?_
      refine aw_sub [2, 1, 0] rfl ?_
      have h := ok_r h
      exact h
theorem s_X6_safe {g : Nat → Option Nat} {S : List SC} (hS : Wf g S) {σ : St}  {r : Int32 × St} (e : f_X6_safe  σ = some r) : Fn MX6_safe rmX6_safe [.ref 29] S σ (some (.int r.1)) r.2 := Sp.of (by decide) (Nat.le_of_ble_eq_true rfl) (t_X6_safe hS  ⟨r, e, rfl, rfl, rfl⟩)
