/-! lifted by program (wip/gen/lift.py) -/
def f_X1_write (a1 : Int32) (σ : St) : Option (Int32 × St) := if (σ 18 1) < 60 then (gi (σ 18 1) 60 (nm (up2 σ 19 (σ 18 1).toNatClampNeg a1) (fun σ1 => nm (up2 σ1 18 1 ((σ1 18 1) + 1)) (fun σ2 => some ((1, σ2)))))) else (some ((0, σ)))
set_option maxHeartbeats 4000000 in
set_option maxRecDepth 20000 in
theorem t_X1_write {g : Nat → Option Nat} {S : List SC} (hS : Wf g S) {σ : St} {Q : QT} (a1 : Int32) (h : ok (f_X1_write a1 σ) (fun r => Q (some (.int r.1)) S r.2)) : AW MX1_write E0 rmX1_write 0 0 Q 0 0 S σ 0 [(0, .ref 18), (1, .int a1)] [] := by
  unfold f_X1_write at h
  refine aw_run tTX1_write 1 (pc2 := 1) (L2 := [(0, .ref 18), (1, .int a1)]) (st2 := [.ref 18]) rfl ?_
  refine aw_getI tTX1_write rfl 4 rfl (w_18 hS) rfl flX1_15 ?_
  refine aw_run tTX1_write 1 (pc2 := 6) (L2 := [(0, .ref 18), (1, .int a1)]) (st2 := [.int 60, .int (σ 18 1)]) rfl ?_
  refine aw_icmp_lt tTX1_write rfl 11 9 rfl rfl (fun hc => ?_) (fun hc => ?_)
  · have h := ok_t hc h
    refine aw_run tTX1_write 1 (pc2 := 12) (L2 := [(0, .ref 18), (1, .int a1)]) (st2 := [.ref 18]) rfl ?_
    refine aw_getR tTX1_write rfl 15 rfl (w_18 hS) rfl flX1_9 ?_
    refine aw_run tTX1_write 1 (pc2 := 16) (L2 := [(0, .ref 18), (1, .int a1)]) (st2 := [.ref 18, .ref 19]) rfl ?_
    refine aw_getI tTX1_write rfl 19 rfl (w_18 hS) rfl flX1_15 ?_
    refine aw_run tTX1_write 1 (pc2 := 20) (L2 := [(0, .ref 18), (1, .int a1)]) (st2 := [.int a1, .int (σ 18 1), .ref 19]) rfl ?_
    obtain ⟨hi, h⟩ := ok_gi h
    refine aw_iast tTX1_write rfl 21 rfl (w_19 hS) hi ?_
    refine aw_nmS (fun σ1 eσ1 => ?_)
    have h := ok_nm h σ1 eσ1
    refine aw_run tTX1_write 2 (pc2 := 23) (L2 := [(0, .ref 18), (1, .int a1)]) (st2 := [.ref 18, .ref 18]) rfl ?_
    refine aw_getI tTX1_write rfl 26 rfl (w_18 hS) rfl flX1_15 ?_
    refine aw_run tTX1_write 2 (pc2 := 28) (L2 := [(0, .ref 18), (1, .int a1)]) (st2 := [.int ((σ1 18 1) + 1), .ref 18]) rfl ?_
    refine aw_putI tTX1_write rfl 31 rfl (w_18 hS) rfl fpX1_15 ?_
    refine aw_nmS (fun σ2 eσ2 => ?_)
    have h := ok_nm h σ2 eσ2
    refine aw_run tTX1_write 1 (pc2 := 32) (L2 := [(0, .ref 18), (1, .int a1)]) (st2 := [.int 1]) rfl ?_
    have h := ok_r h
    exact aw_ir tTX1_write rfl rfl rfl (Nat.le_refl _) (Nat.le_refl _) h
  · have h := ok_f hc h
    refine aw_run tTX1_write 1 (pc2 := 10) (L2 := [(0, .ref 18), (1, .int a1)]) (st2 := [.int 0]) rfl ?_
    have h := ok_r h
    exact aw_ir tTX1_write rfl rfl rfl (Nat.le_refl _) (Nat.le_refl _) h
theorem s_X1_write {g : Nat → Option Nat} {S : List SC} (hS : Wf g S) {σ : St} {a1 : Int32} {r : Int32 × St} (e : f_X1_write a1 σ = some r) : Fn MX1_write rmX1_write [.ref 18, .int a1] S σ (some (.int r.1)) r.2 := Sp.of (by decide) (Nat.le_of_ble_eq_true rfl) (t_X1_write hS a1 ⟨r, e, rfl, rfl, rfl⟩)
def f_X5_within (a1 : Int32) (a2 : Int32) (a3 : Int32)  : Option (Int32) := if a1 < a2 then (some (0)) else (if a3 < a1 then (some (0)) else (some (1)))
set_option maxHeartbeats 4000000 in
set_option maxRecDepth 20000 in
theorem t_X5_within {g : Nat → Option Nat} {S : List SC} (hS : Wf g S) {σ : St} {Q : QT} (a1 : Int32) (a2 : Int32) (a3 : Int32) (h : ok (f_X5_within a1 a2 a3 ) (fun r => Q (some (.int r)) S σ)) : AW MX5_within E0 rmX5_within 0 0 Q 0 0 S σ 0 [(0, .int a1), (1, .int a2), (2, .int a3)] [] := by
  unfold f_X5_within at h
  refine aw_run tTX5_within 2 (pc2 := 2) (L2 := [(0, .int a1), (1, .int a2), (2, .int a3)]) (st2 := [.int a2, .int a1]) rfl ?_
  refine aw_icmp_lt tTX5_within rfl 14 5 rfl rfl (fun hc => ?_) (fun hc => ?_)
  · have h := ok_t hc h
    refine aw_run tTX5_within 1 (pc2 := 15) (L2 := [(0, .int a1), (1, .int a2), (2, .int a3)]) (st2 := [.int 0]) rfl ?_
    have h := ok_r h
    exact aw_ir tTX5_within rfl rfl rfl (Nat.le_refl _) (Nat.le_refl _) h
  · have h := ok_f hc h
    refine aw_run tTX5_within 2 (pc2 := 7) (L2 := [(0, .int a1), (1, .int a2), (2, .int a3)]) (st2 := [.int a3, .int a1]) rfl ?_
    refine aw_icmp_gt tTX5_within rfl 14 10 rfl rfl (fun hc => ?_) (fun hc => ?_)
    · have h := ok_t hc h
      refine aw_run tTX5_within 1 (pc2 := 15) (L2 := [(0, .int a1), (1, .int a2), (2, .int a3)]) (st2 := [.int 0]) rfl ?_
      have h := ok_r h
      exact aw_ir tTX5_within rfl rfl rfl (Nat.le_refl _) (Nat.le_refl _) h
    · have h := ok_f hc h
      refine aw_run tTX5_within 2 (pc2 := 15) (L2 := [(0, .int a1), (1, .int a2), (2, .int a3)]) (st2 := [.int 1]) rfl ?_
      have h := ok_r h
      exact aw_ir tTX5_within rfl rfl rfl (Nat.le_refl _) (Nat.le_refl _) h
theorem s_X5_within {g : Nat → Option Nat} {S : List SC} (hS : Wf g S) {σ : St} {a1 : Int32} {a2 : Int32} {a3 : Int32} {r : Int32} (e : f_X5_within a1 a2 a3  = some r) : Fn MX5_within rmX5_within [.int a1, .int a2, .int a3] S σ (some (.int r)) σ := Sp.of (by decide) (Nat.le_of_ble_eq_true rfl) (t_X5_within hS a1 a2 a3 ⟨r, e, rfl, rfl, rfl⟩)
def f_X1_isLetter (a1 : Int32)  : Option (Int32) := Option.bind (f_X5_within a1 65 70) (fun r1 => gb r1 (some (r1)))
set_option maxHeartbeats 4000000 in
set_option maxRecDepth 20000 in
theorem t_X1_isLetter {g : Nat → Option Nat} {S : List SC} (hS : Wf g S) {σ : St} {Q : QT} (a1 : Int32) (h : ok (f_X1_isLetter a1 ) (fun r => Q (some (.int r)) S σ)) : AW MX1_isLetter E0 rmX1_isLetter 0 0 Q 0 0 S σ 0 [(0, .int a1)] [] := by
  unfold f_X1_isLetter at h
  refine aw_run tTX1_isLetter 3 (pc2 := 5) (L2 := [(0, .int a1)]) (st2 := [.int 70, .int 65, .int a1]) rfl ?_
  obtain ⟨r1, er1, h⟩ := ok_b h
  refine aw_cSN tTX1_isLetter rfl 8 rfl (M' := MX5_within) (av := [.int a1, .int 65, .int 70]) (rest := []) rfl lkNX1_41 hMX5_within rfl (s_X5_within hS er1) ⟨rfl, rfl, ⟨by decide, by decide⟩, by decide, by decide⟩ (Nat.le_of_ble_eq_true rfl) 46 (wf_len hS) rfl [.int r1] rfl ?_
  obtain ⟨hn, h⟩ := ok_gb h
  have h := ok_r h
  exact aw_ir tTX1_isLetter rfl rfl hn (Nat.le_refl _) (Nat.le_refl _) h
theorem s_X1_isLetter {g : Nat → Option Nat} {S : List SC} (hS : Wf g S) {σ : St} {a1 : Int32} {r : Int32} (e : f_X1_isLetter a1  = some r) : Fn MX1_isLetter rmX1_isLetter [.int a1] S σ (some (.int r)) σ := Sp.of (by decide) (Nat.le_of_ble_eq_true rfl) (t_X1_isLetter hS a1 ⟨r, e, rfl, rfl, rfl⟩)
def f_X1_endsAct (a1 : Int32)  : Option (Int32) := Option.bind (f_X1_isLetter a1) (fun r1 => if ¬ r1 = 0 then (some (1)) else (if a1 = 42 then (some (1)) else (if a1 = 126 then (some (1)) else (if ¬ a1 = 33 then (some (0)) else (some (1))))))
set_option maxHeartbeats 4000000 in
set_option maxRecDepth 20000 in
theorem t_X1_endsAct {g : Nat → Option Nat} {S : List SC} (hS : Wf g S) {σ : St} {Q : QT} (a1 : Int32) (h : ok (f_X1_endsAct a1 ) (fun r => Q (some (.int r)) S σ)) : AW MX1_endsAct E0 rmX1_endsAct 0 0 Q 0 0 S σ 0 [(0, .int a1)] [] := by
  unfold f_X1_endsAct at h
  refine aw_run tTX1_endsAct 1 (pc2 := 1) (L2 := [(0, .int a1)]) (st2 := [.int a1]) rfl ?_
  obtain ⟨r1, er1, h⟩ := ok_b h
  refine aw_cS tTX1_endsAct rfl 4 rfl (M' := MX1_isLetter) (av := [.int a1]) (rest := []) rfl lkX1_29 hMX1_isLetter rfl (s_X1_isLetter hS er1) ⟨rfl, rfl, ⟨by decide, by decide⟩, by decide, by decide⟩ (Nat.le_of_ble_eq_true rfl) 46 (wf_len hS) rfl [.int r1] rfl ?_
  refine aw_if_ne tTX1_endsAct rfl 25 7 rfl rfl (fun hc => ?_) (fun hc => ?_)
  · have h := ok_t hc h
    refine aw_run tTX1_endsAct 2 (pc2 := 30) (L2 := [(0, .int a1)]) (st2 := [.int 1]) rfl ?_
    have h := ok_r h
    exact aw_ir tTX1_endsAct rfl rfl rfl (Nat.le_refl _) (Nat.le_refl _) h
  · have h := ok_fn hc h
    refine aw_run tTX1_endsAct 2 (pc2 := 10) (L2 := [(0, .int a1)]) (st2 := [.int 42, .int a1]) rfl ?_
    refine aw_icmp_eq tTX1_endsAct rfl 25 13 rfl rfl (fun hc => ?_) (fun hc => ?_)
    · have h := ok_t hc h
      refine aw_run tTX1_endsAct 2 (pc2 := 30) (L2 := [(0, .int a1)]) (st2 := [.int 1]) rfl ?_
      have h := ok_r h
      exact aw_ir tTX1_endsAct rfl rfl rfl (Nat.le_refl _) (Nat.le_refl _) h
    · have h := ok_f hc h
      refine aw_run tTX1_endsAct 2 (pc2 := 16) (L2 := [(0, .int a1)]) (st2 := [.int 126, .int a1]) rfl ?_
      refine aw_icmp_eq tTX1_endsAct rfl 25 19 rfl rfl (fun hc => ?_) (fun hc => ?_)
      · have h := ok_t hc h
        refine aw_run tTX1_endsAct 2 (pc2 := 30) (L2 := [(0, .int a1)]) (st2 := [.int 1]) rfl ?_
        have h := ok_r h
        exact aw_ir tTX1_endsAct rfl rfl rfl (Nat.le_refl _) (Nat.le_refl _) h
      · have h := ok_f hc h
        refine aw_run tTX1_endsAct 2 (pc2 := 22) (L2 := [(0, .int a1)]) (st2 := [.int 33, .int a1]) rfl ?_
        refine aw_icmp_ne tTX1_endsAct rfl 29 25 rfl rfl (fun hc => ?_) (fun hc => ?_)
        · have h := ok_t hc h
          refine aw_run tTX1_endsAct 1 (pc2 := 30) (L2 := [(0, .int a1)]) (st2 := [.int 0]) rfl ?_
          have h := ok_r h
          exact aw_ir tTX1_endsAct rfl rfl rfl (Nat.le_refl _) (Nat.le_refl _) h
        · have h := ok_fn hc h
          refine aw_run tTX1_endsAct 2 (pc2 := 30) (L2 := [(0, .int a1)]) (st2 := [.int 1]) rfl ?_
          have h := ok_r h
          exact aw_ir tTX1_endsAct rfl rfl rfl (Nat.le_refl _) (Nat.le_refl _) h
theorem s_X1_endsAct {g : Nat → Option Nat} {S : List SC} (hS : Wf g S) {σ : St} {a1 : Int32} {r : Int32} (e : f_X1_endsAct a1  = some r) : Fn MX1_endsAct rmX1_endsAct [.int a1] S σ (some (.int r)) σ := Sp.of (by decide) (Nat.le_of_ble_eq_true rfl) (t_X1_endsAct hS a1 ⟨r, e, rfl, rfl, rfl⟩)
def f_X1_standsAlone (a1 : Int32)  : Option (Int32) := if a1 = 46 then (some (1)) else (if ¬ a1 = 36 then (some (0)) else (some (1)))
set_option maxHeartbeats 4000000 in
set_option maxRecDepth 20000 in
theorem t_X1_standsAlone {g : Nat → Option Nat} {S : List SC} (hS : Wf g S) {σ : St} {Q : QT} (a1 : Int32) (h : ok (f_X1_standsAlone a1 ) (fun r => Q (some (.int r)) S σ)) : AW MX1_standsAlone E0 rmX1_standsAlone 0 0 Q 0 0 S σ 0 [(0, .int a1)] [] := by
  unfold f_X1_standsAlone at h
  refine aw_run tTX1_standsAlone 2 (pc2 := 3) (L2 := [(0, .int a1)]) (st2 := [.int 46, .int a1]) rfl ?_
  refine aw_icmp_eq tTX1_standsAlone rfl 12 6 rfl rfl (fun hc => ?_) (fun hc => ?_)
  · have h := ok_t hc h
    refine aw_run tTX1_standsAlone 2 (pc2 := 17) (L2 := [(0, .int a1)]) (st2 := [.int 1]) rfl ?_
    have h := ok_r h
    exact aw_ir tTX1_standsAlone rfl rfl rfl (Nat.le_refl _) (Nat.le_refl _) h
  · have h := ok_f hc h
    refine aw_run tTX1_standsAlone 2 (pc2 := 9) (L2 := [(0, .int a1)]) (st2 := [.int 36, .int a1]) rfl ?_
    refine aw_icmp_ne tTX1_standsAlone rfl 16 12 rfl rfl (fun hc => ?_) (fun hc => ?_)
    · have h := ok_t hc h
      refine aw_run tTX1_standsAlone 1 (pc2 := 17) (L2 := [(0, .int a1)]) (st2 := [.int 0]) rfl ?_
      have h := ok_r h
      exact aw_ir tTX1_standsAlone rfl rfl rfl (Nat.le_refl _) (Nat.le_refl _) h
    · have h := ok_fn hc h
      refine aw_run tTX1_standsAlone 2 (pc2 := 17) (L2 := [(0, .int a1)]) (st2 := [.int 1]) rfl ?_
      have h := ok_r h
      exact aw_ir tTX1_standsAlone rfl rfl rfl (Nat.le_refl _) (Nat.le_refl _) h
theorem s_X1_standsAlone {g : Nat → Option Nat} {S : List SC} (hS : Wf g S) {σ : St} {a1 : Int32} {r : Int32} (e : f_X1_standsAlone a1  = some r) : Fn MX1_standsAlone rmX1_standsAlone [.int a1] S σ (some (.int r)) σ := Sp.of (by decide) (Nat.le_of_ble_eq_true rfl) (t_X1_standsAlone hS a1 ⟨r, e, rfl, rfl, rfl⟩)
def l_X1_faultPlace_4 (σ : St) (y1 : Int32) (y2 : Int32) : Option ((Int32 × Int32) ⊕ ((Int32) ⊕ (Int32))) := if (σ 18 1) ≤ y2 then (some (.inr (.inl y1))) else (gi y2 60 (Option.bind (α := Int32) (if y1 = 0 then (Option.bind (f_X1_isLetter (σ 19 y2.toNatClampNeg)) (fun r7 => if ¬ r7 = 0 then (some 1) else (Option.bind (f_X1_standsAlone (σ 19 y2.toNatClampNeg)) (fun r8 => if r8 = 0 then (some 0) else (some 1))))) else (Option.bind (f_X1_endsAct (σ 19 y2.toNatClampNeg)) (fun r9 => some r9))) (fun (j4 : Int32) => if ¬ j4 = 0 then (Option.bind (α := Int32) (if ¬ y1 = 0 then (some 0) else (Option.bind (f_X1_isLetter (σ 19 y2.toNatClampNeg)) (fun r6 => if r6 = 0 then (some 0) else (some 1)))) (fun (j5 : Int32) => some (.inl (j5, y2 + 1)))) else (some (.inr (.inr (y2)))))))
def f_X1_faultPlace  (σ : St) : Option (Int32) := Option.bind (loop (fun s : Int32 × Int32 => l_X1_faultPlace_4 σ s.1 s.2) 400 (0, 0)) (fun z10 => match z10 with
    | .inl z3 => if z3 = 0 then (some ((-6 : Int32))) else (some (σ 18 1))
    | .inr z10 => some (z10))
set_option maxHeartbeats 4000000 in
set_option maxRecDepth 20000 in
theorem t_X1_faultPlace {g : Nat → Option Nat} {S : List SC} (hS : Wf g S) {σ : St} {Q : QT}  (h : ok (f_X1_faultPlace  σ) (fun r => Q (some (.int r)) S σ)) : AW MX1_faultPlace E0 rmX1_faultPlace 0 0 Q 0 0 S σ 0 [(0, .ref 18)] [] := by
  unfold f_X1_faultPlace at h
  refine aw_run tTX1_faultPlace 4 (pc2 := 4) (L2 := [(2, .int 0), (1, .int 0), (0, .ref 18)]) (st2 := []) rfl ?_
  refine ok_use (P := fun z10 : (Int32) ⊕ (Int32) => match z10 with
    | .inl z3 => AW MX1_faultPlace E0 rmX1_faultPlace 0 0 Q 0 0 S σ 81 [(0, .ref 18), (1, .int z3)] []
    | .inr z10 => Q (some (.int z10)) S σ) (ok_b h) (fun z10 h => ?_) (fun h => ?_)
  · cases z10 with
    | inl z3 =>
      refine aw_run tTX1_faultPlace 1 (pc2 := 82) (L2 := [(0, .ref 18), (1, .int z3)]) (st2 := [.int z3]) rfl ?_
      refine aw_if_eq tTX1_faultPlace rfl 92 85 rfl rfl (fun hc => ?_) (fun hc => ?_)
      · have h := ok_t hc h
        refine aw_run tTX1_faultPlace 1 (pc2 := 94) (L2 := [(0, .ref 18), (1, .int z3)]) (st2 := [.int (-6 : Int32)]) rfl ?_
        have h := ok_r h
        exact aw_ir tTX1_faultPlace rfl rfl rfl (Nat.le_refl _) (Nat.le_refl _) h
      · have h := ok_f hc h
        refine aw_run tTX1_faultPlace 1 (pc2 := 86) (L2 := [(0, .ref 18), (1, .int z3)]) (st2 := [.ref 18]) rfl ?_
        refine aw_getI tTX1_faultPlace rfl 89 rfl (w_18 hS) rfl flX1_15 ?_
        refine aw_run tTX1_faultPlace 1 (pc2 := 94) (L2 := [(0, .ref 18), (1, .int z3)]) (st2 := [.int (σ 18 1)]) rfl ?_
        have h := ok_r h
        exact aw_ir tTX1_faultPlace rfl rfl rfl (Nat.le_refl _) (Nat.le_refl _) h
    | inr z10 =>
      have h := ok_r h
      exact h
  · refine aw_sub [2, 1, 0] rfl ?_
    refine loop_P (P := fun s : Int32 × Int32 => AW MX1_faultPlace E0 rmX1_faultPlace 0 0 Q 0 0 S σ 4 [(0, .ref 18), (1, .int s.1), (2, .int s.2)] []) (fun s h => ?_) _ _ h
    obtain ⟨y1, y2⟩ := s
    replace h : ok (l_X1_faultPlace_4 σ y1 y2) _ := h
    unfold l_X1_faultPlace_4 at h
    show AW MX1_faultPlace E0 rmX1_faultPlace 0 0 Q 0 0 S σ 4 [(0, .ref 18), (1, .int y1), (2, .int y2)] []
    refine aw_run tTX1_faultPlace 2 (pc2 := 6) (L2 := [(0, .ref 18), (1, .int y1), (2, .int y2)]) (st2 := [.ref 18, .int y2]) rfl ?_
    refine aw_getI tTX1_faultPlace rfl 9 rfl (w_18 hS) rfl flX1_15 ?_
    refine aw_icmp_ge tTX1_faultPlace rfl 81 12 rfl rfl (fun hc => ?_) (fun hc => ?_)
    · have h := ok_t hc h
      refine aw_sub [0, 1] rfl ?_
      have h := ok_r h
      exact h
    · have h := ok_f hc h
      refine aw_run tTX1_faultPlace 1 (pc2 := 13) (L2 := [(0, .ref 18), (1, .int y1), (2, .int y2)]) (st2 := [.ref 18]) rfl ?_
      refine aw_getR tTX1_faultPlace rfl 16 rfl (w_18 hS) rfl flX1_9 ?_
      refine aw_run tTX1_faultPlace 1 (pc2 := 17) (L2 := [(0, .ref 18), (1, .int y1), (2, .int y2)]) (st2 := [.int y2, .ref 19]) rfl ?_
      obtain ⟨hi, h⟩ := ok_gi h
      refine aw_iald tTX1_faultPlace rfl 18 rfl (w_19 hS) hi ?_
      refine aw_run tTX1_faultPlace 2 (pc2 := 20) (L2 := [(3, .int (σ 19 y2.toNatClampNeg)), (0, .ref 18), (1, .int y1), (2, .int y2)]) (st2 := [.int y1]) rfl ?_
      refine ok_use (P := fun j4 : Int32 => AW MX1_faultPlace E0 rmX1_faultPlace 0 0 Q 0 0 S σ 49 [(0, .ref 18), (1, .int y1), (2, .int y2), (3, .int (σ 19 y2.toNatClampNeg))] [.int j4]) (ok_b h) (fun j4 h => ?_) (fun h => ?_)
      · refine aw_run tTX1_faultPlace 2 (pc2 := 53) (L2 := [(4, .int j4), (0, .ref 18), (1, .int y1), (2, .int y2), (3, .int (σ 19 y2.toNatClampNeg))]) (st2 := [.int j4]) rfl ?_
        refine aw_if_ne tTX1_faultPlace rfl 58 56 rfl rfl (fun hc => ?_) (fun hc => ?_)
        · have h := ok_t hc h
          refine aw_run tTX1_faultPlace 1 (pc2 := 59) (L2 := [(4, .int j4), (0, .ref 18), (1, .int y1), (2, .int y2), (3, .int (σ 19 y2.toNatClampNeg))]) (st2 := [.int y1]) rfl ?_
          refine ok_use (P := fun j5 : Int32 => AW MX1_faultPlace E0 rmX1_faultPlace 0 0 Q 0 0 S σ 74 [(0, .ref 18), (2, .int y2)] [.int j5]) (ok_b h) (fun j5 h => ?_) (fun h => ?_)
          · refine aw_run tTX1_faultPlace 3 (pc2 := 4) (L2 := [(2, .int (y2 + 1)), (1, .int j5), (0, .ref 18)]) (st2 := []) rfl ?_
            refine aw_sub [2, 1, 0] rfl ?_
            have h := ok_r h
            exact h
          · refine aw_if_ne tTX1_faultPlace rfl 73 62 rfl rfl (fun hc => ?_) (fun hc => ?_)
            · have h := ok_t hc h
              refine aw_run tTX1_faultPlace 1 (pc2 := 74) (L2 := [(4, .int j4), (0, .ref 18), (1, .int y1), (2, .int y2), (3, .int (σ 19 y2.toNatClampNeg))]) (st2 := [.int 0]) rfl ?_
              refine aw_sub [1, 3] rfl ?_
              have h := ok_r h
              exact h
            · have h := ok_fn hc h
              refine aw_run tTX1_faultPlace 1 (pc2 := 63) (L2 := [(4, .int j4), (0, .ref 18), (1, .int y1), (2, .int y2), (3, .int (σ 19 y2.toNatClampNeg))]) (st2 := [.int (σ 19 y2.toNatClampNeg)]) rfl ?_
              obtain ⟨r6, er6, h⟩ := ok_b h
              refine aw_cS tTX1_faultPlace rfl 66 rfl (M' := MX1_isLetter) (av := [.int (σ 19 y2.toNatClampNeg)]) (rest := []) rfl lkX1_29 hMX1_isLetter rfl (s_X1_isLetter hS er6) ⟨rfl, rfl, ⟨by decide, by decide⟩, by decide, by decide⟩ (Nat.le_of_ble_eq_true rfl) 46 (wf_len hS) rfl [.int r6] rfl ?_
              refine aw_if_eq tTX1_faultPlace rfl 73 69 rfl rfl (fun hc => ?_) (fun hc => ?_)
              · have h := ok_t hc h
                refine aw_run tTX1_faultPlace 1 (pc2 := 74) (L2 := [(4, .int j4), (0, .ref 18), (1, .int y1), (2, .int y2), (3, .int (σ 19 y2.toNatClampNeg))]) (st2 := [.int 0]) rfl ?_
                refine aw_sub [1, 3] rfl ?_
                have h := ok_r h
                exact h
              · have h := ok_f hc h
                refine aw_run tTX1_faultPlace 2 (pc2 := 74) (L2 := [(4, .int j4), (0, .ref 18), (1, .int y1), (2, .int y2), (3, .int (σ 19 y2.toNatClampNeg))]) (st2 := [.int 1]) rfl ?_
                refine aw_sub [1, 3] rfl ?_
                have h := ok_r h
                exact h
        · have h := ok_fn hc h
          refine aw_run tTX1_faultPlace 1 (pc2 := 57) (L2 := [(4, .int j4), (0, .ref 18), (1, .int y1), (2, .int y2), (3, .int (σ 19 y2.toNatClampNeg))]) (st2 := [.int y2]) rfl ?_
          have h := ok_r h
          exact aw_ir tTX1_faultPlace rfl rfl rfl (Nat.le_refl _) (Nat.le_refl _) h
      · refine aw_if_eq tTX1_faultPlace rfl 30 23 rfl rfl (fun hc => ?_) (fun hc => ?_)
        · have h := ok_t hc h
          refine aw_run tTX1_faultPlace 1 (pc2 := 31) (L2 := [(3, .int (σ 19 y2.toNatClampNeg)), (0, .ref 18), (1, .int y1), (2, .int y2)]) (st2 := [.int (σ 19 y2.toNatClampNeg)]) rfl ?_
          obtain ⟨r7, er7, h⟩ := ok_b h
          refine aw_cS tTX1_faultPlace rfl 34 rfl (M' := MX1_isLetter) (av := [.int (σ 19 y2.toNatClampNeg)]) (rest := []) rfl lkX1_29 hMX1_isLetter rfl (s_X1_isLetter hS er7) ⟨rfl, rfl, ⟨by decide, by decide⟩, by decide, by decide⟩ (Nat.le_of_ble_eq_true rfl) 46 (wf_len hS) rfl [.int r7] rfl ?_
          refine aw_if_ne tTX1_faultPlace rfl 44 37 rfl rfl (fun hc => ?_) (fun hc => ?_)
          · have h := ok_t hc h
            refine aw_run tTX1_faultPlace 2 (pc2 := 49) (L2 := [(3, .int (σ 19 y2.toNatClampNeg)), (0, .ref 18), (1, .int y1), (2, .int y2)]) (st2 := [.int 1]) rfl ?_
            refine aw_sub [1, 2, 3, 0] rfl ?_
            have h := ok_r h
            exact h
          · have h := ok_fn hc h
            refine aw_run tTX1_faultPlace 1 (pc2 := 38) (L2 := [(3, .int (σ 19 y2.toNatClampNeg)), (0, .ref 18), (1, .int y1), (2, .int y2)]) (st2 := [.int (σ 19 y2.toNatClampNeg)]) rfl ?_
            obtain ⟨r8, er8, h⟩ := ok_b h
            refine aw_cS tTX1_faultPlace rfl 41 rfl (M' := MX1_standsAlone) (av := [.int (σ 19 y2.toNatClampNeg)]) (rest := []) rfl lkX1_32 hMX1_standsAlone rfl (s_X1_standsAlone hS er8) ⟨rfl, rfl, ⟨by decide, by decide⟩, by decide, by decide⟩ (Nat.le_of_ble_eq_true rfl) 46 (wf_len hS) rfl [.int r8] rfl ?_
            refine aw_if_eq tTX1_faultPlace rfl 48 44 rfl rfl (fun hc => ?_) (fun hc => ?_)
            · have h := ok_t hc h
              refine aw_run tTX1_faultPlace 1 (pc2 := 49) (L2 := [(3, .int (σ 19 y2.toNatClampNeg)), (0, .ref 18), (1, .int y1), (2, .int y2)]) (st2 := [.int 0]) rfl ?_
              refine aw_sub [1, 2, 3, 0] rfl ?_
              have h := ok_r h
              exact h
            · have h := ok_f hc h
              refine aw_run tTX1_faultPlace 2 (pc2 := 49) (L2 := [(3, .int (σ 19 y2.toNatClampNeg)), (0, .ref 18), (1, .int y1), (2, .int y2)]) (st2 := [.int 1]) rfl ?_
              refine aw_sub [1, 2, 3, 0] rfl ?_
              have h := ok_r h
              exact h
        · have h := ok_f hc h
          refine aw_run tTX1_faultPlace 1 (pc2 := 24) (L2 := [(3, .int (σ 19 y2.toNatClampNeg)), (0, .ref 18), (1, .int y1), (2, .int y2)]) (st2 := [.int (σ 19 y2.toNatClampNeg)]) rfl ?_
          obtain ⟨r9, er9, h⟩ := ok_b h
          refine aw_cS tTX1_faultPlace rfl 27 rfl (M' := MX1_endsAct) (av := [.int (σ 19 y2.toNatClampNeg)]) (rest := []) rfl lkX1_25 hMX1_endsAct rfl (s_X1_endsAct hS er9) ⟨rfl, rfl, ⟨by decide, by decide⟩, by decide, by decide⟩ (Nat.le_of_ble_eq_true rfl) 46 (wf_len hS) rfl [.int r9] rfl ?_
          refine aw_run tTX1_faultPlace 1 (pc2 := 49) (L2 := [(3, .int (σ 19 y2.toNatClampNeg)), (0, .ref 18), (1, .int y1), (2, .int y2)]) (st2 := [.int r9]) rfl ?_
          refine aw_sub [1, 2, 3, 0] rfl ?_
          have h := ok_r h
          exact h
theorem s_X1_faultPlace {g : Nat → Option Nat} {S : List SC} (hS : Wf g S) {σ : St}  {r : Int32} (e : f_X1_faultPlace  σ = some r) : Fn MX1_faultPlace rmX1_faultPlace [.ref 18] S σ (some (.int r)) σ := Sp.of (by decide) (Nat.le_of_ble_eq_true rfl) (t_X1_faultPlace hS  ⟨r, e, rfl, rfl, rfl⟩)
def l_X1_runOn_15  (y3 : Int32) (y4 : Int32) (σ5 : St) : Option ((Int32 × Int32 × St) ⊕ ((St) ⊕ (Int32 × St))) := if (σ5 18 1) ≤ y4 then (some (.inr (.inl σ5))) else (gi y4 60 (if ¬ y3 = (-6 : Int32) then (Option.bind (f_X1_isLetter (σ5 19 y4.toNatClampNeg)) (fun r7 => Option.bind (α := Int32) (if r7 = 0 then (some (σ5 19 y4.toNatClampNeg)) else (some 0)) (fun (j8 : Int32) => Option.bind (f_X0_tryAct 9 j8 y3 ((σ5 19 y4.toNatClampNeg) - 65) σ5) (fun r9 => nm (up2 r9.2 18 3 r9.1) (fun σ10 => if (σ10 18 3) = 0 then (nm (up2 σ10 18 2 ((σ10 18 2) + 1)) (fun σ11 => some (.inl ((-6 : Int32), y4 + 1, σ11)))) else (some (.inr (.inr ((0, σ10)))))))))) else (Option.bind (f_X1_isLetter (σ5 19 y4.toNatClampNeg)) (fun r12 => if r12 = 0 then (Option.bind (f_X1_isLetter (σ5 19 y4.toNatClampNeg)) (fun r13 => Option.bind (α := Int32) (if r13 = 0 then (some (σ5 19 y4.toNatClampNeg)) else (some 0)) (fun (j14 : Int32) => Option.bind (f_X0_tryAct 9 j14 y3 ((σ5 19 y4.toNatClampNeg) - 65) σ5) (fun r15 => nm (up2 r15.2 18 3 r15.1) (fun σ16 => if (σ16 18 3) = 0 then (nm (up2 σ16 18 2 ((σ16 18 2) + 1)) (fun σ17 => some (.inl ((-6 : Int32), y4 + 1, σ17)))) else (some (.inr (.inr ((0, σ16)))))))))) else (nm ((σ5 19 y4.toNatClampNeg) - 65) (fun (x18 : Int32) => some (.inl (x18, y4 + 1, σ5))))))))
def f_X1_runOn  (σ : St) : Option (Int32 × St) := nm (up2 σ 18 2 0) (fun σ1 => nm (up2 σ1 18 3 0) (fun σ2 => Option.bind (loop (fun s : Int32 × Int32 × St => l_X1_runOn_15  s.1 s.2.1 s.2.2) 400 ((-6 : Int32), 0, σ2)) (fun z19 => match z19 with
    | .inl z6 => some ((1, z6))
    | .inr z19 => some (z19))))
set_option maxHeartbeats 4000000 in
set_option maxRecDepth 20000 in
theorem t_X1_runOn {g : Nat → Option Nat} {S : List SC} (hS : Wf g S) {σ : St} {Q : QT}  (h : ok (f_X1_runOn  σ) (fun r => Q (some (.int r.1)) S r.2)) : AW MX1_runOn E0 rmX1_runOn 0 0 Q 0 0 S σ 0 [(0, .ref 18), (1, .ref 9)] [] := by
  unfold f_X1_runOn at h
  refine aw_run tTX1_runOn 2 (pc2 := 2) (L2 := [(0, .ref 18), (1, .ref 9)]) (st2 := [.int 0, .ref 18]) rfl ?_
  refine aw_putI tTX1_runOn rfl 5 rfl (w_18 hS) rfl fpX1_19 ?_
  refine aw_nmS (fun σ1 eσ1 => ?_)
  have h := ok_nm h σ1 eσ1
  refine aw_run tTX1_runOn 2 (pc2 := 7) (L2 := [(0, .ref 18), (1, .ref 9)]) (st2 := [.int 0, .ref 18]) rfl ?_
  refine aw_putI tTX1_runOn rfl 10 rfl (w_18 hS) rfl fpX1_22 ?_
  refine aw_nmS (fun σ2 eσ2 => ?_)
  have h := ok_nm h σ2 eσ2
  refine aw_run tTX1_runOn 4 (pc2 := 15) (L2 := [(3, .int 0), (2, .int (-6 : Int32)), (0, .ref 18), (1, .ref 9)]) (st2 := []) rfl ?_
  refine ok_use (P := fun z19 : (St) ⊕ (Int32 × St) => match z19 with
    | .inl z6 => AW MX1_runOn E0 rmX1_runOn 0 0 Q 0 0 S z6 114 [] []
    | .inr z19 => Q (some (.int z19.1)) S z19.2) (ok_b h) (fun z19 h => ?_) (fun h => ?_)
  · cases z19 with
    | inl z6 =>
      refine aw_run tTX1_runOn 1 (pc2 := 115) (L2 := []) (st2 := [.int 1]) rfl ?_
      have h := ok_r h
      exact aw_ir tTX1_runOn rfl rfl rfl (Nat.le_refl _) (Nat.le_refl _) h
    | inr z19 =>
      have h := ok_r h
      exact h
  · refine aw_sub [2, 3, 1, 0] rfl ?_
    refine loop_P (P := fun s : Int32 × Int32 × St => AW MX1_runOn E0 rmX1_runOn 0 0 Q 0 0 S s.2.2 15 [(0, .ref 18), (1, .ref 9), (2, .int s.1), (3, .int s.2.1)] []) (fun s h => ?_) _ _ h
    obtain ⟨y3, y4, σ5⟩ := s
    replace h : ok (l_X1_runOn_15  y3 y4 σ5) _ := h
    unfold l_X1_runOn_15 at h
    show AW MX1_runOn E0 rmX1_runOn 0 0 Q 0 0 S σ5 15 [(0, .ref 18), (1, .ref 9), (2, .int y3), (3, .int y4)] []
    refine aw_run tTX1_runOn 2 (pc2 := 17) (L2 := [(0, .ref 18), (1, .ref 9), (2, .int y3), (3, .int y4)]) (st2 := [.ref 18, .int y4]) rfl ?_
    refine aw_getI tTX1_runOn rfl 20 rfl (w_18 hS) rfl flX1_15 ?_
    refine aw_icmp_ge tTX1_runOn rfl 114 23 rfl rfl (fun hc => ?_) (fun hc => ?_)
    · have h := ok_t hc h
      refine aw_sub [] rfl ?_
      have h := ok_r h
      exact h
    · have h := ok_f hc h
      refine aw_run tTX1_runOn 1 (pc2 := 24) (L2 := [(0, .ref 18), (1, .ref 9), (2, .int y3), (3, .int y4)]) (st2 := [.ref 18]) rfl ?_
      refine aw_getR tTX1_runOn rfl 27 rfl (w_18 hS) rfl flX1_9 ?_
      refine aw_run tTX1_runOn 1 (pc2 := 28) (L2 := [(0, .ref 18), (1, .ref 9), (2, .int y3), (3, .int y4)]) (st2 := [.int y4, .ref 19]) rfl ?_
      obtain ⟨hi, h⟩ := ok_gi h
      refine aw_iald tTX1_runOn rfl 29 rfl (w_19 hS) hi ?_
      refine aw_run tTX1_runOn 3 (pc2 := 34) (L2 := [(4, .int (σ5 19 y4.toNatClampNeg)), (0, .ref 18), (1, .ref 9), (2, .int y3), (3, .int y4)]) (st2 := [.int (-6 : Int32), .int y3]) rfl ?_
      refine aw_icmp_ne tTX1_runOn rfl 54 37 rfl rfl (fun hc => ?_) (fun hc => ?_)
      · have h := ok_t hc h
        refine aw_run tTX1_runOn 1 (pc2 := 56) (L2 := [(4, .int (σ5 19 y4.toNatClampNeg)), (0, .ref 18), (1, .ref 9), (2, .int y3), (3, .int y4)]) (st2 := [.int (σ5 19 y4.toNatClampNeg)]) rfl ?_
        obtain ⟨r7, er7, h⟩ := ok_b h
        refine aw_cS tTX1_runOn rfl 59 rfl (M' := MX1_isLetter) (av := [.int (σ5 19 y4.toNatClampNeg)]) (rest := []) rfl lkX1_29 hMX1_isLetter rfl (s_X1_isLetter hS er7) ⟨rfl, rfl, ⟨by decide, by decide⟩, by decide, by decide⟩ (Nat.le_of_ble_eq_true rfl) 46 (wf_len hS) rfl [.int r7] rfl ?_
        refine ok_use (P := fun j8 : Int32 => AW MX1_runOn E0 rmX1_runOn 0 0 Q 0 0 S σ5 68 [(0, .ref 18), (1, .ref 9), (2, .int y3), (3, .int y4), (4, .int (σ5 19 y4.toNatClampNeg))] [.int j8]) (ok_b h) (fun j8 h => ?_) (fun h => ?_)
        · refine aw_run tTX1_runOn 8 (pc2 := 80) (L2 := [(5, .int j8), (0, .ref 18), (1, .ref 9), (2, .int y3), (3, .int y4), (4, .int (σ5 19 y4.toNatClampNeg))]) (st2 := [.int ((σ5 19 y4.toNatClampNeg) - 65), .int y3, .int j8, .ref 9, .ref 18]) rfl ?_
          obtain ⟨r9, er9, h⟩ := ok_b h
          refine aw_cV tTX1_runOn rfl 83 rfl (M' := MX0_tryAct) (av := [.int j8, .int y3, .int ((σ5 19 y4.toNatClampNeg) - 65)]) (rest := [.ref 18]) rfl lkX1_35 hMX0_tryAct rfl (w_9 hS) ⟨_, _, rfl⟩ (s_X0_tryAct hS er9) ⟨rfl, rfl, ⟨by decide, by decide⟩, by decide, by decide⟩ (Nat.le_of_ble_eq_true rfl) 46 (wf_len hS) rfl [.int r9.1, .ref 18] rfl ?_
          refine aw_putI tTX1_runOn rfl 86 rfl (w_18 hS) rfl fpX1_22 ?_
          refine aw_nmS (fun σ10 eσ10 => ?_)
          have h := ok_nm h σ10 eσ10
          refine aw_run tTX1_runOn 1 (pc2 := 87) (L2 := [(5, .int j8), (0, .ref 18), (1, .ref 9), (2, .int y3), (3, .int y4), (4, .int (σ5 19 y4.toNatClampNeg))]) (st2 := [.ref 18]) rfl ?_
          refine aw_getI tTX1_runOn rfl 90 rfl (w_18 hS) rfl flX1_22 ?_
          refine aw_if_eq tTX1_runOn rfl 95 93 rfl rfl (fun hc => ?_) (fun hc => ?_)
          · have h := ok_t hc h
            refine aw_run tTX1_runOn 2 (pc2 := 97) (L2 := [(5, .int j8), (0, .ref 18), (1, .ref 9), (2, .int y3), (3, .int y4), (4, .int (σ5 19 y4.toNatClampNeg))]) (st2 := [.ref 18, .ref 18]) rfl ?_
            refine aw_getI tTX1_runOn rfl 100 rfl (w_18 hS) rfl flX1_19 ?_
            refine aw_run tTX1_runOn 2 (pc2 := 102) (L2 := [(5, .int j8), (0, .ref 18), (1, .ref 9), (2, .int y3), (3, .int y4), (4, .int (σ5 19 y4.toNatClampNeg))]) (st2 := [.int ((σ10 18 2) + 1), .ref 18]) rfl ?_
            refine aw_putI tTX1_runOn rfl 105 rfl (w_18 hS) rfl fpX1_19 ?_
            refine aw_nmS (fun σ11 eσ11 => ?_)
            have h := ok_nm h σ11 eσ11
            refine aw_run tTX1_runOn 4 (pc2 := 15) (L2 := [(3, .int (y4 + 1)), (2, .int (-6 : Int32)), (5, .int j8), (0, .ref 18), (1, .ref 9), (4, .int (σ5 19 y4.toNatClampNeg))]) (st2 := []) rfl ?_
            refine aw_sub [3, 4, 1, 0] rfl ?_
            have h := ok_r h
            exact h
          · have h := ok_f hc h
            refine aw_run tTX1_runOn 1 (pc2 := 94) (L2 := [(5, .int j8), (0, .ref 18), (1, .ref 9), (2, .int y3), (3, .int y4), (4, .int (σ5 19 y4.toNatClampNeg))]) (st2 := [.int 0]) rfl ?_
            have h := ok_r h
            exact aw_ir tTX1_runOn rfl rfl rfl (Nat.le_refl _) (Nat.le_refl _) h
        · refine aw_if_eq tTX1_runOn rfl 66 62 rfl rfl (fun hc => ?_) (fun hc => ?_)
          · have h := ok_t hc h
            refine aw_run tTX1_runOn 1 (pc2 := 68) (L2 := [(4, .int (σ5 19 y4.toNatClampNeg)), (0, .ref 18), (1, .ref 9), (2, .int y3), (3, .int y4)]) (st2 := [.int (σ5 19 y4.toNatClampNeg)]) rfl ?_
            refine aw_sub [1, 2, 3, 4, 0] rfl ?_
            have h := ok_r h
            exact h
          · have h := ok_f hc h
            refine aw_run tTX1_runOn 2 (pc2 := 68) (L2 := [(4, .int (σ5 19 y4.toNatClampNeg)), (0, .ref 18), (1, .ref 9), (2, .int y3), (3, .int y4)]) (st2 := [.int 0]) rfl ?_
            refine aw_sub [1, 2, 3, 4, 0] rfl ?_
            have h := ok_r h
            exact h
      · have h := ok_fn hc h
        refine aw_run tTX1_runOn 1 (pc2 := 39) (L2 := [(4, .int (σ5 19 y4.toNatClampNeg)), (0, .ref 18), (1, .ref 9), (2, .int y3), (3, .int y4)]) (st2 := [.int (σ5 19 y4.toNatClampNeg)]) rfl ?_
        obtain ⟨r12, er12, h⟩ := ok_b h
        refine aw_cS tTX1_runOn rfl 42 rfl (M' := MX1_isLetter) (av := [.int (σ5 19 y4.toNatClampNeg)]) (rest := []) rfl lkX1_29 hMX1_isLetter rfl (s_X1_isLetter hS er12) ⟨rfl, rfl, ⟨by decide, by decide⟩, by decide, by decide⟩ (Nat.le_of_ble_eq_true rfl) 46 (wf_len hS) rfl [.int r12] rfl ?_
        refine aw_if_eq tTX1_runOn rfl 54 45 rfl rfl (fun hc => ?_) (fun hc => ?_)
        · have h := ok_t hc h
          refine aw_run tTX1_runOn 1 (pc2 := 56) (L2 := [(4, .int (σ5 19 y4.toNatClampNeg)), (0, .ref 18), (1, .ref 9), (2, .int y3), (3, .int y4)]) (st2 := [.int (σ5 19 y4.toNatClampNeg)]) rfl ?_
          obtain ⟨r13, er13, h⟩ := ok_b h
          refine aw_cS tTX1_runOn rfl 59 rfl (M' := MX1_isLetter) (av := [.int (σ5 19 y4.toNatClampNeg)]) (rest := []) rfl lkX1_29 hMX1_isLetter rfl (s_X1_isLetter hS er13) ⟨rfl, rfl, ⟨by decide, by decide⟩, by decide, by decide⟩ (Nat.le_of_ble_eq_true rfl) 46 (wf_len hS) rfl [.int r13] rfl ?_
          refine ok_use (P := fun j14 : Int32 => AW MX1_runOn E0 rmX1_runOn 0 0 Q 0 0 S σ5 68 [(0, .ref 18), (1, .ref 9), (2, .int y3), (3, .int y4), (4, .int (σ5 19 y4.toNatClampNeg))] [.int j14]) (ok_b h) (fun j14 h => ?_) (fun h => ?_)
          · refine aw_run tTX1_runOn 8 (pc2 := 80) (L2 := [(5, .int j14), (0, .ref 18), (1, .ref 9), (2, .int y3), (3, .int y4), (4, .int (σ5 19 y4.toNatClampNeg))]) (st2 := [.int ((σ5 19 y4.toNatClampNeg) - 65), .int y3, .int j14, .ref 9, .ref 18]) rfl ?_
            obtain ⟨r15, er15, h⟩ := ok_b h
            refine aw_cV tTX1_runOn rfl 83 rfl (M' := MX0_tryAct) (av := [.int j14, .int y3, .int ((σ5 19 y4.toNatClampNeg) - 65)]) (rest := [.ref 18]) rfl lkX1_35 hMX0_tryAct rfl (w_9 hS) ⟨_, _, rfl⟩ (s_X0_tryAct hS er15) ⟨rfl, rfl, ⟨by decide, by decide⟩, by decide, by decide⟩ (Nat.le_of_ble_eq_true rfl) 46 (wf_len hS) rfl [.int r15.1, .ref 18] rfl ?_
            refine aw_putI tTX1_runOn rfl 86 rfl (w_18 hS) rfl fpX1_22 ?_
            refine aw_nmS (fun σ16 eσ16 => ?_)
            have h := ok_nm h σ16 eσ16
            refine aw_run tTX1_runOn 1 (pc2 := 87) (L2 := [(5, .int j14), (0, .ref 18), (1, .ref 9), (2, .int y3), (3, .int y4), (4, .int (σ5 19 y4.toNatClampNeg))]) (st2 := [.ref 18]) rfl ?_
            refine aw_getI tTX1_runOn rfl 90 rfl (w_18 hS) rfl flX1_22 ?_
            refine aw_if_eq tTX1_runOn rfl 95 93 rfl rfl (fun hc => ?_) (fun hc => ?_)
            · have h := ok_t hc h
              refine aw_run tTX1_runOn 2 (pc2 := 97) (L2 := [(5, .int j14), (0, .ref 18), (1, .ref 9), (2, .int y3), (3, .int y4), (4, .int (σ5 19 y4.toNatClampNeg))]) (st2 := [.ref 18, .ref 18]) rfl ?_
              refine aw_getI tTX1_runOn rfl 100 rfl (w_18 hS) rfl flX1_19 ?_
              refine aw_run tTX1_runOn 2 (pc2 := 102) (L2 := [(5, .int j14), (0, .ref 18), (1, .ref 9), (2, .int y3), (3, .int y4), (4, .int (σ5 19 y4.toNatClampNeg))]) (st2 := [.int ((σ16 18 2) + 1), .ref 18]) rfl ?_
              refine aw_putI tTX1_runOn rfl 105 rfl (w_18 hS) rfl fpX1_19 ?_
              refine aw_nmS (fun σ17 eσ17 => ?_)
              have h := ok_nm h σ17 eσ17
              refine aw_run tTX1_runOn 4 (pc2 := 15) (L2 := [(3, .int (y4 + 1)), (2, .int (-6 : Int32)), (5, .int j14), (0, .ref 18), (1, .ref 9), (4, .int (σ5 19 y4.toNatClampNeg))]) (st2 := []) rfl ?_
              refine aw_sub [3, 4, 1, 0] rfl ?_
              have h := ok_r h
              exact h
            · have h := ok_f hc h
              refine aw_run tTX1_runOn 1 (pc2 := 94) (L2 := [(5, .int j14), (0, .ref 18), (1, .ref 9), (2, .int y3), (3, .int y4), (4, .int (σ5 19 y4.toNatClampNeg))]) (st2 := [.int 0]) rfl ?_
              have h := ok_r h
              exact aw_ir tTX1_runOn rfl rfl rfl (Nat.le_refl _) (Nat.le_refl _) h
          · refine aw_if_eq tTX1_runOn rfl 66 62 rfl rfl (fun hc => ?_) (fun hc => ?_)
            · have h := ok_t hc h
              refine aw_run tTX1_runOn 1 (pc2 := 68) (L2 := [(4, .int (σ5 19 y4.toNatClampNeg)), (0, .ref 18), (1, .ref 9), (2, .int y3), (3, .int y4)]) (st2 := [.int (σ5 19 y4.toNatClampNeg)]) rfl ?_
              refine aw_sub [1, 2, 3, 4, 0] rfl ?_
              have h := ok_r h
              exact h
            · have h := ok_f hc h
              refine aw_run tTX1_runOn 2 (pc2 := 68) (L2 := [(4, .int (σ5 19 y4.toNatClampNeg)), (0, .ref 18), (1, .ref 9), (2, .int y3), (3, .int y4)]) (st2 := [.int 0]) rfl ?_
              refine aw_sub [1, 2, 3, 4, 0] rfl ?_
              have h := ok_r h
              exact h
        · have h := ok_f hc h
          refine aw_run tTX1_runOn 3 (pc2 := 50) (L2 := [(4, .int (σ5 19 y4.toNatClampNeg)), (0, .ref 18), (1, .ref 9), (2, .int y3), (3, .int y4)]) (st2 := [.int ((σ5 19 y4.toNatClampNeg) - 65)]) rfl ?_
          refine aw_nm (fun x18 ex18 => ?_)
          have h := ok_nm h x18 ex18
          refine aw_run tTX1_runOn 1 (pc2 := 51) (L2 := [(2, .int x18), (4, .int (σ5 19 y4.toNatClampNeg)), (0, .ref 18), (1, .ref 9), (3, .int y4)]) (st2 := []) rfl ?_
          refine aw_run tTX1_runOn 3 (pc2 := 15) (L2 := [(3, .int (y4 + 1)), (2, .int x18), (4, .int (σ5 19 y4.toNatClampNeg)), (0, .ref 18), (1, .ref 9)]) (st2 := []) rfl ?_
          refine aw_sub [3, 4, 1, 0] rfl ?_
          have h := ok_r h
          exact h
theorem s_X1_runOn {g : Nat → Option Nat} {S : List SC} (hS : Wf g S) {σ : St}  {r : Int32 × St} (e : f_X1_runOn  σ = some r) : Fn MX1_runOn rmX1_runOn [.ref 18, .ref 9] S σ (some (.int r.1)) r.2 := Sp.of (by decide) (Nat.le_of_ble_eq_true rfl) (t_X1_runOn hS  ⟨r, e, rfl, rfl, rfl⟩)
def l_X2_readNext_2  (y1 : Int32) (σ2 : St) : Option ((Int32 × St) ⊕ (St)) := if 6 ≤ y1 then (some (.inr σ2)) else (Option.bind (f_X0_mayRobOf 1 y1 σ2) (fun r4 => gi y1 6 (nm (up2 σ2 21 y1.toNatClampNeg r4) (fun σ5 => some (.inl (y1 + 1, σ5))))))
def f_X2_readNext  (σ : St) : Option (St) := Option.bind (loop (fun s : Int32 × St => l_X2_readNext_2  s.1 s.2) 400 (0, σ)) (fun (z3 : St) => some (z3))
set_option maxHeartbeats 4000000 in
set_option maxRecDepth 20000 in
theorem t_X2_readNext {g : Nat → Option Nat} {S : List SC} (hS : Wf g S) {σ : St} {Q : QT}  (h : ok (f_X2_readNext  σ) (fun r => Q none S r)) : AW MX2_readNext E0 rmX2_readNext 0 0 Q 0 0 S σ 0 [(0, .ref 20), (1, .ref 1)] [] := by
  unfold f_X2_readNext at h
  refine aw_run tTX2_readNext 2 (pc2 := 2) (L2 := [(2, .int 0), (0, .ref 20), (1, .ref 1)]) (st2 := []) rfl ?_
  refine ok_use (P := fun z3 : St => AW MX2_readNext E0 rmX2_readNext 0 0 Q 0 0 S z3 25 [] []) (ok_b h) (fun z3 h => ?_) (fun h => ?_)
  · have h := ok_r h
    exact aw_vr tTX2_readNext rfl rfl (Nat.le_refl _) (Nat.le_refl _) h
  · refine aw_sub [1, 2, 0] rfl ?_
    refine loop_P (P := fun s : Int32 × St => AW MX2_readNext E0 rmX2_readNext 0 0 Q 0 0 S s.2 2 [(0, .ref 20), (1, .ref 1), (2, .int s.1)] []) (fun s h => ?_) _ _ h
    obtain ⟨y1, σ2⟩ := s
    replace h : ok (l_X2_readNext_2  y1 σ2) _ := h
    unfold l_X2_readNext_2 at h
    show AW MX2_readNext E0 rmX2_readNext 0 0 Q 0 0 S σ2 2 [(0, .ref 20), (1, .ref 1), (2, .int y1)] []
    refine aw_run tTX2_readNext 2 (pc2 := 5) (L2 := [(0, .ref 20), (1, .ref 1), (2, .int y1)]) (st2 := [.int 6, .int y1]) rfl ?_
    refine aw_icmp_ge tTX2_readNext rfl 25 8 rfl rfl (fun hc => ?_) (fun hc => ?_)
    · have h := ok_t hc h
      refine aw_sub [] rfl ?_
      have h := ok_r h
      exact h
    · have h := ok_f hc h
      refine aw_run tTX2_readNext 1 (pc2 := 9) (L2 := [(0, .ref 20), (1, .ref 1), (2, .int y1)]) (st2 := [.ref 20]) rfl ?_
      refine aw_getR tTX2_readNext rfl 12 rfl (w_20 hS) rfl flX2_9 ?_
      refine aw_run tTX2_readNext 3 (pc2 := 15) (L2 := [(0, .ref 20), (1, .ref 1), (2, .int y1)]) (st2 := [.int y1, .ref 1, .int y1, .ref 21]) rfl ?_
      obtain ⟨r4, er4, h⟩ := ok_b h
      refine aw_cV tTX2_readNext rfl 18 rfl (M' := MX0_mayRobOf) (av := [.int y1]) (rest := [.int y1, .ref 21]) rfl lkX2_41 hMX0_mayRobOf rfl (w_1 hS) ⟨_, _, rfl⟩ (s_X0_mayRobOf hS er4) ⟨rfl, rfl, ⟨by decide, by decide⟩, by decide, by decide⟩ (Nat.le_of_ble_eq_true rfl) 46 (wf_len hS) rfl [.int r4, .int y1, .ref 21] rfl ?_
      obtain ⟨hi, h⟩ := ok_gi h
      refine aw_iast tTX2_readNext rfl 19 rfl (w_21 hS) hi ?_
      refine aw_nmS (fun σ5 eσ5 => ?_)
      have h := ok_nm h σ5 eσ5
      refine aw_run tTX2_readNext 2 (pc2 := 2) (L2 := [(2, .int (y1 + 1)), (0, .ref 20), (1, .ref 1)]) (st2 := []) rfl ?_
      refine aw_sub [1, 2, 0] rfl ?_
      have h := ok_r h
      exact h
theorem s_X2_readNext {g : Nat → Option Nat} {S : List SC} (hS : Wf g S) {σ : St}  {r : St} (e : f_X2_readNext  σ = some r) : Fn MX2_readNext rmX2_readNext [.ref 20, .ref 1] S σ none r := Sp.of (by decide) (Nat.le_of_ble_eq_true rfl) (t_X2_readNext hS  ⟨r, e, rfl, rfl, rfl⟩)
def l_X2_leadsTo_2 (a1 : Int32) (a2 : Int32) (σ : St) (y1 : Int32) : Option ((Int32) ⊕ ((Unit) ⊕ (Int32))) := if 6 ≤ y1 then (some (.inr (.inl ()))) else (Option.bind (f_X0_holds a1 y1) (fun r3 => if r3 = 0 then (some (.inl (y1 + 1))) else (gi y1 6 (if ((σ 21 y1.toNatClampNeg) &&& a2) = 0 then (some (.inl (y1 + 1))) else (some (.inr (.inr (1))))))))
def f_X2_leadsTo (a1 : Int32) (a2 : Int32) (σ : St) : Option (Int32) := Option.bind (loop (fun s : Int32 => l_X2_leadsTo_2 a1 a2 σ s) 400 0) (fun z4 => match z4 with
    | .inl z2 => some (0)
    | .inr z4 => some (z4))
set_option maxHeartbeats 4000000 in
set_option maxRecDepth 20000 in
theorem t_X2_leadsTo {g : Nat → Option Nat} {S : List SC} (hS : Wf g S) {σ : St} {Q : QT} (a1 : Int32) (a2 : Int32) (h : ok (f_X2_leadsTo a1 a2 σ) (fun r => Q (some (.int r)) S σ)) : AW MX2_leadsTo E0 rmX2_leadsTo 0 0 Q 0 0 S σ 0 [(0, .ref 20), (1, .int a1), (2, .int a2)] [] := by
  unfold f_X2_leadsTo at h
  refine aw_run tTX2_leadsTo 2 (pc2 := 2) (L2 := [(3, .int 0), (0, .ref 20), (1, .int a1), (2, .int a2)]) (st2 := []) rfl ?_
  refine ok_use (P := fun z4 : (Unit) ⊕ (Int32) => match z4 with
    | .inl z2 => AW MX2_leadsTo E0 rmX2_leadsTo 0 0 Q 0 0 S σ 35 [] []
    | .inr z4 => Q (some (.int z4)) S σ) (ok_b h) (fun z4 h => ?_) (fun h => ?_)
  · cases z4 with
    | inl z2 =>
      refine aw_run tTX2_leadsTo 1 (pc2 := 36) (L2 := []) (st2 := [.int 0]) rfl ?_
      have h := ok_r h
      exact aw_ir tTX2_leadsTo rfl rfl rfl (Nat.le_refl _) (Nat.le_refl _) h
    | inr z4 =>
      have h := ok_r h
      exact h
  · refine aw_sub [1, 2, 3, 0] rfl ?_
    refine loop_P (P := fun s : Int32 => AW MX2_leadsTo E0 rmX2_leadsTo 0 0 Q 0 0 S σ 2 [(0, .ref 20), (1, .int a1), (2, .int a2), (3, .int s)] []) (fun s h => ?_) _ _ h
    obtain ⟨y1, rfl⟩ : ∃ y, y = s := ⟨_, rfl⟩
    replace h : ok (l_X2_leadsTo_2 a1 a2 σ y1) _ := h
    unfold l_X2_leadsTo_2 at h
    show AW MX2_leadsTo E0 rmX2_leadsTo 0 0 Q 0 0 S σ 2 [(0, .ref 20), (1, .int a1), (2, .int a2), (3, .int y1)] []
    refine aw_run tTX2_leadsTo 2 (pc2 := 5) (L2 := [(0, .ref 20), (1, .int a1), (2, .int a2), (3, .int y1)]) (st2 := [.int 6, .int y1]) rfl ?_
    refine aw_icmp_ge tTX2_leadsTo rfl 35 8 rfl rfl (fun hc => ?_) (fun hc => ?_)
    · have h := ok_t hc h
      refine aw_sub [] rfl ?_
      have h := ok_r h
      exact h
    · have h := ok_f hc h
      refine aw_run tTX2_leadsTo 2 (pc2 := 10) (L2 := [(0, .ref 20), (1, .int a1), (2, .int a2), (3, .int y1)]) (st2 := [.int y1, .int a1]) rfl ?_
      obtain ⟨r3, er3, h⟩ := ok_b h
      refine aw_cS tTX2_leadsTo rfl 13 rfl (M' := MX0_holds) (av := [.int a1, .int y1]) (rest := []) rfl lkX2_54 hMX0_holds rfl (s_X0_holds hS er3) ⟨rfl, rfl, ⟨by decide, by decide⟩, by decide, by decide⟩ (Nat.le_of_ble_eq_true rfl) 46 (wf_len hS) rfl [.int r3] rfl ?_
      refine aw_if_eq tTX2_leadsTo rfl 29 16 rfl rfl (fun hc => ?_) (fun hc => ?_)
      · have h := ok_t hc h
        refine aw_run tTX2_leadsTo 2 (pc2 := 2) (L2 := [(3, .int (y1 + 1)), (0, .ref 20), (1, .int a1), (2, .int a2)]) (st2 := []) rfl ?_
        refine aw_sub [1, 2, 3, 0] rfl ?_
        have h := ok_r h
        exact h
      · have h := ok_f hc h
        refine aw_run tTX2_leadsTo 1 (pc2 := 17) (L2 := [(0, .ref 20), (1, .int a1), (2, .int a2), (3, .int y1)]) (st2 := [.ref 20]) rfl ?_
        refine aw_getR tTX2_leadsTo rfl 20 rfl (w_20 hS) rfl flX2_9 ?_
        refine aw_run tTX2_leadsTo 1 (pc2 := 21) (L2 := [(0, .ref 20), (1, .int a1), (2, .int a2), (3, .int y1)]) (st2 := [.int y1, .ref 21]) rfl ?_
        obtain ⟨hi, h⟩ := ok_gi h
        refine aw_iald tTX2_leadsTo rfl 22 rfl (w_21 hS) hi ?_
        refine aw_run tTX2_leadsTo 2 (pc2 := 24) (L2 := [(0, .ref 20), (1, .int a1), (2, .int a2), (3, .int y1)]) (st2 := [.int ((σ 21 y1.toNatClampNeg) &&& a2)]) rfl ?_
        refine aw_if_eq tTX2_leadsTo rfl 29 27 rfl rfl (fun hc => ?_) (fun hc => ?_)
        · have h := ok_t hc h
          refine aw_run tTX2_leadsTo 2 (pc2 := 2) (L2 := [(3, .int (y1 + 1)), (0, .ref 20), (1, .int a1), (2, .int a2)]) (st2 := []) rfl ?_
          refine aw_sub [1, 2, 3, 0] rfl ?_
          have h := ok_r h
          exact h
        · have h := ok_f hc h
          refine aw_run tTX2_leadsTo 1 (pc2 := 28) (L2 := [(0, .ref 20), (1, .int a1), (2, .int a2), (3, .int y1)]) (st2 := [.int 1]) rfl ?_
          have h := ok_r h
          exact aw_ir tTX2_leadsTo rfl rfl rfl (Nat.le_refl _) (Nat.le_refl _) h
theorem s_X2_leadsTo {g : Nat → Option Nat} {S : List SC} (hS : Wf g S) {σ : St} {a1 : Int32} {a2 : Int32} {r : Int32} (e : f_X2_leadsTo a1 a2 σ = some r) : Fn MX2_leadsTo rmX2_leadsTo [.ref 20, .int a1, .int a2] S σ (some (.int r)) σ := Sp.of (by decide) (Nat.le_of_ble_eq_true rfl) (t_X2_leadsTo hS a1 a2 ⟨r, e, rfl, rfl, rfl⟩)
def l_X2_followFrom_29 (y3 : Int32) (y6 : Int32) (σ7 : St) : Option ((Int32 × St) ⊕ (St)) := if 6 ≤ y6 then (some (.inr σ7)) else (nm ((1 : Int32) <<< (y6 &&& 31)) (fun (x9 : Int32) => Option.bind (α := St) (if ¬ (y3 &&& x9) = 0 then (some σ7) else (gi y3 64 (Option.bind (f_X2_leadsTo (σ7 22 y3.toNatClampNeg) x9 σ7) (fun r11 => if r11 = 0 then (some σ7) else (gi (y3 ||| x9) 64 (gi (y3 ||| x9) 64 (nm (up2 σ7 22 (y3 ||| x9).toNatClampNeg ((σ7 22 (y3 ||| x9).toNatClampNeg) ||| x9)) (fun σ12 => some σ12)))))))) (fun (j10 : St) => some (.inl (y6 + 1, j10)))))
def l_X2_followFrom_21  (y3 : Int32) (σ4 : St) : Option ((Int32 × St) ⊕ (St)) := if 64 ≤ y3 then (some (.inr σ4)) else (Option.bind (loop (fun s : Int32 × St => l_X2_followFrom_29 y3 s.1 s.2) 400 (0, σ4)) (fun (z8 : St) => some (.inl (y3 + 1, z8))))
def f_X2_followFrom (a1 : Int32) (σ : St) : Option (St) := nm (fillS σ 22 64 0) (fun σ1 => gi ((1 : Int32) <<< (a1 &&& 31)) 64 (nm (up2 σ1 22 ((1 : Int32) <<< (a1 &&& 31)).toNatClampNeg ((1 : Int32) <<< (a1 &&& 31))) (fun σ2 => Option.bind (loop (fun s : Int32 × St => l_X2_followFrom_21  s.1 s.2) 400 (0, σ2)) (fun (z5 : St) => some (z5)))))
set_option maxHeartbeats 4000000 in
set_option maxRecDepth 20000 in
theorem t_X2_followFrom {g : Nat → Option Nat} {S : List SC} (hS : Wf g S) {σ : St} {Q : QT} (a1 : Int32) (h : ok (f_X2_followFrom a1 σ) (fun r => Q none S r)) : AW MX2_followFrom E0 rmX2_followFrom 0 0 Q 0 0 S σ 0 [(0, .ref 20), (1, .int a1)] [] := by
  unfold f_X2_followFrom at h
  refine aw_run tTX2_followFrom 1 (pc2 := 1) (L2 := [(0, .ref 20), (1, .int a1)]) (st2 := [.ref 20]) rfl ?_
  refine aw_getR tTX2_followFrom rfl 4 rfl (w_20 hS) rfl flX2_15 ?_
  refine aw_run tTX2_followFrom 1 (pc2 := 5) (L2 := [(0, .ref 20), (1, .int a1)]) (st2 := [.int 0, .ref 22]) rfl ?_
  refine aw_cS tTX2_followFrom rfl 8 rfl (M' := MJ7_fill_53178) (av := [.ref 22, .int 0]) (rest := []) rfl lkX2_44 hMJ7_fill_53178 rfl (s_fill (w_22 hS) (by decide)) ⟨rfl, rfl, ⟨by decide, by decide⟩, by decide, by decide⟩ (Nat.le_of_ble_eq_true rfl) 46 (wf_len hS) rfl [] rfl ?_
  refine aw_nmS (fun σ1 eσ1 => ?_)
  have h := ok_nm h σ1 eσ1
  refine aw_run tTX2_followFrom 1 (pc2 := 9) (L2 := [(0, .ref 20), (1, .int a1)]) (st2 := [.ref 20]) rfl ?_
  refine aw_getR tTX2_followFrom rfl 12 rfl (w_20 hS) rfl flX2_15 ?_
  refine aw_run tTX2_followFrom 6 (pc2 := 18) (L2 := [(0, .ref 20), (1, .int a1)]) (st2 := [.int ((1 : Int32) <<< (a1 &&& 31)), .int ((1 : Int32) <<< (a1 &&& 31)), .ref 22]) rfl ?_
  obtain ⟨hi, h⟩ := ok_gi h
  refine aw_iast tTX2_followFrom rfl 19 rfl (w_22 hS) hi ?_
  refine aw_nmS (fun σ2 eσ2 => ?_)
  have h := ok_nm h σ2 eσ2
  refine aw_run tTX2_followFrom 2 (pc2 := 21) (L2 := [(2, .int 0), (0, .ref 20), (1, .int a1)]) (st2 := []) rfl ?_
  refine ok_use (P := fun z5 : St => AW MX2_followFrom E0 rmX2_followFrom 0 0 Q 0 0 S z5 88 [] []) (ok_b h) (fun z5 h => ?_) (fun h => ?_)
  · have h := ok_r h
    exact aw_vr tTX2_followFrom rfl rfl (Nat.le_refl _) (Nat.le_refl _) h
  · refine aw_sub [1, 0] rfl ?_
    refine loop_P (P := fun s : Int32 × St => AW MX2_followFrom E0 rmX2_followFrom 0 0 Q 0 0 S s.2 21 [(0, .ref 20), (2, .int s.1)] []) (fun s h => ?_) _ _ h
    obtain ⟨y3, σ4⟩ := s
    replace h : ok (l_X2_followFrom_21  y3 σ4) _ := h
    unfold l_X2_followFrom_21 at h
    show AW MX2_followFrom E0 rmX2_followFrom 0 0 Q 0 0 S σ4 21 [(0, .ref 20), (2, .int y3)] []
    refine aw_run tTX2_followFrom 2 (pc2 := 24) (L2 := [(0, .ref 20), (2, .int y3)]) (st2 := [.int 64, .int y3]) rfl ?_
    refine aw_icmp_ge tTX2_followFrom rfl 88 27 rfl rfl (fun hc => ?_) (fun hc => ?_)
    · have h := ok_t hc h
      refine aw_sub [] rfl ?_
      have h := ok_r h
      exact h
    · have h := ok_f hc h
      refine aw_run tTX2_followFrom 2 (pc2 := 29) (L2 := [(3, .int 0), (0, .ref 20), (2, .int y3)]) (st2 := []) rfl ?_
      refine ok_use (P := fun z8 : St => AW MX2_followFrom E0 rmX2_followFrom 0 0 Q 0 0 S z8 82 [(0, .ref 20), (2, .int y3)] []) (ok_b h) (fun z8 h => ?_) (fun h => ?_)
      · refine aw_run tTX2_followFrom 2 (pc2 := 21) (L2 := [(2, .int (y3 + 1)), (0, .ref 20)]) (st2 := []) rfl ?_
        refine aw_sub [1, 0] rfl ?_
        have h := ok_r h
        exact h
      · refine aw_sub [1, 2, 0] rfl ?_
        refine loop_P (P := fun s : Int32 × St => AW MX2_followFrom E0 rmX2_followFrom 0 0 Q 0 0 S s.2 29 [(0, .ref 20), (2, .int y3), (3, .int s.1)] []) (fun s h => ?_) _ _ h
        obtain ⟨y6, σ7⟩ := s
        replace h : ok (l_X2_followFrom_29 y3 y6 σ7) _ := h
        unfold l_X2_followFrom_29 at h
        show AW MX2_followFrom E0 rmX2_followFrom 0 0 Q 0 0 S σ7 29 [(0, .ref 20), (2, .int y3), (3, .int y6)] []
        refine aw_run tTX2_followFrom 2 (pc2 := 32) (L2 := [(0, .ref 20), (2, .int y3), (3, .int y6)]) (st2 := [.int 6, .int y6]) rfl ?_
        refine aw_icmp_ge tTX2_followFrom rfl 82 35 rfl rfl (fun hc => ?_) (fun hc => ?_)
        · have h := ok_t hc h
          refine aw_sub [0, 1] rfl ?_
          have h := ok_r h
          exact h
        · have h := ok_f hc h
          refine aw_run tTX2_followFrom 3 (pc2 := 38) (L2 := [(0, .ref 20), (2, .int y3), (3, .int y6)]) (st2 := [.int ((1 : Int32) <<< (y6 &&& 31))]) rfl ?_
          refine aw_nm (fun x9 ex9 => ?_)
          have h := ok_nm h x9 ex9
          refine aw_run tTX2_followFrom 1 (pc2 := 40) (L2 := [(4, .int x9), (0, .ref 20), (2, .int y3), (3, .int y6)]) (st2 := []) rfl ?_
          refine aw_run tTX2_followFrom 3 (pc2 := 44) (L2 := [(4, .int x9), (0, .ref 20), (2, .int y3), (3, .int y6)]) (st2 := [.int (y3 &&& x9)]) rfl ?_
          refine ok_use (P := fun j10 : St => AW MX2_followFrom E0 rmX2_followFrom 0 0 Q 0 0 S j10 76 [(0, .ref 20), (2, .int y3), (3, .int y6)] []) (ok_b h) (fun j10 h => ?_) (fun h => ?_)
          · refine aw_run tTX2_followFrom 2 (pc2 := 29) (L2 := [(3, .int (y6 + 1)), (0, .ref 20), (2, .int y3)]) (st2 := []) rfl ?_
            refine aw_sub [1, 2, 0] rfl ?_
            have h := ok_r h
            exact h
          · refine aw_if_ne tTX2_followFrom rfl 76 47 rfl rfl (fun hc => ?_) (fun hc => ?_)
            · have h := ok_t hc h
              refine aw_sub [1, 2, 3] rfl ?_
              have h := ok_r h
              exact h
            · have h := ok_fn hc h
              refine aw_run tTX2_followFrom 2 (pc2 := 49) (L2 := [(4, .int x9), (0, .ref 20), (2, .int y3), (3, .int y6)]) (st2 := [.ref 20, .ref 20]) rfl ?_
              refine aw_getR tTX2_followFrom rfl 52 rfl (w_20 hS) rfl flX2_15 ?_
              refine aw_run tTX2_followFrom 1 (pc2 := 53) (L2 := [(4, .int x9), (0, .ref 20), (2, .int y3), (3, .int y6)]) (st2 := [.int y3, .ref 22, .ref 20]) rfl ?_
              obtain ⟨hi, h⟩ := ok_gi h
              refine aw_iald tTX2_followFrom rfl 54 rfl (w_22 hS) hi ?_
              refine aw_run tTX2_followFrom 1 (pc2 := 56) (L2 := [(4, .int x9), (0, .ref 20), (2, .int y3), (3, .int y6)]) (st2 := [.int x9, .int (σ7 22 y3.toNatClampNeg), .ref 20]) rfl ?_
              obtain ⟨r11, er11, h⟩ := ok_b h
              refine aw_cV tTX2_followFrom rfl 59 rfl (M' := MX2_leadsTo) (av := [.int (σ7 22 y3.toNatClampNeg), .int x9]) (rest := []) rfl lkX2_50 hMX2_leadsTo rfl (w_20 hS) ⟨_, _, rfl⟩ (s_X2_leadsTo hS er11) ⟨rfl, rfl, ⟨by decide, by decide⟩, by decide, by decide⟩ (Nat.le_of_ble_eq_true rfl) 46 (wf_len hS) rfl [.int r11] rfl ?_
              refine aw_if_eq tTX2_followFrom rfl 76 62 rfl rfl (fun hc => ?_) (fun hc => ?_)
              · have h := ok_t hc h
                refine aw_sub [1, 2, 3] rfl ?_
                have h := ok_r h
                exact h
              · have h := ok_f hc h
                refine aw_run tTX2_followFrom 1 (pc2 := 63) (L2 := [(4, .int x9), (0, .ref 20), (2, .int y3), (3, .int y6)]) (st2 := [.ref 20]) rfl ?_
                refine aw_getR tTX2_followFrom rfl 66 rfl (w_20 hS) rfl flX2_15 ?_
                refine aw_run tTX2_followFrom 4 (pc2 := 71) (L2 := [(4, .int x9), (0, .ref 20), (2, .int y3), (3, .int y6)]) (st2 := [.int (y3 ||| x9), .ref 22, .int (y3 ||| x9), .ref 22]) rfl ?_
                obtain ⟨hi, h⟩ := ok_gi h
                refine aw_iald tTX2_followFrom rfl 72 rfl (w_22 hS) hi ?_
                refine aw_run tTX2_followFrom 2 (pc2 := 75) (L2 := [(4, .int x9), (0, .ref 20), (2, .int y3), (3, .int y6)]) (st2 := [.int ((σ7 22 (y3 ||| x9).toNatClampNeg) ||| x9), .int (y3 ||| x9), .ref 22]) rfl ?_
                obtain ⟨hi, h⟩ := ok_gi h
                refine aw_iast tTX2_followFrom rfl 76 rfl (w_22 hS) hi ?_
                refine aw_nmS (fun σ12 eσ12 => ?_)
                have h := ok_nm h σ12 eσ12
                refine aw_sub [1, 2, 3] rfl ?_
                have h := ok_r h
                exact h
theorem s_X2_followFrom {g : Nat → Option Nat} {S : List SC} (hS : Wf g S) {σ : St} {a1 : Int32} {r : St} (e : f_X2_followFrom a1 σ = some r) : Fn MX2_followFrom rmX2_followFrom [.ref 20, .int a1] S σ none r := Sp.of (by decide) (Nat.le_of_ble_eq_true rfl) (t_X2_followFrom hS a1 ⟨r, e, rfl, rfl, rfl⟩)
def l_X2_longestEnding_5 (a1 : Int32) (σ : St) (y1 : Int32) (y2 : Int32) : Option ((Int32 × Int32) ⊕ (Int32)) := if 64 ≤ y2 then (some (.inr y1)) else (gi y2 64 (Option.bind (α := Int32) (if ((σ 22 y2.toNatClampNeg) &&& a1) = 0 then (some y1) else (Option.bind (f_J6_bitCount_0f7a4 y2) (fun r5 => some (jmax y1 r5)))) (fun (j4 : Int32) => some (.inl (j4, y2 + 1)))))
def f_X2_longestEnding (a1 : Int32) (σ : St) : Option (Int32) := Option.bind (loop (fun s : Int32 × Int32 => l_X2_longestEnding_5 a1 σ s.1 s.2) 400 ((-6 : Int32), 0)) (fun (z3 : Int32) => some (z3))
set_option maxHeartbeats 4000000 in
set_option maxRecDepth 20000 in
theorem t_X2_longestEnding {g : Nat → Option Nat} {S : List SC} (hS : Wf g S) {σ : St} {Q : QT} (a1 : Int32) (h : ok (f_X2_longestEnding a1 σ) (fun r => Q (some (.int r)) S σ)) : AW MX2_longestEnding E0 rmX2_longestEnding 0 0 Q 0 0 S σ 0 [(0, .ref 20), (1, .int a1)] [] := by
  unfold f_X2_longestEnding at h
  refine aw_run tTX2_longestEnding 4 (pc2 := 5) (L2 := [(3, .int 0), (2, .int (-6 : Int32)), (0, .ref 20), (1, .int a1)]) (st2 := []) rfl ?_
  refine ok_use (P := fun z3 : Int32 => AW MX2_longestEnding E0 rmX2_longestEnding 0 0 Q 0 0 S σ 37 [(2, .int z3)] []) (ok_b h) (fun z3 h => ?_) (fun h => ?_)
  · refine aw_run tTX2_longestEnding 1 (pc2 := 38) (L2 := [(2, .int z3)]) (st2 := [.int z3]) rfl ?_
    have h := ok_r h
    exact aw_ir tTX2_longestEnding rfl rfl rfl (Nat.le_refl _) (Nat.le_refl _) h
  · refine aw_sub [2, 3, 1, 0] rfl ?_
    refine loop_P (P := fun s : Int32 × Int32 => AW MX2_longestEnding E0 rmX2_longestEnding 0 0 Q 0 0 S σ 5 [(0, .ref 20), (1, .int a1), (2, .int s.1), (3, .int s.2)] []) (fun s h => ?_) _ _ h
    obtain ⟨y1, y2⟩ := s
    replace h : ok (l_X2_longestEnding_5 a1 σ y1 y2) _ := h
    unfold l_X2_longestEnding_5 at h
    show AW MX2_longestEnding E0 rmX2_longestEnding 0 0 Q 0 0 S σ 5 [(0, .ref 20), (1, .int a1), (2, .int y1), (3, .int y2)] []
    refine aw_run tTX2_longestEnding 2 (pc2 := 8) (L2 := [(0, .ref 20), (1, .int a1), (2, .int y1), (3, .int y2)]) (st2 := [.int 64, .int y2]) rfl ?_
    refine aw_icmp_ge tTX2_longestEnding rfl 37 11 rfl rfl (fun hc => ?_) (fun hc => ?_)
    · have h := ok_t hc h
      refine aw_sub [2] rfl ?_
      have h := ok_r h
      exact h
    · have h := ok_f hc h
      refine aw_run tTX2_longestEnding 1 (pc2 := 12) (L2 := [(0, .ref 20), (1, .int a1), (2, .int y1), (3, .int y2)]) (st2 := [.ref 20]) rfl ?_
      refine aw_getR tTX2_longestEnding rfl 15 rfl (w_20 hS) rfl flX2_15 ?_
      refine aw_run tTX2_longestEnding 1 (pc2 := 16) (L2 := [(0, .ref 20), (1, .int a1), (2, .int y1), (3, .int y2)]) (st2 := [.int y2, .ref 22]) rfl ?_
      obtain ⟨hi, h⟩ := ok_gi h
      refine aw_iald tTX2_longestEnding rfl 17 rfl (w_22 hS) hi ?_
      refine aw_run tTX2_longestEnding 2 (pc2 := 19) (L2 := [(0, .ref 20), (1, .int a1), (2, .int y1), (3, .int y2)]) (st2 := [.int ((σ 22 y2.toNatClampNeg) &&& a1)]) rfl ?_
      refine ok_use (P := fun j4 : Int32 => AW MX2_longestEnding E0 rmX2_longestEnding 0 0 Q 0 0 S σ 31 [(0, .ref 20), (1, .int a1), (2, .int j4), (3, .int y2)] []) (ok_b h) (fun j4 h => ?_) (fun h => ?_)
      · refine aw_run tTX2_longestEnding 2 (pc2 := 5) (L2 := [(3, .int (y2 + 1)), (0, .ref 20), (1, .int a1), (2, .int j4)]) (st2 := []) rfl ?_
        refine aw_sub [1, 2, 3, 0] rfl ?_
        have h := ok_r h
        exact h
      · refine aw_if_eq tTX2_longestEnding rfl 31 22 rfl rfl (fun hc => ?_) (fun hc => ?_)
        · have h := ok_t hc h
          refine aw_sub [0, 1, 2, 3] rfl ?_
          have h := ok_r h
          exact h
        · have h := ok_f hc h
          refine aw_run tTX2_longestEnding 2 (pc2 := 24) (L2 := [(0, .ref 20), (1, .int a1), (2, .int y1), (3, .int y2)]) (st2 := [.int y2, .int y1]) rfl ?_
          obtain ⟨r5, er5, h⟩ := ok_b h
          refine aw_cS tTX2_longestEnding rfl 27 rfl (M' := MJ6_bitCount_0f7a4) (av := [.int y2]) (rest := [.int y1]) rfl lkX2_57 hMJ6_bitCount_0f7a4 rfl (s_J6_bitCount_0f7a4 hS er5) ⟨rfl, rfl, ⟨by decide, by decide⟩, by decide, by decide⟩ (Nat.le_of_ble_eq_true rfl) 46 (wf_len hS) rfl [.int r5, .int y1] rfl ?_
          refine aw_max tTX2_longestEnding rfl 30 rfl lkX2_35 (by decide) (Nat.le_of_ble_eq_true rfl) (Nat.zero_le _) (Nat.zero_le _) ?_
          refine aw_run tTX2_longestEnding 1 (pc2 := 31) (L2 := [(2, .int (jmax y1 r5)), (0, .ref 20), (1, .int a1), (3, .int y2)]) (st2 := []) rfl ?_
          refine aw_sub [1, 2, 0, 3] rfl ?_
          have h := ok_r h
          exact h
theorem s_X2_longestEnding {g : Nat → Option Nat} {S : List SC} (hS : Wf g S) {σ : St} {a1 : Int32} {r : Int32} (e : f_X2_longestEnding a1 σ = some r) : Fn MX2_longestEnding rmX2_longestEnding [.ref 20, .int a1] S σ (some (.int r)) σ := Sp.of (by decide) (Nat.le_of_ble_eq_true rfl) (t_X2_longestEnding hS a1 ⟨r, e, rfl, rfl, rfl⟩)
def f_X2_longestChain (a2 : Int32) (a3 : Int32) (σ : St) : Option (Int32 × St) := Option.bind (f_X2_readNext  σ) (fun r1 => Option.bind (f_X2_followFrom a2 r1) (fun r2 => Option.bind (f_X2_longestEnding ((1 : Int32) <<< (a3 &&& 31)) r2) (fun r3 => some ((r3, r2)))))
set_option maxHeartbeats 4000000 in
set_option maxRecDepth 20000 in
theorem t_X2_longestChain {g : Nat → Option Nat} {S : List SC} (hS : Wf g S) {σ : St} {Q : QT} (a2 : Int32) (a3 : Int32) (h : ok (f_X2_longestChain a2 a3 σ) (fun r => Q (some (.int r.1)) S r.2)) : AW MX2_longestChain E0 rmX2_longestChain 0 0 Q 0 0 S σ 0 [(0, .ref 20), (1, .ref 1), (2, .int a2), (3, .int a3)] [] := by
  unfold f_X2_longestChain at h
  refine aw_run tTX2_longestChain 2 (pc2 := 2) (L2 := [(0, .ref 20), (1, .ref 1), (2, .int a2), (3, .int a3)]) (st2 := [.ref 1, .ref 20]) rfl ?_
  obtain ⟨r1, er1, h⟩ := ok_b h
  refine aw_cV tTX2_longestChain rfl 5 rfl (M' := MX2_readNext) (av := [.ref 1]) (rest := []) rfl lkX2_18 hMX2_readNext rfl (w_20 hS) ⟨_, _, rfl⟩ (s_X2_readNext hS er1) ⟨rfl, rfl, ⟨by decide, by decide⟩, by decide, by decide⟩ (Nat.le_of_ble_eq_true rfl) 46 (wf_len hS) rfl [] rfl ?_
  refine aw_run tTX2_longestChain 2 (pc2 := 7) (L2 := [(0, .ref 20), (1, .ref 1), (2, .int a2), (3, .int a3)]) (st2 := [.int a2, .ref 20]) rfl ?_
  obtain ⟨r2, er2, h⟩ := ok_b h
  refine aw_cV tTX2_longestChain rfl 10 rfl (M' := MX2_followFrom) (av := [.int a2]) (rest := []) rfl lkX2_22 hMX2_followFrom rfl (w_20 hS) ⟨_, _, rfl⟩ (s_X2_followFrom hS er2) ⟨rfl, rfl, ⟨by decide, by decide⟩, by decide, by decide⟩ (Nat.le_of_ble_eq_true rfl) 46 (wf_len hS) rfl [] rfl ?_
  refine aw_run tTX2_longestChain 4 (pc2 := 14) (L2 := [(0, .ref 20), (1, .ref 1), (2, .int a2), (3, .int a3)]) (st2 := [.int ((1 : Int32) <<< (a3 &&& 31)), .ref 20]) rfl ?_
  obtain ⟨r3, er3, h⟩ := ok_b h
  refine aw_cV tTX2_longestChain rfl 17 rfl (M' := MX2_longestEnding) (av := [.int ((1 : Int32) <<< (a3 &&& 31))]) (rest := []) rfl lkX2_26 hMX2_longestEnding rfl (w_20 hS) ⟨_, _, rfl⟩ (s_X2_longestEnding hS er3) ⟨rfl, rfl, ⟨by decide, by decide⟩, by decide, by decide⟩ (Nat.le_of_ble_eq_true rfl) 46 (wf_len hS) rfl [.int r3] rfl ?_
  have h := ok_r h
  exact aw_ir tTX2_longestChain rfl rfl rfl (Nat.le_refl _) (Nat.le_refl _) h
theorem s_X2_longestChain {g : Nat → Option Nat} {S : List SC} (hS : Wf g S) {σ : St} {a2 : Int32} {a3 : Int32} {r : Int32 × St} (e : f_X2_longestChain a2 a3 σ = some r) : Fn MX2_longestChain rmX2_longestChain [.ref 20, .ref 1, .int a2, .int a3] S σ (some (.int r.1)) r.2 := Sp.of (by decide) (Nat.le_of_ble_eq_true rfl) (t_X2_longestChain hS a2 a3 ⟨r, e, rfl, rfl, rfl⟩)
def l_X2_longestRound_10  (y2 : Int32) (y3 : Int32) (σ4 : St) : Option ((Int32 × Int32 × St) ⊕ (Int32 × St)) := if 6 ≤ y3 then (some (.inr (y2, σ4))) else (Option.bind (f_X2_followFrom y3 σ4) (fun r6 => Option.bind (f_X0_thievesOf 1 y3 r6) (fun r7 => Option.bind (f_X2_longestEnding r7 r6) (fun r8 => some (.inl (jmax y2 r8, y3 + 1, r6))))))
def f_X2_longestRound  (σ : St) : Option (Int32 × St) := Option.bind (f_X2_readNext  σ) (fun r1 => Option.bind (loop (fun s : Int32 × Int32 × St => l_X2_longestRound_10  s.1 s.2.1 s.2.2) 400 ((-6 : Int32), 0, r1)) (fun (z5 : Int32 × St) => some ((z5.1, z5.2))))
set_option maxHeartbeats 4000000 in
set_option maxRecDepth 20000 in
theorem t_X2_longestRound {g : Nat → Option Nat} {S : List SC} (hS : Wf g S) {σ : St} {Q : QT}  (h : ok (f_X2_longestRound  σ) (fun r => Q (some (.int r.1)) S r.2)) : AW MX2_longestRound E0 rmX2_longestRound 0 0 Q 0 0 S σ 0 [(0, .ref 20), (1, .ref 1)] [] := by
  unfold f_X2_longestRound at h
  refine aw_run tTX2_longestRound 2 (pc2 := 2) (L2 := [(0, .ref 20), (1, .ref 1)]) (st2 := [.ref 1, .ref 20]) rfl ?_
  obtain ⟨r1, er1, h⟩ := ok_b h
  refine aw_cV tTX2_longestRound rfl 5 rfl (M' := MX2_readNext) (av := [.ref 1]) (rest := []) rfl lkX2_18 hMX2_readNext rfl (w_20 hS) ⟨_, _, rfl⟩ (s_X2_readNext hS er1) ⟨rfl, rfl, ⟨by decide, by decide⟩, by decide, by decide⟩ (Nat.le_of_ble_eq_true rfl) 46 (wf_len hS) rfl [] rfl ?_
  refine aw_run tTX2_longestRound 4 (pc2 := 10) (L2 := [(3, .int 0), (2, .int (-6 : Int32)), (0, .ref 20), (1, .ref 1)]) (st2 := []) rfl ?_
  refine ok_use (P := fun z5 : Int32 × St => AW MX2_longestRound E0 rmX2_longestRound 0 0 Q 0 0 S z5.2 41 [(2, .int z5.1)] []) (ok_b h) (fun z5 h => ?_) (fun h => ?_)
  · refine aw_run tTX2_longestRound 1 (pc2 := 42) (L2 := [(2, .int z5.1)]) (st2 := [.int z5.1]) rfl ?_
    have h := ok_r h
    exact aw_ir tTX2_longestRound rfl rfl rfl (Nat.le_refl _) (Nat.le_refl _) h
  · refine aw_sub [2, 3, 1, 0] rfl ?_
    refine loop_P (P := fun s : Int32 × Int32 × St => AW MX2_longestRound E0 rmX2_longestRound 0 0 Q 0 0 S s.2.2 10 [(0, .ref 20), (1, .ref 1), (2, .int s.1), (3, .int s.2.1)] []) (fun s h => ?_) _ _ h
    obtain ⟨y2, y3, σ4⟩ := s
    replace h : ok (l_X2_longestRound_10  y2 y3 σ4) _ := h
    unfold l_X2_longestRound_10 at h
    show AW MX2_longestRound E0 rmX2_longestRound 0 0 Q 0 0 S σ4 10 [(0, .ref 20), (1, .ref 1), (2, .int y2), (3, .int y3)] []
    refine aw_run tTX2_longestRound 2 (pc2 := 13) (L2 := [(0, .ref 20), (1, .ref 1), (2, .int y2), (3, .int y3)]) (st2 := [.int 6, .int y3]) rfl ?_
    refine aw_icmp_ge tTX2_longestRound rfl 41 16 rfl rfl (fun hc => ?_) (fun hc => ?_)
    · have h := ok_t hc h
      refine aw_sub [2] rfl ?_
      have h := ok_r h
      exact h
    · have h := ok_f hc h
      refine aw_run tTX2_longestRound 2 (pc2 := 18) (L2 := [(0, .ref 20), (1, .ref 1), (2, .int y2), (3, .int y3)]) (st2 := [.int y3, .ref 20]) rfl ?_
      obtain ⟨r6, er6, h⟩ := ok_b h
      refine aw_cV tTX2_longestRound rfl 21 rfl (M' := MX2_followFrom) (av := [.int y3]) (rest := []) rfl lkX2_22 hMX2_followFrom rfl (w_20 hS) ⟨_, _, rfl⟩ (s_X2_followFrom hS er6) ⟨rfl, rfl, ⟨by decide, by decide⟩, by decide, by decide⟩ (Nat.le_of_ble_eq_true rfl) 46 (wf_len hS) rfl [] rfl ?_
      refine aw_run tTX2_longestRound 4 (pc2 := 25) (L2 := [(0, .ref 20), (1, .ref 1), (2, .int y2), (3, .int y3)]) (st2 := [.int y3, .ref 1, .ref 20, .int y2]) rfl ?_
      obtain ⟨r7, er7, h⟩ := ok_b h
      refine aw_cV tTX2_longestRound rfl 28 rfl (M' := MX0_thievesOf) (av := [.int y3]) (rest := [.ref 20, .int y2]) rfl lkX2_30 hMX0_thievesOf rfl (w_1 hS) ⟨_, _, rfl⟩ (s_X0_thievesOf hS er7) ⟨rfl, rfl, ⟨by decide, by decide⟩, by decide, by decide⟩ (Nat.le_of_ble_eq_true rfl) 46 (wf_len hS) rfl [.int r7, .ref 20, .int y2] rfl ?_
      obtain ⟨r8, er8, h⟩ := ok_b h
      refine aw_cV tTX2_longestRound rfl 31 rfl (M' := MX2_longestEnding) (av := [.int r7]) (rest := [.int y2]) rfl lkX2_26 hMX2_longestEnding rfl (w_20 hS) ⟨_, _, rfl⟩ (s_X2_longestEnding hS er8) ⟨rfl, rfl, ⟨by decide, by decide⟩, by decide, by decide⟩ (Nat.le_of_ble_eq_true rfl) 46 (wf_len hS) rfl [.int r8, .int y2] rfl ?_
      refine aw_max tTX2_longestRound rfl 34 rfl lkX2_35 (by decide) (Nat.le_of_ble_eq_true rfl) (Nat.zero_le _) (Nat.zero_le _) ?_
      refine aw_run tTX2_longestRound 3 (pc2 := 10) (L2 := [(3, .int (y3 + 1)), (2, .int (jmax y2 r8)), (0, .ref 20), (1, .ref 1)]) (st2 := []) rfl ?_
      refine aw_sub [2, 3, 1, 0] rfl ?_
      have h := ok_r h
      exact h
theorem s_X2_longestRound {g : Nat → Option Nat} {S : List SC} (hS : Wf g S) {σ : St}  {r : Int32 × St} (e : f_X2_longestRound  σ = some r) : Fn MX2_longestRound rmX2_longestRound [.ref 20, .ref 1] S σ (some (.int r.1)) r.2 := Sp.of (by decide) (Nat.le_of_ble_eq_true rfl) (t_X2_longestRound hS  ⟨r, e, rfl, rfl, rfl⟩)
def l_X4_takeBest_9 (a2 : Int32) (a3 : Int32) (y2 : Int32) (σ3 : St) : Option ((Int32 × St) ⊕ (St)) := if 6 ≤ y2 then (some (.inr σ3)) else (Option.bind (f_X0_holds a3 y2) (fun r5 => Option.bind (α := St) (if r5 = 0 then (some σ3) else (Option.bind (f_X0_load 1 a2 y2 σ3) (fun r7 => gi (a3 ^^^ ((1 : Int32) <<< (y2 &&& 31))) 64 (nm (r7 - (σ3 28 (a3 ^^^ ((1 : Int32) <<< (y2 &&& 31))).toNatClampNeg)) (fun (x8 : Int32) => if (σ3 27 2) = (-6 : Int32) then (nm (up2 σ3 27 1 x8) (fun σ9 => nm (up2 σ9 27 2 y2) (fun σ10 => some σ10))) else (if x8 ≤ (σ3 27 1) then (some σ3) else (nm (up2 σ3 27 1 x8) (fun σ11 => nm (up2 σ11 27 2 y2) (fun σ12 => some σ12))))))))) (fun (j6 : St) => some (.inl (y2 + 1, j6)))))
def f_X4_takeBest (a2 : Int32) (a3 : Int32) (σ : St) : Option (St) := nm (up2 σ 27 2 (-6 : Int32)) (fun σ1 => Option.bind (loop (fun s : Int32 × St => l_X4_takeBest_9 a2 a3 s.1 s.2) 400 (0, σ1)) (fun (z4 : St) => gi a3 64 (nm (up2 z4 28 a3.toNatClampNeg (z4 27 1)) (fun σ13 => some (σ13)))))
set_option maxHeartbeats 4000000 in
set_option maxRecDepth 20000 in
theorem t_X4_takeBest {g : Nat → Option Nat} {S : List SC} (hS : Wf g S) {σ : St} {Q : QT} (a2 : Int32) (a3 : Int32) (h : ok (f_X4_takeBest a2 a3 σ) (fun r => Q none S r)) : AW MX4_takeBest E0 rmX4_takeBest 0 0 Q 0 0 S σ 0 [(0, .ref 27), (1, .ref 1), (2, .int a2), (3, .int a3)] [] := by
  unfold f_X4_takeBest at h
  refine aw_run tTX4_takeBest 2 (pc2 := 3) (L2 := [(0, .ref 27), (1, .ref 1), (2, .int a2), (3, .int a3)]) (st2 := [.int (-6 : Int32), .ref 27]) rfl ?_
  refine aw_putI tTX4_takeBest rfl 6 rfl (w_27 hS) rfl fpX4_19 ?_
  refine aw_nmS (fun σ1 eσ1 => ?_)
  have h := ok_nm h σ1 eσ1
  refine aw_run tTX4_takeBest 2 (pc2 := 9) (L2 := [(4, .int 0), (0, .ref 27), (1, .ref 1), (2, .int a2), (3, .int a3)]) (st2 := []) rfl ?_
  refine ok_use (P := fun z4 : St => AW MX4_takeBest E0 rmX4_takeBest 0 0 Q 0 0 S z4 82 [(0, .ref 27), (3, .int a3)] []) (ok_b h) (fun z4 h => ?_) (fun h => ?_)
  · refine aw_run tTX4_takeBest 1 (pc2 := 83) (L2 := [(0, .ref 27), (3, .int a3)]) (st2 := [.ref 27]) rfl ?_
    refine aw_getR tTX4_takeBest rfl 86 rfl (w_27 hS) rfl flX4_9 ?_
    refine aw_run tTX4_takeBest 2 (pc2 := 88) (L2 := [(0, .ref 27), (3, .int a3)]) (st2 := [.ref 27, .int a3, .ref 28]) rfl ?_
    refine aw_getI tTX4_takeBest rfl 91 rfl (w_27 hS) rfl flX4_15 ?_
    obtain ⟨hi, h⟩ := ok_gi h
    refine aw_iast tTX4_takeBest rfl 92 rfl (w_28 hS) hi ?_
    refine aw_nmS (fun σ13 eσ13 => ?_)
    have h := ok_nm h σ13 eσ13
    have h := ok_r h
    exact aw_vr tTX4_takeBest rfl rfl (Nat.le_refl _) (Nat.le_refl _) h
  · refine aw_sub [1, 2, 3, 4, 0] rfl ?_
    refine loop_P (P := fun s : Int32 × St => AW MX4_takeBest E0 rmX4_takeBest 0 0 Q 0 0 S s.2 9 [(0, .ref 27), (1, .ref 1), (2, .int a2), (3, .int a3), (4, .int s.1)] []) (fun s h => ?_) _ _ h
    obtain ⟨y2, σ3⟩ := s
    replace h : ok (l_X4_takeBest_9 a2 a3 y2 σ3) _ := h
    unfold l_X4_takeBest_9 at h
    show AW MX4_takeBest E0 rmX4_takeBest 0 0 Q 0 0 S σ3 9 [(0, .ref 27), (1, .ref 1), (2, .int a2), (3, .int a3), (4, .int y2)] []
    refine aw_run tTX4_takeBest 2 (pc2 := 13) (L2 := [(0, .ref 27), (1, .ref 1), (2, .int a2), (3, .int a3), (4, .int y2)]) (st2 := [.int 6, .int y2]) rfl ?_
    refine aw_icmp_ge tTX4_takeBest rfl 82 16 rfl rfl (fun hc => ?_) (fun hc => ?_)
    · have h := ok_t hc h
      refine aw_sub [0, 3] rfl ?_
      have h := ok_r h
      exact h
    · have h := ok_f hc h
      refine aw_run tTX4_takeBest 2 (pc2 := 19) (L2 := [(0, .ref 27), (1, .ref 1), (2, .int a2), (3, .int a3), (4, .int y2)]) (st2 := [.int y2, .int a3]) rfl ?_
      obtain ⟨r5, er5, h⟩ := ok_b h
      refine aw_cS tTX4_takeBest rfl 22 rfl (M' := MX0_holds) (av := [.int a3, .int y2]) (rest := []) rfl lkX4_32 hMX0_holds rfl (s_X0_holds hS er5) ⟨rfl, rfl, ⟨by decide, by decide⟩, by decide, by decide⟩ (Nat.le_of_ble_eq_true rfl) 46 (wf_len hS) rfl [.int r5] rfl ?_
      refine ok_use (P := fun j6 : St => AW MX4_takeBest E0 rmX4_takeBest 0 0 Q 0 0 S j6 76 [(0, .ref 27), (1, .ref 1), (2, .int a2), (3, .int a3), (4, .int y2)] []) (ok_b h) (fun j6 h => ?_) (fun h => ?_)
      · refine aw_run tTX4_takeBest 2 (pc2 := 9) (L2 := [(4, .int (y2 + 1)), (0, .ref 27), (1, .ref 1), (2, .int a2), (3, .int a3)]) (st2 := []) rfl ?_
        refine aw_sub [1, 2, 3, 4, 0] rfl ?_
        have h := ok_r h
        exact h
      · refine aw_if_eq tTX4_takeBest rfl 76 25 rfl rfl (fun hc => ?_) (fun hc => ?_)
        · have h := ok_t hc h
          refine aw_sub [0, 1, 2, 3, 4] rfl ?_
          have h := ok_r h
          exact h
        · have h := ok_f hc h
          refine aw_run tTX4_takeBest 3 (pc2 := 29) (L2 := [(0, .ref 27), (1, .ref 1), (2, .int a2), (3, .int a3), (4, .int y2)]) (st2 := [.int y2, .int a2, .ref 1]) rfl ?_
          obtain ⟨r7, er7, h⟩ := ok_b h
          refine aw_cV tTX4_takeBest rfl 32 rfl (M' := MX0_load) (av := [.int a2, .int y2]) (rest := []) rfl lkX4_38 hMX0_load rfl (w_1 hS) ⟨_, _, rfl⟩ (s_X0_load_1 hS er7) ⟨rfl, rfl, ⟨by decide, by decide⟩, by decide, by decide⟩ (Nat.le_of_ble_eq_true rfl) 46 (wf_len hS) rfl [.int r7] rfl ?_
          refine aw_run tTX4_takeBest 1 (pc2 := 33) (L2 := [(0, .ref 27), (1, .ref 1), (2, .int a2), (3, .int a3), (4, .int y2)]) (st2 := [.ref 27, .int r7]) rfl ?_
          refine aw_getR tTX4_takeBest rfl 36 rfl (w_27 hS) rfl flX4_9 ?_
          refine aw_run tTX4_takeBest 5 (pc2 := 42) (L2 := [(0, .ref 27), (1, .ref 1), (2, .int a2), (3, .int a3), (4, .int y2)]) (st2 := [.int (a3 ^^^ ((1 : Int32) <<< (y2 &&& 31))), .ref 28, .int r7]) rfl ?_
          obtain ⟨hi, h⟩ := ok_gi h
          refine aw_iald tTX4_takeBest rfl 43 rfl (w_28 hS) hi ?_
          refine aw_run tTX4_takeBest 1 (pc2 := 44) (L2 := [(0, .ref 27), (1, .ref 1), (2, .int a2), (3, .int a3), (4, .int y2)]) (st2 := [.int (r7 - (σ3 28 (a3 ^^^ ((1 : Int32) <<< (y2 &&& 31))).toNatClampNeg))]) rfl ?_
          refine aw_nm (fun x8 ex8 => ?_)
          have h := ok_nm h x8 ex8
          refine aw_run tTX4_takeBest 1 (pc2 := 46) (L2 := [(5, .int x8), (0, .ref 27), (1, .ref 1), (2, .int a2), (3, .int a3), (4, .int y2)]) (st2 := []) rfl ?_
          refine aw_run tTX4_takeBest 1 (pc2 := 47) (L2 := [(5, .int x8), (0, .ref 27), (1, .ref 1), (2, .int a2), (3, .int a3), (4, .int y2)]) (st2 := [.ref 27]) rfl ?_
          refine aw_getI tTX4_takeBest rfl 50 rfl (w_27 hS) rfl flX4_19 ?_
          refine aw_run tTX4_takeBest 1 (pc2 := 52) (L2 := [(5, .int x8), (0, .ref 27), (1, .ref 1), (2, .int a2), (3, .int a3), (4, .int y2)]) (st2 := [.int (-6 : Int32), .int (σ3 27 2)]) rfl ?_
          refine aw_icmp_eq tTX4_takeBest rfl 64 55 rfl rfl (fun hc => ?_) (fun hc => ?_)
          · have h := ok_t hc h
            refine aw_run tTX4_takeBest 2 (pc2 := 67) (L2 := [(5, .int x8), (0, .ref 27), (1, .ref 1), (2, .int a2), (3, .int a3), (4, .int y2)]) (st2 := [.int x8, .ref 27]) rfl ?_
            refine aw_putI tTX4_takeBest rfl 70 rfl (w_27 hS) rfl fpX4_15 ?_
            refine aw_nmS (fun σ9 eσ9 => ?_)
            have h := ok_nm h σ9 eσ9
            refine aw_run tTX4_takeBest 2 (pc2 := 73) (L2 := [(5, .int x8), (0, .ref 27), (1, .ref 1), (2, .int a2), (3, .int a3), (4, .int y2)]) (st2 := [.int y2, .ref 27]) rfl ?_
            refine aw_putI tTX4_takeBest rfl 76 rfl (w_27 hS) rfl fpX4_19 ?_
            refine aw_nmS (fun σ10 eσ10 => ?_)
            have h := ok_nm h σ10 eσ10
            refine aw_sub [1, 2, 3, 4, 5] rfl ?_
            have h := ok_r h
            exact h
          · have h := ok_f hc h
            refine aw_run tTX4_takeBest 2 (pc2 := 58) (L2 := [(5, .int x8), (0, .ref 27), (1, .ref 1), (2, .int a2), (3, .int a3), (4, .int y2)]) (st2 := [.ref 27, .int x8]) rfl ?_
            refine aw_getI tTX4_takeBest rfl 61 rfl (w_27 hS) rfl flX4_15 ?_
            refine aw_icmp_le tTX4_takeBest rfl 76 64 rfl rfl (fun hc => ?_) (fun hc => ?_)
            · have h := ok_t hc h
              refine aw_sub [1, 2, 3, 4, 5] rfl ?_
              have h := ok_r h
              exact h
            · have h := ok_f hc h
              refine aw_run tTX4_takeBest 2 (pc2 := 67) (L2 := [(5, .int x8), (0, .ref 27), (1, .ref 1), (2, .int a2), (3, .int a3), (4, .int y2)]) (st2 := [.int x8, .ref 27]) rfl ?_
              refine aw_putI tTX4_takeBest rfl 70 rfl (w_27 hS) rfl fpX4_15 ?_
              refine aw_nmS (fun σ11 eσ11 => ?_)
              have h := ok_nm h σ11 eσ11
              refine aw_run tTX4_takeBest 2 (pc2 := 73) (L2 := [(5, .int x8), (0, .ref 27), (1, .ref 1), (2, .int a2), (3, .int a3), (4, .int y2)]) (st2 := [.int y2, .ref 27]) rfl ?_
              refine aw_putI tTX4_takeBest rfl 76 rfl (w_27 hS) rfl fpX4_19 ?_
              refine aw_nmS (fun σ12 eσ12 => ?_)
              have h := ok_nm h σ12 eσ12
              refine aw_sub [1, 2, 3, 4, 5] rfl ?_
              have h := ok_r h
              exact h
theorem s_X4_takeBest {g : Nat → Option Nat} {S : List SC} (hS : Wf g S) {σ : St} {a2 : Int32} {a3 : Int32} {r : St} (e : f_X4_takeBest a2 a3 σ = some r) : Fn MX4_takeBest rmX4_takeBest [.ref 27, .ref 1, .int a2, .int a3] S σ none r := Sp.of (by decide) (Nat.le_of_ble_eq_true rfl) (t_X4_takeBest hS a2 a3 ⟨r, e, rfl, rfl, rfl⟩)
def l_X4_play_28 (a2 : Int32) (a3 : Int32) (a4 : Int32) (r1 : Int32) (y5 : Int32) (σ6 : St) : Option ((Int32 × St) ⊕ (St)) := if 64 ≤ y5 then (some (.inr σ6)) else (Option.bind (α := St) (if ¬ (y5 &&& (a4 ^^^ (-1 : Int32))) = 0 then (some σ6) else (Option.bind (f_J6_bitCount_0f7a4 y5) (fun r9 => Option.bind (α := Int32) (if ¬ (jrem (r1 - r9) 2) = 0 then (some 0) else (some 1)) (fun (j10 : Int32) => Option.bind (α := Int32) (if j10 = 0 then (some a3) else (some a2)) (fun (j11 : Int32) => Option.bind (f_X4_takeBest j11 y5 σ6) (fun r12 => some r12)))))) (fun (j8 : St) => some (.inl (y5 + 1, j8))))
def f_X4_play (a2 : Int32) (a3 : Int32) (a4 : Int32) (σ : St) : Option (St) := Option.bind (f_J6_bitCount_0f7a4 a4) (fun r1 => nm (up2 σ 27 1 0) (fun σ2 => nm (up2 σ2 27 2 (-6 : Int32)) (fun σ3 => gi 0 64 (nm (up2 σ3 28 (0 : Int32).toNatClampNeg 0) (fun σ4 => Option.bind (loop (fun s : Int32 × St => l_X4_play_28 a2 a3 a4 r1 s.1 s.2) 400 (1, σ4)) (fun (z7 : St) => some (z7)))))))
set_option maxHeartbeats 4000000 in
set_option maxRecDepth 20000 in
theorem t_X4_play {g : Nat → Option Nat} {S : List SC} (hS : Wf g S) {σ : St} {Q : QT} (a2 : Int32) (a3 : Int32) (a4 : Int32) (h : ok (f_X4_play a2 a3 a4 σ) (fun r => Q none S r)) : AW MX4_play E0 rmX4_play 0 0 Q 0 0 S σ 0 [(0, .ref 27), (1, .ref 1), (2, .int a2), (3, .int a3), (4, .int a4)] [] := by
  unfold f_X4_play at h
  refine aw_run tTX4_play 1 (pc2 := 2) (L2 := [(0, .ref 27), (1, .ref 1), (2, .int a2), (3, .int a3), (4, .int a4)]) (st2 := [.int a4]) rfl ?_
  obtain ⟨r1, er1, h⟩ := ok_b h
  refine aw_cS tTX4_play rfl 5 rfl (M' := MJ6_bitCount_0f7a4) (av := [.int a4]) (rest := []) rfl lkX4_22 hMJ6_bitCount_0f7a4 rfl (s_J6_bitCount_0f7a4 hS er1) ⟨rfl, rfl, ⟨by decide, by decide⟩, by decide, by decide⟩ (Nat.le_of_ble_eq_true rfl) 46 (wf_len hS) rfl [.int r1] rfl ?_
  refine aw_run tTX4_play 3 (pc2 := 9) (L2 := [(5, .int r1), (0, .ref 27), (1, .ref 1), (2, .int a2), (3, .int a3), (4, .int a4)]) (st2 := [.int 0, .ref 27]) rfl ?_
  refine aw_putI tTX4_play rfl 12 rfl (w_27 hS) rfl fpX4_15 ?_
  refine aw_nmS (fun σ2 eσ2 => ?_)
  have h := ok_nm h σ2 eσ2
  refine aw_run tTX4_play 2 (pc2 := 15) (L2 := [(5, .int r1), (0, .ref 27), (1, .ref 1), (2, .int a2), (3, .int a3), (4, .int a4)]) (st2 := [.int (-6 : Int32), .ref 27]) rfl ?_
  refine aw_putI tTX4_play rfl 18 rfl (w_27 hS) rfl fpX4_19 ?_
  refine aw_nmS (fun σ3 eσ3 => ?_)
  have h := ok_nm h σ3 eσ3
  refine aw_run tTX4_play 1 (pc2 := 19) (L2 := [(5, .int r1), (0, .ref 27), (1, .ref 1), (2, .int a2), (3, .int a3), (4, .int a4)]) (st2 := [.ref 27]) rfl ?_
  refine aw_getR tTX4_play rfl 22 rfl (w_27 hS) rfl flX4_9 ?_
  refine aw_run tTX4_play 2 (pc2 := 24) (L2 := [(5, .int r1), (0, .ref 27), (1, .ref 1), (2, .int a2), (3, .int a3), (4, .int a4)]) (st2 := [.int 0, .int 0, .ref 28]) rfl ?_
  obtain ⟨hi, h⟩ := ok_gi h
  refine aw_iast tTX4_play rfl 25 rfl (w_28 hS) hi ?_
  refine aw_nmS (fun σ4 eσ4 => ?_)
  have h := ok_nm h σ4 eσ4
  refine aw_run tTX4_play 2 (pc2 := 28) (L2 := [(6, .int 1), (5, .int r1), (0, .ref 27), (1, .ref 1), (2, .int a2), (3, .int a3), (4, .int a4)]) (st2 := []) rfl ?_
  refine ok_use (P := fun z7 : St => AW MX4_play E0 rmX4_play 0 0 Q 0 0 S z7 88 [] []) (ok_b h) (fun z7 h => ?_) (fun h => ?_)
  · have h := ok_r h
    exact aw_vr tTX4_play rfl rfl (Nat.le_refl _) (Nat.le_refl _) h
  · refine aw_sub [2, 3, 4, 5, 6, 1, 0] rfl ?_
    refine loop_P (P := fun s : Int32 × St => AW MX4_play E0 rmX4_play 0 0 Q 0 0 S s.2 28 [(0, .ref 27), (1, .ref 1), (2, .int a2), (3, .int a3), (4, .int a4), (5, .int r1), (6, .int s.1)] []) (fun s h => ?_) _ _ h
    obtain ⟨y5, σ6⟩ := s
    replace h : ok (l_X4_play_28 a2 a3 a4 r1 y5 σ6) _ := h
    unfold l_X4_play_28 at h
    show AW MX4_play E0 rmX4_play 0 0 Q 0 0 S σ6 28 [(0, .ref 27), (1, .ref 1), (2, .int a2), (3, .int a3), (4, .int a4), (5, .int r1), (6, .int y5)] []
    refine aw_run tTX4_play 2 (pc2 := 32) (L2 := [(0, .ref 27), (1, .ref 1), (2, .int a2), (3, .int a3), (4, .int a4), (5, .int r1), (6, .int y5)]) (st2 := [.int 64, .int y5]) rfl ?_
    refine aw_icmp_ge tTX4_play rfl 88 35 rfl rfl (fun hc => ?_) (fun hc => ?_)
    · have h := ok_t hc h
      refine aw_sub [] rfl ?_
      have h := ok_r h
      exact h
    · have h := ok_f hc h
      refine aw_run tTX4_play 5 (pc2 := 42) (L2 := [(0, .ref 27), (1, .ref 1), (2, .int a2), (3, .int a3), (4, .int a4), (5, .int r1), (6, .int y5)]) (st2 := [.int (y5 &&& (a4 ^^^ (-1 : Int32)))]) rfl ?_
      refine ok_use (P := fun j8 : St => AW MX4_play E0 rmX4_play 0 0 Q 0 0 S j8 82 [(0, .ref 27), (1, .ref 1), (2, .int a2), (3, .int a3), (4, .int a4), (5, .int r1), (6, .int y5)] []) (ok_b h) (fun j8 h => ?_) (fun h => ?_)
      · refine aw_run tTX4_play 2 (pc2 := 28) (L2 := [(6, .int (y5 + 1)), (0, .ref 27), (1, .ref 1), (2, .int a2), (3, .int a3), (4, .int a4), (5, .int r1)]) (st2 := []) rfl ?_
        refine aw_sub [1, 2, 3, 4, 5, 6, 0] rfl ?_
        have h := ok_r h
        exact h
      · refine aw_if_ne tTX4_play rfl 82 45 rfl rfl (fun hc => ?_) (fun hc => ?_)
        · have h := ok_t hc h
          refine aw_sub [0, 1, 2, 3, 4, 5, 6] rfl ?_
          have h := ok_r h
          exact h
        · have h := ok_fn hc h
          refine aw_run tTX4_play 2 (pc2 := 49) (L2 := [(0, .ref 27), (1, .ref 1), (2, .int a2), (3, .int a3), (4, .int a4), (5, .int r1), (6, .int y5)]) (st2 := [.int y5, .int r1]) rfl ?_
          obtain ⟨r9, er9, h⟩ := ok_b h
          refine aw_cS tTX4_play rfl 52 rfl (M' := MJ6_bitCount_0f7a4) (av := [.int y5]) (rest := [.int r1]) rfl lkX4_22 hMJ6_bitCount_0f7a4 rfl (s_J6_bitCount_0f7a4 hS er9) ⟨rfl, rfl, ⟨by decide, by decide⟩, by decide, by decide⟩ (Nat.le_of_ble_eq_true rfl) 46 (wf_len hS) rfl [.int r9, .int r1] rfl ?_
          refine aw_run tTX4_play 2 (pc2 := 54) (L2 := [(0, .ref 27), (1, .ref 1), (2, .int a2), (3, .int a3), (4, .int a4), (5, .int r1), (6, .int y5)]) (st2 := [.int 2, .int (r1 - r9)]) rfl ?_
          refine aw_irem tTX4_play rfl 55 rfl (by decide) ?_
          refine ok_use (P := fun j10 : Int32 => AW MX4_play E0 rmX4_play 0 0 Q 0 0 S σ6 63 [(0, .ref 27), (1, .ref 1), (2, .int a2), (3, .int a3), (4, .int a4), (5, .int r1), (6, .int y5)] [.int j10]) (ok_b h) (fun j10 h => ?_) (fun h => ?_)
          · refine aw_run tTX4_play 4 (pc2 := 69) (L2 := [(7, .int j10), (0, .ref 27), (1, .ref 1), (2, .int a2), (3, .int a3), (4, .int a4), (5, .int r1), (6, .int y5)]) (st2 := [.int j10, .ref 1, .ref 27]) rfl ?_
            refine ok_use (P := fun j11 : Int32 => AW MX4_play E0 rmX4_play 0 0 Q 0 0 S σ6 77 [(0, .ref 27), (1, .ref 1), (2, .int a2), (3, .int a3), (4, .int a4), (5, .int r1), (6, .int y5)] [.int j11, .ref 1, .ref 27]) (ok_b h) (fun j11 h => ?_) (fun h => ?_)
            · refine aw_run tTX4_play 1 (pc2 := 79) (L2 := [(0, .ref 27), (1, .ref 1), (2, .int a2), (3, .int a3), (4, .int a4), (5, .int r1), (6, .int y5)]) (st2 := [.int y5, .int j11, .ref 1, .ref 27]) rfl ?_
              obtain ⟨r12, er12, h⟩ := ok_b h
              refine aw_cV tTX4_play rfl 82 rfl (M' := MX4_takeBest) (av := [.ref 1, .int j11, .int y5]) (rest := []) rfl lkX4_28 hMX4_takeBest rfl (w_27 hS) ⟨_, _, rfl⟩ (s_X4_takeBest hS er12) ⟨rfl, rfl, ⟨by decide, by decide⟩, by decide, by decide⟩ (Nat.le_of_ble_eq_true rfl) 46 (wf_len hS) rfl [] rfl ?_
              refine aw_sub [0, 1, 2, 3, 4, 5, 6] rfl ?_
              have h := ok_r h
              exact h
            · refine aw_if_eq tTX4_play rfl 76 72 rfl rfl (fun hc => ?_) (fun hc => ?_)
              · have h := ok_t hc h
                refine aw_run tTX4_play 1 (pc2 := 77) (L2 := [(7, .int j10), (0, .ref 27), (1, .ref 1), (2, .int a2), (3, .int a3), (4, .int a4), (5, .int r1), (6, .int y5)]) (st2 := [.int a3, .ref 1, .ref 27]) rfl ?_
                refine aw_sub [1, 2, 3, 4, 5, 6, 7] rfl ?_
                have h := ok_r h
                exact h
              · have h := ok_f hc h
                refine aw_run tTX4_play 2 (pc2 := 77) (L2 := [(7, .int j10), (0, .ref 27), (1, .ref 1), (2, .int a2), (3, .int a3), (4, .int a4), (5, .int r1), (6, .int y5)]) (st2 := [.int a2, .ref 1, .ref 27]) rfl ?_
                refine aw_sub [1, 2, 3, 4, 5, 6, 7] rfl ?_
                have h := ok_r h
                exact h
          · refine aw_if_ne tTX4_play rfl 62 58 rfl rfl (fun hc => ?_) (fun hc => ?_)
            · have h := ok_t hc h
              refine aw_run tTX4_play 1 (pc2 := 63) (L2 := [(0, .ref 27), (1, .ref 1), (2, .int a2), (3, .int a3), (4, .int a4), (5, .int r1), (6, .int y5)]) (st2 := [.int 0]) rfl ?_
              refine aw_sub [0, 1, 2, 3, 4, 5, 6] rfl ?_
              have h := ok_r h
              exact h
            · have h := ok_fn hc h
              refine aw_run tTX4_play 2 (pc2 := 63) (L2 := [(0, .ref 27), (1, .ref 1), (2, .int a2), (3, .int a3), (4, .int a4), (5, .int r1), (6, .int y5)]) (st2 := [.int 1]) rfl ?_
              refine aw_sub [0, 1, 2, 3, 4, 5, 6] rfl ?_
              have h := ok_r h
              exact h
theorem s_X4_play {g : Nat → Option Nat} {S : List SC} (hS : Wf g S) {σ : St} {a2 : Int32} {a3 : Int32} {a4 : Int32} {r : St} (e : f_X4_play a2 a3 a4 σ = some r) : Fn MX4_play rmX4_play [.ref 27, .ref 1, .int a2, .int a3, .int a4] S σ none r := Sp.of (by decide) (Nat.le_of_ble_eq_true rfl) (t_X4_play hS a2 a3 a4 ⟨r, e, rfl, rfl, rfl⟩)
