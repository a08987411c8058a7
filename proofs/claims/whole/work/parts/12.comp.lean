/-! lifted by program (wip/gen/lift.py) -/
def f_X5_neighbour (a1 : Int32) (a2 : Int32) (a3 : Int32) (σ : St) : Option (Int32 × St) := Option.bind (f_X5_within a1 0 5) (fun r1 => if ¬ r1 = 0 then (Option.bind (f_X5_within a2 0 99) (fun r2 => if r2 = 0 then (some (((-2 : Int32), σ))) else (Option.bind (f_X5_within a3 1 20) (fun r3 => if ¬ r3 = 0 then (Option.bind (f_X0_settle 1 a1 a2 a3 σ) (fun r4 => Option.bind (f_X0_count 1 r4) (fun r5 => some ((r5, r4))))) else (some (((-2 : Int32), σ))))))) else (some (((-1 : Int32), σ))))
set_option maxHeartbeats 4000000 in
set_option maxRecDepth 20000 in
theorem t_X5_neighbour {g : Nat → Option Nat} {S : List SC} (hS : Wf g S) {σ : St} {Q : QT} (a1 : Int32) (a2 : Int32) (a3 : Int32) (h : ok (f_X5_neighbour a1 a2 a3 σ) (fun r => Q (some (.int r.1)) S r.2)) : AW MX5_neighbour E0 rmX5_neighbour 0 0 Q 0 0 S σ 0 [(0, .ref 0), (1, .int a1), (2, .int a2), (3, .int a3)] [] := by
  unfold f_X5_neighbour at h
  refine aw_run tTX5_neighbour 3 (pc2 := 3) (L2 := [(0, .ref 0), (1, .int a1), (2, .int a2), (3, .int a3)]) (st2 := [.int 5, .int 0, .int a1]) rfl ?_
  obtain ⟨r1, er1, h⟩ := ok_b h
  refine aw_cS tTX5_neighbour rfl 6 rfl (M' := MX5_within) (av := [.int a1, .int 0, .int 5]) (rest := []) rfl lkX5_51 hMX5_within rfl (s_X5_within hS er1) ⟨rfl, rfl, ⟨by decide, by decide⟩, by decide, by decide⟩ (Nat.le_of_ble_eq_true rfl) 46 (wf_len hS) rfl [.int r1] rfl ?_
  refine aw_if_ne tTX5_neighbour rfl 11 9 rfl rfl (fun hc => ?_) (fun hc => ?_)
  · have h := ok_t hc h
    refine aw_run tTX5_neighbour 3 (pc2 := 15) (L2 := [(0, .ref 0), (1, .int a1), (2, .int a2), (3, .int a3)]) (st2 := [.int 99, .int 0, .int a2]) rfl ?_
    obtain ⟨r2, er2, h⟩ := ok_b h
    refine aw_cS tTX5_neighbour rfl 18 rfl (M' := MX5_within) (av := [.int a2, .int 0, .int 99]) (rest := []) rfl lkX5_51 hMX5_within rfl (s_X5_within hS er2) ⟨rfl, rfl, ⟨by decide, by decide⟩, by decide, by decide⟩ (Nat.le_of_ble_eq_true rfl) 46 (wf_len hS) rfl [.int r2] rfl ?_
    refine aw_if_eq tTX5_neighbour rfl 31 21 rfl rfl (fun hc => ?_) (fun hc => ?_)
    · have h := ok_t hc h
      refine aw_run tTX5_neighbour 1 (pc2 := 33) (L2 := [(0, .ref 0), (1, .int a1), (2, .int a2), (3, .int a3)]) (st2 := [.int (-2 : Int32)]) rfl ?_
      have h := ok_r h
      exact aw_ir tTX5_neighbour rfl rfl rfl (Nat.le_refl _) (Nat.le_refl _) h
    · have h := ok_f hc h
      refine aw_run tTX5_neighbour 3 (pc2 := 25) (L2 := [(0, .ref 0), (1, .int a1), (2, .int a2), (3, .int a3)]) (st2 := [.int 20, .int 1, .int a3]) rfl ?_
      obtain ⟨r3, er3, h⟩ := ok_b h
      refine aw_cS tTX5_neighbour rfl 28 rfl (M' := MX5_within) (av := [.int a3, .int 1, .int 20]) (rest := []) rfl lkX5_51 hMX5_within rfl (s_X5_within hS er3) ⟨rfl, rfl, ⟨by decide, by decide⟩, by decide, by decide⟩ (Nat.le_of_ble_eq_true rfl) 46 (wf_len hS) rfl [.int r3] rfl ?_
      refine aw_if_ne tTX5_neighbour rfl 34 31 rfl rfl (fun hc => ?_) (fun hc => ?_)
      · have h := ok_t hc h
        refine aw_run tTX5_neighbour 1 (pc2 := 35) (L2 := [(0, .ref 0), (1, .int a1), (2, .int a2), (3, .int a3)]) (st2 := [.ref 0]) rfl ?_
        refine aw_getR tTX5_neighbour rfl 38 rfl (w_0 hS) rfl flX5_12 ?_
        refine aw_run tTX5_neighbour 3 (pc2 := 41) (L2 := [(0, .ref 0), (1, .int a1), (2, .int a2), (3, .int a3)]) (st2 := [.int a3, .int a2, .int a1, .ref 1]) rfl ?_
        obtain ⟨r4, er4, h⟩ := ok_b h
        refine aw_cV tTX5_neighbour rfl 44 rfl (M' := MX0_settle) (av := [.int a1, .int a2, .int a3]) (rest := []) rfl lkX5_55 hMX0_settle rfl (w_1 hS) ⟨_, _, rfl⟩ (s_X0_settle hS er4) ⟨rfl, rfl, ⟨by decide, by decide⟩, by decide, by decide⟩ (Nat.le_of_ble_eq_true rfl) 46 (wf_len hS) rfl [] rfl ?_
        refine aw_run tTX5_neighbour 1 (pc2 := 45) (L2 := [(0, .ref 0), (1, .int a1), (2, .int a2), (3, .int a3)]) (st2 := [.ref 0]) rfl ?_
        refine aw_getR tTX5_neighbour rfl 48 rfl (w_0 hS) rfl flX5_12 ?_
        obtain ⟨r5, er5, h⟩ := ok_b h
        refine aw_cV tTX5_neighbour rfl 51 rfl (M' := MX0_count) (av := []) (rest := []) rfl lkX5_59 hMX0_count rfl (w_1 hS) ⟨_, _, rfl⟩ (s_X0_count hS er5) ⟨rfl, rfl, ⟨by decide, by decide⟩, by decide, by decide⟩ (Nat.le_of_ble_eq_true rfl) 46 (wf_len hS) rfl [.int r5] rfl ?_
        have h := ok_r h
        exact aw_ir tTX5_neighbour rfl rfl rfl (Nat.le_refl _) (Nat.le_refl _) h
      · have h := ok_fn hc h
        refine aw_run tTX5_neighbour 1 (pc2 := 33) (L2 := [(0, .ref 0), (1, .int a1), (2, .int a2), (3, .int a3)]) (st2 := [.int (-2 : Int32)]) rfl ?_
        have h := ok_r h
        exact aw_ir tTX5_neighbour rfl rfl rfl (Nat.le_refl _) (Nat.le_refl _) h
  · have h := ok_fn hc h
    refine aw_run tTX5_neighbour 1 (pc2 := 10) (L2 := [(0, .ref 0), (1, .int a1), (2, .int a2), (3, .int a3)]) (st2 := [.int (-1 : Int32)]) rfl ?_
    have h := ok_r h
    exact aw_ir tTX5_neighbour rfl rfl rfl (Nat.le_refl _) (Nat.le_refl _) h
theorem s_X5_neighbour {g : Nat → Option Nat} {S : List SC} (hS : Wf g S) {σ : St} {a1 : Int32} {a2 : Int32} {a3 : Int32} {r : Int32 × St} (e : f_X5_neighbour a1 a2 a3 σ = some r) : Fn MX5_neighbour rmX5_neighbour [.ref 0, .int a1, .int a2, .int a3] S σ (some (.int r.1)) r.2 := Sp.of (by decide) (Nat.le_of_ble_eq_true rfl) (t_X5_neighbour hS a1 a2 a3 ⟨r, e, rfl, rfl, rfl⟩)
def f_X5_move (a1 : Int32) (σ : St) : Option (Int32 × St) := Option.bind (f_X0_has 1 a1 σ) (fun r1 => if ¬ r1 = 0 then (Option.bind (f_X0_leave 1 a1 σ) (fun r2 => Option.bind (f_X0_count 1 r2) (fun r3 => some ((r3, r2))))) else (some (((-1 : Int32), σ))))
set_option maxHeartbeats 4000000 in
set_option maxRecDepth 20000 in
theorem t_X5_move {g : Nat → Option Nat} {S : List SC} (hS : Wf g S) {σ : St} {Q : QT} (a1 : Int32) (h : ok (f_X5_move a1 σ) (fun r => Q (some (.int r.1)) S r.2)) : AW MX5_move E0 rmX5_move 0 0 Q 0 0 S σ 0 [(0, .ref 0), (1, .int a1)] [] := by
  unfold f_X5_move at h
  refine aw_run tTX5_move 1 (pc2 := 1) (L2 := [(0, .ref 0), (1, .int a1)]) (st2 := [.ref 0]) rfl ?_
  refine aw_getR tTX5_move rfl 4 rfl (w_0 hS) rfl flX5_12 ?_
  refine aw_run tTX5_move 1 (pc2 := 5) (L2 := [(0, .ref 0), (1, .int a1)]) (st2 := [.int a1, .ref 1]) rfl ?_
  obtain ⟨r1, er1, h⟩ := ok_b h
  refine aw_cV tTX5_move rfl 8 rfl (M' := MX0_has) (av := [.int a1]) (rest := []) rfl lkX5_63 hMX0_has rfl (w_1 hS) ⟨_, _, rfl⟩ (s_X0_has_1 hS er1) ⟨rfl, rfl, ⟨by decide, by decide⟩, by decide, by decide⟩ (Nat.le_of_ble_eq_true rfl) 46 (wf_len hS) rfl [.int r1] rfl ?_
  refine aw_if_ne tTX5_move rfl 13 11 rfl rfl (fun hc => ?_) (fun hc => ?_)
  · have h := ok_t hc h
    refine aw_run tTX5_move 1 (pc2 := 14) (L2 := [(0, .ref 0), (1, .int a1)]) (st2 := [.ref 0]) rfl ?_
    refine aw_getR tTX5_move rfl 17 rfl (w_0 hS) rfl flX5_12 ?_
    refine aw_run tTX5_move 1 (pc2 := 18) (L2 := [(0, .ref 0), (1, .int a1)]) (st2 := [.int a1, .ref 1]) rfl ?_
    obtain ⟨r2, er2, h⟩ := ok_b h
    refine aw_cV tTX5_move rfl 21 rfl (M' := MX0_leave) (av := [.int a1]) (rest := []) rfl lkX5_67 hMX0_leave rfl (w_1 hS) ⟨_, _, rfl⟩ (s_X0_leave hS er2) ⟨rfl, rfl, ⟨by decide, by decide⟩, by decide, by decide⟩ (Nat.le_of_ble_eq_true rfl) 46 (wf_len hS) rfl [] rfl ?_
    refine aw_run tTX5_move 1 (pc2 := 22) (L2 := [(0, .ref 0), (1, .int a1)]) (st2 := [.ref 0]) rfl ?_
    refine aw_getR tTX5_move rfl 25 rfl (w_0 hS) rfl flX5_12 ?_
    obtain ⟨r3, er3, h⟩ := ok_b h
    refine aw_cV tTX5_move rfl 28 rfl (M' := MX0_count) (av := []) (rest := []) rfl lkX5_59 hMX0_count rfl (w_1 hS) ⟨_, _, rfl⟩ (s_X0_count hS er3) ⟨rfl, rfl, ⟨by decide, by decide⟩, by decide, by decide⟩ (Nat.le_of_ble_eq_true rfl) 46 (wf_len hS) rfl [.int r3] rfl ?_
    have h := ok_r h
    exact aw_ir tTX5_move rfl rfl rfl (Nat.le_refl _) (Nat.le_refl _) h
  · have h := ok_fn hc h
    refine aw_run tTX5_move 1 (pc2 := 12) (L2 := [(0, .ref 0), (1, .int a1)]) (st2 := [.int (-1 : Int32)]) rfl ?_
    have h := ok_r h
    exact aw_ir tTX5_move rfl rfl rfl (Nat.le_refl _) (Nat.le_refl _) h
theorem s_X5_move {g : Nat → Option Nat} {S : List SC} (hS : Wf g S) {σ : St} {a1 : Int32} {r : Int32 × St} (e : f_X5_move a1 σ = some r) : Fn MX5_move rmX5_move [.ref 0, .int a1] S σ (some (.int r.1)) r.2 := Sp.of (by decide) (Nat.le_of_ble_eq_true rfl) (t_X5_move hS a1 ⟨r, e, rfl, rfl, rfl⟩)
def f_X5_frost (a1 : Int32) (σ : St) : Option (Int32 × St) := Option.bind (f_X5_within a1 0 30) (fun r1 => if ¬ r1 = 0 then (nm (up2 σ 1 12 a1) (fun σ2 => some ((σ 1 12, σ2)))) else (some (((-2 : Int32), σ))))
set_option maxHeartbeats 4000000 in
set_option maxRecDepth 20000 in
theorem t_X5_frost {g : Nat → Option Nat} {S : List SC} (hS : Wf g S) {σ : St} {Q : QT} (a1 : Int32) (h : ok (f_X5_frost a1 σ) (fun r => Q (some (.int r.1)) S r.2)) : AW MX5_frost E0 rmX5_frost 0 0 Q 0 0 S σ 0 [(0, .ref 0), (1, .int a1)] [] := by
  unfold f_X5_frost at h
  refine aw_run tTX5_frost 3 (pc2 := 4) (L2 := [(0, .ref 0), (1, .int a1)]) (st2 := [.int 30, .int 0, .int a1]) rfl ?_
  obtain ⟨r1, er1, h⟩ := ok_b h
  refine aw_cS tTX5_frost rfl 7 rfl (M' := MX5_within) (av := [.int a1, .int 0, .int 30]) (rest := []) rfl lkX5_51 hMX5_within rfl (s_X5_within hS er1) ⟨rfl, rfl, ⟨by decide, by decide⟩, by decide, by decide⟩ (Nat.le_of_ble_eq_true rfl) 46 (wf_len hS) rfl [.int r1] rfl ?_
  refine aw_if_ne tTX5_frost rfl 13 10 rfl rfl (fun hc => ?_) (fun hc => ?_)
  · have h := ok_t hc h
    refine aw_run tTX5_frost 1 (pc2 := 14) (L2 := [(0, .ref 0), (1, .int a1)]) (st2 := [.ref 0]) rfl ?_
    refine aw_getR tTX5_frost rfl 17 rfl (w_0 hS) rfl flX5_12 ?_
    refine aw_getI tTX5_frost rfl 20 rfl (w_1 hS) rfl flX5_71 ?_
    refine aw_run tTX5_frost 2 (pc2 := 22) (L2 := [(2, .int (σ 1 12)), (0, .ref 0), (1, .int a1)]) (st2 := [.ref 0]) rfl ?_
    refine aw_getR tTX5_frost rfl 25 rfl (w_0 hS) rfl flX5_12 ?_
    refine aw_run tTX5_frost 1 (pc2 := 26) (L2 := [(2, .int (σ 1 12)), (0, .ref 0), (1, .int a1)]) (st2 := [.int a1, .ref 1]) rfl ?_
    refine aw_putI tTX5_frost rfl 29 rfl (w_1 hS) rfl fpX5_71 ?_
    refine aw_nmS (fun σ2 eσ2 => ?_)
    have h := ok_nm h σ2 eσ2
    refine aw_run tTX5_frost 1 (pc2 := 30) (L2 := [(2, .int (σ 1 12)), (0, .ref 0), (1, .int a1)]) (st2 := [.int (σ 1 12)]) rfl ?_
    have h := ok_r h
    exact aw_ir tTX5_frost rfl rfl rfl (Nat.le_refl _) (Nat.le_refl _) h
  · have h := ok_fn hc h
    refine aw_run tTX5_frost 1 (pc2 := 12) (L2 := [(0, .ref 0), (1, .int a1)]) (st2 := [.int (-2 : Int32)]) rfl ?_
    have h := ok_r h
    exact aw_ir tTX5_frost rfl rfl rfl (Nat.le_refl _) (Nat.le_refl _) h
theorem s_X5_frost {g : Nat → Option Nat} {S : List SC} (hS : Wf g S) {σ : St} {a1 : Int32} {r : Int32 × St} (e : f_X5_frost a1 σ = some r) : Fn MX5_frost rmX5_frost [.ref 0, .int a1] S σ (some (.int r.1)) r.2 := Sp.of (by decide) (Nat.le_of_ble_eq_true rfl) (t_X5_frost hS a1 ⟨r, e, rfl, rfl, rfl⟩)
def f_X5_say (a1 : Int32) (σ : St) : Option (Int32 × St) := Option.bind (f_X5_within a1 33 126) (fun r1 => if ¬ r1 = 0 then (Option.bind (f_X1_write a1 σ) (fun r2 => if r2.1 = 0 then (some (((-4 : Int32), r2.2))) else (some ((r2.2 18 1, r2.2))))) else (some (((-2 : Int32), σ))))
set_option maxHeartbeats 4000000 in
set_option maxRecDepth 20000 in
theorem t_X5_say {g : Nat → Option Nat} {S : List SC} (hS : Wf g S) {σ : St} {Q : QT} (a1 : Int32) (h : ok (f_X5_say a1 σ) (fun r => Q (some (.int r.1)) S r.2)) : AW MX5_say E0 rmX5_say 0 0 Q 0 0 S σ 0 [(0, .ref 0), (1, .int a1)] [] := by
  unfold f_X5_say at h
  refine aw_run tTX5_say 3 (pc2 := 5) (L2 := [(0, .ref 0), (1, .int a1)]) (st2 := [.int 126, .int 33, .int a1]) rfl ?_
  obtain ⟨r1, er1, h⟩ := ok_b h
  refine aw_cS tTX5_say rfl 8 rfl (M' := MX5_within) (av := [.int a1, .int 33, .int 126]) (rest := []) rfl lkX5_51 hMX5_within rfl (s_X5_within hS er1) ⟨rfl, rfl, ⟨by decide, by decide⟩, by decide, by decide⟩ (Nat.le_of_ble_eq_true rfl) 46 (wf_len hS) rfl [.int r1] rfl ?_
  refine aw_if_ne tTX5_say rfl 14 11 rfl rfl (fun hc => ?_) (fun hc => ?_)
  · have h := ok_t hc h
    refine aw_run tTX5_say 1 (pc2 := 15) (L2 := [(0, .ref 0), (1, .int a1)]) (st2 := [.ref 0]) rfl ?_
    refine aw_getR tTX5_say rfl 18 rfl (w_0 hS) rfl flX5_26 ?_
    refine aw_run tTX5_say 1 (pc2 := 19) (L2 := [(0, .ref 0), (1, .int a1)]) (st2 := [.int a1, .ref 18]) rfl ?_
    obtain ⟨r2, er2, h⟩ := ok_b h
    refine aw_cV tTX5_say rfl 22 rfl (M' := MX1_write) (av := [.int a1]) (rest := []) rfl lkX5_75 hMX1_write rfl (w_18 hS) ⟨_, _, rfl⟩ (s_X1_write hS er2) ⟨rfl, rfl, ⟨by decide, by decide⟩, by decide, by decide⟩ (Nat.le_of_ble_eq_true rfl) 46 (wf_len hS) rfl [.int r2.1] rfl ?_
    refine aw_if_eq tTX5_say rfl 35 25 rfl rfl (fun hc => ?_) (fun hc => ?_)
    · have h := ok_t hc h
      refine aw_run tTX5_say 1 (pc2 := 37) (L2 := [(0, .ref 0), (1, .int a1)]) (st2 := [.int (-4 : Int32)]) rfl ?_
      have h := ok_r h
      exact aw_ir tTX5_say rfl rfl rfl (Nat.le_refl _) (Nat.le_refl _) h
    · have h := ok_f hc h
      refine aw_run tTX5_say 1 (pc2 := 26) (L2 := [(0, .ref 0), (1, .int a1)]) (st2 := [.ref 0]) rfl ?_
      refine aw_getR tTX5_say rfl 29 rfl (w_0 hS) rfl flX5_26 ?_
      refine aw_getI tTX5_say rfl 32 rfl (w_18 hS) rfl flX5_78 ?_
      refine aw_run tTX5_say 1 (pc2 := 37) (L2 := [(0, .ref 0), (1, .int a1)]) (st2 := [.int (r2.2 18 1)]) rfl ?_
      have h := ok_r h
      exact aw_ir tTX5_say rfl rfl rfl (Nat.le_refl _) (Nat.le_refl _) h
  · have h := ok_fn hc h
    refine aw_run tTX5_say 1 (pc2 := 13) (L2 := [(0, .ref 0), (1, .int a1)]) (st2 := [.int (-2 : Int32)]) rfl ?_
    have h := ok_r h
    exact aw_ir tTX5_say rfl rfl rfl (Nat.le_refl _) (Nat.le_refl _) h
theorem s_X5_say {g : Nat → Option Nat} {S : List SC} (hS : Wf g S) {σ : St} {a1 : Int32} {r : Int32 × St} (e : f_X5_say a1 σ = some r) : Fn MX5_say rmX5_say [.ref 0, .int a1] S σ (some (.int r.1)) r.2 := Sp.of (by decide) (Nat.le_of_ble_eq_true rfl) (t_X5_say hS a1 ⟨r, e, rfl, rfl, rfl⟩)
def f_X5_wipe  (σ : St) : Option (Int32 × St) := nm (up2 σ 18 1 0) (fun σ1 => some ((σ 18 1, σ1)))
set_option maxHeartbeats 4000000 in
set_option maxRecDepth 20000 in
theorem t_X5_wipe {g : Nat → Option Nat} {S : List SC} (hS : Wf g S) {σ : St} {Q : QT}  (h : ok (f_X5_wipe  σ) (fun r => Q (some (.int r.1)) S r.2)) : AW MX5_wipe E0 rmX5_wipe 0 0 Q 0 0 S σ 0 [(0, .ref 0)] [] := by
  unfold f_X5_wipe at h
  refine aw_run tTX5_wipe 1 (pc2 := 1) (L2 := [(0, .ref 0)]) (st2 := [.ref 0]) rfl ?_
  refine aw_getR tTX5_wipe rfl 4 rfl (w_0 hS) rfl flX5_26 ?_
  refine aw_getI tTX5_wipe rfl 7 rfl (w_18 hS) rfl flX5_78 ?_
  refine aw_run tTX5_wipe 2 (pc2 := 9) (L2 := [(1, .int (σ 18 1)), (0, .ref 0)]) (st2 := [.ref 0]) rfl ?_
  refine aw_getR tTX5_wipe rfl 12 rfl (w_0 hS) rfl flX5_26 ?_
  refine aw_run tTX5_wipe 1 (pc2 := 13) (L2 := [(1, .int (σ 18 1)), (0, .ref 0)]) (st2 := [.int 0, .ref 18]) rfl ?_
  refine aw_putI tTX5_wipe rfl 16 rfl (w_18 hS) rfl fpX5_78 ?_
  refine aw_nmS (fun σ1 eσ1 => ?_)
  have h := ok_nm h σ1 eσ1
  refine aw_run tTX5_wipe 1 (pc2 := 17) (L2 := [(1, .int (σ 18 1)), (0, .ref 0)]) (st2 := [.int (σ 18 1)]) rfl ?_
  have h := ok_r h
  exact aw_ir tTX5_wipe rfl rfl rfl (Nat.le_refl _) (Nat.le_refl _) h
theorem s_X5_wipe {g : Nat → Option Nat} {S : List SC} (hS : Wf g S) {σ : St}  {r : Int32 × St} (e : f_X5_wipe  σ = some r) : Fn MX5_wipe rmX5_wipe [.ref 0] S σ (some (.int r.1)) r.2 := Sp.of (by decide) (Nat.le_of_ble_eq_true rfl) (t_X5_wipe hS  ⟨r, e, rfl, rfl, rfl⟩)
def f_X5_fault  (σ : St) : Option (Int32) := Option.bind (f_X1_faultPlace  σ) (fun r1 => some (r1))
set_option maxHeartbeats 4000000 in
set_option maxRecDepth 20000 in
theorem t_X5_fault {g : Nat → Option Nat} {S : List SC} (hS : Wf g S) {σ : St} {Q : QT}  (h : ok (f_X5_fault  σ) (fun r => Q (some (.int r)) S σ)) : AW MX5_fault E0 rmX5_fault 0 0 Q 0 0 S σ 0 [(0, .ref 0)] [] := by
  unfold f_X5_fault at h
  refine aw_run tTX5_fault 1 (pc2 := 1) (L2 := [(0, .ref 0)]) (st2 := [.ref 0]) rfl ?_
  refine aw_getR tTX5_fault rfl 4 rfl (w_0 hS) rfl flX5_26 ?_
  obtain ⟨r1, er1, h⟩ := ok_b h
  refine aw_cV tTX5_fault rfl 7 rfl (M' := MX1_faultPlace) (av := []) (rest := []) rfl lkX5_81 hMX1_faultPlace rfl (w_18 hS) ⟨_, _, rfl⟩ (s_X1_faultPlace hS er1) ⟨rfl, rfl, ⟨by decide, by decide⟩, by decide, by decide⟩ (Nat.le_of_ble_eq_true rfl) 46 (wf_len hS) rfl [.int r1] rfl ?_
  have h := ok_r h
  exact aw_ir tTX5_fault rfl rfl rfl (Nat.le_refl _) (Nat.le_refl _) h
theorem s_X5_fault {g : Nat → Option Nat} {S : List SC} (hS : Wf g S) {σ : St}  {r : Int32} (e : f_X5_fault  σ = some r) : Fn MX5_fault rmX5_fault [.ref 0] S σ (some (.int r)) σ := Sp.of (by decide) (Nat.le_of_ble_eq_true rfl) (t_X5_fault hS  ⟨r, e, rfl, rfl, rfl⟩)
def f_X5_draftNights  (σ : St) : Option (Int32 × St) := Option.bind (f_X1_faultPlace  σ) (fun r1 => if r1 = (-6 : Int32) then (nm (becS σ 9 1) (fun σ2 => Option.bind (f_X1_runOn  σ2) (fun r3 => gb r3.1 (some ((r3.1, r3.2)))))) else (some ((0, σ))))
set_option maxHeartbeats 4000000 in
set_option maxRecDepth 20000 in
theorem t_X5_draftNights {g : Nat → Option Nat} {S : List SC} (hS : Wf g S) {σ : St} {Q : QT}  (h : ok (f_X5_draftNights  σ) (fun r => Q (some (.int r.1)) S r.2)) : AW MX5_draftNights E0 rmX5_draftNights 0 0 Q 0 0 S σ 0 [(0, .ref 0)] [] := by
  unfold f_X5_draftNights at h
  refine aw_run tTX5_draftNights 1 (pc2 := 1) (L2 := [(0, .ref 0)]) (st2 := [.ref 0]) rfl ?_
  refine aw_getR tTX5_draftNights rfl 4 rfl (w_0 hS) rfl flX5_26 ?_
  obtain ⟨r1, er1, h⟩ := ok_b h
  refine aw_cV tTX5_draftNights rfl 7 rfl (M' := MX1_faultPlace) (av := []) (rest := []) rfl lkX5_81 hMX1_faultPlace rfl (w_18 hS) ⟨_, _, rfl⟩ (s_X1_faultPlace hS er1) ⟨rfl, rfl, ⟨by decide, by decide⟩, by decide, by decide⟩ (Nat.le_of_ble_eq_true rfl) 46 (wf_len hS) rfl [.int r1] rfl ?_
  refine aw_run tTX5_draftNights 1 (pc2 := 9) (L2 := [(0, .ref 0)]) (st2 := [.int (-6 : Int32), .int r1]) rfl ?_
  refine aw_icmp_eq tTX5_draftNights rfl 14 12 rfl rfl (fun hc => ?_) (fun hc => ?_)
  · have h := ok_t hc h
    refine aw_run tTX5_draftNights 1 (pc2 := 15) (L2 := [(0, .ref 0)]) (st2 := [.ref 0]) rfl ?_
    refine aw_getR tTX5_draftNights rfl 18 rfl (w_0 hS) rfl flX5_16 ?_
    refine aw_run tTX5_draftNights 1 (pc2 := 19) (L2 := [(0, .ref 0)]) (st2 := [.ref 0, .ref 9]) rfl ?_
    refine aw_getR tTX5_draftNights rfl 22 rfl (w_0 hS) rfl flX5_12 ?_
    refine aw_cV tTX5_draftNights rfl 25 rfl (M' := MX0_become) (av := [.ref 1]) (rest := []) rfl lkX5_94 hMX0_become rfl (w_9 hS) ⟨_, _, rfl⟩ (s_become (la_9 hS) (la_1 hS) (by decide)) ⟨rfl, rfl, ⟨by decide, by decide⟩, by decide, by decide⟩ (Nat.le_of_ble_eq_true rfl) 46 (wf_len hS) rfl [] rfl ?_
    refine aw_nmS (fun σ2 eσ2 => ?_)
    have h := ok_nm h σ2 eσ2
    refine aw_run tTX5_draftNights 1 (pc2 := 26) (L2 := [(0, .ref 0)]) (st2 := [.ref 0]) rfl ?_
    refine aw_getR tTX5_draftNights rfl 29 rfl (w_0 hS) rfl flX5_26 ?_
    refine aw_run tTX5_draftNights 1 (pc2 := 30) (L2 := [(0, .ref 0)]) (st2 := [.ref 0, .ref 18]) rfl ?_
    refine aw_getR tTX5_draftNights rfl 33 rfl (w_0 hS) rfl flX5_16 ?_
    obtain ⟨r3, er3, h⟩ := ok_b h
    refine aw_cV tTX5_draftNights rfl 36 rfl (M' := MX1_runOn) (av := [.ref 9]) (rest := []) rfl lkX5_229 hMX1_runOn rfl (w_18 hS) ⟨_, _, rfl⟩ (s_X1_runOn hS er3) ⟨rfl, rfl, ⟨by decide, by decide⟩, by decide, by decide⟩ (Nat.le_of_ble_eq_true rfl) 46 (wf_len hS) rfl [.int r3.1] rfl ?_
    obtain ⟨hn, h⟩ := ok_gb h
    have h := ok_r h
    exact aw_ir tTX5_draftNights rfl rfl hn (Nat.le_refl _) (Nat.le_refl _) h
  · have h := ok_f hc h
    refine aw_run tTX5_draftNights 1 (pc2 := 13) (L2 := [(0, .ref 0)]) (st2 := [.int 0]) rfl ?_
    have h := ok_r h
    exact aw_ir tTX5_draftNights rfl rfl rfl (Nat.le_refl _) (Nat.le_refl _) h
theorem s_X5_draftNights {g : Nat → Option Nat} {S : List SC} (hS : Wf g S) {σ : St}  {r : Int32 × St} (e : f_X5_draftNights  σ = some r) : Fn MX5_draftNights rmX5_draftNights [.ref 0] S σ (some (.int r.1)) r.2 := Sp.of (by decide) (Nat.le_of_ble_eq_true rfl) (t_X5_draftNights hS  ⟨r, e, rfl, rfl, rfl⟩)
def f_X5_judge (a1 : Int32) (σ : St) : Option (Int32 × St) := Option.bind (f_X5_within a1 0 1) (fun r1 => if ¬ r1 = 0 then (Option.bind (f_X1_faultPlace  σ) (fun r2 => if r2 = (-6 : Int32) then (Option.bind (f_X5_draftNights  σ) (fun r3 => if r3.1 = 0 then (if ¬ a1 = 0 then (some ((r3.2 18 3, r3.2))) else (some ((r3.2 18 2, r3.2)))) else (some (((-6 : Int32), r3.2))))) else (some (((-5 : Int32), σ))))) else (some (((-2 : Int32), σ))))
set_option maxHeartbeats 4000000 in
set_option maxRecDepth 20000 in
theorem t_X5_judge {g : Nat → Option Nat} {S : List SC} (hS : Wf g S) {σ : St} {Q : QT} (a1 : Int32) (h : ok (f_X5_judge a1 σ) (fun r => Q (some (.int r.1)) S r.2)) : AW MX5_judge E0 rmX5_judge 0 0 Q 0 0 S σ 0 [(0, .ref 0), (1, .int a1)] [] := by
  unfold f_X5_judge at h
  refine aw_run tTX5_judge 3 (pc2 := 3) (L2 := [(0, .ref 0), (1, .int a1)]) (st2 := [.int 1, .int 0, .int a1]) rfl ?_
  obtain ⟨r1, er1, h⟩ := ok_b h
  refine aw_cS tTX5_judge rfl 6 rfl (M' := MX5_within) (av := [.int a1, .int 0, .int 1]) (rest := []) rfl lkX5_51 hMX5_within rfl (s_X5_within hS er1) ⟨rfl, rfl, ⟨by decide, by decide⟩, by decide, by decide⟩ (Nat.le_of_ble_eq_true rfl) 46 (wf_len hS) rfl [.int r1] rfl ?_
  refine aw_if_ne tTX5_judge rfl 12 9 rfl rfl (fun hc => ?_) (fun hc => ?_)
  · have h := ok_t hc h
    refine aw_run tTX5_judge 1 (pc2 := 13) (L2 := [(0, .ref 0), (1, .int a1)]) (st2 := [.ref 0]) rfl ?_
    refine aw_getR tTX5_judge rfl 16 rfl (w_0 hS) rfl flX5_26 ?_
    obtain ⟨r2, er2, h⟩ := ok_b h
    refine aw_cV tTX5_judge rfl 19 rfl (M' := MX1_faultPlace) (av := []) (rest := []) rfl lkX5_81 hMX1_faultPlace rfl (w_18 hS) ⟨_, _, rfl⟩ (s_X1_faultPlace hS er2) ⟨rfl, rfl, ⟨by decide, by decide⟩, by decide, by decide⟩ (Nat.le_of_ble_eq_true rfl) 46 (wf_len hS) rfl [.int r2] rfl ?_
    refine aw_run tTX5_judge 1 (pc2 := 21) (L2 := [(0, .ref 0), (1, .int a1)]) (st2 := [.int (-6 : Int32), .int r2]) rfl ?_
    refine aw_icmp_eq tTX5_judge rfl 27 24 rfl rfl (fun hc => ?_) (fun hc => ?_)
    · have h := ok_t hc h
      refine aw_run tTX5_judge 1 (pc2 := 28) (L2 := [(0, .ref 0), (1, .int a1)]) (st2 := [.ref 0]) rfl ?_
      obtain ⟨r3, er3, h⟩ := ok_b h
      refine aw_cV tTX5_judge rfl 31 rfl (M' := MX5_draftNights) (av := []) (rest := []) rfl lkX5_84 hMX5_draftNights rfl (w_0 hS) ⟨_, _, rfl⟩ (s_X5_draftNights hS er3) ⟨rfl, rfl, ⟨by decide, by decide⟩, by decide, by decide⟩ (Nat.le_of_ble_eq_true rfl) 46 (wf_len hS) rfl [.int r3.1] rfl ?_
      refine aw_if_eq tTX5_judge rfl 37 34 rfl rfl (fun hc => ?_) (fun hc => ?_)
      · have h := ok_t hc h
        refine aw_run tTX5_judge 1 (pc2 := 38) (L2 := [(0, .ref 0), (1, .int a1)]) (st2 := [.int a1]) rfl ?_
        refine aw_if_ne tTX5_judge rfl 51 41 rfl rfl (fun hc => ?_) (fun hc => ?_)
        · have h := ok_t hc h
          refine aw_run tTX5_judge 1 (pc2 := 52) (L2 := [(0, .ref 0), (1, .int a1)]) (st2 := [.ref 0]) rfl ?_
          refine aw_getR tTX5_judge rfl 55 rfl (w_0 hS) rfl flX5_26 ?_
          refine aw_getI tTX5_judge rfl 58 rfl (w_18 hS) rfl flX5_91 ?_
          have h := ok_r h
          exact aw_ir tTX5_judge rfl rfl rfl (Nat.le_refl _) (Nat.le_refl _) h
        · have h := ok_fn hc h
          refine aw_run tTX5_judge 1 (pc2 := 42) (L2 := [(0, .ref 0), (1, .int a1)]) (st2 := [.ref 0]) rfl ?_
          refine aw_getR tTX5_judge rfl 45 rfl (w_0 hS) rfl flX5_26 ?_
          refine aw_getI tTX5_judge rfl 48 rfl (w_18 hS) rfl flX5_88 ?_
          refine aw_run tTX5_judge 1 (pc2 := 58) (L2 := [(0, .ref 0), (1, .int a1)]) (st2 := [.int (r3.2 18 2)]) rfl ?_
          have h := ok_r h
          exact aw_ir tTX5_judge rfl rfl rfl (Nat.le_refl _) (Nat.le_refl _) h
      · have h := ok_f hc h
        refine aw_run tTX5_judge 1 (pc2 := 36) (L2 := [(0, .ref 0), (1, .int a1)]) (st2 := [.int (-6 : Int32)]) rfl ?_
        have h := ok_r h
        exact aw_ir tTX5_judge rfl rfl rfl (Nat.le_refl _) (Nat.le_refl _) h
    · have h := ok_f hc h
      refine aw_run tTX5_judge 1 (pc2 := 26) (L2 := [(0, .ref 0), (1, .int a1)]) (st2 := [.int (-5 : Int32)]) rfl ?_
      have h := ok_r h
      exact aw_ir tTX5_judge rfl rfl rfl (Nat.le_refl _) (Nat.le_refl _) h
  · have h := ok_fn hc h
    refine aw_run tTX5_judge 1 (pc2 := 11) (L2 := [(0, .ref 0), (1, .int a1)]) (st2 := [.int (-2 : Int32)]) rfl ?_
    have h := ok_r h
    exact aw_ir tTX5_judge rfl rfl rfl (Nat.le_refl _) (Nat.le_refl _) h
theorem s_X5_judge {g : Nat → Option Nat} {S : List SC} (hS : Wf g S) {σ : St} {a1 : Int32} {r : Int32 × St} (e : f_X5_judge a1 σ = some r) : Fn MX5_judge rmX5_judge [.ref 0, .int a1] S σ (some (.int r.1)) r.2 := Sp.of (by decide) (Nat.le_of_ble_eq_true rfl) (t_X5_judge hS a1 ⟨r, e, rfl, rfl, rfl⟩)
def f_X5_done  (σ : St) : Option (Int32 × St) := Option.bind (f_X5_draftNights  σ) (fun r1 => if ¬ r1.1 = 0 then (nm (becS r1.2 1 9) (fun σ2 => nm (up2 σ2 18 1 0) (fun σ3 => some ((σ3 18 2, σ3))))) else (some (((-5 : Int32), r1.2))))
set_option maxHeartbeats 4000000 in
set_option maxRecDepth 20000 in
theorem t_X5_done {g : Nat → Option Nat} {S : List SC} (hS : Wf g S) {σ : St} {Q : QT}  (h : ok (f_X5_done  σ) (fun r => Q (some (.int r.1)) S r.2)) : AW MX5_done E0 rmX5_done 0 0 Q 0 0 S σ 0 [(0, .ref 0)] [] := by
  unfold f_X5_done at h
  refine aw_run tTX5_done 1 (pc2 := 1) (L2 := [(0, .ref 0)]) (st2 := [.ref 0]) rfl ?_
  obtain ⟨r1, er1, h⟩ := ok_b h
  refine aw_cV tTX5_done rfl 4 rfl (M' := MX5_draftNights) (av := []) (rest := []) rfl lkX5_84 hMX5_draftNights rfl (w_0 hS) ⟨_, _, rfl⟩ (s_X5_draftNights hS er1) ⟨rfl, rfl, ⟨by decide, by decide⟩, by decide, by decide⟩ (Nat.le_of_ble_eq_true rfl) 46 (wf_len hS) rfl [.int r1.1] rfl ?_
  refine aw_if_ne tTX5_done rfl 10 7 rfl rfl (fun hc => ?_) (fun hc => ?_)
  · have h := ok_t hc h
    refine aw_run tTX5_done 1 (pc2 := 11) (L2 := [(0, .ref 0)]) (st2 := [.ref 0]) rfl ?_
    refine aw_getR tTX5_done rfl 14 rfl (w_0 hS) rfl flX5_12 ?_
    refine aw_run tTX5_done 1 (pc2 := 15) (L2 := [(0, .ref 0)]) (st2 := [.ref 0, .ref 1]) rfl ?_
    refine aw_getR tTX5_done rfl 18 rfl (w_0 hS) rfl flX5_16 ?_
    refine aw_cV tTX5_done rfl 21 rfl (M' := MX0_become) (av := [.ref 9]) (rest := []) rfl lkX5_94 hMX0_become rfl (w_1 hS) ⟨_, _, rfl⟩ (s_become (la_1 hS) (la_9 hS) (by decide)) ⟨rfl, rfl, ⟨by decide, by decide⟩, by decide, by decide⟩ (Nat.le_of_ble_eq_true rfl) 46 (wf_len hS) rfl [] rfl ?_
    refine aw_nmS (fun σ2 eσ2 => ?_)
    have h := ok_nm h σ2 eσ2
    refine aw_run tTX5_done 1 (pc2 := 22) (L2 := [(0, .ref 0)]) (st2 := [.ref 0]) rfl ?_
    refine aw_getR tTX5_done rfl 25 rfl (w_0 hS) rfl flX5_26 ?_
    refine aw_run tTX5_done 1 (pc2 := 26) (L2 := [(0, .ref 0)]) (st2 := [.int 0, .ref 18]) rfl ?_
    refine aw_putI tTX5_done rfl 29 rfl (w_18 hS) rfl fpX5_78 ?_
    refine aw_nmS (fun σ3 eσ3 => ?_)
    have h := ok_nm h σ3 eσ3
    refine aw_run tTX5_done 1 (pc2 := 30) (L2 := [(0, .ref 0)]) (st2 := [.ref 0]) rfl ?_
    refine aw_getR tTX5_done rfl 33 rfl (w_0 hS) rfl flX5_26 ?_
    refine aw_getI tTX5_done rfl 36 rfl (w_18 hS) rfl flX5_88 ?_
    have h := ok_r h
    exact aw_ir tTX5_done rfl rfl rfl (Nat.le_refl _) (Nat.le_refl _) h
  · have h := ok_fn hc h
    refine aw_run tTX5_done 1 (pc2 := 9) (L2 := [(0, .ref 0)]) (st2 := [.int (-5 : Int32)]) rfl ?_
    have h := ok_r h
    exact aw_ir tTX5_done rfl rfl rfl (Nat.le_refl _) (Nat.le_refl _) h
theorem s_X5_done {g : Nat → Option Nat} {S : List SC} (hS : Wf g S) {σ : St}  {r : Int32 × St} (e : f_X5_done  σ = some r) : Fn MX5_done rmX5_done [.ref 0] S σ (some (.int r.1)) r.2 := Sp.of (by decide) (Nat.le_of_ble_eq_true rfl) (t_X5_done hS  ⟨r, e, rfl, rfl, rfl⟩)
def f_X5_state (a1 : Int32) (a2 : Int32) (σ : St) : Option (Int32) := Option.bind (f_X0_has 1 a1 σ) (fun r1 => if ¬ r1 = 0 then (Option.bind (f_X5_within a2 0 3) (fun r2 => if ¬ r2 = 0 then (Option.bind (f_X0_tell 1 a1 a2 σ) (fun r3 => some (r3))) else (some ((-2 : Int32))))) else (some ((-1 : Int32))))
set_option maxHeartbeats 4000000 in
set_option maxRecDepth 20000 in
theorem t_X5_state {g : Nat → Option Nat} {S : List SC} (hS : Wf g S) {σ : St} {Q : QT} (a1 : Int32) (a2 : Int32) (h : ok (f_X5_state a1 a2 σ) (fun r => Q (some (.int r)) S σ)) : AW MX5_state E0 rmX5_state 0 0 Q 0 0 S σ 0 [(0, .ref 0), (1, .int a1), (2, .int a2)] [] := by
  unfold f_X5_state at h
  refine aw_run tTX5_state 1 (pc2 := 1) (L2 := [(0, .ref 0), (1, .int a1), (2, .int a2)]) (st2 := [.ref 0]) rfl ?_
  refine aw_getR tTX5_state rfl 4 rfl (w_0 hS) rfl flX5_12 ?_
  refine aw_run tTX5_state 1 (pc2 := 5) (L2 := [(0, .ref 0), (1, .int a1), (2, .int a2)]) (st2 := [.int a1, .ref 1]) rfl ?_
  obtain ⟨r1, er1, h⟩ := ok_b h
  refine aw_cV tTX5_state rfl 8 rfl (M' := MX0_has) (av := [.int a1]) (rest := []) rfl lkX5_63 hMX0_has rfl (w_1 hS) ⟨_, _, rfl⟩ (s_X0_has_1 hS er1) ⟨rfl, rfl, ⟨by decide, by decide⟩, by decide, by decide⟩ (Nat.le_of_ble_eq_true rfl) 46 (wf_len hS) rfl [.int r1] rfl ?_
  refine aw_if_ne tTX5_state rfl 13 11 rfl rfl (fun hc => ?_) (fun hc => ?_)
  · have h := ok_t hc h
    refine aw_run tTX5_state 3 (pc2 := 16) (L2 := [(0, .ref 0), (1, .int a1), (2, .int a2)]) (st2 := [.int 3, .int 0, .int a2]) rfl ?_
    obtain ⟨r2, er2, h⟩ := ok_b h
    refine aw_cS tTX5_state rfl 19 rfl (M' := MX5_within) (av := [.int a2, .int 0, .int 3]) (rest := []) rfl lkX5_51 hMX5_within rfl (s_X5_within hS er2) ⟨rfl, rfl, ⟨by decide, by decide⟩, by decide, by decide⟩ (Nat.le_of_ble_eq_true rfl) 46 (wf_len hS) rfl [.int r2] rfl ?_
    refine aw_if_ne tTX5_state rfl 25 22 rfl rfl (fun hc => ?_) (fun hc => ?_)
    · have h := ok_t hc h
      refine aw_run tTX5_state 1 (pc2 := 26) (L2 := [(0, .ref 0), (1, .int a1), (2, .int a2)]) (st2 := [.ref 0]) rfl ?_
      refine aw_getR tTX5_state rfl 29 rfl (w_0 hS) rfl flX5_12 ?_
      refine aw_run tTX5_state 2 (pc2 := 31) (L2 := [(0, .ref 0), (1, .int a1), (2, .int a2)]) (st2 := [.int a2, .int a1, .ref 1]) rfl ?_
      obtain ⟨r3, er3, h⟩ := ok_b h
      refine aw_cV tTX5_state rfl 34 rfl (M' := MX0_tell) (av := [.int a1, .int a2]) (rest := []) rfl lkX5_98 hMX0_tell rfl (w_1 hS) ⟨_, _, rfl⟩ (s_X0_tell_1 hS er3) ⟨rfl, rfl, ⟨by decide, by decide⟩, by decide, by decide⟩ (Nat.le_of_ble_eq_true rfl) 46 (wf_len hS) rfl [.int r3] rfl ?_
      have h := ok_r h
      exact aw_ir tTX5_state rfl rfl rfl (Nat.le_refl _) (Nat.le_refl _) h
    · have h := ok_fn hc h
      refine aw_run tTX5_state 1 (pc2 := 24) (L2 := [(0, .ref 0), (1, .int a1), (2, .int a2)]) (st2 := [.int (-2 : Int32)]) rfl ?_
      have h := ok_r h
      exact aw_ir tTX5_state rfl rfl rfl (Nat.le_refl _) (Nat.le_refl _) h
  · have h := ok_fn hc h
    refine aw_run tTX5_state 1 (pc2 := 12) (L2 := [(0, .ref 0), (1, .int a1), (2, .int a2)]) (st2 := [.int (-1 : Int32)]) rfl ?_
    have h := ok_r h
    exact aw_ir tTX5_state rfl rfl rfl (Nat.le_refl _) (Nat.le_refl _) h
theorem s_X5_state {g : Nat → Option Nat} {S : List SC} (hS : Wf g S) {σ : St} {a1 : Int32} {a2 : Int32} {r : Int32} (e : f_X5_state a1 a2 σ = some r) : Fn MX5_state rmX5_state [.ref 0, .int a1, .int a2] S σ (some (.int r)) σ := Sp.of (by decide) (Nat.le_of_ble_eq_true rfl) (t_X5_state hS a1 a2 ⟨r, e, rfl, rfl, rfl⟩)
def f_X5_behind (a1 : Int32) (a2 : Int32) (σ : St) : Option (Int32 × St) := Option.bind (f_X0_has 1 a1 σ) (fun r1 => if ¬ r1 = 0 then (Option.bind (f_X5_within a2 0 3) (fun r2 => if ¬ r2 = 0 then (Option.bind (f_X5_draftNights  σ) (fun r3 => if r3.1 = 0 then (some (((-5 : Int32), r3.2))) else (Option.bind (f_X0_tell 9 a1 a2 r3.2) (fun r4 => some ((r4, r3.2)))))) else (some (((-2 : Int32), σ))))) else (some (((-1 : Int32), σ))))
set_option maxHeartbeats 4000000 in
set_option maxRecDepth 20000 in
theorem t_X5_behind {g : Nat → Option Nat} {S : List SC} (hS : Wf g S) {σ : St} {Q : QT} (a1 : Int32) (a2 : Int32) (h : ok (f_X5_behind a1 a2 σ) (fun r => Q (some (.int r.1)) S r.2)) : AW MX5_behind E0 rmX5_behind 0 0 Q 0 0 S σ 0 [(0, .ref 0), (1, .int a1), (2, .int a2)] [] := by
  unfold f_X5_behind at h
  refine aw_run tTX5_behind 1 (pc2 := 1) (L2 := [(0, .ref 0), (1, .int a1), (2, .int a2)]) (st2 := [.ref 0]) rfl ?_
  refine aw_getR tTX5_behind rfl 4 rfl (w_0 hS) rfl flX5_12 ?_
  refine aw_run tTX5_behind 1 (pc2 := 5) (L2 := [(0, .ref 0), (1, .int a1), (2, .int a2)]) (st2 := [.int a1, .ref 1]) rfl ?_
  obtain ⟨r1, er1, h⟩ := ok_b h
  refine aw_cV tTX5_behind rfl 8 rfl (M' := MX0_has) (av := [.int a1]) (rest := []) rfl lkX5_63 hMX0_has rfl (w_1 hS) ⟨_, _, rfl⟩ (s_X0_has_1 hS er1) ⟨rfl, rfl, ⟨by decide, by decide⟩, by decide, by decide⟩ (Nat.le_of_ble_eq_true rfl) 46 (wf_len hS) rfl [.int r1] rfl ?_
  refine aw_if_ne tTX5_behind rfl 13 11 rfl rfl (fun hc => ?_) (fun hc => ?_)
  · have h := ok_t hc h
    refine aw_run tTX5_behind 3 (pc2 := 16) (L2 := [(0, .ref 0), (1, .int a1), (2, .int a2)]) (st2 := [.int 3, .int 0, .int a2]) rfl ?_
    obtain ⟨r2, er2, h⟩ := ok_b h
    refine aw_cS tTX5_behind rfl 19 rfl (M' := MX5_within) (av := [.int a2, .int 0, .int 3]) (rest := []) rfl lkX5_51 hMX5_within rfl (s_X5_within hS er2) ⟨rfl, rfl, ⟨by decide, by decide⟩, by decide, by decide⟩ (Nat.le_of_ble_eq_true rfl) 46 (wf_len hS) rfl [.int r2] rfl ?_
    refine aw_if_ne tTX5_behind rfl 25 22 rfl rfl (fun hc => ?_) (fun hc => ?_)
    · have h := ok_t hc h
      refine aw_run tTX5_behind 1 (pc2 := 26) (L2 := [(0, .ref 0), (1, .int a1), (2, .int a2)]) (st2 := [.ref 0]) rfl ?_
      obtain ⟨r3, er3, h⟩ := ok_b h
      refine aw_cV tTX5_behind rfl 29 rfl (M' := MX5_draftNights) (av := []) (rest := []) rfl lkX5_84 hMX5_draftNights rfl (w_0 hS) ⟨_, _, rfl⟩ (s_X5_draftNights hS er3) ⟨rfl, rfl, ⟨by decide, by decide⟩, by decide, by decide⟩ (Nat.le_of_ble_eq_true rfl) 46 (wf_len hS) rfl [.int r3.1] rfl ?_
      refine aw_if_eq tTX5_behind rfl 44 32 rfl rfl (fun hc => ?_) (fun hc => ?_)
      · have h := ok_t hc h
        refine aw_run tTX5_behind 1 (pc2 := 46) (L2 := [(0, .ref 0), (1, .int a1), (2, .int a2)]) (st2 := [.int (-5 : Int32)]) rfl ?_
        have h := ok_r h
        exact aw_ir tTX5_behind rfl rfl rfl (Nat.le_refl _) (Nat.le_refl _) h
      · have h := ok_f hc h
        refine aw_run tTX5_behind 1 (pc2 := 33) (L2 := [(0, .ref 0), (1, .int a1), (2, .int a2)]) (st2 := [.ref 0]) rfl ?_
        refine aw_getR tTX5_behind rfl 36 rfl (w_0 hS) rfl flX5_16 ?_
        refine aw_run tTX5_behind 2 (pc2 := 38) (L2 := [(0, .ref 0), (1, .int a1), (2, .int a2)]) (st2 := [.int a2, .int a1, .ref 9]) rfl ?_
        obtain ⟨r4, er4, h⟩ := ok_b h
        refine aw_cV tTX5_behind rfl 41 rfl (M' := MX0_tell) (av := [.int a1, .int a2]) (rest := []) rfl lkX5_98 hMX0_tell rfl (w_9 hS) ⟨_, _, rfl⟩ (s_X0_tell_9 hS er4) ⟨rfl, rfl, ⟨by decide, by decide⟩, by decide, by decide⟩ (Nat.le_of_ble_eq_true rfl) 46 (wf_len hS) rfl [.int r4] rfl ?_
        refine aw_run tTX5_behind 1 (pc2 := 46) (L2 := [(0, .ref 0), (1, .int a1), (2, .int a2)]) (st2 := [.int r4]) rfl ?_
        have h := ok_r h
        exact aw_ir tTX5_behind rfl rfl rfl (Nat.le_refl _) (Nat.le_refl _) h
    · have h := ok_fn hc h
      refine aw_run tTX5_behind 1 (pc2 := 24) (L2 := [(0, .ref 0), (1, .int a1), (2, .int a2)]) (st2 := [.int (-2 : Int32)]) rfl ?_
      have h := ok_r h
      exact aw_ir tTX5_behind rfl rfl rfl (Nat.le_refl _) (Nat.le_refl _) h
  · have h := ok_fn hc h
    refine aw_run tTX5_behind 1 (pc2 := 12) (L2 := [(0, .ref 0), (1, .int a1), (2, .int a2)]) (st2 := [.int (-1 : Int32)]) rfl ?_
    have h := ok_r h
    exact aw_ir tTX5_behind rfl rfl rfl (Nat.le_refl _) (Nat.le_refl _) h
theorem s_X5_behind {g : Nat → Option Nat} {S : List SC} (hS : Wf g S) {σ : St} {a1 : Int32} {a2 : Int32} {r : Int32 × St} (e : f_X5_behind a1 a2 σ = some r) : Fn MX5_behind rmX5_behind [.ref 0, .int a1, .int a2] S σ (some (.int r.1)) r.2 := Sp.of (by decide) (Nat.le_of_ble_eq_true rfl) (t_X5_behind hS a1 a2 ⟨r, e, rfl, rfl, rfl⟩)
def f_X5_trees (a1 : Int32) (σ : St) : Option (Int32) := if a1 = 0 then (Option.bind (f_X0_bareTrees 1 σ) (fun r1 => some (r1))) else (if a1 = 1 then (Option.bind (f_X0_robbedTrees 1 σ) (fun r2 => some ((σ 1 8) &&& (r2 ^^^ (-1 : Int32))))) else (if a1 = 2 then (Option.bind (f_X0_greatestHeap 1 σ) (fun r3 => some (r3))) else (some ((-2 : Int32)))))
set_option maxHeartbeats 4000000 in
set_option maxRecDepth 20000 in
theorem t_X5_trees {g : Nat → Option Nat} {S : List SC} (hS : Wf g S) {σ : St} {Q : QT} (a1 : Int32) (h : ok (f_X5_trees a1 σ) (fun r => Q (some (.int r)) S σ)) : AW MX5_trees E0 rmX5_trees 0 0 Q 0 0 S σ 0 [(0, .ref 0), (1, .int a1)] [] := by
  unfold f_X5_trees at h
  refine aw_run tTX5_trees 1 (pc2 := 1) (L2 := [(0, .ref 0), (1, .int a1)]) (st2 := [.int a1]) rfl ?_
  by_cases hc0 : a1 = 0
  · have h := ok_t hc0 h
    refine aw_tableK (off := 27) tTX5_trees rfl 0 hc0 rfl 28 rfl ?_
    refine aw_run tTX5_trees 1 (pc2 := 29) (L2 := [(0, .ref 0), (1, .int a1)]) (st2 := [.ref 0]) rfl ?_
    refine aw_getR tTX5_trees rfl 32 rfl (w_0 hS) rfl flX5_12 ?_
    obtain ⟨r1, er1, h⟩ := ok_b h
    refine aw_cV tTX5_trees rfl 35 rfl (M' := MX0_bareTrees) (av := []) (rest := []) rfl lkX5_102 hMX0_bareTrees rfl (w_1 hS) ⟨_, _, rfl⟩ (s_X0_bareTrees hS er1) ⟨rfl, rfl, ⟨by decide, by decide⟩, by decide, by decide⟩ (Nat.le_of_ble_eq_true rfl) 46 (wf_len hS) rfl [.int r1] rfl ?_
    have h := ok_r h
    exact aw_ir tTX5_trees rfl rfl rfl (Nat.le_refl _) (Nat.le_refl _) h
  · have h := ok_f hc0 h
    by_cases hc1 : a1 = 1
    · have h := ok_t hc1 h
      refine aw_tableK (off := 35) tTX5_trees rfl 1 hc1 rfl 36 rfl ?_
      refine aw_run tTX5_trees 1 (pc2 := 37) (L2 := [(0, .ref 0), (1, .int a1)]) (st2 := [.ref 0]) rfl ?_
      refine aw_getR tTX5_trees rfl 40 rfl (w_0 hS) rfl flX5_12 ?_
      refine aw_getI tTX5_trees rfl 43 rfl (w_1 hS) rfl flX5_105 ?_
      refine aw_run tTX5_trees 1 (pc2 := 44) (L2 := [(0, .ref 0), (1, .int a1)]) (st2 := [.ref 0, .int (σ 1 8)]) rfl ?_
      refine aw_getR tTX5_trees rfl 47 rfl (w_0 hS) rfl flX5_12 ?_
      obtain ⟨r2, er2, h⟩ := ok_b h
      refine aw_cV tTX5_trees rfl 50 rfl (M' := MX0_robbedTrees) (av := []) (rest := [.int (σ 1 8)]) rfl lkX5_108 hMX0_robbedTrees rfl (w_1 hS) ⟨_, _, rfl⟩ (s_X0_robbedTrees hS er2) ⟨rfl, rfl, ⟨by decide, by decide⟩, by decide, by decide⟩ (Nat.le_of_ble_eq_true rfl) 46 (wf_len hS) rfl [.int r2, .int (σ 1 8)] rfl ?_
      refine aw_run tTX5_trees 3 (pc2 := 53) (L2 := [(0, .ref 0), (1, .int a1)]) (st2 := [.int ((σ 1 8) &&& (r2 ^^^ (-1 : Int32)))]) rfl ?_
      have h := ok_r h
      exact aw_ir tTX5_trees rfl rfl rfl (Nat.le_refl _) (Nat.le_refl _) h
    · have h := ok_f hc1 h
      by_cases hc2 : a1 = 2
      · have h := ok_t hc2 h
        refine aw_tableK (off := 53) tTX5_trees rfl 2 hc2 rfl 54 rfl ?_
        refine aw_run tTX5_trees 1 (pc2 := 55) (L2 := [(0, .ref 0), (1, .int a1)]) (st2 := [.ref 0]) rfl ?_
        refine aw_getR tTX5_trees rfl 58 rfl (w_0 hS) rfl flX5_12 ?_
        obtain ⟨r3, er3, h⟩ := ok_b h
        refine aw_cV tTX5_trees rfl 61 rfl (M' := MX0_greatestHeap) (av := []) (rest := []) rfl lkX5_111 hMX0_greatestHeap rfl (w_1 hS) ⟨_, _, rfl⟩ (s_X0_greatestHeap hS er3) ⟨rfl, rfl, ⟨by decide, by decide⟩, by decide, by decide⟩ (Nat.le_of_ble_eq_true rfl) 46 (wf_len hS) rfl [.int r3] rfl ?_
        have h := ok_r h
        exact aw_ir tTX5_trees rfl rfl rfl (Nat.le_refl _) (Nat.le_refl _) h
      · have h := ok_f hc2 h
        refine aw_tableN tTX5_trees rfl [0, 1, 2] (by intro k hk; simp only [List.mem_cons, List.not_mem_nil, or_false] at hk; rcases hk with rfl | rfl | rfl <;> assumption) (by decide) 62 rfl ?_
        refine aw_run tTX5_trees 1 (pc2 := 64) (L2 := [(0, .ref 0), (1, .int a1)]) (st2 := [.int (-2 : Int32)]) rfl ?_
        have h := ok_r h
        exact aw_ir tTX5_trees rfl rfl rfl (Nat.le_refl _) (Nat.le_refl _) h
theorem s_X5_trees {g : Nat → Option Nat} {S : List SC} (hS : Wf g S) {σ : St} {a1 : Int32} {r : Int32} (e : f_X5_trees a1 σ = some r) : Fn MX5_trees rmX5_trees [.ref 0, .int a1] S σ (some (.int r)) σ := Sp.of (by decide) (Nat.le_of_ble_eq_true rfl) (t_X5_trees hS a1 ⟨r, e, rfl, rfl, rfl⟩)
def f_X5_may (a1 : Int32) (σ : St) : Option (Int32) := Option.bind (f_X0_has 1 a1 σ) (fun r1 => if r1 = 0 then (some ((-1 : Int32))) else (Option.bind (f_X0_canRobNow 1 a1 σ) (fun r2 => some (r2))))
set_option maxHeartbeats 4000000 in
set_option maxRecDepth 20000 in
theorem t_X5_may {g : Nat → Option Nat} {S : List SC} (hS : Wf g S) {σ : St} {Q : QT} (a1 : Int32) (h : ok (f_X5_may a1 σ) (fun r => Q (some (.int r)) S σ)) : AW MX5_may E0 rmX5_may 0 0 Q 0 0 S σ 0 [(0, .ref 0), (1, .int a1)] [] := by
  unfold f_X5_may at h
  refine aw_run tTX5_may 1 (pc2 := 1) (L2 := [(0, .ref 0), (1, .int a1)]) (st2 := [.ref 0]) rfl ?_
  refine aw_getR tTX5_may rfl 4 rfl (w_0 hS) rfl flX5_12 ?_
  refine aw_run tTX5_may 1 (pc2 := 5) (L2 := [(0, .ref 0), (1, .int a1)]) (st2 := [.int a1, .ref 1]) rfl ?_
  obtain ⟨r1, er1, h⟩ := ok_b h
  refine aw_cV tTX5_may rfl 8 rfl (M' := MX0_has) (av := [.int a1]) (rest := []) rfl lkX5_63 hMX0_has rfl (w_1 hS) ⟨_, _, rfl⟩ (s_X0_has_1 hS er1) ⟨rfl, rfl, ⟨by decide, by decide⟩, by decide, by decide⟩ (Nat.le_of_ble_eq_true rfl) 46 (wf_len hS) rfl [.int r1] rfl ?_
  refine aw_if_eq tTX5_may rfl 22 11 rfl rfl (fun hc => ?_) (fun hc => ?_)
  · have h := ok_t hc h
    refine aw_run tTX5_may 1 (pc2 := 23) (L2 := [(0, .ref 0), (1, .int a1)]) (st2 := [.int (-1 : Int32)]) rfl ?_
    have h := ok_r h
    exact aw_ir tTX5_may rfl rfl rfl (Nat.le_refl _) (Nat.le_refl _) h
  · have h := ok_f hc h
    refine aw_run tTX5_may 1 (pc2 := 12) (L2 := [(0, .ref 0), (1, .int a1)]) (st2 := [.ref 0]) rfl ?_
    refine aw_getR tTX5_may rfl 15 rfl (w_0 hS) rfl flX5_12 ?_
    refine aw_run tTX5_may 1 (pc2 := 16) (L2 := [(0, .ref 0), (1, .int a1)]) (st2 := [.int a1, .ref 1]) rfl ?_
    obtain ⟨r2, er2, h⟩ := ok_b h
    refine aw_cV tTX5_may rfl 19 rfl (M' := MX0_canRobNow) (av := [.int a1]) (rest := []) rfl lkX5_114 hMX0_canRobNow rfl (w_1 hS) ⟨_, _, rfl⟩ (s_X0_canRobNow hS er2) ⟨rfl, rfl, ⟨by decide, by decide⟩, by decide, by decide⟩ (Nat.le_of_ble_eq_true rfl) 46 (wf_len hS) rfl [.int r2] rfl ?_
    refine aw_run tTX5_may 1 (pc2 := 23) (L2 := [(0, .ref 0), (1, .int a1)]) (st2 := [.int r2]) rfl ?_
    have h := ok_r h
    exact aw_ir tTX5_may rfl rfl rfl (Nat.le_refl _) (Nat.le_refl _) h
theorem s_X5_may {g : Nat → Option Nat} {S : List SC} (hS : Wf g S) {σ : St} {a1 : Int32} {r : Int32} (e : f_X5_may a1 σ = some r) : Fn MX5_may rmX5_may [.ref 0, .int a1] S σ (some (.int r)) σ := Sp.of (by decide) (Nat.le_of_ble_eq_true rfl) (t_X5_may hS a1 ⟨r, e, rfl, rfl, rfl⟩)
def l_X5_safe_4 (σ : St) (y1 : Int32) (y2 : Int32) : Option ((Int32 × Int32) ⊕ (Int32)) := if 6 ≤ y2 then (some (.inr y1)) else (Option.bind (f_X0_mayRobOf 1 y2 σ) (fun r4 => some (.inl (y1 ||| r4, y2 + 1))))
def f_X5_safe  (σ : St) : Option (Int32) := Option.bind (loop (fun s : Int32 × Int32 => l_X5_safe_4 σ s.1 s.2) 400 (0, 0)) (fun (z3 : Int32) => some ((σ 1 8) &&& (z3 ^^^ (-1 : Int32))))
set_option maxHeartbeats 4000000 in
set_option maxRecDepth 20000 in
theorem t_X5_safe {g : Nat → Option Nat} {S : List SC} (hS : Wf g S) {σ : St} {Q : QT}  (h : ok (f_X5_safe  σ) (fun r => Q (some (.int r)) S σ)) : AW MX5_safe E0 rmX5_safe 0 0 Q 0 0 S σ 0 [(0, .ref 0)] [] := by
  unfold f_X5_safe at h
  refine aw_run tTX5_safe 4 (pc2 := 4) (L2 := [(2, .int 0), (1, .int 0), (0, .ref 0)]) (st2 := []) rfl ?_
  refine ok_use (P := fun z3 : Int32 => AW MX5_safe E0 rmX5_safe 0 0 Q 0 0 S σ 27 [(0, .ref 0), (1, .int z3)] []) (ok_b h) (fun z3 h => ?_) (fun h => ?_)
  · refine aw_run tTX5_safe 1 (pc2 := 28) (L2 := [(0, .ref 0), (1, .int z3)]) (st2 := [.ref 0]) rfl ?_
    refine aw_getR tTX5_safe rfl 31 rfl (w_0 hS) rfl flX5_12 ?_
    refine aw_getI tTX5_safe rfl 34 rfl (w_1 hS) rfl flX5_105 ?_
    refine aw_run tTX5_safe 4 (pc2 := 38) (L2 := [(0, .ref 0), (1, .int z3)]) (st2 := [.int ((σ 1 8) &&& (z3 ^^^ (-1 : Int32)))]) rfl ?_
    have h := ok_r h
    exact aw_ir tTX5_safe rfl rfl rfl (Nat.le_refl _) (Nat.le_refl _) h
  · refine aw_sub [2, 1, 0] rfl ?_
    refine loop_P (P := fun s : Int32 × Int32 => AW MX5_safe E0 rmX5_safe 0 0 Q 0 0 S σ 4 [(0, .ref 0), (1, .int s.1), (2, .int s.2)] []) (fun s h => ?_) _ _ h
    obtain ⟨y1, y2⟩ := s
    replace h : ok (l_X5_safe_4 σ y1 y2) _ := h
    unfold l_X5_safe_4 at h
    show AW MX5_safe E0 rmX5_safe 0 0 Q 0 0 S σ 4 [(0, .ref 0), (1, .int y1), (2, .int y2)] []
    refine aw_run tTX5_safe 2 (pc2 := 7) (L2 := [(0, .ref 0), (1, .int y1), (2, .int y2)]) (st2 := [.int 6, .int y2]) rfl ?_
    refine aw_icmp_ge tTX5_safe rfl 27 10 rfl rfl (fun hc => ?_) (fun hc => ?_)
    · have h := ok_t hc h
      refine aw_sub [0, 1] rfl ?_
      have h := ok_r h
      exact h
    · have h := ok_f hc h
      refine aw_run tTX5_safe 2 (pc2 := 12) (L2 := [(0, .ref 0), (1, .int y1), (2, .int y2)]) (st2 := [.ref 0, .int y1]) rfl ?_
      refine aw_getR tTX5_safe rfl 15 rfl (w_0 hS) rfl flX5_12 ?_
      refine aw_run tTX5_safe 1 (pc2 := 16) (L2 := [(0, .ref 0), (1, .int y1), (2, .int y2)]) (st2 := [.int y2, .ref 1, .int y1]) rfl ?_
      obtain ⟨r4, er4, h⟩ := ok_b h
      refine aw_cV tTX5_safe rfl 19 rfl (M' := MX0_mayRobOf) (av := [.int y2]) (rest := [.int y1]) rfl lkX5_118 hMX0_mayRobOf rfl (w_1 hS) ⟨_, _, rfl⟩ (s_X0_mayRobOf hS er4) ⟨rfl, rfl, ⟨by decide, by decide⟩, by decide, by decide⟩ (Nat.le_of_ble_eq_true rfl) 46 (wf_len hS) rfl [.int r4, .int y1] rfl ?_
      refine aw_run tTX5_safe 4 (pc2 := 4) (L2 := [(2, .int (y2 + 1)), (1, .int (y1 ||| r4)), (0, .ref 0)]) (st2 := []) rfl ?_
      refine aw_sub [2, 1, 0] rfl ?_
      have h := ok_r h
      exact h
theorem s_X5_safe {g : Nat → Option Nat} {S : List SC} (hS : Wf g S) {σ : St}  {r : Int32} (e : f_X5_safe  σ = some r) : Fn MX5_safe rmX5_safe [.ref 0] S σ (some (.int r)) σ := Sp.of (by decide) (Nat.le_of_ble_eq_true rfl) (t_X5_safe hS  ⟨r, e, rfl, rfl, rfl⟩)
def l_X5_mostThefts_35 (a2 : Int32) (σ : St) (y3 : Int32) (y6 : Int32) (y7 : Int32) : Option ((Int32 × Int32) ⊕ (Int32)) := if 6 ≤ y7 then (some (.inr y6)) else (Option.bind (f_X0_thievesOf 1 y7 σ) (fun r9 => Option.bind (f_J6_bitCount_0f7a4 (y3 &&& r9)) (fun r10 => Option.bind (f_X0_wanted 1 y7 a2 σ) (fun r11 => some (.inl (y6 + (jmin r11 r10), y7 + 1))))))
def l_X5_mostThefts_9 (a2 : Int32) (a3 : Int32) (σ : St) (y2 : Int32) (y3 : Int32) : Option ((Int32 × Int32) ⊕ (Int32)) := if 64 ≤ y3 then (some (.inr y2)) else (Option.bind (f_J6_bitCount_0f7a4 ((σ 1 8) &&& (y3 ^^^ (-1 : Int32)))) (fun r5 => Option.bind (loop (fun s : Int32 × Int32 => l_X5_mostThefts_35 a2 σ y3 s.1 s.2) 400 (a3 * r5, 0)) (fun (z8 : Int32) => some (.inl (jmin y2 z8, y3 + 1)))))
def f_X5_mostThefts (a2 : Int32) (a3 : Int32) (σ : St) : Option (Int32) := Option.bind (f_X0_wantedTogether 1 a2 σ) (fun r1 => Option.bind (loop (fun s : Int32 × Int32 => l_X5_mostThefts_9 a2 a3 σ s.1 s.2) 400 (r1, 0)) (fun (z4 : Int32) => some (z4)))
set_option maxHeartbeats 4000000 in
set_option maxRecDepth 20000 in
theorem t_X5_mostThefts {g : Nat → Option Nat} {S : List SC} (hS : Wf g S) {σ : St} {Q : QT} (a2 : Int32) (a3 : Int32) (h : ok (f_X5_mostThefts a2 a3 σ) (fun r => Q (some (.int r)) S σ)) : AW MX5_mostThefts E0 rmX5_mostThefts 0 0 Q 0 0 S σ 0 [(0, .ref 1), (1, .int a2), (2, .int a3)] [] := by
  unfold f_X5_mostThefts at h
  refine aw_run tTX5_mostThefts 2 (pc2 := 2) (L2 := [(0, .ref 1), (1, .int a2), (2, .int a3)]) (st2 := [.int a2, .ref 1]) rfl ?_
  obtain ⟨r1, er1, h⟩ := ok_b h
  refine aw_cV tTX5_mostThefts rfl 5 rfl (M' := MX0_wantedTogether) (av := [.int a2]) (rest := []) rfl lkX5_121 hMX0_wantedTogether rfl (w_1 hS) ⟨_, _, rfl⟩ (s_X0_wantedTogether hS er1) ⟨rfl, rfl, ⟨by decide, by decide⟩, by decide, by decide⟩ (Nat.le_of_ble_eq_true rfl) 46 (wf_len hS) rfl [.int r1] rfl ?_
  refine aw_run tTX5_mostThefts 3 (pc2 := 9) (L2 := [(4, .int 0), (3, .int r1), (0, .ref 1), (1, .int a2), (2, .int a3)]) (st2 := []) rfl ?_
  refine ok_use (P := fun z4 : Int32 => AW MX5_mostThefts E0 rmX5_mostThefts 0 0 Q 0 0 S σ 92 [(3, .int z4)] []) (ok_b h) (fun z4 h => ?_) (fun h => ?_)
  · refine aw_run tTX5_mostThefts 1 (pc2 := 93) (L2 := [(3, .int z4)]) (st2 := [.int z4]) rfl ?_
    have h := ok_r h
    exact aw_ir tTX5_mostThefts rfl rfl rfl (Nat.le_refl _) (Nat.le_refl _) h
  · refine aw_sub [2, 3, 4, 1, 0] rfl ?_
    refine loop_P (P := fun s : Int32 × Int32 => AW MX5_mostThefts E0 rmX5_mostThefts 0 0 Q 0 0 S σ 9 [(0, .ref 1), (1, .int a2), (2, .int a3), (3, .int s.1), (4, .int s.2)] []) (fun s h => ?_) _ _ h
    obtain ⟨y2, y3⟩ := s
    replace h : ok (l_X5_mostThefts_9 a2 a3 σ y2 y3) _ := h
    unfold l_X5_mostThefts_9 at h
    show AW MX5_mostThefts E0 rmX5_mostThefts 0 0 Q 0 0 S σ 9 [(0, .ref 1), (1, .int a2), (2, .int a3), (3, .int y2), (4, .int y3)] []
    refine aw_run tTX5_mostThefts 2 (pc2 := 13) (L2 := [(0, .ref 1), (1, .int a2), (2, .int a3), (3, .int y2), (4, .int y3)]) (st2 := [.int 64, .int y3]) rfl ?_
    refine aw_icmp_ge tTX5_mostThefts rfl 92 16 rfl rfl (fun hc => ?_) (fun hc => ?_)
    · have h := ok_t hc h
      refine aw_sub [3] rfl ?_
      have h := ok_r h
      exact h
    · have h := ok_f hc h
      refine aw_run tTX5_mostThefts 2 (pc2 := 18) (L2 := [(0, .ref 1), (1, .int a2), (2, .int a3), (3, .int y2), (4, .int y3)]) (st2 := [.ref 1, .int a3]) rfl ?_
      refine aw_getI tTX5_mostThefts rfl 21 rfl (w_1 hS) rfl flX5_105 ?_
      refine aw_run tTX5_mostThefts 4 (pc2 := 26) (L2 := [(0, .ref 1), (1, .int a2), (2, .int a3), (3, .int y2), (4, .int y3)]) (st2 := [.int ((σ 1 8) &&& (y3 ^^^ (-1 : Int32))), .int a3]) rfl ?_
      obtain ⟨r5, er5, h⟩ := ok_b h
      refine aw_cS tTX5_mostThefts rfl 29 rfl (M' := MJ6_bitCount_0f7a4) (av := [.int ((σ 1 8) &&& (y3 ^^^ (-1 : Int32)))]) (rest := [.int a3]) rfl lkX5_233 hMJ6_bitCount_0f7a4 rfl (s_J6_bitCount_0f7a4 hS er5) ⟨rfl, rfl, ⟨by decide, by decide⟩, by decide, by decide⟩ (Nat.le_of_ble_eq_true rfl) 46 (wf_len hS) rfl [.int r5, .int a3] rfl ?_
      refine aw_run tTX5_mostThefts 4 (pc2 := 35) (L2 := [(6, .int 0), (5, .int (a3 * r5)), (0, .ref 1), (1, .int a2), (2, .int a3), (3, .int y2), (4, .int y3)]) (st2 := []) rfl ?_
      refine ok_use (P := fun z8 : Int32 => AW MX5_mostThefts E0 rmX5_mostThefts 0 0 Q 0 0 S σ 79 [(0, .ref 1), (1, .int a2), (2, .int a3), (3, .int y2), (4, .int y3), (5, .int z8)] []) (ok_b h) (fun z8 h => ?_) (fun h => ?_)
      · refine aw_run tTX5_mostThefts 2 (pc2 := 82) (L2 := [(0, .ref 1), (1, .int a2), (2, .int a3), (3, .int y2), (4, .int y3), (5, .int z8)]) (st2 := [.int z8, .int y2]) rfl ?_
        refine aw_min tTX5_mostThefts rfl 85 rfl lkX5_149 (by decide) (Nat.le_of_ble_eq_true rfl) (Nat.zero_le _) (Nat.zero_le _) ?_
        refine aw_run tTX5_mostThefts 3 (pc2 := 9) (L2 := [(4, .int (y3 + 1)), (3, .int (jmin y2 z8)), (0, .ref 1), (1, .int a2), (2, .int a3), (5, .int z8)]) (st2 := []) rfl ?_
        refine aw_sub [2, 3, 4, 1, 0] rfl ?_
        have h := ok_r h
        exact h
      · refine aw_sub [2, 3, 4, 5, 6, 1, 0] rfl ?_
        refine loop_P (P := fun s : Int32 × Int32 => AW MX5_mostThefts E0 rmX5_mostThefts 0 0 Q 0 0 S σ 35 [(0, .ref 1), (1, .int a2), (2, .int a3), (3, .int y2), (4, .int y3), (5, .int s.1), (6, .int s.2)] []) (fun s h => ?_) _ _ h
        obtain ⟨y6, y7⟩ := s
        replace h : ok (l_X5_mostThefts_35 a2 σ y3 y6 y7) _ := h
        unfold l_X5_mostThefts_35 at h
        show AW MX5_mostThefts E0 rmX5_mostThefts 0 0 Q 0 0 S σ 35 [(0, .ref 1), (1, .int a2), (2, .int a3), (3, .int y2), (4, .int y3), (5, .int y6), (6, .int y7)] []
        refine aw_run tTX5_mostThefts 2 (pc2 := 39) (L2 := [(0, .ref 1), (1, .int a2), (2, .int a3), (3, .int y2), (4, .int y3), (5, .int y6), (6, .int y7)]) (st2 := [.int 6, .int y7]) rfl ?_
        refine aw_icmp_ge tTX5_mostThefts rfl 79 42 rfl rfl (fun hc => ?_) (fun hc => ?_)
        · have h := ok_t hc h
          refine aw_sub [0, 1, 2, 3, 4, 5] rfl ?_
          have h := ok_r h
          exact h
        · have h := ok_f hc h
          refine aw_run tTX5_mostThefts 3 (pc2 := 47) (L2 := [(0, .ref 1), (1, .int a2), (2, .int a3), (3, .int y2), (4, .int y3), (5, .int y6), (6, .int y7)]) (st2 := [.int y7, .ref 1, .int y3]) rfl ?_
          obtain ⟨r9, er9, h⟩ := ok_b h
          refine aw_cV tTX5_mostThefts rfl 50 rfl (M' := MX0_thievesOf) (av := [.int y7]) (rest := [.int y3]) rfl lkX5_238 hMX0_thievesOf rfl (w_1 hS) ⟨_, _, rfl⟩ (s_X0_thievesOf hS er9) ⟨rfl, rfl, ⟨by decide, by decide⟩, by decide, by decide⟩ (Nat.le_of_ble_eq_true rfl) 46 (wf_len hS) rfl [.int r9, .int y3] rfl ?_
          refine aw_run tTX5_mostThefts 1 (pc2 := 51) (L2 := [(0, .ref 1), (1, .int a2), (2, .int a3), (3, .int y2), (4, .int y3), (5, .int y6), (6, .int y7)]) (st2 := [.int (y3 &&& r9)]) rfl ?_
          obtain ⟨r10, er10, h⟩ := ok_b h
          refine aw_cS tTX5_mostThefts rfl 54 rfl (M' := MJ6_bitCount_0f7a4) (av := [.int (y3 &&& r9)]) (rest := []) rfl lkX5_233 hMJ6_bitCount_0f7a4 rfl (s_J6_bitCount_0f7a4 hS er10) ⟨rfl, rfl, ⟨by decide, by decide⟩, by decide, by decide⟩ (Nat.le_of_ble_eq_true rfl) 46 (wf_len hS) rfl [.int r10] rfl ?_
          refine aw_run tTX5_mostThefts 5 (pc2 := 62) (L2 := [(7, .int r10), (0, .ref 1), (1, .int a2), (2, .int a3), (3, .int y2), (4, .int y3), (5, .int y6), (6, .int y7)]) (st2 := [.int a2, .int y7, .ref 1, .int y6]) rfl ?_
          obtain ⟨r11, er11, h⟩ := ok_b h
          refine aw_cV tTX5_mostThefts rfl 65 rfl (M' := MX0_wanted) (av := [.int y7, .int a2]) (rest := [.int y6]) rfl lkX5_241 hMX0_wanted rfl (w_1 hS) ⟨_, _, rfl⟩ (s_X0_wanted hS er11) ⟨rfl, rfl, ⟨by decide, by decide⟩, by decide, by decide⟩ (Nat.le_of_ble_eq_true rfl) 46 (wf_len hS) rfl [.int r11, .int y6] rfl ?_
          refine aw_run tTX5_mostThefts 1 (pc2 := 67) (L2 := [(7, .int r10), (0, .ref 1), (1, .int a2), (2, .int a3), (3, .int y2), (4, .int y3), (5, .int y6), (6, .int y7)]) (st2 := [.int r10, .int r11, .int y6]) rfl ?_
          refine aw_min tTX5_mostThefts rfl 70 rfl lkX5_149 (by decide) (Nat.le_of_ble_eq_true rfl) (Nat.zero_le _) (Nat.zero_le _) ?_
          refine aw_run tTX5_mostThefts 4 (pc2 := 35) (L2 := [(6, .int (y7 + 1)), (5, .int (y6 + (jmin r11 r10))), (7, .int r10), (0, .ref 1), (1, .int a2), (2, .int a3), (3, .int y2), (4, .int y3)]) (st2 := []) rfl ?_
          refine aw_sub [3, 4, 5, 6, 7, 1, 0] rfl ?_
          have h := ok_r h
          exact h
theorem s_X5_mostThefts {g : Nat → Option Nat} {S : List SC} (hS : Wf g S) {σ : St} {a2 : Int32} {a3 : Int32} {r : Int32} (e : f_X5_mostThefts a2 a3 σ = some r) : Fn MX5_mostThefts rmX5_mostThefts [.ref 1, .int a2, .int a3] S σ (some (.int r)) σ := Sp.of (by decide) (Nat.le_of_ble_eq_true rfl) (t_X5_mostThefts hS a2 a3 ⟨r, e, rfl, rfl, rfl⟩)
def l_X5_stripped_24 (a1 : Int32) (σ : St) (r2 : Int32) (y3 : Int32) : Option ((Int32) ⊕ ((Unit) ⊕ (Int32))) := if 5 < y3 then (some (.inr (.inl ()))) else (Option.bind (f_X5_mostThefts a1 y3 σ) (fun r5 => if ¬ r5 = r2 then (some (.inl (y3 + 1))) else (some (.inr (.inr (y3))))))
def f_X5_stripped (a1 : Int32) (σ : St) : Option (Int32) := Option.bind (f_X5_within a1 1 20) (fun r1 => if ¬ r1 = 0 then (Option.bind (f_X0_wantedTogether 1 a1 σ) (fun r2 => Option.bind (loop (fun s : Int32 => l_X5_stripped_24 a1 σ r2 s) 400 0) (fun z6 => match z6 with
    | .inl z4 => some ((-6 : Int32))
    | .inr z6 => some (z6)))) else (some ((-2 : Int32))))
set_option maxHeartbeats 4000000 in
set_option maxRecDepth 20000 in
theorem t_X5_stripped {g : Nat → Option Nat} {S : List SC} (hS : Wf g S) {σ : St} {Q : QT} (a1 : Int32) (h : ok (f_X5_stripped a1 σ) (fun r => Q (some (.int r)) S σ)) : AW MX5_stripped E0 rmX5_stripped 0 0 Q 0 0 S σ 0 [(0, .ref 0), (1, .int a1)] [] := by
  unfold f_X5_stripped at h
  refine aw_run tTX5_stripped 3 (pc2 := 4) (L2 := [(0, .ref 0), (1, .int a1)]) (st2 := [.int 20, .int 1, .int a1]) rfl ?_
  obtain ⟨r1, er1, h⟩ := ok_b h
  refine aw_cS tTX5_stripped rfl 7 rfl (M' := MX5_within) (av := [.int a1, .int 1, .int 20]) (rest := []) rfl lkX5_51 hMX5_within rfl (s_X5_within hS er1) ⟨rfl, rfl, ⟨by decide, by decide⟩, by decide, by decide⟩ (Nat.le_of_ble_eq_true rfl) 46 (wf_len hS) rfl [.int r1] rfl ?_
  refine aw_if_ne tTX5_stripped rfl 13 10 rfl rfl (fun hc => ?_) (fun hc => ?_)
  · have h := ok_t hc h
    refine aw_run tTX5_stripped 1 (pc2 := 14) (L2 := [(0, .ref 0), (1, .int a1)]) (st2 := [.ref 0]) rfl ?_
    refine aw_getR tTX5_stripped rfl 17 rfl (w_0 hS) rfl flX5_12 ?_
    refine aw_run tTX5_stripped 1 (pc2 := 18) (L2 := [(0, .ref 0), (1, .int a1)]) (st2 := [.int a1, .ref 1]) rfl ?_
    obtain ⟨r2, er2, h⟩ := ok_b h
    refine aw_cV tTX5_stripped rfl 21 rfl (M' := MX0_wantedTogether) (av := [.int a1]) (rest := []) rfl lkX5_121 hMX0_wantedTogether rfl (w_1 hS) ⟨_, _, rfl⟩ (s_X0_wantedTogether hS er2) ⟨rfl, rfl, ⟨by decide, by decide⟩, by decide, by decide⟩ (Nat.le_of_ble_eq_true rfl) 46 (wf_len hS) rfl [.int r2] rfl ?_
    refine aw_run tTX5_stripped 3 (pc2 := 24) (L2 := [(3, .int 0), (2, .int r2), (0, .ref 0), (1, .int a1)]) (st2 := []) rfl ?_
    refine ok_use (P := fun z6 : (Unit) ⊕ (Int32) => match z6 with
    | .inl z4 => AW MX5_stripped E0 rmX5_stripped 0 0 Q 0 0 S σ 50 [] []
    | .inr z6 => Q (some (.int z6)) S σ) (ok_b h) (fun z6 h => ?_) (fun h => ?_)
    · cases z6 with
      | inl z4 =>
        refine aw_run tTX5_stripped 1 (pc2 := 52) (L2 := []) (st2 := [.int (-6 : Int32)]) rfl ?_
        have h := ok_r h
        exact aw_ir tTX5_stripped rfl rfl rfl (Nat.le_refl _) (Nat.le_refl _) h
      | inr z6 =>
        have h := ok_r h
        exact h
    · refine aw_sub [2, 3, 1, 0] rfl ?_
      refine loop_P (P := fun s : Int32 => AW MX5_stripped E0 rmX5_stripped 0 0 Q 0 0 S σ 24 [(0, .ref 0), (1, .int a1), (2, .int r2), (3, .int s)] []) (fun s h => ?_) _ _ h
      obtain ⟨y3, rfl⟩ : ∃ y, y = s := ⟨_, rfl⟩
      replace h : ok (l_X5_stripped_24 a1 σ r2 y3) _ := h
      unfold l_X5_stripped_24 at h
      show AW MX5_stripped E0 rmX5_stripped 0 0 Q 0 0 S σ 24 [(0, .ref 0), (1, .int a1), (2, .int r2), (3, .int y3)] []
      refine aw_run tTX5_stripped 2 (pc2 := 26) (L2 := [(0, .ref 0), (1, .int a1), (2, .int r2), (3, .int y3)]) (st2 := [.int 5, .int y3]) rfl ?_
      refine aw_icmp_gt tTX5_stripped rfl 50 29 rfl rfl (fun hc => ?_) (fun hc => ?_)
      · have h := ok_t hc h
        refine aw_sub [] rfl ?_
        have h := ok_r h
        exact h
      · have h := ok_f hc h
        refine aw_run tTX5_stripped 1 (pc2 := 30) (L2 := [(0, .ref 0), (1, .int a1), (2, .int r2), (3, .int y3)]) (st2 := [.ref 0]) rfl ?_
        refine aw_getR tTX5_stripped rfl 33 rfl (w_0 hS) rfl flX5_12 ?_
        refine aw_run tTX5_stripped 2 (pc2 := 35) (L2 := [(0, .ref 0), (1, .int a1), (2, .int r2), (3, .int y3)]) (st2 := [.int y3, .int a1, .ref 1]) rfl ?_
        obtain ⟨r5, er5, h⟩ := ok_b h
        refine aw_cS tTX5_stripped rfl 38 rfl (M' := MX5_mostThefts) (av := [.ref 1, .int a1, .int y3]) (rest := []) rfl lkX5_124 hMX5_mostThefts rfl (s_X5_mostThefts hS er5) ⟨rfl, rfl, ⟨by decide, by decide⟩, by decide, by decide⟩ (Nat.le_of_ble_eq_true rfl) 46 (wf_len hS) rfl [.int r5] rfl ?_
        refine aw_run tTX5_stripped 1 (pc2 := 39) (L2 := [(0, .ref 0), (1, .int a1), (2, .int r2), (3, .int y3)]) (st2 := [.int r2, .int r5]) rfl ?_
        refine aw_icmp_ne tTX5_stripped rfl 44 42 rfl rfl (fun hc => ?_) (fun hc => ?_)
        · have h := ok_t hc h
          refine aw_run tTX5_stripped 2 (pc2 := 24) (L2 := [(3, .int (y3 + 1)), (0, .ref 0), (1, .int a1), (2, .int r2)]) (st2 := []) rfl ?_
          refine aw_sub [1, 2, 3, 0] rfl ?_
          have h := ok_r h
          exact h
        · have h := ok_fn hc h
          refine aw_run tTX5_stripped 1 (pc2 := 43) (L2 := [(0, .ref 0), (1, .int a1), (2, .int r2), (3, .int y3)]) (st2 := [.int y3]) rfl ?_
          have h := ok_r h
          exact aw_ir tTX5_stripped rfl rfl rfl (Nat.le_refl _) (Nat.le_refl _) h
  · have h := ok_fn hc h
    refine aw_run tTX5_stripped 1 (pc2 := 12) (L2 := [(0, .ref 0), (1, .int a1)]) (st2 := [.int (-2 : Int32)]) rfl ?_
    have h := ok_r h
    exact aw_ir tTX5_stripped rfl rfl rfl (Nat.le_refl _) (Nat.le_refl _) h
theorem s_X5_stripped {g : Nat → Option Nat} {S : List SC} (hS : Wf g S) {σ : St} {a1 : Int32} {r : Int32} (e : f_X5_stripped a1 σ = some r) : Fn MX5_stripped rmX5_stripped [.ref 0, .int a1] S σ (some (.int r)) σ := Sp.of (by decide) (Nat.le_of_ble_eq_true rfl) (t_X5_stripped hS a1 ⟨r, e, rfl, rfl, rfl⟩)
def f_X5_thefts (a1 : Int32) (a2 : Int32) (σ : St) : Option (Int32) := Option.bind (f_X5_within a1 1 20) (fun r1 => if r1 = 0 then (some ((-2 : Int32))) else (Option.bind (f_X5_within a2 0 5) (fun r2 => if ¬ r2 = 0 then (Option.bind (f_X5_mostThefts a1 a2 σ) (fun r3 => some (r3))) else (some ((-2 : Int32))))))
set_option maxHeartbeats 4000000 in
set_option maxRecDepth 20000 in
theorem t_X5_thefts {g : Nat → Option Nat} {S : List SC} (hS : Wf g S) {σ : St} {Q : QT} (a1 : Int32) (a2 : Int32) (h : ok (f_X5_thefts a1 a2 σ) (fun r => Q (some (.int r)) S σ)) : AW MX5_thefts E0 rmX5_thefts 0 0 Q 0 0 S σ 0 [(0, .ref 0), (1, .int a1), (2, .int a2)] [] := by
  unfold f_X5_thefts at h
  refine aw_run tTX5_thefts 3 (pc2 := 4) (L2 := [(0, .ref 0), (1, .int a1), (2, .int a2)]) (st2 := [.int 20, .int 1, .int a1]) rfl ?_
  obtain ⟨r1, er1, h⟩ := ok_b h
  refine aw_cS tTX5_thefts rfl 7 rfl (M' := MX5_within) (av := [.int a1, .int 1, .int 20]) (rest := []) rfl lkX5_51 hMX5_within rfl (s_X5_within hS er1) ⟨rfl, rfl, ⟨by decide, by decide⟩, by decide, by decide⟩ (Nat.le_of_ble_eq_true rfl) 46 (wf_len hS) rfl [.int r1] rfl ?_
  refine aw_if_eq tTX5_thefts rfl 19 10 rfl rfl (fun hc => ?_) (fun hc => ?_)
  · have h := ok_t hc h
    refine aw_run tTX5_thefts 1 (pc2 := 21) (L2 := [(0, .ref 0), (1, .int a1), (2, .int a2)]) (st2 := [.int (-2 : Int32)]) rfl ?_
    have h := ok_r h
    exact aw_ir tTX5_thefts rfl rfl rfl (Nat.le_refl _) (Nat.le_refl _) h
  · have h := ok_f hc h
    refine aw_run tTX5_thefts 3 (pc2 := 13) (L2 := [(0, .ref 0), (1, .int a1), (2, .int a2)]) (st2 := [.int 5, .int 0, .int a2]) rfl ?_
    obtain ⟨r2, er2, h⟩ := ok_b h
    refine aw_cS tTX5_thefts rfl 16 rfl (M' := MX5_within) (av := [.int a2, .int 0, .int 5]) (rest := []) rfl lkX5_51 hMX5_within rfl (s_X5_within hS er2) ⟨rfl, rfl, ⟨by decide, by decide⟩, by decide, by decide⟩ (Nat.le_of_ble_eq_true rfl) 46 (wf_len hS) rfl [.int r2] rfl ?_
    refine aw_if_ne tTX5_thefts rfl 22 19 rfl rfl (fun hc => ?_) (fun hc => ?_)
    · have h := ok_t hc h
      refine aw_run tTX5_thefts 1 (pc2 := 23) (L2 := [(0, .ref 0), (1, .int a1), (2, .int a2)]) (st2 := [.ref 0]) rfl ?_
      refine aw_getR tTX5_thefts rfl 26 rfl (w_0 hS) rfl flX5_12 ?_
      refine aw_run tTX5_thefts 2 (pc2 := 28) (L2 := [(0, .ref 0), (1, .int a1), (2, .int a2)]) (st2 := [.int a2, .int a1, .ref 1]) rfl ?_
      obtain ⟨r3, er3, h⟩ := ok_b h
      refine aw_cS tTX5_thefts rfl 31 rfl (M' := MX5_mostThefts) (av := [.ref 1, .int a1, .int a2]) (rest := []) rfl lkX5_124 hMX5_mostThefts rfl (s_X5_mostThefts hS er3) ⟨rfl, rfl, ⟨by decide, by decide⟩, by decide, by decide⟩ (Nat.le_of_ble_eq_true rfl) 46 (wf_len hS) rfl [.int r3] rfl ?_
      have h := ok_r h
      exact aw_ir tTX5_thefts rfl rfl rfl (Nat.le_refl _) (Nat.le_refl _) h
    · have h := ok_fn hc h
      refine aw_run tTX5_thefts 1 (pc2 := 21) (L2 := [(0, .ref 0), (1, .int a1), (2, .int a2)]) (st2 := [.int (-2 : Int32)]) rfl ?_
      have h := ok_r h
      exact aw_ir tTX5_thefts rfl rfl rfl (Nat.le_refl _) (Nat.le_refl _) h
theorem s_X5_thefts {g : Nat → Option Nat} {S : List SC} (hS : Wf g S) {σ : St} {a1 : Int32} {a2 : Int32} {r : Int32} (e : f_X5_thefts a1 a2 σ = some r) : Fn MX5_thefts rmX5_thefts [.ref 0, .int a1, .int a2] S σ (some (.int r)) σ := Sp.of (by decide) (Nat.le_of_ble_eq_true rfl) (t_X5_thefts hS a1 a2 ⟨r, e, rfl, rfl, rfl⟩)
def f_X5_round  (σ : St) : Option (Int32 × St) := Option.bind (f_X2_longestRound  σ) (fun r1 => some ((r1.1, r1.2)))
set_option maxHeartbeats 4000000 in
set_option maxRecDepth 20000 in
theorem t_X5_round {g : Nat → Option Nat} {S : List SC} (hS : Wf g S) {σ : St} {Q : QT}  (h : ok (f_X5_round  σ) (fun r => Q (some (.int r.1)) S r.2)) : AW MX5_round E0 rmX5_round 0 0 Q 0 0 S σ 0 [(0, .ref 0)] [] := by
  unfold f_X5_round at h
  refine aw_run tTX5_round 1 (pc2 := 1) (L2 := [(0, .ref 0)]) (st2 := [.ref 0]) rfl ?_
  refine aw_getR tTX5_round rfl 4 rfl (w_0 hS) rfl flX5_33 ?_
  refine aw_run tTX5_round 1 (pc2 := 5) (L2 := [(0, .ref 0)]) (st2 := [.ref 0, .ref 20]) rfl ?_
  refine aw_getR tTX5_round rfl 8 rfl (w_0 hS) rfl flX5_12 ?_
  obtain ⟨r1, er1, h⟩ := ok_b h
  refine aw_cV tTX5_round rfl 11 rfl (M' := MX2_longestRound) (av := [.ref 1]) (rest := []) rfl lkX5_128 hMX2_longestRound rfl (w_20 hS) ⟨_, _, rfl⟩ (s_X2_longestRound hS er1) ⟨rfl, rfl, ⟨by decide, by decide⟩, by decide, by decide⟩ (Nat.le_of_ble_eq_true rfl) 46 (wf_len hS) rfl [.int r1.1] rfl ?_
  have h := ok_r h
  exact aw_ir tTX5_round rfl rfl rfl (Nat.le_refl _) (Nat.le_refl _) h
theorem s_X5_round {g : Nat → Option Nat} {S : List SC} (hS : Wf g S) {σ : St}  {r : Int32 × St} (e : f_X5_round  σ = some r) : Fn MX5_round rmX5_round [.ref 0] S σ (some (.int r.1)) r.2 := Sp.of (by decide) (Nat.le_of_ble_eq_true rfl) (t_X5_round hS  ⟨r, e, rfl, rfl, rfl⟩)
def f_X5_chain (a1 : Int32) (a2 : Int32) (σ : St) : Option (Int32 × St) := Option.bind (f_X0_hasTwo 1 a1 a2 σ) (fun r1 => if ¬ r1 = 0 then (Option.bind (f_X2_longestChain a1 a2 σ) (fun r2 => some ((r2.1, r2.2)))) else (some (((-1 : Int32), σ))))
set_option maxHeartbeats 4000000 in
set_option maxRecDepth 20000 in
theorem t_X5_chain {g : Nat → Option Nat} {S : List SC} (hS : Wf g S) {σ : St} {Q : QT} (a1 : Int32) (a2 : Int32) (h : ok (f_X5_chain a1 a2 σ) (fun r => Q (some (.int r.1)) S r.2)) : AW MX5_chain E0 rmX5_chain 0 0 Q 0 0 S σ 0 [(0, .ref 0), (1, .int a1), (2, .int a2)] [] := by
  unfold f_X5_chain at h
  refine aw_run tTX5_chain 1 (pc2 := 1) (L2 := [(0, .ref 0), (1, .int a1), (2, .int a2)]) (st2 := [.ref 0]) rfl ?_
  refine aw_getR tTX5_chain rfl 4 rfl (w_0 hS) rfl flX5_12 ?_
  refine aw_run tTX5_chain 2 (pc2 := 6) (L2 := [(0, .ref 0), (1, .int a1), (2, .int a2)]) (st2 := [.int a2, .int a1, .ref 1]) rfl ?_
  obtain ⟨r1, er1, h⟩ := ok_b h
  refine aw_cV tTX5_chain rfl 9 rfl (M' := MX0_hasTwo) (av := [.int a1, .int a2]) (rest := []) rfl lkX5_132 hMX0_hasTwo rfl (w_1 hS) ⟨_, _, rfl⟩ (s_X0_hasTwo hS er1) ⟨rfl, rfl, ⟨by decide, by decide⟩, by decide, by decide⟩ (Nat.le_of_ble_eq_true rfl) 46 (wf_len hS) rfl [.int r1] rfl ?_
  refine aw_if_ne tTX5_chain rfl 14 12 rfl rfl (fun hc => ?_) (fun hc => ?_)
  · have h := ok_t hc h
    refine aw_run tTX5_chain 1 (pc2 := 15) (L2 := [(0, .ref 0), (1, .int a1), (2, .int a2)]) (st2 := [.ref 0]) rfl ?_
    refine aw_getR tTX5_chain rfl 18 rfl (w_0 hS) rfl flX5_33 ?_
    refine aw_run tTX5_chain 1 (pc2 := 19) (L2 := [(0, .ref 0), (1, .int a1), (2, .int a2)]) (st2 := [.ref 0, .ref 20]) rfl ?_
    refine aw_getR tTX5_chain rfl 22 rfl (w_0 hS) rfl flX5_12 ?_
    refine aw_run tTX5_chain 2 (pc2 := 24) (L2 := [(0, .ref 0), (1, .int a1), (2, .int a2)]) (st2 := [.int a2, .int a1, .ref 1, .ref 20]) rfl ?_
    obtain ⟨r2, er2, h⟩ := ok_b h
    refine aw_cV tTX5_chain rfl 27 rfl (M' := MX2_longestChain) (av := [.ref 1, .int a1, .int a2]) (rest := []) rfl lkX5_136 hMX2_longestChain rfl (w_20 hS) ⟨_, _, rfl⟩ (s_X2_longestChain hS er2) ⟨rfl, rfl, ⟨by decide, by decide⟩, by decide, by decide⟩ (Nat.le_of_ble_eq_true rfl) 46 (wf_len hS) rfl [.int r2.1] rfl ?_
    have h := ok_r h
    exact aw_ir tTX5_chain rfl rfl rfl (Nat.le_refl _) (Nat.le_refl _) h
  · have h := ok_fn hc h
    refine aw_run tTX5_chain 1 (pc2 := 13) (L2 := [(0, .ref 0), (1, .int a1), (2, .int a2)]) (st2 := [.int (-1 : Int32)]) rfl ?_
    have h := ok_r h
    exact aw_ir tTX5_chain rfl rfl rfl (Nat.le_refl _) (Nat.le_refl _) h
theorem s_X5_chain {g : Nat → Option Nat} {S : List SC} (hS : Wf g S) {σ : St} {a1 : Int32} {a2 : Int32} {r : Int32 × St} (e : f_X5_chain a1 a2 σ = some r) : Fn MX5_chain rmX5_chain [.ref 0, .int a1, .int a2] S σ (some (.int r.1)) r.2 := Sp.of (by decide) (Nat.le_of_ble_eq_true rfl) (t_X5_chain hS a1 a2 ⟨r, e, rfl, rfl, rfl⟩)
def f_X5_exchange (a1 : Int32) (a2 : Int32) (a3 : Int32) (σ : St) : Option (Int32) := Option.bind (f_X0_hasTwo 1 a1 a2 σ) (fun r1 => if r1 = 0 then (some ((-1 : Int32))) else (Option.bind (f_X0_hasTwo 1 a1 a3 σ) (fun r2 => if r2 = 0 then (some ((-1 : Int32))) else (Option.bind (f_X0_hasTwo 1 a2 a3 σ) (fun r3 => if ¬ r3 = 0 then (gi a3 6 (Option.bind (f_X0_load 1 a1 a3 σ) (fun r4 => nm ((σ 2 a3.toNatClampNeg) - r4) (fun (x5 : Int32) => gi a2 6 (some (jmin x5 (σ 3 a2.toNatClampNeg))))))) else (some ((-1 : Int32))))))))
set_option maxHeartbeats 4000000 in
set_option maxRecDepth 20000 in
theorem t_X5_exchange {g : Nat → Option Nat} {S : List SC} (hS : Wf g S) {σ : St} {Q : QT} (a1 : Int32) (a2 : Int32) (a3 : Int32) (h : ok (f_X5_exchange a1 a2 a3 σ) (fun r => Q (some (.int r)) S σ)) : AW MX5_exchange E0 rmX5_exchange 0 0 Q 0 0 S σ 0 [(0, .ref 0), (1, .int a1), (2, .int a2), (3, .int a3)] [] := by
  unfold f_X5_exchange at h
  refine aw_run tTX5_exchange 1 (pc2 := 1) (L2 := [(0, .ref 0), (1, .int a1), (2, .int a2), (3, .int a3)]) (st2 := [.ref 0]) rfl ?_
  refine aw_getR tTX5_exchange rfl 4 rfl (w_0 hS) rfl flX5_12 ?_
  refine aw_run tTX5_exchange 2 (pc2 := 6) (L2 := [(0, .ref 0), (1, .int a1), (2, .int a2), (3, .int a3)]) (st2 := [.int a2, .int a1, .ref 1]) rfl ?_
  obtain ⟨r1, er1, h⟩ := ok_b h
  refine aw_cV tTX5_exchange rfl 9 rfl (M' := MX0_hasTwo) (av := [.int a1, .int a2]) (rest := []) rfl lkX5_132 hMX0_hasTwo rfl (w_1 hS) ⟨_, _, rfl⟩ (s_X0_hasTwo hS er1) ⟨rfl, rfl, ⟨by decide, by decide⟩, by decide, by decide⟩ (Nat.le_of_ble_eq_true rfl) 46 (wf_len hS) rfl [.int r1] rfl ?_
  refine aw_if_eq tTX5_exchange rfl 36 12 rfl rfl (fun hc => ?_) (fun hc => ?_)
  · have h := ok_t hc h
    refine aw_run tTX5_exchange 1 (pc2 := 37) (L2 := [(0, .ref 0), (1, .int a1), (2, .int a2), (3, .int a3)]) (st2 := [.int (-1 : Int32)]) rfl ?_
    have h := ok_r h
    exact aw_ir tTX5_exchange rfl rfl rfl (Nat.le_refl _) (Nat.le_refl _) h
  · have h := ok_f hc h
    refine aw_run tTX5_exchange 1 (pc2 := 13) (L2 := [(0, .ref 0), (1, .int a1), (2, .int a2), (3, .int a3)]) (st2 := [.ref 0]) rfl ?_
    refine aw_getR tTX5_exchange rfl 16 rfl (w_0 hS) rfl flX5_12 ?_
    refine aw_run tTX5_exchange 2 (pc2 := 18) (L2 := [(0, .ref 0), (1, .int a1), (2, .int a2), (3, .int a3)]) (st2 := [.int a3, .int a1, .ref 1]) rfl ?_
    obtain ⟨r2, er2, h⟩ := ok_b h
    refine aw_cV tTX5_exchange rfl 21 rfl (M' := MX0_hasTwo) (av := [.int a1, .int a3]) (rest := []) rfl lkX5_132 hMX0_hasTwo rfl (w_1 hS) ⟨_, _, rfl⟩ (s_X0_hasTwo hS er2) ⟨rfl, rfl, ⟨by decide, by decide⟩, by decide, by decide⟩ (Nat.le_of_ble_eq_true rfl) 46 (wf_len hS) rfl [.int r2] rfl ?_
    refine aw_if_eq tTX5_exchange rfl 36 24 rfl rfl (fun hc => ?_) (fun hc => ?_)
    · have h := ok_t hc h
      refine aw_run tTX5_exchange 1 (pc2 := 37) (L2 := [(0, .ref 0), (1, .int a1), (2, .int a2), (3, .int a3)]) (st2 := [.int (-1 : Int32)]) rfl ?_
      have h := ok_r h
      exact aw_ir tTX5_exchange rfl rfl rfl (Nat.le_refl _) (Nat.le_refl _) h
    · have h := ok_f hc h
      refine aw_run tTX5_exchange 1 (pc2 := 25) (L2 := [(0, .ref 0), (1, .int a1), (2, .int a2), (3, .int a3)]) (st2 := [.ref 0]) rfl ?_
      refine aw_getR tTX5_exchange rfl 28 rfl (w_0 hS) rfl flX5_12 ?_
      refine aw_run tTX5_exchange 2 (pc2 := 30) (L2 := [(0, .ref 0), (1, .int a1), (2, .int a2), (3, .int a3)]) (st2 := [.int a3, .int a2, .ref 1]) rfl ?_
      obtain ⟨r3, er3, h⟩ := ok_b h
      refine aw_cV tTX5_exchange rfl 33 rfl (M' := MX0_hasTwo) (av := [.int a2, .int a3]) (rest := []) rfl lkX5_132 hMX0_hasTwo rfl (w_1 hS) ⟨_, _, rfl⟩ (s_X0_hasTwo hS er3) ⟨rfl, rfl, ⟨by decide, by decide⟩, by decide, by decide⟩ (Nat.le_of_ble_eq_true rfl) 46 (wf_len hS) rfl [.int r3] rfl ?_
      refine aw_if_ne tTX5_exchange rfl 38 36 rfl rfl (fun hc => ?_) (fun hc => ?_)
      · have h := ok_t hc h
        refine aw_run tTX5_exchange 1 (pc2 := 39) (L2 := [(0, .ref 0), (1, .int a1), (2, .int a2), (3, .int a3)]) (st2 := [.ref 0]) rfl ?_
        refine aw_getR tTX5_exchange rfl 42 rfl (w_0 hS) rfl flX5_12 ?_
        refine aw_getR tTX5_exchange rfl 45 rfl (w_1 hS) rfl flX5_139 ?_
        refine aw_run tTX5_exchange 1 (pc2 := 46) (L2 := [(0, .ref 0), (1, .int a1), (2, .int a2), (3, .int a3)]) (st2 := [.int a3, .ref 2]) rfl ?_
        obtain ⟨hi, h⟩ := ok_gi h
        refine aw_iald tTX5_exchange rfl 47 rfl (w_2 hS) hi ?_
        refine aw_run tTX5_exchange 1 (pc2 := 48) (L2 := [(0, .ref 0), (1, .int a1), (2, .int a2), (3, .int a3)]) (st2 := [.ref 0, .int (σ 2 a3.toNatClampNeg)]) rfl ?_
        refine aw_getR tTX5_exchange rfl 51 rfl (w_0 hS) rfl flX5_12 ?_
        refine aw_run tTX5_exchange 2 (pc2 := 53) (L2 := [(0, .ref 0), (1, .int a1), (2, .int a2), (3, .int a3)]) (st2 := [.int a3, .int a1, .ref 1, .int (σ 2 a3.toNatClampNeg)]) rfl ?_
        obtain ⟨r4, er4, h⟩ := ok_b h
        refine aw_cV tTX5_exchange rfl 56 rfl (M' := MX0_load) (av := [.int a1, .int a3]) (rest := [.int (σ 2 a3.toNatClampNeg)]) rfl lkX5_143 hMX0_load rfl (w_1 hS) ⟨_, _, rfl⟩ (s_X0_load_1 hS er4) ⟨rfl, rfl, ⟨by decide, by decide⟩, by decide, by decide⟩ (Nat.le_of_ble_eq_true rfl) 46 (wf_len hS) rfl [.int r4, .int (σ 2 a3.toNatClampNeg)] rfl ?_
        refine aw_run tTX5_exchange 1 (pc2 := 57) (L2 := [(0, .ref 0), (1, .int a1), (2, .int a2), (3, .int a3)]) (st2 := [.int ((σ 2 a3.toNatClampNeg) - r4)]) rfl ?_
        refine aw_nm (fun x5 ex5 => ?_)
        have h := ok_nm h x5 ex5
        refine aw_run tTX5_exchange 1 (pc2 := 59) (L2 := [(4, .int x5), (0, .ref 0), (1, .int a1), (2, .int a2), (3, .int a3)]) (st2 := []) rfl ?_
        refine aw_run tTX5_exchange 2 (pc2 := 62) (L2 := [(4, .int x5), (0, .ref 0), (1, .int a1), (2, .int a2), (3, .int a3)]) (st2 := [.ref 0, .int x5]) rfl ?_
        refine aw_getR tTX5_exchange rfl 65 rfl (w_0 hS) rfl flX5_12 ?_
        refine aw_getR tTX5_exchange rfl 68 rfl (w_1 hS) rfl flX5_146 ?_
        refine aw_run tTX5_exchange 1 (pc2 := 69) (L2 := [(4, .int x5), (0, .ref 0), (1, .int a1), (2, .int a2), (3, .int a3)]) (st2 := [.int a2, .ref 3, .int x5]) rfl ?_
        obtain ⟨hi, h⟩ := ok_gi h
        refine aw_iald tTX5_exchange rfl 70 rfl (w_3 hS) hi ?_
        refine aw_min tTX5_exchange rfl 73 rfl lkX5_149 (by decide) (Nat.le_of_ble_eq_true rfl) (Nat.zero_le _) (Nat.zero_le _) ?_
        have h := ok_r h
        exact aw_ir tTX5_exchange rfl rfl rfl (Nat.le_refl _) (Nat.le_refl _) h
      · have h := ok_fn hc h
        refine aw_run tTX5_exchange 1 (pc2 := 37) (L2 := [(0, .ref 0), (1, .int a1), (2, .int a2), (3, .int a3)]) (st2 := [.int (-1 : Int32)]) rfl ?_
        have h := ok_r h
        exact aw_ir tTX5_exchange rfl rfl rfl (Nat.le_refl _) (Nat.le_refl _) h
theorem s_X5_exchange {g : Nat → Option Nat} {S : List SC} (hS : Wf g S) {σ : St} {a1 : Int32} {a2 : Int32} {a3 : Int32} {r : Int32} (e : f_X5_exchange a1 a2 a3 σ = some r) : Fn MX5_exchange rmX5_exchange [.ref 0, .int a1, .int a2, .int a3] S σ (some (.int r)) σ := Sp.of (by decide) (Nat.le_of_ble_eq_true rfl) (t_X5_exchange hS a1 a2 a3 ⟨r, e, rfl, rfl, rfl⟩)
def f_X5_seen (a1 : Int32) (a2 : Int32) (σ : St) : Option (Int32 × St) := Option.bind (f_X0_has 1 a1 σ) (fun r1 => if ¬ r1 = 0 then (Option.bind (f_X5_within a2 0 99) (fun r2 => if ¬ r2 = 0 then (Option.bind (f_X0_addSight 1 a1 a2 σ) (fun r3 => if r3.1 = 0 then (some (((-4 : Int32), r3.2))) else (some ((r3.2 1 7, r3.2))))) else (some (((-2 : Int32), σ))))) else (some (((-1 : Int32), σ))))
set_option maxHeartbeats 4000000 in
set_option maxRecDepth 20000 in
theorem t_X5_seen {g : Nat → Option Nat} {S : List SC} (hS : Wf g S) {σ : St} {Q : QT} (a1 : Int32) (a2 : Int32) (h : ok (f_X5_seen a1 a2 σ) (fun r => Q (some (.int r.1)) S r.2)) : AW MX5_seen E0 rmX5_seen 0 0 Q 0 0 S σ 0 [(0, .ref 0), (1, .int a1), (2, .int a2)] [] := by
  unfold f_X5_seen at h
  refine aw_run tTX5_seen 1 (pc2 := 1) (L2 := [(0, .ref 0), (1, .int a1), (2, .int a2)]) (st2 := [.ref 0]) rfl ?_
  refine aw_getR tTX5_seen rfl 4 rfl (w_0 hS) rfl flX5_12 ?_
  refine aw_run tTX5_seen 1 (pc2 := 5) (L2 := [(0, .ref 0), (1, .int a1), (2, .int a2)]) (st2 := [.int a1, .ref 1]) rfl ?_
  obtain ⟨r1, er1, h⟩ := ok_b h
  refine aw_cV tTX5_seen rfl 8 rfl (M' := MX0_has) (av := [.int a1]) (rest := []) rfl lkX5_63 hMX0_has rfl (w_1 hS) ⟨_, _, rfl⟩ (s_X0_has_1 hS er1) ⟨rfl, rfl, ⟨by decide, by decide⟩, by decide, by decide⟩ (Nat.le_of_ble_eq_true rfl) 46 (wf_len hS) rfl [.int r1] rfl ?_
  refine aw_if_ne tTX5_seen rfl 13 11 rfl rfl (fun hc => ?_) (fun hc => ?_)
  · have h := ok_t hc h
    refine aw_run tTX5_seen 3 (pc2 := 17) (L2 := [(0, .ref 0), (1, .int a1), (2, .int a2)]) (st2 := [.int 99, .int 0, .int a2]) rfl ?_
    obtain ⟨r2, er2, h⟩ := ok_b h
    refine aw_cS tTX5_seen rfl 20 rfl (M' := MX5_within) (av := [.int a2, .int 0, .int 99]) (rest := []) rfl lkX5_51 hMX5_within rfl (s_X5_within hS er2) ⟨rfl, rfl, ⟨by decide, by decide⟩, by decide, by decide⟩ (Nat.le_of_ble_eq_true rfl) 46 (wf_len hS) rfl [.int r2] rfl ?_
    refine aw_if_ne tTX5_seen rfl 26 23 rfl rfl (fun hc => ?_) (fun hc => ?_)
    · have h := ok_t hc h
      refine aw_run tTX5_seen 1 (pc2 := 27) (L2 := [(0, .ref 0), (1, .int a1), (2, .int a2)]) (st2 := [.ref 0]) rfl ?_
      refine aw_getR tTX5_seen rfl 30 rfl (w_0 hS) rfl flX5_12 ?_
      refine aw_run tTX5_seen 2 (pc2 := 32) (L2 := [(0, .ref 0), (1, .int a1), (2, .int a2)]) (st2 := [.int a2, .int a1, .ref 1]) rfl ?_
      obtain ⟨r3, er3, h⟩ := ok_b h
      refine aw_cV tTX5_seen rfl 35 rfl (M' := MX0_addSight) (av := [.int a1, .int a2]) (rest := []) rfl lkX5_154 hMX0_addSight rfl (w_1 hS) ⟨_, _, rfl⟩ (s_X0_addSight hS er3) ⟨rfl, rfl, ⟨by decide, by decide⟩, by decide, by decide⟩ (Nat.le_of_ble_eq_true rfl) 46 (wf_len hS) rfl [.int r3.1] rfl ?_
      refine aw_if_eq tTX5_seen rfl 48 38 rfl rfl (fun hc => ?_) (fun hc => ?_)
      · have h := ok_t hc h
        refine aw_run tTX5_seen 1 (pc2 := 50) (L2 := [(0, .ref 0), (1, .int a1), (2, .int a2)]) (st2 := [.int (-4 : Int32)]) rfl ?_
        have h := ok_r h
        exact aw_ir tTX5_seen rfl rfl rfl (Nat.le_refl _) (Nat.le_refl _) h
      · have h := ok_f hc h
        refine aw_run tTX5_seen 1 (pc2 := 39) (L2 := [(0, .ref 0), (1, .int a1), (2, .int a2)]) (st2 := [.ref 0]) rfl ?_
        refine aw_getR tTX5_seen rfl 42 rfl (w_0 hS) rfl flX5_12 ?_
        refine aw_getI tTX5_seen rfl 45 rfl (w_1 hS) rfl flX5_157 ?_
        refine aw_run tTX5_seen 1 (pc2 := 50) (L2 := [(0, .ref 0), (1, .int a1), (2, .int a2)]) (st2 := [.int (r3.2 1 7)]) rfl ?_
        have h := ok_r h
        exact aw_ir tTX5_seen rfl rfl rfl (Nat.le_refl _) (Nat.le_refl _) h
    · have h := ok_fn hc h
      refine aw_run tTX5_seen 1 (pc2 := 25) (L2 := [(0, .ref 0), (1, .int a1), (2, .int a2)]) (st2 := [.int (-2 : Int32)]) rfl ?_
      have h := ok_r h
      exact aw_ir tTX5_seen rfl rfl rfl (Nat.le_refl _) (Nat.le_refl _) h
  · have h := ok_fn hc h
    refine aw_run tTX5_seen 1 (pc2 := 12) (L2 := [(0, .ref 0), (1, .int a1), (2, .int a2)]) (st2 := [.int (-1 : Int32)]) rfl ?_
    have h := ok_r h
    exact aw_ir tTX5_seen rfl rfl rfl (Nat.le_refl _) (Nat.le_refl _) h
theorem s_X5_seen {g : Nat → Option Nat} {S : List SC} (hS : Wf g S) {σ : St} {a1 : Int32} {a2 : Int32} {r : Int32 × St} (e : f_X5_seen a1 a2 σ = some r) : Fn MX5_seen rmX5_seen [.ref 0, .int a1, .int a2] S σ (some (.int r.1)) r.2 := Sp.of (by decide) (Nat.le_of_ble_eq_true rfl) (t_X5_seen hS a1 a2 ⟨r, e, rfl, rfl, rfl⟩)
def f_X5_forget  (σ : St) : Option (Int32 × St) := nm (up2 σ 1 7 0) (fun σ1 => some ((σ 1 7, σ1)))
set_option maxHeartbeats 4000000 in
set_option maxRecDepth 20000 in
theorem t_X5_forget {g : Nat → Option Nat} {S : List SC} (hS : Wf g S) {σ : St} {Q : QT}  (h : ok (f_X5_forget  σ) (fun r => Q (some (.int r.1)) S r.2)) : AW MX5_forget E0 rmX5_forget 0 0 Q 0 0 S σ 0 [(0, .ref 0)] [] := by
  unfold f_X5_forget at h
  refine aw_run tTX5_forget 1 (pc2 := 1) (L2 := [(0, .ref 0)]) (st2 := [.ref 0]) rfl ?_
  refine aw_getR tTX5_forget rfl 4 rfl (w_0 hS) rfl flX5_12 ?_
  refine aw_getI tTX5_forget rfl 7 rfl (w_1 hS) rfl flX5_157 ?_
  refine aw_run tTX5_forget 2 (pc2 := 9) (L2 := [(1, .int (σ 1 7)), (0, .ref 0)]) (st2 := [.ref 0]) rfl ?_
  refine aw_getR tTX5_forget rfl 12 rfl (w_0 hS) rfl flX5_12 ?_
  refine aw_run tTX5_forget 1 (pc2 := 13) (L2 := [(1, .int (σ 1 7)), (0, .ref 0)]) (st2 := [.int 0, .ref 1]) rfl ?_
  refine aw_putI tTX5_forget rfl 16 rfl (w_1 hS) rfl fpX5_157 ?_
  refine aw_nmS (fun σ1 eσ1 => ?_)
  have h := ok_nm h σ1 eσ1
  refine aw_run tTX5_forget 1 (pc2 := 17) (L2 := [(1, .int (σ 1 7)), (0, .ref 0)]) (st2 := [.int (σ 1 7)]) rfl ?_
  have h := ok_r h
  exact aw_ir tTX5_forget rfl rfl rfl (Nat.le_refl _) (Nat.le_refl _) h
theorem s_X5_forget {g : Nat → Option Nat} {S : List SC} (hS : Wf g S) {σ : St}  {r : Int32 × St} (e : f_X5_forget  σ = some r) : Fn MX5_forget rmX5_forget [.ref 0] S σ (some (.int r.1)) r.2 := Sp.of (by decide) (Nat.le_of_ble_eq_true rfl) (t_X5_forget hS  ⟨r, e, rfl, rfl, rfl⟩)
def f_X5_boots (a1 : Int32) (σ : St) : Option (Int32 × St) := Option.bind (f_X5_within a1 0 2) (fun r1 => if ¬ r1 = 0 then (Option.bind (f_X3_countWithout (-6 : Int32) σ) (fun r2 => if ¬ a1 = 0 then (if ¬ a1 = 1 then (Option.bind (f_X3_outInAll  r2) (fun r3 => some ((r3, r2)))) else (Option.bind (f_X3_outInSome  r2) (fun r4 => some ((r4, r2))))) else (Option.bind (f_X3_total  r2) (fun r5 => some ((r5, r2)))))) else (some (((-2 : Int32), σ))))
set_option maxHeartbeats 4000000 in
set_option maxRecDepth 20000 in
theorem t_X5_boots {g : Nat → Option Nat} {S : List SC} (hS : Wf g S) {σ : St} {Q : QT} (a1 : Int32) (h : ok (f_X5_boots a1 σ) (fun r => Q (some (.int r.1)) S r.2)) : AW MX5_boots E0 rmX5_boots 0 0 Q 0 0 S σ 0 [(0, .ref 0), (1, .int a1)] [] := by
  unfold f_X5_boots at h
  refine aw_run tTX5_boots 3 (pc2 := 3) (L2 := [(0, .ref 0), (1, .int a1)]) (st2 := [.int 2, .int 0, .int a1]) rfl ?_
  obtain ⟨r1, er1, h⟩ := ok_b h
  refine aw_cS tTX5_boots rfl 6 rfl (M' := MX5_within) (av := [.int a1, .int 0, .int 2]) (rest := []) rfl lkX5_51 hMX5_within rfl (s_X5_within hS er1) ⟨rfl, rfl, ⟨by decide, by decide⟩, by decide, by decide⟩ (Nat.le_of_ble_eq_true rfl) 46 (wf_len hS) rfl [.int r1] rfl ?_
  refine aw_if_ne tTX5_boots rfl 12 9 rfl rfl (fun hc => ?_) (fun hc => ?_)
  · have h := ok_t hc h
    refine aw_run tTX5_boots 1 (pc2 := 13) (L2 := [(0, .ref 0), (1, .int a1)]) (st2 := [.ref 0]) rfl ?_
    refine aw_getR tTX5_boots rfl 16 rfl (w_0 hS) rfl flX5_40 ?_
    refine aw_run tTX5_boots 1 (pc2 := 17) (L2 := [(0, .ref 0), (1, .int a1)]) (st2 := [.ref 0, .ref 23]) rfl ?_
    refine aw_getR tTX5_boots rfl 20 rfl (w_0 hS) rfl flX5_12 ?_
    refine aw_run tTX5_boots 1 (pc2 := 22) (L2 := [(0, .ref 0), (1, .int a1)]) (st2 := [.int (-6 : Int32), .ref 1, .ref 23]) rfl ?_
    obtain ⟨r2, er2, h⟩ := ok_b h
    refine aw_cV tTX5_boots rfl 25 rfl (M' := MX3_countWithout) (av := [.ref 1, .int (-6 : Int32)]) (rest := []) rfl lkX5_160 hMX3_countWithout rfl (w_23 hS) ⟨_, _, rfl⟩ (s_X3_countWithout hS er2) ⟨rfl, rfl, ⟨by decide, by decide⟩, by decide, by decide⟩ (Nat.le_of_ble_eq_true rfl) 46 (wf_len hS) rfl [] rfl ?_
    refine aw_run tTX5_boots 1 (pc2 := 26) (L2 := [(0, .ref 0), (1, .int a1)]) (st2 := [.int a1]) rfl ?_
    refine aw_if_ne tTX5_boots rfl 37 29 rfl rfl (fun hc => ?_) (fun hc => ?_)
    · have h := ok_t hc h
      refine aw_run tTX5_boots 2 (pc2 := 39) (L2 := [(0, .ref 0), (1, .int a1)]) (st2 := [.int 1, .int a1]) rfl ?_
      refine aw_icmp_ne tTX5_boots rfl 52 42 rfl rfl (fun hc => ?_) (fun hc => ?_)
      · have h := ok_t hc h
        refine aw_run tTX5_boots 1 (pc2 := 53) (L2 := [(0, .ref 0), (1, .int a1)]) (st2 := [.ref 0]) rfl ?_
        refine aw_getR tTX5_boots rfl 56 rfl (w_0 hS) rfl flX5_40 ?_
        obtain ⟨r3, er3, h⟩ := ok_b h
        refine aw_cV tTX5_boots rfl 59 rfl (M' := MX3_outInAll) (av := []) (rest := []) rfl lkX5_170 hMX3_outInAll rfl (w_23 hS) ⟨_, _, rfl⟩ (s_X3_outInAll hS er3) ⟨rfl, rfl, ⟨by decide, by decide⟩, by decide, by decide⟩ (Nat.le_of_ble_eq_true rfl) 46 (wf_len hS) rfl [.int r3] rfl ?_
        have h := ok_r h
        exact aw_ir tTX5_boots rfl rfl rfl (Nat.le_refl _) (Nat.le_refl _) h
      · have h := ok_fn hc h
        refine aw_run tTX5_boots 1 (pc2 := 43) (L2 := [(0, .ref 0), (1, .int a1)]) (st2 := [.ref 0]) rfl ?_
        refine aw_getR tTX5_boots rfl 46 rfl (w_0 hS) rfl flX5_40 ?_
        obtain ⟨r4, er4, h⟩ := ok_b h
        refine aw_cV tTX5_boots rfl 49 rfl (M' := MX3_outInSome) (av := []) (rest := []) rfl lkX5_167 hMX3_outInSome rfl (w_23 hS) ⟨_, _, rfl⟩ (s_X3_outInSome hS er4) ⟨rfl, rfl, ⟨by decide, by decide⟩, by decide, by decide⟩ (Nat.le_of_ble_eq_true rfl) 46 (wf_len hS) rfl [.int r4] rfl ?_
        refine aw_run tTX5_boots 1 (pc2 := 59) (L2 := [(0, .ref 0), (1, .int a1)]) (st2 := [.int r4]) rfl ?_
        have h := ok_r h
        exact aw_ir tTX5_boots rfl rfl rfl (Nat.le_refl _) (Nat.le_refl _) h
    · have h := ok_fn hc h
      refine aw_run tTX5_boots 1 (pc2 := 30) (L2 := [(0, .ref 0), (1, .int a1)]) (st2 := [.ref 0]) rfl ?_
      refine aw_getR tTX5_boots rfl 33 rfl (w_0 hS) rfl flX5_40 ?_
      obtain ⟨r5, er5, h⟩ := ok_b h
      refine aw_cV tTX5_boots rfl 36 rfl (M' := MX3_total) (av := []) (rest := []) rfl lkX5_164 hMX3_total rfl (w_23 hS) ⟨_, _, rfl⟩ (s_X3_total hS er5) ⟨rfl, rfl, ⟨by decide, by decide⟩, by decide, by decide⟩ (Nat.le_of_ble_eq_true rfl) 46 (wf_len hS) rfl [.int r5] rfl ?_
      have h := ok_r h
      exact aw_ir tTX5_boots rfl rfl rfl (Nat.le_refl _) (Nat.le_refl _) h
  · have h := ok_fn hc h
    refine aw_run tTX5_boots 1 (pc2 := 11) (L2 := [(0, .ref 0), (1, .int a1)]) (st2 := [.int (-2 : Int32)]) rfl ?_
    have h := ok_r h
    exact aw_ir tTX5_boots rfl rfl rfl (Nat.le_refl _) (Nat.le_refl _) h
theorem s_X5_boots {g : Nat → Option Nat} {S : List SC} (hS : Wf g S) {σ : St} {a1 : Int32} {r : Int32 × St} (e : f_X5_boots a1 σ = some r) : Fn MX5_boots rmX5_boots [.ref 0, .int a1] S σ (some (.int r.1)) r.2 := Sp.of (by decide) (Nat.le_of_ble_eq_true rfl) (t_X5_boots hS a1 ⟨r, e, rfl, rfl, rfl⟩)
def l_X5_look_47  (y4 : Int32) (y5 : Int32) (y6 : Int32) (σ7 : St) : Option ((Int32 × Int32 × Int32 × St) ⊕ (Int32 × Int32 × St)) := if 6 ≤ y6 then (some (.inr (y4, y5, σ7))) else (Option.bind (f_X0_has 1 y6 σ7) (fun r9 => Option.bind (α := Int32 × Int32 × St) (if r9 = 0 then (some (y4, y5, σ7)) else (Option.bind (f_X0_hasSightOf 1 y6 σ7) (fun r11 => if ¬ r11 = 0 then (some (y4, y5, σ7)) else (Option.bind (f_X3_mostLeftBy y6 σ7) (fun r12 => if y4 = (-6 : Int32) then (some (y6, r12.1, r12.2)) else (if y5 ≤ r12.1 then (some (y4, y5, r12.2)) else (some (y6, r12.1, r12.2)))))))) (fun (j10 : Int32 × Int32 × St) => some (.inl (j10.1, j10.2.1, y6 + 1, j10.2.2)))))
def f_X5_look (a1 : Int32) (σ : St) : Option (Int32 × St) := Option.bind (f_X5_within a1 0 1) (fun r1 => if ¬ r1 = 0 then (Option.bind (f_X3_countWithout (-6 : Int32) σ) (fun r2 => Option.bind (f_X3_total  r2) (fun r3 => if ¬ r3 = 0 then (Option.bind (loop (fun s : Int32 × Int32 × Int32 × St => l_X5_look_47  s.1 s.2.1 s.2.2.1 s.2.2.2) 400 ((-6 : Int32), (-6 : Int32), 0, r2)) (fun (z8 : Int32 × Int32 × St) => if ¬ a1 = 0 then (some ((z8.2.1, z8.2.2))) else (some ((z8.1, z8.2.2))))) else (some (((-6 : Int32), r2)))))) else (some (((-2 : Int32), σ))))
set_option maxHeartbeats 4000000 in
set_option maxRecDepth 20000 in
theorem t_X5_look {g : Nat → Option Nat} {S : List SC} (hS : Wf g S) {σ : St} {Q : QT} (a1 : Int32) (h : ok (f_X5_look a1 σ) (fun r => Q (some (.int r.1)) S r.2)) : AW MX5_look E0 rmX5_look 0 0 Q 0 0 S σ 0 [(0, .ref 0), (1, .int a1)] [] := by
  unfold f_X5_look at h
  refine aw_run tTX5_look 3 (pc2 := 3) (L2 := [(0, .ref 0), (1, .int a1)]) (st2 := [.int 1, .int 0, .int a1]) rfl ?_
  obtain ⟨r1, er1, h⟩ := ok_b h
  refine aw_cS tTX5_look rfl 6 rfl (M' := MX5_within) (av := [.int a1, .int 0, .int 1]) (rest := []) rfl lkX5_51 hMX5_within rfl (s_X5_within hS er1) ⟨rfl, rfl, ⟨by decide, by decide⟩, by decide, by decide⟩ (Nat.le_of_ble_eq_true rfl) 46 (wf_len hS) rfl [.int r1] rfl ?_
  refine aw_if_ne tTX5_look rfl 12 9 rfl rfl (fun hc => ?_) (fun hc => ?_)
  · have h := ok_t hc h
    refine aw_run tTX5_look 1 (pc2 := 13) (L2 := [(0, .ref 0), (1, .int a1)]) (st2 := [.ref 0]) rfl ?_
    refine aw_getR tTX5_look rfl 16 rfl (w_0 hS) rfl flX5_40 ?_
    refine aw_run tTX5_look 1 (pc2 := 17) (L2 := [(0, .ref 0), (1, .int a1)]) (st2 := [.ref 0, .ref 23]) rfl ?_
    refine aw_getR tTX5_look rfl 20 rfl (w_0 hS) rfl flX5_12 ?_
    refine aw_run tTX5_look 1 (pc2 := 22) (L2 := [(0, .ref 0), (1, .int a1)]) (st2 := [.int (-6 : Int32), .ref 1, .ref 23]) rfl ?_
    obtain ⟨r2, er2, h⟩ := ok_b h
    refine aw_cV tTX5_look rfl 25 rfl (M' := MX3_countWithout) (av := [.ref 1, .int (-6 : Int32)]) (rest := []) rfl lkX5_160 hMX3_countWithout rfl (w_23 hS) ⟨_, _, rfl⟩ (s_X3_countWithout hS er2) ⟨rfl, rfl, ⟨by decide, by decide⟩, by decide, by decide⟩ (Nat.le_of_ble_eq_true rfl) 46 (wf_len hS) rfl [] rfl ?_
    refine aw_run tTX5_look 1 (pc2 := 26) (L2 := [(0, .ref 0), (1, .int a1)]) (st2 := [.ref 0]) rfl ?_
    refine aw_getR tTX5_look rfl 29 rfl (w_0 hS) rfl flX5_40 ?_
    obtain ⟨r3, er3, h⟩ := ok_b h
    refine aw_cV tTX5_look rfl 32 rfl (M' := MX3_total) (av := []) (rest := []) rfl lkX5_164 hMX3_total rfl (w_23 hS) ⟨_, _, rfl⟩ (s_X3_total hS er3) ⟨rfl, rfl, ⟨by decide, by decide⟩, by decide, by decide⟩ (Nat.le_of_ble_eq_true rfl) 46 (wf_len hS) rfl [.int r3] rfl ?_
    refine aw_if_ne tTX5_look rfl 38 35 rfl rfl (fun hc => ?_) (fun hc => ?_)
    · have h := ok_t hc h
      refine aw_run tTX5_look 6 (pc2 := 47) (L2 := [(4, .int 0), (3, .int (-6 : Int32)), (2, .int (-6 : Int32)), (0, .ref 0), (1, .int a1)]) (st2 := []) rfl ?_
      refine ok_use (P := fun z8 : Int32 × Int32 × St => AW MX5_look E0 rmX5_look 0 0 Q 0 0 S z8.2.2 117 [(1, .int a1), (2, .int z8.1), (3, .int z8.2.1)] []) (ok_b h) (fun z8 h => ?_) (fun h => ?_)
      · refine aw_run tTX5_look 1 (pc2 := 118) (L2 := [(1, .int a1), (2, .int z8.1), (3, .int z8.2.1)]) (st2 := [.int a1]) rfl ?_
        refine aw_if_ne tTX5_look rfl 125 121 rfl rfl (fun hc => ?_) (fun hc => ?_)
        · have h := ok_t hc h
          refine aw_run tTX5_look 1 (pc2 := 126) (L2 := [(1, .int a1), (2, .int z8.1), (3, .int z8.2.1)]) (st2 := [.int z8.2.1]) rfl ?_
          have h := ok_r h
          exact aw_ir tTX5_look rfl rfl rfl (Nat.le_refl _) (Nat.le_refl _) h
        · have h := ok_fn hc h
          refine aw_run tTX5_look 2 (pc2 := 126) (L2 := [(1, .int a1), (2, .int z8.1), (3, .int z8.2.1)]) (st2 := [.int z8.1]) rfl ?_
          have h := ok_r h
          exact aw_ir tTX5_look rfl rfl rfl (Nat.le_refl _) (Nat.le_refl _) h
      · refine aw_sub [3, 4, 2, 1, 0] rfl ?_
        refine loop_P (P := fun s : Int32 × Int32 × Int32 × St => AW MX5_look E0 rmX5_look 0 0 Q 0 0 S s.2.2.2 47 [(0, .ref 0), (1, .int a1), (2, .int s.1), (3, .int s.2.1), (4, .int s.2.2.1)] []) (fun s h => ?_) _ _ h
        obtain ⟨y4, y5, y6, σ7⟩ := s
        replace h : ok (l_X5_look_47  y4 y5 y6 σ7) _ := h
        unfold l_X5_look_47 at h
        show AW MX5_look E0 rmX5_look 0 0 Q 0 0 S σ7 47 [(0, .ref 0), (1, .int a1), (2, .int y4), (3, .int y5), (4, .int y6)] []
        refine aw_run tTX5_look 2 (pc2 := 51) (L2 := [(0, .ref 0), (1, .int a1), (2, .int y4), (3, .int y5), (4, .int y6)]) (st2 := [.int 6, .int y6]) rfl ?_
        refine aw_icmp_ge tTX5_look rfl 117 54 rfl rfl (fun hc => ?_) (fun hc => ?_)
        · have h := ok_t hc h
          refine aw_sub [1, 2, 3] rfl ?_
          have h := ok_r h
          exact h
        · have h := ok_f hc h
          refine aw_run tTX5_look 1 (pc2 := 55) (L2 := [(0, .ref 0), (1, .int a1), (2, .int y4), (3, .int y5), (4, .int y6)]) (st2 := [.ref 0]) rfl ?_
          refine aw_getR tTX5_look rfl 58 rfl (w_0 hS) rfl flX5_12 ?_
          refine aw_run tTX5_look 1 (pc2 := 60) (L2 := [(0, .ref 0), (1, .int a1), (2, .int y4), (3, .int y5), (4, .int y6)]) (st2 := [.int y6, .ref 1]) rfl ?_
          obtain ⟨r9, er9, h⟩ := ok_b h
          refine aw_cV tTX5_look rfl 63 rfl (M' := MX0_has) (av := [.int y6]) (rest := []) rfl lkX5_63 hMX0_has rfl (w_1 hS) ⟨_, _, rfl⟩ (s_X0_has_1 hS er9) ⟨rfl, rfl, ⟨by decide, by decide⟩, by decide, by decide⟩ (Nat.le_of_ble_eq_true rfl) 46 (wf_len hS) rfl [.int r9] rfl ?_
          refine ok_use (P := fun j10 : Int32 × Int32 × St => AW MX5_look E0 rmX5_look 0 0 Q 0 0 S j10.2.2 111 [(0, .ref 0), (1, .int a1), (2, .int j10.1), (3, .int j10.2.1), (4, .int y6)] []) (ok_b h) (fun j10 h => ?_) (fun h => ?_)
          · refine aw_run tTX5_look 2 (pc2 := 47) (L2 := [(4, .int (y6 + 1)), (0, .ref 0), (1, .int a1), (2, .int j10.1), (3, .int j10.2.1)]) (st2 := []) rfl ?_
            refine aw_sub [1, 2, 3, 4, 0] rfl ?_
            have h := ok_r h
            exact h
          · refine aw_if_eq tTX5_look rfl 111 66 rfl rfl (fun hc => ?_) (fun hc => ?_)
            · have h := ok_t hc h
              refine aw_sub [0, 1, 2, 3, 4] rfl ?_
              have h := ok_r h
              exact h
            · have h := ok_f hc h
              refine aw_run tTX5_look 1 (pc2 := 67) (L2 := [(0, .ref 0), (1, .int a1), (2, .int y4), (3, .int y5), (4, .int y6)]) (st2 := [.ref 0]) rfl ?_
              refine aw_getR tTX5_look rfl 70 rfl (w_0 hS) rfl flX5_12 ?_
              refine aw_run tTX5_look 1 (pc2 := 72) (L2 := [(0, .ref 0), (1, .int a1), (2, .int y4), (3, .int y5), (4, .int y6)]) (st2 := [.int y6, .ref 1]) rfl ?_
              obtain ⟨r11, er11, h⟩ := ok_b h
              refine aw_cV tTX5_look rfl 75 rfl (M' := MX0_hasSightOf) (av := [.int y6]) (rest := []) rfl lkX5_173 hMX0_hasSightOf rfl (w_1 hS) ⟨_, _, rfl⟩ (s_X0_hasSightOf hS er11) ⟨rfl, rfl, ⟨by decide, by decide⟩, by decide, by decide⟩ (Nat.le_of_ble_eq_true rfl) 46 (wf_len hS) rfl [.int r11] rfl ?_
              refine aw_if_ne tTX5_look rfl 111 78 rfl rfl (fun hc => ?_) (fun hc => ?_)
              · have h := ok_t hc h
                refine aw_sub [0, 1, 2, 3, 4] rfl ?_
                have h := ok_r h
                exact h
              · have h := ok_fn hc h
                refine aw_run tTX5_look 1 (pc2 := 79) (L2 := [(0, .ref 0), (1, .int a1), (2, .int y4), (3, .int y5), (4, .int y6)]) (st2 := [.ref 0]) rfl ?_
                refine aw_getR tTX5_look rfl 82 rfl (w_0 hS) rfl flX5_40 ?_
                refine aw_run tTX5_look 1 (pc2 := 83) (L2 := [(0, .ref 0), (1, .int a1), (2, .int y4), (3, .int y5), (4, .int y6)]) (st2 := [.ref 0, .ref 23]) rfl ?_
                refine aw_getR tTX5_look rfl 86 rfl (w_0 hS) rfl flX5_12 ?_
                refine aw_run tTX5_look 1 (pc2 := 88) (L2 := [(0, .ref 0), (1, .int a1), (2, .int y4), (3, .int y5), (4, .int y6)]) (st2 := [.int y6, .ref 1, .ref 23]) rfl ?_
                obtain ⟨r12, er12, h⟩ := ok_b h
                refine aw_cV tTX5_look rfl 91 rfl (M' := MX3_mostLeftBy) (av := [.ref 1, .int y6]) (rest := []) rfl lkX5_176 hMX3_mostLeftBy rfl (w_23 hS) ⟨_, _, rfl⟩ (s_X3_mostLeftBy hS er12) ⟨rfl, rfl, ⟨by decide, by decide⟩, by decide, by decide⟩ (Nat.le_of_ble_eq_true rfl) 46 (wf_len hS) rfl [.int r12.1] rfl ?_
                refine aw_run tTX5_look 3 (pc2 := 96) (L2 := [(5, .int r12.1), (0, .ref 0), (1, .int a1), (2, .int y4), (3, .int y5), (4, .int y6)]) (st2 := [.int (-6 : Int32), .int y4]) rfl ?_
                refine aw_icmp_eq tTX5_look rfl 105 99 rfl rfl (fun hc => ?_) (fun hc => ?_)
                · have h := ok_t hc h
                  refine aw_run tTX5_look 4 (pc2 := 111) (L2 := [(3, .int r12.1), (2, .int y6), (5, .int r12.1), (0, .ref 0), (1, .int a1), (4, .int y6)]) (st2 := []) rfl ?_
                  refine aw_sub [3, 4, 1, 0, 5] rfl ?_
                  have h := ok_r h
                  exact h
                · have h := ok_f hc h
                  refine aw_run tTX5_look 2 (pc2 := 102) (L2 := [(5, .int r12.1), (0, .ref 0), (1, .int a1), (2, .int y4), (3, .int y5), (4, .int y6)]) (st2 := [.int y5, .int r12.1]) rfl ?_
                  refine aw_icmp_ge tTX5_look rfl 111 105 rfl rfl (fun hc => ?_) (fun hc => ?_)
                  · have h := ok_t hc h
                    refine aw_sub [1, 2, 3, 4, 5] rfl ?_
                    have h := ok_r h
                    exact h
                  · have h := ok_f hc h
                    refine aw_run tTX5_look 4 (pc2 := 111) (L2 := [(3, .int r12.1), (2, .int y6), (5, .int r12.1), (0, .ref 0), (1, .int a1), (4, .int y6)]) (st2 := []) rfl ?_
                    refine aw_sub [3, 4, 1, 0, 5] rfl ?_
                    have h := ok_r h
                    exact h
    · have h := ok_fn hc h
      refine aw_run tTX5_look 1 (pc2 := 37) (L2 := [(0, .ref 0), (1, .int a1)]) (st2 := [.int (-6 : Int32)]) rfl ?_
      have h := ok_r h
      exact aw_ir tTX5_look rfl rfl rfl (Nat.le_refl _) (Nat.le_refl _) h
  · have h := ok_fn hc h
    refine aw_run tTX5_look 1 (pc2 := 11) (L2 := [(0, .ref 0), (1, .int a1)]) (st2 := [.int (-2 : Int32)]) rfl ?_
    have h := ok_r h
    exact aw_ir tTX5_look rfl rfl rfl (Nat.le_refl _) (Nat.le_refl _) h
theorem s_X5_look {g : Nat → Option Nat} {S : List SC} (hS : Wf g S) {σ : St} {a1 : Int32} {r : Int32 × St} (e : f_X5_look a1 σ = some r) : Fn MX5_look rmX5_look [.ref 0, .int a1] S σ (some (.int r.1)) r.2 := Sp.of (by decide) (Nat.le_of_ble_eq_true rfl) (t_X5_look hS a1 ⟨r, e, rfl, rfl, rfl⟩)
def f_X5_duel (a1 : Int32) (a2 : Int32) (a3 : Int32) (a4 : Int32) (σ : St) : Option (Int32 × St) := Option.bind (f_X0_hasTwo 1 a1 a2 σ) (fun r1 => if r1 = 0 then (some (((-1 : Int32), σ))) else (if (a3 &&& ((σ 1 8) ^^^ (-1 : Int32))) = 0 then (Option.bind (f_X5_within a4 0 1) (fun r2 => if ¬ r2 = 0 then (Option.bind (f_X4_play a1 a2 a3 σ) (fun r3 => if ¬ a4 = 0 then (some ((r3 27 2, r3))) else (some (((r3 27 1) + 1000, r3))))) else (some (((-2 : Int32), σ))))) else (some (((-1 : Int32), σ)))))
set_option maxHeartbeats 4000000 in
set_option maxRecDepth 20000 in
theorem t_X5_duel {g : Nat → Option Nat} {S : List SC} (hS : Wf g S) {σ : St} {Q : QT} (a1 : Int32) (a2 : Int32) (a3 : Int32) (a4 : Int32) (h : ok (f_X5_duel a1 a2 a3 a4 σ) (fun r => Q (some (.int r.1)) S r.2)) : AW MX5_duel E0 rmX5_duel 0 0 Q 0 0 S σ 0 [(0, .ref 0), (1, .int a1), (2, .int a2), (3, .int a3), (4, .int a4)] [] := by
  unfold f_X5_duel at h
  refine aw_run tTX5_duel 1 (pc2 := 1) (L2 := [(0, .ref 0), (1, .int a1), (2, .int a2), (3, .int a3), (4, .int a4)]) (st2 := [.ref 0]) rfl ?_
  refine aw_getR tTX5_duel rfl 4 rfl (w_0 hS) rfl flX5_12 ?_
  refine aw_run tTX5_duel 2 (pc2 := 6) (L2 := [(0, .ref 0), (1, .int a1), (2, .int a2), (3, .int a3), (4, .int a4)]) (st2 := [.int a2, .int a1, .ref 1]) rfl ?_
  obtain ⟨r1, er1, h⟩ := ok_b h
  refine aw_cV tTX5_duel rfl 9 rfl (M' := MX0_hasTwo) (av := [.int a1, .int a2]) (rest := []) rfl lkX5_132 hMX0_hasTwo rfl (w_1 hS) ⟨_, _, rfl⟩ (s_X0_hasTwo hS er1) ⟨rfl, rfl, ⟨by decide, by decide⟩, by decide, by decide⟩ (Nat.le_of_ble_eq_true rfl) 46 (wf_len hS) rfl [.int r1] rfl ?_
  refine aw_if_eq tTX5_duel rfl 26 12 rfl rfl (fun hc => ?_) (fun hc => ?_)
  · have h := ok_t hc h
    refine aw_run tTX5_duel 1 (pc2 := 27) (L2 := [(0, .ref 0), (1, .int a1), (2, .int a2), (3, .int a3), (4, .int a4)]) (st2 := [.int (-1 : Int32)]) rfl ?_
    have h := ok_r h
    exact aw_ir tTX5_duel rfl rfl rfl (Nat.le_refl _) (Nat.le_refl _) h
  · have h := ok_f hc h
    refine aw_run tTX5_duel 2 (pc2 := 14) (L2 := [(0, .ref 0), (1, .int a1), (2, .int a2), (3, .int a3), (4, .int a4)]) (st2 := [.ref 0, .int a3]) rfl ?_
    refine aw_getR tTX5_duel rfl 17 rfl (w_0 hS) rfl flX5_12 ?_
    refine aw_getI tTX5_duel rfl 20 rfl (w_1 hS) rfl flX5_105 ?_
    refine aw_run tTX5_duel 3 (pc2 := 23) (L2 := [(0, .ref 0), (1, .int a1), (2, .int a2), (3, .int a3), (4, .int a4)]) (st2 := [.int (a3 &&& ((σ 1 8) ^^^ (-1 : Int32)))]) rfl ?_
    refine aw_if_eq tTX5_duel rfl 28 26 rfl rfl (fun hc => ?_) (fun hc => ?_)
    · have h := ok_t hc h
      refine aw_run tTX5_duel 3 (pc2 := 32) (L2 := [(0, .ref 0), (1, .int a1), (2, .int a2), (3, .int a3), (4, .int a4)]) (st2 := [.int 1, .int 0, .int a4]) rfl ?_
      obtain ⟨r2, er2, h⟩ := ok_b h
      refine aw_cS tTX5_duel rfl 35 rfl (M' := MX5_within) (av := [.int a4, .int 0, .int 1]) (rest := []) rfl lkX5_51 hMX5_within rfl (s_X5_within hS er2) ⟨rfl, rfl, ⟨by decide, by decide⟩, by decide, by decide⟩ (Nat.le_of_ble_eq_true rfl) 46 (wf_len hS) rfl [.int r2] rfl ?_
      refine aw_if_ne tTX5_duel rfl 41 38 rfl rfl (fun hc => ?_) (fun hc => ?_)
      · have h := ok_t hc h
        refine aw_run tTX5_duel 1 (pc2 := 42) (L2 := [(0, .ref 0), (1, .int a1), (2, .int a2), (3, .int a3), (4, .int a4)]) (st2 := [.ref 0]) rfl ?_
        refine aw_getR tTX5_duel rfl 45 rfl (w_0 hS) rfl flX5_47 ?_
        refine aw_run tTX5_duel 1 (pc2 := 46) (L2 := [(0, .ref 0), (1, .int a1), (2, .int a2), (3, .int a3), (4, .int a4)]) (st2 := [.ref 0, .ref 27]) rfl ?_
        refine aw_getR tTX5_duel rfl 49 rfl (w_0 hS) rfl flX5_12 ?_
        refine aw_run tTX5_duel 3 (pc2 := 52) (L2 := [(0, .ref 0), (1, .int a1), (2, .int a2), (3, .int a3), (4, .int a4)]) (st2 := [.int a3, .int a2, .int a1, .ref 1, .ref 27]) rfl ?_
        obtain ⟨r3, er3, h⟩ := ok_b h
        refine aw_cV tTX5_duel rfl 55 rfl (M' := MX4_play) (av := [.ref 1, .int a1, .int a2, .int a3]) (rest := []) rfl lkX5_180 hMX4_play rfl (w_27 hS) ⟨_, _, rfl⟩ (s_X4_play hS er3) ⟨rfl, rfl, ⟨by decide, by decide⟩, by decide, by decide⟩ (Nat.le_of_ble_eq_true rfl) 46 (wf_len hS) rfl [] rfl ?_
        refine aw_run tTX5_duel 1 (pc2 := 57) (L2 := [(0, .ref 0), (1, .int a1), (2, .int a2), (3, .int a3), (4, .int a4)]) (st2 := [.int a4]) rfl ?_
        refine aw_if_ne tTX5_duel rfl 74 60 rfl rfl (fun hc => ?_) (fun hc => ?_)
        · have h := ok_t hc h
          refine aw_run tTX5_duel 1 (pc2 := 75) (L2 := [(0, .ref 0), (1, .int a1), (2, .int a2), (3, .int a3), (4, .int a4)]) (st2 := [.ref 0]) rfl ?_
          refine aw_getR tTX5_duel rfl 78 rfl (w_0 hS) rfl flX5_47 ?_
          refine aw_getI tTX5_duel rfl 81 rfl (w_27 hS) rfl flX5_187 ?_
          have h := ok_r h
          exact aw_ir tTX5_duel rfl rfl rfl (Nat.le_refl _) (Nat.le_refl _) h
        · have h := ok_fn hc h
          refine aw_run tTX5_duel 1 (pc2 := 61) (L2 := [(0, .ref 0), (1, .int a1), (2, .int a2), (3, .int a3), (4, .int a4)]) (st2 := [.ref 0]) rfl ?_
          refine aw_getR tTX5_duel rfl 64 rfl (w_0 hS) rfl flX5_47 ?_
          refine aw_getI tTX5_duel rfl 67 rfl (w_27 hS) rfl flX5_184 ?_
          refine aw_run tTX5_duel 3 (pc2 := 81) (L2 := [(0, .ref 0), (1, .int a1), (2, .int a2), (3, .int a3), (4, .int a4)]) (st2 := [.int ((r3 27 1) + 1000)]) rfl ?_
          have h := ok_r h
          exact aw_ir tTX5_duel rfl rfl rfl (Nat.le_refl _) (Nat.le_refl _) h
      · have h := ok_fn hc h
        refine aw_run tTX5_duel 1 (pc2 := 40) (L2 := [(0, .ref 0), (1, .int a1), (2, .int a2), (3, .int a3), (4, .int a4)]) (st2 := [.int (-2 : Int32)]) rfl ?_
        have h := ok_r h
        exact aw_ir tTX5_duel rfl rfl rfl (Nat.le_refl _) (Nat.le_refl _) h
    · have h := ok_f hc h
      refine aw_run tTX5_duel 1 (pc2 := 27) (L2 := [(0, .ref 0), (1, .int a1), (2, .int a2), (3, .int a3), (4, .int a4)]) (st2 := [.int (-1 : Int32)]) rfl ?_
      have h := ok_r h
      exact aw_ir tTX5_duel rfl rfl rfl (Nat.le_refl _) (Nat.le_refl _) h
theorem s_X5_duel {g : Nat → Option Nat} {S : List SC} (hS : Wf g S) {σ : St} {a1 : Int32} {a2 : Int32} {a3 : Int32} {a4 : Int32} {r : Int32 × St} (e : f_X5_duel a1 a2 a3 a4 σ = some r) : Fn MX5_duel rmX5_duel [.ref 0, .int a1, .int a2, .int a3, .int a4] S σ (some (.int r.1)) r.2 := Sp.of (by decide) (Nat.le_of_ble_eq_true rfl) (t_X5_duel hS a1 a2 a3 a4 ⟨r, e, rfl, rfl, rfl⟩)
def l_X5_sharedWithTenths_3 (a1 : Int32) (y1 : Int32) : Option ((Int32) ⊕ ((Unit) ⊕ (Int32))) := if y1 ≤ 1 then (some (.inr (.inl ()))) else (gz y1 (if ¬ (jrem a1 y1) = 0 then (some (.inl (y1 + (-1 : Int32)))) else (gz y1 (if ¬ (jrem 10 y1) = 0 then (some (.inl (y1 + (-1 : Int32)))) else (some (.inr (.inr (y1))))))))
def f_X5_sharedWithTenths (a1 : Int32)  : Option (Int32) := Option.bind (loop (fun s : Int32 => l_X5_sharedWithTenths_3 a1 s) 400 10) (fun z3 => match z3 with
    | .inl z2 => some (1)
    | .inr z3 => some (z3))
set_option maxHeartbeats 4000000 in
set_option maxRecDepth 20000 in
theorem t_X5_sharedWithTenths {g : Nat → Option Nat} {S : List SC} (hS : Wf g S) {σ : St} {Q : QT} (a1 : Int32) (h : ok (f_X5_sharedWithTenths a1 ) (fun r => Q (some (.int r)) S σ)) : AW MX5_sharedWithTenths E0 rmX5_sharedWithTenths 0 0 Q 0 0 S σ 0 [(0, .int a1)] [] := by
  unfold f_X5_sharedWithTenths at h
  refine aw_run tTX5_sharedWithTenths 2 (pc2 := 3) (L2 := [(1, .int 10), (0, .int a1)]) (st2 := []) rfl ?_
  refine ok_use (P := fun z3 : (Unit) ⊕ (Int32) => match z3 with
    | .inl z2 => AW MX5_sharedWithTenths E0 rmX5_sharedWithTenths 0 0 Q 0 0 S σ 29 [] []
    | .inr z3 => Q (some (.int z3)) S σ) (ok_b h) (fun z3 h => ?_) (fun h => ?_)
  · cases z3 with
    | inl z2 =>
      refine aw_run tTX5_sharedWithTenths 1 (pc2 := 30) (L2 := []) (st2 := [.int 1]) rfl ?_
      have h := ok_r h
      exact aw_ir tTX5_sharedWithTenths rfl rfl rfl (Nat.le_refl _) (Nat.le_refl _) h
    | inr z3 =>
      have h := ok_r h
      exact h
  · refine aw_sub [1, 0] rfl ?_
    refine loop_P (P := fun s : Int32 => AW MX5_sharedWithTenths E0 rmX5_sharedWithTenths 0 0 Q 0 0 S σ 3 [(0, .int a1), (1, .int s)] []) (fun s h => ?_) _ _ h
    obtain ⟨y1, rfl⟩ : ∃ y, y = s := ⟨_, rfl⟩
    replace h : ok (l_X5_sharedWithTenths_3 a1 y1) _ := h
    unfold l_X5_sharedWithTenths_3 at h
    show AW MX5_sharedWithTenths E0 rmX5_sharedWithTenths 0 0 Q 0 0 S σ 3 [(0, .int a1), (1, .int y1)] []
    refine aw_run tTX5_sharedWithTenths 2 (pc2 := 5) (L2 := [(0, .int a1), (1, .int y1)]) (st2 := [.int 1, .int y1]) rfl ?_
    refine aw_icmp_le tTX5_sharedWithTenths rfl 29 8 rfl rfl (fun hc => ?_) (fun hc => ?_)
    · have h := ok_t hc h
      refine aw_sub [] rfl ?_
      have h := ok_r h
      exact h
    · have h := ok_f hc h
      refine aw_run tTX5_sharedWithTenths 2 (pc2 := 10) (L2 := [(0, .int a1), (1, .int y1)]) (st2 := [.int y1, .int a1]) rfl ?_
      obtain ⟨hz, h⟩ := ok_gz h
      refine aw_irem tTX5_sharedWithTenths rfl 11 rfl hz ?_
      refine aw_if_ne tTX5_sharedWithTenths rfl 23 14 rfl rfl (fun hc => ?_) (fun hc => ?_)
      · have h := ok_t hc h
        refine aw_run tTX5_sharedWithTenths 2 (pc2 := 3) (L2 := [(1, .int (y1 + (-1 : Int32))), (0, .int a1)]) (st2 := []) rfl ?_
        refine aw_sub [1, 0] rfl ?_
        have h := ok_r h
        exact h
      · have h := ok_fn hc h
        refine aw_run tTX5_sharedWithTenths 2 (pc2 := 17) (L2 := [(0, .int a1), (1, .int y1)]) (st2 := [.int y1, .int 10]) rfl ?_
        obtain ⟨hz, h⟩ := ok_gz h
        refine aw_irem tTX5_sharedWithTenths rfl 18 rfl hz ?_
        refine aw_if_ne tTX5_sharedWithTenths rfl 23 21 rfl rfl (fun hc => ?_) (fun hc => ?_)
        · have h := ok_t hc h
          refine aw_run tTX5_sharedWithTenths 2 (pc2 := 3) (L2 := [(1, .int (y1 + (-1 : Int32))), (0, .int a1)]) (st2 := []) rfl ?_
          refine aw_sub [1, 0] rfl ?_
          have h := ok_r h
          exact h
        · have h := ok_fn hc h
          refine aw_run tTX5_sharedWithTenths 1 (pc2 := 22) (L2 := [(0, .int a1), (1, .int y1)]) (st2 := [.int y1]) rfl ?_
          have h := ok_r h
          exact aw_ir tTX5_sharedWithTenths rfl rfl rfl (Nat.le_refl _) (Nat.le_refl _) h
theorem s_X5_sharedWithTenths {g : Nat → Option Nat} {S : List SC} (hS : Wf g S) {σ : St} {a1 : Int32} {r : Int32} (e : f_X5_sharedWithTenths a1  = some r) : Fn MX5_sharedWithTenths rmX5_sharedWithTenths [.int a1] S σ (some (.int r)) σ := Sp.of (by decide) (Nat.le_of_ble_eq_true rfl) (t_X5_sharedWithTenths hS a1 ⟨r, e, rfl, rfl, rfl⟩)
def f_X5_caught (a1 : Int32) (a2 : Int32) (a3 : Int32) (a4 : Int32) (a5 : Int32) (σ : St) : Option (Int64) := Option.bind (f_X0_hasTwo 1 a1 a2 σ) (fun r1 => if ¬ r1 = 0 then (Option.bind (f_X5_within a3 0 10) (fun r2 => if r2 = 0 then (some ((-1000000000000000002 : Int64))) else (Option.bind (f_X5_within a4 0 1) (fun r3 => if r3 = 0 then (some ((-1000000000000000002 : Int64))) else (Option.bind (f_X5_within a5 0 1) (fun r4 => if ¬ r4 = 0 then (Option.bind (f_X0_robBar 1 a1 a2 σ) (fun r5 => if r5 = 0 then (gi a1 6 (Option.bind (f_X0_load 1 a1 a2 σ) (fun r6 => nm ((σ 4 a1.toNatClampNeg) + r6) (fun (x7 : Int32) => Option.bind (α := Int32) (if ¬ a4 = 0 then (Option.bind (α := Int32) (if x7 ≤ (σ 4 a1.toNatClampNeg) then (some 0) else (some (10 - a3))) (fun (j10 : Int32) => Option.bind (α := Int32) (if (jmax 0 (x7 - 9)) ≤ (σ 4 a1.toNatClampNeg) then (some 0) else (some a3)) (fun (j11 : Int32) => some (j10 + j11)))) else (nm (((10 - a3) * x7) + (a3 * (jmax 0 (x7 - 9)))) (fun (x12 : Int32) => some x12))) (fun (j8 : Int32) => Option.bind (f_X5_sharedWithTenths j8) (fun r9 => if ¬ a5 = 0 then (gz r9 (some ((10 / r9).toInt64))) else (gz r9 (some ((j8 / r9).toInt64))))))))) else (some ((-1000000000000000003 : Int64))))) else (some ((-1000000000000000002 : Int64))))))))) else (some ((-1000000000000000001 : Int64))))
set_option maxHeartbeats 4000000 in
set_option maxRecDepth 20000 in
theorem t_X5_caught {g : Nat → Option Nat} {S : List SC} (hS : Wf g S) {σ : St} {Q : QT} (a1 : Int32) (a2 : Int32) (a3 : Int32) (a4 : Int32) (a5 : Int32) (h : ok (f_X5_caught a1 a2 a3 a4 a5 σ) (fun r => Q (some (.long r)) S σ)) : AW MX5_caught E0 rmX5_caught 0 0 Q 0 0 S σ 0 [(0, .ref 0), (1, .int a1), (2, .int a2), (3, .int a3), (4, .int a4), (5, .int a5)] [] := by
  unfold f_X5_caught at h
  refine aw_run tTX5_caught 1 (pc2 := 1) (L2 := [(0, .ref 0), (1, .int a1), (2, .int a2), (3, .int a3), (4, .int a4), (5, .int a5)]) (st2 := [.ref 0]) rfl ?_
  refine aw_getR tTX5_caught rfl 4 rfl (w_0 hS) rfl flX5_12 ?_
  refine aw_run tTX5_caught 2 (pc2 := 6) (L2 := [(0, .ref 0), (1, .int a1), (2, .int a2), (3, .int a3), (4, .int a4), (5, .int a5)]) (st2 := [.int a2, .int a1, .ref 1]) rfl ?_
  obtain ⟨r1, er1, h⟩ := ok_b h
  refine aw_cV tTX5_caught rfl 9 rfl (M' := MX0_hasTwo) (av := [.int a1, .int a2]) (rest := []) rfl lkX5_132 hMX0_hasTwo rfl (w_1 hS) ⟨_, _, rfl⟩ (s_X0_hasTwo hS er1) ⟨rfl, rfl, ⟨by decide, by decide⟩, by decide, by decide⟩ (Nat.le_of_ble_eq_true rfl) 46 (wf_len hS) rfl [.int r1] rfl ?_
  refine aw_if_ne tTX5_caught rfl 16 12 rfl rfl (fun hc => ?_) (fun hc => ?_)
  · have h := ok_t hc h
    refine aw_run tTX5_caught 3 (pc2 := 20) (L2 := [(0, .ref 0), (1, .int a1), (2, .int a2), (3, .int a3), (4, .int a4), (5, .int a5)]) (st2 := [.int 10, .int 0, .int a3]) rfl ?_
    obtain ⟨r2, er2, h⟩ := ok_b h
    refine aw_cS tTX5_caught rfl 23 rfl (M' := MX5_within) (av := [.int a3, .int 0, .int 10]) (rest := []) rfl lkX5_51 hMX5_within rfl (s_X5_within hS er2) ⟨rfl, rfl, ⟨by decide, by decide⟩, by decide, by decide⟩ (Nat.le_of_ble_eq_true rfl) 46 (wf_len hS) rfl [.int r2] rfl ?_
    refine aw_if_eq tTX5_caught rfl 46 26 rfl rfl (fun hc => ?_) (fun hc => ?_)
    · have h := ok_t hc h
      refine aw_run tTX5_caught 1 (pc2 := 49) (L2 := [(0, .ref 0), (1, .int a1), (2, .int a2), (3, .int a3), (4, .int a4), (5, .int a5)]) (st2 := [.long ((-1000000000000000002 : Int64))]) rfl ?_
      have h := ok_r h
      exact aw_lr tTX5_caught rfl rfl (Nat.le_refl _) (Nat.le_refl _) h
    · have h := ok_f hc h
      refine aw_run tTX5_caught 3 (pc2 := 30) (L2 := [(0, .ref 0), (1, .int a1), (2, .int a2), (3, .int a3), (4, .int a4), (5, .int a5)]) (st2 := [.int 1, .int 0, .int a4]) rfl ?_
      obtain ⟨r3, er3, h⟩ := ok_b h
      refine aw_cS tTX5_caught rfl 33 rfl (M' := MX5_within) (av := [.int a4, .int 0, .int 1]) (rest := []) rfl lkX5_51 hMX5_within rfl (s_X5_within hS er3) ⟨rfl, rfl, ⟨by decide, by decide⟩, by decide, by decide⟩ (Nat.le_of_ble_eq_true rfl) 46 (wf_len hS) rfl [.int r3] rfl ?_
      refine aw_if_eq tTX5_caught rfl 46 36 rfl rfl (fun hc => ?_) (fun hc => ?_)
      · have h := ok_t hc h
        refine aw_run tTX5_caught 1 (pc2 := 49) (L2 := [(0, .ref 0), (1, .int a1), (2, .int a2), (3, .int a3), (4, .int a4), (5, .int a5)]) (st2 := [.long ((-1000000000000000002 : Int64))]) rfl ?_
        have h := ok_r h
        exact aw_lr tTX5_caught rfl rfl (Nat.le_refl _) (Nat.le_refl _) h
      · have h := ok_f hc h
        refine aw_run tTX5_caught 3 (pc2 := 40) (L2 := [(0, .ref 0), (1, .int a1), (2, .int a2), (3, .int a3), (4, .int a4), (5, .int a5)]) (st2 := [.int 1, .int 0, .int a5]) rfl ?_
        obtain ⟨r4, er4, h⟩ := ok_b h
        refine aw_cS tTX5_caught rfl 43 rfl (M' := MX5_within) (av := [.int a5, .int 0, .int 1]) (rest := []) rfl lkX5_51 hMX5_within rfl (s_X5_within hS er4) ⟨rfl, rfl, ⟨by decide, by decide⟩, by decide, by decide⟩ (Nat.le_of_ble_eq_true rfl) 46 (wf_len hS) rfl [.int r4] rfl ?_
        refine aw_if_ne tTX5_caught rfl 50 46 rfl rfl (fun hc => ?_) (fun hc => ?_)
        · have h := ok_t hc h
          refine aw_run tTX5_caught 1 (pc2 := 51) (L2 := [(0, .ref 0), (1, .int a1), (2, .int a2), (3, .int a3), (4, .int a4), (5, .int a5)]) (st2 := [.ref 0]) rfl ?_
          refine aw_getR tTX5_caught rfl 54 rfl (w_0 hS) rfl flX5_12 ?_
          refine aw_run tTX5_caught 2 (pc2 := 56) (L2 := [(0, .ref 0), (1, .int a1), (2, .int a2), (3, .int a3), (4, .int a4), (5, .int a5)]) (st2 := [.int a2, .int a1, .ref 1]) rfl ?_
          obtain ⟨r5, er5, h⟩ := ok_b h
          refine aw_cV tTX5_caught rfl 59 rfl (M' := MX0_robBar) (av := [.int a1, .int a2]) (rest := []) rfl lkX5_194 hMX0_robBar rfl (w_1 hS) ⟨_, _, rfl⟩ (s_X0_robBar_1 hS er5) ⟨rfl, rfl, ⟨by decide, by decide⟩, by decide, by decide⟩ (Nat.le_of_ble_eq_true rfl) 46 (wf_len hS) rfl [.int r5] rfl ?_
          refine aw_if_eq tTX5_caught rfl 66 62 rfl rfl (fun hc => ?_) (fun hc => ?_)
          · have h := ok_t hc h
            refine aw_run tTX5_caught 1 (pc2 := 67) (L2 := [(0, .ref 0), (1, .int a1), (2, .int a2), (3, .int a3), (4, .int a4), (5, .int a5)]) (st2 := [.ref 0]) rfl ?_
            refine aw_getR tTX5_caught rfl 70 rfl (w_0 hS) rfl flX5_12 ?_
            refine aw_getR tTX5_caught rfl 73 rfl (w_1 hS) rfl flX5_199 ?_
            refine aw_run tTX5_caught 1 (pc2 := 74) (L2 := [(0, .ref 0), (1, .int a1), (2, .int a2), (3, .int a3), (4, .int a4), (5, .int a5)]) (st2 := [.int a1, .ref 4]) rfl ?_
            obtain ⟨hi, h⟩ := ok_gi h
            refine aw_iald tTX5_caught rfl 75 rfl (w_4 hS) hi ?_
            refine aw_run tTX5_caught 3 (pc2 := 80) (L2 := [(6, .int (σ 4 a1.toNatClampNeg)), (0, .ref 0), (1, .int a1), (2, .int a2), (3, .int a3), (4, .int a4), (5, .int a5)]) (st2 := [.ref 0, .int (σ 4 a1.toNatClampNeg)]) rfl ?_
            refine aw_getR tTX5_caught rfl 83 rfl (w_0 hS) rfl flX5_12 ?_
            refine aw_run tTX5_caught 2 (pc2 := 85) (L2 := [(6, .int (σ 4 a1.toNatClampNeg)), (0, .ref 0), (1, .int a1), (2, .int a2), (3, .int a3), (4, .int a4), (5, .int a5)]) (st2 := [.int a2, .int a1, .ref 1, .int (σ 4 a1.toNatClampNeg)]) rfl ?_
            obtain ⟨r6, er6, h⟩ := ok_b h
            refine aw_cV tTX5_caught rfl 88 rfl (M' := MX0_load) (av := [.int a1, .int a2]) (rest := [.int (σ 4 a1.toNatClampNeg)]) rfl lkX5_143 hMX0_load rfl (w_1 hS) ⟨_, _, rfl⟩ (s_X0_load_1 hS er6) ⟨rfl, rfl, ⟨by decide, by decide⟩, by decide, by decide⟩ (Nat.le_of_ble_eq_true rfl) 46 (wf_len hS) rfl [.int r6, .int (σ 4 a1.toNatClampNeg)] rfl ?_
            refine aw_run tTX5_caught 1 (pc2 := 89) (L2 := [(6, .int (σ 4 a1.toNatClampNeg)), (0, .ref 0), (1, .int a1), (2, .int a2), (3, .int a3), (4, .int a4), (5, .int a5)]) (st2 := [.int ((σ 4 a1.toNatClampNeg) + r6)]) rfl ?_
            refine aw_nm (fun x7 ex7 => ?_)
            have h := ok_nm h x7 ex7
            refine aw_run tTX5_caught 1 (pc2 := 91) (L2 := [(7, .int x7), (6, .int (σ 4 a1.toNatClampNeg)), (0, .ref 0), (1, .int a1), (2, .int a2), (3, .int a3), (4, .int a4), (5, .int a5)]) (st2 := []) rfl ?_
            refine aw_run tTX5_caught 4 (pc2 := 97) (L2 := [(7, .int x7), (6, .int (σ 4 a1.toNatClampNeg)), (0, .ref 0), (1, .int a1), (2, .int a2), (3, .int a3), (4, .int a4), (5, .int a5)]) (st2 := [.int (x7 - 9), .int 0]) rfl ?_
            refine aw_max tTX5_caught rfl 100 rfl lkX5_202 (by decide) (Nat.le_of_ble_eq_true rfl) (Nat.zero_le _) (Nat.zero_le _) ?_
            refine aw_run tTX5_caught 2 (pc2 := 104) (L2 := [(8, .int (jmax 0 (x7 - 9))), (7, .int x7), (6, .int (σ 4 a1.toNatClampNeg)), (0, .ref 0), (1, .int a1), (2, .int a2), (3, .int a3), (4, .int a4), (5, .int a5)]) (st2 := [.int a4]) rfl ?_
            refine ok_use (P := fun j8 : Int32 => AW MX5_caught E0 rmX5_caught 0 0 Q 0 0 S σ 154 [(5, .int a5), (9, .int j8)] []) (ok_b h) (fun j8 h => ?_) (fun h => ?_)
            · refine aw_run tTX5_caught 1 (pc2 := 156) (L2 := [(5, .int a5), (9, .int j8)]) (st2 := [.int j8]) rfl ?_
              obtain ⟨r9, er9, h⟩ := ok_b h
              refine aw_cS tTX5_caught rfl 159 rfl (M' := MX5_sharedWithTenths) (av := [.int j8]) (rest := []) rfl lkX5_205 hMX5_sharedWithTenths rfl (s_X5_sharedWithTenths hS er9) ⟨rfl, rfl, ⟨by decide, by decide⟩, by decide, by decide⟩ (Nat.le_of_ble_eq_true rfl) 46 (wf_len hS) rfl [.int r9] rfl ?_
              refine aw_run tTX5_caught 2 (pc2 := 163) (L2 := [(10, .int r9), (5, .int a5), (9, .int j8)]) (st2 := [.int a5]) rfl ?_
              refine aw_if_ne tTX5_caught rfl 175 166 rfl rfl (fun hc => ?_) (fun hc => ?_)
              · have h := ok_t hc h
                refine aw_run tTX5_caught 2 (pc2 := 179) (L2 := [(10, .int r9), (5, .int a5), (9, .int j8)]) (st2 := [.int r9, .int 10]) rfl ?_
                obtain ⟨hz, h⟩ := ok_gz h
                refine aw_idiv tTX5_caught rfl 180 rfl hz ?_
                refine aw_run tTX5_caught 1 (pc2 := 181) (L2 := [(10, .int r9), (5, .int a5), (9, .int j8)]) (st2 := [.long ((10 / r9).toInt64)]) rfl ?_
                have h := ok_r h
                exact aw_lr tTX5_caught rfl rfl (Nat.le_refl _) (Nat.le_refl _) h
              · have h := ok_fn hc h
                refine aw_run tTX5_caught 2 (pc2 := 170) (L2 := [(10, .int r9), (5, .int a5), (9, .int j8)]) (st2 := [.int r9, .int j8]) rfl ?_
                obtain ⟨hz, h⟩ := ok_gz h
                refine aw_idiv tTX5_caught rfl 171 rfl hz ?_
                refine aw_run tTX5_caught 2 (pc2 := 181) (L2 := [(10, .int r9), (5, .int a5), (9, .int j8)]) (st2 := [.long ((j8 / r9).toInt64)]) rfl ?_
                have h := ok_r h
                exact aw_lr tTX5_caught rfl rfl (Nat.le_refl _) (Nat.le_refl _) h
            · refine aw_if_ne tTX5_caught rfl 124 107 rfl rfl (fun hc => ?_) (fun hc => ?_)
              · have h := ok_t hc h
                refine aw_run tTX5_caught 2 (pc2 := 128) (L2 := [(8, .int (jmax 0 (x7 - 9))), (7, .int x7), (6, .int (σ 4 a1.toNatClampNeg)), (0, .ref 0), (1, .int a1), (2, .int a2), (3, .int a3), (4, .int a4), (5, .int a5)]) (st2 := [.int (σ 4 a1.toNatClampNeg), .int x7]) rfl ?_
                refine ok_use (P := fun j10 : Int32 => AW MX5_caught E0 rmX5_caught 0 0 Q 0 0 S σ 139 [(3, .int a3), (5, .int a5), (6, .int (σ 4 a1.toNatClampNeg)), (8, .int (jmax 0 (x7 - 9)))] [.int j10]) (ok_b h) (fun j10 h => ?_) (fun h => ?_)
                · refine aw_run tTX5_caught 2 (pc2 := 143) (L2 := [(3, .int a3), (5, .int a5), (6, .int (σ 4 a1.toNatClampNeg)), (8, .int (jmax 0 (x7 - 9)))]) (st2 := [.int (σ 4 a1.toNatClampNeg), .int (jmax 0 (x7 - 9)), .int j10]) rfl ?_
                  refine ok_use (P := fun j11 : Int32 => AW MX5_caught E0 rmX5_caught 0 0 Q 0 0 S σ 151 [(5, .int a5)] [.int j11, .int j10]) (ok_b h) (fun j11 h => ?_) (fun h => ?_)
                  · refine aw_run tTX5_caught 2 (pc2 := 154) (L2 := [(9, .int (j10 + j11)), (5, .int a5)]) (st2 := []) rfl ?_
                    refine aw_sub [1, 0] rfl ?_
                    have h := ok_r h
                    exact h
                  · refine aw_icmp_le tTX5_caught rfl 150 146 rfl rfl (fun hc => ?_) (fun hc => ?_)
                    · have h := ok_t hc h
                      refine aw_run tTX5_caught 1 (pc2 := 151) (L2 := [(3, .int a3), (5, .int a5), (6, .int (σ 4 a1.toNatClampNeg)), (8, .int (jmax 0 (x7 - 9)))]) (st2 := [.int 0, .int j10]) rfl ?_
                      refine aw_sub [1] rfl ?_
                      have h := ok_r h
                      exact h
                    · have h := ok_f hc h
                      refine aw_run tTX5_caught 2 (pc2 := 151) (L2 := [(3, .int a3), (5, .int a5), (6, .int (σ 4 a1.toNatClampNeg)), (8, .int (jmax 0 (x7 - 9)))]) (st2 := [.int a3, .int j10]) rfl ?_
                      refine aw_sub [1] rfl ?_
                      have h := ok_r h
                      exact h
                · refine aw_icmp_le tTX5_caught rfl 138 131 rfl rfl (fun hc => ?_) (fun hc => ?_)
                  · have h := ok_t hc h
                    refine aw_run tTX5_caught 1 (pc2 := 139) (L2 := [(8, .int (jmax 0 (x7 - 9))), (7, .int x7), (6, .int (σ 4 a1.toNatClampNeg)), (0, .ref 0), (1, .int a1), (2, .int a2), (3, .int a3), (4, .int a4), (5, .int a5)]) (st2 := [.int 0]) rfl ?_
                    refine aw_sub [6, 8, 2, 0] rfl ?_
                    have h := ok_r h
                    exact h
                  · have h := ok_f hc h
                    refine aw_run tTX5_caught 4 (pc2 := 139) (L2 := [(8, .int (jmax 0 (x7 - 9))), (7, .int x7), (6, .int (σ 4 a1.toNatClampNeg)), (0, .ref 0), (1, .int a1), (2, .int a2), (3, .int a3), (4, .int a4), (5, .int a5)]) (st2 := [.int (10 - a3)]) rfl ?_
                    refine aw_sub [6, 8, 2, 0] rfl ?_
                    have h := ok_r h
                    exact h
              · have h := ok_fn hc h
                refine aw_run tTX5_caught 9 (pc2 := 119) (L2 := [(8, .int (jmax 0 (x7 - 9))), (7, .int x7), (6, .int (σ 4 a1.toNatClampNeg)), (0, .ref 0), (1, .int a1), (2, .int a2), (3, .int a3), (4, .int a4), (5, .int a5)]) (st2 := [.int (((10 - a3) * x7) + (a3 * (jmax 0 (x7 - 9))))]) rfl ?_
                refine aw_nm (fun x12 ex12 => ?_)
                have h := ok_nm h x12 ex12
                refine aw_run tTX5_caught 1 (pc2 := 121) (L2 := [(9, .int x12), (8, .int (jmax 0 (x7 - 9))), (7, .int x7), (6, .int (σ 4 a1.toNatClampNeg)), (0, .ref 0), (1, .int a1), (2, .int a2), (3, .int a3), (4, .int a4), (5, .int a5)]) (st2 := []) rfl ?_
                refine aw_run tTX5_caught 1 (pc2 := 154) (L2 := [(9, .int x12), (8, .int (jmax 0 (x7 - 9))), (7, .int x7), (6, .int (σ 4 a1.toNatClampNeg)), (0, .ref 0), (1, .int a1), (2, .int a2), (3, .int a3), (4, .int a4), (5, .int a5)]) (st2 := []) rfl ?_
                refine aw_sub [9, 0] rfl ?_
                have h := ok_r h
                exact h
          · have h := ok_f hc h
            refine aw_run tTX5_caught 1 (pc2 := 65) (L2 := [(0, .ref 0), (1, .int a1), (2, .int a2), (3, .int a3), (4, .int a4), (5, .int a5)]) (st2 := [.long ((-1000000000000000003 : Int64))]) rfl ?_
            have h := ok_r h
            exact aw_lr tTX5_caught rfl rfl (Nat.le_refl _) (Nat.le_refl _) h
        · have h := ok_fn hc h
          refine aw_run tTX5_caught 1 (pc2 := 49) (L2 := [(0, .ref 0), (1, .int a1), (2, .int a2), (3, .int a3), (4, .int a4), (5, .int a5)]) (st2 := [.long ((-1000000000000000002 : Int64))]) rfl ?_
          have h := ok_r h
          exact aw_lr tTX5_caught rfl rfl (Nat.le_refl _) (Nat.le_refl _) h
  · have h := ok_fn hc h
    refine aw_run tTX5_caught 1 (pc2 := 15) (L2 := [(0, .ref 0), (1, .int a1), (2, .int a2), (3, .int a3), (4, .int a4), (5, .int a5)]) (st2 := [.long ((-1000000000000000001 : Int64))]) rfl ?_
    have h := ok_r h
    exact aw_lr tTX5_caught rfl rfl (Nat.le_refl _) (Nat.le_refl _) h
theorem s_X5_caught {g : Nat → Option Nat} {S : List SC} (hS : Wf g S) {σ : St} {a1 : Int32} {a2 : Int32} {a3 : Int32} {a4 : Int32} {a5 : Int32} {r : Int64} (e : f_X5_caught a1 a2 a3 a4 a5 σ = some r) : Fn MX5_caught rmX5_caught [.ref 0, .int a1, .int a2, .int a3, .int a4, .int a5] S σ (some (.long r)) σ := Sp.of (by decide) (Nat.le_of_ble_eq_true rfl) (t_X5_caught hS a1 a2 a3 a4 a5 ⟨r, e, rfl, rfl, rfl⟩)
def f_X5_moons (a1 : Int32) (a2 : Int32) (σ : St) : Option (Int32) := Option.bind (f_X0_has 1 a1 σ) (fun r1 => if ¬ r1 = 0 then (Option.bind (f_X5_within a2 0 60) (fun r2 => if ¬ r2 = 0 then (Option.bind (f_X0_count 1 σ) (fun r3 => Option.bind (f_X0_smallerHeaps 1 a1 σ) (fun r4 => gz (jmax 1 r3) (Option.bind (α := Int32) (if (jrem a2 (jmax 1 r3)) ≤ r4 then (some 0) else (some 1)) (fun (j5 : Int32) => gz (jmax 1 r3) (some ((a2 / (jmax 1 r3)) + j5))))))) else (some ((-2 : Int32))))) else (some ((-1 : Int32))))
set_option maxHeartbeats 4000000 in
set_option maxRecDepth 20000 in
theorem t_X5_moons {g : Nat → Option Nat} {S : List SC} (hS : Wf g S) {σ : St} {Q : QT} (a1 : Int32) (a2 : Int32) (h : ok (f_X5_moons a1 a2 σ) (fun r => Q (some (.int r)) S σ)) : AW MX5_moons E0 rmX5_moons 0 0 Q 0 0 S σ 0 [(0, .ref 0), (1, .int a1), (2, .int a2)] [] := by
  unfold f_X5_moons at h
  refine aw_run tTX5_moons 1 (pc2 := 1) (L2 := [(0, .ref 0), (1, .int a1), (2, .int a2)]) (st2 := [.ref 0]) rfl ?_
  refine aw_getR tTX5_moons rfl 4 rfl (w_0 hS) rfl flX5_12 ?_
  refine aw_run tTX5_moons 1 (pc2 := 5) (L2 := [(0, .ref 0), (1, .int a1), (2, .int a2)]) (st2 := [.int a1, .ref 1]) rfl ?_
  obtain ⟨r1, er1, h⟩ := ok_b h
  refine aw_cV tTX5_moons rfl 8 rfl (M' := MX0_has) (av := [.int a1]) (rest := []) rfl lkX5_63 hMX0_has rfl (w_1 hS) ⟨_, _, rfl⟩ (s_X0_has_1 hS er1) ⟨rfl, rfl, ⟨by decide, by decide⟩, by decide, by decide⟩ (Nat.le_of_ble_eq_true rfl) 46 (wf_len hS) rfl [.int r1] rfl ?_
  refine aw_if_ne tTX5_moons rfl 13 11 rfl rfl (fun hc => ?_) (fun hc => ?_)
  · have h := ok_t hc h
    refine aw_run tTX5_moons 3 (pc2 := 17) (L2 := [(0, .ref 0), (1, .int a1), (2, .int a2)]) (st2 := [.int 60, .int 0, .int a2]) rfl ?_
    obtain ⟨r2, er2, h⟩ := ok_b h
    refine aw_cS tTX5_moons rfl 20 rfl (M' := MX5_within) (av := [.int a2, .int 0, .int 60]) (rest := []) rfl lkX5_51 hMX5_within rfl (s_X5_within hS er2) ⟨rfl, rfl, ⟨by decide, by decide⟩, by decide, by decide⟩ (Nat.le_of_ble_eq_true rfl) 46 (wf_len hS) rfl [.int r2] rfl ?_
    refine aw_if_ne tTX5_moons rfl 26 23 rfl rfl (fun hc => ?_) (fun hc => ?_)
    · have h := ok_t hc h
      refine aw_run tTX5_moons 2 (pc2 := 28) (L2 := [(0, .ref 0), (1, .int a1), (2, .int a2)]) (st2 := [.ref 0, .int 1]) rfl ?_
      refine aw_getR tTX5_moons rfl 31 rfl (w_0 hS) rfl flX5_12 ?_
      obtain ⟨r3, er3, h⟩ := ok_b h
      refine aw_cV tTX5_moons rfl 34 rfl (M' := MX0_count) (av := []) (rest := [.int 1]) rfl lkX5_59 hMX0_count rfl (w_1 hS) ⟨_, _, rfl⟩ (s_X0_count hS er3) ⟨rfl, rfl, ⟨by decide, by decide⟩, by decide, by decide⟩ (Nat.le_of_ble_eq_true rfl) 46 (wf_len hS) rfl [.int r3, .int 1] rfl ?_
      refine aw_max tTX5_moons rfl 37 rfl lkX5_202 (by decide) (Nat.le_of_ble_eq_true rfl) (Nat.zero_le _) (Nat.zero_le _) ?_
      refine aw_run tTX5_moons 2 (pc2 := 39) (L2 := [(3, .int (jmax 1 r3)), (0, .ref 0), (1, .int a1), (2, .int a2)]) (st2 := [.ref 0]) rfl ?_
      refine aw_getR tTX5_moons rfl 42 rfl (w_0 hS) rfl flX5_12 ?_
      refine aw_run tTX5_moons 1 (pc2 := 43) (L2 := [(3, .int (jmax 1 r3)), (0, .ref 0), (1, .int a1), (2, .int a2)]) (st2 := [.int a1, .ref 1]) rfl ?_
      obtain ⟨r4, er4, h⟩ := ok_b h
      refine aw_cV tTX5_moons rfl 46 rfl (M' := MX0_smallerHeaps) (av := [.int a1]) (rest := []) rfl lkX5_208 hMX0_smallerHeaps rfl (w_1 hS) ⟨_, _, rfl⟩ (s_X0_smallerHeaps hS er4) ⟨rfl, rfl, ⟨by decide, by decide⟩, by decide, by decide⟩ (Nat.le_of_ble_eq_true rfl) 46 (wf_len hS) rfl [.int r4] rfl ?_
      refine aw_run tTX5_moons 2 (pc2 := 48) (L2 := [(3, .int (jmax 1 r3)), (0, .ref 0), (1, .int a1), (2, .int a2)]) (st2 := [.int (jmax 1 r3), .int a2, .int r4]) rfl ?_
      obtain ⟨hz, h⟩ := ok_gz h
      refine aw_irem tTX5_moons rfl 49 rfl hz ?_
      refine ok_use (P := fun j5 : Int32 => AW MX5_moons E0 rmX5_moons 0 0 Q 0 0 S σ 57 [(2, .int a2), (3, .int (jmax 1 r3))] [.int j5]) (ok_b h) (fun j5 h => ?_) (fun h => ?_)
      · refine aw_run tTX5_moons 3 (pc2 := 61) (L2 := [(4, .int j5), (2, .int a2), (3, .int (jmax 1 r3))]) (st2 := [.int (jmax 1 r3), .int a2]) rfl ?_
        obtain ⟨hz, h⟩ := ok_gz h
        refine aw_idiv tTX5_moons rfl 62 rfl hz ?_
        refine aw_run tTX5_moons 2 (pc2 := 65) (L2 := [(4, .int j5), (2, .int a2), (3, .int (jmax 1 r3))]) (st2 := [.int ((a2 / (jmax 1 r3)) + j5)]) rfl ?_
        have h := ok_r h
        exact aw_ir tTX5_moons rfl rfl rfl (Nat.le_refl _) (Nat.le_refl _) h
      · refine aw_icmp_ge tTX5_moons rfl 56 52 rfl rfl (fun hc => ?_) (fun hc => ?_)
        · have h := ok_t hc h
          refine aw_run tTX5_moons 1 (pc2 := 57) (L2 := [(3, .int (jmax 1 r3)), (0, .ref 0), (1, .int a1), (2, .int a2)]) (st2 := [.int 0]) rfl ?_
          refine aw_sub [3, 0] rfl ?_
          have h := ok_r h
          exact h
        · have h := ok_f hc h
          refine aw_run tTX5_moons 2 (pc2 := 57) (L2 := [(3, .int (jmax 1 r3)), (0, .ref 0), (1, .int a1), (2, .int a2)]) (st2 := [.int 1]) rfl ?_
          refine aw_sub [3, 0] rfl ?_
          have h := ok_r h
          exact h
    · have h := ok_fn hc h
      refine aw_run tTX5_moons 1 (pc2 := 25) (L2 := [(0, .ref 0), (1, .int a1), (2, .int a2)]) (st2 := [.int (-2 : Int32)]) rfl ?_
      have h := ok_r h
      exact aw_ir tTX5_moons rfl rfl rfl (Nat.le_refl _) (Nat.le_refl _) h
  · have h := ok_fn hc h
    refine aw_run tTX5_moons 1 (pc2 := 12) (L2 := [(0, .ref 0), (1, .int a1), (2, .int a2)]) (st2 := [.int (-1 : Int32)]) rfl ?_
    have h := ok_r h
    exact aw_ir tTX5_moons rfl rfl rfl (Nat.le_refl _) (Nat.le_refl _) h
theorem s_X5_moons {g : Nat → Option Nat} {S : List SC} (hS : Wf g S) {σ : St} {a1 : Int32} {a2 : Int32} {r : Int32} (e : f_X5_moons a1 a2 σ = some r) : Fn MX5_moons rmX5_moons [.ref 0, .int a1, .int a2] S σ (some (.int r)) σ := Sp.of (by decide) (Nat.le_of_ble_eq_true rfl) (t_X5_moons hS a1 a2 ⟨r, e, rfl, rfl, rfl⟩)
def f_X5_year (a1 : Int32) (a2 : Int32) (a3 : Int32) (σ : St) : Option (Int32 × St) := Option.bind (f_X5_within a1 0 9999) (fun r1 => if r1 = 0 then (some (((-2 : Int32), σ))) else (Option.bind (f_X5_within a2 1 99) (fun r2 => if r2 = 0 then (some (((-2 : Int32), σ))) else (Option.bind (f_X5_within a3 0 2) (fun r3 => if ¬ r3 = 0 then (nm (becS σ 9 1) (fun σ4 => Option.bind (f_X0_runYear 9 a1 a2 σ4) (fun r5 => if ¬ a3 = 0 then (if ¬ a3 = 1 then (some ((r5.1, r5.2))) else (Option.bind (f_X0_applesTogether 9 r5.2) (fun r6 => some ((r6, r5.2))))) else (Option.bind (f_X0_heapsTogether 9 r5.2) (fun r7 => some ((r7, r5.2))))))) else (some (((-2 : Int32), σ))))))))
set_option maxHeartbeats 4000000 in
set_option maxRecDepth 20000 in
theorem t_X5_year {g : Nat → Option Nat} {S : List SC} (hS : Wf g S) {σ : St} {Q : QT} (a1 : Int32) (a2 : Int32) (a3 : Int32) (h : ok (f_X5_year a1 a2 a3 σ) (fun r => Q (some (.int r.1)) S r.2)) : AW MX5_year E0 rmX5_year 0 0 Q 0 0 S σ 0 [(0, .ref 0), (1, .int a1), (2, .int a2), (3, .int a3)] [] := by
  unfold f_X5_year at h
  refine aw_run tTX5_year 3 (pc2 := 5) (L2 := [(0, .ref 0), (1, .int a1), (2, .int a2), (3, .int a3)]) (st2 := [.int 9999, .int 0, .int a1]) rfl ?_
  obtain ⟨r1, er1, h⟩ := ok_b h
  refine aw_cS tTX5_year rfl 8 rfl (M' := MX5_within) (av := [.int a1, .int 0, .int 9999]) (rest := []) rfl lkX5_51 hMX5_within rfl (s_X5_within hS er1) ⟨rfl, rfl, ⟨by decide, by decide⟩, by decide, by decide⟩ (Nat.le_of_ble_eq_true rfl) 46 (wf_len hS) rfl [.int r1] rfl ?_
  refine aw_if_eq tTX5_year rfl 30 11 rfl rfl (fun hc => ?_) (fun hc => ?_)
  · have h := ok_t hc h
    refine aw_run tTX5_year 1 (pc2 := 32) (L2 := [(0, .ref 0), (1, .int a1), (2, .int a2), (3, .int a3)]) (st2 := [.int (-2 : Int32)]) rfl ?_
    have h := ok_r h
    exact aw_ir tTX5_year rfl rfl rfl (Nat.le_refl _) (Nat.le_refl _) h
  · have h := ok_f hc h
    refine aw_run tTX5_year 3 (pc2 := 15) (L2 := [(0, .ref 0), (1, .int a1), (2, .int a2), (3, .int a3)]) (st2 := [.int 99, .int 1, .int a2]) rfl ?_
    obtain ⟨r2, er2, h⟩ := ok_b h
    refine aw_cS tTX5_year rfl 18 rfl (M' := MX5_within) (av := [.int a2, .int 1, .int 99]) (rest := []) rfl lkX5_51 hMX5_within rfl (s_X5_within hS er2) ⟨rfl, rfl, ⟨by decide, by decide⟩, by decide, by decide⟩ (Nat.le_of_ble_eq_true rfl) 46 (wf_len hS) rfl [.int r2] rfl ?_
    refine aw_if_eq tTX5_year rfl 30 21 rfl rfl (fun hc => ?_) (fun hc => ?_)
    · have h := ok_t hc h
      refine aw_run tTX5_year 1 (pc2 := 32) (L2 := [(0, .ref 0), (1, .int a1), (2, .int a2), (3, .int a3)]) (st2 := [.int (-2 : Int32)]) rfl ?_
      have h := ok_r h
      exact aw_ir tTX5_year rfl rfl rfl (Nat.le_refl _) (Nat.le_refl _) h
    · have h := ok_f hc h
      refine aw_run tTX5_year 3 (pc2 := 24) (L2 := [(0, .ref 0), (1, .int a1), (2, .int a2), (3, .int a3)]) (st2 := [.int 2, .int 0, .int a3]) rfl ?_
      obtain ⟨r3, er3, h⟩ := ok_b h
      refine aw_cS tTX5_year rfl 27 rfl (M' := MX5_within) (av := [.int a3, .int 0, .int 2]) (rest := []) rfl lkX5_51 hMX5_within rfl (s_X5_within hS er3) ⟨rfl, rfl, ⟨by decide, by decide⟩, by decide, by decide⟩ (Nat.le_of_ble_eq_true rfl) 46 (wf_len hS) rfl [.int r3] rfl ?_
      refine aw_if_ne tTX5_year rfl 33 30 rfl rfl (fun hc => ?_) (fun hc => ?_)
      · have h := ok_t hc h
        refine aw_run tTX5_year 1 (pc2 := 34) (L2 := [(0, .ref 0), (1, .int a1), (2, .int a2), (3, .int a3)]) (st2 := [.ref 0]) rfl ?_
        refine aw_getR tTX5_year rfl 37 rfl (w_0 hS) rfl flX5_16 ?_
        refine aw_run tTX5_year 1 (pc2 := 38) (L2 := [(0, .ref 0), (1, .int a1), (2, .int a2), (3, .int a3)]) (st2 := [.ref 0, .ref 9]) rfl ?_
        refine aw_getR tTX5_year rfl 41 rfl (w_0 hS) rfl flX5_12 ?_
        refine aw_cV tTX5_year rfl 44 rfl (M' := MX0_become) (av := [.ref 1]) (rest := []) rfl lkX5_94 hMX0_become rfl (w_9 hS) ⟨_, _, rfl⟩ (s_become (la_9 hS) (la_1 hS) (by decide)) ⟨rfl, rfl, ⟨by decide, by decide⟩, by decide, by decide⟩ (Nat.le_of_ble_eq_true rfl) 46 (wf_len hS) rfl [] rfl ?_
        refine aw_nmS (fun σ4 eσ4 => ?_)
        have h := ok_nm h σ4 eσ4
        refine aw_run tTX5_year 1 (pc2 := 45) (L2 := [(0, .ref 0), (1, .int a1), (2, .int a2), (3, .int a3)]) (st2 := [.ref 0]) rfl ?_
        refine aw_getR tTX5_year rfl 48 rfl (w_0 hS) rfl flX5_16 ?_
        refine aw_run tTX5_year 2 (pc2 := 50) (L2 := [(0, .ref 0), (1, .int a1), (2, .int a2), (3, .int a3)]) (st2 := [.int a2, .int a1, .ref 9]) rfl ?_
        obtain ⟨r5, er5, h⟩ := ok_b h
        refine aw_cV tTX5_year rfl 53 rfl (M' := MX0_runYear) (av := [.int a1, .int a2]) (rest := []) rfl lkX5_211 hMX0_runYear rfl (w_9 hS) ⟨_, _, rfl⟩ (s_X0_runYear hS er5) ⟨rfl, rfl, ⟨by decide, by decide⟩, by decide, by decide⟩ (Nat.le_of_ble_eq_true rfl) 46 (wf_len hS) rfl [.int r5.1] rfl ?_
        refine aw_run tTX5_year 2 (pc2 := 56) (L2 := [(4, .int r5.1), (0, .ref 0), (1, .int a1), (2, .int a2), (3, .int a3)]) (st2 := [.int a3]) rfl ?_
        refine aw_if_ne tTX5_year rfl 67 59 rfl rfl (fun hc => ?_) (fun hc => ?_)
        · have h := ok_t hc h
          refine aw_run tTX5_year 2 (pc2 := 69) (L2 := [(4, .int r5.1), (0, .ref 0), (1, .int a1), (2, .int a2), (3, .int a3)]) (st2 := [.int 1, .int a3]) rfl ?_
          refine aw_icmp_ne tTX5_year rfl 82 72 rfl rfl (fun hc => ?_) (fun hc => ?_)
          · have h := ok_t hc h
            refine aw_run tTX5_year 1 (pc2 := 84) (L2 := [(4, .int r5.1), (0, .ref 0), (1, .int a1), (2, .int a2), (3, .int a3)]) (st2 := [.int r5.1]) rfl ?_
            have h := ok_r h
            exact aw_ir tTX5_year rfl rfl rfl (Nat.le_refl _) (Nat.le_refl _) h
          · have h := ok_fn hc h
            refine aw_run tTX5_year 1 (pc2 := 73) (L2 := [(4, .int r5.1), (0, .ref 0), (1, .int a1), (2, .int a2), (3, .int a3)]) (st2 := [.ref 0]) rfl ?_
            refine aw_getR tTX5_year rfl 76 rfl (w_0 hS) rfl flX5_16 ?_
            obtain ⟨r6, er6, h⟩ := ok_b h
            refine aw_cV tTX5_year rfl 79 rfl (M' := MX0_applesTogether) (av := []) (rest := []) rfl lkX5_217 hMX0_applesTogether rfl (w_9 hS) ⟨_, _, rfl⟩ (s_X0_applesTogether hS er6) ⟨rfl, rfl, ⟨by decide, by decide⟩, by decide, by decide⟩ (Nat.le_of_ble_eq_true rfl) 46 (wf_len hS) rfl [.int r6] rfl ?_
            refine aw_run tTX5_year 1 (pc2 := 84) (L2 := [(4, .int r5.1), (0, .ref 0), (1, .int a1), (2, .int a2), (3, .int a3)]) (st2 := [.int r6]) rfl ?_
            have h := ok_r h
            exact aw_ir tTX5_year rfl rfl rfl (Nat.le_refl _) (Nat.le_refl _) h
        · have h := ok_fn hc h
          refine aw_run tTX5_year 1 (pc2 := 60) (L2 := [(4, .int r5.1), (0, .ref 0), (1, .int a1), (2, .int a2), (3, .int a3)]) (st2 := [.ref 0]) rfl ?_
          refine aw_getR tTX5_year rfl 63 rfl (w_0 hS) rfl flX5_16 ?_
          obtain ⟨r7, er7, h⟩ := ok_b h
          refine aw_cV tTX5_year rfl 66 rfl (M' := MX0_heapsTogether) (av := []) (rest := []) rfl lkX5_214 hMX0_heapsTogether rfl (w_9 hS) ⟨_, _, rfl⟩ (s_X0_heapsTogether hS er7) ⟨rfl, rfl, ⟨by decide, by decide⟩, by decide, by decide⟩ (Nat.le_of_ble_eq_true rfl) 46 (wf_len hS) rfl [.int r7] rfl ?_
          have h := ok_r h
          exact aw_ir tTX5_year rfl rfl rfl (Nat.le_refl _) (Nat.le_refl _) h
      · have h := ok_fn hc h
        refine aw_run tTX5_year 1 (pc2 := 32) (L2 := [(0, .ref 0), (1, .int a1), (2, .int a2), (3, .int a3)]) (st2 := [.int (-2 : Int32)]) rfl ?_
        have h := ok_r h
        exact aw_ir tTX5_year rfl rfl rfl (Nat.le_refl _) (Nat.le_refl _) h
theorem s_X5_year {g : Nat → Option Nat} {S : List SC} (hS : Wf g S) {σ : St} {a1 : Int32} {a2 : Int32} {a3 : Int32} {r : Int32 × St} (e : f_X5_year a1 a2 a3 σ = some r) : Fn MX5_year rmX5_year [.ref 0, .int a1, .int a2, .int a3] S σ (some (.int r.1)) r.2 := Sp.of (by decide) (Nat.le_of_ble_eq_true rfl) (t_X5_year hS a1 a2 a3 ⟨r, e, rfl, rfl, rfl⟩)
def f_X5_toldBag (a1 : Int32) (σ : St) : Option (Int32) := Option.bind (f_X5_within a1 10 15) (fun r1 => if ¬ r1 = 0 then (Option.bind (f_X0_has 1 (a1 - 10) σ) (fun r2 => if r2 = 0 then (some ((-2 : Int32))) else (gi (a1 - 10) 6 (some (σ 3 (a1 - 10).toNatClampNeg))))) else (some ((-2 : Int32))))
set_option maxHeartbeats 4000000 in
set_option maxRecDepth 20000 in
theorem t_X5_toldBag {g : Nat → Option Nat} {S : List SC} (hS : Wf g S) {σ : St} {Q : QT} (a1 : Int32) (h : ok (f_X5_toldBag a1 σ) (fun r => Q (some (.int r)) S σ)) : AW MX5_toldBag E0 rmX5_toldBag 0 0 Q 0 0 S σ 0 [(0, .ref 0), (1, .int a1)] [] := by
  unfold f_X5_toldBag at h
  refine aw_run tTX5_toldBag 3 (pc2 := 5) (L2 := [(0, .ref 0), (1, .int a1)]) (st2 := [.int 15, .int 10, .int a1]) rfl ?_
  obtain ⟨r1, er1, h⟩ := ok_b h
  refine aw_cS tTX5_toldBag rfl 8 rfl (M' := MX5_within) (av := [.int a1, .int 10, .int 15]) (rest := []) rfl lkX5_51 hMX5_within rfl (s_X5_within hS er1) ⟨rfl, rfl, ⟨by decide, by decide⟩, by decide, by decide⟩ (Nat.le_of_ble_eq_true rfl) 46 (wf_len hS) rfl [.int r1] rfl ?_
  refine aw_if_ne tTX5_toldBag rfl 14 11 rfl rfl (fun hc => ?_) (fun hc => ?_)
  · have h := ok_t hc h
    refine aw_run tTX5_toldBag 5 (pc2 := 20) (L2 := [(2, .int (a1 - 10)), (0, .ref 0), (1, .int a1)]) (st2 := [.ref 0]) rfl ?_
    refine aw_getR tTX5_toldBag rfl 23 rfl (w_0 hS) rfl flX5_12 ?_
    refine aw_run tTX5_toldBag 1 (pc2 := 24) (L2 := [(2, .int (a1 - 10)), (0, .ref 0), (1, .int a1)]) (st2 := [.int (a1 - 10), .ref 1]) rfl ?_
    obtain ⟨r2, er2, h⟩ := ok_b h
    refine aw_cV tTX5_toldBag rfl 27 rfl (M' := MX0_has) (av := [.int (a1 - 10)]) (rest := []) rfl lkX5_63 hMX0_has rfl (w_1 hS) ⟨_, _, rfl⟩ (s_X0_has_1 hS er2) ⟨rfl, rfl, ⟨by decide, by decide⟩, by decide, by decide⟩ (Nat.le_of_ble_eq_true rfl) 46 (wf_len hS) rfl [.int r2] rfl ?_
    refine aw_if_eq tTX5_toldBag rfl 42 30 rfl rfl (fun hc => ?_) (fun hc => ?_)
    · have h := ok_t hc h
      refine aw_run tTX5_toldBag 1 (pc2 := 44) (L2 := [(2, .int (a1 - 10)), (0, .ref 0), (1, .int a1)]) (st2 := [.int (-2 : Int32)]) rfl ?_
      have h := ok_r h
      exact aw_ir tTX5_toldBag rfl rfl rfl (Nat.le_refl _) (Nat.le_refl _) h
    · have h := ok_f hc h
      refine aw_run tTX5_toldBag 1 (pc2 := 31) (L2 := [(2, .int (a1 - 10)), (0, .ref 0), (1, .int a1)]) (st2 := [.ref 0]) rfl ?_
      refine aw_getR tTX5_toldBag rfl 34 rfl (w_0 hS) rfl flX5_12 ?_
      refine aw_getR tTX5_toldBag rfl 37 rfl (w_1 hS) rfl flX5_146 ?_
      refine aw_run tTX5_toldBag 1 (pc2 := 38) (L2 := [(2, .int (a1 - 10)), (0, .ref 0), (1, .int a1)]) (st2 := [.int (a1 - 10), .ref 3]) rfl ?_
      obtain ⟨hi, h⟩ := ok_gi h
      refine aw_iald tTX5_toldBag rfl 39 rfl (w_3 hS) hi ?_
      refine aw_run tTX5_toldBag 1 (pc2 := 44) (L2 := [(2, .int (a1 - 10)), (0, .ref 0), (1, .int a1)]) (st2 := [.int (σ 3 (a1 - 10).toNatClampNeg)]) rfl ?_
      have h := ok_r h
      exact aw_ir tTX5_toldBag rfl rfl rfl (Nat.le_refl _) (Nat.le_refl _) h
  · have h := ok_fn hc h
    refine aw_run tTX5_toldBag 1 (pc2 := 13) (L2 := [(0, .ref 0), (1, .int a1)]) (st2 := [.int (-2 : Int32)]) rfl ?_
    have h := ok_r h
    exact aw_ir tTX5_toldBag rfl rfl rfl (Nat.le_refl _) (Nat.le_refl _) h
theorem s_X5_toldBag {g : Nat → Option Nat} {S : List SC} (hS : Wf g S) {σ : St} {a1 : Int32} {r : Int32} (e : f_X5_toldBag a1 σ = some r) : Fn MX5_toldBag rmX5_toldBag [.ref 0, .int a1] S σ (some (.int r)) σ := Sp.of (by decide) (Nat.le_of_ble_eq_true rfl) (t_X5_toldBag hS a1 ⟨r, e, rfl, rfl, rfl⟩)
def f_X5_told (a1 : Int32) (σ : St) : Option (Int32) := if a1 = 0 then (some (σ 18 1)) else (if a1 = 1 then (some (σ 1 8)) else (if a1 = 2 then (some (σ 1 12)) else (if a1 = 3 then (some (σ 1 10)) else (if a1 = 4 then (some (σ 1 11)) else (if a1 = 5 then (some (σ 1 7)) else (Option.bind (f_X5_toldBag a1 σ) (fun r1 => some (r1))))))))
set_option maxHeartbeats 4000000 in
set_option maxRecDepth 20000 in
theorem t_X5_told {g : Nat → Option Nat} {S : List SC} (hS : Wf g S) {σ : St} {Q : QT} (a1 : Int32) (h : ok (f_X5_told a1 σ) (fun r => Q (some (.int r)) S σ)) : AW MX5_told E0 rmX5_told 0 0 Q 0 0 S σ 0 [(0, .ref 0), (1, .int a1)] [] := by
  unfold f_X5_told at h
  refine aw_run tTX5_told 1 (pc2 := 1) (L2 := [(0, .ref 0), (1, .int a1)]) (st2 := [.int a1]) rfl ?_
  by_cases hc0 : a1 = 0
  · have h := ok_t hc0 h
    refine aw_tableK (off := 39) tTX5_told rfl 0 hc0 rfl 40 rfl ?_
    refine aw_run tTX5_told 1 (pc2 := 41) (L2 := [(0, .ref 0), (1, .int a1)]) (st2 := [.ref 0]) rfl ?_
    refine aw_getR tTX5_told rfl 44 rfl (w_0 hS) rfl flX5_26 ?_
    refine aw_getI tTX5_told rfl 47 rfl (w_18 hS) rfl flX5_78 ?_
    have h := ok_r h
    exact aw_ir tTX5_told rfl rfl rfl (Nat.le_refl _) (Nat.le_refl _) h
  · have h := ok_f hc0 h
    by_cases hc1 : a1 = 1
    · have h := ok_t hc1 h
      refine aw_tableK (off := 47) tTX5_told rfl 1 hc1 rfl 48 rfl ?_
      refine aw_run tTX5_told 1 (pc2 := 49) (L2 := [(0, .ref 0), (1, .int a1)]) (st2 := [.ref 0]) rfl ?_
      refine aw_getR tTX5_told rfl 52 rfl (w_0 hS) rfl flX5_12 ?_
      refine aw_getI tTX5_told rfl 55 rfl (w_1 hS) rfl flX5_105 ?_
      have h := ok_r h
      exact aw_ir tTX5_told rfl rfl rfl (Nat.le_refl _) (Nat.le_refl _) h
    · have h := ok_f hc1 h
      by_cases hc2 : a1 = 2
      · have h := ok_t hc2 h
        refine aw_tableK (off := 55) tTX5_told rfl 2 hc2 rfl 56 rfl ?_
        refine aw_run tTX5_told 1 (pc2 := 57) (L2 := [(0, .ref 0), (1, .int a1)]) (st2 := [.ref 0]) rfl ?_
        refine aw_getR tTX5_told rfl 60 rfl (w_0 hS) rfl flX5_12 ?_
        refine aw_getI tTX5_told rfl 63 rfl (w_1 hS) rfl flX5_71 ?_
        have h := ok_r h
        exact aw_ir tTX5_told rfl rfl rfl (Nat.le_refl _) (Nat.le_refl _) h
      · have h := ok_f hc2 h
        by_cases hc3 : a1 = 3
        · have h := ok_t hc3 h
          refine aw_tableK (off := 63) tTX5_told rfl 3 hc3 rfl 64 rfl ?_
          refine aw_run tTX5_told 1 (pc2 := 65) (L2 := [(0, .ref 0), (1, .int a1)]) (st2 := [.ref 0]) rfl ?_
          refine aw_getR tTX5_told rfl 68 rfl (w_0 hS) rfl flX5_12 ?_
          refine aw_getI tTX5_told rfl 71 rfl (w_1 hS) rfl flX5_220 ?_
          have h := ok_r h
          exact aw_ir tTX5_told rfl rfl rfl (Nat.le_refl _) (Nat.le_refl _) h
        · have h := ok_f hc3 h
          by_cases hc4 : a1 = 4
          · have h := ok_t hc4 h
            refine aw_tableK (off := 71) tTX5_told rfl 4 hc4 rfl 72 rfl ?_
            refine aw_run tTX5_told 1 (pc2 := 73) (L2 := [(0, .ref 0), (1, .int a1)]) (st2 := [.ref 0]) rfl ?_
            refine aw_getR tTX5_told rfl 76 rfl (w_0 hS) rfl flX5_12 ?_
            refine aw_getI tTX5_told rfl 79 rfl (w_1 hS) rfl flX5_223 ?_
            have h := ok_r h
            exact aw_ir tTX5_told rfl rfl rfl (Nat.le_refl _) (Nat.le_refl _) h
          · have h := ok_f hc4 h
            by_cases hc5 : a1 = 5
            · have h := ok_t hc5 h
              refine aw_tableK (off := 79) tTX5_told rfl 5 hc5 rfl 80 rfl ?_
              refine aw_run tTX5_told 1 (pc2 := 81) (L2 := [(0, .ref 0), (1, .int a1)]) (st2 := [.ref 0]) rfl ?_
              refine aw_getR tTX5_told rfl 84 rfl (w_0 hS) rfl flX5_12 ?_
              refine aw_getI tTX5_told rfl 87 rfl (w_1 hS) rfl flX5_157 ?_
              have h := ok_r h
              exact aw_ir tTX5_told rfl rfl rfl (Nat.le_refl _) (Nat.le_refl _) h
            · have h := ok_f hc5 h
              refine aw_tableN tTX5_told rfl [0, 1, 2, 3, 4, 5] (by intro k hk; simp only [List.mem_cons, List.not_mem_nil, or_false] at hk; rcases hk with rfl | rfl | rfl | rfl | rfl | rfl <;> assumption) (by decide) 88 rfl ?_
              refine aw_run tTX5_told 2 (pc2 := 90) (L2 := [(0, .ref 0), (1, .int a1)]) (st2 := [.int a1, .ref 0]) rfl ?_
              obtain ⟨r1, er1, h⟩ := ok_b h
              refine aw_cV tTX5_told rfl 93 rfl (M' := MX5_toldBag) (av := [.int a1]) (rest := []) rfl lkX5_226 hMX5_toldBag rfl (w_0 hS) ⟨_, _, rfl⟩ (s_X5_toldBag hS er1) ⟨rfl, rfl, ⟨by decide, by decide⟩, by decide, by decide⟩ (Nat.le_of_ble_eq_true rfl) 46 (wf_len hS) rfl [.int r1] rfl ?_
              have h := ok_r h
              exact aw_ir tTX5_told rfl rfl rfl (Nat.le_refl _) (Nat.le_refl _) h
theorem s_X5_told {g : Nat → Option Nat} {S : List SC} (hS : Wf g S) {σ : St} {a1 : Int32} {r : Int32} (e : f_X5_told a1 σ = some r) : Fn MX5_told rmX5_told [.ref 0, .int a1] S σ (some (.int r)) σ := Sp.of (by decide) (Nat.le_of_ble_eq_true rfl) (t_X5_told hS a1 ⟨r, e, rfl, rfl, rfl⟩)
