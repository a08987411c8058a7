/-! lifted by program (wip/gen/lift.py) -/
def f_X0_has (b : Nat) (a1 : Int32) (σ : St) : Option (Int32) := if a1 < 0 then (some (0)) else (if 6 ≤ a1 then (some (0)) else (if ((σ b 8) &&& ((1 : Int32) <<< (a1 &&& 31))) = 0 then (some (0)) else (some (1))))
set_option maxHeartbeats 4000000 in
set_option maxRecDepth 20000 in
theorem t_X0_has_1 {g : Nat → Option Nat} {S : List SC} (hS : Wf g S) {σ : St} {Q : QT} (a1 : Int32) (h : ok (f_X0_has 1 a1 σ) (fun r => Q (some (.int r)) S σ)) : AW MX0_has E0 rmX0_has 0 0 Q 0 0 S σ 0 [(0, .ref 1), (1, .int a1)] [] := by
  unfold f_X0_has at h
  refine aw_run tTX0_has 1 (pc2 := 1) (L2 := [(0, .ref 1), (1, .int a1)]) (st2 := [.int a1]) rfl ?_
  refine aw_if_lt tTX0_has rfl 25 4 rfl rfl (fun hc => ?_) (fun hc => ?_)
  · have h := ok_t hc h
    refine aw_run tTX0_has 1 (pc2 := 26) (L2 := [(0, .ref 1), (1, .int a1)]) (st2 := [.int 0]) rfl ?_
    have h := ok_r h
    exact aw_ir tTX0_has rfl rfl rfl (Nat.le_refl _) (Nat.le_refl _) h
  · have h := ok_f hc h
    refine aw_run tTX0_has 2 (pc2 := 7) (L2 := [(0, .ref 1), (1, .int a1)]) (st2 := [.int 6, .int a1]) rfl ?_
    refine aw_icmp_ge tTX0_has rfl 25 10 rfl rfl (fun hc => ?_) (fun hc => ?_)
    · have h := ok_t hc h
      refine aw_run tTX0_has 1 (pc2 := 26) (L2 := [(0, .ref 1), (1, .int a1)]) (st2 := [.int 0]) rfl ?_
      have h := ok_r h
      exact aw_ir tTX0_has rfl rfl rfl (Nat.le_refl _) (Nat.le_refl _) h
    · have h := ok_f hc h
      refine aw_run tTX0_has 1 (pc2 := 11) (L2 := [(0, .ref 1), (1, .int a1)]) (st2 := [.ref 1]) rfl ?_
      refine aw_getI tTX0_has rfl 14 rfl (w_1 hS) rfl flX0_37 ?_
      refine aw_run tTX0_has 4 (pc2 := 18) (L2 := [(0, .ref 1), (1, .int a1)]) (st2 := [.int ((σ 1 8) &&& ((1 : Int32) <<< (a1 &&& 31)))]) rfl ?_
      refine aw_if_eq tTX0_has rfl 25 21 rfl rfl (fun hc => ?_) (fun hc => ?_)
      · have h := ok_t hc h
        refine aw_run tTX0_has 1 (pc2 := 26) (L2 := [(0, .ref 1), (1, .int a1)]) (st2 := [.int 0]) rfl ?_
        have h := ok_r h
        exact aw_ir tTX0_has rfl rfl rfl (Nat.le_refl _) (Nat.le_refl _) h
      · have h := ok_f hc h
        refine aw_run tTX0_has 2 (pc2 := 26) (L2 := [(0, .ref 1), (1, .int a1)]) (st2 := [.int 1]) rfl ?_
        have h := ok_r h
        exact aw_ir tTX0_has rfl rfl rfl (Nat.le_refl _) (Nat.le_refl _) h
theorem s_X0_has_1 {g : Nat → Option Nat} {S : List SC} (hS : Wf g S) {σ : St} {a1 : Int32} {r : Int32} (e : f_X0_has 1 a1 σ = some r) : Fn MX0_has rmX0_has [.ref 1, .int a1] S σ (some (.int r)) σ := Sp.of (by decide) (Nat.le_of_ble_eq_true rfl) (t_X0_has_1 hS a1 ⟨r, e, rfl, rfl, rfl⟩)
set_option maxHeartbeats 4000000 in
set_option maxRecDepth 20000 in
theorem t_X0_has_9 {g : Nat → Option Nat} {S : List SC} (hS : Wf g S) {σ : St} {Q : QT} (a1 : Int32) (h : ok (f_X0_has 9 a1 σ) (fun r => Q (some (.int r)) S σ)) : AW MX0_has E0 rmX0_has 0 0 Q 0 0 S σ 0 [(0, .ref 9), (1, .int a1)] [] := by
  unfold f_X0_has at h
  refine aw_run tTX0_has 1 (pc2 := 1) (L2 := [(0, .ref 9), (1, .int a1)]) (st2 := [.int a1]) rfl ?_
  refine aw_if_lt tTX0_has rfl 25 4 rfl rfl (fun hc => ?_) (fun hc => ?_)
  · have h := ok_t hc h
    refine aw_run tTX0_has 1 (pc2 := 26) (L2 := [(0, .ref 9), (1, .int a1)]) (st2 := [.int 0]) rfl ?_
    have h := ok_r h
    exact aw_ir tTX0_has rfl rfl rfl (Nat.le_refl _) (Nat.le_refl _) h
  · have h := ok_f hc h
    refine aw_run tTX0_has 2 (pc2 := 7) (L2 := [(0, .ref 9), (1, .int a1)]) (st2 := [.int 6, .int a1]) rfl ?_
    refine aw_icmp_ge tTX0_has rfl 25 10 rfl rfl (fun hc => ?_) (fun hc => ?_)
    · have h := ok_t hc h
      refine aw_run tTX0_has 1 (pc2 := 26) (L2 := [(0, .ref 9), (1, .int a1)]) (st2 := [.int 0]) rfl ?_
      have h := ok_r h
      exact aw_ir tTX0_has rfl rfl rfl (Nat.le_refl _) (Nat.le_refl _) h
    · have h := ok_f hc h
      refine aw_run tTX0_has 1 (pc2 := 11) (L2 := [(0, .ref 9), (1, .int a1)]) (st2 := [.ref 9]) rfl ?_
      refine aw_getI tTX0_has rfl 14 rfl (w_9 hS) rfl flX0_37 ?_
      refine aw_run tTX0_has 4 (pc2 := 18) (L2 := [(0, .ref 9), (1, .int a1)]) (st2 := [.int ((σ 9 8) &&& ((1 : Int32) <<< (a1 &&& 31)))]) rfl ?_
      refine aw_if_eq tTX0_has rfl 25 21 rfl rfl (fun hc => ?_) (fun hc => ?_)
      · have h := ok_t hc h
        refine aw_run tTX0_has 1 (pc2 := 26) (L2 := [(0, .ref 9), (1, .int a1)]) (st2 := [.int 0]) rfl ?_
        have h := ok_r h
        exact aw_ir tTX0_has rfl rfl rfl (Nat.le_refl _) (Nat.le_refl _) h
      · have h := ok_f hc h
        refine aw_run tTX0_has 2 (pc2 := 26) (L2 := [(0, .ref 9), (1, .int a1)]) (st2 := [.int 1]) rfl ?_
        have h := ok_r h
        exact aw_ir tTX0_has rfl rfl rfl (Nat.le_refl _) (Nat.le_refl _) h
theorem s_X0_has_9 {g : Nat → Option Nat} {S : List SC} (hS : Wf g S) {σ : St} {a1 : Int32} {r : Int32} (e : f_X0_has 9 a1 σ = some r) : Fn MX0_has rmX0_has [.ref 9, .int a1] S σ (some (.int r)) σ := Sp.of (by decide) (Nat.le_of_ble_eq_true rfl) (t_X0_has_9 hS a1 ⟨r, e, rfl, rfl, rfl⟩)
def f_X0_hasTwo (b : Nat) (a1 : Int32) (a2 : Int32) (σ : St) : Option (Int32) := Option.bind (f_X0_has b a1 σ) (fun r1 => if r1 = 0 then (some (0)) else (Option.bind (f_X0_has b a2 σ) (fun r2 => if r2 = 0 then (some (0)) else (if a1 = a2 then (some (0)) else (some (1))))))
set_option maxHeartbeats 4000000 in
set_option maxRecDepth 20000 in
theorem t_X0_hasTwo {g : Nat → Option Nat} {S : List SC} (hS : Wf g S) {σ : St} {Q : QT} (a1 : Int32) (a2 : Int32) (h : ok (f_X0_hasTwo 1 a1 a2 σ) (fun r => Q (some (.int r)) S σ)) : AW MX0_hasTwo E0 rmX0_hasTwo 0 0 Q 0 0 S σ 0 [(0, .ref 1), (1, .int a1), (2, .int a2)] [] := by
  unfold f_X0_hasTwo at h
  refine aw_run tTX0_hasTwo 2 (pc2 := 2) (L2 := [(0, .ref 1), (1, .int a1), (2, .int a2)]) (st2 := [.int a1, .ref 1]) rfl ?_
  obtain ⟨r1, er1, h⟩ := ok_b h
  refine aw_cV tTX0_hasTwo rfl 5 rfl (M' := MX0_has) (av := [.int a1]) (rest := []) rfl lkX0_58 hMX0_has rfl (w_1 hS) ⟨_, _, rfl⟩ (s_X0_has_1 hS er1) ⟨rfl, rfl, ⟨by decide, by decide⟩, by decide, by decide⟩ (Nat.le_of_ble_eq_true rfl) 46 (wf_len hS) rfl [.int r1] rfl ?_
  refine aw_if_eq tTX0_hasTwo rfl 25 8 rfl rfl (fun hc => ?_) (fun hc => ?_)
  · have h := ok_t hc h
    refine aw_run tTX0_hasTwo 1 (pc2 := 26) (L2 := [(0, .ref 1), (1, .int a1), (2, .int a2)]) (st2 := [.int 0]) rfl ?_
    have h := ok_r h
    exact aw_ir tTX0_hasTwo rfl rfl rfl (Nat.le_refl _) (Nat.le_refl _) h
  · have h := ok_f hc h
    refine aw_run tTX0_hasTwo 2 (pc2 := 10) (L2 := [(0, .ref 1), (1, .int a1), (2, .int a2)]) (st2 := [.int a2, .ref 1]) rfl ?_
    obtain ⟨r2, er2, h⟩ := ok_b h
    refine aw_cV tTX0_hasTwo rfl 13 rfl (M' := MX0_has) (av := [.int a2]) (rest := []) rfl lkX0_58 hMX0_has rfl (w_1 hS) ⟨_, _, rfl⟩ (s_X0_has_1 hS er2) ⟨rfl, rfl, ⟨by decide, by decide⟩, by decide, by decide⟩ (Nat.le_of_ble_eq_true rfl) 46 (wf_len hS) rfl [.int r2] rfl ?_
    refine aw_if_eq tTX0_hasTwo rfl 25 16 rfl rfl (fun hc => ?_) (fun hc => ?_)
    · have h := ok_t hc h
      refine aw_run tTX0_hasTwo 1 (pc2 := 26) (L2 := [(0, .ref 1), (1, .int a1), (2, .int a2)]) (st2 := [.int 0]) rfl ?_
      have h := ok_r h
      exact aw_ir tTX0_hasTwo rfl rfl rfl (Nat.le_refl _) (Nat.le_refl _) h
    · have h := ok_f hc h
      refine aw_run tTX0_hasTwo 2 (pc2 := 18) (L2 := [(0, .ref 1), (1, .int a1), (2, .int a2)]) (st2 := [.int a2, .int a1]) rfl ?_
      refine aw_icmp_eq tTX0_hasTwo rfl 25 21 rfl rfl (fun hc => ?_) (fun hc => ?_)
      · have h := ok_t hc h
        refine aw_run tTX0_hasTwo 1 (pc2 := 26) (L2 := [(0, .ref 1), (1, .int a1), (2, .int a2)]) (st2 := [.int 0]) rfl ?_
        have h := ok_r h
        exact aw_ir tTX0_hasTwo rfl rfl rfl (Nat.le_refl _) (Nat.le_refl _) h
      · have h := ok_f hc h
        refine aw_run tTX0_hasTwo 2 (pc2 := 26) (L2 := [(0, .ref 1), (1, .int a1), (2, .int a2)]) (st2 := [.int 1]) rfl ?_
        have h := ok_r h
        exact aw_ir tTX0_hasTwo rfl rfl rfl (Nat.le_refl _) (Nat.le_refl _) h
theorem s_X0_hasTwo {g : Nat → Option Nat} {S : List SC} (hS : Wf g S) {σ : St} {a1 : Int32} {a2 : Int32} {r : Int32} (e : f_X0_hasTwo 1 a1 a2 σ = some r) : Fn MX0_hasTwo rmX0_hasTwo [.ref 1, .int a1, .int a2] S σ (some (.int r)) σ := Sp.of (by decide) (Nat.le_of_ble_eq_true rfl) (t_X0_hasTwo hS a1 a2 ⟨r, e, rfl, rfl, rfl⟩)
def f_J6_bitCount_0f7a4 (a1 : Int32)  : Option (Int32) := nm (a1 - ((jushr a1 1) &&& 1431655765)) (fun (x1 : Int32) => nm ((x1 &&& 858993459) + ((jushr x1 2) &&& 858993459)) (fun (x2 : Int32) => nm ((x2 + (jushr x2 4)) &&& 252645135) (fun (x3 : Int32) => nm ((x3 + (jushr x3 8)) + (jushr (x3 + (jushr x3 8)) 16)) (fun (x4 : Int32) => some (x4 &&& 63)))))
set_option maxHeartbeats 4000000 in
set_option maxRecDepth 20000 in
theorem t_J6_bitCount_0f7a4 {g : Nat → Option Nat} {S : List SC} (hS : Wf g S) {σ : St} {Q : QT} (a1 : Int32) (h : ok (f_J6_bitCount_0f7a4 a1 ) (fun r => Q (some (.int r)) S σ)) : AW MJ6_bitCount_0f7a4 E0 rmJ6_bitCount_0f7a4 0 0 Q 0 0 S σ 0 [(0, .int a1)] [] := by
  unfold f_J6_bitCount_0f7a4 at h
  refine aw_run tTJ6_bitCount_0f7a4 7 (pc2 := 9) (L2 := [(0, .int a1)]) (st2 := [.int (a1 - ((jushr a1 1) &&& 1431655765))]) rfl ?_
  refine aw_nm (fun x1 ex1 => ?_)
  have h := ok_nm h x1 ex1
  refine aw_run tTJ6_bitCount_0f7a4 1 (pc2 := 10) (L2 := [(0, .int x1)]) (st2 := []) rfl ?_
  refine aw_run tTJ6_bitCount_0f7a4 9 (pc2 := 23) (L2 := [(0, .int x1)]) (st2 := [.int ((x1 &&& 858993459) + ((jushr x1 2) &&& 858993459))]) rfl ?_
  refine aw_nm (fun x2 ex2 => ?_)
  have h := ok_nm h x2 ex2
  refine aw_run tTJ6_bitCount_0f7a4 1 (pc2 := 24) (L2 := [(0, .int x2)]) (st2 := []) rfl ?_
  refine aw_run tTJ6_bitCount_0f7a4 7 (pc2 := 33) (L2 := [(0, .int x2)]) (st2 := [.int ((x2 + (jushr x2 4)) &&& 252645135)]) rfl ?_
  refine aw_nm (fun x3 ex3 => ?_)
  have h := ok_nm h x3 ex3
  refine aw_run tTJ6_bitCount_0f7a4 1 (pc2 := 34) (L2 := [(0, .int x3)]) (st2 := []) rfl ?_
  refine aw_run tTJ6_bitCount_0f7a4 11 (pc2 := 47) (L2 := [(0, .int (x3 + (jushr x3 8)))]) (st2 := [.int ((x3 + (jushr x3 8)) + (jushr (x3 + (jushr x3 8)) 16))]) rfl ?_
  refine aw_nm (fun x4 ex4 => ?_)
  have h := ok_nm h x4 ex4
  refine aw_run tTJ6_bitCount_0f7a4 1 (pc2 := 48) (L2 := [(0, .int x4)]) (st2 := []) rfl ?_
  refine aw_run tTJ6_bitCount_0f7a4 3 (pc2 := 52) (L2 := [(0, .int x4)]) (st2 := [.int (x4 &&& 63)]) rfl ?_
  have h := ok_r h
  exact aw_ir tTJ6_bitCount_0f7a4 rfl rfl rfl (Nat.le_refl _) (Nat.le_refl _) h
theorem s_J6_bitCount_0f7a4 {g : Nat → Option Nat} {S : List SC} (hS : Wf g S) {σ : St} {a1 : Int32} {r : Int32} (e : f_J6_bitCount_0f7a4 a1  = some r) : Fn MJ6_bitCount_0f7a4 rmJ6_bitCount_0f7a4 [.int a1] S σ (some (.int r)) σ := Sp.of (by decide) (Nat.le_of_ble_eq_true rfl) (t_J6_bitCount_0f7a4 hS a1 ⟨r, e, rfl, rfl, rfl⟩)
def f_X0_count (b : Nat)  (σ : St) : Option (Int32) := Option.bind (f_J6_bitCount_0f7a4 (σ b 8)) (fun r1 => some (r1))
set_option maxHeartbeats 4000000 in
set_option maxRecDepth 20000 in
theorem t_X0_count {g : Nat → Option Nat} {S : List SC} (hS : Wf g S) {σ : St} {Q : QT}  (h : ok (f_X0_count 1  σ) (fun r => Q (some (.int r)) S σ)) : AW MX0_count E0 rmX0_count 0 0 Q 0 0 S σ 0 [(0, .ref 1)] [] := by
  unfold f_X0_count at h
  refine aw_run tTX0_count 1 (pc2 := 1) (L2 := [(0, .ref 1)]) (st2 := [.ref 1]) rfl ?_
  refine aw_getI tTX0_count rfl 4 rfl (w_1 hS) rfl flX0_37 ?_
  obtain ⟨r1, er1, h⟩ := ok_b h
  refine aw_cS tTX0_count rfl 7 rfl (M' := MJ6_bitCount_0f7a4) (av := [.int (σ 1 8)]) (rest := []) rfl lkX0_62 hMJ6_bitCount_0f7a4 rfl (s_J6_bitCount_0f7a4 hS er1) ⟨rfl, rfl, ⟨by decide, by decide⟩, by decide, by decide⟩ (Nat.le_of_ble_eq_true rfl) 46 (wf_len hS) rfl [.int r1] rfl ?_
  have h := ok_r h
  exact aw_ir tTX0_count rfl rfl rfl (Nat.le_refl _) (Nat.le_refl _) h
theorem s_X0_count {g : Nat → Option Nat} {S : List SC} (hS : Wf g S) {σ : St}  {r : Int32} (e : f_X0_count 1  σ = some r) : Fn MX0_count rmX0_count [.ref 1] S σ (some (.int r)) σ := Sp.of (by decide) (Nat.le_of_ble_eq_true rfl) (t_X0_count hS  ⟨r, e, rfl, rfl, rfl⟩)
def f_X0_settle (b : Nat) (a1 : Int32) (a2 : Int32) (a3 : Int32) (σ : St) : Option (St) := nm (up2 σ b 8 ((σ b 8) ||| ((1 : Int32) <<< (a1 &&& 31)))) (fun σ1 => gi a1 6 (nm (up2 σ1 (b + 1) a1.toNatClampNeg a2) (fun σ2 => gi a1 6 (nm (up2 σ2 (b + 2) a1.toNatClampNeg a3) (fun σ3 => some (σ3))))))
set_option maxHeartbeats 4000000 in
set_option maxRecDepth 20000 in
theorem t_X0_settle {g : Nat → Option Nat} {S : List SC} (hS : Wf g S) {σ : St} {Q : QT} (a1 : Int32) (a2 : Int32) (a3 : Int32) (h : ok (f_X0_settle 1 a1 a2 a3 σ) (fun r => Q none S r)) : AW MX0_settle E0 rmX0_settle 0 0 Q 0 0 S σ 0 [(0, .ref 1), (1, .int a1), (2, .int a2), (3, .int a3)] [] := by
  unfold f_X0_settle at h
  refine aw_run tTX0_settle 2 (pc2 := 2) (L2 := [(0, .ref 1), (1, .int a1), (2, .int a2), (3, .int a3)]) (st2 := [.ref 1, .ref 1]) rfl ?_
  refine aw_getI tTX0_settle rfl 5 rfl (w_1 hS) rfl flX0_37 ?_
  refine aw_run tTX0_settle 4 (pc2 := 9) (L2 := [(0, .ref 1), (1, .int a1), (2, .int a2), (3, .int a3)]) (st2 := [.int ((σ 1 8) ||| ((1 : Int32) <<< (a1 &&& 31))), .ref 1]) rfl ?_
  refine aw_putI tTX0_settle rfl 12 rfl (w_1 hS) rfl fpX0_37 ?_
  refine aw_nmS (fun σ1 eσ1 => ?_)
  have h := ok_nm h σ1 eσ1
  refine aw_run tTX0_settle 1 (pc2 := 13) (L2 := [(0, .ref 1), (1, .int a1), (2, .int a2), (3, .int a3)]) (st2 := [.ref 1]) rfl ?_
  refine aw_getR tTX0_settle rfl 16 rfl (w_1 hS) rfl flX0_9 ?_
  refine aw_run tTX0_settle 2 (pc2 := 18) (L2 := [(0, .ref 1), (1, .int a1), (2, .int a2), (3, .int a3)]) (st2 := [.int a2, .int a1, .ref 2]) rfl ?_
  obtain ⟨hi, h⟩ := ok_gi h
  refine aw_iast tTX0_settle rfl 19 rfl (w_2 hS) hi ?_
  refine aw_nmS (fun σ2 eσ2 => ?_)
  have h := ok_nm h σ2 eσ2
  refine aw_run tTX0_settle 1 (pc2 := 20) (L2 := [(0, .ref 1), (1, .int a1), (2, .int a2), (3, .int a3)]) (st2 := [.ref 1]) rfl ?_
  refine aw_getR tTX0_settle rfl 23 rfl (w_1 hS) rfl flX0_15 ?_
  refine aw_run tTX0_settle 2 (pc2 := 25) (L2 := [(0, .ref 1), (1, .int a1), (2, .int a2), (3, .int a3)]) (st2 := [.int a3, .int a1, .ref 3]) rfl ?_
  obtain ⟨hi, h⟩ := ok_gi h
  refine aw_iast tTX0_settle rfl 26 rfl (w_3 hS) hi ?_
  refine aw_nmS (fun σ3 eσ3 => ?_)
  have h := ok_nm h σ3 eσ3
  have h := ok_r h
  exact aw_vr tTX0_settle rfl rfl (Nat.le_refl _) (Nat.le_refl _) h
theorem s_X0_settle {g : Nat → Option Nat} {S : List SC} (hS : Wf g S) {σ : St} {a1 : Int32} {a2 : Int32} {a3 : Int32} {r : St} (e : f_X0_settle 1 a1 a2 a3 σ = some r) : Fn MX0_settle rmX0_settle [.ref 1, .int a1, .int a2, .int a3] S σ none r := Sp.of (by decide) (Nat.le_of_ble_eq_true rfl) (t_X0_settle hS a1 a2 a3 ⟨r, e, rfl, rfl, rfl⟩)
def l_X0_leave_76 (b : Nat) (a1 : Int32) (x1 : Int32) (y10 : Int32) (σ11 : St) : Option ((Int32 × St) ⊕ (St)) := if 6 ≤ y10 then (some (.inr σ11)) else (gi y10 6 (gi y10 6 (nm (up2 σ11 (b + 4) y10.toNatClampNeg ((σ11 (b + 4) y10.toNatClampNeg) &&& x1)) (fun σ13 => gi y10 6 (Option.bind (α := St) (if ¬ (σ13 (b + 5) y10.toNatClampNeg) = a1 then (some σ13) else (gi y10 6 (nm (up2 σ13 (b + 5) y10.toNatClampNeg (-6 : Int32)) (fun σ15 => some σ15)))) (fun (j14 : St) => some (.inl (y10 + 1, j14))))))))
def f_X0_leave (b : Nat) (a1 : Int32) (σ : St) : Option (St) := nm (((1 : Int32) <<< (a1 &&& 31)) ^^^ (-1 : Int32)) (fun (x1 : Int32) => nm (up2 σ b 8 ((σ b 8) &&& x1)) (fun σ2 => nm (up2 σ2 b 9 ((σ2 b 9) &&& x1)) (fun σ3 => nm (up2 σ3 b 10 ((σ3 b 10) &&& x1)) (fun σ4 => nm (up2 σ4 b 11 ((σ4 b 11) &&& x1)) (fun σ5 => gi a1 6 (nm (up2 σ5 (b + 1) a1.toNatClampNeg 0) (fun σ6 => gi a1 6 (nm (up2 σ6 (b + 2) a1.toNatClampNeg 0) (fun σ7 => gi a1 6 (nm (up2 σ7 (b + 3) a1.toNatClampNeg 0) (fun σ8 => gi a1 6 (nm (up2 σ8 (b + 4) a1.toNatClampNeg 0) (fun σ9 => Option.bind (loop (fun s : Int32 × St => l_X0_leave_76 b a1 x1 s.1 s.2) 400 (0, σ9)) (fun (z12 : St) => some (z12)))))))))))))))
set_option maxHeartbeats 4000000 in
set_option maxRecDepth 20000 in
theorem t_X0_leave {g : Nat → Option Nat} {S : List SC} (hS : Wf g S) {σ : St} {Q : QT} (a1 : Int32) (h : ok (f_X0_leave 1 a1 σ) (fun r => Q none S r)) : AW MX0_leave E0 rmX0_leave 0 0 Q 0 0 S σ 0 [(0, .ref 1), (1, .int a1)] [] := by
  unfold f_X0_leave at h
  refine aw_run tTX0_leave 5 (pc2 := 5) (L2 := [(0, .ref 1), (1, .int a1)]) (st2 := [.int (((1 : Int32) <<< (a1 &&& 31)) ^^^ (-1 : Int32))]) rfl ?_
  refine aw_nm (fun x1 ex1 => ?_)
  have h := ok_nm h x1 ex1
  refine aw_run tTX0_leave 1 (pc2 := 6) (L2 := [(2, .int x1), (0, .ref 1), (1, .int a1)]) (st2 := []) rfl ?_
  refine aw_run tTX0_leave 2 (pc2 := 8) (L2 := [(2, .int x1), (0, .ref 1), (1, .int a1)]) (st2 := [.ref 1, .ref 1]) rfl ?_
  refine aw_getI tTX0_leave rfl 11 rfl (w_1 hS) rfl flX0_37 ?_
  refine aw_run tTX0_leave 2 (pc2 := 13) (L2 := [(2, .int x1), (0, .ref 1), (1, .int a1)]) (st2 := [.int ((σ 1 8) &&& x1), .ref 1]) rfl ?_
  refine aw_putI tTX0_leave rfl 16 rfl (w_1 hS) rfl fpX0_37 ?_
  refine aw_nmS (fun σ2 eσ2 => ?_)
  have h := ok_nm h σ2 eσ2
  refine aw_run tTX0_leave 2 (pc2 := 18) (L2 := [(2, .int x1), (0, .ref 1), (1, .int a1)]) (st2 := [.ref 1, .ref 1]) rfl ?_
  refine aw_getI tTX0_leave rfl 21 rfl (w_1 hS) rfl flX0_40 ?_
  refine aw_run tTX0_leave 2 (pc2 := 23) (L2 := [(2, .int x1), (0, .ref 1), (1, .int a1)]) (st2 := [.int ((σ2 1 9) &&& x1), .ref 1]) rfl ?_
  refine aw_putI tTX0_leave rfl 26 rfl (w_1 hS) rfl fpX0_40 ?_
  refine aw_nmS (fun σ3 eσ3 => ?_)
  have h := ok_nm h σ3 eσ3
  refine aw_run tTX0_leave 2 (pc2 := 28) (L2 := [(2, .int x1), (0, .ref 1), (1, .int a1)]) (st2 := [.ref 1, .ref 1]) rfl ?_
  refine aw_getI tTX0_leave rfl 31 rfl (w_1 hS) rfl flX0_43 ?_
  refine aw_run tTX0_leave 2 (pc2 := 33) (L2 := [(2, .int x1), (0, .ref 1), (1, .int a1)]) (st2 := [.int ((σ3 1 10) &&& x1), .ref 1]) rfl ?_
  refine aw_putI tTX0_leave rfl 36 rfl (w_1 hS) rfl fpX0_43 ?_
  refine aw_nmS (fun σ4 eσ4 => ?_)
  have h := ok_nm h σ4 eσ4
  refine aw_run tTX0_leave 2 (pc2 := 38) (L2 := [(2, .int x1), (0, .ref 1), (1, .int a1)]) (st2 := [.ref 1, .ref 1]) rfl ?_
  refine aw_getI tTX0_leave rfl 41 rfl (w_1 hS) rfl flX0_46 ?_
  refine aw_run tTX0_leave 2 (pc2 := 43) (L2 := [(2, .int x1), (0, .ref 1), (1, .int a1)]) (st2 := [.int ((σ4 1 11) &&& x1), .ref 1]) rfl ?_
  refine aw_putI tTX0_leave rfl 46 rfl (w_1 hS) rfl fpX0_46 ?_
  refine aw_nmS (fun σ5 eσ5 => ?_)
  have h := ok_nm h σ5 eσ5
  refine aw_run tTX0_leave 1 (pc2 := 47) (L2 := [(2, .int x1), (0, .ref 1), (1, .int a1)]) (st2 := [.ref 1]) rfl ?_
  refine aw_getR tTX0_leave rfl 50 rfl (w_1 hS) rfl flX0_9 ?_
  refine aw_run tTX0_leave 2 (pc2 := 52) (L2 := [(2, .int x1), (0, .ref 1), (1, .int a1)]) (st2 := [.int 0, .int a1, .ref 2]) rfl ?_
  obtain ⟨hi, h⟩ := ok_gi h
  refine aw_iast tTX0_leave rfl 53 rfl (w_2 hS) hi ?_
  refine aw_nmS (fun σ6 eσ6 => ?_)
  have h := ok_nm h σ6 eσ6
  refine aw_run tTX0_leave 1 (pc2 := 54) (L2 := [(2, .int x1), (0, .ref 1), (1, .int a1)]) (st2 := [.ref 1]) rfl ?_
  refine aw_getR tTX0_leave rfl 57 rfl (w_1 hS) rfl flX0_15 ?_
  refine aw_run tTX0_leave 2 (pc2 := 59) (L2 := [(2, .int x1), (0, .ref 1), (1, .int a1)]) (st2 := [.int 0, .int a1, .ref 3]) rfl ?_
  obtain ⟨hi, h⟩ := ok_gi h
  refine aw_iast tTX0_leave rfl 60 rfl (w_3 hS) hi ?_
  refine aw_nmS (fun σ7 eσ7 => ?_)
  have h := ok_nm h σ7 eσ7
  refine aw_run tTX0_leave 1 (pc2 := 61) (L2 := [(2, .int x1), (0, .ref 1), (1, .int a1)]) (st2 := [.ref 1]) rfl ?_
  refine aw_getR tTX0_leave rfl 64 rfl (w_1 hS) rfl flX0_18 ?_
  refine aw_run tTX0_leave 2 (pc2 := 66) (L2 := [(2, .int x1), (0, .ref 1), (1, .int a1)]) (st2 := [.int 0, .int a1, .ref 4]) rfl ?_
  obtain ⟨hi, h⟩ := ok_gi h
  refine aw_iast tTX0_leave rfl 67 rfl (w_4 hS) hi ?_
  refine aw_nmS (fun σ8 eσ8 => ?_)
  have h := ok_nm h σ8 eσ8
  refine aw_run tTX0_leave 1 (pc2 := 68) (L2 := [(2, .int x1), (0, .ref 1), (1, .int a1)]) (st2 := [.ref 1]) rfl ?_
  refine aw_getR tTX0_leave rfl 71 rfl (w_1 hS) rfl flX0_21 ?_
  refine aw_run tTX0_leave 2 (pc2 := 73) (L2 := [(2, .int x1), (0, .ref 1), (1, .int a1)]) (st2 := [.int 0, .int a1, .ref 5]) rfl ?_
  obtain ⟨hi, h⟩ := ok_gi h
  refine aw_iast tTX0_leave rfl 74 rfl (w_5 hS) hi ?_
  refine aw_nmS (fun σ9 eσ9 => ?_)
  have h := ok_nm h σ9 eσ9
  refine aw_run tTX0_leave 2 (pc2 := 76) (L2 := [(3, .int 0), (2, .int x1), (0, .ref 1), (1, .int a1)]) (st2 := []) rfl ?_
  refine ok_use (P := fun z12 : St => AW MX0_leave E0 rmX0_leave 0 0 Q 0 0 S z12 116 [] []) (ok_b h) (fun z12 h => ?_) (fun h => ?_)
  · have h := ok_r h
    exact aw_vr tTX0_leave rfl rfl (Nat.le_refl _) (Nat.le_refl _) h
  · refine aw_sub [2, 3, 1, 0] rfl ?_
    refine loop_P (P := fun s : Int32 × St => AW MX0_leave E0 rmX0_leave 0 0 Q 0 0 S s.2 76 [(0, .ref 1), (1, .int a1), (2, .int x1), (3, .int s.1)] []) (fun s h => ?_) _ _ h
    obtain ⟨y10, σ11⟩ := s
    replace h : ok (l_X0_leave_76 1 a1 x1 y10 σ11) _ := h
    unfold l_X0_leave_76 at h
    show AW MX0_leave E0 rmX0_leave 0 0 Q 0 0 S σ11 76 [(0, .ref 1), (1, .int a1), (2, .int x1), (3, .int y10)] []
    refine aw_run tTX0_leave 2 (pc2 := 79) (L2 := [(0, .ref 1), (1, .int a1), (2, .int x1), (3, .int y10)]) (st2 := [.int 6, .int y10]) rfl ?_
    refine aw_icmp_ge tTX0_leave rfl 116 82 rfl rfl (fun hc => ?_) (fun hc => ?_)
    · have h := ok_t hc h
      refine aw_sub [] rfl ?_
      have h := ok_r h
      exact h
    · have h := ok_f hc h
      refine aw_run tTX0_leave 1 (pc2 := 83) (L2 := [(0, .ref 1), (1, .int a1), (2, .int x1), (3, .int y10)]) (st2 := [.ref 1]) rfl ?_
      refine aw_getR tTX0_leave rfl 86 rfl (w_1 hS) rfl flX0_21 ?_
      refine aw_run tTX0_leave 2 (pc2 := 88) (L2 := [(0, .ref 1), (1, .int a1), (2, .int x1), (3, .int y10)]) (st2 := [.int y10, .ref 5, .int y10, .ref 5]) rfl ?_
      obtain ⟨hi, h⟩ := ok_gi h
      refine aw_iald tTX0_leave rfl 89 rfl (w_5 hS) hi ?_
      refine aw_run tTX0_leave 2 (pc2 := 91) (L2 := [(0, .ref 1), (1, .int a1), (2, .int x1), (3, .int y10)]) (st2 := [.int ((σ11 5 y10.toNatClampNeg) &&& x1), .int y10, .ref 5]) rfl ?_
      obtain ⟨hi, h⟩ := ok_gi h
      refine aw_iast tTX0_leave rfl 92 rfl (w_5 hS) hi ?_
      refine aw_nmS (fun σ13 eσ13 => ?_)
      have h := ok_nm h σ13 eσ13
      refine aw_run tTX0_leave 1 (pc2 := 93) (L2 := [(0, .ref 1), (1, .int a1), (2, .int x1), (3, .int y10)]) (st2 := [.ref 1]) rfl ?_
      refine aw_getR tTX0_leave rfl 96 rfl (w_1 hS) rfl flX0_24 ?_
      refine aw_run tTX0_leave 1 (pc2 := 97) (L2 := [(0, .ref 1), (1, .int a1), (2, .int x1), (3, .int y10)]) (st2 := [.int y10, .ref 6]) rfl ?_
      obtain ⟨hi, h⟩ := ok_gi h
      refine aw_iald tTX0_leave rfl 98 rfl (w_6 hS) hi ?_
      refine aw_run tTX0_leave 1 (pc2 := 99) (L2 := [(0, .ref 1), (1, .int a1), (2, .int x1), (3, .int y10)]) (st2 := [.int a1, .int (σ13 6 y10.toNatClampNeg)]) rfl ?_
      refine ok_use (P := fun j14 : St => AW MX0_leave E0 rmX0_leave 0 0 Q 0 0 S j14 110 [(0, .ref 1), (1, .int a1), (2, .int x1), (3, .int y10)] []) (ok_b h) (fun j14 h => ?_) (fun h => ?_)
      · refine aw_run tTX0_leave 2 (pc2 := 76) (L2 := [(3, .int (y10 + 1)), (0, .ref 1), (1, .int a1), (2, .int x1)]) (st2 := []) rfl ?_
        refine aw_sub [1, 2, 3, 0] rfl ?_
        have h := ok_r h
        exact h
      · refine aw_icmp_ne tTX0_leave rfl 110 102 rfl rfl (fun hc => ?_) (fun hc => ?_)
        · have h := ok_t hc h
          refine aw_sub [0, 1, 2, 3] rfl ?_
          have h := ok_r h
          exact h
        · have h := ok_fn hc h
          refine aw_run tTX0_leave 1 (pc2 := 103) (L2 := [(0, .ref 1), (1, .int a1), (2, .int x1), (3, .int y10)]) (st2 := [.ref 1]) rfl ?_
          refine aw_getR tTX0_leave rfl 106 rfl (w_1 hS) rfl flX0_24 ?_
          refine aw_run tTX0_leave 2 (pc2 := 109) (L2 := [(0, .ref 1), (1, .int a1), (2, .int x1), (3, .int y10)]) (st2 := [.int (-6 : Int32), .int y10, .ref 6]) rfl ?_
          obtain ⟨hi, h⟩ := ok_gi h
          refine aw_iast tTX0_leave rfl 110 rfl (w_6 hS) hi ?_
          refine aw_nmS (fun σ15 eσ15 => ?_)
          have h := ok_nm h σ15 eσ15
          refine aw_sub [0, 1, 2, 3] rfl ?_
          have h := ok_r h
          exact h
theorem s_X0_leave {g : Nat → Option Nat} {S : List SC} (hS : Wf g S) {σ : St} {a1 : Int32} {r : St} (e : f_X0_leave 1 a1 σ = some r) : Fn MX0_leave rmX0_leave [.ref 1, .int a1] S σ none r := Sp.of (by decide) (Nat.le_of_ble_eq_true rfl) (t_X0_leave hS a1 ⟨r, e, rfl, rfl, rfl⟩)
def f_X0_holds (a1 : Int32) (a2 : Int32)  : Option (Int32) := if (a1 &&& ((1 : Int32) <<< (a2 &&& 31))) = 0 then (some (0)) else (some (1))
set_option maxHeartbeats 4000000 in
set_option maxRecDepth 20000 in
theorem t_X0_holds {g : Nat → Option Nat} {S : List SC} (hS : Wf g S) {σ : St} {Q : QT} (a1 : Int32) (a2 : Int32) (h : ok (f_X0_holds a1 a2 ) (fun r => Q (some (.int r)) S σ)) : AW MX0_holds E0 rmX0_holds 0 0 Q 0 0 S σ 0 [(0, .int a1), (1, .int a2)] [] := by
  unfold f_X0_holds at h
  refine aw_run tTX0_holds 5 (pc2 := 5) (L2 := [(0, .int a1), (1, .int a2)]) (st2 := [.int (a1 &&& ((1 : Int32) <<< (a2 &&& 31)))]) rfl ?_
  refine aw_if_eq tTX0_holds rfl 12 8 rfl rfl (fun hc => ?_) (fun hc => ?_)
  · have h := ok_t hc h
    refine aw_run tTX0_holds 1 (pc2 := 13) (L2 := [(0, .int a1), (1, .int a2)]) (st2 := [.int 0]) rfl ?_
    have h := ok_r h
    exact aw_ir tTX0_holds rfl rfl rfl (Nat.le_refl _) (Nat.le_refl _) h
  · have h := ok_f hc h
    refine aw_run tTX0_holds 2 (pc2 := 13) (L2 := [(0, .int a1), (1, .int a2)]) (st2 := [.int 1]) rfl ?_
    have h := ok_r h
    exact aw_ir tTX0_holds rfl rfl rfl (Nat.le_refl _) (Nat.le_refl _) h
theorem s_X0_holds {g : Nat → Option Nat} {S : List SC} (hS : Wf g S) {σ : St} {a1 : Int32} {a2 : Int32} {r : Int32} (e : f_X0_holds a1 a2  = some r) : Fn MX0_holds rmX0_holds [.int a1, .int a2] S σ (some (.int r)) σ := Sp.of (by decide) (Nat.le_of_ble_eq_true rfl) (t_X0_holds hS a1 a2 ⟨r, e, rfl, rfl, rfl⟩)
def f_X0_tell (b : Nat) (a1 : Int32) (a2 : Int32) (σ : St) : Option (Int32) := if a2 = 0 then (gi a1 6 (some (σ (b + 1) a1.toNatClampNeg))) else (if a2 = 1 then (gi a1 6 (some (σ (b + 3) a1.toNatClampNeg))) else (if a2 = 2 then (Option.bind (f_X0_holds (σ b 9) a1) (fun r1 => if r1 = 0 then (some (0)) else (some (1)))) else (gi a1 6 (some (σ (b + 4) a1.toNatClampNeg)))))
set_option maxHeartbeats 4000000 in
set_option maxRecDepth 20000 in
theorem t_X0_tell_1 {g : Nat → Option Nat} {S : List SC} (hS : Wf g S) {σ : St} {Q : QT} (a1 : Int32) (a2 : Int32) (h : ok (f_X0_tell 1 a1 a2 σ) (fun r => Q (some (.int r)) S σ)) : AW MX0_tell E0 rmX0_tell 0 0 Q 0 0 S σ 0 [(0, .ref 1), (1, .int a1), (2, .int a2)] [] := by
  unfold f_X0_tell at h
  refine aw_run tTX0_tell 1 (pc2 := 1) (L2 := [(0, .ref 1), (1, .int a1), (2, .int a2)]) (st2 := [.int a2]) rfl ?_
  by_cases hc0 : a2 = 0
  · have h := ok_t hc0 h
    refine aw_tableK (off := 27) tTX0_tell rfl 0 hc0 rfl 28 rfl ?_
    refine aw_run tTX0_tell 1 (pc2 := 29) (L2 := [(0, .ref 1), (1, .int a1), (2, .int a2)]) (st2 := [.ref 1]) rfl ?_
    refine aw_getR tTX0_tell rfl 32 rfl (w_1 hS) rfl flX0_9 ?_
    refine aw_run tTX0_tell 1 (pc2 := 33) (L2 := [(0, .ref 1), (1, .int a1), (2, .int a2)]) (st2 := [.int a1, .ref 2]) rfl ?_
    obtain ⟨hi, h⟩ := ok_gi h
    refine aw_iald tTX0_tell rfl 34 rfl (w_2 hS) hi ?_
    have h := ok_r h
    exact aw_ir tTX0_tell rfl rfl rfl (Nat.le_refl _) (Nat.le_refl _) h
  · have h := ok_f hc0 h
    by_cases hc1 : a2 = 1
    · have h := ok_t hc1 h
      refine aw_tableK (off := 34) tTX0_tell rfl 1 hc1 rfl 35 rfl ?_
      refine aw_run tTX0_tell 1 (pc2 := 36) (L2 := [(0, .ref 1), (1, .int a1), (2, .int a2)]) (st2 := [.ref 1]) rfl ?_
      refine aw_getR tTX0_tell rfl 39 rfl (w_1 hS) rfl flX0_18 ?_
      refine aw_run tTX0_tell 1 (pc2 := 40) (L2 := [(0, .ref 1), (1, .int a1), (2, .int a2)]) (st2 := [.int a1, .ref 4]) rfl ?_
      obtain ⟨hi, h⟩ := ok_gi h
      refine aw_iald tTX0_tell rfl 41 rfl (w_4 hS) hi ?_
      have h := ok_r h
      exact aw_ir tTX0_tell rfl rfl rfl (Nat.le_refl _) (Nat.le_refl _) h
    · have h := ok_f hc1 h
      by_cases hc2 : a2 = 2
      · have h := ok_t hc2 h
        refine aw_tableK (off := 41) tTX0_tell rfl 2 hc2 rfl 42 rfl ?_
        refine aw_run tTX0_tell 1 (pc2 := 43) (L2 := [(0, .ref 1), (1, .int a1), (2, .int a2)]) (st2 := [.ref 1]) rfl ?_
        refine aw_getI tTX0_tell rfl 46 rfl (w_1 hS) rfl flX0_40 ?_
        refine aw_run tTX0_tell 1 (pc2 := 47) (L2 := [(0, .ref 1), (1, .int a1), (2, .int a2)]) (st2 := [.int a1, .int (σ 1 9)]) rfl ?_
        obtain ⟨r1, er1, h⟩ := ok_b h
        refine aw_cS tTX0_tell rfl 50 rfl (M' := MX0_holds) (av := [.int (σ 1 9), .int a1]) (rest := []) rfl lkX0_68 hMX0_holds rfl (s_X0_holds hS er1) ⟨rfl, rfl, ⟨by decide, by decide⟩, by decide, by decide⟩ (Nat.le_of_ble_eq_true rfl) 46 (wf_len hS) rfl [.int r1] rfl ?_
        refine aw_if_eq tTX0_tell rfl 57 53 rfl rfl (fun hc => ?_) (fun hc => ?_)
        · have h := ok_t hc h
          refine aw_run tTX0_tell 1 (pc2 := 58) (L2 := [(0, .ref 1), (1, .int a1), (2, .int a2)]) (st2 := [.int 0]) rfl ?_
          have h := ok_r h
          exact aw_ir tTX0_tell rfl rfl rfl (Nat.le_refl _) (Nat.le_refl _) h
        · have h := ok_f hc h
          refine aw_run tTX0_tell 2 (pc2 := 58) (L2 := [(0, .ref 1), (1, .int a1), (2, .int a2)]) (st2 := [.int 1]) rfl ?_
          have h := ok_r h
          exact aw_ir tTX0_tell rfl rfl rfl (Nat.le_refl _) (Nat.le_refl _) h
      · have h := ok_f hc2 h
        refine aw_tableN tTX0_tell rfl [0, 1, 2] (by intro k hk; simp only [List.mem_cons, List.not_mem_nil, or_false] at hk; rcases hk with rfl | rfl | rfl <;> assumption) (by decide) 59 rfl ?_
        refine aw_run tTX0_tell 1 (pc2 := 60) (L2 := [(0, .ref 1), (1, .int a1), (2, .int a2)]) (st2 := [.ref 1]) rfl ?_
        refine aw_getR tTX0_tell rfl 63 rfl (w_1 hS) rfl flX0_21 ?_
        refine aw_run tTX0_tell 1 (pc2 := 64) (L2 := [(0, .ref 1), (1, .int a1), (2, .int a2)]) (st2 := [.int a1, .ref 5]) rfl ?_
        obtain ⟨hi, h⟩ := ok_gi h
        refine aw_iald tTX0_tell rfl 65 rfl (w_5 hS) hi ?_
        have h := ok_r h
        exact aw_ir tTX0_tell rfl rfl rfl (Nat.le_refl _) (Nat.le_refl _) h
theorem s_X0_tell_1 {g : Nat → Option Nat} {S : List SC} (hS : Wf g S) {σ : St} {a1 : Int32} {a2 : Int32} {r : Int32} (e : f_X0_tell 1 a1 a2 σ = some r) : Fn MX0_tell rmX0_tell [.ref 1, .int a1, .int a2] S σ (some (.int r)) σ := Sp.of (by decide) (Nat.le_of_ble_eq_true rfl) (t_X0_tell_1 hS a1 a2 ⟨r, e, rfl, rfl, rfl⟩)
set_option maxHeartbeats 4000000 in
set_option maxRecDepth 20000 in
theorem t_X0_tell_9 {g : Nat → Option Nat} {S : List SC} (hS : Wf g S) {σ : St} {Q : QT} (a1 : Int32) (a2 : Int32) (h : ok (f_X0_tell 9 a1 a2 σ) (fun r => Q (some (.int r)) S σ)) : AW MX0_tell E0 rmX0_tell 0 0 Q 0 0 S σ 0 [(0, .ref 9), (1, .int a1), (2, .int a2)] [] := by
  unfold f_X0_tell at h
  refine aw_run tTX0_tell 1 (pc2 := 1) (L2 := [(0, .ref 9), (1, .int a1), (2, .int a2)]) (st2 := [.int a2]) rfl ?_
  by_cases hc0 : a2 = 0
  · have h := ok_t hc0 h
    refine aw_tableK (off := 27) tTX0_tell rfl 0 hc0 rfl 28 rfl ?_
    refine aw_run tTX0_tell 1 (pc2 := 29) (L2 := [(0, .ref 9), (1, .int a1), (2, .int a2)]) (st2 := [.ref 9]) rfl ?_
    refine aw_getR tTX0_tell rfl 32 rfl (w_9 hS) rfl flX0_9 ?_
    refine aw_run tTX0_tell 1 (pc2 := 33) (L2 := [(0, .ref 9), (1, .int a1), (2, .int a2)]) (st2 := [.int a1, .ref 10]) rfl ?_
    obtain ⟨hi, h⟩ := ok_gi h
    refine aw_iald tTX0_tell rfl 34 rfl (w_10 hS) hi ?_
    have h := ok_r h
    exact aw_ir tTX0_tell rfl rfl rfl (Nat.le_refl _) (Nat.le_refl _) h
  · have h := ok_f hc0 h
    by_cases hc1 : a2 = 1
    · have h := ok_t hc1 h
      refine aw_tableK (off := 34) tTX0_tell rfl 1 hc1 rfl 35 rfl ?_
      refine aw_run tTX0_tell 1 (pc2 := 36) (L2 := [(0, .ref 9), (1, .int a1), (2, .int a2)]) (st2 := [.ref 9]) rfl ?_
      refine aw_getR tTX0_tell rfl 39 rfl (w_9 hS) rfl flX0_18 ?_
      refine aw_run tTX0_tell 1 (pc2 := 40) (L2 := [(0, .ref 9), (1, .int a1), (2, .int a2)]) (st2 := [.int a1, .ref 12]) rfl ?_
      obtain ⟨hi, h⟩ := ok_gi h
      refine aw_iald tTX0_tell rfl 41 rfl (w_12 hS) hi ?_
      have h := ok_r h
      exact aw_ir tTX0_tell rfl rfl rfl (Nat.le_refl _) (Nat.le_refl _) h
    · have h := ok_f hc1 h
      by_cases hc2 : a2 = 2
      · have h := ok_t hc2 h
        refine aw_tableK (off := 41) tTX0_tell rfl 2 hc2 rfl 42 rfl ?_
        refine aw_run tTX0_tell 1 (pc2 := 43) (L2 := [(0, .ref 9), (1, .int a1), (2, .int a2)]) (st2 := [.ref 9]) rfl ?_
        refine aw_getI tTX0_tell rfl 46 rfl (w_9 hS) rfl flX0_40 ?_
        refine aw_run tTX0_tell 1 (pc2 := 47) (L2 := [(0, .ref 9), (1, .int a1), (2, .int a2)]) (st2 := [.int a1, .int (σ 9 9)]) rfl ?_
        obtain ⟨r1, er1, h⟩ := ok_b h
        refine aw_cS tTX0_tell rfl 50 rfl (M' := MX0_holds) (av := [.int (σ 9 9), .int a1]) (rest := []) rfl lkX0_68 hMX0_holds rfl (s_X0_holds hS er1) ⟨rfl, rfl, ⟨by decide, by decide⟩, by decide, by decide⟩ (Nat.le_of_ble_eq_true rfl) 46 (wf_len hS) rfl [.int r1] rfl ?_
        refine aw_if_eq tTX0_tell rfl 57 53 rfl rfl (fun hc => ?_) (fun hc => ?_)
        · have h := ok_t hc h
          refine aw_run tTX0_tell 1 (pc2 := 58) (L2 := [(0, .ref 9), (1, .int a1), (2, .int a2)]) (st2 := [.int 0]) rfl ?_
          have h := ok_r h
          exact aw_ir tTX0_tell rfl rfl rfl (Nat.le_refl _) (Nat.le_refl _) h
        · have h := ok_f hc h
          refine aw_run tTX0_tell 2 (pc2 := 58) (L2 := [(0, .ref 9), (1, .int a1), (2, .int a2)]) (st2 := [.int 1]) rfl ?_
          have h := ok_r h
          exact aw_ir tTX0_tell rfl rfl rfl (Nat.le_refl _) (Nat.le_refl _) h
      · have h := ok_f hc2 h
        refine aw_tableN tTX0_tell rfl [0, 1, 2] (by intro k hk; simp only [List.mem_cons, List.not_mem_nil, or_false] at hk; rcases hk with rfl | rfl | rfl <;> assumption) (by decide) 59 rfl ?_
        refine aw_run tTX0_tell 1 (pc2 := 60) (L2 := [(0, .ref 9), (1, .int a1), (2, .int a2)]) (st2 := [.ref 9]) rfl ?_
        refine aw_getR tTX0_tell rfl 63 rfl (w_9 hS) rfl flX0_21 ?_
        refine aw_run tTX0_tell 1 (pc2 := 64) (L2 := [(0, .ref 9), (1, .int a1), (2, .int a2)]) (st2 := [.int a1, .ref 13]) rfl ?_
        obtain ⟨hi, h⟩ := ok_gi h
        refine aw_iald tTX0_tell rfl 65 rfl (w_13 hS) hi ?_
        have h := ok_r h
        exact aw_ir tTX0_tell rfl rfl rfl (Nat.le_refl _) (Nat.le_refl _) h
theorem s_X0_tell_9 {g : Nat → Option Nat} {S : List SC} (hS : Wf g S) {σ : St} {a1 : Int32} {a2 : Int32} {r : Int32} (e : f_X0_tell 9 a1 a2 σ = some r) : Fn MX0_tell rmX0_tell [.ref 9, .int a1, .int a2] S σ (some (.int r)) σ := Sp.of (by decide) (Nat.le_of_ble_eq_true rfl) (t_X0_tell_9 hS a1 a2 ⟨r, e, rfl, rfl, rfl⟩)
def f_X0_load (b : Nat) (a1 : Int32) (a2 : Int32) (σ : St) : Option (Int32) := gi a1 6 (gi a2 6 (some (jmin (σ (b + 2) a1.toNatClampNeg) (σ (b + 1) a2.toNatClampNeg))))
set_option maxHeartbeats 4000000 in
set_option maxRecDepth 20000 in
theorem t_X0_load_1 {g : Nat → Option Nat} {S : List SC} (hS : Wf g S) {σ : St} {Q : QT} (a1 : Int32) (a2 : Int32) (h : ok (f_X0_load 1 a1 a2 σ) (fun r => Q (some (.int r)) S σ)) : AW MX0_load E0 rmX0_load 0 0 Q 0 0 S σ 0 [(0, .ref 1), (1, .int a1), (2, .int a2)] [] := by
  unfold f_X0_load at h
  refine aw_run tTX0_load 1 (pc2 := 1) (L2 := [(0, .ref 1), (1, .int a1), (2, .int a2)]) (st2 := [.ref 1]) rfl ?_
  refine aw_getR tTX0_load rfl 4 rfl (w_1 hS) rfl flX0_15 ?_
  refine aw_run tTX0_load 1 (pc2 := 5) (L2 := [(0, .ref 1), (1, .int a1), (2, .int a2)]) (st2 := [.int a1, .ref 3]) rfl ?_
  obtain ⟨hi, h⟩ := ok_gi h
  refine aw_iald tTX0_load rfl 6 rfl (w_3 hS) hi ?_
  refine aw_run tTX0_load 1 (pc2 := 7) (L2 := [(0, .ref 1), (1, .int a1), (2, .int a2)]) (st2 := [.ref 1, .int (σ 3 a1.toNatClampNeg)]) rfl ?_
  refine aw_getR tTX0_load rfl 10 rfl (w_1 hS) rfl flX0_9 ?_
  refine aw_run tTX0_load 1 (pc2 := 11) (L2 := [(0, .ref 1), (1, .int a1), (2, .int a2)]) (st2 := [.int a2, .ref 2, .int (σ 3 a1.toNatClampNeg)]) rfl ?_
  obtain ⟨hi, h⟩ := ok_gi h
  refine aw_iald tTX0_load rfl 12 rfl (w_2 hS) hi ?_
  refine aw_min tTX0_load rfl 15 rfl lkX0_72 (by decide) (Nat.le_of_ble_eq_true rfl) (Nat.zero_le _) (Nat.zero_le _) ?_
  have h := ok_r h
  exact aw_ir tTX0_load rfl rfl rfl (Nat.le_refl _) (Nat.le_refl _) h
theorem s_X0_load_1 {g : Nat → Option Nat} {S : List SC} (hS : Wf g S) {σ : St} {a1 : Int32} {a2 : Int32} {r : Int32} (e : f_X0_load 1 a1 a2 σ = some r) : Fn MX0_load rmX0_load [.ref 1, .int a1, .int a2] S σ (some (.int r)) σ := Sp.of (by decide) (Nat.le_of_ble_eq_true rfl) (t_X0_load_1 hS a1 a2 ⟨r, e, rfl, rfl, rfl⟩)
set_option maxHeartbeats 4000000 in
set_option maxRecDepth 20000 in
theorem t_X0_load_9 {g : Nat → Option Nat} {S : List SC} (hS : Wf g S) {σ : St} {Q : QT} (a1 : Int32) (a2 : Int32) (h : ok (f_X0_load 9 a1 a2 σ) (fun r => Q (some (.int r)) S σ)) : AW MX0_load E0 rmX0_load 0 0 Q 0 0 S σ 0 [(0, .ref 9), (1, .int a1), (2, .int a2)] [] := by
  unfold f_X0_load at h
  refine aw_run tTX0_load 1 (pc2 := 1) (L2 := [(0, .ref 9), (1, .int a1), (2, .int a2)]) (st2 := [.ref 9]) rfl ?_
  refine aw_getR tTX0_load rfl 4 rfl (w_9 hS) rfl flX0_15 ?_
  refine aw_run tTX0_load 1 (pc2 := 5) (L2 := [(0, .ref 9), (1, .int a1), (2, .int a2)]) (st2 := [.int a1, .ref 11]) rfl ?_
  obtain ⟨hi, h⟩ := ok_gi h
  refine aw_iald tTX0_load rfl 6 rfl (w_11 hS) hi ?_
  refine aw_run tTX0_load 1 (pc2 := 7) (L2 := [(0, .ref 9), (1, .int a1), (2, .int a2)]) (st2 := [.ref 9, .int (σ 11 a1.toNatClampNeg)]) rfl ?_
  refine aw_getR tTX0_load rfl 10 rfl (w_9 hS) rfl flX0_9 ?_
  refine aw_run tTX0_load 1 (pc2 := 11) (L2 := [(0, .ref 9), (1, .int a1), (2, .int a2)]) (st2 := [.int a2, .ref 10, .int (σ 11 a1.toNatClampNeg)]) rfl ?_
  obtain ⟨hi, h⟩ := ok_gi h
  refine aw_iald tTX0_load rfl 12 rfl (w_10 hS) hi ?_
  refine aw_min tTX0_load rfl 15 rfl lkX0_72 (by decide) (Nat.le_of_ble_eq_true rfl) (Nat.zero_le _) (Nat.zero_le _) ?_
  have h := ok_r h
  exact aw_ir tTX0_load rfl rfl rfl (Nat.le_refl _) (Nat.le_refl _) h
theorem s_X0_load_9 {g : Nat → Option Nat} {S : List SC} (hS : Wf g S) {σ : St} {a1 : Int32} {a2 : Int32} {r : Int32} (e : f_X0_load 9 a1 a2 σ = some r) : Fn MX0_load rmX0_load [.ref 9, .int a1, .int a2] S σ (some (.int r)) σ := Sp.of (by decide) (Nat.le_of_ble_eq_true rfl) (t_X0_load_9 hS a1 a2 ⟨r, e, rfl, rfl, rfl⟩)
def f_X0_isGuarded (b : Nat) (a1 : Int32) (σ : St) : Option (Int32) := if (((σ b 10) &&& ((σ b 11) ^^^ (-1 : Int32))) &&& ((1 : Int32) <<< (a1 &&& 31))) = 0 then (some (0)) else (some (1))
set_option maxHeartbeats 4000000 in
set_option maxRecDepth 20000 in
theorem t_X0_isGuarded_1 {g : Nat → Option Nat} {S : List SC} (hS : Wf g S) {σ : St} {Q : QT} (a1 : Int32) (h : ok (f_X0_isGuarded 1 a1 σ) (fun r => Q (some (.int r)) S σ)) : AW MX0_isGuarded E0 rmX0_isGuarded 0 0 Q 0 0 S σ 0 [(0, .ref 1), (1, .int a1)] [] := by
  unfold f_X0_isGuarded at h
  refine aw_run tTX0_isGuarded 1 (pc2 := 1) (L2 := [(0, .ref 1), (1, .int a1)]) (st2 := [.ref 1]) rfl ?_
  refine aw_getI tTX0_isGuarded rfl 4 rfl (w_1 hS) rfl flX0_43 ?_
  refine aw_run tTX0_isGuarded 1 (pc2 := 5) (L2 := [(0, .ref 1), (1, .int a1)]) (st2 := [.ref 1, .int (σ 1 10)]) rfl ?_
  refine aw_getI tTX0_isGuarded rfl 8 rfl (w_1 hS) rfl flX0_46 ?_
  refine aw_run tTX0_isGuarded 7 (pc2 := 15) (L2 := [(0, .ref 1), (1, .int a1)]) (st2 := [.int (((σ 1 10) &&& ((σ 1 11) ^^^ (-1 : Int32))) &&& ((1 : Int32) <<< (a1 &&& 31)))]) rfl ?_
  refine aw_if_eq tTX0_isGuarded rfl 22 18 rfl rfl (fun hc => ?_) (fun hc => ?_)
  · have h := ok_t hc h
    refine aw_run tTX0_isGuarded 1 (pc2 := 23) (L2 := [(0, .ref 1), (1, .int a1)]) (st2 := [.int 0]) rfl ?_
    have h := ok_r h
    exact aw_ir tTX0_isGuarded rfl rfl rfl (Nat.le_refl _) (Nat.le_refl _) h
  · have h := ok_f hc h
    refine aw_run tTX0_isGuarded 2 (pc2 := 23) (L2 := [(0, .ref 1), (1, .int a1)]) (st2 := [.int 1]) rfl ?_
    have h := ok_r h
    exact aw_ir tTX0_isGuarded rfl rfl rfl (Nat.le_refl _) (Nat.le_refl _) h
theorem s_X0_isGuarded_1 {g : Nat → Option Nat} {S : List SC} (hS : Wf g S) {σ : St} {a1 : Int32} {r : Int32} (e : f_X0_isGuarded 1 a1 σ = some r) : Fn MX0_isGuarded rmX0_isGuarded [.ref 1, .int a1] S σ (some (.int r)) σ := Sp.of (by decide) (Nat.le_of_ble_eq_true rfl) (t_X0_isGuarded_1 hS a1 ⟨r, e, rfl, rfl, rfl⟩)
set_option maxHeartbeats 4000000 in
set_option maxRecDepth 20000 in
theorem t_X0_isGuarded_9 {g : Nat → Option Nat} {S : List SC} (hS : Wf g S) {σ : St} {Q : QT} (a1 : Int32) (h : ok (f_X0_isGuarded 9 a1 σ) (fun r => Q (some (.int r)) S σ)) : AW MX0_isGuarded E0 rmX0_isGuarded 0 0 Q 0 0 S σ 0 [(0, .ref 9), (1, .int a1)] [] := by
  unfold f_X0_isGuarded at h
  refine aw_run tTX0_isGuarded 1 (pc2 := 1) (L2 := [(0, .ref 9), (1, .int a1)]) (st2 := [.ref 9]) rfl ?_
  refine aw_getI tTX0_isGuarded rfl 4 rfl (w_9 hS) rfl flX0_43 ?_
  refine aw_run tTX0_isGuarded 1 (pc2 := 5) (L2 := [(0, .ref 9), (1, .int a1)]) (st2 := [.ref 9, .int (σ 9 10)]) rfl ?_
  refine aw_getI tTX0_isGuarded rfl 8 rfl (w_9 hS) rfl flX0_46 ?_
  refine aw_run tTX0_isGuarded 7 (pc2 := 15) (L2 := [(0, .ref 9), (1, .int a1)]) (st2 := [.int (((σ 9 10) &&& ((σ 9 11) ^^^ (-1 : Int32))) &&& ((1 : Int32) <<< (a1 &&& 31)))]) rfl ?_
  refine aw_if_eq tTX0_isGuarded rfl 22 18 rfl rfl (fun hc => ?_) (fun hc => ?_)
  · have h := ok_t hc h
    refine aw_run tTX0_isGuarded 1 (pc2 := 23) (L2 := [(0, .ref 9), (1, .int a1)]) (st2 := [.int 0]) rfl ?_
    have h := ok_r h
    exact aw_ir tTX0_isGuarded rfl rfl rfl (Nat.le_refl _) (Nat.le_refl _) h
  · have h := ok_f hc h
    refine aw_run tTX0_isGuarded 2 (pc2 := 23) (L2 := [(0, .ref 9), (1, .int a1)]) (st2 := [.int 1]) rfl ?_
    have h := ok_r h
    exact aw_ir tTX0_isGuarded rfl rfl rfl (Nat.le_refl _) (Nat.le_refl _) h
theorem s_X0_isGuarded_9 {g : Nat → Option Nat} {S : List SC} (hS : Wf g S) {σ : St} {a1 : Int32} {r : Int32} (e : f_X0_isGuarded 9 a1 σ = some r) : Fn MX0_isGuarded rmX0_isGuarded [.ref 9, .int a1] S σ (some (.int r)) σ := Sp.of (by decide) (Nat.le_of_ble_eq_true rfl) (t_X0_isGuarded_9 hS a1 ⟨r, e, rfl, rfl, rfl⟩)
def f_X0_robBar (b : Nat) (a1 : Int32) (a2 : Int32) (σ : St) : Option (Int32) := Option.bind (f_X0_has b a1 σ) (fun r1 => if r1 = 0 then (some (1)) else (Option.bind (f_X0_has b a2 σ) (fun r2 => if ¬ r2 = 0 then (if ¬ a1 = a2 then (gi a1 6 (Option.bind (f_X0_holds (σ (b + 4) a1.toNatClampNeg) a2) (fun r3 => if r3 = 0 then (Option.bind (f_X0_holds (σ b 9) a1) (fun r4 => if r4 = 0 then (Option.bind (f_X0_isGuarded b a2 σ) (fun r5 => if r5 = 0 then (gi a2 6 (if ¬ (σ (b + 1) a2.toNatClampNeg) = 0 then (if ¬ (σ b 12) = 0 then (some (0)) else (some (7))) else (some (6)))) else (some (5)))) else (some (4)))) else (some (3))))) else (some (2))) else (some (1)))))
set_option maxHeartbeats 4000000 in
set_option maxRecDepth 20000 in
theorem t_X0_robBar_1 {g : Nat → Option Nat} {S : List SC} (hS : Wf g S) {σ : St} {Q : QT} (a1 : Int32) (a2 : Int32) (h : ok (f_X0_robBar 1 a1 a2 σ) (fun r => Q (some (.int r)) S σ)) : AW MX0_robBar E0 rmX0_robBar 0 0 Q 0 0 S σ 0 [(0, .ref 1), (1, .int a1), (2, .int a2)] [] := by
  unfold f_X0_robBar at h
  refine aw_run tTX0_robBar 2 (pc2 := 2) (L2 := [(0, .ref 1), (1, .int a1), (2, .int a2)]) (st2 := [.int a1, .ref 1]) rfl ?_
  obtain ⟨r1, er1, h⟩ := ok_b h
  refine aw_cV tTX0_robBar rfl 5 rfl (M' := MX0_has) (av := [.int a1]) (rest := []) rfl lkX0_58 hMX0_has rfl (w_1 hS) ⟨_, _, rfl⟩ (s_X0_has_1 hS er1) ⟨rfl, rfl, ⟨by decide, by decide⟩, by decide, by decide⟩ (Nat.le_of_ble_eq_true rfl) 46 (wf_len hS) rfl [.int r1] rfl ?_
  refine aw_if_eq tTX0_robBar rfl 16 8 rfl rfl (fun hc => ?_) (fun hc => ?_)
  · have h := ok_t hc h
    refine aw_run tTX0_robBar 1 (pc2 := 17) (L2 := [(0, .ref 1), (1, .int a1), (2, .int a2)]) (st2 := [.int 1]) rfl ?_
    have h := ok_r h
    exact aw_ir tTX0_robBar rfl rfl rfl (Nat.le_refl _) (Nat.le_refl _) h
  · have h := ok_f hc h
    refine aw_run tTX0_robBar 2 (pc2 := 10) (L2 := [(0, .ref 1), (1, .int a1), (2, .int a2)]) (st2 := [.int a2, .ref 1]) rfl ?_
    obtain ⟨r2, er2, h⟩ := ok_b h
    refine aw_cV tTX0_robBar rfl 13 rfl (M' := MX0_has) (av := [.int a2]) (rest := []) rfl lkX0_58 hMX0_has rfl (w_1 hS) ⟨_, _, rfl⟩ (s_X0_has_1 hS er2) ⟨rfl, rfl, ⟨by decide, by decide⟩, by decide, by decide⟩ (Nat.le_of_ble_eq_true rfl) 46 (wf_len hS) rfl [.int r2] rfl ?_
    refine aw_if_ne tTX0_robBar rfl 18 16 rfl rfl (fun hc => ?_) (fun hc => ?_)
    · have h := ok_t hc h
      refine aw_run tTX0_robBar 2 (pc2 := 20) (L2 := [(0, .ref 1), (1, .int a1), (2, .int a2)]) (st2 := [.int a2, .int a1]) rfl ?_
      refine aw_icmp_ne tTX0_robBar rfl 25 23 rfl rfl (fun hc => ?_) (fun hc => ?_)
      · have h := ok_t hc h
        refine aw_run tTX0_robBar 1 (pc2 := 26) (L2 := [(0, .ref 1), (1, .int a1), (2, .int a2)]) (st2 := [.ref 1]) rfl ?_
        refine aw_getR tTX0_robBar rfl 29 rfl (w_1 hS) rfl flX0_21 ?_
        refine aw_run tTX0_robBar 1 (pc2 := 30) (L2 := [(0, .ref 1), (1, .int a1), (2, .int a2)]) (st2 := [.int a1, .ref 5]) rfl ?_
        obtain ⟨hi, h⟩ := ok_gi h
        refine aw_iald tTX0_robBar rfl 31 rfl (w_5 hS) hi ?_
        refine aw_run tTX0_robBar 1 (pc2 := 32) (L2 := [(0, .ref 1), (1, .int a1), (2, .int a2)]) (st2 := [.int a2, .int (σ 5 a1.toNatClampNeg)]) rfl ?_
        obtain ⟨r3, er3, h⟩ := ok_b h
        refine aw_cS tTX0_robBar rfl 35 rfl (M' := MX0_holds) (av := [.int (σ 5 a1.toNatClampNeg), .int a2]) (rest := []) rfl lkX0_68 hMX0_holds rfl (s_X0_holds hS er3) ⟨rfl, rfl, ⟨by decide, by decide⟩, by decide, by decide⟩ (Nat.le_of_ble_eq_true rfl) 46 (wf_len hS) rfl [.int r3] rfl ?_
        refine aw_if_eq tTX0_robBar rfl 40 38 rfl rfl (fun hc => ?_) (fun hc => ?_)
        · have h := ok_t hc h
          refine aw_run tTX0_robBar 1 (pc2 := 41) (L2 := [(0, .ref 1), (1, .int a1), (2, .int a2)]) (st2 := [.ref 1]) rfl ?_
          refine aw_getI tTX0_robBar rfl 44 rfl (w_1 hS) rfl flX0_40 ?_
          refine aw_run tTX0_robBar 1 (pc2 := 45) (L2 := [(0, .ref 1), (1, .int a1), (2, .int a2)]) (st2 := [.int a1, .int (σ 1 9)]) rfl ?_
          obtain ⟨r4, er4, h⟩ := ok_b h
          refine aw_cS tTX0_robBar rfl 48 rfl (M' := MX0_holds) (av := [.int (σ 1 9), .int a1]) (rest := []) rfl lkX0_68 hMX0_holds rfl (s_X0_holds hS er4) ⟨rfl, rfl, ⟨by decide, by decide⟩, by decide, by decide⟩ (Nat.le_of_ble_eq_true rfl) 46 (wf_len hS) rfl [.int r4] rfl ?_
          refine aw_if_eq tTX0_robBar rfl 53 51 rfl rfl (fun hc => ?_) (fun hc => ?_)
          · have h := ok_t hc h
            refine aw_run tTX0_robBar 2 (pc2 := 55) (L2 := [(0, .ref 1), (1, .int a1), (2, .int a2)]) (st2 := [.int a2, .ref 1]) rfl ?_
            obtain ⟨r5, er5, h⟩ := ok_b h
            refine aw_cV tTX0_robBar rfl 58 rfl (M' := MX0_isGuarded) (av := [.int a2]) (rest := []) rfl lkX0_78 hMX0_isGuarded rfl (w_1 hS) ⟨_, _, rfl⟩ (s_X0_isGuarded_1 hS er5) ⟨rfl, rfl, ⟨by decide, by decide⟩, by decide, by decide⟩ (Nat.le_of_ble_eq_true rfl) 46 (wf_len hS) rfl [.int r5] rfl ?_
            refine aw_if_eq tTX0_robBar rfl 63 61 rfl rfl (fun hc => ?_) (fun hc => ?_)
            · have h := ok_t hc h
              refine aw_run tTX0_robBar 1 (pc2 := 64) (L2 := [(0, .ref 1), (1, .int a1), (2, .int a2)]) (st2 := [.ref 1]) rfl ?_
              refine aw_getR tTX0_robBar rfl 67 rfl (w_1 hS) rfl flX0_9 ?_
              refine aw_run tTX0_robBar 1 (pc2 := 68) (L2 := [(0, .ref 1), (1, .int a1), (2, .int a2)]) (st2 := [.int a2, .ref 2]) rfl ?_
              obtain ⟨hi, h⟩ := ok_gi h
              refine aw_iald tTX0_robBar rfl 69 rfl (w_2 hS) hi ?_
              refine aw_if_ne tTX0_robBar rfl 75 72 rfl rfl (fun hc => ?_) (fun hc => ?_)
              · have h := ok_t hc h
                refine aw_run tTX0_robBar 1 (pc2 := 76) (L2 := [(0, .ref 1), (1, .int a1), (2, .int a2)]) (st2 := [.ref 1]) rfl ?_
                refine aw_getI tTX0_robBar rfl 79 rfl (w_1 hS) rfl flX0_49 ?_
                refine aw_if_ne tTX0_robBar rfl 87 82 rfl rfl (fun hc => ?_) (fun hc => ?_)
                · have h := ok_t hc h
                  refine aw_run tTX0_robBar 1 (pc2 := 88) (L2 := [(0, .ref 1), (1, .int a1), (2, .int a2)]) (st2 := [.int 0]) rfl ?_
                  have h := ok_r h
                  exact aw_ir tTX0_robBar rfl rfl rfl (Nat.le_refl _) (Nat.le_refl _) h
                · have h := ok_fn hc h
                  refine aw_run tTX0_robBar 2 (pc2 := 88) (L2 := [(0, .ref 1), (1, .int a1), (2, .int a2)]) (st2 := [.int 7]) rfl ?_
                  have h := ok_r h
                  exact aw_ir tTX0_robBar rfl rfl rfl (Nat.le_refl _) (Nat.le_refl _) h
              · have h := ok_fn hc h
                refine aw_run tTX0_robBar 1 (pc2 := 74) (L2 := [(0, .ref 1), (1, .int a1), (2, .int a2)]) (st2 := [.int 6]) rfl ?_
                have h := ok_r h
                exact aw_ir tTX0_robBar rfl rfl rfl (Nat.le_refl _) (Nat.le_refl _) h
            · have h := ok_f hc h
              refine aw_run tTX0_robBar 1 (pc2 := 62) (L2 := [(0, .ref 1), (1, .int a1), (2, .int a2)]) (st2 := [.int 5]) rfl ?_
              have h := ok_r h
              exact aw_ir tTX0_robBar rfl rfl rfl (Nat.le_refl _) (Nat.le_refl _) h
          · have h := ok_f hc h
            refine aw_run tTX0_robBar 1 (pc2 := 52) (L2 := [(0, .ref 1), (1, .int a1), (2, .int a2)]) (st2 := [.int 4]) rfl ?_
            have h := ok_r h
            exact aw_ir tTX0_robBar rfl rfl rfl (Nat.le_refl _) (Nat.le_refl _) h
        · have h := ok_f hc h
          refine aw_run tTX0_robBar 1 (pc2 := 39) (L2 := [(0, .ref 1), (1, .int a1), (2, .int a2)]) (st2 := [.int 3]) rfl ?_
          have h := ok_r h
          exact aw_ir tTX0_robBar rfl rfl rfl (Nat.le_refl _) (Nat.le_refl _) h
      · have h := ok_fn hc h
        refine aw_run tTX0_robBar 1 (pc2 := 24) (L2 := [(0, .ref 1), (1, .int a1), (2, .int a2)]) (st2 := [.int 2]) rfl ?_
        have h := ok_r h
        exact aw_ir tTX0_robBar rfl rfl rfl (Nat.le_refl _) (Nat.le_refl _) h
    · have h := ok_fn hc h
      refine aw_run tTX0_robBar 1 (pc2 := 17) (L2 := [(0, .ref 1), (1, .int a1), (2, .int a2)]) (st2 := [.int 1]) rfl ?_
      have h := ok_r h
      exact aw_ir tTX0_robBar rfl rfl rfl (Nat.le_refl _) (Nat.le_refl _) h
theorem s_X0_robBar_1 {g : Nat → Option Nat} {S : List SC} (hS : Wf g S) {σ : St} {a1 : Int32} {a2 : Int32} {r : Int32} (e : f_X0_robBar 1 a1 a2 σ = some r) : Fn MX0_robBar rmX0_robBar [.ref 1, .int a1, .int a2] S σ (some (.int r)) σ := Sp.of (by decide) (Nat.le_of_ble_eq_true rfl) (t_X0_robBar_1 hS a1 a2 ⟨r, e, rfl, rfl, rfl⟩)
set_option maxHeartbeats 4000000 in
set_option maxRecDepth 20000 in
theorem t_X0_robBar_9 {g : Nat → Option Nat} {S : List SC} (hS : Wf g S) {σ : St} {Q : QT} (a1 : Int32) (a2 : Int32) (h : ok (f_X0_robBar 9 a1 a2 σ) (fun r => Q (some (.int r)) S σ)) : AW MX0_robBar E0 rmX0_robBar 0 0 Q 0 0 S σ 0 [(0, .ref 9), (1, .int a1), (2, .int a2)] [] := by
  unfold f_X0_robBar at h
  refine aw_run tTX0_robBar 2 (pc2 := 2) (L2 := [(0, .ref 9), (1, .int a1), (2, .int a2)]) (st2 := [.int a1, .ref 9]) rfl ?_
  obtain ⟨r1, er1, h⟩ := ok_b h
  refine aw_cV tTX0_robBar rfl 5 rfl (M' := MX0_has) (av := [.int a1]) (rest := []) rfl lkX0_58 hMX0_has rfl (w_9 hS) ⟨_, _, rfl⟩ (s_X0_has_9 hS er1) ⟨rfl, rfl, ⟨by decide, by decide⟩, by decide, by decide⟩ (Nat.le_of_ble_eq_true rfl) 46 (wf_len hS) rfl [.int r1] rfl ?_
  refine aw_if_eq tTX0_robBar rfl 16 8 rfl rfl (fun hc => ?_) (fun hc => ?_)
  · have h := ok_t hc h
    refine aw_run tTX0_robBar 1 (pc2 := 17) (L2 := [(0, .ref 9), (1, .int a1), (2, .int a2)]) (st2 := [.int 1]) rfl ?_
    have h := ok_r h
    exact aw_ir tTX0_robBar rfl rfl rfl (Nat.le_refl _) (Nat.le_refl _) h
  · have h := ok_f hc h
    refine aw_run tTX0_robBar 2 (pc2 := 10) (L2 := [(0, .ref 9), (1, .int a1), (2, .int a2)]) (st2 := [.int a2, .ref 9]) rfl ?_
    obtain ⟨r2, er2, h⟩ := ok_b h
    refine aw_cV tTX0_robBar rfl 13 rfl (M' := MX0_has) (av := [.int a2]) (rest := []) rfl lkX0_58 hMX0_has rfl (w_9 hS) ⟨_, _, rfl⟩ (s_X0_has_9 hS er2) ⟨rfl, rfl, ⟨by decide, by decide⟩, by decide, by decide⟩ (Nat.le_of_ble_eq_true rfl) 46 (wf_len hS) rfl [.int r2] rfl ?_
    refine aw_if_ne tTX0_robBar rfl 18 16 rfl rfl (fun hc => ?_) (fun hc => ?_)
    · have h := ok_t hc h
      refine aw_run tTX0_robBar 2 (pc2 := 20) (L2 := [(0, .ref 9), (1, .int a1), (2, .int a2)]) (st2 := [.int a2, .int a1]) rfl ?_
      refine aw_icmp_ne tTX0_robBar rfl 25 23 rfl rfl (fun hc => ?_) (fun hc => ?_)
      · have h := ok_t hc h
        refine aw_run tTX0_robBar 1 (pc2 := 26) (L2 := [(0, .ref 9), (1, .int a1), (2, .int a2)]) (st2 := [.ref 9]) rfl ?_
        refine aw_getR tTX0_robBar rfl 29 rfl (w_9 hS) rfl flX0_21 ?_
        refine aw_run tTX0_robBar 1 (pc2 := 30) (L2 := [(0, .ref 9), (1, .int a1), (2, .int a2)]) (st2 := [.int a1, .ref 13]) rfl ?_
        obtain ⟨hi, h⟩ := ok_gi h
        refine aw_iald tTX0_robBar rfl 31 rfl (w_13 hS) hi ?_
        refine aw_run tTX0_robBar 1 (pc2 := 32) (L2 := [(0, .ref 9), (1, .int a1), (2, .int a2)]) (st2 := [.int a2, .int (σ 13 a1.toNatClampNeg)]) rfl ?_
        obtain ⟨r3, er3, h⟩ := ok_b h
        refine aw_cS tTX0_robBar rfl 35 rfl (M' := MX0_holds) (av := [.int (σ 13 a1.toNatClampNeg), .int a2]) (rest := []) rfl lkX0_68 hMX0_holds rfl (s_X0_holds hS er3) ⟨rfl, rfl, ⟨by decide, by decide⟩, by decide, by decide⟩ (Nat.le_of_ble_eq_true rfl) 46 (wf_len hS) rfl [.int r3] rfl ?_
        refine aw_if_eq tTX0_robBar rfl 40 38 rfl rfl (fun hc => ?_) (fun hc => ?_)
        · have h := ok_t hc h
          refine aw_run tTX0_robBar 1 (pc2 := 41) (L2 := [(0, .ref 9), (1, .int a1), (2, .int a2)]) (st2 := [.ref 9]) rfl ?_
          refine aw_getI tTX0_robBar rfl 44 rfl (w_9 hS) rfl flX0_40 ?_
          refine aw_run tTX0_robBar 1 (pc2 := 45) (L2 := [(0, .ref 9), (1, .int a1), (2, .int a2)]) (st2 := [.int a1, .int (σ 9 9)]) rfl ?_
          obtain ⟨r4, er4, h⟩ := ok_b h
          refine aw_cS tTX0_robBar rfl 48 rfl (M' := MX0_holds) (av := [.int (σ 9 9), .int a1]) (rest := []) rfl lkX0_68 hMX0_holds rfl (s_X0_holds hS er4) ⟨rfl, rfl, ⟨by decide, by decide⟩, by decide, by decide⟩ (Nat.le_of_ble_eq_true rfl) 46 (wf_len hS) rfl [.int r4] rfl ?_
          refine aw_if_eq tTX0_robBar rfl 53 51 rfl rfl (fun hc => ?_) (fun hc => ?_)
          · have h := ok_t hc h
            refine aw_run tTX0_robBar 2 (pc2 := 55) (L2 := [(0, .ref 9), (1, .int a1), (2, .int a2)]) (st2 := [.int a2, .ref 9]) rfl ?_
            obtain ⟨r5, er5, h⟩ := ok_b h
            refine aw_cV tTX0_robBar rfl 58 rfl (M' := MX0_isGuarded) (av := [.int a2]) (rest := []) rfl lkX0_78 hMX0_isGuarded rfl (w_9 hS) ⟨_, _, rfl⟩ (s_X0_isGuarded_9 hS er5) ⟨rfl, rfl, ⟨by decide, by decide⟩, by decide, by decide⟩ (Nat.le_of_ble_eq_true rfl) 46 (wf_len hS) rfl [.int r5] rfl ?_
            refine aw_if_eq tTX0_robBar rfl 63 61 rfl rfl (fun hc => ?_) (fun hc => ?_)
            · have h := ok_t hc h
              refine aw_run tTX0_robBar 1 (pc2 := 64) (L2 := [(0, .ref 9), (1, .int a1), (2, .int a2)]) (st2 := [.ref 9]) rfl ?_
              refine aw_getR tTX0_robBar rfl 67 rfl (w_9 hS) rfl flX0_9 ?_
              refine aw_run tTX0_robBar 1 (pc2 := 68) (L2 := [(0, .ref 9), (1, .int a1), (2, .int a2)]) (st2 := [.int a2, .ref 10]) rfl ?_
              obtain ⟨hi, h⟩ := ok_gi h
              refine aw_iald tTX0_robBar rfl 69 rfl (w_10 hS) hi ?_
              refine aw_if_ne tTX0_robBar rfl 75 72 rfl rfl (fun hc => ?_) (fun hc => ?_)
              · have h := ok_t hc h
                refine aw_run tTX0_robBar 1 (pc2 := 76) (L2 := [(0, .ref 9), (1, .int a1), (2, .int a2)]) (st2 := [.ref 9]) rfl ?_
                refine aw_getI tTX0_robBar rfl 79 rfl (w_9 hS) rfl flX0_49 ?_
                refine aw_if_ne tTX0_robBar rfl 87 82 rfl rfl (fun hc => ?_) (fun hc => ?_)
                · have h := ok_t hc h
                  refine aw_run tTX0_robBar 1 (pc2 := 88) (L2 := [(0, .ref 9), (1, .int a1), (2, .int a2)]) (st2 := [.int 0]) rfl ?_
                  have h := ok_r h
                  exact aw_ir tTX0_robBar rfl rfl rfl (Nat.le_refl _) (Nat.le_refl _) h
                · have h := ok_fn hc h
                  refine aw_run tTX0_robBar 2 (pc2 := 88) (L2 := [(0, .ref 9), (1, .int a1), (2, .int a2)]) (st2 := [.int 7]) rfl ?_
                  have h := ok_r h
                  exact aw_ir tTX0_robBar rfl rfl rfl (Nat.le_refl _) (Nat.le_refl _) h
              · have h := ok_fn hc h
                refine aw_run tTX0_robBar 1 (pc2 := 74) (L2 := [(0, .ref 9), (1, .int a1), (2, .int a2)]) (st2 := [.int 6]) rfl ?_
                have h := ok_r h
                exact aw_ir tTX0_robBar rfl rfl rfl (Nat.le_refl _) (Nat.le_refl _) h
            · have h := ok_f hc h
              refine aw_run tTX0_robBar 1 (pc2 := 62) (L2 := [(0, .ref 9), (1, .int a1), (2, .int a2)]) (st2 := [.int 5]) rfl ?_
              have h := ok_r h
              exact aw_ir tTX0_robBar rfl rfl rfl (Nat.le_refl _) (Nat.le_refl _) h
          · have h := ok_f hc h
            refine aw_run tTX0_robBar 1 (pc2 := 52) (L2 := [(0, .ref 9), (1, .int a1), (2, .int a2)]) (st2 := [.int 4]) rfl ?_
            have h := ok_r h
            exact aw_ir tTX0_robBar rfl rfl rfl (Nat.le_refl _) (Nat.le_refl _) h
        · have h := ok_f hc h
          refine aw_run tTX0_robBar 1 (pc2 := 39) (L2 := [(0, .ref 9), (1, .int a1), (2, .int a2)]) (st2 := [.int 3]) rfl ?_
          have h := ok_r h
          exact aw_ir tTX0_robBar rfl rfl rfl (Nat.le_refl _) (Nat.le_refl _) h
      · have h := ok_fn hc h
        refine aw_run tTX0_robBar 1 (pc2 := 24) (L2 := [(0, .ref 9), (1, .int a1), (2, .int a2)]) (st2 := [.int 2]) rfl ?_
        have h := ok_r h
        exact aw_ir tTX0_robBar rfl rfl rfl (Nat.le_refl _) (Nat.le_refl _) h
    · have h := ok_fn hc h
      refine aw_run tTX0_robBar 1 (pc2 := 17) (L2 := [(0, .ref 9), (1, .int a1), (2, .int a2)]) (st2 := [.int 1]) rfl ?_
      have h := ok_r h
      exact aw_ir tTX0_robBar rfl rfl rfl (Nat.le_refl _) (Nat.le_refl _) h
theorem s_X0_robBar_9 {g : Nat → Option Nat} {S : List SC} (hS : Wf g S) {σ : St} {a1 : Int32} {a2 : Int32} {r : Int32} (e : f_X0_robBar 9 a1 a2 σ = some r) : Fn MX0_robBar rmX0_robBar [.ref 9, .int a1, .int a2] S σ (some (.int r)) σ := Sp.of (by decide) (Nat.le_of_ble_eq_true rfl) (t_X0_robBar_9 hS a1 a2 ⟨r, e, rfl, rfl, rfl⟩)
def f_X0_mayRob (b : Nat) (a1 : Int32) (a2 : Int32) (σ : St) : Option (Int32) := Option.bind (f_X0_hasTwo b a1 a2 σ) (fun r1 => if r1 = 0 then (some (0)) else (gi a1 6 (Option.bind (f_X0_holds (σ (b + 4) a1.toNatClampNeg) a2) (fun r2 => if ¬ r2 = 0 then (some (0)) else (Option.bind (f_X0_isGuarded b a2 σ) (fun r3 => if ¬ r3 = 0 then (some (0)) else (gi a2 6 (if (σ (b + 1) a2.toNatClampNeg) ≤ 0 then (some (0)) else (some (1))))))))))
set_option maxHeartbeats 4000000 in
set_option maxRecDepth 20000 in
theorem t_X0_mayRob {g : Nat → Option Nat} {S : List SC} (hS : Wf g S) {σ : St} {Q : QT} (a1 : Int32) (a2 : Int32) (h : ok (f_X0_mayRob 1 a1 a2 σ) (fun r => Q (some (.int r)) S σ)) : AW MX0_mayRob E0 rmX0_mayRob 0 0 Q 0 0 S σ 0 [(0, .ref 1), (1, .int a1), (2, .int a2)] [] := by
  unfold f_X0_mayRob at h
  refine aw_run tTX0_mayRob 3 (pc2 := 3) (L2 := [(0, .ref 1), (1, .int a1), (2, .int a2)]) (st2 := [.int a2, .int a1, .ref 1]) rfl ?_
  obtain ⟨r1, er1, h⟩ := ok_b h
  refine aw_cV tTX0_mayRob rfl 6 rfl (M' := MX0_hasTwo) (av := [.int a1, .int a2]) (rest := []) rfl lkX0_81 hMX0_hasTwo rfl (w_1 hS) ⟨_, _, rfl⟩ (s_X0_hasTwo hS er1) ⟨rfl, rfl, ⟨by decide, by decide⟩, by decide, by decide⟩ (Nat.le_of_ble_eq_true rfl) 46 (wf_len hS) rfl [.int r1] rfl ?_
  refine aw_if_eq tTX0_mayRob rfl 43 9 rfl rfl (fun hc => ?_) (fun hc => ?_)
  · have h := ok_t hc h
    refine aw_run tTX0_mayRob 1 (pc2 := 44) (L2 := [(0, .ref 1), (1, .int a1), (2, .int a2)]) (st2 := [.int 0]) rfl ?_
    have h := ok_r h
    exact aw_ir tTX0_mayRob rfl rfl rfl (Nat.le_refl _) (Nat.le_refl _) h
  · have h := ok_f hc h
    refine aw_run tTX0_mayRob 1 (pc2 := 10) (L2 := [(0, .ref 1), (1, .int a1), (2, .int a2)]) (st2 := [.ref 1]) rfl ?_
    refine aw_getR tTX0_mayRob rfl 13 rfl (w_1 hS) rfl flX0_21 ?_
    refine aw_run tTX0_mayRob 1 (pc2 := 14) (L2 := [(0, .ref 1), (1, .int a1), (2, .int a2)]) (st2 := [.int a1, .ref 5]) rfl ?_
    obtain ⟨hi, h⟩ := ok_gi h
    refine aw_iald tTX0_mayRob rfl 15 rfl (w_5 hS) hi ?_
    refine aw_run tTX0_mayRob 1 (pc2 := 16) (L2 := [(0, .ref 1), (1, .int a1), (2, .int a2)]) (st2 := [.int a2, .int (σ 5 a1.toNatClampNeg)]) rfl ?_
    obtain ⟨r2, er2, h⟩ := ok_b h
    refine aw_cS tTX0_mayRob rfl 19 rfl (M' := MX0_holds) (av := [.int (σ 5 a1.toNatClampNeg), .int a2]) (rest := []) rfl lkX0_68 hMX0_holds rfl (s_X0_holds hS er2) ⟨rfl, rfl, ⟨by decide, by decide⟩, by decide, by decide⟩ (Nat.le_of_ble_eq_true rfl) 46 (wf_len hS) rfl [.int r2] rfl ?_
    refine aw_if_ne tTX0_mayRob rfl 43 22 rfl rfl (fun hc => ?_) (fun hc => ?_)
    · have h := ok_t hc h
      refine aw_run tTX0_mayRob 1 (pc2 := 44) (L2 := [(0, .ref 1), (1, .int a1), (2, .int a2)]) (st2 := [.int 0]) rfl ?_
      have h := ok_r h
      exact aw_ir tTX0_mayRob rfl rfl rfl (Nat.le_refl _) (Nat.le_refl _) h
    · have h := ok_fn hc h
      refine aw_run tTX0_mayRob 2 (pc2 := 24) (L2 := [(0, .ref 1), (1, .int a1), (2, .int a2)]) (st2 := [.int a2, .ref 1]) rfl ?_
      obtain ⟨r3, er3, h⟩ := ok_b h
      refine aw_cV tTX0_mayRob rfl 27 rfl (M' := MX0_isGuarded) (av := [.int a2]) (rest := []) rfl lkX0_78 hMX0_isGuarded rfl (w_1 hS) ⟨_, _, rfl⟩ (s_X0_isGuarded_1 hS er3) ⟨rfl, rfl, ⟨by decide, by decide⟩, by decide, by decide⟩ (Nat.le_of_ble_eq_true rfl) 46 (wf_len hS) rfl [.int r3] rfl ?_
      refine aw_if_ne tTX0_mayRob rfl 43 30 rfl rfl (fun hc => ?_) (fun hc => ?_)
      · have h := ok_t hc h
        refine aw_run tTX0_mayRob 1 (pc2 := 44) (L2 := [(0, .ref 1), (1, .int a1), (2, .int a2)]) (st2 := [.int 0]) rfl ?_
        have h := ok_r h
        exact aw_ir tTX0_mayRob rfl rfl rfl (Nat.le_refl _) (Nat.le_refl _) h
      · have h := ok_fn hc h
        refine aw_run tTX0_mayRob 1 (pc2 := 31) (L2 := [(0, .ref 1), (1, .int a1), (2, .int a2)]) (st2 := [.ref 1]) rfl ?_
        refine aw_getR tTX0_mayRob rfl 34 rfl (w_1 hS) rfl flX0_9 ?_
        refine aw_run tTX0_mayRob 1 (pc2 := 35) (L2 := [(0, .ref 1), (1, .int a1), (2, .int a2)]) (st2 := [.int a2, .ref 2]) rfl ?_
        obtain ⟨hi, h⟩ := ok_gi h
        refine aw_iald tTX0_mayRob rfl 36 rfl (w_2 hS) hi ?_
        refine aw_if_le tTX0_mayRob rfl 43 39 rfl rfl (fun hc => ?_) (fun hc => ?_)
        · have h := ok_t hc h
          refine aw_run tTX0_mayRob 1 (pc2 := 44) (L2 := [(0, .ref 1), (1, .int a1), (2, .int a2)]) (st2 := [.int 0]) rfl ?_
          have h := ok_r h
          exact aw_ir tTX0_mayRob rfl rfl rfl (Nat.le_refl _) (Nat.le_refl _) h
        · have h := ok_f hc h
          refine aw_run tTX0_mayRob 2 (pc2 := 44) (L2 := [(0, .ref 1), (1, .int a1), (2, .int a2)]) (st2 := [.int 1]) rfl ?_
          have h := ok_r h
          exact aw_ir tTX0_mayRob rfl rfl rfl (Nat.le_refl _) (Nat.le_refl _) h
theorem s_X0_mayRob {g : Nat → Option Nat} {S : List SC} (hS : Wf g S) {σ : St} {a1 : Int32} {a2 : Int32} {r : Int32} (e : f_X0_mayRob 1 a1 a2 σ = some r) : Fn MX0_mayRob rmX0_mayRob [.ref 1, .int a1, .int a2] S σ (some (.int r)) σ := Sp.of (by decide) (Nat.le_of_ble_eq_true rfl) (t_X0_mayRob hS a1 a2 ⟨r, e, rfl, rfl, rfl⟩)
def l_X0_canRobNow_4 (b : Nat) (a1 : Int32) (σ : St) (y1 : Int32) (y2 : Int32) : Option ((Int32 × Int32) ⊕ (Int32)) := if 6 ≤ y2 then (some (.inr y1)) else (Option.bind (f_X0_robBar b a1 y2 σ) (fun r4 => Option.bind (α := Int32) (if ¬ r4 = 0 then (some y1) else (nm (y1 ||| ((1 : Int32) <<< (y2 &&& 31))) (fun (x6 : Int32) => some x6))) (fun (j5 : Int32) => some (.inl (j5, y2 + 1)))))
def f_X0_canRobNow (b : Nat) (a1 : Int32) (σ : St) : Option (Int32) := Option.bind (loop (fun s : Int32 × Int32 => l_X0_canRobNow_4 b a1 σ s.1 s.2) 400 (0, 0)) (fun (z3 : Int32) => some (z3))
set_option maxHeartbeats 4000000 in
set_option maxRecDepth 20000 in
theorem t_X0_canRobNow {g : Nat → Option Nat} {S : List SC} (hS : Wf g S) {σ : St} {Q : QT} (a1 : Int32) (h : ok (f_X0_canRobNow 1 a1 σ) (fun r => Q (some (.int r)) S σ)) : AW MX0_canRobNow E0 rmX0_canRobNow 0 0 Q 0 0 S σ 0 [(0, .ref 1), (1, .int a1)] [] := by
  unfold f_X0_canRobNow at h
  refine aw_run tTX0_canRobNow 4 (pc2 := 4) (L2 := [(3, .int 0), (2, .int 0), (0, .ref 1), (1, .int a1)]) (st2 := []) rfl ?_
  refine ok_use (P := fun z3 : Int32 => AW MX0_canRobNow E0 rmX0_canRobNow 0 0 Q 0 0 S σ 31 [(2, .int z3)] []) (ok_b h) (fun z3 h => ?_) (fun h => ?_)
  · refine aw_run tTX0_canRobNow 1 (pc2 := 32) (L2 := [(2, .int z3)]) (st2 := [.int z3]) rfl ?_
    have h := ok_r h
    exact aw_ir tTX0_canRobNow rfl rfl rfl (Nat.le_refl _) (Nat.le_refl _) h
  · refine aw_sub [2, 3, 1, 0] rfl ?_
    refine loop_P (P := fun s : Int32 × Int32 => AW MX0_canRobNow E0 rmX0_canRobNow 0 0 Q 0 0 S σ 4 [(0, .ref 1), (1, .int a1), (2, .int s.1), (3, .int s.2)] []) (fun s h => ?_) _ _ h
    obtain ⟨y1, y2⟩ := s
    replace h : ok (l_X0_canRobNow_4 1 a1 σ y1 y2) _ := h
    unfold l_X0_canRobNow_4 at h
    show AW MX0_canRobNow E0 rmX0_canRobNow 0 0 Q 0 0 S σ 4 [(0, .ref 1), (1, .int a1), (2, .int y1), (3, .int y2)] []
    refine aw_run tTX0_canRobNow 2 (pc2 := 7) (L2 := [(0, .ref 1), (1, .int a1), (2, .int y1), (3, .int y2)]) (st2 := [.int 6, .int y2]) rfl ?_
    refine aw_icmp_ge tTX0_canRobNow rfl 31 10 rfl rfl (fun hc => ?_) (fun hc => ?_)
    · have h := ok_t hc h
      refine aw_sub [2] rfl ?_
      have h := ok_r h
      exact h
    · have h := ok_f hc h
      refine aw_run tTX0_canRobNow 3 (pc2 := 13) (L2 := [(0, .ref 1), (1, .int a1), (2, .int y1), (3, .int y2)]) (st2 := [.int y2, .int a1, .ref 1]) rfl ?_
      obtain ⟨r4, er4, h⟩ := ok_b h
      refine aw_cV tTX0_canRobNow rfl 16 rfl (M' := MX0_robBar) (av := [.int a1, .int y2]) (rest := []) rfl lkX0_84 hMX0_robBar rfl (w_1 hS) ⟨_, _, rfl⟩ (s_X0_robBar_1 hS er4) ⟨rfl, rfl, ⟨by decide, by decide⟩, by decide, by decide⟩ (Nat.le_of_ble_eq_true rfl) 46 (wf_len hS) rfl [.int r4] rfl ?_
      refine ok_use (P := fun j5 : Int32 => AW MX0_canRobNow E0 rmX0_canRobNow 0 0 Q 0 0 S σ 25 [(0, .ref 1), (1, .int a1), (2, .int j5), (3, .int y2)] []) (ok_b h) (fun j5 h => ?_) (fun h => ?_)
      · refine aw_run tTX0_canRobNow 2 (pc2 := 4) (L2 := [(3, .int (y2 + 1)), (0, .ref 1), (1, .int a1), (2, .int j5)]) (st2 := []) rfl ?_
        refine aw_sub [1, 2, 3, 0] rfl ?_
        have h := ok_r h
        exact h
      · refine aw_if_ne tTX0_canRobNow rfl 25 19 rfl rfl (fun hc => ?_) (fun hc => ?_)
        · have h := ok_t hc h
          refine aw_sub [0, 1, 2, 3] rfl ?_
          have h := ok_r h
          exact h
        · have h := ok_fn hc h
          refine aw_run tTX0_canRobNow 5 (pc2 := 24) (L2 := [(0, .ref 1), (1, .int a1), (2, .int y1), (3, .int y2)]) (st2 := [.int (y1 ||| ((1 : Int32) <<< (y2 &&& 31)))]) rfl ?_
          refine aw_nm (fun x6 ex6 => ?_)
          have h := ok_nm h x6 ex6
          refine aw_run tTX0_canRobNow 1 (pc2 := 25) (L2 := [(2, .int x6), (0, .ref 1), (1, .int a1), (3, .int y2)]) (st2 := []) rfl ?_
          refine aw_sub [1, 2, 0, 3] rfl ?_
          have h := ok_r h
          exact h
theorem s_X0_canRobNow {g : Nat → Option Nat} {S : List SC} (hS : Wf g S) {σ : St} {a1 : Int32} {r : Int32} (e : f_X0_canRobNow 1 a1 σ = some r) : Fn MX0_canRobNow rmX0_canRobNow [.ref 1, .int a1] S σ (some (.int r)) σ := Sp.of (by decide) (Nat.le_of_ble_eq_true rfl) (t_X0_canRobNow hS a1 ⟨r, e, rfl, rfl, rfl⟩)
def l_X0_mayRobOf_4 (b : Nat) (a1 : Int32) (σ : St) (y1 : Int32) (y2 : Int32) : Option ((Int32 × Int32) ⊕ (Int32)) := if 6 ≤ y2 then (some (.inr y1)) else (Option.bind (f_X0_mayRob b a1 y2 σ) (fun r4 => Option.bind (α := Int32) (if r4 = 0 then (some y1) else (nm (y1 ||| ((1 : Int32) <<< (y2 &&& 31))) (fun (x6 : Int32) => some x6))) (fun (j5 : Int32) => some (.inl (j5, y2 + 1)))))
def f_X0_mayRobOf (b : Nat) (a1 : Int32) (σ : St) : Option (Int32) := Option.bind (loop (fun s : Int32 × Int32 => l_X0_mayRobOf_4 b a1 σ s.1 s.2) 400 (0, 0)) (fun (z3 : Int32) => some (z3))
set_option maxHeartbeats 4000000 in
set_option maxRecDepth 20000 in
theorem t_X0_mayRobOf {g : Nat → Option Nat} {S : List SC} (hS : Wf g S) {σ : St} {Q : QT} (a1 : Int32) (h : ok (f_X0_mayRobOf 1 a1 σ) (fun r => Q (some (.int r)) S σ)) : AW MX0_mayRobOf E0 rmX0_mayRobOf 0 0 Q 0 0 S σ 0 [(0, .ref 1), (1, .int a1)] [] := by
  unfold f_X0_mayRobOf at h
  refine aw_run tTX0_mayRobOf 4 (pc2 := 4) (L2 := [(3, .int 0), (2, .int 0), (0, .ref 1), (1, .int a1)]) (st2 := []) rfl ?_
  refine ok_use (P := fun z3 : Int32 => AW MX0_mayRobOf E0 rmX0_mayRobOf 0 0 Q 0 0 S σ 31 [(2, .int z3)] []) (ok_b h) (fun z3 h => ?_) (fun h => ?_)
  · refine aw_run tTX0_mayRobOf 1 (pc2 := 32) (L2 := [(2, .int z3)]) (st2 := [.int z3]) rfl ?_
    have h := ok_r h
    exact aw_ir tTX0_mayRobOf rfl rfl rfl (Nat.le_refl _) (Nat.le_refl _) h
  · refine aw_sub [2, 3, 1, 0] rfl ?_
    refine loop_P (P := fun s : Int32 × Int32 => AW MX0_mayRobOf E0 rmX0_mayRobOf 0 0 Q 0 0 S σ 4 [(0, .ref 1), (1, .int a1), (2, .int s.1), (3, .int s.2)] []) (fun s h => ?_) _ _ h
    obtain ⟨y1, y2⟩ := s
    replace h : ok (l_X0_mayRobOf_4 1 a1 σ y1 y2) _ := h
    unfold l_X0_mayRobOf_4 at h
    show AW MX0_mayRobOf E0 rmX0_mayRobOf 0 0 Q 0 0 S σ 4 [(0, .ref 1), (1, .int a1), (2, .int y1), (3, .int y2)] []
    refine aw_run tTX0_mayRobOf 2 (pc2 := 7) (L2 := [(0, .ref 1), (1, .int a1), (2, .int y1), (3, .int y2)]) (st2 := [.int 6, .int y2]) rfl ?_
    refine aw_icmp_ge tTX0_mayRobOf rfl 31 10 rfl rfl (fun hc => ?_) (fun hc => ?_)
    · have h := ok_t hc h
      refine aw_sub [2] rfl ?_
      have h := ok_r h
      exact h
    · have h := ok_f hc h
      refine aw_run tTX0_mayRobOf 3 (pc2 := 13) (L2 := [(0, .ref 1), (1, .int a1), (2, .int y1), (3, .int y2)]) (st2 := [.int y2, .int a1, .ref 1]) rfl ?_
      obtain ⟨r4, er4, h⟩ := ok_b h
      refine aw_cV tTX0_mayRobOf rfl 16 rfl (M' := MX0_mayRob) (av := [.int a1, .int y2]) (rest := []) rfl lkX0_87 hMX0_mayRob rfl (w_1 hS) ⟨_, _, rfl⟩ (s_X0_mayRob hS er4) ⟨rfl, rfl, ⟨by decide, by decide⟩, by decide, by decide⟩ (Nat.le_of_ble_eq_true rfl) 46 (wf_len hS) rfl [.int r4] rfl ?_
      refine ok_use (P := fun j5 : Int32 => AW MX0_mayRobOf E0 rmX0_mayRobOf 0 0 Q 0 0 S σ 25 [(0, .ref 1), (1, .int a1), (2, .int j5), (3, .int y2)] []) (ok_b h) (fun j5 h => ?_) (fun h => ?_)
      · refine aw_run tTX0_mayRobOf 2 (pc2 := 4) (L2 := [(3, .int (y2 + 1)), (0, .ref 1), (1, .int a1), (2, .int j5)]) (st2 := []) rfl ?_
        refine aw_sub [1, 2, 3, 0] rfl ?_
        have h := ok_r h
        exact h
      · refine aw_if_eq tTX0_mayRobOf rfl 25 19 rfl rfl (fun hc => ?_) (fun hc => ?_)
        · have h := ok_t hc h
          refine aw_sub [0, 1, 2, 3] rfl ?_
          have h := ok_r h
          exact h
        · have h := ok_f hc h
          refine aw_run tTX0_mayRobOf 5 (pc2 := 24) (L2 := [(0, .ref 1), (1, .int a1), (2, .int y1), (3, .int y2)]) (st2 := [.int (y1 ||| ((1 : Int32) <<< (y2 &&& 31)))]) rfl ?_
          refine aw_nm (fun x6 ex6 => ?_)
          have h := ok_nm h x6 ex6
          refine aw_run tTX0_mayRobOf 1 (pc2 := 25) (L2 := [(2, .int x6), (0, .ref 1), (1, .int a1), (3, .int y2)]) (st2 := []) rfl ?_
          refine aw_sub [1, 2, 0, 3] rfl ?_
          have h := ok_r h
          exact h
theorem s_X0_mayRobOf {g : Nat → Option Nat} {S : List SC} (hS : Wf g S) {σ : St} {a1 : Int32} {r : Int32} (e : f_X0_mayRobOf 1 a1 σ = some r) : Fn MX0_mayRobOf rmX0_mayRobOf [.ref 1, .int a1] S σ (some (.int r)) σ := Sp.of (by decide) (Nat.le_of_ble_eq_true rfl) (t_X0_mayRobOf hS a1 ⟨r, e, rfl, rfl, rfl⟩)
def l_X0_thievesOf_4 (b : Nat) (a1 : Int32) (σ : St) (y1 : Int32) (y2 : Int32) : Option ((Int32 × Int32) ⊕ (Int32)) := if 6 ≤ y2 then (some (.inr y1)) else (Option.bind (f_X0_mayRob b y2 a1 σ) (fun r4 => Option.bind (α := Int32) (if r4 = 0 then (some y1) else (nm (y1 ||| ((1 : Int32) <<< (y2 &&& 31))) (fun (x6 : Int32) => some x6))) (fun (j5 : Int32) => some (.inl (j5, y2 + 1)))))
def f_X0_thievesOf (b : Nat) (a1 : Int32) (σ : St) : Option (Int32) := Option.bind (loop (fun s : Int32 × Int32 => l_X0_thievesOf_4 b a1 σ s.1 s.2) 400 (0, 0)) (fun (z3 : Int32) => some (z3))
set_option maxHeartbeats 4000000 in
set_option maxRecDepth 20000 in
theorem t_X0_thievesOf {g : Nat → Option Nat} {S : List SC} (hS : Wf g S) {σ : St} {Q : QT} (a1 : Int32) (h : ok (f_X0_thievesOf 1 a1 σ) (fun r => Q (some (.int r)) S σ)) : AW MX0_thievesOf E0 rmX0_thievesOf 0 0 Q 0 0 S σ 0 [(0, .ref 1), (1, .int a1)] [] := by
  unfold f_X0_thievesOf at h
  refine aw_run tTX0_thievesOf 4 (pc2 := 4) (L2 := [(3, .int 0), (2, .int 0), (0, .ref 1), (1, .int a1)]) (st2 := []) rfl ?_
  refine ok_use (P := fun z3 : Int32 => AW MX0_thievesOf E0 rmX0_thievesOf 0 0 Q 0 0 S σ 31 [(2, .int z3)] []) (ok_b h) (fun z3 h => ?_) (fun h => ?_)
  · refine aw_run tTX0_thievesOf 1 (pc2 := 32) (L2 := [(2, .int z3)]) (st2 := [.int z3]) rfl ?_
    have h := ok_r h
    exact aw_ir tTX0_thievesOf rfl rfl rfl (Nat.le_refl _) (Nat.le_refl _) h
  · refine aw_sub [2, 3, 1, 0] rfl ?_
    refine loop_P (P := fun s : Int32 × Int32 => AW MX0_thievesOf E0 rmX0_thievesOf 0 0 Q 0 0 S σ 4 [(0, .ref 1), (1, .int a1), (2, .int s.1), (3, .int s.2)] []) (fun s h => ?_) _ _ h
    obtain ⟨y1, y2⟩ := s
    replace h : ok (l_X0_thievesOf_4 1 a1 σ y1 y2) _ := h
    unfold l_X0_thievesOf_4 at h
    show AW MX0_thievesOf E0 rmX0_thievesOf 0 0 Q 0 0 S σ 4 [(0, .ref 1), (1, .int a1), (2, .int y1), (3, .int y2)] []
    refine aw_run tTX0_thievesOf 2 (pc2 := 7) (L2 := [(0, .ref 1), (1, .int a1), (2, .int y1), (3, .int y2)]) (st2 := [.int 6, .int y2]) rfl ?_
    refine aw_icmp_ge tTX0_thievesOf rfl 31 10 rfl rfl (fun hc => ?_) (fun hc => ?_)
    · have h := ok_t hc h
      refine aw_sub [2] rfl ?_
      have h := ok_r h
      exact h
    · have h := ok_f hc h
      refine aw_run tTX0_thievesOf 3 (pc2 := 13) (L2 := [(0, .ref 1), (1, .int a1), (2, .int y1), (3, .int y2)]) (st2 := [.int a1, .int y2, .ref 1]) rfl ?_
      obtain ⟨r4, er4, h⟩ := ok_b h
      refine aw_cV tTX0_thievesOf rfl 16 rfl (M' := MX0_mayRob) (av := [.int y2, .int a1]) (rest := []) rfl lkX0_87 hMX0_mayRob rfl (w_1 hS) ⟨_, _, rfl⟩ (s_X0_mayRob hS er4) ⟨rfl, rfl, ⟨by decide, by decide⟩, by decide, by decide⟩ (Nat.le_of_ble_eq_true rfl) 46 (wf_len hS) rfl [.int r4] rfl ?_
      refine ok_use (P := fun j5 : Int32 => AW MX0_thievesOf E0 rmX0_thievesOf 0 0 Q 0 0 S σ 25 [(0, .ref 1), (1, .int a1), (2, .int j5), (3, .int y2)] []) (ok_b h) (fun j5 h => ?_) (fun h => ?_)
      · refine aw_run tTX0_thievesOf 2 (pc2 := 4) (L2 := [(3, .int (y2 + 1)), (0, .ref 1), (1, .int a1), (2, .int j5)]) (st2 := []) rfl ?_
        refine aw_sub [1, 2, 3, 0] rfl ?_
        have h := ok_r h
        exact h
      · refine aw_if_eq tTX0_thievesOf rfl 25 19 rfl rfl (fun hc => ?_) (fun hc => ?_)
        · have h := ok_t hc h
          refine aw_sub [0, 1, 2, 3] rfl ?_
          have h := ok_r h
          exact h
        · have h := ok_f hc h
          refine aw_run tTX0_thievesOf 5 (pc2 := 24) (L2 := [(0, .ref 1), (1, .int a1), (2, .int y1), (3, .int y2)]) (st2 := [.int (y1 ||| ((1 : Int32) <<< (y2 &&& 31)))]) rfl ?_
          refine aw_nm (fun x6 ex6 => ?_)
          have h := ok_nm h x6 ex6
          refine aw_run tTX0_thievesOf 1 (pc2 := 25) (L2 := [(2, .int x6), (0, .ref 1), (1, .int a1), (3, .int y2)]) (st2 := []) rfl ?_
          refine aw_sub [1, 2, 0, 3] rfl ?_
          have h := ok_r h
          exact h
theorem s_X0_thievesOf {g : Nat → Option Nat} {S : List SC} (hS : Wf g S) {σ : St} {a1 : Int32} {r : Int32} (e : f_X0_thievesOf 1 a1 σ = some r) : Fn MX0_thievesOf rmX0_thievesOf [.ref 1, .int a1] S σ (some (.int r)) σ := Sp.of (by decide) (Nat.le_of_ble_eq_true rfl) (t_X0_thievesOf hS a1 ⟨r, e, rfl, rfl, rfl⟩)
def f_X0_catchBar (b : Nat) (a1 : Int32) (σ : St) : Option (Int32) := Option.bind (f_X0_has b a1 σ) (fun r1 => if ¬ r1 = 0 then (Option.bind (f_X0_holds (σ b 9) a1) (fun r2 => if r2 = 0 then (some (8)) else (gi a1 6 (Option.bind (f_X0_has b (σ (b + 5) a1.toNatClampNeg) σ) (fun r3 => if r3 = 0 then (some (8)) else (some (0))))))) else (some (1)))
set_option maxHeartbeats 4000000 in
set_option maxRecDepth 20000 in
theorem t_X0_catchBar {g : Nat → Option Nat} {S : List SC} (hS : Wf g S) {σ : St} {Q : QT} (a1 : Int32) (h : ok (f_X0_catchBar 9 a1 σ) (fun r => Q (some (.int r)) S σ)) : AW MX0_catchBar E0 rmX0_catchBar 0 0 Q 0 0 S σ 0 [(0, .ref 9), (1, .int a1)] [] := by
  unfold f_X0_catchBar at h
  refine aw_run tTX0_catchBar 2 (pc2 := 2) (L2 := [(0, .ref 9), (1, .int a1)]) (st2 := [.int a1, .ref 9]) rfl ?_
  obtain ⟨r1, er1, h⟩ := ok_b h
  refine aw_cV tTX0_catchBar rfl 5 rfl (M' := MX0_has) (av := [.int a1]) (rest := []) rfl lkX0_58 hMX0_has rfl (w_9 hS) ⟨_, _, rfl⟩ (s_X0_has_9 hS er1) ⟨rfl, rfl, ⟨by decide, by decide⟩, by decide, by decide⟩ (Nat.le_of_ble_eq_true rfl) 46 (wf_len hS) rfl [.int r1] rfl ?_
  refine aw_if_ne tTX0_catchBar rfl 10 8 rfl rfl (fun hc => ?_) (fun hc => ?_)
  · have h := ok_t hc h
    refine aw_run tTX0_catchBar 1 (pc2 := 11) (L2 := [(0, .ref 9), (1, .int a1)]) (st2 := [.ref 9]) rfl ?_
    refine aw_getI tTX0_catchBar rfl 14 rfl (w_9 hS) rfl flX0_40 ?_
    refine aw_run tTX0_catchBar 1 (pc2 := 15) (L2 := [(0, .ref 9), (1, .int a1)]) (st2 := [.int a1, .int (σ 9 9)]) rfl ?_
    obtain ⟨r2, er2, h⟩ := ok_b h
    refine aw_cS tTX0_catchBar rfl 18 rfl (M' := MX0_holds) (av := [.int (σ 9 9), .int a1]) (rest := []) rfl lkX0_68 hMX0_holds rfl (s_X0_holds hS er2) ⟨rfl, rfl, ⟨by decide, by decide⟩, by decide, by decide⟩ (Nat.le_of_ble_eq_true rfl) 46 (wf_len hS) rfl [.int r2] rfl ?_
    refine aw_if_eq tTX0_catchBar rfl 38 21 rfl rfl (fun hc => ?_) (fun hc => ?_)
    · have h := ok_t hc h
      refine aw_run tTX0_catchBar 1 (pc2 := 40) (L2 := [(0, .ref 9), (1, .int a1)]) (st2 := [.int 8]) rfl ?_
      have h := ok_r h
      exact aw_ir tTX0_catchBar rfl rfl rfl (Nat.le_refl _) (Nat.le_refl _) h
    · have h := ok_f hc h
      refine aw_run tTX0_catchBar 2 (pc2 := 23) (L2 := [(0, .ref 9), (1, .int a1)]) (st2 := [.ref 9, .ref 9]) rfl ?_
      refine aw_getR tTX0_catchBar rfl 26 rfl (w_9 hS) rfl flX0_24 ?_
      refine aw_run tTX0_catchBar 1 (pc2 := 27) (L2 := [(0, .ref 9), (1, .int a1)]) (st2 := [.int a1, .ref 14, .ref 9]) rfl ?_
      obtain ⟨hi, h⟩ := ok_gi h
      refine aw_iald tTX0_catchBar rfl 28 rfl (w_14 hS) hi ?_
      obtain ⟨r3, er3, h⟩ := ok_b h
      refine aw_cV tTX0_catchBar rfl 31 rfl (M' := MX0_has) (av := [.int (σ 14 a1.toNatClampNeg)]) (rest := []) rfl lkX0_58 hMX0_has rfl (w_9 hS) ⟨_, _, rfl⟩ (s_X0_has_9 hS er3) ⟨rfl, rfl, ⟨by decide, by decide⟩, by decide, by decide⟩ (Nat.le_of_ble_eq_true rfl) 46 (wf_len hS) rfl [.int r3] rfl ?_
      refine aw_if_eq tTX0_catchBar rfl 38 34 rfl rfl (fun hc => ?_) (fun hc => ?_)
      · have h := ok_t hc h
        refine aw_run tTX0_catchBar 1 (pc2 := 40) (L2 := [(0, .ref 9), (1, .int a1)]) (st2 := [.int 8]) rfl ?_
        have h := ok_r h
        exact aw_ir tTX0_catchBar rfl rfl rfl (Nat.le_refl _) (Nat.le_refl _) h
      · have h := ok_f hc h
        refine aw_run tTX0_catchBar 2 (pc2 := 40) (L2 := [(0, .ref 9), (1, .int a1)]) (st2 := [.int 0]) rfl ?_
        have h := ok_r h
        exact aw_ir tTX0_catchBar rfl rfl rfl (Nat.le_refl _) (Nat.le_refl _) h
  · have h := ok_fn hc h
    refine aw_run tTX0_catchBar 1 (pc2 := 9) (L2 := [(0, .ref 9), (1, .int a1)]) (st2 := [.int 1]) rfl ?_
    have h := ok_r h
    exact aw_ir tTX0_catchBar rfl rfl rfl (Nat.le_refl _) (Nat.le_refl _) h
theorem s_X0_catchBar {g : Nat → Option Nat} {S : List SC} (hS : Wf g S) {σ : St} {a1 : Int32} {r : Int32} (e : f_X0_catchBar 9 a1 σ = some r) : Fn MX0_catchBar rmX0_catchBar [.ref 9, .int a1] S σ (some (.int r)) σ := Sp.of (by decide) (Nat.le_of_ble_eq_true rfl) (t_X0_catchBar hS a1 ⟨r, e, rfl, rfl, rfl⟩)
def f_X0_actBar (b : Nat) (a1 : Int32) (a2 : Int32) (a3 : Int32) (σ : St) : Option (Int32) := if a1 = 0 then (Option.bind (f_X0_robBar b a2 a3 σ) (fun r1 => some (r1))) else (if a1 = 33 then (Option.bind (f_X0_catchBar b a2 σ) (fun r2 => some (r2))) else (if a1 = 36 then (some (0)) else (if a1 = 46 then (if ¬ (σ b 12) = 0 then (some (0)) else (some (7))) else (Option.bind (f_X0_has b a2 σ) (fun r3 => if r3 = 0 then (some (1)) else (some (0)))))))
set_option maxHeartbeats 4000000 in
set_option maxRecDepth 20000 in
theorem t_X0_actBar {g : Nat → Option Nat} {S : List SC} (hS : Wf g S) {σ : St} {Q : QT} (a1 : Int32) (a2 : Int32) (a3 : Int32) (h : ok (f_X0_actBar 9 a1 a2 a3 σ) (fun r => Q (some (.int r)) S σ)) : AW MX0_actBar E0 rmX0_actBar 0 0 Q 0 0 S σ 0 [(0, .ref 9), (1, .int a1), (2, .int a2), (3, .int a3)] [] := by
  unfold f_X0_actBar at h
  refine aw_run tTX0_actBar 1 (pc2 := 1) (L2 := [(0, .ref 9), (1, .int a1), (2, .int a2), (3, .int a3)]) (st2 := [.int a1]) rfl ?_
  by_cases hc0 : a1 = 0
  · have h := ok_t hc0 h
    refine aw_lookupK (off := 43) tTX0_actBar rfl 0 hc0 (by decide) rfl 44 rfl ?_
    refine aw_run tTX0_actBar 3 (pc2 := 47) (L2 := [(0, .ref 9), (1, .int a1), (2, .int a2), (3, .int a3)]) (st2 := [.int a3, .int a2, .ref 9]) rfl ?_
    obtain ⟨r1, er1, h⟩ := ok_b h
    refine aw_cV tTX0_actBar rfl 50 rfl (M' := MX0_robBar) (av := [.int a2, .int a3]) (rest := []) rfl lkX0_84 hMX0_robBar rfl (w_9 hS) ⟨_, _, rfl⟩ (s_X0_robBar_9 hS er1) ⟨rfl, rfl, ⟨by decide, by decide⟩, by decide, by decide⟩ (Nat.le_of_ble_eq_true rfl) 46 (wf_len hS) rfl [.int r1] rfl ?_
    have h := ok_r h
    exact aw_ir tTX0_actBar rfl rfl rfl (Nat.le_refl _) (Nat.le_refl _) h
  · have h := ok_f hc0 h
    by_cases hc33 : a1 = 33
    · have h := ok_t hc33 h
      refine aw_lookupK (off := 50) tTX0_actBar rfl 33 hc33 (by decide) rfl 51 rfl ?_
      refine aw_run tTX0_actBar 2 (pc2 := 53) (L2 := [(0, .ref 9), (1, .int a1), (2, .int a2), (3, .int a3)]) (st2 := [.int a2, .ref 9]) rfl ?_
      obtain ⟨r2, er2, h⟩ := ok_b h
      refine aw_cV tTX0_actBar rfl 56 rfl (M' := MX0_catchBar) (av := [.int a2]) (rest := []) rfl lkX0_90 hMX0_catchBar rfl (w_9 hS) ⟨_, _, rfl⟩ (s_X0_catchBar hS er2) ⟨rfl, rfl, ⟨by decide, by decide⟩, by decide, by decide⟩ (Nat.le_of_ble_eq_true rfl) 46 (wf_len hS) rfl [.int r2] rfl ?_
      have h := ok_r h
      exact aw_ir tTX0_actBar rfl rfl rfl (Nat.le_refl _) (Nat.le_refl _) h
    · have h := ok_f hc33 h
      by_cases hc36 : a1 = 36
      · have h := ok_t hc36 h
        refine aw_lookupK (off := 70) tTX0_actBar rfl 36 hc36 (by decide) rfl 71 rfl ?_
        refine aw_run tTX0_actBar 1 (pc2 := 72) (L2 := [(0, .ref 9), (1, .int a1), (2, .int a2), (3, .int a3)]) (st2 := [.int 0]) rfl ?_
        have h := ok_r h
        exact aw_ir tTX0_actBar rfl rfl rfl (Nat.le_refl _) (Nat.le_refl _) h
      · have h := ok_f hc36 h
        by_cases hc46 : a1 = 46
        · have h := ok_t hc46 h
          refine aw_lookupK (off := 56) tTX0_actBar rfl 46 hc46 (by decide) rfl 57 rfl ?_
          refine aw_run tTX0_actBar 1 (pc2 := 58) (L2 := [(0, .ref 9), (1, .int a1), (2, .int a2), (3, .int a3)]) (st2 := [.ref 9]) rfl ?_
          refine aw_getI tTX0_actBar rfl 61 rfl (w_9 hS) rfl flX0_49 ?_
          refine aw_if_ne tTX0_actBar rfl 69 64 rfl rfl (fun hc => ?_) (fun hc => ?_)
          · have h := ok_t hc h
            refine aw_run tTX0_actBar 1 (pc2 := 70) (L2 := [(0, .ref 9), (1, .int a1), (2, .int a2), (3, .int a3)]) (st2 := [.int 0]) rfl ?_
            have h := ok_r h
            exact aw_ir tTX0_actBar rfl rfl rfl (Nat.le_refl _) (Nat.le_refl _) h
          · have h := ok_fn hc h
            refine aw_run tTX0_actBar 2 (pc2 := 70) (L2 := [(0, .ref 9), (1, .int a1), (2, .int a2), (3, .int a3)]) (st2 := [.int 7]) rfl ?_
            have h := ok_r h
            exact aw_ir tTX0_actBar rfl rfl rfl (Nat.le_refl _) (Nat.le_refl _) h
        · have h := ok_f hc46 h
          refine aw_lookupN tTX0_actBar rfl [0, 33, 36, 46] (by intro k hk; simp only [List.mem_cons, List.not_mem_nil, or_false] at hk; rcases hk with rfl | rfl | rfl | rfl <;> assumption) (by decide) (by decide) 73 rfl ?_
          refine aw_run tTX0_actBar 2 (pc2 := 75) (L2 := [(0, .ref 9), (1, .int a1), (2, .int a2), (3, .int a3)]) (st2 := [.int a2, .ref 9]) rfl ?_
          obtain ⟨r3, er3, h⟩ := ok_b h
          refine aw_cV tTX0_actBar rfl 78 rfl (M' := MX0_has) (av := [.int a2]) (rest := []) rfl lkX0_58 hMX0_has rfl (w_9 hS) ⟨_, _, rfl⟩ (s_X0_has_9 hS er3) ⟨rfl, rfl, ⟨by decide, by decide⟩, by decide, by decide⟩ (Nat.le_of_ble_eq_true rfl) 46 (wf_len hS) rfl [.int r3] rfl ?_
          refine aw_if_eq tTX0_actBar rfl 85 81 rfl rfl (fun hc => ?_) (fun hc => ?_)
          · have h := ok_t hc h
            refine aw_run tTX0_actBar 1 (pc2 := 86) (L2 := [(0, .ref 9), (1, .int a1), (2, .int a2), (3, .int a3)]) (st2 := [.int 1]) rfl ?_
            have h := ok_r h
            exact aw_ir tTX0_actBar rfl rfl rfl (Nat.le_refl _) (Nat.le_refl _) h
          · have h := ok_f hc h
            refine aw_run tTX0_actBar 2 (pc2 := 86) (L2 := [(0, .ref 9), (1, .int a1), (2, .int a2), (3, .int a3)]) (st2 := [.int 0]) rfl ?_
            have h := ok_r h
            exact aw_ir tTX0_actBar rfl rfl rfl (Nat.le_refl _) (Nat.le_refl _) h
theorem s_X0_actBar {g : Nat → Option Nat} {S : List SC} (hS : Wf g S) {σ : St} {a1 : Int32} {a2 : Int32} {a3 : Int32} {r : Int32} (e : f_X0_actBar 9 a1 a2 a3 σ = some r) : Fn MX0_actBar rmX0_actBar [.ref 9, .int a1, .int a2, .int a3] S σ (some (.int r)) σ := Sp.of (by decide) (Nat.le_of_ble_eq_true rfl) (t_X0_actBar hS a1 a2 a3 ⟨r, e, rfl, rfl, rfl⟩)
def f_X0_rob (b : Nat) (a1 : Int32) (a2 : Int32) (σ : St) : Option (St) := Option.bind (f_X0_load b a1 a2 σ) (fun r1 => gi a2 6 (gi a2 6 (nm (up2 σ (b + 1) a2.toNatClampNeg ((σ (b + 1) a2.toNatClampNeg) - r1)) (fun σ2 => gi a1 6 (gi a1 6 (nm (up2 σ2 (b + 3) a1.toNatClampNeg ((σ2 (b + 3) a1.toNatClampNeg) + r1)) (fun σ3 => gi a1 6 (gi a1 6 (nm (up2 σ3 (b + 4) a1.toNatClampNeg ((σ3 (b + 4) a1.toNatClampNeg) ||| ((1 : Int32) <<< (a2 &&& 31)))) (fun σ4 => nm (up2 σ4 b 9 ((σ4 b 9) ||| ((1 : Int32) <<< (a1 &&& 31)))) (fun σ5 => gi a1 6 (nm (up2 σ5 (b + 5) a1.toNatClampNeg a2) (fun σ6 => some (σ6))))))))))))))
set_option maxHeartbeats 4000000 in
set_option maxRecDepth 20000 in
theorem t_X0_rob {g : Nat → Option Nat} {S : List SC} (hS : Wf g S) {σ : St} {Q : QT} (a1 : Int32) (a2 : Int32) (h : ok (f_X0_rob 9 a1 a2 σ) (fun r => Q none S r)) : AW MX0_rob E0 rmX0_rob 0 0 Q 0 0 S σ 0 [(0, .ref 9), (1, .int a1), (2, .int a2)] [] := by
  unfold f_X0_rob at h
  refine aw_run tTX0_rob 3 (pc2 := 3) (L2 := [(0, .ref 9), (1, .int a1), (2, .int a2)]) (st2 := [.int a2, .int a1, .ref 9]) rfl ?_
  obtain ⟨r1, er1, h⟩ := ok_b h
  refine aw_cV tTX0_rob rfl 6 rfl (M' := MX0_load) (av := [.int a1, .int a2]) (rest := []) rfl lkX0_107 hMX0_load rfl (w_9 hS) ⟨_, _, rfl⟩ (s_X0_load_9 hS er1) ⟨rfl, rfl, ⟨by decide, by decide⟩, by decide, by decide⟩ (Nat.le_of_ble_eq_true rfl) 46 (wf_len hS) rfl [.int r1] rfl ?_
  refine aw_run tTX0_rob 2 (pc2 := 8) (L2 := [(3, .int r1), (0, .ref 9), (1, .int a1), (2, .int a2)]) (st2 := [.ref 9]) rfl ?_
  refine aw_getR tTX0_rob rfl 11 rfl (w_9 hS) rfl flX0_9 ?_
  refine aw_run tTX0_rob 2 (pc2 := 13) (L2 := [(3, .int r1), (0, .ref 9), (1, .int a1), (2, .int a2)]) (st2 := [.int a2, .ref 10, .int a2, .ref 10]) rfl ?_
  obtain ⟨hi, h⟩ := ok_gi h
  refine aw_iald tTX0_rob rfl 14 rfl (w_10 hS) hi ?_
  refine aw_run tTX0_rob 2 (pc2 := 16) (L2 := [(3, .int r1), (0, .ref 9), (1, .int a1), (2, .int a2)]) (st2 := [.int ((σ 10 a2.toNatClampNeg) - r1), .int a2, .ref 10]) rfl ?_
  obtain ⟨hi, h⟩ := ok_gi h
  refine aw_iast tTX0_rob rfl 17 rfl (w_10 hS) hi ?_
  refine aw_nmS (fun σ2 eσ2 => ?_)
  have h := ok_nm h σ2 eσ2
  refine aw_run tTX0_rob 1 (pc2 := 18) (L2 := [(3, .int r1), (0, .ref 9), (1, .int a1), (2, .int a2)]) (st2 := [.ref 9]) rfl ?_
  refine aw_getR tTX0_rob rfl 21 rfl (w_9 hS) rfl flX0_18 ?_
  refine aw_run tTX0_rob 2 (pc2 := 23) (L2 := [(3, .int r1), (0, .ref 9), (1, .int a1), (2, .int a2)]) (st2 := [.int a1, .ref 12, .int a1, .ref 12]) rfl ?_
  obtain ⟨hi, h⟩ := ok_gi h
  refine aw_iald tTX0_rob rfl 24 rfl (w_12 hS) hi ?_
  refine aw_run tTX0_rob 2 (pc2 := 26) (L2 := [(3, .int r1), (0, .ref 9), (1, .int a1), (2, .int a2)]) (st2 := [.int ((σ2 12 a1.toNatClampNeg) + r1), .int a1, .ref 12]) rfl ?_
  obtain ⟨hi, h⟩ := ok_gi h
  refine aw_iast tTX0_rob rfl 27 rfl (w_12 hS) hi ?_
  refine aw_nmS (fun σ3 eσ3 => ?_)
  have h := ok_nm h σ3 eσ3
  refine aw_run tTX0_rob 1 (pc2 := 28) (L2 := [(3, .int r1), (0, .ref 9), (1, .int a1), (2, .int a2)]) (st2 := [.ref 9]) rfl ?_
  refine aw_getR tTX0_rob rfl 31 rfl (w_9 hS) rfl flX0_21 ?_
  refine aw_run tTX0_rob 2 (pc2 := 33) (L2 := [(3, .int r1), (0, .ref 9), (1, .int a1), (2, .int a2)]) (st2 := [.int a1, .ref 13, .int a1, .ref 13]) rfl ?_
  obtain ⟨hi, h⟩ := ok_gi h
  refine aw_iald tTX0_rob rfl 34 rfl (w_13 hS) hi ?_
  refine aw_run tTX0_rob 4 (pc2 := 38) (L2 := [(3, .int r1), (0, .ref 9), (1, .int a1), (2, .int a2)]) (st2 := [.int ((σ3 13 a1.toNatClampNeg) ||| ((1 : Int32) <<< (a2 &&& 31))), .int a1, .ref 13]) rfl ?_
  obtain ⟨hi, h⟩ := ok_gi h
  refine aw_iast tTX0_rob rfl 39 rfl (w_13 hS) hi ?_
  refine aw_nmS (fun σ4 eσ4 => ?_)
  have h := ok_nm h σ4 eσ4
  refine aw_run tTX0_rob 2 (pc2 := 41) (L2 := [(3, .int r1), (0, .ref 9), (1, .int a1), (2, .int a2)]) (st2 := [.ref 9, .ref 9]) rfl ?_
  refine aw_getI tTX0_rob rfl 44 rfl (w_9 hS) rfl flX0_40 ?_
  refine aw_run tTX0_rob 4 (pc2 := 48) (L2 := [(3, .int r1), (0, .ref 9), (1, .int a1), (2, .int a2)]) (st2 := [.int ((σ4 9 9) ||| ((1 : Int32) <<< (a1 &&& 31))), .ref 9]) rfl ?_
  refine aw_putI tTX0_rob rfl 51 rfl (w_9 hS) rfl fpX0_40 ?_
  refine aw_nmS (fun σ5 eσ5 => ?_)
  have h := ok_nm h σ5 eσ5
  refine aw_run tTX0_rob 1 (pc2 := 52) (L2 := [(3, .int r1), (0, .ref 9), (1, .int a1), (2, .int a2)]) (st2 := [.ref 9]) rfl ?_
  refine aw_getR tTX0_rob rfl 55 rfl (w_9 hS) rfl flX0_24 ?_
  refine aw_run tTX0_rob 2 (pc2 := 57) (L2 := [(3, .int r1), (0, .ref 9), (1, .int a1), (2, .int a2)]) (st2 := [.int a2, .int a1, .ref 14]) rfl ?_
  obtain ⟨hi, h⟩ := ok_gi h
  refine aw_iast tTX0_rob rfl 58 rfl (w_14 hS) hi ?_
  refine aw_nmS (fun σ6 eσ6 => ?_)
  have h := ok_nm h σ6 eσ6
  have h := ok_r h
  exact aw_vr tTX0_rob rfl rfl (Nat.le_refl _) (Nat.le_refl _) h
theorem s_X0_rob {g : Nat → Option Nat} {S : List SC} (hS : Wf g S) {σ : St} {a1 : Int32} {a2 : Int32} {r : St} (e : f_X0_rob 9 a1 a2 σ = some r) : Fn MX0_rob rmX0_rob [.ref 9, .int a1, .int a2] S σ none r := Sp.of (by decide) (Nat.le_of_ble_eq_true rfl) (t_X0_rob hS a1 a2 ⟨r, e, rfl, rfl, rfl⟩)
def f_X0_giveBack (b : Nat) (a1 : Int32) (a2 : Int32) (σ : St) : Option (St) := gi a1 6 (nm (jmin 9 (σ (b + 3) a1.toNatClampNeg)) (fun (x1 : Int32) => gi a1 6 (gi a1 6 (nm (up2 σ (b + 3) a1.toNatClampNeg ((σ (b + 3) a1.toNatClampNeg) - x1)) (fun σ2 => gi a2 6 (gi a2 6 (nm (up2 σ2 (b + 1) a2.toNatClampNeg (jmin 99 ((σ2 (b + 1) a2.toNatClampNeg) + x1))) (fun σ3 => some (σ3)))))))))
set_option maxHeartbeats 4000000 in
set_option maxRecDepth 20000 in
theorem t_X0_giveBack {g : Nat → Option Nat} {S : List SC} (hS : Wf g S) {σ : St} {Q : QT} (a1 : Int32) (a2 : Int32) (h : ok (f_X0_giveBack 9 a1 a2 σ) (fun r => Q none S r)) : AW MX0_giveBack E0 rmX0_giveBack 0 0 Q 0 0 S σ 0 [(0, .ref 9), (1, .int a1), (2, .int a2)] [] := by
  unfold f_X0_giveBack at h
  refine aw_run tTX0_giveBack 2 (pc2 := 3) (L2 := [(0, .ref 9), (1, .int a1), (2, .int a2)]) (st2 := [.ref 9, .int 9]) rfl ?_
  refine aw_getR tTX0_giveBack rfl 6 rfl (w_9 hS) rfl flX0_18 ?_
  refine aw_run tTX0_giveBack 1 (pc2 := 7) (L2 := [(0, .ref 9), (1, .int a1), (2, .int a2)]) (st2 := [.int a1, .ref 12, .int 9]) rfl ?_
  obtain ⟨hi, h⟩ := ok_gi h
  refine aw_iald tTX0_giveBack rfl 8 rfl (w_12 hS) hi ?_
  refine aw_min tTX0_giveBack rfl 11 rfl lkX0_72 (by decide) (Nat.le_of_ble_eq_true rfl) (Nat.zero_le _) (Nat.zero_le _) ?_
  refine aw_nm (fun x1 ex1 => ?_)
  have h := ok_nm h x1 ex1
  refine aw_run tTX0_giveBack 1 (pc2 := 12) (L2 := [(3, .int x1), (0, .ref 9), (1, .int a1), (2, .int a2)]) (st2 := []) rfl ?_
  refine aw_run tTX0_giveBack 1 (pc2 := 13) (L2 := [(3, .int x1), (0, .ref 9), (1, .int a1), (2, .int a2)]) (st2 := [.ref 9]) rfl ?_
  refine aw_getR tTX0_giveBack rfl 16 rfl (w_9 hS) rfl flX0_18 ?_
  refine aw_run tTX0_giveBack 2 (pc2 := 18) (L2 := [(3, .int x1), (0, .ref 9), (1, .int a1), (2, .int a2)]) (st2 := [.int a1, .ref 12, .int a1, .ref 12]) rfl ?_
  obtain ⟨hi, h⟩ := ok_gi h
  refine aw_iald tTX0_giveBack rfl 19 rfl (w_12 hS) hi ?_
  refine aw_run tTX0_giveBack 2 (pc2 := 21) (L2 := [(3, .int x1), (0, .ref 9), (1, .int a1), (2, .int a2)]) (st2 := [.int ((σ 12 a1.toNatClampNeg) - x1), .int a1, .ref 12]) rfl ?_
  obtain ⟨hi, h⟩ := ok_gi h
  refine aw_iast tTX0_giveBack rfl 22 rfl (w_12 hS) hi ?_
  refine aw_nmS (fun σ2 eσ2 => ?_)
  have h := ok_nm h σ2 eσ2
  refine aw_run tTX0_giveBack 1 (pc2 := 23) (L2 := [(3, .int x1), (0, .ref 9), (1, .int a1), (2, .int a2)]) (st2 := [.ref 9]) rfl ?_
  refine aw_getR tTX0_giveBack rfl 26 rfl (w_9 hS) rfl flX0_9 ?_
  refine aw_run tTX0_giveBack 3 (pc2 := 30) (L2 := [(3, .int x1), (0, .ref 9), (1, .int a1), (2, .int a2)]) (st2 := [.ref 9, .int 99, .int a2, .ref 10]) rfl ?_
  refine aw_getR tTX0_giveBack rfl 33 rfl (w_9 hS) rfl flX0_9 ?_
  refine aw_run tTX0_giveBack 1 (pc2 := 34) (L2 := [(3, .int x1), (0, .ref 9), (1, .int a1), (2, .int a2)]) (st2 := [.int a2, .ref 10, .int 99, .int a2, .ref 10]) rfl ?_
  obtain ⟨hi, h⟩ := ok_gi h
  refine aw_iald tTX0_giveBack rfl 35 rfl (w_10 hS) hi ?_
  refine aw_run tTX0_giveBack 2 (pc2 := 37) (L2 := [(3, .int x1), (0, .ref 9), (1, .int a1), (2, .int a2)]) (st2 := [.int ((σ2 10 a2.toNatClampNeg) + x1), .int 99, .int a2, .ref 10]) rfl ?_
  refine aw_min tTX0_giveBack rfl 40 rfl lkX0_72 (by decide) (Nat.le_of_ble_eq_true rfl) (Nat.zero_le _) (Nat.zero_le _) ?_
  obtain ⟨hi, h⟩ := ok_gi h
  refine aw_iast tTX0_giveBack rfl 41 rfl (w_10 hS) hi ?_
  refine aw_nmS (fun σ3 eσ3 => ?_)
  have h := ok_nm h σ3 eσ3
  have h := ok_r h
  exact aw_vr tTX0_giveBack rfl rfl (Nat.le_refl _) (Nat.le_refl _) h
theorem s_X0_giveBack {g : Nat → Option Nat} {S : List SC} (hS : Wf g S) {σ : St} {a1 : Int32} {a2 : Int32} {r : St} (e : f_X0_giveBack 9 a1 a2 σ = some r) : Fn MX0_giveBack rmX0_giveBack [.ref 9, .int a1, .int a2] S σ none r := Sp.of (by decide) (Nat.le_of_ble_eq_true rfl) (t_X0_giveBack hS a1 a2 ⟨r, e, rfl, rfl, rfl⟩)
def f_X0_endYear (b : Nat)  (σ : St) : Option (St) := nm (up2 σ b 9 0) (fun σ1 => nm (fillS σ1 (b + 4) 6 0) (fun σ2 => some (σ2)))
set_option maxHeartbeats 4000000 in
set_option maxRecDepth 20000 in
theorem t_X0_endYear {g : Nat → Option Nat} {S : List SC} (hS : Wf g S) {σ : St} {Q : QT}  (h : ok (f_X0_endYear 9  σ) (fun r => Q none S r)) : AW MX0_endYear E0 rmX0_endYear 0 0 Q 0 0 S σ 0 [(0, .ref 9)] [] := by
  unfold f_X0_endYear at h
  refine aw_run tTX0_endYear 2 (pc2 := 2) (L2 := [(0, .ref 9)]) (st2 := [.int 0, .ref 9]) rfl ?_
  refine aw_putI tTX0_endYear rfl 5 rfl (w_9 hS) rfl fpX0_40 ?_
  refine aw_nmS (fun σ1 eσ1 => ?_)
  have h := ok_nm h σ1 eσ1
  refine aw_run tTX0_endYear 1 (pc2 := 6) (L2 := [(0, .ref 9)]) (st2 := [.ref 9]) rfl ?_
  refine aw_getR tTX0_endYear rfl 9 rfl (w_9 hS) rfl flX0_21 ?_
  refine aw_run tTX0_endYear 1 (pc2 := 10) (L2 := [(0, .ref 9)]) (st2 := [.int 0, .ref 13]) rfl ?_
  refine aw_cS tTX0_endYear rfl 13 rfl (M' := MJ7_fill_53178) (av := [.ref 13, .int 0]) (rest := []) rfl lkX0_110 hMJ7_fill_53178 rfl (s_fill (w_13 hS) (by decide)) ⟨rfl, rfl, ⟨by decide, by decide⟩, by decide, by decide⟩ (Nat.le_of_ble_eq_true rfl) 46 (wf_len hS) rfl [] rfl ?_
  refine aw_nmS (fun σ2 eσ2 => ?_)
  have h := ok_nm h σ2 eσ2
  have h := ok_r h
  exact aw_vr tTX0_endYear rfl rfl (Nat.le_refl _) (Nat.le_refl _) h
theorem s_X0_endYear {g : Nat → Option Nat} {S : List SC} (hS : Wf g S) {σ : St}  {r : St} (e : f_X0_endYear 9  σ = some r) : Fn MX0_endYear rmX0_endYear [.ref 9] S σ none r := Sp.of (by decide) (Nat.le_of_ble_eq_true rfl) (t_X0_endYear hS  ⟨r, e, rfl, rfl, rfl⟩)
def f_X0_tryAct (b : Nat) (a1 : Int32) (a2 : Int32) (a3 : Int32) (σ : St) : Option (Int32 × St) := Option.bind (f_X0_actBar b a1 a2 a3 σ) (fun r1 => if r1 = 0 then (Option.bind (α := St) (if a1 = 0 then (Option.bind (f_X0_rob b a2 a3 σ) (fun r3 => some r3)) else (if a1 = 33 then (gi a2 6 (Option.bind (f_X0_giveBack b a2 (σ (b + 5) a2.toNatClampNeg) σ) (fun r4 => some r4))) else (if a1 = 42 then (nm (up2 σ b 11 ((σ b 11) ^^^ ((1 : Int32) <<< (a2 &&& 31)))) (fun σ5 => some σ5)) else (if a1 = 46 then (nm (up2 σ b 9 0) (fun σ6 => nm (up2 σ6 b 12 ((σ6 b 12) - 1)) (fun σ7 => some σ7))) else (if a1 = 126 then (nm (up2 σ b 10 ((σ b 10) ^^^ ((1 : Int32) <<< (a2 &&& 31)))) (fun σ8 => some σ8)) else (Option.bind (f_X0_endYear b σ) (fun r9 => some r9))))))) (fun (j2 : St) => some ((0, j2)))) else (some ((r1, σ))))
set_option maxHeartbeats 4000000 in
set_option maxRecDepth 20000 in
theorem t_X0_tryAct {g : Nat → Option Nat} {S : List SC} (hS : Wf g S) {σ : St} {Q : QT} (a1 : Int32) (a2 : Int32) (a3 : Int32) (h : ok (f_X0_tryAct 9 a1 a2 a3 σ) (fun r => Q (some (.int r.1)) S r.2)) : AW MX0_tryAct E0 rmX0_tryAct 0 0 Q 0 0 S σ 0 [(0, .ref 9), (1, .int a1), (2, .int a2), (3, .int a3)] [] := by
  unfold f_X0_tryAct at h
  refine aw_run tTX0_tryAct 4 (pc2 := 4) (L2 := [(0, .ref 9), (1, .int a1), (2, .int a2), (3, .int a3)]) (st2 := [.int a3, .int a2, .int a1, .ref 9]) rfl ?_
  obtain ⟨r1, er1, h⟩ := ok_b h
  refine aw_cV tTX0_tryAct rfl 7 rfl (M' := MX0_actBar) (av := [.int a1, .int a2, .int a3]) (rest := []) rfl lkX0_93 hMX0_actBar rfl (w_9 hS) ⟨_, _, rfl⟩ (s_X0_actBar hS er1) ⟨rfl, rfl, ⟨by decide, by decide⟩, by decide, by decide⟩ (Nat.le_of_ble_eq_true rfl) 46 (wf_len hS) rfl [.int r1] rfl ?_
  refine aw_run tTX0_tryAct 2 (pc2 := 11) (L2 := [(4, .int r1), (0, .ref 9), (1, .int a1), (2, .int a2), (3, .int a3)]) (st2 := [.int r1]) rfl ?_
  refine aw_if_eq tTX0_tryAct rfl 17 14 rfl rfl (fun hc => ?_) (fun hc => ?_)
  · have h := ok_t hc h
    refine aw_run tTX0_tryAct 1 (pc2 := 18) (L2 := [(4, .int r1), (0, .ref 9), (1, .int a1), (2, .int a2), (3, .int a3)]) (st2 := [.int a1]) rfl ?_
    refine ok_use (P := fun j2 : St => AW MX0_tryAct E0 rmX0_tryAct 0 0 Q 0 0 S j2 143 [] []) (ok_b h) (fun j2 h => ?_) (fun h => ?_)
    · refine aw_run tTX0_tryAct 1 (pc2 := 144) (L2 := []) (st2 := [.int 0]) rfl ?_
      have h := ok_r h
      exact aw_ir tTX0_tryAct rfl rfl rfl (Nat.le_refl _) (Nat.le_refl _) h
    · by_cases hc0 : a1 = 0
      · have h := ok_t hc0 h
        refine aw_lookupK (off := 50) tTX0_tryAct rfl 0 hc0 (by decide) rfl 68 rfl ?_
        refine aw_run tTX0_tryAct 3 (pc2 := 71) (L2 := [(4, .int r1), (0, .ref 9), (1, .int a1), (2, .int a2), (3, .int a3)]) (st2 := [.int a3, .int a2, .ref 9]) rfl ?_
        obtain ⟨r3, er3, h⟩ := ok_b h
        refine aw_cV tTX0_tryAct rfl 74 rfl (M' := MX0_rob) (av := [.int a2, .int a3]) (rest := []) rfl lkX0_97 hMX0_rob rfl (w_9 hS) ⟨_, _, rfl⟩ (s_X0_rob hS er3) ⟨rfl, rfl, ⟨by decide, by decide⟩, by decide, by decide⟩ (Nat.le_of_ble_eq_true rfl) 46 (wf_len hS) rfl [] rfl ?_
        refine aw_run tTX0_tryAct 1 (pc2 := 143) (L2 := [(4, .int r1), (0, .ref 9), (1, .int a1), (2, .int a2), (3, .int a3)]) (st2 := []) rfl ?_
        refine aw_sub [] rfl ?_
        have h := ok_r h
        exact h
      · have h := ok_f hc0 h
        by_cases hc33 : a1 = 33
        · have h := ok_t hc33 h
          refine aw_lookupK (off := 59) tTX0_tryAct rfl 33 hc33 (by decide) rfl 77 rfl ?_
          refine aw_run tTX0_tryAct 3 (pc2 := 80) (L2 := [(4, .int r1), (0, .ref 9), (1, .int a1), (2, .int a2), (3, .int a3)]) (st2 := [.ref 9, .int a2, .ref 9]) rfl ?_
          refine aw_getR tTX0_tryAct rfl 83 rfl (w_9 hS) rfl flX0_24 ?_
          refine aw_run tTX0_tryAct 1 (pc2 := 84) (L2 := [(4, .int r1), (0, .ref 9), (1, .int a1), (2, .int a2), (3, .int a3)]) (st2 := [.int a2, .ref 14, .int a2, .ref 9]) rfl ?_
          obtain ⟨hi, h⟩ := ok_gi h
          refine aw_iald tTX0_tryAct rfl 85 rfl (w_14 hS) hi ?_
          obtain ⟨r4, er4, h⟩ := ok_b h
          refine aw_cV tTX0_tryAct rfl 88 rfl (M' := MX0_giveBack) (av := [.int a2, .int (σ 14 a2.toNatClampNeg)]) (rest := []) rfl lkX0_101 hMX0_giveBack rfl (w_9 hS) ⟨_, _, rfl⟩ (s_X0_giveBack hS er4) ⟨rfl, rfl, ⟨by decide, by decide⟩, by decide, by decide⟩ (Nat.le_of_ble_eq_true rfl) 46 (wf_len hS) rfl [] rfl ?_
          refine aw_run tTX0_tryAct 1 (pc2 := 143) (L2 := [(4, .int r1), (0, .ref 9), (1, .int a1), (2, .int a2), (3, .int a3)]) (st2 := []) rfl ?_
          refine aw_sub [] rfl ?_
          have h := ok_r h
          exact h
        · have h := ok_f hc33 h
          by_cases hc42 : a1 = 42
          · have h := ok_t hc42 h
            refine aw_lookupK (off := 73) tTX0_tryAct rfl 42 hc42 (by decide) rfl 91 rfl ?_
            refine aw_run tTX0_tryAct 2 (pc2 := 93) (L2 := [(4, .int r1), (0, .ref 9), (1, .int a1), (2, .int a2), (3, .int a3)]) (st2 := [.ref 9, .ref 9]) rfl ?_
            refine aw_getI tTX0_tryAct rfl 96 rfl (w_9 hS) rfl flX0_46 ?_
            refine aw_run tTX0_tryAct 4 (pc2 := 100) (L2 := [(4, .int r1), (0, .ref 9), (1, .int a1), (2, .int a2), (3, .int a3)]) (st2 := [.int ((σ 9 11) ^^^ ((1 : Int32) <<< (a2 &&& 31))), .ref 9]) rfl ?_
            refine aw_putI tTX0_tryAct rfl 103 rfl (w_9 hS) rfl fpX0_46 ?_
            refine aw_nmS (fun σ5 eσ5 => ?_)
            have h := ok_nm h σ5 eσ5
            refine aw_run tTX0_tryAct 1 (pc2 := 143) (L2 := [(4, .int r1), (0, .ref 9), (1, .int a1), (2, .int a2), (3, .int a3)]) (st2 := []) rfl ?_
            refine aw_sub [] rfl ?_
            have h := ok_r h
            exact h
          · have h := ok_f hc42 h
            by_cases hc46 : a1 = 46
            · have h := ok_t hc46 h
              refine aw_lookupK (off := 103) tTX0_tryAct rfl 46 hc46 (by decide) rfl 121 rfl ?_
              refine aw_run tTX0_tryAct 2 (pc2 := 123) (L2 := [(4, .int r1), (0, .ref 9), (1, .int a1), (2, .int a2), (3, .int a3)]) (st2 := [.int 0, .ref 9]) rfl ?_
              refine aw_putI tTX0_tryAct rfl 126 rfl (w_9 hS) rfl fpX0_40 ?_
              refine aw_nmS (fun σ6 eσ6 => ?_)
              have h := ok_nm h σ6 eσ6
              refine aw_run tTX0_tryAct 2 (pc2 := 128) (L2 := [(4, .int r1), (0, .ref 9), (1, .int a1), (2, .int a2), (3, .int a3)]) (st2 := [.ref 9, .ref 9]) rfl ?_
              refine aw_getI tTX0_tryAct rfl 131 rfl (w_9 hS) rfl flX0_49 ?_
              refine aw_run tTX0_tryAct 2 (pc2 := 133) (L2 := [(4, .int r1), (0, .ref 9), (1, .int a1), (2, .int a2), (3, .int a3)]) (st2 := [.int ((σ6 9 12) - 1), .ref 9]) rfl ?_
              refine aw_putI tTX0_tryAct rfl 136 rfl (w_9 hS) rfl fpX0_49 ?_
              refine aw_nmS (fun σ7 eσ7 => ?_)
              have h := ok_nm h σ7 eσ7
              refine aw_run tTX0_tryAct 1 (pc2 := 143) (L2 := [(4, .int r1), (0, .ref 9), (1, .int a1), (2, .int a2), (3, .int a3)]) (st2 := []) rfl ?_
              refine aw_sub [] rfl ?_
              have h := ok_r h
              exact h
            · have h := ok_f hc46 h
              by_cases hc126 : a1 = 126
              · have h := ok_t hc126 h
                refine aw_lookupK (off := 88) tTX0_tryAct rfl 126 hc126 (by decide) rfl 106 rfl ?_
                refine aw_run tTX0_tryAct 2 (pc2 := 108) (L2 := [(4, .int r1), (0, .ref 9), (1, .int a1), (2, .int a2), (3, .int a3)]) (st2 := [.ref 9, .ref 9]) rfl ?_
                refine aw_getI tTX0_tryAct rfl 111 rfl (w_9 hS) rfl flX0_43 ?_
                refine aw_run tTX0_tryAct 4 (pc2 := 115) (L2 := [(4, .int r1), (0, .ref 9), (1, .int a1), (2, .int a2), (3, .int a3)]) (st2 := [.int ((σ 9 10) ^^^ ((1 : Int32) <<< (a2 &&& 31))), .ref 9]) rfl ?_
                refine aw_putI tTX0_tryAct rfl 118 rfl (w_9 hS) rfl fpX0_43 ?_
                refine aw_nmS (fun σ8 eσ8 => ?_)
                have h := ok_nm h σ8 eσ8
                refine aw_run tTX0_tryAct 1 (pc2 := 143) (L2 := [(4, .int r1), (0, .ref 9), (1, .int a1), (2, .int a2), (3, .int a3)]) (st2 := []) rfl ?_
                refine aw_sub [] rfl ?_
                have h := ok_r h
                exact h
              · have h := ok_f hc126 h
                refine aw_lookupN tTX0_tryAct rfl [0, 33, 42, 46, 126] (by intro k hk; simp only [List.mem_cons, List.not_mem_nil, or_false] at hk; rcases hk with rfl | rfl | rfl | rfl | rfl <;> assumption) (by decide) (by decide) 139 rfl ?_
                refine aw_run tTX0_tryAct 1 (pc2 := 140) (L2 := [(4, .int r1), (0, .ref 9), (1, .int a1), (2, .int a2), (3, .int a3)]) (st2 := [.ref 9]) rfl ?_
                obtain ⟨r9, er9, h⟩ := ok_b h
                refine aw_cV tTX0_tryAct rfl 143 rfl (M' := MX0_endYear) (av := []) (rest := []) rfl lkX0_104 hMX0_endYear rfl (w_9 hS) ⟨_, _, rfl⟩ (s_X0_endYear hS er9) ⟨rfl, rfl, ⟨by decide, by decide⟩, by decide, by decide⟩ (Nat.le_of_ble_eq_true rfl) 46 (wf_len hS) rfl [] rfl ?_
                refine aw_sub [] rfl ?_
                have h := ok_r h
                exact h
  · have h := ok_f hc h
    refine aw_run tTX0_tryAct 1 (pc2 := 16) (L2 := [(4, .int r1), (0, .ref 9), (1, .int a1), (2, .int a2), (3, .int a3)]) (st2 := [.int r1]) rfl ?_
    have h := ok_r h
    exact aw_ir tTX0_tryAct rfl rfl rfl (Nat.le_refl _) (Nat.le_refl _) h
theorem s_X0_tryAct {g : Nat → Option Nat} {S : List SC} (hS : Wf g S) {σ : St} {a1 : Int32} {a2 : Int32} {a3 : Int32} {r : Int32 × St} (e : f_X0_tryAct 9 a1 a2 a3 σ = some r) : Fn MX0_tryAct rmX0_tryAct [.ref 9, .int a1, .int a2, .int a3] S σ (some (.int r.1)) r.2 := Sp.of (by decide) (Nat.le_of_ble_eq_true rfl) (t_X0_tryAct hS a1 a2 a3 ⟨r, e, rfl, rfl, rfl⟩)
def f_X0_drawnKind (a1 : Int32)  : Option (Int32) := if a1 = 0 then (some (46)) else (if a1 = 1 then (some (42)) else (if a1 = 2 then (some (126)) else (if a1 = 3 then (some (33)) else (some (0)))))
set_option maxHeartbeats 4000000 in
set_option maxRecDepth 20000 in
theorem t_X0_drawnKind {g : Nat → Option Nat} {S : List SC} (hS : Wf g S) {σ : St} {Q : QT} (a1 : Int32) (h : ok (f_X0_drawnKind a1 ) (fun r => Q (some (.int r)) S σ)) : AW MX0_drawnKind E0 rmX0_drawnKind 0 0 Q 0 0 S σ 0 [(0, .int a1)] [] := by
  unfold f_X0_drawnKind at h
  refine aw_run tTX0_drawnKind 1 (pc2 := 1) (L2 := [(0, .int a1)]) (st2 := [.int a1]) rfl ?_
  by_cases hc0 : a1 = 0
  · have h := ok_t hc0 h
    refine aw_tableK (off := 31) tTX0_drawnKind rfl 0 hc0 rfl 32 rfl ?_
    refine aw_run tTX0_drawnKind 1 (pc2 := 34) (L2 := [(0, .int a1)]) (st2 := [.int 46]) rfl ?_
    have h := ok_r h
    exact aw_ir tTX0_drawnKind rfl rfl rfl (Nat.le_refl _) (Nat.le_refl _) h
  · have h := ok_f hc0 h
    by_cases hc1 : a1 = 1
    · have h := ok_t hc1 h
      refine aw_tableK (off := 34) tTX0_drawnKind rfl 1 hc1 rfl 35 rfl ?_
      refine aw_run tTX0_drawnKind 1 (pc2 := 37) (L2 := [(0, .int a1)]) (st2 := [.int 42]) rfl ?_
      have h := ok_r h
      exact aw_ir tTX0_drawnKind rfl rfl rfl (Nat.le_refl _) (Nat.le_refl _) h
    · have h := ok_f hc1 h
      by_cases hc2 : a1 = 2
      · have h := ok_t hc2 h
        refine aw_tableK (off := 37) tTX0_drawnKind rfl 2 hc2 rfl 38 rfl ?_
        refine aw_run tTX0_drawnKind 1 (pc2 := 40) (L2 := [(0, .int a1)]) (st2 := [.int 126]) rfl ?_
        have h := ok_r h
        exact aw_ir tTX0_drawnKind rfl rfl rfl (Nat.le_refl _) (Nat.le_refl _) h
      · have h := ok_f hc2 h
        by_cases hc3 : a1 = 3
        · have h := ok_t hc3 h
          refine aw_tableK (off := 40) tTX0_drawnKind rfl 3 hc3 rfl 41 rfl ?_
          refine aw_run tTX0_drawnKind 1 (pc2 := 43) (L2 := [(0, .int a1)]) (st2 := [.int 33]) rfl ?_
          have h := ok_r h
          exact aw_ir tTX0_drawnKind rfl rfl rfl (Nat.le_refl _) (Nat.le_refl _) h
        · have h := ok_f hc3 h
          refine aw_tableN tTX0_drawnKind rfl [0, 1, 2, 3] (by intro k hk; simp only [List.mem_cons, List.not_mem_nil, or_false] at hk; rcases hk with rfl | rfl | rfl | rfl <;> assumption) (by decide) 44 rfl ?_
          refine aw_run tTX0_drawnKind 1 (pc2 := 45) (L2 := [(0, .int a1)]) (st2 := [.int 0]) rfl ?_
          have h := ok_r h
          exact aw_ir tTX0_drawnKind rfl rfl rfl (Nat.le_refl _) (Nat.le_refl _) h
theorem s_X0_drawnKind {g : Nat → Option Nat} {S : List SC} (hS : Wf g S) {σ : St} {a1 : Int32} {r : Int32} (e : f_X0_drawnKind a1  = some r) : Fn MX0_drawnKind rmX0_drawnKind [.int a1] S σ (some (.int r)) σ := Sp.of (by decide) (Nat.le_of_ble_eq_true rfl) (t_X0_drawnKind hS a1 ⟨r, e, rfl, rfl, rfl⟩)
def l_X0_runYear_8 (b : Nat) (a2 : Int32) (y1 : Int32) (y2 : Int32) (y3 : Int32) (σ4 : St) : Option ((Int32 × Int32 × Int32 × St) ⊕ (Int32 × St)) := if a2 ≤ y3 then (some (.inr (y1, σ4))) else (nm (jrem (((75 : Int32) * y2) + 74) 65537) (fun (x6 : Int32) => Option.bind (f_X0_drawnKind (jrem x6 8)) (fun r7 => Option.bind (f_X0_tryAct b r7 (jrem (x6 / 8) 6) (jrem (x6 / 64) 6) σ4) (fun r8 => Option.bind (α := Int32) (if ¬ r7 = 0 then (some y1) else (if ¬ r8.1 = 0 then (some y1) else (some (y1 + 1)))) (fun (j9 : Int32) => some (.inl (j9, x6, y3 + 1, r8.2)))))))
def f_X0_runYear (b : Nat) (a1 : Int32) (a2 : Int32) (σ : St) : Option (Int32 × St) := Option.bind (loop (fun s : Int32 × Int32 × Int32 × St => l_X0_runYear_8 b a2 s.1 s.2.1 s.2.2.1 s.2.2.2) 400 (0, a1, 0, σ)) (fun (z5 : Int32 × St) => some ((z5.1, z5.2)))
set_option maxHeartbeats 4000000 in
set_option maxRecDepth 20000 in
theorem t_X0_runYear {g : Nat → Option Nat} {S : List SC} (hS : Wf g S) {σ : St} {Q : QT} (a1 : Int32) (a2 : Int32) (h : ok (f_X0_runYear 9 a1 a2 σ) (fun r => Q (some (.int r.1)) S r.2)) : AW MX0_runYear E0 rmX0_runYear 0 0 Q 0 0 S σ 0 [(0, .ref 9), (1, .int a1), (2, .int a2)] [] := by
  unfold f_X0_runYear at h
  refine aw_run tTX0_runYear 6 (pc2 := 8) (L2 := [(5, .int 0), (4, .int a1), (3, .int 0), (0, .ref 9), (1, .int a1), (2, .int a2)]) (st2 := []) rfl ?_
  refine ok_use (P := fun z5 : Int32 × St => AW MX0_runYear E0 rmX0_runYear 0 0 Q 0 0 S z5.2 80 [(3, .int z5.1)] []) (ok_b h) (fun z5 h => ?_) (fun h => ?_)
  · refine aw_run tTX0_runYear 1 (pc2 := 81) (L2 := [(3, .int z5.1)]) (st2 := [.int z5.1]) rfl ?_
    have h := ok_r h
    exact aw_ir tTX0_runYear rfl rfl rfl (Nat.le_refl _) (Nat.le_refl _) h
  · refine aw_sub [3, 5, 2, 1, 0] rfl ?_
    refine loop_P (P := fun s : Int32 × Int32 × Int32 × St => AW MX0_runYear E0 rmX0_runYear 0 0 Q 0 0 S s.2.2.2 8 [(0, .ref 9), (2, .int a2), (3, .int s.1), (4, .int s.2.1), (5, .int s.2.2.1)] []) (fun s h => ?_) _ _ h
    obtain ⟨y1, y2, y3, σ4⟩ := s
    replace h : ok (l_X0_runYear_8 9 a2 y1 y2 y3 σ4) _ := h
    unfold l_X0_runYear_8 at h
    show AW MX0_runYear E0 rmX0_runYear 0 0 Q 0 0 S σ4 8 [(0, .ref 9), (2, .int a2), (3, .int y1), (4, .int y2), (5, .int y3)] []
    refine aw_run tTX0_runYear 2 (pc2 := 11) (L2 := [(0, .ref 9), (2, .int a2), (3, .int y1), (4, .int y2), (5, .int y3)]) (st2 := [.int a2, .int y3]) rfl ?_
    refine aw_icmp_ge tTX0_runYear rfl 80 14 rfl rfl (fun hc => ?_) (fun hc => ?_)
    · have h := ok_t hc h
      refine aw_sub [2] rfl ?_
      have h := ok_r h
      exact h
    · have h := ok_f hc h
      refine aw_run tTX0_runYear 6 (pc2 := 24) (L2 := [(0, .ref 9), (2, .int a2), (3, .int y1), (4, .int y2), (5, .int y3)]) (st2 := [.int 65537, .int (((75 : Int32) * y2) + 74)]) rfl ?_
      refine aw_irem tTX0_runYear rfl 25 rfl (by decide) ?_
      refine aw_nm (fun x6 ex6 => ?_)
      have h := ok_nm h x6 ex6
      refine aw_run tTX0_runYear 1 (pc2 := 27) (L2 := [(4, .int x6), (0, .ref 9), (2, .int a2), (3, .int y1), (5, .int y3)]) (st2 := []) rfl ?_
      refine aw_run tTX0_runYear 2 (pc2 := 31) (L2 := [(4, .int x6), (0, .ref 9), (2, .int a2), (3, .int y1), (5, .int y3)]) (st2 := [.int 8, .int x6]) rfl ?_
      refine aw_irem tTX0_runYear rfl 32 rfl (by decide) ?_
      obtain ⟨r7, er7, h⟩ := ok_b h
      refine aw_cS tTX0_runYear rfl 35 rfl (M' := MX0_drawnKind) (av := [.int (jrem x6 8)]) (rest := []) rfl lkX0_117 hMX0_drawnKind rfl (s_X0_drawnKind hS er7) ⟨rfl, rfl, ⟨by decide, by decide⟩, by decide, by decide⟩ (Nat.le_of_ble_eq_true rfl) 46 (wf_len hS) rfl [.int r7] rfl ?_
      refine aw_run tTX0_runYear 5 (pc2 := 44) (L2 := [(6, .int r7), (4, .int x6), (0, .ref 9), (2, .int a2), (3, .int y1), (5, .int y3)]) (st2 := [.int 8, .int x6, .int r7, .ref 9]) rfl ?_
      refine aw_idiv tTX0_runYear rfl 45 rfl (by decide) ?_
      refine aw_run tTX0_runYear 1 (pc2 := 47) (L2 := [(6, .int r7), (4, .int x6), (0, .ref 9), (2, .int a2), (3, .int y1), (5, .int y3)]) (st2 := [.int 6, .int (x6 / 8), .int r7, .ref 9]) rfl ?_
      refine aw_irem tTX0_runYear rfl 48 rfl (by decide) ?_
      refine aw_run tTX0_runYear 2 (pc2 := 52) (L2 := [(6, .int r7), (4, .int x6), (0, .ref 9), (2, .int a2), (3, .int y1), (5, .int y3)]) (st2 := [.int 64, .int x6, .int (jrem (x6 / 8) 6), .int r7, .ref 9]) rfl ?_
      refine aw_idiv tTX0_runYear rfl 53 rfl (by decide) ?_
      refine aw_run tTX0_runYear 1 (pc2 := 55) (L2 := [(6, .int r7), (4, .int x6), (0, .ref 9), (2, .int a2), (3, .int y1), (5, .int y3)]) (st2 := [.int 6, .int (x6 / 64), .int (jrem (x6 / 8) 6), .int r7, .ref 9]) rfl ?_
      refine aw_irem tTX0_runYear rfl 56 rfl (by decide) ?_
      obtain ⟨r8, er8, h⟩ := ok_b h
      refine aw_cV tTX0_runYear rfl 59 rfl (M' := MX0_tryAct) (av := [.int r7, .int (jrem (x6 / 8) 6), .int (jrem (x6 / 64) 6)]) (rest := []) rfl lkX0_120 hMX0_tryAct rfl (w_9 hS) ⟨_, _, rfl⟩ (s_X0_tryAct hS er8) ⟨rfl, rfl, ⟨by decide, by decide⟩, by decide, by decide⟩ (Nat.le_of_ble_eq_true rfl) 46 (wf_len hS) rfl [.int r8.1] rfl ?_
      refine aw_run tTX0_runYear 2 (pc2 := 63) (L2 := [(7, .int r8.1), (6, .int r7), (4, .int x6), (0, .ref 9), (2, .int a2), (3, .int y1), (5, .int y3)]) (st2 := [.int r7]) rfl ?_
      refine ok_use (P := fun j9 : Int32 => AW MX0_runYear E0 rmX0_runYear 0 0 Q 0 0 S r8.2 74 [(0, .ref 9), (2, .int a2), (3, .int j9), (4, .int x6), (5, .int y3)] []) (ok_b h) (fun j9 h => ?_) (fun h => ?_)
      · refine aw_run tTX0_runYear 2 (pc2 := 8) (L2 := [(5, .int (y3 + 1)), (0, .ref 9), (2, .int a2), (3, .int j9), (4, .int x6)]) (st2 := []) rfl ?_
        refine aw_sub [1, 2, 3, 4, 0] rfl ?_
        have h := ok_r h
        exact h
      · refine aw_if_ne tTX0_runYear rfl 74 66 rfl rfl (fun hc => ?_) (fun hc => ?_)
        · have h := ok_t hc h
          refine aw_sub [3, 4, 5, 2, 6] rfl ?_
          have h := ok_r h
          exact h
        · have h := ok_fn hc h
          refine aw_run tTX0_runYear 1 (pc2 := 68) (L2 := [(7, .int r8.1), (6, .int r7), (4, .int x6), (0, .ref 9), (2, .int a2), (3, .int y1), (5, .int y3)]) (st2 := [.int r8.1]) rfl ?_
          refine aw_if_ne tTX0_runYear rfl 74 71 rfl rfl (fun hc => ?_) (fun hc => ?_)
          · have h := ok_t hc h
            refine aw_sub [3, 4, 5, 2, 6] rfl ?_
            have h := ok_r h
            exact h
          · have h := ok_fn hc h
            refine aw_run tTX0_runYear 1 (pc2 := 74) (L2 := [(3, .int (y1 + 1)), (7, .int r8.1), (6, .int r7), (4, .int x6), (0, .ref 9), (2, .int a2), (5, .int y3)]) (st2 := []) rfl ?_
            refine aw_sub [4, 5, 0, 3, 6] rfl ?_
            have h := ok_r h
            exact h
theorem s_X0_runYear {g : Nat → Option Nat} {S : List SC} (hS : Wf g S) {σ : St} {a1 : Int32} {a2 : Int32} {r : Int32 × St} (e : f_X0_runYear 9 a1 a2 σ = some r) : Fn MX0_runYear rmX0_runYear [.ref 9, .int a1, .int a2] S σ (some (.int r.1)) r.2 := Sp.of (by decide) (Nat.le_of_ble_eq_true rfl) (t_X0_runYear hS a1 a2 ⟨r, e, rfl, rfl, rfl⟩)
def l_X0_bareTrees_4 (b : Nat) (σ : St) (y1 : Int32) (y2 : Int32) : Option ((Int32 × Int32) ⊕ (Int32)) := if 6 ≤ y2 then (some (.inr y1)) else (Option.bind (f_X0_has b y2 σ) (fun r4 => Option.bind (α := Int32) (if r4 = 0 then (some y1) else (gi y2 6 (if ¬ (σ (b + 1) y2.toNatClampNeg) = 0 then (some y1) else (nm (y1 ||| ((1 : Int32) <<< (y2 &&& 31))) (fun (x6 : Int32) => some x6))))) (fun (j5 : Int32) => some (.inl (j5, y2 + 1)))))
def f_X0_bareTrees (b : Nat)  (σ : St) : Option (Int32) := Option.bind (loop (fun s : Int32 × Int32 => l_X0_bareTrees_4 b σ s.1 s.2) 400 (0, 0)) (fun (z3 : Int32) => some (z3))
set_option maxHeartbeats 4000000 in
set_option maxRecDepth 20000 in
theorem t_X0_bareTrees {g : Nat → Option Nat} {S : List SC} (hS : Wf g S) {σ : St} {Q : QT}  (h : ok (f_X0_bareTrees 1  σ) (fun r => Q (some (.int r)) S σ)) : AW MX0_bareTrees E0 rmX0_bareTrees 0 0 Q 0 0 S σ 0 [(0, .ref 1)] [] := by
  unfold f_X0_bareTrees at h
  refine aw_run tTX0_bareTrees 4 (pc2 := 4) (L2 := [(2, .int 0), (1, .int 0), (0, .ref 1)]) (st2 := []) rfl ?_
  refine ok_use (P := fun z3 : Int32 => AW MX0_bareTrees E0 rmX0_bareTrees 0 0 Q 0 0 S σ 39 [(1, .int z3)] []) (ok_b h) (fun z3 h => ?_) (fun h => ?_)
  · refine aw_run tTX0_bareTrees 1 (pc2 := 40) (L2 := [(1, .int z3)]) (st2 := [.int z3]) rfl ?_
    have h := ok_r h
    exact aw_ir tTX0_bareTrees rfl rfl rfl (Nat.le_refl _) (Nat.le_refl _) h
  · refine aw_sub [2, 1, 0] rfl ?_
    refine loop_P (P := fun s : Int32 × Int32 => AW MX0_bareTrees E0 rmX0_bareTrees 0 0 Q 0 0 S σ 4 [(0, .ref 1), (1, .int s.1), (2, .int s.2)] []) (fun s h => ?_) _ _ h
    obtain ⟨y1, y2⟩ := s
    replace h : ok (l_X0_bareTrees_4 1 σ y1 y2) _ := h
    unfold l_X0_bareTrees_4 at h
    show AW MX0_bareTrees E0 rmX0_bareTrees 0 0 Q 0 0 S σ 4 [(0, .ref 1), (1, .int y1), (2, .int y2)] []
    refine aw_run tTX0_bareTrees 2 (pc2 := 7) (L2 := [(0, .ref 1), (1, .int y1), (2, .int y2)]) (st2 := [.int 6, .int y2]) rfl ?_
    refine aw_icmp_ge tTX0_bareTrees rfl 39 10 rfl rfl (fun hc => ?_) (fun hc => ?_)
    · have h := ok_t hc h
      refine aw_sub [1] rfl ?_
      have h := ok_r h
      exact h
    · have h := ok_f hc h
      refine aw_run tTX0_bareTrees 2 (pc2 := 12) (L2 := [(0, .ref 1), (1, .int y1), (2, .int y2)]) (st2 := [.int y2, .ref 1]) rfl ?_
      obtain ⟨r4, er4, h⟩ := ok_b h
      refine aw_cV tTX0_bareTrees rfl 15 rfl (M' := MX0_has) (av := [.int y2]) (rest := []) rfl lkX0_58 hMX0_has rfl (w_1 hS) ⟨_, _, rfl⟩ (s_X0_has_1 hS er4) ⟨rfl, rfl, ⟨by decide, by decide⟩, by decide, by decide⟩ (Nat.le_of_ble_eq_true rfl) 46 (wf_len hS) rfl [.int r4] rfl ?_
      refine ok_use (P := fun j5 : Int32 => AW MX0_bareTrees E0 rmX0_bareTrees 0 0 Q 0 0 S σ 33 [(0, .ref 1), (1, .int j5), (2, .int y2)] []) (ok_b h) (fun j5 h => ?_) (fun h => ?_)
      · refine aw_run tTX0_bareTrees 2 (pc2 := 4) (L2 := [(2, .int (y2 + 1)), (0, .ref 1), (1, .int j5)]) (st2 := []) rfl ?_
        refine aw_sub [1, 2, 0] rfl ?_
        have h := ok_r h
        exact h
      · refine aw_if_eq tTX0_bareTrees rfl 33 18 rfl rfl (fun hc => ?_) (fun hc => ?_)
        · have h := ok_t hc h
          refine aw_sub [0, 1, 2] rfl ?_
          have h := ok_r h
          exact h
        · have h := ok_f hc h
          refine aw_run tTX0_bareTrees 1 (pc2 := 19) (L2 := [(0, .ref 1), (1, .int y1), (2, .int y2)]) (st2 := [.ref 1]) rfl ?_
          refine aw_getR tTX0_bareTrees rfl 22 rfl (w_1 hS) rfl flX0_9 ?_
          refine aw_run tTX0_bareTrees 1 (pc2 := 23) (L2 := [(0, .ref 1), (1, .int y1), (2, .int y2)]) (st2 := [.int y2, .ref 2]) rfl ?_
          obtain ⟨hi, h⟩ := ok_gi h
          refine aw_iald tTX0_bareTrees rfl 24 rfl (w_2 hS) hi ?_
          refine aw_if_ne tTX0_bareTrees rfl 33 27 rfl rfl (fun hc => ?_) (fun hc => ?_)
          · have h := ok_t hc h
            refine aw_sub [0, 1, 2] rfl ?_
            have h := ok_r h
            exact h
          · have h := ok_fn hc h
            refine aw_run tTX0_bareTrees 5 (pc2 := 32) (L2 := [(0, .ref 1), (1, .int y1), (2, .int y2)]) (st2 := [.int (y1 ||| ((1 : Int32) <<< (y2 &&& 31)))]) rfl ?_
            refine aw_nm (fun x6 ex6 => ?_)
            have h := ok_nm h x6 ex6
            refine aw_run tTX0_bareTrees 1 (pc2 := 33) (L2 := [(1, .int x6), (0, .ref 1), (2, .int y2)]) (st2 := []) rfl ?_
            refine aw_sub [1, 0, 2] rfl ?_
            have h := ok_r h
            exact h
theorem s_X0_bareTrees {g : Nat → Option Nat} {S : List SC} (hS : Wf g S) {σ : St}  {r : Int32} (e : f_X0_bareTrees 1  σ = some r) : Fn MX0_bareTrees rmX0_bareTrees [.ref 1] S σ (some (.int r)) σ := Sp.of (by decide) (Nat.le_of_ble_eq_true rfl) (t_X0_bareTrees hS  ⟨r, e, rfl, rfl, rfl⟩)
def l_X0_robbedTrees_4 (b : Nat) (σ : St) (y1 : Int32) (y2 : Int32) : Option ((Int32 × Int32) ⊕ (Int32)) := if 6 ≤ y2 then (some (.inr y1)) else (gi y2 6 (nm (y1 ||| (σ (b + 4) y2.toNatClampNeg)) (fun (x4 : Int32) => some (.inl (x4, y2 + 1)))))
def f_X0_robbedTrees (b : Nat)  (σ : St) : Option (Int32) := Option.bind (loop (fun s : Int32 × Int32 => l_X0_robbedTrees_4 b σ s.1 s.2) 400 (0, 0)) (fun (z3 : Int32) => some (z3))
set_option maxHeartbeats 4000000 in
set_option maxRecDepth 20000 in
theorem t_X0_robbedTrees {g : Nat → Option Nat} {S : List SC} (hS : Wf g S) {σ : St} {Q : QT}  (h : ok (f_X0_robbedTrees 1  σ) (fun r => Q (some (.int r)) S σ)) : AW MX0_robbedTrees E0 rmX0_robbedTrees 0 0 Q 0 0 S σ 0 [(0, .ref 1)] [] := by
  unfold f_X0_robbedTrees at h
  refine aw_run tTX0_robbedTrees 4 (pc2 := 4) (L2 := [(2, .int 0), (1, .int 0), (0, .ref 1)]) (st2 := []) rfl ?_
  refine ok_use (P := fun z3 : Int32 => AW MX0_robbedTrees E0 rmX0_robbedTrees 0 0 Q 0 0 S σ 25 [(1, .int z3)] []) (ok_b h) (fun z3 h => ?_) (fun h => ?_)
  · refine aw_run tTX0_robbedTrees 1 (pc2 := 26) (L2 := [(1, .int z3)]) (st2 := [.int z3]) rfl ?_
    have h := ok_r h
    exact aw_ir tTX0_robbedTrees rfl rfl rfl (Nat.le_refl _) (Nat.le_refl _) h
  · refine aw_sub [2, 1, 0] rfl ?_
    refine loop_P (P := fun s : Int32 × Int32 => AW MX0_robbedTrees E0 rmX0_robbedTrees 0 0 Q 0 0 S σ 4 [(0, .ref 1), (1, .int s.1), (2, .int s.2)] []) (fun s h => ?_) _ _ h
    obtain ⟨y1, y2⟩ := s
    replace h : ok (l_X0_robbedTrees_4 1 σ y1 y2) _ := h
    unfold l_X0_robbedTrees_4 at h
    show AW MX0_robbedTrees E0 rmX0_robbedTrees 0 0 Q 0 0 S σ 4 [(0, .ref 1), (1, .int y1), (2, .int y2)] []
    refine aw_run tTX0_robbedTrees 2 (pc2 := 7) (L2 := [(0, .ref 1), (1, .int y1), (2, .int y2)]) (st2 := [.int 6, .int y2]) rfl ?_
    refine aw_icmp_ge tTX0_robbedTrees rfl 25 10 rfl rfl (fun hc => ?_) (fun hc => ?_)
    · have h := ok_t hc h
      refine aw_sub [1] rfl ?_
      have h := ok_r h
      exact h
    · have h := ok_f hc h
      refine aw_run tTX0_robbedTrees 2 (pc2 := 12) (L2 := [(0, .ref 1), (1, .int y1), (2, .int y2)]) (st2 := [.ref 1, .int y1]) rfl ?_
      refine aw_getR tTX0_robbedTrees rfl 15 rfl (w_1 hS) rfl flX0_21 ?_
      refine aw_run tTX0_robbedTrees 1 (pc2 := 16) (L2 := [(0, .ref 1), (1, .int y1), (2, .int y2)]) (st2 := [.int y2, .ref 5, .int y1]) rfl ?_
      obtain ⟨hi, h⟩ := ok_gi h
      refine aw_iald tTX0_robbedTrees rfl 17 rfl (w_5 hS) hi ?_
      refine aw_run tTX0_robbedTrees 1 (pc2 := 18) (L2 := [(0, .ref 1), (1, .int y1), (2, .int y2)]) (st2 := [.int (y1 ||| (σ 5 y2.toNatClampNeg))]) rfl ?_
      refine aw_nm (fun x4 ex4 => ?_)
      have h := ok_nm h x4 ex4
      refine aw_run tTX0_robbedTrees 1 (pc2 := 19) (L2 := [(1, .int x4), (0, .ref 1), (2, .int y2)]) (st2 := []) rfl ?_
      refine aw_run tTX0_robbedTrees 2 (pc2 := 4) (L2 := [(2, .int (y2 + 1)), (1, .int x4), (0, .ref 1)]) (st2 := []) rfl ?_
      refine aw_sub [2, 1, 0] rfl ?_
      have h := ok_r h
      exact h
theorem s_X0_robbedTrees {g : Nat → Option Nat} {S : List SC} (hS : Wf g S) {σ : St}  {r : Int32} (e : f_X0_robbedTrees 1  σ = some r) : Fn MX0_robbedTrees rmX0_robbedTrees [.ref 1] S σ (some (.int r)) σ := Sp.of (by decide) (Nat.le_of_ble_eq_true rfl) (t_X0_robbedTrees hS  ⟨r, e, rfl, rfl, rfl⟩)
def l_X0_greatestHeap_5 (b : Nat) (σ : St) (y1 : Int32) (y2 : Int32) : Option ((Int32 × Int32) ⊕ (Int32)) := if 6 ≤ y2 then (some (.inr y1)) else (Option.bind (f_X0_has b y2 σ) (fun r4 => Option.bind (α := Int32) (if r4 = 0 then (some y1) else (if y1 = (-6 : Int32) then (some y2) else (gi y2 6 (gi y1 6 (if (σ (b + 3) y2.toNatClampNeg) ≤ (σ (b + 3) y1.toNatClampNeg) then (some y1) else (some y2)))))) (fun (j5 : Int32) => some (.inl (j5, y2 + 1)))))
def f_X0_greatestHeap (b : Nat)  (σ : St) : Option (Int32) := Option.bind (loop (fun s : Int32 × Int32 => l_X0_greatestHeap_5 b σ s.1 s.2) 400 ((-6 : Int32), 0)) (fun (z3 : Int32) => some (z3))
set_option maxHeartbeats 4000000 in
set_option maxRecDepth 20000 in
theorem t_X0_greatestHeap {g : Nat → Option Nat} {S : List SC} (hS : Wf g S) {σ : St} {Q : QT}  (h : ok (f_X0_greatestHeap 1  σ) (fun r => Q (some (.int r)) S σ)) : AW MX0_greatestHeap E0 rmX0_greatestHeap 0 0 Q 0 0 S σ 0 [(0, .ref 1)] [] := by
  unfold f_X0_greatestHeap at h
  refine aw_run tTX0_greatestHeap 4 (pc2 := 5) (L2 := [(2, .int 0), (1, .int (-6 : Int32)), (0, .ref 1)]) (st2 := []) rfl ?_
  refine ok_use (P := fun z3 : Int32 => AW MX0_greatestHeap E0 rmX0_greatestHeap 0 0 Q 0 0 S σ 48 [(1, .int z3)] []) (ok_b h) (fun z3 h => ?_) (fun h => ?_)
  · refine aw_run tTX0_greatestHeap 1 (pc2 := 49) (L2 := [(1, .int z3)]) (st2 := [.int z3]) rfl ?_
    have h := ok_r h
    exact aw_ir tTX0_greatestHeap rfl rfl rfl (Nat.le_refl _) (Nat.le_refl _) h
  · refine aw_sub [2, 1, 0] rfl ?_
    refine loop_P (P := fun s : Int32 × Int32 => AW MX0_greatestHeap E0 rmX0_greatestHeap 0 0 Q 0 0 S σ 5 [(0, .ref 1), (1, .int s.1), (2, .int s.2)] []) (fun s h => ?_) _ _ h
    obtain ⟨y1, y2⟩ := s
    replace h : ok (l_X0_greatestHeap_5 1 σ y1 y2) _ := h
    unfold l_X0_greatestHeap_5 at h
    show AW MX0_greatestHeap E0 rmX0_greatestHeap 0 0 Q 0 0 S σ 5 [(0, .ref 1), (1, .int y1), (2, .int y2)] []
    refine aw_run tTX0_greatestHeap 2 (pc2 := 8) (L2 := [(0, .ref 1), (1, .int y1), (2, .int y2)]) (st2 := [.int 6, .int y2]) rfl ?_
    refine aw_icmp_ge tTX0_greatestHeap rfl 48 11 rfl rfl (fun hc => ?_) (fun hc => ?_)
    · have h := ok_t hc h
      refine aw_sub [1] rfl ?_
      have h := ok_r h
      exact h
    · have h := ok_f hc h
      refine aw_run tTX0_greatestHeap 2 (pc2 := 13) (L2 := [(0, .ref 1), (1, .int y1), (2, .int y2)]) (st2 := [.int y2, .ref 1]) rfl ?_
      obtain ⟨r4, er4, h⟩ := ok_b h
      refine aw_cV tTX0_greatestHeap rfl 16 rfl (M' := MX0_has) (av := [.int y2]) (rest := []) rfl lkX0_58 hMX0_has rfl (w_1 hS) ⟨_, _, rfl⟩ (s_X0_has_1 hS er4) ⟨rfl, rfl, ⟨by decide, by decide⟩, by decide, by decide⟩ (Nat.le_of_ble_eq_true rfl) 46 (wf_len hS) rfl [.int r4] rfl ?_
      refine ok_use (P := fun j5 : Int32 => AW MX0_greatestHeap E0 rmX0_greatestHeap 0 0 Q 0 0 S σ 42 [(0, .ref 1), (1, .int j5), (2, .int y2)] []) (ok_b h) (fun j5 h => ?_) (fun h => ?_)
      · refine aw_run tTX0_greatestHeap 2 (pc2 := 5) (L2 := [(2, .int (y2 + 1)), (0, .ref 1), (1, .int j5)]) (st2 := []) rfl ?_
        refine aw_sub [1, 2, 0] rfl ?_
        have h := ok_r h
        exact h
      · refine aw_if_eq tTX0_greatestHeap rfl 42 19 rfl rfl (fun hc => ?_) (fun hc => ?_)
        · have h := ok_t hc h
          refine aw_sub [0, 1, 2] rfl ?_
          have h := ok_r h
          exact h
        · have h := ok_f hc h
          refine aw_run tTX0_greatestHeap 2 (pc2 := 22) (L2 := [(0, .ref 1), (1, .int y1), (2, .int y2)]) (st2 := [.int (-6 : Int32), .int y1]) rfl ?_
          refine aw_icmp_eq tTX0_greatestHeap rfl 40 25 rfl rfl (fun hc => ?_) (fun hc => ?_)
          · have h := ok_t hc h
            refine aw_run tTX0_greatestHeap 2 (pc2 := 42) (L2 := [(1, .int y2), (0, .ref 1), (2, .int y2)]) (st2 := []) rfl ?_
            refine aw_sub [1, 0, 2] rfl ?_
            have h := ok_r h
            exact h
          · have h := ok_f hc h
            refine aw_run tTX0_greatestHeap 1 (pc2 := 26) (L2 := [(0, .ref 1), (1, .int y1), (2, .int y2)]) (st2 := [.ref 1]) rfl ?_
            refine aw_getR tTX0_greatestHeap rfl 29 rfl (w_1 hS) rfl flX0_18 ?_
            refine aw_run tTX0_greatestHeap 1 (pc2 := 30) (L2 := [(0, .ref 1), (1, .int y1), (2, .int y2)]) (st2 := [.int y2, .ref 4]) rfl ?_
            obtain ⟨hi, h⟩ := ok_gi h
            refine aw_iald tTX0_greatestHeap rfl 31 rfl (w_4 hS) hi ?_
            refine aw_run tTX0_greatestHeap 1 (pc2 := 32) (L2 := [(0, .ref 1), (1, .int y1), (2, .int y2)]) (st2 := [.ref 1, .int (σ 4 y2.toNatClampNeg)]) rfl ?_
            refine aw_getR tTX0_greatestHeap rfl 35 rfl (w_1 hS) rfl flX0_18 ?_
            refine aw_run tTX0_greatestHeap 1 (pc2 := 36) (L2 := [(0, .ref 1), (1, .int y1), (2, .int y2)]) (st2 := [.int y1, .ref 4, .int (σ 4 y2.toNatClampNeg)]) rfl ?_
            obtain ⟨hi, h⟩ := ok_gi h
            refine aw_iald tTX0_greatestHeap rfl 37 rfl (w_4 hS) hi ?_
            refine aw_icmp_le tTX0_greatestHeap rfl 42 40 rfl rfl (fun hc => ?_) (fun hc => ?_)
            · have h := ok_t hc h
              refine aw_sub [0, 1, 2] rfl ?_
              have h := ok_r h
              exact h
            · have h := ok_f hc h
              refine aw_run tTX0_greatestHeap 2 (pc2 := 42) (L2 := [(1, .int y2), (0, .ref 1), (2, .int y2)]) (st2 := []) rfl ?_
              refine aw_sub [1, 0, 2] rfl ?_
              have h := ok_r h
              exact h
theorem s_X0_greatestHeap {g : Nat → Option Nat} {S : List SC} (hS : Wf g S) {σ : St}  {r : Int32} (e : f_X0_greatestHeap 1  σ = some r) : Fn MX0_greatestHeap rmX0_greatestHeap [.ref 1] S σ (some (.int r)) σ := Sp.of (by decide) (Nat.le_of_ble_eq_true rfl) (t_X0_greatestHeap hS  ⟨r, e, rfl, rfl, rfl⟩)
def l_X0_smallerHeaps_4 (b : Nat) (a1 : Int32) (σ : St) (y1 : Int32) (y2 : Int32) : Option ((Int32 × Int32) ⊕ (Int32)) := if 6 ≤ y2 then (some (.inr y1)) else (gi y2 6 (gi a1 6 (Option.bind (α := Int32) (if (σ (b + 3) a1.toNatClampNeg) ≤ (σ (b + 3) y2.toNatClampNeg) then (some 0) else (some 1)) (fun (j4 : Int32) => gi y2 6 (gi a1 6 (Option.bind (α := Int32) (if ¬ (σ (b + 3) y2.toNatClampNeg) = (σ (b + 3) a1.toNatClampNeg) then (some 0) else (if a1 ≤ y2 then (some 0) else (some 1))) (fun (j5 : Int32) => Option.bind (f_X0_has b y2 σ) (fun r6 => Option.bind (α := Int32) (if r6 = 0 then (some y1) else (if ¬ j4 = 0 then (some (y1 + 1)) else (if j5 = 0 then (some y1) else (some (y1 + 1))))) (fun (j7 : Int32) => some (.inl (j7, y2 + 1)))))))))))
def f_X0_smallerHeaps (b : Nat) (a1 : Int32) (σ : St) : Option (Int32) := Option.bind (loop (fun s : Int32 × Int32 => l_X0_smallerHeaps_4 b a1 σ s.1 s.2) 400 (0, 0)) (fun (z3 : Int32) => some (z3))
set_option maxHeartbeats 4000000 in
set_option maxRecDepth 20000 in
theorem t_X0_smallerHeaps {g : Nat → Option Nat} {S : List SC} (hS : Wf g S) {σ : St} {Q : QT} (a1 : Int32) (h : ok (f_X0_smallerHeaps 1 a1 σ) (fun r => Q (some (.int r)) S σ)) : AW MX0_smallerHeaps E0 rmX0_smallerHeaps 0 0 Q 0 0 S σ 0 [(0, .ref 1), (1, .int a1)] [] := by
  unfold f_X0_smallerHeaps at h
  refine aw_run tTX0_smallerHeaps 4 (pc2 := 4) (L2 := [(3, .int 0), (2, .int 0), (0, .ref 1), (1, .int a1)]) (st2 := []) rfl ?_
  refine ok_use (P := fun z3 : Int32 => AW MX0_smallerHeaps E0 rmX0_smallerHeaps 0 0 Q 0 0 S σ 86 [(2, .int z3)] []) (ok_b h) (fun z3 h => ?_) (fun h => ?_)
  · refine aw_run tTX0_smallerHeaps 1 (pc2 := 87) (L2 := [(2, .int z3)]) (st2 := [.int z3]) rfl ?_
    have h := ok_r h
    exact aw_ir tTX0_smallerHeaps rfl rfl rfl (Nat.le_refl _) (Nat.le_refl _) h
  · refine aw_sub [2, 3, 1, 0] rfl ?_
    refine loop_P (P := fun s : Int32 × Int32 => AW MX0_smallerHeaps E0 rmX0_smallerHeaps 0 0 Q 0 0 S σ 4 [(0, .ref 1), (1, .int a1), (2, .int s.1), (3, .int s.2)] []) (fun s h => ?_) _ _ h
    obtain ⟨y1, y2⟩ := s
    replace h : ok (l_X0_smallerHeaps_4 1 a1 σ y1 y2) _ := h
    unfold l_X0_smallerHeaps_4 at h
    show AW MX0_smallerHeaps E0 rmX0_smallerHeaps 0 0 Q 0 0 S σ 4 [(0, .ref 1), (1, .int a1), (2, .int y1), (3, .int y2)] []
    refine aw_run tTX0_smallerHeaps 2 (pc2 := 7) (L2 := [(0, .ref 1), (1, .int a1), (2, .int y1), (3, .int y2)]) (st2 := [.int 6, .int y2]) rfl ?_
    refine aw_icmp_ge tTX0_smallerHeaps rfl 86 10 rfl rfl (fun hc => ?_) (fun hc => ?_)
    · have h := ok_t hc h
      refine aw_sub [2] rfl ?_
      have h := ok_r h
      exact h
    · have h := ok_f hc h
      refine aw_run tTX0_smallerHeaps 1 (pc2 := 11) (L2 := [(0, .ref 1), (1, .int a1), (2, .int y1), (3, .int y2)]) (st2 := [.ref 1]) rfl ?_
      refine aw_getR tTX0_smallerHeaps rfl 14 rfl (w_1 hS) rfl flX0_18 ?_
      refine aw_run tTX0_smallerHeaps 1 (pc2 := 15) (L2 := [(0, .ref 1), (1, .int a1), (2, .int y1), (3, .int y2)]) (st2 := [.int y2, .ref 4]) rfl ?_
      obtain ⟨hi, h⟩ := ok_gi h
      refine aw_iald tTX0_smallerHeaps rfl 16 rfl (w_4 hS) hi ?_
      refine aw_run tTX0_smallerHeaps 1 (pc2 := 17) (L2 := [(0, .ref 1), (1, .int a1), (2, .int y1), (3, .int y2)]) (st2 := [.ref 1, .int (σ 4 y2.toNatClampNeg)]) rfl ?_
      refine aw_getR tTX0_smallerHeaps rfl 20 rfl (w_1 hS) rfl flX0_18 ?_
      refine aw_run tTX0_smallerHeaps 1 (pc2 := 21) (L2 := [(0, .ref 1), (1, .int a1), (2, .int y1), (3, .int y2)]) (st2 := [.int a1, .ref 4, .int (σ 4 y2.toNatClampNeg)]) rfl ?_
      obtain ⟨hi, h⟩ := ok_gi h
      refine aw_iald tTX0_smallerHeaps rfl 22 rfl (w_4 hS) hi ?_
      refine ok_use (P := fun j4 : Int32 => AW MX0_smallerHeaps E0 rmX0_smallerHeaps 0 0 Q 0 0 S σ 30 [(0, .ref 1), (1, .int a1), (2, .int y1), (3, .int y2)] [.int j4]) (ok_b h) (fun j4 h => ?_) (fun h => ?_)
      · refine aw_run tTX0_smallerHeaps 2 (pc2 := 33) (L2 := [(4, .int j4), (0, .ref 1), (1, .int a1), (2, .int y1), (3, .int y2)]) (st2 := [.ref 1]) rfl ?_
        refine aw_getR tTX0_smallerHeaps rfl 36 rfl (w_1 hS) rfl flX0_18 ?_
        refine aw_run tTX0_smallerHeaps 1 (pc2 := 37) (L2 := [(4, .int j4), (0, .ref 1), (1, .int a1), (2, .int y1), (3, .int y2)]) (st2 := [.int y2, .ref 4]) rfl ?_
        obtain ⟨hi, h⟩ := ok_gi h
        refine aw_iald tTX0_smallerHeaps rfl 38 rfl (w_4 hS) hi ?_
        refine aw_run tTX0_smallerHeaps 1 (pc2 := 39) (L2 := [(4, .int j4), (0, .ref 1), (1, .int a1), (2, .int y1), (3, .int y2)]) (st2 := [.ref 1, .int (σ 4 y2.toNatClampNeg)]) rfl ?_
        refine aw_getR tTX0_smallerHeaps rfl 42 rfl (w_1 hS) rfl flX0_18 ?_
        refine aw_run tTX0_smallerHeaps 1 (pc2 := 43) (L2 := [(4, .int j4), (0, .ref 1), (1, .int a1), (2, .int y1), (3, .int y2)]) (st2 := [.int a1, .ref 4, .int (σ 4 y2.toNatClampNeg)]) rfl ?_
        obtain ⟨hi, h⟩ := ok_gi h
        refine aw_iald tTX0_smallerHeaps rfl 44 rfl (w_4 hS) hi ?_
        refine ok_use (P := fun j5 : Int32 => AW MX0_smallerHeaps E0 rmX0_smallerHeaps 0 0 Q 0 0 S σ 57 [(0, .ref 1), (1, .int a1), (2, .int y1), (3, .int y2), (4, .int j4)] [.int j5]) (ok_b h) (fun j5 h => ?_) (fun h => ?_)
        · refine aw_run tTX0_smallerHeaps 3 (pc2 := 61) (L2 := [(5, .int j5), (0, .ref 1), (1, .int a1), (2, .int y1), (3, .int y2), (4, .int j4)]) (st2 := [.int y2, .ref 1]) rfl ?_
          obtain ⟨r6, er6, h⟩ := ok_b h
          refine aw_cV tTX0_smallerHeaps rfl 64 rfl (M' := MX0_has) (av := [.int y2]) (rest := []) rfl lkX0_58 hMX0_has rfl (w_1 hS) ⟨_, _, rfl⟩ (s_X0_has_1 hS er6) ⟨rfl, rfl, ⟨by decide, by decide⟩, by decide, by decide⟩ (Nat.le_of_ble_eq_true rfl) 46 (wf_len hS) rfl [.int r6] rfl ?_
          refine ok_use (P := fun j7 : Int32 => AW MX0_smallerHeaps E0 rmX0_smallerHeaps 0 0 Q 0 0 S σ 80 [(0, .ref 1), (1, .int a1), (2, .int j7), (3, .int y2)] []) (ok_b h) (fun j7 h => ?_) (fun h => ?_)
          · refine aw_run tTX0_smallerHeaps 2 (pc2 := 4) (L2 := [(3, .int (y2 + 1)), (0, .ref 1), (1, .int a1), (2, .int j7)]) (st2 := []) rfl ?_
            refine aw_sub [1, 2, 3, 0] rfl ?_
            have h := ok_r h
            exact h
          · refine aw_if_eq tTX0_smallerHeaps rfl 80 67 rfl rfl (fun hc => ?_) (fun hc => ?_)
            · have h := ok_t hc h
              refine aw_sub [1, 2, 3, 4] rfl ?_
              have h := ok_r h
              exact h
            · have h := ok_f hc h
              refine aw_run tTX0_smallerHeaps 1 (pc2 := 69) (L2 := [(5, .int j5), (0, .ref 1), (1, .int a1), (2, .int y1), (3, .int y2), (4, .int j4)]) (st2 := [.int j4]) rfl ?_
              refine aw_if_ne tTX0_smallerHeaps rfl 77 72 rfl rfl (fun hc => ?_) (fun hc => ?_)
              · have h := ok_t hc h
                refine aw_run tTX0_smallerHeaps 1 (pc2 := 80) (L2 := [(2, .int (y1 + 1)), (5, .int j5), (0, .ref 1), (1, .int a1), (3, .int y2), (4, .int j4)]) (st2 := []) rfl ?_
                refine aw_sub [2, 3, 0, 4] rfl ?_
                have h := ok_r h
                exact h
              · have h := ok_fn hc h
                refine aw_run tTX0_smallerHeaps 1 (pc2 := 74) (L2 := [(5, .int j5), (0, .ref 1), (1, .int a1), (2, .int y1), (3, .int y2), (4, .int j4)]) (st2 := [.int j5]) rfl ?_
                refine aw_if_eq tTX0_smallerHeaps rfl 80 77 rfl rfl (fun hc => ?_) (fun hc => ?_)
                · have h := ok_t hc h
                  refine aw_sub [1, 2, 3, 4] rfl ?_
                  have h := ok_r h
                  exact h
                · have h := ok_f hc h
                  refine aw_run tTX0_smallerHeaps 1 (pc2 := 80) (L2 := [(2, .int (y1 + 1)), (5, .int j5), (0, .ref 1), (1, .int a1), (3, .int y2), (4, .int j4)]) (st2 := []) rfl ?_
                  refine aw_sub [2, 3, 0, 4] rfl ?_
                  have h := ok_r h
                  exact h
        · refine aw_icmp_ne tTX0_smallerHeaps rfl 56 47 rfl rfl (fun hc => ?_) (fun hc => ?_)
          · have h := ok_t hc h
            refine aw_run tTX0_smallerHeaps 1 (pc2 := 57) (L2 := [(4, .int j4), (0, .ref 1), (1, .int a1), (2, .int y1), (3, .int y2)]) (st2 := [.int 0]) rfl ?_
            refine aw_sub [1, 2, 3, 4, 0] rfl ?_
            have h := ok_r h
            exact h
          · have h := ok_fn hc h
            refine aw_run tTX0_smallerHeaps 2 (pc2 := 49) (L2 := [(4, .int j4), (0, .ref 1), (1, .int a1), (2, .int y1), (3, .int y2)]) (st2 := [.int a1, .int y2]) rfl ?_
            refine aw_icmp_ge tTX0_smallerHeaps rfl 56 52 rfl rfl (fun hc => ?_) (fun hc => ?_)
            · have h := ok_t hc h
              refine aw_run tTX0_smallerHeaps 1 (pc2 := 57) (L2 := [(4, .int j4), (0, .ref 1), (1, .int a1), (2, .int y1), (3, .int y2)]) (st2 := [.int 0]) rfl ?_
              refine aw_sub [1, 2, 3, 4, 0] rfl ?_
              have h := ok_r h
              exact h
            · have h := ok_f hc h
              refine aw_run tTX0_smallerHeaps 2 (pc2 := 57) (L2 := [(4, .int j4), (0, .ref 1), (1, .int a1), (2, .int y1), (3, .int y2)]) (st2 := [.int 1]) rfl ?_
              refine aw_sub [1, 2, 3, 4, 0] rfl ?_
              have h := ok_r h
              exact h
      · refine aw_icmp_ge tTX0_smallerHeaps rfl 29 25 rfl rfl (fun hc => ?_) (fun hc => ?_)
        · have h := ok_t hc h
          refine aw_run tTX0_smallerHeaps 1 (pc2 := 30) (L2 := [(0, .ref 1), (1, .int a1), (2, .int y1), (3, .int y2)]) (st2 := [.int 0]) rfl ?_
          refine aw_sub [0, 1, 2, 3] rfl ?_
          have h := ok_r h
          exact h
        · have h := ok_f hc h
          refine aw_run tTX0_smallerHeaps 2 (pc2 := 30) (L2 := [(0, .ref 1), (1, .int a1), (2, .int y1), (3, .int y2)]) (st2 := [.int 1]) rfl ?_
          refine aw_sub [0, 1, 2, 3] rfl ?_
          have h := ok_r h
          exact h
theorem s_X0_smallerHeaps {g : Nat → Option Nat} {S : List SC} (hS : Wf g S) {σ : St} {a1 : Int32} {r : Int32} (e : f_X0_smallerHeaps 1 a1 σ = some r) : Fn MX0_smallerHeaps rmX0_smallerHeaps [.ref 1, .int a1] S σ (some (.int r)) σ := Sp.of (by decide) (Nat.le_of_ble_eq_true rfl) (t_X0_smallerHeaps hS a1 ⟨r, e, rfl, rfl, rfl⟩)
def l_X0_heapsTogether_4 (b : Nat) (σ : St) (y1 : Int32) (y2 : Int32) : Option ((Int32 × Int32) ⊕ (Int32)) := if 6 ≤ y2 then (some (.inr y1)) else (gi y2 6 (nm (y1 + (σ (b + 3) y2.toNatClampNeg)) (fun (x4 : Int32) => some (.inl (x4, y2 + 1)))))
def f_X0_heapsTogether (b : Nat)  (σ : St) : Option (Int32) := Option.bind (loop (fun s : Int32 × Int32 => l_X0_heapsTogether_4 b σ s.1 s.2) 400 (0, 0)) (fun (z3 : Int32) => some (z3))
set_option maxHeartbeats 4000000 in
set_option maxRecDepth 20000 in
theorem t_X0_heapsTogether {g : Nat → Option Nat} {S : List SC} (hS : Wf g S) {σ : St} {Q : QT}  (h : ok (f_X0_heapsTogether 9  σ) (fun r => Q (some (.int r)) S σ)) : AW MX0_heapsTogether E0 rmX0_heapsTogether 0 0 Q 0 0 S σ 0 [(0, .ref 9)] [] := by
  unfold f_X0_heapsTogether at h
  refine aw_run tTX0_heapsTogether 4 (pc2 := 4) (L2 := [(2, .int 0), (1, .int 0), (0, .ref 9)]) (st2 := []) rfl ?_
  refine ok_use (P := fun z3 : Int32 => AW MX0_heapsTogether E0 rmX0_heapsTogether 0 0 Q 0 0 S σ 25 [(1, .int z3)] []) (ok_b h) (fun z3 h => ?_) (fun h => ?_)
  · refine aw_run tTX0_heapsTogether 1 (pc2 := 26) (L2 := [(1, .int z3)]) (st2 := [.int z3]) rfl ?_
    have h := ok_r h
    exact aw_ir tTX0_heapsTogether rfl rfl rfl (Nat.le_refl _) (Nat.le_refl _) h
  · refine aw_sub [2, 1, 0] rfl ?_
    refine loop_P (P := fun s : Int32 × Int32 => AW MX0_heapsTogether E0 rmX0_heapsTogether 0 0 Q 0 0 S σ 4 [(0, .ref 9), (1, .int s.1), (2, .int s.2)] []) (fun s h => ?_) _ _ h
    obtain ⟨y1, y2⟩ := s
    replace h : ok (l_X0_heapsTogether_4 9 σ y1 y2) _ := h
    unfold l_X0_heapsTogether_4 at h
    show AW MX0_heapsTogether E0 rmX0_heapsTogether 0 0 Q 0 0 S σ 4 [(0, .ref 9), (1, .int y1), (2, .int y2)] []
    refine aw_run tTX0_heapsTogether 2 (pc2 := 7) (L2 := [(0, .ref 9), (1, .int y1), (2, .int y2)]) (st2 := [.int 6, .int y2]) rfl ?_
    refine aw_icmp_ge tTX0_heapsTogether rfl 25 10 rfl rfl (fun hc => ?_) (fun hc => ?_)
    · have h := ok_t hc h
      refine aw_sub [1] rfl ?_
      have h := ok_r h
      exact h
    · have h := ok_f hc h
      refine aw_run tTX0_heapsTogether 2 (pc2 := 12) (L2 := [(0, .ref 9), (1, .int y1), (2, .int y2)]) (st2 := [.ref 9, .int y1]) rfl ?_
      refine aw_getR tTX0_heapsTogether rfl 15 rfl (w_9 hS) rfl flX0_18 ?_
      refine aw_run tTX0_heapsTogether 1 (pc2 := 16) (L2 := [(0, .ref 9), (1, .int y1), (2, .int y2)]) (st2 := [.int y2, .ref 12, .int y1]) rfl ?_
      obtain ⟨hi, h⟩ := ok_gi h
      refine aw_iald tTX0_heapsTogether rfl 17 rfl (w_12 hS) hi ?_
      refine aw_run tTX0_heapsTogether 1 (pc2 := 18) (L2 := [(0, .ref 9), (1, .int y1), (2, .int y2)]) (st2 := [.int (y1 + (σ 12 y2.toNatClampNeg))]) rfl ?_
      refine aw_nm (fun x4 ex4 => ?_)
      have h := ok_nm h x4 ex4
      refine aw_run tTX0_heapsTogether 1 (pc2 := 19) (L2 := [(1, .int x4), (0, .ref 9), (2, .int y2)]) (st2 := []) rfl ?_
      refine aw_run tTX0_heapsTogether 2 (pc2 := 4) (L2 := [(2, .int (y2 + 1)), (1, .int x4), (0, .ref 9)]) (st2 := []) rfl ?_
      refine aw_sub [2, 1, 0] rfl ?_
      have h := ok_r h
      exact h
theorem s_X0_heapsTogether {g : Nat → Option Nat} {S : List SC} (hS : Wf g S) {σ : St}  {r : Int32} (e : f_X0_heapsTogether 9  σ = some r) : Fn MX0_heapsTogether rmX0_heapsTogether [.ref 9] S σ (some (.int r)) σ := Sp.of (by decide) (Nat.le_of_ble_eq_true rfl) (t_X0_heapsTogether hS  ⟨r, e, rfl, rfl, rfl⟩)
def l_X0_applesTogether_4 (b : Nat) (σ : St) (y1 : Int32) (y2 : Int32) : Option ((Int32 × Int32) ⊕ (Int32)) := if 6 ≤ y2 then (some (.inr y1)) else (gi y2 6 (nm (y1 + (σ (b + 1) y2.toNatClampNeg)) (fun (x4 : Int32) => some (.inl (x4, y2 + 1)))))
def f_X0_applesTogether (b : Nat)  (σ : St) : Option (Int32) := Option.bind (loop (fun s : Int32 × Int32 => l_X0_applesTogether_4 b σ s.1 s.2) 400 (0, 0)) (fun (z3 : Int32) => some (z3))
set_option maxHeartbeats 4000000 in
set_option maxRecDepth 20000 in
theorem t_X0_applesTogether {g : Nat → Option Nat} {S : List SC} (hS : Wf g S) {σ : St} {Q : QT}  (h : ok (f_X0_applesTogether 9  σ) (fun r => Q (some (.int r)) S σ)) : AW MX0_applesTogether E0 rmX0_applesTogether 0 0 Q 0 0 S σ 0 [(0, .ref 9)] [] := by
  unfold f_X0_applesTogether at h
  refine aw_run tTX0_applesTogether 4 (pc2 := 4) (L2 := [(2, .int 0), (1, .int 0), (0, .ref 9)]) (st2 := []) rfl ?_
  refine ok_use (P := fun z3 : Int32 => AW MX0_applesTogether E0 rmX0_applesTogether 0 0 Q 0 0 S σ 25 [(1, .int z3)] []) (ok_b h) (fun z3 h => ?_) (fun h => ?_)
  · refine aw_run tTX0_applesTogether 1 (pc2 := 26) (L2 := [(1, .int z3)]) (st2 := [.int z3]) rfl ?_
    have h := ok_r h
    exact aw_ir tTX0_applesTogether rfl rfl rfl (Nat.le_refl _) (Nat.le_refl _) h
  · refine aw_sub [2, 1, 0] rfl ?_
    refine loop_P (P := fun s : Int32 × Int32 => AW MX0_applesTogether E0 rmX0_applesTogether 0 0 Q 0 0 S σ 4 [(0, .ref 9), (1, .int s.1), (2, .int s.2)] []) (fun s h => ?_) _ _ h
    obtain ⟨y1, y2⟩ := s
    replace h : ok (l_X0_applesTogether_4 9 σ y1 y2) _ := h
    unfold l_X0_applesTogether_4 at h
    show AW MX0_applesTogether E0 rmX0_applesTogether 0 0 Q 0 0 S σ 4 [(0, .ref 9), (1, .int y1), (2, .int y2)] []
    refine aw_run tTX0_applesTogether 2 (pc2 := 7) (L2 := [(0, .ref 9), (1, .int y1), (2, .int y2)]) (st2 := [.int 6, .int y2]) rfl ?_
    refine aw_icmp_ge tTX0_applesTogether rfl 25 10 rfl rfl (fun hc => ?_) (fun hc => ?_)
    · have h := ok_t hc h
      refine aw_sub [1] rfl ?_
      have h := ok_r h
      exact h
    · have h := ok_f hc h
      refine aw_run tTX0_applesTogether 2 (pc2 := 12) (L2 := [(0, .ref 9), (1, .int y1), (2, .int y2)]) (st2 := [.ref 9, .int y1]) rfl ?_
      refine aw_getR tTX0_applesTogether rfl 15 rfl (w_9 hS) rfl flX0_9 ?_
      refine aw_run tTX0_applesTogether 1 (pc2 := 16) (L2 := [(0, .ref 9), (1, .int y1), (2, .int y2)]) (st2 := [.int y2, .ref 10, .int y1]) rfl ?_
      obtain ⟨hi, h⟩ := ok_gi h
      refine aw_iald tTX0_applesTogether rfl 17 rfl (w_10 hS) hi ?_
      refine aw_run tTX0_applesTogether 1 (pc2 := 18) (L2 := [(0, .ref 9), (1, .int y1), (2, .int y2)]) (st2 := [.int (y1 + (σ 10 y2.toNatClampNeg))]) rfl ?_
      refine aw_nm (fun x4 ex4 => ?_)
      have h := ok_nm h x4 ex4
      refine aw_run tTX0_applesTogether 1 (pc2 := 19) (L2 := [(1, .int x4), (0, .ref 9), (2, .int y2)]) (st2 := []) rfl ?_
      refine aw_run tTX0_applesTogether 2 (pc2 := 4) (L2 := [(2, .int (y2 + 1)), (1, .int x4), (0, .ref 9)]) (st2 := []) rfl ?_
      refine aw_sub [2, 1, 0] rfl ?_
      have h := ok_r h
      exact h
theorem s_X0_applesTogether {g : Nat → Option Nat} {S : List SC} (hS : Wf g S) {σ : St}  {r : Int32} (e : f_X0_applesTogether 9  σ = some r) : Fn MX0_applesTogether rmX0_applesTogether [.ref 9] S σ (some (.int r)) σ := Sp.of (by decide) (Nat.le_of_ble_eq_true rfl) (t_X0_applesTogether hS  ⟨r, e, rfl, rfl, rfl⟩)
def f_X0_wanted (b : Nat) (a1 : Int32) (a2 : Int32) (σ : St) : Option (Int32) := gi a1 6 (gz (jmax 1 a2) (some ((((σ (b + 1) a1.toNatClampNeg) + a2) - 1) / (jmax 1 a2))))
set_option maxHeartbeats 4000000 in
set_option maxRecDepth 20000 in
theorem t_X0_wanted {g : Nat → Option Nat} {S : List SC} (hS : Wf g S) {σ : St} {Q : QT} (a1 : Int32) (a2 : Int32) (h : ok (f_X0_wanted 1 a1 a2 σ) (fun r => Q (some (.int r)) S σ)) : AW MX0_wanted E0 rmX0_wanted 0 0 Q 0 0 S σ 0 [(0, .ref 1), (1, .int a1), (2, .int a2)] [] := by
  unfold f_X0_wanted at h
  refine aw_run tTX0_wanted 1 (pc2 := 1) (L2 := [(0, .ref 1), (1, .int a1), (2, .int a2)]) (st2 := [.ref 1]) rfl ?_
  refine aw_getR tTX0_wanted rfl 4 rfl (w_1 hS) rfl flX0_9 ?_
  refine aw_run tTX0_wanted 1 (pc2 := 5) (L2 := [(0, .ref 1), (1, .int a1), (2, .int a2)]) (st2 := [.int a1, .ref 2]) rfl ?_
  obtain ⟨hi, h⟩ := ok_gi h
  refine aw_iald tTX0_wanted rfl 6 rfl (w_2 hS) hi ?_
  refine aw_run tTX0_wanted 6 (pc2 := 12) (L2 := [(0, .ref 1), (1, .int a1), (2, .int a2)]) (st2 := [.int a2, .int 1, .int (((σ 2 a1.toNatClampNeg) + a2) - 1)]) rfl ?_
  refine aw_max tTX0_wanted rfl 15 rfl lkX0_123 (by decide) (Nat.le_of_ble_eq_true rfl) (Nat.zero_le _) (Nat.zero_le _) ?_
  obtain ⟨hz, h⟩ := ok_gz h
  refine aw_idiv tTX0_wanted rfl 16 rfl hz ?_
  have h := ok_r h
  exact aw_ir tTX0_wanted rfl rfl rfl (Nat.le_refl _) (Nat.le_refl _) h
theorem s_X0_wanted {g : Nat → Option Nat} {S : List SC} (hS : Wf g S) {σ : St} {a1 : Int32} {a2 : Int32} {r : Int32} (e : f_X0_wanted 1 a1 a2 σ = some r) : Fn MX0_wanted rmX0_wanted [.ref 1, .int a1, .int a2] S σ (some (.int r)) σ := Sp.of (by decide) (Nat.le_of_ble_eq_true rfl) (t_X0_wanted hS a1 a2 ⟨r, e, rfl, rfl, rfl⟩)
def l_X0_wantedTogether_4 (b : Nat) (a1 : Int32) (σ : St) (y1 : Int32) (y2 : Int32) : Option ((Int32 × Int32) ⊕ (Int32)) := if 6 ≤ y2 then (some (.inr y1)) else (Option.bind (f_X0_wanted b y2 a1 σ) (fun r4 => some (.inl (y1 + r4, y2 + 1))))
def f_X0_wantedTogether (b : Nat) (a1 : Int32) (σ : St) : Option (Int32) := Option.bind (loop (fun s : Int32 × Int32 => l_X0_wantedTogether_4 b a1 σ s.1 s.2) 400 (0, 0)) (fun (z3 : Int32) => some (z3))
set_option maxHeartbeats 4000000 in
set_option maxRecDepth 20000 in
theorem t_X0_wantedTogether {g : Nat → Option Nat} {S : List SC} (hS : Wf g S) {σ : St} {Q : QT} (a1 : Int32) (h : ok (f_X0_wantedTogether 1 a1 σ) (fun r => Q (some (.int r)) S σ)) : AW MX0_wantedTogether E0 rmX0_wantedTogether 0 0 Q 0 0 S σ 0 [(0, .ref 1), (1, .int a1)] [] := by
  unfold f_X0_wantedTogether at h
  refine aw_run tTX0_wantedTogether 4 (pc2 := 4) (L2 := [(3, .int 0), (2, .int 0), (0, .ref 1), (1, .int a1)]) (st2 := []) rfl ?_
  refine ok_use (P := fun z3 : Int32 => AW MX0_wantedTogether E0 rmX0_wantedTogether 0 0 Q 0 0 S σ 25 [(2, .int z3)] []) (ok_b h) (fun z3 h => ?_) (fun h => ?_)
  · refine aw_run tTX0_wantedTogether 1 (pc2 := 26) (L2 := [(2, .int z3)]) (st2 := [.int z3]) rfl ?_
    have h := ok_r h
    exact aw_ir tTX0_wantedTogether rfl rfl rfl (Nat.le_refl _) (Nat.le_refl _) h
  · refine aw_sub [2, 3, 1, 0] rfl ?_
    refine loop_P (P := fun s : Int32 × Int32 => AW MX0_wantedTogether E0 rmX0_wantedTogether 0 0 Q 0 0 S σ 4 [(0, .ref 1), (1, .int a1), (2, .int s.1), (3, .int s.2)] []) (fun s h => ?_) _ _ h
    obtain ⟨y1, y2⟩ := s
    replace h : ok (l_X0_wantedTogether_4 1 a1 σ y1 y2) _ := h
    unfold l_X0_wantedTogether_4 at h
    show AW MX0_wantedTogether E0 rmX0_wantedTogether 0 0 Q 0 0 S σ 4 [(0, .ref 1), (1, .int a1), (2, .int y1), (3, .int y2)] []
    refine aw_run tTX0_wantedTogether 2 (pc2 := 7) (L2 := [(0, .ref 1), (1, .int a1), (2, .int y1), (3, .int y2)]) (st2 := [.int 6, .int y2]) rfl ?_
    refine aw_icmp_ge tTX0_wantedTogether rfl 25 10 rfl rfl (fun hc => ?_) (fun hc => ?_)
    · have h := ok_t hc h
      refine aw_sub [2] rfl ?_
      have h := ok_r h
      exact h
    · have h := ok_f hc h
      refine aw_run tTX0_wantedTogether 4 (pc2 := 14) (L2 := [(0, .ref 1), (1, .int a1), (2, .int y1), (3, .int y2)]) (st2 := [.int a1, .int y2, .ref 1, .int y1]) rfl ?_
      obtain ⟨r4, er4, h⟩ := ok_b h
      refine aw_cV tTX0_wantedTogether rfl 17 rfl (M' := MX0_wanted) (av := [.int y2, .int a1]) (rest := [.int y1]) rfl lkX0_126 hMX0_wanted rfl (w_1 hS) ⟨_, _, rfl⟩ (s_X0_wanted hS er4) ⟨rfl, rfl, ⟨by decide, by decide⟩, by decide, by decide⟩ (Nat.le_of_ble_eq_true rfl) 46 (wf_len hS) rfl [.int r4, .int y1] rfl ?_
      refine aw_run tTX0_wantedTogether 4 (pc2 := 4) (L2 := [(3, .int (y2 + 1)), (2, .int (y1 + r4)), (0, .ref 1), (1, .int a1)]) (st2 := []) rfl ?_
      refine aw_sub [2, 3, 1, 0] rfl ?_
      have h := ok_r h
      exact h
theorem s_X0_wantedTogether {g : Nat → Option Nat} {S : List SC} (hS : Wf g S) {σ : St} {a1 : Int32} {r : Int32} (e : f_X0_wantedTogether 1 a1 σ = some r) : Fn MX0_wantedTogether rmX0_wantedTogether [.ref 1, .int a1] S σ (some (.int r)) σ := Sp.of (by decide) (Nat.le_of_ble_eq_true rfl) (t_X0_wantedTogether hS a1 ⟨r, e, rfl, rfl, rfl⟩)
def f_X0_addSight (b : Nat) (a1 : Int32) (a2 : Int32) (σ : St) : Option (Int32 × St) := if (σ b 7) < 8 then (gi (σ b 7) 8 (nm (up2 σ (b + 6) (σ b 7).toNatClampNeg a1) (fun σ1 => gi (σ1 b 7) 8 (nm (up2 σ1 (b + 7) (σ1 b 7).toNatClampNeg a2) (fun σ2 => nm (up2 σ2 b 7 ((σ2 b 7) + 1)) (fun σ3 => some ((1, σ3)))))))) else (some ((0, σ)))
set_option maxHeartbeats 4000000 in
set_option maxRecDepth 20000 in
theorem t_X0_addSight {g : Nat → Option Nat} {S : List SC} (hS : Wf g S) {σ : St} {Q : QT} (a1 : Int32) (a2 : Int32) (h : ok (f_X0_addSight 1 a1 a2 σ) (fun r => Q (some (.int r.1)) S r.2)) : AW MX0_addSight E0 rmX0_addSight 0 0 Q 0 0 S σ 0 [(0, .ref 1), (1, .int a1), (2, .int a2)] [] := by
  unfold f_X0_addSight at h
  refine aw_run tTX0_addSight 1 (pc2 := 1) (L2 := [(0, .ref 1), (1, .int a1), (2, .int a2)]) (st2 := [.ref 1]) rfl ?_
  refine aw_getI tTX0_addSight rfl 4 rfl (w_1 hS) rfl flX0_33 ?_
  refine aw_run tTX0_addSight 1 (pc2 := 6) (L2 := [(0, .ref 1), (1, .int a1), (2, .int a2)]) (st2 := [.int 8, .int (σ 1 7)]) rfl ?_
  refine aw_icmp_lt tTX0_addSight rfl 11 9 rfl rfl (fun hc => ?_) (fun hc => ?_)
  · have h := ok_t hc h
    refine aw_run tTX0_addSight 1 (pc2 := 12) (L2 := [(0, .ref 1), (1, .int a1), (2, .int a2)]) (st2 := [.ref 1]) rfl ?_
    refine aw_getR tTX0_addSight rfl 15 rfl (w_1 hS) rfl flX0_27 ?_
    refine aw_run tTX0_addSight 1 (pc2 := 16) (L2 := [(0, .ref 1), (1, .int a1), (2, .int a2)]) (st2 := [.ref 1, .ref 7]) rfl ?_
    refine aw_getI tTX0_addSight rfl 19 rfl (w_1 hS) rfl flX0_33 ?_
    refine aw_run tTX0_addSight 1 (pc2 := 20) (L2 := [(0, .ref 1), (1, .int a1), (2, .int a2)]) (st2 := [.int a1, .int (σ 1 7), .ref 7]) rfl ?_
    obtain ⟨hi, h⟩ := ok_gi h
    refine aw_iast tTX0_addSight rfl 21 rfl (w_7 hS) hi ?_
    refine aw_nmS (fun σ1 eσ1 => ?_)
    have h := ok_nm h σ1 eσ1
    refine aw_run tTX0_addSight 1 (pc2 := 22) (L2 := [(0, .ref 1), (1, .int a1), (2, .int a2)]) (st2 := [.ref 1]) rfl ?_
    refine aw_getR tTX0_addSight rfl 25 rfl (w_1 hS) rfl flX0_30 ?_
    refine aw_run tTX0_addSight 1 (pc2 := 26) (L2 := [(0, .ref 1), (1, .int a1), (2, .int a2)]) (st2 := [.ref 1, .ref 8]) rfl ?_
    refine aw_getI tTX0_addSight rfl 29 rfl (w_1 hS) rfl flX0_33 ?_
    refine aw_run tTX0_addSight 1 (pc2 := 30) (L2 := [(0, .ref 1), (1, .int a1), (2, .int a2)]) (st2 := [.int a2, .int (σ1 1 7), .ref 8]) rfl ?_
    obtain ⟨hi, h⟩ := ok_gi h
    refine aw_iast tTX0_addSight rfl 31 rfl (w_8 hS) hi ?_
    refine aw_nmS (fun σ2 eσ2 => ?_)
    have h := ok_nm h σ2 eσ2
    refine aw_run tTX0_addSight 2 (pc2 := 33) (L2 := [(0, .ref 1), (1, .int a1), (2, .int a2)]) (st2 := [.ref 1, .ref 1]) rfl ?_
    refine aw_getI tTX0_addSight rfl 36 rfl (w_1 hS) rfl flX0_33 ?_
    refine aw_run tTX0_addSight 2 (pc2 := 38) (L2 := [(0, .ref 1), (1, .int a1), (2, .int a2)]) (st2 := [.int ((σ2 1 7) + 1), .ref 1]) rfl ?_
    refine aw_putI tTX0_addSight rfl 41 rfl (w_1 hS) rfl fpX0_33 ?_
    refine aw_nmS (fun σ3 eσ3 => ?_)
    have h := ok_nm h σ3 eσ3
    refine aw_run tTX0_addSight 1 (pc2 := 42) (L2 := [(0, .ref 1), (1, .int a1), (2, .int a2)]) (st2 := [.int 1]) rfl ?_
    have h := ok_r h
    exact aw_ir tTX0_addSight rfl rfl rfl (Nat.le_refl _) (Nat.le_refl _) h
  · have h := ok_f hc h
    refine aw_run tTX0_addSight 1 (pc2 := 10) (L2 := [(0, .ref 1), (1, .int a1), (2, .int a2)]) (st2 := [.int 0]) rfl ?_
    have h := ok_r h
    exact aw_ir tTX0_addSight rfl rfl rfl (Nat.le_refl _) (Nat.le_refl _) h
theorem s_X0_addSight {g : Nat → Option Nat} {S : List SC} (hS : Wf g S) {σ : St} {a1 : Int32} {a2 : Int32} {r : Int32 × St} (e : f_X0_addSight 1 a1 a2 σ = some r) : Fn MX0_addSight rmX0_addSight [.ref 1, .int a1, .int a2] S σ (some (.int r.1)) r.2 := Sp.of (by decide) (Nat.le_of_ble_eq_true rfl) (t_X0_addSight hS a1 a2 ⟨r, e, rfl, rfl, rfl⟩)
def l_X0_hasSightOf_2 (b : Nat) (a1 : Int32) (σ : St) (y1 : Int32) : Option ((Int32) ⊕ ((Unit) ⊕ (Int32))) := if (σ b 7) ≤ y1 then (some (.inr (.inl ()))) else (gi y1 8 (if ¬ (σ (b + 6) y1.toNatClampNeg) = a1 then (some (.inl (y1 + 1))) else (some (.inr (.inr (1))))))
def f_X0_hasSightOf (b : Nat) (a1 : Int32) (σ : St) : Option (Int32) := Option.bind (loop (fun s : Int32 => l_X0_hasSightOf_2 b a1 σ s) 400 0) (fun z3 => match z3 with
    | .inl z2 => some (0)
    | .inr z3 => some (z3))
set_option maxHeartbeats 4000000 in
set_option maxRecDepth 20000 in
theorem t_X0_hasSightOf {g : Nat → Option Nat} {S : List SC} (hS : Wf g S) {σ : St} {Q : QT} (a1 : Int32) (h : ok (f_X0_hasSightOf 1 a1 σ) (fun r => Q (some (.int r)) S σ)) : AW MX0_hasSightOf E0 rmX0_hasSightOf 0 0 Q 0 0 S σ 0 [(0, .ref 1), (1, .int a1)] [] := by
  unfold f_X0_hasSightOf at h
  refine aw_run tTX0_hasSightOf 2 (pc2 := 2) (L2 := [(2, .int 0), (0, .ref 1), (1, .int a1)]) (st2 := []) rfl ?_
  refine ok_use (P := fun z3 : (Unit) ⊕ (Int32) => match z3 with
    | .inl z2 => AW MX0_hasSightOf E0 rmX0_hasSightOf 0 0 Q 0 0 S σ 28 [] []
    | .inr z3 => Q (some (.int z3)) S σ) (ok_b h) (fun z3 h => ?_) (fun h => ?_)
  · cases z3 with
    | inl z2 =>
      refine aw_run tTX0_hasSightOf 1 (pc2 := 29) (L2 := []) (st2 := [.int 0]) rfl ?_
      have h := ok_r h
      exact aw_ir tTX0_hasSightOf rfl rfl rfl (Nat.le_refl _) (Nat.le_refl _) h
    | inr z3 =>
      have h := ok_r h
      exact h
  · refine aw_sub [1, 2, 0] rfl ?_
    refine loop_P (P := fun s : Int32 => AW MX0_hasSightOf E0 rmX0_hasSightOf 0 0 Q 0 0 S σ 2 [(0, .ref 1), (1, .int a1), (2, .int s)] []) (fun s h => ?_) _ _ h
    obtain ⟨y1, rfl⟩ : ∃ y, y = s := ⟨_, rfl⟩
    replace h : ok (l_X0_hasSightOf_2 1 a1 σ y1) _ := h
    unfold l_X0_hasSightOf_2 at h
    show AW MX0_hasSightOf E0 rmX0_hasSightOf 0 0 Q 0 0 S σ 2 [(0, .ref 1), (1, .int a1), (2, .int y1)] []
    refine aw_run tTX0_hasSightOf 2 (pc2 := 4) (L2 := [(0, .ref 1), (1, .int a1), (2, .int y1)]) (st2 := [.ref 1, .int y1]) rfl ?_
    refine aw_getI tTX0_hasSightOf rfl 7 rfl (w_1 hS) rfl flX0_33 ?_
    refine aw_icmp_ge tTX0_hasSightOf rfl 28 10 rfl rfl (fun hc => ?_) (fun hc => ?_)
    · have h := ok_t hc h
      refine aw_sub [] rfl ?_
      have h := ok_r h
      exact h
    · have h := ok_f hc h
      refine aw_run tTX0_hasSightOf 1 (pc2 := 11) (L2 := [(0, .ref 1), (1, .int a1), (2, .int y1)]) (st2 := [.ref 1]) rfl ?_
      refine aw_getR tTX0_hasSightOf rfl 14 rfl (w_1 hS) rfl flX0_27 ?_
      refine aw_run tTX0_hasSightOf 1 (pc2 := 15) (L2 := [(0, .ref 1), (1, .int a1), (2, .int y1)]) (st2 := [.int y1, .ref 7]) rfl ?_
      obtain ⟨hi, h⟩ := ok_gi h
      refine aw_iald tTX0_hasSightOf rfl 16 rfl (w_7 hS) hi ?_
      refine aw_run tTX0_hasSightOf 1 (pc2 := 17) (L2 := [(0, .ref 1), (1, .int a1), (2, .int y1)]) (st2 := [.int a1, .int (σ 7 y1.toNatClampNeg)]) rfl ?_
      refine aw_icmp_ne tTX0_hasSightOf rfl 22 20 rfl rfl (fun hc => ?_) (fun hc => ?_)
      · have h := ok_t hc h
        refine aw_run tTX0_hasSightOf 2 (pc2 := 2) (L2 := [(2, .int (y1 + 1)), (0, .ref 1), (1, .int a1)]) (st2 := []) rfl ?_
        refine aw_sub [1, 2, 0] rfl ?_
        have h := ok_r h
        exact h
      · have h := ok_fn hc h
        refine aw_run tTX0_hasSightOf 1 (pc2 := 21) (L2 := [(0, .ref 1), (1, .int a1), (2, .int y1)]) (st2 := [.int 1]) rfl ?_
        have h := ok_r h
        exact aw_ir tTX0_hasSightOf rfl rfl rfl (Nat.le_refl _) (Nat.le_refl _) h
theorem s_X0_hasSightOf {g : Nat → Option Nat} {S : List SC} (hS : Wf g S) {σ : St} {a1 : Int32} {r : Int32} (e : f_X0_hasSightOf 1 a1 σ = some r) : Fn MX0_hasSightOf rmX0_hasSightOf [.ref 1, .int a1] S σ (some (.int r)) σ := Sp.of (by decide) (Nat.le_of_ble_eq_true rfl) (t_X0_hasSightOf hS a1 ⟨r, e, rfl, rfl, rfl⟩)
def l_X0_fitsSights_2 (b : Nat) (a1 : Int32) (a2 : Int32) (σ : St) (y1 : Int32) : Option ((Int32) ⊕ ((Unit) ⊕ (Int32))) := if (σ b 7) ≤ y1 then (some (.inr (.inl ()))) else (gi y1 8 (Option.bind (α := Int32) (if ¬ (σ (b + 6) y1.toNatClampNeg) = a1 then (some 0) else (some 1)) (fun (j3 : Int32) => if j3 = 0 then (some (.inl (y1 + 1))) else (Option.bind (f_X0_has b a1 σ) (fun r4 => if r4 = 0 then (some (.inr (.inr (0)))) else (gi y1 8 (if (σ (b + 7) y1.toNatClampNeg) = a2 then (some (.inl (y1 + 1))) else (some (.inr (.inr (0)))))))))))
def f_X0_fitsSights (b : Nat) (a1 : Int32) (a2 : Int32) (σ : St) : Option (Int32) := Option.bind (loop (fun s : Int32 => l_X0_fitsSights_2 b a1 a2 σ s) 400 0) (fun z5 => match z5 with
    | .inl z2 => some (1)
    | .inr z5 => some (z5))
set_option maxHeartbeats 4000000 in
set_option maxRecDepth 20000 in
theorem t_X0_fitsSights {g : Nat → Option Nat} {S : List SC} (hS : Wf g S) {σ : St} {Q : QT} (a1 : Int32) (a2 : Int32) (h : ok (f_X0_fitsSights 1 a1 a2 σ) (fun r => Q (some (.int r)) S σ)) : AW MX0_fitsSights E0 rmX0_fitsSights 0 0 Q 0 0 S σ 0 [(0, .ref 1), (1, .int a1), (2, .int a2)] [] := by
  unfold f_X0_fitsSights at h
  refine aw_run tTX0_fitsSights 2 (pc2 := 2) (L2 := [(3, .int 0), (0, .ref 1), (1, .int a1), (2, .int a2)]) (st2 := []) rfl ?_
  refine ok_use (P := fun z5 : (Unit) ⊕ (Int32) => match z5 with
    | .inl z2 => AW MX0_fitsSights E0 rmX0_fitsSights 0 0 Q 0 0 S σ 58 [] []
    | .inr z5 => Q (some (.int z5)) S σ) (ok_b h) (fun z5 h => ?_) (fun h => ?_)
  · cases z5 with
    | inl z2 =>
      refine aw_run tTX0_fitsSights 1 (pc2 := 59) (L2 := []) (st2 := [.int 1]) rfl ?_
      have h := ok_r h
      exact aw_ir tTX0_fitsSights rfl rfl rfl (Nat.le_refl _) (Nat.le_refl _) h
    | inr z5 =>
      have h := ok_r h
      exact h
  · refine aw_sub [1, 2, 3, 0] rfl ?_
    refine loop_P (P := fun s : Int32 => AW MX0_fitsSights E0 rmX0_fitsSights 0 0 Q 0 0 S σ 2 [(0, .ref 1), (1, .int a1), (2, .int a2), (3, .int s)] []) (fun s h => ?_) _ _ h
    obtain ⟨y1, rfl⟩ : ∃ y, y = s := ⟨_, rfl⟩
    replace h : ok (l_X0_fitsSights_2 1 a1 a2 σ y1) _ := h
    unfold l_X0_fitsSights_2 at h
    show AW MX0_fitsSights E0 rmX0_fitsSights 0 0 Q 0 0 S σ 2 [(0, .ref 1), (1, .int a1), (2, .int a2), (3, .int y1)] []
    refine aw_run tTX0_fitsSights 2 (pc2 := 4) (L2 := [(0, .ref 1), (1, .int a1), (2, .int a2), (3, .int y1)]) (st2 := [.ref 1, .int y1]) rfl ?_
    refine aw_getI tTX0_fitsSights rfl 7 rfl (w_1 hS) rfl flX0_33 ?_
    refine aw_icmp_ge tTX0_fitsSights rfl 58 10 rfl rfl (fun hc => ?_) (fun hc => ?_)
    · have h := ok_t hc h
      refine aw_sub [] rfl ?_
      have h := ok_r h
      exact h
    · have h := ok_f hc h
      refine aw_run tTX0_fitsSights 1 (pc2 := 11) (L2 := [(0, .ref 1), (1, .int a1), (2, .int a2), (3, .int y1)]) (st2 := [.ref 1]) rfl ?_
      refine aw_getR tTX0_fitsSights rfl 14 rfl (w_1 hS) rfl flX0_27 ?_
      refine aw_run tTX0_fitsSights 1 (pc2 := 15) (L2 := [(0, .ref 1), (1, .int a1), (2, .int a2), (3, .int y1)]) (st2 := [.int y1, .ref 7]) rfl ?_
      obtain ⟨hi, h⟩ := ok_gi h
      refine aw_iald tTX0_fitsSights rfl 16 rfl (w_7 hS) hi ?_
      refine aw_run tTX0_fitsSights 1 (pc2 := 17) (L2 := [(0, .ref 1), (1, .int a1), (2, .int a2), (3, .int y1)]) (st2 := [.int a1, .int (σ 7 y1.toNatClampNeg)]) rfl ?_
      refine ok_use (P := fun j3 : Int32 => AW MX0_fitsSights E0 rmX0_fitsSights 0 0 Q 0 0 S σ 25 [(0, .ref 1), (1, .int a1), (2, .int a2), (3, .int y1)] [.int j3]) (ok_b h) (fun j3 h => ?_) (fun h => ?_)
      · refine aw_run tTX0_fitsSights 2 (pc2 := 29) (L2 := [(4, .int j3), (0, .ref 1), (1, .int a1), (2, .int a2), (3, .int y1)]) (st2 := [.int j3]) rfl ?_
        refine aw_if_eq tTX0_fitsSights rfl 52 32 rfl rfl (fun hc => ?_) (fun hc => ?_)
        · have h := ok_t hc h
          refine aw_run tTX0_fitsSights 2 (pc2 := 2) (L2 := [(3, .int (y1 + 1)), (4, .int j3), (0, .ref 1), (1, .int a1), (2, .int a2)]) (st2 := []) rfl ?_
          refine aw_sub [2, 3, 4, 0] rfl ?_
          have h := ok_r h
          exact h
        · have h := ok_f hc h
          refine aw_run tTX0_fitsSights 2 (pc2 := 34) (L2 := [(4, .int j3), (0, .ref 1), (1, .int a1), (2, .int a2), (3, .int y1)]) (st2 := [.int a1, .ref 1]) rfl ?_
          obtain ⟨r4, er4, h⟩ := ok_b h
          refine aw_cV tTX0_fitsSights rfl 37 rfl (M' := MX0_has) (av := [.int a1]) (rest := []) rfl lkX0_58 hMX0_has rfl (w_1 hS) ⟨_, _, rfl⟩ (s_X0_has_1 hS er4) ⟨rfl, rfl, ⟨by decide, by decide⟩, by decide, by decide⟩ (Nat.le_of_ble_eq_true rfl) 46 (wf_len hS) rfl [.int r4] rfl ?_
          refine aw_if_eq tTX0_fitsSights rfl 50 40 rfl rfl (fun hc => ?_) (fun hc => ?_)
          · have h := ok_t hc h
            refine aw_run tTX0_fitsSights 1 (pc2 := 51) (L2 := [(4, .int j3), (0, .ref 1), (1, .int a1), (2, .int a2), (3, .int y1)]) (st2 := [.int 0]) rfl ?_
            have h := ok_r h
            exact aw_ir tTX0_fitsSights rfl rfl rfl (Nat.le_refl _) (Nat.le_refl _) h
          · have h := ok_f hc h
            refine aw_run tTX0_fitsSights 1 (pc2 := 41) (L2 := [(4, .int j3), (0, .ref 1), (1, .int a1), (2, .int a2), (3, .int y1)]) (st2 := [.ref 1]) rfl ?_
            refine aw_getR tTX0_fitsSights rfl 44 rfl (w_1 hS) rfl flX0_30 ?_
            refine aw_run tTX0_fitsSights 1 (pc2 := 45) (L2 := [(4, .int j3), (0, .ref 1), (1, .int a1), (2, .int a2), (3, .int y1)]) (st2 := [.int y1, .ref 8]) rfl ?_
            obtain ⟨hi, h⟩ := ok_gi h
            refine aw_iald tTX0_fitsSights rfl 46 rfl (w_8 hS) hi ?_
            refine aw_run tTX0_fitsSights 1 (pc2 := 47) (L2 := [(4, .int j3), (0, .ref 1), (1, .int a1), (2, .int a2), (3, .int y1)]) (st2 := [.int a2, .int (σ 8 y1.toNatClampNeg)]) rfl ?_
            refine aw_icmp_eq tTX0_fitsSights rfl 52 50 rfl rfl (fun hc => ?_) (fun hc => ?_)
            · have h := ok_t hc h
              refine aw_run tTX0_fitsSights 2 (pc2 := 2) (L2 := [(3, .int (y1 + 1)), (4, .int j3), (0, .ref 1), (1, .int a1), (2, .int a2)]) (st2 := []) rfl ?_
              refine aw_sub [2, 3, 4, 0] rfl ?_
              have h := ok_r h
              exact h
            · have h := ok_f hc h
              refine aw_run tTX0_fitsSights 1 (pc2 := 51) (L2 := [(4, .int j3), (0, .ref 1), (1, .int a1), (2, .int a2), (3, .int y1)]) (st2 := [.int 0]) rfl ?_
              have h := ok_r h
              exact aw_ir tTX0_fitsSights rfl rfl rfl (Nat.le_refl _) (Nat.le_refl _) h
      · refine aw_icmp_ne tTX0_fitsSights rfl 24 20 rfl rfl (fun hc => ?_) (fun hc => ?_)
        · have h := ok_t hc h
          refine aw_run tTX0_fitsSights 1 (pc2 := 25) (L2 := [(0, .ref 1), (1, .int a1), (2, .int a2), (3, .int y1)]) (st2 := [.int 0]) rfl ?_
          refine aw_sub [0, 1, 2, 3] rfl ?_
          have h := ok_r h
          exact h
        · have h := ok_fn hc h
          refine aw_run tTX0_fitsSights 2 (pc2 := 25) (L2 := [(0, .ref 1), (1, .int a1), (2, .int a2), (3, .int y1)]) (st2 := [.int 1]) rfl ?_
          refine aw_sub [0, 1, 2, 3] rfl ?_
          have h := ok_r h
          exact h
theorem s_X0_fitsSights {g : Nat → Option Nat} {S : List SC} (hS : Wf g S) {σ : St} {a1 : Int32} {a2 : Int32} {r : Int32} (e : f_X0_fitsSights 1 a1 a2 σ = some r) : Fn MX0_fitsSights rmX0_fitsSights [.ref 1, .int a1, .int a2] S σ (some (.int r)) σ := Sp.of (by decide) (Nat.le_of_ble_eq_true rfl) (t_X0_fitsSights hS a1 a2 ⟨r, e, rfl, rfl, rfl⟩)
