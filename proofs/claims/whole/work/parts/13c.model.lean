/-! lifted by program (wip/gen/lift.py) -/
def f_X6_boots (a1 : Int32) (σ : St) : Option (Int32 × St) := Option.bind (f_X6_in a1 0 2) (fun r1 => if ¬ r1 = 0 then (Option.bind (f_X6_layBoots  σ) (fun r2 => if ¬ a1 = 0 then (if ¬ a1 = 1 then (if ¬ (r2 29 25) = 0 then (some ((r2 29 27, r2))) else (some ((0, r2)))) else (some ((r2 29 26, r2)))) else (some ((r2 29 25, r2))))) else (some (((-2 : Int32), σ))))
set_option maxHeartbeats 4000000 in
set_option maxRecDepth 20000 in
theorem t_X6_boots {g : Nat → Option Nat} {S : List SC} (hS : Wf g S) {σ : St} {Q : QT} (a1 : Int32) (h : ok (f_X6_boots a1 σ) (fun r => Q (some (.int r.1)) S r.2)) : AW MX6_boots E0 rmX6_boots 0 0 Q 0 0 S σ 0 [(0, .ref 29), (1, .int a1)] [] := by
  unfold f_X6_boots at h
  refine aw_run tTX6_boots 3 (pc2 := 3) (L2 := [(0, .ref 29), (1, .int a1)]) (st2 := [.int 2, .int 0, .int a1]) rfl ?_
  obtain ⟨r1, er1, h⟩ := ok_b h
  refine aw_cS tTX6_boots rfl 6 rfl (M' := MX6_in) (av := [.int a1, .int 0, .int 2]) (rest := []) rfl lkX6_66 hMX6_in rfl (s_X6_in hS er1) ⟨rfl, rfl, ⟨by decide, by decide⟩, by decide, by decide⟩ (Nat.le_of_ble_eq_true rfl) 46 (wf_len hS) rfl [.int r1] rfl ?_
  refine aw_if_ne tTX6_boots rfl 12 9 rfl rfl (fun hc => ?_) (fun hc => ?_)
  · have h := ok_t hc h
    refine aw_run tTX6_boots 1 (pc2 := 13) (L2 := [(0, .ref 29), (1, .int a1)]) (st2 := [.ref 29]) rfl ?_
    obtain ⟨r2, er2, h⟩ := ok_b h
    refine aw_cV tTX6_boots rfl 16 rfl (M' := MX6_layBoots) (av := []) (rest := []) rfl lkX6_190 hMX6_layBoots rfl (w_29 hS) ⟨_, _, rfl⟩ (s_X6_layBoots hS er2) ⟨rfl, rfl, ⟨by decide, by decide⟩, by decide, by decide⟩ (Nat.le_of_ble_eq_true rfl) 46 (wf_len hS) rfl [] rfl ?_
    refine aw_run tTX6_boots 1 (pc2 := 17) (L2 := [(0, .ref 29), (1, .int a1)]) (st2 := [.int a1]) rfl ?_
    refine aw_if_ne tTX6_boots rfl 27 20 rfl rfl (fun hc => ?_) (fun hc => ?_)
    · have h := ok_t hc h
      refine aw_run tTX6_boots 2 (pc2 := 29) (L2 := [(0, .ref 29), (1, .int a1)]) (st2 := [.int 1, .int a1]) rfl ?_
      refine aw_icmp_ne tTX6_boots rfl 39 32 rfl rfl (fun hc => ?_) (fun hc => ?_)
      · have h := ok_t hc h
        refine aw_run tTX6_boots 1 (pc2 := 40) (L2 := [(0, .ref 29), (1, .int a1)]) (st2 := [.ref 29]) rfl ?_
        refine aw_getI tTX6_boots rfl 43 rfl (w_29 hS) rfl flX6_177 ?_
        refine aw_if_ne tTX6_boots rfl 50 46 rfl rfl (fun hc => ?_) (fun hc => ?_)
        · have h := ok_t hc h
          refine aw_run tTX6_boots 1 (pc2 := 51) (L2 := [(0, .ref 29), (1, .int a1)]) (st2 := [.ref 29]) rfl ?_
          refine aw_getI tTX6_boots rfl 54 rfl (w_29 hS) rfl flX6_183 ?_
          have h := ok_r h
          exact aw_ir tTX6_boots rfl rfl rfl (Nat.le_refl _) (Nat.le_refl _) h
        · have h := ok_fn hc h
          refine aw_run tTX6_boots 2 (pc2 := 54) (L2 := [(0, .ref 29), (1, .int a1)]) (st2 := [.int 0]) rfl ?_
          have h := ok_r h
          exact aw_ir tTX6_boots rfl rfl rfl (Nat.le_refl _) (Nat.le_refl _) h
      · have h := ok_fn hc h
        refine aw_run tTX6_boots 1 (pc2 := 33) (L2 := [(0, .ref 29), (1, .int a1)]) (st2 := [.ref 29]) rfl ?_
        refine aw_getI tTX6_boots rfl 36 rfl (w_29 hS) rfl flX6_180 ?_
        refine aw_run tTX6_boots 1 (pc2 := 54) (L2 := [(0, .ref 29), (1, .int a1)]) (st2 := [.int (r2 29 26)]) rfl ?_
        have h := ok_r h
        exact aw_ir tTX6_boots rfl rfl rfl (Nat.le_refl _) (Nat.le_refl _) h
    · have h := ok_fn hc h
      refine aw_run tTX6_boots 1 (pc2 := 21) (L2 := [(0, .ref 29), (1, .int a1)]) (st2 := [.ref 29]) rfl ?_
      refine aw_getI tTX6_boots rfl 24 rfl (w_29 hS) rfl flX6_177 ?_
      refine aw_run tTX6_boots 1 (pc2 := 54) (L2 := [(0, .ref 29), (1, .int a1)]) (st2 := [.int (r2 29 25)]) rfl ?_
      have h := ok_r h
      exact aw_ir tTX6_boots rfl rfl rfl (Nat.le_refl _) (Nat.le_refl _) h
  · have h := ok_fn hc h
    refine aw_run tTX6_boots 1 (pc2 := 11) (L2 := [(0, .ref 29), (1, .int a1)]) (st2 := [.int (-2 : Int32)]) rfl ?_
    have h := ok_r h
    exact aw_ir tTX6_boots rfl rfl rfl (Nat.le_refl _) (Nat.le_refl _) h
theorem s_X6_boots {g : Nat → Option Nat} {S : List SC} (hS : Wf g S) {σ : St} {a1 : Int32} {r : Int32 × St} (e : f_X6_boots a1 σ = some r) : Fn MX6_boots rmX6_boots [.ref 29, .int a1] S σ (some (.int r.1)) r.2 := Sp.of (by decide) (Nat.le_of_ble_eq_true rfl) (t_X6_boots hS a1 ⟨r, e, rfl, rfl, rfl⟩)
def l_X6_look_45 (r2 : St) (y5 : Int32) (y7 : Int32) (y8 : Int32) : Option ((Int32 × Int32) ⊕ (Int32)) := if (r2 29 5) ≤ y8 then (some (.inr y7)) else (Option.bind (α := Int32) (if ¬ y7 = 0 then (some 1) else (gi ((2 : Int32) * y8) 16 (if ¬ (r2 31 ((2 : Int32) * y8).toNatClampNeg) = y5 then (some 0) else (some 1)))) (fun (j10 : Int32) => some (.inl (j10, y8 + 1))))
def l_X6_look_92 (r2 : St) (y5 : Int32) (y11 : Int32) (y12 : Int32) : Option ((Int32 × Int32) ⊕ (Int32)) := if 100 ≤ y12 then (some (.inr y11)) else (gi (((100 : Int32) * y5) + y12) 600 (Option.bind (α := Int32) (if (r2 42 (((100 : Int32) * y5) + y12).toNatClampNeg) ≤ y11 then (some y11) else (gi (((100 : Int32) * y5) + y12) 600 (some (r2 42 (((100 : Int32) * y5) + y12).toNatClampNeg)))) (fun (j14 : Int32) => some (.inl (j14, y12 + 1)))))
def l_X6_look_25 (r2 : St) (y3 : Int32) (y4 : Int32) (y5 : Int32) : Option ((Int32 × Int32 × Int32) ⊕ (Int32 × Int32)) := if 6 ≤ y5 then (some (.inr (y3, y4))) else (if (r2 29 25) ≤ 0 then (some (.inr (y3, y4))) else (Option.bind (loop (fun s : Int32 × Int32 => l_X6_look_45 r2 y5 s.1 s.2) 400 (0, 0)) (fun (z9 : Int32) => Option.bind (loop (fun s : Int32 × Int32 => l_X6_look_92 r2 y5 s.1 s.2) 400 (0, 0)) (fun (z13 : Int32) => Option.bind (f_X6_has (r2 29 0) y5) (fun r15 => Option.bind (α := Int32) (if r15 = 0 then (some 0) else (if ¬ z9 = 0 then (some 0) else (if y4 ≤ z13 then (some 0) else (some 1)))) (fun (j16 : Int32) => Option.bind (α := Int32) (if j16 = 0 then (some y3) else (some y5)) (fun (j17 : Int32) => Option.bind (α := Int32) (if j16 = 0 then (some y4) else (some z13)) (fun (j18 : Int32) => some (.inl (j17, j18, y5 + 1))))))))))
def f_X6_look (a1 : Int32) (σ : St) : Option (Int32 × St) := Option.bind (f_X6_in a1 0 1) (fun r1 => if ¬ r1 = 0 then (Option.bind (f_X6_layBoots  σ) (fun r2 => Option.bind (loop (fun s : Int32 × Int32 × Int32 => l_X6_look_25 r2 s.1 s.2.1 s.2.2) 400 ((-6 : Int32), 1000000, 0)) (fun (z6 : Int32 × Int32) => if z6.1 < 0 then (some ((z6.1, r2))) else (if ¬ a1 = 0 then (some ((z6.2, r2))) else (some ((z6.1, r2))))))) else (some (((-2 : Int32), σ))))
set_option maxHeartbeats 4000000 in
set_option maxRecDepth 20000 in
theorem t_X6_look {g : Nat → Option Nat} {S : List SC} (hS : Wf g S) {σ : St} {Q : QT} (a1 : Int32) (h : ok (f_X6_look a1 σ) (fun r => Q (some (.int r.1)) S r.2)) : AW MX6_look E0 rmX6_look 0 0 Q 0 0 S σ 0 [(0, .ref 29), (1, .int a1)] [] := by
  unfold f_X6_look at h
  refine aw_run tTX6_look 3 (pc2 := 3) (L2 := [(0, .ref 29), (1, .int a1)]) (st2 := [.int 1, .int 0, .int a1]) rfl ?_
  obtain ⟨r1, er1, h⟩ := ok_b h
  refine aw_cS tTX6_look rfl 6 rfl (M' := MX6_in) (av := [.int a1, .int 0, .int 1]) (rest := []) rfl lkX6_66 hMX6_in rfl (s_X6_in hS er1) ⟨rfl, rfl, ⟨by decide, by decide⟩, by decide, by decide⟩ (Nat.le_of_ble_eq_true rfl) 46 (wf_len hS) rfl [.int r1] rfl ?_
  refine aw_if_ne tTX6_look rfl 12 9 rfl rfl (fun hc => ?_) (fun hc => ?_)
  · have h := ok_t hc h
    refine aw_run tTX6_look 1 (pc2 := 13) (L2 := [(0, .ref 29), (1, .int a1)]) (st2 := [.ref 29]) rfl ?_
    obtain ⟨r2, er2, h⟩ := ok_b h
    refine aw_cV tTX6_look rfl 16 rfl (M' := MX6_layBoots) (av := []) (rest := []) rfl lkX6_190 hMX6_layBoots rfl (w_29 hS) ⟨_, _, rfl⟩ (s_X6_layBoots hS er2) ⟨rfl, rfl, ⟨by decide, by decide⟩, by decide, by decide⟩ (Nat.le_of_ble_eq_true rfl) 46 (wf_len hS) rfl [] rfl ?_
    refine aw_run tTX6_look 6 (pc2 := 25) (L2 := [(4, .int 0), (3, .int 1000000), (2, .int (-6 : Int32)), (0, .ref 29), (1, .int a1)]) (st2 := []) rfl ?_
    refine ok_use (P := fun z6 : Int32 × Int32 => AW MX6_look E0 rmX6_look 0 0 Q 0 0 S r2 203 [(1, .int a1), (2, .int z6.1), (3, .int z6.2)] []) (ok_b h) (fun z6 h => ?_) (fun h => ?_)
    · refine aw_run tTX6_look 1 (pc2 := 204) (L2 := [(1, .int a1), (2, .int z6.1), (3, .int z6.2)]) (st2 := [.int z6.1]) rfl ?_
      refine aw_if_lt tTX6_look rfl 211 207 rfl rfl (fun hc => ?_) (fun hc => ?_)
      · have h := ok_t hc h
        refine aw_run tTX6_look 2 (pc2 := 216) (L2 := [(1, .int a1), (2, .int z6.1), (3, .int z6.2)]) (st2 := [.int z6.1]) rfl ?_
        have h := ok_r h
        exact aw_ir tTX6_look rfl rfl rfl (Nat.le_refl _) (Nat.le_refl _) h
      · have h := ok_f hc h
        refine aw_run tTX6_look 1 (pc2 := 208) (L2 := [(1, .int a1), (2, .int z6.1), (3, .int z6.2)]) (st2 := [.int a1]) rfl ?_
        refine aw_if_ne tTX6_look rfl 215 211 rfl rfl (fun hc => ?_) (fun hc => ?_)
        · have h := ok_t hc h
          refine aw_run tTX6_look 1 (pc2 := 216) (L2 := [(1, .int a1), (2, .int z6.1), (3, .int z6.2)]) (st2 := [.int z6.2]) rfl ?_
          have h := ok_r h
          exact aw_ir tTX6_look rfl rfl rfl (Nat.le_refl _) (Nat.le_refl _) h
        · have h := ok_fn hc h
          refine aw_run tTX6_look 2 (pc2 := 216) (L2 := [(1, .int a1), (2, .int z6.1), (3, .int z6.2)]) (st2 := [.int z6.1]) rfl ?_
          have h := ok_r h
          exact aw_ir tTX6_look rfl rfl rfl (Nat.le_refl _) (Nat.le_refl _) h
    · refine aw_sub [3, 4, 2, 1, 0] rfl ?_
      refine loop_P (P := fun s : Int32 × Int32 × Int32 => AW MX6_look E0 rmX6_look 0 0 Q 0 0 S r2 25 [(0, .ref 29), (1, .int a1), (2, .int s.1), (3, .int s.2.1), (4, .int s.2.2)] []) (fun s h => ?_) _ _ h
      obtain ⟨y3, y4, y5⟩ := s
      replace h : ok (l_X6_look_25 r2 y3 y4 y5) _ := h
      unfold l_X6_look_25 at h
      show AW MX6_look E0 rmX6_look 0 0 Q 0 0 S r2 25 [(0, .ref 29), (1, .int a1), (2, .int y3), (3, .int y4), (4, .int y5)] []
      refine aw_run tTX6_look 2 (pc2 := 29) (L2 := [(0, .ref 29), (1, .int a1), (2, .int y3), (3, .int y4), (4, .int y5)]) (st2 := [.int 6, .int y5]) rfl ?_
      refine aw_icmp_ge tTX6_look rfl 203 32 rfl rfl (fun hc => ?_) (fun hc => ?_)
      · have h := ok_t hc h
        refine aw_sub [1, 2, 3] rfl ?_
        have h := ok_r h
        exact h
      · have h := ok_f hc h
        refine aw_run tTX6_look 1 (pc2 := 33) (L2 := [(0, .ref 29), (1, .int a1), (2, .int y3), (3, .int y4), (4, .int y5)]) (st2 := [.ref 29]) rfl ?_
        refine aw_getI tTX6_look rfl 36 rfl (w_29 hS) rfl flX6_177 ?_
        refine aw_if_le tTX6_look rfl 203 39 rfl rfl (fun hc => ?_) (fun hc => ?_)
        · have h := ok_t hc h
          refine aw_sub [1, 2, 3] rfl ?_
          have h := ok_r h
          exact h
        · have h := ok_f hc h
          refine aw_run tTX6_look 4 (pc2 := 45) (L2 := [(6, .int 0), (5, .int 0), (0, .ref 29), (1, .int a1), (2, .int y3), (3, .int y4), (4, .int y5)]) (st2 := []) rfl ?_
          refine ok_use (P := fun z9 : Int32 => AW MX6_look E0 rmX6_look 0 0 Q 0 0 S r2 86 [(0, .ref 29), (1, .int a1), (2, .int y3), (3, .int y4), (4, .int y5), (5, .int z9)] []) (ok_b h) (fun z9 h => ?_) (fun h => ?_)
          · refine aw_run tTX6_look 4 (pc2 := 92) (L2 := [(7, .int 0), (6, .int 0), (0, .ref 29), (1, .int a1), (2, .int y3), (3, .int y4), (4, .int y5), (5, .int z9)]) (st2 := []) rfl ?_
            refine ok_use (P := fun z13 : Int32 => AW MX6_look E0 rmX6_look 0 0 Q 0 0 S r2 143 [(0, .ref 29), (1, .int a1), (2, .int y3), (3, .int y4), (4, .int y5), (5, .int z9), (6, .int z13)] []) (ok_b h) (fun z13 h => ?_) (fun h => ?_)
            · refine aw_run tTX6_look 1 (pc2 := 144) (L2 := [(0, .ref 29), (1, .int a1), (2, .int y3), (3, .int y4), (4, .int y5), (5, .int z9), (6, .int z13)]) (st2 := [.ref 29]) rfl ?_
              refine aw_getI tTX6_look rfl 147 rfl (w_29 hS) rfl flX6_63 ?_
              refine aw_run tTX6_look 1 (pc2 := 149) (L2 := [(0, .ref 29), (1, .int a1), (2, .int y3), (3, .int y4), (4, .int y5), (5, .int z9), (6, .int z13)]) (st2 := [.int y5, .int (r2 29 0)]) rfl ?_
              obtain ⟨r15, er15, h⟩ := ok_b h
              refine aw_cS tTX6_look rfl 152 rfl (M' := MX6_has) (av := [.int (r2 29 0), .int y5]) (rest := []) rfl lkX6_70 hMX6_has rfl (s_X6_has hS er15) ⟨rfl, rfl, ⟨by decide, by decide⟩, by decide, by decide⟩ (Nat.le_of_ble_eq_true rfl) 46 (wf_len hS) rfl [.int r15] rfl ?_
              refine ok_use (P := fun j16 : Int32 => AW MX6_look E0 rmX6_look 0 0 Q 0 0 S r2 171 [(0, .ref 29), (1, .int a1), (2, .int y3), (3, .int y4), (4, .int y5), (6, .int z13)] [.int j16]) (ok_b h) (fun j16 h => ?_) (fun h => ?_)
              · refine aw_run tTX6_look 2 (pc2 := 175) (L2 := [(7, .int j16), (0, .ref 29), (1, .int a1), (2, .int y3), (3, .int y4), (4, .int y5), (6, .int z13)]) (st2 := [.int j16]) rfl ?_
                refine ok_use (P := fun j17 : Int32 => AW MX6_look E0 rmX6_look 0 0 Q 0 0 S r2 184 [(0, .ref 29), (1, .int a1), (3, .int y4), (4, .int y5), (6, .int z13), (7, .int j16)] [.int j17]) (ok_b h) (fun j17 h => ?_) (fun h => ?_)
                · refine aw_run tTX6_look 2 (pc2 := 187) (L2 := [(2, .int j17), (0, .ref 29), (1, .int a1), (3, .int y4), (4, .int y5), (6, .int z13), (7, .int j16)]) (st2 := [.int j16]) rfl ?_
                  refine ok_use (P := fun j18 : Int32 => AW MX6_look E0 rmX6_look 0 0 Q 0 0 S r2 196 [(0, .ref 29), (1, .int a1), (2, .int j17), (4, .int y5)] [.int j18]) (ok_b h) (fun j18 h => ?_) (fun h => ?_)
                  · refine aw_run tTX6_look 3 (pc2 := 25) (L2 := [(4, .int (y5 + 1)), (3, .int j18), (0, .ref 29), (1, .int a1), (2, .int j17)]) (st2 := []) rfl ?_
                    refine aw_sub [2, 3, 4, 1, 0] rfl ?_
                    have h := ok_r h
                    exact h
                  · refine aw_if_eq tTX6_look rfl 195 190 rfl rfl (fun hc => ?_) (fun hc => ?_)
                    · have h := ok_t hc h
                      refine aw_run tTX6_look 1 (pc2 := 196) (L2 := [(2, .int j17), (0, .ref 29), (1, .int a1), (3, .int y4), (4, .int y5), (6, .int z13), (7, .int j16)]) (st2 := [.int y4]) rfl ?_
                      refine aw_sub [1, 2, 0, 4] rfl ?_
                      have h := ok_r h
                      exact h
                    · have h := ok_f hc h
                      refine aw_run tTX6_look 2 (pc2 := 196) (L2 := [(2, .int j17), (0, .ref 29), (1, .int a1), (3, .int y4), (4, .int y5), (6, .int z13), (7, .int j16)]) (st2 := [.int z13]) rfl ?_
                      refine aw_sub [1, 2, 0, 4] rfl ?_
                      have h := ok_r h
                      exact h
                · refine aw_if_eq tTX6_look rfl 183 178 rfl rfl (fun hc => ?_) (fun hc => ?_)
                  · have h := ok_t hc h
                    refine aw_run tTX6_look 1 (pc2 := 184) (L2 := [(7, .int j16), (0, .ref 29), (1, .int a1), (2, .int y3), (3, .int y4), (4, .int y5), (6, .int z13)]) (st2 := [.int y3]) rfl ?_
                    refine aw_sub [1, 2, 4, 5, 6, 0] rfl ?_
                    have h := ok_r h
                    exact h
                  · have h := ok_f hc h
                    refine aw_run tTX6_look 2 (pc2 := 184) (L2 := [(7, .int j16), (0, .ref 29), (1, .int a1), (2, .int y3), (3, .int y4), (4, .int y5), (6, .int z13)]) (st2 := [.int y5]) rfl ?_
                    refine aw_sub [1, 2, 4, 5, 6, 0] rfl ?_
                    have h := ok_r h
                    exact h
              · refine aw_if_eq tTX6_look rfl 170 155 rfl rfl (fun hc => ?_) (fun hc => ?_)
                · have h := ok_t hc h
                  refine aw_run tTX6_look 1 (pc2 := 171) (L2 := [(0, .ref 29), (1, .int a1), (2, .int y3), (3, .int y4), (4, .int y5), (5, .int z9), (6, .int z13)]) (st2 := [.int 0]) rfl ?_
                  refine aw_sub [0, 1, 2, 3, 4, 6] rfl ?_
                  have h := ok_r h
                  exact h
                · have h := ok_f hc h
                  refine aw_run tTX6_look 1 (pc2 := 157) (L2 := [(0, .ref 29), (1, .int a1), (2, .int y3), (3, .int y4), (4, .int y5), (5, .int z9), (6, .int z13)]) (st2 := [.int z9]) rfl ?_
                  refine aw_if_ne tTX6_look rfl 170 160 rfl rfl (fun hc => ?_) (fun hc => ?_)
                  · have h := ok_t hc h
                    refine aw_run tTX6_look 1 (pc2 := 171) (L2 := [(0, .ref 29), (1, .int a1), (2, .int y3), (3, .int y4), (4, .int y5), (5, .int z9), (6, .int z13)]) (st2 := [.int 0]) rfl ?_
                    refine aw_sub [0, 1, 2, 3, 4, 6] rfl ?_
                    have h := ok_r h
                    exact h
                  · have h := ok_fn hc h
                    refine aw_run tTX6_look 2 (pc2 := 163) (L2 := [(0, .ref 29), (1, .int a1), (2, .int y3), (3, .int y4), (4, .int y5), (5, .int z9), (6, .int z13)]) (st2 := [.int y4, .int z13]) rfl ?_
                    refine aw_icmp_ge tTX6_look rfl 170 166 rfl rfl (fun hc => ?_) (fun hc => ?_)
                    · have h := ok_t hc h
                      refine aw_run tTX6_look 1 (pc2 := 171) (L2 := [(0, .ref 29), (1, .int a1), (2, .int y3), (3, .int y4), (4, .int y5), (5, .int z9), (6, .int z13)]) (st2 := [.int 0]) rfl ?_
                      refine aw_sub [0, 1, 2, 3, 4, 6] rfl ?_
                      have h := ok_r h
                      exact h
                    · have h := ok_f hc h
                      refine aw_run tTX6_look 2 (pc2 := 171) (L2 := [(0, .ref 29), (1, .int a1), (2, .int y3), (3, .int y4), (4, .int y5), (5, .int z9), (6, .int z13)]) (st2 := [.int 1]) rfl ?_
                      refine aw_sub [0, 1, 2, 3, 4, 6] rfl ?_
                      have h := ok_r h
                      exact h
            · refine aw_sub [2, 3, 4, 5, 6, 7, 1, 0] rfl ?_
              refine loop_P (P := fun s : Int32 × Int32 => AW MX6_look E0 rmX6_look 0 0 Q 0 0 S r2 92 [(0, .ref 29), (1, .int a1), (2, .int y3), (3, .int y4), (4, .int y5), (5, .int z9), (6, .int s.1), (7, .int s.2)] []) (fun s h => ?_) _ _ h
              obtain ⟨y11, y12⟩ := s
              replace h : ok (l_X6_look_92 r2 y5 y11 y12) _ := h
              unfold l_X6_look_92 at h
              show AW MX6_look E0 rmX6_look 0 0 Q 0 0 S r2 92 [(0, .ref 29), (1, .int a1), (2, .int y3), (3, .int y4), (4, .int y5), (5, .int z9), (6, .int y11), (7, .int y12)] []
              refine aw_run tTX6_look 2 (pc2 := 96) (L2 := [(0, .ref 29), (1, .int a1), (2, .int y3), (3, .int y4), (4, .int y5), (5, .int z9), (6, .int y11), (7, .int y12)]) (st2 := [.int 100, .int y12]) rfl ?_
              refine aw_icmp_ge tTX6_look rfl 143 99 rfl rfl (fun hc => ?_) (fun hc => ?_)
              · have h := ok_t hc h
                refine aw_sub [0, 1, 2, 3, 4, 5, 6] rfl ?_
                have h := ok_r h
                exact h
              · have h := ok_f hc h
                refine aw_run tTX6_look 1 (pc2 := 100) (L2 := [(0, .ref 29), (1, .int a1), (2, .int y3), (3, .int y4), (4, .int y5), (5, .int z9), (6, .int y11), (7, .int y12)]) (st2 := [.ref 29]) rfl ?_
                refine aw_getR tTX6_look rfl 103 rfl (w_29 hS) rfl flX6_51 ?_
                refine aw_run tTX6_look 5 (pc2 := 111) (L2 := [(0, .ref 29), (1, .int a1), (2, .int y3), (3, .int y4), (4, .int y5), (5, .int z9), (6, .int y11), (7, .int y12)]) (st2 := [.int (((100 : Int32) * y5) + y12), .ref 42]) rfl ?_
                obtain ⟨hi, h⟩ := ok_gi h
                refine aw_iald tTX6_look rfl 112 rfl (w_42 hS) hi ?_
                refine aw_run tTX6_look 1 (pc2 := 114) (L2 := [(0, .ref 29), (1, .int a1), (2, .int y3), (3, .int y4), (4, .int y5), (5, .int z9), (6, .int y11), (7, .int y12)]) (st2 := [.int y11, .int (r2 42 (((100 : Int32) * y5) + y12).toNatClampNeg)]) rfl ?_
                refine ok_use (P := fun j14 : Int32 => AW MX6_look E0 rmX6_look 0 0 Q 0 0 S r2 135 [(0, .ref 29), (1, .int a1), (2, .int y3), (3, .int y4), (4, .int y5), (5, .int z9), (7, .int y12)] [.int j14]) (ok_b h) (fun j14 h => ?_) (fun h => ?_)
                · refine aw_run tTX6_look 3 (pc2 := 92) (L2 := [(7, .int (y12 + 1)), (6, .int j14), (0, .ref 29), (1, .int a1), (2, .int y3), (3, .int y4), (4, .int y5), (5, .int z9)]) (st2 := []) rfl ?_
                  refine aw_sub [2, 3, 4, 5, 6, 7, 1, 0] rfl ?_
                  have h := ok_r h
                  exact h
                · refine aw_icmp_le tTX6_look rfl 133 117 rfl rfl (fun hc => ?_) (fun hc => ?_)
                  · have h := ok_t hc h
                    refine aw_run tTX6_look 1 (pc2 := 135) (L2 := [(0, .ref 29), (1, .int a1), (2, .int y3), (3, .int y4), (4, .int y5), (5, .int z9), (6, .int y11), (7, .int y12)]) (st2 := [.int y11]) rfl ?_
                    refine aw_sub [0, 1, 2, 3, 4, 5, 7] rfl ?_
                    have h := ok_r h
                    exact h
                  · have h := ok_f hc h
                    refine aw_run tTX6_look 1 (pc2 := 118) (L2 := [(0, .ref 29), (1, .int a1), (2, .int y3), (3, .int y4), (4, .int y5), (5, .int z9), (6, .int y11), (7, .int y12)]) (st2 := [.ref 29]) rfl ?_
                    refine aw_getR tTX6_look rfl 121 rfl (w_29 hS) rfl flX6_51 ?_
                    refine aw_run tTX6_look 5 (pc2 := 129) (L2 := [(0, .ref 29), (1, .int a1), (2, .int y3), (3, .int y4), (4, .int y5), (5, .int z9), (6, .int y11), (7, .int y12)]) (st2 := [.int (((100 : Int32) * y5) + y12), .ref 42]) rfl ?_
                    obtain ⟨hi, h⟩ := ok_gi h
                    refine aw_iald tTX6_look rfl 130 rfl (w_42 hS) hi ?_
                    refine aw_run tTX6_look 1 (pc2 := 135) (L2 := [(0, .ref 29), (1, .int a1), (2, .int y3), (3, .int y4), (4, .int y5), (5, .int z9), (6, .int y11), (7, .int y12)]) (st2 := [.int (r2 42 (((100 : Int32) * y5) + y12).toNatClampNeg)]) rfl ?_
                    refine aw_sub [0, 1, 2, 3, 4, 5, 7] rfl ?_
                    have h := ok_r h
                    exact h
          · refine aw_sub [2, 3, 4, 5, 6, 1, 0] rfl ?_
            refine loop_P (P := fun s : Int32 × Int32 => AW MX6_look E0 rmX6_look 0 0 Q 0 0 S r2 45 [(0, .ref 29), (1, .int a1), (2, .int y3), (3, .int y4), (4, .int y5), (5, .int s.1), (6, .int s.2)] []) (fun s h => ?_) _ _ h
            obtain ⟨y7, y8⟩ := s
            replace h : ok (l_X6_look_45 r2 y5 y7 y8) _ := h
            unfold l_X6_look_45 at h
            show AW MX6_look E0 rmX6_look 0 0 Q 0 0 S r2 45 [(0, .ref 29), (1, .int a1), (2, .int y3), (3, .int y4), (4, .int y5), (5, .int y7), (6, .int y8)] []
            refine aw_run tTX6_look 2 (pc2 := 48) (L2 := [(0, .ref 29), (1, .int a1), (2, .int y3), (3, .int y4), (4, .int y5), (5, .int y7), (6, .int y8)]) (st2 := [.ref 29, .int y8]) rfl ?_
            refine aw_getI tTX6_look rfl 51 rfl (w_29 hS) rfl flX6_174 ?_
            refine aw_icmp_ge tTX6_look rfl 86 54 rfl rfl (fun hc => ?_) (fun hc => ?_)
            · have h := ok_t hc h
              refine aw_sub [0, 1, 2, 3, 4, 5] rfl ?_
              have h := ok_r h
              exact h
            · have h := ok_f hc h
              refine aw_run tTX6_look 1 (pc2 := 56) (L2 := [(0, .ref 29), (1, .int a1), (2, .int y3), (3, .int y4), (4, .int y5), (5, .int y7), (6, .int y8)]) (st2 := [.int y7]) rfl ?_
              refine ok_use (P := fun j10 : Int32 => AW MX6_look E0 rmX6_look 0 0 Q 0 0 S r2 78 [(0, .ref 29), (1, .int a1), (2, .int y3), (3, .int y4), (4, .int y5), (6, .int y8)] [.int j10]) (ok_b h) (fun j10 h => ?_) (fun h => ?_)
              · refine aw_run tTX6_look 3 (pc2 := 45) (L2 := [(6, .int (y8 + 1)), (5, .int j10), (0, .ref 29), (1, .int a1), (2, .int y3), (3, .int y4), (4, .int y5)]) (st2 := []) rfl ?_
                refine aw_sub [2, 3, 4, 5, 6, 1, 0] rfl ?_
                have h := ok_r h
                exact h
              · refine aw_if_ne tTX6_look rfl 73 59 rfl rfl (fun hc => ?_) (fun hc => ?_)
                · have h := ok_t hc h
                  refine aw_run tTX6_look 2 (pc2 := 78) (L2 := [(0, .ref 29), (1, .int a1), (2, .int y3), (3, .int y4), (4, .int y5), (5, .int y7), (6, .int y8)]) (st2 := [.int 1]) rfl ?_
                  refine aw_sub [0, 1, 2, 3, 4, 6] rfl ?_
                  have h := ok_r h
                  exact h
                · have h := ok_fn hc h
                  refine aw_run tTX6_look 1 (pc2 := 60) (L2 := [(0, .ref 29), (1, .int a1), (2, .int y3), (3, .int y4), (4, .int y5), (5, .int y7), (6, .int y8)]) (st2 := [.ref 29]) rfl ?_
                  refine aw_getR tTX6_look rfl 63 rfl (w_29 hS) rfl flX6_17 ?_
                  refine aw_run tTX6_look 3 (pc2 := 67) (L2 := [(0, .ref 29), (1, .int a1), (2, .int y3), (3, .int y4), (4, .int y5), (5, .int y7), (6, .int y8)]) (st2 := [.int ((2 : Int32) * y8), .ref 31]) rfl ?_
                  obtain ⟨hi, h⟩ := ok_gi h
                  refine aw_iald tTX6_look rfl 68 rfl (w_31 hS) hi ?_
                  refine aw_run tTX6_look 1 (pc2 := 70) (L2 := [(0, .ref 29), (1, .int a1), (2, .int y3), (3, .int y4), (4, .int y5), (5, .int y7), (6, .int y8)]) (st2 := [.int y5, .int (r2 31 ((2 : Int32) * y8).toNatClampNeg)]) rfl ?_
                  refine aw_icmp_ne tTX6_look rfl 77 73 rfl rfl (fun hc => ?_) (fun hc => ?_)
                  · have h := ok_t hc h
                    refine aw_run tTX6_look 1 (pc2 := 78) (L2 := [(0, .ref 29), (1, .int a1), (2, .int y3), (3, .int y4), (4, .int y5), (5, .int y7), (6, .int y8)]) (st2 := [.int 0]) rfl ?_
                    refine aw_sub [0, 1, 2, 3, 4, 6] rfl ?_
                    have h := ok_r h
                    exact h
                  · have h := ok_fn hc h
                    refine aw_run tTX6_look 2 (pc2 := 78) (L2 := [(0, .ref 29), (1, .int a1), (2, .int y3), (3, .int y4), (4, .int y5), (5, .int y7), (6, .int y8)]) (st2 := [.int 1]) rfl ?_
                    refine aw_sub [0, 1, 2, 3, 4, 6] rfl ?_
                    have h := ok_r h
                    exact h
  · have h := ok_fn hc h
    refine aw_run tTX6_look 1 (pc2 := 11) (L2 := [(0, .ref 29), (1, .int a1)]) (st2 := [.int (-2 : Int32)]) rfl ?_
    have h := ok_r h
    exact aw_ir tTX6_look rfl rfl rfl (Nat.le_refl _) (Nat.le_refl _) h
theorem s_X6_look {g : Nat → Option Nat} {S : List SC} (hS : Wf g S) {σ : St} {a1 : Int32} {r : Int32 × St} (e : f_X6_look a1 σ = some r) : Fn MX6_look rmX6_look [.ref 29, .int a1] S σ (some (.int r.1)) r.2 := Sp.of (by decide) (Nat.le_of_ble_eq_true rfl) (t_X6_look hS a1 ⟨r, e, rfl, rfl, rfl⟩)
def f_X6_worth (a1 : Int32) (a2 : Int32) (σ : St) : Option (Int32) := gi a1 6 (gi a2 6 (if (σ 32 a2.toNatClampNeg) ≤ (σ 30 a1.toNatClampNeg) then (gi a2 6 (some (σ 32 a2.toNatClampNeg))) else (gi a1 6 (some (σ 30 a1.toNatClampNeg)))))
set_option maxHeartbeats 4000000 in
set_option maxRecDepth 20000 in
theorem t_X6_worth {g : Nat → Option Nat} {S : List SC} (hS : Wf g S) {σ : St} {Q : QT} (a1 : Int32) (a2 : Int32) (h : ok (f_X6_worth a1 a2 σ) (fun r => Q (some (.int r)) S σ)) : AW MX6_worth E0 rmX6_worth 0 0 Q 0 0 S σ 0 [(0, .ref 29), (1, .int a1), (2, .int a2)] [] := by
  unfold f_X6_worth at h
  refine aw_run tTX6_worth 1 (pc2 := 1) (L2 := [(0, .ref 29), (1, .int a1), (2, .int a2)]) (st2 := [.ref 29]) rfl ?_
  refine aw_getR tTX6_worth rfl 4 rfl (w_29 hS) rfl flX6_7 ?_
  refine aw_run tTX6_worth 1 (pc2 := 5) (L2 := [(0, .ref 29), (1, .int a1), (2, .int a2)]) (st2 := [.int a1, .ref 30]) rfl ?_
  obtain ⟨hi, h⟩ := ok_gi h
  refine aw_iald tTX6_worth rfl 6 rfl (w_30 hS) hi ?_
  refine aw_run tTX6_worth 1 (pc2 := 7) (L2 := [(0, .ref 29), (1, .int a1), (2, .int a2)]) (st2 := [.ref 29, .int (σ 30 a1.toNatClampNeg)]) rfl ?_
  refine aw_getR tTX6_worth rfl 10 rfl (w_29 hS) rfl flX6_20 ?_
  refine aw_run tTX6_worth 1 (pc2 := 11) (L2 := [(0, .ref 29), (1, .int a1), (2, .int a2)]) (st2 := [.int a2, .ref 32, .int (σ 30 a1.toNatClampNeg)]) rfl ?_
  obtain ⟨hi, h⟩ := ok_gi h
  refine aw_iald tTX6_worth rfl 12 rfl (w_32 hS) hi ?_
  refine aw_icmp_ge tTX6_worth rfl 24 15 rfl rfl (fun hc => ?_) (fun hc => ?_)
  · have h := ok_t hc h
    refine aw_run tTX6_worth 1 (pc2 := 25) (L2 := [(0, .ref 29), (1, .int a1), (2, .int a2)]) (st2 := [.ref 29]) rfl ?_
    refine aw_getR tTX6_worth rfl 28 rfl (w_29 hS) rfl flX6_20 ?_
    refine aw_run tTX6_worth 1 (pc2 := 29) (L2 := [(0, .ref 29), (1, .int a1), (2, .int a2)]) (st2 := [.int a2, .ref 32]) rfl ?_
    obtain ⟨hi, h⟩ := ok_gi h
    refine aw_iald tTX6_worth rfl 30 rfl (w_32 hS) hi ?_
    have h := ok_r h
    exact aw_ir tTX6_worth rfl rfl rfl (Nat.le_refl _) (Nat.le_refl _) h
  · have h := ok_f hc h
    refine aw_run tTX6_worth 1 (pc2 := 16) (L2 := [(0, .ref 29), (1, .int a1), (2, .int a2)]) (st2 := [.ref 29]) rfl ?_
    refine aw_getR tTX6_worth rfl 19 rfl (w_29 hS) rfl flX6_7 ?_
    refine aw_run tTX6_worth 1 (pc2 := 20) (L2 := [(0, .ref 29), (1, .int a1), (2, .int a2)]) (st2 := [.int a1, .ref 30]) rfl ?_
    obtain ⟨hi, h⟩ := ok_gi h
    refine aw_iald tTX6_worth rfl 21 rfl (w_30 hS) hi ?_
    refine aw_run tTX6_worth 1 (pc2 := 30) (L2 := [(0, .ref 29), (1, .int a1), (2, .int a2)]) (st2 := [.int (σ 30 a1.toNatClampNeg)]) rfl ?_
    have h := ok_r h
    exact aw_ir tTX6_worth rfl rfl rfl (Nat.le_refl _) (Nat.le_refl _) h
theorem s_X6_worth {g : Nat → Option Nat} {S : List SC} (hS : Wf g S) {σ : St} {a1 : Int32} {a2 : Int32} {r : Int32} (e : f_X6_worth a1 a2 σ = some r) : Fn MX6_worth rmX6_worth [.ref 29, .int a1, .int a2] S σ (some (.int r)) σ := Sp.of (by decide) (Nat.le_of_ble_eq_true rfl) (t_X6_worth hS a1 a2 ⟨r, e, rfl, rfl, rfl⟩)
def l_X6_caught_182  (y12 : Int64) (y13 : Int64) : Option ((Int64 × Int64) ⊕ (Int64)) := if (lg_cmp y13 0) = 0 then (some (.inr y12)) else (gzL y13 (some (.inl (y13, jremL y12 y13))))
def f_X6_caught (a1 : Int32) (a2 : Int32) (a3 : Int32) (a4 : Int32) (a5 : Int32) (σ : St) : Option (Int64 × St) := Option.bind (f_X6_isThere a1 σ) (fun r1 => if r1 = 0 then (some (((-1000000000000000001 : Int64), σ))) else (Option.bind (f_X6_isThere a2 σ) (fun r2 => if r2 = 0 then (some (((-1000000000000000001 : Int64), σ))) else (if ¬ a1 = a2 then (Option.bind (f_X6_in a3 0 10) (fun r3 => if r3 = 0 then (some (((-1000000000000000002 : Int64), σ))) else (Option.bind (f_X6_in a4 0 1) (fun r4 => if r4 = 0 then (some (((-1000000000000000002 : Int64), σ))) else (Option.bind (f_X6_in a5 0 1) (fun r5 => if ¬ r5 = 0 then (Option.bind (f_X6_asNow  σ) (fun r6 => Option.bind (f_X6_whyNot a1 a2 r6) (fun r7 => if r7 = 0 then (gi a1 6 (Option.bind (f_X6_takes a1 a2 r6) (fun r8 => nm ((r6 33 a1.toNatClampNeg) + r8) (fun (x9 : Int32) => Option.bind (α := Int32) (if x9 ≤ 9 then (some 0) else (some (x9 - 9))) (fun (j10 : Int32) => Option.bind (α := Int64) (if ¬ a4 = 0 then (gi a1 6 (Option.bind (α := Int32) (if j10 ≤ (r6 33 a1.toNatClampNeg) then (some 0) else (some a3)) (fun (j15 : Int32) => gi a1 6 (Option.bind (α := Int32) (if x9 ≤ (r6 33 a1.toNatClampNeg) then (some 0) else (some (10 - a3))) (fun (j16 : Int32) => some ((j15 + j16).toInt64)))))) else (some ((a3.toInt64 * j10.toInt64) + ((10 - a3.toInt64) * x9.toInt64)))) (fun (j11 : Int64) => Option.bind (loop (fun s : Int64 × Int64 => l_X6_caught_182  s.1 s.2) 400 (j11, 10)) (fun (z14 : Int64) => if ¬ a5 = 0 then (gzL z14 (some ((10 / z14, r6)))) else (gzL z14 (some ((j11 / z14, r6))))))))))) else (some (((-1000000000000000003 : Int64), r6)))))) else (some (((-1000000000000000002 : Int64), σ))))))))) else (some (((-1000000000000000001 : Int64), σ)))))))
set_option maxHeartbeats 4000000 in
set_option maxRecDepth 20000 in
theorem t_X6_caught {g : Nat → Option Nat} {S : List SC} (hS : Wf g S) {σ : St} {Q : QT} (a1 : Int32) (a2 : Int32) (a3 : Int32) (a4 : Int32) (a5 : Int32) (h : ok (f_X6_caught a1 a2 a3 a4 a5 σ) (fun r => Q (some (.long r.1)) S r.2)) : AW MX6_caught E0 rmX6_caught 0 0 Q 0 0 S σ 0 [(0, .ref 29), (1, .int a1), (2, .int a2), (3, .int a3), (4, .int a4), (5, .int a5)] [] := by
  unfold f_X6_caught at h
  refine aw_run tTX6_caught 2 (pc2 := 2) (L2 := [(0, .ref 29), (1, .int a1), (2, .int a2), (3, .int a3), (4, .int a4), (5, .int a5)]) (st2 := [.int a1, .ref 29]) rfl ?_
  obtain ⟨r1, er1, h⟩ := ok_b h
  refine aw_cV tTX6_caught rfl 5 rfl (M' := MX6_isThere) (av := [.int a1]) (rest := []) rfl lkX6_78 hMX6_isThere rfl (w_29 hS) ⟨_, _, rfl⟩ (s_X6_isThere hS er1) ⟨rfl, rfl, ⟨by decide, by decide⟩, by decide, by decide⟩ (Nat.le_of_ble_eq_true rfl) 46 (wf_len hS) rfl [.int r1] rfl ?_
  refine aw_if_eq tTX6_caught rfl 21 8 rfl rfl (fun hc => ?_) (fun hc => ?_)
  · have h := ok_t hc h
    refine aw_run tTX6_caught 1 (pc2 := 24) (L2 := [(0, .ref 29), (1, .int a1), (2, .int a2), (3, .int a3), (4, .int a4), (5, .int a5)]) (st2 := [.long ((-1000000000000000001 : Int64))]) rfl ?_
    have h := ok_r h
    exact aw_lr tTX6_caught rfl rfl (Nat.le_refl _) (Nat.le_refl _) h
  · have h := ok_f hc h
    refine aw_run tTX6_caught 2 (pc2 := 10) (L2 := [(0, .ref 29), (1, .int a1), (2, .int a2), (3, .int a3), (4, .int a4), (5, .int a5)]) (st2 := [.int a2, .ref 29]) rfl ?_
    obtain ⟨r2, er2, h⟩ := ok_b h
    refine aw_cV tTX6_caught rfl 13 rfl (M' := MX6_isThere) (av := [.int a2]) (rest := []) rfl lkX6_78 hMX6_isThere rfl (w_29 hS) ⟨_, _, rfl⟩ (s_X6_isThere hS er2) ⟨rfl, rfl, ⟨by decide, by decide⟩, by decide, by decide⟩ (Nat.le_of_ble_eq_true rfl) 46 (wf_len hS) rfl [.int r2] rfl ?_
    refine aw_if_eq tTX6_caught rfl 21 16 rfl rfl (fun hc => ?_) (fun hc => ?_)
    · have h := ok_t hc h
      refine aw_run tTX6_caught 1 (pc2 := 24) (L2 := [(0, .ref 29), (1, .int a1), (2, .int a2), (3, .int a3), (4, .int a4), (5, .int a5)]) (st2 := [.long ((-1000000000000000001 : Int64))]) rfl ?_
      have h := ok_r h
      exact aw_lr tTX6_caught rfl rfl (Nat.le_refl _) (Nat.le_refl _) h
    · have h := ok_f hc h
      refine aw_run tTX6_caught 2 (pc2 := 18) (L2 := [(0, .ref 29), (1, .int a1), (2, .int a2), (3, .int a3), (4, .int a4), (5, .int a5)]) (st2 := [.int a2, .int a1]) rfl ?_
      refine aw_icmp_ne tTX6_caught rfl 25 21 rfl rfl (fun hc => ?_) (fun hc => ?_)
      · have h := ok_t hc h
        refine aw_run tTX6_caught 3 (pc2 := 29) (L2 := [(0, .ref 29), (1, .int a1), (2, .int a2), (3, .int a3), (4, .int a4), (5, .int a5)]) (st2 := [.int 10, .int 0, .int a3]) rfl ?_
        obtain ⟨r3, er3, h⟩ := ok_b h
        refine aw_cS tTX6_caught rfl 32 rfl (M' := MX6_in) (av := [.int a3, .int 0, .int 10]) (rest := []) rfl lkX6_66 hMX6_in rfl (s_X6_in hS er3) ⟨rfl, rfl, ⟨by decide, by decide⟩, by decide, by decide⟩ (Nat.le_of_ble_eq_true rfl) 46 (wf_len hS) rfl [.int r3] rfl ?_
        refine aw_if_eq tTX6_caught rfl 55 35 rfl rfl (fun hc => ?_) (fun hc => ?_)
        · have h := ok_t hc h
          refine aw_run tTX6_caught 1 (pc2 := 58) (L2 := [(0, .ref 29), (1, .int a1), (2, .int a2), (3, .int a3), (4, .int a4), (5, .int a5)]) (st2 := [.long ((-1000000000000000002 : Int64))]) rfl ?_
          have h := ok_r h
          exact aw_lr tTX6_caught rfl rfl (Nat.le_refl _) (Nat.le_refl _) h
        · have h := ok_f hc h
          refine aw_run tTX6_caught 3 (pc2 := 39) (L2 := [(0, .ref 29), (1, .int a1), (2, .int a2), (3, .int a3), (4, .int a4), (5, .int a5)]) (st2 := [.int 1, .int 0, .int a4]) rfl ?_
          obtain ⟨r4, er4, h⟩ := ok_b h
          refine aw_cS tTX6_caught rfl 42 rfl (M' := MX6_in) (av := [.int a4, .int 0, .int 1]) (rest := []) rfl lkX6_66 hMX6_in rfl (s_X6_in hS er4) ⟨rfl, rfl, ⟨by decide, by decide⟩, by decide, by decide⟩ (Nat.le_of_ble_eq_true rfl) 46 (wf_len hS) rfl [.int r4] rfl ?_
          refine aw_if_eq tTX6_caught rfl 55 45 rfl rfl (fun hc => ?_) (fun hc => ?_)
          · have h := ok_t hc h
            refine aw_run tTX6_caught 1 (pc2 := 58) (L2 := [(0, .ref 29), (1, .int a1), (2, .int a2), (3, .int a3), (4, .int a4), (5, .int a5)]) (st2 := [.long ((-1000000000000000002 : Int64))]) rfl ?_
            have h := ok_r h
            exact aw_lr tTX6_caught rfl rfl (Nat.le_refl _) (Nat.le_refl _) h
          · have h := ok_f hc h
            refine aw_run tTX6_caught 3 (pc2 := 49) (L2 := [(0, .ref 29), (1, .int a1), (2, .int a2), (3, .int a3), (4, .int a4), (5, .int a5)]) (st2 := [.int 1, .int 0, .int a5]) rfl ?_
            obtain ⟨r5, er5, h⟩ := ok_b h
            refine aw_cS tTX6_caught rfl 52 rfl (M' := MX6_in) (av := [.int a5, .int 0, .int 1]) (rest := []) rfl lkX6_66 hMX6_in rfl (s_X6_in hS er5) ⟨rfl, rfl, ⟨by decide, by decide⟩, by decide, by decide⟩ (Nat.le_of_ble_eq_true rfl) 46 (wf_len hS) rfl [.int r5] rfl ?_
            refine aw_if_ne tTX6_caught rfl 59 55 rfl rfl (fun hc => ?_) (fun hc => ?_)
            · have h := ok_t hc h
              refine aw_run tTX6_caught 1 (pc2 := 60) (L2 := [(0, .ref 29), (1, .int a1), (2, .int a2), (3, .int a3), (4, .int a4), (5, .int a5)]) (st2 := [.ref 29]) rfl ?_
              obtain ⟨r6, er6, h⟩ := ok_b h
              refine aw_cV tTX6_caught rfl 63 rfl (M' := MX6_asNow) (av := []) (rest := []) rfl lkX6_137 hMX6_asNow rfl (w_29 hS) ⟨_, _, rfl⟩ (s_X6_asNow hS er6) ⟨rfl, rfl, ⟨by decide, by decide⟩, by decide, by decide⟩ (Nat.le_of_ble_eq_true rfl) 46 (wf_len hS) rfl [] rfl ?_
              refine aw_run tTX6_caught 3 (pc2 := 66) (L2 := [(0, .ref 29), (1, .int a1), (2, .int a2), (3, .int a3), (4, .int a4), (5, .int a5)]) (st2 := [.int a2, .int a1, .ref 29]) rfl ?_
              obtain ⟨r7, er7, h⟩ := ok_b h
              refine aw_cV tTX6_caught rfl 69 rfl (M' := MX6_whyNot) (av := [.int a1, .int a2]) (rest := []) rfl lkX6_120 hMX6_whyNot rfl (w_29 hS) ⟨_, _, rfl⟩ (s_X6_whyNot hS er7) ⟨rfl, rfl, ⟨by decide, by decide⟩, by decide, by decide⟩ (Nat.le_of_ble_eq_true rfl) 46 (wf_len hS) rfl [.int r7] rfl ?_
              refine aw_if_eq tTX6_caught rfl 76 72 rfl rfl (fun hc => ?_) (fun hc => ?_)
              · have h := ok_t hc h
                refine aw_run tTX6_caught 1 (pc2 := 77) (L2 := [(0, .ref 29), (1, .int a1), (2, .int a2), (3, .int a3), (4, .int a4), (5, .int a5)]) (st2 := [.ref 29]) rfl ?_
                refine aw_getR tTX6_caught rfl 80 rfl (w_29 hS) rfl flX6_23 ?_
                refine aw_run tTX6_caught 1 (pc2 := 81) (L2 := [(0, .ref 29), (1, .int a1), (2, .int a2), (3, .int a3), (4, .int a4), (5, .int a5)]) (st2 := [.int a1, .ref 33]) rfl ?_
                obtain ⟨hi, h⟩ := ok_gi h
                refine aw_iald tTX6_caught rfl 82 rfl (w_33 hS) hi ?_
                refine aw_run tTX6_caught 3 (pc2 := 85) (L2 := [(0, .ref 29), (1, .int a1), (2, .int a2), (3, .int a3), (4, .int a4), (5, .int a5)]) (st2 := [.int a2, .int a1, .ref 29, .int (r6 33 a1.toNatClampNeg)]) rfl ?_
                obtain ⟨r8, er8, h⟩ := ok_b h
                refine aw_cV tTX6_caught rfl 88 rfl (M' := MX6_takes) (av := [.int a1, .int a2]) (rest := [.int (r6 33 a1.toNatClampNeg)]) rfl lkX6_117 hMX6_takes rfl (w_29 hS) ⟨_, _, rfl⟩ (s_X6_takes hS er8) ⟨rfl, rfl, ⟨by decide, by decide⟩, by decide, by decide⟩ (Nat.le_of_ble_eq_true rfl) 46 (wf_len hS) rfl [.int r8, .int (r6 33 a1.toNatClampNeg)] rfl ?_
                refine aw_run tTX6_caught 1 (pc2 := 89) (L2 := [(0, .ref 29), (1, .int a1), (2, .int a2), (3, .int a3), (4, .int a4), (5, .int a5)]) (st2 := [.int ((r6 33 a1.toNatClampNeg) + r8)]) rfl ?_
                refine aw_nm (fun x9 ex9 => ?_)
                have h := ok_nm h x9 ex9
                refine aw_run tTX6_caught 1 (pc2 := 91) (L2 := [(6, .int x9), (0, .ref 29), (1, .int a1), (2, .int a2), (3, .int a3), (4, .int a4), (5, .int a5)]) (st2 := []) rfl ?_
                refine aw_run tTX6_caught 2 (pc2 := 95) (L2 := [(6, .int x9), (0, .ref 29), (1, .int a1), (2, .int a2), (3, .int a3), (4, .int a4), (5, .int a5)]) (st2 := [.int 9, .int x9]) rfl ?_
                refine ok_use (P := fun j10 : Int32 => AW MX6_caught E0 rmX6_caught 0 0 Q 0 0 S r6 107 [(0, .ref 29), (1, .int a1), (3, .int a3), (4, .int a4), (5, .int a5), (6, .int x9)] [.int j10]) (ok_b h) (fun j10 h => ?_) (fun h => ?_)
                · refine aw_run tTX6_caught 2 (pc2 := 111) (L2 := [(7, .int j10), (0, .ref 29), (1, .int a1), (3, .int a3), (4, .int a4), (5, .int a5), (6, .int x9)]) (st2 := [.int a4]) rfl ?_
                  refine ok_use (P := fun j11 : Int64 => AW MX6_caught E0 rmX6_caught 0 0 Q 0 0 S r6 171 [(5, .int a5)] [.long (j11)]) (ok_b h) (fun j11 h => ?_) (fun h => ?_)
                  · refine aw_run tTX6_caught 5 (pc2 := 182) (L2 := [(12, .long (10)), (10, .long (j11)), (8, .long (j11)), (5, .int a5)]) (st2 := []) rfl ?_
                    refine ok_use (P := fun z14 : Int64 => AW MX6_caught E0 rmX6_caught 0 0 Q 0 0 S r6 207 [(5, .int a5), (8, .long (j11)), (10, .long (z14))] []) (ok_b h) (fun z14 h => ?_) (fun h => ?_)
                    · refine aw_run tTX6_caught 1 (pc2 := 209) (L2 := [(5, .int a5), (8, .long (j11)), (10, .long (z14))]) (st2 := [.int a5]) rfl ?_
                      refine aw_if_ne tTX6_caught rfl 220 212 rfl rfl (fun hc => ?_) (fun hc => ?_)
                      · have h := ok_t hc h
                        refine aw_run tTX6_caught 2 (pc2 := 225) (L2 := [(5, .int a5), (8, .long (j11)), (10, .long (z14))]) (st2 := [.long (z14), .long (10)]) rfl ?_
                        obtain ⟨hz, h⟩ := ok_gzL h
                        refine aw_ldiv tTX6_caught rfl 226 rfl hz ?_
                        have h := ok_r h
                        exact aw_lr tTX6_caught rfl rfl (Nat.le_refl _) (Nat.le_refl _) h
                      · have h := ok_fn hc h
                        refine aw_run tTX6_caught 2 (pc2 := 216) (L2 := [(5, .int a5), (8, .long (j11)), (10, .long (z14))]) (st2 := [.long (z14), .long (j11)]) rfl ?_
                        obtain ⟨hz, h⟩ := ok_gzL h
                        refine aw_ldiv tTX6_caught rfl 217 rfl hz ?_
                        refine aw_run tTX6_caught 1 (pc2 := 226) (L2 := [(5, .int a5), (8, .long (j11)), (10, .long (z14))]) (st2 := [.long (j11 / z14)]) rfl ?_
                        have h := ok_r h
                        exact aw_lr tTX6_caught rfl rfl (Nat.le_refl _) (Nat.le_refl _) h
                    · refine aw_sub [3, 2, 1, 0] rfl ?_
                      refine loop_P (P := fun s : Int64 × Int64 => AW MX6_caught E0 rmX6_caught 0 0 Q 0 0 S r6 182 [(5, .int a5), (8, .long (j11)), (10, .long (s.1)), (12, .long (s.2))] []) (fun s h => ?_) _ _ h
                      obtain ⟨y12, y13⟩ := s
                      replace h : ok (l_X6_caught_182  y12 y13) _ := h
                      unfold l_X6_caught_182 at h
                      show AW MX6_caught E0 rmX6_caught 0 0 Q 0 0 S r6 182 [(5, .int a5), (8, .long (j11)), (10, .long (y12)), (12, .long (y13))] []
                      refine aw_run tTX6_caught 3 (pc2 := 186) (L2 := [(5, .int a5), (8, .long (j11)), (10, .long (y12)), (12, .long (y13))]) (st2 := [.int (lg_cmp y13 0)]) rfl ?_
                      refine aw_if_eq tTX6_caught rfl 207 189 rfl rfl (fun hc => ?_) (fun hc => ?_)
                      · have h := ok_t hc h
                        refine aw_sub [0, 1, 2] rfl ?_
                        have h := ok_r h
                        exact h
                      · have h := ok_f hc h
                        refine aw_run tTX6_caught 2 (pc2 := 193) (L2 := [(5, .int a5), (8, .long (j11)), (10, .long (y12)), (12, .long (y13))]) (st2 := [.long (y13), .long (y12)]) rfl ?_
                        obtain ⟨hz, h⟩ := ok_gzL h
                        refine aw_lrem tTX6_caught rfl 194 rfl hz ?_
                        refine aw_run tTX6_caught 6 (pc2 := 182) (L2 := [(12, .long (jremL y12 y13)), (10, .long (y13)), (14, .long (jremL y12 y13)), (5, .int a5), (8, .long (j11))]) (st2 := []) rfl ?_
                        refine aw_sub [3, 4, 1, 0] rfl ?_
                        have h := ok_r h
                        exact h
                  · refine aw_if_ne tTX6_caught rfl 134 114 rfl rfl (fun hc => ?_) (fun hc => ?_)
                    · have h := ok_t hc h
                      refine aw_run tTX6_caught 2 (pc2 := 137) (L2 := [(7, .int j10), (0, .ref 29), (1, .int a1), (3, .int a3), (4, .int a4), (5, .int a5), (6, .int x9)]) (st2 := [.ref 29, .int j10]) rfl ?_
                      refine aw_getR tTX6_caught rfl 140 rfl (w_29 hS) rfl flX6_23 ?_
                      refine aw_run tTX6_caught 1 (pc2 := 141) (L2 := [(7, .int j10), (0, .ref 29), (1, .int a1), (3, .int a3), (4, .int a4), (5, .int a5), (6, .int x9)]) (st2 := [.int a1, .ref 33, .int j10]) rfl ?_
                      obtain ⟨hi, h⟩ := ok_gi h
                      refine aw_iald tTX6_caught rfl 142 rfl (w_33 hS) hi ?_
                      refine ok_use (P := fun j15 : Int32 => AW MX6_caught E0 rmX6_caught 0 0 Q 0 0 S r6 150 [(0, .ref 29), (1, .int a1), (3, .int a3), (5, .int a5), (6, .int x9)] [.int j15]) (ok_b h) (fun j15 h => ?_) (fun h => ?_)
                      · refine aw_run tTX6_caught 2 (pc2 := 153) (L2 := [(0, .ref 29), (1, .int a1), (3, .int a3), (5, .int a5), (6, .int x9)]) (st2 := [.ref 29, .int x9, .int j15]) rfl ?_
                        refine aw_getR tTX6_caught rfl 156 rfl (w_29 hS) rfl flX6_23 ?_
                        refine aw_run tTX6_caught 1 (pc2 := 157) (L2 := [(0, .ref 29), (1, .int a1), (3, .int a3), (5, .int a5), (6, .int x9)]) (st2 := [.int a1, .ref 33, .int x9, .int j15]) rfl ?_
                        obtain ⟨hi, h⟩ := ok_gi h
                        refine aw_iald tTX6_caught rfl 158 rfl (w_33 hS) hi ?_
                        refine ok_use (P := fun j16 : Int32 => AW MX6_caught E0 rmX6_caught 0 0 Q 0 0 S r6 169 [(5, .int a5)] [.int j16, .int j15]) (ok_b h) (fun j16 h => ?_) (fun h => ?_)
                        · refine aw_run tTX6_caught 2 (pc2 := 171) (L2 := [(5, .int a5)]) (st2 := [.long ((j15 + j16).toInt64)]) rfl ?_
                          refine aw_sub [0] rfl ?_
                          have h := ok_r h
                          exact h
                        · refine aw_icmp_le tTX6_caught rfl 168 161 rfl rfl (fun hc => ?_) (fun hc => ?_)
                          · have h := ok_t hc h
                            refine aw_run tTX6_caught 1 (pc2 := 169) (L2 := [(0, .ref 29), (1, .int a1), (3, .int a3), (5, .int a5), (6, .int x9)]) (st2 := [.int 0, .int j15]) rfl ?_
                            refine aw_sub [3] rfl ?_
                            have h := ok_r h
                            exact h
                          · have h := ok_f hc h
                            refine aw_run tTX6_caught 4 (pc2 := 169) (L2 := [(0, .ref 29), (1, .int a1), (3, .int a3), (5, .int a5), (6, .int x9)]) (st2 := [.int (10 - a3), .int j15]) rfl ?_
                            refine aw_sub [3] rfl ?_
                            have h := ok_r h
                            exact h
                      · refine aw_icmp_le tTX6_caught rfl 149 145 rfl rfl (fun hc => ?_) (fun hc => ?_)
                        · have h := ok_t hc h
                          refine aw_run tTX6_caught 1 (pc2 := 150) (L2 := [(7, .int j10), (0, .ref 29), (1, .int a1), (3, .int a3), (4, .int a4), (5, .int a5), (6, .int x9)]) (st2 := [.int 0]) rfl ?_
                          refine aw_sub [1, 2, 3, 5, 6] rfl ?_
                          have h := ok_r h
                          exact h
                        · have h := ok_f hc h
                          refine aw_run tTX6_caught 2 (pc2 := 150) (L2 := [(7, .int j10), (0, .ref 29), (1, .int a1), (3, .int a3), (4, .int a4), (5, .int a5), (6, .int x9)]) (st2 := [.int a3]) rfl ?_
                          refine aw_sub [1, 2, 3, 5, 6] rfl ?_
                          have h := ok_r h
                          exact h
                    · have h := ok_fn hc h
                      refine aw_run tTX6_caught 14 (pc2 := 171) (L2 := [(7, .int j10), (0, .ref 29), (1, .int a1), (3, .int a3), (4, .int a4), (5, .int a5), (6, .int x9)]) (st2 := [.long ((a3.toInt64 * j10.toInt64) + ((10 - a3.toInt64) * x9.toInt64))]) rfl ?_
                      refine aw_sub [5] rfl ?_
                      have h := ok_r h
                      exact h
                · refine aw_icmp_le tTX6_caught rfl 106 98 rfl rfl (fun hc => ?_) (fun hc => ?_)
                  · have h := ok_t hc h
                    refine aw_run tTX6_caught 1 (pc2 := 107) (L2 := [(6, .int x9), (0, .ref 29), (1, .int a1), (2, .int a2), (3, .int a3), (4, .int a4), (5, .int a5)]) (st2 := [.int 0]) rfl ?_
                    refine aw_sub [1, 2, 4, 5, 6, 0] rfl ?_
                    have h := ok_r h
                    exact h
                  · have h := ok_f hc h
                    refine aw_run tTX6_caught 4 (pc2 := 107) (L2 := [(6, .int x9), (0, .ref 29), (1, .int a1), (2, .int a2), (3, .int a3), (4, .int a4), (5, .int a5)]) (st2 := [.int (x9 - 9)]) rfl ?_
                    refine aw_sub [1, 2, 4, 5, 6, 0] rfl ?_
                    have h := ok_r h
                    exact h
              · have h := ok_f hc h
                refine aw_run tTX6_caught 1 (pc2 := 75) (L2 := [(0, .ref 29), (1, .int a1), (2, .int a2), (3, .int a3), (4, .int a4), (5, .int a5)]) (st2 := [.long ((-1000000000000000003 : Int64))]) rfl ?_
                have h := ok_r h
                exact aw_lr tTX6_caught rfl rfl (Nat.le_refl _) (Nat.le_refl _) h
            · have h := ok_fn hc h
              refine aw_run tTX6_caught 1 (pc2 := 58) (L2 := [(0, .ref 29), (1, .int a1), (2, .int a2), (3, .int a3), (4, .int a4), (5, .int a5)]) (st2 := [.long ((-1000000000000000002 : Int64))]) rfl ?_
              have h := ok_r h
              exact aw_lr tTX6_caught rfl rfl (Nat.le_refl _) (Nat.le_refl _) h
      · have h := ok_fn hc h
        refine aw_run tTX6_caught 1 (pc2 := 24) (L2 := [(0, .ref 29), (1, .int a1), (2, .int a2), (3, .int a3), (4, .int a4), (5, .int a5)]) (st2 := [.long ((-1000000000000000001 : Int64))]) rfl ?_
        have h := ok_r h
        exact aw_lr tTX6_caught rfl rfl (Nat.le_refl _) (Nat.le_refl _) h
theorem s_X6_caught {g : Nat → Option Nat} {S : List SC} (hS : Wf g S) {σ : St} {a1 : Int32} {a2 : Int32} {a3 : Int32} {a4 : Int32} {a5 : Int32} {r : Int64 × St} (e : f_X6_caught a1 a2 a3 a4 a5 σ = some r) : Fn MX6_caught rmX6_caught [.ref 29, .int a1, .int a2, .int a3, .int a4, .int a5] S σ (some (.long r.1)) r.2 := Sp.of (by decide) (Nat.le_of_ble_eq_true rfl) (t_X6_caught hS a1 a2 a3 a4 a5 ⟨r, e, rfl, rfl, rfl⟩)
def l_X6_moons_28 (a1 : Int32) (σ : St) (y3 : Int32) (y4 : Int32) : Option ((Int32 × Int32) ⊕ (Int32)) := if 6 ≤ y4 then (some (.inr y3)) else (gi y4 6 (gi a1 6 (Option.bind (α := Int32) (if (σ 33 y4.toNatClampNeg) < (σ 33 a1.toNatClampNeg) then (some 1) else (gi y4 6 (gi a1 6 (if ¬ (σ 33 y4.toNatClampNeg) = (σ 33 a1.toNatClampNeg) then (some 0) else (if a1 ≤ y4 then (some 0) else (some 1)))))) (fun (j6 : Int32) => Option.bind (f_X6_has (σ 29 0) y4) (fun r7 => Option.bind (α := Int32) (if r7 = 0 then (some 0) else (if j6 = 0 then (some 0) else (some 1))) (fun (j8 : Int32) => some (.inl (y3 + j8, y4 + 1))))))))
def f_X6_moons (a1 : Int32) (a2 : Int32) (σ : St) : Option (Int32) := Option.bind (f_X6_isThere a1 σ) (fun r1 => if ¬ r1 = 0 then (Option.bind (f_X6_in a2 0 60) (fun r2 => if ¬ r2 = 0 then (Option.bind (loop (fun s : Int32 × Int32 => l_X6_moons_28 a1 σ s.1 s.2) 400 (0, 0)) (fun (z5 : Int32) => Option.bind (f_X6_bits (σ 29 0)) (fun r9 => gz r9 (gz r9 (Option.bind (α := Int32) (if (jrem a2 r9) ≤ z5 then (some 0) else (some 1)) (fun (j10 : Int32) => some ((a2 / r9) + j10))))))) else (some ((-2 : Int32))))) else (some ((-1 : Int32))))
set_option maxHeartbeats 4000000 in
set_option maxRecDepth 20000 in
theorem t_X6_moons {g : Nat → Option Nat} {S : List SC} (hS : Wf g S) {σ : St} {Q : QT} (a1 : Int32) (a2 : Int32) (h : ok (f_X6_moons a1 a2 σ) (fun r => Q (some (.int r)) S σ)) : AW MX6_moons E0 rmX6_moons 0 0 Q 0 0 S σ 0 [(0, .ref 29), (1, .int a1), (2, .int a2)] [] := by
  unfold f_X6_moons at h
  refine aw_run tTX6_moons 2 (pc2 := 2) (L2 := [(0, .ref 29), (1, .int a1), (2, .int a2)]) (st2 := [.int a1, .ref 29]) rfl ?_
  obtain ⟨r1, er1, h⟩ := ok_b h
  refine aw_cV tTX6_moons rfl 5 rfl (M' := MX6_isThere) (av := [.int a1]) (rest := []) rfl lkX6_78 hMX6_isThere rfl (w_29 hS) ⟨_, _, rfl⟩ (s_X6_isThere hS er1) ⟨rfl, rfl, ⟨by decide, by decide⟩, by decide, by decide⟩ (Nat.le_of_ble_eq_true rfl) 46 (wf_len hS) rfl [.int r1] rfl ?_
  refine aw_if_ne tTX6_moons rfl 10 8 rfl rfl (fun hc => ?_) (fun hc => ?_)
  · have h := ok_t hc h
    refine aw_run tTX6_moons 3 (pc2 := 14) (L2 := [(0, .ref 29), (1, .int a1), (2, .int a2)]) (st2 := [.int 60, .int 0, .int a2]) rfl ?_
    obtain ⟨r2, er2, h⟩ := ok_b h
    refine aw_cS tTX6_moons rfl 17 rfl (M' := MX6_in) (av := [.int a2, .int 0, .int 60]) (rest := []) rfl lkX6_66 hMX6_in rfl (s_X6_in hS er2) ⟨rfl, rfl, ⟨by decide, by decide⟩, by decide, by decide⟩ (Nat.le_of_ble_eq_true rfl) 46 (wf_len hS) rfl [.int r2] rfl ?_
    refine aw_if_ne tTX6_moons rfl 23 20 rfl rfl (fun hc => ?_) (fun hc => ?_)
    · have h := ok_t hc h
      refine aw_run tTX6_moons 4 (pc2 := 28) (L2 := [(4, .int 0), (3, .int 0), (0, .ref 29), (1, .int a1), (2, .int a2)]) (st2 := []) rfl ?_
      refine ok_use (P := fun z5 : Int32 => AW MX6_moons E0 rmX6_moons 0 0 Q 0 0 S σ 111 [(0, .ref 29), (2, .int a2), (3, .int z5)] []) (ok_b h) (fun z5 h => ?_) (fun h => ?_)
      · refine aw_run tTX6_moons 1 (pc2 := 112) (L2 := [(0, .ref 29), (2, .int a2), (3, .int z5)]) (st2 := [.ref 29]) rfl ?_
        refine aw_getI tTX6_moons rfl 115 rfl (w_29 hS) rfl flX6_63 ?_
        obtain ⟨r9, er9, h⟩ := ok_b h
        refine aw_cS tTX6_moons rfl 118 rfl (M' := MX6_bits) (av := [.int (σ 29 0)]) (rest := []) rfl lkX6_74 hMX6_bits rfl (s_X6_bits hS er9) ⟨rfl, rfl, ⟨by decide, by decide⟩, by decide, by decide⟩ (Nat.le_of_ble_eq_true rfl) 46 (wf_len hS) rfl [.int r9] rfl ?_
        refine aw_run tTX6_moons 3 (pc2 := 123) (L2 := [(4, .int r9), (0, .ref 29), (2, .int a2), (3, .int z5)]) (st2 := [.int r9, .int a2]) rfl ?_
        obtain ⟨hz, h⟩ := ok_gz h
        refine aw_idiv tTX6_moons rfl 124 rfl hz ?_
        refine aw_run tTX6_moons 3 (pc2 := 128) (L2 := [(4, .int r9), (0, .ref 29), (2, .int a2), (3, .int z5)]) (st2 := [.int r9, .int a2, .int z5, .int (a2 / r9)]) rfl ?_
        obtain ⟨hz, h⟩ := ok_gz h
        refine aw_irem tTX6_moons rfl 129 rfl hz ?_
        refine ok_use (P := fun j10 : Int32 => AW MX6_moons E0 rmX6_moons 0 0 Q 0 0 S σ 137 [] [.int j10, .int (a2 / r9)]) (ok_b h) (fun j10 h => ?_) (fun h => ?_)
        · refine aw_run tTX6_moons 1 (pc2 := 138) (L2 := []) (st2 := [.int ((a2 / r9) + j10)]) rfl ?_
          have h := ok_r h
          exact aw_ir tTX6_moons rfl rfl rfl (Nat.le_refl _) (Nat.le_refl _) h
        · refine aw_icmp_ge tTX6_moons rfl 136 132 rfl rfl (fun hc => ?_) (fun hc => ?_)
          · have h := ok_t hc h
            refine aw_run tTX6_moons 1 (pc2 := 137) (L2 := [(4, .int r9), (0, .ref 29), (2, .int a2), (3, .int z5)]) (st2 := [.int 0, .int (a2 / r9)]) rfl ?_
            refine aw_sub [] rfl ?_
            have h := ok_r h
            exact h
          · have h := ok_f hc h
            refine aw_run tTX6_moons 2 (pc2 := 137) (L2 := [(4, .int r9), (0, .ref 29), (2, .int a2), (3, .int z5)]) (st2 := [.int 1, .int (a2 / r9)]) rfl ?_
            refine aw_sub [] rfl ?_
            have h := ok_r h
            exact h
      · refine aw_sub [2, 3, 4, 1, 0] rfl ?_
        refine loop_P (P := fun s : Int32 × Int32 => AW MX6_moons E0 rmX6_moons 0 0 Q 0 0 S σ 28 [(0, .ref 29), (1, .int a1), (2, .int a2), (3, .int s.1), (4, .int s.2)] []) (fun s h => ?_) _ _ h
        obtain ⟨y3, y4⟩ := s
        replace h : ok (l_X6_moons_28 a1 σ y3 y4) _ := h
        unfold l_X6_moons_28 at h
        show AW MX6_moons E0 rmX6_moons 0 0 Q 0 0 S σ 28 [(0, .ref 29), (1, .int a1), (2, .int a2), (3, .int y3), (4, .int y4)] []
        refine aw_run tTX6_moons 2 (pc2 := 32) (L2 := [(0, .ref 29), (1, .int a1), (2, .int a2), (3, .int y3), (4, .int y4)]) (st2 := [.int 6, .int y4]) rfl ?_
        refine aw_icmp_ge tTX6_moons rfl 111 35 rfl rfl (fun hc => ?_) (fun hc => ?_)
        · have h := ok_t hc h
          refine aw_sub [0, 2, 3] rfl ?_
          have h := ok_r h
          exact h
        · have h := ok_f hc h
          refine aw_run tTX6_moons 1 (pc2 := 36) (L2 := [(0, .ref 29), (1, .int a1), (2, .int a2), (3, .int y3), (4, .int y4)]) (st2 := [.ref 29]) rfl ?_
          refine aw_getR tTX6_moons rfl 39 rfl (w_29 hS) rfl flX6_23 ?_
          refine aw_run tTX6_moons 1 (pc2 := 41) (L2 := [(0, .ref 29), (1, .int a1), (2, .int a2), (3, .int y3), (4, .int y4)]) (st2 := [.int y4, .ref 33]) rfl ?_
          obtain ⟨hi, h⟩ := ok_gi h
          refine aw_iald tTX6_moons rfl 42 rfl (w_33 hS) hi ?_
          refine aw_run tTX6_moons 1 (pc2 := 43) (L2 := [(0, .ref 29), (1, .int a1), (2, .int a2), (3, .int y3), (4, .int y4)]) (st2 := [.ref 29, .int (σ 33 y4.toNatClampNeg)]) rfl ?_
          refine aw_getR tTX6_moons rfl 46 rfl (w_29 hS) rfl flX6_23 ?_
          refine aw_run tTX6_moons 1 (pc2 := 47) (L2 := [(0, .ref 29), (1, .int a1), (2, .int a2), (3, .int y3), (4, .int y4)]) (st2 := [.int a1, .ref 33, .int (σ 33 y4.toNatClampNeg)]) rfl ?_
          obtain ⟨hi, h⟩ := ok_gi h
          refine aw_iald tTX6_moons rfl 48 rfl (w_33 hS) hi ?_
          refine ok_use (P := fun j6 : Int32 => AW MX6_moons E0 rmX6_moons 0 0 Q 0 0 S σ 78 [(0, .ref 29), (1, .int a1), (2, .int a2), (3, .int y3), (4, .int y4)] [.int j6]) (ok_b h) (fun j6 h => ?_) (fun h => ?_)
          · refine aw_run tTX6_moons 3 (pc2 := 82) (L2 := [(5, .int j6), (0, .ref 29), (1, .int a1), (2, .int a2), (3, .int y3), (4, .int y4)]) (st2 := [.ref 29, .int y3]) rfl ?_
            refine aw_getI tTX6_moons rfl 85 rfl (w_29 hS) rfl flX6_63 ?_
            refine aw_run tTX6_moons 1 (pc2 := 87) (L2 := [(5, .int j6), (0, .ref 29), (1, .int a1), (2, .int a2), (3, .int y3), (4, .int y4)]) (st2 := [.int y4, .int (σ 29 0), .int y3]) rfl ?_
            obtain ⟨r7, er7, h⟩ := ok_b h
            refine aw_cS tTX6_moons rfl 90 rfl (M' := MX6_has) (av := [.int (σ 29 0), .int y4]) (rest := [.int y3]) rfl lkX6_70 hMX6_has rfl (s_X6_has hS er7) ⟨rfl, rfl, ⟨by decide, by decide⟩, by decide, by decide⟩ (Nat.le_of_ble_eq_true rfl) 46 (wf_len hS) rfl [.int r7, .int y3] rfl ?_
            refine ok_use (P := fun j8 : Int32 => AW MX6_moons E0 rmX6_moons 0 0 Q 0 0 S σ 103 [(0, .ref 29), (1, .int a1), (2, .int a2), (4, .int y4)] [.int j8, .int y3]) (ok_b h) (fun j8 h => ?_) (fun h => ?_)
            · refine aw_run tTX6_moons 4 (pc2 := 28) (L2 := [(4, .int (y4 + 1)), (3, .int (y3 + j8)), (0, .ref 29), (1, .int a1), (2, .int a2)]) (st2 := []) rfl ?_
              refine aw_sub [2, 3, 4, 1, 0] rfl ?_
              have h := ok_r h
              exact h
            · refine aw_if_eq tTX6_moons rfl 102 93 rfl rfl (fun hc => ?_) (fun hc => ?_)
              · have h := ok_t hc h
                refine aw_run tTX6_moons 1 (pc2 := 103) (L2 := [(5, .int j6), (0, .ref 29), (1, .int a1), (2, .int a2), (3, .int y3), (4, .int y4)]) (st2 := [.int 0, .int y3]) rfl ?_
                refine aw_sub [1, 2, 3, 5] rfl ?_
                have h := ok_r h
                exact h
              · have h := ok_f hc h
                refine aw_run tTX6_moons 1 (pc2 := 95) (L2 := [(5, .int j6), (0, .ref 29), (1, .int a1), (2, .int a2), (3, .int y3), (4, .int y4)]) (st2 := [.int j6, .int y3]) rfl ?_
                refine aw_if_eq tTX6_moons rfl 102 98 rfl rfl (fun hc => ?_) (fun hc => ?_)
                · have h := ok_t hc h
                  refine aw_run tTX6_moons 1 (pc2 := 103) (L2 := [(5, .int j6), (0, .ref 29), (1, .int a1), (2, .int a2), (3, .int y3), (4, .int y4)]) (st2 := [.int 0, .int y3]) rfl ?_
                  refine aw_sub [1, 2, 3, 5] rfl ?_
                  have h := ok_r h
                  exact h
                · have h := ok_f hc h
                  refine aw_run tTX6_moons 2 (pc2 := 103) (L2 := [(5, .int j6), (0, .ref 29), (1, .int a1), (2, .int a2), (3, .int y3), (4, .int y4)]) (st2 := [.int 1, .int y3]) rfl ?_
                  refine aw_sub [1, 2, 3, 5] rfl ?_
                  have h := ok_r h
                  exact h
          · refine aw_icmp_lt tTX6_moons rfl 73 51 rfl rfl (fun hc => ?_) (fun hc => ?_)
            · have h := ok_t hc h
              refine aw_run tTX6_moons 2 (pc2 := 78) (L2 := [(0, .ref 29), (1, .int a1), (2, .int a2), (3, .int y3), (4, .int y4)]) (st2 := [.int 1]) rfl ?_
              refine aw_sub [0, 1, 2, 3, 4] rfl ?_
              have h := ok_r h
              exact h
            · have h := ok_f hc h
              refine aw_run tTX6_moons 1 (pc2 := 52) (L2 := [(0, .ref 29), (1, .int a1), (2, .int a2), (3, .int y3), (4, .int y4)]) (st2 := [.ref 29]) rfl ?_
              refine aw_getR tTX6_moons rfl 55 rfl (w_29 hS) rfl flX6_23 ?_
              refine aw_run tTX6_moons 1 (pc2 := 57) (L2 := [(0, .ref 29), (1, .int a1), (2, .int a2), (3, .int y3), (4, .int y4)]) (st2 := [.int y4, .ref 33]) rfl ?_
              obtain ⟨hi, h⟩ := ok_gi h
              refine aw_iald tTX6_moons rfl 58 rfl (w_33 hS) hi ?_
              refine aw_run tTX6_moons 1 (pc2 := 59) (L2 := [(0, .ref 29), (1, .int a1), (2, .int a2), (3, .int y3), (4, .int y4)]) (st2 := [.ref 29, .int (σ 33 y4.toNatClampNeg)]) rfl ?_
              refine aw_getR tTX6_moons rfl 62 rfl (w_29 hS) rfl flX6_23 ?_
              refine aw_run tTX6_moons 1 (pc2 := 63) (L2 := [(0, .ref 29), (1, .int a1), (2, .int a2), (3, .int y3), (4, .int y4)]) (st2 := [.int a1, .ref 33, .int (σ 33 y4.toNatClampNeg)]) rfl ?_
              obtain ⟨hi, h⟩ := ok_gi h
              refine aw_iald tTX6_moons rfl 64 rfl (w_33 hS) hi ?_
              refine aw_icmp_ne tTX6_moons rfl 77 67 rfl rfl (fun hc => ?_) (fun hc => ?_)
              · have h := ok_t hc h
                refine aw_run tTX6_moons 1 (pc2 := 78) (L2 := [(0, .ref 29), (1, .int a1), (2, .int a2), (3, .int y3), (4, .int y4)]) (st2 := [.int 0]) rfl ?_
                refine aw_sub [0, 1, 2, 3, 4] rfl ?_
                have h := ok_r h
                exact h
              · have h := ok_fn hc h
                refine aw_run tTX6_moons 2 (pc2 := 70) (L2 := [(0, .ref 29), (1, .int a1), (2, .int a2), (3, .int y3), (4, .int y4)]) (st2 := [.int a1, .int y4]) rfl ?_
                refine aw_icmp_ge tTX6_moons rfl 77 73 rfl rfl (fun hc => ?_) (fun hc => ?_)
                · have h := ok_t hc h
                  refine aw_run tTX6_moons 1 (pc2 := 78) (L2 := [(0, .ref 29), (1, .int a1), (2, .int a2), (3, .int y3), (4, .int y4)]) (st2 := [.int 0]) rfl ?_
                  refine aw_sub [0, 1, 2, 3, 4] rfl ?_
                  have h := ok_r h
                  exact h
                · have h := ok_f hc h
                  refine aw_run tTX6_moons 2 (pc2 := 78) (L2 := [(0, .ref 29), (1, .int a1), (2, .int a2), (3, .int y3), (4, .int y4)]) (st2 := [.int 1]) rfl ?_
                  refine aw_sub [0, 1, 2, 3, 4] rfl ?_
                  have h := ok_r h
                  exact h
    · have h := ok_fn hc h
      refine aw_run tTX6_moons 1 (pc2 := 22) (L2 := [(0, .ref 29), (1, .int a1), (2, .int a2)]) (st2 := [.int (-2 : Int32)]) rfl ?_
      have h := ok_r h
      exact aw_ir tTX6_moons rfl rfl rfl (Nat.le_refl _) (Nat.le_refl _) h
  · have h := ok_fn hc h
    refine aw_run tTX6_moons 1 (pc2 := 9) (L2 := [(0, .ref 29), (1, .int a1), (2, .int a2)]) (st2 := [.int (-1 : Int32)]) rfl ?_
    have h := ok_r h
    exact aw_ir tTX6_moons rfl rfl rfl (Nat.le_refl _) (Nat.le_refl _) h
theorem s_X6_moons {g : Nat → Option Nat} {S : List SC} (hS : Wf g S) {σ : St} {a1 : Int32} {a2 : Int32} {r : Int32} (e : f_X6_moons a1 a2 σ = some r) : Fn MX6_moons rmX6_moons [.ref 29, .int a1, .int a2] S σ (some (.int r)) σ := Sp.of (by decide) (Nat.le_of_ble_eq_true rfl) (t_X6_moons hS a1 a2 ⟨r, e, rfl, rfl, rfl⟩)
def l_X6_year_46 (a2 : Int32) (y5 : Int32) (y6 : Int32) (y7 : Int32) (σ8 : St) : Option ((Int32 × Int32 × Int32 × St) ⊕ (Int32 × St)) := if a2 ≤ y7 then (some (.inr (y6, σ8))) else (nm (jrem (((75 : Int32) * y5) + 74) 65537) (fun (x10 : Int32) => Option.bind (α := Int32 × St) (if ¬ (jrem x10 8) = 0 then (Option.bind (α := Int32) (if ¬ (jrem x10 8) = 1 then (if ¬ (jrem x10 8) = 2 then (if ¬ (jrem x10 8) = 3 then (some (65 + (jrem (x10 / 64) 6))) else (some 33)) else (some 126)) else (some 42)) (fun (j12 : Int32) => Option.bind (f_X6_act (jrem (x10 / 8) 6) j12 σ8) (fun r13 => Option.bind (α := Int32) (if ¬ r13.1 = 0 then (some 0) else (if (jrem x10 8) ≤ 3 then (some 0) else (some 1))) (fun (j14 : Int32) => some (y6 + j14, r13.2))))) else (Option.bind (f_X6_endNight  σ8) (fun r15 => some (y6, r15.2)))) (fun (j11 : Int32 × St) => some (.inl (x10, j11.1, y7 + 1, j11.2)))))
def l_X6_year_187 (z9 : Int32 × St) (y16 : Int32) (y17 : Int32) (y18 : Int32) : Option ((Int32 × Int32 × Int32) ⊕ (Int32 × Int32)) := if 6 ≤ y18 then (some (.inr (y16, y17))) else (Option.bind (f_X6_has (z9.2 29 0) y18) (fun r20 => Option.bind (α := Int32) (if r20 = 0 then (some 0) else (gi y18 6 (some (z9.2 38 y18.toNatClampNeg)))) (fun (j21 : Int32) => Option.bind (f_X6_has (z9.2 29 0) y18) (fun r22 => Option.bind (α := Int32) (if r22 = 0 then (some 0) else (gi y18 6 (some (z9.2 37 y18.toNatClampNeg)))) (fun (j23 : Int32) => some (.inl (y16 + j21, y17 + j23, y18 + 1)))))))
def f_X6_year (a1 : Int32) (a2 : Int32) (a3 : Int32) (σ : St) : Option (Int32 × St) := Option.bind (f_X6_in a1 0 9999) (fun r1 => if r1 = 0 then (some (((-2 : Int32), σ))) else (Option.bind (f_X6_in a2 1 99) (fun r2 => if r2 = 0 then (some (((-2 : Int32), σ))) else (Option.bind (f_X6_in a3 0 2) (fun r3 => if ¬ r3 = 0 then (Option.bind (f_X6_asNow  σ) (fun r4 => Option.bind (loop (fun s : Int32 × Int32 × Int32 × St => l_X6_year_46 a2 s.1 s.2.1 s.2.2.1 s.2.2.2) 400 (a1, 0, 0, r4)) (fun (z9 : Int32 × St) => Option.bind (loop (fun s : Int32 × Int32 × Int32 => l_X6_year_187 z9 s.1 s.2.1 s.2.2) 400 (0, 0, 0)) (fun (z19 : Int32 × Int32) => if ¬ a3 = 0 then (if ¬ a3 = 1 then (some ((z9.1, z9.2))) else (some ((z19.2, z9.2)))) else (some ((z19.1, z9.2))))))) else (some (((-2 : Int32), σ))))))))
set_option maxHeartbeats 4000000 in
set_option maxRecDepth 20000 in
theorem t_X6_year {g : Nat → Option Nat} {S : List SC} (hS : Wf g S) {σ : St} {Q : QT} (a1 : Int32) (a2 : Int32) (a3 : Int32) (h : ok (f_X6_year a1 a2 a3 σ) (fun r => Q (some (.int r.1)) S r.2)) : AW MX6_year E0 rmX6_year 0 0 Q 0 0 S σ 0 [(0, .ref 29), (1, .int a1), (2, .int a2), (3, .int a3)] [] := by
  unfold f_X6_year at h
  refine aw_run tTX6_year 3 (pc2 := 5) (L2 := [(0, .ref 29), (1, .int a1), (2, .int a2), (3, .int a3)]) (st2 := [.int 9999, .int 0, .int a1]) rfl ?_
  obtain ⟨r1, er1, h⟩ := ok_b h
  refine aw_cS tTX6_year rfl 8 rfl (M' := MX6_in) (av := [.int a1, .int 0, .int 9999]) (rest := []) rfl lkX6_66 hMX6_in rfl (s_X6_in hS er1) ⟨rfl, rfl, ⟨by decide, by decide⟩, by decide, by decide⟩ (Nat.le_of_ble_eq_true rfl) 46 (wf_len hS) rfl [.int r1] rfl ?_
  refine aw_if_eq tTX6_year rfl 30 11 rfl rfl (fun hc => ?_) (fun hc => ?_)
  · have h := ok_t hc h
    refine aw_run tTX6_year 1 (pc2 := 32) (L2 := [(0, .ref 29), (1, .int a1), (2, .int a2), (3, .int a3)]) (st2 := [.int (-2 : Int32)]) rfl ?_
    have h := ok_r h
    exact aw_ir tTX6_year rfl rfl rfl (Nat.le_refl _) (Nat.le_refl _) h
  · have h := ok_f hc h
    refine aw_run tTX6_year 3 (pc2 := 15) (L2 := [(0, .ref 29), (1, .int a1), (2, .int a2), (3, .int a3)]) (st2 := [.int 99, .int 1, .int a2]) rfl ?_
    obtain ⟨r2, er2, h⟩ := ok_b h
    refine aw_cS tTX6_year rfl 18 rfl (M' := MX6_in) (av := [.int a2, .int 1, .int 99]) (rest := []) rfl lkX6_66 hMX6_in rfl (s_X6_in hS er2) ⟨rfl, rfl, ⟨by decide, by decide⟩, by decide, by decide⟩ (Nat.le_of_ble_eq_true rfl) 46 (wf_len hS) rfl [.int r2] rfl ?_
    refine aw_if_eq tTX6_year rfl 30 21 rfl rfl (fun hc => ?_) (fun hc => ?_)
    · have h := ok_t hc h
      refine aw_run tTX6_year 1 (pc2 := 32) (L2 := [(0, .ref 29), (1, .int a1), (2, .int a2), (3, .int a3)]) (st2 := [.int (-2 : Int32)]) rfl ?_
      have h := ok_r h
      exact aw_ir tTX6_year rfl rfl rfl (Nat.le_refl _) (Nat.le_refl _) h
    · have h := ok_f hc h
      refine aw_run tTX6_year 3 (pc2 := 24) (L2 := [(0, .ref 29), (1, .int a1), (2, .int a2), (3, .int a3)]) (st2 := [.int 2, .int 0, .int a3]) rfl ?_
      obtain ⟨r3, er3, h⟩ := ok_b h
      refine aw_cS tTX6_year rfl 27 rfl (M' := MX6_in) (av := [.int a3, .int 0, .int 2]) (rest := []) rfl lkX6_66 hMX6_in rfl (s_X6_in hS er3) ⟨rfl, rfl, ⟨by decide, by decide⟩, by decide, by decide⟩ (Nat.le_of_ble_eq_true rfl) 46 (wf_len hS) rfl [.int r3] rfl ?_
      refine aw_if_ne tTX6_year rfl 33 30 rfl rfl (fun hc => ?_) (fun hc => ?_)
      · have h := ok_t hc h
        refine aw_run tTX6_year 1 (pc2 := 34) (L2 := [(0, .ref 29), (1, .int a1), (2, .int a2), (3, .int a3)]) (st2 := [.ref 29]) rfl ?_
        obtain ⟨r4, er4, h⟩ := ok_b h
        refine aw_cV tTX6_year rfl 37 rfl (M' := MX6_asNow) (av := []) (rest := []) rfl lkX6_137 hMX6_asNow rfl (w_29 hS) ⟨_, _, rfl⟩ (s_X6_asNow hS er4) ⟨rfl, rfl, ⟨by decide, by decide⟩, by decide, by decide⟩ (Nat.le_of_ble_eq_true rfl) 46 (wf_len hS) rfl [] rfl ?_
        refine aw_run tTX6_year 6 (pc2 := 46) (L2 := [(6, .int 0), (5, .int 0), (4, .int a1), (0, .ref 29), (1, .int a1), (2, .int a2), (3, .int a3)]) (st2 := []) rfl ?_
        refine ok_use (P := fun z9 : Int32 × St => AW MX6_year E0 rmX6_year 0 0 Q 0 0 S z9.2 178 [(0, .ref 29), (3, .int a3), (5, .int z9.1)] []) (ok_b h) (fun z9 h => ?_) (fun h => ?_)
        · refine aw_run tTX6_year 6 (pc2 := 187) (L2 := [(8, .int 0), (7, .int 0), (6, .int 0), (0, .ref 29), (3, .int a3), (5, .int z9.1)]) (st2 := []) rfl ?_
          refine ok_use (P := fun z19 : Int32 × Int32 => AW MX6_year E0 rmX6_year 0 0 Q 0 0 S z9.2 256 [(3, .int a3), (5, .int z9.1), (6, .int z19.1), (7, .int z19.2)] []) (ok_b h) (fun z19 h => ?_) (fun h => ?_)
          · refine aw_run tTX6_year 1 (pc2 := 257) (L2 := [(3, .int a3), (5, .int z9.1), (6, .int z19.1), (7, .int z19.2)]) (st2 := [.int a3]) rfl ?_
            refine aw_if_ne tTX6_year rfl 265 260 rfl rfl (fun hc => ?_) (fun hc => ?_)
            · have h := ok_t hc h
              refine aw_run tTX6_year 2 (pc2 := 267) (L2 := [(3, .int a3), (5, .int z9.1), (6, .int z19.1), (7, .int z19.2)]) (st2 := [.int 1, .int a3]) rfl ?_
              refine aw_icmp_ne tTX6_year rfl 275 270 rfl rfl (fun hc => ?_) (fun hc => ?_)
              · have h := ok_t hc h
                refine aw_run tTX6_year 1 (pc2 := 277) (L2 := [(3, .int a3), (5, .int z9.1), (6, .int z19.1), (7, .int z19.2)]) (st2 := [.int z9.1]) rfl ?_
                have h := ok_r h
                exact aw_ir tTX6_year rfl rfl rfl (Nat.le_refl _) (Nat.le_refl _) h
              · have h := ok_fn hc h
                refine aw_run tTX6_year 2 (pc2 := 277) (L2 := [(3, .int a3), (5, .int z9.1), (6, .int z19.1), (7, .int z19.2)]) (st2 := [.int z19.2]) rfl ?_
                have h := ok_r h
                exact aw_ir tTX6_year rfl rfl rfl (Nat.le_refl _) (Nat.le_refl _) h
            · have h := ok_fn hc h
              refine aw_run tTX6_year 2 (pc2 := 277) (L2 := [(3, .int a3), (5, .int z9.1), (6, .int z19.1), (7, .int z19.2)]) (st2 := [.int z19.1]) rfl ?_
              have h := ok_r h
              exact aw_ir tTX6_year rfl rfl rfl (Nat.le_refl _) (Nat.le_refl _) h
          · refine aw_sub [3, 4, 5, 2, 1, 0] rfl ?_
            refine loop_P (P := fun s : Int32 × Int32 × Int32 => AW MX6_year E0 rmX6_year 0 0 Q 0 0 S z9.2 187 [(0, .ref 29), (3, .int a3), (5, .int z9.1), (6, .int s.1), (7, .int s.2.1), (8, .int s.2.2)] []) (fun s h => ?_) _ _ h
            obtain ⟨y16, y17, y18⟩ := s
            replace h : ok (l_X6_year_187 z9 y16 y17 y18) _ := h
            unfold l_X6_year_187 at h
            show AW MX6_year E0 rmX6_year 0 0 Q 0 0 S z9.2 187 [(0, .ref 29), (3, .int a3), (5, .int z9.1), (6, .int y16), (7, .int y17), (8, .int y18)] []
            refine aw_run tTX6_year 2 (pc2 := 191) (L2 := [(0, .ref 29), (3, .int a3), (5, .int z9.1), (6, .int y16), (7, .int y17), (8, .int y18)]) (st2 := [.int 6, .int y18]) rfl ?_
            refine aw_icmp_ge tTX6_year rfl 256 194 rfl rfl (fun hc => ?_) (fun hc => ?_)
            · have h := ok_t hc h
              refine aw_sub [1, 2, 3, 4] rfl ?_
              have h := ok_r h
              exact h
            · have h := ok_f hc h
              refine aw_run tTX6_year 2 (pc2 := 197) (L2 := [(0, .ref 29), (3, .int a3), (5, .int z9.1), (6, .int y16), (7, .int y17), (8, .int y18)]) (st2 := [.ref 29, .int y16]) rfl ?_
              refine aw_getI tTX6_year rfl 200 rfl (w_29 hS) rfl flX6_63 ?_
              refine aw_run tTX6_year 1 (pc2 := 202) (L2 := [(0, .ref 29), (3, .int a3), (5, .int z9.1), (6, .int y16), (7, .int y17), (8, .int y18)]) (st2 := [.int y18, .int (z9.2 29 0), .int y16]) rfl ?_
              obtain ⟨r20, er20, h⟩ := ok_b h
              refine aw_cS tTX6_year rfl 205 rfl (M' := MX6_has) (av := [.int (z9.2 29 0), .int y18]) (rest := [.int y16]) rfl lkX6_70 hMX6_has rfl (s_X6_has hS er20) ⟨rfl, rfl, ⟨by decide, by decide⟩, by decide, by decide⟩ (Nat.le_of_ble_eq_true rfl) 46 (wf_len hS) rfl [.int r20, .int y16] rfl ?_
              refine ok_use (P := fun j21 : Int32 => AW MX6_year E0 rmX6_year 0 0 Q 0 0 S z9.2 219 [(0, .ref 29), (3, .int a3), (5, .int z9.1), (7, .int y17), (8, .int y18)] [.int j21, .int y16]) (ok_b h) (fun j21 h => ?_) (fun h => ?_)
              · refine aw_run tTX6_year 4 (pc2 := 225) (L2 := [(6, .int (y16 + j21)), (0, .ref 29), (3, .int a3), (5, .int z9.1), (7, .int y17), (8, .int y18)]) (st2 := [.ref 29, .int y17]) rfl ?_
                refine aw_getI tTX6_year rfl 228 rfl (w_29 hS) rfl flX6_63 ?_
                refine aw_run tTX6_year 1 (pc2 := 230) (L2 := [(6, .int (y16 + j21)), (0, .ref 29), (3, .int a3), (5, .int z9.1), (7, .int y17), (8, .int y18)]) (st2 := [.int y18, .int (z9.2 29 0), .int y17]) rfl ?_
                obtain ⟨r22, er22, h⟩ := ok_b h
                refine aw_cS tTX6_year rfl 233 rfl (M' := MX6_has) (av := [.int (z9.2 29 0), .int y18]) (rest := [.int y17]) rfl lkX6_70 hMX6_has rfl (s_X6_has hS er22) ⟨rfl, rfl, ⟨by decide, by decide⟩, by decide, by decide⟩ (Nat.le_of_ble_eq_true rfl) 46 (wf_len hS) rfl [.int r22, .int y17] rfl ?_
                refine ok_use (P := fun j23 : Int32 => AW MX6_year E0 rmX6_year 0 0 Q 0 0 S z9.2 247 [(0, .ref 29), (3, .int a3), (5, .int z9.1), (6, .int (y16 + j21)), (8, .int y18)] [.int j23, .int y17]) (ok_b h) (fun j23 h => ?_) (fun h => ?_)
                · refine aw_run tTX6_year 4 (pc2 := 187) (L2 := [(8, .int (y18 + 1)), (7, .int (y17 + j23)), (0, .ref 29), (3, .int a3), (5, .int z9.1), (6, .int (y16 + j21))]) (st2 := []) rfl ?_
                  refine aw_sub [2, 3, 4, 5, 1, 0] rfl ?_
                  have h := ok_r h
                  exact h
                · refine aw_if_eq tTX6_year rfl 246 236 rfl rfl (fun hc => ?_) (fun hc => ?_)
                  · have h := ok_t hc h
                    refine aw_run tTX6_year 1 (pc2 := 247) (L2 := [(6, .int (y16 + j21)), (0, .ref 29), (3, .int a3), (5, .int z9.1), (7, .int y17), (8, .int y18)]) (st2 := [.int 0, .int y17]) rfl ?_
                    refine aw_sub [1, 2, 3, 0, 5] rfl ?_
                    have h := ok_r h
                    exact h
                  · have h := ok_f hc h
                    refine aw_run tTX6_year 1 (pc2 := 237) (L2 := [(6, .int (y16 + j21)), (0, .ref 29), (3, .int a3), (5, .int z9.1), (7, .int y17), (8, .int y18)]) (st2 := [.ref 29, .int y17]) rfl ?_
                    refine aw_getR tTX6_year rfl 240 rfl (w_29 hS) rfl flX6_35 ?_
                    refine aw_run tTX6_year 1 (pc2 := 242) (L2 := [(6, .int (y16 + j21)), (0, .ref 29), (3, .int a3), (5, .int z9.1), (7, .int y17), (8, .int y18)]) (st2 := [.int y18, .ref 37, .int y17]) rfl ?_
                    obtain ⟨hi, h⟩ := ok_gi h
                    refine aw_iald tTX6_year rfl 243 rfl (w_37 hS) hi ?_
                    refine aw_run tTX6_year 1 (pc2 := 247) (L2 := [(6, .int (y16 + j21)), (0, .ref 29), (3, .int a3), (5, .int z9.1), (7, .int y17), (8, .int y18)]) (st2 := [.int (z9.2 37 y18.toNatClampNeg), .int y17]) rfl ?_
                    refine aw_sub [1, 2, 3, 0, 5] rfl ?_
                    have h := ok_r h
                    exact h
              · refine aw_if_eq tTX6_year rfl 218 208 rfl rfl (fun hc => ?_) (fun hc => ?_)
                · have h := ok_t hc h
                  refine aw_run tTX6_year 1 (pc2 := 219) (L2 := [(0, .ref 29), (3, .int a3), (5, .int z9.1), (6, .int y16), (7, .int y17), (8, .int y18)]) (st2 := [.int 0, .int y16]) rfl ?_
                  refine aw_sub [0, 1, 2, 4, 5] rfl ?_
                  have h := ok_r h
                  exact h
                · have h := ok_f hc h
                  refine aw_run tTX6_year 1 (pc2 := 209) (L2 := [(0, .ref 29), (3, .int a3), (5, .int z9.1), (6, .int y16), (7, .int y17), (8, .int y18)]) (st2 := [.ref 29, .int y16]) rfl ?_
                  refine aw_getR tTX6_year rfl 212 rfl (w_29 hS) rfl flX6_38 ?_
                  refine aw_run tTX6_year 1 (pc2 := 214) (L2 := [(0, .ref 29), (3, .int a3), (5, .int z9.1), (6, .int y16), (7, .int y17), (8, .int y18)]) (st2 := [.int y18, .ref 38, .int y16]) rfl ?_
                  obtain ⟨hi, h⟩ := ok_gi h
                  refine aw_iald tTX6_year rfl 215 rfl (w_38 hS) hi ?_
                  refine aw_run tTX6_year 1 (pc2 := 219) (L2 := [(0, .ref 29), (3, .int a3), (5, .int z9.1), (6, .int y16), (7, .int y17), (8, .int y18)]) (st2 := [.int (z9.2 38 y18.toNatClampNeg), .int y16]) rfl ?_
                  refine aw_sub [0, 1, 2, 4, 5] rfl ?_
                  have h := ok_r h
                  exact h
        · refine aw_sub [3, 5, 6, 2, 1, 0] rfl ?_
          refine loop_P (P := fun s : Int32 × Int32 × Int32 × St => AW MX6_year E0 rmX6_year 0 0 Q 0 0 S s.2.2.2 46 [(0, .ref 29), (2, .int a2), (3, .int a3), (4, .int s.1), (5, .int s.2.1), (6, .int s.2.2.1)] []) (fun s h => ?_) _ _ h
          obtain ⟨y5, y6, y7, σ8⟩ := s
          replace h : ok (l_X6_year_46 a2 y5 y6 y7 σ8) _ := h
          unfold l_X6_year_46 at h
          show AW MX6_year E0 rmX6_year 0 0 Q 0 0 S σ8 46 [(0, .ref 29), (2, .int a2), (3, .int a3), (4, .int y5), (5, .int y6), (6, .int y7)] []
          refine aw_run tTX6_year 2 (pc2 := 49) (L2 := [(0, .ref 29), (2, .int a2), (3, .int a3), (4, .int y5), (5, .int y6), (6, .int y7)]) (st2 := [.int a2, .int y7]) rfl ?_
          refine aw_icmp_ge tTX6_year rfl 178 52 rfl rfl (fun hc => ?_) (fun hc => ?_)
          · have h := ok_t hc h
            refine aw_sub [0, 2, 4] rfl ?_
            have h := ok_r h
            exact h
          · have h := ok_f hc h
            refine aw_run tTX6_year 6 (pc2 := 62) (L2 := [(0, .ref 29), (2, .int a2), (3, .int a3), (4, .int y5), (5, .int y6), (6, .int y7)]) (st2 := [.int 65537, .int (((75 : Int32) * y5) + 74)]) rfl ?_
            refine aw_irem tTX6_year rfl 63 rfl (by decide) ?_
            refine aw_nm (fun x10 ex10 => ?_)
            have h := ok_nm h x10 ex10
            refine aw_run tTX6_year 1 (pc2 := 65) (L2 := [(4, .int x10), (0, .ref 29), (2, .int a2), (3, .int a3), (5, .int y6), (6, .int y7)]) (st2 := []) rfl ?_
            refine aw_run tTX6_year 2 (pc2 := 69) (L2 := [(4, .int x10), (0, .ref 29), (2, .int a2), (3, .int a3), (5, .int y6), (6, .int y7)]) (st2 := [.int 8, .int x10]) rfl ?_
            refine aw_irem tTX6_year rfl 70 rfl (by decide) ?_
            refine aw_run tTX6_year 3 (pc2 := 76) (L2 := [(7, .int (jrem x10 8)), (4, .int x10), (0, .ref 29), (2, .int a2), (3, .int a3), (5, .int y6), (6, .int y7)]) (st2 := [.int 8, .int x10]) rfl ?_
            refine aw_idiv tTX6_year rfl 77 rfl (by decide) ?_
            refine aw_run tTX6_year 1 (pc2 := 79) (L2 := [(7, .int (jrem x10 8)), (4, .int x10), (0, .ref 29), (2, .int a2), (3, .int a3), (5, .int y6), (6, .int y7)]) (st2 := [.int 6, .int (x10 / 8)]) rfl ?_
            refine aw_irem tTX6_year rfl 80 rfl (by decide) ?_
            refine aw_run tTX6_year 2 (pc2 := 84) (L2 := [(8, .int (jrem (x10 / 8) 6)), (7, .int (jrem x10 8)), (4, .int x10), (0, .ref 29), (2, .int a2), (3, .int a3), (5, .int y6), (6, .int y7)]) (st2 := [.int (jrem x10 8)]) rfl ?_
            refine ok_use (P := fun j11 : Int32 × St => AW MX6_year E0 rmX6_year 0 0 Q 0 0 S j11.2 172 [(0, .ref 29), (2, .int a2), (3, .int a3), (4, .int x10), (5, .int j11.1), (6, .int y7)] []) (ok_b h) (fun j11 h => ?_) (fun h => ?_)
            · refine aw_run tTX6_year 2 (pc2 := 46) (L2 := [(6, .int (y7 + 1)), (0, .ref 29), (2, .int a2), (3, .int a3), (4, .int x10), (5, .int j11.1)]) (st2 := []) rfl ?_
              refine aw_sub [1, 2, 3, 4, 5, 0] rfl ?_
              have h := ok_r h
              exact h
            · refine aw_if_ne tTX6_year rfl 95 87 rfl rfl (fun hc => ?_) (fun hc => ?_)
              · have h := ok_t hc h
                refine aw_run tTX6_year 2 (pc2 := 98) (L2 := [(8, .int (jrem (x10 / 8) 6)), (7, .int (jrem x10 8)), (4, .int x10), (0, .ref 29), (2, .int a2), (3, .int a3), (5, .int y6), (6, .int y7)]) (st2 := [.int 1, .int (jrem x10 8)]) rfl ?_
                refine ok_use (P := fun j12 : Int32 => AW MX6_year E0 rmX6_year 0 0 Q 0 0 S σ8 139 [(0, .ref 29), (2, .int a2), (3, .int a3), (4, .int x10), (5, .int y6), (6, .int y7), (7, .int (jrem x10 8)), (8, .int (jrem (x10 / 8) 6))] [.int j12]) (ok_b h) (fun j12 h => ?_) (fun h => ?_)
                · refine aw_run tTX6_year 4 (pc2 := 146) (L2 := [(9, .int j12), (0, .ref 29), (2, .int a2), (3, .int a3), (4, .int x10), (5, .int y6), (6, .int y7), (7, .int (jrem x10 8)), (8, .int (jrem (x10 / 8) 6))]) (st2 := [.int j12, .int (jrem (x10 / 8) 6), .ref 29]) rfl ?_
                  obtain ⟨r13, er13, h⟩ := ok_b h
                  refine aw_cV tTX6_year rfl 149 rfl (M' := MX6_act) (av := [.int (jrem (x10 / 8) 6), .int j12]) (rest := []) rfl lkX6_149 hMX6_act rfl (w_29 hS) ⟨_, _, rfl⟩ (s_X6_act hS er13) ⟨rfl, rfl, ⟨by decide, by decide⟩, by decide, by decide⟩ (Nat.le_of_ble_eq_true rfl) 46 (wf_len hS) rfl [.int r13.1] rfl ?_
                  refine aw_run tTX6_year 3 (pc2 := 155) (L2 := [(10, .int r13.1), (9, .int j12), (0, .ref 29), (2, .int a2), (3, .int a3), (4, .int x10), (5, .int y6), (6, .int y7), (7, .int (jrem x10 8)), (8, .int (jrem (x10 / 8) 6))]) (st2 := [.int r13.1, .int y6]) rfl ?_
                  refine ok_use (P := fun j14 : Int32 => AW MX6_year E0 rmX6_year 0 0 Q 0 0 S r13.2 169 [(0, .ref 29), (2, .int a2), (3, .int a3), (4, .int x10), (6, .int y7)] [.int j14, .int y6]) (ok_b h) (fun j14 h => ?_) (fun h => ?_)
                  · refine aw_run tTX6_year 2 (pc2 := 172) (L2 := [(5, .int (y6 + j14)), (0, .ref 29), (2, .int a2), (3, .int a3), (4, .int x10), (6, .int y7)]) (st2 := []) rfl ?_
                    refine aw_sub [1, 2, 3, 4, 0, 5] rfl ?_
                    have h := ok_r h
                    exact h
                  · refine aw_if_ne tTX6_year rfl 168 158 rfl rfl (fun hc => ?_) (fun hc => ?_)
                    · have h := ok_t hc h
                      refine aw_run tTX6_year 1 (pc2 := 169) (L2 := [(10, .int r13.1), (9, .int j12), (0, .ref 29), (2, .int a2), (3, .int a3), (4, .int x10), (5, .int y6), (6, .int y7), (7, .int (jrem x10 8)), (8, .int (jrem (x10 / 8) 6))]) (st2 := [.int 0, .int y6]) rfl ?_
                      refine aw_sub [2, 3, 4, 5, 7] rfl ?_
                      have h := ok_r h
                      exact h
                    · have h := ok_fn hc h
                      refine aw_run tTX6_year 2 (pc2 := 161) (L2 := [(10, .int r13.1), (9, .int j12), (0, .ref 29), (2, .int a2), (3, .int a3), (4, .int x10), (5, .int y6), (6, .int y7), (7, .int (jrem x10 8)), (8, .int (jrem (x10 / 8) 6))]) (st2 := [.int 3, .int (jrem x10 8), .int y6]) rfl ?_
                      refine aw_icmp_le tTX6_year rfl 168 164 rfl rfl (fun hc => ?_) (fun hc => ?_)
                      · have h := ok_t hc h
                        refine aw_run tTX6_year 1 (pc2 := 169) (L2 := [(10, .int r13.1), (9, .int j12), (0, .ref 29), (2, .int a2), (3, .int a3), (4, .int x10), (5, .int y6), (6, .int y7), (7, .int (jrem x10 8)), (8, .int (jrem (x10 / 8) 6))]) (st2 := [.int 0, .int y6]) rfl ?_
                        refine aw_sub [2, 3, 4, 5, 7] rfl ?_
                        have h := ok_r h
                        exact h
                      · have h := ok_f hc h
                        refine aw_run tTX6_year 2 (pc2 := 169) (L2 := [(10, .int r13.1), (9, .int j12), (0, .ref 29), (2, .int a2), (3, .int a3), (4, .int x10), (5, .int y6), (6, .int y7), (7, .int (jrem x10 8)), (8, .int (jrem (x10 / 8) 6))]) (st2 := [.int 1, .int y6]) rfl ?_
                        refine aw_sub [2, 3, 4, 5, 7] rfl ?_
                        have h := ok_r h
                        exact h
                · refine aw_icmp_ne tTX6_year rfl 106 101 rfl rfl (fun hc => ?_) (fun hc => ?_)
                  · have h := ok_t hc h
                    refine aw_run tTX6_year 2 (pc2 := 109) (L2 := [(8, .int (jrem (x10 / 8) 6)), (7, .int (jrem x10 8)), (4, .int x10), (0, .ref 29), (2, .int a2), (3, .int a3), (5, .int y6), (6, .int y7)]) (st2 := [.int 2, .int (jrem x10 8)]) rfl ?_
                    refine aw_icmp_ne tTX6_year rfl 117 112 rfl rfl (fun hc => ?_) (fun hc => ?_)
                    · have h := ok_t hc h
                      refine aw_run tTX6_year 2 (pc2 := 120) (L2 := [(8, .int (jrem (x10 / 8) 6)), (7, .int (jrem x10 8)), (4, .int x10), (0, .ref 29), (2, .int a2), (3, .int a3), (5, .int y6), (6, .int y7)]) (st2 := [.int 3, .int (jrem x10 8)]) rfl ?_
                      refine aw_icmp_ne tTX6_year rfl 128 123 rfl rfl (fun hc => ?_) (fun hc => ?_)
                      · have h := ok_t hc h
                        refine aw_run tTX6_year 3 (pc2 := 134) (L2 := [(8, .int (jrem (x10 / 8) 6)), (7, .int (jrem x10 8)), (4, .int x10), (0, .ref 29), (2, .int a2), (3, .int a3), (5, .int y6), (6, .int y7)]) (st2 := [.int 64, .int x10, .int 65]) rfl ?_
                        refine aw_idiv tTX6_year rfl 135 rfl (by decide) ?_
                        refine aw_run tTX6_year 1 (pc2 := 137) (L2 := [(8, .int (jrem (x10 / 8) 6)), (7, .int (jrem x10 8)), (4, .int x10), (0, .ref 29), (2, .int a2), (3, .int a3), (5, .int y6), (6, .int y7)]) (st2 := [.int 6, .int (x10 / 64), .int 65]) rfl ?_
                        refine aw_irem tTX6_year rfl 138 rfl (by decide) ?_
                        refine aw_run tTX6_year 1 (pc2 := 139) (L2 := [(8, .int (jrem (x10 / 8) 6)), (7, .int (jrem x10 8)), (4, .int x10), (0, .ref 29), (2, .int a2), (3, .int a3), (5, .int y6), (6, .int y7)]) (st2 := [.int (65 + (jrem (x10 / 64) 6))]) rfl ?_
                        refine aw_sub [3, 4, 5, 2, 6, 7, 1, 0] rfl ?_
                        have h := ok_r h
                        exact h
                      · have h := ok_fn hc h
                        refine aw_run tTX6_year 2 (pc2 := 139) (L2 := [(8, .int (jrem (x10 / 8) 6)), (7, .int (jrem x10 8)), (4, .int x10), (0, .ref 29), (2, .int a2), (3, .int a3), (5, .int y6), (6, .int y7)]) (st2 := [.int 33]) rfl ?_
                        refine aw_sub [3, 4, 5, 2, 6, 7, 1, 0] rfl ?_
                        have h := ok_r h
                        exact h
                    · have h := ok_fn hc h
                      refine aw_run tTX6_year 2 (pc2 := 139) (L2 := [(8, .int (jrem (x10 / 8) 6)), (7, .int (jrem x10 8)), (4, .int x10), (0, .ref 29), (2, .int a2), (3, .int a3), (5, .int y6), (6, .int y7)]) (st2 := [.int 126]) rfl ?_
                      refine aw_sub [3, 4, 5, 2, 6, 7, 1, 0] rfl ?_
                      have h := ok_r h
                      exact h
                  · have h := ok_fn hc h
                    refine aw_run tTX6_year 2 (pc2 := 139) (L2 := [(8, .int (jrem (x10 / 8) 6)), (7, .int (jrem x10 8)), (4, .int x10), (0, .ref 29), (2, .int a2), (3, .int a3), (5, .int y6), (6, .int y7)]) (st2 := [.int 42]) rfl ?_
                    refine aw_sub [3, 4, 5, 2, 6, 7, 1, 0] rfl ?_
                    have h := ok_r h
                    exact h
              · have h := ok_fn hc h
                refine aw_run tTX6_year 1 (pc2 := 88) (L2 := [(8, .int (jrem (x10 / 8) 6)), (7, .int (jrem x10 8)), (4, .int x10), (0, .ref 29), (2, .int a2), (3, .int a3), (5, .int y6), (6, .int y7)]) (st2 := [.ref 29]) rfl ?_
                obtain ⟨r15, er15, h⟩ := ok_b h
                refine aw_cV tTX6_year rfl 91 rfl (M' := MX6_endNight) (av := []) (rest := []) rfl lkX6_143 hMX6_endNight rfl (w_29 hS) ⟨_, _, rfl⟩ (s_X6_endNight hS er15) ⟨rfl, rfl, ⟨by decide, by decide⟩, by decide, by decide⟩ (Nat.le_of_ble_eq_true rfl) 46 (wf_len hS) rfl [.int r15.1] rfl ?_
                refine aw_run tTX6_year 2 (pc2 := 172) (L2 := [(8, .int (jrem (x10 / 8) 6)), (7, .int (jrem x10 8)), (4, .int x10), (0, .ref 29), (2, .int a2), (3, .int a3), (5, .int y6), (6, .int y7)]) (st2 := []) rfl ?_
                refine aw_sub [3, 4, 5, 2, 6, 7] rfl ?_
                have h := ok_r h
                exact h
      · have h := ok_fn hc h
        refine aw_run tTX6_year 1 (pc2 := 32) (L2 := [(0, .ref 29), (1, .int a1), (2, .int a2), (3, .int a3)]) (st2 := [.int (-2 : Int32)]) rfl ?_
        have h := ok_r h
        exact aw_ir tTX6_year rfl rfl rfl (Nat.le_refl _) (Nat.le_refl _) h
theorem s_X6_year {g : Nat → Option Nat} {S : List SC} (hS : Wf g S) {σ : St} {a1 : Int32} {a2 : Int32} {a3 : Int32} {r : Int32 × St} (e : f_X6_year a1 a2 a3 σ = some r) : Fn MX6_year rmX6_year [.ref 29, .int a1, .int a2, .int a3] S σ (some (.int r.1)) r.2 := Sp.of (by decide) (Nat.le_of_ble_eq_true rfl) (t_X6_year hS a1 a2 a3 ⟨r, e, rfl, rfl, rfl⟩)
def l_X6_image_19 (a1 : Int32) (y2 : Int32) (σ3 : St) : Option ((Int32 × St) ⊕ (St)) := if 6 ≤ y2 then (some (.inr σ3)) else (gi y2 6 (gi (((70 : Int32) * a1) + y2) 140 (nm (up2 σ3 44 (((70 : Int32) * a1) + y2).toNatClampNeg (σ3 30 y2.toNatClampNeg)) (fun σ5 => gi y2 6 (gi ((((70 : Int32) * a1) + 6) + y2) 140 (nm (up2 σ5 44 ((((70 : Int32) * a1) + 6) + y2).toNatClampNeg (σ5 32 y2.toNatClampNeg)) (fun σ6 => gi y2 6 (gi ((((70 : Int32) * a1) + 12) + y2) 140 (nm (up2 σ6 44 ((((70 : Int32) * a1) + 12) + y2).toNatClampNeg (σ6 33 y2.toNatClampNeg)) (fun σ7 => gi y2 6 (gi ((((70 : Int32) * a1) + 18) + y2) 140 (nm (up2 σ7 44 ((((70 : Int32) * a1) + 18) + y2).toNatClampNeg (σ7 34 y2.toNatClampNeg)) (fun σ8 => gi y2 6 (gi ((((70 : Int32) * a1) + 24) + y2) 140 (nm (up2 σ8 44 ((((70 : Int32) * a1) + 24) + y2).toNatClampNeg (σ8 35 y2.toNatClampNeg)) (fun σ9 => some (.inl (y2 + 1, σ9))))))))))))))))))
def l_X6_image_115 (a1 : Int32) (y10 : Int32) (σ11 : St) : Option ((Int32 × St) ⊕ (St)) := if 16 ≤ y10 then (some (.inr σ11)) else (gi y10 16 (gi ((((70 : Int32) * a1) + 30) + y10) 140 (nm (up2 σ11 44 ((((70 : Int32) * a1) + 30) + y10).toNatClampNeg (σ11 31 y10.toNatClampNeg)) (fun σ13 => some (.inl (y10 + 1, σ13))))))
def f_X6_image (a1 : Int32) (σ : St) : Option (Int32 × St) := Option.bind (f_X6_in a1 0 1) (fun r1 => if ¬ r1 = 0 then (Option.bind (loop (fun s : Int32 × St => l_X6_image_19 a1 s.1 s.2) 400 (0, σ)) (fun (z4 : St) => Option.bind (loop (fun s : Int32 × St => l_X6_image_115 a1 s.1 s.2) 400 (0, z4)) (fun (z12 : St) => gi (((70 : Int32) * a1) + 50) 140 (nm (up2 z12 44 (((70 : Int32) * a1) + 50).toNatClampNeg (z12 29 0)) (fun σ14 => gi (((70 : Int32) * a1) + 51) 140 (nm (up2 σ14 44 (((70 : Int32) * a1) + 51).toNatClampNeg (σ14 29 2)) (fun σ15 => gi (((70 : Int32) * a1) + 52) 140 (nm (up2 σ15 44 (((70 : Int32) * a1) + 52).toNatClampNeg (σ15 29 3)) (fun σ16 => gi (((70 : Int32) * a1) + 53) 140 (nm (up2 σ16 44 (((70 : Int32) * a1) + 53).toNatClampNeg (σ16 29 4)) (fun σ17 => gi (((70 : Int32) * a1) + 54) 140 (nm (up2 σ17 44 (((70 : Int32) * a1) + 54).toNatClampNeg (σ17 29 11)) (fun σ18 => gi (((70 : Int32) * a1) + 55) 140 (nm (up2 σ18 44 (((70 : Int32) * a1) + 55).toNatClampNeg (σ18 29 5)) (fun σ19 => gi a1 2 (nm (up2 σ19 45 a1.toNatClampNeg (jz 1)) (fun σ20 => some ((1, σ20))))))))))))))))))) else (some (((-2 : Int32), σ))))
set_option maxHeartbeats 4000000 in
set_option maxRecDepth 20000 in
theorem t_X6_image {g : Nat → Option Nat} {S : List SC} (hS : Wf g S) {σ : St} {Q : QT} (a1 : Int32) (h : ok (f_X6_image a1 σ) (fun r => Q (some (.int r.1)) S r.2)) : AW MX6_image E0 rmX6_image 0 0 Q 0 0 S σ 0 [(0, .ref 29), (1, .int a1)] [] := by
  unfold f_X6_image at h
  refine aw_run tTX6_image 3 (pc2 := 3) (L2 := [(0, .ref 29), (1, .int a1)]) (st2 := [.int 1, .int 0, .int a1]) rfl ?_
  obtain ⟨r1, er1, h⟩ := ok_b h
  refine aw_cS tTX6_image rfl 6 rfl (M' := MX6_in) (av := [.int a1, .int 0, .int 1]) (rest := []) rfl lkX6_66 hMX6_in rfl (s_X6_in hS er1) ⟨rfl, rfl, ⟨by decide, by decide⟩, by decide, by decide⟩ (Nat.le_of_ble_eq_true rfl) 46 (wf_len hS) rfl [.int r1] rfl ?_
  refine aw_if_ne tTX6_image rfl 12 9 rfl rfl (fun hc => ?_) (fun hc => ?_)
  · have h := ok_t hc h
    refine aw_run tTX6_image 6 (pc2 := 19) (L2 := [(3, .int 0), (2, .int ((70 : Int32) * a1)), (0, .ref 29), (1, .int a1)]) (st2 := []) rfl ?_
    refine ok_use (P := fun z4 : St => AW MX6_image E0 rmX6_image 0 0 Q 0 0 S z4 113 [(0, .ref 29), (1, .int a1), (2, .int ((70 : Int32) * a1))] []) (ok_b h) (fun z4 h => ?_) (fun h => ?_)
    · refine aw_run tTX6_image 2 (pc2 := 115) (L2 := [(3, .int 0), (0, .ref 29), (1, .int a1), (2, .int ((70 : Int32) * a1))]) (st2 := []) rfl ?_
      refine ok_use (P := fun z12 : St => AW MX6_image E0 rmX6_image 0 0 Q 0 0 S z12 144 [(0, .ref 29), (1, .int a1), (2, .int ((70 : Int32) * a1))] []) (ok_b h) (fun z12 h => ?_) (fun h => ?_)
      · refine aw_run tTX6_image 1 (pc2 := 145) (L2 := [(0, .ref 29), (1, .int a1), (2, .int ((70 : Int32) * a1))]) (st2 := [.ref 29]) rfl ?_
        refine aw_getR tTX6_image rfl 148 rfl (w_29 hS) rfl flX6_57 ?_
        refine aw_run tTX6_image 4 (pc2 := 153) (L2 := [(0, .ref 29), (1, .int a1), (2, .int ((70 : Int32) * a1))]) (st2 := [.ref 29, .int (((70 : Int32) * a1) + 50), .ref 44]) rfl ?_
        refine aw_getI tTX6_image rfl 156 rfl (w_29 hS) rfl flX6_63 ?_
        obtain ⟨hi, h⟩ := ok_gi h
        refine aw_iast tTX6_image rfl 157 rfl (w_44 hS) hi ?_
        refine aw_nmS (fun σ14 eσ14 => ?_)
        have h := ok_nm h σ14 eσ14
        refine aw_run tTX6_image 1 (pc2 := 158) (L2 := [(0, .ref 29), (1, .int a1), (2, .int ((70 : Int32) * a1))]) (st2 := [.ref 29]) rfl ?_
        refine aw_getR tTX6_image rfl 161 rfl (w_29 hS) rfl flX6_57 ?_
        refine aw_run tTX6_image 4 (pc2 := 166) (L2 := [(0, .ref 29), (1, .int a1), (2, .int ((70 : Int32) * a1))]) (st2 := [.ref 29, .int (((70 : Int32) * a1) + 51), .ref 44]) rfl ?_
        refine aw_getI tTX6_image rfl 169 rfl (w_29 hS) rfl flX6_82 ?_
        obtain ⟨hi, h⟩ := ok_gi h
        refine aw_iast tTX6_image rfl 170 rfl (w_44 hS) hi ?_
        refine aw_nmS (fun σ15 eσ15 => ?_)
        have h := ok_nm h σ15 eσ15
        refine aw_run tTX6_image 1 (pc2 := 171) (L2 := [(0, .ref 29), (1, .int a1), (2, .int ((70 : Int32) * a1))]) (st2 := [.ref 29]) rfl ?_
        refine aw_getR tTX6_image rfl 174 rfl (w_29 hS) rfl flX6_57 ?_
        refine aw_run tTX6_image 4 (pc2 := 179) (L2 := [(0, .ref 29), (1, .int a1), (2, .int ((70 : Int32) * a1))]) (st2 := [.ref 29, .int (((70 : Int32) * a1) + 52), .ref 44]) rfl ?_
        refine aw_getI tTX6_image rfl 182 rfl (w_29 hS) rfl flX6_85 ?_
        obtain ⟨hi, h⟩ := ok_gi h
        refine aw_iast tTX6_image rfl 183 rfl (w_44 hS) hi ?_
        refine aw_nmS (fun σ16 eσ16 => ?_)
        have h := ok_nm h σ16 eσ16
        refine aw_run tTX6_image 1 (pc2 := 184) (L2 := [(0, .ref 29), (1, .int a1), (2, .int ((70 : Int32) * a1))]) (st2 := [.ref 29]) rfl ?_
        refine aw_getR tTX6_image rfl 187 rfl (w_29 hS) rfl flX6_57 ?_
        refine aw_run tTX6_image 4 (pc2 := 192) (L2 := [(0, .ref 29), (1, .int a1), (2, .int ((70 : Int32) * a1))]) (st2 := [.ref 29, .int (((70 : Int32) * a1) + 53), .ref 44]) rfl ?_
        refine aw_getI tTX6_image rfl 195 rfl (w_29 hS) rfl flX6_13 ?_
        obtain ⟨hi, h⟩ := ok_gi h
        refine aw_iast tTX6_image rfl 196 rfl (w_44 hS) hi ?_
        refine aw_nmS (fun σ17 eσ17 => ?_)
        have h := ok_nm h σ17 eσ17
        refine aw_run tTX6_image 1 (pc2 := 197) (L2 := [(0, .ref 29), (1, .int a1), (2, .int ((70 : Int32) * a1))]) (st2 := [.ref 29]) rfl ?_
        refine aw_getR tTX6_image rfl 200 rfl (w_29 hS) rfl flX6_57 ?_
        refine aw_run tTX6_image 4 (pc2 := 205) (L2 := [(0, .ref 29), (1, .int a1), (2, .int ((70 : Int32) * a1))]) (st2 := [.ref 29, .int (((70 : Int32) * a1) + 54), .ref 44]) rfl ?_
        refine aw_getI tTX6_image rfl 208 rfl (w_29 hS) rfl flX6_88 ?_
        obtain ⟨hi, h⟩ := ok_gi h
        refine aw_iast tTX6_image rfl 209 rfl (w_44 hS) hi ?_
        refine aw_nmS (fun σ18 eσ18 => ?_)
        have h := ok_nm h σ18 eσ18
        refine aw_run tTX6_image 1 (pc2 := 210) (L2 := [(0, .ref 29), (1, .int a1), (2, .int ((70 : Int32) * a1))]) (st2 := [.ref 29]) rfl ?_
        refine aw_getR tTX6_image rfl 213 rfl (w_29 hS) rfl flX6_57 ?_
        refine aw_run tTX6_image 4 (pc2 := 218) (L2 := [(0, .ref 29), (1, .int a1), (2, .int ((70 : Int32) * a1))]) (st2 := [.ref 29, .int (((70 : Int32) * a1) + 55), .ref 44]) rfl ?_
        refine aw_getI tTX6_image rfl 221 rfl (w_29 hS) rfl flX6_174 ?_
        obtain ⟨hi, h⟩ := ok_gi h
        refine aw_iast tTX6_image rfl 222 rfl (w_44 hS) hi ?_
        refine aw_nmS (fun σ19 eσ19 => ?_)
        have h := ok_nm h σ19 eσ19
        refine aw_run tTX6_image 1 (pc2 := 223) (L2 := [(0, .ref 29), (1, .int a1), (2, .int ((70 : Int32) * a1))]) (st2 := [.ref 29]) rfl ?_
        refine aw_getR tTX6_image rfl 226 rfl (w_29 hS) rfl flX6_60 ?_
        refine aw_run tTX6_image 2 (pc2 := 228) (L2 := [(0, .ref 29), (1, .int a1), (2, .int ((70 : Int32) * a1))]) (st2 := [.int 1, .int a1, .ref 45]) rfl ?_
        obtain ⟨hi, h⟩ := ok_gi h
        refine aw_zast tTX6_image rfl 229 rfl (w_45 hS) hi ?_
        refine aw_nmS (fun σ20 eσ20 => ?_)
        have h := ok_nm h σ20 eσ20
        refine aw_run tTX6_image 1 (pc2 := 230) (L2 := [(0, .ref 29), (1, .int a1), (2, .int ((70 : Int32) * a1))]) (st2 := [.int 1]) rfl ?_
        have h := ok_r h
        exact aw_ir tTX6_image rfl rfl rfl (Nat.le_refl _) (Nat.le_refl _) h
      · refine aw_sub [1, 2, 3, 0] rfl ?_
        refine loop_P (P := fun s : Int32 × St => AW MX6_image E0 rmX6_image 0 0 Q 0 0 S s.2 115 [(0, .ref 29), (1, .int a1), (2, .int ((70 : Int32) * a1)), (3, .int s.1)] []) (fun s h => ?_) _ _ h
        obtain ⟨y10, σ11⟩ := s
        replace h : ok (l_X6_image_115 a1 y10 σ11) _ := h
        unfold l_X6_image_115 at h
        show AW MX6_image E0 rmX6_image 0 0 Q 0 0 S σ11 115 [(0, .ref 29), (1, .int a1), (2, .int ((70 : Int32) * a1)), (3, .int y10)] []
        refine aw_run tTX6_image 2 (pc2 := 118) (L2 := [(0, .ref 29), (1, .int a1), (2, .int ((70 : Int32) * a1)), (3, .int y10)]) (st2 := [.int 16, .int y10]) rfl ?_
        refine aw_icmp_ge tTX6_image rfl 144 121 rfl rfl (fun hc => ?_) (fun hc => ?_)
        · have h := ok_t hc h
          refine aw_sub [0, 1, 2] rfl ?_
          have h := ok_r h
          exact h
        · have h := ok_f hc h
          refine aw_run tTX6_image 1 (pc2 := 122) (L2 := [(0, .ref 29), (1, .int a1), (2, .int ((70 : Int32) * a1)), (3, .int y10)]) (st2 := [.ref 29]) rfl ?_
          refine aw_getR tTX6_image rfl 125 rfl (w_29 hS) rfl flX6_57 ?_
          refine aw_run tTX6_image 6 (pc2 := 132) (L2 := [(0, .ref 29), (1, .int a1), (2, .int ((70 : Int32) * a1)), (3, .int y10)]) (st2 := [.ref 29, .int ((((70 : Int32) * a1) + 30) + y10), .ref 44]) rfl ?_
          refine aw_getR tTX6_image rfl 135 rfl (w_29 hS) rfl flX6_17 ?_
          refine aw_run tTX6_image 1 (pc2 := 136) (L2 := [(0, .ref 29), (1, .int a1), (2, .int ((70 : Int32) * a1)), (3, .int y10)]) (st2 := [.int y10, .ref 31, .int ((((70 : Int32) * a1) + 30) + y10), .ref 44]) rfl ?_
          obtain ⟨hi, h⟩ := ok_gi h
          refine aw_iald tTX6_image rfl 137 rfl (w_31 hS) hi ?_
          obtain ⟨hi, h⟩ := ok_gi h
          refine aw_iast tTX6_image rfl 138 rfl (w_44 hS) hi ?_
          refine aw_nmS (fun σ13 eσ13 => ?_)
          have h := ok_nm h σ13 eσ13
          refine aw_run tTX6_image 2 (pc2 := 115) (L2 := [(3, .int (y10 + 1)), (0, .ref 29), (1, .int a1), (2, .int ((70 : Int32) * a1))]) (st2 := []) rfl ?_
          refine aw_sub [1, 2, 3, 0] rfl ?_
          have h := ok_r h
          exact h
    · refine aw_sub [2, 3, 1, 0] rfl ?_
      refine loop_P (P := fun s : Int32 × St => AW MX6_image E0 rmX6_image 0 0 Q 0 0 S s.2 19 [(0, .ref 29), (1, .int a1), (2, .int ((70 : Int32) * a1)), (3, .int s.1)] []) (fun s h => ?_) _ _ h
      obtain ⟨y2, σ3⟩ := s
      replace h : ok (l_X6_image_19 a1 y2 σ3) _ := h
      unfold l_X6_image_19 at h
      show AW MX6_image E0 rmX6_image 0 0 Q 0 0 S σ3 19 [(0, .ref 29), (1, .int a1), (2, .int ((70 : Int32) * a1)), (3, .int y2)] []
      refine aw_run tTX6_image 2 (pc2 := 22) (L2 := [(0, .ref 29), (1, .int a1), (2, .int ((70 : Int32) * a1)), (3, .int y2)]) (st2 := [.int 6, .int y2]) rfl ?_
      refine aw_icmp_ge tTX6_image rfl 113 25 rfl rfl (fun hc => ?_) (fun hc => ?_)
      · have h := ok_t hc h
        refine aw_sub [0, 1, 2] rfl ?_
        have h := ok_r h
        exact h
      · have h := ok_f hc h
        refine aw_run tTX6_image 1 (pc2 := 26) (L2 := [(0, .ref 29), (1, .int a1), (2, .int ((70 : Int32) * a1)), (3, .int y2)]) (st2 := [.ref 29]) rfl ?_
        refine aw_getR tTX6_image rfl 29 rfl (w_29 hS) rfl flX6_57 ?_
        refine aw_run tTX6_image 4 (pc2 := 33) (L2 := [(0, .ref 29), (1, .int a1), (2, .int ((70 : Int32) * a1)), (3, .int y2)]) (st2 := [.ref 29, .int (((70 : Int32) * a1) + y2), .ref 44]) rfl ?_
        refine aw_getR tTX6_image rfl 36 rfl (w_29 hS) rfl flX6_7 ?_
        refine aw_run tTX6_image 1 (pc2 := 37) (L2 := [(0, .ref 29), (1, .int a1), (2, .int ((70 : Int32) * a1)), (3, .int y2)]) (st2 := [.int y2, .ref 30, .int (((70 : Int32) * a1) + y2), .ref 44]) rfl ?_
        obtain ⟨hi, h⟩ := ok_gi h
        refine aw_iald tTX6_image rfl 38 rfl (w_30 hS) hi ?_
        obtain ⟨hi, h⟩ := ok_gi h
        refine aw_iast tTX6_image rfl 39 rfl (w_44 hS) hi ?_
        refine aw_nmS (fun σ5 eσ5 => ?_)
        have h := ok_nm h σ5 eσ5
        refine aw_run tTX6_image 1 (pc2 := 40) (L2 := [(0, .ref 29), (1, .int a1), (2, .int ((70 : Int32) * a1)), (3, .int y2)]) (st2 := [.ref 29]) rfl ?_
        refine aw_getR tTX6_image rfl 43 rfl (w_29 hS) rfl flX6_57 ?_
        refine aw_run tTX6_image 6 (pc2 := 50) (L2 := [(0, .ref 29), (1, .int a1), (2, .int ((70 : Int32) * a1)), (3, .int y2)]) (st2 := [.ref 29, .int ((((70 : Int32) * a1) + 6) + y2), .ref 44]) rfl ?_
        refine aw_getR tTX6_image rfl 53 rfl (w_29 hS) rfl flX6_20 ?_
        refine aw_run tTX6_image 1 (pc2 := 54) (L2 := [(0, .ref 29), (1, .int a1), (2, .int ((70 : Int32) * a1)), (3, .int y2)]) (st2 := [.int y2, .ref 32, .int ((((70 : Int32) * a1) + 6) + y2), .ref 44]) rfl ?_
        obtain ⟨hi, h⟩ := ok_gi h
        refine aw_iald tTX6_image rfl 55 rfl (w_32 hS) hi ?_
        obtain ⟨hi, h⟩ := ok_gi h
        refine aw_iast tTX6_image rfl 56 rfl (w_44 hS) hi ?_
        refine aw_nmS (fun σ6 eσ6 => ?_)
        have h := ok_nm h σ6 eσ6
        refine aw_run tTX6_image 1 (pc2 := 57) (L2 := [(0, .ref 29), (1, .int a1), (2, .int ((70 : Int32) * a1)), (3, .int y2)]) (st2 := [.ref 29]) rfl ?_
        refine aw_getR tTX6_image rfl 60 rfl (w_29 hS) rfl flX6_57 ?_
        refine aw_run tTX6_image 6 (pc2 := 67) (L2 := [(0, .ref 29), (1, .int a1), (2, .int ((70 : Int32) * a1)), (3, .int y2)]) (st2 := [.ref 29, .int ((((70 : Int32) * a1) + 12) + y2), .ref 44]) rfl ?_
        refine aw_getR tTX6_image rfl 70 rfl (w_29 hS) rfl flX6_23 ?_
        refine aw_run tTX6_image 1 (pc2 := 71) (L2 := [(0, .ref 29), (1, .int a1), (2, .int ((70 : Int32) * a1)), (3, .int y2)]) (st2 := [.int y2, .ref 33, .int ((((70 : Int32) * a1) + 12) + y2), .ref 44]) rfl ?_
        obtain ⟨hi, h⟩ := ok_gi h
        refine aw_iald tTX6_image rfl 72 rfl (w_33 hS) hi ?_
        obtain ⟨hi, h⟩ := ok_gi h
        refine aw_iast tTX6_image rfl 73 rfl (w_44 hS) hi ?_
        refine aw_nmS (fun σ7 eσ7 => ?_)
        have h := ok_nm h σ7 eσ7
        refine aw_run tTX6_image 1 (pc2 := 74) (L2 := [(0, .ref 29), (1, .int a1), (2, .int ((70 : Int32) * a1)), (3, .int y2)]) (st2 := [.ref 29]) rfl ?_
        refine aw_getR tTX6_image rfl 77 rfl (w_29 hS) rfl flX6_57 ?_
        refine aw_run tTX6_image 6 (pc2 := 84) (L2 := [(0, .ref 29), (1, .int a1), (2, .int ((70 : Int32) * a1)), (3, .int y2)]) (st2 := [.ref 29, .int ((((70 : Int32) * a1) + 18) + y2), .ref 44]) rfl ?_
        refine aw_getR tTX6_image rfl 87 rfl (w_29 hS) rfl flX6_26 ?_
        refine aw_run tTX6_image 1 (pc2 := 88) (L2 := [(0, .ref 29), (1, .int a1), (2, .int ((70 : Int32) * a1)), (3, .int y2)]) (st2 := [.int y2, .ref 34, .int ((((70 : Int32) * a1) + 18) + y2), .ref 44]) rfl ?_
        obtain ⟨hi, h⟩ := ok_gi h
        refine aw_iald tTX6_image rfl 89 rfl (w_34 hS) hi ?_
        obtain ⟨hi, h⟩ := ok_gi h
        refine aw_iast tTX6_image rfl 90 rfl (w_44 hS) hi ?_
        refine aw_nmS (fun σ8 eσ8 => ?_)
        have h := ok_nm h σ8 eσ8
        refine aw_run tTX6_image 1 (pc2 := 91) (L2 := [(0, .ref 29), (1, .int a1), (2, .int ((70 : Int32) * a1)), (3, .int y2)]) (st2 := [.ref 29]) rfl ?_
        refine aw_getR tTX6_image rfl 94 rfl (w_29 hS) rfl flX6_57 ?_
        refine aw_run tTX6_image 6 (pc2 := 101) (L2 := [(0, .ref 29), (1, .int a1), (2, .int ((70 : Int32) * a1)), (3, .int y2)]) (st2 := [.ref 29, .int ((((70 : Int32) * a1) + 24) + y2), .ref 44]) rfl ?_
        refine aw_getR tTX6_image rfl 104 rfl (w_29 hS) rfl flX6_29 ?_
        refine aw_run tTX6_image 1 (pc2 := 105) (L2 := [(0, .ref 29), (1, .int a1), (2, .int ((70 : Int32) * a1)), (3, .int y2)]) (st2 := [.int y2, .ref 35, .int ((((70 : Int32) * a1) + 24) + y2), .ref 44]) rfl ?_
        obtain ⟨hi, h⟩ := ok_gi h
        refine aw_iald tTX6_image rfl 106 rfl (w_35 hS) hi ?_
        obtain ⟨hi, h⟩ := ok_gi h
        refine aw_iast tTX6_image rfl 107 rfl (w_44 hS) hi ?_
        refine aw_nmS (fun σ9 eσ9 => ?_)
        have h := ok_nm h σ9 eσ9
        refine aw_run tTX6_image 2 (pc2 := 19) (L2 := [(3, .int (y2 + 1)), (0, .ref 29), (1, .int a1), (2, .int ((70 : Int32) * a1))]) (st2 := []) rfl ?_
        refine aw_sub [1, 2, 3, 0] rfl ?_
        have h := ok_r h
        exact h
  · have h := ok_fn hc h
    refine aw_run tTX6_image 1 (pc2 := 11) (L2 := [(0, .ref 29), (1, .int a1)]) (st2 := [.int (-2 : Int32)]) rfl ?_
    have h := ok_r h
    exact aw_ir tTX6_image rfl rfl rfl (Nat.le_refl _) (Nat.le_refl _) h
theorem s_X6_image {g : Nat → Option Nat} {S : List SC} (hS : Wf g S) {σ : St} {a1 : Int32} {r : Int32 × St} (e : f_X6_image a1 σ = some r) : Fn MX6_image rmX6_image [.ref 29, .int a1] S σ (some (.int r.1)) r.2 := Sp.of (by decide) (Nat.le_of_ble_eq_true rfl) (t_X6_image hS a1 ⟨r, e, rfl, rfl, rfl⟩)
def l_X6_restore_31 (a1 : Int32) (y2 : Int32) (σ3 : St) : Option ((Int32 × St) ⊕ (St)) := if 6 ≤ y2 then (some (.inr σ3)) else (gi (((70 : Int32) * a1) + y2) 140 (gi y2 6 (nm (up2 σ3 30 y2.toNatClampNeg (σ3 44 (((70 : Int32) * a1) + y2).toNatClampNeg)) (fun σ5 => gi ((((70 : Int32) * a1) + 6) + y2) 140 (gi y2 6 (nm (up2 σ5 32 y2.toNatClampNeg (σ5 44 ((((70 : Int32) * a1) + 6) + y2).toNatClampNeg)) (fun σ6 => gi ((((70 : Int32) * a1) + 12) + y2) 140 (gi y2 6 (nm (up2 σ6 33 y2.toNatClampNeg (σ6 44 ((((70 : Int32) * a1) + 12) + y2).toNatClampNeg)) (fun σ7 => gi ((((70 : Int32) * a1) + 18) + y2) 140 (gi y2 6 (nm (up2 σ7 34 y2.toNatClampNeg (σ7 44 ((((70 : Int32) * a1) + 18) + y2).toNatClampNeg)) (fun σ8 => gi ((((70 : Int32) * a1) + 24) + y2) 140 (gi y2 6 (nm (up2 σ8 35 y2.toNatClampNeg (σ8 44 ((((70 : Int32) * a1) + 24) + y2).toNatClampNeg)) (fun σ9 => some (.inl (y2 + 1, σ9))))))))))))))))))
def l_X6_restore_127 (a1 : Int32) (y10 : Int32) (σ11 : St) : Option ((Int32 × St) ⊕ (St)) := if 16 ≤ y10 then (some (.inr σ11)) else (gi ((((70 : Int32) * a1) + 30) + y10) 140 (gi y10 16 (nm (up2 σ11 31 y10.toNatClampNeg (σ11 44 ((((70 : Int32) * a1) + 30) + y10).toNatClampNeg)) (fun σ13 => some (.inl (y10 + 1, σ13))))))
def f_X6_restore (a1 : Int32) (σ : St) : Option (Int32 × St) := Option.bind (f_X6_in a1 0 1) (fun r1 => if ¬ r1 = 0 then (gi a1 2 (if ¬ (σ 45 a1.toNatClampNeg) = 0 then (Option.bind (loop (fun s : Int32 × St => l_X6_restore_31 a1 s.1 s.2) 400 (0, σ)) (fun (z4 : St) => Option.bind (loop (fun s : Int32 × St => l_X6_restore_127 a1 s.1 s.2) 400 (0, z4)) (fun (z12 : St) => gi (((70 : Int32) * a1) + 50) 140 (nm (up2 z12 29 0 (z12 44 (((70 : Int32) * a1) + 50).toNatClampNeg)) (fun σ14 => gi (((70 : Int32) * a1) + 51) 140 (nm (up2 σ14 29 2 (σ14 44 (((70 : Int32) * a1) + 51).toNatClampNeg)) (fun σ15 => gi (((70 : Int32) * a1) + 52) 140 (nm (up2 σ15 29 3 (σ15 44 (((70 : Int32) * a1) + 52).toNatClampNeg)) (fun σ16 => gi (((70 : Int32) * a1) + 53) 140 (nm (up2 σ16 29 4 (σ16 44 (((70 : Int32) * a1) + 53).toNatClampNeg)) (fun σ17 => gi (((70 : Int32) * a1) + 54) 140 (nm (up2 σ17 29 11 (σ17 44 (((70 : Int32) * a1) + 54).toNatClampNeg)) (fun σ18 => gi (((70 : Int32) * a1) + 55) 140 (nm (up2 σ18 29 5 (σ18 44 (((70 : Int32) * a1) + 55).toNatClampNeg)) (fun σ19 => some ((1, σ19))))))))))))))))) else (some (((-3 : Int32), σ))))) else (some (((-2 : Int32), σ))))
set_option maxHeartbeats 4000000 in
set_option maxRecDepth 20000 in
theorem t_X6_restore {g : Nat → Option Nat} {S : List SC} (hS : Wf g S) {σ : St} {Q : QT} (a1 : Int32) (h : ok (f_X6_restore a1 σ) (fun r => Q (some (.int r.1)) S r.2)) : AW MX6_restore E0 rmX6_restore 0 0 Q 0 0 S σ 0 [(0, .ref 29), (1, .int a1)] [] := by
  unfold f_X6_restore at h
  refine aw_run tTX6_restore 3 (pc2 := 3) (L2 := [(0, .ref 29), (1, .int a1)]) (st2 := [.int 1, .int 0, .int a1]) rfl ?_
  obtain ⟨r1, er1, h⟩ := ok_b h
  refine aw_cS tTX6_restore rfl 6 rfl (M' := MX6_in) (av := [.int a1, .int 0, .int 1]) (rest := []) rfl lkX6_66 hMX6_in rfl (s_X6_in hS er1) ⟨rfl, rfl, ⟨by decide, by decide⟩, by decide, by decide⟩ (Nat.le_of_ble_eq_true rfl) 46 (wf_len hS) rfl [.int r1] rfl ?_
  refine aw_if_ne tTX6_restore rfl 12 9 rfl rfl (fun hc => ?_) (fun hc => ?_)
  · have h := ok_t hc h
    refine aw_run tTX6_restore 1 (pc2 := 13) (L2 := [(0, .ref 29), (1, .int a1)]) (st2 := [.ref 29]) rfl ?_
    refine aw_getR tTX6_restore rfl 16 rfl (w_29 hS) rfl flX6_60 ?_
    refine aw_run tTX6_restore 1 (pc2 := 17) (L2 := [(0, .ref 29), (1, .int a1)]) (st2 := [.int a1, .ref 45]) rfl ?_
    obtain ⟨hi, h⟩ := ok_gi h
    refine aw_zald tTX6_restore rfl 18 rfl (w_45 hS) hi ?_
    refine aw_if_ne tTX6_restore rfl 24 21 rfl rfl (fun hc => ?_) (fun hc => ?_)
    · have h := ok_t hc h
      refine aw_run tTX6_restore 6 (pc2 := 31) (L2 := [(3, .int 0), (2, .int ((70 : Int32) * a1)), (0, .ref 29), (1, .int a1)]) (st2 := []) rfl ?_
      refine ok_use (P := fun z4 : St => AW MX6_restore E0 rmX6_restore 0 0 Q 0 0 S z4 125 [(0, .ref 29), (2, .int ((70 : Int32) * a1))] []) (ok_b h) (fun z4 h => ?_) (fun h => ?_)
      · refine aw_run tTX6_restore 2 (pc2 := 127) (L2 := [(3, .int 0), (0, .ref 29), (2, .int ((70 : Int32) * a1))]) (st2 := []) rfl ?_
        refine ok_use (P := fun z12 : St => AW MX6_restore E0 rmX6_restore 0 0 Q 0 0 S z12 156 [(0, .ref 29), (2, .int ((70 : Int32) * a1))] []) (ok_b h) (fun z12 h => ?_) (fun h => ?_)
        · refine aw_run tTX6_restore 2 (pc2 := 158) (L2 := [(0, .ref 29), (2, .int ((70 : Int32) * a1))]) (st2 := [.ref 29, .ref 29]) rfl ?_
          refine aw_getR tTX6_restore rfl 161 rfl (w_29 hS) rfl flX6_57 ?_
          refine aw_run tTX6_restore 3 (pc2 := 165) (L2 := [(0, .ref 29), (2, .int ((70 : Int32) * a1))]) (st2 := [.int (((70 : Int32) * a1) + 50), .ref 44, .ref 29]) rfl ?_
          obtain ⟨hi, h⟩ := ok_gi h
          refine aw_iald tTX6_restore rfl 166 rfl (w_44 hS) hi ?_
          refine aw_putI tTX6_restore rfl 169 rfl (w_29 hS) rfl fpX6_63 ?_
          refine aw_nmS (fun σ14 eσ14 => ?_)
          have h := ok_nm h σ14 eσ14
          refine aw_run tTX6_restore 2 (pc2 := 171) (L2 := [(0, .ref 29), (2, .int ((70 : Int32) * a1))]) (st2 := [.ref 29, .ref 29]) rfl ?_
          refine aw_getR tTX6_restore rfl 174 rfl (w_29 hS) rfl flX6_57 ?_
          refine aw_run tTX6_restore 3 (pc2 := 178) (L2 := [(0, .ref 29), (2, .int ((70 : Int32) * a1))]) (st2 := [.int (((70 : Int32) * a1) + 51), .ref 44, .ref 29]) rfl ?_
          obtain ⟨hi, h⟩ := ok_gi h
          refine aw_iald tTX6_restore rfl 179 rfl (w_44 hS) hi ?_
          refine aw_putI tTX6_restore rfl 182 rfl (w_29 hS) rfl fpX6_82 ?_
          refine aw_nmS (fun σ15 eσ15 => ?_)
          have h := ok_nm h σ15 eσ15
          refine aw_run tTX6_restore 2 (pc2 := 184) (L2 := [(0, .ref 29), (2, .int ((70 : Int32) * a1))]) (st2 := [.ref 29, .ref 29]) rfl ?_
          refine aw_getR tTX6_restore rfl 187 rfl (w_29 hS) rfl flX6_57 ?_
          refine aw_run tTX6_restore 3 (pc2 := 191) (L2 := [(0, .ref 29), (2, .int ((70 : Int32) * a1))]) (st2 := [.int (((70 : Int32) * a1) + 52), .ref 44, .ref 29]) rfl ?_
          obtain ⟨hi, h⟩ := ok_gi h
          refine aw_iald tTX6_restore rfl 192 rfl (w_44 hS) hi ?_
          refine aw_putI tTX6_restore rfl 195 rfl (w_29 hS) rfl fpX6_85 ?_
          refine aw_nmS (fun σ16 eσ16 => ?_)
          have h := ok_nm h σ16 eσ16
          refine aw_run tTX6_restore 2 (pc2 := 197) (L2 := [(0, .ref 29), (2, .int ((70 : Int32) * a1))]) (st2 := [.ref 29, .ref 29]) rfl ?_
          refine aw_getR tTX6_restore rfl 200 rfl (w_29 hS) rfl flX6_57 ?_
          refine aw_run tTX6_restore 3 (pc2 := 204) (L2 := [(0, .ref 29), (2, .int ((70 : Int32) * a1))]) (st2 := [.int (((70 : Int32) * a1) + 53), .ref 44, .ref 29]) rfl ?_
          obtain ⟨hi, h⟩ := ok_gi h
          refine aw_iald tTX6_restore rfl 205 rfl (w_44 hS) hi ?_
          refine aw_putI tTX6_restore rfl 208 rfl (w_29 hS) rfl fpX6_13 ?_
          refine aw_nmS (fun σ17 eσ17 => ?_)
          have h := ok_nm h σ17 eσ17
          refine aw_run tTX6_restore 2 (pc2 := 210) (L2 := [(0, .ref 29), (2, .int ((70 : Int32) * a1))]) (st2 := [.ref 29, .ref 29]) rfl ?_
          refine aw_getR tTX6_restore rfl 213 rfl (w_29 hS) rfl flX6_57 ?_
          refine aw_run tTX6_restore 3 (pc2 := 217) (L2 := [(0, .ref 29), (2, .int ((70 : Int32) * a1))]) (st2 := [.int (((70 : Int32) * a1) + 54), .ref 44, .ref 29]) rfl ?_
          obtain ⟨hi, h⟩ := ok_gi h
          refine aw_iald tTX6_restore rfl 218 rfl (w_44 hS) hi ?_
          refine aw_putI tTX6_restore rfl 221 rfl (w_29 hS) rfl fpX6_88 ?_
          refine aw_nmS (fun σ18 eσ18 => ?_)
          have h := ok_nm h σ18 eσ18
          refine aw_run tTX6_restore 2 (pc2 := 223) (L2 := [(0, .ref 29), (2, .int ((70 : Int32) * a1))]) (st2 := [.ref 29, .ref 29]) rfl ?_
          refine aw_getR tTX6_restore rfl 226 rfl (w_29 hS) rfl flX6_57 ?_
          refine aw_run tTX6_restore 3 (pc2 := 230) (L2 := [(0, .ref 29), (2, .int ((70 : Int32) * a1))]) (st2 := [.int (((70 : Int32) * a1) + 55), .ref 44, .ref 29]) rfl ?_
          obtain ⟨hi, h⟩ := ok_gi h
          refine aw_iald tTX6_restore rfl 231 rfl (w_44 hS) hi ?_
          refine aw_putI tTX6_restore rfl 234 rfl (w_29 hS) rfl fpX6_174 ?_
          refine aw_nmS (fun σ19 eσ19 => ?_)
          have h := ok_nm h σ19 eσ19
          refine aw_run tTX6_restore 1 (pc2 := 235) (L2 := [(0, .ref 29), (2, .int ((70 : Int32) * a1))]) (st2 := [.int 1]) rfl ?_
          have h := ok_r h
          exact aw_ir tTX6_restore rfl rfl rfl (Nat.le_refl _) (Nat.le_refl _) h
        · refine aw_sub [1, 2, 0] rfl ?_
          refine loop_P (P := fun s : Int32 × St => AW MX6_restore E0 rmX6_restore 0 0 Q 0 0 S s.2 127 [(0, .ref 29), (2, .int ((70 : Int32) * a1)), (3, .int s.1)] []) (fun s h => ?_) _ _ h
          obtain ⟨y10, σ11⟩ := s
          replace h : ok (l_X6_restore_127 a1 y10 σ11) _ := h
          unfold l_X6_restore_127 at h
          show AW MX6_restore E0 rmX6_restore 0 0 Q 0 0 S σ11 127 [(0, .ref 29), (2, .int ((70 : Int32) * a1)), (3, .int y10)] []
          refine aw_run tTX6_restore 2 (pc2 := 130) (L2 := [(0, .ref 29), (2, .int ((70 : Int32) * a1)), (3, .int y10)]) (st2 := [.int 16, .int y10]) rfl ?_
          refine aw_icmp_ge tTX6_restore rfl 156 133 rfl rfl (fun hc => ?_) (fun hc => ?_)
          · have h := ok_t hc h
            refine aw_sub [0, 1] rfl ?_
            have h := ok_r h
            exact h
          · have h := ok_f hc h
            refine aw_run tTX6_restore 1 (pc2 := 134) (L2 := [(0, .ref 29), (2, .int ((70 : Int32) * a1)), (3, .int y10)]) (st2 := [.ref 29]) rfl ?_
            refine aw_getR tTX6_restore rfl 137 rfl (w_29 hS) rfl flX6_17 ?_
            refine aw_run tTX6_restore 2 (pc2 := 139) (L2 := [(0, .ref 29), (2, .int ((70 : Int32) * a1)), (3, .int y10)]) (st2 := [.ref 29, .int y10, .ref 31]) rfl ?_
            refine aw_getR tTX6_restore rfl 142 rfl (w_29 hS) rfl flX6_57 ?_
            refine aw_run tTX6_restore 5 (pc2 := 148) (L2 := [(0, .ref 29), (2, .int ((70 : Int32) * a1)), (3, .int y10)]) (st2 := [.int ((((70 : Int32) * a1) + 30) + y10), .ref 44, .int y10, .ref 31]) rfl ?_
            obtain ⟨hi, h⟩ := ok_gi h
            refine aw_iald tTX6_restore rfl 149 rfl (w_44 hS) hi ?_
            obtain ⟨hi, h⟩ := ok_gi h
            refine aw_iast tTX6_restore rfl 150 rfl (w_31 hS) hi ?_
            refine aw_nmS (fun σ13 eσ13 => ?_)
            have h := ok_nm h σ13 eσ13
            refine aw_run tTX6_restore 2 (pc2 := 127) (L2 := [(3, .int (y10 + 1)), (0, .ref 29), (2, .int ((70 : Int32) * a1))]) (st2 := []) rfl ?_
            refine aw_sub [1, 2, 0] rfl ?_
            have h := ok_r h
            exact h
      · refine aw_sub [2, 1, 0] rfl ?_
        refine loop_P (P := fun s : Int32 × St => AW MX6_restore E0 rmX6_restore 0 0 Q 0 0 S s.2 31 [(0, .ref 29), (2, .int ((70 : Int32) * a1)), (3, .int s.1)] []) (fun s h => ?_) _ _ h
        obtain ⟨y2, σ3⟩ := s
        replace h : ok (l_X6_restore_31 a1 y2 σ3) _ := h
        unfold l_X6_restore_31 at h
        show AW MX6_restore E0 rmX6_restore 0 0 Q 0 0 S σ3 31 [(0, .ref 29), (2, .int ((70 : Int32) * a1)), (3, .int y2)] []
        refine aw_run tTX6_restore 2 (pc2 := 34) (L2 := [(0, .ref 29), (2, .int ((70 : Int32) * a1)), (3, .int y2)]) (st2 := [.int 6, .int y2]) rfl ?_
        refine aw_icmp_ge tTX6_restore rfl 125 37 rfl rfl (fun hc => ?_) (fun hc => ?_)
        · have h := ok_t hc h
          refine aw_sub [0, 1] rfl ?_
          have h := ok_r h
          exact h
        · have h := ok_f hc h
          refine aw_run tTX6_restore 1 (pc2 := 38) (L2 := [(0, .ref 29), (2, .int ((70 : Int32) * a1)), (3, .int y2)]) (st2 := [.ref 29]) rfl ?_
          refine aw_getR tTX6_restore rfl 41 rfl (w_29 hS) rfl flX6_7 ?_
          refine aw_run tTX6_restore 2 (pc2 := 43) (L2 := [(0, .ref 29), (2, .int ((70 : Int32) * a1)), (3, .int y2)]) (st2 := [.ref 29, .int y2, .ref 30]) rfl ?_
          refine aw_getR tTX6_restore rfl 46 rfl (w_29 hS) rfl flX6_57 ?_
          refine aw_run tTX6_restore 3 (pc2 := 49) (L2 := [(0, .ref 29), (2, .int ((70 : Int32) * a1)), (3, .int y2)]) (st2 := [.int (((70 : Int32) * a1) + y2), .ref 44, .int y2, .ref 30]) rfl ?_
          obtain ⟨hi, h⟩ := ok_gi h
          refine aw_iald tTX6_restore rfl 50 rfl (w_44 hS) hi ?_
          obtain ⟨hi, h⟩ := ok_gi h
          refine aw_iast tTX6_restore rfl 51 rfl (w_30 hS) hi ?_
          refine aw_nmS (fun σ5 eσ5 => ?_)
          have h := ok_nm h σ5 eσ5
          refine aw_run tTX6_restore 1 (pc2 := 52) (L2 := [(0, .ref 29), (2, .int ((70 : Int32) * a1)), (3, .int y2)]) (st2 := [.ref 29]) rfl ?_
          refine aw_getR tTX6_restore rfl 55 rfl (w_29 hS) rfl flX6_20 ?_
          refine aw_run tTX6_restore 2 (pc2 := 57) (L2 := [(0, .ref 29), (2, .int ((70 : Int32) * a1)), (3, .int y2)]) (st2 := [.ref 29, .int y2, .ref 32]) rfl ?_
          refine aw_getR tTX6_restore rfl 60 rfl (w_29 hS) rfl flX6_57 ?_
          refine aw_run tTX6_restore 5 (pc2 := 66) (L2 := [(0, .ref 29), (2, .int ((70 : Int32) * a1)), (3, .int y2)]) (st2 := [.int ((((70 : Int32) * a1) + 6) + y2), .ref 44, .int y2, .ref 32]) rfl ?_
          obtain ⟨hi, h⟩ := ok_gi h
          refine aw_iald tTX6_restore rfl 67 rfl (w_44 hS) hi ?_
          obtain ⟨hi, h⟩ := ok_gi h
          refine aw_iast tTX6_restore rfl 68 rfl (w_32 hS) hi ?_
          refine aw_nmS (fun σ6 eσ6 => ?_)
          have h := ok_nm h σ6 eσ6
          refine aw_run tTX6_restore 1 (pc2 := 69) (L2 := [(0, .ref 29), (2, .int ((70 : Int32) * a1)), (3, .int y2)]) (st2 := [.ref 29]) rfl ?_
          refine aw_getR tTX6_restore rfl 72 rfl (w_29 hS) rfl flX6_23 ?_
          refine aw_run tTX6_restore 2 (pc2 := 74) (L2 := [(0, .ref 29), (2, .int ((70 : Int32) * a1)), (3, .int y2)]) (st2 := [.ref 29, .int y2, .ref 33]) rfl ?_
          refine aw_getR tTX6_restore rfl 77 rfl (w_29 hS) rfl flX6_57 ?_
          refine aw_run tTX6_restore 5 (pc2 := 83) (L2 := [(0, .ref 29), (2, .int ((70 : Int32) * a1)), (3, .int y2)]) (st2 := [.int ((((70 : Int32) * a1) + 12) + y2), .ref 44, .int y2, .ref 33]) rfl ?_
          obtain ⟨hi, h⟩ := ok_gi h
          refine aw_iald tTX6_restore rfl 84 rfl (w_44 hS) hi ?_
          obtain ⟨hi, h⟩ := ok_gi h
          refine aw_iast tTX6_restore rfl 85 rfl (w_33 hS) hi ?_
          refine aw_nmS (fun σ7 eσ7 => ?_)
          have h := ok_nm h σ7 eσ7
          refine aw_run tTX6_restore 1 (pc2 := 86) (L2 := [(0, .ref 29), (2, .int ((70 : Int32) * a1)), (3, .int y2)]) (st2 := [.ref 29]) rfl ?_
          refine aw_getR tTX6_restore rfl 89 rfl (w_29 hS) rfl flX6_26 ?_
          refine aw_run tTX6_restore 2 (pc2 := 91) (L2 := [(0, .ref 29), (2, .int ((70 : Int32) * a1)), (3, .int y2)]) (st2 := [.ref 29, .int y2, .ref 34]) rfl ?_
          refine aw_getR tTX6_restore rfl 94 rfl (w_29 hS) rfl flX6_57 ?_
          refine aw_run tTX6_restore 5 (pc2 := 100) (L2 := [(0, .ref 29), (2, .int ((70 : Int32) * a1)), (3, .int y2)]) (st2 := [.int ((((70 : Int32) * a1) + 18) + y2), .ref 44, .int y2, .ref 34]) rfl ?_
          obtain ⟨hi, h⟩ := ok_gi h
          refine aw_iald tTX6_restore rfl 101 rfl (w_44 hS) hi ?_
          obtain ⟨hi, h⟩ := ok_gi h
          refine aw_iast tTX6_restore rfl 102 rfl (w_34 hS) hi ?_
          refine aw_nmS (fun σ8 eσ8 => ?_)
          have h := ok_nm h σ8 eσ8
          refine aw_run tTX6_restore 1 (pc2 := 103) (L2 := [(0, .ref 29), (2, .int ((70 : Int32) * a1)), (3, .int y2)]) (st2 := [.ref 29]) rfl ?_
          refine aw_getR tTX6_restore rfl 106 rfl (w_29 hS) rfl flX6_29 ?_
          refine aw_run tTX6_restore 2 (pc2 := 108) (L2 := [(0, .ref 29), (2, .int ((70 : Int32) * a1)), (3, .int y2)]) (st2 := [.ref 29, .int y2, .ref 35]) rfl ?_
          refine aw_getR tTX6_restore rfl 111 rfl (w_29 hS) rfl flX6_57 ?_
          refine aw_run tTX6_restore 5 (pc2 := 117) (L2 := [(0, .ref 29), (2, .int ((70 : Int32) * a1)), (3, .int y2)]) (st2 := [.int ((((70 : Int32) * a1) + 24) + y2), .ref 44, .int y2, .ref 35]) rfl ?_
          obtain ⟨hi, h⟩ := ok_gi h
          refine aw_iald tTX6_restore rfl 118 rfl (w_44 hS) hi ?_
          obtain ⟨hi, h⟩ := ok_gi h
          refine aw_iast tTX6_restore rfl 119 rfl (w_35 hS) hi ?_
          refine aw_nmS (fun σ9 eσ9 => ?_)
          have h := ok_nm h σ9 eσ9
          refine aw_run tTX6_restore 2 (pc2 := 31) (L2 := [(3, .int (y2 + 1)), (0, .ref 29), (2, .int ((70 : Int32) * a1))]) (st2 := []) rfl ?_
          refine aw_sub [1, 2, 0] rfl ?_
          have h := ok_r h
          exact h
    · have h := ok_fn hc h
      refine aw_run tTX6_restore 1 (pc2 := 23) (L2 := [(0, .ref 29), (1, .int a1)]) (st2 := [.int (-3 : Int32)]) rfl ?_
      have h := ok_r h
      exact aw_ir tTX6_restore rfl rfl rfl (Nat.le_refl _) (Nat.le_refl _) h
  · have h := ok_fn hc h
    refine aw_run tTX6_restore 1 (pc2 := 11) (L2 := [(0, .ref 29), (1, .int a1)]) (st2 := [.int (-2 : Int32)]) rfl ?_
    have h := ok_r h
    exact aw_ir tTX6_restore rfl rfl rfl (Nat.le_refl _) (Nat.le_refl _) h
theorem s_X6_restore {g : Nat → Option Nat} {S : List SC} (hS : Wf g S) {σ : St} {a1 : Int32} {r : Int32 × St} (e : f_X6_restore a1 σ = some r) : Fn MX6_restore rmX6_restore [.ref 29, .int a1] S σ (some (.int r.1)) r.2 := Sp.of (by decide) (Nat.le_of_ble_eq_true rfl) (t_X6_restore hS a1 ⟨r, e, rfl, rfl, rfl⟩)
def f_X6_told (a1 : Int32) (σ : St) : Option (Int32) := if a1 < 10 then (if a1 = 0 then (some (σ 29 12)) else (if a1 = 1 then (some (σ 29 0)) else (if a1 = 2 then (some (σ 29 4)) else (if a1 = 3 then (some (σ 29 2)) else (if a1 = 4 then (some (σ 29 3)) else (if ¬ a1 = 5 then (some ((-2 : Int32))) else (some (σ 29 5)))))))) else (Option.bind (f_X6_isThere (a1 - 10) σ) (fun r1 => if r1 = 0 then (some ((-2 : Int32))) else (gi (a1 - 10) 6 (some (σ 30 (a1 - 10).toNatClampNeg)))))
set_option maxHeartbeats 4000000 in
set_option maxRecDepth 20000 in
theorem t_X6_told {g : Nat → Option Nat} {S : List SC} (hS : Wf g S) {σ : St} {Q : QT} (a1 : Int32) (h : ok (f_X6_told a1 σ) (fun r => Q (some (.int r)) S σ)) : AW MX6_told E0 rmX6_told 0 0 Q 0 0 S σ 0 [(0, .ref 29), (1, .int a1)] [] := by
  unfold f_X6_told at h
  refine aw_run tTX6_told 2 (pc2 := 3) (L2 := [(0, .ref 29), (1, .int a1)]) (st2 := [.int 10, .int a1]) rfl ?_
  refine aw_icmp_lt tTX6_told rfl 32 6 rfl rfl (fun hc => ?_) (fun hc => ?_)
  · have h := ok_t hc h
    refine aw_run tTX6_told 1 (pc2 := 33) (L2 := [(0, .ref 29), (1, .int a1)]) (st2 := [.int a1]) rfl ?_
    by_cases hc0 : a1 = 0
    · have h := ok_t hc0 h
      refine aw_tableK (off := 35) tTX6_told rfl 0 hc0 rfl 68 rfl ?_
      refine aw_run tTX6_told 1 (pc2 := 69) (L2 := [(0, .ref 29), (1, .int a1)]) (st2 := [.ref 29]) rfl ?_
      refine aw_getI tTX6_told rfl 72 rfl (w_29 hS) rfl flX6_91 ?_
      have h := ok_r h
      exact aw_ir tTX6_told rfl rfl rfl (Nat.le_refl _) (Nat.le_refl _) h
    · have h := ok_f hc0 h
      by_cases hc1 : a1 = 1
      · have h := ok_t hc1 h
        refine aw_tableK (off := 40) tTX6_told rfl 1 hc1 rfl 73 rfl ?_
        refine aw_run tTX6_told 1 (pc2 := 74) (L2 := [(0, .ref 29), (1, .int a1)]) (st2 := [.ref 29]) rfl ?_
        refine aw_getI tTX6_told rfl 77 rfl (w_29 hS) rfl flX6_63 ?_
        have h := ok_r h
        exact aw_ir tTX6_told rfl rfl rfl (Nat.le_refl _) (Nat.le_refl _) h
      · have h := ok_f hc1 h
        by_cases hc2 : a1 = 2
        · have h := ok_t hc2 h
          refine aw_tableK (off := 45) tTX6_told rfl 2 hc2 rfl 78 rfl ?_
          refine aw_run tTX6_told 1 (pc2 := 79) (L2 := [(0, .ref 29), (1, .int a1)]) (st2 := [.ref 29]) rfl ?_
          refine aw_getI tTX6_told rfl 82 rfl (w_29 hS) rfl flX6_13 ?_
          have h := ok_r h
          exact aw_ir tTX6_told rfl rfl rfl (Nat.le_refl _) (Nat.le_refl _) h
        · have h := ok_f hc2 h
          by_cases hc3 : a1 = 3
          · have h := ok_t hc3 h
            refine aw_tableK (off := 50) tTX6_told rfl 3 hc3 rfl 83 rfl ?_
            refine aw_run tTX6_told 1 (pc2 := 84) (L2 := [(0, .ref 29), (1, .int a1)]) (st2 := [.ref 29]) rfl ?_
            refine aw_getI tTX6_told rfl 87 rfl (w_29 hS) rfl flX6_82 ?_
            have h := ok_r h
            exact aw_ir tTX6_told rfl rfl rfl (Nat.le_refl _) (Nat.le_refl _) h
          · have h := ok_f hc3 h
            by_cases hc4 : a1 = 4
            · have h := ok_t hc4 h
              refine aw_tableK (off := 55) tTX6_told rfl 4 hc4 rfl 88 rfl ?_
              refine aw_run tTX6_told 1 (pc2 := 89) (L2 := [(0, .ref 29), (1, .int a1)]) (st2 := [.ref 29]) rfl ?_
              refine aw_getI tTX6_told rfl 92 rfl (w_29 hS) rfl flX6_85 ?_
              have h := ok_r h
              exact aw_ir tTX6_told rfl rfl rfl (Nat.le_refl _) (Nat.le_refl _) h
            · have h := ok_f hc4 h
              refine aw_tableN tTX6_told rfl [0, 1, 2, 3, 4] (by intro k hk; simp only [List.mem_cons, List.not_mem_nil, or_false] at hk; rcases hk with rfl | rfl | rfl | rfl | rfl <;> assumption) (by decide) 93 rfl ?_
              refine aw_run tTX6_told 2 (pc2 := 95) (L2 := [(0, .ref 29), (1, .int a1)]) (st2 := [.int 5, .int a1]) rfl ?_
              refine aw_icmp_ne tTX6_told rfl 105 98 rfl rfl (fun hc => ?_) (fun hc => ?_)
              · have h := ok_t hc h
                refine aw_run tTX6_told 1 (pc2 := 107) (L2 := [(0, .ref 29), (1, .int a1)]) (st2 := [.int (-2 : Int32)]) rfl ?_
                have h := ok_r h
                exact aw_ir tTX6_told rfl rfl rfl (Nat.le_refl _) (Nat.le_refl _) h
              · have h := ok_fn hc h
                refine aw_run tTX6_told 1 (pc2 := 99) (L2 := [(0, .ref 29), (1, .int a1)]) (st2 := [.ref 29]) rfl ?_
                refine aw_getI tTX6_told rfl 102 rfl (w_29 hS) rfl flX6_174 ?_
                refine aw_run tTX6_told 1 (pc2 := 107) (L2 := [(0, .ref 29), (1, .int a1)]) (st2 := [.int (σ 29 5)]) rfl ?_
                have h := ok_r h
                exact aw_ir tTX6_told rfl rfl rfl (Nat.le_refl _) (Nat.le_refl _) h
  · have h := ok_f hc h
    refine aw_run tTX6_told 4 (pc2 := 11) (L2 := [(0, .ref 29), (1, .int a1)]) (st2 := [.int (a1 - 10), .ref 29]) rfl ?_
    obtain ⟨r1, er1, h⟩ := ok_b h
    refine aw_cV tTX6_told rfl 14 rfl (M' := MX6_isThere) (av := [.int (a1 - 10)]) (rest := []) rfl lkX6_78 hMX6_isThere rfl (w_29 hS) ⟨_, _, rfl⟩ (s_X6_isThere hS er1) ⟨rfl, rfl, ⟨by decide, by decide⟩, by decide, by decide⟩ (Nat.le_of_ble_eq_true rfl) 46 (wf_len hS) rfl [.int r1] rfl ?_
    refine aw_if_eq tTX6_told rfl 29 17 rfl rfl (fun hc => ?_) (fun hc => ?_)
    · have h := ok_t hc h
      refine aw_run tTX6_told 1 (pc2 := 31) (L2 := [(0, .ref 29), (1, .int a1)]) (st2 := [.int (-2 : Int32)]) rfl ?_
      have h := ok_r h
      exact aw_ir tTX6_told rfl rfl rfl (Nat.le_refl _) (Nat.le_refl _) h
    · have h := ok_f hc h
      refine aw_run tTX6_told 1 (pc2 := 18) (L2 := [(0, .ref 29), (1, .int a1)]) (st2 := [.ref 29]) rfl ?_
      refine aw_getR tTX6_told rfl 21 rfl (w_29 hS) rfl flX6_7 ?_
      refine aw_run tTX6_told 3 (pc2 := 25) (L2 := [(0, .ref 29), (1, .int a1)]) (st2 := [.int (a1 - 10), .ref 30]) rfl ?_
      obtain ⟨hi, h⟩ := ok_gi h
      refine aw_iald tTX6_told rfl 26 rfl (w_30 hS) hi ?_
      refine aw_run tTX6_told 1 (pc2 := 31) (L2 := [(0, .ref 29), (1, .int a1)]) (st2 := [.int (σ 30 (a1 - 10).toNatClampNeg)]) rfl ?_
      have h := ok_r h
      exact aw_ir tTX6_told rfl rfl rfl (Nat.le_refl _) (Nat.le_refl _) h
theorem s_X6_told {g : Nat → Option Nat} {S : List SC} (hS : Wf g S) {σ : St} {a1 : Int32} {r : Int32} (e : f_X6_told a1 σ = some r) : Fn MX6_told rmX6_told [.ref 29, .int a1] S σ (some (.int r)) σ := Sp.of (by decide) (Nat.le_of_ble_eq_true rfl) (t_X6_told hS a1 ⟨r, e, rfl, rfl, rfl⟩)
