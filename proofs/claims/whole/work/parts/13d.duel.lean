/-! lifted by program (wip/gen/lift.py) -/
def kF : Int32 := (-1000000)
def l_X6_duel_108 (a1 : Int32) (a2 : Int32) (a3 : Int32) (y5 : Int32) (j10 : Int32) (y13 : Int32) (y14 : Int32) (σ15 : St) : Option ((Int32 × Int32 × St) ⊕ (Int32 × St)) := if y14 < 0 then (some (.inr (y13, σ15))) else (if ¬ (y5 &&& (a3 ^^^ (-1 : Int32))) = 0 then (some (.inr (y13, σ15))) else (Option.bind (f_X6_has y5 y14) (fun r17 => Option.bind (α := Int32 × St) (if r17 = 0 then (some (y13, σ15)) else (Option.bind (α := Int32) (if j10 = 0 then (some a2) else (some a1)) (fun (j19 : Int32) => Option.bind (f_X6_worth j19 y14 σ15) (fun r20 => gi (y5 &&& (((1 : Int32) <<< (y14 &&& 31)) ^^^ (-1 : Int32))) 64 (nm (r20 - (σ15 43 (y5 &&& (((1 : Int32) <<< (y14 &&& 31)) ^^^ (-1 : Int32))).toNatClampNeg)) (fun (x21 : Int32) => Option.bind (α := Int32) (if ¬ y5 = a3 then (some y13) else (gi y5 64 (if x21 < (σ15 43 y5.toNatClampNeg) then (some y13) else (some y14)))) (fun (j22 : Int32) => gi y5 64 (Option.bind (α := Int32) (if x21 ≤ (σ15 43 y5.toNatClampNeg) then (gi y5 64 (some (σ15 43 y5.toNatClampNeg))) else (some x21)) (fun (j23 : Int32) => gi y5 64 (nm (up2 σ15 43 y5.toNatClampNeg j23) (fun σ24 => some (j22, σ24)))))))))))) (fun (j18 : Int32 × St) => some (.inl (j18.1, y14 + (-1 : Int32), j18.2))))))
def l_X6_duel_58 (a1 : Int32) (a2 : Int32) (a3 : Int32) (y4 : Int32) (y5 : Int32) (σ6 : St) : Option ((Int32 × Int32 × St) ⊕ (Int32 × St)) := if 64 ≤ y5 then (some (.inr (y4, σ6))) else (Option.bind (f_X6_bits a3) (fun r8 => Option.bind (f_X6_bits y5) (fun r9 => Option.bind (α := Int32) (if ¬ (jrem (r8 - r9) 2) = 0 then (some 0) else (some 1)) (fun (j10 : Int32) => Option.bind (α := Int32) (if ¬ y5 = 0 then (some kF) else (some 0)) (fun (j11 : Int32) => gi y5 64 (nm (up2 σ6 43 y5.toNatClampNeg j11) (fun σ12 => Option.bind (loop (fun s : Int32 × Int32 × St => l_X6_duel_108 a1 a2 a3 y5 j10 s.1 s.2.1 s.2.2) 400 (y4, 5, σ12)) (fun (z16 : Int32 × St) => some (.inl (z16.1, y5 + 1, z16.2))))))))))
def f_X6_duel (a1 : Int32) (a2 : Int32) (a3 : Int32) (a4 : Int32) (σ : St) : Option (Int32 × St) := Option.bind (f_X6_isThere a1 σ) (fun r1 => if r1 = 0 then (some (((-1 : Int32), σ))) else (Option.bind (f_X6_isThere a2 σ) (fun r2 => if r2 = 0 then (some (((-1 : Int32), σ))) else (if a1 = a2 then (some (((-1 : Int32), σ))) else (if a3 < 0 then (some (((-1 : Int32), σ))) else (if (a3 &&& ((σ 29 0) ^^^ (-1 : Int32))) = 0 then (Option.bind (f_X6_in a4 0 1) (fun r3 => if ¬ r3 = 0 then (Option.bind (loop (fun s : Int32 × Int32 × St => l_X6_duel_58 a1 a2 a3 s.1 s.2.1 s.2.2) 400 ((-6 : Int32), 0, σ)) (fun (z7 : Int32 × St) => if ¬ a4 = 0 then (some ((z7.1, z7.2))) else (gi a3 64 (some (((z7.2 43 a3.toNatClampNeg) + 1000, z7.2)))))) else (some (((-2 : Int32), σ))))) else (some (((-1 : Int32), σ)))))))))
set_option maxHeartbeats 4000000 in
set_option maxRecDepth 20000 in
theorem u_X6_duel_108 {g : Nat → Option Nat} {S : List SC} (hS : Wf g S) {Q : QT} (a1 a2 a3 a4 y5 j10 : Int32) {K : (Int32 × Int32 × St) ⊕ (Int32 × St) → Prop} (hb : ∀ (y13 y14 : Int32) (σ15 : St), K (.inl (y13, y14, σ15)) → AW MX6_duel E0 rmX6_duel 0 0 Q 0 0 S σ15 108 [(0, .ref 29), (1, .int a1), (2, .int a2), (3, .int a3), (4, .int a4), (5, .int y13), (6, .int y5), (7, .int j10), (8, .int y14)] []) (he : ∀ (x : Int32 × St), K (.inr x) → AW MX6_duel E0 rmX6_duel 0 0 Q 0 0 S x.2 229 [(0, .ref 29), (1, .int a1), (2, .int a2), (3, .int a3), (4, .int a4), (5, .int x.1), (6, .int y5)] []) (y13 y14 : Int32) (σ15 : St) (h : ok (l_X6_duel_108 a1 a2 a3 y5 j10 y13 y14 σ15) K) : AW MX6_duel E0 rmX6_duel 0 0 Q 0 0 S σ15 108 [(0, .ref 29), (1, .int a1), (2, .int a2), (3, .int a3), (4, .int a4), (5, .int y13), (6, .int y5), (7, .int j10), (8, .int y14)] [] := by
  unfold l_X6_duel_108 at h
  refine aw_run tTX6_duel 1 (pc2 := 110) (L2 := [(0, .ref 29), (1, .int a1), (2, .int a2), (3, .int a3), (4, .int a4), (5, .int y13), (6, .int y5), (7, .int j10), (8, .int y14)]) (st2 := [.int y14]) rfl ?_
  refine aw_if_lt tTX6_duel rfl 229 113 rfl rfl (fun hc => ?_) (fun hc => ?_)
  · have h := ok_t hc h
    refine aw_sub [0, 1, 2, 3, 4, 5, 6] rfl ?_
    have h := ok_r h
    exact he _ h
  · have h := ok_f hc h
    refine aw_run tTX6_duel 5 (pc2 := 119) (L2 := [(0, .ref 29), (1, .int a1), (2, .int a2), (3, .int a3), (4, .int a4), (5, .int y13), (6, .int y5), (7, .int j10), (8, .int y14)]) (st2 := [.int (y5 &&& (a3 ^^^ (-1 : Int32)))]) rfl ?_
    refine aw_if_ne tTX6_duel rfl 229 122 rfl rfl (fun hc => ?_) (fun hc => ?_)
    · have h := ok_t hc h
      refine aw_sub [0, 1, 2, 3, 4, 5, 6] rfl ?_
      have h := ok_r h
      exact he _ h
    · have h := ok_fn hc h
      refine aw_run tTX6_duel 2 (pc2 := 126) (L2 := [(0, .ref 29), (1, .int a1), (2, .int a2), (3, .int a3), (4, .int a4), (5, .int y13), (6, .int y5), (7, .int j10), (8, .int y14)]) (st2 := [.int y14, .int y5]) rfl ?_
      obtain ⟨r17, er17, h⟩ := ok_b h
      refine aw_cS tTX6_duel rfl 129 rfl (M' := MX6_has) (av := [.int y5, .int y14]) (rest := []) rfl lkX6_70 hMX6_has rfl (s_X6_has hS er17) ⟨rfl, rfl, ⟨by decide, by decide⟩, by decide, by decide⟩ (Nat.le_of_ble_eq_true rfl) 46 (wf_len hS) rfl [.int r17] rfl ?_
      refine ok_use (P := fun j18 : Int32 × St => AW MX6_duel E0 rmX6_duel 0 0 Q 0 0 S j18.2 223 [(0, .ref 29), (1, .int a1), (2, .int a2), (3, .int a3), (4, .int a4), (5, .int j18.1), (6, .int y5), (7, .int j10), (8, .int y14)] []) (ok_b h) (fun j18 h => ?_) (fun h => ?_)
      · refine aw_run tTX6_duel 2 (pc2 := 108) (L2 := [(8, .int (y14 + (-1 : Int32))), (0, .ref 29), (1, .int a1), (2, .int a2), (3, .int a3), (4, .int a4), (5, .int j18.1), (6, .int y5), (7, .int j10)]) (st2 := []) rfl ?_
        refine aw_sub [1, 2, 3, 4, 5, 6, 7, 8, 0] rfl ?_
        have h := ok_r h
        exact hb _ _ _ h
      · refine aw_if_eq tTX6_duel rfl 223 132 rfl rfl (fun hc => ?_) (fun hc => ?_)
        · have h := ok_t hc h
          refine aw_sub [0, 1, 2, 3, 4, 5, 6, 7, 8] rfl ?_
          have h := ok_r h
          exact h
        · have h := ok_f hc h
          refine aw_run tTX6_duel 2 (pc2 := 135) (L2 := [(0, .ref 29), (1, .int a1), (2, .int a2), (3, .int a3), (4, .int a4), (5, .int y13), (6, .int y5), (7, .int j10), (8, .int y14)]) (st2 := [.int j10, .ref 29]) rfl ?_
          refine ok_use (P := fun j19 : Int32 => AW MX6_duel E0 rmX6_duel 0 0 Q 0 0 S σ15 143 [(0, .ref 29), (1, .int a1), (2, .int a2), (3, .int a3), (4, .int a4), (5, .int y13), (6, .int y5), (7, .int j10), (8, .int y14)] [.int j19, .ref 29]) (ok_b h) (fun j19 h => ?_) (fun h => ?_)
          · refine aw_run tTX6_duel 1 (pc2 := 145) (L2 := [(0, .ref 29), (1, .int a1), (2, .int a2), (3, .int a3), (4, .int a4), (5, .int y13), (6, .int y5), (7, .int j10), (8, .int y14)]) (st2 := [.int y14, .int j19, .ref 29]) rfl ?_
            obtain ⟨r20, er20, h⟩ := ok_b h
            refine aw_cV tTX6_duel rfl 148 rfl (M' := MX6_worth) (av := [.int j19, .int y14]) (rest := []) rfl lkX6_194 hMX6_worth rfl (w_29 hS) ⟨_, _, rfl⟩ (s_X6_worth hS er20) ⟨rfl, rfl, ⟨by decide, by decide⟩, by decide, by decide⟩ (Nat.le_of_ble_eq_true rfl) 46 (wf_len hS) rfl [.int r20] rfl ?_
            refine aw_run tTX6_duel 1 (pc2 := 149) (L2 := [(0, .ref 29), (1, .int a1), (2, .int a2), (3, .int a3), (4, .int a4), (5, .int y13), (6, .int y5), (7, .int j10), (8, .int y14)]) (st2 := [.ref 29, .int r20]) rfl ?_
            refine aw_getR tTX6_duel rfl 152 rfl (w_29 hS) rfl flX6_54 ?_
            refine aw_run tTX6_duel 7 (pc2 := 161) (L2 := [(0, .ref 29), (1, .int a1), (2, .int a2), (3, .int a3), (4, .int a4), (5, .int y13), (6, .int y5), (7, .int j10), (8, .int y14)]) (st2 := [.int (y5 &&& (((1 : Int32) <<< (y14 &&& 31)) ^^^ (-1 : Int32))), .ref 43, .int r20]) rfl ?_
            obtain ⟨hi, h⟩ := ok_gi h
            refine aw_iald tTX6_duel rfl 162 rfl (w_43 hS) hi ?_
            refine aw_run tTX6_duel 1 (pc2 := 163) (L2 := [(0, .ref 29), (1, .int a1), (2, .int a2), (3, .int a3), (4, .int a4), (5, .int y13), (6, .int y5), (7, .int j10), (8, .int y14)]) (st2 := [.int (r20 - (σ15 43 (y5 &&& (((1 : Int32) <<< (y14 &&& 31)) ^^^ (-1 : Int32))).toNatClampNeg))]) rfl ?_
            refine aw_nm (fun x21 ex21 => ?_)
            have h := ok_nm h x21 ex21
            refine aw_run tTX6_duel 1 (pc2 := 165) (L2 := [(9, .int x21), (0, .ref 29), (1, .int a1), (2, .int a2), (3, .int a3), (4, .int a4), (5, .int y13), (6, .int y5), (7, .int j10), (8, .int y14)]) (st2 := []) rfl ?_
            refine aw_run tTX6_duel 2 (pc2 := 168) (L2 := [(9, .int x21), (0, .ref 29), (1, .int a1), (2, .int a2), (3, .int a3), (4, .int a4), (5, .int y13), (6, .int y5), (7, .int j10), (8, .int y14)]) (st2 := [.int a3, .int y5]) rfl ?_
            refine ok_use (P := fun j22 : Int32 => AW MX6_duel E0 rmX6_duel 0 0 Q 0 0 S σ15 190 [(0, .ref 29), (1, .int a1), (2, .int a2), (3, .int a3), (4, .int a4), (6, .int y5), (7, .int j10), (8, .int y14), (9, .int x21)] [.int j22]) (ok_b h) (fun j22 h => ?_) (fun h => ?_)
            · refine aw_run tTX6_duel 2 (pc2 := 193) (L2 := [(5, .int j22), (0, .ref 29), (1, .int a1), (2, .int a2), (3, .int a3), (4, .int a4), (6, .int y5), (7, .int j10), (8, .int y14), (9, .int x21)]) (st2 := [.ref 29]) rfl ?_
              refine aw_getR tTX6_duel rfl 196 rfl (w_29 hS) rfl flX6_54 ?_
              refine aw_run tTX6_duel 3 (pc2 := 201) (L2 := [(5, .int j22), (0, .ref 29), (1, .int a1), (2, .int a2), (3, .int a3), (4, .int a4), (6, .int y5), (7, .int j10), (8, .int y14), (9, .int x21)]) (st2 := [.ref 29, .int x21, .int y5, .ref 43]) rfl ?_
              refine aw_getR tTX6_duel rfl 204 rfl (w_29 hS) rfl flX6_54 ?_
              refine aw_run tTX6_duel 1 (pc2 := 206) (L2 := [(5, .int j22), (0, .ref 29), (1, .int a1), (2, .int a2), (3, .int a3), (4, .int a4), (6, .int y5), (7, .int j10), (8, .int y14), (9, .int x21)]) (st2 := [.int y5, .ref 43, .int x21, .int y5, .ref 43]) rfl ?_
              obtain ⟨hi, h⟩ := ok_gi h
              refine aw_iald tTX6_duel rfl 207 rfl (w_43 hS) hi ?_
              refine ok_use (P := fun j23 : Int32 => AW MX6_duel E0 rmX6_duel 0 0 Q 0 0 S σ15 222 [(0, .ref 29), (1, .int a1), (2, .int a2), (3, .int a3), (4, .int a4), (5, .int j22), (6, .int y5), (7, .int j10), (8, .int y14)] [.int j23, .int y5, .ref 43]) (ok_b h) (fun j23 h => ?_) (fun h => ?_)
              · obtain ⟨hi, h⟩ := ok_gi h
                refine aw_iast tTX6_duel rfl 223 rfl (w_43 hS) hi ?_
                refine aw_nmS (fun σ24 eσ24 => ?_)
                have h := ok_nm h σ24 eσ24
                refine aw_sub [0, 1, 2, 3, 4, 5, 6, 7, 8] rfl ?_
                have h := ok_r h
                exact h
              · refine aw_icmp_le tTX6_duel rfl 215 210 rfl rfl (fun hc => ?_) (fun hc => ?_)
                · have h := ok_t hc h
                  refine aw_run tTX6_duel 1 (pc2 := 216) (L2 := [(5, .int j22), (0, .ref 29), (1, .int a1), (2, .int a2), (3, .int a3), (4, .int a4), (6, .int y5), (7, .int j10), (8, .int y14), (9, .int x21)]) (st2 := [.ref 29, .int y5, .ref 43]) rfl ?_
                  refine aw_getR tTX6_duel rfl 219 rfl (w_29 hS) rfl flX6_54 ?_
                  refine aw_run tTX6_duel 1 (pc2 := 221) (L2 := [(5, .int j22), (0, .ref 29), (1, .int a1), (2, .int a2), (3, .int a3), (4, .int a4), (6, .int y5), (7, .int j10), (8, .int y14), (9, .int x21)]) (st2 := [.int y5, .ref 43, .int y5, .ref 43]) rfl ?_
                  obtain ⟨hi, h⟩ := ok_gi h
                  refine aw_iald tTX6_duel rfl 222 rfl (w_43 hS) hi ?_
                  refine aw_sub [1, 2, 3, 4, 5, 0, 6, 7, 8] rfl ?_
                  have h := ok_r h
                  exact h
                · have h := ok_f hc h
                  refine aw_run tTX6_duel 2 (pc2 := 222) (L2 := [(5, .int j22), (0, .ref 29), (1, .int a1), (2, .int a2), (3, .int a3), (4, .int a4), (6, .int y5), (7, .int j10), (8, .int y14), (9, .int x21)]) (st2 := [.int x21, .int y5, .ref 43]) rfl ?_
                  refine aw_sub [1, 2, 3, 4, 5, 0, 6, 7, 8] rfl ?_
                  have h := ok_r h
                  exact h
            · refine aw_icmp_ne tTX6_duel rfl 188 171 rfl rfl (fun hc => ?_) (fun hc => ?_)
              · have h := ok_t hc h
                refine aw_run tTX6_duel 1 (pc2 := 190) (L2 := [(9, .int x21), (0, .ref 29), (1, .int a1), (2, .int a2), (3, .int a3), (4, .int a4), (5, .int y13), (6, .int y5), (7, .int j10), (8, .int y14)]) (st2 := [.int y13]) rfl ?_
                refine aw_sub [1, 2, 3, 4, 5, 7, 8, 9, 0] rfl ?_
                have h := ok_r h
                exact h
              · have h := ok_fn hc h
                refine aw_run tTX6_duel 2 (pc2 := 174) (L2 := [(9, .int x21), (0, .ref 29), (1, .int a1), (2, .int a2), (3, .int a3), (4, .int a4), (5, .int y13), (6, .int y5), (7, .int j10), (8, .int y14)]) (st2 := [.ref 29, .int x21]) rfl ?_
                refine aw_getR tTX6_duel rfl 177 rfl (w_29 hS) rfl flX6_54 ?_
                refine aw_run tTX6_duel 1 (pc2 := 179) (L2 := [(9, .int x21), (0, .ref 29), (1, .int a1), (2, .int a2), (3, .int a3), (4, .int a4), (5, .int y13), (6, .int y5), (7, .int j10), (8, .int y14)]) (st2 := [.int y5, .ref 43, .int x21]) rfl ?_
                obtain ⟨hi, h⟩ := ok_gi h
                refine aw_iald tTX6_duel rfl 180 rfl (w_43 hS) hi ?_
                refine aw_icmp_lt tTX6_duel rfl 188 183 rfl rfl (fun hc => ?_) (fun hc => ?_)
                · have h := ok_t hc h
                  refine aw_run tTX6_duel 1 (pc2 := 190) (L2 := [(9, .int x21), (0, .ref 29), (1, .int a1), (2, .int a2), (3, .int a3), (4, .int a4), (5, .int y13), (6, .int y5), (7, .int j10), (8, .int y14)]) (st2 := [.int y13]) rfl ?_
                  refine aw_sub [1, 2, 3, 4, 5, 7, 8, 9, 0] rfl ?_
                  have h := ok_r h
                  exact h
                · have h := ok_f hc h
                  refine aw_run tTX6_duel 2 (pc2 := 190) (L2 := [(9, .int x21), (0, .ref 29), (1, .int a1), (2, .int a2), (3, .int a3), (4, .int a4), (5, .int y13), (6, .int y5), (7, .int j10), (8, .int y14)]) (st2 := [.int y14]) rfl ?_
                  refine aw_sub [1, 2, 3, 4, 5, 7, 8, 9, 0] rfl ?_
                  have h := ok_r h
                  exact h
          · refine aw_if_eq tTX6_duel rfl 142 138 rfl rfl (fun hc => ?_) (fun hc => ?_)
            · have h := ok_t hc h
              refine aw_run tTX6_duel 1 (pc2 := 143) (L2 := [(0, .ref 29), (1, .int a1), (2, .int a2), (3, .int a3), (4, .int a4), (5, .int y13), (6, .int y5), (7, .int j10), (8, .int y14)]) (st2 := [.int a2, .ref 29]) rfl ?_
              refine aw_sub [0, 1, 2, 3, 4, 5, 6, 7, 8] rfl ?_
              have h := ok_r h
              exact h
            · have h := ok_f hc h
              refine aw_run tTX6_duel 2 (pc2 := 143) (L2 := [(0, .ref 29), (1, .int a1), (2, .int a2), (3, .int a3), (4, .int a4), (5, .int y13), (6, .int y5), (7, .int j10), (8, .int y14)]) (st2 := [.int a1, .ref 29]) rfl ?_
              refine aw_sub [0, 1, 2, 3, 4, 5, 6, 7, 8] rfl ?_
              have h := ok_r h
              exact h
set_option maxHeartbeats 4000000 in
set_option maxRecDepth 20000 in
theorem t_X6_duel {g : Nat → Option Nat} {S : List SC} (hS : Wf g S) {σ : St} {Q : QT} (a1 : Int32) (a2 : Int32) (a3 : Int32) (a4 : Int32) (h : ok (f_X6_duel a1 a2 a3 a4 σ) (fun r => Q (some (.int r.1)) S r.2)) : AW MX6_duel E0 rmX6_duel 0 0 Q 0 0 S σ 0 [(0, .ref 29), (1, .int a1), (2, .int a2), (3, .int a3), (4, .int a4)] [] := by
  unfold f_X6_duel at h
  refine aw_run tTX6_duel 2 (pc2 := 2) (L2 := [(0, .ref 29), (1, .int a1), (2, .int a2), (3, .int a3), (4, .int a4)]) (st2 := [.int a1, .ref 29]) rfl ?_
  obtain ⟨r1, er1, h⟩ := ok_b h
  refine aw_cV tTX6_duel rfl 5 rfl (M' := MX6_isThere) (av := [.int a1]) (rest := []) rfl lkX6_78 hMX6_isThere rfl (w_29 hS) ⟨_, _, rfl⟩ (s_X6_isThere hS er1) ⟨rfl, rfl, ⟨by decide, by decide⟩, by decide, by decide⟩ (Nat.le_of_ble_eq_true rfl) 46 (wf_len hS) rfl [.int r1] rfl ?_
  refine aw_if_eq tTX6_duel rfl 36 8 rfl rfl (fun hc => ?_) (fun hc => ?_)
  · have h := ok_t hc h
    refine aw_run tTX6_duel 1 (pc2 := 37) (L2 := [(0, .ref 29), (1, .int a1), (2, .int a2), (3, .int a3), (4, .int a4)]) (st2 := [.int (-1 : Int32)]) rfl ?_
    have h := ok_r h
    exact aw_ir tTX6_duel rfl rfl rfl (Nat.le_refl _) (Nat.le_refl _) h
  · have h := ok_f hc h
    refine aw_run tTX6_duel 2 (pc2 := 10) (L2 := [(0, .ref 29), (1, .int a1), (2, .int a2), (3, .int a3), (4, .int a4)]) (st2 := [.int a2, .ref 29]) rfl ?_
    obtain ⟨r2, er2, h⟩ := ok_b h
    refine aw_cV tTX6_duel rfl 13 rfl (M' := MX6_isThere) (av := [.int a2]) (rest := []) rfl lkX6_78 hMX6_isThere rfl (w_29 hS) ⟨_, _, rfl⟩ (s_X6_isThere hS er2) ⟨rfl, rfl, ⟨by decide, by decide⟩, by decide, by decide⟩ (Nat.le_of_ble_eq_true rfl) 46 (wf_len hS) rfl [.int r2] rfl ?_
    refine aw_if_eq tTX6_duel rfl 36 16 rfl rfl (fun hc => ?_) (fun hc => ?_)
    · have h := ok_t hc h
      refine aw_run tTX6_duel 1 (pc2 := 37) (L2 := [(0, .ref 29), (1, .int a1), (2, .int a2), (3, .int a3), (4, .int a4)]) (st2 := [.int (-1 : Int32)]) rfl ?_
      have h := ok_r h
      exact aw_ir tTX6_duel rfl rfl rfl (Nat.le_refl _) (Nat.le_refl _) h
    · have h := ok_f hc h
      refine aw_run tTX6_duel 2 (pc2 := 18) (L2 := [(0, .ref 29), (1, .int a1), (2, .int a2), (3, .int a3), (4, .int a4)]) (st2 := [.int a2, .int a1]) rfl ?_
      refine aw_icmp_eq tTX6_duel rfl 36 21 rfl rfl (fun hc => ?_) (fun hc => ?_)
      · have h := ok_t hc h
        refine aw_run tTX6_duel 1 (pc2 := 37) (L2 := [(0, .ref 29), (1, .int a1), (2, .int a2), (3, .int a3), (4, .int a4)]) (st2 := [.int (-1 : Int32)]) rfl ?_
        have h := ok_r h
        exact aw_ir tTX6_duel rfl rfl rfl (Nat.le_refl _) (Nat.le_refl _) h
      · have h := ok_f hc h
        refine aw_run tTX6_duel 1 (pc2 := 22) (L2 := [(0, .ref 29), (1, .int a1), (2, .int a2), (3, .int a3), (4, .int a4)]) (st2 := [.int a3]) rfl ?_
        refine aw_if_lt tTX6_duel rfl 36 25 rfl rfl (fun hc => ?_) (fun hc => ?_)
        · have h := ok_t hc h
          refine aw_run tTX6_duel 1 (pc2 := 37) (L2 := [(0, .ref 29), (1, .int a1), (2, .int a2), (3, .int a3), (4, .int a4)]) (st2 := [.int (-1 : Int32)]) rfl ?_
          have h := ok_r h
          exact aw_ir tTX6_duel rfl rfl rfl (Nat.le_refl _) (Nat.le_refl _) h
        · have h := ok_f hc h
          refine aw_run tTX6_duel 2 (pc2 := 27) (L2 := [(0, .ref 29), (1, .int a1), (2, .int a2), (3, .int a3), (4, .int a4)]) (st2 := [.ref 29, .int a3]) rfl ?_
          refine aw_getI tTX6_duel rfl 30 rfl (w_29 hS) rfl flX6_63 ?_
          refine aw_run tTX6_duel 3 (pc2 := 33) (L2 := [(0, .ref 29), (1, .int a1), (2, .int a2), (3, .int a3), (4, .int a4)]) (st2 := [.int (a3 &&& ((σ 29 0) ^^^ (-1 : Int32)))]) rfl ?_
          refine aw_if_eq tTX6_duel rfl 38 36 rfl rfl (fun hc => ?_) (fun hc => ?_)
          · have h := ok_t hc h
            refine aw_run tTX6_duel 3 (pc2 := 42) (L2 := [(0, .ref 29), (1, .int a1), (2, .int a2), (3, .int a3), (4, .int a4)]) (st2 := [.int 1, .int 0, .int a4]) rfl ?_
            obtain ⟨r3, er3, h⟩ := ok_b h
            refine aw_cS tTX6_duel rfl 45 rfl (M' := MX6_in) (av := [.int a4, .int 0, .int 1]) (rest := []) rfl lkX6_66 hMX6_in rfl (s_X6_in hS er3) ⟨rfl, rfl, ⟨by decide, by decide⟩, by decide, by decide⟩ (Nat.le_of_ble_eq_true rfl) 46 (wf_len hS) rfl [.int r3] rfl ?_
            refine aw_if_ne tTX6_duel rfl 51 48 rfl rfl (fun hc => ?_) (fun hc => ?_)
            · have h := ok_t hc h
              refine aw_run tTX6_duel 4 (pc2 := 58) (L2 := [(6, .int 0), (5, .int (-6 : Int32)), (0, .ref 29), (1, .int a1), (2, .int a2), (3, .int a3), (4, .int a4)]) (st2 := []) rfl ?_
              refine ok_use (P := fun z7 : Int32 × St => AW MX6_duel E0 rmX6_duel 0 0 Q 0 0 S z7.2 235 [(0, .ref 29), (3, .int a3), (4, .int a4), (5, .int z7.1)] []) (ok_b h) (fun z7 h => ?_) (fun h => ?_)
              · refine aw_run tTX6_duel 1 (pc2 := 237) (L2 := [(0, .ref 29), (3, .int a3), (4, .int a4), (5, .int z7.1)]) (st2 := [.int a4]) rfl ?_
                refine aw_if_ne tTX6_duel rfl 253 240 rfl rfl (fun hc => ?_) (fun hc => ?_)
                · have h := ok_t hc h
                  refine aw_run tTX6_duel 1 (pc2 := 255) (L2 := [(0, .ref 29), (3, .int a3), (4, .int a4), (5, .int z7.1)]) (st2 := [.int z7.1]) rfl ?_
                  have h := ok_r h
                  exact aw_ir tTX6_duel rfl rfl rfl (Nat.le_refl _) (Nat.le_refl _) h
                · have h := ok_fn hc h
                  refine aw_run tTX6_duel 1 (pc2 := 241) (L2 := [(0, .ref 29), (3, .int a3), (4, .int a4), (5, .int z7.1)]) (st2 := [.ref 29]) rfl ?_
                  refine aw_getR tTX6_duel rfl 244 rfl (w_29 hS) rfl flX6_54 ?_
                  refine aw_run tTX6_duel 1 (pc2 := 245) (L2 := [(0, .ref 29), (3, .int a3), (4, .int a4), (5, .int z7.1)]) (st2 := [.int a3, .ref 43]) rfl ?_
                  obtain ⟨hi, h⟩ := ok_gi h
                  refine aw_iald tTX6_duel rfl 246 rfl (w_43 hS) hi ?_
                  refine aw_run tTX6_duel 3 (pc2 := 255) (L2 := [(0, .ref 29), (3, .int a3), (4, .int a4), (5, .int z7.1)]) (st2 := [.int ((z7.2 43 a3.toNatClampNeg) + 1000)]) rfl ?_
                  have h := ok_r h
                  exact aw_ir tTX6_duel rfl rfl rfl (Nat.le_refl _) (Nat.le_refl _) h
              · refine aw_sub [2, 3, 4, 5, 6, 1, 0] rfl ?_
                refine loop_P (P := fun s : Int32 × Int32 × St => AW MX6_duel E0 rmX6_duel 0 0 Q 0 0 S s.2.2 58 [(0, .ref 29), (1, .int a1), (2, .int a2), (3, .int a3), (4, .int a4), (5, .int s.1), (6, .int s.2.1)] []) (fun s h => ?_) _ _ h
                obtain ⟨y4, y5, σ6⟩ := s
                replace h : ok (l_X6_duel_58 a1 a2 a3 y4 y5 σ6) _ := h
                unfold l_X6_duel_58 at h
                show AW MX6_duel E0 rmX6_duel 0 0 Q 0 0 S σ6 58 [(0, .ref 29), (1, .int a1), (2, .int a2), (3, .int a3), (4, .int a4), (5, .int y4), (6, .int y5)] []
                refine aw_run tTX6_duel 2 (pc2 := 62) (L2 := [(0, .ref 29), (1, .int a1), (2, .int a2), (3, .int a3), (4, .int a4), (5, .int y4), (6, .int y5)]) (st2 := [.int 64, .int y5]) rfl ?_
                refine aw_icmp_ge tTX6_duel rfl 235 65 rfl rfl (fun hc => ?_) (fun hc => ?_)
                · have h := ok_t hc h
                  refine aw_sub [0, 3, 4, 5] rfl ?_
                  have h := ok_r h
                  exact h
                · have h := ok_f hc h
                  refine aw_run tTX6_duel 1 (pc2 := 66) (L2 := [(0, .ref 29), (1, .int a1), (2, .int a2), (3, .int a3), (4, .int a4), (5, .int y4), (6, .int y5)]) (st2 := [.int a3]) rfl ?_
                  obtain ⟨r8, er8, h⟩ := ok_b h
                  refine aw_cS tTX6_duel rfl 69 rfl (M' := MX6_bits) (av := [.int a3]) (rest := []) rfl lkX6_74 hMX6_bits rfl (s_X6_bits hS er8) ⟨rfl, rfl, ⟨by decide, by decide⟩, by decide, by decide⟩ (Nat.le_of_ble_eq_true rfl) 46 (wf_len hS) rfl [.int r8] rfl ?_
                  refine aw_run tTX6_duel 1 (pc2 := 71) (L2 := [(0, .ref 29), (1, .int a1), (2, .int a2), (3, .int a3), (4, .int a4), (5, .int y4), (6, .int y5)]) (st2 := [.int y5, .int r8]) rfl ?_
                  obtain ⟨r9, er9, h⟩ := ok_b h
                  refine aw_cS tTX6_duel rfl 74 rfl (M' := MX6_bits) (av := [.int y5]) (rest := [.int r8]) rfl lkX6_74 hMX6_bits rfl (s_X6_bits hS er9) ⟨rfl, rfl, ⟨by decide, by decide⟩, by decide, by decide⟩ (Nat.le_of_ble_eq_true rfl) 46 (wf_len hS) rfl [.int r9, .int r8] rfl ?_
                  refine aw_run tTX6_duel 2 (pc2 := 76) (L2 := [(0, .ref 29), (1, .int a1), (2, .int a2), (3, .int a3), (4, .int a4), (5, .int y4), (6, .int y5)]) (st2 := [.int 2, .int (r8 - r9)]) rfl ?_
                  refine aw_irem tTX6_duel rfl 77 rfl (by decide) ?_
                  refine ok_use (P := fun j10 : Int32 => AW MX6_duel E0 rmX6_duel 0 0 Q 0 0 S σ6 85 [(0, .ref 29), (1, .int a1), (2, .int a2), (3, .int a3), (4, .int a4), (5, .int y4), (6, .int y5)] [.int j10]) (ok_b h) (fun j10 h => ?_) (fun h => ?_)
                  · refine aw_run tTX6_duel 2 (pc2 := 88) (L2 := [(7, .int j10), (0, .ref 29), (1, .int a1), (2, .int a2), (3, .int a3), (4, .int a4), (5, .int y4), (6, .int y5)]) (st2 := [.ref 29]) rfl ?_
                    refine aw_getR tTX6_duel rfl 91 rfl (w_29 hS) rfl flX6_54 ?_
                    refine aw_run tTX6_duel 2 (pc2 := 95) (L2 := [(7, .int j10), (0, .ref 29), (1, .int a1), (2, .int a2), (3, .int a3), (4, .int a4), (5, .int y4), (6, .int y5)]) (st2 := [.int y5, .int y5, .ref 43]) rfl ?_
                    refine ok_use (P := fun j11 : Int32 => AW MX6_duel E0 rmX6_duel 0 0 Q 0 0 S σ6 104 [(0, .ref 29), (1, .int a1), (2, .int a2), (3, .int a3), (4, .int a4), (5, .int y4), (6, .int y5), (7, .int j10)] [.int j11, .int y5, .ref 43]) (ok_b h) (fun j11 h => ?_) (fun h => ?_)
                    · obtain ⟨hi, h⟩ := ok_gi h
                      refine aw_iast tTX6_duel rfl 105 rfl (w_43 hS) hi ?_
                      refine aw_nmS (fun σ12 eσ12 => ?_)
                      have h := ok_nm h σ12 eσ12
                      refine aw_run tTX6_duel 2 (pc2 := 108) (L2 := [(8, .int 5), (0, .ref 29), (1, .int a1), (2, .int a2), (3, .int a3), (4, .int a4), (5, .int y4), (6, .int y5), (7, .int j10)]) (st2 := []) rfl ?_
                      refine ok_use (P := fun z16 : Int32 × St => AW MX6_duel E0 rmX6_duel 0 0 Q 0 0 S z16.2 229 [(0, .ref 29), (1, .int a1), (2, .int a2), (3, .int a3), (4, .int a4), (5, .int z16.1), (6, .int y5)] []) (ok_b h) (fun z16 h => ?_) (fun h => ?_)
                      · refine aw_run tTX6_duel 2 (pc2 := 58) (L2 := [(6, .int (y5 + 1)), (0, .ref 29), (1, .int a1), (2, .int a2), (3, .int a3), (4, .int a4), (5, .int z16.1)]) (st2 := []) rfl ?_
                        refine aw_sub [1, 2, 3, 4, 5, 6, 0] rfl ?_
                        have h := ok_r h
                        exact h
                      · refine aw_sub [1, 2, 3, 4, 5, 6, 7, 8, 0] rfl ?_
                        refine loop_P (P := fun s : Int32 × Int32 × St => AW MX6_duel E0 rmX6_duel 0 0 Q 0 0 S s.2.2 108 [(0, .ref 29), (1, .int a1), (2, .int a2), (3, .int a3), (4, .int a4), (5, .int s.1), (6, .int y5), (7, .int j10), (8, .int s.2.1)] []) (fun s h => ?_) _ _ h
                        obtain ⟨y13, y14, σ15⟩ := s
                        exact u_X6_duel_108 hS a1 a2 a3 a4 y5 j10 (fun _ _ _ h => h) (fun _ h => h) y13 y14 σ15 h
                    · refine aw_if_ne tTX6_duel rfl 102 98 rfl rfl (fun hc => ?_) (fun hc => ?_)
                      · have h := ok_t hc h
                        refine aw_run tTX6_duel 1 (pc2 := 104) (L2 := [(7, .int j10), (0, .ref 29), (1, .int a1), (2, .int a2), (3, .int a3), (4, .int a4), (5, .int y4), (6, .int y5)]) (st2 := [.int kF, .int y5, .ref 43]) rfl ?_
                        refine aw_sub [1, 2, 3, 4, 5, 6, 7, 0] rfl ?_
                        have h := ok_r h
                        exact h
                      · have h := ok_fn hc h
                        refine aw_run tTX6_duel 2 (pc2 := 104) (L2 := [(7, .int j10), (0, .ref 29), (1, .int a1), (2, .int a2), (3, .int a3), (4, .int a4), (5, .int y4), (6, .int y5)]) (st2 := [.int 0, .int y5, .ref 43]) rfl ?_
                        refine aw_sub [1, 2, 3, 4, 5, 6, 7, 0] rfl ?_
                        have h := ok_r h
                        exact h
                  · refine aw_if_ne tTX6_duel rfl 84 80 rfl rfl (fun hc => ?_) (fun hc => ?_)
                    · have h := ok_t hc h
                      refine aw_run tTX6_duel 1 (pc2 := 85) (L2 := [(0, .ref 29), (1, .int a1), (2, .int a2), (3, .int a3), (4, .int a4), (5, .int y4), (6, .int y5)]) (st2 := [.int 0]) rfl ?_
                      refine aw_sub [0, 1, 2, 3, 4, 5, 6] rfl ?_
                      have h := ok_r h
                      exact h
                    · have h := ok_fn hc h
                      refine aw_run tTX6_duel 2 (pc2 := 85) (L2 := [(0, .ref 29), (1, .int a1), (2, .int a2), (3, .int a3), (4, .int a4), (5, .int y4), (6, .int y5)]) (st2 := [.int 1]) rfl ?_
                      refine aw_sub [0, 1, 2, 3, 4, 5, 6] rfl ?_
                      have h := ok_r h
                      exact h
            · have h := ok_fn hc h
              refine aw_run tTX6_duel 1 (pc2 := 50) (L2 := [(0, .ref 29), (1, .int a1), (2, .int a2), (3, .int a3), (4, .int a4)]) (st2 := [.int (-2 : Int32)]) rfl ?_
              have h := ok_r h
              exact aw_ir tTX6_duel rfl rfl rfl (Nat.le_refl _) (Nat.le_refl _) h
          · have h := ok_f hc h
            refine aw_run tTX6_duel 1 (pc2 := 37) (L2 := [(0, .ref 29), (1, .int a1), (2, .int a2), (3, .int a3), (4, .int a4)]) (st2 := [.int (-1 : Int32)]) rfl ?_
            have h := ok_r h
            exact aw_ir tTX6_duel rfl rfl rfl (Nat.le_refl _) (Nat.le_refl _) h
theorem s_X6_duel {g : Nat → Option Nat} {S : List SC} (hS : Wf g S) {σ : St} {a1 : Int32} {a2 : Int32} {a3 : Int32} {a4 : Int32} {r : Int32 × St} (e : f_X6_duel a1 a2 a3 a4 σ = some r) : Fn MX6_duel rmX6_duel [.ref 29, .int a1, .int a2, .int a3, .int a4] S σ (some (.int r.1)) r.2 := Sp.of (by decide) (Nat.le_of_ble_eq_true rfl) (t_X6_duel hS a1 a2 a3 a4 ⟨r, e, rfl, rfl, rfl⟩)
