/-! ===== Arrays.fill and Land.become, by hand ===== -/
theorem aw_ir {M : MI} {X : EX} {R : Room} {mc ms : Nat} {Q : QT} {kc kn : Nat} {S : List SC} {σ : St} {pc : Nat} {L : LV} {x : Int32} {tab : List (Nat × TE)} {v : Int32} {v2 : Int64} (hT : tOK M.1.cls M.2.1 tab = true) (ht : tget tab pc = some (.ireturn, 1, v, v2)) {ty : FieldType} (hr : M.2.2.2 = some ty) (hn : narrow ty (.int x) = .int x) (hc : kc ≤ mc) (hs : kn ≤ ms) (hq : Q (some (.int x)) S σ) : AW M X R mc ms Q kc kn S σ pc L [.int x] := aw_iret (st := []) hT ht hr hn hc hs hq
theorem aw_lr {M : MI} {X : EX} {R : Room} {mc ms : Nat} {Q : QT} {kc kn : Nat} {S : List SC} {σ : St} {pc : Nat} {L : LV} {x : Int64} {tab : List (Nat × TE)} {v : Int32} {v2 : Int64} (hT : tOK M.1.cls M.2.1 tab = true) (ht : tget tab pc = some (.lreturn, 1, v, v2)) (hr : M.2.2.2 = some .long) (hc : kc ≤ mc) (hs : kn ≤ ms) (hq : Q (some (.long x)) S σ) : AW M X R mc ms Q kc kn S σ pc L [.long x] := aw_lret (st := []) hT ht hr hc hs hq
theorem aw_vr {M : MI} {X : EX} {R : Room} {mc ms : Nat} {Q : QT} {kc kn : Nat} {S : List SC} {σ : St} {pc : Nat} {L : LV} {tab : List (Nat × TE)} {v : Int32} {v2 : Int64} (hT : tOK M.1.cls M.2.1 tab = true) (ht : tget tab pc = some (.return_, 1, v, v2)) (hr : M.2.2.2 = none) (hc : kc ≤ mc) (hs : kn ≤ ms) (hq : Q none S σ) : AW M X R mc ms Q kc kn S σ pc L [] := aw_vret (st := []) hT ht hr hc hs hq
def jmax (x y : Int32) : Int32 := if x < y then y else x
theorem gt_max1 : Cond.static Lib.Math.max.name ∈ gtbl := by decide +kernel
theorem gt_max2 : Cond.code Lib.Math.max.name Lib.Math.max.code 2 (some .int) ∈ gtbl := by decide +kernel
theorem aw_max {M : MI} {X : EX} {R : Room} {mc ms : Nat} {Q : QT} {kc kn : Nat} {S : List SC} {σ : St} {pc : Nat} {L : LV} {st : List Value} {idx : Nat} {x y : Int32} {tab : List (Nat × TE)} {v0 : Int32} {v2 : Int64} (hT : tOK M.1.cls M.2.1 tab = true) (ht : tget tab pc = some (.invokestatic idx, 3, v0, v2)) (pc2 : Nat) (hp : pc + 3 = pc2) (hk : LK M.1.cls idx yJ9_max_7cf53) (hfr : 1 ≤ R.frames) (hlo : (st.map fun v => v.category).sum + 13 ≤ R.locals) (hcc : kc ≤ R.cells) (hss : kn ≤ R.slots)
    (kk : AW M X R mc ms Q kc kn S σ pc2 L (.int (jmax x y) :: st)) : AW M X R mc ms Q kc kn S σ pc L (.int y :: .int x :: st) := by
  subst hp
  intro p l e s m args below meth c Z D N A ad0 n0 hC hK hA hX hR ad H locs ls hW hl
  exact va_mmax hC.1 hC.2.1 (hC.2.2.1.trans hl.1.symm) hC.2.2.2.1 (hC.2.2.2.2.1 _ hk) (hC.2.2.2.2.1 _ gt_max1) (hC.2.2.2.2.1 (.initialized "java/lang/Math") (by decide +kernel)) (hC.2.2.2.2.1 _ gt_max2) hfr (by rw [cat_eq]; exact hlo) hcc hss (tok_at hT ht).1 (kk p l e s m args below meth c Z D N A ad0 n0 hC hK hA hX hR ad H locs ls hW hl)
def jmin (x y : Int32) : Int32 := if y < x then y else x
theorem gt_min1 : Cond.static Lib.Math.min.name ∈ gtbl := by decide +kernel
theorem gt_min2 : Cond.code Lib.Math.min.name Lib.Math.min.code 2 (some .int) ∈ gtbl := by decide +kernel
theorem aw_min {M : MI} {X : EX} {R : Room} {mc ms : Nat} {Q : QT} {kc kn : Nat} {S : List SC} {σ : St} {pc : Nat} {L : LV} {st : List Value} {idx : Nat} {x y : Int32} {tab : List (Nat × TE)} {v0 : Int32} {v2 : Int64} (hT : tOK M.1.cls M.2.1 tab = true) (ht : tget tab pc = some (.invokestatic idx, 3, v0, v2)) (pc2 : Nat) (hp : pc + 3 = pc2) (hk : LK M.1.cls idx yJ9_min_7cf53) (hfr : 1 ≤ R.frames) (hlo : (st.map fun v => v.category).sum + 13 ≤ R.locals) (hcc : kc ≤ R.cells) (hss : kn ≤ R.slots)
    (kk : AW M X R mc ms Q kc kn S σ pc2 L (.int (jmin x y) :: st)) : AW M X R mc ms Q kc kn S σ pc L (.int y :: .int x :: st) := by
  subst hp
  intro p l e s m args below meth c Z D N A ad0 n0 hC hK hA hX hR ad H locs ls hW hl
  exact va_mmin hC.1 hC.2.1 (hC.2.2.1.trans hl.1.symm) hC.2.2.2.1 (hC.2.2.2.2.1 _ hk) (hC.2.2.2.2.1 _ gt_min1) (hC.2.2.2.2.1 (.initialized "java/lang/Math") (by decide +kernel)) (hC.2.2.2.2.1 _ gt_min2) hfr (by rw [cat_eq]; exact hlo) hcc hss (tok_at hT ht).1 (kk p l e s m args below meth c Z D N A ad0 n0 hC hK hA hX hR ad H locs ls hW hl)
theorem ok_use {α : Type} {o : Option α} {K P : α → Prop} {G : Prop} (h : ok o K) (J : ∀ j, K j → P j) (F : ok o P → G) : G := F (ok_m h J)
def fillS (σ : St) (c n : Nat) (v : Int32) : St := upC σ c (fun k => if k < n then v else σ c k)
theorem fillS_0 (σ : St) (c : Nat) (v : Int32) : fillS σ c 0 v = σ := by
  funext c' k
  by_cases hc : c' = c <;> simp [fillS, upC, hc]
theorem fillS_s (σ : St) (c i : Nat) (v : Int32) : up2 (fillS σ c i v) c i v = fillS σ c (i + 1) v := by
  funext c' k
  by_cases hc : c' = c
  · subst hc
    by_cases hk : k = i
    · subst hk; simp [fillS, upC, up2, upd]
    · have h1 : (k < i + 1) = (k < i) := by apply propext; omega
      simp [fillS, upC, up2, upd, hk, h1]
  · simp [fillS, upC, up2, hc]
set_option maxHeartbeats 4000000 in
theorem s_fill {S : List SC} {σ : St} {c n : Nat} {v : Int32} (h : S[c]? = some (.inr (.inl (0, n)))) (hn : n < 1000) : Fn MJ7_fill_53178 rmJ7_fill_53178 [.ref c, .int v] S σ none (fillS σ c n v) := by
  refine Sp.of (by decide) (Nat.le_of_ble_eq_true rfl) ?_
  show AW MJ7_fill_53178 _ _ 0 0 _ 0 0 S σ 0 [(0, .ref c), (1, .int v)] []
  have key : ∀ j, j ≤ n → AW MJ7_fill_53178 E0 rmJ7_fill_53178 0 0 (fun v' S' σ' => v' = none ∧ S' = S ∧ σ' = fillS σ c n v) 0 0 S (fillS σ c (n - j) v) 5 [(0, .ref c), (1, .int v), (2, .int (nI (n - j))), (3, .int (nI n))] [] := by
    intro j
    induction j with
    | zero =>
      intro _
      refine aw_run tTJ7_fill_53178 2 (pc2 := 7) (L2 := [(0, .ref c), (1, .int v), (2, .int (nI (n - 0))), (3, .int (nI n))]) (st2 := [.int (nI n), .int (nI (n - 0))]) rfl ?_
      refine aw_icmp_ge tTJ7_fill_53178 rfl 20 10 rfl rfl (fun hc => ?_) (fun hc => ?_)
      · exact aw_vr tTJ7_fill_53178 rfl rfl (Nat.le_refl _) (Nat.le_refl _) ⟨rfl, rfl, rfl⟩
      · exact absurd (Int32.le_refl _) hc
    | succ j ih =>
      intro hj
      have hlt : n - (j + 1) < n := by omega
      refine aw_run tTJ7_fill_53178 2 (pc2 := 7) (L2 := [(0, .ref c), (1, .int v), (2, .int (nI (n - (j + 1)))), (3, .int (nI n))]) (st2 := [.int (nI n), .int (nI (n - (j + 1)))]) rfl ?_
      refine aw_icmp_ge tTJ7_fill_53178 rfl 20 10 rfl rfl (fun hc => ?_) (fun hc => ?_)
      · exact absurd hc (nI_ge hlt (by omega))
      · refine aw_run tTJ7_fill_53178 3 (pc2 := 13) (L2 := [(0, .ref c), (1, .int v), (2, .int (nI (n - (j + 1)))), (3, .int (nI n))]) (st2 := [.int v, .int (nI (n - (j + 1))), .ref c]) rfl ?_
        refine aw_iast tTJ7_fill_53178 rfl 14 rfl h (vp_in_nI hlt (by omega)) ?_
        rw [nI_clamp (by omega), fillS_s]
        refine aw_run tTJ7_fill_53178 2 (pc2 := 5) (L2 := [(2, .int (nI (n - (j + 1)) + 1)), (0, .ref c), (1, .int v), (3, .int (nI n))]) (st2 := []) rfl ?_
        rw [nI_1, show n - (j + 1) + 1 = n - j by omega]
        refine aw_sub [1, 2, 0, 3] rfl ?_
        exact ih (by omega)
  refine aw_run tTJ7_fill_53178 3 (pc2 := 3) (L2 := [(2, .int 0), (0, .ref c), (1, .int v)]) (st2 := [.ref c]) rfl ?_
  refine aw_alen (t := 0) (x := nI n) tTJ7_fill_53178 rfl 4 rfl h rfl ?_
  refine aw_run tTJ7_fill_53178 1 (pc2 := 5) (L2 := [(3, .int (nI n)), (2, .int 0), (0, .ref c), (1, .int v)]) (st2 := []) rfl ?_
  refine aw_sub [2, 3, 1, 0] rfl ?_
  have h0 := key n (Nat.le_refl _)
  rw [Nat.sub_self, fillS_0, nI_0] at h0
  exact h0
/-- Land.become: the ints of the one block become those of the other -/
def becS (σ : St) (a b : Nat) : St := fun c k => if c = a ∧ 7 ≤ k ∧ k ≤ 12 then σ b k else if a + 1 ≤ c ∧ c ≤ a + 5 ∧ k < 6 then σ (c - a + b) k else if a + 6 ≤ c ∧ c ≤ a + 7 ∧ k < 8 then σ (c - a + b) k else σ c k
theorem bec_eq {σ τ1 τ2 τ3 τ4 τ5 τ6 τ7 τ8 τ9 τ10 τ11 τ12 τ13 : St} {a b : Nat} (hab : a + 7 < b ∨ b + 7 < a) (e1 : τ1 = upC σ (a + 1) (va_cpy (σ (b + 1)) (σ (a + 1)) (0 : Int32).toNatClampNeg (0 : Int32).toNatClampNeg (6 : Int32).toNatClampNeg)) (e2 : τ2 = upC τ1 (a + 2) (va_cpy (τ1 (b + 2)) (τ1 (a + 2)) (0 : Int32).toNatClampNeg (0 : Int32).toNatClampNeg (6 : Int32).toNatClampNeg)) (e3 : τ3 = upC τ2 (a + 3) (va_cpy (τ2 (b + 3)) (τ2 (a + 3)) (0 : Int32).toNatClampNeg (0 : Int32).toNatClampNeg (6 : Int32).toNatClampNeg)) (e4 : τ4 = upC τ3 (a + 4) (va_cpy (τ3 (b + 4)) (τ3 (a + 4)) (0 : Int32).toNatClampNeg (0 : Int32).toNatClampNeg (6 : Int32).toNatClampNeg)) (e5 : τ5 = upC τ4 (a + 5) (va_cpy (τ4 (b + 5)) (τ4 (a + 5)) (0 : Int32).toNatClampNeg (0 : Int32).toNatClampNeg (6 : Int32).toNatClampNeg)) (e6 : τ6 = upC τ5 (a + 6) (va_cpy (τ5 (b + 6)) (τ5 (a + 6)) (0 : Int32).toNatClampNeg (0 : Int32).toNatClampNeg (8 : Int32).toNatClampNeg)) (e7 : τ7 = upC τ6 (a + 7) (va_cpy (τ6 (b + 7)) (τ6 (a + 7)) (0 : Int32).toNatClampNeg (0 : Int32).toNatClampNeg (8 : Int32).toNatClampNeg)) (e8 : τ8 = up2 τ7 a 7 (τ7 b 7)) (e9 : τ9 = up2 τ8 a 8 (τ8 b 8)) (e10 : τ10 = up2 τ9 a 9 (τ9 b 9)) (e11 : τ11 = up2 τ10 a 10 (τ10 b 10)) (e12 : τ12 = up2 τ11 a 11 (τ11 b 11)) (e13 : τ13 = up2 τ12 a 12 (τ12 b 12)) : τ13 = becS σ a b := by
  have z0 : (0 : Int32).toNatClampNeg = 0 := by decide
  have z6 : (6 : Int32).toNatClampNeg = 6 := by decide
  have z8 : (8 : Int32).toNatClampNeg = 8 := by decide
  rw [z0] at e1 e2 e3 e4 e5 e6 e7
  rw [z6] at e1 e2 e3 e4 e5
  rw [z8] at e6 e7
  have b1 : ∀ x, x ≤ 7 → τ1 (b + x) = σ (b + x) := fun x hx => by
    have h1 : ¬ b + x = a + 1 := by omega
    rw [e1]
    simp only [upC, h1, if_false]
  have b2 : ∀ x, x ≤ 7 → τ2 (b + x) = σ (b + x) := fun x hx => by
    have h1 : ¬ b + x = a + 2 := by omega
    rw [e2]
    simp only [upC, h1, if_false]
    exact b1 x hx
  have b3 : ∀ x, x ≤ 7 → τ3 (b + x) = σ (b + x) := fun x hx => by
    have h1 : ¬ b + x = a + 3 := by omega
    rw [e3]
    simp only [upC, h1, if_false]
    exact b2 x hx
  have b4 : ∀ x, x ≤ 7 → τ4 (b + x) = σ (b + x) := fun x hx => by
    have h1 : ¬ b + x = a + 4 := by omega
    rw [e4]
    simp only [upC, h1, if_false]
    exact b3 x hx
  have b5 : ∀ x, x ≤ 7 → τ5 (b + x) = σ (b + x) := fun x hx => by
    have h1 : ¬ b + x = a + 5 := by omega
    rw [e5]
    simp only [upC, h1, if_false]
    exact b4 x hx
  have b6 : ∀ x, x ≤ 7 → τ6 (b + x) = σ (b + x) := fun x hx => by
    have h1 : ¬ b + x = a + 6 := by omega
    rw [e6]
    simp only [upC, h1, if_false]
    exact b5 x hx
  have b7 : ∀ x, x ≤ 7 → τ7 (b + x) = σ (b + x) := fun x hx => by
    have h1 : ¬ b + x = a + 7 := by omega
    rw [e7]
    simp only [upC, h1, if_false]
    exact b6 x hx
  have b0 : ∀ k, τ7 b k = σ b k := fun k => by have := b7 0 (by omega); rw [Nat.add_zero] at this; rw [this]
  have hba : ¬ b = a := by omega
  have c8 : ∀ k, τ8 b k = σ b k := fun k => by rw [e8]; simp only [up2, hba, if_false]; exact b0 k
  have c9 : ∀ k, τ9 b k = σ b k := fun k => by rw [e9]; simp only [up2, hba, if_false]; exact c8 k
  have c10 : ∀ k, τ10 b k = σ b k := fun k => by rw [e10]; simp only [up2, hba, if_false]; exact c9 k
  have c11 : ∀ k, τ11 b k = σ b k := fun k => by rw [e11]; simp only [up2, hba, if_false]; exact c10 k
  have c12 : ∀ k, τ12 b k = σ b k := fun k => by rw [e12]; simp only [up2, hba, if_false]; exact c11 k
  have c13 : ∀ k, τ13 b k = σ b k := fun k => by rw [e13]; simp only [up2, hba, if_false]; exact c12 k
  have top : ∀ c, ¬ c = a → τ13 c = τ7 c := fun c hc => by rw [e13, e12, e11, e10, e9, e8]; simp only [up2, hc, if_false]
  have d1 : τ7 (a + 1) = va_cpy (σ (b + 1)) (σ (a + 1)) 0 0 6 := by
    have h7 : ¬ a + 1 = a + 7 := by omega
    have h6 : ¬ a + 1 = a + 6 := by omega
    have h5 : ¬ a + 1 = a + 5 := by omega
    have h4 : ¬ a + 1 = a + 4 := by omega
    have h3 : ¬ a + 1 = a + 3 := by omega
    have h2 : ¬ a + 1 = a + 2 := by omega
    rw [e7]; simp only [upC, h7, if_false]
    rw [e6]; simp only [upC, h6, if_false]
    rw [e5]; simp only [upC, h5, if_false]
    rw [e4]; simp only [upC, h4, if_false]
    rw [e3]; simp only [upC, h3, if_false]
    rw [e2]; simp only [upC, h2, if_false]
    rw [e1]; simp only [upC, if_true]
  have d2 : τ7 (a + 2) = va_cpy (σ (b + 2)) (σ (a + 2)) 0 0 6 := by
    have h7 : ¬ a + 2 = a + 7 := by omega
    have h6 : ¬ a + 2 = a + 6 := by omega
    have h5 : ¬ a + 2 = a + 5 := by omega
    have h4 : ¬ a + 2 = a + 4 := by omega
    have h3 : ¬ a + 2 = a + 3 := by omega
    rw [e7]; simp only [upC, h7, if_false]
    rw [e6]; simp only [upC, h6, if_false]
    rw [e5]; simp only [upC, h5, if_false]
    rw [e4]; simp only [upC, h4, if_false]
    rw [e3]; simp only [upC, h3, if_false]
    rw [e2]; simp only [upC, if_true]
    rw [b1 2 (by omega)]
    have g1 : ¬ a + 2 = a + 1 := by omega
    rw [e1]; simp only [upC, g1, if_false]
  have d3 : τ7 (a + 3) = va_cpy (σ (b + 3)) (σ (a + 3)) 0 0 6 := by
    have h7 : ¬ a + 3 = a + 7 := by omega
    have h6 : ¬ a + 3 = a + 6 := by omega
    have h5 : ¬ a + 3 = a + 5 := by omega
    have h4 : ¬ a + 3 = a + 4 := by omega
    rw [e7]; simp only [upC, h7, if_false]
    rw [e6]; simp only [upC, h6, if_false]
    rw [e5]; simp only [upC, h5, if_false]
    rw [e4]; simp only [upC, h4, if_false]
    rw [e3]; simp only [upC, if_true]
    rw [b2 3 (by omega)]
    have g2 : ¬ a + 3 = a + 2 := by omega
    rw [e2]; simp only [upC, g2, if_false]
    have g1 : ¬ a + 3 = a + 1 := by omega
    rw [e1]; simp only [upC, g1, if_false]
  have d4 : τ7 (a + 4) = va_cpy (σ (b + 4)) (σ (a + 4)) 0 0 6 := by
    have h7 : ¬ a + 4 = a + 7 := by omega
    have h6 : ¬ a + 4 = a + 6 := by omega
    have h5 : ¬ a + 4 = a + 5 := by omega
    rw [e7]; simp only [upC, h7, if_false]
    rw [e6]; simp only [upC, h6, if_false]
    rw [e5]; simp only [upC, h5, if_false]
    rw [e4]; simp only [upC, if_true]
    rw [b3 4 (by omega)]
    have g3 : ¬ a + 4 = a + 3 := by omega
    rw [e3]; simp only [upC, g3, if_false]
    have g2 : ¬ a + 4 = a + 2 := by omega
    rw [e2]; simp only [upC, g2, if_false]
    have g1 : ¬ a + 4 = a + 1 := by omega
    rw [e1]; simp only [upC, g1, if_false]
  have d5 : τ7 (a + 5) = va_cpy (σ (b + 5)) (σ (a + 5)) 0 0 6 := by
    have h7 : ¬ a + 5 = a + 7 := by omega
    have h6 : ¬ a + 5 = a + 6 := by omega
    rw [e7]; simp only [upC, h7, if_false]
    rw [e6]; simp only [upC, h6, if_false]
    rw [e5]; simp only [upC, if_true]
    rw [b4 5 (by omega)]
    have g4 : ¬ a + 5 = a + 4 := by omega
    rw [e4]; simp only [upC, g4, if_false]
    have g3 : ¬ a + 5 = a + 3 := by omega
    rw [e3]; simp only [upC, g3, if_false]
    have g2 : ¬ a + 5 = a + 2 := by omega
    rw [e2]; simp only [upC, g2, if_false]
    have g1 : ¬ a + 5 = a + 1 := by omega
    rw [e1]; simp only [upC, g1, if_false]
  have d6 : τ7 (a + 6) = va_cpy (σ (b + 6)) (σ (a + 6)) 0 0 8 := by
    have h7 : ¬ a + 6 = a + 7 := by omega
    rw [e7]; simp only [upC, h7, if_false]
    rw [e6]; simp only [upC, if_true]
    rw [b5 6 (by omega)]
    have g5 : ¬ a + 6 = a + 5 := by omega
    rw [e5]; simp only [upC, g5, if_false]
    have g4 : ¬ a + 6 = a + 4 := by omega
    rw [e4]; simp only [upC, g4, if_false]
    have g3 : ¬ a + 6 = a + 3 := by omega
    rw [e3]; simp only [upC, g3, if_false]
    have g2 : ¬ a + 6 = a + 2 := by omega
    rw [e2]; simp only [upC, g2, if_false]
    have g1 : ¬ a + 6 = a + 1 := by omega
    rw [e1]; simp only [upC, g1, if_false]
  have d7 : τ7 (a + 7) = va_cpy (σ (b + 7)) (σ (a + 7)) 0 0 8 := by
    rw [e7]; simp only [upC, if_true]
    rw [b6 7 (by omega)]
    have g6 : ¬ a + 7 = a + 6 := by omega
    rw [e6]; simp only [upC, g6, if_false]
    have g5 : ¬ a + 7 = a + 5 := by omega
    rw [e5]; simp only [upC, g5, if_false]
    have g4 : ¬ a + 7 = a + 4 := by omega
    rw [e4]; simp only [upC, g4, if_false]
    have g3 : ¬ a + 7 = a + 3 := by omega
    rw [e3]; simp only [upC, g3, if_false]
    have g2 : ¬ a + 7 = a + 2 := by omega
    rw [e2]; simp only [upC, g2, if_false]
    have g1 : ¬ a + 7 = a + 1 := by omega
    rw [e1]; simp only [upC, g1, if_false]
  have oth : ∀ c, ¬ (a + 1 ≤ c ∧ c ≤ a + 7) → τ7 c = σ c := fun c hc => by
    have h1 : ¬ c = a + 1 := by omega
    have h2 : ¬ c = a + 2 := by omega
    have h3 : ¬ c = a + 3 := by omega
    have h4 : ¬ c = a + 4 := by omega
    have h5 : ¬ c = a + 5 := by omega
    have h6 : ¬ c = a + 6 := by omega
    have h7 : ¬ c = a + 7 := by omega
    rw [e7, e6, e5, e4, e3, e2, e1]; simp only [upC, h1, h2, h3, h4, h5, h6, h7, if_false]
  funext c k
  by_cases hca : c = a
  · subst hca
    have ht : ∀ k, τ7 c k = σ c k := fun k => by rw [oth c (by omega)]
    have hn5 : ¬ (c + 1 ≤ c ∧ c ≤ c + 5 ∧ k < 6) := by omega
    have hn8 : ¬ (c + 6 ≤ c ∧ c ≤ c + 7 ∧ k < 8) := by omega
    simp only [becS, hn5, hn8, if_false, true_and]
    rw [e13]; simp only [up2, if_true, upd]
    rw [e12]; simp only [up2, if_true, upd]
    rw [e11]; simp only [up2, if_true, upd]
    rw [e10]; simp only [up2, if_true, upd]
    rw [e9]; simp only [up2, if_true, upd]
    rw [e8]; simp only [up2, if_true, upd, hba, if_false, ht, b0]
    by_cases k7 : k = 7
    · subst k7; simp
    · by_cases k8 : k = 8
      · subst k8; simp
      · by_cases k9 : k = 9
        · subst k9; simp
        · by_cases k10 : k = 10
          · subst k10; simp
          · by_cases k11 : k = 11
            · subst k11; simp
            · by_cases k12 : k = 12
              · subst k12; simp
              · have hk : ¬ (7 ≤ k ∧ k ≤ 12) := by omega
                simp only [k7, k8, k9, k10, k11, k12, hk, if_false]
  · rw [top c hca]
    by_cases hr : a + 1 ≤ c ∧ c ≤ a + 7
    · obtain ⟨j, rfl⟩ : ∃ j, c = a + j := ⟨c - a, by omega⟩
      have hj1 : 1 ≤ j := by omega
      have hj7 : j ≤ 7 := by omega
      have hcb : a + j - a + b = b + j := by omega
      have h0 : ¬ (a + j = a ∧ 7 ≤ k ∧ k ≤ 12) := by omega
      simp only [becS, h0, if_false, hcb]
      rcases (show j = 1 ∨ j = 2 ∨ j = 3 ∨ j = 4 ∨ j = 5 ∨ j = 6 ∨ j = 7 by omega) with rfl | rfl | rfl | rfl | rfl | rfl | rfl
      · rw [d1]; by_cases hk : k < 6 <;> simp [va_cpy, hk]
      · rw [d2]; by_cases hk : k < 6 <;> simp [va_cpy, hk]
      · rw [d3]; by_cases hk : k < 6 <;> simp [va_cpy, hk]
      · rw [d4]; by_cases hk : k < 6 <;> simp [va_cpy, hk]
      · rw [d5]; by_cases hk : k < 6 <;> simp [va_cpy, hk]
      · rw [d6]; by_cases hk : k < 8 <;> simp [va_cpy, hk]
      · rw [d7]; by_cases hk : k < 8 <;> simp [va_cpy, hk]
    · rw [oth c hr]
      have h0 : ¬ (c = a ∧ 7 ≤ k ∧ k ≤ 12) := by omega
      have h1 : ¬ (a + 1 ≤ c ∧ c ≤ a + 5 ∧ k < 6) := by omega
      have h2 : ¬ (a + 6 ≤ c ∧ c ≤ a + 7 ∧ k < 8) := by omega
      simp only [becS, h0, h1, h2, if_false]
set_option maxHeartbeats 4000000 in
theorem s_become {S : List SC} {σ : St} {a b : Nat} (ha : LA S a) (hb : LA S b) (hab : a + 7 < b ∨ b + 7 < a) : Fn MX0_become rmX0_become [.ref a, .ref b] S σ none (becS σ a b) := by
  refine Sp.of (by decide) (Nat.le_of_ble_eq_true rfl) ?_
  show AW MX0_become _ _ 0 0 _ 0 0 S σ 0 [(0, .ref a), (1, .ref b)] []
  refine aw_run tTX0_become 1 (pc2 := 1) (L2 := [(0, .ref a), (1, .ref b)]) (st2 := [.ref b]) rfl ?_
  refine aw_getR tTX0_become rfl 4 rfl hb.1 rfl flX0_9 ?_
  refine aw_run tTX0_become 2 (pc2 := 6) (L2 := [(0, .ref a), (1, .ref b)]) (st2 := [.ref a, .int 0, .ref (b + 1)]) rfl ?_
  refine aw_getR tTX0_become rfl 9 rfl ha.1 rfl flX0_9 ?_
  refine aw_run tTX0_become 2 (pc2 := 12) (L2 := [(0, .ref a), (1, .ref b)]) (st2 := [.int 6, .int 0, .ref (a + 1), .int 0, .ref (b + 1)]) rfl ?_
  refine aw_copy tTX0_become rfl 15 rfl (List.mem_of_getElem? (i := 248) (by decide +kernel)) hb.2.1 ha.2.1 (by decide) (by decide) (by decide) (by decide) (by decide) (by decide) (by decide +kernel) ?_
  refine aw_nmS (fun τ1 e1 => ?_)
  refine aw_run tTX0_become 1 (pc2 := 16) (L2 := [(0, .ref a), (1, .ref b)]) (st2 := [.ref b]) rfl ?_
  refine aw_getR tTX0_become rfl 19 rfl hb.1 rfl flX0_15 ?_
  refine aw_run tTX0_become 2 (pc2 := 21) (L2 := [(0, .ref a), (1, .ref b)]) (st2 := [.ref a, .int 0, .ref (b + 2)]) rfl ?_
  refine aw_getR tTX0_become rfl 24 rfl ha.1 rfl flX0_15 ?_
  refine aw_run tTX0_become 2 (pc2 := 27) (L2 := [(0, .ref a), (1, .ref b)]) (st2 := [.int 6, .int 0, .ref (a + 2), .int 0, .ref (b + 2)]) rfl ?_
  refine aw_copy tTX0_become rfl 30 rfl (List.mem_of_getElem? (i := 248) (by decide +kernel)) hb.2.2.1 ha.2.2.1 (by decide) (by decide) (by decide) (by decide) (by decide) (by decide) (by decide +kernel) ?_
  refine aw_nmS (fun τ2 e2 => ?_)
  refine aw_run tTX0_become 1 (pc2 := 31) (L2 := [(0, .ref a), (1, .ref b)]) (st2 := [.ref b]) rfl ?_
  refine aw_getR tTX0_become rfl 34 rfl hb.1 rfl flX0_18 ?_
  refine aw_run tTX0_become 2 (pc2 := 36) (L2 := [(0, .ref a), (1, .ref b)]) (st2 := [.ref a, .int 0, .ref (b + 3)]) rfl ?_
  refine aw_getR tTX0_become rfl 39 rfl ha.1 rfl flX0_18 ?_
  refine aw_run tTX0_become 2 (pc2 := 42) (L2 := [(0, .ref a), (1, .ref b)]) (st2 := [.int 6, .int 0, .ref (a + 3), .int 0, .ref (b + 3)]) rfl ?_
  refine aw_copy tTX0_become rfl 45 rfl (List.mem_of_getElem? (i := 248) (by decide +kernel)) hb.2.2.2.1 ha.2.2.2.1 (by decide) (by decide) (by decide) (by decide) (by decide) (by decide) (by decide +kernel) ?_
  refine aw_nmS (fun τ3 e3 => ?_)
  refine aw_run tTX0_become 1 (pc2 := 46) (L2 := [(0, .ref a), (1, .ref b)]) (st2 := [.ref b]) rfl ?_
  refine aw_getR tTX0_become rfl 49 rfl hb.1 rfl flX0_21 ?_
  refine aw_run tTX0_become 2 (pc2 := 51) (L2 := [(0, .ref a), (1, .ref b)]) (st2 := [.ref a, .int 0, .ref (b + 4)]) rfl ?_
  refine aw_getR tTX0_become rfl 54 rfl ha.1 rfl flX0_21 ?_
  refine aw_run tTX0_become 2 (pc2 := 57) (L2 := [(0, .ref a), (1, .ref b)]) (st2 := [.int 6, .int 0, .ref (a + 4), .int 0, .ref (b + 4)]) rfl ?_
  refine aw_copy tTX0_become rfl 60 rfl (List.mem_of_getElem? (i := 248) (by decide +kernel)) hb.2.2.2.2.1 ha.2.2.2.2.1 (by decide) (by decide) (by decide) (by decide) (by decide) (by decide) (by decide +kernel) ?_
  refine aw_nmS (fun τ4 e4 => ?_)
  refine aw_run tTX0_become 1 (pc2 := 61) (L2 := [(0, .ref a), (1, .ref b)]) (st2 := [.ref b]) rfl ?_
  refine aw_getR tTX0_become rfl 64 rfl hb.1 rfl flX0_24 ?_
  refine aw_run tTX0_become 2 (pc2 := 66) (L2 := [(0, .ref a), (1, .ref b)]) (st2 := [.ref a, .int 0, .ref (b + 5)]) rfl ?_
  refine aw_getR tTX0_become rfl 69 rfl ha.1 rfl flX0_24 ?_
  refine aw_run tTX0_become 2 (pc2 := 72) (L2 := [(0, .ref a), (1, .ref b)]) (st2 := [.int 6, .int 0, .ref (a + 5), .int 0, .ref (b + 5)]) rfl ?_
  refine aw_copy tTX0_become rfl 75 rfl (List.mem_of_getElem? (i := 248) (by decide +kernel)) hb.2.2.2.2.2.1 ha.2.2.2.2.2.1 (by decide) (by decide) (by decide) (by decide) (by decide) (by decide) (by decide +kernel) ?_
  refine aw_nmS (fun τ5 e5 => ?_)
  refine aw_run tTX0_become 1 (pc2 := 76) (L2 := [(0, .ref a), (1, .ref b)]) (st2 := [.ref b]) rfl ?_
  refine aw_getR tTX0_become rfl 79 rfl hb.1 rfl flX0_27 ?_
  refine aw_run tTX0_become 2 (pc2 := 81) (L2 := [(0, .ref a), (1, .ref b)]) (st2 := [.ref a, .int 0, .ref (b + 6)]) rfl ?_
  refine aw_getR tTX0_become rfl 84 rfl ha.1 rfl flX0_27 ?_
  refine aw_run tTX0_become 2 (pc2 := 87) (L2 := [(0, .ref a), (1, .ref b)]) (st2 := [.int 8, .int 0, .ref (a + 6), .int 0, .ref (b + 6)]) rfl ?_
  refine aw_copy tTX0_become rfl 90 rfl (List.mem_of_getElem? (i := 248) (by decide +kernel)) hb.2.2.2.2.2.2.1 ha.2.2.2.2.2.2.1 (by decide) (by decide) (by decide) (by decide) (by decide) (by decide) (by decide +kernel) ?_
  refine aw_nmS (fun τ6 e6 => ?_)
  refine aw_run tTX0_become 1 (pc2 := 91) (L2 := [(0, .ref a), (1, .ref b)]) (st2 := [.ref b]) rfl ?_
  refine aw_getR tTX0_become rfl 94 rfl hb.1 rfl flX0_30 ?_
  refine aw_run tTX0_become 2 (pc2 := 96) (L2 := [(0, .ref a), (1, .ref b)]) (st2 := [.ref a, .int 0, .ref (b + 7)]) rfl ?_
  refine aw_getR tTX0_become rfl 99 rfl ha.1 rfl flX0_30 ?_
  refine aw_run tTX0_become 2 (pc2 := 102) (L2 := [(0, .ref a), (1, .ref b)]) (st2 := [.int 8, .int 0, .ref (a + 7), .int 0, .ref (b + 7)]) rfl ?_
  refine aw_copy tTX0_become rfl 105 rfl (List.mem_of_getElem? (i := 248) (by decide +kernel)) hb.2.2.2.2.2.2.2 ha.2.2.2.2.2.2.2 (by decide) (by decide) (by decide) (by decide) (by decide) (by decide) (by decide +kernel) ?_
  refine aw_nmS (fun τ7 e7 => ?_)
  refine aw_run tTX0_become 2 (pc2 := 107) (L2 := [(0, .ref a), (1, .ref b)]) (st2 := [.ref b, .ref a]) rfl ?_
  refine aw_getI tTX0_become rfl 110 rfl hb.1 rfl flX0_33 ?_
  refine aw_putI tTX0_become rfl 113 rfl ha.1 rfl fpX0_33 ?_
  refine aw_nmS (fun τ8 e8 => ?_)
  refine aw_run tTX0_become 2 (pc2 := 115) (L2 := [(0, .ref a), (1, .ref b)]) (st2 := [.ref b, .ref a]) rfl ?_
  refine aw_getI tTX0_become rfl 118 rfl hb.1 rfl flX0_37 ?_
  refine aw_putI tTX0_become rfl 121 rfl ha.1 rfl fpX0_37 ?_
  refine aw_nmS (fun τ9 e9 => ?_)
  refine aw_run tTX0_become 2 (pc2 := 123) (L2 := [(0, .ref a), (1, .ref b)]) (st2 := [.ref b, .ref a]) rfl ?_
  refine aw_getI tTX0_become rfl 126 rfl hb.1 rfl flX0_40 ?_
  refine aw_putI tTX0_become rfl 129 rfl ha.1 rfl fpX0_40 ?_
  refine aw_nmS (fun τ10 e10 => ?_)
  refine aw_run tTX0_become 2 (pc2 := 131) (L2 := [(0, .ref a), (1, .ref b)]) (st2 := [.ref b, .ref a]) rfl ?_
  refine aw_getI tTX0_become rfl 134 rfl hb.1 rfl flX0_43 ?_
  refine aw_putI tTX0_become rfl 137 rfl ha.1 rfl fpX0_43 ?_
  refine aw_nmS (fun τ11 e11 => ?_)
  refine aw_run tTX0_become 2 (pc2 := 139) (L2 := [(0, .ref a), (1, .ref b)]) (st2 := [.ref b, .ref a]) rfl ?_
  refine aw_getI tTX0_become rfl 142 rfl hb.1 rfl flX0_46 ?_
  refine aw_putI tTX0_become rfl 145 rfl ha.1 rfl fpX0_46 ?_
  refine aw_nmS (fun τ12 e12 => ?_)
  refine aw_run tTX0_become 2 (pc2 := 147) (L2 := [(0, .ref a), (1, .ref b)]) (st2 := [.ref b, .ref a]) rfl ?_
  refine aw_getI tTX0_become rfl 150 rfl hb.1 rfl flX0_49 ?_
  refine aw_putI tTX0_become rfl 153 rfl ha.1 rfl fpX0_49 ?_
  refine aw_nmS (fun τ13 e13 => ?_)
  refine aw_vr tTX0_become rfl rfl (Nat.le_refl _) (Nat.le_refl _) ⟨rfl, rfl, ?_⟩
  exact bec_eq hab e1 e2 e3 e4 e5 e6 e7 e8 e9 e10 e11 e12 e13
