/-! ===== fields, arrays ===== -/
theorem ws_P {D : va_G} {w1 w2 : va_W} {H : Heap} (h : w1 = w2) (hP : va_P D vwCl w1 H) : va_P D vwCl w2 H := h ▸ hP
theorem ws_D {A : Nat → Prop} {w1 w2 : va_W} (h : w1 = w2) (hP : va_D A w1) : va_D A w2 := h ▸ hP
def FL (own : String) (idx ci k : Nat) : Prop := ∃ (C : String) (T : u_T) (N : Nat), vwCl[ci]? = some (C, T, N) ∧ k < N ∧ (∀ w ∈ u_ws C T N, w ∈ gtbl) ∧ Cond.fieldLink own idx (T k).1 (T k).2.1 (T k).2.2.1 ∈ gtbl
def FP (own : String) (idx ci k : Nat) (ty : FieldType) (fin : Bool) : Prop := ∃ (C : String) (T : u_T) (N : Nat) (ty0 : Nat → FieldType), vwCl[ci]? = some (C, T, N) ∧ k < N ∧ (∀ w ∈ u_ws C T N, w ∈ gtbl) ∧ Cond.fieldLink own idx (T k).1 (T k).2.1 (T k).2.2.1 ∈ gtbl ∧ (∀ k, k < N → parseFieldDescriptor (T k).2.2.1 = some (ty0 k)) ∧ (∀ a, a < N → ∀ b, b < N → a ≠ b → (T a).2.1 ≠ (T b).2.1) ∧ (T k).2.2.2 = fin ∧ parseFieldDescriptor (T k).2.2.1 = some ty ∧ (fin = true → (T k).1 = own)
theorem aw_getI {M : MI} {X : EX} {R : Room} {mc ms : Nat} {Q : QT} {kc kn : Nat} {S : List SC} {σ : St} {pc : Nat} {L : LV} {st : List Value} {idx a ci k : Nat} {fr : List (Option (Option Nat))} {tab : List (Nat × TE)} {v0 : Int32} {v2 : Int64} (hT : tOK M.1.cls M.2.1 tab = true) (ht : tget tab pc = some (.getfield idx, 3, v0, v2)) (pc2 : Nat) (hp : pc + 3 = pc2) (hS : S[a]? = some (.inl (ci, fr))) (hk : fr[k]? = some none) (hF : FL M.1.cls idx ci k)
    (kk : AW M X R mc ms Q kc kn S σ pc2 L (.int (σ a k) :: st)) : AW M X R mc ms Q kc kn S σ pc L (.ref a :: st) := by
  subst hp
  intro p l e s m args below meth c Z D N A ad0 n0 hC hK hA hX hR ad H locs ls hW hl
  obtain ⟨C, T, n, f1, f2, f3, f4⟩ := hF
  exact va_get (v := .int (σ a k)) hC.1 hC.2.1 hC.2.2.2.2.1 f3 hC.2.2.2.1 hK hW.2.2.1 a (cw_at hS) f1 k f2 (hC.2.2.2.2.1 _ f4) (fun _ h => h) (by simp [List.getElem?_mapIdx, hk, fv]) (tok_at hT ht).1 (kk p l e s m args below meth c Z D N A ad0 n0 hC hK hA hX hR ad H locs ls hW hl)
theorem aw_getR {M : MI} {X : EX} {R : Room} {mc ms : Nat} {Q : QT} {kc kn : Nat} {S : List SC} {σ : St} {pc : Nat} {L : LV} {st : List Value} {idx a ci k b : Nat} {fr : List (Option (Option Nat))} {tab : List (Nat × TE)} {v0 : Int32} {v2 : Int64} (hT : tOK M.1.cls M.2.1 tab = true) (ht : tget tab pc = some (.getfield idx, 3, v0, v2)) (pc2 : Nat) (hp : pc + 3 = pc2) (hS : S[a]? = some (.inl (ci, fr))) (hk : fr[k]? = some (some (some b))) (hF : FL M.1.cls idx ci k)
    (kk : AW M X R mc ms Q kc kn S σ pc2 L (.ref b :: st)) : AW M X R mc ms Q kc kn S σ pc L (.ref a :: st) := by
  subst hp
  intro p l e s m args below meth c Z D N A ad0 n0 hC hK hA hX hR ad H locs ls hW hl
  obtain ⟨C, T, n, f1, f2, f3, f4⟩ := hF
  exact va_get (v := .ref (ad b)) hC.1 hC.2.1 hC.2.2.2.2.1 f3 hC.2.2.2.1 hK hW.2.2.1 a (cw_at hS) f1 k f2 (hC.2.2.2.2.1 _ f4) (fun _ h => h) (by simp [List.getElem?_mapIdx, hk, fv, va_rf]) (tok_at hT ht).1 (kk p l e s m args below meth c Z D N A ad0 n0 hC hK hA hX hR ad H locs ls hW hl)
theorem aw_putI {M : MI} {X : EX} {R : Room} {mc ms : Nat} {Q : QT} {kc kn : Nat} {S : List SC} {σ : St} {pc : Nat} {L : LV} {st : List Value} {idx a ci k : Nat} {x : Int32} {fr : List (Option (Option Nat))} {tab : List (Nat × TE)} {v0 : Int32} {v2 : Int64} (hT : tOK M.1.cls M.2.1 tab = true) (ht : tget tab pc = some (.putfield idx, 3, v0, v2)) (pc2 : Nat) (hp : pc + 3 = pc2) (hS : S[a]? = some (.inl (ci, fr))) (hk : fr[k]? = some none) (hF : FP M.1.cls idx ci k .int false)
    (kk : AW M X R mc ms Q kc kn S (up2 σ a k x) pc2 L st) : AW M X R mc ms Q kc kn S σ pc L (.int x :: .ref a :: st) := by
  subst hp
  intro p l e s m args below meth c Z D N A ad0 n0 hC hK hA hX hR ad H locs ls hW hl
  obtain ⟨C, T, n, ty0, f1, f2, f3, f4, f5, f6, f7, f8, -⟩ := hF
  have hl2 : k < (fr.mapIdx (fv ad (σ a))).length := by simp; exact (List.getElem?_eq_some_iff.mp hk).1
  refine va_put (v := .int x) hC.1 hC.2.1 hC.2.2.2.2.1 f3 ty0 f5 f6 hC.2.2.2.1 hK hW.2.2.1 hW.2.2.2.1 hW.2.2.2.2 a (cw_at hS) f1 k f2 (hC.2.2.2.2.1 _ f4) (fun _ h => h) f7 f8 rfl rfl hl2 (tok_at hT ht).1 (fun H1 locs1 hP hD hSS => ?_)
  have eq9 : (cw N ad S σ).set a (ad a, .inr (ci, (fr.mapIdx (fv ad (σ a))).set k (.int x))) = cw N ad S (up2 σ a k x) := by
    rw [fv_set hk]
    exact cw_set hS rfl
  exact kk p l e s m args below meth c Z D N A ad0 n0 hC hK hA hX hR ad H1 locs1 ls ⟨hW.1, hW.2.1, ws_P eq9 hP, ws_D eq9 hD, hSS⟩ hl
def jz (x : Int32) : Int32 := vp_nar .boolean x
def upC (σ : St) (c : Nat) (f : Nat → Int32) : St := fun c' => if c' = c then f else σ c'
theorem cw_setC {N : N3} {ad : Nat → Nat} {S : List SC} {σ : St} {i : Nat} {f : Nat → Int32} {c : SC} {E : va_E} (h : S[i]? = some c) (hE : ce N ad f c = E) : (cw N ad S σ).set i (ad i, E) = cw N ad S (upC σ i f) := by
  apply List.ext_getElem?
  intro j
  by_cases hj : i = j
  · subst hj
    have hl : i < (cw N ad S σ).length := by simp [cw]; exact (List.getElem?_eq_some_iff.mp h).1
    rw [List.getElem?_set_self hl, cw_at h]
    simp [upC, hE]
  · rw [List.getElem?_set_ne hj]
    have : ¬ j = i := fun q => hj q.symm
    simp [cw, List.getElem?_mapIdx, upC, this]
theorem aw_iald {M : MI} {X : EX} {R : Room} {mc ms : Nat} {Q : QT} {kc kn : Nat} {S : List SC} {σ : St} {pc : Nat} {L : LV} {st : List Value} {a n : Nat} {i : Int32} {tab : List (Nat × TE)} {v0 : Int32} {v2 : Int64} (hT : tOK M.1.cls M.2.1 tab = true) (ht : tget tab pc = some (.iaload, 1, v0, v2)) (pc2 : Nat) (hp : pc + 1 = pc2) (hS : S[a]? = some (.inr (.inl (0, n)))) (hi : vp_in i n)
    (kk : AW M X R mc ms Q kc kn S σ pc2 L (.int (σ a i.toNatClampNeg) :: st)) : AW M X R mc ms Q kc kn S σ pc L (.int i :: .ref a :: st) := by
  subst hp
  intro p l e s m args below meth c Z D N A ad0 n0 hC hK hA hX hR ad H locs ls hW hl
  exact va_iald hC.1 hC.2.1 hK hW.2.2.1 a 0 (cw_at hS) rfl hi (tok_at hT ht).1 (kk p l e s m args below meth c Z D N A ad0 n0 hC hK hA hX hR ad H locs ls hW hl)
theorem aw_zald {M : MI} {X : EX} {R : Room} {mc ms : Nat} {Q : QT} {kc kn : Nat} {S : List SC} {σ : St} {pc : Nat} {L : LV} {st : List Value} {a n : Nat} {i : Int32} {tab : List (Nat × TE)} {v0 : Int32} {v2 : Int64} (hT : tOK M.1.cls M.2.1 tab = true) (ht : tget tab pc = some (.baload, 1, v0, v2)) (pc2 : Nat) (hp : pc + 1 = pc2) (hS : S[a]? = some (.inr (.inl (1, n)))) (hi : vp_in i n)
    (kk : AW M X R mc ms Q kc kn S σ pc2 L (.int (σ a i.toNatClampNeg) :: st)) : AW M X R mc ms Q kc kn S σ pc L (.int i :: .ref a :: st) := by
  subst hp
  intro p l e s m args below meth c Z D N A ad0 n0 hC hK hA hX hR ad H locs ls hW hl
  exact va_zald hC.1 hC.2.1 hK hW.2.2.1 a 1 (cw_at hS) rfl hi (tok_at hT ht).1 (kk p l e s m args below meth c Z D N A ad0 n0 hC hK hA hX hR ad H locs ls hW hl)
theorem aw_iast {M : MI} {X : EX} {R : Room} {mc ms : Nat} {Q : QT} {kc kn : Nat} {S : List SC} {σ : St} {pc : Nat} {L : LV} {st : List Value} {a n : Nat} {i x : Int32} {tab : List (Nat × TE)} {v0 : Int32} {v2 : Int64} (hT : tOK M.1.cls M.2.1 tab = true) (ht : tget tab pc = some (.iastore, 1, v0, v2)) (pc2 : Nat) (hp : pc + 1 = pc2) (hS : S[a]? = some (.inr (.inl (0, n)))) (hi : vp_in i n)
    (kk : AW M X R mc ms Q kc kn S (up2 σ a i.toNatClampNeg x) pc2 L st) : AW M X R mc ms Q kc kn S σ pc L (.int x :: .int i :: .ref a :: st) := by
  subst hp
  intro p l e s m args below meth c Z D N A ad0 n0 hC hK hA hX hR ad H locs ls hW hl
  refine va_iast hC.1 hC.2.1 hK hW.2.2.1 hW.2.2.2.1 hW.2.2.2.2 a 0 (cw_at hS) rfl hi (tok_at hT ht).1 (fun H1 locs1 hP hD hSS => ?_)
  have eq9 := cw_set (N := N) (ad := ad) (σ := σ) (k := i.toNatClampNeg) (v := x) hS rfl
  exact kk p l e s m args below meth c Z D N A ad0 n0 hC hK hA hX hR ad H1 locs1 ls ⟨hW.1, hW.2.1, ws_P eq9 hP, ws_D eq9 hD, hSS⟩ hl
theorem aw_zast {M : MI} {X : EX} {R : Room} {mc ms : Nat} {Q : QT} {kc kn : Nat} {S : List SC} {σ : St} {pc : Nat} {L : LV} {st : List Value} {a n : Nat} {i x : Int32} {tab : List (Nat × TE)} {v0 : Int32} {v2 : Int64} (hT : tOK M.1.cls M.2.1 tab = true) (ht : tget tab pc = some (.bastore, 1, v0, v2)) (pc2 : Nat) (hp : pc + 1 = pc2) (hS : S[a]? = some (.inr (.inl (1, n)))) (hi : vp_in i n)
    (kk : AW M X R mc ms Q kc kn S (up2 σ a i.toNatClampNeg (jz x)) pc2 L st) : AW M X R mc ms Q kc kn S σ pc L (.int x :: .int i :: .ref a :: st) := by
  subst hp
  intro p l e s m args below meth c Z D N A ad0 n0 hC hK hA hX hR ad H locs ls hW hl
  refine va_zast hC.1 hC.2.1 hK hW.2.2.1 hW.2.2.2.1 hW.2.2.2.2 a 1 (cw_at hS) rfl hi (tok_at hT ht).1 (fun H1 locs1 hP hD hSS => ?_)
  have eq9 := cw_set (N := N) (ad := ad) (σ := σ) (k := i.toNatClampNeg) (v := (jz x)) hS rfl
  exact kk p l e s m args below meth c Z D N A ad0 n0 hC hK hA hX hR ad H1 locs1 ls ⟨hW.1, hW.2.1, ws_P eq9 hP, ws_D eq9 hD, hSS⟩ hl
theorem aw_alen {M : MI} {X : EX} {R : Room} {mc ms : Nat} {Q : QT} {kc kn : Nat} {S : List SC} {σ : St} {pc : Nat} {L : LV} {st : List Value} {a n t : Nat} {tab : List (Nat × TE)} {v0 : Int32} {v2 : Int64} (hT : tOK M.1.cls M.2.1 tab = true) (ht : tget tab pc = some (.arraylength, 1, v0, v2)) (pc2 : Nat) (hp : pc + 1 = pc2) (hS : S[a]? = some (.inr (.inl (0, n)))) {x : Int32} (hx : Int32.ofNat n = x)
    (kk : AW M X R mc ms Q kc kn S σ pc2 L (.int x :: st)) : AW M X R mc ms Q kc kn S σ pc L (.ref a :: st) := by
  subst hp
  intro p l e s m args below meth c Z D N A ad0 n0 hC hK hA hX hR ad H locs ls hW hl
  exact va_alen hC.1 hC.2.1 hK hW.2.2.1 a 0 (cw_at hS) rfl hx (tok_at hT ht).1 (kk p l e s m args below meth c Z D N A ad0 n0 hC hK hA hX hR ad H locs ls hW hl)
def rfv (r : Option Nat) : Value := match r with
  | none => .null
  | some b => .ref b
theorem aw_aald {M : MI} {X : EX} {R : Room} {mc ms : Nat} {Q : QT} {kc kn : Nat} {S : List SC} {σ : St} {pc : Nat} {L : LV} {st : List Value} {a n : Nat} {g : Nat → Option Nat} {i : Int32} {tab : List (Nat × TE)} {v0 : Int32} {v2 : Int64} (hT : tOK M.1.cls M.2.1 tab = true) (ht : tget tab pc = some (.aaload, 1, v0, v2)) (pc2 : Nat) (hp : pc + 1 = pc2) (hS : S[a]? = some (.inr (.inr (n, g)))) (hi : vp_in i n) {u : Value} (hu : rfv (g i.toNatClampNeg) = u)
    (kk : AW M X R mc ms Q kc kn S σ pc2 L (u :: st)) : AW M X R mc ms Q kc kn S σ pc L (.int i :: .ref a :: st) := by
  subst hp; subst hu
  intro p l e s m args below meth c Z D N A ad0 n0 hC hK hA hX hR ad H locs ls hW hl
  refine va_aldq hC.1 hC.2.1 hK hW.2.2.1 a 2 (cw_at hS) rfl hi (tok_at hT ht).1 ?_
  have h := kk p l e s m args below meth c Z D N A ad0 n0 hC hK hA hX hR ad H locs ls hW hl
  have e : vc ad (rfv (g i.toNatClampNeg)) = va_rf ((g i.toNatClampNeg).map ad) := by cases g i.toNatClampNeg <;> rfl
  rw [List.map_cons, e] at h
  exact h
theorem cw_setG {N : N3} {ad : Nat → Nat} {S : List SC} {σ : St} {i : Nat} {c : SC} {E : va_E} (hi : i < S.length) (hE : ce N ad (σ i) c = E) : (cw N ad S σ).set i (ad i, E) = cw N ad (S.set i c) σ := by
  apply List.ext_getElem?
  intro j
  by_cases hj : i = j
  · subst hj
    have hl : i < (cw N ad S σ).length := by simp [cw]; exact hi
    rw [List.getElem?_set_self hl]
    have h2 : (S.set i c)[i]? = some c := List.getElem?_set_self hi
    rw [cw_at h2, hE]
  · rw [List.getElem?_set_ne hj]
    simp [cw, List.getElem?_mapIdx, List.getElem?_set_ne hj]
theorem aw_aast {M : MI} {X : EX} {R : Room} {mc ms : Nat} {Q : QT} {kc kn : Nat} {S : List SC} {σ : St} {pc : Nat} {L : LV} {st : List Value} {a n b : Nat} {g : Nat → Option Nat} {fr : List (Option (Option Nat))} {i : Int32} {tab : List (Nat × TE)} {v0 : Int32} {v2 : Int64} (hT : tOK M.1.cls M.2.1 tab = true) (ht : tget tab pc = some (.aastore, 1, v0, v2)) (pc2 : Nat) (hp : pc + 1 = pc2) (hS : S[a]? = some (.inr (.inr (n, g)))) (hb : S[b]? = some (.inl (0, fr))) (hi : vp_in i n)
    (kk : AW M X R mc ms Q kc kn (S.set a (.inr (.inr (n, va_up g i.toNatClampNeg (some b))))) σ pc2 L st) : AW M X R mc ms Q kc kn S σ pc L (.ref b :: .int i :: .ref a :: st) := by
  subst hp
  intro p l e s m args below meth c Z D N A ad0 n0 hC hK hA hX hR ad H locs ls hW hl
  refine va_astq (r := (RX0, TX0, 13)) hC.1 hC.2.1 hK hW.2.2.1 hW.2.2.2.1 hW.2.2.2.2 a 2 b 0 (cw_at hS) rfl (cw_at hb) rfl hi (tok_at hT ht).1 (fun H1 locs1 hP hD hSS => ?_)
  have eq9 := cw_setG (N := N) (ad := ad) (σ := σ) (i := a) (c := .inr (.inr (n, va_up g i.toNatClampNeg (some b)))) (E := .inl (N.2.2, n, .inr (.inr (.inr (.inr (va_up (fun k => (g k).map ad) i.toNatClampNeg (some (ad b)))))))) (List.getElem?_eq_some_iff.mp hS).1 (by
    have hf : (fun k => (va_up g i.toNatClampNeg (some b) k).map ad) = va_up (fun k => (g k).map ad) i.toNatClampNeg (some (ad b)) := by
      funext k
      by_cases hk : k = i.toNatClampNeg <;> simp [va_up, hk]
    simp only [ce, hf])
  exact kk p l e s m args below meth c Z D N A ad0 n0 hC hK hA hX hR ad H1 locs1 ls ⟨by rw [List.length_set]; exact hW.1, hW.2.1, ws_P eq9 hP, ws_D eq9 hD, hSS⟩ hl
theorem aw_putF {M : MI} {X : EX} {R : Room} {mc ms : Nat} {Q : QT} {kc kn : Nat} {S : List SC} {σ : St} {pc : Nat} {L : LV} {st : List Value} {idx a ci k b : Nat} {ty : FieldType} {fr : List (Option (Option Nat))} {f0 : Option (Option Nat)} {tab : List (Nat × TE)} {v0 : Int32} {v2 : Int64} (hT : tOK M.1.cls M.2.1 tab = true) (ht : tget tab pc = some (.putfield idx, 3, v0, v2)) (pc2 : Nat) (hp : pc + 3 = pc2) (hS : S[a]? = some (.inl (ci, fr))) (hk : fr[k]? = some f0) (hF : FP M.1.cls idx ci k ty true) (hi : M.1.name = "<init>") (hn : ∀ z, narrow ty (.ref z) = .ref z ∧ fits ty (.ref z) = true)
    (kk : AW M X R mc ms Q kc kn (S.set a (.inl (ci, fr.set k (some (some b))))) σ pc2 L st) : AW M X R mc ms Q kc kn S σ pc L (.ref b :: .ref a :: st) := by
  subst hp
  intro p l e s m args below meth c Z D N A ad0 n0 hC hK hA hX hR ad H locs ls hW hl
  obtain ⟨C, T, n, ty0, f1, f2, f3, f4, f5, f6, f7, f8, f9⟩ := hF
  have hl2 : k < (fr.mapIdx (fv ad (σ a))).length := by simp; exact (List.getElem?_eq_some_iff.mp hk).1
  refine va_putF (v := .ref (ad b)) hC.1 hC.2.1 hC.2.2.2.2.1 f3 ty0 f5 f6 hC.2.2.2.1 hK hW.2.2.1 hW.2.2.2.1 hW.2.2.2.2 a (cw_at hS) f1 k f2 (hC.2.2.2.2.1 _ f4) (fun _ h => h) f7 (hC.2.2.2.2.2.1.trans hi) (f9 rfl) f8 (hn _).1 (hn _).2 hl2 (tok_at hT ht).1 (fun H1 locs1 hP hD hSS => ?_)
  have eq9 := cw_setG (N := N) (ad := ad) (σ := σ) (i := a) (c := .inl (ci, fr.set k (some (some b)))) (E := .inr (ci, (fr.mapIdx (fv ad (σ a))).set k (.ref (ad b)))) (List.getElem?_eq_some_iff.mp hS).1 (by
    simp only [ce]
    congr 2
    apply List.ext_getElem?
    intro j
    by_cases hj : k = j
    · subst hj
      rw [List.getElem?_set_self hl2, List.getElem?_mapIdx, List.getElem?_set_self (List.getElem?_eq_some_iff.mp hk).1]
      rfl
    · rw [List.getElem?_set_ne hj]
      simp [List.getElem?_mapIdx, List.getElem?_set_ne hj])
  exact kk p l e s m args below meth c Z D N A ad0 n0 hC hK hA hX hR ad H1 locs1 ls ⟨by rw [List.length_set]; exact hW.1, hW.2.1, ws_P eq9 hP, ws_D eq9 hD, hSS⟩ hl
theorem aw_copy {M : MI} {X : EX} {R : Room} {mc ms : Nat} {Q : QT} {kc kn : Nat} {S : List SC} {σ : St} {pc : Nat} {L : LV} {st : List Value} {idx a b na nb : Nat} {sp dp n : Int32} {tab : List (Nat × TE)} {v0 : Int32} {v2 : Int64} (hT : tOK M.1.cls M.2.1 tab = true) (ht : tget tab pc = some (.invokestatic idx, 3, v0, v2)) (pc2 : Nat) (hp : pc + 3 = pc2) (hlk : Cond.methodLink M.1.cls idx arraycopyName ∈ tables_1) (ha : S[a]? = some (.inr (.inl (0, na)))) (hb : S[b]? = some (.inr (.inl (0, nb)))) (h1 : ¬ sp < 0) (h2 : ¬ dp < 0) (h3 : ¬ n < 0) (h4 : sp.toNatClampNeg + n.toNatClampNeg ≤ na) (h5 : dp.toNatClampNeg + n.toNatClampNeg ≤ nb) (hfr : 1 ≤ R.frames) (hlo : (st.map fun v => v.category).sum + (nativeFrameWords "java/lang/System" "arraycopy" 5 + 11) ≤ R.locals)
    (kk : AW M X R mc ms Q kc kn S (upC σ b (va_cpy (σ a) (σ b) sp.toNatClampNeg dp.toNatClampNeg n.toNatClampNeg)) pc2 L st) : AW M X R mc ms Q kc kn S σ pc L (.int n :: .int dp :: .ref b :: .int sp :: .ref a :: st) := by
  subst hp
  intro p l e s m args below meth c Z D N A ad0 n0 hC hK hA hX hR ad H locs ls hW hl
  have hlo2 : ((st.map (vc ad)).map fun v => v.category).sum + (nativeFrameWords "java/lang/System" "arraycopy" 5 + 11) ≤ R.locals := by
    rw [List.map_map, show ((fun v : Value => v.category) ∘ vc ad) = (fun v => v.category) from funext (vc_cat ad)]
    exact hlo
  refine va_copyi (ty := .int) hC.1 hC.2.1 (hC.2.2.1.trans hl.1.symm) hC.2.2.2.1 (hC.2.2.2.2.1 _ (gt_mem hlk rfl)) (hC.2.2.2.2.1 _ (gt_mem (List.mem_of_getElem? (i := 250) (by decide +kernel)) rfl)) (hC.2.2.2.2.1 (.static arraycopyName) (by decide +kernel)) (hC.2.2.2.2.1 (.initialized "java/lang/System") (by decide +kernel)) hK hW.2.2.1 hW.2.2.2.1 hW.2.2.2.2 a b 0 0 (cw_at ha) (cw_at hb) rfl rfl rfl h1 h2 h3 h4 h5 (fun _ _ => rfl) hfr hlo2 (tok_at hT ht).1 (fun H1 locs1 hP hD hSS => ?_)
  have eq9 := cw_setC (N := N) (ad := ad) (σ := σ) (f := va_cpy (σ a) (σ b) sp.toNatClampNeg dp.toNatClampNeg n.toNatClampNeg) hb rfl
  exact kk p l e s m args below meth c Z D N A ad0 n0 hC hK hA hX hR ad H1 locs1 ls ⟨hW.1, hW.2.1, ws_P eq9 hP, ws_D eq9 hD, hSS⟩ hl
