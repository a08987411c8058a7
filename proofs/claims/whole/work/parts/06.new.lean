/-! ===== new cells ===== -/
def cok (n : Nat) (c : SC) : Prop := match c with
  | .inl o => ∀ k, some (some k) ∈ o.2 → k < n
  | .inr (.inl _) => True
  | .inr (.inr g) => ∀ j k, g.2 j = some k → k < n
def sokP (S : List SC) (n : Nat) : Prop := ∀ c ∈ S, cok n c
theorem cok_mono {n n' : Nat} {c : SC} (h : cok n c) (hn : n ≤ n') : cok n' c := by
  match c, h with
  | .inl o, h => exact fun k hk => Nat.lt_of_lt_of_le (h k hk) hn
  | .inr (.inl _), _ => trivial
  | .inr (.inr g), h => exact fun j k hk => Nat.lt_of_lt_of_le (h j k hk) hn
theorem sokP_push {S : List SC} {c : SC} (h : sokP S S.length) (hc : cok S.length c) : sokP (S ++ [c]) (S ++ [c]).length := by
  intro d hd
  have hle : S.length ≤ (S ++ [c]).length := by simp
  rcases List.mem_append.mp hd with h1 | h1
  · exact cok_mono (h d h1) hle
  · rw [List.mem_singleton.mp h1]; exact cok_mono hc hle
theorem ce_ad {N : N3} {ad ad' : Nat → Nat} {r : Nat → Int32} {n : Nat} {c : SC} (h : cok n c) (ha : ∀ k, k < n → ad' k = ad k) : ce N ad' r c = ce N ad r c := by
  match c, h with
  | .inl o, h =>
    simp only [ce]
    congr 2
    apply List.ext_getElem?
    intro j
    simp only [List.getElem?_mapIdx]
    cases hj : o.2[j]? with
    | none => rfl
    | some f =>
      match f with
      | none => rfl
      | some none => rfl
      | some (some k) => simp [fv, ha k (h k (List.mem_of_getElem? hj))]
  | .inr (.inl _), _ => rfl
  | .inr (.inr g), h =>
    have hf : (fun k => (g.2 k).map ad') = (fun k => (g.2 k).map ad) := by
      funext j
      cases hj : g.2 j with
      | none => rfl
      | some k => simp [ha k (h j k hj)]
    simp only [ce, hf]
theorem cw_push {N : N3} {ad : Nat → Nat} {S : List SC} {σ : St} {q : Nat} {c : SC} (h : sokP S S.length) (hc : cok S.length c) : cw N (va_up ad S.length q) (S ++ [c]) (upC σ S.length (fun _ => 0)) = cw N ad S σ ++ [(q, ce N ad (fun _ => 0) c)] := by
  have ha : ∀ k, k < S.length → va_up ad S.length q k = ad k := fun k hk => by simp [va_up, Nat.ne_of_lt hk]
  apply List.ext_getElem?
  intro j
  by_cases hj : j < S.length
  · have h1 : S[j]? = some S[j] := List.getElem?_eq_getElem hj
    have h2 : (S ++ [c])[j]? = some S[j] := by rw [List.getElem?_append_left hj]; exact h1
    rw [cw_at h2, List.getElem?_append_left (by simp [cw]; exact hj), cw_at h1, ce_ad (h _ (List.getElem_mem hj)) ha, ha j hj]
    simp [upC, Nat.ne_of_lt hj]
  · by_cases hj2 : j = S.length
    · subst hj2
      have h2 : (S ++ [c])[S.length]? = some c := by simp
      rw [cw_at h2, List.getElem?_append_right (by simp [cw]), ce_ad hc ha]
      simp [cw, upC, va_up]
    · have h1 : (cw N (va_up ad S.length q) (S ++ [c]) (upC σ S.length fun _ => 0)).length ≤ j := by simp [cw]; omega
      have h2 : (cw N ad S σ ++ [(q, ce N ad (fun _ => 0) c)]).length ≤ j := by simp [cw]; omega
      rw [List.getElem?_eq_none h1, List.getElem?_eq_none h2]
theorem ad_push {ad ad0 : Nat → Nat} {n0 n q : Nat} (h : ∀ k, k < n0 ∨ 777 ≤ k → ad k = ad0 k) (hn : n0 ≤ n) (hn2 : n < 777) : ∀ k, k < n0 ∨ 777 ≤ k → va_up ad n q k = ad0 k := by
  intro k hk
  have : ¬ k = n := by omega
  simp [va_up, this, h k hk]
theorem cls_I {D : va_G} {N : N3} {s : State} {cA : ClassId} {t : List (ClassId × FieldType)} (hK : va_K D vwCl (tys3 N) s) (h : va_K D vwCl (t ++ [(cA, .int)]) s) : cA = N.1 := by
  have h1 := (h.2 t.length (cA, .int) (by simp)).2
  have h2 := (hK.2 0 (N.1, .int) rfl).2
  exact Option.some.inj (h1.symm.trans h2)
theorem cls_Z {D : va_G} {N : N3} {s : State} {cA : ClassId} {t : List (ClassId × FieldType)} (hK : va_K D vwCl (tys3 N) s) (h : va_K D vwCl (t ++ [(cA, .boolean)]) s) : cA = N.2.1 := by
  have h1 := (h.2 t.length (cA, .boolean) (by simp)).2
  have h2 := (hK.2 1 (N.2.1, .boolean) rfl).2
  exact Option.some.inj (h1.symm.trans h2)
theorem cls_L {D : va_G} {N : N3} {s : State} {cA : ClassId} {t : List (ClassId × FieldType)} (hK : va_K D vwCl (tys3 N) s) (h : va_K D vwCl (t ++ [(cA, .object RX0)]) s) : cA = N.2.2 := by
  obtain ⟨_, _, _, _, _, h1⟩ := (h.2 t.length (cA, .object RX0) (by simp)).2
  obtain ⟨_, _, _, _, _, h2⟩ := (hK.2 2 (N.2.2, .object RX0) rfl).2
  exact Option.some.inj (h1.symm.trans h2)
theorem gt_int : Cond.arrayClass .int ∈ gtbl := by decide +kernel
theorem gt_boolean : Cond.arrayClass .boolean ∈ gtbl := by decide +kernel
theorem aw_new {M : MI} {X : EX} {R : Room} {mc ms : Nat} {Q : QT} {kc kn : Nat} {S : List SC} {σ : St} {pc : Nat} {L : LV} {st : List Value} {idx ci n : Nat} {C : String} {T : u_T} {ty0 : Nat → FieldType} {fr : List (Option (Option Nat))} {tab : List (Nat × TE)} {v0 : Int32} {v2 : Int64} (hT : tOK M.1.cls M.2.1 tab = true) (ht : tget tab pc = some (.new idx, 3, v0, v2)) (pc2 : Nat) (hp : pc + 3 = pc2) (hcl : vwCl[ci]? = some (C, T, n)) (hin : ∀ w ∈ u_ws C T n, w ∈ gtbl) (hty : ∀ k, k < n → parseFieldDescriptor (T k).2.2.1 = some (ty0 k)) (hlk : Cond.classLink M.1.cls idx C ∈ gtbl) (hins : Cond.instantiable C n ∈ gtbl) (hini : Cond.initialized C ∈ gtbl)
    (hfr : ∀ j, j < n → defaultValue (ty0 j) = vp_V (fr.mapIdx (fv id (fun _ => 0))) j) (hnull : ∀ k, some (some k) ∉ fr) (nv : Nat) (hnv : nv ≤ S.length) (hv : (L.all (fun q => vok nv q.2) && st.all (vok nv)) = true) (hso : sokP S S.length) (hlen : S.length < 777) (hroom : kc + 1 ≤ R.cells ∧ kn + n ≤ R.slots)
    (kk : AW M X R mc ms Q (kc + 1) (kn + n) (S ++ [.inl (ci, fr)]) (upC σ S.length (fun _ => 0)) pc2 L (.ref S.length :: st)) : AW M X R mc ms Q kc kn S σ pc L st := by
  subst hp
  intro p l e s m args below meth c Z D N A ad0 n0 hC hK hA hX hR ad H locs ls hW hl
  have hfr2 : ∀ ad : Nat → Nat, fr.mapIdx (fv ad (fun _ => 0)) = fr.mapIdx (fv id (fun _ => 0)) := by
    intro ad
    apply List.ext_getElem?
    intro j
    simp only [List.getElem?_mapIdx]
    cases hj : fr[j]? with
    | none => rfl
    | some f =>
      match f with
      | none => rfl
      | some none => rfl
      | some (some k) => exact absurd (List.mem_of_getElem? hj) (hnull k)
  refine va_new (ci := ci) (fs := fr.mapIdx (fv ad (fun _ => 0))) hC.1 hC.2.1 hC.2.2.2.2.1 hin ty0 hty hC.2.2.2.1 (hC.2.2.2.2.1 _ hlk) (hC.2.2.2.2.1 _ hins) (hC.2.2.2.2.1 _ hini) hK hW.2.2.1 hW.2.2.2.1 hW.2.2.2.2 hA hcl (fun j hj => by rw [hfr2 ad]; exact hfr j hj) hroom.1 hroom.2 (tok_at hT ht).1 (fun q H1 hP hD hSS => ?_)
  have hN := hv
  simp only [Bool.and_eq_true] at hN
  have hvk : ∀ z : Nat, ∀ k, k < nv ∨ 777 ≤ k → va_up ad S.length z k = ad k := fun z k h => by
    have : ¬ k = S.length := by omega
    simp [va_up, this]
  have eq9 := cw_push (N := N) (ad := ad) (σ := σ) (q := q) (c := .inl (ci, fr)) hso (fun k hk => absurd hk (hnull k))
  have h := kk p l e s m args below meth c Z D N A ad0 n0 hC hK hA hX hR (va_up ad S.length q) H1 locs ls ⟨by have := hW.1; simp; omega, ad_push hW.2.1 hW.1 hlen, ws_P (by rw [eq9]; rfl) hP, ws_D (by rw [eq9]; rfl) hD, hSS⟩ (by rw [vokL_eq hN.1 (hvk q)]; exact hl)
  rw [List.map_cons, vokS_eq hN.2 (hvk q)] at h
  have h9 : vc (va_up ad S.length q) (.ref S.length) = .ref q := by simp [vc, va_up]
  rw [h9] at h
  exact h
theorem aw_newaI {M : MI} {X : EX} {R : Room} {mc ms : Nat} {Q : QT} {kc kn : Nat} {S : List SC} {σ : St} {pc : Nat} {L : LV} {st : List Value} {n : Int32} {k : Nat} {tab : List (Nat × TE)} {v0 : Int32} {v2 : Int64} (hT : tOK M.1.cls M.2.1 tab = true) (ht : tget tab pc = some (.newarray .int, 2, v0, v2)) (pc2 : Nat) (hp : pc + 2 = pc2) (hn : ¬ n < 0) (hk : n.toNatClampNeg = k) (hkb : k ≤ 1000) (nv : Nat) (hnv : nv ≤ S.length) (hv : (L.all (fun q => vok nv q.2) && st.all (vok nv)) = true) (hso : sokP S S.length) (hlen : S.length < 777) (hroom : kc + 1 ≤ R.cells ∧ kn + k ≤ R.slots)
    (kk : AW M X R mc ms Q (kc + 1) (kn + k) (S ++ [.inr (.inl (0, k))]) (upC σ S.length (fun _ => 0)) pc2 L (.ref S.length :: st)) : AW M X R mc ms Q kc kn S σ pc L (.int n :: st) := by
  subst hp
  intro p l e s m args below meth c Z D N A ad0 n0 hC hK hA hX hR ad H locs ls hW hl
  have harr : (Cond.arrayClass .int).before args s = true := hC.2.2.2.2.1 _ gt_int
  have hbt : k * componentBytes .int ≤ 536870912 := by simp only [componentBytes]; omega
  have hcl : ∀ cA : ClassId, vp_cell cA (k, .inl (fun _ => 0)) = arrV cA k (fun _ => defaultValue .int) := fun cA => rfl
  refine va_newa (atype := .int) (ty := .int) (a0 := (k, .inl (fun _ => 0))) hC.1 hC.2.1 harr rfl hK hW.2.2.1 hW.2.2.2.1 hW.2.2.2.2 hA hcl hn hk hbt hroom.1 hroom.2 (tok_at hT ht).1 (fun q cA H1 hK1 hP hD hSS => ?_)
  have hcA := cls_I hK hK1
  subst hcA
  have hN := hv
  simp only [Bool.and_eq_true] at hN
  have hvk : ∀ z : Nat, ∀ k, k < nv ∨ 777 ≤ k → va_up ad S.length z k = ad k := fun z k h => by
    have : ¬ k = S.length := by omega
    simp [va_up, this]
  have eq9 := cw_push (N := N) (ad := ad) (σ := σ) (q := q) (c := .inr (.inl (0, k))) hso trivial
  have h := kk p l e s m args below meth c Z D N A ad0 n0 hC hK hA hX hR (va_up ad S.length q) H1 locs ls ⟨by have := hW.1; simp; omega, ad_push hW.2.1 hW.1 hlen, ws_P (by rw [eq9]; rfl) hP, ws_D (by rw [eq9]; rfl) hD, hSS⟩ (by rw [vokL_eq hN.1 (hvk q)]; exact hl)
  rw [List.map_cons, vokS_eq hN.2 (hvk q)] at h
  have h9 : vc (va_up ad S.length q) (.ref S.length) = .ref q := by simp [vc, va_up]
  rw [h9] at h
  exact h
theorem aw_newaZ {M : MI} {X : EX} {R : Room} {mc ms : Nat} {Q : QT} {kc kn : Nat} {S : List SC} {σ : St} {pc : Nat} {L : LV} {st : List Value} {n : Int32} {k : Nat} {tab : List (Nat × TE)} {v0 : Int32} {v2 : Int64} (hT : tOK M.1.cls M.2.1 tab = true) (ht : tget tab pc = some (.newarray .boolean, 2, v0, v2)) (pc2 : Nat) (hp : pc + 2 = pc2) (hn : ¬ n < 0) (hk : n.toNatClampNeg = k) (hkb : k ≤ 1000) (nv : Nat) (hnv : nv ≤ S.length) (hv : (L.all (fun q => vok nv q.2) && st.all (vok nv)) = true) (hso : sokP S S.length) (hlen : S.length < 777) (hroom : kc + 1 ≤ R.cells ∧ kn + k ≤ R.slots)
    (kk : AW M X R mc ms Q (kc + 1) (kn + k) (S ++ [.inr (.inl (1, k))]) (upC σ S.length (fun _ => 0)) pc2 L (.ref S.length :: st)) : AW M X R mc ms Q kc kn S σ pc L (.int n :: st) := by
  subst hp
  intro p l e s m args below meth c Z D N A ad0 n0 hC hK hA hX hR ad H locs ls hW hl
  have harr : (Cond.arrayClass .boolean).before args s = true := hC.2.2.2.2.1 _ gt_boolean
  have hbt : k * componentBytes .boolean ≤ 536870912 := by simp only [componentBytes]; omega
  have hcl : ∀ cA : ClassId, vp_cell cA (k, .inl (fun _ => 0)) = arrV cA k (fun _ => defaultValue .boolean) := fun cA => rfl
  refine va_newa (atype := .boolean) (ty := .boolean) (a0 := (k, .inl (fun _ => 0))) hC.1 hC.2.1 harr rfl hK hW.2.2.1 hW.2.2.2.1 hW.2.2.2.2 hA hcl hn hk hbt hroom.1 hroom.2 (tok_at hT ht).1 (fun q cA H1 hK1 hP hD hSS => ?_)
  have hcA := cls_Z hK hK1
  subst hcA
  have hN := hv
  simp only [Bool.and_eq_true] at hN
  have hvk : ∀ z : Nat, ∀ k, k < nv ∨ 777 ≤ k → va_up ad S.length z k = ad k := fun z k h => by
    have : ¬ k = S.length := by omega
    simp [va_up, this]
  have eq9 := cw_push (N := N) (ad := ad) (σ := σ) (q := q) (c := .inr (.inl (1, k))) hso trivial
  have h := kk p l e s m args below meth c Z D N A ad0 n0 hC hK hA hX hR (va_up ad S.length q) H1 locs ls ⟨by have := hW.1; simp; omega, ad_push hW.2.1 hW.1 hlen, ws_P (by rw [eq9]; rfl) hP, ws_D (by rw [eq9]; rfl) hD, hSS⟩ (by rw [vokL_eq hN.1 (hvk q)]; exact hl)
  rw [List.map_cons, vokS_eq hN.2 (hvk q)] at h
  have h9 : vc (va_up ad S.length q) (.ref S.length) = .ref q := by simp [vc, va_up]
  rw [h9] at h
  exact h
theorem aw_newq {M : MI} {X : EX} {R : Room} {mc ms : Nat} {Q : QT} {kc kn : Nat} {S : List SC} {σ : St} {pc : Nat} {L : LV} {st : List Value} {idx : Nat} {n : Int32} {k : Nat} {tab : List (Nat × TE)} {v0 : Int32} {v2 : Int64} (hT : tOK M.1.cls M.2.1 tab = true) (ht : tget tab pc = some (.anewarray idx, 3, v0, v2)) (pc2 : Nat) (hp : pc + 3 = pc2) (hlk : Cond.classLink M.1.cls idx RX0 ∈ gtbl) (hn : ¬ n < 0) (hk : n.toNatClampNeg = k) (hkb : k ≤ 1000) (nv : Nat) (hnv : nv ≤ S.length) (hv : (L.all (fun q => vok nv q.2) && st.all (vok nv)) = true) (hso : sokP S S.length) (hlen : S.length < 777) (hroom : kc + 1 ≤ R.cells ∧ kn + k ≤ R.slots)
    (kk : AW M X R mc ms Q (kc + 1) (kn + k) (S ++ [.inr (.inr (k, fun _ => none))]) (upC σ S.length (fun _ => 0)) pc2 L (.ref S.length :: st)) : AW M X R mc ms Q kc kn S σ pc L (.int n :: st) := by
  subst hp
  intro p l e s m args below meth c Z D N A ad0 n0 hC hK hA hX hR ad H locs ls hW hl
  refine va_newq (C := RX0) hC.1 hC.2.1 hC.2.2.2.1 (hC.2.2.2.2.1 _ hlk) hC.2.2.2.2.2.2.2 hK hW.2.2.1 hW.2.2.2.1 hW.2.2.2.2 hA hn hk (by omega) hroom.1 hroom.2 (tok_at hT ht).1 (fun q cA H1 hK1 hP hD hSS => ?_)
  have hcA := cls_L hK hK1
  subst hcA
  have hN := hv
  simp only [Bool.and_eq_true] at hN
  have hvk : ∀ z : Nat, ∀ k, k < nv ∨ 777 ≤ k → va_up ad S.length z k = ad k := fun z k h => by
    have : ¬ k = S.length := by omega
    simp [va_up, this]
  have eq9 := cw_push (N := N) (ad := ad) (σ := σ) (q := q) (c := .inr (.inr (k, fun _ => none))) hso (fun j k h => by cases h)
  have h := kk p l e s m args below meth c Z D N A ad0 n0 hC hK hA hX hR (va_up ad S.length q) H1 locs ls ⟨by have := hW.1; simp; omega, ad_push hW.2.1 hW.1 hlen, ws_P (by rw [eq9]; rfl) hP, ws_D (by rw [eq9]; rfl) hD, hSS⟩ (by rw [vokL_eq hN.1 (hvk q)]; exact hl)
  rw [List.map_cons, vokS_eq hN.2 (hvk q)] at h
  have h9 : vc (va_up ad S.length q) (.ref S.length) = .ref q := by simp [vc, va_up]
  rw [h9] at h
  exact h
theorem aw_objInit {M : MI} {X : EX} {R : Room} {mc ms : Nat} {Q : QT} {kc kn : Nat} {S : List SC} {σ : St} {pc : Nat} {L : LV} {st : List Value} {idx a : Nat} {tab : List (Nat × TE)} {v0 : Int32} {v2 : Int64} (hT : tOK M.1.cls M.2.1 tab = true) (ht : tget tab pc = some (.invokespecial idx, 3, v0, v2)) (pc2 : Nat) (hp : pc + 3 = pc2) (hk : LK M.1.cls idx objectInit) (hfr : 1 ≤ R.frames) (hlo : (st.map fun v => v.category).sum + 12 ≤ R.locals)
    (kk : AW M X R mc ms Q kc kn S σ pc2 L st) : AW M X R mc ms Q kc kn S σ pc L (.ref a :: st) := by
  subst hp
  intro p l e s m args below meth c Z D N A ad0 n0 hC hK hA hX hR ad H locs ls hW hl
  exact W.objInit (idx := idx) hC.1 hC.2.1 hC.2.2.2.1 (hC.2.2.2.2.1 _ hk) (hC.2.2.2.2.1 (.instanceMethod objectInit) (by decide +kernel)) (hC.2.2.2.2.1 (.code objectInit ⟨#[0xb1]⟩ 1 none) (by decide +kernel)) rfl (hl.1.trans hC.2.2.1.symm) rfl (tok_at hT ht).1 hfr (by rw [cat_eq]; simpa [JFrame.monitorRoom] using hlo) (kk p l e s m args below meth c Z D N A ad0 n0 hC hK hA hX hR ad H locs ls hW hl)
theorem aw_table {M : MI} {X : EX} {R : Room} {mc ms : Nat} {Q : QT} {kc kn : Nat} {S : List SC} {σ : St} {pc : Nat} {L : LV} {st : List Value} {dflt lo hi off : Int} {offs : Array Int} {len : Nat} {x : Int32} {tab : List (Nat × TE)} {v0 : Int32} {v2 : Int64} (hT : tOK M.1.cls M.2.1 tab = true) (ht : tget tab pc = some (.tableswitch dflt lo hi offs, len, v0, v2)) (h1 : ¬ x.toInt < lo) (h2 : ¬ hi < x.toInt) (ho : offs[(x.toInt - lo).toNat]? = some off) (tgt : Nat) (hj : (pc : Int) + off = (tgt : Int))
    (kk : AW M X R mc ms Q kc kn S σ tgt L st) : AW M X R mc ms Q kc kn S σ pc L (.int x :: st) := by
  intro p l e s m args below meth c Z D N A ad0 n0 hC hK hA hX hR ad H locs ls hW hl
  exact lv_tableIn hC.1 hC.2.1 (tok_at hT ht).1 h1 h2 ho hj (kk p l e s m args below meth c Z D N A ad0 n0 hC hK hA hX hR ad H locs ls hW hl)
theorem aw_tableD {M : MI} {X : EX} {R : Room} {mc ms : Nat} {Q : QT} {kc kn : Nat} {S : List SC} {σ : St} {pc : Nat} {L : LV} {st : List Value} {dflt lo hi : Int} {offs : Array Int} {len : Nat} {x : Int32} {tab : List (Nat × TE)} {v0 : Int32} {v2 : Int64} (hT : tOK M.1.cls M.2.1 tab = true) (ht : tget tab pc = some (.tableswitch dflt lo hi offs, len, v0, v2)) (h1 : x.toInt < lo ∨ hi < x.toInt) (tgt : Nat) (hj : (pc : Int) + dflt = (tgt : Int))
    (kk : AW M X R mc ms Q kc kn S σ tgt L st) : AW M X R mc ms Q kc kn S σ pc L (.int x :: st) := by
  intro p l e s m args below meth c Z D N A ad0 n0 hC hK hA hX hR ad H locs ls hW hl
  exact lv_tableOut hC.1 hC.2.1 (tok_at hT ht).1 h1 hj (kk p l e s m args below meth c Z D N A ad0 n0 hC hK hA hX hR ad H locs ls hW hl)
theorem aw_lookup {M : MI} {X : EX} {R : Room} {mc ms : Nat} {Q : QT} {kc kn : Nat} {S : List SC} {σ : St} {pc : Nat} {L : LV} {st : List Value} {dflt off : Int} {ps : Array (Int × Int)} {len : Nat} {x : Int32} {tab : List (Nat × TE)} {v0 : Int32} {v2 : Int64} (hT : tOK M.1.cls M.2.1 tab = true) (ht : tget tab pc = some (.lookupswitch dflt ps, len, v0, v2)) (hp : (ps.toList.zip (ps.toList.drop 1)).all (fun (a, next) => a.1 < next.1) = true) (ho : Op.lookupswitch.offset ps.toList dflt x.toInt = off) (tgt : Nat) (hj : (pc : Int) + off = (tgt : Int))
    (kk : AW M X R mc ms Q kc kn S σ tgt L st) : AW M X R mc ms Q kc kn S σ pc L (.int x :: st) := by
  intro p l e s m args below meth c Z D N A ad0 n0 hC hK hA hX hR ad H locs ls hW hl
  exact lv_lookup hC.1 hC.2.1 (tok_at hT ht).1 hp ho hj (kk p l e s m args below meth c Z D N A ad0 n0 hC hK hA hX hR ad H locs ls hW hl)
/-! the law's own script, at the logical address 777 -/
def XS (b n : Nat) (xs : Nat → Int32) : EX := fun s A ad0 => ad0 777 = b ∧ va_X b n xs s s.heap ∧ b < s.heap.size ∧ ¬ A b
theorem aw_sld {M : MI} {b n : Nat} {xs : Nat → Int32} {R : Room} {mc ms : Nat} {Q : QT} {kc kn : Nat} {S : List SC} {σ : St} {pc : Nat} {L : LV} {st : List Value} {i : Int32} {tab : List (Nat × TE)} {v0 : Int32} {v2 : Int64} (hT : tOK M.1.cls M.2.1 tab = true) (ht : tget tab pc = some (.iaload, 1, v0, v2)) (pc2 : Nat) (hp : pc + 1 = pc2) (hi : vp_in i n)
    (kk : AW M (XS b n xs) R mc ms Q kc kn S σ pc2 L (.int (xs i.toNatClampNeg) :: st)) : AW M (XS b n xs) R mc ms Q kc kn S σ pc L (.int i :: .ref 777 :: st) := by
  subst hp
  intro p l e s m args below meth c Z D N A ad0 n0 hC hK hA hX hR ad H locs ls hW hl
  have hb9 : ad 777 = b := (hW.2.1 777 (Or.inr (Nat.le_refl _))).trans hX.1
  have h := va_sld (pc := pc) (ls := ls) (rest := st.map (vc ad)) (p := p) (l := l) (e := e) (R := R) (m := m) (args := args) (below := below) (meth := meth) (c := c) (cells := kc) (slots := kn) (Q := Z) hC.1 hC.2.1 hX.2.1 hX.2.2.1 hX.2.2.2 hW.2.2.2.2 hi (tok_at hT ht).1 (kk p l e s m args below meth c Z D N A ad0 n0 hC hK hA hX hR ad H locs ls hW hl)
  rw [← hb9] at h
  exact h
theorem aw_slen {M : MI} {b n : Nat} {xs : Nat → Int32} {R : Room} {mc ms : Nat} {Q : QT} {kc kn : Nat} {S : List SC} {σ : St} {pc : Nat} {L : LV} {st : List Value} {tab : List (Nat × TE)} {v0 : Int32} {v2 : Int64} (hT : tOK M.1.cls M.2.1 tab = true) (ht : tget tab pc = some (.arraylength, 1, v0, v2)) (pc2 : Nat) (hp : pc + 1 = pc2)
    (kk : AW M (XS b n xs) R mc ms Q kc kn S σ pc2 L (.int (Int32.ofNat n) :: st)) : AW M (XS b n xs) R mc ms Q kc kn S σ pc L (.ref 777 :: st) := by
  subst hp
  intro p l e s m args below meth c Z D N A ad0 n0 hC hK hA hX hR ad H locs ls hW hl
  have hb9 : ad 777 = b := (hW.2.1 777 (Or.inr (Nat.le_refl _))).trans hX.1
  have h := va_slen (pc := pc) (ls := ls) (rest := st.map (vc ad)) (p := p) (l := l) (e := e) (R := R) (m := m) (args := args) (below := below) (meth := meth) (c := c) (cells := kc) (slots := kn) (Q := Z) hC.1 hC.2.1 hX.2.1 hX.2.2.1 hX.2.2.2 hW.2.2.2.2 (tok_at hT ht).1 (kk p l e s m args below meth c Z D N A ad0 n0 hC hK hA hX hR ad H locs ls hW hl)
  rw [← hb9] at h
  exact h
