/-! ===== calls: a method's contract over the whole world ===== -/
def QC (D : va_G) (N : N3) (ad0 : Nat → Nat) (n0 : Nat) (A : Nat → Prop) (Q : QT) : Array Value → State → Outcome → State → Prop := fun _ st oc t =>
  (∃ (v : Option Value) (S : List SC) (σ : St) (ad : Nat → Nat), oc = .returned (v.map (vc ad)) ∧ Q v S σ ∧ n0 ≤ S.length ∧ (∀ k, k < n0 ∨ 777 ≤ k → ad k = ad0 k) ∧ va_P D vwCl (cw N ad S σ) t.heap ∧ va_D A (cw N ad S σ)) ∧ va_F A st t
def Pr (D : va_G) (N : N3) (ad : Nat → Nat) (S : List SC) (σ : St) (sz : Nat) (av : List Value) : Array Value → State → Prop := va_Pc (av.map (vc ad)) (fun U => U.heap.size = sz ∧ va_P D vwCl (cw N ad S σ) U.heap ∧ va_K D vwCl (tys3 N) U ∧ va_D (fun _ => True) (cw N ad S σ) ∧ NW U)
def Sp (M : MI) (rm : Room) (mc ms : Nat) (av : List Value) (S : List SC) (σ : St) (Q : QT) : Prop :=
  ∀ (l : Launch) (D : va_G) (N : N3) (ad : Nat → Nat) (sz : Nat), Met l M.1 (mwords M) rm (Pr D N ad S σ sz av) (QC D N ad S.length (va_A (cw N ad S σ) sz) Q) mc ms (va_A (cw N ad S σ) sz)
theorem lv_args_con (ad : Nat → Nat) (av : List Value) : ∀ i, lv_args i (av.map (vc ad)) = conL ad (lv_args i av) := by
  induction av with
  | nil => intro i; rfl
  | cons v vs ih =>
    intro i
    show (i, vc ad v) :: lv_args (if (vc ad v).category = 2 then i + 2 else i + 1) (vs.map (vc ad)) = (i, vc ad v) :: conL ad (lv_args (if v.category = 2 then i + 2 else i + 1) vs)
    rw [vc_cat, ih]
theorem lg_sl_con (ad : Nat → Nat) (av : List Value) : (lg_sl (av.map (vc ad))).length = (lg_sl av).length := by
  induction av with
  | nil => rfl
  | cons v vs ih =>
    simp only [lg_sl, List.map_cons, List.flatMap_cons, List.length_append] at ih ⊢
    rw [ih, vc_cat]
    by_cases h : v.category = 2 <;> simp [h]
theorem NW.warm {s U : State} (hW : s.WarmedH U.vm) (h : NW s) : NW U := ⟨fun q hq => va_Nw.warmM hW (h.1 q hq), va_AO.moved hW.alike h.2⟩
theorem Sp.of {M : MI} {rm : Room} {mc ms : Nat} {av : List Value} {S : List SC} {σ : St} {Q : QT} (hy : plainName M.1.cls = true) (hlen : (lg_sl av).length ≤ M.2.2.1) (h : AW M (fun _ _ _ => True) rm mc ms Q 0 0 S σ 0 (lv_args 0 av) []) : Sp M rm mc ms av S σ Q := by
  intro l D N ad sz
  refine Met.ofW (cc := M.2.1) (maxL := M.2.2.1) (ret := M.2.2.2) hy rfl ?_
  intro p e s m args below meth c s₁ B hml hv
  obtain ⟨rfl, hsz, hP, hK, hD0, hN⟩ := hv
  subst hsz
  have hts := atoms_spec (ws := mwords M) B.pre
  have hl := lv_entry (av.map (vc ad)) (n := M.2.2.1) (by rw [lg_sl_con]; exact hlen)
  rw [lg_entry_eq]
  rw [lv_args_con] at hl
  refine h p l e s m _ below meth c _ D N (va_A (cw N ad S σ) s.heap.size) ad S.length ⟨B.exec, B.bytes, hml, findClass_of_methodNamed B.named, fun w hw => hts w (List.mem_cons_of_mem _ hw), (name_of_methodNamed B.named B.method).1, hN⟩ hK (fun q h => Or.inr h) trivial ?_ ad s.heap [] _ ⟨Nat.le_refl _, fun _ _ => rfl, hP, hD0.self, va_S.rf⟩ hl
  intro v S' σ' ad' H locs ls pc kc kn hq hW hc hs hr
  have hlocks := B.notSynchronized
  refine W.widen hc hs ?_
  match v, hr, hq with
  | none, hr, hq =>
    refine W.vret B.exec B.bytes (B.returns.trans hr.2) (fun t ht hWt => ⟨⟨none, S', σ', ad', rfl, hq, hW.1, hW.2.1, by rw [ht]; exact hW.2.2.1, hW.2.2.2.1⟩, hW.2.2.2.2.F ht⟩) hW.2.2.2.2.2.2 hr.1
  | some (.int x), hr, hq =>
    obtain ⟨h1, ty, h2, h3⟩ := hr
    refine W.zret B.exec B.bytes (B.returns.trans h2) h3 (fun t ht hWt => ⟨⟨some (.int x), S', σ', ad', rfl, hq, hW.1, hW.2.1, by rw [ht]; exact hW.2.2.1, hW.2.2.2.1⟩, hW.2.2.2.2.F ht⟩) hW.2.2.2.2.2.2 h1
  | some (.long x), hr, hq =>
    refine W.lret B.exec B.bytes (B.returns.trans hr.2) (fun t ht hWt => ⟨⟨some (.long x), S', σ', ad', rfl, hq, hW.1, hW.2.1, by rw [ht]; exact hW.2.2.1, hW.2.2.2.1⟩, hW.2.2.2.2.F ht⟩) hW.2.2.2.2.2.2 hr.1
  | some (.float _), hr, _ => exact hr.elim
  | some (.double _), hr, _ => exact hr.elim
  | some .null, hr, _ => exact hr.elim
  | some (.ref _), hr, _ => exact hr.elim
  | some (.retAddr _), hr, _ => exact hr.elim
theorem after {p : Program} {l : Launch} {e : Env} {R : Room} {s : State} {m : MethodId} {args : Array Value} {below : List Frame} {meth : Method} {c : Code} {H : Heap} {locs : List Loc} {kc kn mc' ms' : Nat} {Z : State → Prop} {pc : Nat} {ls : Array Slot} {D : va_G} {N : N3} {A : Nat → Prop} {ad0 ad : Nat → Nat} {n0 : Nat} {S : List SC} {σ : St} {st0 rest : List Value} {Q' : QT} {a' : Array Value}
    (hr : va_Run p l e R s m args below meth c H locs kc kn mc' ms' (F0 m pc ls st0) (rest.map (vc ad)) (QC D N ad S.length (va_A (cw N ad S σ) H.size) Q' a') (va_A (cw N ad S σ) H.size))
    (hA : ∀ q, s.heap.size ≤ q → A q) (hW : WS D N A s ad0 n0 ad S σ H locs)
    (kk : ∀ (v : Option Value) (S' : List SC) (σ' : St) (ad' : Nat → Nat) (H1 : Heap) (locs1 : List Loc), Q' v S' σ' → S.length ≤ S'.length → (∀ k, k < S.length ∨ 777 ≤ k → ad' k = ad k) → WS D N A s ad0 n0 ad' S' σ' H1 locs1 → W p l e R s m args below meth c H1 locs1 (kc + mc') (kn + ms') Z (F0 m (pc + 3) ls ((v.map (vc ad')).toList ++ rest.map (vc ad)))) :
    W p l e R s m args below meth c H locs kc kn Z (F0 m pc ls st0) := by
  intro T hT X
  obtain ⟨v1, st₀, t, T', L, h0, X', hL, e1, e2, ⟨⟨v, S', σ', ad', hv, hq, hn, had, hP, hD⟩, hz, hk⟩, stp⟩ := hr T hT X
  cases hv
  rw [h0] at hz hk
  have hF : ∀ q, va_A (cw N ad S σ) H.size q → A q := by
    rintro q (⟨k, ee, h⟩ | h)
    · exact hW.2.2.2.1.2 k (q, ee) h
    · exact hA q (Nat.le_trans hW.2.2.2.2.1 h)
  have hS := hW.2.2.2.2
  obtain ⟨t2, a1, b1⟩ := kk v S' σ' ad' T'.heap (locs ++ L) hq hn had
    ⟨Nat.le_trans hW.1 hn, fun k h => (had k (h.imp_left (fun h => Nat.lt_of_lt_of_le h hW.1))).trans (hW.2.1 k h), by rw [e1]; exact hP, hD.weaken (fun _ q _ h => hF q.1 h),
      Nat.le_trans hS.1 (by rw [e1]; exact hz), fun q h1 h2 => by rw [e1, hk q (Nat.lt_of_lt_of_le h1 hS.1) (fun z => h2 (hF q z))]; exact hS.2.1 q h1 h2, fun q hq => by
        rcases List.mem_append.mp hq with h | h
        · exact hS.2.2 q h
        · exact hF _ (hL q h)⟩ T' rfl X'
  exact ⟨t2, stp t2 a1, b1⟩
def vok (n : Nat) (v : Value) : Bool := match v with
  | .ref k => Nat.blt k n || Nat.ble 777 k
  | _ => true
theorem vok_eq {n : Nat} {v : Value} {ad ad' : Nat → Nat} (h : vok n v = true) (ha : ∀ k, k < n ∨ 777 ≤ k → ad' k = ad k) : vc ad' v = vc ad v := by
  cases v with
  | ref k =>
    show Value.ref (ad' k) = Value.ref (ad k)
    simp only [vok, Bool.or_eq_true] at h
    rw [ha k (h.imp Nat.le_of_ble_eq_true Nat.le_of_ble_eq_true)]
  | _ => rfl
theorem vokL_eq {n : Nat} {L : LV} {ad ad' : Nat → Nat} (h : L.all (fun q => vok n q.2) = true) (ha : ∀ k, k < n ∨ 777 ≤ k → ad' k = ad k) : conL ad' L = conL ad L := by
  apply List.map_congr_left
  intro q hq
  rw [vok_eq (List.all_eq_true.mp h q hq) ha]
theorem vokS_eq {n : Nat} {st : List Value} {ad ad' : Nat → Nat} (h : st.all (vok n) = true) (ha : ∀ k, k < n ∨ 777 ≤ k → ad' k = ad k) : st.map (vc ad') = st.map (vc ad) := by
  apply List.map_congr_left
  intro q hq
  exact vok_eq (List.all_eq_true.mp h q hq) ha
theorem mw_good {M : MI} (hc : Cond.code M.1 M.2.1 M.2.2.1 M.2.2.2 ∈ gtbl) : GoodIn gtbl (mwords M) := by
  intro w hw
  rcases List.mem_cons.mp hw with rfl | hw
  · exact ⟨hc, good_of_word (gt_good _ hc)⟩
  · exact ⟨hw, good_of_word (gt_good _ hw)⟩
theorem Pr.blind {D : va_G} {N : N3} {ad : Nat → Nat} {S : List SC} {σ : St} {sz : Nat} {av : List Value} : FrameBlind (Pr D N ad S σ sz av) := by
  intro a U g mk q
  obtain ⟨q0, q1, qP, qK, qD, qN⟩ := q
  exact ⟨q0, q1, qP, va_K.moved (u := U) (U := U.calling g mk a) (Vm.Alike.refl U.vm) qK, qD, ⟨fun w hw => va_Nw.same rfl (u := U) (U := U.calling g mk a) rfl (qN.1 w hw), va_AO.moved (u := U) (U := U.calling g mk a) (Vm.Alike.refl U.vm) qN.2⟩⟩
/-- a method's own words -/
def MV (M : MI) (n : Nat) : Prop := Cond.instanceMethod M.1 ∈ gtbl ∧ Cond.selects M.1.cls M.1 M.1 ∈ gtbl ∧ Cond.initialized M.1.cls ∈ gtbl ∧ Cond.code M.1 M.2.1 M.2.2.1 M.2.2.2 ∈ gtbl ∧ M.1.cls ≠ "java/lang/invoke/MethodHandle" ∧ M.1.cls ≠ "java/lang/invoke/VarHandle" ∧ (parseMethodDescriptor M.1.desc).map (fun d => d.parameters.length) = some n
def MSt (M : MI) (n : Nat) : Prop := Cond.static M.1 ∈ gtbl ∧ Cond.initialized M.1.cls ∈ gtbl ∧ Cond.code M.1 M.2.1 M.2.2.1 M.2.2.2 ∈ gtbl ∧ M.1.cls ≠ "java/lang/invoke/MethodHandle" ∧ M.1.cls ≠ "java/lang/invoke/VarHandle" ∧ (parseMethodDescriptor M.1.desc).map (fun d => d.parameters.length) = some n
def MIn (M : MI) (n : Nat) : Prop := Cond.instanceMethod M.1 ∈ gtbl ∧ Cond.initialized M.1.cls ∈ gtbl ∧ Cond.code M.1 M.2.1 M.2.2.1 M.2.2.2 ∈ gtbl ∧ M.1.name = "<init>" ∧ M.2.2.2 = none ∧ M.1.cls ≠ "java/lang/invoke/MethodHandle" ∧ M.1.cls ≠ "java/lang/invoke/VarHandle" ∧ (parseMethodDescriptor M.1.desc).map (fun d => d.parameters.length) = some n
def LK (own : String) (idx : Nat) (y : MethodName) : Prop := Cond.methodLink own idx y ∈ gtbl
def rmOK (rm R : Room) (M : MI) (mc ms kc kn : Nat) : Prop := rm.cells = mc ∧ rm.slots = ms ∧ (rm.frames + 1 ≤ R.frames ∧ 8 + (M.2.2.1 + 11) + rm.locals ≤ R.locals) ∧ (kc + mc ≤ R.cells ∧ kn + ms ≤ R.slots)
theorem stk_eq (ad : Nat → Nat) (av rest : List Value) : (av.reverse ++ rest).map (vc ad) = (av.map (vc ad)).reverse ++ rest.map (vc ad) := by simp
theorem cat_eq (ad : Nat → Nat) (rest : List Value) : ((rest.map (vc ad)).map fun v => v.category).sum = (rest.map fun v => v.category).sum := by
  rw [List.map_map, show ((fun v : Value => v.category) ∘ vc ad) = (fun v => v.category) from funext (vc_cat ad)]
theorem aw_callV {M : MI} {X : EX} {R : Room} {mc ms : Nat} {Q : QT} {kc kn : Nat} {S : List SC} {σ : St} {pc : Nat} {L : LV} {st : List Value} {idx n mc' ms' : Nat} {M' : MI} {rm : Room} {av rest : List Value} {Q' : QT} {tab : List (Nat × TE)} {v0 : Int32} {v2 : Int64} (hT : tOK M.1.cls M.2.1 tab = true) (ht : tget tab pc = some (.invokevirtual idx, 3, v0, v2)) (pc2 : Nat) (hp : pc + 3 = pc2) {a ci : Nat} {fr : List (Option (Option Nat))} (hst : st = av.reverse ++ .ref a :: rest) (hk : LK M.1.cls idx M'.1) (hM : MV M' n) (hn : av.length = n) (hS : S[a]? = some (.inl (ci, fr))) (hcl : ∃ T k, vwCl[ci]? = some (M'.1.cls, T, k)) (hsp : Sp M' rm mc' ms' (.ref a :: av) S σ Q')
    (hrm : rmOK rm R M' mc' ms' kc kn) (hcat : (rest.map fun v => v.category).sum ≤ 8) (nv : Nat) (hnv : nv ≤ S.length) (hv : (L.all (fun q => vok nv q.2) && rest.all (vok nv)) = true)
    (kk : ∀ (v : Option Value) (S' : List SC) (σ' : St), Q' v S' σ' → AW M X R mc ms Q (kc + mc') (kn + ms') S' σ' pc2 L (v.toList ++ rest)) : AW M X R mc ms Q kc kn S σ pc L st := by
  subst hst; subst hp
  simp only [Bool.and_eq_true] at hv
  intro p l e s m args below meth c Z D N A ad0 n0 hC hK hA hX hR ad H locs ls hW hl
  have hPr : ∀ U : State, U.heap = H → s.WarmedH U.vm → Pr D N ad S σ H.size (.ref a :: av) (((.ref a :: av)).map (vc ad)).toArray U := fun U hU hWU => ⟨rfl, by rw [hU], by rw [hU]; exact hW.2.2.1, va_K.moved hWU.alike hK, hW.2.2.2.1.weaken (fun _ _ _ _ => trivial), NW.warm hWU hC.2.2.2.2.2.2⟩
  obtain ⟨m1, m2, m3, m4, m5, m6, m7⟩ := hM
  obtain ⟨T0, k0, hcl⟩ := hcl
  have hG : GoodIn gtbl (wsV M.1.cls idx M'.1.cls M'.1 (mwords M')) := by
    intro w hw
    rcases List.mem_append.mp hw with h | h
    · simp only [List.mem_cons, List.not_mem_nil, or_false] at h
      rcases h with rfl | rfl | rfl | rfl
      · exact ⟨hk, good_of_word (gt_good _ hk)⟩
      · exact ⟨m1, good_of_word (gt_good _ m1)⟩
      · exact ⟨m2, good_of_word (gt_good _ m2)⟩
      · exact ⟨m3, good_of_word (gt_good _ m3)⟩
    · exact mw_good m4 w h
  have hrun := va_runV (p := p) (l := l) (e := e) (below := below) (meth := meth) (locs := locs) (cells := kc) (slots := kn) (g := F0 m pc ls ((av.reverse ++ .ref a :: rest).map (vc ad))) (As := av.map (vc ad)) (rest := rest.map (vc ad)) (b := ad a) (nL := M.2.2.1) (Ts := gtbl) ⟨hC.1, hC.2.1, hC.2.2.1, hC.2.2.2.1, hC.2.2.2.2.1⟩ (hsp l D N ad H.size) (cwV n hC.2.2.2.2.1 hG rfl hrm.1 hrm.2.1 ⟨rfl, m5, m6, m7⟩ hrm.2.2.1) ⟨Pr.blind, va_recv hK hW.2.2.1 hcl (cw_at hS), hPr⟩ rfl (by rw [List.length_map]; exact hn) hl.1 (stk_eq ad av (.ref a :: rest)) (lv_room (by rw [cat_eq]; exact hcat)) (tok_at hT ht).1 hrm.2.2.2
  refine after (ad := ad) (S := S) (σ := σ) (rest := rest) hrun hA hW (fun v S' σ' ad' H1 locs1 hq hn' had hW' => ?_)
  have had' : ∀ k, k < nv ∨ 777 ≤ k → ad' k = ad k := fun k h => had k (h.imp_left (fun h => Nat.lt_of_lt_of_le h hnv))
  have hl' : lv_has ls M.2.2.1 (conL ad' L) := by rw [vokL_eq hv.1 had']; exact hl
  have h := kk v S' σ' hq p l e s m args below meth c Z D N A ad0 n0 hC hK hA hX hR ad' H1 locs1 ls hW' hl'
  have eq9 : (v.toList ++ rest).map (vc ad') = (v.map (vc ad')).toList ++ rest.map (vc ad) := by
    rw [List.map_append, vokS_eq hv.2 had']
    cases v <;> rfl
  rw [eq9] at h
  exact h
theorem aw_callS {M : MI} {X : EX} {R : Room} {mc ms : Nat} {Q : QT} {kc kn : Nat} {S : List SC} {σ : St} {pc : Nat} {L : LV} {st : List Value} {idx n mc' ms' : Nat} {M' : MI} {rm : Room} {av rest : List Value} {Q' : QT} {tab : List (Nat × TE)} {v0 : Int32} {v2 : Int64} (hT : tOK M.1.cls M.2.1 tab = true) (ht : tget tab pc = some (.invokestatic idx, 3, v0, v2)) (pc2 : Nat) (hp : pc + 3 = pc2) (hst : st = av.reverse ++ rest) (hk : LK M.1.cls idx M'.1) (hM : MSt M' n) (hn : av.length = n) (hsp : Sp M' rm mc' ms' av S σ Q')
    (hrm : rmOK rm R M' mc' ms' kc kn) (hcat : (rest.map fun v => v.category).sum ≤ 8) (nv : Nat) (hnv : nv ≤ S.length) (hv : (L.all (fun q => vok nv q.2) && rest.all (vok nv)) = true)
    (kk : ∀ (v : Option Value) (S' : List SC) (σ' : St), Q' v S' σ' → AW M X R mc ms Q (kc + mc') (kn + ms') S' σ' pc2 L (v.toList ++ rest)) : AW M X R mc ms Q kc kn S σ pc L st := by
  subst hst; subst hp
  simp only [Bool.and_eq_true] at hv
  intro p l e s m args below meth c Z D N A ad0 n0 hC hK hA hX hR ad H locs ls hW hl
  have hPr : ∀ U : State, U.heap = H → s.WarmedH U.vm → Pr D N ad S σ H.size av ((av).map (vc ad)).toArray U := fun U hU hWU => ⟨rfl, by rw [hU], by rw [hU]; exact hW.2.2.1, va_K.moved hWU.alike hK, hW.2.2.2.1.weaken (fun _ _ _ _ => trivial), NW.warm hWU hC.2.2.2.2.2.2⟩
  obtain ⟨m1, m3, m4, m5, m6, m7⟩ := hM
  have hG : GoodIn gtbl (va_wsS M.1.cls idx M'.1 (mwords M')) := by
    intro w hw
    rcases List.mem_append.mp hw with h | h
    · simp only [List.mem_cons, List.not_mem_nil, or_false] at h
      rcases h with rfl | rfl | rfl
      · exact ⟨hk, good_of_word (gt_good _ hk)⟩
      · exact ⟨m1, good_of_word (gt_good _ m1)⟩
      · exact ⟨m3, good_of_word (gt_good _ m3)⟩
    · exact mw_good m4 w h
  have hrun := va_runS (p := p) (l := l) (e := e) (below := below) (meth := meth) (locs := locs) (cells := kc) (slots := kn) (g := F0 m pc ls ((av.reverse ++ rest).map (vc ad))) (As := av.map (vc ad)) (rest := rest.map (vc ad)) (nL := M.2.2.1) (Ts := gtbl) ⟨hC.1, hC.2.1, hC.2.2.1, hC.2.2.2.1, hC.2.2.2.2.1⟩ (hsp l D N ad H.size) (va_cwS n hC.2.2.2.2.1 hG rfl hrm.1 hrm.2.1 ⟨m5, m6, m7⟩ hrm.2.2.1) ⟨Pr.blind, hPr⟩ rfl (by rw [List.length_map]; exact hn) hl.1 (stk_eq ad av rest) (lv_room (by rw [cat_eq]; exact hcat)) (tok_at hT ht).1 hrm.2.2.2
  refine after (ad := ad) (S := S) (σ := σ) (rest := rest) hrun hA hW (fun v S' σ' ad' H1 locs1 hq hn' had hW' => ?_)
  have had' : ∀ k, k < nv ∨ 777 ≤ k → ad' k = ad k := fun k h => had k (h.imp_left (fun h => Nat.lt_of_lt_of_le h hnv))
  have hl' : lv_has ls M.2.2.1 (conL ad' L) := by rw [vokL_eq hv.1 had']; exact hl
  have h := kk v S' σ' hq p l e s m args below meth c Z D N A ad0 n0 hC hK hA hX hR ad' H1 locs1 ls hW' hl'
  have eq9 : (v.toList ++ rest).map (vc ad') = (v.map (vc ad')).toList ++ rest.map (vc ad) := by
    rw [List.map_append, vokS_eq hv.2 had']
    cases v <;> rfl
  rw [eq9] at h
  exact h
theorem aw_callSN {M : MI} {X : EX} {R : Room} {mc ms : Nat} {Q : QT} {kc kn : Nat} {S : List SC} {σ : St} {pc : Nat} {L : LV} {st : List Value} {idx n mc' ms' : Nat} {M' : MI} {rm : Room} {av rest : List Value} {Q' : QT} {tab : List (Nat × TE)} {v0 : Int32} {v2 : Int64} (hT : tOK M.1.cls M.2.1 tab = true) (ht : tget tab pc = some (.invokestatic idx, 3, v0, v2)) (pc2 : Nat) (hp : pc + 3 = pc2) {host : String} (hst : st = av.reverse ++ rest) (hk : (M.1.cls, idx, M'.1, host) ∈ nestL) (hM : MSt M' n) (hn : av.length = n) (hsp : Sp M' rm mc' ms' av S σ Q')
    (hrm : rmOK rm R M' mc' ms' kc kn) (hcat : (rest.map fun v => v.category).sum ≤ 8) (nv : Nat) (hnv : nv ≤ S.length) (hv : (L.all (fun q => vok nv q.2) && rest.all (vok nv)) = true)
    (kk : ∀ (v : Option Value) (S' : List SC) (σ' : St), Q' v S' σ' → AW M X R mc ms Q (kc + mc') (kn + ms') S' σ' pc2 L (v.toList ++ rest)) : AW M X R mc ms Q kc kn S σ pc L st := by
  subst hst; subst hp
  simp only [Bool.and_eq_true] at hv
  intro p l e s m args below meth c Z D N A ad0 n0 hC hK hA hX hR ad H locs ls hW hl
  have hPr : ∀ U : State, U.heap = H → s.WarmedH U.vm → Pr D N ad S σ H.size av ((av).map (vc ad)).toArray U := fun U hU hWU => ⟨rfl, by rw [hU], by rw [hU]; exact hW.2.2.1, va_K.moved hWU.alike hK, hW.2.2.2.1.weaken (fun _ _ _ _ => trivial), NW.warm hWU hC.2.2.2.2.2.2⟩
  obtain ⟨m1, m3, m4, m5, m6, m7⟩ := hM
  have hrun := va_runSN (p := p) (l := l) (e := e) (below := below) (meth := meth) (locs := locs) (cells := kc) (slots := kn) (g := F0 m pc ls ((av.reverse ++ rest).map (vc ad))) (As := av.map (vc ad)) (rest := rest.map (vc ad)) (nL := M.2.2.1) (Ts := gtbl) ⟨hC.1, hC.2.1, hC.2.2.1, hC.2.2.2.1, hC.2.2.2.2.1⟩ (hsp l D N ad H.size) ⟨va_cnB n hC.2.2.2.2.1 (mw_good m4) rfl hrm.1 hrm.2.1 (hC.2.2.2.2.2.2.1 _ hk) (hC.2.2.2.2.1 _ m3) ⟨m5, m6, m7⟩ hrm.2.2.1, hC.2.2.2.2.1 _ m1, trivial⟩ ⟨Pr.blind, hPr⟩ rfl (by rw [List.length_map]; exact hn) hl.1 (stk_eq ad av rest) (lv_room (by rw [cat_eq]; exact hcat)) (tok_at hT ht).1 hrm.2.2.2
  refine after (ad := ad) (S := S) (σ := σ) (rest := rest) hrun hA hW (fun v S' σ' ad' H1 locs1 hq hn' had hW' => ?_)
  have had' : ∀ k, k < nv ∨ 777 ≤ k → ad' k = ad k := fun k h => had k (h.imp_left (fun h => Nat.lt_of_lt_of_le h hnv))
  have hl' : lv_has ls M.2.2.1 (conL ad' L) := by rw [vokL_eq hv.1 had']; exact hl
  have h := kk v S' σ' hq p l e s m args below meth c Z D N A ad0 n0 hC hK hA hX hR ad' H1 locs1 ls hW' hl'
  have eq9 : (v.toList ++ rest).map (vc ad') = (v.map (vc ad')).toList ++ rest.map (vc ad) := by
    rw [List.map_append, vokS_eq hv.2 had']
    cases v <;> rfl
  rw [eq9] at h
  exact h
theorem aw_callI {M : MI} {X : EX} {R : Room} {mc ms : Nat} {Q : QT} {kc kn : Nat} {S : List SC} {σ : St} {pc : Nat} {L : LV} {st : List Value} {idx n mc' ms' : Nat} {M' : MI} {rm : Room} {av rest : List Value} {Q' : QT} {tab : List (Nat × TE)} {v0 : Int32} {v2 : Int64} (hT : tOK M.1.cls M.2.1 tab = true) (ht : tget tab pc = some (.invokespecial idx, 3, v0, v2)) (pc2 : Nat) (hp : pc + 3 = pc2) {a : Nat} (hst : st = av.reverse ++ .ref a :: rest) (hk : LK M.1.cls idx M'.1) (hM : MIn M' n) (hn : av.length = n) (hsp : Sp M' rm mc' ms' (.ref a :: av) S σ Q')
    (hrm : rmOK rm R M' mc' ms' kc kn) (hcat : (rest.map fun v => v.category).sum ≤ 8) (nv : Nat) (hnv : nv ≤ S.length) (hv : (L.all (fun q => vok nv q.2) && rest.all (vok nv)) = true)
    (kk : ∀ (v : Option Value) (S' : List SC) (σ' : St), Q' v S' σ' → AW M X R mc ms Q (kc + mc') (kn + ms') S' σ' pc2 L (v.toList ++ rest)) : AW M X R mc ms Q kc kn S σ pc L st := by
  subst hst; subst hp
  simp only [Bool.and_eq_true] at hv
  intro p l e s m args below meth c Z D N A ad0 n0 hC hK hA hX hR ad H locs ls hW hl
  have hPr : ∀ U : State, U.heap = H → s.WarmedH U.vm → Pr D N ad S σ H.size (.ref a :: av) (((.ref a :: av)).map (vc ad)).toArray U := fun U hU hWU => ⟨rfl, by rw [hU], by rw [hU]; exact hW.2.2.1, va_K.moved hWU.alike hK, hW.2.2.2.1.weaken (fun _ _ _ _ => trivial), NW.warm hWU hC.2.2.2.2.2.2⟩
  obtain ⟨⟨y1, y2, y3, y4⟩⟩ := show Nonempty MI from ⟨M'⟩
  obtain ⟨m1, m3, m4, m0, mr, m5, m6, m7⟩ := hM
  have hrun := va_runI (p := p) (l := l) (e := e) (below := below) (meth := meth) (locs := locs) (cells := kc) (slots := kn) (g := F0 m pc ls ((av.reverse ++ .ref a :: rest).map (vc ad))) (As := av.map (vc ad)) (rest := rest.map (vc ad)) (b := ad a) (nL := M.2.2.1) (Ts := gtbl) ⟨hC.1, hC.2.1, hC.2.2.1, hC.2.2.2.1, hC.2.2.2.2.1⟩ (hsp l D N ad H.size) (cwI n hC.2.2.2.2.1 (mw_good m4) (by rw [mwords, mr]) hrm.1 hrm.2.1 (hC.2.2.2.2.1 _ m3) (hC.2.2.2.2.1 _ hk) (hC.2.2.2.2.1 _ m1) m0 ⟨m5, m6, m7⟩ hrm.2.2.1) ⟨Pr.blind, hPr⟩ rfl (by rw [List.length_map]; exact hn) hl.1 (stk_eq ad av (.ref a :: rest)) (lv_room (by rw [cat_eq]; exact hcat)) (tok_at hT ht).1 hrm.2.2.2
  refine after (ad := ad) (S := S) (σ := σ) (rest := rest) hrun hA hW (fun v S' σ' ad' H1 locs1 hq hn' had hW' => ?_)
  have had' : ∀ k, k < nv ∨ 777 ≤ k → ad' k = ad k := fun k h => had k (h.imp_left (fun h => Nat.lt_of_lt_of_le h hnv))
  have hl' : lv_has ls M.2.2.1 (conL ad' L) := by rw [vokL_eq hv.1 had']; exact hl
  have h := kk v S' σ' hq p l e s m args below meth c Z D N A ad0 n0 hC hK hA hX hR ad' H1 locs1 ls hW' hl'
  have eq9 : (v.toList ++ rest).map (vc ad') = (v.map (vc ad')).toList ++ rest.map (vc ad) := by
    rw [List.map_append, vokS_eq hv.2 had']
    cases v <;> rfl
  rw [eq9] at h
  exact h
theorem aw_callIN {M : MI} {X : EX} {R : Room} {mc ms : Nat} {Q : QT} {kc kn : Nat} {S : List SC} {σ : St} {pc : Nat} {L : LV} {st : List Value} {idx n mc' ms' : Nat} {M' : MI} {rm : Room} {av rest : List Value} {Q' : QT} {tab : List (Nat × TE)} {v0 : Int32} {v2 : Int64} (hT : tOK M.1.cls M.2.1 tab = true) (ht : tget tab pc = some (.invokespecial idx, 3, v0, v2)) (pc2 : Nat) (hp : pc + 3 = pc2) {a : Nat} {host : String} (hst : st = av.reverse ++ .ref a :: rest) (hk : (M.1.cls, idx, M'.1, host) ∈ nestL) (hM : MIn M' n) (hn : av.length = n) (hsp : Sp M' rm mc' ms' (.ref a :: av) S σ Q')
    (hrm : rmOK rm R M' mc' ms' kc kn) (hcat : (rest.map fun v => v.category).sum ≤ 8) (nv : Nat) (hnv : nv ≤ S.length) (hv : (L.all (fun q => vok nv q.2) && rest.all (vok nv)) = true)
    (kk : ∀ (v : Option Value) (S' : List SC) (σ' : St), Q' v S' σ' → AW M X R mc ms Q (kc + mc') (kn + ms') S' σ' pc2 L (v.toList ++ rest)) : AW M X R mc ms Q kc kn S σ pc L st := by
  subst hst; subst hp
  simp only [Bool.and_eq_true] at hv
  intro p l e s m args below meth c Z D N A ad0 n0 hC hK hA hX hR ad H locs ls hW hl
  have hPr : ∀ U : State, U.heap = H → s.WarmedH U.vm → Pr D N ad S σ H.size (.ref a :: av) (((.ref a :: av)).map (vc ad)).toArray U := fun U hU hWU => ⟨rfl, by rw [hU], by rw [hU]; exact hW.2.2.1, va_K.moved hWU.alike hK, hW.2.2.2.1.weaken (fun _ _ _ _ => trivial), NW.warm hWU hC.2.2.2.2.2.2⟩
  obtain ⟨m1, m3, m4, m0, mr, m5, m6, m7⟩ := hM
  have hrun := va_runIN (p := p) (l := l) (e := e) (below := below) (meth := meth) (locs := locs) (cells := kc) (slots := kn) (g := F0 m pc ls ((av.reverse ++ .ref a :: rest).map (vc ad))) (As := av.map (vc ad)) (rest := rest.map (vc ad)) (b := ad a) (nL := M.2.2.1) (Ts := gtbl) ⟨hC.1, hC.2.1, hC.2.2.1, hC.2.2.2.1, hC.2.2.2.2.1⟩ (hsp l D N ad H.size) ⟨va_cnB n hC.2.2.2.2.1 (mw_good m4) (by rw [mwords, mr]) hrm.1 hrm.2.1 (hC.2.2.2.2.2.2.1 _ hk) (hC.2.2.2.2.1 _ m3) ⟨m5, m6, m7⟩ hrm.2.2.1, m0, hC.2.2.2.2.1 _ m1⟩ ⟨Pr.blind, hPr⟩ rfl (by rw [List.length_map]; exact hn) hl.1 (stk_eq ad av (.ref a :: rest)) (lv_room (by rw [cat_eq]; exact hcat)) (tok_at hT ht).1 hrm.2.2.2
  refine after (ad := ad) (S := S) (σ := σ) (rest := rest) hrun hA hW (fun v S' σ' ad' H1 locs1 hq hn' had hW' => ?_)
  have had' : ∀ k, k < nv ∨ 777 ≤ k → ad' k = ad k := fun k h => had k (h.imp_left (fun h => Nat.lt_of_lt_of_le h hnv))
  have hl' : lv_has ls M.2.2.1 (conL ad' L) := by rw [vokL_eq hv.1 had']; exact hl
  have h := kk v S' σ' hq p l e s m args below meth c Z D N A ad0 n0 hC hK hA hX hR ad' H1 locs1 ls hW' hl'
  have eq9 : (v.toList ++ rest).map (vc ad') = (v.map (vc ad')).toList ++ rest.map (vc ad) := by
    rw [List.map_append, vokS_eq hv.2 had']
    cases v <;> rfl
  rw [eq9] at h
  exact h
