/-! ===== my own machine picture: a world of logical cells, a store of ints, and the judgement AW ===== -/
abbrev SC : Type := (Nat × List (Option (Option Nat))) ⊕ ((Nat × Nat) ⊕ (Nat × (Nat → Option Nat)))
abbrev St : Type := Nat → Nat → Int32
abbrev N3 : Type := ClassId × ClassId × ClassId
abbrev LV : Type := List (Nat × Value)
def tys3 (N : N3) : List (ClassId × FieldType) := [(N.1, .int), (N.2.1, .boolean), (N.2.2, .object RX0)]
def vc (ad : Nat → Nat) (v : Value) : Value := match v with
  | .ref k => .ref (ad k)
  | v => v
theorem vc_int (ad : Nat → Nat) (x : Int32) : vc ad (.int x) = .int x := rfl
theorem vc_cat (ad : Nat → Nat) (v : Value) : (vc ad v).category = v.category := by cases v <;> rfl
def fv (ad : Nat → Nat) (r : Nat → Int32) (k : Nat) (f : Option (Option Nat)) : Value := match f with
  | none => .int (r k)
  | some q => va_rf (q.map ad)
def ce (N : N3) (ad : Nat → Nat) (r : Nat → Int32) (c : SC) : va_E := match c with
  | .inl o => .inr (o.1, o.2.mapIdx (fv ad r))
  | .inr (.inl a) => .inl (if a.1 = 0 then N.1 else N.2.1, a.2, .inl r)
  | .inr (.inr g) => .inl (N.2.2, g.1, .inr (.inr (.inr (.inr (fun k => (g.2 k).map ad)))))
def cw (N : N3) (ad : Nat → Nat) (S : List SC) (σ : St) : va_W := S.mapIdx (fun i c => (ad i, ce N ad (σ i) c))
theorem cw_at {N : N3} {ad : Nat → Nat} {S : List SC} {σ : St} {i : Nat} {c : SC} (h : S[i]? = some c) : (cw N ad S σ)[i]? = some (ad i, ce N ad (σ i) c) := by
  simp [cw, List.getElem?_mapIdx, h]
def up2 (σ : St) (c k : Nat) (v : Int32) : St := fun c' => if c' = c then upd (σ c) k v else σ c'
theorem cw_set {N : N3} {ad : Nat → Nat} {S : List SC} {σ : St} {i k : Nat} {v : Int32} {c : SC} {E : va_E} (h : S[i]? = some c) (hE : ce N ad (upd (σ i) k v) c = E) : (cw N ad S σ).set i (ad i, E) = cw N ad S (up2 σ i k v) := by
  apply List.ext_getElem?
  intro j
  by_cases hj : i = j
  · subst hj
    have hl : i < (cw N ad S σ).length := by simp [cw]; exact (List.getElem?_eq_some_iff.mp h).1
    rw [List.getElem?_set_self hl, cw_at h]
    simp [up2, hE]
  · rw [List.getElem?_set_ne hj]
    have : ¬ j = i := fun q => hj q.symm
    simp [cw, List.getElem?_mapIdx, up2, this]
theorem fv_set {ad : Nat → Nat} {r : Nat → Int32} {fr : List (Option (Option Nat))} {k : Nat} {v : Int32} (h : fr[k]? = some none) : (fr.mapIdx (fv ad r)).set k (.int v) = fr.mapIdx (fv ad (upd r k v)) := by
  apply List.ext_getElem?
  intro j
  by_cases hj : k = j
  · subst hj
    have hl : k < (fr.mapIdx (fv ad r)).length := by simp; exact (List.getElem?_eq_some_iff.mp h).1
    rw [List.getElem?_set_self hl]
    simp [List.getElem?_mapIdx, h, fv, upd]
  · rw [List.getElem?_set_ne hj]
    have : ¬ j = k := fun q => hj q.symm
    simp only [List.getElem?_mapIdx]
    cases fr[j]? with
    | none => rfl
    | some f => cases f <;> simp [fv, upd, this]
/-! methods -/
abbrev MI : Type := MethodName × ByteArray × Nat × Option FieldType
def mwords (M : MI) : List Cond := .code M.1 M.2.1 M.2.2.1 M.2.2.2 :: gtbl
def CX (M : MI) (p : Program) (s : State) (m : MethodId) (args : Array Value) (meth : Method) (c : Code) : Prop :=
  p.tables.exec = Jvm.exec ∧ c.code = M.2.1 ∧ c.maxLocals = M.2.2.1 ∧ s.vm.findClass M.1.cls = some m.cls ∧ (∀ w ∈ gtbl, w.before args s = true) ∧ meth.name = M.1.name ∧ NW s
def WS (D : va_G) (N : N3) (A : Nat → Prop) (s : State) (ad0 : Nat → Nat) (n0 : Nat) (ad : Nat → Nat) (S : List SC) (σ : St) (H : Heap) (locs : List Loc) : Prop :=
  n0 ≤ S.length ∧ (∀ k, k < n0 ∨ 777 ≤ k → ad k = ad0 k) ∧ va_P D vwCl (cw N ad S σ) H ∧ va_D A (cw N ad S σ) ∧ va_S A s.heap H locs
def RetIns (M : MI) (pc : Nat) (v : Option Value) : Prop := match v with
  | none => decode M.2.1 pc = .ok (.return_, 1) ∧ M.2.2.2 = none
  | some (.int x) => decode M.2.1 pc = .ok (.ireturn, 1) ∧ ∃ ty, M.2.2.2 = some ty ∧ narrow ty (.int x) = .int x
  | some (.long _) => decode M.2.1 pc = .ok (.lreturn, 1) ∧ M.2.2.2 = some .long
  | _ => False
abbrev QT : Type := Option Value → List SC → St → Prop
def RT (M : MI) (R : Room) (mc ms : Nat) (Q : QT) (p : Program) (l : Launch) (e : Env) (s : State) (m : MethodId) (args : Array Value) (below : List Frame) (meth : Method) (c : Code) (Z : State → Prop) (D : va_G) (N : N3) (A : Nat → Prop) (ad0 : Nat → Nat) (n0 : Nat) : Prop :=
  ∀ (v : Option Value) (S : List SC) (σ : St) (ad : Nat → Nat) (H : Heap) (locs : List Loc) (ls : Array Slot) (pc kc kn : Nat), Q v S σ → WS D N A s ad0 n0 ad S σ H locs → kc ≤ mc → kn ≤ ms → RetIns M pc v → W p l e R s m args below meth c H locs kc kn Z (F0 m pc ls (v.toList.map (vc ad)))
def conL (ad : Nat → Nat) (L : LV) : LV := L.map (fun q => (q.1, vc ad q.2))
abbrev EX : Type := State → (Nat → Prop) → (Nat → Nat) → Prop
def AW (M : MI) (X : EX) (R : Room) (mc ms : Nat) (Q : QT) (kc kn : Nat) (S : List SC) (σ : St) (pc : Nat) (L : LV) (st : List Value) : Prop :=
  ∀ (p : Program) (l : Launch) (e : Env) (s : State) (m : MethodId) (args : Array Value) (below : List Frame) (meth : Method) (c : Code) (Z : State → Prop) (D : va_G) (N : N3) (A : Nat → Prop) (ad0 : Nat → Nat) (n0 : Nat),
    CX M p s m args meth c → va_K D vwCl (tys3 N) s → (∀ q, s.heap.size ≤ q → A q) → X s A ad0 → RT M R mc ms Q p l e s m args below meth c Z D N A ad0 n0 →
    ∀ (ad : Nat → Nat) (H : Heap) (locs : List Loc) (ls : Array Slot), WS D N A s ad0 n0 ad S σ H locs → lv_has ls M.2.2.1 (conL ad L) →
      W p l e R s m args below meth c H locs kc kn Z (F0 m pc ls (st.map (vc ad)))
/-! locals -/
def lget (L : LV) (i : Nat) : Option Value := match L with
  | [] => none
  | q :: l => cond (Nat.beq q.1 i) (some q.2) (lget l i)
theorem lget_mem {L : LV} {i : Nat} {v : Value} (h : lget L i = some v) : (i, v) ∈ L := by
  induction L with
  | nil => simp [lget] at h
  | cons q l ih =>
    unfold lget at h
    cases hb : Nat.beq q.1 i with
    | true =>
      rw [hb] at h
      have h1 : q.1 = i := Nat.eq_of_beq_eq_true hb
      have h2 : q.2 = v := by simpa using h
      exact List.mem_cons.mpr (Or.inl (by rw [← h1, ← h2]))
    | false =>
      rw [hb] at h
      exact List.mem_cons_of_mem _ (ih (by simpa using h))
theorem lget_at {L : LV} {i nL : Nat} {v : Value} {ad : Nat → Nat} {ls : Array Slot} (hl : lv_has ls nL (conL ad L)) (h : lget L i = some v) : ls[i]? = some (.val (vc ad v)) :=
  hl.2.2 (i, vc ad v) (List.mem_map.mpr ⟨(i, v), lget_mem h, rfl⟩)
def lput1 (L : LV) (i : Nat) (v : Value) : LV := (i, v) :: L.filter (fun q => !(q.1 == i) && !(q.1 + 1 == i && q.2.category == 2))
def lput2 (L : LV) (i : Nat) (v : Value) : LV := (i, v) :: L.filter (fun q => !(q.1 == i) && (!(q.1 == i + 1) && !(q.1 + 1 == i && q.2.category == 2)))
theorem conL_put1 {ad : Nat → Nat} {L : LV} {i : Nat} {v w : Value} (hw : vc ad v = w) : (i, w) :: (conL ad L).filter (fun q => !(q.1 == i) && !(q.1 + 1 == i && q.2.category == 2)) = conL ad (lput1 L i v) := by
  subst hw
  simp only [conL, lput1, List.map_cons, List.filter_map]
  congr 2
  apply List.filter_congr
  intro q _
  simp [vc_cat]
theorem conL_put2 {ad : Nat → Nat} {L : LV} {i : Nat} {v w : Value} (hw : vc ad v = w) : (i, w) :: (conL ad L).filter (fun q => !(q.1 == i) && (!(q.1 == i + 1) && !(q.1 + 1 == i && q.2.category == 2))) = conL ad (lput2 L i v) := by
  subst hw
  simp only [conL, lput2, List.map_cons, List.filter_map]
  congr 2
  apply List.filter_congr
  intro q _
  simp [vc_cat]
/-! local instructions -/
def jrem (x y : Int32) : Int32 := x - x / y * y
def jremL (x y : Int64) : Int64 := x - x / y * y
def jushr (x y : Int32) : Int32 := (x.toUInt32 >>> (y.toUInt32 &&& Int32.toUInt32 31)).toInt32
abbrev TE : Type := Instr × Nat × Int32 × Int64
def cOK (own : String) (pc : Nat) (i : Instr) (v : Int32) (v2 : Int64) : Bool := match i with
  | .iconst n => Int32.ofInt n == v
  | .bipush n => (Int8.ofInt n).toInt32 == v
  | .sipush n => (Int16.ofInt n).toInt32 == v
  | .ldc k => decide (Cond.constant own k v ∈ tables_1)
  | .ldc_w k => decide (Cond.constant own k v ∈ tables_1)
  | .lconst n => Int64.ofNat n.val == v2
  | .ldc2_w k => decide (Cond.constantLong own k v2 ∈ tables_1)
  | .iinc _ n => Int32.ofInt n == v
  | .goto off => decide (0 ≤ (pc : Int) + off)
  | .if_icmp _ off => decide (0 ≤ (pc : Int) + off)
  | .ifCond _ off => decide (0 ≤ (pc : Int) + off)
  | .ifnonnull off => decide (0 ≤ (pc : Int) + off)
  | _ => true
def tOK (own : String) (bytes : ByteArray) (tab : List (Nat × TE)) : Bool := tab.all (fun q => decide (decode bytes q.1 = .ok (q.2.1, q.2.2.1)) && cOK own q.1 q.2.1 q.2.2.2.1 q.2.2.2.2)
def tget (tab : List (Nat × TE)) (pc : Nat) : Option TE := match tab with
  | [] => none
  | q :: l => cond (Nat.beq q.1 pc) (some q.2) (tget l pc)
theorem tget_mem {tab : List (Nat × TE)} {pc : Nat} {t : TE} (h : tget tab pc = some t) : (pc, t) ∈ tab := by
  induction tab with
  | nil => simp [tget] at h
  | cons q l ih =>
    unfold tget at h
    cases hb : Nat.beq q.1 pc with
    | true =>
      rw [hb] at h
      have h1 : q.1 = pc := Nat.eq_of_beq_eq_true hb
      have h2 : q.2 = t := by simpa using h
      exact List.mem_cons.mpr (Or.inl (by rw [← h1, ← h2]))
    | false =>
      rw [hb] at h
      exact List.mem_cons_of_mem _ (ih (by simpa using h))
theorem tok_at {own : String} {bytes : ByteArray} {tab : List (Nat × TE)} (hT : tOK own bytes tab = true) {pc : Nat} {t : TE} (h : tget tab pc = some t) : decode bytes pc = .ok (t.1, t.2.1) ∧ cOK own pc t.1 t.2.2.1 t.2.2.2 = true := by
  have h1 := List.all_eq_true.mp hT _ (tget_mem h)
  simp only [Bool.and_eq_true, decide_eq_true_eq] at h1
  exact h1
