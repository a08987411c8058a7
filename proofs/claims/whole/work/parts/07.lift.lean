/-! ===== lifted programs: option values, guards, loops ===== -/
def ok {α : Type} (o : Option α) (K : α → Prop) : Prop := ∃ r, o = some r ∧ K r
theorem ok_s {α : Type} {r : α} {K : α → Prop} (h : K r) : ok (some r) K := ⟨r, rfl, h⟩
theorem ok_r {α : Type} {r : α} {K : α → Prop} (h : ok (some r) K) : K r := by
  obtain ⟨x, hx, h⟩ := h
  cases hx
  exact h
theorem ok_m {α : Type} {o : Option α} {K K2 : α → Prop} (h : ok o K) (hk : ∀ r, K r → K2 r) : ok o K2 := by
  obtain ⟨x, hx, h⟩ := h
  exact ⟨x, hx, hk x h⟩
theorem ok_t {α : Type} {c : Prop} [Decidable c] {a b : Option α} {K : α → Prop} (hc : c) (h : ok (if c then a else b) K) : ok a K := by
  rw [if_pos hc] at h
  exact h
theorem ok_f {α : Type} {c : Prop} [Decidable c] {a b : Option α} {K : α → Prop} (hc : ¬ c) (h : ok (if c then a else b) K) : ok b K := by
  rw [if_neg hc] at h
  exact h
theorem ok_fn {α : Type} {c : Prop} [Decidable c] {a b : Option α} {K : α → Prop} (hc : c) (h : ok (if ¬ c then a else b) K) : ok b K := by
  rw [if_neg (fun q => q hc)] at h
  exact h
theorem ok_b {α β : Type} {o : Option α} {f : α → Option β} {K : β → Prop} (h : ok (o.bind f) K) : ok o (fun x => ok (f x) K) := by
  obtain ⟨r, hr, h⟩ := h
  cases ho : o with
  | none => rw [ho] at hr; cases hr
  | some x => rw [ho] at hr; exact ⟨x, rfl, r, hr, h⟩
/-- an index within -/
def gi {α : Type} (i : Int32) (n : Nat) (o : Option α) : Option α := if i < 0 ∨ n ≤ i.toNatClampNeg then none else o
theorem ok_gi {α : Type} {i : Int32} {n : Nat} {o : Option α} {K : α → Prop} (h : ok (gi i n o) K) : vp_in i n ∧ ok o K := by
  unfold gi at h
  by_cases hc : i < 0 ∨ n ≤ i.toNatClampNeg
  · rw [if_pos hc] at h
    obtain ⟨_, hr, _⟩ := h
    cases hr
  · rw [if_neg hc] at h
    exact ⟨hc, h⟩
def gz {α : Type} (y : Int32) (o : Option α) : Option α := if y = 0 then none else o
theorem ok_gz {α : Type} {y : Int32} {o : Option α} {K : α → Prop} (h : ok (gz y o) K) : ¬ y = 0 ∧ ok o K := by
  unfold gz at h
  by_cases hc : y = 0
  · rw [if_pos hc] at h
    obtain ⟨_, hr, _⟩ := h
    cases hr
  · rw [if_neg hc] at h
    exact ⟨hc, h⟩
def gzL {α : Type} (y : Int64) (o : Option α) : Option α := if y = 0 then none else o
theorem ok_gzL {α : Type} {y : Int64} {o : Option α} {K : α → Prop} (h : ok (gzL y o) K) : ¬ y = 0 ∧ ok o K := by
  unfold gzL at h
  by_cases hc : y = 0
  · rw [if_pos hc] at h
    obtain ⟨_, hr, _⟩ := h
    cases hr
  · rw [if_neg hc] at h
    exact ⟨hc, h⟩
def gb {α : Type} (x : Int32) (o : Option α) : Option α := if x = 0 ∨ x = 1 then o else none
theorem ok_gb {α : Type} {x : Int32} {o : Option α} {K : α → Prop} (h : ok (gb x o) K) : narrow .boolean (.int x) = .int x ∧ ok o K := by
  unfold gb at h
  by_cases hc : x = 0 ∨ x = 1
  · rw [if_pos hc] at h
    refine ⟨?_, h⟩
    rcases hc with rfl | rfl <;> rfl
  · rw [if_neg hc] at h
    obtain ⟨_, hr, _⟩ := h
    cases hr
def nm {α β : Type} (e : α) (f : α → Option β) : Option β := f e
theorem ok_nm {α β : Type} {e : α} {f : α → Option β} {K : β → Prop} (h : ok (nm e f) K) (x : α) (hx : x = e) : ok (f x) K := by
  subst hx
  exact h
theorem aw_nm {M : MI} {X : EX} {R : Room} {mc ms : Nat} {Q : QT} {kc kn : Nat} {S : List SC} {σ : St} {pc : Nat} {L : LV} {st : List Value} {y : Int32} (k : ∀ x : Int32, x = y → AW M X R mc ms Q kc kn S σ pc L (.int x :: st)) : AW M X R mc ms Q kc kn S σ pc L (.int y :: st) := k y rfl
theorem aw_nmL {M : MI} {X : EX} {R : Room} {mc ms : Nat} {Q : QT} {kc kn : Nat} {S : List SC} {σ : St} {pc : Nat} {L : LV} {st : List Value} {y : Int64} (k : ∀ x : Int64, x = y → AW M X R mc ms Q kc kn S σ pc L (.long x :: st)) : AW M X R mc ms Q kc kn S σ pc L (.long y :: st) := k y rfl
def loop {S X : Type} (body : S → Option (S ⊕ X)) (n : Nat) (s : S) : Option X := match n with
  | 0 => none
  | n + 1 => (body s).bind (fun r => match r with
    | .inl s' => loop body n s'
    | .inr x => some x)
theorem loop_P {S X : Type} {body : S → Option (S ⊕ X)} {P : S → Prop} {E : X → Prop} (step : ∀ s, ok (body s) (fun r => match r with
    | .inl s' => P s'
    | .inr x => E x) → P s) : ∀ (n : Nat) (s : S), ok (loop body n s) E → P s := by
  intro n
  induction n with
  | zero => intro s h; obtain ⟨_, hr, _⟩ := h; cases hr
  | succ n ih =>
    intro s h
    refine step s (ok_m (ok_b h) (fun r hr => ?_))
    cases r with
    | inl s' => exact ih s' hr
    | inr x => exact ok_r (r := x) (K := E) hr
/-! switches by keys -/
theorem aw_tableK {M : MI} {X : EX} {R : Room} {mc ms : Nat} {Q : QT} {kc kn : Nat} {S : List SC} {σ : St} {pc : Nat} {L : LV} {st : List Value} {dflt lo hi off : Int} {offs : Array Int} {len : Nat} {x : Int32} {tab : List (Nat × TE)} {v0 : Int32} {v2 : Int64} (hT : tOK M.1.cls M.2.1 tab = true) (ht : tget tab pc = some (.tableswitch dflt lo hi offs, len, v0, v2)) (k : Int32) (hx : x = k) (h : decide (¬ k.toInt < lo ∧ ¬ hi < k.toInt ∧ offs[(k.toInt - lo).toNat]? = some off) = true) (tgt : Nat) (hj : (pc : Int) + off = (tgt : Int))
    (kk : AW M X R mc ms Q kc kn S σ tgt L st) : AW M X R mc ms Q kc kn S σ pc L (.int x :: st) := by
  subst hx
  have h := of_decide_eq_true h
  exact aw_table hT ht h.1 h.2.1 h.2.2 tgt hj kk
theorem aw_tableN {M : MI} {X : EX} {R : Room} {mc ms : Nat} {Q : QT} {kc kn : Nat} {S : List SC} {σ : St} {pc : Nat} {L : LV} {st : List Value} {dflt lo hi : Int} {offs : Array Int} {len : Nat} {x : Int32} {tab : List (Nat × TE)} {v0 : Int32} {v2 : Int64} (hT : tOK M.1.cls M.2.1 tab = true) (ht : tget tab pc = some (.tableswitch dflt lo hi offs, len, v0, v2)) (ks : List Int32) (hx : ∀ k ∈ ks, ¬ x = k) (h : (List.range (hi - lo + 1).toNat).all (fun j => ks.any (fun k => k.toInt == lo + (j : Int))) = true) (tgt : Nat) (hj : (pc : Int) + dflt = (tgt : Int))
    (kk : AW M X R mc ms Q kc kn S σ tgt L st) : AW M X R mc ms Q kc kn S σ pc L (.int x :: st) := by
  refine aw_tableD hT ht ?_ tgt hj kk
  by_cases h1 : x.toInt < lo
  · exact Or.inl h1
  · by_cases h2 : hi < x.toInt
    · exact Or.inr h2
    · exfalso
      have hr := List.all_eq_true.mp h (x.toInt - lo).toNat (List.mem_range.mpr (by omega))
      obtain ⟨k, hk, he⟩ := List.any_eq_true.mp hr
      have he : k.toInt = lo + ((x.toInt - lo).toNat : Int) := by simpa using he
      exact hx k hk (Int32.toInt_inj.mp (by omega))
theorem look_none (ps : List (Int × Int)) (d k : Int) (h : ∀ q ∈ ps, ¬ q.1 = k) : Op.lookupswitch.offset ps d k = d := by
  induction ps with
  | nil => rfl
  | cons q l ih =>
    obtain ⟨a, b⟩ := q
    have h1 : ¬ a = k := h (a, b) List.mem_cons_self
    have h2 := ih (fun q hq => h q (List.mem_cons_of_mem _ hq))
    unfold Op.lookupswitch.offset
    simp [h2, Ne.symm h1, h1]
theorem aw_lookupK {M : MI} {X : EX} {R : Room} {mc ms : Nat} {Q : QT} {kc kn : Nat} {S : List SC} {σ : St} {pc : Nat} {L : LV} {st : List Value} {dflt off : Int} {ps : Array (Int × Int)} {len : Nat} {x : Int32} {tab : List (Nat × TE)} {v0 : Int32} {v2 : Int64} (hT : tOK M.1.cls M.2.1 tab = true) (ht : tget tab pc = some (.lookupswitch dflt ps, len, v0, v2)) (k : Int32) (hx : x = k) (hp : (ps.toList.zip (ps.toList.drop 1)).all (fun (a, next) => a.1 < next.1) = true) (ho : Op.lookupswitch.offset ps.toList dflt k.toInt = off) (tgt : Nat) (hj : (pc : Int) + off = (tgt : Int))
    (kk : AW M X R mc ms Q kc kn S σ tgt L st) : AW M X R mc ms Q kc kn S σ pc L (.int x :: st) := by
  subst hx
  exact aw_lookup hT ht hp ho tgt hj kk
theorem aw_lookupN {M : MI} {X : EX} {R : Room} {mc ms : Nat} {Q : QT} {kc kn : Nat} {S : List SC} {σ : St} {pc : Nat} {L : LV} {st : List Value} {dflt : Int} {ps : Array (Int × Int)} {len : Nat} {x : Int32} {tab : List (Nat × TE)} {v0 : Int32} {v2 : Int64} (hT : tOK M.1.cls M.2.1 tab = true) (ht : tget tab pc = some (.lookupswitch dflt ps, len, v0, v2)) (ks : List Int32) (hx : ∀ k ∈ ks, ¬ x = k) (h : ps.toList.all (fun q => ks.any (fun k => k.toInt == q.1)) = true) (hp : (ps.toList.zip (ps.toList.drop 1)).all (fun (a, next) => a.1 < next.1) = true) (tgt : Nat) (hj : (pc : Int) + dflt = (tgt : Int))
    (kk : AW M X R mc ms Q kc kn S σ tgt L st) : AW M X R mc ms Q kc kn S σ pc L (.int x :: st) := by
  refine aw_lookup hT ht hp (look_none _ _ _ ?_) tgt hj kk
  intro q hq he
  obtain ⟨k, hk, h2⟩ := List.any_eq_true.mp (List.all_eq_true.mp h q hq)
  have h2 : k.toInt = q.1 := by simpa using h2
  exact hx k hk (Int32.toInt_inj.mp (he.symm.trans h2.symm))
theorem gt_at {w : Cond} (k : Nat) (h : tables_1[k]? = some w) (hg : goodWord w = true) : w ∈ gtbl := gt_mem (List.mem_of_getElem? h) hg
theorem gt_pv {w : Cond} (k : Nat) (h : lw_tbl[k]? = some w) (hg : goodWord w = true) : w ∈ gtbl := List.mem_filter.mpr ⟨List.mem_of_getElem? h, hg⟩
