/-! ===== local instructions: one function, one law ===== -/
def chk {α : Type} (a b : Nat) (o : Option α) : Option α := cond (Nat.beq a b) o none
theorem chk_s {α : Type} {a b : Nat} {o : Option α} {y : α} (h : chk a b o = some y) : a = b ∧ o = some y := by
  unfold chk at h
  cases hb : Nat.beq a b with
  | true => rw [hb] at h; exact ⟨Nat.eq_of_beq_eq_true hb, h⟩
  | false => rw [hb] at h; cases h
def gI {α : Type} (o : Option Value) (f : Int32 → Option α) : Option α := match o with
  | some (.int x) => f x
  | _ => none
theorem gI_s {α : Type} {o : Option Value} {f : Int32 → Option α} {y : α} (h : gI o f = some y) : ∃ x, o = some (.int x) ∧ f x = some y := by
  unfold gI at h
  split at h
  · exact ⟨_, rfl, h⟩
  · cases h
def gL {α : Type} (o : Option Value) (f : Int64 → Option α) : Option α := match o with
  | some (.long x) => f x
  | _ => none
theorem gL_s {α : Type} {o : Option Value} {f : Int64 → Option α} {y : α} (h : gL o f = some y) : ∃ x, o = some (.long x) ∧ f x = some y := by
  unfold gL at h
  split at h
  · exact ⟨_, rfl, h⟩
  · cases h
def gR {α : Type} (o : Option Value) (f : Nat → Option α) : Option α := match o with
  | some (.ref x) => f x
  | _ => none
theorem gR_s {α : Type} {o : Option Value} {f : Nat → Option α} {y : α} (h : gR o f = some y) : ∃ x, o = some (.ref x) ∧ f x = some y := by
  unfold gR at h
  split at h
  · exact ⟨_, rfl, h⟩
  · cases h
def pI {α : Type} (st : List Value) (f : Int32 → List Value → Option α) : Option α := match st with
  | .int x :: st => f x st
  | _ => none
theorem pI_s {α : Type} {st : List Value} {f : Int32 → List Value → Option α} {y : α} (h : pI st f = some y) : ∃ x r, st = .int x :: r ∧ f x r = some y := by
  unfold pI at h
  split at h
  · exact ⟨_, _, rfl, h⟩
  · cases h
def pL {α : Type} (st : List Value) (f : Int64 → List Value → Option α) : Option α := match st with
  | .long x :: st => f x st
  | _ => none
theorem pL_s {α : Type} {st : List Value} {f : Int64 → List Value → Option α} {y : α} (h : pL st f = some y) : ∃ x r, st = .long x :: r ∧ f x r = some y := by
  unfold pL at h
  split at h
  · exact ⟨_, _, rfl, h⟩
  · cases h
def pR {α : Type} (st : List Value) (f : Nat → List Value → Option α) : Option α := match st with
  | .ref x :: st => f x st
  | _ => none
theorem pR_s {α : Type} {st : List Value} {f : Nat → List Value → Option α} {y : α} (h : pR st f = some y) : ∃ x r, st = .ref x :: r ∧ f x r = some y := by
  unfold pR at h
  split at h
  · exact ⟨_, _, rfl, h⟩
  · cases h
def pV {α : Type} (st : List Value) (f : Value → List Value → Option α) : Option α := match st with
  | v :: st => chk v.category 1 (f v st)
  | _ => none
theorem pV_s {α : Type} {st : List Value} {f : Value → List Value → Option α} {y : α} (h : pV st f = some y) : ∃ v r, st = v :: r ∧ v.category = 1 ∧ f v r = some y := by
  unfold pV at h
  split at h
  · obtain ⟨h1, h2⟩ := chk_s h
    exact ⟨_, _, rfl, h1, h2⟩
  · cases h
def ltb {α : Type} (a b : Nat) (o : Option α) : Option α := cond (Nat.blt a b) o none
theorem ltb_s {α : Type} {a b : Nat} {o : Option α} {y : α} (h : ltb a b o = some y) : a < b ∧ o = some y := by
  unfold ltb at h
  cases hb : Nat.blt a b with
  | true => rw [hb] at h; exact ⟨Nat.le_of_ble_eq_true hb, h⟩
  | false => rw [hb] at h; cases h
theorem cOK_l1 {own : String} {pc k : Nat} {v : Int32} {v2 : Int64} (h : cOK own pc (.ldc k) v v2 = true) : Cond.constant own k v ∈ tables_1 := by
  unfold cOK at h
  simpa only [decide_eq_true_eq] using h
theorem cOK_lw {own : String} {pc k : Nat} {v : Int32} {v2 : Int64} (h : cOK own pc (.ldc_w k) v v2 = true) : Cond.constant own k v ∈ tables_1 := by
  unfold cOK at h
  simpa only [decide_eq_true_eq] using h
theorem cOK_l2 {own : String} {pc k : Nat} {v : Int32} {v2 : Int64} (h : cOK own pc (.ldc2_w k) v v2 = true) : Cond.constantLong own k v2 ∈ tables_1 := by
  unfold cOK at h
  simpa only [decide_eq_true_eq] using h
def jmp (pc : Nat) (off : Int) : Nat := ((pc : Int) + off).toNat
theorem jmp_ok {pc : Nat} {off : Int} (h : decide (0 ≤ (pc : Int) + off) = true) : (pc : Int) + off = (jmp pc off : Int) := by
  have h1 : 0 ≤ (pc : Int) + off := by simpa using h
  unfold jmp
  omega
def lstep (nL pc : Nat) (i : Instr) (len : Nat) (v : Int32) (v2 : Int64) (L : LV) (st : List Value) : Option (Nat × LV × List Value) := match i with
  | .iconst n => chk len 1 (some (pc + 1, L, .int v :: st))
  | .bipush n => chk len 2 (some (pc + 2, L, .int v :: st))
  | .sipush n => chk len 3 (some (pc + 3, L, .int v :: st))
  | .ldc n => chk len 2 (some (pc + 2, L, .int v :: st))
  | .ldc_w n => chk len 3 (some (pc + 3, L, .int v :: st))
  | .lconst n => chk len 1 (some (pc + 1, L, .long v2 :: st))
  | .ldc2_w n => chk len 3 (some (pc + 3, L, .long v2 :: st))
  | .iload_n n => chk len 1 (gI (lget L n.val) (fun x => some (pc + 1, L, .int x :: st)))
  | .iload n => chk len 2 (gI (lget L n) (fun x => some (pc + 2, L, .int x :: st)))
  | .aload_n n => chk len 1 (gR (lget L n.val) (fun x => some (pc + 1, L, .ref x :: st)))
  | .aload n => chk len 2 (gR (lget L n) (fun x => some (pc + 2, L, .ref x :: st)))
  | .lload n => chk len 2 (gL (lget L n) (fun x => some (pc + 2, L, .long x :: st)))
  | .istore_n n => chk len 1 (pI st (fun x st => ltb n.val nL (some (pc + 1, lput1 L n.val (.int x), st))))
  | .istore n => chk len 2 (pI st (fun x st => ltb n nL (some (pc + 2, lput1 L n (.int x), st))))
  | .astore_n n => chk len 1 (pR st (fun x st => ltb n.val nL (some (pc + 1, lput1 L n.val (.ref x), st))))
  | .astore n => chk len 2 (pR st (fun x st => ltb n nL (some (pc + 2, lput1 L n (.ref x), st))))
  | .lstore n => chk len 2 (pL st (fun x st => ltb (n + 1) nL (some (pc + 2, lput2 L n (.long x), st))))
  | .iinc n z => chk len 3 (gI (lget L n) (fun x => ltb n nL (some (pc + 3, lput1 L n (.int (x + v)), st))))
  | .iadd => chk len 1 (pI st (fun y st => pI st (fun x st => some (pc + 1, L, .int (x + y) :: st))))
  | .isub => chk len 1 (pI st (fun y st => pI st (fun x st => some (pc + 1, L, .int (x - y) :: st))))
  | .imul => chk len 1 (pI st (fun y st => pI st (fun x st => some (pc + 1, L, .int (x * y) :: st))))
  | .iand => chk len 1 (pI st (fun y st => pI st (fun x st => some (pc + 1, L, .int (x &&& y) :: st))))
  | .ior => chk len 1 (pI st (fun y st => pI st (fun x st => some (pc + 1, L, .int (x ||| y) :: st))))
  | .ixor => chk len 1 (pI st (fun y st => pI st (fun x st => some (pc + 1, L, .int (x ^^^ y) :: st))))
  | .ishl => chk len 1 (pI st (fun y st => pI st (fun x st => some (pc + 1, L, .int (x <<< (y &&& 31)) :: st))))
  | .ishr => chk len 1 (pI st (fun y st => pI st (fun x st => some (pc + 1, L, .int (x >>> (y &&& 31)) :: st))))
  | .iushr => chk len 1 (pI st (fun y st => pI st (fun x st => some (pc + 1, L, .int (jushr x y) :: st))))
  | .ladd => chk len 1 (pL st (fun y st => pL st (fun x st => some (pc + 1, L, .long (x + y) :: st))))
  | .lsub => chk len 1 (pL st (fun y st => pL st (fun x st => some (pc + 1, L, .long (x - y) :: st))))
  | .lmul => chk len 1 (pL st (fun y st => pL st (fun x st => some (pc + 1, L, .long (x * y) :: st))))
  | .lcmp => chk len 1 (pL st (fun y st => pL st (fun x st => some (pc + 1, L, .int (lg_cmp x y) :: st))))
  | .i2l => chk len 1 (pI st (fun x st => some (pc + 1, L, .long x.toInt64 :: st)))
  | .dup => chk len 1 (pV st (fun x st => some (pc + 1, L, x :: x :: st)))
  | .pop => chk len 1 (pV st (fun x st => some (pc + 1, L, st)))
  | .dup2 => chk len 1 (pV st (fun x st => pV st (fun y st => some (pc + 1, L, x :: y :: x :: y :: st))))
  | .goto off => chk len 3 (some (jmp pc off, L, st))
  | .ifnonnull off => chk len 3 (match st with
    | .ref _ :: st => some (jmp pc off, L, st)
    | .null :: st => some (pc + 3, L, st)
    | _ => none)
  | _ => none
set_option maxHeartbeats 4000000 in
set_option maxRecDepth 10000 in
theorem aw_l1 {M : MI} {X : EX} {R : Room} {mc ms : Nat} {Q : QT} {kc kn : Nat} {S : List SC} {σ : St} {pc : Nat} {L : LV} {st : List Value} {i : Instr} {len pc2 : Nat} {v : Int32} {v2 : Int64} {L2 : LV} {st2 : List Value} (hd : decode M.2.1 pc = .ok (i, len)) (hc : cOK M.1.cls pc i v v2 = true) (h : lstep M.2.2.1 pc i len v v2 L st = some (pc2, L2, st2))
    (k : AW M X R mc ms Q kc kn S σ pc2 L2 st2) : AW M X R mc ms Q kc kn S σ pc L st := by
  intro p l e s m args below meth c Z D N A ad0 n0 hC hK hA hX hR ad H locs ls hW hl
  cases i with
  | iconst n =>
    have hh := chk_s h
    clear h
    obtain ⟨hlen, h⟩ := hh
    subst hlen
    cases h
    exact lv_iconst hC.1 hC.2.1 hd (by simpa [cOK] using hc) (k p l e s m args below meth c Z D N A ad0 n0 hC hK hA hX hR ad H locs ls hW hl)
  | bipush n =>
    have hh := chk_s h
    clear h
    obtain ⟨hlen, h⟩ := hh
    subst hlen
    cases h
    exact lv_bipush hC.1 hC.2.1 hd (by simpa [cOK] using hc) (k p l e s m args below meth c Z D N A ad0 n0 hC hK hA hX hR ad H locs ls hW hl)
  | sipush n =>
    have hh := chk_s h
    clear h
    obtain ⟨hlen, h⟩ := hh
    subst hlen
    cases h
    exact lv_sipush hC.1 hC.2.1 hd (by simpa [cOK] using hc) (k p l e s m args below meth c Z D N A ad0 n0 hC hK hA hX hR ad H locs ls hW hl)
  | ldc n =>
    have hh := chk_s h
    clear h
    obtain ⟨hlen, h⟩ := hh
    subst hlen
    cases h
    exact lv_ldc hC.1 hC.2.1 hC.2.2.2.1 (hC.2.2.2.2.1 _ (gt_mem (cOK_l1 hc) rfl)) hd (k p l e s m args below meth c Z D N A ad0 n0 hC hK hA hX hR ad H locs ls hW hl)
  | ldc_w n =>
    have hh := chk_s h
    clear h
    obtain ⟨hlen, h⟩ := hh
    subst hlen
    cases h
    exact lv_ldcw hC.1 hC.2.1 hC.2.2.2.1 (hC.2.2.2.2.1 _ (gt_mem (cOK_lw hc) rfl)) hd (k p l e s m args below meth c Z D N A ad0 n0 hC hK hA hX hR ad H locs ls hW hl)
  | lconst n =>
    have hh := chk_s h
    clear h
    obtain ⟨hlen, h⟩ := hh
    subst hlen
    cases h
    exact lv_lconst hC.1 hC.2.1 hd (by simpa [cOK] using hc) (k p l e s m args below meth c Z D N A ad0 n0 hC hK hA hX hR ad H locs ls hW hl)
  | ldc2_w n =>
    have hh := chk_s h
    clear h
    obtain ⟨hlen, h⟩ := hh
    subst hlen
    cases h
    exact lv_ldc2 hC.1 hC.2.1 hC.2.2.2.1 (hC.2.2.2.2.1 _ (gt_mem (cOK_l2 hc) rfl)) hd (k p l e s m args below meth c Z D N A ad0 n0 hC hK hA hX hR ad H locs ls hW hl)
  | iload_n n =>
    have hh := chk_s h
    clear h
    obtain ⟨hlen, h⟩ := hh
    subst hlen
    obtain ⟨x, hg, h1⟩ := gI_s h
    cases h1
    exact lv_iload_n hC.1 hC.2.1 hd rfl (lget_at hl hg) (k p l e s m args below meth c Z D N A ad0 n0 hC hK hA hX hR ad H locs ls hW hl)
  | iload n =>
    have hh := chk_s h
    clear h
    obtain ⟨hlen, h⟩ := hh
    subst hlen
    obtain ⟨x, hg, h1⟩ := gI_s h
    cases h1
    exact lv_iload hC.1 hC.2.1 hd (lget_at hl hg) (k p l e s m args below meth c Z D N A ad0 n0 hC hK hA hX hR ad H locs ls hW hl)
  | aload_n n =>
    have hh := chk_s h
    clear h
    obtain ⟨hlen, h⟩ := hh
    subst hlen
    obtain ⟨x, hg, h1⟩ := gR_s h
    cases h1
    exact lv_aload_n hC.1 hC.2.1 hd rfl (lget_at hl hg) (k p l e s m args below meth c Z D N A ad0 n0 hC hK hA hX hR ad H locs ls hW hl)
  | aload n =>
    have hh := chk_s h
    clear h
    obtain ⟨hlen, h⟩ := hh
    subst hlen
    obtain ⟨x, hg, h1⟩ := gR_s h
    cases h1
    exact lv_aload hC.1 hC.2.1 hd (lget_at hl hg) (k p l e s m args below meth c Z D N A ad0 n0 hC hK hA hX hR ad H locs ls hW hl)
  | lload n =>
    have hh := chk_s h
    clear h
    obtain ⟨hlen, h⟩ := hh
    subst hlen
    obtain ⟨x, hg, h1⟩ := gL_s h
    cases h1
    exact lv_lload hC.1 hC.2.1 hd (lget_at hl hg) (k p l e s m args below meth c Z D N A ad0 n0 hC hK hA hX hR ad H locs ls hW hl)
  | istore_n n =>
    have hh := chk_s h
    clear h
    obtain ⟨hlen, h⟩ := hh
    subst hlen
    obtain ⟨x, r, rfl, h1⟩ := pI_s h
    obtain ⟨hn, h2⟩ := ltb_s h1
    cases h2
    exact lv_istore_n hC.1 hC.2.1 hd rfl hl hn (conL_put1 (v := .int x) rfl) (fun ls hl => k p l e s m args below meth c Z D N A ad0 n0 hC hK hA hX hR ad H locs ls hW hl)
  | istore n =>
    have hh := chk_s h
    clear h
    obtain ⟨hlen, h⟩ := hh
    subst hlen
    obtain ⟨x, r, rfl, h1⟩ := pI_s h
    obtain ⟨hn, h2⟩ := ltb_s h1
    cases h2
    exact lv_istore hC.1 hC.2.1 hd hl hn (conL_put1 (v := .int x) rfl) (fun ls hl => k p l e s m args below meth c Z D N A ad0 n0 hC hK hA hX hR ad H locs ls hW hl)
  | astore_n n =>
    have hh := chk_s h
    clear h
    obtain ⟨hlen, h⟩ := hh
    subst hlen
    obtain ⟨x, r, rfl, h1⟩ := pR_s h
    obtain ⟨hn, h2⟩ := ltb_s h1
    cases h2
    exact lv_astore_n hC.1 hC.2.1 hd rfl hl hn (conL_put1 (v := .ref x) rfl) (fun ls hl => k p l e s m args below meth c Z D N A ad0 n0 hC hK hA hX hR ad H locs ls hW hl)
  | astore n =>
    have hh := chk_s h
    clear h
    obtain ⟨hlen, h⟩ := hh
    subst hlen
    obtain ⟨x, r, rfl, h1⟩ := pR_s h
    obtain ⟨hn, h2⟩ := ltb_s h1
    cases h2
    exact lv_astore hC.1 hC.2.1 hd hl hn (conL_put1 (v := .ref x) rfl) (fun ls hl => k p l e s m args below meth c Z D N A ad0 n0 hC hK hA hX hR ad H locs ls hW hl)
  | lstore n =>
    have hh := chk_s h
    clear h
    obtain ⟨hlen, h⟩ := hh
    subst hlen
    obtain ⟨x, r, rfl, h1⟩ := pL_s h
    obtain ⟨hn, h2⟩ := ltb_s h1
    cases h2
    exact lv_lstore hC.1 hC.2.1 hd hl hn (conL_put2 (v := .long x) rfl) (fun ls hl => k p l e s m args below meth c Z D N A ad0 n0 hC hK hA hX hR ad H locs ls hW hl)
  | iinc n z =>
    have hh := chk_s h
    clear h
    obtain ⟨hlen, h⟩ := hh
    subst hlen
    obtain ⟨x, hg, h1⟩ := gI_s h
    obtain ⟨hn, h2⟩ := ltb_s h1
    cases h2
    have hv : Int32.ofInt z = v := by simpa [cOK] using hc
    obtain ⟨j, hj⟩ := List.getElem?_of_mem (List.mem_map.mpr ⟨(n, Value.int x), lget_mem hg, rfl⟩ : (n, vc ad (.int x)) ∈ conL ad L)
    exact lv_iinc hC.1 hC.2.1 hd hl (k := j) hj (by rw [hv]) hn (conL_put1 (v := .int (x + v)) rfl) (fun ls hl => k p l e s m args below meth c Z D N A ad0 n0 hC hK hA hX hR ad H locs ls hW hl)
  | iadd =>
    have hh := chk_s h
    clear h
    obtain ⟨hlen, h⟩ := hh
    subst hlen
    obtain ⟨y, r, rfl, h1⟩ := pI_s h
    obtain ⟨x, r, rfl, h2⟩ := pI_s h1
    cases h2
    exact lv_iadd hC.1 hC.2.1 hd (k p l e s m args below meth c Z D N A ad0 n0 hC hK hA hX hR ad H locs ls hW hl)
  | isub =>
    have hh := chk_s h
    clear h
    obtain ⟨hlen, h⟩ := hh
    subst hlen
    obtain ⟨y, r, rfl, h1⟩ := pI_s h
    obtain ⟨x, r, rfl, h2⟩ := pI_s h1
    cases h2
    exact lv_isub hC.1 hC.2.1 hd (k p l e s m args below meth c Z D N A ad0 n0 hC hK hA hX hR ad H locs ls hW hl)
  | imul =>
    have hh := chk_s h
    clear h
    obtain ⟨hlen, h⟩ := hh
    subst hlen
    obtain ⟨y, r, rfl, h1⟩ := pI_s h
    obtain ⟨x, r, rfl, h2⟩ := pI_s h1
    cases h2
    exact lv_imul hC.1 hC.2.1 hd (k p l e s m args below meth c Z D N A ad0 n0 hC hK hA hX hR ad H locs ls hW hl)
  | iand =>
    have hh := chk_s h
    clear h
    obtain ⟨hlen, h⟩ := hh
    subst hlen
    obtain ⟨y, r, rfl, h1⟩ := pI_s h
    obtain ⟨x, r, rfl, h2⟩ := pI_s h1
    cases h2
    exact lv_iand hC.1 hC.2.1 hd (k p l e s m args below meth c Z D N A ad0 n0 hC hK hA hX hR ad H locs ls hW hl)
  | ior =>
    have hh := chk_s h
    clear h
    obtain ⟨hlen, h⟩ := hh
    subst hlen
    obtain ⟨y, r, rfl, h1⟩ := pI_s h
    obtain ⟨x, r, rfl, h2⟩ := pI_s h1
    cases h2
    exact lv_ior hC.1 hC.2.1 hd (k p l e s m args below meth c Z D N A ad0 n0 hC hK hA hX hR ad H locs ls hW hl)
  | ixor =>
    have hh := chk_s h
    clear h
    obtain ⟨hlen, h⟩ := hh
    subst hlen
    obtain ⟨y, r, rfl, h1⟩ := pI_s h
    obtain ⟨x, r, rfl, h2⟩ := pI_s h1
    cases h2
    exact lv_ixor hC.1 hC.2.1 hd (k p l e s m args below meth c Z D N A ad0 n0 hC hK hA hX hR ad H locs ls hW hl)
  | ishl =>
    have hh := chk_s h
    clear h
    obtain ⟨hlen, h⟩ := hh
    subst hlen
    obtain ⟨y, r, rfl, h1⟩ := pI_s h
    obtain ⟨x, r, rfl, h2⟩ := pI_s h1
    cases h2
    exact lv_ishl hC.1 hC.2.1 hd (k p l e s m args below meth c Z D N A ad0 n0 hC hK hA hX hR ad H locs ls hW hl)
  | ishr =>
    have hh := chk_s h
    clear h
    obtain ⟨hlen, h⟩ := hh
    subst hlen
    obtain ⟨y, r, rfl, h1⟩ := pI_s h
    obtain ⟨x, r, rfl, h2⟩ := pI_s h1
    cases h2
    exact lv_ishr hC.1 hC.2.1 hd (k p l e s m args below meth c Z D N A ad0 n0 hC hK hA hX hR ad H locs ls hW hl)
  | iushr =>
    have hh := chk_s h
    clear h
    obtain ⟨hlen, h⟩ := hh
    subst hlen
    obtain ⟨y, r, rfl, h1⟩ := pI_s h
    obtain ⟨x, r, rfl, h2⟩ := pI_s h1
    cases h2
    exact lv_iushr hC.1 hC.2.1 hd rfl (k p l e s m args below meth c Z D N A ad0 n0 hC hK hA hX hR ad H locs ls hW hl)
  | ladd =>
    have hh := chk_s h
    clear h
    obtain ⟨hlen, h⟩ := hh
    subst hlen
    obtain ⟨y, r, rfl, h1⟩ := pL_s h
    obtain ⟨x, r, rfl, h2⟩ := pL_s h1
    cases h2
    exact lv_ladd hC.1 hC.2.1 hd (k p l e s m args below meth c Z D N A ad0 n0 hC hK hA hX hR ad H locs ls hW hl)
  | lsub =>
    have hh := chk_s h
    clear h
    obtain ⟨hlen, h⟩ := hh
    subst hlen
    obtain ⟨y, r, rfl, h1⟩ := pL_s h
    obtain ⟨x, r, rfl, h2⟩ := pL_s h1
    cases h2
    exact lv_lsub hC.1 hC.2.1 hd (k p l e s m args below meth c Z D N A ad0 n0 hC hK hA hX hR ad H locs ls hW hl)
  | lmul =>
    have hh := chk_s h
    clear h
    obtain ⟨hlen, h⟩ := hh
    subst hlen
    obtain ⟨y, r, rfl, h1⟩ := pL_s h
    obtain ⟨x, r, rfl, h2⟩ := pL_s h1
    cases h2
    exact lv_lmul hC.1 hC.2.1 hd (k p l e s m args below meth c Z D N A ad0 n0 hC hK hA hX hR ad H locs ls hW hl)
  | lcmp =>
    have hh := chk_s h
    clear h
    obtain ⟨hlen, h⟩ := hh
    subst hlen
    obtain ⟨y, r, rfl, h1⟩ := pL_s h
    obtain ⟨x, r, rfl, h2⟩ := pL_s h1
    cases h2
    exact W.lcmp hC.1 hC.2.1 hd (k p l e s m args below meth c Z D N A ad0 n0 hC hK hA hX hR ad H locs ls hW hl)
  | i2l =>
    have hh := chk_s h
    clear h
    obtain ⟨hlen, h⟩ := hh
    subst hlen
    obtain ⟨x, r, rfl, h1⟩ := pI_s h
    cases h1
    exact lv_i2l hC.1 hC.2.1 hd rfl (k p l e s m args below meth c Z D N A ad0 n0 hC hK hA hX hR ad H locs ls hW hl)
  | dup =>
    have hh := chk_s h
    clear h
    obtain ⟨hlen, h⟩ := hh
    subst hlen
    obtain ⟨x, r, rfl, hv, h1⟩ := pV_s h
    cases h1
    exact lv_dup hC.1 hC.2.1 hd ((vc_cat ad x).trans hv) (k p l e s m args below meth c Z D N A ad0 n0 hC hK hA hX hR ad H locs ls hW hl)
  | pop =>
    have hh := chk_s h
    clear h
    obtain ⟨hlen, h⟩ := hh
    subst hlen
    obtain ⟨x, r, rfl, hv, h1⟩ := pV_s h
    cases h1
    exact lv_pop hC.1 hC.2.1 hd ((vc_cat ad x).trans hv) (k p l e s m args below meth c Z D N A ad0 n0 hC hK hA hX hR ad H locs ls hW hl)
  | dup2 =>
    have hh := chk_s h
    clear h
    obtain ⟨hlen, h⟩ := hh
    subst hlen
    obtain ⟨x, r, rfl, hv, h1⟩ := pV_s h
    obtain ⟨y, r, rfl, hw, h2⟩ := pV_s h1
    cases h2
    exact lv_dup2_11 hC.1 hC.2.1 hd ((vc_cat ad x).trans hv) ((vc_cat ad y).trans hw) (k p l e s m args below meth c Z D N A ad0 n0 hC hK hA hX hR ad H locs ls hW hl)
  | goto off =>
    have hh := chk_s h
    clear h
    obtain ⟨hlen, h⟩ := hh
    subst hlen
    cases h
    exact lv_goto hC.1 hC.2.1 hd (jmp_ok hc) (k p l e s m args below meth c Z D N A ad0 n0 hC hK hA hX hR ad H locs ls hW hl)
  | ifnonnull off =>
    have hh := chk_s h
    clear h
    obtain ⟨hlen, h⟩ := hh
    subst hlen
    split at h
    · cases h; exact lv_ifnonnull hC.1 hC.2.1 hd (jmp_ok hc) (k p l e s m args below meth c Z D N A ad0 n0 hC hK hA hX hR ad H locs ls hW hl)
    · cases h; exact lv_ifnonnullN hC.1 hC.2.1 hd (k p l e s m args below meth c Z D N A ad0 n0 hC hK hA hX hR ad H locs ls hW hl)
    · cases h
  | _ => exact absurd h (by simp [lstep])
def lrun (nL : Nat) (tab : List (Nat × TE)) (n pc : Nat) (L : LV) (st : List Value) : Option (Nat × LV × List Value) := match n with
  | 0 => some (pc, L, st)
  | n + 1 => match tget tab pc with
    | some t => match lstep nL pc t.1 t.2.1 t.2.2.1 t.2.2.2 L st with
      | some q => lrun nL tab n q.1 q.2.1 q.2.2
      | none => none
    | none => none
theorem aw_run {M : MI} {X : EX} {R : Room} {mc ms : Nat} {Q : QT} {kc kn : Nat} {S : List SC} {σ : St} {tab : List (Nat × TE)} (hT : tOK M.1.cls M.2.1 tab = true) (n : Nat) {pc2 : Nat} {L2 : LV} {st2 : List Value} : ∀ {pc : Nat} {L : LV} {st : List Value}, lrun M.2.2.1 tab n pc L st = some (pc2, L2, st2) → AW M X R mc ms Q kc kn S σ pc2 L2 st2 → AW M X R mc ms Q kc kn S σ pc L st := by
  induction n with
  | zero =>
    intro pc L st h k
    cases h
    exact k
  | succ n ih =>
    intro pc L st h k
    unfold lrun at h
    split at h
    · rename_i t ht
      split at h
      · rename_i q hq
        obtain ⟨hd, hc⟩ := tok_at hT ht
        exact aw_l1 hd hc hq (ih h k)
      · cases h
    · cases h
theorem aw_icmp_eq {M : MI} {X : EX} {R : Room} {mc ms : Nat} {Q : QT} {kc kn : Nat} {S : List SC} {σ : St} {pc : Nat} {L : LV} {st : List Value} {x y : Int32} {off : Int} {tab : List (Nat × TE)} {v : Int32} {v2 : Int64} (hT : tOK M.1.cls M.2.1 tab = true) (ht : tget tab pc = some (.if_icmp .eq off, 3, v, v2)) (tgt pc2 : Nat) (hj : jmp pc off = tgt) (hp : pc + 3 = pc2)
    (kt : x = y → AW M X R mc ms Q kc kn S σ tgt L st) (kf : ¬ x = y → AW M X R mc ms Q kc kn S σ pc2 L st) : AW M X R mc ms Q kc kn S σ pc L (.int y :: .int x :: st) := by
  subst hj; subst hp
  intro p l e s m args below meth c Z D N A ad0 n0 hC hK hA hX hR ad H locs ls hW hl
  exact lv_icmp_eq hC.1 hC.2.1 (tok_at hT ht).1 (jmp_ok (tok_at hT ht).2) (fun q => kt q p l e s m args below meth c Z D N A ad0 n0 hC hK hA hX hR ad H locs ls hW hl) (fun q => kf q p l e s m args below meth c Z D N A ad0 n0 hC hK hA hX hR ad H locs ls hW hl)
theorem aw_if_eq {M : MI} {X : EX} {R : Room} {mc ms : Nat} {Q : QT} {kc kn : Nat} {S : List SC} {σ : St} {pc : Nat} {L : LV} {st : List Value} {x : Int32} {off : Int} {tab : List (Nat × TE)} {v : Int32} {v2 : Int64} (hT : tOK M.1.cls M.2.1 tab = true) (ht : tget tab pc = some (.ifCond .eq off, 3, v, v2)) (tgt pc2 : Nat) (hj : jmp pc off = tgt) (hp : pc + 3 = pc2)
    (kt : x = 0 → AW M X R mc ms Q kc kn S σ tgt L st) (kf : ¬ x = 0 → AW M X R mc ms Q kc kn S σ pc2 L st) : AW M X R mc ms Q kc kn S σ pc L (.int x :: st) := by
  subst hj; subst hp
  intro p l e s m args below meth c Z D N A ad0 n0 hC hK hA hX hR ad H locs ls hW hl
  exact lv_if_eq hC.1 hC.2.1 (tok_at hT ht).1 (jmp_ok (tok_at hT ht).2) (fun q => kt q p l e s m args below meth c Z D N A ad0 n0 hC hK hA hX hR ad H locs ls hW hl) (fun q => kf q p l e s m args below meth c Z D N A ad0 n0 hC hK hA hX hR ad H locs ls hW hl)
theorem aw_icmp_ne {M : MI} {X : EX} {R : Room} {mc ms : Nat} {Q : QT} {kc kn : Nat} {S : List SC} {σ : St} {pc : Nat} {L : LV} {st : List Value} {x y : Int32} {off : Int} {tab : List (Nat × TE)} {v : Int32} {v2 : Int64} (hT : tOK M.1.cls M.2.1 tab = true) (ht : tget tab pc = some (.if_icmp .ne off, 3, v, v2)) (tgt pc2 : Nat) (hj : jmp pc off = tgt) (hp : pc + 3 = pc2)
    (kt : ¬ x = y → AW M X R mc ms Q kc kn S σ tgt L st) (kf : x = y → AW M X R mc ms Q kc kn S σ pc2 L st) : AW M X R mc ms Q kc kn S σ pc L (.int y :: .int x :: st) := by
  subst hj; subst hp
  intro p l e s m args below meth c Z D N A ad0 n0 hC hK hA hX hR ad H locs ls hW hl
  exact lv_icmp_ne hC.1 hC.2.1 (tok_at hT ht).1 (jmp_ok (tok_at hT ht).2) (fun q => kt q p l e s m args below meth c Z D N A ad0 n0 hC hK hA hX hR ad H locs ls hW hl) (fun q => kf q p l e s m args below meth c Z D N A ad0 n0 hC hK hA hX hR ad H locs ls hW hl)
theorem aw_if_ne {M : MI} {X : EX} {R : Room} {mc ms : Nat} {Q : QT} {kc kn : Nat} {S : List SC} {σ : St} {pc : Nat} {L : LV} {st : List Value} {x : Int32} {off : Int} {tab : List (Nat × TE)} {v : Int32} {v2 : Int64} (hT : tOK M.1.cls M.2.1 tab = true) (ht : tget tab pc = some (.ifCond .ne off, 3, v, v2)) (tgt pc2 : Nat) (hj : jmp pc off = tgt) (hp : pc + 3 = pc2)
    (kt : ¬ x = 0 → AW M X R mc ms Q kc kn S σ tgt L st) (kf : x = 0 → AW M X R mc ms Q kc kn S σ pc2 L st) : AW M X R mc ms Q kc kn S σ pc L (.int x :: st) := by
  subst hj; subst hp
  intro p l e s m args below meth c Z D N A ad0 n0 hC hK hA hX hR ad H locs ls hW hl
  exact lv_if_ne hC.1 hC.2.1 (tok_at hT ht).1 (jmp_ok (tok_at hT ht).2) (fun q => kt q p l e s m args below meth c Z D N A ad0 n0 hC hK hA hX hR ad H locs ls hW hl) (fun q => kf q p l e s m args below meth c Z D N A ad0 n0 hC hK hA hX hR ad H locs ls hW hl)
theorem aw_icmp_lt {M : MI} {X : EX} {R : Room} {mc ms : Nat} {Q : QT} {kc kn : Nat} {S : List SC} {σ : St} {pc : Nat} {L : LV} {st : List Value} {x y : Int32} {off : Int} {tab : List (Nat × TE)} {v : Int32} {v2 : Int64} (hT : tOK M.1.cls M.2.1 tab = true) (ht : tget tab pc = some (.if_icmp .lt off, 3, v, v2)) (tgt pc2 : Nat) (hj : jmp pc off = tgt) (hp : pc + 3 = pc2)
    (kt : x < y → AW M X R mc ms Q kc kn S σ tgt L st) (kf : ¬ x < y → AW M X R mc ms Q kc kn S σ pc2 L st) : AW M X R mc ms Q kc kn S σ pc L (.int y :: .int x :: st) := by
  subst hj; subst hp
  intro p l e s m args below meth c Z D N A ad0 n0 hC hK hA hX hR ad H locs ls hW hl
  exact lv_icmp_lt hC.1 hC.2.1 (tok_at hT ht).1 (jmp_ok (tok_at hT ht).2) (fun q => kt q p l e s m args below meth c Z D N A ad0 n0 hC hK hA hX hR ad H locs ls hW hl) (fun q => kf q p l e s m args below meth c Z D N A ad0 n0 hC hK hA hX hR ad H locs ls hW hl)
theorem aw_if_lt {M : MI} {X : EX} {R : Room} {mc ms : Nat} {Q : QT} {kc kn : Nat} {S : List SC} {σ : St} {pc : Nat} {L : LV} {st : List Value} {x : Int32} {off : Int} {tab : List (Nat × TE)} {v : Int32} {v2 : Int64} (hT : tOK M.1.cls M.2.1 tab = true) (ht : tget tab pc = some (.ifCond .lt off, 3, v, v2)) (tgt pc2 : Nat) (hj : jmp pc off = tgt) (hp : pc + 3 = pc2)
    (kt : x < 0 → AW M X R mc ms Q kc kn S σ tgt L st) (kf : ¬ x < 0 → AW M X R mc ms Q kc kn S σ pc2 L st) : AW M X R mc ms Q kc kn S σ pc L (.int x :: st) := by
  subst hj; subst hp
  intro p l e s m args below meth c Z D N A ad0 n0 hC hK hA hX hR ad H locs ls hW hl
  exact lv_if_lt hC.1 hC.2.1 (tok_at hT ht).1 (jmp_ok (tok_at hT ht).2) (fun q => kt q p l e s m args below meth c Z D N A ad0 n0 hC hK hA hX hR ad H locs ls hW hl) (fun q => kf q p l e s m args below meth c Z D N A ad0 n0 hC hK hA hX hR ad H locs ls hW hl)
theorem aw_icmp_ge {M : MI} {X : EX} {R : Room} {mc ms : Nat} {Q : QT} {kc kn : Nat} {S : List SC} {σ : St} {pc : Nat} {L : LV} {st : List Value} {x y : Int32} {off : Int} {tab : List (Nat × TE)} {v : Int32} {v2 : Int64} (hT : tOK M.1.cls M.2.1 tab = true) (ht : tget tab pc = some (.if_icmp .ge off, 3, v, v2)) (tgt pc2 : Nat) (hj : jmp pc off = tgt) (hp : pc + 3 = pc2)
    (kt : y ≤ x → AW M X R mc ms Q kc kn S σ tgt L st) (kf : ¬ y ≤ x → AW M X R mc ms Q kc kn S σ pc2 L st) : AW M X R mc ms Q kc kn S σ pc L (.int y :: .int x :: st) := by
  subst hj; subst hp
  intro p l e s m args below meth c Z D N A ad0 n0 hC hK hA hX hR ad H locs ls hW hl
  exact lv_icmp_ge hC.1 hC.2.1 (tok_at hT ht).1 (jmp_ok (tok_at hT ht).2) (fun q => kt q p l e s m args below meth c Z D N A ad0 n0 hC hK hA hX hR ad H locs ls hW hl) (fun q => kf q p l e s m args below meth c Z D N A ad0 n0 hC hK hA hX hR ad H locs ls hW hl)
theorem aw_if_ge {M : MI} {X : EX} {R : Room} {mc ms : Nat} {Q : QT} {kc kn : Nat} {S : List SC} {σ : St} {pc : Nat} {L : LV} {st : List Value} {x : Int32} {off : Int} {tab : List (Nat × TE)} {v : Int32} {v2 : Int64} (hT : tOK M.1.cls M.2.1 tab = true) (ht : tget tab pc = some (.ifCond .ge off, 3, v, v2)) (tgt pc2 : Nat) (hj : jmp pc off = tgt) (hp : pc + 3 = pc2)
    (kt : 0 ≤ x → AW M X R mc ms Q kc kn S σ tgt L st) (kf : ¬ 0 ≤ x → AW M X R mc ms Q kc kn S σ pc2 L st) : AW M X R mc ms Q kc kn S σ pc L (.int x :: st) := by
  subst hj; subst hp
  intro p l e s m args below meth c Z D N A ad0 n0 hC hK hA hX hR ad H locs ls hW hl
  exact lv_if_ge hC.1 hC.2.1 (tok_at hT ht).1 (jmp_ok (tok_at hT ht).2) (fun q => kt q p l e s m args below meth c Z D N A ad0 n0 hC hK hA hX hR ad H locs ls hW hl) (fun q => kf q p l e s m args below meth c Z D N A ad0 n0 hC hK hA hX hR ad H locs ls hW hl)
theorem aw_icmp_gt {M : MI} {X : EX} {R : Room} {mc ms : Nat} {Q : QT} {kc kn : Nat} {S : List SC} {σ : St} {pc : Nat} {L : LV} {st : List Value} {x y : Int32} {off : Int} {tab : List (Nat × TE)} {v : Int32} {v2 : Int64} (hT : tOK M.1.cls M.2.1 tab = true) (ht : tget tab pc = some (.if_icmp .gt off, 3, v, v2)) (tgt pc2 : Nat) (hj : jmp pc off = tgt) (hp : pc + 3 = pc2)
    (kt : y < x → AW M X R mc ms Q kc kn S σ tgt L st) (kf : ¬ y < x → AW M X R mc ms Q kc kn S σ pc2 L st) : AW M X R mc ms Q kc kn S σ pc L (.int y :: .int x :: st) := by
  subst hj; subst hp
  intro p l e s m args below meth c Z D N A ad0 n0 hC hK hA hX hR ad H locs ls hW hl
  exact lv_icmp_gt hC.1 hC.2.1 (tok_at hT ht).1 (jmp_ok (tok_at hT ht).2) (fun q => kt q p l e s m args below meth c Z D N A ad0 n0 hC hK hA hX hR ad H locs ls hW hl) (fun q => kf q p l e s m args below meth c Z D N A ad0 n0 hC hK hA hX hR ad H locs ls hW hl)
theorem aw_if_gt {M : MI} {X : EX} {R : Room} {mc ms : Nat} {Q : QT} {kc kn : Nat} {S : List SC} {σ : St} {pc : Nat} {L : LV} {st : List Value} {x : Int32} {off : Int} {tab : List (Nat × TE)} {v : Int32} {v2 : Int64} (hT : tOK M.1.cls M.2.1 tab = true) (ht : tget tab pc = some (.ifCond .gt off, 3, v, v2)) (tgt pc2 : Nat) (hj : jmp pc off = tgt) (hp : pc + 3 = pc2)
    (kt : 0 < x → AW M X R mc ms Q kc kn S σ tgt L st) (kf : ¬ 0 < x → AW M X R mc ms Q kc kn S σ pc2 L st) : AW M X R mc ms Q kc kn S σ pc L (.int x :: st) := by
  subst hj; subst hp
  intro p l e s m args below meth c Z D N A ad0 n0 hC hK hA hX hR ad H locs ls hW hl
  exact lv_if_gt hC.1 hC.2.1 (tok_at hT ht).1 (jmp_ok (tok_at hT ht).2) (fun q => kt q p l e s m args below meth c Z D N A ad0 n0 hC hK hA hX hR ad H locs ls hW hl) (fun q => kf q p l e s m args below meth c Z D N A ad0 n0 hC hK hA hX hR ad H locs ls hW hl)
theorem aw_icmp_le {M : MI} {X : EX} {R : Room} {mc ms : Nat} {Q : QT} {kc kn : Nat} {S : List SC} {σ : St} {pc : Nat} {L : LV} {st : List Value} {x y : Int32} {off : Int} {tab : List (Nat × TE)} {v : Int32} {v2 : Int64} (hT : tOK M.1.cls M.2.1 tab = true) (ht : tget tab pc = some (.if_icmp .le off, 3, v, v2)) (tgt pc2 : Nat) (hj : jmp pc off = tgt) (hp : pc + 3 = pc2)
    (kt : x ≤ y → AW M X R mc ms Q kc kn S σ tgt L st) (kf : ¬ x ≤ y → AW M X R mc ms Q kc kn S σ pc2 L st) : AW M X R mc ms Q kc kn S σ pc L (.int y :: .int x :: st) := by
  subst hj; subst hp
  intro p l e s m args below meth c Z D N A ad0 n0 hC hK hA hX hR ad H locs ls hW hl
  exact lv_icmp_le hC.1 hC.2.1 (tok_at hT ht).1 (jmp_ok (tok_at hT ht).2) (fun q => kt q p l e s m args below meth c Z D N A ad0 n0 hC hK hA hX hR ad H locs ls hW hl) (fun q => kf q p l e s m args below meth c Z D N A ad0 n0 hC hK hA hX hR ad H locs ls hW hl)
theorem aw_if_le {M : MI} {X : EX} {R : Room} {mc ms : Nat} {Q : QT} {kc kn : Nat} {S : List SC} {σ : St} {pc : Nat} {L : LV} {st : List Value} {x : Int32} {off : Int} {tab : List (Nat × TE)} {v : Int32} {v2 : Int64} (hT : tOK M.1.cls M.2.1 tab = true) (ht : tget tab pc = some (.ifCond .le off, 3, v, v2)) (tgt pc2 : Nat) (hj : jmp pc off = tgt) (hp : pc + 3 = pc2)
    (kt : x ≤ 0 → AW M X R mc ms Q kc kn S σ tgt L st) (kf : ¬ x ≤ 0 → AW M X R mc ms Q kc kn S σ pc2 L st) : AW M X R mc ms Q kc kn S σ pc L (.int x :: st) := by
  subst hj; subst hp
  intro p l e s m args below meth c Z D N A ad0 n0 hC hK hA hX hR ad H locs ls hW hl
  exact lv_if_le hC.1 hC.2.1 (tok_at hT ht).1 (jmp_ok (tok_at hT ht).2) (fun q => kt q p l e s m args below meth c Z D N A ad0 n0 hC hK hA hX hR ad H locs ls hW hl) (fun q => kf q p l e s m args below meth c Z D N A ad0 n0 hC hK hA hX hR ad H locs ls hW hl)
theorem aw_idiv {M : MI} {X : EX} {R : Room} {mc ms : Nat} {Q : QT} {kc kn : Nat} {S : List SC} {σ : St} {pc : Nat} {L : LV} {st : List Value} {x y : Int32} {tab : List (Nat × TE)} {v : Int32} {v2 : Int64} (hT : tOK M.1.cls M.2.1 tab = true) (ht : tget tab pc = some (.idiv, 1, v, v2)) (pc2 : Nat) (hp : pc + 1 = pc2) (hne : ¬ y = 0)
    (k : AW M X R mc ms Q kc kn S σ pc2 L (.int (x / y) :: st)) : AW M X R mc ms Q kc kn S σ pc L (.int y :: .int x :: st) := by
  subst hp
  intro p l e s m args below meth c Z D N A ad0 n0 hC hK hA hX hR ad H locs ls hW hl
  exact lv_idiv hC.1 hC.2.1 (tok_at hT ht).1 hne (k p l e s m args below meth c Z D N A ad0 n0 hC hK hA hX hR ad H locs ls hW hl)
theorem aw_irem {M : MI} {X : EX} {R : Room} {mc ms : Nat} {Q : QT} {kc kn : Nat} {S : List SC} {σ : St} {pc : Nat} {L : LV} {st : List Value} {x y : Int32} {tab : List (Nat × TE)} {v : Int32} {v2 : Int64} (hT : tOK M.1.cls M.2.1 tab = true) (ht : tget tab pc = some (.irem, 1, v, v2)) (pc2 : Nat) (hp : pc + 1 = pc2) (hne : ¬ y = 0)
    (k : AW M X R mc ms Q kc kn S σ pc2 L (.int (jrem x y) :: st)) : AW M X R mc ms Q kc kn S σ pc L (.int y :: .int x :: st) := by
  subst hp
  intro p l e s m args below meth c Z D N A ad0 n0 hC hK hA hX hR ad H locs ls hW hl
  exact lv_irem hC.1 hC.2.1 (tok_at hT ht).1 hne (k p l e s m args below meth c Z D N A ad0 n0 hC hK hA hX hR ad H locs ls hW hl)
theorem aw_ldiv {M : MI} {X : EX} {R : Room} {mc ms : Nat} {Q : QT} {kc kn : Nat} {S : List SC} {σ : St} {pc : Nat} {L : LV} {st : List Value} {x y : Int64} {tab : List (Nat × TE)} {v : Int32} {v2 : Int64} (hT : tOK M.1.cls M.2.1 tab = true) (ht : tget tab pc = some (.ldiv, 1, v, v2)) (pc2 : Nat) (hp : pc + 1 = pc2) (hne : ¬ y = 0)
    (k : AW M X R mc ms Q kc kn S σ pc2 L (.long (x / y) :: st)) : AW M X R mc ms Q kc kn S σ pc L (.long y :: .long x :: st) := by
  subst hp
  intro p l e s m args below meth c Z D N A ad0 n0 hC hK hA hX hR ad H locs ls hW hl
  exact lv_ldiv hC.1 hC.2.1 (tok_at hT ht).1 hne (k p l e s m args below meth c Z D N A ad0 n0 hC hK hA hX hR ad H locs ls hW hl)
theorem aw_lrem {M : MI} {X : EX} {R : Room} {mc ms : Nat} {Q : QT} {kc kn : Nat} {S : List SC} {σ : St} {pc : Nat} {L : LV} {st : List Value} {x y : Int64} {tab : List (Nat × TE)} {v : Int32} {v2 : Int64} (hT : tOK M.1.cls M.2.1 tab = true) (ht : tget tab pc = some (.lrem, 1, v, v2)) (pc2 : Nat) (hp : pc + 1 = pc2) (hne : ¬ y = 0)
    (k : AW M X R mc ms Q kc kn S σ pc2 L (.long (jremL x y) :: st)) : AW M X R mc ms Q kc kn S σ pc L (.long y :: .long x :: st) := by
  subst hp
  intro p l e s m args below meth c Z D N A ad0 n0 hC hK hA hX hR ad H locs ls hW hl
  exact lv_lrem hC.1 hC.2.1 (tok_at hT ht).1 hne (k p l e s m args below meth c Z D N A ad0 n0 hC hK hA hX hR ad H locs ls hW hl)
theorem aw_sub {M : MI} {X : EX} {R : Room} {mc ms : Nat} {Q : QT} {kc kn : Nat} {S : List SC} {σ : St} {pc : Nat} {L : LV} {st : List Value} {L2 : LV} (ks : List Nat) (hs : lv_pick L ks = L2) (k : AW M X R mc ms Q kc kn S σ pc L2 st) : AW M X R mc ms Q kc kn S σ pc L st := by
  intro p l e s m args below meth c Z D N A ad0 n0 hC hK hA hX hR ad H locs ls hW hl
  refine k p l e s m args below meth c Z D N A ad0 n0 hC hK hA hX hR ad H locs ls hW (lv_sub hl ks ?_)
  subst hs
  simp [lv_pick, conL, List.map_filterMap]
theorem aw_iret {M : MI} {X : EX} {R : Room} {mc ms : Nat} {Q : QT} {kc kn : Nat} {S : List SC} {σ : St} {pc : Nat} {L : LV} {st : List Value} {x : Int32} {tab : List (Nat × TE)} {v : Int32} {v2 : Int64} (hT : tOK M.1.cls M.2.1 tab = true) (ht : tget tab pc = some (.ireturn, 1, v, v2)) {ty : FieldType} (hr : M.2.2.2 = some ty) (hn : narrow ty (.int x) = .int x) (hc : kc ≤ mc) (hs : kn ≤ ms) (hq : Q (some (.int x)) S σ) : AW M X R mc ms Q kc kn S σ pc L [.int x] := by
  intro p l e s m args below meth c Z D N A ad0 n0 hC hK hA hX hR ad H locs ls hW hl
  exact hR (some (.int x)) S σ ad H locs ls pc kc kn hq hW hc hs ⟨(tok_at hT ht).1, ty, hr, hn⟩
theorem aw_lret {M : MI} {X : EX} {R : Room} {mc ms : Nat} {Q : QT} {kc kn : Nat} {S : List SC} {σ : St} {pc : Nat} {L : LV} {st : List Value} {x : Int64} {tab : List (Nat × TE)} {v : Int32} {v2 : Int64} (hT : tOK M.1.cls M.2.1 tab = true) (ht : tget tab pc = some (.lreturn, 1, v, v2)) (hr : M.2.2.2 = some .long) (hc : kc ≤ mc) (hs : kn ≤ ms) (hq : Q (some (.long x)) S σ) : AW M X R mc ms Q kc kn S σ pc L [.long x] := by
  intro p l e s m args below meth c Z D N A ad0 n0 hC hK hA hX hR ad H locs ls hW hl
  exact hR (some (.long x)) S σ ad H locs ls pc kc kn hq hW hc hs ⟨(tok_at hT ht).1, hr⟩
theorem aw_vret {M : MI} {X : EX} {R : Room} {mc ms : Nat} {Q : QT} {kc kn : Nat} {S : List SC} {σ : St} {pc : Nat} {L : LV} {st : List Value} {tab : List (Nat × TE)} {v : Int32} {v2 : Int64} (hT : tOK M.1.cls M.2.1 tab = true) (ht : tget tab pc = some (.return_, 1, v, v2)) (hr : M.2.2.2 = none) (hc : kc ≤ mc) (hs : kn ≤ ms) (hq : Q none S σ) : AW M X R mc ms Q kc kn S σ pc L [] := by
  intro p l e s m args below meth c Z D N A ad0 n0 hC hK hA hX hR ad H locs ls hW hl
  exact hR none S σ ad H locs ls pc kc kn hq hW hc hs ⟨(tok_at hT ht).1, hr⟩
