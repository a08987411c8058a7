/-! ===== constructors ===== -/
abbrev cA (t n : Nat) : SC := .inr (.inl (t, n))
theorem set_app {S T : List SC} {n : Nat} {x : SC} (h : n < S.length) : (S ++ T).set n x = S.set n x ++ T := by
  rw [List.set_append_left _ _ h]
theorem at_app {S T : List SC} {n : Nat} {x : SC} (h : n < S.length) : (S.set n x ++ T)[n]? = some x := by
  rw [List.getElem?_append_left (by rw [List.length_set]; exact h), List.getElem?_set_self h]
theorem sok_put {S : List SC} {n ci k l : Nat} {fr : List (Option (Option Nat))} (hs : sokP S S.length) (hn : S[n]? = some (.inl (ci, fr))) (hl : l < S.length) : sokP (S.set n (.inl (ci, fr.set k (some (some l))))) (S.set n (.inl (ci, fr.set k (some (some l))))).length := by
  intro c hc
  rw [List.length_set]
  rcases List.mem_or_eq_of_mem_set hc with h | h
  · exact hs c h
  · subst h
    intro j hj
    rcases List.mem_or_eq_of_mem_set hj with h | h
    · exact hs _ (List.mem_of_getElem? hn) j h
    · cases h; exact hl
theorem aw_ctI {M : MI} {X : EX} {R : Room} {mc ms : Nat} {Q : QT} {kc kn : Nat} {S T : List SC} {σ : St} {pc : Nat} {n ci k l idx pc2 pc3 pc4 len : Nat} {lenI : Int32} {fr : List (Option (Option Nat))} {tab : List (Nat × TE)} {u0 w0 : Int32} {u2 w2 : Int64} (hT : tOK M.1.cls M.2.1 tab = true) (hrun : lrun M.2.2.1 tab 2 pc [(0, .ref n)] [] = some (pc2, [(0, .ref n)], [.int lenI, .ref n]))
    (ht3 : tget tab pc2 = some (.newarray .int, 2, u0, u2)) (hp3 : pc2 + 2 = pc3) (ht4 : tget tab pc3 = some (.putfield idx, 3, w0, w2)) (hp4 : pc3 + 3 = pc4) (hi : M.1.name = "<init>") (hF : FP M.1.cls idx ci k (.array .int) true) {f0 : Option (Option Nat)} (hk : fr[k]? = some f0) (hn : n < S.length) (hl : S.length + T.length = l) (hlb : l < 700)
    (hlen0 : ¬ lenI < 0) (hlen1 : lenI.toNatClampNeg = len) (hlen2 : len ≤ 1000) (hso : sokP (S.set n (.inl (ci, fr)) ++ T) (S.set n (.inl (ci, fr)) ++ T).length) (hroom : kc + 1 ≤ R.cells ∧ kn + len ≤ R.slots)
    (kk : sokP (S.set n (.inl (ci, fr.set k (some (some l)))) ++ (T ++ [cA 0 len])) (S.set n (.inl (ci, fr.set k (some (some l)))) ++ (T ++ [cA 0 len])).length → AW M X R mc ms Q (kc + 1) (kn + len) (S.set n (.inl (ci, fr.set k (some (some l)))) ++ (T ++ [cA 0 len])) (upC σ l (fun _ => 0)) pc4 [(0, .ref n)] []) :
    AW M X R mc ms Q kc kn (S.set n (.inl (ci, fr)) ++ T) σ pc [(0, .ref n)] [] := by
  refine aw_run hT 2 hrun ?_
  have hW : (S.set n (.inl (ci, fr)) ++ T).length = l := by rw [List.length_append, List.length_set]; exact hl
  have hv : vok S.length (.ref n) = true := by simp [vok, Nat.blt]; omega
  refine aw_newaI hT ht3 pc3 hp3 hlen0 hlen1 hlen2 S.length (by omega) (by simp [hv]) hso (by omega) hroom ?_
  have e1 : S.set n (.inl (ci, fr)) ++ T ++ [cA 0 len] = S.set n (.inl (ci, fr)) ++ (T ++ [cA 0 len]) := List.append_assoc _ _ _
  have hso2 := sokP_push (c := cA 0 len) hso trivial
  rw [hW, e1]
  rw [e1] at hso2
  have hs : S.set n (.inl (ci, fr)) = S.set n (.inl (ci, fr)) := rfl
  have hat : (S.set n (.inl (ci, fr)) ++ (T ++ [cA 0 len]))[n]? = some (.inl (ci, fr)) := at_app hn
  have hll : (S.set n (.inl (ci, fr)) ++ (T ++ [cA 0 len])).length = l + 1 := by rw [← e1, List.length_append, hW]; rfl
  refine aw_putF hT ht4 pc4 hp4 hat hk hF hi (fun z => ⟨rfl, rfl⟩) ?_
  have e2 : (S.set n (.inl (ci, fr)) ++ (T ++ [cA 0 len])).set n (.inl (ci, fr.set k (some (some l)))) = S.set n (.inl (ci, fr.set k (some (some l)))) ++ (T ++ [cA 0 len]) := by
    rw [set_app (by rw [List.length_set]; exact hn), List.set_set]
  have hso3 := sok_put (k := k) (l := l) hso2 hat (by rw [hll]; omega)
  rw [e2] at hso3 ⊢
  exact kk hso3
theorem aw_ctZ {M : MI} {X : EX} {R : Room} {mc ms : Nat} {Q : QT} {kc kn : Nat} {S T : List SC} {σ : St} {pc : Nat} {n ci k l idx pc2 pc3 pc4 len : Nat} {lenI : Int32} {fr : List (Option (Option Nat))} {tab : List (Nat × TE)} {u0 w0 : Int32} {u2 w2 : Int64} (hT : tOK M.1.cls M.2.1 tab = true) (hrun : lrun M.2.2.1 tab 2 pc [(0, .ref n)] [] = some (pc2, [(0, .ref n)], [.int lenI, .ref n]))
    (ht3 : tget tab pc2 = some (.newarray .boolean, 2, u0, u2)) (hp3 : pc2 + 2 = pc3) (ht4 : tget tab pc3 = some (.putfield idx, 3, w0, w2)) (hp4 : pc3 + 3 = pc4) (hi : M.1.name = "<init>") (hF : FP M.1.cls idx ci k (.array .boolean) true) {f0 : Option (Option Nat)} (hk : fr[k]? = some f0) (hn : n < S.length) (hl : S.length + T.length = l) (hlb : l < 700)
    (hlen0 : ¬ lenI < 0) (hlen1 : lenI.toNatClampNeg = len) (hlen2 : len ≤ 1000) (hso : sokP (S.set n (.inl (ci, fr)) ++ T) (S.set n (.inl (ci, fr)) ++ T).length) (hroom : kc + 1 ≤ R.cells ∧ kn + len ≤ R.slots)
    (kk : sokP (S.set n (.inl (ci, fr.set k (some (some l)))) ++ (T ++ [cA 1 len])) (S.set n (.inl (ci, fr.set k (some (some l)))) ++ (T ++ [cA 1 len])).length → AW M X R mc ms Q (kc + 1) (kn + len) (S.set n (.inl (ci, fr.set k (some (some l)))) ++ (T ++ [cA 1 len])) (upC σ l (fun _ => 0)) pc4 [(0, .ref n)] []) :
    AW M X R mc ms Q kc kn (S.set n (.inl (ci, fr)) ++ T) σ pc [(0, .ref n)] [] := by
  refine aw_run hT 2 hrun ?_
  have hW : (S.set n (.inl (ci, fr)) ++ T).length = l := by rw [List.length_append, List.length_set]; exact hl
  have hv : vok S.length (.ref n) = true := by simp [vok, Nat.blt]; omega
  refine aw_newaZ hT ht3 pc3 hp3 hlen0 hlen1 hlen2 S.length (by omega) (by simp [hv]) hso (by omega) hroom ?_
  have e1 : S.set n (.inl (ci, fr)) ++ T ++ [cA 1 len] = S.set n (.inl (ci, fr)) ++ (T ++ [cA 1 len]) := List.append_assoc _ _ _
  have hso2 := sokP_push (c := cA 1 len) hso trivial
  rw [hW, e1]
  rw [e1] at hso2
  have hs : S.set n (.inl (ci, fr)) = S.set n (.inl (ci, fr)) := rfl
  have hat : (S.set n (.inl (ci, fr)) ++ (T ++ [cA 1 len]))[n]? = some (.inl (ci, fr)) := at_app hn
  have hll : (S.set n (.inl (ci, fr)) ++ (T ++ [cA 1 len])).length = l + 1 := by rw [← e1, List.length_append, hW]; rfl
  refine aw_putF hT ht4 pc4 hp4 hat hk hF hi (fun z => ⟨rfl, rfl⟩) ?_
  have e2 : (S.set n (.inl (ci, fr)) ++ (T ++ [cA 1 len])).set n (.inl (ci, fr.set k (some (some l)))) = S.set n (.inl (ci, fr.set k (some (some l)))) ++ (T ++ [cA 1 len]) := by
    rw [set_app (by rw [List.length_set]; exact hn), List.set_set]
  have hso3 := sok_put (k := k) (l := l) hso2 hat (by rw [hll]; omega)
  rw [e2] at hso3 ⊢
  exact kk hso3
theorem aw_ctP {M : MI} {X : EX} {R : Room} {mc ms : Nat} {Q : QT} {kc kn : Nat} {S T : List SC} {σ : St} {pc : Nat} {n ci k idx pc2 pc3 : Nat} {x : Int32} {fr : List (Option (Option Nat))} {tab : List (Nat × TE)} {u0 : Int32} {u2 : Int64} (hT : tOK M.1.cls M.2.1 tab = true) (hrun : lrun M.2.2.1 tab 2 pc [(0, .ref n)] [] = some (pc2, [(0, .ref n)], [.int x, .ref n]))
    (ht3 : tget tab pc2 = some (.putfield idx, 3, u0, u2)) (hp3 : pc2 + 3 = pc3) (hF : FP M.1.cls idx ci k .int false) (hk : fr[k]? = some none) (hn : n < S.length)
    (kk : AW M X R mc ms Q kc kn (S.set n (.inl (ci, fr)) ++ T) (up2 σ n k x) pc3 [(0, .ref n)] []) : AW M X R mc ms Q kc kn (S.set n (.inl (ci, fr)) ++ T) σ pc [(0, .ref n)] [] := by
  refine aw_run hT 2 hrun ?_
  exact aw_putI hT ht3 pc3 hp3 (at_app hn) hk hF kk
theorem aw_W {M : MI} {X : EX} {R : Room} {mc ms : Nat} {Q : QT} {kc kn : Nat} {S S' : List SC} {σ : St} {pc : Nat} {L : LV} {st : List Value} (h : S = S') (k : AW M X R mc ms Q kc kn S σ pc L st) : AW M X R mc ms Q kc kn S' σ pc L st := h ▸ k
theorem set_self {S : List SC} {n : Nat} {x : SC} (h : S[n]? = some x) : S.set n x = S := by
  apply List.ext_getElem?
  intro j
  by_cases hj : n = j
  · subst hj
    rw [List.getElem?_set_self (List.getElem?_eq_some_iff.mp h).1, h]
  · rw [List.getElem?_set_ne hj]
def iniX0_init (σ : St) (n l : Nat) : St := up2 (up2 (up2 (up2 (up2 (up2 (upC (upC (upC (upC (upC (upC (upC σ (l + 0) (fun _ => 0)) (l + 1) (fun _ => 0)) (l + 2) (fun _ => 0)) (l + 3) (fun _ => 0)) (l + 4) (fun _ => 0)) (l + 5) (fun _ => 0)) (l + 6) (fun _ => 0)) n 7 0) n 8 0) n 9 0) n 10 0) n 11 0) n 12 10
def frmX0_init (l : Nat) : List (Option (Option Nat)) := [some (some (l + 0)), some (some (l + 1)), some (some (l + 2)), some (some (l + 3)), some (some (l + 4)), some (some (l + 5)), some (some (l + 6)), none, none, none, none, none, none]
def arrX0_init : List SC := [cA 0 6, cA 0 6, cA 0 6, cA 0 6, cA 0 6, cA 0 8, cA 0 8]
set_option maxHeartbeats 4000000 in
set_option maxRecDepth 20000 in
theorem s_X0_init {S : List SC} {σ : St} {n : Nat} (hb : S[n]? = some (.inl (0, [some none, some none, some none, some none, some none, some none, some none, none, none, none, none, none, none]))) (hso : sokP S S.length) (hl : S.length + 40 < 700) : Sp MX0_init rmX0_init 7 46 [.ref n] S σ (fun v S' σ' => v = none ∧ S' = S.set n (.inl (0, frmX0_init S.length)) ++ arrX0_init ∧ sokP S' S'.length ∧ σ' = iniX0_init σ n S.length) := by
  refine Sp.of (by decide) (Nat.le_of_ble_eq_true rfl) ?_
  show AW MX0_init _ _ 7 46 _ 0 0 S σ 0 [(0, .ref n)] []
  have hn : n < S.length := (List.getElem?_eq_some_iff.mp hb).1
  refine aw_run tTX0_init 1 (pc2 := 1) (L2 := [(0, .ref n)]) (st2 := [.ref n]) rfl ?_
  refine aw_objInit tTX0_init rfl 4 rfl lkX0_3 (by decide) (by decide) ?_
  have hS0 : S.set n (.inl (0, [some none, some none, some none, some none, some none, some none, some none, none, none, none, none, none, none])) ++ [] = S := by
    rw [List.append_nil]
    exact set_self hb
  rw [← hS0] at hso
  refine aw_W hS0 ?_
  refine aw_ctI (k := 0) (l := S.length + 0) (lenI := 6) (len := 6) tTX0_init rfl rfl rfl rfl rfl rfl fpX0_9 rfl hn (by simp) (by omega) (by decide) (by decide) (by decide) hso (by decide) (fun hso => ?_)
  try simp only [List.nil_append, List.cons_append, List.set_cons_zero, List.set_cons_succ] at hso ⊢
  refine aw_ctI (k := 1) (l := S.length + 1) (lenI := 6) (len := 6) tTX0_init rfl rfl rfl rfl rfl rfl fpX0_15 rfl hn (by simp) (by omega) (by decide) (by decide) (by decide) hso (by decide) (fun hso => ?_)
  try simp only [List.nil_append, List.cons_append, List.set_cons_zero, List.set_cons_succ] at hso ⊢
  refine aw_ctI (k := 2) (l := S.length + 2) (lenI := 6) (len := 6) tTX0_init rfl rfl rfl rfl rfl rfl fpX0_18 rfl hn (by simp) (by omega) (by decide) (by decide) (by decide) hso (by decide) (fun hso => ?_)
  try simp only [List.nil_append, List.cons_append, List.set_cons_zero, List.set_cons_succ] at hso ⊢
  refine aw_ctI (k := 3) (l := S.length + 3) (lenI := 6) (len := 6) tTX0_init rfl rfl rfl rfl rfl rfl fpX0_21 rfl hn (by simp) (by omega) (by decide) (by decide) (by decide) hso (by decide) (fun hso => ?_)
  try simp only [List.nil_append, List.cons_append, List.set_cons_zero, List.set_cons_succ] at hso ⊢
  refine aw_ctI (k := 4) (l := S.length + 4) (lenI := 6) (len := 6) tTX0_init rfl rfl rfl rfl rfl rfl fpX0_24 rfl hn (by simp) (by omega) (by decide) (by decide) (by decide) hso (by decide) (fun hso => ?_)
  try simp only [List.nil_append, List.cons_append, List.set_cons_zero, List.set_cons_succ] at hso ⊢
  refine aw_ctI (k := 5) (l := S.length + 5) (lenI := 8) (len := 8) tTX0_init rfl rfl rfl rfl rfl rfl fpX0_27 rfl hn (by simp) (by omega) (by decide) (by decide) (by decide) hso (by decide) (fun hso => ?_)
  try simp only [List.nil_append, List.cons_append, List.set_cons_zero, List.set_cons_succ] at hso ⊢
  refine aw_ctI (k := 6) (l := S.length + 6) (lenI := 8) (len := 8) tTX0_init rfl rfl rfl rfl rfl rfl fpX0_30 rfl hn (by simp) (by omega) (by decide) (by decide) (by decide) hso (by decide) (fun hso => ?_)
  try simp only [List.nil_append, List.cons_append, List.set_cons_zero, List.set_cons_succ] at hso ⊢
  refine aw_ctP (k := 7) (x := 0) tTX0_init rfl rfl rfl fpX0_33 rfl hn ?_
  refine aw_ctP (k := 8) (x := 0) tTX0_init rfl rfl rfl fpX0_37 rfl hn ?_
  refine aw_ctP (k := 9) (x := 0) tTX0_init rfl rfl rfl fpX0_40 rfl hn ?_
  refine aw_ctP (k := 10) (x := 0) tTX0_init rfl rfl rfl fpX0_43 rfl hn ?_
  refine aw_ctP (k := 11) (x := 0) tTX0_init rfl rfl rfl fpX0_46 rfl hn ?_
  refine aw_ctP (k := 12) (x := 10) tTX0_init rfl rfl rfl fpX0_49 rfl hn ?_
  exact aw_vr tTX0_init rfl rfl (by decide) (by decide) ⟨rfl, rfl, hso, rfl⟩
def iniX1_init (σ : St) (n l : Nat) : St := up2 (up2 (up2 (upC σ (l + 0) (fun _ => 0)) n 1 0) n 2 0) n 3 0
def frmX1_init (l : Nat) : List (Option (Option Nat)) := [some (some (l + 0)), none, none, none]
def arrX1_init : List SC := [cA 0 60]
set_option maxHeartbeats 4000000 in
set_option maxRecDepth 20000 in
theorem s_X1_init {S : List SC} {σ : St} {n : Nat} (hb : S[n]? = some (.inl (1, [some none, none, none, none]))) (hso : sokP S S.length) (hl : S.length + 40 < 700) : Sp MX1_init rmX1_init 1 60 [.ref n] S σ (fun v S' σ' => v = none ∧ S' = S.set n (.inl (1, frmX1_init S.length)) ++ arrX1_init ∧ sokP S' S'.length ∧ σ' = iniX1_init σ n S.length) := by
  refine Sp.of (by decide) (Nat.le_of_ble_eq_true rfl) ?_
  show AW MX1_init _ _ 1 60 _ 0 0 S σ 0 [(0, .ref n)] []
  have hn : n < S.length := (List.getElem?_eq_some_iff.mp hb).1
  refine aw_run tTX1_init 1 (pc2 := 1) (L2 := [(0, .ref n)]) (st2 := [.ref n]) rfl ?_
  refine aw_objInit tTX1_init rfl 4 rfl lkX1_3 (by decide) (by decide) ?_
  have hS0 : S.set n (.inl (1, [some none, none, none, none])) ++ [] = S := by
    rw [List.append_nil]
    exact set_self hb
  rw [← hS0] at hso
  refine aw_W hS0 ?_
  refine aw_ctI (k := 0) (l := S.length + 0) (lenI := 60) (len := 60) tTX1_init rfl rfl rfl rfl rfl rfl fpX1_9 rfl hn (by simp) (by omega) (by decide) (by decide) (by decide) hso (by decide) (fun hso => ?_)
  try simp only [List.nil_append, List.cons_append, List.set_cons_zero, List.set_cons_succ] at hso ⊢
  refine aw_ctP (k := 1) (x := 0) tTX1_init rfl rfl rfl fpX1_15 rfl hn ?_
  refine aw_ctP (k := 2) (x := 0) tTX1_init rfl rfl rfl fpX1_19 rfl hn ?_
  refine aw_ctP (k := 3) (x := 0) tTX1_init rfl rfl rfl fpX1_22 rfl hn ?_
  exact aw_vr tTX1_init rfl rfl (by decide) (by decide) ⟨rfl, rfl, hso, rfl⟩
def iniX2_init (σ : St) (n l : Nat) : St := upC (upC σ (l + 0) (fun _ => 0)) (l + 1) (fun _ => 0)
def frmX2_init (l : Nat) : List (Option (Option Nat)) := [some (some (l + 0)), some (some (l + 1))]
def arrX2_init : List SC := [cA 0 6, cA 0 64]
set_option maxHeartbeats 4000000 in
set_option maxRecDepth 20000 in
theorem s_X2_init {S : List SC} {σ : St} {n : Nat} (hb : S[n]? = some (.inl (2, [some none, some none]))) (hso : sokP S S.length) (hl : S.length + 40 < 700) : Sp MX2_init rmX2_init 2 70 [.ref n] S σ (fun v S' σ' => v = none ∧ S' = S.set n (.inl (2, frmX2_init S.length)) ++ arrX2_init ∧ sokP S' S'.length ∧ σ' = iniX2_init σ n S.length) := by
  refine Sp.of (by decide) (Nat.le_of_ble_eq_true rfl) ?_
  show AW MX2_init _ _ 2 70 _ 0 0 S σ 0 [(0, .ref n)] []
  have hn : n < S.length := (List.getElem?_eq_some_iff.mp hb).1
  refine aw_run tTX2_init 1 (pc2 := 1) (L2 := [(0, .ref n)]) (st2 := [.ref n]) rfl ?_
  refine aw_objInit tTX2_init rfl 4 rfl lkX2_3 (by decide) (by decide) ?_
  have hS0 : S.set n (.inl (2, [some none, some none])) ++ [] = S := by
    rw [List.append_nil]
    exact set_self hb
  rw [← hS0] at hso
  refine aw_W hS0 ?_
  refine aw_ctI (k := 0) (l := S.length + 0) (lenI := 6) (len := 6) tTX2_init rfl rfl rfl rfl rfl rfl fpX2_9 rfl hn (by simp) (by omega) (by decide) (by decide) (by decide) hso (by decide) (fun hso => ?_)
  try simp only [List.nil_append, List.cons_append, List.set_cons_zero, List.set_cons_succ] at hso ⊢
  refine aw_ctI (k := 1) (l := S.length + 1) (lenI := 64) (len := 64) tTX2_init rfl rfl rfl rfl rfl rfl fpX2_15 rfl hn (by simp) (by omega) (by decide) (by decide) (by decide) hso (by decide) (fun hso => ?_)
  try simp only [List.nil_append, List.cons_append, List.set_cons_zero, List.set_cons_succ] at hso ⊢
  exact aw_vr tTX2_init rfl rfl (by decide) (by decide) ⟨rfl, rfl, hso, rfl⟩
def iniX3_init (σ : St) (n l : Nat) : St := upC (upC (upC σ (l + 0) (fun _ => 0)) (l + 1) (fun _ => 0)) (l + 2) (fun _ => 0)
def frmX3_init (l : Nat) : List (Option (Option Nat)) := [some (some (l + 0)), some (some (l + 1)), some (some (l + 2))]
def arrX3_init : List SC := [cA 0 64, cA 0 64, cA 0 100]
set_option maxHeartbeats 4000000 in
set_option maxRecDepth 20000 in
theorem s_X3_init {S : List SC} {σ : St} {n : Nat} (hb : S[n]? = some (.inl (3, [some none, some none, some none]))) (hso : sokP S S.length) (hl : S.length + 40 < 700) : Sp MX3_init rmX3_init 3 228 [.ref n] S σ (fun v S' σ' => v = none ∧ S' = S.set n (.inl (3, frmX3_init S.length)) ++ arrX3_init ∧ sokP S' S'.length ∧ σ' = iniX3_init σ n S.length) := by
  refine Sp.of (by decide) (Nat.le_of_ble_eq_true rfl) ?_
  show AW MX3_init _ _ 3 228 _ 0 0 S σ 0 [(0, .ref n)] []
  have hn : n < S.length := (List.getElem?_eq_some_iff.mp hb).1
  refine aw_run tTX3_init 1 (pc2 := 1) (L2 := [(0, .ref n)]) (st2 := [.ref n]) rfl ?_
  refine aw_objInit tTX3_init rfl 4 rfl lkX3_3 (by decide) (by decide) ?_
  have hS0 : S.set n (.inl (3, [some none, some none, some none])) ++ [] = S := by
    rw [List.append_nil]
    exact set_self hb
  rw [← hS0] at hso
  refine aw_W hS0 ?_
  refine aw_ctI (k := 0) (l := S.length + 0) (lenI := 64) (len := 64) tTX3_init rfl rfl rfl rfl rfl rfl fpX3_9 rfl hn (by simp) (by omega) (by decide) (by decide) (by decide) hso (by decide) (fun hso => ?_)
  try simp only [List.nil_append, List.cons_append, List.set_cons_zero, List.set_cons_succ] at hso ⊢
  refine aw_ctI (k := 1) (l := S.length + 1) (lenI := 64) (len := 64) tTX3_init rfl rfl rfl rfl rfl rfl fpX3_15 rfl hn (by simp) (by omega) (by decide) (by decide) (by decide) hso (by decide) (fun hso => ?_)
  try simp only [List.nil_append, List.cons_append, List.set_cons_zero, List.set_cons_succ] at hso ⊢
  refine aw_ctI (k := 2) (l := S.length + 2) (lenI := 100) (len := 100) tTX3_init rfl rfl rfl rfl rfl rfl fpX3_18 rfl hn (by simp) (by omega) (by decide) (by decide) (by decide) hso (by decide) (fun hso => ?_)
  try simp only [List.nil_append, List.cons_append, List.set_cons_zero, List.set_cons_succ] at hso ⊢
  exact aw_vr tTX3_init rfl rfl (by decide) (by decide) ⟨rfl, rfl, hso, rfl⟩
def iniX4_init (σ : St) (n l : Nat) : St := up2 (up2 (upC σ (l + 0) (fun _ => 0)) n 1 0) n 2 (-6 : Int32)
def frmX4_init (l : Nat) : List (Option (Option Nat)) := [some (some (l + 0)), none, none]
def arrX4_init : List SC := [cA 0 64]
set_option maxHeartbeats 4000000 in
set_option maxRecDepth 20000 in
theorem s_X4_init {S : List SC} {σ : St} {n : Nat} (hb : S[n]? = some (.inl (4, [some none, none, none]))) (hso : sokP S S.length) (hl : S.length + 40 < 700) : Sp MX4_init rmX4_init 1 64 [.ref n] S σ (fun v S' σ' => v = none ∧ S' = S.set n (.inl (4, frmX4_init S.length)) ++ arrX4_init ∧ sokP S' S'.length ∧ σ' = iniX4_init σ n S.length) := by
  refine Sp.of (by decide) (Nat.le_of_ble_eq_true rfl) ?_
  show AW MX4_init _ _ 1 64 _ 0 0 S σ 0 [(0, .ref n)] []
  have hn : n < S.length := (List.getElem?_eq_some_iff.mp hb).1
  refine aw_run tTX4_init 1 (pc2 := 1) (L2 := [(0, .ref n)]) (st2 := [.ref n]) rfl ?_
  refine aw_objInit tTX4_init rfl 4 rfl lkX4_3 (by decide) (by decide) ?_
  have hS0 : S.set n (.inl (4, [some none, none, none])) ++ [] = S := by
    rw [List.append_nil]
    exact set_self hb
  rw [← hS0] at hso
  refine aw_W hS0 ?_
  refine aw_ctI (k := 0) (l := S.length + 0) (lenI := 64) (len := 64) tTX4_init rfl rfl rfl rfl rfl rfl fpX4_9 rfl hn (by simp) (by omega) (by decide) (by decide) (by decide) hso (by decide) (fun hso => ?_)
  try simp only [List.nil_append, List.cons_append, List.set_cons_zero, List.set_cons_succ] at hso ⊢
  refine aw_ctP (k := 1) (x := 0) tTX4_init rfl rfl rfl fpX4_15 rfl hn ?_
  refine aw_ctP (k := 2) (x := (-6 : Int32)) tTX4_init rfl rfl rfl fpX4_19 rfl hn ?_
  exact aw_vr tTX4_init rfl rfl (by decide) (by decide) ⟨rfl, rfl, hso, rfl⟩
def iniX6_init (σ : St) (n l : Nat) : St := up2 (upC (upC (upC (upC (upC (upC (upC (upC (upC (upC (upC (upC (upC (upC (upC (up2 (upC σ (l + 0) (fun _ => 0)) n 4 10) (l + 1) (fun _ => 0)) (l + 2) (fun _ => 0)) (l + 3) (fun _ => 0)) (l + 4) (fun _ => 0)) (l + 5) (fun _ => 0)) (l + 6) (fun _ => 0)) (l + 7) (fun _ => 0)) (l + 8) (fun _ => 0)) (l + 9) (fun _ => 0)) (l + 10) (fun _ => 0)) (l + 11) (fun _ => 0)) (l + 12) (fun _ => 0)) (l + 13) (fun _ => 0)) (l + 14) (fun _ => 0)) (l + 15) (fun _ => 0)) n 0 0
def frmX6_init (l : Nat) : List (Option (Option Nat)) := [none, some (some (l + 0)), none, none, none, none, some (some (l + 1)), some (some (l + 2)), some (some (l + 3)), some (some (l + 4)), some (some (l + 5)), none, none, some (some (l + 6)), some (some (l + 7)), some (some (l + 8)), some (some (l + 9)), some (some (l + 10)), none, none, none, none, none, none, some (some (l + 11)), none, none, none, some (some (l + 12)), some (some (l + 13)), some (some (l + 14)), some (some (l + 15))]
def arrX6_init : List SC := [cA 0 6, cA 0 16, cA 0 6, cA 0 6, cA 0 6, cA 0 6, cA 0 60, cA 0 6, cA 0 6, cA 0 6, cA 0 6, cA 1 384, cA 0 600, cA 0 64, cA 0 140, cA 1 2]
set_option maxHeartbeats 4000000 in
set_option maxRecDepth 20000 in
theorem s_X6_init {S : List SC} {σ : St} {n : Nat} (hb : S[n]? = some (.inl (6, [none, some none, none, none, none, none, some none, some none, some none, some none, some none, none, none, some none, some none, some none, some none, some none, none, none, none, none, none, none, some none, none, none, none, some none, some none, some none, some none]))) (hso : sokP S S.length) (hl : S.length + 40 < 700) : Sp MX6_init rmX6_init 16 1500 [.ref n] S σ (fun v S' σ' => v = none ∧ S' = S.set n (.inl (6, frmX6_init S.length)) ++ arrX6_init ∧ sokP S' S'.length ∧ σ' = iniX6_init σ n S.length) := by
  refine Sp.of (by decide) (Nat.le_of_ble_eq_true rfl) ?_
  show AW MX6_init _ _ 16 1500 _ 0 0 S σ 0 [(0, .ref n)] []
  have hn : n < S.length := (List.getElem?_eq_some_iff.mp hb).1
  refine aw_run tTX6_init 1 (pc2 := 1) (L2 := [(0, .ref n)]) (st2 := [.ref n]) rfl ?_
  refine aw_objInit tTX6_init rfl 4 rfl lkX6_1 (by decide) (by decide) ?_
  have hS0 : S.set n (.inl (6, [none, some none, none, none, none, none, some none, some none, some none, some none, some none, none, none, some none, some none, some none, some none, some none, none, none, none, none, none, none, some none, none, none, none, some none, some none, some none, some none])) ++ [] = S := by
    rw [List.append_nil]
    exact set_self hb
  rw [← hS0] at hso
  refine aw_W hS0 ?_
  refine aw_ctI (k := 1) (l := S.length + 0) (lenI := 6) (len := 6) tTX6_init rfl rfl rfl rfl rfl rfl fpX6_7 rfl hn (by simp) (by omega) (by decide) (by decide) (by decide) hso (by decide) (fun hso => ?_)
  try simp only [List.nil_append, List.cons_append, List.set_cons_zero, List.set_cons_succ] at hso ⊢
  refine aw_ctP (k := 4) (x := 10) tTX6_init rfl rfl rfl fpX6_13 rfl hn ?_
  refine aw_ctI (k := 6) (l := S.length + 1) (lenI := 16) (len := 16) tTX6_init rfl rfl rfl rfl rfl rfl fpX6_17 rfl hn (by simp) (by omega) (by decide) (by decide) (by decide) hso (by decide) (fun hso => ?_)
  try simp only [List.nil_append, List.cons_append, List.set_cons_zero, List.set_cons_succ] at hso ⊢
  refine aw_ctI (k := 7) (l := S.length + 2) (lenI := 6) (len := 6) tTX6_init rfl rfl rfl rfl rfl rfl fpX6_20 rfl hn (by simp) (by omega) (by decide) (by decide) (by decide) hso (by decide) (fun hso => ?_)
  try simp only [List.nil_append, List.cons_append, List.set_cons_zero, List.set_cons_succ] at hso ⊢
  refine aw_ctI (k := 8) (l := S.length + 3) (lenI := 6) (len := 6) tTX6_init rfl rfl rfl rfl rfl rfl fpX6_23 rfl hn (by simp) (by omega) (by decide) (by decide) (by decide) hso (by decide) (fun hso => ?_)
  try simp only [List.nil_append, List.cons_append, List.set_cons_zero, List.set_cons_succ] at hso ⊢
  refine aw_ctI (k := 9) (l := S.length + 4) (lenI := 6) (len := 6) tTX6_init rfl rfl rfl rfl rfl rfl fpX6_26 rfl hn (by simp) (by omega) (by decide) (by decide) (by decide) hso (by decide) (fun hso => ?_)
  try simp only [List.nil_append, List.cons_append, List.set_cons_zero, List.set_cons_succ] at hso ⊢
  refine aw_ctI (k := 10) (l := S.length + 5) (lenI := 6) (len := 6) tTX6_init rfl rfl rfl rfl rfl rfl fpX6_29 rfl hn (by simp) (by omega) (by decide) (by decide) (by decide) hso (by decide) (fun hso => ?_)
  try simp only [List.nil_append, List.cons_append, List.set_cons_zero, List.set_cons_succ] at hso ⊢
  refine aw_ctI (k := 13) (l := S.length + 6) (lenI := 60) (len := 60) tTX6_init rfl rfl rfl rfl rfl rfl fpX6_32 rfl hn (by simp) (by omega) (by decide) (by decide) (by decide) hso (by decide) (fun hso => ?_)
  try simp only [List.nil_append, List.cons_append, List.set_cons_zero, List.set_cons_succ] at hso ⊢
  refine aw_ctI (k := 14) (l := S.length + 7) (lenI := 6) (len := 6) tTX6_init rfl rfl rfl rfl rfl rfl fpX6_35 rfl hn (by simp) (by omega) (by decide) (by decide) (by decide) hso (by decide) (fun hso => ?_)
  try simp only [List.nil_append, List.cons_append, List.set_cons_zero, List.set_cons_succ] at hso ⊢
  refine aw_ctI (k := 15) (l := S.length + 8) (lenI := 6) (len := 6) tTX6_init rfl rfl rfl rfl rfl rfl fpX6_38 rfl hn (by simp) (by omega) (by decide) (by decide) (by decide) hso (by decide) (fun hso => ?_)
  try simp only [List.nil_append, List.cons_append, List.set_cons_zero, List.set_cons_succ] at hso ⊢
  refine aw_ctI (k := 16) (l := S.length + 9) (lenI := 6) (len := 6) tTX6_init rfl rfl rfl rfl rfl rfl fpX6_41 rfl hn (by simp) (by omega) (by decide) (by decide) (by decide) hso (by decide) (fun hso => ?_)
  try simp only [List.nil_append, List.cons_append, List.set_cons_zero, List.set_cons_succ] at hso ⊢
  refine aw_ctI (k := 17) (l := S.length + 10) (lenI := 6) (len := 6) tTX6_init rfl rfl rfl rfl rfl rfl fpX6_44 rfl hn (by simp) (by omega) (by decide) (by decide) (by decide) hso (by decide) (fun hso => ?_)
  try simp only [List.nil_append, List.cons_append, List.set_cons_zero, List.set_cons_succ] at hso ⊢
  refine aw_ctZ (k := 24) (l := S.length + 11) (lenI := 384) (len := 384) tTX6_init rfl rfl rfl rfl rfl rfl fpX6_47 rfl hn (by simp) (by omega) (by decide) (by decide) (by decide) hso (by decide) (fun hso => ?_)
  try simp only [List.nil_append, List.cons_append, List.set_cons_zero, List.set_cons_succ] at hso ⊢
  refine aw_ctI (k := 28) (l := S.length + 12) (lenI := 600) (len := 600) tTX6_init rfl rfl rfl rfl rfl rfl fpX6_51 rfl hn (by simp) (by omega) (by decide) (by decide) (by decide) hso (by decide) (fun hso => ?_)
  try simp only [List.nil_append, List.cons_append, List.set_cons_zero, List.set_cons_succ] at hso ⊢
  refine aw_ctI (k := 29) (l := S.length + 13) (lenI := 64) (len := 64) tTX6_init rfl rfl rfl rfl rfl rfl fpX6_54 rfl hn (by simp) (by omega) (by decide) (by decide) (by decide) hso (by decide) (fun hso => ?_)
  try simp only [List.nil_append, List.cons_append, List.set_cons_zero, List.set_cons_succ] at hso ⊢
  refine aw_ctI (k := 30) (l := S.length + 14) (lenI := 140) (len := 140) tTX6_init rfl rfl rfl rfl rfl rfl fpX6_57 rfl hn (by simp) (by omega) (by decide) (by decide) (by decide) hso (by decide) (fun hso => ?_)
  try simp only [List.nil_append, List.cons_append, List.set_cons_zero, List.set_cons_succ] at hso ⊢
  refine aw_ctZ (k := 31) (l := S.length + 15) (lenI := 2) (len := 2) tTX6_init rfl rfl rfl rfl rfl rfl fpX6_60 rfl hn (by simp) (by omega) (by decide) (by decide) (by decide) hso (by decide) (fun hso => ?_)
  try simp only [List.nil_append, List.cons_append, List.set_cons_zero, List.set_cons_succ] at hso ⊢
  refine aw_ctP (k := 0) (x := 0) tTX6_init rfl rfl rfl fpX6_63 rfl hn ?_
  exact aw_vr tTX6_init rfl rfl (by decide) (by decide) ⟨rfl, rfl, hso, rfl⟩
