/-! ===== the program's tables, links, methods; the world's shape ===== -/
abbrev E0 : EX := fun _ _ _ => True
def Fn (M : MI) (rm : Room) (av : List Value) (S : List SC) (σ : St) (v : Option Value) (τ : St) : Prop := Sp M rm 0 0 av S σ (fun v' S' σ' => v' = v ∧ S' = S ∧ σ' = τ)
theorem aw_nmS {M : MI} {X : EX} {R : Room} {mc ms : Nat} {Q : QT} {kc kn : Nat} {S : List SC} {σ : St} {pc : Nat} {L : LV} {st : List Value} (k : ∀ τ : St, τ = σ → AW M X R mc ms Q kc kn S τ pc L st) : AW M X R mc ms Q kc kn S σ pc L st := k σ rfl
theorem aw_cV {M : MI} {X : EX} {R : Room} {mc ms : Nat} {Q : QT} {kc kn : Nat} {S : List SC} {σ : St} {pc : Nat} {L : LV} {st : List Value} {idx n : Nat} {M' : MI} {rm : Room} {av rest : List Value} {v : Option Value} {τ : St} {tab : List (Nat × TE)} {v0 : Int32} {v2 : Int64} (hT : tOK M.1.cls M.2.1 tab = true) (ht : tget tab pc = some (.invokevirtual idx, 3, v0, v2)) (pc2 : Nat) (hp : pc + 3 = pc2) {a ci : Nat} {fr : List (Option (Option Nat))} (hst : st = av.reverse ++ .ref a :: rest) (hk : LK M.1.cls idx M'.1) (hM : MV M' n) (hn : av.length = n) (hS : S[a]? = some (.inl (ci, fr))) (hcl : ∃ T k, vwCl[ci]? = some (M'.1.cls, T, k)) (hsp : Fn M' rm (.ref a :: av) S σ v τ)
    (hrm : rmOK rm R M' 0 0 kc kn) (hcat : (rest.map fun v => v.category).sum ≤ 8) (nv : Nat) (hnv : nv ≤ S.length) (hv : (L.all (fun q => vok nv q.2) && rest.all (vok nv)) = true) (st2 : List Value) (hst2 : v.toList ++ rest = st2)
    (kk : AW M X R mc ms Q kc kn S τ pc2 L st2) : AW M X R mc ms Q kc kn S σ pc L st := by
  refine aw_callV hT ht pc2 hp hst hk hM hn hS hcl hsp hrm hcat nv hnv hv (fun v' S' σ' q => ?_)
  obtain ⟨rfl, rfl, rfl⟩ := q
  rw [hst2]
  exact kk
theorem aw_cS {M : MI} {X : EX} {R : Room} {mc ms : Nat} {Q : QT} {kc kn : Nat} {S : List SC} {σ : St} {pc : Nat} {L : LV} {st : List Value} {idx n : Nat} {M' : MI} {rm : Room} {av rest : List Value} {v : Option Value} {τ : St} {tab : List (Nat × TE)} {v0 : Int32} {v2 : Int64} (hT : tOK M.1.cls M.2.1 tab = true) (ht : tget tab pc = some (.invokestatic idx, 3, v0, v2)) (pc2 : Nat) (hp : pc + 3 = pc2) (hst : st = av.reverse ++ rest) (hk : LK M.1.cls idx M'.1) (hM : MSt M' n) (hn : av.length = n) (hsp : Fn M' rm av S σ v τ)
    (hrm : rmOK rm R M' 0 0 kc kn) (hcat : (rest.map fun v => v.category).sum ≤ 8) (nv : Nat) (hnv : nv ≤ S.length) (hv : (L.all (fun q => vok nv q.2) && rest.all (vok nv)) = true) (st2 : List Value) (hst2 : v.toList ++ rest = st2)
    (kk : AW M X R mc ms Q kc kn S τ pc2 L st2) : AW M X R mc ms Q kc kn S σ pc L st := by
  refine aw_callS hT ht pc2 hp hst hk hM hn hsp hrm hcat nv hnv hv (fun v' S' σ' q => ?_)
  obtain ⟨rfl, rfl, rfl⟩ := q
  rw [hst2]
  exact kk
theorem aw_cSN {M : MI} {X : EX} {R : Room} {mc ms : Nat} {Q : QT} {kc kn : Nat} {S : List SC} {σ : St} {pc : Nat} {L : LV} {st : List Value} {idx n : Nat} {M' : MI} {rm : Room} {av rest : List Value} {v : Option Value} {τ : St} {tab : List (Nat × TE)} {v0 : Int32} {v2 : Int64} (hT : tOK M.1.cls M.2.1 tab = true) (ht : tget tab pc = some (.invokestatic idx, 3, v0, v2)) (pc2 : Nat) (hp : pc + 3 = pc2) {host : String} (hst : st = av.reverse ++ rest) (hk : (M.1.cls, idx, M'.1, host) ∈ nestL) (hM : MSt M' n) (hn : av.length = n) (hsp : Fn M' rm av S σ v τ)
    (hrm : rmOK rm R M' 0 0 kc kn) (hcat : (rest.map fun v => v.category).sum ≤ 8) (nv : Nat) (hnv : nv ≤ S.length) (hv : (L.all (fun q => vok nv q.2) && rest.all (vok nv)) = true) (st2 : List Value) (hst2 : v.toList ++ rest = st2)
    (kk : AW M X R mc ms Q kc kn S τ pc2 L st2) : AW M X R mc ms Q kc kn S σ pc L st := by
  refine aw_callSN hT ht pc2 hp hst hk hM hn hsp hrm hcat nv hnv hv (fun v' S' σ' q => ?_)
  obtain ⟨rfl, rfl, rfl⟩ := q
  rw [hst2]
  exact kk
def shp (g : Nat → Option Nat) : List SC := [.inl (5, [some (some 1), some (some 9), some (some 17), some (some 18), some (some 20), some (some 23), some (some 27)]),
  .inl (0, [some (some 2), some (some 3), some (some 4), some (some 5), some (some 6), some (some 7), some (some 8), none, none, none, none, none, none]),
  .inr (.inl (0, 6)),
  .inr (.inl (0, 6)),
  .inr (.inl (0, 6)),
  .inr (.inl (0, 6)),
  .inr (.inl (0, 6)),
  .inr (.inl (0, 8)),
  .inr (.inl (0, 8)),
  .inl (0, [some (some 10), some (some 11), some (some 12), some (some 13), some (some 14), some (some 15), some (some 16), none, none, none, none, none, none]),
  .inr (.inl (0, 6)),
  .inr (.inl (0, 6)),
  .inr (.inl (0, 6)),
  .inr (.inl (0, 6)),
  .inr (.inl (0, 6)),
  .inr (.inl (0, 8)),
  .inr (.inl (0, 8)),
  .inr (.inr (2, g)),
  .inl (1, [some (some 19), none, none, none]),
  .inr (.inl (0, 60)),
  .inl (2, [some (some 21), some (some 22)]),
  .inr (.inl (0, 6)),
  .inr (.inl (0, 64)),
  .inl (3, [some (some 24), some (some 25), some (some 26)]),
  .inr (.inl (0, 64)),
  .inr (.inl (0, 64)),
  .inr (.inl (0, 100)),
  .inl (4, [some (some 28), none, none]),
  .inr (.inl (0, 64)),
  .inl (6, [none, some (some 30), none, none, none, none, some (some 31), some (some 32), some (some 33), some (some 34), some (some 35), none, none, some (some 36), some (some 37), some (some 38), some (some 39), some (some 40), none, none, none, none, none, none, some (some 41), none, none, none, some (some 42), some (some 43), some (some 44), some (some 45)]),
  .inr (.inl (0, 6)),
  .inr (.inl (0, 16)),
  .inr (.inl (0, 6)),
  .inr (.inl (0, 6)),
  .inr (.inl (0, 6)),
  .inr (.inl (0, 6)),
  .inr (.inl (0, 60)),
  .inr (.inl (0, 6)),
  .inr (.inl (0, 6)),
  .inr (.inl (0, 6)),
  .inr (.inl (0, 6)),
  .inr (.inl (1, 384)),
  .inr (.inl (0, 600)),
  .inr (.inl (0, 64)),
  .inr (.inl (0, 140)),
  .inr (.inl (1, 2))]
def Wf (g : Nat → Option Nat) (S : List SC) : Prop := S.take 46 = shp g
theorem wf_len {g : Nat → Option Nat} {S : List SC} (h : Wf g S) : 46 ≤ S.length := by
  have h1 : (S.take 46).length = 46 := by rw [h]; rfl
  rw [List.length_take] at h1
  omega
theorem wf_at {g : Nat → Option Nat} {S : List SC} (h : Wf g S) (k : Nat) {c : SC} (hk : (shp g)[k]? = some c) : S[k]? = some c := by
  rw [← h, List.getElem?_take] at hk
  split at hk
  · exact hk
  · cases hk
theorem w_0 {g : Nat → Option Nat} {S : List SC} (h : Wf g S) : S[0]? = some (.inl (5, [some (some 1), some (some 9), some (some 17), some (some 18), some (some 20), some (some 23), some (some 27)])) := wf_at h 0 rfl
theorem w_1 {g : Nat → Option Nat} {S : List SC} (h : Wf g S) : S[1]? = some (.inl (0, [some (some 2), some (some 3), some (some 4), some (some 5), some (some 6), some (some 7), some (some 8), none, none, none, none, none, none])) := wf_at h 1 rfl
theorem w_2 {g : Nat → Option Nat} {S : List SC} (h : Wf g S) : S[2]? = some (.inr (.inl (0, 6))) := wf_at h 2 rfl
theorem w_3 {g : Nat → Option Nat} {S : List SC} (h : Wf g S) : S[3]? = some (.inr (.inl (0, 6))) := wf_at h 3 rfl
theorem w_4 {g : Nat → Option Nat} {S : List SC} (h : Wf g S) : S[4]? = some (.inr (.inl (0, 6))) := wf_at h 4 rfl
theorem w_5 {g : Nat → Option Nat} {S : List SC} (h : Wf g S) : S[5]? = some (.inr (.inl (0, 6))) := wf_at h 5 rfl
theorem w_6 {g : Nat → Option Nat} {S : List SC} (h : Wf g S) : S[6]? = some (.inr (.inl (0, 6))) := wf_at h 6 rfl
theorem w_7 {g : Nat → Option Nat} {S : List SC} (h : Wf g S) : S[7]? = some (.inr (.inl (0, 8))) := wf_at h 7 rfl
theorem w_8 {g : Nat → Option Nat} {S : List SC} (h : Wf g S) : S[8]? = some (.inr (.inl (0, 8))) := wf_at h 8 rfl
theorem w_9 {g : Nat → Option Nat} {S : List SC} (h : Wf g S) : S[9]? = some (.inl (0, [some (some 10), some (some 11), some (some 12), some (some 13), some (some 14), some (some 15), some (some 16), none, none, none, none, none, none])) := wf_at h 9 rfl
theorem w_10 {g : Nat → Option Nat} {S : List SC} (h : Wf g S) : S[10]? = some (.inr (.inl (0, 6))) := wf_at h 10 rfl
theorem w_11 {g : Nat → Option Nat} {S : List SC} (h : Wf g S) : S[11]? = some (.inr (.inl (0, 6))) := wf_at h 11 rfl
theorem w_12 {g : Nat → Option Nat} {S : List SC} (h : Wf g S) : S[12]? = some (.inr (.inl (0, 6))) := wf_at h 12 rfl
theorem w_13 {g : Nat → Option Nat} {S : List SC} (h : Wf g S) : S[13]? = some (.inr (.inl (0, 6))) := wf_at h 13 rfl
theorem w_14 {g : Nat → Option Nat} {S : List SC} (h : Wf g S) : S[14]? = some (.inr (.inl (0, 6))) := wf_at h 14 rfl
theorem w_15 {g : Nat → Option Nat} {S : List SC} (h : Wf g S) : S[15]? = some (.inr (.inl (0, 8))) := wf_at h 15 rfl
theorem w_16 {g : Nat → Option Nat} {S : List SC} (h : Wf g S) : S[16]? = some (.inr (.inl (0, 8))) := wf_at h 16 rfl
theorem w_17 {g : Nat → Option Nat} {S : List SC} (h : Wf g S) : S[17]? = some (.inr (.inr (2, g))) := wf_at h 17 rfl
theorem w_18 {g : Nat → Option Nat} {S : List SC} (h : Wf g S) : S[18]? = some (.inl (1, [some (some 19), none, none, none])) := wf_at h 18 rfl
theorem w_19 {g : Nat → Option Nat} {S : List SC} (h : Wf g S) : S[19]? = some (.inr (.inl (0, 60))) := wf_at h 19 rfl
theorem w_20 {g : Nat → Option Nat} {S : List SC} (h : Wf g S) : S[20]? = some (.inl (2, [some (some 21), some (some 22)])) := wf_at h 20 rfl
theorem w_21 {g : Nat → Option Nat} {S : List SC} (h : Wf g S) : S[21]? = some (.inr (.inl (0, 6))) := wf_at h 21 rfl
theorem w_22 {g : Nat → Option Nat} {S : List SC} (h : Wf g S) : S[22]? = some (.inr (.inl (0, 64))) := wf_at h 22 rfl
theorem w_23 {g : Nat → Option Nat} {S : List SC} (h : Wf g S) : S[23]? = some (.inl (3, [some (some 24), some (some 25), some (some 26)])) := wf_at h 23 rfl
theorem w_24 {g : Nat → Option Nat} {S : List SC} (h : Wf g S) : S[24]? = some (.inr (.inl (0, 64))) := wf_at h 24 rfl
theorem w_25 {g : Nat → Option Nat} {S : List SC} (h : Wf g S) : S[25]? = some (.inr (.inl (0, 64))) := wf_at h 25 rfl
theorem w_26 {g : Nat → Option Nat} {S : List SC} (h : Wf g S) : S[26]? = some (.inr (.inl (0, 100))) := wf_at h 26 rfl
theorem w_27 {g : Nat → Option Nat} {S : List SC} (h : Wf g S) : S[27]? = some (.inl (4, [some (some 28), none, none])) := wf_at h 27 rfl
theorem w_28 {g : Nat → Option Nat} {S : List SC} (h : Wf g S) : S[28]? = some (.inr (.inl (0, 64))) := wf_at h 28 rfl
theorem w_29 {g : Nat → Option Nat} {S : List SC} (h : Wf g S) : S[29]? = some (.inl (6, [none, some (some 30), none, none, none, none, some (some 31), some (some 32), some (some 33), some (some 34), some (some 35), none, none, some (some 36), some (some 37), some (some 38), some (some 39), some (some 40), none, none, none, none, none, none, some (some 41), none, none, none, some (some 42), some (some 43), some (some 44), some (some 45)])) := wf_at h 29 rfl
theorem w_30 {g : Nat → Option Nat} {S : List SC} (h : Wf g S) : S[30]? = some (.inr (.inl (0, 6))) := wf_at h 30 rfl
theorem w_31 {g : Nat → Option Nat} {S : List SC} (h : Wf g S) : S[31]? = some (.inr (.inl (0, 16))) := wf_at h 31 rfl
theorem w_32 {g : Nat → Option Nat} {S : List SC} (h : Wf g S) : S[32]? = some (.inr (.inl (0, 6))) := wf_at h 32 rfl
theorem w_33 {g : Nat → Option Nat} {S : List SC} (h : Wf g S) : S[33]? = some (.inr (.inl (0, 6))) := wf_at h 33 rfl
theorem w_34 {g : Nat → Option Nat} {S : List SC} (h : Wf g S) : S[34]? = some (.inr (.inl (0, 6))) := wf_at h 34 rfl
theorem w_35 {g : Nat → Option Nat} {S : List SC} (h : Wf g S) : S[35]? = some (.inr (.inl (0, 6))) := wf_at h 35 rfl
theorem w_36 {g : Nat → Option Nat} {S : List SC} (h : Wf g S) : S[36]? = some (.inr (.inl (0, 60))) := wf_at h 36 rfl
theorem w_37 {g : Nat → Option Nat} {S : List SC} (h : Wf g S) : S[37]? = some (.inr (.inl (0, 6))) := wf_at h 37 rfl
theorem w_38 {g : Nat → Option Nat} {S : List SC} (h : Wf g S) : S[38]? = some (.inr (.inl (0, 6))) := wf_at h 38 rfl
theorem w_39 {g : Nat → Option Nat} {S : List SC} (h : Wf g S) : S[39]? = some (.inr (.inl (0, 6))) := wf_at h 39 rfl
theorem w_40 {g : Nat → Option Nat} {S : List SC} (h : Wf g S) : S[40]? = some (.inr (.inl (0, 6))) := wf_at h 40 rfl
theorem w_41 {g : Nat → Option Nat} {S : List SC} (h : Wf g S) : S[41]? = some (.inr (.inl (1, 384))) := wf_at h 41 rfl
theorem w_42 {g : Nat → Option Nat} {S : List SC} (h : Wf g S) : S[42]? = some (.inr (.inl (0, 600))) := wf_at h 42 rfl
theorem w_43 {g : Nat → Option Nat} {S : List SC} (h : Wf g S) : S[43]? = some (.inr (.inl (0, 64))) := wf_at h 43 rfl
theorem w_44 {g : Nat → Option Nat} {S : List SC} (h : Wf g S) : S[44]? = some (.inr (.inl (0, 140))) := wf_at h 44 rfl
theorem w_45 {g : Nat → Option Nat} {S : List SC} (h : Wf g S) : S[45]? = some (.inr (.inl (1, 2))) := wf_at h 45 rfl
def LA (S : List SC) (b : Nat) : Prop := S[b]? = some (.inl (0, [some (some (b + 1)), some (some (b + 2)), some (some (b + 3)), some (some (b + 4)), some (some (b + 5)), some (some (b + 6)), some (some (b + 7)), none, none, none, none, none, none])) ∧ S[b + 1]? = some (.inr (.inl (0, 6))) ∧ S[b + 2]? = some (.inr (.inl (0, 6))) ∧ S[b + 3]? = some (.inr (.inl (0, 6))) ∧ S[b + 4]? = some (.inr (.inl (0, 6))) ∧ S[b + 5]? = some (.inr (.inl (0, 6))) ∧ S[b + 6]? = some (.inr (.inl (0, 8))) ∧ S[b + 7]? = some (.inr (.inl (0, 8)))
theorem la_1 {g : Nat → Option Nat} {S : List SC} (h : Wf g S) : LA S 1 := ⟨w_1 h, w_2 h, w_3 h, w_4 h, w_5 h, w_6 h, w_7 h, w_8 h⟩
theorem la_9 {g : Nat → Option Nat} {S : List SC} (h : Wf g S) : LA S 9 := ⟨w_9 h, w_10 h, w_11 h, w_12 h, w_13 h, w_14 h, w_15 h, w_16 h⟩
theorem flX5_12 : FL RX5 12 5 0 := ⟨RX5, TX5, 7, rfl, by decide, iwX5, gt_at 147 (by decide +kernel) rfl⟩
theorem fpX5_12 : FP RX5 12 5 0 (.object "StolenApples$Land") true := ⟨RX5, TX5, 7, tyX5, rfl, by decide, iwX5, gt_at 147 (by decide +kernel) rfl, tyX5_ok, nmX5, rfl, by decide +kernel, fun h => by first | rfl | cases h⟩
theorem flX5_16 : FL RX5 16 5 1 := ⟨RX5, TX5, 7, rfl, by decide, iwX5, gt_at 148 (by decide +kernel) rfl⟩
theorem fpX5_16 : FP RX5 16 5 1 (.object "StolenApples$Land") true := ⟨RX5, TX5, 7, tyX5, rfl, by decide, iwX5, gt_at 148 (by decide +kernel) rfl, tyX5_ok, nmX5, rfl, by decide +kernel, fun h => by first | rfl | cases h⟩
theorem flX5_19 : FL RX5 19 5 2 := ⟨RX5, TX5, 7, rfl, by decide, iwX5, gt_at 149 (by decide +kernel) rfl⟩
theorem fpX5_19 : FP RX5 19 5 2 (.array (.object "StolenApples$Land")) true := ⟨RX5, TX5, 7, tyX5, rfl, by decide, iwX5, gt_at 149 (by decide +kernel) rfl, tyX5_ok, nmX5, rfl, by decide +kernel, fun h => by first | rfl | cases h⟩
theorem flX5_26 : FL RX5 26 5 3 := ⟨RX5, TX5, 7, rfl, by decide, iwX5, gt_at 150 (by decide +kernel) rfl⟩
theorem fpX5_26 : FP RX5 26 5 3 (.object "StolenApples$Nights") true := ⟨RX5, TX5, 7, tyX5, rfl, by decide, iwX5, gt_at 150 (by decide +kernel) rfl, tyX5_ok, nmX5, rfl, by decide +kernel, fun h => by first | rfl | cases h⟩
theorem flX5_33 : FL RX5 33 5 4 := ⟨RX5, TX5, 7, rfl, by decide, iwX5, gt_at 151 (by decide +kernel) rfl⟩
theorem fpX5_33 : FP RX5 33 5 4 (.object "StolenApples$Paths") true := ⟨RX5, TX5, 7, tyX5, rfl, by decide, iwX5, gt_at 151 (by decide +kernel) rfl, tyX5_ok, nmX5, rfl, by decide +kernel, fun h => by first | rfl | cases h⟩
theorem flX5_40 : FL RX5 40 5 5 := ⟨RX5, TX5, 7, rfl, by decide, iwX5, gt_at 152 (by decide +kernel) rfl⟩
theorem fpX5_40 : FP RX5 40 5 5 (.object "StolenApples$Rows") true := ⟨RX5, TX5, 7, tyX5, rfl, by decide, iwX5, gt_at 152 (by decide +kernel) rfl, tyX5_ok, nmX5, rfl, by decide +kernel, fun h => by first | rfl | cases h⟩
theorem flX5_47 : FL RX5 47 5 6 := ⟨RX5, TX5, 7, rfl, by decide, iwX5, gt_at 153 (by decide +kernel) rfl⟩
theorem fpX5_47 : FP RX5 47 5 6 (.object "StolenApples$Turns") true := ⟨RX5, TX5, 7, tyX5, rfl, by decide, iwX5, gt_at 153 (by decide +kernel) rfl, tyX5_ok, nmX5, rfl, by decide +kernel, fun h => by first | rfl | cases h⟩
theorem flX5_71 : FL RX5 71 0 12 := ⟨RX0, TX0, 13, rfl, by decide, iwX0, gt_at 48 (by decide +kernel) rfl⟩
theorem fpX5_71 : FP RX5 71 0 12 .int false := ⟨RX0, TX0, 13, tyX0, rfl, by decide, iwX0, gt_at 48 (by decide +kernel) rfl, tyX0_ok, nmX0, rfl, by decide +kernel, fun h => by first | rfl | cases h⟩
theorem flX5_78 : FL RX5 78 1 1 := ⟨RX1, TX1, 4, rfl, by decide, iwX1, gt_at 86 (by decide +kernel) rfl⟩
theorem fpX5_78 : FP RX5 78 1 1 .int false := ⟨RX1, TX1, 4, tyX1, rfl, by decide, iwX1, gt_at 86 (by decide +kernel) rfl, tyX1_ok, nmX1, rfl, by decide +kernel, fun h => by first | rfl | cases h⟩
theorem flX5_88 : FL RX5 88 1 2 := ⟨RX1, TX1, 4, rfl, by decide, iwX1, gt_at 88 (by decide +kernel) rfl⟩
theorem fpX5_88 : FP RX5 88 1 2 .int false := ⟨RX1, TX1, 4, tyX1, rfl, by decide, iwX1, gt_at 88 (by decide +kernel) rfl, tyX1_ok, nmX1, rfl, by decide +kernel, fun h => by first | rfl | cases h⟩
theorem flX5_91 : FL RX5 91 1 3 := ⟨RX1, TX1, 4, rfl, by decide, iwX1, gt_at 90 (by decide +kernel) rfl⟩
theorem fpX5_91 : FP RX5 91 1 3 .int false := ⟨RX1, TX1, 4, tyX1, rfl, by decide, iwX1, gt_at 90 (by decide +kernel) rfl, tyX1_ok, nmX1, rfl, by decide +kernel, fun h => by first | rfl | cases h⟩
theorem flX5_105 : FL RX5 105 0 8 := ⟨RX0, TX0, 13, rfl, by decide, iwX0, gt_at 41 (by decide +kernel) rfl⟩
theorem fpX5_105 : FP RX5 105 0 8 .int false := ⟨RX0, TX0, 13, tyX0, rfl, by decide, iwX0, gt_at 41 (by decide +kernel) rfl, tyX0_ok, nmX0, rfl, by decide +kernel, fun h => by first | rfl | cases h⟩
theorem flX5_139 : FL RX5 139 0 0 := ⟨RX0, TX0, 13, rfl, by decide, iwX0, gt_at 28 (by decide +kernel) rfl⟩
theorem flX5_146 : FL RX5 146 0 1 := ⟨RX0, TX0, 13, rfl, by decide, iwX0, gt_at 31 (by decide +kernel) rfl⟩
theorem flX5_157 : FL RX5 157 0 7 := ⟨RX0, TX0, 13, rfl, by decide, iwX0, gt_at 39 (by decide +kernel) rfl⟩
theorem fpX5_157 : FP RX5 157 0 7 .int false := ⟨RX0, TX0, 13, tyX0, rfl, by decide, iwX0, gt_at 39 (by decide +kernel) rfl, tyX0_ok, nmX0, rfl, by decide +kernel, fun h => by first | rfl | cases h⟩
theorem flX5_184 : FL RX5 184 4 1 := ⟨RX4, TX4, 3, rfl, by decide, iwX4, gt_at 137 (by decide +kernel) rfl⟩
theorem fpX5_184 : FP RX5 184 4 1 .int false := ⟨RX4, TX4, 3, tyX4, rfl, by decide, iwX4, gt_at 137 (by decide +kernel) rfl, tyX4_ok, nmX4, rfl, by decide +kernel, fun h => by first | rfl | cases h⟩
theorem flX5_187 : FL RX5 187 4 2 := ⟨RX4, TX4, 3, rfl, by decide, iwX4, gt_at 139 (by decide +kernel) rfl⟩
theorem fpX5_187 : FP RX5 187 4 2 .int false := ⟨RX4, TX4, 3, tyX4, rfl, by decide, iwX4, gt_at 139 (by decide +kernel) rfl, tyX4_ok, nmX4, rfl, by decide +kernel, fun h => by first | rfl | cases h⟩
theorem flX5_199 : FL RX5 199 0 2 := ⟨RX0, TX0, 13, rfl, by decide, iwX0, gt_at 33 (by decide +kernel) rfl⟩
theorem flX5_220 : FL RX5 220 0 10 := ⟨RX0, TX0, 13, rfl, by decide, iwX0, gt_at 44 (by decide +kernel) rfl⟩
theorem fpX5_220 : FP RX5 220 0 10 .int false := ⟨RX0, TX0, 13, tyX0, rfl, by decide, iwX0, gt_at 44 (by decide +kernel) rfl, tyX0_ok, nmX0, rfl, by decide +kernel, fun h => by first | rfl | cases h⟩
theorem flX5_223 : FL RX5 223 0 11 := ⟨RX0, TX0, 13, rfl, by decide, iwX0, gt_at 46 (by decide +kernel) rfl⟩
theorem fpX5_223 : FP RX5 223 0 11 .int false := ⟨RX0, TX0, 13, tyX0, rfl, by decide, iwX0, gt_at 46 (by decide +kernel) rfl, tyX0_ok, nmX0, rfl, by decide +kernel, fun h => by first | rfl | cases h⟩
theorem flX0_9 : FL RX0 9 0 0 := ⟨RX0, TX0, 13, rfl, by decide, iwX0, gt_at 26 (by decide +kernel) rfl⟩
theorem fpX0_9 : FP RX0 9 0 0 (.array .int) true := ⟨RX0, TX0, 13, tyX0, rfl, by decide, iwX0, gt_at 26 (by decide +kernel) rfl, tyX0_ok, nmX0, rfl, by decide +kernel, fun h => by first | rfl | cases h⟩
theorem flX0_15 : FL RX0 15 0 1 := ⟨RX0, TX0, 13, rfl, by decide, iwX0, gt_at 29 (by decide +kernel) rfl⟩
theorem fpX0_15 : FP RX0 15 0 1 (.array .int) true := ⟨RX0, TX0, 13, tyX0, rfl, by decide, iwX0, gt_at 29 (by decide +kernel) rfl, tyX0_ok, nmX0, rfl, by decide +kernel, fun h => by first | rfl | cases h⟩
theorem flX0_18 : FL RX0 18 0 2 := ⟨RX0, TX0, 13, rfl, by decide, iwX0, gt_at 32 (by decide +kernel) rfl⟩
theorem fpX0_18 : FP RX0 18 0 2 (.array .int) true := ⟨RX0, TX0, 13, tyX0, rfl, by decide, iwX0, gt_at 32 (by decide +kernel) rfl, tyX0_ok, nmX0, rfl, by decide +kernel, fun h => by first | rfl | cases h⟩
theorem flX0_21 : FL RX0 21 0 3 := ⟨RX0, TX0, 13, rfl, by decide, iwX0, gt_at 34 (by decide +kernel) rfl⟩
theorem fpX0_21 : FP RX0 21 0 3 (.array .int) true := ⟨RX0, TX0, 13, tyX0, rfl, by decide, iwX0, gt_at 34 (by decide +kernel) rfl, tyX0_ok, nmX0, rfl, by decide +kernel, fun h => by first | rfl | cases h⟩
theorem flX0_24 : FL RX0 24 0 4 := ⟨RX0, TX0, 13, rfl, by decide, iwX0, gt_at 35 (by decide +kernel) rfl⟩
theorem fpX0_24 : FP RX0 24 0 4 (.array .int) true := ⟨RX0, TX0, 13, tyX0, rfl, by decide, iwX0, gt_at 35 (by decide +kernel) rfl, tyX0_ok, nmX0, rfl, by decide +kernel, fun h => by first | rfl | cases h⟩
theorem flX0_27 : FL RX0 27 0 5 := ⟨RX0, TX0, 13, rfl, by decide, iwX0, gt_at 36 (by decide +kernel) rfl⟩
theorem fpX0_27 : FP RX0 27 0 5 (.array .int) true := ⟨RX0, TX0, 13, tyX0, rfl, by decide, iwX0, gt_at 36 (by decide +kernel) rfl, tyX0_ok, nmX0, rfl, by decide +kernel, fun h => by first | rfl | cases h⟩
theorem flX0_30 : FL RX0 30 0 6 := ⟨RX0, TX0, 13, rfl, by decide, iwX0, gt_at 37 (by decide +kernel) rfl⟩
theorem fpX0_30 : FP RX0 30 0 6 (.array .int) true := ⟨RX0, TX0, 13, tyX0, rfl, by decide, iwX0, gt_at 37 (by decide +kernel) rfl, tyX0_ok, nmX0, rfl, by decide +kernel, fun h => by first | rfl | cases h⟩
theorem flX0_33 : FL RX0 33 0 7 := ⟨RX0, TX0, 13, rfl, by decide, iwX0, gt_at 38 (by decide +kernel) rfl⟩
theorem fpX0_33 : FP RX0 33 0 7 .int false := ⟨RX0, TX0, 13, tyX0, rfl, by decide, iwX0, gt_at 38 (by decide +kernel) rfl, tyX0_ok, nmX0, rfl, by decide +kernel, fun h => by first | rfl | cases h⟩
theorem flX0_37 : FL RX0 37 0 8 := ⟨RX0, TX0, 13, rfl, by decide, iwX0, gt_at 40 (by decide +kernel) rfl⟩
theorem fpX0_37 : FP RX0 37 0 8 .int false := ⟨RX0, TX0, 13, tyX0, rfl, by decide, iwX0, gt_at 40 (by decide +kernel) rfl, tyX0_ok, nmX0, rfl, by decide +kernel, fun h => by first | rfl | cases h⟩
theorem flX0_40 : FL RX0 40 0 9 := ⟨RX0, TX0, 13, rfl, by decide, iwX0, gt_at 42 (by decide +kernel) rfl⟩
theorem fpX0_40 : FP RX0 40 0 9 .int false := ⟨RX0, TX0, 13, tyX0, rfl, by decide, iwX0, gt_at 42 (by decide +kernel) rfl, tyX0_ok, nmX0, rfl, by decide +kernel, fun h => by first | rfl | cases h⟩
theorem flX0_43 : FL RX0 43 0 10 := ⟨RX0, TX0, 13, rfl, by decide, iwX0, gt_at 43 (by decide +kernel) rfl⟩
theorem fpX0_43 : FP RX0 43 0 10 .int false := ⟨RX0, TX0, 13, tyX0, rfl, by decide, iwX0, gt_at 43 (by decide +kernel) rfl, tyX0_ok, nmX0, rfl, by decide +kernel, fun h => by first | rfl | cases h⟩
theorem flX0_46 : FL RX0 46 0 11 := ⟨RX0, TX0, 13, rfl, by decide, iwX0, gt_at 45 (by decide +kernel) rfl⟩
theorem fpX0_46 : FP RX0 46 0 11 .int false := ⟨RX0, TX0, 13, tyX0, rfl, by decide, iwX0, gt_at 45 (by decide +kernel) rfl, tyX0_ok, nmX0, rfl, by decide +kernel, fun h => by first | rfl | cases h⟩
theorem flX0_49 : FL RX0 49 0 12 := ⟨RX0, TX0, 13, rfl, by decide, iwX0, gt_at 47 (by decide +kernel) rfl⟩
theorem fpX0_49 : FP RX0 49 0 12 .int false := ⟨RX0, TX0, 13, tyX0, rfl, by decide, iwX0, gt_at 47 (by decide +kernel) rfl, tyX0_ok, nmX0, rfl, by decide +kernel, fun h => by first | rfl | cases h⟩
theorem flX1_9 : FL RX1 9 1 0 := ⟨RX1, TX1, 4, rfl, by decide, iwX1, gt_at 84 (by decide +kernel) rfl⟩
theorem fpX1_9 : FP RX1 9 1 0 (.array .int) true := ⟨RX1, TX1, 4, tyX1, rfl, by decide, iwX1, gt_at 84 (by decide +kernel) rfl, tyX1_ok, nmX1, rfl, by decide +kernel, fun h => by first | rfl | cases h⟩
theorem flX1_15 : FL RX1 15 1 1 := ⟨RX1, TX1, 4, rfl, by decide, iwX1, gt_at 85 (by decide +kernel) rfl⟩
theorem fpX1_15 : FP RX1 15 1 1 .int false := ⟨RX1, TX1, 4, tyX1, rfl, by decide, iwX1, gt_at 85 (by decide +kernel) rfl, tyX1_ok, nmX1, rfl, by decide +kernel, fun h => by first | rfl | cases h⟩
theorem flX1_19 : FL RX1 19 1 2 := ⟨RX1, TX1, 4, rfl, by decide, iwX1, gt_at 87 (by decide +kernel) rfl⟩
theorem fpX1_19 : FP RX1 19 1 2 .int false := ⟨RX1, TX1, 4, tyX1, rfl, by decide, iwX1, gt_at 87 (by decide +kernel) rfl, tyX1_ok, nmX1, rfl, by decide +kernel, fun h => by first | rfl | cases h⟩
theorem flX1_22 : FL RX1 22 1 3 := ⟨RX1, TX1, 4, rfl, by decide, iwX1, gt_at 89 (by decide +kernel) rfl⟩
theorem fpX1_22 : FP RX1 22 1 3 .int false := ⟨RX1, TX1, 4, tyX1, rfl, by decide, iwX1, gt_at 89 (by decide +kernel) rfl, tyX1_ok, nmX1, rfl, by decide +kernel, fun h => by first | rfl | cases h⟩
theorem flX2_9 : FL RX2 9 2 0 := ⟨RX2, TX2, 2, rfl, by decide, iwX2, gt_at 106 (by decide +kernel) rfl⟩
theorem fpX2_9 : FP RX2 9 2 0 (.array .int) true := ⟨RX2, TX2, 2, tyX2, rfl, by decide, iwX2, gt_at 106 (by decide +kernel) rfl, tyX2_ok, nmX2, rfl, by decide +kernel, fun h => by first | rfl | cases h⟩
theorem flX2_15 : FL RX2 15 2 1 := ⟨RX2, TX2, 2, rfl, by decide, iwX2, gt_at 107 (by decide +kernel) rfl⟩
theorem fpX2_15 : FP RX2 15 2 1 (.array .int) true := ⟨RX2, TX2, 2, tyX2, rfl, by decide, iwX2, gt_at 107 (by decide +kernel) rfl, tyX2_ok, nmX2, rfl, by decide +kernel, fun h => by first | rfl | cases h⟩
theorem flX3_9 : FL RX3 9 3 0 := ⟨RX3, TX3, 3, rfl, by decide, iwX3, gt_at 119 (by decide +kernel) rfl⟩
theorem fpX3_9 : FP RX3 9 3 0 (.array .int) true := ⟨RX3, TX3, 3, tyX3, rfl, by decide, iwX3, gt_at 119 (by decide +kernel) rfl, tyX3_ok, nmX3, rfl, by decide +kernel, fun h => by first | rfl | cases h⟩
theorem flX3_15 : FL RX3 15 3 1 := ⟨RX3, TX3, 3, rfl, by decide, iwX3, gt_at 120 (by decide +kernel) rfl⟩
theorem fpX3_15 : FP RX3 15 3 1 (.array .int) true := ⟨RX3, TX3, 3, tyX3, rfl, by decide, iwX3, gt_at 120 (by decide +kernel) rfl, tyX3_ok, nmX3, rfl, by decide +kernel, fun h => by first | rfl | cases h⟩
theorem flX3_18 : FL RX3 18 3 2 := ⟨RX3, TX3, 3, rfl, by decide, iwX3, gt_at 121 (by decide +kernel) rfl⟩
theorem fpX3_18 : FP RX3 18 3 2 (.array .int) true := ⟨RX3, TX3, 3, tyX3, rfl, by decide, iwX3, gt_at 121 (by decide +kernel) rfl, tyX3_ok, nmX3, rfl, by decide +kernel, fun h => by first | rfl | cases h⟩
theorem flX3_37 : FL RX3 37 0 0 := ⟨RX0, TX0, 13, rfl, by decide, iwX0, gt_at 27 (by decide +kernel) rfl⟩
theorem flX3_46 : FL RX3 46 0 1 := ⟨RX0, TX0, 13, rfl, by decide, iwX0, gt_at 30 (by decide +kernel) rfl⟩
theorem flX4_9 : FL RX4 9 4 0 := ⟨RX4, TX4, 3, rfl, by decide, iwX4, gt_at 135 (by decide +kernel) rfl⟩
theorem fpX4_9 : FP RX4 9 4 0 (.array .int) true := ⟨RX4, TX4, 3, tyX4, rfl, by decide, iwX4, gt_at 135 (by decide +kernel) rfl, tyX4_ok, nmX4, rfl, by decide +kernel, fun h => by first | rfl | cases h⟩
theorem flX4_15 : FL RX4 15 4 1 := ⟨RX4, TX4, 3, rfl, by decide, iwX4, gt_at 136 (by decide +kernel) rfl⟩
theorem fpX4_15 : FP RX4 15 4 1 .int false := ⟨RX4, TX4, 3, tyX4, rfl, by decide, iwX4, gt_at 136 (by decide +kernel) rfl, tyX4_ok, nmX4, rfl, by decide +kernel, fun h => by first | rfl | cases h⟩
theorem flX4_19 : FL RX4 19 4 2 := ⟨RX4, TX4, 3, rfl, by decide, iwX4, gt_at 138 (by decide +kernel) rfl⟩
theorem fpX4_19 : FP RX4 19 4 2 .int false := ⟨RX4, TX4, 3, tyX4, rfl, by decide, iwX4, gt_at 138 (by decide +kernel) rfl, tyX4_ok, nmX4, rfl, by decide +kernel, fun h => by first | rfl | cases h⟩
theorem flX6_7 : FL RX6 7 6 1 := ⟨RX6, TX6, 32, rfl, by decide, iwX6, gt_at 580 (by decide +kernel) rfl⟩
theorem fpX6_7 : FP RX6 7 6 1 (.array .int) true := ⟨RX6, TX6, 32, tyX6, rfl, by decide, iwX6, gt_at 580 (by decide +kernel) rfl, tyX6_ok, nmX6, rfl, by decide +kernel, fun h => by first | rfl | cases h⟩
theorem flX6_13 : FL RX6 13 6 4 := ⟨RX6, TX6, 32, rfl, by decide, iwX6, gt_at 583 (by decide +kernel) rfl⟩
theorem fpX6_13 : FP RX6 13 6 4 .int false := ⟨RX6, TX6, 32, tyX6, rfl, by decide, iwX6, gt_at 583 (by decide +kernel) rfl, tyX6_ok, nmX6, rfl, by decide +kernel, fun h => by first | rfl | cases h⟩
theorem flX6_17 : FL RX6 17 6 6 := ⟨RX6, TX6, 32, rfl, by decide, iwX6, gt_at 585 (by decide +kernel) rfl⟩
theorem fpX6_17 : FP RX6 17 6 6 (.array .int) true := ⟨RX6, TX6, 32, tyX6, rfl, by decide, iwX6, gt_at 585 (by decide +kernel) rfl, tyX6_ok, nmX6, rfl, by decide +kernel, fun h => by first | rfl | cases h⟩
theorem flX6_20 : FL RX6 20 6 7 := ⟨RX6, TX6, 32, rfl, by decide, iwX6, gt_at 586 (by decide +kernel) rfl⟩
theorem fpX6_20 : FP RX6 20 6 7 (.array .int) true := ⟨RX6, TX6, 32, tyX6, rfl, by decide, iwX6, gt_at 586 (by decide +kernel) rfl, tyX6_ok, nmX6, rfl, by decide +kernel, fun h => by first | rfl | cases h⟩
theorem flX6_23 : FL RX6 23 6 8 := ⟨RX6, TX6, 32, rfl, by decide, iwX6, gt_at 587 (by decide +kernel) rfl⟩
theorem fpX6_23 : FP RX6 23 6 8 (.array .int) true := ⟨RX6, TX6, 32, tyX6, rfl, by decide, iwX6, gt_at 587 (by decide +kernel) rfl, tyX6_ok, nmX6, rfl, by decide +kernel, fun h => by first | rfl | cases h⟩
theorem flX6_26 : FL RX6 26 6 9 := ⟨RX6, TX6, 32, rfl, by decide, iwX6, gt_at 588 (by decide +kernel) rfl⟩
theorem fpX6_26 : FP RX6 26 6 9 (.array .int) true := ⟨RX6, TX6, 32, tyX6, rfl, by decide, iwX6, gt_at 588 (by decide +kernel) rfl, tyX6_ok, nmX6, rfl, by decide +kernel, fun h => by first | rfl | cases h⟩
theorem flX6_29 : FL RX6 29 6 10 := ⟨RX6, TX6, 32, rfl, by decide, iwX6, gt_at 589 (by decide +kernel) rfl⟩
theorem fpX6_29 : FP RX6 29 6 10 (.array .int) true := ⟨RX6, TX6, 32, tyX6, rfl, by decide, iwX6, gt_at 589 (by decide +kernel) rfl, tyX6_ok, nmX6, rfl, by decide +kernel, fun h => by first | rfl | cases h⟩
theorem flX6_32 : FL RX6 32 6 13 := ⟨RX6, TX6, 32, rfl, by decide, iwX6, gt_at 592 (by decide +kernel) rfl⟩
theorem fpX6_32 : FP RX6 32 6 13 (.array .int) true := ⟨RX6, TX6, 32, tyX6, rfl, by decide, iwX6, gt_at 592 (by decide +kernel) rfl, tyX6_ok, nmX6, rfl, by decide +kernel, fun h => by first | rfl | cases h⟩
theorem flX6_35 : FL RX6 35 6 14 := ⟨RX6, TX6, 32, rfl, by decide, iwX6, gt_at 593 (by decide +kernel) rfl⟩
theorem fpX6_35 : FP RX6 35 6 14 (.array .int) true := ⟨RX6, TX6, 32, tyX6, rfl, by decide, iwX6, gt_at 593 (by decide +kernel) rfl, tyX6_ok, nmX6, rfl, by decide +kernel, fun h => by first | rfl | cases h⟩
theorem flX6_38 : FL RX6 38 6 15 := ⟨RX6, TX6, 32, rfl, by decide, iwX6, gt_at 594 (by decide +kernel) rfl⟩
theorem fpX6_38 : FP RX6 38 6 15 (.array .int) true := ⟨RX6, TX6, 32, tyX6, rfl, by decide, iwX6, gt_at 594 (by decide +kernel) rfl, tyX6_ok, nmX6, rfl, by decide +kernel, fun h => by first | rfl | cases h⟩
theorem flX6_41 : FL RX6 41 6 16 := ⟨RX6, TX6, 32, rfl, by decide, iwX6, gt_at 595 (by decide +kernel) rfl⟩
theorem fpX6_41 : FP RX6 41 6 16 (.array .int) true := ⟨RX6, TX6, 32, tyX6, rfl, by decide, iwX6, gt_at 595 (by decide +kernel) rfl, tyX6_ok, nmX6, rfl, by decide +kernel, fun h => by first | rfl | cases h⟩
theorem flX6_44 : FL RX6 44 6 17 := ⟨RX6, TX6, 32, rfl, by decide, iwX6, gt_at 596 (by decide +kernel) rfl⟩
theorem fpX6_44 : FP RX6 44 6 17 (.array .int) true := ⟨RX6, TX6, 32, tyX6, rfl, by decide, iwX6, gt_at 596 (by decide +kernel) rfl, tyX6_ok, nmX6, rfl, by decide +kernel, fun h => by first | rfl | cases h⟩
theorem flX6_47 : FL RX6 47 6 24 := ⟨RX6, TX6, 32, rfl, by decide, iwX6, gt_at 603 (by decide +kernel) rfl⟩
theorem fpX6_47 : FP RX6 47 6 24 (.array .boolean) true := ⟨RX6, TX6, 32, tyX6, rfl, by decide, iwX6, gt_at 603 (by decide +kernel) rfl, tyX6_ok, nmX6, rfl, by decide +kernel, fun h => by first | rfl | cases h⟩
theorem flX6_51 : FL RX6 51 6 28 := ⟨RX6, TX6, 32, rfl, by decide, iwX6, gt_at 607 (by decide +kernel) rfl⟩
theorem fpX6_51 : FP RX6 51 6 28 (.array .int) true := ⟨RX6, TX6, 32, tyX6, rfl, by decide, iwX6, gt_at 607 (by decide +kernel) rfl, tyX6_ok, nmX6, rfl, by decide +kernel, fun h => by first | rfl | cases h⟩
theorem flX6_54 : FL RX6 54 6 29 := ⟨RX6, TX6, 32, rfl, by decide, iwX6, gt_at 608 (by decide +kernel) rfl⟩
theorem fpX6_54 : FP RX6 54 6 29 (.array .int) true := ⟨RX6, TX6, 32, tyX6, rfl, by decide, iwX6, gt_at 608 (by decide +kernel) rfl, tyX6_ok, nmX6, rfl, by decide +kernel, fun h => by first | rfl | cases h⟩
theorem flX6_57 : FL RX6 57 6 30 := ⟨RX6, TX6, 32, rfl, by decide, iwX6, gt_at 609 (by decide +kernel) rfl⟩
theorem fpX6_57 : FP RX6 57 6 30 (.array .int) true := ⟨RX6, TX6, 32, tyX6, rfl, by decide, iwX6, gt_at 609 (by decide +kernel) rfl, tyX6_ok, nmX6, rfl, by decide +kernel, fun h => by first | rfl | cases h⟩
theorem flX6_60 : FL RX6 60 6 31 := ⟨RX6, TX6, 32, rfl, by decide, iwX6, gt_at 610 (by decide +kernel) rfl⟩
theorem fpX6_60 : FP RX6 60 6 31 (.array .boolean) true := ⟨RX6, TX6, 32, tyX6, rfl, by decide, iwX6, gt_at 610 (by decide +kernel) rfl, tyX6_ok, nmX6, rfl, by decide +kernel, fun h => by first | rfl | cases h⟩
theorem flX6_63 : FL RX6 63 6 0 := ⟨RX6, TX6, 32, rfl, by decide, iwX6, gt_at 579 (by decide +kernel) rfl⟩
theorem fpX6_63 : FP RX6 63 6 0 .int false := ⟨RX6, TX6, 32, tyX6, rfl, by decide, iwX6, gt_at 579 (by decide +kernel) rfl, tyX6_ok, nmX6, rfl, by decide +kernel, fun h => by first | rfl | cases h⟩
theorem flX6_82 : FL RX6 82 6 2 := ⟨RX6, TX6, 32, rfl, by decide, iwX6, gt_at 581 (by decide +kernel) rfl⟩
theorem fpX6_82 : FP RX6 82 6 2 .int false := ⟨RX6, TX6, 32, tyX6, rfl, by decide, iwX6, gt_at 581 (by decide +kernel) rfl, tyX6_ok, nmX6, rfl, by decide +kernel, fun h => by first | rfl | cases h⟩
theorem flX6_85 : FL RX6 85 6 3 := ⟨RX6, TX6, 32, rfl, by decide, iwX6, gt_at 582 (by decide +kernel) rfl⟩
theorem fpX6_85 : FP RX6 85 6 3 .int false := ⟨RX6, TX6, 32, tyX6, rfl, by decide, iwX6, gt_at 582 (by decide +kernel) rfl, tyX6_ok, nmX6, rfl, by decide +kernel, fun h => by first | rfl | cases h⟩
theorem flX6_88 : FL RX6 88 6 11 := ⟨RX6, TX6, 32, rfl, by decide, iwX6, gt_at 590 (by decide +kernel) rfl⟩
theorem fpX6_88 : FP RX6 88 6 11 .int false := ⟨RX6, TX6, 32, tyX6, rfl, by decide, iwX6, gt_at 590 (by decide +kernel) rfl, tyX6_ok, nmX6, rfl, by decide +kernel, fun h => by first | rfl | cases h⟩
theorem flX6_91 : FL RX6 91 6 12 := ⟨RX6, TX6, 32, rfl, by decide, iwX6, gt_at 591 (by decide +kernel) rfl⟩
theorem fpX6_91 : FP RX6 91 6 12 .int false := ⟨RX6, TX6, 32, tyX6, rfl, by decide, iwX6, gt_at 591 (by decide +kernel) rfl, tyX6_ok, nmX6, rfl, by decide +kernel, fun h => by first | rfl | cases h⟩
theorem flX6_101 : FL RX6 101 6 18 := ⟨RX6, TX6, 32, rfl, by decide, iwX6, gt_at 597 (by decide +kernel) rfl⟩
theorem fpX6_101 : FP RX6 101 6 18 .int false := ⟨RX6, TX6, 32, tyX6, rfl, by decide, iwX6, gt_at 597 (by decide +kernel) rfl, tyX6_ok, nmX6, rfl, by decide +kernel, fun h => by first | rfl | cases h⟩
theorem flX6_104 : FL RX6 104 6 19 := ⟨RX6, TX6, 32, rfl, by decide, iwX6, gt_at 598 (by decide +kernel) rfl⟩
theorem fpX6_104 : FP RX6 104 6 19 .int false := ⟨RX6, TX6, 32, tyX6, rfl, by decide, iwX6, gt_at 598 (by decide +kernel) rfl, tyX6_ok, nmX6, rfl, by decide +kernel, fun h => by first | rfl | cases h⟩
theorem flX6_107 : FL RX6 107 6 20 := ⟨RX6, TX6, 32, rfl, by decide, iwX6, gt_at 599 (by decide +kernel) rfl⟩
theorem fpX6_107 : FP RX6 107 6 20 .int false := ⟨RX6, TX6, 32, tyX6, rfl, by decide, iwX6, gt_at 599 (by decide +kernel) rfl, tyX6_ok, nmX6, rfl, by decide +kernel, fun h => by first | rfl | cases h⟩
theorem flX6_110 : FL RX6 110 6 21 := ⟨RX6, TX6, 32, rfl, by decide, iwX6, gt_at 600 (by decide +kernel) rfl⟩
theorem fpX6_110 : FP RX6 110 6 21 .int false := ⟨RX6, TX6, 32, tyX6, rfl, by decide, iwX6, gt_at 600 (by decide +kernel) rfl, tyX6_ok, nmX6, rfl, by decide +kernel, fun h => by first | rfl | cases h⟩
theorem flX6_140 : FL RX6 140 6 23 := ⟨RX6, TX6, 32, rfl, by decide, iwX6, gt_at 602 (by decide +kernel) rfl⟩
theorem fpX6_140 : FP RX6 140 6 23 .int false := ⟨RX6, TX6, 32, tyX6, rfl, by decide, iwX6, gt_at 602 (by decide +kernel) rfl, tyX6_ok, nmX6, rfl, by decide +kernel, fun h => by first | rfl | cases h⟩
theorem flX6_146 : FL RX6 146 6 22 := ⟨RX6, TX6, 32, rfl, by decide, iwX6, gt_at 601 (by decide +kernel) rfl⟩
theorem fpX6_146 : FP RX6 146 6 22 .int false := ⟨RX6, TX6, 32, tyX6, rfl, by decide, iwX6, gt_at 601 (by decide +kernel) rfl, tyX6_ok, nmX6, rfl, by decide +kernel, fun h => by first | rfl | cases h⟩
theorem flX6_174 : FL RX6 174 6 5 := ⟨RX6, TX6, 32, rfl, by decide, iwX6, gt_at 584 (by decide +kernel) rfl⟩
theorem fpX6_174 : FP RX6 174 6 5 .int false := ⟨RX6, TX6, 32, tyX6, rfl, by decide, iwX6, gt_at 584 (by decide +kernel) rfl, tyX6_ok, nmX6, rfl, by decide +kernel, fun h => by first | rfl | cases h⟩
theorem flX6_177 : FL RX6 177 6 25 := ⟨RX6, TX6, 32, rfl, by decide, iwX6, gt_at 604 (by decide +kernel) rfl⟩
theorem fpX6_177 : FP RX6 177 6 25 .int false := ⟨RX6, TX6, 32, tyX6, rfl, by decide, iwX6, gt_at 604 (by decide +kernel) rfl, tyX6_ok, nmX6, rfl, by decide +kernel, fun h => by first | rfl | cases h⟩
theorem flX6_180 : FL RX6 180 6 26 := ⟨RX6, TX6, 32, rfl, by decide, iwX6, gt_at 605 (by decide +kernel) rfl⟩
theorem fpX6_180 : FP RX6 180 6 26 .int false := ⟨RX6, TX6, 32, tyX6, rfl, by decide, iwX6, gt_at 605 (by decide +kernel) rfl, tyX6_ok, nmX6, rfl, by decide +kernel, fun h => by first | rfl | cases h⟩
theorem flX6_183 : FL RX6 183 6 27 := ⟨RX6, TX6, 32, rfl, by decide, iwX6, gt_at 606 (by decide +kernel) rfl⟩
theorem fpX6_183 : FP RX6 183 6 27 .int false := ⟨RX6, TX6, 32, tyX6, rfl, by decide, iwX6, gt_at 606 (by decide +kernel) rfl, tyX6_ok, nmX6, rfl, by decide +kernel, fun h => by first | rfl | cases h⟩
theorem lkX5_3 : LK RX5 3 objectInit := gt_at 17 (by decide +kernel) rfl
theorem lkX5_51 : LK RX5 51 yX5_within := gt_at 173 (by decide +kernel) rfl
theorem lkX5_55 : LK RX5 55 yX0_settle := gt_at 176 (by decide +kernel) rfl
theorem lkX5_59 : LK RX5 59 yX0_count := gt_at 180 (by decide +kernel) rfl
theorem lkX5_63 : LK RX5 63 yX0_has := gt_at 194 (by decide +kernel) rfl
theorem lkX5_67 : LK RX5 67 yX0_leave := gt_at 198 (by decide +kernel) rfl
theorem lkX5_75 : LK RX5 75 yX1_write := gt_at 210 (by decide +kernel) rfl
theorem lkX5_81 : LK RX5 81 yX1_faultPlace := gt_at 222 (by decide +kernel) rfl
theorem lkX5_84 : LK RX5 84 yX5_draftNights := gt_at 240 (by decide +kernel) rfl
theorem lkX5_94 : LK RX5 94 yX0_become := gt_at 244 (by decide +kernel) rfl
theorem lkX5_98 : LK RX5 98 yX0_tell := gt_at 309 (by decide +kernel) rfl
theorem lkX5_102 : LK RX5 102 yX0_bareTrees := gt_at 321 (by decide +kernel) rfl
theorem lkX5_108 : LK RX5 108 yX0_robbedTrees := gt_at 325 (by decide +kernel) rfl
theorem lkX5_111 : LK RX5 111 yX0_greatestHeap := gt_at 329 (by decide +kernel) rfl
theorem lkX5_114 : LK RX5 114 yX0_canRobNow := gt_at 337 (by decide +kernel) rfl
theorem lkX5_118 : LK RX5 118 yX0_mayRobOf := gt_at 345 (by decide +kernel) rfl
theorem lkX5_121 : LK RX5 121 yX0_wantedTogether := gt_at 361 (by decide +kernel) rfl
theorem lkX5_124 : LK RX5 124 yX5_mostThefts := gt_at 372 (by decide +kernel) rfl
theorem lkX5_128 : LK RX5 128 yX2_longestRound := gt_at 390 (by decide +kernel) rfl
theorem lkX5_132 : LK RX5 132 yX0_hasTwo := gt_at 420 (by decide +kernel) rfl
theorem lkX5_136 : LK RX5 136 yX2_longestChain := gt_at 421 (by decide +kernel) rfl
theorem lkX5_143 : LK RX5 143 yX0_load := gt_at 429 (by decide +kernel) rfl
theorem lkX5_149 : LK RX5 149 yJ9_min_7cf53 := gt_at 381 (by decide +kernel) rfl
theorem lkX5_154 : LK RX5 154 yX0_addSight := gt_at 434 (by decide +kernel) rfl
theorem lkX5_160 : LK RX5 160 yX3_countWithout := gt_at 446 (by decide +kernel) rfl
theorem lkX5_164 : LK RX5 164 yX3_total := gt_at 469 (by decide +kernel) rfl
theorem lkX5_167 : LK RX5 167 yX3_outInSome := gt_at 477 (by decide +kernel) rfl
theorem lkX5_170 : LK RX5 170 yX3_outInAll := gt_at 481 (by decide +kernel) rfl
theorem lkX5_173 : LK RX5 173 yX0_hasSightOf := gt_at 490 (by decide +kernel) rfl
theorem lkX5_176 : LK RX5 176 yX3_mostLeftBy := gt_at 494 (by decide +kernel) rfl
theorem lkX5_180 : LK RX5 180 yX4_play := gt_at 505 (by decide +kernel) rfl
theorem lkX5_194 : LK RX5 194 yX0_robBar := gt_at 522 (by decide +kernel) rfl
theorem lkX5_202 : LK RX5 202 yJ9_max_7cf53 := gt_at 524 (by decide +kernel) rfl
theorem lkX5_205 : LK RX5 205 yX5_sharedWithTenths := gt_at 525 (by decide +kernel) rfl
theorem lkX5_208 : LK RX5 208 yX0_smallerHeaps := gt_at 532 (by decide +kernel) rfl
theorem lkX5_211 : LK RX5 211 yX0_runYear := gt_at 540 (by decide +kernel) rfl
theorem lkX5_214 : LK RX5 214 yX0_heapsTogether := gt_at 549 (by decide +kernel) rfl
theorem lkX5_217 : LK RX5 217 yX0_applesTogether := gt_at 553 (by decide +kernel) rfl
theorem lkX5_226 : LK RX5 226 yX5_toldBag := gt_at 569 (by decide +kernel) rfl
theorem lkX5_229 : LK RX5 229 yX1_runOn := gt_at 251 (by decide +kernel) rfl
theorem lkX5_233 : LK RX5 233 yJ6_bitCount_0f7a4 := gt_at 375 (by decide +kernel) rfl
theorem lkX5_238 : LK RX5 238 yX0_thievesOf := gt_at 376 (by decide +kernel) rfl
theorem lkX5_241 : LK RX5 241 yX0_wanted := gt_at 380 (by decide +kernel) rfl
theorem lkX0_3 : LK RX0 3 objectInit := gt_at 25 (by decide +kernel) rfl
theorem lkX0_58 : LK RX0 58 yX0_has := gt_at 267 (by decide +kernel) rfl
theorem lkX0_62 : LK RX0 62 yJ6_bitCount_0f7a4 := gt_at 184 (by decide +kernel) rfl
theorem lkX0_68 : LK RX0 68 yX0_holds := gt_at 268 (by decide +kernel) rfl
theorem lkX0_72 : LK RX0 72 yJ9_min_7cf53 := gt_at 287 (by decide +kernel) rfl
theorem lkX0_78 : LK RX0 78 yX0_isGuarded := gt_at 271 (by decide +kernel) rfl
theorem lkX0_81 : LK RX0 81 yX0_hasTwo := gt_at 353 (by decide +kernel) rfl
theorem lkX0_84 : LK RX0 84 yX0_robBar := gt_at 263 (by decide +kernel) rfl
theorem lkX0_87 : LK RX0 87 yX0_mayRob := gt_at 349 (by decide +kernel) rfl
theorem lkX0_90 : LK RX0 90 yX0_catchBar := gt_at 275 (by decide +kernel) rfl
theorem lkX0_93 : LK RX0 93 yX0_actBar := gt_at 259 (by decide +kernel) rfl
theorem lkX0_97 : LK RX0 97 yX0_rob := gt_at 279 (by decide +kernel) rfl
theorem lkX0_101 : LK RX0 101 yX0_giveBack := gt_at 290 (by decide +kernel) rfl
theorem lkX0_104 : LK RX0 104 yX0_endYear := gt_at 294 (by decide +kernel) rfl
theorem lkX0_107 : LK RX0 107 yX0_load := gt_at 283 (by decide +kernel) rfl
theorem lkX0_110 : LK RX0 110 yJ7_fill_53178 := gt_at 298 (by decide +kernel) rfl
theorem lkX0_117 : LK RX0 117 yX0_drawnKind := gt_at 545 (by decide +kernel) rfl
theorem lkX0_120 : LK RX0 120 yX0_tryAct := gt_at 548 (by decide +kernel) rfl
theorem lkX0_123 : LK RX0 123 yJ9_max_7cf53 := gt_at 369 (by decide +kernel) rfl
theorem lkX0_126 : LK RX0 126 yX0_wanted := gt_at 365 (by decide +kernel) rfl
theorem lkX1_3 : LK RX1 3 objectInit := gt_at 83 (by decide +kernel) rfl
theorem lkX1_25 : LK RX1 25 yX1_endsAct := gt_at 226 (by decide +kernel) rfl
theorem lkX1_29 : LK RX1 29 yX1_isLetter := gt_at 229 (by decide +kernel) rfl
theorem lkX1_32 : LK RX1 32 yX1_standsAlone := gt_at 233 (by decide +kernel) rfl
theorem lkX1_35 : LK RX1 35 yX0_tryAct := gt_at 255 (by decide +kernel) rfl
theorem lkX2_3 : LK RX2 3 objectInit := gt_at 105 (by decide +kernel) rfl
theorem lkX2_18 : LK RX2 18 yX2_readNext := gt_at 394 (by decide +kernel) rfl
theorem lkX2_22 : LK RX2 22 yX2_followFrom := gt_at 399 (by decide +kernel) rfl
theorem lkX2_26 : LK RX2 26 yX2_longestEnding := gt_at 410 (by decide +kernel) rfl
theorem lkX2_30 : LK RX2 30 yX0_thievesOf := gt_at 409 (by decide +kernel) rfl
theorem lkX2_35 : LK RX2 35 yJ9_max_7cf53 := gt_at 415 (by decide +kernel) rfl
theorem lkX2_41 : LK RX2 41 yX0_mayRobOf := gt_at 398 (by decide +kernel) rfl
theorem lkX2_44 : LK RX2 44 yJ7_fill_53178 := gt_at 403 (by decide +kernel) rfl
theorem lkX2_50 : LK RX2 50 yX2_leadsTo := gt_at 404 (by decide +kernel) rfl
theorem lkX2_54 : LK RX2 54 yX0_holds := gt_at 408 (by decide +kernel) rfl
theorem lkX2_57 : LK RX2 57 yJ6_bitCount_0f7a4 := gt_at 414 (by decide +kernel) rfl
theorem lkX3_3 : LK RX3 3 objectInit := gt_at 118 (by decide +kernel) rfl
theorem lkX3_21 : LK RX3 21 yJ7_fill_53178 := gt_at 450 (by decide +kernel) rfl
theorem lkX3_27 : LK RX3 27 yX3_fillLeft := gt_at 451 (by decide +kernel) rfl
theorem lkX3_31 : LK RX3 31 yX3_keepFitting := gt_at 457 (by decide +kernel) rfl
theorem lkX3_34 : LK RX3 34 yX3_spread := gt_at 465 (by decide +kernel) rfl
theorem lkX3_42 : LK RX3 42 yX0_robBar := gt_at 455 (by decide +kernel) rfl
theorem lkX3_49 : LK RX3 49 yJ9_min_7cf53 := gt_at 456 (by decide +kernel) rfl
theorem lkX3_54 : LK RX3 54 yX0_fitsSights := gt_at 461 (by decide +kernel) rfl
theorem lkX3_58 : LK RX3 58 yX3_waysWithin := gt_at 473 (by decide +kernel) rfl
theorem lkX3_62 : LK RX3 62 yX3_total := gt_at 485 (by decide +kernel) rfl
theorem lkX3_66 : LK RX3 66 yX3_countWithout := gt_at 498 (by decide +kernel) rfl
theorem lkX3_73 : LK RX3 73 yJ9_max_7cf53 := gt_at 500 (by decide +kernel) rfl
theorem lkX4_3 : LK RX4 3 objectInit := gt_at 134 (by decide +kernel) rfl
theorem lkX4_22 : LK RX4 22 yJ6_bitCount_0f7a4 := gt_at 509 (by decide +kernel) rfl
theorem lkX4_28 : LK RX4 28 yX4_takeBest := gt_at 510 (by decide +kernel) rfl
theorem lkX4_32 : LK RX4 32 yX0_holds := gt_at 514 (by decide +kernel) rfl
theorem lkX4_38 : LK RX4 38 yX0_load := gt_at 515 (by decide +kernel) rfl
theorem lkL_9 : LK RL 9 yX5_init := gt_at 14 (by decide +kernel) rfl
theorem lkL_12 : LK RL 12 yX6_init := gt_at 575 (by decide +kernel) rfl
theorem lkL_13 : LK RL 13 yX5_neighbour := gt_at 169 (by decide +kernel) rfl
theorem lkL_17 : LK RL 17 yX6_neighbour := gt_at 677 (by decide +kernel) rfl
theorem lkL_18 : LK RL 18 yX5_move := gt_at 190 (by decide +kernel) rfl
theorem lkL_22 : LK RL 22 yX6_move := gt_at 690 (by decide +kernel) rfl
theorem lkL_23 : LK RL 23 yX5_frost := gt_at 202 (by decide +kernel) rfl
theorem lkL_26 : LK RL 26 yX6_frost := gt_at 698 (by decide +kernel) rfl
theorem lkL_27 : LK RL 27 yX5_say := gt_at 206 (by decide +kernel) rfl
theorem lkL_30 : LK RL 30 yX6_say := gt_at 702 (by decide +kernel) rfl
theorem lkL_31 : LK RL 31 yX5_wipe := gt_at 214 (by decide +kernel) rfl
theorem lkL_35 : LK RL 35 yX6_wipe := gt_at 706 (by decide +kernel) rfl
theorem lkL_36 : LK RL 36 yX5_fault := gt_at 218 (by decide +kernel) rfl
theorem lkL_39 : LK RL 39 yX6_fault := gt_at 710 (by decide +kernel) rfl
theorem lkL_40 : LK RL 40 yX5_judge := gt_at 236 (by decide +kernel) rfl
theorem lkL_43 : LK RL 43 yX6_judge := gt_at 721 (by decide +kernel) rfl
theorem lkL_44 : LK RL 44 yX5_done := gt_at 301 (by decide +kernel) rfl
theorem lkL_47 : LK RL 47 yX6_done := gt_at 769 (by decide +kernel) rfl
theorem lkL_48 : LK RL 48 yX5_state := gt_at 305 (by decide +kernel) rfl
theorem lkL_52 : LK RL 52 yX6_state := gt_at 777 (by decide +kernel) rfl
theorem lkL_53 : LK RL 53 yX5_behind := gt_at 313 (by decide +kernel) rfl
theorem lkL_56 : LK RL 56 yX6_behind := gt_at 785 (by decide +kernel) rfl
theorem lkL_57 : LK RL 57 yX5_trees := gt_at 317 (by decide +kernel) rfl
theorem lkL_60 : LK RL 60 yX6_trees := gt_at 789 (by decide +kernel) rfl
theorem lkL_61 : LK RL 61 yX5_may := gt_at 333 (by decide +kernel) rfl
theorem lkL_64 : LK RL 64 yX6_may := gt_at 793 (by decide +kernel) rfl
theorem lkL_65 : LK RL 65 yX5_safe := gt_at 341 (by decide +kernel) rfl
theorem lkL_68 : LK RL 68 yX6_safe := gt_at 797 (by decide +kernel) rfl
theorem lkL_69 : LK RL 69 yX5_stripped := gt_at 357 (by decide +kernel) rfl
theorem lkL_72 : LK RL 72 yX6_stripped := gt_at 805 (by decide +kernel) rfl
theorem lkL_73 : LK RL 73 yX5_thefts := gt_at 382 (by decide +kernel) rfl
theorem lkL_76 : LK RL 76 yX6_thefts := gt_at 818 (by decide +kernel) rfl
theorem lkL_77 : LK RL 77 yX5_round := gt_at 386 (by decide +kernel) rfl
theorem lkL_80 : LK RL 80 yX6_round := gt_at 822 (by decide +kernel) rfl
theorem lkL_81 : LK RL 81 yX5_chain := gt_at 416 (by decide +kernel) rfl
theorem lkL_84 : LK RL 84 yX6_chain := gt_at 830 (by decide +kernel) rfl
theorem lkL_85 : LK RL 85 yX5_exchange := gt_at 425 (by decide +kernel) rfl
theorem lkL_88 : LK RL 88 yX6_exchange := gt_at 834 (by decide +kernel) rfl
theorem lkL_89 : LK RL 89 yX5_seen := gt_at 430 (by decide +kernel) rfl
theorem lkL_92 : LK RL 92 yX6_seen := gt_at 838 (by decide +kernel) rfl
theorem lkL_93 : LK RL 93 yX5_forget := gt_at 438 (by decide +kernel) rfl
theorem lkL_96 : LK RL 96 yX6_forget := gt_at 842 (by decide +kernel) rfl
theorem lkL_97 : LK RL 97 yX5_boots := gt_at 442 (by decide +kernel) rfl
theorem lkL_100 : LK RL 100 yX6_boots := gt_at 846 (by decide +kernel) rfl
theorem lkL_101 : LK RL 101 yX5_look := gt_at 486 (by decide +kernel) rfl
theorem lkL_104 : LK RL 104 yX6_look := gt_at 859 (by decide +kernel) rfl
theorem lkL_105 : LK RL 105 yX5_duel := gt_at 501 (by decide +kernel) rfl
theorem lkL_109 : LK RL 109 yX6_duel := gt_at 863 (by decide +kernel) rfl
theorem lkL_110 : LK RL 110 yX5_caught := gt_at 516 (by decide +kernel) rfl
theorem lkL_114 : LK RL 114 yX6_caught := gt_at 872 (by decide +kernel) rfl
theorem lkL_115 : LK RL 115 yX5_moons := gt_at 528 (by decide +kernel) rfl
theorem lkL_118 : LK RL 118 yX6_moons := gt_at 880 (by decide +kernel) rfl
theorem lkL_119 : LK RL 119 yX5_year := gt_at 536 (by decide +kernel) rfl
theorem lkL_122 : LK RL 122 yX6_year := gt_at 884 (by decide +kernel) rfl
theorem lkL_123 : LK RL 123 yX5_image := gt_at 557 (by decide +kernel) rfl
theorem lkL_126 : LK RL 126 yX6_image := gt_at 889 (by decide +kernel) rfl
theorem lkL_127 : LK RL 127 yX5_restore := gt_at 561 (by decide +kernel) rfl
theorem lkL_130 : LK RL 130 yX6_restore := gt_at 893 (by decide +kernel) rfl
theorem lkL_131 : LK RL 131 yX5_told := gt_at 565 (by decide +kernel) rfl
theorem lkL_134 : LK RL 134 yX6_told := gt_at 897 (by decide +kernel) rfl
theorem lkX6_1 : LK RX6 1 objectInit := gt_at 578 (by decide +kernel) rfl
theorem lkX6_66 : LK RX6 66 yX6_in := gt_at 681 (by decide +kernel) rfl
theorem lkX6_70 : LK RX6 70 yX6_has := gt_at 684 (by decide +kernel) rfl
theorem lkX6_74 : LK RX6 74 yX6_bits := gt_at 687 (by decide +kernel) rfl
theorem lkX6_78 : LK RX6 78 yX6_isThere := gt_at 694 (by decide +kernel) rfl
theorem lkX6_94 : LK RX6 94 yX6_isLetter := gt_at 718 (by decide +kernel) rfl
theorem lkX6_97 : LK RX6 97 yX6_faultOf := gt_at 714 (by decide +kernel) rfl
theorem lkX6_113 : LK RX6 113 yX6_bar := gt_at 749 (by decide +kernel) rfl
theorem lkX6_117 : LK RX6 117 yX6_takes := gt_at 757 (by decide +kernel) rfl
theorem lkX6_120 : LK RX6 120 yX6_whyNot := gt_at 745 (by decide +kernel) rfl
theorem lkX6_123 : LK RX6 123 yX6_rob := gt_at 753 (by decide +kernel) rfl
theorem lkX6_127 : LK RX6 127 yX6_whyNotCaught := gt_at 761 (by decide +kernel) rfl
theorem lkX6_130 : LK RX6 130 yX6_caughtNow := gt_at 765 (by decide +kernel) rfl
theorem lkX6_134 : LK RX6 134 yX6_nobodyOut := gt_at 737 (by decide +kernel) rfl
theorem lkX6_137 : LK RX6 137 yX6_asNow := gt_at 729 (by decide +kernel) rfl
theorem lkX6_143 : LK RX6 143 yX6_endNight := gt_at 733 (by decide +kernel) rfl
theorem lkX6_149 : LK RX6 149 yX6_act := gt_at 741 (by decide +kernel) rfl
theorem lkX6_152 : LK RX6 152 yX6_goNights := gt_at 725 (by decide +kernel) rfl
theorem lkX6_155 : LK RX6 155 yX6_barOfNights := gt_at 773 (by decide +kernel) rfl
theorem lkX6_158 : LK RX6 158 yX6_stateNow := gt_at 781 (by decide +kernel) rfl
theorem lkX6_161 : LK RX6 161 yX6_mayRob := gt_at 801 (by decide +kernel) rfl
theorem lkX6_165 : LK RX6 165 yX6_wanted := gt_at 809 (by decide +kernel) rfl
theorem lkX6_168 : LK RX6 168 yX6_mostThefts := gt_at 813 (by decide +kernel) rfl
theorem lkX6_171 : LK RX6 171 yX6_layChains := gt_at 826 (by decide +kernel) rfl
theorem lkX6_187 : LK RX6 187 yX6_tryBoots := gt_at 855 (by decide +kernel) rfl
theorem lkX6_190 : LK RX6 190 yX6_layBoots := gt_at 850 (by decide +kernel) rfl
theorem lkX6_194 : LK RX6 194 yX6_worth := gt_at 868 (by decide +kernel) rfl
theorem lkNX5_11 : (RX5, 11, yX0_init, "StolenApples") ∈ nestL := by decide +kernel
theorem lkNX5_25 : (RX5, 25, yX1_init, "StolenApples") ∈ nestL := by decide +kernel
theorem lkNX5_32 : (RX5, 32, yX2_init, "StolenApples") ∈ nestL := by decide +kernel
theorem lkNX5_39 : (RX5, 39, yX3_init, "StolenApples") ∈ nestL := by decide +kernel
theorem lkNX5_46 : (RX5, 46, yX4_init, "StolenApples") ∈ nestL := by decide +kernel
theorem lkNX1_41 : (RX1, 41, yX5_within, "StolenApples") ∈ nestL := by decide +kernel
theorem lkNX3_69 : (RX3, 69, yX5_within, "StolenApples") ∈ nestL := by decide +kernel
