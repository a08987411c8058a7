/-! ===== the law's start ===== -/
def zS : St := fun _ _ => 0
def sI : St := iniX6_init (upC (ini5 (upC zS 0 (fun _ => 0))) 29 (fun _ => 0)) 29 30
theorem inv_0 : Inv 0 (fun _ => none) sI := by
  refine ⟨⟨0, 0, 0, 0, 10, 0, by decide, by decide, by decide, by decide, by decide, by decide, by decide +kernel, by decide +kernel, by decide +kernel, by decide +kernel, by decide +kernel, by decide +kernel, by decide +kernel, by decide +kernel, by decide +kernel, by decide +kernel, by decide +kernel, by decide +kernel, fun k h => h, fun k h => h, fun k h => h, fun k hk => ⟨fun h => by simp at h, fun _ => ⟨rfl, rfl, rfl, rfl, 0, by decide, rfl⟩⟩, fun i hi => absurd hi (Nat.not_lt_zero _)⟩, ⟨0, by decide, by decide +kernel, by decide +kernel, fun k hk => absurd hk (Nat.not_lt_zero _)⟩, fun j hj => Or.inl ⟨rfl, rfl⟩, fun j _ => rfl⟩
theorem cl_12 : Cond.classLink RL 7 RX5 ∈ gtbl := gt_at 12 (by decide +kernel) rfl
theorem cl_573 : Cond.classLink RL 10 RX6 ∈ gtbl := gt_at 573 (by decide +kernel) rfl
theorem dfX6 : ∀ j, j < 32 → defaultValue (tyX6 j) = vp_V (List.mapIdx (fv id (fun _ => 0)) [none, some none, none, none, none, none, some none, some none, some none, some none, some none, none, none, some none, some none, some none, some none, some none, none, none, none, none, none, none, some none, none, none, none, some none, some none, some none, some none]) j := by decide +kernel
theorem nlX6 : ∀ k : Nat, some (some k) ∉ ([none, some none, none, none, none, none, some none, some none, some none, some none, some none, none, none, some none, some none, some none, some none, some none, none, none, none, none, none, none, some none, none, none, none, some none, some none, some none, some none] : List (Option (Option Nat))) := by intro k; simp
set_option maxHeartbeats 8000000 in
set_option maxRecDepth 20000 in
theorem law_aw (H : PCs) {nm : String} {b L : Nat} {xs : Nat → Int32} (hL : L ≤ 384) : AW (ML nm) (XS b L xs) room_1 600000 7302250 QL 0 0 [] zS 0 [(0, .ref 777)] [] := by
  have hso0 : sokP ([] : List SC) 0 := fun c hc => absurd hc List.not_mem_nil
  refine aw_new (C := RX5) (T := TX5) (ty0 := tyX5) (ci := 5) (n := 7) (fr := [some none, some none, some none, some none, some none, some none, some none]) (tL_0 nm) rfl 3 rfl rfl iwX5 tyX5_ok cl_12 (gt_at 13 (by decide +kernel) rfl) (gt_at 1 (by decide +kernel) rfl) dfX5 nlX5 0 (Nat.zero_le _) rfl hso0 (by decide) (by decide) ?_
  refine aw_W (S := [.inl (5, [some none, some none, some none, some none, some none, some none, some none])]) rfl ?_
  refine aw_run (tL_0 nm) 1 (pc2 := 4) (L2 := [(0, .ref 777)]) (st2 := [.ref 0, .ref 0]) rfl ?_
  refine aw_callI (M' := MX5_init) (rm := rmX5_init) (mc' := 28) (ms' := 1000) (av := []) (rest := [.ref 0]) (n := 0) (tL_0 nm) rfl 7 rfl rfl lkL_9 hMX5_init rfl s_X5_init ⟨rfl, rfl, ⟨by decide, by decide⟩, by decide, by decide⟩ (by decide) 1 (by decide) rfl (fun v S' σ' q => ?_)
  obtain ⟨rfl, rfl, hso, rfl⟩ := q
  refine aw_V (st := [.ref 0]) rfl ?_
  refine aw_run (tL_0 nm) 1 (pc2 := 8) (L2 := [(1, .ref 0), (0, .ref 777)]) (st2 := []) rfl ?_
  refine aw_new (C := RX6) (T := TX6) (ty0 := tyX6) (ci := 6) (n := 32) (fr := [none, some none, none, none, none, none, some none, some none, some none, some none, some none, none, none, some none, some none, some none, some none, some none, none, none, none, none, none, none, some none, none, none, none, some none, some none, some none, some none]) (tL_0 nm) rfl 11 rfl rfl iwX6 tyX6_ok cl_573 (gt_at 574 (by decide +kernel) rfl) (gt_at 7 (by decide +kernel) rfl) dfX6 nlX6 29 (by decide) rfl hso (by decide) (by decide) ?_
  have hso2 := sokP_push (c := .inl (6, [none, some none, none, none, none, none, some none, some none, some none, some none, some none, none, none, some none, some none, some none, some none, some none, none, none, none, none, none, none, some none, none, none, none, some none, some none, some none, some none])) hso (fun k hk => absurd hk (nlX6 k))
  refine aw_run (tL_0 nm) 1 (pc2 := 12) (L2 := [(1, .ref 0), (0, .ref 777)]) (st2 := [.ref 29, .ref 29]) rfl ?_
  refine aw_callI (M' := MX6_init) (rm := rmX6_init) (mc' := 16) (ms' := 1500) (av := []) (rest := [.ref 29]) (n := 0) (tL_0 nm) rfl 15 rfl rfl lkL_12 hMX6_init rfl (s_X6_init (n := 29) rfl hso2 (by decide)) ⟨rfl, rfl, ⟨by decide, by decide⟩, by decide, by decide⟩ (by decide) 30 (by decide) rfl (fun v S' σ' q => ?_)
  obtain ⟨rfl, rfl, hso3, rfl⟩ := q
  refine aw_V (st := [.ref 29]) rfl ?_
  refine aw_run (tL_0 nm) 3 (pc2 := 18) (L2 := [(3, .int 0), (2, .ref 29), (1, .ref 0), (0, .ref 777)]) (st2 := []) rfl ?_
  refine aw_sub [3, 2, 1, 0] rfl ?_
  refine aw_W (S := shp (fun _ => none)) rfl ?_
  have hso4 : sokP (shp (fun _ => none)) 46 := hso3
  have hw : Wf (fun _ => none) (shp (fun _ => none)) := rfl
  have hwi : WI (fun _ => none) (shp (fun _ => none)) := ⟨fun _ _ h => (by cases h), fun _ _ _ _ _ h => (by cases h)⟩
  exact law_loop H hL 64 0 (Nat.zero_le _) (by decide) _ _ (fun _ => none) (shp (fun _ => none)) sI (by decide) (by decide) ⟨hw, hwi, hso4, by decide, inv_0⟩
