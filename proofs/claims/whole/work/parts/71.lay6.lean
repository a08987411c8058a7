/-! ===== the reference's rows: all of them ===== -/
def BF (X Y : St) : Prop := ∀ c k, ¬ (c = 29 ∧ ((18 ≤ k ∧ k ≤ 21) ∨ (25 ≤ k ∧ k ≤ 27))) → ¬ (37 ≤ c ∧ c ≤ 40) → c ≠ 42 → Y c k = X c k
theorem BF_Agr {X Y : St} (h : BF X Y) : Agr X Y := fun c k hr => h c k (by unfold rel at hr; omega) (by unfold rel at hr; omega) (by unfold rel at hr; omega)
theorem BF_tr {a b c : St} (h1 : BF a b) (h2 : BF b c) : BF a c := fun x k q1 q2 q3 => (h2 x k q1 q2 q3).trans (h1 x k q1 q2 q3)
theorem BF_an {X : St} : BF X (anS X) := fun c k q1 q2 q3 => by
  by_cases h29 : c = 29
  · subst h29; rw [anS_29 (by omega)]
  · rw [anS_out (by omega)]
theorem LM_draft {B h o d l f s : Nat} {ap bg hp rb : Nat → Nat} {W : VW} {σ : St} (H : LM B h o d l f s ap bg hp rb (cv σ 1) W) : LM B h o d l f s ap bg hp rb (cv (becS σ 9 1) 9) W := by
  have hb := becS_BEq σ 9 1
  exact LM_congr2 H (fun k h1 h2 => ⟨hb.1 k h1 h2, rfl⟩) (fun i k h1 h2 hk => ⟨hb.2.1 i k h1 h2 hk, rfl⟩) (fun i k h1 h2 hk => ⟨hb.2.2 i k h1 h2 hk, rfl⟩)
/-- one row, tried -/
theorem try6 {B h o d l f s c : Nat} {ap bg hp rb sq sa : Nat → Nat} {σ X : St} (hc : c < 117649) (H : LM B h o d l f s ap bg hp rb (cv σ 1) (mv X)) (hS : SG s sq sa (cv σ 1) (mv X)) : ∃ Y, f_X6_tryBoots (nI c) X = some Y ∧ BF X Y ∧
    Y 29 25 = (if vld h s sq sa (abN h o d l f ap rb) bg (apH h ap) c = true then X 29 25 + 1 else X 29 25) ∧
    Y 29 26 = (if vld h s sq sa (abN h o d l f ap rb) bg (apH h ap) c = true then X 29 26 ||| nI (went 6 c) else X 29 26) ∧
    Y 29 27 = (if vld h s sq sa (abN h o d l f ap rb) bg (apH h ap) c = true then X 29 27 &&& nI (went 6 c) else X 29 27) ∧
    ∀ k, k < 6 → h.testBit k = true → ∀ v, v < 100 → Y 42 (100 * k + v) = (if vldT h s sq sa (abN h o d l f ap rb) bg (apH h ap) k v c = true then X 42 (100 * k + v) + 1 else X 42 (100 * k + v)) := by
  obtain ⟨⟨h1, -, -, -, -, h6⟩, ⟨-, e2, -, -, -, -, -, -, -, -, -, e12⟩, -, p1, p2, -⟩ := id H
  have e2 : X 29 0 = nI h := e2
  have e12 : X 29 5 = nI s := e12
  have hJ : JT B h o d l f s 0 ap bg rb (apH h ap) (anS X) (anS X) := ⟨becS σ 9 1, o, ap, hp, rb, LM_draft (LM_now H), fun j _ _ => ⟨rfl, rfl⟩, fun q hq hb => ⟨by unfold apH; rw [if_pos hb], Nat.le_refl _⟩, fun _ _ _ _ => rfl⟩
  obtain ⟨w, cn, τ, r1, r2, r3⟩ := try_loop (h := h) (o := o) (d := d) (l := l) (f := f) (s := s) (ap := ap) (bg := bg) (rb := rb) hc 6 0 rfl B (apH h ap) (anS X) 400 (by decide) rfl hJ
  have r1 : loop (fun s : Int32 × Int32 × Int32 × Int32 × St => l_X6_tryBoots_14 s.1 s.2.1 s.2.2.1 s.2.2.2.1 s.2.2.2.2) 400 (nI c, 0, 1, 0, anS X) = some (w, cn, τ) := by
    have := r1
    rw [Nat.pow_zero, Nat.div_one] at this
    exact this
  have hBF : BF X τ := BF_tr BF_an (fun c k q1 q2 q3 => r2 c k (by omega) q2)
  have k25 : τ 29 25 = X 29 25 := (r2 29 25 (by decide) (by decide)).trans (anS_29 (by omega))
  have k26 : τ 29 26 = X 29 26 := (r2 29 26 (by decide) (by decide)).trans (anS_29 (by omega))
  have k27 : τ 29 27 = X 29 27 := (r2 29 27 (by decide) (by decide)).trans (anS_29 (by omega))
  have k42 : ∀ j, τ 42 j = X 42 j := fun j => by rw [r2 42 j (by omega) (by decide), anS_out (by omega)]
  have noY : vld h s sq sa (abN h o d l f ap rb) bg (apH h ap) c = false → (∀ k v, vldT h s sq sa (abN h o d l f ap rb) bg (apH h ap) k v c = false) → f_X6_tryBoots (nI c) X = some τ → ∃ Y, f_X6_tryBoots (nI c) X = some Y ∧ BF X Y ∧
    Y 29 25 = (if vld h s sq sa (abN h o d l f ap rb) bg (apH h ap) c = true then X 29 25 + 1 else X 29 25) ∧
    Y 29 26 = (if vld h s sq sa (abN h o d l f ap rb) bg (apH h ap) c = true then X 29 26 ||| nI (went 6 c) else X 29 26) ∧
    Y 29 27 = (if vld h s sq sa (abN h o d l f ap rb) bg (apH h ap) c = true then X 29 27 &&& nI (went 6 c) else X 29 27) ∧
    ∀ k, k < 6 → h.testBit k = true → ∀ v, v < 100 → Y 42 (100 * k + v) = (if vldT h s sq sa (abN h o d l f ap rb) bg (apH h ap) k v c = true then X 42 (100 * k + v) + 1 else X 42 (100 * k + v)) := by
    intro q1 q2 q3
    refine ⟨τ, q3, hBF, ?_, ?_, ?_, fun k hk hb v hv => ?_⟩
    · rw [q1, if_neg (by decide)]; exact k25
    · rw [q1, if_neg (by decide)]; exact k26
    · rw [q1, if_neg (by decide)]; exact k27
    · rw [q2 k v, if_neg (by decide)]; exact k42 _
  rcases r3 with ⟨rfl, hn⟩ | ⟨rfl, rfl, tr, B', hr, σp, o', ap', hp', rb', H', j1, j2, j3⟩
  · refine noY (by unfold vld; rw [hn]) (fun k v => by unfold vldT; rw [hn]) ?_
    have hl : loop (fun z : Int32 × Int32 => l_X6_tryBoots_91 (w, 0, τ) z.1 z.2) 400 (0, 0) = some 0 := by
      refine loop_ex (body := fun z : Int32 × Int32 => l_X6_tryBoots_91 (w, 0, τ) z.1 z.2) (f := 399) (s := (0, 0)) ?_
      show l_X6_tryBoots_91 (w, 0, τ) 0 0 = _
      unfold l_X6_tryBoots_91
      by_cases e : (w, (0 : Int32), τ).2.2 29 5 ≤ 0
      · rw [if_pos e]
      · rw [if_neg e, if_pos rfl]
    unfold f_X6_tryBoots
    rw [asNow_eq, bnd_some, r1, bnd_some, hl, bnd_some, if_pos rfl]
  · have hv : vld h s sq sa (abN h o d l f ap rb) bg (apH h ap) c = fitT h s sq sa tr := by unfold vld; rw [hr]
    have hvT : ∀ k v, vldT h s sq sa (abN h o d l f ap rb) bg (apH h ap) k v c = (fitT h s sq sa tr && (tr k == v)) := fun k v => by unfold vldT; rw [hr]
    have hap := apH_all H
    have htr : ∀ q, q < 6 → h.testBit q = true → τ 37 q = nI (tr q) ∧ tr q ≤ 99 := fun q hq hb => by
      obtain ⟨x1, x2⟩ := j2 q hq hb
      have y : τ 37 q = nI (ap' q) := (H'.2.2.2.1 q hq hb).2.1.2
      exact ⟨by rw [y, x1], Nat.le_trans x2 (hap q hq)⟩
    have hs31 : ∀ j, τ 31 j = X 31 j := fun j => by rw [r2 31 j (by omega) (by decide), anS_out (by omega)]
    have hl := sight_loop (h := h) (s := s) (sq := sq) (sa := sa) (tr := tr) (w := nI (went 6 c)) (cn := 1) (τ := τ) h1 h6 ((r2 29 0 (by decide) (by decide)).trans ((anS_29 (by omega)).trans e2)) ((r2 29 5 (by decide) (by decide)).trans ((anS_29 (by omega)).trans e12)) (fun i hi => by
      obtain ⟨x1, x2, -, x4, -, x6⟩ := hS i hi
      rw [hs31, hs31]
      exact ⟨x1, x2, x4, x6⟩) htr s 0 (by omega) 400 (by omega)
    have hl : loop (fun z : Int32 × Int32 => l_X6_tryBoots_91 (nI (went 6 c), 1, τ) z.1 z.2) 400 (1, 0) = some (b2 (fitT h s sq sa tr)) := by
      have e : (fun j => !(h.testBit (sq (0 + j)) && (tr (sq (0 + j)) == sa (0 + j)))) = (fun j => !(h.testBit (sq j) && (tr (sq j) == sa j))) := funext (fun j => by rw [Nat.zero_add])
      rw [e] at hl
      exact hl
    by_cases cf : fitT h s sq sa tr = true
    · -- a row that fits
      have hvals : ∀ k, ∃ v : Nat, k < 6 → v ≤ 99 ∧ τ 37 k = nI v ∧ (h.testBit k = true → v = tr k) := by
        intro k
        by_cases hk : k < 6
        · by_cases hb : h.testBit k = true
          · exact ⟨tr k, fun _ => ⟨(htr k hk hb).2, (htr k hk hb).1, fun _ => rfl⟩⟩
          · obtain ⟨-, -, -, -, a, a1, a2⟩ := H'.2.2.2.2.1 k hk (by simpa using hb)
            exact ⟨a, fun _ => ⟨a1, a2, fun q => absurd q hb⟩⟩
        · exact ⟨0, fun q => absurd q hk⟩
      generalize hTd : up2 (up2 (up2 τ 29 25 (X 29 25 + 1)) 29 26 (X 29 26 ||| nI (went 6 c))) 29 27 (X 29 27 &&& nI (went 6 c)) = T
      have hTo : ∀ cc, cc ≠ 29 → T cc = τ cc := fun cc h29 => by rw [← hTd, up2_out h29, up2_out h29, up2_out h29]
      have hlt := lt_loop (τ := T) (v := fun k => Classical.choose (hvals k)) (fun k hk => by
        obtain ⟨x1, x2, -⟩ := Classical.choose_spec (hvals k) hk
        rw [hTo 37 (by decide)]
        exact ⟨x1, x2⟩)
      refine ⟨ltS T (fun k => Classical.choose (hvals k)) 6, ?_, fun cc kk q1 q2 q3 => ?_, ?_, ?_, ?_, fun k hk hb v hv' => ?_⟩
      · unfold f_X6_tryBoots
        rw [asNow_eq, bnd_some, r1, bnd_some, hl, bnd_some, cf, if_neg (show ¬ b2 true = 0 by decide), nm_eq, nm_eq, nm_eq]
        show Option.bind (loop (fun s : Int32 × St => l_X6_tryBoots_203 s.1 s.2) 400 (0, up2 (up2 (up2 τ 29 25 (τ 29 25 + 1)) 29 26 (τ 29 26 ||| nI (went 6 c))) 29 27 (τ 29 27 &&& nI (went 6 c)))) (fun (z23 : St) => some z23) = _
        rw [k25, k26, k27, hTd, hlt]
        rfl
      · rw [ltS_out q3]
        by_cases h29 : cc = 29
        · subst h29
          rw [← hTd, up2_k _ _ _ _ _ (by omega), up2_k _ _ _ _ _ (by omega), up2_k _ _ _ _ _ (by omega)]
          exact hBF 29 kk q1 q2 q3
        · rw [hTo cc h29]
          exact hBF cc kk q1 q2 q3
      · rw [hv, cf, if_pos rfl, ltS_out (by decide), ← hTd]; rfl
      · rw [hv, cf, if_pos rfl, ltS_out (by decide), ← hTd]; rfl
      · rw [hv, cf, if_pos rfl, ltS_out (by decide), ← hTd]; rfl
      · obtain ⟨-, -, x3⟩ := Classical.choose_spec (hvals k) hk
        have x3 := x3 hb
        have d1 : (100 * k + v) / 100 = k := by omega
        have d2 : (100 * k + v) % 100 = v := by omega
        rw [hvT, cf]
        unfold ltS
        rw [d1, d2, hTo 42 (by decide), k42]
        show (if 42 = 42 ∧ k < 6 ∧ v = Classical.choose (hvals k) then _ else _) = _
        by_cases e : tr k = v
        · rw [if_pos ⟨rfl, hk, (x3.trans e).symm⟩, if_pos (by simp [e])]
        · rw [if_neg (fun w => e (x3.symm.trans w.2.2.symm)), if_neg (by simp [e])]
    · have cf : fitT h s sq sa tr = false := by simpa using cf
      refine noY (hv.trans cf) (fun k v => by rw [hvT, cf]; rfl) ?_
      unfold f_X6_tryBoots
      rw [asNow_eq, bnd_some, r1, bnd_some, hl, bnd_some, cf, if_pos (show b2 false = 0 from rfl)]
/-- the look ahead over a row: what it turns away can not be -/
theorem pre6 {h o d l f c : Nat} {ap rb : Nat → Nat} {X : St} (hc : c < 117649) (hh : h < 64) (e0 : X 29 0 = nI h) : ∀ (m k : Nat), k + m = 6 → ∀ fuel, m + 1 < fuel → ∃ r : Int32, loop (fun s : Int32 × Int32 × Int32 => l_X6_layBoots_53 X s.1 s.2.1 s.2.2) fuel (nI (c / 7 ^ k), 1, nI k) = some r ∧ (r = 0 → ∃ k', k' < 6 ∧ dg c k' < 6 ∧ abN h o d l f ap rb k' (dg c k') = false) := by
  intro m
  induction m with
  | zero =>
    intro k hk fuel hf
    have hk : k = 6 := by omega
    subst hk
    obtain ⟨f', rfl⟩ : ∃ f, fuel = f + 1 := ⟨fuel - 1, by omega⟩
    refine ⟨1, ?_, fun w => absurd w (by decide)⟩
    refine loop_ex (body := fun s : Int32 × Int32 × Int32 => l_X6_layBoots_53 X s.1 s.2.1 s.2.2) (s := (nI (c / 7 ^ 6), 1, nI 6)) ?_
    show l_X6_layBoots_53 X _ 1 (nI 6) = _
    unfold l_X6_layBoots_53
    rw [if_pos (by decide)]
  | succ m ih =>
    intro k hk fuel hf
    obtain ⟨f', rfl⟩ : ∃ f, fuel = f + 1 := ⟨fuel - 1, by omega⟩
    have hk6 : k < 6 := by omega
    obtain ⟨g1, g2, g3⟩ := dgI (k := k) hc
    have hval : ∃ b : Bool, (if nI (dg c k) = 6 then some (1 : Int32) else (Option.bind (f_X6_has (X 29 0) (nI k)) (fun r16 => if r16 = 0 then (some 0) else (Option.bind (f_X6_has (X 29 0) (nI (dg c k))) (fun r17 => if r17 = 0 then (some 0) else (if nI (dg c k) = nI k then (some 0) else (some 1))))))) = some (b2 b) ∧ (b = false → dg c k < 6 ∧ abN h o d l f ap rb k (dg c k) = false) := by
      by_cases c6 : dg c k = 6
      · exact ⟨true, by rw [c6, if_pos (by decide)]; rfl, fun w => by cases w⟩
      · have c6' : dg c k < 6 := by omega
        have n6 : ¬ nI (dg c k) = 6 := fun w => c6 ((nI_eq (b := 6) (by omega) (by decide)).mp w)
        rw [if_neg n6, e0, mhas_in hh hk6, bnd_some, mhas_in hh c6', bnd_some]
        have hab : (h.testBit k = false ∨ h.testBit (dg c k) = false ∨ dg c k = k) → abN h o d l f ap rb k (dg c k) = false := by
          intro hor
          by_cases ca : abN h o d l f ap rb k (dg c k) = true
          · obtain ⟨y1, y2, y3, -⟩ := RB_there (h := h) (o := o) (d := d) (l := l) (f := f) (ap := ap) (rb := rb) (k := k) (q := dg c k) (by unfold abN at ca; simpa using ca)
            rcases hor with w | w | w
            · rw [y1] at w; cases w
            · rw [y2] at w; cases w
            · exact absurd w.symm y3
          · simpa using ca
        by_cases q1 : h.testBit k = true
        · by_cases q2 : h.testBit (dg c k) = true
          · by_cases q3 : dg c k = k
            · refine ⟨false, ?_, fun _ => ⟨c6', hab (Or.inr (Or.inr q3))⟩⟩
              rw [if_pos q1, if_neg (by decide), if_pos q2, if_neg (by decide), if_pos (by rw [q3])]; rfl
            · refine ⟨true, ?_, fun w => by cases w⟩
              rw [if_pos q1, if_neg (by decide), if_pos q2, if_neg (by decide), if_neg (fun w => q3 ((nI_eq (by omega) (by omega)).mp w))]; rfl
          · refine ⟨false, ?_, fun _ => ⟨c6', hab (Or.inr (Or.inl (by simpa using q2)))⟩⟩
            rw [if_pos q1, if_neg (by decide), if_neg q2, if_pos rfl]; rfl
        · refine ⟨false, ?_, fun _ => ⟨c6', hab (Or.inl (by simpa using q1))⟩⟩
          rw [if_neg q1, if_pos rfl]; rfl
    obtain ⟨b, hb1, hb2⟩ := hval
    have hbody : l_X6_layBoots_53 X (nI (c / 7 ^ k)) 1 (nI k) = some (.inl (nI (c / 7 ^ (k + 1)), b2 b, nI (k + 1))) := by
      unfold l_X6_layBoots_53
      rw [if_neg (six_le hk6), if_neg (show ¬ (1 : Int32) = 0 by decide), g1, g2, hb1, bnd_some, nI_1]
    rw [loop_in (body := fun s : Int32 × Int32 × Int32 => l_X6_layBoots_53 X s.1 s.2.1 s.2.2) (s := (nI (c / 7 ^ k), 1, nI k)) hbody]
    cases b with
    | true => exact ih (k + 1) (by omega) f' (by omega)
    | false =>
      obtain ⟨f'', rfl⟩ : ∃ f, f' = f + 1 := ⟨f' - 1, by omega⟩
      refine ⟨0, ?_, fun _ => ⟨k, hk6, (hb2 rfl).1, (hb2 rfl).2⟩⟩
      refine loop_ex (body := fun s : Int32 × Int32 × Int32 => l_X6_layBoots_53 X s.1 s.2.1 s.2.2) (s := (nI (c / 7 ^ (k + 1)), b2 false, nI (k + 1))) ?_
      show l_X6_layBoots_53 X _ (b2 false) (nI (k + 1)) = _
      unfold l_X6_layBoots_53
      by_cases e : (6 : Int32) ≤ nI (k + 1)
      · rw [if_pos e]; rfl
      · rw [if_neg e, if_pos (show b2 false = 0 from rfl)]; rfl
theorem zero600 (τ : St) : loop (fun s : Int32 × St => l_X6_layBoots_18 s.1 s.2) 700 (0, τ) = some (fillS τ 42 600 0) := by
  have h := loop_to (body := fun s : Int32 × St => l_X6_layBoots_18 s.1 s.2) (fun i => (nI i, fillS τ 42 i 0)) 600 (fillS τ 42 600 0) (fun i hi => ?_) ?_ 700 (by decide)
  · rw [fillS_0] at h
    exact h
  · show l_X6_layBoots_18 (nI i) _ = _
    unfold l_X6_layBoots_18
    rw [if_neg (show ¬ (600 : Int32) ≤ nI i from nI_ge (b := 600) hi (by decide)), gi_in hi (by decide), nm_eq, nI_clamp (by omega), fillS_s, nI_1]
  · show l_X6_layBoots_18 (nI 600) _ = _
    unfold l_X6_layBoots_18
    rw [if_pos (by decide)]
theorem lay6 {B h o d l f s : Nat} {ap bg hp rb sq sa : Nat → Nat} {σ X : St} (H : LM B h o d l f s ap bg hp rb (cv σ 1) (mv X)) (hS : SG s sq sa (cv σ 1) (mv X)) : ∃ Y, f_X6_layBoots X = some Y ∧ BF X Y ∧
    Y 29 25 = nI (sumN (fun c => if vld h s sq sa (abN h o d l f ap rb) bg (apH h ap) c = true then 1 else 0) 117649) ∧
    Y 29 26 = nI (orF (vld h s sq sa (abN h o d l f ap rb) bg (apH h ap)) (went 6) 117649) ∧
    Y 29 27 = nI (andF (vld h s sq sa (abN h o d l f ap rb) bg (apH h ap)) (went 6) 117649) ∧
    ∀ k, k < 6 → h.testBit k = true → ∀ v, v < 100 → Y 42 (100 * k + v) = nI (sumN (fun c => if vldT h s sq sa (abN h o d l f ap rb) bg (apH h ap) k v c = true then 1 else 0) 117649) := by
  generalize hI0 : fillS (up2 (up2 (up2 X 29 25 0) 29 26 0) 29 27 63) 42 600 0 = X0
  have hB0 : BF X X0 := fun c k q1 q2 q3 => by
    rw [← hI0, fillS_out q3]
    by_cases h29 : c = 29
    · subst h29
      rw [up2_k _ _ _ _ _ (by omega), up2_k _ _ _ _ _ (by omega), up2_k _ _ _ _ _ (by omega)]
    · rw [up2_out h29, up2_out h29, up2_out h29]
  have hl := loop_inv (body := fun s : Int32 × St => l_X6_layBoots_40 s.1 s.2) (fun i z => z.1 = nI i ∧ BF X z.2 ∧ z.2 29 25 = nI (sumN (fun c => if vld h s sq sa (abN h o d l f ap rb) bg (apH h ap) c = true then 1 else 0) i) ∧ z.2 29 26 = nI (orF (vld h s sq sa (abN h o d l f ap rb) bg (apH h ap)) (went 6) i) ∧ z.2 29 27 = nI (andF (vld h s sq sa (abN h o d l f ap rb) bg (apH h ap)) (went 6) i) ∧ ∀ k, k < 6 → h.testBit k = true → ∀ v, v < 100 → z.2 42 (100 * k + v) = nI (sumN (fun c => if vldT h s sq sa (abN h o d l f ap rb) bg (apH h ap) k v c = true then 1 else 0) i)) (fun Y => BF X Y ∧ Y 29 25 = nI (sumN (fun c => if vld h s sq sa (abN h o d l f ap rb) bg (apH h ap) c = true then 1 else 0) 117649) ∧ Y 29 26 = nI (orF (vld h s sq sa (abN h o d l f ap rb) bg (apH h ap)) (went 6) 117649) ∧ Y 29 27 = nI (andF (vld h s sq sa (abN h o d l f ap rb) bg (apH h ap)) (went 6) 117649) ∧ ∀ k, k < 6 → h.testBit k = true → ∀ v, v < 100 → Y 42 (100 * k + v) = nI (sumN (fun c => if vldT h s sq sa (abN h o d l f ap rb) bg (apH h ap) k v c = true then 1 else 0) 117649)) 117649 (fun i z hi hI => ?_) (fun z hI => ?_) 117649 0 (0, X0) (Nat.zero_add _) ⟨rfl, hB0, ?_, ?_, ?_, fun k hk hb v hv => ?_⟩ 120000 (Nat.lt_of_sub_pos (by decide))
  · obtain ⟨Y, e1, e2⟩ := hl
    refine ⟨Y, ?_, e2⟩
    unfold f_X6_layBoots
    rw [nm_eq, nm_eq, nm_eq, zero600, bnd_some, hI0, e1, bnd_some]
  · obtain ⟨y, z⟩ := z
    obtain ⟨hy, hf, i1, i2, i3, i4⟩ := hI
    have hy : y = nI i := hy
    subst hy
    have hf : BF X z := hf
    have i1 : z 29 25 = nI (sumN (fun c => if vld h s sq sa (abN h o d l f ap rb) bg (apH h ap) c = true then 1 else 0) i) := i1
    have i2 : z 29 26 = nI (orF (vld h s sq sa (abN h o d l f ap rb) bg (apH h ap)) (went 6) i) := i2
    have i3 : z 29 27 = nI (andF (vld h s sq sa (abN h o d l f ap rb) bg (apH h ap)) (went 6) i) := i3
    have i4 : ∀ k, k < 6 → h.testBit k = true → ∀ v, v < 100 → z 42 (100 * k + v) = nI (sumN (fun c => if vldT h s sq sa (abN h o d l f ap rb) bg (apH h ap) k v c = true then 1 else 0) i) := i4
    have Hz := LM_agr H (BF_Agr hf)
    have e0 : z 29 0 = nI h := Hz.2.1.2.1
    have hSz : SG s sq sa (cv σ 1) (mv z) := fun j hj => by
      obtain ⟨x1, x2, x3, x4, x5, x6⟩ := hS j hj
      refine ⟨x1, x2, x3, ?_, x5, ?_⟩
      · exact (Agr_mv (BF_Agr hf) 6 j (fun w => by omega) (by decide)).trans x4
      · exact (Agr_mv (BF_Agr hf) 7 j (fun w => by omega) (by decide)).trans x6
    obtain ⟨r, p1, p2⟩ := pre6 (h := h) (o := o) (d := d) (l := l) (f := f) (ap := ap) (rb := rb) (X := z) hi H.1.1 e0 6 0 rfl 400 (by decide)
    have p1 : loop (fun s : Int32 × Int32 × Int32 => l_X6_layBoots_53 z s.1 s.2.1 s.2.2) 400 (nI i, 1, 0) = some r := by
      have := p1
      rw [Nat.pow_zero, Nat.div_one] at this
      exact this
    by_cases cr : r = 0
    · obtain ⟨k', hk', d1, d2⟩ := p2 cr
      have hn := rT_ab (abl := abN h o d l f ap rb) (bg := bg) (base := apH h ap) (ds := dg i) hk' d1 d2
      have hv : vld h s sq sa (abN h o d l f ap rb) bg (apH h ap) i = false := by unfold vld; rw [hn]
      have hvT : ∀ k v, vldT h s sq sa (abN h o d l f ap rb) bg (apH h ap) k v i = false := fun k v => by unfold vldT; rw [hn]
      refine ⟨(nI (i + 1), z), ?_, rfl, hf, ?_, ?_, ?_, fun k hk hb v hv' => ?_⟩
      · show l_X6_layBoots_40 (nI i) z = _
        unfold l_X6_layBoots_40
        rw [if_neg (show ¬ (117649 : Int32) ≤ nI i from nI_ge (b := 117649) hi (by decide)), p1, bnd_some, if_pos cr, bnd_some, nI_1]
      · show z 29 25 = nI (sumN _ i + (if vld h s sq sa (abN h o d l f ap rb) bg (apH h ap) i = true then 1 else 0))
        rw [hv, if_neg (by decide)]; exact i1
      · show z 29 26 = nI (if vld h s sq sa (abN h o d l f ap rb) bg (apH h ap) i = true then _ else _)
        rw [hv, if_neg (by decide)]; exact i2
      · show z 29 27 = nI (if vld h s sq sa (abN h o d l f ap rb) bg (apH h ap) i = true then _ else _)
        rw [hv, if_neg (by decide)]; exact i3
      · show z 42 (100 * k + v) = nI (sumN _ i + (if vldT h s sq sa (abN h o d l f ap rb) bg (apH h ap) k v i = true then 1 else 0))
        rw [hvT, if_neg (by decide)]; exact i4 k hk hb v hv'
    · obtain ⟨Y, t1, t2, t3, t4, t5, t6⟩ := try6 hi Hz hSz
      refine ⟨(nI (i + 1), Y), ?_, rfl, BF_tr hf t2, ?_, ?_, ?_, fun k hk hb v hv' => ?_⟩
      · show l_X6_layBoots_40 (nI i) z = _
        unfold l_X6_layBoots_40
        rw [if_neg (show ¬ (117649 : Int32) ≤ nI i from nI_ge (b := 117649) hi (by decide)), p1, bnd_some, if_neg cr, t1, bnd_some, bnd_some, nI_1]
      · show Y 29 25 = nI (sumN _ i + (if vld h s sq sa (abN h o d l f ap rb) bg (apH h ap) i = true then 1 else 0))
        rw [t3, i1]
        by_cases c : vld h s sq sa (abN h o d l f ap rb) bg (apH h ap) i = true
        · rw [if_pos c, if_pos c, nI_1]
        · rw [if_neg c, if_neg c]; rfl
      · show Y 29 26 = nI (if vld h s sq sa (abN h o d l f ap rb) bg (apH h ap) i = true then orF (vld h s sq sa (abN h o d l f ap rb) bg (apH h ap)) (went 6) i ||| went 6 i else orF (vld h s sq sa (abN h o d l f ap rb) bg (apH h ap)) (went 6) i)
        rw [t4, i2]
        by_cases c : vld h s sq sa (abN h o d l f ap rb) bg (apH h ap) i = true
        · rw [if_pos c, if_pos c, (or64 _ (orF_lt i (fun j _ => went_lt j)) _ (went_lt i)).1]
        · rw [if_neg c, if_neg c]
      · show Y 29 27 = nI (if vld h s sq sa (abN h o d l f ap rb) bg (apH h ap) i = true then andF (vld h s sq sa (abN h o d l f ap rb) bg (apH h ap)) (went 6) i &&& went 6 i else andF (vld h s sq sa (abN h o d l f ap rb) bg (apH h ap)) (went 6) i)
        rw [t5, i3]
        by_cases c : vld h s sq sa (abN h o d l f ap rb) bg (apH h ap) i = true
        · rw [if_pos c, if_pos c, (and64 _ (andF_lt i) _ (went_lt i)).1]
        · rw [if_neg c, if_neg c]
      · show Y 42 (100 * k + v) = nI (sumN _ i + (if vldT h s sq sa (abN h o d l f ap rb) bg (apH h ap) k v i = true then 1 else 0))
        rw [t6 k hk hb v hv', i4 k hk hb v hv']
        by_cases c : vldT h s sq sa (abN h o d l f ap rb) bg (apH h ap) k v i = true
        · rw [if_pos c, if_pos c, nI_1]
        · rw [if_neg c, if_neg c]; rfl
  · obtain ⟨y, z⟩ := z
    obtain ⟨hy, hrest⟩ := hI
    have hy : y = nI 117649 := hy
    subst hy
    refine ⟨z, ?_, hrest⟩
    show l_X6_layBoots_40 (nI 117649) z = _
    unfold l_X6_layBoots_40
    rw [if_pos (by decide)]
  · show X0 29 25 = nI 0
    rw [← hI0, fillS_out (by decide)]; rfl
  · show X0 29 26 = nI 0
    rw [← hI0, fillS_out (by decide)]; rfl
  · show X0 29 27 = nI 63
    rw [← hI0, fillS_out (by decide)]; rfl
  · show X0 42 (100 * k + v) = nI 0
    rw [← hI0, fillS_at, if_pos (by omega)]; rfl
