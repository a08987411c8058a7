/-! ===== the reference's rows: one row ===== -/
theorem RB_step {h o o' d l f k q t : Nat} {ap ap' rb rb' : Nat → Nat} (e1 : o'.testBit k = o.testBit k) (e2 : rb' k = rb k) (e3 : h.testBit q = true → ap' q = t ∧ t ≤ apH h ap q) : (RB h o' d l f ap' rb' k q = 0) ↔ (abN h o d l f ap rb k q && decide (0 < t)) = true := by
  unfold abN RB
  rw [e1, e2]
  by_cases c1 : (h.testBit k && h.testBit q) = false
  · rw [if_pos c1, if_pos c1]; simp
  rw [if_neg c1, if_neg c1]
  have c1 : (h.testBit k && h.testBit q) = true := by simpa using c1
  rw [Bool.and_eq_true] at c1
  obtain ⟨x1, x2⟩ := e3 c1.2
  unfold apH at x2
  rw [if_pos c1.2] at x2
  by_cases c2 : k = q
  · rw [if_pos c2, if_pos c2]; simp
  rw [if_neg c2, if_neg c2]
  by_cases c3 : (rb k).testBit q = true
  · rw [if_pos c3, if_pos c3]; simp
  rw [if_neg c3, if_neg c3]
  by_cases c4 : o.testBit k = true
  · rw [if_pos c4, if_pos c4]; simp
  rw [if_neg c4, if_neg c4]
  by_cases c5 : (d.testBit q && !l.testBit q) = true
  · rw [if_pos c5, if_pos c5]; simp
  rw [if_neg c5, if_neg c5, x1]
  by_cases c6 : t = 0
  · rw [if_pos c6]
    have : ¬ 0 < t := by omega
    simp [this]
  · have c7 : ¬ ap q = 0 := by omega
    have c8 : 0 < t := by omega
    rw [if_neg c6, if_neg c7]
    by_cases c9 : f = 0
    · rw [if_pos c9]; simp
    · rw [if_neg c9]; simp [c8]
theorem rT_no {abl : Nat → Nat → Bool} {bg base ds : Nat → Nat} {n : Nat} (h : rT abl bg base ds n = none) : ∀ m, rT abl bg base ds (n + m) = none := by
  intro m
  induction m with
  | zero => exact h
  | succ m ih =>
    show (match rT abl bg base ds (n + m) with
      | none => none
      | some tr => _) = none
    rw [ih]
theorem rT_ab {abl : Nat → Nat → Bool} {bg base ds : Nat → Nat} {k : Nat} (hk : k < 6) (h1 : ds k < 6) (h2 : abl k (ds k) = false) : rT abl bg base ds 6 = none := by
  have e : rT abl bg base ds (k + 1) = none := by
    show (match rT abl bg base ds k with
      | none => none
      | some tr => if ds k < 6 then (if (abl k (ds k) && decide (0 < tr (ds k))) = true then some (updN tr (ds k) (tr (ds k) - min (bg k) (tr (ds k)))) else none) else some tr) = none
    cases rT abl bg base ds k with
    | none => rfl
    | some tr =>
      show (if ds k < 6 then (if (abl k (ds k) && decide (0 < tr (ds k))) = true then some (updN tr (ds k) (tr (ds k) - min (bg k) (tr (ds k)))) else none) else some tr) = none
      rw [if_pos h1, h2]
      rfl
  have := rT_no e (6 - (k + 1))
  rw [show k + 1 + (6 - (k + 1)) = 6 by omega] at this
  exact this
theorem dgI {c k : Nat} (hc : c < 117649) : jrem (nI (c / 7 ^ k)) 7 = nI (dg c k) ∧ nI (c / 7 ^ k) / 7 = nI (c / 7 ^ (k + 1)) ∧ dg c k < 7 := by
  have hlt : c / 7 ^ k < 2 ^ 31 := Nat.lt_of_le_of_lt (Nat.div_le_self _ _) (by omega)
  refine ⟨rem_n (d := 7) 7 rfl hlt (by decide) (by decide), ?_, Nat.mod_lt _ (by decide)⟩
  rw [div_n (d := 7) 7 rfl hlt (by decide) (by decide), Nat.div_div_eq_div_mul, Nat.pow_succ]
theorem went_n {c k : Nat} : went (k + 1) c = if dg c k < 6 then went k c ||| 1 <<< k else went k c := by
  show (if decide (dg c k < 6) = true then bset (fun k => decide (dg c k < 6)) k ||| 1 <<< k else bset (fun k => decide (dg c k < 6)) k) = _
  by_cases e : dg c k < 6
  · rw [if_pos e, if_pos (by simpa using e)]; rfl
  · rw [if_neg e, if_neg (by simpa using e)]; rfl
/-- the reference's trees now, at the row's k-th thief -/
def JT (B h o d l f s k : Nat) (ap bg rb tr : Nat → Nat) (r1 τ : St) : Prop := ∃ (σp : St) (o' : Nat) (ap' hp' rb' : Nat → Nat), LM B h o' d l f s ap' bg hp' rb' (cv σp 9) (nv τ) ∧ (∀ j, k ≤ j → j < 6 → o'.testBit j = o.testBit j ∧ rb' j = rb j) ∧ (∀ q, q < 6 → h.testBit q = true → ap' q = tr q ∧ tr q ≤ apH h ap q) ∧ MF r1 τ
theorem try_loop {h o d l f s c : Nat} {ap bg rb : Nat → Nat} {r1 : St} (hc : c < 117649) : ∀ (m k : Nat), k + m = 6 → ∀ (B : Nat) (tr : Nat → Nat) (τ : St) (fuel : Nat), m + 1 < fuel → rT (abN h o d l f ap rb) bg (apH h ap) (dg c) k = some tr → JT B h o d l f s k ap bg rb tr r1 τ → ∃ (w : Int32) (cn : Int32) (τ' : St), loop (fun s : Int32 × Int32 × Int32 × Int32 × St => l_X6_tryBoots_14 s.1 s.2.1 s.2.2.1 s.2.2.2.1 s.2.2.2.2) fuel (nI (c / 7 ^ k), nI (went k c), 1, nI k, τ) = some (w, cn, τ') ∧ MF r1 τ' ∧ ((cn = 0 ∧ rT (abN h o d l f ap rb) bg (apH h ap) (dg c) 6 = none) ∨ (cn = 1 ∧ w = nI (went 6 c) ∧ ∃ (tr' : Nat → Nat) (B' : Nat), rT (abN h o d l f ap rb) bg (apH h ap) (dg c) 6 = some tr' ∧ JT B' h o d l f s 6 ap bg rb tr' r1 τ')) := by
  intro m
  induction m with
  | zero =>
    intro k hk B tr τ fuel hf hr hJ
    have hk : k = 6 := by omega
    subst hk
    obtain ⟨f', rfl⟩ : ∃ f, fuel = f + 1 := ⟨fuel - 1, by omega⟩
    refine ⟨nI (went 6 c), 1, τ, ?_, hJ.choose_spec.choose_spec.choose_spec.choose_spec.choose_spec.2.2.2, Or.inr ⟨rfl, rfl, tr, B, hr, hJ⟩⟩
    refine loop_ex (body := fun s : Int32 × Int32 × Int32 × Int32 × St => l_X6_tryBoots_14 s.1 s.2.1 s.2.2.1 s.2.2.2.1 s.2.2.2.2) (s := (nI (c / 7 ^ 6), nI (went 6 c), 1, nI 6, τ)) ?_
    show l_X6_tryBoots_14 _ _ 1 (nI 6) τ = _
    unfold l_X6_tryBoots_14
    rw [if_pos (by decide)]
  | succ m ih =>
    intro k hk B tr τ fuel hf hr hJ
    obtain ⟨f', rfl⟩ : ∃ f, fuel = f + 1 := ⟨fuel - 1, by omega⟩
    have hk6 : k < 6 := by omega
    obtain ⟨g1, g2, g3⟩ := dgI (k := k) hc
    obtain ⟨σp, o', ap', hp', rb', H, j1, j2, j3⟩ := id hJ
    have hrT : rT (abN h o d l f ap rb) bg (apH h ap) (dg c) (k + 1) = (if dg c k < 6 then (if (abN h o d l f ap rb k (dg c k) && decide (0 < tr (dg c k))) = true then some (updN tr (dg c k) (tr (dg c k) - min (bg k) (tr (dg c k)))) else none) else some tr) := by
      show (match rT (abN h o d l f ap rb) bg (apH h ap) (dg c) k with
        | none => none
        | some tr => if dg c k < 6 then (if (abN h o d l f ap rb k (dg c k) && decide (0 < tr (dg c k))) = true then some (updN tr (dg c k) (tr (dg c k) - min (bg k) (tr (dg c k)))) else none) else some tr) = _
      rw [hr]
    by_cases c6 : dg c k < 6
    · rw [if_pos c6] at hrT
      have hwh := whyNot_eq H hk6 c6
      have hlt := RB_lt (h := h) (o := o') (d := d) (l := l) (f := f) (k := k) (q := dg c k) (ap := ap') (rb := rb')
      have hiff := RB_step (h := h) (o := o) (o' := o') (d := d) (l := l) (f := f) (k := k) (q := dg c k) (t := tr (dg c k)) (ap := ap) (ap' := ap') (rb := rb) (rb' := rb') (j1 k (Nat.le_refl _) hk6).1 (j1 k (Nat.le_refl _) hk6).2 (fun hb => j2 _ c6 hb)
      by_cases cr : RB h o' d l f ap' rb' k (dg c k) = 0
      · rw [if_pos (hiff.mp cr)] at hrT
        obtain ⟨hbk, hbq, -⟩ := RB_there cr
        have hrob := rob6_eq H hk6 c6 hbk hbq
        have hLM := rob_LM H hk6 c6 hbk hbq
        have hbody : l_X6_tryBoots_14 (nI (c / 7 ^ k)) (nI (went k c)) 1 (nI k) τ = some (.inl (nI (c / 7 ^ (k + 1)), nI (went (k + 1) c), 1, nI (k + 1), robM τ (dg c k) k (nI (ap' (dg c k) - min (bg k) (ap' (dg c k)))) (nI (hp' k + min (bg k) (ap' (dg c k)))) (nI (rb' k ||| 1 <<< dg c k)) (nI (dg c k)) (nI (o' ||| 1 <<< k)))) := by
          unfold l_X6_tryBoots_14
          rw [if_neg (six_le hk6), if_neg (show ¬ (1 : Int32) = 0 by decide), g1, g2, if_neg (six_le c6), hwh, bnd_some, cr, if_neg (fun w => w rfl), bnd_some, if_neg (by decide), hrob, bnd_some, nm_eq, bnd_some, nI_1, (or_tab (went k c) (show went k c < 64 from bset_lt _ k (by omega)) k hk6).1, went_n, if_pos c6]
        rw [loop_in (body := fun s : Int32 × Int32 × Int32 × Int32 × St => l_X6_tryBoots_14 s.1 s.2.1 s.2.2.1 s.2.2.2.1 s.2.2.2.2) (s := (nI (c / 7 ^ k), nI (went k c), 1, nI k, τ)) hbody]
        refine ih (k + 1) (by omega) (B + 20) _ _ f' (by omega) hrT ⟨_, _, _, _, _, hLM, fun j h1 h2 => ⟨?_, ?_⟩, fun q hq hb => ?_, ?_⟩
        · rw [tb_or]
          have e : ¬ k = j := by omega
          simp [e]
          exact (j1 j (by omega) h2).1
        · unfold updN
          rw [if_neg (by omega)]
          exact (j1 j (by omega) h2).2
        · obtain ⟨x1, x2⟩ := j2 q hq hb
          obtain ⟨y1, y2⟩ := j2 (dg c k) c6 hbq
          unfold updN
          by_cases e : q = dg c k
          · rw [if_pos e, if_pos e, y1]
            rw [e] at x2 ⊢
            exact ⟨rfl, by omega⟩
          · rw [if_neg e, if_neg e]
            exact ⟨x1, x2⟩
        · intro cc kk q1 q2
          rw [robM_MF cc kk q1 q2]
          exact j3 cc kk q1 q2
      · rw [if_neg (fun w => cr (hiff.mpr w))] at hrT
        have hbody : l_X6_tryBoots_14 (nI (c / 7 ^ k)) (nI (went k c)) 1 (nI k) τ = some (.inl (nI (c / 7 ^ (k + 1)), nI (went k c), 0, nI (k + 1), τ)) := by
          unfold l_X6_tryBoots_14
          rw [if_neg (six_le hk6), if_neg (show ¬ (1 : Int32) = 0 by decide), g1, g2, if_neg (six_le c6), hwh, bnd_some, if_pos (nI_ne0 (by omega) (by omega)), bnd_some, if_pos rfl, bnd_some, nI_1]
        obtain ⟨f'', rfl⟩ : ∃ f, f' = f + 1 := ⟨f' - 1, by omega⟩
        have hnone := rT_no hrT (6 - (k + 1))
        rw [show k + 1 + (6 - (k + 1)) = 6 by omega] at hnone
        refine ⟨nI (went k c), 0, τ, ?_, j3, Or.inl ⟨rfl, hnone⟩⟩
        rw [loop_in (body := fun s : Int32 × Int32 × Int32 × Int32 × St => l_X6_tryBoots_14 s.1 s.2.1 s.2.2.1 s.2.2.2.1 s.2.2.2.2) (s := (nI (c / 7 ^ k), nI (went k c), 1, nI k, τ)) hbody]
        refine loop_ex (body := fun s : Int32 × Int32 × Int32 × Int32 × St => l_X6_tryBoots_14 s.1 s.2.1 s.2.2.1 s.2.2.2.1 s.2.2.2.2) (s := (nI (c / 7 ^ (k + 1)), nI (went k c), 0, nI (k + 1), τ)) ?_
        show l_X6_tryBoots_14 _ _ 0 (nI (k + 1)) τ = _
        unfold l_X6_tryBoots_14
        by_cases e : (6 : Int32) ≤ nI (k + 1)
        · rw [if_pos e]
        · rw [if_neg e, if_pos rfl]
    · rw [if_neg c6] at hrT
      have hd6 : dg c k = 6 := by omega
      have hbody : l_X6_tryBoots_14 (nI (c / 7 ^ k)) (nI (went k c)) 1 (nI k) τ = some (.inl (nI (c / 7 ^ (k + 1)), nI (went (k + 1) c), 1, nI (k + 1), τ)) := by
        unfold l_X6_tryBoots_14
        rw [if_neg (six_le hk6), if_neg (show ¬ (1 : Int32) = 0 by decide), g1, g2, hd6, if_pos (by decide), bnd_some, nI_1, went_n, if_neg c6]
      rw [loop_in (body := fun s : Int32 × Int32 × Int32 × Int32 × St => l_X6_tryBoots_14 s.1 s.2.1 s.2.2.1 s.2.2.2.1 s.2.2.2.2) (s := (nI (c / 7 ^ k), nI (went k c), 1, nI k, τ)) hbody]
      exact ih (k + 1) (by omega) B tr τ f' (by omega) hrT ⟨σp, o', ap', hp', rb', H, fun j h1 h2 => j1 j (by omega) h2, j2, j3⟩
/-- the sights of a row -/
theorem sight_loop {h s : Nat} {sq sa tr : Nat → Nat} {w : Int32} {cn : Int32} {τ : St} (hh : h < 64) (hs : s ≤ 8) (e0 : τ 29 0 = nI h) (e5 : τ 29 5 = nI s) (hS : ∀ i, i < s → sq i < 6 ∧ sa i ≤ 99 ∧ τ 31 (2 * i) = nI (sq i) ∧ τ 31 (2 * i + 1) = nI (sa i)) (ht : ∀ q, q < 6 → h.testBit q = true → τ 37 q = nI (tr q) ∧ tr q ≤ 99) : ∀ (m i : Nat), i + m = s → ∀ fuel, m + 1 < fuel → loop (fun z : Int32 × Int32 => l_X6_tryBoots_91 (w, cn, τ) z.1 z.2) fuel (1, nI i) = some (b2 (!anyU (fun j => !(h.testBit (sq (i + j)) && (tr (sq (i + j)) == sa (i + j)))) m)) := by
  intro m
  induction m with
  | zero =>
    intro i hi fuel hf
    obtain ⟨f, rfl⟩ : ∃ f, fuel = f + 1 := ⟨fuel - 1, by omega⟩
    have hi : i = s := by omega
    subst hi
    refine loop_ex (body := fun z : Int32 × Int32 => l_X6_tryBoots_91 (w, cn, τ) z.1 z.2) (s := (1, nI i)) ?_
    show l_X6_tryBoots_91 (w, cn, τ) 1 (nI i) = _
    unfold l_X6_tryBoots_91
    rw [show (w, cn, τ).2.2 29 5 = nI i from e5, if_pos (Int32.le_refl _)]
    rfl
  | succ m ih =>
    intro i hi fuel hf
    obtain ⟨f, rfl⟩ : ∃ f, fuel = f + 1 := ⟨fuel - 1, by omega⟩
    obtain ⟨x1, x2, x3, x4⟩ := hS i (by omega)
    have hbody : l_X6_tryBoots_91 (w, cn, τ) 1 (nI i) = some (.inl (b2 (h.testBit (sq i) && (tr (sq i) == sa i)), nI (i + 1))) := by
      unfold l_X6_tryBoots_91
      rw [show (w, cn, τ).2.2 29 5 = nI s from e5, if_neg (nI_ge (by omega) (by omega)), if_neg (show ¬ (1 : Int32) = 0 by decide), mul2, gi_in (by omega) (by decide), nI_clamp (by omega), show (w, cn, τ).2.2 31 (2 * i) = nI (sq i) from x3, show (w, cn, τ).2.2 29 0 = nI h from e0, mhas_in hh x1, bnd_some, gi_in (by omega) (by decide), gi_in x1 (by decide), nI_1, gi_in (by omega) (by decide), nI_clamp (by omega), nI_clamp (by omega), show (w, cn, τ).2.2 31 (2 * i + 1) = nI (sa i) from x4, nI_1]
      by_cases c1 : h.testBit (sq i) = true
      · obtain ⟨y1, y2⟩ := ht (sq i) x1 c1
        rw [if_pos c1, if_neg (by decide), show (w, cn, τ).2.2 37 (sq i) = nI (tr (sq i)) from y1, c1]
        by_cases c2 : tr (sq i) = sa i
        · rw [if_neg (fun q => q (by rw [c2])), bnd_some]
          simp [c2, b2]
        · rw [if_pos (fun q => c2 ((nI_eq (by omega) (by omega)).mp q)), bnd_some]
          simp [c2, b2]
      · have c1f : h.testBit (sq i) = false := by simpa using c1
        rw [if_neg c1, if_pos rfl, bnd_some, c1f]
        rfl
    rw [anyU_front, loop_in (body := fun z : Int32 × Int32 => l_X6_tryBoots_91 (w, cn, τ) z.1 z.2) (s := (1, nI i)) hbody]
    have e : (fun j => !(h.testBit (sq (i + (j + 1))) && (tr (sq (i + (j + 1))) == sa (i + (j + 1))))) = (fun j => !(h.testBit (sq (i + 1 + j)) && (tr (sq (i + 1 + j)) == sa (i + 1 + j)))) := funext (fun j => by rw [show i + (j + 1) = i + 1 + j by omega])
    show _ = some (b2 (!(!(h.testBit (sq i) && (tr (sq i) == sa i)) || anyU (fun j => !(h.testBit (sq (i + (j + 1))) && (tr (sq (i + (j + 1))) == sa (i + (j + 1))))) m)))
    rw [e]
    by_cases c : (h.testBit (sq i) && (tr (sq i) == sa i)) = true
    · rw [c]
      exact ih (i + 1) (by omega) f (by omega)
    · have c : (h.testBit (sq i) && (tr (sq i) == sa i)) = false := by simpa using c
      rw [c]
      obtain ⟨f', rfl⟩ : ∃ f'', f = f'' + 1 := ⟨f - 1, by omega⟩
      refine loop_ex (body := fun z : Int32 × Int32 => l_X6_tryBoots_91 (w, cn, τ) z.1 z.2) (s := (b2 false, nI (i + 1))) ?_
      show l_X6_tryBoots_91 (w, cn, τ) (b2 false) (nI (i + 1)) = _
      unfold l_X6_tryBoots_91
      rw [show (w, cn, τ).2.2 29 5 = nI s from e5, if_pos (show b2 false = 0 from rfl)]
      by_cases e2 : nI s ≤ nI (i + 1)
      · rw [if_pos e2]; rfl
      · rw [if_neg e2]; rfl
def ltS (τ : St) (v : Nat → Nat) (i : Nat) : St := fun c j => if c = 42 ∧ j / 100 < i ∧ j % 100 = v (j / 100) then τ c j + 1 else τ c j
theorem ltS_out {τ : St} {v : Nat → Nat} {i c : Nat} (h : c ≠ 42) : ltS τ v i c = τ c := by
  funext k
  simp [ltS, h]
theorem lt_loop {τ : St} {v : Nat → Nat} (hv : ∀ k, k < 6 → v k ≤ 99 ∧ τ 37 k = nI (v k)) : loop (fun s : Int32 × St => l_X6_tryBoots_203 s.1 s.2) 400 (0, τ) = some (ltS τ v 6) := by
  have e0 : ltS τ v 0 = τ := by
    funext c j
    simp [ltS]
  have hl := loop_to (body := fun s : Int32 × St => l_X6_tryBoots_203 s.1 s.2) (fun i => (nI i, ltS τ v i)) 6 (ltS τ v 6) (fun i hi => ?_) ?_ 400 (by decide)
  · rw [e0] at hl
    exact hl
  · show l_X6_tryBoots_203 (nI i) (ltS τ v i) = some (.inl (nI (i + 1), ltS τ v (i + 1)))
    obtain ⟨v1, v2⟩ := hv i hi
    unfold l_X6_tryBoots_203
    have hix : (100 : Int32) * nI i + nI (v i) = nI (100 * i + v i) := by
      rw [show (100 : Int32) * nI i = nI (100 * i) from pk_mul 100 i, nI_add]
    rw [if_neg (six_le hi), gi_in hi (by decide), nI_clamp (by omega), ltS_out (by decide), v2, hix, gi_in (by omega) (by decide), gi_in (by omega) (by decide), nI_clamp (by omega), nm_eq, nI_1]
    congr 2
    refine Prod.ext rfl ?_
    funext c j
    show up2 (ltS τ v i) 42 (100 * i + v i) (ltS τ v i 42 (100 * i + v i) + 1) c j = ltS τ v (i + 1) c j
    by_cases hc : c = 42
    · subst hc
      rw [up2_at]
      by_cases hj : j = 100 * i + v i
      · rw [if_pos hj, hj]
        have d1 : (100 * i + v i) / 100 = i := by omega
        have d2 : (100 * i + v i) % 100 = v i := by omega
        unfold ltS
        rw [d1, d2, if_neg (by omega), if_pos ⟨rfl, by omega, rfl⟩]
      · rw [if_neg hj]
        unfold ltS
        by_cases q : j / 100 < i ∧ j % 100 = v (j / 100)
        · rw [if_pos ⟨rfl, q⟩, if_pos ⟨rfl, by omega, q.2⟩]
        · rw [if_neg (fun w => q w.2), if_neg (fun w => ?_)]
          obtain ⟨-, w1, w2⟩ := w
          by_cases e : j / 100 = i
          · rw [e] at w2
            omega
          · exact q ⟨by omega, w2⟩
    · rw [up2_out hc, ltS_out hc, ltS_out hc]
  · show l_X6_tryBoots_203 (nI 6) _ = _
    unfold l_X6_tryBoots_203
    rw [if_pos (by decide)]
