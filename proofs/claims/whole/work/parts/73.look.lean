/-! ===== look ===== -/
def mxN (T : Nat → Nat) : Nat → Nat
  | 0 => 0
  | n + 1 => max (mxN T n) (T n)
theorem mxN_le {T : Nat → Nat} {x : Nat} : ∀ n, mxN T n ≤ x ↔ ∀ v, v < n → T v ≤ x := by
  intro n
  induction n with
  | zero => exact ⟨fun _ v hv => absurd hv (Nat.not_lt_zero _), fun _ => Nat.zero_le _⟩
  | succ n ih =>
    show max (mxN T n) (T n) ≤ x ↔ _
    rw [Nat.max_le, ih]
    constructor
    · rintro ⟨h1, h2⟩ v hv
      by_cases e : v = n
      · rw [e]; exact h2
      · exact h1 v (by omega)
    · intro h
      exact ⟨fun v hv => h v (by omega), h n (by omega)⟩
theorem mxN_ge {T : Nat → Nat} {n v : Nat} (hv : v < n) : T v ≤ mxN T n := (mxN_le n).mp (Nat.le_refl _) v hv
theorem mxN_c {T T' : Nat → Nat} : ∀ n, (∀ v, v < n → T v = T' v) → mxN T n = mxN T' n := by
  intro n
  induction n with
  | zero => intro _; rfl
  | succ n ih =>
    intro h
    show max (mxN T n) (T n) = max (mxN T' n) (T' n)
    rw [ih (fun v hv => h v (by omega)), h n (by omega)]
theorem mxN_up {T T' : Nat → Nat} {n a : Nat} (ha : a < n) (h1 : ∀ v, v < n → v ≠ a → T' v = T v) (h2 : T a ≤ T' a) : mxN T' n = max (mxN T n) (T' a) := by
  apply Nat.le_antisymm
  · rw [mxN_le]
    intro v hv
    by_cases e : v = a
    · rw [e]; exact Nat.le_max_right _ _
    · rw [h1 v hv e]
      exact Nat.le_trans (mxN_ge hv) (Nat.le_max_left _ _)
  · rw [Nat.max_le]
    refine ⟨?_, mxN_ge ha⟩
    rw [mxN_le]
    intro v hv
    by_cases e : v = a
    · rw [e]; exact Nat.le_trans h2 (mxN_ge ha)
    · rw [← h1 v hv e]; exact mxN_ge hv
theorem nn_tab : ∀ g, g < 64 → ((nI g ^^^ (-1 : Int32)) ^^^ (-1 : Int32)) = nI g := by decide +kernel
theorem cwW_c {f f' : Nat → Nat → Nat} {om : Nat} : ∀ i, (∀ q, q < i → q ≠ om → f q = f' q) → cwW f om i = cwW f' om i := by
  intro i
  induction i with
  | zero => intro _; rfl
  | succ i ih =>
    intro h
    show (if i = om then cwW f om i else conv (cwW f om i) (f i)) = (if i = om then cwW f' om i else conv (cwW f' om i) (f' i))
    rw [ih (fun q hq => h q (by omega))]
    by_cases e : i = om
    · rw [if_pos e, if_pos e]
    · rw [if_neg e, if_neg e, h i (by omega) e]
/-- how many rows leave v at the tree, by the gangs below i -/
def tlN (abl : Nat → Nat → Bool) (bg base W : Nat → Nat) (t v i : Nat) : Nat := sumN (fun g => sumN (fun S => if S &&& g = 0 then W S else 0) 64 * (if rG abl bg base t 6 g = some v then 1 else 0)) i
theorem tlN_end {h s t v : Nat} {sq sa bg base : Nat → Nat} {abl : Nat → Nat → Bool} (hsq : ∀ i, i < s → sq i < 6) (ht : t < 6) (hns : ∀ i, i < s → sq i ≠ t) : tlN abl bg base (cwW (okN h s sq sa abl bg base) t 6) t v 64 = sumN (fun c => if vldT h s sq sa abl bg base t v c = true then 1 else 0) 117649 := by
  have e1 : cwW (okN h s sq sa abl bg base) t 6 = cwW (fvT h s sq sa abl bg base t v) t 6 := cwW_c 6 (fun q _ hq => funext (fun g => (if_neg hq).symm))
  have e2 : (fun g => if rG abl bg base t 6 g = some v then 1 else 0) = fvT h s sq sa abl bg base t v t := funext (fun g => (if_pos rfl).symm)
  unfold tlN
  have e3 := by_gang (W := cwW (okN h s sq sa abl bg base) t 6) (F := fun g => if rG abl bg base t 6 g = some v then 1 else 0)
  have e3 : sumN (fun g => sumN (fun S => if S &&& g = 0 then cwW (okN h s sq sa abl bg base) t 6 S else 0) 64 * (if rG abl bg base t 6 g = some v then 1 else 0)) 64 = sumN (conv (cwW (okN h s sq sa abl bg base) t 6) (fun g => if rG abl bg base t 6 g = some v then 1 else 0)) 64 := e3.symm
  rw [e3, e1, e2, rows_t ht, p76]
  exact sumN_eq _ (fun c _ => vldT_prod hsq ht hns c)
theorem sumN_mono {G : Nat → Nat} {a b : Nat} (h : a ≤ b) : sumN G a ≤ sumN G b := by
  have := sumN_app G a (b - a)
  rw [show a + (b - a) = b by omega] at this
  omega
def lvN (h s : Nat) (sq sa : Nat → Nat) (abl : Nat → Nat → Bool) (bg base : Nat → Nat) (t v : Nat) : Nat := sumN (fun c => if vldT h s sq sa abl bg base t v c = true then 1 else 0) 117649
theorem most5b {B h o d l f s t : Nat} {ap bg hp rb sq sa : Nat → Nat} {W : VW} {σ : St} (H : LM B h o d l f s ap bg hp rb (cv σ 1) W) (hS : ∀ i, i < s → sq i < 6 ∧ sa i ≤ 99 ∧ σ 7 i = nI (sq i) ∧ σ 8 i = nI (sa i)) (ht : t < 6) (hns : ∀ i, i < s → sq i ≠ t) : ∃ z, f_X3_mostLeftBy (nI t) σ = some (nI (mxN (lvN h s sq sa (abN h o d l f ap rb) bg (apH h ap) t) 100), z) ∧ RF σ z := by
  have hsq : ∀ i, i < s → sq i < 6 := fun i hi => (hS i hi).1
  obtain ⟨z1, c1, c2, c3⟩ := count5 (om := t) (xo := nI t) H hS (fun i hi => nI_eq (by omega) (by omega))
  have H1 := LM_agrC H (RF_Agr c2)
  have f5 := fill5 H1 ht
  have hap := apH_all H t ht
  generalize hLd : (fun g => encL (rG (abN h o d l f ap rb) bg (apH h ap) t 6 g)) = L at f5
  have hLg : ∀ g, L g = encL (rG (abN h o d l f ap rb) bg (apH h ap) t 6 g) := fun g => by rw [← hLd]
  generalize hWd : cwW (okN h s sq sa (abN h o d l f ap rb) bg (apH h ap)) t 6 = Wy at c3
  have hT64 : ∀ v, tlN (abN h o d l f ap rb) bg (apH h ap) Wy t v 64 = lvN h s sq sa (abN h o d l f ap rb) bg (apH h ap) t v := fun v => by rw [← hWd]; exact tlN_end hsq ht hns
  have hTb : ∀ v i, i ≤ 64 → tlN (abN h o d l f ap rb) bg (apH h ap) Wy t v i ≤ 117649 := fun v i hi => by
    refine Nat.le_trans (sumN_mono hi) ?_
    have := hT64 v
    unfold tlN at this
    rw [this]
    exact cnt_le _
  have hMb : ∀ i, i ≤ 64 → mxN (fun v => tlN (abN h o d l f ap rb) bg (apH h ap) Wy t v i) 100 ≤ 117649 := fun i hi => (mxN_le 100).mpr (fun v _ => hTb v i hi)
  generalize hz3 : fillS (flS z1 L 64) 26 100 0 = z3
  have z3o : ∀ c, c ≠ 24 → c ≠ 25 → c ≠ 26 → z3 c = z1 c := fun c q1 q2 q3 => by rw [← hz3, fillS_out q3, flS_out q2]
  have z324 : ∀ k, k < 64 → z3 24 k = nI (Wy k) := fun k hk => by rw [← hz3, fillS_out (by decide), flS_out (by decide)]; exact c3 k hk
  have z325 : ∀ k, k < 64 → z3 25 k = L k := fun k hk => by rw [← hz3, fillS_out (by decide), flS_in hk]
  have hl := loop_inv (body := fun s : Int32 × Int32 × St => l_X3_mostLeftBy_25 s.1 s.2.1 s.2.2) (fun i y => y.1 = nI (mxN (fun v => tlN (abN h o d l f ap rb) bg (apH h ap) Wy t v i) 100) ∧ y.2.1 = nI i ∧ (∀ c k, c ≠ 26 → y.2.2 c k = z3 c k) ∧ ∀ v, v < 100 → y.2.2 26 v = nI (tlN (abN h o d l f ap rb) bg (apH h ap) Wy t v i)) (fun y => y.1 = nI (mxN (fun v => tlN (abN h o d l f ap rb) bg (apH h ap) Wy t v 64) 100) ∧ ∀ c k, c ≠ 26 → y.2 c k = z3 c k) 64 (fun i y hi hI => ?_) (fun y hI => ?_) 64 0 (0, 0, z3) (by decide) ⟨?_, rfl, fun _ _ _ => rfl, fun v hv => ?_⟩ 400 (by decide)
  · obtain ⟨⟨m, z⟩, e1, e2, e3⟩ := hl
    have e2 : m = nI (mxN (fun v => tlN (abN h o d l f ap rb) bg (apH h ap) Wy t v 64) 100) := e2
    have e3 : ∀ c k, c ≠ 26 → z c k = z3 c k := e3
    refine ⟨z, ?_, fun c k q1 q2 q3 => ?_⟩
    · unfold f_X3_mostLeftBy
      rw [c1, bnd_some, f5, bnd_some, nm_eq, hz3, e1, bnd_some, e2]
      have e : mxN (fun v => tlN (abN h o d l f ap rb) bg (apH h ap) Wy t v 64) 100 = mxN (lvN h s sq sa (abN h o d l f ap rb) bg (apH h ap) t) 100 := mxN_c 100 (fun v _ => hT64 v)
      rw [e]
    · rw [e3 c k q3, z3o c q1 q2 q3]
      exact c2 c k q1 q2 q3
  · obtain ⟨m, y, z⟩ := y
    obtain ⟨hm, hy, hf, h26⟩ := hI
    have hm : m = nI (mxN (fun v => tlN (abN h o d l f ap rb) bg (apH h ap) Wy t v i) 100) := hm
    have hy : y = nI i := hy
    subst hy
    subst hm
    have hf : ∀ c k, c ≠ 26 → z c k = z3 c k := hf
    have h26 : ∀ v, v < 100 → z 26 v = nI (tlN (abN h o d l f ap rb) bg (apH h ap) Wy t v i) := h26
    have hTs : ∀ v, tlN (abN h o d l f ap rb) bg (apH h ap) Wy t v (i + 1) = tlN (abN h o d l f ap rb) bg (apH h ap) Wy t v i + sumN (fun S => if S &&& i = 0 then Wy S else 0) 64 * (if rG (abN h o d l f ap rb) bg (apH h ap) t 6 i = some v then 1 else 0) := fun v => rfl
    have hzi : z 25 i = L i := by rw [hf 25 i (by decide), z325 i hi]
    cases hr : rG (abN h o d l f ap rb) bg (apH h ap) t 6 i with
    | none =>
      have hLi : L i = -6 := by rw [hLg, hr]; rfl
      have hsame : ∀ v, tlN (abN h o d l f ap rb) bg (apH h ap) Wy t v (i + 1) = tlN (abN h o d l f ap rb) bg (apH h ap) Wy t v i := fun v => by
        rw [hTs, hr, if_neg (by simp), Nat.mul_zero, Nat.add_zero]
      refine ⟨(nI (mxN (fun v => tlN (abN h o d l f ap rb) bg (apH h ap) Wy t v i) 100), nI (i + 1), z), ?_, ?_, rfl, hf, fun v hv => ?_⟩
      · show l_X3_mostLeftBy_25 _ (nI i) z = _
        unfold l_X3_mostLeftBy_25
        rw [if_neg (show ¬ (64 : Int32) ≤ nI i from nI_ge (b := 64) hi (by decide)), gi_in hi (by decide), nI_clamp (by omega), hzi, hLi, show f_X5_within (-6) 0 99 = some 0 from by decide, bnd_some, if_pos rfl, bnd_some, nI_1]
      · show nI _ = nI _
        rw [mxN_c 100 (fun v _ => hsame v)]
      · show z 26 v = _
        rw [hsame v]; exact h26 v hv
    | some a =>
      have ha : a ≤ 99 := Nat.le_trans (rG_le 6 a hr) hap
      have hLi : L i = nI a := by rw [hLg, hr]; rfl
      have hw : f_X5_within (nI a) 0 99 = some 1 := wi_in (lt_neg (by omega)) (show ¬ (99 : Int32) < nI a from nI_nlt (a := 99) ha (by decide))
      have hww := within5 (z := z) (W := Wy) (a := nI i ^^^ (-1 : Int32)) (P := fun S => decide (S &&& i = 0)) (fun k hk => by rw [hf 24 k (by decide)]; exact z324 k hk) (fun k hk => by
        rw [nn_tab i hi, (and64 k hk i hi).1]
        have := (and64 k hk i hi).2
        rw [show (0 : Int32) = nI 0 from rfl, nI_eq (by omega) (by decide)]
        simp)
      have hww : f_X3_waysWithin (nI i ^^^ (-1 : Int32)) z = some (nI (sumN (fun S => if S &&& i = 0 then Wy S else 0) 64)) := by
        rw [hww]
        congr 2
        exact sumN_eq 64 (fun S _ => by by_cases e : S &&& i = 0 <;> simp [e])
      have hTa : tlN (abN h o d l f ap rb) bg (apH h ap) Wy t a (i + 1) = tlN (abN h o d l f ap rb) bg (apH h ap) Wy t a i + sumN (fun S => if S &&& i = 0 then Wy S else 0) 64 := by
        rw [hTs, hr, if_pos rfl, Nat.mul_one]
      have hTn : ∀ v, v ≠ a → tlN (abN h o d l f ap rb) bg (apH h ap) Wy t v (i + 1) = tlN (abN h o d l f ap rb) bg (apH h ap) Wy t v i := fun v hv => by
        rw [hTs, hr, if_neg (fun w => hv (Option.some.inj w).symm), Nat.mul_zero, Nat.add_zero]
      have hmx := mxN_up (T := fun v => tlN (abN h o d l f ap rb) bg (apH h ap) Wy t v i) (T' := fun v => tlN (abN h o d l f ap rb) bg (apH h ap) Wy t v (i + 1)) (n := 100) (a := a) (by omega) (fun v _ hv => hTn v hv) (by show tlN _ _ _ _ _ _ _ ≤ tlN _ _ _ _ _ _ _; rw [hTa]; omega)
      have hmx : mxN (fun v => tlN (abN h o d l f ap rb) bg (apH h ap) Wy t v (i + 1)) 100 = max (mxN (fun v => tlN (abN h o d l f ap rb) bg (apH h ap) Wy t v i) 100) (tlN (abN h o d l f ap rb) bg (apH h ap) Wy t a (i + 1)) := hmx
      have b1 := hMb i (by omega)
      have b2 := hTb a (i + 1) (by omega)
      refine ⟨(nI (mxN (fun v => tlN (abN h o d l f ap rb) bg (apH h ap) Wy t v (i + 1)) 100), nI (i + 1), up2 z 26 a (nI (tlN (abN h o d l f ap rb) bg (apH h ap) Wy t a (i + 1)))), ?_, rfl, rfl, fun c k hc => ?_, fun v hv => ?_⟩
      · show l_X3_mostLeftBy_25 _ (nI i) z = _
        unfold l_X3_mostLeftBy_25
        rw [if_neg (show ¬ (64 : Int32) ≤ nI i from nI_ge (b := 64) hi (by decide)), gi_in hi (by decide), nI_clamp (by omega), hzi, hLi, hw, bnd_some, if_neg (by decide), gi_in (by omega) (by decide), hww, bnd_some, gi_in (by omega) (by decide), nI_clamp (by omega), h26 a (by omega), nI_add, ← hTa, nm_eq, gi_in (by omega) (by decide), up2_s, nm_eq, jmax_n (by omega) (by omega), ← hmx, bnd_some, nI_1]
      · show up2 z 26 a _ c k = z3 c k
        rw [up2_out hc]; exact hf c k hc
      · show up2 z 26 a _ 26 v = _
        rw [up2_at]
        by_cases e : v = a
        · rw [if_pos e, e]
        · rw [if_neg e, hTn v e]; exact h26 v hv
  · obtain ⟨m, y, z⟩ := y
    obtain ⟨hm, hy, hf, h26⟩ := hI
    have hy : y = nI 64 := hy
    subst hy
    refine ⟨(m, z), ?_, hm, hf⟩
    show l_X3_mostLeftBy_25 m (nI 64) z = _
    unfold l_X3_mostLeftBy_25
    rw [if_pos (by decide)]
  · show (0 : Int32) = nI _
    have : mxN (fun v => tlN (abN h o d l f ap rb) bg (apH h ap) Wy t v 0) 100 = 0 := Nat.eq_zero_of_le_zero ((mxN_le 100).mpr (fun v _ => Nat.le_refl _))
    rw [this]
    rfl
  · show z3 26 v = nI 0
    rw [← hz3, fillS_at, if_pos hv]
    rfl
