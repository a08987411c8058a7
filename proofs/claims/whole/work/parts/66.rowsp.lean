/-! ===== rows of boots: gangs and rows, without the machine ===== -/
def pmT (t i : Nat) : Nat := if i < 5 then (if i < t then i else i + 1) else t
theorem pmT_lt : ∀ t, t < 6 → ∀ i, i < 6 → pmT t i < 6 := by decide
theorem pmT_inj : ∀ t, t < 6 → ∀ i, i < 6 → ∀ j, j < 6 → pmT t i = pmT t j → i = j := by decide
theorem pmT_s {t : Nat} (ht : t < 6) (X : Nat → Nat) : sumN (fun i => X (pmT t i)) 6 = sumN X 6 := by
  rcases (show t = 0 ∨ t = 1 ∨ t = 2 ∨ t = 3 ∨ t = 4 ∨ t = 5 by omega) with rfl | rfl | rfl | rfl | rfl | rfl
  all_goals
    simp [sumN, pmT]
    try omega
theorem pj0 (a : Nat → Nat → Nat) : pj a 6 0 = a 0 0 * a 1 0 * a 2 0 * a 3 0 * a 4 0 * a 5 0 := by
  show conv (conv (conv (conv (conv (conv dl (a 0)) (a 1)) (a 2)) (a 3)) (a 4)) (a 5) 0 = _
  rw [conv_0, conv_0, conv_0, conv_0, conv_0, conv_0, show dl 0 = 1 from rfl, Nat.one_mul]
theorem pmT_p {t : Nat} (ht : t < 6) (f : Nat → Nat → Nat) : pj (fun i => f (pmT t i)) 6 0 = prodG f (fun _ => 0) := by
  rw [pj0]
  unfold prodG
  rcases (show t = 0 ∨ t = 1 ∨ t = 2 ∨ t = 3 ∨ t = 4 ∨ t = 5 by omega) with rfl | rfl | rfl | rfl | rfl | rfl
  all_goals
    simp [pmT]
    try simp [Nat.mul_comm, Nat.mul_left_comm, Nat.mul_assoc]
def cwW (f : Nat → Nat → Nat) (om : Nat) : Nat → Nat → Nat
  | 0 => dl
  | i + 1 => if i = om then cwW f om i else conv (cwW f om i) (f i)
theorem cwW_6 (f : Nat → Nat → Nat) : cwW f 6 6 = pj (fun i => f (pmT 5 i)) 6 := by
  simp [cwW, pj, pmT]
theorem cwW_t {t : Nat} (ht : t < 6) (f : Nat → Nat → Nat) : cwW f t 6 = pj (fun i => f (pmT t i)) 5 := by
  rcases (show t = 0 ∨ t = 1 ∨ t = 2 ∨ t = 3 ∨ t = 4 ∨ t = 5 by omega) with rfl | rfl | rfl | rfl | rfl | rfl <;> simp [cwW, pj, pmT]
theorem went_lt (c : Nat) : went 6 c < 64 := bset_lt _ 6 (by decide)
/-- the rows with just these out -/
theorem ways_eq {f : Nat → Nat → Nat} {S : Nat} (hS : S < 64) : cwW f 6 6 S = sumN (wgt 6 f S) (7 ^ 6) := by
  rw [wgt_sum, cwW_6]
  exact pj_A (pmT_lt 5 (by decide)) (pmT_inj 5 (by decide)) (pmT_s (by decide)) (pmT_p (by decide)) 6 (Nat.le_refl _) f S hS
theorem sum_wgt (f : Nat → Nat → Nat) (c : Nat) : sumN (fun T => wgt 6 f T c) 64 = prodG f (gang 6 c) := by
  unfold wgt
  exact sumN_one 64 (went_lt c)
theorem rows_eq (f : Nat → Nat → Nat) : sumN (cwW f 6 6) 64 = sumN (fun c => prodG f (gang 6 c)) (7 ^ 6) := by
  rw [sumN_eq 64 (fun S hS => ways_eq (f := f) hS)]
  show sumN (fun S => sumN (fun c => wgt 6 f S c) (7 ^ 6)) 64 = _
  rw [sumN_cm]
  exact sumN_eq _ (fun c _ => sum_wgt f c)
theorem rows_t {t : Nat} (ht : t < 6) (f : Nat → Nat → Nat) : sumN (conv (cwW f t 6) (f t)) 64 = sumN (fun c => prodG f (gang 6 c)) (7 ^ 6) := by
  have e : ∀ S, S < 64 → conv (cwW f t 6) (f t) S = sumN (wgt 6 f S) (7 ^ 6) := fun S hS => by
    rw [wgt_sum, ← pj_A (pmT_lt t ht) (pmT_inj t ht) (pmT_s ht) (pmT_p ht) 6 (Nat.le_refl _) f S hS, cwW_t ht]
    show _ = conv (pj (fun i => f (pmT t i)) 5) (f (pmT t 5)) S
    rw [show pmT t 5 = t from rfl]
  rw [sumN_eq 64 e]
  show sumN (fun S => sumN (fun c => wgt 6 f S c) (7 ^ 6)) 64 = _
  rw [sumN_cm]
  exact sumN_eq _ (fun c _ => sum_wgt f c)
/-! xor only changes the order of the sets -/
theorem xb64 (φ : Nat → Nat) {n : Nat} (hn : n < 6) : sumN (fun x => φ (x ^^^ 1 <<< n)) 64 = sumN φ 64 := by
  rw [sp64 φ n hn, sp64 (fun x => φ (x ^^^ 1 <<< n)) n hn]
  refine sumN_eq 64 (fun x _ => ?_)
  by_cases c : x.testBit n = true
  · rw [if_pos c, if_pos c]
  · rw [if_neg c, if_neg c]
    have cf : x.testBit n = false := by simpa using c
    have e1 : x ^^^ 1 <<< n = x ||| 1 <<< n := Nat.eq_of_testBit_eq (fun j => by
      rw [tb_xor, tb_or]
      by_cases e : n = j
      · rw [← e, cf]; simp
      · simp [e])
    have e2 : (x ||| 1 <<< n) ^^^ 1 <<< n = x := Nat.eq_of_testBit_eq (fun j => by
      rw [tb_xor, tb_or]
      by_cases e : n = j
      · rw [← e, cf]; simp
      · simp [e])
    show φ (x ^^^ 1 <<< n) + φ ((x ||| 1 <<< n) ^^^ 1 <<< n) = _
    rw [e1, e2, Nat.add_comm]
theorem xo64 {φ : Nat → Nat} {n : Nat} (hn : n < 6) (b : Bool) : sumN (fun x => φ (x ^^^ (if b = true then 1 <<< n else 0))) 64 = sumN φ 64 := by
  cases b with
  | true => exact xb64 φ hn
  | false =>
    refine sumN_eq 64 (fun x _ => ?_)
    simp
theorem xg_tab : ∀ g, g < 64 → g = (((((if g.testBit 0 = true then 1 <<< 0 else 0) ^^^ (if g.testBit 1 = true then 1 <<< 1 else 0)) ^^^ (if g.testBit 2 = true then 1 <<< 2 else 0)) ^^^ (if g.testBit 3 = true then 1 <<< 3 else 0)) ^^^ (if g.testBit 4 = true then 1 <<< 4 else 0)) ^^^ (if g.testBit 5 = true then 1 <<< 5 else 0) := by decide +kernel
theorem xassoc (x b0 b1 b2 b3 b4 b5 : Nat) : x ^^^ (((((b0 ^^^ b1) ^^^ b2) ^^^ b3) ^^^ b4) ^^^ b5) = (((((x ^^^ b0) ^^^ b1) ^^^ b2) ^^^ b3) ^^^ b4) ^^^ b5 := by
  simp only [Nat.xor_assoc]
theorem xr64 (φ : Nat → Nat) {g : Nat} (hg : g < 64) : sumN (fun x => φ (x ^^^ g)) 64 = sumN φ 64 := by
  have h5 := xo64 (φ := φ) (n := 5) (by decide) (g.testBit 5)
  have h4 := xo64 (φ := fun x => φ (x ^^^ (if g.testBit 5 = true then 1 <<< 5 else 0))) (n := 4) (by decide) (g.testBit 4)
  have h3 := xo64 (φ := fun x => φ ((x ^^^ (if g.testBit 4 = true then 1 <<< 4 else 0)) ^^^ (if g.testBit 5 = true then 1 <<< 5 else 0))) (n := 3) (by decide) (g.testBit 3)
  have h2 := xo64 (φ := fun x => φ (((x ^^^ (if g.testBit 3 = true then 1 <<< 3 else 0)) ^^^ (if g.testBit 4 = true then 1 <<< 4 else 0)) ^^^ (if g.testBit 5 = true then 1 <<< 5 else 0))) (n := 2) (by decide) (g.testBit 2)
  have h1 := xo64 (φ := fun x => φ ((((x ^^^ (if g.testBit 2 = true then 1 <<< 2 else 0)) ^^^ (if g.testBit 3 = true then 1 <<< 3 else 0)) ^^^ (if g.testBit 4 = true then 1 <<< 4 else 0)) ^^^ (if g.testBit 5 = true then 1 <<< 5 else 0))) (n := 1) (by decide) (g.testBit 1)
  have h0 := xo64 (φ := fun x => φ (((((x ^^^ (if g.testBit 1 = true then 1 <<< 1 else 0)) ^^^ (if g.testBit 2 = true then 1 <<< 2 else 0)) ^^^ (if g.testBit 3 = true then 1 <<< 3 else 0)) ^^^ (if g.testBit 4 = true then 1 <<< 4 else 0)) ^^^ (if g.testBit 5 = true then 1 <<< 5 else 0))) (n := 0) (by decide) (g.testBit 0)
  rw [← h5, ← h4, ← h3, ← h2, ← h1, ← h0]
  refine sumN_eq 64 (fun x _ => ?_)
  have e := (congrArg (fun w => x ^^^ w) (xg_tab g hg)).trans (xassoc x _ _ _ _ _ _)
  exact congrArg φ e
/-- by the gang at one tree -/
theorem by_gang {W F : Nat → Nat} : sumN (conv W F) 64 = sumN (fun g => sumN (fun S => if S &&& g = 0 then W S else 0) 64 * F g) 64 := by
  show sumN (fun T => sumN (fun x => if x &&& (63 ^^^ T) = 0 then W (T ^^^ x) * F x else 0) 64) 64 = _
  rw [sumN_cm]
  refine sumN_eq 64 (fun g hg => ?_)
  rw [← sumN_mu, ← xr64 (fun S => (if S &&& g = 0 then W S else 0) * F g) hg]
  refine sumN_eq 64 (fun T hT => ?_)
  show _ = (if (T ^^^ g) &&& g = 0 then W (T ^^^ g) else 0) * F g
  have hiff : (g &&& (63 ^^^ T) = 0) ↔ ((T ^^^ g) &&& g = 0) := by
    rw [Sub_iff hg]
    constructor
    · intro h
      refine eq64 (and64 _ (xor_lt T hT g hg) g hg).2 (by decide) (fun j hj => ?_)
      rw [Nat.testBit_and, Nat.testBit_xor, Nat.zero_testBit]
      by_cases c : g.testBit j = true
      · rw [c, h j hj c]; rfl
      · have c : g.testBit j = false := by simpa using c
        rw [c]; simp
    · intro h j hj c
      have := congrArg (fun w : Nat => w.testBit j) h
      simp only [Nat.testBit_and, Nat.testBit_xor, Nat.zero_testBit, c] at this
      simpa using this
  by_cases c : g &&& (63 ^^^ T) = 0
  · rw [if_pos c, if_pos (hiff.mp c)]
  · rw [if_neg c, if_neg (fun w => c (hiff.mpr w)), Nat.zero_mul]
/-! one row -/
def rG (abl : Nat → Nat → Bool) (bg base : Nat → Nat) (q : Nat) : Nat → Nat → Option Nat
  | 0 => fun _ => some (base q)
  | n + 1 => fun g => if g.testBit n = true then (match rG abl bg base q n g with
    | none => none
    | some a => if (abl n q && decide (0 < a)) = true then some (a - min a (bg n)) else none) else rG abl bg base q n g
def rT (abl : Nat → Nat → Bool) (bg base : Nat → Nat) (ds : Nat → Nat) : Nat → Option (Nat → Nat)
  | 0 => some base
  | n + 1 => match rT abl bg base ds n with
    | none => none
    | some tr => if ds n < 6 then (if (abl n (ds n) && decide (0 < tr (ds n))) = true then some (updN tr (ds n) (tr (ds n) - min (bg n) (tr (ds n)))) else none) else some tr
theorem rG_c {abl : Nat → Nat → Bool} {bg base : Nat → Nat} {q g g' : Nat} : ∀ n, (∀ k, k < n → g.testBit k = g'.testBit k) → rG abl bg base q n g = rG abl bg base q n g' := by
  intro n
  induction n with
  | zero => intro _; rfl
  | succ n ih =>
    intro h
    show (if g.testBit n = true then (match rG abl bg base q n g with
      | none => none
      | some a => if (abl n q && decide (0 < a)) = true then some (a - min a (bg n)) else none) else rG abl bg base q n g) = (if g'.testBit n = true then (match rG abl bg base q n g' with
      | none => none
      | some a => if (abl n q && decide (0 < a)) = true then some (a - min a (bg n)) else none) else rG abl bg base q n g')
    rw [ih (fun k hk => h k (by omega)), h n (by omega)]
theorem rG_up {abl : Nat → Nat → Bool} {bg base : Nat → Nat} {q g n : Nat} : ∀ m, (∀ k, n ≤ k → k < n + m → g.testBit k = false) → rG abl bg base q (n + m) g = rG abl bg base q n g := by
  intro m
  induction m with
  | zero => intro _; rfl
  | succ m ih =>
    intro h
    show (if g.testBit (n + m) = true then _ else rG abl bg base q (n + m) g) = _
    rw [h (n + m) (by omega) (by omega), if_neg (by decide), ih (fun k h1 h2 => h k h1 (by omega))]
theorem rT_rG {abl : Nat → Nat → Bool} {bg base ds G : Nat → Nat} (hG : ∀ q, q < 6 → ∀ k, k < 6 → (G q).testBit k = (ds k == q)) : ∀ n, n ≤ 6 → (∀ tr, rT abl bg base ds n = some tr → ∀ q, q < 6 → rG abl bg base q n (G q) = some (tr q)) ∧ (rT abl bg base ds n = none → ∃ q, q < 6 ∧ rG abl bg base q n (G q) = none) := by
  intro n
  induction n with
  | zero =>
    intro _
    refine ⟨fun tr h q hq => ?_, fun h => ?_⟩
    · cases h; rfl
    · cases h
  | succ n ih =>
    intro hn
    obtain ⟨ih1, ih2⟩ := ih (by omega)
    have hrG : ∀ q, rG abl bg base q (n + 1) (G q) = (if (G q).testBit n = true then (match rG abl bg base q n (G q) with
      | none => none
      | some a => if (abl n q && decide (0 < a)) = true then some (a - min a (bg n)) else none) else rG abl bg base q n (G q)) := fun q => rfl
    have hrT : rT abl bg base ds (n + 1) = (match rT abl bg base ds n with
      | none => none
      | some tr => if ds n < 6 then (if (abl n (ds n) && decide (0 < tr (ds n))) = true then some (updN tr (ds n) (tr (ds n) - min (bg n) (tr (ds n)))) else none) else some tr) := rfl
    cases hr : rT abl bg base ds n with
    | none =>
      obtain ⟨q, hq, h0⟩ := ih2 hr
      rw [hr] at hrT
      refine ⟨fun tr h => (by rw [hrT] at h; cases h), fun _ => ⟨q, hq, ?_⟩⟩
      rw [hrG, h0]
      by_cases c : (G q).testBit n = true
      · rw [if_pos c]
      · rw [if_neg c]
    | some tr0 =>
      have h0 := ih1 tr0 hr
      rw [hr] at hrT
      have hrT : rT abl bg base ds (n + 1) = (if ds n < 6 then (if (abl n (ds n) && decide (0 < tr0 (ds n))) = true then some (updN tr0 (ds n) (tr0 (ds n) - min (bg n) (tr0 (ds n)))) else none) else some tr0) := hrT
      by_cases c : ds n < 6
      · rw [if_pos c] at hrT
        have hb : (G (ds n)).testBit n = true := by rw [hG _ c n (by omega)]; simp
        have hgd := hrG (ds n)
        rw [if_pos hb, h0 _ c] at hgd
        have hgd : rG abl bg base (ds n) (n + 1) (G (ds n)) = (if (abl n (ds n) && decide (0 < tr0 (ds n))) = true then some (tr0 (ds n) - min (tr0 (ds n)) (bg n)) else none) := hgd
        by_cases c2 : (abl n (ds n) && decide (0 < tr0 (ds n))) = true
        · rw [if_pos c2] at hrT hgd
          refine ⟨fun tr h q hq => ?_, fun h => (by rw [hrT] at h; cases h)⟩
          rw [hrT] at h
          cases h
          by_cases e : q = ds n
          · rw [e, hgd]
            unfold updN
            rw [if_pos rfl, Nat.min_comm]
          · rw [hrG, hG q hq n (by omega)]
            have e2 : (ds n == q) = false := by simpa using (fun w : ds n = q => e w.symm)
            rw [e2, if_neg (by decide), h0 q hq]
            unfold updN
            rw [if_neg e]
        · rw [if_neg c2] at hrT hgd
          exact ⟨fun tr h => (by rw [hrT] at h; cases h), fun _ => ⟨ds n, c, hgd⟩⟩
      · rw [if_neg c] at hrT
        refine ⟨fun tr h q hq => ?_, fun h => (by rw [hrT] at h; cases h)⟩
        rw [hrT] at h
        cases h
        rw [hrG, hG q hq n (by omega)]
        have e2 : (ds n == q) = false := by
          have : ¬ ds n = q := by omega
          simpa using this
        rw [e2, if_neg (by decide), h0 q hq]
def fitq (h s : Nat) (sq sa : Nat → Nat) (q a : Nat) : Bool := !anyU (fun i => (sq i == q) && (!h.testBit q || !(sa i == a))) s
def okq (h s : Nat) (sq sa : Nat → Nat) (abl : Nat → Nat → Bool) (bg base : Nat → Nat) (q g : Nat) : Bool := match rG abl bg base q 6 g with
  | none => false
  | some a => fitq h s sq sa q a
def okN (h s : Nat) (sq sa : Nat → Nat) (abl : Nat → Nat → Bool) (bg base : Nat → Nat) (q g : Nat) : Nat := if okq h s sq sa abl bg base q g = true then 1 else 0
def fitT (h s : Nat) (sq sa : Nat → Nat) (tr : Nat → Nat) : Bool := !anyU (fun i => !(h.testBit (sq i) && (tr (sq i) == sa i))) s
def vld (h s : Nat) (sq sa : Nat → Nat) (abl : Nat → Nat → Bool) (bg base : Nat → Nat) (c : Nat) : Bool := match rT abl bg base (dg c) 6 with
  | none => false
  | some tr => fitT h s sq sa tr
def vldT (h s : Nat) (sq sa : Nat → Nat) (abl : Nat → Nat → Bool) (bg base : Nat → Nat) (t v c : Nat) : Bool := match rT abl bg base (dg c) 6 with
  | none => false
  | some tr => fitT h s sq sa tr && (tr t == v)
theorem gang_tb (c : Nat) : ∀ q, q < 6 → ∀ k, k < 6 → (gang 6 c q).testBit k = (dg c k == q) := by
  intro q _ k hk
  unfold gang
  rw [bset_tb]
  simp [hk]
theorem fit_iff {h s : Nat} {sq sa tr : Nat → Nat} (hsq : ∀ i, i < s → sq i < 6) : fitT h s sq sa tr = true ↔ ∀ q, q < 6 → fitq h s sq sa q (tr q) = true := by
  unfold fitT fitq
  simp only [Bool.not_eq_true']
  have nI' : ∀ (P : Nat → Bool), anyU P s = false ↔ ∀ i, i < s → P i = false := fun P => by
    constructor
    · intro hf i hi
      by_cases c : P i = true
      · rw [(anyU_iff s).mpr ⟨i, hi, c⟩] at hf; cases hf
      · simpa using c
    · intro hf
      by_cases c : anyU P s = true
      · obtain ⟨i, hi, hp⟩ := (anyU_iff s).mp c
        rw [hf i hi] at hp; cases hp
      · simpa using c
  rw [nI']
  constructor
  · intro hh q hq
    rw [nI']
    intro i hi
    have := hh i hi
    by_cases e : sq i = q
    · subst e
      simp at this ⊢
      exact ⟨this.1, this.2.symm⟩
    · have e2 : (sq i == q) = false := by simpa using e
      rw [e2]; rfl
  · intro hh i hi
    have := (nI' _).mp (hh (sq i) (hsq i hi)) i hi
    simp at this ⊢
    exact ⟨this.1, this.2.symm⟩
