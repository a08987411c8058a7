/-! ===== rows of boots, counted: sums, gangs, the product of trees ===== -/
theorem sumN_app (F : Nat → Nat) (a : Nat) : ∀ b, sumN F (a + b) = sumN F a + sumN (fun c => F (a + c)) b := by
  intro b
  induction b with
  | zero => rfl
  | succ b ih =>
    show sumN F (a + b) + F (a + b) = sumN F a + (sumN (fun c => F (a + c)) b + F (a + b))
    rw [ih]; omega
theorem sumN_blk (F : Nat → Nat) (m : Nat) : ∀ k, sumN F (m * k) = sumN (fun d => sumN (fun c => F (m * d + c)) m) k := by
  intro k
  induction k with
  | zero => rfl
  | succ k ih =>
    rw [Nat.mul_succ, sumN_app, ih]
    rfl
theorem sumN_z {F : Nat → Nat} : ∀ n, (∀ i, i < n → F i = 0) → sumN F n = 0 := by
  intro n
  induction n with
  | zero => intro _; rfl
  | succ n ih =>
    intro h
    show sumN F n + F n = 0
    rw [ih (fun i hi => h i (by omega)), h n (by omega)]
theorem sumN_pl {F G : Nat → Nat} : ∀ n, sumN (fun i => F i + G i) n = sumN F n + sumN G n := by
  intro n
  induction n with
  | zero => rfl
  | succ n ih =>
    show sumN (fun i => F i + G i) n + (F n + G n) = sumN F n + F n + (sumN G n + G n)
    rw [ih]; omega
theorem sumN_cm {F : Nat → Nat → Nat} (m : Nat) : ∀ n, sumN (fun i => sumN (fun j => F i j) m) n = sumN (fun j => sumN (fun i => F i j) n) m := by
  intro n
  induction n with
  | zero =>
    show 0 = sumN (fun j => 0) m
    exact (sumN_z m (fun _ _ => rfl)).symm
  | succ n ih =>
    show sumN (fun i => sumN (fun j => F i j) m) n + sumN (fun j => F n j) m = sumN (fun j => sumN (fun i => F i j) n + F n j) m
    rw [ih, sumN_pl]
theorem sumN_mu {F : Nat → Nat} {c : Nat} : ∀ n, sumN (fun i => F i * c) n = sumN F n * c := by
  intro n
  induction n with
  | zero => exact (Nat.zero_mul c).symm
  | succ n ih =>
    show sumN (fun i => F i * c) n + F n * c = (sumN F n + F n) * c
    rw [ih, Nat.add_mul]
theorem sumN_one {k v : Nat} : ∀ n, k < n → sumN (fun i => if k = i then v else 0) n = v := by
  intro n
  induction n with
  | zero => intro h; omega
  | succ n ih =>
    intro h
    show sumN (fun i => if k = i then v else 0) n + (if k = n then v else 0) = v
    by_cases c : k = n
    · rw [if_pos c, sumN_z n (fun i hi => if_neg (by omega))]; omega
    · rw [if_neg c, ih (by omega)]; rfl
theorem sh64 (φ : Nat → Nat) : ∀ n, n < 6 → sumN (fun x => if x.testBit n = true then φ x else 0) 64 = sumN (fun x => if x.testBit n = true then 0 else φ (x ||| 1 <<< n)) 64 := by
  intro n hn
  rcases (show n = 0 ∨ n = 1 ∨ n = 2 ∨ n = 3 ∨ n = 4 ∨ n = 5 by omega) with rfl | rfl | rfl | rfl | rfl | rfl
  all_goals simp [sumN, Nat.testBit]
theorem sp64 (φ : Nat → Nat) (n : Nat) (hn : n < 6) : sumN φ 64 = sumN (fun x => if x.testBit n = true then 0 else φ x + φ (x ||| 1 <<< n)) 64 := by
  have e1 : sumN φ 64 = sumN (fun x => (if x.testBit n = true then φ x else 0) + (if x.testBit n = true then 0 else φ x)) 64 := sumN_eq 64 (fun i _ => by by_cases c : i.testBit n = true <;> simp [c])
  have e2 : sumN (fun x => if x.testBit n = true then 0 else φ x + φ (x ||| 1 <<< n)) 64 = sumN (fun x => (if x.testBit n = true then 0 else φ (x ||| 1 <<< n)) + (if x.testBit n = true then 0 else φ x)) 64 := sumN_eq 64 (fun i _ => by by_cases c : i.testBit n = true <;> simp [c, Nat.add_comm])
  rw [e1, e2, sumN_pl, sumN_pl, sh64 φ n hn]
def conv (f g : Nat → Nat) (S : Nat) : Nat := sumN (fun x => if x &&& (63 ^^^ S) = 0 then f (S ^^^ x) * g x else 0) 64
def Dn (n : Nat) (f : Nat → Nat) : Nat → Nat := fun S => f (S ||| 1 <<< n)
theorem xor_lt : ∀ x, x < 64 → ∀ y, y < 64 → x ^^^ y < 64 := by decide +kernel
theorem orb_lt {S n : Nat} (hS : S < 64) (hn : n < 6) : S ||| 1 <<< n < 64 := (or_tab S hS n hn).2
theorem leib {f g : Nat → Nat} {S n : Nat} (hS : S < 64) (hn : n < 6) (hb : S.testBit n = false) : conv f g (S ||| 1 <<< n) = conv (Dn n f) g S + conv f (Dn n g) S := by
  unfold conv
  rw [sp64 _ n hn, ← sumN_pl]
  refine sumN_eq 64 (fun x hx => ?_)
  have hSn := orb_lt hS hn
  by_cases c : x.testBit n = true
  · rw [if_pos c]
    have hns : ¬ x &&& (63 ^^^ S) = 0 := fun w => by
      have := (Sub_iff hx).mp w n hn c
      rw [hb] at this; cases this
    rw [if_neg hns, if_neg hns]
  · rw [if_neg c]
    have cf : x.testBit n = false := by simpa using c
    have hxn := orb_lt hx hn
    have i1 : (x &&& (63 ^^^ (S ||| 1 <<< n)) = 0) ↔ (x &&& (63 ^^^ S) = 0) := by
      rw [Sub_iff hx, Sub_iff hx]
      constructor
      · intro h j hj hxj
        have := h j hj hxj
        rw [tb_or] at this
        by_cases e : n = j
        · rw [← e, cf] at hxj; cases hxj
        · simpa [e] using this
      · intro h j hj hxj
        rw [tb_or, h j hj hxj]; rfl
    have i2 : ((x ||| 1 <<< n) &&& (63 ^^^ (S ||| 1 <<< n)) = 0) ↔ (x &&& (63 ^^^ S) = 0) := by
      rw [Sub_iff hxn, Sub_iff hx]
      constructor
      · intro h j hj hxj
        have := h j hj (by rw [tb_or, hxj]; rfl)
        rw [tb_or] at this
        by_cases e : n = j
        · rw [← e, cf] at hxj; cases hxj
        · simpa [e] using this
      · intro h j hj hxj
        rw [tb_or] at hxj ⊢
        by_cases e : n = j
        · simp [e]
        · simp [e] at hxj ⊢; exact h j hj hxj
    have j1 : (S ||| 1 <<< n) ^^^ x = (S ^^^ x) ||| 1 <<< n := Nat.eq_of_testBit_eq (fun j => by
      rw [Nat.testBit_xor, tb_or, tb_or, Nat.testBit_xor]
      by_cases e : n = j
      · rw [← e, cf, hb]; simp
      · simp [e])
    have j2 : (S ||| 1 <<< n) ^^^ (x ||| 1 <<< n) = S ^^^ x := Nat.eq_of_testBit_eq (fun j => by
      rw [Nat.testBit_xor, tb_or, tb_or, Nat.testBit_xor]
      by_cases e : n = j
      · rw [← e, cf, hb]; simp
      · simp [e])
    rw [j1, j2]
    unfold Dn
    by_cases e : x &&& (63 ^^^ S) = 0
    · rw [if_pos e, if_pos e, if_pos (i1.mpr e), if_pos (i2.mpr e)]
    · rw [if_neg e, if_neg e, if_neg (fun w => e (i1.mp w)), if_neg (fun w => e (i2.mp w))]
theorem conv_l {F F1 F2 g : Nat → Nat} {S n : Nat} (hS : S < 64) (hb : S.testBit n = false) (h : ∀ T, T < 64 → T.testBit n = false → F T = F1 T + F2 T) (hn : n < 6) : conv F g S = conv F1 g S + conv F2 g S := by
  unfold conv
  rw [← sumN_pl]
  refine sumN_eq 64 (fun x hx => ?_)
  by_cases e : x &&& (63 ^^^ S) = 0
  · rw [if_pos e, if_pos e, if_pos e, h (S ^^^ x) (xor_lt S hS x hx) ?_, Nat.add_mul]
    rw [Nat.testBit_xor, hb]
    by_cases c : x.testBit n = true
    · have := (Sub_iff hx).mp e n hn c
      rw [hb] at this; cases this
    · simpa using c
  · rw [if_neg e, if_neg e, if_neg e]
theorem conv_z {F g : Nat → Nat} {S n : Nat} (hS : S < 64) (hb : S.testBit n = false) (h : ∀ T, T < 64 → T.testBit n = false → F T = 0) (hn : n < 6) : conv F g S = 0 := by
  unfold conv
  refine sumN_z 64 (fun x hx => ?_)
  by_cases e : x &&& (63 ^^^ S) = 0
  · rw [if_pos e, h (S ^^^ x) (xor_lt S hS x hx) ?_, Nat.zero_mul]
    rw [Nat.testBit_xor, hb]
    by_cases c : x.testBit n = true
    · have := (Sub_iff hx).mp e n hn c
      rw [hb] at this; cases this
    · simpa using c
  · rw [if_neg e]
theorem conv_sum {Fs : Nat → Nat → Nat} {g : Nat → Nat} {S n : Nat} (hS : S < 64) (hb : S.testBit n = false) (hn : n < 6) : ∀ (m : Nat) (F : Nat → Nat), (∀ T, T < 64 → T.testBit n = false → F T = sumN (fun i => Fs i T) m) → conv F g S = sumN (fun i => conv (Fs i) g S) m := by
  intro m
  induction m with
  | zero => intro F h; exact conv_z hS hb h hn
  | succ m ih =>
    intro F h
    rw [conv_l (F1 := fun T => sumN (fun i => Fs i T) m) (F2 := Fs m) hS hb (fun T h1 h2 => h T h1 h2) hn]
    show _ = sumN (fun i => conv (Fs i) g S) m + conv (Fs m) g S
    rw [ih _ (fun T _ _ => rfl)]
theorem conv_c {F F' g g' : Nat → Nat} {S : Nat} (hS : S < 64) (h : ∀ T, T < 64 → F T = F' T) (h' : ∀ T, T < 64 → g T = g' T) : conv F g S = conv F' g' S := by
  unfold conv
  refine sumN_eq 64 (fun x hx => ?_)
  rw [h _ (xor_lt S hS x hx), h' x hx]
def upF (f : Nat → Nat → Nat) (d : Nat) (g : Nat → Nat) : Nat → Nat → Nat := fun q => if q = d then g else f q
def dl (S : Nat) : Nat := if S = 0 then 1 else 0
def pj (a : Nat → Nat → Nat) : Nat → Nat → Nat
  | 0 => dl
  | j + 1 => conv (pj a j) (a j)
theorem pj_c {a b : Nat → Nat → Nat} : ∀ j, (∀ i, i < j → a i = b i) → pj a j = pj b j := by
  intro j
  induction j with
  | zero => intro _; rfl
  | succ j ih =>
    intro h
    show conv (pj a j) (a j) = conv (pj b j) (b j)
    rw [ih (fun i hi => h i (by omega)), h j (by omega)]
theorem pj_leib {a : Nat → Nat → Nat} {n : Nat} (hn : n < 6) : ∀ j S, S < 64 → S.testBit n = false → pj a j (S ||| 1 <<< n) = sumN (fun i => pj (upF a i (Dn n (a i))) j S) j := by
  intro j
  induction j with
  | zero =>
    intro S hS hb
    show dl (S ||| 1 <<< n) = 0
    unfold dl
    rw [if_neg (fun w => by
      have := congrArg (fun z : Nat => z.testBit n) w
      simp only [tb_or, hb, Nat.zero_testBit] at this
      simp at this)]
  | succ j ih =>
    intro S hS hb
    show conv (pj a j) (a j) (S ||| 1 <<< n) = sumN (fun i => pj (upF a i (Dn n (a i))) (j + 1) S) j + pj (upF a j (Dn n (a j))) (j + 1) S
    rw [leib hS hn hb, conv_sum (Fs := fun i => pj (upF a i (Dn n (a i))) j) hS hb hn j (Dn n (pj a j)) (fun T h1 h2 => ih T h1 h2)]
    congr 1
    · refine sumN_eq j (fun i hi => ?_)
      show conv (pj (upF a i (Dn n (a i))) j) (a j) S = conv (pj (upF a i (Dn n (a i))) j) (upF a i (Dn n (a i)) j) S
      rw [show upF a i (Dn n (a i)) j = a j from if_neg (by omega)]
    · show conv (pj a j) (Dn n (a j)) S = conv (pj (upF a j (Dn n (a j))) j) (upF a j (Dn n (a j)) j) S
      rw [show upF a j (Dn n (a j)) j = Dn n (a j) from if_pos rfl, pj_c (b := upF a j (Dn n (a j))) j (fun i hi => (if_neg (show ¬ i = j by omega)).symm)]
theorem conv_0 {f g : Nat → Nat} : conv f g 0 = f 0 * g 0 := by
  unfold conv
  have : sumN (fun x => if x &&& (63 ^^^ 0) = 0 then f (0 ^^^ x) * g x else 0) 64 = sumN (fun x => if 0 = x then f 0 * g 0 else 0) 64 := sumN_eq 64 (fun x hx => by
    by_cases c : 0 = x
    · subst c; simp
    · have hne : ¬ x &&& (63 ^^^ 0) = 0 := fun w => by
        have h1 := Sub_le hx (by decide) ((Sub_iff hx).mp w)
        omega
      rw [if_neg c, if_neg hne])
  rw [this, sumN_one 64 (by decide)]
def prodG (f : Nat → Nat → Nat) (G : Nat → Nat) : Nat := f 0 (G 0) * f 1 (G 1) * f 2 (G 2) * f 3 (G 3) * f 4 (G 4) * f 5 (G 5)
def Aw (f : Nat → Nat → Nat) : Nat → Nat → Nat := fun n => match n with
  | 0 => fun S => if S = 0 then prodG f (fun _ => 0) else 0
  | n + 1 => fun S => if S.testBit n = true then sumN (fun d => Aw (upF f d (Dn n (f d))) n (S ^^^ 1 <<< n)) 6 else Aw f n S
theorem pj_A {pm : Nat → Nat} (hlt : ∀ i, i < 6 → pm i < 6) (hinj : ∀ i, i < 6 → ∀ j, j < 6 → pm i = pm j → i = j) (hs : ∀ X : Nat → Nat, sumN (fun i => X (pm i)) 6 = sumN X 6) (hp : ∀ f : Nat → Nat → Nat, pj (fun i => f (pm i)) 6 0 = prodG f (fun _ => 0)) : ∀ n, n ≤ 6 → ∀ (f : Nat → Nat → Nat) S, S < 2 ^ n → pj (fun i => f (pm i)) 6 S = Aw f n S := by
  intro n
  induction n with
  | zero =>
    intro _ f S hS
    have hS : S = 0 := by omega
    subst hS
    rw [hp]
    show prodG f (fun _ => 0) = (if (0 : Nat) = 0 then prodG f (fun _ => 0) else 0)
    rw [if_pos rfl]
  | succ n ih =>
    intro hn f S hS
    have h64 : 2 ^ (n + 1) ≤ 2 ^ 6 := Nat.pow_le_pow_right (by decide) hn
    show _ = if S.testBit n = true then sumN (fun d => Aw (upF f d (Dn n (f d))) n (S ^^^ 1 <<< n)) 6 else Aw f n S
    by_cases c : S.testBit n = true
    · rw [if_pos c]
      have hS64 : S < 64 := by omega
      have hx := xs_tab S hS64 n (by omega) c
      have hxb : (S ^^^ 1 <<< n).testBit n = false := by rw [tb_xor, c]; simp
      have hback : (S ^^^ 1 <<< n) ||| 1 <<< n = S := Nat.eq_of_testBit_eq (fun j => by
        rw [tb_or, tb_xor]
        by_cases e : n = j
        · rw [← e, c]; simp
        · simp [e])
      have hxl : S ^^^ 1 <<< n < 2 ^ n := by
        apply Nat.lt_pow_two_of_testBit
        intro j hj
        rw [tb_xor]
        by_cases e : n = j
        · rw [← e, c]; simp
        · have : S.testBit j = false := Nat.testBit_lt_two_pow (Nat.lt_of_lt_of_le hS (Nat.pow_le_pow_right (by decide) (by omega)))
          rw [this]; simp [e]
      have hL := pj_leib (a := fun i => f (pm i)) (n := n) (by omega) 6 (S ^^^ 1 <<< n) (by omega) hxb
      rw [hback] at hL
      rw [hL, ← hs (fun d => Aw (upF f d (Dn n (f d))) n (S ^^^ 1 <<< n))]
      refine sumN_eq 6 (fun i hi => ?_)
      rw [← ih (by omega) _ _ hxl]
      refine congrFun (pj_c 6 (fun k hk => ?_)) _
      show (if k = i then Dn n (f (pm i)) else f (pm k)) = (if pm k = pm i then Dn n (f (pm i)) else f (pm k))
      by_cases e : k = i
      · rw [if_pos e, if_pos (by rw [e])]
      · rw [if_neg e, if_neg (fun w => e (hinj k hk i hi w))]
    · rw [if_neg c]
      refine ih (by omega) f S ?_
      have c : S.testBit n = false := by simpa using c
      apply Nat.lt_pow_two_of_testBit
      intro j hj
      by_cases e : j = n
      · rw [e]; exact c
      · exact Nat.testBit_lt_two_pow (Nat.lt_of_lt_of_le hS (Nat.pow_le_pow_right (by decide) (by omega)))
def dg (c k : Nat) : Nat := c / 7 ^ k % 7
def gang (n c q : Nat) : Nat := bset (fun k => dg c k == q) n
def went (n c : Nat) : Nat := bset (fun k => decide (dg c k < 6)) n
def wgt (n : Nat) (f : Nat → Nat → Nat) (S c : Nat) : Nat := if went n c = S then prodG f (gang n c) else 0
theorem bset_c {P Q : Nat → Bool} : ∀ n, (∀ i, i < n → P i = Q i) → bset P n = bset Q n := by
  intro n
  induction n with
  | zero => intro _; rfl
  | succ n ih =>
    intro h
    show (if P n = true then bset P n ||| 1 <<< n else bset P n) = (if Q n = true then bset Q n ||| 1 <<< n else bset Q n)
    rw [ih (fun i hi => h i (by omega)), h n (by omega)]
theorem dg_lo {n d c k : Nat} (hk : k < n) : dg (7 ^ n * d + c) k = dg c k := by
  unfold dg
  have e : 7 ^ n * d = 7 ^ k * (7 * (7 ^ (n - k - 1) * d)) := by
    rw [show (7 : Nat) ^ n = 7 ^ k * (7 * 7 ^ (n - k - 1)) from by
      rw [← Nat.pow_succ', ← Nat.pow_add]
      congr 1
      omega]
    rw [Nat.mul_assoc, Nat.mul_assoc]
  rw [e, Nat.mul_add_div (Nat.pow_pos (by decide)), Nat.mul_add_mod]
theorem dg_hi {n d c : Nat} (hd : d < 7) (hc : c < 7 ^ n) : dg (7 ^ n * d + c) n = d := by
  unfold dg
  rw [Nat.mul_add_div (Nat.pow_pos (by decide)), Nat.div_eq_of_lt hc, Nat.add_zero, Nat.mod_eq_of_lt hd]
theorem gang_s {n d c q : Nat} (hd : d < 7) (hc : c < 7 ^ n) : gang (n + 1) (7 ^ n * d + c) q = if d = q then gang n c q ||| 1 <<< n else gang n c q := by
  unfold gang
  show (if (dg (7 ^ n * d + c) n == q) = true then bset (fun k => dg (7 ^ n * d + c) k == q) n ||| 1 <<< n else bset (fun k => dg (7 ^ n * d + c) k == q) n) = _
  rw [dg_hi hd hc, bset_c (Q := fun k => dg c k == q) n (fun i hi => by rw [dg_lo hi])]
  by_cases e : d = q
  · simp [e]
  · simp [e]
theorem went_s {n d c : Nat} (hd : d < 7) (hc : c < 7 ^ n) : went (n + 1) (7 ^ n * d + c) = if d < 6 then went n c ||| 1 <<< n else went n c := by
  unfold went
  show (if decide (dg (7 ^ n * d + c) n < 6) = true then bset (fun k => decide (dg (7 ^ n * d + c) k < 6)) n ||| 1 <<< n else bset (fun k => decide (dg (7 ^ n * d + c) k < 6)) n) = _
  rw [dg_hi hd hc, bset_c (Q := fun k => decide (dg c k < 6)) n (fun i hi => by rw [dg_lo hi])]
  by_cases e : d < 6
  · simp [e]
  · simp [e]
theorem prodG_up {f : Nat → Nat → Nat} {G : Nat → Nat} {d n : Nat} (hd : d < 6) : prodG f (fun q => if d = q then G q ||| 1 <<< n else G q) = prodG (upF f d (Dn n (f d))) G := by
  unfold prodG upF Dn
  rcases (show d = 0 ∨ d = 1 ∨ d = 2 ∨ d = 3 ∨ d = 4 ∨ d = 5 by omega) with rfl | rfl | rfl | rfl | rfl | rfl <;> simp
theorem wgt_sum : ∀ n, ∀ (f : Nat → Nat → Nat) (S : Nat), sumN (wgt n f S) (7 ^ n) = Aw f n S := by
  intro n
  induction n with
  | zero =>
    intro f S
    show sumN (wgt 0 f S) 1 = if S = 0 then prodG f (fun _ => 0) else 0
    show 0 + (if (0 : Nat) = S then prodG f (fun _ => 0) else 0) = _
    rw [Nat.zero_add]
    by_cases c : S = 0
    · rw [if_pos c, if_pos c.symm]
    · rw [if_neg c, if_neg (fun w => c w.symm)]
  | succ n ih =>
    intro f S
    rw [Nat.pow_succ, sumN_blk]
    show sumN (fun d => sumN (fun c => wgt (n + 1) f S (7 ^ n * d + c)) (7 ^ n)) 6 + sumN (fun c => wgt (n + 1) f S (7 ^ n * 6 + c)) (7 ^ n) = if S.testBit n = true then sumN (fun d => Aw (upF f d (Dn n (f d))) n (S ^^^ 1 <<< n)) 6 else Aw f n S
    have hwb : ∀ c, (went n c).testBit n = false := fun c => by
      unfold went
      rw [bset_tb]
      simp
    have e6 : ∀ c, c < 7 ^ n → wgt (n + 1) f S (7 ^ n * 6 + c) = wgt n f S c := fun c hc => by
      unfold wgt
      rw [went_s (by decide) hc, if_neg (show ¬ 6 < 6 by decide)]
      have hg : prodG f (gang (n + 1) (7 ^ n * 6 + c)) = prodG f (gang n c) := by
        unfold prodG
        rw [gang_s (by decide) hc, gang_s (by decide) hc, gang_s (by decide) hc, gang_s (by decide) hc, gang_s (by decide) hc, gang_s (by decide) hc]
        rfl
      rw [hg]
    have ed : ∀ d, d < 6 → ∀ c, c < 7 ^ n → wgt (n + 1) f S (7 ^ n * d + c) = if S.testBit n = true then wgt n (upF f d (Dn n (f d))) (S ^^^ 1 <<< n) c else 0 := fun d hd c hc => by
      unfold wgt
      have hg : prodG f (gang (n + 1) (7 ^ n * d + c)) = prodG (upF f d (Dn n (f d))) (gang n c) := by
        rw [← prodG_up hd]
        unfold prodG
        rw [gang_s (by omega) hc, gang_s (by omega) hc, gang_s (by omega) hc, gang_s (by omega) hc, gang_s (by omega) hc, gang_s (by omega) hc]
      rw [went_s (by omega) hc, if_pos hd, hg]
      by_cases cb : S.testBit n = true
      · rw [if_pos cb]
        have hiff : (went n c ||| 1 <<< n = S) ↔ (went n c = S ^^^ 1 <<< n) := by
          constructor
          · intro w
            rw [← w]
            refine Nat.eq_of_testBit_eq (fun j => ?_)
            rw [tb_xor, tb_or]
            by_cases e : n = j
            · rw [← e, hwb]; simp
            · simp [e]
          · intro w
            rw [w]
            refine Nat.eq_of_testBit_eq (fun j => ?_)
            rw [tb_or, tb_xor]
            by_cases e : n = j
            · rw [← e, cb]; simp
            · simp [e]
        by_cases e : went n c ||| 1 <<< n = S
        · rw [if_pos e, if_pos (hiff.mp e)]
        · rw [if_neg e, if_neg (fun w => e (hiff.mpr w))]
      · rw [if_neg cb, if_neg (fun w => cb (by rw [← w, tb_or]; simp))]
    rw [sumN_eq (7 ^ n) e6, sumN_eq 6 (fun d hd => sumN_eq (7 ^ n) (ed d hd)), ih f S]
    by_cases cb : S.testBit n = true
    · rw [if_pos cb]
      have h0 : Aw f n S = 0 := by
        rw [← ih f S]
        refine sumN_z _ (fun c _ => ?_)
        unfold wgt
        rw [if_neg (fun w => by rw [← w, hwb] at cb; cases cb)]
      rw [h0, Nat.add_zero]
      refine sumN_eq 6 (fun d hd => ?_)
      rw [← ih]
      refine sumN_eq _ (fun c _ => ?_)
      rw [if_pos cb]
    · rw [if_neg cb]
      have h0 : sumN (fun d => sumN (fun c => if S.testBit n = true then wgt n (upF f d (Dn n (f d))) (S ^^^ 1 <<< n) c else 0) (7 ^ n)) 6 = 0 := sumN_z 6 (fun d _ => sumN_z _ (fun c _ => if_neg cb))
      rw [h0, Nat.zero_add]
