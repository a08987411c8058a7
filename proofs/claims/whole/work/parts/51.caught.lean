/-! ===== two who are there; caught ===== -/
theorem two {h : Nat} {σ σ' : St} (hh : h < 64) (e1 : σ 1 8 = nI h) (e2 : σ' 29 0 = nI h) (x y : Int32) : (f_X0_hasTwo 1 x y σ = some 0 ∧ (f_X6_isThere x σ' = some 0 ∨ (f_X6_isThere x σ' = some 1 ∧ (f_X6_isThere y σ' = some 0 ∨ (f_X6_isThere y σ' = some 1 ∧ x = y))))) ∨ ∃ k q : Nat, k < 6 ∧ q < 6 ∧ x = nI k ∧ y = nI q ∧ k ≠ q ∧ ¬ nI k = nI q ∧ h.testBit k = true ∧ h.testBit q = true ∧ f_X0_hasTwo 1 x y σ = some 1 ∧ f_X6_isThere x σ' = some 1 ∧ f_X6_isThere y σ' = some 1 := by
  have key : ∀ z : Int32, (f_X0_has 1 z σ = some 0 ∧ f_X6_isThere z σ' = some 0) ∨ ∃ k : Nat, k < 6 ∧ z = nI k ∧ h.testBit k = true ∧ f_X0_has 1 z σ = some 1 ∧ f_X6_isThere z σ' = some 1 := by
    intro z
    rcases ix_cases z with ⟨k, hk, rfl⟩ | hz
    · have a1 := has_in (b := 1) (σ := σ) hh hk e1
      have a2 := isT_in (σ := σ') hh hk e2
      by_cases hb : h.testBit k = true
      · rw [if_pos hb] at a1 a2
        exact Or.inr ⟨k, hk, rfl, hb, a1, a2⟩
      · rw [if_neg hb] at a1 a2
        exact Or.inl ⟨a1, a2⟩
    · exact Or.inl ⟨has_out hz, isT_out hz⟩
  unfold f_X0_hasTwo
  rcases key x with ⟨x1, x2⟩ | ⟨k, hk, rfl, hbk, x1, x2⟩
  · left
    refine ⟨?_, Or.inl x2⟩
    rw [x1]; rfl
  rcases key y with ⟨y1, y2⟩ | ⟨q, hq, rfl, hbq, y1, y2⟩
  · left
    refine ⟨?_, Or.inr ⟨x2, Or.inl y2⟩⟩
    rw [x1, y1]; rfl
  by_cases hkq : k = q
  · left
    subst hkq
    refine ⟨?_, Or.inr ⟨x2, Or.inr ⟨y2, rfl⟩⟩⟩
    rw [x1, bnd_some, if_neg (by decide), bnd_some, if_neg (by decide), if_pos rfl]
  · right
    have hne : ¬ nI k = nI q := fun z => hkq ((nI_eq (by omega) (by omega)).mp z)
    refine ⟨k, q, hk, hq, rfl, rfl, hkq, hne, hbk, hbq, ?_, x2, y2⟩
    rw [x1, bnd_some, if_neg (by decide), y1, bnd_some, if_neg (by decide), if_neg hne]
theorem jmin_n {a b : Nat} (ha : a < 2 ^ 31) (hb : b < 2 ^ 31) : jmin (nI a) (nI b) = nI (min a b) := by
  unfold jmin
  by_cases c : b < a
  · rw [if_pos (nI_lt c ha), Nat.min_eq_right (by omega)]
  · rw [if_neg (nI_nlt (by omega) hb), Nat.min_eq_left (by omega)]
theorem jmax_n {a b : Nat} (ha : a < 2 ^ 31) (hb : b < 2 ^ 31) : jmax (nI a) (nI b) = nI (max a b) := by
  unfold jmax
  by_cases c : a < b
  · rw [if_pos (nI_lt c hb), Nat.max_eq_right (by omega)]
  · rw [if_neg (nI_nlt (by omega) ha), Nat.max_eq_left (by omega)]
theorem jrem_n {a d : Nat} (ha : a < 2 ^ 31) (h0 : 0 < d) (hd : d < 2 ^ 31) : jrem (nI a) (nI d) = nI (a % d) := pk_rem ha h0 hd
theorem gz_n {α : Type} {n : Nat} {o : Option α} (h0 : 0 < n) (h : n < 2 ^ 31) : gz (nI n) o = o := by
  unfold gz
  rw [if_neg (nI_ne0 h0 h)]
theorem load_eq {B h o d l f s b k q : Nat} {ap bg hp rb : Nat → Nat} {W : VW} {σ : St} (H : LM B h o d l f s ap bg hp rb (cv σ b) W) (hk : k < 6) (hq : q < 6) (hbk : h.testBit k = true) (hbq : h.testBit q = true) : f_X0_load b (nI k) (nI q) σ = some (nI (min (bg k) (ap q))) := by
  obtain ⟨-, -, -, p1, -, -⟩ := H
  obtain ⟨⟨-, -, x3, -, -⟩, -, ⟨y3, -⟩, -⟩ := p1 k hk hbk
  obtain ⟨⟨u1, -⟩, ⟨v1, -⟩, -⟩ := p1 q hq hbq
  have y3 : σ (b + 2) k = nI (bg k) := y3
  have v1 : σ (b + 1) q = nI (ap q) := v1
  unfold f_X0_load
  rw [gi_in hk (by decide), gi_in hq (by decide), nI_clamp (by omega), nI_clamp (by omega), y3, v1, jmin_n (by omega) (by omega)]
theorem takes_eq {B h o d l f s k q : Nat} {ap bg hp rb : Nat → Nat} {V : VW} {τ : St} (H : LM B h o d l f s ap bg hp rb V (nv τ)) (hk : k < 6) (hq : q < 6) (hbk : h.testBit k = true) (hbq : h.testBit q = true) : f_X6_takes (nI k) (nI q) τ = some (nI (min (bg k) (ap q))) := by
  obtain ⟨-, -, -, p1, -, -⟩ := H
  obtain ⟨⟨-, -, x3, -, -⟩, -, ⟨-, y3⟩, -⟩ := p1 k hk hbk
  obtain ⟨⟨u1, -⟩, ⟨-, v1⟩, -⟩ := p1 q hq hbq
  have y3 : τ 30 k = nI (bg k) := y3
  have v1 : τ 37 q = nI (ap q) := v1
  unfold f_X6_takes
  rw [gi_in hk (by decide), gi_in hq (by decide), gi_in hq (by decide), gi_in hk (by decide), nI_clamp (by omega), nI_clamp (by omega), y3, v1]
  by_cases c : ap q ≤ bg k
  · rw [if_pos (nI_le c (by omega)), Nat.min_eq_right c]
  · rw [if_neg (nI_ge (by omega) (by omega)), Nat.min_eq_left (by omega)]
theorem shared_eq {U : Nat} (hU : U < 2 ^ 31) : f_X5_sharedWithTenths (nI U) = some (nI (Nat.gcd 10 U)) := by
  have he1 : 0 < Nat.gcd 10 U := Nat.gcd_pos_of_pos_left U (by decide)
  have he2 : Nat.gcd 10 U ≤ 10 := Nat.gcd_le_left U (by decide)
  have hd1 := Nat.gcd_dvd_left 10 U
  have hd2 := Nat.gcd_dvd_right 10 U
  have hmax : ∀ j, j ∣ 10 → j ∣ U → j ≤ Nat.gcd 10 U := fun j a b => Nat.le_of_dvd he1 (Nat.dvd_gcd a b)
  generalize Nat.gcd 10 U = e at he1 he2 hd1 hd2 hmax ⊢
  have hstep : ∀ j, e < j → j ≤ 10 → l_X5_sharedWithTenths_3 (nI U) (nI j) = some (.inl (nI (j - 1))) := by
    intro j h1 h2
    have hm : nI j + (-1) = nI (j - 1) := by
      have := pk_m1 (j - 1)
      rw [show j - 1 + 1 = j by omega] at this
      exact this
    unfold l_X5_sharedWithTenths_3
    rw [if_neg (show ¬ nI j ≤ 1 from nI_ge (a := 1) (by omega) (by omega)), gz_n (by omega) (by omega), gz_n (by omega) (by omega), jrem_n hU (by omega) (by omega), show jrem 10 (nI j) = nI (10 % j) from jrem_n (a := 10) (by decide) (by omega) (by omega), hm]
    by_cases c1 : U % j = 0
    · by_cases c2 : 10 % j = 0
      · have := hmax j (Nat.dvd_of_mod_eq_zero c2) (Nat.dvd_of_mod_eq_zero c1)
        omega
      · have : 10 % j < j := Nat.mod_lt _ (by omega)
        rw [if_neg (fun z => z (by rw [c1]; rfl)), if_pos (nI_ne0 (by omega) (by omega))]
    · have : U % j < j := Nat.mod_lt _ (by omega)
      rw [if_pos (nI_ne0 (by omega) (by omega))]
  have hl : ∀ x, l_X5_sharedWithTenths_3 (nI U) (nI e) = some (.inr x) → loop (fun s : Int32 => l_X5_sharedWithTenths_3 (nI U) s) 400 10 = some x := by
    intro x hx
    have := loop_to (body := fun s : Int32 => l_X5_sharedWithTenths_3 (nI U) s) (fun i => nI (10 - i)) (10 - e) x (fun i hi => ?_) ?_ 400 (by omega)
    · exact this
    · rw [show 10 - (i + 1) = 10 - i - 1 by omega]
      exact hstep (10 - i) (by omega) (by omega)
    · rw [show 10 - (10 - e) = e by omega]
      exact hx
  unfold f_X5_sharedWithTenths
  by_cases c : e = 1
  · subst c
    rw [hl (.inl ()) (by unfold l_X5_sharedWithTenths_3; rw [if_pos (by decide)])]
    rfl
  · rw [hl (.inr (nI e)) (by
      unfold l_X5_sharedWithTenths_3
      rw [if_neg (show ¬ nI e ≤ 1 from nI_ge (a := 1) (by omega) (by omega)), gz_n (by omega) (by omega), gz_n (by omega) (by omega), jrem_n hU (by omega) (by omega), show jrem 10 (nI e) = nI (10 % e) from jrem_n (a := 10) (by decide) (by omega) (by omega), Nat.mod_eq_zero_of_dvd hd1, Nat.mod_eq_zero_of_dvd hd2, if_neg (fun z => z rfl), if_neg (fun z => z rfl)])]
    rfl
theorem gcd_loop : ∀ (n x y fuel : Nat), y ≤ n → n < fuel → x < 2 ^ 62 → y < 2 ^ 62 → loop (fun s : Int64 × Int64 => l_X6_caught_182 s.1 s.2) fuel (lN x, lN y) = some (lN (Nat.gcd y x)) := by
  intro n
  induction n with
  | zero =>
    intro x y fuel hy hf hx hy2
    obtain ⟨f, rfl⟩ : ∃ f, fuel = f + 1 := ⟨fuel - 1, by omega⟩
    have hy : y = 0 := by omega
    subst hy
    unfold loop
    show Option.bind (l_X6_caught_182 (lN x) (lN 0)) _ = _
    unfold l_X6_caught_182
    rw [if_pos (show lg_cmp (lN 0) 0 = 0 from (lg_cmp_eq _ _).mpr rfl), Nat.gcd_zero_left]
    rfl
  | succ n ih =>
    intro x y fuel hy hf hx hy2
    obtain ⟨f, rfl⟩ : ∃ f, fuel = f + 1 := ⟨fuel - 1, by omega⟩
    unfold loop
    show Option.bind (l_X6_caught_182 (lN x) (lN y)) _ = _
    unfold l_X6_caught_182
    by_cases c : y = 0
    · subst c
      rw [if_pos (show lg_cmp (lN 0) 0 = 0 from (lg_cmp_eq _ _).mpr rfl), Nat.gcd_zero_left]
      rfl
    · have hne : ¬ lN y = 0 := fun z => c ((pk_lEQ (a := y) (b := 0) (by omega) (by decide)).mp z)
      rw [if_neg (fun z => hne ((lg_cmp_eq _ _).mp z))]
      unfold gzL
      rw [if_neg hne, bnd_some]
      have hr : jremL (lN x) (lN y) = lN (x % y) := pk_lRem (by omega) (by omega) (by omega)
      have hlt : x % y < y := Nat.mod_lt _ (by omega)
      rw [hr]
      have := ih y (x % y) f (by omega) (by omega) (by omega) (by omega)
      rw [Nat.gcd_rec y x]
      exact this
def upN (w t hpk fr : Nat) : Nat := if w = 0 then (10 - t) * fr + t * (fr - 9) else (if fr ≤ hpk then 0 else 10 - t) + (if fr - 9 ≤ hpk then 0 else t)
theorem upN_lt {w t hpk fr : Nat} (ht : t ≤ 10) (hf : fr < 40000) : upN w t hpk fr < 2 ^ 30 := by
  unfold upN
  by_cases c : w = 0
  · rw [if_pos c]
    have h1 : (10 - t) * fr ≤ 10 * fr := Nat.mul_le_mul_right _ (by omega)
    have h2 : t * (fr - 9) ≤ 10 * (fr - 9) := Nat.mul_le_mul_right _ ht
    omega
  · rw [if_neg c]
    repeat' split
    all_goals omega
theorem less5 {fr : Nat} (hf : fr < 40000) : jmax 0 (nI fr - 9) = nI (fr - 9) := by
  by_cases c : 9 ≤ fr
  · rw [show nI fr - 9 = nI (fr - 9) from pk_sub (b := 9) c, show jmax 0 (nI (fr - 9)) = nI (max 0 (fr - 9)) from jmax_n (a := 0) (by decide) (by omega), Nat.max_eq_right (by omega)]
  · have hn : nI fr - nI 9 < 0 := pk_sneg (by decide) (by omega)
    have hn : nI fr - 9 < 0 := hn
    have h2 : ¬ (0 : Int32) < nI fr - 9 := fun z => by
      have := Int32.lt_trans z hn
      exact Int32.lt_irrefl this
    unfold jmax
    rw [if_neg h2, show fr - 9 = 0 by omega]
    rfl
theorem less6 {fr : Nat} (hf : fr < 40000) : (if nI fr ≤ 9 then some (0 : Int32) else some (nI fr - 9)) = some (nI (fr - 9)) := by
  by_cases c : fr ≤ 9
  · rw [if_pos (show nI fr ≤ 9 from nI_le (b := 9) c (by decide)), show fr - 9 = 0 by omega]; rfl
  · rw [if_neg (show ¬ nI fr ≤ 9 from nI_ge (a := 9) (by omega) (by omega)), show nI fr - 9 = nI (fr - 9) from pk_sub (b := 9) (by omega)]
theorem up5 {w t hpk fr : Nat} (hw : w ≤ 1) (ht : t ≤ 10) (hf : fr < 40000) (hh : hpk < 2 ^ 30) : (Option.bind (α := Int32) (if ¬ nI w = 0 then (Option.bind (α := Int32) (if nI fr ≤ nI hpk then (some 0) else (some (10 - nI t))) (fun (j10 : Int32) => Option.bind (α := Int32) (if (jmax 0 (nI fr - 9)) ≤ nI hpk then (some 0) else (some (nI t))) (fun (j11 : Int32) => some (j10 + j11)))) else (nm (((10 - nI t) * nI fr) + (nI t * (jmax 0 (nI fr - 9)))) (fun (x12 : Int32) => some x12))) some) = some (nI (upN w t hpk fr)) := by
  have h10 : (10 : Int32) - nI t = nI (10 - t) := pk_sub (a := 10) ht
  rw [less5 hf, h10]
  unfold upN
  rcases (show w = 0 ∨ w = 1 by omega) with rfl | rfl
  · rw [if_neg (show ¬ ¬ nI 0 = 0 by decide), if_pos (show 0 = 0 from rfl), nm_eq, pk_mul, pk_mul, nI_add]; rfl
  · rw [if_pos (show ¬ nI 1 = 0 by decide), if_neg (show ¬ 1 = 0 by decide)]
    have a1 : (if nI fr ≤ nI hpk then some (0 : Int32) else some (nI (10 - t))) = some (nI (if fr ≤ hpk then 0 else 10 - t)) := by
      by_cases c : fr ≤ hpk
      · rw [if_pos (nI_le c (by omega)), if_pos c]; rfl
      · rw [if_neg (nI_ge (by omega) (by omega)), if_neg c]
    have a2 : (if nI (fr - 9) ≤ nI hpk then some (0 : Int32) else some (nI t)) = some (nI (if fr - 9 ≤ hpk then 0 else t)) := by
      by_cases c : fr - 9 ≤ hpk
      · rw [if_pos (nI_le c (by omega)), if_pos c]; rfl
      · rw [if_neg (nI_ge (by omega) (by omega)), if_neg c]
    rw [a1, a2, bnd_some, bnd_some, nI_add]; rfl
theorem up6 {w t hpk fr : Nat} {k : Nat} (hk : k < 6) (hw : w ≤ 1) (ht : t ≤ 10) (hf : fr < 40000) (hh : hpk < 2 ^ 30) : (if ¬ nI w = 0 then (gi (nI k) 6 (Option.bind (α := Int32) (if nI (fr - 9) ≤ nI hpk then (some 0) else (some (nI t))) (fun (j15 : Int32) => gi (nI k) 6 (Option.bind (α := Int32) (if nI fr ≤ nI hpk then (some 0) else (some (10 - nI t))) (fun (j16 : Int32) => some ((j15 + j16).toInt64)))))) else (some (((nI t).toInt64 * (nI (fr - 9)).toInt64) + ((10 - (nI t).toInt64) * (nI fr).toInt64)))) = some (lN (upN w t hpk fr)) := by
  have h10 : (10 : Int32) - nI t = nI (10 - t) := pk_sub (a := 10) ht
  have hlt := upN_lt (w := w) (hpk := hpk) ht hf
  unfold upN at hlt ⊢
  rcases (show w = 0 ∨ w = 1 by omega) with rfl | rfl
  · rw [if_neg (show ¬ ¬ nI 0 = 0 by decide), if_pos (show 0 = 0 from rfl), nI_l (by omega), nI_l (by omega), nI_l (by omega), show (10 : Int64) - lN t = lN (10 - t) from lN_sub (a := 10) ht, lN_mul, lN_mul, lN_add, Nat.add_comm]
  · rw [if_pos (show ¬ nI 1 = 0 by decide), if_neg (show ¬ 1 = 0 by decide), h10, gi_in hk (by decide)]
    have a1 : (if nI fr ≤ nI hpk then some (0 : Int32) else some (nI (10 - t))) = some (nI (if fr ≤ hpk then 0 else 10 - t)) := by
      by_cases c : fr ≤ hpk
      · rw [if_pos (nI_le c (by omega)), if_pos c]; rfl
      · rw [if_neg (nI_ge (by omega) (by omega)), if_neg c]
    have a2 : (if nI (fr - 9) ≤ nI hpk then some (0 : Int32) else some (nI t)) = some (nI (if fr - 9 ≤ hpk then 0 else t)) := by
      by_cases c : fr - 9 ≤ hpk
      · rw [if_pos (nI_le c (by omega)), if_pos c]; rfl
      · rw [if_neg (nI_ge (by omega) (by omega)), if_neg c]
    rw [if_neg (show ¬ 1 = 0 by decide)] at hlt
    rw [a1, a2, bnd_some, gi_in hk (by decide), bnd_some, nI_add, nI_l (by omega), Nat.add_comm]
theorem pc_caught : PC_caught := by
  intro N g σ a1 a2 a3 a4 a5 hN hI
  obtain ⟨h, o, d, l, f, s, ap, bg, hp, rb, H⟩ := LR_LM (LR_now hI.1)
  obtain ⟨⟨h1, -⟩, ⟨e1, -⟩, -, p1, -, -⟩ := id H
  have e1 : σ 1 8 = nI h := e1
  have e2 : σ 29 0 = nI h := by
    have : anS σ 29 0 = nI h := H.2.1.2.1
    rw [anS_29 (by omega)] at this
    exact this
  rcases two (σ := σ) (σ' := σ) h1 e1 e2 a1 a2 with ⟨z5, z6⟩ | ⟨k, q, hk, hq, rfl, rfl, hkq, hne, hbk, hbq, z5, z6, z7⟩
  · refine ⟨-1000000000000000001, σ, ?_, ?_, Inv_mono hI⟩
    · unfold f_X5_caught; rw [z5]; rfl
    · unfold f_X6_caught
      rcases z6 with z6 | ⟨z6, z7 | ⟨z7, z8⟩⟩
      · rw [z6]; rfl
      · rw [z6, bnd_some, if_neg (by decide), z7]; rfl
      · rw [z6, bnd_some, if_neg (by decide), z7, bnd_some, if_neg (by decide), if_neg (fun w => w z8)]
  have E6 : ∀ X : Option (Int64 × St), f_X6_caught (nI k) (nI q) a3 a4 a5 σ = X ↔ (Option.bind (f_X6_in a3 0 10) (fun r3 => if r3 = 0 then (some (((-1000000000000000002 : Int64), σ))) else (Option.bind (f_X6_in a4 0 1) (fun r4 => if r4 = 0 then (some (((-1000000000000000002 : Int64), σ))) else (Option.bind (f_X6_in a5 0 1) (fun r5 => if ¬ r5 = 0 then (Option.bind (f_X6_asNow  σ) (fun r6 => Option.bind (f_X6_whyNot (nI k) (nI q) r6) (fun r7 => if r7 = 0 then (gi (nI k) 6 (Option.bind (f_X6_takes (nI k) (nI q) r6) (fun r8 => nm ((r6 33 (nI k).toNatClampNeg) + r8) (fun (x9 : Int32) => Option.bind (α := Int32) (if x9 ≤ 9 then (some 0) else (some (x9 - 9))) (fun (j10 : Int32) => Option.bind (α := Int64) (if ¬ a4 = 0 then (gi (nI k) 6 (Option.bind (α := Int32) (if j10 ≤ (r6 33 (nI k).toNatClampNeg) then (some 0) else (some a3)) (fun (j15 : Int32) => gi (nI k) 6 (Option.bind (α := Int32) (if x9 ≤ (r6 33 (nI k).toNatClampNeg) then (some 0) else (some (10 - a3))) (fun (j16 : Int32) => some ((j15 + j16).toInt64)))))) else (some ((a3.toInt64 * j10.toInt64) + ((10 - a3.toInt64) * x9.toInt64)))) (fun (j11 : Int64) => Option.bind (loop (fun s : Int64 × Int64 => l_X6_caught_182  s.1 s.2) 400 (j11, 10)) (fun (z14 : Int64) => if ¬ a5 = 0 then (gzL z14 (some ((10 / z14, r6)))) else (gzL z14 (some ((j11 / z14, r6))))))))))) else (some (((-1000000000000000003 : Int64), r6)))))) else (some (((-1000000000000000002 : Int64), σ))))))))) = X := by
    intro X
    unfold f_X6_caught
    rw [z6, bnd_some, if_neg (by decide), z7, bnd_some, if_neg (by decide), if_pos hne]
  rcases wi_cases a3 0 10 with ⟨w3, c1, c2⟩ | ⟨w3, -⟩
  rotate_left
  · refine ⟨-1000000000000000002, σ, ?_, (E6 _).mpr ?_, Inv_mono hI⟩
    · unfold f_X5_caught; rw [z5, bnd_some, if_pos (by decide), w3]; rfl
    · rw [in_eq, w3]; rfl
  rcases wi_cases a4 0 1 with ⟨w4, c3, c4⟩ | ⟨w4, -⟩
  rotate_left
  · refine ⟨-1000000000000000002, σ, ?_, (E6 _).mpr ?_, Inv_mono hI⟩
    · unfold f_X5_caught; rw [z5, bnd_some, if_pos (by decide), w3, bnd_some, if_neg (by decide), w4]; rfl
    · rw [in_eq, w3, bnd_some, if_neg (by decide), w4]; rfl
  rcases wi_cases a5 0 1 with ⟨w5, c5, c6⟩ | ⟨w5, -⟩
  rotate_left
  · refine ⟨-1000000000000000002, σ, ?_, (E6 _).mpr ?_, Inv_mono hI⟩
    · unfold f_X5_caught; rw [z5, bnd_some, if_pos (by decide), w3, bnd_some, if_neg (by decide), w4, bnd_some, if_neg (by decide), w5]; rfl
    · rw [in_eq, w3, bnd_some, if_neg (by decide), w4, bnd_some, if_neg (by decide), w5]; rfl
  obtain ⟨t, -, ht, rfl⟩ := nI_btw (lo := 0) (hi := 10) (by decide) c1 c2 (by decide)
  obtain ⟨w, -, hw, rfl⟩ := nI_btw (lo := 0) (hi := 1) (by decide) c3 c4 (by decide)
  obtain ⟨pt, -, hpt, rfl⟩ := nI_btw (lo := 0) (hi := 1) (by decide) c5 c6 (by decide)
  by_cases cb : RB h o d l f ap rb k q = 0
  rotate_left
  · have hlt : RB h o d l f ap rb k q < 2 ^ 31 := by
      unfold RB
      repeat' split
      all_goals omega
    refine ⟨-1000000000000000003, anS σ, ?_, (E6 _).mpr ?_, Inv_next hI (Agr_anS σ)⟩
    · unfold f_X5_caught; rw [z5, bnd_some, if_pos (by decide), w3, bnd_some, if_neg (by decide), w4, bnd_some, if_neg (by decide), w5, bnd_some, if_pos (by decide), robBar_eq H hk hq, bnd_some, if_neg (nI_ne0 (by omega) hlt)]
    · rw [in_eq, w3, bnd_some, if_neg (by decide), w4, bnd_some, if_neg (by decide), w5, bnd_some, if_pos (by decide), asNow_eq, bnd_some, whyNot_eq H hk hq, bnd_some, if_neg (nI_ne0 (by omega) hlt)]
  obtain ⟨⟨-, -, x3, x4, -⟩, -, -, ⟨y5, y6⟩, -⟩ := p1 k hk hbk
  have y5 : σ 4 k = nI (hp k) := y5
  have y6 : anS σ 33 k = nI (hp k) := by
    rw [anS_out (by omega)]
    have : anS σ 38 k = nI (hp k) := y6
    rw [(anS_a hk).2.1] at this
    exact this
  have hfr : hp k + min (bg k) (ap q) < 40000 := by omega
  have hU := upN_lt (w := w) (hpk := hp k) ht hfr
  have he1 : 0 < Nat.gcd 10 (upN w t (hp k) (hp k + min (bg k) (ap q))) := Nat.gcd_pos_of_pos_left _ (by decide)
  have he2 : Nat.gcd 10 (upN w t (hp k) (hp k + min (bg k) (ap q))) ≤ 10 := Nat.gcd_le_left _ (by decide)
  have hgl : ∀ {α : Type} (z : Option α), gzL (lN (Nat.gcd 10 (upN w t (hp k) (hp k + min (bg k) (ap q))))) z = z := fun z => by
    unfold gzL
    rw [if_neg (fun z => by have := (pk_lEQ (b := 0) (by omega) (by decide)).mp z; omega)]
  refine ⟨lN ((if pt = 0 then upN w t (hp k) (hp k + min (bg k) (ap q)) else 10) / Nat.gcd 10 (upN w t (hp k) (hp k + min (bg k) (ap q)))), anS σ, ?_, (E6 _).mpr ?_, Inv_next hI (Agr_anS σ)⟩
  · have h5 := up5 hw ht hfr (show hp k < 2 ^ 30 by omega)
    unfold f_X5_caught
    rw [z5, bnd_some, if_pos (by decide), w3, bnd_some, if_neg (by decide), w4, bnd_some, if_neg (by decide), w5, bnd_some, if_pos (by decide), robBar_eq H hk hq, bnd_some, cb, if_pos nI_0, gi_in hk (by decide), load_eq H hk hq hbk hbq, bnd_some, nm_eq, nI_clamp (by omega), y5, nI_add]
    rw [show ∀ z : Option Int32, z.bind some = z from fun z => by cases z <;> rfl] at h5
    rw [h5, bnd_some, shared_eq (by omega), bnd_some]
    rcases (show pt = 0 ∨ pt = 1 by omega) with rfl | rfl
    · rw [if_neg (by decide), if_pos rfl, gz_n he1 (by omega), pk_div (by omega) he1 (by omega), nI_l (Nat.lt_of_le_of_lt (Nat.div_le_self _ _) (by omega))]
    · rw [if_pos (by decide), if_neg (by decide), gz_n he1 (by omega), show (10 : Int32) / nI (Nat.gcd 10 (upN w t (hp k) (hp k + min (bg k) (ap q)))) = nI (10 / Nat.gcd 10 (upN w t (hp k) (hp k + min (bg k) (ap q)))) from pk_div (a := 10) (by decide) he1 (by omega), nI_l (Nat.lt_of_le_of_lt (Nat.div_le_self _ _) (by omega))]
  · have h6 := up6 hk hw ht hfr (show hp k < 2 ^ 30 by omega)
    rw [in_eq, w3, bnd_some, if_neg (by decide), w4, bnd_some, if_neg (by decide), w5, bnd_some, if_pos (by decide), asNow_eq, bnd_some, whyNot_eq H hk hq, bnd_some, cb, if_pos nI_0, gi_in hk (by decide), takes_eq H hk hq hbk hbq, bnd_some, nm_eq, nI_clamp (by omega), y6, nI_add, less6 hfr, bnd_some, h6, bnd_some, show (10 : Int64) = lN 10 from rfl, gcd_loop 10 _ 10 400 (by omega) (by omega) (by omega) (by omega), bnd_some, hgl, hgl]
    rcases (show pt = 0 ∨ pt = 1 by omega) with rfl | rfl
    · rw [if_neg (by decide), if_pos rfl, pk_lDiv (by omega) he1 (by omega)]
    · rw [if_pos (by decide), if_neg (by decide), pk_lDiv (by decide) he1 (by omega)]
