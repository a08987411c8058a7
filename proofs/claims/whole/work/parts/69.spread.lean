/-! ===== spread, countWithout, and what is told of the rows ===== -/
theorem nxt_c1 : ∀ set, set < 64 → ∀ y, y < 64 → y &&& (63 ^^^ set) = 0 → ((y - 1) &&& set) &&& (63 ^^^ set) = 0 ∧ (y = 0 ∨ (y - 1) &&& set < y) := by decide +kernel
theorem nxt_c2 : (List.range 64).all (fun set => (List.range 64).all (fun y => !(y &&& (63 ^^^ set) == 0) || (y == 0) || ((List.range 64).all (fun x => !(x &&& (63 ^^^ set) == 0) || !(decide (x < y)) || decide (x ≤ ((y - 1) &&& set)))))) = true := by decide +kernel
theorem nxt_tab (set : Nat) (hs : set < 64) (y : Nat) (hy : y < 64) (h0 : 0 < y) (h : y &&& (63 ^^^ set) = 0) : ((y - 1) &&& set) &&& (63 ^^^ set) = 0 ∧ (y - 1) &&& set < y ∧ ∀ x, x < 64 → x &&& (63 ^^^ set) = 0 → x < y → x ≤ (y - 1) &&& set := by
  obtain ⟨a1, a2⟩ := nxt_c1 set hs y hy h
  refine ⟨a1, a2.resolve_left (by omega), fun x hx h1 h2 => ?_⟩
  have b1 := List.all_eq_true.mp nxt_c2 set (List.mem_range.mpr hs)
  have b2 := List.all_eq_true.mp b1 y (List.mem_range.mpr hy)
  have e0 : (y == 0) = false := by simp; omega
  have e1 : (y &&& (63 ^^^ set) == 0) = true := by simpa using h
  simp only [e0, e1, Bool.not_true, Bool.false_or] at b2
  have b3 := List.all_eq_true.mp b2 x (List.mem_range.mpr hx)
  have e2 : (x &&& (63 ^^^ set) == 0) = true := by simpa using h1
  simp only [e2, Bool.not_true, Bool.false_or, decide_eq_true h2] at b3
  simpa using b3
theorem xor64 : ∀ x, x < 64 → ∀ y, y < 64 → (nI x ^^^ nI y) = nI (x ^^^ y) := by decide +kernel
def phi (W F : Nat → Nat) (set x : Nat) : Nat := if x &&& (63 ^^^ set) = 0 then W (set ^^^ x) * F x else 0
def psi (W F : Nat → Nat) (set y : Nat) : Nat := sumN (fun x => if x = 0 then 0 else phi W F set x) (y + 1)
theorem xs_le {set y : Nat} (hs : set < 64) (hy : y < 64) (h : y &&& (63 ^^^ set) = 0) : set ^^^ y ≤ set := by
  refine Sub_le (xor_lt set hs y hy) hs (fun j hj hb => ?_)
  rw [Nat.testBit_xor] at hb
  by_cases c : set.testBit j = true
  · exact c
  · have c : set.testBit j = false := by simpa using c
    rw [c] at hb
    have hb : y.testBit j = true := by simpa using hb
    exact (Sub_iff hy).mp h j hj hb
theorem sum_gap {G : Nat → Nat} {a : Nat} : ∀ b, a ≤ b → (∀ x, a ≤ x → x < b → G x = 0) → sumN G b = sumN G a := by
  intro b hb h
  have := sumN_app G a (b - a)
  rw [show a + (b - a) = b by omega] at this
  rw [this, sumN_z (b - a) (fun i hi => h (a + i) (by omega) (by omega)), Nat.add_zero]
theorem sp_inner {z : St} {W F : Nat → Nat} {ok : Nat → Bool} {set : Nat} (hs : set < 64) (hF : ∀ g, F g = if ok g = true then 1 else 0) (h25 : ∀ g, g < 64 → (z 25 g < 0 ↔ ok g = false)) (h24 : ∀ k, k ≤ set → z 24 k = nI (W k)) : ∀ n y acc fuel, y ≤ n → y < 64 → y &&& (63 ^^^ set) = 0 → y < fuel → loop (fun s : Int32 × Int32 => l_X3_spread_29 (nI set) z s.1 s.2) fuel (nI acc, nI y) = some (nI (acc + psi W F set y)) := by
  intro n
  induction n with
  | zero =>
    intro y acc fuel h1 h2 h3 h4
    obtain ⟨f, rfl⟩ : ∃ f, fuel = f + 1 := ⟨fuel - 1, by omega⟩
    have hy : y = 0 := by omega
    subst hy
    refine loop_ex (body := fun s : Int32 × Int32 => l_X3_spread_29 (nI set) z s.1 s.2) (s := (nI acc, nI 0)) ?_
    show l_X3_spread_29 (nI set) z (nI acc) (nI 0) = _
    unfold l_X3_spread_29
    rw [if_pos (by decide)]
    rfl
  | succ n ih =>
    intro y acc fuel h1 h2 h3 h4
    by_cases hy0 : y = 0
    · exact ih y acc fuel (by omega) h2 h3 h4
    obtain ⟨f, rfl⟩ : ∃ f, fuel = f + 1 := ⟨fuel - 1, by omega⟩
    obtain ⟨t1, t2, t3⟩ := nxt_tab set hs y h2 (by omega) h3
    have hxl := xor_lt set hs y h2
    have hbody : l_X3_spread_29 (nI set) z (nI acc) (nI y) = some (.inl (nI (acc + phi W F set y), nI ((y - 1) &&& set))) := by
      unfold l_X3_spread_29
      rw [if_neg (nI_nle (by omega) (by omega)), gi_in h2 (by decide), nI_clamp (by omega), xor64 set hs y h2, nI_clamp (by omega), h24 _ (xs_le hs h2 h3), gi_in hxl (by decide), nm_eq, nI_add, show nI y - 1 = nI (y - 1) from pk_sub (b := 1) (by omega), (and64 (y - 1) (by omega) set hs).1]
      have hphi : phi W F set y = W (set ^^^ y) * F y := if_pos h3
      rw [hphi, hF y]
      by_cases c : ok y = true
      · have hn : ¬ z 25 y < 0 := fun w => by rw [(h25 y h2).mp w] at c; cases c
        rw [if_neg hn, if_pos c, Nat.mul_one, bnd_some]
      · have hn : z 25 y < 0 := (h25 y h2).mpr (by simpa using c)
        rw [if_pos hn, if_neg c, Nat.mul_zero, Nat.add_zero, bnd_some]
    rw [loop_in (body := fun s : Int32 × Int32 => l_X3_spread_29 (nI set) z s.1 s.2) (s := (nI acc, nI y)) hbody, ih _ _ f (by omega) (by omega) t1 (by omega)]
    congr 2
    have e : psi W F set y = psi W F set ((y - 1) &&& set) + phi W F set y := by
      unfold psi
      show sumN (fun x => if x = 0 then 0 else phi W F set x) y + (if y = 0 then 0 else phi W F set y) = _
      rw [if_neg hy0, sum_gap (a := ((y - 1) &&& set) + 1) y (by omega) (fun x hx1 hx2 => ?_)]
      rw [if_neg (show ¬ x = 0 by omega)]
      unfold phi
      rw [if_neg (fun w => by have := t3 x (by omega) w hx2; omega)]
    rw [e]
    omega
theorem sum_first {G : Nat → Nat} : ∀ n, sumN G (n + 1) = G 0 + sumN (fun x => if x = 0 then 0 else G x) (n + 1) := by
  intro n
  induction n with
  | zero => show 0 + G 0 = G 0 + (0 + 0); omega
  | succ n ih =>
    show sumN G (n + 1) + G (n + 1) = G 0 + (sumN (fun x => if x = 0 then 0 else G x) (n + 1) + (if n + 1 = 0 then 0 else G (n + 1)))
    rw [ih, if_neg (by omega)]
    omega
theorem conv_psi {W F : Nat → Nat} {set : Nat} (hs : set < 64) : conv W F set = W set * F 0 + psi W F set set := by
  show sumN (phi W F set) 64 = _
  rw [sum_gap (a := set + 1) 64 (by omega) (fun x hx1 hx2 => ?_), sum_first]
  · have : phi W F set 0 = W set * F 0 := by
      unfold phi
      rw [if_pos (Nat.zero_and _), Nat.xor_zero]
    rw [this]
    rfl
  · unfold phi
    rw [if_neg (fun w => by have := Sub_le hx2 hs ((Sub_iff hx2).mp w); omega)]
def spS (σ : St) (W C : Nat → Nat) (m : Nat) : St := fun c k => if c = 24 ∧ k < 64 then (if m ≤ k then nI (C k) else nI (W k)) else σ c k
theorem spS_out {σ : St} {W C : Nat → Nat} {m c : Nat} (h : c ≠ 24) : spS σ W C m c = σ c := by
  funext k
  simp [spS, h]
theorem spread5 {z : St} {W F : Nat → Nat} {ok : Nat → Bool} (hF : ∀ g, F g = if ok g = true then 1 else 0) (h25 : ∀ g, g < 64 → (z 25 g < 0 ↔ ok g = false)) (h24 : ∀ k, k < 64 → z 24 k = nI (W k)) : f_X3_spread z = some (spS z W (conv W F) 0) := by
  have e0 : spS z W (conv W F) 64 = z := by
    funext c k
    unfold spS
    by_cases hc : c = 24 ∧ k < 64
    · rw [if_pos hc, if_neg (by omega), hc.1, h24 k hc.2]
    · rw [if_neg hc]
  have hl := loop_to (body := fun s : Int32 × St => l_X3_spread_3 s.1 s.2) (fun i => (nI (64 - i) + (-1), spS z W (conv W F) (64 - i))) 64 (spS z W (conv W F) 0) (fun i hi => ?_) ?_ 400 (by decide)
  · have hl : loop (fun s : Int32 × St => l_X3_spread_3 s.1 s.2) 400 (nI 64 + (-1), spS z W (conv W F) 64) = some (spS z W (conv W F) 0) := hl
    rw [e0, show nI 64 + (-1) = (63 : Int32) from by decide] at hl
    unfold f_X3_spread
    rw [hl]
    rfl
  · have hsub : 64 - i = 63 - i + 1 := by omega
    have hsub2 : 64 - (i + 1) = 63 - i := by omega
    have hs : 63 - i < 64 := by omega
    show l_X3_spread_3 (nI (64 - i) + (-1)) (spS z W (conv W F) (64 - i)) = some (.inl (nI (64 - (i + 1)) + (-1), spS z W (conv W F) (64 - (i + 1))))
    rw [hsub, hsub2, pk_m1]
    generalize 63 - i = set at *
    have k25 : ∀ g, g < 64 → (spS z W (conv W F) (set + 1) 25 g < 0 ↔ ok g = false) := fun g hg => by
      rw [spS_out (by decide)]; exact h25 g hg
    have k24 : ∀ k, k ≤ set → spS z W (conv W F) (set + 1) 24 k = nI (W k) := fun k hk => by
      unfold spS
      rw [if_pos ⟨rfl, by omega⟩, if_neg (by omega)]
    have hin := sp_inner hs hF k25 k24 64 set (W set * F 0) 400 (by omega) hs (by rw [Sub_iff hs]; exact fun j _ hj => hj) (by omega)
    rw [← conv_psi hs] at hin
    unfold l_X3_spread_3
    have hj4 : (if spS z W (conv W F) (set + 1) 25 (0 : Int32).toNatClampNeg < 0 then some (0 : Int32) else gi (nI set) 64 (some (spS z W (conv W F) (set + 1) 24 (nI set).toNatClampNeg))) = some (nI (W set * F 0)) := by
      rw [show (0 : Int32).toNatClampNeg = 0 from by decide, gi_in hs (by decide), nI_clamp (by omega), k24 set (Nat.le_refl _), hF 0]
      by_cases c : ok 0 = true
      · rw [if_neg (fun w => by rw [(k25 0 (by decide)).mp w] at c; cases c), if_pos c, Nat.mul_one]
      · rw [if_pos ((k25 0 (by decide)).mpr (by simpa using c)), if_neg c, Nat.mul_zero]; rfl
    rw [if_neg (lt_neg (by omega)), hj4, show (gi 0 64 : Option ((Int32 × St) ⊕ St) → Option ((Int32 × St) ⊕ St)) = id from rfl]
    show Option.bind (loop (fun s : Int32 × Int32 => l_X3_spread_29 (nI set) (spS z W (conv W F) (set + 1)) s.1 s.2) 400 (nI (W set * F 0), nI set)) _ = _
    rw [hin, bnd_some, gi_in hs (by decide), nm_eq, nI_clamp (by omega)]
    congr 2
    refine Prod.ext rfl ?_
    funext c k
    show up2 (spS z W (conv W F) (set + 1)) 24 set (nI (conv W F set)) c k = spS z W (conv W F) set c k
    by_cases h : c = 24
    · subst h
      rw [up2_at]
      by_cases hk : k = set
      · rw [if_pos hk, hk]
        unfold spS
        rw [if_pos ⟨rfl, hs⟩, if_pos (Nat.le_refl _)]
      · rw [if_neg hk]
        have : (set + 1 ≤ k) = (set ≤ k) := by apply propext; omega
        simp [spS, this]
    · rw [up2_out h, spS_out h, spS_out h]
  · show l_X3_spread_3 (nI (64 - 64) + (-1)) _ = _
    unfold l_X3_spread_3
    rw [if_pos (by decide)]
def RF (σ z : St) : Prop := ∀ c k, c ≠ 24 → c ≠ 25 → c ≠ 26 → z c k = σ c k
theorem RF_Agr {σ z : St} (h : RF σ z) : Agr σ z := fun c k hr => h c k (by unfold rel at hr; omega) (by unfold rel at hr; omega) (by unfold rel at hr; omega)
theorem RF_tr {a b c : St} (h1 : RF a b) (h2 : RF b c) : RF a c := fun x k q1 q2 q3 => (h2 x k q1 q2 q3).trans (h1 x k q1 q2 q3)
theorem count5 {B h o d l f s om : Nat} {ap bg hp rb sq sa : Nat → Nat} {W : VW} {σ : St} {xo : Int32} (H : LM B h o d l f s ap bg hp rb (cv σ 1) W) (hS : ∀ i, i < s → sq i < 6 ∧ sa i ≤ 99 ∧ σ 7 i = nI (sq i) ∧ σ 8 i = nI (sa i)) (hom : ∀ i, i < 6 → (nI i = xo ↔ i = om)) : ∃ z, f_X3_countWithout xo σ = some z ∧ RF σ z ∧ ∀ k, k < 64 → z 24 k = nI (cwW (okN h s sq sa (abN h o d l f ap rb) bg (apH h ap)) om 6 k) := by
  have h0 : up2 (fillS σ 24 64 0) 24 0 1 = up2 (fillS σ 24 64 0) 24 (0 : Int32).toNatClampNeg 1 := rfl
  have hl := loop_inv (body := fun s : Int32 × St => l_X3_countWithout_17 xo s.1 s.2) (fun i y => y.1 = nI i ∧ RF σ y.2 ∧ ∀ k, k < 64 → y.2 24 k = nI (cwW (okN h s sq sa (abN h o d l f ap rb) bg (apH h ap)) om i k)) (fun z => RF σ z ∧ ∀ k, k < 64 → z 24 k = nI (cwW (okN h s sq sa (abN h o d l f ap rb) bg (apH h ap)) om 6 k)) 6 (fun i y hi hI => ?_) (fun y hI => ?_) 6 0 (0, up2 (fillS σ 24 64 0) 24 0 1) (by decide) ⟨rfl, fun c k q1 q2 q3 => ?_, fun k hk => ?_⟩ 400 (by decide)
  · obtain ⟨z, e1, e2, e3⟩ := hl
    refine ⟨z, ?_, e2, e3⟩
    unfold f_X3_countWithout
    rw [nm_eq, show (gi 0 64 : Option St → Option St) = id from rfl]
    show Option.bind (loop (fun s : Int32 × St => l_X3_countWithout_17 xo s.1 s.2) 400 (0, up2 (fillS σ 24 64 0) 24 0 1)) (fun (z5 : St) => some z5) = _
    rw [e1]
    rfl
  · obtain ⟨y, z⟩ := y
    obtain ⟨hy, hf, h24⟩ := hI
    have hy : y = nI i := hy
    subst hy
    have hf : RF σ z := hf
    have h24 : ∀ k, k < 64 → z 24 k = nI (cwW (okN h s sq sa (abN h o d l f ap rb) bg (apH h ap)) om i k) := h24
    by_cases c : i = om
    · refine ⟨(nI (i + 1), z), ?_, rfl, hf, fun k hk => ?_⟩
      · show l_X3_countWithout_17 xo (nI i) z = _
        unfold l_X3_countWithout_17
        rw [if_neg (six_le hi), if_pos ((hom i hi).mpr c), bnd_some, nI_1]
      · show z 24 k = nI ((if i = om then _ else _ : Nat → Nat) k)
        rw [if_pos c]
        exact h24 k hk
    · have H' := LM_agrC H (RF_Agr hf)
      have hS' : ∀ j, j < s → sq j < 6 ∧ sa j ≤ 99 ∧ z 7 j = nI (sq j) ∧ z 8 j = nI (sa j) := fun j hj => by
        rw [hf 7 j (by decide) (by decide) (by decide), hf 8 j (by decide) (by decide) (by decide)]
        exact hS j hj
      have e1 := fill5 H' hi
      have e2 := keep5 (abl := abN h o d l f ap rb) (base := apH h ap) H' hS' hi (apH_all H i hi)
      have e3 := spread5 (z := flS z (encK (okq h s sq sa (abN h o d l f ap rb) bg (apH h ap) i) (fun g => encL (rG (abN h o d l f ap rb) bg (apH h ap) i 6 g))) 64) (W := cwW (okN h s sq sa (abN h o d l f ap rb) bg (apH h ap)) om i) (F := okN h s sq sa (abN h o d l f ap rb) bg (apH h ap) i) (ok := okq h s sq sa (abN h o d l f ap rb) bg (apH h ap) i) (fun g => rfl) (fun g hg => by
        rw [flS_in hg]
        unfold encK
        by_cases ck : okq h s sq sa (abN h o d l f ap rb) bg (apH h ap) i g = true
        · rw [if_pos ck, ck]
          constructor
          · intro w
            exfalso
            unfold okq at ck
            cases hr : rG (abN h o d l f ap rb) bg (apH h ap) i 6 g with
            | none => rw [hr] at ck; cases ck
            | some a =>
              have ha := rG_le 6 a hr
              have := apH_all H i hi
              simp only [hr] at w
              exact lt_neg (k := a) (by omega) w
          · intro w; cases w
        · rw [if_neg ck]
          exact ⟨fun _ => by simpa using ck, fun _ => by decide⟩) (fun k hk => by rw [flS_out (by decide)]; exact h24 k hk)
      generalize hzz : spS (flS z (encK (okq h s sq sa (abN h o d l f ap rb) bg (apH h ap) i) (fun g => encL (rG (abN h o d l f ap rb) bg (apH h ap) i 6 g))) 64) (cwW (okN h s sq sa (abN h o d l f ap rb) bg (apH h ap)) om i) (conv (cwW (okN h s sq sa (abN h o d l f ap rb) bg (apH h ap)) om i) (okN h s sq sa (abN h o d l f ap rb) bg (apH h ap) i)) 0 = zz at e3
      refine ⟨(nI (i + 1), zz), ?_, rfl, fun c k q1 q2 q3 => ?_, fun k hk => ?_⟩
      · show l_X3_countWithout_17 xo (nI i) z = _
        unfold l_X3_countWithout_17
        rw [if_neg (six_le hi), if_neg (fun w => c ((hom i hi).mp w)), e1, bnd_some, e2, bnd_some, e3, bnd_some, bnd_some, nI_1]
      · show zz c k = σ c k
        rw [← hzz, spS_out q1, flS_out q2]
        exact hf c k q1 q2 q3
      · show zz 24 k = nI ((if i = om then _ else _ : Nat → Nat) k)
        rw [if_neg c, ← hzz]
        unfold spS
        rw [if_pos ⟨rfl, hk⟩, if_pos (Nat.zero_le _)]
  · obtain ⟨y, z⟩ := y
    obtain ⟨hy, hf, h24⟩ := hI
    have hy : y = nI 6 := hy
    subst hy
    refine ⟨z, ?_, hf, h24⟩
    show l_X3_countWithout_17 xo (nI 6) z = _
    unfold l_X3_countWithout_17
    rw [if_pos (by decide)]
  · show up2 (fillS σ 24 64 0) 24 0 1 c k = σ c k
    rw [up2_out q1, fillS_out q1]
  · show up2 (fillS σ 24 64 0) 24 0 1 24 k = nI (dl k)
    rw [up2_at, fillS_at, if_pos hk]
    unfold dl
    by_cases c : k = 0
    · rw [if_pos c, if_pos c]; rfl
    · rw [if_neg c, if_neg c]; rfl
theorem within5 {z : St} {W : Nat → Nat} {a : Int32} {P : Nat → Bool} (h24 : ∀ k, k < 64 → z 24 k = nI (W k)) (hP : ∀ k, k < 64 → ((nI k &&& (a ^^^ (-1 : Int32)) = 0) ↔ P k = true)) : f_X3_waysWithin a z = some (nI (sumN (fun S => if P S = true then W S else 0) 64)) := by
  have hl := loop_to (body := fun s : Int32 × Int32 => l_X3_waysWithin_4 a z s.1 s.2) (fun i => (nI (sumN (fun S => if P S = true then W S else 0) i), nI i)) 64 (nI (sumN (fun S => if P S = true then W S else 0) 64)) (fun i hi => ?_) ?_ 400 (by decide)
  · unfold f_X3_waysWithin
    have hl : loop (fun s : Int32 × Int32 => l_X3_waysWithin_4 a z s.1 s.2) 400 (0, 0) = _ := hl
    rw [hl, bnd_some]
  · show l_X3_waysWithin_4 a z (nI (sumN (fun S => if P S = true then W S else 0) i)) (nI i) = some (.inl (nI (sumN (fun S => if P S = true then W S else 0) i + (if P i = true then W i else 0)), nI (i + 1)))
    unfold l_X3_waysWithin_4
    rw [if_neg (show ¬ (64 : Int32) ≤ nI i from nI_ge (b := 64) hi (by decide)), gi_in hi (by decide), nI_clamp (by omega), h24 i hi, nm_eq, nI_add, nI_1]
    by_cases c : P i = true
    · rw [if_neg (fun w => w ((hP i hi).mpr c)), if_pos c, bnd_some]
    · rw [if_pos (fun w => c ((hP i hi).mp w)), if_neg c, bnd_some]
      rfl
  · show l_X3_waysWithin_4 a z _ (nI 64) = _
    unfold l_X3_waysWithin_4
    rw [if_pos (by decide)]
theorem total5 {z : St} {W : Nat → Nat} (h24 : ∀ k, k < 64 → z 24 k = nI (W k)) : f_X3_total z = some (nI (sumN W 64)) := by
  unfold f_X3_total
  rw [within5 (P := fun _ => true) h24 (fun k hk => by
    rw [show (63 : Int32) = nI 63 from rfl, andn_tab k hk 63 (by decide)]
    have : k &&& (63 ^^^ 63) = 0 := by simp
    rw [this]
    exact ⟨fun _ => rfl, fun _ => rfl⟩), bnd_some]
  rfl
def orF (P : Nat → Bool) (v : Nat → Nat) : Nat → Nat
  | 0 => 0
  | n + 1 => if P n = true then orF P v n ||| v n else orF P v n
def andF (P : Nat → Bool) (v : Nat → Nat) : Nat → Nat
  | 0 => 63
  | n + 1 => if P n = true then andF P v n &&& v n else andF P v n
theorem orF_lt {P : Nat → Bool} {v : Nat → Nat} : ∀ n, (∀ i, i < n → v i < 64) → orF P v n < 64 := by
  intro n
  induction n with
  | zero => intro _; exact (by decide : (0 : Nat) < 64)
  | succ n ih =>
    intro h
    show (if P n = true then orF P v n ||| v n else orF P v n) < 64
    have h1 := ih (fun i hi => h i (by omega))
    by_cases c : P n = true
    · rw [if_pos c]; exact (or64 _ h1 _ (h n (by omega))).2
    · rw [if_neg c]; exact h1
theorem andF_lt {P : Nat → Bool} {v : Nat → Nat} : ∀ n, andF P v n < 64 := by
  intro n
  induction n with
  | zero => exact (by decide : (63 : Nat) < 64)
  | succ n ih =>
    show (if P n = true then andF P v n &&& v n else andF P v n) < 64
    by_cases c : P n = true
    · rw [if_pos c]; exact Nat.lt_of_le_of_lt Nat.and_le_left ih
    · rw [if_neg c]; exact ih
theorem orF_tb {P : Nat → Bool} {v : Nat → Nat} {j : Nat} : ∀ n, (orF P v n).testBit j = true ↔ ∃ i, i < n ∧ P i = true ∧ (v i).testBit j = true := by
  intro n
  induction n with
  | zero =>
    show (0 : Nat).testBit j = true ↔ _
    simp
  | succ n ih =>
    show (if P n = true then orF P v n ||| v n else orF P v n).testBit j = true ↔ _
    by_cases c : P n = true
    · rw [if_pos c, Nat.testBit_or, Bool.or_eq_true, ih]
      constructor
      · rintro (⟨i, h1, h2⟩ | h)
        · exact ⟨i, by omega, h2⟩
        · exact ⟨n, by omega, c, h⟩
      · rintro ⟨i, h1, h2, h3⟩
        by_cases e : i = n
        · subst e; exact Or.inr h3
        · exact Or.inl ⟨i, by omega, h2, h3⟩
    · rw [if_neg c, ih]
      constructor
      · rintro ⟨i, h1, h2⟩; exact ⟨i, by omega, h2⟩
      · rintro ⟨i, h1, h2, h3⟩
        by_cases e : i = n
        · subst e; exact absurd h2 c
        · exact ⟨i, by omega, h2, h3⟩
theorem andF_tb {P : Nat → Bool} {v : Nat → Nat} {j : Nat} (hj : j < 6) : ∀ n, (andF P v n).testBit j = true ↔ ∀ i, i < n → P i = true → (v i).testBit j = true := by
  intro n
  induction n with
  | zero =>
    show (63 : Nat).testBit j = true ↔ _
    rw [t63 j hj]
    exact ⟨fun _ i hi => absurd hi (Nat.not_lt_zero _), fun _ => rfl⟩
  | succ n ih =>
    show (if P n = true then andF P v n &&& v n else andF P v n).testBit j = true ↔ _
    by_cases c : P n = true
    · rw [if_pos c, Nat.testBit_and, Bool.and_eq_true, ih]
      constructor
      · rintro ⟨h1, h2⟩ i hi hp
        by_cases e : i = n
        · subst e; exact h2
        · exact h1 i (by omega) hp
      · intro h
        exact ⟨fun i hi hp => h i (by omega) hp, h n (by omega) c⟩
    · rw [if_neg c, ih]
      constructor
      · intro h i hi hp
        by_cases e : i = n
        · subst e; exact absurd hp c
        · exact h i (by omega) hp
      · intro h i hi hp
        exact h i (by omega) hp
theorem some5 {z : St} {W : Nat → Nat} (h24 : ∀ k, k < 64 → z 24 k = nI (W k)) (hW : ∀ k, k < 64 → W k < 2 ^ 31) : f_X3_outInSome z = some (nI (orF (fun S => decide (0 < W S)) (fun S => S) 64)) := by
  have hl := loop_to (body := fun s : Int32 × Int32 => l_X3_outInSome_4 z s.1 s.2) (fun i => (nI (orF (fun S => decide (0 < W S)) (fun S => S) i), nI i)) 64 (nI (orF (fun S => decide (0 < W S)) (fun S => S) 64)) (fun i hi => ?_) ?_ 400 (by decide)
  · unfold f_X3_outInSome
    have hl : loop (fun s : Int32 × Int32 => l_X3_outInSome_4 z s.1 s.2) 400 (0, 0) = _ := hl
    rw [hl, bnd_some]
  · show l_X3_outInSome_4 z (nI (orF (fun S => decide (0 < W S)) (fun S => S) i)) (nI i) = some (.inl (nI (if decide (0 < W i) = true then orF (fun S => decide (0 < W S)) (fun S => S) i ||| i else orF (fun S => decide (0 < W S)) (fun S => S) i), nI (i + 1)))
    unfold l_X3_outInSome_4
    rw [if_neg (show ¬ (64 : Int32) ≤ nI i from nI_ge (b := 64) hi (by decide)), gi_in hi (by decide), nI_clamp (by omega), h24 i hi, nI_1, (or64 _ (orF_lt i (fun j hj => by omega)) i hi).1]
    by_cases c : W i = 0
    · rw [c, if_pos (by decide), if_neg (by simp), bnd_some]
    · rw [if_neg (nI_nle (by omega) (hW i hi)), if_pos (by simp; omega), bnd_some]
  · show l_X3_outInSome_4 z _ (nI 64) = _
    unfold l_X3_outInSome_4
    rw [if_pos (by decide)]
theorem all5 {z : St} {W : Nat → Nat} (h24 : ∀ k, k < 64 → z 24 k = nI (W k)) (hW : ∀ k, k < 64 → W k < 2 ^ 31) (hT : sumN W 64 < 2 ^ 31) : f_X3_outInAll z = some (nI (if sumN W 64 = 0 then 0 else andF (fun S => decide (0 < W S)) (fun S => S) 64)) := by
  have hl := loop_to (body := fun s : Int32 × Int32 => l_X3_outInAll_5 z s.1 s.2) (fun i => (nI (andF (fun S => decide (0 < W S)) (fun S => S) i), nI i)) 64 (nI (andF (fun S => decide (0 < W S)) (fun S => S) 64)) (fun i hi => ?_) ?_ 400 (by decide)
  · unfold f_X3_outInAll
    have hl : loop (fun s : Int32 × Int32 => l_X3_outInAll_5 z s.1 s.2) 400 (63, 0) = _ := hl
    rw [hl, bnd_some, total5 h24, bnd_some]
    by_cases c : sumN W 64 = 0
    · rw [c, if_neg (fun w => w rfl), if_pos rfl]; rfl
    · rw [if_pos (nI_ne0 (by omega) hT), if_neg c]
  · show l_X3_outInAll_5 z (nI (andF (fun S => decide (0 < W S)) (fun S => S) i)) (nI i) = some (.inl (nI (if decide (0 < W i) = true then andF (fun S => decide (0 < W S)) (fun S => S) i &&& i else andF (fun S => decide (0 < W S)) (fun S => S) i), nI (i + 1)))
    unfold l_X3_outInAll_5
    rw [if_neg (show ¬ (64 : Int32) ≤ nI i from nI_ge (b := 64) hi (by decide)), gi_in hi (by decide), nI_clamp (by omega), h24 i hi, nI_1, (and64 _ (andF_lt i) i hi).1]
    by_cases c : W i = 0
    · rw [c, if_pos (by decide), if_neg (by simp), bnd_some]
    · rw [if_neg (nI_nle (by omega) (hW i hi)), if_pos (by simp; omega), bnd_some]
  · show l_X3_outInAll_5 z _ (nI 64) = _
    unfold l_X3_outInAll_5
    rw [if_pos (by decide)]
