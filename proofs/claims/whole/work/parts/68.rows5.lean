/-! ===== fillLeft, keepFitting, spread, countWithout ===== -/
def encL (x : Option Nat) : Int32 := match x with
  | none => -6
  | some a => nI a
def flS (σ : St) (L : Nat → Int32) (m : Nat) : St := fun c k => if c = 25 ∧ k < m then L k else σ c k
theorem flS_out {σ : St} {L : Nat → Int32} {m c : Nat} (h : c ≠ 25) : flS σ L m c = σ c := by
  funext k
  simp [flS, h]
theorem flS_in {σ : St} {L : Nat → Int32} {m k : Nat} (h : k < m) : flS σ L m 25 k = L k := by simp [flS, h]
theorem flS_s {σ : St} {L : Nat → Int32} {m : Nat} : up2 (flS σ L m) 25 m (L m) = flS σ L (m + 1) := by
  funext c k
  by_cases h : c = 25
  · subst h
    rw [up2_at]
    by_cases hk : k = m
    · rw [if_pos hk, hk, flS_in (by omega)]
    · rw [if_neg hk]
      have : (k < m + 1) = (k < m) := by apply propext; omega
      simp [flS, this]
  · rw [up2_out h, flS_out h, flS_out h]
theorem Agr_flS {σ : St} {L : Nat → Int32} {m : Nat} : Agr σ (flS σ L m) := fun c k hr => by
  rw [flS_out (by unfold rel at hr; omega)]
def abN (h o d l f : Nat) (ap rb : Nat → Nat) (n q : Nat) : Bool := RB h o d l f ap rb n q == 0
theorem oradd : ∀ n, n < 6 → ∀ j, j < 64 → j < 1 <<< n → j ||| 1 <<< n = 1 <<< n + j ∧ 1 <<< n + j < 64 := by decide +kernel
theorem shl_s : ∀ n, n < 6 → 1 <<< n + 1 <<< n = 1 <<< (n + 1) ∧ 1 <<< n ≤ 32 := by decide
theorem fill5 {B h o d l f s q : Nat} {ap bg hp rb : Nat → Nat} {W : VW} {σ : St} (H : LM B h o d l f s ap bg hp rb (cv σ 1) W) (hq : q < 6) : f_X3_fillLeft (nI q) σ = some (flS σ (fun g => encL (rG (abN h o d l f ap rb) bg (apH h ap) q 6 g)) 64) := by
  obtain ⟨hap, hv⟩ := apH_v H hq
  generalize hLd : (fun g => encL (rG (abN h o d l f ap rb) bg (apH h ap) q 6 g)) = L
  have hLg : ∀ g, L g = encL (rG (abN h o d l f ap rb) bg (apH h ap) q 6 g) := fun g => by rw [← hLd]
  have h0 : up2 σ 25 0 (σ 2 q) = flS σ L 1 := by
    have e : σ 2 q = L 0 := by
      rw [hLg, hv]
      have := rG_up (abl := abN h o d l f ap rb) (bg := bg) (base := apH h ap) (q := q) (g := 0) (n := 0) 6 (fun k _ _ => Nat.zero_testBit k)
      rw [Nat.zero_add] at this
      rw [this]
      rfl
    rw [e]
    have := flS_s (σ := σ) (L := L) (m := 0)
    have e0 : flS σ L 0 = σ := by funext c k; simp [flS]
    rw [e0] at this
    exact this
  have inner : ∀ n, n < 6 → loop (fun s : Int32 × St => l_X3_fillLeft_44 (nI n) (b2 (abN h o d l f ap rb n q)) (nI (1 <<< n)) s.1 s.2) 400 (0, flS σ L (1 <<< n)) = some (flS σ L (1 <<< (n + 1))) := by
    intro n hn
    obtain ⟨s1, s2⟩ := shl_s n hn
    have hl := loop_to (body := fun s : Int32 × St => l_X3_fillLeft_44 (nI n) (b2 (abN h o d l f ap rb n q)) (nI (1 <<< n)) s.1 s.2) (fun j => (nI j, flS σ L (1 <<< n + j))) (1 <<< n) (flS σ L (1 <<< (n + 1))) (fun j hj => ?_) ?_ 400 (by omega)
    · exact hl
    · show l_X3_fillLeft_44 (nI n) (b2 (abN h o d l f ap rb n q)) (nI (1 <<< n)) (nI j) (flS σ L (1 <<< n + j)) = some (.inl (nI (j + 1), flS σ L (1 <<< n + (j + 1))))
      obtain ⟨o1, o2⟩ := oradd n hn j (by omega) hj
      have hor : nI j ||| nI (1 <<< n) = nI (1 <<< n + j) := by rw [(or64 j (by omega) (1 <<< n) (by omega)).1, o1]
      have htop := rG_top (abl := abN h o d l f ap rb) (bg := bg) (base := apH h ap) (q := q) hn hj
      rw [o1] at htop
      have hval : (Option.bind (α := Int32) (if b2 (abN h o d l f ap rb n q) = 0 then (some 0) else (if L j ≤ 0 then (some 0) else (some 1))) (fun (j11 : Int32) => (if j11 = 0 then (some (-6 : Int32)) else (gi (nI n) 6 (some (L j - (jmin (L j) (σ 3 n)))))))) = some (L (1 <<< n + j)) := by
        rw [hLg (1 <<< n + j), htop]
        by_cases ca : abN h o d l f ap rb n q = true
        · have hbn : h.testBit n = true := (RB_there (by unfold abN at ca; simpa using ca)).1
          obtain ⟨⟨-, -, x3, -, -⟩, -, ⟨y3, -⟩, -⟩ := H.2.2.2.1 n hn hbn
          have y3 : σ 3 n = nI (bg n) := y3
          rw [ca, if_neg (by decide), hLg j, y3]
          cases hr : rG (abN h o d l f ap rb) bg (apH h ap) q 6 j with
          | none => rfl
          | some a =>
            have ha := rG_le 6 a hr
            show (Option.bind (α := Int32) (if nI a ≤ 0 then (some 0) else (some 1)) (fun (j11 : Int32) => (if j11 = 0 then (some (-6 : Int32)) else (gi (nI n) 6 (some (nI a - (jmin (nI a) (nI (bg n))))))))) = some (encL (if (true && decide (0 < a)) = true then some (a - min a (bg n)) else none))
            by_cases c0 : a = 0
            · subst c0; rfl
            · have c1 : 0 < a := by omega
              rw [if_neg (nI_nle c1 (by omega)), bnd_some, if_neg (by decide), gi_in hn (by decide), jmin_n (by omega) (by omega), pk_sub (Nat.min_le_left _ _), if_pos (by simp [c1])]
              rfl
        · have ca : abN h o d l f ap rb n q = false := by simpa using ca
          rw [ca, if_pos (show b2 false = 0 from rfl)]
          cases rG (abN h o d l f ap rb) bg (apH h ap) q 6 j <;> rfl
      unfold l_X3_fillLeft_44
      rw [if_neg (nI_ge hj (by omega)), gi_in (by omega) (by decide), nI_clamp (by omega), nI_clamp (by omega), flS_in (by omega), show flS σ L (1 <<< n + j) 3 n = σ 3 n from by rw [flS_out (by decide)], hor, nI_1]
      cases hj11 : (if b2 (abN h o d l f ap rb n q) = 0 then (some (0 : Int32)) else (if L j ≤ 0 then (some 0) else (some 1))) with
      | none => rw [hj11] at hval; cases hval
      | some j11 =>
        rw [hj11] at hval
        have hval : (if j11 = 0 then (some (-6 : Int32)) else (gi (nI n) 6 (some (L j - (jmin (L j) (σ 3 n)))))) = some (L (1 <<< n + j)) := hval
        rw [bnd_some, hval, bnd_some, gi_in o2 (by decide), nI_clamp (by omega), nm_eq, flS_s]
        rfl
    · show l_X3_fillLeft_44 (nI n) (b2 (abN h o d l f ap rb n q)) (nI (1 <<< n)) (nI (1 <<< n)) _ = _
      unfold l_X3_fillLeft_44
      rw [if_pos (Int32.le_refl _), s1]
  have hl := loop_to (body := fun s : Int32 × St => l_X3_fillLeft_14 (nI q) s.1 s.2) (fun i => (nI i, flS σ L (1 <<< i))) 6 (flS σ L 64) (fun i hi => ?_) ?_ 400 (by decide)
  · unfold f_X3_fillLeft
    rw [gi_in hq (by decide), show (gi 0 64 : Option St → Option St) = id from rfl, nI_clamp (by omega)]
    show Option.bind (loop (fun s : Int32 × St => l_X3_fillLeft_14 (nI q) s.1 s.2) 400 (0, up2 σ 25 0 (σ 2 q))) (fun (z4 : St) => some z4) = _
    rw [h0]
    have hl : loop (fun s : Int32 × St => l_X3_fillLeft_14 (nI q) s.1 s.2) 400 (0, flS σ L 1) = some (flS σ L 64) := hl
    rw [hl]
    rfl
  · show l_X3_fillLeft_14 (nI q) (nI i) (flS σ L (1 <<< i)) = _
    have hlt := RB_lt (h := h) (o := o) (d := d) (l := l) (f := f) (k := i) (q := q) (ap := ap) (rb := rb)
    unfold l_X3_fillLeft_14
    rw [if_neg (six_le hi), robBar_eq (LM_agrC H Agr_flS) hi hq, bnd_some, nI_1]
    have hj6 : (if ¬ nI (RB h o d l f ap rb i q) = 0 then some (0 : Int32) else some 1) = some (b2 (abN h o d l f ap rb i q)) := by
      unfold abN
      by_cases c : RB h o d l f ap rb i q = 0
      · rw [c, if_neg (fun w => w rfl)]; rfl
      · rw [if_pos (nI_ne0 (by omega) (by omega))]
        simp [c, b2]
    rw [hj6, bnd_some, nm_eq, (one_tab i hi).1, inner i hi, bnd_some]
  · show l_X3_fillLeft_14 (nI q) (nI 6) _ = _
    unfold l_X3_fillLeft_14
    rw [if_pos (by decide)]
    rfl
def encK (ok : Nat → Bool) (L : Nat → Int32) (k : Nat) : Int32 := if ok k = true then L k else -6
def kfS (σ : St) (ok : Nat → Bool) (L : Nat → Int32) (m : Nat) : St := fun c k => if c = 25 ∧ k < 64 then (if k < m then encK ok L k else L k) else σ c k
theorem kfS_out {σ : St} {ok : Nat → Bool} {L : Nat → Int32} {m c : Nat} (h : c ≠ 25) : kfS σ ok L m c = σ c := by
  funext k
  simp [kfS, h]
theorem kfS_s {σ : St} {ok : Nat → Bool} {L : Nat → Int32} {m : Nat} (hm : m < 64) : up2 (kfS σ ok L m) 25 m (encK ok L m) = kfS σ ok L (m + 1) := by
  funext c k
  by_cases h : c = 25
  · subst h
    rw [up2_at]
    by_cases hk : k = m
    · rw [if_pos hk, hk]; simp [kfS, hm]
    · rw [if_neg hk]
      have : (k < m + 1) = (k < m) := by apply propext; omega
      simp [kfS, this]
  · rw [up2_out h, kfS_out h, kfS_out h]
theorem keep5 {B h o d l f s q : Nat} {ap bg hp rb sq sa base : Nat → Nat} {abl : Nat → Nat → Bool} {W : VW} {σ : St} (H : LM B h o d l f s ap bg hp rb (cv σ 1) W) (hS : ∀ i, i < s → sq i < 6 ∧ sa i ≤ 99 ∧ σ 7 i = nI (sq i) ∧ σ 8 i = nI (sa i)) (hq : q < 6) (hb : base q ≤ 99) : f_X3_keepFitting (nI q) (flS σ (fun g => encL (rG abl bg base q 6 g)) 64) = some (flS σ (encK (okq h s sq sa abl bg base q) (fun g => encL (rG abl bg base q 6 g))) 64) := by
  have e0 : kfS σ (okq h s sq sa abl bg base q) (fun g => encL (rG abl bg base q 6 g)) 0 = flS σ (fun g => encL (rG abl bg base q 6 g)) 64 := by
    funext c k
    unfold kfS flS
    by_cases hc : c = 25 ∧ k < 64
    · rw [if_pos hc, if_pos hc, if_neg (Nat.not_lt_zero _)]
    · rw [if_neg hc, if_neg hc]
  have e64 : kfS σ (okq h s sq sa abl bg base q) (fun g => encL (rG abl bg base q 6 g)) 64 = flS σ (encK (okq h s sq sa abl bg base q) (fun g => encL (rG abl bg base q 6 g))) 64 := by
    funext c k
    unfold kfS flS
    by_cases hc : c = 25 ∧ k < 64
    · rw [if_pos hc, if_pos hc, if_pos hc.2]
    · rw [if_neg hc, if_neg hc]
  have hl := loop_to (body := fun s : Int32 × St => l_X3_keepFitting_2 (nI q) s.1 s.2) (fun i => (nI i, kfS σ (okq h s sq sa abl bg base q) (fun g => encL (rG abl bg base q 6 g)) i)) 64 (kfS σ (okq h s sq sa abl bg base q) (fun g => encL (rG abl bg base q 6 g)) 64) (fun i hi => ?_) ?_ 400 (by decide)
  · unfold f_X3_keepFitting
    rw [← e0]
    have hl : loop (fun s : Int32 × St => l_X3_keepFitting_2 (nI q) s.1 s.2) 400 (0, kfS σ (okq h s sq sa abl bg base q) (fun g => encL (rG abl bg base q 6 g)) 0) = _ := hl
    rw [hl, bnd_some, e64]
  · generalize hK : kfS σ (okq h s sq sa abl bg base q) (fun g => encL (rG abl bg base q 6 g)) i = z
    have hout : ∀ c, c ≠ 25 → z c = σ c := fun c hc => by rw [← hK]; exact kfS_out hc
    have hAg : Agr σ z := fun c k hr => by rw [hout c (by unfold rel at hr; omega)]
    have hzi : z 25 i = encL (rG abl bg base q 6 i) := by rw [← hK]; simp [kfS, hi]
    show l_X3_keepFitting_2 (nI q) (nI i) z = some (.inl (nI (i + 1), kfS σ (okq h s sq sa abl bg base q) (fun g => encL (rG abl bg base q 6 g)) (i + 1)))
    rw [← kfS_s hi, hK]
    unfold l_X3_keepFitting_2
    rw [if_neg (show ¬ (64 : Int32) ≤ nI i from nI_ge (b := 64) hi (by decide)), gi_in hi (by decide), gi_in hi (by decide), gi_in hi (by decide), nI_clamp (by omega), hzi, nI_1]
    cases hr : rG abl bg base q 6 i with
    | none =>
      have hk : encK (okq h s sq sa abl bg base q) (fun g => encL (rG abl bg base q 6 g)) i = z 25 i := by
        rw [hzi]
        unfold encK okq
        rw [hr]
        rfl
      rw [hk, up2_self]
      rfl
    | some a =>
      have ha := rG_le 6 a hr
      have hf := fits5 (a := a) (LM_agrC H hAg) (sq := sq) (sa := sa) (fun j hj => by
        obtain ⟨x1, x2, x3, x4⟩ := hS j hj
        rw [hout 7 (by decide), hout 8 (by decide)]
        exact ⟨x1, x2, x3, x4⟩) hq (by omega)
      have hok : okq h s sq sa abl bg base q i = fitq h s sq sa q a := by
        unfold okq
        rw [hr]
      show Option.bind (if nI a < 0 then some z else Option.bind (f_X0_fitsSights 1 (nI q) (nI a) z) _) _ = _
      rw [if_neg (lt_neg (by omega)), hf, bnd_some]
      unfold encK
      rw [hok]
      by_cases c : fitq h s sq sa q a = true
      · have hk : encL (rG abl bg base q 6 i) = z 25 i := hzi.symm
        rw [c, if_pos (show ¬ b2 true = 0 by decide), bnd_some, if_pos rfl, show (fun g => encL (rG abl bg base q 6 g)) i = z 25 i from hk, up2_self]
      · have c : fitq h s sq sa q a = false := by simpa using c
        rw [c, if_neg (show ¬ ¬ b2 false = 0 by decide), nm_eq, bnd_some, if_neg (by decide)]
  · show l_X3_keepFitting_2 (nI q) (nI 64) _ = _
    unfold l_X3_keepFitting_2
    rw [if_pos (by decide)]
