/-! ===== the relation between the component's ints and the reference's, call by call ===== -/
abbrev VW : Type := Nat → Nat → Int32
def cv (σ : St) (b : Nat) : VW := fun i k => σ (b + i) k
def mv (σ : St) : VW := fun i k => match i with
  | 0 => (match k with
    | 7 => σ 29 5
    | 8 => σ 29 0
    | 9 => σ 29 11
    | 10 => σ 29 2
    | 11 => σ 29 3
    | _ => σ 29 4)
  | 1 => σ 32 k
  | 2 => σ 30 k
  | 3 => σ 33 k
  | 4 => σ 34 k
  | 5 => σ 35 k
  | 6 => σ 31 (2 * k)
  | _ => σ 31 (2 * k + 1)
def nv (σ : St) : VW := fun i k => match i with
  | 0 => (match k with
    | 7 => σ 29 5
    | 8 => σ 29 0
    | 9 => σ 29 18
    | 10 => σ 29 19
    | 11 => σ 29 20
    | _ => σ 29 21)
  | 1 => σ 37 k
  | 2 => σ 30 k
  | 3 => σ 38 k
  | 4 => σ 39 k
  | 5 => σ 40 k
  | 6 => σ 31 (2 * k)
  | _ => σ 31 (2 * k + 1)
def iv (σ : St) (j : Nat) : VW := fun i k => match i with
  | 0 => (match k with
    | 7 => σ 44 (70 * j + 55)
    | 8 => σ 44 (70 * j + 50)
    | 9 => σ 44 (70 * j + 54)
    | 10 => σ 44 (70 * j + 51)
    | 11 => σ 44 (70 * j + 52)
    | _ => σ 44 (70 * j + 53))
  | 1 => σ 44 (70 * j + 6 + k)
  | 2 => σ 44 (70 * j + k)
  | 3 => σ 44 (70 * j + 12 + k)
  | 4 => σ 44 (70 * j + 18 + k)
  | 5 => σ 44 (70 * j + 24 + k)
  | 6 => σ 44 (70 * j + 30 + 2 * k)
  | _ => σ 44 (70 * j + 31 + 2 * k)
/-- one who is there: the same numbers on both sides; one who is not: nothing on the component's side -/
def PK (B h o k : Nat) (V W : VW) : Prop :=
  (h.testBit k = true → ∃ a bg hp rb : Nat, a ≤ 99 ∧ 1 ≤ bg ∧ bg ≤ 20 ∧ hp ≤ B ∧ rb < 64 ∧ V 1 k = nI a ∧ W 1 k = nI a ∧ V 2 k = nI bg ∧ W 2 k = nI bg ∧ V 3 k = nI hp ∧ W 3 k = nI hp ∧ V 4 k = nI rb ∧ W 4 k = nI rb ∧ (o.testBit k = true → W 5 k = V 5 k ∧ (V 5 k = -6 ∨ ∃ q : Nat, q < 6 ∧ V 5 k = nI q ∧ h.testBit q = true))) ∧
  (h.testBit k = false → V 1 k = 0 ∧ V 2 k = 0 ∧ V 3 k = 0 ∧ V 4 k = 0 ∧ ∃ a : Nat, a ≤ 99 ∧ W 1 k = nI a)
def LR (B : Nat) (V W : VW) : Prop := ∃ h o d l f s : Nat, h < 64 ∧ o < 64 ∧ d < 64 ∧ l < 64 ∧ f ≤ 30 ∧ s ≤ 8 ∧
  V 0 8 = nI h ∧ W 0 8 = nI h ∧ V 0 9 = nI o ∧ W 0 9 = nI o ∧ V 0 10 = nI d ∧ W 0 10 = nI d ∧ V 0 11 = nI l ∧ W 0 11 = nI l ∧ V 0 12 = nI f ∧ W 0 12 = nI f ∧ V 0 7 = nI s ∧ W 0 7 = nI s ∧
  (∀ k, o.testBit k = true → h.testBit k = true) ∧ (∀ k, d.testBit k = true → h.testBit k = true) ∧ (∀ k, l.testBit k = true → h.testBit k = true) ∧
  (∀ k, k < 6 → PK B h o k V W) ∧ (∀ i, i < s → ∃ q a : Nat, q < 6 ∧ a ≤ 99 ∧ V 6 i = nI q ∧ W 6 i = nI q ∧ V 7 i = nI a ∧ W 7 i = nI a)
def PAD (σ : St) : Prop := ∃ p : Nat, p ≤ 60 ∧ σ 18 1 = nI p ∧ σ 29 12 = nI p ∧ ∀ k, k < p → σ 36 k = σ 19 k ∧ ∃ c : Nat, 33 ≤ c ∧ c ≤ 126 ∧ σ 19 k = nI c
def IM (B : Nat) (g : Nat → Option Nat) (σ : St) : Prop := (∀ j, j < 2 → (g j = none ∧ σ 45 j = 0) ∨ ∃ q, 46 ≤ q ∧ g j = some q ∧ σ 45 j = 1 ∧ LR B (cv σ q) (iv σ j)) ∧ ∀ j, 2 ≤ j → g j = none
def Inv (N : Nat) (g : Nat → Option Nat) (σ : St) : Prop := LR (600 * N) (cv σ 1) (mv σ) ∧ PAD σ ∧ IM (600 * N) g σ
/-- the law's own state between two calls -/
def LI (N : Nat) (g : Nat → Option Nat) (S : List SC) (σ : St) : Prop := Wf g S ∧ WI g S ∧ sokP S S.length ∧ S.length ≤ 46 + 8 * N ∧ Inv N g σ
