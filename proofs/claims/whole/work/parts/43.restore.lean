/-! ===== restore ===== -/
theorem blk_LR {B q : Nat} {W : VW} {σ τ : St} (h : LR B (cv σ q) W) (hb : BEq τ 1 σ q) : LR B (cv τ 1) W :=
  LR_congr2 h (fun k h1 h2 => ⟨hb.1 k h1 h2, rfl⟩) (fun i k h1 h2 hk => ⟨hb.2.1 i k h1 h2 hk, rfl⟩) (fun i k h1 h2 hk => ⟨hb.2.2 i k h1 h2 hk, rfl⟩)
