/-! Small rows for walks. -/
theorem cr_obj {cy : Nat → ClassId} {σ : SG} {α : AD} : CR cy σ α 0 0 = some (.inr (5, fsR σ α)) := rfl
theorem cc_0 {cy : Nat → ClassId} {σ : SG} {α : AD} : CC cy σ α 0 0 = some (.inr (4, fsP σ α)) := rfl
theorem cc_1 {cy : Nat → ClassId} {σ : SG} {α : AD} : CC cy σ α 1 0 = some (.inl (cy 2, 16, .inr (.inr (.inr (.inr (qG σ α)))))) := rfl
theorem cc_2 {cy : Nat → ClassId} {σ : SG} {α : AD} : CC cy σ α 2 0 = some (.inl (cy 3, 24, .inr (.inr (.inr (.inr (qC σ α)))))) := rfl
theorem cc_3 {cy : Nat → ClassId} {σ : SG} {α : AD} : CC cy σ α 3 0 = some (.inl (cy 4, 8, .inr (.inr (.inr (.inr (qT σ α)))))) := rfl
theorem cc_4 {cy : Nat → ClassId} {σ : SG} {α : AD} : CC cy σ α 4 0 = some (.inr (2, [.ref (α 7 0), .int (σ 31 0)])) := rfl
theorem cc_5 {cy : Nat → ClassId} {σ : SG} {α : AD} : CC cy σ α 5 0 = some (.inr (2, [.ref (α 8 0), .int (σ 31 1)])) := rfl
theorem cc_6 {cy : Nat → ClassId} {σ : SG} {α : AD} : CC cy σ α 6 0 = some (.inr (2, [.ref (α 9 0), .int (σ 31 2)])) := rfl
theorem cc_7 {cy : Nat → ClassId} {σ : SG} {α : AD} : CC cy σ α 7 0 = some (.inl (cy 0, 20, .inl (σ 22))) := rfl
theorem cc_8 {cy : Nat → ClassId} {σ : SG} {α : AD} : CC cy σ α 8 0 = some (.inl (cy 0, 20, .inl (σ 23))) := rfl
theorem cc_9 {cy : Nat → ClassId} {σ : SG} {α : AD} : CC cy σ α 9 0 = some (.inl (cy 0, 20, .inl (σ 24))) := rfl
theorem in_j {x : Int32} {n : Nat} (hn : n < 2 ^ 31) (h : 0 ≤ x ∧ x < nI n) : ∃ j : Nat, j < n ∧ x = nI j := by
  have e := nI_cN h.1
  refine ⟨x.toNatClampNeg, ?_, e⟩
  have h2 := h.2
  rw [e] at h2
  have hlt : x.toNatClampNeg < 2 ^ 31 := by
    have := Int32.toInt_lt x
    rw [Int32.toNatClampNeg]
    omega
  exact (nI_ltI hlt hn).mp h2
theorem j_in {n j : Nat} (hn : n < 2 ^ 31) (h : j < n) : 0 ≤ nI j ∧ nI j < nI n := ⟨nI_pos' (Nat.lt_trans h hn), nI_lt h hn⟩
theorem nn_le {x : Int32} (h : ¬ x < 0) : 0 ≤ x := Int32.not_lt.mp h
theorem nl_lt {x y : Int32} (h : ¬ y ≤ x) : x < y := Int32.not_le.mp h
theorem lt_nl {x y : Int32} (h : x < y) : ¬ y ≤ x := Int32.not_le.mpr h
theorem ilt {i N : Nat} (hi : i < 2 ^ 31) (hN : N < 2 ^ 31) (c : ¬ nI N ≤ nI i) : i < N := by
  rcases Nat.lt_or_ge i N with h | h
  · exact h
  · exact absurd (nI_le h hi) c
theorem ige {i N : Nat} (hi : i < 2 ^ 31) (hN : N < 2 ^ 31) (c : nI N ≤ nI i) : N ≤ i := (nI_leI hN hi).mp c
theorem qG_cases (σ : SG) (α : AD) (j : Nat) : (va_rf (qG σ α j) = .null ∧ σ 0 j = 0) ∨ (va_rf (qG σ α j) = .ref (α 10 j) ∧ σ 0 j ≠ 0) := by
  by_cases h : σ 0 j = 0
  · exact Or.inl ⟨by simp [qG, h, va_rf], h⟩
  · exact Or.inr ⟨by simp [qG, h, va_rf], h⟩
theorem qC_cases (σ : SG) (α : AD) (j : Nat) : (va_rf (qC σ α j) = .null ∧ σ 11 j = 0) ∨ (va_rf (qC σ α j) = .ref (α 13 j) ∧ σ 11 j ≠ 0) := by
  by_cases h : σ 11 j = 0
  · exact Or.inl ⟨by simp [qC, h, va_rf], h⟩
  · exact Or.inr ⟨by simp [qC, h, va_rf], h⟩
theorem qT_cases (σ : SG) (α : AD) (j : Nat) : (va_rf (qT σ α j) = .null ∧ σ 20 j = 0) ∨ (va_rf (qT σ α j) = .ref (α 14 j) ∧ σ 20 j ≠ 0) := by
  by_cases h : σ 20 j = 0
  · exact Or.inl ⟨by simp [qT, h, va_rf], h⟩
  · exact Or.inr ⟨by simp [qT, h, va_rf], h⟩
theorem qG_some {σ : SG} {α : AD} {j : Nat} (h : σ 0 j ≠ 0) : va_rf (qG σ α j) = .ref (α 10 j) := by simp [qG, h, va_rf]
theorem qC_some {σ : SG} {α : AD} {j : Nat} (h : σ 11 j ≠ 0) : va_rf (qC σ α j) = .ref (α 13 j) := by simp [qC, h, va_rf]
theorem qT_some {σ : SG} {α : AD} {j : Nat} (h : σ 20 j ≠ 0) : va_rf (qT σ α j) = .ref (α 14 j) := by simp [qT, h, va_rf]
theorem rel_in {r : Int32} (h1 : 0 ≤ r) (h2 : r ≤ 5) : isRel r := by
  have e := nI_cN h1
  have h3 : r.toNatClampNeg ≤ 5 := by
    rw [e] at h2
    have hlt : r.toNatClampNeg < 2 ^ 31 := by
      have := Int32.toInt_lt r
      rw [Int32.toNatClampNeg]
      omega
    exact (nI_leI hlt (by decide)).mp h2
  unfold isRel
  rw [e]
  rcases (show r.toNatClampNeg = 0 ∨ r.toNatClampNeg = 1 ∨ r.toNatClampNeg = 2 ∨ r.toNatClampNeg = 3 ∨ r.toNatClampNeg = 4 ∨ r.toNatClampNeg = 5 by omega) with h | h | h | h | h | h <;> rw [h] <;> decide
theorem in_rel {r : Int32} (h : isRel r) : 0 ≤ r ∧ r ≤ 5 := by
  rcases h with h | h | h | h | h | h <;> subst h <;> decide
theorem num_gp {n : Int32} (h : isNum n) : n ≠ gp := by
  rintro rfl
  exact absurd h.2 (by decide)
/-- the switch that both classes compare by -/
theorem rl_0 (o : Option Ordering) : (rl 0 o = true) ↔ o = some .lt := by simp [rl]
theorem rl_1 (o : Option Ordering) : (rl 1 o = true) ↔ (o = some .lt ∨ o = some .eq) := by simp [rl]
theorem rl_2 (o : Option Ordering) : (rl 2 o = true) ↔ o = some .gt := by simp [rl]
theorem rl_3 (o : Option Ordering) : (rl 3 o = true) ↔ (o = some .gt ∨ o = some .eq) := by simp [rl]
theorem rl_4 (o : Option Ordering) : (rl 4 o = true) ↔ o = some .eq := by simp [rl]
theorem rl_5 (o : Option Ordering) : (rl 5 o = true) ↔ ¬ o = some .eq := by simp [rl]
