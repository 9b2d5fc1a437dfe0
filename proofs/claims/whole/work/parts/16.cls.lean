theorem cc_g2 {cy : Nat → ClassId} {σ : SG} {α : AD} {g : Nat} {v : Int32} (hg : g < 16) (hm : σ 0 g ≠ 0) : pw_up (CC cy σ α) 10 g (.inr (1, (fsG σ α g).set 2 (.int v))) = CC cy (st σ 2 g v) α := by
  funext a b
  by_cases hab : a = 10 ∧ b = g
  · obtain ⟨rfl, rfl⟩ := hab
    rw [pw_up_self]
    simp [CC, fsG, st, sr, upd, hg, hm]
  · rw [pw_up_ne hab]
    have hne : a = 10 → b ≠ g := fun h q => hab ⟨h, q⟩
    match a, hne with
    | 0, _ => rfl
    | 1, _ => rfl
    | 2, _ => rfl
    | 3, _ => rfl
    | 4, _ => rfl
    | 5, _ => rfl
    | 6, _ => rfl
    | 7, _ => rfl
    | 8, _ => rfl
    | 9, _ => rfl
    | 10, hne => simp [CC, fsG, st, sr, upd, hne rfl]
    | 11, _ => rfl
    | 12, _ => rfl
    | 13, _ => rfl
    | 14, _ => rfl
    | 15, _ => rfl
    | n + 16, _ => rfl
theorem cc_g3 {cy : Nat → ClassId} {σ : SG} {α : AD} {g : Nat} {v : Int32} (hg : g < 16) (hm : σ 0 g ≠ 0) : pw_up (CC cy σ α) 10 g (.inr (1, (fsG σ α g).set 3 (.int v))) = CC cy (st σ 3 g v) α := by
  funext a b
  by_cases hab : a = 10 ∧ b = g
  · obtain ⟨rfl, rfl⟩ := hab
    rw [pw_up_self]
    simp [CC, fsG, st, sr, upd, hg, hm]
  · rw [pw_up_ne hab]
    have hne : a = 10 → b ≠ g := fun h q => hab ⟨h, q⟩
    match a, hne with
    | 0, _ => rfl
    | 1, _ => rfl
    | 2, _ => rfl
    | 3, _ => rfl
    | 4, _ => rfl
    | 5, _ => rfl
    | 6, _ => rfl
    | 7, _ => rfl
    | 8, _ => rfl
    | 9, _ => rfl
    | 10, hne => simp [CC, fsG, st, sr, upd, hne rfl]
    | 11, _ => rfl
    | 12, _ => rfl
    | 13, _ => rfl
    | 14, _ => rfl
    | 15, _ => rfl
    | n + 16, _ => rfl
theorem cc_g4 {cy : Nat → ClassId} {σ : SG} {α : AD} {g : Nat} {v : Int32} (hg : g < 16) (hm : σ 0 g ≠ 0) : pw_up (CC cy σ α) 10 g (.inr (1, (fsG σ α g).set 4 (.int v))) = CC cy (st σ 4 g v) α := by
  funext a b
  by_cases hab : a = 10 ∧ b = g
  · obtain ⟨rfl, rfl⟩ := hab
    rw [pw_up_self]
    simp [CC, fsG, st, sr, upd, hg, hm]
  · rw [pw_up_ne hab]
    have hne : a = 10 → b ≠ g := fun h q => hab ⟨h, q⟩
    match a, hne with
    | 0, _ => rfl
    | 1, _ => rfl
    | 2, _ => rfl
    | 3, _ => rfl
    | 4, _ => rfl
    | 5, _ => rfl
    | 6, _ => rfl
    | 7, _ => rfl
    | 8, _ => rfl
    | 9, _ => rfl
    | 10, hne => simp [CC, fsG, st, sr, upd, hne rfl]
    | 11, _ => rfl
    | 12, _ => rfl
    | 13, _ => rfl
    | 14, _ => rfl
    | 15, _ => rfl
    | n + 16, _ => rfl
theorem cc_g5 {cy : Nat → ClassId} {σ : SG} {α : AD} {g : Nat} {v : Int32} (hg : g < 16) (hm : σ 0 g ≠ 0) : pw_up (CC cy σ α) 10 g (.inr (1, (fsG σ α g).set 5 (.int v))) = CC cy (st σ 5 g v) α := by
  funext a b
  by_cases hab : a = 10 ∧ b = g
  · obtain ⟨rfl, rfl⟩ := hab
    rw [pw_up_self]
    simp [CC, fsG, st, sr, upd, hg, hm]
  · rw [pw_up_ne hab]
    have hne : a = 10 → b ≠ g := fun h q => hab ⟨h, q⟩
    match a, hne with
    | 0, _ => rfl
    | 1, _ => rfl
    | 2, _ => rfl
    | 3, _ => rfl
    | 4, _ => rfl
    | 5, _ => rfl
    | 6, _ => rfl
    | 7, _ => rfl
    | 8, _ => rfl
    | 9, _ => rfl
    | 10, hne => simp [CC, fsG, st, sr, upd, hne rfl]
    | 11, _ => rfl
    | 12, _ => rfl
    | 13, _ => rfl
    | 14, _ => rfl
    | 15, _ => rfl
    | n + 16, _ => rfl
theorem cc_g6 {cy : Nat → ClassId} {σ : SG} {α : AD} {g : Nat} {v : Int32} (hg : g < 16) (hm : σ 0 g ≠ 0) : pw_up (CC cy σ α) 10 g (.inr (1, (fsG σ α g).set 6 (.int v))) = CC cy (st σ 6 g v) α := by
  funext a b
  by_cases hab : a = 10 ∧ b = g
  · obtain ⟨rfl, rfl⟩ := hab
    rw [pw_up_self]
    simp [CC, fsG, st, sr, upd, hg, hm]
  · rw [pw_up_ne hab]
    have hne : a = 10 → b ≠ g := fun h q => hab ⟨h, q⟩
    match a, hne with
    | 0, _ => rfl
    | 1, _ => rfl
    | 2, _ => rfl
    | 3, _ => rfl
    | 4, _ => rfl
    | 5, _ => rfl
    | 6, _ => rfl
    | 7, _ => rfl
    | 8, _ => rfl
    | 9, _ => rfl
    | 10, hne => simp [CC, fsG, st, sr, upd, hne rfl]
    | 11, _ => rfl
    | 12, _ => rfl
    | 13, _ => rfl
    | 14, _ => rfl
    | 15, _ => rfl
    | n + 16, _ => rfl
theorem cc_g7 {cy : Nat → ClassId} {σ : SG} {α : AD} {g : Nat} {v : Int32} (hg : g < 16) (hm : σ 0 g ≠ 0) : pw_up (CC cy σ α) 10 g (.inr (1, (fsG σ α g).set 7 (.int v))) = CC cy (st σ 7 g v) α := by
  funext a b
  by_cases hab : a = 10 ∧ b = g
  · obtain ⟨rfl, rfl⟩ := hab
    rw [pw_up_self]
    simp [CC, fsG, st, sr, upd, hg, hm]
  · rw [pw_up_ne hab]
    have hne : a = 10 → b ≠ g := fun h q => hab ⟨h, q⟩
    match a, hne with
    | 0, _ => rfl
    | 1, _ => rfl
    | 2, _ => rfl
    | 3, _ => rfl
    | 4, _ => rfl
    | 5, _ => rfl
    | 6, _ => rfl
    | 7, _ => rfl
    | 8, _ => rfl
    | 9, _ => rfl
    | 10, hne => simp [CC, fsG, st, sr, upd, hne rfl]
    | 11, _ => rfl
    | 12, _ => rfl
    | 13, _ => rfl
    | 14, _ => rfl
    | 15, _ => rfl
    | n + 16, _ => rfl
theorem cc_g8 {cy : Nat → ClassId} {σ : SG} {α : AD} {g : Nat} {v : Int32} (hg : g < 16) (hm : σ 0 g ≠ 0) : pw_up (CC cy σ α) 10 g (.inr (1, (fsG σ α g).set 8 (.int v))) = CC cy (st σ 8 g v) α := by
  funext a b
  by_cases hab : a = 10 ∧ b = g
  · obtain ⟨rfl, rfl⟩ := hab
    rw [pw_up_self]
    simp [CC, fsG, st, sr, upd, hg, hm]
  · rw [pw_up_ne hab]
    have hne : a = 10 → b ≠ g := fun h q => hab ⟨h, q⟩
    match a, hne with
    | 0, _ => rfl
    | 1, _ => rfl
    | 2, _ => rfl
    | 3, _ => rfl
    | 4, _ => rfl
    | 5, _ => rfl
    | 6, _ => rfl
    | 7, _ => rfl
    | 8, _ => rfl
    | 9, _ => rfl
    | 10, hne => simp [CC, fsG, st, sr, upd, hne rfl]
    | 11, _ => rfl
    | 12, _ => rfl
    | 13, _ => rfl
    | 14, _ => rfl
    | 15, _ => rfl
    | n + 16, _ => rfl
theorem cc_p25 {cy : Nat → ClassId} {σ : SG} {α : AD} {v : Int32} : pw_up (CC cy σ α) 0 0 (.inr (4, (fsP σ α).set 6 (.int v))) = CC cy (st σ 25 0 v) α := by
  funext a b
  by_cases hab : a = 0 ∧ b = 0
  · obtain ⟨rfl, rfl⟩ := hab
    rw [pw_up_self]
    simp [CC, fsP, st, sr, upd]
  · rw [pw_up_ne hab]
    have hne : a = 0 → b ≠ 0 := fun h q => hab ⟨h, q⟩
    match a, hne with
    | 0, hne => simp [CC, hne rfl]
    | 1, _ => rfl
    | 2, _ => rfl
    | 3, _ => rfl
    | 4, _ => rfl
    | 5, _ => rfl
    | 6, _ => rfl
    | 7, _ => rfl
    | 8, _ => rfl
    | 9, _ => rfl
    | 10, _ => rfl
    | 11, _ => rfl
    | 12, _ => rfl
    | 13, _ => rfl
    | 14, _ => rfl
    | 15, _ => rfl
    | n + 16, _ => rfl
theorem cc_p26 {cy : Nat → ClassId} {σ : SG} {α : AD} {v : Int32} : pw_up (CC cy σ α) 0 0 (.inr (4, (fsP σ α).set 7 (.int v))) = CC cy (st σ 26 0 v) α := by
  funext a b
  by_cases hab : a = 0 ∧ b = 0
  · obtain ⟨rfl, rfl⟩ := hab
    rw [pw_up_self]
    simp [CC, fsP, st, sr, upd]
  · rw [pw_up_ne hab]
    have hne : a = 0 → b ≠ 0 := fun h q => hab ⟨h, q⟩
    match a, hne with
    | 0, hne => simp [CC, hne rfl]
    | 1, _ => rfl
    | 2, _ => rfl
    | 3, _ => rfl
    | 4, _ => rfl
    | 5, _ => rfl
    | 6, _ => rfl
    | 7, _ => rfl
    | 8, _ => rfl
    | 9, _ => rfl
    | 10, _ => rfl
    | 11, _ => rfl
    | 12, _ => rfl
    | 13, _ => rfl
    | 14, _ => rfl
    | 15, _ => rfl
    | n + 16, _ => rfl
theorem cc_p27 {cy : Nat → ClassId} {σ : SG} {α : AD} {v : Int32} : pw_up (CC cy σ α) 0 0 (.inr (4, (fsP σ α).set 8 (.int v))) = CC cy (st σ 27 0 v) α := by
  funext a b
  by_cases hab : a = 0 ∧ b = 0
  · obtain ⟨rfl, rfl⟩ := hab
    rw [pw_up_self]
    simp [CC, fsP, st, sr, upd]
  · rw [pw_up_ne hab]
    have hne : a = 0 → b ≠ 0 := fun h q => hab ⟨h, q⟩
    match a, hne with
    | 0, hne => simp [CC, hne rfl]
    | 1, _ => rfl
    | 2, _ => rfl
    | 3, _ => rfl
    | 4, _ => rfl
    | 5, _ => rfl
    | 6, _ => rfl
    | 7, _ => rfl
    | 8, _ => rfl
    | 9, _ => rfl
    | 10, _ => rfl
    | 11, _ => rfl
    | 12, _ => rfl
    | 13, _ => rfl
    | 14, _ => rfl
    | 15, _ => rfl
    | n + 16, _ => rfl
theorem cc_p28 {cy : Nat → ClassId} {σ : SG} {α : AD} {v : Int32} : pw_up (CC cy σ α) 0 0 (.inr (4, (fsP σ α).set 9 (.int v))) = CC cy (st σ 28 0 v) α := by
  funext a b
  by_cases hab : a = 0 ∧ b = 0
  · obtain ⟨rfl, rfl⟩ := hab
    rw [pw_up_self]
    simp [CC, fsP, st, sr, upd]
  · rw [pw_up_ne hab]
    have hne : a = 0 → b ≠ 0 := fun h q => hab ⟨h, q⟩
    match a, hne with
    | 0, hne => simp [CC, hne rfl]
    | 1, _ => rfl
    | 2, _ => rfl
    | 3, _ => rfl
    | 4, _ => rfl
    | 5, _ => rfl
    | 6, _ => rfl
    | 7, _ => rfl
    | 8, _ => rfl
    | 9, _ => rfl
    | 10, _ => rfl
    | 11, _ => rfl
    | 12, _ => rfl
    | 13, _ => rfl
    | 14, _ => rfl
    | 15, _ => rfl
    | n + 16, _ => rfl
theorem cc_p29 {cy : Nat → ClassId} {σ : SG} {α : AD} {v : Int32} : pw_up (CC cy σ α) 0 0 (.inr (4, (fsP σ α).set 10 (.int v))) = CC cy (st σ 29 0 v) α := by
  funext a b
  by_cases hab : a = 0 ∧ b = 0
  · obtain ⟨rfl, rfl⟩ := hab
    rw [pw_up_self]
    simp [CC, fsP, st, sr, upd]
  · rw [pw_up_ne hab]
    have hne : a = 0 → b ≠ 0 := fun h q => hab ⟨h, q⟩
    match a, hne with
    | 0, hne => simp [CC, hne rfl]
    | 1, _ => rfl
    | 2, _ => rfl
    | 3, _ => rfl
    | 4, _ => rfl
    | 5, _ => rfl
    | 6, _ => rfl
    | 7, _ => rfl
    | 8, _ => rfl
    | 9, _ => rfl
    | 10, _ => rfl
    | 11, _ => rfl
    | 12, _ => rfl
    | 13, _ => rfl
    | 14, _ => rfl
    | 15, _ => rfl
    | n + 16, _ => rfl
theorem cc_t18 {cy : Nat → ClassId} {σ : SG} {α : AD} {g : Nat} {v : Int32} (hg : g < 8) (hm : σ 20 g ≠ 0) : pw_up (CC cy σ α) 14 g (.inr (3, (fsT σ α g).set 2 (.int v))) = CC cy (st σ 18 g v) α := by
  funext a b
  by_cases hab : a = 14 ∧ b = g
  · obtain ⟨rfl, rfl⟩ := hab
    rw [pw_up_self]
    simp [CC, fsT, st, sr, upd, hg, hm]
  · rw [pw_up_ne hab]
    have hne : a = 14 → b ≠ g := fun h q => hab ⟨h, q⟩
    match a, hne with
    | 0, _ => rfl
    | 1, _ => rfl
    | 2, _ => rfl
    | 3, _ => rfl
    | 4, _ => rfl
    | 5, _ => rfl
    | 6, _ => rfl
    | 7, _ => rfl
    | 8, _ => rfl
    | 9, _ => rfl
    | 10, _ => rfl
    | 11, _ => rfl
    | 12, _ => rfl
    | 13, _ => rfl
    | 14, hne => simp [CC, fsT, st, sr, upd, hne rfl]
    | 15, _ => rfl
    | n + 16, _ => rfl
theorem cc_t21 {cy : Nat → ClassId} {σ : SG} {α : AD} {g : Nat} {v : Int32} (hg : g < 8) (hm : σ 20 g ≠ 0) : pw_up (CC cy σ α) 14 g (.inr (3, (fsT σ α g).set 3 (.int v))) = CC cy (st σ 21 g v) α := by
  funext a b
  by_cases hab : a = 14 ∧ b = g
  · obtain ⟨rfl, rfl⟩ := hab
    rw [pw_up_self]
    simp [CC, fsT, st, sr, upd, hg, hm]
  · rw [pw_up_ne hab]
    have hne : a = 14 → b ≠ g := fun h q => hab ⟨h, q⟩
    match a, hne with
    | 0, _ => rfl
    | 1, _ => rfl
    | 2, _ => rfl
    | 3, _ => rfl
    | 4, _ => rfl
    | 5, _ => rfl
    | 6, _ => rfl
    | 7, _ => rfl
    | 8, _ => rfl
    | 9, _ => rfl
    | 10, _ => rfl
    | 11, _ => rfl
    | 12, _ => rfl
    | 13, _ => rfl
    | 14, hne => simp [CC, fsT, st, sr, upd, hne rfl]
    | 15, _ => rfl
    | n + 16, _ => rfl
/-- a row of latest numbers (its object at kL iL, its array at kA iA) in any world -/
def LW (cell : CF) (cy : Nat → ClassId) (α : AD) (kL iL kA iA n : Nat) (f : Nat → Int32) (sz : Int32) : CF := pw_up (pw_up cell kA iA (.inl (cy 0, n, .inl f))) kL iL (.inr (2, [.ref (α kA iA), .int sz]))
theorem pw_same {cell : CF} {k i : Nat} {e : va_E} (h : cell k i = some e) : pw_up cell k i e = cell := by
  funext a b
  by_cases hab : a = k ∧ b = i
  · obtain ⟨rfl, rfl⟩ := hab; rw [pw_up_self, h]
  · rw [pw_up_ne hab]
theorem lw_init {cell : CF} {cy : Nat → ClassId} {α : AD} {kL iL kA iA n : Nat} {f : Nat → Int32} {sz : Int32} (hL : cell kL iL = some (.inr (2, [.ref (α kA iA), .int sz]))) (hA : cell kA iA = some (.inl (cy 0, n, .inl f))) : LW cell cy α kL iL kA iA n f sz = cell := by
  unfold LW; rw [pw_same hA, pw_same hL]
theorem lw_L {cell : CF} {cy : Nat → ClassId} {α : AD} {kL iL kA iA n : Nat} {f : Nat → Int32} {sz : Int32} : LW cell cy α kL iL kA iA n f sz kL iL = some (.inr (2, [.ref (α kA iA), .int sz])) := pw_up_self _ _ _ _
theorem lw_A {cell : CF} {cy : Nat → ClassId} {α : AD} {kL iL kA iA n : Nat} {f : Nat → Int32} {sz : Int32} (ne : ¬ (kA = kL ∧ iA = iL)) : LW cell cy α kL iL kA iA n f sz kA iA = some (.inl (cy 0, n, .inl f)) := by
  unfold LW; rw [pw_up_ne ne, pw_up_self]
theorem lw_setA {cell : CF} {cy : Nat → ClassId} {α : AD} {kL iL kA iA n : Nat} {f f' : Nat → Int32} {sz : Int32} (ne : ¬ (kA = kL ∧ iA = iL)) : pw_up (LW cell cy α kL iL kA iA n f sz) kA iA (.inl (cy 0, n, .inl f')) = LW cell cy α kL iL kA iA n f' sz := by
  funext a b
  unfold LW pw_up
  by_cases h1 : a = kL ∧ b = iL
  · by_cases h2 : a = kA ∧ b = iA
    · exact absurd ⟨h2.1.symm.trans h1.1, h2.2.symm.trans h1.2⟩ ne
    · rw [if_neg h2, if_pos h1, if_pos h1]
  · by_cases h2 : a = kA ∧ b = iA
    · rw [if_pos h2, if_neg h1, if_pos h2]
    · rw [if_neg h2, if_neg h1, if_neg h2, if_neg h1, if_neg h2]
theorem lw_setL {cell : CF} {cy : Nat → ClassId} {α : AD} {kL iL kA iA n : Nat} {f : Nat → Int32} {sz sz' : Int32} : pw_up (LW cell cy α kL iL kA iA n f sz) kL iL (.inr (2, [.ref (α kA iA), .int sz'])) = LW cell cy α kL iL kA iA n f sz' := by
  funext a b
  unfold LW pw_up
  by_cases h1 : a = kL ∧ b = iL
  · rw [if_pos h1, if_pos h1]
  · rw [if_neg h1, if_neg h1, if_neg h1]
/-- a gauge's row behind one more number -/
def rowed (σ : SG) (g : Nat) (v : Int32) : SG := st (sr σ 9 (shR (σ 9) (12 * g) 12 v)) 10 g (if σ 10 g < 12 then σ 10 g + 1 else σ 10 g)
theorem r12_row (σ : SG) (g : Nat) (v : Int32) : shR (r12 σ g) 0 12 v = r12 (rowed σ g v) g := by
  funext p
  show shR (r12 σ g) 0 12 v p = (if p < 12 then shR (σ 9) (12 * g) 12 v (12 * g + p) else 0)
  unfold shR r12
  by_cases h0 : p = 0
  · subst h0; simp
  · by_cases h : p < 12
    · have a1 : p - 1 < 12 := by omega
      have a2 : 0 < p ∧ p < 0 + 12 := by omega
      have a3 : ¬ 12 * g + p = 12 * g := by omega
      have a4 : 12 * g < 12 * g + p ∧ 12 * g + p < 12 * g + 12 := by omega
      rw [if_neg h0, if_pos a2, if_pos a1, if_pos h, if_neg a3, if_pos a4, show 12 * g + (p - 1) = 12 * g + p - 1 by omega]
    · have a2 : ¬ (0 < p ∧ p < 0 + 12) := by omega
      rw [if_neg h0, if_neg a2, if_neg h, if_neg h]
theorem r12_ne (σ : SG) {g b : Nat} (v : Int32) (h : b ≠ g) : r12 (rowed σ g v) b = r12 σ b := by
  funext p
  show (if p < 12 then shR (σ 9) (12 * g) 12 v (12 * b + p) else 0) = (if p < 12 then σ 9 (12 * b + p) else 0)
  by_cases hp : p < 12
  · rw [if_pos hp, if_pos hp]
    unfold shR
    have a1 : ¬ 12 * b + p = 12 * g := by omega
    have a2 : ¬ (12 * g < 12 * b + p ∧ 12 * b + p < 12 * g + 12) := by omega
    rw [if_neg a1, if_neg a2]
  · rw [if_neg hp, if_neg hp]
theorem cc_row {cy : Nat → ClassId} {σ : SG} {α : AD} {g : Nat} {v : Int32} (hg : g < 16) (hm : σ 0 g ≠ 0) : LW (CC cy σ α) cy α 11 g 12 g 12 (shR (r12 σ g) 0 12 v) (if σ 10 g < 12 then σ 10 g + 1 else σ 10 g) = CC cy (rowed σ g v) α := by
  funext a b
  unfold LW
  by_cases h1 : a = 11 ∧ b = g
  · obtain ⟨rfl, rfl⟩ := h1
    rw [pw_up_self]
    simp [CC, rowed, st, sr, upd, hg, hm]
  · rw [pw_up_ne h1]
    by_cases h2 : a = 12 ∧ b = g
    · obtain ⟨rfl, rfl⟩ := h2
      rw [pw_up_self, r12_row]
      exact (cc_12 (σ := rowed σ b v) hg hm).symm
    · rw [pw_up_ne h2]
      have hne1 : a = 11 → b ≠ g := fun h q => h1 ⟨h, q⟩
      have hne2 : a = 12 → b ≠ g := fun h q => h2 ⟨h, q⟩
      match a, hne1, hne2 with
      | 0, _, _ => rfl
      | 1, _, _ => rfl
      | 2, _, _ => rfl
      | 3, _, _ => rfl
      | 4, _, _ => rfl
      | 5, _, _ => rfl
      | 6, _, _ => rfl
      | 7, _, _ => rfl
      | 8, _, _ => rfl
      | 9, _, _ => rfl
      | 10, _, _ => rfl
      | 11, hne1, _ => simp [CC, rowed, st, sr, upd, hne1 rfl]
      | 12, _, hne2 =>
        show (if b < 16 ∧ σ 0 b ≠ 0 then some (Sum.inl (cy 0, 12, Sum.inl (r12 σ b))) else none) = (if b < 16 ∧ σ 0 b ≠ 0 then some (Sum.inl (cy 0, 12, Sum.inl (r12 (rowed σ g v) b))) else none)
        rw [r12_ne σ v (hne2 rfl)]
      | 13, _, _ => rfl
      | 14, _, _ => rfl
      | 15, _, _ => rfl
      | n + 16, _, _ => rfl

