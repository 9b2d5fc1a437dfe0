/-! names ahead of the calls that make cells -/
theorem pw_make {D : va_G} {A : Nat → Prop} {cy : Nat → ClassId} {σ : SG} {α : AD} {H : Heap} (h : PW D A α (CC cy σ α) H) (hC : ∀ c, c < 24 → σ 11 c ≠ 0 → okC σ c) (g : Int32) (n : Nat) : ∃ β : AD, β 0 0 = α 0 0 ∧ PW D A β (CC cy σ β) H ∧ ∀ j, j < 16 → g = nI j → σ 0 j = 0 → β 10 j = n ∧ β 11 j = n + 1 ∧ β 12 j = n + 1 + 1 := by
  by_cases hj : ∃ j, j < 16 ∧ g = nI j ∧ σ 0 j = 0
  · obtain ⟨j, h1, h2, h3⟩ := hj
    refine ⟨fun k i => if (k = 10 ∨ k = 11 ∨ k = 12) ∧ i = j then n + (k - 10) else α k i, by simp, pw_dead h hC h3 (fun k i hn => if_neg hn), fun i q1 q2 q3 => ?_⟩
    have hij : i = j := by
      have e2 := congrArg Int32.toNatClampNeg (q2.symm.trans h2)
      rwa [nI_clamp (by omega), nI_clamp (by omega)] at e2
    subst hij
    refine ⟨?_, ?_, ?_⟩ <;> simp
  · exact ⟨α, rfl, h, fun j q1 q2 q3 => absurd ⟨j, q1, q2, q3⟩ hj⟩
theorem pw_cond {D : va_G} {A : Nat → Prop} {cy : Nat → ClassId} {σ : SG} {α : AD} {H : Heap} (h : PW D A α (CC cy σ α) H) (n : Nat) : ∃ β : AD, β 0 0 = α 0 0 ∧ PW D A β (CC cy σ β) H ∧ ∀ j, β 18 j = n :=
  ⟨fun k i => if k = 18 then n else α k i, by simp, pw_ahead h (fun k hk => by funext i; show (if k = 18 then n else α k i) = α k i; rw [if_neg (by omega)]), fun j => by simp⟩
theorem pw_tripn {D : va_G} {A : Nat → Prop} {cy : Nat → ClassId} {σ : SG} {α : AD} {H : Heap} (h : PW D A α (CC cy σ α) H) (n : Nat) : ∃ β : AD, β 0 0 = α 0 0 ∧ PW D A β (CC cy σ β) H ∧ ∀ j, β 16 j = n ∧ β 17 j = n + 1 :=
  ⟨fun k i => if k = 16 then n else if k = 17 then n + 1 else α k i, by simp, pw_ahead h (fun k hk => by funext i; show (if k = 16 then n else if k = 17 then n + 1 else α k i) = α k i; rw [if_neg (by omega), if_neg (by omega)]), fun j => by simp⟩
