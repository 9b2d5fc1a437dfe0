/-! What the law knows of the classes, and its invariant. -/
theorem law_know {s : State} {args : Array Value} (hts : ∀ w ∈ wsL_law, w.before args s = true) (ho1 : va_AO RX1 s) (ho0 : va_AO RX0 s) (ho3 : va_AO RX3 s) : ∃ (D : va_G) (cy : Nat → ClassId), va_K D vwCl (TY cy) s := by
  obtain ⟨c0, i0, k0⟩ := u_known (C := RX0) (T := TX0) (N := 5) (n := 5) hts inlX0 (hts (.instantiable RX0 5) (by decide +kernel))
  obtain ⟨c1, i1, k1⟩ := u_known (C := RX1) (T := TX1) (N := 9) (n := 9) hts inlX1 (hts (.instantiable RX1 9) (by decide +kernel))
  obtain ⟨c2, i2, k2⟩ := u_known (C := RX2) (T := TX2) (N := 2) (n := 2) hts inlX2 (hts (.instantiable RX2 2) (by decide +kernel))
  obtain ⟨c3, i3, k3⟩ := u_known (C := RX3) (T := TX3) (N := 4) (n := 4) hts inlX3 (hts (.instantiable RX3 4) (by decide +kernel))
  obtain ⟨c4, i4, k4⟩ := u_known (C := RX4) (T := TX4) (N := 11) (n := 11) hts inlX4 (hts (.instantiable RX4 11) (by decide +kernel))
  obtain ⟨c5, i5, k5⟩ := u_known (C := RX5) (T := TX5) (N := 30) (n := 30) hts inlX5 (hts (.instantiable RX5 30) (by decide +kernel))
  obtain ⟨a0, ka0, p0, f0, g0, e0⟩ := Cond.arrayClass_spec (hts (.arrayClass .int) (by decide +kernel))
  obtain ⟨a1, ka1, p1, f1, g1, e1⟩ := Cond.arrayClass_spec (hts (.arrayClass .boolean) (by decide +kernel))
  obtain ⟨p2, a2, ka2, n2, -, g2, e2, f2⟩ := Cond.arrayOver_spec ho1
  obtain ⟨p3, a3, ka3, n3, -, g3, e3, f3⟩ := Cond.arrayOver_spec ho0
  obtain ⟨p4, a4, ka4, n4, -, g4, e4, f4⟩ := Cond.arrayOver_spec ho3
  refine ⟨(fun c => match c with | 0 => c0 | 1 => c1 | 2 => c2 | 3 => c3 | 4 => c4 | _ => c5, fun c => match c with | 0 => i0 | 1 => i1 | 2 => i2 | 3 => i3 | 4 => i4 | _ => i5), fun k => match k with | 0 => a0 | 1 => a1 | 2 => a2 | 3 => a3 | _ => a4, ?_, ?_⟩
  · intro c q hq
    match c, hq with
    | 0, hq => cases hq; exact k0
    | 1, hq => cases hq; exact k1
    | 2, hq => cases hq; exact k2
    | 3, hq => cases hq; exact k3
    | 4, hq => cases hq; exact k4
    | 5, hq => cases hq; exact k5
    | n + 6, hq => simp [vwCl] at hq
  · intro k q hq
    match k, hq with
    | 0, hq => cases hq; exact ⟨fun N z => ⟨(fun k h => by cases h), ka0, g0, p0, e0⟩, f0⟩
    | 1, hq => cases hq; exact ⟨fun N z => ⟨(fun k h => by cases h), ka1, g1, p1, e1⟩, f1⟩
    | 2, hq => cases hq; exact ⟨fun N z => ⟨(fun k h => by cases h), ka2, g2, p2, e2⟩, ka2, p2, g2, e2, n2, f2⟩
    | 3, hq => cases hq; exact ⟨fun N z => ⟨(fun k h => by cases h), ka3, g3, p3, e3⟩, ka3, p3, g3, e3, n3, f3⟩
    | 4, hq => cases hq; exact ⟨fun N z => ⟨(fun k h => by cases h), ka4, g4, p4, e4⟩, ka4, p4, g4, e4, n4, f4⟩
    | n + 5, hq => simp [TY] at hq
theorem PW.none {D : va_G} {A : Nat → Prop} {α : AD} {H : Heap} : PW D A α (fun _ _ => none) H := ⟨fun _ _ _ h => (by cases h), fun _ _ _ _ _ _ h => (by cases h)⟩
theorem PW.ren {D : va_G} {A : Nat → Prop} {α β : AD} {X : CF} {H : Heap} (h : PW D A α X H) (he : ∀ k i e, X k i = some e → β k i = α k i) : PW D A β X H := by
  refine ⟨fun k i e hk => ?_, fun k i e k2 i2 e2 hk hk2 hE => ?_⟩
  · rw [he k i e hk]; exact h.1 k i e hk
  · rw [he k i e hk, he k2 i2 e2 hk2] at hE; exact h.2 _ _ _ _ _ _ hk hk2 hE
/-- names ahead that the world does not look at -/
theorem cc_ahead {cy : Nat → ClassId} {σ : SG} {α β : AD} (h : ∀ k, k < 16 → β k = α k) : CC cy σ β = CC cy σ α := by
  have hG : ∀ g, fsG σ β g = fsG σ α g := fun g => by simp only [fsG, h 11 (by decide)]
  have hC : ∀ c, fsC σ β c = fsC σ α c := fun c => by simp only [fsC, h 10 (by decide)]
  have hT : ∀ t, fsT σ β t = fsT σ α t := fun t => by simp only [fsT, h 15 (by decide)]
  have h1 : qG σ β = qG σ α := by funext g; simp only [qG, h 10 (by decide)]
  have h2 : qC σ β = qC σ α := by funext g; simp only [qC, h 13 (by decide)]
  have h3 : qT σ β = qT σ α := by funext g; simp only [qT, h 14 (by decide)]
  funext x y
  match x with
  | 0 => simp only [CC, fsP, h 1 (by decide), h 2 (by decide), h 3 (by decide), h 4 (by decide), h 5 (by decide), h 6 (by decide)]
  | 1 => simp only [CC, h1]
  | 2 => simp only [CC, h2]
  | 3 => simp only [CC, h3]
  | 4 => simp only [CC, h 7 (by decide)]
  | 5 => simp only [CC, h 8 (by decide)]
  | 6 => simp only [CC, h 9 (by decide)]
  | 7 => rfl
  | 8 => rfl
  | 9 => rfl
  | 10 => simp only [CC, hG]
  | 11 => simp only [CC, h 12 (by decide)]
  | 12 => rfl
  | 13 => simp only [CC, hC]
  | 14 => simp only [CC, hT]
  | 15 => rfl
  | n + 16 => rfl
theorem cc_low {cy : Nat → ClassId} {σ : SG} {α : AD} {k i : Nat} {e : va_E} (h : CC cy σ α k i = some e) : k < 16 := by
  apply Classical.byContradiction
  intro hk
  obtain ⟨n, rfl⟩ : ∃ n, k = n + 16 := ⟨k - 16, by omega⟩
  cases h
theorem pw_ahead {D : va_G} {A : Nat → Prop} {cy : Nat → ClassId} {σ : SG} {α β : AD} {H : Heap} (h : PW D A α (CC cy σ α) H) (he : ∀ k, k < 16 → β k = α k) : PW D A β (CC cy σ β) H := by
  rw [cc_ahead he]
  exact h.ren (fun k i e hk => by rw [he k (cc_low hk)])
theorem cA_live {σ : SG} {c j : Nat} (h : okC σ c) (h0 : σ 0 j = 0) : cA σ c ≠ j ∧ cB σ c ≠ j := by
  obtain ⟨⟨a, h1, h2, h3⟩, -, -, h6⟩ := h
  have ha : cN (σ 14 c) = a := cN_of h2 (by omega)
  have hj : a ≠ j := fun q => h3 (by rw [q]; exact h0)
  unfold cA cB
  rw [ha]
  refine ⟨hj, ?_⟩
  split
  · exact hj
  · rename_i hn
    rcases h6 with ⟨q, -⟩ | ⟨b, q1, q2, q3⟩
    · exact absurd q hn
    · rw [cN_of q2 (by omega)]
      exact fun q => q3 (by rw [q]; exact h0)
theorem cc_dead {cy : Nat → ClassId} {σ : SG} {α β : AD} {j : Nat} (hC : ∀ c, c < 24 → σ 11 c ≠ 0 → okC σ c) (h0 : σ 0 j = 0) (he : ∀ k i, ¬ ((k = 10 ∨ k = 11 ∨ k = 12) ∧ i = j) → β k i = α k i) : CC cy σ β = CC cy σ α := by
  have hk : ∀ k, k ≠ 10 → k ≠ 11 → k ≠ 12 → β k = α k := fun k a b c => by
    funext i; exact he k i (fun q => by omega)
  have hi : ∀ k i, i ≠ j → β k i = α k i := fun k i h => he k i (fun q => h q.2)
  have h1 : qG σ β = qG σ α := by
    funext g
    unfold qG
    by_cases hg : σ 0 g = 0
    · rw [if_pos hg, if_pos hg]
    · rw [if_neg hg, if_neg hg, hi 10 g (fun q => hg (by rw [q]; exact h0))]
  have h2 : qC σ β = qC σ α := by funext g; simp only [qC, hk 13 (by decide) (by decide) (by decide)]
  have h3 : qT σ β = qT σ α := by funext g; simp only [qT, hk 14 (by decide) (by decide) (by decide)]
  have hT : ∀ t, fsT σ β t = fsT σ α t := fun t => by simp only [fsT, hk 15 (by decide) (by decide) (by decide)]
  funext x y
  match x with
  | 0 => simp only [CC, fsP, hk 1 (by decide) (by decide) (by decide), hk 2 (by decide) (by decide) (by decide), hk 3 (by decide) (by decide) (by decide), hk 4 (by decide) (by decide) (by decide), hk 5 (by decide) (by decide) (by decide), hk 6 (by decide) (by decide) (by decide)]
  | 1 => simp only [CC, h1]
  | 2 => simp only [CC, h2]
  | 3 => simp only [CC, h3]
  | 4 => simp only [CC, hk 7 (by decide) (by decide) (by decide)]
  | 5 => simp only [CC, hk 8 (by decide) (by decide) (by decide)]
  | 6 => simp only [CC, hk 9 (by decide) (by decide) (by decide)]
  | 7 => rfl
  | 8 => rfl
  | 9 => rfl
  | 10 =>
    by_cases hc : y < 16 ∧ σ 0 y ≠ 0
    · rw [cc_10 hc.1 hc.2, cc_10 hc.1 hc.2]
      simp only [fsG, hi 11 y (fun q => hc.2 (by rw [q]; exact h0))]
    · simp only [CC, if_neg hc]
  | 11 =>
    by_cases hc : y < 16 ∧ σ 0 y ≠ 0
    · rw [cc_11 hc.1 hc.2, cc_11 hc.1 hc.2, hi 12 y (fun q => hc.2 (by rw [q]; exact h0))]
    · simp only [CC, if_neg hc]
  | 12 => rfl
  | 13 =>
    by_cases hc : y < 24 ∧ σ 11 y ≠ 0
    · rw [cc_13 hc.1 hc.2, cc_13 hc.1 hc.2]
      obtain ⟨q1, q2⟩ := cA_live (hC y hc.1 hc.2) h0
      simp only [fsC, hi 10 _ q1, hi 10 _ q2]
    · simp only [CC, if_neg hc]
  | 14 => simp only [CC, hT]
  | 15 => rfl
  | n + 16 => rfl
theorem cc_live {cy : Nat → ClassId} {σ : SG} {α : AD} {k i j : Nat} {e : va_E} (h0 : σ 0 j = 0) (h : CC cy σ α k i = some e) : ¬ ((k = 10 ∨ k = 11 ∨ k = 12) ∧ i = j) := by
  rintro ⟨hk, rfl⟩
  rcases hk with rfl | rfl | rfl <;> simp [CC, h0] at h
theorem pw_dead {D : va_G} {A : Nat → Prop} {cy : Nat → ClassId} {σ : SG} {α β : AD} {H : Heap} {j : Nat} (h : PW D A α (CC cy σ α) H) (hC : ∀ c, c < 24 → σ 11 c ≠ 0 → okC σ c) (h0 : σ 0 j = 0) (he : ∀ k i, ¬ ((k = 10 ∨ k = 11 ∨ k = 12) ∧ i = j) → β k i = α k i) : PW D A β (CC cy σ β) H := by
  rw [cc_dead hC h0 he]
  exact h.ren (fun k i e hk => he k i (cc_live h0 hk))
