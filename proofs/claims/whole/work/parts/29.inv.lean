/-! What always holds stays so behind every call. -/
theorem okG_of {σ τ : SG} (e0 : τ 0 = σ 0) (e5 : τ 5 = σ 5) (e8 : τ 8 = σ 8) (e9 : τ 9 = σ 9) (e10 : τ 10 = σ 10) (h : ∀ g, g < 16 → okG σ g) : ∀ g, g < 16 → okG τ g := by
  intro g hg
  unfold okG
  rw [e0, e5, e8, e9, e10]
  exact h g hg
theorem okC_of {σ τ : SG} (e0 : ∀ a, σ 0 a ≠ 0 → τ 0 a ≠ 0) {c : Nat} (e : ∀ r, 12 ≤ r → r ≤ 16 → τ r c = σ r c) (h : okC σ c) : okC τ c := by
  obtain ⟨⟨a, h1, h2, h3⟩, h4, h5, h6⟩ := h
  unfold okC
  rw [e 12 (by omega) (by omega), e 13 (by omega) (by omega), e 14 (by omega) (by omega), e 15 (by omega) (by omega), e 16 (by omega) (by omega)]
  exact ⟨⟨a, h1, h2, e0 a h3⟩, h4, h5, h6.elim Or.inl (fun ⟨b, q1, q2, q3⟩ => Or.inr ⟨b, q1, q2, e0 b q3⟩)⟩
theorem okCs_of {σ τ : SG} (e0 : ∀ a, σ 0 a ≠ 0 → τ 0 a ≠ 0) (e : ∀ r, 11 ≤ r → r ≤ 16 → τ r = σ r) (h : ∀ c, c < 24 → σ 11 c ≠ 0 → okC σ c) : ∀ c, c < 24 → τ 11 c ≠ 0 → okC τ c := by
  intro c hc hd
  rw [e 11 (by omega) (by omega)] at hd
  exact okC_of e0 (fun r h1 h2 => by rw [e r (by omega) h2]) (h c hc hd)
theorem okT_of {σ τ : SG} (e11 : ∀ c, σ 11 c ≠ 0 → τ 11 c ≠ 0) {t : Nat} (e17 : τ 17 t = σ 17 t) (e18 : τ 18 t = σ 18 t) (e19 : ∀ k, k < 6 → τ 19 (6 * t + k) = σ 19 (6 * t + k)) (e30 : ∀ k, k < 6 → τ 30 (6 * t + k) = σ 30 (6 * t + k)) (h : okT σ t) : okT τ t := by
  obtain ⟨h1, n, h2, h3, h4⟩ := h
  unfold okT
  rw [e17, e18]
  refine ⟨h1, n, h2, h3, fun k hk => ?_⟩
  obtain ⟨⟨c, q1, q2, q3⟩, q4⟩ := h4 k hk
  rw [e19 k (by omega), e30 k (by omega)]
  exact ⟨⟨c, q1, q2, e11 c q3⟩, q4⟩
theorem okTs_of {σ τ : SG} (e11 : ∀ c, σ 11 c ≠ 0 → τ 11 c ≠ 0) (e : ∀ r, 17 ≤ r → r ≤ 20 → τ r = σ r) (e30 : τ 30 = σ 30) (h : ∀ t, t < 8 → σ 20 t ≠ 0 → okT σ t) : ∀ t, t < 8 → τ 20 t ≠ 0 → okT τ t := by
  intro t ht hd
  rw [e 20 (by omega) (by omega)] at hd
  exact okT_of e11 (by rw [e 17 (by omega) (by omega)]) (by rw [e 18 (by omega) (by omega)]) (fun k _ => by rw [e 19 (by omega) (by omega)]) (fun k _ => by rw [e30]) (h t ht hd)
theorem okE_of {σ τ : SG} {b : Nat} (e29 : τ 29 = σ 29) (e31 : τ 31 = σ 31) (h : okE σ b) : okE τ b := by
  unfold okE
  rw [e29, e31]
  exact h
theorem inv_sr {σ : SG} {b k : Nat} {f : Nat → Int32} (hk : k ≠ 0 ∧ k ≠ 5 ∧ k ≠ 8 ∧ k ≠ 9 ∧ k ≠ 10 ∧ (k < 11 ∨ 20 < k) ∧ k ≠ 29 ∧ k ≠ 30 ∧ k ≠ 31) (h : Inv σ b) : Inv (sr σ k f) b := by
  have e : ∀ r, r ≠ k → sr σ k f r = σ r := fun r hr => sr_ne hr
  exact ⟨okG_of (e 0 (by omega)) (e 5 (by omega)) (e 8 (by omega)) (e 9 (by omega)) (e 10 (by omega)) h.1, okCs_of (fun a ha => by rw [e 0 (by omega)]; exact ha) (fun r h1 h2 => e r (by omega)) h.2.1, okTs_of (fun c hc => by rw [e 11 (by omega)]; exact hc) (fun r h1 h2 => e r (by omega)) (e 30 (by omega)) h.2.2.1, okE_of (e 29 (by omega)) (e 31 (by omega)) h.2.2.2⟩
theorem inv_st {σ : SG} {b k j : Nat} {v : Int32} (hk : k ≠ 0 ∧ k ≠ 5 ∧ k ≠ 8 ∧ k ≠ 9 ∧ k ≠ 10 ∧ (k < 11 ∨ 20 < k) ∧ k ≠ 29 ∧ k ≠ 30 ∧ k ≠ 31) (h : Inv σ b) : Inv (st σ k j v) b := inv_sr hk h
theorem inv_g {σ τ : SG} {b j : Nat} (h : Inv σ b) (e : ∀ r, r ≠ 5 → r ≠ 8 → r ≠ 9 → r ≠ 10 → τ r = σ r) (hj : σ 0 j ≠ 0) (hn : j < 16 → ∃ n, n ≤ 12 ∧ τ 10 j = nI n) (eo : ∀ g, g ≠ j → τ 5 g = σ 5 g ∧ τ 8 g = σ 8 g ∧ τ 10 g = σ 10 g ∧ ∀ p, p < 12 → τ 9 (12 * g + p) = σ 9 (12 * g + p)) : Inv τ b := by
  refine ⟨fun g hg => ?_, okCs_of (fun a ha => by rw [e 0 (by omega) (by omega) (by omega) (by omega)]; exact ha) (fun r h1 h2 => e r (by omega) (by omega) (by omega) (by omega)) h.2.1, okTs_of (fun c hc => by rw [e 11 (by omega) (by omega) (by omega) (by omega)]; exact hc) (fun r h1 h2 => e r (by omega) (by omega) (by omega) (by omega)) (e 30 (by omega) (by omega) (by omega) (by omega)) h.2.2.1, okE_of (e 29 (by omega) (by omega) (by omega) (by omega)) (e 31 (by omega) (by omega) (by omega) (by omega)) h.2.2.2⟩
  by_cases hgj : g = j
  · subst hgj
    refine ⟨hn hg, fun q => ?_⟩
    rw [e 0 (by omega) (by omega) (by omega) (by omega)] at q
    exact absurd q hj
  · obtain ⟨o5, o8, o10, o9⟩ := eo g hgj
    obtain ⟨q1, q2⟩ := h.1 g hg
    unfold okG
    rw [e 0 (by omega) (by omega) (by omega) (by omega), o5, o8, o10]
    exact ⟨q1, fun q => ⟨(q2 q).1, (q2 q).2.1, (q2 q).2.2.1, fun p hp => by rw [o9 p hp]; exact (q2 q).2.2.2 p hp⟩⟩
theorem inv_noted {σ : SG} {b j : Nat} (h : Inv σ b) (hj : j < 16) (hm : σ 0 j ≠ 0) : Inv (noted σ j) b := by
  refine inv_g (j := j) h (fun r h5 h8 h9 h10 => by simp [noted, st, sr, h9, h10]) hm (fun _ => ?_) (fun g hg => ?_)
  · obtain ⟨⟨n, hn, e⟩, -⟩ := h.1 j hj
    have e10 : noted σ j 10 j = if σ 10 j < 12 then σ 10 j + 1 else 12 := by simp [noted, st, sr, upd]
    rw [e10, e]
    by_cases hl : n < 12
    · exact ⟨n + 1, by omega, by rw [if_pos (show nI n < 12 from (nI_ltI (b := 12) (by omega) (by omega)).mpr hl), nI_1]⟩
    · exact ⟨12, by omega, by rw [if_neg (show ¬ nI n < 12 from fun q => hl ((nI_ltI (b := 12) (by omega) (by omega)).mp q))]; rfl⟩
  · refine ⟨by simp [noted, st, sr], by simp [noted, st, sr], by simp [noted, st, sr, upd, hg], fun p hp => ?_⟩
    have e9 : noted σ j 9 (12 * g + p) = shR (σ 9) (12 * j) 12 (σ 2 j) (12 * g + p) := by simp [noted, st, sr]
    rw [e9]
    unfold shR
    rw [if_neg (by omega), if_neg (by omega)]
theorem inv_make {σ : SG} {g b : Int32} {n : Nat} (h : Inv σ n) : Inv (F_make σ g b).2 n := by
  rw [F_make]
  split
  · split
    · exact h
    · show Inv (madeS σ (cN g) b) n
      generalize cN g = j
      have e : ∀ r, r ≠ 0 ∧ r ≠ 1 ∧ r ≠ 2 ∧ r ≠ 3 ∧ r ≠ 4 ∧ r ≠ 6 ∧ r ≠ 7 → madeS σ j b r = σ r := fun r hr => madeS_row σ j b hr
      have e0 : madeS σ j b 0 j = 1 := by simp [madeS, st, sr, upd]
      have m0 : ∀ a, σ 0 a ≠ 0 → madeS σ j b 0 a ≠ 0 := fun a ha => by
        by_cases hq : a = j
        · rw [hq, e0]; decide
        · rw [madeS_ne σ b 0 hq]; exact ha
      refine ⟨fun a ha => ?_, okCs_of m0 (fun r h1 h2 => e r (by omega)) h.2.1, okTs_of (fun c hc => by rw [e 11 (by omega)]; exact hc) (fun r h1 h2 => e r (by omega)) (e 30 (by omega)) h.2.2.1, okE_of (e 29 (by omega)) (e 31 (by omega)) h.2.2.2⟩
      obtain ⟨q1, q2⟩ := h.1 a ha
      unfold okG
      rw [e 5 (by omega), e 8 (by omega), e 9 (by omega), e 10 (by omega)]
      refine ⟨q1, fun q => q2 ?_⟩
      apply Classical.byContradiction
      intro hc
      exact m0 a hc q
  · exact h
theorem inv_limit {σ : SG} {g b n : Int32} {N : Nat} (h : Inv σ N) : Inv (F_limit σ g b n).2 N := by
  rw [F_limit]
  split
  · split
    · exact h
    · show Inv (if b = 0 then _ else _) N
      split
      · exact inv_st (by omega) h
      · exact inv_st (by omega) h
  · exact h
theorem inv_open {σ : SG} {g b : Int32} {N : Nat} (h : Inv σ N) : Inv (F_open σ g b).2 N := by
  rw [F_open]
  split
  · exact h
  · split
    · exact inv_st (by omega) h
    · exact inv_st (by omega) h
theorem inv_band {σ : SG} {g n : Int32} {N : Nat} (h : Inv σ N) : Inv (F_band σ g n).2 N := by
  rw [F_band]
  split
  · exact h
  · cases hx : gx σ g with
    | none => exact h
    | some j =>
      obtain ⟨hj, -, hm⟩ := ix_some (by decide) hx
      show Inv (st σ 5 j n) N
      refine inv_g (j := j) h (fun r h5 _ _ _ => st_ne h5) hm (fun _ => ?_) (fun a ha => ⟨st_ne2 ha, by rw [st_ne (by decide)], by rw [st_ne (by decide)], fun p _ => by rw [st_ne (by decide)]⟩)
      rw [st_ne (by decide)]
      exact (h.1 j hj).1
theorem inv_tookG {σ : SG} {j : Nat} {n hh : Int32} {N : Nat} (h : Inv σ N) : Inv (tookG σ j n hh) N := by
  unfold tookG
  split
  · exact inv_st (by omega) h
  · split
    · exact h
    · have h1 : Inv (st σ 2 j n) N := inv_st (by omega) h
      have h2 : Inv (mk6 (st σ 2 j n) j n) N := by
        unfold mk6
        split
        · exact inv_st (by omega) h1
        · exact h1
      unfold mk7
      split
      · exact inv_st (by omega) h2
      · exact h2
theorem inv_tookC {σ : SG} {hh : Int32} {N : Nat} (h : Inv σ N) : Inv (tookC σ hh) N := by
  unfold tookC
  split
  · exact inv_st (by omega) h
  · split
    · exact inv_st (by omega) h
    · exact inv_st (by omega) h
theorem tookG_0 (σ : SG) (j : Nat) (n hh : Int32) : tookG σ j n hh 0 = σ 0 := by
  unfold tookG mk7 mk6
  repeat' split
  all_goals simp [st, sr]
theorem tookC_0 (σ : SG) (hh : Int32) : tookC σ hh 0 = σ 0 := by
  unfold tookC
  repeat' split
  all_goals simp [st, sr]
theorem inv_take {σ : SG} {g n : Int32} {N : Nat} (h : Inv σ N) : Inv (F_take σ g n).2 N := by
  rw [F_take]
  split
  · cases hx : gx σ g with
    | none => exact h
    | some j =>
      obtain ⟨hj, -, hm⟩ := ix_some (by decide) hx
      exact inv_noted (inv_tookC (inv_tookG h)) hj (by rw [tookC_0, tookG_0]; exact hm)
  · exact h
theorem inv_gap {σ : SG} {g : Int32} {N : Nat} (h : Inv σ N) : Inv (F_gap σ g).2 N := by
  rw [F_gap]
  cases hx : gx σ g with
  | none => exact h
  | some j =>
    obtain ⟨hj, -, hm⟩ := ix_some (by decide) hx
    exact inv_noted (inv_st (by omega) h) hj (by rw [st_ne (by decide)]; exact hm)
theorem inv_clear {σ : SG} {g : Int32} {N : Nat} (h : Inv σ N) : Inv (F_clear σ g).2 N := by
  rw [F_clear]
  cases hx : gx σ g with
  | none => exact h
  | some j =>
    obtain ⟨hj, -, hm⟩ := ix_some (by decide) hx
    have h2 : Inv (st (st σ 6 j gp) 7 j gp) N := inv_st (by omega) (inv_st (by omega) h)
    show Inv (st (st (st σ 6 j gp) 7 j gp) 10 j 0) N
    refine inv_g (j := j) h2 (fun r _ _ _ h10 => st_ne h10) (by rw [st_ne (by decide), st_ne (by decide)]; exact hm) (fun _ => ⟨0, by omega, st_same _ _ _ _⟩) (fun a ha => ⟨by rw [st_ne (by decide)], by rw [st_ne (by decide)], st_ne2 ha, fun p _ => by rw [st_ne (by decide)]⟩)
theorem inv_defs {σ : SG} {j : Nat} {rel a b n tu : Int32} {N : Nat} (h : Inv σ N) (ht : tu = 0 ∨ tu = 1) (hr : isRel rel) (ha : ∃ i, i < 16 ∧ a = nI i ∧ σ 0 i ≠ 0) (hb : (b = -1 ∧ isNum n) ∨ ∃ i, i < 16 ∧ b = nI i ∧ σ 0 i ≠ 0) : Inv (defs σ j rel a b n tu) N := by
  have e : ∀ r, r < 11 ∨ 16 < r → defs σ j rel a b n tu r = σ r := fun r hr => defs_row σ j rel a b n tu (by omega)
  have e11 : ∀ c, σ 11 c ≠ 0 → defs σ j rel a b n tu 11 c ≠ 0 := fun c hc => by
    by_cases hq : c = j
    · subst hq
      have : defs σ c rel a b n tu 11 c = 1 := by simp [defs, st, sr, upd]
      rw [this]; decide
    · rw [defs_ne σ rel a b n tu 11 hq]; exact hc
  refine ⟨okG_of (e 0 (by omega)) (e 5 (by omega)) (e 8 (by omega)) (e 9 (by omega)) (e 10 (by omega)) h.1, fun c hc hd => ?_, okTs_of e11 (fun r h1 h2 => e r (by omega)) (e 30 (by omega)) h.2.2.1, okE_of (e 29 (by omega)) (e 31 (by omega)) h.2.2.2⟩
  by_cases hq : c = j
  · subst hq
    have x12 : defs σ c rel a b n tu 12 c = tu := by simp [defs, st, sr, upd]
    have x13 : defs σ c rel a b n tu 13 c = rel := by simp [defs, st, sr, upd]
    have x14 : defs σ c rel a b n tu 14 c = a := by simp [defs, st, sr, upd]
    have x15 : defs σ c rel a b n tu 15 c = b := by simp [defs, st, sr, upd]
    have x16 : defs σ c rel a b n tu 16 c = n := by simp [defs, st, sr, upd]
    unfold okC
    rw [x12, x13, x14, x15, x16, e 0 (by omega)]
    exact ⟨ha, hr, ht, hb⟩
  · rw [defs_ne σ rel a b n tu 11 hq] at hd
    exact okC_of (fun a ha => by rw [e 0 (by omega)]; exact ha) (fun r _ _ => defs_ne σ rel a b n tu r hq) (h.2.1 c hc hd)
theorem inv_between {σ : SG} {c rel a b tu : Int32} {N : Nat} (ht : tu = 0 ∨ tu = 1) (h : Inv σ N) : Inv (F_between σ c rel a b tu).2 N := by
  rw [F_between]
  split
  · rename_i hc
    cases hx : gx σ a with
    | none => exact h
    | some i =>
      cases hy : gx σ b with
      | none => exact h
      | some k =>
        obtain ⟨x1, x2, x3⟩ := ix_some (by decide) hx
        obtain ⟨y1, y2, y3⟩ := ix_some (by decide) hy
        exact inv_defs h ht hc.2 ⟨i, x1, x2, x3⟩ (Or.inr ⟨k, y1, y2, y3⟩)
  · exact h
theorem inv_level {σ : SG} {c rel a n tu : Int32} {N : Nat} (ht : tu = 0 ∨ tu = 1) (h : Inv σ N) : Inv (F_level σ c rel a n tu).2 N := by
  rw [F_level]
  split
  · rename_i hc
    cases hx : gx σ a with
    | none => exact h
    | some i =>
      obtain ⟨x1, x2, x3⟩ := ix_some (by decide) hx
      exact inv_defs h ht hc.2.1 ⟨i, x1, x2, x3⟩ (Or.inl ⟨rfl, hc.2.2⟩)
  · exact h
theorem inv_trip {σ : SG} {t v : Int32} {N : Nat} (h : Inv σ N) : Inv (F_trip σ t v).2 N := by
  rw [F_trip]
  split
  · rename_i hc
    show Inv (tripped0 σ (cN t) v) N
    generalize cN t = j
    have e : ∀ r, r ≠ 17 ∧ r ≠ 18 ∧ r ≠ 20 ∧ r ≠ 21 ∧ r ≠ 30 → tripped0 σ j v r = σ r := fun r hr => tripped0_row σ j v hr
    refine ⟨okG_of (e 0 (by omega)) (e 5 (by omega)) (e 8 (by omega)) (e 9 (by omega)) (e 10 (by omega)) h.1, okCs_of (fun a ha => by rw [e 0 (by omega)]; exact ha) (fun r h1 h2 => e r (by omega)) h.2.1, fun i hi hd => ?_, okE_of (e 29 (by omega)) (e 31 (by omega)) h.2.2.2⟩
    by_cases hq : i = j
    · subst hq
      have x17 : tripped0 σ i v 17 i = v := by simp [tripped0, st, sr, upd]
      have x18 : tripped0 σ i v 18 i = 0 := by simp [tripped0, st, sr, upd]
      unfold okT
      rw [x17, x18]
      exact ⟨hc.2, 0, by omega, rfl, fun k hk => absurd hk (by omega)⟩
    · rw [tripped0_ne σ v 20 (by decide) hq] at hd
      refine okT_of (fun c hc => by rw [e 11 (by omega)]; exact hc) (tripped0_ne σ v 17 (by decide) hq) (tripped0_ne σ v 18 (by decide) hq) (fun k _ => by rw [e 19 (by omega)]) (fun k hk => ?_) (h.2.2.1 i hi hd)
      have e30 : tripped0 σ j v 30 (6 * i + k) = if 6 * j ≤ 6 * i + k ∧ 6 * i + k < 6 * j + 6 then 0 else σ 30 (6 * i + k) := by simp [tripped0, sr]
      rw [e30, if_neg (by omega)]
  · exact h
theorem inv_reset {σ : SG} {t : Int32} {N : Nat} (h : Inv σ N) : Inv (F_reset σ t).2 N := by
  rw [F_reset]
  split
  · exact h
  · split
    · exact inv_st (by omega) h
    · exact h
theorem inv_0 : Inv σ0 0 := by
  refine ⟨fun g _ => ⟨⟨0, by omega, rfl⟩, fun _ => ⟨rfl, rfl, rfl, fun _ _ => rfl⟩⟩, fun c _ hd => absurd rfl hd, fun t _ hd => absurd rfl hd, ⟨0, by omega, rfl, rfl, rfl, rfl⟩⟩
theorem inv_part {σ : SG} {t c : Int32} {N : Nat} (h : Inv σ N) : Inv (F_part σ t c).2 N := by
  rw [F_part]
  cases hx : tx σ t with
  | none => exact h
  | some i =>
    cases hy : cx σ c with
    | none => exact h
    | some d =>
      obtain ⟨hi, -, hm⟩ := ix_some (by decide) hx
      obtain ⟨hd, hcd, hn⟩ := ix_some (by decide) hy
      show Inv (if σ 18 i = 6 then (-1, σ) else _).2 N
      by_cases h6 : σ 18 i = 6
      · rw [if_pos h6]; exact h
      · rw [if_neg h6]
        obtain ⟨⟨v1, v2⟩, n, hn6, e18, hk⟩ := h.2.2.1 i hi hm
        have hn5 : n < 6 := by
          apply Classical.byContradiction
          intro q
          have : n = 6 := by omega
          subst this
          exact h6 e18
        have hc18 : cN (σ 18 i) = n := cN_of e18 (by omega)
        rw [hc18]
        show Inv (st (st (st σ 19 (6 * i + n) c) 18 i (σ 18 i + 1)) 30 (6 * i + n) c) N
        generalize hτ : st (st (st σ 19 (6 * i + n) c) 18 i (σ 18 i + 1)) 30 (6 * i + n) c = τ
        have e : ∀ r, r ≠ 18 → r ≠ 19 → r ≠ 30 → τ r = σ r := fun r h1 h2 h3 => by
          rw [← hτ, st_ne h3, st_ne h1, st_ne h2]
        have e18a : ∀ a, a ≠ i → τ 18 a = σ 18 a := fun a ha => by
          rw [← hτ, st_ne (by decide), st_ne2 ha, st_ne (by decide)]
        have e18i : τ 18 i = nI (n + 1) := by
          rw [← hτ, st_ne (by decide), st_same, e18, nI_1]
        have e19a : ∀ a, a ≠ 6 * i + n → τ 19 a = σ 19 a := fun a ha => by
          rw [← hτ, st_ne (by decide), st_ne (by decide), st_ne2 ha]
        have e30a : ∀ a, a ≠ 6 * i + n → τ 30 a = σ 30 a := fun a ha => by
          rw [← hτ, st_ne2 ha, st_ne (by decide), st_ne (by decide)]
        have e19n : τ 19 (6 * i + n) = c := by
          rw [← hτ, st_ne (by decide), st_ne (by decide), st_same]
        have e30n : τ 30 (6 * i + n) = c := by
          rw [← hτ, st_same]
        refine ⟨okG_of (e 0 (by omega) (by omega) (by omega)) (e 5 (by omega) (by omega) (by omega)) (e 8 (by omega) (by omega) (by omega)) (e 9 (by omega) (by omega) (by omega)) (e 10 (by omega) (by omega) (by omega)) h.1, okCs_of (fun a ha => by rw [e 0 (by omega) (by omega) (by omega)]; exact ha) (fun r h1 h2 => e r (by omega) (by omega) (by omega)) h.2.1, fun u hu hd2 => ?_, okE_of (e 29 (by omega) (by omega) (by omega)) (e 31 (by omega) (by omega) (by omega)) h.2.2.2⟩
        rw [e 20 (by omega) (by omega) (by omega)] at hd2
        by_cases hq : u = i
        · subst hq
          unfold okT
          rw [e 17 (by omega) (by omega) (by omega)]
          refine ⟨⟨v1, v2⟩, n + 1, by omega, e18i, fun k hk1 => ?_⟩
          rw [e 11 (by omega) (by omega) (by omega)]
          by_cases hkn : k = n
          · subst hkn
            rw [e19n, e30n]
            exact ⟨⟨d, hd, hcd, hn⟩, rfl⟩
          · rw [e19a _ (by omega), e30a _ (by omega)]
            exact hk k (by omega)
        · exact okT_of (fun c hc => by rw [e 11 (by omega) (by omega) (by omega)]; exact hc) (by rw [e 17 (by omega) (by omega) (by omega)]) (e18a u hq) (fun k hk2 => e19a _ (by omega)) (fun k hk2 => e30a _ (by omega)) (h.2.2.1 u hu hd2)
theorem inv_aged {σ : SG} {N : Nat} (h : Inv σ N) : Inv (aged σ) N := by
  have e : ∀ r, r ≠ 25 → r ≠ 8 → aged σ r = σ r := fun r h1 h2 => by
    unfold aged; rw [sr_ne h2, st_ne h1]
  refine ⟨fun g hg => ?_, okCs_of (fun a ha => by rw [e 0 (by omega) (by omega)]; exact ha) (fun r h1 h2 => e r (by omega) (by omega)) h.2.1, okTs_of (fun c hc => by rw [e 11 (by omega) (by omega)]; exact hc) (fun r h1 h2 => e r (by omega) (by omega)) (e 30 (by omega) (by omega)) h.2.2.1, okE_of (e 29 (by omega) (by omega)) (e 31 (by omega) (by omega)) h.2.2.2⟩
  obtain ⟨q1, q2⟩ := h.1 g hg
  unfold okG
  rw [e 0 (by omega) (by omega), e 5 (by omega) (by omega), e 9 (by omega) (by omega), e 10 (by omega) (by omega)]
  refine ⟨q1, fun q => ⟨(q2 q).1, ?_, (q2 q).2.2⟩⟩
  have e8 : aged σ 8 g = if g < 16 then (if σ 0 g ≠ 0 ∧ σ 2 g = gp then σ 8 g + 1 else 0) else σ 8 g := by simp [aged, sr]
  rw [e8, if_pos hg, if_neg (fun w => w.1 q)]
theorem gho_at (σ : SG) {i n : Nat} (hi : i < 3) (h : σ 31 i = nI (min n 20)) : gho σ 31 i = nI (min (n + 1) 20) := by
  have e : gho σ 31 i = if σ 31 i < 20 then σ 31 i + 1 else σ 31 i := by simp [gho, sr, hi]
  rw [e, h]
  by_cases hn : n < 20
  · rw [if_pos (show nI (min n 20) < 20 from (nI_ltI (b := 20) (by omega) (by omega)).mpr (by omega)), nI_1, show min n 20 + 1 = min (n + 1) 20 by omega]
  · rw [if_neg (show ¬ nI (min n 20) < 20 from fun q => absurd ((nI_ltI (a := min n 20) (b := 20) (by omega) (by omega)).mp q) (by omega)), show min n 20 = min (n + 1) 20 by omega]
theorem inv_evs {σ : SG} {t N : Nat} (h : Inv σ N) : Inv (evs σ t) (N + 1) := by
  have e : ∀ r, r ≠ 22 → r ≠ 23 → r ≠ 24 → r ≠ 29 → r ≠ 31 → evs σ t r = σ r := fun r h1 h2 h3 h4 h5 => by
    unfold evs gho evA
    rw [sr_ne h5, st_ne h4, sr_ne h3, sr_ne h2, sr_ne h1]
  refine ⟨okG_of (e 0 (by omega) (by omega) (by omega) (by omega) (by omega)) (e 5 (by omega) (by omega) (by omega) (by omega) (by omega)) (e 8 (by omega) (by omega) (by omega) (by omega) (by omega)) (e 9 (by omega) (by omega) (by omega) (by omega) (by omega)) (e 10 (by omega) (by omega) (by omega) (by omega) (by omega)) h.1, okCs_of (fun a ha => by rw [e 0 (by omega) (by omega) (by omega) (by omega) (by omega)]; exact ha) (fun r h1 h2 => e r (by omega) (by omega) (by omega) (by omega) (by omega)) h.2.1, okTs_of (fun c hc => by rw [e 11 (by omega) (by omega) (by omega) (by omega) (by omega)]; exact hc) (fun r h1 h2 => e r (by omega) (by omega) (by omega) (by omega) (by omega)) (e 30 (by omega) (by omega) (by omega) (by omega) (by omega)) h.2.2.1, ?_⟩
  obtain ⟨n, hn, h29, h0, h1, h2⟩ := h.2.2.2
  have x31 : ∀ i, (st (evA σ (nI t) (σ 25 0) (firstH σ t)) 29 0 (σ 29 0 + 1)) 31 i = σ 31 i := fun i => by
    unfold evA
    rw [st_ne (by decide), sr_ne (by decide), sr_ne (by decide), sr_ne (by decide)]
  refine ⟨n + 1, by omega, ?_, gho_at _ (by decide) ((x31 0).trans h0), gho_at _ (by decide) ((x31 1).trans h1), gho_at _ (by decide) ((x31 2).trans h2)⟩
  unfold evs gho
  rw [sr_ne (by decide), st_same, h29, nI_1]
theorem inv_more {σ : SG} {N M : Nat} (h : Inv σ N) (hM : N ≤ M) : Inv σ M := by
  obtain ⟨h1, h2, h3, n, hn, h4⟩ := h
  exact ⟨h1, h2, h3, n, by omega, h4⟩
theorem inv_scN {σ : SG} {N : Nat} (h : Inv σ N) : ∀ t, Inv (scN σ t).2 (N + t)
  | 0 => inv_aged h
  | t + 1 => by
    rw [scN]
    split
    · exact inv_evs (inv_st (by omega) (inv_scN h t))
    · exact inv_more (inv_scN h t) (by omega)
theorem inv_scan {σ : SG} {N : Nat} (h : Inv σ N) : Inv (F_scan σ).2 (N + 8) := inv_scN h 8
