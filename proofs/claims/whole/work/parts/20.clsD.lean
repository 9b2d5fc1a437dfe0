theorem cc_a15 {cy : Nat → ClassId} {σ : SG} {α : AD} {g p : Nat} {v : Int32} (hg : g < 8) (hm : σ 20 g ≠ 0) (hp : p < 6) : pw_up (CC cy σ α) 15 g (.inl (cy 0, 6, .inl (upd (r6 σ g) p v))) = CC cy (st σ 30 (6 * g + p) v) α := by
  funext a b
  by_cases hab : a = 15 ∧ b = g
  · obtain ⟨rfl, rfl⟩ := hab
    rw [pw_up_self]
    have e : upd (r6 σ b) p v = r6 (st σ 30 (6 * b + p) v) b := by
      funext q
      show (if q = p then v else (if q < 6 then σ 30 (6 * b + q) else 0)) = (if q < 6 then (if 6 * b + q = 6 * b + p then v else σ 30 (6 * b + q)) else 0)
      by_cases h : q = p
      · subst h; rw [if_pos rfl, if_pos hp, if_pos rfl]
      · have h2 : ¬ 6 * b + q = 6 * b + p := by omega
        rw [if_neg h, if_neg h2]
    rw [e]
    exact (cc_15 (σ := st σ 30 (6 * b + p) v) hg hm).symm
  · rw [pw_up_ne hab]
    have hne : a = 15 → b ≠ g := fun h q => hab ⟨h, q⟩
    match a, hne with
    | 0, _ => rfl
    | 1, _ => rfl
    | 2, _ => rfl
    | 3, _ => rfl
    | 4, _ => rfl
    | 5, _ => rfl
    | 6, _ => rfl
    | 7, _ => rfl
    | 8, _ => rfl
    | 9, _ => rfl
    | 10, _ => rfl
    | 11, _ => rfl
    | 12, _ => rfl
    | 13, _ => rfl
    | 14, _ => rfl
    | 15, hne =>
      show (if b < 8 ∧ σ 20 b ≠ 0 then some (Sum.inl (cy 0, 6, Sum.inl (r6 σ b))) else none) = (if b < 8 ∧ σ 20 b ≠ 0 then some (Sum.inl (cy 0, 6, Sum.inl (r6 (st σ 30 (6 * g + p) v) b))) else none)
      have e : r6 (st σ 30 (6 * g + p) v) b = r6 σ b := by
        funext q
        show (if q < 6 then (if 6 * b + q = 6 * g + p then v else σ 30 (6 * b + q)) else 0) = (if q < 6 then σ 30 (6 * b + q) else 0)
        have := hne rfl
        by_cases h : q < 6
        · have h2 : ¬ 6 * b + q = 6 * g + p := by omega
          rw [if_pos h, if_pos h, if_neg h2]
        · rw [if_neg h, if_neg h]
      rw [e]
    | n + 16, _ => rfl
theorem cc_19 {cy : Nat → ClassId} {σ : SG} {α : AD} {f : Nat → Int32} : CC cy (sr σ 19 f) α = CC cy σ α := by
  funext a b
  match a with
  | 0 => rfl
  | 1 => rfl
  | 2 => rfl
  | 3 => rfl
  | 4 => rfl
  | 5 => rfl
  | 6 => rfl
  | 7 => rfl
  | 8 => rfl
  | 9 => rfl
  | 10 => rfl
  | 11 => rfl
  | 12 => rfl
  | 13 => rfl
  | 14 => rfl
  | 15 => rfl
  | n + 16 => rfl
theorem st_comm (σ : SG) {k k2 : Nat} (i j : Nat) (v w : Int32) (h : k ≠ k2) : st (st σ k i v) k2 j w = st (st σ k2 j w) k i v := by
  funext x
  by_cases h1 : x = k
  · subst h1; simp [st, sr, h, Ne.symm h]
  · by_cases h2 : x = k2
    · subst h2; simp [st, sr, h1, h]
    · simp [st, sr, h1, h2]
def addP (σ : SG) (i : Nat) (v : Int32) : SG := if σ 18 i = 6 then σ else st (st σ 30 (6 * i + cN (σ 18 i)) v) 18 i (σ 18 i + 1)
def cb (σ : SG) (h g : Nat) (b : Int32) : Bool := if σ 2 h = gp then decide (σ 2 g = gp ∧ b ≠ 0) else if σ 2 g = gp then true else rd (σ 1 h) (σ 2 h) (if b = 0 then 2 else 3) (σ 1 g) (σ 2 g)
theorem cb_ahd (σ : SG) (h g : Nat) {b : Int32} (hb : b = if h < g then 1 else 0) : cb σ h g b = (decide (h ≠ g) && ahd σ h g) := by
  unfold cb ahd
  by_cases hh : σ 2 h = gp
  · rw [if_pos hh, if_pos (Or.inl hh), if_pos hh, hb]
    by_cases hl : h < g
    · have hn : h ≠ g := by omega
      by_cases hg : σ 2 g = gp <;> simp [hl, hn, hg]
    · by_cases hg : σ 2 g = gp <;> simp [hl, hg]
  · by_cases hg : σ 2 g = gp
    · have hn : h ≠ g := fun q => hh (by rw [q]; exact hg)
      rw [if_neg hh, if_pos hg, if_pos (Or.inr hg), if_neg hh]
      simp [hn]
    · have hno : ¬ (σ 2 h = gp ∨ σ 2 g = gp) := fun q => q.elim hh hg
      rw [if_neg hh, if_neg hg, if_neg hno, rd_val hh hg, hb]
      by_cases hl : h < g
      · have hn : h ≠ g := by omega
        simp [hl, hn, rl]
      · by_cases hn : h = g
        · subst hn
          simp [rl, dc_self (vl_fin _ _)]
        · simp [hl, hn, rl]
theorem ahN_nn (σ : SG) (g : Nat) : ∀ h, ∃ m, m ≤ h ∧ ahN σ g h = nI m
  | 0 => ⟨0, Nat.le_refl 0, rfl⟩
  | h + 1 => by
    obtain ⟨m, hm, e⟩ := ahN_nn σ g h
    rw [ahN, e]
    cases (decide (h ≠ g ∧ σ 0 h ≠ 0) && ahd σ h g)
    · exact ⟨m, by omega, Int32.add_zero _⟩
    · exact ⟨m + 1, by omega, nI_1 m⟩
theorem ord_neg (σ : SG) {k : Int32} (hk : k < 0) : ∀ n g, ordN σ k n g = -1
  | 0, _ => rfl
  | n + 1, g => by
    rw [ordN, if_neg, ord_neg σ hk n]
    intro q
    obtain ⟨m, hm, e⟩ := ahN_nn σ g 16
    rw [e] at q
    rw [← q.2] at hk
    exact nI_pos (by omega) hk
theorem ev_eq {σ : SG} {k x : Int32} {n : Nat} {f : Nat → Int32} (hn : n < 2 ^ 31) (h29 : σ 29 0 = nI n) (hx : x = nI (min n 20)) : (if 0 ≤ k ∧ k < x ∧ k < nI 20 then f (cN k) else -1) = (if k < 0 ∨ 20 ≤ k ∨ σ 29 0 ≤ k then -1 else f (cN k)) := by
  by_cases h0 : k < 0
  · rw [if_pos (Or.inl h0), if_neg (fun q => absurd q.1 (Int32.not_le.mpr h0))]
  · by_cases h20 : 20 ≤ k
    · rw [if_pos (Or.inr (Or.inl h20)), if_neg (fun q => absurd q.2.2 (Int32.not_lt.mpr h20))]
    · obtain ⟨j, hj, rfl⟩ := in_j (n := 20) (by decide) ⟨Int32.not_lt.mp h0, Int32.not_le.mp h20⟩
      by_cases hl : σ 29 0 ≤ nI j
      · rw [if_pos (Or.inr (Or.inr hl)), if_neg]
        intro q
        rw [h29] at hl
        have h1 := (nI_leI hn (by omega)).mp hl
        have h2 := q.2.1
        rw [hx] at h2
        have h3 := (nI_ltI (by omega) (by omega)).mp h2
        omega
      · have hno : ¬ (nI j < 0 ∨ 20 ≤ nI j ∨ σ 29 0 ≤ nI j) := fun q => q.elim h0 (fun q => q.elim h20 hl)
        rw [if_neg hno, if_pos]
        refine ⟨Int32.not_lt.mp h0, ?_, Int32.not_le.mp h20⟩
        rw [hx]
        rw [h29] at hl
        have h1 : j < n := ilt (by omega) hn hl
        exact nI_lt (by omega) (by omega)
theorem cc_ag {cy : Nat → ClassId} {τ : SG} {α : AD} {f f' : Nat → Int32} (h : ∀ g, g < 16 → τ 0 g ≠ 0 → f g = f' g) : CC cy (sr τ 8 f) α = CC cy (sr τ 8 f') α := by
  funext a b
  match a with
  | 0 => rfl
  | 1 => rfl
  | 2 => rfl
  | 3 => rfl
  | 4 => rfl
  | 5 => rfl
  | 6 => rfl
  | 7 => rfl
  | 8 => rfl
  | 9 => rfl
  | 10 =>
    show (if b < 16 ∧ τ 0 b ≠ 0 then some (Sum.inr (1, fsG (sr τ 8 f) α b)) else none) = (if b < 16 ∧ τ 0 b ≠ 0 then some (Sum.inr (1, fsG (sr τ 8 f') α b)) else none)
    by_cases hc : b < 16 ∧ τ 0 b ≠ 0
    · have e : fsG (sr τ 8 f) α b = fsG (sr τ 8 f') α b := by
        simp [fsG, sr, h b hc.1 hc.2]
      rw [e]
    · rw [if_neg hc, if_neg hc]
  | 11 => rfl
  | 12 => rfl
  | 13 => rfl
  | 14 => rfl
  | 15 => rfl
  | n + 16 => rfl
theorem cc_ev0 {cy : Nat → ClassId} {σ : SG} {α : AD} {f : Nat → Int32} {v : Int32} : LW (CC cy σ α) cy α 4 0 7 0 20 f v = CC cy (st (sr σ 22 f) 31 0 v) α := by
  funext a b
  unfold LW
  by_cases h1 : a = 4 ∧ b = 0
  · obtain ⟨rfl, rfl⟩ := h1
    rw [pw_up_self]; rfl
  · rw [pw_up_ne h1]
    by_cases h2 : a = 7 ∧ b = 0
    · obtain ⟨rfl, rfl⟩ := h2
      rw [pw_up_self]; rfl
    · rw [pw_up_ne h2]
      match a, h1, h2 with
      | 0, _, _ => rfl
      | 1, _, _ => rfl
      | 2, _, _ => rfl
      | 3, _, _ => rfl
      | 4, h1, h2 => simp [CC, show b ≠ 0 from fun q => h1 ⟨rfl, q⟩]
      | 5, _, _ => rfl
      | 6, _, _ => rfl
      | 7, h1, h2 => simp [CC, show b ≠ 0 from fun q => h2 ⟨rfl, q⟩]
      | 8, _, _ => rfl
      | 9, _, _ => rfl
      | 10, _, _ => rfl
      | 11, _, _ => rfl
      | 12, _, _ => rfl
      | 13, _, _ => rfl
      | 14, _, _ => rfl
      | 15, _, _ => rfl
      | n + 16, _, _ => rfl
theorem cc_ev1 {cy : Nat → ClassId} {σ : SG} {α : AD} {f : Nat → Int32} {v : Int32} : LW (CC cy σ α) cy α 5 0 8 0 20 f v = CC cy (st (sr σ 23 f) 31 1 v) α := by
  funext a b
  unfold LW
  by_cases h1 : a = 5 ∧ b = 0
  · obtain ⟨rfl, rfl⟩ := h1
    rw [pw_up_self]; rfl
  · rw [pw_up_ne h1]
    by_cases h2 : a = 8 ∧ b = 0
    · obtain ⟨rfl, rfl⟩ := h2
      rw [pw_up_self]; rfl
    · rw [pw_up_ne h2]
      match a, h1, h2 with
      | 0, _, _ => rfl
      | 1, _, _ => rfl
      | 2, _, _ => rfl
      | 3, _, _ => rfl
      | 4, _, _ => rfl
      | 5, h1, h2 => simp [CC, show b ≠ 0 from fun q => h1 ⟨rfl, q⟩]
      | 6, _, _ => rfl
      | 7, _, _ => rfl
      | 8, h1, h2 => simp [CC, show b ≠ 0 from fun q => h2 ⟨rfl, q⟩]
      | 9, _, _ => rfl
      | 10, _, _ => rfl
      | 11, _, _ => rfl
      | 12, _, _ => rfl
      | 13, _, _ => rfl
      | 14, _, _ => rfl
      | 15, _, _ => rfl
      | n + 16, _, _ => rfl
theorem cc_ev2 {cy : Nat → ClassId} {σ : SG} {α : AD} {f : Nat → Int32} {v : Int32} : LW (CC cy σ α) cy α 6 0 9 0 20 f v = CC cy (st (sr σ 24 f) 31 2 v) α := by
  funext a b
  unfold LW
  by_cases h1 : a = 6 ∧ b = 0
  · obtain ⟨rfl, rfl⟩ := h1
    rw [pw_up_self]; rfl
  · rw [pw_up_ne h1]
    by_cases h2 : a = 9 ∧ b = 0
    · obtain ⟨rfl, rfl⟩ := h2
      rw [pw_up_self]; rfl
    · rw [pw_up_ne h2]
      match a, h1, h2 with
      | 0, _, _ => rfl
      | 1, _, _ => rfl
      | 2, _, _ => rfl
      | 3, _, _ => rfl
      | 4, _, _ => rfl
      | 5, _, _ => rfl
      | 6, h1, h2 => simp [CC, show b ≠ 0 from fun q => h1 ⟨rfl, q⟩]
      | 7, _, _ => rfl
      | 8, _, _ => rfl
      | 9, h1, h2 => simp [CC, show b ≠ 0 from fun q => h2 ⟨rfl, q⟩]
      | 10, _, _ => rfl
      | 11, _, _ => rfl
      | 12, _, _ => rfl
      | 13, _, _ => rfl
      | 14, _, _ => rfl
      | 15, _, _ => rfl
      | n + 16, _, _ => rfl
theorem ev_sig (σ : SG) (a b c : Int32) : st (st (sr (st (sr (st (sr σ 22 (shR (σ 22) 0 20 a)) 31 0 (if σ 31 0 < 20 then σ 31 0 + 1 else σ 31 0)) 23 (shR (σ 23) 0 20 b)) 31 1 (if σ 31 1 < 20 then σ 31 1 + 1 else σ 31 1)) 24 (shR (σ 24) 0 20 c)) 31 2 (if σ 31 2 < 20 then σ 31 2 + 1 else σ 31 2)) 29 0 (σ 29 0 + 1) = gho (st (evA σ a b c) 29 0 (σ 29 0 + 1)) := by
  funext x
  by_cases h31 : x = 31
  · subst h31
    funext i
    by_cases i0 : i = 0
    · subst i0; rfl
    · by_cases i1 : i = 1
      · subst i1; rfl
      · by_cases i2 : i = 2
        · subst i2; rfl
        · have i3 : ¬ i < 3 := by omega
          simp [gho, evA, st, sr, upd, i0, i1, i2, i3]
  · by_cases h24 : x = 24
    · subst h24; rfl
    · by_cases h23 : x = 23
      · subst h23; rfl
      · by_cases h22 : x = 22
        · subst h22; rfl
        · by_cases h29 : x = 29
          · subst h29; rfl
          · simp [gho, evA, st, sr, h31, h24, h23, h22, h29]
theorem cc_part {cy : Nat → ClassId} {σ : SG} {α : AD} {f : Nat → Int32} {i a : Nat} {v w : Int32} : CC cy (st (st (sr σ 19 f) 18 i v) 30 a w) α = CC cy (st (st σ 30 a w) 18 i v) α := by
  rw [st_comm σ a i w v (by decide)]
  funext x b
  match x with
  | 0 => rfl
  | 1 => rfl
  | 2 => rfl
  | 3 => rfl
  | 4 => rfl
  | 5 => rfl
  | 6 => rfl
  | 7 => rfl
  | 8 => rfl
  | 9 => rfl
  | 10 => rfl
  | 11 => rfl
  | 12 => rfl
  | 13 => rfl
  | 14 => rfl
  | 15 => rfl
  | n + 16 => rfl

set_option maxHeartbeats 4000000 in
set_option maxRecDepth 100000 in
theorem c_X3_partAt (l : Launch) (D : va_G) (cy : Nat → ClassId) (A : Nat → Prop) (α : AD) (σ : SG) (i : Nat) (hi : i < 8) (hmt : σ 20 i ≠ 0) (pp : Int32) : Met l yX3_partAt wsX3_partAt ({ frames := 0, cells := 0, slots := 0, locals := 0 } : Room) (va_Pc [.ref (α 14 i), .int pp] (PB D cy A α (CC cy σ α))) (vp_Si (fun r => r = if 0 ≤ pp ∧ pp < 6 then r6 σ i (cN pp) else -1)) 0 0 (fun _ => False) := by
  refine Met.ofW (cc := cX3_partAt) (maxL := 2) (ret := (some .int)) (by decide) rfl ?_
  intro p e s m args below meth c s₁ B hml hv
  obtain ⟨rfl, hP, hK⟩ := hv
  have hx := B.exec
  have hb := B.bytes
  have hr := B.returns
  have hts := atoms_spec (ws := wsX3_partAt) B.pre
  have hown : s.vm.findClass RX3 = some m.cls := findClass_of_methodNamed B.named
  have hlocks := B.notSynchronized
  have hiX3 : ∀ w ∈ wsX30, w ∈ wsX3_partAt := by decide +kernel
  have hl := lv_entry ([.ref (α 14 i), .int pp]) (n := 2) (Nat.le_of_ble_eq_true rfl)
  rw [lg_entry_eq]
  generalize (lg_sl ([.ref (α 14 i), .int pp]) ++ List.replicate (2 - (lg_sl ([.ref (α 14 i), .int pp])).length) Slot.unset).toArray = ls at hl ⊢
  have hl : lv_has ls 2 [(0, .ref (α 14 i)), (1, .int pp)] := hl
  refine lv_iload_n hx hb dX3_partAt_0 rfl (lv_at hl 1 rfl) ?_
  refine lv_if_lt (x := pp) (tgt := 22) hx hb dX3_partAt_1 (by decide) (fun c1 => ?_) (fun c1 => ?_)
  · refine lv_iconst (v := (-1)) hx hb dX3_partAt_22 (by decide) ?_
    exact W.iret (v := (-1)) hx hb hr (fun t ht hW => ⟨_, rfl, (by rw [if_neg (fun q => absurd q.1 (Int32.not_le.mpr c1))]), ht⟩) (fun q hq => absurd hq List.not_mem_nil) dX3_partAt_23
  · refine lv_iload_n hx hb dX3_partAt_4 rfl (lv_at hl 1 rfl) ?_
    refine lv_aload_n hx hb dX3_partAt_5 rfl (lv_at hl 0 rfl) ?_
    refine pw_get (ref := "TripPanel$Trip") (C := RX3) (T := TX3) (N := 4) (ci := 3) (fs := (fsT σ α i)) (v := .ref (α 15 i)) hx hb hts hiX3 hown hK hP (cc_14 hi hmt) rfl 1 (by decide) (by decide +kernel) rfl rfl dX3_partAt_6 ?_
    refine pw_alen (t0 := 0) (v := 6) hx hb hK hP rfl (cc_15 hi hmt) rfl dX3_partAt_9 ?_
    refine lv_icmp_ge (x := pp) (y := 6) (tgt := 22) hx hb dX3_partAt_10 (by decide) (fun c10 => ?_) (fun c10 => ?_)
    · refine lv_iconst (v := (-1)) hx hb dX3_partAt_22 (by decide) ?_
      exact W.iret (v := (-1)) hx hb hr (fun t ht hW => ⟨_, rfl, (by rw [if_neg (fun q => absurd q.2 (Int32.not_lt.mpr c10))]), ht⟩) (fun q hq => absurd hq List.not_mem_nil) dX3_partAt_23
    · obtain ⟨pj, hpl, hpj⟩ := in_j (n := 6) (x := pp) (by decide) ⟨Int32.not_lt.mp c1, Int32.not_le.mp c10⟩
      refine lv_aload_n hx hb dX3_partAt_13 rfl (lv_at hl 0 rfl) ?_
      refine pw_get (ref := "TripPanel$Trip") (C := RX3) (T := TX3) (N := 4) (ci := 3) (fs := (fsT σ α i)) (v := .ref (α 15 i)) hx hb hts hiX3 hown hK hP (cc_14 hi hmt) rfl 1 (by decide) (by decide +kernel) rfl rfl dX3_partAt_14 ?_
      refine lv_iload_n hx hb dX3_partAt_17 rfl (lv_at hl 1 rfl) ?_
      refine pw_iald (n := 6) (f := (r6 σ i)) hx hb hK hP (cc_15 hi hmt) pj hpj hpl (by decide) dX3_partAt_18 ?_
      refine lv_goto (tgt := 23) hx hb dX3_partAt_19 (by decide) ?_
      exact W.iret (v := (r6 σ i pj)) hx hb hr (fun t ht hW => ⟨_, rfl, (by rw [if_pos ⟨Int32.not_lt.mp c1, Int32.not_le.mp c10⟩, cN_of hpj (by omega)]), ht⟩) (fun q hq => absurd hq List.not_mem_nil) dX3_partAt_23

set_option maxHeartbeats 4000000 in
set_option maxRecDepth 100000 in
theorem c_X3_addPart (l : Launch) (D : va_G) (cy : Nat → ClassId) (A : Nat → Prop) (α : AD) (σ : SG) (i : Nat) (hi : i < 8) (hmt : σ 20 i ≠ 0) (v : Int32) (np : Nat) (hnp : np ≤ 6) (h18 : σ 18 i = nI np) : Met l yX3_addPart wsX3_addPart ({ frames := 0, cells := 0, slots := 0, locals := 0 } : Room) (va_Pc [.ref (α 14 i), .int v] (PB D cy A α (CC cy σ α))) (va_Qi (fun (r : Int32) (u : Unit) => (r = 0 ∧ σ 18 i = 6) ∨ (r = 1 ∧ ¬ σ 18 i = 6)) (fun u t => PW D A α (CC cy (addP σ i v) α) t.heap) A) 0 0 A := by
  refine Met.ofW (cc := cX3_addPart) (maxL := 2) (ret := (some .boolean)) (by decide) rfl ?_
  intro p e s m args below meth c s₁ B hml hv
  obtain ⟨rfl, hP, hK⟩ := hv
  have hx := B.exec
  have hb := B.bytes
  have hr := B.returns
  have hts := atoms_spec (ws := wsX3_addPart) B.pre
  have hown : s.vm.findClass RX3 = some m.cls := findClass_of_methodNamed B.named
  have hlocks := B.notSynchronized
  have hiX3 : ∀ w ∈ wsX30, w ∈ wsX3_addPart := by decide +kernel
  have hS : va_S A s.heap s.heap [] := va_S.rf
  have hl := lv_entry ([.ref (α 14 i), .int v]) (n := 2) (Nat.le_of_ble_eq_true rfl)
  rw [lg_entry_eq]
  generalize (lg_sl ([.ref (α 14 i), .int v]) ++ List.replicate (2 - (lg_sl ([.ref (α 14 i), .int v])).length) Slot.unset).toArray = ls at hl ⊢
  have hl : lv_has ls 2 [(0, .ref (α 14 i)), (1, .int v)] := hl
  skip
  refine lv_aload_n hx hb dX3_addPart_0 rfl (lv_at hl 0 rfl) ?_
  refine pw_get (ref := "TripPanel$Trip") (C := RX3) (T := TX3) (N := 4) (ci := 3) (fs := (fsT σ α i)) (v := .int (σ 18 i)) hx hb hts hiX3 hown hK hP (cc_14 hi hmt) rfl 2 (by decide) (by decide +kernel) rfl rfl dX3_addPart_1 ?_
  refine lv_aload_n hx hb dX3_addPart_4 rfl (lv_at hl 0 rfl) ?_
  refine pw_get (ref := "TripPanel$Trip") (C := RX3) (T := TX3) (N := 4) (ci := 3) (fs := (fsT σ α i)) (v := .ref (α 15 i)) hx hb hts hiX3 hown hK hP (cc_14 hi hmt) rfl 1 (by decide) (by decide +kernel) rfl rfl dX3_addPart_5 ?_
  refine pw_alen (t0 := 0) (v := 6) hx hb hK hP rfl (cc_15 hi hmt) rfl dX3_addPart_8 ?_
  refine lv_icmp_lt (x := (σ 18 i)) (y := 6) (tgt := 14) hx hb dX3_addPart_9 (by decide) (fun c9 => ?_) (fun c9 => ?_)
  · have hn6 : np < 6 := by rw [h18] at c9; exact (nI_ltI (by omega) (by decide)).mp (show nI np < nI 6 from c9)
    have h6 : ¬ σ 18 i = 6 := by rw [h18]; intro q; have := (nI_eq (by omega) (by decide)).mp (show nI np = nI 6 from q); omega
    refine lv_aload_n hx hb dX3_addPart_14 rfl (lv_at hl 0 rfl) ?_
    refine pw_get (ref := "TripPanel$Trip") (C := RX3) (T := TX3) (N := 4) (ci := 3) (fs := (fsT σ α i)) (v := .ref (α 15 i)) hx hb hts hiX3 hown hK hP (cc_14 hi hmt) rfl 1 (by decide) (by decide +kernel) rfl rfl dX3_addPart_15 ?_
    refine lv_aload_n hx hb dX3_addPart_18 rfl (lv_at hl 0 rfl) ?_
    refine pw_get (ref := "TripPanel$Trip") (C := RX3) (T := TX3) (N := 4) (ci := 3) (fs := (fsT σ α i)) (v := .int (σ 18 i)) hx hb hts hiX3 hown hK hP (cc_14 hi hmt) rfl 2 (by decide) (by decide +kernel) rfl rfl dX3_addPart_19 ?_
    refine lv_iload_n hx hb dX3_addPart_22 rfl (lv_at hl 1 rfl) ?_
    refine pw_iast (n := 6) (f := (r6 σ i)) hx hb hK hP hS (cc_15 hi hmt) np h18 hn6 (by decide) dX3_addPart_23 (fun H locs hP hz hS => ?_)
    rw [cc_a15 (σ := σ) hi hmt hn6] at hP
    refine lv_aload_n hx hb dX3_addPart_24 rfl (lv_at hl 0 rfl) ?_
    refine lv_dup hx hb dX3_addPart_25 rfl ?_
    refine pw_get (ref := "TripPanel$Trip") (C := RX3) (T := TX3) (N := 4) (ci := 3) (fs := (fsT (st σ 30 (6 * i + np) v) α i)) (v := .int (σ 18 i)) hx hb hts hiX3 hown hK hP (cc_14 hi hmt) rfl 2 (by decide) (by decide +kernel) rfl rfl dX3_addPart_26 ?_
    refine lv_iconst (v := 1) hx hb dX3_addPart_29 (by decide) ?_
    refine lv_iadd hx hb dX3_addPart_30 ?_
    refine pw_put (ref := "TripPanel$Trip") (C := RX3) (T := TX3) (N := 4) (ci := 3) (fs := (fsT (st σ 30 (6 * i + np) v) α i)) (v := .int ((σ 18 i) + 1)) (ty := .int) hx hb hts hiX3 tyX3 tyX3_ok nmX3 hown hK hP hS (cc_14 hi hmt) rfl 2 (by decide) (by decide +kernel) rfl rfl (by decide +kernel) rfl rfl (Nat.le_of_ble_eq_true rfl) dX3_addPart_31 (fun H locs hP hz hS => ?_)
    rw [cc_t18 (σ := st σ 30 (6 * i + np) v) hi hmt] at hP
    refine lv_iconst (v := 1) hx hb dX3_addPart_34 (by decide) ?_
    exact W.zret (v := 1) hx hb hr rfl (fun t ht hW => ⟨⟨_, (), rfl, (Or.inr ⟨rfl, h6⟩), by dsimp only; rw [ht]; exact (by rw [show addP σ i v = _ from if_neg h6, cN_of h18 (by omega)]; exact hP)⟩, hS.F ht⟩) hS.2.2 dX3_addPart_35
  · have h6 : σ 18 i = 6 := by have h := ige (N := 6) (i := np) (by omega) (by decide) (by rw [← h18]; exact Int32.not_lt.mp c9); rw [h18, show np = 6 by omega]; rfl
    refine lv_iconst (v := 0) hx hb dX3_addPart_12 (by decide) ?_
    exact W.zret (v := 0) hx hb hr rfl (fun t ht hW => ⟨⟨_, (), rfl, (Or.inl ⟨rfl, h6⟩), by dsimp only; rw [ht]; exact (by rw [show addP σ i v = σ from if_pos h6]; exact hP)⟩, hS.F ht⟩) hS.2.2 dX3_addPart_13

set_option maxHeartbeats 4000000 in
set_option maxRecDepth 100000 in
theorem c_X4_isHolding (l : Launch) (D : va_G) (cy : Nat → ClassId) (A : Nat → Prop) (α : AD) (σ : SG) (x : Int32) (cj : Nat) (hx0 : x = nI cj) (hcj : cj < 24) (hmc : σ 11 cj ≠ 0) (hC : ∀ c, c < 24 → σ 11 c ≠ 0 → okC σ c) : Met l yX4_isHolding wsX4_isHolding ({ frames := 3, cells := 0, slots := 0, locals := 69 } : Room) (va_Pc [.ref (α 0 0), .int x] (PB D cy A α (CC cy σ α))) (vp_Si (fun r => bq r (held σ cj = true))) 0 0 (fun _ => False) := by
  refine Met.ofW (cc := cX4_isHolding) (maxL := 3) (ret := (some .boolean)) (by decide) rfl ?_
  intro p e s m args below meth c s₁ B hml hv
  obtain ⟨rfl, hP, hK⟩ := hv
  have hx := B.exec
  have hb := B.bytes
  have hr := B.returns
  have hts := atoms_spec (ws := wsX4_isHolding) B.pre
  have hown : s.vm.findClass RX4 = some m.cls := findClass_of_methodNamed B.named
  have hlocks := B.notSynchronized
  have hiX4 : ∀ w ∈ wsX40, w ∈ wsX4_isHolding := by decide +kernel
  have hl := lv_entry ([.ref (α 0 0), .int x]) (n := 3) (Nat.le_of_ble_eq_true rfl)
  rw [lg_entry_eq]
  generalize (lg_sl ([.ref (α 0 0), .int x]) ++ List.replicate (3 - (lg_sl ([.ref (α 0 0), .int x])).length) Slot.unset).toArray = ls at hl ⊢
  have hl : lv_has ls 3 [(0, .ref (α 0 0)), (1, .int x)] := hl
  refine lv_aload_n hx hb dX4_isHolding_0 rfl (lv_at hl 0 rfl) ?_
  refine lv_iload_n hx hb dX4_isHolding_1 rfl (lv_at hl 1 rfl) ?_
  refine va_csq (W.runV (As := [.int x]) (rest := []) ⟨hx, hb, hml, hown, hts⟩ (c_X4_conditionAt l D cy A α σ x) (cwV 1 hts gX4_isHolding_X4_conditionAt rfl rfl rfl (by decide +kernel) ⟨Nat.le_of_ble_eq_true rfl, Nat.le_of_ble_eq_true rfl⟩) ⟨pb_blind, pw_recv hP hK cc_0 rfl, pb_pre hP hK⟩ rfl rfl hl.1 rfl (lv_room (Nat.le_of_ble_eq_true rfl)) dX4_isHolding_2 ⟨Nat.le_of_ble_eq_true rfl, Nat.le_of_ble_eq_true rfl⟩) (fun r hw => ?_)
  rcases hw with ⟨j1, hx2, hj3, hg4, hm5, rfl⟩ | ⟨rfl, h6⟩
  · refine lv_astore_n (lv' := [(2, .ref (α 13 j1)), (0, .ref (α 0 0)), (1, .int x)]) hx hb dX4_isHolding_5 rfl hl (by decide) rfl (fun ls hl => ?_)
    refine lv_aload_n hx hb dX4_isHolding_6 rfl (lv_at hl 0 rfl) ?_
    refine lv_ifnull hx hb dX4_isHolding_7 ?_
    refine lv_aload_n hx hb dX4_isHolding_10 rfl (lv_at hl 0 rfl) ?_
    refine vp_callSi (W.runV (As := []) (rest := []) ⟨hx, hb, hml, hown, hts⟩ (c_X0_isMet l D cy A α σ j1 hj3 hm5 (hC j1 hj3 hm5)) (cwV 0 hts gX4_isHolding_X0_isMet rfl rfl rfl (by decide +kernel) ⟨Nat.le_of_ble_eq_true rfl, Nat.le_of_ble_eq_true rfl⟩) ⟨pb_blind, pw_recv hP hK (cc_13 hj3 hm5) rfl, pb_pre hP hK⟩ rfl rfl hl.1 rfl (lv_room (Nat.le_of_ble_eq_true rfl)) dX4_isHolding_11 ⟨Nat.le_of_ble_eq_true rfl, Nat.le_of_ble_eq_true rfl⟩) (fun r hw => ?_)
    rcases hw with ⟨rfl, h7⟩ | ⟨rfl, h7⟩
    · refine lv_if_eq (x := 1) (tgt := 21) hx hb dX4_isHolding_14 (by decide) (fun c => absurd c (by decide)) (fun c14 => ?_)
      refine lv_iconst (v := 1) hx hb dX4_isHolding_17 (by decide) ?_
      refine lv_goto (tgt := 22) hx hb dX4_isHolding_18 (by decide) ?_
      exact W.zret (v := 1) hx hb hr rfl (fun t ht hW => ⟨_, rfl, bq_t (by rw [(show j1 = cj from (nI_eq (by omega) (by omega)).mp (hg4.symm.trans hx0))] at h7; exact h7), ht⟩) (fun q hq => absurd hq List.not_mem_nil) dX4_isHolding_22
    · refine lv_if_eq (x := 0) (tgt := 21) hx hb dX4_isHolding_14 (by decide) (fun c14 => ?_) (fun c => absurd (by decide) c)
      refine lv_iconst (v := 0) hx hb dX4_isHolding_21 (by decide) ?_
      exact W.zret (v := 0) hx hb hr rfl (fun t ht hW => ⟨_, rfl, bq_f (by rw [(show j1 = cj from (nI_eq (by omega) (by omega)).mp (hg4.symm.trans hx0))] at h7; exact h7), ht⟩) (fun q hq => absurd hq List.not_mem_nil) dX4_isHolding_22
  · refine lv_astore_nN (lv' := [(2, .null), (0, .ref (α 0 0)), (1, .int x)]) hx hb dX4_isHolding_5 rfl hl (by decide) rfl (fun ls hl => ?_)
    refine lv_aload_nN hx hb dX4_isHolding_6 rfl (lv_at hl 0 rfl) ?_
    refine lv_ifnullN (tgt := 21) hx hb dX4_isHolding_7 (by decide) ?_
    refine lv_iconst (v := 0) hx hb dX4_isHolding_21 (by decide) ?_
    exact W.zret (v := 0) hx hb hr rfl (fun t ht hW => ⟨_, rfl, False.elim (by have q := ix_of (n := 24) (f := σ 11) (by decide) hcj hmc; rw [← hx0] at q; cases (h6.symm.trans q)), ht⟩) (fun q hq => absurd hq List.not_mem_nil) dX4_isHolding_22

set_option maxHeartbeats 4000000 in
set_option maxRecDepth 100000 in
theorem c_X4_countHolding (l : Launch) (D : va_G) (cy : Nat → ClassId) (A : Nat → Prop) (α : AD) (σ : SG) (i : Nat) (hi : i < 8) (hmt : σ 20 i ≠ 0) (hok : okT σ i) (hC : ∀ c, c < 24 → σ 11 c ≠ 0 → okC σ c) : Met l yX4_countHolding wsX4_countHolding ({ frames := 4, cells := 0, slots := 0, locals := 91 } : Room) (va_Pc [.ref (α 0 0), .ref (α 14 i)] (PB D cy A α (CC cy σ α))) (vp_Si (fun r => r = now σ i)) 0 0 (fun _ => False) := by
  refine Met.ofW (cc := cX4_countHolding) (maxL := 4) (ret := (some .int)) (by decide) rfl ?_
  intro p e s m args below meth c s₁ B hml hv
  obtain ⟨rfl, hP, hK⟩ := hv
  have hx := B.exec
  have hb := B.bytes
  have hr := B.returns
  have hts := atoms_spec (ws := wsX4_countHolding) B.pre
  have hown : s.vm.findClass RX4 = some m.cls := findClass_of_methodNamed B.named
  have hlocks := B.notSynchronized
  have hiX4 : ∀ w ∈ wsX40, w ∈ wsX4_countHolding := by decide +kernel
  have hiX3 : ∀ w ∈ wsX30, w ∈ wsX4_countHolding := by decide +kernel
  have hl := lv_entry ([.ref (α 0 0), .ref (α 14 i)]) (n := 4) (Nat.le_of_ble_eq_true rfl)
  rw [lg_entry_eq]
  generalize (lg_sl ([.ref (α 0 0), .ref (α 14 i)]) ++ List.replicate (4 - (lg_sl ([.ref (α 0 0), .ref (α 14 i)])).length) Slot.unset).toArray = ls at hl ⊢
  have hl : lv_has ls 4 [(0, .ref (α 0 0)), (1, .ref (α 14 i))] := hl
  obtain ⟨hv, np, hnp, h18, hpt⟩ := hok
  have L4 : ∀ (n : Nat) (k : Nat) (hn : np - k < n) (hk : k ≤ np) (ls : Array Slot) (hl : lv_has ls 4 [(0, .ref (α 0 0)), (1, .ref (α 14 i)), (2, .int (nowN σ i k)), (3, .int (nI k))]) , W p l e ({ frames := 4, cells := 0, slots := 0, locals := 91 } : Room) s m ([.ref (α 0 0), .ref (α 14 i)] : List Value).toArray below meth c s.heap [] 0 0 (MQ below (vp_Si (fun r => r = now σ i)) ([.ref (α 0 0), .ref (α 14 i)] : List Value).toArray s 0 0 (fun _ => False)) (F0 m 4 ls []) := by
    intro n
    induction n with
    | zero => intro k hn hk ls hl ; exact absurd hn (Nat.not_lt_zero _)
    | succ n ih =>
      intro k hn hk ls hl 
      refine lv_iload_n hx hb dX4_countHolding_4 rfl (lv_at hl 3 rfl) ?_
      refine lv_aload_n hx hb dX4_countHolding_5 rfl (lv_at hl 1 rfl) ?_
      refine pw_get (ref := "TripPanel$Trip") (C := RX3) (T := TX3) (N := 4) (ci := 3) (fs := (fsT σ α i)) (v := .int (σ 18 i)) hx hb hts hiX3 hown hK hP (cc_14 hi hmt) rfl 2 (by decide) (by decide +kernel) rfl rfl dX4_countHolding_6 ?_
      refine lv_icmp_ge (x := (nI k)) (y := (σ 18 i)) (tgt := 33) hx hb dX4_countHolding_9 (by decide) (fun c9 => ?_) (fun c9 => ?_)
      · have hkn : k = np := by rw [h18] at c9; exact Nat.le_antisymm hk (ige (by omega) (by omega) c9)
        refine lv_iload_n hx hb dX4_countHolding_33 rfl (lv_at hl 2 rfl) ?_
        exact W.iret (v := (nowN σ i k)) hx hb hr (fun t ht hW => ⟨_, rfl, (by rw [now, cN_of h18 (by omega), hkn]), ht⟩) (fun q hq => absurd hq List.not_mem_nil) dX4_countHolding_34
      · have hkn : k < np := by rw [h18] at c9; exact ilt (by omega) (by omega) c9
        obtain ⟨⟨cj, hcj, h19, h11⟩, h30⟩ := hpt k hkn
        refine lv_aload_n hx hb dX4_countHolding_12 rfl (lv_at hl 0 rfl) ?_
        refine lv_aload_n hx hb dX4_countHolding_13 rfl (lv_at hl 1 rfl) ?_
        refine lv_iload_n hx hb dX4_countHolding_14 rfl (lv_at hl 3 rfl) ?_
        refine vp_callSi (W.runV (As := [.int (nI k)]) (rest := [.ref (α 0 0)]) ⟨hx, hb, hml, hown, hts⟩ (c_X3_partAt l D cy A α σ i hi hmt (nI k)) (cwV 1 hts gX4_countHolding_X3_partAt rfl rfl rfl (by decide +kernel) ⟨Nat.le_of_ble_eq_true rfl, Nat.le_of_ble_eq_true rfl⟩) ⟨pb_blind, pw_recv hP hK (cc_14 hi hmt) rfl, pb_pre hP hK⟩ rfl rfl hl.1 rfl (lv_room (Nat.le_of_ble_eq_true rfl)) dX4_countHolding_15 ⟨Nat.le_of_ble_eq_true rfl, Nat.le_of_ble_eq_true rfl⟩) (fun r hw => ?_)
        have hw : r = σ 19 (6 * i + k) := by rw [hw, if_pos ⟨nI_pos' (by omega), nI_lt (show k < 6 by omega) (by decide)⟩, cN_of rfl (by omega)]; exact (if_pos (by omega)).trans h30
        subst hw
        refine vp_callSi (W.runV (As := [.int (σ 19 (6 * i + k))]) (rest := []) ⟨hx, hb, hml, hown, hts⟩ (c_X4_isHolding l D cy A α σ (σ 19 (6 * i + k)) cj h19 hcj h11 hC) (cwV 1 hts gX4_countHolding_X4_isHolding rfl rfl rfl (by decide +kernel) ⟨Nat.le_of_ble_eq_true rfl, Nat.le_of_ble_eq_true rfl⟩) ⟨pb_blind, pw_recv hP hK cc_0 rfl, pb_pre hP hK⟩ rfl rfl hl.1 rfl (lv_room (Nat.le_of_ble_eq_true rfl)) dX4_countHolding_18 ⟨Nat.le_of_ble_eq_true rfl, Nat.le_of_ble_eq_true rfl⟩) (fun r hw => ?_)
        rcases hw with ⟨rfl, h1⟩ | ⟨rfl, h1⟩
        · refine lv_if_eq (x := 1) (tgt := 27) hx hb dX4_countHolding_21 (by decide) (fun c => absurd c (by decide)) (fun c21 => ?_)
          refine lv_iinc (v := ((nowN σ i k) + 1)) (lv' := [(2, .int ((nowN σ i k) + 1)), (0, .ref (α 0 0)), (1, .ref (α 14 i)), (3, .int (nI k))]) hx hb dX4_countHolding_24 hl (k := 2) rfl rfl (by decide) rfl (fun ls hl => ?_)
          refine lv_iinc (v := (nI (k + 1))) (lv' := [(3, .int (nI (k + 1))), (2, .int ((nowN σ i k) + 1)), (0, .ref (α 0 0)), (1, .ref (α 14 i))]) hx hb dX4_countHolding_27 hl (k := 3) rfl (nI_1 _) (by decide) rfl (fun ls hl => ?_)
          refine lv_goto (tgt := 4) hx hb dX4_countHolding_30 (by decide) ?_
          have e1 : nowN σ i (k + 1) = nowN σ i k + 1 := by rw [nowN, cN_of h19 (by omega), h1]; rfl
          rw [← e1] at hl
          exact ih (k + 1) (by omega) (by omega) ls (lv_sub hl [2, 3, 1, 0] rfl)
        · refine lv_if_eq (x := 0) (tgt := 27) hx hb dX4_countHolding_21 (by decide) (fun c21 => ?_) (fun c => absurd (by decide) c)
          refine lv_iinc (v := (nI (k + 1))) (lv' := [(3, .int (nI (k + 1))), (0, .ref (α 0 0)), (1, .ref (α 14 i)), (2, .int (nowN σ i k))]) hx hb dX4_countHolding_27 hl (k := 3) rfl (nI_1 _) (by decide) rfl (fun ls hl => ?_)
          refine lv_goto (tgt := 4) hx hb dX4_countHolding_30 (by decide) ?_
          have e1 : nowN σ i (k + 1) = nowN σ i k := by rw [nowN, cN_of h19 (by omega), Bool.eq_false_iff.mpr h1]; exact Int32.add_zero _
          rw [← e1] at hl
          exact ih (k + 1) (by omega) (by omega) ls (lv_sub hl [1, 2, 3, 0] rfl)
  refine lv_iconst (v := 0) hx hb dX4_countHolding_0 (by decide) ?_
  refine lv_istore_n (lv' := [(2, .int 0), (0, .ref (α 0 0)), (1, .ref (α 14 i))]) hx hb dX4_countHolding_1 rfl hl (by decide) rfl (fun ls hl => ?_)
  refine lv_iconst (v := 0) hx hb dX4_countHolding_2 (by decide) ?_
  refine lv_istore_n (lv' := [(3, .int 0), (2, .int 0), (0, .ref (α 0 0)), (1, .ref (α 14 i))]) hx hb dX4_countHolding_3 rfl hl (by decide) rfl (fun ls hl => ?_)
  exact L4 (np - 0 + 1) 0 (Nat.lt_succ_self _) (Nat.zero_le _) ls (lv_sub hl [2, 3, 1, 0] rfl)

set_option maxHeartbeats 4000000 in
set_option maxRecDepth 100000 in
theorem c_X4_firstHolding (l : Launch) (D : va_G) (cy : Nat → ClassId) (A : Nat → Prop) (α : AD) (σ : SG) (i : Nat) (hi : i < 8) (hmt : σ 20 i ≠ 0) (hok : okT σ i) (hC : ∀ c, c < 24 → σ 11 c ≠ 0 → okC σ c) : Met l yX4_firstHolding wsX4_firstHolding ({ frames := 4, cells := 0, slots := 0, locals := 91 } : Room) (va_Pc [.ref (α 0 0), .ref (α 14 i)] (PB D cy A α (CC cy σ α))) (vp_Si (fun r => r = firstH σ i)) 0 0 (fun _ => False) := by
  refine Met.ofW (cc := cX4_firstHolding) (maxL := 3) (ret := (some .int)) (by decide) rfl ?_
  intro p e s m args below meth c s₁ B hml hv
  obtain ⟨rfl, hP, hK⟩ := hv
  have hx := B.exec
  have hb := B.bytes
  have hr := B.returns
  have hts := atoms_spec (ws := wsX4_firstHolding) B.pre
  have hown : s.vm.findClass RX4 = some m.cls := findClass_of_methodNamed B.named
  have hlocks := B.notSynchronized
  have hiX4 : ∀ w ∈ wsX40, w ∈ wsX4_firstHolding := by decide +kernel
  have hiX3 : ∀ w ∈ wsX30, w ∈ wsX4_firstHolding := by decide +kernel
  have hl := lv_entry ([.ref (α 0 0), .ref (α 14 i)]) (n := 3) (Nat.le_of_ble_eq_true rfl)
  rw [lg_entry_eq]
  generalize (lg_sl ([.ref (α 0 0), .ref (α 14 i)]) ++ List.replicate (3 - (lg_sl ([.ref (α 0 0), .ref (α 14 i)])).length) Slot.unset).toArray = ls at hl ⊢
  have hl : lv_has ls 3 [(0, .ref (α 0 0)), (1, .ref (α 14 i))] := hl
  obtain ⟨hv, np, hnp, h18, hpt⟩ := hok
  have L2 : ∀ (n : Nat) (k : Nat) (hn : np - k < n) (hk : k ≤ np) (hf : firstH σ i = fhN σ i (np - k) k) (ls : Array Slot) (hl : lv_has ls 3 [(0, .ref (α 0 0)), (1, .ref (α 14 i)), (2, .int (nI k))]) , W p l e ({ frames := 4, cells := 0, slots := 0, locals := 91 } : Room) s m ([.ref (α 0 0), .ref (α 14 i)] : List Value).toArray below meth c s.heap [] 0 0 (MQ below (vp_Si (fun r => r = firstH σ i)) ([.ref (α 0 0), .ref (α 14 i)] : List Value).toArray s 0 0 (fun _ => False)) (F0 m 2 ls []) := by
    intro n
    induction n with
    | zero => intro k hn hk hf ls hl ; exact absurd hn (Nat.not_lt_zero _)
    | succ n ih =>
      intro k hn hk hf ls hl 
      refine lv_iload_n hx hb dX4_firstHolding_2 rfl (lv_at hl 2 rfl) ?_
      refine lv_aload_n hx hb dX4_firstHolding_3 rfl (lv_at hl 1 rfl) ?_
      refine pw_get (ref := "TripPanel$Trip") (C := RX3) (T := TX3) (N := 4) (ci := 3) (fs := (fsT σ α i)) (v := .int (σ 18 i)) hx hb hts hiX3 hown hK hP (cc_14 hi hmt) rfl 2 (by decide) (by decide +kernel) rfl rfl dX4_firstHolding_4 ?_
      refine lv_icmp_ge (x := (nI k)) (y := (σ 18 i)) (tgt := 34) hx hb dX4_firstHolding_7 (by decide) (fun c7 => ?_) (fun c7 => ?_)
      · have hkn : k = np := by rw [h18] at c7; exact Nat.le_antisymm hk (ige (by omega) (by omega) c7)
        refine lv_iconst (v := (-1)) hx hb dX4_firstHolding_34 (by decide) ?_
        exact W.iret (v := (-1)) hx hb hr (fun t ht hW => ⟨_, rfl, (by rw [hf, hkn, Nat.sub_self]; rfl), ht⟩) (fun q hq => absurd hq List.not_mem_nil) dX4_firstHolding_35
      · have hkn : k < np := by rw [h18] at c7; exact ilt (by omega) (by omega) c7
        obtain ⟨⟨cj, hcj, h19, h11⟩, h30⟩ := hpt k hkn
        obtain ⟨m0, hm0⟩ : ∃ m0, np - k = m0 + 1 := ⟨np - k - 1, by omega⟩
        have ecj : cN (σ 19 (6 * i + k)) = cj := cN_of h19 (by omega)
        refine lv_aload_n hx hb dX4_firstHolding_10 rfl (lv_at hl 0 rfl) ?_
        refine lv_aload_n hx hb dX4_firstHolding_11 rfl (lv_at hl 1 rfl) ?_
        refine lv_iload_n hx hb dX4_firstHolding_12 rfl (lv_at hl 2 rfl) ?_
        refine vp_callSi (W.runV (As := [.int (nI k)]) (rest := [.ref (α 0 0)]) ⟨hx, hb, hml, hown, hts⟩ (c_X3_partAt l D cy A α σ i hi hmt (nI k)) (cwV 1 hts gX4_firstHolding_X3_partAt rfl rfl rfl (by decide +kernel) ⟨Nat.le_of_ble_eq_true rfl, Nat.le_of_ble_eq_true rfl⟩) ⟨pb_blind, pw_recv hP hK (cc_14 hi hmt) rfl, pb_pre hP hK⟩ rfl rfl hl.1 rfl (lv_room (Nat.le_of_ble_eq_true rfl)) dX4_firstHolding_13 ⟨Nat.le_of_ble_eq_true rfl, Nat.le_of_ble_eq_true rfl⟩) (fun r hw => ?_)
        have hw : r = σ 19 (6 * i + k) := by rw [hw, if_pos ⟨nI_pos' (by omega), nI_lt (show k < 6 by omega) (by decide)⟩, cN_of rfl (by omega)]; exact (if_pos (by omega)).trans h30
        subst hw
        refine vp_callSi (W.runV (As := [.int (σ 19 (6 * i + k))]) (rest := []) ⟨hx, hb, hml, hown, hts⟩ (c_X4_isHolding l D cy A α σ (σ 19 (6 * i + k)) cj h19 hcj h11 hC) (cwV 1 hts gX4_firstHolding_X4_isHolding rfl rfl rfl (by decide +kernel) ⟨Nat.le_of_ble_eq_true rfl, Nat.le_of_ble_eq_true rfl⟩) ⟨pb_blind, pw_recv hP hK cc_0 rfl, pb_pre hP hK⟩ rfl rfl hl.1 rfl (lv_room (Nat.le_of_ble_eq_true rfl)) dX4_firstHolding_16 ⟨Nat.le_of_ble_eq_true rfl, Nat.le_of_ble_eq_true rfl⟩) (fun r hw => ?_)
        rcases hw with ⟨rfl, h1⟩ | ⟨rfl, h1⟩
        · refine lv_if_eq (x := 1) (tgt := 28) hx hb dX4_firstHolding_19 (by decide) (fun c => absurd c (by decide)) (fun c19 => ?_)
          refine lv_aload_n hx hb dX4_firstHolding_22 rfl (lv_at hl 1 rfl) ?_
          refine lv_iload_n hx hb dX4_firstHolding_23 rfl (lv_at hl 2 rfl) ?_
          refine vp_callSi (W.runV (As := [.int (nI k)]) (rest := []) ⟨hx, hb, hml, hown, hts⟩ (c_X3_partAt l D cy A α σ i hi hmt (nI k)) (cwV 1 hts gX4_firstHolding_X3_partAt rfl rfl rfl (by decide +kernel) ⟨Nat.le_of_ble_eq_true rfl, Nat.le_of_ble_eq_true rfl⟩) ⟨pb_blind, pw_recv hP hK (cc_14 hi hmt) rfl, pb_pre hP hK⟩ rfl rfl hl.1 rfl (lv_room (Nat.le_of_ble_eq_true rfl)) dX4_firstHolding_24 ⟨Nat.le_of_ble_eq_true rfl, Nat.le_of_ble_eq_true rfl⟩) (fun r hw => ?_)
          have hw : r = σ 19 (6 * i + k) := by rw [hw, if_pos ⟨nI_pos' (by omega), nI_lt (show k < 6 by omega) (by decide)⟩, cN_of rfl (by omega)]; exact (if_pos (by omega)).trans h30
          subst hw
          exact W.iret (v := (σ 19 (6 * i + k))) hx hb hr (fun t ht hW => ⟨_, rfl, (by rw [hf, hm0, fhN, ecj, if_pos h1]), ht⟩) (fun q hq => absurd hq List.not_mem_nil) dX4_firstHolding_27
        · refine lv_if_eq (x := 0) (tgt := 28) hx hb dX4_firstHolding_19 (by decide) (fun c19 => ?_) (fun c => absurd (by decide) c)
          refine lv_iinc (v := (nI (k + 1))) (lv' := [(2, .int (nI (k + 1))), (0, .ref (α 0 0)), (1, .ref (α 14 i))]) hx hb dX4_firstHolding_28 hl (k := 2) rfl (nI_1 _) (by decide) rfl (fun ls hl => ?_)
          refine lv_goto (tgt := 2) hx hb dX4_firstHolding_31 (by decide) ?_
          exact ih (k + 1) (by omega) (by omega) (by rw [hf, hm0, fhN, ecj, if_neg h1, show np - (k + 1) = m0 by omega]) ls (lv_sub hl [1, 2, 0] rfl)
  refine lv_iconst (v := 0) hx hb dX4_firstHolding_0 (by decide) ?_
  refine lv_istore_n (lv' := [(2, .int 0), (0, .ref (α 0 0)), (1, .ref (α 14 i))]) hx hb dX4_firstHolding_1 rfl hl (by decide) rfl (fun ls hl => ?_)
  exact L2 (np - 0 + 1) 0 (Nat.lt_succ_self _) (Nat.zero_le _) (by rw [firstH, cN_of h18 (by omega)]; rfl) ls (lv_sub hl [1, 2, 0] rfl)

set_option maxHeartbeats 4000000 in
set_option maxRecDepth 100000 in
theorem c_X4_isDue (l : Launch) (D : va_G) (cy : Nat → ClassId) (A : Nat → Prop) (α : AD) (σ : SG) (i : Nat) (hi : i < 8) (hmt : σ 20 i ≠ 0) (hok : okT σ i) (hC : ∀ c, c < 24 → σ 11 c ≠ 0 → okC σ c) : Met l yX4_isDue wsX4_isDue ({ frames := 5, cells := 0, slots := 0, locals := 114 } : Room) (va_Pc [.ref (α 0 0), .ref (α 14 i)] (PB D cy A α (CC cy σ α))) (vp_Si (fun r => bq r (¬ now σ i < σ 17 i))) 0 0 (fun _ => False) := by
  refine Met.ofW (cc := cX4_isDue) (maxL := 2) (ret := (some .boolean)) (by decide) rfl ?_
  intro p e s m args below meth c s₁ B hml hv
  obtain ⟨rfl, hP, hK⟩ := hv
  have hx := B.exec
  have hb := B.bytes
  have hr := B.returns
  have hts := atoms_spec (ws := wsX4_isDue) B.pre
  have hown : s.vm.findClass RX4 = some m.cls := findClass_of_methodNamed B.named
  have hlocks := B.notSynchronized
  have hiX4 : ∀ w ∈ wsX40, w ∈ wsX4_isDue := by decide +kernel
  have hiX3 : ∀ w ∈ wsX30, w ∈ wsX4_isDue := by decide +kernel
  have hl := lv_entry ([.ref (α 0 0), .ref (α 14 i)]) (n := 2) (Nat.le_of_ble_eq_true rfl)
  rw [lg_entry_eq]
  generalize (lg_sl ([.ref (α 0 0), .ref (α 14 i)]) ++ List.replicate (2 - (lg_sl ([.ref (α 0 0), .ref (α 14 i)])).length) Slot.unset).toArray = ls at hl ⊢
  have hl : lv_has ls 2 [(0, .ref (α 0 0)), (1, .ref (α 14 i))] := hl
  refine lv_aload_n hx hb dX4_isDue_0 rfl (lv_at hl 0 rfl) ?_
  refine lv_aload_n hx hb dX4_isDue_1 rfl (lv_at hl 1 rfl) ?_
  refine vp_callSi (W.runV (As := [.ref (α 14 i)]) (rest := []) ⟨hx, hb, hml, hown, hts⟩ (c_X4_countHolding l D cy A α σ i hi hmt (hok) hC) (cwV 1 hts gX4_isDue_X4_countHolding rfl rfl rfl (by decide +kernel) ⟨Nat.le_of_ble_eq_true rfl, Nat.le_of_ble_eq_true rfl⟩) ⟨pb_blind, pw_recv hP hK cc_0 rfl, pb_pre hP hK⟩ rfl rfl hl.1 rfl (lv_room (Nat.le_of_ble_eq_true rfl)) dX4_isDue_2 ⟨Nat.le_of_ble_eq_true rfl, Nat.le_of_ble_eq_true rfl⟩) (fun r hw => ?_)
  subst hw
  refine lv_aload_n hx hb dX4_isDue_5 rfl (lv_at hl 1 rfl) ?_
  refine pw_get (ref := "TripPanel$Trip") (C := RX3) (T := TX3) (N := 4) (ci := 3) (fs := (fsT σ α i)) (v := .int (σ 17 i)) hx hb hts hiX3 hown hK hP (cc_14 hi hmt) rfl 0 (by decide) (by decide +kernel) rfl rfl dX4_isDue_6 ?_
  refine lv_icmp_lt (x := (now σ i)) (y := (σ 17 i)) (tgt := 16) hx hb dX4_isDue_9 (by decide) (fun c9 => ?_) (fun c9 => ?_)
  · refine lv_iconst (v := 0) hx hb dX4_isDue_16 (by decide) ?_
    exact W.zret (v := 0) hx hb hr rfl (fun t ht hW => ⟨_, rfl, bq_f (not_not_intro c9), ht⟩) (fun q hq => absurd hq List.not_mem_nil) dX4_isDue_17
  · refine lv_iconst (v := 1) hx hb dX4_isDue_12 (by decide) ?_
    refine lv_goto (tgt := 17) hx hb dX4_isDue_13 (by decide) ?_
    exact W.zret (v := 1) hx hb hr rfl (fun t ht hW => ⟨_, rfl, bq_t c9, ht⟩) (fun q hq => absurd hq List.not_mem_nil) dX4_isDue_17

set_option maxHeartbeats 4000000 in
set_option maxRecDepth 100000 in
theorem c_X4_votes (l : Launch) (D : va_G) (cy : Nat → ClassId) (A : Nat → Prop) (α : AD) (σ : SG) (ti : Int32) (hT : ∀ t, t < 8 → σ 20 t ≠ 0 → okT σ t) (hC : ∀ c, c < 24 → σ 11 c ≠ 0 → okC σ c) : Met l yX4_votes wsX4_votes ({ frames := 5, cells := 0, slots := 0, locals := 114 } : Room) (va_Pc [.ref (α 0 0), .int ti] (PB D cy A α (CC cy σ α))) (vp_Si (fun r => r = F_votes σ ti)) 0 0 (fun _ => False) := by
  refine Met.ofW (cc := cX4_votes) (maxL := 3) (ret := (some .int)) (by decide) rfl ?_
  intro p e s m args below meth c s₁ B hml hv
  obtain ⟨rfl, hP, hK⟩ := hv
  have hx := B.exec
  have hb := B.bytes
  have hr := B.returns
  have hts := atoms_spec (ws := wsX4_votes) B.pre
  have hown : s.vm.findClass RX4 = some m.cls := findClass_of_methodNamed B.named
  have hlocks := B.notSynchronized
  have hiX4 : ∀ w ∈ wsX40, w ∈ wsX4_votes := by decide +kernel
  have hl := lv_entry ([.ref (α 0 0), .int ti]) (n := 3) (Nat.le_of_ble_eq_true rfl)
  rw [lg_entry_eq]
  generalize (lg_sl ([.ref (α 0 0), .int ti]) ++ List.replicate (3 - (lg_sl ([.ref (α 0 0), .int ti])).length) Slot.unset).toArray = ls at hl ⊢
  have hl : lv_has ls 3 [(0, .ref (α 0 0)), (1, .int ti)] := hl
  refine lv_aload_n hx hb dX4_votes_0 rfl (lv_at hl 0 rfl) ?_
  refine lv_iload_n hx hb dX4_votes_1 rfl (lv_at hl 1 rfl) ?_
  refine va_csq (W.runV (As := [.int ti]) (rest := []) ⟨hx, hb, hml, hown, hts⟩ (c_X4_tripAt l D cy A α σ ti) (cwV 1 hts gX4_votes_X4_tripAt rfl rfl rfl (by decide +kernel) ⟨Nat.le_of_ble_eq_true rfl, Nat.le_of_ble_eq_true rfl⟩) ⟨pb_blind, pw_recv hP hK cc_0 rfl, pb_pre hP hK⟩ rfl rfl hl.1 rfl (lv_room (Nat.le_of_ble_eq_true rfl)) dX4_votes_2 ⟨Nat.le_of_ble_eq_true rfl, Nat.le_of_ble_eq_true rfl⟩) (fun r hw => ?_)
  rcases hw with ⟨j1, hx2, hj3, hg4, hm5, rfl⟩ | ⟨rfl, h6⟩
  · refine lv_astore_n (lv' := [(2, .ref (α 14 j1)), (0, .ref (α 0 0)), (1, .int ti)]) hx hb dX4_votes_5 rfl hl (by decide) rfl (fun ls hl => ?_)
    refine lv_aload_n hx hb dX4_votes_6 rfl (lv_at hl 0 rfl) ?_
    refine lv_ifnonnull (tgt := 15) hx hb dX4_votes_7 (by decide) ?_
    refine lv_aload_n hx hb dX4_votes_15 rfl (lv_at hl 1 rfl) ?_
    refine lv_aload_n hx hb dX4_votes_16 rfl (lv_at hl 0 rfl) ?_
    refine vp_callSi (W.runV (As := [.ref (α 14 j1)]) (rest := []) ⟨hx, hb, hml, hown, hts⟩ (c_X4_countHolding l D cy A α σ j1 hj3 hm5 (hT j1 hj3 hm5) hC) (cwV 1 hts gX4_votes_X4_countHolding rfl rfl rfl (by decide +kernel) ⟨Nat.le_of_ble_eq_true rfl, Nat.le_of_ble_eq_true rfl⟩) ⟨pb_blind, pw_recv hP hK cc_0 rfl, pb_pre hP hK⟩ rfl rfl hl.1 rfl (lv_room (Nat.le_of_ble_eq_true rfl)) dX4_votes_17 ⟨Nat.le_of_ble_eq_true rfl, Nat.le_of_ble_eq_true rfl⟩) (fun r hw => ?_)
    subst hw
    have eF : F_votes σ ti = (now σ j1) := by simp [F_votes, hx2]
    exact W.iret (v := (now σ j1)) hx hb hr (fun t ht hW => ⟨_, rfl, (by rw [eF]), ht⟩) (fun q hq => absurd hq List.not_mem_nil) dX4_votes_20
  · refine lv_astore_nN (lv' := [(2, .null), (0, .ref (α 0 0)), (1, .int ti)]) hx hb dX4_votes_5 rfl hl (by decide) rfl (fun ls hl => ?_)
    refine lv_aload_nN hx hb dX4_votes_6 rfl (lv_at hl 0 rfl) ?_
    refine lv_ifnonnullN hx hb dX4_votes_7 ?_
    refine lv_bipush (v := (-2)) hx hb dX4_votes_10 (by decide) ?_
    refine lv_goto (tgt := 20) hx hb dX4_votes_12 (by decide) ?_
    have eF : F_votes σ ti = (-2) := by simp [F_votes, h6]
    exact W.iret (v := (-2)) hx hb hr (fun t ht hW => ⟨_, rfl, (by rw [eF]), ht⟩) (fun q hq => absurd hq List.not_mem_nil) dX4_votes_20

set_option maxHeartbeats 4000000 in
set_option maxRecDepth 100000 in
theorem c_X4_reset (l : Launch) (D : va_G) (cy : Nat → ClassId) (A : Nat → Prop) (α : AD) (σ : SG) (ti : Int32) (hT : ∀ t, t < 8 → σ 20 t ≠ 0 → okT σ t) (hC : ∀ c, c < 24 → σ 11 c ≠ 0 → okC σ c) : Met l yX4_reset wsX4_reset ({ frames := 6, cells := 0, slots := 0, locals := 135 } : Room) (va_Pc [.ref (α 0 0), .int ti] (PB D cy A α (CC cy σ α))) (va_Qi (fun (r : Int32) (u : Unit) => r = (F_reset σ ti).1) (fun u t => PW D A α (CC cy (F_reset σ ti).2 α) t.heap) A) 0 0 A := by
  refine Met.ofW (cc := cX4_reset) (maxL := 4) (ret := (some .int)) (by decide) rfl ?_
  intro p e s m args below meth c s₁ B hml hv
  obtain ⟨rfl, hP, hK⟩ := hv
  have hx := B.exec
  have hb := B.bytes
  have hr := B.returns
  have hts := atoms_spec (ws := wsX4_reset) B.pre
  have hown : s.vm.findClass RX4 = some m.cls := findClass_of_methodNamed B.named
  have hlocks := B.notSynchronized
  have hiX4 : ∀ w ∈ wsX40, w ∈ wsX4_reset := by decide +kernel
  have hiX3 : ∀ w ∈ wsX30, w ∈ wsX4_reset := by decide +kernel
  have hS : va_S A s.heap s.heap [] := va_S.rf
  have hl := lv_entry ([.ref (α 0 0), .int ti]) (n := 4) (Nat.le_of_ble_eq_true rfl)
  rw [lg_entry_eq]
  generalize (lg_sl ([.ref (α 0 0), .int ti]) ++ List.replicate (4 - (lg_sl ([.ref (α 0 0), .int ti])).length) Slot.unset).toArray = ls at hl ⊢
  have hl : lv_has ls 4 [(0, .ref (α 0 0)), (1, .int ti)] := hl
  skip
  refine lv_aload_n hx hb dX4_reset_0 rfl (lv_at hl 0 rfl) ?_
  refine lv_iload_n hx hb dX4_reset_1 rfl (lv_at hl 1 rfl) ?_
  refine va_csq (W.runV (As := [.int ti]) (rest := []) ⟨hx, hb, hml, hown, hts⟩ (c_X4_tripAt l D cy A α σ ti) (cwV 1 hts gX4_reset_X4_tripAt rfl rfl rfl (by decide +kernel) ⟨Nat.le_of_ble_eq_true rfl, Nat.le_of_ble_eq_true rfl⟩) ⟨pb_blind, pw_recv hP hK cc_0 rfl, pb_pre hP hK⟩ rfl rfl hl.1 rfl (lv_room (Nat.le_of_ble_eq_true rfl)) dX4_reset_2 ⟨Nat.le_of_ble_eq_true rfl, Nat.le_of_ble_eq_true rfl⟩) (fun r hw => ?_)
  rcases hw with ⟨j1, hx2, hj3, hg4, hm5, rfl⟩ | ⟨rfl, h6⟩
  · refine lv_astore_n (lv' := [(2, .ref (α 14 j1)), (0, .ref (α 0 0)), (1, .int ti)]) hx hb dX4_reset_5 rfl hl (by decide) rfl (fun ls hl => ?_)
    refine lv_aload_n hx hb dX4_reset_6 rfl (lv_at hl 0 rfl) ?_
    refine lv_ifnonnull (tgt := 13) hx hb dX4_reset_7 (by decide) ?_
    refine lv_aload_n hx hb dX4_reset_13 rfl (lv_at hl 1 rfl) ?_
    refine lv_aload_n hx hb dX4_reset_14 rfl (lv_at hl 0 rfl) ?_
    refine vp_callSi (W.runV (As := [.ref (α 14 j1)]) (rest := []) ⟨hx, hb, hml, hown, hts⟩ (c_X4_isDue l D cy A α σ j1 hj3 hm5 (hT j1 hj3 hm5) hC) (cwV 1 hts gX4_reset_X4_isDue rfl rfl rfl (by decide +kernel) ⟨Nat.le_of_ble_eq_true rfl, Nat.le_of_ble_eq_true rfl⟩) ⟨pb_blind, pw_recv hP hK cc_0 rfl, pb_pre hP hK⟩ rfl rfl hl.1 rfl (lv_room (Nat.le_of_ble_eq_true rfl)) dX4_reset_15 ⟨Nat.le_of_ble_eq_true rfl, Nat.le_of_ble_eq_true rfl⟩) (fun r hw => ?_)
    rcases hw with ⟨rfl, h7⟩ | ⟨rfl, h7⟩
    · refine lv_if_eq (x := 1) (tgt := 24) hx hb dX4_reset_18 (by decide) (fun c => absurd c (by decide)) (fun c18 => ?_)
      refine lv_bipush (v := (-5)) hx hb dX4_reset_21 (by decide) ?_
      have eF : F_reset σ ti = ((-5), σ) := by rw [F_reset, hx2]; show (if now σ j1 < σ 17 j1 then _ else _) = _; rw [if_neg h7]
      exact W.iret (v := (-5)) hx hb hr (fun t ht hW => ⟨⟨_, (), rfl, (by rw [eF]), by dsimp only; rw [ht]; exact (by rw [eF]; exact hP)⟩, hS.F ht⟩) hS.2.2 dX4_reset_23
    · refine lv_if_eq (x := 0) (tgt := 24) hx hb dX4_reset_18 (by decide) (fun c18 => ?_) (fun c => absurd (by decide) c)
      refine lv_aload_n hx hb dX4_reset_24 rfl (lv_at hl 0 rfl) ?_
      refine pw_get (ref := "TripPanel$Trip") (C := RX3) (T := TX3) (N := 4) (ci := 3) (fs := (fsT σ α j1)) (v := .int (σ 21 j1)) hx hb hts hiX3 hown hK hP (cc_14 hj3 hm5) rfl 3 (by decide) (by decide +kernel) rfl rfl dX4_reset_25 ?_
      refine lv_istore_n (lv' := [(3, .int (σ 21 j1)), (2, .ref (α 14 j1)), (0, .ref (α 0 0)), (1, .int ti)]) hx hb dX4_reset_28 rfl hl (by decide) rfl (fun ls hl => ?_)
      refine lv_aload_n hx hb dX4_reset_29 rfl (lv_at hl 1 rfl) ?_
      refine lv_iconst (v := 0) hx hb dX4_reset_30 (by decide) ?_
      refine pw_put (ref := "TripPanel$Trip") (C := RX3) (T := TX3) (N := 4) (ci := 3) (fs := (fsT σ α j1)) (v := .int 0) (ty := .boolean) hx hb hts hiX3 tyX3 tyX3_ok nmX3 hown hK hP hS (cc_14 hj3 hm5) rfl 3 (by decide) (by decide +kernel) rfl rfl (by decide +kernel) rfl rfl (Nat.le_of_ble_eq_true rfl) dX4_reset_31 (fun H locs hP hz hS => ?_)
      rw [cc_t21 (σ := σ) hj3 hm5] at hP
      refine lv_iload_n hx hb dX4_reset_34 rfl (lv_at hl 0 rfl) ?_
      refine vp_callSi (W.runS (As := [.int (σ 21 j1)]) (rest := []) ⟨hx, hb, hml, hown, hts⟩ (c_X4_asAnswer l (σ 21 j1)) (va_cwS 1 hts gX4_reset_X4_asAnswer rfl rfl rfl (by decide +kernel) ⟨Nat.le_of_ble_eq_true rfl, Nat.le_of_ble_eq_true rfl⟩) ⟨pt_blind, pt_pre⟩ rfl rfl hl.1 rfl (lv_room (Nat.le_of_ble_eq_true rfl)) dX4_reset_35 ⟨Nat.le_of_ble_eq_true rfl, Nat.le_of_ble_eq_true rfl⟩) (fun r hw => ?_)
      subst hw
      have eF : F_reset σ ti = ((if (σ 21 j1) = 0 then 0 else 1), (st σ 21 j1 0)) := by rw [F_reset, hx2]; show (if now σ j1 < σ 17 j1 then _ else _) = _; rw [if_pos (Classical.not_not.mp h7)]
      exact W.iret (v := (if (σ 21 j1) = 0 then 0 else 1)) hx hb hr (fun t ht hW => ⟨⟨_, (), rfl, (by rw [eF]), by dsimp only; rw [ht]; exact (by rw [eF]; exact hP)⟩, hS.F ht⟩) hS.2.2 dX4_reset_38
  · refine lv_astore_nN (lv' := [(2, .null), (0, .ref (α 0 0)), (1, .int ti)]) hx hb dX4_reset_5 rfl hl (by decide) rfl (fun ls hl => ?_)
    refine lv_aload_nN hx hb dX4_reset_6 rfl (lv_at hl 0 rfl) ?_
    refine lv_ifnonnullN hx hb dX4_reset_7 ?_
    refine lv_bipush (v := (-2)) hx hb dX4_reset_10 (by decide) ?_
    have eF : F_reset σ ti = ((-2), σ) := by simp [F_reset, h6]
    exact W.iret (v := (-2)) hx hb hr (fun t ht hW => ⟨⟨_, (), rfl, (by rw [eF]), by dsimp only; rw [ht]; exact (by rw [eF]; exact hP)⟩, hS.F ht⟩) hS.2.2 dX4_reset_12

set_option maxHeartbeats 4000000 in
set_option maxRecDepth 100000 in
theorem c_X4_part (l : Launch) (D : va_G) (cy : Nat → ClassId) (A : Nat → Prop) (α : AD) (σ : SG) (ti ci : Int32) (hT : ∀ t, t < 8 → σ 20 t ≠ 0 → okT σ t) : Met l yX4_part wsX4_part ({ frames := 2, cells := 0, slots := 0, locals := 42 } : Room) (va_Pc [.ref (α 0 0), .int ti, .int ci] (PB D cy A α (CC cy σ α))) (va_Qi (fun (r : Int32) (u : Unit) => r = (F_part σ ti ci).1) (fun u t => PW D A α (CC cy (F_part σ ti ci).2 α) t.heap) A) 0 0 A := by
  refine Met.ofW (cc := cX4_part) (maxL := 4) (ret := (some .int)) (by decide) rfl ?_
  intro p e s m args below meth c s₁ B hml hv
  obtain ⟨rfl, hP, hK⟩ := hv
  have hx := B.exec
  have hb := B.bytes
  have hr := B.returns
  have hts := atoms_spec (ws := wsX4_part) B.pre
  have hown : s.vm.findClass RX4 = some m.cls := findClass_of_methodNamed B.named
  have hlocks := B.notSynchronized
  have hiX4 : ∀ w ∈ wsX40, w ∈ wsX4_part := by decide +kernel
  have hiX3 : ∀ w ∈ wsX30, w ∈ wsX4_part := by decide +kernel
  have hS : va_S A s.heap s.heap [] := va_S.rf
  have hl := lv_entry ([.ref (α 0 0), .int ti, .int ci]) (n := 4) (Nat.le_of_ble_eq_true rfl)
  rw [lg_entry_eq]
  generalize (lg_sl ([.ref (α 0 0), .int ti, .int ci]) ++ List.replicate (4 - (lg_sl ([.ref (α 0 0), .int ti, .int ci])).length) Slot.unset).toArray = ls at hl ⊢
  have hl : lv_has ls 4 [(0, .ref (α 0 0)), (1, .int ti), (2, .int ci)] := hl
  skip
  refine lv_aload_n hx hb dX4_part_0 rfl (lv_at hl 0 rfl) ?_
  refine lv_iload_n hx hb dX4_part_1 rfl (lv_at hl 1 rfl) ?_
  refine va_csq (W.runV (As := [.int ti]) (rest := []) ⟨hx, hb, hml, hown, hts⟩ (c_X4_tripAt l D cy A α σ ti) (cwV 1 hts gX4_part_X4_tripAt rfl rfl rfl (by decide +kernel) ⟨Nat.le_of_ble_eq_true rfl, Nat.le_of_ble_eq_true rfl⟩) ⟨pb_blind, pw_recv hP hK cc_0 rfl, pb_pre hP hK⟩ rfl rfl hl.1 rfl (lv_room (Nat.le_of_ble_eq_true rfl)) dX4_part_2 ⟨Nat.le_of_ble_eq_true rfl, Nat.le_of_ble_eq_true rfl⟩) (fun r hw => ?_)
  rcases hw with ⟨j1, hx2, hj3, hg4, hm5, rfl⟩ | ⟨rfl, h6⟩
  · refine lv_astore_n (lv' := [(3, .ref (α 14 j1)), (0, .ref (α 0 0)), (1, .int ti), (2, .int ci)]) hx hb dX4_part_5 rfl hl (by decide) rfl (fun ls hl => ?_)
    refine lv_aload_n hx hb dX4_part_6 rfl (lv_at hl 0 rfl) ?_
    refine lv_ifnull hx hb dX4_part_7 ?_
    refine lv_aload_n hx hb dX4_part_10 rfl (lv_at hl 1 rfl) ?_
    refine lv_iload_n hx hb dX4_part_11 rfl (lv_at hl 3 rfl) ?_
    refine va_csq (W.runV (As := [.int ci]) (rest := []) ⟨hx, hb, hml, hown, hts⟩ (c_X4_conditionAt l D cy A α σ ci) (cwV 1 hts gX4_part_X4_conditionAt rfl rfl rfl (by decide +kernel) ⟨Nat.le_of_ble_eq_true rfl, Nat.le_of_ble_eq_true rfl⟩) ⟨pb_blind, pw_recv hP hK cc_0 rfl, pb_pre hP hK⟩ rfl rfl hl.1 rfl (lv_room (Nat.le_of_ble_eq_true rfl)) dX4_part_12 ⟨Nat.le_of_ble_eq_true rfl, Nat.le_of_ble_eq_true rfl⟩) (fun r hw => ?_)
    rcases hw with ⟨j7, hx8, hj9, hg10, hm11, rfl⟩ | ⟨rfl, h12⟩
    · refine lv_ifnonnull (tgt := 21) hx hb dX4_part_15 (by decide) ?_
      refine lv_aload_n hx hb dX4_part_21 rfl (lv_at hl 0 rfl) ?_
      refine lv_iload_n hx hb dX4_part_22 rfl (lv_at hl 3 rfl) ?_
      obtain ⟨-, np, hnp, h18, -⟩ := hT j1 hj3 hm5
      refine va_calli (va_runV (As := [.int ci]) (rest := []) ⟨hx, hb, hml, hown, hts⟩ (c_X3_addPart l D cy A α σ j1 hj3 hm5 ci np hnp h18) (cwV 1 hts gX4_part_X3_addPart rfl rfl rfl (by decide +kernel) ⟨Nat.le_of_ble_eq_true rfl, Nat.le_of_ble_eq_true rfl⟩) ⟨pb_blind, pw_recv hP hK (cc_14 hj3 hm5) rfl, pb_pre hP hK⟩ rfl rfl hl.1 rfl (lv_room (Nat.le_of_ble_eq_true rfl)) dX4_part_23 ⟨Nat.le_of_ble_eq_true rfl, Nat.le_of_ble_eq_true rfl⟩) hS (fun _ _ h => h) (fun _ h => h) (fun r u t H locs ht hvm hw hB hz1 hk1 hS => ?_)
      have hP := hB
      rw [ht] at hP
      refine W.cs (cells' := 0) (slots' := 0) rfl rfl ?_
      rcases hw with ⟨rfl, h6⟩ | ⟨rfl, h6⟩
      · rw [show addP σ j1 ci = σ from if_pos h6] at hP
        refine lv_if_eq (x := 0) (tgt := 36) hx hb dX4_part_26 (by decide) (fun c26 => ?_) (fun c => absurd (by decide) c)
        refine lv_iconst (v := (-1)) hx hb dX4_part_36 (by decide) ?_
        have eF : F_part σ ti ci = ((-1), σ) := by rw [F_part, hx2]; show (match cx σ ci with | none => _ | some _ => _) = _; rw [hx8]; show (if σ 18 j1 = 6 then _ else _) = _; rw [if_pos h6]
        exact W.iret (v := (-1)) hx hb hr (fun t ht hW => ⟨⟨_, (), rfl, (by rw [eF]), by dsimp only; rw [ht]; exact (by rw [eF]; exact hP)⟩, hS.F ht⟩) hS.2.2 dX4_part_37
      · rw [show addP σ j1 ci = _ from if_neg h6] at hP
        refine lv_if_eq (x := 1) (tgt := 36) hx hb dX4_part_26 (by decide) (fun c => absurd c (by decide)) (fun c26 => ?_)
        refine lv_aload_n hx hb dX4_part_29 rfl (lv_at hl 0 rfl) ?_
        refine pw_get (ref := "TripPanel$Trip") (C := RX3) (T := TX3) (N := 4) (ci := 3) (fs := (fsT (st (st σ 30 (6 * j1 + cN (σ 18 j1)) ci) 18 j1 (σ 18 j1 + 1)) α j1)) (v := .int ((st (st σ 30 (6 * j1 + cN (σ 18 j1)) ci) 18 j1 (σ 18 j1 + 1)) 18 j1)) hx hb hts hiX3 hown hK hP (cc_14 hj3 hm5) rfl 2 (by decide) (by decide +kernel) rfl rfl dX4_part_30 ?_
        refine lv_goto (tgt := 37) hx hb dX4_part_33 (by decide) ?_
        have eF : F_part σ ti ci = (((st (st σ 30 (6 * j1 + cN (σ 18 j1)) ci) 18 j1 (σ 18 j1 + 1)) 18 j1), (st (st (st σ 19 (6 * j1 + cN (σ 18 j1)) ci) 18 j1 (σ 18 j1 + 1)) 30 (6 * j1 + cN (σ 18 j1)) ci)) := by rw [F_part, hx2]; show (match cx σ ci with | none => _ | some _ => _) = _; rw [hx8]; show (if σ 18 j1 = 6 then _ else _) = _; rw [if_neg h6, st_same]
        exact W.iret (v := ((st (st σ 30 (6 * j1 + cN (σ 18 j1)) ci) 18 j1 (σ 18 j1 + 1)) 18 j1)) hx hb hr (fun t ht hW => ⟨⟨_, (), rfl, (by rw [eF]), by dsimp only; rw [ht]; exact (by rw [eF]; show PW D A α (CC cy (st (st (sr σ 19 _) 18 _ _) 30 _ _) α) _; rw [cc_part]; exact hP)⟩, hS.F ht⟩) hS.2.2 dX4_part_37
    · refine lv_ifnonnullN hx hb dX4_part_15 ?_
      refine lv_bipush (v := (-2)) hx hb dX4_part_18 (by decide) ?_
      have eF : F_part σ ti ci = ((-2), σ) := by simp [F_part, h12, hx2]
      exact W.iret (v := (-2)) hx hb hr (fun t ht hW => ⟨⟨_, (), rfl, (by rw [eF]), by dsimp only; rw [ht]; exact (by rw [eF]; exact hP)⟩, hS.F ht⟩) hS.2.2 dX4_part_20
  · refine lv_astore_nN (lv' := [(3, .null), (0, .ref (α 0 0)), (1, .int ti), (2, .int ci)]) hx hb dX4_part_5 rfl hl (by decide) rfl (fun ls hl => ?_)
    refine lv_aload_nN hx hb dX4_part_6 rfl (lv_at hl 0 rfl) ?_
    refine lv_ifnullN (tgt := 18) hx hb dX4_part_7 (by decide) ?_
    refine lv_bipush (v := (-2)) hx hb dX4_part_18 (by decide) ?_
    have eF : F_part σ ti ci = ((-2), σ) := by simp [F_part, h6]
    exact W.iret (v := (-2)) hx hb hr (fun t ht hW => ⟨⟨_, (), rfl, (by rw [eF]), by dsimp only; rw [ht]; exact (by rw [eF]; exact hP)⟩, hS.F ht⟩) hS.2.2 dX4_part_20
