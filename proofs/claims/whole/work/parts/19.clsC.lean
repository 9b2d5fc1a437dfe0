theorem F_open_eq {σ : SG} {g b : Int32} {j : Nat} (hx : gx σ g = some j) : F_open σ g b = (if (if b = 0 then σ 3 j else σ 4 j) = gp then 0 else 1, if b = 0 then st σ 3 j gp else st σ 4 j gp) := by
  rw [F_open, hx]; by_cases hb : b = 0 <;> simp [hb]
theorem noted_st (τ : SG) (j i : Nat) {k : Nat} (v : Int32) (h2 : k ≠ 2) (h9 : k ≠ 9) (h10 : k ≠ 10) : noted (st τ k i v) j = st (noted τ j) k i v := by
  unfold noted
  rw [st_ne (Ne.symm h2), st_ne (Ne.symm h9), st_ne (Ne.symm h10)]
  funext x
  by_cases hx : x = k
  · subst hx
    simp [st, sr, h9, h10, upd]
  · by_cases h : x = 10
    · subst h; simp [st, sr, hx, upd, Ne.symm h10]
    · simp [st, sr, hx, h]
theorem took_comm (τ : SG) (j : Nat) (h : Int32) : tookC (noted τ j) h = noted (tookC τ h) j := by
  unfold tookC
  split
  · exact (noted_st τ j 0 _ (by decide) (by decide) (by decide)).symm
  · split
    · exact (noted_st τ j 0 _ (by decide) (by decide) (by decide)).symm
    · exact (noted_st τ j 0 _ (by decide) (by decide) (by decide)).symm

set_option maxHeartbeats 4000000 in
set_option maxRecDepth 100000 in
theorem c_X4_isNumber (l : Launch) (n : Int32) : Met l yX4_isNumber wsX4_isNumber ({ frames := 0, cells := 0, slots := 0, locals := 0 } : Room) (va_Pc [.int n] (fun _ => True)) (vp_Si (fun r => bq r (isNum n))) 0 0 (fun _ => False) := by
  refine Met.ofW (cc := cX4_isNumber) (maxL := 1) (ret := (some .boolean)) (by decide) rfl ?_
  intro p e s m args below meth c s₁ B hml hv
  obtain ⟨rfl, -⟩ := hv
  have hx := B.exec
  have hb := B.bytes
  have hr := B.returns
  have hts := atoms_spec (ws := wsX4_isNumber) B.pre
  have hown : s.vm.findClass RX4 = some m.cls := findClass_of_methodNamed B.named
  have hlocks := B.notSynchronized
  have hl := lv_entry ([.int n]) (n := 1) (Nat.le_of_ble_eq_true rfl)
  rw [lg_entry_eq]
  generalize (lg_sl ([.int n]) ++ List.replicate (1 - (lg_sl ([.int n])).length) Slot.unset).toArray = ls at hl ⊢
  have hl : lv_has ls 1 [(0, .int n)] := hl
  refine lv_iload_n hx hb dX4_isNumber_0 rfl (lv_at hl 0 rfl) ?_
  refine lv_ldc hx hb hown (hts (.constant RX4 188 (-1000000000)) (by decide +kernel)) dX4_isNumber_1 ?_
  refine lv_icmp_lt (x := n) (y := (-1000000000)) (tgt := 16) hx hb dX4_isNumber_3 (by decide) (fun c3 => ?_) (fun c3 => ?_)
  · refine lv_iconst (v := 0) hx hb dX4_isNumber_16 (by decide) ?_
    exact W.zret (v := 0) hx hb hr rfl (fun t ht hW => ⟨_, rfl, bq_f (fun h => absurd h.1 (Int32.not_le.mpr c3)), ht⟩) (fun q hq => absurd hq List.not_mem_nil) dX4_isNumber_17
  · refine lv_iload_n hx hb dX4_isNumber_6 rfl (lv_at hl 0 rfl) ?_
    refine lv_ldc hx hb hown (hts (.constant RX4 189 (1000000000)) (by decide +kernel)) dX4_isNumber_7 ?_
    refine lv_icmp_gt (x := n) (y := 1000000000) (tgt := 16) hx hb dX4_isNumber_9 (by decide) (fun c9 => ?_) (fun c9 => ?_)
    · refine lv_iconst (v := 0) hx hb dX4_isNumber_16 (by decide) ?_
      exact W.zret (v := 0) hx hb hr rfl (fun t ht hW => ⟨_, rfl, bq_f (fun h => absurd h.2 (Int32.not_le.mpr c9)), ht⟩) (fun q hq => absurd hq List.not_mem_nil) dX4_isNumber_17
    · refine lv_iconst (v := 1) hx hb dX4_isNumber_12 (by decide) ?_
      refine lv_goto (tgt := 17) hx hb dX4_isNumber_13 (by decide) ?_
      exact W.zret (v := 1) hx hb hr rfl (fun t ht hW => ⟨_, rfl, bq_t ⟨Int32.not_lt.mp c3, Int32.not_lt.mp c9⟩, ht⟩) (fun q hq => absurd hq List.not_mem_nil) dX4_isNumber_17

set_option maxHeartbeats 4000000 in
set_option maxRecDepth 100000 in
theorem c_X4_isRelation (l : Launch) (rel : Int32) : Met l yX4_isRelation wsX4_isRelation ({ frames := 0, cells := 0, slots := 0, locals := 0 } : Room) (va_Pc [.int rel] (fun _ => True)) (vp_Si (fun r => bq r (isRel rel))) 0 0 (fun _ => False) := by
  refine Met.ofW (cc := cX4_isRelation) (maxL := 1) (ret := (some .boolean)) (by decide) rfl ?_
  intro p e s m args below meth c s₁ B hml hv
  obtain ⟨rfl, -⟩ := hv
  have hx := B.exec
  have hb := B.bytes
  have hr := B.returns
  have hts := atoms_spec (ws := wsX4_isRelation) B.pre
  have hown : s.vm.findClass RX4 = some m.cls := findClass_of_methodNamed B.named
  have hlocks := B.notSynchronized
  have hl := lv_entry ([.int rel]) (n := 1) (Nat.le_of_ble_eq_true rfl)
  rw [lg_entry_eq]
  generalize (lg_sl ([.int rel]) ++ List.replicate (1 - (lg_sl ([.int rel])).length) Slot.unset).toArray = ls at hl ⊢
  have hl : lv_has ls 1 [(0, .int rel)] := hl
  refine lv_iload_n hx hb dX4_isRelation_0 rfl (lv_at hl 0 rfl) ?_
  refine lv_if_lt (x := rel) (tgt := 13) hx hb dX4_isRelation_1 (by decide) (fun c1 => ?_) (fun c1 => ?_)
  · refine lv_iconst (v := 0) hx hb dX4_isRelation_13 (by decide) ?_
    exact W.zret (v := 0) hx hb hr rfl (fun t ht hW => ⟨_, rfl, bq_f (fun h => absurd (in_rel h).1 (Int32.not_le.mpr c1)), ht⟩) (fun q hq => absurd hq List.not_mem_nil) dX4_isRelation_14
  · refine lv_iload_n hx hb dX4_isRelation_4 rfl (lv_at hl 0 rfl) ?_
    refine lv_iconst (v := 5) hx hb dX4_isRelation_5 (by decide) ?_
    refine lv_icmp_gt (x := rel) (y := 5) (tgt := 13) hx hb dX4_isRelation_6 (by decide) (fun c6 => ?_) (fun c6 => ?_)
    · refine lv_iconst (v := 0) hx hb dX4_isRelation_13 (by decide) ?_
      exact W.zret (v := 0) hx hb hr rfl (fun t ht hW => ⟨_, rfl, bq_f (fun h => absurd (in_rel h).2 (Int32.not_le.mpr c6)), ht⟩) (fun q hq => absurd hq List.not_mem_nil) dX4_isRelation_14
    · refine lv_iconst (v := 1) hx hb dX4_isRelation_9 (by decide) ?_
      refine lv_goto (tgt := 14) hx hb dX4_isRelation_10 (by decide) ?_
      exact W.zret (v := 1) hx hb hr rfl (fun t ht hW => ⟨_, rfl, bq_t (rel_in (Int32.not_lt.mp c1) (Int32.not_lt.mp c6)), ht⟩) (fun q hq => absurd hq List.not_mem_nil) dX4_isRelation_14

set_option maxHeartbeats 4000000 in
set_option maxRecDepth 100000 in
theorem c_X4_asAnswer (l : Launch) (b : Int32) : Met l yX4_asAnswer wsX4_asAnswer ({ frames := 0, cells := 0, slots := 0, locals := 0 } : Room) (va_Pc [.int b] (fun _ => True)) (vp_Si (fun r => r = if b = 0 then 0 else 1)) 0 0 (fun _ => False) := by
  refine Met.ofW (cc := cX4_asAnswer) (maxL := 1) (ret := (some .int)) (by decide) rfl ?_
  intro p e s m args below meth c s₁ B hml hv
  obtain ⟨rfl, -⟩ := hv
  have hx := B.exec
  have hb := B.bytes
  have hr := B.returns
  have hts := atoms_spec (ws := wsX4_asAnswer) B.pre
  have hown : s.vm.findClass RX4 = some m.cls := findClass_of_methodNamed B.named
  have hlocks := B.notSynchronized
  have hl := lv_entry ([.int b]) (n := 1) (Nat.le_of_ble_eq_true rfl)
  rw [lg_entry_eq]
  generalize (lg_sl ([.int b]) ++ List.replicate (1 - (lg_sl ([.int b])).length) Slot.unset).toArray = ls at hl ⊢
  have hl : lv_has ls 1 [(0, .int b)] := hl
  refine lv_iload_n hx hb dX4_asAnswer_0 rfl (lv_at hl 0 rfl) ?_
  refine lv_if_eq (x := b) (tgt := 8) hx hb dX4_asAnswer_1 (by decide) (fun c1 => ?_) (fun c1 => ?_)
  · refine lv_iconst (v := 0) hx hb dX4_asAnswer_8 (by decide) ?_
    exact W.iret (v := 0) hx hb hr (fun t ht hW => ⟨_, rfl, (by rw [if_pos c1]), ht⟩) (fun q hq => absurd hq List.not_mem_nil) dX4_asAnswer_9
  · refine lv_iconst (v := 1) hx hb dX4_asAnswer_4 (by decide) ?_
    refine lv_goto (tgt := 9) hx hb dX4_asAnswer_5 (by decide) ?_
    exact W.iret (v := 1) hx hb hr (fun t ht hW => ⟨_, rfl, (by rw [if_neg c1]), ht⟩) (fun q hq => absurd hq List.not_mem_nil) dX4_asAnswer_9

set_option maxHeartbeats 4000000 in
set_option maxRecDepth 100000 in
theorem c_X4_isConditionNumber (l : Launch) (D : va_G) (cy : Nat → ClassId) (A : Nat → Prop) (α : AD) (σ : SG) (ci : Int32) : Met l yX4_isConditionNumber wsX4_isConditionNumber ({ frames := 0, cells := 0, slots := 0, locals := 0 } : Room) (va_Pc [.ref (α 0 0), .int ci] (PB D cy A α (CC cy σ α))) (vp_Si (fun r => bq r (0 ≤ ci ∧ ci < 24))) 0 0 (fun _ => False) := by
  refine Met.ofW (cc := cX4_isConditionNumber) (maxL := 2) (ret := (some .boolean)) (by decide) rfl ?_
  intro p e s m args below meth c s₁ B hml hv
  obtain ⟨rfl, hP, hK⟩ := hv
  have hx := B.exec
  have hb := B.bytes
  have hr := B.returns
  have hts := atoms_spec (ws := wsX4_isConditionNumber) B.pre
  have hown : s.vm.findClass RX4 = some m.cls := findClass_of_methodNamed B.named
  have hlocks := B.notSynchronized
  have hiX4 : ∀ w ∈ wsX40, w ∈ wsX4_isConditionNumber := by decide +kernel
  have hl := lv_entry ([.ref (α 0 0), .int ci]) (n := 2) (Nat.le_of_ble_eq_true rfl)
  rw [lg_entry_eq]
  generalize (lg_sl ([.ref (α 0 0), .int ci]) ++ List.replicate (2 - (lg_sl ([.ref (α 0 0), .int ci])).length) Slot.unset).toArray = ls at hl ⊢
  have hl : lv_has ls 2 [(0, .ref (α 0 0)), (1, .int ci)] := hl
  refine lv_iload_n hx hb dX4_isConditionNumber_0 rfl (lv_at hl 1 rfl) ?_
  refine lv_if_lt (x := ci) (tgt := 17) hx hb dX4_isConditionNumber_1 (by decide) (fun c1 => ?_) (fun c1 => ?_)
  · refine lv_iconst (v := 0) hx hb dX4_isConditionNumber_17 (by decide) ?_
    exact W.zret (v := 0) hx hb hr rfl (fun t ht hW => ⟨_, rfl, bq_f (fun h => absurd h.1 (Int32.not_le.mpr c1)), ht⟩) (fun q hq => absurd hq List.not_mem_nil) dX4_isConditionNumber_18
  · refine lv_iload_n hx hb dX4_isConditionNumber_4 rfl (lv_at hl 1 rfl) ?_
    refine lv_aload_n hx hb dX4_isConditionNumber_5 rfl (lv_at hl 0 rfl) ?_
    refine pw_get (ref := "TripPanel") (C := RX4) (T := TX4) (N := 11) (ci := 4) (fs := (fsP σ α)) (v := .ref (α 2 0)) hx hb hts hiX4 hown hK hP cc_0 rfl 1 (by decide) (by decide +kernel) rfl rfl dX4_isConditionNumber_6 ?_
    refine pw_alen (t0 := 3) (v := 24) hx hb hK hP rfl cc_2 rfl dX4_isConditionNumber_9 ?_
    refine lv_icmp_ge (x := ci) (y := 24) (tgt := 17) hx hb dX4_isConditionNumber_10 (by decide) (fun c10 => ?_) (fun c10 => ?_)
    · refine lv_iconst (v := 0) hx hb dX4_isConditionNumber_17 (by decide) ?_
      exact W.zret (v := 0) hx hb hr rfl (fun t ht hW => ⟨_, rfl, bq_f (fun h => absurd h.2 (Int32.not_lt.mpr c10)), ht⟩) (fun q hq => absurd hq List.not_mem_nil) dX4_isConditionNumber_18
    · refine lv_iconst (v := 1) hx hb dX4_isConditionNumber_13 (by decide) ?_
      refine lv_goto (tgt := 18) hx hb dX4_isConditionNumber_14 (by decide) ?_
      exact W.zret (v := 1) hx hb hr rfl (fun t ht hW => ⟨_, rfl, bq_t ⟨Int32.not_lt.mp c1, Int32.not_le.mp c10⟩, ht⟩) (fun q hq => absurd hq List.not_mem_nil) dX4_isConditionNumber_18

set_option maxHeartbeats 4000000 in
set_option maxRecDepth 100000 in
theorem c_X4_gaugeAt (l : Launch) (D : va_G) (cy : Nat → ClassId) (A : Nat → Prop) (α : AD) (σ : SG) (x : Int32) : Met l yX4_gaugeAt wsX4_gaugeAt ({ frames := 0, cells := 0, slots := 0, locals := 0 } : Room) (va_Pc [.ref (α 0 0), .int x] (PB D cy A α (CC cy σ α))) (va_Sq (fun r => (∃ j, gx σ x = some j ∧ j < 16 ∧ x = nI j ∧ σ 0 j ≠ 0 ∧ r = some (α 10 j)) ∨ (r = none ∧ gx σ x = none))) 0 0 (fun _ => False) := by
  refine Met.ofW (cc := cX4_gaugeAt) (maxL := 2) (ret := (some (.object "TripPanel$Gauge"))) (by decide) rfl ?_
  intro p e s m args below meth c s₁ B hml hv
  obtain ⟨rfl, hP, hK⟩ := hv
  have hx := B.exec
  have hb := B.bytes
  have hr := B.returns
  have hts := atoms_spec (ws := wsX4_gaugeAt) B.pre
  have hown : s.vm.findClass RX4 = some m.cls := findClass_of_methodNamed B.named
  have hlocks := B.notSynchronized
  have hiX4 : ∀ w ∈ wsX40, w ∈ wsX4_gaugeAt := by decide +kernel
  have hl := lv_entry ([.ref (α 0 0), .int x]) (n := 2) (Nat.le_of_ble_eq_true rfl)
  rw [lg_entry_eq]
  generalize (lg_sl ([.ref (α 0 0), .int x]) ++ List.replicate (2 - (lg_sl ([.ref (α 0 0), .int x])).length) Slot.unset).toArray = ls at hl ⊢
  have hl : lv_has ls 2 [(0, .ref (α 0 0)), (1, .int x)] := hl
  refine lv_iload_n hx hb dX4_gaugeAt_0 rfl (lv_at hl 1 rfl) ?_
  refine lv_if_lt (x := x) (tgt := 22) hx hb dX4_gaugeAt_1 (by decide) (fun c1 => ?_) (fun c1 => ?_)
  · refine lv_null hx hb dX4_gaugeAt_22 ?_
    exact W.aret hx hb hr (Or.inl ⟨_, rfl⟩) (Or.inl rfl) (fun t ht hW => ⟨none, rfl, Or.inr ⟨rfl, ix_none (fun q => absurd q.1 (Int32.not_le.mpr c1))⟩, ht⟩) (fun q hq => absurd hq List.not_mem_nil) dX4_gaugeAt_23
  · refine lv_iload_n hx hb dX4_gaugeAt_4 rfl (lv_at hl 1 rfl) ?_
    refine lv_aload_n hx hb dX4_gaugeAt_5 rfl (lv_at hl 0 rfl) ?_
    refine pw_get (ref := "TripPanel") (C := RX4) (T := TX4) (N := 11) (ci := 4) (fs := (fsP σ α)) (v := .ref (α 1 0)) hx hb hts hiX4 hown hK hP cc_0 rfl 0 (by decide) (by decide +kernel) rfl rfl dX4_gaugeAt_6 ?_
    refine pw_alen (t0 := 2) (v := 16) hx hb hK hP rfl cc_1 rfl dX4_gaugeAt_9 ?_
    refine lv_icmp_ge (x := x) (y := 16) (tgt := 22) hx hb dX4_gaugeAt_10 (by decide) (fun c10 => ?_) (fun c10 => ?_)
    · refine lv_null hx hb dX4_gaugeAt_22 ?_
      exact W.aret hx hb hr (Or.inl ⟨_, rfl⟩) (Or.inl rfl) (fun t ht hW => ⟨none, rfl, Or.inr ⟨rfl, ix_none (fun q => absurd q.2 (Int32.not_lt.mpr c10))⟩, ht⟩) (fun q hq => absurd hq List.not_mem_nil) dX4_gaugeAt_23
    · obtain ⟨j, hj, hgj⟩ := in_j (n := 16) (x := x) (by decide) ⟨Int32.not_lt.mp c1, Int32.not_le.mp c10⟩
      refine lv_aload_n hx hb dX4_gaugeAt_13 rfl (lv_at hl 0 rfl) ?_
      refine pw_get (ref := "TripPanel") (C := RX4) (T := TX4) (N := 11) (ci := 4) (fs := (fsP σ α)) (v := .ref (α 1 0)) hx hb hts hiX4 hown hK hP cc_0 rfl 0 (by decide) (by decide +kernel) rfl rfl dX4_gaugeAt_14 ?_
      refine lv_iload_n hx hb dX4_gaugeAt_17 rfl (lv_at hl 1 rfl) ?_
      refine pw_aald (t0 := 2) (C := RX1) (n := 16) (f := (qG σ α)) hx hb hK hP rfl cc_1 j hgj hj (by decide) dX4_gaugeAt_18 ?_
      rcases qG_cases σ α j with ⟨eq, hm1⟩ | ⟨eq, hm1⟩
      · rw [eq]
        refine lv_goto (tgt := 23) hx hb dX4_gaugeAt_19 (by decide) ?_
        exact W.aret hx hb hr (Or.inl ⟨_, rfl⟩) (Or.inl rfl) (fun t ht hW => ⟨none, rfl, Or.inr ⟨rfl, (by rw [hgj]; exact ix_none2 (by omega) hm1)⟩, ht⟩) (fun q hq => absurd hq List.not_mem_nil) dX4_gaugeAt_23
      · rw [eq]
        refine lv_goto (tgt := 23) hx hb dX4_gaugeAt_19 (by decide) ?_
        exact W.aret hx hb hr (Or.inl ⟨_, rfl⟩) (Or.inr ⟨_, rfl⟩) (fun t ht hW => ⟨some _, rfl, Or.inl ⟨j, (by rw [hgj]; exact ix_of (by decide) hj hm1), hj, hgj, hm1, rfl⟩, ht⟩) (fun q hq => absurd hq List.not_mem_nil) dX4_gaugeAt_23

set_option maxHeartbeats 4000000 in
set_option maxRecDepth 100000 in
theorem c_X4_tripAt (l : Launch) (D : va_G) (cy : Nat → ClassId) (A : Nat → Prop) (α : AD) (σ : SG) (x : Int32) : Met l yX4_tripAt wsX4_tripAt ({ frames := 0, cells := 0, slots := 0, locals := 0 } : Room) (va_Pc [.ref (α 0 0), .int x] (PB D cy A α (CC cy σ α))) (va_Sq (fun r => (∃ j, tx σ x = some j ∧ j < 8 ∧ x = nI j ∧ σ 20 j ≠ 0 ∧ r = some (α 14 j)) ∨ (r = none ∧ tx σ x = none))) 0 0 (fun _ => False) := by
  refine Met.ofW (cc := cX4_tripAt) (maxL := 2) (ret := (some (.object "TripPanel$Trip"))) (by decide) rfl ?_
  intro p e s m args below meth c s₁ B hml hv
  obtain ⟨rfl, hP, hK⟩ := hv
  have hx := B.exec
  have hb := B.bytes
  have hr := B.returns
  have hts := atoms_spec (ws := wsX4_tripAt) B.pre
  have hown : s.vm.findClass RX4 = some m.cls := findClass_of_methodNamed B.named
  have hlocks := B.notSynchronized
  have hiX4 : ∀ w ∈ wsX40, w ∈ wsX4_tripAt := by decide +kernel
  have hl := lv_entry ([.ref (α 0 0), .int x]) (n := 2) (Nat.le_of_ble_eq_true rfl)
  rw [lg_entry_eq]
  generalize (lg_sl ([.ref (α 0 0), .int x]) ++ List.replicate (2 - (lg_sl ([.ref (α 0 0), .int x])).length) Slot.unset).toArray = ls at hl ⊢
  have hl : lv_has ls 2 [(0, .ref (α 0 0)), (1, .int x)] := hl
  refine lv_iload_n hx hb dX4_tripAt_0 rfl (lv_at hl 1 rfl) ?_
  refine lv_if_lt (x := x) (tgt := 22) hx hb dX4_tripAt_1 (by decide) (fun c1 => ?_) (fun c1 => ?_)
  · refine lv_null hx hb dX4_tripAt_22 ?_
    exact W.aret hx hb hr (Or.inl ⟨_, rfl⟩) (Or.inl rfl) (fun t ht hW => ⟨none, rfl, Or.inr ⟨rfl, ix_none (fun q => absurd q.1 (Int32.not_le.mpr c1))⟩, ht⟩) (fun q hq => absurd hq List.not_mem_nil) dX4_tripAt_23
  · refine lv_iload_n hx hb dX4_tripAt_4 rfl (lv_at hl 1 rfl) ?_
    refine lv_aload_n hx hb dX4_tripAt_5 rfl (lv_at hl 0 rfl) ?_
    refine pw_get (ref := "TripPanel") (C := RX4) (T := TX4) (N := 11) (ci := 4) (fs := (fsP σ α)) (v := .ref (α 3 0)) hx hb hts hiX4 hown hK hP cc_0 rfl 2 (by decide) (by decide +kernel) rfl rfl dX4_tripAt_6 ?_
    refine pw_alen (t0 := 4) (v := 8) hx hb hK hP rfl cc_3 rfl dX4_tripAt_9 ?_
    refine lv_icmp_ge (x := x) (y := 8) (tgt := 22) hx hb dX4_tripAt_10 (by decide) (fun c10 => ?_) (fun c10 => ?_)
    · refine lv_null hx hb dX4_tripAt_22 ?_
      exact W.aret hx hb hr (Or.inl ⟨_, rfl⟩) (Or.inl rfl) (fun t ht hW => ⟨none, rfl, Or.inr ⟨rfl, ix_none (fun q => absurd q.2 (Int32.not_lt.mpr c10))⟩, ht⟩) (fun q hq => absurd hq List.not_mem_nil) dX4_tripAt_23
    · obtain ⟨j, hj, hgj⟩ := in_j (n := 8) (x := x) (by decide) ⟨Int32.not_lt.mp c1, Int32.not_le.mp c10⟩
      refine lv_aload_n hx hb dX4_tripAt_13 rfl (lv_at hl 0 rfl) ?_
      refine pw_get (ref := "TripPanel") (C := RX4) (T := TX4) (N := 11) (ci := 4) (fs := (fsP σ α)) (v := .ref (α 3 0)) hx hb hts hiX4 hown hK hP cc_0 rfl 2 (by decide) (by decide +kernel) rfl rfl dX4_tripAt_14 ?_
      refine lv_iload_n hx hb dX4_tripAt_17 rfl (lv_at hl 1 rfl) ?_
      refine pw_aald (t0 := 4) (C := RX3) (n := 8) (f := (qT σ α)) hx hb hK hP rfl cc_3 j hgj hj (by decide) dX4_tripAt_18 ?_
      rcases qT_cases σ α j with ⟨eq, hm1⟩ | ⟨eq, hm1⟩
      · rw [eq]
        refine lv_goto (tgt := 23) hx hb dX4_tripAt_19 (by decide) ?_
        exact W.aret hx hb hr (Or.inl ⟨_, rfl⟩) (Or.inl rfl) (fun t ht hW => ⟨none, rfl, Or.inr ⟨rfl, (by rw [hgj]; exact ix_none2 (by omega) hm1)⟩, ht⟩) (fun q hq => absurd hq List.not_mem_nil) dX4_tripAt_23
      · rw [eq]
        refine lv_goto (tgt := 23) hx hb dX4_tripAt_19 (by decide) ?_
        exact W.aret hx hb hr (Or.inl ⟨_, rfl⟩) (Or.inr ⟨_, rfl⟩) (fun t ht hW => ⟨some _, rfl, Or.inl ⟨j, (by rw [hgj]; exact ix_of (by decide) hj hm1), hj, hgj, hm1, rfl⟩, ht⟩) (fun q hq => absurd hq List.not_mem_nil) dX4_tripAt_23

set_option maxHeartbeats 4000000 in
set_option maxRecDepth 100000 in
theorem c_X4_conditionAt (l : Launch) (D : va_G) (cy : Nat → ClassId) (A : Nat → Prop) (α : AD) (σ : SG) (x : Int32) : Met l yX4_conditionAt wsX4_conditionAt ({ frames := 1, cells := 0, slots := 0, locals := 21 } : Room) (va_Pc [.ref (α 0 0), .int x] (PB D cy A α (CC cy σ α))) (va_Sq (fun r => (∃ j, cx σ x = some j ∧ j < 24 ∧ x = nI j ∧ σ 11 j ≠ 0 ∧ r = some (α 13 j)) ∨ (r = none ∧ cx σ x = none))) 0 0 (fun _ => False) := by
  refine Met.ofW (cc := cX4_conditionAt) (maxL := 2) (ret := (some (.object "TripPanel$Condition"))) (by decide) rfl ?_
  intro p e s m args below meth c s₁ B hml hv
  obtain ⟨rfl, hP, hK⟩ := hv
  have hx := B.exec
  have hb := B.bytes
  have hr := B.returns
  have hts := atoms_spec (ws := wsX4_conditionAt) B.pre
  have hown : s.vm.findClass RX4 = some m.cls := findClass_of_methodNamed B.named
  have hlocks := B.notSynchronized
  have hiX4 : ∀ w ∈ wsX40, w ∈ wsX4_conditionAt := by decide +kernel
  have hl := lv_entry ([.ref (α 0 0), .int x]) (n := 2) (Nat.le_of_ble_eq_true rfl)
  rw [lg_entry_eq]
  generalize (lg_sl ([.ref (α 0 0), .int x]) ++ List.replicate (2 - (lg_sl ([.ref (α 0 0), .int x])).length) Slot.unset).toArray = ls at hl ⊢
  have hl : lv_has ls 2 [(0, .ref (α 0 0)), (1, .int x)] := hl
  refine lv_aload_n hx hb dX4_conditionAt_0 rfl (lv_at hl 0 rfl) ?_
  refine lv_iload_n hx hb dX4_conditionAt_1 rfl (lv_at hl 1 rfl) ?_
  refine vp_callSi (W.runV (As := [.int x]) (rest := []) ⟨hx, hb, hml, hown, hts⟩ (c_X4_isConditionNumber l D cy A α σ x) (cwV 1 hts gX4_conditionAt_X4_isConditionNumber rfl rfl rfl (by decide +kernel) ⟨Nat.le_of_ble_eq_true rfl, Nat.le_of_ble_eq_true rfl⟩) ⟨pb_blind, pw_recv hP hK cc_0 rfl, pb_pre hP hK⟩ rfl rfl hl.1 rfl (lv_room (Nat.le_of_ble_eq_true rfl)) dX4_conditionAt_2 ⟨Nat.le_of_ble_eq_true rfl, Nat.le_of_ble_eq_true rfl⟩) (fun r hw => ?_)
  rcases hw with ⟨rfl, h1⟩ | ⟨rfl, h1⟩
  · obtain ⟨j2, hj3, hg4⟩ := in_j (n := 24) (by decide) h1
    have hc5 : cN x = j2 := cN_of hg4 (by omega)
    refine lv_if_eq (x := 1) (tgt := 17) hx hb dX4_conditionAt_5 (by decide) (fun c => absurd c (by decide)) (fun c5 => ?_)
    refine lv_aload_n hx hb dX4_conditionAt_8 rfl (lv_at hl 0 rfl) ?_
    refine pw_get (ref := "TripPanel") (C := RX4) (T := TX4) (N := 11) (ci := 4) (fs := (fsP σ α)) (v := .ref (α 2 0)) hx hb hts hiX4 hown hK hP cc_0 rfl 1 (by decide) (by decide +kernel) rfl rfl dX4_conditionAt_9 ?_
    refine lv_iload_n hx hb dX4_conditionAt_12 rfl (lv_at hl 1 rfl) ?_
    refine pw_aald (t0 := 3) (C := RX0) (n := 24) (f := (qC σ α)) hx hb hK hP rfl cc_2 j2 hg4 hj3 (by decide) dX4_conditionAt_13 ?_
    rcases qC_cases σ α j2 with ⟨eq, hm6⟩ | ⟨eq, hm6⟩
    · rw [eq]
      refine lv_goto (tgt := 18) hx hb dX4_conditionAt_14 (by decide) ?_
      exact W.aret hx hb hr (Or.inl ⟨_, rfl⟩) (Or.inl rfl) (fun t ht hW => ⟨none, rfl, Or.inr ⟨rfl, (by rw [hg4]; exact ix_none2 (by omega) hm6)⟩, ht⟩) (fun q hq => absurd hq List.not_mem_nil) dX4_conditionAt_18
    · rw [eq]
      refine lv_goto (tgt := 18) hx hb dX4_conditionAt_14 (by decide) ?_
      exact W.aret hx hb hr (Or.inl ⟨_, rfl⟩) (Or.inr ⟨_, rfl⟩) (fun t ht hW => ⟨some _, rfl, Or.inl ⟨j2, (by rw [hg4]; exact ix_of (by decide) hj3 hm6), hj3, hg4, hm6, rfl⟩, ht⟩) (fun q hq => absurd hq List.not_mem_nil) dX4_conditionAt_18
  · refine lv_if_eq (x := 0) (tgt := 17) hx hb dX4_conditionAt_5 (by decide) (fun c5 => ?_) (fun c => absurd (by decide) c)
    refine lv_null hx hb dX4_conditionAt_17 ?_
    exact W.aret hx hb hr (Or.inl ⟨_, rfl⟩) (Or.inl rfl) (fun t ht hW => ⟨none, rfl, Or.inr ⟨rfl, ix_none h1⟩, ht⟩) (fun q hq => absurd hq List.not_mem_nil) dX4_conditionAt_18

set_option maxHeartbeats 4000000 in
set_option maxRecDepth 100000 in
theorem c_X4_countTaking (l : Launch) (D : va_G) (cy : Nat → ClassId) (A : Nat → Prop) (α : AD) (σ : SG) (hh : Int32) (h3 : hh = 0 ∨ hh = 1 ∨ hh = 2) : Met l yX4_countTaking wsX4_countTaking ({ frames := 0, cells := 0, slots := 0, locals := 0 } : Room) (va_Pc [.ref (α 0 0), .int hh] (PB D cy A α (CC cy σ α))) (va_Qv (fun (u : Unit) => True) (fun u t => PW D A α (CC cy (tookC σ hh) α) t.heap) A) 0 0 A := by
  refine Met.ofW (cc := cX4_countTaking) (maxL := 2) (ret := none) (by decide) rfl ?_
  intro p e s m args below meth c s₁ B hml hv
  obtain ⟨rfl, hP, hK⟩ := hv
  have hx := B.exec
  have hb := B.bytes
  have hr := B.returns
  have hts := atoms_spec (ws := wsX4_countTaking) B.pre
  have hown : s.vm.findClass RX4 = some m.cls := findClass_of_methodNamed B.named
  have hlocks := B.notSynchronized
  have hiX4 : ∀ w ∈ wsX40, w ∈ wsX4_countTaking := by decide +kernel
  have hS : va_S A s.heap s.heap [] := va_S.rf
  have hl := lv_entry ([.ref (α 0 0), .int hh]) (n := 2) (Nat.le_of_ble_eq_true rfl)
  rw [lg_entry_eq]
  generalize (lg_sl ([.ref (α 0 0), .int hh]) ++ List.replicate (2 - (lg_sl ([.ref (α 0 0), .int hh])).length) Slot.unset).toArray = ls at hl ⊢
  have hl : lv_has ls 2 [(0, .ref (α 0 0)), (1, .int hh)] := hl
  skip
  refine lv_iload_n hx hb dX4_countTaking_0 rfl (lv_at hl 1 rfl) ?_
  refine lv_iconst (v := 2) hx hb dX4_countTaking_1 (by decide) ?_
  refine lv_icmp_ne (x := hh) (y := 2) (tgt := 18) hx hb dX4_countTaking_2 (by decide) (fun c2 => ?_) (fun c2 => ?_)
  · refine lv_iload_n hx hb dX4_countTaking_18 rfl (lv_at hl 1 rfl) ?_
    refine lv_iconst (v := 1) hx hb dX4_countTaking_19 (by decide) ?_
    refine lv_icmp_ne (x := hh) (y := 1) (tgt := 36) hx hb dX4_countTaking_20 (by decide) (fun c20 => ?_) (fun c20 => ?_)
    · have h0 : hh = 0 := h3.resolve_right (fun q => q.elim c20 c2)
      refine lv_aload_n hx hb dX4_countTaking_36 rfl (lv_at hl 0 rfl) ?_
      refine lv_dup hx hb dX4_countTaking_37 rfl ?_
      refine pw_get (ref := "TripPanel") (C := RX4) (T := TX4) (N := 11) (ci := 4) (fs := (fsP σ α)) (v := .int (σ 28 0)) hx hb hts hiX4 hown hK hP cc_0 rfl 9 (by decide) (by decide +kernel) rfl rfl dX4_countTaking_38 ?_
      refine lv_iconst (v := 1) hx hb dX4_countTaking_41 (by decide) ?_
      refine lv_iadd hx hb dX4_countTaking_42 ?_
      refine pw_put (ref := "TripPanel") (C := RX4) (T := TX4) (N := 11) (ci := 4) (fs := (fsP σ α)) (v := .int ((σ 28 0) + 1)) (ty := .int) hx hb hts hiX4 tyX4 tyX4_ok nmX4 hown hK hP hS cc_0 rfl 9 (by decide) (by decide +kernel) rfl rfl (by decide +kernel) rfl rfl (Nat.le_of_ble_eq_true rfl) dX4_countTaking_43 (fun H locs hP hz hS => ?_)
      rw [cc_p28 (σ := σ)] at hP
      exact W.vret hx hb hr (fun t ht hW => ⟨⟨(), rfl, trivial, by dsimp only; rw [ht]; exact (by rw [h0]; exact hP)⟩, hS.F ht⟩) hS.2.2 dX4_countTaking_46
    · refine lv_aload_n hx hb dX4_countTaking_23 rfl (lv_at hl 0 rfl) ?_
      refine lv_dup hx hb dX4_countTaking_24 rfl ?_
      refine pw_get (ref := "TripPanel") (C := RX4) (T := TX4) (N := 11) (ci := 4) (fs := (fsP σ α)) (v := .int (σ 27 0)) hx hb hts hiX4 hown hK hP cc_0 rfl 8 (by decide) (by decide +kernel) rfl rfl dX4_countTaking_25 ?_
      refine lv_iconst (v := 1) hx hb dX4_countTaking_28 (by decide) ?_
      refine lv_iadd hx hb dX4_countTaking_29 ?_
      refine pw_put (ref := "TripPanel") (C := RX4) (T := TX4) (N := 11) (ci := 4) (fs := (fsP σ α)) (v := .int ((σ 27 0) + 1)) (ty := .int) hx hb hts hiX4 tyX4 tyX4_ok nmX4 hown hK hP hS cc_0 rfl 8 (by decide) (by decide +kernel) rfl rfl (by decide +kernel) rfl rfl (Nat.le_of_ble_eq_true rfl) dX4_countTaking_30 (fun H locs hP hz hS => ?_)
      rw [cc_p27 (σ := σ)] at hP
      refine lv_goto (tgt := 46) hx hb dX4_countTaking_33 (by decide) ?_
      exact W.vret hx hb hr (fun t ht hW => ⟨⟨(), rfl, trivial, by dsimp only; rw [ht]; exact (by rw [c20]; exact hP)⟩, hS.F ht⟩) hS.2.2 dX4_countTaking_46
  · refine lv_aload_n hx hb dX4_countTaking_5 rfl (lv_at hl 0 rfl) ?_
    refine lv_dup hx hb dX4_countTaking_6 rfl ?_
    refine pw_get (ref := "TripPanel") (C := RX4) (T := TX4) (N := 11) (ci := 4) (fs := (fsP σ α)) (v := .int (σ 26 0)) hx hb hts hiX4 hown hK hP cc_0 rfl 7 (by decide) (by decide +kernel) rfl rfl dX4_countTaking_7 ?_
    refine lv_iconst (v := 1) hx hb dX4_countTaking_10 (by decide) ?_
    refine lv_iadd hx hb dX4_countTaking_11 ?_
    refine pw_put (ref := "TripPanel") (C := RX4) (T := TX4) (N := 11) (ci := 4) (fs := (fsP σ α)) (v := .int ((σ 26 0) + 1)) (ty := .int) hx hb hts hiX4 tyX4 tyX4_ok nmX4 hown hK hP hS cc_0 rfl 7 (by decide) (by decide +kernel) rfl rfl (by decide +kernel) rfl rfl (Nat.le_of_ble_eq_true rfl) dX4_countTaking_12 (fun H locs hP hz hS => ?_)
    rw [cc_p26 (σ := σ)] at hP
    refine lv_goto (tgt := 46) hx hb dX4_countTaking_15 (by decide) ?_
    exact W.vret hx hb hr (fun t ht hW => ⟨⟨(), rfl, trivial, by dsimp only; rw [ht]; exact (by rw [c2]; exact hP)⟩, hS.F ht⟩) hS.2.2 dX4_countTaking_46

set_option maxHeartbeats 4000000 in
set_option maxRecDepth 100000 in
theorem c_X4_limit (l : Launch) (D : va_G) (cy : Nat → ClassId) (A : Nat → Prop) (α : AD) (σ : SG) (g b n : Int32) : Met l yX4_limit wsX4_limit ({ frames := 1, cells := 0, slots := 0, locals := 22 } : Room) (va_Pc [.ref (α 0 0), .int g, .int b, .int n] (PB D cy A α (CC cy σ α))) (va_Qi (fun (r : Int32) (u : Unit) => r = (F_limit σ g b n).1) (fun u t => PW D A α (CC cy (F_limit σ g b n).2 α) t.heap) A) 0 0 A := by
  refine Met.ofW (cc := cX4_limit) (maxL := 5) (ret := (some .int)) (by decide) rfl ?_
  intro p e s m args below meth c s₁ B hml hv
  obtain ⟨rfl, hP, hK⟩ := hv
  have hx := B.exec
  have hb := B.bytes
  have hr := B.returns
  have hts := atoms_spec (ws := wsX4_limit) B.pre
  have hown : s.vm.findClass RX4 = some m.cls := findClass_of_methodNamed B.named
  have hlocks := B.notSynchronized
  have hiX4 : ∀ w ∈ wsX40, w ∈ wsX4_limit := by decide +kernel
  have hS : va_S A s.heap s.heap [] := va_S.rf
  have hl := lv_entry ([.ref (α 0 0), .int g, .int b, .int n]) (n := 5) (Nat.le_of_ble_eq_true rfl)
  rw [lg_entry_eq]
  generalize (lg_sl ([.ref (α 0 0), .int g, .int b, .int n]) ++ List.replicate (5 - (lg_sl ([.ref (α 0 0), .int g, .int b, .int n])).length) Slot.unset).toArray = ls at hl ⊢
  have hl : lv_has ls 5 [(0, .ref (α 0 0)), (1, .int g), (2, .int b), (3, .int n)] := hl
  skip
  refine lv_iload_n hx hb dX4_limit_0 rfl (lv_at hl 3 rfl) ?_
  refine vp_callSi (W.runS (As := [.int n]) (rest := []) ⟨hx, hb, hml, hown, hts⟩ (c_X4_isNumber l n) (va_cwS 1 hts gX4_limit_X4_isNumber rfl rfl rfl (by decide +kernel) ⟨Nat.le_of_ble_eq_true rfl, Nat.le_of_ble_eq_true rfl⟩) ⟨pt_blind, pt_pre⟩ rfl rfl hl.1 rfl (lv_room (Nat.le_of_ble_eq_true rfl)) dX4_limit_1 ⟨Nat.le_of_ble_eq_true rfl, Nat.le_of_ble_eq_true rfl⟩) (fun r hw => ?_)
  rcases hw with ⟨rfl, h1⟩ | ⟨rfl, h1⟩
  · refine lv_if_ne (x := 1) (tgt := 10) hx hb dX4_limit_4 (by decide) (fun c4 => ?_) (fun c => absurd c (by decide))
    refine lv_aload_n hx hb dX4_limit_10 rfl (lv_at hl 0 rfl) ?_
    refine lv_iload_n hx hb dX4_limit_11 rfl (lv_at hl 1 rfl) ?_
    refine va_csq (W.runV (As := [.int g]) (rest := []) ⟨hx, hb, hml, hown, hts⟩ (c_X4_gaugeAt l D cy A α σ g) (cwV 1 hts gX4_limit_X4_gaugeAt rfl rfl rfl (by decide +kernel) ⟨Nat.le_of_ble_eq_true rfl, Nat.le_of_ble_eq_true rfl⟩) ⟨pb_blind, pw_recv hP hK cc_0 rfl, pb_pre hP hK⟩ rfl rfl hl.1 rfl (lv_room (Nat.le_of_ble_eq_true rfl)) dX4_limit_12 ⟨Nat.le_of_ble_eq_true rfl, Nat.le_of_ble_eq_true rfl⟩) (fun r hw => ?_)
    rcases hw with ⟨j2, hx3, hj4, hg5, hm6, rfl⟩ | ⟨rfl, h7⟩
    · refine lv_astore (lv' := [(4, .ref (α 10 j2)), (0, .ref (α 0 0)), (1, .int g), (2, .int b), (3, .int n)]) hx hb dX4_limit_15 hl (by decide) rfl (fun ls hl => ?_)
      refine lv_aload hx hb dX4_limit_17 (lv_at hl 0 rfl) ?_
      refine lv_ifnonnull (tgt := 25) hx hb dX4_limit_19 (by decide) ?_
      refine lv_aload hx hb dX4_limit_25 (lv_at hl 0 rfl) ?_
      refine lv_iload_n hx hb dX4_limit_27 rfl (lv_at hl 3 rfl) ?_
      refine lv_iload_n hx hb dX4_limit_28 rfl (lv_at hl 4 rfl) ?_
      refine va_callv (va_runV (As := [.int b, .int n]) (rest := []) ⟨hx, hb, hml, hown, hts⟩ (c_X1_putLimit l D cy A α σ j2 hj4 hm6 b n) (cwV 2 hts gX4_limit_X1_putLimit rfl rfl rfl (by decide +kernel) ⟨Nat.le_of_ble_eq_true rfl, Nat.le_of_ble_eq_true rfl⟩) ⟨pb_blind, pw_recv hP hK (cc_10 hj4 hm6) rfl, pb_pre hP hK⟩ rfl rfl hl.1 rfl (lv_room (Nat.le_of_ble_eq_true rfl)) dX4_limit_29 ⟨Nat.le_of_ble_eq_true rfl, Nat.le_of_ble_eq_true rfl⟩) hS (fun _ _ h => h) (fun _ h => h) (fun u t H locs ht hvm hw hB hz1 hk1 hS => ?_)
      have hP := hB
      rw [ht] at hP
      refine W.cs (cells' := 0) (slots' := 0) rfl rfl ?_
      refine lv_iconst (v := 1) hx hb dX4_limit_32 (by decide) ?_
      have eF : F_limit σ g b n = (1, (if b = 0 then st σ 3 j2 n else st σ 4 j2 n)) := by simp [F_limit, h1, hx3]
      exact W.iret (v := 1) hx hb hr (fun t ht hW => ⟨⟨_, (), rfl, (by rw [eF]), by dsimp only; rw [ht]; exact (by rw [eF]; exact hP)⟩, hS.F ht⟩) hS.2.2 dX4_limit_33
    · refine lv_astoreN (lv' := [(4, .null), (0, .ref (α 0 0)), (1, .int g), (2, .int b), (3, .int n)]) hx hb dX4_limit_15 hl (by decide) rfl (fun ls hl => ?_)
      refine lv_aloadN hx hb dX4_limit_17 (lv_at hl 0 rfl) ?_
      refine lv_ifnonnullN hx hb dX4_limit_19 ?_
      refine lv_bipush (v := (-2)) hx hb dX4_limit_22 (by decide) ?_
      have eF : F_limit σ g b n = ((-2), σ) := by simp [F_limit, h1, h7]
      exact W.iret (v := (-2)) hx hb hr (fun t ht hW => ⟨⟨_, (), rfl, (by rw [eF]), by dsimp only; rw [ht]; exact (by rw [eF]; exact hP)⟩, hS.F ht⟩) hS.2.2 dX4_limit_24
  · refine lv_if_ne (x := 0) (tgt := 10) hx hb dX4_limit_4 (by decide) (fun c => absurd (by decide) c) (fun c4 => ?_)
    refine lv_bipush (v := (-4)) hx hb dX4_limit_7 (by decide) ?_
    have eF : F_limit σ g b n = ((-4), σ) := by simp [F_limit, h1]
    exact W.iret (v := (-4)) hx hb hr (fun t ht hW => ⟨⟨_, (), rfl, (by rw [eF]), by dsimp only; rw [ht]; exact (by rw [eF]; exact hP)⟩, hS.F ht⟩) hS.2.2 dX4_limit_9

set_option maxHeartbeats 4000000 in
set_option maxRecDepth 100000 in
theorem c_X4_open (l : Launch) (D : va_G) (cy : Nat → ClassId) (A : Nat → Prop) (α : AD) (σ : SG) (g b : Int32) : Met l yX4_open wsX4_open ({ frames := 1, cells := 0, slots := 0, locals := 22 } : Room) (va_Pc [.ref (α 0 0), .int g, .int b] (PB D cy A α (CC cy σ α))) (va_Qi (fun (r : Int32) (u : Unit) => r = (F_open σ g b).1) (fun u t => PW D A α (CC cy (F_open σ g b).2 α) t.heap) A) 0 0 A := by
  refine Met.ofW (cc := cX4_open) (maxL := 5) (ret := (some .int)) (by decide) rfl ?_
  intro p e s m args below meth c s₁ B hml hv
  obtain ⟨rfl, hP, hK⟩ := hv
  have hx := B.exec
  have hb := B.bytes
  have hr := B.returns
  have hts := atoms_spec (ws := wsX4_open) B.pre
  have hown : s.vm.findClass RX4 = some m.cls := findClass_of_methodNamed B.named
  have hlocks := B.notSynchronized
  have hiX4 : ∀ w ∈ wsX40, w ∈ wsX4_open := by decide +kernel
  have hS : va_S A s.heap s.heap [] := va_S.rf
  have hl := lv_entry ([.ref (α 0 0), .int g, .int b]) (n := 5) (Nat.le_of_ble_eq_true rfl)
  rw [lg_entry_eq]
  generalize (lg_sl ([.ref (α 0 0), .int g, .int b]) ++ List.replicate (5 - (lg_sl ([.ref (α 0 0), .int g, .int b])).length) Slot.unset).toArray = ls at hl ⊢
  have hl : lv_has ls 5 [(0, .ref (α 0 0)), (1, .int g), (2, .int b)] := hl
  skip
  refine lv_aload_n hx hb dX4_open_0 rfl (lv_at hl 0 rfl) ?_
  refine lv_iload_n hx hb dX4_open_1 rfl (lv_at hl 1 rfl) ?_
  refine va_csq (W.runV (As := [.int g]) (rest := []) ⟨hx, hb, hml, hown, hts⟩ (c_X4_gaugeAt l D cy A α σ g) (cwV 1 hts gX4_open_X4_gaugeAt rfl rfl rfl (by decide +kernel) ⟨Nat.le_of_ble_eq_true rfl, Nat.le_of_ble_eq_true rfl⟩) ⟨pb_blind, pw_recv hP hK cc_0 rfl, pb_pre hP hK⟩ rfl rfl hl.1 rfl (lv_room (Nat.le_of_ble_eq_true rfl)) dX4_open_2 ⟨Nat.le_of_ble_eq_true rfl, Nat.le_of_ble_eq_true rfl⟩) (fun r hw => ?_)
  rcases hw with ⟨j1, hx2, hj3, hg4, hm5, rfl⟩ | ⟨rfl, h6⟩
  · refine lv_astore_n (lv' := [(3, .ref (α 10 j1)), (0, .ref (α 0 0)), (1, .int g), (2, .int b)]) hx hb dX4_open_5 rfl hl (by decide) rfl (fun ls hl => ?_)
    refine lv_aload_n hx hb dX4_open_6 rfl (lv_at hl 0 rfl) ?_
    refine lv_ifnonnull (tgt := 13) hx hb dX4_open_7 (by decide) ?_
    refine lv_aload_n hx hb dX4_open_13 rfl (lv_at hl 0 rfl) ?_
    refine lv_iload_n hx hb dX4_open_14 rfl (lv_at hl 3 rfl) ?_
    refine vp_callSi (W.runV (As := [.int b]) (rest := []) ⟨hx, hb, hml, hown, hts⟩ (c_X1_hasLimit l D cy A α σ j1 hj3 hm5 b) (cwV 1 hts gX4_open_X1_hasLimit rfl rfl rfl (by decide +kernel) ⟨Nat.le_of_ble_eq_true rfl, Nat.le_of_ble_eq_true rfl⟩) ⟨pb_blind, pw_recv hP hK (cc_10 hj3 hm5) rfl, pb_pre hP hK⟩ rfl rfl hl.1 rfl (lv_room (Nat.le_of_ble_eq_true rfl)) dX4_open_15 ⟨Nat.le_of_ble_eq_true rfl, Nat.le_of_ble_eq_true rfl⟩) (fun r hw => ?_)
    rcases hw with ⟨rfl, h7⟩ | ⟨rfl, h7⟩
    · refine lv_istore (lv' := [(4, .int 1), (3, .ref (α 10 j1)), (0, .ref (α 0 0)), (1, .int g), (2, .int b)]) hx hb dX4_open_18 hl (by decide) rfl (fun ls hl => ?_)
      refine lv_aload_n hx hb dX4_open_20 rfl (lv_at hl 1 rfl) ?_
      refine lv_iload_n hx hb dX4_open_21 rfl (lv_at hl 4 rfl) ?_
      refine lv_ldc hx hb hown (hts (.constant RX4 77 (2000000000)) (by decide +kernel)) dX4_open_22 ?_
      refine va_callv (va_runV (As := [.int b, .int 2000000000]) (rest := []) ⟨hx, hb, hml, hown, hts⟩ (c_X1_putLimit l D cy A α σ j1 hj3 hm5 b 2000000000) (cwV 2 hts gX4_open_X1_putLimit rfl rfl rfl (by decide +kernel) ⟨Nat.le_of_ble_eq_true rfl, Nat.le_of_ble_eq_true rfl⟩) ⟨pb_blind, pw_recv hP hK (cc_10 hj3 hm5) rfl, pb_pre hP hK⟩ rfl rfl hl.1 rfl (lv_room (Nat.le_of_ble_eq_true rfl)) dX4_open_24 ⟨Nat.le_of_ble_eq_true rfl, Nat.le_of_ble_eq_true rfl⟩) hS (fun _ _ h => h) (fun _ h => h) (fun u t H locs ht hvm hw hB hz1 hk1 hS => ?_)
      have hP := hB
      rw [ht] at hP
      refine W.cs (cells' := 0) (slots' := 0) rfl rfl ?_
      refine lv_iload hx hb dX4_open_27 (lv_at hl 0 rfl) ?_
      refine vp_callSi (W.runS (As := [.int 1]) (rest := []) ⟨hx, hb, hml, hown, hts⟩ (c_X4_asAnswer l 1) (va_cwS 1 hts gX4_open_X4_asAnswer rfl rfl rfl (by decide +kernel) ⟨Nat.le_of_ble_eq_true rfl, Nat.le_of_ble_eq_true rfl⟩) ⟨pt_blind, pt_pre⟩ rfl rfl hl.1 rfl (lv_room (Nat.le_of_ble_eq_true rfl)) dX4_open_29 ⟨Nat.le_of_ble_eq_true rfl, Nat.le_of_ble_eq_true rfl⟩) (fun r hw => ?_)
      have hw : r = 1 := by rw [hw]; decide
      subst hw
      have eF : F_open σ g b = (1, (if b = 0 then st σ 3 j1 2000000000 else st σ 4 j1 2000000000)) := by rw [F_open_eq hx2, if_neg h7]
      exact W.iret (v := 1) hx hb hr (fun t ht hW => ⟨⟨_, (), rfl, (by rw [eF]), by dsimp only; rw [ht]; exact (by rw [eF]; exact hP)⟩, hS.F ht⟩) hS.2.2 dX4_open_32
    · refine lv_istore (lv' := [(4, .int 0), (3, .ref (α 10 j1)), (0, .ref (α 0 0)), (1, .int g), (2, .int b)]) hx hb dX4_open_18 hl (by decide) rfl (fun ls hl => ?_)
      refine lv_aload_n hx hb dX4_open_20 rfl (lv_at hl 1 rfl) ?_
      refine lv_iload_n hx hb dX4_open_21 rfl (lv_at hl 4 rfl) ?_
      refine lv_ldc hx hb hown (hts (.constant RX4 77 (2000000000)) (by decide +kernel)) dX4_open_22 ?_
      refine va_callv (va_runV (As := [.int b, .int 2000000000]) (rest := []) ⟨hx, hb, hml, hown, hts⟩ (c_X1_putLimit l D cy A α σ j1 hj3 hm5 b 2000000000) (cwV 2 hts gX4_open_X1_putLimit rfl rfl rfl (by decide +kernel) ⟨Nat.le_of_ble_eq_true rfl, Nat.le_of_ble_eq_true rfl⟩) ⟨pb_blind, pw_recv hP hK (cc_10 hj3 hm5) rfl, pb_pre hP hK⟩ rfl rfl hl.1 rfl (lv_room (Nat.le_of_ble_eq_true rfl)) dX4_open_24 ⟨Nat.le_of_ble_eq_true rfl, Nat.le_of_ble_eq_true rfl⟩) hS (fun _ _ h => h) (fun _ h => h) (fun u t H locs ht hvm hw hB hz1 hk1 hS => ?_)
      have hP := hB
      rw [ht] at hP
      refine W.cs (cells' := 0) (slots' := 0) rfl rfl ?_
      refine lv_iload hx hb dX4_open_27 (lv_at hl 0 rfl) ?_
      refine vp_callSi (W.runS (As := [.int 0]) (rest := []) ⟨hx, hb, hml, hown, hts⟩ (c_X4_asAnswer l 0) (va_cwS 1 hts gX4_open_X4_asAnswer rfl rfl rfl (by decide +kernel) ⟨Nat.le_of_ble_eq_true rfl, Nat.le_of_ble_eq_true rfl⟩) ⟨pt_blind, pt_pre⟩ rfl rfl hl.1 rfl (lv_room (Nat.le_of_ble_eq_true rfl)) dX4_open_29 ⟨Nat.le_of_ble_eq_true rfl, Nat.le_of_ble_eq_true rfl⟩) (fun r hw => ?_)
      have hw : r = 0 := by rw [hw]; decide
      subst hw
      have eF : F_open σ g b = (0, (if b = 0 then st σ 3 j1 2000000000 else st σ 4 j1 2000000000)) := by rw [F_open_eq hx2, if_pos (Classical.not_not.mp h7)]
      exact W.iret (v := 0) hx hb hr (fun t ht hW => ⟨⟨_, (), rfl, (by rw [eF]), by dsimp only; rw [ht]; exact (by rw [eF]; exact hP)⟩, hS.F ht⟩) hS.2.2 dX4_open_32
  · refine lv_astore_nN (lv' := [(3, .null), (0, .ref (α 0 0)), (1, .int g), (2, .int b)]) hx hb dX4_open_5 rfl hl (by decide) rfl (fun ls hl => ?_)
    refine lv_aload_nN hx hb dX4_open_6 rfl (lv_at hl 0 rfl) ?_
    refine lv_ifnonnullN hx hb dX4_open_7 ?_
    refine lv_bipush (v := (-2)) hx hb dX4_open_10 (by decide) ?_
    have eF : F_open σ g b = ((-2), σ) := by simp [F_open, h6]
    exact W.iret (v := (-2)) hx hb hr (fun t ht hW => ⟨⟨_, (), rfl, (by rw [eF]), by dsimp only; rw [ht]; exact (by rw [eF]; exact hP)⟩, hS.F ht⟩) hS.2.2 dX4_open_12

set_option maxHeartbeats 4000000 in
set_option maxRecDepth 100000 in
theorem c_X4_band (l : Launch) (D : va_G) (cy : Nat → ClassId) (A : Nat → Prop) (α : AD) (σ : SG) (g n : Int32) : Met l yX4_band wsX4_band ({ frames := 1, cells := 0, slots := 0, locals := 21 } : Room) (va_Pc [.ref (α 0 0), .int g, .int n] (PB D cy A α (CC cy σ α))) (va_Qi (fun (r : Int32) (u : Unit) => r = (F_band σ g n).1) (fun u t => PW D A α (CC cy (F_band σ g n).2 α) t.heap) A) 0 0 A := by
  refine Met.ofW (cc := cX4_band) (maxL := 4) (ret := (some .int)) (by decide) rfl ?_
  intro p e s m args below meth c s₁ B hml hv
  obtain ⟨rfl, hP, hK⟩ := hv
  have hx := B.exec
  have hb := B.bytes
  have hr := B.returns
  have hts := atoms_spec (ws := wsX4_band) B.pre
  have hown : s.vm.findClass RX4 = some m.cls := findClass_of_methodNamed B.named
  have hlocks := B.notSynchronized
  have hiX4 : ∀ w ∈ wsX40, w ∈ wsX4_band := by decide +kernel
  have hiX1 : ∀ w ∈ wsX10, w ∈ wsX4_band := by decide +kernel
  have hS : va_S A s.heap s.heap [] := va_S.rf
  have hl := lv_entry ([.ref (α 0 0), .int g, .int n]) (n := 4) (Nat.le_of_ble_eq_true rfl)
  rw [lg_entry_eq]
  generalize (lg_sl ([.ref (α 0 0), .int g, .int n]) ++ List.replicate (4 - (lg_sl ([.ref (α 0 0), .int g, .int n])).length) Slot.unset).toArray = ls at hl ⊢
  have hl : lv_has ls 4 [(0, .ref (α 0 0)), (1, .int g), (2, .int n)] := hl
  skip
  refine lv_iload_n hx hb dX4_band_0 rfl (lv_at hl 2 rfl) ?_
  refine lv_if_lt (x := n) (tgt := 10) hx hb dX4_band_1 (by decide) (fun c1 => ?_) (fun c1 => ?_)
  · refine lv_bipush (v := (-4)) hx hb dX4_band_10 (by decide) ?_
    have eF : F_band σ g n = ((-4), σ) := by simp [F_band, c1]
    exact W.iret (v := (-4)) hx hb hr (fun t ht hW => ⟨⟨_, (), rfl, (by rw [eF]), by dsimp only; rw [ht]; exact (by rw [eF]; exact hP)⟩, hS.F ht⟩) hS.2.2 dX4_band_12
  · refine lv_iload_n hx hb dX4_band_4 rfl (lv_at hl 2 rfl) ?_
    refine lv_ldc hx hb hown (hts (.constant RX4 82 (1000000)) (by decide +kernel)) dX4_band_5 ?_
    refine lv_icmp_le (x := n) (y := 1000000) (tgt := 13) hx hb dX4_band_7 (by decide) (fun c7 => ?_) (fun c7 => ?_)
    · refine lv_aload_n hx hb dX4_band_13 rfl (lv_at hl 0 rfl) ?_
      refine lv_iload_n hx hb dX4_band_14 rfl (lv_at hl 1 rfl) ?_
      refine va_csq (W.runV (As := [.int g]) (rest := []) ⟨hx, hb, hml, hown, hts⟩ (c_X4_gaugeAt l D cy A α σ g) (cwV 1 hts gX4_band_X4_gaugeAt rfl rfl rfl (by decide +kernel) ⟨Nat.le_of_ble_eq_true rfl, Nat.le_of_ble_eq_true rfl⟩) ⟨pb_blind, pw_recv hP hK cc_0 rfl, pb_pre hP hK⟩ rfl rfl hl.1 rfl (lv_room (Nat.le_of_ble_eq_true rfl)) dX4_band_15 ⟨Nat.le_of_ble_eq_true rfl, Nat.le_of_ble_eq_true rfl⟩) (fun r hw => ?_)
      rcases hw with ⟨j1, hx2, hj3, hg4, hm5, rfl⟩ | ⟨rfl, h6⟩
      · refine lv_astore_n (lv' := [(3, .ref (α 10 j1)), (0, .ref (α 0 0)), (1, .int g), (2, .int n)]) hx hb dX4_band_18 rfl hl (by decide) rfl (fun ls hl => ?_)
        refine lv_aload_n hx hb dX4_band_19 rfl (lv_at hl 0 rfl) ?_
        refine lv_ifnonnull (tgt := 26) hx hb dX4_band_20 (by decide) ?_
        refine lv_aload_n hx hb dX4_band_26 rfl (lv_at hl 0 rfl) ?_
        refine lv_iload_n hx hb dX4_band_27 rfl (lv_at hl 3 rfl) ?_
        refine pw_put (ref := "TripPanel$Gauge") (C := RX1) (T := TX1) (N := 9) (ci := 1) (fs := (fsG σ α j1)) (v := .int n) (ty := .int) hx hb hts hiX1 tyX1 tyX1_ok nmX1 hown hK hP hS (cc_10 hj3 hm5) rfl 5 (by decide) (by decide +kernel) rfl rfl (by decide +kernel) rfl rfl (Nat.le_of_ble_eq_true rfl) dX4_band_28 (fun H locs hP hz hS => ?_)
        rw [cc_g5 (σ := σ) hj3 hm5] at hP
        refine lv_iconst (v := 1) hx hb dX4_band_31 (by decide) ?_
        have eF : F_band σ g n = (1, (st σ 5 j1 n)) := by simp [F_band, hx2, c1, c7]
        exact W.iret (v := 1) hx hb hr (fun t ht hW => ⟨⟨_, (), rfl, (by rw [eF]), by dsimp only; rw [ht]; exact (by rw [eF]; exact hP)⟩, hS.F ht⟩) hS.2.2 dX4_band_32
      · refine lv_astore_nN (lv' := [(3, .null), (0, .ref (α 0 0)), (1, .int g), (2, .int n)]) hx hb dX4_band_18 rfl hl (by decide) rfl (fun ls hl => ?_)
        refine lv_aload_nN hx hb dX4_band_19 rfl (lv_at hl 0 rfl) ?_
        refine lv_ifnonnullN hx hb dX4_band_20 ?_
        refine lv_bipush (v := (-2)) hx hb dX4_band_23 (by decide) ?_
        have eF : F_band σ g n = ((-2), σ) := by simp [F_band, h6, c1, c7]
        exact W.iret (v := (-2)) hx hb hr (fun t ht hW => ⟨⟨_, (), rfl, (by rw [eF]), by dsimp only; rw [ht]; exact (by rw [eF]; exact hP)⟩, hS.F ht⟩) hS.2.2 dX4_band_25
    · refine lv_bipush (v := (-4)) hx hb dX4_band_10 (by decide) ?_
      have eF : F_band σ g n = ((-4), σ) := by simp [F_band, c7]
      exact W.iret (v := (-4)) hx hb hr (fun t ht hW => ⟨⟨_, (), rfl, (by rw [eF]), by dsimp only; rw [ht]; exact (by rw [eF]; exact hP)⟩, hS.F ht⟩) hS.2.2 dX4_band_12

set_option maxHeartbeats 4000000 in
set_option maxRecDepth 100000 in
theorem c_X4_take (l : Launch) (D : va_G) (cy : Nat → ClassId) (A : Nat → Prop) (α : AD) (σ : SG) (g n : Int32) (hG : ∀ g, g < 16 → okG σ g) : Met l yX4_take wsX4_take ({ frames := 5, cells := 0, slots := 0, locals := 112 } : Room) (va_Pc [.ref (α 0 0), .int g, .int n] (PB D cy A α (CC cy σ α))) (va_Qi (fun (r : Int32) (u : Unit) => r = (F_take σ g n).1) (fun u t => PW D A α (CC cy (F_take σ g n).2 α) t.heap) A) 0 0 A := by
  refine Met.ofW (cc := cX4_take) (maxL := 5) (ret := (some .int)) (by decide) rfl ?_
  intro p e s m args below meth c s₁ B hml hv
  obtain ⟨rfl, hP, hK⟩ := hv
  have hx := B.exec
  have hb := B.bytes
  have hr := B.returns
  have hts := atoms_spec (ws := wsX4_take) B.pre
  have hown : s.vm.findClass RX4 = some m.cls := findClass_of_methodNamed B.named
  have hlocks := B.notSynchronized
  have hiX4 : ∀ w ∈ wsX40, w ∈ wsX4_take := by decide +kernel
  have hS : va_S A s.heap s.heap [] := va_S.rf
  have hl := lv_entry ([.ref (α 0 0), .int g, .int n]) (n := 5) (Nat.le_of_ble_eq_true rfl)
  rw [lg_entry_eq]
  generalize (lg_sl ([.ref (α 0 0), .int g, .int n]) ++ List.replicate (5 - (lg_sl ([.ref (α 0 0), .int g, .int n])).length) Slot.unset).toArray = ls at hl ⊢
  have hl : lv_has ls 5 [(0, .ref (α 0 0)), (1, .int g), (2, .int n)] := hl
  skip
  refine lv_iload_n hx hb dX4_take_0 rfl (lv_at hl 2 rfl) ?_
  refine vp_callSi (W.runS (As := [.int n]) (rest := []) ⟨hx, hb, hml, hown, hts⟩ (c_X4_isNumber l n) (va_cwS 1 hts gX4_take_X4_isNumber rfl rfl rfl (by decide +kernel) ⟨Nat.le_of_ble_eq_true rfl, Nat.le_of_ble_eq_true rfl⟩) ⟨pt_blind, pt_pre⟩ rfl rfl hl.1 rfl (lv_room (Nat.le_of_ble_eq_true rfl)) dX4_take_1 ⟨Nat.le_of_ble_eq_true rfl, Nat.le_of_ble_eq_true rfl⟩) (fun r hw => ?_)
  rcases hw with ⟨rfl, h1⟩ | ⟨rfl, h1⟩
  · refine lv_if_ne (x := 1) (tgt := 10) hx hb dX4_take_4 (by decide) (fun c4 => ?_) (fun c => absurd c (by decide))
    refine lv_aload_n hx hb dX4_take_10 rfl (lv_at hl 0 rfl) ?_
    refine lv_iload_n hx hb dX4_take_11 rfl (lv_at hl 1 rfl) ?_
    refine va_csq (W.runV (As := [.int g]) (rest := []) ⟨hx, hb, hml, hown, hts⟩ (c_X4_gaugeAt l D cy A α σ g) (cwV 1 hts gX4_take_X4_gaugeAt rfl rfl rfl (by decide +kernel) ⟨Nat.le_of_ble_eq_true rfl, Nat.le_of_ble_eq_true rfl⟩) ⟨pb_blind, pw_recv hP hK cc_0 rfl, pb_pre hP hK⟩ rfl rfl hl.1 rfl (lv_room (Nat.le_of_ble_eq_true rfl)) dX4_take_12 ⟨Nat.le_of_ble_eq_true rfl, Nat.le_of_ble_eq_true rfl⟩) (fun r hw => ?_)
    rcases hw with ⟨j2, hx3, hj4, hg5, hm6, rfl⟩ | ⟨rfl, h7⟩
    · refine lv_astore_n (lv' := [(3, .ref (α 10 j2)), (0, .ref (α 0 0)), (1, .int g), (2, .int n)]) hx hb dX4_take_15 rfl hl (by decide) rfl (fun ls hl => ?_)
      refine lv_aload_n hx hb dX4_take_16 rfl (lv_at hl 0 rfl) ?_
      refine lv_ifnonnull (tgt := 23) hx hb dX4_take_17 (by decide) ?_
      refine lv_aload_n hx hb dX4_take_23 rfl (lv_at hl 0 rfl) ?_
      refine lv_iload_n hx hb dX4_take_24 rfl (lv_at hl 3 rfl) ?_
      refine va_calli (va_runV (As := [.int n]) (rest := []) ⟨hx, hb, hml, hown, hts⟩ (c_X1_receive l D cy A α σ j2 hj4 hm6 n h1 (hG j2 hj4)) (cwV 1 hts gX4_take_X1_receive rfl rfl rfl (by decide +kernel) ⟨Nat.le_of_ble_eq_true rfl, Nat.le_of_ble_eq_true rfl⟩) ⟨pb_blind, pw_recv hP hK (cc_10 hj4 hm6) rfl, pb_pre hP hK⟩ rfl rfl hl.1 rfl (lv_room (Nat.le_of_ble_eq_true rfl)) dX4_take_25 ⟨Nat.le_of_ble_eq_true rfl, Nat.le_of_ble_eq_true rfl⟩) hS (fun _ _ h => h) (fun _ h => h) (fun r u t H locs ht hvm hw hB hz1 hk1 hS => ?_)
      have hP := hB
      rw [ht] at hP
      refine W.cs (cells' := 0) (slots' := 0) rfl rfl ?_
      subst hw
      refine lv_istore (lv' := [(4, .int (how σ j2 n)), (3, .ref (α 10 j2)), (0, .ref (α 0 0)), (1, .int g), (2, .int n)]) hx hb dX4_take_28 hl (by decide) rfl (fun ls hl => ?_)
      refine lv_aload_n hx hb dX4_take_30 rfl (lv_at hl 2 rfl) ?_
      refine lv_iload hx hb dX4_take_31 (lv_at hl 0 rfl) ?_
      refine va_callv (va_runV (As := [.int (how σ j2 n)]) (rest := []) ⟨hx, hb, hml, hown, hts⟩ (c_X4_countTaking l D cy A α (noted (tookG σ j2 n (how σ j2 n)) j2) (how σ j2 n) (how_or σ j2 n)) (cwV 1 hts gX4_take_X4_countTaking rfl rfl rfl (by decide +kernel) ⟨Nat.le_of_ble_eq_true rfl, Nat.le_of_ble_eq_true rfl⟩) ⟨pb_blind, pw_recv hP hK cc_0 rfl, pb_pre hP hK⟩ rfl rfl hl.1 rfl (lv_room (Nat.le_of_ble_eq_true rfl)) dX4_take_33 ⟨Nat.le_of_ble_eq_true rfl, Nat.le_of_ble_eq_true rfl⟩) hS (fun _ _ h => h) (fun _ h => h) (fun u t H locs ht hvm hw hB hz1 hk1 hS => ?_)
      have hP := hB
      rw [ht] at hP
      refine W.cs (cells' := 0) (slots' := 0) rfl rfl ?_
      refine lv_iload hx hb dX4_take_36 (lv_at hl 0 rfl) ?_
      have eF : F_take σ g n = ((how σ j2 n), (tookC (noted (tookG σ j2 n (how σ j2 n)) j2) (how σ j2 n))) := by rw [F_take, if_pos h1, hx3, took_comm]
      exact W.iret (v := (how σ j2 n)) hx hb hr (fun t ht hW => ⟨⟨_, (), rfl, (by rw [eF]), by dsimp only; rw [ht]; exact (by rw [eF]; exact hP)⟩, hS.F ht⟩) hS.2.2 dX4_take_38
    · refine lv_astore_nN (lv' := [(3, .null), (0, .ref (α 0 0)), (1, .int g), (2, .int n)]) hx hb dX4_take_15 rfl hl (by decide) rfl (fun ls hl => ?_)
      refine lv_aload_nN hx hb dX4_take_16 rfl (lv_at hl 0 rfl) ?_
      refine lv_ifnonnullN hx hb dX4_take_17 ?_
      refine lv_bipush (v := (-2)) hx hb dX4_take_20 (by decide) ?_
      have eF : F_take σ g n = ((-2), σ) := by simp [F_take, h1, h7]
      exact W.iret (v := (-2)) hx hb hr (fun t ht hW => ⟨⟨_, (), rfl, (by rw [eF]), by dsimp only; rw [ht]; exact (by rw [eF]; exact hP)⟩, hS.F ht⟩) hS.2.2 dX4_take_22
  · refine lv_if_ne (x := 0) (tgt := 10) hx hb dX4_take_4 (by decide) (fun c => absurd (by decide) c) (fun c4 => ?_)
    refine lv_bipush (v := (-4)) hx hb dX4_take_7 (by decide) ?_
    have eF : F_take σ g n = ((-4), σ) := by simp [F_take, h1]
    exact W.iret (v := (-4)) hx hb hr (fun t ht hW => ⟨⟨_, (), rfl, (by rw [eF]), by dsimp only; rw [ht]; exact (by rw [eF]; exact hP)⟩, hS.F ht⟩) hS.2.2 dX4_take_9

set_option maxHeartbeats 4000000 in
set_option maxRecDepth 100000 in
theorem c_X4_gap (l : Launch) (D : va_G) (cy : Nat → ClassId) (A : Nat → Prop) (α : AD) (σ : SG) (g : Int32) (hG : ∀ g, g < 16 → okG σ g) : Met l yX4_gap wsX4_gap ({ frames := 2, cells := 0, slots := 0, locals := 42 } : Room) (va_Pc [.ref (α 0 0), .int g] (PB D cy A α (CC cy σ α))) (va_Qi (fun (r : Int32) (u : Unit) => r = (F_gap σ g).1) (fun u t => PW D A α (CC cy (F_gap σ g).2 α) t.heap) A) 0 0 A := by
  refine Met.ofW (cc := cX4_gap) (maxL := 4) (ret := (some .int)) (by decide) rfl ?_
  intro p e s m args below meth c s₁ B hml hv
  obtain ⟨rfl, hP, hK⟩ := hv
  have hx := B.exec
  have hb := B.bytes
  have hr := B.returns
  have hts := atoms_spec (ws := wsX4_gap) B.pre
  have hown : s.vm.findClass RX4 = some m.cls := findClass_of_methodNamed B.named
  have hlocks := B.notSynchronized
  have hiX4 : ∀ w ∈ wsX40, w ∈ wsX4_gap := by decide +kernel
  have hS : va_S A s.heap s.heap [] := va_S.rf
  have hl := lv_entry ([.ref (α 0 0), .int g]) (n := 4) (Nat.le_of_ble_eq_true rfl)
  rw [lg_entry_eq]
  generalize (lg_sl ([.ref (α 0 0), .int g]) ++ List.replicate (4 - (lg_sl ([.ref (α 0 0), .int g])).length) Slot.unset).toArray = ls at hl ⊢
  have hl : lv_has ls 4 [(0, .ref (α 0 0)), (1, .int g)] := hl
  skip
  refine lv_aload_n hx hb dX4_gap_0 rfl (lv_at hl 0 rfl) ?_
  refine lv_iload_n hx hb dX4_gap_1 rfl (lv_at hl 1 rfl) ?_
  refine va_csq (W.runV (As := [.int g]) (rest := []) ⟨hx, hb, hml, hown, hts⟩ (c_X4_gaugeAt l D cy A α σ g) (cwV 1 hts gX4_gap_X4_gaugeAt rfl rfl rfl (by decide +kernel) ⟨Nat.le_of_ble_eq_true rfl, Nat.le_of_ble_eq_true rfl⟩) ⟨pb_blind, pw_recv hP hK cc_0 rfl, pb_pre hP hK⟩ rfl rfl hl.1 rfl (lv_room (Nat.le_of_ble_eq_true rfl)) dX4_gap_2 ⟨Nat.le_of_ble_eq_true rfl, Nat.le_of_ble_eq_true rfl⟩) (fun r hw => ?_)
  rcases hw with ⟨j1, hx2, hj3, hg4, hm5, rfl⟩ | ⟨rfl, h6⟩
  · refine lv_astore_n (lv' := [(2, .ref (α 10 j1)), (0, .ref (α 0 0)), (1, .int g)]) hx hb dX4_gap_5 rfl hl (by decide) rfl (fun ls hl => ?_)
    refine lv_aload_n hx hb dX4_gap_6 rfl (lv_at hl 0 rfl) ?_
    refine lv_ifnonnull (tgt := 13) hx hb dX4_gap_7 (by decide) ?_
    refine lv_aload_n hx hb dX4_gap_13 rfl (lv_at hl 0 rfl) ?_
    refine vp_callSi (W.runV (As := []) (rest := []) ⟨hx, hb, hml, hown, hts⟩ (c_X1_hasValue l D cy A α σ j1 hj3 hm5 ) (cwV 0 hts gX4_gap_X1_hasValue rfl rfl rfl (by decide +kernel) ⟨Nat.le_of_ble_eq_true rfl, Nat.le_of_ble_eq_true rfl⟩) ⟨pb_blind, pw_recv hP hK (cc_10 hj3 hm5) rfl, pb_pre hP hK⟩ rfl rfl hl.1 rfl (lv_room (Nat.le_of_ble_eq_true rfl)) dX4_gap_14 ⟨Nat.le_of_ble_eq_true rfl, Nat.le_of_ble_eq_true rfl⟩) (fun r hw => ?_)
    rcases hw with ⟨rfl, h7⟩ | ⟨rfl, h7⟩
    · refine lv_istore_n (lv' := [(3, .int 1), (2, .ref (α 10 j1)), (0, .ref (α 0 0)), (1, .int g)]) hx hb dX4_gap_17 rfl hl (by decide) rfl (fun ls hl => ?_)
      refine lv_aload_n hx hb dX4_gap_18 rfl (lv_at hl 1 rfl) ?_
      refine va_callv (va_runV (As := []) (rest := []) ⟨hx, hb, hml, hown, hts⟩ (c_X1_lose l D cy A α σ j1 hj3 hm5 (hG j1 hj3)) (cwV 0 hts gX4_gap_X1_lose rfl rfl rfl (by decide +kernel) ⟨Nat.le_of_ble_eq_true rfl, Nat.le_of_ble_eq_true rfl⟩) ⟨pb_blind, pw_recv hP hK (cc_10 hj3 hm5) rfl, pb_pre hP hK⟩ rfl rfl hl.1 rfl (lv_room (Nat.le_of_ble_eq_true rfl)) dX4_gap_19 ⟨Nat.le_of_ble_eq_true rfl, Nat.le_of_ble_eq_true rfl⟩) hS (fun _ _ h => h) (fun _ h => h) (fun u t H locs ht hvm hw hB hz1 hk1 hS => ?_)
      have hP := hB
      rw [ht] at hP
      refine W.cs (cells' := 0) (slots' := 0) rfl rfl ?_
      refine lv_iload_n hx hb dX4_gap_22 rfl (lv_at hl 0 rfl) ?_
      refine vp_callSi (W.runS (As := [.int 1]) (rest := []) ⟨hx, hb, hml, hown, hts⟩ (c_X4_asAnswer l 1) (va_cwS 1 hts gX4_gap_X4_asAnswer rfl rfl rfl (by decide +kernel) ⟨Nat.le_of_ble_eq_true rfl, Nat.le_of_ble_eq_true rfl⟩) ⟨pt_blind, pt_pre⟩ rfl rfl hl.1 rfl (lv_room (Nat.le_of_ble_eq_true rfl)) dX4_gap_23 ⟨Nat.le_of_ble_eq_true rfl, Nat.le_of_ble_eq_true rfl⟩) (fun r hw => ?_)
      have hw : r = 1 := by rw [hw]; decide
      subst hw
      have eF : F_gap σ g = (1, (noted (st σ 2 j1 gp) j1)) := by rw [F_gap, hx2]; show (if σ 2 j1 = gp then _ else _, _) = _; rw [if_neg h7]
      exact W.iret (v := 1) hx hb hr (fun t ht hW => ⟨⟨_, (), rfl, (by rw [eF]), by dsimp only; rw [ht]; exact (by rw [eF]; exact hP)⟩, hS.F ht⟩) hS.2.2 dX4_gap_26
    · refine lv_istore_n (lv' := [(3, .int 0), (2, .ref (α 10 j1)), (0, .ref (α 0 0)), (1, .int g)]) hx hb dX4_gap_17 rfl hl (by decide) rfl (fun ls hl => ?_)
      refine lv_aload_n hx hb dX4_gap_18 rfl (lv_at hl 1 rfl) ?_
      refine va_callv (va_runV (As := []) (rest := []) ⟨hx, hb, hml, hown, hts⟩ (c_X1_lose l D cy A α σ j1 hj3 hm5 (hG j1 hj3)) (cwV 0 hts gX4_gap_X1_lose rfl rfl rfl (by decide +kernel) ⟨Nat.le_of_ble_eq_true rfl, Nat.le_of_ble_eq_true rfl⟩) ⟨pb_blind, pw_recv hP hK (cc_10 hj3 hm5) rfl, pb_pre hP hK⟩ rfl rfl hl.1 rfl (lv_room (Nat.le_of_ble_eq_true rfl)) dX4_gap_19 ⟨Nat.le_of_ble_eq_true rfl, Nat.le_of_ble_eq_true rfl⟩) hS (fun _ _ h => h) (fun _ h => h) (fun u t H locs ht hvm hw hB hz1 hk1 hS => ?_)
      have hP := hB
      rw [ht] at hP
      refine W.cs (cells' := 0) (slots' := 0) rfl rfl ?_
      refine lv_iload_n hx hb dX4_gap_22 rfl (lv_at hl 0 rfl) ?_
      refine vp_callSi (W.runS (As := [.int 0]) (rest := []) ⟨hx, hb, hml, hown, hts⟩ (c_X4_asAnswer l 0) (va_cwS 1 hts gX4_gap_X4_asAnswer rfl rfl rfl (by decide +kernel) ⟨Nat.le_of_ble_eq_true rfl, Nat.le_of_ble_eq_true rfl⟩) ⟨pt_blind, pt_pre⟩ rfl rfl hl.1 rfl (lv_room (Nat.le_of_ble_eq_true rfl)) dX4_gap_23 ⟨Nat.le_of_ble_eq_true rfl, Nat.le_of_ble_eq_true rfl⟩) (fun r hw => ?_)
      have hw : r = 0 := by rw [hw]; decide
      subst hw
      have eF : F_gap σ g = (0, (noted (st σ 2 j1 gp) j1)) := by rw [F_gap, hx2]; show (if σ 2 j1 = gp then _ else _, _) = _; rw [if_pos (Classical.not_not.mp h7)]
      exact W.iret (v := 0) hx hb hr (fun t ht hW => ⟨⟨_, (), rfl, (by rw [eF]), by dsimp only; rw [ht]; exact (by rw [eF]; exact hP)⟩, hS.F ht⟩) hS.2.2 dX4_gap_26
  · refine lv_astore_nN (lv' := [(2, .null), (0, .ref (α 0 0)), (1, .int g)]) hx hb dX4_gap_5 rfl hl (by decide) rfl (fun ls hl => ?_)
    refine lv_aload_nN hx hb dX4_gap_6 rfl (lv_at hl 0 rfl) ?_
    refine lv_ifnonnullN hx hb dX4_gap_7 ?_
    refine lv_bipush (v := (-2)) hx hb dX4_gap_10 (by decide) ?_
    have eF : F_gap σ g = ((-2), σ) := by simp [F_gap, h6]
    exact W.iret (v := (-2)) hx hb hr (fun t ht hW => ⟨⟨_, (), rfl, (by rw [eF]), by dsimp only; rw [ht]; exact (by rw [eF]; exact hP)⟩, hS.F ht⟩) hS.2.2 dX4_gap_12

set_option maxHeartbeats 4000000 in
set_option maxRecDepth 100000 in
theorem c_X4_clear (l : Launch) (D : va_G) (cy : Nat → ClassId) (A : Nat → Prop) (α : AD) (σ : SG) (g : Int32) : Met l yX4_clear wsX4_clear ({ frames := 2, cells := 0, slots := 0, locals := 40 } : Room) (va_Pc [.ref (α 0 0), .int g] (PB D cy A α (CC cy σ α))) (va_Qi (fun (r : Int32) (u : Unit) => r = (F_clear σ g).1) (fun u t => PW D A α (CC cy (F_clear σ g).2 α) t.heap) A) 0 0 A := by
  refine Met.ofW (cc := cX4_clear) (maxL := 3) (ret := (some .int)) (by decide) rfl ?_
  intro p e s m args below meth c s₁ B hml hv
  obtain ⟨rfl, hP, hK⟩ := hv
  have hx := B.exec
  have hb := B.bytes
  have hr := B.returns
  have hts := atoms_spec (ws := wsX4_clear) B.pre
  have hown : s.vm.findClass RX4 = some m.cls := findClass_of_methodNamed B.named
  have hlocks := B.notSynchronized
  have hiX4 : ∀ w ∈ wsX40, w ∈ wsX4_clear := by decide +kernel
  have hS : va_S A s.heap s.heap [] := va_S.rf
  have hl := lv_entry ([.ref (α 0 0), .int g]) (n := 3) (Nat.le_of_ble_eq_true rfl)
  rw [lg_entry_eq]
  generalize (lg_sl ([.ref (α 0 0), .int g]) ++ List.replicate (3 - (lg_sl ([.ref (α 0 0), .int g])).length) Slot.unset).toArray = ls at hl ⊢
  have hl : lv_has ls 3 [(0, .ref (α 0 0)), (1, .int g)] := hl
  skip
  refine lv_aload_n hx hb dX4_clear_0 rfl (lv_at hl 0 rfl) ?_
  refine lv_iload_n hx hb dX4_clear_1 rfl (lv_at hl 1 rfl) ?_
  refine va_csq (W.runV (As := [.int g]) (rest := []) ⟨hx, hb, hml, hown, hts⟩ (c_X4_gaugeAt l D cy A α σ g) (cwV 1 hts gX4_clear_X4_gaugeAt rfl rfl rfl (by decide +kernel) ⟨Nat.le_of_ble_eq_true rfl, Nat.le_of_ble_eq_true rfl⟩) ⟨pb_blind, pw_recv hP hK cc_0 rfl, pb_pre hP hK⟩ rfl rfl hl.1 rfl (lv_room (Nat.le_of_ble_eq_true rfl)) dX4_clear_2 ⟨Nat.le_of_ble_eq_true rfl, Nat.le_of_ble_eq_true rfl⟩) (fun r hw => ?_)
  rcases hw with ⟨j1, hx2, hj3, hg4, hm5, rfl⟩ | ⟨rfl, h6⟩
  · refine lv_astore_n (lv' := [(2, .ref (α 10 j1)), (0, .ref (α 0 0)), (1, .int g)]) hx hb dX4_clear_5 rfl hl (by decide) rfl (fun ls hl => ?_)
    refine lv_aload_n hx hb dX4_clear_6 rfl (lv_at hl 0 rfl) ?_
    refine lv_ifnonnull (tgt := 13) hx hb dX4_clear_7 (by decide) ?_
    refine lv_aload_n hx hb dX4_clear_13 rfl (lv_at hl 0 rfl) ?_
    refine va_callv (va_runV (As := []) (rest := []) ⟨hx, hb, hml, hown, hts⟩ (c_X1_forget l D cy A α σ j1 hj3 hm5) (cwV 0 hts gX4_clear_X1_forget rfl rfl rfl (by decide +kernel) ⟨Nat.le_of_ble_eq_true rfl, Nat.le_of_ble_eq_true rfl⟩) ⟨pb_blind, pw_recv hP hK (cc_10 hj3 hm5) rfl, pb_pre hP hK⟩ rfl rfl hl.1 rfl (lv_room (Nat.le_of_ble_eq_true rfl)) dX4_clear_14 ⟨Nat.le_of_ble_eq_true rfl, Nat.le_of_ble_eq_true rfl⟩) hS (fun _ _ h => h) (fun _ h => h) (fun u t H locs ht hvm hw hB hz1 hk1 hS => ?_)
    have hP := hB
    rw [ht] at hP
    refine W.cs (cells' := 0) (slots' := 0) rfl rfl ?_
    refine lv_iconst (v := 1) hx hb dX4_clear_17 (by decide) ?_
    have eF : F_clear σ g = (1, (st (st (st σ 6 j1 gp) 7 j1 gp) 10 j1 0)) := by simp [F_clear, hx2]
    exact W.iret (v := 1) hx hb hr (fun t ht hW => ⟨⟨_, (), rfl, (by rw [eF]), by dsimp only; rw [ht]; exact (by rw [eF]; exact hP)⟩, hS.F ht⟩) hS.2.2 dX4_clear_18
  · refine lv_astore_nN (lv' := [(2, .null), (0, .ref (α 0 0)), (1, .int g)]) hx hb dX4_clear_5 rfl hl (by decide) rfl (fun ls hl => ?_)
    refine lv_aload_nN hx hb dX4_clear_6 rfl (lv_at hl 0 rfl) ?_
    refine lv_ifnonnullN hx hb dX4_clear_7 ?_
    refine lv_bipush (v := (-2)) hx hb dX4_clear_10 (by decide) ?_
    have eF : F_clear σ g = ((-2), σ) := by simp [F_clear, h6]
    exact W.iret (v := (-2)) hx hb hr (fun t ht hW => ⟨⟨_, (), rfl, (by rw [eF]), by dsimp only; rw [ht]; exact (by rw [eF]; exact hP)⟩, hS.F ht⟩) hS.2.2 dX4_clear_12

set_option maxHeartbeats 4000000 in
set_option maxRecDepth 100000 in
theorem c_X4_shown (l : Launch) (D : va_G) (cy : Nat → ClassId) (A : Nat → Prop) (α : AD) (σ : SG) (g : Int32) : Met l yX4_shown wsX4_shown ({ frames := 1, cells := 0, slots := 0, locals := 21 } : Room) (va_Pc [.ref (α 0 0), .int g] (PB D cy A α (CC cy σ α))) (vp_Si (fun r => r = F_shown σ g)) 0 0 (fun _ => False) := by
  refine Met.ofW (cc := cX4_shown) (maxL := 3) (ret := (some .int)) (by decide) rfl ?_
  intro p e s m args below meth c s₁ B hml hv
  obtain ⟨rfl, hP, hK⟩ := hv
  have hx := B.exec
  have hb := B.bytes
  have hr := B.returns
  have hts := atoms_spec (ws := wsX4_shown) B.pre
  have hown : s.vm.findClass RX4 = some m.cls := findClass_of_methodNamed B.named
  have hlocks := B.notSynchronized
  have hiX4 : ∀ w ∈ wsX40, w ∈ wsX4_shown := by decide +kernel
  have hiX1 : ∀ w ∈ wsX10, w ∈ wsX4_shown := by decide +kernel
  have hl := lv_entry ([.ref (α 0 0), .int g]) (n := 3) (Nat.le_of_ble_eq_true rfl)
  rw [lg_entry_eq]
  generalize (lg_sl ([.ref (α 0 0), .int g]) ++ List.replicate (3 - (lg_sl ([.ref (α 0 0), .int g])).length) Slot.unset).toArray = ls at hl ⊢
  have hl : lv_has ls 3 [(0, .ref (α 0 0)), (1, .int g)] := hl
  refine lv_aload_n hx hb dX4_shown_0 rfl (lv_at hl 0 rfl) ?_
  refine lv_iload_n hx hb dX4_shown_1 rfl (lv_at hl 1 rfl) ?_
  refine va_csq (W.runV (As := [.int g]) (rest := []) ⟨hx, hb, hml, hown, hts⟩ (c_X4_gaugeAt l D cy A α σ g) (cwV 1 hts gX4_shown_X4_gaugeAt rfl rfl rfl (by decide +kernel) ⟨Nat.le_of_ble_eq_true rfl, Nat.le_of_ble_eq_true rfl⟩) ⟨pb_blind, pw_recv hP hK cc_0 rfl, pb_pre hP hK⟩ rfl rfl hl.1 rfl (lv_room (Nat.le_of_ble_eq_true rfl)) dX4_shown_2 ⟨Nat.le_of_ble_eq_true rfl, Nat.le_of_ble_eq_true rfl⟩) (fun r hw => ?_)
  rcases hw with ⟨j1, hx2, hj3, hg4, hm5, rfl⟩ | ⟨rfl, h6⟩
  · refine lv_astore_n (lv' := [(2, .ref (α 10 j1)), (0, .ref (α 0 0)), (1, .int g)]) hx hb dX4_shown_5 rfl hl (by decide) rfl (fun ls hl => ?_)
    refine lv_aload_n hx hb dX4_shown_6 rfl (lv_at hl 0 rfl) ?_
    refine lv_ifnonnull (tgt := 15) hx hb dX4_shown_7 (by decide) ?_
    refine lv_aload_n hx hb dX4_shown_15 rfl (lv_at hl 0 rfl) ?_
    refine pw_get (ref := "TripPanel$Gauge") (C := RX1) (T := TX1) (N := 9) (ci := 1) (fs := (fsG σ α j1)) (v := .int (σ 2 j1)) hx hb hts hiX1 hown hK hP (cc_10 hj3 hm5) rfl 2 (by decide) (by decide +kernel) rfl rfl dX4_shown_16 ?_
    have eF : F_shown σ g = (σ 2 j1) := by simp [F_shown, hx2]
    exact W.iret (v := (σ 2 j1)) hx hb hr (fun t ht hW => ⟨_, rfl, (by rw [eF]), ht⟩) (fun q hq => absurd hq List.not_mem_nil) dX4_shown_19
  · refine lv_astore_nN (lv' := [(2, .null), (0, .ref (α 0 0)), (1, .int g)]) hx hb dX4_shown_5 rfl hl (by decide) rfl (fun ls hl => ?_)
    refine lv_aload_nN hx hb dX4_shown_6 rfl (lv_at hl 0 rfl) ?_
    refine lv_ifnonnullN hx hb dX4_shown_7 ?_
    refine lv_ldc hx hb hown (hts (.constant RX4 77 (2000000000)) (by decide +kernel)) dX4_shown_10 ?_
    refine lv_goto (tgt := 19) hx hb dX4_shown_12 (by decide) ?_
    have eF : F_shown σ g = 2000000000 := by simp [F_shown, h6]
    exact W.iret (v := 2000000000) hx hb hr (fun t ht hW => ⟨_, rfl, (by rw [eF]), ht⟩) (fun q hq => absurd hq List.not_mem_nil) dX4_shown_19

set_option maxHeartbeats 4000000 in
set_option maxRecDepth 100000 in
theorem c_X4_mark (l : Launch) (D : va_G) (cy : Nat → ClassId) (A : Nat → Prop) (α : AD) (σ : SG) (g b : Int32) : Met l yX4_mark wsX4_mark ({ frames := 1, cells := 0, slots := 0, locals := 21 } : Room) (va_Pc [.ref (α 0 0), .int g, .int b] (PB D cy A α (CC cy σ α))) (vp_Si (fun r => r = F_mark σ g b)) 0 0 (fun _ => False) := by
  refine Met.ofW (cc := cX4_mark) (maxL := 4) (ret := (some .int)) (by decide) rfl ?_
  intro p e s m args below meth c s₁ B hml hv
  obtain ⟨rfl, hP, hK⟩ := hv
  have hx := B.exec
  have hb := B.bytes
  have hr := B.returns
  have hts := atoms_spec (ws := wsX4_mark) B.pre
  have hown : s.vm.findClass RX4 = some m.cls := findClass_of_methodNamed B.named
  have hlocks := B.notSynchronized
  have hiX4 : ∀ w ∈ wsX40, w ∈ wsX4_mark := by decide +kernel
  have hiX1 : ∀ w ∈ wsX10, w ∈ wsX4_mark := by decide +kernel
  have hl := lv_entry ([.ref (α 0 0), .int g, .int b]) (n := 4) (Nat.le_of_ble_eq_true rfl)
  rw [lg_entry_eq]
  generalize (lg_sl ([.ref (α 0 0), .int g, .int b]) ++ List.replicate (4 - (lg_sl ([.ref (α 0 0), .int g, .int b])).length) Slot.unset).toArray = ls at hl ⊢
  have hl : lv_has ls 4 [(0, .ref (α 0 0)), (1, .int g), (2, .int b)] := hl
  refine lv_aload_n hx hb dX4_mark_0 rfl (lv_at hl 0 rfl) ?_
  refine lv_iload_n hx hb dX4_mark_1 rfl (lv_at hl 1 rfl) ?_
  refine va_csq (W.runV (As := [.int g]) (rest := []) ⟨hx, hb, hml, hown, hts⟩ (c_X4_gaugeAt l D cy A α σ g) (cwV 1 hts gX4_mark_X4_gaugeAt rfl rfl rfl (by decide +kernel) ⟨Nat.le_of_ble_eq_true rfl, Nat.le_of_ble_eq_true rfl⟩) ⟨pb_blind, pw_recv hP hK cc_0 rfl, pb_pre hP hK⟩ rfl rfl hl.1 rfl (lv_room (Nat.le_of_ble_eq_true rfl)) dX4_mark_2 ⟨Nat.le_of_ble_eq_true rfl, Nat.le_of_ble_eq_true rfl⟩) (fun r hw => ?_)
  rcases hw with ⟨j1, hx2, hj3, hg4, hm5, rfl⟩ | ⟨rfl, h6⟩
  · refine lv_astore_n (lv' := [(3, .ref (α 10 j1)), (0, .ref (α 0 0)), (1, .int g), (2, .int b)]) hx hb dX4_mark_5 rfl hl (by decide) rfl (fun ls hl => ?_)
    refine lv_aload_n hx hb dX4_mark_6 rfl (lv_at hl 0 rfl) ?_
    refine lv_ifnonnull (tgt := 13) hx hb dX4_mark_7 (by decide) ?_
    refine lv_iload_n hx hb dX4_mark_13 rfl (lv_at hl 3 rfl) ?_
    refine lv_if_eq (x := b) (tgt := 24) hx hb dX4_mark_14 (by decide) (fun c14 => ?_) (fun c14 => ?_)
    · refine lv_aload_n hx hb dX4_mark_24 rfl (lv_at hl 0 rfl) ?_
      refine pw_get (ref := "TripPanel$Gauge") (C := RX1) (T := TX1) (N := 9) (ci := 1) (fs := (fsG σ α j1)) (v := .int (σ 7 j1)) hx hb hts hiX1 hown hK hP (cc_10 hj3 hm5) rfl 7 (by decide) (by decide +kernel) rfl rfl dX4_mark_25 ?_
      have eF : F_mark σ g b = (σ 7 j1) := by simp [F_mark, hx2, c14]
      exact W.iret (v := (σ 7 j1)) hx hb hr (fun t ht hW => ⟨_, rfl, (by rw [eF]), ht⟩) (fun q hq => absurd hq List.not_mem_nil) dX4_mark_28
    · refine lv_aload_n hx hb dX4_mark_17 rfl (lv_at hl 0 rfl) ?_
      refine pw_get (ref := "TripPanel$Gauge") (C := RX1) (T := TX1) (N := 9) (ci := 1) (fs := (fsG σ α j1)) (v := .int (σ 6 j1)) hx hb hts hiX1 hown hK hP (cc_10 hj3 hm5) rfl 6 (by decide) (by decide +kernel) rfl rfl dX4_mark_18 ?_
      refine lv_goto (tgt := 28) hx hb dX4_mark_21 (by decide) ?_
      have eF : F_mark σ g b = (σ 6 j1) := by simp [F_mark, hx2, c14]
      exact W.iret (v := (σ 6 j1)) hx hb hr (fun t ht hW => ⟨_, rfl, (by rw [eF]), ht⟩) (fun q hq => absurd hq List.not_mem_nil) dX4_mark_28
  · refine lv_astore_nN (lv' := [(3, .null), (0, .ref (α 0 0)), (1, .int g), (2, .int b)]) hx hb dX4_mark_5 rfl hl (by decide) rfl (fun ls hl => ?_)
    refine lv_aload_nN hx hb dX4_mark_6 rfl (lv_at hl 0 rfl) ?_
    refine lv_ifnonnullN hx hb dX4_mark_7 ?_
    refine lv_ldc hx hb hown (hts (.constant RX4 77 (2000000000)) (by decide +kernel)) dX4_mark_10 ?_
    have eF : F_mark σ g b = 2000000000 := by simp [F_mark, h6]
    exact W.iret (v := 2000000000) hx hb hr (fun t ht hW => ⟨_, rfl, (by rw [eF]), ht⟩) (fun q hq => absurd hq List.not_mem_nil) dX4_mark_12

set_option maxHeartbeats 4000000 in
set_option maxRecDepth 100000 in
theorem c_X4_stale (l : Launch) (D : va_G) (cy : Nat → ClassId) (A : Nat → Prop) (α : AD) (σ : SG) (g : Int32) : Met l yX4_stale wsX4_stale ({ frames := 1, cells := 0, slots := 0, locals := 21 } : Room) (va_Pc [.ref (α 0 0), .int g] (PB D cy A α (CC cy σ α))) (vp_Si (fun r => r = F_stale σ g)) 0 0 (fun _ => False) := by
  refine Met.ofW (cc := cX4_stale) (maxL := 3) (ret := (some .int)) (by decide) rfl ?_
  intro p e s m args below meth c s₁ B hml hv
  obtain ⟨rfl, hP, hK⟩ := hv
  have hx := B.exec
  have hb := B.bytes
  have hr := B.returns
  have hts := atoms_spec (ws := wsX4_stale) B.pre
  have hown : s.vm.findClass RX4 = some m.cls := findClass_of_methodNamed B.named
  have hlocks := B.notSynchronized
  have hiX4 : ∀ w ∈ wsX40, w ∈ wsX4_stale := by decide +kernel
  have hiX1 : ∀ w ∈ wsX10, w ∈ wsX4_stale := by decide +kernel
  have hl := lv_entry ([.ref (α 0 0), .int g]) (n := 3) (Nat.le_of_ble_eq_true rfl)
  rw [lg_entry_eq]
  generalize (lg_sl ([.ref (α 0 0), .int g]) ++ List.replicate (3 - (lg_sl ([.ref (α 0 0), .int g])).length) Slot.unset).toArray = ls at hl ⊢
  have hl : lv_has ls 3 [(0, .ref (α 0 0)), (1, .int g)] := hl
  refine lv_aload_n hx hb dX4_stale_0 rfl (lv_at hl 0 rfl) ?_
  refine lv_iload_n hx hb dX4_stale_1 rfl (lv_at hl 1 rfl) ?_
  refine va_csq (W.runV (As := [.int g]) (rest := []) ⟨hx, hb, hml, hown, hts⟩ (c_X4_gaugeAt l D cy A α σ g) (cwV 1 hts gX4_stale_X4_gaugeAt rfl rfl rfl (by decide +kernel) ⟨Nat.le_of_ble_eq_true rfl, Nat.le_of_ble_eq_true rfl⟩) ⟨pb_blind, pw_recv hP hK cc_0 rfl, pb_pre hP hK⟩ rfl rfl hl.1 rfl (lv_room (Nat.le_of_ble_eq_true rfl)) dX4_stale_2 ⟨Nat.le_of_ble_eq_true rfl, Nat.le_of_ble_eq_true rfl⟩) (fun r hw => ?_)
  rcases hw with ⟨j1, hx2, hj3, hg4, hm5, rfl⟩ | ⟨rfl, h6⟩
  · refine lv_astore_n (lv' := [(2, .ref (α 10 j1)), (0, .ref (α 0 0)), (1, .int g)]) hx hb dX4_stale_5 rfl hl (by decide) rfl (fun ls hl => ?_)
    refine lv_aload_n hx hb dX4_stale_6 rfl (lv_at hl 0 rfl) ?_
    refine lv_ifnonnull (tgt := 15) hx hb dX4_stale_7 (by decide) ?_
    refine lv_aload_n hx hb dX4_stale_15 rfl (lv_at hl 0 rfl) ?_
    refine pw_get (ref := "TripPanel$Gauge") (C := RX1) (T := TX1) (N := 9) (ci := 1) (fs := (fsG σ α j1)) (v := .int (σ 8 j1)) hx hb hts hiX1 hown hK hP (cc_10 hj3 hm5) rfl 8 (by decide) (by decide +kernel) rfl rfl dX4_stale_16 ?_
    have eF : F_stale σ g = (σ 8 j1) := by simp [F_stale, hx2]
    exact W.iret (v := (σ 8 j1)) hx hb hr (fun t ht hW => ⟨_, rfl, (by rw [eF]), ht⟩) (fun q hq => absurd hq List.not_mem_nil) dX4_stale_19
  · refine lv_astore_nN (lv' := [(2, .null), (0, .ref (α 0 0)), (1, .int g)]) hx hb dX4_stale_5 rfl hl (by decide) rfl (fun ls hl => ?_)
    refine lv_aload_nN hx hb dX4_stale_6 rfl (lv_at hl 0 rfl) ?_
    refine lv_ifnonnullN hx hb dX4_stale_7 ?_
    refine lv_bipush (v := (-2)) hx hb dX4_stale_10 (by decide) ?_
    refine lv_goto (tgt := 19) hx hb dX4_stale_12 (by decide) ?_
    have eF : F_stale σ g = (-2) := by simp [F_stale, h6]
    exact W.iret (v := (-2)) hx hb hr (fun t ht hW => ⟨_, rfl, (by rw [eF]), ht⟩) (fun q hq => absurd hq List.not_mem_nil) dX4_stale_19

set_option maxHeartbeats 4000000 in
set_option maxRecDepth 100000 in
theorem c_X4_stands (l : Launch) (D : va_G) (cy : Nat → ClassId) (A : Nat → Prop) (α : AD) (σ : SG) (a rel b : Int32) : Met l yX4_stands wsX4_stands ({ frames := 2, cells := 0, slots := 0, locals := 48 } : Room) (va_Pc [.ref (α 0 0), .int a, .int rel, .int b] (PB D cy A α (CC cy σ α))) (vp_Si (fun r => r = F_stands σ a rel b)) 0 0 (fun _ => False) := by
  refine Met.ofW (cc := cX4_stands) (maxL := 6) (ret := (some .int)) (by decide) rfl ?_
  intro p e s m args below meth c s₁ B hml hv
  obtain ⟨rfl, hP, hK⟩ := hv
  have hx := B.exec
  have hb := B.bytes
  have hr := B.returns
  have hts := atoms_spec (ws := wsX4_stands) B.pre
  have hown : s.vm.findClass RX4 = some m.cls := findClass_of_methodNamed B.named
  have hlocks := B.notSynchronized
  have hiX4 : ∀ w ∈ wsX40, w ∈ wsX4_stands := by decide +kernel
  have hiX1 : ∀ w ∈ wsX10, w ∈ wsX4_stands := by decide +kernel
  have hl := lv_entry ([.ref (α 0 0), .int a, .int rel, .int b]) (n := 6) (Nat.le_of_ble_eq_true rfl)
  rw [lg_entry_eq]
  generalize (lg_sl ([.ref (α 0 0), .int a, .int rel, .int b]) ++ List.replicate (6 - (lg_sl ([.ref (α 0 0), .int a, .int rel, .int b])).length) Slot.unset).toArray = ls at hl ⊢
  have hl : lv_has ls 6 [(0, .ref (α 0 0)), (1, .int a), (2, .int rel), (3, .int b)] := hl
  refine lv_iload_n hx hb dX4_stands_0 rfl (lv_at hl 2 rfl) ?_
  refine vp_callSi (W.runS (As := [.int rel]) (rest := []) ⟨hx, hb, hml, hown, hts⟩ (c_X4_isRelation l rel) (va_cwS 1 hts gX4_stands_X4_isRelation rfl rfl rfl (by decide +kernel) ⟨Nat.le_of_ble_eq_true rfl, Nat.le_of_ble_eq_true rfl⟩) ⟨pt_blind, pt_pre⟩ rfl rfl hl.1 rfl (lv_room (Nat.le_of_ble_eq_true rfl)) dX4_stands_1 ⟨Nat.le_of_ble_eq_true rfl, Nat.le_of_ble_eq_true rfl⟩) (fun r hw => ?_)
  rcases hw with ⟨rfl, h1⟩ | ⟨rfl, h1⟩
  · refine lv_if_ne (x := 1) (tgt := 10) hx hb dX4_stands_4 (by decide) (fun c4 => ?_) (fun c => absurd c (by decide))
    refine lv_aload_n hx hb dX4_stands_10 rfl (lv_at hl 0 rfl) ?_
    refine lv_iload_n hx hb dX4_stands_11 rfl (lv_at hl 1 rfl) ?_
    refine va_csq (W.runV (As := [.int a]) (rest := []) ⟨hx, hb, hml, hown, hts⟩ (c_X4_gaugeAt l D cy A α σ a) (cwV 1 hts gX4_stands_X4_gaugeAt rfl rfl rfl (by decide +kernel) ⟨Nat.le_of_ble_eq_true rfl, Nat.le_of_ble_eq_true rfl⟩) ⟨pb_blind, pw_recv hP hK cc_0 rfl, pb_pre hP hK⟩ rfl rfl hl.1 rfl (lv_room (Nat.le_of_ble_eq_true rfl)) dX4_stands_12 ⟨Nat.le_of_ble_eq_true rfl, Nat.le_of_ble_eq_true rfl⟩) (fun r hw => ?_)
    rcases hw with ⟨j2, hx3, hj4, hg5, hm6, rfl⟩ | ⟨rfl, h7⟩
    · refine lv_astore (lv' := [(4, .ref (α 10 j2)), (0, .ref (α 0 0)), (1, .int a), (2, .int rel), (3, .int b)]) hx hb dX4_stands_15 hl (by decide) rfl (fun ls hl => ?_)
      refine lv_aload_n hx hb dX4_stands_17 rfl (lv_at hl 1 rfl) ?_
      refine lv_iload_n hx hb dX4_stands_18 rfl (lv_at hl 4 rfl) ?_
      refine va_csq (W.runV (As := [.int b]) (rest := []) ⟨hx, hb, hml, hown, hts⟩ (c_X4_gaugeAt l D cy A α σ b) (cwV 1 hts gX4_stands_X4_gaugeAt rfl rfl rfl (by decide +kernel) ⟨Nat.le_of_ble_eq_true rfl, Nat.le_of_ble_eq_true rfl⟩) ⟨pb_blind, pw_recv hP hK cc_0 rfl, pb_pre hP hK⟩ rfl rfl hl.1 rfl (lv_room (Nat.le_of_ble_eq_true rfl)) dX4_stands_19 ⟨Nat.le_of_ble_eq_true rfl, Nat.le_of_ble_eq_true rfl⟩) (fun r hw => ?_)
      rcases hw with ⟨j8, hx9, hj10, hg11, hm12, rfl⟩ | ⟨rfl, h13⟩
      · refine lv_astore (lv' := [(5, .ref (α 10 j8)), (4, .ref (α 10 j2)), (0, .ref (α 0 0)), (1, .int a), (2, .int rel), (3, .int b)]) hx hb dX4_stands_22 hl (by decide) rfl (fun ls hl => ?_)
        refine lv_aload hx hb dX4_stands_24 (lv_at hl 1 rfl) ?_
        refine lv_ifnull hx hb dX4_stands_26 ?_
        refine lv_aload hx hb dX4_stands_29 (lv_at hl 0 rfl) ?_
        refine lv_ifnonnull (tgt := 37) hx hb dX4_stands_31 (by decide) ?_
        refine lv_aload hx hb dX4_stands_37 (lv_at hl 1 rfl) ?_
        refine lv_aload hx hb dX4_stands_39 (lv_at hl 1 rfl) ?_
        refine pw_get (ref := "TripPanel$Gauge") (C := RX1) (T := TX1) (N := 9) (ci := 1) (fs := (fsG σ α j2)) (v := .int (σ 2 j2)) hx hb hts hiX1 hown hK hP (cc_10 hj4 hm6) rfl 2 (by decide) (by decide +kernel) rfl rfl dX4_stands_41 ?_
        refine lv_iload_n hx hb dX4_stands_44 rfl (lv_at hl 4 rfl) ?_
        refine lv_aload hx hb dX4_stands_45 (lv_at hl 0 rfl) ?_
        refine lv_aload hx hb dX4_stands_47 (lv_at hl 0 rfl) ?_
        refine pw_get (ref := "TripPanel$Gauge") (C := RX1) (T := TX1) (N := 9) (ci := 1) (fs := (fsG σ α j8)) (v := .int (σ 2 j8)) hx hb hts hiX1 hown hK hP (cc_10 hj10 hm12) rfl 2 (by decide) (by decide +kernel) rfl rfl dX4_stands_49 ?_
        refine vp_callSi (W.runV (As := [.int (σ 2 j2), .int rel, .ref (α 10 j8), .int (σ 2 j8)]) (rest := []) ⟨hx, hb, hml, hown, hts⟩ (c_X1_relates l D cy A α σ j2 hj4 hm6 j8 hj10 hm12 (σ 2 j2) rel (σ 2 j8) h1) (cwV 4 hts gX4_stands_X1_relates rfl rfl rfl (by decide +kernel) ⟨Nat.le_of_ble_eq_true rfl, Nat.le_of_ble_eq_true rfl⟩) ⟨pb_blind, pw_recv hP hK (cc_10 hj4 hm6) rfl, pb_pre hP hK⟩ rfl rfl hl.1 rfl (lv_room (Nat.le_of_ble_eq_true rfl)) dX4_stands_52 ⟨Nat.le_of_ble_eq_true rfl, Nat.le_of_ble_eq_true rfl⟩) (fun r hw => ?_)
        rcases hw with ⟨rfl, h14⟩ | ⟨rfl, h14⟩
        · refine vp_callSi (W.runS (As := [.int 1]) (rest := []) ⟨hx, hb, hml, hown, hts⟩ (c_X4_asAnswer l 1) (va_cwS 1 hts gX4_stands_X4_asAnswer rfl rfl rfl (by decide +kernel) ⟨Nat.le_of_ble_eq_true rfl, Nat.le_of_ble_eq_true rfl⟩) ⟨pt_blind, pt_pre⟩ rfl rfl hl.1 rfl (lv_room (Nat.le_of_ble_eq_true rfl)) dX4_stands_55 ⟨Nat.le_of_ble_eq_true rfl, Nat.le_of_ble_eq_true rfl⟩) (fun r hw => ?_)
          have hw : r = 1 := by rw [hw]; decide
          subst hw
          have eF : F_stands σ a rel b = 1 := by rw [F_stands, if_pos h1, hx3]; show (match gx σ b with | none => _ | some _ => _) = _; rw [hx9]; show bI _ = _; rw [h14]; rfl
          exact W.iret (v := 1) hx hb hr (fun t ht hW => ⟨_, rfl, (by rw [eF]), ht⟩) (fun q hq => absurd hq List.not_mem_nil) dX4_stands_58
        · refine vp_callSi (W.runS (As := [.int 0]) (rest := []) ⟨hx, hb, hml, hown, hts⟩ (c_X4_asAnswer l 0) (va_cwS 1 hts gX4_stands_X4_asAnswer rfl rfl rfl (by decide +kernel) ⟨Nat.le_of_ble_eq_true rfl, Nat.le_of_ble_eq_true rfl⟩) ⟨pt_blind, pt_pre⟩ rfl rfl hl.1 rfl (lv_room (Nat.le_of_ble_eq_true rfl)) dX4_stands_55 ⟨Nat.le_of_ble_eq_true rfl, Nat.le_of_ble_eq_true rfl⟩) (fun r hw => ?_)
          have hw : r = 0 := by rw [hw]; decide
          subst hw
          have eF : F_stands σ a rel b = 0 := by rw [F_stands, if_pos h1, hx3]; show (match gx σ b with | none => _ | some _ => _) = _; rw [hx9]; show bI _ = _; rw [Bool.eq_false_iff.mpr h14]; rfl
          exact W.iret (v := 0) hx hb hr (fun t ht hW => ⟨_, rfl, (by rw [eF]), ht⟩) (fun q hq => absurd hq List.not_mem_nil) dX4_stands_58
      · refine lv_astoreN (lv' := [(5, .null), (4, .ref (α 10 j2)), (0, .ref (α 0 0)), (1, .int a), (2, .int rel), (3, .int b)]) hx hb dX4_stands_22 hl (by decide) rfl (fun ls hl => ?_)
        refine lv_aload hx hb dX4_stands_24 (lv_at hl 1 rfl) ?_
        refine lv_ifnull hx hb dX4_stands_26 ?_
        refine lv_aloadN hx hb dX4_stands_29 (lv_at hl 0 rfl) ?_
        refine lv_ifnonnullN hx hb dX4_stands_31 ?_
        refine lv_bipush (v := (-2)) hx hb dX4_stands_34 (by decide) ?_
        have eF : F_stands σ a rel b = (-2) := by simp [F_stands, h1, hx3, h13]
        exact W.iret (v := (-2)) hx hb hr (fun t ht hW => ⟨_, rfl, (by rw [eF]), ht⟩) (fun q hq => absurd hq List.not_mem_nil) dX4_stands_36
    · refine lv_astoreN (lv' := [(4, .null), (0, .ref (α 0 0)), (1, .int a), (2, .int rel), (3, .int b)]) hx hb dX4_stands_15 hl (by decide) rfl (fun ls hl => ?_)
      refine lv_aload_n hx hb dX4_stands_17 rfl (lv_at hl 1 rfl) ?_
      refine lv_iload_n hx hb dX4_stands_18 rfl (lv_at hl 4 rfl) ?_
      refine va_csq (W.runV (As := [.int b]) (rest := []) ⟨hx, hb, hml, hown, hts⟩ (c_X4_gaugeAt l D cy A α σ b) (cwV 1 hts gX4_stands_X4_gaugeAt rfl rfl rfl (by decide +kernel) ⟨Nat.le_of_ble_eq_true rfl, Nat.le_of_ble_eq_true rfl⟩) ⟨pb_blind, pw_recv hP hK cc_0 rfl, pb_pre hP hK⟩ rfl rfl hl.1 rfl (lv_room (Nat.le_of_ble_eq_true rfl)) dX4_stands_19 ⟨Nat.le_of_ble_eq_true rfl, Nat.le_of_ble_eq_true rfl⟩) (fun r hw => ?_)
      rcases hw with ⟨j15, hx16, hj17, hg18, hm19, rfl⟩ | ⟨rfl, h20⟩
      · refine lv_astore (lv' := [(5, .ref (α 10 j15)), (4, .null), (0, .ref (α 0 0)), (1, .int a), (2, .int rel), (3, .int b)]) hx hb dX4_stands_22 hl (by decide) rfl (fun ls hl => ?_)
        refine lv_aloadN hx hb dX4_stands_24 (lv_at hl 1 rfl) ?_
        refine lv_ifnullN (tgt := 34) hx hb dX4_stands_26 (by decide) ?_
        refine lv_bipush (v := (-2)) hx hb dX4_stands_34 (by decide) ?_
        have eF : F_stands σ a rel b = (-2) := by simp [F_stands, h1, hx16, h7]
        exact W.iret (v := (-2)) hx hb hr (fun t ht hW => ⟨_, rfl, (by rw [eF]), ht⟩) (fun q hq => absurd hq List.not_mem_nil) dX4_stands_36
      · refine lv_astoreN (lv' := [(5, .null), (4, .null), (0, .ref (α 0 0)), (1, .int a), (2, .int rel), (3, .int b)]) hx hb dX4_stands_22 hl (by decide) rfl (fun ls hl => ?_)
        refine lv_aloadN hx hb dX4_stands_24 (lv_at hl 1 rfl) ?_
        refine lv_ifnullN (tgt := 34) hx hb dX4_stands_26 (by decide) ?_
        refine lv_bipush (v := (-2)) hx hb dX4_stands_34 (by decide) ?_
        have eF : F_stands σ a rel b = (-2) := by simp [F_stands, h1, h7]
        exact W.iret (v := (-2)) hx hb hr (fun t ht hW => ⟨_, rfl, (by rw [eF]), ht⟩) (fun q hq => absurd hq List.not_mem_nil) dX4_stands_36
  · refine lv_if_ne (x := 0) (tgt := 10) hx hb dX4_stands_4 (by decide) (fun c => absurd (by decide) c) (fun c4 => ?_)
    refine lv_bipush (v := (-4)) hx hb dX4_stands_7 (by decide) ?_
    have eF : F_stands σ a rel b = (-4) := by simp [F_stands, h1]
    exact W.iret (v := (-4)) hx hb hr (fun t ht hW => ⟨_, rfl, (by rw [eF]), ht⟩) (fun q hq => absurd hq List.not_mem_nil) dX4_stands_9

set_option maxHeartbeats 4000000 in
set_option maxRecDepth 100000 in
theorem c_X4_holds (l : Launch) (D : va_G) (cy : Nat → ClassId) (A : Nat → Prop) (α : AD) (σ : SG) (ci : Int32) (hC : ∀ c, c < 24 → σ 11 c ≠ 0 → okC σ c) : Met l yX4_holds wsX4_holds ({ frames := 3, cells := 0, slots := 0, locals := 69 } : Room) (va_Pc [.ref (α 0 0), .int ci] (PB D cy A α (CC cy σ α))) (vp_Si (fun r => r = F_holds σ ci)) 0 0 (fun _ => False) := by
  refine Met.ofW (cc := cX4_holds) (maxL := 3) (ret := (some .int)) (by decide) rfl ?_
  intro p e s m args below meth c s₁ B hml hv
  obtain ⟨rfl, hP, hK⟩ := hv
  have hx := B.exec
  have hb := B.bytes
  have hr := B.returns
  have hts := atoms_spec (ws := wsX4_holds) B.pre
  have hown : s.vm.findClass RX4 = some m.cls := findClass_of_methodNamed B.named
  have hlocks := B.notSynchronized
  have hiX4 : ∀ w ∈ wsX40, w ∈ wsX4_holds := by decide +kernel
  have hl := lv_entry ([.ref (α 0 0), .int ci]) (n := 3) (Nat.le_of_ble_eq_true rfl)
  rw [lg_entry_eq]
  generalize (lg_sl ([.ref (α 0 0), .int ci]) ++ List.replicate (3 - (lg_sl ([.ref (α 0 0), .int ci])).length) Slot.unset).toArray = ls at hl ⊢
  have hl : lv_has ls 3 [(0, .ref (α 0 0)), (1, .int ci)] := hl
  refine lv_aload_n hx hb dX4_holds_0 rfl (lv_at hl 0 rfl) ?_
  refine lv_iload_n hx hb dX4_holds_1 rfl (lv_at hl 1 rfl) ?_
  refine va_csq (W.runV (As := [.int ci]) (rest := []) ⟨hx, hb, hml, hown, hts⟩ (c_X4_conditionAt l D cy A α σ ci) (cwV 1 hts gX4_holds_X4_conditionAt rfl rfl rfl (by decide +kernel) ⟨Nat.le_of_ble_eq_true rfl, Nat.le_of_ble_eq_true rfl⟩) ⟨pb_blind, pw_recv hP hK cc_0 rfl, pb_pre hP hK⟩ rfl rfl hl.1 rfl (lv_room (Nat.le_of_ble_eq_true rfl)) dX4_holds_2 ⟨Nat.le_of_ble_eq_true rfl, Nat.le_of_ble_eq_true rfl⟩) (fun r hw => ?_)
  rcases hw with ⟨j1, hx2, hj3, hg4, hm5, rfl⟩ | ⟨rfl, h6⟩
  · refine lv_astore_n (lv' := [(2, .ref (α 13 j1)), (0, .ref (α 0 0)), (1, .int ci)]) hx hb dX4_holds_5 rfl hl (by decide) rfl (fun ls hl => ?_)
    refine lv_aload_n hx hb dX4_holds_6 rfl (lv_at hl 0 rfl) ?_
    refine lv_ifnonnull (tgt := 15) hx hb dX4_holds_7 (by decide) ?_
    refine lv_aload_n hx hb dX4_holds_15 rfl (lv_at hl 0 rfl) ?_
    refine vp_callSi (W.runV (As := []) (rest := []) ⟨hx, hb, hml, hown, hts⟩ (c_X0_isMet l D cy A α σ j1 hj3 hm5 (hC j1 hj3 hm5)) (cwV 0 hts gX4_holds_X0_isMet rfl rfl rfl (by decide +kernel) ⟨Nat.le_of_ble_eq_true rfl, Nat.le_of_ble_eq_true rfl⟩) ⟨pb_blind, pw_recv hP hK (cc_13 hj3 hm5) rfl, pb_pre hP hK⟩ rfl rfl hl.1 rfl (lv_room (Nat.le_of_ble_eq_true rfl)) dX4_holds_16 ⟨Nat.le_of_ble_eq_true rfl, Nat.le_of_ble_eq_true rfl⟩) (fun r hw => ?_)
    rcases hw with ⟨rfl, h7⟩ | ⟨rfl, h7⟩
    · refine vp_callSi (W.runS (As := [.int 1]) (rest := []) ⟨hx, hb, hml, hown, hts⟩ (c_X4_asAnswer l 1) (va_cwS 1 hts gX4_holds_X4_asAnswer rfl rfl rfl (by decide +kernel) ⟨Nat.le_of_ble_eq_true rfl, Nat.le_of_ble_eq_true rfl⟩) ⟨pt_blind, pt_pre⟩ rfl rfl hl.1 rfl (lv_room (Nat.le_of_ble_eq_true rfl)) dX4_holds_19 ⟨Nat.le_of_ble_eq_true rfl, Nat.le_of_ble_eq_true rfl⟩) (fun r hw => ?_)
      have hw : r = 1 := by rw [hw]; decide
      subst hw
      have eF : F_holds σ ci = 1 := by simp [F_holds, h7, hx2, bI]
      exact W.iret (v := 1) hx hb hr (fun t ht hW => ⟨_, rfl, (by rw [eF]), ht⟩) (fun q hq => absurd hq List.not_mem_nil) dX4_holds_22
    · refine vp_callSi (W.runS (As := [.int 0]) (rest := []) ⟨hx, hb, hml, hown, hts⟩ (c_X4_asAnswer l 0) (va_cwS 1 hts gX4_holds_X4_asAnswer rfl rfl rfl (by decide +kernel) ⟨Nat.le_of_ble_eq_true rfl, Nat.le_of_ble_eq_true rfl⟩) ⟨pt_blind, pt_pre⟩ rfl rfl hl.1 rfl (lv_room (Nat.le_of_ble_eq_true rfl)) dX4_holds_19 ⟨Nat.le_of_ble_eq_true rfl, Nat.le_of_ble_eq_true rfl⟩) (fun r hw => ?_)
      have hw : r = 0 := by rw [hw]; decide
      subst hw
      have eF : F_holds σ ci = 0 := by simp [F_holds, h7, hx2, bI]
      exact W.iret (v := 0) hx hb hr (fun t ht hW => ⟨_, rfl, (by rw [eF]), ht⟩) (fun q hq => absurd hq List.not_mem_nil) dX4_holds_22
  · refine lv_astore_nN (lv' := [(2, .null), (0, .ref (α 0 0)), (1, .int ci)]) hx hb dX4_holds_5 rfl hl (by decide) rfl (fun ls hl => ?_)
    refine lv_aload_nN hx hb dX4_holds_6 rfl (lv_at hl 0 rfl) ?_
    refine lv_ifnonnullN hx hb dX4_holds_7 ?_
    refine lv_bipush (v := (-2)) hx hb dX4_holds_10 (by decide) ?_
    refine lv_goto (tgt := 22) hx hb dX4_holds_12 (by decide) ?_
    have eF : F_holds σ ci = (-2) := by simp [F_holds, h6, bI]
    exact W.iret (v := (-2)) hx hb hr (fun t ht hW => ⟨_, rfl, (by rw [eF]), ht⟩) (fun q hq => absurd hq List.not_mem_nil) dX4_holds_22

set_option maxHeartbeats 4000000 in
set_option maxRecDepth 100000 in
theorem c_X4_tripped (l : Launch) (D : va_G) (cy : Nat → ClassId) (A : Nat → Prop) (α : AD) (σ : SG) (ti : Int32) : Met l yX4_tripped wsX4_tripped ({ frames := 1, cells := 0, slots := 0, locals := 21 } : Room) (va_Pc [.ref (α 0 0), .int ti] (PB D cy A α (CC cy σ α))) (vp_Si (fun r => r = F_tripped σ ti)) 0 0 (fun _ => False) := by
  refine Met.ofW (cc := cX4_tripped) (maxL := 3) (ret := (some .int)) (by decide) rfl ?_
  intro p e s m args below meth c s₁ B hml hv
  obtain ⟨rfl, hP, hK⟩ := hv
  have hx := B.exec
  have hb := B.bytes
  have hr := B.returns
  have hts := atoms_spec (ws := wsX4_tripped) B.pre
  have hown : s.vm.findClass RX4 = some m.cls := findClass_of_methodNamed B.named
  have hlocks := B.notSynchronized
  have hiX4 : ∀ w ∈ wsX40, w ∈ wsX4_tripped := by decide +kernel
  have hiX3 : ∀ w ∈ wsX30, w ∈ wsX4_tripped := by decide +kernel
  have hl := lv_entry ([.ref (α 0 0), .int ti]) (n := 3) (Nat.le_of_ble_eq_true rfl)
  rw [lg_entry_eq]
  generalize (lg_sl ([.ref (α 0 0), .int ti]) ++ List.replicate (3 - (lg_sl ([.ref (α 0 0), .int ti])).length) Slot.unset).toArray = ls at hl ⊢
  have hl : lv_has ls 3 [(0, .ref (α 0 0)), (1, .int ti)] := hl
  refine lv_aload_n hx hb dX4_tripped_0 rfl (lv_at hl 0 rfl) ?_
  refine lv_iload_n hx hb dX4_tripped_1 rfl (lv_at hl 1 rfl) ?_
  refine va_csq (W.runV (As := [.int ti]) (rest := []) ⟨hx, hb, hml, hown, hts⟩ (c_X4_tripAt l D cy A α σ ti) (cwV 1 hts gX4_tripped_X4_tripAt rfl rfl rfl (by decide +kernel) ⟨Nat.le_of_ble_eq_true rfl, Nat.le_of_ble_eq_true rfl⟩) ⟨pb_blind, pw_recv hP hK cc_0 rfl, pb_pre hP hK⟩ rfl rfl hl.1 rfl (lv_room (Nat.le_of_ble_eq_true rfl)) dX4_tripped_2 ⟨Nat.le_of_ble_eq_true rfl, Nat.le_of_ble_eq_true rfl⟩) (fun r hw => ?_)
  rcases hw with ⟨j1, hx2, hj3, hg4, hm5, rfl⟩ | ⟨rfl, h6⟩
  · refine lv_astore_n (lv' := [(2, .ref (α 14 j1)), (0, .ref (α 0 0)), (1, .int ti)]) hx hb dX4_tripped_5 rfl hl (by decide) rfl (fun ls hl => ?_)
    refine lv_aload_n hx hb dX4_tripped_6 rfl (lv_at hl 0 rfl) ?_
    refine lv_ifnonnull (tgt := 15) hx hb dX4_tripped_7 (by decide) ?_
    refine lv_aload_n hx hb dX4_tripped_15 rfl (lv_at hl 0 rfl) ?_
    refine pw_get (ref := "TripPanel$Trip") (C := RX3) (T := TX3) (N := 4) (ci := 3) (fs := (fsT σ α j1)) (v := .int (σ 21 j1)) hx hb hts hiX3 hown hK hP (cc_14 hj3 hm5) rfl 3 (by decide) (by decide +kernel) rfl rfl dX4_tripped_16 ?_
    refine vp_callSi (W.runS (As := [.int (σ 21 j1)]) (rest := []) ⟨hx, hb, hml, hown, hts⟩ (c_X4_asAnswer l (σ 21 j1)) (va_cwS 1 hts gX4_tripped_X4_asAnswer rfl rfl rfl (by decide +kernel) ⟨Nat.le_of_ble_eq_true rfl, Nat.le_of_ble_eq_true rfl⟩) ⟨pt_blind, pt_pre⟩ rfl rfl hl.1 rfl (lv_room (Nat.le_of_ble_eq_true rfl)) dX4_tripped_19 ⟨Nat.le_of_ble_eq_true rfl, Nat.le_of_ble_eq_true rfl⟩) (fun r hw => ?_)
    subst hw
    have eF : F_tripped σ ti = (if (σ 21 j1) = 0 then 0 else 1) := by simp [F_tripped, hx2]
    exact W.iret (v := (if (σ 21 j1) = 0 then 0 else 1)) hx hb hr (fun t ht hW => ⟨_, rfl, (by rw [eF]), ht⟩) (fun q hq => absurd hq List.not_mem_nil) dX4_tripped_22
  · refine lv_astore_nN (lv' := [(2, .null), (0, .ref (α 0 0)), (1, .int ti)]) hx hb dX4_tripped_5 rfl hl (by decide) rfl (fun ls hl => ?_)
    refine lv_aload_nN hx hb dX4_tripped_6 rfl (lv_at hl 0 rfl) ?_
    refine lv_ifnonnullN hx hb dX4_tripped_7 ?_
    refine lv_bipush (v := (-2)) hx hb dX4_tripped_10 (by decide) ?_
    refine lv_goto (tgt := 22) hx hb dX4_tripped_12 (by decide) ?_
    have eF : F_tripped σ ti = (-2) := by simp [F_tripped, h6]
    exact W.iret (v := (-2)) hx hb hr (fun t ht hW => ⟨_, rfl, (by rw [eF]), ht⟩) (fun q hq => absurd hq List.not_mem_nil) dX4_tripped_22

set_option maxHeartbeats 4000000 in
set_option maxRecDepth 100000 in
theorem c_X4_since (l : Launch) (D : va_G) (cy : Nat → ClassId) (A : Nat → Prop) (α : AD) (σ : SG) (g rel n : Int32) (hG : ∀ g, g < 16 → okG σ g) : Met l yX4_since wsX4_since ({ frames := 3, cells := 0, slots := 0, locals := 71 } : Room) (va_Pc [.ref (α 0 0), .int g, .int rel, .int n] (PB D cy A α (CC cy σ α))) (vp_Si (fun r => r = F_since σ g rel n)) 0 0 (fun _ => False) := by
  refine Met.ofW (cc := cX4_since) (maxL := 5) (ret := (some .int)) (by decide) rfl ?_
  intro p e s m args below meth c s₁ B hml hv
  obtain ⟨rfl, hP, hK⟩ := hv
  have hx := B.exec
  have hb := B.bytes
  have hr := B.returns
  have hts := atoms_spec (ws := wsX4_since) B.pre
  have hown : s.vm.findClass RX4 = some m.cls := findClass_of_methodNamed B.named
  have hlocks := B.notSynchronized
  have hiX4 : ∀ w ∈ wsX40, w ∈ wsX4_since := by decide +kernel
  have hl := lv_entry ([.ref (α 0 0), .int g, .int rel, .int n]) (n := 5) (Nat.le_of_ble_eq_true rfl)
  rw [lg_entry_eq]
  generalize (lg_sl ([.ref (α 0 0), .int g, .int rel, .int n]) ++ List.replicate (5 - (lg_sl ([.ref (α 0 0), .int g, .int rel, .int n])).length) Slot.unset).toArray = ls at hl ⊢
  have hl : lv_has ls 5 [(0, .ref (α 0 0)), (1, .int g), (2, .int rel), (3, .int n)] := hl
  refine lv_iload_n hx hb dX4_since_0 rfl (lv_at hl 2 rfl) ?_
  refine vp_callSi (W.runS (As := [.int rel]) (rest := []) ⟨hx, hb, hml, hown, hts⟩ (c_X4_isRelation l rel) (va_cwS 1 hts gX4_since_X4_isRelation rfl rfl rfl (by decide +kernel) ⟨Nat.le_of_ble_eq_true rfl, Nat.le_of_ble_eq_true rfl⟩) ⟨pt_blind, pt_pre⟩ rfl rfl hl.1 rfl (lv_room (Nat.le_of_ble_eq_true rfl)) dX4_since_1 ⟨Nat.le_of_ble_eq_true rfl, Nat.le_of_ble_eq_true rfl⟩) (fun r hw => ?_)
  rcases hw with ⟨rfl, h1⟩ | ⟨rfl, h1⟩
  · refine lv_if_eq (x := 1) (tgt := 14) hx hb dX4_since_4 (by decide) (fun c => absurd c (by decide)) (fun c4 => ?_)
    refine lv_iload_n hx hb dX4_since_7 rfl (lv_at hl 3 rfl) ?_
    refine vp_callSi (W.runS (As := [.int n]) (rest := []) ⟨hx, hb, hml, hown, hts⟩ (c_X4_isNumber l n) (va_cwS 1 hts gX4_since_X4_isNumber rfl rfl rfl (by decide +kernel) ⟨Nat.le_of_ble_eq_true rfl, Nat.le_of_ble_eq_true rfl⟩) ⟨pt_blind, pt_pre⟩ rfl rfl hl.1 rfl (lv_room (Nat.le_of_ble_eq_true rfl)) dX4_since_8 ⟨Nat.le_of_ble_eq_true rfl, Nat.le_of_ble_eq_true rfl⟩) (fun r hw => ?_)
    rcases hw with ⟨rfl, h2⟩ | ⟨rfl, h2⟩
    · refine lv_if_ne (x := 1) (tgt := 17) hx hb dX4_since_11 (by decide) (fun c11 => ?_) (fun c => absurd c (by decide))
      refine lv_aload_n hx hb dX4_since_17 rfl (lv_at hl 0 rfl) ?_
      refine lv_iload_n hx hb dX4_since_18 rfl (lv_at hl 1 rfl) ?_
      refine va_csq (W.runV (As := [.int g]) (rest := []) ⟨hx, hb, hml, hown, hts⟩ (c_X4_gaugeAt l D cy A α σ g) (cwV 1 hts gX4_since_X4_gaugeAt rfl rfl rfl (by decide +kernel) ⟨Nat.le_of_ble_eq_true rfl, Nat.le_of_ble_eq_true rfl⟩) ⟨pb_blind, pw_recv hP hK cc_0 rfl, pb_pre hP hK⟩ rfl rfl hl.1 rfl (lv_room (Nat.le_of_ble_eq_true rfl)) dX4_since_19 ⟨Nat.le_of_ble_eq_true rfl, Nat.le_of_ble_eq_true rfl⟩) (fun r hw => ?_)
      rcases hw with ⟨j3, hx4, hj5, hg6, hm7, rfl⟩ | ⟨rfl, h8⟩
      · refine lv_astore (lv' := [(4, .ref (α 10 j3)), (0, .ref (α 0 0)), (1, .int g), (2, .int rel), (3, .int n)]) hx hb dX4_since_22 hl (by decide) rfl (fun ls hl => ?_)
        refine lv_aload hx hb dX4_since_24 (lv_at hl 0 rfl) ?_
        refine lv_ifnonnull (tgt := 34) hx hb dX4_since_26 (by decide) ?_
        refine lv_aload hx hb dX4_since_34 (lv_at hl 0 rfl) ?_
        refine lv_iload_n hx hb dX4_since_36 rfl (lv_at hl 3 rfl) ?_
        refine lv_iload_n hx hb dX4_since_37 rfl (lv_at hl 4 rfl) ?_
        refine vp_callSi (W.runV (As := [.int rel, .int n]) (rest := []) ⟨hx, hb, hml, hown, hts⟩ (c_X1_rowUntil l D cy A α σ j3 hj5 hm7 rel n h1 (hG j3 hj5)) (cwV 2 hts gX4_since_X1_rowUntil rfl rfl rfl (by decide +kernel) ⟨Nat.le_of_ble_eq_true rfl, Nat.le_of_ble_eq_true rfl⟩) ⟨pb_blind, pw_recv hP hK (cc_10 hj5 hm7) rfl, pb_pre hP hK⟩ rfl rfl hl.1 rfl (lv_room (Nat.le_of_ble_eq_true rfl)) dX4_since_38 ⟨Nat.le_of_ble_eq_true rfl, Nat.le_of_ble_eq_true rfl⟩) (fun r hw => ?_)
        subst hw
        have eF : F_since σ g rel n = (siN σ j3 rel n (cN (σ 10 j3)) 0) := by simp [F_since, h1, h2, hx4]
        exact W.iret (v := (siN σ j3 rel n (cN (σ 10 j3)) 0)) hx hb hr (fun t ht hW => ⟨_, rfl, (by rw [eF]), ht⟩) (fun q hq => absurd hq List.not_mem_nil) dX4_since_41
      · refine lv_astoreN (lv' := [(4, .null), (0, .ref (α 0 0)), (1, .int g), (2, .int rel), (3, .int n)]) hx hb dX4_since_22 hl (by decide) rfl (fun ls hl => ?_)
        refine lv_aloadN hx hb dX4_since_24 (lv_at hl 0 rfl) ?_
        refine lv_ifnonnullN hx hb dX4_since_26 ?_
        refine lv_bipush (v := (-2)) hx hb dX4_since_29 (by decide) ?_
        refine lv_goto (tgt := 41) hx hb dX4_since_31 (by decide) ?_
        have eF : F_since σ g rel n = (-2) := by simp [F_since, h1, h2, h8]
        exact W.iret (v := (-2)) hx hb hr (fun t ht hW => ⟨_, rfl, (by rw [eF]), ht⟩) (fun q hq => absurd hq List.not_mem_nil) dX4_since_41
    · refine lv_if_ne (x := 0) (tgt := 17) hx hb dX4_since_11 (by decide) (fun c => absurd (by decide) c) (fun c11 => ?_)
      refine lv_bipush (v := (-4)) hx hb dX4_since_14 (by decide) ?_
      have eF : F_since σ g rel n = (-4) := by simp [F_since, h1, h2]
      exact W.iret (v := (-4)) hx hb hr (fun t ht hW => ⟨_, rfl, (by rw [eF]), ht⟩) (fun q hq => absurd hq List.not_mem_nil) dX4_since_16
  · refine lv_if_eq (x := 0) (tgt := 14) hx hb dX4_since_4 (by decide) (fun c4 => ?_) (fun c => absurd (by decide) c)
    refine lv_bipush (v := (-4)) hx hb dX4_since_14 (by decide) ?_
    have eF : F_since σ g rel n = (-4) := by simp [F_since, h1]
    exact W.iret (v := (-4)) hx hb hr (fun t ht hW => ⟨_, rfl, (by rw [eF]), ht⟩) (fun q hq => absurd hq List.not_mem_nil) dX4_since_16

set_option maxHeartbeats 4000000 in
set_option maxRecDepth 100000 in
theorem c_X4_counted (l : Launch) (D : va_G) (cy : Nat → ClassId) (A : Nat → Prop) (α : AD) (σ : SG) (g rel n : Int32) (hG : ∀ g, g < 16 → okG σ g) : Met l yX4_counted wsX4_counted ({ frames := 3, cells := 0, slots := 0, locals := 72 } : Room) (va_Pc [.ref (α 0 0), .int g, .int rel, .int n] (PB D cy A α (CC cy σ α))) (vp_Si (fun r => r = F_counted σ g rel n)) 0 0 (fun _ => False) := by
  refine Met.ofW (cc := cX4_counted) (maxL := 5) (ret := (some .int)) (by decide) rfl ?_
  intro p e s m args below meth c s₁ B hml hv
  obtain ⟨rfl, hP, hK⟩ := hv
  have hx := B.exec
  have hb := B.bytes
  have hr := B.returns
  have hts := atoms_spec (ws := wsX4_counted) B.pre
  have hown : s.vm.findClass RX4 = some m.cls := findClass_of_methodNamed B.named
  have hlocks := B.notSynchronized
  have hiX4 : ∀ w ∈ wsX40, w ∈ wsX4_counted := by decide +kernel
  have hl := lv_entry ([.ref (α 0 0), .int g, .int rel, .int n]) (n := 5) (Nat.le_of_ble_eq_true rfl)
  rw [lg_entry_eq]
  generalize (lg_sl ([.ref (α 0 0), .int g, .int rel, .int n]) ++ List.replicate (5 - (lg_sl ([.ref (α 0 0), .int g, .int rel, .int n])).length) Slot.unset).toArray = ls at hl ⊢
  have hl : lv_has ls 5 [(0, .ref (α 0 0)), (1, .int g), (2, .int rel), (3, .int n)] := hl
  refine lv_iload_n hx hb dX4_counted_0 rfl (lv_at hl 2 rfl) ?_
  refine vp_callSi (W.runS (As := [.int rel]) (rest := []) ⟨hx, hb, hml, hown, hts⟩ (c_X4_isRelation l rel) (va_cwS 1 hts gX4_counted_X4_isRelation rfl rfl rfl (by decide +kernel) ⟨Nat.le_of_ble_eq_true rfl, Nat.le_of_ble_eq_true rfl⟩) ⟨pt_blind, pt_pre⟩ rfl rfl hl.1 rfl (lv_room (Nat.le_of_ble_eq_true rfl)) dX4_counted_1 ⟨Nat.le_of_ble_eq_true rfl, Nat.le_of_ble_eq_true rfl⟩) (fun r hw => ?_)
  rcases hw with ⟨rfl, h1⟩ | ⟨rfl, h1⟩
  · refine lv_if_eq (x := 1) (tgt := 14) hx hb dX4_counted_4 (by decide) (fun c => absurd c (by decide)) (fun c4 => ?_)
    refine lv_iload_n hx hb dX4_counted_7 rfl (lv_at hl 3 rfl) ?_
    refine vp_callSi (W.runS (As := [.int n]) (rest := []) ⟨hx, hb, hml, hown, hts⟩ (c_X4_isNumber l n) (va_cwS 1 hts gX4_counted_X4_isNumber rfl rfl rfl (by decide +kernel) ⟨Nat.le_of_ble_eq_true rfl, Nat.le_of_ble_eq_true rfl⟩) ⟨pt_blind, pt_pre⟩ rfl rfl hl.1 rfl (lv_room (Nat.le_of_ble_eq_true rfl)) dX4_counted_8 ⟨Nat.le_of_ble_eq_true rfl, Nat.le_of_ble_eq_true rfl⟩) (fun r hw => ?_)
    rcases hw with ⟨rfl, h2⟩ | ⟨rfl, h2⟩
    · refine lv_if_ne (x := 1) (tgt := 17) hx hb dX4_counted_11 (by decide) (fun c11 => ?_) (fun c => absurd c (by decide))
      refine lv_aload_n hx hb dX4_counted_17 rfl (lv_at hl 0 rfl) ?_
      refine lv_iload_n hx hb dX4_counted_18 rfl (lv_at hl 1 rfl) ?_
      refine va_csq (W.runV (As := [.int g]) (rest := []) ⟨hx, hb, hml, hown, hts⟩ (c_X4_gaugeAt l D cy A α σ g) (cwV 1 hts gX4_counted_X4_gaugeAt rfl rfl rfl (by decide +kernel) ⟨Nat.le_of_ble_eq_true rfl, Nat.le_of_ble_eq_true rfl⟩) ⟨pb_blind, pw_recv hP hK cc_0 rfl, pb_pre hP hK⟩ rfl rfl hl.1 rfl (lv_room (Nat.le_of_ble_eq_true rfl)) dX4_counted_19 ⟨Nat.le_of_ble_eq_true rfl, Nat.le_of_ble_eq_true rfl⟩) (fun r hw => ?_)
      rcases hw with ⟨j3, hx4, hj5, hg6, hm7, rfl⟩ | ⟨rfl, h8⟩
      · refine lv_astore (lv' := [(4, .ref (α 10 j3)), (0, .ref (α 0 0)), (1, .int g), (2, .int rel), (3, .int n)]) hx hb dX4_counted_22 hl (by decide) rfl (fun ls hl => ?_)
        refine lv_aload hx hb dX4_counted_24 (lv_at hl 0 rfl) ?_
        refine lv_ifnonnull (tgt := 34) hx hb dX4_counted_26 (by decide) ?_
        refine lv_aload hx hb dX4_counted_34 (lv_at hl 0 rfl) ?_
        refine lv_iload_n hx hb dX4_counted_36 rfl (lv_at hl 3 rfl) ?_
        refine lv_iload_n hx hb dX4_counted_37 rfl (lv_at hl 4 rfl) ?_
        refine vp_callSi (W.runV (As := [.int rel, .int n]) (rest := []) ⟨hx, hb, hml, hown, hts⟩ (c_X1_rowCount l D cy A α σ j3 hj5 hm7 rel n h1 (hG j3 hj5)) (cwV 2 hts gX4_counted_X1_rowCount rfl rfl rfl (by decide +kernel) ⟨Nat.le_of_ble_eq_true rfl, Nat.le_of_ble_eq_true rfl⟩) ⟨pb_blind, pw_recv hP hK (cc_10 hj5 hm7) rfl, pb_pre hP hK⟩ rfl rfl hl.1 rfl (lv_room (Nat.le_of_ble_eq_true rfl)) dX4_counted_38 ⟨Nat.le_of_ble_eq_true rfl, Nat.le_of_ble_eq_true rfl⟩) (fun r hw => ?_)
        subst hw
        have eF : F_counted σ g rel n = (coN σ j3 rel n (cN (σ 10 j3))) := by simp [F_counted, h1, h2, hx4]
        exact W.iret (v := (coN σ j3 rel n (cN (σ 10 j3)))) hx hb hr (fun t ht hW => ⟨_, rfl, (by rw [eF]), ht⟩) (fun q hq => absurd hq List.not_mem_nil) dX4_counted_41
      · refine lv_astoreN (lv' := [(4, .null), (0, .ref (α 0 0)), (1, .int g), (2, .int rel), (3, .int n)]) hx hb dX4_counted_22 hl (by decide) rfl (fun ls hl => ?_)
        refine lv_aloadN hx hb dX4_counted_24 (lv_at hl 0 rfl) ?_
        refine lv_ifnonnullN hx hb dX4_counted_26 ?_
        refine lv_bipush (v := (-2)) hx hb dX4_counted_29 (by decide) ?_
        refine lv_goto (tgt := 41) hx hb dX4_counted_31 (by decide) ?_
        have eF : F_counted σ g rel n = (-2) := by simp [F_counted, h1, h2, h8]
        exact W.iret (v := (-2)) hx hb hr (fun t ht hW => ⟨_, rfl, (by rw [eF]), ht⟩) (fun q hq => absurd hq List.not_mem_nil) dX4_counted_41
    · refine lv_if_ne (x := 0) (tgt := 17) hx hb dX4_counted_11 (by decide) (fun c => absurd (by decide) c) (fun c11 => ?_)
      refine lv_bipush (v := (-4)) hx hb dX4_counted_14 (by decide) ?_
      have eF : F_counted σ g rel n = (-4) := by simp [F_counted, h1, h2]
      exact W.iret (v := (-4)) hx hb hr (fun t ht hW => ⟨_, rfl, (by rw [eF]), ht⟩) (fun q hq => absurd hq List.not_mem_nil) dX4_counted_16
  · refine lv_if_eq (x := 0) (tgt := 14) hx hb dX4_counted_4 (by decide) (fun c4 => ?_) (fun c => absurd (by decide) c)
    refine lv_bipush (v := (-4)) hx hb dX4_counted_14 (by decide) ?_
    have eF : F_counted σ g rel n = (-4) := by simp [F_counted, h1]
    exact W.iret (v := (-4)) hx hb hr (fun t ht hW => ⟨_, rfl, (by rw [eF]), ht⟩) (fun q hq => absurd hq List.not_mem_nil) dX4_counted_16
