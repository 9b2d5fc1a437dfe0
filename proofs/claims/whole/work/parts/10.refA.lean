theorem rd_gap {n1 n rel n2 m : Int32} (h : n = gp ∨ m = gp) : rd n1 n rel n2 m = decide (rel = 5) := if_pos h
theorem rd_val {n1 n rel n2 m : Int32} (h1 : ¬ n = gp) (h2 : ¬ m = gp) : rd n1 n rel n2 m = rl rel (FP.dcmp (vl n1 n) (vl n2 m)) := if_neg (fun h => h.elim h1 h2)
theorem rel5 {r : Int32} (h : isRel r) (c : ¬ r ≤ 4) : r = 5 := by
  rcases h with h | h | h | h | h | h <;> subst h <;> first | rfl | exact absurd (by decide) c
theorem rel5n {r : Int32} (c : r ≤ 4) : ¬ r = 5 := by
  rintro rfl
  exact absurd c (by decide)

set_option maxHeartbeats 4000000 in
set_option maxRecDepth 100000 in
theorem c_X5_isIn (l : Launch) (k n : Int32) : Met l yX5_isIn wsX5_isIn ({ frames := 0, cells := 0, slots := 0, locals := 0 } : Room) (va_Pc [.int k, .int n] (fun _ => True)) (vp_Si (fun r => bq r (0 ≤ k ∧ k < n))) 0 0 (fun _ => False) := by
  refine Met.ofW (cc := cX5_isIn) (maxL := 2) (ret := (some .boolean)) (by decide) rfl ?_
  intro p e s m args below meth c s₁ B hml hv
  obtain ⟨rfl, -⟩ := hv
  have hx := B.exec
  have hb := B.bytes
  have hr := B.returns
  have hts := atoms_spec (ws := wsX5_isIn) B.pre
  have hown : s.vm.findClass RX5 = some m.cls := findClass_of_methodNamed B.named
  have hlocks := B.notSynchronized
  have hl := lv_entry ([.int k, .int n]) (n := 2) (Nat.le_of_ble_eq_true rfl)
  rw [lg_entry_eq]
  generalize (lg_sl ([.int k, .int n]) ++ List.replicate (2 - (lg_sl ([.int k, .int n])).length) Slot.unset).toArray = ls at hl ⊢
  have hl : lv_has ls 2 [(0, .int k), (1, .int n)] := hl
  refine lv_iload_n hx hb dX5_isIn_0 rfl (lv_at hl 0 rfl) ?_
  refine lv_if_lt (x := k) (tgt := 13) hx hb dX5_isIn_1 (by decide) (fun c1 => ?_) (fun c1 => ?_)
  · refine lv_iconst (v := 0) hx hb dX5_isIn_13 (by decide) ?_
    exact W.zret (v := 0) hx hb hr rfl (fun t ht hW => ⟨_, rfl, bq_f (fun h => absurd h.1 (Int32.not_le.mpr c1)), ht⟩) (fun q hq => absurd hq List.not_mem_nil) dX5_isIn_14
  · refine lv_iload_n hx hb dX5_isIn_4 rfl (lv_at hl 0 rfl) ?_
    refine lv_iload_n hx hb dX5_isIn_5 rfl (lv_at hl 1 rfl) ?_
    refine lv_icmp_ge (x := k) (y := n) (tgt := 13) hx hb dX5_isIn_6 (by decide) (fun c6 => ?_) (fun c6 => ?_)
    · refine lv_iconst (v := 0) hx hb dX5_isIn_13 (by decide) ?_
      exact W.zret (v := 0) hx hb hr rfl (fun t ht hW => ⟨_, rfl, bq_f (fun h => absurd h.2 (Int32.not_lt.mpr c6)), ht⟩) (fun q hq => absurd hq List.not_mem_nil) dX5_isIn_14
    · refine lv_iconst (v := 1) hx hb dX5_isIn_9 (by decide) ?_
      refine lv_goto (tgt := 14) hx hb dX5_isIn_10 (by decide) ?_
      exact W.zret (v := 1) hx hb hr rfl (fun t ht hW => ⟨_, rfl, bq_t ⟨nn_le c1, nl_lt c6⟩, ht⟩) (fun q hq => absurd hq List.not_mem_nil) dX5_isIn_14

set_option maxHeartbeats 4000000 in
set_option maxRecDepth 100000 in
theorem c_X5_isNumber (l : Launch) (n : Int32) : Met l yX5_isNumber wsX5_isNumber ({ frames := 0, cells := 0, slots := 0, locals := 0 } : Room) (va_Pc [.int n] (fun _ => True)) (vp_Si (fun r => bq r (isNum n))) 0 0 (fun _ => False) := by
  refine Met.ofW (cc := cX5_isNumber) (maxL := 1) (ret := (some .boolean)) (by decide) rfl ?_
  intro p e s m args below meth c s₁ B hml hv
  obtain ⟨rfl, -⟩ := hv
  have hx := B.exec
  have hb := B.bytes
  have hr := B.returns
  have hts := atoms_spec (ws := wsX5_isNumber) B.pre
  have hown : s.vm.findClass RX5 = some m.cls := findClass_of_methodNamed B.named
  have hlocks := B.notSynchronized
  have hl := lv_entry ([.int n]) (n := 1) (Nat.le_of_ble_eq_true rfl)
  rw [lg_entry_eq]
  generalize (lg_sl ([.int n]) ++ List.replicate (1 - (lg_sl ([.int n])).length) Slot.unset).toArray = ls at hl ⊢
  have hl : lv_has ls 1 [(0, .int n)] := hl
  refine lv_iload_n hx hb dX5_isNumber_0 rfl (lv_at hl 0 rfl) ?_
  refine lv_ldc hx hb hown (hts (.constant RX5 86 (-1000000000)) (by decide +kernel)) dX5_isNumber_1 ?_
  refine lv_icmp_lt (x := n) (y := (-1000000000)) (tgt := 16) hx hb dX5_isNumber_3 (by decide) (fun c3 => ?_) (fun c3 => ?_)
  · refine lv_iconst (v := 0) hx hb dX5_isNumber_16 (by decide) ?_
    exact W.zret (v := 0) hx hb hr rfl (fun t ht hW => ⟨_, rfl, bq_f (fun h => absurd h.1 (Int32.not_le.mpr c3)), ht⟩) (fun q hq => absurd hq List.not_mem_nil) dX5_isNumber_17
  · refine lv_iload_n hx hb dX5_isNumber_6 rfl (lv_at hl 0 rfl) ?_
    refine lv_ldc hx hb hown (hts (.constant RX5 87 (1000000000)) (by decide +kernel)) dX5_isNumber_7 ?_
    refine lv_icmp_gt (x := n) (y := 1000000000) (tgt := 16) hx hb dX5_isNumber_9 (by decide) (fun c9 => ?_) (fun c9 => ?_)
    · refine lv_iconst (v := 0) hx hb dX5_isNumber_16 (by decide) ?_
      exact W.zret (v := 0) hx hb hr rfl (fun t ht hW => ⟨_, rfl, bq_f (fun h => absurd h.2 (Int32.not_le.mpr c9)), ht⟩) (fun q hq => absurd hq List.not_mem_nil) dX5_isNumber_17
    · refine lv_iconst (v := 1) hx hb dX5_isNumber_12 (by decide) ?_
      refine lv_goto (tgt := 17) hx hb dX5_isNumber_13 (by decide) ?_
      exact W.zret (v := 1) hx hb hr rfl (fun t ht hW => ⟨_, rfl, bq_t ⟨Int32.not_lt.mp c3, Int32.not_lt.mp c9⟩, ht⟩) (fun q hq => absurd hq List.not_mem_nil) dX5_isNumber_17

set_option maxHeartbeats 4000000 in
set_option maxRecDepth 100000 in
theorem c_X5_isGauge (l : Launch) (D : va_G) (cy : Nat → ClassId) (A : Nat → Prop) (α : AD) (σ : SG) (g : Int32) : Met l yX5_isGauge wsX5_isGauge ({ frames := 1, cells := 0, slots := 0, locals := 21 } : Room) (va_Pc [.ref (α 0 0), .int g] (PB D cy A α (CR cy σ α))) (vp_Si (fun r => (r = 1 ∧ ∃ j, gx σ g = some j ∧ j < 16 ∧ g = nI j ∧ σ 0 j ≠ 0) ∨ (r = 0 ∧ gx σ g = none))) 0 0 (fun _ => False) := by
  refine Met.ofW (cc := cX5_isGauge) (maxL := 2) (ret := (some .boolean)) (by decide) rfl ?_
  intro p e s m args below meth c s₁ B hml hv
  obtain ⟨rfl, hP, hK⟩ := hv
  have hx := B.exec
  have hb := B.bytes
  have hr := B.returns
  have hts := atoms_spec (ws := wsX5_isGauge) B.pre
  have hown : s.vm.findClass RX5 = some m.cls := findClass_of_methodNamed B.named
  have hlocks := B.notSynchronized
  have hiX5 : ∀ w ∈ wsX50, w ∈ wsX5_isGauge := by decide +kernel
  have hl := lv_entry ([.ref (α 0 0), .int g]) (n := 2) (Nat.le_of_ble_eq_true rfl)
  rw [lg_entry_eq]
  generalize (lg_sl ([.ref (α 0 0), .int g]) ++ List.replicate (2 - (lg_sl ([.ref (α 0 0), .int g])).length) Slot.unset).toArray = ls at hl ⊢
  have hl : lv_has ls 2 [(0, .ref (α 0 0)), (1, .int g)] := hl
  refine lv_iload_n hx hb dX5_isGauge_0 rfl (lv_at hl 1 rfl) ?_
  refine lv_bipush (v := 16) hx hb dX5_isGauge_1 (by decide) ?_
  refine vp_callSi (W.runS (As := [.int g, .int 16]) (rest := []) ⟨hx, hb, hml, hown, hts⟩ (c_X5_isIn l g 16) (va_cwS 2 hts gX5_isGauge_X5_isIn rfl rfl rfl (by decide +kernel) ⟨Nat.le_of_ble_eq_true rfl, Nat.le_of_ble_eq_true rfl⟩) ⟨pt_blind, pt_pre⟩ rfl rfl hl.1 rfl (lv_room (Nat.le_of_ble_eq_true rfl)) dX5_isGauge_3 ⟨Nat.le_of_ble_eq_true rfl, Nat.le_of_ble_eq_true rfl⟩) (fun r hw => ?_)
  rcases hw with ⟨rfl, h1⟩ | ⟨rfl, h1⟩
  · obtain ⟨j2, hj3, hg4⟩ := in_j (n := 16) (by decide) h1
    refine lv_if_eq (x := 1) (tgt := 22) hx hb dX5_isGauge_6 (by decide) (fun c => absurd c (by decide)) (fun c6 => ?_)
    refine lv_aload_n hx hb dX5_isGauge_9 rfl (lv_at hl 0 rfl) ?_
    refine rf_get (v := .ref (α 1 0)) hx hb hts hiX5 hown hK hP 0 (by decide) (by decide +kernel) rfl rfl dX5_isGauge_10 ?_
    refine lv_iload_n hx hb dX5_isGauge_13 rfl (lv_at hl 1 rfl) ?_
    refine rf_zald hx hb hK hP 0 (by decide) rfl j2 hg4 hj3 dX5_isGauge_14 ?_
    refine lv_if_eq (x := (σ 0 j2)) (tgt := 22) hx hb dX5_isGauge_15 (by decide) (fun c15 => ?_) (fun c15 => ?_)
    · refine lv_iconst (v := 0) hx hb dX5_isGauge_22 (by decide) ?_
      exact W.zret (v := 0) hx hb hr rfl (fun t ht hW => ⟨_, rfl, Or.inr ⟨rfl, (by rw [hg4]; exact ix_none2 (by omega) c15)⟩, ht⟩) (fun q hq => absurd hq List.not_mem_nil) dX5_isGauge_23
    · refine lv_iconst (v := 1) hx hb dX5_isGauge_18 (by decide) ?_
      refine lv_goto (tgt := 23) hx hb dX5_isGauge_19 (by decide) ?_
      exact W.zret (v := 1) hx hb hr rfl (fun t ht hW => ⟨_, rfl, Or.inl ⟨rfl, j2, (by rw [hg4]; exact ix_of (by decide) hj3 c15), hj3, hg4, c15⟩, ht⟩) (fun q hq => absurd hq List.not_mem_nil) dX5_isGauge_23
  · refine lv_if_eq (x := 0) (tgt := 22) hx hb dX5_isGauge_6 (by decide) (fun c6 => ?_) (fun c => absurd (by decide) c)
    refine lv_iconst (v := 0) hx hb dX5_isGauge_22 (by decide) ?_
    exact W.zret (v := 0) hx hb hr rfl (fun t ht hW => ⟨_, rfl, Or.inr ⟨rfl, ix_none h1⟩, ht⟩) (fun q hq => absurd hq List.not_mem_nil) dX5_isGauge_23

set_option maxHeartbeats 4000000 in
set_option maxRecDepth 100000 in
theorem c_X5_isCondition (l : Launch) (D : va_G) (cy : Nat → ClassId) (A : Nat → Prop) (α : AD) (σ : SG) (g : Int32) : Met l yX5_isCondition wsX5_isCondition ({ frames := 1, cells := 0, slots := 0, locals := 21 } : Room) (va_Pc [.ref (α 0 0), .int g] (PB D cy A α (CR cy σ α))) (vp_Si (fun r => (r = 1 ∧ ∃ j, cx σ g = some j ∧ j < 24 ∧ g = nI j ∧ σ 11 j ≠ 0) ∨ (r = 0 ∧ cx σ g = none))) 0 0 (fun _ => False) := by
  refine Met.ofW (cc := cX5_isCondition) (maxL := 2) (ret := (some .boolean)) (by decide) rfl ?_
  intro p e s m args below meth c s₁ B hml hv
  obtain ⟨rfl, hP, hK⟩ := hv
  have hx := B.exec
  have hb := B.bytes
  have hr := B.returns
  have hts := atoms_spec (ws := wsX5_isCondition) B.pre
  have hown : s.vm.findClass RX5 = some m.cls := findClass_of_methodNamed B.named
  have hlocks := B.notSynchronized
  have hiX5 : ∀ w ∈ wsX50, w ∈ wsX5_isCondition := by decide +kernel
  have hl := lv_entry ([.ref (α 0 0), .int g]) (n := 2) (Nat.le_of_ble_eq_true rfl)
  rw [lg_entry_eq]
  generalize (lg_sl ([.ref (α 0 0), .int g]) ++ List.replicate (2 - (lg_sl ([.ref (α 0 0), .int g])).length) Slot.unset).toArray = ls at hl ⊢
  have hl : lv_has ls 2 [(0, .ref (α 0 0)), (1, .int g)] := hl
  refine lv_iload_n hx hb dX5_isCondition_0 rfl (lv_at hl 1 rfl) ?_
  refine lv_bipush (v := 24) hx hb dX5_isCondition_1 (by decide) ?_
  refine vp_callSi (W.runS (As := [.int g, .int 24]) (rest := []) ⟨hx, hb, hml, hown, hts⟩ (c_X5_isIn l g 24) (va_cwS 2 hts gX5_isCondition_X5_isIn rfl rfl rfl (by decide +kernel) ⟨Nat.le_of_ble_eq_true rfl, Nat.le_of_ble_eq_true rfl⟩) ⟨pt_blind, pt_pre⟩ rfl rfl hl.1 rfl (lv_room (Nat.le_of_ble_eq_true rfl)) dX5_isCondition_3 ⟨Nat.le_of_ble_eq_true rfl, Nat.le_of_ble_eq_true rfl⟩) (fun r hw => ?_)
  rcases hw with ⟨rfl, h1⟩ | ⟨rfl, h1⟩
  · obtain ⟨j2, hj3, hg4⟩ := in_j (n := 24) (by decide) h1
    refine lv_if_eq (x := 1) (tgt := 22) hx hb dX5_isCondition_6 (by decide) (fun c => absurd c (by decide)) (fun c6 => ?_)
    refine lv_aload_n hx hb dX5_isCondition_9 rfl (lv_at hl 0 rfl) ?_
    refine rf_get (v := .ref (α 12 0)) hx hb hts hiX5 hown hK hP 11 (by decide) (by decide +kernel) rfl rfl dX5_isCondition_10 ?_
    refine lv_iload_n hx hb dX5_isCondition_13 rfl (lv_at hl 1 rfl) ?_
    refine rf_zald hx hb hK hP 11 (by decide) rfl j2 hg4 hj3 dX5_isCondition_14 ?_
    refine lv_if_eq (x := (σ 11 j2)) (tgt := 22) hx hb dX5_isCondition_15 (by decide) (fun c15 => ?_) (fun c15 => ?_)
    · refine lv_iconst (v := 0) hx hb dX5_isCondition_22 (by decide) ?_
      exact W.zret (v := 0) hx hb hr rfl (fun t ht hW => ⟨_, rfl, Or.inr ⟨rfl, (by rw [hg4]; exact ix_none2 (by omega) c15)⟩, ht⟩) (fun q hq => absurd hq List.not_mem_nil) dX5_isCondition_23
    · refine lv_iconst (v := 1) hx hb dX5_isCondition_18 (by decide) ?_
      refine lv_goto (tgt := 23) hx hb dX5_isCondition_19 (by decide) ?_
      exact W.zret (v := 1) hx hb hr rfl (fun t ht hW => ⟨_, rfl, Or.inl ⟨rfl, j2, (by rw [hg4]; exact ix_of (by decide) hj3 c15), hj3, hg4, c15⟩, ht⟩) (fun q hq => absurd hq List.not_mem_nil) dX5_isCondition_23
  · refine lv_if_eq (x := 0) (tgt := 22) hx hb dX5_isCondition_6 (by decide) (fun c6 => ?_) (fun c => absurd (by decide) c)
    refine lv_iconst (v := 0) hx hb dX5_isCondition_22 (by decide) ?_
    exact W.zret (v := 0) hx hb hr rfl (fun t ht hW => ⟨_, rfl, Or.inr ⟨rfl, ix_none h1⟩, ht⟩) (fun q hq => absurd hq List.not_mem_nil) dX5_isCondition_23

set_option maxHeartbeats 4000000 in
set_option maxRecDepth 100000 in
theorem c_X5_isTrip (l : Launch) (D : va_G) (cy : Nat → ClassId) (A : Nat → Prop) (α : AD) (σ : SG) (g : Int32) : Met l yX5_isTrip wsX5_isTrip ({ frames := 1, cells := 0, slots := 0, locals := 21 } : Room) (va_Pc [.ref (α 0 0), .int g] (PB D cy A α (CR cy σ α))) (vp_Si (fun r => (r = 1 ∧ ∃ j, tx σ g = some j ∧ j < 8 ∧ g = nI j ∧ σ 20 j ≠ 0) ∨ (r = 0 ∧ tx σ g = none))) 0 0 (fun _ => False) := by
  refine Met.ofW (cc := cX5_isTrip) (maxL := 2) (ret := (some .boolean)) (by decide) rfl ?_
  intro p e s m args below meth c s₁ B hml hv
  obtain ⟨rfl, hP, hK⟩ := hv
  have hx := B.exec
  have hb := B.bytes
  have hr := B.returns
  have hts := atoms_spec (ws := wsX5_isTrip) B.pre
  have hown : s.vm.findClass RX5 = some m.cls := findClass_of_methodNamed B.named
  have hlocks := B.notSynchronized
  have hiX5 : ∀ w ∈ wsX50, w ∈ wsX5_isTrip := by decide +kernel
  have hl := lv_entry ([.ref (α 0 0), .int g]) (n := 2) (Nat.le_of_ble_eq_true rfl)
  rw [lg_entry_eq]
  generalize (lg_sl ([.ref (α 0 0), .int g]) ++ List.replicate (2 - (lg_sl ([.ref (α 0 0), .int g])).length) Slot.unset).toArray = ls at hl ⊢
  have hl : lv_has ls 2 [(0, .ref (α 0 0)), (1, .int g)] := hl
  refine lv_iload_n hx hb dX5_isTrip_0 rfl (lv_at hl 1 rfl) ?_
  refine lv_bipush (v := 8) hx hb dX5_isTrip_1 (by decide) ?_
  refine vp_callSi (W.runS (As := [.int g, .int 8]) (rest := []) ⟨hx, hb, hml, hown, hts⟩ (c_X5_isIn l g 8) (va_cwS 2 hts gX5_isTrip_X5_isIn rfl rfl rfl (by decide +kernel) ⟨Nat.le_of_ble_eq_true rfl, Nat.le_of_ble_eq_true rfl⟩) ⟨pt_blind, pt_pre⟩ rfl rfl hl.1 rfl (lv_room (Nat.le_of_ble_eq_true rfl)) dX5_isTrip_3 ⟨Nat.le_of_ble_eq_true rfl, Nat.le_of_ble_eq_true rfl⟩) (fun r hw => ?_)
  rcases hw with ⟨rfl, h1⟩ | ⟨rfl, h1⟩
  · obtain ⟨j2, hj3, hg4⟩ := in_j (n := 8) (by decide) h1
    refine lv_if_eq (x := 1) (tgt := 22) hx hb dX5_isTrip_6 (by decide) (fun c => absurd c (by decide)) (fun c6 => ?_)
    refine lv_aload_n hx hb dX5_isTrip_9 rfl (lv_at hl 0 rfl) ?_
    refine rf_get (v := .ref (α 21 0)) hx hb hts hiX5 hown hK hP 20 (by decide) (by decide +kernel) rfl rfl dX5_isTrip_10 ?_
    refine lv_iload_n hx hb dX5_isTrip_13 rfl (lv_at hl 1 rfl) ?_
    refine rf_zald hx hb hK hP 20 (by decide) rfl j2 hg4 hj3 dX5_isTrip_14 ?_
    refine lv_if_eq (x := (σ 20 j2)) (tgt := 22) hx hb dX5_isTrip_15 (by decide) (fun c15 => ?_) (fun c15 => ?_)
    · refine lv_iconst (v := 0) hx hb dX5_isTrip_22 (by decide) ?_
      exact W.zret (v := 0) hx hb hr rfl (fun t ht hW => ⟨_, rfl, Or.inr ⟨rfl, (by rw [hg4]; exact ix_none2 (by omega) c15)⟩, ht⟩) (fun q hq => absurd hq List.not_mem_nil) dX5_isTrip_23
    · refine lv_iconst (v := 1) hx hb dX5_isTrip_18 (by decide) ?_
      refine lv_goto (tgt := 23) hx hb dX5_isTrip_19 (by decide) ?_
      exact W.zret (v := 1) hx hb hr rfl (fun t ht hW => ⟨_, rfl, Or.inl ⟨rfl, j2, (by rw [hg4]; exact ix_of (by decide) hj3 c15), hj3, hg4, c15⟩, ht⟩) (fun q hq => absurd hq List.not_mem_nil) dX5_isTrip_23
  · refine lv_if_eq (x := 0) (tgt := 22) hx hb dX5_isTrip_6 (by decide) (fun c6 => ?_) (fun c => absurd (by decide) c)
    refine lv_iconst (v := 0) hx hb dX5_isTrip_22 (by decide) ?_
    exact W.zret (v := 0) hx hb hr rfl (fun t ht hW => ⟨_, rfl, Or.inr ⟨rfl, ix_none h1⟩, ht⟩) (fun q hq => absurd hq List.not_mem_nil) dX5_isTrip_23

set_option maxHeartbeats 4000000 in
set_option maxRecDepth 100000 in
theorem c_X5_wide (l : Launch) (n : Int32) : Met l yX5_wide wsX5_wide ({ frames := 0, cells := 0, slots := 0, locals := 0 } : Room) (va_Pc [.int n] (fun _ => True)) (vp_Sd (fun r => r = wd n)) 0 0 (fun _ => False) := by
  refine Met.ofW (cc := cX5_wide) (maxL := 1) (ret := (some .double)) (by decide) rfl ?_
  intro p e s m args below meth c s₁ B hml hv
  obtain ⟨rfl, -⟩ := hv
  have hx := B.exec
  have hb := B.bytes
  have hr := B.returns
  have hts := atoms_spec (ws := wsX5_wide) B.pre
  have hown : s.vm.findClass RX5 = some m.cls := findClass_of_methodNamed B.named
  have hlocks := B.notSynchronized
  have hl := lv_entry ([.int n]) (n := 1) (Nat.le_of_ble_eq_true rfl)
  rw [lg_entry_eq]
  generalize (lg_sl ([.int n]) ++ List.replicate (1 - (lg_sl ([.int n])).length) Slot.unset).toArray = ls at hl ⊢
  have hl : lv_has ls 1 [(0, .int n)] := hl
  refine lv_iload_n hx hb dX5_wide_0 rfl (lv_at hl 0 rfl) ?_
  refine lv_i2d hx hb dX5_wide_1 ?_
  refine lv_ldc2d hx hb hown (hts (.constantDouble RX5 92 (4652007308841189376)) (by decide +kernel)) dX5_wide_2 ?_
  refine lv_ddiv hx hb dX5_wide_5 (n64_wd n) ?_
  exact W.dret (v := (wd n)) hx hb hr (fun t ht hW => ⟨_, rfl, rfl, ht⟩) (fun q hq => absurd hq List.not_mem_nil) dX5_wide_6

set_option maxHeartbeats 4000000 in
set_option maxRecDepth 100000 in
theorem c_X5_slim (l : Launch) (n : Int32) : Met l yX5_slim wsX5_slim ({ frames := 0, cells := 0, slots := 0, locals := 0 } : Room) (va_Pc [.int n] (fun _ => True)) (vp_Sf (fun r => r = sl n)) 0 0 (fun _ => False) := by
  refine Met.ofW (cc := cX5_slim) (maxL := 1) (ret := (some .float)) (by decide) rfl ?_
  intro p e s m args below meth c s₁ B hml hv
  obtain ⟨rfl, -⟩ := hv
  have hx := B.exec
  have hb := B.bytes
  have hr := B.returns
  have hts := atoms_spec (ws := wsX5_slim) B.pre
  have hown : s.vm.findClass RX5 = some m.cls := findClass_of_methodNamed B.named
  have hlocks := B.notSynchronized
  have hl := lv_entry ([.int n]) (n := 1) (Nat.le_of_ble_eq_true rfl)
  rw [lg_entry_eq]
  generalize (lg_sl ([.int n]) ++ List.replicate (1 - (lg_sl ([.int n])).length) Slot.unset).toArray = ls at hl ⊢
  have hl : lv_has ls 1 [(0, .int n)] := hl
  refine lv_iload_n hx hb dX5_slim_0 rfl (lv_at hl 0 rfl) ?_
  refine lv_i2f hx hb dX5_slim_1 ?_
  refine lv_ldcf hx hb hown (hts (.constantFloat RX5 94 (1148846080)) (by decide +kernel)) dX5_slim_2 ?_
  refine lv_fdiv hx hb dX5_slim_4 (n32_sl n) ?_
  exact W.fret (v := (sl n)) hx hb hr (fun t ht hW => ⟨_, rfl, rfl, ht⟩) (fun q hq => absurd hq List.not_mem_nil) dX5_slim_5

set_option maxHeartbeats 4000000 in
set_option maxRecDepth 100000 in
theorem c_X5_value (l : Launch) (D : va_G) (cy : Nat → ClassId) (A : Nat → Prop) (α : AD) (σ : SG) (g : Int32) (j : Nat) (n : Int32) (hg : g = nI j) (hj : j < 16) : Met l yX5_value wsX5_value ({ frames := 1, cells := 0, slots := 0, locals := 20 } : Room) (va_Pc [.ref (α 0 0), .int g, .int n] (PB D cy A α (CR cy σ α))) (vp_Sd (fun r => r = vl (σ 1 j) n)) 0 0 (fun _ => False) := by
  refine Met.ofW (cc := cX5_value) (maxL := 3) (ret := (some .double)) (by decide) rfl ?_
  intro p e s m args below meth c s₁ B hml hv
  obtain ⟨rfl, hP, hK⟩ := hv
  have hx := B.exec
  have hb := B.bytes
  have hr := B.returns
  have hts := atoms_spec (ws := wsX5_value) B.pre
  have hown : s.vm.findClass RX5 = some m.cls := findClass_of_methodNamed B.named
  have hlocks := B.notSynchronized
  have hiX5 : ∀ w ∈ wsX50, w ∈ wsX5_value := by decide +kernel
  have hl := lv_entry ([.ref (α 0 0), .int g, .int n]) (n := 3) (Nat.le_of_ble_eq_true rfl)
  rw [lg_entry_eq]
  generalize (lg_sl ([.ref (α 0 0), .int g, .int n]) ++ List.replicate (3 - (lg_sl ([.ref (α 0 0), .int g, .int n])).length) Slot.unset).toArray = ls at hl ⊢
  have hl : lv_has ls 3 [(0, .ref (α 0 0)), (1, .int g), (2, .int n)] := hl
  skip
  refine lv_aload_n hx hb dX5_value_0 rfl (lv_at hl 0 rfl) ?_
  refine rf_get (v := .ref (α 2 0)) hx hb hts hiX5 hown hK hP 1 (by decide) (by decide +kernel) rfl rfl dX5_value_1 ?_
  refine lv_iload_n hx hb dX5_value_4 rfl (lv_at hl 1 rfl) ?_
  refine rf_zald hx hb hK hP 1 (by decide) rfl j hg hj dX5_value_5 ?_
  refine lv_if_eq (x := (σ 1 j)) (tgt := 17) hx hb dX5_value_6 (by decide) (fun c6 => ?_) (fun c6 => ?_)
  · refine lv_iload_n hx hb dX5_value_17 rfl (lv_at hl 2 rfl) ?_
    refine vp_callSd (W.runS (As := [.int n]) (rest := []) ⟨hx, hb, hml, hown, hts⟩ (c_X5_wide l n) (va_cwS 1 hts gX5_value_X5_wide rfl rfl rfl (by decide +kernel) ⟨Nat.le_of_ble_eq_true rfl, Nat.le_of_ble_eq_true rfl⟩) ⟨pt_blind, pt_pre⟩ rfl rfl hl.1 rfl (lv_room (Nat.le_of_ble_eq_true rfl)) dX5_value_18 ⟨Nat.le_of_ble_eq_true rfl, Nat.le_of_ble_eq_true rfl⟩) (fun r hw => ?_)
    subst hw
    exact W.dret (v := (wd n)) hx hb hr (fun t ht hW => ⟨_, rfl, (by simp [vl, c6]), ht⟩) (fun q hq => absurd hq List.not_mem_nil) dX5_value_21
  · refine lv_iload_n hx hb dX5_value_9 rfl (lv_at hl 2 rfl) ?_
    refine vp_callSf (W.runS (As := [.int n]) (rest := []) ⟨hx, hb, hml, hown, hts⟩ (c_X5_slim l n) (va_cwS 1 hts gX5_value_X5_slim rfl rfl rfl (by decide +kernel) ⟨Nat.le_of_ble_eq_true rfl, Nat.le_of_ble_eq_true rfl⟩) ⟨pt_blind, pt_pre⟩ rfl rfl hl.1 rfl (lv_room (Nat.le_of_ble_eq_true rfl)) dX5_value_10 ⟨Nat.le_of_ble_eq_true rfl, Nat.le_of_ble_eq_true rfl⟩) (fun r hw => ?_)
    subst hw
    refine lv_f2d hx hb dX5_value_13 (n64_sl n) ?_
    refine lv_goto (tgt := 21) hx hb dX5_value_14 (by decide) ?_
    exact W.dret (v := (FP.f2d (sl n))) hx hb hr (fun t ht hW => ⟨_, rfl, (by simp [vl, c6]), ht⟩) (fun q hq => absurd hq List.not_mem_nil) dX5_value_21

set_option maxHeartbeats 4000000 in
set_option maxRecDepth 100000 in
theorem c_X5_stood (l : Launch) (a : UInt64) (rel : Int32) (b : UInt64) (hrel : isRel rel) : Met l yX5_stood wsX5_stood ({ frames := 0, cells := 0, slots := 0, locals := 0 } : Room) (va_Pc [.double a, .int rel, .double b] (fun _ => True)) (vp_Si (fun r => bq r (rl rel (FP.dcmp a b) = true))) 0 0 (fun _ => False) := by
  refine Met.ofW (cc := cX5_stood) (maxL := 5) (ret := (some .boolean)) (by decide) rfl ?_
  intro p e s m args below meth c s₁ B hml hv
  obtain ⟨rfl, -⟩ := hv
  have hx := B.exec
  have hb := B.bytes
  have hr := B.returns
  have hts := atoms_spec (ws := wsX5_stood) B.pre
  have hown : s.vm.findClass RX5 = some m.cls := findClass_of_methodNamed B.named
  have hlocks := B.notSynchronized
  have hl := lv_entry ([.double a, .int rel, .double b]) (n := 5) (Nat.le_of_ble_eq_true rfl)
  rw [lg_entry_eq]
  generalize (lg_sl ([.double a, .int rel, .double b]) ++ List.replicate (5 - (lg_sl ([.double a, .int rel, .double b])).length) Slot.unset).toArray = ls at hl ⊢
  have hl : lv_has ls 5 [(0, .double a), (2, .int rel), (3, .double b)] := hl
  rcases hrel with rfl | rfl | rfl | rfl | rfl | rfl
  · have hl : lv_has ls 5 [(0, .double a), (2, .int 0), (3, .double b)] := hl
    refine lv_iload_n hx hb dX5_stood_0 rfl (lv_at hl 1 rfl) ?_
    refine lv_tableIn (tgt := 36) hx hb dX5_stood_1 (by decide) (by decide) rfl (by decide) ?_
    refine lv_dload_n hx hb dX5_stood_36 rfl (lv_at hl 0 rfl) ?_
    refine lv_dload_n hx hb dX5_stood_37 rfl (lv_at hl 2 rfl) ?_
    refine lv_dcmp hx hb dX5_stood_38 ?_
    refine lv_if_ge (x := (Op.cmpValue (FP.dcmp a b) CmpOp.g)) (tgt := 46) hx hb dX5_stood_39 (by decide) (fun c39 => ?_) (fun c39 => ?_)
    · rw [cvg_ge] at c39
      refine lv_iconst (v := 0) hx hb dX5_stood_46 (by decide) ?_
      exact W.zret (v := 0) hx hb hr rfl (fun t ht hW => ⟨_, rfl, bq_f (fun h => absurd ((rl_0 _).mp h) c39), ht⟩) (fun q hq => absurd hq List.not_mem_nil) dX5_stood_47
    · rw [cvg_ge] at c39
      refine lv_iconst (v := 1) hx hb dX5_stood_42 (by decide) ?_
      refine lv_goto (tgt := 47) hx hb dX5_stood_43 (by decide) ?_
      exact W.zret (v := 1) hx hb hr rfl (fun t ht hW => ⟨_, rfl, bq_t ((rl_0 _).mpr (Classical.not_not.mp c39)), ht⟩) (fun q hq => absurd hq List.not_mem_nil) dX5_stood_47
  · have hl : lv_has ls 5 [(0, .double a), (2, .int 1), (3, .double b)] := hl
    refine lv_iload_n hx hb dX5_stood_0 rfl (lv_at hl 1 rfl) ?_
    refine lv_tableIn (tgt := 48) hx hb dX5_stood_1 (by decide) (by decide) rfl (by decide) ?_
    refine lv_dload_n hx hb dX5_stood_48 rfl (lv_at hl 0 rfl) ?_
    refine lv_dload_n hx hb dX5_stood_49 rfl (lv_at hl 2 rfl) ?_
    refine lv_dcmp hx hb dX5_stood_50 ?_
    refine lv_if_gt (x := (Op.cmpValue (FP.dcmp a b) CmpOp.g)) (tgt := 58) hx hb dX5_stood_51 (by decide) (fun c51 => ?_) (fun c51 => ?_)
    · rw [cvg_gt] at c51
      refine lv_iconst (v := 0) hx hb dX5_stood_58 (by decide) ?_
      exact W.zret (v := 0) hx hb hr rfl (fun t ht hW => ⟨_, rfl, bq_f (fun h => absurd ((rl_1 _).mp h) c51), ht⟩) (fun q hq => absurd hq List.not_mem_nil) dX5_stood_59
    · rw [cvg_gt] at c51
      refine lv_iconst (v := 1) hx hb dX5_stood_54 (by decide) ?_
      refine lv_goto (tgt := 59) hx hb dX5_stood_55 (by decide) ?_
      exact W.zret (v := 1) hx hb hr rfl (fun t ht hW => ⟨_, rfl, bq_t ((rl_1 _).mpr (Classical.not_not.mp c51)), ht⟩) (fun q hq => absurd hq List.not_mem_nil) dX5_stood_59
  · have hl : lv_has ls 5 [(0, .double a), (2, .int 2), (3, .double b)] := hl
    refine lv_iload_n hx hb dX5_stood_0 rfl (lv_at hl 1 rfl) ?_
    refine lv_tableIn (tgt := 60) hx hb dX5_stood_1 (by decide) (by decide) rfl (by decide) ?_
    refine lv_dload_n hx hb dX5_stood_60 rfl (lv_at hl 0 rfl) ?_
    refine lv_dload_n hx hb dX5_stood_61 rfl (lv_at hl 2 rfl) ?_
    refine lv_dcmp hx hb dX5_stood_62 ?_
    refine lv_if_le (x := (Op.cmpValue (FP.dcmp a b) CmpOp.l)) (tgt := 70) hx hb dX5_stood_63 (by decide) (fun c63 => ?_) (fun c63 => ?_)
    · rw [cvl_le] at c63
      refine lv_iconst (v := 0) hx hb dX5_stood_70 (by decide) ?_
      exact W.zret (v := 0) hx hb hr rfl (fun t ht hW => ⟨_, rfl, bq_f (fun h => absurd ((rl_2 _).mp h) c63), ht⟩) (fun q hq => absurd hq List.not_mem_nil) dX5_stood_71
    · rw [cvl_le] at c63
      refine lv_iconst (v := 1) hx hb dX5_stood_66 (by decide) ?_
      refine lv_goto (tgt := 71) hx hb dX5_stood_67 (by decide) ?_
      exact W.zret (v := 1) hx hb hr rfl (fun t ht hW => ⟨_, rfl, bq_t ((rl_2 _).mpr (Classical.not_not.mp c63)), ht⟩) (fun q hq => absurd hq List.not_mem_nil) dX5_stood_71
  · have hl : lv_has ls 5 [(0, .double a), (2, .int 3), (3, .double b)] := hl
    refine lv_iload_n hx hb dX5_stood_0 rfl (lv_at hl 1 rfl) ?_
    refine lv_tableIn (tgt := 72) hx hb dX5_stood_1 (by decide) (by decide) rfl (by decide) ?_
    refine lv_dload_n hx hb dX5_stood_72 rfl (lv_at hl 0 rfl) ?_
    refine lv_dload_n hx hb dX5_stood_73 rfl (lv_at hl 2 rfl) ?_
    refine lv_dcmp hx hb dX5_stood_74 ?_
    refine lv_if_lt (x := (Op.cmpValue (FP.dcmp a b) CmpOp.l)) (tgt := 82) hx hb dX5_stood_75 (by decide) (fun c75 => ?_) (fun c75 => ?_)
    · rw [cvl_lt] at c75
      refine lv_iconst (v := 0) hx hb dX5_stood_82 (by decide) ?_
      exact W.zret (v := 0) hx hb hr rfl (fun t ht hW => ⟨_, rfl, bq_f (fun h => absurd ((rl_3 _).mp h) c75), ht⟩) (fun q hq => absurd hq List.not_mem_nil) dX5_stood_83
    · rw [cvl_lt] at c75
      refine lv_iconst (v := 1) hx hb dX5_stood_78 (by decide) ?_
      refine lv_goto (tgt := 83) hx hb dX5_stood_79 (by decide) ?_
      exact W.zret (v := 1) hx hb hr rfl (fun t ht hW => ⟨_, rfl, bq_t ((rl_3 _).mpr (Classical.not_not.mp c75)), ht⟩) (fun q hq => absurd hq List.not_mem_nil) dX5_stood_83
  · have hl : lv_has ls 5 [(0, .double a), (2, .int 4), (3, .double b)] := hl
    refine lv_iload_n hx hb dX5_stood_0 rfl (lv_at hl 1 rfl) ?_
    refine lv_tableIn (tgt := 84) hx hb dX5_stood_1 (by decide) (by decide) rfl (by decide) ?_
    refine lv_dload_n hx hb dX5_stood_84 rfl (lv_at hl 0 rfl) ?_
    refine lv_dload_n hx hb dX5_stood_85 rfl (lv_at hl 2 rfl) ?_
    refine lv_dcmp hx hb dX5_stood_86 ?_
    refine lv_if_ne (x := (Op.cmpValue (FP.dcmp a b) CmpOp.l)) (tgt := 94) hx hb dX5_stood_87 (by decide) (fun c87 => ?_) (fun c87 => ?_)
    · rw [cvl_eq] at c87
      refine lv_iconst (v := 0) hx hb dX5_stood_94 (by decide) ?_
      exact W.zret (v := 0) hx hb hr rfl (fun t ht hW => ⟨_, rfl, bq_f (fun h => absurd ((rl_4 _).mp h) c87), ht⟩) (fun q hq => absurd hq List.not_mem_nil) dX5_stood_95
    · rw [cvl_eq] at c87
      refine lv_iconst (v := 1) hx hb dX5_stood_90 (by decide) ?_
      refine lv_goto (tgt := 95) hx hb dX5_stood_91 (by decide) ?_
      exact W.zret (v := 1) hx hb hr rfl (fun t ht hW => ⟨_, rfl, bq_t ((rl_4 _).mpr c87), ht⟩) (fun q hq => absurd hq List.not_mem_nil) dX5_stood_95
  · have hl : lv_has ls 5 [(0, .double a), (2, .int 5), (3, .double b)] := hl
    refine lv_iload_n hx hb dX5_stood_0 rfl (lv_at hl 1 rfl) ?_
    refine lv_tableOut (tgt := 96) hx hb dX5_stood_1 (by decide) (by decide) ?_
    refine lv_dload_n hx hb dX5_stood_96 rfl (lv_at hl 0 rfl) ?_
    refine lv_dload_n hx hb dX5_stood_97 rfl (lv_at hl 2 rfl) ?_
    refine lv_dcmp hx hb dX5_stood_98 ?_
    refine lv_if_eq (x := (Op.cmpValue (FP.dcmp a b) CmpOp.l)) (tgt := 106) hx hb dX5_stood_99 (by decide) (fun c99 => ?_) (fun c99 => ?_)
    · rw [cvl_eq] at c99
      refine lv_iconst (v := 0) hx hb dX5_stood_106 (by decide) ?_
      exact W.zret (v := 0) hx hb hr rfl (fun t ht hW => ⟨_, rfl, bq_f (fun h => absurd ((rl_5 _).mp h) (not_not_intro c99)), ht⟩) (fun q hq => absurd hq List.not_mem_nil) dX5_stood_107
    · rw [cvl_eq] at c99
      refine lv_iconst (v := 1) hx hb dX5_stood_102 (by decide) ?_
      refine lv_goto (tgt := 107) hx hb dX5_stood_103 (by decide) ?_
      exact W.zret (v := 1) hx hb hr rfl (fun t ht hW => ⟨_, rfl, bq_t ((rl_5 _).mpr c99), ht⟩) (fun q hq => absurd hq List.not_mem_nil) dX5_stood_107

set_option maxHeartbeats 4000000 in
set_option maxRecDepth 100000 in
theorem c_X5_related (l : Launch) (D : va_G) (cy : Nat → ClassId) (A : Nat → Prop) (α : AD) (σ : SG) (g : Int32) (j : Nat) (n rel h : Int32) (i : Nat) (m2 : Int32) (hrel : isRel rel) (hg : g = nI j) (hj : j < 16) (hh : h = nI i) (hi : i < 16) : Met l yX5_related wsX5_related ({ frames := 2, cells := 0, slots := 0, locals := 42 } : Room) (va_Pc [.ref (α 0 0), .int g, .int n, .int rel, .int h, .int m2] (PB D cy A α (CR cy σ α))) (vp_Si (fun r => bq r (rd (σ 1 j) n rel (σ 1 i) m2 = true))) 0 0 (fun _ => False) := by
  refine Met.ofW (cc := cX5_related) (maxL := 6) (ret := (some .boolean)) (by decide) rfl ?_
  intro p e s m args below meth c s₁ B hml hv
  obtain ⟨rfl, hP, hK⟩ := hv
  have hx := B.exec
  have hb := B.bytes
  have hr := B.returns
  have hts := atoms_spec (ws := wsX5_related) B.pre
  have hown : s.vm.findClass RX5 = some m.cls := findClass_of_methodNamed B.named
  have hlocks := B.notSynchronized
  have hiX5 : ∀ w ∈ wsX50, w ∈ wsX5_related := by decide +kernel
  have hl := lv_entry ([.ref (α 0 0), .int g, .int n, .int rel, .int h, .int m2]) (n := 6) (Nat.le_of_ble_eq_true rfl)
  rw [lg_entry_eq]
  generalize (lg_sl ([.ref (α 0 0), .int g, .int n, .int rel, .int h, .int m2]) ++ List.replicate (6 - (lg_sl ([.ref (α 0 0), .int g, .int n, .int rel, .int h, .int m2])).length) Slot.unset).toArray = ls at hl ⊢
  have hl : lv_has ls 6 [(0, .ref (α 0 0)), (1, .int g), (2, .int n), (3, .int rel), (4, .int h), (5, .int m2)] := hl
  skip
  refine lv_iload_n hx hb dX5_related_0 rfl (lv_at hl 2 rfl) ?_
  refine lv_ldc hx hb hown (hts (.constant RX5 103 (2000000000)) (by decide +kernel)) dX5_related_1 ?_
  refine lv_icmp_eq (x := n) (y := 2000000000) (tgt := 13) hx hb dX5_related_3 (by decide) (fun c3 => ?_) (fun c3 => ?_)
  · refine lv_iload_n hx hb dX5_related_13 rfl (lv_at hl 3 rfl) ?_
    refine lv_iconst (v := 4) hx hb dX5_related_14 (by decide) ?_
    refine lv_icmp_le (x := rel) (y := 4) (tgt := 22) hx hb dX5_related_15 (by decide) (fun c15 => ?_) (fun c15 => ?_)
    · refine lv_iconst (v := 0) hx hb dX5_related_22 (by decide) ?_
      exact W.zret (v := 0) hx hb hr rfl (fun t ht hW => ⟨_, rfl, bq_f (by rw [rd_gap (Or.inl c3)]; simpa using rel5n c15), ht⟩) (fun q hq => absurd hq List.not_mem_nil) dX5_related_23
    · refine lv_iconst (v := 1) hx hb dX5_related_18 (by decide) ?_
      refine lv_goto (tgt := 23) hx hb dX5_related_19 (by decide) ?_
      exact W.zret (v := 1) hx hb hr rfl (fun t ht hW => ⟨_, rfl, bq_t (by rw [rd_gap (Or.inl c3)]; exact decide_eq_true (rel5 hrel c15)), ht⟩) (fun q hq => absurd hq List.not_mem_nil) dX5_related_23
  · refine lv_iload hx hb dX5_related_6 (lv_at hl 5 rfl) ?_
    refine lv_ldc hx hb hown (hts (.constant RX5 103 (2000000000)) (by decide +kernel)) dX5_related_8 ?_
    refine lv_icmp_ne (x := m2) (y := 2000000000) (tgt := 24) hx hb dX5_related_10 (by decide) (fun c10 => ?_) (fun c10 => ?_)
    · refine lv_aload_n hx hb dX5_related_24 rfl (lv_at hl 0 rfl) ?_
      refine lv_iload_n hx hb dX5_related_25 rfl (lv_at hl 1 rfl) ?_
      refine lv_iload_n hx hb dX5_related_26 rfl (lv_at hl 2 rfl) ?_
      refine vp_callSd (W.runV (As := [.int g, .int n]) (rest := []) ⟨hx, hb, hml, hown, hts⟩ (c_X5_value l D cy A α σ g j n hg hj) (cwV 2 hts gX5_related_X5_value rfl rfl rfl (by decide +kernel) ⟨Nat.le_of_ble_eq_true rfl, Nat.le_of_ble_eq_true rfl⟩) ⟨pb_blind, pw_recv hP hK cr_obj rfl, pb_pre hP hK⟩ rfl rfl hl.1 rfl (lv_room (Nat.le_of_ble_eq_true rfl)) dX5_related_27 ⟨Nat.le_of_ble_eq_true rfl, Nat.le_of_ble_eq_true rfl⟩) (fun r hw => ?_)
      subst hw
      refine lv_iload_n hx hb dX5_related_30 rfl (lv_at hl 3 rfl) ?_
      refine lv_aload_n hx hb dX5_related_31 rfl (lv_at hl 0 rfl) ?_
      refine lv_iload hx hb dX5_related_32 (lv_at hl 4 rfl) ?_
      refine lv_iload hx hb dX5_related_34 (lv_at hl 5 rfl) ?_
      refine vp_callSd (W.runV (As := [.int h, .int m2]) (rest := [.int rel, .double (vl (σ 1 j) n)]) ⟨hx, hb, hml, hown, hts⟩ (c_X5_value l D cy A α σ h i m2 hh hi) (cwV 2 hts gX5_related_X5_value rfl rfl rfl (by decide +kernel) ⟨Nat.le_of_ble_eq_true rfl, Nat.le_of_ble_eq_true rfl⟩) ⟨pb_blind, pw_recv hP hK cr_obj rfl, pb_pre hP hK⟩ rfl rfl hl.1 rfl (lv_room (Nat.le_of_ble_eq_true rfl)) dX5_related_36 ⟨Nat.le_of_ble_eq_true rfl, Nat.le_of_ble_eq_true rfl⟩) (fun r hw => ?_)
      subst hw
      refine vp_callSi (W.runS (As := [.double (vl (σ 1 j) n), .int rel, .double (vl (σ 1 i) m2)]) (rest := []) ⟨hx, hb, hml, hown, hts⟩ (c_X5_stood l (vl (σ 1 j) n) rel (vl (σ 1 i) m2) hrel) (va_cwS 3 hts gX5_related_X5_stood rfl rfl rfl (by decide +kernel) ⟨Nat.le_of_ble_eq_true rfl, Nat.le_of_ble_eq_true rfl⟩) ⟨pt_blind, pt_pre⟩ rfl rfl hl.1 rfl (lv_room (Nat.le_of_ble_eq_true rfl)) dX5_related_39 ⟨Nat.le_of_ble_eq_true rfl, Nat.le_of_ble_eq_true rfl⟩) (fun r hw => ?_)
      rcases hw with ⟨rfl, h1⟩ | ⟨rfl, h1⟩
      · exact W.zret (v := 1) hx hb hr rfl (fun t ht hW => ⟨_, rfl, bq_t (by rw [rd_val c3 c10]; exact h1), ht⟩) (fun q hq => absurd hq List.not_mem_nil) dX5_related_42
      · exact W.zret (v := 0) hx hb hr rfl (fun t ht hW => ⟨_, rfl, bq_f (by rw [rd_val c3 c10]; exact h1), ht⟩) (fun q hq => absurd hq List.not_mem_nil) dX5_related_42
    · refine lv_iload_n hx hb dX5_related_13 rfl (lv_at hl 3 rfl) ?_
      refine lv_iconst (v := 4) hx hb dX5_related_14 (by decide) ?_
      refine lv_icmp_le (x := rel) (y := 4) (tgt := 22) hx hb dX5_related_15 (by decide) (fun c15 => ?_) (fun c15 => ?_)
      · refine lv_iconst (v := 0) hx hb dX5_related_22 (by decide) ?_
        exact W.zret (v := 0) hx hb hr rfl (fun t ht hW => ⟨_, rfl, bq_f (by rw [rd_gap (Or.inr c10)]; simpa using rel5n c15), ht⟩) (fun q hq => absurd hq List.not_mem_nil) dX5_related_23
      · refine lv_iconst (v := 1) hx hb dX5_related_18 (by decide) ?_
        refine lv_goto (tgt := 23) hx hb dX5_related_19 (by decide) ?_
        exact W.zret (v := 1) hx hb hr rfl (fun t ht hW => ⟨_, rfl, bq_t (by rw [rd_gap (Or.inr c10)]; exact decide_eq_true (rel5 hrel c15)), ht⟩) (fun q hq => absurd hq List.not_mem_nil) dX5_related_23
