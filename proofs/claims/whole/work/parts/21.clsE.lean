theorem ah_step1 {σ : SG} {h g : Nat} {b : Int32} (hb : b = if h < g then 1 else 0) (hm : σ 0 h ≠ 0) (hc : cb σ h g b = true) : ahN σ g (h + 1) = ahN σ g h + 1 := by
  rw [cb_ahd σ h g hb, Bool.and_eq_true] at hc
  rw [ahN, show decide (h ≠ g ∧ σ 0 h ≠ 0) = true from decide_eq_true ⟨of_decide_eq_true hc.1, hm⟩, hc.2]; rfl
theorem ah_step0 {σ : SG} {h g : Nat} {b : Int32} (hb : b = if h < g then 1 else 0) (hm : σ 0 h ≠ 0) (hc : ¬ cb σ h g b = true) : ahN σ g (h + 1) = ahN σ g h := by
  rw [cb_ahd σ h g hb] at hc
  rw [ahN]
  by_cases hn : h = g
  · rw [show decide (h ≠ g ∧ σ 0 h ≠ 0) = false from decide_eq_false (fun q => q.1 hn)]; exact Int32.add_zero _
  · rw [show decide (h ≠ g) = true from decide_eq_true hn, Bool.true_and] at hc
    rw [Bool.eq_false_iff.mpr hc, Bool.and_false]; exact Int32.add_zero _
theorem ah_step2 {σ : SG} {h g : Nat} (hm : σ 0 h = 0) : ahN σ g (h + 1) = ahN σ g h := by
  rw [ahN, show decide (h ≠ g ∧ σ 0 h ≠ 0) = false from decide_eq_false (fun q => q.2 hm)]; exact Int32.add_zero _
theorem sw3 (w : Int32) : w = 0 ∨ w = 1 ∨ w = 2 ∨ (w.toInt < 0 ∨ 2 < w.toInt) := by
  by_cases h : w.toInt < 0 ∨ 2 < w.toInt
  · exact Or.inr (Or.inr (Or.inr h))
  · have h0 : 0 ≤ w := by rw [Int32.le_iff_toInt_le]; show (0 : Int) ≤ _; omega
    have h7 : w < nI 3 := by rw [Int32.lt_iff_toInt_lt, nI_toInt (by decide)]; omega
    obtain ⟨j, hj, rfl⟩ := in_j (n := 3) (by decide) ⟨h0, h7⟩
    rcases (show j = 0 ∨ j = 1 ∨ j = 2 by omega) with h | h | h <;> subst h <;> decide
theorem ev_out {σ : SG} {k w : Int32} (h : w.toInt < 0 ∨ 2 < w.toInt) : F_event σ k w = -1 := by
  have h2 : w < 0 ∨ 2 < w := by
    rcases h with h | h
    · exact Or.inl (by rw [Int32.lt_iff_toInt_lt]; exact h)
    · exact Or.inr (by rw [Int32.lt_iff_toInt_lt]; exact h)
  rw [F_event, if_pos (Or.inr (Or.inr (Or.inr h2)))]
theorem ev_in {σ : SG} {k w : Int32} (h : w = 0 ∨ w = 1 ∨ w = 2) : F_event σ k w = if k < 0 ∨ 20 ≤ k ∨ σ 29 0 ≤ k then -1 else (if w = 0 then σ 22 (cN k) else if w = 1 then σ 23 (cN k) else σ 24 (cN k)) := by
  have hw : ¬ (w < 0 ∨ 2 < w) := by rcases h with h | h | h <;> subst h <;> decide
  rw [F_event]
  by_cases hc : k < 0 ∨ 20 ≤ k ∨ σ 29 0 ≤ k
  · rw [if_pos hc, if_pos]
    rcases hc with h1 | h1 | h1
    · exact Or.inl h1
    · exact Or.inr (Or.inl h1)
    · exact Or.inr (Or.inr (Or.inl h1))
  · rw [if_neg hc, if_neg]
    intro q
    rcases q with q | q | q | q
    · exact hc (Or.inl q)
    · exact hc (Or.inr (Or.inl q))
    · exact hc (Or.inr (Or.inr q))
    · exact hw q

set_option maxHeartbeats 4000000 in
set_option maxRecDepth 100000 in
theorem c_X4_comesBefore (l : Launch) (D : va_G) (cy : Nat → ClassId) (A : Nat → Prop) (α : AD) (σ : SG) (g : Nat) (hg : g < 16) (hm : σ 0 g ≠ 0) (i : Nat) (hi : i < 16) (hmi : σ 0 i ≠ 0) (b : Int32) : Met l yX4_comesBefore wsX4_comesBefore ({ frames := 2, cells := 0, slots := 0, locals := 48 } : Room) (va_Pc [.ref (α 10 g), .ref (α 10 i), .int b] (PB D cy A α (CC cy σ α))) (vp_Si (fun r => bq r (cb σ g i b = true))) 0 0 (fun _ => False) := by
  refine Met.ofW (cc := cX4_comesBefore) (maxL := 4) (ret := (some .boolean)) (by decide) rfl ?_
  intro p e s m args below meth c s₁ B hml hv
  obtain ⟨rfl, hP, hK⟩ := hv
  have hx := B.exec
  have hb := B.bytes
  have hr := B.returns
  have hts := atoms_spec (ws := wsX4_comesBefore) B.pre
  have hown : s.vm.findClass RX4 = some m.cls := findClass_of_methodNamed B.named
  have hlocks := B.notSynchronized
  have hiX1 : ∀ w ∈ wsX10, w ∈ wsX4_comesBefore := by decide +kernel
  have hl := lv_entry ([.ref (α 10 g), .ref (α 10 i), .int b]) (n := 4) (Nat.le_of_ble_eq_true rfl)
  rw [lg_entry_eq]
  generalize (lg_sl ([.ref (α 10 g), .ref (α 10 i), .int b]) ++ List.replicate (4 - (lg_sl ([.ref (α 10 g), .ref (α 10 i), .int b])).length) Slot.unset).toArray = ls at hl ⊢
  have hl : lv_has ls 4 [(0, .ref (α 10 g)), (1, .ref (α 10 i)), (2, .int b)] := hl
  refine lv_aload_n hx hb dX4_comesBefore_0 rfl (lv_at hl 0 rfl) ?_
  refine vp_callSi (W.runV (As := []) (rest := []) ⟨hx, hb, hml, hown, hts⟩ (c_X1_hasValue l D cy A α σ g hg hm ) (cwV 0 hts gX4_comesBefore_X1_hasValue rfl rfl rfl (by decide +kernel) ⟨Nat.le_of_ble_eq_true rfl, Nat.le_of_ble_eq_true rfl⟩) ⟨pb_blind, pw_recv hP hK (cc_10 hg hm) rfl, pb_pre hP hK⟩ rfl rfl hl.1 rfl (lv_room (Nat.le_of_ble_eq_true rfl)) dX4_comesBefore_1 ⟨Nat.le_of_ble_eq_true rfl, Nat.le_of_ble_eq_true rfl⟩) (fun r hw => ?_)
  rcases hw with ⟨rfl, h1⟩ | ⟨rfl, h1⟩
  · refine lv_if_ne (x := 1) (tgt := 24) hx hb dX4_comesBefore_4 (by decide) (fun c4 => ?_) (fun c => absurd c (by decide))
    refine lv_aload_n hx hb dX4_comesBefore_24 rfl (lv_at hl 1 rfl) ?_
    refine vp_callSi (W.runV (As := []) (rest := []) ⟨hx, hb, hml, hown, hts⟩ (c_X1_hasValue l D cy A α σ i hi hmi ) (cwV 0 hts gX4_comesBefore_X1_hasValue rfl rfl rfl (by decide +kernel) ⟨Nat.le_of_ble_eq_true rfl, Nat.le_of_ble_eq_true rfl⟩) ⟨pb_blind, pw_recv hP hK (cc_10 hi hmi) rfl, pb_pre hP hK⟩ rfl rfl hl.1 rfl (lv_room (Nat.le_of_ble_eq_true rfl)) dX4_comesBefore_25 ⟨Nat.le_of_ble_eq_true rfl, Nat.le_of_ble_eq_true rfl⟩) (fun r hw => ?_)
    rcases hw with ⟨rfl, h2⟩ | ⟨rfl, h2⟩
    · refine lv_if_ne (x := 1) (tgt := 33) hx hb dX4_comesBefore_28 (by decide) (fun c28 => ?_) (fun c => absurd c (by decide))
      refine lv_iload_n hx hb dX4_comesBefore_33 rfl (lv_at hl 2 rfl) ?_
      refine lv_if_eq (x := b) (tgt := 41) hx hb dX4_comesBefore_34 (by decide) (fun c34 => ?_) (fun c34 => ?_)
      · refine lv_iconst (v := 2) hx hb dX4_comesBefore_41 (by decide) ?_
        refine lv_istore_n (lv' := [(3, .int 2), (0, .ref (α 10 g)), (1, .ref (α 10 i)), (2, .int b)]) hx hb dX4_comesBefore_42 rfl hl (by decide) rfl (fun ls hl => ?_)
        refine lv_aload_n hx hb dX4_comesBefore_43 rfl (lv_at hl 1 rfl) ?_
        refine lv_aload_n hx hb dX4_comesBefore_44 rfl (lv_at hl 1 rfl) ?_
        refine pw_get (ref := "TripPanel$Gauge") (C := RX1) (T := TX1) (N := 9) (ci := 1) (fs := (fsG σ α g)) (v := .int (σ 2 g)) hx hb hts hiX1 hown hK hP (cc_10 hg hm) rfl 2 (by decide) (by decide +kernel) rfl rfl dX4_comesBefore_45 ?_
        refine lv_iload_n hx hb dX4_comesBefore_48 rfl (lv_at hl 0 rfl) ?_
        refine lv_aload_n hx hb dX4_comesBefore_49 rfl (lv_at hl 2 rfl) ?_
        refine lv_aload_n hx hb dX4_comesBefore_50 rfl (lv_at hl 2 rfl) ?_
        refine pw_get (ref := "TripPanel$Gauge") (C := RX1) (T := TX1) (N := 9) (ci := 1) (fs := (fsG σ α i)) (v := .int (σ 2 i)) hx hb hts hiX1 hown hK hP (cc_10 hi hmi) rfl 2 (by decide) (by decide +kernel) rfl rfl dX4_comesBefore_51 ?_
        refine vp_callSi (W.runV (As := [.int (σ 2 g), .int 2, .ref (α 10 i), .int (σ 2 i)]) (rest := []) ⟨hx, hb, hml, hown, hts⟩ (c_X1_relates l D cy A α σ g hg hm i hi hmi (σ 2 g) 2 (σ 2 i) (by decide)) (cwV 4 hts gX4_comesBefore_X1_relates rfl rfl rfl (by decide +kernel) ⟨Nat.le_of_ble_eq_true rfl, Nat.le_of_ble_eq_true rfl⟩) ⟨pb_blind, pw_recv hP hK (cc_10 hg hm) rfl, pb_pre hP hK⟩ rfl rfl hl.1 rfl (lv_room (Nat.le_of_ble_eq_true rfl)) dX4_comesBefore_54 ⟨Nat.le_of_ble_eq_true rfl, Nat.le_of_ble_eq_true rfl⟩) (fun r hw => ?_)
        rcases hw with ⟨rfl, h3⟩ | ⟨rfl, h3⟩
        · exact W.zret (v := 1) hx hb hr rfl (fun t ht hW => ⟨_, rfl, bq_t (by rw [cb, if_neg h1, if_neg h2, if_pos c34]; exact h3), ht⟩) (fun q hq => absurd hq List.not_mem_nil) dX4_comesBefore_57
        · exact W.zret (v := 0) hx hb hr rfl (fun t ht hW => ⟨_, rfl, bq_f (by rw [cb, if_neg h1, if_neg h2, if_pos c34]; exact h3), ht⟩) (fun q hq => absurd hq List.not_mem_nil) dX4_comesBefore_57
      · refine lv_iconst (v := 3) hx hb dX4_comesBefore_37 (by decide) ?_
        refine lv_goto (tgt := 42) hx hb dX4_comesBefore_38 (by decide) ?_
        refine lv_istore_n (lv' := [(3, .int 3), (0, .ref (α 10 g)), (1, .ref (α 10 i)), (2, .int b)]) hx hb dX4_comesBefore_42 rfl hl (by decide) rfl (fun ls hl => ?_)
        refine lv_aload_n hx hb dX4_comesBefore_43 rfl (lv_at hl 1 rfl) ?_
        refine lv_aload_n hx hb dX4_comesBefore_44 rfl (lv_at hl 1 rfl) ?_
        refine pw_get (ref := "TripPanel$Gauge") (C := RX1) (T := TX1) (N := 9) (ci := 1) (fs := (fsG σ α g)) (v := .int (σ 2 g)) hx hb hts hiX1 hown hK hP (cc_10 hg hm) rfl 2 (by decide) (by decide +kernel) rfl rfl dX4_comesBefore_45 ?_
        refine lv_iload_n hx hb dX4_comesBefore_48 rfl (lv_at hl 0 rfl) ?_
        refine lv_aload_n hx hb dX4_comesBefore_49 rfl (lv_at hl 2 rfl) ?_
        refine lv_aload_n hx hb dX4_comesBefore_50 rfl (lv_at hl 2 rfl) ?_
        refine pw_get (ref := "TripPanel$Gauge") (C := RX1) (T := TX1) (N := 9) (ci := 1) (fs := (fsG σ α i)) (v := .int (σ 2 i)) hx hb hts hiX1 hown hK hP (cc_10 hi hmi) rfl 2 (by decide) (by decide +kernel) rfl rfl dX4_comesBefore_51 ?_
        refine vp_callSi (W.runV (As := [.int (σ 2 g), .int 3, .ref (α 10 i), .int (σ 2 i)]) (rest := []) ⟨hx, hb, hml, hown, hts⟩ (c_X1_relates l D cy A α σ g hg hm i hi hmi (σ 2 g) 3 (σ 2 i) (by decide)) (cwV 4 hts gX4_comesBefore_X1_relates rfl rfl rfl (by decide +kernel) ⟨Nat.le_of_ble_eq_true rfl, Nat.le_of_ble_eq_true rfl⟩) ⟨pb_blind, pw_recv hP hK (cc_10 hg hm) rfl, pb_pre hP hK⟩ rfl rfl hl.1 rfl (lv_room (Nat.le_of_ble_eq_true rfl)) dX4_comesBefore_54 ⟨Nat.le_of_ble_eq_true rfl, Nat.le_of_ble_eq_true rfl⟩) (fun r hw => ?_)
        rcases hw with ⟨rfl, h4⟩ | ⟨rfl, h4⟩
        · exact W.zret (v := 1) hx hb hr rfl (fun t ht hW => ⟨_, rfl, bq_t (by rw [cb, if_neg h1, if_neg h2, if_neg c34]; exact h4), ht⟩) (fun q hq => absurd hq List.not_mem_nil) dX4_comesBefore_57
        · exact W.zret (v := 0) hx hb hr rfl (fun t ht hW => ⟨_, rfl, bq_f (by rw [cb, if_neg h1, if_neg h2, if_neg c34]; exact h4), ht⟩) (fun q hq => absurd hq List.not_mem_nil) dX4_comesBefore_57
    · refine lv_if_ne (x := 0) (tgt := 33) hx hb dX4_comesBefore_28 (by decide) (fun c => absurd (by decide) c) (fun c28 => ?_)
      refine lv_iconst (v := 1) hx hb dX4_comesBefore_31 (by decide) ?_
      exact W.zret (v := 1) hx hb hr rfl (fun t ht hW => ⟨_, rfl, bq_t (by rw [cb, if_neg h1, if_pos (Classical.not_not.mp h2)]), ht⟩) (fun q hq => absurd hq List.not_mem_nil) dX4_comesBefore_32
  · refine lv_if_ne (x := 0) (tgt := 24) hx hb dX4_comesBefore_4 (by decide) (fun c => absurd (by decide) c) (fun c4 => ?_)
    refine lv_aload_n hx hb dX4_comesBefore_7 rfl (lv_at hl 1 rfl) ?_
    refine vp_callSi (W.runV (As := []) (rest := []) ⟨hx, hb, hml, hown, hts⟩ (c_X1_hasValue l D cy A α σ i hi hmi ) (cwV 0 hts gX4_comesBefore_X1_hasValue rfl rfl rfl (by decide +kernel) ⟨Nat.le_of_ble_eq_true rfl, Nat.le_of_ble_eq_true rfl⟩) ⟨pb_blind, pw_recv hP hK (cc_10 hi hmi) rfl, pb_pre hP hK⟩ rfl rfl hl.1 rfl (lv_room (Nat.le_of_ble_eq_true rfl)) dX4_comesBefore_8 ⟨Nat.le_of_ble_eq_true rfl, Nat.le_of_ble_eq_true rfl⟩) (fun r hw => ?_)
    rcases hw with ⟨rfl, h5⟩ | ⟨rfl, h5⟩
    · refine lv_if_ne (x := 1) (tgt := 22) hx hb dX4_comesBefore_11 (by decide) (fun c11 => ?_) (fun c => absurd c (by decide))
      refine lv_iconst (v := 0) hx hb dX4_comesBefore_22 (by decide) ?_
      exact W.zret (v := 0) hx hb hr rfl (fun t ht hW => ⟨_, rfl, bq_f (by rw [cb, if_pos (Classical.not_not.mp h1)]; simpa using fun q => absurd q h5), ht⟩) (fun q hq => absurd hq List.not_mem_nil) dX4_comesBefore_23
    · refine lv_if_ne (x := 0) (tgt := 22) hx hb dX4_comesBefore_11 (by decide) (fun c => absurd (by decide) c) (fun c11 => ?_)
      refine lv_iload_n hx hb dX4_comesBefore_14 rfl (lv_at hl 2 rfl) ?_
      refine lv_if_eq (x := b) (tgt := 22) hx hb dX4_comesBefore_15 (by decide) (fun c15 => ?_) (fun c15 => ?_)
      · refine lv_iconst (v := 0) hx hb dX4_comesBefore_22 (by decide) ?_
        exact W.zret (v := 0) hx hb hr rfl (fun t ht hW => ⟨_, rfl, bq_f (by rw [cb, if_pos (Classical.not_not.mp h1)]; simpa using fun _ => c15), ht⟩) (fun q hq => absurd hq List.not_mem_nil) dX4_comesBefore_23
      · refine lv_iconst (v := 1) hx hb dX4_comesBefore_18 (by decide) ?_
        refine lv_goto (tgt := 23) hx hb dX4_comesBefore_19 (by decide) ?_
        exact W.zret (v := 1) hx hb hr rfl (fun t ht hW => ⟨_, rfl, bq_t (by rw [cb, if_pos (Classical.not_not.mp h1)]; exact decide_eq_true ⟨Classical.not_not.mp h5, c15⟩), ht⟩) (fun q hq => absurd hq List.not_mem_nil) dX4_comesBefore_23

set_option maxHeartbeats 4000000 in
set_option maxRecDepth 100000 in
theorem c_X4_placeOf (l : Launch) (D : va_G) (cy : Nat → ClassId) (A : Nat → Prop) (α : AD) (σ : SG) (x : Int32) : Met l yX4_placeOf wsX4_placeOf ({ frames := 3, cells := 0, slots := 0, locals := 71 } : Room) (va_Pc [.ref (α 0 0), .int x] (PB D cy A α (CC cy σ α))) (vp_Si (fun r => (∃ j, gx σ x = some j ∧ x = nI j ∧ r = ahN σ j 16) ∨ (r = -1 ∧ gx σ x = none))) 0 0 (fun _ => False) := by
  refine Met.ofW (cc := cX4_placeOf) (maxL := 5) (ret := (some .int)) (by decide) rfl ?_
  intro p e s m args below meth c s₁ B hml hv
  obtain ⟨rfl, hP, hK⟩ := hv
  have hx := B.exec
  have hb := B.bytes
  have hr := B.returns
  have hts := atoms_spec (ws := wsX4_placeOf) B.pre
  have hown : s.vm.findClass RX4 = some m.cls := findClass_of_methodNamed B.named
  have hlocks := B.notSynchronized
  have hiX4 : ∀ w ∈ wsX40, w ∈ wsX4_placeOf := by decide +kernel
  have hl := lv_entry ([.ref (α 0 0), .int x]) (n := 5) (Nat.le_of_ble_eq_true rfl)
  rw [lg_entry_eq]
  generalize (lg_sl ([.ref (α 0 0), .int x]) ++ List.replicate (5 - (lg_sl ([.ref (α 0 0), .int x])).length) Slot.unset).toArray = ls at hl ⊢
  have hl : lv_has ls 5 [(0, .ref (α 0 0)), (1, .int x)] := hl
  have L17 : ∀ (n : Nat) (j : Nat) (hj : j < 16) (hgj : x = nI j) (hmj : σ 0 j ≠ 0) (h : Nat) (hn : 16 - h < n) (hh : h ≤ 16) (ls : Array Slot) (hl : lv_has ls 5 [(0, .ref (α 0 0)), (1, .int x), (2, .ref (α 10 j)), (3, .int (ahN σ j h)), (4, .int (nI h))]) , W p l e ({ frames := 3, cells := 0, slots := 0, locals := 71 } : Room) s m ([.ref (α 0 0), .int x] : List Value).toArray below meth c s.heap [] 0 0 (MQ below (vp_Si (fun r => (∃ j, gx σ x = some j ∧ x = nI j ∧ r = ahN σ j 16) ∨ (r = -1 ∧ gx σ x = none))) ([.ref (α 0 0), .int x] : List Value).toArray s 0 0 (fun _ => False)) (F0 m 17 ls []) := by
    intro n
    induction n with
    | zero => intro j hj hgj hmj h hn hh ls hl ; exact absurd hn (Nat.not_lt_zero _)
    | succ n ih =>
      intro j hj hgj hmj h hn hh ls hl 
      refine lv_iload hx hb dX4_placeOf_17 (lv_at hl 4 rfl) ?_
      refine lv_aload_n hx hb dX4_placeOf_19 rfl (lv_at hl 0 rfl) ?_
      refine pw_get (ref := "TripPanel") (C := RX4) (T := TX4) (N := 11) (ci := 4) (fs := (fsP σ α)) (v := .ref (α 1 0)) hx hb hts hiX4 hown hK hP cc_0 rfl 0 (by decide) (by decide +kernel) rfl rfl dX4_placeOf_20 ?_
      refine pw_alen (t0 := 2) (v := 16) hx hb hK hP rfl cc_1 rfl dX4_placeOf_23 ?_
      refine lv_icmp_ge (x := (nI h)) (y := 16) (tgt := 71) hx hb dX4_placeOf_24 (by decide) (fun c24 => ?_) (fun c24 => ?_)
      · have hge : h = 16 := Nat.le_antisymm hh (ige (N := 16) (by omega) (by decide) c24)
        refine lv_iload_n hx hb dX4_placeOf_71 rfl (lv_at hl 3 rfl) ?_
        exact W.iret (v := (ahN σ j h)) hx hb hr (fun t ht hW => ⟨_, rfl, Or.inl ⟨j, (by rw [hgj]; exact ix_of (by decide) hj hmj), hgj, by rw [hge]⟩, ht⟩) (fun q hq => absurd hq List.not_mem_nil) dX4_placeOf_72
      · have hlt : h < 16 := ilt (N := 16) (by omega) (by decide) c24
        refine lv_aload_n hx hb dX4_placeOf_27 rfl (lv_at hl 0 rfl) ?_
        refine pw_get (ref := "TripPanel") (C := RX4) (T := TX4) (N := 11) (ci := 4) (fs := (fsP σ α)) (v := .ref (α 1 0)) hx hb hts hiX4 hown hK hP cc_0 rfl 0 (by decide) (by decide +kernel) rfl rfl dX4_placeOf_28 ?_
        refine lv_iload hx hb dX4_placeOf_31 (lv_at hl 4 rfl) ?_
        refine pw_aald (t0 := 2) (C := RX1) (n := 16) (f := (qG σ α)) hx hb hK hP rfl cc_1 h rfl hlt (by decide) dX4_placeOf_33 ?_
        rcases qG_cases σ α h with ⟨eq, hm1⟩ | ⟨eq, hm1⟩
        · rw [eq]
          refine lv_ifnullN (tgt := 65) hx hb dX4_placeOf_34 (by decide) ?_
          refine lv_iinc (v := (nI (h + 1))) (lv' := [(4, .int (nI (h + 1))), (0, .ref (α 0 0)), (1, .int x), (2, .ref (α 10 j)), (3, .int (ahN σ j h))]) hx hb dX4_placeOf_65 hl (k := 4) rfl (nI_1 _) (by decide) rfl (fun ls hl => ?_)
          refine lv_goto (tgt := 17) hx hb dX4_placeOf_68 (by decide) ?_
          have e1 : ahN σ j (h + 1) = ahN σ j h := ah_step2 hm1
          rw [← e1] at hl
          exact ih j hj hgj hmj (h + 1) (by omega) hlt ls (lv_sub hl [1, 2, 3, 4, 0] rfl)
        · rw [eq]
          refine lv_ifnull hx hb dX4_placeOf_34 ?_
          refine lv_aload_n hx hb dX4_placeOf_37 rfl (lv_at hl 0 rfl) ?_
          refine pw_get (ref := "TripPanel") (C := RX4) (T := TX4) (N := 11) (ci := 4) (fs := (fsP σ α)) (v := .ref (α 1 0)) hx hb hts hiX4 hown hK hP cc_0 rfl 0 (by decide) (by decide +kernel) rfl rfl dX4_placeOf_38 ?_
          refine lv_iload hx hb dX4_placeOf_41 (lv_at hl 4 rfl) ?_
          refine pw_aald (t0 := 2) (C := RX1) (n := 16) (f := (qG σ α)) hx hb hK hP rfl cc_1 h rfl hlt (by decide) dX4_placeOf_43 ?_
          rw [qG_some (α := α) hm1]
          refine lv_aload_n hx hb dX4_placeOf_44 rfl (lv_at hl 2 rfl) ?_
          refine lv_iload hx hb dX4_placeOf_45 (lv_at hl 4 rfl) ?_
          refine lv_iload_n hx hb dX4_placeOf_47 rfl (lv_at hl 1 rfl) ?_
          refine lv_icmp_ge (x := (nI h)) (y := x) (tgt := 55) hx hb dX4_placeOf_48 (by decide) (fun c48 => ?_) (fun c48 => ?_)
          · have hhj : ¬ h < j := by rw [hgj] at c48; exact Nat.not_lt.mpr (ige (by omega) (by omega) c48)
            refine lv_iconst (v := 0) hx hb dX4_placeOf_55 (by decide) ?_
            refine vp_callSi (W.runS (As := [.ref (α 10 h), .ref (α 10 j), .int 0]) (rest := []) ⟨hx, hb, hml, hown, hts⟩ (c_X4_comesBefore l D cy A α σ h hlt hm1 j hj hmj 0) (va_cwS 3 hts gX4_placeOf_X4_comesBefore rfl rfl rfl (by decide +kernel) ⟨Nat.le_of_ble_eq_true rfl, Nat.le_of_ble_eq_true rfl⟩) ⟨pb_blind, pb_pre hP hK⟩ rfl rfl hl.1 rfl (lv_room (Nat.le_of_ble_eq_true rfl)) dX4_placeOf_56 ⟨Nat.le_of_ble_eq_true rfl, Nat.le_of_ble_eq_true rfl⟩) (fun r hw => ?_)
            rcases hw with ⟨rfl, h2⟩ | ⟨rfl, h2⟩
            · refine lv_if_eq (x := 1) (tgt := 65) hx hb dX4_placeOf_59 (by decide) (fun c => absurd c (by decide)) (fun c59 => ?_)
              refine lv_iinc (v := ((ahN σ j h) + 1)) (lv' := [(3, .int ((ahN σ j h) + 1)), (0, .ref (α 0 0)), (1, .int x), (2, .ref (α 10 j)), (4, .int (nI h))]) hx hb dX4_placeOf_62 hl (k := 3) rfl rfl (by decide) rfl (fun ls hl => ?_)
              refine lv_iinc (v := (nI (h + 1))) (lv' := [(4, .int (nI (h + 1))), (3, .int ((ahN σ j h) + 1)), (0, .ref (α 0 0)), (1, .int x), (2, .ref (α 10 j))]) hx hb dX4_placeOf_65 hl (k := 4) rfl (nI_1 _) (by decide) rfl (fun ls hl => ?_)
              refine lv_goto (tgt := 17) hx hb dX4_placeOf_68 (by decide) ?_
              have e1 : ahN σ j (h + 1) = ahN σ j h + 1 := ah_step1 (by rw [if_neg hhj]) hm1 h2
              rw [← e1] at hl
              exact ih j hj hgj hmj (h + 1) (by omega) hlt ls (lv_sub hl [2, 3, 4, 1, 0] rfl)
            · refine lv_if_eq (x := 0) (tgt := 65) hx hb dX4_placeOf_59 (by decide) (fun c59 => ?_) (fun c => absurd (by decide) c)
              refine lv_iinc (v := (nI (h + 1))) (lv' := [(4, .int (nI (h + 1))), (0, .ref (α 0 0)), (1, .int x), (2, .ref (α 10 j)), (3, .int (ahN σ j h))]) hx hb dX4_placeOf_65 hl (k := 4) rfl (nI_1 _) (by decide) rfl (fun ls hl => ?_)
              refine lv_goto (tgt := 17) hx hb dX4_placeOf_68 (by decide) ?_
              have e1 : ahN σ j (h + 1) = ahN σ j h := ah_step0 (by rw [if_neg hhj]) hm1 h2
              rw [← e1] at hl
              exact ih j hj hgj hmj (h + 1) (by omega) hlt ls (lv_sub hl [1, 2, 3, 4, 0] rfl)
          · have hhj : h < j := by rw [hgj] at c48; exact ilt (by omega) (by omega) c48
            refine lv_iconst (v := 1) hx hb dX4_placeOf_51 (by decide) ?_
            refine lv_goto (tgt := 56) hx hb dX4_placeOf_52 (by decide) ?_
            refine vp_callSi (W.runS (As := [.ref (α 10 h), .ref (α 10 j), .int 1]) (rest := []) ⟨hx, hb, hml, hown, hts⟩ (c_X4_comesBefore l D cy A α σ h hlt hm1 j hj hmj 1) (va_cwS 3 hts gX4_placeOf_X4_comesBefore rfl rfl rfl (by decide +kernel) ⟨Nat.le_of_ble_eq_true rfl, Nat.le_of_ble_eq_true rfl⟩) ⟨pb_blind, pb_pre hP hK⟩ rfl rfl hl.1 rfl (lv_room (Nat.le_of_ble_eq_true rfl)) dX4_placeOf_56 ⟨Nat.le_of_ble_eq_true rfl, Nat.le_of_ble_eq_true rfl⟩) (fun r hw => ?_)
            rcases hw with ⟨rfl, h3⟩ | ⟨rfl, h3⟩
            · refine lv_if_eq (x := 1) (tgt := 65) hx hb dX4_placeOf_59 (by decide) (fun c => absurd c (by decide)) (fun c59 => ?_)
              refine lv_iinc (v := ((ahN σ j h) + 1)) (lv' := [(3, .int ((ahN σ j h) + 1)), (0, .ref (α 0 0)), (1, .int x), (2, .ref (α 10 j)), (4, .int (nI h))]) hx hb dX4_placeOf_62 hl (k := 3) rfl rfl (by decide) rfl (fun ls hl => ?_)
              refine lv_iinc (v := (nI (h + 1))) (lv' := [(4, .int (nI (h + 1))), (3, .int ((ahN σ j h) + 1)), (0, .ref (α 0 0)), (1, .int x), (2, .ref (α 10 j))]) hx hb dX4_placeOf_65 hl (k := 4) rfl (nI_1 _) (by decide) rfl (fun ls hl => ?_)
              refine lv_goto (tgt := 17) hx hb dX4_placeOf_68 (by decide) ?_
              have e1 : ahN σ j (h + 1) = ahN σ j h + 1 := ah_step1 (by rw [if_pos hhj]) hm1 h3
              rw [← e1] at hl
              exact ih j hj hgj hmj (h + 1) (by omega) hlt ls (lv_sub hl [2, 3, 4, 1, 0] rfl)
            · refine lv_if_eq (x := 0) (tgt := 65) hx hb dX4_placeOf_59 (by decide) (fun c59 => ?_) (fun c => absurd (by decide) c)
              refine lv_iinc (v := (nI (h + 1))) (lv' := [(4, .int (nI (h + 1))), (0, .ref (α 0 0)), (1, .int x), (2, .ref (α 10 j)), (3, .int (ahN σ j h))]) hx hb dX4_placeOf_65 hl (k := 4) rfl (nI_1 _) (by decide) rfl (fun ls hl => ?_)
              refine lv_goto (tgt := 17) hx hb dX4_placeOf_68 (by decide) ?_
              have e1 : ahN σ j (h + 1) = ahN σ j h := ah_step0 (by rw [if_pos hhj]) hm1 h3
              rw [← e1] at hl
              exact ih j hj hgj hmj (h + 1) (by omega) hlt ls (lv_sub hl [1, 2, 3, 4, 0] rfl)
  refine lv_aload_n hx hb dX4_placeOf_0 rfl (lv_at hl 0 rfl) ?_
  refine lv_iload_n hx hb dX4_placeOf_1 rfl (lv_at hl 1 rfl) ?_
  refine va_csq (W.runV (As := [.int x]) (rest := []) ⟨hx, hb, hml, hown, hts⟩ (c_X4_gaugeAt l D cy A α σ x) (cwV 1 hts gX4_placeOf_X4_gaugeAt rfl rfl rfl (by decide +kernel) ⟨Nat.le_of_ble_eq_true rfl, Nat.le_of_ble_eq_true rfl⟩) ⟨pb_blind, pw_recv hP hK cc_0 rfl, pb_pre hP hK⟩ rfl rfl hl.1 rfl (lv_room (Nat.le_of_ble_eq_true rfl)) dX4_placeOf_2 ⟨Nat.le_of_ble_eq_true rfl, Nat.le_of_ble_eq_true rfl⟩) (fun r hw => ?_)
  rcases hw with ⟨j4, hx5, hj6, hg7, hm8, rfl⟩ | ⟨rfl, h9⟩
  · refine lv_astore_n (lv' := [(2, .ref (α 10 j4)), (0, .ref (α 0 0)), (1, .int x)]) hx hb dX4_placeOf_5 rfl hl (by decide) rfl (fun ls hl => ?_)
    refine lv_aload_n hx hb dX4_placeOf_6 rfl (lv_at hl 0 rfl) ?_
    refine lv_ifnonnull (tgt := 12) hx hb dX4_placeOf_7 (by decide) ?_
    refine lv_iconst (v := 0) hx hb dX4_placeOf_12 (by decide) ?_
    refine lv_istore_n (lv' := [(3, .int 0), (2, .ref (α 10 j4)), (0, .ref (α 0 0)), (1, .int x)]) hx hb dX4_placeOf_13 rfl hl (by decide) rfl (fun ls hl => ?_)
    refine lv_iconst (v := 0) hx hb dX4_placeOf_14 (by decide) ?_
    refine lv_istore (lv' := [(4, .int 0), (3, .int 0), (2, .ref (α 10 j4)), (0, .ref (α 0 0)), (1, .int x)]) hx hb dX4_placeOf_15 hl (by decide) rfl (fun ls hl => ?_)
    exact L17 17 j4 hj6 hg7 hm8 0 (by decide) (by decide) ls (lv_sub hl [3, 4, 2, 1, 0] rfl)
  · refine lv_astore_nN (lv' := [(2, .null), (0, .ref (α 0 0)), (1, .int x)]) hx hb dX4_placeOf_5 rfl hl (by decide) rfl (fun ls hl => ?_)
    refine lv_aload_nN hx hb dX4_placeOf_6 rfl (lv_at hl 0 rfl) ?_
    refine lv_ifnonnullN hx hb dX4_placeOf_7 ?_
    refine lv_iconst (v := (-1)) hx hb dX4_placeOf_10 (by decide) ?_
    exact W.iret (v := (-1)) hx hb hr (fun t ht hW => ⟨_, rfl, Or.inr ⟨rfl, h9⟩, ht⟩) (fun q hq => absurd hq List.not_mem_nil) dX4_placeOf_11

set_option maxHeartbeats 4000000 in
set_option maxRecDepth 100000 in
theorem c_X4_order (l : Launch) (D : va_G) (cy : Nat → ClassId) (A : Nat → Prop) (α : AD) (σ : SG) (k : Int32) : Met l yX4_order wsX4_order ({ frames := 4, cells := 0, slots := 0, locals := 95 } : Room) (va_Pc [.ref (α 0 0), .int k] (PB D cy A α (CC cy σ α))) (vp_Si (fun r => r = F_order σ k)) 0 0 (fun _ => False) := by
  refine Met.ofW (cc := cX4_order) (maxL := 3) (ret := (some .int)) (by decide) rfl ?_
  intro p e s m args below meth c s₁ B hml hv
  obtain ⟨rfl, hP, hK⟩ := hv
  have hx := B.exec
  have hb := B.bytes
  have hr := B.returns
  have hts := atoms_spec (ws := wsX4_order) B.pre
  have hown : s.vm.findClass RX4 = some m.cls := findClass_of_methodNamed B.named
  have hlocks := B.notSynchronized
  have hiX4 : ∀ w ∈ wsX40, w ∈ wsX4_order := by decide +kernel
  have hl := lv_entry ([.ref (α 0 0), .int k]) (n := 3) (Nat.le_of_ble_eq_true rfl)
  rw [lg_entry_eq]
  generalize (lg_sl ([.ref (α 0 0), .int k]) ++ List.replicate (3 - (lg_sl ([.ref (α 0 0), .int k])).length) Slot.unset).toArray = ls at hl ⊢
  have hl : lv_has ls 3 [(0, .ref (α 0 0)), (1, .int k)] := hl
  have L8 : ∀ (n : Nat) (gg : Nat) (hn : 16 - gg < n) (hg : gg ≤ 16) (hF : F_order σ k = ordN σ k (16 - gg) gg) (hk0 : ¬ (-1 : Int32) = k) (ls : Array Slot) (hl : lv_has ls 3 [(0, .ref (α 0 0)), (1, .int k), (2, .int (nI gg))]) , W p l e ({ frames := 4, cells := 0, slots := 0, locals := 95 } : Room) s m ([.ref (α 0 0), .int k] : List Value).toArray below meth c s.heap [] 0 0 (MQ below (vp_Si (fun r => r = F_order σ k)) ([.ref (α 0 0), .int k] : List Value).toArray s 0 0 (fun _ => False)) (F0 m 8 ls []) := by
    intro n
    induction n with
    | zero => intro gg hn hg hF hk0 ls hl ; exact absurd hn (Nat.not_lt_zero _)
    | succ n ih =>
      intro gg hn hg hF hk0 ls hl 
      refine lv_iload_n hx hb dX4_order_8 rfl (lv_at hl 2 rfl) ?_
      refine lv_aload_n hx hb dX4_order_9 rfl (lv_at hl 0 rfl) ?_
      refine pw_get (ref := "TripPanel") (C := RX4) (T := TX4) (N := 11) (ci := 4) (fs := (fsP σ α)) (v := .ref (α 1 0)) hx hb hts hiX4 hown hK hP cc_0 rfl 0 (by decide) (by decide +kernel) rfl rfl dX4_order_10 ?_
      refine pw_alen (t0 := 2) (v := 16) hx hb hK hP rfl cc_1 rfl dX4_order_13 ?_
      refine lv_icmp_ge (x := (nI gg)) (y := 16) (tgt := 34) hx hb dX4_order_14 (by decide) (fun c14 => ?_) (fun c14 => ?_)
      · have hge : gg = 16 := Nat.le_antisymm hg (ige (N := 16) (by omega) (by decide) c14)
        refine lv_iconst (v := (-1)) hx hb dX4_order_34 (by decide) ?_
        exact W.iret (v := (-1)) hx hb hr (fun t ht hW => ⟨_, rfl, (by rw [hF, hge]; rfl), ht⟩) (fun q hq => absurd hq List.not_mem_nil) dX4_order_35
      · have hlt : gg < 16 := ilt (N := 16) (by omega) (by decide) c14
        refine lv_aload_n hx hb dX4_order_17 rfl (lv_at hl 0 rfl) ?_
        refine lv_iload_n hx hb dX4_order_18 rfl (lv_at hl 2 rfl) ?_
        refine vp_callSi (W.runV (As := [.int (nI gg)]) (rest := []) ⟨hx, hb, hml, hown, hts⟩ (c_X4_placeOf l D cy A α σ (nI gg)) (cwV 1 hts gX4_order_X4_placeOf rfl rfl rfl (by decide +kernel) ⟨Nat.le_of_ble_eq_true rfl, Nat.le_of_ble_eq_true rfl⟩) ⟨pb_blind, pw_recv hP hK cc_0 rfl, pb_pre hP hK⟩ rfl rfl hl.1 rfl (lv_room (Nat.le_of_ble_eq_true rfl)) dX4_order_19 ⟨Nat.le_of_ble_eq_true rfl, Nat.le_of_ble_eq_true rfl⟩) (fun r hw => ?_)
        rcases hw with ⟨jj, hxx, hgg, rfl⟩ | ⟨rfl, hxx⟩
        · have ej : jj = gg := (nI_eq (by have := (ix_some (by decide) hxx).1; omega) (by omega)).mp hgg.symm
          subst ej
          have hmj := (ix_some (n := 16) (f := σ 0) (by decide) hxx).2.2
          refine lv_iload_n hx hb dX4_order_22 rfl (lv_at hl 1 rfl) ?_
          refine lv_icmp_ne (x := (ahN σ jj 16)) (y := k) (tgt := 28) hx hb dX4_order_23 (by decide) (fun c23 => ?_) (fun c23 => ?_)
          · refine lv_iinc (v := (nI (jj + 1))) (lv' := [(2, .int (nI (jj + 1))), (0, .ref (α 0 0)), (1, .int k)]) hx hb dX4_order_28 hl (k := 2) rfl (nI_1 _) (by decide) rfl (fun ls hl => ?_)
            refine lv_goto (tgt := 8) hx hb dX4_order_31 (by decide) ?_
            have hno : ¬ (σ 0 jj ≠ 0 ∧ ahN σ jj 16 = k) := fun q => c23 q.2
            exact ih (jj + 1) (by omega) hlt (by rw [hF, show 16 - jj = (15 - jj) + 1 by omega, ordN, if_neg hno, show 16 - (jj + 1) = 15 - jj by omega]) hk0 ls (lv_sub hl [1, 2, 0] rfl)
          · refine lv_iload_n hx hb dX4_order_26 rfl (lv_at hl 2 rfl) ?_
            exact W.iret (v := (nI jj)) hx hb hr (fun t ht hW => ⟨_, rfl, (by rw [hF, show 16 - jj = (15 - jj) + 1 by omega, ordN, if_pos ⟨hmj, c23⟩]), ht⟩) (fun q hq => absurd hq List.not_mem_nil) dX4_order_27
        · refine lv_iload_n hx hb dX4_order_22 rfl (lv_at hl 1 rfl) ?_
          refine lv_icmp_ne (x := (-1)) (y := k) (tgt := 28) hx hb dX4_order_23 (by decide) (fun c23 => ?_) (fun c => absurd c (fun q => hk0 q))
          refine lv_iinc (v := (nI (gg + 1))) (lv' := [(2, .int (nI (gg + 1))), (0, .ref (α 0 0)), (1, .int k)]) hx hb dX4_order_28 hl (k := 2) rfl (nI_1 _) (by decide) rfl (fun ls hl => ?_)
          refine lv_goto (tgt := 8) hx hb dX4_order_31 (by decide) ?_
          have hno : ¬ (σ 0 gg ≠ 0 ∧ ahN σ gg 16 = k) := fun q => by have z := ix_of (n := 16) (f := σ 0) (by decide) hlt q.1; cases (hxx.symm.trans z)
          exact ih (gg + 1) (by omega) hlt (by rw [hF, show 16 - gg = (15 - gg) + 1 by omega, ordN, if_neg hno, show 16 - (gg + 1) = 15 - gg by omega]) hk0 ls (lv_sub hl [1, 2, 0] rfl)
  refine lv_iload_n hx hb dX4_order_0 rfl (lv_at hl 1 rfl) ?_
  refine lv_if_ge (x := k) (tgt := 6) hx hb dX4_order_1 (by decide) (fun c1 => ?_) (fun c1 => ?_)
  · refine lv_iconst (v := 0) hx hb dX4_order_6 (by decide) ?_
    refine lv_istore_n (lv' := [(2, .int 0), (0, .ref (α 0 0)), (1, .int k)]) hx hb dX4_order_7 rfl hl (by decide) rfl (fun ls hl => ?_)
    exact L8 17 0 (by decide) (by decide) rfl (fun q => absurd c1 (by rw [← q]; decide)) ls (lv_sub hl [1, 2, 0] rfl)
  · refine lv_iconst (v := (-1)) hx hb dX4_order_4 (by decide) ?_
    exact W.iret (v := (-1)) hx hb hr (fun t ht hW => ⟨_, rfl, (by rw [F_order, ord_neg σ (Int32.not_le.mp c1)]), ht⟩) (fun q hq => absurd hq List.not_mem_nil) dX4_order_5

set_option maxHeartbeats 4000000 in
set_option maxRecDepth 100000 in
theorem c_X4_countGauges (l : Launch) (D : va_G) (cy : Nat → ClassId) (A : Nat → Prop) (α : AD) (σ : SG) : Met l yX4_countGauges wsX4_countGauges ({ frames := 0, cells := 0, slots := 0, locals := 0 } : Room) (va_Pc [.ref (α 0 0)] (PB D cy A α (CC cy σ α))) (vp_Si (fun r => r = cmN σ 16)) 0 0 (fun _ => False) := by
  refine Met.ofW (cc := cX4_countGauges) (maxL := 3) (ret := (some .int)) (by decide) rfl ?_
  intro p e s m args below meth c s₁ B hml hv
  obtain ⟨rfl, hP, hK⟩ := hv
  have hx := B.exec
  have hb := B.bytes
  have hr := B.returns
  have hts := atoms_spec (ws := wsX4_countGauges) B.pre
  have hown : s.vm.findClass RX4 = some m.cls := findClass_of_methodNamed B.named
  have hlocks := B.notSynchronized
  have hiX4 : ∀ w ∈ wsX40, w ∈ wsX4_countGauges := by decide +kernel
  have hl := lv_entry ([.ref (α 0 0)]) (n := 3) (Nat.le_of_ble_eq_true rfl)
  rw [lg_entry_eq]
  generalize (lg_sl ([.ref (α 0 0)]) ++ List.replicate (3 - (lg_sl ([.ref (α 0 0)])).length) Slot.unset).toArray = ls at hl ⊢
  have hl : lv_has ls 3 [(0, .ref (α 0 0))] := hl
  have L4 : ∀ (n : Nat) (gg : Nat) (hn : 16 - gg < n) (hg : gg ≤ 16) (ls : Array Slot) (hl : lv_has ls 3 [(0, .ref (α 0 0)), (1, .int (cmN σ gg)), (2, .int (nI gg))]) , W p l e ({ frames := 0, cells := 0, slots := 0, locals := 0 } : Room) s m ([.ref (α 0 0)] : List Value).toArray below meth c s.heap [] 0 0 (MQ below (vp_Si (fun r => r = cmN σ 16)) ([.ref (α 0 0)] : List Value).toArray s 0 0 (fun _ => False)) (F0 m 4 ls []) := by
    intro n
    induction n with
    | zero => intro gg hn hg ls hl ; exact absurd hn (Nat.not_lt_zero _)
    | succ n ih =>
      intro gg hn hg ls hl 
      refine lv_iload_n hx hb dX4_countGauges_4 rfl (lv_at hl 2 rfl) ?_
      refine lv_aload_n hx hb dX4_countGauges_5 rfl (lv_at hl 0 rfl) ?_
      refine pw_get (ref := "TripPanel") (C := RX4) (T := TX4) (N := 11) (ci := 4) (fs := (fsP σ α)) (v := .ref (α 1 0)) hx hb hts hiX4 hown hK hP cc_0 rfl 0 (by decide) (by decide +kernel) rfl rfl dX4_countGauges_6 ?_
      refine pw_alen (t0 := 2) (v := 16) hx hb hK hP rfl cc_1 rfl dX4_countGauges_9 ?_
      refine lv_icmp_ge (x := (nI gg)) (y := 16) (tgt := 31) hx hb dX4_countGauges_10 (by decide) (fun c10 => ?_) (fun c10 => ?_)
      · have hge : gg = 16 := Nat.le_antisymm hg (ige (N := 16) (by omega) (by decide) c10)
        refine lv_iload_n hx hb dX4_countGauges_31 rfl (lv_at hl 1 rfl) ?_
        exact W.iret (v := (cmN σ gg)) hx hb hr (fun t ht hW => ⟨_, rfl, (by rw [hge]), ht⟩) (fun q hq => absurd hq List.not_mem_nil) dX4_countGauges_32
      · have hlt : gg < 16 := ilt (N := 16) (by omega) (by decide) c10
        refine lv_aload_n hx hb dX4_countGauges_13 rfl (lv_at hl 0 rfl) ?_
        refine pw_get (ref := "TripPanel") (C := RX4) (T := TX4) (N := 11) (ci := 4) (fs := (fsP σ α)) (v := .ref (α 1 0)) hx hb hts hiX4 hown hK hP cc_0 rfl 0 (by decide) (by decide +kernel) rfl rfl dX4_countGauges_14 ?_
        refine lv_iload_n hx hb dX4_countGauges_17 rfl (lv_at hl 2 rfl) ?_
        refine pw_aald (t0 := 2) (C := RX1) (n := 16) (f := (qG σ α)) hx hb hK hP rfl cc_1 gg rfl hlt (by decide) dX4_countGauges_18 ?_
        rcases qG_cases σ α gg with ⟨eq, hm1⟩ | ⟨eq, hm1⟩
        · rw [eq]
          refine lv_ifnullN (tgt := 25) hx hb dX4_countGauges_19 (by decide) ?_
          refine lv_iinc (v := (nI (gg + 1))) (lv' := [(2, .int (nI (gg + 1))), (0, .ref (α 0 0)), (1, .int (cmN σ gg))]) hx hb dX4_countGauges_25 hl (k := 2) rfl (nI_1 _) (by decide) rfl (fun ls hl => ?_)
          refine lv_goto (tgt := 4) hx hb dX4_countGauges_28 (by decide) ?_
          have e1 : cmN σ (gg + 1) = cmN σ gg := by rw [cmN, show decide (σ 0 gg ≠ 0) = false from decide_eq_false (not_not_intro hm1)]; exact Int32.add_zero _
          rw [← e1] at hl
          exact ih (gg + 1) (by omega) hlt ls (lv_sub hl [1, 2, 0] rfl)
        · rw [eq]
          refine lv_ifnull hx hb dX4_countGauges_19 ?_
          refine lv_iinc (v := ((cmN σ gg) + 1)) (lv' := [(1, .int ((cmN σ gg) + 1)), (0, .ref (α 0 0)), (2, .int (nI gg))]) hx hb dX4_countGauges_22 hl (k := 1) rfl rfl (by decide) rfl (fun ls hl => ?_)
          refine lv_iinc (v := (nI (gg + 1))) (lv' := [(2, .int (nI (gg + 1))), (1, .int ((cmN σ gg) + 1)), (0, .ref (α 0 0))]) hx hb dX4_countGauges_25 hl (k := 2) rfl (nI_1 _) (by decide) rfl (fun ls hl => ?_)
          refine lv_goto (tgt := 4) hx hb dX4_countGauges_28 (by decide) ?_
          have e1 : cmN σ (gg + 1) = cmN σ gg + 1 := by rw [cmN, show decide (σ 0 gg ≠ 0) = true from decide_eq_true hm1]; rfl
          rw [← e1] at hl
          exact ih (gg + 1) (by omega) hlt ls (lv_sub hl [2, 1, 0] rfl)
  refine lv_iconst (v := 0) hx hb dX4_countGauges_0 (by decide) ?_
  refine lv_istore_n (lv' := [(1, .int 0), (0, .ref (α 0 0))]) hx hb dX4_countGauges_1 rfl hl (by decide) rfl (fun ls hl => ?_)
  refine lv_iconst (v := 0) hx hb dX4_countGauges_2 (by decide) ?_
  refine lv_istore_n (lv' := [(2, .int 0), (1, .int 0), (0, .ref (α 0 0))]) hx hb dX4_countGauges_3 rfl hl (by decide) rfl (fun ls hl => ?_)
  exact L4 17 0 (by decide) (by decide) ls (lv_sub hl [2, 1, 0] rfl)

set_option maxHeartbeats 4000000 in
set_option maxRecDepth 100000 in
theorem c_X4_countTripped (l : Launch) (D : va_G) (cy : Nat → ClassId) (A : Nat → Prop) (α : AD) (σ : SG) : Met l yX4_countTripped wsX4_countTripped ({ frames := 0, cells := 0, slots := 0, locals := 0 } : Room) (va_Pc [.ref (α 0 0)] (PB D cy A α (CC cy σ α))) (vp_Si (fun r => r = ctN σ 8)) 0 0 (fun _ => False) := by
  refine Met.ofW (cc := cX4_countTripped) (maxL := 4) (ret := (some .int)) (by decide) rfl ?_
  intro p e s m args below meth c s₁ B hml hv
  obtain ⟨rfl, hP, hK⟩ := hv
  have hx := B.exec
  have hb := B.bytes
  have hr := B.returns
  have hts := atoms_spec (ws := wsX4_countTripped) B.pre
  have hown : s.vm.findClass RX4 = some m.cls := findClass_of_methodNamed B.named
  have hlocks := B.notSynchronized
  have hiX4 : ∀ w ∈ wsX40, w ∈ wsX4_countTripped := by decide +kernel
  have hiX3 : ∀ w ∈ wsX30, w ∈ wsX4_countTripped := by decide +kernel
  have hl := lv_entry ([.ref (α 0 0)]) (n := 4) (Nat.le_of_ble_eq_true rfl)
  rw [lg_entry_eq]
  generalize (lg_sl ([.ref (α 0 0)]) ++ List.replicate (4 - (lg_sl ([.ref (α 0 0)])).length) Slot.unset).toArray = ls at hl ⊢
  have hl : lv_has ls 4 [(0, .ref (α 0 0))] := hl
  have L4 : ∀ (n : Nat) (gg : Nat) (hn : 8 - gg < n) (hg : gg ≤ 8) (ls : Array Slot) (hl : lv_has ls 4 [(0, .ref (α 0 0)), (1, .int (ctN σ gg)), (2, .int (nI gg))]) , W p l e ({ frames := 0, cells := 0, slots := 0, locals := 0 } : Room) s m ([.ref (α 0 0)] : List Value).toArray below meth c s.heap [] 0 0 (MQ below (vp_Si (fun r => r = ctN σ 8)) ([.ref (α 0 0)] : List Value).toArray s 0 0 (fun _ => False)) (F0 m 4 ls []) := by
    intro n
    induction n with
    | zero => intro gg hn hg ls hl ; exact absurd hn (Nat.not_lt_zero _)
    | succ n ih =>
      intro gg hn hg ls hl 
      refine lv_iload_n hx hb dX4_countTripped_4 rfl (lv_at hl 2 rfl) ?_
      refine lv_aload_n hx hb dX4_countTripped_5 rfl (lv_at hl 0 rfl) ?_
      refine pw_get (ref := "TripPanel") (C := RX4) (T := TX4) (N := 11) (ci := 4) (fs := (fsP σ α)) (v := .ref (α 3 0)) hx hb hts hiX4 hown hK hP cc_0 rfl 2 (by decide) (by decide +kernel) rfl rfl dX4_countTripped_6 ?_
      refine pw_alen (t0 := 4) (v := 8) hx hb hK hP rfl cc_3 rfl dX4_countTripped_9 ?_
      refine lv_icmp_ge (x := (nI gg)) (y := 8) (tgt := 40) hx hb dX4_countTripped_10 (by decide) (fun c10 => ?_) (fun c10 => ?_)
      · have hge : gg = 8 := Nat.le_antisymm hg (ige (N := 8) (by omega) (by decide) c10)
        refine lv_iload_n hx hb dX4_countTripped_40 rfl (lv_at hl 1 rfl) ?_
        exact W.iret (v := (ctN σ gg)) hx hb hr (fun t ht hW => ⟨_, rfl, (by rw [hge]), ht⟩) (fun q hq => absurd hq List.not_mem_nil) dX4_countTripped_41
      · have hlt : gg < 8 := ilt (N := 8) (by omega) (by decide) c10
        refine lv_aload_n hx hb dX4_countTripped_13 rfl (lv_at hl 0 rfl) ?_
        refine pw_get (ref := "TripPanel") (C := RX4) (T := TX4) (N := 11) (ci := 4) (fs := (fsP σ α)) (v := .ref (α 3 0)) hx hb hts hiX4 hown hK hP cc_0 rfl 2 (by decide) (by decide +kernel) rfl rfl dX4_countTripped_14 ?_
        refine lv_iload_n hx hb dX4_countTripped_17 rfl (lv_at hl 2 rfl) ?_
        refine pw_aald (t0 := 4) (C := RX3) (n := 8) (f := (qT σ α)) hx hb hK hP rfl cc_3 gg rfl hlt (by decide) dX4_countTripped_18 ?_
        rcases qT_cases σ α gg with ⟨eq, hm1⟩ | ⟨eq, hm1⟩
        · rw [eq]
          refine lv_astore_nN (lv' := [(3, .null), (0, .ref (α 0 0)), (1, .int (ctN σ gg)), (2, .int (nI gg))]) hx hb dX4_countTripped_19 rfl hl (by decide) rfl (fun ls hl => ?_)
          refine lv_aload_nN hx hb dX4_countTripped_20 rfl (lv_at hl 0 rfl) ?_
          refine lv_ifnullN (tgt := 34) hx hb dX4_countTripped_21 (by decide) ?_
          refine lv_iinc (v := (nI (gg + 1))) (lv' := [(2, .int (nI (gg + 1))), (3, .null), (0, .ref (α 0 0)), (1, .int (ctN σ gg))]) hx hb dX4_countTripped_34 hl (k := 3) rfl (nI_1 _) (by decide) rfl (fun ls hl => ?_)
          refine lv_goto (tgt := 4) hx hb dX4_countTripped_37 (by decide) ?_
          have e1 : ctN σ (gg + 1) = ctN σ gg := by rw [ctN, show decide (σ 20 gg ≠ 0 ∧ σ 21 gg ≠ 0) = false from decide_eq_false (fun q => q.1 hm1)]; exact Int32.add_zero _
          rw [← e1] at hl
          exact ih (gg + 1) (by omega) hlt ls (lv_sub hl [2, 3, 0] rfl)
        · rw [eq]
          refine lv_astore_n (lv' := [(3, .ref (α 14 gg)), (0, .ref (α 0 0)), (1, .int (ctN σ gg)), (2, .int (nI gg))]) hx hb dX4_countTripped_19 rfl hl (by decide) rfl (fun ls hl => ?_)
          refine lv_aload_n hx hb dX4_countTripped_20 rfl (lv_at hl 0 rfl) ?_
          refine lv_ifnull hx hb dX4_countTripped_21 ?_
          refine lv_aload_n hx hb dX4_countTripped_24 rfl (lv_at hl 0 rfl) ?_
          refine pw_get (ref := "TripPanel$Trip") (C := RX3) (T := TX3) (N := 4) (ci := 3) (fs := (fsT σ α gg)) (v := .int (σ 21 gg)) hx hb hts hiX3 hown hK hP (cc_14 hlt hm1) rfl 3 (by decide) (by decide +kernel) rfl rfl dX4_countTripped_25 ?_
          refine lv_if_eq (x := (σ 21 gg)) (tgt := 34) hx hb dX4_countTripped_28 (by decide) (fun c28 => ?_) (fun c28 => ?_)
          · refine lv_iinc (v := (nI (gg + 1))) (lv' := [(2, .int (nI (gg + 1))), (3, .ref (α 14 gg)), (0, .ref (α 0 0)), (1, .int (ctN σ gg))]) hx hb dX4_countTripped_34 hl (k := 3) rfl (nI_1 _) (by decide) rfl (fun ls hl => ?_)
            refine lv_goto (tgt := 4) hx hb dX4_countTripped_37 (by decide) ?_
            have e1 : ctN σ (gg + 1) = ctN σ gg := by rw [ctN, show decide (σ 20 gg ≠ 0 ∧ σ 21 gg ≠ 0) = false from decide_eq_false (fun q => q.2 c28)]; exact Int32.add_zero _
            rw [← e1] at hl
            exact ih (gg + 1) (by omega) hlt ls (lv_sub hl [2, 3, 0] rfl)
          · refine lv_iinc (v := ((ctN σ gg) + 1)) (lv' := [(1, .int ((ctN σ gg) + 1)), (3, .ref (α 14 gg)), (0, .ref (α 0 0)), (2, .int (nI gg))]) hx hb dX4_countTripped_31 hl (k := 2) rfl rfl (by decide) rfl (fun ls hl => ?_)
            refine lv_iinc (v := (nI (gg + 1))) (lv' := [(2, .int (nI (gg + 1))), (1, .int ((ctN σ gg) + 1)), (3, .ref (α 14 gg)), (0, .ref (α 0 0))]) hx hb dX4_countTripped_34 hl (k := 3) rfl (nI_1 _) (by decide) rfl (fun ls hl => ?_)
            refine lv_goto (tgt := 4) hx hb dX4_countTripped_37 (by decide) ?_
            have e1 : ctN σ (gg + 1) = ctN σ gg + 1 := by rw [ctN, show decide (σ 20 gg ≠ 0 ∧ σ 21 gg ≠ 0) = true from decide_eq_true ⟨hm1, c28⟩]; rfl
            rw [← e1] at hl
            exact ih (gg + 1) (by omega) hlt ls (lv_sub hl [3, 1, 0] rfl)
  refine lv_iconst (v := 0) hx hb dX4_countTripped_0 (by decide) ?_
  refine lv_istore_n (lv' := [(1, .int 0), (0, .ref (α 0 0))]) hx hb dX4_countTripped_1 rfl hl (by decide) rfl (fun ls hl => ?_)
  refine lv_iconst (v := 0) hx hb dX4_countTripped_2 (by decide) ?_
  refine lv_istore_n (lv' := [(2, .int 0), (1, .int 0), (0, .ref (α 0 0))]) hx hb dX4_countTripped_3 rfl hl (by decide) rfl (fun ls hl => ?_)
  exact L4 9 0 (by decide) (by decide) ls (lv_sub hl [2, 1, 0] rfl)

set_option maxHeartbeats 4000000 in
set_option maxRecDepth 100000 in
theorem c_X4_about (l : Launch) (D : va_G) (cy : Nat → ClassId) (A : Nat → Prop) (α : AD) (σ : SG) (wh : Int32) : Met l yX4_about wsX4_about ({ frames := 1, cells := 0, slots := 0, locals := 23 } : Room) (va_Pc [.ref (α 0 0), .int wh] (PB D cy A α (CC cy σ α))) (vp_Si (fun r => r = F_about σ wh)) 0 0 (fun _ => False) := by
  refine Met.ofW (cc := cX4_about) (maxL := 2) (ret := (some .int)) (by decide) rfl ?_
  intro p e s m args below meth c s₁ B hml hv
  obtain ⟨rfl, hP, hK⟩ := hv
  have hx := B.exec
  have hb := B.bytes
  have hr := B.returns
  have hts := atoms_spec (ws := wsX4_about) B.pre
  have hown : s.vm.findClass RX4 = some m.cls := findClass_of_methodNamed B.named
  have hlocks := B.notSynchronized
  have hiX4 : ∀ w ∈ wsX40, w ∈ wsX4_about := by decide +kernel
  have hl := lv_entry ([.ref (α 0 0), .int wh]) (n := 2) (Nat.le_of_ble_eq_true rfl)
  rw [lg_entry_eq]
  generalize (lg_sl ([.ref (α 0 0), .int wh]) ++ List.replicate (2 - (lg_sl ([.ref (α 0 0), .int wh])).length) Slot.unset).toArray = ls at hl ⊢
  have hl : lv_has ls 2 [(0, .ref (α 0 0)), (1, .int wh)] := hl
  rcases sw7 wh with hw | hw | hw | hw | hw | hw | hw | hw
  · have hl : lv_has ls 2 [(0, .ref (α 0 0)), (1, .int 0)] := by rw [hw] at hl; exact hl
    have hw9 := hw
    refine lv_iload_n hx hb dX4_about_0 rfl (lv_at hl 1 rfl) ?_
    refine lv_tableIn (tgt := 44) hx hb dX4_about_1 (by decide) (by decide) rfl (by decide) ?_
    refine lv_aload_n hx hb dX4_about_44 rfl (lv_at hl 0 rfl) ?_
    refine vp_callSi (W.runV (As := []) (rest := []) ⟨hx, hb, hml, hown, hts⟩ (c_X4_countGauges l D cy A α σ) (cwV 0 hts gX4_about_X4_countGauges rfl rfl rfl (by decide +kernel) ⟨Nat.le_of_ble_eq_true rfl, Nat.le_of_ble_eq_true rfl⟩) ⟨pb_blind, pw_recv hP hK cc_0 rfl, pb_pre hP hK⟩ rfl rfl hl.1 rfl (lv_room (Nat.le_of_ble_eq_true rfl)) dX4_about_45 ⟨Nat.le_of_ble_eq_true rfl, Nat.le_of_ble_eq_true rfl⟩) (fun r hw => ?_)
    subst hw
    exact W.iret (v := (cmN σ 16)) hx hb hr (fun t ht hW => ⟨_, rfl, (by rw [hw9]; rfl), ht⟩) (fun q hq => absurd hq List.not_mem_nil) dX4_about_48
  · have hl : lv_has ls 2 [(0, .ref (α 0 0)), (1, .int 1)] := by rw [hw] at hl; exact hl
    have hw9 := hw
    refine lv_iload_n hx hb dX4_about_0 rfl (lv_at hl 1 rfl) ?_
    refine lv_tableIn (tgt := 49) hx hb dX4_about_1 (by decide) (by decide) rfl (by decide) ?_
    refine lv_aload_n hx hb dX4_about_49 rfl (lv_at hl 0 rfl) ?_
    refine pw_get (ref := "TripPanel") (C := RX4) (T := TX4) (N := 11) (ci := 4) (fs := (fsP σ α)) (v := .int (σ 25 0)) hx hb hts hiX4 hown hK hP cc_0 rfl 6 (by decide) (by decide +kernel) rfl rfl dX4_about_50 ?_
    exact W.iret (v := (σ 25 0)) hx hb hr (fun t ht hW => ⟨_, rfl, (by rw [hw9]; rfl), ht⟩) (fun q hq => absurd hq List.not_mem_nil) dX4_about_53
  · have hl : lv_has ls 2 [(0, .ref (α 0 0)), (1, .int 2)] := by rw [hw] at hl; exact hl
    have hw9 := hw
    refine lv_iload_n hx hb dX4_about_0 rfl (lv_at hl 1 rfl) ?_
    refine lv_tableIn (tgt := 54) hx hb dX4_about_1 (by decide) (by decide) rfl (by decide) ?_
    refine lv_aload_n hx hb dX4_about_54 rfl (lv_at hl 0 rfl) ?_
    refine pw_get (ref := "TripPanel") (C := RX4) (T := TX4) (N := 11) (ci := 4) (fs := (fsP σ α)) (v := .int (σ 26 0)) hx hb hts hiX4 hown hK hP cc_0 rfl 7 (by decide) (by decide +kernel) rfl rfl dX4_about_55 ?_
    exact W.iret (v := (σ 26 0)) hx hb hr (fun t ht hW => ⟨_, rfl, (by rw [hw9]; rfl), ht⟩) (fun q hq => absurd hq List.not_mem_nil) dX4_about_58
  · have hl : lv_has ls 2 [(0, .ref (α 0 0)), (1, .int 3)] := by rw [hw] at hl; exact hl
    have hw9 := hw
    refine lv_iload_n hx hb dX4_about_0 rfl (lv_at hl 1 rfl) ?_
    refine lv_tableIn (tgt := 59) hx hb dX4_about_1 (by decide) (by decide) rfl (by decide) ?_
    refine lv_aload_n hx hb dX4_about_59 rfl (lv_at hl 0 rfl) ?_
    refine pw_get (ref := "TripPanel") (C := RX4) (T := TX4) (N := 11) (ci := 4) (fs := (fsP σ α)) (v := .int (σ 27 0)) hx hb hts hiX4 hown hK hP cc_0 rfl 8 (by decide) (by decide +kernel) rfl rfl dX4_about_60 ?_
    exact W.iret (v := (σ 27 0)) hx hb hr (fun t ht hW => ⟨_, rfl, (by rw [hw9]; rfl), ht⟩) (fun q hq => absurd hq List.not_mem_nil) dX4_about_63
  · have hl : lv_has ls 2 [(0, .ref (α 0 0)), (1, .int 4)] := by rw [hw] at hl; exact hl
    have hw9 := hw
    refine lv_iload_n hx hb dX4_about_0 rfl (lv_at hl 1 rfl) ?_
    refine lv_tableIn (tgt := 64) hx hb dX4_about_1 (by decide) (by decide) rfl (by decide) ?_
    refine lv_aload_n hx hb dX4_about_64 rfl (lv_at hl 0 rfl) ?_
    refine pw_get (ref := "TripPanel") (C := RX4) (T := TX4) (N := 11) (ci := 4) (fs := (fsP σ α)) (v := .int (σ 28 0)) hx hb hts hiX4 hown hK hP cc_0 rfl 9 (by decide) (by decide +kernel) rfl rfl dX4_about_65 ?_
    exact W.iret (v := (σ 28 0)) hx hb hr (fun t ht hW => ⟨_, rfl, (by rw [hw9]; rfl), ht⟩) (fun q hq => absurd hq List.not_mem_nil) dX4_about_68
  · have hl : lv_has ls 2 [(0, .ref (α 0 0)), (1, .int 5)] := by rw [hw] at hl; exact hl
    have hw9 := hw
    refine lv_iload_n hx hb dX4_about_0 rfl (lv_at hl 1 rfl) ?_
    refine lv_tableIn (tgt := 69) hx hb dX4_about_1 (by decide) (by decide) rfl (by decide) ?_
    refine lv_aload_n hx hb dX4_about_69 rfl (lv_at hl 0 rfl) ?_
    refine vp_callSi (W.runV (As := []) (rest := []) ⟨hx, hb, hml, hown, hts⟩ (c_X4_countTripped l D cy A α σ) (cwV 0 hts gX4_about_X4_countTripped rfl rfl rfl (by decide +kernel) ⟨Nat.le_of_ble_eq_true rfl, Nat.le_of_ble_eq_true rfl⟩) ⟨pb_blind, pw_recv hP hK cc_0 rfl, pb_pre hP hK⟩ rfl rfl hl.1 rfl (lv_room (Nat.le_of_ble_eq_true rfl)) dX4_about_70 ⟨Nat.le_of_ble_eq_true rfl, Nat.le_of_ble_eq_true rfl⟩) (fun r hw => ?_)
    subst hw
    exact W.iret (v := (ctN σ 8)) hx hb hr (fun t ht hW => ⟨_, rfl, (by rw [hw9]; rfl), ht⟩) (fun q hq => absurd hq List.not_mem_nil) dX4_about_73
  · have hl : lv_has ls 2 [(0, .ref (α 0 0)), (1, .int 6)] := by rw [hw] at hl; exact hl
    have hw9 := hw
    refine lv_iload_n hx hb dX4_about_0 rfl (lv_at hl 1 rfl) ?_
    refine lv_tableIn (tgt := 74) hx hb dX4_about_1 (by decide) (by decide) rfl (by decide) ?_
    refine lv_aload_n hx hb dX4_about_74 rfl (lv_at hl 0 rfl) ?_
    refine pw_get (ref := "TripPanel") (C := RX4) (T := TX4) (N := 11) (ci := 4) (fs := (fsP σ α)) (v := .int (σ 29 0)) hx hb hts hiX4 hown hK hP cc_0 rfl 10 (by decide) (by decide +kernel) rfl rfl dX4_about_75 ?_
    exact W.iret (v := (σ 29 0)) hx hb hr (fun t ht hW => ⟨_, rfl, (by rw [hw9]; rfl), ht⟩) (fun q hq => absurd hq List.not_mem_nil) dX4_about_78
  · obtain ⟨n0, n1, n2, n3, n4, n5, n6⟩ := sw_ne hw
    refine lv_iload_n hx hb dX4_about_0 rfl (lv_at hl 1 rfl) ?_
    refine lv_tableOut (tgt := 79) hx hb dX4_about_1 hw (by decide) ?_
    refine lv_iconst (v := (-1)) hx hb dX4_about_79 (by decide) ?_
    exact W.iret (v := (-1)) hx hb hr (fun t ht hW => ⟨_, rfl, (by rw [F_about, if_neg n0, if_neg n5, if_neg n1, if_neg n2, if_neg n3, if_neg n4, if_neg n6]), ht⟩) (fun q hq => absurd hq List.not_mem_nil) dX4_about_80

set_option maxHeartbeats 4000000 in
set_option maxRecDepth 100000 in
theorem c_X4_event (l : Launch) (D : va_G) (cy : Nat → ClassId) (A : Nat → Prop) (α : AD) (σ : SG) (k wh : Int32) (bb : Nat) (hbb : bb < 2 ^ 31) (hE : okE σ bb) : Met l yX4_event wsX4_event ({ frames := 1, cells := 0, slots := 0, locals := 21 } : Room) (va_Pc [.ref (α 0 0), .int k, .int wh] (PB D cy A α (CC cy σ α))) (vp_Si (fun r => r = F_event σ k wh)) 0 0 (fun _ => False) := by
  refine Met.ofW (cc := cX4_event) (maxL := 3) (ret := (some .int)) (by decide) rfl ?_
  intro p e s m args below meth c s₁ B hml hv
  obtain ⟨rfl, hP, hK⟩ := hv
  have hx := B.exec
  have hb := B.bytes
  have hr := B.returns
  have hts := atoms_spec (ws := wsX4_event) B.pre
  have hown : s.vm.findClass RX4 = some m.cls := findClass_of_methodNamed B.named
  have hlocks := B.notSynchronized
  have hiX4 : ∀ w ∈ wsX40, w ∈ wsX4_event := by decide +kernel
  have hl := lv_entry ([.ref (α 0 0), .int k, .int wh]) (n := 3) (Nat.le_of_ble_eq_true rfl)
  rw [lg_entry_eq]
  generalize (lg_sl ([.ref (α 0 0), .int k, .int wh]) ++ List.replicate (3 - (lg_sl ([.ref (α 0 0), .int k, .int wh])).length) Slot.unset).toArray = ls at hl ⊢
  have hl : lv_has ls 3 [(0, .ref (α 0 0)), (1, .int k), (2, .int wh)] := hl
  obtain ⟨n, hnb, h29, h310, h311, h312⟩ := hE
  rcases sw3 wh with hw | hw | hw | hw
  · have hl : lv_has ls 3 [(0, .ref (α 0 0)), (1, .int k), (2, .int 0)] := by rw [hw] at hl; exact hl
    have hw9 := hw
    refine lv_iload_n hx hb dX4_event_0 rfl (lv_at hl 2 rfl) ?_
    refine lv_tableIn (tgt := 28) hx hb dX4_event_1 (by decide) (by decide) rfl (by decide) ?_
    refine lv_aload_n hx hb dX4_event_28 rfl (lv_at hl 0 rfl) ?_
    refine pw_get (ref := "TripPanel") (C := RX4) (T := TX4) (N := 11) (ci := 4) (fs := (fsP σ α)) (v := .ref (α 4 0)) hx hb hts hiX4 hown hK hP cc_0 rfl 3 (by decide) (by decide +kernel) rfl rfl dX4_event_29 ?_
    refine lv_iload_n hx hb dX4_event_32 rfl (lv_at hl 1 rfl) ?_
    refine vp_callSi (W.runV (As := [.int k]) (rest := []) ⟨hx, hb, hml, hown, hts⟩ (c_X2_at l D cy A α (CC cy σ α) 4 0 7 0 20 (σ 22) (σ 31 0) (by decide) (by decide) (by decide) cc_4 cc_7 k) (cwV 1 hts gX4_event_X2_at rfl rfl rfl (by decide +kernel) ⟨Nat.le_of_ble_eq_true rfl, Nat.le_of_ble_eq_true rfl⟩) ⟨pb_blind, pw_recv hP hK cc_4 rfl, pb_pre hP hK⟩ rfl rfl hl.1 rfl (lv_room (Nat.le_of_ble_eq_true rfl)) dX4_event_33 ⟨Nat.le_of_ble_eq_true rfl, Nat.le_of_ble_eq_true rfl⟩) (fun r hw => ?_)
    rw [ev_eq (σ := σ) (n := n) (by omega) h29 h310] at hw
    subst hw
    exact W.iret (v := (if k < 0 ∨ 20 ≤ k ∨ σ 29 0 ≤ k then -1 else σ 22 (cN k))) hx hb hr (fun t ht hW => ⟨_, rfl, (by rw [ev_in (Or.inl hw9), hw9]; rfl), ht⟩) (fun q hq => absurd hq List.not_mem_nil) dX4_event_36
  · have hl : lv_has ls 3 [(0, .ref (α 0 0)), (1, .int k), (2, .int 1)] := by rw [hw] at hl; exact hl
    have hw9 := hw
    refine lv_iload_n hx hb dX4_event_0 rfl (lv_at hl 2 rfl) ?_
    refine lv_tableIn (tgt := 37) hx hb dX4_event_1 (by decide) (by decide) rfl (by decide) ?_
    refine lv_aload_n hx hb dX4_event_37 rfl (lv_at hl 0 rfl) ?_
    refine pw_get (ref := "TripPanel") (C := RX4) (T := TX4) (N := 11) (ci := 4) (fs := (fsP σ α)) (v := .ref (α 5 0)) hx hb hts hiX4 hown hK hP cc_0 rfl 4 (by decide) (by decide +kernel) rfl rfl dX4_event_38 ?_
    refine lv_iload_n hx hb dX4_event_41 rfl (lv_at hl 1 rfl) ?_
    refine vp_callSi (W.runV (As := [.int k]) (rest := []) ⟨hx, hb, hml, hown, hts⟩ (c_X2_at l D cy A α (CC cy σ α) 5 0 8 0 20 (σ 23) (σ 31 1) (by decide) (by decide) (by decide) cc_5 cc_8 k) (cwV 1 hts gX4_event_X2_at rfl rfl rfl (by decide +kernel) ⟨Nat.le_of_ble_eq_true rfl, Nat.le_of_ble_eq_true rfl⟩) ⟨pb_blind, pw_recv hP hK cc_5 rfl, pb_pre hP hK⟩ rfl rfl hl.1 rfl (lv_room (Nat.le_of_ble_eq_true rfl)) dX4_event_42 ⟨Nat.le_of_ble_eq_true rfl, Nat.le_of_ble_eq_true rfl⟩) (fun r hw => ?_)
    rw [ev_eq (σ := σ) (n := n) (by omega) h29 h311] at hw
    subst hw
    exact W.iret (v := (if k < 0 ∨ 20 ≤ k ∨ σ 29 0 ≤ k then -1 else σ 23 (cN k))) hx hb hr (fun t ht hW => ⟨_, rfl, (by rw [ev_in (Or.inr (Or.inl hw9)), hw9]; rfl), ht⟩) (fun q hq => absurd hq List.not_mem_nil) dX4_event_45
  · have hl : lv_has ls 3 [(0, .ref (α 0 0)), (1, .int k), (2, .int 2)] := by rw [hw] at hl; exact hl
    have hw9 := hw
    refine lv_iload_n hx hb dX4_event_0 rfl (lv_at hl 2 rfl) ?_
    refine lv_tableIn (tgt := 46) hx hb dX4_event_1 (by decide) (by decide) rfl (by decide) ?_
    refine lv_aload_n hx hb dX4_event_46 rfl (lv_at hl 0 rfl) ?_
    refine pw_get (ref := "TripPanel") (C := RX4) (T := TX4) (N := 11) (ci := 4) (fs := (fsP σ α)) (v := .ref (α 6 0)) hx hb hts hiX4 hown hK hP cc_0 rfl 5 (by decide) (by decide +kernel) rfl rfl dX4_event_47 ?_
    refine lv_iload_n hx hb dX4_event_50 rfl (lv_at hl 1 rfl) ?_
    refine vp_callSi (W.runV (As := [.int k]) (rest := []) ⟨hx, hb, hml, hown, hts⟩ (c_X2_at l D cy A α (CC cy σ α) 6 0 9 0 20 (σ 24) (σ 31 2) (by decide) (by decide) (by decide) cc_6 cc_9 k) (cwV 1 hts gX4_event_X2_at rfl rfl rfl (by decide +kernel) ⟨Nat.le_of_ble_eq_true rfl, Nat.le_of_ble_eq_true rfl⟩) ⟨pb_blind, pw_recv hP hK cc_6 rfl, pb_pre hP hK⟩ rfl rfl hl.1 rfl (lv_room (Nat.le_of_ble_eq_true rfl)) dX4_event_51 ⟨Nat.le_of_ble_eq_true rfl, Nat.le_of_ble_eq_true rfl⟩) (fun r hw => ?_)
    rw [ev_eq (σ := σ) (n := n) (by omega) h29 h312] at hw
    subst hw
    exact W.iret (v := (if k < 0 ∨ 20 ≤ k ∨ σ 29 0 ≤ k then -1 else σ 24 (cN k))) hx hb hr (fun t ht hW => ⟨_, rfl, (by rw [ev_in (Or.inr (Or.inr hw9)), hw9]; rfl), ht⟩) (fun q hq => absurd hq List.not_mem_nil) dX4_event_54
  · have hw9 := hw
    refine lv_iload_n hx hb dX4_event_0 rfl (lv_at hl 2 rfl) ?_
    refine lv_tableOut (tgt := 55) hx hb dX4_event_1 hw (by decide) ?_
    refine lv_iconst (v := (-1)) hx hb dX4_event_55 (by decide) ?_
    exact W.iret (v := (-1)) hx hb hr (fun t ht hW => ⟨_, rfl, (by rw [ev_out hw9]), ht⟩) (fun q hq => absurd hq List.not_mem_nil) dX4_event_56
