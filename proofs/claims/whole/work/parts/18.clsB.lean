theorem mk6_row (σ : SG) (j : Nat) (n : Int32) {r : Nat} (h : r ≠ 6) : mk6 σ j n r = σ r := by
  unfold mk6; split
  · exact st_ne h
  · rfl
theorem mk7_row (σ : SG) (j : Nat) (n : Int32) {r : Nat} (h : r ≠ 7) : mk7 σ j n r = σ r := by
  unfold mk7; split
  · exact st_ne h
  · rfl
theorem tookG_row (σ : SG) (j : Nat) (n h : Int32) {r : Nat} (h2 : r ≠ 2) (h6 : r ≠ 6) (h7 : r ≠ 7) : tookG σ j n h r = σ r := by
  unfold tookG; split
  · exact st_ne h2
  · split
    · rfl
    · rw [mk7_row _ _ _ h7, mk6_row _ _ _ h6, st_ne h2]
theorem noted_rowed {σ : SG} {g : Nat} (h : ∃ n, n ≤ 12 ∧ σ 10 g = nI n) : noted σ g = rowed σ g (σ 2 g) := by
  unfold noted rowed
  by_cases hc : σ 10 g < 12
  · rw [if_pos hc, if_pos hc]
  · rw [if_neg hc, if_neg hc]
    obtain ⟨n, hn, e⟩ := h
    have : n = 12 := by
      rw [e] at hc
      have := (nI_leI (by omega) (by omega)).mp (Int32.not_lt.mp (show ¬ nI n < nI 12 from hc))
      omega
    rw [e, this]; rfl
theorem cc_empty {cy : Nat → ClassId} {σ : SG} {α : AD} {g : Nat} (hg : g < 16) (hm : σ 0 g ≠ 0) : LW (CC cy σ α) cy α 11 g 12 g 12 (r12 σ g) 0 = CC cy (st σ 10 g 0) α := by
  unfold LW
  rw [pw_same (cc_12 hg hm)]
  funext a b
  by_cases h1 : a = 11 ∧ b = g
  · obtain ⟨rfl, rfl⟩ := h1
    rw [pw_up_self]
    simp [CC, st, sr, upd, hg, hm]
  · rw [pw_up_ne h1]
    have hne1 : a = 11 → b ≠ g := fun h q => h1 ⟨h, q⟩
    match a, hne1 with
    | 0, _ => rfl
    | 1, _ => rfl
    | 2, _ => rfl
    | 3, _ => rfl
    | 4, _ => rfl
    | 5, _ => rfl
    | 6, _ => rfl
    | 7, _ => rfl
    | 8, _ => rfl
    | 9, _ => rfl
    | 10, _ => rfl
    | 11, hne1 => simp [CC, st, sr, upd, hne1 rfl]
    | 12, _ => rfl
    | 13, _ => rfl
    | 14, _ => rfl
    | 15, _ => rfl
    | n + 16, _ => rfl
theorem cond_facts {σ : SG} {c : Nat} (h : okC σ c) : cA σ c < 16 ∧ σ 0 (cA σ c) ≠ 0 ∧ cB σ c < 16 ∧ σ 0 (cB σ c) ≠ 0 ∧ isRel (σ 13 c) ∧ (σ 12 c = 0 ∨ σ 12 c = 1) ∧ ((cLv σ c = gp ∧ ¬ σ 15 c = -1) ∨ (¬ cLv σ c = gp ∧ σ 15 c = -1 ∧ cLv σ c = σ 16 c)) := by
  obtain ⟨⟨a, ha, hfa, hma⟩, hrel, htu, hsec⟩ := h
  have eA : cA σ c = a := cN_of hfa (by omega)
  rcases hsec with ⟨h1, hn⟩ | ⟨b, hb, hsb, hmb⟩
  · have eB : cB σ c = a := by unfold cB; rw [if_pos h1]; exact cN_of hfa (by omega)
    have eL : cLv σ c = σ 16 c := if_pos h1
    rw [eA, eB]
    exact ⟨ha, hma, ha, hma, hrel, htu, Or.inr ⟨by rw [eL]; exact num_gp hn, h1, eL⟩⟩
  · have h1 : ¬ σ 15 c = -1 := by
      rw [hsb]; intro q
      have h2 := nI_pos (n := b) (by omega)
      rw [q] at h2
      exact h2 (by decide)
    have eB : cB σ c = b := by unfold cB; rw [if_neg h1]; exact cN_of hsb (by omega)
    have eL : cLv σ c = gp := if_neg h1
    rw [eA, eB]
    exact ⟨ha, hma, hb, hmb, hrel, htu, Or.inl ⟨eL, h1⟩⟩

set_option maxHeartbeats 4000000 in
set_option maxRecDepth 100000 in
theorem c_X1_relates (l : Launch) (D : va_G) (cy : Nat → ClassId) (A : Nat → Prop) (α : AD) (σ : SG) (g : Nat) (hg : g < 16) (hm : σ 0 g ≠ 0) (i : Nat) (hi : i < 16) (hmi : σ 0 i ≠ 0) (n rel m2 : Int32) (hrel : isRel rel) : Met l yX1_relates wsX1_relates ({ frames := 1, cells := 0, slots := 0, locals := 24 } : Room) (va_Pc [.ref (α 10 g), .int n, .int rel, .ref (α 10 i), .int m2] (PB D cy A α (CC cy σ α))) (vp_Si (fun r => bq r (rd (σ 1 g) n rel (σ 1 i) m2 = true))) 0 0 (fun _ => False) := by
  refine Met.ofW (cc := cX1_relates) (maxL := 5) (ret := (some .boolean)) (by decide) rfl ?_
  intro p e s m args below meth c s₁ B hml hv
  obtain ⟨rfl, hP, hK⟩ := hv
  have hx := B.exec
  have hb := B.bytes
  have hr := B.returns
  have hts := atoms_spec (ws := wsX1_relates) B.pre
  have hown : s.vm.findClass RX1 = some m.cls := findClass_of_methodNamed B.named
  have hlocks := B.notSynchronized
  have hiX1 : ∀ w ∈ wsX10, w ∈ wsX1_relates := by decide +kernel
  have hl := lv_entry ([.ref (α 10 g), .int n, .int rel, .ref (α 10 i), .int m2]) (n := 5) (Nat.le_of_ble_eq_true rfl)
  rw [lg_entry_eq]
  generalize (lg_sl ([.ref (α 10 g), .int n, .int rel, .ref (α 10 i), .int m2]) ++ List.replicate (5 - (lg_sl ([.ref (α 10 g), .int n, .int rel, .ref (α 10 i), .int m2])).length) Slot.unset).toArray = ls at hl ⊢
  have hl : lv_has ls 5 [(0, .ref (α 10 g)), (1, .int n), (2, .int rel), (3, .ref (α 10 i)), (4, .int m2)] := hl
  refine lv_iload_n hx hb dX1_relates_0 rfl (lv_at hl 1 rfl) ?_
  refine lv_ldc hx hb hown (hts (.constant RX1 20 (2000000000)) (by decide +kernel)) dX1_relates_1 ?_
  refine lv_icmp_eq (x := n) (y := 2000000000) (tgt := 13) hx hb dX1_relates_3 (by decide) (fun c3 => ?_) (fun c3 => ?_)
  · refine lv_iload_n hx hb dX1_relates_13 rfl (lv_at hl 2 rfl) ?_
    refine lv_iconst (v := 5) hx hb dX1_relates_14 (by decide) ?_
    refine lv_icmp_ne (x := rel) (y := 5) (tgt := 22) hx hb dX1_relates_15 (by decide) (fun c15 => ?_) (fun c15 => ?_)
    · refine lv_iconst (v := 0) hx hb dX1_relates_22 (by decide) ?_
      exact W.zret (v := 0) hx hb hr rfl (fun t ht hW => ⟨_, rfl, bq_f (by rw [rd_gap (Or.inl c3)]; simpa using c15), ht⟩) (fun q hq => absurd hq List.not_mem_nil) dX1_relates_23
    · refine lv_iconst (v := 1) hx hb dX1_relates_18 (by decide) ?_
      refine lv_goto (tgt := 23) hx hb dX1_relates_19 (by decide) ?_
      exact W.zret (v := 1) hx hb hr rfl (fun t ht hW => ⟨_, rfl, bq_t (by rw [rd_gap (Or.inl c3)]; exact decide_eq_true c15), ht⟩) (fun q hq => absurd hq List.not_mem_nil) dX1_relates_23
  · refine lv_iload hx hb dX1_relates_6 (lv_at hl 4 rfl) ?_
    refine lv_ldc hx hb hown (hts (.constant RX1 20 (2000000000)) (by decide +kernel)) dX1_relates_8 ?_
    refine lv_icmp_ne (x := m2) (y := 2000000000) (tgt := 24) hx hb dX1_relates_10 (by decide) (fun c10 => ?_) (fun c10 => ?_)
    · refine lv_aload_n hx hb dX1_relates_24 rfl (lv_at hl 0 rfl) ?_
      refine lv_iload_n hx hb dX1_relates_25 rfl (lv_at hl 1 rfl) ?_
      refine vp_callSd (W.runV (As := [.int n]) (rest := []) ⟨hx, hb, hml, hown, hts⟩ (c_X1_valueOf l D cy A α σ g hg hm n) (cwV 1 hts gX1_relates_X1_valueOf rfl rfl rfl (by decide +kernel) ⟨Nat.le_of_ble_eq_true rfl, Nat.le_of_ble_eq_true rfl⟩) ⟨pb_blind, pw_recv hP hK (cc_10 hg hm) rfl, pb_pre hP hK⟩ rfl rfl hl.1 rfl (lv_room (Nat.le_of_ble_eq_true rfl)) dX1_relates_26 ⟨Nat.le_of_ble_eq_true rfl, Nat.le_of_ble_eq_true rfl⟩) (fun r hw => ?_)
      subst hw
      refine lv_iload_n hx hb dX1_relates_29 rfl (lv_at hl 2 rfl) ?_
      refine lv_aload_n hx hb dX1_relates_30 rfl (lv_at hl 3 rfl) ?_
      refine lv_iload hx hb dX1_relates_31 (lv_at hl 4 rfl) ?_
      refine vp_callSd (W.runV (As := [.int m2]) (rest := [.int rel, .double (vl (σ 1 g) n)]) ⟨hx, hb, hml, hown, hts⟩ (c_X1_valueOf l D cy A α σ i hi hmi m2) (cwV 1 hts gX1_relates_X1_valueOf rfl rfl rfl (by decide +kernel) ⟨Nat.le_of_ble_eq_true rfl, Nat.le_of_ble_eq_true rfl⟩) ⟨pb_blind, pw_recv hP hK (cc_10 hi hmi) rfl, pb_pre hP hK⟩ rfl rfl hl.1 rfl (lv_room (Nat.le_of_ble_eq_true rfl)) dX1_relates_33 ⟨Nat.le_of_ble_eq_true rfl, Nat.le_of_ble_eq_true rfl⟩) (fun r hw => ?_)
      subst hw
      refine vp_callSi (W.runS (As := [.double (vl (σ 1 g) n), .int rel, .double (vl (σ 1 i) m2)]) (rest := []) ⟨hx, hb, hml, hown, hts⟩ (c_X1_compares l (vl (σ 1 g) n) rel (vl (σ 1 i) m2) hrel) (va_cwS 3 hts gX1_relates_X1_compares rfl rfl rfl (by decide +kernel) ⟨Nat.le_of_ble_eq_true rfl, Nat.le_of_ble_eq_true rfl⟩) ⟨pt_blind, pt_pre⟩ rfl rfl hl.1 rfl (lv_room (Nat.le_of_ble_eq_true rfl)) dX1_relates_36 ⟨Nat.le_of_ble_eq_true rfl, Nat.le_of_ble_eq_true rfl⟩) (fun r hw => ?_)
      rcases hw with ⟨rfl, h1⟩ | ⟨rfl, h1⟩
      · exact W.zret (v := 1) hx hb hr rfl (fun t ht hW => ⟨_, rfl, bq_t (by rw [rd_val c3 c10]; exact h1), ht⟩) (fun q hq => absurd hq List.not_mem_nil) dX1_relates_39
      · exact W.zret (v := 0) hx hb hr rfl (fun t ht hW => ⟨_, rfl, bq_f (by rw [rd_val c3 c10]; exact h1), ht⟩) (fun q hq => absurd hq List.not_mem_nil) dX1_relates_39
    · refine lv_iload_n hx hb dX1_relates_13 rfl (lv_at hl 2 rfl) ?_
      refine lv_iconst (v := 5) hx hb dX1_relates_14 (by decide) ?_
      refine lv_icmp_ne (x := rel) (y := 5) (tgt := 22) hx hb dX1_relates_15 (by decide) (fun c15 => ?_) (fun c15 => ?_)
      · refine lv_iconst (v := 0) hx hb dX1_relates_22 (by decide) ?_
        exact W.zret (v := 0) hx hb hr rfl (fun t ht hW => ⟨_, rfl, bq_f (by rw [rd_gap (Or.inr c10)]; simpa using c15), ht⟩) (fun q hq => absurd hq List.not_mem_nil) dX1_relates_23
      · refine lv_iconst (v := 1) hx hb dX1_relates_18 (by decide) ?_
        refine lv_goto (tgt := 23) hx hb dX1_relates_19 (by decide) ?_
        exact W.zret (v := 1) hx hb hr rfl (fun t ht hW => ⟨_, rfl, bq_t (by rw [rd_gap (Or.inr c10)]; exact decide_eq_true c15), ht⟩) (fun q hq => absurd hq List.not_mem_nil) dX1_relates_23

set_option maxHeartbeats 4000000 in
set_option maxRecDepth 100000 in
theorem c_X1_isCut (l : Launch) (D : va_G) (cy : Nat → ClassId) (A : Nat → Prop) (α : AD) (σ : SG) (g : Nat) (hg : g < 16) (hm : σ 0 g ≠ 0) (n : Int32) : Met l yX1_isCut wsX1_isCut ({ frames := 2, cells := 0, slots := 0, locals := 48 } : Room) (va_Pc [.ref (α 10 g), .int n] (PB D cy A α (CC cy σ α))) (vp_Si (fun r => bq r (cutB σ g n = true))) 0 0 (fun _ => False) := by
  refine Met.ofW (cc := cX1_isCut) (maxL := 2) (ret := (some .boolean)) (by decide) rfl ?_
  intro p e s m args below meth c s₁ B hml hv
  obtain ⟨rfl, hP, hK⟩ := hv
  have hx := B.exec
  have hb := B.bytes
  have hr := B.returns
  have hts := atoms_spec (ws := wsX1_isCut) B.pre
  have hown : s.vm.findClass RX1 = some m.cls := findClass_of_methodNamed B.named
  have hlocks := B.notSynchronized
  have hiX1 : ∀ w ∈ wsX10, w ∈ wsX1_isCut := by decide +kernel
  have hl := lv_entry ([.ref (α 10 g), .int n]) (n := 2) (Nat.le_of_ble_eq_true rfl)
  rw [lg_entry_eq]
  generalize (lg_sl ([.ref (α 10 g), .int n]) ++ List.replicate (2 - (lg_sl ([.ref (α 10 g), .int n])).length) Slot.unset).toArray = ls at hl ⊢
  have hl : lv_has ls 2 [(0, .ref (α 10 g)), (1, .int n)] := hl
  refine lv_aload_n hx hb dX1_isCut_0 rfl (lv_at hl 0 rfl) ?_
  refine lv_iload_n hx hb dX1_isCut_1 rfl (lv_at hl 1 rfl) ?_
  refine lv_iconst (v := 0) hx hb dX1_isCut_2 (by decide) ?_
  refine lv_aload_n hx hb dX1_isCut_3 rfl (lv_at hl 0 rfl) ?_
  refine lv_aload_n hx hb dX1_isCut_4 rfl (lv_at hl 0 rfl) ?_
  refine pw_get (ref := "TripPanel$Gauge") (C := RX1) (T := TX1) (N := 9) (ci := 1) (fs := (fsG σ α g)) (v := .int (σ 3 g)) hx hb hts hiX1 hown hK hP (cc_10 hg hm) rfl 3 (by decide) (by decide +kernel) rfl rfl dX1_isCut_5 ?_
  refine vp_callSi (W.runV (As := [.int n, .int 0, .ref (α 10 g), .int (σ 3 g)]) (rest := []) ⟨hx, hb, hml, hown, hts⟩ (c_X1_relates l D cy A α σ g hg hm g hg hm n 0 (σ 3 g) (by decide)) (cwV 4 hts gX1_isCut_X1_relates rfl rfl rfl (by decide +kernel) ⟨Nat.le_of_ble_eq_true rfl, Nat.le_of_ble_eq_true rfl⟩) ⟨pb_blind, pw_recv hP hK (cc_10 hg hm) rfl, pb_pre hP hK⟩ rfl rfl hl.1 rfl (lv_room (Nat.le_of_ble_eq_true rfl)) dX1_isCut_8 ⟨Nat.le_of_ble_eq_true rfl, Nat.le_of_ble_eq_true rfl⟩) (fun r hw => ?_)
  rcases hw with ⟨rfl, h1⟩ | ⟨rfl, h1⟩
  · refine lv_if_ne (x := 1) (tgt := 28) hx hb dX1_isCut_11 (by decide) (fun c11 => ?_) (fun c => absurd c (by decide))
    refine lv_iconst (v := 1) hx hb dX1_isCut_28 (by decide) ?_
    refine lv_goto (tgt := 33) hx hb dX1_isCut_29 (by decide) ?_
    exact W.zret (v := 1) hx hb hr rfl (fun t ht hW => ⟨_, rfl, bq_t (by rw [cutB, h1]; rfl), ht⟩) (fun q hq => absurd hq List.not_mem_nil) dX1_isCut_33
  · refine lv_if_ne (x := 0) (tgt := 28) hx hb dX1_isCut_11 (by decide) (fun c => absurd (by decide) c) (fun c11 => ?_)
    refine lv_aload_n hx hb dX1_isCut_14 rfl (lv_at hl 0 rfl) ?_
    refine lv_iload_n hx hb dX1_isCut_15 rfl (lv_at hl 1 rfl) ?_
    refine lv_iconst (v := 2) hx hb dX1_isCut_16 (by decide) ?_
    refine lv_aload_n hx hb dX1_isCut_17 rfl (lv_at hl 0 rfl) ?_
    refine lv_aload_n hx hb dX1_isCut_18 rfl (lv_at hl 0 rfl) ?_
    refine pw_get (ref := "TripPanel$Gauge") (C := RX1) (T := TX1) (N := 9) (ci := 1) (fs := (fsG σ α g)) (v := .int (σ 4 g)) hx hb hts hiX1 hown hK hP (cc_10 hg hm) rfl 4 (by decide) (by decide +kernel) rfl rfl dX1_isCut_19 ?_
    refine vp_callSi (W.runV (As := [.int n, .int 2, .ref (α 10 g), .int (σ 4 g)]) (rest := []) ⟨hx, hb, hml, hown, hts⟩ (c_X1_relates l D cy A α σ g hg hm g hg hm n 2 (σ 4 g) (by decide)) (cwV 4 hts gX1_isCut_X1_relates rfl rfl rfl (by decide +kernel) ⟨Nat.le_of_ble_eq_true rfl, Nat.le_of_ble_eq_true rfl⟩) ⟨pb_blind, pw_recv hP hK (cc_10 hg hm) rfl, pb_pre hP hK⟩ rfl rfl hl.1 rfl (lv_room (Nat.le_of_ble_eq_true rfl)) dX1_isCut_22 ⟨Nat.le_of_ble_eq_true rfl, Nat.le_of_ble_eq_true rfl⟩) (fun r hw => ?_)
    rcases hw with ⟨rfl, h2⟩ | ⟨rfl, h2⟩
    · refine lv_if_eq (x := 1) (tgt := 32) hx hb dX1_isCut_25 (by decide) (fun c => absurd c (by decide)) (fun c25 => ?_)
      refine lv_iconst (v := 1) hx hb dX1_isCut_28 (by decide) ?_
      refine lv_goto (tgt := 33) hx hb dX1_isCut_29 (by decide) ?_
      exact W.zret (v := 1) hx hb hr rfl (fun t ht hW => ⟨_, rfl, bq_t (by rw [cutB, h2, Bool.or_true]), ht⟩) (fun q hq => absurd hq List.not_mem_nil) dX1_isCut_33
    · refine lv_if_eq (x := 0) (tgt := 32) hx hb dX1_isCut_25 (by decide) (fun c25 => ?_) (fun c => absurd (by decide) c)
      refine lv_iconst (v := 0) hx hb dX1_isCut_32 (by decide) ?_
      exact W.zret (v := 0) hx hb hr rfl (fun t ht hW => ⟨_, rfl, bq_f (by rw [cutB, Bool.eq_false_iff.mpr h1, Bool.eq_false_iff.mpr h2]; decide), ht⟩) (fun q hq => absurd hq List.not_mem_nil) dX1_isCut_33

set_option maxHeartbeats 4000000 in
set_option maxRecDepth 100000 in
theorem c_X1_distance (l : Launch) (D : va_G) (cy : Nat → ClassId) (A : Nat → Prop) (α : AD) (σ : SG) (g : Nat) (hg : g < 16) (hm : σ 0 g ≠ 0) (a b : Int32) : Met l yX1_distance wsX1_distance ({ frames := 0, cells := 0, slots := 0, locals := 0 } : Room) (va_Pc [.ref (α 10 g), .double (vl (σ 1 g) a), .double (vl (σ 1 g) b)] (PB D cy A α (CC cy σ α))) (vp_Sd (fun r => r = dst (σ 1 g) a b)) 0 0 (fun _ => False) := by
  refine Met.ofW (cc := cX1_distance) (maxL := 9) (ret := (some .double)) (by decide) rfl ?_
  intro p e s m args below meth c s₁ B hml hv
  obtain ⟨rfl, hP, hK⟩ := hv
  have hx := B.exec
  have hb := B.bytes
  have hr := B.returns
  have hts := atoms_spec (ws := wsX1_distance) B.pre
  have hown : s.vm.findClass RX1 = some m.cls := findClass_of_methodNamed B.named
  have hlocks := B.notSynchronized
  have hiX1 : ∀ w ∈ wsX10, w ∈ wsX1_distance := by decide +kernel
  have hl := lv_entry ([.ref (α 10 g), .double (vl (σ 1 g) a), .double (vl (σ 1 g) b)]) (n := 9) (Nat.le_of_ble_eq_true rfl)
  rw [lg_entry_eq]
  generalize (lg_sl ([.ref (α 10 g), .double (vl (σ 1 g) a), .double (vl (σ 1 g) b)]) ++ List.replicate (9 - (lg_sl ([.ref (α 10 g), .double (vl (σ 1 g) a), .double (vl (σ 1 g) b)])).length) Slot.unset).toArray = ls at hl ⊢
  have hl : lv_has ls 9 [(0, .ref (α 10 g)), (1, .double (vl (σ 1 g) a)), (3, .double (vl (σ 1 g) b))] := hl
  refine lv_dload_n hx hb dX1_distance_0 rfl (lv_at hl 1 rfl) ?_
  refine lv_dload_n hx hb dX1_distance_1 rfl (lv_at hl 2 rfl) ?_
  refine lv_dcmp hx hb dX1_distance_2 ?_
  refine lv_if_lt (x := (Op.cmpValue (FP.dcmp (vl (σ 1 g) a) (vl (σ 1 g) b)) CmpOp.l)) (tgt := 10) hx hb dX1_distance_3 (by decide) (fun c3 => ?_) (fun c3 => ?_)
  · rw [cvl_lt] at c3
    refine lv_dload_n hx hb dX1_distance_10 rfl (lv_at hl 2 rfl) ?_
    refine lv_dstore (lv' := [(5, .double (vl (σ 1 g) b)), (0, .ref (α 10 g)), (1, .double (vl (σ 1 g) a)), (3, .double (vl (σ 1 g) b))]) hx hb dX1_distance_11 hl (by decide) rfl (fun ls hl => ?_)
    refine lv_dload_n hx hb dX1_distance_13 rfl (lv_at hl 2 rfl) ?_
    refine lv_dload_n hx hb dX1_distance_14 rfl (lv_at hl 3 rfl) ?_
    refine lv_dcmp hx hb dX1_distance_15 ?_
    refine lv_if_lt (x := (Op.cmpValue (FP.dcmp (vl (σ 1 g) a) (vl (σ 1 g) b)) CmpOp.l)) (tgt := 23) hx hb dX1_distance_16 (by decide) (fun c16 => ?_) (fun c => absurd ((cvl_lt _).mpr c3) c)
    rw [cvl_lt] at c16
    refine lv_dload_n hx hb dX1_distance_23 rfl (lv_at hl 2 rfl) ?_
    refine lv_dstore (lv' := [(7, .double (vl (σ 1 g) a)), (5, .double (vl (σ 1 g) b)), (0, .ref (α 10 g)), (1, .double (vl (σ 1 g) a)), (3, .double (vl (σ 1 g) b))]) hx hb dX1_distance_24 hl (by decide) rfl (fun ls hl => ?_)
    refine lv_aload_n hx hb dX1_distance_26 rfl (lv_at hl 2 rfl) ?_
    refine pw_get (ref := "TripPanel$Gauge") (C := RX1) (T := TX1) (N := 9) (ci := 1) (fs := (fsG σ α g)) (v := .int (σ 1 g)) hx hb hts hiX1 hown hK hP (cc_10 hg hm) rfl 0 (by decide) (by decide +kernel) rfl rfl dX1_distance_27 ?_
    refine lv_if_eq (x := (σ 1 g)) (tgt := 42) hx hb dX1_distance_30 (by decide) (fun c30 => ?_) (fun c30 => ?_)
    · refine lv_dload hx hb dX1_distance_42 (lv_at hl 1 rfl) ?_
      refine lv_dload hx hb dX1_distance_44 (lv_at hl 0 rfl) ?_
      refine lv_dsub hx hb dX1_distance_46 (n64_of (ds_nn (vl_fin _ _) (vl_fin _ _))) ?_
      exact W.dret (v := (FP.dsub (vl (σ 1 g) b) (vl (σ 1 g) a))) hx hb hr (fun t ht hW => ⟨_, rfl, (by rw [dst, if_neg c3, if_pos c30]), ht⟩) (fun q hq => absurd hq List.not_mem_nil) dX1_distance_47
    · refine lv_dload hx hb dX1_distance_33 (lv_at hl 1 rfl) ?_
      refine lv_d2f hx hb dX1_distance_35 (by rw [d2f_vl c30]; exact n32_of (sl_fin _).ne_nan) ?_
      rw [d2f_vl c30]
      refine lv_dload hx hb dX1_distance_36 (lv_at hl 0 rfl) ?_
      refine lv_d2f hx hb dX1_distance_38 (by rw [d2f_vl c30]; exact n32_of (sl_fin _).ne_nan) ?_
      rw [d2f_vl c30]
      refine lv_fsub hx hb dX1_distance_39 (n32_of (fs_nn (sl_fin _) (sl_fin _))) ?_
      refine lv_f2d hx hb dX1_distance_40 (n64_of (f2d_nn (fs_nn (sl_fin _) (sl_fin _)))) ?_
      exact W.dret (v := (FP.f2d (FP.fsub (sl b) (sl a)))) hx hb hr (fun t ht hW => ⟨_, rfl, (by rw [dst, if_neg c3, if_neg c30]), ht⟩) (fun q hq => absurd hq List.not_mem_nil) dX1_distance_41
  · rw [cvl_lt] at c3
    refine lv_dload_n hx hb dX1_distance_6 rfl (lv_at hl 1 rfl) ?_
    refine lv_goto (tgt := 11) hx hb dX1_distance_7 (by decide) ?_
    refine lv_dstore (lv' := [(5, .double (vl (σ 1 g) a)), (0, .ref (α 10 g)), (1, .double (vl (σ 1 g) a)), (3, .double (vl (σ 1 g) b))]) hx hb dX1_distance_11 hl (by decide) rfl (fun ls hl => ?_)
    refine lv_dload_n hx hb dX1_distance_13 rfl (lv_at hl 2 rfl) ?_
    refine lv_dload_n hx hb dX1_distance_14 rfl (lv_at hl 3 rfl) ?_
    refine lv_dcmp hx hb dX1_distance_15 ?_
    refine lv_if_lt (x := (Op.cmpValue (FP.dcmp (vl (σ 1 g) a) (vl (σ 1 g) b)) CmpOp.l)) (tgt := 23) hx hb dX1_distance_16 (by decide) (fun c => absurd c (mt (cvl_lt _).mp c3)) (fun c16 => ?_)
    rw [cvl_lt] at c16
    refine lv_dload_n hx hb dX1_distance_19 rfl (lv_at hl 3 rfl) ?_
    refine lv_goto (tgt := 24) hx hb dX1_distance_20 (by decide) ?_
    refine lv_dstore (lv' := [(7, .double (vl (σ 1 g) b)), (5, .double (vl (σ 1 g) a)), (0, .ref (α 10 g)), (1, .double (vl (σ 1 g) a)), (3, .double (vl (σ 1 g) b))]) hx hb dX1_distance_24 hl (by decide) rfl (fun ls hl => ?_)
    refine lv_aload_n hx hb dX1_distance_26 rfl (lv_at hl 2 rfl) ?_
    refine pw_get (ref := "TripPanel$Gauge") (C := RX1) (T := TX1) (N := 9) (ci := 1) (fs := (fsG σ α g)) (v := .int (σ 1 g)) hx hb hts hiX1 hown hK hP (cc_10 hg hm) rfl 0 (by decide) (by decide +kernel) rfl rfl dX1_distance_27 ?_
    refine lv_if_eq (x := (σ 1 g)) (tgt := 42) hx hb dX1_distance_30 (by decide) (fun c30 => ?_) (fun c30 => ?_)
    · refine lv_dload hx hb dX1_distance_42 (lv_at hl 1 rfl) ?_
      refine lv_dload hx hb dX1_distance_44 (lv_at hl 0 rfl) ?_
      refine lv_dsub hx hb dX1_distance_46 (n64_of (ds_nn (vl_fin _ _) (vl_fin _ _))) ?_
      exact W.dret (v := (FP.dsub (vl (σ 1 g) a) (vl (σ 1 g) b))) hx hb hr (fun t ht hW => ⟨_, rfl, (by rw [dst, if_pos (Classical.not_not.mp c3), if_pos c30]), ht⟩) (fun q hq => absurd hq List.not_mem_nil) dX1_distance_47
    · refine lv_dload hx hb dX1_distance_33 (lv_at hl 1 rfl) ?_
      refine lv_d2f hx hb dX1_distance_35 (by rw [d2f_vl c30]; exact n32_of (sl_fin _).ne_nan) ?_
      rw [d2f_vl c30]
      refine lv_dload hx hb dX1_distance_36 (lv_at hl 0 rfl) ?_
      refine lv_d2f hx hb dX1_distance_38 (by rw [d2f_vl c30]; exact n32_of (sl_fin _).ne_nan) ?_
      rw [d2f_vl c30]
      refine lv_fsub hx hb dX1_distance_39 (n32_of (fs_nn (sl_fin _) (sl_fin _))) ?_
      refine lv_f2d hx hb dX1_distance_40 (n64_of (f2d_nn (fs_nn (sl_fin _) (sl_fin _)))) ?_
      exact W.dret (v := (FP.f2d (FP.fsub (sl a) (sl b)))) hx hb hr (fun t ht hW => ⟨_, rfl, (by rw [dst, if_pos (Classical.not_not.mp c3), if_neg c30]), ht⟩) (fun q hq => absurd hq List.not_mem_nil) dX1_distance_41

set_option maxHeartbeats 4000000 in
set_option maxRecDepth 100000 in
theorem c_X1_isWithinBand (l : Launch) (D : va_G) (cy : Nat → ClassId) (A : Nat → Prop) (α : AD) (σ : SG) (g : Nat) (hg : g < 16) (hm : σ 0 g ≠ 0) (n : Int32) : Met l yX1_isWithinBand wsX1_isWithinBand ({ frames := 1, cells := 0, slots := 0, locals := 28 } : Room) (va_Pc [.ref (α 10 g), .int n] (PB D cy A α (CC cy σ α))) (vp_Si (fun r => bq r (¬ far (σ 1 g) (σ 5 g) n (σ 2 g) = true))) 0 0 (fun _ => False) := by
  refine Met.ofW (cc := cX1_isWithinBand) (maxL := 2) (ret := (some .boolean)) (by decide) rfl ?_
  intro p e s m args below meth c s₁ B hml hv
  obtain ⟨rfl, hP, hK⟩ := hv
  have hx := B.exec
  have hb := B.bytes
  have hr := B.returns
  have hts := atoms_spec (ws := wsX1_isWithinBand) B.pre
  have hown : s.vm.findClass RX1 = some m.cls := findClass_of_methodNamed B.named
  have hlocks := B.notSynchronized
  have hiX1 : ∀ w ∈ wsX10, w ∈ wsX1_isWithinBand := by decide +kernel
  have hl := lv_entry ([.ref (α 10 g), .int n]) (n := 2) (Nat.le_of_ble_eq_true rfl)
  rw [lg_entry_eq]
  generalize (lg_sl ([.ref (α 10 g), .int n]) ++ List.replicate (2 - (lg_sl ([.ref (α 10 g), .int n])).length) Slot.unset).toArray = ls at hl ⊢
  have hl : lv_has ls 2 [(0, .ref (α 10 g)), (1, .int n)] := hl
  refine lv_aload_n hx hb dX1_isWithinBand_0 rfl (lv_at hl 0 rfl) ?_
  refine lv_aload_n hx hb dX1_isWithinBand_1 rfl (lv_at hl 0 rfl) ?_
  refine lv_iload_n hx hb dX1_isWithinBand_2 rfl (lv_at hl 1 rfl) ?_
  refine vp_callSd (W.runV (As := [.int n]) (rest := [.ref (α 10 g)]) ⟨hx, hb, hml, hown, hts⟩ (c_X1_valueOf l D cy A α σ g hg hm n) (cwV 1 hts gX1_isWithinBand_X1_valueOf rfl rfl rfl (by decide +kernel) ⟨Nat.le_of_ble_eq_true rfl, Nat.le_of_ble_eq_true rfl⟩) ⟨pb_blind, pw_recv hP hK (cc_10 hg hm) rfl, pb_pre hP hK⟩ rfl rfl hl.1 rfl (lv_room (Nat.le_of_ble_eq_true rfl)) dX1_isWithinBand_3 ⟨Nat.le_of_ble_eq_true rfl, Nat.le_of_ble_eq_true rfl⟩) (fun r hw => ?_)
  subst hw
  refine lv_aload_n hx hb dX1_isWithinBand_6 rfl (lv_at hl 0 rfl) ?_
  refine lv_aload_n hx hb dX1_isWithinBand_7 rfl (lv_at hl 0 rfl) ?_
  refine pw_get (ref := "TripPanel$Gauge") (C := RX1) (T := TX1) (N := 9) (ci := 1) (fs := (fsG σ α g)) (v := .int (σ 2 g)) hx hb hts hiX1 hown hK hP (cc_10 hg hm) rfl 2 (by decide) (by decide +kernel) rfl rfl dX1_isWithinBand_8 ?_
  refine vp_callSd (W.runV (As := [.int (σ 2 g)]) (rest := [.double (vl (σ 1 g) n), .ref (α 10 g)]) ⟨hx, hb, hml, hown, hts⟩ (c_X1_valueOf l D cy A α σ g hg hm (σ 2 g)) (cwV 1 hts gX1_isWithinBand_X1_valueOf rfl rfl rfl (by decide +kernel) ⟨Nat.le_of_ble_eq_true rfl, Nat.le_of_ble_eq_true rfl⟩) ⟨pb_blind, pw_recv hP hK (cc_10 hg hm) rfl, pb_pre hP hK⟩ rfl rfl hl.1 rfl (lv_room (Nat.le_of_ble_eq_true rfl)) dX1_isWithinBand_11 ⟨Nat.le_of_ble_eq_true rfl, Nat.le_of_ble_eq_true rfl⟩) (fun r hw => ?_)
  subst hw
  refine vp_callSd (W.runV (As := [.double (vl (σ 1 g) n), .double (vl (σ 1 g) (σ 2 g))]) (rest := []) ⟨hx, hb, hml, hown, hts⟩ (c_X1_distance l D cy A α σ g hg hm n (σ 2 g)) (cwV 2 hts gX1_isWithinBand_X1_distance rfl rfl rfl (by decide +kernel) ⟨Nat.le_of_ble_eq_true rfl, Nat.le_of_ble_eq_true rfl⟩) ⟨pb_blind, pw_recv hP hK (cc_10 hg hm) rfl, pb_pre hP hK⟩ rfl rfl hl.1 rfl (lv_room (Nat.le_of_ble_eq_true rfl)) dX1_isWithinBand_14 ⟨Nat.le_of_ble_eq_true rfl, Nat.le_of_ble_eq_true rfl⟩) (fun r hw => ?_)
  subst hw
  refine lv_aload_n hx hb dX1_isWithinBand_17 rfl (lv_at hl 0 rfl) ?_
  refine lv_aload_n hx hb dX1_isWithinBand_18 rfl (lv_at hl 0 rfl) ?_
  refine pw_get (ref := "TripPanel$Gauge") (C := RX1) (T := TX1) (N := 9) (ci := 1) (fs := (fsG σ α g)) (v := .int (σ 5 g)) hx hb hts hiX1 hown hK hP (cc_10 hg hm) rfl 5 (by decide) (by decide +kernel) rfl rfl dX1_isWithinBand_19 ?_
  refine vp_callSd (W.runV (As := [.int (σ 5 g)]) (rest := [.double (dst (σ 1 g) n (σ 2 g))]) ⟨hx, hb, hml, hown, hts⟩ (c_X1_valueOf l D cy A α σ g hg hm (σ 5 g)) (cwV 1 hts gX1_isWithinBand_X1_valueOf rfl rfl rfl (by decide +kernel) ⟨Nat.le_of_ble_eq_true rfl, Nat.le_of_ble_eq_true rfl⟩) ⟨pb_blind, pw_recv hP hK (cc_10 hg hm) rfl, pb_pre hP hK⟩ rfl rfl hl.1 rfl (lv_room (Nat.le_of_ble_eq_true rfl)) dX1_isWithinBand_22 ⟨Nat.le_of_ble_eq_true rfl, Nat.le_of_ble_eq_true rfl⟩) (fun r hw => ?_)
  subst hw
  refine lv_dcmp hx hb dX1_isWithinBand_25 ?_
  refine lv_if_gt (x := (Op.cmpValue (FP.dcmp (dst (σ 1 g) n (σ 2 g)) (vl (σ 1 g) (σ 5 g))) CmpOp.g)) (tgt := 33) hx hb dX1_isWithinBand_26 (by decide) (fun c26 => ?_) (fun c26 => ?_)
  · rw [cvg_gt] at c26
    refine lv_iconst (v := 0) hx hb dX1_isWithinBand_33 (by decide) ?_
    exact W.zret (v := 0) hx hb hr rfl (fun t ht hW => ⟨_, rfl, bq_f (fun q => c26 ((near_far _ _ _ _).mpr q)), ht⟩) (fun q hq => absurd hq List.not_mem_nil) dX1_isWithinBand_34
  · rw [cvg_gt] at c26
    refine lv_iconst (v := 1) hx hb dX1_isWithinBand_29 (by decide) ?_
    refine lv_goto (tgt := 34) hx hb dX1_isWithinBand_30 (by decide) ?_
    exact W.zret (v := 1) hx hb hr rfl (fun t ht hW => ⟨_, rfl, bq_t ((near_far _ _ _ _).mp (Classical.not_not.mp c26)), ht⟩) (fun q hq => absurd hq List.not_mem_nil) dX1_isWithinBand_34

set_option maxHeartbeats 4000000 in
set_option maxRecDepth 100000 in
theorem c_X1_kindOfTaking (l : Launch) (D : va_G) (cy : Nat → ClassId) (A : Nat → Prop) (α : AD) (σ : SG) (g : Nat) (hg : g < 16) (hm : σ 0 g ≠ 0) (n : Int32) : Met l yX1_kindOfTaking wsX1_kindOfTaking ({ frames := 3, cells := 0, slots := 0, locals := 69 } : Room) (va_Pc [.ref (α 10 g), .int n] (PB D cy A α (CC cy σ α))) (vp_Si (fun r => r = how σ g n)) 0 0 (fun _ => False) := by
  refine Met.ofW (cc := cX1_kindOfTaking) (maxL := 2) (ret := (some .int)) (by decide) rfl ?_
  intro p e s m args below meth c s₁ B hml hv
  obtain ⟨rfl, hP, hK⟩ := hv
  have hx := B.exec
  have hb := B.bytes
  have hr := B.returns
  have hts := atoms_spec (ws := wsX1_kindOfTaking) B.pre
  have hown : s.vm.findClass RX1 = some m.cls := findClass_of_methodNamed B.named
  have hlocks := B.notSynchronized
  have hiX1 : ∀ w ∈ wsX10, w ∈ wsX1_kindOfTaking := by decide +kernel
  have hl := lv_entry ([.ref (α 10 g), .int n]) (n := 2) (Nat.le_of_ble_eq_true rfl)
  rw [lg_entry_eq]
  generalize (lg_sl ([.ref (α 10 g), .int n]) ++ List.replicate (2 - (lg_sl ([.ref (α 10 g), .int n])).length) Slot.unset).toArray = ls at hl ⊢
  have hl : lv_has ls 2 [(0, .ref (α 10 g)), (1, .int n)] := hl
  refine lv_aload_n hx hb dX1_kindOfTaking_0 rfl (lv_at hl 0 rfl) ?_
  refine lv_iload_n hx hb dX1_kindOfTaking_1 rfl (lv_at hl 1 rfl) ?_
  refine vp_callSi (W.runV (As := [.int n]) (rest := []) ⟨hx, hb, hml, hown, hts⟩ (c_X1_isCut l D cy A α σ g hg hm n) (cwV 1 hts gX1_kindOfTaking_X1_isCut rfl rfl rfl (by decide +kernel) ⟨Nat.le_of_ble_eq_true rfl, Nat.le_of_ble_eq_true rfl⟩) ⟨pb_blind, pw_recv hP hK (cc_10 hg hm) rfl, pb_pre hP hK⟩ rfl rfl hl.1 rfl (lv_room (Nat.le_of_ble_eq_true rfl)) dX1_kindOfTaking_2 ⟨Nat.le_of_ble_eq_true rfl, Nat.le_of_ble_eq_true rfl⟩) (fun r hw => ?_)
  rcases hw with ⟨rfl, h1⟩ | ⟨rfl, h1⟩
  · refine lv_if_eq (x := 1) (tgt := 10) hx hb dX1_kindOfTaking_5 (by decide) (fun c => absurd c (by decide)) (fun c5 => ?_)
    refine lv_iconst (v := 0) hx hb dX1_kindOfTaking_8 (by decide) ?_
    exact W.iret (v := 0) hx hb hr (fun t ht hW => ⟨_, rfl, (how_0 h1).symm, ht⟩) (fun q hq => absurd hq List.not_mem_nil) dX1_kindOfTaking_9
  · refine lv_if_eq (x := 0) (tgt := 10) hx hb dX1_kindOfTaking_5 (by decide) (fun c5 => ?_) (fun c => absurd (by decide) c)
    refine lv_aload_n hx hb dX1_kindOfTaking_10 rfl (lv_at hl 0 rfl) ?_
    refine vp_callSi (W.runV (As := []) (rest := []) ⟨hx, hb, hml, hown, hts⟩ (c_X1_hasValue l D cy A α σ g hg hm ) (cwV 0 hts gX1_kindOfTaking_X1_hasValue rfl rfl rfl (by decide +kernel) ⟨Nat.le_of_ble_eq_true rfl, Nat.le_of_ble_eq_true rfl⟩) ⟨pb_blind, pw_recv hP hK (cc_10 hg hm) rfl, pb_pre hP hK⟩ rfl rfl hl.1 rfl (lv_room (Nat.le_of_ble_eq_true rfl)) dX1_kindOfTaking_11 ⟨Nat.le_of_ble_eq_true rfl, Nat.le_of_ble_eq_true rfl⟩) (fun r hw => ?_)
    rcases hw with ⟨rfl, h2⟩ | ⟨rfl, h2⟩
    · refine lv_if_eq (x := 1) (tgt := 29) hx hb dX1_kindOfTaking_14 (by decide) (fun c => absurd c (by decide)) (fun c14 => ?_)
      refine lv_aload_n hx hb dX1_kindOfTaking_17 rfl (lv_at hl 0 rfl) ?_
      refine lv_iload_n hx hb dX1_kindOfTaking_18 rfl (lv_at hl 1 rfl) ?_
      refine vp_callSi (W.runV (As := [.int n]) (rest := []) ⟨hx, hb, hml, hown, hts⟩ (c_X1_isWithinBand l D cy A α σ g hg hm n) (cwV 1 hts gX1_kindOfTaking_X1_isWithinBand rfl rfl rfl (by decide +kernel) ⟨Nat.le_of_ble_eq_true rfl, Nat.le_of_ble_eq_true rfl⟩) ⟨pb_blind, pw_recv hP hK (cc_10 hg hm) rfl, pb_pre hP hK⟩ rfl rfl hl.1 rfl (lv_room (Nat.le_of_ble_eq_true rfl)) dX1_kindOfTaking_19 ⟨Nat.le_of_ble_eq_true rfl, Nat.le_of_ble_eq_true rfl⟩) (fun r hw => ?_)
      rcases hw with ⟨rfl, h3⟩ | ⟨rfl, h3⟩
      · refine lv_if_eq (x := 1) (tgt := 29) hx hb dX1_kindOfTaking_22 (by decide) (fun c => absurd c (by decide)) (fun c22 => ?_)
        refine lv_iconst (v := 1) hx hb dX1_kindOfTaking_25 (by decide) ?_
        refine lv_goto (tgt := 30) hx hb dX1_kindOfTaking_26 (by decide) ?_
        exact W.iret (v := 1) hx hb hr (fun t ht hW => ⟨_, rfl, (how_1 (Bool.eq_false_iff.mpr h1) h2 h3).symm, ht⟩) (fun q hq => absurd hq List.not_mem_nil) dX1_kindOfTaking_30
      · refine lv_if_eq (x := 0) (tgt := 29) hx hb dX1_kindOfTaking_22 (by decide) (fun c22 => ?_) (fun c => absurd (by decide) c)
        refine lv_iconst (v := 2) hx hb dX1_kindOfTaking_29 (by decide) ?_
        exact W.iret (v := 2) hx hb hr (fun t ht hW => ⟨_, rfl, (how_2b (Bool.eq_false_iff.mpr h1) (Classical.not_not.mp h3)).symm, ht⟩) (fun q hq => absurd hq List.not_mem_nil) dX1_kindOfTaking_30
    · refine lv_if_eq (x := 0) (tgt := 29) hx hb dX1_kindOfTaking_14 (by decide) (fun c14 => ?_) (fun c => absurd (by decide) c)
      refine lv_iconst (v := 2) hx hb dX1_kindOfTaking_29 (by decide) ?_
      exact W.iret (v := 2) hx hb hr (fun t ht hW => ⟨_, rfl, (how_2a (Bool.eq_false_iff.mpr h1) (Classical.not_not.mp h2)).symm, ht⟩) (fun q hq => absurd hq List.not_mem_nil) dX1_kindOfTaking_30

set_option maxHeartbeats 4000000 in
set_option maxRecDepth 100000 in
theorem c_X1_putMarks (l : Launch) (D : va_G) (cy : Nat → ClassId) (A : Nat → Prop) (α : AD) (σ : SG) (g : Nat) (hg : g < 16) (hm : σ 0 g ≠ 0) (n : Int32) (hn : n ≠ gp) : Met l yX1_putMarks wsX1_putMarks ({ frames := 2, cells := 0, slots := 0, locals := 48 } : Room) (va_Pc [.ref (α 10 g), .int n] (PB D cy A α (CC cy σ α))) (va_Qv (fun (u : Unit) => True) (fun u t => PW D A α (CC cy (mk7 (mk6 σ g n) g n) α) t.heap) A) 0 0 A := by
  refine Met.ofW (cc := cX1_putMarks) (maxL := 2) (ret := none) (by decide) rfl ?_
  intro p e s m args below meth c s₁ B hml hv
  obtain ⟨rfl, hP, hK⟩ := hv
  have hx := B.exec
  have hb := B.bytes
  have hr := B.returns
  have hts := atoms_spec (ws := wsX1_putMarks) B.pre
  have hown : s.vm.findClass RX1 = some m.cls := findClass_of_methodNamed B.named
  have hlocks := B.notSynchronized
  have hiX1 : ∀ w ∈ wsX10, w ∈ wsX1_putMarks := by decide +kernel
  have hS : va_S A s.heap s.heap [] := va_S.rf
  have hl := lv_entry ([.ref (α 10 g), .int n]) (n := 2) (Nat.le_of_ble_eq_true rfl)
  rw [lg_entry_eq]
  generalize (lg_sl ([.ref (α 10 g), .int n]) ++ List.replicate (2 - (lg_sl ([.ref (α 10 g), .int n])).length) Slot.unset).toArray = ls at hl ⊢
  have hl : lv_has ls 2 [(0, .ref (α 10 g)), (1, .int n)] := hl
  skip
  refine lv_aload_n hx hb dX1_putMarks_0 rfl (lv_at hl 0 rfl) ?_
  refine pw_get (ref := "TripPanel$Gauge") (C := RX1) (T := TX1) (N := 9) (ci := 1) (fs := (fsG σ α g)) (v := .int (σ 6 g)) hx hb hts hiX1 hown hK hP (cc_10 hg hm) rfl 6 (by decide) (by decide +kernel) rfl rfl dX1_putMarks_1 ?_
  refine lv_ldc hx hb hown (hts (.constant RX1 20 (2000000000)) (by decide +kernel)) dX1_putMarks_4 ?_
  refine lv_icmp_eq (x := (σ 6 g)) (y := 2000000000) (tgt := 23) hx hb dX1_putMarks_6 (by decide) (fun c6 => ?_) (fun c6 => ?_)
  · refine lv_aload_n hx hb dX1_putMarks_23 rfl (lv_at hl 0 rfl) ?_
    refine lv_iload_n hx hb dX1_putMarks_24 rfl (lv_at hl 1 rfl) ?_
    refine pw_put (ref := "TripPanel$Gauge") (C := RX1) (T := TX1) (N := 9) (ci := 1) (fs := (fsG σ α g)) (v := .int n) (ty := .int) hx hb hts hiX1 tyX1 tyX1_ok nmX1 hown hK hP hS (cc_10 hg hm) rfl 6 (by decide) (by decide +kernel) rfl rfl (by decide +kernel) rfl rfl (Nat.le_of_ble_eq_true rfl) dX1_putMarks_25 (fun H locs hP hz hS => ?_)
    rw [cc_g6 (σ := σ) hg hm] at hP
    refine lv_aload_n hx hb dX1_putMarks_28 rfl (lv_at hl 0 rfl) ?_
    refine pw_get (ref := "TripPanel$Gauge") (C := RX1) (T := TX1) (N := 9) (ci := 1) (fs := (fsG (st σ 6 g n) α g)) (v := .int (σ 7 g)) hx hb hts hiX1 hown hK hP (cc_10 hg hm) rfl 7 (by decide) (by decide +kernel) rfl rfl dX1_putMarks_29 ?_
    refine lv_ldc hx hb hown (hts (.constant RX1 20 (2000000000)) (by decide +kernel)) dX1_putMarks_32 ?_
    refine lv_icmp_eq (x := (σ 7 g)) (y := 2000000000) (tgt := 51) hx hb dX1_putMarks_34 (by decide) (fun c34 => ?_) (fun c34 => ?_)
    · refine lv_aload_n hx hb dX1_putMarks_51 rfl (lv_at hl 0 rfl) ?_
      refine lv_iload_n hx hb dX1_putMarks_52 rfl (lv_at hl 1 rfl) ?_
      refine pw_put (ref := "TripPanel$Gauge") (C := RX1) (T := TX1) (N := 9) (ci := 1) (fs := (fsG (st σ 6 g n) α g)) (v := .int n) (ty := .int) hx hb hts hiX1 tyX1 tyX1_ok nmX1 hown hK hP hS (cc_10 hg hm) rfl 7 (by decide) (by decide +kernel) rfl rfl (by decide +kernel) rfl rfl (Nat.le_of_ble_eq_true rfl) dX1_putMarks_53 (fun H locs hP hz hS => ?_)
      rw [cc_g7 (σ := st σ 6 g n) hg hm] at hP
      exact W.vret hx hb hr (fun t ht hW => ⟨⟨(), rfl, trivial, by dsimp only; rw [ht]; exact (by rw [show mk6 σ g n = st σ 6 g n from if_pos (Or.inl c6), show mk7 (st σ 6 g n) g n = st (st σ 6 g n) 7 g n from if_pos (Or.inl c34)]; exact hP)⟩, hS.F ht⟩) hS.2.2 dX1_putMarks_56
    · refine lv_aload_n hx hb dX1_putMarks_37 rfl (lv_at hl 0 rfl) ?_
      refine lv_iload_n hx hb dX1_putMarks_38 rfl (lv_at hl 1 rfl) ?_
      refine lv_iconst (v := 0) hx hb dX1_putMarks_39 (by decide) ?_
      refine lv_aload_n hx hb dX1_putMarks_40 rfl (lv_at hl 0 rfl) ?_
      refine lv_aload_n hx hb dX1_putMarks_41 rfl (lv_at hl 0 rfl) ?_
      refine pw_get (ref := "TripPanel$Gauge") (C := RX1) (T := TX1) (N := 9) (ci := 1) (fs := (fsG (st σ 6 g n) α g)) (v := .int (σ 7 g)) hx hb hts hiX1 hown hK hP (cc_10 hg hm) rfl 7 (by decide) (by decide +kernel) rfl rfl dX1_putMarks_42 ?_
      refine vp_callSi (W.runV (As := [.int n, .int 0, .ref (α 10 g), .int (σ 7 g)]) (rest := []) ⟨hx, hb, hml, hown, hts⟩ (c_X1_relates l D cy A α (st σ 6 g n) g hg hm g hg hm n 0 (σ 7 g) (by decide)) (cwV 4 hts gX1_putMarks_X1_relates rfl rfl rfl (by decide +kernel) ⟨Nat.le_of_ble_eq_true rfl, Nat.le_of_ble_eq_true rfl⟩) ⟨pb_blind, pw_recv hP hK (cc_10 hg hm) rfl, pb_pre hP hK⟩ rfl rfl hl.1 rfl (lv_room (Nat.le_of_ble_eq_true rfl)) dX1_putMarks_45 ⟨Nat.le_of_ble_eq_true rfl, Nat.le_of_ble_eq_true rfl⟩) (fun r hw => ?_)
      rcases hw with ⟨rfl, h1⟩ | ⟨rfl, h1⟩
      · refine lv_if_eq (x := 1) (tgt := 56) hx hb dX1_putMarks_48 (by decide) (fun c => absurd c (by decide)) (fun c48 => ?_)
        refine lv_aload_n hx hb dX1_putMarks_51 rfl (lv_at hl 0 rfl) ?_
        refine lv_iload_n hx hb dX1_putMarks_52 rfl (lv_at hl 1 rfl) ?_
        refine pw_put (ref := "TripPanel$Gauge") (C := RX1) (T := TX1) (N := 9) (ci := 1) (fs := (fsG (st σ 6 g n) α g)) (v := .int n) (ty := .int) hx hb hts hiX1 tyX1 tyX1_ok nmX1 hown hK hP hS (cc_10 hg hm) rfl 7 (by decide) (by decide +kernel) rfl rfl (by decide +kernel) rfl rfl (Nat.le_of_ble_eq_true rfl) dX1_putMarks_53 (fun H locs hP hz hS => ?_)
        rw [cc_g7 (σ := st σ 6 g n) hg hm] at hP
        exact W.vret hx hb hr (fun t ht hW => ⟨⟨(), rfl, trivial, by dsimp only; rw [ht]; exact (by rw [show mk6 σ g n = st σ 6 g n from if_pos (Or.inl c6), show mk7 (st σ 6 g n) g n = st (st σ 6 g n) 7 g n from if_pos (Or.inr ((rd0_iff hn c34).mp h1))]; exact hP)⟩, hS.F ht⟩) hS.2.2 dX1_putMarks_56
      · refine lv_if_eq (x := 0) (tgt := 56) hx hb dX1_putMarks_48 (by decide) (fun c48 => ?_) (fun c => absurd (by decide) c)
        exact W.vret hx hb hr (fun t ht hW => ⟨⟨(), rfl, trivial, by dsimp only; rw [ht]; exact (by rw [show mk6 σ g n = st σ 6 g n from if_pos (Or.inl c6), show mk7 (st σ 6 g n) g n = st σ 6 g n from if_neg (fun q => q.elim c34 (fun z => h1 ((rd0_iff hn c34).mpr z)))]; exact hP)⟩, hS.F ht⟩) hS.2.2 dX1_putMarks_56
  · refine lv_aload_n hx hb dX1_putMarks_9 rfl (lv_at hl 0 rfl) ?_
    refine lv_iload_n hx hb dX1_putMarks_10 rfl (lv_at hl 1 rfl) ?_
    refine lv_iconst (v := 2) hx hb dX1_putMarks_11 (by decide) ?_
    refine lv_aload_n hx hb dX1_putMarks_12 rfl (lv_at hl 0 rfl) ?_
    refine lv_aload_n hx hb dX1_putMarks_13 rfl (lv_at hl 0 rfl) ?_
    refine pw_get (ref := "TripPanel$Gauge") (C := RX1) (T := TX1) (N := 9) (ci := 1) (fs := (fsG σ α g)) (v := .int (σ 6 g)) hx hb hts hiX1 hown hK hP (cc_10 hg hm) rfl 6 (by decide) (by decide +kernel) rfl rfl dX1_putMarks_14 ?_
    refine vp_callSi (W.runV (As := [.int n, .int 2, .ref (α 10 g), .int (σ 6 g)]) (rest := []) ⟨hx, hb, hml, hown, hts⟩ (c_X1_relates l D cy A α σ g hg hm g hg hm n 2 (σ 6 g) (by decide)) (cwV 4 hts gX1_putMarks_X1_relates rfl rfl rfl (by decide +kernel) ⟨Nat.le_of_ble_eq_true rfl, Nat.le_of_ble_eq_true rfl⟩) ⟨pb_blind, pw_recv hP hK (cc_10 hg hm) rfl, pb_pre hP hK⟩ rfl rfl hl.1 rfl (lv_room (Nat.le_of_ble_eq_true rfl)) dX1_putMarks_17 ⟨Nat.le_of_ble_eq_true rfl, Nat.le_of_ble_eq_true rfl⟩) (fun r hw => ?_)
    rcases hw with ⟨rfl, h2⟩ | ⟨rfl, h2⟩
    · refine lv_if_eq (x := 1) (tgt := 28) hx hb dX1_putMarks_20 (by decide) (fun c => absurd c (by decide)) (fun c20 => ?_)
      refine lv_aload_n hx hb dX1_putMarks_23 rfl (lv_at hl 0 rfl) ?_
      refine lv_iload_n hx hb dX1_putMarks_24 rfl (lv_at hl 1 rfl) ?_
      refine pw_put (ref := "TripPanel$Gauge") (C := RX1) (T := TX1) (N := 9) (ci := 1) (fs := (fsG σ α g)) (v := .int n) (ty := .int) hx hb hts hiX1 tyX1 tyX1_ok nmX1 hown hK hP hS (cc_10 hg hm) rfl 6 (by decide) (by decide +kernel) rfl rfl (by decide +kernel) rfl rfl (Nat.le_of_ble_eq_true rfl) dX1_putMarks_25 (fun H locs hP hz hS => ?_)
      rw [cc_g6 (σ := σ) hg hm] at hP
      refine lv_aload_n hx hb dX1_putMarks_28 rfl (lv_at hl 0 rfl) ?_
      refine pw_get (ref := "TripPanel$Gauge") (C := RX1) (T := TX1) (N := 9) (ci := 1) (fs := (fsG (st σ 6 g n) α g)) (v := .int (σ 7 g)) hx hb hts hiX1 hown hK hP (cc_10 hg hm) rfl 7 (by decide) (by decide +kernel) rfl rfl dX1_putMarks_29 ?_
      refine lv_ldc hx hb hown (hts (.constant RX1 20 (2000000000)) (by decide +kernel)) dX1_putMarks_32 ?_
      refine lv_icmp_eq (x := (σ 7 g)) (y := 2000000000) (tgt := 51) hx hb dX1_putMarks_34 (by decide) (fun c34 => ?_) (fun c34 => ?_)
      · refine lv_aload_n hx hb dX1_putMarks_51 rfl (lv_at hl 0 rfl) ?_
        refine lv_iload_n hx hb dX1_putMarks_52 rfl (lv_at hl 1 rfl) ?_
        refine pw_put (ref := "TripPanel$Gauge") (C := RX1) (T := TX1) (N := 9) (ci := 1) (fs := (fsG (st σ 6 g n) α g)) (v := .int n) (ty := .int) hx hb hts hiX1 tyX1 tyX1_ok nmX1 hown hK hP hS (cc_10 hg hm) rfl 7 (by decide) (by decide +kernel) rfl rfl (by decide +kernel) rfl rfl (Nat.le_of_ble_eq_true rfl) dX1_putMarks_53 (fun H locs hP hz hS => ?_)
        rw [cc_g7 (σ := st σ 6 g n) hg hm] at hP
        exact W.vret hx hb hr (fun t ht hW => ⟨⟨(), rfl, trivial, by dsimp only; rw [ht]; exact (by rw [show mk6 σ g n = st σ 6 g n from if_pos (Or.inr ((rd2_iff hn c6).mp h2)), show mk7 (st σ 6 g n) g n = st (st σ 6 g n) 7 g n from if_pos (Or.inl c34)]; exact hP)⟩, hS.F ht⟩) hS.2.2 dX1_putMarks_56
      · refine lv_aload_n hx hb dX1_putMarks_37 rfl (lv_at hl 0 rfl) ?_
        refine lv_iload_n hx hb dX1_putMarks_38 rfl (lv_at hl 1 rfl) ?_
        refine lv_iconst (v := 0) hx hb dX1_putMarks_39 (by decide) ?_
        refine lv_aload_n hx hb dX1_putMarks_40 rfl (lv_at hl 0 rfl) ?_
        refine lv_aload_n hx hb dX1_putMarks_41 rfl (lv_at hl 0 rfl) ?_
        refine pw_get (ref := "TripPanel$Gauge") (C := RX1) (T := TX1) (N := 9) (ci := 1) (fs := (fsG (st σ 6 g n) α g)) (v := .int (σ 7 g)) hx hb hts hiX1 hown hK hP (cc_10 hg hm) rfl 7 (by decide) (by decide +kernel) rfl rfl dX1_putMarks_42 ?_
        refine vp_callSi (W.runV (As := [.int n, .int 0, .ref (α 10 g), .int (σ 7 g)]) (rest := []) ⟨hx, hb, hml, hown, hts⟩ (c_X1_relates l D cy A α (st σ 6 g n) g hg hm g hg hm n 0 (σ 7 g) (by decide)) (cwV 4 hts gX1_putMarks_X1_relates rfl rfl rfl (by decide +kernel) ⟨Nat.le_of_ble_eq_true rfl, Nat.le_of_ble_eq_true rfl⟩) ⟨pb_blind, pw_recv hP hK (cc_10 hg hm) rfl, pb_pre hP hK⟩ rfl rfl hl.1 rfl (lv_room (Nat.le_of_ble_eq_true rfl)) dX1_putMarks_45 ⟨Nat.le_of_ble_eq_true rfl, Nat.le_of_ble_eq_true rfl⟩) (fun r hw => ?_)
        rcases hw with ⟨rfl, h3⟩ | ⟨rfl, h3⟩
        · refine lv_if_eq (x := 1) (tgt := 56) hx hb dX1_putMarks_48 (by decide) (fun c => absurd c (by decide)) (fun c48 => ?_)
          refine lv_aload_n hx hb dX1_putMarks_51 rfl (lv_at hl 0 rfl) ?_
          refine lv_iload_n hx hb dX1_putMarks_52 rfl (lv_at hl 1 rfl) ?_
          refine pw_put (ref := "TripPanel$Gauge") (C := RX1) (T := TX1) (N := 9) (ci := 1) (fs := (fsG (st σ 6 g n) α g)) (v := .int n) (ty := .int) hx hb hts hiX1 tyX1 tyX1_ok nmX1 hown hK hP hS (cc_10 hg hm) rfl 7 (by decide) (by decide +kernel) rfl rfl (by decide +kernel) rfl rfl (Nat.le_of_ble_eq_true rfl) dX1_putMarks_53 (fun H locs hP hz hS => ?_)
          rw [cc_g7 (σ := st σ 6 g n) hg hm] at hP
          exact W.vret hx hb hr (fun t ht hW => ⟨⟨(), rfl, trivial, by dsimp only; rw [ht]; exact (by rw [show mk6 σ g n = st σ 6 g n from if_pos (Or.inr ((rd2_iff hn c6).mp h2)), show mk7 (st σ 6 g n) g n = st (st σ 6 g n) 7 g n from if_pos (Or.inr ((rd0_iff hn c34).mp h3))]; exact hP)⟩, hS.F ht⟩) hS.2.2 dX1_putMarks_56
        · refine lv_if_eq (x := 0) (tgt := 56) hx hb dX1_putMarks_48 (by decide) (fun c48 => ?_) (fun c => absurd (by decide) c)
          exact W.vret hx hb hr (fun t ht hW => ⟨⟨(), rfl, trivial, by dsimp only; rw [ht]; exact (by rw [show mk6 σ g n = st σ 6 g n from if_pos (Or.inr ((rd2_iff hn c6).mp h2)), show mk7 (st σ 6 g n) g n = st σ 6 g n from if_neg (fun q => q.elim c34 (fun z => h3 ((rd0_iff hn c34).mpr z)))]; exact hP)⟩, hS.F ht⟩) hS.2.2 dX1_putMarks_56
    · refine lv_if_eq (x := 0) (tgt := 28) hx hb dX1_putMarks_20 (by decide) (fun c20 => ?_) (fun c => absurd (by decide) c)
      refine lv_aload_n hx hb dX1_putMarks_28 rfl (lv_at hl 0 rfl) ?_
      refine pw_get (ref := "TripPanel$Gauge") (C := RX1) (T := TX1) (N := 9) (ci := 1) (fs := (fsG σ α g)) (v := .int (σ 7 g)) hx hb hts hiX1 hown hK hP (cc_10 hg hm) rfl 7 (by decide) (by decide +kernel) rfl rfl dX1_putMarks_29 ?_
      refine lv_ldc hx hb hown (hts (.constant RX1 20 (2000000000)) (by decide +kernel)) dX1_putMarks_32 ?_
      refine lv_icmp_eq (x := (σ 7 g)) (y := 2000000000) (tgt := 51) hx hb dX1_putMarks_34 (by decide) (fun c34 => ?_) (fun c34 => ?_)
      · refine lv_aload_n hx hb dX1_putMarks_51 rfl (lv_at hl 0 rfl) ?_
        refine lv_iload_n hx hb dX1_putMarks_52 rfl (lv_at hl 1 rfl) ?_
        refine pw_put (ref := "TripPanel$Gauge") (C := RX1) (T := TX1) (N := 9) (ci := 1) (fs := (fsG σ α g)) (v := .int n) (ty := .int) hx hb hts hiX1 tyX1 tyX1_ok nmX1 hown hK hP hS (cc_10 hg hm) rfl 7 (by decide) (by decide +kernel) rfl rfl (by decide +kernel) rfl rfl (Nat.le_of_ble_eq_true rfl) dX1_putMarks_53 (fun H locs hP hz hS => ?_)
        rw [cc_g7 (σ := σ) hg hm] at hP
        exact W.vret hx hb hr (fun t ht hW => ⟨⟨(), rfl, trivial, by dsimp only; rw [ht]; exact (by rw [show mk6 σ g n = σ from if_neg (fun q => q.elim c6 (fun z => h2 ((rd2_iff hn c6).mpr z))), show mk7 σ g n = st σ 7 g n from if_pos (Or.inl c34)]; exact hP)⟩, hS.F ht⟩) hS.2.2 dX1_putMarks_56
      · refine lv_aload_n hx hb dX1_putMarks_37 rfl (lv_at hl 0 rfl) ?_
        refine lv_iload_n hx hb dX1_putMarks_38 rfl (lv_at hl 1 rfl) ?_
        refine lv_iconst (v := 0) hx hb dX1_putMarks_39 (by decide) ?_
        refine lv_aload_n hx hb dX1_putMarks_40 rfl (lv_at hl 0 rfl) ?_
        refine lv_aload_n hx hb dX1_putMarks_41 rfl (lv_at hl 0 rfl) ?_
        refine pw_get (ref := "TripPanel$Gauge") (C := RX1) (T := TX1) (N := 9) (ci := 1) (fs := (fsG σ α g)) (v := .int (σ 7 g)) hx hb hts hiX1 hown hK hP (cc_10 hg hm) rfl 7 (by decide) (by decide +kernel) rfl rfl dX1_putMarks_42 ?_
        refine vp_callSi (W.runV (As := [.int n, .int 0, .ref (α 10 g), .int (σ 7 g)]) (rest := []) ⟨hx, hb, hml, hown, hts⟩ (c_X1_relates l D cy A α σ g hg hm g hg hm n 0 (σ 7 g) (by decide)) (cwV 4 hts gX1_putMarks_X1_relates rfl rfl rfl (by decide +kernel) ⟨Nat.le_of_ble_eq_true rfl, Nat.le_of_ble_eq_true rfl⟩) ⟨pb_blind, pw_recv hP hK (cc_10 hg hm) rfl, pb_pre hP hK⟩ rfl rfl hl.1 rfl (lv_room (Nat.le_of_ble_eq_true rfl)) dX1_putMarks_45 ⟨Nat.le_of_ble_eq_true rfl, Nat.le_of_ble_eq_true rfl⟩) (fun r hw => ?_)
        rcases hw with ⟨rfl, h4⟩ | ⟨rfl, h4⟩
        · refine lv_if_eq (x := 1) (tgt := 56) hx hb dX1_putMarks_48 (by decide) (fun c => absurd c (by decide)) (fun c48 => ?_)
          refine lv_aload_n hx hb dX1_putMarks_51 rfl (lv_at hl 0 rfl) ?_
          refine lv_iload_n hx hb dX1_putMarks_52 rfl (lv_at hl 1 rfl) ?_
          refine pw_put (ref := "TripPanel$Gauge") (C := RX1) (T := TX1) (N := 9) (ci := 1) (fs := (fsG σ α g)) (v := .int n) (ty := .int) hx hb hts hiX1 tyX1 tyX1_ok nmX1 hown hK hP hS (cc_10 hg hm) rfl 7 (by decide) (by decide +kernel) rfl rfl (by decide +kernel) rfl rfl (Nat.le_of_ble_eq_true rfl) dX1_putMarks_53 (fun H locs hP hz hS => ?_)
          rw [cc_g7 (σ := σ) hg hm] at hP
          exact W.vret hx hb hr (fun t ht hW => ⟨⟨(), rfl, trivial, by dsimp only; rw [ht]; exact (by rw [show mk6 σ g n = σ from if_neg (fun q => q.elim c6 (fun z => h2 ((rd2_iff hn c6).mpr z))), show mk7 σ g n = st σ 7 g n from if_pos (Or.inr ((rd0_iff hn c34).mp h4))]; exact hP)⟩, hS.F ht⟩) hS.2.2 dX1_putMarks_56
        · refine lv_if_eq (x := 0) (tgt := 56) hx hb dX1_putMarks_48 (by decide) (fun c48 => ?_) (fun c => absurd (by decide) c)
          exact W.vret hx hb hr (fun t ht hW => ⟨⟨(), rfl, trivial, by dsimp only; rw [ht]; exact (by rw [show mk6 σ g n = σ from if_neg (fun q => q.elim c6 (fun z => h2 ((rd2_iff hn c6).mpr z))), show mk7 σ g n = σ from if_neg (fun q => q.elim c34 (fun z => h4 ((rd0_iff hn c34).mpr z)))]; exact hP)⟩, hS.F ht⟩) hS.2.2 dX1_putMarks_56

set_option maxHeartbeats 4000000 in
set_option maxRecDepth 100000 in
theorem c_X1_receive (l : Launch) (D : va_G) (cy : Nat → ClassId) (A : Nat → Prop) (α : AD) (σ : SG) (g : Nat) (hg : g < 16) (hm : σ 0 g ≠ 0) (n : Int32) (hnum : isNum n) (hG : okG σ g) : Met l yX1_receive wsX1_receive ({ frames := 4, cells := 0, slots := 0, locals := 90 } : Room) (va_Pc [.ref (α 10 g), .int n] (PB D cy A α (CC cy σ α))) (va_Qi (fun (r : Int32) (u : Unit) => r = how σ g n) (fun u t => PW D A α (CC cy (noted (tookG σ g n (how σ g n)) g) α) t.heap) A) 0 0 A := by
  refine Met.ofW (cc := cX1_receive) (maxL := 3) (ret := (some .int)) (by decide) rfl ?_
  intro p e s m args below meth c s₁ B hml hv
  obtain ⟨rfl, hP, hK⟩ := hv
  have hx := B.exec
  have hb := B.bytes
  have hr := B.returns
  have hts := atoms_spec (ws := wsX1_receive) B.pre
  have hown : s.vm.findClass RX1 = some m.cls := findClass_of_methodNamed B.named
  have hlocks := B.notSynchronized
  have hiX1 : ∀ w ∈ wsX10, w ∈ wsX1_receive := by decide +kernel
  have hiX2 : ∀ w ∈ wsX20, w ∈ wsX1_receive := by decide +kernel
  have hS : va_S A s.heap s.heap [] := va_S.rf
  have hl := lv_entry ([.ref (α 10 g), .int n]) (n := 3) (Nat.le_of_ble_eq_true rfl)
  rw [lg_entry_eq]
  generalize (lg_sl ([.ref (α 10 g), .int n]) ++ List.replicate (3 - (lg_sl ([.ref (α 10 g), .int n])).length) Slot.unset).toArray = ls at hl ⊢
  have hl : lv_has ls 3 [(0, .ref (α 10 g)), (1, .int n)] := hl
  skip
  have K34 : ∀ (hh : Int32) (τ : SG) (hh0 : hh = how σ g n) (hτ : τ = tookG σ g n hh) (ls : Array Slot) (hl : lv_has ls 3 [(0, .ref (α 10 g)), (1, .int n), (2, .int hh)]) (H : Heap) (locs : List Loc) (hP : PW D A α (CC cy τ α) H) (hS : va_S A s.heap H locs), W p l e ({ frames := 4, cells := 0, slots := 0, locals := 90 } : Room) s m ([.ref (α 10 g), .int n] : List Value).toArray below meth c H locs 0 0 (MQ below (va_Qi (fun (r : Int32) (u : Unit) => r = how σ g n) (fun u t => PW D A α (CC cy (noted (tookG σ g n (how σ g n)) g) α) t.heap) A) ([.ref (α 10 g), .int n] : List Value).toArray s 0 0 A) (F0 m 34 ls []) := by
    intro hh τ hh0 hτ ls hl H locs hP hS
    have hm : τ 0 g ≠ 0 := by rw [hτ, tookG_row _ _ _ _ (by decide) (by decide) (by decide)]; exact hm
    have h10 : ∃ n, n ≤ 12 ∧ τ 10 g = nI n := by rw [hτ, tookG_row _ _ _ _ (by decide) (by decide) (by decide)]; exact hG.1
    refine lv_aload_n hx hb dX1_receive_34 rfl (lv_at hl 0 rfl) ?_
    refine pw_get (ref := "TripPanel$Gauge") (C := RX1) (T := TX1) (N := 9) (ci := 1) (fs := (fsG τ α g)) (v := .ref (α 11 g)) hx hb hts hiX1 hown hK hP (cc_10 hg hm) rfl 1 (by decide) (by decide +kernel) rfl rfl dX1_receive_35 ?_
    refine lv_aload_n hx hb dX1_receive_38 rfl (lv_at hl 0 rfl) ?_
    refine pw_get (ref := "TripPanel$Gauge") (C := RX1) (T := TX1) (N := 9) (ci := 1) (fs := (fsG τ α g)) (v := .int (τ 2 g)) hx hb hts hiX1 hown hK hP (cc_10 hg hm) rfl 2 (by decide) (by decide +kernel) rfl rfl dX1_receive_39 ?_
    refine va_callv (va_runV (As := [.int (τ 2 g)]) (rest := []) ⟨hx, hb, hml, hown, hts⟩ (c_X2_push l D cy A α (CC cy τ α) 11 g 12 g 12 (r12 τ g) (τ 10 g) (by omega) (by decide) (by decide) (cc_11 hg hm) (cc_12 hg hm) (τ 2 g)) (cwV 1 hts gX1_receive_X2_push rfl rfl rfl (by decide +kernel) ⟨Nat.le_of_ble_eq_true rfl, Nat.le_of_ble_eq_true rfl⟩) ⟨pb_blind, pw_recv hP hK (cc_11 hg hm) rfl, pb_pre hP hK⟩ rfl rfl hl.1 rfl (lv_room (Nat.le_of_ble_eq_true rfl)) dX1_receive_42 ⟨Nat.le_of_ble_eq_true rfl, Nat.le_of_ble_eq_true rfl⟩) hS (fun _ _ h => h) (fun _ h => h) (fun u t H locs ht hvm hw hB hz1 hk1 hS => ?_)
    have hP := hB
    rw [ht] at hP
    refine W.cs (cells' := 0) (slots' := 0) rfl rfl ?_
    rw [show nI 12 = (12 : Int32) from rfl, cc_row (σ := τ) hg hm] at hP
    refine lv_iload_n hx hb dX1_receive_45 rfl (lv_at hl 2 rfl) ?_
    exact W.iret (v := hh) hx hb hr (fun t ht hW => ⟨⟨_, (), rfl, hh0, by dsimp only; rw [ht]; exact (by rw [← hh0, ← hτ, noted_rowed h10]; exact hP)⟩, hS.F ht⟩) hS.2.2 dX1_receive_46
  refine lv_aload_n hx hb dX1_receive_0 rfl (lv_at hl 0 rfl) ?_
  refine lv_iload_n hx hb dX1_receive_1 rfl (lv_at hl 1 rfl) ?_
  refine vp_callSi (W.runV (As := [.int n]) (rest := []) ⟨hx, hb, hml, hown, hts⟩ (c_X1_kindOfTaking l D cy A α σ g hg hm n) (cwV 1 hts gX1_receive_X1_kindOfTaking rfl rfl rfl (by decide +kernel) ⟨Nat.le_of_ble_eq_true rfl, Nat.le_of_ble_eq_true rfl⟩) ⟨pb_blind, pw_recv hP hK (cc_10 hg hm) rfl, pb_pre hP hK⟩ rfl rfl hl.1 rfl (lv_room (Nat.le_of_ble_eq_true rfl)) dX1_receive_2 ⟨Nat.le_of_ble_eq_true rfl, Nat.le_of_ble_eq_true rfl⟩) (fun r hw => ?_)
  subst hw
  rcases how_or σ g n with e9 | e9 | e9
  · refine lv_topi (fun y9 ey9 => ?_)
    rw [e9] at ey9
    subst ey9
    refine lv_istore_n (lv' := [(2, .int 0), (0, .ref (α 10 g)), (1, .int n)]) hx hb dX1_receive_5 rfl hl (by decide) rfl (fun ls hl => ?_)
    refine lv_iload_n hx hb dX1_receive_6 rfl (lv_at hl 0 rfl) ?_
    refine lv_if_ne (x := 0) (tgt := 19) hx hb dX1_receive_7 (by decide) (fun c => absurd (by decide) c) (fun c7 => ?_)
    refine lv_aload_n hx hb dX1_receive_10 rfl (lv_at hl 1 rfl) ?_
    refine lv_ldc hx hb hown (hts (.constant RX1 20 (2000000000)) (by decide +kernel)) dX1_receive_11 ?_
    refine pw_put (ref := "TripPanel$Gauge") (C := RX1) (T := TX1) (N := 9) (ci := 1) (fs := (fsG σ α g)) (v := .int 2000000000) (ty := .int) hx hb hts hiX1 tyX1 tyX1_ok nmX1 hown hK hP hS (cc_10 hg hm) rfl 2 (by decide) (by decide +kernel) rfl rfl (by decide +kernel) rfl rfl (Nat.le_of_ble_eq_true rfl) dX1_receive_13 (fun H locs hP hz hS => ?_)
    rw [cc_g2 (σ := σ) hg hm] at hP
    refine lv_goto (tgt := 34) hx hb dX1_receive_16 (by decide) ?_
    exact K34 0 _ e9.symm rfl ls (lv_sub hl [1, 2, 0] rfl) _ _ hP hS
  · refine lv_topi (fun y9 ey9 => ?_)
    rw [e9] at ey9
    subst ey9
    refine lv_istore_n (lv' := [(2, .int 1), (0, .ref (α 10 g)), (1, .int n)]) hx hb dX1_receive_5 rfl hl (by decide) rfl (fun ls hl => ?_)
    refine lv_iload_n hx hb dX1_receive_6 rfl (lv_at hl 0 rfl) ?_
    refine lv_if_ne (x := 1) (tgt := 19) hx hb dX1_receive_7 (by decide) (fun c7 => ?_) (fun c => absurd c (by decide))
    refine lv_iload_n hx hb dX1_receive_19 rfl (lv_at hl 0 rfl) ?_
    refine lv_iconst (v := 2) hx hb dX1_receive_20 (by decide) ?_
    refine lv_icmp_ne (x := 1) (y := 2) (tgt := 34) hx hb dX1_receive_21 (by decide) (fun c21 => ?_) (fun c => absurd c (by decide))
    exact K34 1 _ e9.symm rfl ls (lv_sub hl [1, 2, 0] rfl) _ _ hP hS
  · refine lv_topi (fun y9 ey9 => ?_)
    rw [e9] at ey9
    subst ey9
    refine lv_istore_n (lv' := [(2, .int 2), (0, .ref (α 10 g)), (1, .int n)]) hx hb dX1_receive_5 rfl hl (by decide) rfl (fun ls hl => ?_)
    refine lv_iload_n hx hb dX1_receive_6 rfl (lv_at hl 0 rfl) ?_
    refine lv_if_ne (x := 2) (tgt := 19) hx hb dX1_receive_7 (by decide) (fun c7 => ?_) (fun c => absurd c (by decide))
    refine lv_iload_n hx hb dX1_receive_19 rfl (lv_at hl 0 rfl) ?_
    refine lv_iconst (v := 2) hx hb dX1_receive_20 (by decide) ?_
    refine lv_icmp_ne (x := 2) (y := 2) (tgt := 34) hx hb dX1_receive_21 (by decide) (fun c => absurd (by decide) c) (fun c21 => ?_)
    refine lv_aload_n hx hb dX1_receive_24 rfl (lv_at hl 1 rfl) ?_
    refine lv_iload_n hx hb dX1_receive_25 rfl (lv_at hl 2 rfl) ?_
    refine pw_put (ref := "TripPanel$Gauge") (C := RX1) (T := TX1) (N := 9) (ci := 1) (fs := (fsG σ α g)) (v := .int n) (ty := .int) hx hb hts hiX1 tyX1 tyX1_ok nmX1 hown hK hP hS (cc_10 hg hm) rfl 2 (by decide) (by decide +kernel) rfl rfl (by decide +kernel) rfl rfl (Nat.le_of_ble_eq_true rfl) dX1_receive_26 (fun H locs hP hz hS => ?_)
    rw [cc_g2 (σ := σ) hg hm] at hP
    refine lv_aload_n hx hb dX1_receive_29 rfl (lv_at hl 1 rfl) ?_
    refine lv_iload_n hx hb dX1_receive_30 rfl (lv_at hl 2 rfl) ?_
    refine va_callv (va_runV (As := [.int n]) (rest := []) ⟨hx, hb, hml, hown, hts⟩ (c_X1_putMarks l D cy A α (st σ 2 g n) g hg hm n (num_gp hnum)) (cwV 1 hts gX1_receive_X1_putMarks rfl rfl rfl (by decide +kernel) ⟨Nat.le_of_ble_eq_true rfl, Nat.le_of_ble_eq_true rfl⟩) ⟨pb_blind, pw_recv hP hK (cc_10 hg hm) rfl, pb_pre hP hK⟩ rfl rfl hl.1 rfl (lv_room (Nat.le_of_ble_eq_true rfl)) dX1_receive_31 ⟨Nat.le_of_ble_eq_true rfl, Nat.le_of_ble_eq_true rfl⟩) hS (fun _ _ h => h) (fun _ h => h) (fun u t H locs ht hvm hw hB hz1 hk1 hS => ?_)
    have hP := hB
    rw [ht] at hP
    refine W.cs (cells' := 0) (slots' := 0) rfl rfl ?_
    exact K34 2 _ e9.symm rfl ls (lv_sub hl [1, 2, 0] rfl) _ _ hP hS

set_option maxHeartbeats 4000000 in
set_option maxRecDepth 100000 in
theorem c_X1_lose (l : Launch) (D : va_G) (cy : Nat → ClassId) (A : Nat → Prop) (α : AD) (σ : SG) (g : Nat) (hg : g < 16) (hm : σ 0 g ≠ 0) (hG : okG σ g) : Met l yX1_lose wsX1_lose ({ frames := 1, cells := 0, slots := 0, locals := 22 } : Room) (va_Pc [.ref (α 10 g)] (PB D cy A α (CC cy σ α))) (va_Qv (fun (u : Unit) => True) (fun u t => PW D A α (CC cy (noted (st σ 2 g gp) g) α) t.heap) A) 0 0 A := by
  refine Met.ofW (cc := cX1_lose) (maxL := 1) (ret := none) (by decide) rfl ?_
  intro p e s m args below meth c s₁ B hml hv
  obtain ⟨rfl, hP, hK⟩ := hv
  have hx := B.exec
  have hb := B.bytes
  have hr := B.returns
  have hts := atoms_spec (ws := wsX1_lose) B.pre
  have hown : s.vm.findClass RX1 = some m.cls := findClass_of_methodNamed B.named
  have hlocks := B.notSynchronized
  have hiX1 : ∀ w ∈ wsX10, w ∈ wsX1_lose := by decide +kernel
  have hiX2 : ∀ w ∈ wsX20, w ∈ wsX1_lose := by decide +kernel
  have hS : va_S A s.heap s.heap [] := va_S.rf
  have hl := lv_entry ([.ref (α 10 g)]) (n := 1) (Nat.le_of_ble_eq_true rfl)
  rw [lg_entry_eq]
  generalize (lg_sl ([.ref (α 10 g)]) ++ List.replicate (1 - (lg_sl ([.ref (α 10 g)])).length) Slot.unset).toArray = ls at hl ⊢
  have hl : lv_has ls 1 [(0, .ref (α 10 g))] := hl
  skip
  refine lv_aload_n hx hb dX1_lose_0 rfl (lv_at hl 0 rfl) ?_
  refine lv_ldc hx hb hown (hts (.constant RX1 20 (2000000000)) (by decide +kernel)) dX1_lose_1 ?_
  refine pw_put (ref := "TripPanel$Gauge") (C := RX1) (T := TX1) (N := 9) (ci := 1) (fs := (fsG σ α g)) (v := .int 2000000000) (ty := .int) hx hb hts hiX1 tyX1 tyX1_ok nmX1 hown hK hP hS (cc_10 hg hm) rfl 2 (by decide) (by decide +kernel) rfl rfl (by decide +kernel) rfl rfl (Nat.le_of_ble_eq_true rfl) dX1_lose_3 (fun H locs hP hz hS => ?_)
  rw [cc_g2 (σ := σ) hg hm] at hP
  refine lv_aload_n hx hb dX1_lose_6 rfl (lv_at hl 0 rfl) ?_
  refine pw_get (ref := "TripPanel$Gauge") (C := RX1) (T := TX1) (N := 9) (ci := 1) (fs := (fsG (st σ 2 g 2000000000) α g)) (v := .ref (α 11 g)) hx hb hts hiX1 hown hK hP (cc_10 hg hm) rfl 1 (by decide) (by decide +kernel) rfl rfl dX1_lose_7 ?_
  refine lv_ldc hx hb hown (hts (.constant RX1 20 (2000000000)) (by decide +kernel)) dX1_lose_10 ?_
  refine va_callv (va_runV (As := [.int 2000000000]) (rest := []) ⟨hx, hb, hml, hown, hts⟩ (c_X2_push l D cy A α (CC cy (st σ 2 g 2000000000) α) 11 g 12 g 12 (r12 (st σ 2 g 2000000000) g) ((st σ 2 g 2000000000) 10 g) (by omega) (by decide) (by decide) (cc_11 hg hm) (cc_12 hg hm) 2000000000) (cwV 1 hts gX1_lose_X2_push rfl rfl rfl (by decide +kernel) ⟨Nat.le_of_ble_eq_true rfl, Nat.le_of_ble_eq_true rfl⟩) ⟨pb_blind, pw_recv hP hK (cc_11 hg hm) rfl, pb_pre hP hK⟩ rfl rfl hl.1 rfl (lv_room (Nat.le_of_ble_eq_true rfl)) dX1_lose_12 ⟨Nat.le_of_ble_eq_true rfl, Nat.le_of_ble_eq_true rfl⟩) hS (fun _ _ h => h) (fun _ h => h) (fun u t H locs ht hvm hw hB hz1 hk1 hS => ?_)
  have hP := hB
  rw [ht] at hP
  refine W.cs (cells' := 0) (slots' := 0) rfl rfl ?_
  rw [show nI 12 = (12 : Int32) from rfl, cc_row (σ := st σ 2 g 2000000000) hg hm] at hP
  exact W.vret hx hb hr (fun t ht hW => ⟨⟨(), rfl, trivial, by dsimp only; rw [ht]; exact (by rw [noted_rowed (σ := st σ 2 g gp) hG.1, st_same]; exact hP)⟩, hS.F ht⟩) hS.2.2 dX1_lose_15

set_option maxHeartbeats 4000000 in
set_option maxRecDepth 100000 in
theorem c_X1_forget (l : Launch) (D : va_G) (cy : Nat → ClassId) (A : Nat → Prop) (α : AD) (σ : SG) (g : Nat) (hg : g < 16) (hm : σ 0 g ≠ 0) : Met l yX1_forget wsX1_forget ({ frames := 1, cells := 0, slots := 0, locals := 20 } : Room) (va_Pc [.ref (α 10 g)] (PB D cy A α (CC cy σ α))) (va_Qv (fun (u : Unit) => True) (fun u t => PW D A α (CC cy (st (st (st σ 6 g gp) 7 g gp) 10 g 0) α) t.heap) A) 0 0 A := by
  refine Met.ofW (cc := cX1_forget) (maxL := 1) (ret := none) (by decide) rfl ?_
  intro p e s m args below meth c s₁ B hml hv
  obtain ⟨rfl, hP, hK⟩ := hv
  have hx := B.exec
  have hb := B.bytes
  have hr := B.returns
  have hts := atoms_spec (ws := wsX1_forget) B.pre
  have hown : s.vm.findClass RX1 = some m.cls := findClass_of_methodNamed B.named
  have hlocks := B.notSynchronized
  have hiX1 : ∀ w ∈ wsX10, w ∈ wsX1_forget := by decide +kernel
  have hiX2 : ∀ w ∈ wsX20, w ∈ wsX1_forget := by decide +kernel
  have hS : va_S A s.heap s.heap [] := va_S.rf
  have hl := lv_entry ([.ref (α 10 g)]) (n := 1) (Nat.le_of_ble_eq_true rfl)
  rw [lg_entry_eq]
  generalize (lg_sl ([.ref (α 10 g)]) ++ List.replicate (1 - (lg_sl ([.ref (α 10 g)])).length) Slot.unset).toArray = ls at hl ⊢
  have hl : lv_has ls 1 [(0, .ref (α 10 g))] := hl
  skip
  refine lv_aload_n hx hb dX1_forget_0 rfl (lv_at hl 0 rfl) ?_
  refine lv_ldc hx hb hown (hts (.constant RX1 20 (2000000000)) (by decide +kernel)) dX1_forget_1 ?_
  refine pw_put (ref := "TripPanel$Gauge") (C := RX1) (T := TX1) (N := 9) (ci := 1) (fs := (fsG σ α g)) (v := .int 2000000000) (ty := .int) hx hb hts hiX1 tyX1 tyX1_ok nmX1 hown hK hP hS (cc_10 hg hm) rfl 6 (by decide) (by decide +kernel) rfl rfl (by decide +kernel) rfl rfl (Nat.le_of_ble_eq_true rfl) dX1_forget_3 (fun H locs hP hz hS => ?_)
  rw [cc_g6 (σ := σ) hg hm] at hP
  refine lv_aload_n hx hb dX1_forget_6 rfl (lv_at hl 0 rfl) ?_
  refine lv_ldc hx hb hown (hts (.constant RX1 20 (2000000000)) (by decide +kernel)) dX1_forget_7 ?_
  refine pw_put (ref := "TripPanel$Gauge") (C := RX1) (T := TX1) (N := 9) (ci := 1) (fs := (fsG (st σ 6 g 2000000000) α g)) (v := .int 2000000000) (ty := .int) hx hb hts hiX1 tyX1 tyX1_ok nmX1 hown hK hP hS (cc_10 hg hm) rfl 7 (by decide) (by decide +kernel) rfl rfl (by decide +kernel) rfl rfl (Nat.le_of_ble_eq_true rfl) dX1_forget_9 (fun H locs hP hz hS => ?_)
  rw [cc_g7 (σ := st σ 6 g 2000000000) hg hm] at hP
  refine lv_aload_n hx hb dX1_forget_12 rfl (lv_at hl 0 rfl) ?_
  refine pw_get (ref := "TripPanel$Gauge") (C := RX1) (T := TX1) (N := 9) (ci := 1) (fs := (fsG (st (st σ 6 g 2000000000) 7 g 2000000000) α g)) (v := .ref (α 11 g)) hx hb hts hiX1 hown hK hP (cc_10 hg hm) rfl 1 (by decide) (by decide +kernel) rfl rfl dX1_forget_13 ?_
  refine va_callv (va_runV (As := []) (rest := []) ⟨hx, hb, hml, hown, hts⟩ (c_X2_empty l D cy A α (CC cy (st (st σ 6 g 2000000000) 7 g 2000000000) α) 11 g 12 g 12 (r12 (st (st σ 6 g 2000000000) 7 g 2000000000) g) (σ 10 g) (by omega) (by decide) (by decide) (cc_11 hg hm) (cc_12 hg hm)) (cwV 0 hts gX1_forget_X2_empty rfl rfl rfl (by decide +kernel) ⟨Nat.le_of_ble_eq_true rfl, Nat.le_of_ble_eq_true rfl⟩) ⟨pb_blind, pw_recv hP hK (cc_11 hg hm) rfl, pb_pre hP hK⟩ rfl rfl hl.1 rfl (lv_room (Nat.le_of_ble_eq_true rfl)) dX1_forget_16 ⟨Nat.le_of_ble_eq_true rfl, Nat.le_of_ble_eq_true rfl⟩) hS (fun _ _ h => h) (fun _ h => h) (fun u t H locs ht hvm hw hB hz1 hk1 hS => ?_)
  have hP := hB
  rw [ht] at hP
  refine W.cs (cells' := 0) (slots' := 0) rfl rfl ?_
  rw [cc_empty (σ := st (st σ 6 g 2000000000) 7 g 2000000000) hg hm] at hP
  exact W.vret hx hb hr (fun t ht hW => ⟨⟨(), rfl, trivial, by dsimp only; rw [ht]; exact hP⟩, hS.F ht⟩) hS.2.2 dX1_forget_19

set_option maxHeartbeats 4000000 in
set_option maxRecDepth 100000 in
theorem c_X1_rowUntil (l : Launch) (D : va_G) (cy : Nat → ClassId) (A : Nat → Prop) (α : AD) (σ : SG) (g : Nat) (hg : g < 16) (hm : σ 0 g ≠ 0) (rel n : Int32) (hrel : isRel rel) (hG : okG σ g) : Met l yX1_rowUntil wsX1_rowUntil ({ frames := 2, cells := 0, slots := 0, locals := 48 } : Room) (va_Pc [.ref (α 10 g), .int rel, .int n] (PB D cy A α (CC cy σ α))) (vp_Si (fun r => r = siN σ g rel n (cN (σ 10 g)) 0)) 0 0 (fun _ => False) := by
  refine Met.ofW (cc := cX1_rowUntil) (maxL := 4) (ret := (some .int)) (by decide) rfl ?_
  intro p e s m args below meth c s₁ B hml hv
  obtain ⟨rfl, hP, hK⟩ := hv
  have hx := B.exec
  have hb := B.bytes
  have hr := B.returns
  have hts := atoms_spec (ws := wsX1_rowUntil) B.pre
  have hown : s.vm.findClass RX1 = some m.cls := findClass_of_methodNamed B.named
  have hlocks := B.notSynchronized
  have hiX1 : ∀ w ∈ wsX10, w ∈ wsX1_rowUntil := by decide +kernel
  have hiX2 : ∀ w ∈ wsX20, w ∈ wsX1_rowUntil := by decide +kernel
  have hl := lv_entry ([.ref (α 10 g), .int rel, .int n]) (n := 4) (Nat.le_of_ble_eq_true rfl)
  rw [lg_entry_eq]
  generalize (lg_sl ([.ref (α 10 g), .int rel, .int n]) ++ List.replicate (4 - (lg_sl ([.ref (α 10 g), .int rel, .int n])).length) Slot.unset).toArray = ls at hl ⊢
  have hl : lv_has ls 4 [(0, .ref (α 10 g)), (1, .int rel), (2, .int n)] := hl
  obtain ⟨⟨nr, hnr, h10⟩, -⟩ := hG
  have hcn : cN (σ 10 g) = nr := cN_of h10 (by omega)
  have LS : ∀ (n0 : Nat) (k : Nat) (hn : nr - k < n0) (hk : k ≤ nr) (hf : siN σ g rel n nr 0 = siN σ g rel n (nr - k) k) (ls : Array Slot) (hl : lv_has ls 4 [(0, .ref (α 10 g)), (1, .int rel), (2, .int n), (3, .int (nI k))]) , W p l e ({ frames := 2, cells := 0, slots := 0, locals := 48 } : Room) s m ([.ref (α 10 g), .int rel, .int n] : List Value).toArray below meth c s.heap [] 0 0 (MQ below (vp_Si (fun r => r = siN σ g rel n (cN (σ 10 g)) 0)) ([.ref (α 10 g), .int rel, .int n] : List Value).toArray s 0 0 (fun _ => False)) (F0 m 2 ls []) := by
    intro n0
    induction n0 with
    | zero => intro k hn hk hf ls hl ; exact absurd hn (Nat.not_lt_zero _)
    | succ n0 ih =>
      intro k hn hk hf ls hl 
      refine lv_iload_n hx hb dX1_rowUntil_2 rfl (lv_at hl 3 rfl) ?_
      refine lv_aload_n hx hb dX1_rowUntil_3 rfl (lv_at hl 0 rfl) ?_
      refine pw_get (ref := "TripPanel$Gauge") (C := RX1) (T := TX1) (N := 9) (ci := 1) (fs := (fsG σ α g)) (v := .ref (α 11 g)) hx hb hts hiX1 hown hK hP (cc_10 hg hm) rfl 1 (by decide) (by decide +kernel) rfl rfl dX1_rowUntil_4 ?_
      refine pw_get (ref := "TripPanel$Latest") (C := RX2) (T := TX2) (N := 2) (ci := 2) (fs := [.ref (α 12 g), .int (σ 10 g)]) (v := .int (σ 10 g)) hx hb hts hiX2 hown hK hP (cc_11 hg hm) rfl 1 (by decide) (by decide +kernel) rfl rfl dX1_rowUntil_7 ?_
      refine lv_icmp_ge (x := (nI k)) (y := (σ 10 g)) (tgt := 37) hx hb dX1_rowUntil_10 (by decide) (fun c10 => ?_) (fun c10 => ?_)
      · have hkn : k = nr := by rw [h10] at c10; exact Nat.le_antisymm hk (ige (by omega) (by omega) c10)
        refine lv_iload_n hx hb dX1_rowUntil_37 rfl (lv_at hl 3 rfl) ?_
        exact W.iret (v := (nI k)) hx hb hr (fun t ht hW => ⟨_, rfl, (by rw [hcn, hf, hkn, Nat.sub_self]; rfl), ht⟩) (fun q hq => absurd hq List.not_mem_nil) dX1_rowUntil_38
      · have hkn : k < nr := by rw [h10] at c10; exact ilt (by omega) (by omega) c10
        obtain ⟨m0, hm0⟩ : ∃ m0, nr - k = m0 + 1 := ⟨nr - k - 1, by omega⟩
        refine lv_aload_n hx hb dX1_rowUntil_13 rfl (lv_at hl 0 rfl) ?_
        refine lv_aload_n hx hb dX1_rowUntil_14 rfl (lv_at hl 0 rfl) ?_
        refine pw_get (ref := "TripPanel$Gauge") (C := RX1) (T := TX1) (N := 9) (ci := 1) (fs := (fsG σ α g)) (v := .ref (α 11 g)) hx hb hts hiX1 hown hK hP (cc_10 hg hm) rfl 1 (by decide) (by decide +kernel) rfl rfl dX1_rowUntil_15 ?_
        refine lv_iload_n hx hb dX1_rowUntil_18 rfl (lv_at hl 3 rfl) ?_
        refine vp_callSi (W.runV (As := [.int (nI k)]) (rest := [.ref (α 10 g)]) ⟨hx, hb, hml, hown, hts⟩ (c_X2_at l D cy A α (CC cy σ α) 11 g 12 g 12 (r12 σ g) (σ 10 g) (by omega) (by decide) (by decide) (cc_11 hg hm) (cc_12 hg hm) (nI k)) (cwV 1 hts gX1_rowUntil_X2_at rfl rfl rfl (by decide +kernel) ⟨Nat.le_of_ble_eq_true rfl, Nat.le_of_ble_eq_true rfl⟩) ⟨pb_blind, pw_recv hP hK (cc_11 hg hm) rfl, pb_pre hP hK⟩ rfl rfl hl.1 rfl (lv_room (Nat.le_of_ble_eq_true rfl)) dX1_rowUntil_19 ⟨Nat.le_of_ble_eq_true rfl, Nat.le_of_ble_eq_true rfl⟩) (fun r hw => ?_)
        have hw : r = σ 9 (12 * g + k) := by rw [hw, if_pos ⟨nI_pos' (by omega), by rw [h10]; exact nI_lt hkn (by omega), nI_lt (by omega) (by decide)⟩, cN_of rfl (by omega)]; exact if_pos (by omega)
        subst hw
        refine lv_iload_n hx hb dX1_rowUntil_22 rfl (lv_at hl 1 rfl) ?_
        refine lv_aload_n hx hb dX1_rowUntil_23 rfl (lv_at hl 0 rfl) ?_
        refine lv_iload_n hx hb dX1_rowUntil_24 rfl (lv_at hl 2 rfl) ?_
        refine vp_callSi (W.runV (As := [.int (σ 9 (12 * g + k)), .int rel, .ref (α 10 g), .int n]) (rest := []) ⟨hx, hb, hml, hown, hts⟩ (c_X1_relates l D cy A α σ g hg hm g hg hm (σ 9 (12 * g + k)) rel n hrel) (cwV 4 hts gX1_rowUntil_X1_relates rfl rfl rfl (by decide +kernel) ⟨Nat.le_of_ble_eq_true rfl, Nat.le_of_ble_eq_true rfl⟩) ⟨pb_blind, pw_recv hP hK (cc_10 hg hm) rfl, pb_pre hP hK⟩ rfl rfl hl.1 rfl (lv_room (Nat.le_of_ble_eq_true rfl)) dX1_rowUntil_25 ⟨Nat.le_of_ble_eq_true rfl, Nat.le_of_ble_eq_true rfl⟩) (fun r hw => ?_)
        rcases hw with ⟨rfl, h1⟩ | ⟨rfl, h1⟩
        · refine lv_if_ne (x := 1) (tgt := 37) hx hb dX1_rowUntil_28 (by decide) (fun c28 => ?_) (fun c => absurd c (by decide))
          refine lv_iload_n hx hb dX1_rowUntil_37 rfl (lv_at hl 3 rfl) ?_
          exact W.iret (v := (nI k)) hx hb hr (fun t ht hW => ⟨_, rfl, (by rw [hcn, hf, hm0, siN, if_pos h1]), ht⟩) (fun q hq => absurd hq List.not_mem_nil) dX1_rowUntil_38
        · refine lv_if_ne (x := 0) (tgt := 37) hx hb dX1_rowUntil_28 (by decide) (fun c => absurd (by decide) c) (fun c28 => ?_)
          refine lv_iinc (v := (nI (k + 1))) (lv' := [(3, .int (nI (k + 1))), (0, .ref (α 10 g)), (1, .int rel), (2, .int n)]) hx hb dX1_rowUntil_31 hl (k := 3) rfl (nI_1 _) (by decide) rfl (fun ls hl => ?_)
          refine lv_goto (tgt := 2) hx hb dX1_rowUntil_34 (by decide) ?_
          exact ih (k + 1) (by omega) (by omega) (by rw [hf, hm0, siN, if_neg h1, show nr - (k + 1) = m0 by omega]) ls (lv_sub hl [1, 2, 3, 0] rfl)
  refine lv_iconst (v := 0) hx hb dX1_rowUntil_0 (by decide) ?_
  refine lv_istore_n (lv' := [(3, .int 0), (0, .ref (α 10 g)), (1, .int rel), (2, .int n)]) hx hb dX1_rowUntil_1 rfl hl (by decide) rfl (fun ls hl => ?_)
  exact LS (nr - 0 + 1) 0 (Nat.lt_succ_self _) (Nat.zero_le _) rfl ls (lv_sub hl [1, 2, 3, 0] rfl)

set_option maxHeartbeats 4000000 in
set_option maxRecDepth 100000 in
theorem c_X1_rowCount (l : Launch) (D : va_G) (cy : Nat → ClassId) (A : Nat → Prop) (α : AD) (σ : SG) (g : Nat) (hg : g < 16) (hm : σ 0 g ≠ 0) (rel n : Int32) (hrel : isRel rel) (hG : okG σ g) : Met l yX1_rowCount wsX1_rowCount ({ frames := 2, cells := 0, slots := 0, locals := 48 } : Room) (va_Pc [.ref (α 10 g), .int rel, .int n] (PB D cy A α (CC cy σ α))) (vp_Si (fun r => r = coN σ g rel n (cN (σ 10 g)))) 0 0 (fun _ => False) := by
  refine Met.ofW (cc := cX1_rowCount) (maxL := 5) (ret := (some .int)) (by decide) rfl ?_
  intro p e s m args below meth c s₁ B hml hv
  obtain ⟨rfl, hP, hK⟩ := hv
  have hx := B.exec
  have hb := B.bytes
  have hr := B.returns
  have hts := atoms_spec (ws := wsX1_rowCount) B.pre
  have hown : s.vm.findClass RX1 = some m.cls := findClass_of_methodNamed B.named
  have hlocks := B.notSynchronized
  have hiX1 : ∀ w ∈ wsX10, w ∈ wsX1_rowCount := by decide +kernel
  have hiX2 : ∀ w ∈ wsX20, w ∈ wsX1_rowCount := by decide +kernel
  have hl := lv_entry ([.ref (α 10 g), .int rel, .int n]) (n := 5) (Nat.le_of_ble_eq_true rfl)
  rw [lg_entry_eq]
  generalize (lg_sl ([.ref (α 10 g), .int rel, .int n]) ++ List.replicate (5 - (lg_sl ([.ref (α 10 g), .int rel, .int n])).length) Slot.unset).toArray = ls at hl ⊢
  have hl : lv_has ls 5 [(0, .ref (α 10 g)), (1, .int rel), (2, .int n)] := hl
  obtain ⟨⟨nr, hnr, h10⟩, -⟩ := hG
  have hcn : cN (σ 10 g) = nr := cN_of h10 (by omega)
  have LS : ∀ (n0 : Nat) (k : Nat) (hn : nr - k < n0) (hk : k ≤ nr) (ls : Array Slot) (hl : lv_has ls 5 [(0, .ref (α 10 g)), (1, .int rel), (2, .int n), (3, .int (coN σ g rel n k)), (4, .int (nI k))]) , W p l e ({ frames := 2, cells := 0, slots := 0, locals := 48 } : Room) s m ([.ref (α 10 g), .int rel, .int n] : List Value).toArray below meth c s.heap [] 0 0 (MQ below (vp_Si (fun r => r = coN σ g rel n (cN (σ 10 g)))) ([.ref (α 10 g), .int rel, .int n] : List Value).toArray s 0 0 (fun _ => False)) (F0 m 5 ls []) := by
    intro n0
    induction n0 with
    | zero => intro k hn hk ls hl ; exact absurd hn (Nat.not_lt_zero _)
    | succ n0 ih =>
      intro k hn hk ls hl 
      refine lv_iload hx hb dX1_rowCount_5 (lv_at hl 4 rfl) ?_
      refine lv_aload_n hx hb dX1_rowCount_7 rfl (lv_at hl 0 rfl) ?_
      refine pw_get (ref := "TripPanel$Gauge") (C := RX1) (T := TX1) (N := 9) (ci := 1) (fs := (fsG σ α g)) (v := .ref (α 11 g)) hx hb hts hiX1 hown hK hP (cc_10 hg hm) rfl 1 (by decide) (by decide +kernel) rfl rfl dX1_rowCount_8 ?_
      refine pw_get (ref := "TripPanel$Latest") (C := RX2) (T := TX2) (N := 2) (ci := 2) (fs := [.ref (α 12 g), .int (σ 10 g)]) (v := .int (σ 10 g)) hx hb hts hiX2 hown hK hP (cc_11 hg hm) rfl 1 (by decide) (by decide +kernel) rfl rfl dX1_rowCount_11 ?_
      refine lv_icmp_ge (x := (nI k)) (y := (σ 10 g)) (tgt := 45) hx hb dX1_rowCount_14 (by decide) (fun c14 => ?_) (fun c14 => ?_)
      · have hkn : k = nr := by rw [h10] at c14; exact Nat.le_antisymm hk (ige (by omega) (by omega) c14)
        refine lv_iload_n hx hb dX1_rowCount_45 rfl (lv_at hl 3 rfl) ?_
        exact W.iret (v := (coN σ g rel n k)) hx hb hr (fun t ht hW => ⟨_, rfl, (by rw [hcn, hkn]), ht⟩) (fun q hq => absurd hq List.not_mem_nil) dX1_rowCount_46
      · have hkn : k < nr := by rw [h10] at c14; exact ilt (by omega) (by omega) c14
        refine lv_aload_n hx hb dX1_rowCount_17 rfl (lv_at hl 0 rfl) ?_
        refine lv_aload_n hx hb dX1_rowCount_18 rfl (lv_at hl 0 rfl) ?_
        refine pw_get (ref := "TripPanel$Gauge") (C := RX1) (T := TX1) (N := 9) (ci := 1) (fs := (fsG σ α g)) (v := .ref (α 11 g)) hx hb hts hiX1 hown hK hP (cc_10 hg hm) rfl 1 (by decide) (by decide +kernel) rfl rfl dX1_rowCount_19 ?_
        refine lv_iload hx hb dX1_rowCount_22 (lv_at hl 4 rfl) ?_
        refine vp_callSi (W.runV (As := [.int (nI k)]) (rest := [.ref (α 10 g)]) ⟨hx, hb, hml, hown, hts⟩ (c_X2_at l D cy A α (CC cy σ α) 11 g 12 g 12 (r12 σ g) (σ 10 g) (by omega) (by decide) (by decide) (cc_11 hg hm) (cc_12 hg hm) (nI k)) (cwV 1 hts gX1_rowCount_X2_at rfl rfl rfl (by decide +kernel) ⟨Nat.le_of_ble_eq_true rfl, Nat.le_of_ble_eq_true rfl⟩) ⟨pb_blind, pw_recv hP hK (cc_11 hg hm) rfl, pb_pre hP hK⟩ rfl rfl hl.1 rfl (lv_room (Nat.le_of_ble_eq_true rfl)) dX1_rowCount_24 ⟨Nat.le_of_ble_eq_true rfl, Nat.le_of_ble_eq_true rfl⟩) (fun r hw => ?_)
        have hw : r = σ 9 (12 * g + k) := by rw [hw, if_pos ⟨nI_pos' (by omega), by rw [h10]; exact nI_lt hkn (by omega), nI_lt (by omega) (by decide)⟩, cN_of rfl (by omega)]; exact if_pos (by omega)
        subst hw
        refine lv_iload_n hx hb dX1_rowCount_27 rfl (lv_at hl 1 rfl) ?_
        refine lv_aload_n hx hb dX1_rowCount_28 rfl (lv_at hl 0 rfl) ?_
        refine lv_iload_n hx hb dX1_rowCount_29 rfl (lv_at hl 2 rfl) ?_
        refine vp_callSi (W.runV (As := [.int (σ 9 (12 * g + k)), .int rel, .ref (α 10 g), .int n]) (rest := []) ⟨hx, hb, hml, hown, hts⟩ (c_X1_relates l D cy A α σ g hg hm g hg hm (σ 9 (12 * g + k)) rel n hrel) (cwV 4 hts gX1_rowCount_X1_relates rfl rfl rfl (by decide +kernel) ⟨Nat.le_of_ble_eq_true rfl, Nat.le_of_ble_eq_true rfl⟩) ⟨pb_blind, pw_recv hP hK (cc_10 hg hm) rfl, pb_pre hP hK⟩ rfl rfl hl.1 rfl (lv_room (Nat.le_of_ble_eq_true rfl)) dX1_rowCount_30 ⟨Nat.le_of_ble_eq_true rfl, Nat.le_of_ble_eq_true rfl⟩) (fun r hw => ?_)
        rcases hw with ⟨rfl, h1⟩ | ⟨rfl, h1⟩
        · refine lv_if_eq (x := 1) (tgt := 39) hx hb dX1_rowCount_33 (by decide) (fun c => absurd c (by decide)) (fun c33 => ?_)
          refine lv_iinc (v := ((coN σ g rel n k) + 1)) (lv' := [(3, .int ((coN σ g rel n k) + 1)), (0, .ref (α 10 g)), (1, .int rel), (2, .int n), (4, .int (nI k))]) hx hb dX1_rowCount_36 hl (k := 3) rfl rfl (by decide) rfl (fun ls hl => ?_)
          refine lv_iinc (v := (nI (k + 1))) (lv' := [(4, .int (nI (k + 1))), (3, .int ((coN σ g rel n k) + 1)), (0, .ref (α 10 g)), (1, .int rel), (2, .int n)]) hx hb dX1_rowCount_39 hl (k := 4) rfl (nI_1 _) (by decide) rfl (fun ls hl => ?_)
          refine lv_goto (tgt := 5) hx hb dX1_rowCount_42 (by decide) ?_
          have e1 : coN σ g rel n (k + 1) = coN σ g rel n k + 1 := by rw [coN, h1]; rfl
          rw [← e1] at hl
          exact ih (k + 1) (by omega) (by omega) ls (lv_sub hl [2, 3, 4, 1, 0] rfl)
        · refine lv_if_eq (x := 0) (tgt := 39) hx hb dX1_rowCount_33 (by decide) (fun c33 => ?_) (fun c => absurd (by decide) c)
          refine lv_iinc (v := (nI (k + 1))) (lv' := [(4, .int (nI (k + 1))), (0, .ref (α 10 g)), (1, .int rel), (2, .int n), (3, .int (coN σ g rel n k))]) hx hb dX1_rowCount_39 hl (k := 4) rfl (nI_1 _) (by decide) rfl (fun ls hl => ?_)
          refine lv_goto (tgt := 5) hx hb dX1_rowCount_42 (by decide) ?_
          have e1 : coN σ g rel n (k + 1) = coN σ g rel n k := by rw [coN, Bool.eq_false_iff.mpr h1]; exact Int32.add_zero _
          rw [← e1] at hl
          exact ih (k + 1) (by omega) (by omega) ls (lv_sub hl [1, 2, 3, 4, 0] rfl)
  refine lv_iconst (v := 0) hx hb dX1_rowCount_0 (by decide) ?_
  refine lv_istore_n (lv' := [(3, .int 0), (0, .ref (α 10 g)), (1, .int rel), (2, .int n)]) hx hb dX1_rowCount_1 rfl hl (by decide) rfl (fun ls hl => ?_)
  refine lv_iconst (v := 0) hx hb dX1_rowCount_2 (by decide) ?_
  refine lv_istore (lv' := [(4, .int 0), (3, .int 0), (0, .ref (α 10 g)), (1, .int rel), (2, .int n)]) hx hb dX1_rowCount_3 hl (by decide) rfl (fun ls hl => ?_)
  exact LS (nr - 0 + 1) 0 (Nat.lt_succ_self _) (Nat.zero_le _) ls (lv_sub hl [2, 3, 4, 1, 0] rfl)

set_option maxHeartbeats 4000000 in
set_option maxRecDepth 100000 in
theorem c_X0_isMet (l : Launch) (D : va_G) (cy : Nat → ClassId) (A : Nat → Prop) (α : AD) (σ : SG) (cj : Nat) (hcj : cj < 24) (hmc : σ 11 cj ≠ 0) (hok : okC σ cj) : Met l yX0_isMet wsX0_isMet ({ frames := 2, cells := 0, slots := 0, locals := 48 } : Room) (va_Pc [.ref (α 13 cj)] (PB D cy A α (CC cy σ α))) (vp_Si (fun r => bq r (held σ cj = true))) 0 0 (fun _ => False) := by
  refine Met.ofW (cc := cX0_isMet) (maxL := 2) (ret := (some .boolean)) (by decide) rfl ?_
  intro p e s m args below meth c s₁ B hml hv
  obtain ⟨rfl, hP, hK⟩ := hv
  have hx := B.exec
  have hb := B.bytes
  have hr := B.returns
  have hts := atoms_spec (ws := wsX0_isMet) B.pre
  have hown : s.vm.findClass RX0 = some m.cls := findClass_of_methodNamed B.named
  have hlocks := B.notSynchronized
  have hiX0 : ∀ w ∈ wsX00, w ∈ wsX0_isMet := by decide +kernel
  have hiX1 : ∀ w ∈ wsX10, w ∈ wsX0_isMet := by decide +kernel
  have hl := lv_entry ([.ref (α 13 cj)]) (n := 2) (Nat.le_of_ble_eq_true rfl)
  rw [lg_entry_eq]
  generalize (lg_sl ([.ref (α 13 cj)]) ++ List.replicate (2 - (lg_sl ([.ref (α 13 cj)])).length) Slot.unset).toArray = ls at hl ⊢
  have hl : lv_has ls 2 [(0, .ref (α 13 cj))] := hl
  obtain ⟨hA1, hA2, hB1, hB2, hrel, htu, hlv⟩ := cond_facts hok
  refine lv_aload_n hx hb dX0_isMet_0 rfl (lv_at hl 0 rfl) ?_
  refine pw_get (ref := "TripPanel$Condition") (C := RX0) (T := TX0) (N := 5) (ci := 0) (fs := (fsC σ α cj)) (v := .int (cLv σ cj)) hx hb hts hiX0 hown hK hP (cc_13 hcj hmc) rfl 3 (by decide) (by decide +kernel) rfl rfl dX0_isMet_1 ?_
  refine lv_ldc hx hb hown (hts (.constant RX0 29 (2000000000)) (by decide +kernel)) dX0_isMet_4 ?_
  refine lv_icmp_ne (x := (cLv σ cj)) (y := 2000000000) (tgt := 19) hx hb dX0_isMet_6 (by decide) (fun c6 => ?_) (fun c6 => ?_)
  · refine lv_aload_n hx hb dX0_isMet_19 rfl (lv_at hl 0 rfl) ?_
    refine pw_get (ref := "TripPanel$Condition") (C := RX0) (T := TX0) (N := 5) (ci := 0) (fs := (fsC σ α cj)) (v := .int (cLv σ cj)) hx hb hts hiX0 hown hK hP (cc_13 hcj hmc) rfl 3 (by decide) (by decide +kernel) rfl rfl dX0_isMet_20 ?_
    refine lv_istore_n (lv' := [(1, .int (cLv σ cj)), (0, .ref (α 13 cj))]) hx hb dX0_isMet_23 rfl hl (by decide) rfl (fun ls hl => ?_)
    refine lv_aload_n hx hb dX0_isMet_24 rfl (lv_at hl 1 rfl) ?_
    refine pw_get (ref := "TripPanel$Condition") (C := RX0) (T := TX0) (N := 5) (ci := 0) (fs := (fsC σ α cj)) (v := .ref (α 10 (cA σ cj))) hx hb hts hiX0 hown hK hP (cc_13 hcj hmc) rfl 1 (by decide) (by decide +kernel) rfl rfl dX0_isMet_25 ?_
    refine lv_aload_n hx hb dX0_isMet_28 rfl (lv_at hl 1 rfl) ?_
    refine pw_get (ref := "TripPanel$Condition") (C := RX0) (T := TX0) (N := 5) (ci := 0) (fs := (fsC σ α cj)) (v := .ref (α 10 (cA σ cj))) hx hb hts hiX0 hown hK hP (cc_13 hcj hmc) rfl 1 (by decide) (by decide +kernel) rfl rfl dX0_isMet_29 ?_
    refine pw_get (ref := "TripPanel$Gauge") (C := RX1) (T := TX1) (N := 9) (ci := 1) (fs := (fsG σ α (cA σ cj))) (v := .int (σ 2 (cA σ cj))) hx hb hts hiX1 hown hK hP (cc_10 hA1 hA2) rfl 2 (by decide) (by decide +kernel) rfl rfl dX0_isMet_32 ?_
    refine lv_aload_n hx hb dX0_isMet_35 rfl (lv_at hl 1 rfl) ?_
    refine pw_get (ref := "TripPanel$Condition") (C := RX0) (T := TX0) (N := 5) (ci := 0) (fs := (fsC σ α cj)) (v := .int (σ 13 cj)) hx hb hts hiX0 hown hK hP (cc_13 hcj hmc) rfl 0 (by decide) (by decide +kernel) rfl rfl dX0_isMet_36 ?_
    refine lv_aload_n hx hb dX0_isMet_39 rfl (lv_at hl 1 rfl) ?_
    refine pw_get (ref := "TripPanel$Condition") (C := RX0) (T := TX0) (N := 5) (ci := 0) (fs := (fsC σ α cj)) (v := .ref (α 10 (cB σ cj))) hx hb hts hiX0 hown hK hP (cc_13 hcj hmc) rfl 2 (by decide) (by decide +kernel) rfl rfl dX0_isMet_40 ?_
    refine lv_iload_n hx hb dX0_isMet_43 rfl (lv_at hl 0 rfl) ?_
    refine vp_callSi (W.runV (As := [.int (σ 2 (cA σ cj)), .int (σ 13 cj), .ref (α 10 (cB σ cj)), .int (cLv σ cj)]) (rest := []) ⟨hx, hb, hml, hown, hts⟩ (c_X1_relates l D cy A α σ (cA σ cj) hA1 hA2 (cB σ cj) hB1 hB2 (σ 2 (cA σ cj)) (σ 13 cj) (cLv σ cj) hrel) (cwV 4 hts gX0_isMet_X1_relates rfl rfl rfl (by decide +kernel) ⟨Nat.le_of_ble_eq_true rfl, Nat.le_of_ble_eq_true rfl⟩) ⟨pb_blind, pw_recv hP hK (cc_10 hA1 hA2) rfl, pb_pre hP hK⟩ rfl rfl hl.1 rfl (lv_room (Nat.le_of_ble_eq_true rfl)) dX0_isMet_44 ⟨Nat.le_of_ble_eq_true rfl, Nat.le_of_ble_eq_true rfl⟩) (fun r hw => ?_)
    rcases hw with ⟨rfl, h1⟩ | ⟨rfl, h1⟩
    · refine lv_aload_n hx hb dX0_isMet_47 rfl (lv_at hl 1 rfl) ?_
      refine pw_get (ref := "TripPanel$Condition") (C := RX0) (T := TX0) (N := 5) (ci := 0) (fs := (fsC σ α cj)) (v := .int (σ 12 cj)) hx hb hts hiX0 hown hK hP (cc_13 hcj hmc) rfl 4 (by decide) (by decide +kernel) rfl rfl dX0_isMet_48 ?_
      refine lv_icmp_eq (x := 1) (y := (σ 12 cj)) (tgt := 58) hx hb dX0_isMet_51 (by decide) (fun c51 => ?_) (fun c51 => ?_)
      · refine lv_iconst (v := 0) hx hb dX0_isMet_58 (by decide) ?_
        exact W.zret (v := 0) hx hb hr rfl (fun t ht hW => ⟨_, rfl, bq_f (by have q := hlv.resolve_left (fun z => c6 z.1); unfold held; rw [if_pos q.2.1, ← q.2.2]; exact tn_2 h1 c51), ht⟩) (fun q hq => absurd hq List.not_mem_nil) dX0_isMet_59
      · refine lv_iconst (v := 1) hx hb dX0_isMet_54 (by decide) ?_
        refine lv_goto (tgt := 59) hx hb dX0_isMet_55 (by decide) ?_
        exact W.zret (v := 1) hx hb hr rfl (fun t ht hW => ⟨_, rfl, bq_t (by have q := hlv.resolve_left (fun z => c6 z.1); unfold held; rw [if_pos q.2.1, ← q.2.2]; exact tn_1 htu h1 c51), ht⟩) (fun q hq => absurd hq List.not_mem_nil) dX0_isMet_59
    · refine lv_aload_n hx hb dX0_isMet_47 rfl (lv_at hl 1 rfl) ?_
      refine pw_get (ref := "TripPanel$Condition") (C := RX0) (T := TX0) (N := 5) (ci := 0) (fs := (fsC σ α cj)) (v := .int (σ 12 cj)) hx hb hts hiX0 hown hK hP (cc_13 hcj hmc) rfl 4 (by decide) (by decide +kernel) rfl rfl dX0_isMet_48 ?_
      refine lv_icmp_eq (x := 0) (y := (σ 12 cj)) (tgt := 58) hx hb dX0_isMet_51 (by decide) (fun c51 => ?_) (fun c51 => ?_)
      · refine lv_iconst (v := 0) hx hb dX0_isMet_58 (by decide) ?_
        exact W.zret (v := 0) hx hb hr rfl (fun t ht hW => ⟨_, rfl, bq_f (by have q := hlv.resolve_left (fun z => c6 z.1); unfold held; rw [if_pos q.2.1, ← q.2.2]; exact tn_4 h1 c51), ht⟩) (fun q hq => absurd hq List.not_mem_nil) dX0_isMet_59
      · refine lv_iconst (v := 1) hx hb dX0_isMet_54 (by decide) ?_
        refine lv_goto (tgt := 59) hx hb dX0_isMet_55 (by decide) ?_
        exact W.zret (v := 1) hx hb hr rfl (fun t ht hW => ⟨_, rfl, bq_t (by have q := hlv.resolve_left (fun z => c6 z.1); unfold held; rw [if_pos q.2.1, ← q.2.2]; exact tn_3 htu h1 c51), ht⟩) (fun q hq => absurd hq List.not_mem_nil) dX0_isMet_59
  · refine lv_aload_n hx hb dX0_isMet_9 rfl (lv_at hl 0 rfl) ?_
    refine pw_get (ref := "TripPanel$Condition") (C := RX0) (T := TX0) (N := 5) (ci := 0) (fs := (fsC σ α cj)) (v := .ref (α 10 (cB σ cj))) hx hb hts hiX0 hown hK hP (cc_13 hcj hmc) rfl 2 (by decide) (by decide +kernel) rfl rfl dX0_isMet_10 ?_
    refine pw_get (ref := "TripPanel$Gauge") (C := RX1) (T := TX1) (N := 9) (ci := 1) (fs := (fsG σ α (cB σ cj))) (v := .int (σ 2 (cB σ cj))) hx hb hts hiX1 hown hK hP (cc_10 hB1 hB2) rfl 2 (by decide) (by decide +kernel) rfl rfl dX0_isMet_13 ?_
    refine lv_goto (tgt := 23) hx hb dX0_isMet_16 (by decide) ?_
    refine lv_istore_n (lv' := [(1, .int (σ 2 (cB σ cj))), (0, .ref (α 13 cj))]) hx hb dX0_isMet_23 rfl hl (by decide) rfl (fun ls hl => ?_)
    refine lv_aload_n hx hb dX0_isMet_24 rfl (lv_at hl 1 rfl) ?_
    refine pw_get (ref := "TripPanel$Condition") (C := RX0) (T := TX0) (N := 5) (ci := 0) (fs := (fsC σ α cj)) (v := .ref (α 10 (cA σ cj))) hx hb hts hiX0 hown hK hP (cc_13 hcj hmc) rfl 1 (by decide) (by decide +kernel) rfl rfl dX0_isMet_25 ?_
    refine lv_aload_n hx hb dX0_isMet_28 rfl (lv_at hl 1 rfl) ?_
    refine pw_get (ref := "TripPanel$Condition") (C := RX0) (T := TX0) (N := 5) (ci := 0) (fs := (fsC σ α cj)) (v := .ref (α 10 (cA σ cj))) hx hb hts hiX0 hown hK hP (cc_13 hcj hmc) rfl 1 (by decide) (by decide +kernel) rfl rfl dX0_isMet_29 ?_
    refine pw_get (ref := "TripPanel$Gauge") (C := RX1) (T := TX1) (N := 9) (ci := 1) (fs := (fsG σ α (cA σ cj))) (v := .int (σ 2 (cA σ cj))) hx hb hts hiX1 hown hK hP (cc_10 hA1 hA2) rfl 2 (by decide) (by decide +kernel) rfl rfl dX0_isMet_32 ?_
    refine lv_aload_n hx hb dX0_isMet_35 rfl (lv_at hl 1 rfl) ?_
    refine pw_get (ref := "TripPanel$Condition") (C := RX0) (T := TX0) (N := 5) (ci := 0) (fs := (fsC σ α cj)) (v := .int (σ 13 cj)) hx hb hts hiX0 hown hK hP (cc_13 hcj hmc) rfl 0 (by decide) (by decide +kernel) rfl rfl dX0_isMet_36 ?_
    refine lv_aload_n hx hb dX0_isMet_39 rfl (lv_at hl 1 rfl) ?_
    refine pw_get (ref := "TripPanel$Condition") (C := RX0) (T := TX0) (N := 5) (ci := 0) (fs := (fsC σ α cj)) (v := .ref (α 10 (cB σ cj))) hx hb hts hiX0 hown hK hP (cc_13 hcj hmc) rfl 2 (by decide) (by decide +kernel) rfl rfl dX0_isMet_40 ?_
    refine lv_iload_n hx hb dX0_isMet_43 rfl (lv_at hl 0 rfl) ?_
    refine vp_callSi (W.runV (As := [.int (σ 2 (cA σ cj)), .int (σ 13 cj), .ref (α 10 (cB σ cj)), .int (σ 2 (cB σ cj))]) (rest := []) ⟨hx, hb, hml, hown, hts⟩ (c_X1_relates l D cy A α σ (cA σ cj) hA1 hA2 (cB σ cj) hB1 hB2 (σ 2 (cA σ cj)) (σ 13 cj) (σ 2 (cB σ cj)) hrel) (cwV 4 hts gX0_isMet_X1_relates rfl rfl rfl (by decide +kernel) ⟨Nat.le_of_ble_eq_true rfl, Nat.le_of_ble_eq_true rfl⟩) ⟨pb_blind, pw_recv hP hK (cc_10 hA1 hA2) rfl, pb_pre hP hK⟩ rfl rfl hl.1 rfl (lv_room (Nat.le_of_ble_eq_true rfl)) dX0_isMet_44 ⟨Nat.le_of_ble_eq_true rfl, Nat.le_of_ble_eq_true rfl⟩) (fun r hw => ?_)
    rcases hw with ⟨rfl, h2⟩ | ⟨rfl, h2⟩
    · refine lv_aload_n hx hb dX0_isMet_47 rfl (lv_at hl 1 rfl) ?_
      refine pw_get (ref := "TripPanel$Condition") (C := RX0) (T := TX0) (N := 5) (ci := 0) (fs := (fsC σ α cj)) (v := .int (σ 12 cj)) hx hb hts hiX0 hown hK hP (cc_13 hcj hmc) rfl 4 (by decide) (by decide +kernel) rfl rfl dX0_isMet_48 ?_
      refine lv_icmp_eq (x := 1) (y := (σ 12 cj)) (tgt := 58) hx hb dX0_isMet_51 (by decide) (fun c51 => ?_) (fun c51 => ?_)
      · refine lv_iconst (v := 0) hx hb dX0_isMet_58 (by decide) ?_
        exact W.zret (v := 0) hx hb hr rfl (fun t ht hW => ⟨_, rfl, bq_f (by have q := hlv.resolve_right (fun z => z.1 c6); unfold held; rw [if_neg q.2]; exact tn_2 h2 c51), ht⟩) (fun q hq => absurd hq List.not_mem_nil) dX0_isMet_59
      · refine lv_iconst (v := 1) hx hb dX0_isMet_54 (by decide) ?_
        refine lv_goto (tgt := 59) hx hb dX0_isMet_55 (by decide) ?_
        exact W.zret (v := 1) hx hb hr rfl (fun t ht hW => ⟨_, rfl, bq_t (by have q := hlv.resolve_right (fun z => z.1 c6); unfold held; rw [if_neg q.2]; exact tn_1 htu h2 c51), ht⟩) (fun q hq => absurd hq List.not_mem_nil) dX0_isMet_59
    · refine lv_aload_n hx hb dX0_isMet_47 rfl (lv_at hl 1 rfl) ?_
      refine pw_get (ref := "TripPanel$Condition") (C := RX0) (T := TX0) (N := 5) (ci := 0) (fs := (fsC σ α cj)) (v := .int (σ 12 cj)) hx hb hts hiX0 hown hK hP (cc_13 hcj hmc) rfl 4 (by decide) (by decide +kernel) rfl rfl dX0_isMet_48 ?_
      refine lv_icmp_eq (x := 0) (y := (σ 12 cj)) (tgt := 58) hx hb dX0_isMet_51 (by decide) (fun c51 => ?_) (fun c51 => ?_)
      · refine lv_iconst (v := 0) hx hb dX0_isMet_58 (by decide) ?_
        exact W.zret (v := 0) hx hb hr rfl (fun t ht hW => ⟨_, rfl, bq_f (by have q := hlv.resolve_right (fun z => z.1 c6); unfold held; rw [if_neg q.2]; exact tn_4 h2 c51), ht⟩) (fun q hq => absurd hq List.not_mem_nil) dX0_isMet_59
      · refine lv_iconst (v := 1) hx hb dX0_isMet_54 (by decide) ?_
        refine lv_goto (tgt := 59) hx hb dX0_isMet_55 (by decide) ?_
        exact W.zret (v := 1) hx hb hr rfl (fun t ht hW => ⟨_, rfl, bq_t (by have q := hlv.resolve_right (fun z => z.1 c6); unfold held; rw [if_neg q.2]; exact tn_3 htu h2 c51), ht⟩) (fun q hq => absurd hq List.not_mem_nil) dX0_isMet_59
