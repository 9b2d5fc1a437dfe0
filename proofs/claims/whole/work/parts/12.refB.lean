theorem cr_gh {cy : Nat → ClassId} {σ : SG} {α : AD} {k : Nat} {f : Nat → Int32} (hk : 30 ≤ k) : CR cy (sr σ k f) α = CR cy σ α := by
  have hf : fsR (sr σ k f) α = fsR σ α := by
    have h : ∀ a, a < 30 → sr σ k f a = σ a := fun a ha => sr_ne (by omega)
    simp only [fsR, h 25 (by omega), h 26 (by omega), h 27 (by omega), h 28 (by omega), h 29 (by omega)]
  funext a b
  unfold CR
  rw [hf]
  by_cases hb : b = 0
  · rw [if_pos hb, if_pos hb]
    by_cases ha : a = 0
    · rw [if_pos ha, if_pos ha]
    · rw [if_neg ha, if_neg ha]
      by_cases h26 : a < 26
      · rw [if_pos h26, if_pos h26, sr_ne (show a - 1 ≠ k by omega)]
      · rw [if_neg h26, if_neg h26]
  · rw [if_neg hb, if_neg hb]
theorem cN_of {x : Int32} {j : Nat} (h : x = nI j) (hj : j < 2 ^ 31) : cN x = j := by rw [h]; exact nI_clamp hj
theorem rel6 {r : Int32} : (0 ≤ r ∧ r < 6) ↔ isRel r := by
  constructor
  · intro h
    obtain ⟨j, hj, rfl⟩ := in_j (n := 6) (by decide) h
    rcases (show j = 0 ∨ j = 1 ∨ j = 2 ∨ j = 3 ∨ j = 4 ∨ j = 5 by omega) with h | h | h | h | h | h <;> subst h <;> decide
  · intro h
    rcases h with h | h | h | h | h | h <;> subst h <;> decide
theorem held_lv {σ : SG} {c a : Nat} (hf : σ 14 c = nI a) (ha : a < 16) (h : σ 15 c = -1) : held σ c = (rd (σ 1 a) (σ 2 a) (σ 13 c) (σ 1 a) (σ 16 c) != decide (σ 12 c ≠ 0)) := by
  have e : cN (σ 14 c) = a := cN_of hf (by omega)
  simp only [held, cA, cB, if_pos h, e]
theorem held_gg {σ : SG} {c a b : Nat} (hf : σ 14 c = nI a) (ha : a < 16) (h : ¬ σ 15 c = -1) (hs : σ 15 c = nI b) (hb : b < 16) : held σ c = (rd (σ 1 a) (σ 2 a) (σ 13 c) (σ 1 b) (σ 2 b) != decide (σ 12 c ≠ 0)) := by
  have e : cN (σ 14 c) = a := cN_of hf (by omega)
  have e2 : cN (σ 15 c) = b := cN_of hs (by omega)
  simp only [held, cA, cB, if_neg h, e, e2]
theorem tn_1 {X : Bool} {T : Int32} (ht : T = 0 ∨ T = 1) (hX : X = true) (c : ¬ 1 = T) : (X != decide (T ≠ 0)) = true := by
  rcases ht with e | e
  · subst e; subst hX; rfl
  · exact absurd e.symm c
theorem tn_2 {X : Bool} {T : Int32} (hX : X = true) (c : 1 = T) : ¬ (X != decide (T ≠ 0)) = true := by
  subst c; subst hX; decide
theorem tn_3 {X : Bool} {T : Int32} (ht : T = 0 ∨ T = 1) (hX : ¬ X = true) (c : ¬ 0 = T) : (X != decide (T ≠ 0)) = true := by
  rcases ht with e | e
  · exact absurd e.symm c
  · subst e; rw [Bool.not_eq_true] at hX; subst hX; decide
theorem tn_4 {X : Bool} {T : Int32} (hX : ¬ X = true) (c : 0 = T) : ¬ (X != decide (T ≠ 0)) = true := by
  rw [Bool.not_eq_true] at hX; subst c; subst hX; decide

set_option maxHeartbeats 4000000 in
set_option maxRecDepth 100000 in
theorem c_X5_make (l : Launch) (D : va_G) (cy : Nat → ClassId) (A : Nat → Prop) (α : AD) (σ : SG) (g b : Int32) (hb01 : b = 0 ∨ b = 1) : Met l yX5_make wsX5_make ({ frames := 1, cells := 0, slots := 0, locals := 21 } : Room) (va_Pc [.ref (α 0 0), .int g, .int b] (PB D cy A α (CR cy σ α))) (va_Qi (fun (r : Int32) (u : Unit) => r = (F_make σ g b).1) (fun u t => PW D A α (CR cy (F_make σ g b).2 α) t.heap) A) 0 0 A := by
  refine Met.ofW (cc := cX5_make) (maxL := 3) (ret := (some .int)) (by decide) rfl ?_
  intro p e s m args below meth c s₁ B hml hv
  obtain ⟨rfl, hP, hK⟩ := hv
  have hx := B.exec
  have hb := B.bytes
  have hr := B.returns
  have hts := atoms_spec (ws := wsX5_make) B.pre
  have hown : s.vm.findClass RX5 = some m.cls := findClass_of_methodNamed B.named
  have hlocks := B.notSynchronized
  have hiX5 : ∀ w ∈ wsX50, w ∈ wsX5_make := by decide +kernel
  have hS : va_S A s.heap s.heap [] := va_S.rf
  have hl := lv_entry ([.ref (α 0 0), .int g, .int b]) (n := 3) (Nat.le_of_ble_eq_true rfl)
  rw [lg_entry_eq]
  generalize (lg_sl ([.ref (α 0 0), .int g, .int b]) ++ List.replicate (3 - (lg_sl ([.ref (α 0 0), .int g, .int b])).length) Slot.unset).toArray = ls at hl ⊢
  have hl : lv_has ls 3 [(0, .ref (α 0 0)), (1, .int g), (2, .int b)] := hl
  skip
  refine lv_iload_n hx hb dX5_make_0 rfl (lv_at hl 1 rfl) ?_
  refine lv_bipush (v := 16) hx hb dX5_make_1 (by decide) ?_
  refine vp_callSi (W.runS (As := [.int g, .int 16]) (rest := []) ⟨hx, hb, hml, hown, hts⟩ (c_X5_isIn l g 16) (va_cwS 2 hts gX5_make_X5_isIn rfl rfl rfl (by decide +kernel) ⟨Nat.le_of_ble_eq_true rfl, Nat.le_of_ble_eq_true rfl⟩) ⟨pt_blind, pt_pre⟩ rfl rfl hl.1 rfl (lv_room (Nat.le_of_ble_eq_true rfl)) dX5_make_3 ⟨Nat.le_of_ble_eq_true rfl, Nat.le_of_ble_eq_true rfl⟩) (fun r hw => ?_)
  rcases hw with ⟨rfl, h1⟩ | ⟨rfl, h1⟩
  · obtain ⟨j2, hj3, hg4⟩ := in_j (n := 16) (by decide) h1
    have hc5 : cN g = j2 := cN_of hg4 (by omega)
    refine lv_if_ne (x := 1) (tgt := 12) hx hb dX5_make_6 (by decide) (fun c6 => ?_) (fun c => absurd c (by decide))
    refine lv_aload_n hx hb dX5_make_12 rfl (lv_at hl 0 rfl) ?_
    refine rf_get (v := .ref (α 1 0)) hx hb hts hiX5 hown hK hP 0 (by decide) (by decide +kernel) rfl rfl dX5_make_13 ?_
    refine lv_iload_n hx hb dX5_make_16 rfl (lv_at hl 1 rfl) ?_
    refine rf_zald hx hb hK hP 0 (by decide) rfl j2 hg4 hj3 dX5_make_17 ?_
    refine lv_if_eq (x := (σ 0 j2)) (tgt := 23) hx hb dX5_make_18 (by decide) (fun c18 => ?_) (fun c18 => ?_)
    · refine lv_aload_n hx hb dX5_make_23 rfl (lv_at hl 0 rfl) ?_
      refine rf_get (v := .ref (α 1 0)) hx hb hts hiX5 hown hK hP 0 (by decide) (by decide +kernel) rfl rfl dX5_make_24 ?_
      refine lv_iload_n hx hb dX5_make_27 rfl (lv_at hl 1 rfl) ?_
      refine lv_iconst (v := 1) hx hb dX5_make_28 (by decide) ?_
      refine rf_zast hx hb hK hP hS 0 (by decide) rfl (Or.inr rfl) j2 hg4 hj3 dX5_make_29 (fun H locs hP hz hS => ?_)
      refine lv_aload_n hx hb dX5_make_30 rfl (lv_at hl 0 rfl) ?_
      refine rf_get (v := .ref (α 2 0)) hx hb hts hiX5 hown hK hP 1 (by decide) (by decide +kernel) rfl rfl dX5_make_31 ?_
      refine lv_iload_n hx hb dX5_make_34 rfl (lv_at hl 1 rfl) ?_
      refine lv_iload_n hx hb dX5_make_35 rfl (lv_at hl 2 rfl) ?_
      refine rf_zast hx hb hK hP hS 1 (by decide) rfl hb01 j2 hg4 hj3 dX5_make_36 (fun H locs hP hz hS => ?_)
      refine lv_aload_n hx hb dX5_make_37 rfl (lv_at hl 0 rfl) ?_
      refine rf_get (v := .ref (α 3 0)) hx hb hts hiX5 hown hK hP 2 (by decide) (by decide +kernel) rfl rfl dX5_make_38 ?_
      refine lv_iload_n hx hb dX5_make_41 rfl (lv_at hl 1 rfl) ?_
      refine lv_ldc hx hb hown (hts (.constant RX5 103 (2000000000)) (by decide +kernel)) dX5_make_42 ?_
      refine rf_iast hx hb hK hP hS 2 (by decide) rfl j2 hg4 hj3 dX5_make_44 (fun H locs hP hz hS => ?_)
      refine lv_aload_n hx hb dX5_make_45 rfl (lv_at hl 0 rfl) ?_
      refine rf_get (v := .ref (α 4 0)) hx hb hts hiX5 hown hK hP 3 (by decide) (by decide +kernel) rfl rfl dX5_make_46 ?_
      refine lv_iload_n hx hb dX5_make_49 rfl (lv_at hl 1 rfl) ?_
      refine lv_ldc hx hb hown (hts (.constant RX5 103 (2000000000)) (by decide +kernel)) dX5_make_50 ?_
      refine rf_iast hx hb hK hP hS 3 (by decide) rfl j2 hg4 hj3 dX5_make_52 (fun H locs hP hz hS => ?_)
      refine lv_aload_n hx hb dX5_make_53 rfl (lv_at hl 0 rfl) ?_
      refine rf_get (v := .ref (α 5 0)) hx hb hts hiX5 hown hK hP 4 (by decide) (by decide +kernel) rfl rfl dX5_make_54 ?_
      refine lv_iload_n hx hb dX5_make_57 rfl (lv_at hl 1 rfl) ?_
      refine lv_ldc hx hb hown (hts (.constant RX5 103 (2000000000)) (by decide +kernel)) dX5_make_58 ?_
      refine rf_iast hx hb hK hP hS 4 (by decide) rfl j2 hg4 hj3 dX5_make_60 (fun H locs hP hz hS => ?_)
      refine lv_aload_n hx hb dX5_make_61 rfl (lv_at hl 0 rfl) ?_
      refine rf_get (v := .ref (α 7 0)) hx hb hts hiX5 hown hK hP 6 (by decide) (by decide +kernel) rfl rfl dX5_make_62 ?_
      refine lv_iload_n hx hb dX5_make_65 rfl (lv_at hl 1 rfl) ?_
      refine lv_ldc hx hb hown (hts (.constant RX5 103 (2000000000)) (by decide +kernel)) dX5_make_66 ?_
      refine rf_iast hx hb hK hP hS 6 (by decide) rfl j2 hg4 hj3 dX5_make_68 (fun H locs hP hz hS => ?_)
      refine lv_aload_n hx hb dX5_make_69 rfl (lv_at hl 0 rfl) ?_
      refine rf_get (v := .ref (α 8 0)) hx hb hts hiX5 hown hK hP 7 (by decide) (by decide +kernel) rfl rfl dX5_make_70 ?_
      refine lv_iload_n hx hb dX5_make_73 rfl (lv_at hl 1 rfl) ?_
      refine lv_ldc hx hb hown (hts (.constant RX5 103 (2000000000)) (by decide +kernel)) dX5_make_74 ?_
      refine rf_iast hx hb hK hP hS 7 (by decide) rfl j2 hg4 hj3 dX5_make_76 (fun H locs hP hz hS => ?_)
      refine lv_iconst (v := 1) hx hb dX5_make_77 (by decide) ?_
      have eF : F_make σ g b = (1, (st (st (st (st (st (st (st σ 0 j2 1) 1 j2 b) 2 j2 2000000000) 3 j2 2000000000) 4 j2 2000000000) 6 j2 2000000000) 7 j2 2000000000)) := by simp [F_make, h1, c18, hc5]
      exact W.iret (v := 1) hx hb hr (fun t ht hW => ⟨⟨_, (), rfl, (by rw [eF]), by dsimp only; rw [ht]; exact (by rw [eF]; exact hP)⟩, hS.F ht⟩) hS.2.2 dX5_make_78
    · refine lv_iconst (v := 0) hx hb dX5_make_21 (by decide) ?_
      have eF : F_make σ g b = (0, σ) := by simp [F_make, h1, c18, hc5]
      exact W.iret (v := 0) hx hb hr (fun t ht hW => ⟨⟨_, (), rfl, (by rw [eF]), by dsimp only; rw [ht]; exact (by rw [eF]; exact hP)⟩, hS.F ht⟩) hS.2.2 dX5_make_22
  · refine lv_if_ne (x := 0) (tgt := 12) hx hb dX5_make_6 (by decide) (fun c => absurd (by decide) c) (fun c6 => ?_)
    refine lv_bipush (v := (-4)) hx hb dX5_make_9 (by decide) ?_
    have eF : F_make σ g b = ((-4), σ) := by simp [F_make, h1]
    exact W.iret (v := (-4)) hx hb hr (fun t ht hW => ⟨⟨_, (), rfl, (by rw [eF]), by dsimp only; rw [ht]; exact (by rw [eF]; exact hP)⟩, hS.F ht⟩) hS.2.2 dX5_make_11

set_option maxHeartbeats 4000000 in
set_option maxRecDepth 100000 in
theorem c_X5_limit (l : Launch) (D : va_G) (cy : Nat → ClassId) (A : Nat → Prop) (α : AD) (σ : SG) (g b n : Int32) : Met l yX5_limit wsX5_limit ({ frames := 2, cells := 0, slots := 0, locals := 42 } : Room) (va_Pc [.ref (α 0 0), .int g, .int b, .int n] (PB D cy A α (CR cy σ α))) (va_Qi (fun (r : Int32) (u : Unit) => r = (F_limit σ g b n).1) (fun u t => PW D A α (CR cy (F_limit σ g b n).2 α) t.heap) A) 0 0 A := by
  refine Met.ofW (cc := cX5_limit) (maxL := 4) (ret := (some .int)) (by decide) rfl ?_
  intro p e s m args below meth c s₁ B hml hv
  obtain ⟨rfl, hP, hK⟩ := hv
  have hx := B.exec
  have hb := B.bytes
  have hr := B.returns
  have hts := atoms_spec (ws := wsX5_limit) B.pre
  have hown : s.vm.findClass RX5 = some m.cls := findClass_of_methodNamed B.named
  have hlocks := B.notSynchronized
  have hiX5 : ∀ w ∈ wsX50, w ∈ wsX5_limit := by decide +kernel
  have hS : va_S A s.heap s.heap [] := va_S.rf
  have hl := lv_entry ([.ref (α 0 0), .int g, .int b, .int n]) (n := 4) (Nat.le_of_ble_eq_true rfl)
  rw [lg_entry_eq]
  generalize (lg_sl ([.ref (α 0 0), .int g, .int b, .int n]) ++ List.replicate (4 - (lg_sl ([.ref (α 0 0), .int g, .int b, .int n])).length) Slot.unset).toArray = ls at hl ⊢
  have hl : lv_has ls 4 [(0, .ref (α 0 0)), (1, .int g), (2, .int b), (3, .int n)] := hl
  skip
  refine lv_iload_n hx hb dX5_limit_0 rfl (lv_at hl 3 rfl) ?_
  refine vp_callSi (W.runS (As := [.int n]) (rest := []) ⟨hx, hb, hml, hown, hts⟩ (c_X5_isNumber l n) (va_cwS 1 hts gX5_limit_X5_isNumber rfl rfl rfl (by decide +kernel) ⟨Nat.le_of_ble_eq_true rfl, Nat.le_of_ble_eq_true rfl⟩) ⟨pt_blind, pt_pre⟩ rfl rfl hl.1 rfl (lv_room (Nat.le_of_ble_eq_true rfl)) dX5_limit_1 ⟨Nat.le_of_ble_eq_true rfl, Nat.le_of_ble_eq_true rfl⟩) (fun r hw => ?_)
  rcases hw with ⟨rfl, h1⟩ | ⟨rfl, h1⟩
  · refine lv_if_ne (x := 1) (tgt := 10) hx hb dX5_limit_4 (by decide) (fun c4 => ?_) (fun c => absurd c (by decide))
    refine lv_aload_n hx hb dX5_limit_10 rfl (lv_at hl 0 rfl) ?_
    refine lv_iload_n hx hb dX5_limit_11 rfl (lv_at hl 1 rfl) ?_
    refine vp_callSi (W.runV (As := [.int g]) (rest := []) ⟨hx, hb, hml, hown, hts⟩ (c_X5_isGauge l D cy A α σ g) (cwV 1 hts gX5_limit_X5_isGauge rfl rfl rfl (by decide +kernel) ⟨Nat.le_of_ble_eq_true rfl, Nat.le_of_ble_eq_true rfl⟩) ⟨pb_blind, pw_recv hP hK cr_obj rfl, pb_pre hP hK⟩ rfl rfl hl.1 rfl (lv_room (Nat.le_of_ble_eq_true rfl)) dX5_limit_12 ⟨Nat.le_of_ble_eq_true rfl, Nat.le_of_ble_eq_true rfl⟩) (fun r hw => ?_)
    rcases hw with ⟨rfl, j3, hx4, hj5, hg6, hm7⟩ | ⟨rfl, h2⟩
    · refine lv_if_ne (x := 1) (tgt := 21) hx hb dX5_limit_15 (by decide) (fun c15 => ?_) (fun c => absurd c (by decide))
      refine lv_iload_n hx hb dX5_limit_21 rfl (lv_at hl 2 rfl) ?_
      refine lv_if_eq (x := b) (tgt := 35) hx hb dX5_limit_22 (by decide) (fun c22 => ?_) (fun c22 => ?_)
      · refine lv_aload_n hx hb dX5_limit_35 rfl (lv_at hl 0 rfl) ?_
        refine rf_get (v := .ref (α 4 0)) hx hb hts hiX5 hown hK hP 3 (by decide) (by decide +kernel) rfl rfl dX5_limit_36 ?_
        refine lv_iload_n hx hb dX5_limit_39 rfl (lv_at hl 1 rfl) ?_
        refine lv_iload_n hx hb dX5_limit_40 rfl (lv_at hl 3 rfl) ?_
        refine rf_iast hx hb hK hP hS 3 (by decide) rfl j3 hg6 hj5 dX5_limit_41 (fun H locs hP hz hS => ?_)
        refine lv_iconst (v := 1) hx hb dX5_limit_42 (by decide) ?_
        have eF : F_limit σ g b n = (1, (st σ 3 j3 n)) := by simp [F_limit, h1, hx4, c22]
        exact W.iret (v := 1) hx hb hr (fun t ht hW => ⟨⟨_, (), rfl, (by rw [eF]), by dsimp only; rw [ht]; exact (by rw [eF]; exact hP)⟩, hS.F ht⟩) hS.2.2 dX5_limit_43
      · refine lv_aload_n hx hb dX5_limit_25 rfl (lv_at hl 0 rfl) ?_
        refine rf_get (v := .ref (α 5 0)) hx hb hts hiX5 hown hK hP 4 (by decide) (by decide +kernel) rfl rfl dX5_limit_26 ?_
        refine lv_iload_n hx hb dX5_limit_29 rfl (lv_at hl 1 rfl) ?_
        refine lv_iload_n hx hb dX5_limit_30 rfl (lv_at hl 3 rfl) ?_
        refine rf_iast hx hb hK hP hS 4 (by decide) rfl j3 hg6 hj5 dX5_limit_31 (fun H locs hP hz hS => ?_)
        refine lv_goto (tgt := 42) hx hb dX5_limit_32 (by decide) ?_
        refine lv_iconst (v := 1) hx hb dX5_limit_42 (by decide) ?_
        have eF : F_limit σ g b n = (1, (st σ 4 j3 n)) := by simp [F_limit, h1, hx4, c22]
        exact W.iret (v := 1) hx hb hr (fun t ht hW => ⟨⟨_, (), rfl, (by rw [eF]), by dsimp only; rw [ht]; exact (by rw [eF]; exact hP)⟩, hS.F ht⟩) hS.2.2 dX5_limit_43
    · refine lv_if_ne (x := 0) (tgt := 21) hx hb dX5_limit_15 (by decide) (fun c => absurd (by decide) c) (fun c15 => ?_)
      refine lv_bipush (v := (-2)) hx hb dX5_limit_18 (by decide) ?_
      have eF : F_limit σ g b n = ((-2), σ) := by simp [F_limit, h1, h2]
      exact W.iret (v := (-2)) hx hb hr (fun t ht hW => ⟨⟨_, (), rfl, (by rw [eF]), by dsimp only; rw [ht]; exact (by rw [eF]; exact hP)⟩, hS.F ht⟩) hS.2.2 dX5_limit_20
  · refine lv_if_ne (x := 0) (tgt := 10) hx hb dX5_limit_4 (by decide) (fun c => absurd (by decide) c) (fun c4 => ?_)
    refine lv_bipush (v := (-4)) hx hb dX5_limit_7 (by decide) ?_
    have eF : F_limit σ g b n = ((-4), σ) := by simp [F_limit, h1]
    exact W.iret (v := (-4)) hx hb hr (fun t ht hW => ⟨⟨_, (), rfl, (by rw [eF]), by dsimp only; rw [ht]; exact (by rw [eF]; exact hP)⟩, hS.F ht⟩) hS.2.2 dX5_limit_9

set_option maxHeartbeats 4000000 in
set_option maxRecDepth 100000 in
theorem c_X5_open (l : Launch) (D : va_G) (cy : Nat → ClassId) (A : Nat → Prop) (α : AD) (σ : SG) (g b : Int32) : Met l yX5_open wsX5_open ({ frames := 2, cells := 0, slots := 0, locals := 42 } : Room) (va_Pc [.ref (α 0 0), .int g, .int b] (PB D cy A α (CR cy σ α))) (va_Qi (fun (r : Int32) (u : Unit) => r = (F_open σ g b).1) (fun u t => PW D A α (CR cy (F_open σ g b).2 α) t.heap) A) 0 0 A := by
  refine Met.ofW (cc := cX5_open) (maxL := 4) (ret := (some .int)) (by decide) rfl ?_
  intro p e s m args below meth c s₁ B hml hv
  obtain ⟨rfl, hP, hK⟩ := hv
  have hx := B.exec
  have hb := B.bytes
  have hr := B.returns
  have hts := atoms_spec (ws := wsX5_open) B.pre
  have hown : s.vm.findClass RX5 = some m.cls := findClass_of_methodNamed B.named
  have hlocks := B.notSynchronized
  have hiX5 : ∀ w ∈ wsX50, w ∈ wsX5_open := by decide +kernel
  have hS : va_S A s.heap s.heap [] := va_S.rf
  have hl := lv_entry ([.ref (α 0 0), .int g, .int b]) (n := 4) (Nat.le_of_ble_eq_true rfl)
  rw [lg_entry_eq]
  generalize (lg_sl ([.ref (α 0 0), .int g, .int b]) ++ List.replicate (4 - (lg_sl ([.ref (α 0 0), .int g, .int b])).length) Slot.unset).toArray = ls at hl ⊢
  have hl : lv_has ls 4 [(0, .ref (α 0 0)), (1, .int g), (2, .int b)] := hl
  skip
  refine lv_aload_n hx hb dX5_open_0 rfl (lv_at hl 0 rfl) ?_
  refine lv_iload_n hx hb dX5_open_1 rfl (lv_at hl 1 rfl) ?_
  refine vp_callSi (W.runV (As := [.int g]) (rest := []) ⟨hx, hb, hml, hown, hts⟩ (c_X5_isGauge l D cy A α σ g) (cwV 1 hts gX5_open_X5_isGauge rfl rfl rfl (by decide +kernel) ⟨Nat.le_of_ble_eq_true rfl, Nat.le_of_ble_eq_true rfl⟩) ⟨pb_blind, pw_recv hP hK cr_obj rfl, pb_pre hP hK⟩ rfl rfl hl.1 rfl (lv_room (Nat.le_of_ble_eq_true rfl)) dX5_open_2 ⟨Nat.le_of_ble_eq_true rfl, Nat.le_of_ble_eq_true rfl⟩) (fun r hw => ?_)
  rcases hw with ⟨rfl, j2, hx3, hj4, hg5, hm6⟩ | ⟨rfl, h1⟩
  · refine lv_if_ne (x := 1) (tgt := 11) hx hb dX5_open_5 (by decide) (fun c5 => ?_) (fun c => absurd c (by decide))
    refine lv_iload_n hx hb dX5_open_11 rfl (lv_at hl 2 rfl) ?_
    refine lv_if_eq (x := b) (tgt := 24) hx hb dX5_open_12 (by decide) (fun c12 => ?_) (fun c12 => ?_)
    · refine lv_aload_n hx hb dX5_open_24 rfl (lv_at hl 0 rfl) ?_
      refine rf_get (v := .ref (α 4 0)) hx hb hts hiX5 hown hK hP 3 (by decide) (by decide +kernel) rfl rfl dX5_open_25 ?_
      refine lv_iload_n hx hb dX5_open_28 rfl (lv_at hl 1 rfl) ?_
      refine rf_iald hx hb hK hP 3 (by decide) rfl j2 hg5 hj4 dX5_open_29 ?_
      refine lv_istore_n (lv' := [(3, .int (σ 3 j2)), (0, .ref (α 0 0)), (1, .int g), (2, .int b)]) hx hb dX5_open_30 rfl hl (by decide) rfl (fun ls hl => ?_)
      refine lv_iload_n hx hb dX5_open_31 rfl (lv_at hl 3 rfl) ?_
      refine lv_if_eq (x := b) (tgt := 46) hx hb dX5_open_32 (by decide) (fun c32 => ?_) (fun c => absurd c12 c)
      refine lv_aload_n hx hb dX5_open_46 rfl (lv_at hl 1 rfl) ?_
      refine rf_get (v := .ref (α 4 0)) hx hb hts hiX5 hown hK hP 3 (by decide) (by decide +kernel) rfl rfl dX5_open_47 ?_
      refine lv_iload_n hx hb dX5_open_50 rfl (lv_at hl 2 rfl) ?_
      refine lv_ldc hx hb hown (hts (.constant RX5 103 (2000000000)) (by decide +kernel)) dX5_open_51 ?_
      refine rf_iast hx hb hK hP hS 3 (by decide) rfl j2 hg5 hj4 dX5_open_53 (fun H locs hP hz hS => ?_)
      refine lv_iload_n hx hb dX5_open_54 rfl (lv_at hl 0 rfl) ?_
      refine lv_ldc hx hb hown (hts (.constant RX5 103 (2000000000)) (by decide +kernel)) dX5_open_55 ?_
      refine lv_icmp_ne (x := (σ 3 j2)) (y := 2000000000) (tgt := 64) hx hb dX5_open_57 (by decide) (fun c57 => ?_) (fun c57 => ?_)
      · refine lv_iconst (v := 1) hx hb dX5_open_64 (by decide) ?_
        have eF : F_open σ g b = (1, (st σ 3 j2 2000000000)) := by simp [F_open, hx3, c12, c57]
        exact W.iret (v := 1) hx hb hr (fun t ht hW => ⟨⟨_, (), rfl, (by rw [eF]), by dsimp only; rw [ht]; exact (by rw [eF]; exact hP)⟩, hS.F ht⟩) hS.2.2 dX5_open_65
      · refine lv_iconst (v := 0) hx hb dX5_open_60 (by decide) ?_
        refine lv_goto (tgt := 65) hx hb dX5_open_61 (by decide) ?_
        have eF : F_open σ g b = (0, (st σ 3 j2 2000000000)) := by simp [F_open, hx3, c12, c57]
        exact W.iret (v := 0) hx hb hr (fun t ht hW => ⟨⟨_, (), rfl, (by rw [eF]), by dsimp only; rw [ht]; exact (by rw [eF]; exact hP)⟩, hS.F ht⟩) hS.2.2 dX5_open_65
    · refine lv_aload_n hx hb dX5_open_15 rfl (lv_at hl 0 rfl) ?_
      refine rf_get (v := .ref (α 5 0)) hx hb hts hiX5 hown hK hP 4 (by decide) (by decide +kernel) rfl rfl dX5_open_16 ?_
      refine lv_iload_n hx hb dX5_open_19 rfl (lv_at hl 1 rfl) ?_
      refine rf_iald hx hb hK hP 4 (by decide) rfl j2 hg5 hj4 dX5_open_20 ?_
      refine lv_goto (tgt := 30) hx hb dX5_open_21 (by decide) ?_
      refine lv_istore_n (lv' := [(3, .int (σ 4 j2)), (0, .ref (α 0 0)), (1, .int g), (2, .int b)]) hx hb dX5_open_30 rfl hl (by decide) rfl (fun ls hl => ?_)
      refine lv_iload_n hx hb dX5_open_31 rfl (lv_at hl 3 rfl) ?_
      refine lv_if_eq (x := b) (tgt := 46) hx hb dX5_open_32 (by decide) (fun c => absurd c c12) (fun c32 => ?_)
      refine lv_aload_n hx hb dX5_open_35 rfl (lv_at hl 1 rfl) ?_
      refine rf_get (v := .ref (α 5 0)) hx hb hts hiX5 hown hK hP 4 (by decide) (by decide +kernel) rfl rfl dX5_open_36 ?_
      refine lv_iload_n hx hb dX5_open_39 rfl (lv_at hl 2 rfl) ?_
      refine lv_ldc hx hb hown (hts (.constant RX5 103 (2000000000)) (by decide +kernel)) dX5_open_40 ?_
      refine rf_iast hx hb hK hP hS 4 (by decide) rfl j2 hg5 hj4 dX5_open_42 (fun H locs hP hz hS => ?_)
      refine lv_goto (tgt := 54) hx hb dX5_open_43 (by decide) ?_
      refine lv_iload_n hx hb dX5_open_54 rfl (lv_at hl 0 rfl) ?_
      refine lv_ldc hx hb hown (hts (.constant RX5 103 (2000000000)) (by decide +kernel)) dX5_open_55 ?_
      refine lv_icmp_ne (x := (σ 4 j2)) (y := 2000000000) (tgt := 64) hx hb dX5_open_57 (by decide) (fun c57 => ?_) (fun c57 => ?_)
      · refine lv_iconst (v := 1) hx hb dX5_open_64 (by decide) ?_
        have eF : F_open σ g b = (1, (st σ 4 j2 2000000000)) := by simp [F_open, hx3, c12, c57]
        exact W.iret (v := 1) hx hb hr (fun t ht hW => ⟨⟨_, (), rfl, (by rw [eF]), by dsimp only; rw [ht]; exact (by rw [eF]; exact hP)⟩, hS.F ht⟩) hS.2.2 dX5_open_65
      · refine lv_iconst (v := 0) hx hb dX5_open_60 (by decide) ?_
        refine lv_goto (tgt := 65) hx hb dX5_open_61 (by decide) ?_
        have eF : F_open σ g b = (0, (st σ 4 j2 2000000000)) := by simp [F_open, hx3, c12, c57]
        exact W.iret (v := 0) hx hb hr (fun t ht hW => ⟨⟨_, (), rfl, (by rw [eF]), by dsimp only; rw [ht]; exact (by rw [eF]; exact hP)⟩, hS.F ht⟩) hS.2.2 dX5_open_65
  · refine lv_if_ne (x := 0) (tgt := 11) hx hb dX5_open_5 (by decide) (fun c => absurd (by decide) c) (fun c5 => ?_)
    refine lv_bipush (v := (-2)) hx hb dX5_open_8 (by decide) ?_
    have eF : F_open σ g b = ((-2), σ) := by simp [F_open, h1]
    exact W.iret (v := (-2)) hx hb hr (fun t ht hW => ⟨⟨_, (), rfl, (by rw [eF]), by dsimp only; rw [ht]; exact (by rw [eF]; exact hP)⟩, hS.F ht⟩) hS.2.2 dX5_open_10

set_option maxHeartbeats 4000000 in
set_option maxRecDepth 100000 in
theorem c_X5_band (l : Launch) (D : va_G) (cy : Nat → ClassId) (A : Nat → Prop) (α : AD) (σ : SG) (g n : Int32) : Met l yX5_band wsX5_band ({ frames := 2, cells := 0, slots := 0, locals := 42 } : Room) (va_Pc [.ref (α 0 0), .int g, .int n] (PB D cy A α (CR cy σ α))) (va_Qi (fun (r : Int32) (u : Unit) => r = (F_band σ g n).1) (fun u t => PW D A α (CR cy (F_band σ g n).2 α) t.heap) A) 0 0 A := by
  refine Met.ofW (cc := cX5_band) (maxL := 3) (ret := (some .int)) (by decide) rfl ?_
  intro p e s m args below meth c s₁ B hml hv
  obtain ⟨rfl, hP, hK⟩ := hv
  have hx := B.exec
  have hb := B.bytes
  have hr := B.returns
  have hts := atoms_spec (ws := wsX5_band) B.pre
  have hown : s.vm.findClass RX5 = some m.cls := findClass_of_methodNamed B.named
  have hlocks := B.notSynchronized
  have hiX5 : ∀ w ∈ wsX50, w ∈ wsX5_band := by decide +kernel
  have hS : va_S A s.heap s.heap [] := va_S.rf
  have hl := lv_entry ([.ref (α 0 0), .int g, .int n]) (n := 3) (Nat.le_of_ble_eq_true rfl)
  rw [lg_entry_eq]
  generalize (lg_sl ([.ref (α 0 0), .int g, .int n]) ++ List.replicate (3 - (lg_sl ([.ref (α 0 0), .int g, .int n])).length) Slot.unset).toArray = ls at hl ⊢
  have hl : lv_has ls 3 [(0, .ref (α 0 0)), (1, .int g), (2, .int n)] := hl
  skip
  refine lv_iload_n hx hb dX5_band_0 rfl (lv_at hl 2 rfl) ?_
  refine lv_if_lt (x := n) (tgt := 10) hx hb dX5_band_1 (by decide) (fun c1 => ?_) (fun c1 => ?_)
  · refine lv_bipush (v := (-4)) hx hb dX5_band_10 (by decide) ?_
    have eF : F_band σ g n = ((-4), σ) := by simp [F_band, c1]
    exact W.iret (v := (-4)) hx hb hr (fun t ht hW => ⟨⟨_, (), rfl, (by rw [eF]), by dsimp only; rw [ht]; exact (by rw [eF]; exact hP)⟩, hS.F ht⟩) hS.2.2 dX5_band_12
  · refine lv_iload_n hx hb dX5_band_4 rfl (lv_at hl 2 rfl) ?_
    refine lv_ldc hx hb hown (hts (.constant RX5 119 (1000000)) (by decide +kernel)) dX5_band_5 ?_
    refine lv_icmp_le (x := n) (y := 1000000) (tgt := 13) hx hb dX5_band_7 (by decide) (fun c7 => ?_) (fun c7 => ?_)
    · refine lv_aload_n hx hb dX5_band_13 rfl (lv_at hl 0 rfl) ?_
      refine lv_iload_n hx hb dX5_band_14 rfl (lv_at hl 1 rfl) ?_
      refine vp_callSi (W.runV (As := [.int g]) (rest := []) ⟨hx, hb, hml, hown, hts⟩ (c_X5_isGauge l D cy A α σ g) (cwV 1 hts gX5_band_X5_isGauge rfl rfl rfl (by decide +kernel) ⟨Nat.le_of_ble_eq_true rfl, Nat.le_of_ble_eq_true rfl⟩) ⟨pb_blind, pw_recv hP hK cr_obj rfl, pb_pre hP hK⟩ rfl rfl hl.1 rfl (lv_room (Nat.le_of_ble_eq_true rfl)) dX5_band_15 ⟨Nat.le_of_ble_eq_true rfl, Nat.le_of_ble_eq_true rfl⟩) (fun r hw => ?_)
      rcases hw with ⟨rfl, j2, hx3, hj4, hg5, hm6⟩ | ⟨rfl, h1⟩
      · refine lv_if_ne (x := 1) (tgt := 24) hx hb dX5_band_18 (by decide) (fun c18 => ?_) (fun c => absurd c (by decide))
        refine lv_aload_n hx hb dX5_band_24 rfl (lv_at hl 0 rfl) ?_
        refine rf_get (v := .ref (α 6 0)) hx hb hts hiX5 hown hK hP 5 (by decide) (by decide +kernel) rfl rfl dX5_band_25 ?_
        refine lv_iload_n hx hb dX5_band_28 rfl (lv_at hl 1 rfl) ?_
        refine lv_iload_n hx hb dX5_band_29 rfl (lv_at hl 2 rfl) ?_
        refine rf_iast hx hb hK hP hS 5 (by decide) rfl j2 hg5 hj4 dX5_band_30 (fun H locs hP hz hS => ?_)
        refine lv_iconst (v := 1) hx hb dX5_band_31 (by decide) ?_
        have eF : F_band σ g n = (1, (st σ 5 j2 n)) := by simp [F_band, hx3, c1, c7]
        exact W.iret (v := 1) hx hb hr (fun t ht hW => ⟨⟨_, (), rfl, (by rw [eF]), by dsimp only; rw [ht]; exact (by rw [eF]; exact hP)⟩, hS.F ht⟩) hS.2.2 dX5_band_32
      · refine lv_if_ne (x := 0) (tgt := 24) hx hb dX5_band_18 (by decide) (fun c => absurd (by decide) c) (fun c18 => ?_)
        refine lv_bipush (v := (-2)) hx hb dX5_band_21 (by decide) ?_
        have eF : F_band σ g n = ((-2), σ) := by simp [F_band, h1, c1, c7]
        exact W.iret (v := (-2)) hx hb hr (fun t ht hW => ⟨⟨_, (), rfl, (by rw [eF]), by dsimp only; rw [ht]; exact (by rw [eF]; exact hP)⟩, hS.F ht⟩) hS.2.2 dX5_band_23
    · refine lv_bipush (v := (-4)) hx hb dX5_band_10 (by decide) ?_
      have eF : F_band σ g n = ((-4), σ) := by simp [F_band, c7]
      exact W.iret (v := (-4)) hx hb hr (fun t ht hW => ⟨⟨_, (), rfl, (by rw [eF]), by dsimp only; rw [ht]; exact (by rw [eF]; exact hP)⟩, hS.F ht⟩) hS.2.2 dX5_band_12

set_option maxHeartbeats 4000000 in
set_option maxRecDepth 100000 in
theorem c_X5_clear (l : Launch) (D : va_G) (cy : Nat → ClassId) (A : Nat → Prop) (α : AD) (σ : SG) (g : Int32) : Met l yX5_clear wsX5_clear ({ frames := 2, cells := 0, slots := 0, locals := 42 } : Room) (va_Pc [.ref (α 0 0), .int g] (PB D cy A α (CR cy σ α))) (va_Qi (fun (r : Int32) (u : Unit) => r = (F_clear σ g).1) (fun u t => PW D A α (CR cy (F_clear σ g).2 α) t.heap) A) 0 0 A := by
  refine Met.ofW (cc := cX5_clear) (maxL := 2) (ret := (some .int)) (by decide) rfl ?_
  intro p e s m args below meth c s₁ B hml hv
  obtain ⟨rfl, hP, hK⟩ := hv
  have hx := B.exec
  have hb := B.bytes
  have hr := B.returns
  have hts := atoms_spec (ws := wsX5_clear) B.pre
  have hown : s.vm.findClass RX5 = some m.cls := findClass_of_methodNamed B.named
  have hlocks := B.notSynchronized
  have hiX5 : ∀ w ∈ wsX50, w ∈ wsX5_clear := by decide +kernel
  have hS : va_S A s.heap s.heap [] := va_S.rf
  have hl := lv_entry ([.ref (α 0 0), .int g]) (n := 2) (Nat.le_of_ble_eq_true rfl)
  rw [lg_entry_eq]
  generalize (lg_sl ([.ref (α 0 0), .int g]) ++ List.replicate (2 - (lg_sl ([.ref (α 0 0), .int g])).length) Slot.unset).toArray = ls at hl ⊢
  have hl : lv_has ls 2 [(0, .ref (α 0 0)), (1, .int g)] := hl
  skip
  refine lv_aload_n hx hb dX5_clear_0 rfl (lv_at hl 0 rfl) ?_
  refine lv_iload_n hx hb dX5_clear_1 rfl (lv_at hl 1 rfl) ?_
  refine vp_callSi (W.runV (As := [.int g]) (rest := []) ⟨hx, hb, hml, hown, hts⟩ (c_X5_isGauge l D cy A α σ g) (cwV 1 hts gX5_clear_X5_isGauge rfl rfl rfl (by decide +kernel) ⟨Nat.le_of_ble_eq_true rfl, Nat.le_of_ble_eq_true rfl⟩) ⟨pb_blind, pw_recv hP hK cr_obj rfl, pb_pre hP hK⟩ rfl rfl hl.1 rfl (lv_room (Nat.le_of_ble_eq_true rfl)) dX5_clear_2 ⟨Nat.le_of_ble_eq_true rfl, Nat.le_of_ble_eq_true rfl⟩) (fun r hw => ?_)
  rcases hw with ⟨rfl, j2, hx3, hj4, hg5, hm6⟩ | ⟨rfl, h1⟩
  · refine lv_if_ne (x := 1) (tgt := 11) hx hb dX5_clear_5 (by decide) (fun c5 => ?_) (fun c => absurd c (by decide))
    refine lv_aload_n hx hb dX5_clear_11 rfl (lv_at hl 0 rfl) ?_
    refine rf_get (v := .ref (α 7 0)) hx hb hts hiX5 hown hK hP 6 (by decide) (by decide +kernel) rfl rfl dX5_clear_12 ?_
    refine lv_iload_n hx hb dX5_clear_15 rfl (lv_at hl 1 rfl) ?_
    refine lv_ldc hx hb hown (hts (.constant RX5 103 (2000000000)) (by decide +kernel)) dX5_clear_16 ?_
    refine rf_iast hx hb hK hP hS 6 (by decide) rfl j2 hg5 hj4 dX5_clear_18 (fun H locs hP hz hS => ?_)
    refine lv_aload_n hx hb dX5_clear_19 rfl (lv_at hl 0 rfl) ?_
    refine rf_get (v := .ref (α 8 0)) hx hb hts hiX5 hown hK hP 7 (by decide) (by decide +kernel) rfl rfl dX5_clear_20 ?_
    refine lv_iload_n hx hb dX5_clear_23 rfl (lv_at hl 1 rfl) ?_
    refine lv_ldc hx hb hown (hts (.constant RX5 103 (2000000000)) (by decide +kernel)) dX5_clear_24 ?_
    refine rf_iast hx hb hK hP hS 7 (by decide) rfl j2 hg5 hj4 dX5_clear_26 (fun H locs hP hz hS => ?_)
    refine lv_aload_n hx hb dX5_clear_27 rfl (lv_at hl 0 rfl) ?_
    refine rf_get (v := .ref (α 11 0)) hx hb hts hiX5 hown hK hP 10 (by decide) (by decide +kernel) rfl rfl dX5_clear_28 ?_
    refine lv_iload_n hx hb dX5_clear_31 rfl (lv_at hl 1 rfl) ?_
    refine lv_iconst (v := 0) hx hb dX5_clear_32 (by decide) ?_
    refine rf_iast hx hb hK hP hS 10 (by decide) rfl j2 hg5 hj4 dX5_clear_33 (fun H locs hP hz hS => ?_)
    refine lv_iconst (v := 1) hx hb dX5_clear_34 (by decide) ?_
    have eF : F_clear σ g = (1, (st (st (st σ 6 j2 2000000000) 7 j2 2000000000) 10 j2 0)) := by simp [F_clear, hx3]
    exact W.iret (v := 1) hx hb hr (fun t ht hW => ⟨⟨_, (), rfl, (by rw [eF]), by dsimp only; rw [ht]; exact (by rw [eF]; exact hP)⟩, hS.F ht⟩) hS.2.2 dX5_clear_35
  · refine lv_if_ne (x := 0) (tgt := 11) hx hb dX5_clear_5 (by decide) (fun c => absurd (by decide) c) (fun c5 => ?_)
    refine lv_bipush (v := (-2)) hx hb dX5_clear_8 (by decide) ?_
    have eF : F_clear σ g = ((-2), σ) := by simp [F_clear, h1]
    exact W.iret (v := (-2)) hx hb hr (fun t ht hW => ⟨⟨_, (), rfl, (by rw [eF]), by dsimp only; rw [ht]; exact (by rw [eF]; exact hP)⟩, hS.F ht⟩) hS.2.2 dX5_clear_10

set_option maxHeartbeats 4000000 in
set_option maxRecDepth 100000 in
theorem c_X5_shown (l : Launch) (D : va_G) (cy : Nat → ClassId) (A : Nat → Prop) (α : AD) (σ : SG) (g : Int32) : Met l yX5_shown wsX5_shown ({ frames := 2, cells := 0, slots := 0, locals := 42 } : Room) (va_Pc [.ref (α 0 0), .int g] (PB D cy A α (CR cy σ α))) (vp_Si (fun r => r = F_shown σ g)) 0 0 (fun _ => False) := by
  refine Met.ofW (cc := cX5_shown) (maxL := 2) (ret := (some .int)) (by decide) rfl ?_
  intro p e s m args below meth c s₁ B hml hv
  obtain ⟨rfl, hP, hK⟩ := hv
  have hx := B.exec
  have hb := B.bytes
  have hr := B.returns
  have hts := atoms_spec (ws := wsX5_shown) B.pre
  have hown : s.vm.findClass RX5 = some m.cls := findClass_of_methodNamed B.named
  have hlocks := B.notSynchronized
  have hiX5 : ∀ w ∈ wsX50, w ∈ wsX5_shown := by decide +kernel
  have hl := lv_entry ([.ref (α 0 0), .int g]) (n := 2) (Nat.le_of_ble_eq_true rfl)
  rw [lg_entry_eq]
  generalize (lg_sl ([.ref (α 0 0), .int g]) ++ List.replicate (2 - (lg_sl ([.ref (α 0 0), .int g])).length) Slot.unset).toArray = ls at hl ⊢
  have hl : lv_has ls 2 [(0, .ref (α 0 0)), (1, .int g)] := hl
  refine lv_aload_n hx hb dX5_shown_0 rfl (lv_at hl 0 rfl) ?_
  refine lv_iload_n hx hb dX5_shown_1 rfl (lv_at hl 1 rfl) ?_
  refine vp_callSi (W.runV (As := [.int g]) (rest := []) ⟨hx, hb, hml, hown, hts⟩ (c_X5_isGauge l D cy A α σ g) (cwV 1 hts gX5_shown_X5_isGauge rfl rfl rfl (by decide +kernel) ⟨Nat.le_of_ble_eq_true rfl, Nat.le_of_ble_eq_true rfl⟩) ⟨pb_blind, pw_recv hP hK cr_obj rfl, pb_pre hP hK⟩ rfl rfl hl.1 rfl (lv_room (Nat.le_of_ble_eq_true rfl)) dX5_shown_2 ⟨Nat.le_of_ble_eq_true rfl, Nat.le_of_ble_eq_true rfl⟩) (fun r hw => ?_)
  rcases hw with ⟨rfl, j2, hx3, hj4, hg5, hm6⟩ | ⟨rfl, h1⟩
  · refine lv_if_eq (x := 1) (tgt := 17) hx hb dX5_shown_5 (by decide) (fun c => absurd c (by decide)) (fun c5 => ?_)
    refine lv_aload_n hx hb dX5_shown_8 rfl (lv_at hl 0 rfl) ?_
    refine rf_get (v := .ref (α 3 0)) hx hb hts hiX5 hown hK hP 2 (by decide) (by decide +kernel) rfl rfl dX5_shown_9 ?_
    refine lv_iload_n hx hb dX5_shown_12 rfl (lv_at hl 1 rfl) ?_
    refine rf_iald hx hb hK hP 2 (by decide) rfl j2 hg5 hj4 dX5_shown_13 ?_
    refine lv_goto (tgt := 19) hx hb dX5_shown_14 (by decide) ?_
    have eF : F_shown σ g = (σ 2 j2) := by simp [F_shown, hx3]
    exact W.iret (v := (σ 2 j2)) hx hb hr (fun t ht hW => ⟨_, rfl, (by rw [eF]), ht⟩) (fun q hq => absurd hq List.not_mem_nil) dX5_shown_19
  · refine lv_if_eq (x := 0) (tgt := 17) hx hb dX5_shown_5 (by decide) (fun c5 => ?_) (fun c => absurd (by decide) c)
    refine lv_ldc hx hb hown (hts (.constant RX5 103 (2000000000)) (by decide +kernel)) dX5_shown_17 ?_
    have eF : F_shown σ g = 2000000000 := by simp [F_shown, h1]
    exact W.iret (v := 2000000000) hx hb hr (fun t ht hW => ⟨_, rfl, (by rw [eF]), ht⟩) (fun q hq => absurd hq List.not_mem_nil) dX5_shown_19

set_option maxHeartbeats 4000000 in
set_option maxRecDepth 100000 in
theorem c_X5_mark (l : Launch) (D : va_G) (cy : Nat → ClassId) (A : Nat → Prop) (α : AD) (σ : SG) (g b : Int32) : Met l yX5_mark wsX5_mark ({ frames := 2, cells := 0, slots := 0, locals := 42 } : Room) (va_Pc [.ref (α 0 0), .int g, .int b] (PB D cy A α (CR cy σ α))) (vp_Si (fun r => r = F_mark σ g b)) 0 0 (fun _ => False) := by
  refine Met.ofW (cc := cX5_mark) (maxL := 3) (ret := (some .int)) (by decide) rfl ?_
  intro p e s m args below meth c s₁ B hml hv
  obtain ⟨rfl, hP, hK⟩ := hv
  have hx := B.exec
  have hb := B.bytes
  have hr := B.returns
  have hts := atoms_spec (ws := wsX5_mark) B.pre
  have hown : s.vm.findClass RX5 = some m.cls := findClass_of_methodNamed B.named
  have hlocks := B.notSynchronized
  have hiX5 : ∀ w ∈ wsX50, w ∈ wsX5_mark := by decide +kernel
  have hl := lv_entry ([.ref (α 0 0), .int g, .int b]) (n := 3) (Nat.le_of_ble_eq_true rfl)
  rw [lg_entry_eq]
  generalize (lg_sl ([.ref (α 0 0), .int g, .int b]) ++ List.replicate (3 - (lg_sl ([.ref (α 0 0), .int g, .int b])).length) Slot.unset).toArray = ls at hl ⊢
  have hl : lv_has ls 3 [(0, .ref (α 0 0)), (1, .int g), (2, .int b)] := hl
  refine lv_aload_n hx hb dX5_mark_0 rfl (lv_at hl 0 rfl) ?_
  refine lv_iload_n hx hb dX5_mark_1 rfl (lv_at hl 1 rfl) ?_
  refine vp_callSi (W.runV (As := [.int g]) (rest := []) ⟨hx, hb, hml, hown, hts⟩ (c_X5_isGauge l D cy A α σ g) (cwV 1 hts gX5_mark_X5_isGauge rfl rfl rfl (by decide +kernel) ⟨Nat.le_of_ble_eq_true rfl, Nat.le_of_ble_eq_true rfl⟩) ⟨pb_blind, pw_recv hP hK cr_obj rfl, pb_pre hP hK⟩ rfl rfl hl.1 rfl (lv_room (Nat.le_of_ble_eq_true rfl)) dX5_mark_2 ⟨Nat.le_of_ble_eq_true rfl, Nat.le_of_ble_eq_true rfl⟩) (fun r hw => ?_)
  rcases hw with ⟨rfl, j2, hx3, hj4, hg5, hm6⟩ | ⟨rfl, h1⟩
  · refine lv_if_ne (x := 1) (tgt := 13) hx hb dX5_mark_5 (by decide) (fun c5 => ?_) (fun c => absurd c (by decide))
    refine lv_iload_n hx hb dX5_mark_13 rfl (lv_at hl 2 rfl) ?_
    refine lv_if_eq (x := b) (tgt := 26) hx hb dX5_mark_14 (by decide) (fun c14 => ?_) (fun c14 => ?_)
    · refine lv_aload_n hx hb dX5_mark_26 rfl (lv_at hl 0 rfl) ?_
      refine rf_get (v := .ref (α 8 0)) hx hb hts hiX5 hown hK hP 7 (by decide) (by decide +kernel) rfl rfl dX5_mark_27 ?_
      refine lv_iload_n hx hb dX5_mark_30 rfl (lv_at hl 1 rfl) ?_
      refine rf_iald hx hb hK hP 7 (by decide) rfl j2 hg5 hj4 dX5_mark_31 ?_
      have eF : F_mark σ g b = (σ 7 j2) := by simp [F_mark, hx3, c14]
      exact W.iret (v := (σ 7 j2)) hx hb hr (fun t ht hW => ⟨_, rfl, (by rw [eF]), ht⟩) (fun q hq => absurd hq List.not_mem_nil) dX5_mark_32
    · refine lv_aload_n hx hb dX5_mark_17 rfl (lv_at hl 0 rfl) ?_
      refine rf_get (v := .ref (α 7 0)) hx hb hts hiX5 hown hK hP 6 (by decide) (by decide +kernel) rfl rfl dX5_mark_18 ?_
      refine lv_iload_n hx hb dX5_mark_21 rfl (lv_at hl 1 rfl) ?_
      refine rf_iald hx hb hK hP 6 (by decide) rfl j2 hg5 hj4 dX5_mark_22 ?_
      refine lv_goto (tgt := 32) hx hb dX5_mark_23 (by decide) ?_
      have eF : F_mark σ g b = (σ 6 j2) := by simp [F_mark, hx3, c14]
      exact W.iret (v := (σ 6 j2)) hx hb hr (fun t ht hW => ⟨_, rfl, (by rw [eF]), ht⟩) (fun q hq => absurd hq List.not_mem_nil) dX5_mark_32
  · refine lv_if_ne (x := 0) (tgt := 13) hx hb dX5_mark_5 (by decide) (fun c => absurd (by decide) c) (fun c5 => ?_)
    refine lv_ldc hx hb hown (hts (.constant RX5 103 (2000000000)) (by decide +kernel)) dX5_mark_8 ?_
    refine lv_goto (tgt := 32) hx hb dX5_mark_10 (by decide) ?_
    have eF : F_mark σ g b = 2000000000 := by simp [F_mark, h1]
    exact W.iret (v := 2000000000) hx hb hr (fun t ht hW => ⟨_, rfl, (by rw [eF]), ht⟩) (fun q hq => absurd hq List.not_mem_nil) dX5_mark_32

set_option maxHeartbeats 4000000 in
set_option maxRecDepth 100000 in
theorem c_X5_stale (l : Launch) (D : va_G) (cy : Nat → ClassId) (A : Nat → Prop) (α : AD) (σ : SG) (g : Int32) : Met l yX5_stale wsX5_stale ({ frames := 2, cells := 0, slots := 0, locals := 42 } : Room) (va_Pc [.ref (α 0 0), .int g] (PB D cy A α (CR cy σ α))) (vp_Si (fun r => r = F_stale σ g)) 0 0 (fun _ => False) := by
  refine Met.ofW (cc := cX5_stale) (maxL := 2) (ret := (some .int)) (by decide) rfl ?_
  intro p e s m args below meth c s₁ B hml hv
  obtain ⟨rfl, hP, hK⟩ := hv
  have hx := B.exec
  have hb := B.bytes
  have hr := B.returns
  have hts := atoms_spec (ws := wsX5_stale) B.pre
  have hown : s.vm.findClass RX5 = some m.cls := findClass_of_methodNamed B.named
  have hlocks := B.notSynchronized
  have hiX5 : ∀ w ∈ wsX50, w ∈ wsX5_stale := by decide +kernel
  have hl := lv_entry ([.ref (α 0 0), .int g]) (n := 2) (Nat.le_of_ble_eq_true rfl)
  rw [lg_entry_eq]
  generalize (lg_sl ([.ref (α 0 0), .int g]) ++ List.replicate (2 - (lg_sl ([.ref (α 0 0), .int g])).length) Slot.unset).toArray = ls at hl ⊢
  have hl : lv_has ls 2 [(0, .ref (α 0 0)), (1, .int g)] := hl
  refine lv_aload_n hx hb dX5_stale_0 rfl (lv_at hl 0 rfl) ?_
  refine lv_iload_n hx hb dX5_stale_1 rfl (lv_at hl 1 rfl) ?_
  refine vp_callSi (W.runV (As := [.int g]) (rest := []) ⟨hx, hb, hml, hown, hts⟩ (c_X5_isGauge l D cy A α σ g) (cwV 1 hts gX5_stale_X5_isGauge rfl rfl rfl (by decide +kernel) ⟨Nat.le_of_ble_eq_true rfl, Nat.le_of_ble_eq_true rfl⟩) ⟨pb_blind, pw_recv hP hK cr_obj rfl, pb_pre hP hK⟩ rfl rfl hl.1 rfl (lv_room (Nat.le_of_ble_eq_true rfl)) dX5_stale_2 ⟨Nat.le_of_ble_eq_true rfl, Nat.le_of_ble_eq_true rfl⟩) (fun r hw => ?_)
  rcases hw with ⟨rfl, j2, hx3, hj4, hg5, hm6⟩ | ⟨rfl, h1⟩
  · refine lv_if_eq (x := 1) (tgt := 17) hx hb dX5_stale_5 (by decide) (fun c => absurd c (by decide)) (fun c5 => ?_)
    refine lv_aload_n hx hb dX5_stale_8 rfl (lv_at hl 0 rfl) ?_
    refine rf_get (v := .ref (α 9 0)) hx hb hts hiX5 hown hK hP 8 (by decide) (by decide +kernel) rfl rfl dX5_stale_9 ?_
    refine lv_iload_n hx hb dX5_stale_12 rfl (lv_at hl 1 rfl) ?_
    refine rf_iald hx hb hK hP 8 (by decide) rfl j2 hg5 hj4 dX5_stale_13 ?_
    refine lv_goto (tgt := 19) hx hb dX5_stale_14 (by decide) ?_
    have eF : F_stale σ g = (σ 8 j2) := by simp [F_stale, hx3]
    exact W.iret (v := (σ 8 j2)) hx hb hr (fun t ht hW => ⟨_, rfl, (by rw [eF]), ht⟩) (fun q hq => absurd hq List.not_mem_nil) dX5_stale_19
  · refine lv_if_eq (x := 0) (tgt := 17) hx hb dX5_stale_5 (by decide) (fun c5 => ?_) (fun c => absurd (by decide) c)
    refine lv_bipush (v := (-2)) hx hb dX5_stale_17 (by decide) ?_
    have eF : F_stale σ g = (-2) := by simp [F_stale, h1]
    exact W.iret (v := (-2)) hx hb hr (fun t ht hW => ⟨_, rfl, (by rw [eF]), ht⟩) (fun q hq => absurd hq List.not_mem_nil) dX5_stale_19

set_option maxHeartbeats 4000000 in
set_option maxRecDepth 100000 in
theorem c_X5_stands (l : Launch) (D : va_G) (cy : Nat → ClassId) (A : Nat → Prop) (α : AD) (σ : SG) (a rel b : Int32) : Met l yX5_stands wsX5_stands ({ frames := 3, cells := 0, slots := 0, locals := 67 } : Room) (va_Pc [.ref (α 0 0), .int a, .int rel, .int b] (PB D cy A α (CR cy σ α))) (vp_Si (fun r => r = F_stands σ a rel b)) 0 0 (fun _ => False) := by
  refine Met.ofW (cc := cX5_stands) (maxL := 4) (ret := (some .int)) (by decide) rfl ?_
  intro p e s m args below meth c s₁ B hml hv
  obtain ⟨rfl, hP, hK⟩ := hv
  have hx := B.exec
  have hb := B.bytes
  have hr := B.returns
  have hts := atoms_spec (ws := wsX5_stands) B.pre
  have hown : s.vm.findClass RX5 = some m.cls := findClass_of_methodNamed B.named
  have hlocks := B.notSynchronized
  have hiX5 : ∀ w ∈ wsX50, w ∈ wsX5_stands := by decide +kernel
  have hl := lv_entry ([.ref (α 0 0), .int a, .int rel, .int b]) (n := 4) (Nat.le_of_ble_eq_true rfl)
  rw [lg_entry_eq]
  generalize (lg_sl ([.ref (α 0 0), .int a, .int rel, .int b]) ++ List.replicate (4 - (lg_sl ([.ref (α 0 0), .int a, .int rel, .int b])).length) Slot.unset).toArray = ls at hl ⊢
  have hl : lv_has ls 4 [(0, .ref (α 0 0)), (1, .int a), (2, .int rel), (3, .int b)] := hl
  refine lv_iload_n hx hb dX5_stands_0 rfl (lv_at hl 2 rfl) ?_
  refine lv_bipush (v := 6) hx hb dX5_stands_1 (by decide) ?_
  refine vp_callSi (W.runS (As := [.int rel, .int 6]) (rest := []) ⟨hx, hb, hml, hown, hts⟩ (c_X5_isIn l rel 6) (va_cwS 2 hts gX5_stands_X5_isIn rfl rfl rfl (by decide +kernel) ⟨Nat.le_of_ble_eq_true rfl, Nat.le_of_ble_eq_true rfl⟩) ⟨pt_blind, pt_pre⟩ rfl rfl hl.1 rfl (lv_room (Nat.le_of_ble_eq_true rfl)) dX5_stands_3 ⟨Nat.le_of_ble_eq_true rfl, Nat.le_of_ble_eq_true rfl⟩) (fun r hw => ?_)
  rcases hw with ⟨rfl, h1⟩ | ⟨rfl, h1⟩
  · have hrelh1 := rel6.mp h1
    refine lv_if_ne (x := 1) (tgt := 12) hx hb dX5_stands_6 (by decide) (fun c6 => ?_) (fun c => absurd c (by decide))
    refine lv_aload_n hx hb dX5_stands_12 rfl (lv_at hl 0 rfl) ?_
    refine lv_iload_n hx hb dX5_stands_13 rfl (lv_at hl 1 rfl) ?_
    refine vp_callSi (W.runV (As := [.int a]) (rest := []) ⟨hx, hb, hml, hown, hts⟩ (c_X5_isGauge l D cy A α σ a) (cwV 1 hts gX5_stands_X5_isGauge rfl rfl rfl (by decide +kernel) ⟨Nat.le_of_ble_eq_true rfl, Nat.le_of_ble_eq_true rfl⟩) ⟨pb_blind, pw_recv hP hK cr_obj rfl, pb_pre hP hK⟩ rfl rfl hl.1 rfl (lv_room (Nat.le_of_ble_eq_true rfl)) dX5_stands_14 ⟨Nat.le_of_ble_eq_true rfl, Nat.le_of_ble_eq_true rfl⟩) (fun r hw => ?_)
    rcases hw with ⟨rfl, j3, hx4, hj5, hg6, hm7⟩ | ⟨rfl, h2⟩
    · refine lv_if_eq (x := 1) (tgt := 28) hx hb dX5_stands_17 (by decide) (fun c => absurd c (by decide)) (fun c17 => ?_)
      refine lv_aload_n hx hb dX5_stands_20 rfl (lv_at hl 0 rfl) ?_
      refine lv_iload_n hx hb dX5_stands_21 rfl (lv_at hl 3 rfl) ?_
      refine vp_callSi (W.runV (As := [.int b]) (rest := []) ⟨hx, hb, hml, hown, hts⟩ (c_X5_isGauge l D cy A α σ b) (cwV 1 hts gX5_stands_X5_isGauge rfl rfl rfl (by decide +kernel) ⟨Nat.le_of_ble_eq_true rfl, Nat.le_of_ble_eq_true rfl⟩) ⟨pb_blind, pw_recv hP hK cr_obj rfl, pb_pre hP hK⟩ rfl rfl hl.1 rfl (lv_room (Nat.le_of_ble_eq_true rfl)) dX5_stands_22 ⟨Nat.le_of_ble_eq_true rfl, Nat.le_of_ble_eq_true rfl⟩) (fun r hw => ?_)
      rcases hw with ⟨rfl, j9, hx10, hj11, hg12, hm13⟩ | ⟨rfl, h8⟩
      · refine lv_if_ne (x := 1) (tgt := 31) hx hb dX5_stands_25 (by decide) (fun c25 => ?_) (fun c => absurd c (by decide))
        refine lv_aload_n hx hb dX5_stands_31 rfl (lv_at hl 0 rfl) ?_
        refine lv_iload_n hx hb dX5_stands_32 rfl (lv_at hl 1 rfl) ?_
        refine lv_aload_n hx hb dX5_stands_33 rfl (lv_at hl 0 rfl) ?_
        refine rf_get (v := .ref (α 3 0)) hx hb hts hiX5 hown hK hP 2 (by decide) (by decide +kernel) rfl rfl dX5_stands_34 ?_
        refine lv_iload_n hx hb dX5_stands_37 rfl (lv_at hl 1 rfl) ?_
        refine rf_iald hx hb hK hP 2 (by decide) rfl j3 hg6 hj5 dX5_stands_38 ?_
        refine lv_iload_n hx hb dX5_stands_39 rfl (lv_at hl 2 rfl) ?_
        refine lv_iload_n hx hb dX5_stands_40 rfl (lv_at hl 3 rfl) ?_
        refine lv_aload_n hx hb dX5_stands_41 rfl (lv_at hl 0 rfl) ?_
        refine rf_get (v := .ref (α 3 0)) hx hb hts hiX5 hown hK hP 2 (by decide) (by decide +kernel) rfl rfl dX5_stands_42 ?_
        refine lv_iload_n hx hb dX5_stands_45 rfl (lv_at hl 3 rfl) ?_
        refine rf_iald hx hb hK hP 2 (by decide) rfl j9 hg12 hj11 dX5_stands_46 ?_
        refine vp_callSi (W.runV (As := [.int a, .int (σ 2 j3), .int rel, .int b, .int (σ 2 j9)]) (rest := []) ⟨hx, hb, hml, hown, hts⟩ (c_X5_related l D cy A α σ a j3 (σ 2 j3) rel b j9 (σ 2 j9) hrelh1 hg6 hj5 hg12 hj11) (cwV 5 hts gX5_stands_X5_related rfl rfl rfl (by decide +kernel) ⟨Nat.le_of_ble_eq_true rfl, Nat.le_of_ble_eq_true rfl⟩) ⟨pb_blind, pw_recv hP hK cr_obj rfl, pb_pre hP hK⟩ rfl rfl hl.1 rfl (lv_room (Nat.le_of_ble_eq_true rfl)) dX5_stands_47 ⟨Nat.le_of_ble_eq_true rfl, Nat.le_of_ble_eq_true rfl⟩) (fun r hw => ?_)
        rcases hw with ⟨rfl, h14⟩ | ⟨rfl, h14⟩
        · refine lv_if_eq (x := 1) (tgt := 57) hx hb dX5_stands_50 (by decide) (fun c => absurd c (by decide)) (fun c50 => ?_)
          refine lv_iconst (v := 1) hx hb dX5_stands_53 (by decide) ?_
          refine lv_goto (tgt := 58) hx hb dX5_stands_54 (by decide) ?_
          have eF : F_stands σ a rel b = 1 := by simp [F_stands, h14, hx4, hx10, hrelh1, bI]
          exact W.iret (v := 1) hx hb hr (fun t ht hW => ⟨_, rfl, (by rw [eF]), ht⟩) (fun q hq => absurd hq List.not_mem_nil) dX5_stands_58
        · refine lv_if_eq (x := 0) (tgt := 57) hx hb dX5_stands_50 (by decide) (fun c50 => ?_) (fun c => absurd (by decide) c)
          refine lv_iconst (v := 0) hx hb dX5_stands_57 (by decide) ?_
          have eF : F_stands σ a rel b = 0 := by simp [F_stands, h14, hx4, hx10, hrelh1, bI]
          exact W.iret (v := 0) hx hb hr (fun t ht hW => ⟨_, rfl, (by rw [eF]), ht⟩) (fun q hq => absurd hq List.not_mem_nil) dX5_stands_58
      · refine lv_if_ne (x := 0) (tgt := 31) hx hb dX5_stands_25 (by decide) (fun c => absurd (by decide) c) (fun c25 => ?_)
        refine lv_bipush (v := (-2)) hx hb dX5_stands_28 (by decide) ?_
        have eF : F_stands σ a rel b = (-2) := by simp [F_stands, h8, hx4, hrelh1, bI]
        exact W.iret (v := (-2)) hx hb hr (fun t ht hW => ⟨_, rfl, (by rw [eF]), ht⟩) (fun q hq => absurd hq List.not_mem_nil) dX5_stands_30
    · refine lv_if_eq (x := 0) (tgt := 28) hx hb dX5_stands_17 (by decide) (fun c17 => ?_) (fun c => absurd (by decide) c)
      refine lv_bipush (v := (-2)) hx hb dX5_stands_28 (by decide) ?_
      have eF : F_stands σ a rel b = (-2) := by simp [F_stands, h2, hrelh1, bI]
      exact W.iret (v := (-2)) hx hb hr (fun t ht hW => ⟨_, rfl, (by rw [eF]), ht⟩) (fun q hq => absurd hq List.not_mem_nil) dX5_stands_30
  · have hrelh1 := mt rel6.mpr h1
    refine lv_if_ne (x := 0) (tgt := 12) hx hb dX5_stands_6 (by decide) (fun c => absurd (by decide) c) (fun c6 => ?_)
    refine lv_bipush (v := (-4)) hx hb dX5_stands_9 (by decide) ?_
    have eF : F_stands σ a rel b = (-4) := by simp [F_stands, hrelh1, bI]
    exact W.iret (v := (-4)) hx hb hr (fun t ht hW => ⟨_, rfl, (by rw [eF]), ht⟩) (fun q hq => absurd hq List.not_mem_nil) dX5_stands_11

set_option maxHeartbeats 4000000 in
set_option maxRecDepth 100000 in
theorem c_X5_defines (l : Launch) (D : va_G) (cy : Nat → ClassId) (A : Nat → Prop) (α : AD) (σ : SG) (x : Int32) (cj : Nat) (rel a b n tu : Int32) (hx0 : x = nI cj) (hc0 : cj < 24) (ht01 : tu = 0 ∨ tu = 1) : Met l yX5_defines wsX5_defines ({ frames := 0, cells := 0, slots := 0, locals := 0 } : Room) (va_Pc [.ref (α 0 0), .int x, .int rel, .int a, .int b, .int n, .int tu] (PB D cy A α (CR cy σ α))) (va_Qi (fun (r : Int32) (u : Unit) => r = 1) (fun u t => PW D A α (CR cy (defs σ cj rel a b n tu) α) t.heap) A) 0 0 A := by
  refine Met.ofW (cc := cX5_defines) (maxL := 7) (ret := (some .int)) (by decide) rfl ?_
  intro p e s m args below meth c s₁ B hml hv
  obtain ⟨rfl, hP, hK⟩ := hv
  have hx := B.exec
  have hb := B.bytes
  have hr := B.returns
  have hts := atoms_spec (ws := wsX5_defines) B.pre
  have hown : s.vm.findClass RX5 = some m.cls := findClass_of_methodNamed B.named
  have hlocks := B.notSynchronized
  have hiX5 : ∀ w ∈ wsX50, w ∈ wsX5_defines := by decide +kernel
  have hS : va_S A s.heap s.heap [] := va_S.rf
  have hl := lv_entry ([.ref (α 0 0), .int x, .int rel, .int a, .int b, .int n, .int tu]) (n := 7) (Nat.le_of_ble_eq_true rfl)
  rw [lg_entry_eq]
  generalize (lg_sl ([.ref (α 0 0), .int x, .int rel, .int a, .int b, .int n, .int tu]) ++ List.replicate (7 - (lg_sl ([.ref (α 0 0), .int x, .int rel, .int a, .int b, .int n, .int tu])).length) Slot.unset).toArray = ls at hl ⊢
  have hl : lv_has ls 7 [(0, .ref (α 0 0)), (1, .int x), (2, .int rel), (3, .int a), (4, .int b), (5, .int n), (6, .int tu)] := hl
  skip
  skip
  refine lv_aload_n hx hb dX5_defines_0 rfl (lv_at hl 0 rfl) ?_
  refine rf_get (v := .ref (α 12 0)) hx hb hts hiX5 hown hK hP 11 (by decide) (by decide +kernel) rfl rfl dX5_defines_1 ?_
  refine lv_iload_n hx hb dX5_defines_4 rfl (lv_at hl 1 rfl) ?_
  refine lv_iconst (v := 1) hx hb dX5_defines_5 (by decide) ?_
  refine rf_zast hx hb hK hP hS 11 (by decide) rfl (Or.inr rfl) cj hx0 hc0 dX5_defines_6 (fun H locs hP hz hS => ?_)
  refine lv_aload_n hx hb dX5_defines_7 rfl (lv_at hl 0 rfl) ?_
  refine rf_get (v := .ref (α 13 0)) hx hb hts hiX5 hown hK hP 12 (by decide) (by decide +kernel) rfl rfl dX5_defines_8 ?_
  refine lv_iload_n hx hb dX5_defines_11 rfl (lv_at hl 1 rfl) ?_
  refine lv_iload hx hb dX5_defines_12 (lv_at hl 6 rfl) ?_
  refine rf_zast hx hb hK hP hS 12 (by decide) rfl ht01 cj hx0 hc0 dX5_defines_14 (fun H locs hP hz hS => ?_)
  refine lv_aload_n hx hb dX5_defines_15 rfl (lv_at hl 0 rfl) ?_
  refine rf_get (v := .ref (α 14 0)) hx hb hts hiX5 hown hK hP 13 (by decide) (by decide +kernel) rfl rfl dX5_defines_16 ?_
  refine lv_iload_n hx hb dX5_defines_19 rfl (lv_at hl 1 rfl) ?_
  refine lv_iload_n hx hb dX5_defines_20 rfl (lv_at hl 2 rfl) ?_
  refine rf_iast hx hb hK hP hS 13 (by decide) rfl cj hx0 hc0 dX5_defines_21 (fun H locs hP hz hS => ?_)
  refine lv_aload_n hx hb dX5_defines_22 rfl (lv_at hl 0 rfl) ?_
  refine rf_get (v := .ref (α 15 0)) hx hb hts hiX5 hown hK hP 14 (by decide) (by decide +kernel) rfl rfl dX5_defines_23 ?_
  refine lv_iload_n hx hb dX5_defines_26 rfl (lv_at hl 1 rfl) ?_
  refine lv_iload_n hx hb dX5_defines_27 rfl (lv_at hl 3 rfl) ?_
  refine rf_iast hx hb hK hP hS 14 (by decide) rfl cj hx0 hc0 dX5_defines_28 (fun H locs hP hz hS => ?_)
  refine lv_aload_n hx hb dX5_defines_29 rfl (lv_at hl 0 rfl) ?_
  refine rf_get (v := .ref (α 16 0)) hx hb hts hiX5 hown hK hP 15 (by decide) (by decide +kernel) rfl rfl dX5_defines_30 ?_
  refine lv_iload_n hx hb dX5_defines_33 rfl (lv_at hl 1 rfl) ?_
  refine lv_iload hx hb dX5_defines_34 (lv_at hl 4 rfl) ?_
  refine rf_iast hx hb hK hP hS 15 (by decide) rfl cj hx0 hc0 dX5_defines_36 (fun H locs hP hz hS => ?_)
  refine lv_aload_n hx hb dX5_defines_37 rfl (lv_at hl 0 rfl) ?_
  refine rf_get (v := .ref (α 17 0)) hx hb hts hiX5 hown hK hP 16 (by decide) (by decide +kernel) rfl rfl dX5_defines_38 ?_
  refine lv_iload_n hx hb dX5_defines_41 rfl (lv_at hl 1 rfl) ?_
  refine lv_iload hx hb dX5_defines_42 (lv_at hl 5 rfl) ?_
  refine rf_iast hx hb hK hP hS 16 (by decide) rfl cj hx0 hc0 dX5_defines_44 (fun H locs hP hz hS => ?_)
  refine lv_iconst (v := 1) hx hb dX5_defines_45 (by decide) ?_
  exact W.iret (v := 1) hx hb hr (fun t ht hW => ⟨⟨_, (), rfl, rfl, by dsimp only; rw [ht]; exact hP⟩, hS.F ht⟩) hS.2.2 dX5_defines_46

set_option maxHeartbeats 4000000 in
set_option maxRecDepth 100000 in
theorem c_X5_between (l : Launch) (D : va_G) (cy : Nat → ClassId) (A : Nat → Prop) (α : AD) (σ : SG) (ci rel a b tu : Int32) (ht01 : tu = 0 ∨ tu = 1) : Met l yX5_between wsX5_between ({ frames := 2, cells := 0, slots := 0, locals := 42 } : Room) (va_Pc [.ref (α 0 0), .int ci, .int rel, .int a, .int b, .int tu] (PB D cy A α (CR cy σ α))) (va_Qi (fun (r : Int32) (u : Unit) => r = (F_between σ ci rel a b tu).1) (fun u t => PW D A α (CR cy (F_between σ ci rel a b tu).2 α) t.heap) A) 0 0 A := by
  refine Met.ofW (cc := cX5_between) (maxL := 6) (ret := (some .int)) (by decide) rfl ?_
  intro p e s m args below meth c s₁ B hml hv
  obtain ⟨rfl, hP, hK⟩ := hv
  have hx := B.exec
  have hb := B.bytes
  have hr := B.returns
  have hts := atoms_spec (ws := wsX5_between) B.pre
  have hown : s.vm.findClass RX5 = some m.cls := findClass_of_methodNamed B.named
  have hlocks := B.notSynchronized
  have hiX5 : ∀ w ∈ wsX50, w ∈ wsX5_between := by decide +kernel
  have hS : va_S A s.heap s.heap [] := va_S.rf
  have hl := lv_entry ([.ref (α 0 0), .int ci, .int rel, .int a, .int b, .int tu]) (n := 6) (Nat.le_of_ble_eq_true rfl)
  rw [lg_entry_eq]
  generalize (lg_sl ([.ref (α 0 0), .int ci, .int rel, .int a, .int b, .int tu]) ++ List.replicate (6 - (lg_sl ([.ref (α 0 0), .int ci, .int rel, .int a, .int b, .int tu])).length) Slot.unset).toArray = ls at hl ⊢
  have hl : lv_has ls 6 [(0, .ref (α 0 0)), (1, .int ci), (2, .int rel), (3, .int a), (4, .int b), (5, .int tu)] := hl
  skip
  refine lv_iload_n hx hb dX5_between_0 rfl (lv_at hl 1 rfl) ?_
  refine lv_bipush (v := 24) hx hb dX5_between_1 (by decide) ?_
  refine vp_callSi (W.runS (As := [.int ci, .int 24]) (rest := []) ⟨hx, hb, hml, hown, hts⟩ (c_X5_isIn l ci 24) (va_cwS 2 hts gX5_between_X5_isIn rfl rfl rfl (by decide +kernel) ⟨Nat.le_of_ble_eq_true rfl, Nat.le_of_ble_eq_true rfl⟩) ⟨pt_blind, pt_pre⟩ rfl rfl hl.1 rfl (lv_room (Nat.le_of_ble_eq_true rfl)) dX5_between_3 ⟨Nat.le_of_ble_eq_true rfl, Nat.le_of_ble_eq_true rfl⟩) (fun r hw => ?_)
  rcases hw with ⟨rfl, h1⟩ | ⟨rfl, h1⟩
  · obtain ⟨j2, hj3, hg4⟩ := in_j (n := 24) (by decide) h1
    have hc5 : cN ci = j2 := cN_of hg4 (by omega)
    refine lv_if_eq (x := 1) (tgt := 18) hx hb dX5_between_6 (by decide) (fun c => absurd c (by decide)) (fun c6 => ?_)
    refine lv_iload_n hx hb dX5_between_9 rfl (lv_at hl 2 rfl) ?_
    refine lv_bipush (v := 6) hx hb dX5_between_10 (by decide) ?_
    refine vp_callSi (W.runS (As := [.int rel, .int 6]) (rest := []) ⟨hx, hb, hml, hown, hts⟩ (c_X5_isIn l rel 6) (va_cwS 2 hts gX5_between_X5_isIn rfl rfl rfl (by decide +kernel) ⟨Nat.le_of_ble_eq_true rfl, Nat.le_of_ble_eq_true rfl⟩) ⟨pt_blind, pt_pre⟩ rfl rfl hl.1 rfl (lv_room (Nat.le_of_ble_eq_true rfl)) dX5_between_12 ⟨Nat.le_of_ble_eq_true rfl, Nat.le_of_ble_eq_true rfl⟩) (fun r hw => ?_)
    rcases hw with ⟨rfl, h6⟩ | ⟨rfl, h6⟩
    · have hrelh6 := rel6.mp h6
      refine lv_if_ne (x := 1) (tgt := 21) hx hb dX5_between_15 (by decide) (fun c15 => ?_) (fun c => absurd c (by decide))
      refine lv_aload_n hx hb dX5_between_21 rfl (lv_at hl 0 rfl) ?_
      refine lv_iload_n hx hb dX5_between_22 rfl (lv_at hl 3 rfl) ?_
      refine vp_callSi (W.runV (As := [.int a]) (rest := []) ⟨hx, hb, hml, hown, hts⟩ (c_X5_isGauge l D cy A α σ a) (cwV 1 hts gX5_between_X5_isGauge rfl rfl rfl (by decide +kernel) ⟨Nat.le_of_ble_eq_true rfl, Nat.le_of_ble_eq_true rfl⟩) ⟨pb_blind, pw_recv hP hK cr_obj rfl, pb_pre hP hK⟩ rfl rfl hl.1 rfl (lv_room (Nat.le_of_ble_eq_true rfl)) dX5_between_23 ⟨Nat.le_of_ble_eq_true rfl, Nat.le_of_ble_eq_true rfl⟩) (fun r hw => ?_)
      rcases hw with ⟨rfl, j8, hx9, hj10, hg11, hm12⟩ | ⟨rfl, h7⟩
      · refine lv_if_eq (x := 1) (tgt := 53) hx hb dX5_between_26 (by decide) (fun c => absurd c (by decide)) (fun c26 => ?_)
        refine lv_aload_n hx hb dX5_between_29 rfl (lv_at hl 0 rfl) ?_
        refine lv_iload hx hb dX5_between_30 (lv_at hl 4 rfl) ?_
        refine vp_callSi (W.runV (As := [.int b]) (rest := []) ⟨hx, hb, hml, hown, hts⟩ (c_X5_isGauge l D cy A α σ b) (cwV 1 hts gX5_between_X5_isGauge rfl rfl rfl (by decide +kernel) ⟨Nat.le_of_ble_eq_true rfl, Nat.le_of_ble_eq_true rfl⟩) ⟨pb_blind, pw_recv hP hK cr_obj rfl, pb_pre hP hK⟩ rfl rfl hl.1 rfl (lv_room (Nat.le_of_ble_eq_true rfl)) dX5_between_32 ⟨Nat.le_of_ble_eq_true rfl, Nat.le_of_ble_eq_true rfl⟩) (fun r hw => ?_)
        rcases hw with ⟨rfl, j14, hx15, hj16, hg17, hm18⟩ | ⟨rfl, h13⟩
        · refine lv_if_eq (x := 1) (tgt := 53) hx hb dX5_between_35 (by decide) (fun c => absurd c (by decide)) (fun c35 => ?_)
          refine lv_aload_n hx hb dX5_between_38 rfl (lv_at hl 0 rfl) ?_
          refine lv_iload_n hx hb dX5_between_39 rfl (lv_at hl 1 rfl) ?_
          refine lv_iload_n hx hb dX5_between_40 rfl (lv_at hl 2 rfl) ?_
          refine lv_iload_n hx hb dX5_between_41 rfl (lv_at hl 3 rfl) ?_
          refine lv_iload hx hb dX5_between_42 (lv_at hl 4 rfl) ?_
          refine lv_iconst (v := 0) hx hb dX5_between_44 (by decide) ?_
          refine lv_iload hx hb dX5_between_45 (lv_at hl 5 rfl) ?_
          refine va_calli (va_runV (As := [.int ci, .int rel, .int a, .int b, .int 0, .int tu]) (rest := []) ⟨hx, hb, hml, hown, hts⟩ (c_X5_defines l D cy A α σ ci j2 rel a b 0 tu hg4 hj3 ht01) (cwV 6 hts gX5_between_X5_defines rfl rfl rfl (by decide +kernel) ⟨Nat.le_of_ble_eq_true rfl, Nat.le_of_ble_eq_true rfl⟩) ⟨pb_blind, pw_recv hP hK cr_obj rfl, pb_pre hP hK⟩ rfl rfl hl.1 rfl (lv_room (Nat.le_of_ble_eq_true rfl)) dX5_between_47 ⟨Nat.le_of_ble_eq_true rfl, Nat.le_of_ble_eq_true rfl⟩) hS (fun _ _ h => h) (fun _ h => h) (fun r u t H locs ht hvm hw hB hz1 hk1 hS => ?_)
          have hP := hB
          rw [ht] at hP
          refine W.cs (cells' := 0) (slots' := 0) rfl rfl ?_
          subst hw
          refine lv_goto (tgt := 55) hx hb dX5_between_50 (by decide) ?_
          have eF : F_between σ ci rel a b tu = (1, (defs σ j2 rel a b 0 tu)) := by simp [F_between, h1, hx9, hx15, hc5, hrelh6]
          exact W.iret (v := 1) hx hb hr (fun t ht hW => ⟨⟨_, (), rfl, (by rw [eF]), by dsimp only; rw [ht]; exact (by rw [eF]; exact hP)⟩, hS.F ht⟩) hS.2.2 dX5_between_55
        · refine lv_if_eq (x := 0) (tgt := 53) hx hb dX5_between_35 (by decide) (fun c35 => ?_) (fun c => absurd (by decide) c)
          refine lv_bipush (v := (-2)) hx hb dX5_between_53 (by decide) ?_
          have eF : F_between σ ci rel a b tu = ((-2), σ) := by simp [F_between, h1, h13, hx9, hc5, hrelh6]
          exact W.iret (v := (-2)) hx hb hr (fun t ht hW => ⟨⟨_, (), rfl, (by rw [eF]), by dsimp only; rw [ht]; exact (by rw [eF]; exact hP)⟩, hS.F ht⟩) hS.2.2 dX5_between_55
      · refine lv_if_eq (x := 0) (tgt := 53) hx hb dX5_between_26 (by decide) (fun c26 => ?_) (fun c => absurd (by decide) c)
        refine lv_bipush (v := (-2)) hx hb dX5_between_53 (by decide) ?_
        have eF : F_between σ ci rel a b tu = ((-2), σ) := by simp [F_between, h1, h7, hc5, hrelh6]
        exact W.iret (v := (-2)) hx hb hr (fun t ht hW => ⟨⟨_, (), rfl, (by rw [eF]), by dsimp only; rw [ht]; exact (by rw [eF]; exact hP)⟩, hS.F ht⟩) hS.2.2 dX5_between_55
    · have hrelh6 := mt rel6.mpr h6
      refine lv_if_ne (x := 0) (tgt := 21) hx hb dX5_between_15 (by decide) (fun c => absurd (by decide) c) (fun c15 => ?_)
      refine lv_bipush (v := (-4)) hx hb dX5_between_18 (by decide) ?_
      have eF : F_between σ ci rel a b tu = ((-4), σ) := by simp [F_between, h1, hc5, hrelh6]
      exact W.iret (v := (-4)) hx hb hr (fun t ht hW => ⟨⟨_, (), rfl, (by rw [eF]), by dsimp only; rw [ht]; exact (by rw [eF]; exact hP)⟩, hS.F ht⟩) hS.2.2 dX5_between_20
  · refine lv_if_eq (x := 0) (tgt := 18) hx hb dX5_between_6 (by decide) (fun c6 => ?_) (fun c => absurd (by decide) c)
    refine lv_bipush (v := (-4)) hx hb dX5_between_18 (by decide) ?_
    have eF : F_between σ ci rel a b tu = ((-4), σ) := by simp [F_between, h1]
    exact W.iret (v := (-4)) hx hb hr (fun t ht hW => ⟨⟨_, (), rfl, (by rw [eF]), by dsimp only; rw [ht]; exact (by rw [eF]; exact hP)⟩, hS.F ht⟩) hS.2.2 dX5_between_20

set_option maxHeartbeats 4000000 in
set_option maxRecDepth 100000 in
theorem c_X5_level (l : Launch) (D : va_G) (cy : Nat → ClassId) (A : Nat → Prop) (α : AD) (σ : SG) (ci rel a n tu : Int32) (ht01 : tu = 0 ∨ tu = 1) : Met l yX5_level wsX5_level ({ frames := 2, cells := 0, slots := 0, locals := 42 } : Room) (va_Pc [.ref (α 0 0), .int ci, .int rel, .int a, .int n, .int tu] (PB D cy A α (CR cy σ α))) (va_Qi (fun (r : Int32) (u : Unit) => r = (F_level σ ci rel a n tu).1) (fun u t => PW D A α (CR cy (F_level σ ci rel a n tu).2 α) t.heap) A) 0 0 A := by
  refine Met.ofW (cc := cX5_level) (maxL := 6) (ret := (some .int)) (by decide) rfl ?_
  intro p e s m args below meth c s₁ B hml hv
  obtain ⟨rfl, hP, hK⟩ := hv
  have hx := B.exec
  have hb := B.bytes
  have hr := B.returns
  have hts := atoms_spec (ws := wsX5_level) B.pre
  have hown : s.vm.findClass RX5 = some m.cls := findClass_of_methodNamed B.named
  have hlocks := B.notSynchronized
  have hiX5 : ∀ w ∈ wsX50, w ∈ wsX5_level := by decide +kernel
  have hS : va_S A s.heap s.heap [] := va_S.rf
  have hl := lv_entry ([.ref (α 0 0), .int ci, .int rel, .int a, .int n, .int tu]) (n := 6) (Nat.le_of_ble_eq_true rfl)
  rw [lg_entry_eq]
  generalize (lg_sl ([.ref (α 0 0), .int ci, .int rel, .int a, .int n, .int tu]) ++ List.replicate (6 - (lg_sl ([.ref (α 0 0), .int ci, .int rel, .int a, .int n, .int tu])).length) Slot.unset).toArray = ls at hl ⊢
  have hl : lv_has ls 6 [(0, .ref (α 0 0)), (1, .int ci), (2, .int rel), (3, .int a), (4, .int n), (5, .int tu)] := hl
  skip
  refine lv_iload_n hx hb dX5_level_0 rfl (lv_at hl 1 rfl) ?_
  refine lv_bipush (v := 24) hx hb dX5_level_1 (by decide) ?_
  refine vp_callSi (W.runS (As := [.int ci, .int 24]) (rest := []) ⟨hx, hb, hml, hown, hts⟩ (c_X5_isIn l ci 24) (va_cwS 2 hts gX5_level_X5_isIn rfl rfl rfl (by decide +kernel) ⟨Nat.le_of_ble_eq_true rfl, Nat.le_of_ble_eq_true rfl⟩) ⟨pt_blind, pt_pre⟩ rfl rfl hl.1 rfl (lv_room (Nat.le_of_ble_eq_true rfl)) dX5_level_3 ⟨Nat.le_of_ble_eq_true rfl, Nat.le_of_ble_eq_true rfl⟩) (fun r hw => ?_)
  rcases hw with ⟨rfl, h1⟩ | ⟨rfl, h1⟩
  · obtain ⟨j2, hj3, hg4⟩ := in_j (n := 24) (by decide) h1
    have hc5 : cN ci = j2 := cN_of hg4 (by omega)
    refine lv_if_eq (x := 1) (tgt := 26) hx hb dX5_level_6 (by decide) (fun c => absurd c (by decide)) (fun c6 => ?_)
    refine lv_iload_n hx hb dX5_level_9 rfl (lv_at hl 2 rfl) ?_
    refine lv_bipush (v := 6) hx hb dX5_level_10 (by decide) ?_
    refine vp_callSi (W.runS (As := [.int rel, .int 6]) (rest := []) ⟨hx, hb, hml, hown, hts⟩ (c_X5_isIn l rel 6) (va_cwS 2 hts gX5_level_X5_isIn rfl rfl rfl (by decide +kernel) ⟨Nat.le_of_ble_eq_true rfl, Nat.le_of_ble_eq_true rfl⟩) ⟨pt_blind, pt_pre⟩ rfl rfl hl.1 rfl (lv_room (Nat.le_of_ble_eq_true rfl)) dX5_level_12 ⟨Nat.le_of_ble_eq_true rfl, Nat.le_of_ble_eq_true rfl⟩) (fun r hw => ?_)
    rcases hw with ⟨rfl, h6⟩ | ⟨rfl, h6⟩
    · have hrelh6 := rel6.mp h6
      refine lv_if_eq (x := 1) (tgt := 26) hx hb dX5_level_15 (by decide) (fun c => absurd c (by decide)) (fun c15 => ?_)
      refine lv_iload hx hb dX5_level_18 (lv_at hl 4 rfl) ?_
      refine vp_callSi (W.runS (As := [.int n]) (rest := []) ⟨hx, hb, hml, hown, hts⟩ (c_X5_isNumber l n) (va_cwS 1 hts gX5_level_X5_isNumber rfl rfl rfl (by decide +kernel) ⟨Nat.le_of_ble_eq_true rfl, Nat.le_of_ble_eq_true rfl⟩) ⟨pt_blind, pt_pre⟩ rfl rfl hl.1 rfl (lv_room (Nat.le_of_ble_eq_true rfl)) dX5_level_20 ⟨Nat.le_of_ble_eq_true rfl, Nat.le_of_ble_eq_true rfl⟩) (fun r hw => ?_)
      rcases hw with ⟨rfl, h7⟩ | ⟨rfl, h7⟩
      · refine lv_if_ne (x := 1) (tgt := 29) hx hb dX5_level_23 (by decide) (fun c23 => ?_) (fun c => absurd c (by decide))
        refine lv_aload_n hx hb dX5_level_29 rfl (lv_at hl 0 rfl) ?_
        refine lv_iload_n hx hb dX5_level_30 rfl (lv_at hl 3 rfl) ?_
        refine vp_callSi (W.runV (As := [.int a]) (rest := []) ⟨hx, hb, hml, hown, hts⟩ (c_X5_isGauge l D cy A α σ a) (cwV 1 hts gX5_level_X5_isGauge rfl rfl rfl (by decide +kernel) ⟨Nat.le_of_ble_eq_true rfl, Nat.le_of_ble_eq_true rfl⟩) ⟨pb_blind, pw_recv hP hK cr_obj rfl, pb_pre hP hK⟩ rfl rfl hl.1 rfl (lv_room (Nat.le_of_ble_eq_true rfl)) dX5_level_31 ⟨Nat.le_of_ble_eq_true rfl, Nat.le_of_ble_eq_true rfl⟩) (fun r hw => ?_)
        rcases hw with ⟨rfl, j9, hx10, hj11, hg12, hm13⟩ | ⟨rfl, h8⟩
        · refine lv_if_eq (x := 1) (tgt := 52) hx hb dX5_level_34 (by decide) (fun c => absurd c (by decide)) (fun c34 => ?_)
          refine lv_aload_n hx hb dX5_level_37 rfl (lv_at hl 0 rfl) ?_
          refine lv_iload_n hx hb dX5_level_38 rfl (lv_at hl 1 rfl) ?_
          refine lv_iload_n hx hb dX5_level_39 rfl (lv_at hl 2 rfl) ?_
          refine lv_iload_n hx hb dX5_level_40 rfl (lv_at hl 3 rfl) ?_
          refine lv_iconst (v := (-1)) hx hb dX5_level_41 (by decide) ?_
          refine lv_iload hx hb dX5_level_42 (lv_at hl 4 rfl) ?_
          refine lv_iload hx hb dX5_level_44 (lv_at hl 5 rfl) ?_
          refine va_calli (va_runV (As := [.int ci, .int rel, .int a, .int (-1), .int n, .int tu]) (rest := []) ⟨hx, hb, hml, hown, hts⟩ (c_X5_defines l D cy A α σ ci j2 rel a (-1) n tu hg4 hj3 ht01) (cwV 6 hts gX5_level_X5_defines rfl rfl rfl (by decide +kernel) ⟨Nat.le_of_ble_eq_true rfl, Nat.le_of_ble_eq_true rfl⟩) ⟨pb_blind, pw_recv hP hK cr_obj rfl, pb_pre hP hK⟩ rfl rfl hl.1 rfl (lv_room (Nat.le_of_ble_eq_true rfl)) dX5_level_46 ⟨Nat.le_of_ble_eq_true rfl, Nat.le_of_ble_eq_true rfl⟩) hS (fun _ _ h => h) (fun _ h => h) (fun r u t H locs ht hvm hw hB hz1 hk1 hS => ?_)
          have hP := hB
          rw [ht] at hP
          refine W.cs (cells' := 0) (slots' := 0) rfl rfl ?_
          subst hw
          refine lv_goto (tgt := 54) hx hb dX5_level_49 (by decide) ?_
          have eF : F_level σ ci rel a n tu = (1, (defs σ j2 rel a (-1) n tu)) := by simp [F_level, h1, h7, hx10, hc5, hrelh6]
          exact W.iret (v := 1) hx hb hr (fun t ht hW => ⟨⟨_, (), rfl, (by rw [eF]), by dsimp only; rw [ht]; exact (by rw [eF]; exact hP)⟩, hS.F ht⟩) hS.2.2 dX5_level_54
        · refine lv_if_eq (x := 0) (tgt := 52) hx hb dX5_level_34 (by decide) (fun c34 => ?_) (fun c => absurd (by decide) c)
          refine lv_bipush (v := (-2)) hx hb dX5_level_52 (by decide) ?_
          have eF : F_level σ ci rel a n tu = ((-2), σ) := by simp [F_level, h1, h7, h8, hc5, hrelh6]
          exact W.iret (v := (-2)) hx hb hr (fun t ht hW => ⟨⟨_, (), rfl, (by rw [eF]), by dsimp only; rw [ht]; exact (by rw [eF]; exact hP)⟩, hS.F ht⟩) hS.2.2 dX5_level_54
      · refine lv_if_ne (x := 0) (tgt := 29) hx hb dX5_level_23 (by decide) (fun c => absurd (by decide) c) (fun c23 => ?_)
        refine lv_bipush (v := (-4)) hx hb dX5_level_26 (by decide) ?_
        have eF : F_level σ ci rel a n tu = ((-4), σ) := by simp [F_level, h1, h7, hc5, hrelh6]
        exact W.iret (v := (-4)) hx hb hr (fun t ht hW => ⟨⟨_, (), rfl, (by rw [eF]), by dsimp only; rw [ht]; exact (by rw [eF]; exact hP)⟩, hS.F ht⟩) hS.2.2 dX5_level_28
    · have hrelh6 := mt rel6.mpr h6
      refine lv_if_eq (x := 0) (tgt := 26) hx hb dX5_level_15 (by decide) (fun c15 => ?_) (fun c => absurd (by decide) c)
      refine lv_bipush (v := (-4)) hx hb dX5_level_26 (by decide) ?_
      have eF : F_level σ ci rel a n tu = ((-4), σ) := by simp [F_level, h1, hc5, hrelh6]
      exact W.iret (v := (-4)) hx hb hr (fun t ht hW => ⟨⟨_, (), rfl, (by rw [eF]), by dsimp only; rw [ht]; exact (by rw [eF]; exact hP)⟩, hS.F ht⟩) hS.2.2 dX5_level_28
  · refine lv_if_eq (x := 0) (tgt := 26) hx hb dX5_level_6 (by decide) (fun c6 => ?_) (fun c => absurd (by decide) c)
    refine lv_bipush (v := (-4)) hx hb dX5_level_26 (by decide) ?_
    have eF : F_level σ ci rel a n tu = ((-4), σ) := by simp [F_level, h1]
    exact W.iret (v := (-4)) hx hb hr (fun t ht hW => ⟨⟨_, (), rfl, (by rw [eF]), by dsimp only; rw [ht]; exact (by rw [eF]; exact hP)⟩, hS.F ht⟩) hS.2.2 dX5_level_28

set_option maxHeartbeats 4000000 in
set_option maxRecDepth 100000 in
theorem c_X5_isHeld (l : Launch) (D : va_G) (cy : Nat → ClassId) (A : Nat → Prop) (α : AD) (σ : SG) (x : Int32) (cj : Nat) (hx0 : x = nI cj) (hc0 : cj < 24) (hok : okC σ cj) : Met l yX5_isHeld wsX5_isHeld ({ frames := 3, cells := 0, slots := 0, locals := 67 } : Room) (va_Pc [.ref (α 0 0), .int x] (PB D cy A α (CR cy σ α))) (vp_Si (fun r => bq r (held σ cj = true))) 0 0 (fun _ => False) := by
  refine Met.ofW (cc := cX5_isHeld) (maxL := 5) (ret := (some .boolean)) (by decide) rfl ?_
  intro p e s m args below meth c s₁ B hml hv
  obtain ⟨rfl, hP, hK⟩ := hv
  have hx := B.exec
  have hb := B.bytes
  have hr := B.returns
  have hts := atoms_spec (ws := wsX5_isHeld) B.pre
  have hown : s.vm.findClass RX5 = some m.cls := findClass_of_methodNamed B.named
  have hlocks := B.notSynchronized
  have hiX5 : ∀ w ∈ wsX50, w ∈ wsX5_isHeld := by decide +kernel
  have hl := lv_entry ([.ref (α 0 0), .int x]) (n := 5) (Nat.le_of_ble_eq_true rfl)
  rw [lg_entry_eq]
  generalize (lg_sl ([.ref (α 0 0), .int x]) ++ List.replicate (5 - (lg_sl ([.ref (α 0 0), .int x])).length) Slot.unset).toArray = ls at hl ⊢
  have hl : lv_has ls 5 [(0, .ref (α 0 0)), (1, .int x)] := hl
  obtain ⟨⟨a, ha, hfa, hma⟩, hrel, htu, hsec⟩ := hok
  refine lv_aload_n hx hb dX5_isHeld_0 rfl (lv_at hl 0 rfl) ?_
  refine rf_get (v := .ref (α 15 0)) hx hb hts hiX5 hown hK hP 14 (by decide) (by decide +kernel) rfl rfl dX5_isHeld_1 ?_
  refine lv_iload_n hx hb dX5_isHeld_4 rfl (lv_at hl 1 rfl) ?_
  refine rf_iald hx hb hK hP 14 (by decide) rfl cj hx0 hc0 dX5_isHeld_5 ?_
  refine lv_istore_n (lv' := [(2, .int (σ 14 cj)), (0, .ref (α 0 0)), (1, .int x)]) hx hb dX5_isHeld_6 rfl hl (by decide) rfl (fun ls hl => ?_)
  refine lv_aload_n hx hb dX5_isHeld_7 rfl (lv_at hl 1 rfl) ?_
  refine rf_get (v := .ref (α 16 0)) hx hb hts hiX5 hown hK hP 15 (by decide) (by decide +kernel) rfl rfl dX5_isHeld_8 ?_
  refine lv_iload_n hx hb dX5_isHeld_11 rfl (lv_at hl 2 rfl) ?_
  refine rf_iald hx hb hK hP 15 (by decide) rfl cj hx0 hc0 dX5_isHeld_12 ?_
  refine lv_iconst (v := (-1)) hx hb dX5_isHeld_13 (by decide) ?_
  refine lv_icmp_ne (x := (σ 15 cj)) (y := (-1)) (tgt := 21) hx hb dX5_isHeld_14 (by decide) (fun c14 => ?_) (fun c14 => ?_)
  · obtain ⟨b, hb1, hsb, hmb⟩ : ∃ b, b < 16 ∧ σ 15 cj = nI b ∧ σ 0 b ≠ 0 := hsec.resolve_left (fun h => c14 h.1)
    refine lv_aload_n hx hb dX5_isHeld_21 rfl (lv_at hl 1 rfl) ?_
    refine rf_get (v := .ref (α 16 0)) hx hb hts hiX5 hown hK hP 15 (by decide) (by decide +kernel) rfl rfl dX5_isHeld_22 ?_
    refine lv_iload_n hx hb dX5_isHeld_25 rfl (lv_at hl 2 rfl) ?_
    refine rf_iald hx hb hK hP 15 (by decide) rfl cj hx0 hc0 dX5_isHeld_26 ?_
    refine lv_istore_n (lv' := [(3, .int (σ 15 cj)), (2, .int (σ 14 cj)), (0, .ref (α 0 0)), (1, .int x)]) hx hb dX5_isHeld_27 rfl hl (by decide) rfl (fun ls hl => ?_)
    refine lv_aload_n hx hb dX5_isHeld_28 rfl (lv_at hl 2 rfl) ?_
    refine rf_get (v := .ref (α 16 0)) hx hb hts hiX5 hown hK hP 15 (by decide) (by decide +kernel) rfl rfl dX5_isHeld_29 ?_
    refine lv_iload_n hx hb dX5_isHeld_32 rfl (lv_at hl 3 rfl) ?_
    refine rf_iald hx hb hK hP 15 (by decide) rfl cj hx0 hc0 dX5_isHeld_33 ?_
    refine lv_iconst (v := (-1)) hx hb dX5_isHeld_34 (by decide) ?_
    refine lv_icmp_ne (x := (σ 15 cj)) (y := (-1)) (tgt := 47) hx hb dX5_isHeld_35 (by decide) (fun c35 => ?_) (fun c => absurd c c14)
    refine lv_aload_n hx hb dX5_isHeld_47 rfl (lv_at hl 2 rfl) ?_
    refine rf_get (v := .ref (α 3 0)) hx hb hts hiX5 hown hK hP 2 (by decide) (by decide +kernel) rfl rfl dX5_isHeld_48 ?_
    refine lv_iload_n hx hb dX5_isHeld_51 rfl (lv_at hl 0 rfl) ?_
    refine rf_iald hx hb hK hP 2 (by decide) rfl b hsb hb1 dX5_isHeld_52 ?_
    refine lv_istore (lv' := [(4, .int (σ 2 b)), (3, .int (σ 15 cj)), (2, .int (σ 14 cj)), (0, .ref (α 0 0)), (1, .int x)]) hx hb dX5_isHeld_53 hl (by decide) rfl (fun ls hl => ?_)
    refine lv_aload_n hx hb dX5_isHeld_55 rfl (lv_at hl 3 rfl) ?_
    refine lv_iload_n hx hb dX5_isHeld_56 rfl (lv_at hl 2 rfl) ?_
    refine lv_aload_n hx hb dX5_isHeld_57 rfl (lv_at hl 3 rfl) ?_
    refine rf_get (v := .ref (α 3 0)) hx hb hts hiX5 hown hK hP 2 (by decide) (by decide +kernel) rfl rfl dX5_isHeld_58 ?_
    refine lv_iload_n hx hb dX5_isHeld_61 rfl (lv_at hl 2 rfl) ?_
    refine rf_iald hx hb hK hP 2 (by decide) rfl a hfa ha dX5_isHeld_62 ?_
    refine lv_aload_n hx hb dX5_isHeld_63 rfl (lv_at hl 3 rfl) ?_
    refine rf_get (v := .ref (α 14 0)) hx hb hts hiX5 hown hK hP 13 (by decide) (by decide +kernel) rfl rfl dX5_isHeld_64 ?_
    refine lv_iload_n hx hb dX5_isHeld_67 rfl (lv_at hl 4 rfl) ?_
    refine rf_iald hx hb hK hP 13 (by decide) rfl cj hx0 hc0 dX5_isHeld_68 ?_
    refine lv_iload_n hx hb dX5_isHeld_69 rfl (lv_at hl 1 rfl) ?_
    refine lv_iload hx hb dX5_isHeld_70 (lv_at hl 0 rfl) ?_
    refine vp_callSi (W.runV (As := [.int (σ 14 cj), .int (σ 2 a), .int (σ 13 cj), .int (σ 15 cj), .int (σ 2 b)]) (rest := []) ⟨hx, hb, hml, hown, hts⟩ (c_X5_related l D cy A α σ (σ 14 cj) a (σ 2 a) (σ 13 cj) (σ 15 cj) b (σ 2 b) hrel hfa ha hsb hb1) (cwV 5 hts gX5_isHeld_X5_related rfl rfl rfl (by decide +kernel) ⟨Nat.le_of_ble_eq_true rfl, Nat.le_of_ble_eq_true rfl⟩) ⟨pb_blind, pw_recv hP hK cr_obj rfl, pb_pre hP hK⟩ rfl rfl hl.1 rfl (lv_room (Nat.le_of_ble_eq_true rfl)) dX5_isHeld_72 ⟨Nat.le_of_ble_eq_true rfl, Nat.le_of_ble_eq_true rfl⟩) (fun r hw => ?_)
    rcases hw with ⟨rfl, h1⟩ | ⟨rfl, h1⟩
    · refine lv_aload_n hx hb dX5_isHeld_75 rfl (lv_at hl 3 rfl) ?_
      refine rf_get (v := .ref (α 13 0)) hx hb hts hiX5 hown hK hP 12 (by decide) (by decide +kernel) rfl rfl dX5_isHeld_76 ?_
      refine lv_iload_n hx hb dX5_isHeld_79 rfl (lv_at hl 4 rfl) ?_
      refine rf_zald hx hb hK hP 12 (by decide) rfl cj hx0 hc0 dX5_isHeld_80 ?_
      refine lv_icmp_eq (x := 1) (y := (σ 12 cj)) (tgt := 88) hx hb dX5_isHeld_81 (by decide) (fun c81 => ?_) (fun c81 => ?_)
      · refine lv_iconst (v := 0) hx hb dX5_isHeld_88 (by decide) ?_
        exact W.zret (v := 0) hx hb hr rfl (fun t ht hW => ⟨_, rfl, bq_f (by rw [(held_gg hfa ha c14 hsb hb1)]; exact tn_2 h1 c81), ht⟩) (fun q hq => absurd hq List.not_mem_nil) dX5_isHeld_89
      · refine lv_iconst (v := 1) hx hb dX5_isHeld_84 (by decide) ?_
        refine lv_goto (tgt := 89) hx hb dX5_isHeld_85 (by decide) ?_
        exact W.zret (v := 1) hx hb hr rfl (fun t ht hW => ⟨_, rfl, bq_t (by rw [(held_gg hfa ha c14 hsb hb1)]; exact tn_1 htu h1 c81), ht⟩) (fun q hq => absurd hq List.not_mem_nil) dX5_isHeld_89
    · refine lv_aload_n hx hb dX5_isHeld_75 rfl (lv_at hl 3 rfl) ?_
      refine rf_get (v := .ref (α 13 0)) hx hb hts hiX5 hown hK hP 12 (by decide) (by decide +kernel) rfl rfl dX5_isHeld_76 ?_
      refine lv_iload_n hx hb dX5_isHeld_79 rfl (lv_at hl 4 rfl) ?_
      refine rf_zald hx hb hK hP 12 (by decide) rfl cj hx0 hc0 dX5_isHeld_80 ?_
      refine lv_icmp_eq (x := 0) (y := (σ 12 cj)) (tgt := 88) hx hb dX5_isHeld_81 (by decide) (fun c81 => ?_) (fun c81 => ?_)
      · refine lv_iconst (v := 0) hx hb dX5_isHeld_88 (by decide) ?_
        exact W.zret (v := 0) hx hb hr rfl (fun t ht hW => ⟨_, rfl, bq_f (by rw [(held_gg hfa ha c14 hsb hb1)]; exact tn_4 h1 c81), ht⟩) (fun q hq => absurd hq List.not_mem_nil) dX5_isHeld_89
      · refine lv_iconst (v := 1) hx hb dX5_isHeld_84 (by decide) ?_
        refine lv_goto (tgt := 89) hx hb dX5_isHeld_85 (by decide) ?_
        exact W.zret (v := 1) hx hb hr rfl (fun t ht hW => ⟨_, rfl, bq_t (by rw [(held_gg hfa ha c14 hsb hb1)]; exact tn_3 htu h1 c81), ht⟩) (fun q hq => absurd hq List.not_mem_nil) dX5_isHeld_89
  · refine lv_iload_n hx hb dX5_isHeld_17 rfl (lv_at hl 0 rfl) ?_
    refine lv_goto (tgt := 27) hx hb dX5_isHeld_18 (by decide) ?_
    refine lv_istore_n (lv' := [(3, .int (σ 14 cj)), (2, .int (σ 14 cj)), (0, .ref (α 0 0)), (1, .int x)]) hx hb dX5_isHeld_27 rfl hl (by decide) rfl (fun ls hl => ?_)
    refine lv_aload_n hx hb dX5_isHeld_28 rfl (lv_at hl 2 rfl) ?_
    refine rf_get (v := .ref (α 16 0)) hx hb hts hiX5 hown hK hP 15 (by decide) (by decide +kernel) rfl rfl dX5_isHeld_29 ?_
    refine lv_iload_n hx hb dX5_isHeld_32 rfl (lv_at hl 3 rfl) ?_
    refine rf_iald hx hb hK hP 15 (by decide) rfl cj hx0 hc0 dX5_isHeld_33 ?_
    refine lv_iconst (v := (-1)) hx hb dX5_isHeld_34 (by decide) ?_
    refine lv_icmp_ne (x := (σ 15 cj)) (y := (-1)) (tgt := 47) hx hb dX5_isHeld_35 (by decide) (fun c => absurd c14 c) (fun c35 => ?_)
    refine lv_aload_n hx hb dX5_isHeld_38 rfl (lv_at hl 2 rfl) ?_
    refine rf_get (v := .ref (α 17 0)) hx hb hts hiX5 hown hK hP 16 (by decide) (by decide +kernel) rfl rfl dX5_isHeld_39 ?_
    refine lv_iload_n hx hb dX5_isHeld_42 rfl (lv_at hl 3 rfl) ?_
    refine rf_iald hx hb hK hP 16 (by decide) rfl cj hx0 hc0 dX5_isHeld_43 ?_
    refine lv_goto (tgt := 53) hx hb dX5_isHeld_44 (by decide) ?_
    refine lv_istore (lv' := [(4, .int (σ 16 cj)), (3, .int (σ 14 cj)), (2, .int (σ 14 cj)), (0, .ref (α 0 0)), (1, .int x)]) hx hb dX5_isHeld_53 hl (by decide) rfl (fun ls hl => ?_)
    refine lv_aload_n hx hb dX5_isHeld_55 rfl (lv_at hl 3 rfl) ?_
    refine lv_iload_n hx hb dX5_isHeld_56 rfl (lv_at hl 2 rfl) ?_
    refine lv_aload_n hx hb dX5_isHeld_57 rfl (lv_at hl 3 rfl) ?_
    refine rf_get (v := .ref (α 3 0)) hx hb hts hiX5 hown hK hP 2 (by decide) (by decide +kernel) rfl rfl dX5_isHeld_58 ?_
    refine lv_iload_n hx hb dX5_isHeld_61 rfl (lv_at hl 2 rfl) ?_
    refine rf_iald hx hb hK hP 2 (by decide) rfl a hfa ha dX5_isHeld_62 ?_
    refine lv_aload_n hx hb dX5_isHeld_63 rfl (lv_at hl 3 rfl) ?_
    refine rf_get (v := .ref (α 14 0)) hx hb hts hiX5 hown hK hP 13 (by decide) (by decide +kernel) rfl rfl dX5_isHeld_64 ?_
    refine lv_iload_n hx hb dX5_isHeld_67 rfl (lv_at hl 4 rfl) ?_
    refine rf_iald hx hb hK hP 13 (by decide) rfl cj hx0 hc0 dX5_isHeld_68 ?_
    refine lv_iload_n hx hb dX5_isHeld_69 rfl (lv_at hl 1 rfl) ?_
    refine lv_iload hx hb dX5_isHeld_70 (lv_at hl 0 rfl) ?_
    refine vp_callSi (W.runV (As := [.int (σ 14 cj), .int (σ 2 a), .int (σ 13 cj), .int (σ 14 cj), .int (σ 16 cj)]) (rest := []) ⟨hx, hb, hml, hown, hts⟩ (c_X5_related l D cy A α σ (σ 14 cj) a (σ 2 a) (σ 13 cj) (σ 14 cj) a (σ 16 cj) hrel hfa ha hfa ha) (cwV 5 hts gX5_isHeld_X5_related rfl rfl rfl (by decide +kernel) ⟨Nat.le_of_ble_eq_true rfl, Nat.le_of_ble_eq_true rfl⟩) ⟨pb_blind, pw_recv hP hK cr_obj rfl, pb_pre hP hK⟩ rfl rfl hl.1 rfl (lv_room (Nat.le_of_ble_eq_true rfl)) dX5_isHeld_72 ⟨Nat.le_of_ble_eq_true rfl, Nat.le_of_ble_eq_true rfl⟩) (fun r hw => ?_)
    rcases hw with ⟨rfl, h2⟩ | ⟨rfl, h2⟩
    · refine lv_aload_n hx hb dX5_isHeld_75 rfl (lv_at hl 3 rfl) ?_
      refine rf_get (v := .ref (α 13 0)) hx hb hts hiX5 hown hK hP 12 (by decide) (by decide +kernel) rfl rfl dX5_isHeld_76 ?_
      refine lv_iload_n hx hb dX5_isHeld_79 rfl (lv_at hl 4 rfl) ?_
      refine rf_zald hx hb hK hP 12 (by decide) rfl cj hx0 hc0 dX5_isHeld_80 ?_
      refine lv_icmp_eq (x := 1) (y := (σ 12 cj)) (tgt := 88) hx hb dX5_isHeld_81 (by decide) (fun c81 => ?_) (fun c81 => ?_)
      · refine lv_iconst (v := 0) hx hb dX5_isHeld_88 (by decide) ?_
        exact W.zret (v := 0) hx hb hr rfl (fun t ht hW => ⟨_, rfl, bq_f (by rw [(held_lv hfa ha c14)]; exact tn_2 h2 c81), ht⟩) (fun q hq => absurd hq List.not_mem_nil) dX5_isHeld_89
      · refine lv_iconst (v := 1) hx hb dX5_isHeld_84 (by decide) ?_
        refine lv_goto (tgt := 89) hx hb dX5_isHeld_85 (by decide) ?_
        exact W.zret (v := 1) hx hb hr rfl (fun t ht hW => ⟨_, rfl, bq_t (by rw [(held_lv hfa ha c14)]; exact tn_1 htu h2 c81), ht⟩) (fun q hq => absurd hq List.not_mem_nil) dX5_isHeld_89
    · refine lv_aload_n hx hb dX5_isHeld_75 rfl (lv_at hl 3 rfl) ?_
      refine rf_get (v := .ref (α 13 0)) hx hb hts hiX5 hown hK hP 12 (by decide) (by decide +kernel) rfl rfl dX5_isHeld_76 ?_
      refine lv_iload_n hx hb dX5_isHeld_79 rfl (lv_at hl 4 rfl) ?_
      refine rf_zald hx hb hK hP 12 (by decide) rfl cj hx0 hc0 dX5_isHeld_80 ?_
      refine lv_icmp_eq (x := 0) (y := (σ 12 cj)) (tgt := 88) hx hb dX5_isHeld_81 (by decide) (fun c81 => ?_) (fun c81 => ?_)
      · refine lv_iconst (v := 0) hx hb dX5_isHeld_88 (by decide) ?_
        exact W.zret (v := 0) hx hb hr rfl (fun t ht hW => ⟨_, rfl, bq_f (by rw [(held_lv hfa ha c14)]; exact tn_4 h2 c81), ht⟩) (fun q hq => absurd hq List.not_mem_nil) dX5_isHeld_89
      · refine lv_iconst (v := 1) hx hb dX5_isHeld_84 (by decide) ?_
        refine lv_goto (tgt := 89) hx hb dX5_isHeld_85 (by decide) ?_
        exact W.zret (v := 1) hx hb hr rfl (fun t ht hW => ⟨_, rfl, bq_t (by rw [(held_lv hfa ha c14)]; exact tn_3 htu h2 c81), ht⟩) (fun q hq => absurd hq List.not_mem_nil) dX5_isHeld_89

set_option maxHeartbeats 4000000 in
set_option maxRecDepth 100000 in
theorem c_X5_holds (l : Launch) (D : va_G) (cy : Nat → ClassId) (A : Nat → Prop) (α : AD) (σ : SG) (ci : Int32) (hC : ∀ c, c < 24 → σ 11 c ≠ 0 → okC σ c) : Met l yX5_holds wsX5_holds ({ frames := 4, cells := 0, slots := 0, locals := 91 } : Room) (va_Pc [.ref (α 0 0), .int ci] (PB D cy A α (CR cy σ α))) (vp_Si (fun r => r = F_holds σ ci)) 0 0 (fun _ => False) := by
  refine Met.ofW (cc := cX5_holds) (maxL := 2) (ret := (some .int)) (by decide) rfl ?_
  intro p e s m args below meth c s₁ B hml hv
  obtain ⟨rfl, hP, hK⟩ := hv
  have hx := B.exec
  have hb := B.bytes
  have hr := B.returns
  have hts := atoms_spec (ws := wsX5_holds) B.pre
  have hown : s.vm.findClass RX5 = some m.cls := findClass_of_methodNamed B.named
  have hlocks := B.notSynchronized
  have hiX5 : ∀ w ∈ wsX50, w ∈ wsX5_holds := by decide +kernel
  have hl := lv_entry ([.ref (α 0 0), .int ci]) (n := 2) (Nat.le_of_ble_eq_true rfl)
  rw [lg_entry_eq]
  generalize (lg_sl ([.ref (α 0 0), .int ci]) ++ List.replicate (2 - (lg_sl ([.ref (α 0 0), .int ci])).length) Slot.unset).toArray = ls at hl ⊢
  have hl : lv_has ls 2 [(0, .ref (α 0 0)), (1, .int ci)] := hl
  refine lv_aload_n hx hb dX5_holds_0 rfl (lv_at hl 0 rfl) ?_
  refine lv_iload_n hx hb dX5_holds_1 rfl (lv_at hl 1 rfl) ?_
  refine vp_callSi (W.runV (As := [.int ci]) (rest := []) ⟨hx, hb, hml, hown, hts⟩ (c_X5_isCondition l D cy A α σ ci) (cwV 1 hts gX5_holds_X5_isCondition rfl rfl rfl (by decide +kernel) ⟨Nat.le_of_ble_eq_true rfl, Nat.le_of_ble_eq_true rfl⟩) ⟨pb_blind, pw_recv hP hK cr_obj rfl, pb_pre hP hK⟩ rfl rfl hl.1 rfl (lv_room (Nat.le_of_ble_eq_true rfl)) dX5_holds_2 ⟨Nat.le_of_ble_eq_true rfl, Nat.le_of_ble_eq_true rfl⟩) (fun r hw => ?_)
  rcases hw with ⟨rfl, j2, hx3, hj4, hg5, hm6⟩ | ⟨rfl, h1⟩
  · refine lv_if_ne (x := 1) (tgt := 13) hx hb dX5_holds_5 (by decide) (fun c5 => ?_) (fun c => absurd c (by decide))
    refine lv_aload_n hx hb dX5_holds_13 rfl (lv_at hl 0 rfl) ?_
    refine lv_iload_n hx hb dX5_holds_14 rfl (lv_at hl 1 rfl) ?_
    refine vp_callSi (W.runV (As := [.int ci]) (rest := []) ⟨hx, hb, hml, hown, hts⟩ (c_X5_isHeld l D cy A α σ ci j2 hg5 hj4 (hC j2 hj4 hm6)) (cwV 1 hts gX5_holds_X5_isHeld rfl rfl rfl (by decide +kernel) ⟨Nat.le_of_ble_eq_true rfl, Nat.le_of_ble_eq_true rfl⟩) ⟨pb_blind, pw_recv hP hK cr_obj rfl, pb_pre hP hK⟩ rfl rfl hl.1 rfl (lv_room (Nat.le_of_ble_eq_true rfl)) dX5_holds_15 ⟨Nat.le_of_ble_eq_true rfl, Nat.le_of_ble_eq_true rfl⟩) (fun r hw => ?_)
    rcases hw with ⟨rfl, h7⟩ | ⟨rfl, h7⟩
    · refine lv_if_eq (x := 1) (tgt := 25) hx hb dX5_holds_18 (by decide) (fun c => absurd c (by decide)) (fun c18 => ?_)
      refine lv_iconst (v := 1) hx hb dX5_holds_21 (by decide) ?_
      refine lv_goto (tgt := 26) hx hb dX5_holds_22 (by decide) ?_
      have eF : F_holds σ ci = 1 := by simp [F_holds, h7, hx3, bI]
      exact W.iret (v := 1) hx hb hr (fun t ht hW => ⟨_, rfl, (by rw [eF]), ht⟩) (fun q hq => absurd hq List.not_mem_nil) dX5_holds_26
    · refine lv_if_eq (x := 0) (tgt := 25) hx hb dX5_holds_18 (by decide) (fun c18 => ?_) (fun c => absurd (by decide) c)
      refine lv_iconst (v := 0) hx hb dX5_holds_25 (by decide) ?_
      have eF : F_holds σ ci = 0 := by simp [F_holds, h7, hx3, bI]
      exact W.iret (v := 0) hx hb hr (fun t ht hW => ⟨_, rfl, (by rw [eF]), ht⟩) (fun q hq => absurd hq List.not_mem_nil) dX5_holds_26
  · refine lv_if_ne (x := 0) (tgt := 13) hx hb dX5_holds_5 (by decide) (fun c => absurd (by decide) c) (fun c5 => ?_)
    refine lv_bipush (v := (-2)) hx hb dX5_holds_8 (by decide) ?_
    refine lv_goto (tgt := 26) hx hb dX5_holds_10 (by decide) ?_
    have eF : F_holds σ ci = (-2) := by simp [F_holds, h1, bI]
    exact W.iret (v := (-2)) hx hb hr (fun t ht hW => ⟨_, rfl, (by rw [eF]), ht⟩) (fun q hq => absurd hq List.not_mem_nil) dX5_holds_26

set_option maxHeartbeats 4000000 in
set_option maxRecDepth 100000 in
theorem c_X5_trip (l : Launch) (D : va_G) (cy : Nat → ClassId) (A : Nat → Prop) (α : AD) (σ : SG) (ti v : Int32) : Met l yX5_trip wsX5_trip ({ frames := 1, cells := 0, slots := 0, locals := 21 } : Room) (va_Pc [.ref (α 0 0), .int ti, .int v] (PB D cy A α (CR cy σ α))) (va_Qi (fun (r : Int32) (u : Unit) => r = (F_trip σ ti v).1) (fun u t => PW D A α (CR cy (F_trip σ ti v).2 α) t.heap) A) 0 0 A := by
  refine Met.ofW (cc := cX5_trip) (maxL := 3) (ret := (some .int)) (by decide) rfl ?_
  intro p e s m args below meth c s₁ B hml hv
  obtain ⟨rfl, hP, hK⟩ := hv
  have hx := B.exec
  have hb := B.bytes
  have hr := B.returns
  have hts := atoms_spec (ws := wsX5_trip) B.pre
  have hown : s.vm.findClass RX5 = some m.cls := findClass_of_methodNamed B.named
  have hlocks := B.notSynchronized
  have hiX5 : ∀ w ∈ wsX50, w ∈ wsX5_trip := by decide +kernel
  have hS : va_S A s.heap s.heap [] := va_S.rf
  have hl := lv_entry ([.ref (α 0 0), .int ti, .int v]) (n := 3) (Nat.le_of_ble_eq_true rfl)
  rw [lg_entry_eq]
  generalize (lg_sl ([.ref (α 0 0), .int ti, .int v]) ++ List.replicate (3 - (lg_sl ([.ref (α 0 0), .int ti, .int v])).length) Slot.unset).toArray = ls at hl ⊢
  have hl : lv_has ls 3 [(0, .ref (α 0 0)), (1, .int ti), (2, .int v)] := hl
  skip
  refine lv_iload_n hx hb dX5_trip_0 rfl (lv_at hl 1 rfl) ?_
  refine lv_bipush (v := 8) hx hb dX5_trip_1 (by decide) ?_
  refine vp_callSi (W.runS (As := [.int ti, .int 8]) (rest := []) ⟨hx, hb, hml, hown, hts⟩ (c_X5_isIn l ti 8) (va_cwS 2 hts gX5_trip_X5_isIn rfl rfl rfl (by decide +kernel) ⟨Nat.le_of_ble_eq_true rfl, Nat.le_of_ble_eq_true rfl⟩) ⟨pt_blind, pt_pre⟩ rfl rfl hl.1 rfl (lv_room (Nat.le_of_ble_eq_true rfl)) dX5_trip_3 ⟨Nat.le_of_ble_eq_true rfl, Nat.le_of_ble_eq_true rfl⟩) (fun r hw => ?_)
  rcases hw with ⟨rfl, h1⟩ | ⟨rfl, h1⟩
  · obtain ⟨j2, hj3, hg4⟩ := in_j (n := 8) (by decide) h1
    have hc5 : cN ti = j2 := cN_of hg4 (by omega)
    refine lv_if_eq (x := 1) (tgt := 20) hx hb dX5_trip_6 (by decide) (fun c => absurd c (by decide)) (fun c6 => ?_)
    refine lv_iload_n hx hb dX5_trip_9 rfl (lv_at hl 2 rfl) ?_
    refine lv_iconst (v := 1) hx hb dX5_trip_10 (by decide) ?_
    refine lv_icmp_lt (x := v) (y := 1) (tgt := 20) hx hb dX5_trip_11 (by decide) (fun c11 => ?_) (fun c11 => ?_)
    · refine lv_bipush (v := (-4)) hx hb dX5_trip_20 (by decide) ?_
      have eF : F_trip σ ti v = ((-4), σ) := by rw [F_trip, if_neg (fun h => absurd h.2.1 (Int32.not_le.mpr c11))]
      exact W.iret (v := (-4)) hx hb hr (fun t ht hW => ⟨⟨_, (), rfl, (by rw [eF]), by dsimp only; rw [ht]; exact (by rw [eF]; exact hP)⟩, hS.F ht⟩) hS.2.2 dX5_trip_22
    · refine lv_iload_n hx hb dX5_trip_14 rfl (lv_at hl 2 rfl) ?_
      refine lv_bipush (v := 6) hx hb dX5_trip_15 (by decide) ?_
      refine lv_icmp_le (x := v) (y := 6) (tgt := 23) hx hb dX5_trip_17 (by decide) (fun c17 => ?_) (fun c17 => ?_)
      · refine lv_aload_n hx hb dX5_trip_23 rfl (lv_at hl 0 rfl) ?_
        refine rf_get (v := .ref (α 21 0)) hx hb hts hiX5 hown hK hP 20 (by decide) (by decide +kernel) rfl rfl dX5_trip_24 ?_
        refine lv_iload_n hx hb dX5_trip_27 rfl (lv_at hl 1 rfl) ?_
        refine lv_iconst (v := 1) hx hb dX5_trip_28 (by decide) ?_
        refine rf_zast hx hb hK hP hS 20 (by decide) rfl (Or.inr rfl) j2 hg4 hj3 dX5_trip_29 (fun H locs hP hz hS => ?_)
        refine lv_aload_n hx hb dX5_trip_30 rfl (lv_at hl 0 rfl) ?_
        refine rf_get (v := .ref (α 18 0)) hx hb hts hiX5 hown hK hP 17 (by decide) (by decide +kernel) rfl rfl dX5_trip_31 ?_
        refine lv_iload_n hx hb dX5_trip_34 rfl (lv_at hl 1 rfl) ?_
        refine lv_iload_n hx hb dX5_trip_35 rfl (lv_at hl 2 rfl) ?_
        refine rf_iast hx hb hK hP hS 17 (by decide) rfl j2 hg4 hj3 dX5_trip_36 (fun H locs hP hz hS => ?_)
        refine lv_aload_n hx hb dX5_trip_37 rfl (lv_at hl 0 rfl) ?_
        refine rf_get (v := .ref (α 19 0)) hx hb hts hiX5 hown hK hP 18 (by decide) (by decide +kernel) rfl rfl dX5_trip_38 ?_
        refine lv_iload_n hx hb dX5_trip_41 rfl (lv_at hl 1 rfl) ?_
        refine lv_iconst (v := 0) hx hb dX5_trip_42 (by decide) ?_
        refine rf_iast hx hb hK hP hS 18 (by decide) rfl j2 hg4 hj3 dX5_trip_43 (fun H locs hP hz hS => ?_)
        refine lv_aload_n hx hb dX5_trip_44 rfl (lv_at hl 0 rfl) ?_
        refine rf_get (v := .ref (α 22 0)) hx hb hts hiX5 hown hK hP 21 (by decide) (by decide +kernel) rfl rfl dX5_trip_45 ?_
        refine lv_iload_n hx hb dX5_trip_48 rfl (lv_at hl 1 rfl) ?_
        refine lv_iconst (v := 0) hx hb dX5_trip_49 (by decide) ?_
        refine rf_zast hx hb hK hP hS 21 (by decide) rfl (Or.inl rfl) j2 hg4 hj3 dX5_trip_50 (fun H locs hP hz hS => ?_)
        refine lv_iconst (v := 1) hx hb dX5_trip_51 (by decide) ?_
        have eF : F_trip σ ti v = (1, (sr (st (st (st (st σ 20 j2 1) 17 j2 v) 18 j2 0) 21 j2 0) 30 (fun i => if 6 * j2 ≤ i ∧ i < 6 * j2 + 6 then 0 else σ 30 i))) := by rw [F_trip, if_pos ⟨h1, Int32.not_lt.mp c11, c17⟩, hc5]; rfl
        exact W.iret (v := 1) hx hb hr (fun t ht hW => ⟨⟨_, (), rfl, (by rw [eF]), by dsimp only; rw [ht]; exact (by rw [eF]; show PW D A α (CR cy (sr _ 30 _) α) _; rw [cr_gh (by decide)]; exact hP)⟩, hS.F ht⟩) hS.2.2 dX5_trip_52
      · refine lv_bipush (v := (-4)) hx hb dX5_trip_20 (by decide) ?_
        have eF : F_trip σ ti v = ((-4), σ) := by rw [F_trip, if_neg (fun h => absurd h.2.2 c17)]
        exact W.iret (v := (-4)) hx hb hr (fun t ht hW => ⟨⟨_, (), rfl, (by rw [eF]), by dsimp only; rw [ht]; exact (by rw [eF]; exact hP)⟩, hS.F ht⟩) hS.2.2 dX5_trip_22
  · refine lv_if_eq (x := 0) (tgt := 20) hx hb dX5_trip_6 (by decide) (fun c6 => ?_) (fun c => absurd (by decide) c)
    refine lv_bipush (v := (-4)) hx hb dX5_trip_20 (by decide) ?_
    have eF : F_trip σ ti v = ((-4), σ) := by simp [F_trip, h1]
    exact W.iret (v := (-4)) hx hb hr (fun t ht hW => ⟨⟨_, (), rfl, (by rw [eF]), by dsimp only; rw [ht]; exact (by rw [eF]; exact hP)⟩, hS.F ht⟩) hS.2.2 dX5_trip_22

set_option maxHeartbeats 4000000 in
set_option maxRecDepth 100000 in
theorem c_X5_tripped (l : Launch) (D : va_G) (cy : Nat → ClassId) (A : Nat → Prop) (α : AD) (σ : SG) (t : Int32) : Met l yX5_tripped wsX5_tripped ({ frames := 2, cells := 0, slots := 0, locals := 42 } : Room) (va_Pc [.ref (α 0 0), .int t] (PB D cy A α (CR cy σ α))) (vp_Si (fun r => r = F_tripped σ t)) 0 0 (fun _ => False) := by
  refine Met.ofW (cc := cX5_tripped) (maxL := 2) (ret := (some .int)) (by decide) rfl ?_
  intro p e s m args below meth c s₁ B hml hv
  obtain ⟨rfl, hP, hK⟩ := hv
  have hx := B.exec
  have hb := B.bytes
  have hr := B.returns
  have hts := atoms_spec (ws := wsX5_tripped) B.pre
  have hown : s.vm.findClass RX5 = some m.cls := findClass_of_methodNamed B.named
  have hlocks := B.notSynchronized
  have hiX5 : ∀ w ∈ wsX50, w ∈ wsX5_tripped := by decide +kernel
  have hl := lv_entry ([.ref (α 0 0), .int t]) (n := 2) (Nat.le_of_ble_eq_true rfl)
  rw [lg_entry_eq]
  generalize (lg_sl ([.ref (α 0 0), .int t]) ++ List.replicate (2 - (lg_sl ([.ref (α 0 0), .int t])).length) Slot.unset).toArray = ls at hl ⊢
  have hl : lv_has ls 2 [(0, .ref (α 0 0)), (1, .int t)] := hl
  refine lv_aload_n hx hb dX5_tripped_0 rfl (lv_at hl 0 rfl) ?_
  refine lv_iload_n hx hb dX5_tripped_1 rfl (lv_at hl 1 rfl) ?_
  refine vp_callSi (W.runV (As := [.int t]) (rest := []) ⟨hx, hb, hml, hown, hts⟩ (c_X5_isTrip l D cy A α σ t) (cwV 1 hts gX5_tripped_X5_isTrip rfl rfl rfl (by decide +kernel) ⟨Nat.le_of_ble_eq_true rfl, Nat.le_of_ble_eq_true rfl⟩) ⟨pb_blind, pw_recv hP hK cr_obj rfl, pb_pre hP hK⟩ rfl rfl hl.1 rfl (lv_room (Nat.le_of_ble_eq_true rfl)) dX5_tripped_2 ⟨Nat.le_of_ble_eq_true rfl, Nat.le_of_ble_eq_true rfl⟩) (fun r hw => ?_)
  rcases hw with ⟨rfl, j2, hx3, hj4, hg5, hm6⟩ | ⟨rfl, h1⟩
  · refine lv_if_ne (x := 1) (tgt := 13) hx hb dX5_tripped_5 (by decide) (fun c5 => ?_) (fun c => absurd c (by decide))
    refine lv_aload_n hx hb dX5_tripped_13 rfl (lv_at hl 0 rfl) ?_
    refine rf_get (v := .ref (α 22 0)) hx hb hts hiX5 hown hK hP 21 (by decide) (by decide +kernel) rfl rfl dX5_tripped_14 ?_
    refine lv_iload_n hx hb dX5_tripped_17 rfl (lv_at hl 1 rfl) ?_
    refine rf_zald hx hb hK hP 21 (by decide) rfl j2 hg5 hj4 dX5_tripped_18 ?_
    refine lv_if_eq (x := (σ 21 j2)) (tgt := 26) hx hb dX5_tripped_19 (by decide) (fun c19 => ?_) (fun c19 => ?_)
    · refine lv_iconst (v := 0) hx hb dX5_tripped_26 (by decide) ?_
      have eF : F_tripped σ t = 0 := by simp [F_tripped, hx3, c19]
      exact W.iret (v := 0) hx hb hr (fun t ht hW => ⟨_, rfl, (by rw [eF]), ht⟩) (fun q hq => absurd hq List.not_mem_nil) dX5_tripped_27
    · refine lv_iconst (v := 1) hx hb dX5_tripped_22 (by decide) ?_
      refine lv_goto (tgt := 27) hx hb dX5_tripped_23 (by decide) ?_
      have eF : F_tripped σ t = 1 := by simp [F_tripped, hx3, c19]
      exact W.iret (v := 1) hx hb hr (fun t ht hW => ⟨_, rfl, (by rw [eF]), ht⟩) (fun q hq => absurd hq List.not_mem_nil) dX5_tripped_27
  · refine lv_if_ne (x := 0) (tgt := 13) hx hb dX5_tripped_5 (by decide) (fun c => absurd (by decide) c) (fun c5 => ?_)
    refine lv_bipush (v := (-2)) hx hb dX5_tripped_8 (by decide) ?_
    refine lv_goto (tgt := 27) hx hb dX5_tripped_10 (by decide) ?_
    have eF : F_tripped σ t = (-2) := by simp [F_tripped, h1]
    exact W.iret (v := (-2)) hx hb hr (fun t ht hW => ⟨_, rfl, (by rw [eF]), ht⟩) (fun q hq => absurd hq List.not_mem_nil) dX5_tripped_27
