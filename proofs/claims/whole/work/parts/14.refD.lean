theorem cvl_gt (o : Option Ordering) : 0 < Op.cmpValue o CmpOp.l ↔ o = some .gt := by rcases o with _ | (_ | _ | _) <;> simp [Op.cmpValue] <;> decide
theorem cvg_lt (o : Option Ordering) : Op.cmpValue o CmpOp.g < 0 ↔ o = some .lt := by rcases o with _ | (_ | _ | _) <;> simp [Op.cmpValue] <;> decide
theorem exN_or (σ : SG) (b : Int32) : ∀ g, exN σ b g = -1 ∨ ∃ i, i < g ∧ exN σ b g = nI i
  | 0 => Or.inl rfl
  | g + 1 => by
    by_cases hc : exN σ b (g + 1) = nI g
    · exact Or.inr ⟨g, Nat.lt_succ_self g, hc⟩
    · have e : exN σ b (g + 1) = exN σ b g := by
        rw [exN] at hc ⊢
        exact if_neg (fun q => hc (if_pos q))
      rw [e]
      rcases exN_or σ b g with h | ⟨i, hi, h⟩
      · exact Or.inl h
      · exact Or.inr ⟨i, Nat.lt_succ_of_lt hi, h⟩
theorem sw7 (w : Int32) : w = 0 ∨ w = 1 ∨ w = 2 ∨ w = 3 ∨ w = 4 ∨ w = 5 ∨ w = 6 ∨ (w.toInt < 0 ∨ 6 < w.toInt) := by
  by_cases h : w.toInt < 0 ∨ 6 < w.toInt
  · exact Or.inr (Or.inr (Or.inr (Or.inr (Or.inr (Or.inr (Or.inr h))))))
  · have h0 : 0 ≤ w := by rw [Int32.le_iff_toInt_le]; show (0 : Int) ≤ _; omega
    have h7 : w < nI 7 := by rw [Int32.lt_iff_toInt_lt, nI_toInt (by decide)]; omega
    obtain ⟨j, hj, rfl⟩ := in_j (n := 7) (by decide) ⟨h0, h7⟩
    rcases (show j = 0 ∨ j = 1 ∨ j = 2 ∨ j = 3 ∨ j = 4 ∨ j = 5 ∨ j = 6 by omega) with h | h | h | h | h | h | h <;> subst h <;> decide
theorem sw_ne {w : Int32} (h : w.toInt < 0 ∨ 6 < w.toInt) : ¬ w = 0 ∧ ¬ w = 1 ∧ ¬ w = 2 ∧ ¬ w = 3 ∧ ¬ w = 4 ∧ ¬ w = 5 ∧ ¬ w = 6 := by
  refine ⟨?_, ?_, ?_, ?_, ?_, ?_, ?_⟩ <;> (intro e; subst e; revert h; decide)
theorem cut_lo {σ : SG} {j : Nat} {n : Int32} (hn : n ≠ gp) (c1 : ¬ σ 3 j = gp) (c2 : FP.dcmp (vl (σ 1 j) n) (vl (σ 1 j) (σ 3 j)) = some .lt) : cutB σ j n = true := by
  have h : rd (σ 1 j) n 0 (σ 1 j) (σ 3 j) = true := by rw [rd_val hn c1, c2]; rfl
  rw [cutB, h]; rfl
theorem cut_hi {σ : SG} {j : Nat} {n : Int32} (hn : n ≠ gp) (c1 : ¬ σ 4 j = gp) (c2 : FP.dcmp (vl (σ 1 j) n) (vl (σ 1 j) (σ 4 j)) = some .gt) : cutB σ j n = true := by
  have h : rd (σ 1 j) n 2 (σ 1 j) (σ 4 j) = true := by rw [rd_val hn c1, c2]; rfl
  rw [cutB, h, Bool.or_true]
theorem rd_lo {nar n lo : Int32} (hn : n ≠ gp) (h : lo = gp ∨ ¬ FP.dcmp (vl nar n) (vl nar lo) = some .lt) : rd nar n 0 nar lo = false := by
  by_cases e : lo = gp
  · rw [rd_gap (Or.inr e)]; rfl
  · rw [rd_val hn e]
    exact Bool.eq_false_iff.mpr (fun q => (h.resolve_left e) ((rl_0 _).mp q))
theorem rd_hi {nar n hi : Int32} (hn : n ≠ gp) (h : hi = gp ∨ ¬ FP.dcmp (vl nar n) (vl nar hi) = some .gt) : rd nar n 2 nar hi = false := by
  by_cases e : hi = gp
  · rw [rd_gap (Or.inr e)]; rfl
  · rw [rd_val hn e]
    exact Bool.eq_false_iff.mpr (fun q => (h.resolve_left e) ((rl_2 _).mp q))
theorem cut_no {σ : SG} {j : Nat} {n : Int32} (hn : n ≠ gp) (h1 : σ 3 j = gp ∨ ¬ FP.dcmp (vl (σ 1 j) n) (vl (σ 1 j) (σ 3 j)) = some .lt) (h2 : σ 4 j = gp ∨ ¬ FP.dcmp (vl (σ 1 j) n) (vl (σ 1 j) (σ 4 j)) = some .gt) : cutB σ j n = false := by
  rw [cutB, rd_lo hn h1, rd_hi hn h2]; rfl
theorem how_0 {σ : SG} {j : Nat} {n : Int32} (h : cutB σ j n = true) : how σ j n = 0 := by rw [how, h]; rfl
theorem how_1 {σ : SG} {j : Nat} {n : Int32} (h : cutB σ j n = false) (h2 : ¬ σ 2 j = gp) (h3 : ¬ far (σ 1 j) (σ 5 j) n (σ 2 j) = true) : how σ j n = 1 := by
  rw [how, h, if_neg (by decide), if_pos ⟨h2, Bool.eq_false_iff.mpr h3⟩]
theorem how_2a {σ : SG} {j : Nat} {n : Int32} (h : cutB σ j n = false) (h2 : σ 2 j = gp) : how σ j n = 2 := by
  rw [how, h, if_neg (by decide), if_neg (fun q => q.1 h2)]
theorem how_2b {σ : SG} {j : Nat} {n : Int32} (h : cutB σ j n = false) (h3 : far (σ 1 j) (σ 5 j) n (σ 2 j) = true) : how σ j n = 2 := by
  rw [how, h, if_neg (by decide), if_neg (fun q => by rw [h3] at q; exact absurd q.2 (by decide))]
theorem how_or (σ : SG) (j : Nat) (n : Int32) : how σ j n = 0 ∨ how σ j n = 1 ∨ how σ j n = 2 := by
  unfold how
  split
  · exact Or.inl rfl
  · split
    · exact Or.inr (Or.inl rfl)
    · exact Or.inr (Or.inr rfl)

set_option maxHeartbeats 4000000 in
set_option maxRecDepth 100000 in
theorem c_X5_isFar (l : Launch) (D : va_G) (cy : Nat → ClassId) (A : Nat → Prop) (α : AD) (σ : SG) (g : Int32) (j : Nat) (n m2 : Int32) (hg : g = nI j) (hj : j < 16) : Met l yX5_isFar wsX5_isFar ({ frames := 2, cells := 0, slots := 0, locals := 42 } : Room) (va_Pc [.ref (α 0 0), .int g, .int n, .int m2] (PB D cy A α (CR cy σ α))) (vp_Si (fun r => bq r (far (σ 1 j) (σ 5 j) n m2 = true))) 0 0 (fun _ => False) := by
  refine Met.ofW (cc := cX5_isFar) (maxL := 7) (ret := (some .boolean)) (by decide) rfl ?_
  intro p e s m args below meth c s₁ B hml hv
  obtain ⟨rfl, hP, hK⟩ := hv
  have hx := B.exec
  have hb := B.bytes
  have hr := B.returns
  have hts := atoms_spec (ws := wsX5_isFar) B.pre
  have hown : s.vm.findClass RX5 = some m.cls := findClass_of_methodNamed B.named
  have hlocks := B.notSynchronized
  have hiX5 : ∀ w ∈ wsX50, w ∈ wsX5_isFar := by decide +kernel
  have hl := lv_entry ([.ref (α 0 0), .int g, .int n, .int m2]) (n := 7) (Nat.le_of_ble_eq_true rfl)
  rw [lg_entry_eq]
  generalize (lg_sl ([.ref (α 0 0), .int g, .int n, .int m2]) ++ List.replicate (7 - (lg_sl ([.ref (α 0 0), .int g, .int n, .int m2])).length) Slot.unset).toArray = ls at hl ⊢
  have hl : lv_has ls 7 [(0, .ref (α 0 0)), (1, .int g), (2, .int n), (3, .int m2)] := hl
  skip
  refine lv_aload_n hx hb dX5_isFar_0 rfl (lv_at hl 0 rfl) ?_
  refine lv_iload_n hx hb dX5_isFar_1 rfl (lv_at hl 1 rfl) ?_
  refine lv_iload_n hx hb dX5_isFar_2 rfl (lv_at hl 2 rfl) ?_
  refine vp_callSd (W.runV (As := [.int g, .int n]) (rest := []) ⟨hx, hb, hml, hown, hts⟩ (c_X5_value l D cy A α σ g j n hg hj) (cwV 2 hts gX5_isFar_X5_value rfl rfl rfl (by decide +kernel) ⟨Nat.le_of_ble_eq_true rfl, Nat.le_of_ble_eq_true rfl⟩) ⟨pb_blind, pw_recv hP hK cr_obj rfl, pb_pre hP hK⟩ rfl rfl hl.1 rfl (lv_room (Nat.le_of_ble_eq_true rfl)) dX5_isFar_3 ⟨Nat.le_of_ble_eq_true rfl, Nat.le_of_ble_eq_true rfl⟩) (fun r hw => ?_)
  subst hw
  refine lv_aload_n hx hb dX5_isFar_6 rfl (lv_at hl 0 rfl) ?_
  refine lv_iload_n hx hb dX5_isFar_7 rfl (lv_at hl 1 rfl) ?_
  refine lv_iload_n hx hb dX5_isFar_8 rfl (lv_at hl 3 rfl) ?_
  refine vp_callSd (W.runV (As := [.int g, .int m2]) (rest := [.double (vl (σ 1 j) n)]) ⟨hx, hb, hml, hown, hts⟩ (c_X5_value l D cy A α σ g j m2 hg hj) (cwV 2 hts gX5_isFar_X5_value rfl rfl rfl (by decide +kernel) ⟨Nat.le_of_ble_eq_true rfl, Nat.le_of_ble_eq_true rfl⟩) ⟨pb_blind, pw_recv hP hK cr_obj rfl, pb_pre hP hK⟩ rfl rfl hl.1 rfl (lv_room (Nat.le_of_ble_eq_true rfl)) dX5_isFar_9 ⟨Nat.le_of_ble_eq_true rfl, Nat.le_of_ble_eq_true rfl⟩) (fun r hw => ?_)
  subst hw
  refine lv_dcmp hx hb dX5_isFar_12 ?_
  refine lv_if_le (x := (Op.cmpValue (FP.dcmp (vl (σ 1 j) n) (vl (σ 1 j) m2)) CmpOp.l)) (tgt := 20) hx hb dX5_isFar_13 (by decide) (fun c13 => ?_) (fun c13 => ?_)
  · rw [cvl_le] at c13
    refine lv_iconst (v := 0) hx hb dX5_isFar_20 (by decide) ?_
    refine lv_istore (lv' := [(4, .int 0), (0, .ref (α 0 0)), (1, .int g), (2, .int n), (3, .int m2)]) hx hb dX5_isFar_21 hl (by decide) rfl (fun ls hl => ?_)
    refine lv_iload hx hb dX5_isFar_23 (lv_at hl 0 rfl) ?_
    refine lv_if_eq (x := 0) (tgt := 32) hx hb dX5_isFar_25 (by decide) (fun c25 => ?_) (fun c => absurd (by decide) c)
    refine lv_iload_n hx hb dX5_isFar_32 rfl (lv_at hl 4 rfl) ?_
    refine lv_istore (lv' := [(5, .int m2), (4, .int 0), (0, .ref (α 0 0)), (1, .int g), (2, .int n), (3, .int m2)]) hx hb dX5_isFar_33 hl (by decide) rfl (fun ls hl => ?_)
    refine lv_iload hx hb dX5_isFar_35 (lv_at hl 1 rfl) ?_
    refine lv_if_eq (x := 0) (tgt := 44) hx hb dX5_isFar_37 (by decide) (fun c37 => ?_) (fun c => absurd (by decide) c)
    refine lv_iload_n hx hb dX5_isFar_44 rfl (lv_at hl 4 rfl) ?_
    refine lv_istore (lv' := [(6, .int n), (5, .int m2), (4, .int 0), (0, .ref (α 0 0)), (1, .int g), (2, .int n), (3, .int m2)]) hx hb dX5_isFar_45 hl (by decide) rfl (fun ls hl => ?_)
    refine lv_aload_n hx hb dX5_isFar_47 rfl (lv_at hl 3 rfl) ?_
    refine rf_get (v := .ref (α 2 0)) hx hb hts hiX5 hown hK hP 1 (by decide) (by decide +kernel) rfl rfl dX5_isFar_48 ?_
    refine lv_iload_n hx hb dX5_isFar_51 rfl (lv_at hl 4 rfl) ?_
    refine rf_zald hx hb hK hP 1 (by decide) rfl j hg hj dX5_isFar_52 ?_
    refine lv_if_eq (x := (σ 1 j)) (tgt := 88) hx hb dX5_isFar_53 (by decide) (fun c53 => ?_) (fun c53 => ?_)
    · refine lv_iload hx hb dX5_isFar_88 (lv_at hl 1 rfl) ?_
      refine vp_callSd (W.runS (As := [.int m2]) (rest := []) ⟨hx, hb, hml, hown, hts⟩ (c_X5_wide l m2) (va_cwS 1 hts gX5_isFar_X5_wide rfl rfl rfl (by decide +kernel) ⟨Nat.le_of_ble_eq_true rfl, Nat.le_of_ble_eq_true rfl⟩) ⟨pt_blind, pt_pre⟩ rfl rfl hl.1 rfl (lv_room (Nat.le_of_ble_eq_true rfl)) dX5_isFar_90 ⟨Nat.le_of_ble_eq_true rfl, Nat.le_of_ble_eq_true rfl⟩) (fun r hw => ?_)
      subst hw
      refine lv_iload hx hb dX5_isFar_93 (lv_at hl 0 rfl) ?_
      refine vp_callSd (W.runS (As := [.int n]) (rest := [.double (wd m2)]) ⟨hx, hb, hml, hown, hts⟩ (c_X5_wide l n) (va_cwS 1 hts gX5_isFar_X5_wide rfl rfl rfl (by decide +kernel) ⟨Nat.le_of_ble_eq_true rfl, Nat.le_of_ble_eq_true rfl⟩) ⟨pt_blind, pt_pre⟩ rfl rfl hl.1 rfl (lv_room (Nat.le_of_ble_eq_true rfl)) dX5_isFar_95 ⟨Nat.le_of_ble_eq_true rfl, Nat.le_of_ble_eq_true rfl⟩) (fun r hw => ?_)
      subst hw
      refine lv_dsub hx hb dX5_isFar_98 (n64_of (ds_nn (wd_fin _) (wd_fin _))) ?_
      refine lv_aload_n hx hb dX5_isFar_99 rfl (lv_at hl 3 rfl) ?_
      refine rf_get (v := .ref (α 6 0)) hx hb hts hiX5 hown hK hP 5 (by decide) (by decide +kernel) rfl rfl dX5_isFar_100 ?_
      refine lv_iload_n hx hb dX5_isFar_103 rfl (lv_at hl 4 rfl) ?_
      refine rf_iald hx hb hK hP 5 (by decide) rfl j hg hj dX5_isFar_104 ?_
      refine vp_callSd (W.runS (As := [.int (σ 5 j)]) (rest := [.double (FP.dsub (wd m2) (wd n))]) ⟨hx, hb, hml, hown, hts⟩ (c_X5_wide l (σ 5 j)) (va_cwS 1 hts gX5_isFar_X5_wide rfl rfl rfl (by decide +kernel) ⟨Nat.le_of_ble_eq_true rfl, Nat.le_of_ble_eq_true rfl⟩) ⟨pt_blind, pt_pre⟩ rfl rfl hl.1 rfl (lv_room (Nat.le_of_ble_eq_true rfl)) dX5_isFar_105 ⟨Nat.le_of_ble_eq_true rfl, Nat.le_of_ble_eq_true rfl⟩) (fun r hw => ?_)
      subst hw
      refine lv_dcmp hx hb dX5_isFar_108 ?_
      refine lv_if_le (x := (Op.cmpValue (FP.dcmp (FP.dsub (wd m2) (wd n)) (wd (σ 5 j))) CmpOp.l)) (tgt := 116) hx hb dX5_isFar_109 (by decide) (fun c109 => ?_) (fun c109 => ?_)
      · rw [cvl_le] at c109
        refine lv_iconst (v := 0) hx hb dX5_isFar_116 (by decide) ?_
        exact W.zret (v := 0) hx hb hr rfl (fun t ht hW => ⟨_, rfl, bq_f (by rw [far, if_neg c13, if_pos c53]; exact fun h => c109 (beq_iff_eq.mp h)), ht⟩) (fun q hq => absurd hq List.not_mem_nil) dX5_isFar_117
      · rw [cvl_le] at c109
        refine lv_iconst (v := 1) hx hb dX5_isFar_112 (by decide) ?_
        refine lv_goto (tgt := 117) hx hb dX5_isFar_113 (by decide) ?_
        exact W.zret (v := 1) hx hb hr rfl (fun t ht hW => ⟨_, rfl, bq_t (by rw [far, if_neg c13, if_pos c53]; exact beq_iff_eq.mpr (Classical.not_not.mp c109)), ht⟩) (fun q hq => absurd hq List.not_mem_nil) dX5_isFar_117
    · refine lv_iload hx hb dX5_isFar_56 (lv_at hl 1 rfl) ?_
      refine vp_callSf (W.runS (As := [.int m2]) (rest := []) ⟨hx, hb, hml, hown, hts⟩ (c_X5_slim l m2) (va_cwS 1 hts gX5_isFar_X5_slim rfl rfl rfl (by decide +kernel) ⟨Nat.le_of_ble_eq_true rfl, Nat.le_of_ble_eq_true rfl⟩) ⟨pt_blind, pt_pre⟩ rfl rfl hl.1 rfl (lv_room (Nat.le_of_ble_eq_true rfl)) dX5_isFar_58 ⟨Nat.le_of_ble_eq_true rfl, Nat.le_of_ble_eq_true rfl⟩) (fun r hw => ?_)
      subst hw
      refine lv_iload hx hb dX5_isFar_61 (lv_at hl 0 rfl) ?_
      refine vp_callSf (W.runS (As := [.int n]) (rest := [.float (sl m2)]) ⟨hx, hb, hml, hown, hts⟩ (c_X5_slim l n) (va_cwS 1 hts gX5_isFar_X5_slim rfl rfl rfl (by decide +kernel) ⟨Nat.le_of_ble_eq_true rfl, Nat.le_of_ble_eq_true rfl⟩) ⟨pt_blind, pt_pre⟩ rfl rfl hl.1 rfl (lv_room (Nat.le_of_ble_eq_true rfl)) dX5_isFar_63 ⟨Nat.le_of_ble_eq_true rfl, Nat.le_of_ble_eq_true rfl⟩) (fun r hw => ?_)
      subst hw
      refine lv_fsub hx hb dX5_isFar_66 (n32_of (fs_nn (sl_fin _) (sl_fin _))) ?_
      refine lv_aload_n hx hb dX5_isFar_67 rfl (lv_at hl 3 rfl) ?_
      refine rf_get (v := .ref (α 6 0)) hx hb hts hiX5 hown hK hP 5 (by decide) (by decide +kernel) rfl rfl dX5_isFar_68 ?_
      refine lv_iload_n hx hb dX5_isFar_71 rfl (lv_at hl 4 rfl) ?_
      refine rf_iald hx hb hK hP 5 (by decide) rfl j hg hj dX5_isFar_72 ?_
      refine vp_callSf (W.runS (As := [.int (σ 5 j)]) (rest := [.float (FP.fsub (sl m2) (sl n))]) ⟨hx, hb, hml, hown, hts⟩ (c_X5_slim l (σ 5 j)) (va_cwS 1 hts gX5_isFar_X5_slim rfl rfl rfl (by decide +kernel) ⟨Nat.le_of_ble_eq_true rfl, Nat.le_of_ble_eq_true rfl⟩) ⟨pt_blind, pt_pre⟩ rfl rfl hl.1 rfl (lv_room (Nat.le_of_ble_eq_true rfl)) dX5_isFar_73 ⟨Nat.le_of_ble_eq_true rfl, Nat.le_of_ble_eq_true rfl⟩) (fun r hw => ?_)
      subst hw
      refine lv_fcmp hx hb dX5_isFar_76 ?_
      refine lv_if_le (x := (Op.cmpValue (FP.fcmp (FP.fsub (sl m2) (sl n)) (sl (σ 5 j))) CmpOp.l)) (tgt := 84) hx hb dX5_isFar_77 (by decide) (fun c77 => ?_) (fun c77 => ?_)
      · rw [cvl_le] at c77
        refine lv_iconst (v := 0) hx hb dX5_isFar_84 (by decide) ?_
        refine lv_goto (tgt := 117) hx hb dX5_isFar_85 (by decide) ?_
        exact W.zret (v := 0) hx hb hr rfl (fun t ht hW => ⟨_, rfl, bq_f (by rw [far, if_neg c13, if_neg c53]; exact fun h => c77 (beq_iff_eq.mp h)), ht⟩) (fun q hq => absurd hq List.not_mem_nil) dX5_isFar_117
      · rw [cvl_le] at c77
        refine lv_iconst (v := 1) hx hb dX5_isFar_80 (by decide) ?_
        refine lv_goto (tgt := 117) hx hb dX5_isFar_81 (by decide) ?_
        exact W.zret (v := 1) hx hb hr rfl (fun t ht hW => ⟨_, rfl, bq_t (by rw [far, if_neg c13, if_neg c53]; exact beq_iff_eq.mpr (Classical.not_not.mp c77)), ht⟩) (fun q hq => absurd hq List.not_mem_nil) dX5_isFar_117
  · rw [cvl_le] at c13
    refine lv_iconst (v := 1) hx hb dX5_isFar_16 (by decide) ?_
    refine lv_goto (tgt := 21) hx hb dX5_isFar_17 (by decide) ?_
    refine lv_istore (lv' := [(4, .int 1), (0, .ref (α 0 0)), (1, .int g), (2, .int n), (3, .int m2)]) hx hb dX5_isFar_21 hl (by decide) rfl (fun ls hl => ?_)
    refine lv_iload hx hb dX5_isFar_23 (lv_at hl 0 rfl) ?_
    refine lv_if_eq (x := 1) (tgt := 32) hx hb dX5_isFar_25 (by decide) (fun c => absurd c (by decide)) (fun c25 => ?_)
    refine lv_iload_n hx hb dX5_isFar_28 rfl (lv_at hl 3 rfl) ?_
    refine lv_goto (tgt := 33) hx hb dX5_isFar_29 (by decide) ?_
    refine lv_istore (lv' := [(5, .int n), (4, .int 1), (0, .ref (α 0 0)), (1, .int g), (2, .int n), (3, .int m2)]) hx hb dX5_isFar_33 hl (by decide) rfl (fun ls hl => ?_)
    refine lv_iload hx hb dX5_isFar_35 (lv_at hl 1 rfl) ?_
    refine lv_if_eq (x := 1) (tgt := 44) hx hb dX5_isFar_37 (by decide) (fun c => absurd c (by decide)) (fun c37 => ?_)
    refine lv_iload_n hx hb dX5_isFar_40 rfl (lv_at hl 5 rfl) ?_
    refine lv_goto (tgt := 45) hx hb dX5_isFar_41 (by decide) ?_
    refine lv_istore (lv' := [(6, .int m2), (5, .int n), (4, .int 1), (0, .ref (α 0 0)), (1, .int g), (2, .int n), (3, .int m2)]) hx hb dX5_isFar_45 hl (by decide) rfl (fun ls hl => ?_)
    refine lv_aload_n hx hb dX5_isFar_47 rfl (lv_at hl 3 rfl) ?_
    refine rf_get (v := .ref (α 2 0)) hx hb hts hiX5 hown hK hP 1 (by decide) (by decide +kernel) rfl rfl dX5_isFar_48 ?_
    refine lv_iload_n hx hb dX5_isFar_51 rfl (lv_at hl 4 rfl) ?_
    refine rf_zald hx hb hK hP 1 (by decide) rfl j hg hj dX5_isFar_52 ?_
    refine lv_if_eq (x := (σ 1 j)) (tgt := 88) hx hb dX5_isFar_53 (by decide) (fun c53 => ?_) (fun c53 => ?_)
    · refine lv_iload hx hb dX5_isFar_88 (lv_at hl 1 rfl) ?_
      refine vp_callSd (W.runS (As := [.int n]) (rest := []) ⟨hx, hb, hml, hown, hts⟩ (c_X5_wide l n) (va_cwS 1 hts gX5_isFar_X5_wide rfl rfl rfl (by decide +kernel) ⟨Nat.le_of_ble_eq_true rfl, Nat.le_of_ble_eq_true rfl⟩) ⟨pt_blind, pt_pre⟩ rfl rfl hl.1 rfl (lv_room (Nat.le_of_ble_eq_true rfl)) dX5_isFar_90 ⟨Nat.le_of_ble_eq_true rfl, Nat.le_of_ble_eq_true rfl⟩) (fun r hw => ?_)
      subst hw
      refine lv_iload hx hb dX5_isFar_93 (lv_at hl 0 rfl) ?_
      refine vp_callSd (W.runS (As := [.int m2]) (rest := [.double (wd n)]) ⟨hx, hb, hml, hown, hts⟩ (c_X5_wide l m2) (va_cwS 1 hts gX5_isFar_X5_wide rfl rfl rfl (by decide +kernel) ⟨Nat.le_of_ble_eq_true rfl, Nat.le_of_ble_eq_true rfl⟩) ⟨pt_blind, pt_pre⟩ rfl rfl hl.1 rfl (lv_room (Nat.le_of_ble_eq_true rfl)) dX5_isFar_95 ⟨Nat.le_of_ble_eq_true rfl, Nat.le_of_ble_eq_true rfl⟩) (fun r hw => ?_)
      subst hw
      refine lv_dsub hx hb dX5_isFar_98 (n64_of (ds_nn (wd_fin _) (wd_fin _))) ?_
      refine lv_aload_n hx hb dX5_isFar_99 rfl (lv_at hl 3 rfl) ?_
      refine rf_get (v := .ref (α 6 0)) hx hb hts hiX5 hown hK hP 5 (by decide) (by decide +kernel) rfl rfl dX5_isFar_100 ?_
      refine lv_iload_n hx hb dX5_isFar_103 rfl (lv_at hl 4 rfl) ?_
      refine rf_iald hx hb hK hP 5 (by decide) rfl j hg hj dX5_isFar_104 ?_
      refine vp_callSd (W.runS (As := [.int (σ 5 j)]) (rest := [.double (FP.dsub (wd n) (wd m2))]) ⟨hx, hb, hml, hown, hts⟩ (c_X5_wide l (σ 5 j)) (va_cwS 1 hts gX5_isFar_X5_wide rfl rfl rfl (by decide +kernel) ⟨Nat.le_of_ble_eq_true rfl, Nat.le_of_ble_eq_true rfl⟩) ⟨pt_blind, pt_pre⟩ rfl rfl hl.1 rfl (lv_room (Nat.le_of_ble_eq_true rfl)) dX5_isFar_105 ⟨Nat.le_of_ble_eq_true rfl, Nat.le_of_ble_eq_true rfl⟩) (fun r hw => ?_)
      subst hw
      refine lv_dcmp hx hb dX5_isFar_108 ?_
      refine lv_if_le (x := (Op.cmpValue (FP.dcmp (FP.dsub (wd n) (wd m2)) (wd (σ 5 j))) CmpOp.l)) (tgt := 116) hx hb dX5_isFar_109 (by decide) (fun c109 => ?_) (fun c109 => ?_)
      · rw [cvl_le] at c109
        refine lv_iconst (v := 0) hx hb dX5_isFar_116 (by decide) ?_
        exact W.zret (v := 0) hx hb hr rfl (fun t ht hW => ⟨_, rfl, bq_f (by rw [far, if_pos (Classical.not_not.mp c13), if_pos c53]; exact fun h => c109 (beq_iff_eq.mp h)), ht⟩) (fun q hq => absurd hq List.not_mem_nil) dX5_isFar_117
      · rw [cvl_le] at c109
        refine lv_iconst (v := 1) hx hb dX5_isFar_112 (by decide) ?_
        refine lv_goto (tgt := 117) hx hb dX5_isFar_113 (by decide) ?_
        exact W.zret (v := 1) hx hb hr rfl (fun t ht hW => ⟨_, rfl, bq_t (by rw [far, if_pos (Classical.not_not.mp c13), if_pos c53]; exact beq_iff_eq.mpr (Classical.not_not.mp c109)), ht⟩) (fun q hq => absurd hq List.not_mem_nil) dX5_isFar_117
    · refine lv_iload hx hb dX5_isFar_56 (lv_at hl 1 rfl) ?_
      refine vp_callSf (W.runS (As := [.int n]) (rest := []) ⟨hx, hb, hml, hown, hts⟩ (c_X5_slim l n) (va_cwS 1 hts gX5_isFar_X5_slim rfl rfl rfl (by decide +kernel) ⟨Nat.le_of_ble_eq_true rfl, Nat.le_of_ble_eq_true rfl⟩) ⟨pt_blind, pt_pre⟩ rfl rfl hl.1 rfl (lv_room (Nat.le_of_ble_eq_true rfl)) dX5_isFar_58 ⟨Nat.le_of_ble_eq_true rfl, Nat.le_of_ble_eq_true rfl⟩) (fun r hw => ?_)
      subst hw
      refine lv_iload hx hb dX5_isFar_61 (lv_at hl 0 rfl) ?_
      refine vp_callSf (W.runS (As := [.int m2]) (rest := [.float (sl n)]) ⟨hx, hb, hml, hown, hts⟩ (c_X5_slim l m2) (va_cwS 1 hts gX5_isFar_X5_slim rfl rfl rfl (by decide +kernel) ⟨Nat.le_of_ble_eq_true rfl, Nat.le_of_ble_eq_true rfl⟩) ⟨pt_blind, pt_pre⟩ rfl rfl hl.1 rfl (lv_room (Nat.le_of_ble_eq_true rfl)) dX5_isFar_63 ⟨Nat.le_of_ble_eq_true rfl, Nat.le_of_ble_eq_true rfl⟩) (fun r hw => ?_)
      subst hw
      refine lv_fsub hx hb dX5_isFar_66 (n32_of (fs_nn (sl_fin _) (sl_fin _))) ?_
      refine lv_aload_n hx hb dX5_isFar_67 rfl (lv_at hl 3 rfl) ?_
      refine rf_get (v := .ref (α 6 0)) hx hb hts hiX5 hown hK hP 5 (by decide) (by decide +kernel) rfl rfl dX5_isFar_68 ?_
      refine lv_iload_n hx hb dX5_isFar_71 rfl (lv_at hl 4 rfl) ?_
      refine rf_iald hx hb hK hP 5 (by decide) rfl j hg hj dX5_isFar_72 ?_
      refine vp_callSf (W.runS (As := [.int (σ 5 j)]) (rest := [.float (FP.fsub (sl n) (sl m2))]) ⟨hx, hb, hml, hown, hts⟩ (c_X5_slim l (σ 5 j)) (va_cwS 1 hts gX5_isFar_X5_slim rfl rfl rfl (by decide +kernel) ⟨Nat.le_of_ble_eq_true rfl, Nat.le_of_ble_eq_true rfl⟩) ⟨pt_blind, pt_pre⟩ rfl rfl hl.1 rfl (lv_room (Nat.le_of_ble_eq_true rfl)) dX5_isFar_73 ⟨Nat.le_of_ble_eq_true rfl, Nat.le_of_ble_eq_true rfl⟩) (fun r hw => ?_)
      subst hw
      refine lv_fcmp hx hb dX5_isFar_76 ?_
      refine lv_if_le (x := (Op.cmpValue (FP.fcmp (FP.fsub (sl n) (sl m2)) (sl (σ 5 j))) CmpOp.l)) (tgt := 84) hx hb dX5_isFar_77 (by decide) (fun c77 => ?_) (fun c77 => ?_)
      · rw [cvl_le] at c77
        refine lv_iconst (v := 0) hx hb dX5_isFar_84 (by decide) ?_
        refine lv_goto (tgt := 117) hx hb dX5_isFar_85 (by decide) ?_
        exact W.zret (v := 0) hx hb hr rfl (fun t ht hW => ⟨_, rfl, bq_f (by rw [far, if_pos (Classical.not_not.mp c13), if_neg c53]; exact fun h => c77 (beq_iff_eq.mp h)), ht⟩) (fun q hq => absurd hq List.not_mem_nil) dX5_isFar_117
      · rw [cvl_le] at c77
        refine lv_iconst (v := 1) hx hb dX5_isFar_80 (by decide) ?_
        refine lv_goto (tgt := 117) hx hb dX5_isFar_81 (by decide) ?_
        exact W.zret (v := 1) hx hb hr rfl (fun t ht hW => ⟨_, rfl, bq_t (by rw [far, if_pos (Classical.not_not.mp c13), if_neg c53]; exact beq_iff_eq.mpr (Classical.not_not.mp c77)), ht⟩) (fun q hq => absurd hq List.not_mem_nil) dX5_isFar_117

set_option maxHeartbeats 4000000 in
set_option maxRecDepth 100000 in
theorem c_X5_isAhead (l : Launch) (D : va_G) (cy : Nat → ClassId) (A : Nat → Prop) (α : AD) (σ : SG) (g : Int32) (i : Nat) (h : Int32) (j : Nat) (hg : g = nI i) (hi : i < 16) (hh : h = nI j) (hj : j < 16) : Met l yX5_isAhead wsX5_isAhead ({ frames := 2, cells := 0, slots := 0, locals := 42 } : Room) (va_Pc [.ref (α 0 0), .int g, .int h] (PB D cy A α (CR cy σ α))) (vp_Si (fun r => bq r (ahd σ i j = true))) 0 0 (fun _ => False) := by
  refine Met.ofW (cc := cX5_isAhead) (maxL := 7) (ret := (some .boolean)) (by decide) rfl ?_
  intro p e s m args below meth c s₁ B hml hv
  obtain ⟨rfl, hP, hK⟩ := hv
  have hx := B.exec
  have hb := B.bytes
  have hr := B.returns
  have hts := atoms_spec (ws := wsX5_isAhead) B.pre
  have hown : s.vm.findClass RX5 = some m.cls := findClass_of_methodNamed B.named
  have hlocks := B.notSynchronized
  have hiX5 : ∀ w ∈ wsX50, w ∈ wsX5_isAhead := by decide +kernel
  have hl := lv_entry ([.ref (α 0 0), .int g, .int h]) (n := 7) (Nat.le_of_ble_eq_true rfl)
  rw [lg_entry_eq]
  generalize (lg_sl ([.ref (α 0 0), .int g, .int h]) ++ List.replicate (7 - (lg_sl ([.ref (α 0 0), .int g, .int h])).length) Slot.unset).toArray = ls at hl ⊢
  have hl : lv_has ls 7 [(0, .ref (α 0 0)), (1, .int g), (2, .int h)] := hl
  skip
  refine lv_aload_n hx hb dX5_isAhead_0 rfl (lv_at hl 0 rfl) ?_
  refine rf_get (v := .ref (α 3 0)) hx hb hts hiX5 hown hK hP 2 (by decide) (by decide +kernel) rfl rfl dX5_isAhead_1 ?_
  refine lv_iload_n hx hb dX5_isAhead_4 rfl (lv_at hl 1 rfl) ?_
  refine rf_iald hx hb hK hP 2 (by decide) rfl i hg hi dX5_isAhead_5 ?_
  refine lv_ldc hx hb hown (hts (.constant RX5 103 (2000000000)) (by decide +kernel)) dX5_isAhead_6 ?_
  refine lv_icmp_eq (x := (σ 2 i)) (y := 2000000000) (tgt := 22) hx hb dX5_isAhead_8 (by decide) (fun c8 => ?_) (fun c8 => ?_)
  · refine lv_aload_n hx hb dX5_isAhead_22 rfl (lv_at hl 0 rfl) ?_
    refine rf_get (v := .ref (α 3 0)) hx hb hts hiX5 hown hK hP 2 (by decide) (by decide +kernel) rfl rfl dX5_isAhead_23 ?_
    refine lv_iload_n hx hb dX5_isAhead_26 rfl (lv_at hl 1 rfl) ?_
    refine rf_iald hx hb hK hP 2 (by decide) rfl i hg hi dX5_isAhead_27 ?_
    refine lv_ldc hx hb hown (hts (.constant RX5 103 (2000000000)) (by decide +kernel)) dX5_isAhead_28 ?_
    refine lv_icmp_ne (x := (σ 2 i)) (y := 2000000000) (tgt := 57) hx hb dX5_isAhead_30 (by decide) (fun c => absurd c8 c) (fun c30 => ?_)
    refine lv_aload_n hx hb dX5_isAhead_33 rfl (lv_at hl 0 rfl) ?_
    refine rf_get (v := .ref (α 3 0)) hx hb hts hiX5 hown hK hP 2 (by decide) (by decide +kernel) rfl rfl dX5_isAhead_34 ?_
    refine lv_iload_n hx hb dX5_isAhead_37 rfl (lv_at hl 2 rfl) ?_
    refine rf_iald hx hb hK hP 2 (by decide) rfl j hh hj dX5_isAhead_38 ?_
    refine lv_ldc hx hb hown (hts (.constant RX5 103 (2000000000)) (by decide +kernel)) dX5_isAhead_39 ?_
    refine lv_icmp_ne (x := (σ 2 j)) (y := 2000000000) (tgt := 53) hx hb dX5_isAhead_41 (by decide) (fun c41 => ?_) (fun c41 => ?_)
    · refine lv_iconst (v := 0) hx hb dX5_isAhead_53 (by decide) ?_
      refine lv_goto (tgt := 58) hx hb dX5_isAhead_54 (by decide) ?_
      exact W.zret (v := 0) hx hb hr rfl (fun t ht hW => ⟨_, rfl, bq_f (by simp [ahd, c8, c41]), ht⟩) (fun q hq => absurd hq List.not_mem_nil) dX5_isAhead_58
    · refine lv_iload_n hx hb dX5_isAhead_44 rfl (lv_at hl 1 rfl) ?_
      refine lv_iload_n hx hb dX5_isAhead_45 rfl (lv_at hl 2 rfl) ?_
      refine lv_icmp_ge (x := g) (y := h) (tgt := 53) hx hb dX5_isAhead_46 (by decide) (fun c46 => ?_) (fun c46 => ?_)
      · have hij : ¬ i < j := by rw [hg, hh] at c46; exact Nat.not_lt.mpr (ige (by omega) (by omega) c46)
        refine lv_iconst (v := 0) hx hb dX5_isAhead_53 (by decide) ?_
        refine lv_goto (tgt := 58) hx hb dX5_isAhead_54 (by decide) ?_
        exact W.zret (v := 0) hx hb hr rfl (fun t ht hW => ⟨_, rfl, bq_f (by simp [ahd, c8, c41, hij]), ht⟩) (fun q hq => absurd hq List.not_mem_nil) dX5_isAhead_58
      · have hij : i < j := by rw [hg, hh] at c46; exact ilt (by omega) (by omega) c46
        refine lv_iconst (v := 1) hx hb dX5_isAhead_49 (by decide) ?_
        refine lv_goto (tgt := 58) hx hb dX5_isAhead_50 (by decide) ?_
        exact W.zret (v := 1) hx hb hr rfl (fun t ht hW => ⟨_, rfl, bq_t (by simp [ahd, c8, c41, hij]), ht⟩) (fun q hq => absurd hq List.not_mem_nil) dX5_isAhead_58
  · refine lv_aload_n hx hb dX5_isAhead_11 rfl (lv_at hl 0 rfl) ?_
    refine rf_get (v := .ref (α 3 0)) hx hb hts hiX5 hown hK hP 2 (by decide) (by decide +kernel) rfl rfl dX5_isAhead_12 ?_
    refine lv_iload_n hx hb dX5_isAhead_15 rfl (lv_at hl 2 rfl) ?_
    refine rf_iald hx hb hK hP 2 (by decide) rfl j hh hj dX5_isAhead_16 ?_
    refine lv_ldc hx hb hown (hts (.constant RX5 103 (2000000000)) (by decide +kernel)) dX5_isAhead_17 ?_
    refine lv_icmp_ne (x := (σ 2 j)) (y := 2000000000) (tgt := 59) hx hb dX5_isAhead_19 (by decide) (fun c19 => ?_) (fun c19 => ?_)
    · refine lv_aload_n hx hb dX5_isAhead_59 rfl (lv_at hl 0 rfl) ?_
      refine lv_iload_n hx hb dX5_isAhead_60 rfl (lv_at hl 1 rfl) ?_
      refine lv_aload_n hx hb dX5_isAhead_61 rfl (lv_at hl 0 rfl) ?_
      refine rf_get (v := .ref (α 3 0)) hx hb hts hiX5 hown hK hP 2 (by decide) (by decide +kernel) rfl rfl dX5_isAhead_62 ?_
      refine lv_iload_n hx hb dX5_isAhead_65 rfl (lv_at hl 1 rfl) ?_
      refine rf_iald hx hb hK hP 2 (by decide) rfl i hg hi dX5_isAhead_66 ?_
      refine vp_callSd (W.runV (As := [.int g, .int (σ 2 i)]) (rest := []) ⟨hx, hb, hml, hown, hts⟩ (c_X5_value l D cy A α σ g i (σ 2 i) hg hi) (cwV 2 hts gX5_isAhead_X5_value rfl rfl rfl (by decide +kernel) ⟨Nat.le_of_ble_eq_true rfl, Nat.le_of_ble_eq_true rfl⟩) ⟨pb_blind, pw_recv hP hK cr_obj rfl, pb_pre hP hK⟩ rfl rfl hl.1 rfl (lv_room (Nat.le_of_ble_eq_true rfl)) dX5_isAhead_67 ⟨Nat.le_of_ble_eq_true rfl, Nat.le_of_ble_eq_true rfl⟩) (fun r hw => ?_)
      subst hw
      refine lv_dstore_n (lv' := [(3, .double (vl (σ 1 i) (σ 2 i))), (0, .ref (α 0 0)), (1, .int g), (2, .int h)]) hx hb dX5_isAhead_70 rfl hl (by decide) rfl (fun ls hl => ?_)
      refine lv_aload_n hx hb dX5_isAhead_71 rfl (lv_at hl 1 rfl) ?_
      refine lv_iload_n hx hb dX5_isAhead_72 rfl (lv_at hl 3 rfl) ?_
      refine lv_aload_n hx hb dX5_isAhead_73 rfl (lv_at hl 1 rfl) ?_
      refine rf_get (v := .ref (α 3 0)) hx hb hts hiX5 hown hK hP 2 (by decide) (by decide +kernel) rfl rfl dX5_isAhead_74 ?_
      refine lv_iload_n hx hb dX5_isAhead_77 rfl (lv_at hl 3 rfl) ?_
      refine rf_iald hx hb hK hP 2 (by decide) rfl j hh hj dX5_isAhead_78 ?_
      refine vp_callSd (W.runV (As := [.int h, .int (σ 2 j)]) (rest := []) ⟨hx, hb, hml, hown, hts⟩ (c_X5_value l D cy A α σ h j (σ 2 j) hh hj) (cwV 2 hts gX5_isAhead_X5_value rfl rfl rfl (by decide +kernel) ⟨Nat.le_of_ble_eq_true rfl, Nat.le_of_ble_eq_true rfl⟩) ⟨pb_blind, pw_recv hP hK cr_obj rfl, pb_pre hP hK⟩ rfl rfl hl.1 rfl (lv_room (Nat.le_of_ble_eq_true rfl)) dX5_isAhead_79 ⟨Nat.le_of_ble_eq_true rfl, Nat.le_of_ble_eq_true rfl⟩) (fun r hw => ?_)
      subst hw
      refine lv_dstore (lv' := [(5, .double (vl (σ 1 j) (σ 2 j))), (3, .double (vl (σ 1 i) (σ 2 i))), (0, .ref (α 0 0)), (1, .int g), (2, .int h)]) hx hb dX5_isAhead_82 hl (by decide) rfl (fun ls hl => ?_)
      refine lv_dload_n hx hb dX5_isAhead_84 rfl (lv_at hl 1 rfl) ?_
      refine lv_dload hx hb dX5_isAhead_85 (lv_at hl 0 rfl) ?_
      refine lv_dcmp hx hb dX5_isAhead_87 ?_
      refine lv_if_gt (x := (Op.cmpValue (FP.dcmp (vl (σ 1 i) (σ 2 i)) (vl (σ 1 j) (σ 2 j))) CmpOp.l)) (tgt := 103) hx hb dX5_isAhead_88 (by decide) (fun c88 => ?_) (fun c88 => ?_)
      · rw [cvl_gt] at c88
        refine lv_iconst (v := 1) hx hb dX5_isAhead_103 (by decide) ?_
        refine lv_goto (tgt := 108) hx hb dX5_isAhead_104 (by decide) ?_
        exact W.zret (v := 1) hx hb hr rfl (fun t ht hW => ⟨_, rfl, bq_t (by simp [ahd, c8, c19, c88]), ht⟩) (fun q hq => absurd hq List.not_mem_nil) dX5_isAhead_108
      · rw [cvl_gt] at c88
        refine lv_dload_n hx hb dX5_isAhead_91 rfl (lv_at hl 1 rfl) ?_
        refine lv_dload hx hb dX5_isAhead_92 (lv_at hl 0 rfl) ?_
        refine lv_dcmp hx hb dX5_isAhead_94 ?_
        refine lv_if_ne (x := (Op.cmpValue (FP.dcmp (vl (σ 1 i) (σ 2 i)) (vl (σ 1 j) (σ 2 j))) CmpOp.l)) (tgt := 107) hx hb dX5_isAhead_95 (by decide) (fun c95 => ?_) (fun c95 => ?_)
        · rw [cvl_eq] at c95
          refine lv_iconst (v := 0) hx hb dX5_isAhead_107 (by decide) ?_
          exact W.zret (v := 0) hx hb hr rfl (fun t ht hW => ⟨_, rfl, bq_f (by simp [ahd, c8, c19, c88, c95]), ht⟩) (fun q hq => absurd hq List.not_mem_nil) dX5_isAhead_108
        · rw [cvl_eq] at c95
          refine lv_iload_n hx hb dX5_isAhead_98 rfl (lv_at hl 3 rfl) ?_
          refine lv_iload_n hx hb dX5_isAhead_99 rfl (lv_at hl 4 rfl) ?_
          refine lv_icmp_ge (x := g) (y := h) (tgt := 107) hx hb dX5_isAhead_100 (by decide) (fun c100 => ?_) (fun c100 => ?_)
          · have hij : ¬ i < j := by rw [hg, hh] at c100; exact Nat.not_lt.mpr (ige (by omega) (by omega) c100)
            refine lv_iconst (v := 0) hx hb dX5_isAhead_107 (by decide) ?_
            exact W.zret (v := 0) hx hb hr rfl (fun t ht hW => ⟨_, rfl, bq_f (by simp [ahd, c8, c19, c88, c95, hij]), ht⟩) (fun q hq => absurd hq List.not_mem_nil) dX5_isAhead_108
          · have hij : i < j := by rw [hg, hh] at c100; exact ilt (by omega) (by omega) c100
            refine lv_iconst (v := 1) hx hb dX5_isAhead_103 (by decide) ?_
            refine lv_goto (tgt := 108) hx hb dX5_isAhead_104 (by decide) ?_
            exact W.zret (v := 1) hx hb hr rfl (fun t ht hW => ⟨_, rfl, bq_t (by simp [ahd, c8, c19, c88, c95, hij]), ht⟩) (fun q hq => absurd hq List.not_mem_nil) dX5_isAhead_108
    · refine lv_aload_n hx hb dX5_isAhead_22 rfl (lv_at hl 0 rfl) ?_
      refine rf_get (v := .ref (α 3 0)) hx hb hts hiX5 hown hK hP 2 (by decide) (by decide +kernel) rfl rfl dX5_isAhead_23 ?_
      refine lv_iload_n hx hb dX5_isAhead_26 rfl (lv_at hl 1 rfl) ?_
      refine rf_iald hx hb hK hP 2 (by decide) rfl i hg hi dX5_isAhead_27 ?_
      refine lv_ldc hx hb hown (hts (.constant RX5 103 (2000000000)) (by decide +kernel)) dX5_isAhead_28 ?_
      refine lv_icmp_ne (x := (σ 2 i)) (y := 2000000000) (tgt := 57) hx hb dX5_isAhead_30 (by decide) (fun c30 => ?_) (fun c => absurd c c8)
      refine lv_iconst (v := 1) hx hb dX5_isAhead_57 (by decide) ?_
      exact W.zret (v := 1) hx hb hr rfl (fun t ht hW => ⟨_, rfl, bq_t (by simp [ahd, c8, c19]), ht⟩) (fun q hq => absurd hq List.not_mem_nil) dX5_isAhead_58

set_option maxHeartbeats 4000000 in
set_option maxRecDepth 100000 in
theorem c_X5_order (l : Launch) (D : va_G) (cy : Nat → ClassId) (A : Nat → Prop) (α : AD) (σ : SG) (k : Int32) : Met l yX5_order wsX5_order ({ frames := 3, cells := 0, slots := 0, locals := 68 } : Room) (va_Pc [.ref (α 0 0), .int k] (PB D cy A α (CR cy σ α))) (vp_Si (fun r => r = F_order σ k)) 0 0 (fun _ => False) := by
  refine Met.ofW (cc := cX5_order) (maxL := 5) (ret := (some .int)) (by decide) rfl ?_
  intro p e s m args below meth c s₁ B hml hv
  obtain ⟨rfl, hP, hK⟩ := hv
  have hx := B.exec
  have hb := B.bytes
  have hr := B.returns
  have hts := atoms_spec (ws := wsX5_order) B.pre
  have hown : s.vm.findClass RX5 = some m.cls := findClass_of_methodNamed B.named
  have hlocks := B.notSynchronized
  have hiX5 : ∀ w ∈ wsX50, w ∈ wsX5_order := by decide +kernel
  have hl := lv_entry ([.ref (α 0 0), .int k]) (n := 5) (Nat.le_of_ble_eq_true rfl)
  rw [lg_entry_eq]
  generalize (lg_sl ([.ref (α 0 0), .int k]) ++ List.replicate (5 - (lg_sl ([.ref (α 0 0), .int k])).length) Slot.unset).toArray = ls at hl ⊢
  have hl : lv_has ls 5 [(0, .ref (α 0 0)), (1, .int k)] := hl
  have L13 : ∀ (n : Nat) (gg hh : Nat) (hn : (16 - gg) * 17 + (16 - hh) < n) (hg : gg < 16) (hh16 : hh ≤ 16) (hF : F_order σ k = ordN σ k (16 - gg) gg) (ls : Array Slot) (hl : lv_has ls 5 [(0, .ref (α 0 0)), (1, .int k), (2, .int (nI gg)), (3, .int (ahN σ gg hh)), (4, .int (nI hh))]) , W p l e ({ frames := 3, cells := 0, slots := 0, locals := 68 } : Room) s m ([.ref (α 0 0), .int k] : List Value).toArray below meth c s.heap [] 0 0 (MQ below (vp_Si (fun r => r = F_order σ k)) ([.ref (α 0 0), .int k] : List Value).toArray s 0 0 (fun _ => False)) (F0 m 13 ls []) := by
    intro n
    induction n with
    | zero => intro gg hh hn hg hh16 hF ls hl ; exact absurd hn (Nat.not_lt_zero _)
    | succ n ih =>
      intro gg hh hn hg hh16 hF ls hl 
      refine lv_iload hx hb dX5_order_13 (lv_at hl 4 rfl) ?_
      refine lv_bipush (v := 16) hx hb dX5_order_15 (by decide) ?_
      refine lv_icmp_ge (x := (nI hh)) (y := 16) (tgt := 69) hx hb dX5_order_17 (by decide) (fun c17 => ?_) (fun c17 => ?_)
      · have hhe : hh = 16 := Nat.le_antisymm hh16 (ige (by omega) (by decide) c17)
        refine lv_aload_n hx hb dX5_order_69 rfl (lv_at hl 0 rfl) ?_
        refine rf_get (v := .ref (α 1 0)) hx hb hts hiX5 hown hK hP 0 (by decide) (by decide +kernel) rfl rfl dX5_order_70 ?_
        refine lv_iload_n hx hb dX5_order_73 rfl (lv_at hl 2 rfl) ?_
        refine rf_zald hx hb hK hP 0 (by decide) rfl gg rfl hg dX5_order_74 ?_
        refine lv_if_eq (x := (σ 0 gg)) (tgt := 85) hx hb dX5_order_75 (by decide) (fun c75 => ?_) (fun c75 => ?_)
        · have ordS : ordN σ k (16 - gg) gg = ordN σ k (15 - gg) (gg + 1) := by rw [show 16 - gg = (15 - gg) + 1 by omega, ordN, if_neg (fun q => q.1 c75)]
          refine lv_iinc (v := (nI (gg + 1))) (lv' := [(2, .int (nI (gg + 1))), (0, .ref (α 0 0)), (1, .int k), (3, .int (ahN σ gg hh)), (4, .int (nI hh))]) hx hb dX5_order_85 hl (k := 2) rfl (nI_1 _) (by decide) rfl (fun ls hl => ?_)
          refine lv_goto (tgt := 2) hx hb dX5_order_88 (by decide) ?_
          refine lv_iload_n hx hb dX5_order_2 rfl (lv_at hl 0 rfl) ?_
          refine lv_bipush (v := 16) hx hb dX5_order_3 (by decide) ?_
          refine lv_icmp_ge (x := (nI (gg + 1))) (y := 16) (tgt := 91) hx hb dX5_order_5 (by decide) (fun c5 => ?_) (fun c5 => ?_)
          · have hg1 : gg = 15 := by have := ige (N := 16) (by omega) (by decide) c5; omega
            refine lv_iconst (v := (-1)) hx hb dX5_order_91 (by decide) ?_
            exact W.iret (v := (-1)) hx hb hr (fun t ht hW => ⟨_, rfl, (by rw [hF, ordS, hg1]; rfl), ht⟩) (fun q hq => absurd hq List.not_mem_nil) dX5_order_92
          · have hg1 : gg + 1 < 16 := ilt (N := 16) (by omega) (by decide) c5
            refine lv_iconst (v := 0) hx hb dX5_order_8 (by decide) ?_
            refine lv_istore_n (lv' := [(3, .int 0), (2, .int (nI (gg + 1))), (0, .ref (α 0 0)), (1, .int k), (4, .int (nI hh))]) hx hb dX5_order_9 rfl hl (by decide) rfl (fun ls hl => ?_)
            refine lv_iconst (v := 0) hx hb dX5_order_10 (by decide) ?_
            refine lv_istore (lv' := [(4, .int 0), (3, .int 0), (2, .int (nI (gg + 1))), (0, .ref (α 0 0)), (1, .int k)]) hx hb dX5_order_11 hl (by decide) rfl (fun ls hl => ?_)
            exact ih (gg + 1) 0 (by omega) hg1 (by decide) (by rw [hF, ordS, show 16 - (gg + 1) = 15 - gg by omega]) ls (lv_sub hl [3, 4, 2, 1, 0] rfl)
        · refine lv_iload_n hx hb dX5_order_78 rfl (lv_at hl 3 rfl) ?_
          refine lv_iload_n hx hb dX5_order_79 rfl (lv_at hl 1 rfl) ?_
          refine lv_icmp_ne (x := (ahN σ gg hh)) (y := k) (tgt := 85) hx hb dX5_order_80 (by decide) (fun c80 => ?_) (fun c80 => ?_)
          · have ordS : ordN σ k (16 - gg) gg = ordN σ k (15 - gg) (gg + 1) := by rw [show 16 - gg = (15 - gg) + 1 by omega, ordN, if_neg (fun q => c80 (by rw [← hhe] at q; exact q.2))]
            refine lv_iinc (v := (nI (gg + 1))) (lv' := [(2, .int (nI (gg + 1))), (0, .ref (α 0 0)), (1, .int k), (3, .int (ahN σ gg hh)), (4, .int (nI hh))]) hx hb dX5_order_85 hl (k := 2) rfl (nI_1 _) (by decide) rfl (fun ls hl => ?_)
            refine lv_goto (tgt := 2) hx hb dX5_order_88 (by decide) ?_
            refine lv_iload_n hx hb dX5_order_2 rfl (lv_at hl 0 rfl) ?_
            refine lv_bipush (v := 16) hx hb dX5_order_3 (by decide) ?_
            refine lv_icmp_ge (x := (nI (gg + 1))) (y := 16) (tgt := 91) hx hb dX5_order_5 (by decide) (fun c5 => ?_) (fun c5 => ?_)
            · have hg1 : gg = 15 := by have := ige (N := 16) (by omega) (by decide) c5; omega
              refine lv_iconst (v := (-1)) hx hb dX5_order_91 (by decide) ?_
              exact W.iret (v := (-1)) hx hb hr (fun t ht hW => ⟨_, rfl, (by rw [hF, ordS, hg1]; rfl), ht⟩) (fun q hq => absurd hq List.not_mem_nil) dX5_order_92
            · have hg1 : gg + 1 < 16 := ilt (N := 16) (by omega) (by decide) c5
              refine lv_iconst (v := 0) hx hb dX5_order_8 (by decide) ?_
              refine lv_istore_n (lv' := [(3, .int 0), (2, .int (nI (gg + 1))), (0, .ref (α 0 0)), (1, .int k), (4, .int (nI hh))]) hx hb dX5_order_9 rfl hl (by decide) rfl (fun ls hl => ?_)
              refine lv_iconst (v := 0) hx hb dX5_order_10 (by decide) ?_
              refine lv_istore (lv' := [(4, .int 0), (3, .int 0), (2, .int (nI (gg + 1))), (0, .ref (α 0 0)), (1, .int k)]) hx hb dX5_order_11 hl (by decide) rfl (fun ls hl => ?_)
              exact ih (gg + 1) 0 (by omega) hg1 (by decide) (by rw [hF, ordS, show 16 - (gg + 1) = 15 - gg by omega]) ls (lv_sub hl [3, 4, 2, 1, 0] rfl)
          · refine lv_iload_n hx hb dX5_order_83 rfl (lv_at hl 2 rfl) ?_
            exact W.iret (v := (nI gg)) hx hb hr (fun t ht hW => ⟨_, rfl, (by rw [hF, show 16 - gg = (15 - gg) + 1 by omega, ordN, if_pos ⟨c75, by rw [← hhe]; exact c80⟩]), ht⟩) (fun q hq => absurd hq List.not_mem_nil) dX5_order_84
      · have hlt : hh < 16 := ilt (by omega) (by decide) c17
        refine lv_aload_n hx hb dX5_order_20 rfl (lv_at hl 0 rfl) ?_
        refine rf_get (v := .ref (α 1 0)) hx hb hts hiX5 hown hK hP 0 (by decide) (by decide +kernel) rfl rfl dX5_order_21 ?_
        refine lv_iload_n hx hb dX5_order_24 rfl (lv_at hl 2 rfl) ?_
        refine rf_zald hx hb hK hP 0 (by decide) rfl gg rfl hg dX5_order_25 ?_
        refine lv_if_eq (x := (σ 0 gg)) (tgt := 69) hx hb dX5_order_26 (by decide) (fun c26 => ?_) (fun c26 => ?_)
        · refine lv_aload_n hx hb dX5_order_69 rfl (lv_at hl 0 rfl) ?_
          refine rf_get (v := .ref (α 1 0)) hx hb hts hiX5 hown hK hP 0 (by decide) (by decide +kernel) rfl rfl dX5_order_70 ?_
          refine lv_iload_n hx hb dX5_order_73 rfl (lv_at hl 2 rfl) ?_
          refine rf_zald hx hb hK hP 0 (by decide) rfl gg rfl hg dX5_order_74 ?_
          refine lv_if_eq (x := (σ 0 gg)) (tgt := 85) hx hb dX5_order_75 (by decide) (fun c75 => ?_) (fun c => absurd c26 c)
          have ordS : ordN σ k (16 - gg) gg = ordN σ k (15 - gg) (gg + 1) := by rw [show 16 - gg = (15 - gg) + 1 by omega, ordN, if_neg (fun q => q.1 c26)]
          refine lv_iinc (v := (nI (gg + 1))) (lv' := [(2, .int (nI (gg + 1))), (0, .ref (α 0 0)), (1, .int k), (3, .int (ahN σ gg hh)), (4, .int (nI hh))]) hx hb dX5_order_85 hl (k := 2) rfl (nI_1 _) (by decide) rfl (fun ls hl => ?_)
          refine lv_goto (tgt := 2) hx hb dX5_order_88 (by decide) ?_
          refine lv_iload_n hx hb dX5_order_2 rfl (lv_at hl 0 rfl) ?_
          refine lv_bipush (v := 16) hx hb dX5_order_3 (by decide) ?_
          refine lv_icmp_ge (x := (nI (gg + 1))) (y := 16) (tgt := 91) hx hb dX5_order_5 (by decide) (fun c5 => ?_) (fun c5 => ?_)
          · have hg1 : gg = 15 := by have := ige (N := 16) (by omega) (by decide) c5; omega
            refine lv_iconst (v := (-1)) hx hb dX5_order_91 (by decide) ?_
            exact W.iret (v := (-1)) hx hb hr (fun t ht hW => ⟨_, rfl, (by rw [hF, ordS, hg1]; rfl), ht⟩) (fun q hq => absurd hq List.not_mem_nil) dX5_order_92
          · have hg1 : gg + 1 < 16 := ilt (N := 16) (by omega) (by decide) c5
            refine lv_iconst (v := 0) hx hb dX5_order_8 (by decide) ?_
            refine lv_istore_n (lv' := [(3, .int 0), (2, .int (nI (gg + 1))), (0, .ref (α 0 0)), (1, .int k), (4, .int (nI hh))]) hx hb dX5_order_9 rfl hl (by decide) rfl (fun ls hl => ?_)
            refine lv_iconst (v := 0) hx hb dX5_order_10 (by decide) ?_
            refine lv_istore (lv' := [(4, .int 0), (3, .int 0), (2, .int (nI (gg + 1))), (0, .ref (α 0 0)), (1, .int k)]) hx hb dX5_order_11 hl (by decide) rfl (fun ls hl => ?_)
            exact ih (gg + 1) 0 (by omega) hg1 (by decide) (by rw [hF, ordS, show 16 - (gg + 1) = 15 - gg by omega]) ls (lv_sub hl [3, 4, 2, 1, 0] rfl)
        · refine lv_iload_n hx hb dX5_order_29 rfl (lv_at hl 3 rfl) ?_
          refine lv_iload hx hb dX5_order_30 (lv_at hl 4 rfl) ?_
          refine lv_iload_n hx hb dX5_order_32 rfl (lv_at hl 2 rfl) ?_
          refine lv_icmp_eq (x := (nI hh)) (y := (nI gg)) (tgt := 60) hx hb dX5_order_33 (by decide) (fun c33 => ?_) (fun c33 => ?_)
          · have hhg : hh = gg := (nI_eq (by omega) (by omega)).mp c33
            refine lv_iconst (v := 0) hx hb dX5_order_60 (by decide) ?_
            refine lv_iadd hx hb dX5_order_61 ?_
            refine lv_istore_n (lv' := [(3, .int ((ahN σ gg hh) + 0)), (0, .ref (α 0 0)), (1, .int k), (2, .int (nI gg)), (4, .int (nI hh))]) hx hb dX5_order_62 rfl hl (by decide) rfl (fun ls hl => ?_)
            refine lv_iinc (v := (nI (hh + 1))) (lv' := [(4, .int (nI (hh + 1))), (3, .int ((ahN σ gg hh) + 0)), (0, .ref (α 0 0)), (1, .int k), (2, .int (nI gg))]) hx hb dX5_order_63 hl (k := 4) rfl (nI_1 _) (by decide) rfl (fun ls hl => ?_)
            refine lv_goto (tgt := 13) hx hb dX5_order_66 (by decide) ?_
            have e1 : ahN σ gg (hh + 1) = ahN σ gg hh + 0 := by rw [ahN, show (decide (hh ≠ gg ∧ σ 0 hh ≠ 0)) = false from decide_eq_false (fun q => q.1 hhg)]; rfl
            rw [← e1] at hl
            exact ih gg (hh + 1) (by omega) hg (by omega) hF ls (lv_sub hl [2, 3, 4, 1, 0] rfl)
          · have hhg : hh ≠ gg := fun q => c33 (by rw [q])
            refine lv_aload_n hx hb dX5_order_36 rfl (lv_at hl 0 rfl) ?_
            refine rf_get (v := .ref (α 1 0)) hx hb hts hiX5 hown hK hP 0 (by decide) (by decide +kernel) rfl rfl dX5_order_37 ?_
            refine lv_iload hx hb dX5_order_40 (lv_at hl 4 rfl) ?_
            refine rf_zald hx hb hK hP 0 (by decide) rfl hh rfl hlt dX5_order_42 ?_
            refine lv_if_eq (x := (σ 0 hh)) (tgt := 60) hx hb dX5_order_43 (by decide) (fun c43 => ?_) (fun c43 => ?_)
            · refine lv_iconst (v := 0) hx hb dX5_order_60 (by decide) ?_
              refine lv_iadd hx hb dX5_order_61 ?_
              refine lv_istore_n (lv' := [(3, .int ((ahN σ gg hh) + 0)), (0, .ref (α 0 0)), (1, .int k), (2, .int (nI gg)), (4, .int (nI hh))]) hx hb dX5_order_62 rfl hl (by decide) rfl (fun ls hl => ?_)
              refine lv_iinc (v := (nI (hh + 1))) (lv' := [(4, .int (nI (hh + 1))), (3, .int ((ahN σ gg hh) + 0)), (0, .ref (α 0 0)), (1, .int k), (2, .int (nI gg))]) hx hb dX5_order_63 hl (k := 4) rfl (nI_1 _) (by decide) rfl (fun ls hl => ?_)
              refine lv_goto (tgt := 13) hx hb dX5_order_66 (by decide) ?_
              have e1 : ahN σ gg (hh + 1) = ahN σ gg hh + 0 := by rw [ahN, show (decide (hh ≠ gg ∧ σ 0 hh ≠ 0)) = false from decide_eq_false (fun q => q.2 c43)]; rfl
              rw [← e1] at hl
              exact ih gg (hh + 1) (by omega) hg (by omega) hF ls (lv_sub hl [2, 3, 4, 1, 0] rfl)
            · refine lv_aload_n hx hb dX5_order_46 rfl (lv_at hl 0 rfl) ?_
              refine lv_iload hx hb dX5_order_47 (lv_at hl 4 rfl) ?_
              refine lv_iload_n hx hb dX5_order_49 rfl (lv_at hl 2 rfl) ?_
              refine vp_callSi (W.runV (As := [.int (nI hh), .int (nI gg)]) (rest := [.int (ahN σ gg hh)]) ⟨hx, hb, hml, hown, hts⟩ (c_X5_isAhead l D cy A α σ (nI hh) hh (nI gg) gg rfl hlt rfl hg) (cwV 2 hts gX5_order_X5_isAhead rfl rfl rfl (by decide +kernel) ⟨Nat.le_of_ble_eq_true rfl, Nat.le_of_ble_eq_true rfl⟩) ⟨pb_blind, pw_recv hP hK cr_obj rfl, pb_pre hP hK⟩ rfl rfl hl.1 rfl (lv_room (Nat.le_of_ble_eq_true rfl)) dX5_order_50 ⟨Nat.le_of_ble_eq_true rfl, Nat.le_of_ble_eq_true rfl⟩) (fun r hw => ?_)
              rcases hw with ⟨rfl, h1⟩ | ⟨rfl, h1⟩
              · refine lv_if_eq (x := 1) (tgt := 60) hx hb dX5_order_53 (by decide) (fun c => absurd c (by decide)) (fun c53 => ?_)
                refine lv_iconst (v := 1) hx hb dX5_order_56 (by decide) ?_
                refine lv_goto (tgt := 61) hx hb dX5_order_57 (by decide) ?_
                refine lv_iadd hx hb dX5_order_61 ?_
                refine lv_istore_n (lv' := [(3, .int ((ahN σ gg hh) + 1)), (0, .ref (α 0 0)), (1, .int k), (2, .int (nI gg)), (4, .int (nI hh))]) hx hb dX5_order_62 rfl hl (by decide) rfl (fun ls hl => ?_)
                refine lv_iinc (v := (nI (hh + 1))) (lv' := [(4, .int (nI (hh + 1))), (3, .int ((ahN σ gg hh) + 1)), (0, .ref (α 0 0)), (1, .int k), (2, .int (nI gg))]) hx hb dX5_order_63 hl (k := 4) rfl (nI_1 _) (by decide) rfl (fun ls hl => ?_)
                refine lv_goto (tgt := 13) hx hb dX5_order_66 (by decide) ?_
                have e1 : ahN σ gg (hh + 1) = ahN σ gg hh + 1 := by rw [ahN, show (decide (hh ≠ gg ∧ σ 0 hh ≠ 0)) = true from decide_eq_true ⟨hhg, c43⟩, h1]; rfl
                rw [← e1] at hl
                exact ih gg (hh + 1) (by omega) hg (by omega) hF ls (lv_sub hl [2, 3, 4, 1, 0] rfl)
              · refine lv_if_eq (x := 0) (tgt := 60) hx hb dX5_order_53 (by decide) (fun c53 => ?_) (fun c => absurd (by decide) c)
                refine lv_iconst (v := 0) hx hb dX5_order_60 (by decide) ?_
                refine lv_iadd hx hb dX5_order_61 ?_
                refine lv_istore_n (lv' := [(3, .int ((ahN σ gg hh) + 0)), (0, .ref (α 0 0)), (1, .int k), (2, .int (nI gg)), (4, .int (nI hh))]) hx hb dX5_order_62 rfl hl (by decide) rfl (fun ls hl => ?_)
                refine lv_iinc (v := (nI (hh + 1))) (lv' := [(4, .int (nI (hh + 1))), (3, .int ((ahN σ gg hh) + 0)), (0, .ref (α 0 0)), (1, .int k), (2, .int (nI gg))]) hx hb dX5_order_63 hl (k := 4) rfl (nI_1 _) (by decide) rfl (fun ls hl => ?_)
                refine lv_goto (tgt := 13) hx hb dX5_order_66 (by decide) ?_
                have e1 : ahN σ gg (hh + 1) = ahN σ gg hh + 0 := by rw [ahN, show (decide (hh ≠ gg ∧ σ 0 hh ≠ 0)) = true from decide_eq_true ⟨hhg, c43⟩, Bool.eq_false_iff.mpr h1]; rfl
                rw [← e1] at hl
                exact ih gg (hh + 1) (by omega) hg (by omega) hF ls (lv_sub hl [2, 3, 4, 1, 0] rfl)
  refine lv_iconst (v := 0) hx hb dX5_order_0 (by decide) ?_
  refine lv_istore_n (lv' := [(2, .int 0), (0, .ref (α 0 0)), (1, .int k)]) hx hb dX5_order_1 rfl hl (by decide) rfl (fun ls hl => ?_)
  refine lv_iload_n hx hb dX5_order_2 rfl (lv_at hl 0 rfl) ?_
  refine lv_bipush (v := 16) hx hb dX5_order_3 (by decide) ?_
  refine lv_icmp_ge (x := 0) (y := 16) (tgt := 91) hx hb dX5_order_5 (by decide) (fun c => absurd c (by decide)) (fun c5 => ?_)
  refine lv_iconst (v := 0) hx hb dX5_order_8 (by decide) ?_
  refine lv_istore_n (lv' := [(3, .int 0), (2, .int 0), (0, .ref (α 0 0)), (1, .int k)]) hx hb dX5_order_9 rfl hl (by decide) rfl (fun ls hl => ?_)
  refine lv_iconst (v := 0) hx hb dX5_order_10 (by decide) ?_
  refine lv_istore (lv' := [(4, .int 0), (3, .int 0), (2, .int 0), (0, .ref (α 0 0)), (1, .int k)]) hx hb dX5_order_11 hl (by decide) rfl (fun ls hl => ?_)
  exact L13 (16 * 17 + 17) 0 0 (by decide) (by decide) (by decide) rfl ls (lv_sub hl [3, 4, 2, 1, 0] rfl)

set_option maxHeartbeats 4000000 in
set_option maxRecDepth 100000 in
theorem c_X5_extreme (l : Launch) (D : va_G) (cy : Nat → ClassId) (A : Nat → Prop) (α : AD) (σ : SG) (b : Int32) : Met l yX5_extreme wsX5_extreme ({ frames := 2, cells := 0, slots := 0, locals := 42 } : Room) (va_Pc [.ref (α 0 0), .int b] (PB D cy A α (CR cy σ α))) (vp_Si (fun r => r = F_extreme σ b)) 0 0 (fun _ => False) := by
  refine Met.ofW (cc := cX5_extreme) (maxL := 5) (ret := (some .int)) (by decide) rfl ?_
  intro p e s m args below meth c s₁ B hml hv
  obtain ⟨rfl, hP, hK⟩ := hv
  have hx := B.exec
  have hb := B.bytes
  have hr := B.returns
  have hts := atoms_spec (ws := wsX5_extreme) B.pre
  have hown : s.vm.findClass RX5 = some m.cls := findClass_of_methodNamed B.named
  have hlocks := B.notSynchronized
  have hiX5 : ∀ w ∈ wsX50, w ∈ wsX5_extreme := by decide +kernel
  have hl := lv_entry ([.ref (α 0 0), .int b]) (n := 5) (Nat.le_of_ble_eq_true rfl)
  rw [lg_entry_eq]
  generalize (lg_sl ([.ref (α 0 0), .int b]) ++ List.replicate (5 - (lg_sl ([.ref (α 0 0), .int b])).length) Slot.unset).toArray = ls at hl ⊢
  have hl : lv_has ls 5 [(0, .ref (α 0 0)), (1, .int b)] := hl
  have L4 : ∀ (n : Nat) (gg : Nat) (hn : 16 - gg < n) (hg : gg ≤ 16) (ls : Array Slot) (hl : lv_has ls 5 [(0, .ref (α 0 0)), (1, .int b), (2, .int (exN σ b gg)), (3, .int (nI gg))]) , W p l e ({ frames := 2, cells := 0, slots := 0, locals := 42 } : Room) s m ([.ref (α 0 0), .int b] : List Value).toArray below meth c s.heap [] 0 0 (MQ below (vp_Si (fun r => r = F_extreme σ b)) ([.ref (α 0 0), .int b] : List Value).toArray s 0 0 (fun _ => False)) (F0 m 4 ls []) := by
    intro n
    induction n with
    | zero => intro gg hn hg ls hl ; exact absurd hn (Nat.not_lt_zero _)
    | succ n ih =>
      intro gg hn hg ls hl 
      refine lv_iload_n hx hb dX5_extreme_4 rfl (lv_at hl 3 rfl) ?_
      refine lv_bipush (v := 16) hx hb dX5_extreme_5 (by decide) ?_
      refine lv_icmp_ge (x := (nI gg)) (y := 16) (tgt := 121) hx hb dX5_extreme_7 (by decide) (fun c7 => ?_) (fun c7 => ?_)
      · have hge : gg = 16 := Nat.le_antisymm hg (ige (by omega) (by decide) c7)
        refine lv_iload_n hx hb dX5_extreme_121 rfl (lv_at hl 2 rfl) ?_
        exact W.iret (v := (exN σ b gg)) hx hb hr (fun t ht hW => ⟨_, rfl, (by rw [F_extreme, hge]), ht⟩) (fun q hq => absurd hq List.not_mem_nil) dX5_extreme_122
      · have hlt : gg < 16 := ilt (by omega) (by decide) c7
        refine lv_aload_n hx hb dX5_extreme_10 rfl (lv_at hl 0 rfl) ?_
        refine rf_get (v := .ref (α 1 0)) hx hb hts hiX5 hown hK hP 0 (by decide) (by decide +kernel) rfl rfl dX5_extreme_11 ?_
        refine lv_iload_n hx hb dX5_extreme_14 rfl (lv_at hl 3 rfl) ?_
        refine rf_zald hx hb hK hP 0 (by decide) rfl gg rfl hlt dX5_extreme_15 ?_
        refine lv_if_eq (x := (σ 0 gg)) (tgt := 115) hx hb dX5_extreme_16 (by decide) (fun c16 => ?_) (fun c16 => ?_)
        · refine lv_iinc (v := (nI (gg + 1))) (lv' := [(3, .int (nI (gg + 1))), (0, .ref (α 0 0)), (1, .int b), (2, .int (exN σ b gg))]) hx hb dX5_extreme_115 hl (k := 3) rfl (nI_1 _) (by decide) rfl (fun ls hl => ?_)
          refine lv_goto (tgt := 4) hx hb dX5_extreme_118 (by decide) ?_
          have e1 : exN σ b (gg + 1) = exN σ b gg := by rw [exN, if_neg (fun q => q.1 c16)]
          rw [← e1] at hl
          exact ih (gg + 1) (by omega) hlt ls (lv_sub hl [1, 2, 3, 0] rfl)
        · refine lv_aload_n hx hb dX5_extreme_19 rfl (lv_at hl 0 rfl) ?_
          refine rf_get (v := .ref (α 3 0)) hx hb hts hiX5 hown hK hP 2 (by decide) (by decide +kernel) rfl rfl dX5_extreme_20 ?_
          refine lv_iload_n hx hb dX5_extreme_23 rfl (lv_at hl 3 rfl) ?_
          refine rf_iald hx hb hK hP 2 (by decide) rfl gg rfl hlt dX5_extreme_24 ?_
          refine lv_ldc hx hb hown (hts (.constant RX5 103 (2000000000)) (by decide +kernel)) dX5_extreme_25 ?_
          refine lv_icmp_ne (x := (σ 2 gg)) (y := 2000000000) (tgt := 33) hx hb dX5_extreme_27 (by decide) (fun c27 => ?_) (fun c27 => ?_)
          · refine lv_iload_n hx hb dX5_extreme_33 rfl (lv_at hl 2 rfl) ?_
            refine lv_iconst (v := (-1)) hx hb dX5_extreme_34 (by decide) ?_
            refine lv_icmp_eq (x := (exN σ b gg)) (y := (-1)) (tgt := 97) hx hb dX5_extreme_35 (by decide) (fun c35 => ?_) (fun c35 => ?_)
            · refine lv_iconst (v := 1) hx hb dX5_extreme_97 (by decide) ?_
              refine lv_goto (tgt := 102) hx hb dX5_extreme_98 (by decide) ?_
              refine lv_istore (lv' := [(4, .int 1), (0, .ref (α 0 0)), (1, .int b), (2, .int (exN σ b gg)), (3, .int (nI gg))]) hx hb dX5_extreme_102 hl (by decide) rfl (fun ls hl => ?_)
              refine lv_iload hx hb dX5_extreme_104 (lv_at hl 0 rfl) ?_
              refine lv_if_eq (x := 1) (tgt := 113) hx hb dX5_extreme_106 (by decide) (fun c => absurd c (by decide)) (fun c106 => ?_)
              refine lv_iload_n hx hb dX5_extreme_109 rfl (lv_at hl 4 rfl) ?_
              refine lv_goto (tgt := 114) hx hb dX5_extreme_110 (by decide) ?_
              refine lv_istore_n (lv' := [(2, .int (nI gg)), (4, .int 1), (0, .ref (α 0 0)), (1, .int b), (3, .int (nI gg))]) hx hb dX5_extreme_114 rfl hl (by decide) rfl (fun ls hl => ?_)
              refine lv_iinc (v := (nI (gg + 1))) (lv' := [(3, .int (nI (gg + 1))), (2, .int (nI gg)), (4, .int 1), (0, .ref (α 0 0)), (1, .int b)]) hx hb dX5_extreme_115 hl (k := 4) rfl (nI_1 _) (by decide) rfl (fun ls hl => ?_)
              refine lv_goto (tgt := 4) hx hb dX5_extreme_118 (by decide) ?_
              have e1 : exN σ b (gg + 1) = nI gg := by rw [exN, if_pos ⟨c16, c27, Or.inl c35⟩]
              rw [← e1] at hl
              exact ih (gg + 1) (by omega) hlt ls (lv_sub hl [3, 4, 1, 0] rfl)
            · obtain ⟨bi, hbi, hex⟩ := (exN_or σ b gg).resolve_left c35
              have hcb : cN (exN σ b gg) = bi := cN_of hex (by omega)
              refine lv_iload_n hx hb dX5_extreme_38 rfl (lv_at hl 1 rfl) ?_
              refine lv_if_eq (x := b) (tgt := 71) hx hb dX5_extreme_39 (by decide) (fun c39 => ?_) (fun c39 => ?_)
              · refine lv_aload_n hx hb dX5_extreme_71 rfl (lv_at hl 0 rfl) ?_
                refine lv_iload_n hx hb dX5_extreme_72 rfl (lv_at hl 3 rfl) ?_
                refine lv_aload_n hx hb dX5_extreme_73 rfl (lv_at hl 0 rfl) ?_
                refine rf_get (v := .ref (α 3 0)) hx hb hts hiX5 hown hK hP 2 (by decide) (by decide +kernel) rfl rfl dX5_extreme_74 ?_
                refine lv_iload_n hx hb dX5_extreme_77 rfl (lv_at hl 3 rfl) ?_
                refine rf_iald hx hb hK hP 2 (by decide) rfl gg rfl hlt dX5_extreme_78 ?_
                refine vp_callSd (W.runV (As := [.int (nI gg), .int (σ 2 gg)]) (rest := []) ⟨hx, hb, hml, hown, hts⟩ (c_X5_value l D cy A α σ (nI gg) gg (σ 2 gg) rfl hlt) (cwV 2 hts gX5_extreme_X5_value rfl rfl rfl (by decide +kernel) ⟨Nat.le_of_ble_eq_true rfl, Nat.le_of_ble_eq_true rfl⟩) ⟨pb_blind, pw_recv hP hK cr_obj rfl, pb_pre hP hK⟩ rfl rfl hl.1 rfl (lv_room (Nat.le_of_ble_eq_true rfl)) dX5_extreme_79 ⟨Nat.le_of_ble_eq_true rfl, Nat.le_of_ble_eq_true rfl⟩) (fun r hw => ?_)
                subst hw
                refine lv_aload_n hx hb dX5_extreme_82 rfl (lv_at hl 0 rfl) ?_
                refine lv_iload_n hx hb dX5_extreme_83 rfl (lv_at hl 2 rfl) ?_
                refine lv_aload_n hx hb dX5_extreme_84 rfl (lv_at hl 0 rfl) ?_
                refine rf_get (v := .ref (α 3 0)) hx hb hts hiX5 hown hK hP 2 (by decide) (by decide +kernel) rfl rfl dX5_extreme_85 ?_
                refine lv_iload_n hx hb dX5_extreme_88 rfl (lv_at hl 2 rfl) ?_
                refine rf_iald hx hb hK hP 2 (by decide) rfl bi hex (Nat.lt_trans hbi hlt) dX5_extreme_89 ?_
                refine vp_callSd (W.runV (As := [.int (exN σ b gg), .int (σ 2 bi)]) (rest := [.double (vl (σ 1 gg) (σ 2 gg))]) ⟨hx, hb, hml, hown, hts⟩ (c_X5_value l D cy A α σ (exN σ b gg) bi (σ 2 bi) hex (Nat.lt_trans hbi hlt)) (cwV 2 hts gX5_extreme_X5_value rfl rfl rfl (by decide +kernel) ⟨Nat.le_of_ble_eq_true rfl, Nat.le_of_ble_eq_true rfl⟩) ⟨pb_blind, pw_recv hP hK cr_obj rfl, pb_pre hP hK⟩ rfl rfl hl.1 rfl (lv_room (Nat.le_of_ble_eq_true rfl)) dX5_extreme_90 ⟨Nat.le_of_ble_eq_true rfl, Nat.le_of_ble_eq_true rfl⟩) (fun r hw => ?_)
                subst hw
                refine lv_dcmp hx hb dX5_extreme_93 ?_
                refine lv_if_ge (x := (Op.cmpValue (FP.dcmp (vl (σ 1 gg) (σ 2 gg)) (vl (σ 1 bi) (σ 2 bi))) CmpOp.g)) (tgt := 101) hx hb dX5_extreme_94 (by decide) (fun c94 => ?_) (fun c94 => ?_)
                · rw [cvg_ge] at c94
                  refine lv_iconst (v := 0) hx hb dX5_extreme_101 (by decide) ?_
                  refine lv_istore (lv' := [(4, .int 0), (0, .ref (α 0 0)), (1, .int b), (2, .int (exN σ b gg)), (3, .int (nI gg))]) hx hb dX5_extreme_102 hl (by decide) rfl (fun ls hl => ?_)
                  refine lv_iload hx hb dX5_extreme_104 (lv_at hl 0 rfl) ?_
                  refine lv_if_eq (x := 0) (tgt := 113) hx hb dX5_extreme_106 (by decide) (fun c106 => ?_) (fun c => absurd (by decide) c)
                  refine lv_iload_n hx hb dX5_extreme_113 rfl (lv_at hl 3 rfl) ?_
                  refine lv_istore_n (lv' := [(2, .int (exN σ b gg)), (4, .int 0), (0, .ref (α 0 0)), (1, .int b), (3, .int (nI gg))]) hx hb dX5_extreme_114 rfl hl (by decide) rfl (fun ls hl => ?_)
                  refine lv_iinc (v := (nI (gg + 1))) (lv' := [(3, .int (nI (gg + 1))), (2, .int (exN σ b gg)), (4, .int 0), (0, .ref (α 0 0)), (1, .int b)]) hx hb dX5_extreme_115 hl (k := 4) rfl (nI_1 _) (by decide) rfl (fun ls hl => ?_)
                  refine lv_goto (tgt := 4) hx hb dX5_extreme_118 (by decide) ?_
                  have e1 : exN σ b (gg + 1) = exN σ b gg := by rw [exN, if_neg (fun z => z.2.2.elim c35 (fun y => c94 (by rw [hcb, if_pos c39] at y; exact y)))]
                  rw [← e1] at hl
                  exact ih (gg + 1) (by omega) hlt ls (lv_sub hl [3, 4, 1, 0] rfl)
                · rw [cvg_ge] at c94
                  refine lv_iconst (v := 1) hx hb dX5_extreme_97 (by decide) ?_
                  refine lv_goto (tgt := 102) hx hb dX5_extreme_98 (by decide) ?_
                  refine lv_istore (lv' := [(4, .int 1), (0, .ref (α 0 0)), (1, .int b), (2, .int (exN σ b gg)), (3, .int (nI gg))]) hx hb dX5_extreme_102 hl (by decide) rfl (fun ls hl => ?_)
                  refine lv_iload hx hb dX5_extreme_104 (lv_at hl 0 rfl) ?_
                  refine lv_if_eq (x := 1) (tgt := 113) hx hb dX5_extreme_106 (by decide) (fun c => absurd c (by decide)) (fun c106 => ?_)
                  refine lv_iload_n hx hb dX5_extreme_109 rfl (lv_at hl 4 rfl) ?_
                  refine lv_goto (tgt := 114) hx hb dX5_extreme_110 (by decide) ?_
                  refine lv_istore_n (lv' := [(2, .int (nI gg)), (4, .int 1), (0, .ref (α 0 0)), (1, .int b), (3, .int (nI gg))]) hx hb dX5_extreme_114 rfl hl (by decide) rfl (fun ls hl => ?_)
                  refine lv_iinc (v := (nI (gg + 1))) (lv' := [(3, .int (nI (gg + 1))), (2, .int (nI gg)), (4, .int 1), (0, .ref (α 0 0)), (1, .int b)]) hx hb dX5_extreme_115 hl (k := 4) rfl (nI_1 _) (by decide) rfl (fun ls hl => ?_)
                  refine lv_goto (tgt := 4) hx hb dX5_extreme_118 (by decide) ?_
                  have e1 : exN σ b (gg + 1) = nI gg := by rw [exN, if_pos ⟨c16, c27, Or.inr (by rw [hcb, if_pos c39]; exact Classical.not_not.mp c94)⟩]
                  rw [← e1] at hl
                  exact ih (gg + 1) (by omega) hlt ls (lv_sub hl [3, 4, 1, 0] rfl)
              · refine lv_aload_n hx hb dX5_extreme_42 rfl (lv_at hl 0 rfl) ?_
                refine lv_iload_n hx hb dX5_extreme_43 rfl (lv_at hl 3 rfl) ?_
                refine lv_aload_n hx hb dX5_extreme_44 rfl (lv_at hl 0 rfl) ?_
                refine rf_get (v := .ref (α 3 0)) hx hb hts hiX5 hown hK hP 2 (by decide) (by decide +kernel) rfl rfl dX5_extreme_45 ?_
                refine lv_iload_n hx hb dX5_extreme_48 rfl (lv_at hl 3 rfl) ?_
                refine rf_iald hx hb hK hP 2 (by decide) rfl gg rfl hlt dX5_extreme_49 ?_
                refine vp_callSd (W.runV (As := [.int (nI gg), .int (σ 2 gg)]) (rest := []) ⟨hx, hb, hml, hown, hts⟩ (c_X5_value l D cy A α σ (nI gg) gg (σ 2 gg) rfl hlt) (cwV 2 hts gX5_extreme_X5_value rfl rfl rfl (by decide +kernel) ⟨Nat.le_of_ble_eq_true rfl, Nat.le_of_ble_eq_true rfl⟩) ⟨pb_blind, pw_recv hP hK cr_obj rfl, pb_pre hP hK⟩ rfl rfl hl.1 rfl (lv_room (Nat.le_of_ble_eq_true rfl)) dX5_extreme_50 ⟨Nat.le_of_ble_eq_true rfl, Nat.le_of_ble_eq_true rfl⟩) (fun r hw => ?_)
                subst hw
                refine lv_aload_n hx hb dX5_extreme_53 rfl (lv_at hl 0 rfl) ?_
                refine lv_iload_n hx hb dX5_extreme_54 rfl (lv_at hl 2 rfl) ?_
                refine lv_aload_n hx hb dX5_extreme_55 rfl (lv_at hl 0 rfl) ?_
                refine rf_get (v := .ref (α 3 0)) hx hb hts hiX5 hown hK hP 2 (by decide) (by decide +kernel) rfl rfl dX5_extreme_56 ?_
                refine lv_iload_n hx hb dX5_extreme_59 rfl (lv_at hl 2 rfl) ?_
                refine rf_iald hx hb hK hP 2 (by decide) rfl bi hex (Nat.lt_trans hbi hlt) dX5_extreme_60 ?_
                refine vp_callSd (W.runV (As := [.int (exN σ b gg), .int (σ 2 bi)]) (rest := [.double (vl (σ 1 gg) (σ 2 gg))]) ⟨hx, hb, hml, hown, hts⟩ (c_X5_value l D cy A α σ (exN σ b gg) bi (σ 2 bi) hex (Nat.lt_trans hbi hlt)) (cwV 2 hts gX5_extreme_X5_value rfl rfl rfl (by decide +kernel) ⟨Nat.le_of_ble_eq_true rfl, Nat.le_of_ble_eq_true rfl⟩) ⟨pb_blind, pw_recv hP hK cr_obj rfl, pb_pre hP hK⟩ rfl rfl hl.1 rfl (lv_room (Nat.le_of_ble_eq_true rfl)) dX5_extreme_61 ⟨Nat.le_of_ble_eq_true rfl, Nat.le_of_ble_eq_true rfl⟩) (fun r hw => ?_)
                subst hw
                refine lv_dcmp hx hb dX5_extreme_64 ?_
                refine lv_if_le (x := (Op.cmpValue (FP.dcmp (vl (σ 1 gg) (σ 2 gg)) (vl (σ 1 bi) (σ 2 bi))) CmpOp.l)) (tgt := 101) hx hb dX5_extreme_65 (by decide) (fun c65 => ?_) (fun c65 => ?_)
                · rw [cvl_le] at c65
                  refine lv_iconst (v := 0) hx hb dX5_extreme_101 (by decide) ?_
                  refine lv_istore (lv' := [(4, .int 0), (0, .ref (α 0 0)), (1, .int b), (2, .int (exN σ b gg)), (3, .int (nI gg))]) hx hb dX5_extreme_102 hl (by decide) rfl (fun ls hl => ?_)
                  refine lv_iload hx hb dX5_extreme_104 (lv_at hl 0 rfl) ?_
                  refine lv_if_eq (x := 0) (tgt := 113) hx hb dX5_extreme_106 (by decide) (fun c106 => ?_) (fun c => absurd (by decide) c)
                  refine lv_iload_n hx hb dX5_extreme_113 rfl (lv_at hl 3 rfl) ?_
                  refine lv_istore_n (lv' := [(2, .int (exN σ b gg)), (4, .int 0), (0, .ref (α 0 0)), (1, .int b), (3, .int (nI gg))]) hx hb dX5_extreme_114 rfl hl (by decide) rfl (fun ls hl => ?_)
                  refine lv_iinc (v := (nI (gg + 1))) (lv' := [(3, .int (nI (gg + 1))), (2, .int (exN σ b gg)), (4, .int 0), (0, .ref (α 0 0)), (1, .int b)]) hx hb dX5_extreme_115 hl (k := 4) rfl (nI_1 _) (by decide) rfl (fun ls hl => ?_)
                  refine lv_goto (tgt := 4) hx hb dX5_extreme_118 (by decide) ?_
                  have e1 : exN σ b (gg + 1) = exN σ b gg := by rw [exN, if_neg (fun z => z.2.2.elim c35 (fun y => c65 (by rw [hcb, if_neg c39] at y; exact y)))]
                  rw [← e1] at hl
                  exact ih (gg + 1) (by omega) hlt ls (lv_sub hl [3, 4, 1, 0] rfl)
                · rw [cvl_le] at c65
                  refine lv_goto (tgt := 97) hx hb dX5_extreme_68 (by decide) ?_
                  refine lv_iconst (v := 1) hx hb dX5_extreme_97 (by decide) ?_
                  refine lv_goto (tgt := 102) hx hb dX5_extreme_98 (by decide) ?_
                  refine lv_istore (lv' := [(4, .int 1), (0, .ref (α 0 0)), (1, .int b), (2, .int (exN σ b gg)), (3, .int (nI gg))]) hx hb dX5_extreme_102 hl (by decide) rfl (fun ls hl => ?_)
                  refine lv_iload hx hb dX5_extreme_104 (lv_at hl 0 rfl) ?_
                  refine lv_if_eq (x := 1) (tgt := 113) hx hb dX5_extreme_106 (by decide) (fun c => absurd c (by decide)) (fun c106 => ?_)
                  refine lv_iload_n hx hb dX5_extreme_109 rfl (lv_at hl 4 rfl) ?_
                  refine lv_goto (tgt := 114) hx hb dX5_extreme_110 (by decide) ?_
                  refine lv_istore_n (lv' := [(2, .int (nI gg)), (4, .int 1), (0, .ref (α 0 0)), (1, .int b), (3, .int (nI gg))]) hx hb dX5_extreme_114 rfl hl (by decide) rfl (fun ls hl => ?_)
                  refine lv_iinc (v := (nI (gg + 1))) (lv' := [(3, .int (nI (gg + 1))), (2, .int (nI gg)), (4, .int 1), (0, .ref (α 0 0)), (1, .int b)]) hx hb dX5_extreme_115 hl (k := 4) rfl (nI_1 _) (by decide) rfl (fun ls hl => ?_)
                  refine lv_goto (tgt := 4) hx hb dX5_extreme_118 (by decide) ?_
                  have e1 : exN σ b (gg + 1) = nI gg := by rw [exN, if_pos ⟨c16, c27, Or.inr (by rw [hcb, if_neg c39]; exact Classical.not_not.mp c65)⟩]
                  rw [← e1] at hl
                  exact ih (gg + 1) (by omega) hlt ls (lv_sub hl [3, 4, 1, 0] rfl)
          · refine lv_goto (tgt := 115) hx hb dX5_extreme_30 (by decide) ?_
            refine lv_iinc (v := (nI (gg + 1))) (lv' := [(3, .int (nI (gg + 1))), (0, .ref (α 0 0)), (1, .int b), (2, .int (exN σ b gg))]) hx hb dX5_extreme_115 hl (k := 3) rfl (nI_1 _) (by decide) rfl (fun ls hl => ?_)
            refine lv_goto (tgt := 4) hx hb dX5_extreme_118 (by decide) ?_
            have e1 : exN σ b (gg + 1) = exN σ b gg := by rw [exN, if_neg (fun q => q.2.1 c27)]
            rw [← e1] at hl
            exact ih (gg + 1) (by omega) hlt ls (lv_sub hl [1, 2, 3, 0] rfl)
  refine lv_iconst (v := (-1)) hx hb dX5_extreme_0 (by decide) ?_
  refine lv_istore_n (lv' := [(2, .int (-1)), (0, .ref (α 0 0)), (1, .int b)]) hx hb dX5_extreme_1 rfl hl (by decide) rfl (fun ls hl => ?_)
  refine lv_iconst (v := 0) hx hb dX5_extreme_2 (by decide) ?_
  refine lv_istore_n (lv' := [(3, .int 0), (2, .int (-1)), (0, .ref (α 0 0)), (1, .int b)]) hx hb dX5_extreme_3 rfl hl (by decide) rfl (fun ls hl => ?_)
  exact L4 17 0 (by decide) (by decide) ls (lv_sub hl [2, 3, 1, 0] rfl)

set_option maxHeartbeats 4000000 in
set_option maxRecDepth 100000 in
theorem c_X5_part (l : Launch) (D : va_G) (cy : Nat → ClassId) (A : Nat → Prop) (α : AD) (σ : SG) (ti ci : Int32) (hT : ∀ t, t < 8 → σ 20 t ≠ 0 → okT σ t) : Met l yX5_part wsX5_part ({ frames := 2, cells := 0, slots := 0, locals := 42 } : Room) (va_Pc [.ref (α 0 0), .int ti, .int ci] (PB D cy A α (CR cy σ α))) (va_Qi (fun (r : Int32) (u : Unit) => r = (F_part σ ti ci).1) (fun u t => PW D A α (CR cy (F_part σ ti ci).2 α) t.heap) A) 0 0 A := by
  refine Met.ofW (cc := cX5_part) (maxL := 3) (ret := (some .int)) (by decide) rfl ?_
  intro p e s m args below meth c s₁ B hml hv
  obtain ⟨rfl, hP, hK⟩ := hv
  have hx := B.exec
  have hb := B.bytes
  have hr := B.returns
  have hts := atoms_spec (ws := wsX5_part) B.pre
  have hown : s.vm.findClass RX5 = some m.cls := findClass_of_methodNamed B.named
  have hlocks := B.notSynchronized
  have hiX5 : ∀ w ∈ wsX50, w ∈ wsX5_part := by decide +kernel
  have hS : va_S A s.heap s.heap [] := va_S.rf
  have hl := lv_entry ([.ref (α 0 0), .int ti, .int ci]) (n := 3) (Nat.le_of_ble_eq_true rfl)
  rw [lg_entry_eq]
  generalize (lg_sl ([.ref (α 0 0), .int ti, .int ci]) ++ List.replicate (3 - (lg_sl ([.ref (α 0 0), .int ti, .int ci])).length) Slot.unset).toArray = ls at hl ⊢
  have hl : lv_has ls 3 [(0, .ref (α 0 0)), (1, .int ti), (2, .int ci)] := hl
  skip
  refine lv_aload_n hx hb dX5_part_0 rfl (lv_at hl 0 rfl) ?_
  refine lv_iload_n hx hb dX5_part_1 rfl (lv_at hl 1 rfl) ?_
  refine vp_callSi (W.runV (As := [.int ti]) (rest := []) ⟨hx, hb, hml, hown, hts⟩ (c_X5_isTrip l D cy A α σ ti) (cwV 1 hts gX5_part_X5_isTrip rfl rfl rfl (by decide +kernel) ⟨Nat.le_of_ble_eq_true rfl, Nat.le_of_ble_eq_true rfl⟩) ⟨pb_blind, pw_recv hP hK cr_obj rfl, pb_pre hP hK⟩ rfl rfl hl.1 rfl (lv_room (Nat.le_of_ble_eq_true rfl)) dX5_part_2 ⟨Nat.le_of_ble_eq_true rfl, Nat.le_of_ble_eq_true rfl⟩) (fun r hw => ?_)
  rcases hw with ⟨rfl, j2, hx3, hj4, hg5, hm6⟩ | ⟨rfl, h1⟩
  · refine lv_if_eq (x := 1) (tgt := 16) hx hb dX5_part_5 (by decide) (fun c => absurd c (by decide)) (fun c5 => ?_)
    refine lv_aload_n hx hb dX5_part_8 rfl (lv_at hl 0 rfl) ?_
    refine lv_iload_n hx hb dX5_part_9 rfl (lv_at hl 2 rfl) ?_
    refine vp_callSi (W.runV (As := [.int ci]) (rest := []) ⟨hx, hb, hml, hown, hts⟩ (c_X5_isCondition l D cy A α σ ci) (cwV 1 hts gX5_part_X5_isCondition rfl rfl rfl (by decide +kernel) ⟨Nat.le_of_ble_eq_true rfl, Nat.le_of_ble_eq_true rfl⟩) ⟨pb_blind, pw_recv hP hK cr_obj rfl, pb_pre hP hK⟩ rfl rfl hl.1 rfl (lv_room (Nat.le_of_ble_eq_true rfl)) dX5_part_10 ⟨Nat.le_of_ble_eq_true rfl, Nat.le_of_ble_eq_true rfl⟩) (fun r hw => ?_)
    rcases hw with ⟨rfl, j8, hx9, hj10, hg11, hm12⟩ | ⟨rfl, h7⟩
    · refine lv_if_ne (x := 1) (tgt := 19) hx hb dX5_part_13 (by decide) (fun c13 => ?_) (fun c => absurd c (by decide))
      refine lv_aload_n hx hb dX5_part_19 rfl (lv_at hl 0 rfl) ?_
      refine rf_get (v := .ref (α 19 0)) hx hb hts hiX5 hown hK hP 18 (by decide) (by decide +kernel) rfl rfl dX5_part_20 ?_
      refine lv_iload_n hx hb dX5_part_23 rfl (lv_at hl 1 rfl) ?_
      refine rf_iald hx hb hK hP 18 (by decide) rfl j2 hg5 hj4 dX5_part_24 ?_
      refine lv_bipush (v := 6) hx hb dX5_part_25 (by decide) ?_
      refine lv_icmp_ne (x := (σ 18 j2)) (y := 6) (tgt := 32) hx hb dX5_part_27 (by decide) (fun c27 => ?_) (fun c27 => ?_)
      · obtain ⟨-, np, hnp, h18, -⟩ := hT j2 hj4 hm6
        have hn6 : np ≠ 6 := fun q => c27 (by rw [h18, q]; rfl)
        refine lv_aload_n hx hb dX5_part_32 rfl (lv_at hl 0 rfl) ?_
        refine rf_get (v := .ref (α 20 0)) hx hb hts hiX5 hown hK hP 19 (by decide) (by decide +kernel) rfl rfl dX5_part_33 ?_
        refine lv_bipush (v := 6) hx hb dX5_part_36 (by decide) ?_
        refine lv_iload_n hx hb dX5_part_38 rfl (lv_at hl 1 rfl) ?_
        refine lv_imul hx hb dX5_part_39 ?_
        refine lv_aload_n hx hb dX5_part_40 rfl (lv_at hl 0 rfl) ?_
        refine rf_get (v := .ref (α 19 0)) hx hb hts hiX5 hown hK hP 18 (by decide) (by decide +kernel) rfl rfl dX5_part_41 ?_
        refine lv_iload_n hx hb dX5_part_44 rfl (lv_at hl 1 rfl) ?_
        refine rf_iald hx hb hK hP 18 (by decide) rfl j2 hg5 hj4 dX5_part_45 ?_
        refine lv_iadd hx hb dX5_part_46 ?_
        refine lv_iload_n hx hb dX5_part_47 rfl (lv_at hl 2 rfl) ?_
        refine rf_iast hx hb hK hP hS 19 (by decide) rfl (6 * j2 + np) (by rw [h18]; exact ixm 6 hg5) (show 6 * j2 + np < 48 by have := hj4; omega) dX5_part_48 (fun H locs hP hz hS => ?_)
        refine lv_aload_n hx hb dX5_part_49 rfl (lv_at hl 0 rfl) ?_
        refine rf_get (v := .ref (α 19 0)) hx hb hts hiX5 hown hK hP 18 (by decide) (by decide +kernel) rfl rfl dX5_part_50 ?_
        refine lv_iload_n hx hb dX5_part_53 rfl (lv_at hl 1 rfl) ?_
        refine lv_dup2_11 hx hb dX5_part_54 rfl rfl ?_
        refine rf_iald hx hb hK hP 18 (by decide) rfl j2 hg5 hj4 dX5_part_55 ?_
        refine lv_iconst (v := 1) hx hb dX5_part_56 (by decide) ?_
        refine lv_iadd hx hb dX5_part_57 ?_
        refine rf_iast hx hb hK hP hS 18 (by decide) rfl j2 hg5 hj4 dX5_part_58 (fun H locs hP hz hS => ?_)
        refine lv_aload_n hx hb dX5_part_59 rfl (lv_at hl 0 rfl) ?_
        refine rf_get (v := .ref (α 19 0)) hx hb hts hiX5 hown hK hP 18 (by decide) (by decide +kernel) rfl rfl dX5_part_60 ?_
        refine lv_iload_n hx hb dX5_part_63 rfl (lv_at hl 1 rfl) ?_
        refine rf_iald hx hb hK hP 18 (by decide) rfl j2 hg5 hj4 dX5_part_64 ?_
        have eF : F_part σ ti ci = (((st (st σ 19 (6 * j2 + np) ci) 18 j2 ((σ 18 j2) + 1)) 18 j2), (sr (st (st σ 19 (6 * j2 + np) ci) 18 j2 ((σ 18 j2) + 1)) 30 (upd (σ 30) (6 * j2 + np) ci))) := by rw [F_part, hx3]; show (match cx σ ci with | none => _ | some _ => _) = _; rw [hx9]; show (if σ 18 j2 = 6 then _ else _) = _; rw [if_neg c27, cN_of h18 (by omega)]; rw [st_same]; rfl
        exact W.iret (v := ((st (st σ 19 (6 * j2 + np) ci) 18 j2 ((σ 18 j2) + 1)) 18 j2)) hx hb hr (fun t ht hW => ⟨⟨_, (), rfl, (by rw [eF]), by dsimp only; rw [ht]; exact (by rw [eF]; show PW D A α (CR cy (sr _ 30 _) α) _; rw [cr_gh (by decide)]; exact hP)⟩, hS.F ht⟩) hS.2.2 dX5_part_65
      · refine lv_iconst (v := (-1)) hx hb dX5_part_30 (by decide) ?_
        have eF : F_part σ ti ci = ((-1), σ) := by simp [F_part, hx3, hx9, c27]
        exact W.iret (v := (-1)) hx hb hr (fun t ht hW => ⟨⟨_, (), rfl, (by rw [eF]), by dsimp only; rw [ht]; exact (by rw [eF]; exact hP)⟩, hS.F ht⟩) hS.2.2 dX5_part_31
    · refine lv_if_ne (x := 0) (tgt := 19) hx hb dX5_part_13 (by decide) (fun c => absurd (by decide) c) (fun c13 => ?_)
      refine lv_bipush (v := (-2)) hx hb dX5_part_16 (by decide) ?_
      have eF : F_part σ ti ci = ((-2), σ) := by simp [F_part, h7, hx3]
      exact W.iret (v := (-2)) hx hb hr (fun t ht hW => ⟨⟨_, (), rfl, (by rw [eF]), by dsimp only; rw [ht]; exact (by rw [eF]; exact hP)⟩, hS.F ht⟩) hS.2.2 dX5_part_18
  · refine lv_if_eq (x := 0) (tgt := 16) hx hb dX5_part_5 (by decide) (fun c5 => ?_) (fun c => absurd (by decide) c)
    refine lv_bipush (v := (-2)) hx hb dX5_part_16 (by decide) ?_
    have eF : F_part σ ti ci = ((-2), σ) := by simp [F_part, h1]
    exact W.iret (v := (-2)) hx hb hr (fun t ht hW => ⟨⟨_, (), rfl, (by rw [eF]), by dsimp only; rw [ht]; exact (by rw [eF]; exact hP)⟩, hS.F ht⟩) hS.2.2 dX5_part_18

set_option maxHeartbeats 4000000 in
set_option maxRecDepth 100000 in
theorem c_X5_event (l : Launch) (D : va_G) (cy : Nat → ClassId) (A : Nat → Prop) (α : AD) (σ : SG) (k wh : Int32) : Met l yX5_event wsX5_event ({ frames := 0, cells := 0, slots := 0, locals := 0 } : Room) (va_Pc [.ref (α 0 0), .int k, .int wh] (PB D cy A α (CR cy σ α))) (vp_Si (fun r => r = F_event σ k wh)) 0 0 (fun _ => False) := by
  refine Met.ofW (cc := cX5_event) (maxL := 3) (ret := (some .int)) (by decide) rfl ?_
  intro p e s m args below meth c s₁ B hml hv
  obtain ⟨rfl, hP, hK⟩ := hv
  have hx := B.exec
  have hb := B.bytes
  have hr := B.returns
  have hts := atoms_spec (ws := wsX5_event) B.pre
  have hown : s.vm.findClass RX5 = some m.cls := findClass_of_methodNamed B.named
  have hlocks := B.notSynchronized
  have hiX5 : ∀ w ∈ wsX50, w ∈ wsX5_event := by decide +kernel
  have hl := lv_entry ([.ref (α 0 0), .int k, .int wh]) (n := 3) (Nat.le_of_ble_eq_true rfl)
  rw [lg_entry_eq]
  generalize (lg_sl ([.ref (α 0 0), .int k, .int wh]) ++ List.replicate (3 - (lg_sl ([.ref (α 0 0), .int k, .int wh])).length) Slot.unset).toArray = ls at hl ⊢
  have hl : lv_has ls 3 [(0, .ref (α 0 0)), (1, .int k), (2, .int wh)] := hl
  refine lv_iload_n hx hb dX5_event_0 rfl (lv_at hl 1 rfl) ?_
  refine lv_if_lt (x := k) (tgt := 27) hx hb dX5_event_1 (by decide) (fun c1 => ?_) (fun c1 => ?_)
  · refine lv_iconst (v := (-1)) hx hb dX5_event_27 (by decide) ?_
    have eF : F_event σ k wh = (-1) := by rw [F_event, if_pos (Or.inl c1)]
    exact W.iret (v := (-1)) hx hb hr (fun t ht hW => ⟨_, rfl, (by rw [eF]), ht⟩) (fun q hq => absurd hq List.not_mem_nil) dX5_event_28
  · refine lv_iload_n hx hb dX5_event_4 rfl (lv_at hl 1 rfl) ?_
    refine lv_bipush (v := 20) hx hb dX5_event_5 (by decide) ?_
    refine lv_icmp_ge (x := k) (y := 20) (tgt := 27) hx hb dX5_event_7 (by decide) (fun c7 => ?_) (fun c7 => ?_)
    · refine lv_iconst (v := (-1)) hx hb dX5_event_27 (by decide) ?_
      have eF : F_event σ k wh = (-1) := by rw [F_event, if_pos (Or.inr (Or.inl c7))]
      exact W.iret (v := (-1)) hx hb hr (fun t ht hW => ⟨_, rfl, (by rw [eF]), ht⟩) (fun q hq => absurd hq List.not_mem_nil) dX5_event_28
    · obtain ⟨kj, hkj, hk0⟩ := in_j (n := 20) (x := k) (by decide) ⟨Int32.not_lt.mp c1, Int32.not_le.mp c7⟩
      refine lv_iload_n hx hb dX5_event_10 rfl (lv_at hl 1 rfl) ?_
      refine lv_aload_n hx hb dX5_event_11 rfl (lv_at hl 0 rfl) ?_
      refine rf_get (v := .int (σ 29 0)) hx hb hts hiX5 hown hK hP 29 (by decide) (by decide +kernel) rfl rfl dX5_event_12 ?_
      refine lv_icmp_ge (x := k) (y := (σ 29 0)) (tgt := 27) hx hb dX5_event_15 (by decide) (fun c15 => ?_) (fun c15 => ?_)
      · refine lv_iconst (v := (-1)) hx hb dX5_event_27 (by decide) ?_
        have eF : F_event σ k wh = (-1) := by rw [F_event, if_pos (Or.inr (Or.inr (Or.inl c15)))]
        exact W.iret (v := (-1)) hx hb hr (fun t ht hW => ⟨_, rfl, (by rw [eF]), ht⟩) (fun q hq => absurd hq List.not_mem_nil) dX5_event_28
      · refine lv_iload_n hx hb dX5_event_18 rfl (lv_at hl 2 rfl) ?_
        refine lv_if_lt (x := wh) (tgt := 27) hx hb dX5_event_19 (by decide) (fun c19 => ?_) (fun c19 => ?_)
        · refine lv_iconst (v := (-1)) hx hb dX5_event_27 (by decide) ?_
          have eF : F_event σ k wh = (-1) := by rw [F_event, if_pos (Or.inr (Or.inr (Or.inr (Or.inl c19))))]
          exact W.iret (v := (-1)) hx hb hr (fun t ht hW => ⟨_, rfl, (by rw [eF]), ht⟩) (fun q hq => absurd hq List.not_mem_nil) dX5_event_28
        · refine lv_iload_n hx hb dX5_event_22 rfl (lv_at hl 2 rfl) ?_
          refine lv_iconst (v := 2) hx hb dX5_event_23 (by decide) ?_
          refine lv_icmp_le (x := wh) (y := 2) (tgt := 29) hx hb dX5_event_24 (by decide) (fun c24 => ?_) (fun c24 => ?_)
          · refine lv_iload_n hx hb dX5_event_29 rfl (lv_at hl 2 rfl) ?_
            refine lv_if_ne (x := wh) (tgt := 42) hx hb dX5_event_30 (by decide) (fun c30 => ?_) (fun c30 => ?_)
            · refine lv_iload_n hx hb dX5_event_42 rfl (lv_at hl 2 rfl) ?_
              refine lv_iconst (v := 1) hx hb dX5_event_43 (by decide) ?_
              refine lv_icmp_ne (x := wh) (y := 1) (tgt := 56) hx hb dX5_event_44 (by decide) (fun c44 => ?_) (fun c44 => ?_)
              · refine lv_aload_n hx hb dX5_event_56 rfl (lv_at hl 0 rfl) ?_
                refine rf_get (v := .ref (α 25 0)) hx hb hts hiX5 hown hK hP 24 (by decide) (by decide +kernel) rfl rfl dX5_event_57 ?_
                refine lv_iload_n hx hb dX5_event_60 rfl (lv_at hl 1 rfl) ?_
                refine rf_iald hx hb hK hP 24 (by decide) rfl kj hk0 hkj dX5_event_61 ?_
                have eF : F_event σ k wh = (σ 24 kj) := by rw [F_event, if_neg (fun q => q.elim c1 (fun q => q.elim c7 (fun q => q.elim c15 (fun q => q.elim c19 (Int32.not_lt.mpr c24))))), if_neg c30, if_neg c44, cN_of hk0 (by omega)]
                exact W.iret (v := (σ 24 kj)) hx hb hr (fun t ht hW => ⟨_, rfl, (by rw [eF]), ht⟩) (fun q hq => absurd hq List.not_mem_nil) dX5_event_62
              · refine lv_aload_n hx hb dX5_event_47 rfl (lv_at hl 0 rfl) ?_
                refine rf_get (v := .ref (α 24 0)) hx hb hts hiX5 hown hK hP 23 (by decide) (by decide +kernel) rfl rfl dX5_event_48 ?_
                refine lv_iload_n hx hb dX5_event_51 rfl (lv_at hl 1 rfl) ?_
                refine rf_iald hx hb hK hP 23 (by decide) rfl kj hk0 hkj dX5_event_52 ?_
                refine lv_goto (tgt := 62) hx hb dX5_event_53 (by decide) ?_
                have eF : F_event σ k wh = (σ 23 kj) := by rw [F_event, if_neg (fun q => q.elim c1 (fun q => q.elim c7 (fun q => q.elim c15 (fun q => q.elim c19 (Int32.not_lt.mpr c24))))), if_neg c30, if_pos c44, cN_of hk0 (by omega)]
                exact W.iret (v := (σ 23 kj)) hx hb hr (fun t ht hW => ⟨_, rfl, (by rw [eF]), ht⟩) (fun q hq => absurd hq List.not_mem_nil) dX5_event_62
            · refine lv_aload_n hx hb dX5_event_33 rfl (lv_at hl 0 rfl) ?_
              refine rf_get (v := .ref (α 23 0)) hx hb hts hiX5 hown hK hP 22 (by decide) (by decide +kernel) rfl rfl dX5_event_34 ?_
              refine lv_iload_n hx hb dX5_event_37 rfl (lv_at hl 1 rfl) ?_
              refine rf_iald hx hb hK hP 22 (by decide) rfl kj hk0 hkj dX5_event_38 ?_
              refine lv_goto (tgt := 62) hx hb dX5_event_39 (by decide) ?_
              have eF : F_event σ k wh = (σ 22 kj) := by rw [F_event, if_neg (fun q => q.elim c1 (fun q => q.elim c7 (fun q => q.elim c15 (fun q => q.elim c19 (Int32.not_lt.mpr c24))))), if_pos c30, cN_of hk0 (by omega)]
              exact W.iret (v := (σ 22 kj)) hx hb hr (fun t ht hW => ⟨_, rfl, (by rw [eF]), ht⟩) (fun q hq => absurd hq List.not_mem_nil) dX5_event_62
          · refine lv_iconst (v := (-1)) hx hb dX5_event_27 (by decide) ?_
            have eF : F_event σ k wh = (-1) := by rw [F_event, if_pos (Or.inr (Or.inr (Or.inr (Or.inr (Int32.not_le.mp c24)))))]
            exact W.iret (v := (-1)) hx hb hr (fun t ht hW => ⟨_, rfl, (by rw [eF]), ht⟩) (fun q hq => absurd hq List.not_mem_nil) dX5_event_28

set_option maxHeartbeats 4000000 in
set_option maxRecDepth 100000 in
theorem c_X5_about (l : Launch) (D : va_G) (cy : Nat → ClassId) (A : Nat → Prop) (α : AD) (σ : SG) (wh : Int32) : Met l yX5_about wsX5_about ({ frames := 0, cells := 0, slots := 0, locals := 0 } : Room) (va_Pc [.ref (α 0 0), .int wh] (PB D cy A α (CR cy σ α))) (vp_Si (fun r => r = F_about σ wh)) 0 0 (fun _ => False) := by
  refine Met.ofW (cc := cX5_about) (maxL := 4) (ret := (some .int)) (by decide) rfl ?_
  intro p e s m args below meth c s₁ B hml hv
  obtain ⟨rfl, hP, hK⟩ := hv
  have hx := B.exec
  have hb := B.bytes
  have hr := B.returns
  have hts := atoms_spec (ws := wsX5_about) B.pre
  have hown : s.vm.findClass RX5 = some m.cls := findClass_of_methodNamed B.named
  have hlocks := B.notSynchronized
  have hiX5 : ∀ w ∈ wsX50, w ∈ wsX5_about := by decide +kernel
  have hl := lv_entry ([.ref (α 0 0), .int wh]) (n := 4) (Nat.le_of_ble_eq_true rfl)
  rw [lg_entry_eq]
  generalize (lg_sl ([.ref (α 0 0), .int wh]) ++ List.replicate (4 - (lg_sl ([.ref (α 0 0), .int wh])).length) Slot.unset).toArray = ls at hl ⊢
  have hl : lv_has ls 4 [(0, .ref (α 0 0)), (1, .int wh)] := hl
  have L4 : ∀ (n : Nat) (hw : wh = 0) (gg : Nat) (hn : 16 - gg < n) (hg : gg ≤ 16) (ls : Array Slot) (hl : lv_has ls 4 [(0, .ref (α 0 0)), (1, .int 0), (2, .int (cmN σ gg)), (3, .int (nI gg))]) , W p l e ({ frames := 0, cells := 0, slots := 0, locals := 0 } : Room) s m ([.ref (α 0 0), .int wh] : List Value).toArray below meth c s.heap [] 0 0 (MQ below (vp_Si (fun r => r = F_about σ wh)) ([.ref (α 0 0), .int wh] : List Value).toArray s 0 0 (fun _ => False)) (F0 m 4 ls []) := by
    intro n
    induction n with
    | zero => intro hw gg hn hg ls hl ; exact absurd hn (Nat.not_lt_zero _)
    | succ n ih =>
      intro hw gg hn hg ls hl 
      refine lv_iload_n hx hb dX5_about_4 rfl (lv_at hl 3 rfl) ?_
      refine lv_bipush (v := 16) hx hb dX5_about_5 (by decide) ?_
      refine lv_icmp_ge (x := (nI gg)) (y := 16) (tgt := 37) hx hb dX5_about_7 (by decide) (fun c7 => ?_) (fun c7 => ?_)
      · have hge : gg = 16 := Nat.le_antisymm hg (ige (by omega) (by decide) c7)
        refine lv_iconst (v := 0) hx hb dX5_about_37 (by decide) ?_
        refine lv_istore_n (lv' := [(3, .int 0), (0, .ref (α 0 0)), (1, .int 0), (2, .int (cmN σ gg))]) hx hb dX5_about_38 rfl hl (by decide) rfl (fun ls hl => ?_)
        refine lv_iload_n hx hb dX5_about_39 rfl (lv_at hl 0 rfl) ?_
        refine lv_bipush (v := 8) hx hb dX5_about_40 (by decide) ?_
        refine lv_icmp_ge (x := 0) (y := 8) (tgt := 82) hx hb dX5_about_42 (by decide) (fun c => absurd c (by decide)) (fun c42 => ?_)
        refine lv_iload_n hx hb dX5_about_45 rfl (lv_at hl 2 rfl) ?_
        refine lv_iconst (v := 5) hx hb dX5_about_46 (by decide) ?_
        refine lv_icmp_ne (x := 0) (y := 5) (tgt := 82) hx hb dX5_about_47 (by decide) (fun c47 => ?_) (fun c => absurd c (by decide))
        refine lv_iload_n hx hb dX5_about_82 rfl (lv_at hl 2 rfl) ?_
        refine lv_tableIn (tgt := 124) hx hb dX5_about_83 (by decide) (by decide) rfl (by decide) ?_
        refine lv_iload_n hx hb dX5_about_124 rfl (lv_at hl 3 rfl) ?_
        exact W.iret (v := (cmN σ gg)) hx hb hr (fun t ht hW => ⟨_, rfl, (by rw [hw, hge]; rfl), ht⟩) (fun q hq => absurd hq List.not_mem_nil) dX5_about_125
      · have hlt : gg < 16 := ilt (by omega) (by decide) c7
        refine lv_iload_n hx hb dX5_about_10 rfl (lv_at hl 1 rfl) ?_
        refine lv_if_ne (x := 0) (tgt := 37) hx hb dX5_about_11 (by decide) (fun c => absurd (by decide) c) (fun c11 => ?_)
        refine lv_iload_n hx hb dX5_about_14 rfl (lv_at hl 2 rfl) ?_
        refine lv_aload_n hx hb dX5_about_15 rfl (lv_at hl 0 rfl) ?_
        refine rf_get (v := .ref (α 1 0)) hx hb hts hiX5 hown hK hP 0 (by decide) (by decide +kernel) rfl rfl dX5_about_16 ?_
        refine lv_iload_n hx hb dX5_about_19 rfl (lv_at hl 3 rfl) ?_
        refine rf_zald hx hb hK hP 0 (by decide) rfl gg rfl hlt dX5_about_20 ?_
        refine lv_if_eq (x := (σ 0 gg)) (tgt := 28) hx hb dX5_about_21 (by decide) (fun c21 => ?_) (fun c21 => ?_)
        · refine lv_iconst (v := 0) hx hb dX5_about_28 (by decide) ?_
          refine lv_iadd hx hb dX5_about_29 ?_
          refine lv_istore_n (lv' := [(2, .int ((cmN σ gg) + 0)), (0, .ref (α 0 0)), (1, .int 0), (3, .int (nI gg))]) hx hb dX5_about_30 rfl hl (by decide) rfl (fun ls hl => ?_)
          refine lv_iinc (v := (nI (gg + 1))) (lv' := [(3, .int (nI (gg + 1))), (2, .int ((cmN σ gg) + 0)), (0, .ref (α 0 0)), (1, .int 0)]) hx hb dX5_about_31 hl (k := 3) rfl (nI_1 _) (by decide) rfl (fun ls hl => ?_)
          refine lv_goto (tgt := 4) hx hb dX5_about_34 (by decide) ?_
          have e1 : cmN σ (gg + 1) = cmN σ gg + 0 := by rw [cmN, show decide (σ 0 gg ≠ 0) = false from decide_eq_false (not_not_intro c21)]; rfl
          rw [← e1] at hl
          exact ih hw (gg + 1) (by omega) hlt ls (lv_sub hl [2, 3, 1, 0] rfl)
        · refine lv_iconst (v := 1) hx hb dX5_about_24 (by decide) ?_
          refine lv_goto (tgt := 29) hx hb dX5_about_25 (by decide) ?_
          refine lv_iadd hx hb dX5_about_29 ?_
          refine lv_istore_n (lv' := [(2, .int ((cmN σ gg) + 1)), (0, .ref (α 0 0)), (1, .int 0), (3, .int (nI gg))]) hx hb dX5_about_30 rfl hl (by decide) rfl (fun ls hl => ?_)
          refine lv_iinc (v := (nI (gg + 1))) (lv' := [(3, .int (nI (gg + 1))), (2, .int ((cmN σ gg) + 1)), (0, .ref (α 0 0)), (1, .int 0)]) hx hb dX5_about_31 hl (k := 3) rfl (nI_1 _) (by decide) rfl (fun ls hl => ?_)
          refine lv_goto (tgt := 4) hx hb dX5_about_34 (by decide) ?_
          have e1 : cmN σ (gg + 1) = cmN σ gg + 1 := by rw [cmN, show decide (σ 0 gg ≠ 0) = true from decide_eq_true c21]; rfl
          rw [← e1] at hl
          exact ih hw (gg + 1) (by omega) hlt ls (lv_sub hl [2, 3, 1, 0] rfl)
  have L39 : ∀ (n : Nat) (hw : wh = 5) (gg : Nat) (hn : 8 - gg < n) (hg : gg ≤ 8) (ls : Array Slot) (hl : lv_has ls 4 [(0, .ref (α 0 0)), (1, .int 5), (2, .int (ctN σ gg)), (3, .int (nI gg))]) , W p l e ({ frames := 0, cells := 0, slots := 0, locals := 0 } : Room) s m ([.ref (α 0 0), .int wh] : List Value).toArray below meth c s.heap [] 0 0 (MQ below (vp_Si (fun r => r = F_about σ wh)) ([.ref (α 0 0), .int wh] : List Value).toArray s 0 0 (fun _ => False)) (F0 m 39 ls []) := by
    intro n
    induction n with
    | zero => intro hw gg hn hg ls hl ; exact absurd hn (Nat.not_lt_zero _)
    | succ n ih =>
      intro hw gg hn hg ls hl 
      refine lv_iload_n hx hb dX5_about_39 rfl (lv_at hl 3 rfl) ?_
      refine lv_bipush (v := 8) hx hb dX5_about_40 (by decide) ?_
      refine lv_icmp_ge (x := (nI gg)) (y := 8) (tgt := 82) hx hb dX5_about_42 (by decide) (fun c42 => ?_) (fun c42 => ?_)
      · have hge : gg = 8 := Nat.le_antisymm hg (ige (by omega) (by decide) c42)
        refine lv_iload_n hx hb dX5_about_82 rfl (lv_at hl 1 rfl) ?_
        refine lv_tableIn (tgt := 124) hx hb dX5_about_83 (by decide) (by decide) rfl (by decide) ?_
        refine lv_iload_n hx hb dX5_about_124 rfl (lv_at hl 2 rfl) ?_
        exact W.iret (v := (ctN σ gg)) hx hb hr (fun t ht hW => ⟨_, rfl, (by rw [hw, hge]; rfl), ht⟩) (fun q hq => absurd hq List.not_mem_nil) dX5_about_125
      · have hlt : gg < 8 := ilt (by omega) (by decide) c42
        refine lv_iload_n hx hb dX5_about_45 rfl (lv_at hl 1 rfl) ?_
        refine lv_iconst (v := 5) hx hb dX5_about_46 (by decide) ?_
        refine lv_icmp_ne (x := 5) (y := 5) (tgt := 82) hx hb dX5_about_47 (by decide) (fun c => absurd (by decide) c) (fun c47 => ?_)
        refine lv_iload_n hx hb dX5_about_50 rfl (lv_at hl 2 rfl) ?_
        refine lv_aload_n hx hb dX5_about_51 rfl (lv_at hl 0 rfl) ?_
        refine rf_get (v := .ref (α 21 0)) hx hb hts hiX5 hown hK hP 20 (by decide) (by decide +kernel) rfl rfl dX5_about_52 ?_
        refine lv_iload_n hx hb dX5_about_55 rfl (lv_at hl 3 rfl) ?_
        refine rf_zald hx hb hK hP 20 (by decide) rfl gg rfl hlt dX5_about_56 ?_
        refine lv_if_eq (x := (σ 20 gg)) (tgt := 73) hx hb dX5_about_57 (by decide) (fun c57 => ?_) (fun c57 => ?_)
        · refine lv_iconst (v := 0) hx hb dX5_about_73 (by decide) ?_
          refine lv_iadd hx hb dX5_about_74 ?_
          refine lv_istore_n (lv' := [(2, .int ((ctN σ gg) + 0)), (0, .ref (α 0 0)), (1, .int 5), (3, .int (nI gg))]) hx hb dX5_about_75 rfl hl (by decide) rfl (fun ls hl => ?_)
          refine lv_iinc (v := (nI (gg + 1))) (lv' := [(3, .int (nI (gg + 1))), (2, .int ((ctN σ gg) + 0)), (0, .ref (α 0 0)), (1, .int 5)]) hx hb dX5_about_76 hl (k := 3) rfl (nI_1 _) (by decide) rfl (fun ls hl => ?_)
          refine lv_goto (tgt := 39) hx hb dX5_about_79 (by decide) ?_
          have e1 : ctN σ (gg + 1) = ctN σ gg + 0 := by rw [ctN, show decide (σ 20 gg ≠ 0 ∧ σ 21 gg ≠ 0) = false from decide_eq_false (fun q => q.1 c57)]; rfl
          rw [← e1] at hl
          exact ih hw (gg + 1) (by omega) hlt ls (lv_sub hl [2, 3, 1, 0] rfl)
        · refine lv_aload_n hx hb dX5_about_60 rfl (lv_at hl 0 rfl) ?_
          refine rf_get (v := .ref (α 22 0)) hx hb hts hiX5 hown hK hP 21 (by decide) (by decide +kernel) rfl rfl dX5_about_61 ?_
          refine lv_iload_n hx hb dX5_about_64 rfl (lv_at hl 3 rfl) ?_
          refine rf_zald hx hb hK hP 21 (by decide) rfl gg rfl hlt dX5_about_65 ?_
          refine lv_if_eq (x := (σ 21 gg)) (tgt := 73) hx hb dX5_about_66 (by decide) (fun c66 => ?_) (fun c66 => ?_)
          · refine lv_iconst (v := 0) hx hb dX5_about_73 (by decide) ?_
            refine lv_iadd hx hb dX5_about_74 ?_
            refine lv_istore_n (lv' := [(2, .int ((ctN σ gg) + 0)), (0, .ref (α 0 0)), (1, .int 5), (3, .int (nI gg))]) hx hb dX5_about_75 rfl hl (by decide) rfl (fun ls hl => ?_)
            refine lv_iinc (v := (nI (gg + 1))) (lv' := [(3, .int (nI (gg + 1))), (2, .int ((ctN σ gg) + 0)), (0, .ref (α 0 0)), (1, .int 5)]) hx hb dX5_about_76 hl (k := 3) rfl (nI_1 _) (by decide) rfl (fun ls hl => ?_)
            refine lv_goto (tgt := 39) hx hb dX5_about_79 (by decide) ?_
            have e1 : ctN σ (gg + 1) = ctN σ gg + 0 := by rw [ctN, show decide (σ 20 gg ≠ 0 ∧ σ 21 gg ≠ 0) = false from decide_eq_false (fun q => q.2 c66)]; rfl
            rw [← e1] at hl
            exact ih hw (gg + 1) (by omega) hlt ls (lv_sub hl [2, 3, 1, 0] rfl)
          · refine lv_iconst (v := 1) hx hb dX5_about_69 (by decide) ?_
            refine lv_goto (tgt := 74) hx hb dX5_about_70 (by decide) ?_
            refine lv_iadd hx hb dX5_about_74 ?_
            refine lv_istore_n (lv' := [(2, .int ((ctN σ gg) + 1)), (0, .ref (α 0 0)), (1, .int 5), (3, .int (nI gg))]) hx hb dX5_about_75 rfl hl (by decide) rfl (fun ls hl => ?_)
            refine lv_iinc (v := (nI (gg + 1))) (lv' := [(3, .int (nI (gg + 1))), (2, .int ((ctN σ gg) + 1)), (0, .ref (α 0 0)), (1, .int 5)]) hx hb dX5_about_76 hl (k := 3) rfl (nI_1 _) (by decide) rfl (fun ls hl => ?_)
            refine lv_goto (tgt := 39) hx hb dX5_about_79 (by decide) ?_
            have e1 : ctN σ (gg + 1) = ctN σ gg + 1 := by rw [ctN, show decide (σ 20 gg ≠ 0 ∧ σ 21 gg ≠ 0) = true from decide_eq_true ⟨c57, c66⟩]; rfl
            rw [← e1] at hl
            exact ih hw (gg + 1) (by omega) hlt ls (lv_sub hl [2, 3, 1, 0] rfl)
  rcases sw7 wh with hw | hw | hw | hw | hw | hw | hw | hw
  · have hl : lv_has ls 4 [(0, .ref (α 0 0)), (1, .int 0)] := by rw [hw] at hl; exact hl
    refine lv_iconst (v := 0) hx hb dX5_about_0 (by decide) ?_
    refine lv_istore_n (lv' := [(2, .int 0), (0, .ref (α 0 0)), (1, .int 0)]) hx hb dX5_about_1 rfl hl (by decide) rfl (fun ls hl => ?_)
    refine lv_iconst (v := 0) hx hb dX5_about_2 (by decide) ?_
    refine lv_istore_n (lv' := [(3, .int 0), (2, .int 0), (0, .ref (α 0 0)), (1, .int 0)]) hx hb dX5_about_3 rfl hl (by decide) rfl (fun ls hl => ?_)
    exact L4 17 hw 0 (by decide) (by decide) ls (lv_sub hl [2, 3, 1, 0] rfl)
  · have hl : lv_has ls 4 [(0, .ref (α 0 0)), (1, .int 1)] := by rw [hw] at hl; exact hl
    refine lv_iconst (v := 0) hx hb dX5_about_0 (by decide) ?_
    refine lv_istore_n (lv' := [(2, .int 0), (0, .ref (α 0 0)), (1, .int 1)]) hx hb dX5_about_1 rfl hl (by decide) rfl (fun ls hl => ?_)
    refine lv_iconst (v := 0) hx hb dX5_about_2 (by decide) ?_
    refine lv_istore_n (lv' := [(3, .int 0), (2, .int 0), (0, .ref (α 0 0)), (1, .int 1)]) hx hb dX5_about_3 rfl hl (by decide) rfl (fun ls hl => ?_)
    refine lv_iload_n hx hb dX5_about_4 rfl (lv_at hl 0 rfl) ?_
    refine lv_bipush (v := 16) hx hb dX5_about_5 (by decide) ?_
    refine lv_icmp_ge (x := 0) (y := 16) (tgt := 37) hx hb dX5_about_7 (by decide) (fun c => absurd c (by decide)) (fun c7 => ?_)
    refine lv_iload_n hx hb dX5_about_10 rfl (lv_at hl 3 rfl) ?_
    refine lv_if_ne (x := 1) (tgt := 37) hx hb dX5_about_11 (by decide) (fun c11 => ?_) (fun c => absurd c (by decide))
    refine lv_iconst (v := 0) hx hb dX5_about_37 (by decide) ?_
    refine lv_istore_n (lv' := [(3, .int 0), (2, .int 0), (0, .ref (α 0 0)), (1, .int 1)]) hx hb dX5_about_38 rfl hl (by decide) rfl (fun ls hl => ?_)
    refine lv_iload_n hx hb dX5_about_39 rfl (lv_at hl 0 rfl) ?_
    refine lv_bipush (v := 8) hx hb dX5_about_40 (by decide) ?_
    refine lv_icmp_ge (x := 0) (y := 8) (tgt := 82) hx hb dX5_about_42 (by decide) (fun c => absurd c (by decide)) (fun c42 => ?_)
    refine lv_iload_n hx hb dX5_about_45 rfl (lv_at hl 3 rfl) ?_
    refine lv_iconst (v := 5) hx hb dX5_about_46 (by decide) ?_
    refine lv_icmp_ne (x := 1) (y := 5) (tgt := 82) hx hb dX5_about_47 (by decide) (fun c47 => ?_) (fun c => absurd c (by decide))
    refine lv_iload_n hx hb dX5_about_82 rfl (lv_at hl 3 rfl) ?_
    refine lv_tableIn (tgt := 126) hx hb dX5_about_83 (by decide) (by decide) rfl (by decide) ?_
    refine lv_aload_n hx hb dX5_about_126 rfl (lv_at hl 2 rfl) ?_
    refine rf_get (v := .int (σ 25 0)) hx hb hts hiX5 hown hK hP 25 (by decide) (by decide +kernel) rfl rfl dX5_about_127 ?_
    exact W.iret (v := (σ 25 0)) hx hb hr (fun t ht hW => ⟨_, rfl, (by rw [hw]; rfl), ht⟩) (fun q hq => absurd hq List.not_mem_nil) dX5_about_130
  · have hl : lv_has ls 4 [(0, .ref (α 0 0)), (1, .int 2)] := by rw [hw] at hl; exact hl
    refine lv_iconst (v := 0) hx hb dX5_about_0 (by decide) ?_
    refine lv_istore_n (lv' := [(2, .int 0), (0, .ref (α 0 0)), (1, .int 2)]) hx hb dX5_about_1 rfl hl (by decide) rfl (fun ls hl => ?_)
    refine lv_iconst (v := 0) hx hb dX5_about_2 (by decide) ?_
    refine lv_istore_n (lv' := [(3, .int 0), (2, .int 0), (0, .ref (α 0 0)), (1, .int 2)]) hx hb dX5_about_3 rfl hl (by decide) rfl (fun ls hl => ?_)
    refine lv_iload_n hx hb dX5_about_4 rfl (lv_at hl 0 rfl) ?_
    refine lv_bipush (v := 16) hx hb dX5_about_5 (by decide) ?_
    refine lv_icmp_ge (x := 0) (y := 16) (tgt := 37) hx hb dX5_about_7 (by decide) (fun c => absurd c (by decide)) (fun c7 => ?_)
    refine lv_iload_n hx hb dX5_about_10 rfl (lv_at hl 3 rfl) ?_
    refine lv_if_ne (x := 2) (tgt := 37) hx hb dX5_about_11 (by decide) (fun c11 => ?_) (fun c => absurd c (by decide))
    refine lv_iconst (v := 0) hx hb dX5_about_37 (by decide) ?_
    refine lv_istore_n (lv' := [(3, .int 0), (2, .int 0), (0, .ref (α 0 0)), (1, .int 2)]) hx hb dX5_about_38 rfl hl (by decide) rfl (fun ls hl => ?_)
    refine lv_iload_n hx hb dX5_about_39 rfl (lv_at hl 0 rfl) ?_
    refine lv_bipush (v := 8) hx hb dX5_about_40 (by decide) ?_
    refine lv_icmp_ge (x := 0) (y := 8) (tgt := 82) hx hb dX5_about_42 (by decide) (fun c => absurd c (by decide)) (fun c42 => ?_)
    refine lv_iload_n hx hb dX5_about_45 rfl (lv_at hl 3 rfl) ?_
    refine lv_iconst (v := 5) hx hb dX5_about_46 (by decide) ?_
    refine lv_icmp_ne (x := 2) (y := 5) (tgt := 82) hx hb dX5_about_47 (by decide) (fun c47 => ?_) (fun c => absurd c (by decide))
    refine lv_iload_n hx hb dX5_about_82 rfl (lv_at hl 3 rfl) ?_
    refine lv_tableIn (tgt := 131) hx hb dX5_about_83 (by decide) (by decide) rfl (by decide) ?_
    refine lv_aload_n hx hb dX5_about_131 rfl (lv_at hl 2 rfl) ?_
    refine rf_get (v := .int (σ 26 0)) hx hb hts hiX5 hown hK hP 26 (by decide) (by decide +kernel) rfl rfl dX5_about_132 ?_
    exact W.iret (v := (σ 26 0)) hx hb hr (fun t ht hW => ⟨_, rfl, (by rw [hw]; rfl), ht⟩) (fun q hq => absurd hq List.not_mem_nil) dX5_about_135
  · have hl : lv_has ls 4 [(0, .ref (α 0 0)), (1, .int 3)] := by rw [hw] at hl; exact hl
    refine lv_iconst (v := 0) hx hb dX5_about_0 (by decide) ?_
    refine lv_istore_n (lv' := [(2, .int 0), (0, .ref (α 0 0)), (1, .int 3)]) hx hb dX5_about_1 rfl hl (by decide) rfl (fun ls hl => ?_)
    refine lv_iconst (v := 0) hx hb dX5_about_2 (by decide) ?_
    refine lv_istore_n (lv' := [(3, .int 0), (2, .int 0), (0, .ref (α 0 0)), (1, .int 3)]) hx hb dX5_about_3 rfl hl (by decide) rfl (fun ls hl => ?_)
    refine lv_iload_n hx hb dX5_about_4 rfl (lv_at hl 0 rfl) ?_
    refine lv_bipush (v := 16) hx hb dX5_about_5 (by decide) ?_
    refine lv_icmp_ge (x := 0) (y := 16) (tgt := 37) hx hb dX5_about_7 (by decide) (fun c => absurd c (by decide)) (fun c7 => ?_)
    refine lv_iload_n hx hb dX5_about_10 rfl (lv_at hl 3 rfl) ?_
    refine lv_if_ne (x := 3) (tgt := 37) hx hb dX5_about_11 (by decide) (fun c11 => ?_) (fun c => absurd c (by decide))
    refine lv_iconst (v := 0) hx hb dX5_about_37 (by decide) ?_
    refine lv_istore_n (lv' := [(3, .int 0), (2, .int 0), (0, .ref (α 0 0)), (1, .int 3)]) hx hb dX5_about_38 rfl hl (by decide) rfl (fun ls hl => ?_)
    refine lv_iload_n hx hb dX5_about_39 rfl (lv_at hl 0 rfl) ?_
    refine lv_bipush (v := 8) hx hb dX5_about_40 (by decide) ?_
    refine lv_icmp_ge (x := 0) (y := 8) (tgt := 82) hx hb dX5_about_42 (by decide) (fun c => absurd c (by decide)) (fun c42 => ?_)
    refine lv_iload_n hx hb dX5_about_45 rfl (lv_at hl 3 rfl) ?_
    refine lv_iconst (v := 5) hx hb dX5_about_46 (by decide) ?_
    refine lv_icmp_ne (x := 3) (y := 5) (tgt := 82) hx hb dX5_about_47 (by decide) (fun c47 => ?_) (fun c => absurd c (by decide))
    refine lv_iload_n hx hb dX5_about_82 rfl (lv_at hl 3 rfl) ?_
    refine lv_tableIn (tgt := 136) hx hb dX5_about_83 (by decide) (by decide) rfl (by decide) ?_
    refine lv_aload_n hx hb dX5_about_136 rfl (lv_at hl 2 rfl) ?_
    refine rf_get (v := .int (σ 27 0)) hx hb hts hiX5 hown hK hP 27 (by decide) (by decide +kernel) rfl rfl dX5_about_137 ?_
    exact W.iret (v := (σ 27 0)) hx hb hr (fun t ht hW => ⟨_, rfl, (by rw [hw]; rfl), ht⟩) (fun q hq => absurd hq List.not_mem_nil) dX5_about_140
  · have hl : lv_has ls 4 [(0, .ref (α 0 0)), (1, .int 4)] := by rw [hw] at hl; exact hl
    refine lv_iconst (v := 0) hx hb dX5_about_0 (by decide) ?_
    refine lv_istore_n (lv' := [(2, .int 0), (0, .ref (α 0 0)), (1, .int 4)]) hx hb dX5_about_1 rfl hl (by decide) rfl (fun ls hl => ?_)
    refine lv_iconst (v := 0) hx hb dX5_about_2 (by decide) ?_
    refine lv_istore_n (lv' := [(3, .int 0), (2, .int 0), (0, .ref (α 0 0)), (1, .int 4)]) hx hb dX5_about_3 rfl hl (by decide) rfl (fun ls hl => ?_)
    refine lv_iload_n hx hb dX5_about_4 rfl (lv_at hl 0 rfl) ?_
    refine lv_bipush (v := 16) hx hb dX5_about_5 (by decide) ?_
    refine lv_icmp_ge (x := 0) (y := 16) (tgt := 37) hx hb dX5_about_7 (by decide) (fun c => absurd c (by decide)) (fun c7 => ?_)
    refine lv_iload_n hx hb dX5_about_10 rfl (lv_at hl 3 rfl) ?_
    refine lv_if_ne (x := 4) (tgt := 37) hx hb dX5_about_11 (by decide) (fun c11 => ?_) (fun c => absurd c (by decide))
    refine lv_iconst (v := 0) hx hb dX5_about_37 (by decide) ?_
    refine lv_istore_n (lv' := [(3, .int 0), (2, .int 0), (0, .ref (α 0 0)), (1, .int 4)]) hx hb dX5_about_38 rfl hl (by decide) rfl (fun ls hl => ?_)
    refine lv_iload_n hx hb dX5_about_39 rfl (lv_at hl 0 rfl) ?_
    refine lv_bipush (v := 8) hx hb dX5_about_40 (by decide) ?_
    refine lv_icmp_ge (x := 0) (y := 8) (tgt := 82) hx hb dX5_about_42 (by decide) (fun c => absurd c (by decide)) (fun c42 => ?_)
    refine lv_iload_n hx hb dX5_about_45 rfl (lv_at hl 3 rfl) ?_
    refine lv_iconst (v := 5) hx hb dX5_about_46 (by decide) ?_
    refine lv_icmp_ne (x := 4) (y := 5) (tgt := 82) hx hb dX5_about_47 (by decide) (fun c47 => ?_) (fun c => absurd c (by decide))
    refine lv_iload_n hx hb dX5_about_82 rfl (lv_at hl 3 rfl) ?_
    refine lv_tableIn (tgt := 141) hx hb dX5_about_83 (by decide) (by decide) rfl (by decide) ?_
    refine lv_aload_n hx hb dX5_about_141 rfl (lv_at hl 2 rfl) ?_
    refine rf_get (v := .int (σ 28 0)) hx hb hts hiX5 hown hK hP 28 (by decide) (by decide +kernel) rfl rfl dX5_about_142 ?_
    exact W.iret (v := (σ 28 0)) hx hb hr (fun t ht hW => ⟨_, rfl, (by rw [hw]; rfl), ht⟩) (fun q hq => absurd hq List.not_mem_nil) dX5_about_145
  · have hl : lv_has ls 4 [(0, .ref (α 0 0)), (1, .int 5)] := by rw [hw] at hl; exact hl
    refine lv_iconst (v := 0) hx hb dX5_about_0 (by decide) ?_
    refine lv_istore_n (lv' := [(2, .int 0), (0, .ref (α 0 0)), (1, .int 5)]) hx hb dX5_about_1 rfl hl (by decide) rfl (fun ls hl => ?_)
    refine lv_iconst (v := 0) hx hb dX5_about_2 (by decide) ?_
    refine lv_istore_n (lv' := [(3, .int 0), (2, .int 0), (0, .ref (α 0 0)), (1, .int 5)]) hx hb dX5_about_3 rfl hl (by decide) rfl (fun ls hl => ?_)
    refine lv_iload_n hx hb dX5_about_4 rfl (lv_at hl 0 rfl) ?_
    refine lv_bipush (v := 16) hx hb dX5_about_5 (by decide) ?_
    refine lv_icmp_ge (x := 0) (y := 16) (tgt := 37) hx hb dX5_about_7 (by decide) (fun c => absurd c (by decide)) (fun c7 => ?_)
    refine lv_iload_n hx hb dX5_about_10 rfl (lv_at hl 3 rfl) ?_
    refine lv_if_ne (x := 5) (tgt := 37) hx hb dX5_about_11 (by decide) (fun c11 => ?_) (fun c => absurd c (by decide))
    refine lv_iconst (v := 0) hx hb dX5_about_37 (by decide) ?_
    refine lv_istore_n (lv' := [(3, .int 0), (2, .int 0), (0, .ref (α 0 0)), (1, .int 5)]) hx hb dX5_about_38 rfl hl (by decide) rfl (fun ls hl => ?_)
    exact L39 9 hw 0 (by decide) (by decide) ls (lv_sub hl [2, 3, 1, 0] rfl)
  · have hl : lv_has ls 4 [(0, .ref (α 0 0)), (1, .int 6)] := by rw [hw] at hl; exact hl
    refine lv_iconst (v := 0) hx hb dX5_about_0 (by decide) ?_
    refine lv_istore_n (lv' := [(2, .int 0), (0, .ref (α 0 0)), (1, .int 6)]) hx hb dX5_about_1 rfl hl (by decide) rfl (fun ls hl => ?_)
    refine lv_iconst (v := 0) hx hb dX5_about_2 (by decide) ?_
    refine lv_istore_n (lv' := [(3, .int 0), (2, .int 0), (0, .ref (α 0 0)), (1, .int 6)]) hx hb dX5_about_3 rfl hl (by decide) rfl (fun ls hl => ?_)
    refine lv_iload_n hx hb dX5_about_4 rfl (lv_at hl 0 rfl) ?_
    refine lv_bipush (v := 16) hx hb dX5_about_5 (by decide) ?_
    refine lv_icmp_ge (x := 0) (y := 16) (tgt := 37) hx hb dX5_about_7 (by decide) (fun c => absurd c (by decide)) (fun c7 => ?_)
    refine lv_iload_n hx hb dX5_about_10 rfl (lv_at hl 3 rfl) ?_
    refine lv_if_ne (x := 6) (tgt := 37) hx hb dX5_about_11 (by decide) (fun c11 => ?_) (fun c => absurd c (by decide))
    refine lv_iconst (v := 0) hx hb dX5_about_37 (by decide) ?_
    refine lv_istore_n (lv' := [(3, .int 0), (2, .int 0), (0, .ref (α 0 0)), (1, .int 6)]) hx hb dX5_about_38 rfl hl (by decide) rfl (fun ls hl => ?_)
    refine lv_iload_n hx hb dX5_about_39 rfl (lv_at hl 0 rfl) ?_
    refine lv_bipush (v := 8) hx hb dX5_about_40 (by decide) ?_
    refine lv_icmp_ge (x := 0) (y := 8) (tgt := 82) hx hb dX5_about_42 (by decide) (fun c => absurd c (by decide)) (fun c42 => ?_)
    refine lv_iload_n hx hb dX5_about_45 rfl (lv_at hl 3 rfl) ?_
    refine lv_iconst (v := 5) hx hb dX5_about_46 (by decide) ?_
    refine lv_icmp_ne (x := 6) (y := 5) (tgt := 82) hx hb dX5_about_47 (by decide) (fun c47 => ?_) (fun c => absurd c (by decide))
    refine lv_iload_n hx hb dX5_about_82 rfl (lv_at hl 3 rfl) ?_
    refine lv_tableIn (tgt := 146) hx hb dX5_about_83 (by decide) (by decide) rfl (by decide) ?_
    refine lv_aload_n hx hb dX5_about_146 rfl (lv_at hl 2 rfl) ?_
    refine rf_get (v := .int (σ 29 0)) hx hb hts hiX5 hown hK hP 29 (by decide) (by decide +kernel) rfl rfl dX5_about_147 ?_
    exact W.iret (v := (σ 29 0)) hx hb hr (fun t ht hW => ⟨_, rfl, (by rw [hw]; rfl), ht⟩) (fun q hq => absurd hq List.not_mem_nil) dX5_about_150
  · obtain ⟨n0, n1, n2, n3, n4, n5, n6⟩ := sw_ne hw
    refine lv_iconst (v := 0) hx hb dX5_about_0 (by decide) ?_
    refine lv_istore_n (lv' := [(2, .int 0), (0, .ref (α 0 0)), (1, .int wh)]) hx hb dX5_about_1 rfl hl (by decide) rfl (fun ls hl => ?_)
    refine lv_iconst (v := 0) hx hb dX5_about_2 (by decide) ?_
    refine lv_istore_n (lv' := [(3, .int 0), (2, .int 0), (0, .ref (α 0 0)), (1, .int wh)]) hx hb dX5_about_3 rfl hl (by decide) rfl (fun ls hl => ?_)
    refine lv_iload_n hx hb dX5_about_4 rfl (lv_at hl 0 rfl) ?_
    refine lv_bipush (v := 16) hx hb dX5_about_5 (by decide) ?_
    refine lv_icmp_ge (x := 0) (y := 16) (tgt := 37) hx hb dX5_about_7 (by decide) (fun c => absurd c (by decide)) (fun c7 => ?_)
    refine lv_iload_n hx hb dX5_about_10 rfl (lv_at hl 3 rfl) ?_
    refine lv_if_ne (x := wh) (tgt := 37) hx hb dX5_about_11 (by decide) (fun c11 => ?_) (fun c => absurd c n0)
    refine lv_iconst (v := 0) hx hb dX5_about_37 (by decide) ?_
    refine lv_istore_n (lv' := [(3, .int 0), (2, .int 0), (0, .ref (α 0 0)), (1, .int wh)]) hx hb dX5_about_38 rfl hl (by decide) rfl (fun ls hl => ?_)
    refine lv_iload_n hx hb dX5_about_39 rfl (lv_at hl 0 rfl) ?_
    refine lv_bipush (v := 8) hx hb dX5_about_40 (by decide) ?_
    refine lv_icmp_ge (x := 0) (y := 8) (tgt := 82) hx hb dX5_about_42 (by decide) (fun c => absurd c (by decide)) (fun c42 => ?_)
    refine lv_iload_n hx hb dX5_about_45 rfl (lv_at hl 3 rfl) ?_
    refine lv_iconst (v := 5) hx hb dX5_about_46 (by decide) ?_
    refine lv_icmp_ne (x := wh) (y := 5) (tgt := 82) hx hb dX5_about_47 (by decide) (fun c47 => ?_) (fun c => absurd c n5)
    refine lv_iload_n hx hb dX5_about_82 rfl (lv_at hl 3 rfl) ?_
    refine lv_tableOut (tgt := 151) hx hb dX5_about_83 hw (by decide) ?_
    refine lv_iconst (v := (-1)) hx hb dX5_about_151 (by decide) ?_
    exact W.iret (v := (-1)) hx hb hr (fun t ht hW => ⟨_, rfl, (by rw [F_about, if_neg n0, if_neg n5, if_neg n1, if_neg n2, if_neg n3, if_neg n4, if_neg n6]), ht⟩) (fun q hq => absurd hq List.not_mem_nil) dX5_about_152
