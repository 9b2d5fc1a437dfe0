/-- the class's own distance of two numbers of a gauge -/
def dst (nar a b : Int32) : UInt64 :=
  if FP.dcmp (vl nar a) (vl nar b) = some .gt ∨ FP.dcmp (vl nar a) (vl nar b) = some .eq then (if nar = 0 then FP.dsub (vl nar a) (vl nar b) else FP.f2d (FP.fsub (sl a) (sl b)))
  else (if nar = 0 then FP.dsub (vl nar b) (vl nar a) else FP.f2d (FP.fsub (sl b) (sl a)))
theorem vl_0 {nar : Int32} (h : nar = 0) (a : Int32) : vl nar a = wd a := if_pos h
theorem vl_1 {nar : Int32} (h : ¬ nar = 0) (a : Int32) : vl nar a = FP.f2d (sl a) := if_neg h
theorem d2f_vl {nar : Int32} (h : ¬ nar = 0) (a : Int32) : FP.d2f (vl nar a) = sl a := by rw [vl_1 h]; exact df_fd (sl_fin a)
theorem f2d_nn {x : UInt32} (h : FP.Core.val32 x ≠ .nan) : FP.Core.val64 (FP.f2d x) ≠ .nan := by
  have h1 : FP.fIsNaN x = false := (FP.Core.notNaN_iff32 x).mpr h
  rw [← FP.f2d_nan] at h1
  exact (FP.Core.notNaN_iff _).mp h1
theorem le_ngt {a b : UInt64} (ha : FP.Core.val64 a ≠ .nan) (hb : FP.Core.val64 b ≠ .nan) : (FP.dcmp a b = some .lt ∨ FP.dcmp a b = some .eq) ↔ ¬ FP.dcmp a b = some .gt := by
  have h : FP.dcmp a b ≠ none := fun h => ((FP.Core.dcmp_none a b).mp h).elim ha hb
  rcases hh : FP.dcmp a b with _ | (_ | _ | _)
  · exact absurd hh h
  · simp
  · simp
  · simp
theorem near_far (nar bd n m : Int32) : (FP.dcmp (dst nar n m) (vl nar bd) = some .lt ∨ FP.dcmp (dst nar n m) (vl nar bd) = some .eq) ↔ ¬ far nar bd n m = true := by
  by_cases h0 : nar = 0
  · have hd : FP.Core.val64 (dst nar n m) ≠ .nan := by
      unfold dst; rw [if_pos h0, if_pos h0]; split
      · exact ds_nn (vl_fin _ _) (vl_fin _ _)
      · exact ds_nn (vl_fin _ _) (vl_fin _ _)
    rw [le_ngt hd (vl_fin nar bd).ne_nan]
    have key : FP.dcmp (dst nar n m) (vl nar bd) = some .gt ↔ far nar bd n m = true := by
      unfold dst far
      rw [if_pos h0, if_pos h0, if_pos h0, if_pos h0, vl_0 h0, vl_0 h0, vl_0 h0]
      rcases hc : FP.dcmp (wd n) (wd m) with _ | (_ | _ | _)
      · simp
      · simp
      · simp [ds_eq (wd_fin n) (wd_fin m) hc]
      · simp
    rw [key]
  · have hd : FP.Core.val64 (dst nar n m) ≠ .nan := by
      unfold dst; rw [if_neg h0, if_neg h0]; split
      · exact f2d_nn (fs_nn (sl_fin _) (sl_fin _))
      · exact f2d_nn (fs_nn (sl_fin _) (sl_fin _))
    rw [le_ngt hd (vl_fin nar bd).ne_nan]
    have key : FP.dcmp (dst nar n m) (vl nar bd) = some .gt ↔ far nar bd n m = true := by
      unfold dst far
      rw [if_neg h0, if_neg h0, if_neg h0, if_neg h0, vl_1 h0, vl_1 h0, vl_1 h0]
      have e : ∀ x y : Int32, FP.dcmp (FP.f2d (FP.fsub (sl x) (sl y))) (FP.f2d (sl bd)) = FP.fcmp (FP.fsub (sl x) (sl y)) (sl bd) := fun x y => dc_fd (fs_nn (sl_fin _) (sl_fin _)) (sl_fin _).ne_nan
      have e2 : FP.dcmp (FP.f2d (sl n)) (FP.f2d (sl m)) = FP.fcmp (sl n) (sl m) := dc_fd (sl_fin _).ne_nan (sl_fin _).ne_nan
      rw [e2]
      rcases hc : FP.fcmp (sl n) (sl m) with _ | (_ | _ | _)
      · simp [e]
      · simp [e]
      · simp [e, fs_eq (sl_fin n) (sl_fin m) hc]
      · simp [e]
    rw [key]
theorem rd2_iff {nar n x : Int32} (hn : n ≠ gp) (hx : ¬ x = gp) : rd nar n 2 nar x = true ↔ FP.dcmp (vl nar n) (vl nar x) = some .gt := by rw [rd_val hn hx]; exact rl_2 _
theorem rd0_iff {nar n x : Int32} (hn : n ≠ gp) (hx : ¬ x = gp) : rd nar n 0 nar x = true ↔ FP.dcmp (vl nar n) (vl nar x) = some .lt := by rw [rd_val hn hx]; exact rl_0 _

set_option maxHeartbeats 4000000 in
set_option maxRecDepth 100000 in
theorem c_X2_push (l : Launch) (D : va_G) (cy : Nat → ClassId) (A : Nat → Prop) (α : AD) (cell : CF) (kL iL kA iA n : Nat) (f : Nat → Int32) (sz : Int32) (ne : ¬ (kA = kL ∧ iA = iL)) (hn0 : 1 ≤ n) (hn1 : n ≤ 20) (hL : cell kL iL = some (.inr (2, [.ref (α kA iA), .int sz]))) (hA : cell kA iA = some (.inl (cy 0, n, .inl f))) (v : Int32) : Met l yX2_push wsX2_push ({ frames := 0, cells := 0, slots := 0, locals := 0 } : Room) (va_Pc [.ref (α kL iL), .int v] (PB D cy A α cell)) (va_Qv (fun (u : Unit) => True) (fun u t => PW D A α (LW cell cy α kL iL kA iA n (shR f 0 n v) (if sz < nI n then sz + 1 else sz)) t.heap) A) 0 0 A := by
  refine Met.ofW (cc := cX2_push) (maxL := 3) (ret := none) (by decide) rfl ?_
  intro p e s m args below meth c s₁ B hml hv
  obtain ⟨rfl, hP, hK⟩ := hv
  have hx := B.exec
  have hb := B.bytes
  have hr := B.returns
  have hts := atoms_spec (ws := wsX2_push) B.pre
  have hown : s.vm.findClass RX2 = some m.cls := findClass_of_methodNamed B.named
  have hlocks := B.notSynchronized
  have hiX2 : ∀ w ∈ wsX20, w ∈ wsX2_push := by decide +kernel
  have hS : va_S A s.heap s.heap [] := va_S.rf
  have hl := lv_entry ([.ref (α kL iL), .int v]) (n := 3) (Nat.le_of_ble_eq_true rfl)
  rw [lg_entry_eq]
  generalize (lg_sl ([.ref (α kL iL), .int v]) ++ List.replicate (3 - (lg_sl ([.ref (α kL iL), .int v])).length) Slot.unset).toArray = ls at hl ⊢
  have hl : lv_has ls 3 [(0, .ref (α kL iL)), (1, .int v)] := hl
  skip
  obtain ⟨m9, hm9⟩ : ∃ m9, n = m9 + 1 := ⟨n - 1, by omega⟩
  have e9 : nI n - 1 = nI m9 := by rw [hm9]; exact nI_pred m9
  have L8 : ∀ (n9 : Nat) (k : Nat) (hn : k < n9) (hk : k < n) (ls : Array Slot) (hl : lv_has ls 3 [(0, .ref (α kL iL)), (1, .int v), (2, .int (nI k))]) (H : Heap) (locs : List Loc) (hP : PW D A α (LW cell cy α kL iL kA iA n (pR f 0 n k) sz) H) (hS : va_S A s.heap H locs), W p l e ({ frames := 0, cells := 0, slots := 0, locals := 0 } : Room) s m ([.ref (α kL iL), .int v] : List Value).toArray below meth c H locs 0 0 (MQ below (va_Qv (fun (u : Unit) => True) (fun u t => PW D A α (LW cell cy α kL iL kA iA n (shR f 0 n v) (if sz < nI n then sz + 1 else sz)) t.heap) A) ([.ref (α kL iL), .int v] : List Value).toArray s 0 0 A) (F0 m 8 ls []) := by
    intro n9
    induction n9 with
    | zero => intro k hn hk ls hl H locs hP hS; exact absurd hn (Nat.not_lt_zero _)
    | succ n9 ih =>
      intro k hn hk ls hl H locs hP hS
      cases k with
      | zero =>
        refine lv_iload_n hx hb dX2_push_8 rfl (lv_at hl 2 rfl) ?_
        refine lv_if_le (x := (nI 0)) (tgt := 32) hx hb dX2_push_9 (by decide) (fun c9 => ?_) (fun c => absurd (by decide) c)
        refine lv_aload_n hx hb dX2_push_32 rfl (lv_at hl 0 rfl) ?_
        refine pw_get (ref := "TripPanel$Latest") (C := RX2) (T := TX2) (N := 2) (ci := 2) (fs := [.ref (α kA iA), .int sz]) (v := .ref (α kA iA)) hx hb hts hiX2 hown hK hP lw_L rfl 0 (by decide) (by decide +kernel) rfl rfl dX2_push_33 ?_
        refine pw_alen (t0 := 0) (v := nI n) hx hb hK hP rfl (lw_A ne) rfl dX2_push_36 ?_
        refine lv_if_le (x := (nI n)) (tgt := 47) hx hb dX2_push_37 (by decide) (fun c => absurd c (nI_nle (by omega) (by omega))) (fun c37 => ?_)
        refine lv_aload_n hx hb dX2_push_40 rfl (lv_at hl 0 rfl) ?_
        refine pw_get (ref := "TripPanel$Latest") (C := RX2) (T := TX2) (N := 2) (ci := 2) (fs := [.ref (α kA iA), .int sz]) (v := .ref (α kA iA)) hx hb hts hiX2 hown hK hP lw_L rfl 0 (by decide) (by decide +kernel) rfl rfl dX2_push_41 ?_
        refine lv_iconst (v := 0) hx hb dX2_push_44 (by decide) ?_
        refine lv_iload_n hx hb dX2_push_45 rfl (lv_at hl 1 rfl) ?_
        refine pw_iast (n := n) (f := (pR f 0 n 0)) hx hb hK hP hS (lw_A ne) 0 rfl (by omega) (by omega) dX2_push_46 (fun H locs hP hz hS => ?_)
        rw [lw_setA ne] at hP
        refine lv_aload_n hx hb dX2_push_47 rfl (lv_at hl 0 rfl) ?_
        refine pw_get (ref := "TripPanel$Latest") (C := RX2) (T := TX2) (N := 2) (ci := 2) (fs := [.ref (α kA iA), .int sz]) (v := .int sz) hx hb hts hiX2 hown hK hP lw_L rfl 1 (by decide) (by decide +kernel) rfl rfl dX2_push_48 ?_
        refine lv_aload_n hx hb dX2_push_51 rfl (lv_at hl 0 rfl) ?_
        refine pw_get (ref := "TripPanel$Latest") (C := RX2) (T := TX2) (N := 2) (ci := 2) (fs := [.ref (α kA iA), .int sz]) (v := .ref (α kA iA)) hx hb hts hiX2 hown hK hP lw_L rfl 0 (by decide) (by decide +kernel) rfl rfl dX2_push_52 ?_
        refine pw_alen (t0 := 0) (v := nI n) hx hb hK hP rfl (lw_A ne) rfl dX2_push_55 ?_
        refine lv_icmp_ge (x := sz) (y := (nI n)) (tgt := 69) hx hb dX2_push_56 (by decide) (fun c56 => ?_) (fun c56 => ?_)
        · exact W.vret hx hb hr (fun t ht hW => ⟨⟨(), rfl, trivial, by dsimp only; rw [ht]; exact (by rw [shR_pR, if_neg (Int32.not_lt.mpr c56)]; exact hP)⟩, hS.F ht⟩) hS.2.2 dX2_push_69
        · refine lv_aload_n hx hb dX2_push_59 rfl (lv_at hl 0 rfl) ?_
          refine lv_dup hx hb dX2_push_60 rfl ?_
          refine pw_get (ref := "TripPanel$Latest") (C := RX2) (T := TX2) (N := 2) (ci := 2) (fs := [.ref (α kA iA), .int sz]) (v := .int sz) hx hb hts hiX2 hown hK hP lw_L rfl 1 (by decide) (by decide +kernel) rfl rfl dX2_push_61 ?_
          refine lv_iconst (v := 1) hx hb dX2_push_64 (by decide) ?_
          refine lv_iadd hx hb dX2_push_65 ?_
          refine pw_put (ref := "TripPanel$Latest") (C := RX2) (T := TX2) (N := 2) (ci := 2) (fs := [.ref (α kA iA), .int sz]) (v := .int (sz + 1)) (ty := .int) hx hb hts hiX2 tyX2 tyX2_ok nmX2 hown hK hP hS lw_L rfl 1 (by decide) (by decide +kernel) rfl rfl (by decide +kernel) rfl rfl (Nat.le_of_ble_eq_true rfl) dX2_push_66 (fun H locs hP hz hS => ?_)
          have hP : PW D A α (LW cell cy α kL iL kA iA n (upd (pR f 0 n 0) 0 v) (sz + 1)) H := by rw [← lw_setL (sz := sz)]; exact hP
          exact W.vret hx hb hr (fun t ht hW => ⟨⟨(), rfl, trivial, by dsimp only; rw [ht]; exact (by rw [shR_pR, if_pos (Int32.not_le.mp c56)]; exact hP)⟩, hS.F ht⟩) hS.2.2 dX2_push_69
      | succ k =>
        refine lv_iload_n hx hb dX2_push_8 rfl (lv_at hl 2 rfl) ?_
        refine lv_if_le (x := (nI (k + 1))) (tgt := 32) hx hb dX2_push_9 (by decide) (fun c => absurd c (nI_nle (Nat.succ_pos k) (by omega))) (fun c9 => ?_)
        refine lv_aload_n hx hb dX2_push_12 rfl (lv_at hl 0 rfl) ?_
        refine pw_get (ref := "TripPanel$Latest") (C := RX2) (T := TX2) (N := 2) (ci := 2) (fs := [.ref (α kA iA), .int sz]) (v := .ref (α kA iA)) hx hb hts hiX2 hown hK hP lw_L rfl 0 (by decide) (by decide +kernel) rfl rfl dX2_push_13 ?_
        refine lv_iload_n hx hb dX2_push_16 rfl (lv_at hl 2 rfl) ?_
        refine lv_aload_n hx hb dX2_push_17 rfl (lv_at hl 0 rfl) ?_
        refine pw_get (ref := "TripPanel$Latest") (C := RX2) (T := TX2) (N := 2) (ci := 2) (fs := [.ref (α kA iA), .int sz]) (v := .ref (α kA iA)) hx hb hts hiX2 hown hK hP lw_L rfl 0 (by decide) (by decide +kernel) rfl rfl dX2_push_18 ?_
        refine lv_iload_n hx hb dX2_push_21 rfl (lv_at hl 2 rfl) ?_
        refine lv_iconst (v := 1) hx hb dX2_push_22 (by decide) ?_
        refine lv_isub hx hb dX2_push_23 ?_
        refine pw_iald (n := n) (f := (pR f 0 n (k + 1))) hx hb hK hP (lw_A ne) k (nI_dec k) (by omega) (by omega) dX2_push_24 ?_
        refine pw_iast (n := n) (f := (pR f 0 n (k + 1))) hx hb hK hP hS (lw_A ne) (k + 1) rfl (by omega) (by omega) dX2_push_25 (fun H locs hP hz hS => ?_)
        rw [lw_setA ne] at hP
        refine lv_iinc (v := (nI k)) (lv' := [(2, .int (nI k)), (0, .ref (α kL iL)), (1, .int v)]) hx hb dX2_push_26 hl (k := 2) rfl (pk_m1 _) (by decide) rfl (fun ls hl => ?_)
        refine lv_goto (tgt := 8) hx hb dX2_push_29 (by decide) ?_
        exact ih k (by omega) (by omega) ls (lv_sub hl [1, 2, 0] rfl) _ _ (by rw [← pR_step0 f (n := n) (k := k) (by omega)]; exact hP) hS
  refine lv_aload_n hx hb dX2_push_0 rfl (lv_at hl 0 rfl) ?_
  refine pw_get (ref := "TripPanel$Latest") (C := RX2) (T := TX2) (N := 2) (ci := 2) (fs := [.ref (α kA iA), .int sz]) (v := .ref (α kA iA)) hx hb hts hiX2 hown hK hP hL rfl 0 (by decide) (by decide +kernel) rfl rfl dX2_push_1 ?_
  refine pw_alen (t0 := 0) (v := nI n) hx hb hK hP rfl hA rfl dX2_push_4 ?_
  refine lv_iconst (v := 1) hx hb dX2_push_5 (by decide) ?_
  refine lv_isub hx hb dX2_push_6 ?_
  refine lv_istore_n (lv' := [(2, .int ((nI n) - 1)), (0, .ref (α kL iL)), (1, .int v)]) hx hb dX2_push_7 rfl hl (by decide) rfl (fun ls hl => ?_)
  rw [e9] at hl
  exact L8 (m9 + 1) m9 (by omega) (by omega) ls (lv_sub hl [1, 2, 0] rfl) _ _ (by rw [hm9, pR_top, ← hm9, lw_init hL hA]; exact hP) hS

set_option maxHeartbeats 4000000 in
set_option maxRecDepth 100000 in
theorem c_X2_at (l : Launch) (D : va_G) (cy : Nat → ClassId) (A : Nat → Prop) (α : AD) (cell : CF) (kL iL kA iA n : Nat) (f : Nat → Int32) (sz : Int32) (ne : ¬ (kA = kL ∧ iA = iL)) (hn0 : 1 ≤ n) (hn1 : n ≤ 20) (hL : cell kL iL = some (.inr (2, [.ref (α kA iA), .int sz]))) (hA : cell kA iA = some (.inl (cy 0, n, .inl f))) (pp : Int32) : Met l yX2_at wsX2_at ({ frames := 0, cells := 0, slots := 0, locals := 0 } : Room) (va_Pc [.ref (α kL iL), .int pp] (PB D cy A α cell)) (vp_Si (fun r => r = if 0 ≤ pp ∧ pp < sz ∧ pp < nI n then f (cN pp) else -1)) 0 0 (fun _ => False) := by
  refine Met.ofW (cc := cX2_at) (maxL := 2) (ret := (some .int)) (by decide) rfl ?_
  intro p e s m args below meth c s₁ B hml hv
  obtain ⟨rfl, hP, hK⟩ := hv
  have hx := B.exec
  have hb := B.bytes
  have hr := B.returns
  have hts := atoms_spec (ws := wsX2_at) B.pre
  have hown : s.vm.findClass RX2 = some m.cls := findClass_of_methodNamed B.named
  have hlocks := B.notSynchronized
  have hiX2 : ∀ w ∈ wsX20, w ∈ wsX2_at := by decide +kernel
  have hl := lv_entry ([.ref (α kL iL), .int pp]) (n := 2) (Nat.le_of_ble_eq_true rfl)
  rw [lg_entry_eq]
  generalize (lg_sl ([.ref (α kL iL), .int pp]) ++ List.replicate (2 - (lg_sl ([.ref (α kL iL), .int pp])).length) Slot.unset).toArray = ls at hl ⊢
  have hl : lv_has ls 2 [(0, .ref (α kL iL)), (1, .int pp)] := hl
  refine lv_iload_n hx hb dX2_at_0 rfl (lv_at hl 1 rfl) ?_
  refine lv_if_lt (x := pp) (tgt := 30) hx hb dX2_at_1 (by decide) (fun c1 => ?_) (fun c1 => ?_)
  · refine lv_iconst (v := (-1)) hx hb dX2_at_30 (by decide) ?_
    exact W.iret (v := (-1)) hx hb hr (fun t ht hW => ⟨_, rfl, (by rw [if_neg (fun q => absurd q.1 (Int32.not_le.mpr c1))]), ht⟩) (fun q hq => absurd hq List.not_mem_nil) dX2_at_31
  · refine lv_iload_n hx hb dX2_at_4 rfl (lv_at hl 1 rfl) ?_
    refine lv_aload_n hx hb dX2_at_5 rfl (lv_at hl 0 rfl) ?_
    refine pw_get (ref := "TripPanel$Latest") (C := RX2) (T := TX2) (N := 2) (ci := 2) (fs := [.ref (α kA iA), .int sz]) (v := .int sz) hx hb hts hiX2 hown hK hP hL rfl 1 (by decide) (by decide +kernel) rfl rfl dX2_at_6 ?_
    refine lv_icmp_ge (x := pp) (y := sz) (tgt := 30) hx hb dX2_at_9 (by decide) (fun c9 => ?_) (fun c9 => ?_)
    · refine lv_iconst (v := (-1)) hx hb dX2_at_30 (by decide) ?_
      exact W.iret (v := (-1)) hx hb hr (fun t ht hW => ⟨_, rfl, (by rw [if_neg (fun q => absurd q.2.1 (Int32.not_lt.mpr c9))]), ht⟩) (fun q hq => absurd hq List.not_mem_nil) dX2_at_31
    · refine lv_iload_n hx hb dX2_at_12 rfl (lv_at hl 1 rfl) ?_
      refine lv_aload_n hx hb dX2_at_13 rfl (lv_at hl 0 rfl) ?_
      refine pw_get (ref := "TripPanel$Latest") (C := RX2) (T := TX2) (N := 2) (ci := 2) (fs := [.ref (α kA iA), .int sz]) (v := .ref (α kA iA)) hx hb hts hiX2 hown hK hP hL rfl 0 (by decide) (by decide +kernel) rfl rfl dX2_at_14 ?_
      refine pw_alen (t0 := 0) (v := nI n) hx hb hK hP rfl hA rfl dX2_at_17 ?_
      refine lv_icmp_ge (x := pp) (y := (nI n)) (tgt := 30) hx hb dX2_at_18 (by decide) (fun c18 => ?_) (fun c18 => ?_)
      · refine lv_iconst (v := (-1)) hx hb dX2_at_30 (by decide) ?_
        exact W.iret (v := (-1)) hx hb hr (fun t ht hW => ⟨_, rfl, (by rw [if_neg (fun q => absurd q.2.2 (Int32.not_lt.mpr c18))]), ht⟩) (fun q hq => absurd hq List.not_mem_nil) dX2_at_31
      · obtain ⟨pj, hpl, hpj⟩ := in_j (n := n) (x := pp) (by omega) ⟨Int32.not_lt.mp c1, Int32.not_le.mp c18⟩
        refine lv_aload_n hx hb dX2_at_21 rfl (lv_at hl 0 rfl) ?_
        refine pw_get (ref := "TripPanel$Latest") (C := RX2) (T := TX2) (N := 2) (ci := 2) (fs := [.ref (α kA iA), .int sz]) (v := .ref (α kA iA)) hx hb hts hiX2 hown hK hP hL rfl 0 (by decide) (by decide +kernel) rfl rfl dX2_at_22 ?_
        refine lv_iload_n hx hb dX2_at_25 rfl (lv_at hl 1 rfl) ?_
        refine pw_iald (n := n) (f := f) hx hb hK hP hA pj hpj hpl (by omega) dX2_at_26 ?_
        refine lv_goto (tgt := 31) hx hb dX2_at_27 (by decide) ?_
        exact W.iret (v := (f pj)) hx hb hr (fun t ht hW => ⟨_, rfl, (by rw [if_pos ⟨Int32.not_lt.mp c1, Int32.not_le.mp c9, Int32.not_le.mp c18⟩, cN_of hpj (by omega)]), ht⟩) (fun q hq => absurd hq List.not_mem_nil) dX2_at_31

set_option maxHeartbeats 4000000 in
set_option maxRecDepth 100000 in
theorem c_X2_empty (l : Launch) (D : va_G) (cy : Nat → ClassId) (A : Nat → Prop) (α : AD) (cell : CF) (kL iL kA iA n : Nat) (f : Nat → Int32) (sz : Int32) (ne : ¬ (kA = kL ∧ iA = iL)) (hn0 : 1 ≤ n) (hn1 : n ≤ 20) (hL : cell kL iL = some (.inr (2, [.ref (α kA iA), .int sz]))) (hA : cell kA iA = some (.inl (cy 0, n, .inl f))) : Met l yX2_empty wsX2_empty ({ frames := 0, cells := 0, slots := 0, locals := 0 } : Room) (va_Pc [.ref (α kL iL)] (PB D cy A α cell)) (va_Qv (fun (u : Unit) => True) (fun u t => PW D A α (LW cell cy α kL iL kA iA n f 0) t.heap) A) 0 0 A := by
  refine Met.ofW (cc := cX2_empty) (maxL := 1) (ret := none) (by decide) rfl ?_
  intro p e s m args below meth c s₁ B hml hv
  obtain ⟨rfl, hP, hK⟩ := hv
  have hx := B.exec
  have hb := B.bytes
  have hr := B.returns
  have hts := atoms_spec (ws := wsX2_empty) B.pre
  have hown : s.vm.findClass RX2 = some m.cls := findClass_of_methodNamed B.named
  have hlocks := B.notSynchronized
  have hiX2 : ∀ w ∈ wsX20, w ∈ wsX2_empty := by decide +kernel
  have hS : va_S A s.heap s.heap [] := va_S.rf
  have hl := lv_entry ([.ref (α kL iL)]) (n := 1) (Nat.le_of_ble_eq_true rfl)
  rw [lg_entry_eq]
  generalize (lg_sl ([.ref (α kL iL)]) ++ List.replicate (1 - (lg_sl ([.ref (α kL iL)])).length) Slot.unset).toArray = ls at hl ⊢
  have hl : lv_has ls 1 [(0, .ref (α kL iL))] := hl
  skip
  refine lv_aload_n hx hb dX2_empty_0 rfl (lv_at hl 0 rfl) ?_
  refine lv_iconst (v := 0) hx hb dX2_empty_1 (by decide) ?_
  refine pw_put (ref := "TripPanel$Latest") (C := RX2) (T := TX2) (N := 2) (ci := 2) (fs := [.ref (α kA iA), .int sz]) (v := .int 0) (ty := .int) hx hb hts hiX2 tyX2 tyX2_ok nmX2 hown hK hP hS hL rfl 1 (by decide) (by decide +kernel) rfl rfl (by decide +kernel) rfl rfl (Nat.le_of_ble_eq_true rfl) dX2_empty_2 (fun H locs hP hz hS => ?_)
  have hP : PW D A α (LW cell cy α kL iL kA iA n f 0) H := by rw [← lw_setL (sz := sz), lw_init hL hA]; exact hP
  exact W.vret hx hb hr (fun t ht hW => ⟨⟨(), rfl, trivial, by dsimp only; rw [ht]; exact hP⟩, hS.F ht⟩) hS.2.2 dX2_empty_5

set_option maxHeartbeats 4000000 in
set_option maxRecDepth 100000 in
theorem c_X1_valueOf (l : Launch) (D : va_G) (cy : Nat → ClassId) (A : Nat → Prop) (α : AD) (σ : SG) (g : Nat) (hg : g < 16) (hm : σ 0 g ≠ 0) (n : Int32) : Met l yX1_valueOf wsX1_valueOf ({ frames := 0, cells := 0, slots := 0, locals := 0 } : Room) (va_Pc [.ref (α 10 g), .int n] (PB D cy A α (CC cy σ α))) (vp_Sd (fun r => r = vl (σ 1 g) n)) 0 0 (fun _ => False) := by
  refine Met.ofW (cc := cX1_valueOf) (maxL := 2) (ret := (some .double)) (by decide) rfl ?_
  intro p e s m args below meth c s₁ B hml hv
  obtain ⟨rfl, hP, hK⟩ := hv
  have hx := B.exec
  have hb := B.bytes
  have hr := B.returns
  have hts := atoms_spec (ws := wsX1_valueOf) B.pre
  have hown : s.vm.findClass RX1 = some m.cls := findClass_of_methodNamed B.named
  have hlocks := B.notSynchronized
  have hiX1 : ∀ w ∈ wsX10, w ∈ wsX1_valueOf := by decide +kernel
  have hl := lv_entry ([.ref (α 10 g), .int n]) (n := 2) (Nat.le_of_ble_eq_true rfl)
  rw [lg_entry_eq]
  generalize (lg_sl ([.ref (α 10 g), .int n]) ++ List.replicate (2 - (lg_sl ([.ref (α 10 g), .int n])).length) Slot.unset).toArray = ls at hl ⊢
  have hl : lv_has ls 2 [(0, .ref (α 10 g)), (1, .int n)] := hl
  refine lv_aload_n hx hb dX1_valueOf_0 rfl (lv_at hl 0 rfl) ?_
  refine pw_get (ref := "TripPanel$Gauge") (C := RX1) (T := TX1) (N := 9) (ci := 1) (fs := (fsG σ α g)) (v := .int (σ 1 g)) hx hb hts hiX1 hown hK hP (cc_10 hg hm) rfl 0 (by decide) (by decide +kernel) rfl rfl dX1_valueOf_1 ?_
  refine lv_if_eq (x := (σ 1 g)) (tgt := 14) hx hb dX1_valueOf_4 (by decide) (fun c4 => ?_) (fun c4 => ?_)
  · refine lv_iload_n hx hb dX1_valueOf_14 rfl (lv_at hl 1 rfl) ?_
    refine lv_i2d hx hb dX1_valueOf_15 ?_
    refine lv_ldc2d hx hb hown (hts (.constantDouble RX1 94 (4652007308841189376)) (by decide +kernel)) dX1_valueOf_16 ?_
    refine lv_ddiv hx hb dX1_valueOf_19 (n64_wd n) ?_
    exact W.dret (v := (wd n)) hx hb hr (fun t ht hW => ⟨_, rfl, (by rw [vl_0 c4]), ht⟩) (fun q hq => absurd hq List.not_mem_nil) dX1_valueOf_20
  · refine lv_iload_n hx hb dX1_valueOf_7 rfl (lv_at hl 1 rfl) ?_
    refine lv_i2f hx hb dX1_valueOf_8 ?_
    refine lv_ldcf hx hb hown (hts (.constantFloat RX1 93 (1148846080)) (by decide +kernel)) dX1_valueOf_9 ?_
    refine lv_fdiv hx hb dX1_valueOf_11 (n32_sl n) ?_
    refine lv_f2d hx hb dX1_valueOf_12 (n64_sl n) ?_
    exact W.dret (v := (FP.f2d (sl n))) hx hb hr (fun t ht hW => ⟨_, rfl, (by rw [vl_1 c4]), ht⟩) (fun q hq => absurd hq List.not_mem_nil) dX1_valueOf_13

set_option maxHeartbeats 4000000 in
set_option maxRecDepth 100000 in
theorem c_X1_compares (l : Launch) (a : UInt64) (rel : Int32) (b : UInt64) (hrel : isRel rel) : Met l yX1_compares wsX1_compares ({ frames := 0, cells := 0, slots := 0, locals := 0 } : Room) (va_Pc [.double a, .int rel, .double b] (fun _ => True)) (vp_Si (fun r => bq r (rl rel (FP.dcmp a b) = true))) 0 0 (fun _ => False) := by
  refine Met.ofW (cc := cX1_compares) (maxL := 5) (ret := (some .boolean)) (by decide) rfl ?_
  intro p e s m args below meth c s₁ B hml hv
  obtain ⟨rfl, -⟩ := hv
  have hx := B.exec
  have hb := B.bytes
  have hr := B.returns
  have hts := atoms_spec (ws := wsX1_compares) B.pre
  have hown : s.vm.findClass RX1 = some m.cls := findClass_of_methodNamed B.named
  have hlocks := B.notSynchronized
  have hl := lv_entry ([.double a, .int rel, .double b]) (n := 5) (Nat.le_of_ble_eq_true rfl)
  rw [lg_entry_eq]
  generalize (lg_sl ([.double a, .int rel, .double b]) ++ List.replicate (5 - (lg_sl ([.double a, .int rel, .double b])).length) Slot.unset).toArray = ls at hl ⊢
  have hl : lv_has ls 5 [(0, .double a), (2, .int rel), (3, .double b)] := hl
  rcases hrel with rfl | rfl | rfl | rfl | rfl | rfl
  · have hl : lv_has ls 5 [(0, .double a), (2, .int 0), (3, .double b)] := hl
    refine lv_iload_n hx hb dX1_compares_0 rfl (lv_at hl 1 rfl) ?_
    refine lv_tableIn (tgt := 36) hx hb dX1_compares_1 (by decide) (by decide) rfl (by decide) ?_
    refine lv_dload_n hx hb dX1_compares_36 rfl (lv_at hl 0 rfl) ?_
    refine lv_dload_n hx hb dX1_compares_37 rfl (lv_at hl 2 rfl) ?_
    refine lv_dcmp hx hb dX1_compares_38 ?_
    refine lv_if_ge (x := (Op.cmpValue (FP.dcmp a b) CmpOp.g)) (tgt := 46) hx hb dX1_compares_39 (by decide) (fun c39 => ?_) (fun c39 => ?_)
    · rw [cvg_ge] at c39
      refine lv_iconst (v := 0) hx hb dX1_compares_46 (by decide) ?_
      exact W.zret (v := 0) hx hb hr rfl (fun t ht hW => ⟨_, rfl, bq_f (fun h => absurd ((rl_0 _).mp h) c39), ht⟩) (fun q hq => absurd hq List.not_mem_nil) dX1_compares_47
    · rw [cvg_ge] at c39
      refine lv_iconst (v := 1) hx hb dX1_compares_42 (by decide) ?_
      refine lv_goto (tgt := 47) hx hb dX1_compares_43 (by decide) ?_
      exact W.zret (v := 1) hx hb hr rfl (fun t ht hW => ⟨_, rfl, bq_t ((rl_0 _).mpr (Classical.not_not.mp c39)), ht⟩) (fun q hq => absurd hq List.not_mem_nil) dX1_compares_47
  · have hl : lv_has ls 5 [(0, .double a), (2, .int 1), (3, .double b)] := hl
    refine lv_iload_n hx hb dX1_compares_0 rfl (lv_at hl 1 rfl) ?_
    refine lv_tableIn (tgt := 48) hx hb dX1_compares_1 (by decide) (by decide) rfl (by decide) ?_
    refine lv_dload_n hx hb dX1_compares_48 rfl (lv_at hl 0 rfl) ?_
    refine lv_dload_n hx hb dX1_compares_49 rfl (lv_at hl 2 rfl) ?_
    refine lv_dcmp hx hb dX1_compares_50 ?_
    refine lv_if_gt (x := (Op.cmpValue (FP.dcmp a b) CmpOp.g)) (tgt := 58) hx hb dX1_compares_51 (by decide) (fun c51 => ?_) (fun c51 => ?_)
    · rw [cvg_gt] at c51
      refine lv_iconst (v := 0) hx hb dX1_compares_58 (by decide) ?_
      exact W.zret (v := 0) hx hb hr rfl (fun t ht hW => ⟨_, rfl, bq_f (fun h => absurd ((rl_1 _).mp h) c51), ht⟩) (fun q hq => absurd hq List.not_mem_nil) dX1_compares_59
    · rw [cvg_gt] at c51
      refine lv_iconst (v := 1) hx hb dX1_compares_54 (by decide) ?_
      refine lv_goto (tgt := 59) hx hb dX1_compares_55 (by decide) ?_
      exact W.zret (v := 1) hx hb hr rfl (fun t ht hW => ⟨_, rfl, bq_t ((rl_1 _).mpr (Classical.not_not.mp c51)), ht⟩) (fun q hq => absurd hq List.not_mem_nil) dX1_compares_59
  · have hl : lv_has ls 5 [(0, .double a), (2, .int 2), (3, .double b)] := hl
    refine lv_iload_n hx hb dX1_compares_0 rfl (lv_at hl 1 rfl) ?_
    refine lv_tableIn (tgt := 60) hx hb dX1_compares_1 (by decide) (by decide) rfl (by decide) ?_
    refine lv_dload_n hx hb dX1_compares_60 rfl (lv_at hl 0 rfl) ?_
    refine lv_dload_n hx hb dX1_compares_61 rfl (lv_at hl 2 rfl) ?_
    refine lv_dcmp hx hb dX1_compares_62 ?_
    refine lv_if_le (x := (Op.cmpValue (FP.dcmp a b) CmpOp.l)) (tgt := 70) hx hb dX1_compares_63 (by decide) (fun c63 => ?_) (fun c63 => ?_)
    · rw [cvl_le] at c63
      refine lv_iconst (v := 0) hx hb dX1_compares_70 (by decide) ?_
      exact W.zret (v := 0) hx hb hr rfl (fun t ht hW => ⟨_, rfl, bq_f (fun h => absurd ((rl_2 _).mp h) c63), ht⟩) (fun q hq => absurd hq List.not_mem_nil) dX1_compares_71
    · rw [cvl_le] at c63
      refine lv_iconst (v := 1) hx hb dX1_compares_66 (by decide) ?_
      refine lv_goto (tgt := 71) hx hb dX1_compares_67 (by decide) ?_
      exact W.zret (v := 1) hx hb hr rfl (fun t ht hW => ⟨_, rfl, bq_t ((rl_2 _).mpr (Classical.not_not.mp c63)), ht⟩) (fun q hq => absurd hq List.not_mem_nil) dX1_compares_71
  · have hl : lv_has ls 5 [(0, .double a), (2, .int 3), (3, .double b)] := hl
    refine lv_iload_n hx hb dX1_compares_0 rfl (lv_at hl 1 rfl) ?_
    refine lv_tableIn (tgt := 72) hx hb dX1_compares_1 (by decide) (by decide) rfl (by decide) ?_
    refine lv_dload_n hx hb dX1_compares_72 rfl (lv_at hl 0 rfl) ?_
    refine lv_dload_n hx hb dX1_compares_73 rfl (lv_at hl 2 rfl) ?_
    refine lv_dcmp hx hb dX1_compares_74 ?_
    refine lv_if_lt (x := (Op.cmpValue (FP.dcmp a b) CmpOp.l)) (tgt := 82) hx hb dX1_compares_75 (by decide) (fun c75 => ?_) (fun c75 => ?_)
    · rw [cvl_lt] at c75
      refine lv_iconst (v := 0) hx hb dX1_compares_82 (by decide) ?_
      exact W.zret (v := 0) hx hb hr rfl (fun t ht hW => ⟨_, rfl, bq_f (fun h => absurd ((rl_3 _).mp h) c75), ht⟩) (fun q hq => absurd hq List.not_mem_nil) dX1_compares_83
    · rw [cvl_lt] at c75
      refine lv_iconst (v := 1) hx hb dX1_compares_78 (by decide) ?_
      refine lv_goto (tgt := 83) hx hb dX1_compares_79 (by decide) ?_
      exact W.zret (v := 1) hx hb hr rfl (fun t ht hW => ⟨_, rfl, bq_t ((rl_3 _).mpr (Classical.not_not.mp c75)), ht⟩) (fun q hq => absurd hq List.not_mem_nil) dX1_compares_83
  · have hl : lv_has ls 5 [(0, .double a), (2, .int 4), (3, .double b)] := hl
    refine lv_iload_n hx hb dX1_compares_0 rfl (lv_at hl 1 rfl) ?_
    refine lv_tableIn (tgt := 84) hx hb dX1_compares_1 (by decide) (by decide) rfl (by decide) ?_
    refine lv_dload_n hx hb dX1_compares_84 rfl (lv_at hl 0 rfl) ?_
    refine lv_dload_n hx hb dX1_compares_85 rfl (lv_at hl 2 rfl) ?_
    refine lv_dcmp hx hb dX1_compares_86 ?_
    refine lv_if_ne (x := (Op.cmpValue (FP.dcmp a b) CmpOp.l)) (tgt := 94) hx hb dX1_compares_87 (by decide) (fun c87 => ?_) (fun c87 => ?_)
    · rw [cvl_eq] at c87
      refine lv_iconst (v := 0) hx hb dX1_compares_94 (by decide) ?_
      exact W.zret (v := 0) hx hb hr rfl (fun t ht hW => ⟨_, rfl, bq_f (fun h => absurd ((rl_4 _).mp h) c87), ht⟩) (fun q hq => absurd hq List.not_mem_nil) dX1_compares_95
    · rw [cvl_eq] at c87
      refine lv_iconst (v := 1) hx hb dX1_compares_90 (by decide) ?_
      refine lv_goto (tgt := 95) hx hb dX1_compares_91 (by decide) ?_
      exact W.zret (v := 1) hx hb hr rfl (fun t ht hW => ⟨_, rfl, bq_t ((rl_4 _).mpr c87), ht⟩) (fun q hq => absurd hq List.not_mem_nil) dX1_compares_95
  · have hl : lv_has ls 5 [(0, .double a), (2, .int 5), (3, .double b)] := hl
    refine lv_iload_n hx hb dX1_compares_0 rfl (lv_at hl 1 rfl) ?_
    refine lv_tableOut (tgt := 96) hx hb dX1_compares_1 (by decide) (by decide) ?_
    refine lv_dload_n hx hb dX1_compares_96 rfl (lv_at hl 0 rfl) ?_
    refine lv_dload_n hx hb dX1_compares_97 rfl (lv_at hl 2 rfl) ?_
    refine lv_dcmp hx hb dX1_compares_98 ?_
    refine lv_if_eq (x := (Op.cmpValue (FP.dcmp a b) CmpOp.l)) (tgt := 106) hx hb dX1_compares_99 (by decide) (fun c99 => ?_) (fun c99 => ?_)
    · rw [cvl_eq] at c99
      refine lv_iconst (v := 0) hx hb dX1_compares_106 (by decide) ?_
      exact W.zret (v := 0) hx hb hr rfl (fun t ht hW => ⟨_, rfl, bq_f (fun h => absurd ((rl_5 _).mp h) (not_not_intro c99)), ht⟩) (fun q hq => absurd hq List.not_mem_nil) dX1_compares_107
    · rw [cvl_eq] at c99
      refine lv_iconst (v := 1) hx hb dX1_compares_102 (by decide) ?_
      refine lv_goto (tgt := 107) hx hb dX1_compares_103 (by decide) ?_
      exact W.zret (v := 1) hx hb hr rfl (fun t ht hW => ⟨_, rfl, bq_t ((rl_5 _).mpr c99), ht⟩) (fun q hq => absurd hq List.not_mem_nil) dX1_compares_107

set_option maxHeartbeats 4000000 in
set_option maxRecDepth 100000 in
theorem c_X1_hasValue (l : Launch) (D : va_G) (cy : Nat → ClassId) (A : Nat → Prop) (α : AD) (σ : SG) (g : Nat) (hg : g < 16) (hm : σ 0 g ≠ 0) : Met l yX1_hasValue wsX1_hasValue ({ frames := 0, cells := 0, slots := 0, locals := 0 } : Room) (va_Pc [.ref (α 10 g)] (PB D cy A α (CC cy σ α))) (vp_Si (fun r => bq r (σ 2 g ≠ gp))) 0 0 (fun _ => False) := by
  refine Met.ofW (cc := cX1_hasValue) (maxL := 1) (ret := (some .boolean)) (by decide) rfl ?_
  intro p e s m args below meth c s₁ B hml hv
  obtain ⟨rfl, hP, hK⟩ := hv
  have hx := B.exec
  have hb := B.bytes
  have hr := B.returns
  have hts := atoms_spec (ws := wsX1_hasValue) B.pre
  have hown : s.vm.findClass RX1 = some m.cls := findClass_of_methodNamed B.named
  have hlocks := B.notSynchronized
  have hiX1 : ∀ w ∈ wsX10, w ∈ wsX1_hasValue := by decide +kernel
  have hl := lv_entry ([.ref (α 10 g)]) (n := 1) (Nat.le_of_ble_eq_true rfl)
  rw [lg_entry_eq]
  generalize (lg_sl ([.ref (α 10 g)]) ++ List.replicate (1 - (lg_sl ([.ref (α 10 g)])).length) Slot.unset).toArray = ls at hl ⊢
  have hl : lv_has ls 1 [(0, .ref (α 10 g))] := hl
  refine lv_aload_n hx hb dX1_hasValue_0 rfl (lv_at hl 0 rfl) ?_
  refine pw_get (ref := "TripPanel$Gauge") (C := RX1) (T := TX1) (N := 9) (ci := 1) (fs := (fsG σ α g)) (v := .int (σ 2 g)) hx hb hts hiX1 hown hK hP (cc_10 hg hm) rfl 2 (by decide) (by decide +kernel) rfl rfl dX1_hasValue_1 ?_
  refine lv_ldc hx hb hown (hts (.constant RX1 20 (2000000000)) (by decide +kernel)) dX1_hasValue_4 ?_
  refine lv_icmp_eq (x := (σ 2 g)) (y := 2000000000) (tgt := 13) hx hb dX1_hasValue_6 (by decide) (fun c6 => ?_) (fun c6 => ?_)
  · refine lv_iconst (v := 0) hx hb dX1_hasValue_13 (by decide) ?_
    exact W.zret (v := 0) hx hb hr rfl (fun t ht hW => ⟨_, rfl, bq_f (not_not_intro c6), ht⟩) (fun q hq => absurd hq List.not_mem_nil) dX1_hasValue_14
  · refine lv_iconst (v := 1) hx hb dX1_hasValue_9 (by decide) ?_
    refine lv_goto (tgt := 14) hx hb dX1_hasValue_10 (by decide) ?_
    exact W.zret (v := 1) hx hb hr rfl (fun t ht hW => ⟨_, rfl, bq_t c6, ht⟩) (fun q hq => absurd hq List.not_mem_nil) dX1_hasValue_14

set_option maxHeartbeats 4000000 in
set_option maxRecDepth 100000 in
theorem c_X1_hasLimit (l : Launch) (D : va_G) (cy : Nat → ClassId) (A : Nat → Prop) (α : AD) (σ : SG) (g : Nat) (hg : g < 16) (hm : σ 0 g ≠ 0) (b : Int32) : Met l yX1_hasLimit wsX1_hasLimit ({ frames := 0, cells := 0, slots := 0, locals := 0 } : Room) (va_Pc [.ref (α 10 g), .int b] (PB D cy A α (CC cy σ α))) (vp_Si (fun r => bq r ((if b = 0 then σ 3 g else σ 4 g) ≠ gp))) 0 0 (fun _ => False) := by
  refine Met.ofW (cc := cX1_hasLimit) (maxL := 2) (ret := (some .boolean)) (by decide) rfl ?_
  intro p e s m args below meth c s₁ B hml hv
  obtain ⟨rfl, hP, hK⟩ := hv
  have hx := B.exec
  have hb := B.bytes
  have hr := B.returns
  have hts := atoms_spec (ws := wsX1_hasLimit) B.pre
  have hown : s.vm.findClass RX1 = some m.cls := findClass_of_methodNamed B.named
  have hlocks := B.notSynchronized
  have hiX1 : ∀ w ∈ wsX10, w ∈ wsX1_hasLimit := by decide +kernel
  have hl := lv_entry ([.ref (α 10 g), .int b]) (n := 2) (Nat.le_of_ble_eq_true rfl)
  rw [lg_entry_eq]
  generalize (lg_sl ([.ref (α 10 g), .int b]) ++ List.replicate (2 - (lg_sl ([.ref (α 10 g), .int b])).length) Slot.unset).toArray = ls at hl ⊢
  have hl : lv_has ls 2 [(0, .ref (α 10 g)), (1, .int b)] := hl
  refine lv_iload_n hx hb dX1_hasLimit_0 rfl (lv_at hl 1 rfl) ?_
  refine lv_if_eq (x := b) (tgt := 11) hx hb dX1_hasLimit_1 (by decide) (fun c1 => ?_) (fun c1 => ?_)
  · refine lv_aload_n hx hb dX1_hasLimit_11 rfl (lv_at hl 0 rfl) ?_
    refine pw_get (ref := "TripPanel$Gauge") (C := RX1) (T := TX1) (N := 9) (ci := 1) (fs := (fsG σ α g)) (v := .int (σ 3 g)) hx hb hts hiX1 hown hK hP (cc_10 hg hm) rfl 3 (by decide) (by decide +kernel) rfl rfl dX1_hasLimit_12 ?_
    refine lv_ldc hx hb hown (hts (.constant RX1 20 (2000000000)) (by decide +kernel)) dX1_hasLimit_15 ?_
    refine lv_icmp_eq (x := (σ 3 g)) (y := 2000000000) (tgt := 24) hx hb dX1_hasLimit_17 (by decide) (fun c17 => ?_) (fun c17 => ?_)
    · refine lv_iconst (v := 0) hx hb dX1_hasLimit_24 (by decide) ?_
      exact W.zret (v := 0) hx hb hr rfl (fun t ht hW => ⟨_, rfl, bq_f (by rw [if_pos c1]; exact not_not_intro c17), ht⟩) (fun q hq => absurd hq List.not_mem_nil) dX1_hasLimit_25
    · refine lv_iconst (v := 1) hx hb dX1_hasLimit_20 (by decide) ?_
      refine lv_goto (tgt := 25) hx hb dX1_hasLimit_21 (by decide) ?_
      exact W.zret (v := 1) hx hb hr rfl (fun t ht hW => ⟨_, rfl, bq_t (by rw [if_pos c1]; exact c17), ht⟩) (fun q hq => absurd hq List.not_mem_nil) dX1_hasLimit_25
  · refine lv_aload_n hx hb dX1_hasLimit_4 rfl (lv_at hl 0 rfl) ?_
    refine pw_get (ref := "TripPanel$Gauge") (C := RX1) (T := TX1) (N := 9) (ci := 1) (fs := (fsG σ α g)) (v := .int (σ 4 g)) hx hb hts hiX1 hown hK hP (cc_10 hg hm) rfl 4 (by decide) (by decide +kernel) rfl rfl dX1_hasLimit_5 ?_
    refine lv_goto (tgt := 15) hx hb dX1_hasLimit_8 (by decide) ?_
    refine lv_ldc hx hb hown (hts (.constant RX1 20 (2000000000)) (by decide +kernel)) dX1_hasLimit_15 ?_
    refine lv_icmp_eq (x := (σ 4 g)) (y := 2000000000) (tgt := 24) hx hb dX1_hasLimit_17 (by decide) (fun c17 => ?_) (fun c17 => ?_)
    · refine lv_iconst (v := 0) hx hb dX1_hasLimit_24 (by decide) ?_
      exact W.zret (v := 0) hx hb hr rfl (fun t ht hW => ⟨_, rfl, bq_f (by rw [if_neg c1]; exact not_not_intro c17), ht⟩) (fun q hq => absurd hq List.not_mem_nil) dX1_hasLimit_25
    · refine lv_iconst (v := 1) hx hb dX1_hasLimit_20 (by decide) ?_
      refine lv_goto (tgt := 25) hx hb dX1_hasLimit_21 (by decide) ?_
      exact W.zret (v := 1) hx hb hr rfl (fun t ht hW => ⟨_, rfl, bq_t (by rw [if_neg c1]; exact c17), ht⟩) (fun q hq => absurd hq List.not_mem_nil) dX1_hasLimit_25

set_option maxHeartbeats 4000000 in
set_option maxRecDepth 100000 in
theorem c_X1_putLimit (l : Launch) (D : va_G) (cy : Nat → ClassId) (A : Nat → Prop) (α : AD) (σ : SG) (g : Nat) (hg : g < 16) (hm : σ 0 g ≠ 0) (b n : Int32) : Met l yX1_putLimit wsX1_putLimit ({ frames := 0, cells := 0, slots := 0, locals := 0 } : Room) (va_Pc [.ref (α 10 g), .int b, .int n] (PB D cy A α (CC cy σ α))) (va_Qv (fun (u : Unit) => True) (fun u t => PW D A α (CC cy (if b = 0 then st σ 3 g n else st σ 4 g n) α) t.heap) A) 0 0 A := by
  refine Met.ofW (cc := cX1_putLimit) (maxL := 3) (ret := none) (by decide) rfl ?_
  intro p e s m args below meth c s₁ B hml hv
  obtain ⟨rfl, hP, hK⟩ := hv
  have hx := B.exec
  have hb := B.bytes
  have hr := B.returns
  have hts := atoms_spec (ws := wsX1_putLimit) B.pre
  have hown : s.vm.findClass RX1 = some m.cls := findClass_of_methodNamed B.named
  have hlocks := B.notSynchronized
  have hiX1 : ∀ w ∈ wsX10, w ∈ wsX1_putLimit := by decide +kernel
  have hS : va_S A s.heap s.heap [] := va_S.rf
  have hl := lv_entry ([.ref (α 10 g), .int b, .int n]) (n := 3) (Nat.le_of_ble_eq_true rfl)
  rw [lg_entry_eq]
  generalize (lg_sl ([.ref (α 10 g), .int b, .int n]) ++ List.replicate (3 - (lg_sl ([.ref (α 10 g), .int b, .int n])).length) Slot.unset).toArray = ls at hl ⊢
  have hl : lv_has ls 3 [(0, .ref (α 10 g)), (1, .int b), (2, .int n)] := hl
  skip
  refine lv_iload_n hx hb dX1_putLimit_0 rfl (lv_at hl 1 rfl) ?_
  refine lv_if_eq (x := b) (tgt := 12) hx hb dX1_putLimit_1 (by decide) (fun c1 => ?_) (fun c1 => ?_)
  · refine lv_aload_n hx hb dX1_putLimit_12 rfl (lv_at hl 0 rfl) ?_
    refine lv_iload_n hx hb dX1_putLimit_13 rfl (lv_at hl 2 rfl) ?_
    refine pw_put (ref := "TripPanel$Gauge") (C := RX1) (T := TX1) (N := 9) (ci := 1) (fs := (fsG σ α g)) (v := .int n) (ty := .int) hx hb hts hiX1 tyX1 tyX1_ok nmX1 hown hK hP hS (cc_10 hg hm) rfl 3 (by decide) (by decide +kernel) rfl rfl (by decide +kernel) rfl rfl (Nat.le_of_ble_eq_true rfl) dX1_putLimit_14 (fun H locs hP hz hS => ?_)
    rw [cc_g3 (σ := σ) hg hm] at hP
    exact W.vret hx hb hr (fun t ht hW => ⟨⟨(), rfl, trivial, by dsimp only; rw [ht]; exact (by rw [if_pos c1]; exact hP)⟩, hS.F ht⟩) hS.2.2 dX1_putLimit_17
  · refine lv_aload_n hx hb dX1_putLimit_4 rfl (lv_at hl 0 rfl) ?_
    refine lv_iload_n hx hb dX1_putLimit_5 rfl (lv_at hl 2 rfl) ?_
    refine pw_put (ref := "TripPanel$Gauge") (C := RX1) (T := TX1) (N := 9) (ci := 1) (fs := (fsG σ α g)) (v := .int n) (ty := .int) hx hb hts hiX1 tyX1 tyX1_ok nmX1 hown hK hP hS (cc_10 hg hm) rfl 4 (by decide) (by decide +kernel) rfl rfl (by decide +kernel) rfl rfl (Nat.le_of_ble_eq_true rfl) dX1_putLimit_6 (fun H locs hP hz hS => ?_)
    rw [cc_g4 (σ := σ) hg hm] at hP
    refine lv_goto (tgt := 17) hx hb dX1_putLimit_9 (by decide) ?_
    exact W.vret hx hb hr (fun t ht hW => ⟨⟨(), rfl, trivial, by dsimp only; rw [ht]; exact (by rw [if_neg c1]; exact hP)⟩, hS.F ht⟩) hS.2.2 dX1_putLimit_17
