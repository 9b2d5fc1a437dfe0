def pR (f : Nat → Int32) (b n k : Nat) : Nat → Int32 := fun i => if b + k < i ∧ i < b + n then f (i - 1) else f i
theorem pR_top (f : Nat → Int32) (b n : Nat) : pR f b (n + 1) n = f := by
  funext i; unfold pR; rw [if_neg (by omega)]
theorem pR_step (f : Nat → Int32) {b n k : Nat} (hk : k + 1 < n) : upd (pR f b n (k + 1)) (b + (k + 1)) (pR f b n (k + 1) (b + k)) = pR f b n k := by
  funext i
  unfold upd pR
  by_cases h : i = b + (k + 1)
  · rw [if_pos h, if_neg (by omega), if_pos (by omega), h]; rfl
  · rw [if_neg h]
    by_cases h2 : b + (k + 1) < i ∧ i < b + n
    · rw [if_pos h2, if_pos (by omega)]
    · rw [if_neg h2, if_neg (by omega)]
theorem pR_step0 (f : Nat → Int32) {n k : Nat} (hk : k + 1 < n) : upd (pR f 0 n (k + 1)) (k + 1) (pR f 0 n (k + 1) k) = pR f 0 n k := by
  have h := pR_step f (b := 0) hk
  rw [Nat.zero_add, Nat.zero_add] at h
  exact h
theorem shR_pR (f : Nat → Int32) (b n : Nat) (v : Int32) : shR f b n v = upd (pR f b n 0) b v := by
  funext i
  unfold upd pR shR
  by_cases h : i = b
  · rw [if_pos h, if_pos h]
  · rw [if_neg h, if_neg h]; rfl
theorem st_sr (σ : SG) (k a : Nat) (F : Nat → Int32) (v : Int32) : st (sr σ k F) k a v = sr σ k (upd F a v) := by
  funext x; unfold st sr; by_cases h : x = k
  · rw [if_pos h, if_pos h, if_pos rfl]
  · rw [if_neg h, if_neg h, if_neg h]
theorem sr_self (σ : SG) (k : Nat) : sr σ k (σ k) = σ := by
  funext x; unfold sr; by_cases h : x = k
  · rw [if_pos h, h]
  · rw [if_neg h]
theorem sh_top (σ : SG) (r b n : Nat) : sr σ r (pR (σ r) b (n + 1) n) = σ := by rw [pR_top, sr_self]
theorem sh_step (σ : SG) (r : Nat) {b n k : Nat} (hk : k + 1 < n) : st (sr σ r (pR (σ r) b n (k + 1))) r (b + (k + 1)) (pR (σ r) b n (k + 1) (b + k)) = sr σ r (pR (σ r) b n k) := by
  rw [st_sr, pR_step _ hk]
theorem ixm (q : Nat) {g : Int32} {j k : Nat} (hg : g = nI j) : nI q * g + nI k = nI (q * j + k) := by rw [hg, pk_mul, nI_add]
theorem ixz (q : Nat) {g : Int32} {j : Nat} (hg : g = nI j) : nI q * g = nI (q * j) := by rw [hg, pk_mul]
theorem ixp (q : Nat) {g : Int32} {j k : Nat} (hg : g = nI j) : nI q * g + nI (k + 1) - 1 = nI (q * j + k) := by
  rw [hg, pk_mul, nI_add, ← Nat.add_assoc]; exact nI_pred _
theorem nI_dec (k : Nat) : nI (k + 1) - 1 = nI k := nI_pred k
/-- rows that conditions and votes are read from -/
def sameH (τ σ : SG) : Prop := τ 1 = σ 1 ∧ τ 2 = σ 2 ∧ τ 12 = σ 12 ∧ τ 13 = σ 13 ∧ τ 14 = σ 14 ∧ τ 15 = σ 15 ∧ τ 16 = σ 16 ∧ τ 18 = σ 18 ∧ τ 19 = σ 19
theorem held_same {τ σ : SG} (h : sameH τ σ) (c : Nat) : held τ c = held σ c := by
  obtain ⟨h1, h2, h12, h13, h14, h15, h16, -, -⟩ := h
  simp only [held, cA, cB, h1, h2, h12, h13, h14, h15, h16]
theorem nowN_same {τ σ : SG} (h : sameH τ σ) (t : Nat) : ∀ k, nowN τ t k = nowN σ t k
  | 0 => rfl
  | k + 1 => by rw [nowN, nowN, nowN_same h t k, held_same h, h.2.2.2.2.2.2.2.2]
theorem now_same {τ σ : SG} (h : sameH τ σ) (t : Nat) : now τ t = now σ t := by rw [now, now, nowN_same h, h.2.2.2.2.2.2.2.1]
theorem fhN_same {τ σ : SG} (h : sameH τ σ) (t : Nat) : ∀ n k, fhN τ t n k = fhN σ t n k
  | 0, _ => rfl
  | n + 1, k => by rw [fhN, fhN, fhN_same h t n, held_same h, h.2.2.2.2.2.2.2.2]
theorem firstH_same {τ σ : SG} (h : sameH τ σ) (t : Nat) : firstH τ t = firstH σ t := by rw [firstH, firstH, fhN_same h, h.2.2.2.2.2.2.2.1]
theorem nowN_ex {σ : SG} {t : Nat} : ∀ n, nowN σ t n ≠ 0 → ∃ k, k < n ∧ held σ (cN (σ 19 (6 * t + k))) = true
  | 0, h => absurd rfl h
  | n + 1, h => by
    by_cases hh : held σ (cN (σ 19 (6 * t + n))) = true
    · exact ⟨n, Nat.lt_succ_self n, hh⟩
    · rw [nowN] at h
      have e : bI (held σ (cN (σ 19 (6 * t + n)))) = 0 := by rw [Bool.not_eq_true] at hh; rw [hh]; rfl
      rw [e, Int32.add_zero] at h
      obtain ⟨k, hk, hk2⟩ := nowN_ex n h
      exact ⟨k, Nat.lt_succ_of_lt hk, hk2⟩
theorem due_ex {σ : SG} {t np : Nat} (h18 : σ 18 t = nI np) (hnp : np ≤ 6) (hv : 1 ≤ σ 17 t) (h : ¬ now σ t < σ 17 t) : ∃ k, k < np ∧ held σ (cN (σ 19 (6 * t + k))) = true := by
  refine nowN_ex np (fun e => h ?_)
  have e2 : now σ t = 0 := by rw [now, cN_of h18 (by omega)]; exact e
  rw [e2]
  rw [Int32.le_iff_toInt_le] at hv
  rw [Int32.lt_iff_toInt_lt]
  exact Int.lt_of_lt_of_le (by decide) hv

set_option maxHeartbeats 4000000 in
set_option maxRecDepth 100000 in
theorem c_X5_noted (l : Launch) (D : va_G) (cy : Nat → ClassId) (A : Nat → Prop) (α : AD) (σ : SG) (g : Int32) (j : Nat) (hg : g = nI j) (hj : j < 16) : Met l yX5_noted wsX5_noted ({ frames := 0, cells := 0, slots := 0, locals := 0 } : Room) (va_Pc [.ref (α 0 0), .int g] (PB D cy A α (CR cy σ α))) (va_Qv (fun (u : Unit) => True) (fun u t => PW D A α (CR cy (noted σ j) α) t.heap) A) 0 0 A := by
  refine Met.ofW (cc := cX5_noted) (maxL := 3) (ret := none) (by decide) rfl ?_
  intro p e s m args below meth c s₁ B hml hv
  obtain ⟨rfl, hP, hK⟩ := hv
  have hx := B.exec
  have hb := B.bytes
  have hr := B.returns
  have hts := atoms_spec (ws := wsX5_noted) B.pre
  have hown : s.vm.findClass RX5 = some m.cls := findClass_of_methodNamed B.named
  have hlocks := B.notSynchronized
  have hiX5 : ∀ w ∈ wsX50, w ∈ wsX5_noted := by decide +kernel
  have hS : va_S A s.heap s.heap [] := va_S.rf
  have hl := lv_entry ([.ref (α 0 0), .int g]) (n := 3) (Nat.le_of_ble_eq_true rfl)
  rw [lg_entry_eq]
  generalize (lg_sl ([.ref (α 0 0), .int g]) ++ List.replicate (3 - (lg_sl ([.ref (α 0 0), .int g])).length) Slot.unset).toArray = ls at hl ⊢
  have hl : lv_has ls 3 [(0, .ref (α 0 0)), (1, .int g)] := hl
  skip
  skip
  have L3 : ∀ (n : Nat) (k : Nat) (hn : k < n) (hk : k < 12) (ls : Array Slot) (hl : lv_has ls 3 [(0, .ref (α 0 0)), (1, .int g), (2, .int (nI k))]) (H : Heap) (locs : List Loc) (hP : PW D A α (CR cy (sr σ 9 (pR (σ 9) (12 * j) 12 k)) α) H) (hS : va_S A s.heap H locs), W p l e ({ frames := 0, cells := 0, slots := 0, locals := 0 } : Room) s m ([.ref (α 0 0), .int g] : List Value).toArray below meth c H locs 0 0 (MQ below (va_Qv (fun (u : Unit) => True) (fun u t => PW D A α (CR cy (noted σ j) α) t.heap) A) ([.ref (α 0 0), .int g] : List Value).toArray s 0 0 A) (F0 m 3 ls []) := by
    intro n
    induction n with
    | zero => intro k hn hk ls hl H locs hP hS; exact absurd hn (Nat.not_lt_zero _)
    | succ n ih =>
      intro k hn hk ls hl H locs hP hS
      cases k with
      | zero =>
        refine lv_iload_n hx hb dX5_noted_3 rfl (lv_at hl 2 rfl) ?_
        refine lv_if_le (x := (nI 0)) (tgt := 37) hx hb dX5_noted_4 (by decide) (fun c4 => ?_) (fun c => absurd (by decide) c)
        refine lv_aload_n hx hb dX5_noted_37 rfl (lv_at hl 0 rfl) ?_
        refine rf_get (v := .ref (α 10 0)) hx hb hts hiX5 hown hK hP 9 (by decide) (by decide +kernel) rfl rfl dX5_noted_38 ?_
        refine lv_bipush (v := 12) hx hb dX5_noted_41 (by decide) ?_
        refine lv_iload_n hx hb dX5_noted_43 rfl (lv_at hl 1 rfl) ?_
        refine lv_imul hx hb dX5_noted_44 ?_
        refine lv_aload_n hx hb dX5_noted_45 rfl (lv_at hl 0 rfl) ?_
        refine rf_get (v := .ref (α 3 0)) hx hb hts hiX5 hown hK hP 2 (by decide) (by decide +kernel) rfl rfl dX5_noted_46 ?_
        refine lv_iload_n hx hb dX5_noted_49 rfl (lv_at hl 1 rfl) ?_
        refine rf_iald hx hb hK hP 2 (by decide) rfl j hg hj dX5_noted_50 ?_
        refine rf_iast hx hb hK hP hS 9 (by decide) rfl (12 * j) (ixz 12 hg) (show 12 * j < 192 by omega) dX5_noted_51 (fun H locs hP hz hS => ?_)
        refine lv_aload_n hx hb dX5_noted_52 rfl (lv_at hl 0 rfl) ?_
        refine rf_get (v := .ref (α 11 0)) hx hb hts hiX5 hown hK hP 10 (by decide) (by decide +kernel) rfl rfl dX5_noted_53 ?_
        refine lv_iload_n hx hb dX5_noted_56 rfl (lv_at hl 1 rfl) ?_
        refine lv_aload_n hx hb dX5_noted_57 rfl (lv_at hl 0 rfl) ?_
        refine rf_get (v := .ref (α 11 0)) hx hb hts hiX5 hown hK hP 10 (by decide) (by decide +kernel) rfl rfl dX5_noted_58 ?_
        refine lv_iload_n hx hb dX5_noted_61 rfl (lv_at hl 1 rfl) ?_
        refine rf_iald hx hb hK hP 10 (by decide) rfl j hg hj dX5_noted_62 ?_
        refine lv_bipush (v := 12) hx hb dX5_noted_63 (by decide) ?_
        refine lv_icmp_ge (x := (σ 10 j)) (y := 12) (tgt := 79) hx hb dX5_noted_65 (by decide) (fun c65 => ?_) (fun c65 => ?_)
        · refine lv_bipush (v := 12) hx hb dX5_noted_79 (by decide) ?_
          refine rf_iast hx hb hK hP hS 10 (by decide) rfl j hg hj dX5_noted_81 (fun H locs hP hz hS => ?_)
          exact W.vret hx hb hr (fun t ht hW => ⟨⟨(), rfl, trivial, by dsimp only; rw [ht]; exact (by have q : noted σ j = st (st (sr σ 9 (pR (σ 9) (12 * j) 12 0)) 9 (12 * j) (σ 2 j)) 10 j 12 := (by rw [noted, if_neg (Int32.not_lt.mpr c65), shR_pR, ← st_sr]); rw [q]; exact hP)⟩, hS.F ht⟩) hS.2.2 dX5_noted_82
        · refine lv_aload_n hx hb dX5_noted_68 rfl (lv_at hl 0 rfl) ?_
          refine rf_get (v := .ref (α 11 0)) hx hb hts hiX5 hown hK hP 10 (by decide) (by decide +kernel) rfl rfl dX5_noted_69 ?_
          refine lv_iload_n hx hb dX5_noted_72 rfl (lv_at hl 1 rfl) ?_
          refine rf_iald hx hb hK hP 10 (by decide) rfl j hg hj dX5_noted_73 ?_
          refine lv_iconst (v := 1) hx hb dX5_noted_74 (by decide) ?_
          refine lv_iadd hx hb dX5_noted_75 ?_
          refine lv_goto (tgt := 81) hx hb dX5_noted_76 (by decide) ?_
          refine rf_iast hx hb hK hP hS 10 (by decide) rfl j hg hj dX5_noted_81 (fun H locs hP hz hS => ?_)
          exact W.vret hx hb hr (fun t ht hW => ⟨⟨(), rfl, trivial, by dsimp only; rw [ht]; exact (by have q : noted σ j = st (st (sr σ 9 (pR (σ 9) (12 * j) 12 0)) 9 (12 * j) (σ 2 j)) 10 j ((σ 10 j) + 1) := (by rw [noted, if_pos (Int32.not_le.mp c65), shR_pR, ← st_sr]); rw [q]; exact hP)⟩, hS.F ht⟩) hS.2.2 dX5_noted_82
      | succ k =>
        refine lv_iload_n hx hb dX5_noted_3 rfl (lv_at hl 2 rfl) ?_
        refine lv_if_le (x := (nI (k + 1))) (tgt := 37) hx hb dX5_noted_4 (by decide) (fun c => absurd c (nI_nle (Nat.succ_pos k) (by omega))) (fun c4 => ?_)
        refine lv_aload_n hx hb dX5_noted_7 rfl (lv_at hl 0 rfl) ?_
        refine rf_get (v := .ref (α 10 0)) hx hb hts hiX5 hown hK hP 9 (by decide) (by decide +kernel) rfl rfl dX5_noted_8 ?_
        refine lv_bipush (v := 12) hx hb dX5_noted_11 (by decide) ?_
        refine lv_iload_n hx hb dX5_noted_13 rfl (lv_at hl 1 rfl) ?_
        refine lv_imul hx hb dX5_noted_14 ?_
        refine lv_iload_n hx hb dX5_noted_15 rfl (lv_at hl 2 rfl) ?_
        refine lv_iadd hx hb dX5_noted_16 ?_
        refine lv_aload_n hx hb dX5_noted_17 rfl (lv_at hl 0 rfl) ?_
        refine rf_get (v := .ref (α 10 0)) hx hb hts hiX5 hown hK hP 9 (by decide) (by decide +kernel) rfl rfl dX5_noted_18 ?_
        refine lv_bipush (v := 12) hx hb dX5_noted_21 (by decide) ?_
        refine lv_iload_n hx hb dX5_noted_23 rfl (lv_at hl 1 rfl) ?_
        refine lv_imul hx hb dX5_noted_24 ?_
        refine lv_iload_n hx hb dX5_noted_25 rfl (lv_at hl 2 rfl) ?_
        refine lv_iadd hx hb dX5_noted_26 ?_
        refine lv_iconst (v := 1) hx hb dX5_noted_27 (by decide) ?_
        refine lv_isub hx hb dX5_noted_28 ?_
        refine rf_iald hx hb hK hP 9 (by decide) rfl (12 * j + k) (ixp 12 hg) (show 12 * j + k < 192 by omega) dX5_noted_29 ?_
        refine rf_iast hx hb hK hP hS 9 (by decide) rfl (12 * j + (k + 1)) (ixm 12 hg) (show 12 * j + (k + 1) < 192 by omega) dX5_noted_30 (fun H locs hP hz hS => ?_)
        refine lv_iinc (v := (nI k)) (lv' := [(2, .int (nI k)), (0, .ref (α 0 0)), (1, .int g)]) hx hb dX5_noted_31 hl (k := 2) rfl (pk_m1 _) (by decide) rfl (fun ls hl => ?_)
        refine lv_goto (tgt := 3) hx hb dX5_noted_34 (by decide) ?_
        exact ih k (by omega) (by omega) ls (lv_sub hl [1, 2, 0] rfl) _ _ (by rw [← sh_step σ 9 (b := 12 * j) (n := 12) (k := k) (by omega)]; exact hP) hS
  refine lv_bipush (v := 11) hx hb dX5_noted_0 (by decide) ?_
  refine lv_istore_n (lv' := [(2, .int 11), (0, .ref (α 0 0)), (1, .int g)]) hx hb dX5_noted_2 rfl hl (by decide) rfl (fun ls hl => ?_)
  exact L3 12 11 (by decide) (by decide) ls (lv_sub hl [1, 2, 0] rfl) _ _ (by rw [sh_top σ 9 (12 * j) 11]; exact hP) hS

set_option maxHeartbeats 4000000 in
set_option maxRecDepth 100000 in
theorem c_X5_gap (l : Launch) (D : va_G) (cy : Nat → ClassId) (A : Nat → Prop) (α : AD) (σ : SG) (g : Int32) : Met l yX5_gap wsX5_gap ({ frames := 2, cells := 0, slots := 0, locals := 42 } : Room) (va_Pc [.ref (α 0 0), .int g] (PB D cy A α (CR cy σ α))) (va_Qi (fun (r : Int32) (u : Unit) => r = (F_gap σ g).1) (fun u t => PW D A α (CR cy (F_gap σ g).2 α) t.heap) A) 0 0 A := by
  refine Met.ofW (cc := cX5_gap) (maxL := 3) (ret := (some .int)) (by decide) rfl ?_
  intro p e s m args below meth c s₁ B hml hv
  obtain ⟨rfl, hP, hK⟩ := hv
  have hx := B.exec
  have hb := B.bytes
  have hr := B.returns
  have hts := atoms_spec (ws := wsX5_gap) B.pre
  have hown : s.vm.findClass RX5 = some m.cls := findClass_of_methodNamed B.named
  have hlocks := B.notSynchronized
  have hiX5 : ∀ w ∈ wsX50, w ∈ wsX5_gap := by decide +kernel
  have hS : va_S A s.heap s.heap [] := va_S.rf
  have hl := lv_entry ([.ref (α 0 0), .int g]) (n := 3) (Nat.le_of_ble_eq_true rfl)
  rw [lg_entry_eq]
  generalize (lg_sl ([.ref (α 0 0), .int g]) ++ List.replicate (3 - (lg_sl ([.ref (α 0 0), .int g])).length) Slot.unset).toArray = ls at hl ⊢
  have hl : lv_has ls 3 [(0, .ref (α 0 0)), (1, .int g)] := hl
  skip
  refine lv_aload_n hx hb dX5_gap_0 rfl (lv_at hl 0 rfl) ?_
  refine lv_iload_n hx hb dX5_gap_1 rfl (lv_at hl 1 rfl) ?_
  refine vp_callSi (W.runV (As := [.int g]) (rest := []) ⟨hx, hb, hml, hown, hts⟩ (c_X5_isGauge l D cy A α σ g) (cwV 1 hts gX5_gap_X5_isGauge rfl rfl rfl (by decide +kernel) ⟨Nat.le_of_ble_eq_true rfl, Nat.le_of_ble_eq_true rfl⟩) ⟨pb_blind, pw_recv hP hK cr_obj rfl, pb_pre hP hK⟩ rfl rfl hl.1 rfl (lv_room (Nat.le_of_ble_eq_true rfl)) dX5_gap_2 ⟨Nat.le_of_ble_eq_true rfl, Nat.le_of_ble_eq_true rfl⟩) (fun r hw => ?_)
  rcases hw with ⟨rfl, j2, hx3, hj4, hg5, hm6⟩ | ⟨rfl, h1⟩
  · refine lv_if_ne (x := 1) (tgt := 11) hx hb dX5_gap_5 (by decide) (fun c5 => ?_) (fun c => absurd c (by decide))
    refine lv_aload_n hx hb dX5_gap_11 rfl (lv_at hl 0 rfl) ?_
    refine rf_get (v := .ref (α 3 0)) hx hb hts hiX5 hown hK hP 2 (by decide) (by decide +kernel) rfl rfl dX5_gap_12 ?_
    refine lv_iload_n hx hb dX5_gap_15 rfl (lv_at hl 1 rfl) ?_
    refine rf_iald hx hb hK hP 2 (by decide) rfl j2 hg5 hj4 dX5_gap_16 ?_
    refine lv_ldc hx hb hown (hts (.constant RX5 103 (2000000000)) (by decide +kernel)) dX5_gap_17 ?_
    refine lv_icmp_ne (x := (σ 2 j2)) (y := 2000000000) (tgt := 26) hx hb dX5_gap_19 (by decide) (fun c19 => ?_) (fun c19 => ?_)
    · refine lv_iconst (v := 1) hx hb dX5_gap_26 (by decide) ?_
      refine lv_istore_n (lv' := [(2, .int 1), (0, .ref (α 0 0)), (1, .int g)]) hx hb dX5_gap_27 rfl hl (by decide) rfl (fun ls hl => ?_)
      refine lv_aload_n hx hb dX5_gap_28 rfl (lv_at hl 1 rfl) ?_
      refine rf_get (v := .ref (α 3 0)) hx hb hts hiX5 hown hK hP 2 (by decide) (by decide +kernel) rfl rfl dX5_gap_29 ?_
      refine lv_iload_n hx hb dX5_gap_32 rfl (lv_at hl 2 rfl) ?_
      refine lv_ldc hx hb hown (hts (.constant RX5 103 (2000000000)) (by decide +kernel)) dX5_gap_33 ?_
      refine rf_iast hx hb hK hP hS 2 (by decide) rfl j2 hg5 hj4 dX5_gap_35 (fun H locs hP hz hS => ?_)
      refine lv_aload_n hx hb dX5_gap_36 rfl (lv_at hl 1 rfl) ?_
      refine lv_iload_n hx hb dX5_gap_37 rfl (lv_at hl 2 rfl) ?_
      refine va_callv (va_runV (As := [.int g]) (rest := []) ⟨hx, hb, hml, hown, hts⟩ (c_X5_noted l D cy A α (st σ 2 j2 2000000000) g j2 hg5 hj4) (cwV 1 hts gX5_gap_X5_noted rfl rfl rfl (by decide +kernel) ⟨Nat.le_of_ble_eq_true rfl, Nat.le_of_ble_eq_true rfl⟩) ⟨pb_blind, pw_recv hP hK cr_obj rfl, pb_pre hP hK⟩ rfl rfl hl.1 rfl (lv_room (Nat.le_of_ble_eq_true rfl)) dX5_gap_38 ⟨Nat.le_of_ble_eq_true rfl, Nat.le_of_ble_eq_true rfl⟩) hS (fun _ _ h => h) (fun _ h => h) (fun u t H locs ht hvm hw hB hz1 hk1 hS => ?_)
      have hP := hB
      rw [ht] at hP
      refine W.cs (cells' := 0) (slots' := 0) rfl rfl ?_
      refine lv_iload_n hx hb dX5_gap_41 rfl (lv_at hl 0 rfl) ?_
      have eF : F_gap σ g = (1, (noted (st σ 2 j2 2000000000) j2)) := by simp [F_gap, hx3, c19]
      exact W.iret (v := 1) hx hb hr (fun t ht hW => ⟨⟨_, (), rfl, (by rw [eF]), by dsimp only; rw [ht]; exact (by rw [eF]; exact hP)⟩, hS.F ht⟩) hS.2.2 dX5_gap_42
    · refine lv_iconst (v := 0) hx hb dX5_gap_22 (by decide) ?_
      refine lv_goto (tgt := 27) hx hb dX5_gap_23 (by decide) ?_
      refine lv_istore_n (lv' := [(2, .int 0), (0, .ref (α 0 0)), (1, .int g)]) hx hb dX5_gap_27 rfl hl (by decide) rfl (fun ls hl => ?_)
      refine lv_aload_n hx hb dX5_gap_28 rfl (lv_at hl 1 rfl) ?_
      refine rf_get (v := .ref (α 3 0)) hx hb hts hiX5 hown hK hP 2 (by decide) (by decide +kernel) rfl rfl dX5_gap_29 ?_
      refine lv_iload_n hx hb dX5_gap_32 rfl (lv_at hl 2 rfl) ?_
      refine lv_ldc hx hb hown (hts (.constant RX5 103 (2000000000)) (by decide +kernel)) dX5_gap_33 ?_
      refine rf_iast hx hb hK hP hS 2 (by decide) rfl j2 hg5 hj4 dX5_gap_35 (fun H locs hP hz hS => ?_)
      refine lv_aload_n hx hb dX5_gap_36 rfl (lv_at hl 1 rfl) ?_
      refine lv_iload_n hx hb dX5_gap_37 rfl (lv_at hl 2 rfl) ?_
      refine va_callv (va_runV (As := [.int g]) (rest := []) ⟨hx, hb, hml, hown, hts⟩ (c_X5_noted l D cy A α (st σ 2 j2 2000000000) g j2 hg5 hj4) (cwV 1 hts gX5_gap_X5_noted rfl rfl rfl (by decide +kernel) ⟨Nat.le_of_ble_eq_true rfl, Nat.le_of_ble_eq_true rfl⟩) ⟨pb_blind, pw_recv hP hK cr_obj rfl, pb_pre hP hK⟩ rfl rfl hl.1 rfl (lv_room (Nat.le_of_ble_eq_true rfl)) dX5_gap_38 ⟨Nat.le_of_ble_eq_true rfl, Nat.le_of_ble_eq_true rfl⟩) hS (fun _ _ h => h) (fun _ h => h) (fun u t H locs ht hvm hw hB hz1 hk1 hS => ?_)
      have hP := hB
      rw [ht] at hP
      refine W.cs (cells' := 0) (slots' := 0) rfl rfl ?_
      refine lv_iload_n hx hb dX5_gap_41 rfl (lv_at hl 0 rfl) ?_
      have eF : F_gap σ g = (0, (noted (st σ 2 j2 2000000000) j2)) := by simp [F_gap, hx3, c19]
      exact W.iret (v := 0) hx hb hr (fun t ht hW => ⟨⟨_, (), rfl, (by rw [eF]), by dsimp only; rw [ht]; exact (by rw [eF]; exact hP)⟩, hS.F ht⟩) hS.2.2 dX5_gap_42
  · refine lv_if_ne (x := 0) (tgt := 11) hx hb dX5_gap_5 (by decide) (fun c => absurd (by decide) c) (fun c5 => ?_)
    refine lv_bipush (v := (-2)) hx hb dX5_gap_8 (by decide) ?_
    have eF : F_gap σ g = ((-2), σ) := by simp [F_gap, h1]
    exact W.iret (v := (-2)) hx hb hr (fun t ht hW => ⟨⟨_, (), rfl, (by rw [eF]), by dsimp only; rw [ht]; exact (by rw [eF]; exact hP)⟩, hS.F ht⟩) hS.2.2 dX5_gap_10

set_option maxHeartbeats 4000000 in
set_option maxRecDepth 100000 in
theorem c_X5_now (l : Launch) (D : va_G) (cy : Nat → ClassId) (A : Nat → Prop) (α : AD) (σ : SG) (ti : Int32) (i : Nat) (hti : ti = nI i) (hi : i < 8) (hok : okT σ i) (hC : ∀ c, c < 24 → σ 11 c ≠ 0 → okC σ c) : Met l yX5_now wsX5_now ({ frames := 4, cells := 0, slots := 0, locals := 91 } : Room) (va_Pc [.ref (α 0 0), .int ti] (PB D cy A α (CR cy σ α))) (vp_Si (fun r => r = now σ i)) 0 0 (fun _ => False) := by
  refine Met.ofW (cc := cX5_now) (maxL := 4) (ret := (some .int)) (by decide) rfl ?_
  intro p e s m args below meth c s₁ B hml hv
  obtain ⟨rfl, hP, hK⟩ := hv
  have hx := B.exec
  have hb := B.bytes
  have hr := B.returns
  have hts := atoms_spec (ws := wsX5_now) B.pre
  have hown : s.vm.findClass RX5 = some m.cls := findClass_of_methodNamed B.named
  have hlocks := B.notSynchronized
  have hiX5 : ∀ w ∈ wsX50, w ∈ wsX5_now := by decide +kernel
  have hl := lv_entry ([.ref (α 0 0), .int ti]) (n := 4) (Nat.le_of_ble_eq_true rfl)
  rw [lg_entry_eq]
  generalize (lg_sl ([.ref (α 0 0), .int ti]) ++ List.replicate (4 - (lg_sl ([.ref (α 0 0), .int ti])).length) Slot.unset).toArray = ls at hl ⊢
  have hl : lv_has ls 4 [(0, .ref (α 0 0)), (1, .int ti)] := hl
  obtain ⟨hv, np, hnp, h18, hpt⟩ := hok
  have L4 : ∀ (n : Nat) (k : Nat) (hn : np - k < n) (hk : k ≤ np) (ls : Array Slot) (hl : lv_has ls 4 [(0, .ref (α 0 0)), (1, .int ti), (2, .int (nowN σ i k)), (3, .int (nI k))]) , W p l e ({ frames := 4, cells := 0, slots := 0, locals := 91 } : Room) s m ([.ref (α 0 0), .int ti] : List Value).toArray below meth c s.heap [] 0 0 (MQ below (vp_Si (fun r => r = now σ i)) ([.ref (α 0 0), .int ti] : List Value).toArray s 0 0 (fun _ => False)) (F0 m 4 ls []) := by
    intro n
    induction n with
    | zero => intro k hn hk ls hl ; exact absurd hn (Nat.not_lt_zero _)
    | succ n ih =>
      intro k hn hk ls hl 
      refine lv_iload_n hx hb dX5_now_4 rfl (lv_at hl 3 rfl) ?_
      refine lv_aload_n hx hb dX5_now_5 rfl (lv_at hl 0 rfl) ?_
      refine rf_get (v := .ref (α 19 0)) hx hb hts hiX5 hown hK hP 18 (by decide) (by decide +kernel) rfl rfl dX5_now_6 ?_
      refine lv_iload_n hx hb dX5_now_9 rfl (lv_at hl 1 rfl) ?_
      refine rf_iald hx hb hK hP 18 (by decide) rfl i hti hi dX5_now_10 ?_
      refine lv_icmp_ge (x := (nI k)) (y := (σ 18 i)) (tgt := 46) hx hb dX5_now_11 (by decide) (fun c11 => ?_) (fun c11 => ?_)
      · have hkn : k = np := by rw [h18] at c11; exact Nat.le_antisymm hk (ige (by omega) (by omega) c11)
        refine lv_iload_n hx hb dX5_now_46 rfl (lv_at hl 2 rfl) ?_
        exact W.iret (v := (nowN σ i k)) hx hb hr (fun t ht hW => ⟨_, rfl, (by rw [now, cN_of h18 (by omega), hkn]), ht⟩) (fun q hq => absurd hq List.not_mem_nil) dX5_now_47
      · have hkn : k < np := by rw [h18] at c11; exact ilt (by omega) (by omega) c11
        obtain ⟨⟨cj, hcj, h19, h11⟩, h30⟩ := hpt k hkn
        refine lv_iload_n hx hb dX5_now_14 rfl (lv_at hl 2 rfl) ?_
        refine lv_aload_n hx hb dX5_now_15 rfl (lv_at hl 0 rfl) ?_
        refine lv_aload_n hx hb dX5_now_16 rfl (lv_at hl 0 rfl) ?_
        refine rf_get (v := .ref (α 20 0)) hx hb hts hiX5 hown hK hP 19 (by decide) (by decide +kernel) rfl rfl dX5_now_17 ?_
        refine lv_bipush (v := 6) hx hb dX5_now_20 (by decide) ?_
        refine lv_iload_n hx hb dX5_now_22 rfl (lv_at hl 1 rfl) ?_
        refine lv_imul hx hb dX5_now_23 ?_
        refine lv_iload_n hx hb dX5_now_24 rfl (lv_at hl 3 rfl) ?_
        refine lv_iadd hx hb dX5_now_25 ?_
        refine rf_iald hx hb hK hP 19 (by decide) rfl (6 * i + k) (ixm 6 hti) (show 6 * i + k < 48 by omega) dX5_now_26 ?_
        refine vp_callSi (W.runV (As := [.int (σ 19 (6 * i + k))]) (rest := [.int (nowN σ i k)]) ⟨hx, hb, hml, hown, hts⟩ (c_X5_isHeld l D cy A α σ (σ 19 (6 * i + k)) cj h19 hcj (hC cj hcj h11)) (cwV 1 hts gX5_now_X5_isHeld rfl rfl rfl (by decide +kernel) ⟨Nat.le_of_ble_eq_true rfl, Nat.le_of_ble_eq_true rfl⟩) ⟨pb_blind, pw_recv hP hK cr_obj rfl, pb_pre hP hK⟩ rfl rfl hl.1 rfl (lv_room (Nat.le_of_ble_eq_true rfl)) dX5_now_27 ⟨Nat.le_of_ble_eq_true rfl, Nat.le_of_ble_eq_true rfl⟩) (fun r hw => ?_)
        rcases hw with ⟨rfl, h1⟩ | ⟨rfl, h1⟩
        · refine lv_if_eq (x := 1) (tgt := 37) hx hb dX5_now_30 (by decide) (fun c => absurd c (by decide)) (fun c30 => ?_)
          refine lv_iconst (v := 1) hx hb dX5_now_33 (by decide) ?_
          refine lv_goto (tgt := 38) hx hb dX5_now_34 (by decide) ?_
          refine lv_iadd hx hb dX5_now_38 ?_
          refine lv_istore_n (lv' := [(2, .int ((nowN σ i k) + 1)), (0, .ref (α 0 0)), (1, .int ti), (3, .int (nI k))]) hx hb dX5_now_39 rfl hl (by decide) rfl (fun ls hl => ?_)
          refine lv_iinc (v := (nI (k + 1))) (lv' := [(3, .int (nI (k + 1))), (2, .int ((nowN σ i k) + 1)), (0, .ref (α 0 0)), (1, .int ti)]) hx hb dX5_now_40 hl (k := 3) rfl (nI_1 _) (by decide) rfl (fun ls hl => ?_)
          refine lv_goto (tgt := 4) hx hb dX5_now_43 (by decide) ?_
          have e1 : nowN σ i (k + 1) = nowN σ i k + 1 := by rw [nowN, cN_of h19 (by omega), h1]; rfl
          rw [← e1] at hl
          exact ih (k + 1) (by omega) (by omega) ls (lv_sub hl [2, 3, 1, 0] rfl)
        · refine lv_if_eq (x := 0) (tgt := 37) hx hb dX5_now_30 (by decide) (fun c30 => ?_) (fun c => absurd (by decide) c)
          refine lv_iconst (v := 0) hx hb dX5_now_37 (by decide) ?_
          refine lv_iadd hx hb dX5_now_38 ?_
          refine lv_istore_n (lv' := [(2, .int ((nowN σ i k) + 0)), (0, .ref (α 0 0)), (1, .int ti), (3, .int (nI k))]) hx hb dX5_now_39 rfl hl (by decide) rfl (fun ls hl => ?_)
          refine lv_iinc (v := (nI (k + 1))) (lv' := [(3, .int (nI (k + 1))), (2, .int ((nowN σ i k) + 0)), (0, .ref (α 0 0)), (1, .int ti)]) hx hb dX5_now_40 hl (k := 3) rfl (nI_1 _) (by decide) rfl (fun ls hl => ?_)
          refine lv_goto (tgt := 4) hx hb dX5_now_43 (by decide) ?_
          have e1 : nowN σ i (k + 1) = nowN σ i k + 0 := by rw [nowN, cN_of h19 (by omega), Bool.eq_false_iff.mpr h1]; rfl
          rw [← e1] at hl
          exact ih (k + 1) (by omega) (by omega) ls (lv_sub hl [2, 3, 1, 0] rfl)
  refine lv_iconst (v := 0) hx hb dX5_now_0 (by decide) ?_
  refine lv_istore_n (lv' := [(2, .int 0), (0, .ref (α 0 0)), (1, .int ti)]) hx hb dX5_now_1 rfl hl (by decide) rfl (fun ls hl => ?_)
  refine lv_iconst (v := 0) hx hb dX5_now_2 (by decide) ?_
  refine lv_istore_n (lv' := [(3, .int 0), (2, .int 0), (0, .ref (α 0 0)), (1, .int ti)]) hx hb dX5_now_3 rfl hl (by decide) rfl (fun ls hl => ?_)
  exact L4 (np - 0 + 1) 0 (Nat.lt_succ_self _) (Nat.zero_le _) ls (lv_sub hl [2, 3, 1, 0] rfl)

set_option maxHeartbeats 4000000 in
set_option maxRecDepth 100000 in
theorem c_X5_firstHeld (l : Launch) (D : va_G) (cy : Nat → ClassId) (A : Nat → Prop) (α : AD) (σ : SG) (ti : Int32) (i : Nat) (hti : ti = nI i) (hi : i < 8) (hok : okT σ i) (hC : ∀ c, c < 24 → σ 11 c ≠ 0 → okC σ c) (hdue : ¬ now σ i < σ 17 i) : Met l yX5_firstHeld wsX5_firstHeld ({ frames := 4, cells := 0, slots := 0, locals := 91 } : Room) (va_Pc [.ref (α 0 0), .int ti] (PB D cy A α (CR cy σ α))) (vp_Si (fun r => r = firstH σ i)) 0 0 (fun _ => False) := by
  refine Met.ofW (cc := cX5_firstHeld) (maxL := 3) (ret := (some .int)) (by decide) rfl ?_
  intro p e s m args below meth c s₁ B hml hv
  obtain ⟨rfl, hP, hK⟩ := hv
  have hx := B.exec
  have hb := B.bytes
  have hr := B.returns
  have hts := atoms_spec (ws := wsX5_firstHeld) B.pre
  have hown : s.vm.findClass RX5 = some m.cls := findClass_of_methodNamed B.named
  have hlocks := B.notSynchronized
  have hiX5 : ∀ w ∈ wsX50, w ∈ wsX5_firstHeld := by decide +kernel
  have hl := lv_entry ([.ref (α 0 0), .int ti]) (n := 3) (Nat.le_of_ble_eq_true rfl)
  rw [lg_entry_eq]
  generalize (lg_sl ([.ref (α 0 0), .int ti]) ++ List.replicate (3 - (lg_sl ([.ref (α 0 0), .int ti])).length) Slot.unset).toArray = ls at hl ⊢
  have hl : lv_has ls 3 [(0, .ref (α 0 0)), (1, .int ti)] := hl
  obtain ⟨hv, np, hnp, h18, hpt⟩ := hok
  obtain ⟨k0, hk0, hh0⟩ := due_ex h18 hnp hv.1 hdue
  have L2 : ∀ (n : Nat) (k : Nat) (hn : k0 - k < n) (hk : k ≤ k0) (hf : firstH σ i = fhN σ i (np - k) k) (ls : Array Slot) (hl : lv_has ls 3 [(0, .ref (α 0 0)), (1, .int ti), (2, .int (nI k))]) , W p l e ({ frames := 4, cells := 0, slots := 0, locals := 91 } : Room) s m ([.ref (α 0 0), .int ti] : List Value).toArray below meth c s.heap [] 0 0 (MQ below (vp_Si (fun r => r = firstH σ i)) ([.ref (α 0 0), .int ti] : List Value).toArray s 0 0 (fun _ => False)) (F0 m 2 ls []) := by
    intro n
    induction n with
    | zero => intro k hn hk hf ls hl ; exact absurd hn (Nat.not_lt_zero _)
    | succ n ih =>
      intro k hn hk hf ls hl 
      obtain ⟨m0, hm0⟩ : ∃ m0, np - k = m0 + 1 := ⟨np - k - 1, by omega⟩
      obtain ⟨⟨cj, hcj, h19, h11⟩, h30⟩ := hpt k (by omega)
      have ecj : cN (σ 19 (6 * i + k)) = cj := cN_of h19 (by omega)
      refine lv_aload_n hx hb dX5_firstHeld_2 rfl (lv_at hl 0 rfl) ?_
      refine lv_aload_n hx hb dX5_firstHeld_3 rfl (lv_at hl 0 rfl) ?_
      refine rf_get (v := .ref (α 20 0)) hx hb hts hiX5 hown hK hP 19 (by decide) (by decide +kernel) rfl rfl dX5_firstHeld_4 ?_
      refine lv_bipush (v := 6) hx hb dX5_firstHeld_7 (by decide) ?_
      refine lv_iload_n hx hb dX5_firstHeld_9 rfl (lv_at hl 1 rfl) ?_
      refine lv_imul hx hb dX5_firstHeld_10 ?_
      refine lv_iload_n hx hb dX5_firstHeld_11 rfl (lv_at hl 2 rfl) ?_
      refine lv_iadd hx hb dX5_firstHeld_12 ?_
      refine rf_iald hx hb hK hP 19 (by decide) rfl (6 * i + k) (ixm 6 hti) (show 6 * i + k < 48 by omega) dX5_firstHeld_13 ?_
      refine vp_callSi (W.runV (As := [.int (σ 19 (6 * i + k))]) (rest := []) ⟨hx, hb, hml, hown, hts⟩ (c_X5_isHeld l D cy A α σ (σ 19 (6 * i + k)) cj h19 hcj (hC cj hcj h11)) (cwV 1 hts gX5_firstHeld_X5_isHeld rfl rfl rfl (by decide +kernel) ⟨Nat.le_of_ble_eq_true rfl, Nat.le_of_ble_eq_true rfl⟩) ⟨pb_blind, pw_recv hP hK cr_obj rfl, pb_pre hP hK⟩ rfl rfl hl.1 rfl (lv_room (Nat.le_of_ble_eq_true rfl)) dX5_firstHeld_14 ⟨Nat.le_of_ble_eq_true rfl, Nat.le_of_ble_eq_true rfl⟩) (fun r hw => ?_)
      rcases hw with ⟨rfl, h1⟩ | ⟨rfl, h1⟩
      · refine lv_if_ne (x := 1) (tgt := 26) hx hb dX5_firstHeld_17 (by decide) (fun c17 => ?_) (fun c => absurd c (by decide))
        refine lv_aload_n hx hb dX5_firstHeld_26 rfl (lv_at hl 0 rfl) ?_
        refine rf_get (v := .ref (α 20 0)) hx hb hts hiX5 hown hK hP 19 (by decide) (by decide +kernel) rfl rfl dX5_firstHeld_27 ?_
        refine lv_bipush (v := 6) hx hb dX5_firstHeld_30 (by decide) ?_
        refine lv_iload_n hx hb dX5_firstHeld_32 rfl (lv_at hl 1 rfl) ?_
        refine lv_imul hx hb dX5_firstHeld_33 ?_
        refine lv_iload_n hx hb dX5_firstHeld_34 rfl (lv_at hl 2 rfl) ?_
        refine lv_iadd hx hb dX5_firstHeld_35 ?_
        refine rf_iald hx hb hK hP 19 (by decide) rfl (6 * i + k) (ixm 6 hti) (show 6 * i + k < 48 by omega) dX5_firstHeld_36 ?_
        exact W.iret (v := (σ 19 (6 * i + k))) hx hb hr (fun t ht hW => ⟨_, rfl, (by rw [hf, hm0, fhN, ecj, if_pos h1]), ht⟩) (fun q hq => absurd hq List.not_mem_nil) dX5_firstHeld_37
      · refine lv_if_ne (x := 0) (tgt := 26) hx hb dX5_firstHeld_17 (by decide) (fun c => absurd (by decide) c) (fun c17 => ?_)
        refine lv_iinc (v := (nI (k + 1))) (lv' := [(2, .int (nI (k + 1))), (0, .ref (α 0 0)), (1, .int ti)]) hx hb dX5_firstHeld_20 hl (k := 2) rfl (nI_1 _) (by decide) rfl (fun ls hl => ?_)
        refine lv_goto (tgt := 2) hx hb dX5_firstHeld_23 (by decide) ?_
        have hne : k ≠ k0 := fun q => h1 (by rw [← ecj, q]; exact hh0)
        exact ih (k + 1) (by omega) (by omega) (by rw [hf, hm0, fhN, ecj, if_neg h1, show np - (k + 1) = m0 by omega]) ls (lv_sub hl [1, 2, 0] rfl)
  refine lv_iconst (v := 0) hx hb dX5_firstHeld_0 (by decide) ?_
  refine lv_istore_n (lv' := [(2, .int 0), (0, .ref (α 0 0)), (1, .int ti)]) hx hb dX5_firstHeld_1 rfl hl (by decide) rfl (fun ls hl => ?_)
  exact L2 (k0 - 0 + 1) 0 (Nat.lt_succ_self _) (Nat.zero_le _) (by rw [firstH, cN_of h18 (by omega)]; rfl) ls (lv_sub hl [1, 2, 0] rfl)

set_option maxHeartbeats 4000000 in
set_option maxRecDepth 100000 in
theorem c_X5_votes (l : Launch) (D : va_G) (cy : Nat → ClassId) (A : Nat → Prop) (α : AD) (σ : SG) (ti : Int32) (hT : ∀ t, t < 8 → σ 20 t ≠ 0 → okT σ t) (hC : ∀ c, c < 24 → σ 11 c ≠ 0 → okC σ c) : Met l yX5_votes wsX5_votes ({ frames := 5, cells := 0, slots := 0, locals := 114 } : Room) (va_Pc [.ref (α 0 0), .int ti] (PB D cy A α (CR cy σ α))) (vp_Si (fun r => r = F_votes σ ti)) 0 0 (fun _ => False) := by
  refine Met.ofW (cc := cX5_votes) (maxL := 2) (ret := (some .int)) (by decide) rfl ?_
  intro p e s m args below meth c s₁ B hml hv
  obtain ⟨rfl, hP, hK⟩ := hv
  have hx := B.exec
  have hb := B.bytes
  have hr := B.returns
  have hts := atoms_spec (ws := wsX5_votes) B.pre
  have hown : s.vm.findClass RX5 = some m.cls := findClass_of_methodNamed B.named
  have hlocks := B.notSynchronized
  have hiX5 : ∀ w ∈ wsX50, w ∈ wsX5_votes := by decide +kernel
  have hl := lv_entry ([.ref (α 0 0), .int ti]) (n := 2) (Nat.le_of_ble_eq_true rfl)
  rw [lg_entry_eq]
  generalize (lg_sl ([.ref (α 0 0), .int ti]) ++ List.replicate (2 - (lg_sl ([.ref (α 0 0), .int ti])).length) Slot.unset).toArray = ls at hl ⊢
  have hl : lv_has ls 2 [(0, .ref (α 0 0)), (1, .int ti)] := hl
  refine lv_aload_n hx hb dX5_votes_0 rfl (lv_at hl 0 rfl) ?_
  refine lv_iload_n hx hb dX5_votes_1 rfl (lv_at hl 1 rfl) ?_
  refine vp_callSi (W.runV (As := [.int ti]) (rest := []) ⟨hx, hb, hml, hown, hts⟩ (c_X5_isTrip l D cy A α σ ti) (cwV 1 hts gX5_votes_X5_isTrip rfl rfl rfl (by decide +kernel) ⟨Nat.le_of_ble_eq_true rfl, Nat.le_of_ble_eq_true rfl⟩) ⟨pb_blind, pw_recv hP hK cr_obj rfl, pb_pre hP hK⟩ rfl rfl hl.1 rfl (lv_room (Nat.le_of_ble_eq_true rfl)) dX5_votes_2 ⟨Nat.le_of_ble_eq_true rfl, Nat.le_of_ble_eq_true rfl⟩) (fun r hw => ?_)
  rcases hw with ⟨rfl, j2, hx3, hj4, hg5, hm6⟩ | ⟨rfl, h1⟩
  · refine lv_if_eq (x := 1) (tgt := 16) hx hb dX5_votes_5 (by decide) (fun c => absurd c (by decide)) (fun c5 => ?_)
    refine lv_aload_n hx hb dX5_votes_8 rfl (lv_at hl 0 rfl) ?_
    refine lv_iload_n hx hb dX5_votes_9 rfl (lv_at hl 1 rfl) ?_
    refine vp_callSi (W.runV (As := [.int ti]) (rest := []) ⟨hx, hb, hml, hown, hts⟩ (c_X5_now l D cy A α σ ti j2 hg5 hj4 (hT j2 hj4 hm6) hC) (cwV 1 hts gX5_votes_X5_now rfl rfl rfl (by decide +kernel) ⟨Nat.le_of_ble_eq_true rfl, Nat.le_of_ble_eq_true rfl⟩) ⟨pb_blind, pw_recv hP hK cr_obj rfl, pb_pre hP hK⟩ rfl rfl hl.1 rfl (lv_room (Nat.le_of_ble_eq_true rfl)) dX5_votes_10 ⟨Nat.le_of_ble_eq_true rfl, Nat.le_of_ble_eq_true rfl⟩) (fun r hw => ?_)
    subst hw
    refine lv_goto (tgt := 18) hx hb dX5_votes_13 (by decide) ?_
    have eF : F_votes σ ti = (now σ j2) := by simp [F_votes, hx3]
    exact W.iret (v := (now σ j2)) hx hb hr (fun t ht hW => ⟨_, rfl, (by rw [eF]), ht⟩) (fun q hq => absurd hq List.not_mem_nil) dX5_votes_18
  · refine lv_if_eq (x := 0) (tgt := 16) hx hb dX5_votes_5 (by decide) (fun c5 => ?_) (fun c => absurd (by decide) c)
    refine lv_bipush (v := (-2)) hx hb dX5_votes_16 (by decide) ?_
    have eF : F_votes σ ti = (-2) := by simp [F_votes, h1]
    exact W.iret (v := (-2)) hx hb hr (fun t ht hW => ⟨_, rfl, (by rw [eF]), ht⟩) (fun q hq => absurd hq List.not_mem_nil) dX5_votes_18

set_option maxHeartbeats 4000000 in
set_option maxRecDepth 100000 in
theorem c_X5_reset (l : Launch) (D : va_G) (cy : Nat → ClassId) (A : Nat → Prop) (α : AD) (σ : SG) (ti : Int32) (hT : ∀ t, t < 8 → σ 20 t ≠ 0 → okT σ t) (hC : ∀ c, c < 24 → σ 11 c ≠ 0 → okC σ c) : Met l yX5_reset wsX5_reset ({ frames := 5, cells := 0, slots := 0, locals := 114 } : Room) (va_Pc [.ref (α 0 0), .int ti] (PB D cy A α (CR cy σ α))) (va_Qi (fun (r : Int32) (u : Unit) => r = (F_reset σ ti).1) (fun u t => PW D A α (CR cy (F_reset σ ti).2 α) t.heap) A) 0 0 A := by
  refine Met.ofW (cc := cX5_reset) (maxL := 3) (ret := (some .int)) (by decide) rfl ?_
  intro p e s m args below meth c s₁ B hml hv
  obtain ⟨rfl, hP, hK⟩ := hv
  have hx := B.exec
  have hb := B.bytes
  have hr := B.returns
  have hts := atoms_spec (ws := wsX5_reset) B.pre
  have hown : s.vm.findClass RX5 = some m.cls := findClass_of_methodNamed B.named
  have hlocks := B.notSynchronized
  have hiX5 : ∀ w ∈ wsX50, w ∈ wsX5_reset := by decide +kernel
  have hS : va_S A s.heap s.heap [] := va_S.rf
  have hl := lv_entry ([.ref (α 0 0), .int ti]) (n := 3) (Nat.le_of_ble_eq_true rfl)
  rw [lg_entry_eq]
  generalize (lg_sl ([.ref (α 0 0), .int ti]) ++ List.replicate (3 - (lg_sl ([.ref (α 0 0), .int ti])).length) Slot.unset).toArray = ls at hl ⊢
  have hl : lv_has ls 3 [(0, .ref (α 0 0)), (1, .int ti)] := hl
  skip
  refine lv_aload_n hx hb dX5_reset_0 rfl (lv_at hl 0 rfl) ?_
  refine lv_iload_n hx hb dX5_reset_1 rfl (lv_at hl 1 rfl) ?_
  refine vp_callSi (W.runV (As := [.int ti]) (rest := []) ⟨hx, hb, hml, hown, hts⟩ (c_X5_isTrip l D cy A α σ ti) (cwV 1 hts gX5_reset_X5_isTrip rfl rfl rfl (by decide +kernel) ⟨Nat.le_of_ble_eq_true rfl, Nat.le_of_ble_eq_true rfl⟩) ⟨pb_blind, pw_recv hP hK cr_obj rfl, pb_pre hP hK⟩ rfl rfl hl.1 rfl (lv_room (Nat.le_of_ble_eq_true rfl)) dX5_reset_2 ⟨Nat.le_of_ble_eq_true rfl, Nat.le_of_ble_eq_true rfl⟩) (fun r hw => ?_)
  rcases hw with ⟨rfl, j2, hx3, hj4, hg5, hm6⟩ | ⟨rfl, h1⟩
  · refine lv_if_ne (x := 1) (tgt := 11) hx hb dX5_reset_5 (by decide) (fun c5 => ?_) (fun c => absurd c (by decide))
    refine lv_aload_n hx hb dX5_reset_11 rfl (lv_at hl 0 rfl) ?_
    refine lv_iload_n hx hb dX5_reset_12 rfl (lv_at hl 1 rfl) ?_
    refine vp_callSi (W.runV (As := [.int ti]) (rest := []) ⟨hx, hb, hml, hown, hts⟩ (c_X5_now l D cy A α σ ti j2 hg5 hj4 (hT j2 hj4 hm6) hC) (cwV 1 hts gX5_reset_X5_now rfl rfl rfl (by decide +kernel) ⟨Nat.le_of_ble_eq_true rfl, Nat.le_of_ble_eq_true rfl⟩) ⟨pb_blind, pw_recv hP hK cr_obj rfl, pb_pre hP hK⟩ rfl rfl hl.1 rfl (lv_room (Nat.le_of_ble_eq_true rfl)) dX5_reset_13 ⟨Nat.le_of_ble_eq_true rfl, Nat.le_of_ble_eq_true rfl⟩) (fun r hw => ?_)
    subst hw
    refine lv_aload_n hx hb dX5_reset_16 rfl (lv_at hl 0 rfl) ?_
    refine rf_get (v := .ref (α 18 0)) hx hb hts hiX5 hown hK hP 17 (by decide) (by decide +kernel) rfl rfl dX5_reset_17 ?_
    refine lv_iload_n hx hb dX5_reset_20 rfl (lv_at hl 1 rfl) ?_
    refine rf_iald hx hb hK hP 17 (by decide) rfl j2 hg5 hj4 dX5_reset_21 ?_
    refine lv_icmp_lt (x := (now σ j2)) (y := (σ 17 j2)) (tgt := 28) hx hb dX5_reset_22 (by decide) (fun c22 => ?_) (fun c22 => ?_)
    · refine lv_aload_n hx hb dX5_reset_28 rfl (lv_at hl 0 rfl) ?_
      refine rf_get (v := .ref (α 22 0)) hx hb hts hiX5 hown hK hP 21 (by decide) (by decide +kernel) rfl rfl dX5_reset_29 ?_
      refine lv_iload_n hx hb dX5_reset_32 rfl (lv_at hl 1 rfl) ?_
      refine rf_zald hx hb hK hP 21 (by decide) rfl j2 hg5 hj4 dX5_reset_33 ?_
      refine lv_if_eq (x := (σ 21 j2)) (tgt := 41) hx hb dX5_reset_34 (by decide) (fun c34 => ?_) (fun c34 => ?_)
      · refine lv_iconst (v := 0) hx hb dX5_reset_41 (by decide) ?_
        refine lv_istore_n (lv' := [(2, .int 0), (0, .ref (α 0 0)), (1, .int ti)]) hx hb dX5_reset_42 rfl hl (by decide) rfl (fun ls hl => ?_)
        refine lv_aload_n hx hb dX5_reset_43 rfl (lv_at hl 1 rfl) ?_
        refine rf_get (v := .ref (α 22 0)) hx hb hts hiX5 hown hK hP 21 (by decide) (by decide +kernel) rfl rfl dX5_reset_44 ?_
        refine lv_iload_n hx hb dX5_reset_47 rfl (lv_at hl 2 rfl) ?_
        refine lv_iconst (v := 0) hx hb dX5_reset_48 (by decide) ?_
        refine rf_zast hx hb hK hP hS 21 (by decide) rfl (Or.inl rfl) j2 hg5 hj4 dX5_reset_49 (fun H locs hP hz hS => ?_)
        refine lv_iload_n hx hb dX5_reset_50 rfl (lv_at hl 0 rfl) ?_
        have eF : F_reset σ ti = (0, (st σ 21 j2 0)) := by simp [F_reset, hx3, c22, c34]
        exact W.iret (v := 0) hx hb hr (fun t ht hW => ⟨⟨_, (), rfl, (by rw [eF]), by dsimp only; rw [ht]; exact (by rw [eF]; exact hP)⟩, hS.F ht⟩) hS.2.2 dX5_reset_51
      · refine lv_iconst (v := 1) hx hb dX5_reset_37 (by decide) ?_
        refine lv_goto (tgt := 42) hx hb dX5_reset_38 (by decide) ?_
        refine lv_istore_n (lv' := [(2, .int 1), (0, .ref (α 0 0)), (1, .int ti)]) hx hb dX5_reset_42 rfl hl (by decide) rfl (fun ls hl => ?_)
        refine lv_aload_n hx hb dX5_reset_43 rfl (lv_at hl 1 rfl) ?_
        refine rf_get (v := .ref (α 22 0)) hx hb hts hiX5 hown hK hP 21 (by decide) (by decide +kernel) rfl rfl dX5_reset_44 ?_
        refine lv_iload_n hx hb dX5_reset_47 rfl (lv_at hl 2 rfl) ?_
        refine lv_iconst (v := 0) hx hb dX5_reset_48 (by decide) ?_
        refine rf_zast hx hb hK hP hS 21 (by decide) rfl (Or.inl rfl) j2 hg5 hj4 dX5_reset_49 (fun H locs hP hz hS => ?_)
        refine lv_iload_n hx hb dX5_reset_50 rfl (lv_at hl 0 rfl) ?_
        have eF : F_reset σ ti = (1, (st σ 21 j2 0)) := by simp [F_reset, hx3, c22, c34]
        exact W.iret (v := 1) hx hb hr (fun t ht hW => ⟨⟨_, (), rfl, (by rw [eF]), by dsimp only; rw [ht]; exact (by rw [eF]; exact hP)⟩, hS.F ht⟩) hS.2.2 dX5_reset_51
    · refine lv_bipush (v := (-5)) hx hb dX5_reset_25 (by decide) ?_
      have eF : F_reset σ ti = ((-5), σ) := by simp [F_reset, hx3, c22]
      exact W.iret (v := (-5)) hx hb hr (fun t ht hW => ⟨⟨_, (), rfl, (by rw [eF]), by dsimp only; rw [ht]; exact (by rw [eF]; exact hP)⟩, hS.F ht⟩) hS.2.2 dX5_reset_27
  · refine lv_if_ne (x := 0) (tgt := 11) hx hb dX5_reset_5 (by decide) (fun c => absurd (by decide) c) (fun c5 => ?_)
    refine lv_bipush (v := (-2)) hx hb dX5_reset_8 (by decide) ?_
    have eF : F_reset σ ti = ((-2), σ) := by simp [F_reset, h1]
    exact W.iret (v := (-2)) hx hb hr (fun t ht hW => ⟨⟨_, (), rfl, (by rw [eF]), by dsimp only; rw [ht]; exact (by rw [eF]; exact hP)⟩, hS.F ht⟩) hS.2.2 dX5_reset_10

set_option maxHeartbeats 4000000 in
set_option maxRecDepth 100000 in
theorem c_X5_since (l : Launch) (D : va_G) (cy : Nat → ClassId) (A : Nat → Prop) (α : AD) (σ : SG) (g rel n : Int32) (hG : ∀ g, g < 16 → okG σ g) : Met l yX5_since wsX5_since ({ frames := 3, cells := 0, slots := 0, locals := 67 } : Room) (va_Pc [.ref (α 0 0), .int g, .int rel, .int n] (PB D cy A α (CR cy σ α))) (vp_Si (fun r => r = F_since σ g rel n)) 0 0 (fun _ => False) := by
  refine Met.ofW (cc := cX5_since) (maxL := 5) (ret := (some .int)) (by decide) rfl ?_
  intro p e s m args below meth c s₁ B hml hv
  obtain ⟨rfl, hP, hK⟩ := hv
  have hx := B.exec
  have hb := B.bytes
  have hr := B.returns
  have hts := atoms_spec (ws := wsX5_since) B.pre
  have hown : s.vm.findClass RX5 = some m.cls := findClass_of_methodNamed B.named
  have hlocks := B.notSynchronized
  have hiX5 : ∀ w ∈ wsX50, w ∈ wsX5_since := by decide +kernel
  have hl := lv_entry ([.ref (α 0 0), .int g, .int rel, .int n]) (n := 5) (Nat.le_of_ble_eq_true rfl)
  rw [lg_entry_eq]
  generalize (lg_sl ([.ref (α 0 0), .int g, .int rel, .int n]) ++ List.replicate (5 - (lg_sl ([.ref (α 0 0), .int g, .int rel, .int n])).length) Slot.unset).toArray = ls at hl ⊢
  have hl : lv_has ls 5 [(0, .ref (α 0 0)), (1, .int g), (2, .int rel), (3, .int n)] := hl
  have LS : ∀ (n0 : Nat) (j nr : Nat) (hj : j < 16) (hg : g = nI j) (h10 : σ 10 j = nI nr) (hnr : nr ≤ 12) (hrel : isRel rel) (k : Nat) (hn : nr - k < n0) (hk : k ≤ nr) (hf : F_since σ g rel n = siN σ j rel n (nr - k) k) (ls : Array Slot) (hl : lv_has ls 5 [(0, .ref (α 0 0)), (1, .int g), (2, .int rel), (3, .int n), (4, .int (nI k))]) , W p l e ({ frames := 3, cells := 0, slots := 0, locals := 67 } : Room) s m ([.ref (α 0 0), .int g, .int rel, .int n] : List Value).toArray below meth c s.heap [] 0 0 (MQ below (vp_Si (fun r => r = F_since σ g rel n)) ([.ref (α 0 0), .int g, .int rel, .int n] : List Value).toArray s 0 0 (fun _ => False)) (F0 m 33 ls []) := by
    intro n0
    induction n0 with
    | zero => intro j nr hj hg h10 hnr hrel k hn hk hf ls hl ; exact absurd hn (Nat.not_lt_zero _)
    | succ n0 ih =>
      intro j nr hj hg h10 hnr hrel k hn hk hf ls hl 
      refine lv_iload hx hb dX5_since_33 (lv_at hl 4 rfl) ?_
      refine lv_aload_n hx hb dX5_since_35 rfl (lv_at hl 0 rfl) ?_
      refine rf_get (v := .ref (α 11 0)) hx hb hts hiX5 hown hK hP 10 (by decide) (by decide +kernel) rfl rfl dX5_since_36 ?_
      refine lv_iload_n hx hb dX5_since_39 rfl (lv_at hl 1 rfl) ?_
      refine rf_iald hx hb hK hP 10 (by decide) rfl j hg hj dX5_since_40 ?_
      refine lv_icmp_ge (x := (nI k)) (y := (σ 10 j)) (tgt := 73) hx hb dX5_since_41 (by decide) (fun c41 => ?_) (fun c41 => ?_)
      · have hkn : k = nr := by rw [h10] at c41; exact Nat.le_antisymm hk (ige (by omega) (by omega) c41)
        refine lv_iload hx hb dX5_since_73 (lv_at hl 4 rfl) ?_
        exact W.iret (v := (nI k)) hx hb hr (fun t ht hW => ⟨_, rfl, (by rw [hf, hkn, Nat.sub_self]; rfl), ht⟩) (fun q hq => absurd hq List.not_mem_nil) dX5_since_75
      · have hkn : k < nr := by rw [h10] at c41; exact ilt (by omega) (by omega) c41
        obtain ⟨m0, hm0⟩ : ∃ m0, nr - k = m0 + 1 := ⟨nr - k - 1, by omega⟩
        refine lv_aload_n hx hb dX5_since_44 rfl (lv_at hl 0 rfl) ?_
        refine lv_iload_n hx hb dX5_since_45 rfl (lv_at hl 1 rfl) ?_
        refine lv_aload_n hx hb dX5_since_46 rfl (lv_at hl 0 rfl) ?_
        refine rf_get (v := .ref (α 10 0)) hx hb hts hiX5 hown hK hP 9 (by decide) (by decide +kernel) rfl rfl dX5_since_47 ?_
        refine lv_bipush (v := 12) hx hb dX5_since_50 (by decide) ?_
        refine lv_iload_n hx hb dX5_since_52 rfl (lv_at hl 1 rfl) ?_
        refine lv_imul hx hb dX5_since_53 ?_
        refine lv_iload hx hb dX5_since_54 (lv_at hl 4 rfl) ?_
        refine lv_iadd hx hb dX5_since_56 ?_
        refine rf_iald hx hb hK hP 9 (by decide) rfl (12 * j + k) (ixm 12 hg) (show 12 * j + k < 192 by omega) dX5_since_57 ?_
        refine lv_iload_n hx hb dX5_since_58 rfl (lv_at hl 2 rfl) ?_
        refine lv_iload_n hx hb dX5_since_59 rfl (lv_at hl 1 rfl) ?_
        refine lv_iload_n hx hb dX5_since_60 rfl (lv_at hl 3 rfl) ?_
        refine vp_callSi (W.runV (As := [.int g, .int (σ 9 (12 * j + k)), .int rel, .int g, .int n]) (rest := []) ⟨hx, hb, hml, hown, hts⟩ (c_X5_related l D cy A α σ g j (σ 9 (12 * j + k)) rel g j n hrel hg hj hg hj) (cwV 5 hts gX5_since_X5_related rfl rfl rfl (by decide +kernel) ⟨Nat.le_of_ble_eq_true rfl, Nat.le_of_ble_eq_true rfl⟩) ⟨pb_blind, pw_recv hP hK cr_obj rfl, pb_pre hP hK⟩ rfl rfl hl.1 rfl (lv_room (Nat.le_of_ble_eq_true rfl)) dX5_since_61 ⟨Nat.le_of_ble_eq_true rfl, Nat.le_of_ble_eq_true rfl⟩) (fun r hw => ?_)
        rcases hw with ⟨rfl, h1⟩ | ⟨rfl, h1⟩
        · refine lv_if_ne (x := 1) (tgt := 73) hx hb dX5_since_64 (by decide) (fun c64 => ?_) (fun c => absurd c (by decide))
          refine lv_iload hx hb dX5_since_73 (lv_at hl 4 rfl) ?_
          exact W.iret (v := (nI k)) hx hb hr (fun t ht hW => ⟨_, rfl, (by rw [hf, hm0, siN, if_pos h1]), ht⟩) (fun q hq => absurd hq List.not_mem_nil) dX5_since_75
        · refine lv_if_ne (x := 0) (tgt := 73) hx hb dX5_since_64 (by decide) (fun c => absurd (by decide) c) (fun c64 => ?_)
          refine lv_iinc (v := (nI (k + 1))) (lv' := [(4, .int (nI (k + 1))), (0, .ref (α 0 0)), (1, .int g), (2, .int rel), (3, .int n)]) hx hb dX5_since_67 hl (k := 4) rfl (nI_1 _) (by decide) rfl (fun ls hl => ?_)
          refine lv_goto (tgt := 33) hx hb dX5_since_70 (by decide) ?_
          exact ih j nr hj hg h10 hnr hrel (k + 1) (by omega) (by omega) (by rw [hf, hm0, siN, if_neg h1, show nr - (k + 1) = m0 by omega]) ls (lv_sub hl [1, 2, 3, 4, 0] rfl)
  refine lv_iload_n hx hb dX5_since_0 rfl (lv_at hl 2 rfl) ?_
  refine lv_bipush (v := 6) hx hb dX5_since_1 (by decide) ?_
  refine vp_callSi (W.runS (As := [.int rel, .int 6]) (rest := []) ⟨hx, hb, hml, hown, hts⟩ (c_X5_isIn l rel 6) (va_cwS 2 hts gX5_since_X5_isIn rfl rfl rfl (by decide +kernel) ⟨Nat.le_of_ble_eq_true rfl, Nat.le_of_ble_eq_true rfl⟩) ⟨pt_blind, pt_pre⟩ rfl rfl hl.1 rfl (lv_room (Nat.le_of_ble_eq_true rfl)) dX5_since_3 ⟨Nat.le_of_ble_eq_true rfl, Nat.le_of_ble_eq_true rfl⟩) (fun r hw => ?_)
  rcases hw with ⟨rfl, h2⟩ | ⟨rfl, h2⟩
  · have hrelh2 := rel6.mp h2
    refine lv_if_eq (x := 1) (tgt := 16) hx hb dX5_since_6 (by decide) (fun c => absurd c (by decide)) (fun c6 => ?_)
    refine lv_iload_n hx hb dX5_since_9 rfl (lv_at hl 3 rfl) ?_
    refine vp_callSi (W.runS (As := [.int n]) (rest := []) ⟨hx, hb, hml, hown, hts⟩ (c_X5_isNumber l n) (va_cwS 1 hts gX5_since_X5_isNumber rfl rfl rfl (by decide +kernel) ⟨Nat.le_of_ble_eq_true rfl, Nat.le_of_ble_eq_true rfl⟩) ⟨pt_blind, pt_pre⟩ rfl rfl hl.1 rfl (lv_room (Nat.le_of_ble_eq_true rfl)) dX5_since_10 ⟨Nat.le_of_ble_eq_true rfl, Nat.le_of_ble_eq_true rfl⟩) (fun r hw => ?_)
    rcases hw with ⟨rfl, h3⟩ | ⟨rfl, h3⟩
    · refine lv_if_ne (x := 1) (tgt := 19) hx hb dX5_since_13 (by decide) (fun c13 => ?_) (fun c => absurd c (by decide))
      refine lv_aload_n hx hb dX5_since_19 rfl (lv_at hl 0 rfl) ?_
      refine lv_iload_n hx hb dX5_since_20 rfl (lv_at hl 1 rfl) ?_
      refine vp_callSi (W.runV (As := [.int g]) (rest := []) ⟨hx, hb, hml, hown, hts⟩ (c_X5_isGauge l D cy A α σ g) (cwV 1 hts gX5_since_X5_isGauge rfl rfl rfl (by decide +kernel) ⟨Nat.le_of_ble_eq_true rfl, Nat.le_of_ble_eq_true rfl⟩) ⟨pb_blind, pw_recv hP hK cr_obj rfl, pb_pre hP hK⟩ rfl rfl hl.1 rfl (lv_room (Nat.le_of_ble_eq_true rfl)) dX5_since_21 ⟨Nat.le_of_ble_eq_true rfl, Nat.le_of_ble_eq_true rfl⟩) (fun r hw => ?_)
      rcases hw with ⟨rfl, j5, hx6, hj7, hg8, hm9⟩ | ⟨rfl, h4⟩
      · refine lv_if_ne (x := 1) (tgt := 30) hx hb dX5_since_24 (by decide) (fun c24 => ?_) (fun c => absurd c (by decide))
        refine lv_iconst (v := 0) hx hb dX5_since_30 (by decide) ?_
        refine lv_istore (lv' := [(4, .int 0), (0, .ref (α 0 0)), (1, .int g), (2, .int rel), (3, .int n)]) hx hb dX5_since_31 hl (by decide) rfl (fun ls hl => ?_)
        obtain ⟨⟨nr, hnr, h10⟩, -⟩ := hG j5 hj7
        exact LS (nr - 0 + 1) j5 nr hj7 hg8 h10 hnr hrelh2 0 (Nat.lt_succ_self _) (Nat.zero_le _) (by rw [F_since, if_pos ⟨hrelh2, h3⟩, hx6]; show siN σ j5 rel n (cN (σ 10 j5)) 0 = _; rw [cN_of h10 (by omega)]; rfl) ls (lv_sub hl [1, 2, 3, 4, 0] rfl)
      · refine lv_if_ne (x := 0) (tgt := 30) hx hb dX5_since_24 (by decide) (fun c => absurd (by decide) c) (fun c24 => ?_)
        refine lv_bipush (v := (-2)) hx hb dX5_since_27 (by decide) ?_
        have eF : F_since σ g rel n = (-2) := by simp [F_since, h3, h4, hrelh2]
        exact W.iret (v := (-2)) hx hb hr (fun t ht hW => ⟨_, rfl, (by rw [eF]), ht⟩) (fun q hq => absurd hq List.not_mem_nil) dX5_since_29
    · refine lv_if_ne (x := 0) (tgt := 19) hx hb dX5_since_13 (by decide) (fun c => absurd (by decide) c) (fun c13 => ?_)
      refine lv_bipush (v := (-4)) hx hb dX5_since_16 (by decide) ?_
      have eF : F_since σ g rel n = (-4) := by simp [F_since, h3, hrelh2]
      exact W.iret (v := (-4)) hx hb hr (fun t ht hW => ⟨_, rfl, (by rw [eF]), ht⟩) (fun q hq => absurd hq List.not_mem_nil) dX5_since_18
  · have hrelh2 := mt rel6.mpr h2
    refine lv_if_eq (x := 0) (tgt := 16) hx hb dX5_since_6 (by decide) (fun c6 => ?_) (fun c => absurd (by decide) c)
    refine lv_bipush (v := (-4)) hx hb dX5_since_16 (by decide) ?_
    have eF : F_since σ g rel n = (-4) := by simp [F_since, hrelh2]
    exact W.iret (v := (-4)) hx hb hr (fun t ht hW => ⟨_, rfl, (by rw [eF]), ht⟩) (fun q hq => absurd hq List.not_mem_nil) dX5_since_18

set_option maxHeartbeats 4000000 in
set_option maxRecDepth 100000 in
theorem c_X5_counted (l : Launch) (D : va_G) (cy : Nat → ClassId) (A : Nat → Prop) (α : AD) (σ : SG) (g rel n : Int32) (hG : ∀ g, g < 16 → okG σ g) : Met l yX5_counted wsX5_counted ({ frames := 3, cells := 0, slots := 0, locals := 67 } : Room) (va_Pc [.ref (α 0 0), .int g, .int rel, .int n] (PB D cy A α (CR cy σ α))) (vp_Si (fun r => r = F_counted σ g rel n)) 0 0 (fun _ => False) := by
  refine Met.ofW (cc := cX5_counted) (maxL := 6) (ret := (some .int)) (by decide) rfl ?_
  intro p e s m args below meth c s₁ B hml hv
  obtain ⟨rfl, hP, hK⟩ := hv
  have hx := B.exec
  have hb := B.bytes
  have hr := B.returns
  have hts := atoms_spec (ws := wsX5_counted) B.pre
  have hown : s.vm.findClass RX5 = some m.cls := findClass_of_methodNamed B.named
  have hlocks := B.notSynchronized
  have hiX5 : ∀ w ∈ wsX50, w ∈ wsX5_counted := by decide +kernel
  have hl := lv_entry ([.ref (α 0 0), .int g, .int rel, .int n]) (n := 6) (Nat.le_of_ble_eq_true rfl)
  rw [lg_entry_eq]
  generalize (lg_sl ([.ref (α 0 0), .int g, .int rel, .int n]) ++ List.replicate (6 - (lg_sl ([.ref (α 0 0), .int g, .int rel, .int n])).length) Slot.unset).toArray = ls at hl ⊢
  have hl : lv_has ls 6 [(0, .ref (α 0 0)), (1, .int g), (2, .int rel), (3, .int n)] := hl
  have LS : ∀ (n0 : Nat) (j nr : Nat) (hj : j < 16) (hg : g = nI j) (h10 : σ 10 j = nI nr) (hnr : nr ≤ 12) (hrel : isRel rel) (k : Nat) (hn : nr - k < n0) (hk : k ≤ nr) (hf : F_counted σ g rel n = coN σ j rel n nr) (ls : Array Slot) (hl : lv_has ls 6 [(0, .ref (α 0 0)), (1, .int g), (2, .int rel), (3, .int n), (4, .int (coN σ j rel n k)), (5, .int (nI k))]) , W p l e ({ frames := 3, cells := 0, slots := 0, locals := 67 } : Room) s m ([.ref (α 0 0), .int g, .int rel, .int n] : List Value).toArray below meth c s.heap [] 0 0 (MQ below (vp_Si (fun r => r = F_counted σ g rel n)) ([.ref (α 0 0), .int g, .int rel, .int n] : List Value).toArray s 0 0 (fun _ => False)) (F0 m 36 ls []) := by
    intro n0
    induction n0 with
    | zero => intro j nr hj hg h10 hnr hrel k hn hk hf ls hl ; exact absurd hn (Nat.not_lt_zero _)
    | succ n0 ih =>
      intro j nr hj hg h10 hnr hrel k hn hk hf ls hl 
      refine lv_iload hx hb dX5_counted_36 (lv_at hl 5 rfl) ?_
      refine lv_aload_n hx hb dX5_counted_38 rfl (lv_at hl 0 rfl) ?_
      refine rf_get (v := .ref (α 11 0)) hx hb hts hiX5 hown hK hP 10 (by decide) (by decide +kernel) rfl rfl dX5_counted_39 ?_
      refine lv_iload_n hx hb dX5_counted_42 rfl (lv_at hl 1 rfl) ?_
      refine rf_iald hx hb hK hP 10 (by decide) rfl j hg hj dX5_counted_43 ?_
      refine lv_icmp_ge (x := (nI k)) (y := (σ 10 j)) (tgt := 86) hx hb dX5_counted_44 (by decide) (fun c44 => ?_) (fun c44 => ?_)
      · have hkn : k = nr := by rw [h10] at c44; exact Nat.le_antisymm hk (ige (by omega) (by omega) c44)
        refine lv_iload hx hb dX5_counted_86 (lv_at hl 4 rfl) ?_
        exact W.iret (v := (coN σ j rel n k)) hx hb hr (fun t ht hW => ⟨_, rfl, (by rw [hf, hkn]), ht⟩) (fun q hq => absurd hq List.not_mem_nil) dX5_counted_88
      · have hkn : k < nr := by rw [h10] at c44; exact ilt (by omega) (by omega) c44
        refine lv_iload hx hb dX5_counted_47 (lv_at hl 4 rfl) ?_
        refine lv_aload_n hx hb dX5_counted_49 rfl (lv_at hl 0 rfl) ?_
        refine lv_iload_n hx hb dX5_counted_50 rfl (lv_at hl 1 rfl) ?_
        refine lv_aload_n hx hb dX5_counted_51 rfl (lv_at hl 0 rfl) ?_
        refine rf_get (v := .ref (α 10 0)) hx hb hts hiX5 hown hK hP 9 (by decide) (by decide +kernel) rfl rfl dX5_counted_52 ?_
        refine lv_bipush (v := 12) hx hb dX5_counted_55 (by decide) ?_
        refine lv_iload_n hx hb dX5_counted_57 rfl (lv_at hl 1 rfl) ?_
        refine lv_imul hx hb dX5_counted_58 ?_
        refine lv_iload hx hb dX5_counted_59 (lv_at hl 5 rfl) ?_
        refine lv_iadd hx hb dX5_counted_61 ?_
        refine rf_iald hx hb hK hP 9 (by decide) rfl (12 * j + k) (ixm 12 hg) (show 12 * j + k < 192 by omega) dX5_counted_62 ?_
        refine lv_iload_n hx hb dX5_counted_63 rfl (lv_at hl 2 rfl) ?_
        refine lv_iload_n hx hb dX5_counted_64 rfl (lv_at hl 1 rfl) ?_
        refine lv_iload_n hx hb dX5_counted_65 rfl (lv_at hl 3 rfl) ?_
        refine vp_callSi (W.runV (As := [.int g, .int (σ 9 (12 * j + k)), .int rel, .int g, .int n]) (rest := [.int (coN σ j rel n k)]) ⟨hx, hb, hml, hown, hts⟩ (c_X5_related l D cy A α σ g j (σ 9 (12 * j + k)) rel g j n hrel hg hj hg hj) (cwV 5 hts gX5_counted_X5_related rfl rfl rfl (by decide +kernel) ⟨Nat.le_of_ble_eq_true rfl, Nat.le_of_ble_eq_true rfl⟩) ⟨pb_blind, pw_recv hP hK cr_obj rfl, pb_pre hP hK⟩ rfl rfl hl.1 rfl (lv_room (Nat.le_of_ble_eq_true rfl)) dX5_counted_66 ⟨Nat.le_of_ble_eq_true rfl, Nat.le_of_ble_eq_true rfl⟩) (fun r hw => ?_)
        rcases hw with ⟨rfl, h1⟩ | ⟨rfl, h1⟩
        · refine lv_if_eq (x := 1) (tgt := 76) hx hb dX5_counted_69 (by decide) (fun c => absurd c (by decide)) (fun c69 => ?_)
          refine lv_iconst (v := 1) hx hb dX5_counted_72 (by decide) ?_
          refine lv_goto (tgt := 77) hx hb dX5_counted_73 (by decide) ?_
          refine lv_iadd hx hb dX5_counted_77 ?_
          refine lv_istore (lv' := [(4, .int ((coN σ j rel n k) + 1)), (0, .ref (α 0 0)), (1, .int g), (2, .int rel), (3, .int n), (5, .int (nI k))]) hx hb dX5_counted_78 hl (by decide) rfl (fun ls hl => ?_)
          refine lv_iinc (v := (nI (k + 1))) (lv' := [(5, .int (nI (k + 1))), (4, .int ((coN σ j rel n k) + 1)), (0, .ref (α 0 0)), (1, .int g), (2, .int rel), (3, .int n)]) hx hb dX5_counted_80 hl (k := 5) rfl (nI_1 _) (by decide) rfl (fun ls hl => ?_)
          refine lv_goto (tgt := 36) hx hb dX5_counted_83 (by decide) ?_
          have e1 : coN σ j rel n (k + 1) = coN σ j rel n k + 1 := by rw [coN, h1]; rfl
          rw [← e1] at hl
          exact ih j nr hj hg h10 hnr hrel (k + 1) (by omega) (by omega) hf ls (lv_sub hl [2, 3, 4, 5, 1, 0] rfl)
        · refine lv_if_eq (x := 0) (tgt := 76) hx hb dX5_counted_69 (by decide) (fun c69 => ?_) (fun c => absurd (by decide) c)
          refine lv_iconst (v := 0) hx hb dX5_counted_76 (by decide) ?_
          refine lv_iadd hx hb dX5_counted_77 ?_
          refine lv_istore (lv' := [(4, .int ((coN σ j rel n k) + 0)), (0, .ref (α 0 0)), (1, .int g), (2, .int rel), (3, .int n), (5, .int (nI k))]) hx hb dX5_counted_78 hl (by decide) rfl (fun ls hl => ?_)
          refine lv_iinc (v := (nI (k + 1))) (lv' := [(5, .int (nI (k + 1))), (4, .int ((coN σ j rel n k) + 0)), (0, .ref (α 0 0)), (1, .int g), (2, .int rel), (3, .int n)]) hx hb dX5_counted_80 hl (k := 5) rfl (nI_1 _) (by decide) rfl (fun ls hl => ?_)
          refine lv_goto (tgt := 36) hx hb dX5_counted_83 (by decide) ?_
          have e1 : coN σ j rel n (k + 1) = coN σ j rel n k + 0 := by rw [coN, Bool.eq_false_iff.mpr h1]; rfl
          rw [← e1] at hl
          exact ih j nr hj hg h10 hnr hrel (k + 1) (by omega) (by omega) hf ls (lv_sub hl [2, 3, 4, 5, 1, 0] rfl)
  refine lv_iload_n hx hb dX5_counted_0 rfl (lv_at hl 2 rfl) ?_
  refine lv_bipush (v := 6) hx hb dX5_counted_1 (by decide) ?_
  refine vp_callSi (W.runS (As := [.int rel, .int 6]) (rest := []) ⟨hx, hb, hml, hown, hts⟩ (c_X5_isIn l rel 6) (va_cwS 2 hts gX5_counted_X5_isIn rfl rfl rfl (by decide +kernel) ⟨Nat.le_of_ble_eq_true rfl, Nat.le_of_ble_eq_true rfl⟩) ⟨pt_blind, pt_pre⟩ rfl rfl hl.1 rfl (lv_room (Nat.le_of_ble_eq_true rfl)) dX5_counted_3 ⟨Nat.le_of_ble_eq_true rfl, Nat.le_of_ble_eq_true rfl⟩) (fun r hw => ?_)
  rcases hw with ⟨rfl, h2⟩ | ⟨rfl, h2⟩
  · have hrelh2 := rel6.mp h2
    refine lv_if_eq (x := 1) (tgt := 16) hx hb dX5_counted_6 (by decide) (fun c => absurd c (by decide)) (fun c6 => ?_)
    refine lv_iload_n hx hb dX5_counted_9 rfl (lv_at hl 3 rfl) ?_
    refine vp_callSi (W.runS (As := [.int n]) (rest := []) ⟨hx, hb, hml, hown, hts⟩ (c_X5_isNumber l n) (va_cwS 1 hts gX5_counted_X5_isNumber rfl rfl rfl (by decide +kernel) ⟨Nat.le_of_ble_eq_true rfl, Nat.le_of_ble_eq_true rfl⟩) ⟨pt_blind, pt_pre⟩ rfl rfl hl.1 rfl (lv_room (Nat.le_of_ble_eq_true rfl)) dX5_counted_10 ⟨Nat.le_of_ble_eq_true rfl, Nat.le_of_ble_eq_true rfl⟩) (fun r hw => ?_)
    rcases hw with ⟨rfl, h3⟩ | ⟨rfl, h3⟩
    · refine lv_if_ne (x := 1) (tgt := 19) hx hb dX5_counted_13 (by decide) (fun c13 => ?_) (fun c => absurd c (by decide))
      refine lv_aload_n hx hb dX5_counted_19 rfl (lv_at hl 0 rfl) ?_
      refine lv_iload_n hx hb dX5_counted_20 rfl (lv_at hl 1 rfl) ?_
      refine vp_callSi (W.runV (As := [.int g]) (rest := []) ⟨hx, hb, hml, hown, hts⟩ (c_X5_isGauge l D cy A α σ g) (cwV 1 hts gX5_counted_X5_isGauge rfl rfl rfl (by decide +kernel) ⟨Nat.le_of_ble_eq_true rfl, Nat.le_of_ble_eq_true rfl⟩) ⟨pb_blind, pw_recv hP hK cr_obj rfl, pb_pre hP hK⟩ rfl rfl hl.1 rfl (lv_room (Nat.le_of_ble_eq_true rfl)) dX5_counted_21 ⟨Nat.le_of_ble_eq_true rfl, Nat.le_of_ble_eq_true rfl⟩) (fun r hw => ?_)
      rcases hw with ⟨rfl, j5, hx6, hj7, hg8, hm9⟩ | ⟨rfl, h4⟩
      · refine lv_if_ne (x := 1) (tgt := 30) hx hb dX5_counted_24 (by decide) (fun c24 => ?_) (fun c => absurd c (by decide))
        refine lv_iconst (v := 0) hx hb dX5_counted_30 (by decide) ?_
        refine lv_istore (lv' := [(4, .int 0), (0, .ref (α 0 0)), (1, .int g), (2, .int rel), (3, .int n)]) hx hb dX5_counted_31 hl (by decide) rfl (fun ls hl => ?_)
        refine lv_iconst (v := 0) hx hb dX5_counted_33 (by decide) ?_
        refine lv_istore (lv' := [(5, .int 0), (4, .int 0), (0, .ref (α 0 0)), (1, .int g), (2, .int rel), (3, .int n)]) hx hb dX5_counted_34 hl (by decide) rfl (fun ls hl => ?_)
        obtain ⟨⟨nr, hnr, h10⟩, -⟩ := hG j5 hj7
        exact LS (nr - 0 + 1) j5 nr hj7 hg8 h10 hnr hrelh2 0 (Nat.lt_succ_self _) (Nat.zero_le _) (by rw [F_counted, if_pos ⟨hrelh2, h3⟩, hx6]; show coN σ j5 rel n (cN (σ 10 j5)) = _; rw [cN_of h10 (by omega)]) ls (lv_sub hl [2, 3, 4, 5, 1, 0] rfl)
      · refine lv_if_ne (x := 0) (tgt := 30) hx hb dX5_counted_24 (by decide) (fun c => absurd (by decide) c) (fun c24 => ?_)
        refine lv_bipush (v := (-2)) hx hb dX5_counted_27 (by decide) ?_
        have eF : F_counted σ g rel n = (-2) := by simp [F_counted, h3, h4, hrelh2]
        exact W.iret (v := (-2)) hx hb hr (fun t ht hW => ⟨_, rfl, (by rw [eF]), ht⟩) (fun q hq => absurd hq List.not_mem_nil) dX5_counted_29
    · refine lv_if_ne (x := 0) (tgt := 19) hx hb dX5_counted_13 (by decide) (fun c => absurd (by decide) c) (fun c13 => ?_)
      refine lv_bipush (v := (-4)) hx hb dX5_counted_16 (by decide) ?_
      have eF : F_counted σ g rel n = (-4) := by simp [F_counted, h3, hrelh2]
      exact W.iret (v := (-4)) hx hb hr (fun t ht hW => ⟨_, rfl, (by rw [eF]), ht⟩) (fun q hq => absurd hq List.not_mem_nil) dX5_counted_18
  · have hrelh2 := mt rel6.mpr h2
    refine lv_if_eq (x := 0) (tgt := 16) hx hb dX5_counted_6 (by decide) (fun c6 => ?_) (fun c => absurd (by decide) c)
    refine lv_bipush (v := (-4)) hx hb dX5_counted_16 (by decide) ?_
    have eF : F_counted σ g rel n = (-4) := by simp [F_counted, hrelh2]
    exact W.iret (v := (-4)) hx hb hr (fun t ht hW => ⟨_, rfl, (by rw [eF]), ht⟩) (fun q hq => absurd hq List.not_mem_nil) dX5_counted_18
