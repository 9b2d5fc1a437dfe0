theorem LI.more {s : State} {D : va_G} {cy : Nat → ClassId} {H : Heap} {locs : List Loc} {cells slots N : Nat} {σ : SG} {α ρ : AD} (h : LI s D cy H locs cells slots σ α ρ N) (hN : N < 512) : LI s D cy H locs cells slots σ α ρ (N + 1) := by
  obtain ⟨h1, h2, h3, h4, h5, h6, h7, h8⟩ := h
  exact ⟨h1, h2, inv_more h3 (by omega), h4, h5, by omega, by omega, by omega⟩
theorem law_len {i L : Nat} (hL : L ≤ 3072) (hi : i ≤ L) (h : ¬ Int32.ofNat L - 6 < nI i) : i + 6 ≤ L := by
  rw [Int32.lt_iff_toInt_lt, Int32.toInt_sub, nI_toInt (by omega), show (Int32.ofNat L).toInt = (L : Int) from nI_toInt (by omega), show (6 : Int32).toInt = 6 from rfl, Int.bmod_eq_of_le (by omega) (by omega)] at h
  omega
set_option maxHeartbeats 4000000 in
set_option maxRecDepth 100000 in
theorem law_case {p : Program} {l : Launch} {e : Env} {s : State} {m : MethodId} {below : List Frame} {meth : Method} {c : Code} {b L : Nat} {xs : Nat → Int32} {D : va_G} {cy : Nat → ClassId} (hL : L ≤ 3072) (hx : p.tables.exec = Jvm.exec) (hb : c.code = cL_law) (hml : c.maxLocals = 4) (hown : s.vm.findClass RL = some m.cls) (hts : ∀ w ∈ wsL_law, w.before #[Value.ref b] s = true) (hX : va_X b L xs s s.heap) (hbl : b < s.heap.size) (hK : va_K D vwCl (TY cy) s) {H : Heap} {locs : List Loc} {cells slots N i : Nat} {σ : SG} {α ρ : AD} {ls : Array Slot} {Z : State → Prop} (hi : i + 6 ≤ L) (hl : lv_has ls 4 [(3, .int (nI i)), (2, .ref (ρ 0 0)), (1, .ref (α 0 0)), (0, .ref b)]) (hN : N < 512) (hI : LI s D cy H locs cells slots σ α ρ N) (kk : ∀ (H1 : Heap) (locs1 : List Loc) (cells1 slots1 : Nat) (σ1 : SG) (α1 ρ1 : AD), LI s D cy H1 locs1 cells1 slots1 σ1 α1 ρ1 (N + 1) → α1 0 0 = α 0 0 → ρ1 0 0 = ρ 0 0 → W p l e room_1 s m #[Value.ref b] below meth c H1 locs1 cells1 slots1 Z (F0 m 1092 ls [])) (y : Int32) : W p l e room_1 s m #[Value.ref b] below meth c H locs cells slots Z (F0 m 33 ls [.int y]) := by
  by_cases ho : y.toInt < 0 ∨ 25 < y.toInt
  · exact lv_tableOut (tgt := 1092) hx hb dL_law_33 ho (by decide) (kk _ _ _ _ _ _ _ (hI.more hN) rfl rfl)
  · have hy : y.toInt = 0 ∨ y.toInt = 1 ∨ y.toInt = 2 ∨ y.toInt = 3 ∨ y.toInt = 4 ∨ y.toInt = 5 ∨ y.toInt = 6 ∨ y.toInt = 7 ∨ y.toInt = 8 ∨ y.toInt = 9 ∨ y.toInt = 10 ∨ y.toInt = 11 ∨ y.toInt = 12 ∨ y.toInt = 13 ∨ y.toInt = 14 ∨ y.toInt = 15 ∨ y.toInt = 16 ∨ y.toInt = 17 ∨ y.toInt = 18 ∨ y.toInt = 19 ∨ y.toInt = 20 ∨ y.toInt = 21 ∨ y.toInt = 22 ∨ y.toInt = 23 ∨ y.toInt = 24 ∨ y.toInt = 25 := by omega
    rcases hy with h | h | h | h | h | h | h | h | h | h | h | h | h | h | h | h | h | h | h | h | h | h | h | h | h | h
    · exact lv_tableIn (off := 119) (tgt := 152) hx hb dL_law_33 (by omega) (by omega) (by rw [h]; rfl) (by decide) (law_make hL hx hb hml hown hts hX hbl hK hi hl hN hI kk)
    · exact lv_tableIn (off := 168) (tgt := 201) hx hb dL_law_33 (by omega) (by omega) (by rw [h]; rfl) (by decide) (law_limit hL hx hb hml hown hts hX hbl hK hi hl hN hI kk)
    · exact lv_tableIn (off := 227) (tgt := 260) hx hb dL_law_33 (by omega) (by omega) (by rw [h]; rfl) (by decide) (law_open hL hx hb hml hown hts hX hbl hK hi hl hN hI kk)
    · exact lv_tableIn (off := 276) (tgt := 309) hx hb dL_law_33 (by omega) (by omega) (by rw [h]; rfl) (by decide) (law_band hL hx hb hml hown hts hX hbl hK hi hl hN hI kk)
    · exact lv_tableIn (off := 309) (tgt := 342) hx hb dL_law_33 (by omega) (by omega) (by rw [h]; rfl) (by decide) (law_take hL hx hb hml hown hts hX hbl hK hi hl hN hI kk)
    · exact lv_tableIn (off := 342) (tgt := 375) hx hb dL_law_33 (by omega) (by omega) (by rw [h]; rfl) (by decide) (law_gap hL hx hb hml hown hts hX hbl hK hi hl hN hI kk)
    · exact lv_tableIn (off := 365) (tgt := 398) hx hb dL_law_33 (by omega) (by omega) (by rw [h]; rfl) (by decide) (law_clear hL hx hb hml hown hts hX hbl hK hi hl hN hI kk)
    · exact lv_tableIn (off := 388) (tgt := 421) hx hb dL_law_33 (by omega) (by omega) (by rw [h]; rfl) (by decide) (law_shown hL hx hb hml hown hts hX hbl hK hi hl hN hI kk)
    · exact lv_tableIn (off := 411) (tgt := 444) hx hb dL_law_33 (by omega) (by omega) (by rw [h]; rfl) (by decide) (law_mark hL hx hb hml hown hts hX hbl hK hi hl hN hI kk)
    · exact lv_tableIn (off := 460) (tgt := 493) hx hb dL_law_33 (by omega) (by omega) (by rw [h]; rfl) (by decide) (law_stale hL hx hb hml hown hts hX hbl hK hi hl hN hI kk)
    · exact lv_tableIn (off := 483) (tgt := 516) hx hb dL_law_33 (by omega) (by omega) (by rw [h]; rfl) (by decide) (law_stands hL hx hb hml hown hts hX hbl hK hi hl hN hI kk)
    · exact lv_tableIn (off := 526) (tgt := 559) hx hb dL_law_33 (by omega) (by omega) (by rw [h]; rfl) (by decide) (law_between hL hx hb hml hown hts hX hbl hK hi hl hN hI kk)
    · exact lv_tableIn (off := 605) (tgt := 638) hx hb dL_law_33 (by omega) (by omega) (by rw [h]; rfl) (by decide) (law_level hL hx hb hml hown hts hX hbl hK hi hl hN hI kk)
    · exact lv_tableIn (off := 684) (tgt := 717) hx hb dL_law_33 (by omega) (by omega) (by rw [h]; rfl) (by decide) (law_holds hL hx hb hml hown hts hX hbl hK hi hl hN hI kk)
    · exact lv_tableIn (off := 707) (tgt := 740) hx hb dL_law_33 (by omega) (by omega) (by rw [h]; rfl) (by decide) (law_trip hL hx hb hml hown hts hX hbl hK hi hl hN hI kk)
    · exact lv_tableIn (off := 740) (tgt := 773) hx hb dL_law_33 (by omega) (by omega) (by rw [h]; rfl) (by decide) (law_part hL hx hb hml hown hts hX hbl hK hi hl hN hI kk)
    · exact lv_tableIn (off := 773) (tgt := 806) hx hb dL_law_33 (by omega) (by omega) (by rw [h]; rfl) (by decide) (law_scan hL hx hb hml hown hts hX hbl hK hi hl hN hI kk)
    · exact lv_tableIn (off := 786) (tgt := 819) hx hb dL_law_33 (by omega) (by omega) (by rw [h]; rfl) (by decide) (law_reset hL hx hb hml hown hts hX hbl hK hi hl hN hI kk)
    · exact lv_tableIn (off := 809) (tgt := 842) hx hb dL_law_33 (by omega) (by omega) (by rw [h]; rfl) (by decide) (law_votes hL hx hb hml hown hts hX hbl hK hi hl hN hI kk)
    · exact lv_tableIn (off := 832) (tgt := 865) hx hb dL_law_33 (by omega) (by omega) (by rw [h]; rfl) (by decide) (law_tripped hL hx hb hml hown hts hX hbl hK hi hl hN hI kk)
    · exact lv_tableIn (off := 855) (tgt := 888) hx hb dL_law_33 (by omega) (by omega) (by rw [h]; rfl) (by decide) (law_order hL hx hb hml hown hts hX hbl hK hi hl hN hI kk)
    · exact lv_tableIn (off := 878) (tgt := 911) hx hb dL_law_33 (by omega) (by omega) (by rw [h]; rfl) (by decide) (law_extreme hL hx hb hml hown hts hX hbl hK hi hl hN hI kk)
    · exact lv_tableIn (off := 917) (tgt := 950) hx hb dL_law_33 (by omega) (by omega) (by rw [h]; rfl) (by decide) (law_since hL hx hb hml hown hts hX hbl hK hi hl hN hI kk)
    · exact lv_tableIn (off := 960) (tgt := 993) hx hb dL_law_33 (by omega) (by omega) (by rw [h]; rfl) (by decide) (law_counted hL hx hb hml hown hts hX hbl hK hi hl hN hI kk)
    · exact lv_tableIn (off := 1003) (tgt := 1036) hx hb dL_law_33 (by omega) (by omega) (by rw [h]; rfl) (by decide) (law_event hL hx hb hml hown hts hX hbl hK hi hl hN hI kk)
    · exact lv_tableIn (off := 1036) (tgt := 1069) hx hb dL_law_33 (by omega) (by omega) (by rw [h]; rfl) (by decide) (law_about hL hx hb hml hown hts hX hbl hK hi hl hN hI kk)
set_option maxHeartbeats 4000000 in
set_option maxRecDepth 100000 in
theorem law_loop {p : Program} {l : Launch} {e : Env} {s : State} {m : MethodId} {below : List Frame} {meth : Method} {c : Code} {b L : Nat} {xs : Nat → Int32} {D : va_G} {cy : Nat → ClassId} (hL : L ≤ 3072) (hx : p.tables.exec = Jvm.exec) (hb : c.code = cL_law) (hml : c.maxLocals = 4) (hown : s.vm.findClass RL = some m.cls) (hts : ∀ w ∈ wsL_law, w.before #[Value.ref b] s = true) (hX : va_X b L xs s s.heap) (hbl : b < s.heap.size) (hK : va_K D vwCl (TY cy) s) {Z : State → Prop} (kend : ∀ (H : Heap) (locs : List Loc) (cells slots : Nat) (ls : Array Slot), va_S (A0 s) s.heap H locs → cells ≤ 1572 → slots ≤ 12567 → W p l e room_1 s m #[Value.ref b] below meth c H locs cells slots Z (F0 m 1098 ls [])) : ∀ (n i N : Nat), L < i + n → i ≤ L → i = 6 * N → ∀ (H : Heap) (locs : List Loc) (cells slots : Nat) (σ : SG) (α ρ : AD) (ls : Array Slot), lv_has ls 4 [(3, .int (nI i)), (2, .ref (ρ 0 0)), (1, .ref (α 0 0)), (0, .ref b)] → LI s D cy H locs cells slots σ α ρ N → W p l e room_1 s m #[Value.ref b] below meth c H locs cells slots Z (F0 m 18 ls []) := by
  intro n
  induction n with
  | zero => intro i N h1 h2; omega
  | succ n ih =>
    intro i N hlt hiL hiN H locs cells slots σ α ρ ls hl hI
    have hbA : ¬ A0 s b := fun q => absurd hbl (Nat.not_lt.mpr q)
    have hS := hI.2.2.2.1
    refine lv_iload_n hx hb dL_law_18 rfl (lv_at hl 0 rfl) ?_
    refine lv_aload_n hx hb dL_law_19 rfl (lv_at hl 3 rfl) ?_
    refine va_slen hx hb hX hbl hbA hS dL_law_20 ?_
    refine lv_bipush (v := 6) hx hb dL_law_21 (by decide) ?_
    refine lv_isub hx hb dL_law_23 ?_
    refine lv_icmp_gt (x := nI i) (tgt := 1098) hx hb dL_law_24 (by decide) (fun c24 => ?_) (fun c24 => ?_)
    · obtain ⟨-, -, -, -, -, h6, h7, h8⟩ := hI
      exact kend _ _ _ _ _ hS (by omega) (by omega)
    · have hi : i + 6 ≤ L := law_len hL hiL c24
      have hN : N < 512 := by omega
      refine lv_aload_n hx hb dL_law_27 rfl (lv_at hl 3 rfl) ?_
      refine lv_iload_n hx hb dL_law_28 rfl (lv_at hl 0 rfl) ?_
      refine va_sld hx hb hX hbl hbA hS (fun q => by
        rcases q with q | q
        · exact nI_pos (by omega) q
        · rw [nI_clamp (by omega)] at q; omega) dL_law_29 ?_
      refine lv_bipush (v := 31) hx hb dL_law_30 (by decide) ?_
      refine lv_iand hx hb dL_law_32 ?_
      refine law_case hL hx hb hml hown hts hX hbl hK hi hl hN hI (fun H1 locs1 cells1 slots1 σ1 α1 ρ1 hI1 ha hr => ?_) _
      refine lv_iinc (v := nI (i + 6)) (lv' := [(3, .int (nI (i + 6))), (2, .ref (ρ 0 0)), (1, .ref (α 0 0)), (0, .ref b)]) hx hb dL_law_1092 hl (k := 0) rfl (nI_add i 6) (by decide) rfl (fun ls hl => ?_)
      refine lv_goto (tgt := 18) hx hb dL_law_1095 (by decide) ?_
      exact ih (i + 6) (N + 1) (by omega) hi (by omega) _ _ _ _ σ1 α1 ρ1 ls (by rw [ha, hr]; exact hl) hI1
