set_option maxHeartbeats 4000000 in
set_option maxRecDepth 100000 in
theorem law_trip {p : Program} {l : Launch} {e : Env} {s : State} {m : MethodId} {below : List Frame} {meth : Method} {c : Code} {b L : Nat} {xs : Nat → Int32} {D : va_G} {cy : Nat → ClassId} (hL : L ≤ 3072) (hx : p.tables.exec = Jvm.exec) (hb : c.code = cL_law) (hml : c.maxLocals = 4) (hown : s.vm.findClass RL = some m.cls) (hts : ∀ w ∈ wsL_law, w.before #[Value.ref b] s = true) (hX : va_X b L xs s s.heap) (hbl : b < s.heap.size) (hK : va_K D vwCl (TY cy) s) {H : Heap} {locs : List Loc} {cells slots N i : Nat} {σ : SG} {α ρ : AD} {ls : Array Slot} {Z : State → Prop} (hi : i + 6 ≤ L) (hl : lv_has ls 4 [(3, .int (nI i)), (2, .ref (ρ 0 0)), (1, .ref (α 0 0)), (0, .ref b)]) (hN : N < 512) (hI : LI s D cy H locs cells slots σ α ρ N) (kk : ∀ (H1 : Heap) (locs1 : List Loc) (cells1 slots1 : Nat) (σ1 : SG) (α1 ρ1 : AD), LI s D cy H1 locs1 cells1 slots1 σ1 α1 ρ1 (N + 1) → α1 0 0 = α 0 0 → ρ1 0 0 = ρ 0 0 → W p l e room_1 s m #[Value.ref b] below meth c H1 locs1 cells1 slots1 Z (F0 m 1092 ls [])) : W p l e room_1 s m #[Value.ref b] below meth c H locs cells slots Z (F0 m 740 ls []) := by
  obtain ⟨hPc, hPr, hInv, hS, hsz, hce, hsl, -⟩ := hI
  have hbA : ¬ A0 s b := fun q => absurd hbl (Nat.not_lt.mpr q)
  obtain ⟨β, hβ, hPc, hq⟩ := pw_tripn hPc H.size
  have hAC : ∀ q, H.size ≤ q → AC s q := fun q hq => ⟨by omega, fun h => by have := h.2; omega⟩
  have kk : ∀ (H1 : Heap) (locs1 : List Loc) (cells1 slots1 : Nat) (σ1 : SG) (α1 ρ1 : AD), LI s D cy H1 locs1 cells1 slots1 σ1 α1 ρ1 (N + 1) → α1 0 0 = β 0 0 → ρ1 0 0 = ρ 0 0 → W p l e room_1 s m #[Value.ref b] below meth c H1 locs1 cells1 slots1 Z (F0 m 1092 ls []) := fun H1 locs1 cells1 slots1 σ1 α1 ρ1 h1 h2 h3 => kk H1 locs1 cells1 slots1 σ1 α1 ρ1 h1 (h2.trans hβ) h3
  rw [← hβ] at hl
  clear hβ
  refine lv_aload_n hx hb dL_law_740 rfl (lv_at hl 2 rfl) ?_
  refine lv_aload_n hx hb dL_law_741 rfl (lv_at hl 3 rfl) ?_
  refine lv_iload_n hx hb dL_law_742 rfl (lv_at hl 0 rfl) ?_
  refine lv_iconst (v := 1) hx hb dL_law_743 (by decide) ?_
  refine lv_iadd hx hb dL_law_744 ?_
  refine va_sld hx hb hX hbl hbA hS (law_in (k := 1) rfl (by omega) hL) dL_law_745 ?_
  refine lv_aload_n hx hb dL_law_746 rfl (lv_at hl 3 rfl) ?_
  refine lv_iload_n hx hb dL_law_747 rfl (lv_at hl 0 rfl) ?_
  refine lv_iconst (v := 2) hx hb dL_law_748 (by decide) ?_
  refine lv_iadd hx hb dL_law_749 ?_
  refine va_sld hx hb hX hbl hbA hS (law_in (k := 2) rfl (by omega) hL) dL_law_750 ?_
  refine va_calli (va_runV (As := [.int (xs ((nI i) + 1).toNatClampNeg), .int (xs ((nI i) + 2).toNatClampNeg)]) (rest := []) ⟨hx, hb, hml, hown, hts⟩ (c_X4_trip l D cy (AC s) β σ H.size (xs ((nI i) + 1).toNatClampNeg) (xs ((nI i) + 2).toNatClampNeg) hAC (fun j _ _ => hq j)) (cwV 2 hts gL_law_X4_trip rfl rfl rfl (by decide +kernel) ⟨Nat.le_of_ble_eq_true rfl, Nat.le_of_ble_eq_true rfl⟩) ⟨px_blind, pw_recv hPc hK cc_0 rfl, px_pre hPc hK rfl⟩ rfl rfl hl.1 rfl (lv_room (Nat.le_of_ble_eq_true rfl)) dL_law_751 ⟨(by show cells + 2 ≤ 600000; omega), (by show slots + 10 ≤ 7302250; omega)⟩) hS (fun q _ h => h.1) (fun q h => h.1) (fun r γ t H1 locs ht hvm hw hB hz1 hk1 hS => ?_)
  rw [ht] at hB
  have hPc := hB
  have hPr := keptR hPr hk1
  have hsz : s.heap.size + 36 ≤ H1.size := Nat.le_trans hsz hz1
  clear hB hk1 hz1 ht hvm
  skip
  obtain ⟨hw, hu⟩ := hw
  subst hw
  refine lv_aload_n hx hb dL_law_754 rfl (lv_at hl 1 rfl) ?_
  refine lv_aload_n hx hb dL_law_755 rfl (lv_at hl 3 rfl) ?_
  refine lv_iload_n hx hb dL_law_756 rfl (lv_at hl 0 rfl) ?_
  refine lv_iconst (v := 1) hx hb dL_law_757 (by decide) ?_
  refine lv_iadd hx hb dL_law_758 ?_
  refine va_sld hx hb hX hbl hbA hS (law_in (k := 1) rfl (by omega) hL) dL_law_759 ?_
  refine lv_aload_n hx hb dL_law_760 rfl (lv_at hl 3 rfl) ?_
  refine lv_iload_n hx hb dL_law_761 rfl (lv_at hl 0 rfl) ?_
  refine lv_iconst (v := 2) hx hb dL_law_762 (by decide) ?_
  refine lv_iadd hx hb dL_law_763 ?_
  refine va_sld hx hb hX hbl hbA hS (law_in (k := 2) rfl (by omega) hL) dL_law_764 ?_
  refine va_calli (va_runV (As := [.int (xs ((nI i) + 1).toNatClampNeg), .int (xs ((nI i) + 2).toNatClampNeg)]) (rest := [.int ((F_trip σ (xs ((nI i) + 1).toNatClampNeg) (xs ((nI i) + 2).toNatClampNeg)).1)]) ⟨hx, hb, hml, hown, hts⟩ (c_X5_trip l D cy (AR s) ρ σ (xs ((nI i) + 1).toNatClampNeg) (xs ((nI i) + 2).toNatClampNeg) ) (cwV 2 hts gL_law_X5_trip rfl rfl rfl (by decide +kernel) ⟨Nat.le_of_ble_eq_true rfl, Nat.le_of_ble_eq_true rfl⟩) ⟨pb_blind, pw_recv hPr hK cr_obj rfl, pb_pre hPr hK⟩ rfl rfl hl.1 rfl (lv_room (Nat.le_of_ble_eq_true rfl)) dL_law_765 ⟨(by show cells + 2 + 0 ≤ 600000; omega), (by show slots + 10 + 0 ≤ 7302250; omega)⟩) hS (fun q _ h => by have := h.1; show s.heap.size ≤ q; omega) (fun q h => by have := h.1; show s.heap.size ≤ q; omega) (fun r u t H1 locs ht hvm hw hB hz1 hk1 hS => ?_)
  rw [ht] at hB
  have hPr := hB
  have hPc := keptC hPc hk1
  have hsz : s.heap.size + 36 ≤ H1.size := Nat.le_trans hsz hz1
  clear hB hk1 hz1 ht hvm
  skip
  subst hw
  refine lv_icmp_eq (x := ((F_trip σ (xs ((nI i) + 1).toNatClampNeg) (xs ((nI i) + 2).toNatClampNeg)).1)) (y := ((F_trip σ (xs ((nI i) + 1).toNatClampNeg) (xs ((nI i) + 2).toNatClampNeg)).1)) (tgt := 1092) hx hb dL_law_768 (by decide) (fun c768 => ?_) (fun c => absurd rfl c)
  exact kk _ _ _ _ (F_trip σ (xs ((nI i) + 1).toNatClampNeg) (xs ((nI i) + 2).toNatClampNeg)).2 γ ρ ⟨hPc, hPr, inv_more (inv_trip hInv) (by omega), hS, hsz, by omega, by omega, by omega⟩ hu rfl
