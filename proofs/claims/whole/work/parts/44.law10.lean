set_option maxHeartbeats 4000000 in
set_option maxRecDepth 100000 in
theorem law_level {p : Program} {l : Launch} {e : Env} {s : State} {m : MethodId} {below : List Frame} {meth : Method} {c : Code} {b L : Nat} {xs : Nat → Int32} {D : va_G} {cy : Nat → ClassId} (hL : L ≤ 3072) (hx : p.tables.exec = Jvm.exec) (hb : c.code = cL_law) (hml : c.maxLocals = 4) (hown : s.vm.findClass RL = some m.cls) (hts : ∀ w ∈ wsL_law, w.before #[Value.ref b] s = true) (hX : va_X b L xs s s.heap) (hbl : b < s.heap.size) (hK : va_K D vwCl (TY cy) s) {H : Heap} {locs : List Loc} {cells slots N i : Nat} {σ : SG} {α ρ : AD} {ls : Array Slot} {Z : State → Prop} (hi : i + 6 ≤ L) (hl : lv_has ls 4 [(3, .int (nI i)), (2, .ref (ρ 0 0)), (1, .ref (α 0 0)), (0, .ref b)]) (hN : N < 512) (hI : LI s D cy H locs cells slots σ α ρ N) (kk : ∀ (H1 : Heap) (locs1 : List Loc) (cells1 slots1 : Nat) (σ1 : SG) (α1 ρ1 : AD), LI s D cy H1 locs1 cells1 slots1 σ1 α1 ρ1 (N + 1) → α1 0 0 = α 0 0 → ρ1 0 0 = ρ 0 0 → W p l e room_1 s m #[Value.ref b] below meth c H1 locs1 cells1 slots1 Z (F0 m 1092 ls [])) : W p l e room_1 s m #[Value.ref b] below meth c H locs cells slots Z (F0 m 638 ls []) := by
  obtain ⟨hPc, hPr, hInv, hS, hsz, hce, hsl, -⟩ := hI
  have hbA : ¬ A0 s b := fun q => absurd hbl (Nat.not_lt.mpr q)
  obtain ⟨β, hβ, hPc, hq⟩ := pw_cond hPc H.size
  have hAC : ∀ q, H.size ≤ q → AC s q := fun q hq => ⟨by omega, fun h => by have := h.2; omega⟩
  have kk : ∀ (H1 : Heap) (locs1 : List Loc) (cells1 slots1 : Nat) (σ1 : SG) (α1 ρ1 : AD), LI s D cy H1 locs1 cells1 slots1 σ1 α1 ρ1 (N + 1) → α1 0 0 = β 0 0 → ρ1 0 0 = ρ 0 0 → W p l e room_1 s m #[Value.ref b] below meth c H1 locs1 cells1 slots1 Z (F0 m 1092 ls []) := fun H1 locs1 cells1 slots1 σ1 α1 ρ1 h1 h2 h3 => kk H1 locs1 cells1 slots1 σ1 α1 ρ1 h1 (h2.trans hβ) h3
  rw [← hβ] at hl
  clear hβ
  refine lv_aload_n hx hb dL_law_638 rfl (lv_at hl 2 rfl) ?_
  refine lv_aload_n hx hb dL_law_639 rfl (lv_at hl 3 rfl) ?_
  refine lv_iload_n hx hb dL_law_640 rfl (lv_at hl 0 rfl) ?_
  refine lv_iconst (v := 1) hx hb dL_law_641 (by decide) ?_
  refine lv_iadd hx hb dL_law_642 ?_
  refine va_sld hx hb hX hbl hbA hS (law_in (k := 1) rfl (by omega) hL) dL_law_643 ?_
  refine lv_aload_n hx hb dL_law_644 rfl (lv_at hl 3 rfl) ?_
  refine lv_iload_n hx hb dL_law_645 rfl (lv_at hl 0 rfl) ?_
  refine lv_iconst (v := 2) hx hb dL_law_646 (by decide) ?_
  refine lv_iadd hx hb dL_law_647 ?_
  refine va_sld hx hb hX hbl hbA hS (law_in (k := 2) rfl (by omega) hL) dL_law_648 ?_
  refine lv_aload_n hx hb dL_law_649 rfl (lv_at hl 3 rfl) ?_
  refine lv_iload_n hx hb dL_law_650 rfl (lv_at hl 0 rfl) ?_
  refine lv_iconst (v := 3) hx hb dL_law_651 (by decide) ?_
  refine lv_iadd hx hb dL_law_652 ?_
  refine va_sld hx hb hX hbl hbA hS (law_in (k := 3) rfl (by omega) hL) dL_law_653 ?_
  refine lv_aload_n hx hb dL_law_654 rfl (lv_at hl 3 rfl) ?_
  refine lv_iload_n hx hb dL_law_655 rfl (lv_at hl 0 rfl) ?_
  refine lv_iconst (v := 4) hx hb dL_law_656 (by decide) ?_
  refine lv_iadd hx hb dL_law_657 ?_
  refine va_sld hx hb hX hbl hbA hS (law_in (k := 4) rfl (by omega) hL) dL_law_658 ?_
  refine lv_aload_n hx hb dL_law_659 rfl (lv_at hl 3 rfl) ?_
  refine lv_iload_n hx hb dL_law_660 rfl (lv_at hl 0 rfl) ?_
  refine lv_iconst (v := 5) hx hb dL_law_661 (by decide) ?_
  refine lv_iadd hx hb dL_law_662 ?_
  refine va_sld hx hb hX hbl hbA hS (law_in (k := 5) rfl (by omega) hL) dL_law_663 ?_
  refine lv_if_eq (x := (xs ((nI i) + 5).toNatClampNeg)) (tgt := 671) hx hb dL_law_664 (by decide) (fun c664 => ?_) (fun c664 => ?_)
  · refine lv_iconst (v := 0) hx hb dL_law_671 (by decide) ?_
    refine va_calli (va_runV (As := [.int (xs ((nI i) + 1).toNatClampNeg), .int (xs ((nI i) + 2).toNatClampNeg), .int (xs ((nI i) + 3).toNatClampNeg), .int (xs ((nI i) + 4).toNatClampNeg), .int 0]) (rest := []) ⟨hx, hb, hml, hown, hts⟩ (c_X4_level l D cy (AC s) β σ H.size (xs ((nI i) + 1).toNatClampNeg) (xs ((nI i) + 2).toNatClampNeg) (xs ((nI i) + 3).toNatClampNeg) (xs ((nI i) + 4).toNatClampNeg) 0 (Or.inl rfl) hAC (fun j _ _ => hq j)) (cwV 5 hts gL_law_X4_level rfl rfl rfl (by decide +kernel) ⟨Nat.le_of_ble_eq_true rfl, Nat.le_of_ble_eq_true rfl⟩) ⟨px_blind, pw_recv hPc hK cc_0 rfl, px_pre hPc hK rfl⟩ rfl rfl hl.1 rfl (lv_room (Nat.le_of_ble_eq_true rfl)) dL_law_672 ⟨(by show cells + 1 ≤ 600000; omega), (by show slots + 5 ≤ 7302250; omega)⟩) hS (fun q _ h => h.1) (fun q h => h.1) (fun r γ t H1 locs ht hvm hw hB hz1 hk1 hS => ?_)
    rw [ht] at hB
    have hPc := hB
    have hPr := keptR hPr hk1
    have hsz : s.heap.size + 36 ≤ H1.size := Nat.le_trans hsz hz1
    clear hB hk1 hz1 ht hvm
    skip
    obtain ⟨hw, hu⟩ := hw
    subst hw
    refine lv_aload_n hx hb dL_law_675 rfl (lv_at hl 1 rfl) ?_
    refine lv_aload_n hx hb dL_law_676 rfl (lv_at hl 3 rfl) ?_
    refine lv_iload_n hx hb dL_law_677 rfl (lv_at hl 0 rfl) ?_
    refine lv_iconst (v := 1) hx hb dL_law_678 (by decide) ?_
    refine lv_iadd hx hb dL_law_679 ?_
    refine va_sld hx hb hX hbl hbA hS (law_in (k := 1) rfl (by omega) hL) dL_law_680 ?_
    refine lv_aload_n hx hb dL_law_681 rfl (lv_at hl 3 rfl) ?_
    refine lv_iload_n hx hb dL_law_682 rfl (lv_at hl 0 rfl) ?_
    refine lv_iconst (v := 2) hx hb dL_law_683 (by decide) ?_
    refine lv_iadd hx hb dL_law_684 ?_
    refine va_sld hx hb hX hbl hbA hS (law_in (k := 2) rfl (by omega) hL) dL_law_685 ?_
    refine lv_aload_n hx hb dL_law_686 rfl (lv_at hl 3 rfl) ?_
    refine lv_iload_n hx hb dL_law_687 rfl (lv_at hl 0 rfl) ?_
    refine lv_iconst (v := 3) hx hb dL_law_688 (by decide) ?_
    refine lv_iadd hx hb dL_law_689 ?_
    refine va_sld hx hb hX hbl hbA hS (law_in (k := 3) rfl (by omega) hL) dL_law_690 ?_
    refine lv_aload_n hx hb dL_law_691 rfl (lv_at hl 3 rfl) ?_
    refine lv_iload_n hx hb dL_law_692 rfl (lv_at hl 0 rfl) ?_
    refine lv_iconst (v := 4) hx hb dL_law_693 (by decide) ?_
    refine lv_iadd hx hb dL_law_694 ?_
    refine va_sld hx hb hX hbl hbA hS (law_in (k := 4) rfl (by omega) hL) dL_law_695 ?_
    refine lv_aload_n hx hb dL_law_696 rfl (lv_at hl 3 rfl) ?_
    refine lv_iload_n hx hb dL_law_697 rfl (lv_at hl 0 rfl) ?_
    refine lv_iconst (v := 5) hx hb dL_law_698 (by decide) ?_
    refine lv_iadd hx hb dL_law_699 ?_
    refine va_sld hx hb hX hbl hbA hS (law_in (k := 5) rfl (by omega) hL) dL_law_700 ?_
    refine lv_if_eq (x := (xs ((nI i) + 5).toNatClampNeg)) (tgt := 708) hx hb dL_law_701 (by decide) (fun c701 => ?_) (fun c => absurd c664 c)
    refine lv_iconst (v := 0) hx hb dL_law_708 (by decide) ?_
    refine va_calli (va_runV (As := [.int (xs ((nI i) + 1).toNatClampNeg), .int (xs ((nI i) + 2).toNatClampNeg), .int (xs ((nI i) + 3).toNatClampNeg), .int (xs ((nI i) + 4).toNatClampNeg), .int 0]) (rest := [.int ((F_level σ (xs ((nI i) + 1).toNatClampNeg) (xs ((nI i) + 2).toNatClampNeg) (xs ((nI i) + 3).toNatClampNeg) (xs ((nI i) + 4).toNatClampNeg) 0).1)]) ⟨hx, hb, hml, hown, hts⟩ (c_X5_level l D cy (AR s) ρ σ (xs ((nI i) + 1).toNatClampNeg) (xs ((nI i) + 2).toNatClampNeg) (xs ((nI i) + 3).toNatClampNeg) (xs ((nI i) + 4).toNatClampNeg) 0 (Or.inl rfl)) (cwV 5 hts gL_law_X5_level rfl rfl rfl (by decide +kernel) ⟨Nat.le_of_ble_eq_true rfl, Nat.le_of_ble_eq_true rfl⟩) ⟨pb_blind, pw_recv hPr hK cr_obj rfl, pb_pre hPr hK⟩ rfl rfl hl.1 rfl (lv_room (Nat.le_of_ble_eq_true rfl)) dL_law_709 ⟨(by show cells + 1 + 0 ≤ 600000; omega), (by show slots + 5 + 0 ≤ 7302250; omega)⟩) hS (fun q _ h => by have := h.1; show s.heap.size ≤ q; omega) (fun q h => by have := h.1; show s.heap.size ≤ q; omega) (fun r u t H1 locs ht hvm hw hB hz1 hk1 hS => ?_)
    rw [ht] at hB
    have hPr := hB
    have hPc := keptC hPc hk1
    have hsz : s.heap.size + 36 ≤ H1.size := Nat.le_trans hsz hz1
    clear hB hk1 hz1 ht hvm
    skip
    subst hw
    refine lv_icmp_eq (x := ((F_level σ (xs ((nI i) + 1).toNatClampNeg) (xs ((nI i) + 2).toNatClampNeg) (xs ((nI i) + 3).toNatClampNeg) (xs ((nI i) + 4).toNatClampNeg) 0).1)) (y := ((F_level σ (xs ((nI i) + 1).toNatClampNeg) (xs ((nI i) + 2).toNatClampNeg) (xs ((nI i) + 3).toNatClampNeg) (xs ((nI i) + 4).toNatClampNeg) 0).1)) (tgt := 1092) hx hb dL_law_712 (by decide) (fun c712 => ?_) (fun c => absurd rfl c)
    exact kk _ _ _ _ (F_level σ (xs ((nI i) + 1).toNatClampNeg) (xs ((nI i) + 2).toNatClampNeg) (xs ((nI i) + 3).toNatClampNeg) (xs ((nI i) + 4).toNatClampNeg) 0).2 γ ρ ⟨hPc, hPr, inv_more (inv_level (Or.inl rfl) hInv) (by omega), hS, hsz, by omega, by omega, by omega⟩ hu rfl
  · refine lv_iconst (v := 1) hx hb dL_law_667 (by decide) ?_
    refine lv_goto (tgt := 672) hx hb dL_law_668 (by decide) ?_
    refine va_calli (va_runV (As := [.int (xs ((nI i) + 1).toNatClampNeg), .int (xs ((nI i) + 2).toNatClampNeg), .int (xs ((nI i) + 3).toNatClampNeg), .int (xs ((nI i) + 4).toNatClampNeg), .int 1]) (rest := []) ⟨hx, hb, hml, hown, hts⟩ (c_X4_level l D cy (AC s) β σ H.size (xs ((nI i) + 1).toNatClampNeg) (xs ((nI i) + 2).toNatClampNeg) (xs ((nI i) + 3).toNatClampNeg) (xs ((nI i) + 4).toNatClampNeg) 1 (Or.inr rfl) hAC (fun j _ _ => hq j)) (cwV 5 hts gL_law_X4_level rfl rfl rfl (by decide +kernel) ⟨Nat.le_of_ble_eq_true rfl, Nat.le_of_ble_eq_true rfl⟩) ⟨px_blind, pw_recv hPc hK cc_0 rfl, px_pre hPc hK rfl⟩ rfl rfl hl.1 rfl (lv_room (Nat.le_of_ble_eq_true rfl)) dL_law_672 ⟨(by show cells + 1 ≤ 600000; omega), (by show slots + 5 ≤ 7302250; omega)⟩) hS (fun q _ h => h.1) (fun q h => h.1) (fun r γ t H1 locs ht hvm hw hB hz1 hk1 hS => ?_)
    rw [ht] at hB
    have hPc := hB
    have hPr := keptR hPr hk1
    have hsz : s.heap.size + 36 ≤ H1.size := Nat.le_trans hsz hz1
    clear hB hk1 hz1 ht hvm
    skip
    obtain ⟨hw, hu⟩ := hw
    subst hw
    refine lv_aload_n hx hb dL_law_675 rfl (lv_at hl 1 rfl) ?_
    refine lv_aload_n hx hb dL_law_676 rfl (lv_at hl 3 rfl) ?_
    refine lv_iload_n hx hb dL_law_677 rfl (lv_at hl 0 rfl) ?_
    refine lv_iconst (v := 1) hx hb dL_law_678 (by decide) ?_
    refine lv_iadd hx hb dL_law_679 ?_
    refine va_sld hx hb hX hbl hbA hS (law_in (k := 1) rfl (by omega) hL) dL_law_680 ?_
    refine lv_aload_n hx hb dL_law_681 rfl (lv_at hl 3 rfl) ?_
    refine lv_iload_n hx hb dL_law_682 rfl (lv_at hl 0 rfl) ?_
    refine lv_iconst (v := 2) hx hb dL_law_683 (by decide) ?_
    refine lv_iadd hx hb dL_law_684 ?_
    refine va_sld hx hb hX hbl hbA hS (law_in (k := 2) rfl (by omega) hL) dL_law_685 ?_
    refine lv_aload_n hx hb dL_law_686 rfl (lv_at hl 3 rfl) ?_
    refine lv_iload_n hx hb dL_law_687 rfl (lv_at hl 0 rfl) ?_
    refine lv_iconst (v := 3) hx hb dL_law_688 (by decide) ?_
    refine lv_iadd hx hb dL_law_689 ?_
    refine va_sld hx hb hX hbl hbA hS (law_in (k := 3) rfl (by omega) hL) dL_law_690 ?_
    refine lv_aload_n hx hb dL_law_691 rfl (lv_at hl 3 rfl) ?_
    refine lv_iload_n hx hb dL_law_692 rfl (lv_at hl 0 rfl) ?_
    refine lv_iconst (v := 4) hx hb dL_law_693 (by decide) ?_
    refine lv_iadd hx hb dL_law_694 ?_
    refine va_sld hx hb hX hbl hbA hS (law_in (k := 4) rfl (by omega) hL) dL_law_695 ?_
    refine lv_aload_n hx hb dL_law_696 rfl (lv_at hl 3 rfl) ?_
    refine lv_iload_n hx hb dL_law_697 rfl (lv_at hl 0 rfl) ?_
    refine lv_iconst (v := 5) hx hb dL_law_698 (by decide) ?_
    refine lv_iadd hx hb dL_law_699 ?_
    refine va_sld hx hb hX hbl hbA hS (law_in (k := 5) rfl (by omega) hL) dL_law_700 ?_
    refine lv_if_eq (x := (xs ((nI i) + 5).toNatClampNeg)) (tgt := 708) hx hb dL_law_701 (by decide) (fun c => absurd c c664) (fun c701 => ?_)
    refine lv_iconst (v := 1) hx hb dL_law_704 (by decide) ?_
    refine lv_goto (tgt := 709) hx hb dL_law_705 (by decide) ?_
    refine va_calli (va_runV (As := [.int (xs ((nI i) + 1).toNatClampNeg), .int (xs ((nI i) + 2).toNatClampNeg), .int (xs ((nI i) + 3).toNatClampNeg), .int (xs ((nI i) + 4).toNatClampNeg), .int 1]) (rest := [.int ((F_level σ (xs ((nI i) + 1).toNatClampNeg) (xs ((nI i) + 2).toNatClampNeg) (xs ((nI i) + 3).toNatClampNeg) (xs ((nI i) + 4).toNatClampNeg) 1).1)]) ⟨hx, hb, hml, hown, hts⟩ (c_X5_level l D cy (AR s) ρ σ (xs ((nI i) + 1).toNatClampNeg) (xs ((nI i) + 2).toNatClampNeg) (xs ((nI i) + 3).toNatClampNeg) (xs ((nI i) + 4).toNatClampNeg) 1 (Or.inr rfl)) (cwV 5 hts gL_law_X5_level rfl rfl rfl (by decide +kernel) ⟨Nat.le_of_ble_eq_true rfl, Nat.le_of_ble_eq_true rfl⟩) ⟨pb_blind, pw_recv hPr hK cr_obj rfl, pb_pre hPr hK⟩ rfl rfl hl.1 rfl (lv_room (Nat.le_of_ble_eq_true rfl)) dL_law_709 ⟨(by show cells + 1 + 0 ≤ 600000; omega), (by show slots + 5 + 0 ≤ 7302250; omega)⟩) hS (fun q _ h => by have := h.1; show s.heap.size ≤ q; omega) (fun q h => by have := h.1; show s.heap.size ≤ q; omega) (fun r u t H1 locs ht hvm hw hB hz1 hk1 hS => ?_)
    rw [ht] at hB
    have hPr := hB
    have hPc := keptC hPc hk1
    have hsz : s.heap.size + 36 ≤ H1.size := Nat.le_trans hsz hz1
    clear hB hk1 hz1 ht hvm
    skip
    subst hw
    refine lv_icmp_eq (x := ((F_level σ (xs ((nI i) + 1).toNatClampNeg) (xs ((nI i) + 2).toNatClampNeg) (xs ((nI i) + 3).toNatClampNeg) (xs ((nI i) + 4).toNatClampNeg) 1).1)) (y := ((F_level σ (xs ((nI i) + 1).toNatClampNeg) (xs ((nI i) + 2).toNatClampNeg) (xs ((nI i) + 3).toNatClampNeg) (xs ((nI i) + 4).toNatClampNeg) 1).1)) (tgt := 1092) hx hb dL_law_712 (by decide) (fun c712 => ?_) (fun c => absurd rfl c)
    exact kk _ _ _ _ (F_level σ (xs ((nI i) + 1).toNatClampNeg) (xs ((nI i) + 2).toNatClampNeg) (xs ((nI i) + 3).toNatClampNeg) (xs ((nI i) + 4).toNatClampNeg) 1).2 γ ρ ⟨hPc, hPr, inv_more (inv_level (Or.inr rfl) hInv) (by omega), hS, hsz, by omega, by omega, by omega⟩ hu rfl
