set_option maxHeartbeats 4000000 in
set_option maxRecDepth 100000 in
theorem law_reset {p : Program} {l : Launch} {e : Env} {s : State} {m : MethodId} {below : List Frame} {meth : Method} {c : Code} {b L : Nat} {xs : Nat → Int32} {D : va_G} {cy : Nat → ClassId} (hL : L ≤ 3072) (hx : p.tables.exec = Jvm.exec) (hb : c.code = cL_law) (hml : c.maxLocals = 4) (hown : s.vm.findClass RL = some m.cls) (hts : ∀ w ∈ wsL_law, w.before #[Value.ref b] s = true) (hX : va_X b L xs s s.heap) (hbl : b < s.heap.size) (hK : va_K D vwCl (TY cy) s) {H : Heap} {locs : List Loc} {cells slots N i : Nat} {σ : SG} {α ρ : AD} {ls : Array Slot} {Z : State → Prop} (hi : i + 6 ≤ L) (hl : lv_has ls 4 [(3, .int (nI i)), (2, .ref (ρ 0 0)), (1, .ref (α 0 0)), (0, .ref b)]) (hN : N < 512) (hI : LI s D cy H locs cells slots σ α ρ N) (kk : ∀ (H1 : Heap) (locs1 : List Loc) (cells1 slots1 : Nat) (σ1 : SG) (α1 ρ1 : AD), LI s D cy H1 locs1 cells1 slots1 σ1 α1 ρ1 (N + 1) → α1 0 0 = α 0 0 → ρ1 0 0 = ρ 0 0 → W p l e room_1 s m #[Value.ref b] below meth c H1 locs1 cells1 slots1 Z (F0 m 1092 ls [])) : W p l e room_1 s m #[Value.ref b] below meth c H locs cells slots Z (F0 m 819 ls []) := by
  obtain ⟨hPc, hPr, hInv, hS, hsz, hce, hsl, -⟩ := hI
  have hbA : ¬ A0 s b := fun q => absurd hbl (Nat.not_lt.mpr q)
  refine lv_aload_n hx hb dL_law_819 rfl (lv_at hl 2 rfl) ?_
  refine lv_aload_n hx hb dL_law_820 rfl (lv_at hl 3 rfl) ?_
  refine lv_iload_n hx hb dL_law_821 rfl (lv_at hl 0 rfl) ?_
  refine lv_iconst (v := 1) hx hb dL_law_822 (by decide) ?_
  refine lv_iadd hx hb dL_law_823 ?_
  refine va_sld hx hb hX hbl hbA hS (law_in (k := 1) rfl (by omega) hL) dL_law_824 ?_
  refine va_calli (va_runV (As := [.int (xs ((nI i) + 1).toNatClampNeg)]) (rest := []) ⟨hx, hb, hml, hown, hts⟩ (c_X4_reset l D cy (AC s) α σ (xs ((nI i) + 1).toNatClampNeg) hInv.2.2.1 hInv.2.1) (cwV 1 hts gL_law_X4_reset rfl rfl rfl (by decide +kernel) ⟨Nat.le_of_ble_eq_true rfl, Nat.le_of_ble_eq_true rfl⟩) ⟨pb_blind, pw_recv hPc hK cc_0 rfl, pb_pre hPc hK⟩ rfl rfl hl.1 rfl (lv_room (Nat.le_of_ble_eq_true rfl)) dL_law_825 ⟨(by show cells + 0 ≤ 600000; omega), (by show slots + 0 ≤ 7302250; omega)⟩) hS (fun q _ h => h.1) (fun q h => h.1) (fun r u t H1 locs ht hvm hw hB hz1 hk1 hS => ?_)
  rw [ht] at hB
  have hPc := hB
  have hPr := keptR hPr hk1
  have hsz : s.heap.size + 36 ≤ H1.size := Nat.le_trans hsz hz1
  clear hB hk1 hz1 ht hvm
  skip
  subst hw
  refine lv_aload_n hx hb dL_law_828 rfl (lv_at hl 1 rfl) ?_
  refine lv_aload_n hx hb dL_law_829 rfl (lv_at hl 3 rfl) ?_
  refine lv_iload_n hx hb dL_law_830 rfl (lv_at hl 0 rfl) ?_
  refine lv_iconst (v := 1) hx hb dL_law_831 (by decide) ?_
  refine lv_iadd hx hb dL_law_832 ?_
  refine va_sld hx hb hX hbl hbA hS (law_in (k := 1) rfl (by omega) hL) dL_law_833 ?_
  refine va_calli (va_runV (As := [.int (xs ((nI i) + 1).toNatClampNeg)]) (rest := [.int ((F_reset σ (xs ((nI i) + 1).toNatClampNeg)).1)]) ⟨hx, hb, hml, hown, hts⟩ (c_X5_reset l D cy (AR s) ρ σ (xs ((nI i) + 1).toNatClampNeg) hInv.2.2.1 hInv.2.1) (cwV 1 hts gL_law_X5_reset rfl rfl rfl (by decide +kernel) ⟨Nat.le_of_ble_eq_true rfl, Nat.le_of_ble_eq_true rfl⟩) ⟨pb_blind, pw_recv hPr hK cr_obj rfl, pb_pre hPr hK⟩ rfl rfl hl.1 rfl (lv_room (Nat.le_of_ble_eq_true rfl)) dL_law_834 ⟨(by show cells + 0 ≤ 600000; omega), (by show slots + 0 ≤ 7302250; omega)⟩) hS (fun q _ h => by have := h.1; show s.heap.size ≤ q; omega) (fun q h => by have := h.1; show s.heap.size ≤ q; omega) (fun r u t H1 locs ht hvm hw hB hz1 hk1 hS => ?_)
  rw [ht] at hB
  have hPr := hB
  have hPc := keptC hPc hk1
  have hsz : s.heap.size + 36 ≤ H1.size := Nat.le_trans hsz hz1
  clear hB hk1 hz1 ht hvm
  skip
  subst hw
  refine lv_icmp_eq (x := ((F_reset σ (xs ((nI i) + 1).toNatClampNeg)).1)) (y := ((F_reset σ (xs ((nI i) + 1).toNatClampNeg)).1)) (tgt := 1092) hx hb dL_law_837 (by decide) (fun c837 => ?_) (fun c => absurd rfl c)
  exact kk _ _ _ _ (F_reset σ (xs ((nI i) + 1).toNatClampNeg)).2 α ρ ⟨hPc, hPr, inv_more (inv_reset hInv) (by omega), hS, hsz, by omega, by omega, by omega⟩ rfl rfl

set_option maxHeartbeats 4000000 in
set_option maxRecDepth 100000 in
theorem law_votes {p : Program} {l : Launch} {e : Env} {s : State} {m : MethodId} {below : List Frame} {meth : Method} {c : Code} {b L : Nat} {xs : Nat → Int32} {D : va_G} {cy : Nat → ClassId} (hL : L ≤ 3072) (hx : p.tables.exec = Jvm.exec) (hb : c.code = cL_law) (hml : c.maxLocals = 4) (hown : s.vm.findClass RL = some m.cls) (hts : ∀ w ∈ wsL_law, w.before #[Value.ref b] s = true) (hX : va_X b L xs s s.heap) (hbl : b < s.heap.size) (hK : va_K D vwCl (TY cy) s) {H : Heap} {locs : List Loc} {cells slots N i : Nat} {σ : SG} {α ρ : AD} {ls : Array Slot} {Z : State → Prop} (hi : i + 6 ≤ L) (hl : lv_has ls 4 [(3, .int (nI i)), (2, .ref (ρ 0 0)), (1, .ref (α 0 0)), (0, .ref b)]) (hN : N < 512) (hI : LI s D cy H locs cells slots σ α ρ N) (kk : ∀ (H1 : Heap) (locs1 : List Loc) (cells1 slots1 : Nat) (σ1 : SG) (α1 ρ1 : AD), LI s D cy H1 locs1 cells1 slots1 σ1 α1 ρ1 (N + 1) → α1 0 0 = α 0 0 → ρ1 0 0 = ρ 0 0 → W p l e room_1 s m #[Value.ref b] below meth c H1 locs1 cells1 slots1 Z (F0 m 1092 ls [])) : W p l e room_1 s m #[Value.ref b] below meth c H locs cells slots Z (F0 m 842 ls []) := by
  obtain ⟨hPc, hPr, hInv, hS, hsz, hce, hsl, -⟩ := hI
  have hbA : ¬ A0 s b := fun q => absurd hbl (Nat.not_lt.mpr q)
  refine lv_aload_n hx hb dL_law_842 rfl (lv_at hl 2 rfl) ?_
  refine lv_aload_n hx hb dL_law_843 rfl (lv_at hl 3 rfl) ?_
  refine lv_iload_n hx hb dL_law_844 rfl (lv_at hl 0 rfl) ?_
  refine lv_iconst (v := 1) hx hb dL_law_845 (by decide) ?_
  refine lv_iadd hx hb dL_law_846 ?_
  refine va_sld hx hb hX hbl hbA hS (law_in (k := 1) rfl (by omega) hL) dL_law_847 ?_
  refine vp_callSi (W.runV (As := [.int (xs ((nI i) + 1).toNatClampNeg)]) (rest := []) ⟨hx, hb, hml, hown, hts⟩ (c_X4_votes l D cy (AC s) α σ (xs ((nI i) + 1).toNatClampNeg) hInv.2.2.1 hInv.2.1) (cwV 1 hts gL_law_X4_votes rfl rfl rfl (by decide +kernel) ⟨Nat.le_of_ble_eq_true rfl, Nat.le_of_ble_eq_true rfl⟩) ⟨pb_blind, pw_recv hPc hK cc_0 rfl, pb_pre hPc hK⟩ rfl rfl hl.1 rfl (lv_room (Nat.le_of_ble_eq_true rfl)) dL_law_848 ⟨(by show cells + 0 ≤ 600000; omega), (by show slots + 0 ≤ 7302250; omega)⟩) (fun r hw => ?_)
  subst hw
  refine lv_aload_n hx hb dL_law_851 rfl (lv_at hl 1 rfl) ?_
  refine lv_aload_n hx hb dL_law_852 rfl (lv_at hl 3 rfl) ?_
  refine lv_iload_n hx hb dL_law_853 rfl (lv_at hl 0 rfl) ?_
  refine lv_iconst (v := 1) hx hb dL_law_854 (by decide) ?_
  refine lv_iadd hx hb dL_law_855 ?_
  refine va_sld hx hb hX hbl hbA hS (law_in (k := 1) rfl (by omega) hL) dL_law_856 ?_
  refine vp_callSi (W.runV (As := [.int (xs ((nI i) + 1).toNatClampNeg)]) (rest := [.int (F_votes σ (xs ((nI i) + 1).toNatClampNeg))]) ⟨hx, hb, hml, hown, hts⟩ (c_X5_votes l D cy (AR s) ρ σ (xs ((nI i) + 1).toNatClampNeg) hInv.2.2.1 hInv.2.1) (cwV 1 hts gL_law_X5_votes rfl rfl rfl (by decide +kernel) ⟨Nat.le_of_ble_eq_true rfl, Nat.le_of_ble_eq_true rfl⟩) ⟨pb_blind, pw_recv hPr hK cr_obj rfl, pb_pre hPr hK⟩ rfl rfl hl.1 rfl (lv_room (Nat.le_of_ble_eq_true rfl)) dL_law_857 ⟨(by show cells + 0 ≤ 600000; omega), (by show slots + 0 ≤ 7302250; omega)⟩) (fun r hw => ?_)
  subst hw
  refine lv_icmp_eq (x := (F_votes σ (xs ((nI i) + 1).toNatClampNeg))) (y := (F_votes σ (xs ((nI i) + 1).toNatClampNeg))) (tgt := 1092) hx hb dL_law_860 (by decide) (fun c860 => ?_) (fun c => absurd rfl c)
  exact kk _ _ _ _ σ α ρ ⟨hPc, hPr, inv_more hInv (by omega), hS, hsz, by omega, by omega, by omega⟩ rfl rfl

set_option maxHeartbeats 4000000 in
set_option maxRecDepth 100000 in
theorem law_tripped {p : Program} {l : Launch} {e : Env} {s : State} {m : MethodId} {below : List Frame} {meth : Method} {c : Code} {b L : Nat} {xs : Nat → Int32} {D : va_G} {cy : Nat → ClassId} (hL : L ≤ 3072) (hx : p.tables.exec = Jvm.exec) (hb : c.code = cL_law) (hml : c.maxLocals = 4) (hown : s.vm.findClass RL = some m.cls) (hts : ∀ w ∈ wsL_law, w.before #[Value.ref b] s = true) (hX : va_X b L xs s s.heap) (hbl : b < s.heap.size) (hK : va_K D vwCl (TY cy) s) {H : Heap} {locs : List Loc} {cells slots N i : Nat} {σ : SG} {α ρ : AD} {ls : Array Slot} {Z : State → Prop} (hi : i + 6 ≤ L) (hl : lv_has ls 4 [(3, .int (nI i)), (2, .ref (ρ 0 0)), (1, .ref (α 0 0)), (0, .ref b)]) (hN : N < 512) (hI : LI s D cy H locs cells slots σ α ρ N) (kk : ∀ (H1 : Heap) (locs1 : List Loc) (cells1 slots1 : Nat) (σ1 : SG) (α1 ρ1 : AD), LI s D cy H1 locs1 cells1 slots1 σ1 α1 ρ1 (N + 1) → α1 0 0 = α 0 0 → ρ1 0 0 = ρ 0 0 → W p l e room_1 s m #[Value.ref b] below meth c H1 locs1 cells1 slots1 Z (F0 m 1092 ls [])) : W p l e room_1 s m #[Value.ref b] below meth c H locs cells slots Z (F0 m 865 ls []) := by
  obtain ⟨hPc, hPr, hInv, hS, hsz, hce, hsl, -⟩ := hI
  have hbA : ¬ A0 s b := fun q => absurd hbl (Nat.not_lt.mpr q)
  refine lv_aload_n hx hb dL_law_865 rfl (lv_at hl 2 rfl) ?_
  refine lv_aload_n hx hb dL_law_866 rfl (lv_at hl 3 rfl) ?_
  refine lv_iload_n hx hb dL_law_867 rfl (lv_at hl 0 rfl) ?_
  refine lv_iconst (v := 1) hx hb dL_law_868 (by decide) ?_
  refine lv_iadd hx hb dL_law_869 ?_
  refine va_sld hx hb hX hbl hbA hS (law_in (k := 1) rfl (by omega) hL) dL_law_870 ?_
  refine vp_callSi (W.runV (As := [.int (xs ((nI i) + 1).toNatClampNeg)]) (rest := []) ⟨hx, hb, hml, hown, hts⟩ (c_X4_tripped l D cy (AC s) α σ (xs ((nI i) + 1).toNatClampNeg) ) (cwV 1 hts gL_law_X4_tripped rfl rfl rfl (by decide +kernel) ⟨Nat.le_of_ble_eq_true rfl, Nat.le_of_ble_eq_true rfl⟩) ⟨pb_blind, pw_recv hPc hK cc_0 rfl, pb_pre hPc hK⟩ rfl rfl hl.1 rfl (lv_room (Nat.le_of_ble_eq_true rfl)) dL_law_871 ⟨(by show cells + 0 ≤ 600000; omega), (by show slots + 0 ≤ 7302250; omega)⟩) (fun r hw => ?_)
  subst hw
  refine lv_aload_n hx hb dL_law_874 rfl (lv_at hl 1 rfl) ?_
  refine lv_aload_n hx hb dL_law_875 rfl (lv_at hl 3 rfl) ?_
  refine lv_iload_n hx hb dL_law_876 rfl (lv_at hl 0 rfl) ?_
  refine lv_iconst (v := 1) hx hb dL_law_877 (by decide) ?_
  refine lv_iadd hx hb dL_law_878 ?_
  refine va_sld hx hb hX hbl hbA hS (law_in (k := 1) rfl (by omega) hL) dL_law_879 ?_
  refine vp_callSi (W.runV (As := [.int (xs ((nI i) + 1).toNatClampNeg)]) (rest := [.int (F_tripped σ (xs ((nI i) + 1).toNatClampNeg))]) ⟨hx, hb, hml, hown, hts⟩ (c_X5_tripped l D cy (AR s) ρ σ (xs ((nI i) + 1).toNatClampNeg) ) (cwV 1 hts gL_law_X5_tripped rfl rfl rfl (by decide +kernel) ⟨Nat.le_of_ble_eq_true rfl, Nat.le_of_ble_eq_true rfl⟩) ⟨pb_blind, pw_recv hPr hK cr_obj rfl, pb_pre hPr hK⟩ rfl rfl hl.1 rfl (lv_room (Nat.le_of_ble_eq_true rfl)) dL_law_880 ⟨(by show cells + 0 ≤ 600000; omega), (by show slots + 0 ≤ 7302250; omega)⟩) (fun r hw => ?_)
  subst hw
  refine lv_icmp_eq (x := (F_tripped σ (xs ((nI i) + 1).toNatClampNeg))) (y := (F_tripped σ (xs ((nI i) + 1).toNatClampNeg))) (tgt := 1092) hx hb dL_law_883 (by decide) (fun c883 => ?_) (fun c => absurd rfl c)
  exact kk _ _ _ _ σ α ρ ⟨hPc, hPr, inv_more hInv (by omega), hS, hsz, by omega, by omega, by omega⟩ rfl rfl

set_option maxHeartbeats 4000000 in
set_option maxRecDepth 100000 in
theorem law_order {p : Program} {l : Launch} {e : Env} {s : State} {m : MethodId} {below : List Frame} {meth : Method} {c : Code} {b L : Nat} {xs : Nat → Int32} {D : va_G} {cy : Nat → ClassId} (hL : L ≤ 3072) (hx : p.tables.exec = Jvm.exec) (hb : c.code = cL_law) (hml : c.maxLocals = 4) (hown : s.vm.findClass RL = some m.cls) (hts : ∀ w ∈ wsL_law, w.before #[Value.ref b] s = true) (hX : va_X b L xs s s.heap) (hbl : b < s.heap.size) (hK : va_K D vwCl (TY cy) s) {H : Heap} {locs : List Loc} {cells slots N i : Nat} {σ : SG} {α ρ : AD} {ls : Array Slot} {Z : State → Prop} (hi : i + 6 ≤ L) (hl : lv_has ls 4 [(3, .int (nI i)), (2, .ref (ρ 0 0)), (1, .ref (α 0 0)), (0, .ref b)]) (hN : N < 512) (hI : LI s D cy H locs cells slots σ α ρ N) (kk : ∀ (H1 : Heap) (locs1 : List Loc) (cells1 slots1 : Nat) (σ1 : SG) (α1 ρ1 : AD), LI s D cy H1 locs1 cells1 slots1 σ1 α1 ρ1 (N + 1) → α1 0 0 = α 0 0 → ρ1 0 0 = ρ 0 0 → W p l e room_1 s m #[Value.ref b] below meth c H1 locs1 cells1 slots1 Z (F0 m 1092 ls [])) : W p l e room_1 s m #[Value.ref b] below meth c H locs cells slots Z (F0 m 888 ls []) := by
  obtain ⟨hPc, hPr, hInv, hS, hsz, hce, hsl, -⟩ := hI
  have hbA : ¬ A0 s b := fun q => absurd hbl (Nat.not_lt.mpr q)
  refine lv_aload_n hx hb dL_law_888 rfl (lv_at hl 2 rfl) ?_
  refine lv_aload_n hx hb dL_law_889 rfl (lv_at hl 3 rfl) ?_
  refine lv_iload_n hx hb dL_law_890 rfl (lv_at hl 0 rfl) ?_
  refine lv_iconst (v := 1) hx hb dL_law_891 (by decide) ?_
  refine lv_iadd hx hb dL_law_892 ?_
  refine va_sld hx hb hX hbl hbA hS (law_in (k := 1) rfl (by omega) hL) dL_law_893 ?_
  refine vp_callSi (W.runV (As := [.int (xs ((nI i) + 1).toNatClampNeg)]) (rest := []) ⟨hx, hb, hml, hown, hts⟩ (c_X4_order l D cy (AC s) α σ (xs ((nI i) + 1).toNatClampNeg) ) (cwV 1 hts gL_law_X4_order rfl rfl rfl (by decide +kernel) ⟨Nat.le_of_ble_eq_true rfl, Nat.le_of_ble_eq_true rfl⟩) ⟨pb_blind, pw_recv hPc hK cc_0 rfl, pb_pre hPc hK⟩ rfl rfl hl.1 rfl (lv_room (Nat.le_of_ble_eq_true rfl)) dL_law_894 ⟨(by show cells + 0 ≤ 600000; omega), (by show slots + 0 ≤ 7302250; omega)⟩) (fun r hw => ?_)
  subst hw
  refine lv_aload_n hx hb dL_law_897 rfl (lv_at hl 1 rfl) ?_
  refine lv_aload_n hx hb dL_law_898 rfl (lv_at hl 3 rfl) ?_
  refine lv_iload_n hx hb dL_law_899 rfl (lv_at hl 0 rfl) ?_
  refine lv_iconst (v := 1) hx hb dL_law_900 (by decide) ?_
  refine lv_iadd hx hb dL_law_901 ?_
  refine va_sld hx hb hX hbl hbA hS (law_in (k := 1) rfl (by omega) hL) dL_law_902 ?_
  refine vp_callSi (W.runV (As := [.int (xs ((nI i) + 1).toNatClampNeg)]) (rest := [.int (F_order σ (xs ((nI i) + 1).toNatClampNeg))]) ⟨hx, hb, hml, hown, hts⟩ (c_X5_order l D cy (AR s) ρ σ (xs ((nI i) + 1).toNatClampNeg) ) (cwV 1 hts gL_law_X5_order rfl rfl rfl (by decide +kernel) ⟨Nat.le_of_ble_eq_true rfl, Nat.le_of_ble_eq_true rfl⟩) ⟨pb_blind, pw_recv hPr hK cr_obj rfl, pb_pre hPr hK⟩ rfl rfl hl.1 rfl (lv_room (Nat.le_of_ble_eq_true rfl)) dL_law_903 ⟨(by show cells + 0 ≤ 600000; omega), (by show slots + 0 ≤ 7302250; omega)⟩) (fun r hw => ?_)
  subst hw
  refine lv_icmp_eq (x := (F_order σ (xs ((nI i) + 1).toNatClampNeg))) (y := (F_order σ (xs ((nI i) + 1).toNatClampNeg))) (tgt := 1092) hx hb dL_law_906 (by decide) (fun c906 => ?_) (fun c => absurd rfl c)
  exact kk _ _ _ _ σ α ρ ⟨hPc, hPr, inv_more hInv (by omega), hS, hsz, by omega, by omega, by omega⟩ rfl rfl
