set_option maxHeartbeats 4000000 in
set_option maxRecDepth 100000 in
theorem law_take {p : Program} {l : Launch} {e : Env} {s : State} {m : MethodId} {below : List Frame} {meth : Method} {c : Code} {b L : Nat} {xs : Nat → Int32} {D : va_G} {cy : Nat → ClassId} (hL : L ≤ 3072) (hx : p.tables.exec = Jvm.exec) (hb : c.code = cL_law) (hml : c.maxLocals = 4) (hown : s.vm.findClass RL = some m.cls) (hts : ∀ w ∈ wsL_law, w.before #[Value.ref b] s = true) (hX : va_X b L xs s s.heap) (hbl : b < s.heap.size) (hK : va_K D vwCl (TY cy) s) {H : Heap} {locs : List Loc} {cells slots N i : Nat} {σ : SG} {α ρ : AD} {ls : Array Slot} {Z : State → Prop} (hi : i + 6 ≤ L) (hl : lv_has ls 4 [(3, .int (nI i)), (2, .ref (ρ 0 0)), (1, .ref (α 0 0)), (0, .ref b)]) (hN : N < 512) (hI : LI s D cy H locs cells slots σ α ρ N) (kk : ∀ (H1 : Heap) (locs1 : List Loc) (cells1 slots1 : Nat) (σ1 : SG) (α1 ρ1 : AD), LI s D cy H1 locs1 cells1 slots1 σ1 α1 ρ1 (N + 1) → α1 0 0 = α 0 0 → ρ1 0 0 = ρ 0 0 → W p l e room_1 s m #[Value.ref b] below meth c H1 locs1 cells1 slots1 Z (F0 m 1092 ls [])) : W p l e room_1 s m #[Value.ref b] below meth c H locs cells slots Z (F0 m 342 ls []) := by
  obtain ⟨hPc, hPr, hInv, hS, hsz, hce, hsl, -⟩ := hI
  have hbA : ¬ A0 s b := fun q => absurd hbl (Nat.not_lt.mpr q)
  refine lv_aload_n hx hb dL_law_342 rfl (lv_at hl 2 rfl) ?_
  refine lv_aload_n hx hb dL_law_343 rfl (lv_at hl 3 rfl) ?_
  refine lv_iload_n hx hb dL_law_344 rfl (lv_at hl 0 rfl) ?_
  refine lv_iconst (v := 1) hx hb dL_law_345 (by decide) ?_
  refine lv_iadd hx hb dL_law_346 ?_
  refine va_sld hx hb hX hbl hbA hS (law_in (k := 1) rfl (by omega) hL) dL_law_347 ?_
  refine lv_aload_n hx hb dL_law_348 rfl (lv_at hl 3 rfl) ?_
  refine lv_iload_n hx hb dL_law_349 rfl (lv_at hl 0 rfl) ?_
  refine lv_iconst (v := 2) hx hb dL_law_350 (by decide) ?_
  refine lv_iadd hx hb dL_law_351 ?_
  refine va_sld hx hb hX hbl hbA hS (law_in (k := 2) rfl (by omega) hL) dL_law_352 ?_
  refine va_calli (va_runV (As := [.int (xs ((nI i) + 1).toNatClampNeg), .int (xs ((nI i) + 2).toNatClampNeg)]) (rest := []) ⟨hx, hb, hml, hown, hts⟩ (c_X4_take l D cy (AC s) α σ (xs ((nI i) + 1).toNatClampNeg) (xs ((nI i) + 2).toNatClampNeg) hInv.1) (cwV 2 hts gL_law_X4_take rfl rfl rfl (by decide +kernel) ⟨Nat.le_of_ble_eq_true rfl, Nat.le_of_ble_eq_true rfl⟩) ⟨pb_blind, pw_recv hPc hK cc_0 rfl, pb_pre hPc hK⟩ rfl rfl hl.1 rfl (lv_room (Nat.le_of_ble_eq_true rfl)) dL_law_353 ⟨(by show cells + 0 ≤ 600000; omega), (by show slots + 0 ≤ 7302250; omega)⟩) hS (fun q _ h => h.1) (fun q h => h.1) (fun r u t H1 locs ht hvm hw hB hz1 hk1 hS => ?_)
  rw [ht] at hB
  have hPc := hB
  have hPr := keptR hPr hk1
  have hsz : s.heap.size + 36 ≤ H1.size := Nat.le_trans hsz hz1
  clear hB hk1 hz1 ht hvm
  skip
  subst hw
  refine lv_aload_n hx hb dL_law_356 rfl (lv_at hl 1 rfl) ?_
  refine lv_aload_n hx hb dL_law_357 rfl (lv_at hl 3 rfl) ?_
  refine lv_iload_n hx hb dL_law_358 rfl (lv_at hl 0 rfl) ?_
  refine lv_iconst (v := 1) hx hb dL_law_359 (by decide) ?_
  refine lv_iadd hx hb dL_law_360 ?_
  refine va_sld hx hb hX hbl hbA hS (law_in (k := 1) rfl (by omega) hL) dL_law_361 ?_
  refine lv_aload_n hx hb dL_law_362 rfl (lv_at hl 3 rfl) ?_
  refine lv_iload_n hx hb dL_law_363 rfl (lv_at hl 0 rfl) ?_
  refine lv_iconst (v := 2) hx hb dL_law_364 (by decide) ?_
  refine lv_iadd hx hb dL_law_365 ?_
  refine va_sld hx hb hX hbl hbA hS (law_in (k := 2) rfl (by omega) hL) dL_law_366 ?_
  refine va_calli (va_runV (As := [.int (xs ((nI i) + 1).toNatClampNeg), .int (xs ((nI i) + 2).toNatClampNeg)]) (rest := [.int ((F_take σ (xs ((nI i) + 1).toNatClampNeg) (xs ((nI i) + 2).toNatClampNeg)).1)]) ⟨hx, hb, hml, hown, hts⟩ (c_X5_take l D cy (AR s) ρ σ (xs ((nI i) + 1).toNatClampNeg) (xs ((nI i) + 2).toNatClampNeg) ) (cwV 2 hts gL_law_X5_take rfl rfl rfl (by decide +kernel) ⟨Nat.le_of_ble_eq_true rfl, Nat.le_of_ble_eq_true rfl⟩) ⟨pb_blind, pw_recv hPr hK cr_obj rfl, pb_pre hPr hK⟩ rfl rfl hl.1 rfl (lv_room (Nat.le_of_ble_eq_true rfl)) dL_law_367 ⟨(by show cells + 0 ≤ 600000; omega), (by show slots + 0 ≤ 7302250; omega)⟩) hS (fun q _ h => by have := h.1; show s.heap.size ≤ q; omega) (fun q h => by have := h.1; show s.heap.size ≤ q; omega) (fun r u t H1 locs ht hvm hw hB hz1 hk1 hS => ?_)
  rw [ht] at hB
  have hPr := hB
  have hPc := keptC hPc hk1
  have hsz : s.heap.size + 36 ≤ H1.size := Nat.le_trans hsz hz1
  clear hB hk1 hz1 ht hvm
  skip
  subst hw
  refine lv_icmp_eq (x := ((F_take σ (xs ((nI i) + 1).toNatClampNeg) (xs ((nI i) + 2).toNatClampNeg)).1)) (y := ((F_take σ (xs ((nI i) + 1).toNatClampNeg) (xs ((nI i) + 2).toNatClampNeg)).1)) (tgt := 1092) hx hb dL_law_370 (by decide) (fun c370 => ?_) (fun c => absurd rfl c)
  exact kk _ _ _ _ (F_take σ (xs ((nI i) + 1).toNatClampNeg) (xs ((nI i) + 2).toNatClampNeg)).2 α ρ ⟨hPc, hPr, inv_more (inv_take hInv) (by omega), hS, hsz, by omega, by omega, by omega⟩ rfl rfl

set_option maxHeartbeats 4000000 in
set_option maxRecDepth 100000 in
theorem law_gap {p : Program} {l : Launch} {e : Env} {s : State} {m : MethodId} {below : List Frame} {meth : Method} {c : Code} {b L : Nat} {xs : Nat → Int32} {D : va_G} {cy : Nat → ClassId} (hL : L ≤ 3072) (hx : p.tables.exec = Jvm.exec) (hb : c.code = cL_law) (hml : c.maxLocals = 4) (hown : s.vm.findClass RL = some m.cls) (hts : ∀ w ∈ wsL_law, w.before #[Value.ref b] s = true) (hX : va_X b L xs s s.heap) (hbl : b < s.heap.size) (hK : va_K D vwCl (TY cy) s) {H : Heap} {locs : List Loc} {cells slots N i : Nat} {σ : SG} {α ρ : AD} {ls : Array Slot} {Z : State → Prop} (hi : i + 6 ≤ L) (hl : lv_has ls 4 [(3, .int (nI i)), (2, .ref (ρ 0 0)), (1, .ref (α 0 0)), (0, .ref b)]) (hN : N < 512) (hI : LI s D cy H locs cells slots σ α ρ N) (kk : ∀ (H1 : Heap) (locs1 : List Loc) (cells1 slots1 : Nat) (σ1 : SG) (α1 ρ1 : AD), LI s D cy H1 locs1 cells1 slots1 σ1 α1 ρ1 (N + 1) → α1 0 0 = α 0 0 → ρ1 0 0 = ρ 0 0 → W p l e room_1 s m #[Value.ref b] below meth c H1 locs1 cells1 slots1 Z (F0 m 1092 ls [])) : W p l e room_1 s m #[Value.ref b] below meth c H locs cells slots Z (F0 m 375 ls []) := by
  obtain ⟨hPc, hPr, hInv, hS, hsz, hce, hsl, -⟩ := hI
  have hbA : ¬ A0 s b := fun q => absurd hbl (Nat.not_lt.mpr q)
  refine lv_aload_n hx hb dL_law_375 rfl (lv_at hl 2 rfl) ?_
  refine lv_aload_n hx hb dL_law_376 rfl (lv_at hl 3 rfl) ?_
  refine lv_iload_n hx hb dL_law_377 rfl (lv_at hl 0 rfl) ?_
  refine lv_iconst (v := 1) hx hb dL_law_378 (by decide) ?_
  refine lv_iadd hx hb dL_law_379 ?_
  refine va_sld hx hb hX hbl hbA hS (law_in (k := 1) rfl (by omega) hL) dL_law_380 ?_
  refine va_calli (va_runV (As := [.int (xs ((nI i) + 1).toNatClampNeg)]) (rest := []) ⟨hx, hb, hml, hown, hts⟩ (c_X4_gap l D cy (AC s) α σ (xs ((nI i) + 1).toNatClampNeg) hInv.1) (cwV 1 hts gL_law_X4_gap rfl rfl rfl (by decide +kernel) ⟨Nat.le_of_ble_eq_true rfl, Nat.le_of_ble_eq_true rfl⟩) ⟨pb_blind, pw_recv hPc hK cc_0 rfl, pb_pre hPc hK⟩ rfl rfl hl.1 rfl (lv_room (Nat.le_of_ble_eq_true rfl)) dL_law_381 ⟨(by show cells + 0 ≤ 600000; omega), (by show slots + 0 ≤ 7302250; omega)⟩) hS (fun q _ h => h.1) (fun q h => h.1) (fun r u t H1 locs ht hvm hw hB hz1 hk1 hS => ?_)
  rw [ht] at hB
  have hPc := hB
  have hPr := keptR hPr hk1
  have hsz : s.heap.size + 36 ≤ H1.size := Nat.le_trans hsz hz1
  clear hB hk1 hz1 ht hvm
  skip
  subst hw
  refine lv_aload_n hx hb dL_law_384 rfl (lv_at hl 1 rfl) ?_
  refine lv_aload_n hx hb dL_law_385 rfl (lv_at hl 3 rfl) ?_
  refine lv_iload_n hx hb dL_law_386 rfl (lv_at hl 0 rfl) ?_
  refine lv_iconst (v := 1) hx hb dL_law_387 (by decide) ?_
  refine lv_iadd hx hb dL_law_388 ?_
  refine va_sld hx hb hX hbl hbA hS (law_in (k := 1) rfl (by omega) hL) dL_law_389 ?_
  refine va_calli (va_runV (As := [.int (xs ((nI i) + 1).toNatClampNeg)]) (rest := [.int ((F_gap σ (xs ((nI i) + 1).toNatClampNeg)).1)]) ⟨hx, hb, hml, hown, hts⟩ (c_X5_gap l D cy (AR s) ρ σ (xs ((nI i) + 1).toNatClampNeg) ) (cwV 1 hts gL_law_X5_gap rfl rfl rfl (by decide +kernel) ⟨Nat.le_of_ble_eq_true rfl, Nat.le_of_ble_eq_true rfl⟩) ⟨pb_blind, pw_recv hPr hK cr_obj rfl, pb_pre hPr hK⟩ rfl rfl hl.1 rfl (lv_room (Nat.le_of_ble_eq_true rfl)) dL_law_390 ⟨(by show cells + 0 ≤ 600000; omega), (by show slots + 0 ≤ 7302250; omega)⟩) hS (fun q _ h => by have := h.1; show s.heap.size ≤ q; omega) (fun q h => by have := h.1; show s.heap.size ≤ q; omega) (fun r u t H1 locs ht hvm hw hB hz1 hk1 hS => ?_)
  rw [ht] at hB
  have hPr := hB
  have hPc := keptC hPc hk1
  have hsz : s.heap.size + 36 ≤ H1.size := Nat.le_trans hsz hz1
  clear hB hk1 hz1 ht hvm
  skip
  subst hw
  refine lv_icmp_eq (x := ((F_gap σ (xs ((nI i) + 1).toNatClampNeg)).1)) (y := ((F_gap σ (xs ((nI i) + 1).toNatClampNeg)).1)) (tgt := 1092) hx hb dL_law_393 (by decide) (fun c393 => ?_) (fun c => absurd rfl c)
  exact kk _ _ _ _ (F_gap σ (xs ((nI i) + 1).toNatClampNeg)).2 α ρ ⟨hPc, hPr, inv_more (inv_gap hInv) (by omega), hS, hsz, by omega, by omega, by omega⟩ rfl rfl

set_option maxHeartbeats 4000000 in
set_option maxRecDepth 100000 in
theorem law_clear {p : Program} {l : Launch} {e : Env} {s : State} {m : MethodId} {below : List Frame} {meth : Method} {c : Code} {b L : Nat} {xs : Nat → Int32} {D : va_G} {cy : Nat → ClassId} (hL : L ≤ 3072) (hx : p.tables.exec = Jvm.exec) (hb : c.code = cL_law) (hml : c.maxLocals = 4) (hown : s.vm.findClass RL = some m.cls) (hts : ∀ w ∈ wsL_law, w.before #[Value.ref b] s = true) (hX : va_X b L xs s s.heap) (hbl : b < s.heap.size) (hK : va_K D vwCl (TY cy) s) {H : Heap} {locs : List Loc} {cells slots N i : Nat} {σ : SG} {α ρ : AD} {ls : Array Slot} {Z : State → Prop} (hi : i + 6 ≤ L) (hl : lv_has ls 4 [(3, .int (nI i)), (2, .ref (ρ 0 0)), (1, .ref (α 0 0)), (0, .ref b)]) (hN : N < 512) (hI : LI s D cy H locs cells slots σ α ρ N) (kk : ∀ (H1 : Heap) (locs1 : List Loc) (cells1 slots1 : Nat) (σ1 : SG) (α1 ρ1 : AD), LI s D cy H1 locs1 cells1 slots1 σ1 α1 ρ1 (N + 1) → α1 0 0 = α 0 0 → ρ1 0 0 = ρ 0 0 → W p l e room_1 s m #[Value.ref b] below meth c H1 locs1 cells1 slots1 Z (F0 m 1092 ls [])) : W p l e room_1 s m #[Value.ref b] below meth c H locs cells slots Z (F0 m 398 ls []) := by
  obtain ⟨hPc, hPr, hInv, hS, hsz, hce, hsl, -⟩ := hI
  have hbA : ¬ A0 s b := fun q => absurd hbl (Nat.not_lt.mpr q)
  refine lv_aload_n hx hb dL_law_398 rfl (lv_at hl 2 rfl) ?_
  refine lv_aload_n hx hb dL_law_399 rfl (lv_at hl 3 rfl) ?_
  refine lv_iload_n hx hb dL_law_400 rfl (lv_at hl 0 rfl) ?_
  refine lv_iconst (v := 1) hx hb dL_law_401 (by decide) ?_
  refine lv_iadd hx hb dL_law_402 ?_
  refine va_sld hx hb hX hbl hbA hS (law_in (k := 1) rfl (by omega) hL) dL_law_403 ?_
  refine va_calli (va_runV (As := [.int (xs ((nI i) + 1).toNatClampNeg)]) (rest := []) ⟨hx, hb, hml, hown, hts⟩ (c_X4_clear l D cy (AC s) α σ (xs ((nI i) + 1).toNatClampNeg) ) (cwV 1 hts gL_law_X4_clear rfl rfl rfl (by decide +kernel) ⟨Nat.le_of_ble_eq_true rfl, Nat.le_of_ble_eq_true rfl⟩) ⟨pb_blind, pw_recv hPc hK cc_0 rfl, pb_pre hPc hK⟩ rfl rfl hl.1 rfl (lv_room (Nat.le_of_ble_eq_true rfl)) dL_law_404 ⟨(by show cells + 0 ≤ 600000; omega), (by show slots + 0 ≤ 7302250; omega)⟩) hS (fun q _ h => h.1) (fun q h => h.1) (fun r u t H1 locs ht hvm hw hB hz1 hk1 hS => ?_)
  rw [ht] at hB
  have hPc := hB
  have hPr := keptR hPr hk1
  have hsz : s.heap.size + 36 ≤ H1.size := Nat.le_trans hsz hz1
  clear hB hk1 hz1 ht hvm
  skip
  subst hw
  refine lv_aload_n hx hb dL_law_407 rfl (lv_at hl 1 rfl) ?_
  refine lv_aload_n hx hb dL_law_408 rfl (lv_at hl 3 rfl) ?_
  refine lv_iload_n hx hb dL_law_409 rfl (lv_at hl 0 rfl) ?_
  refine lv_iconst (v := 1) hx hb dL_law_410 (by decide) ?_
  refine lv_iadd hx hb dL_law_411 ?_
  refine va_sld hx hb hX hbl hbA hS (law_in (k := 1) rfl (by omega) hL) dL_law_412 ?_
  refine va_calli (va_runV (As := [.int (xs ((nI i) + 1).toNatClampNeg)]) (rest := [.int ((F_clear σ (xs ((nI i) + 1).toNatClampNeg)).1)]) ⟨hx, hb, hml, hown, hts⟩ (c_X5_clear l D cy (AR s) ρ σ (xs ((nI i) + 1).toNatClampNeg) ) (cwV 1 hts gL_law_X5_clear rfl rfl rfl (by decide +kernel) ⟨Nat.le_of_ble_eq_true rfl, Nat.le_of_ble_eq_true rfl⟩) ⟨pb_blind, pw_recv hPr hK cr_obj rfl, pb_pre hPr hK⟩ rfl rfl hl.1 rfl (lv_room (Nat.le_of_ble_eq_true rfl)) dL_law_413 ⟨(by show cells + 0 ≤ 600000; omega), (by show slots + 0 ≤ 7302250; omega)⟩) hS (fun q _ h => by have := h.1; show s.heap.size ≤ q; omega) (fun q h => by have := h.1; show s.heap.size ≤ q; omega) (fun r u t H1 locs ht hvm hw hB hz1 hk1 hS => ?_)
  rw [ht] at hB
  have hPr := hB
  have hPc := keptC hPc hk1
  have hsz : s.heap.size + 36 ≤ H1.size := Nat.le_trans hsz hz1
  clear hB hk1 hz1 ht hvm
  skip
  subst hw
  refine lv_icmp_eq (x := ((F_clear σ (xs ((nI i) + 1).toNatClampNeg)).1)) (y := ((F_clear σ (xs ((nI i) + 1).toNatClampNeg)).1)) (tgt := 1092) hx hb dL_law_416 (by decide) (fun c416 => ?_) (fun c => absurd rfl c)
  exact kk _ _ _ _ (F_clear σ (xs ((nI i) + 1).toNatClampNeg)).2 α ρ ⟨hPc, hPr, inv_more (inv_clear hInv) (by omega), hS, hsz, by omega, by omega, by omega⟩ rfl rfl
