theorem lw_low {cell : CF} {cy : Nat → ClassId} {α : AD} {kL iL kA iA n a b : Nat} {f : Nat → Int32} {sz : Int32} (h1 : ¬ (a = kL ∧ b = iL)) (h2 : ¬ (a = kA ∧ b = iA)) : LW cell cy α kL iL kA iA n f sz a b = cell a b := by
  unfold LW; rw [pw_up_ne h1, pw_up_ne h2]
theorem bool_fit {b : Int32} (h : b = 0 ∨ b = 1) : narrow .boolean (.int b) = .int b ∧ fits .boolean (.int b) = true := by rcases h with rfl | rfl <;> exact ⟨rfl, rfl⟩

set_option maxHeartbeats 4000000 in
set_option maxRecDepth 100000 in
theorem c_X1_init (l : Launch) (D : va_G) (cy : Nat → ClassId) (A : Nat → Prop) (α : AD) (cell : CF) (g n0 : Nat) (b : Int32) (hb01 : b = 0 ∨ b = 1) (hG0 : cell 10 g = some (.inr (1, [.int 0, .null, .int 0, .int 0, .int 0, .int 0, .int 0, .int 0, .int 0]))) (hq1 : α 11 g = n0) (hq2 : α 12 g = n0 + 1) (hA1 : A n0) (hA2 : A (n0 + 1)) : Met l yX1_init wsX1_init ({ frames := 2, cells := 2, slots := 14, locals := 35 } : Room) (va_Pc [.ref (α 10 g), .int b] (PX D cy A α cell n0)) (va_Qv (fun (u : Unit) => True) (fun u t => PW D A α (pw_up (LW (pw_up cell 11 g (.inr (2, [.null, .int 0]))) cy α 11 g 12 g 12 (fun _ => 0) 0) 10 g (.inr (1, [.int b, .ref (α 11 g), .int gp, .int gp, .int gp, .int 0, .int gp, .int gp, .int 0]))) t.heap ∧ t.heap.size = n0 + 2) A) 2 14 A := by
  refine Met.ofW (cc := cX1_init) (maxL := 2) (ret := none) (by decide) rfl ?_
  intro p e s m args below meth c s₁ B hml hv
  obtain ⟨rfl, ⟨hP, hK⟩, hsz⟩ := hv
  have hx := B.exec
  have hb := B.bytes
  have hr := B.returns
  have hts := atoms_spec (ws := wsX1_init) B.pre
  have hown : s.vm.findClass RX1 = some m.cls := findClass_of_methodNamed B.named
  have hlocks := B.notSynchronized
  have hiX1 : ∀ w ∈ wsX10, w ∈ wsX1_init := by decide +kernel
  have hiX2 : ∀ w ∈ wsX20, w ∈ wsX1_init := by decide +kernel
  have hS : va_S A s.heap s.heap [] := va_S.rf
  have hin : meth.name = "<init>" := (name_of_methodNamed B.named B.method).1
  have hl := lv_entry ([.ref (α 10 g), .int b]) (n := 2) (Nat.le_of_ble_eq_true rfl)
  rw [lg_entry_eq]
  generalize (lg_sl ([.ref (α 10 g), .int b]) ++ List.replicate (2 - (lg_sl ([.ref (α 10 g), .int b])).length) Slot.unset).toArray = ls at hl ⊢
  have hl : lv_has ls 2 [(0, .ref (α 10 g)), (1, .int b)] := hl
  skip
  refine lv_aload_n hx hb dX1_init_0 rfl (lv_at hl 0 rfl) ?_
  refine W.objInit hx hb hown (hts (.methodLink RX1 3 objectInit) (by decide +kernel)) (hts (.instanceMethod objectInit) (by decide +kernel)) (hts (.code objectInit ⟨#[0xb1]⟩ 1 none) (by decide +kernel)) rfl (by rw [hml]; exact hl.1) rfl dX1_init_1 (Nat.le_of_ble_eq_true rfl) (Nat.le_of_ble_eq_true rfl) ?_
  refine W.eq (g2 := F0 m 4 ls []) rfl ?_
  refine lv_aload_n hx hb dX1_init_4 rfl (lv_at hl 0 rfl) ?_
  refine px_new (C := RX2) (T := TX2) (N := 2) (ci := 2) (fs := [.null, .int 0]) hx hb hts hiX2 tyX2 tyX2_ok hown (by decide +kernel) (by decide +kernel) (by decide +kernel) hK hP hS 11 g hsz hq1 hA1 rfl (fun j hj => by rcases (show j = 0 ∨ j = 1 by omega) with rfl | rfl <;> rfl) (Nat.le_of_ble_eq_true rfl) (Nat.le_of_ble_eq_true rfl) dX1_init_5 (fun H hP hsz hS => ?_)
  refine W.cs (cells' := 1) (slots' := 2) rfl rfl ?_
  refine lv_dup hx hb dX1_init_8 rfl ?_
  refine lv_bipush (v := 12) hx hb dX1_init_9 (by decide) ?_
  refine va_callv (va_runI (As := [.int 12]) (rest := [.ref (α 11 g), .ref (α 10 g)]) ⟨hx, hb, hml, hown, hts⟩ (c_X2_init l D cy A α (pw_up cell 11 g (.inr (2, [.null, .int 0]))) 11 g 12 g 12 (n0 + 1) (by omega) (by decide) (by decide) (pw_up_self _ _ _ _) hq2 hA2) (cwI 1 hts gX1_init_X2_init rfl rfl rfl (hts (.initialized RX2) (by decide +kernel)) (hts (.methodLink RX1 11 yX2_init) (by decide +kernel)) (hts (.instanceMethod yX2_init) (by decide +kernel)) rfl (by decide +kernel) ⟨Nat.le_of_ble_eq_true rfl, Nat.le_of_ble_eq_true rfl⟩) ⟨px_blind, px_pre hP hK hsz⟩ rfl rfl hl.1 rfl (lv_room (Nat.le_of_ble_eq_true rfl)) dX1_init_11 ⟨Nat.le_of_ble_eq_true rfl, Nat.le_of_ble_eq_true rfl⟩) hS (fun _ _ h => h) (fun _ h => h) (fun u t H locs ht hvm hw hB hz1 hk1 hS => ?_)
  have hP := hB
  rw [ht] at hP
  obtain ⟨hP, hsz⟩ := hP
  refine W.cs (cells' := 2) (slots' := 14) rfl rfl ?_
  refine pw_putF (ref := "TripPanel$Gauge") (C := RX1) (T := TX1) (N := 9) (ci := 1) (fs := [.int 0, .null, .int 0, .int 0, .int 0, .int 0, .int 0, .int 0, .int 0]) (v := .ref (α 11 g)) (ty := .object "TripPanel$Latest") hx hb hts hiX1 tyX1 tyX1_ok nmX1 hown hK hP hS ((lw_low (by omega) (by omega)).trans ((pw_up_ne (by omega)).trans hG0)) rfl 1 (by decide) (by decide +kernel) rfl rfl hin rfl (by decide +kernel) rfl rfl (Nat.le_of_ble_eq_true rfl) dX1_init_14 (fun H locs hP hz hS => ?_)
  have hP : PW D A α (pw_up (LW (pw_up cell 11 g (.inr (2, [.null, .int 0]))) cy α 11 g 12 g 12 (fun _ => 0) 0) 10 g (.inr (1, [.int 0, .ref (α 11 g), .int 0, .int 0, .int 0, .int 0, .int 0, .int 0, .int 0]))) H := by exact hP
  have hsz := hz.trans hsz
  refine lv_aload_n hx hb dX1_init_17 rfl (lv_at hl 0 rfl) ?_
  refine lv_ldc hx hb hown (hts (.constant RX1 20 (2000000000)) (by decide +kernel)) dX1_init_18 ?_
  refine pw_put (ref := "TripPanel$Gauge") (C := RX1) (T := TX1) (N := 9) (ci := 1) (fs := [.int 0, .ref (α 11 g), .int 0, .int 0, .int 0, .int 0, .int 0, .int 0, .int 0]) (v := .int 2000000000) (ty := .int) hx hb hts hiX1 tyX1 tyX1_ok nmX1 hown hK hP hS (pw_up_self _ _ _ _) rfl 2 (by decide) (by decide +kernel) rfl rfl (by decide +kernel) rfl rfl (Nat.le_of_ble_eq_true rfl) dX1_init_20 (fun H locs hP hz hS => ?_)
  have hP : PW D A α (pw_up (LW (pw_up cell 11 g (.inr (2, [.null, .int 0]))) cy α 11 g 12 g 12 (fun _ => 0) 0) 10 g (.inr (1, [.int 0, .ref (α 11 g), .int 2000000000, .int 0, .int 0, .int 0, .int 0, .int 0, .int 0]))) H := by rw [pw_up2] at hP; exact hP
  have hsz := hz.trans hsz
  refine lv_aload_n hx hb dX1_init_23 rfl (lv_at hl 0 rfl) ?_
  refine lv_ldc hx hb hown (hts (.constant RX1 20 (2000000000)) (by decide +kernel)) dX1_init_24 ?_
  refine pw_put (ref := "TripPanel$Gauge") (C := RX1) (T := TX1) (N := 9) (ci := 1) (fs := [.int 0, .ref (α 11 g), .int 2000000000, .int 0, .int 0, .int 0, .int 0, .int 0, .int 0]) (v := .int 2000000000) (ty := .int) hx hb hts hiX1 tyX1 tyX1_ok nmX1 hown hK hP hS (pw_up_self _ _ _ _) rfl 3 (by decide) (by decide +kernel) rfl rfl (by decide +kernel) rfl rfl (Nat.le_of_ble_eq_true rfl) dX1_init_26 (fun H locs hP hz hS => ?_)
  have hP : PW D A α (pw_up (LW (pw_up cell 11 g (.inr (2, [.null, .int 0]))) cy α 11 g 12 g 12 (fun _ => 0) 0) 10 g (.inr (1, [.int 0, .ref (α 11 g), .int 2000000000, .int 2000000000, .int 0, .int 0, .int 0, .int 0, .int 0]))) H := by rw [pw_up2] at hP; exact hP
  have hsz := hz.trans hsz
  refine lv_aload_n hx hb dX1_init_29 rfl (lv_at hl 0 rfl) ?_
  refine lv_ldc hx hb hown (hts (.constant RX1 20 (2000000000)) (by decide +kernel)) dX1_init_30 ?_
  refine pw_put (ref := "TripPanel$Gauge") (C := RX1) (T := TX1) (N := 9) (ci := 1) (fs := [.int 0, .ref (α 11 g), .int 2000000000, .int 2000000000, .int 0, .int 0, .int 0, .int 0, .int 0]) (v := .int 2000000000) (ty := .int) hx hb hts hiX1 tyX1 tyX1_ok nmX1 hown hK hP hS (pw_up_self _ _ _ _) rfl 4 (by decide) (by decide +kernel) rfl rfl (by decide +kernel) rfl rfl (Nat.le_of_ble_eq_true rfl) dX1_init_32 (fun H locs hP hz hS => ?_)
  have hP : PW D A α (pw_up (LW (pw_up cell 11 g (.inr (2, [.null, .int 0]))) cy α 11 g 12 g 12 (fun _ => 0) 0) 10 g (.inr (1, [.int 0, .ref (α 11 g), .int 2000000000, .int 2000000000, .int 2000000000, .int 0, .int 0, .int 0, .int 0]))) H := by rw [pw_up2] at hP; exact hP
  have hsz := hz.trans hsz
  refine lv_aload_n hx hb dX1_init_35 rfl (lv_at hl 0 rfl) ?_
  refine lv_iconst (v := 0) hx hb dX1_init_36 (by decide) ?_
  refine pw_put (ref := "TripPanel$Gauge") (C := RX1) (T := TX1) (N := 9) (ci := 1) (fs := [.int 0, .ref (α 11 g), .int 2000000000, .int 2000000000, .int 2000000000, .int 0, .int 0, .int 0, .int 0]) (v := .int 0) (ty := .int) hx hb hts hiX1 tyX1 tyX1_ok nmX1 hown hK hP hS (pw_up_self _ _ _ _) rfl 5 (by decide) (by decide +kernel) rfl rfl (by decide +kernel) rfl rfl (Nat.le_of_ble_eq_true rfl) dX1_init_37 (fun H locs hP hz hS => ?_)
  have hP : PW D A α (pw_up (LW (pw_up cell 11 g (.inr (2, [.null, .int 0]))) cy α 11 g 12 g 12 (fun _ => 0) 0) 10 g (.inr (1, [.int 0, .ref (α 11 g), .int 2000000000, .int 2000000000, .int 2000000000, .int 0, .int 0, .int 0, .int 0]))) H := by rw [pw_up2] at hP; exact hP
  have hsz := hz.trans hsz
  refine lv_aload_n hx hb dX1_init_40 rfl (lv_at hl 0 rfl) ?_
  refine lv_ldc hx hb hown (hts (.constant RX1 20 (2000000000)) (by decide +kernel)) dX1_init_41 ?_
  refine pw_put (ref := "TripPanel$Gauge") (C := RX1) (T := TX1) (N := 9) (ci := 1) (fs := [.int 0, .ref (α 11 g), .int 2000000000, .int 2000000000, .int 2000000000, .int 0, .int 0, .int 0, .int 0]) (v := .int 2000000000) (ty := .int) hx hb hts hiX1 tyX1 tyX1_ok nmX1 hown hK hP hS (pw_up_self _ _ _ _) rfl 6 (by decide) (by decide +kernel) rfl rfl (by decide +kernel) rfl rfl (Nat.le_of_ble_eq_true rfl) dX1_init_43 (fun H locs hP hz hS => ?_)
  have hP : PW D A α (pw_up (LW (pw_up cell 11 g (.inr (2, [.null, .int 0]))) cy α 11 g 12 g 12 (fun _ => 0) 0) 10 g (.inr (1, [.int 0, .ref (α 11 g), .int 2000000000, .int 2000000000, .int 2000000000, .int 0, .int 2000000000, .int 0, .int 0]))) H := by rw [pw_up2] at hP; exact hP
  have hsz := hz.trans hsz
  refine lv_aload_n hx hb dX1_init_46 rfl (lv_at hl 0 rfl) ?_
  refine lv_ldc hx hb hown (hts (.constant RX1 20 (2000000000)) (by decide +kernel)) dX1_init_47 ?_
  refine pw_put (ref := "TripPanel$Gauge") (C := RX1) (T := TX1) (N := 9) (ci := 1) (fs := [.int 0, .ref (α 11 g), .int 2000000000, .int 2000000000, .int 2000000000, .int 0, .int 2000000000, .int 0, .int 0]) (v := .int 2000000000) (ty := .int) hx hb hts hiX1 tyX1 tyX1_ok nmX1 hown hK hP hS (pw_up_self _ _ _ _) rfl 7 (by decide) (by decide +kernel) rfl rfl (by decide +kernel) rfl rfl (Nat.le_of_ble_eq_true rfl) dX1_init_49 (fun H locs hP hz hS => ?_)
  have hP : PW D A α (pw_up (LW (pw_up cell 11 g (.inr (2, [.null, .int 0]))) cy α 11 g 12 g 12 (fun _ => 0) 0) 10 g (.inr (1, [.int 0, .ref (α 11 g), .int 2000000000, .int 2000000000, .int 2000000000, .int 0, .int 2000000000, .int 2000000000, .int 0]))) H := by rw [pw_up2] at hP; exact hP
  have hsz := hz.trans hsz
  refine lv_aload_n hx hb dX1_init_52 rfl (lv_at hl 0 rfl) ?_
  refine lv_iconst (v := 0) hx hb dX1_init_53 (by decide) ?_
  refine pw_put (ref := "TripPanel$Gauge") (C := RX1) (T := TX1) (N := 9) (ci := 1) (fs := [.int 0, .ref (α 11 g), .int 2000000000, .int 2000000000, .int 2000000000, .int 0, .int 2000000000, .int 2000000000, .int 0]) (v := .int 0) (ty := .int) hx hb hts hiX1 tyX1 tyX1_ok nmX1 hown hK hP hS (pw_up_self _ _ _ _) rfl 8 (by decide) (by decide +kernel) rfl rfl (by decide +kernel) rfl rfl (Nat.le_of_ble_eq_true rfl) dX1_init_54 (fun H locs hP hz hS => ?_)
  have hP : PW D A α (pw_up (LW (pw_up cell 11 g (.inr (2, [.null, .int 0]))) cy α 11 g 12 g 12 (fun _ => 0) 0) 10 g (.inr (1, [.int 0, .ref (α 11 g), .int 2000000000, .int 2000000000, .int 2000000000, .int 0, .int 2000000000, .int 2000000000, .int 0]))) H := by rw [pw_up2] at hP; exact hP
  have hsz := hz.trans hsz
  refine lv_aload_n hx hb dX1_init_57 rfl (lv_at hl 0 rfl) ?_
  refine lv_iload_n hx hb dX1_init_58 rfl (lv_at hl 1 rfl) ?_
  refine pw_putF (ref := "TripPanel$Gauge") (C := RX1) (T := TX1) (N := 9) (ci := 1) (fs := [.int 0, .ref (α 11 g), .int 2000000000, .int 2000000000, .int 2000000000, .int 0, .int 2000000000, .int 2000000000, .int 0]) (v := .int b) (ty := .boolean) hx hb hts hiX1 tyX1 tyX1_ok nmX1 hown hK hP hS (pw_up_self _ _ _ _) rfl 0 (by decide) (by decide +kernel) rfl rfl hin rfl (by decide +kernel) (bool_fit hb01).1 (bool_fit hb01).2 (Nat.le_of_ble_eq_true rfl) dX1_init_59 (fun H locs hP hz hS => ?_)
  have hP : PW D A α (pw_up (LW (pw_up cell 11 g (.inr (2, [.null, .int 0]))) cy α 11 g 12 g 12 (fun _ => 0) 0) 10 g (.inr (1, [.int b, .ref (α 11 g), .int 2000000000, .int 2000000000, .int 2000000000, .int 0, .int 2000000000, .int 2000000000, .int 0]))) H := by rw [pw_up2] at hP; exact hP
  have hsz := hz.trans hsz
  exact W.vret hx hb hr (fun t ht hW => ⟨⟨(), rfl, trivial, by dsimp only; rw [ht]; exact ⟨hP, hsz⟩⟩, hS.F ht⟩) hS.2.2 dX1_init_62

set_option maxHeartbeats 4000000 in
set_option maxRecDepth 100000 in
theorem c_X0_init (l : Launch) (D : va_G) (cy : Nat → ClassId) (A : Nat → Prop) (α : AD) (cell : CF) (kc ic n0 : Nat) (rel n b : Int32) (a1 a2 : Nat) (hb01 : b = 0 ∨ b = 1) (hC0 : cell kc ic = some (.inr (0, [.int 0, .null, .null, .int 0, .int 0]))) : Met l yX0_init wsX0_init ({ frames := 1, cells := 0, slots := 0, locals := 12 } : Room) (va_Pc [.ref (α kc ic), .int rel, .ref a1, .ref a2, .int n, .int b] (PX D cy A α cell n0)) (va_Qv (fun (u : Unit) => True) (fun u t => PW D A α (pw_up cell kc ic (.inr (0, [.int rel, .ref a1, .ref a2, .int n, .int b]))) t.heap ∧ t.heap.size = n0) A) 0 0 A := by
  refine Met.ofW (cc := cX0_init) (maxL := 6) (ret := none) (by decide) rfl ?_
  intro p e s m args below meth c s₁ B hml hv
  obtain ⟨rfl, ⟨hP, hK⟩, hsz⟩ := hv
  have hx := B.exec
  have hb := B.bytes
  have hr := B.returns
  have hts := atoms_spec (ws := wsX0_init) B.pre
  have hown : s.vm.findClass RX0 = some m.cls := findClass_of_methodNamed B.named
  have hlocks := B.notSynchronized
  have hiX0 : ∀ w ∈ wsX00, w ∈ wsX0_init := by decide +kernel
  have hS : va_S A s.heap s.heap [] := va_S.rf
  have hin : meth.name = "<init>" := (name_of_methodNamed B.named B.method).1
  have hl := lv_entry ([.ref (α kc ic), .int rel, .ref a1, .ref a2, .int n, .int b]) (n := 6) (Nat.le_of_ble_eq_true rfl)
  rw [lg_entry_eq]
  generalize (lg_sl ([.ref (α kc ic), .int rel, .ref a1, .ref a2, .int n, .int b]) ++ List.replicate (6 - (lg_sl ([.ref (α kc ic), .int rel, .ref a1, .ref a2, .int n, .int b])).length) Slot.unset).toArray = ls at hl ⊢
  have hl : lv_has ls 6 [(0, .ref (α kc ic)), (1, .int rel), (2, .ref a1), (3, .ref a2), (4, .int n), (5, .int b)] := hl
  skip
  refine lv_aload_n hx hb dX0_init_0 rfl (lv_at hl 0 rfl) ?_
  refine W.objInit hx hb hown (hts (.methodLink RX0 3 objectInit) (by decide +kernel)) (hts (.instanceMethod objectInit) (by decide +kernel)) (hts (.code objectInit ⟨#[0xb1]⟩ 1 none) (by decide +kernel)) rfl (by rw [hml]; exact hl.1) rfl dX0_init_1 (Nat.le_of_ble_eq_true rfl) (Nat.le_of_ble_eq_true rfl) ?_
  refine W.eq (g2 := F0 m 4 ls []) rfl ?_
  refine lv_aload_n hx hb dX0_init_4 rfl (lv_at hl 0 rfl) ?_
  refine lv_iload_n hx hb dX0_init_5 rfl (lv_at hl 1 rfl) ?_
  refine pw_putF (ref := "TripPanel$Condition") (C := RX0) (T := TX0) (N := 5) (ci := 0) (fs := [.int 0, .null, .null, .int 0, .int 0]) (v := .int rel) (ty := .int) hx hb hts hiX0 tyX0 tyX0_ok nmX0 hown hK hP hS (hC0) rfl 0 (by decide) (by decide +kernel) rfl rfl hin rfl (by decide +kernel) rfl rfl (Nat.le_of_ble_eq_true rfl) dX0_init_6 (fun H locs hP hz hS => ?_)
  have hP : PW D A α (pw_up cell kc ic (.inr (0, [.int rel, .null, .null, .int 0, .int 0]))) H := by exact hP
  have hsz := hz.trans hsz
  refine lv_aload_n hx hb dX0_init_9 rfl (lv_at hl 0 rfl) ?_
  refine lv_aload_n hx hb dX0_init_10 rfl (lv_at hl 2 rfl) ?_
  refine pw_putF (ref := "TripPanel$Condition") (C := RX0) (T := TX0) (N := 5) (ci := 0) (fs := [.int rel, .null, .null, .int 0, .int 0]) (v := .ref a1) (ty := .object "TripPanel$Gauge") hx hb hts hiX0 tyX0 tyX0_ok nmX0 hown hK hP hS (pw_up_self _ _ _ _) rfl 1 (by decide) (by decide +kernel) rfl rfl hin rfl (by decide +kernel) rfl rfl (Nat.le_of_ble_eq_true rfl) dX0_init_11 (fun H locs hP hz hS => ?_)
  have hP : PW D A α (pw_up cell kc ic (.inr (0, [.int rel, .ref a1, .null, .int 0, .int 0]))) H := by rw [pw_up2] at hP; exact hP
  have hsz := hz.trans hsz
  refine lv_aload_n hx hb dX0_init_14 rfl (lv_at hl 0 rfl) ?_
  refine lv_aload_n hx hb dX0_init_15 rfl (lv_at hl 3 rfl) ?_
  refine pw_putF (ref := "TripPanel$Condition") (C := RX0) (T := TX0) (N := 5) (ci := 0) (fs := [.int rel, .ref a1, .null, .int 0, .int 0]) (v := .ref a2) (ty := .object "TripPanel$Gauge") hx hb hts hiX0 tyX0 tyX0_ok nmX0 hown hK hP hS (pw_up_self _ _ _ _) rfl 2 (by decide) (by decide +kernel) rfl rfl hin rfl (by decide +kernel) rfl rfl (Nat.le_of_ble_eq_true rfl) dX0_init_16 (fun H locs hP hz hS => ?_)
  have hP : PW D A α (pw_up cell kc ic (.inr (0, [.int rel, .ref a1, .ref a2, .int 0, .int 0]))) H := by rw [pw_up2] at hP; exact hP
  have hsz := hz.trans hsz
  refine lv_aload_n hx hb dX0_init_19 rfl (lv_at hl 0 rfl) ?_
  refine lv_iload hx hb dX0_init_20 (lv_at hl 4 rfl) ?_
  refine pw_putF (ref := "TripPanel$Condition") (C := RX0) (T := TX0) (N := 5) (ci := 0) (fs := [.int rel, .ref a1, .ref a2, .int 0, .int 0]) (v := .int n) (ty := .int) hx hb hts hiX0 tyX0 tyX0_ok nmX0 hown hK hP hS (pw_up_self _ _ _ _) rfl 3 (by decide) (by decide +kernel) rfl rfl hin rfl (by decide +kernel) rfl rfl (Nat.le_of_ble_eq_true rfl) dX0_init_22 (fun H locs hP hz hS => ?_)
  have hP : PW D A α (pw_up cell kc ic (.inr (0, [.int rel, .ref a1, .ref a2, .int n, .int 0]))) H := by rw [pw_up2] at hP; exact hP
  have hsz := hz.trans hsz
  refine lv_aload_n hx hb dX0_init_25 rfl (lv_at hl 0 rfl) ?_
  refine lv_iload hx hb dX0_init_26 (lv_at hl 5 rfl) ?_
  refine pw_putF (ref := "TripPanel$Condition") (C := RX0) (T := TX0) (N := 5) (ci := 0) (fs := [.int rel, .ref a1, .ref a2, .int n, .int 0]) (v := .int b) (ty := .boolean) hx hb hts hiX0 tyX0 tyX0_ok nmX0 hown hK hP hS (pw_up_self _ _ _ _) rfl 4 (by decide) (by decide +kernel) rfl rfl hin rfl (by decide +kernel) (bool_fit hb01).1 (bool_fit hb01).2 (Nat.le_of_ble_eq_true rfl) dX0_init_28 (fun H locs hP hz hS => ?_)
  have hP : PW D A α (pw_up cell kc ic (.inr (0, [.int rel, .ref a1, .ref a2, .int n, .int b]))) H := by rw [pw_up2] at hP; exact hP
  have hsz := hz.trans hsz
  exact W.vret hx hb hr (fun t ht hW => ⟨⟨(), rfl, trivial, by dsimp only; rw [ht]; exact ⟨hP, hsz⟩⟩, hS.F ht⟩) hS.2.2 dX0_init_31

set_option maxHeartbeats 4000000 in
set_option maxRecDepth 100000 in
theorem c_X3_init (l : Launch) (D : va_G) (cy : Nat → ClassId) (A : Nat → Prop) (α : AD) (cell : CF) (kt it kp ip n0 : Nat) (v : Int32) (ne2 : ¬ (kt = kp ∧ it = ip)) (hT0 : cell kt it = some (.inr (3, [.int 0, .null, .int 0, .int 0]))) (hq : α kp ip = n0) (hA : A n0) : Met l yX3_init wsX3_init ({ frames := 1, cells := 1, slots := 6, locals := 12 } : Room) (va_Pc [.ref (α kt it), .int v] (PX D cy A α cell n0)) (va_Qv (fun (u : Unit) => True) (fun u t => PW D A α (pw_up (pw_up cell kp ip (.inl (cy 0, 6, .inl (fun _ => 0)))) kt it (.inr (3, [.int v, .ref (α kp ip), .int 0, .int 0]))) t.heap ∧ t.heap.size = n0 + 1) A) 1 6 A := by
  refine Met.ofW (cc := cX3_init) (maxL := 2) (ret := none) (by decide) rfl ?_
  intro p e s m args below meth c s₁ B hml hv
  obtain ⟨rfl, ⟨hP, hK⟩, hsz⟩ := hv
  have hx := B.exec
  have hb := B.bytes
  have hr := B.returns
  have hts := atoms_spec (ws := wsX3_init) B.pre
  have hown : s.vm.findClass RX3 = some m.cls := findClass_of_methodNamed B.named
  have hlocks := B.notSynchronized
  have hiX3 : ∀ w ∈ wsX30, w ∈ wsX3_init := by decide +kernel
  have hS : va_S A s.heap s.heap [] := va_S.rf
  have hin : meth.name = "<init>" := (name_of_methodNamed B.named B.method).1
  have hl := lv_entry ([.ref (α kt it), .int v]) (n := 2) (Nat.le_of_ble_eq_true rfl)
  rw [lg_entry_eq]
  generalize (lg_sl ([.ref (α kt it), .int v]) ++ List.replicate (2 - (lg_sl ([.ref (α kt it), .int v])).length) Slot.unset).toArray = ls at hl ⊢
  have hl : lv_has ls 2 [(0, .ref (α kt it)), (1, .int v)] := hl
  skip
  refine lv_aload_n hx hb dX3_init_0 rfl (lv_at hl 0 rfl) ?_
  refine W.objInit hx hb hown (hts (.methodLink RX3 3 objectInit) (by decide +kernel)) (hts (.instanceMethod objectInit) (by decide +kernel)) (hts (.code objectInit ⟨#[0xb1]⟩ 1 none) (by decide +kernel)) rfl (by rw [hml]; exact hl.1) rfl dX3_init_1 (Nat.le_of_ble_eq_true rfl) (Nat.le_of_ble_eq_true rfl) ?_
  refine W.eq (g2 := F0 m 4 ls []) rfl ?_
  refine lv_aload_n hx hb dX3_init_4 rfl (lv_at hl 0 rfl) ?_
  refine lv_bipush (v := 6) hx hb dX3_init_5 (by decide) ?_
  refine px_newa (atype := .int) (t0 := 0) (N' := 6) (a0 := (6, .inl (fun _ => 0))) hx hb hts (by decide +kernel) hK hP hS kp ip hsz hq hA (ty_find0 hK) (fun _ => rfl) (by decide) rfl (by decide) (Nat.le_of_ble_eq_true rfl) (Nat.le_of_ble_eq_true rfl) dX3_init_7 (fun H hP hsz hS => ?_)
  refine W.cs (cells' := 1) (slots' := 6) rfl rfl ?_
  refine pw_putF (ref := "TripPanel$Trip") (C := RX3) (T := TX3) (N := 4) (ci := 3) (fs := [.int 0, .null, .int 0, .int 0]) (v := .ref (α kp ip)) (ty := .array .int) hx hb hts hiX3 tyX3 tyX3_ok nmX3 hown hK hP hS ((pw_up_ne ne2).trans (hT0)) rfl 1 (by decide) (by decide +kernel) rfl rfl hin rfl (by decide +kernel) rfl rfl (Nat.le_of_ble_eq_true rfl) dX3_init_9 (fun H locs hP hz hS => ?_)
  have hP : PW D A α (pw_up (pw_up cell kp ip (.inl (cy 0, 6, .inl (fun _ => 0)))) kt it (.inr (3, [.int 0, .ref (α kp ip), .int 0, .int 0]))) H := by exact hP
  have hsz := hz.trans hsz
  refine lv_aload_n hx hb dX3_init_12 rfl (lv_at hl 0 rfl) ?_
  refine lv_iconst (v := 0) hx hb dX3_init_13 (by decide) ?_
  refine pw_put (ref := "TripPanel$Trip") (C := RX3) (T := TX3) (N := 4) (ci := 3) (fs := [.int 0, .ref (α kp ip), .int 0, .int 0]) (v := .int 0) (ty := .int) hx hb hts hiX3 tyX3 tyX3_ok nmX3 hown hK hP hS (pw_up_self _ _ _ _) rfl 2 (by decide) (by decide +kernel) rfl rfl (by decide +kernel) rfl rfl (Nat.le_of_ble_eq_true rfl) dX3_init_14 (fun H locs hP hz hS => ?_)
  have hP : PW D A α (pw_up (pw_up cell kp ip (.inl (cy 0, 6, .inl (fun _ => 0)))) kt it (.inr (3, [.int 0, .ref (α kp ip), .int 0, .int 0]))) H := by rw [pw_up2] at hP; exact hP
  have hsz := hz.trans hsz
  refine lv_aload_n hx hb dX3_init_17 rfl (lv_at hl 0 rfl) ?_
  refine lv_iconst (v := 0) hx hb dX3_init_18 (by decide) ?_
  refine pw_put (ref := "TripPanel$Trip") (C := RX3) (T := TX3) (N := 4) (ci := 3) (fs := [.int 0, .ref (α kp ip), .int 0, .int 0]) (v := .int 0) (ty := .boolean) hx hb hts hiX3 tyX3 tyX3_ok nmX3 hown hK hP hS (pw_up_self _ _ _ _) rfl 3 (by decide) (by decide +kernel) rfl rfl (by decide +kernel) rfl rfl (Nat.le_of_ble_eq_true rfl) dX3_init_19 (fun H locs hP hz hS => ?_)
  have hP : PW D A α (pw_up (pw_up cell kp ip (.inl (cy 0, 6, .inl (fun _ => 0)))) kt it (.inr (3, [.int 0, .ref (α kp ip), .int 0, .int 0]))) H := by rw [pw_up2] at hP; exact hP
  have hsz := hz.trans hsz
  refine lv_aload_n hx hb dX3_init_22 rfl (lv_at hl 0 rfl) ?_
  refine lv_iload_n hx hb dX3_init_23 rfl (lv_at hl 1 rfl) ?_
  refine pw_putF (ref := "TripPanel$Trip") (C := RX3) (T := TX3) (N := 4) (ci := 3) (fs := [.int 0, .ref (α kp ip), .int 0, .int 0]) (v := .int v) (ty := .int) hx hb hts hiX3 tyX3 tyX3_ok nmX3 hown hK hP hS (pw_up_self _ _ _ _) rfl 0 (by decide) (by decide +kernel) rfl rfl hin rfl (by decide +kernel) rfl rfl (Nat.le_of_ble_eq_true rfl) dX3_init_24 (fun H locs hP hz hS => ?_)
  have hP : PW D A α (pw_up (pw_up cell kp ip (.inl (cy 0, 6, .inl (fun _ => 0)))) kt it (.inr (3, [.int v, .ref (α kp ip), .int 0, .int 0]))) H := by rw [pw_up2] at hP; exact hP
  have hsz := hz.trans hsz
  exact W.vret hx hb hr (fun t ht hW => ⟨⟨(), rfl, trivial, by dsimp only; rw [ht]; exact ⟨hP, hsz⟩⟩, hS.F ht⟩) hS.2.2 dX3_init_27
