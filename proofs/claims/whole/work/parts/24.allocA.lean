theorem lw_mk {cell : CF} {cy : Nat → ClassId} {α : AD} {kL iL kA iA n : Nat} {f : Nat → Int32} {sz : Int32} {e : va_E} (ne2 : ¬ (kL = kA ∧ iL = iA)) : LW cell cy α kL iL kA iA n f sz = pw_up (pw_up (pw_up cell kL iL e) kA iA (.inl (cy 0, n, .inl f))) kL iL (.inr (2, [.ref (α kA iA), .int sz])) := by
  funext a b
  unfold LW pw_up
  by_cases h1 : a = kL ∧ b = iL
  · rw [if_pos h1, if_pos h1]
  · rw [if_neg h1, if_neg h1]
    by_cases h2 : a = kA ∧ b = iA
    · rw [if_pos h2, if_pos h2]
    · rw [if_neg h2, if_neg h2, if_neg h1]

set_option maxHeartbeats 4000000 in
set_option maxRecDepth 100000 in
theorem c_X2_init (l : Launch) (D : va_G) (cy : Nat → ClassId) (A : Nat → Prop) (α : AD) (cell : CF) (kL iL kA iA n n0 : Nat) (ne2 : ¬ (kL = kA ∧ iL = iA)) (hn0 : 1 ≤ n) (hn1 : n ≤ 20) (hL : cell kL iL = some (.inr (2, [.null, .int 0]))) (hq : α kA iA = n0) (hA : A n0) : Met l yX2_init wsX2_init ({ frames := 1, cells := 1, slots := n, locals := 14 } : Room) (va_Pc [.ref (α kL iL), .int (nI n)] (PX D cy A α cell n0)) (va_Qv (fun (u : Unit) => True) (fun u t => PW D A α (LW cell cy α kL iL kA iA n (fun _ => 0) 0) t.heap ∧ t.heap.size = n0 + 1) A) 1 n A := by
  refine Met.ofW (cc := cX2_init) (maxL := 2) (ret := none) (by decide) rfl ?_
  intro p e s m args below meth c s₁ B hml hv
  obtain ⟨rfl, ⟨hP, hK⟩, hsz⟩ := hv
  have hx := B.exec
  have hb := B.bytes
  have hr := B.returns
  have hts := atoms_spec (ws := wsX2_init) B.pre
  have hown : s.vm.findClass RX2 = some m.cls := findClass_of_methodNamed B.named
  have hlocks := B.notSynchronized
  have hiX2 : ∀ w ∈ wsX20, w ∈ wsX2_init := by decide +kernel
  have hS : va_S A s.heap s.heap [] := va_S.rf
  have hin : meth.name = "<init>" := (name_of_methodNamed B.named B.method).1
  have hl := lv_entry ([.ref (α kL iL), .int (nI n)]) (n := 2) (Nat.le_of_ble_eq_true rfl)
  rw [lg_entry_eq]
  generalize (lg_sl ([.ref (α kL iL), .int (nI n)]) ++ List.replicate (2 - (lg_sl ([.ref (α kL iL), .int (nI n)])).length) Slot.unset).toArray = ls at hl ⊢
  have hl : lv_has ls 2 [(0, .ref (α kL iL)), (1, .int (nI n))] := hl
  skip
  refine lv_aload_n hx hb dX2_init_0 rfl (lv_at hl 0 rfl) ?_
  refine W.objInit hx hb hown (hts (.methodLink RX2 3 objectInit) (by decide +kernel)) (hts (.instanceMethod objectInit) (by decide +kernel)) (hts (.code objectInit ⟨#[0xb1]⟩ 1 none) (by decide +kernel)) rfl (by rw [hml]; exact hl.1) rfl dX2_init_1 (Nat.le_of_ble_eq_true rfl) (Nat.le_of_ble_eq_true rfl) ?_
  refine W.eq (g2 := F0 m 4 ls []) rfl ?_
  refine lv_aload_n hx hb dX2_init_4 rfl (lv_at hl 0 rfl) ?_
  refine lv_iconst (v := 0) hx hb dX2_init_5 (by decide) ?_
  refine pw_put (ref := "TripPanel$Latest") (C := RX2) (T := TX2) (N := 2) (ci := 2) (fs := [.null, .int 0]) (v := .int 0) (ty := .int) hx hb hts hiX2 tyX2 tyX2_ok nmX2 hown hK hP hS (hL) rfl 1 (by decide) (by decide +kernel) rfl rfl (by decide +kernel) rfl rfl (Nat.le_of_ble_eq_true rfl) dX2_init_6 (fun H locs hP hz hS => ?_)
  have hP : PW D A α (pw_up cell kL iL (.inr (2, [.null, .int 0]))) H := by exact hP
  have hsz := hz.trans hsz
  refine lv_aload_n hx hb dX2_init_9 rfl (lv_at hl 0 rfl) ?_
  refine lv_iload_n hx hb dX2_init_10 rfl (lv_at hl 1 rfl) ?_
  refine lv_iconst (v := 0) hx hb dX2_init_11 (by decide) ?_
  refine va_mmax hx hb (by rw [hml]; exact hl.1.symm) hown (hts (.methodLink RX2 15 Lib.Math.max.name) (by decide +kernel)) (hts (.static Lib.Math.max.name) (by decide +kernel)) (hts (.initialized "java/lang/Math") (by decide +kernel)) (hts (.code Lib.Math.max.name Lib.Math.max.code 2 (some .int)) (by decide +kernel)) (Nat.le_of_ble_eq_true rfl) (Nat.le_of_ble_eq_true rfl) (Nat.zero_le _) (Nat.zero_le _) dX2_init_12 ?_
  rw [if_neg (show ¬ nI n < 0 from nI_pos (by omega))]
  refine px_newa (atype := .int) (t0 := 0) (N' := n) (a0 := (n, .inl (fun _ => 0))) hx hb hts (by decide +kernel) hK hP hS kA iA hsz hq hA (ty_find0 hK) (fun _ => rfl) (nI_pos (by omega)) (nI_clamp (by omega)) (by show n * 4 ≤ _; omega) (Nat.le_of_ble_eq_true rfl) (by show 0 + n ≤ n; omega) dX2_init_15 (fun H hP hsz hS => ?_)
  refine W.cs (cells' := 1) (slots' := n) rfl (Nat.zero_add n) ?_
  refine pw_putF (ref := "TripPanel$Latest") (C := RX2) (T := TX2) (N := 2) (ci := 2) (fs := [.null, .int 0]) (v := .ref (α kA iA)) (ty := .array .int) hx hb hts hiX2 tyX2 tyX2_ok nmX2 hown hK hP hS ((pw_up_ne ne2).trans (pw_up_self _ _ _ _)) rfl 0 (by decide) (by decide +kernel) rfl rfl hin rfl (by decide +kernel) rfl rfl (Nat.le_of_ble_eq_true rfl) dX2_init_17 (fun H locs hP hz hS => ?_)
  have hP : PW D A α (pw_up (pw_up (pw_up cell kL iL (.inr (2, [.null, .int 0]))) kA iA (.inl (cy 0, n, .inl (fun _ => 0)))) kL iL (.inr (2, [.ref (α kA iA), .int 0]))) H := by exact hP
  have hsz := hz.trans hsz
  exact W.vret hx hb hr (fun t ht hW => ⟨⟨(), rfl, trivial, by dsimp only; rw [ht]; exact ⟨(by rw [lw_mk ne2]; exact hP), hsz⟩⟩, hS.F ht⟩) hS.2.2 dX2_init_20
