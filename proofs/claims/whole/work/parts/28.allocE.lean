def PY (D : va_G) (cy : Nat → ClassId) (A : Nat → Prop) (α : AD) (cell : CF) (n : Nat) (U : State) : Prop := PX D cy A α cell n U ∧ va_AO RX1 U ∧ va_AO RX0 U ∧ va_AO RX3 U
theorem py_blind {av : List Value} {D : va_G} {cy : Nat → ClassId} {A : Nat → Prop} {α : AD} {cell : CF} {n : Nat} : FrameBlind (va_Pc av (PY D cy A α cell n)) := fun a U g mk q => ⟨q.1, (px_blind (av := av) a U g mk ⟨q.1, q.2.1⟩).2, va_AO.moved (u := U) (U := U.calling g mk a) (Vm.Alike.refl U.vm) q.2.2.1, va_AO.moved (u := U) (U := U.calling g mk a) (Vm.Alike.refl U.vm) q.2.2.2.1, va_AO.moved (u := U) (U := U.calling g mk a) (Vm.Alike.refl U.vm) q.2.2.2.2⟩
theorem py_pre {av : List Value} {D : va_G} {cy : Nat → ClassId} {A : Nat → Prop} {α : AD} {cell : CF} {s : State} {H : Heap} {n : Nat} (hP : PW D A α cell H) (hK : va_K D vwCl (TY cy) s) (hn : H.size = n) (h1 : va_AO RX1 s) (h2 : va_AO RX0 s) (h3 : va_AO RX3 s) : ∀ U : State, U.heap = H → s.WarmedH U.vm → va_Pc av (PY D cy A α cell n) av.toArray U := fun U hU hW => ⟨rfl, (px_pre (av := av) hP hK hn U hU hW).2, va_AO.moved hW.alike h1, va_AO.moved hW.alike h2, va_AO.moved hW.alike h3⟩
def c00 (ci : Nat) (fs : List Value) : CF := pw_up (fun _ _ => none) 0 0 (.inr (ci, fs))
def σ0 : SG := fun _ _ => 0
theorem pw_norm {X : CF} {a b : Nat} {e f g : va_E} (h : ¬ (0 = a ∧ 0 = b)) : pw_up (pw_up (pw_up X 0 0 e) a b f) 0 0 g = pw_up (pw_up X a b f) 0 0 g := by
  rw [pw_comm (a := 0) (b := 0) h, pw_up2]
theorem qG_0 (α : AD) : qG σ0 α = fun _ => none := rfl
def fsp (α : AD) (k : Nat) : List Value := (List.range 25).map (fun i => if i < k then .ref (α (i + 1) 0) else .null) ++ [.int 0, .int 0, .int 0, .int 0, .int 0]
def CRp (cy : Nat → ClassId) (α : AD) (k : Nat) : CF := fun a b => if b = 0 then (if a = 0 then some (.inr (5, fsp α k)) else if a < k + 1 then some (.inl (cy (zR (a - 1)), lenR (a - 1), .inl (fun _ => 0))) else none) else none
theorem crp_0 (cy : Nat → ClassId) (α : AD) : c00 5 (fsp α 0) = CRp cy α 0 := by
  funext a b
  unfold c00 CRp
  by_cases hb : b = 0
  · by_cases ha : a = 0
    · subst ha hb; rw [pw_up_self]; rfl
    · rw [pw_up_ne (fun q => ha q.1), if_pos hb, if_neg ha, if_neg (by omega)]
  · rw [pw_up_ne (fun q => hb q.2), if_neg hb]
theorem crp_25 (cy : Nat → ClassId) (α : AD) : CRp cy α 25 = CR cy σ0 α := by
  funext a b; rfl
theorem crp_st {cy : Nat → ClassId} {α : AD} (k : Nat) {v : Value} {cl : ClassId} {n : Nat} (hs : (fsp α k).set k v = fsp α (k + 1)) (h1 : cl = cy (zR k)) (h2 : n = lenR k) : pw_up (pw_up (CRp cy α k) (k + 1) 0 (.inl (cl, n, .inl (fun _ => 0)))) 0 0 (.inr (5, (fsp α k).set k v)) = CRp cy α (k + 1) := by
  rw [hs, h1, h2]
  funext a b
  by_cases h0 : a = 0 ∧ b = 0
  · obtain ⟨rfl, rfl⟩ := h0; rw [pw_up_self]; rfl
  · rw [pw_up_ne h0]
    by_cases hk : a = k + 1 ∧ b = 0
    · obtain ⟨rfl, rfl⟩ := hk
      rw [pw_up_self]
      unfold CRp
      rw [if_pos rfl, if_neg (by omega), if_pos (by omega), Nat.add_sub_cancel]
    · rw [pw_up_ne hk]
      unfold CRp
      by_cases hb : b = 0
      · have ha : a ≠ 0 := fun q => h0 ⟨q, hb⟩
        have ha2 : a ≠ k + 1 := fun q => hk ⟨q, hb⟩
        rw [if_pos hb, if_pos hb, if_neg ha, if_neg ha]
        by_cases hl : a < k + 1
        · rw [if_pos hl, if_pos (by omega)]
        · rw [if_neg hl, if_neg (by omega)]
      · rw [if_neg hb, if_neg hb]
theorem cc_init {cy : Nat → ClassId} {α : AD} : pw_up (pw_up (pw_up (pw_up (pw_up (pw_up (pw_up (pw_up (pw_up (pw_up (c00 4 [.null, .null, .null, .null, .null, .null, .int 0, .int 0, .int 0, .int 0, .int 0]) 1 0 (.inl (cy 2, 16, .inr (.inr (.inr (.inr (fun _ => none))))))) 2 0 (.inl (cy 3, 24, .inr (.inr (.inr (.inr (fun _ => none))))))) 3 0 (.inl (cy 4, 8, .inr (.inr (.inr (.inr (fun _ => none))))))) 7 0 (.inl (cy 0, 20, .inl (fun _ => 0)))) 4 0 (.inr (2, [.ref (α 7 0), .int 0]))) 8 0 (.inl (cy 0, 20, .inl (fun _ => 0)))) 5 0 (.inr (2, [.ref (α 8 0), .int 0]))) 9 0 (.inl (cy 0, 20, .inl (fun _ => 0)))) 6 0 (.inr (2, [.ref (α 9 0), .int 0]))) 0 0 (.inr (4, [.ref (α 1 0), .ref (α 2 0), .ref (α 3 0), .ref (α 4 0), .ref (α 5 0), .ref (α 6 0), .int 0, .int 0, .int 0, .int 0, .int 0])) = CC cy σ0 α := by
  funext a b
  match a with
  | 0 => by_cases hb : b = 0 <;> simp [c00, pw_up, CC, hb, fsP, σ0]
  | 1 => by_cases hb : b = 0 <;> simp [c00, pw_up, CC, hb, fsP] <;> rfl
  | 2 => by_cases hb : b = 0 <;> simp [c00, pw_up, CC, hb, fsP] <;> rfl
  | 3 => by_cases hb : b = 0 <;> simp [c00, pw_up, CC, hb, fsP] <;> rfl
  | 4 => by_cases hb : b = 0 <;> simp [c00, pw_up, CC, hb, fsP, σ0]
  | 5 => by_cases hb : b = 0 <;> simp [c00, pw_up, CC, hb, fsP, σ0]
  | 6 => by_cases hb : b = 0 <;> simp [c00, pw_up, CC, hb, fsP, σ0]
  | 7 => by_cases hb : b = 0 <;> simp [c00, pw_up, CC, hb, fsP] <;> rfl
  | 8 => by_cases hb : b = 0 <;> simp [c00, pw_up, CC, hb, fsP] <;> rfl
  | 9 => by_cases hb : b = 0 <;> simp [c00, pw_up, CC, hb, fsP] <;> rfl
  | 10 => simp [c00, pw_up, CC, σ0]
  | 11 => simp [c00, pw_up, CC, σ0]
  | 12 => simp [c00, pw_up, CC, σ0]
  | 13 => simp [c00, pw_up, CC, σ0]
  | 14 => simp [c00, pw_up, CC, σ0]
  | 15 => simp [c00, pw_up, CC, σ0]
  | n + 16 => simp [c00, pw_up, CC]

set_option maxHeartbeats 4000000 in
set_option maxRecDepth 100000 in
theorem c_X4_init (l : Launch) (D : va_G) (cy : Nat → ClassId) (A : Nat → Prop) (α : AD) (n0 : Nat) (hA : ∀ q, n0 ≤ q → A q) (hq1 : α 1 0 = n0 + 0) (hq2 : α 2 0 = n0 + 1) (hq3 : α 3 0 = n0 + 2) (hq4 : α 4 0 = n0 + 3) (hq7 : α 7 0 = n0 + 4) (hq5 : α 5 0 = n0 + 5) (hq8 : α 8 0 = n0 + 6) (hq6 : α 6 0 = n0 + 7) (hq9 : α 9 0 = n0 + 8) : Met l yX4_init wsX4_init ({ frames := 2, cells := 9, slots := 114, locals := 35 } : Room) (va_Pc [.ref (α 0 0)] (PY D cy A α (c00 4 [.null, .null, .null, .null, .null, .null, .int 0, .int 0, .int 0, .int 0, .int 0]) n0)) (va_Qv (fun (u : Unit) => True) (fun u t => PW D A α (CC cy σ0 α) t.heap ∧ t.heap.size = n0 + 9) A) 9 114 A := by
  refine Met.ofW (cc := cX4_init) (maxL := 1) (ret := none) (by decide) rfl ?_
  intro p e s m args below meth c s₁ B hml hv
  obtain ⟨rfl, ⟨⟨hP, hK⟩, hsz⟩, hAOX1, hAOX0, hAOX3⟩ := hv
  have hx := B.exec
  have hb := B.bytes
  have hr := B.returns
  have hts := atoms_spec (ws := wsX4_init) B.pre
  have hown : s.vm.findClass RX4 = some m.cls := findClass_of_methodNamed B.named
  have hlocks := B.notSynchronized
  have hiX4 : ∀ w ∈ wsX40, w ∈ wsX4_init := by decide +kernel
  have hiX2 : ∀ w ∈ wsX20, w ∈ wsX4_init := by decide +kernel
  have hS : va_S A s.heap s.heap [] := va_S.rf
  have hin : meth.name = "<init>" := (name_of_methodNamed B.named B.method).1
  have hl := lv_entry ([.ref (α 0 0)]) (n := 1) (Nat.le_of_ble_eq_true rfl)
  rw [lg_entry_eq]
  generalize (lg_sl ([.ref (α 0 0)]) ++ List.replicate (1 - (lg_sl ([.ref (α 0 0)])).length) Slot.unset).toArray = ls at hl ⊢
  have hl : lv_has ls 1 [(0, .ref (α 0 0))] := hl
  skip
  refine lv_aload_n hx hb dX4_init_0 rfl (lv_at hl 0 rfl) ?_
  refine W.objInit hx hb hown (hts (.methodLink RX4 1 objectInit) (by decide +kernel)) (hts (.instanceMethod objectInit) (by decide +kernel)) (hts (.code objectInit ⟨#[0xb1]⟩ 1 none) (by decide +kernel)) rfl (by rw [hml]; exact hl.1) rfl dX4_init_1 (Nat.le_of_ble_eq_true rfl) (Nat.le_of_ble_eq_true rfl) ?_
  refine W.eq (g2 := F0 m 4 ls []) rfl ?_
  refine lv_aload_n hx hb dX4_init_4 rfl (lv_at hl 0 rfl) ?_
  refine lv_bipush (v := 16) hx hb dX4_init_5 (by decide) ?_
  refine px_newq (own := RX4) (C := RX1) (index := 9) (t0 := 2) (N' := 16) hx hb hts hown (by decide +kernel) hAOX1 hK hP hS 1 0 hsz (by omega) (hA _ (by omega)) rfl (by decide) rfl (by decide) (Nat.le_of_ble_eq_true rfl) (Nat.le_of_ble_eq_true rfl) dX4_init_7 (fun H hP hsz hS => ?_)
  refine W.cs (cells' := 1) (slots' := 16) rfl rfl ?_
  refine pw_putF (ref := "TripPanel") (C := RX4) (T := TX4) (N := 11) (ci := 4) (fs := [.null, .null, .null, .null, .null, .null, .int 0, .int 0, .int 0, .int 0, .int 0]) (v := .ref (α 1 0)) (ty := .array (.object "TripPanel$Gauge")) hx hb hts hiX4 tyX4 tyX4_ok nmX4 hown hK hP hS ((pw_up_ne (by omega)).trans (pw_up_self _ _ _ _)) rfl 0 (by decide) (by decide +kernel) rfl rfl hin rfl (by decide +kernel) rfl rfl (Nat.le_of_ble_eq_true rfl) dX4_init_10 (fun H locs hP hz hS => ?_)
  have hP : PW D A α (pw_up (pw_up (c00 4 [.null, .null, .null, .null, .null, .null, .int 0, .int 0, .int 0, .int 0, .int 0]) 1 0 (.inl (cy 2, 16, .inr (.inr (.inr (.inr (fun _ => none))))))) 0 0 (.inr (4, [.ref (α 1 0), .null, .null, .null, .null, .null, .int 0, .int 0, .int 0, .int 0, .int 0]))) H := by exact hP
  have hsz := hz.trans hsz
  refine lv_aload_n hx hb dX4_init_13 rfl (lv_at hl 0 rfl) ?_
  refine lv_bipush (v := 24) hx hb dX4_init_14 (by decide) ?_
  refine px_newq (own := RX4) (C := RX0) (index := 15) (t0 := 3) (N' := 24) hx hb hts hown (by decide +kernel) hAOX0 hK hP hS 2 0 hsz (by omega) (hA _ (by omega)) rfl (by decide) rfl (by decide) (Nat.le_of_ble_eq_true rfl) (Nat.le_of_ble_eq_true rfl) dX4_init_16 (fun H hP hsz hS => ?_)
  refine W.cs (cells' := 2) (slots' := 40) rfl rfl ?_
  refine pw_putF (ref := "TripPanel") (C := RX4) (T := TX4) (N := 11) (ci := 4) (fs := [.ref (α 1 0), .null, .null, .null, .null, .null, .int 0, .int 0, .int 0, .int 0, .int 0]) (v := .ref (α 2 0)) (ty := .array (.object "TripPanel$Condition")) hx hb hts hiX4 tyX4 tyX4_ok nmX4 hown hK hP hS ((pw_up_ne (by omega)).trans (pw_up_self _ _ _ _)) rfl 1 (by decide) (by decide +kernel) rfl rfl hin rfl (by decide +kernel) rfl rfl (Nat.le_of_ble_eq_true rfl) dX4_init_19 (fun H locs hP hz hS => ?_)
  have hP : PW D A α (pw_up (pw_up (pw_up (pw_up (c00 4 [.null, .null, .null, .null, .null, .null, .int 0, .int 0, .int 0, .int 0, .int 0]) 1 0 (.inl (cy 2, 16, .inr (.inr (.inr (.inr (fun _ => none))))))) 0 0 (.inr (4, [.ref (α 1 0), .null, .null, .null, .null, .null, .int 0, .int 0, .int 0, .int 0, .int 0]))) 2 0 (.inl (cy 3, 24, .inr (.inr (.inr (.inr (fun _ => none))))))) 0 0 (.inr (4, [.ref (α 1 0), .ref (α 2 0), .null, .null, .null, .null, .int 0, .int 0, .int 0, .int 0, .int 0]))) H := by exact hP
  have hsz := hz.trans hsz
  rw [pw_comm (a := 0) (b := 0) (c := 2) (d := 0) (by omega)] at hP
  rw [pw_up2] at hP
  refine lv_aload_n hx hb dX4_init_22 rfl (lv_at hl 0 rfl) ?_
  refine lv_bipush (v := 8) hx hb dX4_init_23 (by decide) ?_
  refine px_newq (own := RX4) (C := RX3) (index := 21) (t0 := 4) (N' := 8) hx hb hts hown (by decide +kernel) hAOX3 hK hP hS 3 0 hsz (by omega) (hA _ (by omega)) rfl (by decide) rfl (by decide) (Nat.le_of_ble_eq_true rfl) (Nat.le_of_ble_eq_true rfl) dX4_init_25 (fun H hP hsz hS => ?_)
  refine W.cs (cells' := 3) (slots' := 48) rfl rfl ?_
  refine pw_putF (ref := "TripPanel") (C := RX4) (T := TX4) (N := 11) (ci := 4) (fs := [.ref (α 1 0), .ref (α 2 0), .null, .null, .null, .null, .int 0, .int 0, .int 0, .int 0, .int 0]) (v := .ref (α 3 0)) (ty := .array (.object "TripPanel$Trip")) hx hb hts hiX4 tyX4 tyX4_ok nmX4 hown hK hP hS ((pw_up_ne (by omega)).trans (pw_up_self _ _ _ _)) rfl 2 (by decide) (by decide +kernel) rfl rfl hin rfl (by decide +kernel) rfl rfl (Nat.le_of_ble_eq_true rfl) dX4_init_28 (fun H locs hP hz hS => ?_)
  have hP : PW D A α (pw_up (pw_up (pw_up (pw_up (pw_up (c00 4 [.null, .null, .null, .null, .null, .null, .int 0, .int 0, .int 0, .int 0, .int 0]) 1 0 (.inl (cy 2, 16, .inr (.inr (.inr (.inr (fun _ => none))))))) 2 0 (.inl (cy 3, 24, .inr (.inr (.inr (.inr (fun _ => none))))))) 0 0 (.inr (4, [.ref (α 1 0), .ref (α 2 0), .null, .null, .null, .null, .int 0, .int 0, .int 0, .int 0, .int 0]))) 3 0 (.inl (cy 4, 8, .inr (.inr (.inr (.inr (fun _ => none))))))) 0 0 (.inr (4, [.ref (α 1 0), .ref (α 2 0), .ref (α 3 0), .null, .null, .null, .int 0, .int 0, .int 0, .int 0, .int 0]))) H := by exact hP
  have hsz := hz.trans hsz
  rw [pw_comm (a := 0) (b := 0) (c := 3) (d := 0) (by omega)] at hP
  rw [pw_up2] at hP
  refine lv_aload_n hx hb dX4_init_31 rfl (lv_at hl 0 rfl) ?_
  refine px_new (C := RX2) (T := TX2) (N := 2) (ci := 2) (fs := [.null, .int 0]) hx hb hts hiX2 tyX2 tyX2_ok hown (by decide +kernel) (by decide +kernel) (by decide +kernel) hK hP hS 4 0 hsz (by omega) (hA _ (by omega)) rfl (fun j hj => by rcases (show j = 0 ∨ j = 1 by omega) with rfl | rfl <;> rfl) (Nat.le_of_ble_eq_true rfl) (Nat.le_of_ble_eq_true rfl) dX4_init_32 (fun H hP hsz hS => ?_)
  refine W.cs (cells' := 4) (slots' := 50) rfl rfl ?_
  refine lv_dup hx hb dX4_init_35 rfl ?_
  refine lv_bipush (v := 20) hx hb dX4_init_36 (by decide) ?_
  refine va_callv (va_runI (As := [.int 20]) (rest := [.ref (α 4 0), .ref (α 0 0)]) ⟨hx, hb, hml, hown, hts⟩ (c_X2_init l D cy A α (pw_up (pw_up (pw_up (pw_up (pw_up (c00 4 [.null, .null, .null, .null, .null, .null, .int 0, .int 0, .int 0, .int 0, .int 0]) 1 0 (.inl (cy 2, 16, .inr (.inr (.inr (.inr (fun _ => none))))))) 2 0 (.inl (cy 3, 24, .inr (.inr (.inr (.inr (fun _ => none))))))) 3 0 (.inl (cy 4, 8, .inr (.inr (.inr (.inr (fun _ => none))))))) 0 0 (.inr (4, [.ref (α 1 0), .ref (α 2 0), .ref (α 3 0), .null, .null, .null, .int 0, .int 0, .int 0, .int 0, .int 0]))) 4 0 (.inr (2, [.null, .int 0]))) 4 0 7 0 20 (n0 + 1 + 1 + 1 + 1) (by omega) (by decide) (by decide) (pw_up_self _ _ _ _) (by omega) (hA _ (by omega))) (cwI 1 hts gX4_init_X2_init rfl rfl rfl (hts (.initialized RX2) (by decide +kernel)) (hts (.methodLink RX4 29 yX2_init) (by decide +kernel)) (hts (.instanceMethod yX2_init) (by decide +kernel)) rfl (by decide +kernel) ⟨Nat.le_of_ble_eq_true rfl, Nat.le_of_ble_eq_true rfl⟩) ⟨px_blind, px_pre hP hK hsz⟩ rfl rfl hl.1 rfl (lv_room (Nat.le_of_ble_eq_true rfl)) dX4_init_38 ⟨Nat.le_of_ble_eq_true rfl, Nat.le_of_ble_eq_true rfl⟩) hS (fun _ _ h => h) (fun _ h => h) (fun u t H locs ht hvm hw hB hz1 hk1 hS => ?_)
  have hP := hB
  rw [ht] at hP
  obtain ⟨hP, hsz⟩ := hP
  refine W.cs (cells' := 5) (slots' := 70) rfl rfl ?_
  have hP : PW D A α (pw_up (pw_up (pw_up (pw_up (pw_up (pw_up (pw_up (c00 4 [.null, .null, .null, .null, .null, .null, .int 0, .int 0, .int 0, .int 0, .int 0]) 1 0 (.inl (cy 2, 16, .inr (.inr (.inr (.inr (fun _ => none))))))) 2 0 (.inl (cy 3, 24, .inr (.inr (.inr (.inr (fun _ => none))))))) 3 0 (.inl (cy 4, 8, .inr (.inr (.inr (.inr (fun _ => none))))))) 0 0 (.inr (4, [.ref (α 1 0), .ref (α 2 0), .ref (α 3 0), .null, .null, .null, .int 0, .int 0, .int 0, .int 0, .int 0]))) 4 0 (.inr (2, [.null, .int 0]))) 7 0 (.inl (cy 0, 20, .inl (fun _ => 0)))) 4 0 (.inr (2, [.ref (α 7 0), .int 0]))) H := hP
  rw [pw_comm (a := 4) (b := 0) (c := 7) (d := 0) (by omega), pw_up2] at hP
  refine pw_putF (ref := "TripPanel") (C := RX4) (T := TX4) (N := 11) (ci := 4) (fs := [.ref (α 1 0), .ref (α 2 0), .ref (α 3 0), .null, .null, .null, .int 0, .int 0, .int 0, .int 0, .int 0]) (v := .ref (α 4 0)) (ty := .object "TripPanel$Latest") hx hb hts hiX4 tyX4 tyX4_ok nmX4 hown hK hP hS ((pw_up_ne (by omega)).trans ((pw_up_ne (by omega)).trans (pw_up_self _ _ _ _))) rfl 3 (by decide) (by decide +kernel) rfl rfl hin rfl (by decide +kernel) rfl rfl (Nat.le_of_ble_eq_true rfl) dX4_init_41 (fun H locs hP hz hS => ?_)
  have hP : PW D A α (pw_up (pw_up (pw_up (pw_up (pw_up (pw_up (pw_up (c00 4 [.null, .null, .null, .null, .null, .null, .int 0, .int 0, .int 0, .int 0, .int 0]) 1 0 (.inl (cy 2, 16, .inr (.inr (.inr (.inr (fun _ => none))))))) 2 0 (.inl (cy 3, 24, .inr (.inr (.inr (.inr (fun _ => none))))))) 3 0 (.inl (cy 4, 8, .inr (.inr (.inr (.inr (fun _ => none))))))) 0 0 (.inr (4, [.ref (α 1 0), .ref (α 2 0), .ref (α 3 0), .null, .null, .null, .int 0, .int 0, .int 0, .int 0, .int 0]))) 7 0 (.inl (cy 0, 20, .inl (fun _ => 0)))) 4 0 (.inr (2, [.ref (α 7 0), .int 0]))) 0 0 (.inr (4, [.ref (α 1 0), .ref (α 2 0), .ref (α 3 0), .ref (α 4 0), .null, .null, .int 0, .int 0, .int 0, .int 0, .int 0]))) H := by exact hP
  have hsz := hz.trans hsz
  rw [pw_comm (a := 0) (b := 0) (c := 7) (d := 0) (by omega)] at hP
  rw [pw_comm (a := 0) (b := 0) (c := 4) (d := 0) (by omega)] at hP
  rw [pw_up2] at hP
  refine lv_aload_n hx hb dX4_init_44 rfl (lv_at hl 0 rfl) ?_
  refine px_new (C := RX2) (T := TX2) (N := 2) (ci := 2) (fs := [.null, .int 0]) hx hb hts hiX2 tyX2 tyX2_ok hown (by decide +kernel) (by decide +kernel) (by decide +kernel) hK hP hS 5 0 hsz (by omega) (hA _ (by omega)) rfl (fun j hj => by rcases (show j = 0 ∨ j = 1 by omega) with rfl | rfl <;> rfl) (Nat.le_of_ble_eq_true rfl) (Nat.le_of_ble_eq_true rfl) dX4_init_45 (fun H hP hsz hS => ?_)
  refine W.cs (cells' := 6) (slots' := 72) rfl rfl ?_
  refine lv_dup hx hb dX4_init_48 rfl ?_
  refine lv_bipush (v := 20) hx hb dX4_init_49 (by decide) ?_
  refine va_callv (va_runI (As := [.int 20]) (rest := [.ref (α 5 0), .ref (α 0 0)]) ⟨hx, hb, hml, hown, hts⟩ (c_X2_init l D cy A α (pw_up (pw_up (pw_up (pw_up (pw_up (pw_up (pw_up (c00 4 [.null, .null, .null, .null, .null, .null, .int 0, .int 0, .int 0, .int 0, .int 0]) 1 0 (.inl (cy 2, 16, .inr (.inr (.inr (.inr (fun _ => none))))))) 2 0 (.inl (cy 3, 24, .inr (.inr (.inr (.inr (fun _ => none))))))) 3 0 (.inl (cy 4, 8, .inr (.inr (.inr (.inr (fun _ => none))))))) 7 0 (.inl (cy 0, 20, .inl (fun _ => 0)))) 4 0 (.inr (2, [.ref (α 7 0), .int 0]))) 0 0 (.inr (4, [.ref (α 1 0), .ref (α 2 0), .ref (α 3 0), .ref (α 4 0), .null, .null, .int 0, .int 0, .int 0, .int 0, .int 0]))) 5 0 (.inr (2, [.null, .int 0]))) 5 0 8 0 20 (n0 + 1 + 1 + 1 + 1 + 1 + 1) (by omega) (by decide) (by decide) (pw_up_self _ _ _ _) (by omega) (hA _ (by omega))) (cwI 1 hts gX4_init_X2_init rfl rfl rfl (hts (.initialized RX2) (by decide +kernel)) (hts (.methodLink RX4 29 yX2_init) (by decide +kernel)) (hts (.instanceMethod yX2_init) (by decide +kernel)) rfl (by decide +kernel) ⟨Nat.le_of_ble_eq_true rfl, Nat.le_of_ble_eq_true rfl⟩) ⟨px_blind, px_pre hP hK hsz⟩ rfl rfl hl.1 rfl (lv_room (Nat.le_of_ble_eq_true rfl)) dX4_init_51 ⟨Nat.le_of_ble_eq_true rfl, Nat.le_of_ble_eq_true rfl⟩) hS (fun _ _ h => h) (fun _ h => h) (fun u t H locs ht hvm hw hB hz1 hk1 hS => ?_)
  have hP := hB
  rw [ht] at hP
  obtain ⟨hP, hsz⟩ := hP
  refine W.cs (cells' := 7) (slots' := 92) rfl rfl ?_
  have hP : PW D A α (pw_up (pw_up (pw_up (pw_up (pw_up (pw_up (pw_up (pw_up (pw_up (c00 4 [.null, .null, .null, .null, .null, .null, .int 0, .int 0, .int 0, .int 0, .int 0]) 1 0 (.inl (cy 2, 16, .inr (.inr (.inr (.inr (fun _ => none))))))) 2 0 (.inl (cy 3, 24, .inr (.inr (.inr (.inr (fun _ => none))))))) 3 0 (.inl (cy 4, 8, .inr (.inr (.inr (.inr (fun _ => none))))))) 7 0 (.inl (cy 0, 20, .inl (fun _ => 0)))) 4 0 (.inr (2, [.ref (α 7 0), .int 0]))) 0 0 (.inr (4, [.ref (α 1 0), .ref (α 2 0), .ref (α 3 0), .ref (α 4 0), .null, .null, .int 0, .int 0, .int 0, .int 0, .int 0]))) 5 0 (.inr (2, [.null, .int 0]))) 8 0 (.inl (cy 0, 20, .inl (fun _ => 0)))) 5 0 (.inr (2, [.ref (α 8 0), .int 0]))) H := hP
  rw [pw_comm (a := 5) (b := 0) (c := 8) (d := 0) (by omega), pw_up2] at hP
  refine pw_putF (ref := "TripPanel") (C := RX4) (T := TX4) (N := 11) (ci := 4) (fs := [.ref (α 1 0), .ref (α 2 0), .ref (α 3 0), .ref (α 4 0), .null, .null, .int 0, .int 0, .int 0, .int 0, .int 0]) (v := .ref (α 5 0)) (ty := .object "TripPanel$Latest") hx hb hts hiX4 tyX4 tyX4_ok nmX4 hown hK hP hS ((pw_up_ne (by omega)).trans ((pw_up_ne (by omega)).trans (pw_up_self _ _ _ _))) rfl 4 (by decide) (by decide +kernel) rfl rfl hin rfl (by decide +kernel) rfl rfl (Nat.le_of_ble_eq_true rfl) dX4_init_54 (fun H locs hP hz hS => ?_)
  have hP : PW D A α (pw_up (pw_up (pw_up (pw_up (pw_up (pw_up (pw_up (pw_up (pw_up (c00 4 [.null, .null, .null, .null, .null, .null, .int 0, .int 0, .int 0, .int 0, .int 0]) 1 0 (.inl (cy 2, 16, .inr (.inr (.inr (.inr (fun _ => none))))))) 2 0 (.inl (cy 3, 24, .inr (.inr (.inr (.inr (fun _ => none))))))) 3 0 (.inl (cy 4, 8, .inr (.inr (.inr (.inr (fun _ => none))))))) 7 0 (.inl (cy 0, 20, .inl (fun _ => 0)))) 4 0 (.inr (2, [.ref (α 7 0), .int 0]))) 0 0 (.inr (4, [.ref (α 1 0), .ref (α 2 0), .ref (α 3 0), .ref (α 4 0), .null, .null, .int 0, .int 0, .int 0, .int 0, .int 0]))) 8 0 (.inl (cy 0, 20, .inl (fun _ => 0)))) 5 0 (.inr (2, [.ref (α 8 0), .int 0]))) 0 0 (.inr (4, [.ref (α 1 0), .ref (α 2 0), .ref (α 3 0), .ref (α 4 0), .ref (α 5 0), .null, .int 0, .int 0, .int 0, .int 0, .int 0]))) H := by exact hP
  have hsz := hz.trans hsz
  rw [pw_comm (a := 0) (b := 0) (c := 8) (d := 0) (by omega)] at hP
  rw [pw_comm (a := 0) (b := 0) (c := 5) (d := 0) (by omega)] at hP
  rw [pw_up2] at hP
  refine lv_aload_n hx hb dX4_init_57 rfl (lv_at hl 0 rfl) ?_
  refine px_new (C := RX2) (T := TX2) (N := 2) (ci := 2) (fs := [.null, .int 0]) hx hb hts hiX2 tyX2 tyX2_ok hown (by decide +kernel) (by decide +kernel) (by decide +kernel) hK hP hS 6 0 hsz (by omega) (hA _ (by omega)) rfl (fun j hj => by rcases (show j = 0 ∨ j = 1 by omega) with rfl | rfl <;> rfl) (Nat.le_of_ble_eq_true rfl) (Nat.le_of_ble_eq_true rfl) dX4_init_58 (fun H hP hsz hS => ?_)
  refine W.cs (cells' := 8) (slots' := 94) rfl rfl ?_
  refine lv_dup hx hb dX4_init_61 rfl ?_
  refine lv_bipush (v := 20) hx hb dX4_init_62 (by decide) ?_
  refine va_callv (va_runI (As := [.int 20]) (rest := [.ref (α 6 0), .ref (α 0 0)]) ⟨hx, hb, hml, hown, hts⟩ (c_X2_init l D cy A α (pw_up (pw_up (pw_up (pw_up (pw_up (pw_up (pw_up (pw_up (pw_up (c00 4 [.null, .null, .null, .null, .null, .null, .int 0, .int 0, .int 0, .int 0, .int 0]) 1 0 (.inl (cy 2, 16, .inr (.inr (.inr (.inr (fun _ => none))))))) 2 0 (.inl (cy 3, 24, .inr (.inr (.inr (.inr (fun _ => none))))))) 3 0 (.inl (cy 4, 8, .inr (.inr (.inr (.inr (fun _ => none))))))) 7 0 (.inl (cy 0, 20, .inl (fun _ => 0)))) 4 0 (.inr (2, [.ref (α 7 0), .int 0]))) 8 0 (.inl (cy 0, 20, .inl (fun _ => 0)))) 5 0 (.inr (2, [.ref (α 8 0), .int 0]))) 0 0 (.inr (4, [.ref (α 1 0), .ref (α 2 0), .ref (α 3 0), .ref (α 4 0), .ref (α 5 0), .null, .int 0, .int 0, .int 0, .int 0, .int 0]))) 6 0 (.inr (2, [.null, .int 0]))) 6 0 9 0 20 (n0 + 1 + 1 + 1 + 1 + 1 + 1 + 1 + 1) (by omega) (by decide) (by decide) (pw_up_self _ _ _ _) (by omega) (hA _ (by omega))) (cwI 1 hts gX4_init_X2_init rfl rfl rfl (hts (.initialized RX2) (by decide +kernel)) (hts (.methodLink RX4 29 yX2_init) (by decide +kernel)) (hts (.instanceMethod yX2_init) (by decide +kernel)) rfl (by decide +kernel) ⟨Nat.le_of_ble_eq_true rfl, Nat.le_of_ble_eq_true rfl⟩) ⟨px_blind, px_pre hP hK hsz⟩ rfl rfl hl.1 rfl (lv_room (Nat.le_of_ble_eq_true rfl)) dX4_init_64 ⟨Nat.le_of_ble_eq_true rfl, Nat.le_of_ble_eq_true rfl⟩) hS (fun _ _ h => h) (fun _ h => h) (fun u t H locs ht hvm hw hB hz1 hk1 hS => ?_)
  have hP := hB
  rw [ht] at hP
  obtain ⟨hP, hsz⟩ := hP
  refine W.cs (cells' := 9) (slots' := 114) rfl rfl ?_
  have hP : PW D A α (pw_up (pw_up (pw_up (pw_up (pw_up (pw_up (pw_up (pw_up (pw_up (pw_up (pw_up (c00 4 [.null, .null, .null, .null, .null, .null, .int 0, .int 0, .int 0, .int 0, .int 0]) 1 0 (.inl (cy 2, 16, .inr (.inr (.inr (.inr (fun _ => none))))))) 2 0 (.inl (cy 3, 24, .inr (.inr (.inr (.inr (fun _ => none))))))) 3 0 (.inl (cy 4, 8, .inr (.inr (.inr (.inr (fun _ => none))))))) 7 0 (.inl (cy 0, 20, .inl (fun _ => 0)))) 4 0 (.inr (2, [.ref (α 7 0), .int 0]))) 8 0 (.inl (cy 0, 20, .inl (fun _ => 0)))) 5 0 (.inr (2, [.ref (α 8 0), .int 0]))) 0 0 (.inr (4, [.ref (α 1 0), .ref (α 2 0), .ref (α 3 0), .ref (α 4 0), .ref (α 5 0), .null, .int 0, .int 0, .int 0, .int 0, .int 0]))) 6 0 (.inr (2, [.null, .int 0]))) 9 0 (.inl (cy 0, 20, .inl (fun _ => 0)))) 6 0 (.inr (2, [.ref (α 9 0), .int 0]))) H := hP
  rw [pw_comm (a := 6) (b := 0) (c := 9) (d := 0) (by omega), pw_up2] at hP
  refine pw_putF (ref := "TripPanel") (C := RX4) (T := TX4) (N := 11) (ci := 4) (fs := [.ref (α 1 0), .ref (α 2 0), .ref (α 3 0), .ref (α 4 0), .ref (α 5 0), .null, .int 0, .int 0, .int 0, .int 0, .int 0]) (v := .ref (α 6 0)) (ty := .object "TripPanel$Latest") hx hb hts hiX4 tyX4 tyX4_ok nmX4 hown hK hP hS ((pw_up_ne (by omega)).trans ((pw_up_ne (by omega)).trans (pw_up_self _ _ _ _))) rfl 5 (by decide) (by decide +kernel) rfl rfl hin rfl (by decide +kernel) rfl rfl (Nat.le_of_ble_eq_true rfl) dX4_init_67 (fun H locs hP hz hS => ?_)
  have hP : PW D A α (pw_up (pw_up (pw_up (pw_up (pw_up (pw_up (pw_up (pw_up (pw_up (pw_up (pw_up (c00 4 [.null, .null, .null, .null, .null, .null, .int 0, .int 0, .int 0, .int 0, .int 0]) 1 0 (.inl (cy 2, 16, .inr (.inr (.inr (.inr (fun _ => none))))))) 2 0 (.inl (cy 3, 24, .inr (.inr (.inr (.inr (fun _ => none))))))) 3 0 (.inl (cy 4, 8, .inr (.inr (.inr (.inr (fun _ => none))))))) 7 0 (.inl (cy 0, 20, .inl (fun _ => 0)))) 4 0 (.inr (2, [.ref (α 7 0), .int 0]))) 8 0 (.inl (cy 0, 20, .inl (fun _ => 0)))) 5 0 (.inr (2, [.ref (α 8 0), .int 0]))) 0 0 (.inr (4, [.ref (α 1 0), .ref (α 2 0), .ref (α 3 0), .ref (α 4 0), .ref (α 5 0), .null, .int 0, .int 0, .int 0, .int 0, .int 0]))) 9 0 (.inl (cy 0, 20, .inl (fun _ => 0)))) 6 0 (.inr (2, [.ref (α 9 0), .int 0]))) 0 0 (.inr (4, [.ref (α 1 0), .ref (α 2 0), .ref (α 3 0), .ref (α 4 0), .ref (α 5 0), .ref (α 6 0), .int 0, .int 0, .int 0, .int 0, .int 0]))) H := by exact hP
  have hsz := hz.trans hsz
  rw [pw_comm (a := 0) (b := 0) (c := 9) (d := 0) (by omega)] at hP
  rw [pw_comm (a := 0) (b := 0) (c := 6) (d := 0) (by omega)] at hP
  rw [pw_up2] at hP
  refine lv_aload_n hx hb dX4_init_70 rfl (lv_at hl 0 rfl) ?_
  refine lv_iconst (v := 0) hx hb dX4_init_71 (by decide) ?_
  refine pw_put (ref := "TripPanel") (C := RX4) (T := TX4) (N := 11) (ci := 4) (fs := [.ref (α 1 0), .ref (α 2 0), .ref (α 3 0), .ref (α 4 0), .ref (α 5 0), .ref (α 6 0), .int 0, .int 0, .int 0, .int 0, .int 0]) (v := .int 0) (ty := .int) hx hb hts hiX4 tyX4 tyX4_ok nmX4 hown hK hP hS (pw_up_self _ _ _ _) rfl 6 (by decide) (by decide +kernel) rfl rfl (by decide +kernel) rfl rfl (Nat.le_of_ble_eq_true rfl) dX4_init_72 (fun H locs hP hz hS => ?_)
  have hP : PW D A α (pw_up (pw_up (pw_up (pw_up (pw_up (pw_up (pw_up (pw_up (pw_up (pw_up (c00 4 [.null, .null, .null, .null, .null, .null, .int 0, .int 0, .int 0, .int 0, .int 0]) 1 0 (.inl (cy 2, 16, .inr (.inr (.inr (.inr (fun _ => none))))))) 2 0 (.inl (cy 3, 24, .inr (.inr (.inr (.inr (fun _ => none))))))) 3 0 (.inl (cy 4, 8, .inr (.inr (.inr (.inr (fun _ => none))))))) 7 0 (.inl (cy 0, 20, .inl (fun _ => 0)))) 4 0 (.inr (2, [.ref (α 7 0), .int 0]))) 8 0 (.inl (cy 0, 20, .inl (fun _ => 0)))) 5 0 (.inr (2, [.ref (α 8 0), .int 0]))) 9 0 (.inl (cy 0, 20, .inl (fun _ => 0)))) 6 0 (.inr (2, [.ref (α 9 0), .int 0]))) 0 0 (.inr (4, [.ref (α 1 0), .ref (α 2 0), .ref (α 3 0), .ref (α 4 0), .ref (α 5 0), .ref (α 6 0), .int 0, .int 0, .int 0, .int 0, .int 0]))) H := by rw [pw_up2] at hP; exact hP
  have hsz := hz.trans hsz
  refine lv_aload_n hx hb dX4_init_75 rfl (lv_at hl 0 rfl) ?_
  refine lv_iconst (v := 0) hx hb dX4_init_76 (by decide) ?_
  refine pw_put (ref := "TripPanel") (C := RX4) (T := TX4) (N := 11) (ci := 4) (fs := [.ref (α 1 0), .ref (α 2 0), .ref (α 3 0), .ref (α 4 0), .ref (α 5 0), .ref (α 6 0), .int 0, .int 0, .int 0, .int 0, .int 0]) (v := .int 0) (ty := .int) hx hb hts hiX4 tyX4 tyX4_ok nmX4 hown hK hP hS (pw_up_self _ _ _ _) rfl 7 (by decide) (by decide +kernel) rfl rfl (by decide +kernel) rfl rfl (Nat.le_of_ble_eq_true rfl) dX4_init_77 (fun H locs hP hz hS => ?_)
  have hP : PW D A α (pw_up (pw_up (pw_up (pw_up (pw_up (pw_up (pw_up (pw_up (pw_up (pw_up (c00 4 [.null, .null, .null, .null, .null, .null, .int 0, .int 0, .int 0, .int 0, .int 0]) 1 0 (.inl (cy 2, 16, .inr (.inr (.inr (.inr (fun _ => none))))))) 2 0 (.inl (cy 3, 24, .inr (.inr (.inr (.inr (fun _ => none))))))) 3 0 (.inl (cy 4, 8, .inr (.inr (.inr (.inr (fun _ => none))))))) 7 0 (.inl (cy 0, 20, .inl (fun _ => 0)))) 4 0 (.inr (2, [.ref (α 7 0), .int 0]))) 8 0 (.inl (cy 0, 20, .inl (fun _ => 0)))) 5 0 (.inr (2, [.ref (α 8 0), .int 0]))) 9 0 (.inl (cy 0, 20, .inl (fun _ => 0)))) 6 0 (.inr (2, [.ref (α 9 0), .int 0]))) 0 0 (.inr (4, [.ref (α 1 0), .ref (α 2 0), .ref (α 3 0), .ref (α 4 0), .ref (α 5 0), .ref (α 6 0), .int 0, .int 0, .int 0, .int 0, .int 0]))) H := by rw [pw_up2] at hP; exact hP
  have hsz := hz.trans hsz
  refine lv_aload_n hx hb dX4_init_80 rfl (lv_at hl 0 rfl) ?_
  refine lv_iconst (v := 0) hx hb dX4_init_81 (by decide) ?_
  refine pw_put (ref := "TripPanel") (C := RX4) (T := TX4) (N := 11) (ci := 4) (fs := [.ref (α 1 0), .ref (α 2 0), .ref (α 3 0), .ref (α 4 0), .ref (α 5 0), .ref (α 6 0), .int 0, .int 0, .int 0, .int 0, .int 0]) (v := .int 0) (ty := .int) hx hb hts hiX4 tyX4 tyX4_ok nmX4 hown hK hP hS (pw_up_self _ _ _ _) rfl 8 (by decide) (by decide +kernel) rfl rfl (by decide +kernel) rfl rfl (Nat.le_of_ble_eq_true rfl) dX4_init_82 (fun H locs hP hz hS => ?_)
  have hP : PW D A α (pw_up (pw_up (pw_up (pw_up (pw_up (pw_up (pw_up (pw_up (pw_up (pw_up (c00 4 [.null, .null, .null, .null, .null, .null, .int 0, .int 0, .int 0, .int 0, .int 0]) 1 0 (.inl (cy 2, 16, .inr (.inr (.inr (.inr (fun _ => none))))))) 2 0 (.inl (cy 3, 24, .inr (.inr (.inr (.inr (fun _ => none))))))) 3 0 (.inl (cy 4, 8, .inr (.inr (.inr (.inr (fun _ => none))))))) 7 0 (.inl (cy 0, 20, .inl (fun _ => 0)))) 4 0 (.inr (2, [.ref (α 7 0), .int 0]))) 8 0 (.inl (cy 0, 20, .inl (fun _ => 0)))) 5 0 (.inr (2, [.ref (α 8 0), .int 0]))) 9 0 (.inl (cy 0, 20, .inl (fun _ => 0)))) 6 0 (.inr (2, [.ref (α 9 0), .int 0]))) 0 0 (.inr (4, [.ref (α 1 0), .ref (α 2 0), .ref (α 3 0), .ref (α 4 0), .ref (α 5 0), .ref (α 6 0), .int 0, .int 0, .int 0, .int 0, .int 0]))) H := by rw [pw_up2] at hP; exact hP
  have hsz := hz.trans hsz
  refine lv_aload_n hx hb dX4_init_85 rfl (lv_at hl 0 rfl) ?_
  refine lv_iconst (v := 0) hx hb dX4_init_86 (by decide) ?_
  refine pw_put (ref := "TripPanel") (C := RX4) (T := TX4) (N := 11) (ci := 4) (fs := [.ref (α 1 0), .ref (α 2 0), .ref (α 3 0), .ref (α 4 0), .ref (α 5 0), .ref (α 6 0), .int 0, .int 0, .int 0, .int 0, .int 0]) (v := .int 0) (ty := .int) hx hb hts hiX4 tyX4 tyX4_ok nmX4 hown hK hP hS (pw_up_self _ _ _ _) rfl 9 (by decide) (by decide +kernel) rfl rfl (by decide +kernel) rfl rfl (Nat.le_of_ble_eq_true rfl) dX4_init_87 (fun H locs hP hz hS => ?_)
  have hP : PW D A α (pw_up (pw_up (pw_up (pw_up (pw_up (pw_up (pw_up (pw_up (pw_up (pw_up (c00 4 [.null, .null, .null, .null, .null, .null, .int 0, .int 0, .int 0, .int 0, .int 0]) 1 0 (.inl (cy 2, 16, .inr (.inr (.inr (.inr (fun _ => none))))))) 2 0 (.inl (cy 3, 24, .inr (.inr (.inr (.inr (fun _ => none))))))) 3 0 (.inl (cy 4, 8, .inr (.inr (.inr (.inr (fun _ => none))))))) 7 0 (.inl (cy 0, 20, .inl (fun _ => 0)))) 4 0 (.inr (2, [.ref (α 7 0), .int 0]))) 8 0 (.inl (cy 0, 20, .inl (fun _ => 0)))) 5 0 (.inr (2, [.ref (α 8 0), .int 0]))) 9 0 (.inl (cy 0, 20, .inl (fun _ => 0)))) 6 0 (.inr (2, [.ref (α 9 0), .int 0]))) 0 0 (.inr (4, [.ref (α 1 0), .ref (α 2 0), .ref (α 3 0), .ref (α 4 0), .ref (α 5 0), .ref (α 6 0), .int 0, .int 0, .int 0, .int 0, .int 0]))) H := by rw [pw_up2] at hP; exact hP
  have hsz := hz.trans hsz
  refine lv_aload_n hx hb dX4_init_90 rfl (lv_at hl 0 rfl) ?_
  refine lv_iconst (v := 0) hx hb dX4_init_91 (by decide) ?_
  refine pw_put (ref := "TripPanel") (C := RX4) (T := TX4) (N := 11) (ci := 4) (fs := [.ref (α 1 0), .ref (α 2 0), .ref (α 3 0), .ref (α 4 0), .ref (α 5 0), .ref (α 6 0), .int 0, .int 0, .int 0, .int 0, .int 0]) (v := .int 0) (ty := .int) hx hb hts hiX4 tyX4 tyX4_ok nmX4 hown hK hP hS (pw_up_self _ _ _ _) rfl 10 (by decide) (by decide +kernel) rfl rfl (by decide +kernel) rfl rfl (Nat.le_of_ble_eq_true rfl) dX4_init_92 (fun H locs hP hz hS => ?_)
  have hP : PW D A α (pw_up (pw_up (pw_up (pw_up (pw_up (pw_up (pw_up (pw_up (pw_up (pw_up (c00 4 [.null, .null, .null, .null, .null, .null, .int 0, .int 0, .int 0, .int 0, .int 0]) 1 0 (.inl (cy 2, 16, .inr (.inr (.inr (.inr (fun _ => none))))))) 2 0 (.inl (cy 3, 24, .inr (.inr (.inr (.inr (fun _ => none))))))) 3 0 (.inl (cy 4, 8, .inr (.inr (.inr (.inr (fun _ => none))))))) 7 0 (.inl (cy 0, 20, .inl (fun _ => 0)))) 4 0 (.inr (2, [.ref (α 7 0), .int 0]))) 8 0 (.inl (cy 0, 20, .inl (fun _ => 0)))) 5 0 (.inr (2, [.ref (α 8 0), .int 0]))) 9 0 (.inl (cy 0, 20, .inl (fun _ => 0)))) 6 0 (.inr (2, [.ref (α 9 0), .int 0]))) 0 0 (.inr (4, [.ref (α 1 0), .ref (α 2 0), .ref (α 3 0), .ref (α 4 0), .ref (α 5 0), .ref (α 6 0), .int 0, .int 0, .int 0, .int 0, .int 0]))) H := by rw [pw_up2] at hP; exact hP
  have hsz := hz.trans hsz
  exact W.vret hx hb hr (fun t ht hW => ⟨⟨(), rfl, trivial, by dsimp only; rw [ht]; exact ⟨(by rw [← cc_init]; exact hP), hsz⟩⟩, hS.F ht⟩) hS.2.2 dX4_init_95

set_option maxHeartbeats 4000000 in
set_option maxRecDepth 100000 in
theorem c_X5_init (l : Launch) (D : va_G) (cy : Nat → ClassId) (A : Nat → Prop) (α : AD) (n0 : Nat) (hA : ∀ q, n0 ≤ q → q < n0 + 25 → A q) (hq : ∀ k, k < 25 → α (k + 1) 0 = n0 + k) : Met l yX5_init wsX5_init ({ frames := 1, cells := 25, slots := 636, locals := 12 } : Room) (va_Pc [.ref (α 0 0)] (PX D cy A α (CRp cy α 0) n0)) (va_Qv (fun (u : Unit) => True) (fun u t => PW D A α (CR cy σ0 α) t.heap ∧ t.heap.size = n0 + 25) A) 25 636 A := by
  refine Met.ofW (cc := cX5_init) (maxL := 1) (ret := none) (by decide) rfl ?_
  intro p e s m args below meth c s₁ B hml hv
  obtain ⟨rfl, ⟨hP, hK⟩, hsz⟩ := hv
  have hx := B.exec
  have hb := B.bytes
  have hr := B.returns
  have hts := atoms_spec (ws := wsX5_init) B.pre
  have hown : s.vm.findClass RX5 = some m.cls := findClass_of_methodNamed B.named
  have hlocks := B.notSynchronized
  have hiX5 : ∀ w ∈ wsX50, w ∈ wsX5_init := by decide +kernel
  have hS : va_S A s.heap s.heap [] := va_S.rf
  have hin : meth.name = "<init>" := (name_of_methodNamed B.named B.method).1
  have hl := lv_entry ([.ref (α 0 0)]) (n := 1) (Nat.le_of_ble_eq_true rfl)
  rw [lg_entry_eq]
  generalize (lg_sl ([.ref (α 0 0)]) ++ List.replicate (1 - (lg_sl ([.ref (α 0 0)])).length) Slot.unset).toArray = ls at hl ⊢
  have hl : lv_has ls 1 [(0, .ref (α 0 0))] := hl
  skip
  refine lv_aload_n hx hb dX5_init_0 rfl (lv_at hl 0 rfl) ?_
  refine W.objInit hx hb hown (hts (.methodLink RX5 1 objectInit) (by decide +kernel)) (hts (.instanceMethod objectInit) (by decide +kernel)) (hts (.code objectInit ⟨#[0xb1]⟩ 1 none) (by decide +kernel)) rfl (by rw [hml]; exact hl.1) rfl dX5_init_1 (Nat.le_of_ble_eq_true rfl) (Nat.le_of_ble_eq_true rfl) ?_
  refine W.eq (g2 := F0 m 4 ls []) rfl ?_
  refine lv_aload_n hx hb dX5_init_4 rfl (lv_at hl 0 rfl) ?_
  refine lv_bipush (v := 16) hx hb dX5_init_5 (by decide) ?_
  refine px_newa (atype := .boolean) (t0 := 1) (N' := 16) (a0 := (16, .inl (fun _ => 0))) hx hb hts (by decide +kernel) hK hP hS 1 0 hsz (hq 0 (by decide)) (hA _ (by omega) (by omega)) (ty_find1 hK) (fun _ => rfl) (by decide) rfl (by decide) (Nat.le_of_ble_eq_true rfl) (Nat.le_of_ble_eq_true rfl) dX5_init_7 (fun H hP hsz hS => ?_)
  refine W.cs (cells' := 1) (slots' := 16) rfl rfl ?_
  refine pw_putF (ref := "TripPanelModel") (C := RX5) (T := TX5) (N := 30) (ci := 5) (fs := fsp α 0) (v := .ref (α 1 0)) (ty := .array .boolean) hx hb hts hiX5 tyX5 tyX5_ok nmX5 hown hK hP hS ((pw_up_ne (by omega)).trans rfl) rfl 0 (by decide) (by decide +kernel) rfl rfl hin rfl (by decide +kernel) rfl rfl (Nat.le_of_ble_eq_true rfl) dX5_init_9 (fun H locs hP hz hS => ?_)
  have hP : PW D A α (CRp cy α 1) H := by rw [← crp_st (cy := cy) (α := α) (v := .ref (α 1 0)) (cl := cy 1) (n := 16) 0 rfl rfl rfl]; exact hP
  have hsz := hz.trans hsz
  refine lv_aload_n hx hb dX5_init_12 rfl (lv_at hl 0 rfl) ?_
  refine lv_bipush (v := 16) hx hb dX5_init_13 (by decide) ?_
  refine px_newa (atype := .boolean) (t0 := 1) (N' := 16) (a0 := (16, .inl (fun _ => 0))) hx hb hts (by decide +kernel) hK hP hS 2 0 hsz (hq 1 (by decide)) (hA _ (by omega) (by omega)) (ty_find1 hK) (fun _ => rfl) (by decide) rfl (by decide) (Nat.le_of_ble_eq_true rfl) (Nat.le_of_ble_eq_true rfl) dX5_init_15 (fun H hP hsz hS => ?_)
  refine W.cs (cells' := 2) (slots' := 32) rfl rfl ?_
  refine pw_putF (ref := "TripPanelModel") (C := RX5) (T := TX5) (N := 30) (ci := 5) (fs := fsp α 1) (v := .ref (α 2 0)) (ty := .array .boolean) hx hb hts hiX5 tyX5 tyX5_ok nmX5 hown hK hP hS ((pw_up_ne (by omega)).trans rfl) rfl 1 (by decide) (by decide +kernel) rfl rfl hin rfl (by decide +kernel) rfl rfl (Nat.le_of_ble_eq_true rfl) dX5_init_17 (fun H locs hP hz hS => ?_)
  have hP : PW D A α (CRp cy α 2) H := by rw [← crp_st (cy := cy) (α := α) (v := .ref (α 2 0)) (cl := cy 1) (n := 16) 1 rfl rfl rfl]; exact hP
  have hsz := hz.trans hsz
  refine lv_aload_n hx hb dX5_init_20 rfl (lv_at hl 0 rfl) ?_
  refine lv_bipush (v := 16) hx hb dX5_init_21 (by decide) ?_
  refine px_newa (atype := .int) (t0 := 0) (N' := 16) (a0 := (16, .inl (fun _ => 0))) hx hb hts (by decide +kernel) hK hP hS 3 0 hsz (hq 2 (by decide)) (hA _ (by omega) (by omega)) (ty_find0 hK) (fun _ => rfl) (by decide) rfl (by decide) (Nat.le_of_ble_eq_true rfl) (Nat.le_of_ble_eq_true rfl) dX5_init_23 (fun H hP hsz hS => ?_)
  refine W.cs (cells' := 3) (slots' := 48) rfl rfl ?_
  refine pw_putF (ref := "TripPanelModel") (C := RX5) (T := TX5) (N := 30) (ci := 5) (fs := fsp α 2) (v := .ref (α 3 0)) (ty := .array .int) hx hb hts hiX5 tyX5 tyX5_ok nmX5 hown hK hP hS ((pw_up_ne (by omega)).trans rfl) rfl 2 (by decide) (by decide +kernel) rfl rfl hin rfl (by decide +kernel) rfl rfl (Nat.le_of_ble_eq_true rfl) dX5_init_25 (fun H locs hP hz hS => ?_)
  have hP : PW D A α (CRp cy α 3) H := by rw [← crp_st (cy := cy) (α := α) (v := .ref (α 3 0)) (cl := cy 0) (n := 16) 2 rfl rfl rfl]; exact hP
  have hsz := hz.trans hsz
  refine lv_aload_n hx hb dX5_init_28 rfl (lv_at hl 0 rfl) ?_
  refine lv_bipush (v := 16) hx hb dX5_init_29 (by decide) ?_
  refine px_newa (atype := .int) (t0 := 0) (N' := 16) (a0 := (16, .inl (fun _ => 0))) hx hb hts (by decide +kernel) hK hP hS 4 0 hsz (hq 3 (by decide)) (hA _ (by omega) (by omega)) (ty_find0 hK) (fun _ => rfl) (by decide) rfl (by decide) (Nat.le_of_ble_eq_true rfl) (Nat.le_of_ble_eq_true rfl) dX5_init_31 (fun H hP hsz hS => ?_)
  refine W.cs (cells' := 4) (slots' := 64) rfl rfl ?_
  refine pw_putF (ref := "TripPanelModel") (C := RX5) (T := TX5) (N := 30) (ci := 5) (fs := fsp α 3) (v := .ref (α 4 0)) (ty := .array .int) hx hb hts hiX5 tyX5 tyX5_ok nmX5 hown hK hP hS ((pw_up_ne (by omega)).trans rfl) rfl 3 (by decide) (by decide +kernel) rfl rfl hin rfl (by decide +kernel) rfl rfl (Nat.le_of_ble_eq_true rfl) dX5_init_33 (fun H locs hP hz hS => ?_)
  have hP : PW D A α (CRp cy α 4) H := by rw [← crp_st (cy := cy) (α := α) (v := .ref (α 4 0)) (cl := cy 0) (n := 16) 3 rfl rfl rfl]; exact hP
  have hsz := hz.trans hsz
  refine lv_aload_n hx hb dX5_init_36 rfl (lv_at hl 0 rfl) ?_
  refine lv_bipush (v := 16) hx hb dX5_init_37 (by decide) ?_
  refine px_newa (atype := .int) (t0 := 0) (N' := 16) (a0 := (16, .inl (fun _ => 0))) hx hb hts (by decide +kernel) hK hP hS 5 0 hsz (hq 4 (by decide)) (hA _ (by omega) (by omega)) (ty_find0 hK) (fun _ => rfl) (by decide) rfl (by decide) (Nat.le_of_ble_eq_true rfl) (Nat.le_of_ble_eq_true rfl) dX5_init_39 (fun H hP hsz hS => ?_)
  refine W.cs (cells' := 5) (slots' := 80) rfl rfl ?_
  refine pw_putF (ref := "TripPanelModel") (C := RX5) (T := TX5) (N := 30) (ci := 5) (fs := fsp α 4) (v := .ref (α 5 0)) (ty := .array .int) hx hb hts hiX5 tyX5 tyX5_ok nmX5 hown hK hP hS ((pw_up_ne (by omega)).trans rfl) rfl 4 (by decide) (by decide +kernel) rfl rfl hin rfl (by decide +kernel) rfl rfl (Nat.le_of_ble_eq_true rfl) dX5_init_41 (fun H locs hP hz hS => ?_)
  have hP : PW D A α (CRp cy α 5) H := by rw [← crp_st (cy := cy) (α := α) (v := .ref (α 5 0)) (cl := cy 0) (n := 16) 4 rfl rfl rfl]; exact hP
  have hsz := hz.trans hsz
  refine lv_aload_n hx hb dX5_init_44 rfl (lv_at hl 0 rfl) ?_
  refine lv_bipush (v := 16) hx hb dX5_init_45 (by decide) ?_
  refine px_newa (atype := .int) (t0 := 0) (N' := 16) (a0 := (16, .inl (fun _ => 0))) hx hb hts (by decide +kernel) hK hP hS 6 0 hsz (hq 5 (by decide)) (hA _ (by omega) (by omega)) (ty_find0 hK) (fun _ => rfl) (by decide) rfl (by decide) (Nat.le_of_ble_eq_true rfl) (Nat.le_of_ble_eq_true rfl) dX5_init_47 (fun H hP hsz hS => ?_)
  refine W.cs (cells' := 6) (slots' := 96) rfl rfl ?_
  refine pw_putF (ref := "TripPanelModel") (C := RX5) (T := TX5) (N := 30) (ci := 5) (fs := fsp α 5) (v := .ref (α 6 0)) (ty := .array .int) hx hb hts hiX5 tyX5 tyX5_ok nmX5 hown hK hP hS ((pw_up_ne (by omega)).trans rfl) rfl 5 (by decide) (by decide +kernel) rfl rfl hin rfl (by decide +kernel) rfl rfl (Nat.le_of_ble_eq_true rfl) dX5_init_49 (fun H locs hP hz hS => ?_)
  have hP : PW D A α (CRp cy α 6) H := by rw [← crp_st (cy := cy) (α := α) (v := .ref (α 6 0)) (cl := cy 0) (n := 16) 5 rfl rfl rfl]; exact hP
  have hsz := hz.trans hsz
  refine lv_aload_n hx hb dX5_init_52 rfl (lv_at hl 0 rfl) ?_
  refine lv_bipush (v := 16) hx hb dX5_init_53 (by decide) ?_
  refine px_newa (atype := .int) (t0 := 0) (N' := 16) (a0 := (16, .inl (fun _ => 0))) hx hb hts (by decide +kernel) hK hP hS 7 0 hsz (hq 6 (by decide)) (hA _ (by omega) (by omega)) (ty_find0 hK) (fun _ => rfl) (by decide) rfl (by decide) (Nat.le_of_ble_eq_true rfl) (Nat.le_of_ble_eq_true rfl) dX5_init_55 (fun H hP hsz hS => ?_)
  refine W.cs (cells' := 7) (slots' := 112) rfl rfl ?_
  refine pw_putF (ref := "TripPanelModel") (C := RX5) (T := TX5) (N := 30) (ci := 5) (fs := fsp α 6) (v := .ref (α 7 0)) (ty := .array .int) hx hb hts hiX5 tyX5 tyX5_ok nmX5 hown hK hP hS ((pw_up_ne (by omega)).trans rfl) rfl 6 (by decide) (by decide +kernel) rfl rfl hin rfl (by decide +kernel) rfl rfl (Nat.le_of_ble_eq_true rfl) dX5_init_57 (fun H locs hP hz hS => ?_)
  have hP : PW D A α (CRp cy α 7) H := by rw [← crp_st (cy := cy) (α := α) (v := .ref (α 7 0)) (cl := cy 0) (n := 16) 6 rfl rfl rfl]; exact hP
  have hsz := hz.trans hsz
  refine lv_aload_n hx hb dX5_init_60 rfl (lv_at hl 0 rfl) ?_
  refine lv_bipush (v := 16) hx hb dX5_init_61 (by decide) ?_
  refine px_newa (atype := .int) (t0 := 0) (N' := 16) (a0 := (16, .inl (fun _ => 0))) hx hb hts (by decide +kernel) hK hP hS 8 0 hsz (hq 7 (by decide)) (hA _ (by omega) (by omega)) (ty_find0 hK) (fun _ => rfl) (by decide) rfl (by decide) (Nat.le_of_ble_eq_true rfl) (Nat.le_of_ble_eq_true rfl) dX5_init_63 (fun H hP hsz hS => ?_)
  refine W.cs (cells' := 8) (slots' := 128) rfl rfl ?_
  refine pw_putF (ref := "TripPanelModel") (C := RX5) (T := TX5) (N := 30) (ci := 5) (fs := fsp α 7) (v := .ref (α 8 0)) (ty := .array .int) hx hb hts hiX5 tyX5 tyX5_ok nmX5 hown hK hP hS ((pw_up_ne (by omega)).trans rfl) rfl 7 (by decide) (by decide +kernel) rfl rfl hin rfl (by decide +kernel) rfl rfl (Nat.le_of_ble_eq_true rfl) dX5_init_65 (fun H locs hP hz hS => ?_)
  have hP : PW D A α (CRp cy α 8) H := by rw [← crp_st (cy := cy) (α := α) (v := .ref (α 8 0)) (cl := cy 0) (n := 16) 7 rfl rfl rfl]; exact hP
  have hsz := hz.trans hsz
  refine lv_aload_n hx hb dX5_init_68 rfl (lv_at hl 0 rfl) ?_
  refine lv_bipush (v := 16) hx hb dX5_init_69 (by decide) ?_
  refine px_newa (atype := .int) (t0 := 0) (N' := 16) (a0 := (16, .inl (fun _ => 0))) hx hb hts (by decide +kernel) hK hP hS 9 0 hsz (hq 8 (by decide)) (hA _ (by omega) (by omega)) (ty_find0 hK) (fun _ => rfl) (by decide) rfl (by decide) (Nat.le_of_ble_eq_true rfl) (Nat.le_of_ble_eq_true rfl) dX5_init_71 (fun H hP hsz hS => ?_)
  refine W.cs (cells' := 9) (slots' := 144) rfl rfl ?_
  refine pw_putF (ref := "TripPanelModel") (C := RX5) (T := TX5) (N := 30) (ci := 5) (fs := fsp α 8) (v := .ref (α 9 0)) (ty := .array .int) hx hb hts hiX5 tyX5 tyX5_ok nmX5 hown hK hP hS ((pw_up_ne (by omega)).trans rfl) rfl 8 (by decide) (by decide +kernel) rfl rfl hin rfl (by decide +kernel) rfl rfl (Nat.le_of_ble_eq_true rfl) dX5_init_73 (fun H locs hP hz hS => ?_)
  have hP : PW D A α (CRp cy α 9) H := by rw [← crp_st (cy := cy) (α := α) (v := .ref (α 9 0)) (cl := cy 0) (n := 16) 8 rfl rfl rfl]; exact hP
  have hsz := hz.trans hsz
  refine lv_aload_n hx hb dX5_init_76 rfl (lv_at hl 0 rfl) ?_
  refine lv_sipush (v := 192) hx hb dX5_init_77 (by decide) ?_
  refine px_newa (atype := .int) (t0 := 0) (N' := 192) (a0 := (192, .inl (fun _ => 0))) hx hb hts (by decide +kernel) hK hP hS 10 0 hsz (hq 9 (by decide)) (hA _ (by omega) (by omega)) (ty_find0 hK) (fun _ => rfl) (by decide) rfl (by decide) (Nat.le_of_ble_eq_true rfl) (Nat.le_of_ble_eq_true rfl) dX5_init_80 (fun H hP hsz hS => ?_)
  refine W.cs (cells' := 10) (slots' := 336) rfl rfl ?_
  refine pw_putF (ref := "TripPanelModel") (C := RX5) (T := TX5) (N := 30) (ci := 5) (fs := fsp α 9) (v := .ref (α 10 0)) (ty := .array .int) hx hb hts hiX5 tyX5 tyX5_ok nmX5 hown hK hP hS ((pw_up_ne (by omega)).trans rfl) rfl 9 (by decide) (by decide +kernel) rfl rfl hin rfl (by decide +kernel) rfl rfl (Nat.le_of_ble_eq_true rfl) dX5_init_82 (fun H locs hP hz hS => ?_)
  have hP : PW D A α (CRp cy α 10) H := by rw [← crp_st (cy := cy) (α := α) (v := .ref (α 10 0)) (cl := cy 0) (n := 192) 9 rfl rfl rfl]; exact hP
  have hsz := hz.trans hsz
  refine lv_aload_n hx hb dX5_init_85 rfl (lv_at hl 0 rfl) ?_
  refine lv_bipush (v := 16) hx hb dX5_init_86 (by decide) ?_
  refine px_newa (atype := .int) (t0 := 0) (N' := 16) (a0 := (16, .inl (fun _ => 0))) hx hb hts (by decide +kernel) hK hP hS 11 0 hsz (hq 10 (by decide)) (hA _ (by omega) (by omega)) (ty_find0 hK) (fun _ => rfl) (by decide) rfl (by decide) (Nat.le_of_ble_eq_true rfl) (Nat.le_of_ble_eq_true rfl) dX5_init_88 (fun H hP hsz hS => ?_)
  refine W.cs (cells' := 11) (slots' := 352) rfl rfl ?_
  refine pw_putF (ref := "TripPanelModel") (C := RX5) (T := TX5) (N := 30) (ci := 5) (fs := fsp α 10) (v := .ref (α 11 0)) (ty := .array .int) hx hb hts hiX5 tyX5 tyX5_ok nmX5 hown hK hP hS ((pw_up_ne (by omega)).trans rfl) rfl 10 (by decide) (by decide +kernel) rfl rfl hin rfl (by decide +kernel) rfl rfl (Nat.le_of_ble_eq_true rfl) dX5_init_90 (fun H locs hP hz hS => ?_)
  have hP : PW D A α (CRp cy α 11) H := by rw [← crp_st (cy := cy) (α := α) (v := .ref (α 11 0)) (cl := cy 0) (n := 16) 10 rfl rfl rfl]; exact hP
  have hsz := hz.trans hsz
  refine lv_aload_n hx hb dX5_init_93 rfl (lv_at hl 0 rfl) ?_
  refine lv_bipush (v := 24) hx hb dX5_init_94 (by decide) ?_
  refine px_newa (atype := .boolean) (t0 := 1) (N' := 24) (a0 := (24, .inl (fun _ => 0))) hx hb hts (by decide +kernel) hK hP hS 12 0 hsz (hq 11 (by decide)) (hA _ (by omega) (by omega)) (ty_find1 hK) (fun _ => rfl) (by decide) rfl (by decide) (Nat.le_of_ble_eq_true rfl) (Nat.le_of_ble_eq_true rfl) dX5_init_96 (fun H hP hsz hS => ?_)
  refine W.cs (cells' := 12) (slots' := 376) rfl rfl ?_
  refine pw_putF (ref := "TripPanelModel") (C := RX5) (T := TX5) (N := 30) (ci := 5) (fs := fsp α 11) (v := .ref (α 12 0)) (ty := .array .boolean) hx hb hts hiX5 tyX5 tyX5_ok nmX5 hown hK hP hS ((pw_up_ne (by omega)).trans rfl) rfl 11 (by decide) (by decide +kernel) rfl rfl hin rfl (by decide +kernel) rfl rfl (Nat.le_of_ble_eq_true rfl) dX5_init_98 (fun H locs hP hz hS => ?_)
  have hP : PW D A α (CRp cy α 12) H := by rw [← crp_st (cy := cy) (α := α) (v := .ref (α 12 0)) (cl := cy 1) (n := 24) 11 rfl rfl rfl]; exact hP
  have hsz := hz.trans hsz
  refine lv_aload_n hx hb dX5_init_101 rfl (lv_at hl 0 rfl) ?_
  refine lv_bipush (v := 24) hx hb dX5_init_102 (by decide) ?_
  refine px_newa (atype := .boolean) (t0 := 1) (N' := 24) (a0 := (24, .inl (fun _ => 0))) hx hb hts (by decide +kernel) hK hP hS 13 0 hsz (hq 12 (by decide)) (hA _ (by omega) (by omega)) (ty_find1 hK) (fun _ => rfl) (by decide) rfl (by decide) (Nat.le_of_ble_eq_true rfl) (Nat.le_of_ble_eq_true rfl) dX5_init_104 (fun H hP hsz hS => ?_)
  refine W.cs (cells' := 13) (slots' := 400) rfl rfl ?_
  refine pw_putF (ref := "TripPanelModel") (C := RX5) (T := TX5) (N := 30) (ci := 5) (fs := fsp α 12) (v := .ref (α 13 0)) (ty := .array .boolean) hx hb hts hiX5 tyX5 tyX5_ok nmX5 hown hK hP hS ((pw_up_ne (by omega)).trans rfl) rfl 12 (by decide) (by decide +kernel) rfl rfl hin rfl (by decide +kernel) rfl rfl (Nat.le_of_ble_eq_true rfl) dX5_init_106 (fun H locs hP hz hS => ?_)
  have hP : PW D A α (CRp cy α 13) H := by rw [← crp_st (cy := cy) (α := α) (v := .ref (α 13 0)) (cl := cy 1) (n := 24) 12 rfl rfl rfl]; exact hP
  have hsz := hz.trans hsz
  refine lv_aload_n hx hb dX5_init_109 rfl (lv_at hl 0 rfl) ?_
  refine lv_bipush (v := 24) hx hb dX5_init_110 (by decide) ?_
  refine px_newa (atype := .int) (t0 := 0) (N' := 24) (a0 := (24, .inl (fun _ => 0))) hx hb hts (by decide +kernel) hK hP hS 14 0 hsz (hq 13 (by decide)) (hA _ (by omega) (by omega)) (ty_find0 hK) (fun _ => rfl) (by decide) rfl (by decide) (Nat.le_of_ble_eq_true rfl) (Nat.le_of_ble_eq_true rfl) dX5_init_112 (fun H hP hsz hS => ?_)
  refine W.cs (cells' := 14) (slots' := 424) rfl rfl ?_
  refine pw_putF (ref := "TripPanelModel") (C := RX5) (T := TX5) (N := 30) (ci := 5) (fs := fsp α 13) (v := .ref (α 14 0)) (ty := .array .int) hx hb hts hiX5 tyX5 tyX5_ok nmX5 hown hK hP hS ((pw_up_ne (by omega)).trans rfl) rfl 13 (by decide) (by decide +kernel) rfl rfl hin rfl (by decide +kernel) rfl rfl (Nat.le_of_ble_eq_true rfl) dX5_init_114 (fun H locs hP hz hS => ?_)
  have hP : PW D A α (CRp cy α 14) H := by rw [← crp_st (cy := cy) (α := α) (v := .ref (α 14 0)) (cl := cy 0) (n := 24) 13 rfl rfl rfl]; exact hP
  have hsz := hz.trans hsz
  refine lv_aload_n hx hb dX5_init_117 rfl (lv_at hl 0 rfl) ?_
  refine lv_bipush (v := 24) hx hb dX5_init_118 (by decide) ?_
  refine px_newa (atype := .int) (t0 := 0) (N' := 24) (a0 := (24, .inl (fun _ => 0))) hx hb hts (by decide +kernel) hK hP hS 15 0 hsz (hq 14 (by decide)) (hA _ (by omega) (by omega)) (ty_find0 hK) (fun _ => rfl) (by decide) rfl (by decide) (Nat.le_of_ble_eq_true rfl) (Nat.le_of_ble_eq_true rfl) dX5_init_120 (fun H hP hsz hS => ?_)
  refine W.cs (cells' := 15) (slots' := 448) rfl rfl ?_
  refine pw_putF (ref := "TripPanelModel") (C := RX5) (T := TX5) (N := 30) (ci := 5) (fs := fsp α 14) (v := .ref (α 15 0)) (ty := .array .int) hx hb hts hiX5 tyX5 tyX5_ok nmX5 hown hK hP hS ((pw_up_ne (by omega)).trans rfl) rfl 14 (by decide) (by decide +kernel) rfl rfl hin rfl (by decide +kernel) rfl rfl (Nat.le_of_ble_eq_true rfl) dX5_init_122 (fun H locs hP hz hS => ?_)
  have hP : PW D A α (CRp cy α 15) H := by rw [← crp_st (cy := cy) (α := α) (v := .ref (α 15 0)) (cl := cy 0) (n := 24) 14 rfl rfl rfl]; exact hP
  have hsz := hz.trans hsz
  refine lv_aload_n hx hb dX5_init_125 rfl (lv_at hl 0 rfl) ?_
  refine lv_bipush (v := 24) hx hb dX5_init_126 (by decide) ?_
  refine px_newa (atype := .int) (t0 := 0) (N' := 24) (a0 := (24, .inl (fun _ => 0))) hx hb hts (by decide +kernel) hK hP hS 16 0 hsz (hq 15 (by decide)) (hA _ (by omega) (by omega)) (ty_find0 hK) (fun _ => rfl) (by decide) rfl (by decide) (Nat.le_of_ble_eq_true rfl) (Nat.le_of_ble_eq_true rfl) dX5_init_128 (fun H hP hsz hS => ?_)
  refine W.cs (cells' := 16) (slots' := 472) rfl rfl ?_
  refine pw_putF (ref := "TripPanelModel") (C := RX5) (T := TX5) (N := 30) (ci := 5) (fs := fsp α 15) (v := .ref (α 16 0)) (ty := .array .int) hx hb hts hiX5 tyX5 tyX5_ok nmX5 hown hK hP hS ((pw_up_ne (by omega)).trans rfl) rfl 15 (by decide) (by decide +kernel) rfl rfl hin rfl (by decide +kernel) rfl rfl (Nat.le_of_ble_eq_true rfl) dX5_init_130 (fun H locs hP hz hS => ?_)
  have hP : PW D A α (CRp cy α 16) H := by rw [← crp_st (cy := cy) (α := α) (v := .ref (α 16 0)) (cl := cy 0) (n := 24) 15 rfl rfl rfl]; exact hP
  have hsz := hz.trans hsz
  refine lv_aload_n hx hb dX5_init_133 rfl (lv_at hl 0 rfl) ?_
  refine lv_bipush (v := 24) hx hb dX5_init_134 (by decide) ?_
  refine px_newa (atype := .int) (t0 := 0) (N' := 24) (a0 := (24, .inl (fun _ => 0))) hx hb hts (by decide +kernel) hK hP hS 17 0 hsz (hq 16 (by decide)) (hA _ (by omega) (by omega)) (ty_find0 hK) (fun _ => rfl) (by decide) rfl (by decide) (Nat.le_of_ble_eq_true rfl) (Nat.le_of_ble_eq_true rfl) dX5_init_136 (fun H hP hsz hS => ?_)
  refine W.cs (cells' := 17) (slots' := 496) rfl rfl ?_
  refine pw_putF (ref := "TripPanelModel") (C := RX5) (T := TX5) (N := 30) (ci := 5) (fs := fsp α 16) (v := .ref (α 17 0)) (ty := .array .int) hx hb hts hiX5 tyX5 tyX5_ok nmX5 hown hK hP hS ((pw_up_ne (by omega)).trans rfl) rfl 16 (by decide) (by decide +kernel) rfl rfl hin rfl (by decide +kernel) rfl rfl (Nat.le_of_ble_eq_true rfl) dX5_init_138 (fun H locs hP hz hS => ?_)
  have hP : PW D A α (CRp cy α 17) H := by rw [← crp_st (cy := cy) (α := α) (v := .ref (α 17 0)) (cl := cy 0) (n := 24) 16 rfl rfl rfl]; exact hP
  have hsz := hz.trans hsz
  refine lv_aload_n hx hb dX5_init_141 rfl (lv_at hl 0 rfl) ?_
  refine lv_bipush (v := 8) hx hb dX5_init_142 (by decide) ?_
  refine px_newa (atype := .int) (t0 := 0) (N' := 8) (a0 := (8, .inl (fun _ => 0))) hx hb hts (by decide +kernel) hK hP hS 18 0 hsz (hq 17 (by decide)) (hA _ (by omega) (by omega)) (ty_find0 hK) (fun _ => rfl) (by decide) rfl (by decide) (Nat.le_of_ble_eq_true rfl) (Nat.le_of_ble_eq_true rfl) dX5_init_144 (fun H hP hsz hS => ?_)
  refine W.cs (cells' := 18) (slots' := 504) rfl rfl ?_
  refine pw_putF (ref := "TripPanelModel") (C := RX5) (T := TX5) (N := 30) (ci := 5) (fs := fsp α 17) (v := .ref (α 18 0)) (ty := .array .int) hx hb hts hiX5 tyX5 tyX5_ok nmX5 hown hK hP hS ((pw_up_ne (by omega)).trans rfl) rfl 17 (by decide) (by decide +kernel) rfl rfl hin rfl (by decide +kernel) rfl rfl (Nat.le_of_ble_eq_true rfl) dX5_init_146 (fun H locs hP hz hS => ?_)
  have hP : PW D A α (CRp cy α 18) H := by rw [← crp_st (cy := cy) (α := α) (v := .ref (α 18 0)) (cl := cy 0) (n := 8) 17 rfl rfl rfl]; exact hP
  have hsz := hz.trans hsz
  refine lv_aload_n hx hb dX5_init_149 rfl (lv_at hl 0 rfl) ?_
  refine lv_bipush (v := 8) hx hb dX5_init_150 (by decide) ?_
  refine px_newa (atype := .int) (t0 := 0) (N' := 8) (a0 := (8, .inl (fun _ => 0))) hx hb hts (by decide +kernel) hK hP hS 19 0 hsz (hq 18 (by decide)) (hA _ (by omega) (by omega)) (ty_find0 hK) (fun _ => rfl) (by decide) rfl (by decide) (Nat.le_of_ble_eq_true rfl) (Nat.le_of_ble_eq_true rfl) dX5_init_152 (fun H hP hsz hS => ?_)
  refine W.cs (cells' := 19) (slots' := 512) rfl rfl ?_
  refine pw_putF (ref := "TripPanelModel") (C := RX5) (T := TX5) (N := 30) (ci := 5) (fs := fsp α 18) (v := .ref (α 19 0)) (ty := .array .int) hx hb hts hiX5 tyX5 tyX5_ok nmX5 hown hK hP hS ((pw_up_ne (by omega)).trans rfl) rfl 18 (by decide) (by decide +kernel) rfl rfl hin rfl (by decide +kernel) rfl rfl (Nat.le_of_ble_eq_true rfl) dX5_init_154 (fun H locs hP hz hS => ?_)
  have hP : PW D A α (CRp cy α 19) H := by rw [← crp_st (cy := cy) (α := α) (v := .ref (α 19 0)) (cl := cy 0) (n := 8) 18 rfl rfl rfl]; exact hP
  have hsz := hz.trans hsz
  refine lv_aload_n hx hb dX5_init_157 rfl (lv_at hl 0 rfl) ?_
  refine lv_bipush (v := 48) hx hb dX5_init_158 (by decide) ?_
  refine px_newa (atype := .int) (t0 := 0) (N' := 48) (a0 := (48, .inl (fun _ => 0))) hx hb hts (by decide +kernel) hK hP hS 20 0 hsz (hq 19 (by decide)) (hA _ (by omega) (by omega)) (ty_find0 hK) (fun _ => rfl) (by decide) rfl (by decide) (Nat.le_of_ble_eq_true rfl) (Nat.le_of_ble_eq_true rfl) dX5_init_160 (fun H hP hsz hS => ?_)
  refine W.cs (cells' := 20) (slots' := 560) rfl rfl ?_
  refine pw_putF (ref := "TripPanelModel") (C := RX5) (T := TX5) (N := 30) (ci := 5) (fs := fsp α 19) (v := .ref (α 20 0)) (ty := .array .int) hx hb hts hiX5 tyX5 tyX5_ok nmX5 hown hK hP hS ((pw_up_ne (by omega)).trans rfl) rfl 19 (by decide) (by decide +kernel) rfl rfl hin rfl (by decide +kernel) rfl rfl (Nat.le_of_ble_eq_true rfl) dX5_init_162 (fun H locs hP hz hS => ?_)
  have hP : PW D A α (CRp cy α 20) H := by rw [← crp_st (cy := cy) (α := α) (v := .ref (α 20 0)) (cl := cy 0) (n := 48) 19 rfl rfl rfl]; exact hP
  have hsz := hz.trans hsz
  refine lv_aload_n hx hb dX5_init_165 rfl (lv_at hl 0 rfl) ?_
  refine lv_bipush (v := 8) hx hb dX5_init_166 (by decide) ?_
  refine px_newa (atype := .boolean) (t0 := 1) (N' := 8) (a0 := (8, .inl (fun _ => 0))) hx hb hts (by decide +kernel) hK hP hS 21 0 hsz (hq 20 (by decide)) (hA _ (by omega) (by omega)) (ty_find1 hK) (fun _ => rfl) (by decide) rfl (by decide) (Nat.le_of_ble_eq_true rfl) (Nat.le_of_ble_eq_true rfl) dX5_init_168 (fun H hP hsz hS => ?_)
  refine W.cs (cells' := 21) (slots' := 568) rfl rfl ?_
  refine pw_putF (ref := "TripPanelModel") (C := RX5) (T := TX5) (N := 30) (ci := 5) (fs := fsp α 20) (v := .ref (α 21 0)) (ty := .array .boolean) hx hb hts hiX5 tyX5 tyX5_ok nmX5 hown hK hP hS ((pw_up_ne (by omega)).trans rfl) rfl 20 (by decide) (by decide +kernel) rfl rfl hin rfl (by decide +kernel) rfl rfl (Nat.le_of_ble_eq_true rfl) dX5_init_170 (fun H locs hP hz hS => ?_)
  have hP : PW D A α (CRp cy α 21) H := by rw [← crp_st (cy := cy) (α := α) (v := .ref (α 21 0)) (cl := cy 1) (n := 8) 20 rfl rfl rfl]; exact hP
  have hsz := hz.trans hsz
  refine lv_aload_n hx hb dX5_init_173 rfl (lv_at hl 0 rfl) ?_
  refine lv_bipush (v := 8) hx hb dX5_init_174 (by decide) ?_
  refine px_newa (atype := .boolean) (t0 := 1) (N' := 8) (a0 := (8, .inl (fun _ => 0))) hx hb hts (by decide +kernel) hK hP hS 22 0 hsz (hq 21 (by decide)) (hA _ (by omega) (by omega)) (ty_find1 hK) (fun _ => rfl) (by decide) rfl (by decide) (Nat.le_of_ble_eq_true rfl) (Nat.le_of_ble_eq_true rfl) dX5_init_176 (fun H hP hsz hS => ?_)
  refine W.cs (cells' := 22) (slots' := 576) rfl rfl ?_
  refine pw_putF (ref := "TripPanelModel") (C := RX5) (T := TX5) (N := 30) (ci := 5) (fs := fsp α 21) (v := .ref (α 22 0)) (ty := .array .boolean) hx hb hts hiX5 tyX5 tyX5_ok nmX5 hown hK hP hS ((pw_up_ne (by omega)).trans rfl) rfl 21 (by decide) (by decide +kernel) rfl rfl hin rfl (by decide +kernel) rfl rfl (Nat.le_of_ble_eq_true rfl) dX5_init_178 (fun H locs hP hz hS => ?_)
  have hP : PW D A α (CRp cy α 22) H := by rw [← crp_st (cy := cy) (α := α) (v := .ref (α 22 0)) (cl := cy 1) (n := 8) 21 rfl rfl rfl]; exact hP
  have hsz := hz.trans hsz
  refine lv_aload_n hx hb dX5_init_181 rfl (lv_at hl 0 rfl) ?_
  refine lv_bipush (v := 20) hx hb dX5_init_182 (by decide) ?_
  refine px_newa (atype := .int) (t0 := 0) (N' := 20) (a0 := (20, .inl (fun _ => 0))) hx hb hts (by decide +kernel) hK hP hS 23 0 hsz (hq 22 (by decide)) (hA _ (by omega) (by omega)) (ty_find0 hK) (fun _ => rfl) (by decide) rfl (by decide) (Nat.le_of_ble_eq_true rfl) (Nat.le_of_ble_eq_true rfl) dX5_init_184 (fun H hP hsz hS => ?_)
  refine W.cs (cells' := 23) (slots' := 596) rfl rfl ?_
  refine pw_putF (ref := "TripPanelModel") (C := RX5) (T := TX5) (N := 30) (ci := 5) (fs := fsp α 22) (v := .ref (α 23 0)) (ty := .array .int) hx hb hts hiX5 tyX5 tyX5_ok nmX5 hown hK hP hS ((pw_up_ne (by omega)).trans rfl) rfl 22 (by decide) (by decide +kernel) rfl rfl hin rfl (by decide +kernel) rfl rfl (Nat.le_of_ble_eq_true rfl) dX5_init_186 (fun H locs hP hz hS => ?_)
  have hP : PW D A α (CRp cy α 23) H := by rw [← crp_st (cy := cy) (α := α) (v := .ref (α 23 0)) (cl := cy 0) (n := 20) 22 rfl rfl rfl]; exact hP
  have hsz := hz.trans hsz
  refine lv_aload_n hx hb dX5_init_189 rfl (lv_at hl 0 rfl) ?_
  refine lv_bipush (v := 20) hx hb dX5_init_190 (by decide) ?_
  refine px_newa (atype := .int) (t0 := 0) (N' := 20) (a0 := (20, .inl (fun _ => 0))) hx hb hts (by decide +kernel) hK hP hS 24 0 hsz (hq 23 (by decide)) (hA _ (by omega) (by omega)) (ty_find0 hK) (fun _ => rfl) (by decide) rfl (by decide) (Nat.le_of_ble_eq_true rfl) (Nat.le_of_ble_eq_true rfl) dX5_init_192 (fun H hP hsz hS => ?_)
  refine W.cs (cells' := 24) (slots' := 616) rfl rfl ?_
  refine pw_putF (ref := "TripPanelModel") (C := RX5) (T := TX5) (N := 30) (ci := 5) (fs := fsp α 23) (v := .ref (α 24 0)) (ty := .array .int) hx hb hts hiX5 tyX5 tyX5_ok nmX5 hown hK hP hS ((pw_up_ne (by omega)).trans rfl) rfl 23 (by decide) (by decide +kernel) rfl rfl hin rfl (by decide +kernel) rfl rfl (Nat.le_of_ble_eq_true rfl) dX5_init_194 (fun H locs hP hz hS => ?_)
  have hP : PW D A α (CRp cy α 24) H := by rw [← crp_st (cy := cy) (α := α) (v := .ref (α 24 0)) (cl := cy 0) (n := 20) 23 rfl rfl rfl]; exact hP
  have hsz := hz.trans hsz
  refine lv_aload_n hx hb dX5_init_197 rfl (lv_at hl 0 rfl) ?_
  refine lv_bipush (v := 20) hx hb dX5_init_198 (by decide) ?_
  refine px_newa (atype := .int) (t0 := 0) (N' := 20) (a0 := (20, .inl (fun _ => 0))) hx hb hts (by decide +kernel) hK hP hS 25 0 hsz (hq 24 (by decide)) (hA _ (by omega) (by omega)) (ty_find0 hK) (fun _ => rfl) (by decide) rfl (by decide) (Nat.le_of_ble_eq_true rfl) (Nat.le_of_ble_eq_true rfl) dX5_init_200 (fun H hP hsz hS => ?_)
  refine W.cs (cells' := 25) (slots' := 636) rfl rfl ?_
  refine pw_putF (ref := "TripPanelModel") (C := RX5) (T := TX5) (N := 30) (ci := 5) (fs := fsp α 24) (v := .ref (α 25 0)) (ty := .array .int) hx hb hts hiX5 tyX5 tyX5_ok nmX5 hown hK hP hS ((pw_up_ne (by omega)).trans rfl) rfl 24 (by decide) (by decide +kernel) rfl rfl hin rfl (by decide +kernel) rfl rfl (Nat.le_of_ble_eq_true rfl) dX5_init_202 (fun H locs hP hz hS => ?_)
  have hP : PW D A α (CRp cy α 25) H := by rw [← crp_st (cy := cy) (α := α) (v := .ref (α 25 0)) (cl := cy 0) (n := 20) 24 rfl rfl rfl]; exact hP
  have hsz := hz.trans hsz
  exact W.vret hx hb hr (fun t ht hW => ⟨⟨(), rfl, trivial, by dsimp only; rw [ht]; exact ⟨(by rw [← crp_25]; exact hP), hsz⟩⟩, hS.F ht⟩) hS.2.2 dX5_init_205
