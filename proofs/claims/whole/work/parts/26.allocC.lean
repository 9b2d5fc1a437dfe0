theorem PW.move {D : va_G} {A : Nat → Prop} {α : AD} {X Y : CF} {H : Heap} (h : PW D A α X H) {kt it kd id : Nat} {e0 : va_E} (h0 : X kt it = some e0) (hY : ∀ k i e, ¬ (k = kd ∧ i = id) → Y k i = some e → X k i = some e ∧ ¬ (k = kt ∧ i = it)) (hYd : ∀ e, Y kd id = some e → e = e0) : PW D A (ad_up α kd id (α kt it)) Y H := by
  refine ⟨fun k i e hk => ?_, fun k i e k2 i2 e2 hk hk2 hE => ?_⟩
  · by_cases hab : k = kd ∧ i = id
    · obtain ⟨rfl, rfl⟩ := hab
      rw [ad_up_self, hYd e hk]
      exact h.1 _ _ _ h0
    · rw [ad_up_ne hab]
      exact h.1 _ _ _ (hY k i e hab hk).1
  · by_cases h1 : k = kd ∧ i = id <;> by_cases h2 : k2 = kd ∧ i2 = id
    · exact ⟨h1.1.trans h2.1.symm, h1.2.trans h2.2.symm⟩
    · obtain ⟨rfl, rfl⟩ := h1
      rw [ad_up_self, ad_up_ne h2] at hE
      obtain ⟨x1, x2⟩ := hY k2 i2 e2 h2 hk2
      obtain ⟨y1, y2⟩ := h.2 _ _ _ _ _ _ h0 x1 hE
      exact absurd ⟨y1.symm, y2.symm⟩ x2
    · obtain ⟨rfl, rfl⟩ := h2
      rw [ad_up_self, ad_up_ne h1] at hE
      obtain ⟨x1, x2⟩ := hY k i e h1 hk
      obtain ⟨y1, y2⟩ := h.2 _ _ _ _ _ _ x1 h0 hE
      exact absurd ⟨y1, y2⟩ x2
    · rw [ad_up_ne h1, ad_up_ne h2] at hE
      exact h.2 _ _ _ _ _ _ (hY k i e h1 hk).1 (hY k2 i2 e2 h2 hk2).1 hE
def madeS (σ : SG) (j : Nat) (b : Int32) : SG := st (st (st (st (st (st (st σ 0 j 1) 1 j b) 2 j gp) 3 j gp) 4 j gp) 6 j gp) 7 j gp
theorem madeS_row (σ : SG) (j : Nat) (b : Int32) {r : Nat} (h : r ≠ 0 ∧ r ≠ 1 ∧ r ≠ 2 ∧ r ≠ 3 ∧ r ≠ 4 ∧ r ≠ 6 ∧ r ≠ 7) : madeS σ j b r = σ r := by
  unfold madeS
  rw [st_ne h.2.2.2.2.2.2, st_ne h.2.2.2.2.2.1, st_ne h.2.2.2.2.1, st_ne h.2.2.2.1, st_ne h.2.2.1, st_ne h.2.1, st_ne h.1]
theorem madeS_ne (σ : SG) {j i : Nat} (b : Int32) (r : Nat) (h : i ≠ j) : madeS σ j b r i = σ r i := by
  unfold madeS
  rw [st_ne2 h, st_ne2 h, st_ne2 h, st_ne2 h, st_ne2 h, st_ne2 h, st_ne2 h]
theorem cc_make {cy : Nat → ClassId} {σ : SG} {α : AD} {j : Nat} {b : Int32} {e1 e2 : va_E} (hj : j < 16) (h0 : σ 0 j = 0) (hok : okG σ j) :
    pw_up (pw_up (LW (pw_up (pw_up (CC cy σ α) 10 j e1) 11 j e2) cy α 11 j 12 j 12 (fun _ => 0) 0) 10 j (.inr (1, [.int b, .ref (α 11 j), .int gp, .int gp, .int gp, .int 0, .int gp, .int gp, .int 0]))) 1 0 (.inl (cy 2, 16, .inr (.inr (.inr (.inr (va_up (qG σ α) j (some (α 10 j)))))))) = CC cy (madeS σ j b) α := by
  obtain ⟨-, hz⟩ := hok
  obtain ⟨z5, z8, z10, z9⟩ := hz h0
  have hm : madeS σ j b 0 j ≠ 0 := by
    have : madeS σ j b 0 j = 1 := by simp [madeS, st, sr, upd]
    rw [this]; decide
  have hq : va_up (qG σ α) j (some (α 10 j)) = qG (madeS σ j b) α := by
    funext x
    by_cases hx : x = j
    · subst hx; simp [va_up, qG, hm]
    · simp [va_up, qG, hx, madeS_ne σ b 0 hx]
  rw [hq]
  funext x y
  by_cases k1 : x = 1 ∧ y = 0
  · obtain ⟨rfl, rfl⟩ := k1; rw [pw_up_self]; rfl
  · rw [pw_up_ne k1]
    by_cases k10 : x = 10 ∧ y = j
    · obtain ⟨rfl, rfl⟩ := k10
      rw [pw_up_self, cc_10 hj hm]
      have e : fsG (madeS σ y b) α y = [.int b, .ref (α 11 y), .int gp, .int gp, .int gp, .int 0, .int gp, .int gp, .int 0] := by
        simp [fsG, madeS, st, sr, upd, z5, z8]
      rw [e]
    · rw [pw_up_ne k10]
      unfold LW
      by_cases k11 : x = 11 ∧ y = j
      · obtain ⟨rfl, rfl⟩ := k11
        rw [pw_up_self, cc_11 hj hm, madeS_row σ y b (by decide), z10]
      · rw [pw_up_ne k11]
        by_cases k12 : x = 12 ∧ y = j
        · obtain ⟨rfl, rfl⟩ := k12
          rw [pw_up_self, cc_12 hj hm]
          have e : r12 (madeS σ y b) y = fun _ => 0 := by
            funext p
            unfold r12
            by_cases hp : p < 12
            · rw [if_pos hp, madeS_row σ y b (by decide)]; exact z9 p hp
            · rw [if_neg hp]
          rw [e]
        · rw [pw_up_ne k12, pw_up_ne k11, pw_up_ne k10]
          match x, k1, k10, k11, k12 with
          | 0, _, _, _, _ => rfl
          | 1, k1, _, _, _ => simp [CC, show y ≠ 0 from fun q => k1 ⟨rfl, q⟩]
          | 2, _, _, _, _ => rfl
          | 3, _, _, _, _ => rfl
          | 4, _, _, _, _ => rfl
          | 5, _, _, _, _ => rfl
          | 6, _, _, _, _ => rfl
          | 7, _, _, _, _ => rfl
          | 8, _, _, _, _ => rfl
          | 9, _, _, _, _ => rfl
          | 10, _, k10, _, _ =>
            have hy : y ≠ j := fun q => k10 ⟨rfl, q⟩
            simp [CC, fsG, madeS_ne σ b _ hy]
          | 11, _, _, k11, _ =>
            have hy : y ≠ j := fun q => k11 ⟨rfl, q⟩
            simp [CC, madeS_ne σ b _ hy]
          | 12, _, _, _, k12 =>
            have hy : y ≠ j := fun q => k12 ⟨rfl, q⟩
            have e : r12 (madeS σ j b) y = r12 σ y := by
              funext p; unfold r12; rw [madeS_row σ j b (by decide)]
            simp [CC, madeS_ne σ b _ hy, e]
          | 13, _, _, _, _ => rfl
          | 14, _, _, _, _ => rfl
          | 15, _, _, _, _ => rfl
          | n + 16, _, _, _, _ => rfl

set_option maxHeartbeats 4000000 in
set_option maxRecDepth 100000 in
theorem c_X4_make (l : Launch) (D : va_G) (cy : Nat → ClassId) (A : Nat → Prop) (α : AD) (σ : SG) (n0 : Nat) (g b : Int32) (hb01 : b = 0 ∨ b = 1) (hG : ∀ g, g < 16 → okG σ g) (hA : ∀ q, n0 ≤ q → A q) (hq : ∀ j, j < 16 → g = nI j → σ 0 j = 0 → α 10 j = n0 ∧ α 11 j = n0 + 1 ∧ α 12 j = n0 + 1 + 1) : Met l yX4_make wsX4_make ({ frames := 3, cells := 3, slots := 23, locals := 56 } : Room) (va_Pc [.ref (α 0 0), .int g, .int b] (PX D cy A α (CC cy σ α) n0)) (va_Qi (fun (r : Int32) (u : Unit) => r = (F_make σ g b).1) (fun u t => PW D A α (CC cy (F_make σ g b).2 α) t.heap) A) 3 23 A := by
  refine Met.ofW (cc := cX4_make) (maxL := 3) (ret := (some .int)) (by decide) rfl ?_
  intro p e s m args below meth c s₁ B hml hv
  obtain ⟨rfl, ⟨hP, hK⟩, hsz⟩ := hv
  have hx := B.exec
  have hb := B.bytes
  have hr := B.returns
  have hts := atoms_spec (ws := wsX4_make) B.pre
  have hown : s.vm.findClass RX4 = some m.cls := findClass_of_methodNamed B.named
  have hlocks := B.notSynchronized
  have hiX4 : ∀ w ∈ wsX40, w ∈ wsX4_make := by decide +kernel
  have hiX1 : ∀ w ∈ wsX10, w ∈ wsX4_make := by decide +kernel
  have hS : va_S A s.heap s.heap [] := va_S.rf
  have hl := lv_entry ([.ref (α 0 0), .int g, .int b]) (n := 3) (Nat.le_of_ble_eq_true rfl)
  rw [lg_entry_eq]
  generalize (lg_sl ([.ref (α 0 0), .int g, .int b]) ++ List.replicate (3 - (lg_sl ([.ref (α 0 0), .int g, .int b])).length) Slot.unset).toArray = ls at hl ⊢
  have hl : lv_has ls 3 [(0, .ref (α 0 0)), (1, .int g), (2, .int b)] := hl
  skip
  refine lv_iload_n hx hb dX4_make_0 rfl (lv_at hl 1 rfl) ?_
  refine lv_if_lt (x := g) (tgt := 13) hx hb dX4_make_1 (by decide) (fun c1 => ?_) (fun c1 => ?_)
  · refine lv_bipush (v := (-4)) hx hb dX4_make_13 (by decide) ?_
    have eF : F_make σ g b = ((-4), σ) := by rw [F_make, if_neg (fun q => absurd q.1 (Int32.not_le.mpr c1))]
    refine W.widen (k := 3) (n := 23) (by omega) (by omega) ?_
    exact W.iret (v := (-4)) hx hb hr (fun t ht hW => ⟨⟨_, (), rfl, (by rw [eF]), by dsimp only; rw [ht]; exact (by rw [eF]; exact hP)⟩, hS.F ht⟩) hS.2.2 dX4_make_15
  · refine lv_iload_n hx hb dX4_make_4 rfl (lv_at hl 1 rfl) ?_
    refine lv_aload_n hx hb dX4_make_5 rfl (lv_at hl 0 rfl) ?_
    refine pw_get (ref := "TripPanel") (C := RX4) (T := TX4) (N := 11) (ci := 4) (fs := (fsP σ α)) (v := .ref (α 1 0)) hx hb hts hiX4 hown hK hP cc_0 rfl 0 (by decide) (by decide +kernel) rfl rfl dX4_make_6 ?_
    refine pw_alen (t0 := 2) (v := 16) hx hb hK hP rfl cc_1 rfl dX4_make_9 ?_
    refine lv_icmp_lt (x := g) (y := 16) (tgt := 16) hx hb dX4_make_10 (by decide) (fun c10 => ?_) (fun c10 => ?_)
    · obtain ⟨j, hj, hgj⟩ := in_j (n := 16) (x := g) (by decide) ⟨Int32.not_lt.mp c1, c10⟩
      refine lv_aload_n hx hb dX4_make_16 rfl (lv_at hl 0 rfl) ?_
      refine pw_get (ref := "TripPanel") (C := RX4) (T := TX4) (N := 11) (ci := 4) (fs := (fsP σ α)) (v := .ref (α 1 0)) hx hb hts hiX4 hown hK hP cc_0 rfl 0 (by decide) (by decide +kernel) rfl rfl dX4_make_17 ?_
      refine lv_iload_n hx hb dX4_make_20 rfl (lv_at hl 1 rfl) ?_
      refine pw_aald (t0 := 2) (C := RX1) (n := 16) (f := (qG σ α)) hx hb hK hP rfl cc_1 j hgj hj (by decide) dX4_make_21 ?_
      rcases qG_cases σ α j with ⟨eq, hm1⟩ | ⟨eq, hm1⟩
      · rw [eq]
        refine lv_ifnullN (tgt := 27) hx hb dX4_make_22 (by decide) ?_
        obtain ⟨hq0, hq1, hq2⟩ := hq j hj hgj hm1
        refine lv_aload_n hx hb dX4_make_27 rfl (lv_at hl 0 rfl) ?_
        refine pw_get (ref := "TripPanel") (C := RX4) (T := TX4) (N := 11) (ci := 4) (fs := (fsP σ α)) (v := .ref (α 1 0)) hx hb hts hiX4 hown hK hP cc_0 rfl 0 (by decide) (by decide +kernel) rfl rfl dX4_make_28 ?_
        refine lv_iload_n hx hb dX4_make_31 rfl (lv_at hl 1 rfl) ?_
        refine px_new (C := RX1) (T := TX1) (N := 9) (ci := 1) (fs := [.int 0, .null, .int 0, .int 0, .int 0, .int 0, .int 0, .int 0, .int 0]) hx hb hts hiX1 tyX1 tyX1_ok hown (by decide +kernel) (by decide +kernel) (by decide +kernel) hK hP hS 10 j hsz hq0 (hA n0 (Nat.le_refl _)) rfl (fun j hj => by rcases (show j = 0 ∨ j = 1 ∨ j = 2 ∨ j = 3 ∨ j = 4 ∨ j = 5 ∨ j = 6 ∨ j = 7 ∨ j = 8 by omega) with rfl | rfl | rfl | rfl | rfl | rfl | rfl | rfl | rfl <;> rfl) (Nat.le_of_ble_eq_true rfl) (Nat.le_of_ble_eq_true rfl) dX4_make_32 (fun H hP hsz hS => ?_)
        refine W.cs (cells' := 1) (slots' := 9) rfl rfl ?_
        refine lv_dup hx hb dX4_make_35 rfl ?_
        refine lv_iload_n hx hb dX4_make_36 rfl (lv_at hl 2 rfl) ?_
        refine va_callv (va_runI (As := [.int b]) (rest := [.ref (α 10 j), .int g, .ref (α 1 0)]) ⟨hx, hb, hml, hown, hts⟩ (c_X1_init l D cy A α (pw_up (CC cy σ α) 10 j (.inr (1, [.int 0, .null, .int 0, .int 0, .int 0, .int 0, .int 0, .int 0, .int 0]))) j (n0 + 1) b hb01 (pw_up_self _ _ _ _) hq1 hq2 (hA _ (by omega)) (hA _ (by omega))) (cwI 1 hts gX4_make_X1_init rfl rfl rfl (hts (.initialized RX1) (by decide +kernel)) (hts (.methodLink RX4 58 yX1_init) (by decide +kernel)) (hts (.instanceMethod yX1_init) (by decide +kernel)) rfl (by decide +kernel) ⟨Nat.le_of_ble_eq_true rfl, Nat.le_of_ble_eq_true rfl⟩) ⟨px_blind, px_pre hP hK hsz⟩ rfl rfl hl.1 rfl (lv_room (Nat.le_of_ble_eq_true rfl)) dX4_make_37 ⟨Nat.le_of_ble_eq_true rfl, Nat.le_of_ble_eq_true rfl⟩) hS (fun _ _ h => h) (fun _ h => h) (fun u t H locs ht hvm hw hB hz1 hk1 hS => ?_)
        have hP := hB
        rw [ht] at hP
        obtain ⟨hP, hsz⟩ := hP
        refine W.cs (cells' := 3) (slots' := 23) rfl rfl ?_
        refine pw_aast (t0 := 2) (ci := 1) (n := 16) (f := qG σ α) (kd := 1) (i := 0) (kv := 10) (iv := j) hx hb hK hP hS rfl ((pw_up_ne (by omega)).trans ((lw_low (by omega) (by omega)).trans ((pw_up_ne (by omega)).trans ((pw_up_ne (by omega)).trans cc_1)))) (pw_up_self _ _ _ _) rfl j hgj hj (by decide) dX4_make_40 (fun H locs hP hz hS => ?_)
        rw [cc_make hj hm1 (hG j hj)] at hP
        refine lv_iconst (v := 1) hx hb dX4_make_41 (by decide) ?_
        have eF : F_make σ g b = (1, (madeS σ j b)) := by rw [F_make, if_pos ⟨Int32.not_lt.mp c1, c10⟩, cN_of hgj (by omega), if_neg (not_not_intro hm1)]; rfl
        exact W.iret (v := 1) hx hb hr (fun t ht hW => ⟨⟨_, (), rfl, (by rw [eF]), by dsimp only; rw [ht]; exact (by rw [eF]; exact hP)⟩, hS.F ht⟩) hS.2.2 dX4_make_42
      · rw [eq]
        refine lv_ifnull hx hb dX4_make_22 ?_
        refine lv_iconst (v := 0) hx hb dX4_make_25 (by decide) ?_
        have eF : F_make σ g b = (0, σ) := by rw [F_make, if_pos ⟨Int32.not_lt.mp c1, c10⟩, cN_of hgj (by omega), if_pos hm1]
        refine W.widen (k := 3) (n := 23) (by omega) (by omega) ?_
        exact W.iret (v := 0) hx hb hr (fun t ht hW => ⟨⟨_, (), rfl, (by rw [eF]), by dsimp only; rw [ht]; exact (by rw [eF]; exact hP)⟩, hS.F ht⟩) hS.2.2 dX4_make_26
    · refine lv_bipush (v := (-4)) hx hb dX4_make_13 (by decide) ?_
      have eF : F_make σ g b = ((-4), σ) := by rw [F_make, if_neg (fun q => c10 q.2)]
      refine W.widen (k := 3) (n := 23) (by omega) (by omega) ?_
      exact W.iret (v := (-4)) hx hb hr (fun t ht hW => ⟨⟨_, (), rfl, (by rw [eF]), by dsimp only; rw [ht]; exact (by rw [eF]; exact hP)⟩, hS.F ht⟩) hS.2.2 dX4_make_15
