theorem nI_ne_m1 {x : Int32} {j : Nat} (h : x = nI j) (hj : j < 2 ^ 31) : ¬ x = -1 := fun q => nI_pos hj (by rw [← h, q]; decide)
theorem pw_comm {X : CF} {a b c d : Nat} {e f : va_E} (h : ¬ (a = c ∧ b = d)) : pw_up (pw_up X a b e) c d f = pw_up (pw_up X c d f) a b e := by
  funext x y
  by_cases h1 : x = c ∧ y = d
  · obtain ⟨rfl, rfl⟩ := h1
    rw [pw_up_self, pw_up_ne (fun q => h ⟨q.1.symm, q.2.symm⟩), pw_up_self]
  · rw [pw_up_ne h1]
    by_cases h2 : x = a ∧ y = b
    · obtain ⟨rfl, rfl⟩ := h2
      rw [pw_up_self, pw_up_self]
    · rw [pw_up_ne h2, pw_up_ne h2, pw_up_ne h1]
theorem PW.mv {D : va_G} {A : Nat → Prop} {α : AD} {X : CF} {kt it : Nat} {e0 : va_E} {H : Heap} (h : PW D A α (pw_up X kt it e0) H) (kd id : Nat) (hn : X kt it = none) : PW D A (ad_up α kd id (α kt it)) (pw_up X kd id e0) H := by
  refine h.move (pw_up_self _ _ _ _) (fun k i e hne hk => ?_) (fun e hk => ?_)
  · rw [pw_up_ne hne] at hk
    have hn2 : ¬ (k = kt ∧ i = it) := fun q => by
      rw [q.1, q.2, hn] at hk; cases hk
    rw [pw_up_ne hn2]
    exact ⟨hk, hn2⟩
  · rw [pw_up_self] at hk
    exact (Option.some.inj hk).symm
theorem defs_row (σ : SG) (j : Nat) (rel a b n tu : Int32) {r : Nat} (h : r ≠ 11 ∧ r ≠ 12 ∧ r ≠ 13 ∧ r ≠ 14 ∧ r ≠ 15 ∧ r ≠ 16) : defs σ j rel a b n tu r = σ r := by
  unfold defs
  rw [st_ne h.2.2.2.2.2, st_ne h.2.2.2.2.1, st_ne h.2.2.2.1, st_ne h.2.2.1, st_ne h.2.1, st_ne h.1]
theorem defs_ne (σ : SG) {j i : Nat} (rel a b n tu : Int32) (r : Nat) (h : i ≠ j) : defs σ j rel a b n tu r i = σ r i := by
  unfold defs
  rw [st_ne2 h, st_ne2 h, st_ne2 h, st_ne2 h, st_ne2 h, st_ne2 h]
theorem cc_def {cy : Nat → ClassId} {σ : SG} {α : AD} {j q : Nat} {rel a b n tu : Int32} (hj : j < 24) :
    CC cy (defs σ j rel a b n tu) (ad_up α 13 j q) = pw_up (pw_up (CC cy σ α) 2 0 (.inl (cy 3, 24, .inr (.inr (.inr (.inr (va_up (qC σ α) j (some q)))))))) 13 j (.inr (0, [.int rel, .ref (α 10 (cN a)), .ref (α 10 (if b = -1 then cN a else cN b)), .int (if b = -1 then n else gp), .int tu])) := by
  have hm : defs σ j rel a b n tu 11 j ≠ 0 := by
    have : defs σ j rel a b n tu 11 j = 1 := by simp [defs, st, sr, upd]
    rw [this]; decide
  have hd : ∀ k, k ≠ 13 → ad_up α 13 j q k = α k := fun k hk => by
    funext y; exact ad_up_ne (fun h => hk h.1)
  have hq : qC (defs σ j rel a b n tu) (ad_up α 13 j q) = va_up (qC σ α) j (some q) := by
    funext x
    by_cases hx : x = j
    · subst hx; simp [va_up, qC, hm, ad_up]
    · simp [va_up, qC, hx, defs_ne σ rel a b n tu 11 hx, ad_up]
  funext x y
  by_cases k13 : x = 13 ∧ y = j
  · obtain ⟨rfl, rfl⟩ := k13
    rw [pw_up_self, cc_13 hj hm]
    have e : fsC (defs σ y rel a b n tu) (ad_up α 13 y q) y = [.int rel, .ref (α 10 (cN a)), .ref (α 10 (if b = -1 then cN a else cN b)), .int (if b = -1 then n else gp), .int tu] := by
      simp only [fsC, hd 10 (by decide)]
      simp [cA, cB, cLv, defs, st, sr, upd]
    rw [e]
  · rw [pw_up_ne k13]
    by_cases k2 : x = 2 ∧ y = 0
    · obtain ⟨rfl, rfl⟩ := k2
      rw [pw_up_self, ← hq]; rfl
    · rw [pw_up_ne k2]
      match x, k13, k2 with
      | 0, _, _ => rfl
      | 1, _, _ => rfl
      | 2, _, k2 => simp [CC, show y ≠ 0 from fun q => k2 ⟨rfl, q⟩]
      | 3, _, _ => rfl
      | 4, _, _ => rfl
      | 5, _, _ => rfl
      | 6, _, _ => rfl
      | 7, _, _ => rfl
      | 8, _, _ => rfl
      | 9, _, _ => rfl
      | 10, _, _ => rfl
      | 11, _, _ => rfl
      | 12, _, _ => rfl
      | 13, k13, _ =>
        have hy : y ≠ j := fun q => k13 ⟨rfl, q⟩
        simp [CC, fsC, cA, cB, cLv, defs_ne σ rel a b n tu _ hy, hd 10 (by decide)]
      | 14, _, _ => rfl
      | 15, _, _ => rfl
      | n + 16, _, _ => rfl
theorem pw_def {D : va_G} {A : Nat → Prop} {cy : Nat → ClassId} {σ : SG} {α : AD} {H : Heap} {j ja jb : Nat} {rel a b n nv tu : Int32} {e1 : va_E} (hj : j < 24) (h : PW D A α (pw_up (pw_up (pw_up (CC cy σ α) 18 j e1) 18 j (.inr (0, [.int rel, .ref (α 10 ja), .ref (α 10 jb), .int nv, .int tu]))) 2 0 (.inl (cy 3, 24, .inr (.inr (.inr (.inr (va_up (qC σ α) j (some (α 18 j))))))))) H) (ha : cN a = ja) (hb : (if b = -1 then cN a else cN b) = jb) (hv : (if b = -1 then n else gp) = nv) : PW D A (ad_up α 13 j (α 18 j)) (CC cy (defs σ j rel a b n tu) (ad_up α 13 j (α 18 j))) H := by
  rw [cc_def hj, hb, hv, ha]
  rw [pw_up2, pw_comm (by omega)] at h
  exact h.mv 13 j ((pw_up_ne (by omega)).trans rfl)
theorem tripped0_row (σ : SG) (j : Nat) (v : Int32) {r : Nat} (h : r ≠ 17 ∧ r ≠ 18 ∧ r ≠ 20 ∧ r ≠ 21 ∧ r ≠ 30) : tripped0 σ j v r = σ r := by
  unfold tripped0
  rw [show ∀ (τ : SG) f, sr τ 30 f r = τ r from fun τ f => by simp [sr, h.2.2.2.2], st_ne h.2.2.2.1, st_ne h.2.1, st_ne h.1, st_ne h.2.2.1]
theorem tripped0_ne (σ : SG) {j i : Nat} (v : Int32) (r : Nat) (hr : r ≠ 30) (h : i ≠ j) : tripped0 σ j v r i = σ r i := by
  unfold tripped0
  rw [show ∀ (τ : SG) f, sr τ 30 f r = τ r from fun τ f => by simp [sr, hr], st_ne2 h, st_ne2 h, st_ne2 h, st_ne2 h]
theorem r6_trip (σ : SG) (j i : Nat) (v : Int32) : r6 (tripped0 σ j v) i = if i = j then (fun _ => 0) else r6 σ i := by
  funext p
  unfold r6
  by_cases hp : p < 6
  · rw [if_pos hp]
    have e : tripped0 σ j v 30 (6 * i + p) = if 6 * j ≤ 6 * i + p ∧ 6 * i + p < 6 * j + 6 then 0 else σ 30 (6 * i + p) := by simp [tripped0, sr]
    rw [e]
    by_cases hi : i = j
    · rw [if_pos hi, if_pos (by omega)]
    · rw [if_neg hi, if_neg (by omega), if_pos hp]
  · rw [if_neg hp]
    by_cases hi : i = j
    · rw [if_pos hi]
    · rw [if_neg hi, if_neg hp]
theorem cc_trip {cy : Nat → ClassId} {σ : SG} {α : AD} {j q0 q1 : Nat} {v : Int32} (hj : j < 8) :
    CC cy (tripped0 σ j v) (ad_up (ad_up α 14 j q0) 15 j q1) = pw_up (pw_up (pw_up (CC cy σ α) 3 0 (.inl (cy 4, 8, .inr (.inr (.inr (.inr (va_up (qT σ α) j (some q0)))))))) 14 j (.inr (3, [.int v, .ref q1, .int 0, .int 0]))) 15 j (.inl (cy 0, 6, .inl (fun _ => 0))) := by
  have hm : tripped0 σ j v 20 j ≠ 0 := by
    have : tripped0 σ j v 20 j = 1 := by simp [tripped0, st, sr, upd]
    rw [this]; decide
  have hd : ∀ k, k ≠ 14 → k ≠ 15 → ad_up (ad_up α 14 j q0) 15 j q1 k = α k := fun k hk hk2 => by
    funext y; rw [ad_up_ne (fun h => hk2 h.1), ad_up_ne (fun h => hk h.1)]
  have hq : qT (tripped0 σ j v) (ad_up (ad_up α 14 j q0) 15 j q1) = va_up (qT σ α) j (some q0) := by
    funext x
    by_cases hx : x = j
    · subst hx; simp [va_up, qT, hm, ad_up]
    · simp [va_up, qT, hx, tripped0_ne σ v 20 (by decide) hx, ad_up]
  funext x y
  by_cases k15 : x = 15 ∧ y = j
  · obtain ⟨rfl, rfl⟩ := k15
    rw [pw_up_self, cc_15 hj hm, r6_trip, if_pos rfl]
  · rw [pw_up_ne k15]
    by_cases k14 : x = 14 ∧ y = j
    · obtain ⟨rfl, rfl⟩ := k14
      rw [pw_up_self, cc_14 hj hm]
      have e : fsT (tripped0 σ y v) (ad_up (ad_up α 14 y q0) 15 y q1) y = [.int v, .ref q1, .int 0, .int 0] := by
        simp [fsT, tripped0, st, sr, upd, ad_up]
      rw [e]
    · rw [pw_up_ne k14]
      by_cases k3 : x = 3 ∧ y = 0
      · obtain ⟨rfl, rfl⟩ := k3
        rw [pw_up_self, ← hq]; rfl
      · rw [pw_up_ne k3]
        match x, k15, k14, k3 with
        | 0, _, _, _ => rfl
        | 1, _, _, _ => rfl
        | 2, _, _, _ => rfl
        | 3, _, _, k3 => simp [CC, show y ≠ 0 from fun q => k3 ⟨rfl, q⟩]
        | 4, _, _, _ => rfl
        | 5, _, _, _ => rfl
        | 6, _, _, _ => rfl
        | 7, _, _, _ => rfl
        | 8, _, _, _ => rfl
        | 9, _, _, _ => rfl
        | 10, _, _, _ => rfl
        | 11, _, _, _ => rfl
        | 12, _, _, _ => rfl
        | 13, _, _, _ => rfl
        | 14, _, k14, _ =>
          have hy : y ≠ j := fun q => k14 ⟨rfl, q⟩
          simp [CC, fsT, tripped0_ne σ v _ _ hy, hy, ad_up]
        | 15, k15, _, _ =>
          have hy : y ≠ j := fun q => k15 ⟨rfl, q⟩
          simp [CC, tripped0_ne σ v _ _ hy, r6_trip, hy]
        | n + 16, _, _, _ => rfl
theorem pw_trip {D : va_G} {A : Nat → Prop} {cy : Nat → ClassId} {σ : SG} {α : AD} {H : Heap} {j : Nat} {v : Int32} {e1 : va_E} (hj : j < 8) (h : PW D A α (pw_up (pw_up (pw_up (pw_up (CC cy σ α) 16 j e1) 17 j (.inl (cy 0, 6, .inl (fun _ => 0)))) 16 j (.inr (3, [.int v, .ref (α 17 j), .int 0, .int 0]))) 3 0 (.inl (cy 4, 8, .inr (.inr (.inr (.inr (va_up (qT σ α) j (some (α 16 j))))))))) H) : PW D A (ad_up (ad_up α 14 j (α 16 j)) 15 j (α 17 j)) (CC cy (tripped0 σ j v) (ad_up (ad_up α 14 j (α 16 j)) 15 j (α 17 j))) H := by
  rw [cc_trip hj]
  rw [pw_comm (a := 16) (c := 17) (by omega), pw_up2, pw_comm (a := 16) (c := 3) (by omega)] at h
  have h1 := h.mv 14 j ((pw_up_ne (by omega)).trans ((pw_up_ne (by omega)).trans rfl))
  rw [pw_comm (a := 17) (c := 3) (by omega), pw_comm (a := 17) (c := 14) (by omega)] at h1
  have h2 := h1.mv 15 j ((pw_up_ne (by omega)).trans ((pw_up_ne (by omega)).trans rfl))
  rw [ad_up_ne (by omega)] at h2
  exact h2

set_option maxHeartbeats 4000000 in
set_option maxRecDepth 100000 in
theorem c_X4_between (l : Launch) (D : va_G) (cy : Nat → ClassId) (A : Nat → Prop) (α : AD) (σ : SG) (n0 : Nat) (ci rel a b tu : Int32) (ht01 : tu = 0 ∨ tu = 1) (hA : ∀ q, n0 ≤ q → A q) (hq : ∀ j, j < 24 → ci = nI j → α 18 j = n0) : Met l yX4_between wsX4_between ({ frames := 2, cells := 1, slots := 5, locals := 37 } : Room) (va_Pc [.ref (α 0 0), .int ci, .int rel, .int a, .int b, .int tu] (PX D cy A α (CC cy σ α) n0)) (va_Qi (fun (r : Int32) (u : AD) => r = (F_between σ ci rel a b tu).1 ∧ u 0 0 = α 0 0) (fun u t => PW D A u (CC cy (F_between σ ci rel a b tu).2 u) t.heap) A) 1 5 A := by
  refine Met.ofW (cc := cX4_between) (maxL := 8) (ret := (some .int)) (by decide) rfl ?_
  intro p e s m args below meth c s₁ B hml hv
  obtain ⟨rfl, ⟨hP, hK⟩, hsz⟩ := hv
  have hx := B.exec
  have hb := B.bytes
  have hr := B.returns
  have hts := atoms_spec (ws := wsX4_between) B.pre
  have hown : s.vm.findClass RX4 = some m.cls := findClass_of_methodNamed B.named
  have hlocks := B.notSynchronized
  have hiX4 : ∀ w ∈ wsX40, w ∈ wsX4_between := by decide +kernel
  have hiX0 : ∀ w ∈ wsX00, w ∈ wsX4_between := by decide +kernel
  have hS : va_S A s.heap s.heap [] := va_S.rf
  have hl := lv_entry ([.ref (α 0 0), .int ci, .int rel, .int a, .int b, .int tu]) (n := 8) (Nat.le_of_ble_eq_true rfl)
  rw [lg_entry_eq]
  generalize (lg_sl ([.ref (α 0 0), .int ci, .int rel, .int a, .int b, .int tu]) ++ List.replicate (8 - (lg_sl ([.ref (α 0 0), .int ci, .int rel, .int a, .int b, .int tu])).length) Slot.unset).toArray = ls at hl ⊢
  have hl : lv_has ls 8 [(0, .ref (α 0 0)), (1, .int ci), (2, .int rel), (3, .int a), (4, .int b), (5, .int tu)] := hl
  skip
  refine lv_aload_n hx hb dX4_between_0 rfl (lv_at hl 0 rfl) ?_
  refine lv_iload_n hx hb dX4_between_1 rfl (lv_at hl 1 rfl) ?_
  refine vp_callSi (W.runV (As := [.int ci]) (rest := []) ⟨hx, hb, hml, hown, hts⟩ (c_X4_isConditionNumber l D cy A α σ ci) (cwV 1 hts gX4_between_X4_isConditionNumber rfl rfl rfl (by decide +kernel) ⟨Nat.le_of_ble_eq_true rfl, Nat.le_of_ble_eq_true rfl⟩) ⟨pb_blind, pw_recv hP hK cc_0 rfl, pb_pre hP hK⟩ rfl rfl hl.1 rfl (lv_room (Nat.le_of_ble_eq_true rfl)) dX4_between_2 ⟨Nat.le_of_ble_eq_true rfl, Nat.le_of_ble_eq_true rfl⟩) (fun r hw => ?_)
  rcases hw with ⟨rfl, h1⟩ | ⟨rfl, h1⟩
  · obtain ⟨j2, hj3, hg4⟩ := in_j (n := 24) (by decide) h1
    have hc5 : cN ci = j2 := cN_of hg4 (by omega)
    refine lv_if_eq (x := 1) (tgt := 15) hx hb dX4_between_5 (by decide) (fun c => absurd c (by decide)) (fun c5 => ?_)
    refine lv_iload_n hx hb dX4_between_8 rfl (lv_at hl 2 rfl) ?_
    refine vp_callSi (W.runS (As := [.int rel]) (rest := []) ⟨hx, hb, hml, hown, hts⟩ (c_X4_isRelation l rel) (va_cwS 1 hts gX4_between_X4_isRelation rfl rfl rfl (by decide +kernel) ⟨Nat.le_of_ble_eq_true rfl, Nat.le_of_ble_eq_true rfl⟩) ⟨pt_blind, pt_pre⟩ rfl rfl hl.1 rfl (lv_room (Nat.le_of_ble_eq_true rfl)) dX4_between_9 ⟨Nat.le_of_ble_eq_true rfl, Nat.le_of_ble_eq_true rfl⟩) (fun r hw => ?_)
    rcases hw with ⟨rfl, h6⟩ | ⟨rfl, h6⟩
    · refine lv_if_ne (x := 1) (tgt := 18) hx hb dX4_between_12 (by decide) (fun c12 => ?_) (fun c => absurd c (by decide))
      refine lv_aload_n hx hb dX4_between_18 rfl (lv_at hl 0 rfl) ?_
      refine lv_iload_n hx hb dX4_between_19 rfl (lv_at hl 3 rfl) ?_
      refine va_csq (W.runV (As := [.int a]) (rest := []) ⟨hx, hb, hml, hown, hts⟩ (c_X4_gaugeAt l D cy A α σ a) (cwV 1 hts gX4_between_X4_gaugeAt rfl rfl rfl (by decide +kernel) ⟨Nat.le_of_ble_eq_true rfl, Nat.le_of_ble_eq_true rfl⟩) ⟨pb_blind, pw_recv hP hK cc_0 rfl, pb_pre hP hK⟩ rfl rfl hl.1 rfl (lv_room (Nat.le_of_ble_eq_true rfl)) dX4_between_20 ⟨Nat.le_of_ble_eq_true rfl, Nat.le_of_ble_eq_true rfl⟩) (fun r hw => ?_)
      rcases hw with ⟨j7, hx8, hj9, hg10, hm11, rfl⟩ | ⟨rfl, h12⟩
      · refine lv_astore (lv' := [(6, .ref (α 10 j7)), (0, .ref (α 0 0)), (1, .int ci), (2, .int rel), (3, .int a), (4, .int b), (5, .int tu)]) hx hb dX4_between_23 hl (by decide) rfl (fun ls hl => ?_)
        refine lv_aload_n hx hb dX4_between_25 rfl (lv_at hl 1 rfl) ?_
        refine lv_iload hx hb dX4_between_26 (lv_at hl 5 rfl) ?_
        refine va_csq (W.runV (As := [.int b]) (rest := []) ⟨hx, hb, hml, hown, hts⟩ (c_X4_gaugeAt l D cy A α σ b) (cwV 1 hts gX4_between_X4_gaugeAt rfl rfl rfl (by decide +kernel) ⟨Nat.le_of_ble_eq_true rfl, Nat.le_of_ble_eq_true rfl⟩) ⟨pb_blind, pw_recv hP hK cc_0 rfl, pb_pre hP hK⟩ rfl rfl hl.1 rfl (lv_room (Nat.le_of_ble_eq_true rfl)) dX4_between_28 ⟨Nat.le_of_ble_eq_true rfl, Nat.le_of_ble_eq_true rfl⟩) (fun r hw => ?_)
        rcases hw with ⟨j13, hx14, hj15, hg16, hm17, rfl⟩ | ⟨rfl, h18⟩
        · refine lv_astore (lv' := [(7, .ref (α 10 j13)), (6, .ref (α 10 j7)), (0, .ref (α 0 0)), (1, .int ci), (2, .int rel), (3, .int a), (4, .int b), (5, .int tu)]) hx hb dX4_between_31 hl (by decide) rfl (fun ls hl => ?_)
          refine lv_aload hx hb dX4_between_33 (lv_at hl 1 rfl) ?_
          refine lv_ifnull hx hb dX4_between_35 ?_
          refine lv_aload hx hb dX4_between_38 (lv_at hl 0 rfl) ?_
          refine lv_ifnonnull (tgt := 46) hx hb dX4_between_40 (by decide) ?_
          refine lv_aload_n hx hb dX4_between_46 rfl (lv_at hl 2 rfl) ?_
          refine pw_get (ref := "TripPanel") (C := RX4) (T := TX4) (N := 11) (ci := 4) (fs := (fsP σ α)) (v := .ref (α 2 0)) hx hb hts hiX4 hown hK hP cc_0 rfl 1 (by decide) (by decide +kernel) rfl rfl dX4_between_47 ?_
          refine lv_iload_n hx hb dX4_between_50 rfl (lv_at hl 3 rfl) ?_
          have hq0 := hq j2 hj3 hg4
          refine px_new (C := RX0) (T := TX0) (N := 5) (ci := 0) (fs := [.int 0, .null, .null, .int 0, .int 0]) hx hb hts hiX0 tyX0 tyX0_ok hown (by decide +kernel) (by decide +kernel) (by decide +kernel) hK hP hS 18 j2 hsz hq0 (hA n0 (Nat.le_refl _)) rfl (fun j hj => by rcases (show j = 0 ∨ j = 1 ∨ j = 2 ∨ j = 3 ∨ j = 4 by omega) with rfl | rfl | rfl | rfl | rfl <;> rfl) (Nat.le_of_ble_eq_true rfl) (Nat.le_of_ble_eq_true rfl) dX4_between_51 (fun H hP hsz hS => ?_)
          refine W.cs (cells' := 1) (slots' := 5) rfl rfl ?_
          refine lv_dup hx hb dX4_between_54 rfl ?_
          refine lv_iload_n hx hb dX4_between_55 rfl (lv_at hl 4 rfl) ?_
          refine lv_aload hx hb dX4_between_56 (lv_at hl 1 rfl) ?_
          refine lv_aload hx hb dX4_between_58 (lv_at hl 0 rfl) ?_
          refine lv_ldc hx hb hown (hts (.constant RX4 77 (2000000000)) (by decide +kernel)) dX4_between_60 ?_
          refine lv_iload hx hb dX4_between_62 (lv_at hl 7 rfl) ?_
          refine va_callv (va_runI (As := [.int rel, .ref (α 10 j7), .ref (α 10 j13), .int 2000000000, .int tu]) (rest := [.ref (α 18 j2), .int ci, .ref (α 2 0)]) ⟨hx, hb, hml, hown, hts⟩ (c_X0_init l D cy A α (pw_up (CC cy σ α) 18 j2 (.inr (0, [.int 0, .null, .null, .int 0, .int 0]))) 18 j2 (n0 + 1) rel gp tu (α 10 j7) (α 10 j13) ht01 (pw_up_self _ _ _ _)) (cwI 5 hts gX4_between_X0_init rfl rfl rfl (hts (.initialized RX0) (by decide +kernel)) (hts (.methodLink RX4 125 yX0_init) (by decide +kernel)) (hts (.instanceMethod yX0_init) (by decide +kernel)) rfl (by decide +kernel) ⟨Nat.le_of_ble_eq_true rfl, Nat.le_of_ble_eq_true rfl⟩) ⟨px_blind, px_pre hP hK hsz⟩ rfl rfl hl.1 rfl (lv_room (Nat.le_of_ble_eq_true rfl)) dX4_between_64 ⟨Nat.le_of_ble_eq_true rfl, Nat.le_of_ble_eq_true rfl⟩) hS (fun _ _ h => h) (fun _ h => h) (fun u t H locs ht hvm hw hB hz1 hk1 hS => ?_)
          have hP := hB
          rw [ht] at hP
          obtain ⟨hP, hsz⟩ := hP
          refine W.cs (cells' := 1) (slots' := 5) rfl rfl ?_
          refine pw_aast (t0 := 3) (ci := 0) (n := 24) (f := qC σ α) (kd := 2) (i := 0) (kv := 18) (iv := j2) hx hb hK hP hS rfl ((pw_up_ne (by omega)).trans ((pw_up_ne (by omega)).trans cc_2)) (pw_up_self _ _ _ _) rfl j2 hg4 hj3 (by decide) dX4_between_67 (fun H locs hP hz hS => ?_)
          have hP := pw_def (a := a) (b := b) (n := 0) hj3 hP (cN_of hg10 (by omega)) (by rw [if_neg (nI_ne_m1 hg16 (by omega)), cN_of hg16 (by omega)]) (if_neg (nI_ne_m1 hg16 (by omega)))
          refine lv_iconst (v := 1) hx hb dX4_between_68 (by decide) ?_
          have eF : F_between σ ci rel a b tu = (1, (defs σ j2 rel a b 0 tu)) := by simp only [F_between, hx8, hx14, hc5]; exact if_pos ⟨h1, h6⟩
          exact W.iret (v := 1) hx hb hr (fun t ht hW => ⟨⟨_, (ad_up α 13 j2 (α 18 j2)), rfl, ⟨(by rw [eF]), ad_up_ne (by omega)⟩, by dsimp only; rw [ht]; exact (by rw [eF]; exact hP)⟩, hS.F ht⟩) hS.2.2 dX4_between_69
        · refine lv_astoreN (lv' := [(7, .null), (6, .ref (α 10 j7)), (0, .ref (α 0 0)), (1, .int ci), (2, .int rel), (3, .int a), (4, .int b), (5, .int tu)]) hx hb dX4_between_31 hl (by decide) rfl (fun ls hl => ?_)
          refine lv_aload hx hb dX4_between_33 (lv_at hl 1 rfl) ?_
          refine lv_ifnull hx hb dX4_between_35 ?_
          refine lv_aloadN hx hb dX4_between_38 (lv_at hl 0 rfl) ?_
          refine lv_ifnonnullN hx hb dX4_between_40 ?_
          refine lv_bipush (v := (-2)) hx hb dX4_between_43 (by decide) ?_
          have eF : F_between σ ci rel a b tu = ((-2), σ) := by simp only [F_between, hx8, h18]; exact if_pos ⟨h1, h6⟩
          refine W.widen (k := 1) (n := 5) (by omega) (by omega) ?_
          exact W.iret (v := (-2)) hx hb hr (fun t ht hW => ⟨⟨_, α, rfl, ⟨(by rw [eF]), rfl⟩, by dsimp only; rw [ht]; exact (by rw [eF]; exact hP)⟩, hS.F ht⟩) hS.2.2 dX4_between_45
      · refine lv_astoreN (lv' := [(6, .null), (0, .ref (α 0 0)), (1, .int ci), (2, .int rel), (3, .int a), (4, .int b), (5, .int tu)]) hx hb dX4_between_23 hl (by decide) rfl (fun ls hl => ?_)
        refine lv_aload_n hx hb dX4_between_25 rfl (lv_at hl 1 rfl) ?_
        refine lv_iload hx hb dX4_between_26 (lv_at hl 5 rfl) ?_
        refine va_csq (W.runV (As := [.int b]) (rest := []) ⟨hx, hb, hml, hown, hts⟩ (c_X4_gaugeAt l D cy A α σ b) (cwV 1 hts gX4_between_X4_gaugeAt rfl rfl rfl (by decide +kernel) ⟨Nat.le_of_ble_eq_true rfl, Nat.le_of_ble_eq_true rfl⟩) ⟨pb_blind, pw_recv hP hK cc_0 rfl, pb_pre hP hK⟩ rfl rfl hl.1 rfl (lv_room (Nat.le_of_ble_eq_true rfl)) dX4_between_28 ⟨Nat.le_of_ble_eq_true rfl, Nat.le_of_ble_eq_true rfl⟩) (fun r hw => ?_)
        rcases hw with ⟨j19, hx20, hj21, hg22, hm23, rfl⟩ | ⟨rfl, h24⟩
        · refine lv_astore (lv' := [(7, .ref (α 10 j19)), (6, .null), (0, .ref (α 0 0)), (1, .int ci), (2, .int rel), (3, .int a), (4, .int b), (5, .int tu)]) hx hb dX4_between_31 hl (by decide) rfl (fun ls hl => ?_)
          refine lv_aloadN hx hb dX4_between_33 (lv_at hl 1 rfl) ?_
          refine lv_ifnullN (tgt := 43) hx hb dX4_between_35 (by decide) ?_
          refine lv_bipush (v := (-2)) hx hb dX4_between_43 (by decide) ?_
          have eF : F_between σ ci rel a b tu = ((-2), σ) := by simp only [F_between, hx20, h12]; exact if_pos ⟨h1, h6⟩
          refine W.widen (k := 1) (n := 5) (by omega) (by omega) ?_
          exact W.iret (v := (-2)) hx hb hr (fun t ht hW => ⟨⟨_, α, rfl, ⟨(by rw [eF]), rfl⟩, by dsimp only; rw [ht]; exact (by rw [eF]; exact hP)⟩, hS.F ht⟩) hS.2.2 dX4_between_45
        · refine lv_astoreN (lv' := [(7, .null), (6, .null), (0, .ref (α 0 0)), (1, .int ci), (2, .int rel), (3, .int a), (4, .int b), (5, .int tu)]) hx hb dX4_between_31 hl (by decide) rfl (fun ls hl => ?_)
          refine lv_aloadN hx hb dX4_between_33 (lv_at hl 1 rfl) ?_
          refine lv_ifnullN (tgt := 43) hx hb dX4_between_35 (by decide) ?_
          refine lv_bipush (v := (-2)) hx hb dX4_between_43 (by decide) ?_
          have eF : F_between σ ci rel a b tu = ((-2), σ) := by simp only [F_between, h12, h24]; exact if_pos ⟨h1, h6⟩
          refine W.widen (k := 1) (n := 5) (by omega) (by omega) ?_
          exact W.iret (v := (-2)) hx hb hr (fun t ht hW => ⟨⟨_, α, rfl, ⟨(by rw [eF]), rfl⟩, by dsimp only; rw [ht]; exact (by rw [eF]; exact hP)⟩, hS.F ht⟩) hS.2.2 dX4_between_45
    · refine lv_if_ne (x := 0) (tgt := 18) hx hb dX4_between_12 (by decide) (fun c => absurd (by decide) c) (fun c12 => ?_)
      refine lv_bipush (v := (-4)) hx hb dX4_between_15 (by decide) ?_
      have eF : F_between σ ci rel a b tu = ((-4), σ) := by simp [F_between, h1, h6, hc5]
      refine W.widen (k := 1) (n := 5) (by omega) (by omega) ?_
      exact W.iret (v := (-4)) hx hb hr (fun t ht hW => ⟨⟨_, α, rfl, ⟨(by rw [eF]), rfl⟩, by dsimp only; rw [ht]; exact (by rw [eF]; exact hP)⟩, hS.F ht⟩) hS.2.2 dX4_between_17
  · refine lv_if_eq (x := 0) (tgt := 15) hx hb dX4_between_5 (by decide) (fun c5 => ?_) (fun c => absurd (by decide) c)
    refine lv_bipush (v := (-4)) hx hb dX4_between_15 (by decide) ?_
    have eF : F_between σ ci rel a b tu = ((-4), σ) := by simp [F_between, h1]
    refine W.widen (k := 1) (n := 5) (by omega) (by omega) ?_
    exact W.iret (v := (-4)) hx hb hr (fun t ht hW => ⟨⟨_, α, rfl, ⟨(by rw [eF]), rfl⟩, by dsimp only; rw [ht]; exact (by rw [eF]; exact hP)⟩, hS.F ht⟩) hS.2.2 dX4_between_17

set_option maxHeartbeats 4000000 in
set_option maxRecDepth 100000 in
theorem c_X4_level (l : Launch) (D : va_G) (cy : Nat → ClassId) (A : Nat → Prop) (α : AD) (σ : SG) (n0 : Nat) (ci rel a n tu : Int32) (ht01 : tu = 0 ∨ tu = 1) (hA : ∀ q, n0 ≤ q → A q) (hq : ∀ j, j < 24 → ci = nI j → α 18 j = n0) : Met l yX4_level wsX4_level ({ frames := 2, cells := 1, slots := 5, locals := 37 } : Room) (va_Pc [.ref (α 0 0), .int ci, .int rel, .int a, .int n, .int tu] (PX D cy A α (CC cy σ α) n0)) (va_Qi (fun (r : Int32) (u : AD) => r = (F_level σ ci rel a n tu).1 ∧ u 0 0 = α 0 0) (fun u t => PW D A u (CC cy (F_level σ ci rel a n tu).2 u) t.heap) A) 1 5 A := by
  refine Met.ofW (cc := cX4_level) (maxL := 7) (ret := (some .int)) (by decide) rfl ?_
  intro p e s m args below meth c s₁ B hml hv
  obtain ⟨rfl, ⟨hP, hK⟩, hsz⟩ := hv
  have hx := B.exec
  have hb := B.bytes
  have hr := B.returns
  have hts := atoms_spec (ws := wsX4_level) B.pre
  have hown : s.vm.findClass RX4 = some m.cls := findClass_of_methodNamed B.named
  have hlocks := B.notSynchronized
  have hiX4 : ∀ w ∈ wsX40, w ∈ wsX4_level := by decide +kernel
  have hiX0 : ∀ w ∈ wsX00, w ∈ wsX4_level := by decide +kernel
  have hS : va_S A s.heap s.heap [] := va_S.rf
  have hl := lv_entry ([.ref (α 0 0), .int ci, .int rel, .int a, .int n, .int tu]) (n := 7) (Nat.le_of_ble_eq_true rfl)
  rw [lg_entry_eq]
  generalize (lg_sl ([.ref (α 0 0), .int ci, .int rel, .int a, .int n, .int tu]) ++ List.replicate (7 - (lg_sl ([.ref (α 0 0), .int ci, .int rel, .int a, .int n, .int tu])).length) Slot.unset).toArray = ls at hl ⊢
  have hl : lv_has ls 7 [(0, .ref (α 0 0)), (1, .int ci), (2, .int rel), (3, .int a), (4, .int n), (5, .int tu)] := hl
  skip
  refine lv_aload_n hx hb dX4_level_0 rfl (lv_at hl 0 rfl) ?_
  refine lv_iload_n hx hb dX4_level_1 rfl (lv_at hl 1 rfl) ?_
  refine vp_callSi (W.runV (As := [.int ci]) (rest := []) ⟨hx, hb, hml, hown, hts⟩ (c_X4_isConditionNumber l D cy A α σ ci) (cwV 1 hts gX4_level_X4_isConditionNumber rfl rfl rfl (by decide +kernel) ⟨Nat.le_of_ble_eq_true rfl, Nat.le_of_ble_eq_true rfl⟩) ⟨pb_blind, pw_recv hP hK cc_0 rfl, pb_pre hP hK⟩ rfl rfl hl.1 rfl (lv_room (Nat.le_of_ble_eq_true rfl)) dX4_level_2 ⟨Nat.le_of_ble_eq_true rfl, Nat.le_of_ble_eq_true rfl⟩) (fun r hw => ?_)
  rcases hw with ⟨rfl, h1⟩ | ⟨rfl, h1⟩
  · obtain ⟨j2, hj3, hg4⟩ := in_j (n := 24) (by decide) h1
    have hc5 : cN ci = j2 := cN_of hg4 (by omega)
    refine lv_if_eq (x := 1) (tgt := 23) hx hb dX4_level_5 (by decide) (fun c => absurd c (by decide)) (fun c5 => ?_)
    refine lv_iload_n hx hb dX4_level_8 rfl (lv_at hl 2 rfl) ?_
    refine vp_callSi (W.runS (As := [.int rel]) (rest := []) ⟨hx, hb, hml, hown, hts⟩ (c_X4_isRelation l rel) (va_cwS 1 hts gX4_level_X4_isRelation rfl rfl rfl (by decide +kernel) ⟨Nat.le_of_ble_eq_true rfl, Nat.le_of_ble_eq_true rfl⟩) ⟨pt_blind, pt_pre⟩ rfl rfl hl.1 rfl (lv_room (Nat.le_of_ble_eq_true rfl)) dX4_level_9 ⟨Nat.le_of_ble_eq_true rfl, Nat.le_of_ble_eq_true rfl⟩) (fun r hw => ?_)
    rcases hw with ⟨rfl, h6⟩ | ⟨rfl, h6⟩
    · refine lv_if_eq (x := 1) (tgt := 23) hx hb dX4_level_12 (by decide) (fun c => absurd c (by decide)) (fun c12 => ?_)
      refine lv_iload hx hb dX4_level_15 (lv_at hl 4 rfl) ?_
      refine vp_callSi (W.runS (As := [.int n]) (rest := []) ⟨hx, hb, hml, hown, hts⟩ (c_X4_isNumber l n) (va_cwS 1 hts gX4_level_X4_isNumber rfl rfl rfl (by decide +kernel) ⟨Nat.le_of_ble_eq_true rfl, Nat.le_of_ble_eq_true rfl⟩) ⟨pt_blind, pt_pre⟩ rfl rfl hl.1 rfl (lv_room (Nat.le_of_ble_eq_true rfl)) dX4_level_17 ⟨Nat.le_of_ble_eq_true rfl, Nat.le_of_ble_eq_true rfl⟩) (fun r hw => ?_)
      rcases hw with ⟨rfl, h7⟩ | ⟨rfl, h7⟩
      · refine lv_if_ne (x := 1) (tgt := 26) hx hb dX4_level_20 (by decide) (fun c20 => ?_) (fun c => absurd c (by decide))
        refine lv_aload_n hx hb dX4_level_26 rfl (lv_at hl 0 rfl) ?_
        refine lv_iload_n hx hb dX4_level_27 rfl (lv_at hl 3 rfl) ?_
        refine va_csq (W.runV (As := [.int a]) (rest := []) ⟨hx, hb, hml, hown, hts⟩ (c_X4_gaugeAt l D cy A α σ a) (cwV 1 hts gX4_level_X4_gaugeAt rfl rfl rfl (by decide +kernel) ⟨Nat.le_of_ble_eq_true rfl, Nat.le_of_ble_eq_true rfl⟩) ⟨pb_blind, pw_recv hP hK cc_0 rfl, pb_pre hP hK⟩ rfl rfl hl.1 rfl (lv_room (Nat.le_of_ble_eq_true rfl)) dX4_level_28 ⟨Nat.le_of_ble_eq_true rfl, Nat.le_of_ble_eq_true rfl⟩) (fun r hw => ?_)
        rcases hw with ⟨j8, hx9, hj10, hg11, hm12, rfl⟩ | ⟨rfl, h13⟩
        · refine lv_astore (lv' := [(6, .ref (α 10 j8)), (0, .ref (α 0 0)), (1, .int ci), (2, .int rel), (3, .int a), (4, .int n), (5, .int tu)]) hx hb dX4_level_31 hl (by decide) rfl (fun ls hl => ?_)
          refine lv_aload hx hb dX4_level_33 (lv_at hl 0 rfl) ?_
          refine lv_ifnonnull (tgt := 41) hx hb dX4_level_35 (by decide) ?_
          refine lv_aload_n hx hb dX4_level_41 rfl (lv_at hl 1 rfl) ?_
          refine pw_get (ref := "TripPanel") (C := RX4) (T := TX4) (N := 11) (ci := 4) (fs := (fsP σ α)) (v := .ref (α 2 0)) hx hb hts hiX4 hown hK hP cc_0 rfl 1 (by decide) (by decide +kernel) rfl rfl dX4_level_42 ?_
          refine lv_iload_n hx hb dX4_level_45 rfl (lv_at hl 2 rfl) ?_
          have hq0 := hq j2 hj3 hg4
          refine px_new (C := RX0) (T := TX0) (N := 5) (ci := 0) (fs := [.int 0, .null, .null, .int 0, .int 0]) hx hb hts hiX0 tyX0 tyX0_ok hown (by decide +kernel) (by decide +kernel) (by decide +kernel) hK hP hS 18 j2 hsz hq0 (hA n0 (Nat.le_refl _)) rfl (fun j hj => by rcases (show j = 0 ∨ j = 1 ∨ j = 2 ∨ j = 3 ∨ j = 4 by omega) with rfl | rfl | rfl | rfl | rfl <;> rfl) (Nat.le_of_ble_eq_true rfl) (Nat.le_of_ble_eq_true rfl) dX4_level_46 (fun H hP hsz hS => ?_)
          refine W.cs (cells' := 1) (slots' := 5) rfl rfl ?_
          refine lv_dup hx hb dX4_level_49 rfl ?_
          refine lv_iload_n hx hb dX4_level_50 rfl (lv_at hl 3 rfl) ?_
          refine lv_aload hx hb dX4_level_51 (lv_at hl 0 rfl) ?_
          refine lv_aload hx hb dX4_level_53 (lv_at hl 0 rfl) ?_
          refine lv_iload hx hb dX4_level_55 (lv_at hl 5 rfl) ?_
          refine lv_iload hx hb dX4_level_57 (lv_at hl 6 rfl) ?_
          refine va_callv (va_runI (As := [.int rel, .ref (α 10 j8), .ref (α 10 j8), .int n, .int tu]) (rest := [.ref (α 18 j2), .int ci, .ref (α 2 0)]) ⟨hx, hb, hml, hown, hts⟩ (c_X0_init l D cy A α (pw_up (CC cy σ α) 18 j2 (.inr (0, [.int 0, .null, .null, .int 0, .int 0]))) 18 j2 (n0 + 1) rel n tu (α 10 j8) (α 10 j8) ht01 (pw_up_self _ _ _ _)) (cwI 5 hts gX4_level_X0_init rfl rfl rfl (hts (.initialized RX0) (by decide +kernel)) (hts (.methodLink RX4 125 yX0_init) (by decide +kernel)) (hts (.instanceMethod yX0_init) (by decide +kernel)) rfl (by decide +kernel) ⟨Nat.le_of_ble_eq_true rfl, Nat.le_of_ble_eq_true rfl⟩) ⟨px_blind, px_pre hP hK hsz⟩ rfl rfl hl.1 rfl (lv_room (Nat.le_of_ble_eq_true rfl)) dX4_level_59 ⟨Nat.le_of_ble_eq_true rfl, Nat.le_of_ble_eq_true rfl⟩) hS (fun _ _ h => h) (fun _ h => h) (fun u t H locs ht hvm hw hB hz1 hk1 hS => ?_)
          have hP := hB
          rw [ht] at hP
          obtain ⟨hP, hsz⟩ := hP
          refine W.cs (cells' := 1) (slots' := 5) rfl rfl ?_
          refine pw_aast (t0 := 3) (ci := 0) (n := 24) (f := qC σ α) (kd := 2) (i := 0) (kv := 18) (iv := j2) hx hb hK hP hS rfl ((pw_up_ne (by omega)).trans ((pw_up_ne (by omega)).trans cc_2)) (pw_up_self _ _ _ _) rfl j2 hg4 hj3 (by decide) dX4_level_62 (fun H locs hP hz hS => ?_)
          have hP := pw_def (a := a) (b := -1) (n := n) hj3 hP (cN_of hg11 (by omega)) (by rw [if_pos rfl, cN_of hg11 (by omega)]) (if_pos rfl)
          refine lv_iconst (v := 1) hx hb dX4_level_63 (by decide) ?_
          have eF : F_level σ ci rel a n tu = (1, (defs σ j2 rel a (-1) n tu)) := by simp only [F_level, hx9, hc5]; exact if_pos ⟨h1, h6, h7⟩
          exact W.iret (v := 1) hx hb hr (fun t ht hW => ⟨⟨_, (ad_up α 13 j2 (α 18 j2)), rfl, ⟨(by rw [eF]), ad_up_ne (by omega)⟩, by dsimp only; rw [ht]; exact (by rw [eF]; exact hP)⟩, hS.F ht⟩) hS.2.2 dX4_level_64
        · refine lv_astoreN (lv' := [(6, .null), (0, .ref (α 0 0)), (1, .int ci), (2, .int rel), (3, .int a), (4, .int n), (5, .int tu)]) hx hb dX4_level_31 hl (by decide) rfl (fun ls hl => ?_)
          refine lv_aloadN hx hb dX4_level_33 (lv_at hl 0 rfl) ?_
          refine lv_ifnonnullN hx hb dX4_level_35 ?_
          refine lv_bipush (v := (-2)) hx hb dX4_level_38 (by decide) ?_
          have eF : F_level σ ci rel a n tu = ((-2), σ) := by simp only [F_level, h13]; exact if_pos ⟨h1, h6, h7⟩
          refine W.widen (k := 1) (n := 5) (by omega) (by omega) ?_
          exact W.iret (v := (-2)) hx hb hr (fun t ht hW => ⟨⟨_, α, rfl, ⟨(by rw [eF]), rfl⟩, by dsimp only; rw [ht]; exact (by rw [eF]; exact hP)⟩, hS.F ht⟩) hS.2.2 dX4_level_40
      · refine lv_if_ne (x := 0) (tgt := 26) hx hb dX4_level_20 (by decide) (fun c => absurd (by decide) c) (fun c20 => ?_)
        refine lv_bipush (v := (-4)) hx hb dX4_level_23 (by decide) ?_
        have eF : F_level σ ci rel a n tu = ((-4), σ) := by simp [F_level, h1, h6, h7, hc5]
        refine W.widen (k := 1) (n := 5) (by omega) (by omega) ?_
        exact W.iret (v := (-4)) hx hb hr (fun t ht hW => ⟨⟨_, α, rfl, ⟨(by rw [eF]), rfl⟩, by dsimp only; rw [ht]; exact (by rw [eF]; exact hP)⟩, hS.F ht⟩) hS.2.2 dX4_level_25
    · refine lv_if_eq (x := 0) (tgt := 23) hx hb dX4_level_12 (by decide) (fun c12 => ?_) (fun c => absurd (by decide) c)
      refine lv_bipush (v := (-4)) hx hb dX4_level_23 (by decide) ?_
      have eF : F_level σ ci rel a n tu = ((-4), σ) := by simp [F_level, h1, h6, hc5]
      refine W.widen (k := 1) (n := 5) (by omega) (by omega) ?_
      exact W.iret (v := (-4)) hx hb hr (fun t ht hW => ⟨⟨_, α, rfl, ⟨(by rw [eF]), rfl⟩, by dsimp only; rw [ht]; exact (by rw [eF]; exact hP)⟩, hS.F ht⟩) hS.2.2 dX4_level_25
  · refine lv_if_eq (x := 0) (tgt := 23) hx hb dX4_level_5 (by decide) (fun c5 => ?_) (fun c => absurd (by decide) c)
    refine lv_bipush (v := (-4)) hx hb dX4_level_23 (by decide) ?_
    have eF : F_level σ ci rel a n tu = ((-4), σ) := by simp [F_level, h1]
    refine W.widen (k := 1) (n := 5) (by omega) (by omega) ?_
    exact W.iret (v := (-4)) hx hb hr (fun t ht hW => ⟨⟨_, α, rfl, ⟨(by rw [eF]), rfl⟩, by dsimp only; rw [ht]; exact (by rw [eF]; exact hP)⟩, hS.F ht⟩) hS.2.2 dX4_level_25

set_option maxHeartbeats 4000000 in
set_option maxRecDepth 100000 in
theorem c_X4_trip (l : Launch) (D : va_G) (cy : Nat → ClassId) (A : Nat → Prop) (α : AD) (σ : SG) (n0 : Nat) (ti v : Int32) (hA : ∀ q, n0 ≤ q → A q) (hq : ∀ j, j < 8 → ti = nI j → α 16 j = n0 ∧ α 17 j = n0 + 1) : Met l yX4_trip wsX4_trip ({ frames := 2, cells := 2, slots := 10, locals := 33 } : Room) (va_Pc [.ref (α 0 0), .int ti, .int v] (PX D cy A α (CC cy σ α) n0)) (va_Qi (fun (r : Int32) (u : AD) => r = (F_trip σ ti v).1 ∧ u 0 0 = α 0 0) (fun u t => PW D A u (CC cy (F_trip σ ti v).2 u) t.heap) A) 2 10 A := by
  refine Met.ofW (cc := cX4_trip) (maxL := 3) (ret := (some .int)) (by decide) rfl ?_
  intro p e s m args below meth c s₁ B hml hv
  obtain ⟨rfl, ⟨hP, hK⟩, hsz⟩ := hv
  have hx := B.exec
  have hb := B.bytes
  have hr := B.returns
  have hts := atoms_spec (ws := wsX4_trip) B.pre
  have hown : s.vm.findClass RX4 = some m.cls := findClass_of_methodNamed B.named
  have hlocks := B.notSynchronized
  have hiX4 : ∀ w ∈ wsX40, w ∈ wsX4_trip := by decide +kernel
  have hiX3 : ∀ w ∈ wsX30, w ∈ wsX4_trip := by decide +kernel
  have hS : va_S A s.heap s.heap [] := va_S.rf
  have hl := lv_entry ([.ref (α 0 0), .int ti, .int v]) (n := 3) (Nat.le_of_ble_eq_true rfl)
  rw [lg_entry_eq]
  generalize (lg_sl ([.ref (α 0 0), .int ti, .int v]) ++ List.replicate (3 - (lg_sl ([.ref (α 0 0), .int ti, .int v])).length) Slot.unset).toArray = ls at hl ⊢
  have hl : lv_has ls 3 [(0, .ref (α 0 0)), (1, .int ti), (2, .int v)] := hl
  skip
  refine lv_iload_n hx hb dX4_trip_0 rfl (lv_at hl 1 rfl) ?_
  refine lv_if_lt (x := ti) (tgt := 24) hx hb dX4_trip_1 (by decide) (fun c1 => ?_) (fun c1 => ?_)
  · refine lv_bipush (v := (-4)) hx hb dX4_trip_24 (by decide) ?_
    have eF : F_trip σ ti v = ((-4), σ) := by rw [F_trip, if_neg (fun q => absurd q.1.1 (Int32.not_le.mpr c1))]
    refine W.widen (k := 2) (n := 10) (by omega) (by omega) ?_
    exact W.iret (v := (-4)) hx hb hr (fun t ht hW => ⟨⟨_, α, rfl, ⟨(by rw [eF]), rfl⟩, by dsimp only; rw [ht]; exact (by rw [eF]; exact hP)⟩, hS.F ht⟩) hS.2.2 dX4_trip_26
  · refine lv_iload_n hx hb dX4_trip_4 rfl (lv_at hl 1 rfl) ?_
    refine lv_aload_n hx hb dX4_trip_5 rfl (lv_at hl 0 rfl) ?_
    refine pw_get (ref := "TripPanel") (C := RX4) (T := TX4) (N := 11) (ci := 4) (fs := (fsP σ α)) (v := .ref (α 3 0)) hx hb hts hiX4 hown hK hP cc_0 rfl 2 (by decide) (by decide +kernel) rfl rfl dX4_trip_6 ?_
    refine pw_alen (t0 := 4) (v := 8) hx hb hK hP rfl cc_3 rfl dX4_trip_9 ?_
    refine lv_icmp_ge (x := ti) (y := 8) (tgt := 24) hx hb dX4_trip_10 (by decide) (fun c10 => ?_) (fun c10 => ?_)
    · refine lv_bipush (v := (-4)) hx hb dX4_trip_24 (by decide) ?_
      have eF : F_trip σ ti v = ((-4), σ) := by rw [F_trip, if_neg (fun q => absurd q.1.2 (Int32.not_lt.mpr c10))]
      refine W.widen (k := 2) (n := 10) (by omega) (by omega) ?_
      exact W.iret (v := (-4)) hx hb hr (fun t ht hW => ⟨⟨_, α, rfl, ⟨(by rw [eF]), rfl⟩, by dsimp only; rw [ht]; exact (by rw [eF]; exact hP)⟩, hS.F ht⟩) hS.2.2 dX4_trip_26
    · obtain ⟨j, hj, hgj⟩ := in_j (n := 8) (x := ti) (by decide) ⟨Int32.not_lt.mp c1, Int32.not_le.mp c10⟩
      refine lv_iload_n hx hb dX4_trip_13 rfl (lv_at hl 2 rfl) ?_
      refine lv_iconst (v := 1) hx hb dX4_trip_14 (by decide) ?_
      refine lv_icmp_lt (x := v) (y := 1) (tgt := 24) hx hb dX4_trip_15 (by decide) (fun c15 => ?_) (fun c15 => ?_)
      · refine lv_bipush (v := (-4)) hx hb dX4_trip_24 (by decide) ?_
        have eF : F_trip σ ti v = ((-4), σ) := by rw [F_trip, if_neg (fun q => absurd q.2.1 (Int32.not_le.mpr c15))]
        refine W.widen (k := 2) (n := 10) (by omega) (by omega) ?_
        exact W.iret (v := (-4)) hx hb hr (fun t ht hW => ⟨⟨_, α, rfl, ⟨(by rw [eF]), rfl⟩, by dsimp only; rw [ht]; exact (by rw [eF]; exact hP)⟩, hS.F ht⟩) hS.2.2 dX4_trip_26
      · refine lv_iload_n hx hb dX4_trip_18 rfl (lv_at hl 2 rfl) ?_
        refine lv_bipush (v := 6) hx hb dX4_trip_19 (by decide) ?_
        refine lv_icmp_le (x := v) (y := 6) (tgt := 27) hx hb dX4_trip_21 (by decide) (fun c21 => ?_) (fun c21 => ?_)
        · refine lv_aload_n hx hb dX4_trip_27 rfl (lv_at hl 0 rfl) ?_
          refine pw_get (ref := "TripPanel") (C := RX4) (T := TX4) (N := 11) (ci := 4) (fs := (fsP σ α)) (v := .ref (α 3 0)) hx hb hts hiX4 hown hK hP cc_0 rfl 2 (by decide) (by decide +kernel) rfl rfl dX4_trip_28 ?_
          refine lv_iload_n hx hb dX4_trip_31 rfl (lv_at hl 1 rfl) ?_
          obtain ⟨hq0, hq1⟩ := hq j hj hgj
          refine px_new (C := RX3) (T := TX3) (N := 4) (ci := 3) (fs := [.int 0, .null, .int 0, .int 0]) hx hb hts hiX3 tyX3 tyX3_ok hown (by decide +kernel) (by decide +kernel) (by decide +kernel) hK hP hS 16 j hsz hq0 (hA n0 (Nat.le_refl _)) rfl (fun j hj => by rcases (show j = 0 ∨ j = 1 ∨ j = 2 ∨ j = 3 by omega) with rfl | rfl | rfl | rfl <;> rfl) (Nat.le_of_ble_eq_true rfl) (Nat.le_of_ble_eq_true rfl) dX4_trip_32 (fun H hP hsz hS => ?_)
          refine W.cs (cells' := 1) (slots' := 4) rfl rfl ?_
          refine lv_dup hx hb dX4_trip_35 rfl ?_
          refine lv_iload_n hx hb dX4_trip_36 rfl (lv_at hl 2 rfl) ?_
          refine va_callv (va_runI (As := [.int v]) (rest := [.ref (α 16 j), .int ti, .ref (α 3 0)]) ⟨hx, hb, hml, hown, hts⟩ (c_X3_init l D cy A α (pw_up (CC cy σ α) 16 j (.inr (3, [.int 0, .null, .int 0, .int 0]))) 16 j 17 j (n0 + 1) v (by omega) (pw_up_self _ _ _ _) hq1 (hA _ (by omega))) (cwI 1 hts gX4_trip_X3_init rfl rfl rfl (hts (.initialized RX3) (by decide +kernel)) (hts (.methodLink RX4 135 yX3_init) (by decide +kernel)) (hts (.instanceMethod yX3_init) (by decide +kernel)) rfl (by decide +kernel) ⟨Nat.le_of_ble_eq_true rfl, Nat.le_of_ble_eq_true rfl⟩) ⟨px_blind, px_pre hP hK hsz⟩ rfl rfl hl.1 rfl (lv_room (Nat.le_of_ble_eq_true rfl)) dX4_trip_37 ⟨Nat.le_of_ble_eq_true rfl, Nat.le_of_ble_eq_true rfl⟩) hS (fun _ _ h => h) (fun _ h => h) (fun u t H locs ht hvm hw hB hz1 hk1 hS => ?_)
          have hP := hB
          rw [ht] at hP
          obtain ⟨hP, hsz⟩ := hP
          refine W.cs (cells' := 2) (slots' := 10) rfl rfl ?_
          refine pw_aast (t0 := 4) (ci := 3) (n := 8) (f := qT σ α) (kd := 3) (i := 0) (kv := 16) (iv := j) hx hb hK hP hS rfl ((pw_up_ne (by omega)).trans ((pw_up_ne (by omega)).trans ((pw_up_ne (by omega)).trans cc_3))) (pw_up_self _ _ _ _) rfl j hgj hj (by decide) dX4_trip_40 (fun H locs hP hz hS => ?_)
          have hP := pw_trip hj hP
          refine lv_iconst (v := 1) hx hb dX4_trip_41 (by decide) ?_
          have eF : F_trip σ ti v = (1, (tripped0 σ j v)) := by rw [F_trip, if_pos ⟨⟨Int32.not_lt.mp c1, Int32.not_le.mp c10⟩, Int32.not_lt.mp c15, c21⟩, cN_of hgj (by omega)]
          exact W.iret (v := 1) hx hb hr (fun t ht hW => ⟨⟨_, (ad_up (ad_up α 14 j (α 16 j)) 15 j (α 17 j)), rfl, ⟨(by rw [eF]), (ad_up_ne (by omega)).trans (ad_up_ne (by omega))⟩, by dsimp only; rw [ht]; exact (by rw [eF]; exact hP)⟩, hS.F ht⟩) hS.2.2 dX4_trip_42
        · refine lv_bipush (v := (-4)) hx hb dX4_trip_24 (by decide) ?_
          have eF : F_trip σ ti v = ((-4), σ) := by rw [F_trip, if_neg (fun q => c21 q.2.2)]
          refine W.widen (k := 2) (n := 10) (by omega) (by omega) ?_
          exact W.iret (v := (-4)) hx hb hr (fun t ht hW => ⟨⟨_, α, rfl, ⟨(by rw [eF]), rfl⟩, by dsimp only; rw [ht]; exact (by rw [eF]; exact hP)⟩, hS.F ht⟩) hS.2.2 dX4_trip_26
