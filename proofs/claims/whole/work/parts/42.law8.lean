set_option maxHeartbeats 4000000 in
set_option maxRecDepth 100000 in
theorem law_make {p : Program} {l : Launch} {e : Env} {s : State} {m : MethodId} {below : List Frame} {meth : Method} {c : Code} {b L : Nat} {xs : Nat → Int32} {D : va_G} {cy : Nat → ClassId} (hL : L ≤ 3072) (hx : p.tables.exec = Jvm.exec) (hb : c.code = cL_law) (hml : c.maxLocals = 4) (hown : s.vm.findClass RL = some m.cls) (hts : ∀ w ∈ wsL_law, w.before #[Value.ref b] s = true) (hX : va_X b L xs s s.heap) (hbl : b < s.heap.size) (hK : va_K D vwCl (TY cy) s) {H : Heap} {locs : List Loc} {cells slots N i : Nat} {σ : SG} {α ρ : AD} {ls : Array Slot} {Z : State → Prop} (hi : i + 6 ≤ L) (hl : lv_has ls 4 [(3, .int (nI i)), (2, .ref (ρ 0 0)), (1, .ref (α 0 0)), (0, .ref b)]) (hN : N < 512) (hI : LI s D cy H locs cells slots σ α ρ N) (kk : ∀ (H1 : Heap) (locs1 : List Loc) (cells1 slots1 : Nat) (σ1 : SG) (α1 ρ1 : AD), LI s D cy H1 locs1 cells1 slots1 σ1 α1 ρ1 (N + 1) → α1 0 0 = α 0 0 → ρ1 0 0 = ρ 0 0 → W p l e room_1 s m #[Value.ref b] below meth c H1 locs1 cells1 slots1 Z (F0 m 1092 ls [])) : W p l e room_1 s m #[Value.ref b] below meth c H locs cells slots Z (F0 m 152 ls []) := by
  obtain ⟨hPc, hPr, hInv, hS, hsz, hce, hsl, -⟩ := hI
  have hbA : ¬ A0 s b := fun q => absurd hbl (Nat.not_lt.mpr q)
  obtain ⟨β, hβ, hPc, hq⟩ := pw_make hPc hInv.2.1 (xs ((nI i) + 1).toNatClampNeg) H.size
  have hAC : ∀ q, H.size ≤ q → AC s q := fun q hq => ⟨by omega, fun h => by have := h.2; omega⟩
  have kk : ∀ (H1 : Heap) (locs1 : List Loc) (cells1 slots1 : Nat) (σ1 : SG) (α1 ρ1 : AD), LI s D cy H1 locs1 cells1 slots1 σ1 α1 ρ1 (N + 1) → α1 0 0 = β 0 0 → ρ1 0 0 = ρ 0 0 → W p l e room_1 s m #[Value.ref b] below meth c H1 locs1 cells1 slots1 Z (F0 m 1092 ls []) := fun H1 locs1 cells1 slots1 σ1 α1 ρ1 h1 h2 h3 => kk H1 locs1 cells1 slots1 σ1 α1 ρ1 h1 (h2.trans hβ) h3
  rw [← hβ] at hl
  clear hβ
  refine lv_aload_n hx hb dL_law_152 rfl (lv_at hl 2 rfl) ?_
  refine lv_aload_n hx hb dL_law_153 rfl (lv_at hl 3 rfl) ?_
  refine lv_iload_n hx hb dL_law_154 rfl (lv_at hl 0 rfl) ?_
  refine lv_iconst (v := 1) hx hb dL_law_155 (by decide) ?_
  refine lv_iadd hx hb dL_law_156 ?_
  refine va_sld hx hb hX hbl hbA hS (law_in (k := 1) rfl (by omega) hL) dL_law_157 ?_
  refine lv_aload_n hx hb dL_law_158 rfl (lv_at hl 3 rfl) ?_
  refine lv_iload_n hx hb dL_law_159 rfl (lv_at hl 0 rfl) ?_
  refine lv_iconst (v := 2) hx hb dL_law_160 (by decide) ?_
  refine lv_iadd hx hb dL_law_161 ?_
  refine va_sld hx hb hX hbl hbA hS (law_in (k := 2) rfl (by omega) hL) dL_law_162 ?_
  refine lv_if_eq (x := (xs ((nI i) + 2).toNatClampNeg)) (tgt := 170) hx hb dL_law_163 (by decide) (fun c163 => ?_) (fun c163 => ?_)
  · refine lv_iconst (v := 0) hx hb dL_law_170 (by decide) ?_
    refine va_calli (va_runV (As := [.int (xs ((nI i) + 1).toNatClampNeg), .int 0]) (rest := []) ⟨hx, hb, hml, hown, hts⟩ (c_X4_make l D cy (AC s) β σ H.size (xs ((nI i) + 1).toNatClampNeg) 0 (Or.inl rfl) hInv.1 hAC hq) (cwV 2 hts gL_law_X4_make rfl rfl rfl (by decide +kernel) ⟨Nat.le_of_ble_eq_true rfl, Nat.le_of_ble_eq_true rfl⟩) ⟨px_blind, pw_recv hPc hK cc_0 rfl, px_pre hPc hK rfl⟩ rfl rfl hl.1 rfl (lv_room (Nat.le_of_ble_eq_true rfl)) dL_law_171 ⟨(by show cells + 3 ≤ 600000; omega), (by show slots + 23 ≤ 7302250; omega)⟩) hS (fun q _ h => h.1) (fun q h => h.1) (fun r γ t H1 locs ht hvm hw hB hz1 hk1 hS => ?_)
    rw [ht] at hB
    have hPc := hB
    have hPr := keptR hPr hk1
    have hsz : s.heap.size + 36 ≤ H1.size := Nat.le_trans hsz hz1
    clear hB hk1 hz1 ht hvm
    skip
    subst hw
    refine lv_aload_n hx hb dL_law_174 rfl (lv_at hl 1 rfl) ?_
    refine lv_aload_n hx hb dL_law_175 rfl (lv_at hl 3 rfl) ?_
    refine lv_iload_n hx hb dL_law_176 rfl (lv_at hl 0 rfl) ?_
    refine lv_iconst (v := 1) hx hb dL_law_177 (by decide) ?_
    refine lv_iadd hx hb dL_law_178 ?_
    refine va_sld hx hb hX hbl hbA hS (law_in (k := 1) rfl (by omega) hL) dL_law_179 ?_
    refine lv_aload_n hx hb dL_law_180 rfl (lv_at hl 3 rfl) ?_
    refine lv_iload_n hx hb dL_law_181 rfl (lv_at hl 0 rfl) ?_
    refine lv_iconst (v := 2) hx hb dL_law_182 (by decide) ?_
    refine lv_iadd hx hb dL_law_183 ?_
    refine va_sld hx hb hX hbl hbA hS (law_in (k := 2) rfl (by omega) hL) dL_law_184 ?_
    refine lv_if_eq (x := (xs ((nI i) + 2).toNatClampNeg)) (tgt := 192) hx hb dL_law_185 (by decide) (fun c185 => ?_) (fun c => absurd c163 c)
    refine lv_iconst (v := 0) hx hb dL_law_192 (by decide) ?_
    refine va_calli (va_runV (As := [.int (xs ((nI i) + 1).toNatClampNeg), .int 0]) (rest := [.int ((F_make σ (xs ((nI i) + 1).toNatClampNeg) 0).1)]) ⟨hx, hb, hml, hown, hts⟩ (c_X5_make l D cy (AR s) ρ σ (xs ((nI i) + 1).toNatClampNeg) 0 (Or.inl rfl)) (cwV 2 hts gL_law_X5_make rfl rfl rfl (by decide +kernel) ⟨Nat.le_of_ble_eq_true rfl, Nat.le_of_ble_eq_true rfl⟩) ⟨pb_blind, pw_recv hPr hK cr_obj rfl, pb_pre hPr hK⟩ rfl rfl hl.1 rfl (lv_room (Nat.le_of_ble_eq_true rfl)) dL_law_193 ⟨(by show cells + 3 + 0 ≤ 600000; omega), (by show slots + 23 + 0 ≤ 7302250; omega)⟩) hS (fun q _ h => by have := h.1; show s.heap.size ≤ q; omega) (fun q h => by have := h.1; show s.heap.size ≤ q; omega) (fun r u t H1 locs ht hvm hw hB hz1 hk1 hS => ?_)
    rw [ht] at hB
    have hPr := hB
    have hPc := keptC hPc hk1
    have hsz : s.heap.size + 36 ≤ H1.size := Nat.le_trans hsz hz1
    clear hB hk1 hz1 ht hvm
    skip
    subst hw
    refine lv_icmp_eq (x := ((F_make σ (xs ((nI i) + 1).toNatClampNeg) 0).1)) (y := ((F_make σ (xs ((nI i) + 1).toNatClampNeg) 0).1)) (tgt := 1092) hx hb dL_law_196 (by decide) (fun c196 => ?_) (fun c => absurd rfl c)
    exact kk _ _ _ _ (F_make σ (xs ((nI i) + 1).toNatClampNeg) 0).2 β ρ ⟨hPc, hPr, inv_more (inv_make hInv) (by omega), hS, hsz, by omega, by omega, by omega⟩ rfl rfl
  · refine lv_iconst (v := 1) hx hb dL_law_166 (by decide) ?_
    refine lv_goto (tgt := 171) hx hb dL_law_167 (by decide) ?_
    refine va_calli (va_runV (As := [.int (xs ((nI i) + 1).toNatClampNeg), .int 1]) (rest := []) ⟨hx, hb, hml, hown, hts⟩ (c_X4_make l D cy (AC s) β σ H.size (xs ((nI i) + 1).toNatClampNeg) 1 (Or.inr rfl) hInv.1 hAC hq) (cwV 2 hts gL_law_X4_make rfl rfl rfl (by decide +kernel) ⟨Nat.le_of_ble_eq_true rfl, Nat.le_of_ble_eq_true rfl⟩) ⟨px_blind, pw_recv hPc hK cc_0 rfl, px_pre hPc hK rfl⟩ rfl rfl hl.1 rfl (lv_room (Nat.le_of_ble_eq_true rfl)) dL_law_171 ⟨(by show cells + 3 ≤ 600000; omega), (by show slots + 23 ≤ 7302250; omega)⟩) hS (fun q _ h => h.1) (fun q h => h.1) (fun r γ t H1 locs ht hvm hw hB hz1 hk1 hS => ?_)
    rw [ht] at hB
    have hPc := hB
    have hPr := keptR hPr hk1
    have hsz : s.heap.size + 36 ≤ H1.size := Nat.le_trans hsz hz1
    clear hB hk1 hz1 ht hvm
    skip
    subst hw
    refine lv_aload_n hx hb dL_law_174 rfl (lv_at hl 1 rfl) ?_
    refine lv_aload_n hx hb dL_law_175 rfl (lv_at hl 3 rfl) ?_
    refine lv_iload_n hx hb dL_law_176 rfl (lv_at hl 0 rfl) ?_
    refine lv_iconst (v := 1) hx hb dL_law_177 (by decide) ?_
    refine lv_iadd hx hb dL_law_178 ?_
    refine va_sld hx hb hX hbl hbA hS (law_in (k := 1) rfl (by omega) hL) dL_law_179 ?_
    refine lv_aload_n hx hb dL_law_180 rfl (lv_at hl 3 rfl) ?_
    refine lv_iload_n hx hb dL_law_181 rfl (lv_at hl 0 rfl) ?_
    refine lv_iconst (v := 2) hx hb dL_law_182 (by decide) ?_
    refine lv_iadd hx hb dL_law_183 ?_
    refine va_sld hx hb hX hbl hbA hS (law_in (k := 2) rfl (by omega) hL) dL_law_184 ?_
    refine lv_if_eq (x := (xs ((nI i) + 2).toNatClampNeg)) (tgt := 192) hx hb dL_law_185 (by decide) (fun c => absurd c c163) (fun c185 => ?_)
    refine lv_iconst (v := 1) hx hb dL_law_188 (by decide) ?_
    refine lv_goto (tgt := 193) hx hb dL_law_189 (by decide) ?_
    refine va_calli (va_runV (As := [.int (xs ((nI i) + 1).toNatClampNeg), .int 1]) (rest := [.int ((F_make σ (xs ((nI i) + 1).toNatClampNeg) 1).1)]) ⟨hx, hb, hml, hown, hts⟩ (c_X5_make l D cy (AR s) ρ σ (xs ((nI i) + 1).toNatClampNeg) 1 (Or.inr rfl)) (cwV 2 hts gL_law_X5_make rfl rfl rfl (by decide +kernel) ⟨Nat.le_of_ble_eq_true rfl, Nat.le_of_ble_eq_true rfl⟩) ⟨pb_blind, pw_recv hPr hK cr_obj rfl, pb_pre hPr hK⟩ rfl rfl hl.1 rfl (lv_room (Nat.le_of_ble_eq_true rfl)) dL_law_193 ⟨(by show cells + 3 + 0 ≤ 600000; omega), (by show slots + 23 + 0 ≤ 7302250; omega)⟩) hS (fun q _ h => by have := h.1; show s.heap.size ≤ q; omega) (fun q h => by have := h.1; show s.heap.size ≤ q; omega) (fun r u t H1 locs ht hvm hw hB hz1 hk1 hS => ?_)
    rw [ht] at hB
    have hPr := hB
    have hPc := keptC hPc hk1
    have hsz : s.heap.size + 36 ≤ H1.size := Nat.le_trans hsz hz1
    clear hB hk1 hz1 ht hvm
    skip
    subst hw
    refine lv_icmp_eq (x := ((F_make σ (xs ((nI i) + 1).toNatClampNeg) 1).1)) (y := ((F_make σ (xs ((nI i) + 1).toNatClampNeg) 1).1)) (tgt := 1092) hx hb dL_law_196 (by decide) (fun c196 => ?_) (fun c => absurd rfl c)
    exact kk _ _ _ _ (F_make σ (xs ((nI i) + 1).toNatClampNeg) 1).2 β ρ ⟨hPc, hPr, inv_more (inv_make hInv) (by omega), hS, hsz, by omega, by omega, by omega⟩ rfl rfl
