theorem pair_eta {X Y : Type} (p : X × Y) : p = (p.1, p.2) := rfl
def tlT (σ : SG) (k : Nat) : SG := sr (sr (sr σ 22 (pR (σ 22) 0 20 k)) 23 (pR (σ 23) 0 20 k)) 24 (pR (σ 24) 0 20 k)
theorem tl_top (σ : SG) : tlT σ 19 = σ := by
  unfold tlT
  rw [pR_top, pR_top, pR_top, sr_self]
  have h1 : sr σ 23 (σ 23) = σ := sr_self σ 23
  rw [h1]
  exact sr_self σ 24
theorem tl_step (σ : SG) {k : Nat} (hk : k + 1 < 20) : st (st (st (tlT σ (k + 1)) 22 (k + 1) (pR (σ 22) 0 20 (k + 1) k)) 23 (k + 1) (pR (σ 23) 0 20 (k + 1) k)) 24 (k + 1) (pR (σ 24) 0 20 (k + 1) k) = tlT σ k := by
  funext x
  by_cases h4 : x = 24
  · subst h4; exact pR_step0 _ hk
  · by_cases h3 : x = 23
    · subst h3; exact pR_step0 _ hk
    · by_cases h2 : x = 22
      · subst h2; exact pR_step0 _ hk
      · simp [tlT, st, sr, h2, h3, h4]
theorem tl_end (σ : SG) (a b c : Int32) : st (st (st (tlT σ 0) 22 0 a) 23 0 b) 24 0 c = evA σ a b c := by
  funext x
  unfold evA
  rw [shR_pR, shR_pR, shR_pR]
  by_cases h4 : x = 24
  · subst h4; rfl
  · by_cases h3 : x = 23
    · subst h3; rfl
    · by_cases h2 : x = 22
      · subst h2; rfl
      · simp [tlT, st, sr, h2, h3, h4]
def agN (σ : SG) (g : Nat) : Nat → Int32 := fun x => if x < g then (if σ 0 x ≠ 0 ∧ σ 2 x = gp then σ 8 x + 1 else 0) else σ 8 x
theorem ag_top (σ : SG) (v : Int32) : sr (st σ 25 0 v) 8 (agN σ 0) = st σ 25 0 v := by
  have e : agN σ 0 = (st σ 25 0 v) 8 := by funext x; show (if x < 0 then _ else _) = σ 8 x; rw [if_neg (by omega)]
  rw [e]; exact sr_self _ 8
theorem ag_self (σ : SG) (g : Nat) : agN σ g g = σ 8 g := if_neg (Nat.lt_irrefl g)
theorem ag_step (σ τ : SG) {g : Nat} {v : Int32} (hv : v = if σ 0 g ≠ 0 ∧ σ 2 g = gp then σ 8 g + 1 else 0) : st (sr τ 8 (agN σ g)) 8 g v = sr τ 8 (agN σ (g + 1)) := by
  rw [st_sr]
  congr 1
  funext x
  unfold upd agN
  by_cases h : x = g
  · subst h; rw [if_pos rfl, if_pos (by omega), hv]
  · rw [if_neg h]
    by_cases h2 : x < g
    · have h3 : x < g + 1 := by omega
      rw [if_pos h2, if_pos h3]
    · have h3 : ¬ x < g + 1 := by omega
      rw [if_neg h2, if_neg h3]
theorem sc_0 (σ : SG) : sr (st σ 25 0 (σ 25 0 + 1)) 8 (agN σ 16) = (scN σ 0).2 := rfl
theorem scK (σ : SG) : ∀ (t k : Nat), k ≠ 8 → k ≠ 21 → k ≠ 22 → k ≠ 23 → k ≠ 24 → k ≠ 25 → k ≠ 29 → k ≠ 31 → (scN σ t).2 k = σ k
  | 0, k, h8, h21, h22, h23, h24, h25, h29, h31 => by
    show aged σ k = σ k
    unfold aged
    rw [sr_ne h8, st_ne h25]
  | t + 1, k, h8, h21, h22, h23, h24, h25, h29, h31 => by
    have ih := scK σ t k h8 h21 h22 h23 h24 h25 h29 h31
    by_cases hc : (scN σ t).2 20 t ≠ 0 ∧ (scN σ t).2 21 t = 0 ∧ ¬ now (scN σ t).2 t < (scN σ t).2 17 t
    · rw [scN, if_pos hc]
      show evs (st (scN σ t).2 21 t 1) t k = σ k
      unfold evs gho evA
      rw [sr_ne h31, st_ne h29, sr_ne h24, sr_ne h23, sr_ne h22, st_ne h21]
      exact ih
    · rw [scN, if_neg hc]; exact ih
theorem sc21 (σ : SG) : ∀ (t u : Nat), t ≤ u → (scN σ t).2 21 u = σ 21 u
  | 0, u, _ => rfl
  | t + 1, u, h => by
    have ih := sc21 σ t u (by omega)
    by_cases hc : (scN σ t).2 20 t ≠ 0 ∧ (scN σ t).2 21 t = 0 ∧ ¬ now (scN σ t).2 t < (scN σ t).2 17 t
    · rw [scN, if_pos hc]
      show st (scN σ t).2 21 t 1 21 u = σ 21 u
      rw [st_ne2 (by omega)]; exact ih
    · rw [scN, if_neg hc]; exact ih
theorem okT_rows {τ σ : SG} {t : Nat} (h17 : τ 17 = σ 17) (h18 : τ 18 = σ 18) (h19 : τ 19 = σ 19) (h11 : τ 11 = σ 11) (h30 : τ 30 = σ 30) (h : okT σ t) : okT τ t := by
  unfold okT; rw [h17, h18, h19, h11, h30]; exact h
theorem okC_rows {τ σ : SG} {c : Nat} (h0 : τ 0 = σ 0) (h12 : τ 12 = σ 12) (h13 : τ 13 = σ 13) (h14 : τ 14 = σ 14) (h15 : τ 15 = σ 15) (h16 : τ 16 = σ 16) (h : okC σ c) : okC τ c := by
  unfold okC; rw [h0, h12, h13, h14, h15, h16]; exact h
theorem okT_sc {σ : SG} (h : ∀ t, t < 8 → σ 20 t ≠ 0 → okT σ t) (u : Nat) : ∀ t, t < 8 → (scN σ u).2 20 t ≠ 0 → okT (scN σ u).2 t := by
  intro t ht h20
  have r := fun k => scK σ u k
  rw [r 20 (by decide) (by decide) (by decide) (by decide) (by decide) (by decide) (by decide) (by decide)] at h20
  exact okT_rows (r 17 (by decide) (by decide) (by decide) (by decide) (by decide) (by decide) (by decide) (by decide)) (r 18 (by decide) (by decide) (by decide) (by decide) (by decide) (by decide) (by decide) (by decide)) (r 19 (by decide) (by decide) (by decide) (by decide) (by decide) (by decide) (by decide) (by decide)) (r 11 (by decide) (by decide) (by decide) (by decide) (by decide) (by decide) (by decide) (by decide)) (r 30 (by decide) (by decide) (by decide) (by decide) (by decide) (by decide) (by decide) (by decide)) (h t ht h20)
theorem okC_sc {σ : SG} (h : ∀ c, c < 24 → σ 11 c ≠ 0 → okC σ c) (u : Nat) : ∀ c, c < 24 → (scN σ u).2 11 c ≠ 0 → okC (scN σ u).2 c := by
  intro t ht h20
  have r := fun k => scK σ u k
  rw [r 11 (by decide) (by decide) (by decide) (by decide) (by decide) (by decide) (by decide) (by decide)] at h20
  exact okC_rows (r 0 (by decide) (by decide) (by decide) (by decide) (by decide) (by decide) (by decide) (by decide)) (r 12 (by decide) (by decide) (by decide) (by decide) (by decide) (by decide) (by decide) (by decide)) (r 13 (by decide) (by decide) (by decide) (by decide) (by decide) (by decide) (by decide) (by decide)) (r 14 (by decide) (by decide) (by decide) (by decide) (by decide) (by decide) (by decide) (by decide)) (r 15 (by decide) (by decide) (by decide) (by decide) (by decide) (by decide) (by decide) (by decide)) (r 16 (by decide) (by decide) (by decide) (by decide) (by decide) (by decide) (by decide) (by decide)) (h t ht h20)

set_option maxHeartbeats 4000000 in
set_option maxRecDepth 100000 in
theorem c_X5_tells (l : Launch) (D : va_G) (cy : Nat → ClassId) (A : Nat → Prop) (α : AD) (σ : SG) (ti : Int32) (i : Nat) (hti : ti = nI i) (hi : i < 8) (hok : okT σ i) (hC : ∀ c, c < 24 → σ 11 c ≠ 0 → okC σ c) (hdue : ¬ now σ i < σ 17 i) : Met l yX5_tells wsX5_tells ({ frames := 5, cells := 0, slots := 0, locals := 113 } : Room) (va_Pc [.ref (α 0 0), .int ti] (PB D cy A α (CR cy σ α))) (va_Qv (fun (u : Unit) => True) (fun u t => PW D A α (CR cy (evs σ i) α) t.heap) A) 0 0 A := by
  refine Met.ofW (cc := cX5_tells) (maxL := 3) (ret := none) (by decide) rfl ?_
  intro p e s m args below meth c s₁ B hml hv
  obtain ⟨rfl, hP, hK⟩ := hv
  have hx := B.exec
  have hb := B.bytes
  have hr := B.returns
  have hts := atoms_spec (ws := wsX5_tells) B.pre
  have hown : s.vm.findClass RX5 = some m.cls := findClass_of_methodNamed B.named
  have hlocks := B.notSynchronized
  have hiX5 : ∀ w ∈ wsX50, w ∈ wsX5_tells := by decide +kernel
  have hS : va_S A s.heap s.heap [] := va_S.rf
  have hl := lv_entry ([.ref (α 0 0), .int ti]) (n := 3) (Nat.le_of_ble_eq_true rfl)
  rw [lg_entry_eq]
  generalize (lg_sl ([.ref (α 0 0), .int ti]) ++ List.replicate (3 - (lg_sl ([.ref (α 0 0), .int ti])).length) Slot.unset).toArray = ls at hl ⊢
  have hl : lv_has ls 3 [(0, .ref (α 0 0)), (1, .int ti)] := hl
  skip
  skip
  have L3 : ∀ (n : Nat) (k : Nat) (hn : k < n) (hk : k < 20) (ls : Array Slot) (hl : lv_has ls 3 [(0, .ref (α 0 0)), (1, .int ti), (2, .int (nI k))]) (H : Heap) (locs : List Loc) (hP : PW D A α (CR cy (sr (sr (sr σ 22 (pR (σ 22) 0 20 k)) 23 (pR (σ 23) 0 20 k)) 24 (pR (σ 24) 0 20 k)) α) H) (hS : va_S A s.heap H locs), W p l e ({ frames := 5, cells := 0, slots := 0, locals := 113 } : Room) s m ([.ref (α 0 0), .int ti] : List Value).toArray below meth c H locs 0 0 (MQ below (va_Qv (fun (u : Unit) => True) (fun u t => PW D A α (CR cy (evs σ i) α) t.heap) A) ([.ref (α 0 0), .int ti] : List Value).toArray s 0 0 A) (F0 m 3 ls []) := by
    intro n
    induction n with
    | zero => intro k hn hk ls hl H locs hP hS; exact absurd hn (Nat.not_lt_zero _)
    | succ n ih =>
      intro k hn hk ls hl H locs hP hS
      cases k with
      | zero =>
        refine lv_iload_n hx hb dX5_tells_3 rfl (lv_at hl 2 rfl) ?_
        refine lv_if_le (x := (nI 0)) (tgt := 55) hx hb dX5_tells_4 (by decide) (fun c4 => ?_) (fun c => absurd (by decide) c)
        refine lv_aload_n hx hb dX5_tells_55 rfl (lv_at hl 0 rfl) ?_
        refine rf_get (v := .ref (α 23 0)) hx hb hts hiX5 hown hK hP 22 (by decide) (by decide +kernel) rfl rfl dX5_tells_56 ?_
        refine lv_iconst (v := 0) hx hb dX5_tells_59 (by decide) ?_
        refine lv_iload_n hx hb dX5_tells_60 rfl (lv_at hl 1 rfl) ?_
        refine rf_iast hx hb hK hP hS 22 (by decide) rfl 0 rfl (by decide) dX5_tells_61 (fun H locs hP hz hS => ?_)
        refine lv_aload_n hx hb dX5_tells_62 rfl (lv_at hl 0 rfl) ?_
        refine rf_get (v := .ref (α 24 0)) hx hb hts hiX5 hown hK hP 23 (by decide) (by decide +kernel) rfl rfl dX5_tells_63 ?_
        refine lv_iconst (v := 0) hx hb dX5_tells_66 (by decide) ?_
        refine lv_aload_n hx hb dX5_tells_67 rfl (lv_at hl 0 rfl) ?_
        refine rf_get (v := .int (σ 25 0)) hx hb hts hiX5 hown hK hP 25 (by decide) (by decide +kernel) rfl rfl dX5_tells_68 ?_
        refine rf_iast hx hb hK hP hS 23 (by decide) rfl 0 rfl (by decide) dX5_tells_71 (fun H locs hP hz hS => ?_)
        refine lv_aload_n hx hb dX5_tells_72 rfl (lv_at hl 0 rfl) ?_
        refine rf_get (v := .ref (α 25 0)) hx hb hts hiX5 hown hK hP 24 (by decide) (by decide +kernel) rfl rfl dX5_tells_73 ?_
        refine lv_iconst (v := 0) hx hb dX5_tells_76 (by decide) ?_
        refine lv_aload_n hx hb dX5_tells_77 rfl (lv_at hl 0 rfl) ?_
        refine lv_iload_n hx hb dX5_tells_78 rfl (lv_at hl 1 rfl) ?_
        refine vp_callSi (W.runV (As := [.int ti]) (rest := [.int 0, .ref (α 25 0)]) ⟨hx, hb, hml, hown, hts⟩ (c_X5_firstHeld l D cy A α (st (st (sr (sr (sr σ 22 (pR (σ 22) 0 20 0)) 23 (pR (σ 23) 0 20 0)) 24 (pR (σ 24) 0 20 0)) 22 0 ti) 23 0 (σ 25 0)) ti i hti hi hok hC (by rw [now_same (τ := (st (st (sr (sr (sr σ 22 (pR (σ 22) 0 20 0)) 23 (pR (σ 23) 0 20 0)) 24 (pR (σ 24) 0 20 0)) 22 0 ti) 23 0 (σ 25 0))) (σ := σ) ⟨rfl, rfl, rfl, rfl, rfl, rfl, rfl, rfl, rfl⟩]; exact hdue)) (cwV 1 hts gX5_tells_X5_firstHeld rfl rfl rfl (by decide +kernel) ⟨Nat.le_of_ble_eq_true rfl, Nat.le_of_ble_eq_true rfl⟩) ⟨pb_blind, pw_recv hP hK cr_obj rfl, pb_pre hP hK⟩ rfl rfl hl.1 rfl (lv_room (Nat.le_of_ble_eq_true rfl)) dX5_tells_79 ⟨Nat.le_of_ble_eq_true rfl, Nat.le_of_ble_eq_true rfl⟩) (fun r hw => ?_)
        subst hw
        rw [firstH_same (τ := (st (st (sr (sr (sr σ 22 (pR (σ 22) 0 20 0)) 23 (pR (σ 23) 0 20 0)) 24 (pR (σ 24) 0 20 0)) 22 0 ti) 23 0 (σ 25 0))) (σ := σ) ⟨rfl, rfl, rfl, rfl, rfl, rfl, rfl, rfl, rfl⟩]
        refine rf_iast hx hb hK hP hS 24 (by decide) rfl 0 rfl (by decide) dX5_tells_82 (fun H locs hP hz hS => ?_)
        refine lv_aload_n hx hb dX5_tells_83 rfl (lv_at hl 0 rfl) ?_
        refine lv_dup hx hb dX5_tells_84 rfl ?_
        refine rf_get (v := .int (σ 29 0)) hx hb hts hiX5 hown hK hP 29 (by decide) (by decide +kernel) rfl rfl dX5_tells_85 ?_
        refine lv_iconst (v := 1) hx hb dX5_tells_88 (by decide) ?_
        refine lv_iadd hx hb dX5_tells_89 ?_
        refine rf_put hx hb hts hiX5 hown hK hP hS 29 (by decide) (by decide +kernel) rfl rfl (by decide +kernel) dX5_tells_90 (fun H locs hP hz hS => ?_)
        exact W.vret hx hb hr (fun t ht hW => ⟨⟨(), rfl, trivial, by dsimp only; rw [ht]; exact (by show PW D A α (CR cy (sr _ 31 _) α) _; rw [cr_gh (by decide), ← tl_end, ← hti]; exact hP)⟩, hS.F ht⟩) hS.2.2 dX5_tells_93
      | succ k =>
        refine lv_iload_n hx hb dX5_tells_3 rfl (lv_at hl 2 rfl) ?_
        refine lv_if_le (x := (nI (k + 1))) (tgt := 55) hx hb dX5_tells_4 (by decide) (fun c => absurd c (nI_nle (Nat.succ_pos k) (by omega))) (fun c4 => ?_)
        refine lv_aload_n hx hb dX5_tells_7 rfl (lv_at hl 0 rfl) ?_
        refine rf_get (v := .ref (α 23 0)) hx hb hts hiX5 hown hK hP 22 (by decide) (by decide +kernel) rfl rfl dX5_tells_8 ?_
        refine lv_iload_n hx hb dX5_tells_11 rfl (lv_at hl 2 rfl) ?_
        refine lv_aload_n hx hb dX5_tells_12 rfl (lv_at hl 0 rfl) ?_
        refine rf_get (v := .ref (α 23 0)) hx hb hts hiX5 hown hK hP 22 (by decide) (by decide +kernel) rfl rfl dX5_tells_13 ?_
        refine lv_iload_n hx hb dX5_tells_16 rfl (lv_at hl 2 rfl) ?_
        refine lv_iconst (v := 1) hx hb dX5_tells_17 (by decide) ?_
        refine lv_isub hx hb dX5_tells_18 ?_
        refine rf_iald hx hb hK hP 22 (by decide) rfl k (nI_dec k) (show k < 20 by omega) dX5_tells_19 ?_
        refine rf_iast hx hb hK hP hS 22 (by decide) rfl (k + 1) rfl (show k + 1 < 20 by omega) dX5_tells_20 (fun H locs hP hz hS => ?_)
        refine lv_aload_n hx hb dX5_tells_21 rfl (lv_at hl 0 rfl) ?_
        refine rf_get (v := .ref (α 24 0)) hx hb hts hiX5 hown hK hP 23 (by decide) (by decide +kernel) rfl rfl dX5_tells_22 ?_
        refine lv_iload_n hx hb dX5_tells_25 rfl (lv_at hl 2 rfl) ?_
        refine lv_aload_n hx hb dX5_tells_26 rfl (lv_at hl 0 rfl) ?_
        refine rf_get (v := .ref (α 24 0)) hx hb hts hiX5 hown hK hP 23 (by decide) (by decide +kernel) rfl rfl dX5_tells_27 ?_
        refine lv_iload_n hx hb dX5_tells_30 rfl (lv_at hl 2 rfl) ?_
        refine lv_iconst (v := 1) hx hb dX5_tells_31 (by decide) ?_
        refine lv_isub hx hb dX5_tells_32 ?_
        refine rf_iald hx hb hK hP 23 (by decide) rfl k (nI_dec k) (show k < 20 by omega) dX5_tells_33 ?_
        refine rf_iast hx hb hK hP hS 23 (by decide) rfl (k + 1) rfl (show k + 1 < 20 by omega) dX5_tells_34 (fun H locs hP hz hS => ?_)
        refine lv_aload_n hx hb dX5_tells_35 rfl (lv_at hl 0 rfl) ?_
        refine rf_get (v := .ref (α 25 0)) hx hb hts hiX5 hown hK hP 24 (by decide) (by decide +kernel) rfl rfl dX5_tells_36 ?_
        refine lv_iload_n hx hb dX5_tells_39 rfl (lv_at hl 2 rfl) ?_
        refine lv_aload_n hx hb dX5_tells_40 rfl (lv_at hl 0 rfl) ?_
        refine rf_get (v := .ref (α 25 0)) hx hb hts hiX5 hown hK hP 24 (by decide) (by decide +kernel) rfl rfl dX5_tells_41 ?_
        refine lv_iload_n hx hb dX5_tells_44 rfl (lv_at hl 2 rfl) ?_
        refine lv_iconst (v := 1) hx hb dX5_tells_45 (by decide) ?_
        refine lv_isub hx hb dX5_tells_46 ?_
        refine rf_iald hx hb hK hP 24 (by decide) rfl k (nI_dec k) (show k < 20 by omega) dX5_tells_47 ?_
        refine rf_iast hx hb hK hP hS 24 (by decide) rfl (k + 1) rfl (show k + 1 < 20 by omega) dX5_tells_48 (fun H locs hP hz hS => ?_)
        refine lv_iinc (v := (nI k)) (lv' := [(2, .int (nI k)), (0, .ref (α 0 0)), (1, .int ti)]) hx hb dX5_tells_49 hl (k := 2) rfl (pk_m1 _) (by decide) rfl (fun ls hl => ?_)
        refine lv_goto (tgt := 3) hx hb dX5_tells_52 (by decide) ?_
        exact ih k (by omega) (by omega) ls (lv_sub hl [1, 2, 0] rfl) _ _ (by show PW D A α (CR cy (tlT σ k) α) _; rw [← tl_step σ (k := k) (by omega)]; exact hP) hS
  refine lv_bipush (v := 19) hx hb dX5_tells_0 (by decide) ?_
  refine lv_istore_n (lv' := [(2, .int 19), (0, .ref (α 0 0)), (1, .int ti)]) hx hb dX5_tells_2 rfl hl (by decide) rfl (fun ls hl => ?_)
  exact L3 20 19 (by decide) (by decide) ls (lv_sub hl [1, 2, 0] rfl) _ _ (by show PW D A α (CR cy (tlT σ 19) α) _; rw [tl_top σ]; exact hP) hS

set_option maxHeartbeats 4000000 in
set_option maxRecDepth 100000 in
theorem c_X5_scan (l : Launch) (D : va_G) (cy : Nat → ClassId) (A : Nat → Prop) (α : AD) (σ : SG) (hT : ∀ t, t < 8 → σ 20 t ≠ 0 → okT σ t) (hC : ∀ c, c < 24 → σ 11 c ≠ 0 → okC σ c) : Met l yX5_scan wsX5_scan ({ frames := 6, cells := 0, slots := 0, locals := 135 } : Room) (va_Pc [.ref (α 0 0)] (PB D cy A α (CR cy σ α))) (va_Qi (fun (r : Int32) (u : Unit) => r = (F_scan σ).1) (fun u t => PW D A α (CR cy (F_scan σ).2 α) t.heap) A) 0 0 A := by
  refine Met.ofW (cc := cX5_scan) (maxL := 3) (ret := (some .int)) (by decide) rfl ?_
  intro p e s m args below meth c s₁ B hml hv
  obtain ⟨rfl, hP, hK⟩ := hv
  have hx := B.exec
  have hb := B.bytes
  have hr := B.returns
  have hts := atoms_spec (ws := wsX5_scan) B.pre
  have hown : s.vm.findClass RX5 = some m.cls := findClass_of_methodNamed B.named
  have hlocks := B.notSynchronized
  have hiX5 : ∀ w ∈ wsX50, w ∈ wsX5_scan := by decide +kernel
  have hS : va_S A s.heap s.heap [] := va_S.rf
  have hl := lv_entry ([.ref (α 0 0)]) (n := 3) (Nat.le_of_ble_eq_true rfl)
  rw [lg_entry_eq]
  generalize (lg_sl ([.ref (α 0 0)]) ++ List.replicate (3 - (lg_sl ([.ref (α 0 0)])).length) Slot.unset).toArray = ls at hl ⊢
  have hl : lv_has ls 3 [(0, .ref (α 0 0))] := hl
  skip
  have L66 : ∀ (n : Nat) (gt : Nat) (v : Int32) (τ : SG) (hn : 8 - gt < n) (hg : gt ≤ 8) (hv : v = (scN σ gt).1) (hτ : τ = (scN σ gt).2) (ls : Array Slot) (hl : lv_has ls 3 [(0, .ref (α 0 0)), (1, .int v), (2, .int (nI gt))]) (H : Heap) (locs : List Loc) (hP : PW D A α (CR cy τ α) H) (hS : va_S A s.heap H locs), W p l e ({ frames := 6, cells := 0, slots := 0, locals := 135 } : Room) s m ([.ref (α 0 0)] : List Value).toArray below meth c H locs 0 0 (MQ below (va_Qi (fun (r : Int32) (u : Unit) => r = (F_scan σ).1) (fun u t => PW D A α (CR cy (F_scan σ).2 α) t.heap) A) ([.ref (α 0 0)] : List Value).toArray s 0 0 A) (F0 m 66 ls []) := by
    intro n
    induction n with
    | zero => intro gt v τ hn hg hv hτ ls hl H locs hP hS; exact absurd hn (Nat.not_lt_zero _)
    | succ n ih =>
      intro gt v τ hn hg hv hτ ls hl H locs hP hS
      have hT' : ∀ t, t < 8 → τ 20 t ≠ 0 → okT τ t := by rw [hτ]; exact okT_sc hT gt
      have hC' : ∀ c, c < 24 → τ 11 c ≠ 0 → okC τ c := by rw [hτ]; exact okC_sc hC gt
      refine lv_iload_n hx hb dX5_scan_66 rfl (lv_at hl 2 rfl) ?_
      refine lv_bipush (v := 8) hx hb dX5_scan_67 (by decide) ?_
      refine lv_icmp_ge (x := (nI gt)) (y := 8) (tgt := 128) hx hb dX5_scan_69 (by decide) (fun c69 => ?_) (fun c69 => ?_)
      · have hge : gt = 8 := Nat.le_antisymm hg (ige (by omega) (by decide) c69)
        refine lv_iload_n hx hb dX5_scan_128 rfl (lv_at hl 1 rfl) ?_
        have eF : F_scan σ = (v, τ) := by rw [hv, hτ, hge, F_scan]
        exact W.iret (v := v) hx hb hr (fun t ht hW => ⟨⟨_, (), rfl, (by rw [eF]), by dsimp only; rw [ht]; exact (by rw [eF]; exact hP)⟩, hS.F ht⟩) hS.2.2 dX5_scan_129
      · have hlt : gt < 8 := ilt (by omega) (by decide) c69
        refine lv_aload_n hx hb dX5_scan_72 rfl (lv_at hl 0 rfl) ?_
        refine rf_get (v := .ref (α 21 0)) hx hb hts hiX5 hown hK hP 20 (by decide) (by decide +kernel) rfl rfl dX5_scan_73 ?_
        refine lv_iload_n hx hb dX5_scan_76 rfl (lv_at hl 2 rfl) ?_
        refine rf_zald hx hb hK hP 20 (by decide) rfl gt rfl hlt dX5_scan_77 ?_
        refine lv_if_eq (x := (τ 20 gt)) (tgt := 122) hx hb dX5_scan_78 (by decide) (fun c78 => ?_) (fun c78 => ?_)
        · refine lv_iinc (v := (nI (gt + 1))) (lv' := [(2, .int (nI (gt + 1))), (0, .ref (α 0 0)), (1, .int v)]) hx hb dX5_scan_122 hl (k := 2) rfl (nI_1 _) (by decide) rfl (fun ls hl => ?_)
          refine lv_goto (tgt := 66) hx hb dX5_scan_125 (by decide) ?_
          have e1 : scN σ (gt + 1) = scN σ gt := by rw [scN, ← hτ, if_neg (fun q => q.1 c78)]
          exact ih (gt + 1) v τ (by omega) hlt (by rw [e1]; exact hv) (by rw [e1]; exact hτ) ls (lv_sub hl [1, 2, 0] rfl) _ _ hP hS
        · refine lv_aload_n hx hb dX5_scan_81 rfl (lv_at hl 0 rfl) ?_
          refine rf_get (v := .ref (α 22 0)) hx hb hts hiX5 hown hK hP 21 (by decide) (by decide +kernel) rfl rfl dX5_scan_82 ?_
          refine lv_iload_n hx hb dX5_scan_85 rfl (lv_at hl 2 rfl) ?_
          refine rf_zald hx hb hK hP 21 (by decide) rfl gt rfl hlt dX5_scan_86 ?_
          refine lv_if_ne (x := (τ 21 gt)) (tgt := 122) hx hb dX5_scan_87 (by decide) (fun c87 => ?_) (fun c87 => ?_)
          · refine lv_iinc (v := (nI (gt + 1))) (lv' := [(2, .int (nI (gt + 1))), (0, .ref (α 0 0)), (1, .int v)]) hx hb dX5_scan_122 hl (k := 2) rfl (nI_1 _) (by decide) rfl (fun ls hl => ?_)
            refine lv_goto (tgt := 66) hx hb dX5_scan_125 (by decide) ?_
            have e1 : scN σ (gt + 1) = scN σ gt := by rw [scN, ← hτ, if_neg (fun q => c87 q.2.1)]
            exact ih (gt + 1) v τ (by omega) hlt (by rw [e1]; exact hv) (by rw [e1]; exact hτ) ls (lv_sub hl [1, 2, 0] rfl) _ _ hP hS
          · refine lv_aload_n hx hb dX5_scan_90 rfl (lv_at hl 0 rfl) ?_
            refine lv_iload_n hx hb dX5_scan_91 rfl (lv_at hl 2 rfl) ?_
            refine vp_callSi (W.runV (As := [.int (nI gt)]) (rest := []) ⟨hx, hb, hml, hown, hts⟩ (c_X5_now l D cy A α τ (nI gt) gt rfl hlt (hT' gt hlt c78) hC') (cwV 1 hts gX5_scan_X5_now rfl rfl rfl (by decide +kernel) ⟨Nat.le_of_ble_eq_true rfl, Nat.le_of_ble_eq_true rfl⟩) ⟨pb_blind, pw_recv hP hK cr_obj rfl, pb_pre hP hK⟩ rfl rfl hl.1 rfl (lv_room (Nat.le_of_ble_eq_true rfl)) dX5_scan_92 ⟨Nat.le_of_ble_eq_true rfl, Nat.le_of_ble_eq_true rfl⟩) (fun r hw => ?_)
            subst hw
            refine lv_aload_n hx hb dX5_scan_95 rfl (lv_at hl 0 rfl) ?_
            refine rf_get (v := .ref (α 18 0)) hx hb hts hiX5 hown hK hP 17 (by decide) (by decide +kernel) rfl rfl dX5_scan_96 ?_
            refine lv_iload_n hx hb dX5_scan_99 rfl (lv_at hl 2 rfl) ?_
            refine rf_iald hx hb hK hP 17 (by decide) rfl gt rfl hlt dX5_scan_100 ?_
            refine lv_icmp_ge (x := (now τ gt)) (y := (τ 17 gt)) (tgt := 107) hx hb dX5_scan_101 (by decide) (fun c101 => ?_) (fun c101 => ?_)
            · refine lv_aload_n hx hb dX5_scan_107 rfl (lv_at hl 0 rfl) ?_
              refine rf_get (v := .ref (α 22 0)) hx hb hts hiX5 hown hK hP 21 (by decide) (by decide +kernel) rfl rfl dX5_scan_108 ?_
              refine lv_iload_n hx hb dX5_scan_111 rfl (lv_at hl 2 rfl) ?_
              refine lv_iconst (v := 1) hx hb dX5_scan_112 (by decide) ?_
              refine rf_zast hx hb hK hP hS 21 (by decide) rfl (Or.inr rfl) gt rfl hlt dX5_scan_113 (fun H locs hP hz hS => ?_)
              refine lv_aload_n hx hb dX5_scan_114 rfl (lv_at hl 0 rfl) ?_
              refine lv_iload_n hx hb dX5_scan_115 rfl (lv_at hl 2 rfl) ?_
              refine va_callv (va_runV (As := [.int (nI gt)]) (rest := []) ⟨hx, hb, hml, hown, hts⟩ (c_X5_tells l D cy A α (st τ 21 gt 1) (nI gt) gt rfl hlt (hT' gt hlt c78) hC' (by rw [now_same (τ := st τ 21 gt 1) (σ := τ) ⟨rfl, rfl, rfl, rfl, rfl, rfl, rfl, rfl, rfl⟩]; exact Int32.not_lt.mpr c101)) (cwV 1 hts gX5_scan_X5_tells rfl rfl rfl (by decide +kernel) ⟨Nat.le_of_ble_eq_true rfl, Nat.le_of_ble_eq_true rfl⟩) ⟨pb_blind, pw_recv hP hK cr_obj rfl, pb_pre hP hK⟩ rfl rfl hl.1 rfl (lv_room (Nat.le_of_ble_eq_true rfl)) dX5_scan_116 ⟨Nat.le_of_ble_eq_true rfl, Nat.le_of_ble_eq_true rfl⟩) hS (fun _ _ h => h) (fun _ h => h) (fun u t H locs ht hvm hw hB hz1 hk1 hS => ?_)
              have hP := hB
              rw [ht] at hP
              refine W.cs (cells' := 0) (slots' := 0) rfl rfl ?_
              refine lv_iinc (v := (v + 1)) (lv' := [(1, .int (v + 1)), (0, .ref (α 0 0)), (2, .int (nI gt))]) hx hb dX5_scan_119 hl (k := 1) rfl rfl (by decide) rfl (fun ls hl => ?_)
              refine lv_iinc (v := (nI (gt + 1))) (lv' := [(2, .int (nI (gt + 1))), (1, .int (v + 1)), (0, .ref (α 0 0))]) hx hb dX5_scan_122 hl (k := 2) rfl (nI_1 _) (by decide) rfl (fun ls hl => ?_)
              refine lv_goto (tgt := 66) hx hb dX5_scan_125 (by decide) ?_
              have e1 : scN σ (gt + 1) = (v + 1, evs (st τ 21 gt 1) gt) := by rw [scN, ← hτ, ← hv, if_pos ⟨c78, c87, Int32.not_lt.mpr c101⟩]
              exact ih (gt + 1) (v + 1) _ (by omega) hlt (by rw [e1]) (by rw [e1]) ls (lv_sub hl [2, 1, 0] rfl) _ _ hP hS
            · refine lv_goto (tgt := 122) hx hb dX5_scan_104 (by decide) ?_
              refine lv_iinc (v := (nI (gt + 1))) (lv' := [(2, .int (nI (gt + 1))), (0, .ref (α 0 0)), (1, .int v)]) hx hb dX5_scan_122 hl (k := 2) rfl (nI_1 _) (by decide) rfl (fun ls hl => ?_)
              refine lv_goto (tgt := 66) hx hb dX5_scan_125 (by decide) ?_
              have e1 : scN σ (gt + 1) = scN σ gt := by rw [scN, ← hτ, if_neg (fun q => q.2.2 (Int32.not_le.mp c101))]
              exact ih (gt + 1) v τ (by omega) hlt (by rw [e1]; exact hv) (by rw [e1]; exact hτ) ls (lv_sub hl [1, 2, 0] rfl) _ _ hP hS
  have L12 : ∀ (n : Nat) (gg : Nat) (hn : 16 - gg < n) (hg : gg ≤ 16) (ls : Array Slot) (hl : lv_has ls 3 [(0, .ref (α 0 0)), (1, .int (nI gg))]) (H : Heap) (locs : List Loc) (hP : PW D A α (CR cy (sr (st σ 25 0 (σ 25 0 + 1)) 8 (agN σ gg)) α) H) (hS : va_S A s.heap H locs), W p l e ({ frames := 6, cells := 0, slots := 0, locals := 135 } : Room) s m ([.ref (α 0 0)] : List Value).toArray below meth c H locs 0 0 (MQ below (va_Qi (fun (r : Int32) (u : Unit) => r = (F_scan σ).1) (fun u t => PW D A α (CR cy (F_scan σ).2 α) t.heap) A) ([.ref (α 0 0)] : List Value).toArray s 0 0 A) (F0 m 12 ls []) := by
    intro n
    induction n with
    | zero => intro gg hn hg ls hl H locs hP hS; exact absurd hn (Nat.not_lt_zero _)
    | succ n ih =>
      intro gg hn hg ls hl H locs hP hS
      refine lv_iload_n hx hb dX5_scan_12 rfl (lv_at hl 1 rfl) ?_
      refine lv_bipush (v := 16) hx hb dX5_scan_13 (by decide) ?_
      refine lv_icmp_ge (x := (nI gg)) (y := 16) (tgt := 62) hx hb dX5_scan_15 (by decide) (fun c15 => ?_) (fun c15 => ?_)
      · have hge : gg = 16 := Nat.le_antisymm hg (ige (by omega) (by decide) c15)
        rw [hge] at hP
        refine lv_iconst (v := 0) hx hb dX5_scan_62 (by decide) ?_
        refine lv_istore_n (lv' := [(1, .int 0), (0, .ref (α 0 0))]) hx hb dX5_scan_63 rfl hl (by decide) rfl (fun ls hl => ?_)
        refine lv_iconst (v := 0) hx hb dX5_scan_64 (by decide) ?_
        refine lv_istore_n (lv' := [(2, .int 0), (1, .int 0), (0, .ref (α 0 0))]) hx hb dX5_scan_65 rfl hl (by decide) rfl (fun ls hl => ?_)
        exact L66 9 0 0 _ (by decide) (by decide) rfl (sc_0 σ) ls (lv_sub hl [2, 1, 0] rfl) _ _ hP hS
      · have hlt : gg < 16 := ilt (by omega) (by decide) c15
        refine lv_aload_n hx hb dX5_scan_18 rfl (lv_at hl 0 rfl) ?_
        refine rf_get (v := .ref (α 9 0)) hx hb hts hiX5 hown hK hP 8 (by decide) (by decide +kernel) rfl rfl dX5_scan_19 ?_
        refine lv_iload_n hx hb dX5_scan_22 rfl (lv_at hl 1 rfl) ?_
        refine lv_aload_n hx hb dX5_scan_23 rfl (lv_at hl 0 rfl) ?_
        refine rf_get (v := .ref (α 1 0)) hx hb hts hiX5 hown hK hP 0 (by decide) (by decide +kernel) rfl rfl dX5_scan_24 ?_
        refine lv_iload_n hx hb dX5_scan_27 rfl (lv_at hl 1 rfl) ?_
        refine rf_zald hx hb hK hP 0 (by decide) rfl gg rfl hlt dX5_scan_28 ?_
        refine lv_if_eq (x := (σ 0 gg)) (tgt := 54) hx hb dX5_scan_29 (by decide) (fun c29 => ?_) (fun c29 => ?_)
        · refine lv_iconst (v := 0) hx hb dX5_scan_54 (by decide) ?_
          refine rf_iast hx hb hK hP hS 8 (by decide) rfl gg rfl hlt dX5_scan_55 (fun H locs hP hz hS => ?_)
          refine lv_iinc (v := (nI (gg + 1))) (lv' := [(1, .int (nI (gg + 1))), (0, .ref (α 0 0))]) hx hb dX5_scan_56 hl (k := 1) rfl (nI_1 _) (by decide) rfl (fun ls hl => ?_)
          refine lv_goto (tgt := 12) hx hb dX5_scan_59 (by decide) ?_
          exact ih (gg + 1) (by omega) hlt ls (lv_sub hl [1, 0] rfl) _ _ (by rw [← ag_step σ (st σ 25 0 (σ 25 0 + 1)) (g := gg) (v := 0) (by rw [if_neg (fun q => q.1 c29)])]; exact hP) hS
        · refine lv_aload_n hx hb dX5_scan_32 rfl (lv_at hl 0 rfl) ?_
          refine rf_get (v := .ref (α 3 0)) hx hb hts hiX5 hown hK hP 2 (by decide) (by decide +kernel) rfl rfl dX5_scan_33 ?_
          refine lv_iload_n hx hb dX5_scan_36 rfl (lv_at hl 1 rfl) ?_
          refine rf_iald hx hb hK hP 2 (by decide) rfl gg rfl hlt dX5_scan_37 ?_
          refine lv_ldc hx hb hown (hts (.constant RX5 103 (2000000000)) (by decide +kernel)) dX5_scan_38 ?_
          refine lv_icmp_ne (x := (σ 2 gg)) (y := 2000000000) (tgt := 54) hx hb dX5_scan_40 (by decide) (fun c40 => ?_) (fun c40 => ?_)
          · refine lv_iconst (v := 0) hx hb dX5_scan_54 (by decide) ?_
            refine rf_iast hx hb hK hP hS 8 (by decide) rfl gg rfl hlt dX5_scan_55 (fun H locs hP hz hS => ?_)
            refine lv_iinc (v := (nI (gg + 1))) (lv' := [(1, .int (nI (gg + 1))), (0, .ref (α 0 0))]) hx hb dX5_scan_56 hl (k := 1) rfl (nI_1 _) (by decide) rfl (fun ls hl => ?_)
            refine lv_goto (tgt := 12) hx hb dX5_scan_59 (by decide) ?_
            exact ih (gg + 1) (by omega) hlt ls (lv_sub hl [1, 0] rfl) _ _ (by rw [← ag_step σ (st σ 25 0 (σ 25 0 + 1)) (g := gg) (v := 0) (by rw [if_neg (fun q => c40 q.2)])]; exact hP) hS
          · refine lv_aload_n hx hb dX5_scan_43 rfl (lv_at hl 0 rfl) ?_
            refine rf_get (v := .ref (α 9 0)) hx hb hts hiX5 hown hK hP 8 (by decide) (by decide +kernel) rfl rfl dX5_scan_44 ?_
            refine lv_iload_n hx hb dX5_scan_47 rfl (lv_at hl 1 rfl) ?_
            refine rf_iald hx hb hK hP 8 (by decide) rfl gg rfl hlt dX5_scan_48 ?_
            refine lv_iconst (v := 1) hx hb dX5_scan_49 (by decide) ?_
            refine lv_iadd hx hb dX5_scan_50 ?_
            refine lv_goto (tgt := 55) hx hb dX5_scan_51 (by decide) ?_
            refine rf_iast hx hb hK hP hS 8 (by decide) rfl gg rfl hlt dX5_scan_55 (fun H locs hP hz hS => ?_)
            refine lv_iinc (v := (nI (gg + 1))) (lv' := [(1, .int (nI (gg + 1))), (0, .ref (α 0 0))]) hx hb dX5_scan_56 hl (k := 1) rfl (nI_1 _) (by decide) rfl (fun ls hl => ?_)
            refine lv_goto (tgt := 12) hx hb dX5_scan_59 (by decide) ?_
            exact ih (gg + 1) (by omega) hlt ls (lv_sub hl [1, 0] rfl) _ _ (by rw [← ag_step σ (st σ 25 0 (σ 25 0 + 1)) (g := gg) (v := (sr (st σ 25 0 (σ 25 0 + 1)) 8 (agN σ gg)) 8 gg + 1) (by rw [if_pos ⟨c29, c40⟩]; show agN σ gg gg + 1 = _; rw [ag_self])]; exact hP) hS
  refine lv_aload_n hx hb dX5_scan_0 rfl (lv_at hl 0 rfl) ?_
  refine lv_dup hx hb dX5_scan_1 rfl ?_
  refine rf_get (v := .int (σ 25 0)) hx hb hts hiX5 hown hK hP 25 (by decide) (by decide +kernel) rfl rfl dX5_scan_2 ?_
  refine lv_iconst (v := 1) hx hb dX5_scan_5 (by decide) ?_
  refine lv_iadd hx hb dX5_scan_6 ?_
  refine rf_put hx hb hts hiX5 hown hK hP hS 25 (by decide) (by decide +kernel) rfl rfl (by decide +kernel) dX5_scan_7 (fun H locs hP hz hS => ?_)
  refine lv_iconst (v := 0) hx hb dX5_scan_10 (by decide) ?_
  refine lv_istore_n (lv' := [(1, .int 0), (0, .ref (α 0 0))]) hx hb dX5_scan_11 rfl hl (by decide) rfl (fun ls hl => ?_)
  exact L12 17 0 (by decide) (by decide) ls (lv_sub hl [1, 0] rfl) _ _ (by rw [ag_top]; exact hP) hS

set_option maxHeartbeats 4000000 in
set_option maxRecDepth 100000 in
theorem c_X5_take (l : Launch) (D : va_G) (cy : Nat → ClassId) (A : Nat → Prop) (α : AD) (σ : SG) (g n : Int32) : Met l yX5_take wsX5_take ({ frames := 3, cells := 0, slots := 0, locals := 68 } : Room) (va_Pc [.ref (α 0 0), .int g, .int n] (PB D cy A α (CR cy σ α))) (va_Qi (fun (r : Int32) (u : Unit) => r = (F_take σ g n).1) (fun u t => PW D A α (CR cy (F_take σ g n).2 α) t.heap) A) 0 0 A := by
  refine Met.ofW (cc := cX5_take) (maxL := 4) (ret := (some .int)) (by decide) rfl ?_
  intro p e s m args below meth c s₁ B hml hv
  obtain ⟨rfl, hP, hK⟩ := hv
  have hx := B.exec
  have hb := B.bytes
  have hr := B.returns
  have hts := atoms_spec (ws := wsX5_take) B.pre
  have hown : s.vm.findClass RX5 = some m.cls := findClass_of_methodNamed B.named
  have hlocks := B.notSynchronized
  have hiX5 : ∀ w ∈ wsX50, w ∈ wsX5_take := by decide +kernel
  have hS : va_S A s.heap s.heap [] := va_S.rf
  have hl := lv_entry ([.ref (α 0 0), .int g, .int n]) (n := 4) (Nat.le_of_ble_eq_true rfl)
  rw [lg_entry_eq]
  generalize (lg_sl ([.ref (α 0 0), .int g, .int n]) ++ List.replicate (4 - (lg_sl ([.ref (α 0 0), .int g, .int n])).length) Slot.unset).toArray = ls at hl ⊢
  have hl : lv_has ls 4 [(0, .ref (α 0 0)), (1, .int g), (2, .int n)] := hl
  skip
  have K120 : ∀ (j : Nat) (hj : j < 16) (hg : g = nI j) (hgx : gx σ g = some j) (hnum : isNum n)  (ls : Array Slot) (hl : lv_has ls 4 [(0, .ref (α 0 0)), (1, .int g), (2, .int n), (3, .int (how σ j n))]) (H : Heap) (locs : List Loc) (hP : PW D A α (CR cy σ α) H) (hS : va_S A s.heap H locs), W p l e ({ frames := 3, cells := 0, slots := 0, locals := 68 } : Room) s m ([.ref (α 0 0), .int g, .int n] : List Value).toArray below meth c H locs 0 0 (MQ below (va_Qi (fun (r : Int32) (u : Unit) => r = (F_take σ g n).1) (fun u t => PW D A α (CR cy (F_take σ g n).2 α) t.heap) A) ([.ref (α 0 0), .int g, .int n] : List Value).toArray s 0 0 A) (F0 m 120 ls []) := by
    intro j hj hg hgx hnum  ls hl H locs hP hS
    rcases how_or σ j n with hh | hh | hh
    · rw [hh] at hl
      refine lv_iload_n hx hb dX5_take_120 rfl (lv_at hl 3 rfl) ?_
      refine lv_if_ne (x := 0) (tgt := 145) hx hb dX5_take_121 (by decide) (fun c => absurd (by decide) c) (fun c121 => ?_)
      refine lv_aload_n hx hb dX5_take_124 rfl (lv_at hl 0 rfl) ?_
      refine rf_get (v := .ref (α 3 0)) hx hb hts hiX5 hown hK hP 2 (by decide) (by decide +kernel) rfl rfl dX5_take_125 ?_
      refine lv_iload_n hx hb dX5_take_128 rfl (lv_at hl 1 rfl) ?_
      refine lv_ldc hx hb hown (hts (.constant RX5 103 (2000000000)) (by decide +kernel)) dX5_take_129 ?_
      refine rf_iast hx hb hK hP hS 2 (by decide) rfl j hg hj dX5_take_131 (fun H locs hP hz hS => ?_)
      refine lv_aload_n hx hb dX5_take_132 rfl (lv_at hl 0 rfl) ?_
      refine lv_dup hx hb dX5_take_133 rfl ?_
      refine rf_get (v := .int (σ 28 0)) hx hb hts hiX5 hown hK hP 28 (by decide) (by decide +kernel) rfl rfl dX5_take_134 ?_
      refine lv_iconst (v := 1) hx hb dX5_take_137 (by decide) ?_
      refine lv_iadd hx hb dX5_take_138 ?_
      refine rf_put hx hb hts hiX5 hown hK hP hS 28 (by decide) (by decide +kernel) rfl rfl (by decide +kernel) dX5_take_139 (fun H locs hP hz hS => ?_)
      refine lv_goto (tgt := 258) hx hb dX5_take_142 (by decide) ?_
      refine lv_aload_n hx hb dX5_take_258 rfl (lv_at hl 0 rfl) ?_
      refine lv_iload_n hx hb dX5_take_259 rfl (lv_at hl 1 rfl) ?_
      refine va_callv (va_runV (As := [.int g]) (rest := []) ⟨hx, hb, hml, hown, hts⟩ (c_X5_noted l D cy A α (st (st σ 2 j 2000000000) 28 0 ((σ 28 0) + 1)) g j hg hj) (cwV 1 hts gX5_take_X5_noted rfl rfl rfl (by decide +kernel) ⟨Nat.le_of_ble_eq_true rfl, Nat.le_of_ble_eq_true rfl⟩) ⟨pb_blind, pw_recv hP hK cr_obj rfl, pb_pre hP hK⟩ rfl rfl hl.1 rfl (lv_room (Nat.le_of_ble_eq_true rfl)) dX5_take_260 ⟨Nat.le_of_ble_eq_true rfl, Nat.le_of_ble_eq_true rfl⟩) hS (fun _ _ h => h) (fun _ h => h) (fun u t H locs ht hvm hw hB hz1 hk1 hS => ?_)
      have hP := hB
      rw [ht] at hP
      refine W.cs (cells' := 0) (slots' := 0) rfl rfl ?_
      refine lv_iload_n hx hb dX5_take_263 rfl (lv_at hl 3 rfl) ?_
      have eF : F_take σ g n = (0, (noted (st (st σ 2 j 2000000000) 28 0 ((σ 28 0) + 1)) j)) := by rw [F_take, if_pos hnum, hgx]; show (how σ j n, noted (tookC (tookG σ j n (how σ j n)) (how σ j n)) j) = _; rw [hh]; rfl
      exact W.iret (v := 0) hx hb hr (fun t ht hW => ⟨⟨_, (), rfl, (by rw [eF]), by dsimp only; rw [ht]; exact (by rw [eF]; exact hP)⟩, hS.F ht⟩) hS.2.2 dX5_take_264
    · rw [hh] at hl
      refine lv_iload_n hx hb dX5_take_120 rfl (lv_at hl 3 rfl) ?_
      refine lv_if_ne (x := 1) (tgt := 145) hx hb dX5_take_121 (by decide) (fun c121 => ?_) (fun c => absurd c (by decide))
      refine lv_iload_n hx hb dX5_take_145 rfl (lv_at hl 3 rfl) ?_
      refine lv_iconst (v := 1) hx hb dX5_take_146 (by decide) ?_
      refine lv_icmp_ne (x := 1) (y := 1) (tgt := 163) hx hb dX5_take_147 (by decide) (fun c => absurd (by decide) c) (fun c147 => ?_)
      refine lv_aload_n hx hb dX5_take_150 rfl (lv_at hl 0 rfl) ?_
      refine lv_dup hx hb dX5_take_151 rfl ?_
      refine rf_get (v := .int (σ 27 0)) hx hb hts hiX5 hown hK hP 27 (by decide) (by decide +kernel) rfl rfl dX5_take_152 ?_
      refine lv_iconst (v := 1) hx hb dX5_take_155 (by decide) ?_
      refine lv_iadd hx hb dX5_take_156 ?_
      refine rf_put hx hb hts hiX5 hown hK hP hS 27 (by decide) (by decide +kernel) rfl rfl (by decide +kernel) dX5_take_157 (fun H locs hP hz hS => ?_)
      refine lv_goto (tgt := 258) hx hb dX5_take_160 (by decide) ?_
      refine lv_aload_n hx hb dX5_take_258 rfl (lv_at hl 0 rfl) ?_
      refine lv_iload_n hx hb dX5_take_259 rfl (lv_at hl 1 rfl) ?_
      refine va_callv (va_runV (As := [.int g]) (rest := []) ⟨hx, hb, hml, hown, hts⟩ (c_X5_noted l D cy A α (st σ 27 0 ((σ 27 0) + 1)) g j hg hj) (cwV 1 hts gX5_take_X5_noted rfl rfl rfl (by decide +kernel) ⟨Nat.le_of_ble_eq_true rfl, Nat.le_of_ble_eq_true rfl⟩) ⟨pb_blind, pw_recv hP hK cr_obj rfl, pb_pre hP hK⟩ rfl rfl hl.1 rfl (lv_room (Nat.le_of_ble_eq_true rfl)) dX5_take_260 ⟨Nat.le_of_ble_eq_true rfl, Nat.le_of_ble_eq_true rfl⟩) hS (fun _ _ h => h) (fun _ h => h) (fun u t H locs ht hvm hw hB hz1 hk1 hS => ?_)
      have hP := hB
      rw [ht] at hP
      refine W.cs (cells' := 0) (slots' := 0) rfl rfl ?_
      refine lv_iload_n hx hb dX5_take_263 rfl (lv_at hl 3 rfl) ?_
      have eF : F_take σ g n = (1, (noted (st σ 27 0 ((σ 27 0) + 1)) j)) := by rw [F_take, if_pos hnum, hgx]; show (how σ j n, noted (tookC (tookG σ j n (how σ j n)) (how σ j n)) j) = _; rw [hh]; rfl
      exact W.iret (v := 1) hx hb hr (fun t ht hW => ⟨⟨_, (), rfl, (by rw [eF]), by dsimp only; rw [ht]; exact (by rw [eF]; exact hP)⟩, hS.F ht⟩) hS.2.2 dX5_take_264
    · rw [hh] at hl
      refine lv_iload_n hx hb dX5_take_120 rfl (lv_at hl 3 rfl) ?_
      refine lv_if_ne (x := 2) (tgt := 145) hx hb dX5_take_121 (by decide) (fun c121 => ?_) (fun c => absurd c (by decide))
      refine lv_iload_n hx hb dX5_take_145 rfl (lv_at hl 3 rfl) ?_
      refine lv_iconst (v := 1) hx hb dX5_take_146 (by decide) ?_
      refine lv_icmp_ne (x := 2) (y := 1) (tgt := 163) hx hb dX5_take_147 (by decide) (fun c147 => ?_) (fun c => absurd c (by decide))
      refine lv_aload_n hx hb dX5_take_163 rfl (lv_at hl 0 rfl) ?_
      refine rf_get (v := .ref (α 3 0)) hx hb hts hiX5 hown hK hP 2 (by decide) (by decide +kernel) rfl rfl dX5_take_164 ?_
      refine lv_iload_n hx hb dX5_take_167 rfl (lv_at hl 1 rfl) ?_
      refine lv_iload_n hx hb dX5_take_168 rfl (lv_at hl 2 rfl) ?_
      refine rf_iast hx hb hK hP hS 2 (by decide) rfl j hg hj dX5_take_169 (fun H locs hP hz hS => ?_)
      refine lv_aload_n hx hb dX5_take_170 rfl (lv_at hl 0 rfl) ?_
      refine rf_get (v := .ref (α 7 0)) hx hb hts hiX5 hown hK hP 6 (by decide) (by decide +kernel) rfl rfl dX5_take_171 ?_
      refine lv_iload_n hx hb dX5_take_174 rfl (lv_at hl 1 rfl) ?_
      refine rf_iald hx hb hK hP 6 (by decide) rfl j hg hj dX5_take_175 ?_
      refine lv_ldc hx hb hown (hts (.constant RX5 103 (2000000000)) (by decide +kernel)) dX5_take_176 ?_
      refine lv_icmp_eq (x := (σ 6 j)) (y := 2000000000) (tgt := 202) hx hb dX5_take_178 (by decide) (fun c178 => ?_) (fun c178 => ?_)
      · refine lv_aload_n hx hb dX5_take_202 rfl (lv_at hl 0 rfl) ?_
        refine rf_get (v := .ref (α 7 0)) hx hb hts hiX5 hown hK hP 6 (by decide) (by decide +kernel) rfl rfl dX5_take_203 ?_
        refine lv_iload_n hx hb dX5_take_206 rfl (lv_at hl 1 rfl) ?_
        refine lv_iload_n hx hb dX5_take_207 rfl (lv_at hl 2 rfl) ?_
        refine rf_iast hx hb hK hP hS 6 (by decide) rfl j hg hj dX5_take_208 (fun H locs hP hz hS => ?_)
        refine lv_aload_n hx hb dX5_take_209 rfl (lv_at hl 0 rfl) ?_
        refine rf_get (v := .ref (α 8 0)) hx hb hts hiX5 hown hK hP 7 (by decide) (by decide +kernel) rfl rfl dX5_take_210 ?_
        refine lv_iload_n hx hb dX5_take_213 rfl (lv_at hl 1 rfl) ?_
        refine rf_iald hx hb hK hP 7 (by decide) rfl j hg hj dX5_take_214 ?_
        refine lv_ldc hx hb hown (hts (.constant RX5 103 (2000000000)) (by decide +kernel)) dX5_take_215 ?_
        refine lv_icmp_eq (x := (σ 7 j)) (y := 2000000000) (tgt := 241) hx hb dX5_take_217 (by decide) (fun c217 => ?_) (fun c217 => ?_)
        · refine lv_aload_n hx hb dX5_take_241 rfl (lv_at hl 0 rfl) ?_
          refine rf_get (v := .ref (α 8 0)) hx hb hts hiX5 hown hK hP 7 (by decide) (by decide +kernel) rfl rfl dX5_take_242 ?_
          refine lv_iload_n hx hb dX5_take_245 rfl (lv_at hl 1 rfl) ?_
          refine lv_iload_n hx hb dX5_take_246 rfl (lv_at hl 2 rfl) ?_
          refine rf_iast hx hb hK hP hS 7 (by decide) rfl j hg hj dX5_take_247 (fun H locs hP hz hS => ?_)
          refine lv_aload_n hx hb dX5_take_248 rfl (lv_at hl 0 rfl) ?_
          refine lv_dup hx hb dX5_take_249 rfl ?_
          refine rf_get (v := .int (σ 26 0)) hx hb hts hiX5 hown hK hP 26 (by decide) (by decide +kernel) rfl rfl dX5_take_250 ?_
          refine lv_iconst (v := 1) hx hb dX5_take_253 (by decide) ?_
          refine lv_iadd hx hb dX5_take_254 ?_
          refine rf_put hx hb hts hiX5 hown hK hP hS 26 (by decide) (by decide +kernel) rfl rfl (by decide +kernel) dX5_take_255 (fun H locs hP hz hS => ?_)
          refine lv_aload_n hx hb dX5_take_258 rfl (lv_at hl 0 rfl) ?_
          refine lv_iload_n hx hb dX5_take_259 rfl (lv_at hl 1 rfl) ?_
          refine va_callv (va_runV (As := [.int g]) (rest := []) ⟨hx, hb, hml, hown, hts⟩ (c_X5_noted l D cy A α (st (st (st (st σ 2 j n) 6 j n) 7 j n) 26 0 ((σ 26 0) + 1)) g j hg hj) (cwV 1 hts gX5_take_X5_noted rfl rfl rfl (by decide +kernel) ⟨Nat.le_of_ble_eq_true rfl, Nat.le_of_ble_eq_true rfl⟩) ⟨pb_blind, pw_recv hP hK cr_obj rfl, pb_pre hP hK⟩ rfl rfl hl.1 rfl (lv_room (Nat.le_of_ble_eq_true rfl)) dX5_take_260 ⟨Nat.le_of_ble_eq_true rfl, Nat.le_of_ble_eq_true rfl⟩) hS (fun _ _ h => h) (fun _ h => h) (fun u t H locs ht hvm hw hB hz1 hk1 hS => ?_)
          have hP := hB
          rw [ht] at hP
          refine W.cs (cells' := 0) (slots' := 0) rfl rfl ?_
          refine lv_iload_n hx hb dX5_take_263 rfl (lv_at hl 3 rfl) ?_
          have eF : F_take σ g n = (2, (noted (st (st (st (st σ 2 j n) 6 j n) 7 j n) 26 0 ((σ 26 0) + 1)) j)) := by rw [F_take, if_pos hnum, hgx]; show (how σ j n, noted (tookC (tookG σ j n (how σ j n)) (how σ j n)) j) = _; rw [hh]; rw [show tookG σ j n 2 = mk7 (mk6 (st σ 2 j n) j n) j n from rfl, show mk6 (st σ 2 j n) j n = st (st σ 2 j n) 6 j n from if_pos (Or.inl c178), show mk7 (st (st σ 2 j n) 6 j n) j n = st (st (st σ 2 j n) 6 j n) 7 j n from if_pos (Or.inl c217)]; rfl
          exact W.iret (v := 2) hx hb hr (fun t ht hW => ⟨⟨_, (), rfl, (by rw [eF]), by dsimp only; rw [ht]; exact (by rw [eF]; exact hP)⟩, hS.F ht⟩) hS.2.2 dX5_take_264
        · refine lv_aload_n hx hb dX5_take_220 rfl (lv_at hl 0 rfl) ?_
          refine lv_iload_n hx hb dX5_take_221 rfl (lv_at hl 1 rfl) ?_
          refine lv_iload_n hx hb dX5_take_222 rfl (lv_at hl 2 rfl) ?_
          refine vp_callSd (W.runV (As := [.int g, .int n]) (rest := []) ⟨hx, hb, hml, hown, hts⟩ (c_X5_value l D cy A α (st (st σ 2 j n) 6 j n) g j n hg hj) (cwV 2 hts gX5_take_X5_value rfl rfl rfl (by decide +kernel) ⟨Nat.le_of_ble_eq_true rfl, Nat.le_of_ble_eq_true rfl⟩) ⟨pb_blind, pw_recv hP hK cr_obj rfl, pb_pre hP hK⟩ rfl rfl hl.1 rfl (lv_room (Nat.le_of_ble_eq_true rfl)) dX5_take_223 ⟨Nat.le_of_ble_eq_true rfl, Nat.le_of_ble_eq_true rfl⟩) (fun r hw => ?_)
          subst hw
          refine lv_aload_n hx hb dX5_take_226 rfl (lv_at hl 0 rfl) ?_
          refine lv_iload_n hx hb dX5_take_227 rfl (lv_at hl 1 rfl) ?_
          refine lv_aload_n hx hb dX5_take_228 rfl (lv_at hl 0 rfl) ?_
          refine rf_get (v := .ref (α 8 0)) hx hb hts hiX5 hown hK hP 7 (by decide) (by decide +kernel) rfl rfl dX5_take_229 ?_
          refine lv_iload_n hx hb dX5_take_232 rfl (lv_at hl 1 rfl) ?_
          refine rf_iald hx hb hK hP 7 (by decide) rfl j hg hj dX5_take_233 ?_
          refine vp_callSd (W.runV (As := [.int g, .int (σ 7 j)]) (rest := [.double (vl ((st (st σ 2 j n) 6 j n) 1 j) n)]) ⟨hx, hb, hml, hown, hts⟩ (c_X5_value l D cy A α (st (st σ 2 j n) 6 j n) g j (σ 7 j) hg hj) (cwV 2 hts gX5_take_X5_value rfl rfl rfl (by decide +kernel) ⟨Nat.le_of_ble_eq_true rfl, Nat.le_of_ble_eq_true rfl⟩) ⟨pb_blind, pw_recv hP hK cr_obj rfl, pb_pre hP hK⟩ rfl rfl hl.1 rfl (lv_room (Nat.le_of_ble_eq_true rfl)) dX5_take_234 ⟨Nat.le_of_ble_eq_true rfl, Nat.le_of_ble_eq_true rfl⟩) (fun r hw => ?_)
          subst hw
          refine lv_dcmp hx hb dX5_take_237 ?_
          refine lv_if_ge (x := (Op.cmpValue (FP.dcmp (vl ((st (st σ 2 j n) 6 j n) 1 j) n) (vl ((st (st σ 2 j n) 6 j n) 1 j) (σ 7 j))) CmpOp.g)) (tgt := 248) hx hb dX5_take_238 (by decide) (fun c238 => ?_) (fun c238 => ?_)
          · rw [cvg_ge] at c238
            refine lv_aload_n hx hb dX5_take_248 rfl (lv_at hl 0 rfl) ?_
            refine lv_dup hx hb dX5_take_249 rfl ?_
            refine rf_get (v := .int (σ 26 0)) hx hb hts hiX5 hown hK hP 26 (by decide) (by decide +kernel) rfl rfl dX5_take_250 ?_
            refine lv_iconst (v := 1) hx hb dX5_take_253 (by decide) ?_
            refine lv_iadd hx hb dX5_take_254 ?_
            refine rf_put hx hb hts hiX5 hown hK hP hS 26 (by decide) (by decide +kernel) rfl rfl (by decide +kernel) dX5_take_255 (fun H locs hP hz hS => ?_)
            refine lv_aload_n hx hb dX5_take_258 rfl (lv_at hl 0 rfl) ?_
            refine lv_iload_n hx hb dX5_take_259 rfl (lv_at hl 1 rfl) ?_
            refine va_callv (va_runV (As := [.int g]) (rest := []) ⟨hx, hb, hml, hown, hts⟩ (c_X5_noted l D cy A α (st (st (st σ 2 j n) 6 j n) 26 0 ((σ 26 0) + 1)) g j hg hj) (cwV 1 hts gX5_take_X5_noted rfl rfl rfl (by decide +kernel) ⟨Nat.le_of_ble_eq_true rfl, Nat.le_of_ble_eq_true rfl⟩) ⟨pb_blind, pw_recv hP hK cr_obj rfl, pb_pre hP hK⟩ rfl rfl hl.1 rfl (lv_room (Nat.le_of_ble_eq_true rfl)) dX5_take_260 ⟨Nat.le_of_ble_eq_true rfl, Nat.le_of_ble_eq_true rfl⟩) hS (fun _ _ h => h) (fun _ h => h) (fun u t H locs ht hvm hw hB hz1 hk1 hS => ?_)
            have hP := hB
            rw [ht] at hP
            refine W.cs (cells' := 0) (slots' := 0) rfl rfl ?_
            refine lv_iload_n hx hb dX5_take_263 rfl (lv_at hl 3 rfl) ?_
            have eF : F_take σ g n = (2, (noted (st (st (st σ 2 j n) 6 j n) 26 0 ((σ 26 0) + 1)) j)) := by rw [F_take, if_pos hnum, hgx]; show (how σ j n, noted (tookC (tookG σ j n (how σ j n)) (how σ j n)) j) = _; rw [hh]; rw [show tookG σ j n 2 = mk7 (mk6 (st σ 2 j n) j n) j n from rfl, show mk6 (st σ 2 j n) j n = st (st σ 2 j n) 6 j n from if_pos (Or.inl c178), show mk7 (st (st σ 2 j n) 6 j n) j n = st (st σ 2 j n) 6 j n from if_neg (fun q => q.elim c217 c238)]; rfl
            exact W.iret (v := 2) hx hb hr (fun t ht hW => ⟨⟨_, (), rfl, (by rw [eF]), by dsimp only; rw [ht]; exact (by rw [eF]; exact hP)⟩, hS.F ht⟩) hS.2.2 dX5_take_264
          · rw [cvg_ge] at c238
            refine lv_aload_n hx hb dX5_take_241 rfl (lv_at hl 0 rfl) ?_
            refine rf_get (v := .ref (α 8 0)) hx hb hts hiX5 hown hK hP 7 (by decide) (by decide +kernel) rfl rfl dX5_take_242 ?_
            refine lv_iload_n hx hb dX5_take_245 rfl (lv_at hl 1 rfl) ?_
            refine lv_iload_n hx hb dX5_take_246 rfl (lv_at hl 2 rfl) ?_
            refine rf_iast hx hb hK hP hS 7 (by decide) rfl j hg hj dX5_take_247 (fun H locs hP hz hS => ?_)
            refine lv_aload_n hx hb dX5_take_248 rfl (lv_at hl 0 rfl) ?_
            refine lv_dup hx hb dX5_take_249 rfl ?_
            refine rf_get (v := .int (σ 26 0)) hx hb hts hiX5 hown hK hP 26 (by decide) (by decide +kernel) rfl rfl dX5_take_250 ?_
            refine lv_iconst (v := 1) hx hb dX5_take_253 (by decide) ?_
            refine lv_iadd hx hb dX5_take_254 ?_
            refine rf_put hx hb hts hiX5 hown hK hP hS 26 (by decide) (by decide +kernel) rfl rfl (by decide +kernel) dX5_take_255 (fun H locs hP hz hS => ?_)
            refine lv_aload_n hx hb dX5_take_258 rfl (lv_at hl 0 rfl) ?_
            refine lv_iload_n hx hb dX5_take_259 rfl (lv_at hl 1 rfl) ?_
            refine va_callv (va_runV (As := [.int g]) (rest := []) ⟨hx, hb, hml, hown, hts⟩ (c_X5_noted l D cy A α (st (st (st (st σ 2 j n) 6 j n) 7 j n) 26 0 ((σ 26 0) + 1)) g j hg hj) (cwV 1 hts gX5_take_X5_noted rfl rfl rfl (by decide +kernel) ⟨Nat.le_of_ble_eq_true rfl, Nat.le_of_ble_eq_true rfl⟩) ⟨pb_blind, pw_recv hP hK cr_obj rfl, pb_pre hP hK⟩ rfl rfl hl.1 rfl (lv_room (Nat.le_of_ble_eq_true rfl)) dX5_take_260 ⟨Nat.le_of_ble_eq_true rfl, Nat.le_of_ble_eq_true rfl⟩) hS (fun _ _ h => h) (fun _ h => h) (fun u t H locs ht hvm hw hB hz1 hk1 hS => ?_)
            have hP := hB
            rw [ht] at hP
            refine W.cs (cells' := 0) (slots' := 0) rfl rfl ?_
            refine lv_iload_n hx hb dX5_take_263 rfl (lv_at hl 3 rfl) ?_
            have eF : F_take σ g n = (2, (noted (st (st (st (st σ 2 j n) 6 j n) 7 j n) 26 0 ((σ 26 0) + 1)) j)) := by rw [F_take, if_pos hnum, hgx]; show (how σ j n, noted (tookC (tookG σ j n (how σ j n)) (how σ j n)) j) = _; rw [hh]; rw [show tookG σ j n 2 = mk7 (mk6 (st σ 2 j n) j n) j n from rfl, show mk6 (st σ 2 j n) j n = st (st σ 2 j n) 6 j n from if_pos (Or.inl c178), show mk7 (st (st σ 2 j n) 6 j n) j n = st (st (st σ 2 j n) 6 j n) 7 j n from if_pos (Or.inr (Classical.not_not.mp c238))]; rfl
            exact W.iret (v := 2) hx hb hr (fun t ht hW => ⟨⟨_, (), rfl, (by rw [eF]), by dsimp only; rw [ht]; exact (by rw [eF]; exact hP)⟩, hS.F ht⟩) hS.2.2 dX5_take_264
      · refine lv_aload_n hx hb dX5_take_181 rfl (lv_at hl 0 rfl) ?_
        refine lv_iload_n hx hb dX5_take_182 rfl (lv_at hl 1 rfl) ?_
        refine lv_iload_n hx hb dX5_take_183 rfl (lv_at hl 2 rfl) ?_
        refine vp_callSd (W.runV (As := [.int g, .int n]) (rest := []) ⟨hx, hb, hml, hown, hts⟩ (c_X5_value l D cy A α (st σ 2 j n) g j n hg hj) (cwV 2 hts gX5_take_X5_value rfl rfl rfl (by decide +kernel) ⟨Nat.le_of_ble_eq_true rfl, Nat.le_of_ble_eq_true rfl⟩) ⟨pb_blind, pw_recv hP hK cr_obj rfl, pb_pre hP hK⟩ rfl rfl hl.1 rfl (lv_room (Nat.le_of_ble_eq_true rfl)) dX5_take_184 ⟨Nat.le_of_ble_eq_true rfl, Nat.le_of_ble_eq_true rfl⟩) (fun r hw => ?_)
        subst hw
        refine lv_aload_n hx hb dX5_take_187 rfl (lv_at hl 0 rfl) ?_
        refine lv_iload_n hx hb dX5_take_188 rfl (lv_at hl 1 rfl) ?_
        refine lv_aload_n hx hb dX5_take_189 rfl (lv_at hl 0 rfl) ?_
        refine rf_get (v := .ref (α 7 0)) hx hb hts hiX5 hown hK hP 6 (by decide) (by decide +kernel) rfl rfl dX5_take_190 ?_
        refine lv_iload_n hx hb dX5_take_193 rfl (lv_at hl 1 rfl) ?_
        refine rf_iald hx hb hK hP 6 (by decide) rfl j hg hj dX5_take_194 ?_
        refine vp_callSd (W.runV (As := [.int g, .int (σ 6 j)]) (rest := [.double (vl ((st σ 2 j n) 1 j) n)]) ⟨hx, hb, hml, hown, hts⟩ (c_X5_value l D cy A α (st σ 2 j n) g j (σ 6 j) hg hj) (cwV 2 hts gX5_take_X5_value rfl rfl rfl (by decide +kernel) ⟨Nat.le_of_ble_eq_true rfl, Nat.le_of_ble_eq_true rfl⟩) ⟨pb_blind, pw_recv hP hK cr_obj rfl, pb_pre hP hK⟩ rfl rfl hl.1 rfl (lv_room (Nat.le_of_ble_eq_true rfl)) dX5_take_195 ⟨Nat.le_of_ble_eq_true rfl, Nat.le_of_ble_eq_true rfl⟩) (fun r hw => ?_)
        subst hw
        refine lv_dcmp hx hb dX5_take_198 ?_
        refine lv_if_le (x := (Op.cmpValue (FP.dcmp (vl ((st σ 2 j n) 1 j) n) (vl ((st σ 2 j n) 1 j) (σ 6 j))) CmpOp.l)) (tgt := 209) hx hb dX5_take_199 (by decide) (fun c199 => ?_) (fun c199 => ?_)
        · rw [cvl_le] at c199
          refine lv_aload_n hx hb dX5_take_209 rfl (lv_at hl 0 rfl) ?_
          refine rf_get (v := .ref (α 8 0)) hx hb hts hiX5 hown hK hP 7 (by decide) (by decide +kernel) rfl rfl dX5_take_210 ?_
          refine lv_iload_n hx hb dX5_take_213 rfl (lv_at hl 1 rfl) ?_
          refine rf_iald hx hb hK hP 7 (by decide) rfl j hg hj dX5_take_214 ?_
          refine lv_ldc hx hb hown (hts (.constant RX5 103 (2000000000)) (by decide +kernel)) dX5_take_215 ?_
          refine lv_icmp_eq (x := (σ 7 j)) (y := 2000000000) (tgt := 241) hx hb dX5_take_217 (by decide) (fun c217 => ?_) (fun c217 => ?_)
          · refine lv_aload_n hx hb dX5_take_241 rfl (lv_at hl 0 rfl) ?_
            refine rf_get (v := .ref (α 8 0)) hx hb hts hiX5 hown hK hP 7 (by decide) (by decide +kernel) rfl rfl dX5_take_242 ?_
            refine lv_iload_n hx hb dX5_take_245 rfl (lv_at hl 1 rfl) ?_
            refine lv_iload_n hx hb dX5_take_246 rfl (lv_at hl 2 rfl) ?_
            refine rf_iast hx hb hK hP hS 7 (by decide) rfl j hg hj dX5_take_247 (fun H locs hP hz hS => ?_)
            refine lv_aload_n hx hb dX5_take_248 rfl (lv_at hl 0 rfl) ?_
            refine lv_dup hx hb dX5_take_249 rfl ?_
            refine rf_get (v := .int (σ 26 0)) hx hb hts hiX5 hown hK hP 26 (by decide) (by decide +kernel) rfl rfl dX5_take_250 ?_
            refine lv_iconst (v := 1) hx hb dX5_take_253 (by decide) ?_
            refine lv_iadd hx hb dX5_take_254 ?_
            refine rf_put hx hb hts hiX5 hown hK hP hS 26 (by decide) (by decide +kernel) rfl rfl (by decide +kernel) dX5_take_255 (fun H locs hP hz hS => ?_)
            refine lv_aload_n hx hb dX5_take_258 rfl (lv_at hl 0 rfl) ?_
            refine lv_iload_n hx hb dX5_take_259 rfl (lv_at hl 1 rfl) ?_
            refine va_callv (va_runV (As := [.int g]) (rest := []) ⟨hx, hb, hml, hown, hts⟩ (c_X5_noted l D cy A α (st (st (st σ 2 j n) 7 j n) 26 0 ((σ 26 0) + 1)) g j hg hj) (cwV 1 hts gX5_take_X5_noted rfl rfl rfl (by decide +kernel) ⟨Nat.le_of_ble_eq_true rfl, Nat.le_of_ble_eq_true rfl⟩) ⟨pb_blind, pw_recv hP hK cr_obj rfl, pb_pre hP hK⟩ rfl rfl hl.1 rfl (lv_room (Nat.le_of_ble_eq_true rfl)) dX5_take_260 ⟨Nat.le_of_ble_eq_true rfl, Nat.le_of_ble_eq_true rfl⟩) hS (fun _ _ h => h) (fun _ h => h) (fun u t H locs ht hvm hw hB hz1 hk1 hS => ?_)
            have hP := hB
            rw [ht] at hP
            refine W.cs (cells' := 0) (slots' := 0) rfl rfl ?_
            refine lv_iload_n hx hb dX5_take_263 rfl (lv_at hl 3 rfl) ?_
            have eF : F_take σ g n = (2, (noted (st (st (st σ 2 j n) 7 j n) 26 0 ((σ 26 0) + 1)) j)) := by rw [F_take, if_pos hnum, hgx]; show (how σ j n, noted (tookC (tookG σ j n (how σ j n)) (how σ j n)) j) = _; rw [hh]; rw [show tookG σ j n 2 = mk7 (mk6 (st σ 2 j n) j n) j n from rfl, show mk6 (st σ 2 j n) j n = st σ 2 j n from if_neg (fun q => q.elim c178 c199), show mk7 (st σ 2 j n) j n = st (st σ 2 j n) 7 j n from if_pos (Or.inl c217)]; rfl
            exact W.iret (v := 2) hx hb hr (fun t ht hW => ⟨⟨_, (), rfl, (by rw [eF]), by dsimp only; rw [ht]; exact (by rw [eF]; exact hP)⟩, hS.F ht⟩) hS.2.2 dX5_take_264
          · refine lv_aload_n hx hb dX5_take_220 rfl (lv_at hl 0 rfl) ?_
            refine lv_iload_n hx hb dX5_take_221 rfl (lv_at hl 1 rfl) ?_
            refine lv_iload_n hx hb dX5_take_222 rfl (lv_at hl 2 rfl) ?_
            refine vp_callSd (W.runV (As := [.int g, .int n]) (rest := []) ⟨hx, hb, hml, hown, hts⟩ (c_X5_value l D cy A α (st σ 2 j n) g j n hg hj) (cwV 2 hts gX5_take_X5_value rfl rfl rfl (by decide +kernel) ⟨Nat.le_of_ble_eq_true rfl, Nat.le_of_ble_eq_true rfl⟩) ⟨pb_blind, pw_recv hP hK cr_obj rfl, pb_pre hP hK⟩ rfl rfl hl.1 rfl (lv_room (Nat.le_of_ble_eq_true rfl)) dX5_take_223 ⟨Nat.le_of_ble_eq_true rfl, Nat.le_of_ble_eq_true rfl⟩) (fun r hw => ?_)
            subst hw
            refine lv_aload_n hx hb dX5_take_226 rfl (lv_at hl 0 rfl) ?_
            refine lv_iload_n hx hb dX5_take_227 rfl (lv_at hl 1 rfl) ?_
            refine lv_aload_n hx hb dX5_take_228 rfl (lv_at hl 0 rfl) ?_
            refine rf_get (v := .ref (α 8 0)) hx hb hts hiX5 hown hK hP 7 (by decide) (by decide +kernel) rfl rfl dX5_take_229 ?_
            refine lv_iload_n hx hb dX5_take_232 rfl (lv_at hl 1 rfl) ?_
            refine rf_iald hx hb hK hP 7 (by decide) rfl j hg hj dX5_take_233 ?_
            refine vp_callSd (W.runV (As := [.int g, .int (σ 7 j)]) (rest := [.double (vl ((st σ 2 j n) 1 j) n)]) ⟨hx, hb, hml, hown, hts⟩ (c_X5_value l D cy A α (st σ 2 j n) g j (σ 7 j) hg hj) (cwV 2 hts gX5_take_X5_value rfl rfl rfl (by decide +kernel) ⟨Nat.le_of_ble_eq_true rfl, Nat.le_of_ble_eq_true rfl⟩) ⟨pb_blind, pw_recv hP hK cr_obj rfl, pb_pre hP hK⟩ rfl rfl hl.1 rfl (lv_room (Nat.le_of_ble_eq_true rfl)) dX5_take_234 ⟨Nat.le_of_ble_eq_true rfl, Nat.le_of_ble_eq_true rfl⟩) (fun r hw => ?_)
            subst hw
            refine lv_dcmp hx hb dX5_take_237 ?_
            refine lv_if_ge (x := (Op.cmpValue (FP.dcmp (vl ((st σ 2 j n) 1 j) n) (vl ((st σ 2 j n) 1 j) (σ 7 j))) CmpOp.g)) (tgt := 248) hx hb dX5_take_238 (by decide) (fun c238 => ?_) (fun c238 => ?_)
            · rw [cvg_ge] at c238
              refine lv_aload_n hx hb dX5_take_248 rfl (lv_at hl 0 rfl) ?_
              refine lv_dup hx hb dX5_take_249 rfl ?_
              refine rf_get (v := .int (σ 26 0)) hx hb hts hiX5 hown hK hP 26 (by decide) (by decide +kernel) rfl rfl dX5_take_250 ?_
              refine lv_iconst (v := 1) hx hb dX5_take_253 (by decide) ?_
              refine lv_iadd hx hb dX5_take_254 ?_
              refine rf_put hx hb hts hiX5 hown hK hP hS 26 (by decide) (by decide +kernel) rfl rfl (by decide +kernel) dX5_take_255 (fun H locs hP hz hS => ?_)
              refine lv_aload_n hx hb dX5_take_258 rfl (lv_at hl 0 rfl) ?_
              refine lv_iload_n hx hb dX5_take_259 rfl (lv_at hl 1 rfl) ?_
              refine va_callv (va_runV (As := [.int g]) (rest := []) ⟨hx, hb, hml, hown, hts⟩ (c_X5_noted l D cy A α (st (st σ 2 j n) 26 0 ((σ 26 0) + 1)) g j hg hj) (cwV 1 hts gX5_take_X5_noted rfl rfl rfl (by decide +kernel) ⟨Nat.le_of_ble_eq_true rfl, Nat.le_of_ble_eq_true rfl⟩) ⟨pb_blind, pw_recv hP hK cr_obj rfl, pb_pre hP hK⟩ rfl rfl hl.1 rfl (lv_room (Nat.le_of_ble_eq_true rfl)) dX5_take_260 ⟨Nat.le_of_ble_eq_true rfl, Nat.le_of_ble_eq_true rfl⟩) hS (fun _ _ h => h) (fun _ h => h) (fun u t H locs ht hvm hw hB hz1 hk1 hS => ?_)
              have hP := hB
              rw [ht] at hP
              refine W.cs (cells' := 0) (slots' := 0) rfl rfl ?_
              refine lv_iload_n hx hb dX5_take_263 rfl (lv_at hl 3 rfl) ?_
              have eF : F_take σ g n = (2, (noted (st (st σ 2 j n) 26 0 ((σ 26 0) + 1)) j)) := by rw [F_take, if_pos hnum, hgx]; show (how σ j n, noted (tookC (tookG σ j n (how σ j n)) (how σ j n)) j) = _; rw [hh]; rw [show tookG σ j n 2 = mk7 (mk6 (st σ 2 j n) j n) j n from rfl, show mk6 (st σ 2 j n) j n = st σ 2 j n from if_neg (fun q => q.elim c178 c199), show mk7 (st σ 2 j n) j n = st σ 2 j n from if_neg (fun q => q.elim c217 c238)]; rfl
              exact W.iret (v := 2) hx hb hr (fun t ht hW => ⟨⟨_, (), rfl, (by rw [eF]), by dsimp only; rw [ht]; exact (by rw [eF]; exact hP)⟩, hS.F ht⟩) hS.2.2 dX5_take_264
            · rw [cvg_ge] at c238
              refine lv_aload_n hx hb dX5_take_241 rfl (lv_at hl 0 rfl) ?_
              refine rf_get (v := .ref (α 8 0)) hx hb hts hiX5 hown hK hP 7 (by decide) (by decide +kernel) rfl rfl dX5_take_242 ?_
              refine lv_iload_n hx hb dX5_take_245 rfl (lv_at hl 1 rfl) ?_
              refine lv_iload_n hx hb dX5_take_246 rfl (lv_at hl 2 rfl) ?_
              refine rf_iast hx hb hK hP hS 7 (by decide) rfl j hg hj dX5_take_247 (fun H locs hP hz hS => ?_)
              refine lv_aload_n hx hb dX5_take_248 rfl (lv_at hl 0 rfl) ?_
              refine lv_dup hx hb dX5_take_249 rfl ?_
              refine rf_get (v := .int (σ 26 0)) hx hb hts hiX5 hown hK hP 26 (by decide) (by decide +kernel) rfl rfl dX5_take_250 ?_
              refine lv_iconst (v := 1) hx hb dX5_take_253 (by decide) ?_
              refine lv_iadd hx hb dX5_take_254 ?_
              refine rf_put hx hb hts hiX5 hown hK hP hS 26 (by decide) (by decide +kernel) rfl rfl (by decide +kernel) dX5_take_255 (fun H locs hP hz hS => ?_)
              refine lv_aload_n hx hb dX5_take_258 rfl (lv_at hl 0 rfl) ?_
              refine lv_iload_n hx hb dX5_take_259 rfl (lv_at hl 1 rfl) ?_
              refine va_callv (va_runV (As := [.int g]) (rest := []) ⟨hx, hb, hml, hown, hts⟩ (c_X5_noted l D cy A α (st (st (st σ 2 j n) 7 j n) 26 0 ((σ 26 0) + 1)) g j hg hj) (cwV 1 hts gX5_take_X5_noted rfl rfl rfl (by decide +kernel) ⟨Nat.le_of_ble_eq_true rfl, Nat.le_of_ble_eq_true rfl⟩) ⟨pb_blind, pw_recv hP hK cr_obj rfl, pb_pre hP hK⟩ rfl rfl hl.1 rfl (lv_room (Nat.le_of_ble_eq_true rfl)) dX5_take_260 ⟨Nat.le_of_ble_eq_true rfl, Nat.le_of_ble_eq_true rfl⟩) hS (fun _ _ h => h) (fun _ h => h) (fun u t H locs ht hvm hw hB hz1 hk1 hS => ?_)
              have hP := hB
              rw [ht] at hP
              refine W.cs (cells' := 0) (slots' := 0) rfl rfl ?_
              refine lv_iload_n hx hb dX5_take_263 rfl (lv_at hl 3 rfl) ?_
              have eF : F_take σ g n = (2, (noted (st (st (st σ 2 j n) 7 j n) 26 0 ((σ 26 0) + 1)) j)) := by rw [F_take, if_pos hnum, hgx]; show (how σ j n, noted (tookC (tookG σ j n (how σ j n)) (how σ j n)) j) = _; rw [hh]; rw [show tookG σ j n 2 = mk7 (mk6 (st σ 2 j n) j n) j n from rfl, show mk6 (st σ 2 j n) j n = st σ 2 j n from if_neg (fun q => q.elim c178 c199), show mk7 (st σ 2 j n) j n = st (st σ 2 j n) 7 j n from if_pos (Or.inr (Classical.not_not.mp c238))]; rfl
              exact W.iret (v := 2) hx hb hr (fun t ht hW => ⟨⟨_, (), rfl, (by rw [eF]), by dsimp only; rw [ht]; exact (by rw [eF]; exact hP)⟩, hS.F ht⟩) hS.2.2 dX5_take_264
        · rw [cvl_le] at c199
          refine lv_aload_n hx hb dX5_take_202 rfl (lv_at hl 0 rfl) ?_
          refine rf_get (v := .ref (α 7 0)) hx hb hts hiX5 hown hK hP 6 (by decide) (by decide +kernel) rfl rfl dX5_take_203 ?_
          refine lv_iload_n hx hb dX5_take_206 rfl (lv_at hl 1 rfl) ?_
          refine lv_iload_n hx hb dX5_take_207 rfl (lv_at hl 2 rfl) ?_
          refine rf_iast hx hb hK hP hS 6 (by decide) rfl j hg hj dX5_take_208 (fun H locs hP hz hS => ?_)
          refine lv_aload_n hx hb dX5_take_209 rfl (lv_at hl 0 rfl) ?_
          refine rf_get (v := .ref (α 8 0)) hx hb hts hiX5 hown hK hP 7 (by decide) (by decide +kernel) rfl rfl dX5_take_210 ?_
          refine lv_iload_n hx hb dX5_take_213 rfl (lv_at hl 1 rfl) ?_
          refine rf_iald hx hb hK hP 7 (by decide) rfl j hg hj dX5_take_214 ?_
          refine lv_ldc hx hb hown (hts (.constant RX5 103 (2000000000)) (by decide +kernel)) dX5_take_215 ?_
          refine lv_icmp_eq (x := (σ 7 j)) (y := 2000000000) (tgt := 241) hx hb dX5_take_217 (by decide) (fun c217 => ?_) (fun c217 => ?_)
          · refine lv_aload_n hx hb dX5_take_241 rfl (lv_at hl 0 rfl) ?_
            refine rf_get (v := .ref (α 8 0)) hx hb hts hiX5 hown hK hP 7 (by decide) (by decide +kernel) rfl rfl dX5_take_242 ?_
            refine lv_iload_n hx hb dX5_take_245 rfl (lv_at hl 1 rfl) ?_
            refine lv_iload_n hx hb dX5_take_246 rfl (lv_at hl 2 rfl) ?_
            refine rf_iast hx hb hK hP hS 7 (by decide) rfl j hg hj dX5_take_247 (fun H locs hP hz hS => ?_)
            refine lv_aload_n hx hb dX5_take_248 rfl (lv_at hl 0 rfl) ?_
            refine lv_dup hx hb dX5_take_249 rfl ?_
            refine rf_get (v := .int (σ 26 0)) hx hb hts hiX5 hown hK hP 26 (by decide) (by decide +kernel) rfl rfl dX5_take_250 ?_
            refine lv_iconst (v := 1) hx hb dX5_take_253 (by decide) ?_
            refine lv_iadd hx hb dX5_take_254 ?_
            refine rf_put hx hb hts hiX5 hown hK hP hS 26 (by decide) (by decide +kernel) rfl rfl (by decide +kernel) dX5_take_255 (fun H locs hP hz hS => ?_)
            refine lv_aload_n hx hb dX5_take_258 rfl (lv_at hl 0 rfl) ?_
            refine lv_iload_n hx hb dX5_take_259 rfl (lv_at hl 1 rfl) ?_
            refine va_callv (va_runV (As := [.int g]) (rest := []) ⟨hx, hb, hml, hown, hts⟩ (c_X5_noted l D cy A α (st (st (st (st σ 2 j n) 6 j n) 7 j n) 26 0 ((σ 26 0) + 1)) g j hg hj) (cwV 1 hts gX5_take_X5_noted rfl rfl rfl (by decide +kernel) ⟨Nat.le_of_ble_eq_true rfl, Nat.le_of_ble_eq_true rfl⟩) ⟨pb_blind, pw_recv hP hK cr_obj rfl, pb_pre hP hK⟩ rfl rfl hl.1 rfl (lv_room (Nat.le_of_ble_eq_true rfl)) dX5_take_260 ⟨Nat.le_of_ble_eq_true rfl, Nat.le_of_ble_eq_true rfl⟩) hS (fun _ _ h => h) (fun _ h => h) (fun u t H locs ht hvm hw hB hz1 hk1 hS => ?_)
            have hP := hB
            rw [ht] at hP
            refine W.cs (cells' := 0) (slots' := 0) rfl rfl ?_
            refine lv_iload_n hx hb dX5_take_263 rfl (lv_at hl 3 rfl) ?_
            have eF : F_take σ g n = (2, (noted (st (st (st (st σ 2 j n) 6 j n) 7 j n) 26 0 ((σ 26 0) + 1)) j)) := by rw [F_take, if_pos hnum, hgx]; show (how σ j n, noted (tookC (tookG σ j n (how σ j n)) (how σ j n)) j) = _; rw [hh]; rw [show tookG σ j n 2 = mk7 (mk6 (st σ 2 j n) j n) j n from rfl, show mk6 (st σ 2 j n) j n = st (st σ 2 j n) 6 j n from if_pos (Or.inr (Classical.not_not.mp c199)), show mk7 (st (st σ 2 j n) 6 j n) j n = st (st (st σ 2 j n) 6 j n) 7 j n from if_pos (Or.inl c217)]; rfl
            exact W.iret (v := 2) hx hb hr (fun t ht hW => ⟨⟨_, (), rfl, (by rw [eF]), by dsimp only; rw [ht]; exact (by rw [eF]; exact hP)⟩, hS.F ht⟩) hS.2.2 dX5_take_264
          · refine lv_aload_n hx hb dX5_take_220 rfl (lv_at hl 0 rfl) ?_
            refine lv_iload_n hx hb dX5_take_221 rfl (lv_at hl 1 rfl) ?_
            refine lv_iload_n hx hb dX5_take_222 rfl (lv_at hl 2 rfl) ?_
            refine vp_callSd (W.runV (As := [.int g, .int n]) (rest := []) ⟨hx, hb, hml, hown, hts⟩ (c_X5_value l D cy A α (st (st σ 2 j n) 6 j n) g j n hg hj) (cwV 2 hts gX5_take_X5_value rfl rfl rfl (by decide +kernel) ⟨Nat.le_of_ble_eq_true rfl, Nat.le_of_ble_eq_true rfl⟩) ⟨pb_blind, pw_recv hP hK cr_obj rfl, pb_pre hP hK⟩ rfl rfl hl.1 rfl (lv_room (Nat.le_of_ble_eq_true rfl)) dX5_take_223 ⟨Nat.le_of_ble_eq_true rfl, Nat.le_of_ble_eq_true rfl⟩) (fun r hw => ?_)
            subst hw
            refine lv_aload_n hx hb dX5_take_226 rfl (lv_at hl 0 rfl) ?_
            refine lv_iload_n hx hb dX5_take_227 rfl (lv_at hl 1 rfl) ?_
            refine lv_aload_n hx hb dX5_take_228 rfl (lv_at hl 0 rfl) ?_
            refine rf_get (v := .ref (α 8 0)) hx hb hts hiX5 hown hK hP 7 (by decide) (by decide +kernel) rfl rfl dX5_take_229 ?_
            refine lv_iload_n hx hb dX5_take_232 rfl (lv_at hl 1 rfl) ?_
            refine rf_iald hx hb hK hP 7 (by decide) rfl j hg hj dX5_take_233 ?_
            refine vp_callSd (W.runV (As := [.int g, .int (σ 7 j)]) (rest := [.double (vl ((st (st σ 2 j n) 6 j n) 1 j) n)]) ⟨hx, hb, hml, hown, hts⟩ (c_X5_value l D cy A α (st (st σ 2 j n) 6 j n) g j (σ 7 j) hg hj) (cwV 2 hts gX5_take_X5_value rfl rfl rfl (by decide +kernel) ⟨Nat.le_of_ble_eq_true rfl, Nat.le_of_ble_eq_true rfl⟩) ⟨pb_blind, pw_recv hP hK cr_obj rfl, pb_pre hP hK⟩ rfl rfl hl.1 rfl (lv_room (Nat.le_of_ble_eq_true rfl)) dX5_take_234 ⟨Nat.le_of_ble_eq_true rfl, Nat.le_of_ble_eq_true rfl⟩) (fun r hw => ?_)
            subst hw
            refine lv_dcmp hx hb dX5_take_237 ?_
            refine lv_if_ge (x := (Op.cmpValue (FP.dcmp (vl ((st (st σ 2 j n) 6 j n) 1 j) n) (vl ((st (st σ 2 j n) 6 j n) 1 j) (σ 7 j))) CmpOp.g)) (tgt := 248) hx hb dX5_take_238 (by decide) (fun c238 => ?_) (fun c238 => ?_)
            · rw [cvg_ge] at c238
              refine lv_aload_n hx hb dX5_take_248 rfl (lv_at hl 0 rfl) ?_
              refine lv_dup hx hb dX5_take_249 rfl ?_
              refine rf_get (v := .int (σ 26 0)) hx hb hts hiX5 hown hK hP 26 (by decide) (by decide +kernel) rfl rfl dX5_take_250 ?_
              refine lv_iconst (v := 1) hx hb dX5_take_253 (by decide) ?_
              refine lv_iadd hx hb dX5_take_254 ?_
              refine rf_put hx hb hts hiX5 hown hK hP hS 26 (by decide) (by decide +kernel) rfl rfl (by decide +kernel) dX5_take_255 (fun H locs hP hz hS => ?_)
              refine lv_aload_n hx hb dX5_take_258 rfl (lv_at hl 0 rfl) ?_
              refine lv_iload_n hx hb dX5_take_259 rfl (lv_at hl 1 rfl) ?_
              refine va_callv (va_runV (As := [.int g]) (rest := []) ⟨hx, hb, hml, hown, hts⟩ (c_X5_noted l D cy A α (st (st (st σ 2 j n) 6 j n) 26 0 ((σ 26 0) + 1)) g j hg hj) (cwV 1 hts gX5_take_X5_noted rfl rfl rfl (by decide +kernel) ⟨Nat.le_of_ble_eq_true rfl, Nat.le_of_ble_eq_true rfl⟩) ⟨pb_blind, pw_recv hP hK cr_obj rfl, pb_pre hP hK⟩ rfl rfl hl.1 rfl (lv_room (Nat.le_of_ble_eq_true rfl)) dX5_take_260 ⟨Nat.le_of_ble_eq_true rfl, Nat.le_of_ble_eq_true rfl⟩) hS (fun _ _ h => h) (fun _ h => h) (fun u t H locs ht hvm hw hB hz1 hk1 hS => ?_)
              have hP := hB
              rw [ht] at hP
              refine W.cs (cells' := 0) (slots' := 0) rfl rfl ?_
              refine lv_iload_n hx hb dX5_take_263 rfl (lv_at hl 3 rfl) ?_
              have eF : F_take σ g n = (2, (noted (st (st (st σ 2 j n) 6 j n) 26 0 ((σ 26 0) + 1)) j)) := by rw [F_take, if_pos hnum, hgx]; show (how σ j n, noted (tookC (tookG σ j n (how σ j n)) (how σ j n)) j) = _; rw [hh]; rw [show tookG σ j n 2 = mk7 (mk6 (st σ 2 j n) j n) j n from rfl, show mk6 (st σ 2 j n) j n = st (st σ 2 j n) 6 j n from if_pos (Or.inr (Classical.not_not.mp c199)), show mk7 (st (st σ 2 j n) 6 j n) j n = st (st σ 2 j n) 6 j n from if_neg (fun q => q.elim c217 c238)]; rfl
              exact W.iret (v := 2) hx hb hr (fun t ht hW => ⟨⟨_, (), rfl, (by rw [eF]), by dsimp only; rw [ht]; exact (by rw [eF]; exact hP)⟩, hS.F ht⟩) hS.2.2 dX5_take_264
            · rw [cvg_ge] at c238
              refine lv_aload_n hx hb dX5_take_241 rfl (lv_at hl 0 rfl) ?_
              refine rf_get (v := .ref (α 8 0)) hx hb hts hiX5 hown hK hP 7 (by decide) (by decide +kernel) rfl rfl dX5_take_242 ?_
              refine lv_iload_n hx hb dX5_take_245 rfl (lv_at hl 1 rfl) ?_
              refine lv_iload_n hx hb dX5_take_246 rfl (lv_at hl 2 rfl) ?_
              refine rf_iast hx hb hK hP hS 7 (by decide) rfl j hg hj dX5_take_247 (fun H locs hP hz hS => ?_)
              refine lv_aload_n hx hb dX5_take_248 rfl (lv_at hl 0 rfl) ?_
              refine lv_dup hx hb dX5_take_249 rfl ?_
              refine rf_get (v := .int (σ 26 0)) hx hb hts hiX5 hown hK hP 26 (by decide) (by decide +kernel) rfl rfl dX5_take_250 ?_
              refine lv_iconst (v := 1) hx hb dX5_take_253 (by decide) ?_
              refine lv_iadd hx hb dX5_take_254 ?_
              refine rf_put hx hb hts hiX5 hown hK hP hS 26 (by decide) (by decide +kernel) rfl rfl (by decide +kernel) dX5_take_255 (fun H locs hP hz hS => ?_)
              refine lv_aload_n hx hb dX5_take_258 rfl (lv_at hl 0 rfl) ?_
              refine lv_iload_n hx hb dX5_take_259 rfl (lv_at hl 1 rfl) ?_
              refine va_callv (va_runV (As := [.int g]) (rest := []) ⟨hx, hb, hml, hown, hts⟩ (c_X5_noted l D cy A α (st (st (st (st σ 2 j n) 6 j n) 7 j n) 26 0 ((σ 26 0) + 1)) g j hg hj) (cwV 1 hts gX5_take_X5_noted rfl rfl rfl (by decide +kernel) ⟨Nat.le_of_ble_eq_true rfl, Nat.le_of_ble_eq_true rfl⟩) ⟨pb_blind, pw_recv hP hK cr_obj rfl, pb_pre hP hK⟩ rfl rfl hl.1 rfl (lv_room (Nat.le_of_ble_eq_true rfl)) dX5_take_260 ⟨Nat.le_of_ble_eq_true rfl, Nat.le_of_ble_eq_true rfl⟩) hS (fun _ _ h => h) (fun _ h => h) (fun u t H locs ht hvm hw hB hz1 hk1 hS => ?_)
              have hP := hB
              rw [ht] at hP
              refine W.cs (cells' := 0) (slots' := 0) rfl rfl ?_
              refine lv_iload_n hx hb dX5_take_263 rfl (lv_at hl 3 rfl) ?_
              have eF : F_take σ g n = (2, (noted (st (st (st (st σ 2 j n) 6 j n) 7 j n) 26 0 ((σ 26 0) + 1)) j)) := by rw [F_take, if_pos hnum, hgx]; show (how σ j n, noted (tookC (tookG σ j n (how σ j n)) (how σ j n)) j) = _; rw [hh]; rw [show tookG σ j n 2 = mk7 (mk6 (st σ 2 j n) j n) j n from rfl, show mk6 (st σ 2 j n) j n = st (st σ 2 j n) 6 j n from if_pos (Or.inr (Classical.not_not.mp c199)), show mk7 (st (st σ 2 j n) 6 j n) j n = st (st (st σ 2 j n) 6 j n) 7 j n from if_pos (Or.inr (Classical.not_not.mp c238))]; rfl
              exact W.iret (v := 2) hx hb hr (fun t ht hW => ⟨⟨_, (), rfl, (by rw [eF]), by dsimp only; rw [ht]; exact (by rw [eF]; exact hP)⟩, hS.F ht⟩) hS.2.2 dX5_take_264
  refine lv_iload_n hx hb dX5_take_0 rfl (lv_at hl 2 rfl) ?_
  refine vp_callSi (W.runS (As := [.int n]) (rest := []) ⟨hx, hb, hml, hown, hts⟩ (c_X5_isNumber l n) (va_cwS 1 hts gX5_take_X5_isNumber rfl rfl rfl (by decide +kernel) ⟨Nat.le_of_ble_eq_true rfl, Nat.le_of_ble_eq_true rfl⟩) ⟨pt_blind, pt_pre⟩ rfl rfl hl.1 rfl (lv_room (Nat.le_of_ble_eq_true rfl)) dX5_take_1 ⟨Nat.le_of_ble_eq_true rfl, Nat.le_of_ble_eq_true rfl⟩) (fun r hw => ?_)
  rcases hw with ⟨rfl, h1⟩ | ⟨rfl, h1⟩
  · refine lv_if_ne (x := 1) (tgt := 10) hx hb dX5_take_4 (by decide) (fun c4 => ?_) (fun c => absurd c (by decide))
    refine lv_aload_n hx hb dX5_take_10 rfl (lv_at hl 0 rfl) ?_
    refine lv_iload_n hx hb dX5_take_11 rfl (lv_at hl 1 rfl) ?_
    refine vp_callSi (W.runV (As := [.int g]) (rest := []) ⟨hx, hb, hml, hown, hts⟩ (c_X5_isGauge l D cy A α σ g) (cwV 1 hts gX5_take_X5_isGauge rfl rfl rfl (by decide +kernel) ⟨Nat.le_of_ble_eq_true rfl, Nat.le_of_ble_eq_true rfl⟩) ⟨pb_blind, pw_recv hP hK cr_obj rfl, pb_pre hP hK⟩ rfl rfl hl.1 rfl (lv_room (Nat.le_of_ble_eq_true rfl)) dX5_take_12 ⟨Nat.le_of_ble_eq_true rfl, Nat.le_of_ble_eq_true rfl⟩) (fun r hw => ?_)
    rcases hw with ⟨rfl, j3, hx4, hj5, hg6, hm7⟩ | ⟨rfl, h2⟩
    · refine lv_if_ne (x := 1) (tgt := 21) hx hb dX5_take_15 (by decide) (fun c15 => ?_) (fun c => absurd c (by decide))
      refine lv_iconst (v := 2) hx hb dX5_take_21 (by decide) ?_
      refine lv_istore_n (lv' := [(3, .int 2), (0, .ref (α 0 0)), (1, .int g), (2, .int n)]) hx hb dX5_take_22 rfl hl (by decide) rfl (fun ls hl => ?_)
      refine lv_aload_n hx hb dX5_take_23 rfl (lv_at hl 1 rfl) ?_
      refine rf_get (v := .ref (α 4 0)) hx hb hts hiX5 hown hK hP 3 (by decide) (by decide +kernel) rfl rfl dX5_take_24 ?_
      refine lv_iload_n hx hb dX5_take_27 rfl (lv_at hl 2 rfl) ?_
      refine rf_iald hx hb hK hP 3 (by decide) rfl j3 hg6 hj5 dX5_take_28 ?_
      refine lv_ldc hx hb hown (hts (.constant RX5 103 (2000000000)) (by decide +kernel)) dX5_take_29 ?_
      refine lv_icmp_eq (x := (σ 3 j3)) (y := 2000000000) (tgt := 55) hx hb dX5_take_31 (by decide) (fun c31 => ?_) (fun c31 => ?_)
      · refine lv_aload_n hx hb dX5_take_55 rfl (lv_at hl 1 rfl) ?_
        refine rf_get (v := .ref (α 5 0)) hx hb hts hiX5 hown hK hP 4 (by decide) (by decide +kernel) rfl rfl dX5_take_56 ?_
        refine lv_iload_n hx hb dX5_take_59 rfl (lv_at hl 2 rfl) ?_
        refine rf_iald hx hb hK hP 4 (by decide) rfl j3 hg6 hj5 dX5_take_60 ?_
        refine lv_ldc hx hb hown (hts (.constant RX5 103 (2000000000)) (by decide +kernel)) dX5_take_61 ?_
        refine lv_icmp_eq (x := (σ 4 j3)) (y := 2000000000) (tgt := 92) hx hb dX5_take_63 (by decide) (fun c63 => ?_) (fun c63 => ?_)
        · refine lv_aload_n hx hb dX5_take_92 rfl (lv_at hl 1 rfl) ?_
          refine rf_get (v := .ref (α 3 0)) hx hb hts hiX5 hown hK hP 2 (by decide) (by decide +kernel) rfl rfl dX5_take_93 ?_
          refine lv_iload_n hx hb dX5_take_96 rfl (lv_at hl 2 rfl) ?_
          refine rf_iald hx hb hK hP 2 (by decide) rfl j3 hg6 hj5 dX5_take_97 ?_
          refine lv_ldc hx hb hown (hts (.constant RX5 103 (2000000000)) (by decide +kernel)) dX5_take_98 ?_
          refine lv_icmp_eq (x := (σ 2 j3)) (y := 2000000000) (tgt := 120) hx hb dX5_take_100 (by decide) (fun c100 => ?_) (fun c100 => ?_)
          · have e1 : how σ j3 n = 2 := how_2a (cut_no (num_gp h1) (Or.inl c31) (Or.inl c63)) c100
            rw [← e1] at hl
            exact K120 j3 hj5 hg6 hx4 h1 ls (lv_sub hl [1, 2, 3, 0] rfl) _ _ hP hS
          · refine lv_aload_n hx hb dX5_take_103 rfl (lv_at hl 1 rfl) ?_
            refine lv_iload_n hx hb dX5_take_104 rfl (lv_at hl 2 rfl) ?_
            refine lv_iload_n hx hb dX5_take_105 rfl (lv_at hl 3 rfl) ?_
            refine lv_aload_n hx hb dX5_take_106 rfl (lv_at hl 1 rfl) ?_
            refine rf_get (v := .ref (α 3 0)) hx hb hts hiX5 hown hK hP 2 (by decide) (by decide +kernel) rfl rfl dX5_take_107 ?_
            refine lv_iload_n hx hb dX5_take_110 rfl (lv_at hl 2 rfl) ?_
            refine rf_iald hx hb hK hP 2 (by decide) rfl j3 hg6 hj5 dX5_take_111 ?_
            refine vp_callSi (W.runV (As := [.int g, .int n, .int (σ 2 j3)]) (rest := []) ⟨hx, hb, hml, hown, hts⟩ (c_X5_isFar l D cy A α σ g j3 n (σ 2 j3) hg6 hj5) (cwV 3 hts gX5_take_X5_isFar rfl rfl rfl (by decide +kernel) ⟨Nat.le_of_ble_eq_true rfl, Nat.le_of_ble_eq_true rfl⟩) ⟨pb_blind, pw_recv hP hK cr_obj rfl, pb_pre hP hK⟩ rfl rfl hl.1 rfl (lv_room (Nat.le_of_ble_eq_true rfl)) dX5_take_112 ⟨Nat.le_of_ble_eq_true rfl, Nat.le_of_ble_eq_true rfl⟩) (fun r hw => ?_)
            rcases hw with ⟨rfl, h8⟩ | ⟨rfl, h8⟩
            · refine lv_if_ne (x := 1) (tgt := 120) hx hb dX5_take_115 (by decide) (fun c115 => ?_) (fun c => absurd c (by decide))
              have e1 : how σ j3 n = 2 := how_2b (cut_no (num_gp h1) (Or.inl c31) (Or.inl c63)) h8
              rw [← e1] at hl
              exact K120 j3 hj5 hg6 hx4 h1 ls (lv_sub hl [1, 2, 3, 0] rfl) _ _ hP hS
            · refine lv_if_ne (x := 0) (tgt := 120) hx hb dX5_take_115 (by decide) (fun c => absurd (by decide) c) (fun c115 => ?_)
              refine lv_iconst (v := 1) hx hb dX5_take_118 (by decide) ?_
              refine lv_istore_n (lv' := [(3, .int 1), (0, .ref (α 0 0)), (1, .int g), (2, .int n)]) hx hb dX5_take_119 rfl hl (by decide) rfl (fun ls hl => ?_)
              have e1 : how σ j3 n = 1 := how_1 (cut_no (num_gp h1) (Or.inl c31) (Or.inl c63)) c100 h8
              rw [← e1] at hl
              exact K120 j3 hj5 hg6 hx4 h1 ls (lv_sub hl [1, 2, 3, 0] rfl) _ _ hP hS
        · refine lv_aload_n hx hb dX5_take_66 rfl (lv_at hl 1 rfl) ?_
          refine lv_iload_n hx hb dX5_take_67 rfl (lv_at hl 2 rfl) ?_
          refine lv_iload_n hx hb dX5_take_68 rfl (lv_at hl 3 rfl) ?_
          refine vp_callSd (W.runV (As := [.int g, .int n]) (rest := []) ⟨hx, hb, hml, hown, hts⟩ (c_X5_value l D cy A α σ g j3 n hg6 hj5) (cwV 2 hts gX5_take_X5_value rfl rfl rfl (by decide +kernel) ⟨Nat.le_of_ble_eq_true rfl, Nat.le_of_ble_eq_true rfl⟩) ⟨pb_blind, pw_recv hP hK cr_obj rfl, pb_pre hP hK⟩ rfl rfl hl.1 rfl (lv_room (Nat.le_of_ble_eq_true rfl)) dX5_take_69 ⟨Nat.le_of_ble_eq_true rfl, Nat.le_of_ble_eq_true rfl⟩) (fun r hw => ?_)
          subst hw
          refine lv_aload_n hx hb dX5_take_72 rfl (lv_at hl 1 rfl) ?_
          refine lv_iload_n hx hb dX5_take_73 rfl (lv_at hl 2 rfl) ?_
          refine lv_aload_n hx hb dX5_take_74 rfl (lv_at hl 1 rfl) ?_
          refine rf_get (v := .ref (α 5 0)) hx hb hts hiX5 hown hK hP 4 (by decide) (by decide +kernel) rfl rfl dX5_take_75 ?_
          refine lv_iload_n hx hb dX5_take_78 rfl (lv_at hl 2 rfl) ?_
          refine rf_iald hx hb hK hP 4 (by decide) rfl j3 hg6 hj5 dX5_take_79 ?_
          refine vp_callSd (W.runV (As := [.int g, .int (σ 4 j3)]) (rest := [.double (vl (σ 1 j3) n)]) ⟨hx, hb, hml, hown, hts⟩ (c_X5_value l D cy A α σ g j3 (σ 4 j3) hg6 hj5) (cwV 2 hts gX5_take_X5_value rfl rfl rfl (by decide +kernel) ⟨Nat.le_of_ble_eq_true rfl, Nat.le_of_ble_eq_true rfl⟩) ⟨pb_blind, pw_recv hP hK cr_obj rfl, pb_pre hP hK⟩ rfl rfl hl.1 rfl (lv_room (Nat.le_of_ble_eq_true rfl)) dX5_take_80 ⟨Nat.le_of_ble_eq_true rfl, Nat.le_of_ble_eq_true rfl⟩) (fun r hw => ?_)
          subst hw
          refine lv_dcmp hx hb dX5_take_83 ?_
          refine lv_if_le (x := (Op.cmpValue (FP.dcmp (vl (σ 1 j3) n) (vl (σ 1 j3) (σ 4 j3))) CmpOp.l)) (tgt := 92) hx hb dX5_take_84 (by decide) (fun c84 => ?_) (fun c84 => ?_)
          · rw [cvl_le] at c84
            refine lv_aload_n hx hb dX5_take_92 rfl (lv_at hl 1 rfl) ?_
            refine rf_get (v := .ref (α 3 0)) hx hb hts hiX5 hown hK hP 2 (by decide) (by decide +kernel) rfl rfl dX5_take_93 ?_
            refine lv_iload_n hx hb dX5_take_96 rfl (lv_at hl 2 rfl) ?_
            refine rf_iald hx hb hK hP 2 (by decide) rfl j3 hg6 hj5 dX5_take_97 ?_
            refine lv_ldc hx hb hown (hts (.constant RX5 103 (2000000000)) (by decide +kernel)) dX5_take_98 ?_
            refine lv_icmp_eq (x := (σ 2 j3)) (y := 2000000000) (tgt := 120) hx hb dX5_take_100 (by decide) (fun c100 => ?_) (fun c100 => ?_)
            · have e1 : how σ j3 n = 2 := how_2a (cut_no (num_gp h1) (Or.inl c31) (Or.inr c84)) c100
              rw [← e1] at hl
              exact K120 j3 hj5 hg6 hx4 h1 ls (lv_sub hl [1, 2, 3, 0] rfl) _ _ hP hS
            · refine lv_aload_n hx hb dX5_take_103 rfl (lv_at hl 1 rfl) ?_
              refine lv_iload_n hx hb dX5_take_104 rfl (lv_at hl 2 rfl) ?_
              refine lv_iload_n hx hb dX5_take_105 rfl (lv_at hl 3 rfl) ?_
              refine lv_aload_n hx hb dX5_take_106 rfl (lv_at hl 1 rfl) ?_
              refine rf_get (v := .ref (α 3 0)) hx hb hts hiX5 hown hK hP 2 (by decide) (by decide +kernel) rfl rfl dX5_take_107 ?_
              refine lv_iload_n hx hb dX5_take_110 rfl (lv_at hl 2 rfl) ?_
              refine rf_iald hx hb hK hP 2 (by decide) rfl j3 hg6 hj5 dX5_take_111 ?_
              refine vp_callSi (W.runV (As := [.int g, .int n, .int (σ 2 j3)]) (rest := []) ⟨hx, hb, hml, hown, hts⟩ (c_X5_isFar l D cy A α σ g j3 n (σ 2 j3) hg6 hj5) (cwV 3 hts gX5_take_X5_isFar rfl rfl rfl (by decide +kernel) ⟨Nat.le_of_ble_eq_true rfl, Nat.le_of_ble_eq_true rfl⟩) ⟨pb_blind, pw_recv hP hK cr_obj rfl, pb_pre hP hK⟩ rfl rfl hl.1 rfl (lv_room (Nat.le_of_ble_eq_true rfl)) dX5_take_112 ⟨Nat.le_of_ble_eq_true rfl, Nat.le_of_ble_eq_true rfl⟩) (fun r hw => ?_)
              rcases hw with ⟨rfl, h9⟩ | ⟨rfl, h9⟩
              · refine lv_if_ne (x := 1) (tgt := 120) hx hb dX5_take_115 (by decide) (fun c115 => ?_) (fun c => absurd c (by decide))
                have e1 : how σ j3 n = 2 := how_2b (cut_no (num_gp h1) (Or.inl c31) (Or.inr c84)) h9
                rw [← e1] at hl
                exact K120 j3 hj5 hg6 hx4 h1 ls (lv_sub hl [1, 2, 3, 0] rfl) _ _ hP hS
              · refine lv_if_ne (x := 0) (tgt := 120) hx hb dX5_take_115 (by decide) (fun c => absurd (by decide) c) (fun c115 => ?_)
                refine lv_iconst (v := 1) hx hb dX5_take_118 (by decide) ?_
                refine lv_istore_n (lv' := [(3, .int 1), (0, .ref (α 0 0)), (1, .int g), (2, .int n)]) hx hb dX5_take_119 rfl hl (by decide) rfl (fun ls hl => ?_)
                have e1 : how σ j3 n = 1 := how_1 (cut_no (num_gp h1) (Or.inl c31) (Or.inr c84)) c100 h9
                rw [← e1] at hl
                exact K120 j3 hj5 hg6 hx4 h1 ls (lv_sub hl [1, 2, 3, 0] rfl) _ _ hP hS
          · rw [cvl_le] at c84
            refine lv_iconst (v := 0) hx hb dX5_take_87 (by decide) ?_
            refine lv_istore_n (lv' := [(3, .int 0), (0, .ref (α 0 0)), (1, .int g), (2, .int n)]) hx hb dX5_take_88 rfl hl (by decide) rfl (fun ls hl => ?_)
            refine lv_goto (tgt := 120) hx hb dX5_take_89 (by decide) ?_
            have e1 : how σ j3 n = 0 := how_0 (cut_hi (num_gp h1) c63 (Classical.not_not.mp c84))
            rw [← e1] at hl
            exact K120 j3 hj5 hg6 hx4 h1 ls (lv_sub hl [1, 2, 3, 0] rfl) _ _ hP hS
      · refine lv_aload_n hx hb dX5_take_34 rfl (lv_at hl 1 rfl) ?_
        refine lv_iload_n hx hb dX5_take_35 rfl (lv_at hl 2 rfl) ?_
        refine lv_iload_n hx hb dX5_take_36 rfl (lv_at hl 3 rfl) ?_
        refine vp_callSd (W.runV (As := [.int g, .int n]) (rest := []) ⟨hx, hb, hml, hown, hts⟩ (c_X5_value l D cy A α σ g j3 n hg6 hj5) (cwV 2 hts gX5_take_X5_value rfl rfl rfl (by decide +kernel) ⟨Nat.le_of_ble_eq_true rfl, Nat.le_of_ble_eq_true rfl⟩) ⟨pb_blind, pw_recv hP hK cr_obj rfl, pb_pre hP hK⟩ rfl rfl hl.1 rfl (lv_room (Nat.le_of_ble_eq_true rfl)) dX5_take_37 ⟨Nat.le_of_ble_eq_true rfl, Nat.le_of_ble_eq_true rfl⟩) (fun r hw => ?_)
        subst hw
        refine lv_aload_n hx hb dX5_take_40 rfl (lv_at hl 1 rfl) ?_
        refine lv_iload_n hx hb dX5_take_41 rfl (lv_at hl 2 rfl) ?_
        refine lv_aload_n hx hb dX5_take_42 rfl (lv_at hl 1 rfl) ?_
        refine rf_get (v := .ref (α 4 0)) hx hb hts hiX5 hown hK hP 3 (by decide) (by decide +kernel) rfl rfl dX5_take_43 ?_
        refine lv_iload_n hx hb dX5_take_46 rfl (lv_at hl 2 rfl) ?_
        refine rf_iald hx hb hK hP 3 (by decide) rfl j3 hg6 hj5 dX5_take_47 ?_
        refine vp_callSd (W.runV (As := [.int g, .int (σ 3 j3)]) (rest := [.double (vl (σ 1 j3) n)]) ⟨hx, hb, hml, hown, hts⟩ (c_X5_value l D cy A α σ g j3 (σ 3 j3) hg6 hj5) (cwV 2 hts gX5_take_X5_value rfl rfl rfl (by decide +kernel) ⟨Nat.le_of_ble_eq_true rfl, Nat.le_of_ble_eq_true rfl⟩) ⟨pb_blind, pw_recv hP hK cr_obj rfl, pb_pre hP hK⟩ rfl rfl hl.1 rfl (lv_room (Nat.le_of_ble_eq_true rfl)) dX5_take_48 ⟨Nat.le_of_ble_eq_true rfl, Nat.le_of_ble_eq_true rfl⟩) (fun r hw => ?_)
        subst hw
        refine lv_dcmp hx hb dX5_take_51 ?_
        refine lv_if_lt (x := (Op.cmpValue (FP.dcmp (vl (σ 1 j3) n) (vl (σ 1 j3) (σ 3 j3))) CmpOp.g)) (tgt := 87) hx hb dX5_take_52 (by decide) (fun c52 => ?_) (fun c52 => ?_)
        · rw [cvg_lt] at c52
          refine lv_iconst (v := 0) hx hb dX5_take_87 (by decide) ?_
          refine lv_istore_n (lv' := [(3, .int 0), (0, .ref (α 0 0)), (1, .int g), (2, .int n)]) hx hb dX5_take_88 rfl hl (by decide) rfl (fun ls hl => ?_)
          refine lv_goto (tgt := 120) hx hb dX5_take_89 (by decide) ?_
          have e1 : how σ j3 n = 0 := how_0 (cut_lo (num_gp h1) c31 c52)
          rw [← e1] at hl
          exact K120 j3 hj5 hg6 hx4 h1 ls (lv_sub hl [1, 2, 3, 0] rfl) _ _ hP hS
        · rw [cvg_lt] at c52
          refine lv_aload_n hx hb dX5_take_55 rfl (lv_at hl 1 rfl) ?_
          refine rf_get (v := .ref (α 5 0)) hx hb hts hiX5 hown hK hP 4 (by decide) (by decide +kernel) rfl rfl dX5_take_56 ?_
          refine lv_iload_n hx hb dX5_take_59 rfl (lv_at hl 2 rfl) ?_
          refine rf_iald hx hb hK hP 4 (by decide) rfl j3 hg6 hj5 dX5_take_60 ?_
          refine lv_ldc hx hb hown (hts (.constant RX5 103 (2000000000)) (by decide +kernel)) dX5_take_61 ?_
          refine lv_icmp_eq (x := (σ 4 j3)) (y := 2000000000) (tgt := 92) hx hb dX5_take_63 (by decide) (fun c63 => ?_) (fun c63 => ?_)
          · refine lv_aload_n hx hb dX5_take_92 rfl (lv_at hl 1 rfl) ?_
            refine rf_get (v := .ref (α 3 0)) hx hb hts hiX5 hown hK hP 2 (by decide) (by decide +kernel) rfl rfl dX5_take_93 ?_
            refine lv_iload_n hx hb dX5_take_96 rfl (lv_at hl 2 rfl) ?_
            refine rf_iald hx hb hK hP 2 (by decide) rfl j3 hg6 hj5 dX5_take_97 ?_
            refine lv_ldc hx hb hown (hts (.constant RX5 103 (2000000000)) (by decide +kernel)) dX5_take_98 ?_
            refine lv_icmp_eq (x := (σ 2 j3)) (y := 2000000000) (tgt := 120) hx hb dX5_take_100 (by decide) (fun c100 => ?_) (fun c100 => ?_)
            · have e1 : how σ j3 n = 2 := how_2a (cut_no (num_gp h1) (Or.inr c52) (Or.inl c63)) c100
              rw [← e1] at hl
              exact K120 j3 hj5 hg6 hx4 h1 ls (lv_sub hl [1, 2, 3, 0] rfl) _ _ hP hS
            · refine lv_aload_n hx hb dX5_take_103 rfl (lv_at hl 1 rfl) ?_
              refine lv_iload_n hx hb dX5_take_104 rfl (lv_at hl 2 rfl) ?_
              refine lv_iload_n hx hb dX5_take_105 rfl (lv_at hl 3 rfl) ?_
              refine lv_aload_n hx hb dX5_take_106 rfl (lv_at hl 1 rfl) ?_
              refine rf_get (v := .ref (α 3 0)) hx hb hts hiX5 hown hK hP 2 (by decide) (by decide +kernel) rfl rfl dX5_take_107 ?_
              refine lv_iload_n hx hb dX5_take_110 rfl (lv_at hl 2 rfl) ?_
              refine rf_iald hx hb hK hP 2 (by decide) rfl j3 hg6 hj5 dX5_take_111 ?_
              refine vp_callSi (W.runV (As := [.int g, .int n, .int (σ 2 j3)]) (rest := []) ⟨hx, hb, hml, hown, hts⟩ (c_X5_isFar l D cy A α σ g j3 n (σ 2 j3) hg6 hj5) (cwV 3 hts gX5_take_X5_isFar rfl rfl rfl (by decide +kernel) ⟨Nat.le_of_ble_eq_true rfl, Nat.le_of_ble_eq_true rfl⟩) ⟨pb_blind, pw_recv hP hK cr_obj rfl, pb_pre hP hK⟩ rfl rfl hl.1 rfl (lv_room (Nat.le_of_ble_eq_true rfl)) dX5_take_112 ⟨Nat.le_of_ble_eq_true rfl, Nat.le_of_ble_eq_true rfl⟩) (fun r hw => ?_)
              rcases hw with ⟨rfl, h10⟩ | ⟨rfl, h10⟩
              · refine lv_if_ne (x := 1) (tgt := 120) hx hb dX5_take_115 (by decide) (fun c115 => ?_) (fun c => absurd c (by decide))
                have e1 : how σ j3 n = 2 := how_2b (cut_no (num_gp h1) (Or.inr c52) (Or.inl c63)) h10
                rw [← e1] at hl
                exact K120 j3 hj5 hg6 hx4 h1 ls (lv_sub hl [1, 2, 3, 0] rfl) _ _ hP hS
              · refine lv_if_ne (x := 0) (tgt := 120) hx hb dX5_take_115 (by decide) (fun c => absurd (by decide) c) (fun c115 => ?_)
                refine lv_iconst (v := 1) hx hb dX5_take_118 (by decide) ?_
                refine lv_istore_n (lv' := [(3, .int 1), (0, .ref (α 0 0)), (1, .int g), (2, .int n)]) hx hb dX5_take_119 rfl hl (by decide) rfl (fun ls hl => ?_)
                have e1 : how σ j3 n = 1 := how_1 (cut_no (num_gp h1) (Or.inr c52) (Or.inl c63)) c100 h10
                rw [← e1] at hl
                exact K120 j3 hj5 hg6 hx4 h1 ls (lv_sub hl [1, 2, 3, 0] rfl) _ _ hP hS
          · refine lv_aload_n hx hb dX5_take_66 rfl (lv_at hl 1 rfl) ?_
            refine lv_iload_n hx hb dX5_take_67 rfl (lv_at hl 2 rfl) ?_
            refine lv_iload_n hx hb dX5_take_68 rfl (lv_at hl 3 rfl) ?_
            refine vp_callSd (W.runV (As := [.int g, .int n]) (rest := []) ⟨hx, hb, hml, hown, hts⟩ (c_X5_value l D cy A α σ g j3 n hg6 hj5) (cwV 2 hts gX5_take_X5_value rfl rfl rfl (by decide +kernel) ⟨Nat.le_of_ble_eq_true rfl, Nat.le_of_ble_eq_true rfl⟩) ⟨pb_blind, pw_recv hP hK cr_obj rfl, pb_pre hP hK⟩ rfl rfl hl.1 rfl (lv_room (Nat.le_of_ble_eq_true rfl)) dX5_take_69 ⟨Nat.le_of_ble_eq_true rfl, Nat.le_of_ble_eq_true rfl⟩) (fun r hw => ?_)
            subst hw
            refine lv_aload_n hx hb dX5_take_72 rfl (lv_at hl 1 rfl) ?_
            refine lv_iload_n hx hb dX5_take_73 rfl (lv_at hl 2 rfl) ?_
            refine lv_aload_n hx hb dX5_take_74 rfl (lv_at hl 1 rfl) ?_
            refine rf_get (v := .ref (α 5 0)) hx hb hts hiX5 hown hK hP 4 (by decide) (by decide +kernel) rfl rfl dX5_take_75 ?_
            refine lv_iload_n hx hb dX5_take_78 rfl (lv_at hl 2 rfl) ?_
            refine rf_iald hx hb hK hP 4 (by decide) rfl j3 hg6 hj5 dX5_take_79 ?_
            refine vp_callSd (W.runV (As := [.int g, .int (σ 4 j3)]) (rest := [.double (vl (σ 1 j3) n)]) ⟨hx, hb, hml, hown, hts⟩ (c_X5_value l D cy A α σ g j3 (σ 4 j3) hg6 hj5) (cwV 2 hts gX5_take_X5_value rfl rfl rfl (by decide +kernel) ⟨Nat.le_of_ble_eq_true rfl, Nat.le_of_ble_eq_true rfl⟩) ⟨pb_blind, pw_recv hP hK cr_obj rfl, pb_pre hP hK⟩ rfl rfl hl.1 rfl (lv_room (Nat.le_of_ble_eq_true rfl)) dX5_take_80 ⟨Nat.le_of_ble_eq_true rfl, Nat.le_of_ble_eq_true rfl⟩) (fun r hw => ?_)
            subst hw
            refine lv_dcmp hx hb dX5_take_83 ?_
            refine lv_if_le (x := (Op.cmpValue (FP.dcmp (vl (σ 1 j3) n) (vl (σ 1 j3) (σ 4 j3))) CmpOp.l)) (tgt := 92) hx hb dX5_take_84 (by decide) (fun c84 => ?_) (fun c84 => ?_)
            · rw [cvl_le] at c84
              refine lv_aload_n hx hb dX5_take_92 rfl (lv_at hl 1 rfl) ?_
              refine rf_get (v := .ref (α 3 0)) hx hb hts hiX5 hown hK hP 2 (by decide) (by decide +kernel) rfl rfl dX5_take_93 ?_
              refine lv_iload_n hx hb dX5_take_96 rfl (lv_at hl 2 rfl) ?_
              refine rf_iald hx hb hK hP 2 (by decide) rfl j3 hg6 hj5 dX5_take_97 ?_
              refine lv_ldc hx hb hown (hts (.constant RX5 103 (2000000000)) (by decide +kernel)) dX5_take_98 ?_
              refine lv_icmp_eq (x := (σ 2 j3)) (y := 2000000000) (tgt := 120) hx hb dX5_take_100 (by decide) (fun c100 => ?_) (fun c100 => ?_)
              · have e1 : how σ j3 n = 2 := how_2a (cut_no (num_gp h1) (Or.inr c52) (Or.inr c84)) c100
                rw [← e1] at hl
                exact K120 j3 hj5 hg6 hx4 h1 ls (lv_sub hl [1, 2, 3, 0] rfl) _ _ hP hS
              · refine lv_aload_n hx hb dX5_take_103 rfl (lv_at hl 1 rfl) ?_
                refine lv_iload_n hx hb dX5_take_104 rfl (lv_at hl 2 rfl) ?_
                refine lv_iload_n hx hb dX5_take_105 rfl (lv_at hl 3 rfl) ?_
                refine lv_aload_n hx hb dX5_take_106 rfl (lv_at hl 1 rfl) ?_
                refine rf_get (v := .ref (α 3 0)) hx hb hts hiX5 hown hK hP 2 (by decide) (by decide +kernel) rfl rfl dX5_take_107 ?_
                refine lv_iload_n hx hb dX5_take_110 rfl (lv_at hl 2 rfl) ?_
                refine rf_iald hx hb hK hP 2 (by decide) rfl j3 hg6 hj5 dX5_take_111 ?_
                refine vp_callSi (W.runV (As := [.int g, .int n, .int (σ 2 j3)]) (rest := []) ⟨hx, hb, hml, hown, hts⟩ (c_X5_isFar l D cy A α σ g j3 n (σ 2 j3) hg6 hj5) (cwV 3 hts gX5_take_X5_isFar rfl rfl rfl (by decide +kernel) ⟨Nat.le_of_ble_eq_true rfl, Nat.le_of_ble_eq_true rfl⟩) ⟨pb_blind, pw_recv hP hK cr_obj rfl, pb_pre hP hK⟩ rfl rfl hl.1 rfl (lv_room (Nat.le_of_ble_eq_true rfl)) dX5_take_112 ⟨Nat.le_of_ble_eq_true rfl, Nat.le_of_ble_eq_true rfl⟩) (fun r hw => ?_)
                rcases hw with ⟨rfl, h11⟩ | ⟨rfl, h11⟩
                · refine lv_if_ne (x := 1) (tgt := 120) hx hb dX5_take_115 (by decide) (fun c115 => ?_) (fun c => absurd c (by decide))
                  have e1 : how σ j3 n = 2 := how_2b (cut_no (num_gp h1) (Or.inr c52) (Or.inr c84)) h11
                  rw [← e1] at hl
                  exact K120 j3 hj5 hg6 hx4 h1 ls (lv_sub hl [1, 2, 3, 0] rfl) _ _ hP hS
                · refine lv_if_ne (x := 0) (tgt := 120) hx hb dX5_take_115 (by decide) (fun c => absurd (by decide) c) (fun c115 => ?_)
                  refine lv_iconst (v := 1) hx hb dX5_take_118 (by decide) ?_
                  refine lv_istore_n (lv' := [(3, .int 1), (0, .ref (α 0 0)), (1, .int g), (2, .int n)]) hx hb dX5_take_119 rfl hl (by decide) rfl (fun ls hl => ?_)
                  have e1 : how σ j3 n = 1 := how_1 (cut_no (num_gp h1) (Or.inr c52) (Or.inr c84)) c100 h11
                  rw [← e1] at hl
                  exact K120 j3 hj5 hg6 hx4 h1 ls (lv_sub hl [1, 2, 3, 0] rfl) _ _ hP hS
            · rw [cvl_le] at c84
              refine lv_iconst (v := 0) hx hb dX5_take_87 (by decide) ?_
              refine lv_istore_n (lv' := [(3, .int 0), (0, .ref (α 0 0)), (1, .int g), (2, .int n)]) hx hb dX5_take_88 rfl hl (by decide) rfl (fun ls hl => ?_)
              refine lv_goto (tgt := 120) hx hb dX5_take_89 (by decide) ?_
              have e1 : how σ j3 n = 0 := how_0 (cut_hi (num_gp h1) c63 (Classical.not_not.mp c84))
              rw [← e1] at hl
              exact K120 j3 hj5 hg6 hx4 h1 ls (lv_sub hl [1, 2, 3, 0] rfl) _ _ hP hS
    · refine lv_if_ne (x := 0) (tgt := 21) hx hb dX5_take_15 (by decide) (fun c => absurd (by decide) c) (fun c15 => ?_)
      refine lv_bipush (v := (-2)) hx hb dX5_take_18 (by decide) ?_
      have eF : F_take σ g n = ((-2), σ) := by simp [F_take, h1, h2]
      exact W.iret (v := (-2)) hx hb hr (fun t ht hW => ⟨⟨_, (), rfl, (by rw [eF]), by dsimp only; rw [ht]; exact (by rw [eF]; exact hP)⟩, hS.F ht⟩) hS.2.2 dX5_take_20
  · refine lv_if_ne (x := 0) (tgt := 10) hx hb dX5_take_4 (by decide) (fun c => absurd (by decide) c) (fun c4 => ?_)
    refine lv_bipush (v := (-4)) hx hb dX5_take_7 (by decide) ?_
    have eF : F_take σ g n = ((-4), σ) := by simp [F_take, h1]
    exact W.iret (v := (-4)) hx hb hr (fun t ht hW => ⟨⟨_, (), rfl, (by rw [eF]), by dsimp only; rw [ht]; exact (by rw [eF]; exact hP)⟩, hS.F ht⟩) hS.2.2 dX5_take_9
