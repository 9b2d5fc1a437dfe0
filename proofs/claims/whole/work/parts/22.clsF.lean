theorem ex_rd {n1 n n2 m rr b : Int32} (hn : n ≠ gp) (hm : m ≠ gp) (hr : rr = if b = 0 then 0 else 2) : rd n1 n rr n2 m = true ↔ FP.dcmp (vl n1 n) (vl n2 m) = some (if b = 0 then .lt else .gt) := by
  rw [rd_val hn hm, hr]
  by_cases hb : b = 0
  · rw [if_pos hb, if_pos hb]; exact rl_0 _
  · rw [if_neg hb, if_neg hb]; exact rl_2 _
theorem ag_0 (σ : SG) : sr σ 8 (agN σ 0) = σ := by
  have e : agN σ 0 = σ 8 := by funext x; show (if x < 0 then _ else _) = σ 8 x; rw [if_neg (by omega)]
  rw [e]; exact sr_self _ 8
theorem ag_skip (σ : SG) {gg : Nat} (h : σ 0 gg = 0) : ∀ g, g < 16 → σ 0 g ≠ 0 → agN σ gg g = agN σ (gg + 1) g := by
  intro g _ hm
  have hne : g ≠ gg := fun q => hm (by rw [q]; exact h)
  unfold agN
  by_cases h2 : g < gg
  · have h3 : g < gg + 1 := by omega
    rw [if_pos h2, if_pos h3]
  · have h3 : ¬ g < gg + 1 := by omega
    rw [if_neg h2, if_neg h3]
theorem sc_00 (σ : SG) : sr (st σ 25 0 (σ 25 0 + 1)) 8 (agN (st σ 25 0 (σ 25 0 + 1)) 16) = (scN σ 0).2 := rfl

set_option maxHeartbeats 4000000 in
set_option maxRecDepth 100000 in
theorem c_X4_extreme (l : Launch) (D : va_G) (cy : Nat → ClassId) (A : Nat → Prop) (α : AD) (σ : SG) (b : Int32) : Met l yX4_extreme wsX4_extreme ({ frames := 2, cells := 0, slots := 0, locals := 48 } : Room) (va_Pc [.ref (α 0 0), .int b] (PB D cy A α (CC cy σ α))) (vp_Si (fun r => r = F_extreme σ b)) 0 0 (fun _ => False) := by
  refine Met.ofW (cc := cX4_extreme) (maxL := 7) (ret := (some .int)) (by decide) rfl ?_
  intro p e s m args below meth c s₁ B hml hv
  obtain ⟨rfl, hP, hK⟩ := hv
  have hx := B.exec
  have hb := B.bytes
  have hr := B.returns
  have hts := atoms_spec (ws := wsX4_extreme) B.pre
  have hown : s.vm.findClass RX4 = some m.cls := findClass_of_methodNamed B.named
  have hlocks := B.notSynchronized
  have hiX4 : ∀ w ∈ wsX40, w ∈ wsX4_extreme := by decide +kernel
  have hiX1 : ∀ w ∈ wsX10, w ∈ wsX4_extreme := by decide +kernel
  have hl := lv_entry ([.ref (α 0 0), .int b]) (n := 7) (Nat.le_of_ble_eq_true rfl)
  rw [lg_entry_eq]
  generalize (lg_sl ([.ref (α 0 0), .int b]) ++ List.replicate (7 - (lg_sl ([.ref (α 0 0), .int b])).length) Slot.unset).toArray = ls at hl ⊢
  have hl : lv_has ls 7 [(0, .ref (α 0 0)), (1, .int b)] := hl
  have L18 : ∀ (n : Nat) (rr : Int32) (hrr : rr = if b = 0 then 0 else 2) (gg : Nat) (q : Option Nat) (hn : 16 - gg < n) (hg : gg ≤ 16) (hq : (q = none ∧ exN σ b gg = -1) ∨ (∃ bi, bi < gg ∧ exN σ b gg = nI bi ∧ σ 0 bi ≠ 0 ∧ σ 2 bi ≠ gp ∧ q = some (α 10 bi))) (ls : Array Slot) (hl : lv_has ls 7 [(0, .ref (α 0 0)), (1, .int b), (2, .int rr), (3, .int (exN σ b gg)), (4, va_rf q), (5, .int (nI gg))]) , W p l e ({ frames := 2, cells := 0, slots := 0, locals := 48 } : Room) s m ([.ref (α 0 0), .int b] : List Value).toArray below meth c s.heap [] 0 0 (MQ below (vp_Si (fun r => r = F_extreme σ b)) ([.ref (α 0 0), .int b] : List Value).toArray s 0 0 (fun _ => False)) (F0 m 18 ls []) := by
    intro n
    induction n with
    | zero => intro rr hrr gg q hn hg hq ls hl ; exact absurd hn (Nat.not_lt_zero _)
    | succ n ih =>
      intro rr hrr gg q hn hg hq ls hl 
      have hrel : isRel rr := by rw [hrr]; split <;> decide
      rcases hq with ⟨rfl, hex⟩ | ⟨bi, hbi, hex, hmb, hvb, rfl⟩
      · have hl : lv_has ls 7 [(0, .ref (α 0 0)), (1, .int b), (2, .int rr), (3, .int (exN σ b gg)), (4, .null), (5, .int (nI gg))] := hl
        refine lv_iload hx hb dX4_extreme_18 (lv_at hl 5 rfl) ?_
        refine lv_aload_n hx hb dX4_extreme_20 rfl (lv_at hl 0 rfl) ?_
        refine pw_get (ref := "TripPanel") (C := RX4) (T := TX4) (N := 11) (ci := 4) (fs := (fsP σ α)) (v := .ref (α 1 0)) hx hb hts hiX4 hown hK hP cc_0 rfl 0 (by decide) (by decide +kernel) rfl rfl dX4_extreme_21 ?_
        refine pw_alen (t0 := 2) (v := 16) hx hb hK hP rfl cc_1 rfl dX4_extreme_24 ?_
        refine lv_icmp_ge (x := (nI gg)) (y := 16) (tgt := 92) hx hb dX4_extreme_25 (by decide) (fun c25 => ?_) (fun c25 => ?_)
        · have hge : gg = 16 := Nat.le_antisymm hg (ige (N := 16) (by omega) (by decide) c25)
          refine lv_iload_n hx hb dX4_extreme_92 rfl (lv_at hl 3 rfl) ?_
          exact W.iret (v := (exN σ b gg)) hx hb hr (fun t ht hW => ⟨_, rfl, (by rw [F_extreme, hge]), ht⟩) (fun q hq => absurd hq List.not_mem_nil) dX4_extreme_93
        · have hlt : gg < 16 := ilt (N := 16) (by omega) (by decide) c25
          refine lv_aload_n hx hb dX4_extreme_28 rfl (lv_at hl 0 rfl) ?_
          refine pw_get (ref := "TripPanel") (C := RX4) (T := TX4) (N := 11) (ci := 4) (fs := (fsP σ α)) (v := .ref (α 1 0)) hx hb hts hiX4 hown hK hP cc_0 rfl 0 (by decide) (by decide +kernel) rfl rfl dX4_extreme_29 ?_
          refine lv_iload hx hb dX4_extreme_32 (lv_at hl 5 rfl) ?_
          refine pw_aald (t0 := 2) (C := RX1) (n := 16) (f := (qG σ α)) hx hb hK hP rfl cc_1 gg rfl hlt (by decide) dX4_extreme_34 ?_
          rcases qG_cases σ α gg with ⟨eq, hm1⟩ | ⟨eq, hm1⟩
          · rw [eq]
            refine lv_astoreN (lv' := [(6, .null), (0, .ref (α 0 0)), (1, .int b), (2, .int rr), (3, .int (exN σ b gg)), (4, .null), (5, .int (nI gg))]) hx hb dX4_extreme_35 hl (by decide) rfl (fun ls hl => ?_)
            refine lv_aloadN hx hb dX4_extreme_37 (lv_at hl 0 rfl) ?_
            refine lv_ifnullN (tgt := 86) hx hb dX4_extreme_39 (by decide) ?_
            refine lv_iinc (v := (nI (gg + 1))) (lv' := [(5, .int (nI (gg + 1))), (6, .null), (0, .ref (α 0 0)), (1, .int b), (2, .int rr), (3, .int (exN σ b gg)), (4, .null)]) hx hb dX4_extreme_86 hl (k := 6) rfl (nI_1 _) (by decide) rfl (fun ls hl => ?_)
            refine lv_goto (tgt := 18) hx hb dX4_extreme_89 (by decide) ?_
            have e1 : exN σ b (gg + 1) = exN σ b gg := by rw [exN, if_neg (fun z => z.1 hm1)]
            rw [← e1] at hl
            exact ih rr hrr (gg + 1) none (by omega) hlt (Or.inl ⟨rfl, e1.trans hex⟩) ls (lv_sub hl [2, 3, 4, 5, 6, 0] rfl)
          · rw [eq]
            refine lv_astore (lv' := [(6, .ref (α 10 gg)), (0, .ref (α 0 0)), (1, .int b), (2, .int rr), (3, .int (exN σ b gg)), (4, .null), (5, .int (nI gg))]) hx hb dX4_extreme_35 hl (by decide) rfl (fun ls hl => ?_)
            refine lv_aload hx hb dX4_extreme_37 (lv_at hl 0 rfl) ?_
            refine lv_ifnull hx hb dX4_extreme_39 ?_
            refine lv_aload hx hb dX4_extreme_42 (lv_at hl 0 rfl) ?_
            refine vp_callSi (W.runV (As := []) (rest := []) ⟨hx, hb, hml, hown, hts⟩ (c_X1_hasValue l D cy A α σ gg hlt hm1 ) (cwV 0 hts gX4_extreme_X1_hasValue rfl rfl rfl (by decide +kernel) ⟨Nat.le_of_ble_eq_true rfl, Nat.le_of_ble_eq_true rfl⟩) ⟨pb_blind, pw_recv hP hK (cc_10 hlt hm1) rfl, pb_pre hP hK⟩ rfl rfl hl.1 rfl (lv_room (Nat.le_of_ble_eq_true rfl)) dX4_extreme_44 ⟨Nat.le_of_ble_eq_true rfl, Nat.le_of_ble_eq_true rfl⟩) (fun r hw => ?_)
            rcases hw with ⟨rfl, h2⟩ | ⟨rfl, h2⟩
            · refine lv_if_ne (x := 1) (tgt := 53) hx hb dX4_extreme_47 (by decide) (fun c47 => ?_) (fun c => absurd c (by decide))
              refine lv_aloadN hx hb dX4_extreme_53 (lv_at hl 5 rfl) ?_
              refine lv_ifnullN (tgt := 79) hx hb dX4_extreme_55 (by decide) ?_
              refine lv_iload hx hb dX4_extreme_79 (lv_at hl 6 rfl) ?_
              refine lv_istore_n (lv' := [(3, .int (nI gg)), (6, .ref (α 10 gg)), (0, .ref (α 0 0)), (1, .int b), (2, .int rr), (4, .null), (5, .int (nI gg))]) hx hb dX4_extreme_81 rfl hl (by decide) rfl (fun ls hl => ?_)
              refine lv_aload hx hb dX4_extreme_82 (lv_at hl 1 rfl) ?_
              refine lv_astore (lv' := [(4, .ref (α 10 gg)), (3, .int (nI gg)), (6, .ref (α 10 gg)), (0, .ref (α 0 0)), (1, .int b), (2, .int rr), (5, .int (nI gg))]) hx hb dX4_extreme_84 hl (by decide) rfl (fun ls hl => ?_)
              refine lv_iinc (v := (nI (gg + 1))) (lv' := [(5, .int (nI (gg + 1))), (4, .ref (α 10 gg)), (3, .int (nI gg)), (6, .ref (α 10 gg)), (0, .ref (α 0 0)), (1, .int b), (2, .int rr)]) hx hb dX4_extreme_86 hl (k := 6) rfl (nI_1 _) (by decide) rfl (fun ls hl => ?_)
              refine lv_goto (tgt := 18) hx hb dX4_extreme_89 (by decide) ?_
              have e1 : exN σ b (gg + 1) = nI gg := by rw [exN, if_pos (⟨hm1, h2, Or.inl hex⟩)]
              have hl := lv_sub hl [4, 5, 6, 2, 1, 0] (l' := [(0, .ref (α 0 0)), (1, .int b), (2, .int rr), (3, .int (nI gg)), (4, .ref (α 10 gg)), (5, .int (nI (gg + 1)))]) rfl
              rw [← e1] at hl
              exact ih rr hrr (gg + 1) (some (α 10 gg)) (by omega) hlt (Or.inr ⟨gg, Nat.lt_succ_self gg, e1, hm1, h2, rfl⟩) ls hl
            · refine lv_if_ne (x := 0) (tgt := 53) hx hb dX4_extreme_47 (by decide) (fun c => absurd (by decide) c) (fun c47 => ?_)
              refine lv_goto (tgt := 86) hx hb dX4_extreme_50 (by decide) ?_
              refine lv_iinc (v := (nI (gg + 1))) (lv' := [(5, .int (nI (gg + 1))), (6, .ref (α 10 gg)), (0, .ref (α 0 0)), (1, .int b), (2, .int rr), (3, .int (exN σ b gg)), (4, .null)]) hx hb dX4_extreme_86 hl (k := 6) rfl (nI_1 _) (by decide) rfl (fun ls hl => ?_)
              refine lv_goto (tgt := 18) hx hb dX4_extreme_89 (by decide) ?_
              have e1 : exN σ b (gg + 1) = exN σ b gg := by rw [exN, if_neg (fun z => z.2.1 (Classical.not_not.mp h2))]
              rw [← e1] at hl
              exact ih rr hrr (gg + 1) none (by omega) hlt (Or.inl ⟨rfl, e1.trans hex⟩) ls (lv_sub hl [2, 3, 4, 5, 6, 0] rfl)
      · have hl : lv_has ls 7 [(0, .ref (α 0 0)), (1, .int b), (2, .int rr), (3, .int (exN σ b gg)), (4, .ref (α 10 bi)), (5, .int (nI gg))] := hl
        have hbi16 : bi < 16 := by omega
        refine lv_iload hx hb dX4_extreme_18 (lv_at hl 5 rfl) ?_
        refine lv_aload_n hx hb dX4_extreme_20 rfl (lv_at hl 0 rfl) ?_
        refine pw_get (ref := "TripPanel") (C := RX4) (T := TX4) (N := 11) (ci := 4) (fs := (fsP σ α)) (v := .ref (α 1 0)) hx hb hts hiX4 hown hK hP cc_0 rfl 0 (by decide) (by decide +kernel) rfl rfl dX4_extreme_21 ?_
        refine pw_alen (t0 := 2) (v := 16) hx hb hK hP rfl cc_1 rfl dX4_extreme_24 ?_
        refine lv_icmp_ge (x := (nI gg)) (y := 16) (tgt := 92) hx hb dX4_extreme_25 (by decide) (fun c25 => ?_) (fun c25 => ?_)
        · have hge : gg = 16 := Nat.le_antisymm hg (ige (N := 16) (by omega) (by decide) c25)
          refine lv_iload_n hx hb dX4_extreme_92 rfl (lv_at hl 3 rfl) ?_
          exact W.iret (v := (exN σ b gg)) hx hb hr (fun t ht hW => ⟨_, rfl, (by rw [F_extreme, hge]), ht⟩) (fun q hq => absurd hq List.not_mem_nil) dX4_extreme_93
        · have hlt : gg < 16 := ilt (N := 16) (by omega) (by decide) c25
          refine lv_aload_n hx hb dX4_extreme_28 rfl (lv_at hl 0 rfl) ?_
          refine pw_get (ref := "TripPanel") (C := RX4) (T := TX4) (N := 11) (ci := 4) (fs := (fsP σ α)) (v := .ref (α 1 0)) hx hb hts hiX4 hown hK hP cc_0 rfl 0 (by decide) (by decide +kernel) rfl rfl dX4_extreme_29 ?_
          refine lv_iload hx hb dX4_extreme_32 (lv_at hl 5 rfl) ?_
          refine pw_aald (t0 := 2) (C := RX1) (n := 16) (f := (qG σ α)) hx hb hK hP rfl cc_1 gg rfl hlt (by decide) dX4_extreme_34 ?_
          rcases qG_cases σ α gg with ⟨eq, hm3⟩ | ⟨eq, hm3⟩
          · rw [eq]
            refine lv_astoreN (lv' := [(6, .null), (0, .ref (α 0 0)), (1, .int b), (2, .int rr), (3, .int (exN σ b gg)), (4, .ref (α 10 bi)), (5, .int (nI gg))]) hx hb dX4_extreme_35 hl (by decide) rfl (fun ls hl => ?_)
            refine lv_aloadN hx hb dX4_extreme_37 (lv_at hl 0 rfl) ?_
            refine lv_ifnullN (tgt := 86) hx hb dX4_extreme_39 (by decide) ?_
            refine lv_iinc (v := (nI (gg + 1))) (lv' := [(5, .int (nI (gg + 1))), (6, .null), (0, .ref (α 0 0)), (1, .int b), (2, .int rr), (3, .int (exN σ b gg)), (4, .ref (α 10 bi))]) hx hb dX4_extreme_86 hl (k := 6) rfl (nI_1 _) (by decide) rfl (fun ls hl => ?_)
            refine lv_goto (tgt := 18) hx hb dX4_extreme_89 (by decide) ?_
            have hcb : cN (exN σ b gg) = bi := cN_of hex (by omega)
            have e1 : exN σ b (gg + 1) = exN σ b gg := by rw [exN, if_neg (fun z => z.1 hm3)]
            rw [← e1] at hl
            exact ih rr hrr (gg + 1) (some (α 10 bi)) (by omega) hlt (Or.inr ⟨bi, Nat.lt_succ_of_lt hbi, e1.trans hex, hmb, hvb, rfl⟩) ls (lv_sub hl [2, 3, 4, 5, 6, 0] rfl)
          · rw [eq]
            refine lv_astore (lv' := [(6, .ref (α 10 gg)), (0, .ref (α 0 0)), (1, .int b), (2, .int rr), (3, .int (exN σ b gg)), (4, .ref (α 10 bi)), (5, .int (nI gg))]) hx hb dX4_extreme_35 hl (by decide) rfl (fun ls hl => ?_)
            refine lv_aload hx hb dX4_extreme_37 (lv_at hl 0 rfl) ?_
            refine lv_ifnull hx hb dX4_extreme_39 ?_
            refine lv_aload hx hb dX4_extreme_42 (lv_at hl 0 rfl) ?_
            refine vp_callSi (W.runV (As := []) (rest := []) ⟨hx, hb, hml, hown, hts⟩ (c_X1_hasValue l D cy A α σ gg hlt hm3 ) (cwV 0 hts gX4_extreme_X1_hasValue rfl rfl rfl (by decide +kernel) ⟨Nat.le_of_ble_eq_true rfl, Nat.le_of_ble_eq_true rfl⟩) ⟨pb_blind, pw_recv hP hK (cc_10 hlt hm3) rfl, pb_pre hP hK⟩ rfl rfl hl.1 rfl (lv_room (Nat.le_of_ble_eq_true rfl)) dX4_extreme_44 ⟨Nat.le_of_ble_eq_true rfl, Nat.le_of_ble_eq_true rfl⟩) (fun r hw => ?_)
            rcases hw with ⟨rfl, h4⟩ | ⟨rfl, h4⟩
            · refine lv_if_ne (x := 1) (tgt := 53) hx hb dX4_extreme_47 (by decide) (fun c47 => ?_) (fun c => absurd c (by decide))
              refine lv_aload hx hb dX4_extreme_53 (lv_at hl 5 rfl) ?_
              refine lv_ifnull hx hb dX4_extreme_55 ?_
              refine lv_aload hx hb dX4_extreme_58 (lv_at hl 0 rfl) ?_
              refine lv_aload hx hb dX4_extreme_60 (lv_at hl 0 rfl) ?_
              refine pw_get (ref := "TripPanel$Gauge") (C := RX1) (T := TX1) (N := 9) (ci := 1) (fs := (fsG σ α gg)) (v := .int (σ 2 gg)) hx hb hts hiX1 hown hK hP (cc_10 hlt hm3) rfl 2 (by decide) (by decide +kernel) rfl rfl dX4_extreme_62 ?_
              refine lv_iload_n hx hb dX4_extreme_65 rfl (lv_at hl 3 rfl) ?_
              refine lv_aload hx hb dX4_extreme_66 (lv_at hl 5 rfl) ?_
              refine lv_aload hx hb dX4_extreme_68 (lv_at hl 5 rfl) ?_
              refine pw_get (ref := "TripPanel$Gauge") (C := RX1) (T := TX1) (N := 9) (ci := 1) (fs := (fsG σ α bi)) (v := .int (σ 2 bi)) hx hb hts hiX1 hown hK hP (cc_10 hbi16 hmb) rfl 2 (by decide) (by decide +kernel) rfl rfl dX4_extreme_70 ?_
              refine vp_callSi (W.runV (As := [.int (σ 2 gg), .int rr, .ref (α 10 bi), .int (σ 2 bi)]) (rest := []) ⟨hx, hb, hml, hown, hts⟩ (c_X1_relates l D cy A α σ gg hlt hm3 bi hbi16 hmb (σ 2 gg) rr (σ 2 bi) hrel) (cwV 4 hts gX4_extreme_X1_relates rfl rfl rfl (by decide +kernel) ⟨Nat.le_of_ble_eq_true rfl, Nat.le_of_ble_eq_true rfl⟩) ⟨pb_blind, pw_recv hP hK (cc_10 hlt hm3) rfl, pb_pre hP hK⟩ rfl rfl hl.1 rfl (lv_room (Nat.le_of_ble_eq_true rfl)) dX4_extreme_73 ⟨Nat.le_of_ble_eq_true rfl, Nat.le_of_ble_eq_true rfl⟩) (fun r hw => ?_)
              rcases hw with ⟨rfl, h5⟩ | ⟨rfl, h5⟩
              · refine lv_if_eq (x := 1) (tgt := 86) hx hb dX4_extreme_76 (by decide) (fun c => absurd c (by decide)) (fun c76 => ?_)
                refine lv_iload hx hb dX4_extreme_79 (lv_at hl 6 rfl) ?_
                refine lv_istore_n (lv' := [(3, .int (nI gg)), (6, .ref (α 10 gg)), (0, .ref (α 0 0)), (1, .int b), (2, .int rr), (4, .ref (α 10 bi)), (5, .int (nI gg))]) hx hb dX4_extreme_81 rfl hl (by decide) rfl (fun ls hl => ?_)
                refine lv_aload hx hb dX4_extreme_82 (lv_at hl 1 rfl) ?_
                refine lv_astore (lv' := [(4, .ref (α 10 gg)), (3, .int (nI gg)), (6, .ref (α 10 gg)), (0, .ref (α 0 0)), (1, .int b), (2, .int rr), (5, .int (nI gg))]) hx hb dX4_extreme_84 hl (by decide) rfl (fun ls hl => ?_)
                refine lv_iinc (v := (nI (gg + 1))) (lv' := [(5, .int (nI (gg + 1))), (4, .ref (α 10 gg)), (3, .int (nI gg)), (6, .ref (α 10 gg)), (0, .ref (α 0 0)), (1, .int b), (2, .int rr)]) hx hb dX4_extreme_86 hl (k := 6) rfl (nI_1 _) (by decide) rfl (fun ls hl => ?_)
                refine lv_goto (tgt := 18) hx hb dX4_extreme_89 (by decide) ?_
                have hcb : cN (exN σ b gg) = bi := cN_of hex (by omega)
                have e1 : exN σ b (gg + 1) = nI gg := by rw [exN, if_pos (⟨hm3, h4, Or.inr (by rw [hcb]; exact (ex_rd h4 hvb hrr).mp h5)⟩)]
                have hl := lv_sub hl [4, 5, 6, 2, 1, 0] (l' := [(0, .ref (α 0 0)), (1, .int b), (2, .int rr), (3, .int (nI gg)), (4, .ref (α 10 gg)), (5, .int (nI (gg + 1)))]) rfl
                rw [← e1] at hl
                exact ih rr hrr (gg + 1) (some (α 10 gg)) (by omega) hlt (Or.inr ⟨gg, Nat.lt_succ_self gg, e1, hm3, h4, rfl⟩) ls hl
              · refine lv_if_eq (x := 0) (tgt := 86) hx hb dX4_extreme_76 (by decide) (fun c76 => ?_) (fun c => absurd (by decide) c)
                refine lv_iinc (v := (nI (gg + 1))) (lv' := [(5, .int (nI (gg + 1))), (6, .ref (α 10 gg)), (0, .ref (α 0 0)), (1, .int b), (2, .int rr), (3, .int (exN σ b gg)), (4, .ref (α 10 bi))]) hx hb dX4_extreme_86 hl (k := 6) rfl (nI_1 _) (by decide) rfl (fun ls hl => ?_)
                refine lv_goto (tgt := 18) hx hb dX4_extreme_89 (by decide) ?_
                have hcb : cN (exN σ b gg) = bi := cN_of hex (by omega)
                have e1 : exN σ b (gg + 1) = exN σ b gg := by rw [exN, if_neg (fun z => z.2.2.elim (fun y => by rw [hex] at y; exact nI_pos (n := bi) (by omega) (by rw [y]; decide)) (fun y => h5 ((ex_rd h4 hvb hrr).mpr (by rw [hcb] at y; exact y))))]
                rw [← e1] at hl
                exact ih rr hrr (gg + 1) (some (α 10 bi)) (by omega) hlt (Or.inr ⟨bi, Nat.lt_succ_of_lt hbi, e1.trans hex, hmb, hvb, rfl⟩) ls (lv_sub hl [2, 3, 4, 5, 6, 0] rfl)
            · refine lv_if_ne (x := 0) (tgt := 53) hx hb dX4_extreme_47 (by decide) (fun c => absurd (by decide) c) (fun c47 => ?_)
              refine lv_goto (tgt := 86) hx hb dX4_extreme_50 (by decide) ?_
              refine lv_iinc (v := (nI (gg + 1))) (lv' := [(5, .int (nI (gg + 1))), (6, .ref (α 10 gg)), (0, .ref (α 0 0)), (1, .int b), (2, .int rr), (3, .int (exN σ b gg)), (4, .ref (α 10 bi))]) hx hb dX4_extreme_86 hl (k := 6) rfl (nI_1 _) (by decide) rfl (fun ls hl => ?_)
              refine lv_goto (tgt := 18) hx hb dX4_extreme_89 (by decide) ?_
              have hcb : cN (exN σ b gg) = bi := cN_of hex (by omega)
              have e1 : exN σ b (gg + 1) = exN σ b gg := by rw [exN, if_neg (fun z => z.2.1 (Classical.not_not.mp h4))]
              rw [← e1] at hl
              exact ih rr hrr (gg + 1) (some (α 10 bi)) (by omega) hlt (Or.inr ⟨bi, Nat.lt_succ_of_lt hbi, e1.trans hex, hmb, hvb, rfl⟩) ls (lv_sub hl [2, 3, 4, 5, 6, 0] rfl)
  refine lv_iload_n hx hb dX4_extreme_0 rfl (lv_at hl 1 rfl) ?_
  refine lv_if_eq (x := b) (tgt := 8) hx hb dX4_extreme_1 (by decide) (fun c1 => ?_) (fun c1 => ?_)
  · refine lv_iconst (v := 0) hx hb dX4_extreme_8 (by decide) ?_
    refine lv_istore_n (lv' := [(2, .int 0), (0, .ref (α 0 0)), (1, .int b)]) hx hb dX4_extreme_9 rfl hl (by decide) rfl (fun ls hl => ?_)
    refine lv_iconst (v := (-1)) hx hb dX4_extreme_10 (by decide) ?_
    refine lv_istore_n (lv' := [(3, .int (-1)), (2, .int 0), (0, .ref (α 0 0)), (1, .int b)]) hx hb dX4_extreme_11 rfl hl (by decide) rfl (fun ls hl => ?_)
    refine lv_null hx hb dX4_extreme_12 ?_
    refine lv_astoreN (lv' := [(4, .null), (3, .int (-1)), (2, .int 0), (0, .ref (α 0 0)), (1, .int b)]) hx hb dX4_extreme_13 hl (by decide) rfl (fun ls hl => ?_)
    refine lv_iconst (v := 0) hx hb dX4_extreme_15 (by decide) ?_
    refine lv_istore (lv' := [(5, .int 0), (4, .null), (3, .int (-1)), (2, .int 0), (0, .ref (α 0 0)), (1, .int b)]) hx hb dX4_extreme_16 hl (by decide) rfl (fun ls hl => ?_)
    exact L18 17 0 (by rw [if_pos c1]) 0 none (by decide) (by decide) (Or.inl ⟨rfl, rfl⟩) ls (lv_sub hl [4, 5, 3, 2, 1, 0] rfl)
  · refine lv_iconst (v := 2) hx hb dX4_extreme_4 (by decide) ?_
    refine lv_goto (tgt := 9) hx hb dX4_extreme_5 (by decide) ?_
    refine lv_istore_n (lv' := [(2, .int 2), (0, .ref (α 0 0)), (1, .int b)]) hx hb dX4_extreme_9 rfl hl (by decide) rfl (fun ls hl => ?_)
    refine lv_iconst (v := (-1)) hx hb dX4_extreme_10 (by decide) ?_
    refine lv_istore_n (lv' := [(3, .int (-1)), (2, .int 2), (0, .ref (α 0 0)), (1, .int b)]) hx hb dX4_extreme_11 rfl hl (by decide) rfl (fun ls hl => ?_)
    refine lv_null hx hb dX4_extreme_12 ?_
    refine lv_astoreN (lv' := [(4, .null), (3, .int (-1)), (2, .int 2), (0, .ref (α 0 0)), (1, .int b)]) hx hb dX4_extreme_13 hl (by decide) rfl (fun ls hl => ?_)
    refine lv_iconst (v := 0) hx hb dX4_extreme_15 (by decide) ?_
    refine lv_istore (lv' := [(5, .int 0), (4, .null), (3, .int (-1)), (2, .int 2), (0, .ref (α 0 0)), (1, .int b)]) hx hb dX4_extreme_16 hl (by decide) rfl (fun ls hl => ?_)
    exact L18 17 2 (by rw [if_neg c1]) 0 none (by decide) (by decide) (Or.inl ⟨rfl, rfl⟩) ls (lv_sub hl [4, 5, 3, 2, 1, 0] rfl)

set_option maxHeartbeats 4000000 in
set_option maxRecDepth 100000 in
theorem c_X4_ageGauges (l : Launch) (D : va_G) (cy : Nat → ClassId) (A : Nat → Prop) (α : AD) (σ : SG) : Met l yX4_ageGauges wsX4_ageGauges ({ frames := 1, cells := 0, slots := 0, locals := 20 } : Room) (va_Pc [.ref (α 0 0)] (PB D cy A α (CC cy σ α))) (va_Qv (fun (u : Unit) => True) (fun u t => PW D A α (CC cy (sr σ 8 (agN σ 16)) α) t.heap) A) 0 0 A := by
  refine Met.ofW (cc := cX4_ageGauges) (maxL := 3) (ret := none) (by decide) rfl ?_
  intro p e s m args below meth c s₁ B hml hv
  obtain ⟨rfl, hP, hK⟩ := hv
  have hx := B.exec
  have hb := B.bytes
  have hr := B.returns
  have hts := atoms_spec (ws := wsX4_ageGauges) B.pre
  have hown : s.vm.findClass RX4 = some m.cls := findClass_of_methodNamed B.named
  have hlocks := B.notSynchronized
  have hiX4 : ∀ w ∈ wsX40, w ∈ wsX4_ageGauges := by decide +kernel
  have hiX1 : ∀ w ∈ wsX10, w ∈ wsX4_ageGauges := by decide +kernel
  have hS : va_S A s.heap s.heap [] := va_S.rf
  have hl := lv_entry ([.ref (α 0 0)]) (n := 3) (Nat.le_of_ble_eq_true rfl)
  rw [lg_entry_eq]
  generalize (lg_sl ([.ref (α 0 0)]) ++ List.replicate (3 - (lg_sl ([.ref (α 0 0)])).length) Slot.unset).toArray = ls at hl ⊢
  have hl : lv_has ls 3 [(0, .ref (α 0 0))] := hl
  skip
  have L2 : ∀ (n : Nat) (gg : Nat) (hn : 16 - gg < n) (hg : gg ≤ 16) (ls : Array Slot) (hl : lv_has ls 3 [(0, .ref (α 0 0)), (1, .int (nI gg))]) (H : Heap) (locs : List Loc) (hP : PW D A α (CC cy (sr σ 8 (agN σ gg)) α) H) (hS : va_S A s.heap H locs), W p l e ({ frames := 1, cells := 0, slots := 0, locals := 20 } : Room) s m ([.ref (α 0 0)] : List Value).toArray below meth c H locs 0 0 (MQ below (va_Qv (fun (u : Unit) => True) (fun u t => PW D A α (CC cy (sr σ 8 (agN σ 16)) α) t.heap) A) ([.ref (α 0 0)] : List Value).toArray s 0 0 A) (F0 m 2 ls []) := by
    intro n
    induction n with
    | zero => intro gg hn hg ls hl H locs hP hS; exact absurd hn (Nat.not_lt_zero _)
    | succ n ih =>
      intro gg hn hg ls hl H locs hP hS
      refine lv_iload_n hx hb dX4_ageGauges_2 rfl (lv_at hl 1 rfl) ?_
      refine lv_aload_n hx hb dX4_ageGauges_3 rfl (lv_at hl 0 rfl) ?_
      refine pw_get (ref := "TripPanel") (C := RX4) (T := TX4) (N := 11) (ci := 4) (fs := (fsP (sr σ 8 (agN σ gg)) α)) (v := .ref (α 1 0)) hx hb hts hiX4 hown hK hP cc_0 rfl 0 (by decide) (by decide +kernel) rfl rfl dX4_ageGauges_4 ?_
      refine pw_alen (t0 := 2) (v := 16) hx hb hK hP rfl cc_1 rfl dX4_ageGauges_7 ?_
      refine lv_icmp_ge (x := (nI gg)) (y := 16) (tgt := 49) hx hb dX4_ageGauges_8 (by decide) (fun c8 => ?_) (fun c8 => ?_)
      · have hge : gg = 16 := Nat.le_antisymm hg (ige (N := 16) (by omega) (by decide) c8)
        rw [hge] at hP
        exact W.vret hx hb hr (fun t ht hW => ⟨⟨(), rfl, trivial, by dsimp only; rw [ht]; exact hP⟩, hS.F ht⟩) hS.2.2 dX4_ageGauges_49
      · have hlt : gg < 16 := ilt (N := 16) (by omega) (by decide) c8
        refine lv_aload_n hx hb dX4_ageGauges_11 rfl (lv_at hl 0 rfl) ?_
        refine pw_get (ref := "TripPanel") (C := RX4) (T := TX4) (N := 11) (ci := 4) (fs := (fsP (sr σ 8 (agN σ gg)) α)) (v := .ref (α 1 0)) hx hb hts hiX4 hown hK hP cc_0 rfl 0 (by decide) (by decide +kernel) rfl rfl dX4_ageGauges_12 ?_
        refine lv_iload_n hx hb dX4_ageGauges_15 rfl (lv_at hl 1 rfl) ?_
        refine pw_aald (t0 := 2) (C := RX1) (n := 16) (f := (qG (sr σ 8 (agN σ gg)) α)) hx hb hK hP rfl cc_1 gg rfl hlt (by decide) dX4_ageGauges_16 ?_
        rcases qG_cases (sr σ 8 (agN σ gg)) α gg with ⟨eq, hm1⟩ | ⟨eq, hm1⟩
        · rw [eq]
          refine lv_astore_nN (lv' := [(2, .null), (0, .ref (α 0 0)), (1, .int (nI gg))]) hx hb dX4_ageGauges_17 rfl hl (by decide) rfl (fun ls hl => ?_)
          refine lv_aload_nN hx hb dX4_ageGauges_18 rfl (lv_at hl 0 rfl) ?_
          refine lv_ifnullN (tgt := 43) hx hb dX4_ageGauges_19 (by decide) ?_
          refine lv_iinc (v := (nI (gg + 1))) (lv' := [(1, .int (nI (gg + 1))), (2, .null), (0, .ref (α 0 0))]) hx hb dX4_ageGauges_43 hl (k := 2) rfl (nI_1 _) (by decide) rfl (fun ls hl => ?_)
          refine lv_goto (tgt := 2) hx hb dX4_ageGauges_46 (by decide) ?_
          exact ih (gg + 1) (by omega) hlt ls (lv_sub hl [2, 0] rfl) _ _ (by rw [← cc_ag (ag_skip σ hm1)]; exact hP) hS
        · rw [eq]
          refine lv_astore_n (lv' := [(2, .ref (α 10 gg)), (0, .ref (α 0 0)), (1, .int (nI gg))]) hx hb dX4_ageGauges_17 rfl hl (by decide) rfl (fun ls hl => ?_)
          refine lv_aload_n hx hb dX4_ageGauges_18 rfl (lv_at hl 0 rfl) ?_
          refine lv_ifnull hx hb dX4_ageGauges_19 ?_
          refine lv_aload_n hx hb dX4_ageGauges_22 rfl (lv_at hl 0 rfl) ?_
          refine lv_aload_n hx hb dX4_ageGauges_23 rfl (lv_at hl 0 rfl) ?_
          refine vp_callSi (W.runV (As := []) (rest := [.ref (α 10 gg)]) ⟨hx, hb, hml, hown, hts⟩ (c_X1_hasValue l D cy A α (sr σ 8 (agN σ gg)) gg hlt hm1 ) (cwV 0 hts gX4_ageGauges_X1_hasValue rfl rfl rfl (by decide +kernel) ⟨Nat.le_of_ble_eq_true rfl, Nat.le_of_ble_eq_true rfl⟩) ⟨pb_blind, pw_recv hP hK (cc_10 hlt hm1) rfl, pb_pre hP hK⟩ rfl rfl hl.1 rfl (lv_room (Nat.le_of_ble_eq_true rfl)) dX4_ageGauges_24 ⟨Nat.le_of_ble_eq_true rfl, Nat.le_of_ble_eq_true rfl⟩) (fun r hw => ?_)
          rcases hw with ⟨rfl, h2⟩ | ⟨rfl, h2⟩
          · refine lv_if_eq (x := 1) (tgt := 34) hx hb dX4_ageGauges_27 (by decide) (fun c => absurd c (by decide)) (fun c27 => ?_)
            refine lv_iconst (v := 0) hx hb dX4_ageGauges_30 (by decide) ?_
            refine lv_goto (tgt := 40) hx hb dX4_ageGauges_31 (by decide) ?_
            refine pw_put (ref := "TripPanel$Gauge") (C := RX1) (T := TX1) (N := 9) (ci := 1) (fs := (fsG (sr σ 8 (agN σ gg)) α gg)) (v := .int 0) (ty := .int) hx hb hts hiX1 tyX1 tyX1_ok nmX1 hown hK hP hS (cc_10 hlt hm1) rfl 8 (by decide) (by decide +kernel) rfl rfl (by decide +kernel) rfl rfl (Nat.le_of_ble_eq_true rfl) dX4_ageGauges_40 (fun H locs hP hz hS => ?_)
            rw [cc_g8 (σ := sr σ 8 (agN σ gg)) hlt hm1] at hP
            refine lv_iinc (v := (nI (gg + 1))) (lv' := [(1, .int (nI (gg + 1))), (2, .ref (α 10 gg)), (0, .ref (α 0 0))]) hx hb dX4_ageGauges_43 hl (k := 2) rfl (nI_1 _) (by decide) rfl (fun ls hl => ?_)
            refine lv_goto (tgt := 2) hx hb dX4_ageGauges_46 (by decide) ?_
            exact ih (gg + 1) (by omega) hlt ls (lv_sub hl [2, 0] rfl) _ _ (by rw [← ag_step σ σ (g := gg) (v := 0) (by rw [if_neg (fun q => h2 q.2)])]; exact hP) hS
          · refine lv_if_eq (x := 0) (tgt := 34) hx hb dX4_ageGauges_27 (by decide) (fun c27 => ?_) (fun c => absurd (by decide) c)
            refine lv_aload_n hx hb dX4_ageGauges_34 rfl (lv_at hl 0 rfl) ?_
            refine pw_get (ref := "TripPanel$Gauge") (C := RX1) (T := TX1) (N := 9) (ci := 1) (fs := (fsG (sr σ 8 (agN σ gg)) α gg)) (v := .int ((sr σ 8 (agN σ gg)) 8 gg)) hx hb hts hiX1 hown hK hP (cc_10 hlt hm1) rfl 8 (by decide) (by decide +kernel) rfl rfl dX4_ageGauges_35 ?_
            refine lv_iconst (v := 1) hx hb dX4_ageGauges_38 (by decide) ?_
            refine lv_iadd hx hb dX4_ageGauges_39 ?_
            refine pw_put (ref := "TripPanel$Gauge") (C := RX1) (T := TX1) (N := 9) (ci := 1) (fs := (fsG (sr σ 8 (agN σ gg)) α gg)) (v := .int (((sr σ 8 (agN σ gg)) 8 gg) + 1)) (ty := .int) hx hb hts hiX1 tyX1 tyX1_ok nmX1 hown hK hP hS (cc_10 hlt hm1) rfl 8 (by decide) (by decide +kernel) rfl rfl (by decide +kernel) rfl rfl (Nat.le_of_ble_eq_true rfl) dX4_ageGauges_40 (fun H locs hP hz hS => ?_)
            rw [cc_g8 (σ := sr σ 8 (agN σ gg)) hlt hm1] at hP
            refine lv_iinc (v := (nI (gg + 1))) (lv' := [(1, .int (nI (gg + 1))), (2, .ref (α 10 gg)), (0, .ref (α 0 0))]) hx hb dX4_ageGauges_43 hl (k := 2) rfl (nI_1 _) (by decide) rfl (fun ls hl => ?_)
            refine lv_goto (tgt := 2) hx hb dX4_ageGauges_46 (by decide) ?_
            exact ih (gg + 1) (by omega) hlt ls (lv_sub hl [2, 0] rfl) _ _ (by rw [← ag_step σ σ (g := gg) (v := (sr σ 8 (agN σ gg)) 8 gg + 1) (by rw [if_pos ⟨hm1, Classical.not_not.mp h2⟩]; show agN σ gg gg + 1 = _; rw [ag_self])]; exact hP) hS
  refine lv_iconst (v := 0) hx hb dX4_ageGauges_0 (by decide) ?_
  refine lv_istore_n (lv' := [(1, .int 0), (0, .ref (α 0 0))]) hx hb dX4_ageGauges_1 rfl hl (by decide) rfl (fun ls hl => ?_)
  exact L2 17 0 (by decide) (by decide) ls (lv_sub hl [1, 0] rfl) _ _ (by rw [ag_0]; exact hP) hS

set_option maxHeartbeats 4000000 in
set_option maxRecDepth 100000 in
theorem c_X4_keepEvent (l : Launch) (D : va_G) (cy : Nat → ClassId) (A : Nat → Prop) (α : AD) (σ : SG) (a b : Int32) : Met l yX4_keepEvent wsX4_keepEvent ({ frames := 1, cells := 0, slots := 0, locals := 22 } : Room) (va_Pc [.ref (α 0 0), .int a, .int b] (PB D cy A α (CC cy σ α))) (va_Qv (fun (u : Unit) => True) (fun u t => PW D A α (CC cy (gho (st (evA σ a (σ 25 0) b) 29 0 (σ 29 0 + 1))) α) t.heap) A) 0 0 A := by
  refine Met.ofW (cc := cX4_keepEvent) (maxL := 3) (ret := none) (by decide) rfl ?_
  intro p e s m args below meth c s₁ B hml hv
  obtain ⟨rfl, hP, hK⟩ := hv
  have hx := B.exec
  have hb := B.bytes
  have hr := B.returns
  have hts := atoms_spec (ws := wsX4_keepEvent) B.pre
  have hown : s.vm.findClass RX4 = some m.cls := findClass_of_methodNamed B.named
  have hlocks := B.notSynchronized
  have hiX4 : ∀ w ∈ wsX40, w ∈ wsX4_keepEvent := by decide +kernel
  have hiX2 : ∀ w ∈ wsX20, w ∈ wsX4_keepEvent := by decide +kernel
  have hS : va_S A s.heap s.heap [] := va_S.rf
  have hl := lv_entry ([.ref (α 0 0), .int a, .int b]) (n := 3) (Nat.le_of_ble_eq_true rfl)
  rw [lg_entry_eq]
  generalize (lg_sl ([.ref (α 0 0), .int a, .int b]) ++ List.replicate (3 - (lg_sl ([.ref (α 0 0), .int a, .int b])).length) Slot.unset).toArray = ls at hl ⊢
  have hl : lv_has ls 3 [(0, .ref (α 0 0)), (1, .int a), (2, .int b)] := hl
  skip
  refine lv_aload_n hx hb dX4_keepEvent_0 rfl (lv_at hl 0 rfl) ?_
  refine pw_get (ref := "TripPanel") (C := RX4) (T := TX4) (N := 11) (ci := 4) (fs := (fsP σ α)) (v := .ref (α 4 0)) hx hb hts hiX4 hown hK hP cc_0 rfl 3 (by decide) (by decide +kernel) rfl rfl dX4_keepEvent_1 ?_
  refine lv_iload_n hx hb dX4_keepEvent_4 rfl (lv_at hl 1 rfl) ?_
  refine va_callv (va_runV (As := [.int a]) (rest := []) ⟨hx, hb, hml, hown, hts⟩ (c_X2_push l D cy A α (CC cy σ α) 4 0 7 0 20 (σ 22) (σ 31 0) (by decide) (by decide) (by decide) cc_4 cc_7 a) (cwV 1 hts gX4_keepEvent_X2_push rfl rfl rfl (by decide +kernel) ⟨Nat.le_of_ble_eq_true rfl, Nat.le_of_ble_eq_true rfl⟩) ⟨pb_blind, pw_recv hP hK cc_4 rfl, pb_pre hP hK⟩ rfl rfl hl.1 rfl (lv_room (Nat.le_of_ble_eq_true rfl)) dX4_keepEvent_5 ⟨Nat.le_of_ble_eq_true rfl, Nat.le_of_ble_eq_true rfl⟩) hS (fun _ _ h => h) (fun _ h => h) (fun u t H locs ht hvm hw hB hz1 hk1 hS => ?_)
  have hP := hB
  rw [ht] at hP
  refine W.cs (cells' := 0) (slots' := 0) rfl rfl ?_
  rw [show nI 20 = (20 : Int32) from rfl, cc_ev0] at hP
  refine lv_aload_n hx hb dX4_keepEvent_8 rfl (lv_at hl 0 rfl) ?_
  refine pw_get (ref := "TripPanel") (C := RX4) (T := TX4) (N := 11) (ci := 4) (fs := (fsP (st (sr σ 22 (shR (σ 22) 0 20 a)) 31 0 (if σ 31 0 < 20 then σ 31 0 + 1 else σ 31 0)) α)) (v := .ref (α 5 0)) hx hb hts hiX4 hown hK hP cc_0 rfl 4 (by decide) (by decide +kernel) rfl rfl dX4_keepEvent_9 ?_
  refine lv_aload_n hx hb dX4_keepEvent_12 rfl (lv_at hl 0 rfl) ?_
  refine pw_get (ref := "TripPanel") (C := RX4) (T := TX4) (N := 11) (ci := 4) (fs := (fsP (st (sr σ 22 (shR (σ 22) 0 20 a)) 31 0 (if σ 31 0 < 20 then σ 31 0 + 1 else σ 31 0)) α)) (v := .int (σ 25 0)) hx hb hts hiX4 hown hK hP cc_0 rfl 6 (by decide) (by decide +kernel) rfl rfl dX4_keepEvent_13 ?_
  refine va_callv (va_runV (As := [.int (σ 25 0)]) (rest := []) ⟨hx, hb, hml, hown, hts⟩ (c_X2_push l D cy A α (CC cy (st (sr σ 22 (shR (σ 22) 0 20 a)) 31 0 (if σ 31 0 < 20 then σ 31 0 + 1 else σ 31 0)) α) 5 0 8 0 20 (σ 23) (σ 31 1) (by decide) (by decide) (by decide) cc_5 cc_8 (σ 25 0)) (cwV 1 hts gX4_keepEvent_X2_push rfl rfl rfl (by decide +kernel) ⟨Nat.le_of_ble_eq_true rfl, Nat.le_of_ble_eq_true rfl⟩) ⟨pb_blind, pw_recv hP hK cc_5 rfl, pb_pre hP hK⟩ rfl rfl hl.1 rfl (lv_room (Nat.le_of_ble_eq_true rfl)) dX4_keepEvent_16 ⟨Nat.le_of_ble_eq_true rfl, Nat.le_of_ble_eq_true rfl⟩) hS (fun _ _ h => h) (fun _ h => h) (fun u t H locs ht hvm hw hB hz1 hk1 hS => ?_)
  have hP := hB
  rw [ht] at hP
  refine W.cs (cells' := 0) (slots' := 0) rfl rfl ?_
  rw [show nI 20 = (20 : Int32) from rfl, cc_ev1] at hP
  refine lv_aload_n hx hb dX4_keepEvent_19 rfl (lv_at hl 0 rfl) ?_
  refine pw_get (ref := "TripPanel") (C := RX4) (T := TX4) (N := 11) (ci := 4) (fs := (fsP (st (sr (st (sr σ 22 (shR (σ 22) 0 20 a)) 31 0 (if σ 31 0 < 20 then σ 31 0 + 1 else σ 31 0)) 23 (shR (σ 23) 0 20 (σ 25 0))) 31 1 (if σ 31 1 < 20 then σ 31 1 + 1 else σ 31 1)) α)) (v := .ref (α 6 0)) hx hb hts hiX4 hown hK hP cc_0 rfl 5 (by decide) (by decide +kernel) rfl rfl dX4_keepEvent_20 ?_
  refine lv_iload_n hx hb dX4_keepEvent_23 rfl (lv_at hl 2 rfl) ?_
  refine va_callv (va_runV (As := [.int b]) (rest := []) ⟨hx, hb, hml, hown, hts⟩ (c_X2_push l D cy A α (CC cy (st (sr (st (sr σ 22 (shR (σ 22) 0 20 a)) 31 0 (if σ 31 0 < 20 then σ 31 0 + 1 else σ 31 0)) 23 (shR (σ 23) 0 20 (σ 25 0))) 31 1 (if σ 31 1 < 20 then σ 31 1 + 1 else σ 31 1)) α) 6 0 9 0 20 (σ 24) (σ 31 2) (by decide) (by decide) (by decide) cc_6 cc_9 b) (cwV 1 hts gX4_keepEvent_X2_push rfl rfl rfl (by decide +kernel) ⟨Nat.le_of_ble_eq_true rfl, Nat.le_of_ble_eq_true rfl⟩) ⟨pb_blind, pw_recv hP hK cc_6 rfl, pb_pre hP hK⟩ rfl rfl hl.1 rfl (lv_room (Nat.le_of_ble_eq_true rfl)) dX4_keepEvent_24 ⟨Nat.le_of_ble_eq_true rfl, Nat.le_of_ble_eq_true rfl⟩) hS (fun _ _ h => h) (fun _ h => h) (fun u t H locs ht hvm hw hB hz1 hk1 hS => ?_)
  have hP := hB
  rw [ht] at hP
  refine W.cs (cells' := 0) (slots' := 0) rfl rfl ?_
  rw [show nI 20 = (20 : Int32) from rfl, cc_ev2] at hP
  refine lv_aload_n hx hb dX4_keepEvent_27 rfl (lv_at hl 0 rfl) ?_
  refine lv_dup hx hb dX4_keepEvent_28 rfl ?_
  refine pw_get (ref := "TripPanel") (C := RX4) (T := TX4) (N := 11) (ci := 4) (fs := (fsP (st (sr (st (sr (st (sr σ 22 (shR (σ 22) 0 20 a)) 31 0 (if σ 31 0 < 20 then σ 31 0 + 1 else σ 31 0)) 23 (shR (σ 23) 0 20 (σ 25 0))) 31 1 (if σ 31 1 < 20 then σ 31 1 + 1 else σ 31 1)) 24 (shR (σ 24) 0 20 b)) 31 2 (if σ 31 2 < 20 then σ 31 2 + 1 else σ 31 2)) α)) (v := .int (σ 29 0)) hx hb hts hiX4 hown hK hP cc_0 rfl 10 (by decide) (by decide +kernel) rfl rfl dX4_keepEvent_29 ?_
  refine lv_iconst (v := 1) hx hb dX4_keepEvent_32 (by decide) ?_
  refine lv_iadd hx hb dX4_keepEvent_33 ?_
  refine pw_put (ref := "TripPanel") (C := RX4) (T := TX4) (N := 11) (ci := 4) (fs := (fsP (st (sr (st (sr (st (sr σ 22 (shR (σ 22) 0 20 a)) 31 0 (if σ 31 0 < 20 then σ 31 0 + 1 else σ 31 0)) 23 (shR (σ 23) 0 20 (σ 25 0))) 31 1 (if σ 31 1 < 20 then σ 31 1 + 1 else σ 31 1)) 24 (shR (σ 24) 0 20 b)) 31 2 (if σ 31 2 < 20 then σ 31 2 + 1 else σ 31 2)) α)) (v := .int ((σ 29 0) + 1)) (ty := .int) hx hb hts hiX4 tyX4 tyX4_ok nmX4 hown hK hP hS cc_0 rfl 10 (by decide) (by decide +kernel) rfl rfl (by decide +kernel) rfl rfl (Nat.le_of_ble_eq_true rfl) dX4_keepEvent_34 (fun H locs hP hz hS => ?_)
  rw [cc_p29 (σ := st (sr (st (sr (st (sr σ 22 (shR (σ 22) 0 20 a)) 31 0 (if σ 31 0 < 20 then σ 31 0 + 1 else σ 31 0)) 23 (shR (σ 23) 0 20 (σ 25 0))) 31 1 (if σ 31 1 < 20 then σ 31 1 + 1 else σ 31 1)) 24 (shR (σ 24) 0 20 b)) 31 2 (if σ 31 2 < 20 then σ 31 2 + 1 else σ 31 2))] at hP
  exact W.vret hx hb hr (fun t ht hW => ⟨⟨(), rfl, trivial, by dsimp only; rw [ht]; exact (by rw [← ev_sig]; exact hP)⟩, hS.F ht⟩) hS.2.2 dX4_keepEvent_37

set_option maxHeartbeats 4000000 in
set_option maxRecDepth 100000 in
theorem c_X4_scan (l : Launch) (D : va_G) (cy : Nat → ClassId) (A : Nat → Prop) (α : AD) (σ : SG) (hT : ∀ t, t < 8 → σ 20 t ≠ 0 → okT σ t) (hC : ∀ c, c < 24 → σ 11 c ≠ 0 → okC σ c) : Met l yX4_scan wsX4_scan ({ frames := 6, cells := 0, slots := 0, locals := 135 } : Room) (va_Pc [.ref (α 0 0)] (PB D cy A α (CC cy σ α))) (va_Qi (fun (r : Int32) (u : Unit) => r = (F_scan σ).1) (fun u t => PW D A α (CC cy (F_scan σ).2 α) t.heap) A) 0 0 A := by
  refine Met.ofW (cc := cX4_scan) (maxL := 4) (ret := (some .int)) (by decide) rfl ?_
  intro p e s m args below meth c s₁ B hml hv
  obtain ⟨rfl, hP, hK⟩ := hv
  have hx := B.exec
  have hb := B.bytes
  have hr := B.returns
  have hts := atoms_spec (ws := wsX4_scan) B.pre
  have hown : s.vm.findClass RX4 = some m.cls := findClass_of_methodNamed B.named
  have hlocks := B.notSynchronized
  have hiX4 : ∀ w ∈ wsX40, w ∈ wsX4_scan := by decide +kernel
  have hiX3 : ∀ w ∈ wsX30, w ∈ wsX4_scan := by decide +kernel
  have hS : va_S A s.heap s.heap [] := va_S.rf
  have hl := lv_entry ([.ref (α 0 0)]) (n := 4) (Nat.le_of_ble_eq_true rfl)
  rw [lg_entry_eq]
  generalize (lg_sl ([.ref (α 0 0)]) ++ List.replicate (4 - (lg_sl ([.ref (α 0 0)])).length) Slot.unset).toArray = ls at hl ⊢
  have hl : lv_has ls 4 [(0, .ref (α 0 0))] := hl
  skip
  have L18 : ∀ (n : Nat) (gt : Nat) (v : Int32) (τ : SG) (hn : 8 - gt < n) (hg : gt ≤ 8) (hv : v = (scN σ gt).1) (hτ : τ = (scN σ gt).2) (ls : Array Slot) (hl : lv_has ls 4 [(0, .ref (α 0 0)), (1, .int v), (2, .int (nI gt))]) (H : Heap) (locs : List Loc) (hP : PW D A α (CC cy τ α) H) (hS : va_S A s.heap H locs), W p l e ({ frames := 6, cells := 0, slots := 0, locals := 135 } : Room) s m ([.ref (α 0 0)] : List Value).toArray below meth c H locs 0 0 (MQ below (va_Qi (fun (r : Int32) (u : Unit) => r = (F_scan σ).1) (fun u t => PW D A α (CC cy (F_scan σ).2 α) t.heap) A) ([.ref (α 0 0)] : List Value).toArray s 0 0 A) (F0 m 18 ls []) := by
    intro n
    induction n with
    | zero => intro gt v τ hn hg hv hτ ls hl H locs hP hS; exact absurd hn (Nat.not_lt_zero _)
    | succ n ih =>
      intro gt v τ hn hg hv hτ ls hl H locs hP hS
      have hT' : ∀ t, t < 8 → τ 20 t ≠ 0 → okT τ t := by rw [hτ]; exact okT_sc hT gt
      have hC' : ∀ c, c < 24 → τ 11 c ≠ 0 → okC τ c := by rw [hτ]; exact okC_sc hC gt
      refine lv_iload_n hx hb dX4_scan_18 rfl (lv_at hl 2 rfl) ?_
      refine lv_aload_n hx hb dX4_scan_19 rfl (lv_at hl 0 rfl) ?_
      refine pw_get (ref := "TripPanel") (C := RX4) (T := TX4) (N := 11) (ci := 4) (fs := (fsP τ α)) (v := .ref (α 3 0)) hx hb hts hiX4 hown hK hP cc_0 rfl 2 (by decide) (by decide +kernel) rfl rfl dX4_scan_20 ?_
      refine pw_alen (t0 := 4) (v := 8) hx hb hK hP rfl cc_3 rfl dX4_scan_23 ?_
      refine lv_icmp_ge (x := (nI gt)) (y := 8) (tgt := 77) hx hb dX4_scan_24 (by decide) (fun c24 => ?_) (fun c24 => ?_)
      · have hge : gt = 8 := Nat.le_antisymm hg (ige (N := 8) (by omega) (by decide) c24)
        refine lv_iload_n hx hb dX4_scan_77 rfl (lv_at hl 1 rfl) ?_
        have eF : F_scan σ = (v, τ) := by rw [hv, hτ, hge, F_scan]
        exact W.iret (v := v) hx hb hr (fun t ht hW => ⟨⟨_, (), rfl, (by rw [eF]), by dsimp only; rw [ht]; exact (by rw [eF]; exact hP)⟩, hS.F ht⟩) hS.2.2 dX4_scan_78
      · have hlt : gt < 8 := ilt (N := 8) (by omega) (by decide) c24
        refine lv_aload_n hx hb dX4_scan_27 rfl (lv_at hl 0 rfl) ?_
        refine pw_get (ref := "TripPanel") (C := RX4) (T := TX4) (N := 11) (ci := 4) (fs := (fsP τ α)) (v := .ref (α 3 0)) hx hb hts hiX4 hown hK hP cc_0 rfl 2 (by decide) (by decide +kernel) rfl rfl dX4_scan_28 ?_
        refine lv_iload_n hx hb dX4_scan_31 rfl (lv_at hl 2 rfl) ?_
        refine pw_aald (t0 := 4) (C := RX3) (n := 8) (f := (qT τ α)) hx hb hK hP rfl cc_3 gt rfl hlt (by decide) dX4_scan_32 ?_
        rcases qT_cases τ α gt with ⟨eq, hm1⟩ | ⟨eq, hm1⟩
        · rw [eq]
          refine lv_astore_nN (lv' := [(3, .null), (0, .ref (α 0 0)), (1, .int v), (2, .int (nI gt))]) hx hb dX4_scan_33 rfl hl (by decide) rfl (fun ls hl => ?_)
          refine lv_aload_nN hx hb dX4_scan_34 rfl (lv_at hl 0 rfl) ?_
          refine lv_ifnullN (tgt := 71) hx hb dX4_scan_35 (by decide) ?_
          refine lv_iinc (v := (nI (gt + 1))) (lv' := [(2, .int (nI (gt + 1))), (3, .null), (0, .ref (α 0 0)), (1, .int v)]) hx hb dX4_scan_71 hl (k := 3) rfl (nI_1 _) (by decide) rfl (fun ls hl => ?_)
          refine lv_goto (tgt := 18) hx hb dX4_scan_74 (by decide) ?_
          have e1 : scN σ (gt + 1) = scN σ gt := by rw [scN, ← hτ, if_neg (fun q => q.1 hm1)]
          exact ih (gt + 1) v τ (by omega) hlt (by rw [e1]; exact hv) (by rw [e1]; exact hτ) ls (lv_sub hl [2, 3, 0] rfl) _ _ hP hS
        · rw [eq]
          refine lv_astore_n (lv' := [(3, .ref (α 14 gt)), (0, .ref (α 0 0)), (1, .int v), (2, .int (nI gt))]) hx hb dX4_scan_33 rfl hl (by decide) rfl (fun ls hl => ?_)
          refine lv_aload_n hx hb dX4_scan_34 rfl (lv_at hl 0 rfl) ?_
          refine lv_ifnull hx hb dX4_scan_35 ?_
          refine lv_aload_n hx hb dX4_scan_38 rfl (lv_at hl 0 rfl) ?_
          refine pw_get (ref := "TripPanel$Trip") (C := RX3) (T := TX3) (N := 4) (ci := 3) (fs := (fsT τ α gt)) (v := .int (τ 21 gt)) hx hb hts hiX3 hown hK hP (cc_14 hlt hm1) rfl 3 (by decide) (by decide +kernel) rfl rfl dX4_scan_39 ?_
          refine lv_if_ne (x := (τ 21 gt)) (tgt := 71) hx hb dX4_scan_42 (by decide) (fun c42 => ?_) (fun c42 => ?_)
          · refine lv_iinc (v := (nI (gt + 1))) (lv' := [(2, .int (nI (gt + 1))), (3, .ref (α 14 gt)), (0, .ref (α 0 0)), (1, .int v)]) hx hb dX4_scan_71 hl (k := 3) rfl (nI_1 _) (by decide) rfl (fun ls hl => ?_)
            refine lv_goto (tgt := 18) hx hb dX4_scan_74 (by decide) ?_
            have e1 : scN σ (gt + 1) = scN σ gt := by rw [scN, ← hτ, if_neg (fun q => c42 q.2.1)]
            exact ih (gt + 1) v τ (by omega) hlt (by rw [e1]; exact hv) (by rw [e1]; exact hτ) ls (lv_sub hl [2, 3, 0] rfl) _ _ hP hS
          · refine lv_aload_n hx hb dX4_scan_45 rfl (lv_at hl 1 rfl) ?_
            refine lv_aload_n hx hb dX4_scan_46 rfl (lv_at hl 0 rfl) ?_
            refine vp_callSi (W.runV (As := [.ref (α 14 gt)]) (rest := []) ⟨hx, hb, hml, hown, hts⟩ (c_X4_isDue l D cy A α τ gt hlt hm1 (hT' gt hlt hm1) hC') (cwV 1 hts gX4_scan_X4_isDue rfl rfl rfl (by decide +kernel) ⟨Nat.le_of_ble_eq_true rfl, Nat.le_of_ble_eq_true rfl⟩) ⟨pb_blind, pw_recv hP hK cc_0 rfl, pb_pre hP hK⟩ rfl rfl hl.1 rfl (lv_room (Nat.le_of_ble_eq_true rfl)) dX4_scan_47 ⟨Nat.le_of_ble_eq_true rfl, Nat.le_of_ble_eq_true rfl⟩) (fun r hw => ?_)
            rcases hw with ⟨rfl, h2⟩ | ⟨rfl, h2⟩
            · refine lv_if_eq (x := 1) (tgt := 71) hx hb dX4_scan_50 (by decide) (fun c => absurd c (by decide)) (fun c50 => ?_)
              refine lv_aload_n hx hb dX4_scan_53 rfl (lv_at hl 0 rfl) ?_
              refine lv_iconst (v := 1) hx hb dX4_scan_54 (by decide) ?_
              refine pw_put (ref := "TripPanel$Trip") (C := RX3) (T := TX3) (N := 4) (ci := 3) (fs := (fsT τ α gt)) (v := .int 1) (ty := .boolean) hx hb hts hiX3 tyX3 tyX3_ok nmX3 hown hK hP hS (cc_14 hlt hm1) rfl 3 (by decide) (by decide +kernel) rfl rfl (by decide +kernel) rfl rfl (Nat.le_of_ble_eq_true rfl) dX4_scan_55 (fun H locs hP hz hS => ?_)
              rw [cc_t21 (σ := τ) hlt hm1] at hP
              refine lv_aload_n hx hb dX4_scan_58 rfl (lv_at hl 1 rfl) ?_
              refine lv_iload_n hx hb dX4_scan_59 rfl (lv_at hl 3 rfl) ?_
              refine lv_aload_n hx hb dX4_scan_60 rfl (lv_at hl 1 rfl) ?_
              refine lv_aload_n hx hb dX4_scan_61 rfl (lv_at hl 0 rfl) ?_
              refine vp_callSi (W.runV (As := [.ref (α 14 gt)]) (rest := [.int (nI gt), .ref (α 0 0)]) ⟨hx, hb, hml, hown, hts⟩ (c_X4_firstHolding l D cy A α (st τ 21 gt 1) gt hlt hm1 (hT' gt hlt hm1) hC') (cwV 1 hts gX4_scan_X4_firstHolding rfl rfl rfl (by decide +kernel) ⟨Nat.le_of_ble_eq_true rfl, Nat.le_of_ble_eq_true rfl⟩) ⟨pb_blind, pw_recv hP hK cc_0 rfl, pb_pre hP hK⟩ rfl rfl hl.1 rfl (lv_room (Nat.le_of_ble_eq_true rfl)) dX4_scan_62 ⟨Nat.le_of_ble_eq_true rfl, Nat.le_of_ble_eq_true rfl⟩) (fun r hw => ?_)
              subst hw
              refine va_callv (va_runV (As := [.int (nI gt), .int (firstH (st τ 21 gt 1) gt)]) (rest := []) ⟨hx, hb, hml, hown, hts⟩ (c_X4_keepEvent l D cy A α (st τ 21 gt 1) (nI gt) (firstH (st τ 21 gt 1) gt)) (cwV 2 hts gX4_scan_X4_keepEvent rfl rfl rfl (by decide +kernel) ⟨Nat.le_of_ble_eq_true rfl, Nat.le_of_ble_eq_true rfl⟩) ⟨pb_blind, pw_recv hP hK cc_0 rfl, pb_pre hP hK⟩ rfl rfl hl.1 rfl (lv_room (Nat.le_of_ble_eq_true rfl)) dX4_scan_65 ⟨Nat.le_of_ble_eq_true rfl, Nat.le_of_ble_eq_true rfl⟩) hS (fun _ _ h => h) (fun _ h => h) (fun u t H locs ht hvm hw hB hz1 hk1 hS => ?_)
              have hP := hB
              rw [ht] at hP
              refine W.cs (cells' := 0) (slots' := 0) rfl rfl ?_
              refine lv_iinc (v := (v + 1)) (lv' := [(1, .int (v + 1)), (3, .ref (α 14 gt)), (0, .ref (α 0 0)), (2, .int (nI gt))]) hx hb dX4_scan_68 hl (k := 2) rfl rfl (by decide) rfl (fun ls hl => ?_)
              refine lv_iinc (v := (nI (gt + 1))) (lv' := [(2, .int (nI (gt + 1))), (1, .int (v + 1)), (3, .ref (α 14 gt)), (0, .ref (α 0 0))]) hx hb dX4_scan_71 hl (k := 3) rfl (nI_1 _) (by decide) rfl (fun ls hl => ?_)
              refine lv_goto (tgt := 18) hx hb dX4_scan_74 (by decide) ?_
              have e1 : scN σ (gt + 1) = (v + 1, evs (st τ 21 gt 1) gt) := by rw [scN, ← hτ, ← hv, if_pos ⟨hm1, c42, h2⟩]
              exact ih (gt + 1) (v + 1) _ (by omega) hlt (by rw [e1]) (by rw [e1]; rfl) ls (lv_sub hl [3, 1, 0] rfl) _ _ hP hS
            · refine lv_if_eq (x := 0) (tgt := 71) hx hb dX4_scan_50 (by decide) (fun c50 => ?_) (fun c => absurd (by decide) c)
              refine lv_iinc (v := (nI (gt + 1))) (lv' := [(2, .int (nI (gt + 1))), (3, .ref (α 14 gt)), (0, .ref (α 0 0)), (1, .int v)]) hx hb dX4_scan_71 hl (k := 3) rfl (nI_1 _) (by decide) rfl (fun ls hl => ?_)
              refine lv_goto (tgt := 18) hx hb dX4_scan_74 (by decide) ?_
              have e1 : scN σ (gt + 1) = scN σ gt := by rw [scN, ← hτ, if_neg (fun q => h2 q.2.2)]
              exact ih (gt + 1) v τ (by omega) hlt (by rw [e1]; exact hv) (by rw [e1]; exact hτ) ls (lv_sub hl [2, 3, 0] rfl) _ _ hP hS
  refine lv_aload_n hx hb dX4_scan_0 rfl (lv_at hl 0 rfl) ?_
  refine lv_dup hx hb dX4_scan_1 rfl ?_
  refine pw_get (ref := "TripPanel") (C := RX4) (T := TX4) (N := 11) (ci := 4) (fs := (fsP σ α)) (v := .int (σ 25 0)) hx hb hts hiX4 hown hK hP cc_0 rfl 6 (by decide) (by decide +kernel) rfl rfl dX4_scan_2 ?_
  refine lv_iconst (v := 1) hx hb dX4_scan_5 (by decide) ?_
  refine lv_iadd hx hb dX4_scan_6 ?_
  refine pw_put (ref := "TripPanel") (C := RX4) (T := TX4) (N := 11) (ci := 4) (fs := (fsP σ α)) (v := .int ((σ 25 0) + 1)) (ty := .int) hx hb hts hiX4 tyX4 tyX4_ok nmX4 hown hK hP hS cc_0 rfl 6 (by decide) (by decide +kernel) rfl rfl (by decide +kernel) rfl rfl (Nat.le_of_ble_eq_true rfl) dX4_scan_7 (fun H locs hP hz hS => ?_)
  rw [cc_p25 (σ := σ)] at hP
  refine lv_aload_n hx hb dX4_scan_10 rfl (lv_at hl 0 rfl) ?_
  refine va_callv (va_runV (As := []) (rest := []) ⟨hx, hb, hml, hown, hts⟩ (c_X4_ageGauges l D cy A α (st σ 25 0 ((σ 25 0) + 1))) (cwV 0 hts gX4_scan_X4_ageGauges rfl rfl rfl (by decide +kernel) ⟨Nat.le_of_ble_eq_true rfl, Nat.le_of_ble_eq_true rfl⟩) ⟨pb_blind, pw_recv hP hK cc_0 rfl, pb_pre hP hK⟩ rfl rfl hl.1 rfl (lv_room (Nat.le_of_ble_eq_true rfl)) dX4_scan_11 ⟨Nat.le_of_ble_eq_true rfl, Nat.le_of_ble_eq_true rfl⟩) hS (fun _ _ h => h) (fun _ h => h) (fun u t H locs ht hvm hw hB hz1 hk1 hS => ?_)
  have hP := hB
  rw [ht] at hP
  refine W.cs (cells' := 0) (slots' := 0) rfl rfl ?_
  refine lv_iconst (v := 0) hx hb dX4_scan_14 (by decide) ?_
  refine lv_istore_n (lv' := [(1, .int 0), (0, .ref (α 0 0))]) hx hb dX4_scan_15 rfl hl (by decide) rfl (fun ls hl => ?_)
  refine lv_iconst (v := 0) hx hb dX4_scan_16 (by decide) ?_
  refine lv_istore_n (lv' := [(2, .int 0), (1, .int 0), (0, .ref (α 0 0))]) hx hb dX4_scan_17 rfl hl (by decide) rfl (fun ls hl => ?_)
  exact L18 9 0 0 _ (by decide) (by decide) rfl (sc_00 σ) ls (lv_sub hl [2, 1, 0] rfl) _ _ hP hS
