def aC (n : Nat) : AD := fun k _ => match k with
  | 0 => n
  | 1 => n + 1 + 0
  | 2 => n + 1 + 1
  | 3 => n + 1 + 2
  | 4 => n + 1 + 3
  | 7 => n + 1 + 4
  | 5 => n + 1 + 5
  | 8 => n + 1 + 6
  | 6 => n + 1 + 7
  | 9 => n + 1 + 8
  | 40 => n + 1 + 9
  | _ => 0
def aR (n : Nat) : AD := fun k _ => n + 10 + k
theorem PW.restrict {D : va_G} {A B : Nat → Prop} {α : AD} {cell : CF} {H : Heap} (h : PW D A α cell H) (hB : ∀ k i e, cell k i = some e → B (α k i)) : PW D B α cell H :=
  ⟨fun k i e hc => ⟨(h.1 k i e hc).1, hB k i e hc⟩, h.2⟩
theorem PW.drop {D : va_G} {A : Nat → Prop} {α : AD} {cell : CF} {H : Heap} {k i : Nat} {e : va_E} (h : PW D A α (pw_up cell k i e) H) (hn : cell k i = Option.none) : PW D A α cell H := by
  have up : ∀ a b x, cell a b = some x → pw_up cell k i e a b = some x := fun a b x hx => by
    rw [pw_up_ne (fun q => by rw [q.1, q.2, hn] at hx; cases hx)]
    exact hx
  exact ⟨fun a b x hx => h.1 a b x (up a b x hx), fun a b x a' b' x' hx hx' hE => h.2 _ _ _ _ _ _ (up a b x hx) (up a' b' x' hx') hE⟩
theorem c00_some {ci a b : Nat} {fs : List Value} {x : va_E} (hx : c00 ci fs a b = some x) : a = 0 ∧ b = 0 ∧ x = .inr (ci, fs) := by
  by_cases hab : a = 0 ∧ b = 0
  · obtain ⟨rfl, rfl⟩ := hab
    unfold c00 at hx
    rw [pw_up_self] at hx
    cases hx
    exact ⟨rfl, rfl, rfl⟩
  · unfold c00 at hx
    rw [pw_up_ne hab] at hx
    cases hx
theorem PW.only {D : va_G} {A B : Nat → Prop} {α β : AD} {cell : CF} {H : Heap} {k i ci : Nat} {fs : List Value} (h : PW D A α cell H) (hc : cell k i = some (.inr (ci, fs))) (hq : β 0 0 = α k i) (hB : B (α k i)) : PW D B β (c00 ci fs) H := by
  refine ⟨fun a b x hx => ?_, fun a b x a' b' x' hx hx' _ => ?_⟩
  · obtain ⟨rfl, rfl, rfl⟩ := c00_some hx
    rw [hq]
    exact ⟨(h.1 k i _ hc).1, hB⟩
  · obtain ⟨rfl, rfl, -⟩ := c00_some hx
    obtain ⟨rfl, rfl, -⟩ := c00_some hx'
    exact ⟨rfl, rfl⟩
set_option maxHeartbeats 4000000 in
set_option maxRecDepth 100000 in
/-- THE LAW, from its entry -/
theorem whole_start {p : Program} {e : Env} {s : State} {m : MethodId} {below : List Frame} {meth : Method} {c : Code} (l : Launch) {b L : Nat} {xs : Nat → Int32} (hL : L ≤ 3072) (C0 : lw_At p s m meth c b L xs) : W p l e room_1 s m #[Value.ref b] below meth c s.heap [] 0 0 (lw_Z below #[Value.ref b] s) (entryFrame m ([Value.ref b] : List Value).toArray 4) := by
  obtain ⟨hx, hb, hr, hml, hown, hts0, hX, hbl, hlocks, hgv⟩ := id C0
  have ho1 : va_AO RX1 s := va_AO.of (hts0 (.arrayOver (.object RX1)) (by decide +kernel))
  have ho0 : va_AO RX0 s := va_AO.of (hts0 (.arrayOver (.object RX0)) (by decide +kernel))
  have ho3 : va_AO RX3 s := va_AO.of (hts0 (.arrayOver (.object RX3)) (by decide +kernel))
  have hts : ∀ w ∈ wsL_law, w.before #[Value.ref b] s = true := fun w h => hts0 w (wsL_law_in w h)
  obtain ⟨D, cy, hK⟩ := law_know hts ho1 ho0 ho3
  have hown : s.vm.findClass RL = some m.cls := hown
  have hb : c.code = cL_law := hb
  obtain ⟨n, hn⟩ : ∃ n, n = s.heap.size := ⟨_, rfl⟩
  have hS : va_S (A0 s) s.heap s.heap [] := va_S.rf
  have hP : PW D (A0 s) (aC n) (fun _ _ => none) s.heap := PW.none
  have hl := lv_entry ([.ref b]) (n := 4) (Nat.le_of_ble_eq_true rfl)
  rw [lg_entry_eq]
  generalize (lg_sl ([.ref b]) ++ List.replicate (4 - (lg_sl ([.ref b])).length) Slot.unset).toArray = ls at hl ⊢
  have hl : lv_has ls 4 [(0, .ref b)] := hl
  refine px_new (own := RL) (C := RX4) (T := TX4) (N := 11) (ci := 4) (fs := [.null, .null, .null, .null, .null, .null, .int 0, .int 0, .int 0, .int 0, .int 0]) hx hb hts inlX4 tyX4 tyX4_ok hown (by decide +kernel) (by decide +kernel) (by decide +kernel) hK hP hS 0 0 hn.symm rfl (by show s.heap.size ≤ n; omega) rfl (fun j hj => by rcases (show j = 0 ∨ j = 1 ∨ j = 2 ∨ j = 3 ∨ j = 4 ∨ j = 5 ∨ j = 6 ∨ j = 7 ∨ j = 8 ∨ j = 9 ∨ j = 10 by omega) with rfl | rfl | rfl | rfl | rfl | rfl | rfl | rfl | rfl | rfl | rfl <;> rfl) (Nat.le_of_ble_eq_true rfl) (Nat.le_of_ble_eq_true rfl) dL_law_0 (fun H hP hsz hS => ?_)
  refine lv_dup hx hb dL_law_3 rfl ?_
  refine va_callv (va_runI (As := []) (rest := [.ref (aC n 0 0)]) ⟨hx, hb, hml, hown, hts⟩ (c_X4_init l D cy (A0 s) (aC n) (n + 1) (fun q h => by show s.heap.size ≤ q; omega) rfl rfl rfl rfl rfl rfl rfl rfl rfl) (cwI 0 hts gL_law_X4_init rfl rfl rfl (hts (.initialized RX4) (by decide +kernel)) (hts (.methodLink RL 9 yX4_init) (by decide +kernel)) (hts (.instanceMethod yX4_init) (by decide +kernel)) rfl (by decide +kernel) ⟨Nat.le_of_ble_eq_true rfl, Nat.le_of_ble_eq_true rfl⟩) ⟨py_blind, py_pre hP hK hsz ho1 ho0 ho3⟩ rfl rfl hl.1 rfl (lv_room (Nat.le_of_ble_eq_true rfl)) dL_law_4 ⟨Nat.le_of_ble_eq_true rfl, Nat.le_of_ble_eq_true rfl⟩) hS (fun _ _ h => h) (fun _ h => h) (fun u t H locs ht hvm hw hB hz1 hk1 hS => ?_)
  obtain ⟨hPc, hsz⟩ := hB
  rw [ht] at hPc hsz
  clear hP hk1 hz1 ht hvm hw
  refine lv_astore_n (lv' := [(1, .ref (aC n 0 0)), (0, .ref b)]) hx hb dL_law_7 rfl hl (by decide) rfl (fun ls hl => ?_)
  have hac : ∀ k i e, CC cy σ0 (aC n) k i = some e → AC s (aC n k i) := fun k i e he => by
    have h := hPc.1 k i e he
    have h1 := h.1.lt
    exact ⟨h.2, fun q => by have := q.1; omega⟩
  refine px_new (own := RL) (C := RX5) (T := TX5) (N := 30) (ci := 5) (fs := fsp (aR n) 0) hx hb hts inlX5 tyX5 tyX5_ok hown (by decide +kernel) (by decide +kernel) (by decide +kernel) hK hPc hS 40 0 hsz rfl (by show s.heap.size ≤ n + 1 + 9; omega) rfl (fun j hj => by rcases (show j = 0 ∨ j = 1 ∨ j = 2 ∨ j = 3 ∨ j = 4 ∨ j = 5 ∨ j = 6 ∨ j = 7 ∨ j = 8 ∨ j = 9 ∨ j = 10 ∨ j = 11 ∨ j = 12 ∨ j = 13 ∨ j = 14 ∨ j = 15 ∨ j = 16 ∨ j = 17 ∨ j = 18 ∨ j = 19 ∨ j = 20 ∨ j = 21 ∨ j = 22 ∨ j = 23 ∨ j = 24 ∨ j = 25 ∨ j = 26 ∨ j = 27 ∨ j = 28 ∨ j = 29 by omega) with rfl | rfl | rfl | rfl | rfl | rfl | rfl | rfl | rfl | rfl | rfl | rfl | rfl | rfl | rfl | rfl | rfl | rfl | rfl | rfl | rfl | rfl | rfl | rfl | rfl | rfl | rfl | rfl | rfl | rfl <;> rfl) (Nat.le_of_ble_eq_true rfl) (Nat.le_of_ble_eq_true rfl) dL_law_8 (fun H hPn hsz hS => ?_)
  have e40 : aC n 40 0 = aR n 0 0 := by show n + 1 + 9 = n + 10 + 0; omega
  have hPr : PW D (AR s) (aR n) (CRp cy (aR n) 0) H := by
    rw [← crp_0]
    exact hPn.only (pw_up_self _ _ _ _) e40.symm ⟨by show s.heap.size + 10 ≤ n + 1 + 9; omega, by show n + 1 + 9 < s.heap.size + 36; omega⟩
  have hPc : PW D (AC s) (aC n) (CC cy σ0 (aC n)) H := (hPn.drop rfl).restrict hac
  clear hPn hac
  rw [e40]
  refine lv_dup hx hb dL_law_11 rfl ?_
  refine va_callv (va_runI (As := []) (rest := [.ref (aR n 0 0)]) ⟨hx, hb, hml, hown, hts⟩ (c_X5_init l D cy (AR s) (aR n) (n + 1 + 9 + 1) (fun q h1 h2 => ⟨by omega, by omega⟩) (fun k hk => by show n + 10 + (k + 1) = n + 1 + 9 + 1 + k; omega)) (cwI 0 hts gL_law_X5_init rfl rfl rfl (hts (.initialized RX5) (by decide +kernel)) (hts (.methodLink RL 12 yX5_init) (by decide +kernel)) (hts (.instanceMethod yX5_init) (by decide +kernel)) rfl (by decide +kernel) ⟨Nat.le_of_ble_eq_true rfl, Nat.le_of_ble_eq_true rfl⟩) ⟨px_blind, px_pre hPr hK hsz⟩ rfl rfl hl.1 rfl (lv_room (Nat.le_of_ble_eq_true rfl)) dL_law_12 ⟨Nat.le_of_ble_eq_true rfl, Nat.le_of_ble_eq_true rfl⟩) hS (fun q _ h => by have := h.1; show s.heap.size ≤ q; omega) (fun q h => by have := h.1; show s.heap.size ≤ q; omega) (fun u t H locs ht hvm hw hB hz1 hk1 hS => ?_)
  obtain ⟨hPr, hsz⟩ := hB
  rw [ht] at hPr hsz
  have hPc := keptC hPc hk1
  clear hk1 hz1 ht hvm hw
  refine lv_astore_n (lv' := [(2, .ref (aR n 0 0)), (1, .ref (aC n 0 0)), (0, .ref b)]) hx hb dL_law_15 rfl hl (by decide) rfl (fun ls hl => ?_)
  refine lv_iconst (v := 0) hx hb dL_law_16 (by decide) ?_
  refine lv_istore_n (lv' := [(3, .int (nI 0)), (2, .ref (aR n 0 0)), (1, .ref (aC n 0 0)), (0, .ref b)]) hx hb dL_law_17 rfl hl (by decide) rfl (fun ls hl => ?_)
  refine law_loop hL hx hb hml hown hts hX hbl hK ?_ (L + 1) 0 0 (by omega) (Nat.zero_le _) rfl _ _ _ _ σ0 (aC n) (aR n) ls hl ⟨hPc, hPr, inv_0, hS, by omega, Nat.le_of_ble_eq_true rfl, Nat.le_of_ble_eq_true rfl, Nat.le_of_ble_eq_true rfl⟩
  intro H locs cells slots ls hS h1 h2
  refine va_forget (fun q hq => hS.2.2 q hq) ?_
  refine W.widen (k := 600000) (n := 7302250) (by omega) (by omega) ?_
  refine lv_iconst (v := 1) hx hb dL_law_1098 (by decide) ?_
  exact W.base (lw_ret (Drawn.sameBut.refl s.drawn lw_cs) hx hb hr hlocks dL_law_1099)
