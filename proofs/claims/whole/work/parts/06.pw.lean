/-! A world of cells by kind and number: 'cell k i' is what the cell of kind k, number i holds (none: it isn't there), 'α k i' is where it lies. -/
abbrev SG : Type := Nat → Nat → Int32
abbrev AD : Type := Nat → Nat → Nat
abbrev CF : Type := Nat → Nat → Option va_E
abbrev TY (cy : Nat → ClassId) : List (ClassId × FieldType) := [(cy 0, .int), (cy 1, .boolean), (cy 2, .object RX1), (cy 3, .object RX0), (cy 4, .object RX3)]
def pw_up (cell : CF) (k i : Nat) (e : va_E) : CF := fun a b => if a = k ∧ b = i then some e else cell a b
def ad_up (α : AD) (k i q : Nat) : AD := fun a b => if a = k ∧ b = i then q else α a b
theorem pw_up_self (cell : CF) (k i : Nat) (e : va_E) : pw_up cell k i e k i = some e := by simp [pw_up]
theorem pw_up_ne {cell : CF} {k i a b : Nat} {e : va_E} (h : ¬ (a = k ∧ b = i)) : pw_up cell k i e a b = cell a b := by simp only [pw_up]; rw [if_neg h]
theorem ad_up_self (α : AD) (k i q : Nat) : ad_up α k i q k i = q := by simp [ad_up]
theorem ad_up_ne {α : AD} {k i a b q : Nat} (h : ¬ (a = k ∧ b = i)) : ad_up α k i q a b = α a b := by simp only [ad_up]; rw [if_neg h]
def PW (D : va_G) (A : Nat → Prop) (α : AD) (cell : CF) (H : Heap) : Prop :=
  (∀ k i e, cell k i = some e → va_at D vwCl (α k i, e) H ∧ A (α k i)) ∧
    ∀ k i e k' i' e', cell k i = some e → cell k' i' = some e' → α k i = α k' i' → k = k' ∧ i = i'
theorem PW.one {D : va_G} {A : Nat → Prop} {α : AD} {cell : CF} {H : Heap} (h : PW D A α cell H) {k i : Nat} {e : va_E} (hc : cell k i = some e) : va_P D vwCl [(α k i, e)] H := by
  intro n q hq
  cases n with
  | zero => cases hq; exact (h.1 k i e hc).1
  | succ n => simp at hq
theorem PW.kept {D : va_G} {A : Nat → Prop} {α : AD} {cell : CF} {H H1 : Heap} (h : PW D A α cell H) (hk : ∀ q, q < H.size → A q → H1[q]? = H[q]?) : PW D A α cell H1 :=
  ⟨fun k i e hc => ⟨(h.1 k i e hc).1.kept (hk _ (h.1 k i e hc).1.lt (h.1 k i e hc).2), (h.1 k i e hc).2⟩, h.2⟩
theorem PW.weaken {D : va_G} {A B : Nat → Prop} {α : AD} {cell : CF} {H : Heap} (h : PW D A α cell H) (hk : ∀ q, q < H.size → A q → B q) : PW D B α cell H :=
  ⟨fun k i e hc => ⟨(h.1 k i e hc).1, hk _ (h.1 k i e hc).1.lt (h.1 k i e hc).2⟩, h.2⟩
theorem pw_live {cell : CF} {k i a b : Nat} {e0 e x : va_E} (hc : cell k i = some e0) (hx : pw_up cell k i e a b = some x) : ∃ y, cell a b = some y := by
  by_cases hab : a = k ∧ b = i
  · obtain ⟨rfl, rfl⟩ := hab; exact ⟨_, hc⟩
  · rw [pw_up_ne hab] at hx; exact ⟨_, hx⟩
theorem PW.set {D : va_G} {A : Nat → Prop} {α : AD} {cell : CF} {H H1 : Heap} (h : PW D A α cell H) {k i : Nat} {e0 e : va_E} (hc : cell k i = some e0) (he : va_at D vwCl (α k i, e) H1) (oq : ∀ q, q ≠ α k i → H1[q]? = H[q]?) : PW D A α (pw_up cell k i e) H1 := by
  refine ⟨fun a b x hx => ?_, fun a b x a' b' x' hx hx' hE => ?_⟩
  · by_cases hab : a = k ∧ b = i
    · obtain ⟨rfl, rfl⟩ := hab
      rw [pw_up_self] at hx
      cases hx
      exact ⟨he, (h.1 _ _ _ hc).2⟩
    · rw [pw_up_ne hab] at hx
      exact ⟨(h.1 a b x hx).1.kept (oq _ (fun z => hab (h.2 _ _ _ _ _ _ hx hc z))), (h.1 a b x hx).2⟩
  · obtain ⟨y, hy⟩ := pw_live hc hx
    obtain ⟨y', hy'⟩ := pw_live hc hx'
    exact h.2 _ _ _ _ _ _ hy hy' hE
theorem PW.grow {D : va_G} {A : Nat → Prop} {α : AD} {cell : CF} {H H1 : Heap} (h : PW D A α cell H) {k i : Nat} {e : va_E} (he : va_at D vwCl (H.size, e) H1) (hA : A H.size) (oq : ∀ q, q < H.size → H1[q]? = H[q]?) : PW D A (ad_up α k i H.size) (pw_up cell k i e) H1 := by
  refine ⟨fun a b x hx => ?_, fun a b x a' b' x' hx hx' hE => ?_⟩
  · by_cases hab : a = k ∧ b = i
    · obtain ⟨rfl, rfl⟩ := hab
      rw [pw_up_self] at hx
      cases hx
      rw [ad_up_self]
      exact ⟨he, hA⟩
    · rw [pw_up_ne hab] at hx
      rw [ad_up_ne hab]
      exact ⟨(h.1 a b x hx).1.kept (oq _ (h.1 a b x hx).1.lt), (h.1 a b x hx).2⟩
  · by_cases hab : a = k ∧ b = i <;> by_cases hab' : a' = k ∧ b' = i
    · exact ⟨hab.1.trans hab'.1.symm, hab.2.trans hab'.2.symm⟩
    · rw [pw_up_ne hab'] at hx'
      have := (h.1 a' b' x' hx').1.lt
      obtain ⟨rfl, rfl⟩ := hab
      rw [ad_up_self, ad_up_ne hab'] at hE
      exact absurd hE (Nat.ne_of_gt this)
    · rw [pw_up_ne hab] at hx
      have := (h.1 a b x hx).1.lt
      obtain ⟨rfl, rfl⟩ := hab'
      rw [ad_up_self, ad_up_ne hab] at hE
      exact absurd hE (Nat.ne_of_lt this)
    · rw [pw_up_ne hab] at hx
      rw [pw_up_ne hab'] at hx'
      rw [ad_up_ne hab, ad_up_ne hab'] at hE
      exact h.2 _ _ _ _ _ _ hx hx' hE
/-- what a method's start says of its world -/
def PB (D : va_G) (cy : Nat → ClassId) (A : Nat → Prop) (α : AD) (cell : CF) (U : State) : Prop := PW D A α cell U.heap ∧ va_K D vwCl (TY cy) U
def PN (D : va_G) (cy : Nat → ClassId) (A : Nat → Prop) (α : AD) (cell : CF) (n : Nat) (U : State) : Prop := PB D cy A α cell U ∧ n ≤ U.heap.size
theorem pb_blind {av : List Value} {D : va_G} {cy : Nat → ClassId} {A : Nat → Prop} {α : AD} {cell : CF} : FrameBlind (va_Pc av (PB D cy A α cell)) := fun a U g mk q => ⟨q.1, q.2.1, va_K.moved (u := U) (U := U.calling g mk a) (Vm.Alike.refl U.vm) q.2.2⟩
theorem pn_blind {av : List Value} {D : va_G} {cy : Nat → ClassId} {A : Nat → Prop} {α : AD} {cell : CF} {n : Nat} : FrameBlind (va_Pc av (PN D cy A α cell n)) := fun a U g mk q => ⟨q.1, ⟨q.2.1.1, va_K.moved (u := U) (U := U.calling g mk a) (Vm.Alike.refl U.vm) q.2.1.2⟩, q.2.2⟩
theorem pt_blind {av : List Value} : FrameBlind (va_Pc av (fun _ => True)) := fun _ _ _ _ q => ⟨q.1, trivial⟩
theorem pb_pre {av : List Value} {D : va_G} {cy : Nat → ClassId} {A : Nat → Prop} {α : AD} {cell : CF} {s : State} {H : Heap} (hP : PW D A α cell H) (hK : va_K D vwCl (TY cy) s) : ∀ U : State, U.heap = H → s.WarmedH U.vm → va_Pc av (PB D cy A α cell) av.toArray U := fun U hU hW => ⟨rfl, by rw [hU]; exact hP, va_K.moved hW.alike hK⟩
theorem pn_pre {av : List Value} {D : va_G} {cy : Nat → ClassId} {A : Nat → Prop} {α : AD} {cell : CF} {s : State} {H : Heap} {n : Nat} (hP : PW D A α cell H) (hK : va_K D vwCl (TY cy) s) (hn : n ≤ H.size) : ∀ U : State, U.heap = H → s.WarmedH U.vm → va_Pc av (PN D cy A α cell n) av.toArray U := fun U hU hW => ⟨rfl, ⟨by rw [hU]; exact hP, va_K.moved hW.alike hK⟩, by rw [hU]; exact hn⟩
theorem pt_pre {av : List Value} {s : State} {H : Heap} : ∀ U : State, U.heap = H → s.WarmedH U.vm → va_Pc av (fun _ => True) av.toArray U := fun _ _ _ => ⟨rfl, trivial⟩
theorem pw_recv {s : State} {D : va_G} {cy : Nat → ClassId} {A : Nat → Prop} {α : AD} {cell : CF} {H : Heap} {k i ci : Nat} {q : vw_C} {fs : List Value} (hP : PW D A α cell H) (hK : va_K D vwCl (TY cy) s) (hc : cell k i = some (.inr (ci, fs))) (hq : vwCl[ci]? = some q) : ∃ cell : Cell, H[α k i]? = some cell ∧ cell.vm.isStatics = false ∧ s.vm.findClass q.1 = some cell.cls := va_recv hK (hP.one hc) hq (q0 := 0) rfl
/-- a yes or no, as an int -/
def bq (r : Int32) (p : Prop) : Prop := (r = 1 ∧ p) ∨ (r = 0 ∧ ¬ p)
theorem bq_t {p : Prop} (h : p) : bq 1 p := Or.inl ⟨rfl, h⟩
theorem bq_f {p : Prop} (h : ¬ p) : bq 0 p := Or.inr ⟨rfl, h⟩
section PWR
variable {p : Program} {l : Launch} {e : Env} {R : Room} {s : State} {m : MethodId} {args : Array Value} {below : List Frame} {meth : Method} {c : Code} {H : Heap} {locs : List Loc} {cells slots : Nat} {Q : State → Prop}
variable {cc : ByteArray} {pc : Nat} {ls : Array Slot} {rest : List Value} {D : va_G} {cy : Nat → ClassId} {A : Nat → Prop} {α : AD} {cell : CF} {H0 : Heap}
theorem pw_get (hexec : p.tables.exec = Jvm.exec) (hb : c.code = cc) {own ref C : String} {T : u_T} {N ci index : Nat} {Ts : List Cond} (hts : ∀ w ∈ Ts, w.before args s = true) (hin : ∀ w ∈ u_ws C T N, w ∈ Ts) (hown : s.vm.findClass own = some m.cls) (hK : va_K D vwCl (TY cy) s) (hP : PW D A α cell H) {kd i : Nat} {fs : List Value} (hc : cell kd i = some (.inr (ci, fs))) (hcl : vwCl[ci]? = some (C, T, N)) (k : Nat) (hk : k < N) (hlink : Cond.fieldLink own index ref (T k).2.1 (T k).2.2.1 ∈ Ts) (hsame : ref = (T k).1) {v : Value} (hv : fs[k]? = some v) (hdg : decode cc pc = .ok (.getfield index, 3))
    (kk : W p l e R s m args below meth c H locs cells slots Q (F0 m (pc + 3) ls (v :: rest))) : W p l e R s m args below meth c H locs cells slots Q (F0 m pc ls (.ref (α kd i) :: rest)) :=
  va_get (ref := ref) hexec hb hts hin hown hK (hP.one hc) 0 rfl hcl k hk (hts _ hlink) (fun x hx => by rw [hsame]; exact hx) hv hdg kk
theorem pw_put (hexec : p.tables.exec = Jvm.exec) (hb : c.code = cc) {own ref C : String} {T : u_T} {N ci index : Nat} {Ts : List Cond} (hts : ∀ w ∈ Ts, w.before args s = true) (hin : ∀ w ∈ u_ws C T N, w ∈ Ts) (ty0 : Nat → FieldType) (hty : ∀ k, k < N → parseFieldDescriptor (T k).2.2.1 = some (ty0 k)) (hnm : ∀ a, a < N → ∀ b, b < N → a ≠ b → (T a).2.1 ≠ (T b).2.1) (hown : s.vm.findClass own = some m.cls) (hK : va_K D vwCl (TY cy) s) (hP : PW D A α cell H) (hS0 : va_S A H0 H locs) {kd i : Nat} {fs : List Value} (he : cell kd i = some (.inr (ci, fs))) (hc : vwCl[ci]? = some (C, T, N)) (k : Nat) (hk : k < N) (hlink : Cond.fieldLink own index ref (T k).2.1 (T k).2.2.1 ∈ Ts) (hsame : ref = (T k).1) (hfin : (T k).2.2.2 = false) {ty : FieldType} {v : Value} (hd : parseFieldDescriptor (T k).2.2.1 = some ty) (hn : narrow ty v = v) (hfit : fits ty v = true) (hl : k < fs.length)
    (hdg : decode cc pc = .ok (.putfield index, 3)) (kk : ∀ (H1 : Heap) (locs1 : List Loc), PW D A α (pw_up cell kd i (.inr (ci, fs.set k v))) H1 → H1.size = H.size → va_S A H0 H1 locs1 → W p l e R s m args below meth c H1 locs1 cells slots Q (F0 m (pc + 3) ls rest)) : W p l e R s m args below meth c H locs cells slots Q (F0 m pc ls (v :: .ref (α kd i) :: rest)) := by
  have hap := va_apart (own := own) hts hin ty0 hty hnm hK hc
  obtain ⟨⟨r, h1, cl0, q1, q2, q3, q4⟩, hAa⟩ := hP.1 kd i _ he
  have hr : r = (C, T, N) := Option.some.inj (h1.symm.trans hc)
  subst hr
  obtain ⟨hS, hfc, kC, hkC, hkind⟩ := hK.1 ci _ hc
  obtain ⟨cf, kf, fi, f, hi, hsl⟩ := hS k hk
  have hlay := hts _ (hin _ (u_in_lay hk))
  unfold u_lay at hlay
  rw [if_neg (by rw [hfin]; decide)] at hlay
  have hst := (u_facts hfc hkC (u_lays hts hin hk) hi).1
  have h6 := u_store hfc hkC hkind hlay hi hd hn hfit
  refine W.putK hexec hb (f := f) (ref := ref) ⟨hown, hts _ hlink, ⟨_, _, _, by rw [hsame]; exact hi⟩, hst⟩ (by rw [q2]; exact h6) q1 q3 (by rw [hsl]; exact k2_hasslot (q4 k hk)) rfl rfl hdg fun H' e1 e2 e3 => ?_
  rw [hsl] at e1 ⊢
  exact kk H' _ (hP.set he ⟨_, hc, t_OB.to (V := updV (vp_V fs) k v) ⟨_, e1, q2, q3, t_set q4 hap hk v⟩ (fun j _ => vp_updV_set hl v j)⟩ e3) e2 (hS0.put e2 e3 hAa)
theorem pw_putF (hexec : p.tables.exec = Jvm.exec) (hb : c.code = cc) {own ref C : String} {T : u_T} {N ci index : Nat} {Ts : List Cond} (hts : ∀ w ∈ Ts, w.before args s = true) (hin : ∀ w ∈ u_ws C T N, w ∈ Ts) (ty0 : Nat → FieldType) (hty : ∀ k, k < N → parseFieldDescriptor (T k).2.2.1 = some (ty0 k)) (hnm : ∀ a, a < N → ∀ b, b < N → a ≠ b → (T a).2.1 ≠ (T b).2.1) (hown : s.vm.findClass own = some m.cls) (hK : va_K D vwCl (TY cy) s) (hP : PW D A α cell H) (hS0 : va_S A H0 H locs) {kd i : Nat} {fs : List Value} (he : cell kd i = some (.inr (ci, fs))) (hc : vwCl[ci]? = some (C, T, N)) (k : Nat) (hk : k < N) (hlink : Cond.fieldLink own index ref (T k).2.1 (T k).2.2.1 ∈ Ts) (hsame : ref = (T k).1) (hfin : (T k).2.2.2 = true) (hin2 : meth.name = "<init>") (hdecl : (T k).1 = own) {ty : FieldType} {v : Value} (hd : parseFieldDescriptor (T k).2.2.1 = some ty) (hn : narrow ty v = v) (hfit : fits ty v = true) (hl : k < fs.length)
    (hdg : decode cc pc = .ok (.putfield index, 3)) (kk : ∀ (H1 : Heap) (locs1 : List Loc), PW D A α (pw_up cell kd i (.inr (ci, fs.set k v))) H1 → H1.size = H.size → va_S A H0 H1 locs1 → W p l e R s m args below meth c H1 locs1 cells slots Q (F0 m (pc + 3) ls rest)) : W p l e R s m args below meth c H locs cells slots Q (F0 m pc ls (v :: .ref (α kd i) :: rest)) := by
  have hap := va_apart (own := own) hts hin ty0 hty hnm hK hc
  obtain ⟨⟨r, h1, cl0, q1, q2, q3, q4⟩, hAa⟩ := hP.1 kd i _ he
  have hr : r = (C, T, N) := Option.some.inj (h1.symm.trans hc)
  subst hr
  obtain ⟨hS, hfc, kC, hkC, hkind⟩ := hK.1 ci _ hc
  obtain ⟨cf, kf, fi, f, hi, hsl⟩ := hS k hk
  have hlay := hts _ (hin _ (u_in_lay hk))
  unfold u_lay at hlay
  rw [if_pos hfin] at hlay
  have hst := (u_facts hfc hkC (u_lays hts hin hk) hi).1
  have hcf : m.cls = cf := by
    obtain ⟨_, _, c', _, _, _, -, -, hf', -, -, -, hown2, -⟩ := Cond.laysFinal_spec hlay
    have e1 : c' = cf := by have := hi.symm.trans hf'; simp at this; exact this.1.symm
    rw [hdecl] at hown2
    rw [← e1]; exact Option.some.inj (hown.symm.trans hown2)
  have h6 := u_fits hfc hkC hkind (Or.inr hlay) hi hd hn hfit
  refine W.putFinK hexec hb hown (ref := ref) (hts _ hlink) (by rw [hsame]; exact hi) hst hcf hin2 (by rw [q2]; exact h6) q1 q3 (by rw [hsl]; exact k2_hasslot (q4 k hk)) rfl rfl hdg fun H' e1 e2 e3 => ?_
  rw [hsl] at e1 ⊢
  exact kk H' _ (hP.set he ⟨_, hc, t_OB.to (V := updV (vp_V fs) k v) ⟨_, e1, q2, q3, t_set q4 hap hk v⟩ (fun j _ => vp_updV_set hl v j)⟩ e3) e2 (hS0.put e2 e3 hAa)
theorem pw_iald (hexec : p.tables.exec = Jvm.exec) (hb : c.code = cc) (hK : va_K D vwCl (TY cy) s) (hP : PW D A α cell H) {kd i : Nat} {n : Nat} {f : Nat → Int32} (ha : cell kd i = some (.inl (cy 0, n, .inl f))) {x : Int32} (j : Nat) (hx : x = nI j) (hj : j < n) (hn : n < 2 ^ 31) (hdg : decode cc pc = .ok (.iaload, 1))
    (kk : W p l e R s m args below meth c H locs cells slots Q (F0 m (pc + 1) ls (.int (f j) :: rest))) : W p l e R s m args below meth c H locs cells slots Q (F0 m pc ls (.int x :: .ref (α kd i) :: rest)) := by
  subst hx
  refine va_iald hexec hb hK (hP.one ha) 0 0 rfl rfl (vp_in_nI hj hn) hdg ?_
  rw [nI_clamp (Nat.lt_trans hj hn)]
  exact kk
theorem pw_zald (hexec : p.tables.exec = Jvm.exec) (hb : c.code = cc) (hK : va_K D vwCl (TY cy) s) (hP : PW D A α cell H) {kd i : Nat} {n : Nat} {f : Nat → Int32} (ha : cell kd i = some (.inl (cy 1, n, .inl f))) {x : Int32} (j : Nat) (hx : x = nI j) (hj : j < n) (hn : n < 2 ^ 31) (hdg : decode cc pc = .ok (.baload, 1))
    (kk : W p l e R s m args below meth c H locs cells slots Q (F0 m (pc + 1) ls (.int (f j) :: rest))) : W p l e R s m args below meth c H locs cells slots Q (F0 m pc ls (.int x :: .ref (α kd i) :: rest)) := by
  subst hx
  refine va_zald hexec hb hK (hP.one ha) 0 1 rfl rfl (vp_in_nI hj hn) hdg ?_
  rw [nI_clamp (Nat.lt_trans hj hn)]
  exact kk
theorem pw_aald (hexec : p.tables.exec = Jvm.exec) (hb : c.code = cc) (hK : va_K D vwCl (TY cy) s) (hP : PW D A α cell H) {kd i t0 : Nat} {C : String} (ht : (TY cy)[t0]? = some (cy t0, .object C)) {n : Nat} {f : Nat → Option Nat} (ha : cell kd i = some (.inl (cy t0, n, .inr (.inr (.inr (.inr f)))))) {x : Int32} (j : Nat) (hx : x = nI j) (hj : j < n) (hn : n < 2 ^ 31) (hdg : decode cc pc = .ok (.aaload, 1))
    (kk : W p l e R s m args below meth c H locs cells slots Q (F0 m (pc + 1) ls (va_rf (f j) :: rest))) : W p l e R s m args below meth c H locs cells slots Q (F0 m pc ls (.int x :: .ref (α kd i) :: rest)) := by
  subst hx
  refine va_aldq hexec hb hK (hP.one ha) 0 t0 rfl ht (vp_in_nI hj hn) hdg ?_
  rw [nI_clamp (Nat.lt_trans hj hn)]
  exact kk
theorem pw_alen (hexec : p.tables.exec = Jvm.exec) (hb : c.code = cc) (hK : va_K D vwCl (TY cy) s) (hP : PW D A α cell H) {kd i t0 : Nat} {ty : FieldType} (ht : (TY cy)[t0]? = some (cy t0, ty)) {x : vp_A} (ha : cell kd i = some (.inl (cy t0, x))) {v : Int32} (hv : Int32.ofNat x.1 = v) (hdg : decode cc pc = .ok (.arraylength, 1))
    (kk : W p l e R s m args below meth c H locs cells slots Q (F0 m (pc + 1) ls (.int v :: rest))) : W p l e R s m args below meth c H locs cells slots Q (F0 m pc ls (.ref (α kd i) :: rest)) :=
  va_alen hexec hb hK (hP.one ha) 0 t0 rfl ht hv hdg kk
theorem pw_iast (hexec : p.tables.exec = Jvm.exec) (hb : c.code = cc) (hK : va_K D vwCl (TY cy) s) (hP : PW D A α cell H) (hS : va_S A H0 H locs) {kd i : Nat} {n : Nat} {f : Nat → Int32} (ha : cell kd i = some (.inl (cy 0, n, .inl f))) {x y : Int32} (j : Nat) (hx : x = nI j) (hj : j < n) (hn : n < 2 ^ 31) (hdg : decode cc pc = .ok (.iastore, 1))
    (kk : ∀ (H1 : Heap) (locs1 : List Loc), PW D A α (pw_up cell kd i (.inl (cy 0, n, .inl (upd f j y)))) H1 → H1.size = H.size → va_S A H0 H1 locs1 → W p l e R s m args below meth c H1 locs1 cells slots Q (F0 m (pc + 1) ls rest)) : W p l e R s m args below meth c H locs cells slots Q (F0 m pc ls (.int y :: .int x :: .ref (α kd i) :: rest)) := by
  subst hx
  have hi := vp_in_nI hj hn
  refine W.iast hexec hb (hP.1 kd i _ ha).1 ((hK.2 0 _ rfl).1 n (fun j => .int (f j))) (fun q => by cases q) (by show ¬ (_ < 0 ∨ (arrV _ _ _).slots.size ≤ _); rw [arrV_size]; exact hi) rfl rfl hdg fun H1 e1 z oq => ?_
  refine kk H1 _ (hP.set ha ?_ oq) z (hS.put z oq (hP.1 kd i _ ha).2)
  show H1[α kd i]? = some (vp_cell _ _)
  rw [e1, nI_clamp (Nat.lt_trans hj hn), vp_cell_i, vp_cell_i, arrV_store]
  congr 2
  funext q
  by_cases hq : q = j
  · subst hq; simp [updV, upd]
  · simp [updV, upd, hq]
theorem pw_zast (hexec : p.tables.exec = Jvm.exec) (hb : c.code = cc) (hK : va_K D vwCl (TY cy) s) (hP : PW D A α cell H) (hS : va_S A H0 H locs) {kd i : Nat} {n : Nat} {f : Nat → Int32} (ha : cell kd i = some (.inl (cy 1, n, .inl f))) {x y : Int32} (hy : y = 0 ∨ y = 1) (j : Nat) (hx : x = nI j) (hj : j < n) (hn : n < 2 ^ 31) (hdg : decode cc pc = .ok (.bastore, 1))
    (kk : ∀ (H1 : Heap) (locs1 : List Loc), PW D A α (pw_up cell kd i (.inl (cy 1, n, .inl (upd f j y)))) H1 → H1.size = H.size → va_S A H0 H1 locs1 → W p l e R s m args below meth c H1 locs1 cells slots Q (F0 m (pc + 1) ls rest)) : W p l e R s m args below meth c H locs cells slots Q (F0 m pc ls (.int y :: .int x :: .ref (α kd i) :: rest)) := by
  subst hx
  have hi := vp_in_nI hj hn
  have hnar : narrow .boolean (.int y) = .int y := by rcases hy with rfl | rfl <;> rfl
  refine W.zast hexec hb (hP.1 kd i _ ha).1 ((hK.2 1 _ rfl).1 n (fun j => .int (f j))) (fun q => by cases q) (by show ¬ (_ < 0 ∨ (arrV _ _ _).slots.size ≤ _); rw [arrV_size]; exact hi) rfl rfl hdg fun H1 e1 z oq => ?_
  refine kk H1 _ (hP.set ha ?_ oq) z (hS.put z oq (hP.1 kd i _ ha).2)
  show H1[α kd i]? = some (vp_cell _ _)
  rw [e1, hnar, nI_clamp (Nat.lt_trans hj hn), vp_cell_i, vp_cell_i, arrV_store]
  congr 2
  funext q
  by_cases hq : q = j
  · subst hq; simp [updV, upd]
  · simp [updV, upd, hq]
theorem pw_aast (hexec : p.tables.exec = Jvm.exec) (hb : c.code = cc) (hK : va_K D vwCl (TY cy) s) (hP : PW D A α cell H) (hS : va_S A H0 H locs) {kd i kv iv t0 ci : Nat} {r : vw_C} {vs : List Value} (ht : (TY cy)[t0]? = some (cy t0, .object r.1)) {n : Nat} {f : Nat → Option Nat} (ha : cell kd i = some (.inl (cy t0, n, .inr (.inr (.inr (.inr f)))))) (hv : cell kv iv = some (.inr (ci, vs))) (hc : vwCl[ci]? = some r) {x : Int32} (j : Nat) (hx : x = nI j) (hj : j < n) (hn : n < 2 ^ 31) (hdg : decode cc pc = .ok (.aastore, 1))
    (kk : ∀ (H1 : Heap) (locs1 : List Loc), PW D A α (pw_up cell kd i (.inl (cy t0, n, .inr (.inr (.inr (.inr (va_up f j (some (α kv iv))))))))) H1 → H1.size = H.size → va_S A H0 H1 locs1 → W p l e R s m args below meth c H1 locs1 cells slots Q (F0 m (pc + 1) ls rest)) : W p l e R s m args below meth c H locs cells slots Q (F0 m pc ls (.ref (α kv iv) :: .int x :: .ref (α kd i) :: rest)) := by
  subst hx
  obtain ⟨⟨r', hr', cellV, g1, g2, g3, -⟩, -⟩ := hP.1 kv iv _ hv
  have hcls := (hK.1 ci r hc).2
  obtain ⟨kA, comp, k1, k2, k3, -⟩ := (hK.2 t0 _ ht).2
  have hcomp : comp = D.1 ci := Option.some.inj (k3.symm.trans hcls.1)
  subst hcomp
  obtain ⟨kC, hkC, -⟩ := hcls.2
  refine W.aast hexec hb (hP.1 kd i _ ha).1 (fun q h => by cases h) (fun h => by cases h) k1 k2 rfl hkC ⟨nI_pos (Nat.lt_trans hj hn), by show _ < (arrV _ _ _).slots.size; rw [arrV_size, nI_clamp (Nat.lt_trans hj hn)]; exact hj⟩ g1 (fun q h => by rw [g3] at h; cases h) (by rw [g2]; exact hkC) (by rw [g2]; exact va_assign hcls) rfl rfl hdg fun H1 e1 z oq => ?_
  refine kk H1 _ (hP.set ha ?_ oq) z (hS.put z oq (hP.1 kd i _ ha).2)
  show H1[α kd i]? = some (vp_cell _ _)
  rw [e1, nI_clamp (Nat.lt_trans hj hn), vp_cell_q, vp_cell_q, arrV_store]
  congr 2
  funext q
  by_cases hq : q = j
  · subst hq; simp [updV, va_up, va_rf]
  · simp [updV, va_up, hq]
theorem pw_new (hexec : p.tables.exec = Jvm.exec) (hb : c.code = cc) {own C : String} {T : u_T} {N ci index : Nat} {Ts : List Cond} (hts : ∀ w ∈ Ts, w.before args s = true) (hin : ∀ w ∈ u_ws C T N, w ∈ Ts) (ty : Nat → FieldType) (hty : ∀ k, k < N → parseFieldDescriptor (T k).2.2.1 = some (ty k)) (hown : s.vm.findClass own = some m.cls) (hcl : Cond.classLink own index C ∈ Ts) (hinst : Cond.instantiable C N ∈ Ts) (hini : Cond.initialized C ∈ Ts)
    (hK : va_K D vwCl (TY cy) s) (hP : PW D A α cell H) (hS : va_S A H0 H locs) (hA : A H.size) (hc : vwCl[ci]? = some (C, T, N)) (kd i : Nat) {fs : List Value} (hfs : ∀ j, j < N → defaultValue (ty j) = vp_V fs j) (hcells : cells + 1 ≤ R.cells) (hslots : slots + N ≤ R.slots) (hdg : decode cc pc = .ok (.new index, 3))
    (kk : ∀ (q : Nat) (H1 : Heap), q = H.size → PW D A (ad_up α kd i q) (pw_up cell kd i (.inr (ci, fs))) H1 → H1.size = H.size + 1 → va_S A H0 H1 locs → W p l e R s m args below meth c H1 locs (cells + 1) (slots + N) Q (F0 m (pc + 3) ls (.ref q :: rest))) : W p l e R s m args below meth c H locs cells slots Q (F0 m pc ls rest) := by
  have hKn := hK.1 ci _ hc
  refine W.newcK hexec hb hown (hts _ hcl) (hts _ hinst) (hts _ hini) rfl hdg hcells hslots hKn.2.1 rfl fun H1 kC hkC e1 z1 o1 => ?_
  refine kk H.size H1 rfl (hP.grow ⟨_, hc, (u_born ty hts hin hKn hkC e1 hty).to hfs⟩ hA o1) z1 ⟨Nat.le_trans hS.1 (by omega), fun x h1 h2 => (o1 x (Nat.lt_of_lt_of_le h1 hS.1)).trans (hS.2.1 x h1 h2), hS.2.2⟩
theorem pw_newa (hexec : p.tables.exec = Jvm.exec) (hb : c.code = cc) {atype : ArrayType} {Ts : List Cond} (hts : ∀ w ∈ Ts, w.before args s = true) (harr : Cond.arrayClass (newarray.typeOf atype) ∈ Ts) (hK : va_K D vwCl (TY cy) s) (hP : PW D A α cell H) (hS : va_S A H0 H locs) (hA : A H.size) (kd i : Nat)
    {t0 : Nat} (ht : (TY cy)[t0]? = some (cy t0, newarray.typeOf atype)) (hfind : ∀ cA : ClassId, s.vm.findClass ("[" ++ (newarray.typeOf atype).toString) = some cA → cA = cy t0) {n : Int32} {N' : Nat} {a0 : vp_A} (ha : ∀ cA : ClassId, vp_cell cA a0 = arrV cA N' (fun _ => defaultValue (newarray.typeOf atype))) (hn : ¬ n < 0) (hN : n.toNatClampNeg = N') (hbytes : N' * componentBytes (newarray.typeOf atype) ≤ 536870912) (hcells : cells + 1 ≤ R.cells) (hslots : slots + N' ≤ R.slots) (hdg : decode cc pc = .ok (.newarray atype, 2))
    (kk : ∀ (q : Nat) (H1 : Heap), q = H.size → PW D A (ad_up α kd i q) (pw_up cell kd i (.inl (cy t0, a0))) H1 → H1.size = H.size + 1 → va_S A H0 H1 locs → W p l e R s m args below meth c H1 locs (cells + 1) (slots + N') Q (F0 m (pc + 2) ls (.ref q :: rest))) : W p l e R s m args below meth c H locs cells slots Q (F0 m pc ls (.int n :: rest)) := by
  refine va_newaK hexec hb (hts _ harr) rfl hdg rfl hn hN hbytes hcells hslots rfl fun H1 cA e1 z1 o1 hAr hNm => ?_
  have hcA := hfind cA hNm
  subst hcA
  refine kk H.size H1 rfl (hP.grow ?_ hA o1) z1 ⟨Nat.le_trans hS.1 (by omega), fun x h1 h2 => (o1 x (Nat.lt_of_lt_of_le h1 hS.1)).trans (hS.2.1 x h1 h2), hS.2.2⟩
  show H1[H.size]? = some (vp_cell _ _)
  rw [ha]
  exact e1
theorem ty_find0 (hK : va_K D vwCl (TY cy) s) : ∀ cA : ClassId, s.vm.findClass ("[" ++ (FieldType.int).toString) = some cA → cA = cy 0 := fun cA h => by
  have h2 := (hK.2 0 _ rfl).2
  exact Option.some.inj (h.symm.trans h2)
theorem ty_find1 (hK : va_K D vwCl (TY cy) s) : ∀ cA : ClassId, s.vm.findClass ("[" ++ (FieldType.boolean).toString) = some cA → cA = cy 1 := fun cA h => by
  have h2 := (hK.2 1 _ rfl).2
  exact Option.some.inj (h.symm.trans h2)
theorem pw_newq (hexec : p.tables.exec = Jvm.exec) (hb : c.code = cc) {own C : String} {index : Nat} {Ts : List Cond} (hts : ∀ w ∈ Ts, w.before args s = true) (hown : s.vm.findClass own = some m.cls) (hclink : Cond.classLink own index C ∈ Ts) (hover : va_AO C s) (hK : va_K D vwCl (TY cy) s) (hP : PW D A α cell H) (hS : va_S A H0 H locs) (hA : A H.size) (kd i : Nat)
    {t0 : Nat} (ht : (TY cy)[t0]? = some (cy t0, .object C)) {n : Int32} {N' : Nat} (hn : ¬ n < 0) (hN : n.toNatClampNeg = N') (hbytes : N' * 4 ≤ 536870912) (hcells : cells + 1 ≤ R.cells) (hslots : slots + N' ≤ R.slots) (hdg : decode cc pc = .ok (.anewarray index, 3))
    (kk : ∀ (q : Nat) (H1 : Heap), q = H.size → PW D A (ad_up α kd i q) (pw_up cell kd i (.inl (cy t0, N', .inr (.inr (.inr (.inr (fun _ => none))))))) H1 → H1.size = H.size + 1 → va_S A H0 H1 locs → W p l e R s m args below meth c H1 locs (cells + 1) (slots + N') Q (F0 m (pc + 3) ls (.ref q :: rest))) : W p l e R s m args below meth c H locs cells slots Q (F0 m pc ls (.int n :: rest)) := by
  subst hN
  refine W.anew hexec hb hown (hts _ hclink) (va_AO.use hover) rfl hdg rfl hn hbytes hcells hslots fun cA kA comp f1 f2 f3 f4 => ?_
  obtain ⟨kB, comp', k1, k2, k3, k4⟩ := (hK.2 t0 _ ht).2
  have hcA : cA = cy t0 := Option.some.inj (f1.symm.trans k4)
  subst hcA
  generalize hH1 : H.push ({ cls := cy t0, slots := Array.replicate n.toNatClampNeg .null, vm := .none } : Cell) = H1
  have z1 : H1.size = H.size + 1 := by rw [← hH1, Array.size_push]
  have e1 : H1[H.size]? = some (arrV (cy t0) n.toNatClampNeg (fun _ => .null)) := by rw [← hH1, Array.getElem?_push_size, ← arrV_new]
  have o1 : ∀ q : Nat, q < H.size → H1[q]? = H[q]? := fun q hq => by rw [← hH1, Array.getElem?_push, if_neg (Nat.ne_of_lt hq)]
  exact kk H.size H1 rfl (hP.grow e1 hA o1) z1 ⟨Nat.le_trans hS.1 (by omega), fun x h1 h2 => (o1 x (Nat.lt_of_lt_of_le h1 hS.1)).trans (hS.2.1 x h1 h2), hS.2.2⟩
end PWR
