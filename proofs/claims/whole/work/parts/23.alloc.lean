/-! Making cells at places that were named ahead: α kd i is where the next cell will lie. -/
theorem PW.grow2 {D : va_G} {A : Nat → Prop} {α : AD} {cell : CF} {H H1 : Heap} (h : PW D A α cell H) {k i : Nat} {e : va_E} (hq : α k i = H.size) (he : va_at D vwCl (H.size, e) H1) (hA : A H.size) (oq : ∀ q, q < H.size → H1[q]? = H[q]?) : PW D A α (pw_up cell k i e) H1 := by
  have h2 := h.grow (k := k) (i := i) he hA oq
  have e2 : ad_up α k i H.size = α := by
    funext a b
    by_cases hab : a = k ∧ b = i
    · obtain ⟨rfl, rfl⟩ := hab; rw [ad_up_self, hq]
    · rw [ad_up_ne hab]
  rw [e2] at h2
  exact h2
theorem pw_up2 (cell : CF) (k i : Nat) (e e' : va_E) : pw_up (pw_up cell k i e) k i e' = pw_up cell k i e' := by
  funext a b
  by_cases hab : a = k ∧ b = i
  · obtain ⟨rfl, rfl⟩ := hab; rw [pw_up_self, pw_up_self]
  · rw [pw_up_ne hab, pw_up_ne hab, pw_up_ne hab]
/-- a start whose heap has n cells -/
def PX (D : va_G) (cy : Nat → ClassId) (A : Nat → Prop) (α : AD) (cell : CF) (n : Nat) (U : State) : Prop := PB D cy A α cell U ∧ U.heap.size = n
theorem px_blind {av : List Value} {D : va_G} {cy : Nat → ClassId} {A : Nat → Prop} {α : AD} {cell : CF} {n : Nat} : FrameBlind (va_Pc av (PX D cy A α cell n)) := fun a U g mk q => ⟨q.1, ⟨q.2.1.1, va_K.moved (u := U) (U := U.calling g mk a) (Vm.Alike.refl U.vm) q.2.1.2⟩, q.2.2⟩
theorem px_pre {av : List Value} {D : va_G} {cy : Nat → ClassId} {A : Nat → Prop} {α : AD} {cell : CF} {s : State} {H : Heap} {n : Nat} (hP : PW D A α cell H) (hK : va_K D vwCl (TY cy) s) (hn : H.size = n) : ∀ U : State, U.heap = H → s.WarmedH U.vm → va_Pc av (PX D cy A α cell n) av.toArray U := fun U hU hW => ⟨rfl, ⟨by rw [hU]; exact hP, va_K.moved hW.alike hK⟩, by rw [hU]; exact hn⟩
section PWA
variable {p : Program} {l : Launch} {e : Env} {R : Room} {s : State} {m : MethodId} {args : Array Value} {below : List Frame} {meth : Method} {c : Code} {H : Heap} {locs : List Loc} {cells slots : Nat} {Q : State → Prop}
variable {cc : ByteArray} {pc : Nat} {ls : Array Slot} {rest : List Value} {D : va_G} {cy : Nat → ClassId} {A : Nat → Prop} {α : AD} {cell : CF} {H0 : Heap}
theorem px_new (hexec : p.tables.exec = Jvm.exec) (hb : c.code = cc) {own C : String} {T : u_T} {N ci index : Nat} {Ts : List Cond} (hts : ∀ w ∈ Ts, w.before args s = true) (hin : ∀ w ∈ u_ws C T N, w ∈ Ts) (ty : Nat → FieldType) (hty : ∀ k, k < N → parseFieldDescriptor (T k).2.2.1 = some (ty k)) (hown : s.vm.findClass own = some m.cls) (hcl : Cond.classLink own index C ∈ Ts) (hinst : Cond.instantiable C N ∈ Ts) (hini : Cond.initialized C ∈ Ts)
    (hK : va_K D vwCl (TY cy) s) (hP : PW D A α cell H) (hS : va_S A H0 H locs) (kd i : Nat) {sz : Nat} (hsz : H.size = sz) (hq : α kd i = sz) (hA : A sz) (hc : vwCl[ci]? = some (C, T, N)) {fs : List Value} (hfs : ∀ j, j < N → defaultValue (ty j) = vp_V fs j) (hcells : cells + 1 ≤ R.cells) (hslots : slots + N ≤ R.slots) (hdg : decode cc pc = .ok (.new index, 3))
    (kk : ∀ (H1 : Heap), PW D A α (pw_up cell kd i (.inr (ci, fs))) H1 → H1.size = sz + 1 → va_S A H0 H1 locs → W p l e R s m args below meth c H1 locs (cells + 1) (slots + N) Q (F0 m (pc + 3) ls (.ref (α kd i) :: rest))) : W p l e R s m args below meth c H locs cells slots Q (F0 m pc ls rest) := by
  subst hsz
  have hKn := hK.1 ci _ hc
  refine W.newcK hexec hb hown (hts _ hcl) (hts _ hinst) (hts _ hini) rfl hdg hcells hslots hKn.2.1 hq.symm fun H1 kC hkC e1 z1 o1 => ?_
  rw [hq] at e1 z1 o1
  exact kk H1 (hP.grow2 hq ⟨_, hc, (u_born ty hts hin hKn hkC e1 hty).to hfs⟩ hA o1) z1 ⟨Nat.le_trans hS.1 (by omega), fun x h1 h2 => (o1 x (Nat.lt_of_lt_of_le h1 hS.1)).trans (hS.2.1 x h1 h2), hS.2.2⟩
theorem px_newa (hexec : p.tables.exec = Jvm.exec) (hb : c.code = cc) {atype : ArrayType} {Ts : List Cond} (hts : ∀ w ∈ Ts, w.before args s = true) (harr : Cond.arrayClass (newarray.typeOf atype) ∈ Ts) (hK : va_K D vwCl (TY cy) s) (hP : PW D A α cell H) (hS : va_S A H0 H locs) (kd i : Nat) {sz : Nat} (hsz : H.size = sz) (hq : α kd i = sz) (hA : A sz)
    {t0 : Nat} (hfind : ∀ cA : ClassId, s.vm.findClass ("[" ++ (newarray.typeOf atype).toString) = some cA → cA = cy t0) {n : Int32} {N' : Nat} {a0 : vp_A} (ha : ∀ cA : ClassId, vp_cell cA a0 = arrV cA N' (fun _ => defaultValue (newarray.typeOf atype))) (hn : ¬ n < 0) (hN : n.toNatClampNeg = N') (hbytes : N' * componentBytes (newarray.typeOf atype) ≤ 536870912) (hcells : cells + 1 ≤ R.cells) (hslots : slots + N' ≤ R.slots) (hdg : decode cc pc = .ok (.newarray atype, 2))
    (kk : ∀ (H1 : Heap), PW D A α (pw_up cell kd i (.inl (cy t0, a0))) H1 → H1.size = sz + 1 → va_S A H0 H1 locs → W p l e R s m args below meth c H1 locs (cells + 1) (slots + N') Q (F0 m (pc + 2) ls (.ref (α kd i) :: rest))) : W p l e R s m args below meth c H locs cells slots Q (F0 m pc ls (.int n :: rest)) := by
  subst hsz
  refine va_newaK hexec hb (hts _ harr) rfl hdg rfl hn hN hbytes hcells hslots hq.symm fun H1 cA e1 z1 o1 hAr hNm => ?_
  rw [hq] at e1 z1 o1
  have hcA := hfind cA hNm
  subst hcA
  refine kk H1 (hP.grow2 hq ?_ hA o1) z1 ⟨Nat.le_trans hS.1 (by omega), fun x h1 h2 => (o1 x (Nat.lt_of_lt_of_le h1 hS.1)).trans (hS.2.1 x h1 h2), hS.2.2⟩
  show H1[H.size]? = some (vp_cell _ _)
  rw [ha]
  exact e1
theorem px_newq (hexec : p.tables.exec = Jvm.exec) (hb : c.code = cc) {own C : String} {index : Nat} {Ts : List Cond} (hts : ∀ w ∈ Ts, w.before args s = true) (hown : s.vm.findClass own = some m.cls) (hclink : Cond.classLink own index C ∈ Ts) (hover : va_AO C s) (hK : va_K D vwCl (TY cy) s) (hP : PW D A α cell H) (hS : va_S A H0 H locs) (kd i : Nat) {sz : Nat} (hsz : H.size = sz) (hq : α kd i = sz) (hA : A sz)
    {t0 : Nat} (ht : (TY cy)[t0]? = some (cy t0, .object C)) {n : Int32} {N' : Nat} (hn : ¬ n < 0) (hN : n.toNatClampNeg = N') (hbytes : N' * 4 ≤ 536870912) (hcells : cells + 1 ≤ R.cells) (hslots : slots + N' ≤ R.slots) (hdg : decode cc pc = .ok (.anewarray index, 3))
    (kk : ∀ (H1 : Heap), PW D A α (pw_up cell kd i (.inl (cy t0, N', .inr (.inr (.inr (.inr (fun _ => none))))))) H1 → H1.size = sz + 1 → va_S A H0 H1 locs → W p l e R s m args below meth c H1 locs (cells + 1) (slots + N') Q (F0 m (pc + 3) ls (.ref (α kd i) :: rest))) : W p l e R s m args below meth c H locs cells slots Q (F0 m pc ls (.int n :: rest)) := by
  subst hsz
  subst hN
  refine W.anew hexec hb hown (hts _ hclink) (va_AO.use hover) rfl hdg rfl hn hbytes hcells hslots fun cA kA comp f1 f2 f3 f4 => ?_
  obtain ⟨kB, comp', k1, k2, k3, k4⟩ := (hK.2 t0 _ ht).2
  have hcA : cA = cy t0 := Option.some.inj (f1.symm.trans k4)
  subst hcA
  generalize hH1 : H.push ({ cls := cy t0, slots := Array.replicate n.toNatClampNeg .null, vm := .none } : Cell) = H1
  have z1 : H1.size = H.size + 1 := by rw [← hH1, Array.size_push]
  have e1 : H1[H.size]? = some (arrV (cy t0) n.toNatClampNeg (fun _ => .null)) := by rw [← hH1, Array.getElem?_push_size, ← arrV_new]
  have o1 : ∀ q : Nat, q < H.size → H1[q]? = H[q]? := fun q hq => by rw [← hH1, Array.getElem?_push, if_neg (Nat.ne_of_lt hq)]
  have h2 := kk H1 (hP.grow2 hq e1 hA o1) z1 ⟨Nat.le_trans hS.1 (by omega), fun x h1 h2 => (o1 x (Nat.lt_of_lt_of_le h1 hS.1)).trans (hS.2.1 x h1 h2), hS.2.2⟩
  rw [hq] at h2
  exact h2
end PWA
