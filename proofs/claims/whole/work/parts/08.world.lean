/-! The state: rows of ints by number (0..24 the reference's arrays, 25..29 its numbers, 30 the trips' own rows of the class, 31 how many events its rows hold). -/
abbrev gp : Int32 := 2000000000
def sr (σ : SG) (k : Nat) (f : Nat → Int32) : SG := fun a => if a = k then f else σ a
def st (σ : SG) (k j : Nat) (v : Int32) : SG := sr σ k (upd (σ k) j v)
theorem sr_same (σ : SG) (k : Nat) (f : Nat → Int32) : sr σ k f k = f := by simp [sr]
theorem sr_ne {σ : SG} {k a : Nat} {f : Nat → Int32} (h : a ≠ k) : sr σ k f a = σ a := by simp [sr, h]
theorem st_same (σ : SG) (k j : Nat) (v : Int32) : st σ k j v k j = v := by simp [st, sr, upd]
theorem st_ne {σ : SG} {k j a : Nat} {v : Int32} (h : a ≠ k) : st σ k j v a = σ a := by simp [st, sr, h]
theorem st_ne2 {σ : SG} {k j a b : Nat} {v : Int32} (h : b ≠ j) : st σ k j v a b = σ a b := by
  by_cases ha : a = k
  · subst ha; simp [st, sr, upd, h]
  · simp [st, sr, ha]
/-- the reference's cells: kind 0 the object, kind k + 1 its array k -/
def lenR (k : Nat) : Nat := if k = 9 then 192 else if k < 11 then 16 else if k < 17 then 24 else if k = 19 then 48 else if k < 22 then 8 else 20
def zR (k : Nat) : Nat := if k = 0 ∨ k = 1 ∨ k = 11 ∨ k = 12 ∨ k = 20 ∨ k = 21 then 1 else 0
def fsR (σ : SG) (α : AD) : List Value := [.ref (α 1 0), .ref (α 2 0), .ref (α 3 0), .ref (α 4 0), .ref (α 5 0), .ref (α 6 0), .ref (α 7 0), .ref (α 8 0), .ref (α 9 0), .ref (α 10 0), .ref (α 11 0), .ref (α 12 0), .ref (α 13 0), .ref (α 14 0), .ref (α 15 0), .ref (α 16 0), .ref (α 17 0), .ref (α 18 0), .ref (α 19 0), .ref (α 20 0), .ref (α 21 0), .ref (α 22 0), .ref (α 23 0), .ref (α 24 0), .ref (α 25 0), .int (σ 25 0), .int (σ 26 0), .int (σ 27 0), .int (σ 28 0), .int (σ 29 0)]
def CR (cy : Nat → ClassId) (σ : SG) (α : AD) : CF := fun k i => if i = 0 then (if k = 0 then some (.inr (5, fsR σ α)) else if k < 26 then some (.inl (cy (zR (k - 1)), lenR (k - 1), .inl (σ (k - 1)))) else none) else none
theorem cr_arr {cy : Nat → ClassId} {σ : SG} {α : AD} {k : Nat} (hk : k < 25) : CR cy σ α (k + 1) 0 = some (.inl (cy (zR k), lenR k, .inl (σ k))) := by
  have h1 : k + 1 < 26 := by omega
  simp [CR, h1]
theorem fsR_sr {σ : SG} {α : AD} {k : Nat} {f : Nat → Int32} (hk : k < 25) : fsR (sr σ k f) α = fsR σ α := by
  have h : ∀ a, 25 ≤ a → sr σ k f a = σ a := fun a ha => sr_ne (by omega)
  simp only [fsR, h 25 (by omega), h 26 (by omega), h 27 (by omega), h 28 (by omega), h 29 (by omega)]
theorem cr_sr {cy : Nat → ClassId} {σ : SG} {α : AD} {k : Nat} {f : Nat → Int32} (hk : k < 25) : pw_up (CR cy σ α) (k + 1) 0 (.inl (cy (zR k), lenR k, .inl f)) = CR cy (sr σ k f) α := by
  funext a b
  by_cases hab : a = k + 1 ∧ b = 0
  · obtain ⟨rfl, rfl⟩ := hab
    rw [pw_up_self, cr_arr hk, sr_same]
  · rw [pw_up_ne hab]
    unfold CR
    by_cases hb : b = 0
    · rw [if_pos hb, if_pos hb, fsR_sr hk]
      by_cases ha : a = 0
      · rw [if_pos ha, if_pos ha]
      · rw [if_neg ha, if_neg ha]
        rw [sr_ne (show a - 1 ≠ k by omega)]
    · rw [if_neg hb, if_neg hb]
theorem cr_sc {cy : Nat → ClassId} {σ : SG} {α : AD} (k : Nat) {v : Int32} (hk : 25 ≤ k ∧ k < 30) : pw_up (CR cy σ α) 0 0 (.inr (5, (fsR σ α).set k (.int v))) = CR cy (st σ k 0 v) α := by
  have hf : (fsR σ α).set k (.int v) = fsR (st σ k 0 v) α := by
    rcases (show k = 25 ∨ k = 26 ∨ k = 27 ∨ k = 28 ∨ k = 29 by omega) with rfl | rfl | rfl | rfl | rfl <;> simp [fsR, st, sr, upd]
  funext a b
  by_cases hab : a = 0 ∧ b = 0
  · obtain ⟨rfl, rfl⟩ := hab
    rw [pw_up_self, hf]; rfl
  · rw [pw_up_ne hab]
    unfold CR
    by_cases hb : b = 0
    · have ha : ¬ a = 0 := fun h => hab ⟨h, hb⟩
      rw [if_pos hb, if_pos hb, if_neg ha, if_neg ha]
      by_cases h26 : a < 26
      · rw [if_pos h26, if_pos h26, st_ne (show a - 1 ≠ k by omega)]
      · rw [if_neg h26, if_neg h26]
    · rw [if_neg hb, if_neg hb]
section RFR
variable {p : Program} {l : Launch} {e : Env} {R : Room} {s : State} {m : MethodId} {args : Array Value} {below : List Frame} {meth : Method} {c : Code} {H : Heap} {locs : List Loc} {cells slots : Nat} {Q : State → Prop}
variable {cc : ByteArray} {pc : Nat} {ls : Array Slot} {rest : List Value} {D : va_G} {cy : Nat → ClassId} {A : Nat → Prop} {α : AD} {σ : SG} {H0 : Heap}
theorem lenR_lt (k : Nat) : lenR k < 2 ^ 31 := by unfold lenR; repeat' split <;> try decide
/-- this.a[j], an int -/
theorem rf_iald (hexec : p.tables.exec = Jvm.exec) (hb : c.code = cc) (hK : va_K D vwCl (TY cy) s) (hP : PW D A α (CR cy σ α) H) (k : Nat) (hk : k < 25) (hz : zR k = 0) {x : Int32} (j : Nat) (hx : x = nI j) (hj : j < lenR k) (hdg : decode cc pc = .ok (.iaload, 1))
    (kk : W p l e R s m args below meth c H locs cells slots Q (F0 m (pc + 1) ls (.int (σ k j) :: rest))) : W p l e R s m args below meth c H locs cells slots Q (F0 m pc ls (.int x :: .ref (α (k + 1) 0) :: rest)) :=
  pw_iald hexec hb hK hP (n := lenR k) (f := σ k) (by have h := cr_arr (cy := cy) (σ := σ) (α := α) hk; rw [hz] at h; exact h) j hx hj (lenR_lt k) hdg kk
theorem rf_zald (hexec : p.tables.exec = Jvm.exec) (hb : c.code = cc) (hK : va_K D vwCl (TY cy) s) (hP : PW D A α (CR cy σ α) H) (k : Nat) (hk : k < 25) (hz : zR k = 1) {x : Int32} (j : Nat) (hx : x = nI j) (hj : j < lenR k) (hdg : decode cc pc = .ok (.baload, 1))
    (kk : W p l e R s m args below meth c H locs cells slots Q (F0 m (pc + 1) ls (.int (σ k j) :: rest))) : W p l e R s m args below meth c H locs cells slots Q (F0 m pc ls (.int x :: .ref (α (k + 1) 0) :: rest)) :=
  pw_zald hexec hb hK hP (n := lenR k) (f := σ k) (by have h := cr_arr (cy := cy) (σ := σ) (α := α) hk; rw [hz] at h; exact h) j hx hj (lenR_lt k) hdg kk
theorem rf_iast (hexec : p.tables.exec = Jvm.exec) (hb : c.code = cc) (hK : va_K D vwCl (TY cy) s) (hP : PW D A α (CR cy σ α) H) (hS : va_S A H0 H locs) (k : Nat) (hk : k < 25) (hz : zR k = 0) {x y : Int32} (j : Nat) (hx : x = nI j) (hj : j < lenR k) (hdg : decode cc pc = .ok (.iastore, 1))
    (kk : ∀ (H1 : Heap) (locs1 : List Loc), PW D A α (CR cy (st σ k j y) α) H1 → H1.size = H.size → va_S A H0 H1 locs1 → W p l e R s m args below meth c H1 locs1 cells slots Q (F0 m (pc + 1) ls rest)) : W p l e R s m args below meth c H locs cells slots Q (F0 m pc ls (.int y :: .int x :: .ref (α (k + 1) 0) :: rest)) :=
  pw_iast hexec hb hK hP hS (n := lenR k) (f := σ k) (by have h := cr_arr (cy := cy) (σ := σ) (α := α) hk; rw [hz] at h; exact h) j hx hj (lenR_lt k) hdg (fun H1 locs1 h1 => kk H1 locs1 (by have q := cr_sr (cy := cy) (σ := σ) (α := α) (f := upd (σ k) j y) hk; rw [hz] at q; rw [q] at h1; exact h1))
theorem rf_zast (hexec : p.tables.exec = Jvm.exec) (hb : c.code = cc) (hK : va_K D vwCl (TY cy) s) (hP : PW D A α (CR cy σ α) H) (hS : va_S A H0 H locs) (k : Nat) (hk : k < 25) (hz : zR k = 1) {x y : Int32} (hy : y = 0 ∨ y = 1) (j : Nat) (hx : x = nI j) (hj : j < lenR k) (hdg : decode cc pc = .ok (.bastore, 1))
    (kk : ∀ (H1 : Heap) (locs1 : List Loc), PW D A α (CR cy (st σ k j y) α) H1 → H1.size = H.size → va_S A H0 H1 locs1 → W p l e R s m args below meth c H1 locs1 cells slots Q (F0 m (pc + 1) ls rest)) : W p l e R s m args below meth c H locs cells slots Q (F0 m pc ls (.int y :: .int x :: .ref (α (k + 1) 0) :: rest)) :=
  pw_zast hexec hb hK hP hS (n := lenR k) (f := σ k) (by have h := cr_arr (cy := cy) (σ := σ) (α := α) hk; rw [hz] at h; exact h) hy j hx hj (lenR_lt k) hdg (fun H1 locs1 h1 => kk H1 locs1 (by have q := cr_sr (cy := cy) (σ := σ) (α := α) (f := upd (σ k) j y) hk; rw [hz] at q; rw [q] at h1; exact h1))
theorem rf_get (hexec : p.tables.exec = Jvm.exec) (hb : c.code = cc) {index : Nat} {Ts : List Cond} (hts : ∀ w ∈ Ts, w.before args s = true) (hin : ∀ w ∈ wsX50, w ∈ Ts) (hown : s.vm.findClass RX5 = some m.cls) (hK : va_K D vwCl (TY cy) s) (hP : PW D A α (CR cy σ α) H) (k : Nat) (hk : k < 30) (hlink : Cond.fieldLink RX5 index "TripPanelModel" (TX5 k).2.1 (TX5 k).2.2.1 ∈ Ts) (hsame : "TripPanelModel" = (TX5 k).1) {v : Value} (hv : (fsR σ α)[k]? = some v) (hdg : decode cc pc = .ok (.getfield index, 3))
    (kk : W p l e R s m args below meth c H locs cells slots Q (F0 m (pc + 3) ls (v :: rest))) : W p l e R s m args below meth c H locs cells slots Q (F0 m pc ls (.ref (α 0 0) :: rest)) :=
  pw_get (C := RX5) (T := TX5) (N := 30) (ci := 5) hexec hb hts hin hown hK hP (kd := 0) (i := 0) (fs := fsR σ α) rfl rfl k hk hlink hsame hv hdg kk
theorem rf_put (hexec : p.tables.exec = Jvm.exec) (hb : c.code = cc) {index : Nat} {Ts : List Cond} (hts : ∀ w ∈ Ts, w.before args s = true) (hin : ∀ w ∈ wsX50, w ∈ Ts) (hown : s.vm.findClass RX5 = some m.cls) (hK : va_K D vwCl (TY cy) s) (hP : PW D A α (CR cy σ α) H) (hS : va_S A H0 H locs) (k : Nat) (hk : 25 ≤ k ∧ k < 30) (hlink : Cond.fieldLink RX5 index "TripPanelModel" (TX5 k).2.1 (TX5 k).2.2.1 ∈ Ts) (hsame : "TripPanelModel" = (TX5 k).1) (hfin : (TX5 k).2.2.2 = false) (hd : parseFieldDescriptor (TX5 k).2.2.1 = some .int) {y : Int32} (hdg : decode cc pc = .ok (.putfield index, 3))
    (kk : ∀ (H1 : Heap) (locs1 : List Loc), PW D A α (CR cy (st σ k 0 y) α) H1 → H1.size = H.size → va_S A H0 H1 locs1 → W p l e R s m args below meth c H1 locs1 cells slots Q (F0 m (pc + 3) ls rest)) : W p l e R s m args below meth c H locs cells slots Q (F0 m pc ls (.int y :: .ref (α 0 0) :: rest)) :=
  pw_put (C := RX5) (T := TX5) (N := 30) (ci := 5) hexec hb hts hin tyX5 tyX5_ok nmX5 hown hK hP hS (kd := 0) (i := 0) (fs := fsR σ α) rfl rfl k hk.2 hlink hsame hfin (ty := .int) hd rfl rfl hk.2 hdg (fun H1 locs1 h1 => kk H1 locs1 (by rw [cr_sc k hk] at h1; exact h1))
end RFR
/-- the class's cells -/
def cN (x : Int32) : Nat := x.toNatClampNeg
def fsP (σ : SG) (α : AD) : List Value := [.ref (α 1 0), .ref (α 2 0), .ref (α 3 0), .ref (α 4 0), .ref (α 5 0), .ref (α 6 0), .int (σ 25 0), .int (σ 26 0), .int (σ 27 0), .int (σ 28 0), .int (σ 29 0)]
def fsG (σ : SG) (α : AD) (g : Nat) : List Value := [.int (σ 1 g), .ref (α 11 g), .int (σ 2 g), .int (σ 3 g), .int (σ 4 g), .int (σ 5 g), .int (σ 6 g), .int (σ 7 g), .int (σ 8 g)]
def cA (σ : SG) (c : Nat) : Nat := cN (σ 14 c)
def cB (σ : SG) (c : Nat) : Nat := if σ 15 c = -1 then cN (σ 14 c) else cN (σ 15 c)
def cLv (σ : SG) (c : Nat) : Int32 := if σ 15 c = -1 then σ 16 c else gp
def fsC (σ : SG) (α : AD) (c : Nat) : List Value := [.int (σ 13 c), .ref (α 10 (cA σ c)), .ref (α 10 (cB σ c)), .int (cLv σ c), .int (σ 12 c)]
def fsT (σ : SG) (α : AD) (t : Nat) : List Value := [.int (σ 17 t), .ref (α 15 t), .int (σ 18 t), .int (σ 21 t)]
def qG (σ : SG) (α : AD) : Nat → Option Nat := fun g => if σ 0 g = 0 then none else some (α 10 g)
def qC (σ : SG) (α : AD) : Nat → Option Nat := fun g => if σ 11 g = 0 then none else some (α 13 g)
def qT (σ : SG) (α : AD) : Nat → Option Nat := fun g => if σ 20 g = 0 then none else some (α 14 g)
def r12 (σ : SG) (g : Nat) : Nat → Int32 := fun p => if p < 12 then σ 9 (12 * g + p) else 0
def r6 (σ : SG) (t : Nat) : Nat → Int32 := fun p => if p < 6 then σ 30 (6 * t + p) else 0
def CC (cy : Nat → ClassId) (σ : SG) (α : AD) : CF := fun k i => match k with
  | 0 => if i = 0 then some (.inr (4, fsP σ α)) else none
  | 1 => if i = 0 then some (.inl (cy 2, 16, .inr (.inr (.inr (.inr (qG σ α)))))) else none
  | 2 => if i = 0 then some (.inl (cy 3, 24, .inr (.inr (.inr (.inr (qC σ α)))))) else none
  | 3 => if i = 0 then some (.inl (cy 4, 8, .inr (.inr (.inr (.inr (qT σ α)))))) else none
  | 4 => if i = 0 then some (.inr (2, [.ref (α 7 0), .int (σ 31 0)])) else none
  | 5 => if i = 0 then some (.inr (2, [.ref (α 8 0), .int (σ 31 1)])) else none
  | 6 => if i = 0 then some (.inr (2, [.ref (α 9 0), .int (σ 31 2)])) else none
  | 7 => if i = 0 then some (.inl (cy 0, 20, .inl (σ 22))) else none
  | 8 => if i = 0 then some (.inl (cy 0, 20, .inl (σ 23))) else none
  | 9 => if i = 0 then some (.inl (cy 0, 20, .inl (σ 24))) else none
  | 10 => if i < 16 ∧ σ 0 i ≠ 0 then some (.inr (1, fsG σ α i)) else none
  | 11 => if i < 16 ∧ σ 0 i ≠ 0 then some (.inr (2, [.ref (α 12 i), .int (σ 10 i)])) else none
  | 12 => if i < 16 ∧ σ 0 i ≠ 0 then some (.inl (cy 0, 12, .inl (r12 σ i))) else none
  | 13 => if i < 24 ∧ σ 11 i ≠ 0 then some (.inr (0, fsC σ α i)) else none
  | 14 => if i < 8 ∧ σ 20 i ≠ 0 then some (.inr (3, fsT σ α i)) else none
  | 15 => if i < 8 ∧ σ 20 i ≠ 0 then some (.inl (cy 0, 6, .inl (r6 σ i))) else none
  | _ => none
theorem cc_10 {cy : Nat → ClassId} {σ : SG} {α : AD} {g : Nat} (hg : g < 16) (hm : σ 0 g ≠ 0) : CC cy σ α 10 g = some (.inr (1, fsG σ α g)) := if_pos ⟨hg, hm⟩
theorem cc_11 {cy : Nat → ClassId} {σ : SG} {α : AD} {g : Nat} (hg : g < 16) (hm : σ 0 g ≠ 0) : CC cy σ α 11 g = some (.inr (2, [.ref (α 12 g), .int (σ 10 g)])) := if_pos ⟨hg, hm⟩
theorem cc_12 {cy : Nat → ClassId} {σ : SG} {α : AD} {g : Nat} (hg : g < 16) (hm : σ 0 g ≠ 0) : CC cy σ α 12 g = some (.inl (cy 0, 12, .inl (r12 σ g))) := if_pos ⟨hg, hm⟩
theorem cc_13 {cy : Nat → ClassId} {σ : SG} {α : AD} {g : Nat} (hg : g < 24) (hm : σ 11 g ≠ 0) : CC cy σ α 13 g = some (.inr (0, fsC σ α g)) := if_pos ⟨hg, hm⟩
theorem cc_14 {cy : Nat → ClassId} {σ : SG} {α : AD} {g : Nat} (hg : g < 8) (hm : σ 20 g ≠ 0) : CC cy σ α 14 g = some (.inr (3, fsT σ α g)) := if_pos ⟨hg, hm⟩
theorem cc_15 {cy : Nat → ClassId} {σ : SG} {α : AD} {g : Nat} (hg : g < 8) (hm : σ 20 g ≠ 0) : CC cy σ α 15 g = some (.inl (cy 0, 6, .inl (r6 σ g))) := if_pos ⟨hg, hm⟩
/-- a number in a row of things that may be there: the place, if it is there -/
def ix (n : Nat) (f : Nat → Int32) (x : Int32) : Option Nat := if 0 ≤ x ∧ x < nI n ∧ f x.toNatClampNeg ≠ 0 then some x.toNatClampNeg else none
theorem nI_cN {x : Int32} (h : 0 ≤ x) : x = nI x.toNatClampNeg := by
  obtain ⟨j, hj, rfl⟩ := nI_of (x := x) (by intro h1; rw [Int32.lt_iff_toInt_lt] at h1; rw [Int32.le_iff_toInt_le] at h; omega)
  rw [nI_clamp hj]
theorem ix_some {n : Nat} {f : Nat → Int32} {x : Int32} {j : Nat} (hn : n < 2 ^ 31) (h : ix n f x = some j) : j < n ∧ x = nI j ∧ f j ≠ 0 := by
  unfold ix at h
  split at h
  · rename_i hc
    cases h
    have e := nI_cN hc.1
    refine ⟨?_, e, hc.2.2⟩
    have h2 := hc.2.1
    rw [e] at h2
    have hlt : x.toNatClampNeg < 2 ^ 31 := by
      have := Int32.toInt_lt x
      rw [Int32.toNatClampNeg]
      omega
    exact (nI_ltI hlt hn).mp h2
  · cases h
theorem ix_of {n : Nat} {f : Nat → Int32} {j : Nat} (hn : n < 2 ^ 31) (hj : j < n) (hf : f j ≠ 0) : ix n f (nI j) = some j := by
  unfold ix
  rw [nI_clamp (Nat.lt_trans hj hn)]
  exact if_pos ⟨nI_pos' (Nat.lt_trans hj hn), nI_lt hj hn, hf⟩
theorem ix_none {n : Nat} {f : Nat → Int32} {x : Int32} (h : ¬ (0 ≤ x ∧ x < nI n)) : ix n f x = none := if_neg (fun q => h ⟨q.1, q.2.1⟩)
theorem ix_none2 {n : Nat} {f : Nat → Int32} {j : Nat} (hj : j < 2 ^ 31) (h : f j = 0) : ix n f (nI j) = none := by
  unfold ix
  rw [nI_clamp hj]
  exact if_neg (fun q => q.2.2 h)
abbrev gx (σ : SG) (g : Int32) : Option Nat := ix 16 (σ 0) g
abbrev cx (σ : SG) (g : Int32) : Option Nat := ix 24 (σ 11) g
abbrev tx (σ : SG) (g : Int32) : Option Nat := ix 8 (σ 20) g
abbrev isRel (r : Int32) : Prop := r = 0 ∨ r = 1 ∨ r = 2 ∨ r = 3 ∨ r = 4 ∨ r = 5
abbrev isNum (n : Int32) : Prop := -1000000000 ≤ n ∧ n ≤ 1000000000
def rl (rel : Int32) (o : Option Ordering) : Bool :=
  if rel = 0 then o == some .lt else if rel = 1 then (o == some .lt || o == some .eq) else if rel = 2 then o == some .gt else if rel = 3 then (o == some .gt || o == some .eq) else if rel = 4 then o == some .eq else !(o == some .eq)
/-- how n of a gauge stands to m of another: n1, n2 say whether they are narrow -/
def rd (n1 n rel n2 m : Int32) : Bool := if n = gp ∨ m = gp then decide (rel = 5) else rl rel (FP.dcmp (vl n1 n) (vl n2 m))
def bI (b : Bool) : Int32 := if b then 1 else 0
