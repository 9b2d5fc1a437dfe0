/-! Thousandths as doubles and floats: finite, ordered. -/
abbrev kD : UInt64 := 4652007308841189376
abbrev kF : UInt32 := 1148846080
def wd (n : Int32) : UInt64 := FP.ddiv (FP.i2d n) kD
def sl (n : Int32) : UInt32 := FP.fdiv (FP.i2f n) kF
theorem wd_fin (n : Int32) : FP.Core.DFin (wd n) := by
  have h := FP.Core.ddiv_mag (a := FP.Core.i2d n) (b := kD) (K := 1056) (L := 1032) (FP.Core.i2d_mag n) (by decide +kernel) (by decide +kernel) (by decide +kernel) (by decide +kernel)
  rw [FP.Core.fin_bits]
  exact Nat.lt_of_lt_of_le h (by decide +kernel)
theorem sl_fin (n : Int32) : FP.Core.FFin (sl n) := by
  have h := FP.Core.fdiv_mag (a := FP.Core.i2f n) (b := kF) (K := 160) (L := 136) (FP.Core.i2f_mag n) (by decide +kernel) (by decide +kernel) (by decide +kernel) (by decide +kernel)
  rw [FP.Core.fin_bits32]
  exact Nat.lt_of_lt_of_le h (by decide +kernel)
theorem n64_of {a : UInt64} (h : FP.Core.val64 a ≠ .nan) : vf_n64 a := by
  have h1 := (FP.Core.ne_nan a).mp h
  unfold vf_n64
  rw [UInt64.le_iff_toNat_le, UInt64.toNat_and]
  rw [show (0x7fffffffffffffff : UInt64).toNat = 2 ^ 63 - 1 by decide +kernel, Nat.and_two_pow_sub_one_eq_mod]
  exact Nat.le_trans h1 (by decide +kernel)
theorem n32_of {a : UInt32} (h : FP.Core.val32 a ≠ .nan) : vf_n32 a := by
  have h1 := (FP.Core.ne_nan32 a).mp h
  unfold vf_n32
  rw [UInt32.le_iff_toNat_le, UInt32.toNat_and]
  rw [show (0x7fffffff : UInt32).toNat = 2 ^ 31 - 1 by decide +kernel, Nat.and_two_pow_sub_one_eq_mod]
  exact Nat.le_trans h1 (by decide +kernel)
theorem fd_core {a : UInt32} (h : FP.Core.FFin a) : FP.f2d a = FP.Core.f2d a := FP.f2d_core h.notNaN
theorem fd_fin {a : UInt32} (h : FP.Core.FFin a) : FP.Core.DFin (FP.f2d a) := by rw [fd_core h]; exact FP.Core.f2d_fin h
theorem df_fd {a : UInt32} (h : FP.Core.FFin a) : FP.d2f (FP.f2d a) = a := by
  rw [FP.d2f_core (fd_fin h).notNaN, fd_core h]
  exact FP.Core.d2f_f2d h.ne_nan
theorem ds_nn {a b : UInt64} (ha : FP.Core.DFin a) (hb : FP.Core.DFin b) : FP.Core.val64 (FP.dsub a b) ≠ .nan := (FP.Core.notNaN_iff _).mp (FP.Core.dsub_out' ha hb.notNaN)
theorem fs_nn {a b : UInt32} (ha : FP.Core.FFin a) (hb : FP.Core.FFin b) : FP.Core.val32 (FP.fsub a b) ≠ .nan := (FP.Core.notNaN_iff32 _).mp (FP.Core.fsub_out' ha hb.notNaN)
theorem n64_wd (n : Int32) : vf_n64 (FP.ddiv (FP.i2d n) kD) := n64_of (wd_fin n).ne_nan
theorem n32_sl (n : Int32) : vf_n32 (FP.fdiv (FP.i2f n) kF) := n32_of (sl_fin n).ne_nan
theorem n64_sl (n : Int32) : vf_n64 (FP.f2d (sl n)) := n64_of (fd_fin (sl_fin n)).ne_nan
/-- a float's double compares as the float does -/
theorem order_widen {x y : FP.Core.Datum} (hx : FP.Core.fits FP.Core.b32 x) (hy : FP.Core.fits FP.Core.b32 y) : FP.Core.order (FP.Core.round FP.Core.b64 x) (FP.Core.round FP.Core.b64 y) = FP.Core.order x y := by
  have key : ∀ (s : Bool) (c : Nat) (q : Int), FP.Core.fits FP.Core.b32 (.fin s c q) → ∃ c' q', FP.Core.round FP.Core.b64 (.fin s c q) = .fin s c' q' ∧ c * 2 ^ (q - q').toNat = c' * 2 ^ (q' - q).toNat := by
    intro s c q h
    obtain ⟨c', q', hf, -, hv⟩ := FP.Core.within_fit FP.Core.good_b64 FP.Core.within_32_64 h
    rw [Nat.mul_one] at hv
    exact ⟨c', q', FP.Core.roundRatio_exact FP.Core.good_b64 (by decide) hf (by rw [Nat.mul_one]; exact hv), hv⟩
  cases x with
  | nan => cases y <;> rfl
  | inf s =>
    cases y with
    | nan => rfl
    | inf t => rfl
    | fin t d r =>
      obtain ⟨c', q', h1, -⟩ := key t d r hy
      rw [h1]; rfl
  | fin s c q =>
    obtain ⟨c1, q1, h1, e1⟩ := key s c q hx
    cases y with
    | nan => rw [h1]; rfl
    | inf t => rw [h1]; rfl
    | fin t d r =>
      obtain ⟨d1, r1, h2, e2⟩ := key t d r hy
      rw [h1, h2]
      simp only [FP.Core.order]
      congr 1
      have hm : ∀ (s : Bool) (c c1 : Nat) (q q1 m m1 : Int), c * 2 ^ (q - q1).toNat = c1 * 2 ^ (q1 - q).toNat → m ≤ q → m1 ≤ q1 → FP.Core.signed s (FP.Core.inUnits c q m) * ((2 ^ (m - m1).toNat : Nat) : Int) = FP.Core.signed s (FP.Core.inUnits c1 q1 m1) * ((2 ^ (m1 - m).toNat : Nat) : Int) := by
        intro s c c1 q q1 m m1 h hm hm1
        rw [← FP.Core.signed_mul, ← FP.Core.signed_mul]
        congr 1
        unfold FP.Core.inUnits
        rw [Nat.mul_assoc, Nat.mul_assoc, ← Nat.pow_add, ← Nat.pow_add]
        refine Nat.eq_of_mul_eq_mul_right (Nat.two_pow_pos ((q - q1).toNat)) ?_
        have e : c * 2 ^ ((q - m).toNat + (m - m1).toNat) * 2 ^ (q - q1).toNat = c * 2 ^ (q - q1).toNat * 2 ^ ((q - m).toNat + (m - m1).toNat) := by ac_rfl
        rw [e, h, Nat.mul_assoc, Nat.mul_assoc, ← Nat.pow_add, ← Nat.pow_add]
        congr 2
        omega
      have p1 : (0 : Int) < ((2 ^ (min q r - min q1 r1).toNat : Nat) : Int) := by have := Nat.two_pow_pos (min q r - min q1 r1).toNat; omega
      have p2 : (0 : Int) < ((2 ^ (min q1 r1 - min q r).toNat : Nat) : Int) := by have := Nat.two_pow_pos (min q1 r1 - min q r).toNat; omega
      rw [← FP.Core.compare_mul_pos _ _ _ p2, ← hm s c c1 q q1 (min q r) (min q1 r1) e1 (by omega) (by omega), ← hm t d d1 r r1 (min q r) (min q1 r1) e2 (by omega) (by omega), FP.Core.compare_mul_pos _ _ _ p1]
theorem dc_fd {a b : UInt32} (ha : FP.Core.val32 a ≠ .nan) (hb : FP.Core.val32 b ≠ .nan) : FP.dcmp (FP.f2d a) (FP.f2d b) = FP.fcmp a b := by
  rw [FP.f2d_core ((FP.Core.notNaN_iff32 a).mpr ha), FP.f2d_core ((FP.Core.notNaN_iff32 b).mpr hb)]
  show FP.Core.order (FP.Core.val64 _) (FP.Core.val64 _) = FP.Core.order (FP.Core.val32 a) (FP.Core.val32 b)
  rw [FP.Core.val64_f2d, FP.Core.val64_f2d]
  exact order_widen (FP.Core.val32_fits a) (FP.Core.val32_fits b)
/-- two equal numbers: their difference, either way round, is a zero -/
theorem sum_eq_zero {f : FP.Core.Fmt} {x y : FP.Core.Datum} {s c q t d r} (hx : x = .fin s c q) (hy : y = .fin t d r) (h : FP.Core.order x y = some .eq) : ∃ z, FP.Core.round f (FP.Core.exactSum x (FP.Core.negate y)) = .fin z 0 f.qmin := by
  subst hx; subst hy
  simp only [FP.Core.order, Option.some.injEq] at h
  have h0 : FP.Core.signed s (FP.Core.inUnits c q (min q r)) = FP.Core.signed t (FP.Core.inUnits d r (min q r)) := by
    revert h
    generalize FP.Core.signed s (FP.Core.inUnits c q (min q r)) = a
    generalize FP.Core.signed t (FP.Core.inUnits d r (min q r)) = b
    intro h
    simp only [compare, compareOfLessAndEq] at h
    by_cases h1 : a < b
    · rw [if_pos h1] at h; cases h
    · by_cases h2 : a = b
      · exact h2
      · rw [if_neg h1, if_neg h2] at h; cases h
  have hu : FP.Core.sumUnits s c q (!t) d r (min q r) = 0 := by
    unfold FP.Core.sumUnits
    have : FP.Core.signed (!t) (FP.Core.inUnits d r (min q r)) = - FP.Core.signed t (FP.Core.inUnits d r (min q r)) := by cases t <;> simp [FP.Core.signed]
    rw [this, h0]; omega
  simp only [FP.Core.exactSum, FP.Core.negate]
  rw [hu]
  exact ⟨_, by simp [FP.Core.round, FP.Core.roundRatio]; rfl⟩
theorem order_zero (z z' : Bool) (q : Int) (w : FP.Core.Datum) : FP.Core.order (.fin z 0 q) w = FP.Core.order (.fin z' 0 q) w := by
  cases w with
  | nan => rfl
  | inf s => rfl
  | fin s c r =>
    simp only [FP.Core.order]
    have : ∀ z : Bool, FP.Core.signed z (FP.Core.inUnits 0 q (min q r)) = 0 := fun z => by unfold FP.Core.inUnits; rw [Nat.zero_mul]; exact FP.Core.signed_zero z
    rw [this z, this z']
theorem ds_eq {a b w : UInt64} (ha : FP.Core.DFin a) (hb : FP.Core.DFin b) (h : FP.dcmp a b = some .eq) : FP.dcmp (FP.dsub a b) w = FP.dcmp (FP.dsub b a) w := by
  obtain ⟨s, c, q, hx⟩ := ha
  obtain ⟨t, d, r, hy⟩ := hb
  have h2 : FP.Core.order (FP.Core.val64 b) (FP.Core.val64 a) = some .eq := by rw [FP.Core.order_swap, show FP.Core.order (FP.Core.val64 a) (FP.Core.val64 b) = some .eq from h]; rfl
  obtain ⟨z, e1⟩ := sum_eq_zero (f := FP.Core.b64) hx hy h
  obtain ⟨z', e2⟩ := sum_eq_zero (f := FP.Core.b64) hy hx h2
  show FP.Core.order (FP.Core.val64 (FP.Core.dsub a b)) _ = FP.Core.order (FP.Core.val64 (FP.Core.dsub b a)) _
  rw [FP.Core.val64_dsub, FP.Core.val64_dsub, e1, e2]
  exact order_zero _ _ _ _
theorem fs_eq {a b w : UInt32} (ha : FP.Core.FFin a) (hb : FP.Core.FFin b) (h : FP.fcmp a b = some .eq) : FP.fcmp (FP.fsub a b) w = FP.fcmp (FP.fsub b a) w := by
  obtain ⟨s, c, q, hx⟩ := ha
  obtain ⟨t, d, r, hy⟩ := hb
  have h2 : FP.Core.order (FP.Core.val32 b) (FP.Core.val32 a) = some .eq := by rw [FP.Core.order_swap, show FP.Core.order (FP.Core.val32 a) (FP.Core.val32 b) = some .eq from h]; rfl
  obtain ⟨z, e1⟩ := sum_eq_zero (f := FP.Core.b32) hx hy h
  obtain ⟨z', e2⟩ := sum_eq_zero (f := FP.Core.b32) hy hx h2
  show FP.Core.order (FP.Core.val32 (FP.Core.fsub a b)) _ = FP.Core.order (FP.Core.val32 (FP.Core.fsub b a)) _
  rw [FP.Core.val32_fsub, FP.Core.val32_fsub, e1, e2]
  exact order_zero _ _ _ _
/-- the value of a number, for a gauge that is narrow or not -/
def vl (nar n : Int32) : UInt64 := if nar = 0 then wd n else FP.f2d (sl n)
theorem vl_fin (nar n : Int32) : FP.Core.DFin (vl nar n) := by
  unfold vl; split
  · exact wd_fin n
  · exact fd_fin (sl_fin n)
theorem dc_nn {a b : UInt64} (ha : FP.Core.DFin a) (hb : FP.Core.DFin b) : FP.dcmp a b ≠ none := fun h => ((FP.Core.dcmp_none a b).mp h).elim ha.ne_nan hb.ne_nan
theorem dc_self {a : UInt64} (ha : FP.Core.DFin a) : FP.dcmp a a = some .eq := FP.Core.dcmp_self ha.ne_nan
theorem dc_swap (a b : UInt64) : FP.dcmp b a = (FP.dcmp a b).map Ordering.swap := FP.Core.dcmp_swap a b
/-- what dcmpg, dcmpl say, by the order -/
theorem cvg_ge (o : Option Ordering) : 0 ≤ Op.cmpValue o CmpOp.g ↔ ¬ o = some .lt := by rcases o with _ | (_ | _ | _) <;> simp [Op.cmpValue] <;> decide
theorem cvg_gt (o : Option Ordering) : 0 < Op.cmpValue o CmpOp.g ↔ ¬ (o = some .lt ∨ o = some .eq) := by rcases o with _ | (_ | _ | _) <;> simp [Op.cmpValue] <;> decide
theorem cvl_le (o : Option Ordering) : Op.cmpValue o CmpOp.l ≤ 0 ↔ ¬ o = some .gt := by rcases o with _ | (_ | _ | _) <;> simp [Op.cmpValue] <;> decide
theorem cvl_lt (o : Option Ordering) : Op.cmpValue o CmpOp.l < 0 ↔ ¬ (o = some .gt ∨ o = some .eq) := by rcases o with _ | (_ | _ | _) <;> simp [Op.cmpValue] <;> decide
theorem cvl_eq (o : Option Ordering) : Op.cmpValue o CmpOp.l = 0 ↔ o = some .eq := by rcases o with _ | (_ | _ | _) <;> simp [Op.cmpValue] <;> decide
