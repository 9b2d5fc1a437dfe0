/-! What each call answers, and the state behind it. -/
def held (σ : SG) (c : Nat) : Bool := rd (σ 1 (cA σ c)) (σ 2 (cA σ c)) (σ 13 c) (σ 1 (cB σ c)) (if σ 15 c = -1 then σ 16 c else σ 2 (cB σ c)) != decide (σ 12 c ≠ 0)
def shR (f : Nat → Int32) (b n : Nat) (v : Int32) : Nat → Int32 := fun i => if i = b then v else if b < i ∧ i < b + n then f (i - 1) else f i
def noted (σ : SG) (j : Nat) : SG := st (sr σ 9 (shR (σ 9) (12 * j) 12 (σ 2 j))) 10 j (if σ 10 j < 12 then σ 10 j + 1 else 12)
def nowN (σ : SG) (t : Nat) : Nat → Int32
  | 0 => 0
  | k + 1 => nowN σ t k + bI (held σ (cN (σ 19 (6 * t + k))))
def now (σ : SG) (t : Nat) : Int32 := nowN σ t (cN (σ 18 t))
def fhN (σ : SG) (t : Nat) : Nat → Nat → Int32
  | 0, _ => -1
  | n + 1, k => if held σ (cN (σ 19 (6 * t + k))) then σ 19 (6 * t + k) else fhN σ t n (k + 1)
def firstH (σ : SG) (t : Nat) : Int32 := fhN σ t (cN (σ 18 t)) 0
def evA (σ : SG) (a b c : Int32) : SG := sr (sr (sr σ 22 (shR (σ 22) 0 20 a)) 23 (shR (σ 23) 0 20 b)) 24 (shR (σ 24) 0 20 c)
def gho (σ : SG) : SG := sr σ 31 (fun i => if i < 3 then (if σ 31 i < 20 then σ 31 i + 1 else σ 31 i) else σ 31 i)
def evs (σ : SG) (t : Nat) : SG := gho (st (evA σ (nI t) (σ 25 0) (firstH σ t)) 29 0 (σ 29 0 + 1))
def aged (σ : SG) : SG := sr (st σ 25 0 (σ 25 0 + 1)) 8 (fun g => if g < 16 then (if σ 0 g ≠ 0 ∧ σ 2 g = gp then σ 8 g + 1 else 0) else σ 8 g)
def scN (σ : SG) : Nat → Int32 × SG
  | 0 => (0, aged σ)
  | t + 1 => if (scN σ t).2 20 t ≠ 0 ∧ (scN σ t).2 21 t = 0 ∧ ¬ now (scN σ t).2 t < (scN σ t).2 17 t then ((scN σ t).1 + 1, evs (st (scN σ t).2 21 t 1) t) else scN σ t
def ahd (σ : SG) (h g : Nat) : Bool := if σ 2 h = gp ∨ σ 2 g = gp then (if σ 2 h = gp then decide (σ 2 g = gp ∧ h < g) else true) else (FP.dcmp (vl (σ 1 h) (σ 2 h)) (vl (σ 1 g) (σ 2 g)) == some .gt || (FP.dcmp (vl (σ 1 h) (σ 2 h)) (vl (σ 1 g) (σ 2 g)) == some .eq && decide (h < g)))
def ahN (σ : SG) (g : Nat) : Nat → Int32
  | 0 => 0
  | h + 1 => ahN σ g h + bI (decide (h ≠ g ∧ σ 0 h ≠ 0) && ahd σ h g)
def ordN (σ : SG) (k : Int32) : Nat → Nat → Int32
  | 0, _ => -1
  | n + 1, g => if σ 0 g ≠ 0 ∧ ahN σ g 16 = k then nI g else ordN σ k n (g + 1)
def exN (σ : SG) (b : Int32) : Nat → Int32
  | 0 => -1
  | g + 1 => if σ 0 g ≠ 0 ∧ σ 2 g ≠ gp ∧ (exN σ b g = -1 ∨ FP.dcmp (vl (σ 1 g) (σ 2 g)) (vl (σ 1 (cN (exN σ b g))) (σ 2 (cN (exN σ b g)))) = some (if b = 0 then .lt else .gt)) then nI g else exN σ b g
def siN (σ : SG) (j : Nat) (rel n : Int32) : Nat → Nat → Int32
  | 0, k => nI k
  | m + 1, k => if rd (σ 1 j) (σ 9 (12 * j + k)) rel (σ 1 j) n then nI k else siN σ j rel n m (k + 1)
def coN (σ : SG) (j : Nat) (rel n : Int32) : Nat → Int32
  | 0 => 0
  | k + 1 => coN σ j rel n k + bI (rd (σ 1 j) (σ 9 (12 * j + k)) rel (σ 1 j) n)
def cmN (σ : SG) : Nat → Int32
  | 0 => 0
  | g + 1 => cmN σ g + bI (decide (σ 0 g ≠ 0))
def ctN (σ : SG) : Nat → Int32
  | 0 => 0
  | t + 1 => ctN σ t + bI (decide (σ 20 t ≠ 0 ∧ σ 21 t ≠ 0))
def defs (σ : SG) (c : Nat) (rel a b n tu : Int32) : SG := st (st (st (st (st (st σ 11 c 1) 12 c tu) 13 c rel) 14 c a) 15 c b) 16 c n
def F_make (σ : SG) (g b : Int32) : Int32 × SG := if 0 ≤ g ∧ g < 16 then (if σ 0 (cN g) ≠ 0 then (0, σ) else (1, st (st (st (st (st (st (st σ 0 (cN g) 1) 1 (cN g) b) 2 (cN g) gp) 3 (cN g) gp) 4 (cN g) gp) 6 (cN g) gp) 7 (cN g) gp)) else (-4, σ)
def F_limit (σ : SG) (g b n : Int32) : Int32 × SG := if isNum n then (match gx σ g with | none => (-2, σ) | some j => (1, if b = 0 then st σ 3 j n else st σ 4 j n)) else (-4, σ)
def F_open (σ : SG) (g b : Int32) : Int32 × SG := match gx σ g with | none => (-2, σ) | some j => if b = 0 then (if σ 3 j = gp then 0 else 1, st σ 3 j gp) else (if σ 4 j = gp then 0 else 1, st σ 4 j gp)
def F_band (σ : SG) (g n : Int32) : Int32 × SG := if n < 0 ∨ 1000000 < n then (-4, σ) else match gx σ g with | none => (-2, σ) | some j => (1, st σ 5 j n)
/-- far apart: more than the band -/
def far (nar bd n m : Int32) : Bool :=
  if FP.dcmp (vl nar n) (vl nar m) = some .gt then (if nar = 0 then FP.dcmp (FP.dsub (wd n) (wd m)) (wd bd) == some .gt else FP.fcmp (FP.fsub (sl n) (sl m)) (sl bd) == some .gt)
  else (if nar = 0 then FP.dcmp (FP.dsub (wd m) (wd n)) (wd bd) == some .gt else FP.fcmp (FP.fsub (sl m) (sl n)) (sl bd) == some .gt)
def cutB (σ : SG) (j : Nat) (n : Int32) : Bool := rd (σ 1 j) n 0 (σ 1 j) (σ 3 j) || rd (σ 1 j) n 2 (σ 1 j) (σ 4 j)
def how (σ : SG) (j : Nat) (n : Int32) : Int32 := if cutB σ j n then 0 else if σ 2 j ≠ gp ∧ far (σ 1 j) (σ 5 j) n (σ 2 j) = false then 1 else 2
def mk6 (σ : SG) (j : Nat) (n : Int32) : SG := if σ 6 j = gp ∨ FP.dcmp (vl (σ 1 j) n) (vl (σ 1 j) (σ 6 j)) = some .gt then st σ 6 j n else σ
def mk7 (σ : SG) (j : Nat) (n : Int32) : SG := if σ 7 j = gp ∨ FP.dcmp (vl (σ 1 j) n) (vl (σ 1 j) (σ 7 j)) = some .lt then st σ 7 j n else σ
def tookG (σ : SG) (j : Nat) (n h : Int32) : SG := if h = 0 then st σ 2 j gp else if h = 1 then σ else mk7 (mk6 (st σ 2 j n) j n) j n
def tookC (σ : SG) (h : Int32) : SG := if h = 0 then st σ 28 0 (σ 28 0 + 1) else if h = 1 then st σ 27 0 (σ 27 0 + 1) else st σ 26 0 (σ 26 0 + 1)
def F_take (σ : SG) (g n : Int32) : Int32 × SG := if isNum n then (match gx σ g with | none => (-2, σ) | some j => (how σ j n, noted (tookC (tookG σ j n (how σ j n)) (how σ j n)) j)) else (-4, σ)
def F_gap (σ : SG) (g : Int32) : Int32 × SG := match gx σ g with | none => (-2, σ) | some j => (if σ 2 j = gp then 0 else 1, noted (st σ 2 j gp) j)
def F_clear (σ : SG) (g : Int32) : Int32 × SG := match gx σ g with | none => (-2, σ) | some j => (1, st (st (st σ 6 j gp) 7 j gp) 10 j 0)
def F_shown (σ : SG) (g : Int32) : Int32 := match gx σ g with | none => gp | some j => σ 2 j
def F_mark (σ : SG) (g b : Int32) : Int32 := match gx σ g with | none => gp | some j => if b = 0 then σ 7 j else σ 6 j
def F_stale (σ : SG) (g : Int32) : Int32 := match gx σ g with | none => -2 | some j => σ 8 j
def F_stands (σ : SG) (a rel b : Int32) : Int32 := if isRel rel then (match gx σ a with | none => -2 | some i => match gx σ b with | none => -2 | some j => bI (rd (σ 1 i) (σ 2 i) rel (σ 1 j) (σ 2 j))) else -4
def F_between (σ : SG) (c rel a b tu : Int32) : Int32 × SG := if (0 ≤ c ∧ c < 24) ∧ isRel rel then (match gx σ a with | none => (-2, σ) | some _ => match gx σ b with | none => (-2, σ) | some _ => (1, defs σ (cN c) rel a b 0 tu)) else (-4, σ)
def F_level (σ : SG) (c rel a n tu : Int32) : Int32 × SG := if (0 ≤ c ∧ c < 24) ∧ isRel rel ∧ isNum n then (match gx σ a with | none => (-2, σ) | some _ => (1, defs σ (cN c) rel a (-1) n tu)) else (-4, σ)
def F_holds (σ : SG) (c : Int32) : Int32 := match cx σ c with | none => -2 | some j => bI (held σ j)
def tripped0 (σ : SG) (t : Nat) (v : Int32) : SG := sr (st (st (st (st σ 20 t 1) 17 t v) 18 t 0) 21 t 0) 30 (fun i => if 6 * t ≤ i ∧ i < 6 * t + 6 then 0 else σ 30 i)
def F_trip (σ : SG) (t v : Int32) : Int32 × SG := if (0 ≤ t ∧ t < 8) ∧ 1 ≤ v ∧ v ≤ 6 then (1, tripped0 σ (cN t) v) else (-4, σ)
def F_part (σ : SG) (t c : Int32) : Int32 × SG := match tx σ t with | none => (-2, σ) | some i => match cx σ c with | none => (-2, σ) | some _ => if σ 18 i = 6 then (-1, σ) else (σ 18 i + 1, st (st (st σ 19 (6 * i + cN (σ 18 i)) c) 18 i (σ 18 i + 1)) 30 (6 * i + cN (σ 18 i)) c)
def F_scan (σ : SG) : Int32 × SG := scN σ 8
def F_reset (σ : SG) (t : Int32) : Int32 × SG := match tx σ t with | none => (-2, σ) | some i => if now σ i < σ 17 i then (if σ 21 i = 0 then 0 else 1, st σ 21 i 0) else (-5, σ)
def F_votes (σ : SG) (t : Int32) : Int32 := match tx σ t with | none => -2 | some i => now σ i
def F_tripped (σ : SG) (t : Int32) : Int32 := match tx σ t with | none => -2 | some i => if σ 21 i = 0 then 0 else 1
def F_order (σ : SG) (k : Int32) : Int32 := ordN σ k 16 0
def F_extreme (σ : SG) (b : Int32) : Int32 := exN σ b 16
def F_since (σ : SG) (g rel n : Int32) : Int32 := if isRel rel ∧ isNum n then (match gx σ g with | none => -2 | some j => siN σ j rel n (cN (σ 10 j)) 0) else -4
def F_counted (σ : SG) (g rel n : Int32) : Int32 := if isRel rel ∧ isNum n then (match gx σ g with | none => -2 | some j => coN σ j rel n (cN (σ 10 j))) else -4
def F_event (σ : SG) (k w : Int32) : Int32 := if k < 0 ∨ 20 ≤ k ∨ σ 29 0 ≤ k ∨ w < 0 ∨ 2 < w then -1 else if w = 0 then σ 22 (cN k) else if w = 1 then σ 23 (cN k) else σ 24 (cN k)
def F_about (σ : SG) (w : Int32) : Int32 := if w = 0 then cmN σ 16 else if w = 5 then ctN σ 8 else if w = 1 then σ 25 0 else if w = 2 then σ 26 0 else if w = 3 then σ 27 0 else if w = 4 then σ 28 0 else if w = 6 then σ 29 0 else -1
/-- what always holds of the state -/
def okC (σ : SG) (c : Nat) : Prop := (∃ a, a < 16 ∧ σ 14 c = nI a ∧ σ 0 a ≠ 0) ∧ isRel (σ 13 c) ∧ (σ 12 c = 0 ∨ σ 12 c = 1) ∧ ((σ 15 c = -1 ∧ isNum (σ 16 c)) ∨ ∃ b, b < 16 ∧ σ 15 c = nI b ∧ σ 0 b ≠ 0)
def okT (σ : SG) (t : Nat) : Prop := (1 ≤ σ 17 t ∧ σ 17 t ≤ 6) ∧ ∃ n, n ≤ 6 ∧ σ 18 t = nI n ∧ ∀ k, k < n → (∃ c, c < 24 ∧ σ 19 (6 * t + k) = nI c ∧ σ 11 c ≠ 0) ∧ σ 30 (6 * t + k) = σ 19 (6 * t + k)
def okG (σ : SG) (g : Nat) : Prop := (∃ n, n ≤ 12 ∧ σ 10 g = nI n) ∧ (σ 0 g = 0 → σ 5 g = 0 ∧ σ 8 g = 0 ∧ σ 10 g = 0 ∧ ∀ p, p < 12 → σ 9 (12 * g + p) = 0)
def okE (σ : SG) (b : Nat) : Prop := ∃ n, n ≤ b ∧ σ 29 0 = nI n ∧ σ 31 0 = nI (min n 20) ∧ σ 31 1 = nI (min n 20) ∧ σ 31 2 = nI (min n 20)
def Inv (σ : SG) (b : Nat) : Prop := (∀ g, g < 16 → okG σ g) ∧ (∀ c, c < 24 → σ 11 c ≠ 0 → okC σ c) ∧ (∀ t, t < 8 → σ 20 t ≠ 0 → okT σ t) ∧ okE σ b
