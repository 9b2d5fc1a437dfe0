def A0 (s : State) (q : Nat) : Prop := s.heap.size ≤ q
def AR (s : State) (q : Nat) : Prop := s.heap.size + 10 ≤ q ∧ q < s.heap.size + 36
def AC (s : State) (q : Nat) : Prop := s.heap.size ≤ q ∧ ¬ AR s q
def LI (s : State) (D : va_G) (cy : Nat → ClassId) (H : Heap) (locs : List Loc) (cells slots : Nat) (σ : SG) (α ρ : AD) (N : Nat) : Prop :=
  PW D (AC s) α (CC cy σ α) H ∧ PW D (AR s) ρ (CR cy σ ρ) H ∧ Inv σ (8 * N) ∧ va_S (A0 s) s.heap H locs ∧ s.heap.size + 36 ≤ H.size ∧ cells ≤ 36 + 3 * N ∧ slots ≤ 791 + 23 * N ∧ N ≤ 512
theorem law_in {i k L : Nat} {x : Int32} (hx : x = nI k) (h : i + k < L) (hL : L ≤ 3072) : vp_in (nI i + x) L := by
  rw [hx, nI_add]
  intro q
  rcases q with q | q
  · exact nI_pos (by omega) q
  · rw [nI_clamp (by omega)] at q; omega

theorem keptR {s : State} {D : va_G} {ρ : AD} {X : CF} {H H1 : Heap} (h : PW D (AR s) ρ X H) (hk : ∀ q : Nat, q < H.size → ¬ AC s q → H1[q]? = H[q]?) : PW D (AR s) ρ X H1 := h.kept (fun q hq ha => hk q hq (fun w => w.2 ha))
theorem keptC {s : State} {D : va_G} {α : AD} {X : CF} {H H1 : Heap} (h : PW D (AC s) α X H) (hk : ∀ q : Nat, q < H.size → ¬ AR s q → H1[q]? = H[q]?) : PW D (AC s) α X H1 := h.kept (fun q hq ha => hk q hq ha.2)
