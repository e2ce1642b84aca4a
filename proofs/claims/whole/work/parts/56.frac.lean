/-! cells that an edge passes: the reference's fractions and the class's test -/
abbrev hc_Fr : Type := Int × Int × Bool
def okF (l u : hc_Fr) : Prop := l.1 * u.2.1 < u.1 * l.2.1 ∨ (l.1 * u.2.1 = u.1 * l.2.1 ∧ l.2.2 = true ∧ u.2.2 = true)
def mxF (l n : hc_Fr) : hc_Fr := if l.1 * n.2.1 < n.1 * l.2.1 ∨ (n.1 * l.2.1 = l.1 * n.2.1 ∧ n.2.2 = false) then n else l
def mnF (u n : hc_Fr) : hc_Fr := if n.1 * u.2.1 < u.1 * n.2.1 ∨ (n.1 * u.2.1 = u.1 * n.2.1 ∧ n.2.2 = false) then n else u
/-- fractions a/b, c/d, e/f: from the first two comparisons the third -/
theorem fr_le {a b c d e f : Int} (hb : 0 < b) (hd : 0 < d) (hf : 0 < f) (h1 : a * d ≤ c * b) (h2 : c * f ≤ e * d) : a * f ≤ e * b ∧ (a * d < c * b ∨ c * f < e * d → a * f < e * b) := by
  have p1 : a * d * f ≤ c * b * f := Int.mul_le_mul_of_nonneg_right h1 (by omega)
  have p2 : c * f * b ≤ e * d * b := Int.mul_le_mul_of_nonneg_right h2 (by omega)
  have e1 : a * d * f = d * (a * f) := by rw [Int.mul_comm a d, Int.mul_assoc]
  have e2 : c * b * f = c * f * b := by rw [Int.mul_assoc, Int.mul_comm b f, ← Int.mul_assoc]
  have e3 : e * d * b = d * (e * b) := by rw [Int.mul_comm e d, Int.mul_assoc]
  rw [e1, e2] at p1
  rw [e3] at p2
  constructor
  · exact Int.le_of_mul_le_mul_left (by omega : d * (a * f) ≤ d * (e * b)) hd
  · rintro (h | h)
    · have p3 : a * d * f < c * b * f := Int.mul_lt_mul_of_pos_right h hf
      rw [e1, e2] at p3
      exact Int.lt_of_mul_lt_mul_left (by omega : d * (a * f) < d * (e * b)) (by omega)
    · have p3 : c * f * b < e * d * b := Int.mul_lt_mul_of_pos_right h hb
      rw [e3] at p3
      exact Int.lt_of_mul_lt_mul_left (by omega : d * (a * f) < d * (e * b)) (by omega)
theorem okF_mx {l n u : hc_Fr} (hl : 0 < l.2.1) (hn : 0 < n.2.1) (hu : 0 < u.2.1) : okF (mxF l n) u ↔ okF l u ∧ okF n u := by
  obtain ⟨a, b, p⟩ := l
  obtain ⟨c, d, q⟩ := n
  obtain ⟨e, f, r⟩ := u
  simp only at hl hn hu
  unfold okF mxF
  simp only
  by_cases h1 : a * d < c * b
  · rw [if_pos (Or.inl h1)]
    dsimp only
    refine ⟨fun h => ⟨?_, h⟩, fun h => h.2⟩
    rcases h with h | ⟨h, -⟩
    · exact Or.inl ((fr_le hl hn hu (by omega) (by omega)).2 (Or.inl h1))
    · exact Or.inl ((fr_le hl hn hu (by omega) (by omega)).2 (Or.inl h1))
  · by_cases h2 : c * b = a * d
    · cases q with
      | false =>
        rw [if_pos (Or.inr ⟨h2, rfl⟩)]
        dsimp only
        refine ⟨fun h => ⟨?_, h⟩, fun h => h.2⟩
        rcases h with h | ⟨-, h, -⟩
        · exact Or.inl ((fr_le hl hn hu (by omega) (by omega)).2 (Or.inr h))
        · cases h
      | true =>
        rw [if_neg (by rintro (h | ⟨-, h⟩); exact h1 h; cases h)]
        dsimp only
        refine ⟨fun h => ⟨h, ?_⟩, fun h => h.1⟩
        rcases h with h | ⟨h, h3, h4⟩
        · exact Or.inl ((fr_le hn hl hu (by omega) (by omega)).2 (Or.inr h))
        · have g1 := (fr_le hn hl hu (show c * b ≤ a * d by omega) (show a * f ≤ e * b by omega)).1
          by_cases g2 : c * f = e * d
          · exact Or.inr ⟨g2, rfl, h4⟩
          · exact Or.inl (by omega)
    · rw [if_neg (by rintro (h | ⟨h, -⟩); exact h1 h; exact h2 h)]
      dsimp only
      refine ⟨fun h => ⟨h, ?_⟩, fun h => h.1⟩
      have h3 : c * b < a * d := by omega
      rcases h with h | ⟨h, -⟩
      · exact Or.inl ((fr_le hn hl hu (by omega) (by omega)).2 (Or.inl h3))
      · exact Or.inl ((fr_le hn hl hu (by omega) (by omega)).2 (Or.inl h3))
theorem okF_mn {l n u : hc_Fr} (hl : 0 < l.2.1) (hn : 0 < n.2.1) (hu : 0 < u.2.1) : okF l (mnF u n) ↔ okF l u ∧ okF l n := by
  obtain ⟨a, b, p⟩ := l
  obtain ⟨c, d, q⟩ := n
  obtain ⟨e, f, r⟩ := u
  simp only at hl hn hu
  unfold okF mnF
  simp only
  by_cases h1 : c * f < e * d
  · rw [if_pos (Or.inl h1)]
    dsimp only
    refine ⟨fun h => ⟨?_, h⟩, fun h => h.2⟩
    rcases h with h | ⟨h, -⟩
    · exact Or.inl ((fr_le hl hn hu (by omega) (by omega)).2 (Or.inr h1))
    · exact Or.inl ((fr_le hl hn hu (by omega) (by omega)).2 (Or.inr h1))
  · by_cases h2 : c * f = e * d
    · cases q with
      | false =>
        rw [if_pos (Or.inr ⟨h2, rfl⟩)]
        dsimp only
        refine ⟨fun h => ⟨?_, h⟩, fun h => h.2⟩
        rcases h with h | ⟨-, -, h⟩
        · exact Or.inl ((fr_le hl hn hu (by omega) (by omega)).2 (Or.inl h))
        · cases h
      | true =>
        rw [if_neg (by rintro (h | ⟨-, h⟩); exact h1 h; cases h)]
        dsimp only
        refine ⟨fun h => ⟨h, ?_⟩, fun h => h.1⟩
        rcases h with h | ⟨h, h3, h4⟩
        · exact Or.inl ((fr_le hl hu hn (by omega) (by omega)).2 (Or.inl h))
        · have g1 := (fr_le hl hu hn (show a * f ≤ e * b by omega) (show e * d ≤ c * f by omega)).1
          by_cases g2 : a * d = c * b
          · exact Or.inr ⟨g2, h3, rfl⟩
          · exact Or.inl (by omega)
    · rw [if_neg (by rintro (h | ⟨h, -⟩); exact h1 h; exact h2 h)]
      dsimp only
      refine ⟨fun h => ⟨h, ?_⟩, fun h => h.1⟩
      have h3 : e * d < c * f := by omega
      rcases h with h | ⟨h, -⟩
      · exact Or.inl ((fr_le hl hu hn (by omega) (by omega)).2 (Or.inr h3))
      · exact Or.inl ((fr_le hl hu hn (by omega) (by omega)).2 (Or.inr h3))
/-- bounds that one axis gives: the way along it, low and high off the start -/
def loF (y lo hi : Int) : hc_Fr := if 0 < y then (lo, y, true) else (-hi, -y, false)
def hiF (y lo hi : Int) : hc_Fr := if 0 < y then (hi, y, false) else (-lo, -y, true)
def L0F : hc_Fr := (0, 1, true)
def U0F : hc_Fr := (1, 1, true)
def axL (d I : Int) (l : hc_Fr) : hc_Fr := if d = 0 then l else mxF l (loF (2 * d) (2 * I - 1) (2 * I + 1))
def axU (d I : Int) (u : hc_Fr) : hc_Fr := if d = 0 then u else mnF u (hiF (2 * d) (2 * I - 1) (2 * I + 1))
theorem mxF_pos {l n : hc_Fr} (hl : 0 < l.2.1) (hn : 0 < n.2.1) : 0 < (mxF l n).2.1 := by
  unfold mxF
  split
  · exact hn
  · exact hl
theorem mnF_pos {l n : hc_Fr} (hl : 0 < l.2.1) (hn : 0 < n.2.1) : 0 < (mnF l n).2.1 := by
  unfold mnF
  split
  · exact hn
  · exact hl
theorem loF_pos {y : Int} (lo hi : Int) (h : ¬ y = 0) : 0 < (loF y lo hi).2.1 := by
  unfold loF
  split
  · assumption
  · show 0 < -y
    omega
theorem hiF_pos {y : Int} (lo hi : Int) (h : ¬ y = 0) : 0 < (hiF y lo hi).2.1 := by
  unfold hiF
  split
  · assumption
  · show 0 < -y
    omega
theorem okF_axL {d I : Int} {l u : hc_Fr} (hl : 0 < l.2.1) (hu : 0 < u.2.1) : okF (axL d I l) u ↔ okF l u ∧ (¬ d = 0 → okF (loF (2 * d) (2 * I - 1) (2 * I + 1)) u) := by
  unfold axL
  by_cases h : d = 0
  · rw [if_pos h]
    exact ⟨fun x => ⟨x, fun y => absurd h y⟩, fun x => x.1⟩
  · rw [if_neg h, okF_mx hl (loF_pos _ _ (by omega)) hu]
    exact ⟨fun x => ⟨x.1, fun _ => x.2⟩, fun x => ⟨x.1, x.2 h⟩⟩
theorem okF_axU {d I : Int} {l u : hc_Fr} (hl : 0 < l.2.1) (hu : 0 < u.2.1) : okF l (axU d I u) ↔ okF l u ∧ (¬ d = 0 → okF l (hiF (2 * d) (2 * I - 1) (2 * I + 1))) := by
  unfold axU
  by_cases h : d = 0
  · rw [if_pos h]
    exact ⟨fun x => ⟨x, fun y => absurd h y⟩, fun x => x.1⟩
  · rw [if_neg h, okF_mn hl (hiF_pos _ _ (by omega)) hu]
    exact ⟨fun x => ⟨x.1, fun _ => x.2⟩, fun x => ⟨x.1, x.2 h⟩⟩
theorem axL_pos {d I : Int} {l : hc_Fr} (hl : 0 < l.2.1) : 0 < (axL d I l).2.1 := by
  unfold axL
  split
  · exact hl
  · exact mxF_pos hl (loF_pos _ _ (by omega))
theorem axU_pos {d I : Int} {l : hc_Fr} (hl : 0 < l.2.1) : 0 < (axU d I l).2.1 := by
  unfold axU
  split
  · exact hl
  · exact mnF_pos hl (hiF_pos _ _ (by omega))
/-- the two bounds of one axis against the whole edge: the node lies in the box of the ends -/
theorem ax_box {d I : Int} : (d = 0 → I = 0) ∧ (¬ d = 0 → okF L0F (hiF (2 * d) (2 * I - 1) (2 * I + 1)) ∧ okF (loF (2 * d) (2 * I - 1) (2 * I + 1)) U0F) ↔ min 0 d ≤ I ∧ I ≤ max 0 d := by
  unfold okF loF hiF L0F U0F
  by_cases h : 0 < d
  · rw [if_pos (by omega), if_pos (by omega)]
    simp only [Int.zero_mul, Int.mul_one, Int.one_mul, Bool.false_eq_true, and_false, or_false, and_true, true_and]
    omega
  · by_cases h2 : d = 0
    · omega
    · rw [if_neg (by omega), if_neg (by omega)]
      simp only [Int.zero_mul, Int.mul_one, Int.one_mul, Bool.false_eq_true, and_false, false_and, or_false, and_true, true_and]
      omega
theorem ax_self {d I : Int} (h : ¬ d = 0) : okF (loF (2 * d) (2 * I - 1) (2 * I + 1)) (hiF (2 * d) (2 * I - 1) (2 * I + 1)) := by
  unfold okF loF hiF
  by_cases h1 : 0 < d
  · rw [if_pos (by omega), if_pos (by omega)]
    dsimp only
    left
    exact Int.mul_lt_mul_of_pos_right (by omega) (by omega)
  · rw [if_neg (by omega), if_neg (by omega)]
    dsimp only
    left
    exact Int.mul_lt_mul_of_pos_right (by omega) (by omega)
/-- the two axes against each other: how far off the line -/
theorem ax_off {dx dy I J : Int} (hx : ¬ dx = 0) (hy : ¬ dy = 0) : (okF (loF (2 * dx) (2 * I - 1) (2 * I + 1)) (hiF (2 * dy) (2 * J - 1) (2 * J + 1)) ∧ okF (loF (2 * dy) (2 * J - 1) (2 * J + 1)) (hiF (2 * dx) (2 * I - 1) (2 * I + 1))) ↔ ((-((dx.natAbs : Int) + (dy.natAbs : Int)) < 2 * (dx * J - dy * I) ∧ 2 * (dx * J - dy * I) < (dx.natAbs : Int) + (dy.natAbs : Int)) ∨ 2 * (dx * J - dy * I) = dx - dy) := by
  have e1 : ∀ a b c : Int, (2 * a + c) * (2 * b) = 4 * (b * a) + 2 * (c * b) := fun a b c => by
    rw [Int.add_mul, Int.mul_assoc 2 a, Int.mul_left_comm a 2 b, Int.mul_comm a b, Int.mul_left_comm c 2 b]
    omega
  have e2 : ∀ a b c : Int, (2 * a - c) * (2 * b) = 4 * (b * a) - 2 * (c * b) := fun a b c => by
    rw [Int.sub_mul, Int.mul_assoc 2 a, Int.mul_left_comm a 2 b, Int.mul_comm a b, Int.mul_left_comm c 2 b]
    omega
  unfold okF loF hiF
  rcases Int.lt_or_lt_of_ne hx with h1 | h1
  · rcases Int.lt_or_lt_of_ne hy with h2 | h2
    · rw [if_neg (by omega), if_neg (by omega), if_neg (by omega), if_neg (by omega)]
      simp only [Bool.false_eq_true, and_false, false_and, or_false, and_true, true_and, Int.neg_mul_neg, e1, e2, Int.one_mul]
      omega
    · rw [if_neg (by omega), if_pos (by omega), if_pos (by omega), if_neg (by omega)]
      simp only [Bool.false_eq_true, and_false, false_and, or_false, and_true, true_and, Int.neg_mul, Int.mul_neg, e1, e2, Int.one_mul]
      omega
  · rcases Int.lt_or_lt_of_ne hy with h2 | h2
    · rw [if_pos (by omega), if_neg (by omega), if_neg (by omega), if_pos (by omega)]
      simp only [Bool.false_eq_true, and_false, false_and, or_false, and_true, true_and, Int.neg_mul, Int.mul_neg, e1, e2, Int.one_mul]
      omega
    · rw [if_pos (by omega), if_pos (by omega), if_pos (by omega), if_pos (by omega)]
      simp only [Bool.false_eq_true, and_false, false_and, or_false, and_true, true_and, e1, e2, Int.one_mul]
      omega
theorem thr_core {dx dy I J : Int} (hz : ¬ (dx = 0 ∧ dy = 0)) : ((dx = 0 → I = 0) ∧ (dy = 0 → J = 0) ∧ okF (axL dy J (axL dx I L0F)) (axU dy J (axU dx I U0F))) ↔ (min 0 dx ≤ I ∧ I ≤ max 0 dx ∧ min 0 dy ≤ J ∧ J ≤ max 0 dy) ∧ ((-((dx.natAbs : Int) + (dy.natAbs : Int)) < 2 * (dx * J - dy * I) ∧ 2 * (dx * J - dy * I) < (dx.natAbs : Int) + (dy.natAbs : Int)) ∨ 2 * (dx * J - dy * I) = dx - dy) := by
  have p0 : 0 < L0F.2.1 := by decide
  have p1 : 0 < U0F.2.1 := by decide
  have pu : 0 < (axU dy J (axU dx I U0F)).2.1 := axU_pos (axU_pos p1)
  have ok0 : okF L0F U0F := Or.inl (by decide)
  have bx := ax_box (d := dx) (I := I)
  have bY := ax_box (d := dy) (I := J)
  rw [okF_axL (axL_pos p0) pu, okF_axL p0 pu, okF_axU p0 (axU_pos p1), okF_axU p0 p1]
  by_cases hx : dx = 0
  · have hy : ¬ dy = 0 := fun h => hz ⟨hx, h⟩
    have sy := ax_self (I := J) hy
    rw [okF_axU (loF_pos (y := 2 * dy) _ _ (by omega)) (axU_pos p1), okF_axU (loF_pos (y := 2 * dy) _ _ (by omega)) p1]
    have lin : I = 0 → ((-((dx.natAbs : Int) + (dy.natAbs : Int)) < 2 * (dx * J - dy * I) ∧ 2 * (dx * J - dy * I) < (dx.natAbs : Int) + (dy.natAbs : Int)) ∨ 2 * (dx * J - dy * I) = dx - dy) := by
      intro h
      rw [h, hx, Int.zero_mul, Int.mul_zero]
      omega
    constructor
    · intro h
      have := bY.mp ⟨h.2.1, fun _ => ⟨h.2.2.1.1.2 hy, (h.2.2.2 hy).1.1⟩⟩
      have := h.1 hx
      exact ⟨by omega, lin this⟩
    · intro h
      have h1 := bY.mpr ⟨h.1.2.2.1, h.1.2.2.2⟩
      have h2 : I = 0 := by omega
      exact ⟨fun _ => h2, h1.1, ⟨⟨⟨ok0, fun q => absurd hx q⟩, fun _ => (h1.2 hy).1⟩, fun q => absurd hx q⟩, fun _ => ⟨⟨(h1.2 hy).2, fun q => absurd hx q⟩, fun _ => sy⟩⟩
  · rw [okF_axU (loF_pos _ _ (by omega)) (axU_pos p1), okF_axU (loF_pos _ _ (by omega)) p1]
    have sx := ax_self (I := I) hx
    by_cases hy : dy = 0
    · have lin : J = 0 → ((-((dx.natAbs : Int) + (dy.natAbs : Int)) < 2 * (dx * J - dy * I) ∧ 2 * (dx * J - dy * I) < (dx.natAbs : Int) + (dy.natAbs : Int)) ∨ 2 * (dx * J - dy * I) = dx - dy) := by
        intro h
        rw [h, hy, Int.zero_mul, Int.mul_zero]
        omega
      constructor
      · intro h
        have := bx.mp ⟨h.1, fun _ => ⟨h.2.2.1.1.1.2 hx, (h.2.2.1.2 hx).1.1⟩⟩
        have := h.2.1 hy
        exact ⟨by omega, lin this⟩
      · intro h
        have h1 := bx.mpr ⟨h.1.1, h.1.2.1⟩
        have h2 : J = 0 := by omega
        exact ⟨h1.1, fun _ => h2, ⟨⟨⟨ok0, fun _ => (h1.2 hx).1⟩, fun q => absurd hy q⟩, fun _ => ⟨⟨(h1.2 hx).2, fun _ => sx⟩, fun q => absurd hy q⟩⟩, fun q => absurd hy q⟩
    · have sy := ax_self (I := J) hy
      have ao := ax_off (I := I) (J := J) hx hy
      rw [okF_axU (loF_pos (y := 2 * dy) _ _ (by omega)) (axU_pos p1), okF_axU (loF_pos (y := 2 * dy) _ _ (by omega)) p1]
      constructor
      · intro h
        have h1 := bx.mp ⟨h.1, fun _ => ⟨h.2.2.1.1.1.2 hx, (h.2.2.1.2 hx).1.1⟩⟩
        have h2 := bY.mp ⟨h.2.1, fun _ => ⟨h.2.2.1.1.2 hy, (h.2.2.2 hy).1.1⟩⟩
        exact ⟨⟨h1.1, h1.2, h2.1, h2.2⟩, ao.mp ⟨(h.2.2.1.2 hx).2 hy, (h.2.2.2 hy).1.2 hx⟩⟩
      · intro h
        have h1 := bx.mpr ⟨h.1.1, h.1.2.1⟩
        have h2 := bY.mpr ⟨h.1.2.2.1, h.1.2.2.2⟩
        have h3 := ao.mpr h.2
        exact ⟨h1.1, h2.1, ⟨⟨⟨ok0, fun _ => (h1.2 hx).1⟩, fun _ => (h2.2 hy).1⟩, fun _ => ⟨⟨(h1.2 hx).2, fun _ => sx⟩, fun _ => h3.1⟩⟩, fun _ => ⟨⟨(h2.2 hy).2, fun _ => h3.2⟩, fun _ => sy⟩⟩
