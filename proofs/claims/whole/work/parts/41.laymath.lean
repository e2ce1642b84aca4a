/-! what a laying is; the class's objects -/
def Full (H S E : List (Int × Int)) (N : List (Int × Int)) (Ws : List (List Nat)) (Ps : List (Int × Nat)) : Prop :=
  NodesOf H N ∧ Ws.length = S.length ∧ (∀ i (hi : i < Ws.length), Way (edz S E i) N Ws[i]) ∧ PcOf (Ws.flatMap stl) Ps
def Lim (N : List (Int × Int)) (Ws : List (List Nat)) (Ps : List (Int × Nat)) : Prop := N.length ≤ 6000 ∧ (Ws.flatMap stl).length ≤ 20000 ∧ Ps.length ≤ 9000
def NoLay (H S E : List (Int × Int)) : Prop :=
  (∃ N : List (Int × Int), N.Pairwise plt ∧ (∀ q ∈ N, q ∈ H) ∧ 6000 < N.length) ∨ (∃ N, NodesOf H N ∧ 20000 < stp S E N S.length) ∨ ∃ N Ws Ps, Full H S E N Ws Ps ∧ 9000 < Ps.length
theorem stp_flat {S E N : List (Int × Int)} {Ws : List (List Nat)} (h : ∀ i (hi : i < Ws.length), Way (edz S E i) N Ws[i]) : ∀ n, n ≤ Ws.length → ((Ws.take n).flatMap stl).length = stp S E N n := by
  intro n
  induction n with
  | zero => intro _; rfl
  | succ n ih =>
    intro hn
    have hn' : n < Ws.length := by omega
    rw [List.take_succ, List.getElem?_eq_getElem hn', Option.toList_some, List.flatMap_append, List.length_append, ih (by omega), stp_succ]
    congr 1
    have : (stl Ws[n]).length = Ws[n].length - 1 := skl_len _ _
    simp only [List.flatMap_cons, List.flatMap_nil, List.append_nil]
    rw [this, (h n hn').1.length_eq]
    rfl
theorem stp_all {S E N : List (Int × Int)} {Ws : List (List Nat)} (hl : Ws.length = S.length) (h : ∀ i (hi : i < Ws.length), Way (edz S E i) N Ws[i]) : (Ws.flatMap stl).length = stp S E N S.length := by
  have := stp_flat h Ws.length (Nat.le_refl _)
  rw [List.take_of_length_le (Nat.le_refl _), hl] at this
  exact this
theorem flat_ne {Ws : List (List Nat)} (h : ∀ W ∈ Ws, 0 < W.length) : (Ws.flatMap stl).length + Ws.length = Ws.flatten.length := by
  induction Ws with
  | nil => rfl
  | cons W Ws ih =>
    have h1 := h W List.mem_cons_self
    have h2 := ih fun V hV => h V (List.mem_cons_of_mem _ hV)
    have h3 : (stl W).length = W.length - 1 := skl_len _ _
    simp only [List.flatMap_cons, List.flatten_cons, List.length_append, List.length_cons]
    omega
/-- the start of an edge lies in a cell that the edge passes -/
theorem thr_start {e : Ed} (h : ¬ (e.1 = e.2.2.1 ∧ e.2.1 = e.2.2.2)) : thr e (e.1, e.2.1) := by
  refine ⟨⟨by simp only; omega, by simp only; omega, by simp only; omega, by simp only; omega⟩, Or.inl ?_⟩
  have o : offI e (e.1, e.2.1) = 0 := by
    unfold offI
    simp only [Int.sub_self, Int.mul_zero]
  rw [o]
  unfold rchI
  omega
/-- no edge ends where it starts -/
def Real (S E : List (Int × Int)) : Prop := ∀ i, i < S.length → ¬ ((edz S E i).1 = (edz S E i).2.2.1 ∧ (edz S E i).2.1 = (edz S E i).2.2.2)
theorem way_ne {S E P N : List (Int × Int)} {n : Nat} (hN : NodesOf (hotL S E P n) N) (hr : Real S E) {i : Nat} (hi : i < S.length) {W : List Nat} (hW : Way (edz S E i) N W) : 0 < W.length := by
  have m : ((edz S E i).1, (edz S E i).2.1) ∈ N := by
    rw [hN.2]
    unfold hotL
    refine List.mem_append_left _ (List.mem_append_left _ (List.mem_append_left _ ?_))
    unfold edz
    simp only [List.getElem?_eq_getElem hi, Option.getD_some]
    exact List.getElem_mem hi
  obtain ⟨k, hk, e⟩ := List.getElem_of_mem m
  have hin : k ∈ Bn (edz S E i) N N.length := by
    refine List.mem_filter.mpr ⟨List.mem_range.mpr hk, decide_eq_true ?_⟩
    have : nd N k = N[k] := by
      show N[k]?.getD (0, 0) = _
      rw [List.getElem?_eq_getElem hk]
      rfl
    rw [this, e]
    exact thr_start (hr i hi)
  have := hW.1.mem_iff.mpr hin
  exact List.length_pos_of_mem this
/-- a Layout object of any contents, its places the object kh -/
def LYd (o : hc_O) (kh : Nat) : Prop := ∃ wc wl cf ff cr fr pc c1 f1 c2 f2 c3 f3, o = oLz kh wc wl (cf, .inl ff) (cr, .inl fr) pc (c1, .inl f1) (c2, .inl f2) (c3, .inl f3) ∧ 16 ≤ cf ∧ cf ≤ 1100 ∧ 32 ≤ cr ∧ cr ≤ 50000 ∧ 16 ≤ c1 ∧ c1 ≤ 18000 ∧ 16 ≤ c2 ∧ c2 ≤ 18000 ∧ 16 ≤ c3 ∧ c3 ≤ 18000
/-- a Layout object that holds ways and pieces -/
def LYo (o : hc_O) (kh : Nat) (Ws : List (List Nat)) (Ps : List (Int × Nat)) : Prop := ∃ cf ff cr fr c1 f1 c2 f2 c3 f3, o = oLz kh Ws.length Ws.flatten.length (cf, .inl ff) (cr, .inl fr) Ps.length (c1, .inl f1) (c2, .inl f2) (c3, .inl f3) ∧ (16 ≤ cf ∧ cf ≤ 1100 ∧ 32 ≤ cr ∧ cr ≤ 50000 ∧ 16 ≤ c1 ∧ c1 ≤ 18000 ∧ 16 ≤ c2 ∧ c2 ≤ 18000 ∧ 16 ≤ c3 ∧ c3 ≤ 18000) ∧ Ws.length + 1 ≤ cf ∧ Ws.flatten.length ≤ cr ∧ Ps.length ≤ c1 ∧ Ps.length ≤ c2 ∧ Ps.length ≤ c3 ∧ FW ff Ws ∧ CW fr Ws.flatten ∧ CP f1 f2 f3 Ps
theorem LYo.d {o : hc_O} {kh : Nat} {Ws : List (List Nat)} {Ps : List (Int × Nat)} (h : LYo o kh Ws Ps) : LYd o kh := by
  obtain ⟨cf, ff, cr, fr, c1, f1, c2, f2, c3, f3, e, b, -⟩ := h
  exact ⟨_, _, cf, ff, cr, fr, _, c1, f1, c2, f2, c3, f3, e, b⟩
/-- the class's object and all that is reached from it -/
def CLS (σ : hc_H) (S E P N : List (Int × Int)) (Ws : List (List Nat)) (Ps : List (Int × Nat)) : Prop := ∃ a b o1 o4 o7 o10 lk oa oh ob og lg, ((a = 12 ∧ b = 21) ∨ (a = 21 ∧ b = 12)) ∧ σ 0 = some (oHC a b) ∧ (σ 1 = some o1 ∧ PLo o1 S S.length) ∧ (σ 4 = some o4 ∧ PLo o4 E E.length) ∧ (σ 7 = some o7 ∧ PLo o7 P P.length) ∧ (σ 10 = some o10 ∧ KSo o10 lk) ∧ (σ a = some oa ∧ LYo oa (a + 1) Ws Ps) ∧ (σ (a + 1) = some oh ∧ PLo oh N N.length) ∧ (σ b = some ob ∧ LYd ob (b + 1)) ∧ (σ (b + 1) = some og ∧ PLo og lg lg.length)
