/-! projections put the nodes of a way in the class's order -/
def prj (e : Ed) (q : Int × Int) : Int := (q.1 - e.1) * (e.2.2.1 - e.1) + (q.2 - e.2.1) * (e.2.2.2 - e.2.1)
theorem ord1 {dx dy U V : Int} (hx : 0 < dx) (hy : 0 ≤ dy) (hn : ¬ (U = 0 ∧ V = 0)) (hp : 0 ≤ U * dx + V * dy) (ho : dx * V - dy * U < dx + dy) (h0 : dy = 0 → V = 0) : 0 < U ∨ (U = 0 ∧ 0 < V) := by
  by_cases c1 : 0 < U
  · exact Or.inl c1
  · right
    by_cases c2 : U = 0
    · refine ⟨c2, ?_⟩
      subst c2
      rw [Int.zero_mul] at hp
      by_cases c3 : 0 < V
      · exact c3
      · have c4 : V < 0 := by omega
        have c5 : 0 < dy := by omega
        have := Int.mul_neg_of_neg_of_pos c4 c5
        omega
    · exfalso
      have c3 : U < 0 := by omega
      have c4 := Int.mul_neg_of_neg_of_pos c3 hx
      by_cases c5 : dy = 0
      · rw [h0 c5, Int.zero_mul] at hp
        omega
      · have c6 : 0 < dy := by omega
        have c7 : 0 < V := by
          by_cases c8 : 0 < V
          · exact c8
          · have := Int.mul_nonpos_of_nonpos_of_nonneg (show V ≤ 0 by omega) hy
            omega
        have p1 : dx * 1 ≤ dx * V := Int.mul_le_mul_of_nonneg_left (by omega) (by omega)
        have p2 : dy * U ≤ dy * (-1) := Int.mul_le_mul_of_nonneg_left (by omega) (by omega)
        omega
theorem ord4 {dx dy U V : Int} (hz : ¬ (dx = 0 ∧ dy = 0)) (hn : ¬ (U = 0 ∧ V = 0)) (hp : 0 ≤ U * dx + V * dy) (ho1 : -((dx.natAbs : Int) + (dy.natAbs : Int)) < dx * V - dy * U) (ho2 : dx * V - dy * U < (dx.natAbs : Int) + (dy.natAbs : Int)) (h0x : dx = 0 → U = 0) (h0y : dy = 0 → V = 0) :
    (0 < dx → 0 ≤ dy → 0 < U ∨ (U = 0 ∧ 0 < V)) ∧ (0 < dx → dy < 0 → 0 < U ∨ (U = 0 ∧ V < 0)) ∧ (dx < 0 → 0 < dy → U < 0 ∨ (U = 0 ∧ 0 < V)) ∧ (dx < 0 → dy ≤ 0 → U < 0 ∨ (U = 0 ∧ V < 0)) ∧ (dx = 0 → 0 < dy → U = 0 ∧ 0 < V) ∧ (dx = 0 → dy < 0 → U = 0 ∧ V < 0) := by
  refine ⟨fun a1 a2 => ?_, fun a1 a2 => ?_, fun a1 a2 => ?_, fun a1 a2 => ?_, fun a1 a2 => ?_, fun a1 a2 => ?_⟩
  · exact ord1 a1 a2 hn hp (by omega) h0y
  · have := ord1 (dx := dx) (dy := -dy) (U := U) (V := -V) a1 (by omega) (by omega) (by rw [Int.neg_mul_neg]; exact hp) (by rw [Int.mul_neg, Int.neg_mul]; omega) (by omega)
    omega
  · have := ord1 (dx := -dx) (dy := dy) (U := -U) (V := V) (by omega) (by omega) (by omega) (by rw [Int.neg_mul_neg]; exact hp) (by rw [Int.mul_neg, Int.neg_mul]; omega) (by omega)
    omega
  · have := ord1 (dx := -dx) (dy := -dy) (U := -U) (V := -V) (by omega) (by omega) (by omega) (by rw [Int.neg_mul_neg, Int.neg_mul_neg]; exact hp) (by rw [Int.neg_mul_neg, Int.neg_mul_neg]; omega) (by omega)
    omega
  · have u0 := h0x a1
    refine ⟨u0, ?_⟩
    rw [u0, Int.zero_mul] at hp
    by_cases c : 0 < V
    · exact c
    · have := Int.mul_neg_of_neg_of_pos (show V < 0 by omega) a2
      omega
  · have u0 := h0x a1
    refine ⟨u0, ?_⟩
    rw [u0, Int.zero_mul] at hp
    by_cases c : V < 0
    · exact c
    · have := Int.mul_neg_of_pos_of_neg (show 0 < V by omega) a2
      omega
theorem ord_of_prj {e : Ed} {N : List (Int × Int)} {a b : Nat} (hz : ¬ (e.1 = e.2.2.1 ∧ e.2.1 = e.2.2.2)) (hn : ¬ nd N a = nd N b) (ha : thr e (nd N a)) (hb : thr e (nd N b)) (hp : prj e (nd N a) ≤ prj e (nd N b)) : ordR e N a b := by
  obtain ⟨⟨a1, a2, a3, a4⟩, a5⟩ := ha
  obtain ⟨⟨b1, b2, b3, b4⟩, b5⟩ := hb
  unfold offI rchI at a5 b5
  unfold prj at hp
  have hn' : ¬ ((nd N b).1 - (nd N a).1 = 0 ∧ (nd N b).2 - (nd N a).2 = 0) := by
    rintro ⟨x, y⟩
    apply hn
    ext
    · omega
    · omega
  have o := ord4 (dx := e.2.2.1 - e.1) (dy := e.2.2.2 - e.2.1) (U := (nd N b).1 - (nd N a).1) (V := (nd N b).2 - (nd N a).2) (by omega) hn' (by
    have e1 : (nd N b).1 - (nd N a).1 = ((nd N b).1 - e.1) - ((nd N a).1 - e.1) := by omega
    have e2 : (nd N b).2 - (nd N a).2 = ((nd N b).2 - e.2.1) - ((nd N a).2 - e.2.1) := by omega
    rw [e1, e2, Int.sub_mul ((nd N b).1 - e.1), Int.sub_mul ((nd N b).2 - e.2.1)]
    omega) (by
    have e1 : (nd N b).1 - (nd N a).1 = ((nd N b).1 - e.1) - ((nd N a).1 - e.1) := by omega
    have e2 : (nd N b).2 - (nd N a).2 = ((nd N b).2 - e.2.1) - ((nd N a).2 - e.2.1) := by omega
    rw [e1, e2, Int.mul_sub _ ((nd N b).2 - e.2.1), Int.mul_sub _ ((nd N b).1 - e.1)]
    omega) (by
    have e1 : (nd N b).1 - (nd N a).1 = ((nd N b).1 - e.1) - ((nd N a).1 - e.1) := by omega
    have e2 : (nd N b).2 - (nd N a).2 = ((nd N b).2 - e.2.1) - ((nd N a).2 - e.2.1) := by omega
    rw [e1, e2, Int.mul_sub _ ((nd N b).2 - e.2.1), Int.mul_sub _ ((nd N b).1 - e.1)]
    omega) (by omega) (by omega)
  obtain ⟨o1, o2, o3, o4, o5, o6⟩ := o
  unfold ordR ordA
  by_cases cb : cnB e
  · rw [if_pos cb]
    by_cases ca : cnA e
    · rw [if_pos ca]
      unfold cnA at ca
      unfold cnB at cb
      have := o3 (by omega) (by omega)
      show (nd N b).1 < (nd N a).1 ∨ ((nd N b).1 = (nd N a).1 ∧ (nd N a).2 < (nd N b).2)
      omega
    · rw [if_neg ca]
      unfold cnA at ca
      unfold cnB at cb
      show (nd N b).1 < (nd N a).1 ∨ ((nd N b).1 = (nd N a).1 ∧ (nd N b).2 < (nd N a).2)
      by_cases z : e.2.2.1 < e.1
      · have := o4 (by omega) (by omega)
        omega
      · have := o6 (by omega) (by omega)
        omega
  · rw [if_neg cb]
    by_cases ca : cnA e
    · rw [if_pos ca]
      unfold cnA at ca
      unfold cnB at cb
      have := o2 (by omega) (by omega)
      show (nd N a).1 < (nd N b).1 ∨ ((nd N a).1 = (nd N b).1 ∧ (nd N b).2 < (nd N a).2)
      omega
    · rw [if_neg ca]
      unfold cnA at ca
      unfold cnB at cb
      show (nd N a).1 < (nd N b).1 ∨ ((nd N a).1 = (nd N b).1 ∧ (nd N a).2 < (nd N b).2)
      by_cases z : e.1 < e.2.2.1
      · have := o1 (by omega) (by omega)
        omega
      · have := o5 (by omega) (by omega)
        omega
abbrev prjL (e : Ed) (N : List (Int × Int)) (a b : Nat) : Prop := prj e (nd N a) ≤ prj e (nd N b)
theorem nd_inj {N : List (Int × Int)} (hN : N.Pairwise plt) {a b : Nat} (ha : a < N.length) (hb : b < N.length) (h : nd N a = nd N b) : a = b := by
  have ea : nd N a = N[a] := by
    show N[a]?.getD (0, 0) = _
    rw [List.getElem?_eq_getElem ha]
    rfl
  have eb : nd N b = N[b] := by
    show N[b]?.getD (0, 0) = _
    rw [List.getElem?_eq_getElem hb]
    rfl
  rw [ea, eb] at h
  rcases Nat.lt_trichotomy a b with c | c | c
  · have := pw_get hN a b c hb
    rw [h] at this
    unfold plt at this
    omega
  · exact c
  · have := pw_get hN b a c ha
    rw [h] at this
    unfold plt at this
    omega
theorem Bn_nodup (e : Ed) (N : List (Int × Int)) (n : Nat) : (Bn e N n).Nodup := by
  have h : (Bn e N n).Pairwise (· < ·) := List.Pairwise.filter _ List.pairwise_lt_range
  exact h.imp fun hab => Nat.ne_of_lt hab
theorem Bn_thr {e : Ed} {N : List (Int × Int)} {n v : Nat} (h : v ∈ Bn e N n) : thr e (nd N v) := of_decide_eq_true (List.mem_filter.mp h).2
theorem way_of {e : Ed} {N : List (Int × Int)} {B : List Nat} (hN : N.Pairwise plt) (hz : ¬ (e.1 = e.2.2.1 ∧ e.2.1 = e.2.2.2)) (hp : B.Perm (Bn e N N.length)) (hs : B.Pairwise (prjL e N)) : Way e N B := by
  refine ⟨hp, ?_⟩
  have nd2 : B.Nodup := hp.nodup_iff.mpr (Bn_nodup e N N.length)
  have both := List.Pairwise.and nd2 hs
  refine (List.Pairwise.and_mem.mp both).imp ?_
  rintro a b ⟨ha, hb, hne, hle⟩
  have ma := hp.mem_iff.mp ha
  have mb := hp.mem_iff.mp hb
  exact ord_of_prj hz (fun x => hne (nd_inj hN (Bn_lt ma) (Bn_lt mb) x)) (Bn_thr ma) (Bn_thr mb) hle
