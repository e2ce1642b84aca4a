/-! the class's answers: wayNode, node; edge and point -/
theorem flat_at {Ws : List (List Nat)} {j i : Nat} (hj : j < Ws.length) (hi : i < (Ws[j]?.getD []).length) : Ws.flatten[(Ws.take j).flatten.length + i]? = some ((Ws[j]?.getD [])[i]?.getD 0) := by
  rw [List.getElem?_eq_getElem hj] at hi ⊢
  simp only [Option.getD_some] at hi ⊢
  have e : Ws.flatten = (Ws.take j).flatten ++ (Ws[j] ++ (Ws.drop (j + 1)).flatten) := by
    have h1 := List.take_append_drop j Ws
    rw [List.drop_eq_getElem_cons hj] at h1
    have h2 : (Ws.take j ++ Ws[j] :: Ws.drop (j + 1)).flatten = Ws.flatten := by rw [h1]
    rw [← h2, List.flatten_append, List.flatten_cons]
  rw [e, List.getElem?_append_right (by omega), Nat.add_sub_cancel_left, List.getElem?_append_left hi, List.getElem?_eq_getElem hi]
  rfl
/-- what wayNode answers -/
def AWN (Ws : List (List Nat)) (e k v : Int32) : Prop := (∃ j i, j < Ws.length ∧ e = nI j ∧ i < (Ws[j]?.getD []).length ∧ k = nI i ∧ v = nI ((Ws[j]?.getD [])[i]?.getD 0)) ∨ ((e < 0 ∨ nI Ws.length ≤ e ∨ k < 0 ∨ ∃ j, j < Ws.length ∧ e = nI j ∧ nI (Ws[j]?.getD []).length ≤ k) ∧ v = -1)
/-- what node answers -/
def AN (N : List (Int × Int)) (n x v : Int32) : Prop := (∃ j, j < N.length ∧ n = nI j ∧ ((x = 0 ∧ v.toInt = (nd N j).1) ∨ (x = 1 ∧ v.toInt = (nd N j).2) ∨ (¬ x = 0 ∧ ¬ x = 1 ∧ v = 1000000))) ∨ ((n < 0 ∨ nI N.length ≤ n) ∧ v = 1000000)
section S44
variable {G : hc_G} {σ : hc_H} {t : hc_T} {Q : hc_Q} {S E P N : List (Int × Int)} {Ws : List (List Nat)} {Ps : List (Int × Nat)}
theorem sp_wayNode (hC : CLS σ S E P N Ws Ps) {e k : Int32} (K : ∀ v, AWN Ws e k v → Q G σ t (some (.inl (.int v)))) : hc_wp G σ t 31 0 [some (.inl (.ref 0)), some (.inl (.int e)), some (.inl (.int k)), none] [] Q := by
  obtain ⟨a, b, o1, o4, o7, o10, lk, oa, oh, ob, og, lg, hab, h0, -, -, -, -, ⟨ha, pa⟩, ⟨hh, ph⟩, -, -⟩ := hC
  obtain ⟨cf, ff, cr, fr, c1, f1, c2, f2, c3, f3, rfl, ⟨z1, z2, z3, z4, -⟩, y1, y2, y3, y4, y5, hF, hW, hCP⟩ := pa
  by_cases h3 : e < 0
  · simp only [hma31, hc_on_some, hc_get, hc_put, hc_ri, hc_rl, hc_is, hc_row, hc_wr, hc_mov, hc_smi, hc_sml, hc_fv, hc_ld, hc_kd, hc_sto, hc_pre, hc_two, hc_inc, hc_psh, hc_kp, hc_k1, hc_np, hc_bk_rf, hc_bk_gA, hc_set_ap, hc_set_set, Value.category, List.getElem?_cons_zero, List.getElem?_cons_succ, List.set_cons_zero, List.set_cons_succ, List.length_cons, List.length_nil, List.map_cons, List.map_nil, reduceIte, Nat.reduceAdd, Nat.reduceSub, Nat.reduceBEq, Nat.reduceEqDiff, Nat.reduceLeDiff, Nat.reduceLT, true_and, and_true, Bool.false_eq_true, reduceCtorEq, if_true, if_false, hc_xx, hc_ofNat, hc_10, not_true_eq_false, not_false_eq_true, ge_iff_le, h3]
    exact K _ (Or.inr ⟨Or.inl h3, rfl⟩)
  rcases pk_ix e (show Ws.length < 2 ^ 31 by omega) with h | h | ⟨j, hj, rfl⟩
  · exact absurd h h3
  · simp only [hma31, hc_on_some, hc_get, hc_put, hc_ri, hc_rl, hc_is, hc_row, hc_wr, hc_mov, hc_smi, hc_sml, hc_fv, hc_ld, hc_kd, hc_sto, hc_pre, hc_two, hc_inc, hc_psh, hc_kp, hc_k1, hc_np, hc_bk_rf, hc_bk_gA, hc_set_ap, hc_set_set, Value.category, List.getElem?_cons_zero, List.getElem?_cons_succ, List.set_cons_zero, List.set_cons_succ, List.length_cons, List.length_nil, List.map_cons, List.map_nil, reduceIte, Nat.reduceAdd, Nat.reduceSub, Nat.reduceBEq, Nat.reduceEqDiff, Nat.reduceLeDiff, Nat.reduceLT, true_and, and_true, Bool.false_eq_true, reduceCtorEq, if_true, if_false, hc_xx, hc_ofNat, hc_10, not_true_eq_false, not_false_eq_true, ge_iff_le, h0, ha, h, h3]
    exact K _ (Or.inr ⟨Or.inr (Or.inl h), rfl⟩)
  · have h2 : ¬ nI Ws.length ≤ nI j := nI_ge hj (by omega)
    have i1 : hc_inn (nI (j + 1)) cf := inn_nI (by omega) (by omega)
    have i2 : hc_inn (nI j) cf := inn_nI (by omega) (by omega)
    have k1 : (nI (j + 1)).toNatClampNeg = j + 1 := nI_clamp (by omega)
    have k2 : (nI j).toNatClampNeg = j := nI_clamp (by omega)
    obtain ⟨v1, v2⟩ := hF.step hj
    have es : nI ((Ws.take j).flatten.length + (Ws[j]?.getD []).length) - nI (Ws.take j).flatten.length = nI (Ws[j]?.getD []).length := by
      rw [pk_sub (by omega)]
      congr 1
      omega
    have hlen : (Ws.take j).flatten.length + (Ws[j]?.getD []).length ≤ Ws.flatten.length := by
      by_cases hz : (Ws[j]?.getD []).length = 0
      · rw [hz, Nat.add_zero]
        have := List.take_append_drop j Ws
        have h5 : (Ws.take j).flatten.length + (Ws.drop j).flatten.length = Ws.flatten.length := by
          rw [← List.length_append, ← List.flatten_append, this]
        omega
      · have := (List.getElem?_eq_some_iff.mp (flat_at (Ws := Ws) (i := (Ws[j]?.getD []).length - 1) hj (by omega))).1
        omega
    by_cases h6 : k < 0
    · have h7 : ¬ 0 ≤ k := by
        rw [Int32.not_le]
        exact h6
      simp only [hma31, hc_on_some, hc_get, hc_put, hc_ri, hc_rl, hc_is, hc_row, hc_wr, hc_mov, hc_smi, hc_sml, hc_fv, hc_ld, hc_kd, hc_sto, hc_pre, hc_two, hc_inc, hc_psh, hc_kp, hc_k1, hc_np, hc_bk_rf, hc_bk_gA, hc_set_ap, hc_set_set, Value.category, List.getElem?_cons_zero, List.getElem?_cons_succ, List.set_cons_zero, List.set_cons_succ, List.length_cons, List.length_nil, List.map_cons, List.map_nil, reduceIte, Nat.reduceAdd, Nat.reduceSub, Nat.reduceBEq, Nat.reduceEqDiff, Nat.reduceLeDiff, Nat.reduceLT, true_and, and_true, Bool.false_eq_true, reduceCtorEq, if_true, if_false, hc_xx, hc_ofNat, hc_10, not_true_eq_false, not_false_eq_true, ge_iff_le, h0, ha, h2, h3, h7]
      exact K _ (Or.inr ⟨Or.inr (Or.inr (Or.inl h6)), rfl⟩)
    · have h7 : 0 ≤ k := by
        rw [← Int32.not_lt]
        exact h6
      rcases pk_ix k (show (Ws[j]?.getD []).length < 2 ^ 31 by omega) with h | h | ⟨i, hi, rfl⟩
      · exact absurd h h6
      · simp only [hma31, hc_on_some, hc_get, hc_put, hc_ri, hc_rl, hc_is, hc_row, hc_wr, hc_mov, hc_smi, hc_sml, hc_fv, hc_ld, hc_kd, hc_sto, hc_pre, hc_two, hc_inc, hc_psh, hc_kp, hc_k1, hc_np, hc_bk_rf, hc_bk_gA, hc_set_ap, hc_set_set, Value.category, List.getElem?_cons_zero, List.getElem?_cons_succ, List.set_cons_zero, List.set_cons_succ, List.length_cons, List.length_nil, List.map_cons, List.map_nil, reduceIte, Nat.reduceAdd, Nat.reduceSub, Nat.reduceBEq, Nat.reduceEqDiff, Nat.reduceLeDiff, Nat.reduceLT, true_and, and_true, Bool.false_eq_true, reduceCtorEq, if_true, if_false, hc_xx, hc_ofNat, hc_10, not_true_eq_false, not_false_eq_true, ge_iff_le, h0, ha, h2, h3, h7, nI_1, i1, i2, k1, k2, v1, v2, es, h]
        exact K _ (Or.inr ⟨Or.inr (Or.inr (Or.inr ⟨j, hj, rfl, h⟩)), rfl⟩)
      · have h8 : ¬ nI (Ws[j]?.getD []).length ≤ nI i := nI_ge hi (by omega)
        have i3 : hc_inn (nI ((Ws.take j).flatten.length + i)) cr := inn_nI (by omega) (by omega)
        have k3 : (nI ((Ws.take j).flatten.length + i)).toNatClampNeg = (Ws.take j).flatten.length + i := nI_clamp (by omega)
        have v3 : fr ((Ws.take j).flatten.length + i) = nI ((Ws[j]?.getD [])[i]?.getD 0) := hW _ _ (flat_at hj hi)
        simp only [hma31, hc_on_some, hc_get, hc_put, hc_ri, hc_rl, hc_is, hc_row, hc_wr, hc_mov, hc_smi, hc_sml, hc_fv, hc_ld, hc_kd, hc_sto, hc_pre, hc_two, hc_inc, hc_psh, hc_kp, hc_k1, hc_np, hc_bk_rf, hc_bk_gA, hc_set_ap, hc_set_set, Value.category, List.getElem?_cons_zero, List.getElem?_cons_succ, List.set_cons_zero, List.set_cons_succ, List.length_cons, List.length_nil, List.map_cons, List.map_nil, reduceIte, Nat.reduceAdd, Nat.reduceSub, Nat.reduceBEq, Nat.reduceEqDiff, Nat.reduceLeDiff, Nat.reduceLT, true_and, and_true, Bool.false_eq_true, reduceCtorEq, if_true, if_false, hc_xx, hc_ofNat, hc_10, not_true_eq_false, not_false_eq_true, ge_iff_le, h0, ha, h2, h3, h7, nI_1, i1, i2, k1, k2, v1, v2, es, h8, nI_add, i3, k3, v3]
        exact K _ (Or.inl ⟨j, i, hj, rfl, hi, rfl, rfl⟩)
theorem sp_node (hC : CLS σ S E P N Ws Ps) {n x : Int32} (K : ∀ v, AN N n x v → Q G σ t (some (.inl (.int v)))) : hc_wp G σ t 26 0 [some (.inl (.ref 0)), some (.inl (.int n)), some (.inl (.int x))] [] Q := by
  obtain ⟨a, b, o1, o4, o7, o10, lk, oa, oh, ob, og, lg, hab, h0, -, -, -, -, ⟨ha, pa⟩, ⟨hh, ph⟩, -, -⟩ := hC
  obtain ⟨cf, ff, cr, fr, c1, f1, c2, f2, c3, f3, rfl, -⟩ := pa
  obtain ⟨cx, fx, cy, fy, rfl, h1, h2, h3, h4, h5, h6, h7, h8⟩ := ph
  by_cases g3 : n < 0
  · simp only [hma26, hc_on_some, hc_get, hc_put, hc_ri, hc_rl, hc_is, hc_row, hc_wr, hc_mov, hc_smi, hc_sml, hc_fv, hc_ld, hc_kd, hc_sto, hc_pre, hc_two, hc_inc, hc_psh, hc_kp, hc_k1, hc_np, hc_bk_rf, hc_bk_gA, hc_set_ap, hc_set_set, Value.category, List.getElem?_cons_zero, List.getElem?_cons_succ, List.set_cons_zero, List.set_cons_succ, List.length_cons, List.length_nil, List.map_cons, List.map_nil, reduceIte, Nat.reduceAdd, Nat.reduceSub, Nat.reduceBEq, Nat.reduceEqDiff, Nat.reduceLeDiff, Nat.reduceLT, true_and, and_true, Bool.false_eq_true, reduceCtorEq, if_true, if_false, hc_xx, hc_ofNat, hc_10, not_true_eq_false, not_false_eq_true, ge_iff_le, g3]
    exact K _ (Or.inr ⟨Or.inl g3, rfl⟩)
  rcases pk_ix n (show N.length < 2 ^ 31 by omega) with h | h | ⟨j, hj, rfl⟩
  · exact absurd h g3
  · have g2 : ¬ n < nI N.length := by
      rw [Int32.not_lt]
      exact h
    simp only [hma26, hc_on_some, hc_get, hc_put, hc_ri, hc_rl, hc_is, hc_row, hc_wr, hc_mov, hc_smi, hc_sml, hc_fv, hc_ld, hc_kd, hc_sto, hc_pre, hc_two, hc_inc, hc_psh, hc_kp, hc_k1, hc_np, hc_bk_rf, hc_bk_gA, hc_set_ap, hc_set_set, Value.category, List.getElem?_cons_zero, List.getElem?_cons_succ, List.set_cons_zero, List.set_cons_succ, List.length_cons, List.length_nil, List.map_cons, List.map_nil, reduceIte, Nat.reduceAdd, Nat.reduceSub, Nat.reduceBEq, Nat.reduceEqDiff, Nat.reduceLeDiff, Nat.reduceLT, true_and, and_true, Bool.false_eq_true, reduceCtorEq, if_true, if_false, hc_xx, hc_ofNat, hc_10, not_true_eq_false, not_false_eq_true, ge_iff_le, h0, ha, hh, g2, g3]
    exact K _ (Or.inr ⟨Or.inr h, rfl⟩)
  · have g2 : nI j < nI N.length := nI_lt hj (by omega)
    have i1 : hc_inn (nI j) cx := inn_nI (by omega) (by omega)
    have i2 : hc_inn (nI j) cy := inn_nI (by omega) (by omega)
    have k2 : (nI j).toNatClampNeg = j := nI_clamp (by omega)
    have nj : nd N j = N[j] := by
      show N[j]?.getD (0, 0) = _
      rw [List.getElem?_eq_getElem hj]
      rfl
    have vx : (fx j).toInt = (nd N j).1 := by
      rw [nj]
      exact h7 j _ (by rw [List.getElem?_map, List.getElem?_eq_getElem hj]; rfl)
    have vy : (fy j).toInt = (nd N j).2 := by
      rw [nj]
      exact h8 j _ (by rw [List.getElem?_map, List.getElem?_eq_getElem hj]; rfl)
    by_cases g4 : x = 0
    · subst g4
      simp only [hma26, hc_on_some, hc_get, hc_put, hc_ri, hc_rl, hc_is, hc_row, hc_wr, hc_mov, hc_smi, hc_sml, hc_fv, hc_ld, hc_kd, hc_sto, hc_pre, hc_two, hc_inc, hc_psh, hc_kp, hc_k1, hc_np, hc_bk_rf, hc_bk_gA, hc_set_ap, hc_set_set, Value.category, List.getElem?_cons_zero, List.getElem?_cons_succ, List.set_cons_zero, List.set_cons_succ, List.length_cons, List.length_nil, List.map_cons, List.map_nil, reduceIte, Nat.reduceAdd, Nat.reduceSub, Nat.reduceBEq, Nat.reduceEqDiff, Nat.reduceLeDiff, Nat.reduceLT, true_and, and_true, Bool.false_eq_true, reduceCtorEq, if_true, if_false, hc_xx, hc_ofNat, hc_10, not_true_eq_false, not_false_eq_true, ge_iff_le, h0, ha, hh, g2, g3, i1, i2, k2]
      exact K _ (Or.inl ⟨j, hj, rfl, Or.inl ⟨rfl, vx⟩⟩)
    · by_cases g5 : x = 1
      · subst g5
        simp only [hma26, hc_on_some, hc_get, hc_put, hc_ri, hc_rl, hc_is, hc_row, hc_wr, hc_mov, hc_smi, hc_sml, hc_fv, hc_ld, hc_kd, hc_sto, hc_pre, hc_two, hc_inc, hc_psh, hc_kp, hc_k1, hc_np, hc_bk_rf, hc_bk_gA, hc_set_ap, hc_set_set, Value.category, List.getElem?_cons_zero, List.getElem?_cons_succ, List.set_cons_zero, List.set_cons_succ, List.length_cons, List.length_nil, List.map_cons, List.map_nil, reduceIte, Nat.reduceAdd, Nat.reduceSub, Nat.reduceBEq, Nat.reduceEqDiff, Nat.reduceLeDiff, Nat.reduceLT, true_and, and_true, Bool.false_eq_true, reduceCtorEq, if_true, if_false, hc_xx, hc_ofNat, hc_10, not_true_eq_false, not_false_eq_true, ge_iff_le, h0, ha, hh, g2, g3, g4, i1, i2, k2]
        exact K _ (Or.inl ⟨j, hj, rfl, Or.inr (Or.inl ⟨rfl, vy⟩)⟩)
      · simp only [hma26, hc_on_some, hc_get, hc_put, hc_ri, hc_rl, hc_is, hc_row, hc_wr, hc_mov, hc_smi, hc_sml, hc_fv, hc_ld, hc_kd, hc_sto, hc_pre, hc_two, hc_inc, hc_psh, hc_kp, hc_k1, hc_np, hc_bk_rf, hc_bk_gA, hc_set_ap, hc_set_set, Value.category, List.getElem?_cons_zero, List.getElem?_cons_succ, List.set_cons_zero, List.set_cons_succ, List.length_cons, List.length_nil, List.map_cons, List.map_nil, reduceIte, Nat.reduceAdd, Nat.reduceSub, Nat.reduceBEq, Nat.reduceEqDiff, Nat.reduceLeDiff, Nat.reduceLT, true_and, and_true, Bool.false_eq_true, reduceCtorEq, if_true, if_false, hc_xx, hc_ofNat, hc_10, not_true_eq_false, not_false_eq_true, ge_iff_le, h0, ha, hh, g2, g3, g4, g5]
        exact K _ (Or.inl ⟨j, hj, rfl, Or.inr (Or.inr ⟨g4, g5, rfl⟩)⟩)
end S44
