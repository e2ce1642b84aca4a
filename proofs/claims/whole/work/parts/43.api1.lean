/-! the class's answers: nodes, pieces, way, wayNode, node; clear -/
section S43
variable {G : hc_G} {σ : hc_H} {t : hc_T} {Q : hc_Q} {S E P N : List (Int × Int)} {Ws : List (List Nat)} {Ps : List (Int × Nat)}
theorem sp_nodes (hC : CLS σ S E P N Ws Ps) (K : Q G σ t (some (.inl (.int (nI N.length))))) : hc_wp G σ t 25 0 [some (.inl (.ref 0))] [] Q := by
  obtain ⟨a, b, o1, o4, o7, o10, lk, oa, oh, ob, og, lg, hab, h0, -, -, -, -, ⟨ha, pa⟩, ⟨hh, ph⟩, -, -⟩ := hC
  obtain ⟨cf, ff, cr, fr, c1, f1, c2, f2, c3, f3, rfl, -⟩ := pa
  obtain ⟨cx, fx, cy, fy, rfl, -⟩ := ph
  simp only [hma25, hc_on_some, hc_get, hc_put, hc_ri, hc_rl, hc_is, hc_row, hc_wr, hc_mov, hc_smi, hc_sml, hc_fv, hc_ld, hc_kd, hc_sto, hc_pre, hc_two, hc_inc, hc_psh, hc_kp, hc_k1, hc_np, hc_bk_rf, hc_bk_gA, hc_set_ap, hc_set_set, Value.category, List.getElem?_cons_zero, List.getElem?_cons_succ, List.set_cons_zero, List.set_cons_succ, List.length_cons, List.length_nil, List.map_cons, List.map_nil, reduceIte, Nat.reduceAdd, Nat.reduceSub, Nat.reduceBEq, Nat.reduceEqDiff, Nat.reduceLeDiff, Nat.reduceLT, true_and, and_true, Bool.false_eq_true, reduceCtorEq, if_true, if_false, hc_xx, hc_ofNat, hc_10, not_true_eq_false, not_false_eq_true, ge_iff_le, h0, ha, hh]
  exact K
theorem sp_npieces (hC : CLS σ S E P N Ws Ps) (K : Q G σ t (some (.inl (.int (nI Ps.length))))) : hc_wp G σ t 28 0 [some (.inl (.ref 0))] [] Q := by
  obtain ⟨a, b, o1, o4, o7, o10, lk, oa, oh, ob, og, lg, hab, h0, -, -, -, -, ⟨ha, pa⟩, ⟨hh, ph⟩, -, -⟩ := hC
  obtain ⟨cf, ff, cr, fr, c1, f1, c2, f2, c3, f3, rfl, -⟩ := pa
  simp only [hma28, hc_on_some, hc_get, hc_put, hc_ri, hc_rl, hc_is, hc_row, hc_wr, hc_mov, hc_smi, hc_sml, hc_fv, hc_ld, hc_kd, hc_sto, hc_pre, hc_two, hc_inc, hc_psh, hc_kp, hc_k1, hc_np, hc_bk_rf, hc_bk_gA, hc_set_ap, hc_set_set, Value.category, List.getElem?_cons_zero, List.getElem?_cons_succ, List.set_cons_zero, List.set_cons_succ, List.length_cons, List.length_nil, List.map_cons, List.map_nil, reduceIte, Nat.reduceAdd, Nat.reduceSub, Nat.reduceBEq, Nat.reduceEqDiff, Nat.reduceLeDiff, Nat.reduceLT, true_and, and_true, Bool.false_eq_true, reduceCtorEq, if_true, if_false, hc_xx, hc_ofNat, hc_10, not_true_eq_false, not_false_eq_true, ge_iff_le, h0, ha, hh]
  exact K
/-- what way answers -/
def AW (Ws : List (List Nat)) (e v : Int32) : Prop := (∃ j, j < Ws.length ∧ e = nI j ∧ v = nI (Ws[j]?.getD []).length) ∨ ((e < 0 ∨ nI Ws.length ≤ e) ∧ v = -1)
theorem FW.step {ff : Nat → Int32} {Ws : List (List Nat)} (h : FW ff Ws) {j : Nat} (hj : j < Ws.length) : ff j = nI (Ws.take j).flatten.length ∧ ff (j + 1) = nI ((Ws.take j).flatten.length + (Ws[j]?.getD []).length) := by
  refine ⟨h j (by omega), ?_⟩
  rw [h (j + 1) (by omega), List.take_succ, List.getElem?_eq_getElem hj, List.flatten_append, List.length_append]
  simp only [Option.toList_some, List.flatten_cons, List.flatten_nil, List.append_nil, Option.getD_some]
theorem sp_way (hC : CLS σ S E P N Ws Ps) {e : Int32} (K : ∀ v, AW Ws e v → Q G σ t (some (.inl (.int v)))) : hc_wp G σ t 30 0 [some (.inl (.ref 0)), some (.inl (.int e))] [] Q := by
  obtain ⟨a, b, o1, o4, o7, o10, lk, oa, oh, ob, og, lg, hab, h0, -, -, -, -, ⟨ha, pa⟩, ⟨hh, ph⟩, -, -⟩ := hC
  obtain ⟨cf, ff, cr, fr, c1, f1, c2, f2, c3, f3, rfl, ⟨z1, z2, z3, z4, -⟩, y1, y2, y3, y4, y5, hF, hW, hCP⟩ := pa
  rcases pk_ix e (show Ws.length < 2 ^ 31 by omega) with h | h | ⟨j, hj, rfl⟩
  · simp only [hma30, hc_on_some, hc_get, hc_put, hc_ri, hc_rl, hc_is, hc_row, hc_wr, hc_mov, hc_smi, hc_sml, hc_fv, hc_ld, hc_kd, hc_sto, hc_pre, hc_two, hc_inc, hc_psh, hc_kp, hc_k1, hc_np, hc_bk_rf, hc_bk_gA, hc_set_ap, hc_set_set, Value.category, List.getElem?_cons_zero, List.getElem?_cons_succ, List.set_cons_zero, List.set_cons_succ, List.length_cons, List.length_nil, List.map_cons, List.map_nil, reduceIte, Nat.reduceAdd, Nat.reduceSub, Nat.reduceBEq, Nat.reduceEqDiff, Nat.reduceLeDiff, Nat.reduceLT, true_and, and_true, Bool.false_eq_true, reduceCtorEq, if_true, if_false, hc_xx, hc_ofNat, hc_10, not_true_eq_false, not_false_eq_true, ge_iff_le, h]
    exact K _ (Or.inr ⟨Or.inl h, rfl⟩)
  · have h2 : ¬ e < nI Ws.length := by
      rw [Int32.not_lt]
      exact h
    by_cases h3 : e < 0
    · simp only [hma30, hc_on_some, hc_get, hc_put, hc_ri, hc_rl, hc_is, hc_row, hc_wr, hc_mov, hc_smi, hc_sml, hc_fv, hc_ld, hc_kd, hc_sto, hc_pre, hc_two, hc_inc, hc_psh, hc_kp, hc_k1, hc_np, hc_bk_rf, hc_bk_gA, hc_set_ap, hc_set_set, Value.category, List.getElem?_cons_zero, List.getElem?_cons_succ, List.set_cons_zero, List.set_cons_succ, List.length_cons, List.length_nil, List.map_cons, List.map_nil, reduceIte, Nat.reduceAdd, Nat.reduceSub, Nat.reduceBEq, Nat.reduceEqDiff, Nat.reduceLeDiff, Nat.reduceLT, true_and, and_true, Bool.false_eq_true, reduceCtorEq, if_true, if_false, hc_xx, hc_ofNat, hc_10, not_true_eq_false, not_false_eq_true, ge_iff_le, h3]
      exact K _ (Or.inr ⟨Or.inl h3, rfl⟩)
    · simp only [hma30, hc_on_some, hc_get, hc_put, hc_ri, hc_rl, hc_is, hc_row, hc_wr, hc_mov, hc_smi, hc_sml, hc_fv, hc_ld, hc_kd, hc_sto, hc_pre, hc_two, hc_inc, hc_psh, hc_kp, hc_k1, hc_np, hc_bk_rf, hc_bk_gA, hc_set_ap, hc_set_set, Value.category, List.getElem?_cons_zero, List.getElem?_cons_succ, List.set_cons_zero, List.set_cons_succ, List.length_cons, List.length_nil, List.map_cons, List.map_nil, reduceIte, Nat.reduceAdd, Nat.reduceSub, Nat.reduceBEq, Nat.reduceEqDiff, Nat.reduceLeDiff, Nat.reduceLT, true_and, and_true, Bool.false_eq_true, reduceCtorEq, if_true, if_false, hc_xx, hc_ofNat, hc_10, not_true_eq_false, not_false_eq_true, ge_iff_le, h0, ha, h2, h3]
      exact K _ (Or.inr ⟨Or.inr h, rfl⟩)
  · have h2 : nI j < nI Ws.length := nI_lt hj (by omega)
    have h3 : ¬ nI j < 0 := nI_pos (by omega)
    have i1 : hc_inn (nI (j + 1)) cf := inn_nI (by omega) (by omega)
    have i2 : hc_inn (nI j) cf := inn_nI (by omega) (by omega)
    have k1 : (nI (j + 1)).toNatClampNeg = j + 1 := nI_clamp (by omega)
    have k2 : (nI j).toNatClampNeg = j := nI_clamp (by omega)
    obtain ⟨v1, v2⟩ := hF.step hj
    have es : nI ((Ws.take j).flatten.length + (Ws[j]?.getD []).length) - nI (Ws.take j).flatten.length = nI (Ws[j]?.getD []).length := by
      rw [pk_sub (by omega)]
      congr 1
      omega
    simp only [hma30, hc_on_some, hc_get, hc_put, hc_ri, hc_rl, hc_is, hc_row, hc_wr, hc_mov, hc_smi, hc_sml, hc_fv, hc_ld, hc_kd, hc_sto, hc_pre, hc_two, hc_inc, hc_psh, hc_kp, hc_k1, hc_np, hc_bk_rf, hc_bk_gA, hc_set_ap, hc_set_set, Value.category, List.getElem?_cons_zero, List.getElem?_cons_succ, List.set_cons_zero, List.set_cons_succ, List.length_cons, List.length_nil, List.map_cons, List.map_nil, reduceIte, Nat.reduceAdd, Nat.reduceSub, Nat.reduceBEq, Nat.reduceEqDiff, Nat.reduceLeDiff, Nat.reduceLT, true_and, and_true, Bool.false_eq_true, reduceCtorEq, if_true, if_false, hc_xx, hc_ofNat, hc_10, not_true_eq_false, not_false_eq_true, ge_iff_le, h0, ha, h2, h3, nI_1, i1, i2, k1, k2, v1, v2, es]
    exact K _ (Or.inl ⟨j, hj, rfl, rfl⟩)
theorem sp_clear (hC : CLS σ S E P N Ws Ps) (K : ∀ σ', CLS σ' [] [] [] N Ws Ps → (∀ j, 30 ≤ j → σ' j = σ j) → hc_cr G σ G σ' → Q G σ' none none) : hc_wp G σ none 23 0 [some (.inl (.ref 0))] [] Q := by
  obtain ⟨a, b, o1, o4, o7, o10, lk, oa, oh, ob, og, lg, hab, h0, ⟨h1, p1⟩, ⟨h4, p4⟩, ⟨h7, p7⟩, ⟨h10, p10⟩, ⟨ha, pa⟩, ⟨hh, ph⟩, ⟨hb, pb⟩, ⟨hg, pg⟩⟩ := hC
  have em : ∀ {o : hc_O} {l : List (Int × Int)}, PLo o l l.length → ∃ cx fx cy fy, o = oPl l.length cx fx cy fy ∧ PLo (oPl 0 cx fx cy fy) [] 0 := by
    rintro o l ⟨cx, fx, cy, fy, rfl, q1, q2, q3, q4, q5, q6, -⟩
    exact ⟨cx, fx, cy, fy, rfl, cx, fx, cy, fy, rfl, by omega, by omega, q3, q4, q5, q6, (fun i v hi => by simp at hi), (fun i v hi => by simp at hi)⟩
  obtain ⟨a1, a2, a3, a4, rfl, r1⟩ := em p1
  obtain ⟨b1, b2, b3, b4, rfl, r4⟩ := em p4
  obtain ⟨d1, d2, d3, d4, rfl, r7⟩ := em p7
  have s1 : hc_cr G σ G (hc_set σ 1 (oPl 0 a1 a2 a3 a4)) := hc_cr.same (by decide) h1 rfl
  have s4 : hc_cr G (hc_set σ 1 (oPl 0 a1 a2 a3 a4)) G (hc_set (hc_set σ 1 (oPl 0 a1 a2 a3 a4)) 4 (oPl 0 b1 b2 b3 b4)) := hc_cr.same (o0 := oPl E.length b1 b2 b3 b4) (by decide) (by rw [hc_set_ne _ _ (by decide)]; exact h4) rfl
  have s7 : hc_cr G (hc_set (hc_set σ 1 (oPl 0 a1 a2 a3 a4)) 4 (oPl 0 b1 b2 b3 b4)) G (hc_set (hc_set (hc_set σ 1 (oPl 0 a1 a2 a3 a4)) 4 (oPl 0 b1 b2 b3 b4)) 7 (oPl 0 d1 d2 d3 d4)) := hc_cr.same (o0 := oPl P.length d1 d2 d3 d4) (by decide) (by rw [hc_set_ne _ _ (by decide), hc_set_ne _ _ (by decide)]; exact h7) rfl
  have e6 : ∀ j, j ≠ 1 → j ≠ 4 → j ≠ 7 → hc_set (hc_set (hc_set σ 1 (oPl 0 a1 a2 a3 a4)) 4 (oPl 0 b1 b2 b3 b4)) 7 (oPl 0 d1 d2 d3 d4) j = σ j := fun j x1 x2 x3 => by rw [hc_set_ne _ _ x3, hc_set_ne _ _ x2, hc_set_ne _ _ x1]
  have K2 := K _ ⟨a, b, _, _, _, o10, lk, oa, oh, ob, og, lg, hab, by rw [e6 _ (by omega) (by omega) (by omega)]; exact h0, ⟨by rw [hc_set_ne _ _ (by decide), hc_set_ne _ _ (by decide)]; exact hc_set_at _ _ _, r1⟩, ⟨by rw [hc_set_ne _ _ (by decide)]; exact hc_set_at _ _ _, r4⟩, ⟨hc_set_at _ _ _, r7⟩, ⟨by rw [e6 _ (by omega) (by omega) (by omega)]; exact h10, p10⟩, ⟨by rw [e6 _ (by omega) (by omega) (by omega)]; exact ha, pa⟩, ⟨by rw [e6 _ (by omega) (by omega) (by omega)]; exact hh, ph⟩, ⟨by rw [e6 _ (by omega) (by omega) (by omega)]; exact hb, pb⟩, ⟨by rw [e6 _ (by omega) (by omega) (by omega)]; exact hg, pg⟩⟩ (fun j hj => e6 j (by omega) (by omega) (by omega)) ((s1.tr s4).tr s7)
  simp only [oPl, nI_0] at K2
  simp only [hma23, hc_on_some, hc_get, hc_put, hc_ri, hc_rl, hc_is, hc_row, hc_wr, hc_mov, hc_smi, hc_sml, hc_fv, hc_ld, hc_kd, hc_sto, hc_pre, hc_two, hc_inc, hc_psh, hc_kp, hc_k1, hc_np, hc_bk_rf, hc_bk_gA, hc_set_ap, hc_set_set, Value.category, List.getElem?_cons_zero, List.getElem?_cons_succ, List.set_cons_zero, List.set_cons_succ, List.length_cons, List.length_nil, List.map_cons, List.map_nil, reduceIte, Nat.reduceAdd, Nat.reduceSub, Nat.reduceBEq, Nat.reduceEqDiff, Nat.reduceLeDiff, Nat.reduceLT, true_and, and_true, Bool.false_eq_true, reduceCtorEq, if_true, if_false, hc_xx, hc_ofNat, hc_10, not_true_eq_false, not_false_eq_true, ge_iff_le, h0, h1, h4, h7]
  exact K2
end S43
