/-! find of the class -/
/-- what find answers -/
def AF (N : List (Int × Int)) (x y v : Int32) : Prop := (∃ j, j < N.length ∧ nd N j = (x.toInt, y.toInt) ∧ v = nI j) ∨ ((∀ j, j < N.length → ¬ nd N j = (x.toInt, y.toInt)) ∧ v = -1)
section S46
variable {G : hc_G} {σ : hc_H} {t : hc_T} {Q : hc_Q} {S E P N : List (Int × Int)} {Ws : List (List Nat)} {Ps : List (Int × Nat)}
theorem sp_find (hC : CLS σ S E P N Ws Ps) {x y : Int32} (hN : N.Pairwise plt) (hl : N.length ≤ 6000) (K : ∀ v, AF N x y v → Q G σ none (some (.inl (.int v)))) : hc_wp G σ none 27 0 [some (.inl (.ref 0)), some (.inl (.int x)), some (.inl (.int y)), none, none] [] Q := by
  obtain ⟨a, b, o1, o4, o7, o10, lk, oa, oh, ob, og, lg, hab, h0, -, -, -, -, ⟨ha, pa⟩, ⟨hh, ph⟩, -, -⟩ := hC
  obtain ⟨cf, ff, cr, fr, c1, f1, c2, f2, c3, f3, rfl, -⟩ := pa
  have hq := ph
  obtain ⟨cx, fx, cy, fy, rfl, h1, h2, h3, h4, h5, h6, h7, h8⟩ := hq
  have hs := pw_get hN
  simp only [hm27_0, hm27_1, hm27_4, hm27_7, hm27_7p, hm27_8, hm27_9, hm27_10, hm27_11, hc_on_some, hc_get, hc_put, hc_ri, hc_rl, hc_is, hc_row, hc_wr, hc_mov, hc_smi, hc_sml, hc_fv, hc_ld, hc_kd, hc_sto, hc_pre, hc_two, hc_inc, hc_psh, hc_kp, hc_k1, hc_np, hc_bk_rf, hc_bk_gA, hc_set_ap, hc_set_set, Value.category, List.getElem?_cons_zero, List.getElem?_cons_succ, List.set_cons_zero, List.set_cons_succ, List.length_cons, List.length_nil, List.map_cons, List.map_nil, reduceIte, Nat.reduceAdd, Nat.reduceSub, Nat.reduceBEq, Nat.reduceEqDiff, Nat.reduceLeDiff, Nat.reduceLT, true_and, and_true, Bool.false_eq_true, reduceCtorEq, if_true, if_false, hc_xx, hc_ofNat, hc_10, not_true_eq_false, not_false_eq_true, ge_iff_le, h0, ha, hh]
  refine sp_fnb hh ph (Nat.le_refl _) hl hs fun r hr hrj => ?_
  have ndj : ∀ j (hj : j < N.length), nd N j = N[j] := fun j hj => by
    show N[j]?.getD (0, 0) = _
    rw [List.getElem?_eq_getElem hj]
    rfl
  by_cases hrl : r = N.length
  · have e1 : nI N.length ≤ nI r := by
      rw [hrl]
      exact Int32.le_refl _
    simp only [hm27_14, hm27_16, hm27_18, hm27_19, hm27_22, hm27_25, hm27_26, hm27_29, hm27_31, hm27_32, hm27_33, hm27_36, hm27_37, hm27_40, hm27_42, hm27_43, hm27_44, hm27_47, hm27_49, hm27_52, hm27_53, hc_on_some, hc_get, hc_put, hc_ri, hc_rl, hc_is, hc_row, hc_wr, hc_mov, hc_smi, hc_sml, hc_fv, hc_ld, hc_kd, hc_sto, hc_pre, hc_two, hc_inc, hc_psh, hc_kp, hc_k1, hc_np, hc_bk_rf, hc_bk_gA, hc_set_ap, hc_set_set, Value.category, List.getElem?_cons_zero, List.getElem?_cons_succ, List.set_cons_zero, List.set_cons_succ, List.length_cons, List.length_nil, List.map_cons, List.map_nil, reduceIte, Nat.reduceAdd, Nat.reduceSub, Nat.reduceBEq, Nat.reduceEqDiff, Nat.reduceLeDiff, Nat.reduceLT, true_and, and_true, Bool.false_eq_true, reduceCtorEq, if_true, if_false, hc_xx, hc_ofNat, hc_10, not_true_eq_false, not_false_eq_true, ge_iff_le, hh, e1]
    refine K _ (Or.inr ⟨fun j hj e => ?_, rfl⟩)
    have := (hrj j hj).mp (by omega)
    rw [← ndj j hj, e] at this
    unfold plt at this
    simp only at this
    omega
  · have hrl' : r < N.length := by omega
    have e1 : ¬ nI N.length ≤ nI r := nI_ge hrl' (by omega)
    have i1 : hc_inn (nI r) cx := inn_nI (by omega) (by omega)
    have i2 : hc_inn (nI r) cy := inn_nI (by omega) (by omega)
    have k2 : (nI r).toNatClampNeg = r := nI_clamp (by omega)
    have vx : (fx r).toInt = (nd N r).1 := by
      rw [ndj r hrl']
      exact h7 r _ (by rw [List.getElem?_map, List.getElem?_eq_getElem hrl']; rfl)
    have vy : (fy r).toInt = (nd N r).2 := by
      rw [ndj r hrl']
      exact h8 r _ (by rw [List.getElem?_map, List.getElem?_eq_getElem hrl']; rfl)
    have no : ¬ nd N r = (x.toInt, y.toInt) → ∀ j, j < N.length → ¬ nd N j = (x.toInt, y.toInt) := by
      intro hne j hj e
      by_cases hjr : j = r
      · subst hjr
        exact hne e
      · rcases Nat.lt_or_gt_of_ne hjr with h | h
        · have := (hrj j hj).mp h
          rw [← ndj j hj, e] at this
          unfold plt at this
          simp only at this
          omega
        · have h9 := hs r j h hj
          rw [← ndj j hj, e] at h9
          have := (hrj r hrl').mpr h9
          omega
    by_cases g1 : fx r = x
    · by_cases g2 : fy r = y
      · simp only [hm27_14, hm27_16, hm27_18, hm27_19, hm27_22, hm27_25, hm27_26, hm27_29, hm27_31, hm27_32, hm27_33, hm27_36, hm27_37, hm27_40, hm27_42, hm27_43, hm27_44, hm27_47, hm27_49, hm27_52, hm27_53, hc_on_some, hc_get, hc_put, hc_ri, hc_rl, hc_is, hc_row, hc_wr, hc_mov, hc_smi, hc_sml, hc_fv, hc_ld, hc_kd, hc_sto, hc_pre, hc_two, hc_inc, hc_psh, hc_kp, hc_k1, hc_np, hc_bk_rf, hc_bk_gA, hc_set_ap, hc_set_set, Value.category, List.getElem?_cons_zero, List.getElem?_cons_succ, List.set_cons_zero, List.set_cons_succ, List.length_cons, List.length_nil, List.map_cons, List.map_nil, reduceIte, Nat.reduceAdd, Nat.reduceSub, Nat.reduceBEq, Nat.reduceEqDiff, Nat.reduceLeDiff, Nat.reduceLT, true_and, and_true, Bool.false_eq_true, reduceCtorEq, if_true, if_false, hc_xx, hc_ofNat, hc_10, not_true_eq_false, not_false_eq_true, ge_iff_le, hh, e1, i1, i2, k2, g1, g2]
        refine K _ (Or.inl ⟨r, hrl', ?_, rfl⟩)
        rw [← g1, ← g2, vx, vy]
      · have w : ¬ nd N r = (x.toInt, y.toInt) := fun e => g2 (Int32.toInt_inj.mp (by rw [vy, e]))
        simp only [hm27_14, hm27_16, hm27_18, hm27_19, hm27_22, hm27_25, hm27_26, hm27_29, hm27_31, hm27_32, hm27_33, hm27_36, hm27_37, hm27_40, hm27_42, hm27_43, hm27_44, hm27_47, hm27_49, hm27_52, hm27_53, hc_on_some, hc_get, hc_put, hc_ri, hc_rl, hc_is, hc_row, hc_wr, hc_mov, hc_smi, hc_sml, hc_fv, hc_ld, hc_kd, hc_sto, hc_pre, hc_two, hc_inc, hc_psh, hc_kp, hc_k1, hc_np, hc_bk_rf, hc_bk_gA, hc_set_ap, hc_set_set, Value.category, List.getElem?_cons_zero, List.getElem?_cons_succ, List.set_cons_zero, List.set_cons_succ, List.length_cons, List.length_nil, List.map_cons, List.map_nil, reduceIte, Nat.reduceAdd, Nat.reduceSub, Nat.reduceBEq, Nat.reduceEqDiff, Nat.reduceLeDiff, Nat.reduceLT, true_and, and_true, Bool.false_eq_true, reduceCtorEq, if_true, if_false, hc_xx, hc_ofNat, hc_10, not_true_eq_false, not_false_eq_true, ge_iff_le, hh, e1, i1, i2, k2, g1, g2]
        exact K _ (Or.inr ⟨no w, rfl⟩)
    · have w : ¬ nd N r = (x.toInt, y.toInt) := fun e => g1 (Int32.toInt_inj.mp (by rw [vx, e]))
      simp only [hm27_14, hm27_16, hm27_18, hm27_19, hm27_22, hm27_25, hm27_26, hm27_29, hm27_31, hm27_32, hm27_33, hm27_36, hm27_37, hm27_40, hm27_42, hm27_43, hm27_44, hm27_47, hm27_49, hm27_52, hm27_53, hc_on_some, hc_get, hc_put, hc_ri, hc_rl, hc_is, hc_row, hc_wr, hc_mov, hc_smi, hc_sml, hc_fv, hc_ld, hc_kd, hc_sto, hc_pre, hc_two, hc_inc, hc_psh, hc_kp, hc_k1, hc_np, hc_bk_rf, hc_bk_gA, hc_set_ap, hc_set_set, Value.category, List.getElem?_cons_zero, List.getElem?_cons_succ, List.set_cons_zero, List.set_cons_succ, List.length_cons, List.length_nil, List.map_cons, List.map_nil, reduceIte, Nat.reduceAdd, Nat.reduceSub, Nat.reduceBEq, Nat.reduceEqDiff, Nat.reduceLeDiff, Nat.reduceLT, true_and, and_true, Bool.false_eq_true, reduceCtorEq, if_true, if_false, hc_xx, hc_ofNat, hc_10, not_true_eq_false, not_false_eq_true, ge_iff_le, hh, e1, i1, i2, k2, g1]
      exact K _ (Or.inr ⟨no w, rfl⟩)
end S46
