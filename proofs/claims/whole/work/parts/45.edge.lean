/-! edge, point of the class -/
section S45
variable {G : hc_G} {σ : hc_H} {t : hc_T} {Q : hc_Q} {S E P N : List (Int × Int)} {Ws : List (List Nat)} {Ps : List (Int × Nat)}
theorem sp_point (hC : CLS σ S E P N Ws Ps) {x y : Int32} (hP : P.length < 512) (K1 : ¬ inb x.toInt y.toInt → Q G σ none (some (.inl (.int (-1))))) (K2 : inb x.toInt y.toInt → ∀ G' σ', CLS σ' S E (P ++ [(x.toInt, y.toInt)]) N Ws Ps → (∀ j, 30 ≤ j → σ' j = σ j) → hc_cr G σ G' σ' → Q G' σ' none (some (.inl (.int (nI (P.length + 1)))))) :
    hc_wp G σ none 22 0 [some (.inl (.ref 0)), some (.inl (.int x)), some (.inl (.int y))] [] Q := by
  obtain ⟨a, b, o1, o4, o7, o10, lk, oa, oh, ob, og, lg, hab, h0, ⟨h1, p1⟩, ⟨h4, p4⟩, ⟨h7, p7⟩, ⟨h10, p10⟩, ⟨ha, pa⟩, ⟨hh, ph⟩, ⟨hb, pb⟩, ⟨hg, pg⟩⟩ := hC
  by_cases c : inb x.toInt y.toInt
  · have hq := p7
    obtain ⟨cx, fx, cy, fy, rfl, -⟩ := hq
    have e1 : nI P.length < 1000 := nI_lt (b := 1000) (by omega) (by omega)
    simp only [hm22_0, hm22_1, hm22_2, hm22_5, hm22_8, hm22_9, hm22_10, hm22_11, hm22_14, hm22_17, hm22_20, hm22_23, hm22_25, hm22_26, hm22_27, hm22_30, hm22_31, hm22_32, hc_on_some, hc_get, hc_put, hc_ri, hc_rl, hc_is, hc_row, hc_wr, hc_mov, hc_smi, hc_sml, hc_fv, hc_ld, hc_kd, hc_sto, hc_pre, hc_two, hc_inc, hc_psh, hc_kp, hc_k1, hc_np, hc_bk_rf, hc_bk_gA, hc_set_ap, hc_set_set, Value.category, List.getElem?_cons_zero, List.getElem?_cons_succ, List.set_cons_zero, List.set_cons_succ, List.length_cons, List.length_nil, List.map_cons, List.map_nil, reduceIte, Nat.reduceAdd, Nat.reduceSub, Nat.reduceBEq, Nat.reduceEqDiff, Nat.reduceLeDiff, Nat.reduceLT, true_and, and_true, Bool.false_eq_true, reduceCtorEq, if_true, if_false, hc_xx, hc_ofNat, hc_10, not_true_eq_false, not_false_eq_true, ge_iff_le, sp_inb, if_pos c, h0, h7, e1]
    refine sp_padd h7 p7 (by omega) (by decide) fun G' o' hP' hcr => ?_
    dsimp only
    rw [hc_bk_np rfl rfl]
    have e6 : ∀ j, j ≠ 7 → hc_set σ 7 o' j = σ j := fun j x1 => hc_set_ne _ _ x1
    have el : (P ++ [(x.toInt, y.toInt)]).length = P.length + 1 := by simp
    have hP2 : PLo o' (P ++ [(x.toInt, y.toInt)]) (P ++ [(x.toInt, y.toInt)]).length := by
      rw [el]
      exact hP'
    have M := K2 c G' _ ⟨a, b, o1, o4, o', o10, lk, oa, oh, ob, og, lg, hab, by rw [e6 _ (by omega)]; exact h0, ⟨by rw [e6 _ (by omega)]; exact h1, p1⟩, ⟨by rw [e6 _ (by omega)]; exact h4, p4⟩, ⟨hc_set_at _ _ _, hP2⟩, ⟨by rw [e6 _ (by omega)]; exact h10, p10⟩, ⟨by rw [e6 _ (by omega)]; exact ha, pa⟩, ⟨by rw [e6 _ (by omega)]; exact hh, ph⟩, ⟨by rw [e6 _ (by omega)]; exact hb, pb⟩, ⟨by rw [e6 _ (by omega)]; exact hg, pg⟩⟩ (fun j hj => e6 j (by omega)) hcr
    have hq := hP2
    obtain ⟨cx2, fx2, cy2, fy2, rfl, -⟩ := hq
    rw [← el] at M
    simp only [hm22_35, hm22_36, hm22_39, hm22_42, hc_on_some, hc_get, hc_put, hc_ri, hc_rl, hc_is, hc_row, hc_wr, hc_mov, hc_smi, hc_sml, hc_fv, hc_ld, hc_kd, hc_sto, hc_pre, hc_two, hc_inc, hc_psh, hc_kp, hc_k1, hc_np, hc_bk_rf, hc_bk_gA, hc_set_ap, hc_set_set, Value.category, List.getElem?_cons_zero, List.getElem?_cons_succ, List.set_cons_zero, List.set_cons_succ, List.length_cons, List.length_nil, List.map_cons, List.map_nil, reduceIte, Nat.reduceAdd, Nat.reduceSub, Nat.reduceBEq, Nat.reduceEqDiff, Nat.reduceLeDiff, Nat.reduceLT, true_and, and_true, Bool.false_eq_true, reduceCtorEq, if_true, if_false, hc_xx, hc_ofNat, hc_10, not_true_eq_false, not_false_eq_true, ge_iff_le, h0]
    exact M
  · have M := K1 c
    simp only [hm22_0, hm22_1, hm22_2, hm22_5, hm22_8, hm22_9, hm22_10, hm22_11, hm22_14, hm22_17, hm22_20, hm22_23, hm22_25, hm22_26, hm22_27, hm22_30, hm22_31, hm22_32, hc_on_some, hc_get, hc_put, hc_ri, hc_rl, hc_is, hc_row, hc_wr, hc_mov, hc_smi, hc_sml, hc_fv, hc_ld, hc_kd, hc_sto, hc_pre, hc_two, hc_inc, hc_psh, hc_kp, hc_k1, hc_np, hc_bk_rf, hc_bk_gA, hc_set_ap, hc_set_set, Value.category, List.getElem?_cons_zero, List.getElem?_cons_succ, List.set_cons_zero, List.set_cons_succ, List.length_cons, List.length_nil, List.map_cons, List.map_nil, reduceIte, Nat.reduceAdd, Nat.reduceSub, Nat.reduceBEq, Nat.reduceEqDiff, Nat.reduceLeDiff, Nat.reduceLT, true_and, and_true, Bool.false_eq_true, reduceCtorEq, if_true, if_false, hc_xx, hc_ofNat, hc_10, not_true_eq_false, not_false_eq_true, ge_iff_le, sp_inb, if_neg c]
    exact M
theorem sp_edge (hC : CLS σ S E P N Ws Ps) {x1 y1 x2 y2 : Int32} (hS : S.length < 512) (hle : E.length = S.length) (K1 : ¬ (inb x1.toInt y1.toInt ∧ inb x2.toInt y2.toInt ∧ ¬ (x1 = x2 ∧ y1 = y2)) → Q G σ none (some (.inl (.int (-1))))) (K2 : inb x1.toInt y1.toInt ∧ inb x2.toInt y2.toInt ∧ ¬ (x1 = x2 ∧ y1 = y2) → ∀ G' σ', CLS σ' (S ++ [(x1.toInt, y1.toInt)]) (E ++ [(x2.toInt, y2.toInt)]) P N Ws Ps → (∀ j, 30 ≤ j → σ' j = σ j) → hc_cr G σ G' σ' → Q G' σ' none (some (.inl (.int (nI S.length))))) :
    hc_wp G σ none 21 0 [some (.inl (.ref 0)), some (.inl (.int x1)), some (.inl (.int y1)), some (.inl (.int x2)), some (.inl (.int y2))] [] Q := by
  obtain ⟨a, b, o1, o4, o7, o10, lk, oa, oh, ob, og, lg, hab, h0, ⟨h1, p1⟩, ⟨h4, p4⟩, ⟨h7, p7⟩, ⟨h10, p10⟩, ⟨ha, pa⟩, ⟨hh, ph⟩, ⟨hb, pb⟩, ⟨hg, pg⟩⟩ := hC
  by_cases c1 : inb x1.toInt y1.toInt
  · by_cases c2 : inb x2.toInt y2.toInt
    · have go : ¬ (x1 = x2 ∧ y1 = y2) → hc_wp G σ none 21 30 [some (.inl (.ref 0)), some (.inl (.int x1)), some (.inl (.int y1)), some (.inl (.int x2)), some (.inl (.int y2))] [] Q := by
        intro c3
        have hq := p1
        obtain ⟨cx, fx, cy, fy, rfl, -⟩ := hq
        have e1 : nI S.length < 2000 := nI_lt (b := 2000) (by omega) (by omega)
        simp only [hm21_30, hm21_31, hm21_34, hm21_37, hm21_40, hm21_43, hm21_45, hm21_46, hm21_47, hm21_50, hm21_51, hm21_52, hc_on_some, hc_get, hc_put, hc_ri, hc_rl, hc_is, hc_row, hc_wr, hc_mov, hc_smi, hc_sml, hc_fv, hc_ld, hc_kd, hc_sto, hc_pre, hc_two, hc_inc, hc_psh, hc_kp, hc_k1, hc_np, hc_bk_rf, hc_bk_gA, hc_set_ap, hc_set_set, Value.category, List.getElem?_cons_zero, List.getElem?_cons_succ, List.set_cons_zero, List.set_cons_succ, List.length_cons, List.length_nil, List.map_cons, List.map_nil, reduceIte, Nat.reduceAdd, Nat.reduceSub, Nat.reduceBEq, Nat.reduceEqDiff, Nat.reduceLeDiff, Nat.reduceLT, true_and, and_true, Bool.false_eq_true, reduceCtorEq, if_true, if_false, hc_xx, hc_ofNat, hc_10, not_true_eq_false, not_false_eq_true, ge_iff_le, h0, h1, e1]
        refine sp_padd h1 p1 (by omega) (by decide) fun G' o' hP' hcr => ?_
        dsimp only
        rw [hc_bk_np rfl rfl]
        have h04 : hc_set σ 1 o' 4 = some o4 := by rw [hc_set_ne _ _ (by decide)]; exact h4
        simp only [hm21_55, hm21_56, hm21_59, hm21_60, hm21_62, hc_on_some, hc_get, hc_put, hc_ri, hc_rl, hc_is, hc_row, hc_wr, hc_mov, hc_smi, hc_sml, hc_fv, hc_ld, hc_kd, hc_sto, hc_pre, hc_two, hc_inc, hc_psh, hc_kp, hc_k1, hc_np, hc_bk_rf, hc_bk_gA, hc_set_ap, hc_set_set, Value.category, List.getElem?_cons_zero, List.getElem?_cons_succ, List.set_cons_zero, List.set_cons_succ, List.length_cons, List.length_nil, List.map_cons, List.map_nil, reduceIte, Nat.reduceAdd, Nat.reduceSub, Nat.reduceBEq, Nat.reduceEqDiff, Nat.reduceLeDiff, Nat.reduceLT, true_and, and_true, Bool.false_eq_true, reduceCtorEq, if_true, if_false, hc_xx, hc_ofNat, hc_10, not_true_eq_false, not_false_eq_true, ge_iff_le, h0, h4]
        have hq := p4
        obtain ⟨cx4, fx4, cy4, fy4, rfl, -⟩ := hq
        refine ⟨rfl, ?_⟩
        refine sp_padd h04 p4 (by omega) (by decide) fun G2 o2 hP2 hcr2 => ?_
        dsimp only
        rw [hc_bk_np rfl rfl]
        have e6 : ∀ j, j ≠ 1 → j ≠ 4 → hc_set (hc_set σ 1 o') 4 o2 j = σ j := fun j q1 q2 => by rw [hc_set_ne _ _ q2, hc_set_ne _ _ q1]
        have el : (S ++ [(x1.toInt, y1.toInt)]).length = S.length + 1 := by simp
        have el2 : (E ++ [(x2.toInt, y2.toInt)]).length = E.length + 1 := by simp
        have hP3 : PLo o' (S ++ [(x1.toInt, y1.toInt)]) (S ++ [(x1.toInt, y1.toInt)]).length := by
          rw [el]
          exact hP'
        have hP4 : PLo o2 (E ++ [(x2.toInt, y2.toInt)]) (E ++ [(x2.toInt, y2.toInt)]).length := by
          rw [el2]
          exact hP2
        have M := K2 ⟨c1, c2, c3⟩ G2 _ ⟨a, b, o', o2, o7, o10, lk, oa, oh, ob, og, lg, hab, by rw [e6 _ (by omega) (by omega)]; exact h0, ⟨by rw [hc_set_ne _ _ (by decide)]; exact hc_set_at _ _ _, hP3⟩, ⟨hc_set_at _ _ _, hP4⟩, ⟨by rw [e6 _ (by omega) (by omega)]; exact h7, p7⟩, ⟨by rw [e6 _ (by omega) (by omega)]; exact h10, p10⟩, ⟨by rw [e6 _ (by omega) (by omega)]; exact ha, pa⟩, ⟨by rw [e6 _ (by omega) (by omega)]; exact hh, ph⟩, ⟨by rw [e6 _ (by omega) (by omega)]; exact hb, pb⟩, ⟨by rw [e6 _ (by omega) (by omega)]; exact hg, pg⟩⟩ (fun j hj => e6 j (by omega) (by omega)) (hcr.tr hcr2)
        have hq := hP3
        obtain ⟨cx2, fx2, cy2, fy2, rfl, -⟩ := hq
        have ep : nI (S ++ [(x1.toInt, y1.toInt)]).length - 1 = nI S.length := by
          rw [el]
          exact nI_pred _
        simp only [hm21_65, hm21_66, hm21_69, hm21_72, hm21_73, hm21_74, hc_on_some, hc_get, hc_put, hc_ri, hc_rl, hc_is, hc_row, hc_wr, hc_mov, hc_smi, hc_sml, hc_fv, hc_ld, hc_kd, hc_sto, hc_pre, hc_two, hc_inc, hc_psh, hc_kp, hc_k1, hc_np, hc_bk_rf, hc_bk_gA, hc_set_ap, hc_set_set, Value.category, List.getElem?_cons_zero, List.getElem?_cons_succ, List.set_cons_zero, List.set_cons_succ, List.length_cons, List.length_nil, List.map_cons, List.map_nil, reduceIte, Nat.reduceAdd, Nat.reduceSub, Nat.reduceBEq, Nat.reduceEqDiff, Nat.reduceLeDiff, Nat.reduceLT, true_and, and_true, Bool.false_eq_true, reduceCtorEq, if_true, if_false, hc_xx, hc_ofNat, hc_10, not_true_eq_false, not_false_eq_true, ge_iff_le, h0, ep]
        exact M
      by_cases c3 : x1 = x2
      · by_cases c4 : y1 = y2
        · have M := K1 (fun q => q.2.2 ⟨c3, c4⟩)
          subst c3 c4
          simp only [hm21_0, hm21_1, hm21_2, hm21_5, hm21_8, hm21_9, hm21_11, hm21_14, hm21_17, hm21_18, hm21_19, hm21_22, hm21_23, hm21_25, hm21_28, hm21_29, hc_on_some, hc_get, hc_put, hc_ri, hc_rl, hc_is, hc_row, hc_wr, hc_mov, hc_smi, hc_sml, hc_fv, hc_ld, hc_kd, hc_sto, hc_pre, hc_two, hc_inc, hc_psh, hc_kp, hc_k1, hc_np, hc_bk_rf, hc_bk_gA, hc_set_ap, hc_set_set, Value.category, List.getElem?_cons_zero, List.getElem?_cons_succ, List.set_cons_zero, List.set_cons_succ, List.length_cons, List.length_nil, List.map_cons, List.map_nil, reduceIte, Nat.reduceAdd, Nat.reduceSub, Nat.reduceBEq, Nat.reduceEqDiff, Nat.reduceLeDiff, Nat.reduceLT, true_and, and_true, Bool.false_eq_true, reduceCtorEq, if_true, if_false, hc_xx, hc_ofNat, hc_10, not_true_eq_false, not_false_eq_true, ge_iff_le, sp_inb, if_pos c1, if_pos c2]
          exact M
        · have g := go (fun q => c4 q.2)
          subst c3
          simp only [hm21_0, hm21_1, hm21_2, hm21_5, hm21_8, hm21_9, hm21_11, hm21_14, hm21_17, hm21_18, hm21_19, hm21_22, hm21_23, hm21_25, hm21_28, hm21_29, hc_on_some, hc_get, hc_put, hc_ri, hc_rl, hc_is, hc_row, hc_wr, hc_mov, hc_smi, hc_sml, hc_fv, hc_ld, hc_kd, hc_sto, hc_pre, hc_two, hc_inc, hc_psh, hc_kp, hc_k1, hc_np, hc_bk_rf, hc_bk_gA, hc_set_ap, hc_set_set, Value.category, List.getElem?_cons_zero, List.getElem?_cons_succ, List.set_cons_zero, List.set_cons_succ, List.length_cons, List.length_nil, List.map_cons, List.map_nil, reduceIte, Nat.reduceAdd, Nat.reduceSub, Nat.reduceBEq, Nat.reduceEqDiff, Nat.reduceLeDiff, Nat.reduceLT, true_and, and_true, Bool.false_eq_true, reduceCtorEq, if_true, if_false, hc_xx, hc_ofNat, hc_10, not_true_eq_false, not_false_eq_true, ge_iff_le, sp_inb, if_pos c1, if_pos c2, c4]
          exact g
      · have g := go (fun q => c3 q.1)
        simp only [hm21_0, hm21_1, hm21_2, hm21_5, hm21_8, hm21_9, hm21_11, hm21_14, hm21_17, hm21_18, hm21_19, hm21_22, hm21_23, hm21_25, hm21_28, hm21_29, hc_on_some, hc_get, hc_put, hc_ri, hc_rl, hc_is, hc_row, hc_wr, hc_mov, hc_smi, hc_sml, hc_fv, hc_ld, hc_kd, hc_sto, hc_pre, hc_two, hc_inc, hc_psh, hc_kp, hc_k1, hc_np, hc_bk_rf, hc_bk_gA, hc_set_ap, hc_set_set, Value.category, List.getElem?_cons_zero, List.getElem?_cons_succ, List.set_cons_zero, List.set_cons_succ, List.length_cons, List.length_nil, List.map_cons, List.map_nil, reduceIte, Nat.reduceAdd, Nat.reduceSub, Nat.reduceBEq, Nat.reduceEqDiff, Nat.reduceLeDiff, Nat.reduceLT, true_and, and_true, Bool.false_eq_true, reduceCtorEq, if_true, if_false, hc_xx, hc_ofNat, hc_10, not_true_eq_false, not_false_eq_true, ge_iff_le, sp_inb, if_pos c1, if_pos c2, c3]
        exact g
    · have M := K1 (fun q => c2 q.2.1)
      simp only [hm21_0, hm21_1, hm21_2, hm21_5, hm21_8, hm21_9, hm21_11, hm21_14, hm21_17, hm21_18, hm21_19, hm21_22, hm21_23, hm21_25, hm21_28, hm21_29, hc_on_some, hc_get, hc_put, hc_ri, hc_rl, hc_is, hc_row, hc_wr, hc_mov, hc_smi, hc_sml, hc_fv, hc_ld, hc_kd, hc_sto, hc_pre, hc_two, hc_inc, hc_psh, hc_kp, hc_k1, hc_np, hc_bk_rf, hc_bk_gA, hc_set_ap, hc_set_set, Value.category, List.getElem?_cons_zero, List.getElem?_cons_succ, List.set_cons_zero, List.set_cons_succ, List.length_cons, List.length_nil, List.map_cons, List.map_nil, reduceIte, Nat.reduceAdd, Nat.reduceSub, Nat.reduceBEq, Nat.reduceEqDiff, Nat.reduceLeDiff, Nat.reduceLT, true_and, and_true, Bool.false_eq_true, reduceCtorEq, if_true, if_false, hc_xx, hc_ofNat, hc_10, not_true_eq_false, not_false_eq_true, ge_iff_le, sp_inb, if_pos c1, if_neg c2]
      exact M
  · have M := K1 (fun q => c1 q.1)
    simp only [hm21_0, hm21_1, hm21_2, hm21_5, hm21_8, hm21_9, hm21_11, hm21_14, hm21_17, hm21_18, hm21_19, hm21_22, hm21_23, hm21_25, hm21_28, hm21_29, hc_on_some, hc_get, hc_put, hc_ri, hc_rl, hc_is, hc_row, hc_wr, hc_mov, hc_smi, hc_sml, hc_fv, hc_ld, hc_kd, hc_sto, hc_pre, hc_two, hc_inc, hc_psh, hc_kp, hc_k1, hc_np, hc_bk_rf, hc_bk_gA, hc_set_ap, hc_set_set, Value.category, List.getElem?_cons_zero, List.getElem?_cons_succ, List.set_cons_zero, List.set_cons_succ, List.length_cons, List.length_nil, List.map_cons, List.map_nil, reduceIte, Nat.reduceAdd, Nat.reduceSub, Nat.reduceBEq, Nat.reduceEqDiff, Nat.reduceLeDiff, Nat.reduceLT, true_and, and_true, Bool.false_eq_true, reduceCtorEq, if_true, if_false, hc_xx, hc_ofNat, hc_10, not_true_eq_false, not_false_eq_true, ge_iff_le, sp_inb, if_neg c1]
    exact M
end S45
