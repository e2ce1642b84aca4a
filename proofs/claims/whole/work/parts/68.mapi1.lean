/-! edge, point, clear, nodes, pieces, way of the reference -/
section S68
variable {G : hc_G} {σ : hc_H} {t : hc_T} {Q : hc_Q} {S E P N : List (Int × Int)} {Ws : List (List Nat)} {Ps : List (Int × Nat)}
theorem MOD.s31 {o : hc_O} {l : List Int} {S' E' : List (Int × Int)} (hM : MOD σ S E P N Ws Ps) (ho : INo o l 4096) (hl : EL l S' E') : MOD (hc_set σ 31 o) S' E' P N Ws Ps := by
  obtain ⟨h, p, w, b, h', p', w', b', ct, ft, q, hz, h30, hct, hTM, -, ⟨l33, i33, x33⟩, mh, mp, mw, ⟨lb, mb, xb⟩, ⟨lh, ih⟩, ⟨lp, ip⟩, ⟨lw, iw⟩, ⟨lb', ib⟩, ⟨la, ia⟩⟩ := hM
  have hz' := hz
  unfold MHp at hz'
  exact ⟨h, p, w, b, h', p', w', b', ct, ft, q, hz, by rw [hc_set_ne _ _ (by decide)]; exact h30, hct, hTM, ⟨l, ⟨o, hc_set_at _ _ _, ho⟩, hl⟩, ⟨l33, i33.ne (by decide), x33⟩, mh.ne (by omega), mp.ne (by omega), mw.ne (by omega), ⟨lb, mb.ne (by omega), xb⟩, ⟨lh, ih.ne (by omega)⟩, ⟨lp, ip.ne (by omega)⟩, ⟨lw, iw.ne (by omega)⟩, ⟨lb', ib.ne (by omega)⟩, la, ia.ne (by decide)⟩
theorem MOD.s33 {o : hc_O} {l : List Int} {P' : List (Int × Int)} (hM : MOD σ S E P N Ws Ps) (ho : INo o l 2048) (hl : PTs l P') : MOD (hc_set σ 33 o) S E P' N Ws Ps := by
  obtain ⟨h, p, w, b, h', p', w', b', ct, ft, q, hz, h30, hct, hTM, ⟨l31, i31, x31⟩, -, mh, mp, mw, ⟨lb, mb, xb⟩, ⟨lh, ih⟩, ⟨lp, ip⟩, ⟨lw, iw⟩, ⟨lb', ib⟩, ⟨la, ia⟩⟩ := hM
  have hz' := hz
  unfold MHp at hz'
  exact ⟨h, p, w, b, h', p', w', b', ct, ft, q, hz, by rw [hc_set_ne _ _ (by decide)]; exact h30, hct, hTM, ⟨l31, i31.ne (by decide), x31⟩, ⟨l, ⟨o, hc_set_at _ _ _, ho⟩, hl⟩, mh.ne (by omega), mp.ne (by omega), mw.ne (by omega), ⟨lb, mb.ne (by omega), xb⟩, ⟨lh, ih.ne (by omega)⟩, ⟨lp, ip.ne (by omega)⟩, ⟨lw, iw.ne (by omega)⟩, ⟨lb', ib.ne (by omega)⟩, la, ia.ne (by decide)⟩
theorem EL.add {l : List Int} (h : EL l S E) (hle : E.length = S.length) (s e : Int × Int) : EL (l ++ [s.1, s.2, e.1, e.2]) (S ++ [s]) (E ++ [e]) := by
  obtain ⟨h1, h2⟩ := h
  refine ⟨by simp only [List.length_append, List.length_cons, List.length_nil]; omega, fun i hi => ?_⟩
  simp only [List.length_append, List.length_cons, List.length_nil] at hi
  by_cases c : i < S.length
  · have ez : edz (S ++ [s]) (E ++ [e]) i = edz S E i := by
      unfold edz
      rw [List.getElem?_append_left c, List.getElem?_append_left (by omega)]
    obtain ⟨a1, a2, a3, a4⟩ := h2 i c
    rw [ez, List.getElem?_append_left (by omega), List.getElem?_append_left (by omega), List.getElem?_append_left (by omega), List.getElem?_append_left (by omega)]
    exact ⟨a1, a2, a3, a4⟩
  · have ei : i = S.length := by omega
    subst ei
    have ez : edz (S ++ [s]) (E ++ [e]) S.length = (s.1, s.2, e.1, e.2) := by
      unfold edz
      rw [List.getElem?_append_right (Nat.le_refl _), List.getElem?_append_right (by omega), hle, Nat.sub_self]
      rfl
    rw [ez, List.getElem?_append_right (by omega), List.getElem?_append_right (by omega), List.getElem?_append_right (by omega), List.getElem?_append_right (by omega), h1, Nat.sub_self, Nat.add_sub_cancel_left, Nat.add_sub_cancel_left, Nat.add_sub_cancel_left]
    exact ⟨rfl, rfl, rfl, rfl⟩
theorem PTs.add {l : List Int} (h : PTs l P) (s : Int × Int) : PTs (l ++ [s.1, s.2]) (P ++ [s]) := by
  obtain ⟨h1, h2⟩ := h
  refine ⟨by simp only [List.length_append, List.length_cons, List.length_nil]; omega, fun i hi => ?_⟩
  simp only [List.length_append, List.length_cons, List.length_nil] at hi
  by_cases c : i < P.length
  · have ez : nd (P ++ [s]) i = nd P i := by
      unfold nd
      rw [List.getElem?_append_left c]
    obtain ⟨a1, a2⟩ := h2 i c
    rw [ez, List.getElem?_append_left (by omega), List.getElem?_append_left (by omega)]
    exact ⟨a1, a2⟩
  · have ei : i = P.length := by omega
    subst ei
    have ez : nd (P ++ [s]) P.length = s := by
      unfold nd
      rw [List.getElem?_append_right (Nat.le_refl _), Nat.sub_self]
      rfl
    rw [ez, List.getElem?_append_right (by omega), List.getElem?_append_right (by omega), h1, Nat.sub_self, Nat.add_sub_cancel_left]
    exact ⟨rfl, rfl⟩
theorem sp_mpoint (hM : MOD σ S E P N Ws Ps) {x y : Int32} (hP : P.length < 512) (K1 : ¬ inb x.toInt y.toInt → Q G σ none (some (.inl (.int (-1))))) (K2 : inb x.toInt y.toInt → ∀ G' σ', MOD σ' S E (P ++ [(x.toInt, y.toInt)]) N Ws Ps → (∀ j, j < 30 ∨ 54 ≤ j → σ' j = σ j) → hc_cr G σ G' σ' → Q G' σ' none (some (.inl (.int (nI (P.length + 1)))))) :
    hc_wp G σ none 60 0 [some (.inl (.ref 30)), some (.inl (.int x)), some (.inl (.int y))] [] Q := by
  have hM' := hM
  obtain ⟨h, p, w, b, h', p', w', b', ct, ft, q, hz, h30, hct, hTM, -, ⟨l33, ⟨o33, h33, i33⟩, x33⟩, -⟩ := hM'
  by_cases c : inb x.toInt y.toInt
  · have o10 : ¬ (1 : Int32) = 0 := by decide
    have e0 := x33.1
    have hq := i33
    obtain ⟨c1, f1, rfl, -⟩ := hq
    have e2 : ¬ nI l33.length = 2000 := by
      have : (2000 : Int32) = nI 2000 := rfl
      rw [this, nI_eq (by omega) (by omega)]
      omega
    simp only [hm60_0, hm60_1, hm60_2, hm60_5, hm60_8, hm60_9, hm60_10, hm60_11, hm60_14, hm60_17, hm60_20, hm60_23, hm60_25, hm60_26, hm60_27, hm60_30, hm60_31, hc_on_some, hc_get, hc_put, hc_ri, hc_rl, hc_is, hc_row, hc_wr, hc_mov, hc_smi, hc_sml, hc_fv, hc_ld, hc_kd, hc_sto, hc_pre, hc_two, hc_inc, hc_psh, hc_kp, hc_k1, hc_np, hc_bk_rf, hc_bk_gA, hc_set_ap, hc_set_set, Value.category, List.getElem?_cons_zero, List.getElem?_cons_succ, List.set_cons_zero, List.set_cons_succ, List.length_cons, List.length_nil, List.map_cons, List.map_nil, reduceIte, Nat.reduceAdd, Nat.reduceSub, Nat.reduceBEq, Nat.reduceEqDiff, Nat.reduceLeDiff, Nat.reduceLT, true_and, and_true, Bool.false_eq_true, reduceCtorEq, if_true, if_false, hc_xx, hc_ofNat, hc_10, not_true_eq_false, not_false_eq_true, ge_iff_le, sp_isin, if_pos c, o10, h30, h33, oIn, e2]
    refine sp_iadd h33 i33 (by omega) (by omega) (by decide) fun G2 o2 i2 cr2 => ?_
    dsimp only
    rw [hc_bk_np rfl rfl]
    have hq := i2
    obtain ⟨c2, f2, rfl, -⟩ := hq
    simp only [hm60_34, hm60_35, hm60_38, hm60_39, hc_on_some, hc_get, hc_put, hc_ri, hc_rl, hc_is, hc_row, hc_wr, hc_mov, hc_smi, hc_sml, hc_fv, hc_ld, hc_kd, hc_sto, hc_pre, hc_two, hc_inc, hc_psh, hc_kp, hc_k1, hc_np, hc_bk_rf, hc_bk_gA, hc_set_ap, hc_set_set, Value.category, List.getElem?_cons_zero, List.getElem?_cons_succ, List.set_cons_zero, List.set_cons_succ, List.length_cons, List.length_nil, List.map_cons, List.map_nil, reduceIte, Nat.reduceAdd, Nat.reduceSub, Nat.reduceBEq, Nat.reduceEqDiff, Nat.reduceLeDiff, Nat.reduceLT, true_and, and_true, Bool.false_eq_true, reduceCtorEq, if_true, if_false, hc_xx, hc_ofNat, hc_10, not_true_eq_false, not_false_eq_true, ge_iff_le, h30, oIn]
    refine sp_iadd (hc_set_at _ _ _) i2 (by rw [List.length_append, List.length_cons, List.length_nil]; omega) (by omega) (by decide) fun G3 o3 i3 cr3 => ?_
    dsimp only
    rw [hc_bk_np rfl rfl]
    rw [hc_set_set] at cr3 ⊢
    rw [List.append_assoc] at i3
    have pt := x33.add (x.toInt, y.toInt)
    have M := K2 c G3 _ (hM.s33 i3 pt) (fun j hj => hc_set_ne _ _ (by omega)) (cr2.tr cr3)
    have hq := i3
    obtain ⟨c3, f3, rfl, -⟩ := hq
    have e3 : (l33 ++ ([x.toInt] ++ [y.toInt])).length = 2 * P.length + 2 := by
      simp only [List.length_append, List.length_cons, List.length_nil]
      omega
    have e4 : nI (2 * P.length + 2) / 2 = nI (P.length + 1) := by
      have : nI (2 * P.length + 2) / 2 = nI ((2 * P.length + 2) / 2) := pk_div (d := 2) (by omega) (by omega) (by omega)
      rw [this]
      congr 1
      omega
    have z2 : ¬ (2 : Int32) = 0 := by decide
    rw [e3] at M ⊢
    simp only [hm60_42, hm60_43, hm60_46, hm60_49, hm60_50, hm60_51, hc_on_some, hc_get, hc_put, hc_ri, hc_rl, hc_is, hc_row, hc_wr, hc_mov, hc_smi, hc_sml, hc_fv, hc_ld, hc_kd, hc_sto, hc_pre, hc_two, hc_inc, hc_psh, hc_kp, hc_k1, hc_np, hc_bk_rf, hc_bk_gA, hc_set_ap, hc_set_set, Value.category, List.getElem?_cons_zero, List.getElem?_cons_succ, List.set_cons_zero, List.set_cons_succ, List.length_cons, List.length_nil, List.map_cons, List.map_nil, reduceIte, Nat.reduceAdd, Nat.reduceSub, Nat.reduceBEq, Nat.reduceEqDiff, Nat.reduceLeDiff, Nat.reduceLT, true_and, and_true, Bool.false_eq_true, reduceCtorEq, if_true, if_false, hc_xx, hc_ofNat, hc_10, not_true_eq_false, not_false_eq_true, ge_iff_le, h30, oIn, e4, z2]
    exact M
  · have M := K1 c
    simp only [hm60_0, hm60_1, hm60_2, hm60_5, hm60_8, hm60_9, hm60_10, hm60_11, hm60_14, hm60_17, hm60_20, hm60_23, hm60_25, hm60_26, hm60_27, hm60_30, hm60_31, hc_on_some, hc_get, hc_put, hc_ri, hc_rl, hc_is, hc_row, hc_wr, hc_mov, hc_smi, hc_sml, hc_fv, hc_ld, hc_kd, hc_sto, hc_pre, hc_two, hc_inc, hc_psh, hc_kp, hc_k1, hc_np, hc_bk_rf, hc_bk_gA, hc_set_ap, hc_set_set, Value.category, List.getElem?_cons_zero, List.getElem?_cons_succ, List.set_cons_zero, List.set_cons_succ, List.length_cons, List.length_nil, List.map_cons, List.map_nil, reduceIte, Nat.reduceAdd, Nat.reduceSub, Nat.reduceBEq, Nat.reduceEqDiff, Nat.reduceLeDiff, Nat.reduceLT, true_and, and_true, Bool.false_eq_true, reduceCtorEq, if_true, if_false, hc_xx, hc_ofNat, hc_10, not_true_eq_false, not_false_eq_true, ge_iff_le, sp_isin, if_neg c]
    exact M
theorem sp_medge (hM : MOD σ S E P N Ws Ps) {x1 y1 x2 y2 : Int32} (hS : S.length < 512) (hle : E.length = S.length) (K1 : ¬ (inb x1.toInt y1.toInt ∧ inb x2.toInt y2.toInt ∧ ¬ (x1 = x2 ∧ y1 = y2)) → Q G σ none (some (.inl (.int (-1))))) (K2 : inb x1.toInt y1.toInt ∧ inb x2.toInt y2.toInt ∧ ¬ (x1 = x2 ∧ y1 = y2) → ∀ G' σ', MOD σ' (S ++ [(x1.toInt, y1.toInt)]) (E ++ [(x2.toInt, y2.toInt)]) P N Ws Ps → (∀ j, j < 30 ∨ 54 ≤ j → σ' j = σ j) → hc_cr G σ G' σ' → Q G' σ' none (some (.inl (.int (nI S.length))))) :
    hc_wp G σ none 59 0 [some (.inl (.ref 30)), some (.inl (.int x1)), some (.inl (.int y1)), some (.inl (.int x2)), some (.inl (.int y2))] [] Q := by
  have hM' := hM
  obtain ⟨h, p, w, b, h', p', w', b', ct, ft, q, hz, h30, hct, hTM, ⟨l31, ⟨o31, h31, i31⟩, x31⟩, -⟩ := hM'
  have o10 : ¬ (1 : Int32) = 0 := by decide
  by_cases c1 : inb x1.toInt y1.toInt
  · by_cases c2 : inb x2.toInt y2.toInt
    · have go : ¬ (x1 = x2 ∧ y1 = y2) → hc_wp G σ none 59 30 [some (.inl (.ref 30)), some (.inl (.int x1)), some (.inl (.int y1)), some (.inl (.int x2)), some (.inl (.int y2))] [] Q := by
        intro c3
        have e0 := x31.1
        have hq := i31
        obtain ⟨c4, f1, rfl, -⟩ := hq
        have e2 : ¬ nI l31.length = 8000 := by
          have : (8000 : Int32) = nI 8000 := rfl
          rw [this, nI_eq (by omega) (by omega)]
          omega
        simp only [hm59_30, hm59_31, hm59_34, hm59_37, hm59_40, hm59_43, hm59_45, hm59_46, hm59_47, hm59_50, hm59_51, hc_on_some, hc_get, hc_put, hc_ri, hc_rl, hc_is, hc_row, hc_wr, hc_mov, hc_smi, hc_sml, hc_fv, hc_ld, hc_kd, hc_sto, hc_pre, hc_two, hc_inc, hc_psh, hc_kp, hc_k1, hc_np, hc_bk_rf, hc_bk_gA, hc_set_ap, hc_set_set, Value.category, List.getElem?_cons_zero, List.getElem?_cons_succ, List.set_cons_zero, List.set_cons_succ, List.length_cons, List.length_nil, List.map_cons, List.map_nil, reduceIte, Nat.reduceAdd, Nat.reduceSub, Nat.reduceBEq, Nat.reduceEqDiff, Nat.reduceLeDiff, Nat.reduceLT, true_and, and_true, Bool.false_eq_true, reduceCtorEq, if_true, if_false, hc_xx, hc_ofNat, hc_10, not_true_eq_false, not_false_eq_true, ge_iff_le, o10, h30, h31, oIn, e2]
        refine sp_iadd h31 i31 (by omega) (by omega) (by decide) fun G2 o2 i2 cr2 => ?_
        dsimp only
        rw [hc_bk_np rfl rfl]
        have hq := i2
        obtain ⟨c5, f2, rfl, -⟩ := hq
        simp only [hm59_54, hm59_55, hm59_58, hm59_59, hc_on_some, hc_get, hc_put, hc_ri, hc_rl, hc_is, hc_row, hc_wr, hc_mov, hc_smi, hc_sml, hc_fv, hc_ld, hc_kd, hc_sto, hc_pre, hc_two, hc_inc, hc_psh, hc_kp, hc_k1, hc_np, hc_bk_rf, hc_bk_gA, hc_set_ap, hc_set_set, Value.category, List.getElem?_cons_zero, List.getElem?_cons_succ, List.set_cons_zero, List.set_cons_succ, List.length_cons, List.length_nil, List.map_cons, List.map_nil, reduceIte, Nat.reduceAdd, Nat.reduceSub, Nat.reduceBEq, Nat.reduceEqDiff, Nat.reduceLeDiff, Nat.reduceLT, true_and, and_true, Bool.false_eq_true, reduceCtorEq, if_true, if_false, hc_xx, hc_ofNat, hc_10, not_true_eq_false, not_false_eq_true, ge_iff_le, h30, oIn]
        refine sp_iadd (hc_set_at _ _ _) i2 (by rw [List.length_append, List.length_cons, List.length_nil]; omega) (by omega) (by decide) fun G3 o3 i3 cr3 => ?_
        dsimp only
        rw [hc_bk_np rfl rfl]
        rw [hc_set_set] at cr3 ⊢
        have hq := i3
        obtain ⟨c6, f3, rfl, -⟩ := hq
        simp only [hm59_62, hm59_63, hm59_66, hm59_67, hc_on_some, hc_get, hc_put, hc_ri, hc_rl, hc_is, hc_row, hc_wr, hc_mov, hc_smi, hc_sml, hc_fv, hc_ld, hc_kd, hc_sto, hc_pre, hc_two, hc_inc, hc_psh, hc_kp, hc_k1, hc_np, hc_bk_rf, hc_bk_gA, hc_set_ap, hc_set_set, Value.category, List.getElem?_cons_zero, List.getElem?_cons_succ, List.set_cons_zero, List.set_cons_succ, List.length_cons, List.length_nil, List.map_cons, List.map_nil, reduceIte, Nat.reduceAdd, Nat.reduceSub, Nat.reduceBEq, Nat.reduceEqDiff, Nat.reduceLeDiff, Nat.reduceLT, true_and, and_true, Bool.false_eq_true, reduceCtorEq, if_true, if_false, hc_xx, hc_ofNat, hc_10, not_true_eq_false, not_false_eq_true, ge_iff_le, h30, oIn]
        refine sp_iadd (hc_set_at _ _ _) i3 (by simp only [List.length_append, List.length_cons, List.length_nil]; omega) (by omega) (by decide) fun G4 o4 i4 cr4 => ?_
        dsimp only
        rw [hc_bk_np rfl rfl]
        rw [hc_set_set] at cr4 ⊢
        have hq := i4
        obtain ⟨c7, f4, rfl, -⟩ := hq
        simp only [hm59_70, hm59_71, hm59_74, hm59_76, hc_on_some, hc_get, hc_put, hc_ri, hc_rl, hc_is, hc_row, hc_wr, hc_mov, hc_smi, hc_sml, hc_fv, hc_ld, hc_kd, hc_sto, hc_pre, hc_two, hc_inc, hc_psh, hc_kp, hc_k1, hc_np, hc_bk_rf, hc_bk_gA, hc_set_ap, hc_set_set, Value.category, List.getElem?_cons_zero, List.getElem?_cons_succ, List.set_cons_zero, List.set_cons_succ, List.length_cons, List.length_nil, List.map_cons, List.map_nil, reduceIte, Nat.reduceAdd, Nat.reduceSub, Nat.reduceBEq, Nat.reduceEqDiff, Nat.reduceLeDiff, Nat.reduceLT, true_and, and_true, Bool.false_eq_true, reduceCtorEq, if_true, if_false, hc_xx, hc_ofNat, hc_10, not_true_eq_false, not_false_eq_true, ge_iff_le, h30, oIn]
        refine sp_iadd (hc_set_at _ _ _) i4 (by simp only [List.length_append, List.length_cons, List.length_nil]; omega) (by omega) (by decide) fun G5 o5 i5 cr5 => ?_
        dsimp only
        rw [hc_bk_np rfl rfl]
        rw [hc_set_set] at cr5 ⊢
        have ea : l31 ++ [x1.toInt] ++ [y1.toInt] ++ [x2.toInt] ++ [y2.toInt] = l31 ++ [x1.toInt, y1.toInt, x2.toInt, y2.toInt] := by simp
        rw [ea] at i5
        have pt := x31.add hle (x1.toInt, y1.toInt) (x2.toInt, y2.toInt)
        have M := K2 ⟨c1, c2, c3⟩ G5 _ (hM.s31 i5 pt) (fun j hj => hc_set_ne _ _ (by omega)) (((cr2.tr cr3).tr cr4).tr cr5)
        have hq := i5
        obtain ⟨c8, f5, rfl, -⟩ := hq
        have e3 : (l31 ++ [x1.toInt, y1.toInt, x2.toInt, y2.toInt]).length = 4 * S.length + 4 := by
          simp only [List.length_append, List.length_cons, List.length_nil]
          omega
        have e4 : nI (4 * S.length + 4) / 4 = nI (S.length + 1) := by
          have : nI (4 * S.length + 4) / 4 = nI ((4 * S.length + 4) / 4) := pk_div (d := 4) (by omega) (by omega) (by omega)
          rw [this]
          congr 1
          omega
        have z2 : ¬ (4 : Int32) = 0 := by decide
        rw [e3] at M ⊢
        simp only [hm59_79, hm59_80, hm59_83, hm59_86, hm59_87, hm59_88, hm59_89, hm59_90, hc_on_some, hc_get, hc_put, hc_ri, hc_rl, hc_is, hc_row, hc_wr, hc_mov, hc_smi, hc_sml, hc_fv, hc_ld, hc_kd, hc_sto, hc_pre, hc_two, hc_inc, hc_psh, hc_kp, hc_k1, hc_np, hc_bk_rf, hc_bk_gA, hc_set_ap, hc_set_set, Value.category, List.getElem?_cons_zero, List.getElem?_cons_succ, List.set_cons_zero, List.set_cons_succ, List.length_cons, List.length_nil, List.map_cons, List.map_nil, reduceIte, Nat.reduceAdd, Nat.reduceSub, Nat.reduceBEq, Nat.reduceEqDiff, Nat.reduceLeDiff, Nat.reduceLT, true_and, and_true, Bool.false_eq_true, reduceCtorEq, if_true, if_false, hc_xx, hc_ofNat, hc_10, not_true_eq_false, not_false_eq_true, ge_iff_le, h30, oIn, e4, z2, nI_pred]
        exact M
      by_cases c3 : x1 = x2
      · by_cases c4 : y1 = y2
        · have M := K1 (fun q => q.2.2 ⟨c3, c4⟩)
          subst c3 c4
          simp only [hm59_0, hm59_1, hm59_2, hm59_5, hm59_8, hm59_9, hm59_11, hm59_14, hm59_17, hm59_18, hm59_19, hm59_22, hm59_23, hm59_25, hm59_28, hm59_29, hc_on_some, hc_get, hc_put, hc_ri, hc_rl, hc_is, hc_row, hc_wr, hc_mov, hc_smi, hc_sml, hc_fv, hc_ld, hc_kd, hc_sto, hc_pre, hc_two, hc_inc, hc_psh, hc_kp, hc_k1, hc_np, hc_bk_rf, hc_bk_gA, hc_set_ap, hc_set_set, Value.category, List.getElem?_cons_zero, List.getElem?_cons_succ, List.set_cons_zero, List.set_cons_succ, List.length_cons, List.length_nil, List.map_cons, List.map_nil, reduceIte, Nat.reduceAdd, Nat.reduceSub, Nat.reduceBEq, Nat.reduceEqDiff, Nat.reduceLeDiff, Nat.reduceLT, true_and, and_true, Bool.false_eq_true, reduceCtorEq, if_true, if_false, hc_xx, hc_ofNat, hc_10, not_true_eq_false, not_false_eq_true, ge_iff_le, sp_isin, if_pos c1, if_pos c2, o10]
          exact M
        · have g := go (fun q => c4 q.2)
          subst c3
          simp only [hm59_0, hm59_1, hm59_2, hm59_5, hm59_8, hm59_9, hm59_11, hm59_14, hm59_17, hm59_18, hm59_19, hm59_22, hm59_23, hm59_25, hm59_28, hm59_29, hc_on_some, hc_get, hc_put, hc_ri, hc_rl, hc_is, hc_row, hc_wr, hc_mov, hc_smi, hc_sml, hc_fv, hc_ld, hc_kd, hc_sto, hc_pre, hc_two, hc_inc, hc_psh, hc_kp, hc_k1, hc_np, hc_bk_rf, hc_bk_gA, hc_set_ap, hc_set_set, Value.category, List.getElem?_cons_zero, List.getElem?_cons_succ, List.set_cons_zero, List.set_cons_succ, List.length_cons, List.length_nil, List.map_cons, List.map_nil, reduceIte, Nat.reduceAdd, Nat.reduceSub, Nat.reduceBEq, Nat.reduceEqDiff, Nat.reduceLeDiff, Nat.reduceLT, true_and, and_true, Bool.false_eq_true, reduceCtorEq, if_true, if_false, hc_xx, hc_ofNat, hc_10, not_true_eq_false, not_false_eq_true, ge_iff_le, sp_isin, if_pos c1, if_pos c2, c4, o10]
          exact g
      · have g := go (fun q => c3 q.1)
        simp only [hm59_0, hm59_1, hm59_2, hm59_5, hm59_8, hm59_9, hm59_11, hm59_14, hm59_17, hm59_18, hm59_19, hm59_22, hm59_23, hm59_25, hm59_28, hm59_29, hc_on_some, hc_get, hc_put, hc_ri, hc_rl, hc_is, hc_row, hc_wr, hc_mov, hc_smi, hc_sml, hc_fv, hc_ld, hc_kd, hc_sto, hc_pre, hc_two, hc_inc, hc_psh, hc_kp, hc_k1, hc_np, hc_bk_rf, hc_bk_gA, hc_set_ap, hc_set_set, Value.category, List.getElem?_cons_zero, List.getElem?_cons_succ, List.set_cons_zero, List.set_cons_succ, List.length_cons, List.length_nil, List.map_cons, List.map_nil, reduceIte, Nat.reduceAdd, Nat.reduceSub, Nat.reduceBEq, Nat.reduceEqDiff, Nat.reduceLeDiff, Nat.reduceLT, true_and, and_true, Bool.false_eq_true, reduceCtorEq, if_true, if_false, hc_xx, hc_ofNat, hc_10, not_true_eq_false, not_false_eq_true, ge_iff_le, sp_isin, if_pos c1, if_pos c2, c3, o10]
        exact g
    · have M := K1 (fun q => c2 q.2.1)
      simp only [hm59_0, hm59_1, hm59_2, hm59_5, hm59_8, hm59_9, hm59_11, hm59_14, hm59_17, hm59_18, hm59_19, hm59_22, hm59_23, hm59_25, hm59_28, hm59_29, hc_on_some, hc_get, hc_put, hc_ri, hc_rl, hc_is, hc_row, hc_wr, hc_mov, hc_smi, hc_sml, hc_fv, hc_ld, hc_kd, hc_sto, hc_pre, hc_two, hc_inc, hc_psh, hc_kp, hc_k1, hc_np, hc_bk_rf, hc_bk_gA, hc_set_ap, hc_set_set, Value.category, List.getElem?_cons_zero, List.getElem?_cons_succ, List.set_cons_zero, List.set_cons_succ, List.length_cons, List.length_nil, List.map_cons, List.map_nil, reduceIte, Nat.reduceAdd, Nat.reduceSub, Nat.reduceBEq, Nat.reduceEqDiff, Nat.reduceLeDiff, Nat.reduceLT, true_and, and_true, Bool.false_eq_true, reduceCtorEq, if_true, if_false, hc_xx, hc_ofNat, hc_10, not_true_eq_false, not_false_eq_true, ge_iff_le, sp_isin, if_pos c1, if_neg c2, o10]
      exact M
  · have M := K1 (fun q => c1 q.1)
    simp only [hm59_0, hm59_1, hm59_2, hm59_5, hm59_8, hm59_9, hm59_11, hm59_14, hm59_17, hm59_18, hm59_19, hm59_22, hm59_23, hm59_25, hm59_28, hm59_29, hc_on_some, hc_get, hc_put, hc_ri, hc_rl, hc_is, hc_row, hc_wr, hc_mov, hc_smi, hc_sml, hc_fv, hc_ld, hc_kd, hc_sto, hc_pre, hc_two, hc_inc, hc_psh, hc_kp, hc_k1, hc_np, hc_bk_rf, hc_bk_gA, hc_set_ap, hc_set_set, Value.category, List.getElem?_cons_zero, List.getElem?_cons_succ, List.set_cons_zero, List.set_cons_succ, List.length_cons, List.length_nil, List.map_cons, List.map_nil, reduceIte, Nat.reduceAdd, Nat.reduceSub, Nat.reduceBEq, Nat.reduceEqDiff, Nat.reduceLeDiff, Nat.reduceLT, true_and, and_true, Bool.false_eq_true, reduceCtorEq, if_true, if_false, hc_xx, hc_ofNat, hc_10, not_true_eq_false, not_false_eq_true, ge_iff_le, sp_isin, if_neg c1]
    exact M
theorem sp_mclear (hM : MOD σ S E P N Ws Ps) (K : ∀ σ', MOD σ' [] [] [] N Ws Ps → (∀ j, j < 30 ∨ 54 ≤ j → σ' j = σ j) → hc_cr G σ G σ' → Q G σ' none none) : hc_wp G σ none 61 0 [some (.inl (.ref 30))] [] Q := by
  have hM' := hM
  obtain ⟨h, p, w, b, h', p', w', b', ct, ft, q, hz, h30, hct, hTM, ⟨l31, ⟨o31, h31, i31⟩, x31⟩, ⟨l33, ⟨o33, h33, i33⟩, x33⟩, -⟩ := hM'
  have hq := i31
  obtain ⟨c1, f1, rfl, -⟩ := hq
  simp only [hm61_0, hm61_1, hm61_4, hc_on_some, hc_get, hc_put, hc_ri, hc_rl, hc_is, hc_row, hc_wr, hc_mov, hc_smi, hc_sml, hc_fv, hc_ld, hc_kd, hc_sto, hc_pre, hc_two, hc_inc, hc_psh, hc_kp, hc_k1, hc_np, hc_bk_rf, hc_bk_gA, hc_set_ap, hc_set_set, Value.category, List.getElem?_cons_zero, List.getElem?_cons_succ, List.set_cons_zero, List.set_cons_succ, List.length_cons, List.length_nil, List.map_cons, List.map_nil, reduceIte, Nat.reduceAdd, Nat.reduceSub, Nat.reduceBEq, Nat.reduceEqDiff, Nat.reduceLeDiff, Nat.reduceLT, true_and, and_true, Bool.false_eq_true, reduceCtorEq, if_true, if_false, hc_xx, hc_ofNat, hc_10, not_true_eq_false, not_false_eq_true, ge_iff_le, h30, h31, oIn]
  refine sp_iclr h31 i31 (by decide) fun o1 j1 cr1 => ?_
  dsimp only
  rw [hc_bk_np rfl rfl]
  have M1 := hM.s31 (S' := []) (E' := []) j1 ⟨rfl, fun i hi => by simp at hi⟩
  have n33 : hc_set σ 31 o1 33 = some o33 := by rw [hc_set_ne _ _ (by decide)]; exact h33
  have hq := i33
  obtain ⟨c2, f2, rfl, -⟩ := hq
  simp only [hm61_7, hm61_8, hm61_11, hc_on_some, hc_get, hc_put, hc_ri, hc_rl, hc_is, hc_row, hc_wr, hc_mov, hc_smi, hc_sml, hc_fv, hc_ld, hc_kd, hc_sto, hc_pre, hc_two, hc_inc, hc_psh, hc_kp, hc_k1, hc_np, hc_bk_rf, hc_bk_gA, hc_set_ap, hc_set_set, Value.category, List.getElem?_cons_zero, List.getElem?_cons_succ, List.set_cons_zero, List.set_cons_succ, List.length_cons, List.length_nil, List.map_cons, List.map_nil, reduceIte, Nat.reduceAdd, Nat.reduceSub, Nat.reduceBEq, Nat.reduceEqDiff, Nat.reduceLeDiff, Nat.reduceLT, true_and, and_true, Bool.false_eq_true, reduceCtorEq, if_true, if_false, hc_xx, hc_ofNat, hc_10, not_true_eq_false, not_false_eq_true, ge_iff_le, h30, h33, oIn]
  refine sp_iclr n33 i33 (by decide) fun o2 j2 cr2 => ?_
  dsimp only
  rw [hc_bk_np rfl rfl]
  have M2 := M1.s33 (P' := []) j2 ⟨rfl, fun i hi => by simp at hi⟩
  have M := K _ M2 (fun j hj => by rw [hc_set_ne _ _ (by omega), hc_set_ne _ _ (by omega)]) (cr1.tr cr2)
  simp only [hm61_14, hc_on_some, hc_get, hc_put, hc_ri, hc_rl, hc_is, hc_row, hc_wr, hc_mov, hc_smi, hc_sml, hc_fv, hc_ld, hc_kd, hc_sto, hc_pre, hc_two, hc_inc, hc_psh, hc_kp, hc_k1, hc_np, hc_bk_rf, hc_bk_gA, hc_set_ap, hc_set_set, Value.category, List.getElem?_cons_zero, List.getElem?_cons_succ, List.set_cons_zero, List.set_cons_succ, List.length_cons, List.length_nil, List.map_cons, List.map_nil, reduceIte, Nat.reduceAdd, Nat.reduceSub, Nat.reduceBEq, Nat.reduceEqDiff, Nat.reduceLeDiff, Nat.reduceLT, true_and, and_true, Bool.false_eq_true, reduceCtorEq, if_true, if_false, hc_xx, hc_ofNat, hc_10, not_true_eq_false, not_false_eq_true, ge_iff_le]
  exact M
theorem sp_mnodes (hM : MOD σ S E P N Ws Ps) (K : Q G σ t (some (.inl (.int (nI N.length))))) : hc_wp G σ t 77 0 [some (.inl (.ref 30))] [] Q := by
  obtain ⟨h, p, w, b, h', p', w', b', ct, ft, q, hz, h30, hct, hTM, -, -, ⟨o, mh, c, f, rfl, -⟩, -⟩ := hM
  have e : (kN N).length = N.length := List.length_map _
  simp only [hma77, hc_on_some, hc_get, hc_put, hc_ri, hc_rl, hc_is, hc_row, hc_wr, hc_mov, hc_smi, hc_sml, hc_fv, hc_ld, hc_kd, hc_sto, hc_pre, hc_two, hc_inc, hc_psh, hc_kp, hc_k1, hc_np, hc_bk_rf, hc_bk_gA, hc_set_ap, hc_set_set, Value.category, List.getElem?_cons_zero, List.getElem?_cons_succ, List.set_cons_zero, List.set_cons_succ, List.length_cons, List.length_nil, List.map_cons, List.map_nil, reduceIte, Nat.reduceAdd, Nat.reduceSub, Nat.reduceBEq, Nat.reduceEqDiff, Nat.reduceLeDiff, Nat.reduceLT, true_and, and_true, Bool.false_eq_true, reduceCtorEq, if_true, if_false, hc_xx, hc_ofNat, hc_10, not_true_eq_false, not_false_eq_true, ge_iff_le, h30, mh, oMp, e]
  exact K
theorem sp_mnpieces (hM : MOD σ S E P N Ws Ps) (K : Q G σ t (some (.inl (.int (nI Ps.length))))) : hc_wp G σ t 80 0 [some (.inl (.ref 30))] [] Q := by
  obtain ⟨h, p, w, b, h', p', w', b', ct, ft, q, hz, h30, hct, hTM, -, -, -, ⟨o, mp, c, f, rfl, -⟩, -⟩ := hM
  have e : (kP Ps).length = Ps.length := List.length_map _
  simp only [hma80, hc_on_some, hc_get, hc_put, hc_ri, hc_rl, hc_is, hc_row, hc_wr, hc_mov, hc_smi, hc_sml, hc_fv, hc_ld, hc_kd, hc_sto, hc_pre, hc_two, hc_inc, hc_psh, hc_kp, hc_k1, hc_np, hc_bk_rf, hc_bk_gA, hc_set_ap, hc_set_set, Value.category, List.getElem?_cons_zero, List.getElem?_cons_succ, List.set_cons_zero, List.set_cons_succ, List.length_cons, List.length_nil, List.map_cons, List.map_nil, reduceIte, Nat.reduceAdd, Nat.reduceSub, Nat.reduceBEq, Nat.reduceEqDiff, Nat.reduceLeDiff, Nat.reduceLT, true_and, and_true, Bool.false_eq_true, reduceCtorEq, if_true, if_false, hc_xx, hc_ofNat, hc_10, not_true_eq_false, not_false_eq_true, ge_iff_le, h30, mp, oMp, e]
  exact K
theorem bg_step {l : List Int} {j : Nat} (h : l.length = Ws.length + 1 ∧ ∀ i, i ≤ Ws.length → l[i]? = some ((Ws.take i).flatten.length : Int)) (hj : j < Ws.length) : l[j]? = some ((Ws.take j).flatten.length : Int) ∧ l[j + 1]? = some (((Ws.take j).flatten.length + (Ws[j]?.getD []).length : Nat) : Int) := by
  refine ⟨h.2 j (by omega), ?_⟩
  rw [h.2 (j + 1) (by omega), List.take_succ, List.getElem?_eq_getElem hj, List.flatten_append, List.length_append]
  simp only [Option.toList_some, List.flatten_cons, List.flatten_nil, List.append_nil, Option.getD_some]
theorem take_le (Ws : List (List Nat)) {j : Nat} (hj : j < Ws.length) : (Ws.take j).flatten.length + (Ws[j]?.getD []).length ≤ Ws.flatten.length := by
  by_cases hz : (Ws[j]?.getD []).length = 0
  · rw [hz, Nat.add_zero]
    have h1 := List.take_append_drop j Ws
    have h5 : (Ws.take j).flatten.length + (Ws.drop j).flatten.length = Ws.flatten.length := by
      rw [← List.length_append, ← List.flatten_append, h1]
    omega
  · have := (List.getElem?_eq_some_iff.mp (flat_at (Ws := Ws) (i := (Ws[j]?.getD []).length - 1) hj (by omega))).1
    omega
theorem sp_mway (hM : MOD σ S E P N Ws Ps) (hW5 : Ws.length ≤ 512) {e : Int32} (K : ∀ v, AW Ws e v → Q G σ t (some (.inl (.int v)))) : hc_wp G σ t 82 0 [some (.inl (.ref 30)), some (.inl (.int e))] [] Q := by
  obtain ⟨h, p, w, b, h', p', w', b', ct, ft, q, hz, h30, hct, hTM, -, -, -, -, ⟨ow, mw, cw, fw, rfl, w1, w2, w3, w4⟩, ⟨lb, ⟨ob, mb, cb, fb, rfl, b1, b2, b3, b4⟩, xb⟩, -⟩ := hM
  rw [List.length_map] at w1
  by_cases g3 : e < 0
  · simp only [hma82, hc_on_some, hc_get, hc_put, hc_ri, hc_rl, hc_is, hc_row, hc_wr, hc_mov, hc_smi, hc_sml, hc_fv, hc_ld, hc_kd, hc_sto, hc_pre, hc_two, hc_inc, hc_psh, hc_kp, hc_k1, hc_np, hc_bk_rf, hc_bk_gA, hc_set_ap, hc_set_set, Value.category, List.getElem?_cons_zero, List.getElem?_cons_succ, List.set_cons_zero, List.set_cons_succ, List.length_cons, List.length_nil, List.map_cons, List.map_nil, reduceIte, Nat.reduceAdd, Nat.reduceSub, Nat.reduceBEq, Nat.reduceEqDiff, Nat.reduceLeDiff, Nat.reduceLT, true_and, and_true, Bool.false_eq_true, reduceCtorEq, if_true, if_false, hc_xx, hc_ofNat, hc_10, not_true_eq_false, not_false_eq_true, ge_iff_le, g3]
    exact K _ (Or.inr ⟨Or.inl g3, rfl⟩)
  rcases xb with ⟨rfl, rfl⟩ | xb
  · have e1 : (nI 0 - 1) ≤ e := by
      have : nI 0 - 1 = -1 := by decide
      rw [this, Int32.le_iff_toInt_le]
      have l0 : (0 : Int32).toInt = 0 := rfl
      have l1 : (-1 : Int32).toInt = -1 := rfl
      have := mt Int32.lt_iff_toInt_lt.mpr g3
      omega
    simp only [hma82, hc_on_some, hc_get, hc_put, hc_ri, hc_rl, hc_is, hc_row, hc_wr, hc_mov, hc_smi, hc_sml, hc_fv, hc_ld, hc_kd, hc_sto, hc_pre, hc_two, hc_inc, hc_psh, hc_kp, hc_k1, hc_np, hc_bk_rf, hc_bk_gA, hc_set_ap, hc_set_set, Value.category, List.getElem?_cons_zero, List.getElem?_cons_succ, List.set_cons_zero, List.set_cons_succ, List.length_cons, List.length_nil, List.map_cons, List.map_nil, reduceIte, Nat.reduceAdd, Nat.reduceSub, Nat.reduceBEq, Nat.reduceEqDiff, Nat.reduceLeDiff, Nat.reduceLT, true_and, and_true, Bool.false_eq_true, reduceCtorEq, if_true, if_false, hc_xx, hc_ofNat, hc_10, not_true_eq_false, not_false_eq_true, ge_iff_le, g3, h30, mb, oIn, e1]
    refine K _ (Or.inr ⟨Or.inr ?_, rfl⟩)
    show nI 0 ≤ e
    rw [nI_0, ← Int32.not_lt]
    exact g3
  · have e0 : nI lb.length - 1 = nI Ws.length := by
      rw [xb.1]
      exact nI_pred _
    rcases pk_ix e (show Ws.length < 2 ^ 31 by omega) with g | g | ⟨j, hj, rfl⟩
    · exact absurd g g3
    · simp only [hma82, hc_on_some, hc_get, hc_put, hc_ri, hc_rl, hc_is, hc_row, hc_wr, hc_mov, hc_smi, hc_sml, hc_fv, hc_ld, hc_kd, hc_sto, hc_pre, hc_two, hc_inc, hc_psh, hc_kp, hc_k1, hc_np, hc_bk_rf, hc_bk_gA, hc_set_ap, hc_set_set, Value.category, List.getElem?_cons_zero, List.getElem?_cons_succ, List.set_cons_zero, List.set_cons_succ, List.length_cons, List.length_nil, List.map_cons, List.map_nil, reduceIte, Nat.reduceAdd, Nat.reduceSub, Nat.reduceBEq, Nat.reduceEqDiff, Nat.reduceLeDiff, Nat.reduceLT, true_and, and_true, Bool.false_eq_true, reduceCtorEq, if_true, if_false, hc_xx, hc_ofNat, hc_10, not_true_eq_false, not_false_eq_true, ge_iff_le, g3, h30, mb, oIn, e0, g]
      exact K _ (Or.inr ⟨Or.inr g, rfl⟩)
    · have g2 : ¬ nI Ws.length ≤ nI j := nI_ge hj (by omega)
      have i1 : hc_inn (nI (j + 1)) cb := inn_nI (by omega) (by omega)
      have i2 : hc_inn (nI j) cb := inn_nI (by omega) (by omega)
      have k1 : (nI (j + 1)).toNatClampNeg = j + 1 := nI_clamp (by omega)
      have k2 : (nI j).toNatClampNeg = j := nI_clamp (by omega)
      obtain ⟨s1, s2⟩ := bg_step xb hj
      have tl := take_le Ws hj
      have v1 := CI_nI b4 s1 (by omega)
      have v2 := CI_nI b4 s2 (by omega)
      have es : nI ((Ws.take j).flatten.length + (Ws[j]?.getD []).length) - nI (Ws.take j).flatten.length = nI (Ws[j]?.getD []).length := by
        rw [pk_sub (by omega)]
        congr 1
        omega
      simp only [hma82, hc_on_some, hc_get, hc_put, hc_ri, hc_rl, hc_is, hc_row, hc_wr, hc_mov, hc_smi, hc_sml, hc_fv, hc_ld, hc_kd, hc_sto, hc_pre, hc_two, hc_inc, hc_psh, hc_kp, hc_k1, hc_np, hc_bk_rf, hc_bk_gA, hc_set_ap, hc_set_set, Value.category, List.getElem?_cons_zero, List.getElem?_cons_succ, List.set_cons_zero, List.set_cons_succ, List.length_cons, List.length_nil, List.map_cons, List.map_nil, reduceIte, Nat.reduceAdd, Nat.reduceSub, Nat.reduceBEq, Nat.reduceEqDiff, Nat.reduceLeDiff, Nat.reduceLT, true_and, and_true, Bool.false_eq_true, reduceCtorEq, if_true, if_false, hc_xx, hc_ofNat, hc_10, not_true_eq_false, not_false_eq_true, ge_iff_le, g3, h30, mb, oIn, e0, g2, nI_1, i1, i2, k1, k2, v1, v2, es]
      exact K _ (Or.inl ⟨j, hj, rfl, rfl⟩)
end S68
