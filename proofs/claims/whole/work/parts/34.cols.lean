/-! turnColumns: columns turned round -/
abbrev colR (N : List (Int × Int)) (p q : Nat) : Prop := (nd N p).1 < (nd N q).1 ∨ ((nd N p).1 = (nd N q).1 ∧ (nd N q).2 < (nd N p).2)
abbrev pltN (N : List (Int × Int)) (p q : Nat) : Prop := plt (nd N p) (nd N q)
theorem CW.turn {f f' : Nat → Int32} {A R T : List Nat} (h : CW f (A ++ R ++ T)) (hf : ∀ j, f' j = if A.length ≤ j ∧ j < A.length + R.length then f (A.length + (A.length + R.length) - 1 - j) else f j) : CW f' (A ++ R.reverse ++ T) := by
  apply CW.of
  intro j hj
  simp only [List.length_append, List.length_reverse] at hj
  have hj' : j < (A ++ R ++ T).length := by
    simp only [List.length_append]
    exact hj
  rw [hf j]
  by_cases c : A.length ≤ j ∧ j < A.length + R.length
  · rw [if_pos c, h.at (i := A.length + (A.length + R.length) - 1 - j) (by simp only [List.length_append]; omega)]
    congr 1
    rw [List.getElem_append_left (by simp only [List.length_append]; omega), List.getElem_append_right (by omega)]
    rw [List.getElem_append_left (by simp only [List.length_append, List.length_reverse]; omega), List.getElem_append_right (by omega), List.getElem_reverse]
    congr 1
    omega
  · rw [if_neg c, h.at hj']
    congr 1
    by_cases c2 : j < A.length
    · rw [List.getElem_append_left (by simp only [List.length_append]; omega), List.getElem_append_left c2, List.getElem_append_left (by simp only [List.length_append]; omega), List.getElem_append_left c2]
    · rw [List.getElem_append_right (by simp only [List.length_append]; omega), List.getElem_append_right (by simp only [List.length_append, List.length_reverse]; omega)]
      congr 1
      simp only [List.length_append, List.length_reverse]
section S34
variable {G : hc_G} {σ : hc_H} {t : hc_T} {Q : hc_Q}
theorem sp_cols_loop {k kh wc cr : Nat} {rf : hc_R} {rs : List hc_F} {N : List (Int × Int)} {oh : hc_O} {A B : List Nat} {o0 : hc_O} (q1 : k ≠ kh) (q3 : k < 60) (h : σ k = some o0) (hpo : ∀ wl fr', hc_po (some o0) = hc_po (some (oLy kh wc wl rf (cr, .inl fr') rs))) (hh : σ kh = some oh) (hH : PLo oh N N.length) (hN : N.length ≤ 6000) (hc : cr ≤ 50000)
    (K : ∀ fr' B', CW fr' (A ++ B') → B'.Perm B → B'.Pairwise (colR N) → hc_cr G σ G (hc_set σ k (oLy kh wc (A ++ B').length rf (cr, .inl fr') rs)) → Q G (hc_set σ k (oLy kh wc (A ++ B').length rf (cr, .inl fr') rs)) none none) :
    ∀ (T D' R' : List Nat) (r0 : Nat) (fr : Nat → Int32), CW fr (A ++ D' ++ (r0 :: R') ++ T) → (A ++ D' ++ (r0 :: R') ++ T).length ≤ cr → (∀ v ∈ (r0 :: R') ++ T, v < N.length) → (D' ++ (r0 :: R') ++ T).Perm B → D'.Pairwise (colR N) → ((r0 :: R') ++ T).Pairwise (pltN N) → (∀ r ∈ R', (nd N r).1 = (nd N r0).1) → (∀ d ∈ D', ∀ r ∈ (r0 :: R') ++ T, (nd N d).1 < (nd N r).1) →
    hc_wp G (hc_set σ k (oLy kh wc (A ++ D' ++ (r0 :: R') ++ T).length rf (cr, .inl fr) rs)) none 11 6 [some (.inl (.ref k)), some (.inl (.int (nI A.length))), some (.inl (.int (nI (A ++ D').length))), some (.inl (.int (nI (A ++ D' ++ (r0 :: R')).length)))] [] Q := by
  have hH' := hH
  obtain ⟨cx, fx, cy, fy, rfl, h1, h2, h3, h4, h5, h6, h7, h8⟩ := hH'
  have q1' : ¬ kh = k := Ne.symm q1
  have fin : ∀ (D' R : List Nat), D'.Pairwise (colR N) → R.Pairwise (pltN N) → (∀ r ∈ R, ∀ s ∈ R, (nd N r).1 = (nd N s).1) → (∀ d ∈ D', ∀ r ∈ R, (nd N d).1 < (nd N r).1) → (D' ++ R.reverse).Pairwise (colR N) := by
    intro D' R hD hR hs hc2
    rw [List.pairwise_append]
    refine ⟨hD, ?_, fun a ha b hb => Or.inl (hc2 a ha b (List.mem_reverse.mp hb))⟩
    rw [List.pairwise_reverse]
    refine (List.Pairwise.and_mem.mp hR).imp ?_
    rintro a b ⟨ha, hb, hab⟩
    have e := hs b hb a ha
    refine Or.inr ⟨e, ?_⟩
    unfold pltN plt at hab
    omega
  intro T
  induction T with
  | nil =>
    intro D' R' r0 fr hW hl hv hp hD hR hx hcr
    simp only [List.append_nil] at hW hl hv hp hR hx hcr ⊢
    have e3 : nI (A ++ D' ++ (r0 :: R')).length < nI ((A ++ D' ++ (r0 :: R')).length + 1) := nI_lt (by omega) (by omega)
    rw [hm11_6]
    simp only [hm11_7, hm11_8, hm11_11, hm11_14, hm11_15, hm11_16, hm11_19, hm11_22, hm11_23, hm11_26, hm11_29, hm11_30, hm11_33, hm11_34, hm11_35, hm11_36, hm11_37, hm11_40, hm11_43, hm11_44, hm11_47, hm11_48, hm11_49, hm11_50, hm11_53, hm11_54, hm11_55, hm11_56, hm11_59, hm11_60, hm11_61, hm11_64, hm11_67, hc_on_some, hc_get, hc_put, hc_ri, hc_rl, hc_is, hc_row, hc_wr, hc_mov, hc_smi, hc_sml, hc_fv, hc_ld, hc_kd, hc_sto, hc_pre, hc_two, hc_inc, hc_psh, hc_kp, hc_k1, hc_np, hc_bk_rf, hc_bk_gA, hc_set_ap, hc_set_set, Value.category, List.getElem?_cons_zero, List.getElem?_cons_succ, List.set_cons_zero, List.set_cons_succ, List.length_cons, List.length_nil, List.map_cons, List.map_nil, reduceIte, Nat.reduceAdd, Nat.reduceSub, Nat.reduceBEq, Nat.reduceEqDiff, Nat.reduceLeDiff, Nat.reduceLT, true_and, and_true, Bool.false_eq_true, reduceCtorEq, if_true, if_false, hc_xx, hc_ofNat, hc_10, not_true_eq_false, not_false_eq_true, ge_iff_le, Int32.lt_irrefl]
    refine sp_turnRow (hc_set_at _ _ _) hc (by simp only [List.length_append]; omega) hl q3 fun fr' hf hcr2 => ?_
    rw [hc_set_set] at hcr2 ⊢
    simp only [hm11_56, hm11_59, hm11_60, hm11_61, hm11_64, hm11_67, hc_on_some, hc_get, hc_put, hc_ri, hc_rl, hc_is, hc_row, hc_wr, hc_mov, hc_smi, hc_sml, hc_fv, hc_ld, hc_kd, hc_sto, hc_pre, hc_two, hc_inc, hc_psh, hc_kp, hc_k1, hc_np, hc_bk_rf, hc_bk_gA, hc_set_ap, hc_set_set, Value.category, List.getElem?_cons_zero, List.getElem?_cons_succ, List.set_cons_zero, List.set_cons_succ, List.length_cons, List.length_nil, List.map_cons, List.map_nil, reduceIte, Nat.reduceAdd, Nat.reduceSub, Nat.reduceBEq, Nat.reduceEqDiff, Nat.reduceLeDiff, Nat.reduceLT, true_and, and_true, Bool.false_eq_true, reduceCtorEq, if_true, if_false, hc_xx, hc_ofNat, hc_10, not_true_eq_false, not_false_eq_true, ge_iff_le, nI_1]
    rw [hm11_6]
    simp only [hm11_7, hm11_8, hm11_11, hm11_14, hm11_15, hm11_16, hm11_19, hm11_22, hm11_23, hm11_26, hm11_29, hm11_30, hm11_33, hm11_34, hm11_35, hm11_36, hm11_37, hm11_40, hm11_43, hm11_44, hm11_47, hm11_48, hm11_49, hm11_50, hm11_53, hm11_54, hm11_55, hm11_56, hm11_59, hm11_60, hm11_61, hm11_64, hm11_67, hc_on_some, hc_get, hc_put, hc_ri, hc_rl, hc_is, hc_row, hc_wr, hc_mov, hc_smi, hc_sml, hc_fv, hc_ld, hc_kd, hc_sto, hc_pre, hc_two, hc_inc, hc_psh, hc_kp, hc_k1, hc_np, hc_bk_rf, hc_bk_gA, hc_set_ap, hc_set_set, Value.category, List.getElem?_cons_zero, List.getElem?_cons_succ, List.set_cons_zero, List.set_cons_succ, List.length_cons, List.length_nil, List.map_cons, List.map_nil, reduceIte, Nat.reduceAdd, Nat.reduceSub, Nat.reduceBEq, Nat.reduceEqDiff, Nat.reduceLeDiff, Nat.reduceLT, true_and, and_true, Bool.false_eq_true, reduceCtorEq, if_true, if_false, hc_xx, hc_ofNat, hc_10, not_true_eq_false, not_false_eq_true, ge_iff_le, e3]
    have hf2 : ∀ j, fr' j = if (A ++ D').length ≤ j ∧ j < (A ++ D').length + (r0 :: R').length then fr ((A ++ D').length + ((A ++ D').length + (r0 :: R').length) - 1 - j) else fr j := by
      intro j
      have := hf j
      rw [List.length_append (as := A ++ D')] at this
      exact this
    have hT := CW.turn (T := []) (by rw [List.append_nil]; exact hW) hf2
    rw [List.append_nil, List.append_assoc] at hT
    have K2 := K fr' (D' ++ (r0 :: R').reverse) hT ((List.Perm.append_left D' (List.reverse_perm _)).trans hp) (fin D' (r0 :: R') hD hR (fun r hr s hs => by
      have a : ∀ r ∈ r0 :: R', (nd N r).1 = (nd N r0).1 := fun r hr => by
        rcases List.mem_cons.mp hr with e | e
        · rw [e]
        · exact hx r e
      rw [a r hr, a s hs]) hcr)
    have el : (A ++ (D' ++ (r0 :: R').reverse)).length = (A ++ D' ++ (r0 :: R')).length := by simp
    rw [el] at K2
    exact K2 (hc_cr.same q3 h (hpo _ _))
  | cons q T ih =>
    intro D' R' r0 fr hW hl hv hp hD hR hx hcr
    have len : (A ++ D' ++ (r0 :: R') ++ (q :: T)).length = (A ++ D' ++ (r0 :: R')).length + (T.length + 1) := by simp only [List.length_append, List.length_cons]
    have e1 : ¬ nI (A ++ D' ++ (r0 :: R') ++ (q :: T)).length < nI (A ++ D' ++ (r0 :: R')).length := nI_nlt (by omega) (by omega)
    have e2 : ¬ nI (A ++ D' ++ (r0 :: R')).length = nI (A ++ D' ++ (r0 :: R') ++ (q :: T)).length := by
      rw [nI_eq (by omega) (by omega)]
      omega
    have la : (A ++ D').length < (A ++ D' ++ (r0 :: R')).length := by
      simp only [List.length_append, List.length_cons]
      omega
    have i1 : hc_inn (nI (A ++ D' ++ (r0 :: R')).length) cr := inn_nI (by omega) (by omega)
    have i2 : hc_inn (nI (A ++ D').length) cr := inn_nI (by omega) (by omega)
    have c1 : (nI (A ++ D' ++ (r0 :: R')).length).toNatClampNeg = (A ++ D' ++ (r0 :: R')).length := nI_clamp (by omega)
    have c2 : (nI (A ++ D').length).toNatClampNeg = (A ++ D').length := nI_clamp (by omega)
    have v1 : fr (A ++ D' ++ (r0 :: R')).length = nI q := hW _ q (by rw [List.getElem?_append_right (Nat.le_refl _), Nat.sub_self]; rfl)
    have v2 : fr (A ++ D').length = nI r0 := hW _ r0 (by rw [List.append_assoc (A ++ D'), List.getElem?_append_right (Nat.le_refl _), Nat.sub_self]; rfl)
    have bq : q < N.length := hv q (List.mem_append_right _ (List.mem_cons_self))
    have br : r0 < N.length := hv r0 (List.mem_append_left _ (List.mem_cons_self))
    have i3 : hc_inn (nI q) cx := inn_nI (by omega) (by omega)
    have i4 : hc_inn (nI r0) cx := inn_nI (by omega) (by omega)
    have c3 : (nI q).toNatClampNeg = q := nI_clamp (by omega)
    have c4 : (nI r0).toNatClampNeg = r0 := nI_clamp (by omega)
    have nx : ∀ j, j < N.length → (fx j).toInt = (nd N j).1 := fun j hj => by
      have : (fx j).toInt = N[j].1 := h7 j _ (by rw [List.getElem?_map, List.getElem?_eq_getElem hj]; rfl)
      rw [this]
      show _ = (N[j]?.getD (0, 0)).1
      rw [List.getElem?_eq_getElem hj]
      rfl
    rw [hm11_6]
    by_cases c : fx q = fx r0
    · have assoc : A ++ D' ++ (r0 :: R') ++ (q :: T) = A ++ D' ++ (r0 :: (R' ++ [q])) ++ T := by simp
      have assoc2 : (r0 :: R') ++ (q :: T) = (r0 :: (R' ++ [q])) ++ T := by simp
      have assoc3 : D' ++ (r0 :: R') ++ (q :: T) = D' ++ (r0 :: (R' ++ [q])) ++ T := by simp
      have I := ih D' (R' ++ [q]) r0 fr (by rw [← assoc]; exact hW) (by rw [← assoc]; exact hl) (by rw [← assoc2]; exact hv) (by rw [← assoc3]; exact hp) hD (by rw [← assoc2]; exact hR) (fun r hr => by
        rcases List.mem_append.mp hr with e | e
        · exact hx r e
        · rw [List.mem_singleton.mp e, ← nx q bq, ← nx r0 br, c]) (by rw [← assoc2]; exact hcr)
      rw [← assoc] at I
      have l2 : (A ++ D' ++ (r0 :: (R' ++ [q]))).length = (A ++ D' ++ (r0 :: R')).length + 1 := by
        simp only [List.length_append, List.length_cons, List.length_nil]
        omega
      rw [l2] at I
      simp only [hm11_7, hm11_8, hm11_11, hm11_14, hm11_15, hm11_16, hm11_19, hm11_22, hm11_23, hm11_26, hm11_29, hm11_30, hm11_33, hm11_34, hm11_35, hm11_36, hm11_37, hm11_40, hm11_43, hm11_44, hm11_47, hm11_48, hm11_49, hm11_50, hm11_53, hm11_54, hm11_55, hm11_56, hm11_59, hm11_60, hm11_61, hm11_64, hm11_67, hc_on_some, hc_get, hc_put, hc_ri, hc_rl, hc_is, hc_row, hc_wr, hc_mov, hc_smi, hc_sml, hc_fv, hc_ld, hc_kd, hc_sto, hc_pre, hc_two, hc_inc, hc_psh, hc_kp, hc_k1, hc_np, hc_bk_rf, hc_bk_gA, hc_set_ap, hc_set_set, Value.category, List.getElem?_cons_zero, List.getElem?_cons_succ, List.set_cons_zero, List.set_cons_succ, List.length_cons, List.length_nil, List.map_cons, List.map_nil, reduceIte, Nat.reduceAdd, Nat.reduceSub, Nat.reduceBEq, Nat.reduceEqDiff, Nat.reduceLeDiff, Nat.reduceLT, true_and, and_true, Bool.false_eq_true, reduceCtorEq, if_true, if_false, hc_xx, hc_ofNat, hc_10, not_true_eq_false, not_false_eq_true, ge_iff_le, q1', hh, e1, e2, i1, i2, c1, c2, v1, v2, i3, i4, c3, c4, c, nI_1]
      exact I
    · have c' : ¬ (nd N q).1 = (nd N r0).1 := fun e => c (Int32.toInt_inj.mp (by rw [nx q bq, nx r0 br, e]))
      have hRp := List.pairwise_append.mp hR
      have hx0 : ∀ r ∈ r0 :: R', (nd N r).1 = (nd N r0).1 := fun r hr => by
        rcases List.mem_cons.mp hr with e | e
        · rw [e]
        · exact hx r e
      have hlt : (nd N r0).1 < (nd N q).1 := by
        have := hRp.2.2 r0 List.mem_cons_self q List.mem_cons_self
        unfold pltN plt at this
        omega
      simp only [hm11_7, hm11_8, hm11_11, hm11_14, hm11_15, hm11_16, hm11_19, hm11_22, hm11_23, hm11_26, hm11_29, hm11_30, hm11_33, hm11_34, hm11_35, hm11_36, hm11_37, hm11_40, hm11_43, hm11_44, hm11_47, hm11_48, hm11_49, hm11_50, hm11_53, hm11_54, hm11_55, hm11_56, hm11_59, hm11_60, hm11_61, hm11_64, hm11_67, hc_on_some, hc_get, hc_put, hc_ri, hc_rl, hc_is, hc_row, hc_wr, hc_mov, hc_smi, hc_sml, hc_fv, hc_ld, hc_kd, hc_sto, hc_pre, hc_two, hc_inc, hc_psh, hc_kp, hc_k1, hc_np, hc_bk_rf, hc_bk_gA, hc_set_ap, hc_set_set, Value.category, List.getElem?_cons_zero, List.getElem?_cons_succ, List.set_cons_zero, List.set_cons_succ, List.length_cons, List.length_nil, List.map_cons, List.map_nil, reduceIte, Nat.reduceAdd, Nat.reduceSub, Nat.reduceBEq, Nat.reduceEqDiff, Nat.reduceLeDiff, Nat.reduceLT, true_and, and_true, Bool.false_eq_true, reduceCtorEq, if_true, if_false, hc_xx, hc_ofNat, hc_10, not_true_eq_false, not_false_eq_true, ge_iff_le, q1', hh, e1, e2, i1, i2, c1, c2, v1, v2, i3, i4, c3, c4, c]
      refine sp_turnRow (hc_set_at _ _ _) hc (by omega) (by omega) q3 fun fr' hf hcr2 => ?_
      rw [hc_set_set] at hcr2 ⊢
      simp only [hm11_56, hm11_59, hm11_60, hm11_61, hm11_64, hm11_67, hc_on_some, hc_get, hc_put, hc_ri, hc_rl, hc_is, hc_row, hc_wr, hc_mov, hc_smi, hc_sml, hc_fv, hc_ld, hc_kd, hc_sto, hc_pre, hc_two, hc_inc, hc_psh, hc_kp, hc_k1, hc_np, hc_bk_rf, hc_bk_gA, hc_set_ap, hc_set_set, Value.category, List.getElem?_cons_zero, List.getElem?_cons_succ, List.set_cons_zero, List.set_cons_succ, List.length_cons, List.length_nil, List.map_cons, List.map_nil, reduceIte, Nat.reduceAdd, Nat.reduceSub, Nat.reduceBEq, Nat.reduceEqDiff, Nat.reduceLeDiff, Nat.reduceLT, true_and, and_true, Bool.false_eq_true, reduceCtorEq, if_true, if_false, hc_xx, hc_ofNat, hc_10, not_true_eq_false, not_false_eq_true, ge_iff_le, nI_1]
      have hf2 : ∀ j, fr' j = if (A ++ D').length ≤ j ∧ j < (A ++ D').length + (r0 :: R').length then fr ((A ++ D').length + ((A ++ D').length + (r0 :: R').length) - 1 - j) else fr j := by
        intro j
        have := hf j
        rw [List.length_append (as := A ++ D')] at this
        exact this
      have hT := CW.turn hW hf2
      have assoc : A ++ D' ++ (r0 :: R').reverse ++ (q :: T) = A ++ (D' ++ (r0 :: R').reverse) ++ [q] ++ T := by simp
      have lene : (A ++ (D' ++ (r0 :: R').reverse) ++ [q] ++ T).length = (A ++ D' ++ (r0 :: R') ++ (q :: T)).length := by
        rw [← assoc]
        simp only [List.length_append, List.length_reverse]
      rw [assoc] at hT
      have I := ih (D' ++ (r0 :: R').reverse) [] q fr' hT (by rw [lene]; exact hl) (fun v hv2 => hv v (List.mem_append_right _ (by simpa using hv2))) (by
        have : D' ++ (r0 :: R').reverse ++ [q] ++ T = D' ++ (r0 :: R').reverse ++ (q :: T) := by simp
        rw [this]
        exact (List.Perm.append_right _ (List.Perm.append_left D' (List.reverse_perm _))).trans hp) (fin D' (r0 :: R') hD hRp.1 (fun r hr s hs => by rw [hx0 r hr, hx0 s hs]) (fun d hd r hr => hcr d hd r (List.mem_append_left _ hr))) (by simpa using hRp.2.1) (fun r hr => by cases hr) (fun d hd r hr => by
        have hr' : r ∈ q :: T := by simpa using hr
        rcases List.mem_append.mp hd with e | e
        · exact hcr d e r (List.mem_append_right _ hr')
        · have e2 := hx0 d (List.mem_reverse.mp e)
          rw [e2]
          rcases List.mem_cons.mp hr' with e3 | e3
          · rw [e3]
            exact hlt
          · have := (List.pairwise_cons.mp hRp.2.1).1 r e3
            unfold pltN plt at this
            omega)
      rw [lene] at I
      have l2 : (A ++ (D' ++ (r0 :: R').reverse)).length = (A ++ D' ++ (r0 :: R')).length := by simp
      have l3 : (A ++ (D' ++ (r0 :: R').reverse) ++ [q]).length = (A ++ D' ++ (r0 :: R')).length + 1 := by
        simp only [List.length_append, List.length_reverse, List.length_cons, List.length_nil]
        omega
      rw [l2, l3] at I
      exact I
theorem sp_cols {k kh wc cr : Nat} {rf : hc_R} {rs : List hc_F} {N : List (Int × Int)} {oh : hc_O} {A B : List Nat} {fr : Nat → Int32} (q1 : k ≠ kh) (q3 : k < 60) (h : σ k = some (oLy kh wc (A ++ B).length rf (cr, .inl fr) rs)) (hW : CW fr (A ++ B)) (hl : (A ++ B).length ≤ cr) (hh : σ kh = some oh) (hH : PLo oh N N.length) (hN : N.length ≤ 6000) (hc : cr ≤ 50000) (hv : ∀ v ∈ B, v < N.length) (hB : B.Pairwise (pltN N))
    (K : ∀ fr' B', CW fr' (A ++ B') → B'.Perm B → B'.Pairwise (colR N) → hc_cr G σ G (hc_set σ k (oLy kh wc (A ++ B').length rf (cr, .inl fr') rs)) → Q G (hc_set σ k (oLy kh wc (A ++ B').length rf (cr, .inl fr') rs)) none none) :
    hc_wp G σ none 11 0 [some (.inl (.ref k)), some (.inl (.int (nI A.length))), none, none] [] Q := by
  cases B with
  | nil =>
    have K2 := K fr [] hW (List.Perm.refl _) List.Pairwise.nil (hc_cr.same q3 h rfl)
    rw [hc_set_id' h] at K2
    have e3 : nI (A ++ ([] : List Nat)).length < nI (A.length + 1) := nI_lt (by simp only [List.append_nil]; omega) (by simp only [List.append_nil] at hl; omega)
    simp only [hm11_0, hm11_1, hm11_2, hm11_3, hm11_4, hm11_5, hc_on_some, hc_get, hc_put, hc_ri, hc_rl, hc_is, hc_row, hc_wr, hc_mov, hc_smi, hc_sml, hc_fv, hc_ld, hc_kd, hc_sto, hc_pre, hc_two, hc_inc, hc_psh, hc_kp, hc_k1, hc_np, hc_bk_rf, hc_bk_gA, hc_set_ap, hc_set_set, Value.category, List.getElem?_cons_zero, List.getElem?_cons_succ, List.set_cons_zero, List.set_cons_succ, List.length_cons, List.length_nil, List.map_cons, List.map_nil, reduceIte, Nat.reduceAdd, Nat.reduceSub, Nat.reduceBEq, Nat.reduceEqDiff, Nat.reduceLeDiff, Nat.reduceLT, true_and, and_true, Bool.false_eq_true, reduceCtorEq, if_true, if_false, hc_xx, hc_ofNat, hc_10, not_true_eq_false, not_false_eq_true, ge_iff_le, nI_1]
    rw [hm11_6]
    simp only [hm11_7, hm11_8, hm11_11, hm11_14, hm11_15, hm11_16, hm11_19, hm11_22, hm11_23, hm11_26, hm11_29, hm11_30, hm11_33, hm11_34, hm11_35, hm11_36, hm11_37, hm11_40, hm11_43, hm11_44, hm11_47, hm11_48, hm11_49, hm11_50, hm11_53, hm11_54, hm11_55, hm11_56, hm11_59, hm11_60, hm11_61, hm11_64, hm11_67, hc_on_some, hc_get, hc_put, hc_ri, hc_rl, hc_is, hc_row, hc_wr, hc_mov, hc_smi, hc_sml, hc_fv, hc_ld, hc_kd, hc_sto, hc_pre, hc_two, hc_inc, hc_psh, hc_kp, hc_k1, hc_np, hc_bk_rf, hc_bk_gA, hc_set_ap, hc_set_set, Value.category, List.getElem?_cons_zero, List.getElem?_cons_succ, List.set_cons_zero, List.set_cons_succ, List.length_cons, List.length_nil, List.map_cons, List.map_nil, reduceIte, Nat.reduceAdd, Nat.reduceSub, Nat.reduceBEq, Nat.reduceEqDiff, Nat.reduceLeDiff, Nat.reduceLT, true_and, and_true, Bool.false_eq_true, reduceCtorEq, if_true, if_false, hc_xx, hc_ofNat, hc_10, not_true_eq_false, not_false_eq_true, ge_iff_le, h, e3]
    exact K2
  | cons r0 T =>
    have L := sp_cols_loop (Q := Q) (wc := wc) (rf := rf) (rs := rs) (A := A) (B := r0 :: T) q1 q3 h (fun _ _ => rfl) hh hH hN hc K T [] [] r0 fr (by simpa using hW) (by simpa using hl) hv (List.Perm.refl _) List.Pairwise.nil hB (fun r hr => by cases hr) (fun d hd => by cases hd)
    have e1 : A ++ [] ++ [r0] ++ T = A ++ (r0 :: T) := by simp
    have e2 : (A ++ [] ++ [r0]).length = A.length + 1 := by simp
    rw [e1, e2, List.append_nil, hc_set_id' h] at L
    simp only [hm11_0, hm11_1, hm11_2, hm11_3, hm11_4, hm11_5, hc_on_some, hc_get, hc_put, hc_ri, hc_rl, hc_is, hc_row, hc_wr, hc_mov, hc_smi, hc_sml, hc_fv, hc_ld, hc_kd, hc_sto, hc_pre, hc_two, hc_inc, hc_psh, hc_kp, hc_k1, hc_np, hc_bk_rf, hc_bk_gA, hc_set_ap, hc_set_set, Value.category, List.getElem?_cons_zero, List.getElem?_cons_succ, List.set_cons_zero, List.set_cons_succ, List.length_cons, List.length_nil, List.map_cons, List.map_nil, reduceIte, Nat.reduceAdd, Nat.reduceSub, Nat.reduceBEq, Nat.reduceEqDiff, Nat.reduceLeDiff, Nat.reduceLT, true_and, and_true, Bool.false_eq_true, reduceCtorEq, if_true, if_false, hc_xx, hc_ofNat, hc_10, not_true_eq_false, not_false_eq_true, ge_iff_le, nI_1]
    exact L
end S34
