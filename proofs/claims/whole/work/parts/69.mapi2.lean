/-! wayNode, node, find, piece of the reference -/
section S69
variable {G : hc_G} {σ : hc_H} {t : hc_T} {Q : hc_Q} {S E P N : List (Int × Int)} {Ws : List (List Nat)} {Ps : List (Int × Nat)}
theorem m1_neg : (-1 : Int32) < 0 := by decide
theorem sp_mwayNode (hM : MOD σ S E P N Ws Ps) (hW5 : Ws.length ≤ 512) (hv : ∀ v ∈ Ws.flatten, v < 6000) {e k : Int32} (K : ∀ v, AWN Ws e k v → Q G σ t (some (.inl (.int v)))) : hc_wp G σ t 83 0 [some (.inl (.ref 30)), some (.inl (.int e)), some (.inl (.int k))] [] Q := by
  have hM' := hM
  obtain ⟨h, p, w, b, h', p', w', b', ct, ft, q, hz, h30, hct, hTM, -, -, -, -, ⟨ow, mw, cw, fw, rfl, w1, w2, w3, w4⟩, ⟨lb, ⟨ob, mb, cb, fb, rfl, b1, b2, b3, b4⟩, xb⟩, -⟩ := hM'
  rw [List.length_map] at w1
  by_cases g3 : k < 0
  · simp only [hma83, hc_on_some, hc_get, hc_put, hc_ri, hc_rl, hc_is, hc_row, hc_wr, hc_mov, hc_smi, hc_sml, hc_fv, hc_ld, hc_kd, hc_sto, hc_pre, hc_two, hc_inc, hc_psh, hc_kp, hc_k1, hc_np, hc_bk_rf, hc_bk_gA, hc_set_ap, hc_set_set, Value.category, List.getElem?_cons_zero, List.getElem?_cons_succ, List.set_cons_zero, List.set_cons_succ, List.length_cons, List.length_nil, List.map_cons, List.map_nil, reduceIte, Nat.reduceAdd, Nat.reduceSub, Nat.reduceBEq, Nat.reduceEqDiff, Nat.reduceLeDiff, Nat.reduceLT, true_and, and_true, Bool.false_eq_true, reduceCtorEq, if_true, if_false, hc_xx, hc_ofNat, hc_10, not_true_eq_false, not_false_eq_true, ge_iff_le, g3]
    exact K _ (Or.inr ⟨Or.inr (Or.inr (Or.inl g3)), rfl⟩)
  simp only [hm83_0, hm83_1, hm83_4, hm83_5, hm83_6, hm83_7, hc_on_some, hc_get, hc_put, hc_ri, hc_rl, hc_is, hc_row, hc_wr, hc_mov, hc_smi, hc_sml, hc_fv, hc_ld, hc_kd, hc_sto, hc_pre, hc_two, hc_inc, hc_psh, hc_kp, hc_k1, hc_np, hc_bk_rf, hc_bk_gA, hc_set_ap, hc_set_set, Value.category, List.getElem?_cons_zero, List.getElem?_cons_succ, List.set_cons_zero, List.set_cons_succ, List.length_cons, List.length_nil, List.map_cons, List.map_nil, reduceIte, Nat.reduceAdd, Nat.reduceSub, Nat.reduceBEq, Nat.reduceEqDiff, Nat.reduceLeDiff, Nat.reduceLT, true_and, and_true, Bool.false_eq_true, reduceCtorEq, if_true, if_false, hc_xx, hc_ofNat, hc_10, not_true_eq_false, not_false_eq_true, ge_iff_le, g3, h30]
  refine sp_mway hM hW5 fun v hvA => ?_
  rcases hvA with ⟨j, hj, rfl, rfl⟩ | ⟨ho, rfl⟩
  · have tl := take_le Ws hj
    rcases pk_ix k (show (Ws[j]?.getD []).length < 2 ^ 31 by omega) with g | g | ⟨i, hi, rfl⟩
    · exact absurd g g3
    · have M := K (-1) (Or.inr ⟨Or.inr (Or.inr (Or.inr ⟨j, hj, rfl, g⟩)), rfl⟩)
      simp only [hm83_10, hm83_13, hm83_14, hm83_17, hm83_20, hm83_21, hm83_24, hm83_27, hm83_28, hm83_29, hm83_30, hm83_31, hm83_32, hm83_35, hm83_36, hc_on_some, hc_get, hc_put, hc_ri, hc_rl, hc_is, hc_row, hc_wr, hc_mov, hc_smi, hc_sml, hc_fv, hc_ld, hc_kd, hc_sto, hc_pre, hc_two, hc_inc, hc_psh, hc_kp, hc_k1, hc_np, hc_bk_rf, hc_bk_gA, hc_set_ap, hc_set_set, Value.category, List.getElem?_cons_zero, List.getElem?_cons_succ, List.set_cons_zero, List.set_cons_succ, List.length_cons, List.length_nil, List.map_cons, List.map_nil, reduceIte, Nat.reduceAdd, Nat.reduceSub, Nat.reduceBEq, Nat.reduceEqDiff, Nat.reduceLeDiff, Nat.reduceLT, true_and, and_true, Bool.false_eq_true, reduceCtorEq, if_true, if_false, hc_xx, hc_ofNat, hc_10, not_true_eq_false, not_false_eq_true, ge_iff_le, g]
      exact M
    · rcases xb with ⟨-, rfl⟩ | xb
      · simp at hj
      have g2 : ¬ nI (Ws[j]?.getD []).length ≤ nI i := nI_ge hi (by omega)
      have i2 : hc_inn (nI j) cb := inn_nI (by omega) (by omega)
      have k2 : (nI j).toNatClampNeg = j := nI_clamp (by omega)
      obtain ⟨s1, s2⟩ := bg_step xb hj
      have v1 := CI_nI b4 s1 (by omega)
      have i3 : hc_inn (nI ((Ws.take j).flatten.length + i)) cw := inn_nI (by omega) (by omega)
      have k3 : (nI ((Ws.take j).flatten.length + i)).toNatClampNeg = (Ws.take j).flatten.length + i := nI_clamp (by omega)
      have fa := flat_at hj hi
      have v3 : fw ((Ws.take j).flatten.length + i) = nI ((Ws[j]?.getD [])[i]?.getD 0) := CI_nI w4 (by
        rw [List.getElem?_map, fa]
        rfl) (by
        have := hv _ (List.mem_of_getElem? fa)
        omega)
      have M := K _ (Or.inl ⟨j, i, hj, rfl, hi, rfl, rfl⟩)
      simp only [hm83_10, hm83_13, hm83_14, hm83_17, hm83_20, hm83_21, hm83_24, hm83_27, hm83_28, hm83_29, hm83_30, hm83_31, hm83_32, hm83_35, hm83_36, hc_on_some, hc_get, hc_put, hc_ri, hc_rl, hc_is, hc_row, hc_wr, hc_mov, hc_smi, hc_sml, hc_fv, hc_ld, hc_kd, hc_sto, hc_pre, hc_two, hc_inc, hc_psh, hc_kp, hc_k1, hc_np, hc_bk_rf, hc_bk_gA, hc_set_ap, hc_set_set, Value.category, List.getElem?_cons_zero, List.getElem?_cons_succ, List.set_cons_zero, List.set_cons_succ, List.length_cons, List.length_nil, List.map_cons, List.map_nil, reduceIte, Nat.reduceAdd, Nat.reduceSub, Nat.reduceBEq, Nat.reduceEqDiff, Nat.reduceLeDiff, Nat.reduceLT, true_and, and_true, Bool.false_eq_true, reduceCtorEq, if_true, if_false, hc_xx, hc_ofNat, hc_10, not_true_eq_false, not_false_eq_true, ge_iff_le, h30, mw, mb, oIn, g2, i2, k2, v1, nI_add, i3, k3, v3]
      exact M
  · have g : (-1 : Int32) ≤ k := by
      rw [Int32.le_iff_toInt_le]
      have l0 : (0 : Int32).toInt = 0 := rfl
      have l1 : (-1 : Int32).toInt = -1 := rfl
      have := mt Int32.lt_iff_toInt_lt.mpr g3
      omega
    have M := K (-1) (Or.inr ⟨by
      rcases ho with x | x
      · exact Or.inl x
      · exact Or.inr (Or.inl x), rfl⟩)
    simp only [hm83_10, hm83_13, hm83_14, hm83_17, hm83_20, hm83_21, hm83_24, hm83_27, hm83_28, hm83_29, hm83_30, hm83_31, hm83_32, hm83_35, hm83_36, hc_on_some, hc_get, hc_put, hc_ri, hc_rl, hc_is, hc_row, hc_wr, hc_mov, hc_smi, hc_sml, hc_fv, hc_ld, hc_kd, hc_sto, hc_pre, hc_two, hc_inc, hc_psh, hc_kp, hc_k1, hc_np, hc_bk_rf, hc_bk_gA, hc_set_ap, hc_set_set, Value.category, List.getElem?_cons_zero, List.getElem?_cons_succ, List.set_cons_zero, List.set_cons_succ, List.length_cons, List.length_nil, List.map_cons, List.map_nil, reduceIte, Nat.reduceAdd, Nat.reduceSub, Nat.reduceBEq, Nat.reduceEqDiff, Nat.reduceLeDiff, Nat.reduceLT, true_and, and_true, Bool.false_eq_true, reduceCtorEq, if_true, if_false, hc_xx, hc_ofNat, hc_10, not_true_eq_false, not_false_eq_true, ge_iff_le, g]
    exact M
theorem sp_mnode (hM : MOD σ S E P N Ws Ps) (hbN : inB N) {n x : Int32} (K : ∀ v, AN N n x v → Q G σ t (some (.inl (.int v)))) : hc_wp G σ t 78 0 [some (.inl (.ref 30)), some (.inl (.int n)), some (.inl (.int x))] [] Q := by
  obtain ⟨h, p, w, b, h', p', w', b', ct, ft, q, hz, h30, hct, hTM, -, -, ⟨o, mh, hP⟩, -⟩ := hM
  have hq := hP
  obtain ⟨c, f, rfl, f1, f2, f3, f4⟩ := hq
  have hl : (kN N).length = N.length := List.length_map _
  rw [hl] at f1
  by_cases g3 : n < 0
  · simp only [hma78, hc_on_some, hc_get, hc_put, hc_ri, hc_rl, hc_is, hc_row, hc_wr, hc_mov, hc_smi, hc_sml, hc_fv, hc_ld, hc_kd, hc_sto, hc_pre, hc_two, hc_inc, hc_psh, hc_kp, hc_k1, hc_np, hc_bk_rf, hc_bk_gA, hc_set_ap, hc_set_set, Value.category, List.getElem?_cons_zero, List.getElem?_cons_succ, List.set_cons_zero, List.set_cons_succ, List.length_cons, List.length_nil, List.map_cons, List.map_nil, reduceIte, Nat.reduceAdd, Nat.reduceSub, Nat.reduceBEq, Nat.reduceEqDiff, Nat.reduceLeDiff, Nat.reduceLT, true_and, and_true, Bool.false_eq_true, reduceCtorEq, if_true, if_false, hc_xx, hc_ofNat, hc_10, not_true_eq_false, not_false_eq_true, ge_iff_le, g3]
    exact K _ (Or.inr ⟨Or.inl g3, rfl⟩)
  rcases pk_ix n (show N.length < 2 ^ 31 by omega) with g | g | ⟨j, hj, rfl⟩
  · exact absurd g g3
  · simp only [hma78, hc_on_some, hc_get, hc_put, hc_ri, hc_rl, hc_is, hc_row, hc_wr, hc_mov, hc_smi, hc_sml, hc_fv, hc_ld, hc_kd, hc_sto, hc_pre, hc_two, hc_inc, hc_psh, hc_kp, hc_k1, hc_np, hc_bk_rf, hc_bk_gA, hc_set_ap, hc_set_set, Value.category, List.getElem?_cons_zero, List.getElem?_cons_succ, List.set_cons_zero, List.set_cons_succ, List.length_cons, List.length_nil, List.map_cons, List.map_nil, reduceIte, Nat.reduceAdd, Nat.reduceSub, Nat.reduceBEq, Nat.reduceEqDiff, Nat.reduceLeDiff, Nat.reduceLT, true_and, and_true, Bool.false_eq_true, reduceCtorEq, if_true, if_false, hc_xx, hc_ofNat, hc_10, not_true_eq_false, not_false_eq_true, ge_iff_le, g3, h30, mh, oMp, hl, g]
    exact K _ (Or.inr ⟨Or.inr g, rfl⟩)
  · have g2 : ¬ nI N.length ≤ nI j := nI_ge hj (by omega)
    by_cases x0 : x = 0
    · subst x0
      have y1 : ¬ (0 : Int32) < 0 := by decide
      have y2 : (0 : Int32) ≤ 1 := by decide
      simp only [hm78_0, hm78_1, hm78_4, hm78_5, hm78_6, hm78_9, hm78_12, hm78_15, hm78_16, hm78_19, hm78_20, hm78_21, hm78_24, hm78_26, hm78_29, hm78_30, hm78_33, hm78_34, hm78_37, hm78_38, hc_on_some, hc_get, hc_put, hc_ri, hc_rl, hc_is, hc_row, hc_wr, hc_mov, hc_smi, hc_sml, hc_fv, hc_ld, hc_kd, hc_sto, hc_pre, hc_two, hc_inc, hc_psh, hc_kp, hc_k1, hc_np, hc_bk_rf, hc_bk_gA, hc_set_ap, hc_set_set, Value.category, List.getElem?_cons_zero, List.getElem?_cons_succ, List.set_cons_zero, List.set_cons_succ, List.length_cons, List.length_nil, List.map_cons, List.map_nil, reduceIte, Nat.reduceAdd, Nat.reduceSub, Nat.reduceBEq, Nat.reduceEqDiff, Nat.reduceLeDiff, Nat.reduceLT, true_and, and_true, Bool.false_eq_true, reduceCtorEq, if_true, if_false, hc_xx, hc_ofNat, hc_10, not_true_eq_false, not_false_eq_true, ge_iff_le, g3, h30, mh, oMp, hl, g2, y1, y2]
      refine sp_nx mh hP hbN hj fun v hv => ?_
      have M := K v (Or.inl ⟨j, hj, rfl, Or.inl ⟨rfl, hv⟩⟩)
      simp only [hm78_41, hm78_44, hm78_45, hm78_48, hm78_49, hm78_52, hc_on_some, hc_get, hc_put, hc_ri, hc_rl, hc_is, hc_row, hc_wr, hc_mov, hc_smi, hc_sml, hc_fv, hc_ld, hc_kd, hc_sto, hc_pre, hc_two, hc_inc, hc_psh, hc_kp, hc_k1, hc_np, hc_bk_rf, hc_bk_gA, hc_set_ap, hc_set_set, Value.category, List.getElem?_cons_zero, List.getElem?_cons_succ, List.set_cons_zero, List.set_cons_succ, List.length_cons, List.length_nil, List.map_cons, List.map_nil, reduceIte, Nat.reduceAdd, Nat.reduceSub, Nat.reduceBEq, Nat.reduceEqDiff, Nat.reduceLeDiff, Nat.reduceLT, true_and, and_true, Bool.false_eq_true, reduceCtorEq, if_true, if_false, hc_xx, hc_ofNat, hc_10, not_true_eq_false, not_false_eq_true, ge_iff_le]
      exact M
    · by_cases x1 : x = 1
      · subst x1
        have y1 : ¬ (1 : Int32) < 0 := by decide
        have y2 : (1 : Int32) ≤ 1 := by decide
        simp only [hm78_0, hm78_1, hm78_4, hm78_5, hm78_6, hm78_9, hm78_12, hm78_15, hm78_16, hm78_19, hm78_20, hm78_21, hm78_24, hm78_26, hm78_29, hm78_30, hm78_33, hm78_34, hm78_37, hm78_38, hm78_41, hm78_44, hm78_45, hm78_48, hm78_49, hc_on_some, hc_get, hc_put, hc_ri, hc_rl, hc_is, hc_row, hc_wr, hc_mov, hc_smi, hc_sml, hc_fv, hc_ld, hc_kd, hc_sto, hc_pre, hc_two, hc_inc, hc_psh, hc_kp, hc_k1, hc_np, hc_bk_rf, hc_bk_gA, hc_set_ap, hc_set_set, Value.category, List.getElem?_cons_zero, List.getElem?_cons_succ, List.set_cons_zero, List.set_cons_succ, List.length_cons, List.length_nil, List.map_cons, List.map_nil, reduceIte, Nat.reduceAdd, Nat.reduceSub, Nat.reduceBEq, Nat.reduceEqDiff, Nat.reduceLeDiff, Nat.reduceLT, true_and, and_true, Bool.false_eq_true, reduceCtorEq, if_true, if_false, hc_xx, hc_ofNat, hc_10, not_true_eq_false, not_false_eq_true, ge_iff_le, g3, h30, mh, oMp, hl, g2, y1, y2, x0]
        refine sp_ny mh hP hbN hj fun v hv => ?_
        have M := K v (Or.inl ⟨j, hj, rfl, Or.inr (Or.inl ⟨rfl, hv⟩)⟩)
        simp only [hm78_52, hc_on_some, hc_get, hc_put, hc_ri, hc_rl, hc_is, hc_row, hc_wr, hc_mov, hc_smi, hc_sml, hc_fv, hc_ld, hc_kd, hc_sto, hc_pre, hc_two, hc_inc, hc_psh, hc_kp, hc_k1, hc_np, hc_bk_rf, hc_bk_gA, hc_set_ap, hc_set_set, Value.category, List.getElem?_cons_zero, List.getElem?_cons_succ, List.set_cons_zero, List.set_cons_succ, List.length_cons, List.length_nil, List.map_cons, List.map_nil, reduceIte, Nat.reduceAdd, Nat.reduceSub, Nat.reduceBEq, Nat.reduceEqDiff, Nat.reduceLeDiff, Nat.reduceLT, true_and, and_true, Bool.false_eq_true, reduceCtorEq, if_true, if_false, hc_xx, hc_ofNat, hc_10, not_true_eq_false, not_false_eq_true, ge_iff_le]
        exact M
      · have M := K 1000000 (Or.inl ⟨j, hj, rfl, Or.inr (Or.inr ⟨x0, x1, rfl⟩)⟩)
        by_cases y1 : x < 0
        · simp only [hma78, hc_on_some, hc_get, hc_put, hc_ri, hc_rl, hc_is, hc_row, hc_wr, hc_mov, hc_smi, hc_sml, hc_fv, hc_ld, hc_kd, hc_sto, hc_pre, hc_two, hc_inc, hc_psh, hc_kp, hc_k1, hc_np, hc_bk_rf, hc_bk_gA, hc_set_ap, hc_set_set, Value.category, List.getElem?_cons_zero, List.getElem?_cons_succ, List.set_cons_zero, List.set_cons_succ, List.length_cons, List.length_nil, List.map_cons, List.map_nil, reduceIte, Nat.reduceAdd, Nat.reduceSub, Nat.reduceBEq, Nat.reduceEqDiff, Nat.reduceLeDiff, Nat.reduceLT, true_and, and_true, Bool.false_eq_true, reduceCtorEq, if_true, if_false, hc_xx, hc_ofNat, hc_10, not_true_eq_false, not_false_eq_true, ge_iff_le, g3, h30, mh, oMp, hl, g2, y1]
          exact M
        · have y2 : ¬ x ≤ 1 := by
            rw [Int32.le_iff_toInt_le]
            have l0 : (0 : Int32).toInt = 0 := rfl
            have l1 : (1 : Int32).toInt = 1 := rfl
            have := mt Int32.lt_iff_toInt_lt.mpr y1
            have n0 : ¬ x.toInt = 0 := fun e => x0 (Int32.toInt_inj.mp e)
            have n1 : ¬ x.toInt = 1 := fun e => x1 (Int32.toInt_inj.mp e)
            omega
          simp only [hma78, hc_on_some, hc_get, hc_put, hc_ri, hc_rl, hc_is, hc_row, hc_wr, hc_mov, hc_smi, hc_sml, hc_fv, hc_ld, hc_kd, hc_sto, hc_pre, hc_two, hc_inc, hc_psh, hc_kp, hc_k1, hc_np, hc_bk_rf, hc_bk_gA, hc_set_ap, hc_set_set, Value.category, List.getElem?_cons_zero, List.getElem?_cons_succ, List.set_cons_zero, List.set_cons_succ, List.length_cons, List.length_nil, List.map_cons, List.map_nil, reduceIte, Nat.reduceAdd, Nat.reduceSub, Nat.reduceBEq, Nat.reduceEqDiff, Nat.reduceLeDiff, Nat.reduceLT, true_and, and_true, Bool.false_eq_true, reduceCtorEq, if_true, if_false, hc_xx, hc_ofNat, hc_10, not_true_eq_false, not_false_eq_true, ge_iff_le, g3, h30, mh, oMp, hl, g2, y1, y2]
          exact M
theorem sp_mfindN (hM : MOD σ S E P N Ws Ps) (hbN : inB N) (hN : N.Pairwise plt) {x y : Int32} (K : ∀ v, AF N x y v → Q G σ t (some (.inl (.int v)))) : hc_wp G σ t 79 0 [some (.inl (.ref 30)), some (.inl (.int x)), some (.inl (.int y))] [] Q := by
  obtain ⟨h, p, w, b, h', p', w', b', ct, ft, q, hz, h30, hct, hTM, -, -, ⟨o, mh, hP⟩, -⟩ := hM
  have hq := hP
  obtain ⟨c, f, rfl, f1, f2, f3, f4⟩ := hq
  have hl : (kN N).length = N.length := List.length_map _
  have ndj : ∀ j (hj : j < N.length), nd N j = N[j] := fun j hj => by
    show N[j]?.getD (0, 0) = _
    rw [List.getElem?_eq_getElem hj]
    rfl
  have hs : (kN N).Pairwise (· < ·) := by
    rw [kN, List.pairwise_map]
    refine (List.Pairwise.and_mem.mp hN).imp ?_
    rintro a b ⟨ha, hb, hab⟩
    exact (kxy_lt (hbN a ha) (hbN b hb)).mpr hab
  by_cases c1 : inb x.toInt y.toInt
  · have o10 : ¬ (1 : Int32) = 0 := by decide
    obtain ⟨b1, b2, b3, b4⟩ := id c1
    have ky : (kyv x y).toInt = kxy x.toInt y.toInt := kyv_toInt (by omega) (by omega)
    simp only [hm79_0, hm79_1, hm79_2, hm79_5, hm79_8, hm79_9, hm79_12, hm79_13, hm79_14, hc_on_some, hc_get, hc_put, hc_ri, hc_rl, hc_is, hc_row, hc_wr, hc_mov, hc_smi, hc_sml, hc_fv, hc_ld, hc_kd, hc_sto, hc_pre, hc_two, hc_inc, hc_psh, hc_kp, hc_k1, hc_np, hc_bk_rf, hc_bk_gA, hc_set_ap, hc_set_set, Value.category, List.getElem?_cons_zero, List.getElem?_cons_succ, List.set_cons_zero, List.set_cons_succ, List.length_cons, List.length_nil, List.map_cons, List.map_nil, reduceIte, Nat.reduceAdd, Nat.reduceSub, Nat.reduceBEq, Nat.reduceEqDiff, Nat.reduceLeDiff, Nat.reduceLT, true_and, and_true, Bool.false_eq_true, reduceCtorEq, if_true, if_false, hc_xx, hc_ofNat, hc_10, not_true_eq_false, not_false_eq_true, ge_iff_le, sp_isin, if_pos c1, o10, h30, mh, oMp]
    refine sp_mfind mh hP (by omega) hs fun v hv => ?_
    rw [ky] at hv
    have M := K v (by
      rcases hv with ⟨j, hj, e, rfl⟩ | ⟨hno, rfl⟩
      · have hj' : j < N.length := by
          rw [hl] at hj
          exact hj
        refine Or.inl ⟨j, hj', ?_, rfl⟩
        rw [List.getElem_map] at e
        have := congrArg uk2 e
        rw [uk2_kxy (hbN _ (List.getElem_mem hj')), uk2_kxy c1] at this
        rw [ndj j hj']
        exact this
      · refine Or.inr ⟨fun j hj e => ?_, rfl⟩
        refine hno j (by rw [hl]; exact hj) ?_
        rw [List.getElem_map, ← ndj j hj, e])
    simp only [hm79_17, hm79_20, hm79_21, hc_on_some, hc_get, hc_put, hc_ri, hc_rl, hc_is, hc_row, hc_wr, hc_mov, hc_smi, hc_sml, hc_fv, hc_ld, hc_kd, hc_sto, hc_pre, hc_two, hc_inc, hc_psh, hc_kp, hc_k1, hc_np, hc_bk_rf, hc_bk_gA, hc_set_ap, hc_set_set, Value.category, List.getElem?_cons_zero, List.getElem?_cons_succ, List.set_cons_zero, List.set_cons_succ, List.length_cons, List.length_nil, List.map_cons, List.map_nil, reduceIte, Nat.reduceAdd, Nat.reduceSub, Nat.reduceBEq, Nat.reduceEqDiff, Nat.reduceLeDiff, Nat.reduceLT, true_and, and_true, Bool.false_eq_true, reduceCtorEq, if_true, if_false, hc_xx, hc_ofNat, hc_10, not_true_eq_false, not_false_eq_true, ge_iff_le]
    exact M
  · have M := K (-1) (Or.inr ⟨fun j hj e => by
      have := hbN _ (List.getElem_mem hj)
      rw [← ndj j hj, e] at this
      exact c1 this, rfl⟩)
    simp only [hma79, hc_on_some, hc_get, hc_put, hc_ri, hc_rl, hc_is, hc_row, hc_wr, hc_mov, hc_smi, hc_sml, hc_fv, hc_ld, hc_kd, hc_sto, hc_pre, hc_two, hc_inc, hc_psh, hc_kp, hc_k1, hc_np, hc_bk_rf, hc_bk_gA, hc_set_ap, hc_set_set, Value.category, List.getElem?_cons_zero, List.getElem?_cons_succ, List.set_cons_zero, List.set_cons_succ, List.length_cons, List.length_nil, List.map_cons, List.map_nil, reduceIte, Nat.reduceAdd, Nat.reduceSub, Nat.reduceBEq, Nat.reduceEqDiff, Nat.reduceLeDiff, Nat.reduceLT, true_and, and_true, Bool.false_eq_true, reduceCtorEq, if_true, if_false, hc_xx, hc_ofNat, hc_10, not_true_eq_false, not_false_eq_true, ge_iff_le, sp_isin, if_neg c1]
    exact M
theorem sp_mpiece (hM : MOD σ S E P N Ws Ps) (hR : ∀ q ∈ Ps, stR q.1) {n x : Int32} (K : ∀ v, AP Ps n x v → Q G σ t (some (.inl (.int v)))) : hc_wp G σ t 81 0 [some (.inl (.ref 30)), some (.inl (.int n)), some (.inl (.int x))] [] Q := by
  obtain ⟨h, p, w, b, h', p', w', b', ct, ft, q, hz, h30, hct, hTM, -, -, -, ⟨o, mp, hP⟩, -⟩ := hM
  have hq := hP
  obtain ⟨c, f, rfl, f1, f2, f3, f4⟩ := hq
  have hl : (kP Ps).length = Ps.length := List.length_map _
  rw [hl] at f1
  by_cases g3 : n < 0
  · simp only [hma81, hc_on_some, hc_get, hc_put, hc_ri, hc_rl, hc_is, hc_row, hc_wr, hc_mov, hc_smi, hc_sml, hc_fv, hc_ld, hc_kd, hc_sto, hc_pre, hc_two, hc_inc, hc_psh, hc_kp, hc_k1, hc_np, hc_bk_rf, hc_bk_gA, hc_set_ap, hc_set_set, Value.category, List.getElem?_cons_zero, List.getElem?_cons_succ, List.set_cons_zero, List.set_cons_succ, List.length_cons, List.length_nil, List.map_cons, List.map_nil, reduceIte, Nat.reduceAdd, Nat.reduceSub, Nat.reduceBEq, Nat.reduceEqDiff, Nat.reduceLeDiff, Nat.reduceLT, true_and, and_true, Bool.false_eq_true, reduceCtorEq, if_true, if_false, hc_xx, hc_ofNat, hc_10, not_true_eq_false, not_false_eq_true, ge_iff_le, g3]
    exact K _ (Or.inr ⟨Or.inl g3, rfl⟩)
  rcases pk_ix n (show Ps.length < 2 ^ 31 by omega) with g | g | ⟨j, hj, rfl⟩
  · exact absurd g g3
  · simp only [hma81, hc_on_some, hc_get, hc_put, hc_ri, hc_rl, hc_is, hc_row, hc_wr, hc_mov, hc_smi, hc_sml, hc_fv, hc_ld, hc_kd, hc_sto, hc_pre, hc_two, hc_inc, hc_psh, hc_kp, hc_k1, hc_np, hc_bk_rf, hc_bk_gA, hc_set_ap, hc_set_set, Value.category, List.getElem?_cons_zero, List.getElem?_cons_succ, List.set_cons_zero, List.set_cons_succ, List.length_cons, List.length_nil, List.map_cons, List.map_nil, reduceIte, Nat.reduceAdd, Nat.reduceSub, Nat.reduceBEq, Nat.reduceEqDiff, Nat.reduceLeDiff, Nat.reduceLT, true_and, and_true, Bool.false_eq_true, reduceCtorEq, if_true, if_false, hc_xx, hc_ofNat, hc_10, not_true_eq_false, not_false_eq_true, ge_iff_le, g3, h30, mp, oMp, hl, g]
    exact K _ (Or.inr ⟨Or.inr g, rfl⟩)
  · have g2 : ¬ nI Ps.length ≤ nI j := nI_ge hj (by omega)
    have ep : Ps[j]?.getD (0, 0) = Ps[j]'hj := by
      rw [List.getElem?_eq_getElem hj]
      rfl
    have rj := hR _ (List.getElem_mem hj)
    have hj2 : j < (kP Ps).length := by
      rw [hl]
      exact hj
    have ek : (kP Ps)[j]'hj2 = kxy ((Ps[j]'hj).1 / 6000) ((Ps[j]'hj).1 % 6000) := by rw [List.getElem_map]
    by_cases x0 : x = 0
    · subst x0
      have y1 : ¬ (0 : Int32) < 0 := by decide
      have y2 : (0 : Int32) ≤ 2 := by decide
      simp only [hm81_0, hm81_1, hm81_4, hm81_5, hm81_6, hm81_9, hm81_12, hm81_15, hm81_16, hm81_19, hm81_20, hm81_21, hm81_24, hm81_25, hm81_26, hm81_27, hm81_30, hm81_31, hm81_34, hm81_35, hc_on_some, hc_get, hc_put, hc_ri, hc_rl, hc_is, hc_row, hc_wr, hc_mov, hc_smi, hc_sml, hc_fv, hc_ld, hc_kd, hc_sto, hc_pre, hc_two, hc_inc, hc_psh, hc_kp, hc_k1, hc_np, hc_bk_rf, hc_bk_gA, hc_set_ap, hc_set_set, Value.category, List.getElem?_cons_zero, List.getElem?_cons_succ, List.set_cons_zero, List.set_cons_succ, List.length_cons, List.length_nil, List.map_cons, List.map_nil, reduceIte, Nat.reduceAdd, Nat.reduceSub, Nat.reduceBEq, Nat.reduceEqDiff, Nat.reduceLeDiff, Nat.reduceLT, true_and, and_true, Bool.false_eq_true, reduceCtorEq, if_true, if_false, hc_xx, hc_ofNat, hc_10, not_true_eq_false, not_false_eq_true, ge_iff_le, g3, h30, mp, oMp, hl, g2, y1, y2]
      refine sp_mx mp hP (by omega) hj2 fun v hv => ?_
      rw [ek, kxy_x (by omega) (by omega)] at hv
      have M := K v (Or.inl ⟨j, hj, rfl, Or.inl ⟨rfl, by rw [ep]; exact hv (by omega) (by omega)⟩⟩)
      simp only [hm81_38, hm81_41, hm81_42, hm81_43, hm81_46, hm81_47, hm81_50, hm81_51, hm81_54, hm81_57, hm81_58, hm81_61, hm81_62, hm81_63, hc_on_some, hc_get, hc_put, hc_ri, hc_rl, hc_is, hc_row, hc_wr, hc_mov, hc_smi, hc_sml, hc_fv, hc_ld, hc_kd, hc_sto, hc_pre, hc_two, hc_inc, hc_psh, hc_kp, hc_k1, hc_np, hc_bk_rf, hc_bk_gA, hc_set_ap, hc_set_set, Value.category, List.getElem?_cons_zero, List.getElem?_cons_succ, List.set_cons_zero, List.set_cons_succ, List.length_cons, List.length_nil, List.map_cons, List.map_nil, reduceIte, Nat.reduceAdd, Nat.reduceSub, Nat.reduceBEq, Nat.reduceEqDiff, Nat.reduceLeDiff, Nat.reduceLT, true_and, and_true, Bool.false_eq_true, reduceCtorEq, if_true, if_false, hc_xx, hc_ofNat, hc_10, not_true_eq_false, not_false_eq_true, ge_iff_le]
      exact M
    · by_cases x1 : x = 1
      · subst x1
        have y1 : ¬ (1 : Int32) < 0 := by decide
        have y2 : (1 : Int32) ≤ 2 := by decide
        simp only [hm81_0, hm81_1, hm81_4, hm81_5, hm81_6, hm81_9, hm81_12, hm81_15, hm81_16, hm81_19, hm81_20, hm81_21, hm81_24, hm81_25, hm81_26, hm81_27, hm81_30, hm81_31, hm81_34, hm81_35, hm81_38, hm81_41, hm81_42, hm81_43, hm81_46, hm81_47, hm81_50, hm81_51, hc_on_some, hc_get, hc_put, hc_ri, hc_rl, hc_is, hc_row, hc_wr, hc_mov, hc_smi, hc_sml, hc_fv, hc_ld, hc_kd, hc_sto, hc_pre, hc_two, hc_inc, hc_psh, hc_kp, hc_k1, hc_np, hc_bk_rf, hc_bk_gA, hc_set_ap, hc_set_set, Value.category, List.getElem?_cons_zero, List.getElem?_cons_succ, List.set_cons_zero, List.set_cons_succ, List.length_cons, List.length_nil, List.map_cons, List.map_nil, reduceIte, Nat.reduceAdd, Nat.reduceSub, Nat.reduceBEq, Nat.reduceEqDiff, Nat.reduceLeDiff, Nat.reduceLT, true_and, and_true, Bool.false_eq_true, reduceCtorEq, if_true, if_false, hc_xx, hc_ofNat, hc_10, not_true_eq_false, not_false_eq_true, ge_iff_le, g3, h30, mp, oMp, hl, g2, y1, y2, x0]
        refine sp_my mp hP (by omega) hj2 fun v hv => ?_
        rw [ek, kxy_y (by omega) (by omega)] at hv
        have M := K v (Or.inl ⟨j, hj, rfl, Or.inr (Or.inl ⟨rfl, by rw [ep, hv (by omega)]; omega⟩)⟩)
        simp only [hm81_54, hm81_57, hm81_58, hm81_61, hm81_62, hm81_63, hc_on_some, hc_get, hc_put, hc_ri, hc_rl, hc_is, hc_row, hc_wr, hc_mov, hc_smi, hc_sml, hc_fv, hc_ld, hc_kd, hc_sto, hc_pre, hc_two, hc_inc, hc_psh, hc_kp, hc_k1, hc_np, hc_bk_rf, hc_bk_gA, hc_set_ap, hc_set_set, Value.category, List.getElem?_cons_zero, List.getElem?_cons_succ, List.set_cons_zero, List.set_cons_succ, List.length_cons, List.length_nil, List.map_cons, List.map_nil, reduceIte, Nat.reduceAdd, Nat.reduceSub, Nat.reduceBEq, Nat.reduceEqDiff, Nat.reduceLeDiff, Nat.reduceLT, true_and, and_true, Bool.false_eq_true, reduceCtorEq, if_true, if_false, hc_xx, hc_ofNat, hc_10, not_true_eq_false, not_false_eq_true, ge_iff_le]
        exact M
      · by_cases x2 : x = 2
        · subst x2
          have y1 : ¬ (2 : Int32) < 0 := by decide
          have y2 : (2 : Int32) ≤ 2 := by decide
          have i1 : hc_inn (nI j) ct := inn_nI (by have := hTM.1; omega) (by omega)
          have k1 : (nI j).toNatClampNeg = j := nI_clamp (by omega)
          have M := K (ft j) (Or.inl ⟨j, hj, rfl, Or.inr (Or.inr (Or.inl ⟨rfl, by rw [ep]; exact hTM.2 j hj⟩))⟩)
          simp only [hma81, hc_on_some, hc_get, hc_put, hc_ri, hc_rl, hc_is, hc_row, hc_wr, hc_mov, hc_smi, hc_sml, hc_fv, hc_ld, hc_kd, hc_sto, hc_pre, hc_two, hc_inc, hc_psh, hc_kp, hc_k1, hc_np, hc_bk_rf, hc_bk_gA, hc_set_ap, hc_set_set, Value.category, List.getElem?_cons_zero, List.getElem?_cons_succ, List.set_cons_zero, List.set_cons_succ, List.length_cons, List.length_nil, List.map_cons, List.map_nil, reduceIte, Nat.reduceAdd, Nat.reduceSub, Nat.reduceBEq, Nat.reduceEqDiff, Nat.reduceLeDiff, Nat.reduceLT, true_and, and_true, Bool.false_eq_true, reduceCtorEq, if_true, if_false, hc_xx, hc_ofNat, hc_10, not_true_eq_false, not_false_eq_true, ge_iff_le, g3, h30, mp, oMp, hl, g2, y1, y2, x0, x1, i1, k1]
          exact M
        · have M := K (-1) (Or.inl ⟨j, hj, rfl, Or.inr (Or.inr (Or.inr ⟨x0, x1, x2, rfl⟩))⟩)
          by_cases y1 : x < 0
          · simp only [hma81, hc_on_some, hc_get, hc_put, hc_ri, hc_rl, hc_is, hc_row, hc_wr, hc_mov, hc_smi, hc_sml, hc_fv, hc_ld, hc_kd, hc_sto, hc_pre, hc_two, hc_inc, hc_psh, hc_kp, hc_k1, hc_np, hc_bk_rf, hc_bk_gA, hc_set_ap, hc_set_set, Value.category, List.getElem?_cons_zero, List.getElem?_cons_succ, List.set_cons_zero, List.set_cons_succ, List.length_cons, List.length_nil, List.map_cons, List.map_nil, reduceIte, Nat.reduceAdd, Nat.reduceSub, Nat.reduceBEq, Nat.reduceEqDiff, Nat.reduceLeDiff, Nat.reduceLT, true_and, and_true, Bool.false_eq_true, reduceCtorEq, if_true, if_false, hc_xx, hc_ofNat, hc_10, not_true_eq_false, not_false_eq_true, ge_iff_le, g3, h30, mp, oMp, hl, g2, y1]
            exact M
          · have y2 : ¬ x ≤ 2 := by
              rw [Int32.le_iff_toInt_le]
              have l0 : (0 : Int32).toInt = 0 := rfl
              have l2 : (2 : Int32).toInt = 2 := rfl
              have := mt Int32.lt_iff_toInt_lt.mpr y1
              have n0 : ¬ x.toInt = 0 := fun e => x0 (Int32.toInt_inj.mp e)
              have n1 : ¬ x.toInt = 1 := fun e => x1 (Int32.toInt_inj.mp e)
              have n2 : ¬ x.toInt = 2 := fun e => x2 (Int32.toInt_inj.mp e)
              omega
            simp only [hma81, hc_on_some, hc_get, hc_put, hc_ri, hc_rl, hc_is, hc_row, hc_wr, hc_mov, hc_smi, hc_sml, hc_fv, hc_ld, hc_kd, hc_sto, hc_pre, hc_two, hc_inc, hc_psh, hc_kp, hc_k1, hc_np, hc_bk_rf, hc_bk_gA, hc_set_ap, hc_set_set, Value.category, List.getElem?_cons_zero, List.getElem?_cons_succ, List.set_cons_zero, List.set_cons_succ, List.length_cons, List.length_nil, List.map_cons, List.map_nil, reduceIte, Nat.reduceAdd, Nat.reduceSub, Nat.reduceBEq, Nat.reduceEqDiff, Nat.reduceLeDiff, Nat.reduceLT, true_and, and_true, Bool.false_eq_true, reduceCtorEq, if_true, if_false, hc_xx, hc_ofNat, hc_10, not_true_eq_false, not_false_eq_true, ge_iff_le, g3, h30, mp, oMp, hl, g2, y1, y2]
            exact M
end S69
