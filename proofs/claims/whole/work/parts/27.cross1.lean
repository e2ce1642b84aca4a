/-! the class's crossing of two edges -/
/-- an edge: x1, y1, x2, y2 -/
abbrev Ed := Int × Int × Int × Int
def crs1 (x y dx dy T A O : Int) : Option (Int × Int) :=
  if T = 0 ∨ A < 0 ∨ T < A ∨ O < 0 ∨ T < O then none else some (x + (2 * A * dx + T) / (2 * T), y + (2 * A * dy + T) / (2 * T))
def crs2 (x y dx dy T A O : Int) : Option (Int × Int) := if T < 0 then crs1 x y dx dy (-T) (-A) (-O) else crs1 x y dx dy T A O
def crs (e f : Ed) : Option (Int × Int) :=
  crs2 e.1 e.2.1 (e.2.2.1 - e.1) (e.2.2.2 - e.2.1)
    ((e.2.2.1 - e.1) * (f.2.2.2 - f.2.1) - (e.2.2.2 - e.2.1) * (f.2.2.1 - f.1))
    ((f.1 - e.1) * (f.2.2.2 - f.2.1) - (f.2.1 - e.2.1) * (f.2.2.1 - f.1))
    ((f.1 - e.1) * (e.2.2.2 - e.2.1) - (f.2.1 - e.2.1) * (e.2.2.1 - e.1))
theorem mbd {a b : Int} (M N : Nat) (h1 : -(M : Int) ≤ a) (h2 : a ≤ M) (h3 : -(N : Int) ≤ b) (h4 : b ≤ N) : -((M * N : Nat) : Int) ≤ a * b ∧ a * b ≤ ((M * N : Nat) : Int) := by
  have : (a * b).natAbs ≤ M * N := by
    rw [Int.natAbs_mul]
    exact Nat.mul_le_mul (by omega) (by omega)
  omega
/-- the quotient keeps to the edge -/
theorem quo_bd {A T d : Int} (hT : 0 < T) (hA : 0 ≤ A) (hAT : A ≤ T) (h1 : -1000000 ≤ d) (h2 : d ≤ 1000000) : -1000000 ≤ (2 * A * d + T) / (2 * T) ∧ (2 * A * d + T) / (2 * T) ≤ 1000000 := by
  have e : 2 * A * d = 2 * (A * d) := Int.mul_assoc 2 A d
  have p1 : A * d ≤ A * 1000000 := Int.mul_le_mul_of_nonneg_left h2 hA
  have p2 : A * (-1000000) ≤ A * d := Int.mul_le_mul_of_nonneg_left h1 hA
  rw [e]
  generalize A * d = P at *
  constructor
  · exact Int.le_ediv_of_mul_le (by omega) (by omega)
  · have : (2 * P + T) / (2 * T) < 1000001 := Int.ediv_lt_of_lt_mul (by omega) (by omega)
    omega
section S27
variable {G : hc_G} {σ : hc_H} {t : hc_T} {Q : hc_Q}
theorem quo64 {A T d : Int64} (hT : 0 < T.toInt) (hT2 : T.toInt ≤ 2000000000000) (hA : 0 ≤ A.toInt) (hAT : A.toInt ≤ T.toInt) (h1 : -1000000 ≤ d.toInt) (h2 : d.toInt ≤ 1000000) : (2 * A * d + T).toInt = 2 * A.toInt * d.toInt + T.toInt ∧ (2 * T).toInt = 2 * T.toInt ∧ -5000000000000000000 ≤ 2 * A.toInt * d.toInt + T.toInt := by
  have l2 : (2 : Int64).toInt = 2 := rfl
  have m1 : (2 * A).toInt = 2 * A.toInt := by rw [i64_mul (by rw [l2]; omega) (by rw [l2]; omega), l2]
  have m2 : (2 * T).toInt = 2 * T.toInt := by rw [i64_mul (by rw [l2]; omega) (by rw [l2]; omega), l2]
  have b := mbd (a := 2 * A.toInt) (b := d.toInt) 4000000000000 1000000 (by omega) (by omega) (by omega) (by omega)
  have m3 : (2 * A * d).toInt = 2 * A.toInt * d.toInt := by rw [i64_mul (by rw [m1]; omega) (by rw [m1]; omega), m1]
  refine ⟨?_, m2, by omega⟩
  rw [i64_add (by rw [m3]; omega) (by rw [m3]; omega), m3]
theorem sp_hx1 {a b ia ib n : Nat} {l : List Int} {o : hc_O} {cx cy : Nat} {fx fy : Nat → Int32} {dx dy odx ody gx gy T A O : Int64} (h0 : σ 0 = some (oHC a b)) (h : σ 10 = some o) (hP : KSo o l) (hm : l.length < 20000) (hs : σ 1 = some (oPl n cx fx cy fy)) (hi : ia < cx) (hi2 : ia < cy) (hc : cx ≤ 12000) (hc2 : cy ≤ 12000)
    (hT : 0 ≤ T.toInt) (hT2 : T.toInt ≤ 2000000000000) (d1 : -1000000 ≤ dx.toInt) (d2 : dx.toInt ≤ 1000000) (d3 : -1000000 ≤ dy.toInt) (d4 : dy.toInt ≤ 1000000)
    (K : ∀ G' o', KSo o' (l ++ kcl (crs1 (fx ia).toInt (fy ia).toInt dx.toInt dy.toInt T.toInt A.toInt O.toInt).toList) → hc_cr G σ G' (hc_set σ 10 o') → Q G' (hc_set σ 10 o') none none) :
    hc_wp G σ none 38 190 [some (.inl (.ref 0)), some (.inl (.int (nI ia))), some (.inl (.int (nI ib))), some (.inl (.long dx)), none, some (.inl (.long dy)), none, some (.inl (.long odx)), none, some (.inl (.long ody)), none, some (.inl (.long gx)), none, some (.inl (.long gy)), none, some (.inl (.long T)), none, some (.inl (.long A)), none, some (.inl (.long O)), none] [] Q := by
  have l0 : (0 : Int64).toInt = 0 := rfl
  have z1 : (T = 0) ↔ T.toInt = 0 := by rw [← Int64.toInt_inj, l0]
  have z2 : (A < 0) ↔ A.toInt < 0 := by rw [Int64.lt_iff_toInt_lt, l0]
  have z3 : (T < A) ↔ T.toInt < A.toInt := Int64.lt_iff_toInt_lt
  have z4 : (O < 0) ↔ O.toInt < 0 := by rw [Int64.lt_iff_toInt_lt, l0]
  have z5 : (O ≤ T) ↔ O.toInt ≤ T.toInt := Int64.le_iff_toInt_le
  have none_case : (T.toInt = 0 ∨ A.toInt < 0 ∨ T.toInt < A.toInt ∨ O.toInt < 0 ∨ T.toInt < O.toInt) → Q G σ none none := by
    intro hn
    have K2 := K G o
    rw [crs1, if_pos hn, Option.toList_none, kcl, List.map_nil, List.append_nil, hc_set_id' h] at K2
    exact K2 hP (hc_cr.rf _ _)
  by_cases c1 : T = 0
  · simp only [hm38_190, hm38_192, hm38_193, hm38_194, hm38_197, hm38_199, hm38_200, hm38_201, hm38_204, hm38_206, hm38_208, hm38_209, hm38_212, hm38_214, hm38_215, hm38_216, hm38_219, hm38_221, hm38_223, hm38_224, hm38_227, hm38_228, hm38_229, hm38_230, hm38_233, hm38_236, hm38_237, hm38_238, hm38_239, hm38_242, hm38_244, hm38_245, hm38_246, hm38_247, hm38_249, hm38_250, hm38_253, hm38_255, hm38_256, hm38_259, hm38_260, hm38_261, hm38_264, hm38_267, hm38_268, hm38_269, hm38_270, hm38_273, hm38_275, hm38_276, hm38_278, hm38_279, hm38_281, hm38_282, hm38_285, hm38_287, hm38_288, hm38_291, hm38_292, hm38_295, hc_on_some, hc_get, hc_put, hc_ri, hc_rl, hc_is, hc_row, hc_wr, hc_mov, hc_smi, hc_sml, hc_fv, hc_ld, hc_kd, hc_sto, hc_pre, hc_two, hc_inc, hc_psh, hc_kp, hc_k1, hc_np, hc_bk_rf, hc_bk_gA, hc_set_ap, hc_set_set, Value.category, List.getElem?_cons_zero, List.getElem?_cons_succ, List.set_cons_zero, List.set_cons_succ, List.length_cons, List.length_nil, List.map_cons, List.map_nil, reduceIte, Nat.reduceAdd, Nat.reduceSub, Nat.reduceBEq, Nat.reduceEqDiff, Nat.reduceLeDiff, Nat.reduceLT, true_and, and_true, Bool.false_eq_true, reduceCtorEq, if_true, if_false, hc_xx, hc_ofNat, hc_10, not_true_eq_false, not_false_eq_true, ge_iff_le, lgc_eq, c1]
    exact none_case (Or.inl (z1.mp c1))
  by_cases c2 : A < 0
  · simp only [hm38_190, hm38_192, hm38_193, hm38_194, hm38_197, hm38_199, hm38_200, hm38_201, hm38_204, hm38_206, hm38_208, hm38_209, hm38_212, hm38_214, hm38_215, hm38_216, hm38_219, hm38_221, hm38_223, hm38_224, hm38_227, hm38_228, hm38_229, hm38_230, hm38_233, hm38_236, hm38_237, hm38_238, hm38_239, hm38_242, hm38_244, hm38_245, hm38_246, hm38_247, hm38_249, hm38_250, hm38_253, hm38_255, hm38_256, hm38_259, hm38_260, hm38_261, hm38_264, hm38_267, hm38_268, hm38_269, hm38_270, hm38_273, hm38_275, hm38_276, hm38_278, hm38_279, hm38_281, hm38_282, hm38_285, hm38_287, hm38_288, hm38_291, hm38_292, hm38_295, hc_on_some, hc_get, hc_put, hc_ri, hc_rl, hc_is, hc_row, hc_wr, hc_mov, hc_smi, hc_sml, hc_fv, hc_ld, hc_kd, hc_sto, hc_pre, hc_two, hc_inc, hc_psh, hc_kp, hc_k1, hc_np, hc_bk_rf, hc_bk_gA, hc_set_ap, hc_set_set, Value.category, List.getElem?_cons_zero, List.getElem?_cons_succ, List.set_cons_zero, List.set_cons_succ, List.length_cons, List.length_nil, List.map_cons, List.map_nil, reduceIte, Nat.reduceAdd, Nat.reduceSub, Nat.reduceBEq, Nat.reduceEqDiff, Nat.reduceLeDiff, Nat.reduceLT, true_and, and_true, Bool.false_eq_true, reduceCtorEq, if_true, if_false, hc_xx, hc_ofNat, hc_10, not_true_eq_false, not_false_eq_true, ge_iff_le, lgc_eq, lgc_lt, c1, c2]
    exact none_case (Or.inr (Or.inl (z2.mp c2)))
  by_cases c3 : T < A
  · simp only [hm38_190, hm38_192, hm38_193, hm38_194, hm38_197, hm38_199, hm38_200, hm38_201, hm38_204, hm38_206, hm38_208, hm38_209, hm38_212, hm38_214, hm38_215, hm38_216, hm38_219, hm38_221, hm38_223, hm38_224, hm38_227, hm38_228, hm38_229, hm38_230, hm38_233, hm38_236, hm38_237, hm38_238, hm38_239, hm38_242, hm38_244, hm38_245, hm38_246, hm38_247, hm38_249, hm38_250, hm38_253, hm38_255, hm38_256, hm38_259, hm38_260, hm38_261, hm38_264, hm38_267, hm38_268, hm38_269, hm38_270, hm38_273, hm38_275, hm38_276, hm38_278, hm38_279, hm38_281, hm38_282, hm38_285, hm38_287, hm38_288, hm38_291, hm38_292, hm38_295, hc_on_some, hc_get, hc_put, hc_ri, hc_rl, hc_is, hc_row, hc_wr, hc_mov, hc_smi, hc_sml, hc_fv, hc_ld, hc_kd, hc_sto, hc_pre, hc_two, hc_inc, hc_psh, hc_kp, hc_k1, hc_np, hc_bk_rf, hc_bk_gA, hc_set_ap, hc_set_set, Value.category, List.getElem?_cons_zero, List.getElem?_cons_succ, List.set_cons_zero, List.set_cons_succ, List.length_cons, List.length_nil, List.map_cons, List.map_nil, reduceIte, Nat.reduceAdd, Nat.reduceSub, Nat.reduceBEq, Nat.reduceEqDiff, Nat.reduceLeDiff, Nat.reduceLT, true_and, and_true, Bool.false_eq_true, reduceCtorEq, if_true, if_false, hc_xx, hc_ofNat, hc_10, not_true_eq_false, not_false_eq_true, ge_iff_le, lgc_eq, lgc_lt, lgc_gt, c1, c2, c3]
    exact none_case (Or.inr (Or.inr (Or.inl (z3.mp c3))))
  by_cases c4 : O < 0
  · simp only [hm38_190, hm38_192, hm38_193, hm38_194, hm38_197, hm38_199, hm38_200, hm38_201, hm38_204, hm38_206, hm38_208, hm38_209, hm38_212, hm38_214, hm38_215, hm38_216, hm38_219, hm38_221, hm38_223, hm38_224, hm38_227, hm38_228, hm38_229, hm38_230, hm38_233, hm38_236, hm38_237, hm38_238, hm38_239, hm38_242, hm38_244, hm38_245, hm38_246, hm38_247, hm38_249, hm38_250, hm38_253, hm38_255, hm38_256, hm38_259, hm38_260, hm38_261, hm38_264, hm38_267, hm38_268, hm38_269, hm38_270, hm38_273, hm38_275, hm38_276, hm38_278, hm38_279, hm38_281, hm38_282, hm38_285, hm38_287, hm38_288, hm38_291, hm38_292, hm38_295, hc_on_some, hc_get, hc_put, hc_ri, hc_rl, hc_is, hc_row, hc_wr, hc_mov, hc_smi, hc_sml, hc_fv, hc_ld, hc_kd, hc_sto, hc_pre, hc_two, hc_inc, hc_psh, hc_kp, hc_k1, hc_np, hc_bk_rf, hc_bk_gA, hc_set_ap, hc_set_set, Value.category, List.getElem?_cons_zero, List.getElem?_cons_succ, List.set_cons_zero, List.set_cons_succ, List.length_cons, List.length_nil, List.map_cons, List.map_nil, reduceIte, Nat.reduceAdd, Nat.reduceSub, Nat.reduceBEq, Nat.reduceEqDiff, Nat.reduceLeDiff, Nat.reduceLT, true_and, and_true, Bool.false_eq_true, reduceCtorEq, if_true, if_false, hc_xx, hc_ofNat, hc_10, not_true_eq_false, not_false_eq_true, ge_iff_le, lgc_eq, lgc_lt, lgc_gt, c1, c2, c3, c4]
    exact none_case (Or.inr (Or.inr (Or.inr (Or.inl (z4.mp c4)))))
  by_cases c5 : O ≤ T
  · rw [z1] at c1
    rw [z2] at c2
    rw [z3] at c3
    rw [z4] at c4
    have c5' := z5.mp c5
    have i1 : hc_inn (nI ia) cx := inn_nI (by omega) (by omega)
    have i2 : hc_inn (nI ia) cy := inn_nI (by omega) (by omega)
    have e4 : (nI ia).toNatClampNeg = ia := nI_clamp (by omega)
    rw [← z1] at c1
    rw [← z2] at c2
    rw [← z3] at c3
    rw [← z4] at c4
    simp only [hm38_190, hm38_192, hm38_193, hm38_194, hm38_197, hm38_199, hm38_200, hm38_201, hm38_204, hm38_206, hm38_208, hm38_209, hm38_212, hm38_214, hm38_215, hm38_216, hm38_219, hm38_221, hm38_223, hm38_224, hm38_227, hm38_228, hm38_229, hm38_230, hm38_233, hm38_236, hm38_237, hm38_238, hm38_239, hm38_242, hm38_244, hm38_245, hm38_246, hm38_247, hm38_249, hm38_250, hm38_253, hm38_255, hm38_256, hm38_259, hm38_260, hm38_261, hm38_264, hm38_267, hm38_268, hm38_269, hm38_270, hm38_273, hm38_275, hm38_276, hm38_278, hm38_279, hm38_281, hm38_282, hm38_285, hm38_287, hm38_288, hm38_291, hm38_292, hm38_295, hc_on_some, hc_get, hc_put, hc_ri, hc_rl, hc_is, hc_row, hc_wr, hc_mov, hc_smi, hc_sml, hc_fv, hc_ld, hc_kd, hc_sto, hc_pre, hc_two, hc_inc, hc_psh, hc_kp, hc_k1, hc_np, hc_bk_rf, hc_bk_gA, hc_set_ap, hc_set_set, Value.category, List.getElem?_cons_zero, List.getElem?_cons_succ, List.set_cons_zero, List.set_cons_succ, List.length_cons, List.length_nil, List.map_cons, List.map_nil, reduceIte, Nat.reduceAdd, Nat.reduceSub, Nat.reduceBEq, Nat.reduceEqDiff, Nat.reduceLeDiff, Nat.reduceLT, true_and, and_true, Bool.false_eq_true, reduceCtorEq, if_true, if_false, hc_xx, hc_ofNat, hc_10, not_true_eq_false, not_false_eq_true, ge_iff_le, lgc_eq, lgc_lt, lgc_gt, lgc_le, c1, c2, c3, c4, c5, h0, hs, i1, i2, e4]
    rw [z1] at c1
    rw [z2] at c2
    rw [z3] at c3
    rw [z4] at c4
    have q1 := quo64 (A := A) (T := T) (d := dx) (by omega) hT2 (by omega) (by omega) d1 d2
    have q2 := quo64 (A := A) (T := T) (d := dy) (by omega) hT2 (by omega) (by omega) d3 d4
    have b1 := quo_bd (A := A.toInt) (T := T.toInt) (d := dx.toInt) (by omega) (by omega) (by omega) d1 d2
    have b2 := quo_bd (A := A.toInt) (T := T.toInt) (d := dy.toInt) (by omega) (by omega) (by omega) d3 d4
    have y1 := (fx ia).le_toInt
    have y2 := (fx ia).toInt_lt
    have y3 := (fy ia).le_toInt
    have y4 := (fy ia).toInt_lt
    refine sp_fdv (by rw [q1.2.1]; omega) (by rw [q1.1]; omega) fun r1 hr1 => ?_
    rw [q1.1, q1.2.1] at hr1
    simp only [hm38_259, hm38_260, hm38_261, hm38_264, hm38_267, hm38_268, hm38_269, hm38_270, hm38_273, hm38_275, hm38_276, hm38_278, hm38_279, hm38_281, hm38_282, hm38_285, hm38_287, hm38_288, hm38_291, hm38_292, hm38_295, hc_on_some, hc_get, hc_put, hc_ri, hc_rl, hc_is, hc_row, hc_wr, hc_mov, hc_smi, hc_sml, hc_fv, hc_ld, hc_kd, hc_sto, hc_pre, hc_two, hc_inc, hc_psh, hc_kp, hc_k1, hc_np, hc_bk_rf, hc_bk_gA, hc_set_ap, hc_set_set, Value.category, List.getElem?_cons_zero, List.getElem?_cons_succ, List.set_cons_zero, List.set_cons_succ, List.length_cons, List.length_nil, List.map_cons, List.map_nil, reduceIte, Nat.reduceAdd, Nat.reduceSub, Nat.reduceBEq, Nat.reduceEqDiff, Nat.reduceLeDiff, Nat.reduceLT, true_and, and_true, Bool.false_eq_true, reduceCtorEq, if_true, if_false, hc_xx, hc_ofNat, hc_10, not_true_eq_false, not_false_eq_true, ge_iff_le, h0, hs, i1, i2, e4]
    refine sp_fdv (by rw [q2.2.1]; omega) (by rw [q2.1]; omega) fun r2 hr2 => ?_
    rw [q2.1, q2.2.1] at hr2
    simp only [hm38_291, hm38_292, hm38_295, hc_on_some, hc_get, hc_put, hc_ri, hc_rl, hc_is, hc_row, hc_wr, hc_mov, hc_smi, hc_sml, hc_fv, hc_ld, hc_kd, hc_sto, hc_pre, hc_two, hc_inc, hc_psh, hc_kp, hc_k1, hc_np, hc_bk_rf, hc_bk_gA, hc_set_ap, hc_set_set, Value.category, List.getElem?_cons_zero, List.getElem?_cons_succ, List.set_cons_zero, List.set_cons_succ, List.length_cons, List.length_nil, List.map_cons, List.map_nil, reduceIte, Nat.reduceAdd, Nat.reduceSub, Nat.reduceBEq, Nat.reduceEqDiff, Nat.reduceLeDiff, Nat.reduceLT, true_and, and_true, Bool.false_eq_true, reduceCtorEq, if_true, if_false, hc_xx, hc_ofNat, hc_10, not_true_eq_false, not_false_eq_true, ge_iff_le, h0]
    have s1 : ((fx ia).toInt64 + r1).toInt = (fx ia).toInt + r1.toInt := by rw [i64_add (by rw [i64_of32]; omega) (by rw [i64_of32]; omega), i64_of32]
    have s2 : ((fy ia).toInt64 + r2).toInt = (fy ia).toInt + r2.toInt := by rw [i64_add (by rw [i64_of32]; omega) (by rw [i64_of32]; omega), i64_of32]
    refine sp_heat h0 h hP hm (by rw [s1]; omega) (by rw [s2]; omega) fun G' o' hP' hcr => ?_
    dsimp only
    rw [hc_bk_np rfl rfl]
    simp only [hm38_295, hc_on_some, hc_get, hc_put, hc_ri, hc_rl, hc_is, hc_row, hc_wr, hc_mov, hc_smi, hc_sml, hc_fv, hc_ld, hc_kd, hc_sto, hc_pre, hc_two, hc_inc, hc_psh, hc_kp, hc_k1, hc_np, hc_bk_rf, hc_bk_gA, hc_set_ap, hc_set_set, Value.category, List.getElem?_cons_zero, List.getElem?_cons_succ, List.set_cons_zero, List.set_cons_succ, List.length_cons, List.length_nil, List.map_cons, List.map_nil, reduceIte, Nat.reduceAdd, Nat.reduceSub, Nat.reduceBEq, Nat.reduceEqDiff, Nat.reduceLeDiff, Nat.reduceLT, true_and, and_true, Bool.false_eq_true, reduceCtorEq, if_true, if_false, hc_xx, hc_ofNat, hc_10, not_true_eq_false, not_false_eq_true, ge_iff_le]
    refine K G' o' ?_ hcr
    rw [crs1, if_neg (by omega)]
    rw [s1, s2, hr1, hr2] at hP'
    exact hP'
  · simp only [hm38_190, hm38_192, hm38_193, hm38_194, hm38_197, hm38_199, hm38_200, hm38_201, hm38_204, hm38_206, hm38_208, hm38_209, hm38_212, hm38_214, hm38_215, hm38_216, hm38_219, hm38_221, hm38_223, hm38_224, hm38_227, hm38_228, hm38_229, hm38_230, hm38_233, hm38_236, hm38_237, hm38_238, hm38_239, hm38_242, hm38_244, hm38_245, hm38_246, hm38_247, hm38_249, hm38_250, hm38_253, hm38_255, hm38_256, hm38_259, hm38_260, hm38_261, hm38_264, hm38_267, hm38_268, hm38_269, hm38_270, hm38_273, hm38_275, hm38_276, hm38_278, hm38_279, hm38_281, hm38_282, hm38_285, hm38_287, hm38_288, hm38_291, hm38_292, hm38_295, hc_on_some, hc_get, hc_put, hc_ri, hc_rl, hc_is, hc_row, hc_wr, hc_mov, hc_smi, hc_sml, hc_fv, hc_ld, hc_kd, hc_sto, hc_pre, hc_two, hc_inc, hc_psh, hc_kp, hc_k1, hc_np, hc_bk_rf, hc_bk_gA, hc_set_ap, hc_set_set, Value.category, List.getElem?_cons_zero, List.getElem?_cons_succ, List.set_cons_zero, List.set_cons_succ, List.length_cons, List.length_nil, List.map_cons, List.map_nil, reduceIte, Nat.reduceAdd, Nat.reduceSub, Nat.reduceBEq, Nat.reduceEqDiff, Nat.reduceLeDiff, Nat.reduceLT, true_and, and_true, Bool.false_eq_true, reduceCtorEq, if_true, if_false, hc_xx, hc_ofNat, hc_10, not_true_eq_false, not_false_eq_true, ge_iff_le, lgc_eq, lgc_lt, lgc_gt, lgc_le, c1, c2, c3, c4, c5]
    exact none_case (Or.inr (Or.inr (Or.inr (Or.inr (by rw [z5] at c5; omega)))))
theorem crs1_two {x y dx dy T A O : Int} : crs2 x y dx dy T A O = if T < 0 then crs1 x y dx dy (-T) (-A) (-O) else crs1 x y dx dy T A O := rfl
theorem sp_hx2 {a b ia ib n : Nat} {l : List Int} {o : hc_O} {cx cy : Nat} {fx fy : Nat → Int32} {dx dy odx ody gx gy T A O : Int64} (h0 : σ 0 = some (oHC a b)) (h : σ 10 = some o) (hP : KSo o l) (hm : l.length < 20000) (hs : σ 1 = some (oPl n cx fx cy fy)) (hi : ia < cx) (hi2 : ia < cy) (hc : cx ≤ 12000) (hc2 : cy ≤ 12000)
    (hT : -2000000000000 ≤ T.toInt) (hT2 : T.toInt ≤ 2000000000000) (hA : -4000000000000 ≤ A.toInt) (hO : -4000000000000 ≤ O.toInt) (d1 : -1000000 ≤ dx.toInt) (d2 : dx.toInt ≤ 1000000) (d3 : -1000000 ≤ dy.toInt) (d4 : dy.toInt ≤ 1000000)
    (K : ∀ G' o', KSo o' (l ++ kcl (crs2 (fx ia).toInt (fy ia).toInt dx.toInt dy.toInt T.toInt A.toInt O.toInt).toList) → hc_cr G σ G' (hc_set σ 10 o') → Q G' (hc_set σ 10 o') none none) :
    hc_wp G σ none 38 168 [some (.inl (.ref 0)), some (.inl (.int (nI ia))), some (.inl (.int (nI ib))), some (.inl (.long dx)), none, some (.inl (.long dy)), none, some (.inl (.long odx)), none, some (.inl (.long ody)), none, some (.inl (.long gx)), none, some (.inl (.long gy)), none, some (.inl (.long T)), none, some (.inl (.long A)), none, some (.inl (.long O)), none] [] Q := by
  have l0 : (0 : Int64).toInt = 0 := rfl
  have z1 : (0 ≤ T) ↔ 0 ≤ T.toInt := by rw [Int64.le_iff_toInt_le, l0]
  by_cases c1 : 0 ≤ T
  · have c2 := z1.mp c1
    rw [crs1_two, if_neg (by omega)] at K
    simp only [hm38_168, hm38_170, hm38_171, hm38_172, hm38_175, hm38_177, hm38_178, hm38_180, hm38_182, hm38_183, hm38_185, hm38_187, hm38_188, hc_on_some, hc_get, hc_put, hc_ri, hc_rl, hc_is, hc_row, hc_wr, hc_mov, hc_smi, hc_sml, hc_fv, hc_ld, hc_kd, hc_sto, hc_pre, hc_two, hc_inc, hc_psh, hc_kp, hc_k1, hc_np, hc_bk_rf, hc_bk_gA, hc_set_ap, hc_set_set, Value.category, List.getElem?_cons_zero, List.getElem?_cons_succ, List.set_cons_zero, List.set_cons_succ, List.length_cons, List.length_nil, List.map_cons, List.map_nil, reduceIte, Nat.reduceAdd, Nat.reduceSub, Nat.reduceBEq, Nat.reduceEqDiff, Nat.reduceLeDiff, Nat.reduceLT, true_and, and_true, Bool.false_eq_true, reduceCtorEq, if_true, if_false, hc_xx, hc_ofNat, hc_10, not_true_eq_false, not_false_eq_true, ge_iff_le, lgc_ge, c1]
    exact sp_hx1 h0 h hP hm hs hi hi2 hc hc2 c2 hT2 d1 d2 d3 d4 K
  · have c2 : T.toInt < 0 := by
      rw [z1] at c1
      omega
    rw [crs1_two, if_pos c2, ← i64_neg (a := T) (by omega), ← i64_neg (a := A) (by omega), ← i64_neg (a := O) (by omega)] at K
    simp only [hm38_168, hm38_170, hm38_171, hm38_172, hm38_175, hm38_177, hm38_178, hm38_180, hm38_182, hm38_183, hm38_185, hm38_187, hm38_188, hc_on_some, hc_get, hc_put, hc_ri, hc_rl, hc_is, hc_row, hc_wr, hc_mov, hc_smi, hc_sml, hc_fv, hc_ld, hc_kd, hc_sto, hc_pre, hc_two, hc_inc, hc_psh, hc_kp, hc_k1, hc_np, hc_bk_rf, hc_bk_gA, hc_set_ap, hc_set_set, Value.category, List.getElem?_cons_zero, List.getElem?_cons_succ, List.set_cons_zero, List.set_cons_succ, List.length_cons, List.length_nil, List.map_cons, List.map_nil, reduceIte, Nat.reduceAdd, Nat.reduceSub, Nat.reduceBEq, Nat.reduceEqDiff, Nat.reduceLeDiff, Nat.reduceLT, true_and, and_true, Bool.false_eq_true, reduceCtorEq, if_true, if_false, hc_xx, hc_ofNat, hc_10, not_true_eq_false, not_false_eq_true, ge_iff_le, lgc_ge, c1]
    have n1 : (-T).toInt = -T.toInt := i64_neg (by omega)
    exact sp_hx1 h0 h hP hm hs hi hi2 hc hc2 (by omega) (by omega) d1 d2 d3 d4 K
theorem det64 {a b c d : Int64} (h1 : -1000000 ≤ a.toInt ∧ a.toInt ≤ 1000000) (h2 : -1000000 ≤ b.toInt ∧ b.toInt ≤ 1000000) (h3 : -1000000 ≤ c.toInt ∧ c.toInt ≤ 1000000) (h4 : -1000000 ≤ d.toInt ∧ d.toInt ≤ 1000000) : (a * b - c * d).toInt = a.toInt * b.toInt - c.toInt * d.toInt ∧ -2000000000000 ≤ a.toInt * b.toInt - c.toInt * d.toInt ∧ a.toInt * b.toInt - c.toInt * d.toInt ≤ 2000000000000 := by
  have b1 := mbd (a := a.toInt) (b := b.toInt) 1000000 1000000 (by omega) (by omega) (by omega) (by omega)
  have b2 := mbd (a := c.toInt) (b := d.toInt) 1000000 1000000 (by omega) (by omega) (by omega) (by omega)
  have e1 : (a * b).toInt = a.toInt * b.toInt := i64_mul (by omega) (by omega)
  have e2 : (c * d).toInt = c.toInt * d.toInt := i64_mul (by omega) (by omega)
  refine ⟨?_, by omega, by omega⟩
  rw [i64_sub (by rw [e1, e2]; omega) (by rw [e1, e2]; omega), e1, e2]
theorem dif64 {a b : Int32} (h1 : -500000 ≤ a.toInt ∧ a.toInt ≤ 500000) (h2 : -500000 ≤ b.toInt ∧ b.toInt ≤ 500000) : (a - b).toInt64.toInt = a.toInt - b.toInt ∧ (-1000000 ≤ (a - b).toInt64.toInt ∧ (a - b).toInt64.toInt ≤ 1000000) := by
  have e : (a - b).toInt64.toInt = a.toInt - b.toInt := by rw [i64_of32, i32_sub (by omega) (by omega)]
  exact ⟨e, by omega⟩
/-- edges by their two rows -/
abbrev edz (S E : List (Int × Int)) (i : Nat) : Ed := ((S[i]?.getD (0, 0)).1, (S[i]?.getD (0, 0)).2, (E[i]?.getD (0, 0)).1, (E[i]?.getD (0, 0)).2)
abbrev inB (l : List (Int × Int)) : Prop := ∀ q ∈ l, inb q.1 q.2
theorem pl_at {cx : Nat} {fx : Nat → Int32} {l : List (Int × Int)} (hx : CI fx (l.map Prod.fst)) (hb : inB l) {i : Nat} (hi : i < l.length) : (fx i).toInt = (l[i]?.getD (0, 0)).1 ∧ (-500000 ≤ (fx i).toInt ∧ (fx i).toInt ≤ 500000) := by
  have e : (fx i).toInt = l[i].1 := hx i _ (by rw [List.getElem?_map, List.getElem?_eq_getElem hi]; rfl)
  have m := hb l[i] (List.getElem_mem hi)
  rw [List.getElem?_eq_getElem hi, e]
  exact ⟨rfl, m.1, m.2.1⟩
theorem pl_at2 {cy : Nat} {fy : Nat → Int32} {l : List (Int × Int)} (hy : CI fy (l.map Prod.snd)) (hb : inB l) {i : Nat} (hi : i < l.length) : (fy i).toInt = (l[i]?.getD (0, 0)).2 ∧ (-500000 ≤ (fy i).toInt ∧ (fy i).toInt ≤ 500000) := by
  have e : (fy i).toInt = l[i].2 := hy i _ (by rw [List.getElem?_map, List.getElem?_eq_getElem hi]; rfl)
  have m := hb l[i] (List.getElem_mem hi)
  rw [List.getElem?_eq_getElem hi, e]
  exact ⟨rfl, m.2.2.1, m.2.2.2⟩
theorem sp_hx {a b ia ib : Nat} {l : List Int} {o os oe : hc_O} {S E : List (Int × Int)} (h0 : σ 0 = some (oHC a b)) (h : σ 10 = some o) (hP : KSo o l) (hm : l.length < 20000) (hs : σ 1 = some os) (hS : PLo os S S.length) (he : σ 4 = some oe) (hE : PLo oe E E.length) (hb : inB S) (hb2 : inB E) (hle : E.length = S.length) (hi : ia < S.length) (hi2 : ib < S.length)
    (K : ∀ G' o', KSo o' (l ++ kcl (crs (edz S E ia) (edz S E ib)).toList) → hc_cr G σ G' (hc_set σ 10 o') → Q G' (hc_set σ 10 o') none none) :
    hc_wp G σ none 38 0 [some (.inl (.ref 0)), some (.inl (.int (nI ia))), some (.inl (.int (nI ib))), none, none, none, none, none, none, none, none, none, none, none, none, none, none, none, none, none, none] [] Q := by
  obtain ⟨cx, fx, cy, fy, rfl, h1, h2, h3, h4, h5, h6, h7, h8⟩ := hS
  obtain ⟨cx2, fx2, cy2, fy2, rfl, g1, g2, g3, g4, g5, g6, g7, g8⟩ := hE
  have i1 : hc_inn (nI ia) cx := inn_nI (by omega) (by omega)
  have i2 : hc_inn (nI ia) cy := inn_nI (by omega) (by omega)
  have i3 : hc_inn (nI ib) cx := inn_nI (by omega) (by omega)
  have i4 : hc_inn (nI ib) cy := inn_nI (by omega) (by omega)
  have i5 : hc_inn (nI ia) cx2 := inn_nI (by omega) (by omega)
  have i6 : hc_inn (nI ia) cy2 := inn_nI (by omega) (by omega)
  have i7 : hc_inn (nI ib) cx2 := inn_nI (by omega) (by omega)
  have i8 : hc_inn (nI ib) cy2 := inn_nI (by omega) (by omega)
  have e1 : (nI ia).toNatClampNeg = ia := nI_clamp (by omega)
  have e2 : (nI ib).toNatClampNeg = ib := nI_clamp (by omega)
  have ax := pl_at (cx := cx) h7 hb hi
  have ay := pl_at2 (cy := cy) h8 hb hi
  have bx := pl_at (cx := cx) h7 hb hi2
  have bY := pl_at2 (cy := cy) h8 hb hi2
  have ax2 := pl_at (cx := cx) g7 hb2 (show ia < E.length by omega)
  have ay2 := pl_at2 (cy := cy) g8 hb2 (show ia < E.length by omega)
  have bx2 := pl_at (cx := cx) g7 hb2 (show ib < E.length by omega)
  have by2 := pl_at2 (cy := cy) g8 hb2 (show ib < E.length by omega)
  have dx := dif64 ax2.2 ax.2
  have dy := dif64 ay2.2 ay.2
  have ox := dif64 bx2.2 bx.2
  have oy := dif64 by2.2 bY.2
  have gx := dif64 bx.2 ax.2
  have gy := dif64 bY.2 ay.2
  have t1 := det64 dx.2 oy.2 dy.2 ox.2
  have t2 := det64 gx.2 oy.2 gy.2 ox.2
  have t3 := det64 gx.2 dy.2 gy.2 dx.2
  simp only [hm38_0, hm38_1, hm38_4, hm38_7, hm38_8, hm38_9, hm38_10, hm38_13, hm38_16, hm38_17, hm38_18, hm38_19, hm38_20, hm38_21, hm38_22, hm38_25, hm38_28, hm38_29, hm38_30, hm38_31, hm38_34, hm38_37, hm38_38, hm38_39, hm38_40, hm38_41, hm38_43, hm38_44, hm38_47, hm38_50, hm38_51, hm38_52, hm38_53, hm38_56, hm38_59, hm38_60, hm38_61, hm38_62, hm38_63, hm38_65, hm38_66, hm38_69, hm38_72, hm38_73, hm38_74, hm38_75, hm38_78, hm38_81, hm38_82, hm38_83, hm38_84, hm38_85, hm38_87, hm38_88, hm38_91, hm38_94, hm38_95, hm38_96, hm38_97, hm38_100, hm38_103, hm38_104, hm38_105, hm38_106, hm38_107, hm38_109, hm38_110, hm38_113, hm38_116, hm38_117, hm38_118, hm38_119, hm38_122, hm38_125, hm38_126, hm38_127, hm38_128, hm38_129, hc_on_some, hc_get, hc_put, hc_ri, hc_rl, hc_is, hc_row, hc_wr, hc_mov, hc_smi, hc_sml, hc_fv, hc_ld, hc_kd, hc_sto, hc_pre, hc_two, hc_inc, hc_psh, hc_kp, hc_k1, hc_np, hc_bk_rf, hc_bk_gA, hc_set_ap, hc_set_set, Value.category, List.getElem?_cons_zero, List.getElem?_cons_succ, List.set_cons_zero, List.set_cons_succ, List.length_cons, List.length_nil, List.map_cons, List.map_nil, reduceIte, Nat.reduceAdd, Nat.reduceSub, Nat.reduceBEq, Nat.reduceEqDiff, Nat.reduceLeDiff, Nat.reduceLT, true_and, and_true, Bool.false_eq_true, reduceCtorEq, if_true, if_false, hc_xx, hc_ofNat, hc_10, not_true_eq_false, not_false_eq_true, ge_iff_le, h0, hs, he, i1, i2, i3, i4, i5, i6, i7, i8, e1, e2]
  simp only [hm38_131, hm38_132, hm38_134, hm38_135, hm38_137, hm38_139, hm38_140, hm38_141, hm38_143, hm38_145, hm38_147, hm38_148, hm38_150, hm38_152, hm38_153, hm38_154, hm38_156, hm38_158, hm38_160, hm38_161, hm38_163, hm38_164, hm38_165, hm38_166, hc_on_some, hc_get, hc_put, hc_ri, hc_rl, hc_is, hc_row, hc_wr, hc_mov, hc_smi, hc_sml, hc_fv, hc_ld, hc_kd, hc_sto, hc_pre, hc_two, hc_inc, hc_psh, hc_kp, hc_k1, hc_np, hc_bk_rf, hc_bk_gA, hc_set_ap, hc_set_set, Value.category, List.getElem?_cons_zero, List.getElem?_cons_succ, List.set_cons_zero, List.set_cons_succ, List.length_cons, List.length_nil, List.map_cons, List.map_nil, reduceIte, Nat.reduceAdd, Nat.reduceSub, Nat.reduceBEq, Nat.reduceEqDiff, Nat.reduceLeDiff, Nat.reduceLT, true_and, and_true, Bool.false_eq_true, reduceCtorEq, if_true, if_false, hc_xx, hc_ofNat, hc_10, not_true_eq_false, not_false_eq_true, ge_iff_le]
  refine sp_hx2 h0 h hP hm hs (by omega) (by omega) h5 h6 (by omega) (by omega) (by omega) (by omega) dx.2.1 dx.2.2 dy.2.1 dy.2.2 fun G' o' hP' hcr => K G' o' ?_ hcr
  rw [t1.1, t2.1, t3.1, dx.1, dy.1, ox.1, oy.1, gx.1, gy.1, ax.1, ay.1, ax2.1, ay2.1, bx.1, bY.1, bx2.1, by2.1] at hP'
  exact hP'
end S27
