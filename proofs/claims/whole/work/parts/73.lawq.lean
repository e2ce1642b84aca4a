/-! the law's calls that only ask -/
section S73
variable {G : hc_G} {σ : hc_H} {Q : hc_Q} {L n B0 : Nat} {xs : Nat → Int32}
theorem law_nodes (hLP : LwP L xs B0 n G σ) (hn : 5 * n + 5 ≤ L) (hL : L ≤ 2560) (K : ∀ G' σ', LwP L xs B0 (n + 1) G' σ' → hc_wp G' σ' none 92 383 [some (.inl (.retAddr 0)), some (.inl (.ref 0)), some (.inl (.ref 30)), some (.inl (.int (nI (5 * n))))] [] Q) : hc_wp G σ none 92 202 [some (.inl (.retAddr 0)), some (.inl (.ref 0)), some (.inl (.ref 30)), some (.inl (.int (nI (5 * n))))] [] Q := by
  have hU := K G σ hLP.up
  obtain ⟨⟨S, E, P, N, Ws, Ps, hC, hM, hI, hS, hP, hO⟩, hcost, h1000, hnone⟩ := hLP
  obtain ⟨q1, q2, q3, q4, q5, q6⟩ := hO
  have lps := MOD.pl hM
  obtain ⟨a, b, h0⟩ := CLS.h0 hC
  obtain ⟨o30, fs, h30, rfl⟩ := MOD.h30 hM
  simp only [hm92_202, hm92_203, hc_on_some, hc_get, hc_put, hc_ri, hc_rl, hc_is, hc_row, hc_wr, hc_mov, hc_smi, hc_sml, hc_fv, hc_ld, hc_kd, hc_sto, hc_pre, hc_two, hc_inc, hc_psh, hc_kp, hc_k1, hc_np, hc_bk_rf, hc_bk_gA, hc_set_ap, hc_set_set, Value.category, List.getElem?_cons_zero, List.getElem?_cons_succ, List.set_cons_zero, List.set_cons_succ, List.length_cons, List.length_nil, List.map_cons, List.map_nil, reduceIte, Nat.reduceAdd, Nat.reduceSub, Nat.reduceBEq, Nat.reduceEqDiff, Nat.reduceLeDiff, Nat.reduceLT, true_and, and_true, Bool.false_eq_true, reduceCtorEq, if_true, if_false, hc_xx, hc_ofNat, hc_10, not_true_eq_false, not_false_eq_true, ge_iff_le, h0, h30, h1000, eq_self]
  refine sp_nodes hC ?_
  simp only [hm92_206, hm92_207, hc_on_some, hc_get, hc_put, hc_ri, hc_rl, hc_is, hc_row, hc_wr, hc_mov, hc_smi, hc_sml, hc_fv, hc_ld, hc_kd, hc_sto, hc_pre, hc_two, hc_inc, hc_psh, hc_kp, hc_k1, hc_np, hc_bk_rf, hc_bk_gA, hc_set_ap, hc_set_set, Value.category, List.getElem?_cons_zero, List.getElem?_cons_succ, List.set_cons_zero, List.set_cons_succ, List.length_cons, List.length_nil, List.map_cons, List.map_nil, reduceIte, Nat.reduceAdd, Nat.reduceSub, Nat.reduceBEq, Nat.reduceEqDiff, Nat.reduceLeDiff, Nat.reduceLT, true_and, and_true, Bool.false_eq_true, reduceCtorEq, if_true, if_false, hc_xx, hc_ofNat, hc_10, not_true_eq_false, not_false_eq_true, ge_iff_le, h0, h30, h1000, eq_self]
  refine sp_mnodes hM ?_
  simp only [hm92_210, hm92_213, hm92_214, hc_on_some, hc_get, hc_put, hc_ri, hc_rl, hc_is, hc_row, hc_wr, hc_mov, hc_smi, hc_sml, hc_fv, hc_ld, hc_kd, hc_sto, hc_pre, hc_two, hc_inc, hc_psh, hc_kp, hc_k1, hc_np, hc_bk_rf, hc_bk_gA, hc_set_ap, hc_set_set, Value.category, List.getElem?_cons_zero, List.getElem?_cons_succ, List.set_cons_zero, List.set_cons_succ, List.length_cons, List.length_nil, List.map_cons, List.map_nil, reduceIte, Nat.reduceAdd, Nat.reduceSub, Nat.reduceBEq, Nat.reduceEqDiff, Nat.reduceLeDiff, Nat.reduceLT, true_and, and_true, Bool.false_eq_true, reduceCtorEq, if_true, if_false, hc_xx, hc_ofNat, hc_10, not_true_eq_false, not_false_eq_true, ge_iff_le, eq_self]
  exact hU
theorem law_pieces (hLP : LwP L xs B0 n G σ) (hn : 5 * n + 5 ≤ L) (hL : L ≤ 2560) (K : ∀ G' σ', LwP L xs B0 (n + 1) G' σ' → hc_wp G' σ' none 92 383 [some (.inl (.retAddr 0)), some (.inl (.ref 0)), some (.inl (.ref 30)), some (.inl (.int (nI (5 * n))))] [] Q) : hc_wp G σ none 92 281 [some (.inl (.retAddr 0)), some (.inl (.ref 0)), some (.inl (.ref 30)), some (.inl (.int (nI (5 * n))))] [] Q := by
  have hU := K G σ hLP.up
  obtain ⟨⟨S, E, P, N, Ws, Ps, hC, hM, hI, hS, hP, hO⟩, hcost, h1000, hnone⟩ := hLP
  obtain ⟨q1, q2, q3, q4, q5, q6⟩ := hO
  have lps := MOD.pl hM
  obtain ⟨a, b, h0⟩ := CLS.h0 hC
  obtain ⟨o30, fs, h30, rfl⟩ := MOD.h30 hM
  simp only [hm92_281, hm92_282, hc_on_some, hc_get, hc_put, hc_ri, hc_rl, hc_is, hc_row, hc_wr, hc_mov, hc_smi, hc_sml, hc_fv, hc_ld, hc_kd, hc_sto, hc_pre, hc_two, hc_inc, hc_psh, hc_kp, hc_k1, hc_np, hc_bk_rf, hc_bk_gA, hc_set_ap, hc_set_set, Value.category, List.getElem?_cons_zero, List.getElem?_cons_succ, List.set_cons_zero, List.set_cons_succ, List.length_cons, List.length_nil, List.map_cons, List.map_nil, reduceIte, Nat.reduceAdd, Nat.reduceSub, Nat.reduceBEq, Nat.reduceEqDiff, Nat.reduceLeDiff, Nat.reduceLT, true_and, and_true, Bool.false_eq_true, reduceCtorEq, if_true, if_false, hc_xx, hc_ofNat, hc_10, not_true_eq_false, not_false_eq_true, ge_iff_le, h0, h30, h1000, eq_self]
  refine sp_npieces hC ?_
  simp only [hm92_285, hm92_286, hc_on_some, hc_get, hc_put, hc_ri, hc_rl, hc_is, hc_row, hc_wr, hc_mov, hc_smi, hc_sml, hc_fv, hc_ld, hc_kd, hc_sto, hc_pre, hc_two, hc_inc, hc_psh, hc_kp, hc_k1, hc_np, hc_bk_rf, hc_bk_gA, hc_set_ap, hc_set_set, Value.category, List.getElem?_cons_zero, List.getElem?_cons_succ, List.set_cons_zero, List.set_cons_succ, List.length_cons, List.length_nil, List.map_cons, List.map_nil, reduceIte, Nat.reduceAdd, Nat.reduceSub, Nat.reduceBEq, Nat.reduceEqDiff, Nat.reduceLeDiff, Nat.reduceLT, true_and, and_true, Bool.false_eq_true, reduceCtorEq, if_true, if_false, hc_xx, hc_ofNat, hc_10, not_true_eq_false, not_false_eq_true, ge_iff_le, h0, h30, h1000, eq_self]
  refine sp_mnpieces hM ?_
  simp only [hm92_289, hm92_292, hm92_293, hc_on_some, hc_get, hc_put, hc_ri, hc_rl, hc_is, hc_row, hc_wr, hc_mov, hc_smi, hc_sml, hc_fv, hc_ld, hc_kd, hc_sto, hc_pre, hc_two, hc_inc, hc_psh, hc_kp, hc_k1, hc_np, hc_bk_rf, hc_bk_gA, hc_set_ap, hc_set_set, Value.category, List.getElem?_cons_zero, List.getElem?_cons_succ, List.set_cons_zero, List.set_cons_succ, List.length_cons, List.length_nil, List.map_cons, List.map_nil, reduceIte, Nat.reduceAdd, Nat.reduceSub, Nat.reduceBEq, Nat.reduceEqDiff, Nat.reduceLeDiff, Nat.reduceLT, true_and, and_true, Bool.false_eq_true, reduceCtorEq, if_true, if_false, hc_xx, hc_ofNat, hc_10, not_true_eq_false, not_false_eq_true, ge_iff_le, eq_self]
  exact hU
theorem law_node (hLP : LwP L xs B0 n G σ) (hn : 5 * n + 5 ≤ L) (hL : L ≤ 2560) (K : ∀ G' σ', LwP L xs B0 (n + 1) G' σ' → hc_wp G' σ' none 92 383 [some (.inl (.retAddr 0)), some (.inl (.ref 0)), some (.inl (.ref 30)), some (.inl (.int (nI (5 * n))))] [] Q) : hc_wp G σ none 92 215 [some (.inl (.retAddr 0)), some (.inl (.ref 0)), some (.inl (.ref 30)), some (.inl (.int (nI (5 * n))))] [] Q := by
  have hU := K G σ hLP.up
  obtain ⟨⟨S, E, P, N, Ws, Ps, hC, hM, hI, hS, hP, hO⟩, hcost, h1000, hnone⟩ := hLP
  obtain ⟨q1, q2, q3, q4, q5, q6⟩ := hO
  have lps := MOD.pl hM
  obtain ⟨a, b, h0⟩ := CLS.h0 hC
  obtain ⟨o30, fs, h30, rfl⟩ := MOD.h30 hM
  have i1 : hc_inn (nI (5 * n + 1)) L := inn_nI (by omega) (by omega)
  have k1 : (nI (5 * n + 1)).toNatClampNeg = 5 * n + 1 := nI_clamp (by omega)
  have i2 : hc_inn (nI (5 * n + 2)) L := inn_nI (by omega) (by omega)
  have k2 : (nI (5 * n + 2)).toNatClampNeg = 5 * n + 2 := nI_clamp (by omega)
  have e2 : nI (5 * n) + 2 = nI (5 * n + 2) := nI_add _ 2
  simp only [hm92_215, hm92_216, hm92_217, hm92_218, hm92_219, hm92_220, hm92_221, hm92_222, hm92_223, hm92_224, hm92_225, hm92_226, hc_on_some, hc_get, hc_put, hc_ri, hc_rl, hc_is, hc_row, hc_wr, hc_mov, hc_smi, hc_sml, hc_fv, hc_ld, hc_kd, hc_sto, hc_pre, hc_two, hc_inc, hc_psh, hc_kp, hc_k1, hc_np, hc_bk_rf, hc_bk_gA, hc_set_ap, hc_set_set, Value.category, List.getElem?_cons_zero, List.getElem?_cons_succ, List.set_cons_zero, List.set_cons_succ, List.length_cons, List.length_nil, List.map_cons, List.map_nil, reduceIte, Nat.reduceAdd, Nat.reduceSub, Nat.reduceBEq, Nat.reduceEqDiff, Nat.reduceLeDiff, Nat.reduceLT, true_and, and_true, Bool.false_eq_true, reduceCtorEq, if_true, if_false, hc_xx, hc_ofNat, hc_10, not_true_eq_false, not_false_eq_true, ge_iff_le, h0, h30, h1000, eq_self, i1, k1, nI_1, i2, k2, e2]
  refine sp_node hC fun v hv => ?_
  simp only [hm92_229, hm92_230, hm92_231, hm92_232, hm92_233, hm92_234, hm92_235, hm92_236, hm92_237, hm92_238, hm92_239, hm92_240, hc_on_some, hc_get, hc_put, hc_ri, hc_rl, hc_is, hc_row, hc_wr, hc_mov, hc_smi, hc_sml, hc_fv, hc_ld, hc_kd, hc_sto, hc_pre, hc_two, hc_inc, hc_psh, hc_kp, hc_k1, hc_np, hc_bk_rf, hc_bk_gA, hc_set_ap, hc_set_set, Value.category, List.getElem?_cons_zero, List.getElem?_cons_succ, List.set_cons_zero, List.set_cons_succ, List.length_cons, List.length_nil, List.map_cons, List.map_nil, reduceIte, Nat.reduceAdd, Nat.reduceSub, Nat.reduceBEq, Nat.reduceEqDiff, Nat.reduceLeDiff, Nat.reduceLT, true_and, and_true, Bool.false_eq_true, reduceCtorEq, if_true, if_false, hc_xx, hc_ofNat, hc_10, not_true_eq_false, not_false_eq_true, ge_iff_le, h0, h30, h1000, eq_self, i1, k1, nI_1, i2, k2, e2]
  refine sp_mnode hM q1 fun v2 hv2 => ?_
  have ev := AN_one (by omega) hv hv2
  subst ev
  simp only [hm92_243, hm92_246, hm92_247, hc_on_some, hc_get, hc_put, hc_ri, hc_rl, hc_is, hc_row, hc_wr, hc_mov, hc_smi, hc_sml, hc_fv, hc_ld, hc_kd, hc_sto, hc_pre, hc_two, hc_inc, hc_psh, hc_kp, hc_k1, hc_np, hc_bk_rf, hc_bk_gA, hc_set_ap, hc_set_set, Value.category, List.getElem?_cons_zero, List.getElem?_cons_succ, List.set_cons_zero, List.set_cons_succ, List.length_cons, List.length_nil, List.map_cons, List.map_nil, reduceIte, Nat.reduceAdd, Nat.reduceSub, Nat.reduceBEq, Nat.reduceEqDiff, Nat.reduceLeDiff, Nat.reduceLT, true_and, and_true, Bool.false_eq_true, reduceCtorEq, if_true, if_false, hc_xx, hc_ofNat, hc_10, not_true_eq_false, not_false_eq_true, ge_iff_le, eq_self]
  exact hU
theorem law_find (hLP : LwP L xs B0 n G σ) (hn : 5 * n + 5 ≤ L) (hL : L ≤ 2560) (K : ∀ G' σ', LwP L xs B0 (n + 1) G' σ' → hc_wp G' σ' none 92 383 [some (.inl (.retAddr 0)), some (.inl (.ref 0)), some (.inl (.ref 30)), some (.inl (.int (nI (5 * n))))] [] Q) : hc_wp G σ none 92 248 [some (.inl (.retAddr 0)), some (.inl (.ref 0)), some (.inl (.ref 30)), some (.inl (.int (nI (5 * n))))] [] Q := by
  have hU := K G σ hLP.up
  obtain ⟨⟨S, E, P, N, Ws, Ps, hC, hM, hI, hS, hP, hO⟩, hcost, h1000, hnone⟩ := hLP
  obtain ⟨q1, q2, q3, q4, q5, q6⟩ := hO
  have lps := MOD.pl hM
  obtain ⟨a, b, h0⟩ := CLS.h0 hC
  obtain ⟨o30, fs, h30, rfl⟩ := MOD.h30 hM
  have i1 : hc_inn (nI (5 * n + 1)) L := inn_nI (by omega) (by omega)
  have k1 : (nI (5 * n + 1)).toNatClampNeg = 5 * n + 1 := nI_clamp (by omega)
  have i2 : hc_inn (nI (5 * n + 2)) L := inn_nI (by omega) (by omega)
  have k2 : (nI (5 * n + 2)).toNatClampNeg = 5 * n + 2 := nI_clamp (by omega)
  have e2 : nI (5 * n) + 2 = nI (5 * n + 2) := nI_add _ 2
  simp only [hm92_248, hm92_249, hm92_250, hm92_251, hm92_252, hm92_253, hm92_254, hm92_255, hm92_256, hm92_257, hm92_258, hm92_259, hc_on_some, hc_get, hc_put, hc_ri, hc_rl, hc_is, hc_row, hc_wr, hc_mov, hc_smi, hc_sml, hc_fv, hc_ld, hc_kd, hc_sto, hc_pre, hc_two, hc_inc, hc_psh, hc_kp, hc_k1, hc_np, hc_bk_rf, hc_bk_gA, hc_set_ap, hc_set_set, Value.category, List.getElem?_cons_zero, List.getElem?_cons_succ, List.set_cons_zero, List.set_cons_succ, List.length_cons, List.length_nil, List.map_cons, List.map_nil, reduceIte, Nat.reduceAdd, Nat.reduceSub, Nat.reduceBEq, Nat.reduceEqDiff, Nat.reduceLeDiff, Nat.reduceLT, true_and, and_true, Bool.false_eq_true, reduceCtorEq, if_true, if_false, hc_xx, hc_ofNat, hc_10, not_true_eq_false, not_false_eq_true, ge_iff_le, h0, h30, h1000, eq_self, i1, k1, nI_1, i2, k2, e2]
  refine sp_find hC q2 q3 fun v hv => ?_
  simp only [hm92_262, hm92_263, hm92_264, hm92_265, hm92_266, hm92_267, hm92_268, hm92_269, hm92_270, hm92_271, hm92_272, hm92_273, hc_on_some, hc_get, hc_put, hc_ri, hc_rl, hc_is, hc_row, hc_wr, hc_mov, hc_smi, hc_sml, hc_fv, hc_ld, hc_kd, hc_sto, hc_pre, hc_two, hc_inc, hc_psh, hc_kp, hc_k1, hc_np, hc_bk_rf, hc_bk_gA, hc_set_ap, hc_set_set, Value.category, List.getElem?_cons_zero, List.getElem?_cons_succ, List.set_cons_zero, List.set_cons_succ, List.length_cons, List.length_nil, List.map_cons, List.map_nil, reduceIte, Nat.reduceAdd, Nat.reduceSub, Nat.reduceBEq, Nat.reduceEqDiff, Nat.reduceLeDiff, Nat.reduceLT, true_and, and_true, Bool.false_eq_true, reduceCtorEq, if_true, if_false, hc_xx, hc_ofNat, hc_10, not_true_eq_false, not_false_eq_true, ge_iff_le, h0, h30, h1000, eq_self, i1, k1, nI_1, i2, k2, e2]
  refine sp_mfindN hM q1 q2 fun v2 hv2 => ?_
  have ev := AF_one q2 hv hv2
  subst ev
  simp only [hm92_276, hm92_279, hm92_280, hc_on_some, hc_get, hc_put, hc_ri, hc_rl, hc_is, hc_row, hc_wr, hc_mov, hc_smi, hc_sml, hc_fv, hc_ld, hc_kd, hc_sto, hc_pre, hc_two, hc_inc, hc_psh, hc_kp, hc_k1, hc_np, hc_bk_rf, hc_bk_gA, hc_set_ap, hc_set_set, Value.category, List.getElem?_cons_zero, List.getElem?_cons_succ, List.set_cons_zero, List.set_cons_succ, List.length_cons, List.length_nil, List.map_cons, List.map_nil, reduceIte, Nat.reduceAdd, Nat.reduceSub, Nat.reduceBEq, Nat.reduceEqDiff, Nat.reduceLeDiff, Nat.reduceLT, true_and, and_true, Bool.false_eq_true, reduceCtorEq, if_true, if_false, hc_xx, hc_ofNat, hc_10, not_true_eq_false, not_false_eq_true, ge_iff_le, eq_self]
  exact hU
theorem law_piece (hLP : LwP L xs B0 n G σ) (hn : 5 * n + 5 ≤ L) (hL : L ≤ 2560) (K : ∀ G' σ', LwP L xs B0 (n + 1) G' σ' → hc_wp G' σ' none 92 383 [some (.inl (.retAddr 0)), some (.inl (.ref 0)), some (.inl (.ref 30)), some (.inl (.int (nI (5 * n))))] [] Q) : hc_wp G σ none 92 294 [some (.inl (.retAddr 0)), some (.inl (.ref 0)), some (.inl (.ref 30)), some (.inl (.int (nI (5 * n))))] [] Q := by
  have hU := K G σ hLP.up
  obtain ⟨⟨S, E, P, N, Ws, Ps, hC, hM, hI, hS, hP, hO⟩, hcost, h1000, hnone⟩ := hLP
  obtain ⟨q1, q2, q3, q4, q5, q6⟩ := hO
  have lps := MOD.pl hM
  obtain ⟨a, b, h0⟩ := CLS.h0 hC
  obtain ⟨o30, fs, h30, rfl⟩ := MOD.h30 hM
  have i1 : hc_inn (nI (5 * n + 1)) L := inn_nI (by omega) (by omega)
  have k1 : (nI (5 * n + 1)).toNatClampNeg = 5 * n + 1 := nI_clamp (by omega)
  have i2 : hc_inn (nI (5 * n + 2)) L := inn_nI (by omega) (by omega)
  have k2 : (nI (5 * n + 2)).toNatClampNeg = 5 * n + 2 := nI_clamp (by omega)
  have e2 : nI (5 * n) + 2 = nI (5 * n + 2) := nI_add _ 2
  simp only [hm92_294, hm92_295, hm92_296, hm92_297, hm92_298, hm92_299, hm92_300, hm92_301, hm92_302, hm92_303, hm92_304, hm92_305, hc_on_some, hc_get, hc_put, hc_ri, hc_rl, hc_is, hc_row, hc_wr, hc_mov, hc_smi, hc_sml, hc_fv, hc_ld, hc_kd, hc_sto, hc_pre, hc_two, hc_inc, hc_psh, hc_kp, hc_k1, hc_np, hc_bk_rf, hc_bk_gA, hc_set_ap, hc_set_set, Value.category, List.getElem?_cons_zero, List.getElem?_cons_succ, List.set_cons_zero, List.set_cons_succ, List.length_cons, List.length_nil, List.map_cons, List.map_nil, reduceIte, Nat.reduceAdd, Nat.reduceSub, Nat.reduceBEq, Nat.reduceEqDiff, Nat.reduceLeDiff, Nat.reduceLT, true_and, and_true, Bool.false_eq_true, reduceCtorEq, if_true, if_false, hc_xx, hc_ofNat, hc_10, not_true_eq_false, not_false_eq_true, ge_iff_le, h0, h30, h1000, eq_self, i1, k1, nI_1, i2, k2, e2]
  refine sp_piece hC fun v hv => ?_
  simp only [hm92_308, hm92_309, hm92_310, hm92_311, hm92_312, hm92_313, hm92_314, hm92_315, hm92_316, hm92_317, hm92_318, hm92_319, hc_on_some, hc_get, hc_put, hc_ri, hc_rl, hc_is, hc_row, hc_wr, hc_mov, hc_smi, hc_sml, hc_fv, hc_ld, hc_kd, hc_sto, hc_pre, hc_two, hc_inc, hc_psh, hc_kp, hc_k1, hc_np, hc_bk_rf, hc_bk_gA, hc_set_ap, hc_set_set, Value.category, List.getElem?_cons_zero, List.getElem?_cons_succ, List.set_cons_zero, List.set_cons_succ, List.length_cons, List.length_nil, List.map_cons, List.map_nil, reduceIte, Nat.reduceAdd, Nat.reduceSub, Nat.reduceBEq, Nat.reduceEqDiff, Nat.reduceLeDiff, Nat.reduceLT, true_and, and_true, Bool.false_eq_true, reduceCtorEq, if_true, if_false, hc_xx, hc_ofNat, hc_10, not_true_eq_false, not_false_eq_true, ge_iff_le, h0, h30, h1000, eq_self, i1, k1, nI_1, i2, k2, e2]
  refine sp_mpiece hM q6 fun v2 hv2 => ?_
  have ev := AP_one (by omega) hv hv2
  subst ev
  simp only [hm92_322, hm92_325, hm92_326, hc_on_some, hc_get, hc_put, hc_ri, hc_rl, hc_is, hc_row, hc_wr, hc_mov, hc_smi, hc_sml, hc_fv, hc_ld, hc_kd, hc_sto, hc_pre, hc_two, hc_inc, hc_psh, hc_kp, hc_k1, hc_np, hc_bk_rf, hc_bk_gA, hc_set_ap, hc_set_set, Value.category, List.getElem?_cons_zero, List.getElem?_cons_succ, List.set_cons_zero, List.set_cons_succ, List.length_cons, List.length_nil, List.map_cons, List.map_nil, reduceIte, Nat.reduceAdd, Nat.reduceSub, Nat.reduceBEq, Nat.reduceEqDiff, Nat.reduceLeDiff, Nat.reduceLT, true_and, and_true, Bool.false_eq_true, reduceCtorEq, if_true, if_false, hc_xx, hc_ofNat, hc_10, not_true_eq_false, not_false_eq_true, ge_iff_le, eq_self]
  exact hU
theorem law_way (hLP : LwP L xs B0 n G σ) (hn : 5 * n + 5 ≤ L) (hL : L ≤ 2560) (K : ∀ G' σ', LwP L xs B0 (n + 1) G' σ' → hc_wp G' σ' none 92 383 [some (.inl (.retAddr 0)), some (.inl (.ref 0)), some (.inl (.ref 30)), some (.inl (.int (nI (5 * n))))] [] Q) : hc_wp G σ none 92 327 [some (.inl (.retAddr 0)), some (.inl (.ref 0)), some (.inl (.ref 30)), some (.inl (.int (nI (5 * n))))] [] Q := by
  have hU := K G σ hLP.up
  obtain ⟨⟨S, E, P, N, Ws, Ps, hC, hM, hI, hS, hP, hO⟩, hcost, h1000, hnone⟩ := hLP
  obtain ⟨q1, q2, q3, q4, q5, q6⟩ := hO
  have lps := MOD.pl hM
  obtain ⟨a, b, h0⟩ := CLS.h0 hC
  obtain ⟨o30, fs, h30, rfl⟩ := MOD.h30 hM
  have i1 : hc_inn (nI (5 * n + 1)) L := inn_nI (by omega) (by omega)
  have k1 : (nI (5 * n + 1)).toNatClampNeg = 5 * n + 1 := nI_clamp (by omega)
  simp only [hm92_327, hm92_328, hm92_329, hm92_330, hm92_331, hm92_332, hm92_333, hc_on_some, hc_get, hc_put, hc_ri, hc_rl, hc_is, hc_row, hc_wr, hc_mov, hc_smi, hc_sml, hc_fv, hc_ld, hc_kd, hc_sto, hc_pre, hc_two, hc_inc, hc_psh, hc_kp, hc_k1, hc_np, hc_bk_rf, hc_bk_gA, hc_set_ap, hc_set_set, Value.category, List.getElem?_cons_zero, List.getElem?_cons_succ, List.set_cons_zero, List.set_cons_succ, List.length_cons, List.length_nil, List.map_cons, List.map_nil, reduceIte, Nat.reduceAdd, Nat.reduceSub, Nat.reduceBEq, Nat.reduceEqDiff, Nat.reduceLeDiff, Nat.reduceLT, true_and, and_true, Bool.false_eq_true, reduceCtorEq, if_true, if_false, hc_xx, hc_ofNat, hc_10, not_true_eq_false, not_false_eq_true, ge_iff_le, h0, h30, h1000, eq_self, i1, k1, nI_1]
  refine sp_way hC fun v hv => ?_
  simp only [hm92_336, hm92_337, hm92_338, hm92_339, hm92_340, hm92_341, hm92_342, hc_on_some, hc_get, hc_put, hc_ri, hc_rl, hc_is, hc_row, hc_wr, hc_mov, hc_smi, hc_sml, hc_fv, hc_ld, hc_kd, hc_sto, hc_pre, hc_two, hc_inc, hc_psh, hc_kp, hc_k1, hc_np, hc_bk_rf, hc_bk_gA, hc_set_ap, hc_set_set, Value.category, List.getElem?_cons_zero, List.getElem?_cons_succ, List.set_cons_zero, List.set_cons_succ, List.length_cons, List.length_nil, List.map_cons, List.map_nil, reduceIte, Nat.reduceAdd, Nat.reduceSub, Nat.reduceBEq, Nat.reduceEqDiff, Nat.reduceLeDiff, Nat.reduceLT, true_and, and_true, Bool.false_eq_true, reduceCtorEq, if_true, if_false, hc_xx, hc_ofNat, hc_10, not_true_eq_false, not_false_eq_true, ge_iff_le, h0, h30, h1000, eq_self, i1, k1, nI_1]
  refine sp_mway hM q4 fun v2 hv2 => ?_
  have ev := AW_one (by omega) hv hv2
  subst ev
  simp only [hm92_345, hm92_348, hm92_349, hc_on_some, hc_get, hc_put, hc_ri, hc_rl, hc_is, hc_row, hc_wr, hc_mov, hc_smi, hc_sml, hc_fv, hc_ld, hc_kd, hc_sto, hc_pre, hc_two, hc_inc, hc_psh, hc_kp, hc_k1, hc_np, hc_bk_rf, hc_bk_gA, hc_set_ap, hc_set_set, Value.category, List.getElem?_cons_zero, List.getElem?_cons_succ, List.set_cons_zero, List.set_cons_succ, List.length_cons, List.length_nil, List.map_cons, List.map_nil, reduceIte, Nat.reduceAdd, Nat.reduceSub, Nat.reduceBEq, Nat.reduceEqDiff, Nat.reduceLeDiff, Nat.reduceLT, true_and, and_true, Bool.false_eq_true, reduceCtorEq, if_true, if_false, hc_xx, hc_ofNat, hc_10, not_true_eq_false, not_false_eq_true, ge_iff_le, eq_self]
  exact hU
theorem law_wayNode (hLP : LwP L xs B0 n G σ) (hn : 5 * n + 5 ≤ L) (hL : L ≤ 2560) (K : ∀ G' σ', LwP L xs B0 (n + 1) G' σ' → hc_wp G' σ' none 92 383 [some (.inl (.retAddr 0)), some (.inl (.ref 0)), some (.inl (.ref 30)), some (.inl (.int (nI (5 * n))))] [] Q) : hc_wp G σ none 92 350 [some (.inl (.retAddr 0)), some (.inl (.ref 0)), some (.inl (.ref 30)), some (.inl (.int (nI (5 * n))))] [] Q := by
  have hU := K G σ hLP.up
  obtain ⟨⟨S, E, P, N, Ws, Ps, hC, hM, hI, hS, hP, hO⟩, hcost, h1000, hnone⟩ := hLP
  obtain ⟨q1, q2, q3, q4, q5, q6⟩ := hO
  have lps := MOD.pl hM
  obtain ⟨a, b, h0⟩ := CLS.h0 hC
  obtain ⟨o30, fs, h30, rfl⟩ := MOD.h30 hM
  have i1 : hc_inn (nI (5 * n + 1)) L := inn_nI (by omega) (by omega)
  have k1 : (nI (5 * n + 1)).toNatClampNeg = 5 * n + 1 := nI_clamp (by omega)
  have i2 : hc_inn (nI (5 * n + 2)) L := inn_nI (by omega) (by omega)
  have k2 : (nI (5 * n + 2)).toNatClampNeg = 5 * n + 2 := nI_clamp (by omega)
  have e2 : nI (5 * n) + 2 = nI (5 * n + 2) := nI_add _ 2
  simp only [hm92_350, hm92_351, hm92_352, hm92_353, hm92_354, hm92_355, hm92_356, hm92_357, hm92_358, hm92_359, hm92_360, hm92_361, hc_on_some, hc_get, hc_put, hc_ri, hc_rl, hc_is, hc_row, hc_wr, hc_mov, hc_smi, hc_sml, hc_fv, hc_ld, hc_kd, hc_sto, hc_pre, hc_two, hc_inc, hc_psh, hc_kp, hc_k1, hc_np, hc_bk_rf, hc_bk_gA, hc_set_ap, hc_set_set, Value.category, List.getElem?_cons_zero, List.getElem?_cons_succ, List.set_cons_zero, List.set_cons_succ, List.length_cons, List.length_nil, List.map_cons, List.map_nil, reduceIte, Nat.reduceAdd, Nat.reduceSub, Nat.reduceBEq, Nat.reduceEqDiff, Nat.reduceLeDiff, Nat.reduceLT, true_and, and_true, Bool.false_eq_true, reduceCtorEq, if_true, if_false, hc_xx, hc_ofNat, hc_10, not_true_eq_false, not_false_eq_true, ge_iff_le, h0, h30, h1000, eq_self, i1, k1, nI_1, i2, k2, e2]
  refine sp_wayNode hC fun v hv => ?_
  simp only [hm92_364, hm92_365, hm92_366, hm92_367, hm92_368, hm92_369, hm92_370, hm92_371, hm92_372, hm92_373, hm92_374, hm92_375, hc_on_some, hc_get, hc_put, hc_ri, hc_rl, hc_is, hc_row, hc_wr, hc_mov, hc_smi, hc_sml, hc_fv, hc_ld, hc_kd, hc_sto, hc_pre, hc_two, hc_inc, hc_psh, hc_kp, hc_k1, hc_np, hc_bk_rf, hc_bk_gA, hc_set_ap, hc_set_set, Value.category, List.getElem?_cons_zero, List.getElem?_cons_succ, List.set_cons_zero, List.set_cons_succ, List.length_cons, List.length_nil, List.map_cons, List.map_nil, reduceIte, Nat.reduceAdd, Nat.reduceSub, Nat.reduceBEq, Nat.reduceEqDiff, Nat.reduceLeDiff, Nat.reduceLT, true_and, and_true, Bool.false_eq_true, reduceCtorEq, if_true, if_false, hc_xx, hc_ofNat, hc_10, not_true_eq_false, not_false_eq_true, ge_iff_le, h0, h30, h1000, eq_self, i1, k1, nI_1, i2, k2, e2]
  refine sp_mwayNode hM q4 q5 fun v2 hv2 => ?_
  have ev := AWN_one (by omega) (MOD.wj hM) hv hv2
  subst ev
  simp only [hm92_378, hm92_381, hm92_382, hc_on_some, hc_get, hc_put, hc_ri, hc_rl, hc_is, hc_row, hc_wr, hc_mov, hc_smi, hc_sml, hc_fv, hc_ld, hc_kd, hc_sto, hc_pre, hc_two, hc_inc, hc_psh, hc_kp, hc_k1, hc_np, hc_bk_rf, hc_bk_gA, hc_set_ap, hc_set_set, Value.category, List.getElem?_cons_zero, List.getElem?_cons_succ, List.set_cons_zero, List.set_cons_succ, List.length_cons, List.length_nil, List.map_cons, List.map_nil, reduceIte, Nat.reduceAdd, Nat.reduceSub, Nat.reduceBEq, Nat.reduceEqDiff, Nat.reduceLeDiff, Nat.reduceLT, true_and, and_true, Bool.false_eq_true, reduceCtorEq, if_true, if_false, hc_xx, hc_ofNat, hc_10, not_true_eq_false, not_false_eq_true, ge_iff_le, eq_self]
  exact hU
end S73
