/-! the law's calls that do: edge, point, clear, lay -/
section S74
variable {G : hc_G} {σ : hc_H} {Q : hc_Q} {L n B0 : Nat} {xs : Nat → Int32}
theorem law_clear (hLP : LwP L xs B0 n G σ) (K : ∀ G' σ', LwP L xs B0 (n + 1) G' σ' → hc_wp G' σ' none 92 383 [some (.inl (.retAddr 0)), some (.inl (.ref 0)), some (.inl (.ref 30)), some (.inl (.int (nI (5 * n))))] [] Q) : hc_wp G σ none 92 178 [some (.inl (.retAddr 0)), some (.inl (.ref 0)), some (.inl (.ref 30)), some (.inl (.int (nI (5 * n))))] [] Q := by
  have hLP' := hLP
  obtain ⟨⟨S, E, P, N, Ws, Ps, hC, hM, hI, hS, hP, hO⟩, hcost, h1000, hnone⟩ := hLP'
  obtain ⟨a, b, h0⟩ := CLS.h0 hC
  simp only [hm92_178, hm92_179, hc_on_some, hc_get, hc_put, hc_ri, hc_rl, hc_is, hc_row, hc_wr, hc_mov, hc_smi, hc_sml, hc_fv, hc_ld, hc_kd, hc_sto, hc_pre, hc_two, hc_inc, hc_psh, hc_kp, hc_k1, hc_np, hc_bk_rf, hc_bk_gA, hc_set_ap, hc_set_set, Value.category, List.getElem?_cons_zero, List.getElem?_cons_succ, List.set_cons_zero, List.set_cons_succ, List.length_cons, List.length_nil, List.map_cons, List.map_nil, reduceIte, Nat.reduceAdd, Nat.reduceSub, Nat.reduceBEq, Nat.reduceEqDiff, Nat.reduceLeDiff, Nat.reduceLT, true_and, and_true, Bool.false_eq_true, reduceCtorEq, if_true, if_false, hc_xx, hc_ofNat, hc_10, not_true_eq_false, not_false_eq_true, ge_iff_le, h0, h1000, eq_self]
  refine sp_clear hC fun σ1 hC1 fr1 cr1 => ?_
  have hM1 := hM.fr fr1
  obtain ⟨o30, fs, h30, rfl⟩ := MOD.h30 hM1
  simp only [hm92_182, hm92_183, hc_on_some, hc_get, hc_put, hc_ri, hc_rl, hc_is, hc_row, hc_wr, hc_mov, hc_smi, hc_sml, hc_fv, hc_ld, hc_kd, hc_sto, hc_pre, hc_two, hc_inc, hc_psh, hc_kp, hc_k1, hc_np, hc_bk_rf, hc_bk_gA, hc_set_ap, hc_set_set, Value.category, List.getElem?_cons_zero, List.getElem?_cons_succ, List.set_cons_zero, List.set_cons_succ, List.length_cons, List.length_nil, List.map_cons, List.map_nil, reduceIte, Nat.reduceAdd, Nat.reduceSub, Nat.reduceBEq, Nat.reduceEqDiff, Nat.reduceLeDiff, Nat.reduceLT, true_and, and_true, Bool.false_eq_true, reduceCtorEq, if_true, if_false, hc_xx, hc_ofNat, hc_10, not_true_eq_false, not_false_eq_true, ge_iff_le, h30, eq_self]
  refine sp_mclear hM1 fun σ2 hM2 fr2 cr2 => ?_
  have M := K G σ2 (LwP.nx hLP hC1 fr1 cr1 hM2 fr2 cr2.c9 ⟨fun q hq => absurd hq List.not_mem_nil, fun q hq => absurd hq List.not_mem_nil, fun q hq => absurd hq List.not_mem_nil, rfl, by simp, by simp, fun i hi => absurd hi (Nat.not_lt_zero i)⟩ (Nat.zero_le _) (Nat.zero_le _) hO)
  simp only [hm92_186, hc_on_some, hc_get, hc_put, hc_ri, hc_rl, hc_is, hc_row, hc_wr, hc_mov, hc_smi, hc_sml, hc_fv, hc_ld, hc_kd, hc_sto, hc_pre, hc_two, hc_inc, hc_psh, hc_kp, hc_k1, hc_np, hc_bk_rf, hc_bk_gA, hc_set_ap, hc_set_set, Value.category, List.getElem?_cons_zero, List.getElem?_cons_succ, List.set_cons_zero, List.set_cons_succ, List.length_cons, List.length_nil, List.map_cons, List.map_nil, reduceIte, Nat.reduceAdd, Nat.reduceSub, Nat.reduceBEq, Nat.reduceEqDiff, Nat.reduceLeDiff, Nat.reduceLT, true_and, and_true, Bool.false_eq_true, reduceCtorEq, if_true, if_false, hc_xx, hc_ofNat, hc_10, not_true_eq_false, not_false_eq_true, ge_iff_le]
  exact M
theorem law_point (hLP : LwP L xs B0 n G σ) (hn : 5 * n + 5 ≤ L) (hL : L ≤ 2560) (K : ∀ G' σ', LwP L xs B0 (n + 1) G' σ' → hc_wp G' σ' none 92 383 [some (.inl (.retAddr 0)), some (.inl (.ref 0)), some (.inl (.ref 30)), some (.inl (.int (nI (5 * n))))] [] Q) : hc_wp G σ none 92 145 [some (.inl (.retAddr 0)), some (.inl (.ref 0)), some (.inl (.ref 30)), some (.inl (.int (nI (5 * n))))] [] Q := by
  have hLP' := hLP
  obtain ⟨⟨S, E, P, N, Ws, Ps, hC, hM, hI, hS, hP, hO⟩, hcost, h1000, hnone⟩ := hLP'
  obtain ⟨a, b, h0⟩ := CLS.h0 hC
  have i1 : hc_inn (nI (5 * n + 1)) L := inn_nI (by omega) (by omega)
  have i2 : hc_inn (nI (5 * n + 2)) L := inn_nI (by omega) (by omega)
  have k1 : (nI (5 * n + 1)).toNatClampNeg = 5 * n + 1 := nI_clamp (by omega)
  have k2 : (nI (5 * n + 2)).toNatClampNeg = 5 * n + 2 := nI_clamp (by omega)
  have e2 : nI (5 * n) + 2 = nI (5 * n + 2) := nI_add _ 2
  have hU := K G σ hLP.up
  obtain ⟨o30, fs, h30, rfl⟩ := MOD.h30 hM
  simp only [hm92_145, hm92_146, hm92_147, hm92_148, hm92_149, hm92_150, hm92_151, hm92_152, hm92_153, hm92_154, hm92_155, hm92_156, hc_on_some, hc_get, hc_put, hc_ri, hc_rl, hc_is, hc_row, hc_wr, hc_mov, hc_smi, hc_sml, hc_fv, hc_ld, hc_kd, hc_sto, hc_pre, hc_two, hc_inc, hc_psh, hc_kp, hc_k1, hc_np, hc_bk_rf, hc_bk_gA, hc_set_ap, hc_set_set, Value.category, List.getElem?_cons_zero, List.getElem?_cons_succ, List.set_cons_zero, List.set_cons_succ, List.length_cons, List.length_nil, List.map_cons, List.map_nil, reduceIte, Nat.reduceAdd, Nat.reduceSub, Nat.reduceBEq, Nat.reduceEqDiff, Nat.reduceLeDiff, Nat.reduceLT, true_and, and_true, Bool.false_eq_true, reduceCtorEq, if_true, if_false, hc_xx, hc_ofNat, hc_10, not_true_eq_false, not_false_eq_true, ge_iff_le, h0, h1000, nI_1, e2, i1, i2, k1, k2, eq_self]
  refine sp_point hC (by omega) (fun hno => ?_) (fun hyes G1 σ1 hC1 fr1 cr1 => ?_)
  · simp only [hm92_159, hm92_160, hm92_161, hm92_162, hm92_163, hm92_164, hm92_165, hm92_166, hm92_167, hm92_168, hm92_169, hm92_170, hc_on_some, hc_get, hc_put, hc_ri, hc_rl, hc_is, hc_row, hc_wr, hc_mov, hc_smi, hc_sml, hc_fv, hc_ld, hc_kd, hc_sto, hc_pre, hc_two, hc_inc, hc_psh, hc_kp, hc_k1, hc_np, hc_bk_rf, hc_bk_gA, hc_set_ap, hc_set_set, Value.category, List.getElem?_cons_zero, List.getElem?_cons_succ, List.set_cons_zero, List.set_cons_succ, List.length_cons, List.length_nil, List.map_cons, List.map_nil, reduceIte, Nat.reduceAdd, Nat.reduceSub, Nat.reduceBEq, Nat.reduceEqDiff, Nat.reduceLeDiff, Nat.reduceLT, true_and, and_true, Bool.false_eq_true, reduceCtorEq, if_true, if_false, hc_xx, hc_ofNat, hc_10, not_true_eq_false, not_false_eq_true, ge_iff_le, h0, h30, h1000, nI_1, e2, i1, i2, k1, k2, eq_self]
    refine sp_mpoint hM (by omega) (fun _ => ?_) (fun hyes => absurd hyes hno)
    simp only [hm92_173, hm92_176, hm92_177, hc_on_some, hc_get, hc_put, hc_ri, hc_rl, hc_is, hc_row, hc_wr, hc_mov, hc_smi, hc_sml, hc_fv, hc_ld, hc_kd, hc_sto, hc_pre, hc_two, hc_inc, hc_psh, hc_kp, hc_k1, hc_np, hc_bk_rf, hc_bk_gA, hc_set_ap, hc_set_set, Value.category, List.getElem?_cons_zero, List.getElem?_cons_succ, List.set_cons_zero, List.set_cons_succ, List.length_cons, List.length_nil, List.map_cons, List.map_nil, reduceIte, Nat.reduceAdd, Nat.reduceSub, Nat.reduceBEq, Nat.reduceEqDiff, Nat.reduceLeDiff, Nat.reduceLT, true_and, and_true, Bool.false_eq_true, reduceCtorEq, if_true, if_false, hc_xx, hc_ofNat, hc_10, not_true_eq_false, not_false_eq_true, ge_iff_le, eq_self]
    exact hU
  · have hM1 := hM.fr fr1
    have s1000 : σ1 1000 = some (99, [.inr (L, .inl xs)]) := by rw [fr1 _ (by decide)]; exact h1000
    obtain ⟨o30, fs, t30, rfl⟩ := MOD.h30 hM1
    dsimp only
    rw [hc_bk_np rfl rfl]
    simp only [hm92_159, hm92_160, hm92_161, hm92_162, hm92_163, hm92_164, hm92_165, hm92_166, hm92_167, hm92_168, hm92_169, hm92_170, hc_on_some, hc_get, hc_put, hc_ri, hc_rl, hc_is, hc_row, hc_wr, hc_mov, hc_smi, hc_sml, hc_fv, hc_ld, hc_kd, hc_sto, hc_pre, hc_two, hc_inc, hc_psh, hc_kp, hc_k1, hc_np, hc_bk_rf, hc_bk_gA, hc_set_ap, hc_set_set, Value.category, List.getElem?_cons_zero, List.getElem?_cons_succ, List.set_cons_zero, List.set_cons_succ, List.length_cons, List.length_nil, List.map_cons, List.map_nil, reduceIte, Nat.reduceAdd, Nat.reduceSub, Nat.reduceBEq, Nat.reduceEqDiff, Nat.reduceLeDiff, Nat.reduceLT, true_and, and_true, Bool.false_eq_true, reduceCtorEq, if_true, if_false, hc_xx, hc_ofNat, hc_10, not_true_eq_false, not_false_eq_true, ge_iff_le, t30, s1000, nI_1, e2, i1, i2, k1, k2, eq_self]
    refine sp_mpoint hM1 (by omega) (fun hno => absurd hyes hno) (fun _ G2 σ2 hM2 fr2 cr2 => ?_)
    dsimp only
    rw [hc_bk_np rfl rfl]
    have M := K G2 σ2 (LwP.nx hLP hC1 fr1 cr1 hM2 fr2 cr2.c9 (hI.addP (by omega) hyes) (by omega) (by simp only [List.length_append, List.length_cons, List.length_nil]; omega) hO)
    simp only [hm92_173, hm92_176, hm92_177, hc_on_some, hc_get, hc_put, hc_ri, hc_rl, hc_is, hc_row, hc_wr, hc_mov, hc_smi, hc_sml, hc_fv, hc_ld, hc_kd, hc_sto, hc_pre, hc_two, hc_inc, hc_psh, hc_kp, hc_k1, hc_np, hc_bk_rf, hc_bk_gA, hc_set_ap, hc_set_set, Value.category, List.getElem?_cons_zero, List.getElem?_cons_succ, List.set_cons_zero, List.set_cons_succ, List.length_cons, List.length_nil, List.map_cons, List.map_nil, reduceIte, Nat.reduceAdd, Nat.reduceSub, Nat.reduceBEq, Nat.reduceEqDiff, Nat.reduceLeDiff, Nat.reduceLT, true_and, and_true, Bool.false_eq_true, reduceCtorEq, if_true, if_false, hc_xx, hc_ofNat, hc_10, not_true_eq_false, not_false_eq_true, ge_iff_le, eq_self]
    exact M
theorem law_edge (hLP : LwP L xs B0 n G σ) (hn : 5 * n + 5 ≤ L) (hL : L ≤ 2560) (K : ∀ G' σ', LwP L xs B0 (n + 1) G' σ' → hc_wp G' σ' none 92 383 [some (.inl (.retAddr 0)), some (.inl (.ref 0)), some (.inl (.ref 30)), some (.inl (.int (nI (5 * n))))] [] Q) : hc_wp G σ none 92 92 [some (.inl (.retAddr 0)), some (.inl (.ref 0)), some (.inl (.ref 30)), some (.inl (.int (nI (5 * n))))] [] Q := by
  have hLP' := hLP
  obtain ⟨⟨S, E, P, N, Ws, Ps, hC, hM, hI, hS, hP, hO⟩, hcost, h1000, hnone⟩ := hLP'
  obtain ⟨a, b, h0⟩ := CLS.h0 hC
  have i1 : hc_inn (nI (5 * n + 1)) L := inn_nI (by omega) (by omega)
  have i2 : hc_inn (nI (5 * n + 2)) L := inn_nI (by omega) (by omega)
  have i3 : hc_inn (nI (5 * n + 3)) L := inn_nI (by omega) (by omega)
  have i4 : hc_inn (nI (5 * n + 4)) L := inn_nI (by omega) (by omega)
  have k1 : (nI (5 * n + 1)).toNatClampNeg = 5 * n + 1 := nI_clamp (by omega)
  have k2 : (nI (5 * n + 2)).toNatClampNeg = 5 * n + 2 := nI_clamp (by omega)
  have k3 : (nI (5 * n + 3)).toNatClampNeg = 5 * n + 3 := nI_clamp (by omega)
  have k4 : (nI (5 * n + 4)).toNatClampNeg = 5 * n + 4 := nI_clamp (by omega)
  have e2 : nI (5 * n) + 2 = nI (5 * n + 2) := nI_add _ 2
  have e3 : nI (5 * n) + 3 = nI (5 * n + 3) := nI_add _ 3
  have e4 : nI (5 * n) + 4 = nI (5 * n + 4) := nI_add _ 4
  have hU := K G σ hLP.up
  have hle : E.length = S.length := hI.2.2.2.1
  obtain ⟨o30, fs, h30, rfl⟩ := MOD.h30 hM
  simp only [hm92_92, hm92_93, hm92_94, hm92_95, hm92_96, hm92_97, hm92_98, hm92_99, hm92_100, hm92_101, hm92_102, hm92_103, hm92_104, hm92_105, hm92_106, hm92_107, hm92_108, hm92_109, hm92_110, hm92_111, hm92_112, hm92_113, hc_on_some, hc_get, hc_put, hc_ri, hc_rl, hc_is, hc_row, hc_wr, hc_mov, hc_smi, hc_sml, hc_fv, hc_ld, hc_kd, hc_sto, hc_pre, hc_two, hc_inc, hc_psh, hc_kp, hc_k1, hc_np, hc_bk_rf, hc_bk_gA, hc_set_ap, hc_set_set, Value.category, List.getElem?_cons_zero, List.getElem?_cons_succ, List.set_cons_zero, List.set_cons_succ, List.length_cons, List.length_nil, List.map_cons, List.map_nil, reduceIte, Nat.reduceAdd, Nat.reduceSub, Nat.reduceBEq, Nat.reduceEqDiff, Nat.reduceLeDiff, Nat.reduceLT, true_and, and_true, Bool.false_eq_true, reduceCtorEq, if_true, if_false, hc_xx, hc_ofNat, hc_10, not_true_eq_false, not_false_eq_true, ge_iff_le, h0, h1000, nI_1, e2, e3, e4, i1, i2, i3, i4, k1, k2, k3, k4, eq_self]
  refine sp_edge hC (by omega) hle (fun hno => ?_) (fun hyes G1 σ1 hC1 fr1 cr1 => ?_)
  · simp only [hm92_116, hm92_117, hm92_118, hm92_119, hm92_120, hm92_121, hm92_122, hm92_123, hm92_124, hm92_125, hm92_126, hm92_127, hm92_128, hm92_129, hm92_130, hm92_131, hm92_132, hm92_133, hm92_134, hm92_135, hm92_136, hm92_137, hc_on_some, hc_get, hc_put, hc_ri, hc_rl, hc_is, hc_row, hc_wr, hc_mov, hc_smi, hc_sml, hc_fv, hc_ld, hc_kd, hc_sto, hc_pre, hc_two, hc_inc, hc_psh, hc_kp, hc_k1, hc_np, hc_bk_rf, hc_bk_gA, hc_set_ap, hc_set_set, Value.category, List.getElem?_cons_zero, List.getElem?_cons_succ, List.set_cons_zero, List.set_cons_succ, List.length_cons, List.length_nil, List.map_cons, List.map_nil, reduceIte, Nat.reduceAdd, Nat.reduceSub, Nat.reduceBEq, Nat.reduceEqDiff, Nat.reduceLeDiff, Nat.reduceLT, true_and, and_true, Bool.false_eq_true, reduceCtorEq, if_true, if_false, hc_xx, hc_ofNat, hc_10, not_true_eq_false, not_false_eq_true, ge_iff_le, h0, h30, h1000, nI_1, e2, e3, e4, i1, i2, i3, i4, k1, k2, k3, k4, eq_self]
    refine sp_medge hM (by omega) hle (fun _ => ?_) (fun hyes => absurd hyes hno)
    simp only [hm92_140, hm92_143, hm92_144, hc_on_some, hc_get, hc_put, hc_ri, hc_rl, hc_is, hc_row, hc_wr, hc_mov, hc_smi, hc_sml, hc_fv, hc_ld, hc_kd, hc_sto, hc_pre, hc_two, hc_inc, hc_psh, hc_kp, hc_k1, hc_np, hc_bk_rf, hc_bk_gA, hc_set_ap, hc_set_set, Value.category, List.getElem?_cons_zero, List.getElem?_cons_succ, List.set_cons_zero, List.set_cons_succ, List.length_cons, List.length_nil, List.map_cons, List.map_nil, reduceIte, Nat.reduceAdd, Nat.reduceSub, Nat.reduceBEq, Nat.reduceEqDiff, Nat.reduceLeDiff, Nat.reduceLT, true_and, and_true, Bool.false_eq_true, reduceCtorEq, if_true, if_false, hc_xx, hc_ofNat, hc_10, not_true_eq_false, not_false_eq_true, ge_iff_le, eq_self]
    exact hU
  · have hM1 := hM.fr fr1
    have s1000 : σ1 1000 = some (99, [.inr (L, .inl xs)]) := by rw [fr1 _ (by decide)]; exact h1000
    obtain ⟨o30, fs, t30, rfl⟩ := MOD.h30 hM1
    dsimp only
    rw [hc_bk_np rfl rfl]
    simp only [hm92_116, hm92_117, hm92_118, hm92_119, hm92_120, hm92_121, hm92_122, hm92_123, hm92_124, hm92_125, hm92_126, hm92_127, hm92_128, hm92_129, hm92_130, hm92_131, hm92_132, hm92_133, hm92_134, hm92_135, hm92_136, hm92_137, hc_on_some, hc_get, hc_put, hc_ri, hc_rl, hc_is, hc_row, hc_wr, hc_mov, hc_smi, hc_sml, hc_fv, hc_ld, hc_kd, hc_sto, hc_pre, hc_two, hc_inc, hc_psh, hc_kp, hc_k1, hc_np, hc_bk_rf, hc_bk_gA, hc_set_ap, hc_set_set, Value.category, List.getElem?_cons_zero, List.getElem?_cons_succ, List.set_cons_zero, List.set_cons_succ, List.length_cons, List.length_nil, List.map_cons, List.map_nil, reduceIte, Nat.reduceAdd, Nat.reduceSub, Nat.reduceBEq, Nat.reduceEqDiff, Nat.reduceLeDiff, Nat.reduceLT, true_and, and_true, Bool.false_eq_true, reduceCtorEq, if_true, if_false, hc_xx, hc_ofNat, hc_10, not_true_eq_false, not_false_eq_true, ge_iff_le, t30, s1000, nI_1, e2, e3, e4, i1, i2, i3, i4, k1, k2, k3, k4, eq_self]
    refine sp_medge hM1 (by omega) hle (fun hno => absurd hyes hno) (fun _ G2 σ2 hM2 fr2 cr2 => ?_)
    dsimp only
    rw [hc_bk_np rfl rfl]
    have M := K G2 σ2 (LwP.nx hLP hC1 fr1 cr1 hM2 fr2 cr2.c9 (hI.addE (by omega) hyes.1 hyes.2.1 (fun q => hyes.2.2 ⟨Int32.toInt_inj.mp q.1, Int32.toInt_inj.mp q.2⟩)) (by simp only [List.length_append, List.length_cons, List.length_nil]; omega) (by omega) hO)
    simp only [hm92_140, hm92_143, hm92_144, hc_on_some, hc_get, hc_put, hc_ri, hc_rl, hc_is, hc_row, hc_wr, hc_mov, hc_smi, hc_sml, hc_fv, hc_ld, hc_kd, hc_sto, hc_pre, hc_two, hc_inc, hc_psh, hc_kp, hc_k1, hc_np, hc_bk_rf, hc_bk_gA, hc_set_ap, hc_set_set, Value.category, List.getElem?_cons_zero, List.getElem?_cons_succ, List.set_cons_zero, List.set_cons_succ, List.length_cons, List.length_nil, List.map_cons, List.map_nil, reduceIte, Nat.reduceAdd, Nat.reduceSub, Nat.reduceBEq, Nat.reduceEqDiff, Nat.reduceLeDiff, Nat.reduceLT, true_and, and_true, Bool.false_eq_true, reduceCtorEq, if_true, if_false, hc_xx, hc_ofNat, hc_10, not_true_eq_false, not_false_eq_true, ge_iff_le, eq_self]
    exact M
theorem law_lay (hLP : LwP L xs B0 n G σ) (K : ∀ G' σ', LwP L xs B0 (n + 1) G' σ' → hc_wp G' σ' none 92 383 [some (.inl (.retAddr 0)), some (.inl (.ref 0)), some (.inl (.ref 30)), some (.inl (.int (nI (5 * n))))] [] Q) : hc_wp G σ none 92 189 [some (.inl (.retAddr 0)), some (.inl (.ref 0)), some (.inl (.ref 30)), some (.inl (.int (nI (5 * n))))] [] Q := by
  have hLP' := hLP
  obtain ⟨⟨S, E, P, N, Ws, Ps, hC, hM, hI, hS, hP, hO⟩, hcost, h1000, hnone⟩ := hLP'
  obtain ⟨a, b, h0⟩ := CLS.h0 hC
  simp only [hm92_189, hm92_190, hc_on_some, hc_get, hc_put, hc_ri, hc_rl, hc_is, hc_row, hc_wr, hc_mov, hc_smi, hc_sml, hc_fv, hc_ld, hc_kd, hc_sto, hc_pre, hc_two, hc_inc, hc_psh, hc_kp, hc_k1, hc_np, hc_bk_rf, hc_bk_gA, hc_set_ap, hc_set_set, Value.category, List.getElem?_cons_zero, List.getElem?_cons_succ, List.set_cons_zero, List.set_cons_succ, List.length_cons, List.length_nil, List.map_cons, List.map_nil, reduceIte, Nat.reduceAdd, Nat.reduceSub, Nat.reduceBEq, Nat.reduceEqDiff, Nat.reduceLeDiff, Nat.reduceLT, true_and, and_true, Bool.false_eq_true, reduceCtorEq, if_true, if_false, hc_xx, hc_ofNat, hc_10, not_true_eq_false, not_false_eq_true, ge_iff_le, h0, h1000, eq_self]
  refine sp_lay hC hI (fun G1 σ1 N1 Ws1 Ps1 hC1 hF1 hL1 fr1 cr1 => ?_) (fun G1 σ1 hC1 hN1 fr1 cr1 => ?_)
  · have hM1 := hM.fr fr1
    obtain ⟨o30, fs, t30, rfl⟩ := MOD.h30 hM1
    dsimp only
    rw [hc_bk_np rfl rfl]
    simp only [hm92_193, hm92_194, hc_on_some, hc_get, hc_put, hc_ri, hc_rl, hc_is, hc_row, hc_wr, hc_mov, hc_smi, hc_sml, hc_fv, hc_ld, hc_kd, hc_sto, hc_pre, hc_two, hc_inc, hc_psh, hc_kp, hc_k1, hc_np, hc_bk_rf, hc_bk_gA, hc_set_ap, hc_set_set, Value.category, List.getElem?_cons_zero, List.getElem?_cons_succ, List.set_cons_zero, List.set_cons_succ, List.length_cons, List.length_nil, List.map_cons, List.map_nil, reduceIte, Nat.reduceAdd, Nat.reduceSub, Nat.reduceBEq, Nat.reduceEqDiff, Nat.reduceLeDiff, Nat.reduceLT, true_and, and_true, Bool.false_eq_true, reduceCtorEq, if_true, if_false, hc_xx, hc_ofNat, hc_10, not_true_eq_false, not_false_eq_true, ge_iff_le, t30, eq_self]
    refine sp_mlay hM1 hI (fun G2 σ2 N2 Ws2 Ps2 hM2 hF2 hL2 fr2 cr2 => ?_) (fun G2 σ2 hM2 hN2 fr2 cr2 => ?_)
    · obtain ⟨rfl, rfl, rfl⟩ := full_one hF1 hF2
      dsimp only
      rw [hc_bk_np rfl rfl]
      have M := K G2 σ2 (LwP.nx hLP hC1 fr1 cr1 hM2 fr2 cr2 hI (by omega) (by omega) (LOK.of hI hF1 hL1))
      simp only [hm92_197, hm92_200, hm92_201, hc_on_some, hc_get, hc_put, hc_ri, hc_rl, hc_is, hc_row, hc_wr, hc_mov, hc_smi, hc_sml, hc_fv, hc_ld, hc_kd, hc_sto, hc_pre, hc_two, hc_inc, hc_psh, hc_kp, hc_k1, hc_np, hc_bk_rf, hc_bk_gA, hc_set_ap, hc_set_set, Value.category, List.getElem?_cons_zero, List.getElem?_cons_succ, List.set_cons_zero, List.set_cons_succ, List.length_cons, List.length_nil, List.map_cons, List.map_nil, reduceIte, Nat.reduceAdd, Nat.reduceSub, Nat.reduceBEq, Nat.reduceEqDiff, Nat.reduceLeDiff, Nat.reduceLT, true_and, and_true, Bool.false_eq_true, reduceCtorEq, if_true, if_false, hc_xx, hc_ofNat, hc_10, not_true_eq_false, not_false_eq_true, ge_iff_le, eq_self]
      exact M
    · exact (lay_or hF1 hL1 hN2).elim
  · have hM1 := hM.fr fr1
    obtain ⟨o30, fs, t30, rfl⟩ := MOD.h30 hM1
    dsimp only
    rw [hc_bk_np rfl rfl]
    simp only [hm92_193, hm92_194, hc_on_some, hc_get, hc_put, hc_ri, hc_rl, hc_is, hc_row, hc_wr, hc_mov, hc_smi, hc_sml, hc_fv, hc_ld, hc_kd, hc_sto, hc_pre, hc_two, hc_inc, hc_psh, hc_kp, hc_k1, hc_np, hc_bk_rf, hc_bk_gA, hc_set_ap, hc_set_set, Value.category, List.getElem?_cons_zero, List.getElem?_cons_succ, List.set_cons_zero, List.set_cons_succ, List.length_cons, List.length_nil, List.map_cons, List.map_nil, reduceIte, Nat.reduceAdd, Nat.reduceSub, Nat.reduceBEq, Nat.reduceEqDiff, Nat.reduceLeDiff, Nat.reduceLT, true_and, and_true, Bool.false_eq_true, reduceCtorEq, if_true, if_false, hc_xx, hc_ofNat, hc_10, not_true_eq_false, not_false_eq_true, ge_iff_le, t30, eq_self]
    refine sp_mlay hM1 hI (fun G2 σ2 N2 Ws2 Ps2 hM2 hF2 hL2 fr2 cr2 => ?_) (fun G2 σ2 hM2 hN2 fr2 cr2 => ?_)
    · exact (lay_or hF2 hL2 hN1).elim
    · dsimp only
      rw [hc_bk_np rfl rfl]
      have M := K G2 σ2 (LwP.nx hLP hC1 fr1 cr1 hM2 fr2 cr2 hI (by omega) (by omega) hO)
      simp only [hm92_197, hm92_200, hm92_201, hc_on_some, hc_get, hc_put, hc_ri, hc_rl, hc_is, hc_row, hc_wr, hc_mov, hc_smi, hc_sml, hc_fv, hc_ld, hc_kd, hc_sto, hc_pre, hc_two, hc_inc, hc_psh, hc_kp, hc_k1, hc_np, hc_bk_rf, hc_bk_gA, hc_set_ap, hc_set_set, Value.category, List.getElem?_cons_zero, List.getElem?_cons_succ, List.set_cons_zero, List.set_cons_succ, List.length_cons, List.length_nil, List.map_cons, List.map_nil, reduceIte, Nat.reduceAdd, Nat.reduceSub, Nat.reduceBEq, Nat.reduceEqDiff, Nat.reduceLeDiff, Nat.reduceLT, true_and, and_true, Bool.false_eq_true, reduceCtorEq, if_true, if_false, hc_xx, hc_ofNat, hc_10, not_true_eq_false, not_false_eq_true, ge_iff_le, eq_self]
      exact M
end S74
