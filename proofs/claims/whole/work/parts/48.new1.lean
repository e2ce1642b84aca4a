/-! the class's constructors -/
section S48
variable {G : hc_G} {σ : hc_H} {t : hc_T} {Q : hc_Q}
theorem sp_new2 {k : Nat} (h : σ k = some (2, hc_dfl2)) (K : Q (hc_gM (hc_gA (hc_gM (hc_gA G 16) k 1) 16) k 2) (hc_set σ k (oPl 0 16 (fun _ => 0) 16 (fun _ => 0))) none none) : hc_wp G σ none 16 0 [some (.inl (.ref k))] [] Q := by
  have e1 : ¬ (16 : Int32) < 0 := by decide
  have e2 : (16 : Int32).toNatClampNeg = 16 := by decide
  simp only [oPl, nI_0] at K
  simp only [hma16, hc_on_some, hc_get, hc_put, hc_ri, hc_rl, hc_is, hc_row, hc_wr, hc_mov, hc_smi, hc_sml, hc_fv, hc_ld, hc_kd, hc_sto, hc_pre, hc_two, hc_inc, hc_psh, hc_kp, hc_k1, hc_np, hc_bk_rf, hc_bk_gA, hc_set_ap, hc_set_set, Value.category, List.getElem?_cons_zero, List.getElem?_cons_succ, List.set_cons_zero, List.set_cons_succ, List.length_cons, List.length_nil, List.map_cons, List.map_nil, reduceIte, Nat.reduceAdd, Nat.reduceSub, Nat.reduceBEq, Nat.reduceEqDiff, Nat.reduceLeDiff, Nat.reduceLT, true_and, and_true, Bool.false_eq_true, reduceCtorEq, if_true, if_false, hc_xx, hc_ofNat, hc_10, not_true_eq_false, not_false_eq_true, ge_iff_le, h, hc_dfl2, e1, e2, hc_nt, List.all_cons, List.all_nil, Bool.and_true, Bool.true_and, Nat.zero_le]
  exact K
theorem sp_new0 {k : Nat} (h : σ k = some (0, hc_dfl0)) (K : Q (hc_gM (hc_gA G 64) k 1) (hc_set σ k (oKs 0 64 (fun _ => 0))) none none) : hc_wp G σ none 0 0 [some (.inl (.ref k))] [] Q := by
  have e1 : ¬ (64 : Int32) < 0 := by decide
  have e2 : (64 : Int32).toNatClampNeg = 64 := by decide
  simp only [oKs, nI_0] at K
  simp only [hma0, hc_on_some, hc_get, hc_put, hc_ri, hc_rl, hc_is, hc_row, hc_wr, hc_mov, hc_smi, hc_sml, hc_fv, hc_ld, hc_kd, hc_sto, hc_pre, hc_two, hc_inc, hc_psh, hc_kp, hc_k1, hc_np, hc_bk_rf, hc_bk_gA, hc_set_ap, hc_set_set, Value.category, List.getElem?_cons_zero, List.getElem?_cons_succ, List.set_cons_zero, List.set_cons_succ, List.length_cons, List.length_nil, List.map_cons, List.map_nil, reduceIte, Nat.reduceAdd, Nat.reduceSub, Nat.reduceBEq, Nat.reduceEqDiff, Nat.reduceLeDiff, Nat.reduceLT, true_and, and_true, Bool.false_eq_true, reduceCtorEq, if_true, if_false, hc_xx, hc_ofNat, hc_10, not_true_eq_false, not_false_eq_true, ge_iff_le, h, hc_dfl0, e1, e2, hc_nt, List.all_cons, List.all_nil, Bool.and_true, Bool.true_and, Nat.zero_le]
  exact K
theorem sp_new1 {k n : Nat} (hn : G.2.1 = n) (hn9 : n < 900) (hk : n ≠ k) (h : σ k = some (1, hc_dfl1)) (K : ∀ G', G'.2.1 = n + 8 → G'.2.2.1 = G.2.2.1 + 131 → Q G' (hc_set (hc_set σ n (oPl 0 16 (fun _ => 0) 16 (fun _ => 0))) k (oLz n 0 0 (16, .inl fun _ => 0) (32, .inl fun _ => 0) 0 (16, .inl fun _ => 0) (16, .inl fun _ => 0) (16, .inl fun _ => 0))) none none) : hc_wp G σ none 5 0 [some (.inl (.ref k))] [] Q := by
  have e1 : ¬ (16 : Int32) < 0 := by decide
  have e2 : (16 : Int32).toNatClampNeg = 16 := by decide
  have e3 : ¬ (32 : Int32) < 0 := by decide
  have e4 : (32 : Int32).toNatClampNeg = 32 := by decide
  have hk' : ¬ k = n := Ne.symm hk
  simp only [oLz, oLy, nI_0] at K
  simp only [hm5_0, hm5_1, hm5_4, hm5_5, hm5_8, hm5_9, hc_on_some, hc_get, hc_put, hc_ri, hc_rl, hc_is, hc_row, hc_wr, hc_mov, hc_smi, hc_sml, hc_fv, hc_ld, hc_kd, hc_sto, hc_pre, hc_two, hc_inc, hc_psh, hc_kp, hc_k1, hc_np, hc_bk_rf, hc_bk_gA, hc_set_ap, hc_set_set, Value.category, List.getElem?_cons_zero, List.getElem?_cons_succ, List.set_cons_zero, List.set_cons_succ, List.length_cons, List.length_nil, List.map_cons, List.map_nil, reduceIte, Nat.reduceAdd, Nat.reduceSub, Nat.reduceBEq, Nat.reduceEqDiff, Nat.reduceLeDiff, Nat.reduceLT, true_and, and_true, Bool.false_eq_true, reduceCtorEq, if_true, if_false, hc_xx, hc_ofNat, hc_10, not_true_eq_false, not_false_eq_true, ge_iff_le, hn, hn9, hk, hk', h]
  refine sp_new2 (hc_set_at _ _ _) ?_
  rw [hc_set_set]
  dsimp only
  rw [hc_bk_np rfl rfl]
  simp only [hm5_12, hm5_15, hm5_16, hm5_17, hm5_20, hm5_21, hm5_22, hm5_25, hm5_26, hm5_28, hm5_30t, hm5_30s, hm5_33, hm5_34, hm5_36, hm5_38t, hm5_38s, hm5_41, hm5_42, hm5_43, hm5_46, hm5_47, hm5_49, hm5_51t, hm5_51s, hm5_54, hm5_55, hm5_57, hm5_59t, hm5_59s, hm5_62, hm5_63, hm5_65, hm5_67t, hm5_67s, hm5_70, hc_on_some, hc_get, hc_put, hc_ri, hc_rl, hc_is, hc_row, hc_wr, hc_mov, hc_smi, hc_sml, hc_fv, hc_ld, hc_kd, hc_sto, hc_pre, hc_two, hc_inc, hc_psh, hc_kp, hc_k1, hc_np, hc_bk_rf, hc_bk_gA, hc_set_ap, hc_set_set, Value.category, List.getElem?_cons_zero, List.getElem?_cons_succ, List.set_cons_zero, List.set_cons_succ, List.length_cons, List.length_nil, List.map_cons, List.map_nil, reduceIte, Nat.reduceAdd, Nat.reduceSub, Nat.reduceBEq, Nat.reduceEqDiff, Nat.reduceLeDiff, Nat.reduceLT, true_and, and_true, Bool.false_eq_true, reduceCtorEq, if_true, if_false, hc_xx, hc_ofNat, hc_10, not_true_eq_false, not_false_eq_true, ge_iff_le, hk, hk', h, hc_dfl1, e1, e2, e3, e4, hc_nt, List.all_cons, List.all_nil, Bool.and_true, Bool.true_and, Nat.zero_le]
  exact K _ (by simp only [hc_gA, hc_gM, hc_gO]; omega) (by simp only [hc_gA, hc_gM, hc_gO])
end S48
