/-! the class's constructors -/
section S48
variable {G : hc_G} {σ : hc_H} {t : hc_T} {Q : hc_Q}
theorem sp_new2 {k : Nat} (h : σ k = some (2, hc_dfl2)) (K : Q (hc_gM (hc_gA (hc_gM (hc_gA G 16) k 1) 16) k 2) (hc_set σ k (oPl 0 16 (fun _ => 0) 16 (fun _ => 0))) none none) : hc_wp G σ none 16 0 [some (.inl (.ref k))] [] Q := by
  have e1 : ¬ (16 : Int32) < 0 := by decide
  have e2 : (16 : Int32).toNatClampNeg = 16 := by decide
  simp only [oPl, nI_0] at K
  simp only [hma16, hc_on_some, hc_get, hc_put, hc_ri, hc_rl, hc_is, hc_row, hc_wr, hc_mov, hc_smi, hc_sml, hc_fv, hc_ld, hc_kd, hc_sto, hc_pre, hc_two, hc_inc, hc_psh, hc_kp, hc_k1, hc_np, hc_bk_rf, hc_bk_gA, hc_set_ap, hc_set_set, Value.category, List.getElem?_cons_zero, List.getElem?_cons_succ, List.set_cons_zero, List.set_cons_succ, List.length_cons, List.length_nil, List.map_cons, List.map_nil, reduceIte, Nat.reduceAdd, Nat.reduceSub, Nat.reduceBEq, Nat.reduceEqDiff, Nat.reduceLeDiff, Nat.reduceLT, true_and, and_true, Bool.false_eq_true, reduceCtorEq, if_true, if_false, hc_xx, hc_ofNat, hc_10, not_true_eq_false, not_false_eq_true, ge_iff_le, h, hc_dfl2, e1, e2, hc_nt, List.all_cons, List.all_nil, Bool.and_true, Bool.true_and, Nat.zero_le]
  exact K
theorem sp_new0 {k : Nat} (h : σ k = some (0, hc_dfl0)) (K : Q (hc_gM (hc_gA G 64) k 1) (hc_set σ k (oKs 0 64 (fun _ => 0))) none none) : hc_wp G σ none 0 0 [some (.inl (.ref k))] [] Q := by
  have e1 : ¬ (64 : Int32) < 0 := by decide
  have e2 : (64 : Int32).toNatClampNeg = 64 := by decide
  simp only [oKs, nI_0] at K
  simp only [hma0, hc_on_some, hc_get, hc_put, hc_ri, hc_rl, hc_is, hc_row, hc_wr, hc_mov, hc_smi, hc_sml, hc_fv, hc_ld, hc_kd, hc_sto, hc_pre, hc_two, hc_inc, hc_psh, hc_kp, hc_k1, hc_np, hc_bk_rf, hc_bk_gA, hc_set_ap, hc_set_set, Value.category, List.getElem?_cons_zero, List.getElem?_cons_succ, List.set_cons_zero, List.set_cons_succ, List.length_cons, List.length_nil, List.map_cons, List.map_nil, reduceIte, Nat.reduceAdd, Nat.reduceSub, Nat.reduceBEq, Nat.reduceEqDiff, Nat.reduceLeDiff, Nat.reduceLT, true_and, and_true, Bool.false_eq_true, reduceCtorEq, if_true, if_false, hc_xx, hc_ofNat, hc_10, not_true_eq_false, not_false_eq_true, ge_iff_le, h, hc_dfl0, e1, e2, hc_nt, List.all_cons, List.all_nil, Bool.and_true, Bool.true_and, Nat.zero_le]
  exact K
end S48
