/-! the class's object made -/
/-- none of the class's objects -/
def nob (j : Nat) : Prop := j ≠ 0 ∧ j ≠ 1 ∧ j ≠ 4 ∧ j ≠ 7 ∧ j ≠ 10 ∧ j ≠ 12 ∧ j ≠ 13 ∧ j ≠ 21 ∧ j ≠ 22
section S49
variable {G : hc_G} {σ : hc_H} {t : hc_T} {Q : hc_Q}
theorem sp_new2' {k n : Nat} (hn : G.2.1 = n) (h : σ k = some (2, hc_dfl2)) (K : ∀ G', G'.2.1 = n + 2 → G'.2.2.1 = G.2.2.1 + 32 → Q G' (hc_set σ k (oPl 0 16 (fun _ => 0) 16 (fun _ => 0))) none none) : hc_wp G σ none 16 0 [some (.inl (.ref k))] [] Q :=
  sp_new2 h (K _ (by simp only [hc_gA, hc_gM]; omega) (by simp only [hc_gA, hc_gM]))
theorem sp_new0' {k n : Nat} (hn : G.2.1 = n) (h : σ k = some (0, hc_dfl0)) (K : ∀ G', G'.2.1 = n + 1 → G'.2.2.1 = G.2.2.1 + 64 → Q G' (hc_set σ k (oKs 0 64 (fun _ => 0))) none none) : hc_wp G σ none 0 0 [some (.inl (.ref k))] [] Q :=
  sp_new0 h (K _ (by simp only [hc_gA, hc_gM]; omega) (by simp only [hc_gA, hc_gM]))
theorem gO_1 {n m : Nat} (h : G.2.1 = n) : (hc_gO G m).2.1 = n + 1 := by rw [← h]; rfl
theorem gO_2 {m : Nat} : (hc_gO G m).2.2.1 = G.2.2.1 + m := rfl
theorem pl_new : PLo (oPl 0 16 (fun _ => 0) 16 (fun _ => 0)) [] 0 := ⟨16, _, 16, _, rfl, by omega, by omega, by omega, by omega, by omega, by omega, fun i v hi => by simp at hi, fun i v hi => by simp at hi⟩
theorem sp_newC (hn : G.2.1 = 1) (h : σ 0 = some (3, hc_dfl3)) (K : ∀ G' σ', CLS σ' [] [] [] [] [] [] → (∀ j, nob j → σ' j = σ j) → G'.2.1 = 30 → G'.2.2.1 = G.2.2.1 + 451 → Q G' σ' none none) : hc_wp G σ none 20 0 [some (.inl (.ref 0))] [] Q := by
  simp only [hm20_0, hm20_1, hm20_4, hm20_5, hm20_8, hm20_9, hc_on_some, hc_get, hc_put, hc_ri, hc_rl, hc_is, hc_row, hc_wr, hc_mov, hc_smi, hc_sml, hc_fv, hc_ld, hc_kd, hc_sto, hc_pre, hc_two, hc_inc, hc_psh, hc_kp, hc_k1, hc_np, hc_bk_rf, hc_bk_gA, hc_set_ap, hc_set_set, Value.category, List.getElem?_cons_zero, List.getElem?_cons_succ, List.set_cons_zero, List.set_cons_succ, List.length_cons, List.length_nil, List.map_cons, List.map_nil, reduceIte, Nat.reduceAdd, Nat.reduceSub, Nat.reduceBEq, Nat.reduceEqDiff, Nat.reduceLeDiff, Nat.reduceLT, true_and, and_true, Bool.false_eq_true, reduceCtorEq, if_true, if_false, hc_xx, hc_ofNat, hc_10, not_true_eq_false, not_false_eq_true, ge_iff_le, hn, h, hc_dfl3]
  refine sp_new2' (gO_1 hn) (hc_set_at _ _ _) fun G1 g1 s1 => ?_
  rw [hc_set_set]
  dsimp only
  rw [hc_bk_np rfl rfl]
  simp only [hm20_12, hm20_15, hm20_16, hm20_19, hm20_20, hc_on_some, hc_get, hc_put, hc_ri, hc_rl, hc_is, hc_row, hc_wr, hc_mov, hc_smi, hc_sml, hc_fv, hc_ld, hc_kd, hc_sto, hc_pre, hc_two, hc_inc, hc_psh, hc_kp, hc_k1, hc_np, hc_bk_rf, hc_bk_gA, hc_set_ap, hc_set_set, Value.category, List.getElem?_cons_zero, List.getElem?_cons_succ, List.set_cons_zero, List.set_cons_succ, List.length_cons, List.length_nil, List.map_cons, List.map_nil, reduceIte, Nat.reduceAdd, Nat.reduceSub, Nat.reduceBEq, Nat.reduceEqDiff, Nat.reduceLeDiff, Nat.reduceLT, true_and, and_true, Bool.false_eq_true, reduceCtorEq, if_true, if_false, hc_xx, hc_ofNat, hc_10, not_true_eq_false, not_false_eq_true, ge_iff_le, g1, h, hc_dfl3]
  refine sp_new2' (gO_1 g1) (hc_set_at _ _ _) fun G2 g2 s2 => ?_
  rw [hc_set_set]
  dsimp only
  rw [hc_bk_np rfl rfl]
  simp only [hm20_23, hm20_26, hm20_27, hm20_30, hm20_31, hc_on_some, hc_get, hc_put, hc_ri, hc_rl, hc_is, hc_row, hc_wr, hc_mov, hc_smi, hc_sml, hc_fv, hc_ld, hc_kd, hc_sto, hc_pre, hc_two, hc_inc, hc_psh, hc_kp, hc_k1, hc_np, hc_bk_rf, hc_bk_gA, hc_set_ap, hc_set_set, Value.category, List.getElem?_cons_zero, List.getElem?_cons_succ, List.set_cons_zero, List.set_cons_succ, List.length_cons, List.length_nil, List.map_cons, List.map_nil, reduceIte, Nat.reduceAdd, Nat.reduceSub, Nat.reduceBEq, Nat.reduceEqDiff, Nat.reduceLeDiff, Nat.reduceLT, true_and, and_true, Bool.false_eq_true, reduceCtorEq, if_true, if_false, hc_xx, hc_ofNat, hc_10, not_true_eq_false, not_false_eq_true, ge_iff_le, g2, h, hc_dfl3]
  refine sp_new2' (gO_1 g2) (hc_set_at _ _ _) fun G3 g3 s3 => ?_
  rw [hc_set_set]
  dsimp only
  rw [hc_bk_np rfl rfl]
  simp only [hm20_34, hm20_37, hm20_38, hm20_41, hm20_42, hc_on_some, hc_get, hc_put, hc_ri, hc_rl, hc_is, hc_row, hc_wr, hc_mov, hc_smi, hc_sml, hc_fv, hc_ld, hc_kd, hc_sto, hc_pre, hc_two, hc_inc, hc_psh, hc_kp, hc_k1, hc_np, hc_bk_rf, hc_bk_gA, hc_set_ap, hc_set_set, Value.category, List.getElem?_cons_zero, List.getElem?_cons_succ, List.set_cons_zero, List.set_cons_succ, List.length_cons, List.length_nil, List.map_cons, List.map_nil, reduceIte, Nat.reduceAdd, Nat.reduceSub, Nat.reduceBEq, Nat.reduceEqDiff, Nat.reduceLeDiff, Nat.reduceLT, true_and, and_true, Bool.false_eq_true, reduceCtorEq, if_true, if_false, hc_xx, hc_ofNat, hc_10, not_true_eq_false, not_false_eq_true, ge_iff_le, g3, h, hc_dfl3]
  refine sp_new0' (gO_1 g3) (hc_set_at _ _ _) fun G4 g4 s4 => ?_
  rw [hc_set_set]
  dsimp only
  rw [hc_bk_np rfl rfl]
  simp only [hm20_45, hm20_48, hm20_49, hm20_52, hm20_53, hc_on_some, hc_get, hc_put, hc_ri, hc_rl, hc_is, hc_row, hc_wr, hc_mov, hc_smi, hc_sml, hc_fv, hc_ld, hc_kd, hc_sto, hc_pre, hc_two, hc_inc, hc_psh, hc_kp, hc_k1, hc_np, hc_bk_rf, hc_bk_gA, hc_set_ap, hc_set_set, Value.category, List.getElem?_cons_zero, List.getElem?_cons_succ, List.set_cons_zero, List.set_cons_succ, List.length_cons, List.length_nil, List.map_cons, List.map_nil, reduceIte, Nat.reduceAdd, Nat.reduceSub, Nat.reduceBEq, Nat.reduceEqDiff, Nat.reduceLeDiff, Nat.reduceLT, true_and, and_true, Bool.false_eq_true, reduceCtorEq, if_true, if_false, hc_xx, hc_ofNat, hc_10, not_true_eq_false, not_false_eq_true, ge_iff_le, g4, h, hc_dfl3]
  refine sp_new1 (n := 13) (gO_1 g4) (by decide) (by decide) (hc_set_at _ _ _) fun G5 g5 s5 => ?_
  dsimp only
  rw [hc_bk_np rfl rfl]
  simp only [hm20_56, hm20_59, hm20_60, hm20_63, hm20_64, hc_on_some, hc_get, hc_put, hc_ri, hc_rl, hc_is, hc_row, hc_wr, hc_mov, hc_smi, hc_sml, hc_fv, hc_ld, hc_kd, hc_sto, hc_pre, hc_two, hc_inc, hc_psh, hc_kp, hc_k1, hc_np, hc_bk_rf, hc_bk_gA, hc_set_ap, hc_set_set, Value.category, List.getElem?_cons_zero, List.getElem?_cons_succ, List.set_cons_zero, List.set_cons_succ, List.length_cons, List.length_nil, List.map_cons, List.map_nil, reduceIte, Nat.reduceAdd, Nat.reduceSub, Nat.reduceBEq, Nat.reduceEqDiff, Nat.reduceLeDiff, Nat.reduceLT, true_and, and_true, Bool.false_eq_true, reduceCtorEq, if_true, if_false, hc_xx, hc_ofNat, hc_10, not_true_eq_false, not_false_eq_true, ge_iff_le, g5, h, hc_dfl3]
  refine sp_new1 (n := 22) (gO_1 g5) (by decide) (by decide) (hc_set_at _ _ _) fun G6 g6 s6 => ?_
  dsimp only
  rw [hc_bk_np rfl rfl]
  simp only [hm20_67, hm20_70, hc_on_some, hc_get, hc_put, hc_ri, hc_rl, hc_is, hc_row, hc_wr, hc_mov, hc_smi, hc_sml, hc_fv, hc_ld, hc_kd, hc_sto, hc_pre, hc_two, hc_inc, hc_psh, hc_kp, hc_k1, hc_np, hc_bk_rf, hc_bk_gA, hc_set_ap, hc_set_set, Value.category, List.getElem?_cons_zero, List.getElem?_cons_succ, List.set_cons_zero, List.set_cons_succ, List.length_cons, List.length_nil, List.map_cons, List.map_nil, reduceIte, Nat.reduceAdd, Nat.reduceSub, Nat.reduceBEq, Nat.reduceEqDiff, Nat.reduceLeDiff, Nat.reduceLT, true_and, and_true, Bool.false_eq_true, reduceCtorEq, if_true, if_false, hc_xx, hc_ofNat, hc_10, not_true_eq_false, not_false_eq_true, ge_iff_le, g6, h, hc_dfl3]
  have ly : ∀ n, LYo (oLz n 0 0 (16, .inl fun _ => 0) (32, .inl fun _ => 0) 0 (16, .inl fun _ => 0) (16, .inl fun _ => 0) (16, .inl fun _ => 0)) n [] [] := fun n => ⟨16, _, 32, _, 16, _, 16, _, 16, _, rfl, by omega, by simp, by simp, by simp, by simp, by simp, fun i hi => by
    have : i = 0 := Nat.le_zero.mp hi
    subst this
    exact nI_0.symm, fun i v hi => by simp at hi, fun j hj => by simp at hj⟩
  refine K _ _ ⟨12, 21, _, _, _, _, [], _, _, _, _, [], Or.inl ⟨rfl, rfl⟩, ?_, ⟨?_, pl_new⟩, ⟨?_, pl_new⟩, ⟨?_, pl_new⟩, ⟨?_, ⟨64, fun _ => 0, rfl, by simp, by omega, by omega, fun i v hi => by simp at hi⟩⟩, ⟨?_, ly 13⟩, ⟨?_, pl_new⟩, ⟨?_, (ly 22).d⟩, ⟨?_, pl_new⟩⟩ (fun j hj => ?_) (by omega) (by
    simp only [gO_2] at s2 s3 s4 s5 s6
    rw [gO_2] at s1
    omega)
  all_goals first
    | rfl
    | (simp only [hc_set]
       unfold nob at hj
       repeat rw [if_neg (by omega)])
    | (simp only [hc_set]
       repeat rw [if_neg (by omega)])
end S49
