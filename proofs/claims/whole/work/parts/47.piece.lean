/-! piece of the class -/
/-- what piece answers -/
def AP (Ps : List (Int × Nat)) (p w v : Int32) : Prop := (∃ j, j < Ps.length ∧ p = nI j ∧ ((w = 0 ∧ v.toInt = (Ps[j]?.getD (0, 0)).1 / 6000) ∨ (w = 1 ∧ v.toInt = (Ps[j]?.getD (0, 0)).1 % 6000) ∨ (w = 2 ∧ v = nI (Ps[j]?.getD (0, 0)).2) ∨ (¬ w = 0 ∧ ¬ w = 1 ∧ ¬ w = 2 ∧ v = -1))) ∨ ((p < 0 ∨ nI Ps.length ≤ p) ∧ v = -1)
section S47
variable {G : hc_G} {σ : hc_H} {t : hc_T} {Q : hc_Q} {S E P N : List (Int × Int)} {Ws : List (List Nat)} {Ps : List (Int × Nat)} {ls : hc_L} {st : List hc_V}
theorem hm29_18 {x : Int32} : hc_wp G σ t 29 18 ls (.inl (.int x) :: st) Q = if x.toInt < 0 ∨ 2 < x.toInt then hc_wp G σ t 29 74 ls st Q else hc_on (#[26, 36, 46] : Array Int)[(x.toInt - 0).toNat]? (fun off => 0 ≤ ((18 : Nat) : Int) + off ∧ hc_wp G σ t 29 (hc_tg 18 off) ls st Q) := hcw_table hcb_29 dX3_piece_18 (by decide)
theorem sp_piece (hC : CLS σ S E P N Ws Ps) {p w : Int32} (K : ∀ v, AP Ps p w v → Q G σ t (some (.inl (.int v)))) : hc_wp G σ t 29 0 [some (.inl (.ref 0)), some (.inl (.int p)), some (.inl (.int w))] [] Q := by
  obtain ⟨a, b, o1, o4, o7, o10, lk, oa, oh, ob, og, lg, hab, h0, -, -, -, -, ⟨ha, pa⟩, ⟨hh, ph⟩, -, -⟩ := hC
  obtain ⟨cf, ff, cr, fr, c1, f1, c2, f2, c3, f3, rfl, ⟨z1, z2, z3, z4, z5, z6, z7, z8, z9, z10⟩, y1, y2, y3, y4, y5, hF, hW, hCP⟩ := pa
  by_cases g3 : p < 0
  · simp only [hm29_0, hm29_1, hm29_4, hm29_5, hm29_6, hm29_9, hm29_12, hm29_15, hm29_16, hc_on_some, hc_get, hc_put, hc_ri, hc_rl, hc_is, hc_row, hc_wr, hc_mov, hc_smi, hc_sml, hc_fv, hc_ld, hc_kd, hc_sto, hc_pre, hc_two, hc_inc, hc_psh, hc_kp, hc_k1, hc_np, hc_bk_rf, hc_bk_gA, hc_set_ap, hc_set_set, Value.category, List.getElem?_cons_zero, List.getElem?_cons_succ, List.set_cons_zero, List.set_cons_succ, List.length_cons, List.length_nil, List.map_cons, List.map_nil, reduceIte, Nat.reduceAdd, Nat.reduceSub, Nat.reduceBEq, Nat.reduceEqDiff, Nat.reduceLeDiff, Nat.reduceLT, true_and, and_true, Bool.false_eq_true, reduceCtorEq, if_true, if_false, hc_xx, hc_ofNat, hc_10, not_true_eq_false, not_false_eq_true, ge_iff_le, g3]
    exact K _ (Or.inr ⟨Or.inl g3, rfl⟩)
  rcases pk_ix p (show Ps.length < 2 ^ 31 by omega) with h | h | ⟨j, hj, rfl⟩
  · exact absurd h g3
  · have g2 : ¬ p < nI Ps.length := by
      rw [Int32.not_lt]
      exact h
    simp only [hm29_0, hm29_1, hm29_4, hm29_5, hm29_6, hm29_9, hm29_12, hm29_15, hm29_16, hc_on_some, hc_get, hc_put, hc_ri, hc_rl, hc_is, hc_row, hc_wr, hc_mov, hc_smi, hc_sml, hc_fv, hc_ld, hc_kd, hc_sto, hc_pre, hc_two, hc_inc, hc_psh, hc_kp, hc_k1, hc_np, hc_bk_rf, hc_bk_gA, hc_set_ap, hc_set_set, Value.category, List.getElem?_cons_zero, List.getElem?_cons_succ, List.set_cons_zero, List.set_cons_succ, List.length_cons, List.length_nil, List.map_cons, List.map_nil, reduceIte, Nat.reduceAdd, Nat.reduceSub, Nat.reduceBEq, Nat.reduceEqDiff, Nat.reduceLeDiff, Nat.reduceLT, true_and, and_true, Bool.false_eq_true, reduceCtorEq, if_true, if_false, hc_xx, hc_ofNat, hc_10, not_true_eq_false, not_false_eq_true, ge_iff_le, h0, ha, g2, g3]
    exact K _ (Or.inr ⟨Or.inr h, rfl⟩)
  · have g2 : nI j < nI Ps.length := nI_lt hj (by omega)
    have i1 : hc_inn (nI j) c1 := inn_nI (by omega) (by omega)
    have i2 : hc_inn (nI j) c2 := inn_nI (by omega) (by omega)
    have i3 : hc_inn (nI j) c3 := inn_nI (by omega) (by omega)
    have k2 : (nI j).toNatClampNeg = j := nI_clamp (by omega)
    obtain ⟨v1, v2, v3⟩ := hCP j hj
    have ep : Ps[j]?.getD (0, 0) = Ps[j]'hj := by
      rw [List.getElem?_eq_getElem hj]
      rfl
    rw [← ep] at v1 v2 v3
    simp only [hm29_0, hm29_1, hm29_4, hm29_5, hm29_6, hm29_9, hm29_12, hm29_15, hm29_16, hm29_17, hc_on_some, hc_get, hc_put, hc_ri, hc_rl, hc_is, hc_row, hc_wr, hc_mov, hc_smi, hc_sml, hc_fv, hc_ld, hc_kd, hc_sto, hc_pre, hc_two, hc_inc, hc_psh, hc_kp, hc_k1, hc_np, hc_bk_rf, hc_bk_gA, hc_set_ap, hc_set_set, Value.category, List.getElem?_cons_zero, List.getElem?_cons_succ, List.set_cons_zero, List.set_cons_succ, List.length_cons, List.length_nil, List.map_cons, List.map_nil, reduceIte, Nat.reduceAdd, Nat.reduceSub, Nat.reduceBEq, Nat.reduceEqDiff, Nat.reduceLeDiff, Nat.reduceLT, true_and, and_true, Bool.false_eq_true, reduceCtorEq, if_true, if_false, hc_xx, hc_ofNat, hc_10, not_true_eq_false, not_false_eq_true, ge_iff_le, h0, ha, g2, g3]
    rw [hm29_18]
    by_cases w0 : w = 0
    · subst w0
      have M := K _ (Or.inl ⟨j, hj, rfl, Or.inl ⟨rfl, v1⟩⟩)
      rw [if_neg (by decide)]
      show 0 ≤ ((18 : Nat) : Int) + 26 ∧ hc_wp G σ t 29 44 _ _ Q
      refine ⟨by decide, ?_⟩
      simp only [hm29_44, hm29_45, hm29_48, hm29_51, hm29_52, hm29_53, hm29_54, hm29_55, hm29_58, hm29_61, hm29_62, hm29_63, hm29_64, hm29_65, hm29_68, hm29_71, hm29_72, hm29_73, hm29_74, hm29_75, hc_on_some, hc_get, hc_put, hc_ri, hc_rl, hc_is, hc_row, hc_wr, hc_mov, hc_smi, hc_sml, hc_fv, hc_ld, hc_kd, hc_sto, hc_pre, hc_two, hc_inc, hc_psh, hc_kp, hc_k1, hc_np, hc_bk_rf, hc_bk_gA, hc_set_ap, hc_set_set, Value.category, List.getElem?_cons_zero, List.getElem?_cons_succ, List.set_cons_zero, List.set_cons_succ, List.length_cons, List.length_nil, List.map_cons, List.map_nil, reduceIte, Nat.reduceAdd, Nat.reduceSub, Nat.reduceBEq, Nat.reduceEqDiff, Nat.reduceLeDiff, Nat.reduceLT, true_and, and_true, Bool.false_eq_true, reduceCtorEq, if_true, if_false, hc_xx, hc_ofNat, hc_10, not_true_eq_false, not_false_eq_true, ge_iff_le, h0, ha, i1, k2]
      exact M
    by_cases w1 : w = 1
    · subst w1
      have M := K _ (Or.inl ⟨j, hj, rfl, Or.inr (Or.inl ⟨rfl, v2⟩)⟩)
      rw [if_neg (by decide)]
      show 0 ≤ ((18 : Nat) : Int) + 36 ∧ hc_wp G σ t 29 54 _ _ Q
      refine ⟨by decide, ?_⟩
      simp only [hm29_44, hm29_45, hm29_48, hm29_51, hm29_52, hm29_53, hm29_54, hm29_55, hm29_58, hm29_61, hm29_62, hm29_63, hm29_64, hm29_65, hm29_68, hm29_71, hm29_72, hm29_73, hm29_74, hm29_75, hc_on_some, hc_get, hc_put, hc_ri, hc_rl, hc_is, hc_row, hc_wr, hc_mov, hc_smi, hc_sml, hc_fv, hc_ld, hc_kd, hc_sto, hc_pre, hc_two, hc_inc, hc_psh, hc_kp, hc_k1, hc_np, hc_bk_rf, hc_bk_gA, hc_set_ap, hc_set_set, Value.category, List.getElem?_cons_zero, List.getElem?_cons_succ, List.set_cons_zero, List.set_cons_succ, List.length_cons, List.length_nil, List.map_cons, List.map_nil, reduceIte, Nat.reduceAdd, Nat.reduceSub, Nat.reduceBEq, Nat.reduceEqDiff, Nat.reduceLeDiff, Nat.reduceLT, true_and, and_true, Bool.false_eq_true, reduceCtorEq, if_true, if_false, hc_xx, hc_ofNat, hc_10, not_true_eq_false, not_false_eq_true, ge_iff_le, h0, ha, i2, k2]
      exact M
    by_cases w2 : w = 2
    · subst w2
      have M := K _ (Or.inl ⟨j, hj, rfl, Or.inr (Or.inr (Or.inl ⟨rfl, rfl⟩))⟩)
      rw [if_neg (by decide)]
      show 0 ≤ ((18 : Nat) : Int) + 46 ∧ hc_wp G σ t 29 64 _ _ Q
      refine ⟨by decide, ?_⟩
      simp only [hm29_44, hm29_45, hm29_48, hm29_51, hm29_52, hm29_53, hm29_54, hm29_55, hm29_58, hm29_61, hm29_62, hm29_63, hm29_64, hm29_65, hm29_68, hm29_71, hm29_72, hm29_73, hm29_74, hm29_75, hc_on_some, hc_get, hc_put, hc_ri, hc_rl, hc_is, hc_row, hc_wr, hc_mov, hc_smi, hc_sml, hc_fv, hc_ld, hc_kd, hc_sto, hc_pre, hc_two, hc_inc, hc_psh, hc_kp, hc_k1, hc_np, hc_bk_rf, hc_bk_gA, hc_set_ap, hc_set_set, Value.category, List.getElem?_cons_zero, List.getElem?_cons_succ, List.set_cons_zero, List.set_cons_succ, List.length_cons, List.length_nil, List.map_cons, List.map_nil, reduceIte, Nat.reduceAdd, Nat.reduceSub, Nat.reduceBEq, Nat.reduceEqDiff, Nat.reduceLeDiff, Nat.reduceLT, true_and, and_true, Bool.false_eq_true, reduceCtorEq, if_true, if_false, hc_xx, hc_ofNat, hc_10, not_true_eq_false, not_false_eq_true, ge_iff_le, h0, ha, i3, k2, v3]
      exact M
    · have M := K _ (Or.inl ⟨j, hj, rfl, Or.inr (Or.inr (Or.inr ⟨w0, w1, w2, rfl⟩))⟩)
      have n0 : ¬ w.toInt = 0 := fun e => w0 (Int32.toInt_inj.mp e)
      have n1 : ¬ w.toInt = 1 := fun e => w1 (Int32.toInt_inj.mp e)
      have n2 : ¬ w.toInt = 2 := fun e => w2 (Int32.toInt_inj.mp e)
      rw [if_pos (by omega)]
      simp only [hm29_44, hm29_45, hm29_48, hm29_51, hm29_52, hm29_53, hm29_54, hm29_55, hm29_58, hm29_61, hm29_62, hm29_63, hm29_64, hm29_65, hm29_68, hm29_71, hm29_72, hm29_73, hm29_74, hm29_75, hc_on_some, hc_get, hc_put, hc_ri, hc_rl, hc_is, hc_row, hc_wr, hc_mov, hc_smi, hc_sml, hc_fv, hc_ld, hc_kd, hc_sto, hc_pre, hc_two, hc_inc, hc_psh, hc_kp, hc_k1, hc_np, hc_bk_rf, hc_bk_gA, hc_set_ap, hc_set_set, Value.category, List.getElem?_cons_zero, List.getElem?_cons_succ, List.set_cons_zero, List.set_cons_succ, List.length_cons, List.length_nil, List.map_cons, List.map_nil, reduceIte, Nat.reduceAdd, Nat.reduceSub, Nat.reduceBEq, Nat.reduceEqDiff, Nat.reduceLeDiff, Nat.reduceLT, true_and, and_true, Bool.false_eq_true, reduceCtorEq, if_true, if_false, hc_xx, hc_ofNat, hc_10, not_true_eq_false, not_false_eq_true, ge_iff_le]
      exact M
end S47
