/-! turnRow and turnColumns -/
section S33
variable {G : hc_G} {σ : hc_H} {t : hc_T} {Q : hc_Q}
/-- the row f turned round from a on up to before b, s of its pairs so far -/
def trn (f : Nat → Int32) (a b s : Nat) : Nat → Int32 := fun j => if (a ≤ j ∧ j < a + s) ∨ (b ≤ j + s ∧ j < b) then f (a + b - 1 - j) else f j
theorem trn_s {f : Nat → Int32} {a b s : Nat} (h : a + s + 1 < b - s) (hs : s ≤ b) : upd (upd (trn f a b s) (a + s) (trn f a b s (b - s - 1))) (b - s - 1) (trn f a b s (a + s)) = trn f a b (s + 1) := by
  funext j
  unfold trn upd
  by_cases e1 : j = b - s - 1
  · rw [if_pos e1, if_neg (by omega), if_pos (by omega)]
    congr 1
    omega
  · by_cases e2 : j = a + s
    · rw [if_neg e1, if_pos e2, if_neg (by omega), if_pos (by omega)]
      congr 1
      omega
    · rw [if_neg e1, if_neg e2]
      dsimp only
      by_cases e3 : (a ≤ j ∧ j < a + s) ∨ (b ≤ j + s ∧ j < b)
      · rw [if_pos e3, if_pos (by omega)]
      · rw [if_neg e3, if_neg (by omega)]
theorem sp_turnRow {k kh wc wl cr a b : Nat} {rf : hc_R} {fr : Nat → Int32} {rs : List hc_F} (h : σ k = some (oLy kh wc wl rf (cr, .inl fr) rs)) (hc : cr ≤ 50000) (hab : a ≤ b) (hb : b ≤ cr) (hk : k < 60)
    (K : ∀ fr', (∀ j, fr' j = if a ≤ j ∧ j < b then fr (a + b - 1 - j) else fr j) → hc_cr G σ G (hc_set σ k (oLy kh wc wl rf (cr, .inl fr') rs)) → Q G (hc_set σ k (oLy kh wc wl rf (cr, .inl fr') rs)) none none) :
    hc_wp G σ none 12 0 [some (.inl (.ref k)), some (.inl (.int (nI a))), some (.inl (.int (nI b))), none, none, none] [] Q := by
  have loop : ∀ (d s : Nat) (g : Option Value), d + s = (b - a + 1) / 2 → 2 * s ≤ b - a + 1 → hc_wp G (hc_set σ k (oLy kh wc wl rf (cr, .inl (trn fr a b s)) rs)) none 12 7 [some (.inl (.ref k)), some (.inl (.int (nI a))), some (.inl (.int (nI b))), some (.inl (.int (dI (b - s)))), some (.inl (.int (nI (a + s)))), g.map Sum.inl] [] Q := by
    intro d
    induction d with
    | zero =>
      intro s g hd h2
      have e1 : dI (b - s) ≤ nI (a + s) := by
        by_cases z : b - s = 0
        · rw [z]
          have := dI_0
          rw [Int32.le_iff_toInt_le]
          rw [Int32.lt_iff_toInt_lt] at this
          have z2 : (0 : Int32).toInt = 0 := rfl
          rw [z2] at this
          rw [nI_toInt (by omega)]
          omega
        · obtain ⟨c, hc'⟩ := Nat.exists_eq_succ_of_ne_zero z
          rw [hc', Nat.succ_eq_add_one, dI_1]
          exact nI_le (by omega) (by omega)
      have K2 := K (trn fr a b s) (fun j => by
        unfold trn
        by_cases z : a ≤ j ∧ j < b
        · rw [if_pos z]
          by_cases z2 : (a ≤ j ∧ j < a + s) ∨ (b ≤ j + s ∧ j < b)
          · rw [if_pos z2]
          · rw [if_neg z2]
            congr 1
            omega
        · rw [if_neg z, if_neg (by omega)]) (hc_cr.same hk h rfl)
      rw [hm12_7]
      simp only [hm12_9, hm12_10, hm12_13, hm12_14, hm12_17, hm12_19, hm12_20, hm12_22, hm12_23, hm12_26, hm12_28, hm12_29, hm12_32, hm12_33, hm12_34, hm12_35, hm12_36, hm12_39, hm12_40, hm12_42, hm12_43, hm12_46, hm12_49, hm12_52, hc_on_some, hc_get, hc_put, hc_ri, hc_rl, hc_is, hc_row, hc_wr, hc_mov, hc_smi, hc_sml, hc_fv, hc_ld, hc_kd, hc_sto, hc_pre, hc_two, hc_inc, hc_psh, hc_kp, hc_k1, hc_np, hc_bk_rf, hc_bk_gA, hc_set_ap, hc_set_set, Value.category, List.getElem?_cons_zero, List.getElem?_cons_succ, List.set_cons_zero, List.set_cons_succ, List.length_cons, List.length_nil, List.map_cons, List.map_nil, reduceIte, Nat.reduceAdd, Nat.reduceSub, Nat.reduceBEq, Nat.reduceEqDiff, Nat.reduceLeDiff, Nat.reduceLT, true_and, and_true, Bool.false_eq_true, reduceCtorEq, if_true, if_false, hc_xx, hc_ofNat, hc_10, not_true_eq_false, not_false_eq_true, ge_iff_le, e1] at K2 ⊢
      exact K2
    | succ d ih =>
      intro s g hd h2
      by_cases hlt : a + s + 1 < b - s
      · have e0 : dI (b - s) = nI (b - s - 1) := by
          have := dI_1 (b - s - 1)
          rw [← this]
          congr 1
          omega
        have e1 : ¬ nI (b - s - 1) ≤ nI (a + s) := nI_ge (by omega) (by omega)
        have i1 : hc_inn (nI (a + s)) cr := inn_nI (by omega) (by omega)
        have i2 : hc_inn (nI (b - s - 1)) cr := inn_nI (by omega) (by omega)
        have e4 : (nI (a + s)).toNatClampNeg = a + s := nI_clamp (by omega)
        have e5 : (nI (b - s - 1)).toNatClampNeg = b - s - 1 := nI_clamp (by omega)
        have T := trn_s (f := fr) hlt (by omega)
        have I := ih (s + 1) (some (.int (trn fr a b s (a + s)))) (by omega) (by omega)
        rw [hc_opt] at I
        have e6 : nI (b - s - 1) + -1 = dI (b - (s + 1)) := by
          rw [nI_m1]
          congr 1
        rw [hm12_7]
        simp only [hm12_9, hm12_10, hm12_13, hm12_14, hm12_17, hm12_19, hm12_20, hm12_22, hm12_23, hm12_26, hm12_28, hm12_29, hm12_32, hm12_33, hm12_34, hm12_35, hm12_36, hm12_39, hm12_40, hm12_42, hm12_43, hm12_46, hm12_49, hm12_52, hc_on_some, hc_get, hc_put, hc_ri, hc_rl, hc_is, hc_row, hc_wr, hc_mov, hc_smi, hc_sml, hc_fv, hc_ld, hc_kd, hc_sto, hc_pre, hc_two, hc_inc, hc_psh, hc_kp, hc_k1, hc_np, hc_bk_rf, hc_bk_gA, hc_set_ap, hc_set_set, Value.category, List.getElem?_cons_zero, List.getElem?_cons_succ, List.set_cons_zero, List.set_cons_succ, List.length_cons, List.length_nil, List.map_cons, List.map_nil, reduceIte, Nat.reduceAdd, Nat.reduceSub, Nat.reduceBEq, Nat.reduceEqDiff, Nat.reduceLeDiff, Nat.reduceLT, true_and, and_true, Bool.false_eq_true, reduceCtorEq, if_true, if_false, hc_xx, hc_ofNat, hc_10, not_true_eq_false, not_false_eq_true, ge_iff_le, e0, e1, i1, i2, e4, e5, nI_1, e6, T]
        exact I
      · have e1 : dI (b - s) ≤ nI (a + s) := by
          by_cases z : b - s = 0
          · omega
          · obtain ⟨c, hc'⟩ := Nat.exists_eq_succ_of_ne_zero z
            rw [hc', Nat.succ_eq_add_one, dI_1]
            exact nI_le (by omega) (by omega)
        have K2 := K (trn fr a b s) (fun j => by
          unfold trn
          by_cases z : a ≤ j ∧ j < b
          · rw [if_pos z]
            by_cases z2 : (a ≤ j ∧ j < a + s) ∨ (b ≤ j + s ∧ j < b)
            · rw [if_pos z2]
            · rw [if_neg z2]
              congr 1
              omega
          · rw [if_neg z, if_neg (by omega)]) (hc_cr.same hk h rfl)
        rw [hm12_7]
        simp only [hm12_9, hm12_10, hm12_13, hm12_14, hm12_17, hm12_19, hm12_20, hm12_22, hm12_23, hm12_26, hm12_28, hm12_29, hm12_32, hm12_33, hm12_34, hm12_35, hm12_36, hm12_39, hm12_40, hm12_42, hm12_43, hm12_46, hm12_49, hm12_52, hc_on_some, hc_get, hc_put, hc_ri, hc_rl, hc_is, hc_row, hc_wr, hc_mov, hc_smi, hc_sml, hc_fv, hc_ld, hc_kd, hc_sto, hc_pre, hc_two, hc_inc, hc_psh, hc_kp, hc_k1, hc_np, hc_bk_rf, hc_bk_gA, hc_set_ap, hc_set_set, Value.category, List.getElem?_cons_zero, List.getElem?_cons_succ, List.set_cons_zero, List.set_cons_succ, List.length_cons, List.length_nil, List.map_cons, List.map_nil, reduceIte, Nat.reduceAdd, Nat.reduceSub, Nat.reduceBEq, Nat.reduceEqDiff, Nat.reduceLeDiff, Nat.reduceLT, true_and, and_true, Bool.false_eq_true, reduceCtorEq, if_true, if_false, hc_xx, hc_ofNat, hc_10, not_true_eq_false, not_false_eq_true, ge_iff_le, e1] at K2 ⊢
        exact K2
  have t0 : trn fr a b 0 = fr := by
    funext j
    unfold trn
    rw [if_neg (by omega)]
  have L := loop ((b - a + 1) / 2) 0 none (by omega) (by omega)
  rw [t0, hc_set_id' h, Option.map_none, Nat.add_zero, Nat.sub_zero] at L
  simp only [hm12_0, hm12_1, hm12_2, hm12_3, hm12_4, hm12_5, hc_on_some, hc_get, hc_put, hc_ri, hc_rl, hc_is, hc_row, hc_wr, hc_mov, hc_smi, hc_sml, hc_fv, hc_ld, hc_kd, hc_sto, hc_pre, hc_two, hc_inc, hc_psh, hc_kp, hc_k1, hc_np, hc_bk_rf, hc_bk_gA, hc_set_ap, hc_set_set, Value.category, List.getElem?_cons_zero, List.getElem?_cons_succ, List.set_cons_zero, List.set_cons_succ, List.length_cons, List.length_nil, List.map_cons, List.map_nil, reduceIte, Nat.reduceAdd, Nat.reduceSub, Nat.reduceBEq, Nat.reduceEqDiff, Nat.reduceLeDiff, Nat.reduceLT, true_and, and_true, Bool.false_eq_true, reduceCtorEq, if_true, if_false, hc_xx, hc_ofNat, hc_10, not_true_eq_false, not_false_eq_true, ge_iff_le, nI_s1]
  exact L
end S33
