/-! find in the places of the reference -/
section S63
variable {G : hc_G} {σ : hc_H} {t : hc_T} {Q : hc_Q}
theorem sp_mfind {k C : Nat} {l : List Int} {o : hc_O} {x y : Int32} (h : σ k = some o) (hP : MPo o l C) (hC : C ≤ 2 ^ 20) (hs : l.Pairwise (· < ·))
    (K : ∀ v : Int32, (∃ j, ∃ hj : j < l.length, l[j] = (kyv x y).toInt ∧ v = nI j) ∨ ((∀ j (hj : j < l.length), ¬ l[j] = (kyv x y).toInt) ∧ v = -1) → Q G σ t (some (.inl (.int v)))) :
    hc_wp G σ t 51 0 [some (.inl (.ref k)), some (.inl (.int x)), some (.inl (.int y)), none, none, none, none, none] [] Q := by
  obtain ⟨c, f, rfl, h1, h2, h3, h4⟩ := hP
  have z2 : ¬ (2 : Int32) = 0 := by decide
  generalize hky : kyv x y = ky at *
  have fin : ∀ (r : Nat) (g6 g7 : Option Value), r ≤ l.length → (∀ j (hj : j < l.length), j < r → l[j] < ky.toInt) → (∀ j (hj : j < l.length), r ≤ j → ¬ l[j] < ky.toInt) → hc_wp G σ t 51 59 [some (.inl (.ref k)), some (.inl (.int x)), some (.inl (.int y)), some (.inl (.long ky)), none, some (.inl (.int (nI r))), g6.map Sum.inl, g7.map Sum.inl] [] Q := by
    intro r g6 g7 hr ha hb
    by_cases c1 : r = l.length
    · subst c1
      have M := K (-1) (Or.inr ⟨fun j hj e => by have := ha j hj hj; omega, rfl⟩)
      simp only [hm51_59, hm51_61, hm51_62, hm51_65, hm51_68, hm51_69, hm51_72, hm51_74, hm51_75, hm51_76, hm51_77, hm51_80, hm51_82, hm51_85, hm51_86, hc_on_some, hc_get, hc_put, hc_ri, hc_rl, hc_is, hc_row, hc_wr, hc_mov, hc_smi, hc_sml, hc_fv, hc_ld, hc_kd, hc_sto, hc_pre, hc_two, hc_inc, hc_psh, hc_kp, hc_k1, hc_np, hc_bk_rf, hc_bk_gA, hc_set_ap, hc_set_set, Value.category, List.getElem?_cons_zero, List.getElem?_cons_succ, List.set_cons_zero, List.set_cons_succ, List.length_cons, List.length_nil, List.map_cons, List.map_nil, reduceIte, Nat.reduceAdd, Nat.reduceSub, Nat.reduceBEq, Nat.reduceEqDiff, Nat.reduceLeDiff, Nat.reduceLT, true_and, and_true, Bool.false_eq_true, reduceCtorEq, if_true, if_false, hc_xx, hc_ofNat, hc_10, not_true_eq_false, not_false_eq_true, ge_iff_le, h, oMp, if_pos (Int32.le_refl (nI l.length))]
      exact M
    · have hrl : r < l.length := by omega
      have e1 : ¬ nI l.length ≤ nI r := nI_ge hrl (by omega)
      have i1 : hc_inn (nI r) c := inn_nI (by omega) (by omega)
      have k1 : (nI r).toNatClampNeg = r := nI_clamp (by omega)
      have fr := h4.at hrl
      by_cases c2 : f r = ky
      · have M := K (nI r) (Or.inl ⟨r, hrl, by rw [← fr, c2], rfl⟩)
        simp only [hm51_59, hm51_61, hm51_62, hm51_65, hm51_68, hm51_69, hm51_72, hm51_74, hm51_75, hm51_76, hm51_77, hm51_80, hm51_82, hm51_85, hm51_86, hc_on_some, hc_get, hc_put, hc_ri, hc_rl, hc_is, hc_row, hc_wr, hc_mov, hc_smi, hc_sml, hc_fv, hc_ld, hc_kd, hc_sto, hc_pre, hc_two, hc_inc, hc_psh, hc_kp, hc_k1, hc_np, hc_bk_rf, hc_bk_gA, hc_set_ap, hc_set_set, Value.category, List.getElem?_cons_zero, List.getElem?_cons_succ, List.set_cons_zero, List.set_cons_succ, List.length_cons, List.length_nil, List.map_cons, List.map_nil, reduceIte, Nat.reduceAdd, Nat.reduceSub, Nat.reduceBEq, Nat.reduceEqDiff, Nat.reduceLeDiff, Nat.reduceLT, true_and, and_true, Bool.false_eq_true, reduceCtorEq, if_true, if_false, hc_xx, hc_ofNat, hc_10, not_true_eq_false, not_false_eq_true, ge_iff_le, h, oMp, e1, i1, k1, lgc_eq, c2]
        exact M
      · have c3 : ¬ l[r] = ky.toInt := fun e => c2 (Int64.toInt_inj.mp (by rw [fr, e]))
        have M := K (-1) (Or.inr ⟨fun j hj e => by
          by_cases c4 : j < r
          · have := ha j hj c4
            omega
          · have c5 := hb r hrl (Nat.le_refl _)
            by_cases c6 : j = r
            · subst c6
              exact c3 e
            · have := pw_get hs r j (by omega) hj
              omega, rfl⟩)
        simp only [hm51_59, hm51_61, hm51_62, hm51_65, hm51_68, hm51_69, hm51_72, hm51_74, hm51_75, hm51_76, hm51_77, hm51_80, hm51_82, hm51_85, hm51_86, hc_on_some, hc_get, hc_put, hc_ri, hc_rl, hc_is, hc_row, hc_wr, hc_mov, hc_smi, hc_sml, hc_fv, hc_ld, hc_kd, hc_sto, hc_pre, hc_two, hc_inc, hc_psh, hc_kp, hc_k1, hc_np, hc_bk_rf, hc_bk_gA, hc_set_ap, hc_set_set, Value.category, List.getElem?_cons_zero, List.getElem?_cons_succ, List.set_cons_zero, List.set_cons_succ, List.length_cons, List.length_nil, List.map_cons, List.map_nil, reduceIte, Nat.reduceAdd, Nat.reduceSub, Nat.reduceBEq, Nat.reduceEqDiff, Nat.reduceLeDiff, Nat.reduceLT, true_and, and_true, Bool.false_eq_true, reduceCtorEq, if_true, if_false, hc_xx, hc_ofNat, hc_10, not_true_eq_false, not_false_eq_true, ge_iff_le, h, oMp, e1, i1, k1, lgc_eq, c2]
        exact M
  have loop : ∀ (d lo hi : Nat) (g7 : Option Value), hi - lo ≤ d → lo ≤ hi → hi ≤ l.length → (∀ j (hj : j < l.length), j < lo → l[j] < ky.toInt) → (∀ j (hj : j < l.length), hi ≤ j → ¬ l[j] < ky.toInt) → hc_wp G σ t 51 15 [some (.inl (.ref k)), some (.inl (.int x)), some (.inl (.int y)), some (.inl (.long ky)), none, some (.inl (.int (nI lo))), some (.inl (.int (nI hi))), g7.map Sum.inl] [] Q := by
    intro d
    induction d with
    | zero =>
      intro lo hi g7 hw h1' h2' ha hb
      have e : lo = hi := by omega
      subst e
      have F := fin lo (some (.int (nI lo))) g7 h2' ha hb
      rw [hc_opt] at F
      rw [hm51_15]
      simp only [hm51_17, hm51_19, hm51_22, hm51_24, hm51_26, hm51_27, hm51_28, hm51_29, hm51_31, hm51_32, hm51_35, hm51_37, hm51_38, hm51_39, hm51_40, hm51_43, hm51_45, hm51_46, hm51_47, hm51_49, hm51_52, hm51_54, hm51_56, hc_on_some, hc_get, hc_put, hc_ri, hc_rl, hc_is, hc_row, hc_wr, hc_mov, hc_smi, hc_sml, hc_fv, hc_ld, hc_kd, hc_sto, hc_pre, hc_two, hc_inc, hc_psh, hc_kp, hc_k1, hc_np, hc_bk_rf, hc_bk_gA, hc_set_ap, hc_set_set, Value.category, List.getElem?_cons_zero, List.getElem?_cons_succ, List.set_cons_zero, List.set_cons_succ, List.length_cons, List.length_nil, List.map_cons, List.map_nil, reduceIte, Nat.reduceAdd, Nat.reduceSub, Nat.reduceBEq, Nat.reduceEqDiff, Nat.reduceLeDiff, Nat.reduceLT, true_and, and_true, Bool.false_eq_true, reduceCtorEq, if_true, if_false, hc_xx, hc_ofNat, hc_10, not_true_eq_false, not_false_eq_true, ge_iff_le, if_pos (Int32.le_refl (nI lo))]
      exact F
    | succ d ih =>
      intro lo hi g7 hw h1' h2' ha hb
      by_cases e : lo = hi
      · subst e
        have F := fin lo (some (.int (nI lo))) g7 h2' ha hb
        rw [hc_opt] at F
        rw [hm51_15]
        simp only [hm51_17, hm51_19, hm51_22, hm51_24, hm51_26, hm51_27, hm51_28, hm51_29, hm51_31, hm51_32, hm51_35, hm51_37, hm51_38, hm51_39, hm51_40, hm51_43, hm51_45, hm51_46, hm51_47, hm51_49, hm51_52, hm51_54, hm51_56, hc_on_some, hc_get, hc_put, hc_ri, hc_rl, hc_is, hc_row, hc_wr, hc_mov, hc_smi, hc_sml, hc_fv, hc_ld, hc_kd, hc_sto, hc_pre, hc_two, hc_inc, hc_psh, hc_kp, hc_k1, hc_np, hc_bk_rf, hc_bk_gA, hc_set_ap, hc_set_set, Value.category, List.getElem?_cons_zero, List.getElem?_cons_succ, List.set_cons_zero, List.set_cons_succ, List.length_cons, List.length_nil, List.map_cons, List.map_nil, reduceIte, Nat.reduceAdd, Nat.reduceSub, Nat.reduceBEq, Nat.reduceEqDiff, Nat.reduceLeDiff, Nat.reduceLT, true_and, and_true, Bool.false_eq_true, reduceCtorEq, if_true, if_false, hc_xx, hc_ofNat, hc_10, not_true_eq_false, not_false_eq_true, ge_iff_le, if_pos (Int32.le_refl (nI lo))]
        exact F
      · have e1 : ¬ nI hi ≤ nI lo := nI_ge (by omega) (by omega)
        have e2 : nI (lo + hi) / 2 = nI ((lo + hi) / 2) := pk_div (d := 2) (by omega) (by omega) (by omega)
        have hb1 : lo ≤ (lo + hi) / 2 := by omega
        have hb2 : (lo + hi) / 2 < hi := by omega
        generalize (lo + hi) / 2 = mid at *
        have hml : mid < l.length := by omega
        have i1 : hc_inn (nI mid) c := inn_nI (by omega) (by omega)
        have k1 : (nI mid).toNatClampNeg = mid := nI_clamp (by omega)
        have fm := h4.at hml
        by_cases c2 : f mid < ky
        · have c2' := Int64.lt_iff_toInt_lt.mp c2
          have c3 : ¬ ky ≤ f mid := by
            rw [Int64.not_le]
            exact c2
          have I := ih (mid + 1) hi (some (.int (nI mid))) (by omega) (by omega) h2' (fun j hj hj2 => by
            by_cases z : j = mid
            · subst z
              omega
            · have := pw_get hs j mid (by omega) hml
              omega) hb
          rw [hc_opt] at I
          rw [hm51_15]
          simp only [hm51_17, hm51_19, hm51_22, hm51_24, hm51_26, hm51_27, hm51_28, hm51_29, hm51_31, hm51_32, hm51_35, hm51_37, hm51_38, hm51_39, hm51_40, hm51_43, hm51_45, hm51_46, hm51_47, hm51_49, hm51_52, hm51_54, hm51_56, hc_on_some, hc_get, hc_put, hc_ri, hc_rl, hc_is, hc_row, hc_wr, hc_mov, hc_smi, hc_sml, hc_fv, hc_ld, hc_kd, hc_sto, hc_pre, hc_two, hc_inc, hc_psh, hc_kp, hc_k1, hc_np, hc_bk_rf, hc_bk_gA, hc_set_ap, hc_set_set, Value.category, List.getElem?_cons_zero, List.getElem?_cons_succ, List.set_cons_zero, List.set_cons_succ, List.length_cons, List.length_nil, List.map_cons, List.map_nil, reduceIte, Nat.reduceAdd, Nat.reduceSub, Nat.reduceBEq, Nat.reduceEqDiff, Nat.reduceLeDiff, Nat.reduceLT, true_and, and_true, Bool.false_eq_true, reduceCtorEq, if_true, if_false, hc_xx, hc_ofNat, hc_10, not_true_eq_false, not_false_eq_true, ge_iff_le, e1, nI_add, e2, z2, h, oMp, i1, k1, lgc_ge, c3, nI_1]
          exact I
        · have c2' := mt Int64.lt_iff_toInt_lt.mpr c2
          have c3 : ky ≤ f mid := by
            rw [← Int64.not_lt]
            exact c2
          have I := ih lo mid (some (.int (nI mid))) (by omega) (by omega) (by omega) ha (fun j hj hj2 => by
            by_cases z : j = mid
            · subst z
              omega
            · have := pw_get hs mid j (by omega) hj
              omega)
          rw [hc_opt] at I
          rw [hm51_15]
          simp only [hm51_17, hm51_19, hm51_22, hm51_24, hm51_26, hm51_27, hm51_28, hm51_29, hm51_31, hm51_32, hm51_35, hm51_37, hm51_38, hm51_39, hm51_40, hm51_43, hm51_45, hm51_46, hm51_47, hm51_49, hm51_52, hm51_54, hm51_56, hc_on_some, hc_get, hc_put, hc_ri, hc_rl, hc_is, hc_row, hc_wr, hc_mov, hc_smi, hc_sml, hc_fv, hc_ld, hc_kd, hc_sto, hc_pre, hc_two, hc_inc, hc_psh, hc_kp, hc_k1, hc_np, hc_bk_rf, hc_bk_gA, hc_set_ap, hc_set_set, Value.category, List.getElem?_cons_zero, List.getElem?_cons_succ, List.set_cons_zero, List.set_cons_succ, List.length_cons, List.length_nil, List.map_cons, List.map_nil, reduceIte, Nat.reduceAdd, Nat.reduceSub, Nat.reduceBEq, Nat.reduceEqDiff, Nat.reduceLeDiff, Nat.reduceLT, true_and, and_true, Bool.false_eq_true, reduceCtorEq, if_true, if_false, hc_xx, hc_ofNat, hc_10, not_true_eq_false, not_false_eq_true, ge_iff_le, e1, nI_add, e2, z2, h, oMp, i1, k1, lgc_ge, c3]
          exact I
  have L := loop l.length 0 l.length none (by omega) (by omega) (by omega) (fun j hj hj2 => by omega) (fun j hj hj2 => by omega)
  rw [Option.map_none, nI_0] at L
  simp only [hm51_0, hm51_1, hm51_2, hm51_5, hm51_6, hm51_7, hm51_9, hm51_10, hm51_13, hc_on_some, hc_get, hc_put, hc_ri, hc_rl, hc_is, hc_row, hc_wr, hc_mov, hc_smi, hc_sml, hc_fv, hc_ld, hc_kd, hc_sto, hc_pre, hc_two, hc_inc, hc_psh, hc_kp, hc_k1, hc_np, hc_bk_rf, hc_bk_gA, hc_set_ap, hc_set_set, Value.category, List.getElem?_cons_zero, List.getElem?_cons_succ, List.set_cons_zero, List.set_cons_succ, List.length_cons, List.length_nil, List.map_cons, List.map_nil, reduceIte, Nat.reduceAdd, Nat.reduceSub, Nat.reduceBEq, Nat.reduceEqDiff, Nat.reduceLeDiff, Nat.reduceLT, true_and, and_true, Bool.false_eq_true, reduceCtorEq, if_true, if_false, hc_xx, hc_ofNat, hc_10, not_true_eq_false, not_false_eq_true, ge_iff_le, sp_key, hky, h, oMp]
  exact L
end S63
