/-! places in order; the first not below; rows of node numbers -/
abbrev plt (p q : Int × Int) : Prop := p.1 < q.1 ∨ (p.1 = q.1 ∧ p.2 < q.2)
def CW (f : Nat → Int32) (W : List Nat) : Prop := ∀ i v, W[i]? = some v → f i = nI v
theorem CW.at {f : Nat → Int32} {W : List Nat} (h : CW f W) {i : Nat} (hi : i < W.length) : f i = nI W[i] := h i _ (List.getElem?_eq_getElem hi)
theorem CW.of {f : Nat → Int32} {W : List Nat} (h : ∀ j (hj : j < W.length), f j = nI W[j]) : CW f W := by
  intro i v hi
  obtain ⟨h1, h2⟩ := List.getElem?_eq_some_iff.mp hi
  rw [h i h1, h2]
theorem CW.add {f : Nat → Int32} {W : List Nat} (h : CW f W) (v : Nat) : CW (upd f W.length (nI v)) (W ++ [v]) := by
  intro i w hi
  by_cases e : i < W.length
  · rw [List.getElem?_append_left e] at hi
    simp only [upd, if_neg (Nat.ne_of_lt e)]
    exact h i w hi
  · rw [List.getElem?_append_right (by omega)] at hi
    have hz : i - W.length < 1 := (List.getElem?_eq_some_iff.mp hi).1
    have e2 : i = W.length := by omega
    subst e2
    rw [Nat.sub_self] at hi
    cases hi
    simp [upd]
theorem CW.cpy {f g : Nat → Int32} {W : List Nat} {n : Nat} (h : CW f W) (hn : W.length ≤ n) : CW (va_cpy f g 0 0 n) W := by
  intro i w hi
  have := (List.getElem?_eq_some_iff.mp hi).1
  rw [← h i w hi]
  unfold va_cpy
  rw [if_pos ⟨by omega, by omega⟩]
  congr 2
  omega
abbrev oLy (kh wc wl : Nat) (rf rr : hc_R) (rs : List hc_F) : hc_O := (1, .inl (.ref kh) :: .inl (.int (nI wc)) :: .inl (.int (nI wl)) :: .inr rf :: .inr rr :: rs)
section S30
variable {G : hc_G} {σ : hc_H} {t : hc_T} {Q : hc_Q}
theorem sp_fnb {k : Nat} {l : List (Int × Int)} {o : hc_O} {x y : Int32} {m : Nat} (h : σ k = some o) (hP : PLo o l m) (hm : l.length ≤ m) (hl : l.length ≤ 6000) (hs : ∀ i j (hij : i < j) (hj : j < l.length), plt l[i] l[j])
    (K : ∀ r, r ≤ l.length → (∀ j (hj : j < l.length), j < r ↔ plt l[j] (x.toInt, y.toInt)) → Q G σ t (some (.inl (.int (nI r))))) :
    hc_wp G σ t 19 0 [some (.inl (.ref k)), some (.inl (.int x)), some (.inl (.int y)), none, none, none] [] Q := by
  obtain ⟨cx, fx, cy, fy, rfl, h1, h2, h3, h4, h5, h6, h7, h8⟩ := hP
  have px : ∀ j (hj : j < l.length), (fx j).toInt = l[j].1 := fun j hj => h7 j _ (by rw [List.getElem?_map, List.getElem?_eq_getElem hj]; rfl)
  have py : ∀ j (hj : j < l.length), (fy j).toInt = l[j].2 := fun j hj => h8 j _ (by rw [List.getElem?_map, List.getElem?_eq_getElem hj]; rfl)
  have tr : ∀ p q r : Int × Int, plt p q → plt q r → plt p r := by
    intro p q r ha hb
    unfold plt at *
    omega
  have loop : ∀ (w lo hi : Nat) (g : Option Value), hi - lo ≤ w → lo ≤ hi → hi ≤ l.length → (∀ j (hj : j < l.length), j < lo → plt l[j] (x.toInt, y.toInt)) → (∀ j (hj : j < l.length), hi ≤ j → ¬ plt l[j] (x.toInt, y.toInt)) → hc_wp G σ t 19 8 [some (.inl (.ref k)), some (.inl (.int x)), some (.inl (.int y)), some (.inl (.int (nI lo))), some (.inl (.int (nI hi))), g.map Sum.inl] [] Q := by
    intro w
    induction w with
    | zero =>
      intro lo hi g hw h1' h2' ha hb
      have e : lo = hi := by omega
      subst e
      rw [hm19_8]
      simp only [hm19_9, hm19_11, hm19_14, hm19_15, hm19_17, hm19_18, hm19_19, hm19_20, hm19_22, hm19_23, hm19_26, hm19_28, hm19_29, hm19_30, hm19_33, hm19_34, hm19_37, hm19_39, hm19_40, hm19_41, hm19_44, hm19_45, hm19_48, hm19_50, hm19_51, hm19_52, hm19_55, hm19_57, hm19_58, hm19_59, hm19_60, hm19_63, hm19_65, hm19_67, hm19_70, hm19_71, hc_on_some, hc_get, hc_put, hc_ri, hc_rl, hc_is, hc_row, hc_wr, hc_mov, hc_smi, hc_sml, hc_fv, hc_ld, hc_kd, hc_sto, hc_pre, hc_two, hc_inc, hc_psh, hc_kp, hc_k1, hc_np, hc_bk_rf, hc_bk_gA, hc_set_ap, hc_set_set, Value.category, List.getElem?_cons_zero, List.getElem?_cons_succ, List.set_cons_zero, List.set_cons_succ, List.length_cons, List.length_nil, List.map_cons, List.map_nil, reduceIte, Nat.reduceAdd, Nat.reduceSub, Nat.reduceBEq, Nat.reduceEqDiff, Nat.reduceLeDiff, Nat.reduceLT, true_and, and_true, Bool.false_eq_true, reduceCtorEq, if_true, if_false, hc_xx, hc_ofNat, hc_10, not_true_eq_false, not_false_eq_true, ge_iff_le, if_pos (Int32.le_refl (nI lo))]
      exact K lo h2' fun j hj => ⟨fun q => ha j hj q, fun q => by
        by_cases z : j < lo
        · exact z
        · exact absurd q (hb j hj (by omega))⟩
    | succ w ih =>
      intro lo hi g hw h1' h2' ha hb
      by_cases e : lo = hi
      · subst e
        rw [hm19_8]
        simp only [hm19_9, hm19_11, hm19_14, hm19_15, hm19_17, hm19_18, hm19_19, hm19_20, hm19_22, hm19_23, hm19_26, hm19_28, hm19_29, hm19_30, hm19_33, hm19_34, hm19_37, hm19_39, hm19_40, hm19_41, hm19_44, hm19_45, hm19_48, hm19_50, hm19_51, hm19_52, hm19_55, hm19_57, hm19_58, hm19_59, hm19_60, hm19_63, hm19_65, hm19_67, hm19_70, hm19_71, hc_on_some, hc_get, hc_put, hc_ri, hc_rl, hc_is, hc_row, hc_wr, hc_mov, hc_smi, hc_sml, hc_fv, hc_ld, hc_kd, hc_sto, hc_pre, hc_two, hc_inc, hc_psh, hc_kp, hc_k1, hc_np, hc_bk_rf, hc_bk_gA, hc_set_ap, hc_set_set, Value.category, List.getElem?_cons_zero, List.getElem?_cons_succ, List.set_cons_zero, List.set_cons_succ, List.length_cons, List.length_nil, List.map_cons, List.map_nil, reduceIte, Nat.reduceAdd, Nat.reduceSub, Nat.reduceBEq, Nat.reduceEqDiff, Nat.reduceLeDiff, Nat.reduceLT, true_and, and_true, Bool.false_eq_true, reduceCtorEq, if_true, if_false, hc_xx, hc_ofNat, hc_10, not_true_eq_false, not_false_eq_true, ge_iff_le, if_pos (Int32.le_refl (nI lo))]
        exact K lo h2' fun j hj => ⟨fun q => ha j hj q, fun q => by
          by_cases z : j < lo
          · exact z
          · exact absurd q (hb j hj (by omega))⟩
      · have e1 : ¬ nI hi ≤ nI lo := nI_ge (by omega) (by omega)
        have e2 : nI (lo + hi) / 2 = nI ((lo + hi) / 2) := pk_div (d := 2) (by omega) (by omega) (by omega)
        have hmid : (lo + hi) / 2 < l.length := by omega
        have hb1 : lo ≤ (lo + hi) / 2 := by omega
        have hb2 : (lo + hi) / 2 < hi := by omega
        generalize (lo + hi) / 2 = mid at *
        have i1 : hc_inn (nI mid) cx := inn_nI (by omega) (by omega)
        have i2 : hc_inn (nI mid) cy := inn_nI (by omega) (by omega)
        have e4 : (nI mid).toNatClampNeg = mid := nI_clamp (by omega)
        have z2 : ¬ (2 : Int32) = 0 := by decide
        have up : plt l[mid] (x.toInt, y.toInt) → hc_wp G σ t 19 8 [some (.inl (.ref k)), some (.inl (.int x)), some (.inl (.int y)), some (.inl (.int (nI (mid + 1)))), some (.inl (.int (nI hi))), (some (Value.int (nI mid))).map Sum.inl] [] Q := fun hp =>
          ih (mid + 1) hi _ (by omega) (by omega) h2' (fun j hj hji => by
            by_cases z : j = mid
            · subst z
              exact hp
            · exact tr _ _ _ (hs j mid (by omega) hmid) hp) hb
        have dn : ¬ plt l[mid] (x.toInt, y.toInt) → hc_wp G σ t 19 8 [some (.inl (.ref k)), some (.inl (.int x)), some (.inl (.int y)), some (.inl (.int (nI lo))), some (.inl (.int (nI mid))), (some (Value.int (nI mid))).map Sum.inl] [] Q := fun hp =>
          ih lo mid _ (by omega) (by omega) (by omega) ha (fun j hj hji => by
            by_cases z : j = mid
            · subst z
              exact hp
            · exact fun q => hp (tr _ _ _ (hs mid j (by omega) hj) q))
        rw [hc_opt] at up dn
        rw [hm19_8]
        have vx := px mid hmid
        have vy := py mid hmid
        by_cases c1 : fx mid < x
        · simp only [hm19_9, hm19_11, hm19_14, hm19_15, hm19_17, hm19_18, hm19_19, hm19_20, hm19_22, hm19_23, hm19_26, hm19_28, hm19_29, hm19_30, hm19_33, hm19_34, hm19_37, hm19_39, hm19_40, hm19_41, hm19_44, hm19_45, hm19_48, hm19_50, hm19_51, hm19_52, hm19_55, hm19_57, hm19_58, hm19_59, hm19_60, hm19_63, hm19_65, hm19_67, hm19_70, hm19_71, hc_on_some, hc_get, hc_put, hc_ri, hc_rl, hc_is, hc_row, hc_wr, hc_mov, hc_smi, hc_sml, hc_fv, hc_ld, hc_kd, hc_sto, hc_pre, hc_two, hc_inc, hc_psh, hc_kp, hc_k1, hc_np, hc_bk_rf, hc_bk_gA, hc_set_ap, hc_set_set, Value.category, List.getElem?_cons_zero, List.getElem?_cons_succ, List.set_cons_zero, List.set_cons_succ, List.length_cons, List.length_nil, List.map_cons, List.map_nil, reduceIte, Nat.reduceAdd, Nat.reduceSub, Nat.reduceBEq, Nat.reduceEqDiff, Nat.reduceLeDiff, Nat.reduceLT, true_and, and_true, Bool.false_eq_true, reduceCtorEq, if_true, if_false, hc_xx, hc_ofNat, hc_10, not_true_eq_false, not_false_eq_true, ge_iff_le, h, e1, nI_add, e2, z2, i1, i2, e4, c1, nI_1]
          exact up (Or.inl (by rw [← vx]; exact Int32.lt_iff_toInt_lt.mp c1))
        · have c1' : ¬ (fx mid).toInt < x.toInt := fun q => c1 (Int32.lt_iff_toInt_lt.mpr q)
          by_cases c2 : fx mid = x
          · by_cases c3 : y ≤ fy mid
            · simp only [hm19_9, hm19_11, hm19_14, hm19_15, hm19_17, hm19_18, hm19_19, hm19_20, hm19_22, hm19_23, hm19_26, hm19_28, hm19_29, hm19_30, hm19_33, hm19_34, hm19_37, hm19_39, hm19_40, hm19_41, hm19_44, hm19_45, hm19_48, hm19_50, hm19_51, hm19_52, hm19_55, hm19_57, hm19_58, hm19_59, hm19_60, hm19_63, hm19_65, hm19_67, hm19_70, hm19_71, hc_on_some, hc_get, hc_put, hc_ri, hc_rl, hc_is, hc_row, hc_wr, hc_mov, hc_smi, hc_sml, hc_fv, hc_ld, hc_kd, hc_sto, hc_pre, hc_two, hc_inc, hc_psh, hc_kp, hc_k1, hc_np, hc_bk_rf, hc_bk_gA, hc_set_ap, hc_set_set, Value.category, List.getElem?_cons_zero, List.getElem?_cons_succ, List.set_cons_zero, List.set_cons_succ, List.length_cons, List.length_nil, List.map_cons, List.map_nil, reduceIte, Nat.reduceAdd, Nat.reduceSub, Nat.reduceBEq, Nat.reduceEqDiff, Nat.reduceLeDiff, Nat.reduceLT, true_and, and_true, Bool.false_eq_true, reduceCtorEq, if_true, if_false, hc_xx, hc_ofNat, hc_10, not_true_eq_false, not_false_eq_true, ge_iff_le, h, e1, nI_add, e2, z2, i1, i2, e4, c1, c2, c3, Int32.lt_irrefl]
              have c3' := Int32.le_iff_toInt_le.mp c3
              refine dn fun q => ?_
              unfold plt at q
              simp only at q
              omega
            · simp only [hm19_9, hm19_11, hm19_14, hm19_15, hm19_17, hm19_18, hm19_19, hm19_20, hm19_22, hm19_23, hm19_26, hm19_28, hm19_29, hm19_30, hm19_33, hm19_34, hm19_37, hm19_39, hm19_40, hm19_41, hm19_44, hm19_45, hm19_48, hm19_50, hm19_51, hm19_52, hm19_55, hm19_57, hm19_58, hm19_59, hm19_60, hm19_63, hm19_65, hm19_67, hm19_70, hm19_71, hc_on_some, hc_get, hc_put, hc_ri, hc_rl, hc_is, hc_row, hc_wr, hc_mov, hc_smi, hc_sml, hc_fv, hc_ld, hc_kd, hc_sto, hc_pre, hc_two, hc_inc, hc_psh, hc_kp, hc_k1, hc_np, hc_bk_rf, hc_bk_gA, hc_set_ap, hc_set_set, Value.category, List.getElem?_cons_zero, List.getElem?_cons_succ, List.set_cons_zero, List.set_cons_succ, List.length_cons, List.length_nil, List.map_cons, List.map_nil, reduceIte, Nat.reduceAdd, Nat.reduceSub, Nat.reduceBEq, Nat.reduceEqDiff, Nat.reduceLeDiff, Nat.reduceLT, true_and, and_true, Bool.false_eq_true, reduceCtorEq, if_true, if_false, hc_xx, hc_ofNat, hc_10, not_true_eq_false, not_false_eq_true, ge_iff_le, h, e1, nI_add, e2, z2, i1, i2, e4, c1, c2, c3, nI_1, Int32.lt_irrefl]
              have c3' : ¬ y.toInt ≤ (fy mid).toInt := fun q => c3 (Int32.le_iff_toInt_le.mpr q)
              have c2' : (fx mid).toInt = x.toInt := by rw [c2]
              refine up (Or.inr ⟨?_, ?_⟩) <;> simp only <;> omega
          · simp only [hm19_9, hm19_11, hm19_14, hm19_15, hm19_17, hm19_18, hm19_19, hm19_20, hm19_22, hm19_23, hm19_26, hm19_28, hm19_29, hm19_30, hm19_33, hm19_34, hm19_37, hm19_39, hm19_40, hm19_41, hm19_44, hm19_45, hm19_48, hm19_50, hm19_51, hm19_52, hm19_55, hm19_57, hm19_58, hm19_59, hm19_60, hm19_63, hm19_65, hm19_67, hm19_70, hm19_71, hc_on_some, hc_get, hc_put, hc_ri, hc_rl, hc_is, hc_row, hc_wr, hc_mov, hc_smi, hc_sml, hc_fv, hc_ld, hc_kd, hc_sto, hc_pre, hc_two, hc_inc, hc_psh, hc_kp, hc_k1, hc_np, hc_bk_rf, hc_bk_gA, hc_set_ap, hc_set_set, Value.category, List.getElem?_cons_zero, List.getElem?_cons_succ, List.set_cons_zero, List.set_cons_succ, List.length_cons, List.length_nil, List.map_cons, List.map_nil, reduceIte, Nat.reduceAdd, Nat.reduceSub, Nat.reduceBEq, Nat.reduceEqDiff, Nat.reduceLeDiff, Nat.reduceLT, true_and, and_true, Bool.false_eq_true, reduceCtorEq, if_true, if_false, hc_xx, hc_ofNat, hc_10, not_true_eq_false, not_false_eq_true, ge_iff_le, h, e1, nI_add, e2, z2, i1, i2, e4, c1, c2]
            have c2' : ¬ (fx mid).toInt = x.toInt := fun q => c2 (Int32.toInt_inj.mp q)
            refine dn fun q => ?_
            unfold plt at q
            simp only at q
            omega
  simp only [hm19_0, hm19_1, hm19_2, hm19_3, hm19_6, hc_on_some, hc_get, hc_put, hc_ri, hc_rl, hc_is, hc_row, hc_wr, hc_mov, hc_smi, hc_sml, hc_fv, hc_ld, hc_kd, hc_sto, hc_pre, hc_two, hc_inc, hc_psh, hc_kp, hc_k1, hc_np, hc_bk_rf, hc_bk_gA, hc_set_ap, hc_set_set, Value.category, List.getElem?_cons_zero, List.getElem?_cons_succ, List.set_cons_zero, List.set_cons_succ, List.length_cons, List.length_nil, List.map_cons, List.map_nil, reduceIte, Nat.reduceAdd, Nat.reduceSub, Nat.reduceBEq, Nat.reduceEqDiff, Nat.reduceLeDiff, Nat.reduceLT, true_and, and_true, Bool.false_eq_true, reduceCtorEq, if_true, if_false, hc_xx, hc_ofNat, hc_10, not_true_eq_false, not_false_eq_true, ge_iff_le, h]
  have L := loop l.length 0 l.length none (by omega) (by omega) (by omega) (fun j hj z => by omega) (fun j hj z => by omega)
  rw [nI_0, Option.map_none] at L
  exact L
end S30
