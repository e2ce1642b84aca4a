/-! takeWay -/
abbrev cnA (e : Ed) : Prop := (e.1 < e.2.2.1 ∧ e.2.2.2 < e.2.1) ∨ (e.2.2.1 < e.1 ∧ e.2.1 < e.2.2.2)
abbrev cnB (e : Ed) : Prop := e.2.2.1 < e.1 ∨ (e.1 = e.2.2.1 ∧ e.2.2.2 < e.2.1)
def ordA (e : Ed) (N : List (Int × Int)) (p q : Nat) : Prop := if cnA e then colR N p q else pltN N p q
def ordR (e : Ed) (N : List (Int × Int)) (p q : Nat) : Prop := if cnB e then ordA e N q p else ordA e N p q
def Way (e : Ed) (N : List (Int × Int)) (B : List Nat) : Prop := B.Perm (Bn e N N.length) ∧ B.Pairwise (ordR e N)
theorem Bn_lt {e : Ed} {N : List (Int × Int)} {n v : Nat} (h : v ∈ Bn e N n) : v < n := List.mem_range.mp (List.mem_filter.mp h).1
theorem Bn_sorted (e : Ed) {N : List (Int × Int)} (hs : ∀ i j (hij : i < j) (hj : j < N.length), plt N[i] N[j]) : (Bn e N N.length).Pairwise (pltN N) := by
  have h : (Bn e N N.length).Pairwise (· < ·) := List.Pairwise.filter _ List.pairwise_lt_range
  refine (List.Pairwise.and_mem.mp h).imp ?_
  rintro a b ⟨ha, hb, hab⟩
  have la := Bn_lt ha
  have lb := Bn_lt hb
  have := hs a b hab lb
  show plt (N[a]?.getD (0, 0)) (N[b]?.getD (0, 0))
  rw [List.getElem?_eq_getElem la, List.getElem?_eq_getElem lb]
  exact this
section S35
variable {G : hc_G} {σ : hc_H} {t : hc_T} {Q : hc_Q}
theorem sp_wayA {k : Nat} {x1 y1 x2 y2 : Int32} {v : hc_V} {e : Ed} (he : e = (x1.toInt, y1.toInt, x2.toInt, y2.toInt)) (HA : cnA e → hc_wp G σ none 8 42 [some (.inl (.ref k)), some (.inl (.int x1)), some (.inl (.int y1)), some (.inl (.int x2)), some (.inl (.int y2)), some v] [] Q) (HB : ¬ cnA e → hc_wp G σ none 8 48 [some (.inl (.ref k)), some (.inl (.int x1)), some (.inl (.int y1)), some (.inl (.int x2)), some (.inl (.int y2)), some v] [] Q) :
    hc_wp G σ none 8 20 [some (.inl (.ref k)), some (.inl (.int x1)), some (.inl (.int y1)), some (.inl (.int x2)), some (.inl (.int y2)), some v] [] Q := by
  have z1 := Int32.lt_iff_toInt_lt (x := x1) (y := x2)
  have z2 := Int32.lt_iff_toInt_lt (x := y2) (y := y1)
  have z3 := Int32.le_iff_toInt_le (x := x1) (y := x2)
  have z5 := Int32.le_iff_toInt_le (x := x2) (y := x1)
  have z4 := Int32.le_iff_toInt_le (x := y2) (y := y1)
  subst he
  have n1 : ∀ {A : Prop}, cnA (x1.toInt, y1.toInt, x2.toInt, y2.toInt) = ((x1.toInt < x2.toInt ∧ y2.toInt < y1.toInt) ∨ (x2.toInt < x1.toInt ∧ y1.toInt < y2.toInt)) := rfl
  rw [n1 (A := True)] at HA HB
  by_cases a1 : x1 < x2
  · have w1 := z1.mp a1
    have a3 : x1 ≤ x2 := z3.mpr (by omega)
    have a5 : ¬ x2 ≤ x1 := mt z5.mp (by omega)
    by_cases a2 : y2 < y1
    · have w2 := z2.mp a2
      simp only [hm8_20, hm8_21, hm8_22, hm8_25, hm8_26, hm8_28, hm8_31, hm8_32, hm8_33, hm8_36, hm8_37, hm8_39, hc_on_some, hc_get, hc_put, hc_ri, hc_rl, hc_is, hc_row, hc_wr, hc_mov, hc_smi, hc_sml, hc_fv, hc_ld, hc_kd, hc_sto, hc_pre, hc_two, hc_inc, hc_psh, hc_kp, hc_k1, hc_np, hc_bk_rf, hc_bk_gA, hc_set_ap, hc_set_set, Value.category, List.getElem?_cons_zero, List.getElem?_cons_succ, List.set_cons_zero, List.set_cons_succ, List.length_cons, List.length_nil, List.map_cons, List.map_nil, reduceIte, Nat.reduceAdd, Nat.reduceSub, Nat.reduceBEq, Nat.reduceEqDiff, Nat.reduceLeDiff, Nat.reduceLT, true_and, and_true, Bool.false_eq_true, reduceCtorEq, if_true, if_false, hc_xx, hc_ofNat, hc_10, not_true_eq_false, not_false_eq_true, ge_iff_le, a5, a2, a3]
      exact HA (by omega)
    · have w2 := mt z2.mpr a2
      simp only [hm8_20, hm8_21, hm8_22, hm8_25, hm8_26, hm8_28, hm8_31, hm8_32, hm8_33, hm8_36, hm8_37, hm8_39, hc_on_some, hc_get, hc_put, hc_ri, hc_rl, hc_is, hc_row, hc_wr, hc_mov, hc_smi, hc_sml, hc_fv, hc_ld, hc_kd, hc_sto, hc_pre, hc_two, hc_inc, hc_psh, hc_kp, hc_k1, hc_np, hc_bk_rf, hc_bk_gA, hc_set_ap, hc_set_set, Value.category, List.getElem?_cons_zero, List.getElem?_cons_succ, List.set_cons_zero, List.set_cons_succ, List.length_cons, List.length_nil, List.map_cons, List.map_nil, reduceIte, Nat.reduceAdd, Nat.reduceSub, Nat.reduceBEq, Nat.reduceEqDiff, Nat.reduceLeDiff, Nat.reduceLT, true_and, and_true, Bool.false_eq_true, reduceCtorEq, if_true, if_false, hc_xx, hc_ofNat, hc_10, not_true_eq_false, not_false_eq_true, ge_iff_le, a5, a2, a3]
      exact HB (by omega)
  · have w1 := mt z1.mpr a1
    have a5 : x2 ≤ x1 := z5.mpr (by omega)
    by_cases a3 : x1 ≤ x2
    · have w3 := z3.mp a3
      simp only [hm8_20, hm8_21, hm8_22, hm8_25, hm8_26, hm8_28, hm8_31, hm8_32, hm8_33, hm8_36, hm8_37, hm8_39, hc_on_some, hc_get, hc_put, hc_ri, hc_rl, hc_is, hc_row, hc_wr, hc_mov, hc_smi, hc_sml, hc_fv, hc_ld, hc_kd, hc_sto, hc_pre, hc_two, hc_inc, hc_psh, hc_kp, hc_k1, hc_np, hc_bk_rf, hc_bk_gA, hc_set_ap, hc_set_set, Value.category, List.getElem?_cons_zero, List.getElem?_cons_succ, List.set_cons_zero, List.set_cons_succ, List.length_cons, List.length_nil, List.map_cons, List.map_nil, reduceIte, Nat.reduceAdd, Nat.reduceSub, Nat.reduceBEq, Nat.reduceEqDiff, Nat.reduceLeDiff, Nat.reduceLT, true_and, and_true, Bool.false_eq_true, reduceCtorEq, if_true, if_false, hc_xx, hc_ofNat, hc_10, not_true_eq_false, not_false_eq_true, ge_iff_le, a5, a3]
      exact HB (by omega)
    · have w3 := mt z3.mpr a3
      by_cases a4 : y2 ≤ y1
      · have w4 := z4.mp a4
        simp only [hm8_20, hm8_21, hm8_22, hm8_25, hm8_26, hm8_28, hm8_31, hm8_32, hm8_33, hm8_36, hm8_37, hm8_39, hc_on_some, hc_get, hc_put, hc_ri, hc_rl, hc_is, hc_row, hc_wr, hc_mov, hc_smi, hc_sml, hc_fv, hc_ld, hc_kd, hc_sto, hc_pre, hc_two, hc_inc, hc_psh, hc_kp, hc_k1, hc_np, hc_bk_rf, hc_bk_gA, hc_set_ap, hc_set_set, Value.category, List.getElem?_cons_zero, List.getElem?_cons_succ, List.set_cons_zero, List.set_cons_succ, List.length_cons, List.length_nil, List.map_cons, List.map_nil, reduceIte, Nat.reduceAdd, Nat.reduceSub, Nat.reduceBEq, Nat.reduceEqDiff, Nat.reduceLeDiff, Nat.reduceLT, true_and, and_true, Bool.false_eq_true, reduceCtorEq, if_true, if_false, hc_xx, hc_ofNat, hc_10, not_true_eq_false, not_false_eq_true, ge_iff_le, a5, a3, a4]
        exact HB (by omega)
      · have w4 := mt z4.mpr a4
        simp only [hm8_20, hm8_21, hm8_22, hm8_25, hm8_26, hm8_28, hm8_31, hm8_32, hm8_33, hm8_36, hm8_37, hm8_39, hc_on_some, hc_get, hc_put, hc_ri, hc_rl, hc_is, hc_row, hc_wr, hc_mov, hc_smi, hc_sml, hc_fv, hc_ld, hc_kd, hc_sto, hc_pre, hc_two, hc_inc, hc_psh, hc_kp, hc_k1, hc_np, hc_bk_rf, hc_bk_gA, hc_set_ap, hc_set_set, Value.category, List.getElem?_cons_zero, List.getElem?_cons_succ, List.set_cons_zero, List.set_cons_succ, List.length_cons, List.length_nil, List.map_cons, List.map_nil, reduceIte, Nat.reduceAdd, Nat.reduceSub, Nat.reduceBEq, Nat.reduceEqDiff, Nat.reduceLeDiff, Nat.reduceLT, true_and, and_true, Bool.false_eq_true, reduceCtorEq, if_true, if_false, hc_xx, hc_ofNat, hc_10, not_true_eq_false, not_false_eq_true, ge_iff_le, a5, a3, a4]
        exact HA (by omega)
theorem sp_wayB {k : Nat} {x1 y1 x2 y2 : Int32} {v : hc_V} {e : Ed} (he : e = (x1.toInt, y1.toInt, x2.toInt, y2.toInt)) (HA : cnB e → hc_wp G σ none 8 64 [some (.inl (.ref k)), some (.inl (.int x1)), some (.inl (.int y1)), some (.inl (.int x2)), some (.inl (.int y2)), some v] [] Q) (HB : ¬ cnB e → hc_wp G σ none 8 74 [some (.inl (.ref k)), some (.inl (.int x1)), some (.inl (.int y1)), some (.inl (.int x2)), some (.inl (.int y2)), some v] [] Q) :
    hc_wp G σ none 8 48 [some (.inl (.ref k)), some (.inl (.int x1)), some (.inl (.int y1)), some (.inl (.int x2)), some (.inl (.int y2)), some v] [] Q := by
  have z1 := Int32.lt_iff_toInt_lt (x := x2) (y := x1)
  have z2 := Int32.le_iff_toInt_le (x := y1) (y := y2)
  have z3 : x1 = x2 ↔ x1.toInt = x2.toInt := Int32.toInt_inj.symm
  subst he
  have n1 : ∀ {A : Prop}, cnB (x1.toInt, y1.toInt, x2.toInt, y2.toInt) = (x2.toInt < x1.toInt ∨ (x1.toInt = x2.toInt ∧ y2.toInt < y1.toInt)) := rfl
  rw [n1 (A := True)] at HA HB
  by_cases a1 : x2 < x1
  · have w1 := z1.mp a1
    simp only [hm8_48, hm8_49, hm8_50, hm8_53, hm8_54, hm8_55, hm8_58, hm8_59, hm8_61, hc_on_some, hc_get, hc_put, hc_ri, hc_rl, hc_is, hc_row, hc_wr, hc_mov, hc_smi, hc_sml, hc_fv, hc_ld, hc_kd, hc_sto, hc_pre, hc_two, hc_inc, hc_psh, hc_kp, hc_k1, hc_np, hc_bk_rf, hc_bk_gA, hc_set_ap, hc_set_set, Value.category, List.getElem?_cons_zero, List.getElem?_cons_succ, List.set_cons_zero, List.set_cons_succ, List.length_cons, List.length_nil, List.map_cons, List.map_nil, reduceIte, Nat.reduceAdd, Nat.reduceSub, Nat.reduceBEq, Nat.reduceEqDiff, Nat.reduceLeDiff, Nat.reduceLT, true_and, and_true, Bool.false_eq_true, reduceCtorEq, if_true, if_false, hc_xx, hc_ofNat, hc_10, not_true_eq_false, not_false_eq_true, ge_iff_le, a1]
    exact HA (by omega)
  · have w1 := mt z1.mpr a1
    by_cases a3 : x1 = x2
    · have w3 := z3.mp a3
      by_cases a2 : y1 ≤ y2
      · have w2 := z2.mp a2
        have HB2 := HB (by omega)
        subst a3
        simp only [hm8_48, hm8_49, hm8_50, hm8_53, hm8_54, hm8_55, hm8_58, hm8_59, hm8_61, hc_on_some, hc_get, hc_put, hc_ri, hc_rl, hc_is, hc_row, hc_wr, hc_mov, hc_smi, hc_sml, hc_fv, hc_ld, hc_kd, hc_sto, hc_pre, hc_two, hc_inc, hc_psh, hc_kp, hc_k1, hc_np, hc_bk_rf, hc_bk_gA, hc_set_ap, hc_set_set, Value.category, List.getElem?_cons_zero, List.getElem?_cons_succ, List.set_cons_zero, List.set_cons_succ, List.length_cons, List.length_nil, List.map_cons, List.map_nil, reduceIte, Nat.reduceAdd, Nat.reduceSub, Nat.reduceBEq, Nat.reduceEqDiff, Nat.reduceLeDiff, Nat.reduceLT, true_and, and_true, Bool.false_eq_true, reduceCtorEq, if_true, if_false, hc_xx, hc_ofNat, hc_10, not_true_eq_false, not_false_eq_true, ge_iff_le, a1, a2]
        exact HB2
      · have w2 := mt z2.mpr a2
        have HA2 := HA (by omega)
        subst a3
        simp only [hm8_48, hm8_49, hm8_50, hm8_53, hm8_54, hm8_55, hm8_58, hm8_59, hm8_61, hc_on_some, hc_get, hc_put, hc_ri, hc_rl, hc_is, hc_row, hc_wr, hc_mov, hc_smi, hc_sml, hc_fv, hc_ld, hc_kd, hc_sto, hc_pre, hc_two, hc_inc, hc_psh, hc_kp, hc_k1, hc_np, hc_bk_rf, hc_bk_gA, hc_set_ap, hc_set_set, Value.category, List.getElem?_cons_zero, List.getElem?_cons_succ, List.set_cons_zero, List.set_cons_succ, List.length_cons, List.length_nil, List.map_cons, List.map_nil, reduceIte, Nat.reduceAdd, Nat.reduceSub, Nat.reduceBEq, Nat.reduceEqDiff, Nat.reduceLeDiff, Nat.reduceLT, true_and, and_true, Bool.false_eq_true, reduceCtorEq, if_true, if_false, hc_xx, hc_ofNat, hc_10, not_true_eq_false, not_false_eq_true, ge_iff_le, a1, a2]
        exact HA2
    · have w3 := mt z3.mpr a3
      simp only [hm8_48, hm8_49, hm8_50, hm8_53, hm8_54, hm8_55, hm8_58, hm8_59, hm8_61, hc_on_some, hc_get, hc_put, hc_ri, hc_rl, hc_is, hc_row, hc_wr, hc_mov, hc_smi, hc_sml, hc_fv, hc_ld, hc_kd, hc_sto, hc_pre, hc_two, hc_inc, hc_psh, hc_kp, hc_k1, hc_np, hc_bk_rf, hc_bk_gA, hc_set_ap, hc_set_set, Value.category, List.getElem?_cons_zero, List.getElem?_cons_succ, List.set_cons_zero, List.set_cons_succ, List.length_cons, List.length_nil, List.map_cons, List.map_nil, reduceIte, Nat.reduceAdd, Nat.reduceSub, Nat.reduceBEq, Nat.reduceEqDiff, Nat.reduceLeDiff, Nat.reduceLT, true_and, and_true, Bool.false_eq_true, reduceCtorEq, if_true, if_false, hc_xx, hc_ofNat, hc_10, not_true_eq_false, not_false_eq_true, ge_iff_le, a1, a3]
      exact HB (by omega)
theorem sp_takeWay {k kh wc cr cf : Nat} {ff fr : Nat → Int32} {W : List Nat} {rs : List hc_F} {N : List (Int × Int)} {oh : hc_O} {x1 y1 x2 y2 : Int32} {e : Ed} (q1 : k ≠ kh) (q3 : k < 60) (h : σ k = some (oLy kh wc W.length (cf, .inl ff) (cr, .inl fr) rs)) (hh : σ kh = some oh) (hH : PLo oh N N.length) (hN : N.length ≤ 6000) (hNb : inB N) (hs : ∀ i j (hij : i < j) (hj : j < N.length), plt N[i] N[j])
    (hwc : wc < 512) (he : e = (x1.toInt, y1.toInt, x2.toInt, y2.toInt)) (hb1 : inb x1.toInt y1.toInt) (hb2 : inb x2.toInt y2.toInt)
    (hW : CW fr W) (hl : W.length ≤ cr) (h32 : 32 ≤ cr) (hc : cr ≤ 50000) (hbd : W.length ≤ wc + 20001) (hcf : wc + 1 < cf) (hcf2 : cf ≤ 50000)
    (K : ∀ G' cr' fr' B', Way e N B' → CW fr' (W ++ B') → (W ++ B').length ≤ cr' → 32 ≤ cr' → cr' ≤ 50000 → (W ++ B').length ≤ wc + 20001 → hc_cr G σ G' (hc_set σ k (oLy kh (wc + 1) (W ++ B').length (cf, .inl (upd ff (wc + 1) (nI (W ++ B').length))) (cr', .inl fr') rs)) → Q G' (hc_set σ k (oLy kh (wc + 1) (W ++ B').length (cf, .inl (upd ff (wc + 1) (nI (W ++ B').length))) (cr', .inl fr') rs)) none (some (.inl (.int 1))))
    (Kf : ∀ G' wl cr' fr', wl ≤ cr' → 32 ≤ cr' → cr' ≤ 50000 → wc + 20001 < (W ++ Bn e N N.length).length → hc_cr G σ G' (hc_set σ k (oLy kh wc wl (cf, .inl ff) (cr', .inl fr') rs)) → Q G' (hc_set σ k (oLy kh wc wl (cf, .inl ff) (cr', .inl fr') rs)) none (some (.inl (.int 0)))) :
    hc_wp G σ none 8 0 [some (.inl (.ref k)), some (.inl (.int x1)), some (.inl (.int y1)), some (.inl (.int x2)), some (.inl (.int y2)), none] [] Q := by
  have hn : ∀ o, hc_set σ k o kh = some oh := fun o => by rw [hc_set_ne σ o (Ne.symm q1)]; exact hh
  -- from 74 on
  have sC : ∀ (G1 : hc_G) (cr' : Nat) (fr' : Nat → Int32) (B' : List Nat), Way e N B' → CW fr' (W ++ B') → (W ++ B').length ≤ cr' → 32 ≤ cr' → cr' ≤ 50000 → (W ++ B').length ≤ wc + 20001 → hc_cr G σ G1 (hc_set σ k (oLy kh wc (W ++ B').length (cf, .inl ff) (cr', .inl fr') rs)) → hc_wp G1 (hc_set σ k (oLy kh wc (W ++ B').length (cf, .inl ff) (cr', .inl fr') rs)) none 8 74 [some (.inl (.ref k)), some (.inl (.int x1)), some (.inl (.int y1)), some (.inl (.int x2)), some (.inl (.int y2)), some (.inl (.int (nI W.length)))] [] Q := by
    intro G1 cr' fr' B' hB hW' hl' h32' hc' hbd' hcr
    have i1 : hc_inn (nI (wc + 1)) cf := inn_nI (by omega) (by omega)
    have c1 : (nI (wc + 1)).toNatClampNeg = wc + 1 := nI_clamp (by omega)
    have cs := hc_cr.same (G := G1) (σ := hc_set σ k (oLy kh wc (W ++ B').length (cf, .inl ff) (cr', .inl fr') rs)) (o := oLy kh (wc + 1) (W ++ B').length (cf, .inl (upd ff (wc + 1) (nI (W ++ B').length))) (cr', .inl fr') rs) q3 (hc_set_at _ _ _) rfl
    rw [hc_set_set] at cs
    have K2 := K G1 cr' fr' B' hB hW' hl' h32' hc' hbd' (hcr.tr cs)
    simp only [hm8_74, hm8_75, hm8_76, hm8_79, hm8_80, hm8_81, hm8_84, hm8_85, hm8_88, hm8_89, hm8_92, hm8_93, hm8_96, hm8_97, hm8_98, hc_on_some, hc_get, hc_put, hc_ri, hc_rl, hc_is, hc_row, hc_wr, hc_mov, hc_smi, hc_sml, hc_fv, hc_ld, hc_kd, hc_sto, hc_pre, hc_two, hc_inc, hc_psh, hc_kp, hc_k1, hc_np, hc_bk_rf, hc_bk_gA, hc_set_ap, hc_set_set, Value.category, List.getElem?_cons_zero, List.getElem?_cons_succ, List.set_cons_zero, List.set_cons_succ, List.length_cons, List.length_nil, List.map_cons, List.map_nil, reduceIte, Nat.reduceAdd, Nat.reduceSub, Nat.reduceBEq, Nat.reduceEqDiff, Nat.reduceLeDiff, Nat.reduceLT, true_and, and_true, Bool.false_eq_true, reduceCtorEq, if_true, if_false, hc_xx, hc_ofNat, hc_10, not_true_eq_false, not_false_eq_true, ge_iff_le, nI_1, i1, c1, true_or, or_true]
    exact K2
  -- from 48 on
  have sB : ∀ (G1 : hc_G) (cr' : Nat) (fr' : Nat → Int32) (B' : List Nat), B'.Perm (Bn e N N.length) → B'.Pairwise (ordA e N) → CW fr' (W ++ B') → (W ++ B').length ≤ cr' → 32 ≤ cr' → cr' ≤ 50000 → (W ++ B').length ≤ wc + 20001 → hc_cr G σ G1 (hc_set σ k (oLy kh wc (W ++ B').length (cf, .inl ff) (cr', .inl fr') rs)) → hc_wp G1 (hc_set σ k (oLy kh wc (W ++ B').length (cf, .inl ff) (cr', .inl fr') rs)) none 8 48 [some (.inl (.ref k)), some (.inl (.int x1)), some (.inl (.int y1)), some (.inl (.int x2)), some (.inl (.int y2)), some (.inl (.int (nI W.length)))] [] Q := by
    intro G1 cr' fr' B' hp ho hW' hl' h32' hc' hbd' hcr
    refine sp_wayB he (fun cb => ?_) (fun cb => ?_)
    · simp only [hm8_64, hm8_65, hm8_67, hm8_68, hm8_71, hc_on_some, hc_get, hc_put, hc_ri, hc_rl, hc_is, hc_row, hc_wr, hc_mov, hc_smi, hc_sml, hc_fv, hc_ld, hc_kd, hc_sto, hc_pre, hc_two, hc_inc, hc_psh, hc_kp, hc_k1, hc_np, hc_bk_rf, hc_bk_gA, hc_set_ap, hc_set_set, Value.category, List.getElem?_cons_zero, List.getElem?_cons_succ, List.set_cons_zero, List.set_cons_succ, List.length_cons, List.length_nil, List.map_cons, List.map_nil, reduceIte, Nat.reduceAdd, Nat.reduceSub, Nat.reduceBEq, Nat.reduceEqDiff, Nat.reduceLeDiff, Nat.reduceLT, true_and, and_true, Bool.false_eq_true, reduceCtorEq, if_true, if_false, hc_xx, hc_ofNat, hc_10, not_true_eq_false, not_false_eq_true, ge_iff_le]
      refine sp_turnRow (hc_set_at _ _ _) hc' (by rw [List.length_append]; omega) hl' q3 fun fr2 hf hcr2 => ?_
      rw [hc_set_set] at hcr2 ⊢
      simp only [hm8_71, hc_on_some, hc_get, hc_put, hc_ri, hc_rl, hc_is, hc_row, hc_wr, hc_mov, hc_smi, hc_sml, hc_fv, hc_ld, hc_kd, hc_sto, hc_pre, hc_two, hc_inc, hc_psh, hc_kp, hc_k1, hc_np, hc_bk_rf, hc_bk_gA, hc_set_ap, hc_set_set, Value.category, List.getElem?_cons_zero, List.getElem?_cons_succ, List.set_cons_zero, List.set_cons_succ, List.length_cons, List.length_nil, List.map_cons, List.map_nil, reduceIte, Nat.reduceAdd, Nat.reduceSub, Nat.reduceBEq, Nat.reduceEqDiff, Nat.reduceLeDiff, Nat.reduceLT, true_and, and_true, Bool.false_eq_true, reduceCtorEq, if_true, if_false, hc_xx, hc_ofNat, hc_10, not_true_eq_false, not_false_eq_true, ge_iff_le]
      have hf2 : ∀ j, fr2 j = if W.length ≤ j ∧ j < W.length + B'.length then fr' (W.length + (W.length + B'.length) - 1 - j) else fr' j := by
        intro j
        have := hf j
        rw [List.length_append] at this
        exact this
      have hT := CW.turn (T := []) (by rw [List.append_nil]; exact hW') hf2
      rw [List.append_nil] at hT
      have el : (W ++ B'.reverse).length = (W ++ B').length := by simp
      have := sC G1 cr' fr2 B'.reverse ⟨(List.reverse_perm _).trans hp, by
        rw [List.pairwise_reverse]
        refine ho.imp fun hab => ?_
        unfold ordR
        rw [if_pos cb]
        exact hab⟩ hT (by rw [el]; exact hl') h32' hc' (by rw [el]; exact hbd') (by rw [el]; exact hcr.tr hcr2)
      rw [el] at this
      exact this
    · exact sC G1 cr' fr' B' ⟨hp, ho.imp fun hab => by
        unfold ordR
        rw [if_neg cb]
        exact hab⟩ hW' hl' h32' hc' hbd' hcr
  simp only [hm8_0, hm8_1, hm8_4, hm8_6, hm8_7, hm8_8, hm8_9, hm8_10, hm8_12, hm8_15, hm8_18, hm8_19, hc_on_some, hc_get, hc_put, hc_ri, hc_rl, hc_is, hc_row, hc_wr, hc_mov, hc_smi, hc_sml, hc_fv, hc_ld, hc_kd, hc_sto, hc_pre, hc_two, hc_inc, hc_psh, hc_kp, hc_k1, hc_np, hc_bk_rf, hc_bk_gA, hc_set_ap, hc_set_set, Value.category, List.getElem?_cons_zero, List.getElem?_cons_succ, List.set_cons_zero, List.set_cons_succ, List.length_cons, List.length_nil, List.map_cons, List.map_nil, reduceIte, Nat.reduceAdd, Nat.reduceSub, Nat.reduceBEq, Nat.reduceEqDiff, Nat.reduceLeDiff, Nat.reduceLT, true_and, and_true, Bool.false_eq_true, reduceCtorEq, if_true, if_false, hc_xx, hc_ofNat, hc_10, not_true_eq_false, not_false_eq_true, ge_iff_le, h]
  refine sp_gcells q1 q3 h hh hH hN hNb hs (by omega) he hb1 hb2 hW hl h32 hc hbd (fun G1 cr1 fr1 hW1 hl1 h321 hc1 hbd1 hcr1 => ?_) (fun G1 wl cr1 fr1 hl1 h321 hc1 hbd1 hcr1 => ?_)
  · dsimp only
    rw [hc_bk_np rfl rfl]
    simp only [hm8_15, hm8_18, hm8_19, hc_on_some, hc_get, hc_put, hc_ri, hc_rl, hc_is, hc_row, hc_wr, hc_mov, hc_smi, hc_sml, hc_fv, hc_ld, hc_kd, hc_sto, hc_pre, hc_two, hc_inc, hc_psh, hc_kp, hc_k1, hc_np, hc_bk_rf, hc_bk_gA, hc_set_ap, hc_set_set, Value.category, List.getElem?_cons_zero, List.getElem?_cons_succ, List.set_cons_zero, List.set_cons_succ, List.length_cons, List.length_nil, List.map_cons, List.map_nil, reduceIte, Nat.reduceAdd, Nat.reduceSub, Nat.reduceBEq, Nat.reduceEqDiff, Nat.reduceLeDiff, Nat.reduceLT, true_and, and_true, Bool.false_eq_true, reduceCtorEq, if_true, if_false, hc_xx, hc_ofNat, hc_10, not_true_eq_false, not_false_eq_true, ge_iff_le]
    have hv : ∀ v ∈ Bn e N N.length, v < N.length := fun v hv => Bn_lt hv
    refine sp_wayA he (fun ca => ?_) (fun ca => ?_)
    · simp only [hm8_42, hm8_43, hm8_45, hc_on_some, hc_get, hc_put, hc_ri, hc_rl, hc_is, hc_row, hc_wr, hc_mov, hc_smi, hc_sml, hc_fv, hc_ld, hc_kd, hc_sto, hc_pre, hc_two, hc_inc, hc_psh, hc_kp, hc_k1, hc_np, hc_bk_rf, hc_bk_gA, hc_set_ap, hc_set_set, Value.category, List.getElem?_cons_zero, List.getElem?_cons_succ, List.set_cons_zero, List.set_cons_succ, List.length_cons, List.length_nil, List.map_cons, List.map_nil, reduceIte, Nat.reduceAdd, Nat.reduceSub, Nat.reduceBEq, Nat.reduceEqDiff, Nat.reduceLeDiff, Nat.reduceLT, true_and, and_true, Bool.false_eq_true, reduceCtorEq, if_true, if_false, hc_xx, hc_ofNat, hc_10, not_true_eq_false, not_false_eq_true, ge_iff_le]
      refine sp_cols q1 q3 (hc_set_at _ _ _) hW1 hl1 (hn _) hH hN hc1 hv (Bn_sorted e hs) fun fr2 B2 hW2 hp2 ho2 hcr2 => ?_
      rw [hc_set_set] at hcr2 ⊢
      simp only [hm8_45, hc_on_some, hc_get, hc_put, hc_ri, hc_rl, hc_is, hc_row, hc_wr, hc_mov, hc_smi, hc_sml, hc_fv, hc_ld, hc_kd, hc_sto, hc_pre, hc_two, hc_inc, hc_psh, hc_kp, hc_k1, hc_np, hc_bk_rf, hc_bk_gA, hc_set_ap, hc_set_set, Value.category, List.getElem?_cons_zero, List.getElem?_cons_succ, List.set_cons_zero, List.set_cons_succ, List.length_cons, List.length_nil, List.map_cons, List.map_nil, reduceIte, Nat.reduceAdd, Nat.reduceSub, Nat.reduceBEq, Nat.reduceEqDiff, Nat.reduceLeDiff, Nat.reduceLT, true_and, and_true, Bool.false_eq_true, reduceCtorEq, if_true, if_false, hc_xx, hc_ofNat, hc_10, not_true_eq_false, not_false_eq_true, ge_iff_le]
      have el : (W ++ B2).length = (W ++ Bn e N N.length).length := by
        rw [List.length_append, List.length_append, hp2.length_eq]
      exact sB G1 cr1 fr2 B2 hp2 (ho2.imp fun hab => by
        unfold ordA
        rw [if_pos ca]
        exact hab) hW2 (by rw [el]; exact hl1) h321 hc1 (by rw [el]; exact hbd1) (hcr1.tr hcr2)
    · exact sB G1 cr1 fr1 _ (List.Perm.refl _) ((Bn_sorted e hs).imp fun hab => by
        unfold ordA
        rw [if_neg ca]
        exact hab) hW1 hl1 h321 hc1 hbd1 hcr1
  · dsimp only
    rw [hc_bk_np rfl rfl]
    simp only [hm8_15, hm8_18, hm8_19, hc_on_some, hc_get, hc_put, hc_ri, hc_rl, hc_is, hc_row, hc_wr, hc_mov, hc_smi, hc_sml, hc_fv, hc_ld, hc_kd, hc_sto, hc_pre, hc_two, hc_inc, hc_psh, hc_kp, hc_k1, hc_np, hc_bk_rf, hc_bk_gA, hc_set_ap, hc_set_set, Value.category, List.getElem?_cons_zero, List.getElem?_cons_succ, List.set_cons_zero, List.set_cons_succ, List.length_cons, List.length_nil, List.map_cons, List.map_nil, reduceIte, Nat.reduceAdd, Nat.reduceSub, Nat.reduceBEq, Nat.reduceEqDiff, Nat.reduceLeDiff, Nat.reduceLT, true_and, and_true, Bool.false_eq_true, reduceCtorEq, if_true, if_false, hc_xx, hc_ofNat, hc_10, not_true_eq_false, not_false_eq_true, ge_iff_le, true_or, or_true]
    exact Kf G1 wl cr1 fr1 hl1 h321 hc1 hbd1 hcr1
end S35
