/-! gatherCells whole -/
section S32
variable {G : hc_G} {σ : hc_H} {t : hc_T} {Q : hc_Q}
theorem sp_gcells {k kh wc cr : Nat} {rf : hc_R} {fr : Nat → Int32} {W : List Nat} {rs : List hc_F} {N : List (Int × Int)} {oh : hc_O} {x1 y1 x2 y2 : Int32} {e : Ed} (q1 : k ≠ kh) (q3 : k < 60) (h : σ k = some (oLy kh wc W.length rf (cr, .inl fr) rs)) (hh : σ kh = some oh) (hH : PLo oh N N.length) (hN : N.length ≤ 6000) (hNb : inB N) (hs : ∀ i j (hij : i < j) (hj : j < N.length), plt N[i] N[j])
    (hwc : wc ≤ 512) (he : e = (x1.toInt, y1.toInt, x2.toInt, y2.toInt)) (hb1 : inb x1.toInt y1.toInt) (hb2 : inb x2.toInt y2.toInt)
    (hW : CW fr W) (hl : W.length ≤ cr) (h32 : 32 ≤ cr) (hc : cr ≤ 50000) (hbd : W.length ≤ wc + 20001)
    (K : ∀ G' cr' fr', CW fr' (W ++ Bn e N N.length) → (W ++ Bn e N N.length).length ≤ cr' → 32 ≤ cr' → cr' ≤ 50000 → (W ++ Bn e N N.length).length ≤ wc + 20001 → hc_cr G σ G' (hc_set σ k (oLy kh wc (W ++ Bn e N N.length).length rf (cr', .inl fr') rs)) → Q G' (hc_set σ k (oLy kh wc (W ++ Bn e N N.length).length rf (cr', .inl fr') rs)) none (some (.inl (.int 1))))
    (Kf : ∀ G' wl cr' fr', wl ≤ cr' → 32 ≤ cr' → cr' ≤ 50000 → wc + 20001 < (W ++ Bn e N N.length).length → hc_cr G σ G' (hc_set σ k (oLy kh wc wl rf (cr', .inl fr') rs)) → Q G' (hc_set σ k (oLy kh wc wl rf (cr', .inl fr') rs)) none (some (.inl (.int 0)))) :
    hc_wp G σ none 9 0 [some (.inl (.ref k)), some (.inl (.int x1)), some (.inl (.int y1)), some (.inl (.int x2)), some (.inl (.int y2)), none, none, none, none, none, none, none, none, none, none, none, none, none, none] [] Q := by
  obtain ⟨b1, b2, b3, b4⟩ := id hb1
  obtain ⟨b5, b6, b7, b8⟩ := id hb2
  have d1 := dif64 (a := x2) (b := x1) ⟨b5, b6⟩ ⟨b1, b2⟩
  have d2 := dif64 (a := y2) (b := y1) ⟨b7, b8⟩ ⟨b3, b4⟩
  have hH' := hH
  obtain ⟨cx, fx, cy, fy, rfl, -⟩ := hH'
  have l0 : (0 : Int64).toInt = 0 := rfl
  have ab : ∀ a : Int64, -1000000 ≤ a.toInt → (if 0 ≤ a then a else -a).toInt = (a.toInt.natAbs : Int) := by
    intro a ha
    by_cases z : 0 ≤ a
    · have z' := Int64.le_iff_toInt_le.mp z
      rw [l0] at z'
      rw [if_pos z]
      omega
    · have z' : ¬ 0 ≤ a.toInt := fun q => z (Int64.le_iff_toInt_le.mpr (by rw [l0]; exact q))
      rw [if_neg z, i64_neg (by omega)]
      omega
  have mx : ∀ a b : Int32, (if a < b then b else a).toInt = max a.toInt b.toInt := by
    intro a b
    have z := Int32.lt_iff_toInt_lt (x := a) (y := b)
    split <;> rename_i z2 <;> rw [z] at z2 <;> omega
  have mn : ∀ a b : Int32, (if b < a then b else a).toInt = min a.toInt b.toInt := by
    intro a b
    have z := Int32.lt_iff_toInt_lt (x := b) (y := a)
    split <;> rename_i z2 <;> rw [z] at z2 <;> omega
  simp only [hm9_0, hm9_1, hm9_2, hm9_3, hm9_4, hm9_6, hm9_8, hm9_9, hm9_10, hm9_11, hm9_13, hm9_15, hm9_18, hm9_20, hm9_23, hm9_24, hm9_26, hm9_27, hm9_28, hm9_31, hm9_33, hm9_34, hm9_36, hm9_39, hm9_41, hm9_42, hm9_44, hm9_47, hm9_49, hm9_50, hm9_53, hm9_54, hm9_55, hm9_58, hm9_60, hm9_63, hc_on_some, hc_get, hc_put, hc_ri, hc_rl, hc_is, hc_row, hc_wr, hc_mov, hc_smi, hc_sml, hc_fv, hc_ld, hc_kd, hc_sto, hc_pre, hc_two, hc_inc, hc_psh, hc_kp, hc_k1, hc_np, hc_bk_rf, hc_bk_gA, hc_set_ap, hc_set_set, Value.category, List.getElem?_cons_zero, List.getElem?_cons_succ, List.set_cons_zero, List.set_cons_succ, List.length_cons, List.length_nil, List.map_cons, List.map_nil, reduceIte, Nat.reduceAdd, Nat.reduceSub, Nat.reduceBEq, Nat.reduceEqDiff, Nat.reduceLeDiff, Nat.reduceLT, true_and, and_true, Bool.false_eq_true, reduceCtorEq, if_true, if_false, hc_xx, hc_ofNat, hc_10, not_true_eq_false, not_false_eq_true, ge_iff_le, q1, h, hh, sp_abs, sp_max, sp_min]
  refine sp_fnb hh hH (Nat.le_refl _) hN hs fun r hr hrj => ?_
  simp only [hm9_63, hc_on_some, hc_get, hc_put, hc_ri, hc_rl, hc_is, hc_row, hc_wr, hc_mov, hc_smi, hc_sml, hc_fv, hc_ld, hc_kd, hc_sto, hc_pre, hc_two, hc_inc, hc_psh, hc_kp, hc_k1, hc_np, hc_bk_rf, hc_bk_gA, hc_set_ap, hc_set_set, Value.category, List.getElem?_cons_zero, List.getElem?_cons_succ, List.set_cons_zero, List.set_cons_succ, List.length_cons, List.length_nil, List.map_cons, List.map_nil, reduceIte, Nat.reduceAdd, Nat.reduceSub, Nat.reduceBEq, Nat.reduceEqDiff, Nat.reduceLeDiff, Nat.reduceLT, true_and, and_true, Bool.false_eq_true, reduceCtorEq, if_true, if_false, hc_xx, hc_ofNat, hc_10, not_true_eq_false, not_false_eq_true, ge_iff_le]
  rw [mn, mn] at hrj
  have hB : Bn e N r = [] := by
    have z := Bn_stop' (e := e) (N := N) (n := 0) (m := r) (Nat.zero_le _) fun j _ hj ht => by
      have hj' : j < N.length := by omega
      have hp := (hrj j hj').mp hj
      have e5 : nd N j = N[j] := by
        show N[j]?.getD (0, 0) = _
        rw [List.getElem?_eq_getElem hj']
        rfl
      rw [he, e5] at ht
      obtain ⟨⟨t1, t2, t3, t4⟩, -⟩ := ht
      unfold plt at hp
      simp only at hp t1 t2 t3 t4
      omega
    rw [z]
    rfl
  have hlow : ∀ j (hj : j < N.length), r ≤ j → min x1.toInt x2.toInt ≤ N[j].1 := by
    intro j hj hrj2
    have hp := mt (hrj j hj).mpr (by omega)
    unfold plt at hp
    simp only at hp
    omega
  have a1 := ab (x2 - x1).toInt64 d1.2.1
  have a2 := ab (y2 - y1).toInt64 d2.2.1
  have hrc : ((if 0 ≤ (x2 - x1).toInt64 then (x2 - x1).toInt64 else -(x2 - x1).toInt64) + (if 0 ≤ (y2 - y1).toInt64 then (y2 - y1).toInt64 else -(y2 - y1).toInt64)).toInt = rchI e := by
    rw [i64_add (by rw [a1, a2]; omega) (by rw [a1, a2]; omega), a1, a2, d1.1, d2.1, he]
  have L := sp_gc_loop (G := G) (σ := σ) (Q := Q) (W := W) (N := N) (rf := rf) (rs := rs) (e := e) (wc := wc) q1 q3 hh hH hN hNb hs hlow hwc he hb1 hb2 d1.1 d2.1 hrc (mx x1 x2) (mn y1 y2) (mx y1 y2) K Kf (N.length - r) r G cr fr none none none (by omega) (Nat.le_refl _)
  rw [hB, List.append_nil, hc_set_id' h, Option.map_none] at L
  exact L hW hl h32 hc hbd (hc_cr.rf _ _)
end S32
