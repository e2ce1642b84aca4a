/-! heat and heatAll of the class -/
def kc (x y : Int) : Int := (x + 500000) * 1000001 + (y + 500000)
abbrev oHC (a b : Nat) : hc_O := (3, [.inl (.ref 1), .inl (.ref 4), .inl (.ref 7), .inl (.ref 10), .inl (.ref a), .inl (.ref b)])
section S26
variable {G : hc_G} {σ : hc_H} {t : hc_T} {Q : hc_Q}
theorem kc64 {x y : Int64} (hx : -4294967296 ≤ x.toInt ∧ x.toInt ≤ 4294967296) (hy : -4294967296 ≤ y.toInt ∧ y.toInt ≤ 4294967296) : ((x + 500000) * 1000001 + (y + 500000)).toInt = kc x.toInt y.toInt := by
  have l1 : (500000 : Int64).toInt = 500000 := rfl
  have l2 : (1000001 : Int64).toInt = 1000001 := rfl
  have a1 : (x + 500000).toInt = x.toInt + 500000 := by rw [i64_add (by rw [l1]; omega) (by rw [l1]; omega), l1]
  have a2 : (y + 500000).toInt = y.toInt + 500000 := by rw [i64_add (by rw [l1]; omega) (by rw [l1]; omega), l1]
  have a3 : ((x + 500000) * 1000001).toInt = (x.toInt + 500000) * 1000001 := by rw [i64_mul (by rw [a1, l2]; omega) (by rw [a1, l2]; omega), a1, l2]
  rw [i64_add (by rw [a3, a2]; omega) (by rw [a3, a2]; omega), a3, a2]
  rfl
theorem sp_heat {a b : Nat} {l : List Int} {o : hc_O} {x y : Int64} (h0 : σ 0 = some (oHC a b)) (h : σ 10 = some o) (hP : KSo o l) (hm : l.length < 20000) (hx : -4294967296 ≤ x.toInt ∧ x.toInt ≤ 4294967296) (hy : -4294967296 ≤ y.toInt ∧ y.toInt ≤ 4294967296) (K : ∀ G' o', KSo o' (l ++ [kc x.toInt y.toInt]) → hc_cr G σ G' (hc_set σ 10 o') → Q G' (hc_set σ 10 o') none none) : hc_wp G σ none 36 0 [some (.inl (.ref 0)), some (.inl (.long x)), none, some (.inl (.long y)), none] [] Q := by
  have hq := hP
  obtain ⟨c, f, rfl, -⟩ := hq
  simp only [hma36, hc_on_some, hc_get, hc_put, hc_ri, hc_rl, hc_is, hc_row, hc_wr, hc_mov, hc_smi, hc_sml, hc_fv, hc_ld, hc_kd, hc_sto, hc_pre, hc_two, hc_inc, hc_psh, hc_kp, hc_k1, hc_np, hc_bk_rf, hc_bk_gA, hc_set_ap, hc_set_set, Value.category, List.getElem?_cons_zero, List.getElem?_cons_succ, List.set_cons_zero, List.set_cons_succ, List.length_cons, List.length_nil, List.map_cons, List.map_nil, reduceIte, Nat.reduceAdd, Nat.reduceSub, Nat.reduceBEq, Nat.reduceEqDiff, Nat.reduceLeDiff, Nat.reduceLT, true_and, and_true, Bool.false_eq_true, reduceCtorEq, if_true, if_false, hc_xx, hc_ofNat, hc_10, not_true_eq_false, not_false_eq_true, ge_iff_le, h0, h, oKs]
  refine sp_kadd h hP hm (by decide) fun G' o' hP' hcr => ?_
  dsimp only
  rw [hc_bk_np rfl rfl]
  simp only [hma36, hc_on_some, hc_get, hc_put, hc_ri, hc_rl, hc_is, hc_row, hc_wr, hc_mov, hc_smi, hc_sml, hc_fv, hc_ld, hc_kd, hc_sto, hc_pre, hc_two, hc_inc, hc_psh, hc_kp, hc_k1, hc_np, hc_bk_rf, hc_bk_gA, hc_set_ap, hc_set_set, Value.category, List.getElem?_cons_zero, List.getElem?_cons_succ, List.set_cons_zero, List.set_cons_succ, List.length_cons, List.length_nil, List.map_cons, List.map_nil, reduceIte, Nat.reduceAdd, Nat.reduceSub, Nat.reduceBEq, Nat.reduceEqDiff, Nat.reduceLeDiff, Nat.reduceLT, true_and, and_true, Bool.false_eq_true, reduceCtorEq, if_true, if_false, hc_xx, hc_ofNat, hc_10, not_true_eq_false, not_false_eq_true, ge_iff_le]
  rw [kc64 hx hy] at hP'
  exact K G' o' hP' hcr
/-- the keys of places -/
abbrev kcl (l : List (Int × Int)) : List Int := l.map fun q => kc q.1 q.2
theorem sp_heatAll_loop {a b p : Nat} {op : hc_O} {pl : List (Int × Int)} (hp : p ≠ 10) (h0 : σ 0 = some (oHC a b)) (hop : σ p = some op) (hpP : PLo op pl pl.length) : ∀ (d i : Nat) (G : hc_G) (o : hc_O) (l : List Int), d + i = pl.length → l.length + d < 20000 → KSo o l → (∀ G' o', KSo o' (l ++ kcl (pl.drop i)) → hc_cr G (hc_set σ 10 o) G' (hc_set σ 10 o') → Q G' (hc_set σ 10 o') none none) → hc_wp G (hc_set σ 10 o) none 35 2 [some (.inl (.ref 0)), some (.inl (.ref p)), some (.inl (.int (nI i)))] [] Q := by
  obtain ⟨cx, fx, cy, fy, rfl, h1, h2, h3, h4, h5, h6, h7, h8⟩ := hpP
  have hop' : ∀ o, hc_set σ 10 o p = some (oPl pl.length cx fx cy fy) := fun o => by rw [hc_set_ne σ o hp, hop]
  have h0' : ∀ o, hc_set σ 10 o 0 = some (oHC a b) := fun o => by rw [hc_set_ne σ o (by decide), h0]
  intro d
  induction d with
  | zero =>
    intro i G o l hi hl hP K
    have e : i = pl.length := by omega
    subst e
    rw [hm35_2]
    simp only [hma35, hc_on_some, hc_get, hc_put, hc_ri, hc_rl, hc_is, hc_row, hc_wr, hc_mov, hc_smi, hc_sml, hc_fv, hc_ld, hc_kd, hc_sto, hc_pre, hc_two, hc_inc, hc_psh, hc_kp, hc_k1, hc_np, hc_bk_rf, hc_bk_gA, hc_set_ap, hc_set_set, Value.category, List.getElem?_cons_zero, List.getElem?_cons_succ, List.set_cons_zero, List.set_cons_succ, List.length_cons, List.length_nil, List.map_cons, List.map_nil, reduceIte, Nat.reduceAdd, Nat.reduceSub, Nat.reduceBEq, Nat.reduceEqDiff, Nat.reduceLeDiff, Nat.reduceLT, true_and, and_true, Bool.false_eq_true, reduceCtorEq, if_true, if_false, hc_xx, hc_ofNat, hc_10, not_true_eq_false, not_false_eq_true, ge_iff_le, hp, hop, if_pos (Int32.le_refl (nI pl.length))]
    rw [List.drop_length] at K
    have K2 := K G o
    rw [kcl, List.map_nil, List.append_nil] at K2
    exact K2 hP (hc_cr.rf _ _)
  | succ d ih =>
    intro i G o l hi hl hP K
    have e1 : ¬ nI pl.length ≤ nI i := nI_ge (by omega) (by omega)
    have i1 : hc_inn (nI i) cx := inn_nI (by omega) (by omega)
    have i2 : hc_inn (nI i) cy := inn_nI (by omega) (by omega)
    have e4 : (nI i).toNatClampNeg = i := nI_clamp (by omega)
    rw [hm35_2]
    simp only [hma35, hc_on_some, hc_get, hc_put, hc_ri, hc_rl, hc_is, hc_row, hc_wr, hc_mov, hc_smi, hc_sml, hc_fv, hc_ld, hc_kd, hc_sto, hc_pre, hc_two, hc_inc, hc_psh, hc_kp, hc_k1, hc_np, hc_bk_rf, hc_bk_gA, hc_set_ap, hc_set_set, Value.category, List.getElem?_cons_zero, List.getElem?_cons_succ, List.set_cons_zero, List.set_cons_succ, List.length_cons, List.length_nil, List.map_cons, List.map_nil, reduceIte, Nat.reduceAdd, Nat.reduceSub, Nat.reduceBEq, Nat.reduceEqDiff, Nat.reduceLeDiff, Nat.reduceLT, true_and, and_true, Bool.false_eq_true, reduceCtorEq, if_true, if_false, hc_xx, hc_ofNat, hc_10, not_true_eq_false, not_false_eq_true, ge_iff_le, hp, hop, h0, e1, i1, i2, e4]
    have bx := (fx i).le_toInt
    have bx2 := (fx i).toInt_lt
    have by1 := (fy i).le_toInt
    have by2 := (fy i).toInt_lt
    refine sp_heat (h0' o) (hc_set_at _ _ _) hP (by omega) (by rw [i64_of32]; omega) (by rw [i64_of32]; omega) fun G' o' hP' hcr => ?_
    dsimp only
    rw [hc_bk_np rfl rfl]
    simp only [hma35, hc_on_some, hc_get, hc_put, hc_ri, hc_rl, hc_is, hc_row, hc_wr, hc_mov, hc_smi, hc_sml, hc_fv, hc_ld, hc_kd, hc_sto, hc_pre, hc_two, hc_inc, hc_psh, hc_kp, hc_k1, hc_np, hc_bk_rf, hc_bk_gA, hc_set_ap, hc_set_set, Value.category, List.getElem?_cons_zero, List.getElem?_cons_succ, List.set_cons_zero, List.set_cons_succ, List.length_cons, List.length_nil, List.map_cons, List.map_nil, reduceIte, Nat.reduceAdd, Nat.reduceSub, Nat.reduceBEq, Nat.reduceEqDiff, Nat.reduceLeDiff, Nat.reduceLT, true_and, and_true, Bool.false_eq_true, reduceCtorEq, if_true, if_false, hc_xx, hc_ofNat, hc_10, not_true_eq_false, not_false_eq_true, ge_iff_le, nI_1]
    rw [hc_set_set] at hcr
    have hl1 : (pl.map Prod.fst).length = pl.length := List.length_map _
    have hl2 : (pl.map Prod.snd).length = pl.length := List.length_map _
    have hi' : i < pl.length := by omega
    have v1 : (fx i).toInt = pl[i].1 := h7 i _ (by rw [List.getElem?_map, List.getElem?_eq_getElem hi']; rfl)
    have v2 : (fy i).toInt = pl[i].2 := h8 i _ (by rw [List.getElem?_map, List.getElem?_eq_getElem hi']; rfl)
    rw [i64_of32, i64_of32, v1, v2] at hP'
    refine ih (i + 1) G' o' _ (by omega) (by rw [List.length_append]; show l.length + 1 + d < _; omega) hP' fun G2 o2 hP2 hcr2 => K G2 o2 ?_ (hcr.tr hcr2)
    rw [List.drop_eq_getElem_cons hi', kcl, List.map_cons]
    rw [List.append_assoc] at hP2
    exact hP2
theorem hc_set_id' {k : Nat} {o : hc_O} (h : σ k = some o) : hc_set σ k o = σ := by
  funext i
  simp only [hc_set]
  split
  · rename_i e
    rw [e, h]
  · rfl
theorem sp_heatAll {a b p : Nat} {op : hc_O} {pl : List (Int × Int)} {o : hc_O} {l : List Int} (hp : p ≠ 10) (h0 : σ 0 = some (oHC a b)) (hop : σ p = some op) (hpP : PLo op pl pl.length) (h : σ 10 = some o) (hP : KSo o l) (hl : l.length + pl.length < 20000) (K : ∀ G' o', KSo o' (l ++ kcl pl) → hc_cr G σ G' (hc_set σ 10 o') → Q G' (hc_set σ 10 o') none none) : hc_wp G σ none 35 0 [some (.inl (.ref 0)), some (.inl (.ref p)), none] [] Q := by
  have L := sp_heatAll_loop (Q := Q) hp h0 hop hpP pl.length 0 G o l (by omega) hl hP (fun G' o' hP' hcr => K G' o' hP' (by rw [hc_set_id' h] at hcr; exact hcr))
  rw [hc_set_id' h] at L
  simp only [hma35, hc_on_some, hc_get, hc_put, hc_ri, hc_rl, hc_is, hc_row, hc_wr, hc_mov, hc_smi, hc_sml, hc_fv, hc_ld, hc_kd, hc_sto, hc_pre, hc_two, hc_inc, hc_psh, hc_kp, hc_k1, hc_np, hc_bk_rf, hc_bk_gA, hc_set_ap, hc_set_set, Value.category, List.getElem?_cons_zero, List.getElem?_cons_succ, List.set_cons_zero, List.set_cons_succ, List.length_cons, List.length_nil, List.map_cons, List.map_nil, reduceIte, Nat.reduceAdd, Nat.reduceSub, Nat.reduceBEq, Nat.reduceEqDiff, Nat.reduceLeDiff, Nat.reduceLT, true_and, and_true, Bool.false_eq_true, reduceCtorEq, if_true, if_false, hc_xx, hc_ofNat, hc_10, not_true_eq_false, not_false_eq_true, ge_iff_le]
  exact L
end S26
