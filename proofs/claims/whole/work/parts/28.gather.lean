/-! the hot places of the class gathered -/
def crx (S E : List (Int × Int)) (e n : Nat) : List (Int × Int) := (List.range n).flatMap fun d => (crs (edz S E e) (edz S E d)).toList
theorem crx_succ (S E : List (Int × Int)) (e n : Nat) : crx S E e (n + 1) = crx S E e n ++ (crs (edz S E e) (edz S E n)).toList := by
  unfold crx
  rw [List.range_succ, List.flatMap_append]
  simp
theorem crx_len (S E : List (Int × Int)) (e : Nat) : ∀ n, (crx S E e n).length ≤ n := by
  intro n
  induction n with
  | zero => exact Nat.le_refl _
  | succ n ih =>
    rw [crx_succ, List.length_append]
    have : (crs (edz S E e) (edz S E n)).toList.length ≤ 1 := by
      cases crs (edz S E e) (edz S E n) <;> simp
    omega
def hotL (S E P : List (Int × Int)) (n : Nat) : List (Int × Int) := S ++ E ++ P ++ (List.range n).flatMap fun e => crx S E e e
theorem hotL_succ (S E P : List (Int × Int)) (n : Nat) : hotL S E P (n + 1) = hotL S E P n ++ crx S E n n := by
  unfold hotL
  rw [List.range_succ, List.flatMap_append, ← List.append_assoc]
  simp
theorem hotL_le (S E P : List (Int × Int)) {n m : Nat} (h : n ≤ m) {q : Int × Int} (hq : q ∈ hotL S E P n) : q ∈ hotL S E P m := by
  obtain ⟨k, rfl⟩ := Nat.exists_eq_add_of_le h
  induction k with
  | zero => exact hq
  | succ k ih =>
    rw [← Nat.add_assoc, hotL_succ]
    exact List.mem_append_left _ (ih (by omega))
theorem kcl_mem_le {S E P : List (Int × Int)} {n m : Nat} (h : n ≤ m) {v : Int} (hv : v ∈ kcl (hotL S E P n)) : v ∈ kcl (hotL S E P m) := by
  obtain ⟨q, hq, e⟩ := List.mem_map.mp hv
  exact List.mem_map.mpr ⟨q, hotL_le S E P h hq, e⟩
section S28
variable {G G0 : hc_G} {σ : hc_H} {t : hc_T} {Q : hc_Q}
theorem sp_hxs {a b e : Nat} {l : List Int} {o0 os oe : hc_O} {S E : List (Int × Int)} (h0 : σ 0 = some (oHC a b)) (h : σ 10 = some o0) (hP0 : KSo o0 l) (hm : l.length + e ≤ 20000) (hs : σ 1 = some os) (hS : PLo os S S.length) (he : σ 4 = some oe) (hE : PLo oe E E.length) (hb : inB S) (hb2 : inB E) (hle : E.length = S.length) (hi : e < S.length) (hS512 : S.length ≤ 512)
    (K : ∀ G' o', KSo o' (l ++ kcl (crx S E e e)) → hc_cr G σ G' (hc_set σ 10 o') → Q G' (hc_set σ 10 o') none none) :
    hc_wp G σ none 37 0 [some (.inl (.ref 0)), some (.inl (.int (nI e))), none] [] Q := by
  have L : ∀ (d i : Nat) (G1 : hc_G) (o : hc_O), d + i = e → KSo o (l ++ kcl (crx S E e i)) → hc_cr G σ G1 (hc_set σ 10 o) → hc_wp G1 (hc_set σ 10 o) none 37 2 [some (.inl (.ref 0)), some (.inl (.int (nI e))), some (.inl (.int (nI i)))] [] Q := by
    intro d
    induction d with
    | zero =>
      intro i G1 o hd hP hcr
      have e1 : i = e := by omega
      subst e1
      rw [hm37_2]
      simp only [hma37, hc_on_some, hc_get, hc_put, hc_ri, hc_rl, hc_is, hc_row, hc_wr, hc_mov, hc_smi, hc_sml, hc_fv, hc_ld, hc_kd, hc_sto, hc_pre, hc_two, hc_inc, hc_psh, hc_kp, hc_k1, hc_np, hc_bk_rf, hc_bk_gA, hc_set_ap, hc_set_set, Value.category, List.getElem?_cons_zero, List.getElem?_cons_succ, List.set_cons_zero, List.set_cons_succ, List.length_cons, List.length_nil, List.map_cons, List.map_nil, reduceIte, Nat.reduceAdd, Nat.reduceSub, Nat.reduceBEq, Nat.reduceEqDiff, Nat.reduceLeDiff, Nat.reduceLT, true_and, and_true, Bool.false_eq_true, reduceCtorEq, if_true, if_false, hc_xx, hc_ofNat, hc_10, not_true_eq_false, not_false_eq_true, ge_iff_le, if_pos (Int32.le_refl (nI i))]
      exact K G1 o hP hcr
    | succ d ih =>
      intro i G1 o hd hP hcr
      have e1 : ¬ nI e ≤ nI i := nI_ge (by omega) (by omega)
      have hlen := crx_len S E e i
      rw [hm37_2]
      simp only [hma37, hc_on_some, hc_get, hc_put, hc_ri, hc_rl, hc_is, hc_row, hc_wr, hc_mov, hc_smi, hc_sml, hc_fv, hc_ld, hc_kd, hc_sto, hc_pre, hc_two, hc_inc, hc_psh, hc_kp, hc_k1, hc_np, hc_bk_rf, hc_bk_gA, hc_set_ap, hc_set_set, Value.category, List.getElem?_cons_zero, List.getElem?_cons_succ, List.set_cons_zero, List.set_cons_succ, List.length_cons, List.length_nil, List.map_cons, List.map_nil, reduceIte, Nat.reduceAdd, Nat.reduceSub, Nat.reduceBEq, Nat.reduceEqDiff, Nat.reduceLeDiff, Nat.reduceLT, true_and, and_true, Bool.false_eq_true, reduceCtorEq, if_true, if_false, hc_xx, hc_ofNat, hc_10, not_true_eq_false, not_false_eq_true, ge_iff_le, h0, e1]
      refine sp_hx (by rw [hc_set_ne σ o (by decide)]; exact h0) (hc_set_at _ _ _) hP (by rw [List.length_append, List.length_map]; omega) (by rw [hc_set_ne σ o (by decide)]; exact hs) hS (by rw [hc_set_ne σ o (by decide)]; exact he) hE hb hb2 hle hi (show i < S.length by omega) fun G' o' hP' hcr' => ?_
      dsimp only
      rw [hc_bk_np rfl rfl]
      simp only [hma37, hc_on_some, hc_get, hc_put, hc_ri, hc_rl, hc_is, hc_row, hc_wr, hc_mov, hc_smi, hc_sml, hc_fv, hc_ld, hc_kd, hc_sto, hc_pre, hc_two, hc_inc, hc_psh, hc_kp, hc_k1, hc_np, hc_bk_rf, hc_bk_gA, hc_set_ap, hc_set_set, Value.category, List.getElem?_cons_zero, List.getElem?_cons_succ, List.set_cons_zero, List.set_cons_succ, List.length_cons, List.length_nil, List.map_cons, List.map_nil, reduceIte, Nat.reduceAdd, Nat.reduceSub, Nat.reduceBEq, Nat.reduceEqDiff, Nat.reduceLeDiff, Nat.reduceLT, true_and, and_true, Bool.false_eq_true, reduceCtorEq, if_true, if_false, hc_xx, hc_ofNat, hc_10, not_true_eq_false, not_false_eq_true, ge_iff_le, nI_1]
      rw [hc_set_set] at hcr'
      refine ih (i + 1) G' o' (by omega) ?_ (hcr.tr hcr')
      rw [crx_succ, kcl, List.map_append, ← List.append_assoc]
      exact hP'
  have L2 := L e 0 G o0 (by omega) (by simpa [crx] using hP0) (by rw [hc_set_id' h]; exact hc_cr.rf _ _)
  rw [hc_set_id' h] at L2
  simp only [hma37, hc_on_some, hc_get, hc_put, hc_ri, hc_rl, hc_is, hc_row, hc_wr, hc_mov, hc_smi, hc_sml, hc_fv, hc_ld, hc_kd, hc_sto, hc_pre, hc_two, hc_inc, hc_psh, hc_kp, hc_k1, hc_np, hc_bk_rf, hc_bk_gA, hc_set_ap, hc_set_set, Value.category, List.getElem?_cons_zero, List.getElem?_cons_succ, List.set_cons_zero, List.set_cons_succ, List.length_cons, List.length_nil, List.map_cons, List.map_nil, reduceIte, Nat.reduceAdd, Nat.reduceSub, Nat.reduceBEq, Nat.reduceEqDiff, Nat.reduceLeDiff, Nat.reduceLT, true_and, and_true, Bool.false_eq_true, reduceCtorEq, if_true, if_false, hc_xx, hc_ofNat, hc_10, not_true_eq_false, not_false_eq_true, ge_iff_le]
  exact L2
theorem sp_settle {a b : Nat} {l : List Int} {o : hc_O} (h0 : σ 0 = some (oHC a b)) (h : σ 10 = some o) (hP : KSo o l)
    (K : ∀ o' l', KSo o' l' → l'.Pairwise (· < ·) → (∀ v, v ∈ l' ↔ v ∈ l) → hc_cr G σ G (hc_set σ 10 o') → Q G (hc_set σ 10 o') none (some (.inl (.int (if l'.length ≤ 6000 then 1 else 0))))) :
    hc_wp G σ none 34 0 [some (.inl (.ref 0))] [] Q := by
  have hq := hP
  obtain ⟨c, f, rfl, -⟩ := hq
  simp only [hma34, hc_on_some, hc_get, hc_put, hc_ri, hc_rl, hc_is, hc_row, hc_wr, hc_mov, hc_smi, hc_sml, hc_fv, hc_ld, hc_kd, hc_sto, hc_pre, hc_two, hc_inc, hc_psh, hc_kp, hc_k1, hc_np, hc_bk_rf, hc_bk_gA, hc_set_ap, hc_set_set, Value.category, List.getElem?_cons_zero, List.getElem?_cons_succ, List.set_cons_zero, List.set_cons_succ, List.length_cons, List.length_nil, List.map_cons, List.map_nil, reduceIte, Nat.reduceAdd, Nat.reduceSub, Nat.reduceBEq, Nat.reduceEqDiff, Nat.reduceLeDiff, Nat.reduceLT, true_and, and_true, Bool.false_eq_true, reduceCtorEq, if_true, if_false, hc_xx, hc_ofNat, hc_10, not_true_eq_false, not_false_eq_true, ge_iff_le, h0, h, oKs]
  refine sp_ksort h hP (by decide) fun o1 l1 hP1 hp1 hs1 hcr1 => ?_
  have hq1 := hP1
  obtain ⟨c1, f1, rfl, -⟩ := hq1
  simp only [hma34, hc_on_some, hc_get, hc_put, hc_ri, hc_rl, hc_is, hc_row, hc_wr, hc_mov, hc_smi, hc_sml, hc_fv, hc_ld, hc_kd, hc_sto, hc_pre, hc_two, hc_inc, hc_psh, hc_kp, hc_k1, hc_np, hc_bk_rf, hc_bk_gA, hc_set_ap, hc_set_set, Value.category, List.getElem?_cons_zero, List.getElem?_cons_succ, List.set_cons_zero, List.set_cons_succ, List.length_cons, List.length_nil, List.map_cons, List.map_nil, reduceIte, Nat.reduceAdd, Nat.reduceSub, Nat.reduceBEq, Nat.reduceEqDiff, Nat.reduceLeDiff, Nat.reduceLT, true_and, and_true, Bool.false_eq_true, reduceCtorEq, if_true, if_false, hc_xx, hc_ofNat, hc_10, not_true_eq_false, not_false_eq_true, ge_iff_le, h0, h, oKs]
  refine sp_kdd2 (hc_set_at _ _ _) hP1 hs1 (by decide) fun o2 l2 hP2 hs2 hm2 hcr2 => ?_
  have hq2 := hP2
  obtain ⟨c2, f2, rfl, q1, q2, q3, q4⟩ := hq2
  rw [hc_set_set] at hcr2
  have K2 := K (oKs l2.length c2 f2) l2 hP2 hs2 (fun v => (hm2 v).trans hp1.mem_iff) (hcr1.tr hcr2)
  have e6 : (6000 : Int32) = nI 6000 := rfl
  by_cases hl : l2.length ≤ 6000
  · have e1 : ¬ nI 6000 < nI l2.length := nI_nlt (by omega) (by omega)
    rw [if_pos hl] at K2
    simp only [hma34, hc_on_some, hc_get, hc_put, hc_ri, hc_rl, hc_is, hc_row, hc_wr, hc_mov, hc_smi, hc_sml, hc_fv, hc_ld, hc_kd, hc_sto, hc_pre, hc_two, hc_inc, hc_psh, hc_kp, hc_k1, hc_np, hc_bk_rf, hc_bk_gA, hc_set_ap, hc_set_set, Value.category, List.getElem?_cons_zero, List.getElem?_cons_succ, List.set_cons_zero, List.set_cons_succ, List.length_cons, List.length_nil, List.map_cons, List.map_nil, reduceIte, Nat.reduceAdd, Nat.reduceSub, Nat.reduceBEq, Nat.reduceEqDiff, Nat.reduceLeDiff, Nat.reduceLT, true_and, and_true, Bool.false_eq_true, reduceCtorEq, if_true, if_false, hc_xx, hc_ofNat, hc_10, not_true_eq_false, not_false_eq_true, ge_iff_le, h0, h, oKs, e6, e1, true_or, or_true] at K2 ⊢
    exact K2
  · have e1 : nI 6000 < nI l2.length := nI_lt (by omega) (by omega)
    rw [if_neg hl] at K2
    simp only [hma34, hc_on_some, hc_get, hc_put, hc_ri, hc_rl, hc_is, hc_row, hc_wr, hc_mov, hc_smi, hc_sml, hc_fv, hc_ld, hc_kd, hc_sto, hc_pre, hc_two, hc_inc, hc_psh, hc_kp, hc_k1, hc_np, hc_bk_rf, hc_bk_gA, hc_set_ap, hc_set_set, Value.category, List.getElem?_cons_zero, List.getElem?_cons_succ, List.set_cons_zero, List.set_cons_succ, List.length_cons, List.length_nil, List.map_cons, List.map_nil, reduceIte, Nat.reduceAdd, Nat.reduceSub, Nat.reduceBEq, Nat.reduceEqDiff, Nat.reduceLeDiff, Nat.reduceLT, true_and, and_true, Bool.false_eq_true, reduceCtorEq, if_true, if_false, hc_xx, hc_ofNat, hc_10, not_true_eq_false, not_false_eq_true, ge_iff_le, h0, h, oKs, e6, e1, true_or, or_true] at K2 ⊢
    exact K2
end S28
