/-! the hot places of the class gathered -/
def crx (S E : List (Int × Int)) (e n : Nat) : List (Int × Int) := (List.range n).flatMap fun d => (crs (edz S E e) (edz S E d)).toList
theorem crx_succ (S E : List (Int × Int)) (e n : Nat) : crx S E e (n + 1) = crx S E e n ++ (crs (edz S E e) (edz S E n)).toList := by
  unfold crx
  rw [List.range_succ, List.flatMap_append]
  simp
theorem crx_len (S E : List (Int × Int)) (e : Nat) : ∀ n, (crx S E e n).length ≤ n := by
  intro n
  induction n with
  | zero => exact Nat.le_refl _
  | succ n ih =>
    rw [crx_succ, List.length_append]
    have : (crs (edz S E e) (edz S E n)).toList.length ≤ 1 := by
      cases crs (edz S E e) (edz S E n) <;> simp
    omega
def hotL (S E P : List (Int × Int)) (n : Nat) : List (Int × Int) := S ++ E ++ P ++ (List.range n).flatMap fun e => crx S E e e
theorem hotL_succ (S E P : List (Int × Int)) (n : Nat) : hotL S E P (n + 1) = hotL S E P n ++ crx S E n n := by
  unfold hotL
  rw [List.range_succ, List.flatMap_append, ← List.append_assoc]
  simp
theorem hotL_le (S E P : List (Int × Int)) {n m : Nat} (h : n ≤ m) {q : Int × Int} (hq : q ∈ hotL S E P n) : q ∈ hotL S E P m := by
  obtain ⟨k, rfl⟩ := Nat.exists_eq_add_of_le h
  induction k with
  | zero => exact hq
  | succ k ih =>
    rw [← Nat.add_assoc, hotL_succ]
    exact List.mem_append_left _ (ih (by omega))
theorem kcl_mem_le {S E P : List (Int × Int)} {n m : Nat} (h : n ≤ m) {v : Int} (hv : v ∈ kcl (hotL S E P n)) : v ∈ kcl (hotL S E P m) := by
  obtain ⟨q, hq, e⟩ := List.mem_map.mp hv
  exact List.mem_map.mpr ⟨q, hotL_le S E P h hq, e⟩
section S28
variable {G G0 : hc_G} {σ : hc_H} {t : hc_T} {Q : hc_Q}
theorem sp_hxs {a b e : Nat} {l : List Int} {o0 os oe : hc_O} {S E : List (Int × Int)} (h0 : σ 0 = some (oHC a b)) (h : σ 10 = some o0) (hP0 : KSo o0 l) (hm : l.length + e ≤ 20000) (hs : σ 1 = some os) (hS : PLo os S S.length) (he : σ 4 = some oe) (hE : PLo oe E E.length) (hb : inB S) (hb2 : inB E) (hle : E.length = S.length) (hi : e < S.length) (hS512 : S.length ≤ 512)
    (K : ∀ G' o', KSo o' (l ++ kcl (crx S E e e)) → hc_cr G σ G' (hc_set σ 10 o') → Q G' (hc_set σ 10 o') none none) :
    hc_wp G σ none 37 0 [some (.inl (.ref 0)), some (.inl (.int (nI e))), none] [] Q := by
  have L : ∀ (d i : Nat) (G1 : hc_G) (o : hc_O), d + i = e → KSo o (l ++ kcl (crx S E e i)) → hc_cr G σ G1 (hc_set σ 10 o) → hc_wp G1 (hc_set σ 10 o) none 37 2 [some (.inl (.ref 0)), some (.inl (.int (nI e))), some (.inl (.int (nI i)))] [] Q := by
    intro d
    induction d with
    | zero =>
      intro i G1 o hd hP hcr
      have e1 : i = e := by omega
      subst e1
      rw [hm37_2]
      simp only [hma37, hc_on_some, hc_get, hc_put, hc_ri, hc_rl, hc_is, hc_row, hc_wr, hc_mov, hc_smi, hc_sml, hc_fv, hc_ld, hc_kd, hc_sto, hc_pre, hc_two, hc_inc, hc_psh, hc_kp, hc_k1, hc_np, hc_bk_rf, hc_bk_gA, hc_set_ap, hc_set_set, Value.category, List.getElem?_cons_zero, List.getElem?_cons_succ, List.set_cons_zero, List.set_cons_succ, List.length_cons, List.length_nil, List.map_cons, List.map_nil, reduceIte, Nat.reduceAdd, Nat.reduceSub, Nat.reduceBEq, Nat.reduceEqDiff, Nat.reduceLeDiff, Nat.reduceLT, true_and, and_true, Bool.false_eq_true, reduceCtorEq, if_true, if_false, hc_xx, hc_ofNat, hc_10, not_true_eq_false, not_false_eq_true, ge_iff_le, if_pos (Int32.le_refl (nI i))]
      exact K G1 o hP hcr
    | succ d ih =>
      intro i G1 o hd hP hcr
      have e1 : ¬ nI e ≤ nI i := nI_ge (by omega) (by omega)
      have hlen := crx_len S E e i
      rw [hm37_2]
      simp only [hma37, hc_on_some, hc_get, hc_put, hc_ri, hc_rl, hc_is, hc_row, hc_wr, hc_mov, hc_smi, hc_sml, hc_fv, hc_ld, hc_kd, hc_sto, hc_pre, hc_two, hc_inc, hc_psh, hc_kp, hc_k1, hc_np, hc_bk_rf, hc_bk_gA, hc_set_ap, hc_set_set, Value.category, List.getElem?_cons_zero, List.getElem?_cons_succ, List.set_cons_zero, List.set_cons_succ, List.length_cons, List.length_nil, List.map_cons, List.map_nil, reduceIte, Nat.reduceAdd, Nat.reduceSub, Nat.reduceBEq, Nat.reduceEqDiff, Nat.reduceLeDiff, Nat.reduceLT, true_and, and_true, Bool.false_eq_true, reduceCtorEq, if_true, if_false, hc_xx, hc_ofNat, hc_10, not_true_eq_false, not_false_eq_true, ge_iff_le, h0, e1]
      refine sp_hx (by rw [hc_set_ne σ o (by decide)]; exact h0) (hc_set_at _ _ _) hP (by rw [List.length_append, List.length_map]; omega) (by rw [hc_set_ne σ o (by decide)]; exact hs) hS (by rw [hc_set_ne σ o (by decide)]; exact he) hE hb hb2 hle hi (show i < S.length by omega) fun G' o' hP' hcr' => ?_
      dsimp only
      rw [hc_bk_np rfl rfl]
      simp only [hma37, hc_on_some, hc_get, hc_put, hc_ri, hc_rl, hc_is, hc_row, hc_wr, hc_mov, hc_smi, hc_sml, hc_fv, hc_ld, hc_kd, hc_sto, hc_pre, hc_two, hc_inc, hc_psh, hc_kp, hc_k1, hc_np, hc_bk_rf, hc_bk_gA, hc_set_ap, hc_set_set, Value.category, List.getElem?_cons_zero, List.getElem?_cons_succ, List.set_cons_zero, List.set_cons_succ, List.length_cons, List.length_nil, List.map_cons, List.map_nil, reduceIte, Nat.reduceAdd, Nat.reduceSub, Nat.reduceBEq, Nat.reduceEqDiff, Nat.reduceLeDiff, Nat.reduceLT, true_and, and_true, Bool.false_eq_true, reduceCtorEq, if_true, if_false, hc_xx, hc_ofNat, hc_10, not_true_eq_false, not_false_eq_true, ge_iff_le, nI_1]
      rw [hc_set_set] at hcr'
      refine ih (i + 1) G' o' (by omega) ?_ (hcr.tr hcr')
      rw [crx_succ, kcl, List.map_append, ← List.append_assoc]
      exact hP'
  have L2 := L e 0 G o0 (by omega) (by simpa [crx] using hP0) (by rw [hc_set_id' h]; exact hc_cr.rf _ _)
  rw [hc_set_id' h] at L2
  simp only [hma37, hc_on_some, hc_get, hc_put, hc_ri, hc_rl, hc_is, hc_row, hc_wr, hc_mov, hc_smi, hc_sml, hc_fv, hc_ld, hc_kd, hc_sto, hc_pre, hc_two, hc_inc, hc_psh, hc_kp, hc_k1, hc_np, hc_bk_rf, hc_bk_gA, hc_set_ap, hc_set_set, Value.category, List.getElem?_cons_zero, List.getElem?_cons_succ, List.set_cons_zero, List.set_cons_succ, List.length_cons, List.length_nil, List.map_cons, List.map_nil, reduceIte, Nat.reduceAdd, Nat.reduceSub, Nat.reduceBEq, Nat.reduceEqDiff, Nat.reduceLeDiff, Nat.reduceLT, true_and, and_true, Bool.false_eq_true, reduceCtorEq, if_true, if_false, hc_xx, hc_ofNat, hc_10, not_true_eq_false, not_false_eq_true, ge_iff_le]
  exact L2
theorem sp_settle {a b : Nat} {l : List Int} {o : hc_O} (h0 : σ 0 = some (oHC a b)) (h : σ 10 = some o) (hP : KSo o l)
    (K : ∀ o' l', KSo o' l' → l'.Pairwise (· < ·) → (∀ v, v ∈ l' ↔ v ∈ l) → hc_cr G σ G (hc_set σ 10 o') → Q G (hc_set σ 10 o') none (some (.inl (.int (if l'.length ≤ 6000 then 1 else 0))))) :
    hc_wp G σ none 34 0 [some (.inl (.ref 0))] [] Q := by
  have hq := hP
  obtain ⟨c, f, rfl, -⟩ := hq
  simp only [hma34, hc_on_some, hc_get, hc_put, hc_ri, hc_rl, hc_is, hc_row, hc_wr, hc_mov, hc_smi, hc_sml, hc_fv, hc_ld, hc_kd, hc_sto, hc_pre, hc_two, hc_inc, hc_psh, hc_kp, hc_k1, hc_np, hc_bk_rf, hc_bk_gA, hc_set_ap, hc_set_set, Value.category, List.getElem?_cons_zero, List.getElem?_cons_succ, List.set_cons_zero, List.set_cons_succ, List.length_cons, List.length_nil, List.map_cons, List.map_nil, reduceIte, Nat.reduceAdd, Nat.reduceSub, Nat.reduceBEq, Nat.reduceEqDiff, Nat.reduceLeDiff, Nat.reduceLT, true_and, and_true, Bool.false_eq_true, reduceCtorEq, if_true, if_false, hc_xx, hc_ofNat, hc_10, not_true_eq_false, not_false_eq_true, ge_iff_le, h0, h, oKs]
  refine sp_ksort h hP (by decide) fun o1 l1 hP1 hp1 hs1 hcr1 => ?_
  have hq1 := hP1
  obtain ⟨c1, f1, rfl, -⟩ := hq1
  simp only [hma34, hc_on_some, hc_get, hc_put, hc_ri, hc_rl, hc_is, hc_row, hc_wr, hc_mov, hc_smi, hc_sml, hc_fv, hc_ld, hc_kd, hc_sto, hc_pre, hc_two, hc_inc, hc_psh, hc_kp, hc_k1, hc_np, hc_bk_rf, hc_bk_gA, hc_set_ap, hc_set_set, Value.category, List.getElem?_cons_zero, List.getElem?_cons_succ, List.set_cons_zero, List.set_cons_succ, List.length_cons, List.length_nil, List.map_cons, List.map_nil, reduceIte, Nat.reduceAdd, Nat.reduceSub, Nat.reduceBEq, Nat.reduceEqDiff, Nat.reduceLeDiff, Nat.reduceLT, true_and, and_true, Bool.false_eq_true, reduceCtorEq, if_true, if_false, hc_xx, hc_ofNat, hc_10, not_true_eq_false, not_false_eq_true, ge_iff_le, h0, h, oKs]
  refine sp_kdd2 (hc_set_at _ _ _) hP1 hs1 (by decide) fun o2 l2 hP2 hs2 hm2 hcr2 => ?_
  have hq2 := hP2
  obtain ⟨c2, f2, rfl, q1, q2, q3, q4⟩ := hq2
  rw [hc_set_set] at hcr2
  have K2 := K (oKs l2.length c2 f2) l2 hP2 hs2 (fun v => (hm2 v).trans hp1.mem_iff) (hcr1.tr hcr2)
  have e6 : (6000 : Int32) = nI 6000 := rfl
  by_cases hl : l2.length ≤ 6000
  · have e1 : ¬ nI 6000 < nI l2.length := nI_nlt (by omega) (by omega)
    rw [if_pos hl] at K2
    simp only [hma34, hc_on_some, hc_get, hc_put, hc_ri, hc_rl, hc_is, hc_row, hc_wr, hc_mov, hc_smi, hc_sml, hc_fv, hc_ld, hc_kd, hc_sto, hc_pre, hc_two, hc_inc, hc_psh, hc_kp, hc_k1, hc_np, hc_bk_rf, hc_bk_gA, hc_set_ap, hc_set_set, Value.category, List.getElem?_cons_zero, List.getElem?_cons_succ, List.set_cons_zero, List.set_cons_succ, List.length_cons, List.length_nil, List.map_cons, List.map_nil, reduceIte, Nat.reduceAdd, Nat.reduceSub, Nat.reduceBEq, Nat.reduceEqDiff, Nat.reduceLeDiff, Nat.reduceLT, true_and, and_true, Bool.false_eq_true, reduceCtorEq, if_true, if_false, hc_xx, hc_ofNat, hc_10, not_true_eq_false, not_false_eq_true, ge_iff_le, h0, h, oKs, e6, e1, true_or, or_true] at K2 ⊢
    exact K2
  · have e1 : nI 6000 < nI l2.length := nI_lt (by omega) (by omega)
    rw [if_neg hl] at K2
    simp only [hma34, hc_on_some, hc_get, hc_put, hc_ri, hc_rl, hc_is, hc_row, hc_wr, hc_mov, hc_smi, hc_sml, hc_fv, hc_ld, hc_kd, hc_sto, hc_pre, hc_two, hc_inc, hc_psh, hc_kp, hc_k1, hc_np, hc_bk_rf, hc_bk_gA, hc_set_ap, hc_set_set, Value.category, List.getElem?_cons_zero, List.getElem?_cons_succ, List.set_cons_zero, List.set_cons_succ, List.length_cons, List.length_nil, List.map_cons, List.map_nil, reduceIte, Nat.reduceAdd, Nat.reduceSub, Nat.reduceBEq, Nat.reduceEqDiff, Nat.reduceLeDiff, Nat.reduceLT, true_and, and_true, Bool.false_eq_true, reduceCtorEq, if_true, if_false, hc_xx, hc_ofNat, hc_10, not_true_eq_false, not_false_eq_true, ge_iff_le, h0, h, oKs, e6, e1, true_or, or_true] at K2 ⊢
    exact K2
theorem sp_gather {a b : Nat} {o0 os oe op : hc_O} {lk : List Int} {S E P : List (Int × Int)} (h0 : σ 0 = some (oHC a b)) (h : σ 10 = some o0) (hP0 : KSo o0 lk) (hs : σ 1 = some os) (hS : PLo os S S.length) (he : σ 4 = some oe) (hE : PLo oe E E.length) (hp : σ 7 = some op) (hPP : PLo op P P.length) (hb : inB S) (hb2 : inB E) (hle : E.length = S.length) (hS512 : S.length ≤ 512) (hP512 : P.length ≤ 512)
    (K : ∀ G' o' L (c : Bool), KSo o' L → L.Pairwise (· < ·) → (∀ v, v ∈ L → v ∈ kcl (hotL S E P S.length)) → (c = true → L.length ≤ 6000 ∧ ∀ v, v ∈ kcl (hotL S E P S.length) → v ∈ L) → (c = false → 6000 < L.length) → hc_cr G σ G' (hc_set σ 10 o') → Q G' (hc_set σ 10 o') none (some (.inl (.int (if c then 1 else 0))))) :
    hc_wp G σ none 33 0 [some (.inl (.ref 0)), none] [] Q := by
  have n1 : ∀ o, hc_set σ 10 o 0 = some (oHC a b) := fun o => by rw [hc_set_ne σ o (by decide)]; exact h0
  have n2 : ∀ o, hc_set σ 10 o 1 = some os := fun o => by rw [hc_set_ne σ o (by decide)]; exact hs
  have n3 : ∀ o, hc_set σ 10 o 4 = some oe := fun o => by rw [hc_set_ne σ o (by decide)]; exact he
  have n4 : ∀ o, hc_set σ 10 o 7 = some op := fun o => by rw [hc_set_ne σ o (by decide)]; exact hp
  have hS' := hS
  obtain ⟨cx, fx, cy, fy, eS, -⟩ := hS'
  have e18 : (18000 : Int32) = nI 18000 := rfl
  have fin : ∀ (G1 : hc_G) (o : hc_O) (L : List Int) (i : Nat), KSo o L → (∀ v, v ∈ L ↔ v ∈ kcl (hotL S E P i)) → i = S.length ∨ S.length = 0 ∧ i = 1 → i ≤ 513 → hc_cr G σ G1 (hc_set σ 10 o) → hc_wp G1 (hc_set σ 10 o) none 33 78 [some (.inl (.ref 0)), some (.inl (.int (nI i)))] [] Q := by
    intro G1 o L i hP hm hi hi2 hcr
    have hm2 : ∀ v, v ∈ L ↔ v ∈ kcl (hotL S E P S.length) := by
      rcases hi with e | ⟨e1, e2⟩
      · rw [← e]
        exact hm
      · intro v
        rw [hm v, e1, e2, hotL_succ]
        have : crx S E 0 0 = [] := rfl
        rw [this, List.append_nil]
    simp only [hm33_78, hm33_79, hm33_82, hc_on_some, hc_get, hc_put, hc_ri, hc_rl, hc_is, hc_row, hc_wr, hc_mov, hc_smi, hc_sml, hc_fv, hc_ld, hc_kd, hc_sto, hc_pre, hc_two, hc_inc, hc_psh, hc_kp, hc_k1, hc_np, hc_bk_rf, hc_bk_gA, hc_set_ap, hc_set_set, Value.category, List.getElem?_cons_zero, List.getElem?_cons_succ, List.set_cons_zero, List.set_cons_succ, List.length_cons, List.length_nil, List.map_cons, List.map_nil, reduceIte, Nat.reduceAdd, Nat.reduceSub, Nat.reduceBEq, Nat.reduceEqDiff, Nat.reduceLeDiff, Nat.reduceLT, true_and, and_true, Bool.false_eq_true, reduceCtorEq, if_true, if_false, hc_xx, hc_ofNat, hc_10, not_true_eq_false, not_false_eq_true, ge_iff_le, h0]
    refine sp_settle (n1 o) (hc_set_at _ _ _) hP fun o2 l2 hP2 hs2 hm3 hcr2 => ?_
    dsimp only
    rw [hc_set_set] at hcr2 ⊢
    by_cases hl : l2.length ≤ 6000
    · rw [if_pos hl]
      simp only [hm33_82, hc_on_some, hc_get, hc_put, hc_ri, hc_rl, hc_is, hc_row, hc_wr, hc_mov, hc_smi, hc_sml, hc_fv, hc_ld, hc_kd, hc_sto, hc_pre, hc_two, hc_inc, hc_psh, hc_kp, hc_k1, hc_np, hc_bk_rf, hc_bk_gA, hc_set_ap, hc_set_set, Value.category, List.getElem?_cons_zero, List.getElem?_cons_succ, List.set_cons_zero, List.set_cons_succ, List.length_cons, List.length_nil, List.map_cons, List.map_nil, reduceIte, Nat.reduceAdd, Nat.reduceSub, Nat.reduceBEq, Nat.reduceEqDiff, Nat.reduceLeDiff, Nat.reduceLT, true_and, and_true, Bool.false_eq_true, reduceCtorEq, if_true, if_false, hc_xx, hc_ofNat, hc_10, not_true_eq_false, not_false_eq_true, ge_iff_le, true_or, or_true]
      exact K G1 o2 l2 true hP2 hs2 (fun v hv => (hm2 v).mp ((hm3 v).mp hv)) (fun _ => ⟨hl, fun v hv => (hm3 v).mpr ((hm2 v).mpr hv)⟩) (fun e => by cases e) (hcr.tr hcr2)
    · rw [if_neg hl]
      simp only [hm33_82, hc_on_some, hc_get, hc_put, hc_ri, hc_rl, hc_is, hc_row, hc_wr, hc_mov, hc_smi, hc_sml, hc_fv, hc_ld, hc_kd, hc_sto, hc_pre, hc_two, hc_inc, hc_psh, hc_kp, hc_k1, hc_np, hc_bk_rf, hc_bk_gA, hc_set_ap, hc_set_set, Value.category, List.getElem?_cons_zero, List.getElem?_cons_succ, List.set_cons_zero, List.set_cons_succ, List.length_cons, List.length_nil, List.map_cons, List.map_nil, reduceIte, Nat.reduceAdd, Nat.reduceSub, Nat.reduceBEq, Nat.reduceEqDiff, Nat.reduceLeDiff, Nat.reduceLT, true_and, and_true, Bool.false_eq_true, reduceCtorEq, if_true, if_false, hc_xx, hc_ofNat, hc_10, not_true_eq_false, not_false_eq_true, ge_iff_le, true_or, or_true]
      exact K G1 o2 l2 false hP2 hs2 (fun v hv => (hm2 v).mp ((hm3 v).mp hv)) (fun e => by cases e) (fun _ => by omega) (hcr.tr hcr2)
  have loop : ∀ (d i : Nat) (G1 : hc_G) (o : hc_O) (L : List Int), d + i = S.length + 1 → 1 ≤ i → (i ≤ S.length ∨ S.length = 0) → KSo o L → L.length ≤ 18000 → (∀ v, v ∈ L ↔ v ∈ kcl (hotL S E P i)) → hc_cr G σ G1 (hc_set σ 10 o) → hc_wp G1 (hc_set σ 10 o) none 33 34 [some (.inl (.ref 0)), some (.inl (.int (nI i)))] [] Q := by
    intro d
    induction d with
    | zero => 
      intro i G1 o L hd h1 hz hP hl hm hcr
      have e1 : nI S.length ≤ nI i := by
        rw [← Int32.not_lt]
        exact nI_nlt (by omega) (by omega)
      rw [hm33_34]
      simp only [hm33_35, hm33_36, hm33_39, hm33_42, hm33_45, hm33_46, hm33_47, hm33_50, hm33_51, hm33_54, hm33_57, hm33_60, hm33_63, hm33_64, hm33_67, hm33_70, hm33_71, hm33_72, hm33_75, hc_on_some, hc_get, hc_put, hc_ri, hc_rl, hc_is, hc_row, hc_wr, hc_mov, hc_smi, hc_sml, hc_fv, hc_ld, hc_kd, hc_sto, hc_pre, hc_two, hc_inc, hc_psh, hc_kp, hc_k1, hc_np, hc_bk_rf, hc_bk_gA, hc_set_ap, hc_set_set, Value.category, List.getElem?_cons_zero, List.getElem?_cons_succ, List.set_cons_zero, List.set_cons_succ, List.length_cons, List.length_nil, List.map_cons, List.map_nil, reduceIte, Nat.reduceAdd, Nat.reduceSub, Nat.reduceBEq, Nat.reduceEqDiff, Nat.reduceLeDiff, Nat.reduceLT, true_and, and_true, Bool.false_eq_true, reduceCtorEq, if_true, if_false, hc_xx, hc_ofNat, hc_10, not_true_eq_false, not_false_eq_true, ge_iff_le, h0, hs, eS, e1]
      exact fin G1 o L i hP hm (by omega) (by omega) hcr
    | succ d ih =>
      intro i G1 o L hd h1 hz hP hl hm hcr
      by_cases hi : i = S.length
      · have e1 : nI S.length ≤ nI i := by
          rw [hi]
          exact Int32.le_refl _
        rw [hm33_34]
        simp only [hm33_35, hm33_36, hm33_39, hm33_42, hm33_45, hm33_46, hm33_47, hm33_50, hm33_51, hm33_54, hm33_57, hm33_60, hm33_63, hm33_64, hm33_67, hm33_70, hm33_71, hm33_72, hm33_75, hc_on_some, hc_get, hc_put, hc_ri, hc_rl, hc_is, hc_row, hc_wr, hc_mov, hc_smi, hc_sml, hc_fv, hc_ld, hc_kd, hc_sto, hc_pre, hc_two, hc_inc, hc_psh, hc_kp, hc_k1, hc_np, hc_bk_rf, hc_bk_gA, hc_set_ap, hc_set_set, Value.category, List.getElem?_cons_zero, List.getElem?_cons_succ, List.set_cons_zero, List.set_cons_succ, List.length_cons, List.length_nil, List.map_cons, List.map_nil, reduceIte, Nat.reduceAdd, Nat.reduceSub, Nat.reduceBEq, Nat.reduceEqDiff, Nat.reduceLeDiff, Nat.reduceLT, true_and, and_true, Bool.false_eq_true, reduceCtorEq, if_true, if_false, hc_xx, hc_ofNat, hc_10, not_true_eq_false, not_false_eq_true, ge_iff_le, h0, hs, eS, e1]
        exact fin G1 o L i hP hm (by omega) (by omega) hcr
      · have e1 : ¬ nI S.length ≤ nI i := nI_ge (by omega) (by omega)
        have hlen := crx_len S E i i
        rw [hm33_34]
        simp only [hm33_35, hm33_36, hm33_39, hm33_42, hm33_45, hm33_46, hm33_47, hm33_50, hm33_51, hm33_54, hm33_57, hm33_60, hm33_63, hm33_64, hm33_67, hm33_70, hm33_71, hm33_72, hm33_75, hc_on_some, hc_get, hc_put, hc_ri, hc_rl, hc_is, hc_row, hc_wr, hc_mov, hc_smi, hc_sml, hc_fv, hc_ld, hc_kd, hc_sto, hc_pre, hc_two, hc_inc, hc_psh, hc_kp, hc_k1, hc_np, hc_bk_rf, hc_bk_gA, hc_set_ap, hc_set_set, Value.category, List.getElem?_cons_zero, List.getElem?_cons_succ, List.set_cons_zero, List.set_cons_succ, List.length_cons, List.length_nil, List.map_cons, List.map_nil, reduceIte, Nat.reduceAdd, Nat.reduceSub, Nat.reduceBEq, Nat.reduceEqDiff, Nat.reduceLeDiff, Nat.reduceLT, true_and, and_true, Bool.false_eq_true, reduceCtorEq, if_true, if_false, hc_xx, hc_ofNat, hc_10, not_true_eq_false, not_false_eq_true, ge_iff_le, h0, hs, eS, e1]
        refine sp_hxs (n1 o) (hc_set_at _ _ _) hP (by omega) (n2 o) hS (n3 o) hE hb hb2 hle (by omega) hS512 fun G2 o2 hP2 hcr2 => ?_
        dsimp only
        rw [hc_bk_np rfl rfl]
        rw [hc_set_set] at hcr2 ⊢
        have hq2 := hP2
        obtain ⟨c2, f2, rfl, -⟩ := hq2
        have hl2 : (L ++ kcl (crx S E i i)).length ≤ 18000 + 511 := by
          rw [List.length_append, List.length_map]
          omega
        have hm2 : ∀ v, v ∈ L ++ kcl (crx S E i i) ↔ v ∈ kcl (hotL S E P (i + 1)) := by
          intro v
          rw [hotL_succ, kcl, kcl, List.map_append, List.mem_append, List.mem_append, hm v]
        by_cases hc : (L ++ kcl (crx S E i i)).length ≤ 18000
        · have e2 : nI (L ++ kcl (crx S E i i)).length ≤ nI 18000 := by
            rw [← Int32.not_lt]
            exact nI_nlt (by omega) (by omega)
          simp only [hm33_35, hm33_36, hm33_39, hm33_42, hm33_45, hm33_46, hm33_47, hm33_50, hm33_51, hm33_54, hm33_57, hm33_60, hm33_63, hm33_64, hm33_67, hm33_70, hm33_71, hm33_72, hm33_75, hc_on_some, hc_get, hc_put, hc_ri, hc_rl, hc_is, hc_row, hc_wr, hc_mov, hc_smi, hc_sml, hc_fv, hc_ld, hc_kd, hc_sto, hc_pre, hc_two, hc_inc, hc_psh, hc_kp, hc_k1, hc_np, hc_bk_rf, hc_bk_gA, hc_set_ap, hc_set_set, Value.category, List.getElem?_cons_zero, List.getElem?_cons_succ, List.set_cons_zero, List.set_cons_succ, List.length_cons, List.length_nil, List.map_cons, List.map_nil, reduceIte, Nat.reduceAdd, Nat.reduceSub, Nat.reduceBEq, Nat.reduceEqDiff, Nat.reduceLeDiff, Nat.reduceLT, true_and, and_true, Bool.false_eq_true, reduceCtorEq, if_true, if_false, hc_xx, hc_ofNat, hc_10, not_true_eq_false, not_false_eq_true, ge_iff_le, h0, oKs, e18, e2, nI_1]
          exact ih (i + 1) G2 _ _ (by omega) (by omega) (by omega) hP2 hc hm2 (hcr.tr hcr2)
        · have e2 : ¬ nI (L ++ kcl (crx S E i i)).length ≤ nI 18000 := nI_ge (by omega) (by omega)
          simp only [hm33_35, hm33_36, hm33_39, hm33_42, hm33_45, hm33_46, hm33_47, hm33_50, hm33_51, hm33_54, hm33_57, hm33_60, hm33_63, hm33_64, hm33_67, hm33_70, hm33_71, hm33_72, hm33_75, hc_on_some, hc_get, hc_put, hc_ri, hc_rl, hc_is, hc_row, hc_wr, hc_mov, hc_smi, hc_sml, hc_fv, hc_ld, hc_kd, hc_sto, hc_pre, hc_two, hc_inc, hc_psh, hc_kp, hc_k1, hc_np, hc_bk_rf, hc_bk_gA, hc_set_ap, hc_set_set, Value.category, List.getElem?_cons_zero, List.getElem?_cons_succ, List.set_cons_zero, List.set_cons_succ, List.length_cons, List.length_nil, List.map_cons, List.map_nil, reduceIte, Nat.reduceAdd, Nat.reduceSub, Nat.reduceBEq, Nat.reduceEqDiff, Nat.reduceLeDiff, Nat.reduceLT, true_and, and_true, Bool.false_eq_true, reduceCtorEq, if_true, if_false, hc_xx, hc_ofNat, hc_10, not_true_eq_false, not_false_eq_true, ge_iff_le, h0, oKs, e18, e2]
          refine sp_settle (n1 _) (hc_set_at _ _ _) hP2 fun o3 l3 hP3 hs3 hm3 hcr3 => ?_
          dsimp only
          rw [hc_set_set] at hcr3 ⊢
          have hcr4 := (hcr.tr hcr2).tr hcr3
          by_cases hl3 : l3.length ≤ 6000
          · rw [if_pos hl3]
            simp only [hm33_67, hm33_70, hm33_71, hm33_72, hm33_75, hc_on_some, hc_get, hc_put, hc_ri, hc_rl, hc_is, hc_row, hc_wr, hc_mov, hc_smi, hc_sml, hc_fv, hc_ld, hc_kd, hc_sto, hc_pre, hc_two, hc_inc, hc_psh, hc_kp, hc_k1, hc_np, hc_bk_rf, hc_bk_gA, hc_set_ap, hc_set_set, Value.category, List.getElem?_cons_zero, List.getElem?_cons_succ, List.set_cons_zero, List.set_cons_succ, List.length_cons, List.length_nil, List.map_cons, List.map_nil, reduceIte, Nat.reduceAdd, Nat.reduceSub, Nat.reduceBEq, Nat.reduceEqDiff, Nat.reduceLeDiff, Nat.reduceLT, true_and, and_true, Bool.false_eq_true, reduceCtorEq, if_true, if_false, hc_xx, hc_ofNat, hc_10, not_true_eq_false, not_false_eq_true, ge_iff_le, nI_1, hc_bk_rf]
            exact ih (i + 1) G2 _ _ (by omega) (by omega) (by omega) hP3 (by omega) (fun v => (hm3 v).trans (hm2 v)) hcr4
          · rw [if_neg hl3]
            simp only [hm33_67, hm33_70, hm33_71, hm33_72, hm33_75, hc_on_some, hc_get, hc_put, hc_ri, hc_rl, hc_is, hc_row, hc_wr, hc_mov, hc_smi, hc_sml, hc_fv, hc_ld, hc_kd, hc_sto, hc_pre, hc_two, hc_inc, hc_psh, hc_kp, hc_k1, hc_np, hc_bk_rf, hc_bk_gA, hc_set_ap, hc_set_set, Value.category, List.getElem?_cons_zero, List.getElem?_cons_succ, List.set_cons_zero, List.set_cons_succ, List.length_cons, List.length_nil, List.map_cons, List.map_nil, reduceIte, Nat.reduceAdd, Nat.reduceSub, Nat.reduceBEq, Nat.reduceEqDiff, Nat.reduceLeDiff, Nat.reduceLT, true_and, and_true, Bool.false_eq_true, reduceCtorEq, if_true, if_false, hc_xx, hc_ofNat, hc_10, not_true_eq_false, not_false_eq_true, ge_iff_le, true_or, or_true]
            exact K G2 o3 l3 false hP3 hs3 (fun v hv => kcl_mem_le (show i + 1 ≤ S.length by omega) ((hm2 v).mp ((hm3 v).mp hv))) (fun e => by cases e) (fun _ => by omega) hcr4
  have hq0 := hP0
  obtain ⟨c0, f0, rfl, k1, k2, k3, k4⟩ := hq0
  have hcl : KSo (oKs 0 c0 f0) [] := ⟨c0, f0, rfl, Nat.zero_le _, k2, k3, fun i v hv => by cases hv⟩
  simp only [hm33_0, hm33_1, hm33_4, hm33_5, hm33_8, hm33_9, hm33_10, hm33_13, hm33_16, hm33_17, hm33_18, hm33_21, hm33_24, hm33_25, hm33_26, hm33_29, hm33_32, hm33_33, hc_on_some, hc_get, hc_put, hc_ri, hc_rl, hc_is, hc_row, hc_wr, hc_mov, hc_smi, hc_sml, hc_fv, hc_ld, hc_kd, hc_sto, hc_pre, hc_two, hc_inc, hc_psh, hc_kp, hc_k1, hc_np, hc_bk_rf, hc_bk_gA, hc_set_ap, hc_set_set, Value.category, List.getElem?_cons_zero, List.getElem?_cons_succ, List.set_cons_zero, List.set_cons_succ, List.length_cons, List.length_nil, List.map_cons, List.map_nil, reduceIte, Nat.reduceAdd, Nat.reduceSub, Nat.reduceBEq, Nat.reduceEqDiff, Nat.reduceLeDiff, Nat.reduceLT, true_and, and_true, Bool.false_eq_true, reduceCtorEq, if_true, if_false, hc_xx, hc_ofNat, hc_10, not_true_eq_false, not_false_eq_true, ge_iff_le, h0, h, hs, he, hp, oKs]
  refine sp_heatAll (by decide) (n1 _) (n2 _) hS (hc_set_at _ _ _) hcl (by show 0 + S.length < 20000; omega) fun G1 o1 hP1 hcr1 => ?_
  dsimp only
  rw [hc_bk_np rfl rfl]
  rw [hc_set_set] at hcr1 ⊢
  simp only [hm33_0, hm33_1, hm33_4, hm33_5, hm33_8, hm33_9, hm33_10, hm33_13, hm33_16, hm33_17, hm33_18, hm33_21, hm33_24, hm33_25, hm33_26, hm33_29, hm33_32, hm33_33, hc_on_some, hc_get, hc_put, hc_ri, hc_rl, hc_is, hc_row, hc_wr, hc_mov, hc_smi, hc_sml, hc_fv, hc_ld, hc_kd, hc_sto, hc_pre, hc_two, hc_inc, hc_psh, hc_kp, hc_k1, hc_np, hc_bk_rf, hc_bk_gA, hc_set_ap, hc_set_set, Value.category, List.getElem?_cons_zero, List.getElem?_cons_succ, List.set_cons_zero, List.set_cons_succ, List.length_cons, List.length_nil, List.map_cons, List.map_nil, reduceIte, Nat.reduceAdd, Nat.reduceSub, Nat.reduceBEq, Nat.reduceEqDiff, Nat.reduceLeDiff, Nat.reduceLT, true_and, and_true, Bool.false_eq_true, reduceCtorEq, if_true, if_false, hc_xx, hc_ofNat, hc_10, not_true_eq_false, not_false_eq_true, ge_iff_le, h0, h, hs, he, hp]
  refine sp_heatAll (by decide) (n1 _) (n3 _) hE (hc_set_at _ _ _) hP1 (by rw [List.length_append, List.length_map]; show 0 + S.length + E.length < 20000; omega) fun G2 o2 hP2 hcr2 => ?_
  dsimp only
  rw [hc_bk_np rfl rfl]
  rw [hc_set_set] at hcr2 ⊢
  simp only [hm33_0, hm33_1, hm33_4, hm33_5, hm33_8, hm33_9, hm33_10, hm33_13, hm33_16, hm33_17, hm33_18, hm33_21, hm33_24, hm33_25, hm33_26, hm33_29, hm33_32, hm33_33, hc_on_some, hc_get, hc_put, hc_ri, hc_rl, hc_is, hc_row, hc_wr, hc_mov, hc_smi, hc_sml, hc_fv, hc_ld, hc_kd, hc_sto, hc_pre, hc_two, hc_inc, hc_psh, hc_kp, hc_k1, hc_np, hc_bk_rf, hc_bk_gA, hc_set_ap, hc_set_set, Value.category, List.getElem?_cons_zero, List.getElem?_cons_succ, List.set_cons_zero, List.set_cons_succ, List.length_cons, List.length_nil, List.map_cons, List.map_nil, reduceIte, Nat.reduceAdd, Nat.reduceSub, Nat.reduceBEq, Nat.reduceEqDiff, Nat.reduceLeDiff, Nat.reduceLT, true_and, and_true, Bool.false_eq_true, reduceCtorEq, if_true, if_false, hc_xx, hc_ofNat, hc_10, not_true_eq_false, not_false_eq_true, ge_iff_le, h0, h, hs, he, hp]
  refine sp_heatAll (by decide) (n1 _) (n4 _) hPP (hc_set_at _ _ _) hP2 (by rw [List.length_append, List.length_append, List.length_map, List.length_map]; show 0 + S.length + E.length + P.length < 20000; omega) fun G3 o3 hP3 hcr3 => ?_
  dsimp only
  rw [hc_bk_np rfl rfl]
  rw [hc_set_set] at hcr3 ⊢
  simp only [hm33_0, hm33_1, hm33_4, hm33_5, hm33_8, hm33_9, hm33_10, hm33_13, hm33_16, hm33_17, hm33_18, hm33_21, hm33_24, hm33_25, hm33_26, hm33_29, hm33_32, hm33_33, hc_on_some, hc_get, hc_put, hc_ri, hc_rl, hc_is, hc_row, hc_wr, hc_mov, hc_smi, hc_sml, hc_fv, hc_ld, hc_kd, hc_sto, hc_pre, hc_two, hc_inc, hc_psh, hc_kp, hc_k1, hc_np, hc_bk_rf, hc_bk_gA, hc_set_ap, hc_set_set, Value.category, List.getElem?_cons_zero, List.getElem?_cons_succ, List.set_cons_zero, List.set_cons_succ, List.length_cons, List.length_nil, List.map_cons, List.map_nil, reduceIte, Nat.reduceAdd, Nat.reduceSub, Nat.reduceBEq, Nat.reduceEqDiff, Nat.reduceLeDiff, Nat.reduceLT, true_and, and_true, Bool.false_eq_true, reduceCtorEq, if_true, if_false, hc_xx, hc_ofNat, hc_10, not_true_eq_false, not_false_eq_true, ge_iff_le, h0, h, hs, he, hp]
  have c0 : hc_cr G σ G (hc_set σ 10 (oKs 0 c0 f0)) := hc_cr.same (by decide) h rfl
  refine loop S.length 1 G3 o3 _ (by omega) (by omega) (by omega) hP3 ?_ ?_ (((c0.tr hcr1).tr hcr2).tr hcr3)
  · simp only [List.length_append, List.length_map, List.length_nil]
    omega
  · intro v
    have e : hotL S E P 1 = S ++ E ++ P := by
      simp [hotL, crx]
    rw [e, kcl, kcl, kcl, kcl, List.map_append, List.map_append, List.nil_append]
end S28
