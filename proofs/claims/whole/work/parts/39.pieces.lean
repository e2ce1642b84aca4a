/-! takePieces -/
abbrev oLz (kh wc wl : Nat) (rf rr : hc_R) (pc : Nat) (r1 r2 r3 : hc_R) : hc_O := oLy kh wc wl rf rr [.inl (.int (nI pc)), .inr r1, .inr r2, .inr r3]
def CP (f1 f2 f3 : Nat → Int32) (Ps : List (Int × Nat)) : Prop := ∀ j (hj : j < Ps.length), (f1 j).toInt = Ps[j].1 / 6000 ∧ (f2 j).toInt = Ps[j].1 % 6000 ∧ f3 j = nI Ps[j].2
theorem CP.add {f1 f2 f3 : Nat → Int32} {Ps : List (Int × Nat)} (h : CP f1 f2 f3 Ps) {a b : Int32} {r : Int} {c : Nat} (ha : a.toInt = r / 6000) (hb : b.toInt = r % 6000) : CP (upd f1 Ps.length a) (upd f2 Ps.length b) (upd f3 Ps.length (nI c)) (Ps ++ [(r, c)]) := by
  intro j hj
  by_cases e : j = Ps.length
  · subst e
    simp only [upd, if_true]
    rw [List.getElem_append_right (Nat.le_refl _)]
    simp only [Nat.sub_self, List.getElem_cons_zero]
    exact ⟨ha, hb, trivial⟩
  · simp only [upd, if_neg e]
    have hj2 : j < Ps.length := by
      rw [List.length_append] at hj
      simp only [List.length_cons, List.length_nil] at hj
      omega
    rw [List.getElem_append_left hj2]
    exact h j hj2
section S39
variable {G : hc_G} {σ : hc_H} {t : hc_T} {Q : hc_Q}
theorem pc64 {v : Int64} (h : 0 ≤ v.toInt ∧ v.toInt < 36000000) : (v / 6000).toInt32.toInt = v.toInt / 6000 ∧ (v - v / 6000 * 6000).toInt32.toInt = v.toInt % 6000 := by
  have l1 : (6000 : Int64).toInt = 6000 := rfl
  have a1 : (v / 6000).toInt = v.toInt / 6000 := by rw [i64_div h.1 (by rw [l1]; omega), l1]
  have a3 : (v / 6000 * 6000).toInt = v.toInt / 6000 * 6000 := by rw [i64_mul (by rw [a1, l1]; omega) (by rw [a1, l1]; omega), a1, l1]
  have a4 : (v - v / 6000 * 6000).toInt = v.toInt % 6000 := by
    rw [i64_sub (by rw [a3]; omega) (by rw [a3]; omega), a3]
    omega
  exact ⟨by rw [i32_of64 (by rw [a1]; omega) (by rw [a1]; omega), a1], by rw [i32_of64 (by rw [a4]; omega) (by rw [a4]; omega), a4]⟩
theorem sp_pg1 {k kh wc wl pc many c1 c2 c3 : Nat} {rf rr : hc_R} {f1 f2 f3 : Nat → Int32} (h : σ k = some (oLz kh wc wl rf rr pc (c1, .inl f1) (c2, .inl f2) (c3, .inl f3))) (hk : k < 60) (hm : many ≤ 9000) (h1 : 16 ≤ c1) (h2 : c1 ≤ 18000)
    (K : ∀ G' c' f', many ≤ c' → 16 ≤ c' → c' ≤ 18000 → hc_cr G σ G' (hc_set σ k (oLz kh wc wl rf rr pc (c', .inl f') (c2, .inl f2) (c3, .inl f3))) → hc_wp G' (hc_set σ k (oLz kh wc wl rf rr pc (c', .inl f') (c2, .inl f2) (c3, .inl f3))) none 14 26 [some (.inl (.ref k)), some (.inl (.ref 10)), some (.inl (.int (nI many))), none, none] [] Q) :
    hc_wp G σ none 14 14 [some (.inl (.ref k)), some (.inl (.ref 10)), some (.inl (.int (nI many))), none, none] [] Q := by
  have z1 : inF σ k 6 (c1, .inl f1) := ⟨_, _, h, by decide, rfl⟩
  by_cases hg : many ≤ c1
  · have M := K G c1 f1 hg h1 h2 (hc_cr.same hk h rfl)
    rw [hc_set_id' h] at M
    simp only [hm14_14, hm14_15, hm14_16, hm14_19, hm14_20, hm14_23t, hm14_23s, hc_on_some, hc_get, hc_put, hc_ri, hc_rl, hc_is, hc_row, hc_wr, hc_mov, hc_smi, hc_sml, hc_fv, hc_ld, hc_kd, hc_sto, hc_pre, hc_two, hc_inc, hc_psh, hc_kp, hc_k1, hc_np, hc_bk_rf, hc_bk_gA, hc_set_ap, hc_set_set, Value.category, List.getElem?_cons_zero, List.getElem?_cons_succ, List.set_cons_zero, List.set_cons_succ, List.length_cons, List.length_nil, List.map_cons, List.map_nil, reduceIte, Nat.reduceAdd, Nat.reduceSub, Nat.reduceBEq, Nat.reduceEqDiff, Nat.reduceLeDiff, Nat.reduceLT, true_and, and_true, Bool.false_eq_true, reduceCtorEq, if_true, if_false, hc_xx, hc_ofNat, hc_10, not_true_eq_false, not_false_eq_true, ge_iff_le, h, sp_wr0 (G := G) z1 hg (by omega)]
    exact M
  · have M := K (hc_gM (hc_gA G (max many (2 * c1))) k 6) (max many (2 * c1)) (va_cpy f1 (fun _ => 0) 0 0 c1) (by omega) (by omega) (by omega) (hc_cr.set hk h (by
      show G.2.2.1 + max many (2 * c1) + 12 * (G.2.1 + 1) + _ ≤ _
      simp only [hc_po, hc_pf, List.map_cons, List.map_nil, List.sum_cons, List.sum_nil, Nat.reduceEqDiff, if_false]
      omega))
    simp only [hm14_14, hm14_15, hm14_16, hm14_19, hm14_20, hm14_23t, hm14_23s, hc_on_some, hc_get, hc_put, hc_ri, hc_rl, hc_is, hc_row, hc_wr, hc_mov, hc_smi, hc_sml, hc_fv, hc_ld, hc_kd, hc_sto, hc_pre, hc_two, hc_inc, hc_psh, hc_kp, hc_k1, hc_np, hc_bk_rf, hc_bk_gA, hc_set_ap, hc_set_set, Value.category, List.getElem?_cons_zero, List.getElem?_cons_succ, List.set_cons_zero, List.set_cons_succ, List.length_cons, List.length_nil, List.map_cons, List.map_nil, reduceIte, Nat.reduceAdd, Nat.reduceSub, Nat.reduceBEq, Nat.reduceEqDiff, Nat.reduceLeDiff, Nat.reduceLT, true_and, and_true, Bool.false_eq_true, reduceCtorEq, if_true, if_false, hc_xx, hc_ofNat, hc_10, not_true_eq_false, not_false_eq_true, ge_iff_le, h, sp_wr1 (G := G) (m := many) z1 (by omega) (by omega)]
    exact M
theorem sp_pg2 {k kh wc wl pc many c1 c2 c3 : Nat} {rf rr : hc_R} {f1 f2 f3 : Nat → Int32} (h : σ k = some (oLz kh wc wl rf rr pc (c1, .inl f1) (c2, .inl f2) (c3, .inl f3))) (hk : k < 60) (hm : many ≤ 9000) (h1 : 16 ≤ c2) (h2 : c2 ≤ 18000)
    (K : ∀ G' c' f', many ≤ c' → 16 ≤ c' → c' ≤ 18000 → hc_cr G σ G' (hc_set σ k (oLz kh wc wl rf rr pc (c1, .inl f1) (c', .inl f') (c3, .inl f3))) → hc_wp G' (hc_set σ k (oLz kh wc wl rf rr pc (c1, .inl f1) (c', .inl f') (c3, .inl f3))) none 14 38 [some (.inl (.ref k)), some (.inl (.ref 10)), some (.inl (.int (nI many))), none, none] [] Q) :
    hc_wp G σ none 14 26 [some (.inl (.ref k)), some (.inl (.ref 10)), some (.inl (.int (nI many))), none, none] [] Q := by
  have z1 : inF σ k 7 (c2, .inl f2) := ⟨_, _, h, by decide, rfl⟩
  by_cases hg : many ≤ c2
  · have M := K G c2 f2 hg h1 h2 (hc_cr.same hk h rfl)
    rw [hc_set_id' h] at M
    simp only [hm14_26, hm14_27, hm14_28, hm14_31, hm14_32, hm14_35t, hm14_35s, hc_on_some, hc_get, hc_put, hc_ri, hc_rl, hc_is, hc_row, hc_wr, hc_mov, hc_smi, hc_sml, hc_fv, hc_ld, hc_kd, hc_sto, hc_pre, hc_two, hc_inc, hc_psh, hc_kp, hc_k1, hc_np, hc_bk_rf, hc_bk_gA, hc_set_ap, hc_set_set, Value.category, List.getElem?_cons_zero, List.getElem?_cons_succ, List.set_cons_zero, List.set_cons_succ, List.length_cons, List.length_nil, List.map_cons, List.map_nil, reduceIte, Nat.reduceAdd, Nat.reduceSub, Nat.reduceBEq, Nat.reduceEqDiff, Nat.reduceLeDiff, Nat.reduceLT, true_and, and_true, Bool.false_eq_true, reduceCtorEq, if_true, if_false, hc_xx, hc_ofNat, hc_10, not_true_eq_false, not_false_eq_true, ge_iff_le, h, sp_wr0 (G := G) z1 hg (by omega)]
    exact M
  · have M := K (hc_gM (hc_gA G (max many (2 * c2))) k 7) (max many (2 * c2)) (va_cpy f2 (fun _ => 0) 0 0 c2) (by omega) (by omega) (by omega) (hc_cr.set hk h (by
      show G.2.2.1 + max many (2 * c2) + 12 * (G.2.1 + 1) + _ ≤ _
      simp only [hc_po, hc_pf, List.map_cons, List.map_nil, List.sum_cons, List.sum_nil, Nat.reduceEqDiff, if_false]
      omega))
    simp only [hm14_26, hm14_27, hm14_28, hm14_31, hm14_32, hm14_35t, hm14_35s, hc_on_some, hc_get, hc_put, hc_ri, hc_rl, hc_is, hc_row, hc_wr, hc_mov, hc_smi, hc_sml, hc_fv, hc_ld, hc_kd, hc_sto, hc_pre, hc_two, hc_inc, hc_psh, hc_kp, hc_k1, hc_np, hc_bk_rf, hc_bk_gA, hc_set_ap, hc_set_set, Value.category, List.getElem?_cons_zero, List.getElem?_cons_succ, List.set_cons_zero, List.set_cons_succ, List.length_cons, List.length_nil, List.map_cons, List.map_nil, reduceIte, Nat.reduceAdd, Nat.reduceSub, Nat.reduceBEq, Nat.reduceEqDiff, Nat.reduceLeDiff, Nat.reduceLT, true_and, and_true, Bool.false_eq_true, reduceCtorEq, if_true, if_false, hc_xx, hc_ofNat, hc_10, not_true_eq_false, not_false_eq_true, ge_iff_le, h, sp_wr1 (G := G) (m := many) z1 (by omega) (by omega)]
    exact M
theorem sp_pg3 {k kh wc wl pc many c1 c2 c3 : Nat} {rf rr : hc_R} {f1 f2 f3 : Nat → Int32} (h : σ k = some (oLz kh wc wl rf rr pc (c1, .inl f1) (c2, .inl f2) (c3, .inl f3))) (hk : k < 60) (hm : many ≤ 9000) (h1 : 16 ≤ c3) (h2 : c3 ≤ 18000)
    (K : ∀ G' c' f', many ≤ c' → 16 ≤ c' → c' ≤ 18000 → hc_cr G σ G' (hc_set σ k (oLz kh wc wl rf rr pc (c1, .inl f1) (c2, .inl f2) (c', .inl f'))) → hc_wp G' (hc_set σ k (oLz kh wc wl rf rr pc (c1, .inl f1) (c2, .inl f2) (c', .inl f'))) none 14 50 [some (.inl (.ref k)), some (.inl (.ref 10)), some (.inl (.int (nI many))), none, none] [] Q) :
    hc_wp G σ none 14 38 [some (.inl (.ref k)), some (.inl (.ref 10)), some (.inl (.int (nI many))), none, none] [] Q := by
  have z1 : inF σ k 8 (c3, .inl f3) := ⟨_, _, h, by decide, rfl⟩
  by_cases hg : many ≤ c3
  · have M := K G c3 f3 hg h1 h2 (hc_cr.same hk h rfl)
    rw [hc_set_id' h] at M
    simp only [hm14_38, hm14_39, hm14_40, hm14_43, hm14_44, hm14_47t, hm14_47s, hc_on_some, hc_get, hc_put, hc_ri, hc_rl, hc_is, hc_row, hc_wr, hc_mov, hc_smi, hc_sml, hc_fv, hc_ld, hc_kd, hc_sto, hc_pre, hc_two, hc_inc, hc_psh, hc_kp, hc_k1, hc_np, hc_bk_rf, hc_bk_gA, hc_set_ap, hc_set_set, Value.category, List.getElem?_cons_zero, List.getElem?_cons_succ, List.set_cons_zero, List.set_cons_succ, List.length_cons, List.length_nil, List.map_cons, List.map_nil, reduceIte, Nat.reduceAdd, Nat.reduceSub, Nat.reduceBEq, Nat.reduceEqDiff, Nat.reduceLeDiff, Nat.reduceLT, true_and, and_true, Bool.false_eq_true, reduceCtorEq, if_true, if_false, hc_xx, hc_ofNat, hc_10, not_true_eq_false, not_false_eq_true, ge_iff_le, h, sp_wr0 (G := G) z1 hg (by omega)]
    exact M
  · have M := K (hc_gM (hc_gA G (max many (2 * c3))) k 8) (max many (2 * c3)) (va_cpy f3 (fun _ => 0) 0 0 c3) (by omega) (by omega) (by omega) (hc_cr.set hk h (by
      show G.2.2.1 + max many (2 * c3) + 12 * (G.2.1 + 1) + _ ≤ _
      simp only [hc_po, hc_pf, List.map_cons, List.map_nil, List.sum_cons, List.sum_nil, Nat.reduceEqDiff, if_false]
      omega))
    simp only [hm14_38, hm14_39, hm14_40, hm14_43, hm14_44, hm14_47t, hm14_47s, hc_on_some, hc_get, hc_put, hc_ri, hc_rl, hc_is, hc_row, hc_wr, hc_mov, hc_smi, hc_sml, hc_fv, hc_ld, hc_kd, hc_sto, hc_pre, hc_two, hc_inc, hc_psh, hc_kp, hc_k1, hc_np, hc_bk_rf, hc_bk_gA, hc_set_ap, hc_set_set, Value.category, List.getElem?_cons_zero, List.getElem?_cons_succ, List.set_cons_zero, List.set_cons_succ, List.length_cons, List.length_nil, List.map_cons, List.map_nil, reduceIte, Nat.reduceAdd, Nat.reduceSub, Nat.reduceBEq, Nat.reduceEqDiff, Nat.reduceLeDiff, Nat.reduceLT, true_and, and_true, Bool.false_eq_true, reduceCtorEq, if_true, if_false, hc_xx, hc_ofNat, hc_10, not_true_eq_false, not_false_eq_true, ge_iff_le, h, sp_wr1 (G := G) (m := many) z1 (by omega) (by omega)]
    exact M
/-- one run is closed -/
theorem sp_close {k kh wc wl n c1 c2 c3 ck fr i c : Nat} {g0 : Int32} {rf rr : hc_R} {f1 f2 f3 : Nat → Int32} {fk : Nat → Int64} {nk : Nat} (q1 : k ≠ 10) (h : σ k = some (oLz kh wc wl rf rr n (c1, .inl f1) (c2, .inl f2) (c3, .inl f3))) (h10 : σ 10 = some (oKs nk ck fk)) (b1 : n < c1) (b2 : n < c2) (b3 : n < c3) (m1 : c1 ≤ 18000) (m2 : c2 ≤ 18000) (m3 : c3 ≤ 18000) (hfr : fr < ck) (hck : ck ≤ 20000) (hi : i = fr + c)
    (K : hc_wp G (hc_set σ k (oLz kh wc wl rf rr (n + 1) (c1, .inl (upd f1 n (fk fr / 6000).toInt32)) (c2, .inl (upd f2 n (fk fr - fk fr / 6000 * 6000).toInt32)) (c3, .inl (upd f3 n (nI c))))) none 14 161 [some (.inl (.ref k)), some (.inl (.ref 10)), some (.inl (.int g0)), some (.inl (.int (nI i))), some (.inl (.int (nI i)))] [] Q) :
    hc_wp G σ none 14 95 [some (.inl (.ref k)), some (.inl (.ref 10)), some (.inl (.int g0)), some (.inl (.int (nI fr))), some (.inl (.int (nI i)))] [] Q := by
  subst hi
  have q1' : ¬ 10 = k := Ne.symm q1
  have i1 : hc_inn (nI n) c1 := inn_nI (by omega) (by omega)
  have i2 : hc_inn (nI n) c2 := inn_nI (by omega) (by omega)
  have i3 : hc_inn (nI n) c3 := inn_nI (by omega) (by omega)
  have i4 : hc_inn (nI fr) ck := inn_nI (by omega) (by omega)
  have d1 : (nI n).toNatClampNeg = n := nI_clamp (by omega)
  have d2 : (nI fr).toNatClampNeg = fr := nI_clamp (by omega)
  have z6 : ¬ (6000 : Int64) = 0 := by decide
  have es : nI (fr + c) - nI fr = nI c := by
    rw [pk_sub (by omega)]
    congr 1
    omega
  simp only [hm14_95, hm14_96, hm14_99, hm14_100, hm14_103, hm14_104, hm14_107, hm14_108, hm14_109, hm14_112, hm14_113, hm14_114, hm14_115, hm14_116, hm14_119, hm14_120, hm14_123, hm14_124, hm14_127, hm14_128, hm14_129, hm14_132, hm14_133, hm14_134, hm14_135, hm14_136, hm14_139, hm14_140, hm14_143, hm14_145, hm14_146, hm14_147, hm14_148, hm14_149, hm14_150, hm14_153, hm14_154, hm14_155, hm14_158, hm14_160, hc_on_some, hc_get, hc_put, hc_ri, hc_rl, hc_is, hc_row, hc_wr, hc_mov, hc_smi, hc_sml, hc_fv, hc_ld, hc_kd, hc_sto, hc_pre, hc_two, hc_inc, hc_psh, hc_kp, hc_k1, hc_np, hc_bk_rf, hc_bk_gA, hc_set_ap, hc_set_set, Value.category, List.getElem?_cons_zero, List.getElem?_cons_succ, List.set_cons_zero, List.set_cons_succ, List.length_cons, List.length_nil, List.map_cons, List.map_nil, reduceIte, Nat.reduceAdd, Nat.reduceSub, Nat.reduceBEq, Nat.reduceEqDiff, Nat.reduceLeDiff, Nat.reduceLT, true_and, and_true, Bool.false_eq_true, reduceCtorEq, if_true, if_false, hc_xx, hc_ofNat, hc_10, not_true_eq_false, not_false_eq_true, ge_iff_le, q1', h, h10, oKs, i1, i2, i3, i4, d1, d2, z6, es, nI_1]
  exact K
theorem sp_pieces_loop {k kh wc wl many c1 c2 c3 : Nat} {rf rr : hc_R} {fk : Nat → Int64} {ck : Nat} {L : List Int} {o0 : hc_O} (q1 : k ≠ 10) (hk : k < 60) (h : σ k = some o0) (hpo : ∀ n f1 f2 f3, hc_po (some o0) = hc_po (some (oLz kh wc wl rf rr n (c1, .inl f1) (c2, .inl f2) (c3, .inl f3)))) (h10 : σ 10 = some (oKs L.length ck fk)) (hL : L.length ≤ ck) (hck : ck ≤ 20000) (hJ : CJ fk L) (hb : ∀ v ∈ L, 0 ≤ v ∧ v < 36000000) (hm : (rle L).length = many) (n1 : many ≤ c1) (n2 : many ≤ c2) (n3 : many ≤ c3) (m1 : c1 ≤ 18000) (m2 : c2 ≤ 18000) (m3 : c3 ≤ 18000)
    (K : ∀ f1 f2 f3, CP f1 f2 f3 (rle L) → hc_cr G σ G (hc_set σ k (oLz kh wc wl rf rr many (c1, .inl f1) (c2, .inl f2) (c3, .inl f3))) → Q G (hc_set σ k (oLz kh wc wl rf rr many (c1, .inl f1) (c2, .inl f2) (c3, .inl f3))) none (some (.inl (.int 1)))) :
    ∀ (T D : List Int) (r : Int) (c : Nat) (Ps : List (Int × Nat)) (f1 f2 f3 : Nat → Int32), L.length = D.length + (c + 1) + T.length → L[D.length]? = some r → (∀ j, L[D.length + (c + 1) + j]? = T[j]?) → Ps ++ rlc r (c + 1) T = rle L → CP f1 f2 f3 Ps →
    hc_wp G (hc_set σ k (oLz kh wc wl rf rr Ps.length (c1, .inl f1) (c2, .inl f2) (c3, .inl f3))) none 14 60 [some (.inl (.ref k)), some (.inl (.ref 10)), some (.inl (.int (nI many))), some (.inl (.int (nI D.length))), some (.inl (.int (nI (D.length + (c + 1)))))] [] Q := by
  have q1' : ¬ 10 = k := Ne.symm q1
  have n10 : ∀ o, hc_set σ k o 10 = some (oKs L.length ck fk) := fun o => by rw [hc_set_ne σ o q1']; exact h10
  intro T
  induction T with
  | nil =>
    intro D r c Ps f1 f2 f3 hl hr hT hPs hCP
    have hl2 : L.length = D.length + (c + 1) := hl
    have hn : Ps.length + 1 = many := by
      rw [← hm, ← hPs, List.length_append]
      rfl
    have v1 : (fk D.length).toInt = r := hJ _ _ hr
    have hbr := hb r (List.mem_of_getElem? hr)
    have pv := pc64 (v := fk D.length) (by rw [v1]; exact hbr)
    rw [v1] at pv
    have e1 : ¬ nI L.length < nI (D.length + (c + 1)) := by
      rw [← hl2]
      exact nI_nlt (Nat.le_refl _) (by omega)
    have e2 : nI (D.length + (c + 1)) = nI L.length := by rw [hl2]
    rw [hm14_60]
    simp only [hm14_62, hm14_63, hm14_66, hm14_69, hm14_71, hm14_72, hm14_75, hm14_78, hm14_79, hm14_82, hm14_84, hm14_85, hm14_86, hm14_89, hm14_90, hm14_91, hm14_92, hc_on_some, hc_get, hc_put, hc_ri, hc_rl, hc_is, hc_row, hc_wr, hc_mov, hc_smi, hc_sml, hc_fv, hc_ld, hc_kd, hc_sto, hc_pre, hc_two, hc_inc, hc_psh, hc_kp, hc_k1, hc_np, hc_bk_rf, hc_bk_gA, hc_set_ap, hc_set_set, Value.category, List.getElem?_cons_zero, List.getElem?_cons_succ, List.set_cons_zero, List.set_cons_succ, List.length_cons, List.length_nil, List.map_cons, List.map_nil, reduceIte, Nat.reduceAdd, Nat.reduceSub, Nat.reduceBEq, Nat.reduceEqDiff, Nat.reduceLeDiff, Nat.reduceLT, true_and, and_true, Bool.false_eq_true, reduceCtorEq, if_true, if_false, hc_xx, hc_ofNat, hc_10, not_true_eq_false, not_false_eq_true, ge_iff_le, q1', h10, oKs, e1, e2, Int32.lt_irrefl]
    rw [← e2]
    refine sp_close (c := c + 1) q1 (hc_set_at _ _ _) (n10 _) (by omega) (by omega) (by omega) m1 m2 m3 (by omega) hck rfl ?_
    rw [hc_set_set]
    have e3 : nI L.length < nI (D.length + (c + 1) + 1) := nI_lt (by omega) (by omega)
    have C2 := hCP.add (r := r) (c := c + 1) pv.1 pv.2
    have hPs2 : Ps ++ [(r, c + 1)] = rle L := hPs
    rw [hPs2] at C2
    have K2 := K _ _ _ C2 (hc_cr.same hk h (hpo _ _ _ _))
    rw [← hn] at K2
    simp only [hm14_161, hm14_164, hc_on_some, hc_get, hc_put, hc_ri, hc_rl, hc_is, hc_row, hc_wr, hc_mov, hc_smi, hc_sml, hc_fv, hc_ld, hc_kd, hc_sto, hc_pre, hc_two, hc_inc, hc_psh, hc_kp, hc_k1, hc_np, hc_bk_rf, hc_bk_gA, hc_set_ap, hc_set_set, Value.category, List.getElem?_cons_zero, List.getElem?_cons_succ, List.set_cons_zero, List.set_cons_succ, List.length_cons, List.length_nil, List.map_cons, List.map_nil, reduceIte, Nat.reduceAdd, Nat.reduceSub, Nat.reduceBEq, Nat.reduceEqDiff, Nat.reduceLeDiff, Nat.reduceLT, true_and, and_true, Bool.false_eq_true, reduceCtorEq, if_true, if_false, hc_xx, hc_ofNat, hc_10, not_true_eq_false, not_false_eq_true, ge_iff_le, nI_1]
    rw [hm14_60]
    simp only [hm14_62, hm14_63, hm14_66, hm14_69, hm14_71, hm14_72, hm14_75, hm14_78, hm14_79, hm14_82, hm14_84, hm14_85, hm14_86, hm14_89, hm14_90, hm14_91, hm14_92, hm14_95, hm14_96, hm14_99, hm14_100, hm14_103, hm14_104, hm14_107, hm14_108, hm14_109, hm14_112, hm14_113, hm14_114, hm14_115, hm14_116, hm14_119, hm14_120, hm14_123, hm14_124, hm14_127, hm14_128, hm14_129, hm14_132, hm14_133, hm14_134, hm14_135, hm14_136, hm14_139, hm14_140, hm14_143, hm14_145, hm14_146, hm14_147, hm14_148, hm14_149, hm14_150, hm14_153, hm14_154, hm14_155, hm14_158, hm14_160, hm14_161, hm14_164, hm14_167, hm14_168, hc_on_some, hc_get, hc_put, hc_ri, hc_rl, hc_is, hc_row, hc_wr, hc_mov, hc_smi, hc_sml, hc_fv, hc_ld, hc_kd, hc_sto, hc_pre, hc_two, hc_inc, hc_psh, hc_kp, hc_k1, hc_np, hc_bk_rf, hc_bk_gA, hc_set_ap, hc_set_set, Value.category, List.getElem?_cons_zero, List.getElem?_cons_succ, List.set_cons_zero, List.set_cons_succ, List.length_cons, List.length_nil, List.map_cons, List.map_nil, reduceIte, Nat.reduceAdd, Nat.reduceSub, Nat.reduceBEq, Nat.reduceEqDiff, Nat.reduceLeDiff, Nat.reduceLT, true_and, and_true, Bool.false_eq_true, reduceCtorEq, if_true, if_false, hc_xx, hc_ofNat, hc_10, not_true_eq_false, not_false_eq_true, ge_iff_le, q1', h10, oKs, e3, true_or, or_true]
    exact K2
  | cons q T ih =>
    intro D r c Ps f1 f2 f3 hl hr hT hPs hCP
    have hl2 : L.length = D.length + (c + 1) + (T.length + 1) := hl
    have v1 : (fk D.length).toInt = r := hJ _ _ hr
    have hq : L[D.length + (c + 1)]? = some q := hT 0
    have v2 : (fk (D.length + (c + 1))).toInt = q := hJ _ _ hq
    have hbr := hb r (List.mem_of_getElem? hr)
    have pv := pc64 (v := fk D.length) (by rw [v1]; exact hbr)
    rw [v1] at pv
    have e1 : ¬ nI L.length < nI (D.length + (c + 1)) := nI_nlt (by omega) (by omega)
    have e2 : ¬ nI (D.length + (c + 1)) = nI L.length := by
      rw [nI_eq (by omega) (by omega)]
      omega
    have i1 : hc_inn (nI (D.length + (c + 1))) ck := inn_nI (by omega) (by omega)
    have i2 : hc_inn (nI D.length) ck := inn_nI (by omega) (by omega)
    have d1 : (nI (D.length + (c + 1))).toNatClampNeg = D.length + (c + 1) := nI_clamp (by omega)
    have d2 : (nI D.length).toNatClampNeg = D.length := nI_clamp (by omega)
    have ei : D.length + (c + 1) + 1 = D.length + (c + 1 + 1) := rfl
    rw [hm14_60]
    by_cases e : q = r
    · have e3 : fk (D.length + (c + 1)) = fk D.length := Int64.toInt_inj.mp (by rw [v1, v2, e])
      have I := ih D r (c + 1) Ps f1 f2 f3 (by omega) hr (fun j => by
        have := hT (j + 1)
        rw [List.getElem?_cons_succ] at this
        rw [← this]
        congr 1
        omega) (by
        rw [← hPs, rlc, if_pos e]) hCP
      simp only [hm14_62, hm14_63, hm14_66, hm14_69, hm14_71, hm14_72, hm14_75, hm14_78, hm14_79, hm14_82, hm14_84, hm14_85, hm14_86, hm14_89, hm14_90, hm14_91, hm14_92, hm14_95, hm14_96, hm14_99, hm14_100, hm14_103, hm14_104, hm14_107, hm14_108, hm14_109, hm14_112, hm14_113, hm14_114, hm14_115, hm14_116, hm14_119, hm14_120, hm14_123, hm14_124, hm14_127, hm14_128, hm14_129, hm14_132, hm14_133, hm14_134, hm14_135, hm14_136, hm14_139, hm14_140, hm14_143, hm14_145, hm14_146, hm14_147, hm14_148, hm14_149, hm14_150, hm14_153, hm14_154, hm14_155, hm14_158, hm14_160, hm14_161, hm14_164, hc_on_some, hc_get, hc_put, hc_ri, hc_rl, hc_is, hc_row, hc_wr, hc_mov, hc_smi, hc_sml, hc_fv, hc_ld, hc_kd, hc_sto, hc_pre, hc_two, hc_inc, hc_psh, hc_kp, hc_k1, hc_np, hc_bk_rf, hc_bk_gA, hc_set_ap, hc_set_set, Value.category, List.getElem?_cons_zero, List.getElem?_cons_succ, List.set_cons_zero, List.set_cons_succ, List.length_cons, List.length_nil, List.map_cons, List.map_nil, reduceIte, Nat.reduceAdd, Nat.reduceSub, Nat.reduceBEq, Nat.reduceEqDiff, Nat.reduceLeDiff, Nat.reduceLT, true_and, and_true, Bool.false_eq_true, reduceCtorEq, if_true, if_false, hc_xx, hc_ofNat, hc_10, not_true_eq_false, not_false_eq_true, ge_iff_le, q1', h10, oKs, e1, e2, i1, i2, d1, d2, lgc_eq, e3, nI_1]
      exact I
    · have e3 : ¬ fk (D.length + (c + 1)) = fk D.length := fun e4 => e (by rw [← v1, ← v2, e4])
      have hn : Ps.length + 1 ≤ many := by
        rw [← hm, ← hPs, List.length_append]
        have := rlc_pos (q :: T) r (c + 1)
        omega
      simp only [hm14_62, hm14_63, hm14_66, hm14_69, hm14_71, hm14_72, hm14_75, hm14_78, hm14_79, hm14_82, hm14_84, hm14_85, hm14_86, hm14_89, hm14_90, hm14_91, hm14_92, hc_on_some, hc_get, hc_put, hc_ri, hc_rl, hc_is, hc_row, hc_wr, hc_mov, hc_smi, hc_sml, hc_fv, hc_ld, hc_kd, hc_sto, hc_pre, hc_two, hc_inc, hc_psh, hc_kp, hc_k1, hc_np, hc_bk_rf, hc_bk_gA, hc_set_ap, hc_set_set, Value.category, List.getElem?_cons_zero, List.getElem?_cons_succ, List.set_cons_zero, List.set_cons_succ, List.length_cons, List.length_nil, List.map_cons, List.map_nil, reduceIte, Nat.reduceAdd, Nat.reduceSub, Nat.reduceBEq, Nat.reduceEqDiff, Nat.reduceLeDiff, Nat.reduceLT, true_and, and_true, Bool.false_eq_true, reduceCtorEq, if_true, if_false, hc_xx, hc_ofNat, hc_10, not_true_eq_false, not_false_eq_true, ge_iff_le, q1', h10, oKs, e1, e2, i1, i2, d1, d2, lgc_eq, e3]
      refine sp_close (c := c + 1) q1 (hc_set_at _ _ _) (n10 _) (by omega) (by omega) (by omega) m1 m2 m3 (by omega) hck rfl ?_
      rw [hc_set_set]
      have C2 := hCP.add (r := r) (c := c + 1) pv.1 pv.2
      have el : (Ps ++ [(r, c + 1)]).length = Ps.length + 1 := by simp
      have ld : (L.take (D.length + (c + 1))).length = D.length + (c + 1) := by
        rw [List.length_take]
        omega
      have I := ih (L.take (D.length + (c + 1))) q 0 (Ps ++ [(r, c + 1)]) _ _ _ (by rw [ld]; omega) (by rw [ld]; exact hq) (fun j => by
        rw [ld]
        have := hT (j + 1)
        rw [List.getElem?_cons_succ] at this
        rw [← this]
        congr 1
        omega) (by
        rw [← hPs, rlc, if_neg e]
        simp) C2
      rw [el, ld] at I
      simp only [hm14_161, hm14_164, hc_on_some, hc_get, hc_put, hc_ri, hc_rl, hc_is, hc_row, hc_wr, hc_mov, hc_smi, hc_sml, hc_fv, hc_ld, hc_kd, hc_sto, hc_pre, hc_two, hc_inc, hc_psh, hc_kp, hc_k1, hc_np, hc_bk_rf, hc_bk_gA, hc_set_ap, hc_set_set, Value.category, List.getElem?_cons_zero, List.getElem?_cons_succ, List.set_cons_zero, List.set_cons_succ, List.length_cons, List.length_nil, List.map_cons, List.map_nil, reduceIte, Nat.reduceAdd, Nat.reduceSub, Nat.reduceBEq, Nat.reduceEqDiff, Nat.reduceLeDiff, Nat.reduceLT, true_and, and_true, Bool.false_eq_true, reduceCtorEq, if_true, if_false, hc_xx, hc_ofNat, hc_10, not_true_eq_false, not_false_eq_true, ge_iff_le, nI_1]
      exact I
theorem sp_takePieces {k kh wc wl pc c1 c2 c3 : Nat} {rf rr : hc_R} {f1 f2 f3 : Nat → Int32} {L : List Int} {ok : hc_O} (q1 : k ≠ 10) (hk : k < 60) (h : σ k = some (oLz kh wc wl rf rr pc (c1, .inl f1) (c2, .inl f2) (c3, .inl f3))) (h10 : σ 10 = some ok) (hP : KSo ok L) (hb : ∀ v ∈ L, 0 ≤ v ∧ v < 36000000) (a1 : 16 ≤ c1) (m1 : c1 ≤ 18000) (a2 : 16 ≤ c2) (m2 : c2 ≤ 18000) (a3 : 16 ≤ c3) (m3 : c3 ≤ 18000)
    (Kf : 9000 < (rle L).length → Q G σ none (some (.inl (.int 0))))
    (K : (rle L).length ≤ 9000 → ∀ G' c1 f1 c2 f2 c3 f3, 16 ≤ c1 → c1 ≤ 18000 → 16 ≤ c2 → c2 ≤ 18000 → 16 ≤ c3 → c3 ≤ 18000 → (rle L).length ≤ c1 → (rle L).length ≤ c2 → (rle L).length ≤ c3 → CP f1 f2 f3 (rle L) → hc_cr G σ G' (hc_set σ k (oLz kh wc wl rf rr (rle L).length (c1, .inl f1) (c2, .inl f2) (c3, .inl f3))) → Q G' (hc_set σ k (oLz kh wc wl rf rr (rle L).length (c1, .inl f1) (c2, .inl f2) (c3, .inl f3))) none (some (.inl (.int 1)))) :
    hc_wp G σ none 14 0 [some (.inl (.ref k)), some (.inl (.ref 10)), none, none, none] [] Q := by
  have q1' : ¬ 10 = k := Ne.symm q1
  have hP' := hP
  obtain ⟨ck, fk, rfl, k1, k2, k3, k4⟩ := hP'
  have e9 : (9000 : Int32) = nI 9000 := rfl
  have hlen : (rle L).length ≤ L.length := by
    cases L with
    | nil => exact Nat.le_refl _
    | cons a T =>
      have : ∀ (T : List Int) (r : Int) (c : Nat), (rlc r c T).length ≤ T.length + 1 := by
        intro T
        induction T with
        | nil => intro r c; exact Nat.le_refl _
        | cons q T ih =>
          intro r c
          unfold rlc
          split
          · exact Nat.le_trans (ih _ _) (by simp)
          · rw [List.length_cons, List.length_cons]
            exact Nat.succ_le_succ (ih _ _)
      exact this T a 1
  simp only [hm14_0, hm14_1, hm14_4, hc_on_some, hc_get, hc_put, hc_ri, hc_rl, hc_is, hc_row, hc_wr, hc_mov, hc_smi, hc_sml, hc_fv, hc_ld, hc_kd, hc_sto, hc_pre, hc_two, hc_inc, hc_psh, hc_kp, hc_k1, hc_np, hc_bk_rf, hc_bk_gA, hc_set_ap, hc_set_set, Value.category, List.getElem?_cons_zero, List.getElem?_cons_succ, List.set_cons_zero, List.set_cons_succ, List.length_cons, List.length_nil, List.map_cons, List.map_nil, reduceIte, Nat.reduceAdd, Nat.reduceSub, Nat.reduceBEq, Nat.reduceEqDiff, Nat.reduceLeDiff, Nat.reduceLT, true_and, and_true, Bool.false_eq_true, reduceCtorEq, if_true, if_false, hc_xx, hc_ofNat, hc_10, not_true_eq_false, not_false_eq_true, ge_iff_le]
  refine sp_unlike h10 hP ?_
  by_cases hc : (rle L).length ≤ 9000
  · have e1 : nI (rle L).length ≤ nI 9000 := nI_le hc (by omega)
    have K2 := K hc
    generalize hm : (rle L).length = many at *
    simp only [hm14_4, hm14_5, hm14_6, hm14_9, hm14_12, hm14_13, hc_on_some, hc_get, hc_put, hc_ri, hc_rl, hc_is, hc_row, hc_wr, hc_mov, hc_smi, hc_sml, hc_fv, hc_ld, hc_kd, hc_sto, hc_pre, hc_two, hc_inc, hc_psh, hc_kp, hc_k1, hc_np, hc_bk_rf, hc_bk_gA, hc_set_ap, hc_set_set, Value.category, List.getElem?_cons_zero, List.getElem?_cons_succ, List.set_cons_zero, List.set_cons_succ, List.length_cons, List.length_nil, List.map_cons, List.map_nil, reduceIte, Nat.reduceAdd, Nat.reduceSub, Nat.reduceBEq, Nat.reduceEqDiff, Nat.reduceLeDiff, Nat.reduceLT, true_and, and_true, Bool.false_eq_true, reduceCtorEq, if_true, if_false, hc_xx, hc_ofNat, hc_10, not_true_eq_false, not_false_eq_true, ge_iff_le, e9, e1]
    refine sp_pg1 h hk hc a1 m1 fun G1 d1 g1 b1 b2 b3 hcr1 => ?_
    refine sp_pg2 (hc_set_at _ _ _) hk hc a2 m2 fun G2 d2 g2 b4 b5 b6 hcr2 => ?_
    rw [hc_set_set] at hcr2 ⊢
    refine sp_pg3 (hc_set_at _ _ _) hk hc a3 m3 fun G3 d3 g3 b7 b8 b9 hcr3 => ?_
    rw [hc_set_set] at hcr3 ⊢
    have hcr := (hcr1.tr hcr2).tr hcr3
    have hz := hc_cr.same (G := G3) (σ := hc_set σ k (oLz kh wc wl rf rr pc (d1, .inl g1) (d2, .inl g2) (d3, .inl g3))) (o := oLz kh wc wl rf rr 0 (d1, .inl g1) (d2, .inl g2) (d3, .inl g3)) hk (hc_set_at _ _ _) rfl
    rw [hc_set_set] at hz
    have z1 : nI 1 = 1 := by decide
    have n10 : ∀ o, hc_set σ k o 10 = some (oKs L.length ck fk) := fun o => by rw [hc_set_ne σ o q1']; exact h10
    cases L with
    | nil =>
      have hm0 : many = 0 := hm.symm
      subst hm0
      have K3 := K2 G3 d1 g1 d2 g2 d3 g3 b2 b3 b5 b6 b8 b9 b1 b4 b7 (fun j hj => by cases hj) (hcr.tr hz)
      have e2 : nI ([] : List Int).length < 1 := by decide
      simp only [oLz, oLy, nI_0] at K3
      simp only [hm14_50, hm14_51, hm14_52, hm14_55, hm14_56, hm14_57, hm14_58, hc_on_some, hc_get, hc_put, hc_ri, hc_rl, hc_is, hc_row, hc_wr, hc_mov, hc_smi, hc_sml, hc_fv, hc_ld, hc_kd, hc_sto, hc_pre, hc_two, hc_inc, hc_psh, hc_kp, hc_k1, hc_np, hc_bk_rf, hc_bk_gA, hc_set_ap, hc_set_set, Value.category, List.getElem?_cons_zero, List.getElem?_cons_succ, List.set_cons_zero, List.set_cons_succ, List.length_cons, List.length_nil, List.map_cons, List.map_nil, reduceIte, Nat.reduceAdd, Nat.reduceSub, Nat.reduceBEq, Nat.reduceEqDiff, Nat.reduceLeDiff, Nat.reduceLT, true_and, and_true, Bool.false_eq_true, reduceCtorEq, if_true, if_false, hc_xx, hc_ofNat, hc_10, not_true_eq_false, not_false_eq_true, ge_iff_le]
      rw [hm14_60]
      simp only [hm14_62, hm14_63, hm14_66, hm14_69, hm14_71, hm14_72, hm14_75, hm14_78, hm14_79, hm14_82, hm14_84, hm14_85, hm14_86, hm14_89, hm14_90, hm14_91, hm14_92, hm14_95, hm14_96, hm14_99, hm14_100, hm14_103, hm14_104, hm14_107, hm14_108, hm14_109, hm14_112, hm14_113, hm14_114, hm14_115, hm14_116, hm14_119, hm14_120, hm14_123, hm14_124, hm14_127, hm14_128, hm14_129, hm14_132, hm14_133, hm14_134, hm14_135, hm14_136, hm14_139, hm14_140, hm14_143, hm14_145, hm14_146, hm14_147, hm14_148, hm14_149, hm14_150, hm14_153, hm14_154, hm14_155, hm14_158, hm14_160, hm14_161, hm14_164, hm14_167, hm14_168, hc_on_some, hc_get, hc_put, hc_ri, hc_rl, hc_is, hc_row, hc_wr, hc_mov, hc_smi, hc_sml, hc_fv, hc_ld, hc_kd, hc_sto, hc_pre, hc_two, hc_inc, hc_psh, hc_kp, hc_k1, hc_np, hc_bk_rf, hc_bk_gA, hc_set_ap, hc_set_set, Value.category, List.getElem?_cons_zero, List.getElem?_cons_succ, List.set_cons_zero, List.set_cons_succ, List.length_cons, List.length_nil, List.map_cons, List.map_nil, reduceIte, Nat.reduceAdd, Nat.reduceSub, Nat.reduceBEq, Nat.reduceEqDiff, Nat.reduceLeDiff, Nat.reduceLT, true_and, and_true, Bool.false_eq_true, reduceCtorEq, if_true, if_false, hc_xx, hc_ofNat, hc_10, not_true_eq_false, not_false_eq_true, ge_iff_le, q1', h10, oKs, e2, true_or, or_true]
      exact K3
    | cons a T =>
      have L2 := sp_pieces_loop (G := G3) (Q := Q) (σ := hc_set σ k (oLz kh wc wl rf rr 0 (d1, .inl g1) (d2, .inl g2) (d3, .inl g3))) (many := many) (rf := rf) (rr := rr) (kh := kh) (wc := wc) (wl := wl) (c1 := d1) (c2 := d2) (c3 := d3) q1 hk (hc_set_at _ _ _) (fun _ _ _ _ => rfl) (n10 _) k1 k3 k4 hb hm b1 b4 b7 b3 b6 b9 (fun f1 f2 f3 hC hcrl => by
        rw [hc_set_set] at hcrl ⊢
        exact K2 G3 d1 f1 d2 f2 d3 f3 b2 b3 b5 b6 b8 b9 b1 b4 b7 hC ((hcr.tr hz).tr hcrl)) T [] a 0 [] g1 g2 g3 (by simp; omega) rfl (fun j => by
        show (a :: T)[0 + (0 + 1) + j]? = T[j]?
        have : 0 + (0 + 1) + j = j + 1 := by omega
        rw [this, List.getElem?_cons_succ]) rfl (fun j hj => by cases hj)
      rw [hc_set_set] at L2
      simp only [oLz, oLy, List.length_nil, Nat.zero_add, nI_0, z1] at L2
      simp only [hm14_50, hm14_51, hm14_52, hm14_55, hm14_56, hm14_57, hm14_58, hc_on_some, hc_get, hc_put, hc_ri, hc_rl, hc_is, hc_row, hc_wr, hc_mov, hc_smi, hc_sml, hc_fv, hc_ld, hc_kd, hc_sto, hc_pre, hc_two, hc_inc, hc_psh, hc_kp, hc_k1, hc_np, hc_bk_rf, hc_bk_gA, hc_set_ap, hc_set_set, Value.category, List.getElem?_cons_zero, List.getElem?_cons_succ, List.set_cons_zero, List.set_cons_succ, List.length_cons, List.length_nil, List.map_cons, List.map_nil, reduceIte, Nat.reduceAdd, Nat.reduceSub, Nat.reduceBEq, Nat.reduceEqDiff, Nat.reduceLeDiff, Nat.reduceLT, true_and, and_true, Bool.false_eq_true, reduceCtorEq, if_true, if_false, hc_xx, hc_ofNat, hc_10, not_true_eq_false, not_false_eq_true, ge_iff_le]
      exact L2
  · have e1 : ¬ nI (rle L).length ≤ nI 9000 := nI_ge (by omega) (by omega)
    have K2 := Kf (by omega)
    simp only [hm14_4, hm14_5, hm14_6, hm14_9, hm14_12, hm14_13, hc_on_some, hc_get, hc_put, hc_ri, hc_rl, hc_is, hc_row, hc_wr, hc_mov, hc_smi, hc_sml, hc_fv, hc_ld, hc_kd, hc_sto, hc_pre, hc_two, hc_inc, hc_psh, hc_kp, hc_k1, hc_np, hc_bk_rf, hc_bk_gA, hc_set_ap, hc_set_set, Value.category, List.getElem?_cons_zero, List.getElem?_cons_succ, List.set_cons_zero, List.set_cons_succ, List.length_cons, List.length_nil, List.map_cons, List.map_nil, reduceIte, Nat.reduceAdd, Nat.reduceSub, Nat.reduceBEq, Nat.reduceEqDiff, Nat.reduceLeDiff, Nat.reduceLT, true_and, and_true, Bool.false_eq_true, reduceCtorEq, if_true, if_false, hc_xx, hc_ofNat, hc_10, not_true_eq_false, not_false_eq_true, ge_iff_le, e9, e1, true_or, or_true]
    exact K2
end S39
