/-! Places of the reference: rows of keys -/
def kxy (x y : Int) : Int := x * 4294967296 + (y + 1073741824)
def kyv (x y : Int32) : Int64 := x.toInt64 <<< ((32 : Int32).toInt64 &&& 63) ||| (y.toInt64 + 1073741824)
theorem kyv_toInt {x y : Int32} (h1 : -1073741824 ≤ y.toInt) (h2 : y.toInt < 1073741824) : (kyv x y).toInt = kxy x.toInt y.toInt := by
  have a1 := x.le_toInt
  have a2 := x.toInt_lt
  have e1 : (x.toInt64 <<< ((32 : Int32).toInt64 &&& 63)).toInt = x.toInt * 4294967296 := by
    have := i64_shl32 (a := x.toInt64) (by rw [i64_of32]; exact a1) (by rw [i64_of32]; exact a2)
    rw [this, i64_of32]
  have e2 : (y.toInt64 + 1073741824).toInt = y.toInt + 1073741824 := by
    have e3 : (1073741824 : Int64).toInt = 1073741824 := rfl
    rw [i64_add (by rw [i64_of32, e3]; omega) (by rw [i64_of32, e3]; omega), i64_of32, e3]
  unfold kyv kxy
  rw [i64_or x.toInt e1 (by rw [e2]; omega) (by rw [e2]; omega), e1, e2]
theorem kxy_x {x y : Int} (h1 : -1073741824 ≤ y) (h2 : y < 1073741824) : kxy x y / 4294967296 = x := by
  unfold kxy
  omega
theorem kxy_y {x y : Int} (h1 : -1073741824 ≤ y) (h2 : y < 1073741824) : kxy x y % 4294967296 = y + 1073741824 := by
  unfold kxy
  omega
def oMp (n : Nat) (c : Nat) (f : Nat → Int64) : hc_O := (5, [.inr (c, .inr f), .inl (.int (nI n))])
def MPo (o : hc_O) (l : List Int) (C : Nat) : Prop := ∃ c f, o = oMp l.length c f ∧ l.length ≤ c ∧ 64 ≤ c ∧ c ≤ C ∧ CJ f l
section S20
variable {G : hc_G} {σ : hc_H} {t : hc_T} {Q : hc_Q}
theorem sp_key {x y : Int32} : hc_wp G σ t 45 0 [some (.inl (.int x)), some (.inl (.int y))] [] Q = Q G σ t (some (.inl (.long (kyv x y)))) := by
  simp only [hma45, hc_on_some, hc_get, hc_put, hc_ri, hc_rl, hc_is, hc_row, hc_wr, hc_mov, hc_smi, hc_sml, hc_fv, hc_ld, hc_kd, hc_sto, hc_pre, hc_two, hc_inc, hc_psh, hc_kp, hc_k1, hc_np, hc_bk_rf, hc_bk_gA, hc_set_ap, hc_set_set, Value.category, List.getElem?_cons_zero, List.getElem?_cons_succ, List.set_cons_zero, List.set_cons_succ, List.length_cons, List.length_nil, List.map_cons, List.map_nil, reduceIte, Nat.reduceAdd, Nat.reduceSub, Nat.reduceBEq, Nat.reduceEqDiff, Nat.reduceLeDiff, Nat.reduceLT, true_and, and_true, Bool.false_eq_true, reduceCtorEq, if_true, if_false, hc_xx, hc_ofNat, hc_10, not_true_eq_false, not_false_eq_true, ge_iff_le]
  rfl
theorem sp_mclr {k C : Nat} {l : List Int} {o : hc_O} (h : σ k = some o) (hP : MPo o l C) (hk : k < 60) (K : ∀ o', MPo o' [] C → hc_cr G σ G (hc_set σ k o') → Q G (hc_set σ k o') none none) : hc_wp G σ none 44 0 [some (.inl (.ref k))] [] Q := by
  obtain ⟨c, f, rfl, h1, h2, h3, h4⟩ := hP
  simp only [hma44, hc_on_some, hc_get, hc_put, hc_ri, hc_rl, hc_is, hc_row, hc_wr, hc_mov, hc_smi, hc_sml, hc_fv, hc_ld, hc_kd, hc_sto, hc_pre, hc_two, hc_inc, hc_psh, hc_kp, hc_k1, hc_np, hc_bk_rf, hc_bk_gA, hc_set_ap, hc_set_set, Value.category, List.getElem?_cons_zero, List.getElem?_cons_succ, List.set_cons_zero, List.set_cons_succ, List.length_cons, List.length_nil, List.map_cons, List.map_nil, reduceIte, Nat.reduceAdd, Nat.reduceSub, Nat.reduceBEq, Nat.reduceEqDiff, Nat.reduceLeDiff, Nat.reduceLT, true_and, and_true, Bool.false_eq_true, reduceCtorEq, if_true, if_false, hc_xx, hc_ofNat, hc_10, not_true_eq_false, not_false_eq_true, ge_iff_le, h, oMp]
  exact K (oMp 0 c f) ⟨c, f, rfl, Nat.zero_le _, h2, h3, fun i v hi => by simp at hi⟩ (hc_cr.same hk h rfl)
theorem sp_mx {k C i : Nat} {l : List Int} {o : hc_O} (h : σ k = some o) (hP : MPo o l C) (hC : C < 2 ^ 30) (hi : i < l.length) (K : ∀ v : Int32, (-2147483648 ≤ l[i] / 4294967296 → l[i] / 4294967296 < 2147483648 → v.toInt = l[i] / 4294967296) → Q G σ t (some (.inl (.int v)))) : hc_wp G σ t 47 0 [some (.inl (.ref k)), some (.inl (.int (nI i)))] [] Q := by
  obtain ⟨c, f, rfl, h1, h2, h3, h4⟩ := hP
  have i1 : hc_inn (nI i) c := inn_nI (by omega) (by omega)
  have e1 : (nI i).toNatClampNeg = i := nI_clamp (by omega)
  simp only [hma47, hc_on_some, hc_get, hc_put, hc_ri, hc_rl, hc_is, hc_row, hc_wr, hc_mov, hc_smi, hc_sml, hc_fv, hc_ld, hc_kd, hc_sto, hc_pre, hc_two, hc_inc, hc_psh, hc_kp, hc_k1, hc_np, hc_bk_rf, hc_bk_gA, hc_set_ap, hc_set_set, Value.category, List.getElem?_cons_zero, List.getElem?_cons_succ, List.set_cons_zero, List.set_cons_succ, List.length_cons, List.length_nil, List.map_cons, List.map_nil, reduceIte, Nat.reduceAdd, Nat.reduceSub, Nat.reduceBEq, Nat.reduceEqDiff, Nat.reduceLeDiff, Nat.reduceLT, true_and, and_true, Bool.false_eq_true, reduceCtorEq, if_true, if_false, hc_xx, hc_ofNat, hc_10, not_true_eq_false, not_false_eq_true, ge_iff_le, h, oMp, i1, e1]
  refine K _ fun q1 q2 => ?_
  have := i64_shr32 (f i)
  rw [h4.at hi] at this
  rw [i32_of64 (by rw [this]; exact q1) (by rw [this]; exact q2), this]
theorem sp_my {k C i : Nat} {l : List Int} {o : hc_O} (h : σ k = some o) (hP : MPo o l C) (hC : C < 2 ^ 30) (hi : i < l.length) (K : ∀ v : Int32, (l[i] % 4294967296 < 2147483648 → v.toInt = l[i] % 4294967296 - 1073741824) → Q G σ t (some (.inl (.int v)))) : hc_wp G σ t 48 0 [some (.inl (.ref k)), some (.inl (.int (nI i)))] [] Q := by
  obtain ⟨c, f, rfl, h1, h2, h3, h4⟩ := hP
  have i1 : hc_inn (nI i) c := inn_nI (by omega) (by omega)
  have e1 : (nI i).toNatClampNeg = i := nI_clamp (by omega)
  simp only [hma48, hc_on_some, hc_get, hc_put, hc_ri, hc_rl, hc_is, hc_row, hc_wr, hc_mov, hc_smi, hc_sml, hc_fv, hc_ld, hc_kd, hc_sto, hc_pre, hc_two, hc_inc, hc_psh, hc_kp, hc_k1, hc_np, hc_bk_rf, hc_bk_gA, hc_set_ap, hc_set_set, Value.category, List.getElem?_cons_zero, List.getElem?_cons_succ, List.set_cons_zero, List.set_cons_succ, List.length_cons, List.length_nil, List.map_cons, List.map_nil, reduceIte, Nat.reduceAdd, Nat.reduceSub, Nat.reduceBEq, Nat.reduceEqDiff, Nat.reduceLeDiff, Nat.reduceLT, true_and, and_true, Bool.false_eq_true, reduceCtorEq, if_true, if_false, hc_xx, hc_ofNat, hc_10, not_true_eq_false, not_false_eq_true, ge_iff_le, h, oMp, i1, e1]
  refine K _ fun q1 => ?_
  have h5 := i64_mask (f i)
  rw [h4.at hi] at h5
  have e3 : (1073741824 : Int64).toInt = 1073741824 := rfl
  have h6 : ((f i &&& 4294967295) - 1073741824).toInt = l[i] % 4294967296 - 1073741824 := by
    rw [i64_sub (by rw [h5, e3]; omega) (by rw [h5, e3]; omega), h5, e3]
  rw [i32_of64 (by rw [h6]; omega) (by rw [h6]; omega), h6]
theorem sp_madd_loop {k n : Nat} {x y : Int32} {f : Nat → Int64} (h : σ k = some (oMp n n f)) (hn : n < 2 ^ 20) (K : ∀ g, (∀ j, j < n → g j = f j) → hc_wp G σ (some (2 * n, .inr g)) 46 50 [some (.inl (.ref k)), some (.inl (.int x)), some (.inl (.int y)), some (.inr none), some (.inl (.int (nI n)))] [] Q) : ∀ (d i : Nat) (g : Nat → Int64), d + i = n → (∀ j, j < i → g j = f j) → hc_wp G σ (some (2 * n, .inr g)) 46 24 [some (.inl (.ref k)), some (.inl (.int x)), some (.inl (.int y)), some (.inr none), some (.inl (.int (nI i)))] [] Q := by
  intro d
  induction d with
  | zero =>
    intro i g hi hg
    have e : i = n := by omega
    subst e
    rw [hm46_24]
    have K2 := K g hg
    simp only [hma46, hc_on_some, hc_get, hc_put, hc_ri, hc_rl, hc_is, hc_row, hc_wr, hc_mov, hc_smi, hc_sml, hc_fv, hc_ld, hc_kd, hc_sto, hc_pre, hc_two, hc_inc, hc_psh, hc_kp, hc_k1, hc_np, hc_bk_rf, hc_bk_gA, hc_set_ap, hc_set_set, Value.category, List.getElem?_cons_zero, List.getElem?_cons_succ, List.set_cons_zero, List.set_cons_succ, List.length_cons, List.length_nil, List.map_cons, List.map_nil, reduceIte, Nat.reduceAdd, Nat.reduceSub, Nat.reduceBEq, Nat.reduceEqDiff, Nat.reduceLeDiff, Nat.reduceLT, true_and, and_true, Bool.false_eq_true, reduceCtorEq, if_true, if_false, hc_xx, hc_ofNat, hc_10, not_true_eq_false, not_false_eq_true, ge_iff_le, h, oMp, if_pos (Int32.le_refl (nI i))] at K2 ⊢
    exact K2
  | succ d ih =>
    intro i g hi hg
    have e1 : ¬ nI n ≤ nI i := nI_ge (by omega) (by omega)
    have e2 : hc_inn (nI i) n := inn_nI (by omega) (by omega)
    have e3 : hc_inn (nI i) (2 * n) := inn_nI (by omega) (by omega)
    have e4 : (nI i).toNatClampNeg = i := nI_clamp (by omega)
    rw [hm46_24]
    simp only [hma46, hc_on_some, hc_get, hc_put, hc_ri, hc_rl, hc_is, hc_row, hc_wr, hc_mov, hc_smi, hc_sml, hc_fv, hc_ld, hc_kd, hc_sto, hc_pre, hc_two, hc_inc, hc_psh, hc_kp, hc_k1, hc_np, hc_bk_rf, hc_bk_gA, hc_set_ap, hc_set_set, Value.category, List.getElem?_cons_zero, List.getElem?_cons_succ, List.set_cons_zero, List.set_cons_succ, List.length_cons, List.length_nil, List.map_cons, List.map_nil, reduceIte, Nat.reduceAdd, Nat.reduceSub, Nat.reduceBEq, Nat.reduceEqDiff, Nat.reduceLeDiff, Nat.reduceLT, true_and, and_true, Bool.false_eq_true, reduceCtorEq, if_true, if_false, hc_xx, hc_ofNat, hc_10, not_true_eq_false, not_false_eq_true, ge_iff_le, h, oMp, e1, e2, e3, e4, nI_1]
    refine ih (i + 1) _ (by omega) fun j hj => ?_
    by_cases hq : j = i
    · subst hq
      simp [vp_updL]
    · simp only [vp_updL, if_neg hq]
      exact hg j (by omega)
theorem sp_madd {k C : Nat} {l : List Int} {o : hc_O} {x y : Int32} (h : σ k = some o) (hP : MPo o l C) (hm : 2 * l.length ≤ C) (hC : C ≤ 2 ^ 20) (hk : k < 60) (K : ∀ G' o', MPo o' (l ++ [(kyv x y).toInt]) C → hc_cr G σ G' (hc_set σ k o') → Q G' (hc_set σ k o') none none) : hc_wp G σ none 46 0 [some (.inl (.ref k)), some (.inl (.int x)), some (.inl (.int y)), none, none] [] Q := by
  obtain ⟨c, f, rfl, h1, h2, h3, h4⟩ := hP
  have e1 : (nI l.length).toNatClampNeg = l.length := nI_clamp (by omega)
  by_cases hl : l.length = c
  · subst hl
    have e3 : 2 * nI l.length = nI (2 * l.length) := pk_mul 2 l.length
    have e4 : ¬ nI (2 * l.length) < 0 := nI_pos (by omega)
    have e5 : (nI (2 * l.length)).toNatClampNeg = 2 * l.length := nI_clamp (by omega)
    have e6 : 2 * l.length ≤ 60000000 := by omega
    simp only [hma46, hc_on_some, hc_get, hc_put, hc_ri, hc_rl, hc_is, hc_row, hc_wr, hc_mov, hc_smi, hc_sml, hc_fv, hc_ld, hc_kd, hc_sto, hc_pre, hc_two, hc_inc, hc_psh, hc_kp, hc_k1, hc_np, hc_bk_rf, hc_bk_gA, hc_set_ap, hc_set_set, Value.category, List.getElem?_cons_zero, List.getElem?_cons_succ, List.set_cons_zero, List.set_cons_succ, List.length_cons, List.length_nil, List.map_cons, List.map_nil, reduceIte, Nat.reduceAdd, Nat.reduceSub, Nat.reduceBEq, Nat.reduceEqDiff, Nat.reduceLeDiff, Nat.reduceLT, true_and, and_true, Bool.false_eq_true, reduceCtorEq, if_true, if_false, hc_xx, hc_ofNat, hc_10, not_true_eq_false, not_false_eq_true, ge_iff_le, h, oMp, e3, e4, e5, e6, not_true_eq_false, not_false_eq_true, hc_nt, List.all_cons, List.all_nil, Bool.and_true, Bool.true_and]
    refine sp_madd_loop (n := l.length) (f := f) h (by omega) (fun g hg => ?_) l.length 0 _ (by omega) (fun j hj => by omega)
    have i1 : hc_inn (nI l.length) (2 * l.length) := inn_nI (by omega) (by omega)
    simp only [hma46, hc_on_some, hc_get, hc_put, hc_ri, hc_rl, hc_is, hc_row, hc_wr, hc_mov, hc_smi, hc_sml, hc_fv, hc_ld, hc_kd, hc_sto, hc_pre, hc_two, hc_inc, hc_psh, hc_kp, hc_k1, hc_np, hc_bk_rf, hc_bk_gA, hc_set_ap, hc_set_set, Value.category, List.getElem?_cons_zero, List.getElem?_cons_succ, List.set_cons_zero, List.set_cons_succ, List.length_cons, List.length_nil, List.map_cons, List.map_nil, reduceIte, Nat.reduceAdd, Nat.reduceSub, Nat.reduceBEq, Nat.reduceEqDiff, Nat.reduceLeDiff, Nat.reduceLT, true_and, and_true, Bool.false_eq_true, reduceCtorEq, if_true, if_false, hc_xx, hc_ofNat, hc_10, not_true_eq_false, not_false_eq_true, ge_iff_le, h, oMp, i1, e1, nI_1, sp_key]
    refine K _ (oMp (l.length + 1) (2 * l.length) (vp_updL g l.length (kyv x y))) ⟨_, _, by rw [List.length_append]; rfl, by rw [List.length_append]; show l.length + 1 ≤ _; omega, by omega, hm, ?_⟩ (hc_cr.set hk h ?_)
    · exact CJ.add (fun i w hi => by rw [hg i (List.getElem?_eq_some_iff.mp hi).1]; exact h4 i w hi) _
    · show G.2.2.1 + 2 * l.length + 12 * (G.2.1 + 1) + _ ≤ _
      simp [oMp, hc_po, hc_pf]
      omega
  · have e2 : ¬ nI l.length = nI c := by
      rw [nI_eq (by omega) (by omega)]
      exact hl
    have i1 : hc_inn (nI l.length) c := inn_nI (by omega) (by omega)
    simp only [hma46, hc_on_some, hc_get, hc_put, hc_ri, hc_rl, hc_is, hc_row, hc_wr, hc_mov, hc_smi, hc_sml, hc_fv, hc_ld, hc_kd, hc_sto, hc_pre, hc_two, hc_inc, hc_psh, hc_kp, hc_k1, hc_np, hc_bk_rf, hc_bk_gA, hc_set_ap, hc_set_set, Value.category, List.getElem?_cons_zero, List.getElem?_cons_succ, List.set_cons_zero, List.set_cons_succ, List.length_cons, List.length_nil, List.map_cons, List.map_nil, reduceIte, Nat.reduceAdd, Nat.reduceSub, Nat.reduceBEq, Nat.reduceEqDiff, Nat.reduceLeDiff, Nat.reduceLT, true_and, and_true, Bool.false_eq_true, reduceCtorEq, if_true, if_false, hc_xx, hc_ofNat, hc_10, not_true_eq_false, not_false_eq_true, ge_iff_le, h, oMp, e2, i1, e1, nI_1, not_false_eq_true, sp_key]
    exact K G (oMp (l.length + 1) c (vp_updL f l.length (kyv x y))) ⟨c, _, by rw [List.length_append]; rfl, by rw [List.length_append]; show l.length + 1 ≤ c; omega, h2, h3, h4.add _⟩ (hc_cr.same hk h rfl)
end S20
