/-! small methods: Math, tests -/
theorem hc_set_ap (σ : hc_H) (k : Nat) (o : hc_O) (k' : Nat) : hc_set σ k o k' = if k' = k then some o else σ k' := rfl
theorem hc_opt {α β : Type} (f : α → β) (x : α) : Option.map f (some x) = some (f x) := rfl
theorem hc_10 : ((1 : Int32) = 0) = False := by decide
theorem hc_ofNat (n : Nat) : Int32.ofNat n = nI n := rfl
theorem hc_xx {p : Prop} : (p ∧ p) = p := by simp
theorem hc_set_set (σ : hc_H) (k : Nat) (o o' : hc_O) : hc_set (hc_set σ k o) k o' = hc_set σ k o' := by
  funext i
  simp only [hc_set]
  split <;> rfl
theorem hc_bk_gA (G : hc_G) (n : Nat) (ls : hc_L) (st : List hc_V) (K : hc_L → Prop) : hc_bk G (hc_gA G n) ls st K = (hc_np st = true ∧ K (hc_kp ls)) := by
  unfold hc_bk
  rw [if_neg (show ¬ (hc_gA G n).1 = G.1 from Nat.succ_ne_self G.1)]
theorem inn_nI {i n : Nat} (h : i < n) (hn : n < 2 ^ 31) : hc_inn (nI i) n := by
  refine ⟨nI_pos (by omega), ?_⟩
  rw [nI_clamp (by omega)]
  exact h
section S17
variable {G : hc_G} {σ : hc_H} {t : hc_T} {Q : hc_Q}
theorem sp_max {a b : Int32} : hc_wp G σ t 86 0 [some (.inl (.int a)), some (.inl (.int b))] [] Q = Q G σ t (some (.inl (.int (if a < b then b else a)))) := by
  simp only [hma86, hc_on_some, hc_get, hc_put, hc_ri, hc_rl, hc_is, hc_row, hc_wr, hc_mov, hc_smi, hc_sml, hc_fv, hc_ld, hc_kd, hc_sto, hc_pre, hc_two, hc_inc, hc_psh, hc_kp, hc_k1, hc_np, hc_bk_rf, hc_bk_gA, hc_set_ap, hc_set_set, Value.category, List.getElem?_cons_zero, List.getElem?_cons_succ, List.set_cons_zero, List.set_cons_succ, List.length_cons, List.length_nil, List.map_cons, List.map_nil, reduceIte, Nat.reduceAdd, Nat.reduceSub, Nat.reduceBEq, Nat.reduceEqDiff, Nat.reduceLeDiff, Nat.reduceLT, true_and, and_true, Bool.false_eq_true, reduceCtorEq, if_true, if_false, hc_xx, hc_ofNat, hc_10, not_true_eq_false, not_false_eq_true, ge_iff_le]
  split <;> rfl
theorem sp_min {a b : Int32} : hc_wp G σ t 88 0 [some (.inl (.int a)), some (.inl (.int b))] [] Q = Q G σ t (some (.inl (.int (if b < a then b else a)))) := by
  simp only [hma88, hc_on_some, hc_get, hc_put, hc_ri, hc_rl, hc_is, hc_row, hc_wr, hc_mov, hc_smi, hc_sml, hc_fv, hc_ld, hc_kd, hc_sto, hc_pre, hc_two, hc_inc, hc_psh, hc_kp, hc_k1, hc_np, hc_bk_rf, hc_bk_gA, hc_set_ap, hc_set_set, Value.category, List.getElem?_cons_zero, List.getElem?_cons_succ, List.set_cons_zero, List.set_cons_succ, List.length_cons, List.length_nil, List.map_cons, List.map_nil, reduceIte, Nat.reduceAdd, Nat.reduceSub, Nat.reduceBEq, Nat.reduceEqDiff, Nat.reduceLeDiff, Nat.reduceLT, true_and, and_true, Bool.false_eq_true, reduceCtorEq, if_true, if_false, hc_xx, hc_ofNat, hc_10, not_true_eq_false, not_false_eq_true, ge_iff_le]
  split <;> rfl
theorem lgc_lt (x y : Int64) : (lg_cmp x y < 0) = (x < y) := by
  unfold lg_cmp
  simp only [gt_iff_lt, Int64.lt_iff_toInt_lt, ← Int64.toInt_inj]
  split
  · simp; omega
  · split
    · simp; omega
    · simp; omega
theorem lgc_gt (x y : Int64) : (0 < lg_cmp x y) = (y < x) := by
  unfold lg_cmp
  simp only [gt_iff_lt, Int64.lt_iff_toInt_lt, ← Int64.toInt_inj]
  split
  · simp; omega
  · split
    · simp; omega
    · simp; omega
theorem lgc_le (x y : Int64) : (lg_cmp x y ≤ 0) = (x ≤ y) := by
  unfold lg_cmp
  simp only [gt_iff_lt, Int64.lt_iff_toInt_lt, Int64.le_iff_toInt_le, ← Int64.toInt_inj]
  split
  · simp; omega
  · split
    · simp; omega
    · simp; omega
theorem lgc_ge (x y : Int64) : (0 ≤ lg_cmp x y) = (y ≤ x) := by
  unfold lg_cmp
  simp only [gt_iff_lt, Int64.lt_iff_toInt_lt, Int64.le_iff_toInt_le, ← Int64.toInt_inj]
  split
  · simp; omega
  · split
    · simp; omega
    · simp; omega
theorem lgc_eq (x y : Int64) : (lg_cmp x y = 0) = (x = y) := by
  unfold lg_cmp
  simp only [gt_iff_lt, Int64.lt_iff_toInt_lt, ← Int64.toInt_inj]
  split
  · simp; omega
  · split
    · simp; omega
    · simp; omega
theorem sp_maxl {a b : Int64} : hc_wp G σ t 87 0 [some (.inl (.long a)), none, some (.inl (.long b)), none] [] Q = Q G σ t (some (.inl (.long (if a < b then b else a)))) := by
  simp only [hma87, hc_on_some, hc_get, hc_put, hc_ri, hc_rl, hc_is, hc_row, hc_wr, hc_mov, hc_smi, hc_sml, hc_fv, hc_ld, hc_kd, hc_sto, hc_pre, hc_two, hc_inc, hc_psh, hc_kp, hc_k1, hc_np, hc_bk_rf, hc_bk_gA, hc_set_ap, hc_set_set, Value.category, List.getElem?_cons_zero, List.getElem?_cons_succ, List.set_cons_zero, List.set_cons_succ, List.length_cons, List.length_nil, List.map_cons, List.map_nil, reduceIte, Nat.reduceAdd, Nat.reduceSub, Nat.reduceBEq, Nat.reduceEqDiff, Nat.reduceLeDiff, Nat.reduceLT, true_and, and_true, Bool.false_eq_true, reduceCtorEq, if_true, if_false, hc_xx, hc_ofNat, hc_10, not_true_eq_false, not_false_eq_true, ge_iff_le, lgc_lt]
  split <;> rfl
theorem sp_minl {a b : Int64} : hc_wp G σ t 89 0 [some (.inl (.long a)), none, some (.inl (.long b)), none] [] Q = Q G σ t (some (.inl (.long (if b < a then b else a)))) := by
  simp only [hma89, hc_on_some, hc_get, hc_put, hc_ri, hc_rl, hc_is, hc_row, hc_wr, hc_mov, hc_smi, hc_sml, hc_fv, hc_ld, hc_kd, hc_sto, hc_pre, hc_two, hc_inc, hc_psh, hc_kp, hc_k1, hc_np, hc_bk_rf, hc_bk_gA, hc_set_ap, hc_set_set, Value.category, List.getElem?_cons_zero, List.getElem?_cons_succ, List.set_cons_zero, List.set_cons_succ, List.length_cons, List.length_nil, List.map_cons, List.map_nil, reduceIte, Nat.reduceAdd, Nat.reduceSub, Nat.reduceBEq, Nat.reduceEqDiff, Nat.reduceLeDiff, Nat.reduceLT, true_and, and_true, Bool.false_eq_true, reduceCtorEq, if_true, if_false, hc_xx, hc_ofNat, hc_10, not_true_eq_false, not_false_eq_true, ge_iff_le, lgc_gt]
  split <;> rfl
theorem sp_abs {a : Int64} : hc_wp G σ t 85 0 [some (.inl (.long a)), none] [] Q = Q G σ t (some (.inl (.long (if 0 ≤ a then a else -a)))) := by
  simp only [hma85, hc_on_some, hc_get, hc_put, hc_ri, hc_rl, hc_is, hc_row, hc_wr, hc_mov, hc_smi, hc_sml, hc_fv, hc_ld, hc_kd, hc_sto, hc_pre, hc_two, hc_inc, hc_psh, hc_kp, hc_k1, hc_np, hc_bk_rf, hc_bk_gA, hc_set_ap, hc_set_set, Value.category, List.getElem?_cons_zero, List.getElem?_cons_succ, List.set_cons_zero, List.set_cons_succ, List.length_cons, List.length_nil, List.map_cons, List.map_nil, reduceIte, Nat.reduceAdd, Nat.reduceSub, Nat.reduceBEq, Nat.reduceEqDiff, Nat.reduceLeDiff, Nat.reduceLT, true_and, and_true, Bool.false_eq_true, reduceCtorEq, if_true, if_false, hc_xx, hc_ofNat, hc_10, not_true_eq_false, not_false_eq_true, ge_iff_le, lgc_ge]
  split <;> rfl
/-- a row that lies in a field -/
def inF (σ : hc_H) (k j : Nat) (r : hc_R) : Prop := ∃ c fs, σ k = some (c, fs) ∧ c < 99 ∧ fs[j]? = some (.inr r)
theorem inF.row {k j : Nat} {r : hc_R} (h : inF σ k j r) : hc_row σ t (.inr (some (k, j))) = some r := by
  obtain ⟨c, fs, h1, h2, h3⟩ := h
  simp only [hc_row, h1, h2, h3, if_true]
theorem sp_cpI {k j n0 m : Nat} {f : Nat → Int32} (h : inF σ k j (n0, .inl f)) (hm : n0 < m) (hm2 : m ≤ 60000000) : hc_wp G σ none 90 0 [some (.inr (some (k, j))), some (.inl (.int (nI m))), none] [] Q = Q (hc_gA G m) σ (some (m, .inl (va_cpy f (fun _ => 0) 0 0 n0))) (some (.inr none)) := by
  have hrow : hc_row σ (some (m, .inl fun _ => 0)) (.inr (some (k, j))) = some (n0, .inl f) := h.row
  obtain ⟨c, fs, h1, h2, h3⟩ := h
  have e1 : ¬ nI m = nI n0 := by
    rw [nI_eq (by omega) (by omega)]
    omega
  have e2 : ¬ nI m < 0 := nI_pos (by omega)
  have e3 : (nI m).toNatClampNeg = m := nI_clamp (by omega)
  have e4 : ¬ nI m < nI n0 := by
    rw [nI_ltI (by omega) (by omega)]
    omega
  have z0 : (0 : Int32).toNatClampNeg = 0 := rfl
  have z1 : (nI n0).toNatClampNeg = n0 := nI_clamp (by omega)
  simp only [hma90, hc_on_some, hc_get, hc_put, hc_ri, hc_rl, hc_is, hc_row, hc_wr, hc_mov, hc_smi, hc_sml, hc_fv, hc_ld, hc_kd, hc_sto, hc_pre, hc_two, hc_inc, hc_psh, hc_kp, hc_k1, hc_np, hc_bk_rf, hc_bk_gA, hc_set_ap, hc_set_set, Value.category, List.getElem?_cons_zero, List.getElem?_cons_succ, List.set_cons_zero, List.set_cons_succ, List.length_cons, List.length_nil, List.map_cons, List.map_nil, reduceIte, Nat.reduceAdd, Nat.reduceSub, Nat.reduceBEq, Nat.reduceEqDiff, Nat.reduceLeDiff, Nat.reduceLT, true_and, and_true, Bool.false_eq_true, reduceCtorEq, if_true, if_false, hc_xx, hc_ofNat, hc_10, not_true_eq_false, not_false_eq_true, ge_iff_le, h1, h2, h3, e1, e2, e3, hm2, hc_nt, List.all_cons, List.all_nil, not_false_eq_true, sp_min, e4, Bool.and_true, Bool.true_and]
  rw [hcw_acpi hcb_90 dJ7_copyOf_59c91_28 rfl rfl (by decide +kernel) (by decide) (by decide) (by simp) hrow ⟨by decide, by decide, nI_pos (by omega)⟩ (by rw [z0, z1]; omega)]
  simp only [hma90, hc_on_some, hc_get, hc_put, hc_ri, hc_rl, hc_is, hc_row, hc_wr, hc_mov, hc_smi, hc_sml, hc_fv, hc_ld, hc_kd, hc_sto, hc_pre, hc_two, hc_inc, hc_psh, hc_kp, hc_k1, hc_np, hc_bk_rf, hc_bk_gA, hc_set_ap, hc_set_set, Value.category, List.getElem?_cons_zero, List.getElem?_cons_succ, List.set_cons_zero, List.set_cons_succ, List.length_cons, List.length_nil, List.map_cons, List.map_nil, reduceIte, Nat.reduceAdd, Nat.reduceSub, Nat.reduceBEq, Nat.reduceEqDiff, Nat.reduceLeDiff, Nat.reduceLT, true_and, and_true, Bool.false_eq_true, reduceCtorEq, if_true, if_false, hc_xx, hc_ofNat, hc_10, not_true_eq_false, not_false_eq_true, ge_iff_le]
  rw [z0, z1]
theorem sp_cpJ {k j n0 m : Nat} {f : Nat → Int64} (h : inF σ k j (n0, .inr f)) (hm : n0 < m) (hm2 : m ≤ 60000000) : hc_wp G σ none 91 0 [some (.inr (some (k, j))), some (.inl (.int (nI m))), none] [] Q = Q (hc_gA G m) σ (some (m, .inr (va_cpy f (fun _ => 0) 0 0 n0))) (some (.inr none)) := by
  have hrow : hc_row σ (some (m, .inr fun _ => 0)) (.inr (some (k, j))) = some (n0, .inr f) := h.row
  obtain ⟨c, fs, h1, h2, h3⟩ := h
  have e1 : ¬ nI m = nI n0 := by
    rw [nI_eq (by omega) (by omega)]
    omega
  have e2 : ¬ nI m < 0 := nI_pos (by omega)
  have e3 : (nI m).toNatClampNeg = m := nI_clamp (by omega)
  have e4 : ¬ nI m < nI n0 := by
    rw [nI_ltI (by omega) (by omega)]
    omega
  have z0 : (0 : Int32).toNatClampNeg = 0 := rfl
  have z1 : (nI n0).toNatClampNeg = n0 := nI_clamp (by omega)
  simp only [hma91, hc_on_some, hc_get, hc_put, hc_ri, hc_rl, hc_is, hc_row, hc_wr, hc_mov, hc_smi, hc_sml, hc_fv, hc_ld, hc_kd, hc_sto, hc_pre, hc_two, hc_inc, hc_psh, hc_kp, hc_k1, hc_np, hc_bk_rf, hc_bk_gA, hc_set_ap, hc_set_set, Value.category, List.getElem?_cons_zero, List.getElem?_cons_succ, List.set_cons_zero, List.set_cons_succ, List.length_cons, List.length_nil, List.map_cons, List.map_nil, reduceIte, Nat.reduceAdd, Nat.reduceSub, Nat.reduceBEq, Nat.reduceEqDiff, Nat.reduceLeDiff, Nat.reduceLT, true_and, and_true, Bool.false_eq_true, reduceCtorEq, if_true, if_false, hc_xx, hc_ofNat, hc_10, not_true_eq_false, not_false_eq_true, ge_iff_le, h1, h2, h3, e1, e2, e3, hm2, hc_nt, List.all_cons, List.all_nil, not_false_eq_true, sp_min, e4, Bool.and_true, Bool.true_and]
  rw [hcw_acpl hcb_91 dJ7_copyOf_c38d5_28 rfl rfl (by decide +kernel) (by decide) (by decide) (by simp) hrow ⟨by decide, by decide, nI_pos (by omega)⟩ (by rw [z0, z1]; omega)]
  simp only [hma91, hc_on_some, hc_get, hc_put, hc_ri, hc_rl, hc_is, hc_row, hc_wr, hc_mov, hc_smi, hc_sml, hc_fv, hc_ld, hc_kd, hc_sto, hc_pre, hc_two, hc_inc, hc_psh, hc_kp, hc_k1, hc_np, hc_bk_rf, hc_bk_gA, hc_set_ap, hc_set_set, Value.category, List.getElem?_cons_zero, List.getElem?_cons_succ, List.set_cons_zero, List.set_cons_succ, List.length_cons, List.length_nil, List.map_cons, List.map_nil, reduceIte, Nat.reduceAdd, Nat.reduceSub, Nat.reduceBEq, Nat.reduceEqDiff, Nat.reduceLeDiff, Nat.reduceLT, true_and, and_true, Bool.false_eq_true, reduceCtorEq, if_true, if_false, hc_xx, hc_ofNat, hc_10, not_true_eq_false, not_false_eq_true, ge_iff_le]
  rw [z0, z1]
/-- withRoom: the row as it is, or a longer one, new -/
theorem sp_wr0 {k j n0 m : Nat} {f : Nat → Int32} (h : inF σ k j (n0, .inl f)) (hm : m ≤ n0) (hn : n0 < 2 ^ 31) : hc_wp G σ none 39 0 [some (.inr (some (k, j))), some (.inl (.int (nI m)))] [] Q = Q G σ none (some (.inr (some (k, j)))) := by
  obtain ⟨c, fs, h1, h2, h3⟩ := h
  have e1 : ¬ nI n0 < nI m := by
    rw [nI_ltI (by omega) (by omega)]
    omega
  simp only [hma39, hc_on_some, hc_get, hc_put, hc_ri, hc_rl, hc_is, hc_row, hc_wr, hc_mov, hc_smi, hc_sml, hc_fv, hc_ld, hc_kd, hc_sto, hc_pre, hc_two, hc_inc, hc_psh, hc_kp, hc_k1, hc_np, hc_bk_rf, hc_bk_gA, hc_set_ap, hc_set_set, Value.category, List.getElem?_cons_zero, List.getElem?_cons_succ, List.set_cons_zero, List.set_cons_succ, List.length_cons, List.length_nil, List.map_cons, List.map_nil, reduceIte, Nat.reduceAdd, Nat.reduceSub, Nat.reduceBEq, Nat.reduceEqDiff, Nat.reduceLeDiff, Nat.reduceLT, true_and, and_true, Bool.false_eq_true, reduceCtorEq, if_true, if_false, hc_xx, hc_ofNat, hc_10, not_true_eq_false, not_false_eq_true, ge_iff_le, h1, h2, h3, e1]
theorem sp_wr1 {k j n0 m : Nat} {f : Nat → Int32} (h : inF σ k j (n0, .inl f)) (hm : n0 < m) (hn : m ≤ 30000000) : hc_wp G σ none 39 0 [some (.inr (some (k, j))), some (.inl (.int (nI m)))] [] Q = Q (hc_gA G (max m (2 * n0))) σ (some (max m (2 * n0), .inl (va_cpy f (fun _ => 0) 0 0 n0))) (some (.inr none)) := by
  have h0 := h
  obtain ⟨c, fs, h1, h2, h3⟩ := h
  have e1 : nI n0 < nI m := by
    rw [nI_ltI (by omega) (by omega)]
    omega
  have e2 : (if nI m < 2 * nI n0 then 2 * nI n0 else nI m) = nI (max m (2 * n0)) := by
    have : 2 * nI n0 = nI (2 * n0) := pk_mul 2 n0
    rw [this]
    by_cases hq : m < 2 * n0
    · rw [if_pos (nI_lt hq (by omega))]
      congr 1
      omega
    · rw [if_neg (nI_nlt (by omega) (by omega))]
      congr 1
      omega
  simp only [hma39, hc_on_some, hc_get, hc_put, hc_ri, hc_rl, hc_is, hc_row, hc_wr, hc_mov, hc_smi, hc_sml, hc_fv, hc_ld, hc_kd, hc_sto, hc_pre, hc_two, hc_inc, hc_psh, hc_kp, hc_k1, hc_np, hc_bk_rf, hc_bk_gA, hc_set_ap, hc_set_set, Value.category, List.getElem?_cons_zero, List.getElem?_cons_succ, List.set_cons_zero, List.set_cons_succ, List.length_cons, List.length_nil, List.map_cons, List.map_nil, reduceIte, Nat.reduceAdd, Nat.reduceSub, Nat.reduceBEq, Nat.reduceEqDiff, Nat.reduceLeDiff, Nat.reduceLT, true_and, and_true, Bool.false_eq_true, reduceCtorEq, if_true, if_false, hc_xx, hc_ofNat, hc_10, not_true_eq_false, not_false_eq_true, ge_iff_le, h1, h2, h3, e1, sp_max, e2, sp_cpI h0 (show n0 < max m (2 * n0) by omega) (show max m (2 * n0) ≤ 60000000 by omega)]
end S17
