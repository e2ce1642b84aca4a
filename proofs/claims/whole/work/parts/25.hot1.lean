/-! division rounded down; small methods of the class: bounds, hot keys -/
theorem fdiv_low (a b : Int) (hb : 0 < b) : a / b = if a < 0 ∧ a.tdiv b * b ≠ a then a.tdiv b - 1 else a.tdiv b := by
  rcases Int.lt_or_le a 0 with ha | ha
  · have e : a.tdiv b = -((-a) / b) := by
      have := Int.neg_tdiv (a := -a) (b := b)
      rw [Int.neg_neg] at this
      rw [this, Int.tdiv_eq_ediv_of_nonneg (by omega)]
    have h1 := Int.mul_ediv_add_emod (-a) b
    have h2 := Int.emod_nonneg (-a) (show b ≠ 0 by omega)
    have h3 := Int.emod_lt_of_pos (-a) hb
    rw [e]
    generalize (-a) / b = m at *
    generalize (-a) % b = r at *
    have h4 : -m * b = -(b * m) := by rw [Int.neg_mul, Int.mul_comm]
    have h5 : b * (-m) = -(b * m) := Int.mul_neg b m
    have h6 : b * (-m - 1) = -(b * m) - b := by rw [Int.mul_sub, h5, Int.mul_one]
    by_cases hr : r = 0
    · rw [if_neg (by rw [h4]; omega)]
      exact ((Int.ediv_emod_unique hb (r := 0)).mpr ⟨by rw [h5]; omega, by omega, hb⟩).1
    · rw [if_pos ⟨ha, by rw [h4]; omega⟩]
      exact ((Int.ediv_emod_unique hb (r := b - r)).mpr ⟨by rw [h6]; omega, by omega, by omega⟩).1
  · rw [if_neg (by omega), Int.tdiv_eq_ediv_of_nonneg ha]
theorem xor_neg {a b : Int64} (hb : 0 < b.toInt) : (a ^^^ b).toInt < 0 ↔ a.toInt < 0 := by
  have h1 : (a ^^^ b).toBitVec.msb = decide ((a ^^^ b).toInt < 0) := BitVec.msb_eq_toInt
  have h2 : a.toBitVec.msb = decide (a.toInt < 0) := BitVec.msb_eq_toInt
  have h3 : b.toBitVec.msb = decide (b.toInt < 0) := BitVec.msb_eq_toInt
  rw [Int64.toBitVec_xor, BitVec.msb_xor, h2, h3, decide_eq_false (show ¬ b.toInt < 0 by omega)] at h1
  simp only [Bool.xor_false, decide_eq_decide] at h1
  exact h1.symm
theorem tdiv_near (a b : Int) (hb : 0 < b) : (0 ≤ a → 0 ≤ a.tdiv b ∧ a.tdiv b * b ≤ a ∧ a.tdiv b ≤ a ∧ 0 ≤ a.tdiv b * b) ∧ (a < 0 → a ≤ a.tdiv b * b ∧ a.tdiv b * b ≤ 0 ∧ a ≤ a.tdiv b ∧ a.tdiv b ≤ 0) := by
  have key : ∀ c : Int, 0 ≤ c → 0 ≤ c / b ∧ c / b * b ≤ c ∧ c / b ≤ c ∧ 0 ≤ c / b * b := fun c hc =>
    ⟨Int.ediv_nonneg hc (by omega), Int.ediv_mul_le c (by omega), Int.ediv_le_self _ hc, Int.mul_nonneg (Int.ediv_nonneg hc (by omega)) (by omega)⟩
  constructor
  · intro ha
    rw [Int.tdiv_eq_ediv_of_nonneg ha]
    exact key a ha
  · intro ha
    have e : a.tdiv b = -((-a) / b) := by
      have := Int.neg_tdiv (a := -a) (b := b)
      rw [Int.neg_neg] at this
      rw [this, Int.tdiv_eq_ediv_of_nonneg (by omega)]
    have h := key (-a) (by omega)
    rw [e]
    have h4 : -((-a) / b) * b = -((-a) / b * b) := Int.neg_mul _ _
    omega
theorem i64_tdiv {a b : Int64} (hb : 0 < b.toInt) : (a / b).toInt = a.toInt.tdiv b.toInt := by
  rw [Int64.toInt_div]
  have h := tdiv_near a.toInt b.toInt hb
  have := a.toInt_lt
  have := a.le_toInt
  exact Int.bmod_eq_of_le (by omega) (by omega)
theorem i64_tdm {a b : Int64} (hb : 0 < b.toInt) : (a / b * b).toInt = a.toInt.tdiv b.toInt * b.toInt := by
  have h := tdiv_near a.toInt b.toInt hb
  have := a.toInt_lt
  have := a.le_toInt
  rw [i64_mul (by rw [i64_tdiv hb]; omega) (by rw [i64_tdiv hb]; omega), i64_tdiv hb]
abbrev inb (x y : Int) : Prop := -500000 ≤ x ∧ x ≤ 500000 ∧ -500000 ≤ y ∧ y ≤ 500000
section S25
variable {G : hc_G} {σ : hc_H} {t : hc_T} {Q : hc_Q}
theorem sp_fdv {a b : Int64} (hb : 0 < b.toInt) (ha : -9223372036854775808 < a.toInt) (K : ∀ r : Int64, r.toInt = a.toInt / b.toInt → Q G σ t (some (.inl (.long r)))) : hc_wp G σ t 84 0 [some (.inl (.long a)), none, some (.inl (.long b)), none, none, none] [] Q := by
  have h0 : (0 : Int64).toInt = 0 := rfl
  have h1' : (1 : Int64).toInt = 1 := rfl
  have hz : ¬ b = 0 := fun e => by rw [e, h0] at hb; omega
  have hx : (0 ≤ a ^^^ b) ↔ ¬ a.toInt < 0 := by
    rw [Int64.le_iff_toInt_le, h0, ← xor_neg (a := a) hb]
    omega
  have he : (a / b * b = a) ↔ a.toInt.tdiv b.toInt * b.toInt = a.toInt := by
    rw [← Int64.toInt_inj, i64_tdm hb]
  have hq := fdiv_low a.toInt b.toInt hb
  have hn := tdiv_near a.toInt b.toInt hb
  have hlt := a.toInt_lt
  by_cases c1 : a.toInt < 0
  · have x1 : ¬ 0 ≤ a ^^^ b := fun h => (hx.mp h) c1
    by_cases c2 : a / b * b = a
    · rw [if_neg (fun h => h.2 (he.mp c2))] at hq
      simp only [hma84, hc_on_some, hc_get, hc_put, hc_ri, hc_rl, hc_is, hc_row, hc_wr, hc_mov, hc_smi, hc_sml, hc_fv, hc_ld, hc_kd, hc_sto, hc_pre, hc_two, hc_inc, hc_psh, hc_kp, hc_k1, hc_np, hc_bk_rf, hc_bk_gA, hc_set_ap, hc_set_set, Value.category, List.getElem?_cons_zero, List.getElem?_cons_succ, List.set_cons_zero, List.set_cons_succ, List.length_cons, List.length_nil, List.map_cons, List.map_nil, reduceIte, Nat.reduceAdd, Nat.reduceSub, Nat.reduceBEq, Nat.reduceEqDiff, Nat.reduceLeDiff, Nat.reduceLT, true_and, and_true, Bool.false_eq_true, reduceCtorEq, if_true, if_false, hc_xx, hc_ofNat, hc_10, not_true_eq_false, not_false_eq_true, ge_iff_le, lgc_lt, lgc_ge, lgc_eq, x1, c2, hz]
      exact K _ (by rw [hq, i64_tdiv hb])
    · rw [if_pos ⟨c1, fun h => c2 (he.mpr h)⟩] at hq
      simp only [hma84, hc_on_some, hc_get, hc_put, hc_ri, hc_rl, hc_is, hc_row, hc_wr, hc_mov, hc_smi, hc_sml, hc_fv, hc_ld, hc_kd, hc_sto, hc_pre, hc_two, hc_inc, hc_psh, hc_kp, hc_k1, hc_np, hc_bk_rf, hc_bk_gA, hc_set_ap, hc_set_set, Value.category, List.getElem?_cons_zero, List.getElem?_cons_succ, List.set_cons_zero, List.set_cons_succ, List.length_cons, List.length_nil, List.map_cons, List.map_nil, reduceIte, Nat.reduceAdd, Nat.reduceSub, Nat.reduceBEq, Nat.reduceEqDiff, Nat.reduceLeDiff, Nat.reduceLT, true_and, and_true, Bool.false_eq_true, reduceCtorEq, if_true, if_false, hc_xx, hc_ofNat, hc_10, not_true_eq_false, not_false_eq_true, ge_iff_le, lgc_lt, lgc_ge, lgc_eq, x1, c2, hz]
      have h3 : a.toInt ≤ a.toInt.tdiv b.toInt := (hn.2 c1).2.2.1
      have h4 := (hn.2 c1).2.2.2
      exact K _ (by rw [hq, i64_sub (by rw [i64_tdiv hb, h1']; omega) (by rw [i64_tdiv hb, h1']; omega), i64_tdiv hb, h1'])
  · have x1 : 0 ≤ a ^^^ b := hx.mpr c1
    rw [if_neg (fun h => c1 h.1)] at hq
    simp only [hma84, hc_on_some, hc_get, hc_put, hc_ri, hc_rl, hc_is, hc_row, hc_wr, hc_mov, hc_smi, hc_sml, hc_fv, hc_ld, hc_kd, hc_sto, hc_pre, hc_two, hc_inc, hc_psh, hc_kp, hc_k1, hc_np, hc_bk_rf, hc_bk_gA, hc_set_ap, hc_set_set, Value.category, List.getElem?_cons_zero, List.getElem?_cons_succ, List.set_cons_zero, List.set_cons_succ, List.length_cons, List.length_nil, List.map_cons, List.map_nil, reduceIte, Nat.reduceAdd, Nat.reduceSub, Nat.reduceBEq, Nat.reduceEqDiff, Nat.reduceLeDiff, Nat.reduceLT, true_and, and_true, Bool.false_eq_true, reduceCtorEq, if_true, if_false, hc_xx, hc_ofNat, hc_10, not_true_eq_false, not_false_eq_true, ge_iff_le, lgc_lt, lgc_ge, lgc_eq, x1, hz]
    exact K _ (by rw [hq, i64_tdiv hb])
theorem sp_below {a b : Int64} (hb : 0 < b.toInt) (ha : -9223372036854775808 < a.toInt) (K : ∀ r : Int64, r.toInt = a.toInt / b.toInt → Q G σ t (some (.inl (.long r)))) : hc_wp G σ t 67 0 [some (.inl (.long a)), none, some (.inl (.long b)), none, none, none] [] Q := by
  have h0 : (0 : Int64).toInt = 0 := rfl
  have h1' : (1 : Int64).toInt = 1 := rfl
  have hz : ¬ b = 0 := fun e => by rw [e, h0] at hb; omega
  have hq := fdiv_low a.toInt b.toInt hb
  have hn := tdiv_near a.toInt b.toInt hb
  have hlt := a.toInt_lt
  have hs : (a - a / b * b).toInt = a.toInt - a.toInt.tdiv b.toInt * b.toInt := by
    rw [i64_sub (by rw [i64_tdm hb]; omega) (by rw [i64_tdm hb]; omega), i64_tdm hb]
  have hx : (0 ≤ a - a / b * b) ↔ 0 ≤ a.toInt - a.toInt.tdiv b.toInt * b.toInt := by
    rw [Int64.le_iff_toInt_le, h0, hs]
  by_cases c1 : 0 ≤ a - a / b * b
  · rw [if_neg (by have := hx.mp c1; omega)] at hq
    simp only [hma67, hc_on_some, hc_get, hc_put, hc_ri, hc_rl, hc_is, hc_row, hc_wr, hc_mov, hc_smi, hc_sml, hc_fv, hc_ld, hc_kd, hc_sto, hc_pre, hc_two, hc_inc, hc_psh, hc_kp, hc_k1, hc_np, hc_bk_rf, hc_bk_gA, hc_set_ap, hc_set_set, Value.category, List.getElem?_cons_zero, List.getElem?_cons_succ, List.set_cons_zero, List.set_cons_succ, List.length_cons, List.length_nil, List.map_cons, List.map_nil, reduceIte, Nat.reduceAdd, Nat.reduceSub, Nat.reduceBEq, Nat.reduceEqDiff, Nat.reduceLeDiff, Nat.reduceLT, true_and, and_true, Bool.false_eq_true, reduceCtorEq, if_true, if_false, hc_xx, hc_ofNat, hc_10, not_true_eq_false, not_false_eq_true, ge_iff_le, lgc_lt, lgc_ge, lgc_eq, c1, hz]
    exact K _ (by rw [hq, i64_tdiv hb])
  · have c2 : ¬ 0 ≤ a.toInt - a.toInt.tdiv b.toInt * b.toInt := fun h => c1 (hx.mpr h)
    have c3 : a.toInt < 0 := by omega
    rw [if_pos ⟨c3, by omega⟩] at hq
    simp only [hma67, hc_on_some, hc_get, hc_put, hc_ri, hc_rl, hc_is, hc_row, hc_wr, hc_mov, hc_smi, hc_sml, hc_fv, hc_ld, hc_kd, hc_sto, hc_pre, hc_two, hc_inc, hc_psh, hc_kp, hc_k1, hc_np, hc_bk_rf, hc_bk_gA, hc_set_ap, hc_set_set, Value.category, List.getElem?_cons_zero, List.getElem?_cons_succ, List.set_cons_zero, List.set_cons_succ, List.length_cons, List.length_nil, List.map_cons, List.map_nil, reduceIte, Nat.reduceAdd, Nat.reduceSub, Nat.reduceBEq, Nat.reduceEqDiff, Nat.reduceLeDiff, Nat.reduceLT, true_and, and_true, Bool.false_eq_true, reduceCtorEq, if_true, if_false, hc_xx, hc_ofNat, hc_10, not_true_eq_false, not_false_eq_true, ge_iff_le, lgc_lt, lgc_ge, lgc_eq, c1, hz]
    have h3 : a.toInt ≤ a.toInt.tdiv b.toInt := (hn.2 c3).2.2.1
    have h4 := (hn.2 c3).2.2.2
    exact K _ (by rw [hq, i64_sub (by rw [i64_tdiv hb, h1']; omega) (by rw [i64_tdiv hb, h1']; omega), i64_tdiv hb, h1'])
theorem sp_inb {x y : Int32} : hc_wp G σ t 32 0 [some (.inl (.int x)), some (.inl (.int y))] [] Q = Q G σ t (some (.inl (.int (if inb x.toInt y.toInt then 1 else 0)))) := by
  have l1 : (-500000 : Int32).toInt = -500000 := rfl
  have l2 : (500000 : Int32).toInt = 500000 := rfl
  have e1 := Int32.lt_iff_toInt_lt (x := x) (y := -500000)
  have e2 := Int32.lt_iff_toInt_lt (x := 500000) (y := x)
  have e3 := Int32.lt_iff_toInt_lt (x := y) (y := -500000)
  have e4 := Int32.lt_iff_toInt_lt (x := 500000) (y := y)
  rw [l1] at e1 e3
  rw [l2] at e2 e4
  by_cases c1 : x < -500000
  · rw [if_neg (by rw [inb, ← Int.not_lt, ← Int.not_lt, ← Int.not_lt, ← Int.not_lt, ← e1, ← e2, ← e3, ← e4]; simp [c1])]
    simp only [hma32, hc_on_some, hc_get, hc_put, hc_ri, hc_rl, hc_is, hc_row, hc_wr, hc_mov, hc_smi, hc_sml, hc_fv, hc_ld, hc_kd, hc_sto, hc_pre, hc_two, hc_inc, hc_psh, hc_kp, hc_k1, hc_np, hc_bk_rf, hc_bk_gA, hc_set_ap, hc_set_set, Value.category, List.getElem?_cons_zero, List.getElem?_cons_succ, List.set_cons_zero, List.set_cons_succ, List.length_cons, List.length_nil, List.map_cons, List.map_nil, reduceIte, Nat.reduceAdd, Nat.reduceSub, Nat.reduceBEq, Nat.reduceEqDiff, Nat.reduceLeDiff, Nat.reduceLT, true_and, and_true, Bool.false_eq_true, reduceCtorEq, if_true, if_false, hc_xx, hc_ofNat, hc_10, not_true_eq_false, not_false_eq_true, ge_iff_le, c1, true_or, or_true]
  by_cases c2 : 500000 < x
  · rw [if_neg (by rw [inb, ← Int.not_lt, ← Int.not_lt, ← Int.not_lt, ← Int.not_lt, ← e1, ← e2, ← e3, ← e4]; simp [c1, c2])]
    simp only [hma32, hc_on_some, hc_get, hc_put, hc_ri, hc_rl, hc_is, hc_row, hc_wr, hc_mov, hc_smi, hc_sml, hc_fv, hc_ld, hc_kd, hc_sto, hc_pre, hc_two, hc_inc, hc_psh, hc_kp, hc_k1, hc_np, hc_bk_rf, hc_bk_gA, hc_set_ap, hc_set_set, Value.category, List.getElem?_cons_zero, List.getElem?_cons_succ, List.set_cons_zero, List.set_cons_succ, List.length_cons, List.length_nil, List.map_cons, List.map_nil, reduceIte, Nat.reduceAdd, Nat.reduceSub, Nat.reduceBEq, Nat.reduceEqDiff, Nat.reduceLeDiff, Nat.reduceLT, true_and, and_true, Bool.false_eq_true, reduceCtorEq, if_true, if_false, hc_xx, hc_ofNat, hc_10, not_true_eq_false, not_false_eq_true, ge_iff_le, c1, c2, true_or, or_true]
  by_cases c3 : y < -500000
  · rw [if_neg (by rw [inb, ← Int.not_lt, ← Int.not_lt, ← Int.not_lt, ← Int.not_lt, ← e1, ← e2, ← e3, ← e4]; simp [c1, c2, c3])]
    simp only [hma32, hc_on_some, hc_get, hc_put, hc_ri, hc_rl, hc_is, hc_row, hc_wr, hc_mov, hc_smi, hc_sml, hc_fv, hc_ld, hc_kd, hc_sto, hc_pre, hc_two, hc_inc, hc_psh, hc_kp, hc_k1, hc_np, hc_bk_rf, hc_bk_gA, hc_set_ap, hc_set_set, Value.category, List.getElem?_cons_zero, List.getElem?_cons_succ, List.set_cons_zero, List.set_cons_succ, List.length_cons, List.length_nil, List.map_cons, List.map_nil, reduceIte, Nat.reduceAdd, Nat.reduceSub, Nat.reduceBEq, Nat.reduceEqDiff, Nat.reduceLeDiff, Nat.reduceLT, true_and, and_true, Bool.false_eq_true, reduceCtorEq, if_true, if_false, hc_xx, hc_ofNat, hc_10, not_true_eq_false, not_false_eq_true, ge_iff_le, c1, c2, c3, true_or, or_true]
  by_cases c4 : 500000 < y
  · rw [if_neg (by rw [inb, ← Int.not_lt, ← Int.not_lt, ← Int.not_lt, ← Int.not_lt, ← e1, ← e2, ← e3, ← e4]; simp [c1, c2, c3, c4])]
    simp only [hma32, hc_on_some, hc_get, hc_put, hc_ri, hc_rl, hc_is, hc_row, hc_wr, hc_mov, hc_smi, hc_sml, hc_fv, hc_ld, hc_kd, hc_sto, hc_pre, hc_two, hc_inc, hc_psh, hc_kp, hc_k1, hc_np, hc_bk_rf, hc_bk_gA, hc_set_ap, hc_set_set, Value.category, List.getElem?_cons_zero, List.getElem?_cons_succ, List.set_cons_zero, List.set_cons_succ, List.length_cons, List.length_nil, List.map_cons, List.map_nil, reduceIte, Nat.reduceAdd, Nat.reduceSub, Nat.reduceBEq, Nat.reduceEqDiff, Nat.reduceLeDiff, Nat.reduceLT, true_and, and_true, Bool.false_eq_true, reduceCtorEq, if_true, if_false, hc_xx, hc_ofNat, hc_10, not_true_eq_false, not_false_eq_true, ge_iff_le, c1, c2, c3, c4, true_or, or_true]
  rw [if_pos (by rw [inb, ← Int.not_lt, ← Int.not_lt, ← Int.not_lt, ← Int.not_lt, ← e1, ← e2, ← e3, ← e4]; simp [c1, c2, c3, c4])]
  simp only [hma32, hc_on_some, hc_get, hc_put, hc_ri, hc_rl, hc_is, hc_row, hc_wr, hc_mov, hc_smi, hc_sml, hc_fv, hc_ld, hc_kd, hc_sto, hc_pre, hc_two, hc_inc, hc_psh, hc_kp, hc_k1, hc_np, hc_bk_rf, hc_bk_gA, hc_set_ap, hc_set_set, Value.category, List.getElem?_cons_zero, List.getElem?_cons_succ, List.set_cons_zero, List.set_cons_succ, List.length_cons, List.length_nil, List.map_cons, List.map_nil, reduceIte, Nat.reduceAdd, Nat.reduceSub, Nat.reduceBEq, Nat.reduceEqDiff, Nat.reduceLeDiff, Nat.reduceLT, true_and, and_true, Bool.false_eq_true, reduceCtorEq, if_true, if_false, hc_xx, hc_ofNat, hc_10, not_true_eq_false, not_false_eq_true, ge_iff_le, c1, c2, c3, c4, true_or, or_true]
theorem sp_isin {x y : Int32} : hc_wp G σ t 58 0 [some (.inl (.int x)), some (.inl (.int y))] [] Q = Q G σ t (some (.inl (.int (if inb x.toInt y.toInt then 1 else 0)))) := by
  have l1 : (-500000 : Int32).toInt = -500000 := rfl
  have l2 : (500000 : Int32).toInt = 500000 := rfl
  have e1 := Int32.lt_iff_toInt_lt (x := x) (y := -500000)
  have e2 := Int32.lt_iff_toInt_lt (x := 500000) (y := x)
  have e3 := Int32.lt_iff_toInt_lt (x := y) (y := -500000)
  have e4 := Int32.lt_iff_toInt_lt (x := 500000) (y := y)
  rw [l1] at e1 e3
  rw [l2] at e2 e4
  by_cases c1 : x < -500000
  · rw [if_neg (by rw [inb, ← Int.not_lt, ← Int.not_lt, ← Int.not_lt, ← Int.not_lt, ← e1, ← e2, ← e3, ← e4]; simp [c1])]
    simp only [hma58, hc_on_some, hc_get, hc_put, hc_ri, hc_rl, hc_is, hc_row, hc_wr, hc_mov, hc_smi, hc_sml, hc_fv, hc_ld, hc_kd, hc_sto, hc_pre, hc_two, hc_inc, hc_psh, hc_kp, hc_k1, hc_np, hc_bk_rf, hc_bk_gA, hc_set_ap, hc_set_set, Value.category, List.getElem?_cons_zero, List.getElem?_cons_succ, List.set_cons_zero, List.set_cons_succ, List.length_cons, List.length_nil, List.map_cons, List.map_nil, reduceIte, Nat.reduceAdd, Nat.reduceSub, Nat.reduceBEq, Nat.reduceEqDiff, Nat.reduceLeDiff, Nat.reduceLT, true_and, and_true, Bool.false_eq_true, reduceCtorEq, if_true, if_false, hc_xx, hc_ofNat, hc_10, not_true_eq_false, not_false_eq_true, ge_iff_le, c1, true_or, or_true]
  by_cases c2 : 500000 < x
  · rw [if_neg (by rw [inb, ← Int.not_lt, ← Int.not_lt, ← Int.not_lt, ← Int.not_lt, ← e1, ← e2, ← e3, ← e4]; simp [c1, c2])]
    simp only [hma58, hc_on_some, hc_get, hc_put, hc_ri, hc_rl, hc_is, hc_row, hc_wr, hc_mov, hc_smi, hc_sml, hc_fv, hc_ld, hc_kd, hc_sto, hc_pre, hc_two, hc_inc, hc_psh, hc_kp, hc_k1, hc_np, hc_bk_rf, hc_bk_gA, hc_set_ap, hc_set_set, Value.category, List.getElem?_cons_zero, List.getElem?_cons_succ, List.set_cons_zero, List.set_cons_succ, List.length_cons, List.length_nil, List.map_cons, List.map_nil, reduceIte, Nat.reduceAdd, Nat.reduceSub, Nat.reduceBEq, Nat.reduceEqDiff, Nat.reduceLeDiff, Nat.reduceLT, true_and, and_true, Bool.false_eq_true, reduceCtorEq, if_true, if_false, hc_xx, hc_ofNat, hc_10, not_true_eq_false, not_false_eq_true, ge_iff_le, c1, c2, true_or, or_true]
  by_cases c3 : y < -500000
  · rw [if_neg (by rw [inb, ← Int.not_lt, ← Int.not_lt, ← Int.not_lt, ← Int.not_lt, ← e1, ← e2, ← e3, ← e4]; simp [c1, c2, c3])]
    simp only [hma58, hc_on_some, hc_get, hc_put, hc_ri, hc_rl, hc_is, hc_row, hc_wr, hc_mov, hc_smi, hc_sml, hc_fv, hc_ld, hc_kd, hc_sto, hc_pre, hc_two, hc_inc, hc_psh, hc_kp, hc_k1, hc_np, hc_bk_rf, hc_bk_gA, hc_set_ap, hc_set_set, Value.category, List.getElem?_cons_zero, List.getElem?_cons_succ, List.set_cons_zero, List.set_cons_succ, List.length_cons, List.length_nil, List.map_cons, List.map_nil, reduceIte, Nat.reduceAdd, Nat.reduceSub, Nat.reduceBEq, Nat.reduceEqDiff, Nat.reduceLeDiff, Nat.reduceLT, true_and, and_true, Bool.false_eq_true, reduceCtorEq, if_true, if_false, hc_xx, hc_ofNat, hc_10, not_true_eq_false, not_false_eq_true, ge_iff_le, c1, c2, c3, true_or, or_true]
  by_cases c4 : 500000 < y
  · rw [if_neg (by rw [inb, ← Int.not_lt, ← Int.not_lt, ← Int.not_lt, ← Int.not_lt, ← e1, ← e2, ← e3, ← e4]; simp [c1, c2, c3, c4])]
    simp only [hma58, hc_on_some, hc_get, hc_put, hc_ri, hc_rl, hc_is, hc_row, hc_wr, hc_mov, hc_smi, hc_sml, hc_fv, hc_ld, hc_kd, hc_sto, hc_pre, hc_two, hc_inc, hc_psh, hc_kp, hc_k1, hc_np, hc_bk_rf, hc_bk_gA, hc_set_ap, hc_set_set, Value.category, List.getElem?_cons_zero, List.getElem?_cons_succ, List.set_cons_zero, List.set_cons_succ, List.length_cons, List.length_nil, List.map_cons, List.map_nil, reduceIte, Nat.reduceAdd, Nat.reduceSub, Nat.reduceBEq, Nat.reduceEqDiff, Nat.reduceLeDiff, Nat.reduceLT, true_and, and_true, Bool.false_eq_true, reduceCtorEq, if_true, if_false, hc_xx, hc_ofNat, hc_10, not_true_eq_false, not_false_eq_true, ge_iff_le, c1, c2, c3, c4, true_or, or_true]
  rw [if_pos (by rw [inb, ← Int.not_lt, ← Int.not_lt, ← Int.not_lt, ← Int.not_lt, ← e1, ← e2, ← e3, ← e4]; simp [c1, c2, c3, c4])]
  simp only [hma58, hc_on_some, hc_get, hc_put, hc_ri, hc_rl, hc_is, hc_row, hc_wr, hc_mov, hc_smi, hc_sml, hc_fv, hc_ld, hc_kd, hc_sto, hc_pre, hc_two, hc_inc, hc_psh, hc_kp, hc_k1, hc_np, hc_bk_rf, hc_bk_gA, hc_set_ap, hc_set_set, Value.category, List.getElem?_cons_zero, List.getElem?_cons_succ, List.set_cons_zero, List.set_cons_succ, List.length_cons, List.length_nil, List.map_cons, List.map_nil, reduceIte, Nat.reduceAdd, Nat.reduceSub, Nat.reduceBEq, Nat.reduceEqDiff, Nat.reduceLeDiff, Nat.reduceLT, true_and, and_true, Bool.false_eq_true, reduceCtorEq, if_true, if_false, hc_xx, hc_ofNat, hc_10, not_true_eq_false, not_false_eq_true, ge_iff_le, c1, c2, c3, c4, true_or, or_true]
end S25
