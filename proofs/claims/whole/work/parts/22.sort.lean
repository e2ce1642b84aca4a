/-! sorting: Keys.sink, Keys.sort, and the same of the reference's Places -/
def tI (f : Nat → Int64) : Nat → Int := fun i => (f i).toInt
theorem tI_upd (f : Nat → Int64) (k : Nat) (x : Int64) : tI (vp_updL f k x) = uI (tI f) k x.toInt := by
  funext i
  simp only [tI, vp_updL, uI]
  split <;> rfl
theorem hc_set_id {σ : hc_H} {k : Nat} {o : hc_O} (h : σ k = some o) : hc_set σ k o = σ := by
  funext i
  simp only [hc_set]
  split
  · rename_i e
    rw [e, h]
  · rfl
theorem CJ_range (f : Nat → Int64) (n : Nat) : CJ f ((List.range n).map (tI f)) := by
  intro i v hi
  have hl := (List.getElem?_eq_some_iff.mp hi).1
  simp only [List.length_map, List.length_range] at hl
  rw [List.getElem?_map, List.getElem?_range hl] at hi
  exact Option.some.inj hi
theorem CJ_list {f : Nat → Int64} {l : List Int} (h : CJ f l) : (List.range l.length).map (tI f) = l := by
  apply List.ext_getElem?
  intro i
  by_cases hi : i < l.length
  · rw [List.getElem?_map, List.getElem?_range hi, List.getElem?_eq_getElem hi]
    show some (f i).toInt = _
    rw [h.at hi]
  · rw [List.getElem?_eq_none (by simp; omega), List.getElem?_eq_none (by omega)]
section S22
variable {G : hc_G} {σ : hc_H} {Q : hc_Q}
theorem sp_ksink_loop {k n c e place : Nat} {key : Int64} {F : Nat → Int} (hn : n ≤ c) (hc : c ≤ 2 ^ 20) (hen : e ≤ n) (K : ∀ f', Hp (tI f') place e → (∀ v, cn (tI f') e v = cn F e v) → (∀ i, i < place ∨ e ≤ i → tI f' i = F i) → Q G (hc_set σ k (oKs n c f')) none none) : ∀ (d hole : Nat) (f : Nat → Int64), e ≤ hole + d → Sk F place e key.toInt (tI f) hole → hc_wp G (hc_set σ k (oKs n c f)) none 3 18 [some (.inl (.ref k)), some (.inl (.int (nI place))), some (.inl (.int (nI e))), some (.inl (.long key)), none, some (.inl (.int (nI hole))), some (.inl (.int (nI (2 * hole + 1))))] [] Q := by
  intro d
  induction d with
  | zero =>
    intro hole f hd hS
    have := hS.2.1
    omega
  | succ d ih =>
    intro hole f hd hS
    have hhe := hS.2.1
    have i1 : hc_inn (nI hole) c := inn_nI (by omega) (by omega)
    have z1 : (nI hole).toNatClampNeg = hole := nI_clamp (by omega)
    have e0 : ∀ h, 2 * nI h + 1 = nI (2 * h + 1) := fun h => by rw [show 2 * nI h = nI (2 * h) from pk_mul 2 h, nI_1]
    have fin : ∀ (hc2 : ∀ c', c' = 2 * hole + 1 ∨ c' = 2 * hole + 2 → c' < e → tI f c' ≤ key.toInt), Q G (hc_set σ k (oKs n c (vp_updL f hole key))) none none := by
      intro hc2
      obtain ⟨a1, a2, a3⟩ := hS.stop hc2
      rw [← tI_upd] at a1 a2 a3
      exact K _ a1 a2 a3
    rw [hm3_18]
    by_cases h1 : 2 * hole + 1 < e
    · have e1 : ¬ nI e ≤ nI (2 * hole + 1) := nI_ge h1 (by omega)
      by_cases h2 : 2 * hole + 1 + 1 < e
      · have e2 : ¬ nI e ≤ nI (2 * hole + 1 + 1) := nI_ge h2 (by omega)
        have i3 : hc_inn (nI (2 * hole + 1)) c := inn_nI (by omega) (by omega)
        have i4 : hc_inn (nI (2 * hole + 1 + 1)) c := inn_nI (by omega) (by omega)
        have z3 : (nI (2 * hole + 1)).toNatClampNeg = 2 * hole + 1 := nI_clamp (by omega)
        have z4 : (nI (2 * hole + 1 + 1)).toNatClampNeg = 2 * hole + 1 + 1 := nI_clamp (by omega)
        by_cases h3 : f (2 * hole + 1 + 1) ≤ f (2 * hole + 1)
        ·
          have mx : ∀ d' : Nat, d' = 2 * hole + 1 ∨ d' = 2 * hole + 2 → d' < e → tI f d' ≤ tI f (2 * hole + 1) := (fun d' q1 q2 => by
            have h6 := h3
            rw [Int64.le_iff_toInt_le] at h6
            rcases q1 with rfl | rfl
            · exact Int.le_refl _
            · exact h6)
          have i2 : hc_inn (nI (2 * hole + 1)) c := inn_nI (by omega) (by omega)
          have z2 : (nI (2 * hole + 1)).toNatClampNeg = 2 * hole + 1 := nI_clamp (by omega)
          by_cases h4 : key < f (2 * hole + 1)
          · have sk := hS.step (c := 2 * hole + 1) (by omega) (by omega) mx (Int64.lt_iff_toInt_lt.mp h4)
            have sk2 : Sk F place e key.toInt (tI (vp_updL f hole (f (2 * hole + 1)))) (2 * hole + 1) := by rw [tI_upd]; exact sk
            have h4b : ¬ f (2 * hole + 1) ≤ key := Int64.not_le.mpr h4
            simp only [hma3, hma3_1, hc_on_some, hc_get, hc_put, hc_ri, hc_rl, hc_is, hc_row, hc_wr, hc_mov, hc_smi, hc_sml, hc_fv, hc_ld, hc_kd, hc_sto, hc_pre, hc_two, hc_inc, hc_psh, hc_kp, hc_k1, hc_np, hc_bk_rf, hc_bk_gA, hc_set_ap, hc_set_set, Value.category, List.getElem?_cons_zero, List.getElem?_cons_succ, List.set_cons_zero, List.set_cons_succ, List.length_cons, List.length_nil, List.map_cons, List.map_nil, reduceIte, Nat.reduceAdd, Nat.reduceSub, Nat.reduceBEq, Nat.reduceEqDiff, Nat.reduceLeDiff, Nat.reduceLT, true_and, and_true, Bool.false_eq_true, reduceCtorEq, if_true, if_false, hc_xx, hc_ofNat, hc_10, not_true_eq_false, not_false_eq_true, ge_iff_le, hc_set_at, oKs, e1, e2, i3, i4, z3, z4, h3, i1, i2, z1, z2, h4, nI_1, e0, lgc_le, lgc_gt]
            exact ih (2 * hole + 1) _ (by omega) sk2
          · have h4b : f (2 * hole + 1) ≤ key := Int64.not_lt.mp h4
            have fin2 := fin fun c' q1 q2 => by
              have := mx c' q1 q2
              have h5 := Int64.not_lt.mp h4
              rw [Int64.le_iff_toInt_le] at h5
              exact Int.le_trans this h5
            simp only [hma3, hma3_1, hc_on_some, hc_get, hc_put, hc_ri, hc_rl, hc_is, hc_row, hc_wr, hc_mov, hc_smi, hc_sml, hc_fv, hc_ld, hc_kd, hc_sto, hc_pre, hc_two, hc_inc, hc_psh, hc_kp, hc_k1, hc_np, hc_bk_rf, hc_bk_gA, hc_set_ap, hc_set_set, Value.category, List.getElem?_cons_zero, List.getElem?_cons_succ, List.set_cons_zero, List.set_cons_succ, List.length_cons, List.length_nil, List.map_cons, List.map_nil, reduceIte, Nat.reduceAdd, Nat.reduceSub, Nat.reduceBEq, Nat.reduceEqDiff, Nat.reduceLeDiff, Nat.reduceLT, true_and, and_true, Bool.false_eq_true, reduceCtorEq, if_true, if_false, hc_xx, hc_ofNat, hc_10, not_true_eq_false, not_false_eq_true, ge_iff_le, hc_set_at, oKs, e1, e2, i3, i4, z3, z4, h3, i1, i2, z1, z2, h4, nI_1, e0, lgc_le, lgc_gt]
            exact fin2
        ·
          have mx : ∀ d' : Nat, d' = 2 * hole + 1 ∨ d' = 2 * hole + 2 → d' < e → tI f d' ≤ tI f (2 * hole + 1 + 1) := (fun d' q1 q2 => by
            have h6 := Int64.not_le.mp h3
            rw [Int64.lt_iff_toInt_lt] at h6
            rcases q1 with rfl | rfl
            · exact Int.le_of_lt h6
            · exact Int.le_refl _)
          have i2 : hc_inn (nI (2 * hole + 1 + 1)) c := inn_nI (by omega) (by omega)
          have z2 : (nI (2 * hole + 1 + 1)).toNatClampNeg = 2 * hole + 1 + 1 := nI_clamp (by omega)
          by_cases h4 : key < f (2 * hole + 1 + 1)
          · have sk := hS.step (c := 2 * hole + 1 + 1) (by omega) (by omega) mx (Int64.lt_iff_toInt_lt.mp h4)
            have sk2 : Sk F place e key.toInt (tI (vp_updL f hole (f (2 * hole + 1 + 1)))) (2 * hole + 1 + 1) := by rw [tI_upd]; exact sk
            have h4b : ¬ f (2 * hole + 1 + 1) ≤ key := Int64.not_le.mpr h4
            simp only [hma3, hma3_1, hc_on_some, hc_get, hc_put, hc_ri, hc_rl, hc_is, hc_row, hc_wr, hc_mov, hc_smi, hc_sml, hc_fv, hc_ld, hc_kd, hc_sto, hc_pre, hc_two, hc_inc, hc_psh, hc_kp, hc_k1, hc_np, hc_bk_rf, hc_bk_gA, hc_set_ap, hc_set_set, Value.category, List.getElem?_cons_zero, List.getElem?_cons_succ, List.set_cons_zero, List.set_cons_succ, List.length_cons, List.length_nil, List.map_cons, List.map_nil, reduceIte, Nat.reduceAdd, Nat.reduceSub, Nat.reduceBEq, Nat.reduceEqDiff, Nat.reduceLeDiff, Nat.reduceLT, true_and, and_true, Bool.false_eq_true, reduceCtorEq, if_true, if_false, hc_xx, hc_ofNat, hc_10, not_true_eq_false, not_false_eq_true, ge_iff_le, hc_set_at, oKs, e1, e2, i3, i4, z3, z4, h3, i1, i2, z1, z2, h4, nI_1, e0, lgc_le, lgc_gt]
            exact ih (2 * hole + 1 + 1) _ (by omega) sk2
          · have h4b : f (2 * hole + 1 + 1) ≤ key := Int64.not_lt.mp h4
            have fin2 := fin fun c' q1 q2 => by
              have := mx c' q1 q2
              have h5 := Int64.not_lt.mp h4
              rw [Int64.le_iff_toInt_le] at h5
              exact Int.le_trans this h5
            simp only [hma3, hma3_1, hc_on_some, hc_get, hc_put, hc_ri, hc_rl, hc_is, hc_row, hc_wr, hc_mov, hc_smi, hc_sml, hc_fv, hc_ld, hc_kd, hc_sto, hc_pre, hc_two, hc_inc, hc_psh, hc_kp, hc_k1, hc_np, hc_bk_rf, hc_bk_gA, hc_set_ap, hc_set_set, Value.category, List.getElem?_cons_zero, List.getElem?_cons_succ, List.set_cons_zero, List.set_cons_succ, List.length_cons, List.length_nil, List.map_cons, List.map_nil, reduceIte, Nat.reduceAdd, Nat.reduceSub, Nat.reduceBEq, Nat.reduceEqDiff, Nat.reduceLeDiff, Nat.reduceLT, true_and, and_true, Bool.false_eq_true, reduceCtorEq, if_true, if_false, hc_xx, hc_ofNat, hc_10, not_true_eq_false, not_false_eq_true, ge_iff_le, hc_set_at, oKs, e1, e2, i3, i4, z3, z4, h3, i1, i2, z1, z2, h4, nI_1, e0, lgc_le, lgc_gt]
            exact fin2
      · have e2 : nI e ≤ nI (2 * hole + 1 + 1) := nI_le (by omega) (by omega)
        have mx : ∀ d' : Nat, d' = 2 * hole + 1 ∨ d' = 2 * hole + 2 → d' < e → tI f d' ≤ tI f (2 * hole + 1) := (fun d' q1 q2 => by
            rcases q1 with rfl | rfl
            · exact Int.le_refl _
            · omega)
        have i2 : hc_inn (nI (2 * hole + 1)) c := inn_nI (by omega) (by omega)
        have z2 : (nI (2 * hole + 1)).toNatClampNeg = 2 * hole + 1 := nI_clamp (by omega)
        by_cases h4 : key < f (2 * hole + 1)
        · have sk := hS.step (c := 2 * hole + 1) (by omega) (by omega) mx (Int64.lt_iff_toInt_lt.mp h4)
          have sk2 : Sk F place e key.toInt (tI (vp_updL f hole (f (2 * hole + 1)))) (2 * hole + 1) := by rw [tI_upd]; exact sk
          have h4b : ¬ f (2 * hole + 1) ≤ key := Int64.not_le.mpr h4
          simp only [hma3, hma3_1, hc_on_some, hc_get, hc_put, hc_ri, hc_rl, hc_is, hc_row, hc_wr, hc_mov, hc_smi, hc_sml, hc_fv, hc_ld, hc_kd, hc_sto, hc_pre, hc_two, hc_inc, hc_psh, hc_kp, hc_k1, hc_np, hc_bk_rf, hc_bk_gA, hc_set_ap, hc_set_set, Value.category, List.getElem?_cons_zero, List.getElem?_cons_succ, List.set_cons_zero, List.set_cons_succ, List.length_cons, List.length_nil, List.map_cons, List.map_nil, reduceIte, Nat.reduceAdd, Nat.reduceSub, Nat.reduceBEq, Nat.reduceEqDiff, Nat.reduceLeDiff, Nat.reduceLT, true_and, and_true, Bool.false_eq_true, reduceCtorEq, if_true, if_false, hc_xx, hc_ofNat, hc_10, not_true_eq_false, not_false_eq_true, ge_iff_le, hc_set_at, oKs, e1, e2, i1, i2, z1, z2, h4, nI_1, e0, lgc_le, lgc_gt]
          exact ih (2 * hole + 1) _ (by omega) sk2
        · have h4b : f (2 * hole + 1) ≤ key := Int64.not_lt.mp h4
          have fin2 := fin fun c' q1 q2 => by
            have := mx c' q1 q2
            have h5 := Int64.not_lt.mp h4
            rw [Int64.le_iff_toInt_le] at h5
            exact Int.le_trans this h5
          simp only [hma3, hma3_1, hc_on_some, hc_get, hc_put, hc_ri, hc_rl, hc_is, hc_row, hc_wr, hc_mov, hc_smi, hc_sml, hc_fv, hc_ld, hc_kd, hc_sto, hc_pre, hc_two, hc_inc, hc_psh, hc_kp, hc_k1, hc_np, hc_bk_rf, hc_bk_gA, hc_set_ap, hc_set_set, Value.category, List.getElem?_cons_zero, List.getElem?_cons_succ, List.set_cons_zero, List.set_cons_succ, List.length_cons, List.length_nil, List.map_cons, List.map_nil, reduceIte, Nat.reduceAdd, Nat.reduceSub, Nat.reduceBEq, Nat.reduceEqDiff, Nat.reduceLeDiff, Nat.reduceLT, true_and, and_true, Bool.false_eq_true, reduceCtorEq, if_true, if_false, hc_xx, hc_ofNat, hc_10, not_true_eq_false, not_false_eq_true, ge_iff_le, hc_set_at, oKs, e1, e2, i1, i2, z1, z2, h4, nI_1, e0, lgc_le, lgc_gt]
          exact fin2
    · have e1 : nI e ≤ nI (2 * hole + 1) := nI_le (by omega) (by omega)
      have fin2 := fin fun c' q1 q2 => by omega
      simp only [hma3, hma3_1, hc_on_some, hc_get, hc_put, hc_ri, hc_rl, hc_is, hc_row, hc_wr, hc_mov, hc_smi, hc_sml, hc_fv, hc_ld, hc_kd, hc_sto, hc_pre, hc_two, hc_inc, hc_psh, hc_kp, hc_k1, hc_np, hc_bk_rf, hc_bk_gA, hc_set_ap, hc_set_set, Value.category, List.getElem?_cons_zero, List.getElem?_cons_succ, List.set_cons_zero, List.set_cons_succ, List.length_cons, List.length_nil, List.map_cons, List.map_nil, reduceIte, Nat.reduceAdd, Nat.reduceSub, Nat.reduceBEq, Nat.reduceEqDiff, Nat.reduceLeDiff, Nat.reduceLT, true_and, and_true, Bool.false_eq_true, reduceCtorEq, if_true, if_false, hc_xx, hc_ofNat, hc_10, not_true_eq_false, not_false_eq_true, ge_iff_le, hc_set_at, oKs, e1, i1, z1, nI_1, e0]
      exact fin2
theorem sp_msink_loop {k n c e place : Nat} {key : Int64} {F : Nat → Int} (hn : n ≤ c) (hc : c ≤ 2 ^ 20) (hen : e ≤ n) (K : ∀ f', Hp (tI f') place e → (∀ v, cn (tI f') e v = cn F e v) → (∀ i, i < place ∨ e ≤ i → tI f' i = F i) → Q G (hc_set σ k (oMp n c f')) none none) : ∀ (d hole : Nat) (f : Nat → Int64) (x7 : Option Value), e ≤ hole + d → Sk F place e key.toInt (tI f) hole → hc_wp G (hc_set σ k (oMp n c f)) none 50 26 [some (.inl (.ref k)), some (.inl (.int (nI place))), some (.inl (.int (nI e))), some (.inl (.int (nI hole))), some (.inl (.long key)), none, some (.inl (.int (if 2 * hole + 1 < e then 1 else 0))), (x7.map Sum.inl)] [] Q := by
  intro d
  induction d with
  | zero =>
    intro hole f x7 hd hS
    have := hS.2.1
    omega
  | succ d ih =>
    intro hole f x7 hd hS
    have hhe := hS.2.1
    have i1 : hc_inn (nI hole) c := inn_nI (by omega) (by omega)
    have z1 : (nI hole).toNatClampNeg = hole := nI_clamp (by omega)
    have e0 : ∀ h, 2 * nI h + 1 = nI (2 * h + 1) := fun h => by rw [show 2 * nI h = nI (2 * h) from pk_mul 2 h, nI_1]
    have fin : ∀ (hc2 : ∀ c', c' = 2 * hole + 1 ∨ c' = 2 * hole + 2 → c' < e → tI f c' ≤ key.toInt), Q G (hc_set σ k (oMp n c (vp_updL f hole key))) none none := by
      intro hc2
      obtain ⟨a1, a2, a3⟩ := hS.stop hc2
      rw [← tI_upd] at a1 a2 a3
      exact K _ a1 a2 a3
    rw [hm50_26]
    by_cases h1 : 2 * hole + 1 < e
    · have e1 : ¬ nI e ≤ nI (2 * hole + 1) := nI_ge h1 (by omega)
      rw [show ((if 2 * hole + 1 < e then 1 else 0 : Int32)) = 1 from if_pos h1]
      by_cases h2 : 2 * hole + 1 + 1 < e
      · have e2 : ¬ nI e ≤ nI (2 * hole + 1 + 1) := nI_ge h2 (by omega)
        have i3 : hc_inn (nI (2 * hole + 1)) c := inn_nI (by omega) (by omega)
        have i4 : hc_inn (nI (2 * hole + 1 + 1)) c := inn_nI (by omega) (by omega)
        have z3 : (nI (2 * hole + 1)).toNatClampNeg = 2 * hole + 1 := nI_clamp (by omega)
        have z4 : (nI (2 * hole + 1 + 1)).toNatClampNeg = 2 * hole + 1 + 1 := nI_clamp (by omega)
        by_cases h3 : f (2 * hole + 1 + 1) ≤ f (2 * hole + 1)
        ·
          have mx : ∀ d' : Nat, d' = 2 * hole + 1 ∨ d' = 2 * hole + 2 → d' < e → tI f d' ≤ tI f (2 * hole + 1) := (fun d' q1 q2 => by
            have h6 := h3
            rw [Int64.le_iff_toInt_le] at h6
            rcases q1 with rfl | rfl
            · exact Int.le_refl _
            · exact h6)
          have i2 : hc_inn (nI (2 * hole + 1)) c := inn_nI (by omega) (by omega)
          have z2 : (nI (2 * hole + 1)).toNatClampNeg = 2 * hole + 1 := nI_clamp (by omega)
          by_cases h4 : key < f (2 * hole + 1)
          · have sk := hS.step (c := 2 * hole + 1) (by omega) (by omega) mx (Int64.lt_iff_toInt_lt.mp h4)
            have sk2 : Sk F place e key.toInt (tI (vp_updL f hole (f (2 * hole + 1)))) (2 * hole + 1) := by rw [tI_upd]; exact sk
            have h4b : ¬ f (2 * hole + 1) ≤ key := Int64.not_le.mpr h4
            have e6 : (nI (2 * (2 * hole + 1) + 1) < nI e) = (2 * (2 * hole + 1) + 1 < e) := by rw [nI_ltI (by omega) (by omega)]
            by_cases h5 : 2 * (2 * hole + 1) + 1 < e
            · have e7 : ¬ nI e ≤ nI (2 * (2 * hole + 1) + 1) := nI_ge h5 (by omega)
              have ih2 := ih (2 * hole + 1) _ (some (.int (nI (2 * hole + 1)))) (by omega) sk2
              rw [if_pos h5] at ih2
              simp only [hma50, hma50_1, hc_on_some, hc_get, hc_put, hc_ri, hc_rl, hc_is, hc_row, hc_wr, hc_mov, hc_smi, hc_sml, hc_fv, hc_ld, hc_kd, hc_sto, hc_pre, hc_two, hc_inc, hc_psh, hc_kp, hc_k1, hc_np, hc_bk_rf, hc_bk_gA, hc_set_ap, hc_set_set, Value.category, List.getElem?_cons_zero, List.getElem?_cons_succ, List.set_cons_zero, List.set_cons_succ, List.length_cons, List.length_nil, List.map_cons, List.map_nil, reduceIte, Nat.reduceAdd, Nat.reduceSub, Nat.reduceBEq, Nat.reduceEqDiff, Nat.reduceLeDiff, Nat.reduceLT, true_and, and_true, Bool.false_eq_true, reduceCtorEq, if_true, if_false, hc_xx, hc_ofNat, hc_10, not_true_eq_false, not_false_eq_true, ge_iff_le, hc_set_at, oMp, e1, e2, i3, i4, z3, z4, h3, i1, i2, z1, z2, h4, h4b, nI_1, e0, e7, lgc_le, lgc_gt, Option.map_some]
              exact ih2
            · have e7 : nI e ≤ nI (2 * (2 * hole + 1) + 1) := nI_le (by omega) (by omega)
              have ih2 := ih (2 * hole + 1) _ (some (.int (nI (2 * hole + 1)))) (by omega) sk2
              rw [if_neg h5] at ih2
              simp only [hma50, hma50_1, hc_on_some, hc_get, hc_put, hc_ri, hc_rl, hc_is, hc_row, hc_wr, hc_mov, hc_smi, hc_sml, hc_fv, hc_ld, hc_kd, hc_sto, hc_pre, hc_two, hc_inc, hc_psh, hc_kp, hc_k1, hc_np, hc_bk_rf, hc_bk_gA, hc_set_ap, hc_set_set, Value.category, List.getElem?_cons_zero, List.getElem?_cons_succ, List.set_cons_zero, List.set_cons_succ, List.length_cons, List.length_nil, List.map_cons, List.map_nil, reduceIte, Nat.reduceAdd, Nat.reduceSub, Nat.reduceBEq, Nat.reduceEqDiff, Nat.reduceLeDiff, Nat.reduceLT, true_and, and_true, Bool.false_eq_true, reduceCtorEq, if_true, if_false, hc_xx, hc_ofNat, hc_10, not_true_eq_false, not_false_eq_true, ge_iff_le, hc_set_at, oMp, e1, e2, i3, i4, z3, z4, h3, i1, i2, z1, z2, h4, h4b, nI_1, e0, e7, lgc_le, lgc_gt, Option.map_some]
              exact ih2
          · have h4b : f (2 * hole + 1) ≤ key := Int64.not_lt.mp h4
            have fin2 := fin fun c' q1 q2 => by
              have := mx c' q1 q2
              have h5 := Int64.not_lt.mp h4
              rw [Int64.le_iff_toInt_le] at h5
              exact Int.le_trans this h5
            simp only [hma50, hma50_1, hc_on_some, hc_get, hc_put, hc_ri, hc_rl, hc_is, hc_row, hc_wr, hc_mov, hc_smi, hc_sml, hc_fv, hc_ld, hc_kd, hc_sto, hc_pre, hc_two, hc_inc, hc_psh, hc_kp, hc_k1, hc_np, hc_bk_rf, hc_bk_gA, hc_set_ap, hc_set_set, Value.category, List.getElem?_cons_zero, List.getElem?_cons_succ, List.set_cons_zero, List.set_cons_succ, List.length_cons, List.length_nil, List.map_cons, List.map_nil, reduceIte, Nat.reduceAdd, Nat.reduceSub, Nat.reduceBEq, Nat.reduceEqDiff, Nat.reduceLeDiff, Nat.reduceLT, true_and, and_true, Bool.false_eq_true, reduceCtorEq, if_true, if_false, hc_xx, hc_ofNat, hc_10, not_true_eq_false, not_false_eq_true, ge_iff_le, hc_set_at, oMp, e1, e2, i3, i4, z3, z4, h3, i1, i2, z1, z2, h4, h4b, nI_1, e0, lgc_le, lgc_gt]
            rw [hm50_26]
            simp only [hma50, hma50_1, hc_on_some, hc_get, hc_put, hc_ri, hc_rl, hc_is, hc_row, hc_wr, hc_mov, hc_smi, hc_sml, hc_fv, hc_ld, hc_kd, hc_sto, hc_pre, hc_two, hc_inc, hc_psh, hc_kp, hc_k1, hc_np, hc_bk_rf, hc_bk_gA, hc_set_ap, hc_set_set, Value.category, List.getElem?_cons_zero, List.getElem?_cons_succ, List.set_cons_zero, List.set_cons_succ, List.length_cons, List.length_nil, List.map_cons, List.map_nil, reduceIte, Nat.reduceAdd, Nat.reduceSub, Nat.reduceBEq, Nat.reduceEqDiff, Nat.reduceLeDiff, Nat.reduceLT, true_and, and_true, Bool.false_eq_true, reduceCtorEq, if_true, if_false, hc_xx, hc_ofNat, hc_10, not_true_eq_false, not_false_eq_true, ge_iff_le, hc_set_at, oMp, i1, z1]
            exact fin2
        ·
          have mx : ∀ d' : Nat, d' = 2 * hole + 1 ∨ d' = 2 * hole + 2 → d' < e → tI f d' ≤ tI f (2 * hole + 1 + 1) := (fun d' q1 q2 => by
            have h6 := Int64.not_le.mp h3
            rw [Int64.lt_iff_toInt_lt] at h6
            rcases q1 with rfl | rfl
            · exact Int.le_of_lt h6
            · exact Int.le_refl _)
          have i2 : hc_inn (nI (2 * hole + 1 + 1)) c := inn_nI (by omega) (by omega)
          have z2 : (nI (2 * hole + 1 + 1)).toNatClampNeg = 2 * hole + 1 + 1 := nI_clamp (by omega)
          by_cases h4 : key < f (2 * hole + 1 + 1)
          · have sk := hS.step (c := 2 * hole + 1 + 1) (by omega) (by omega) mx (Int64.lt_iff_toInt_lt.mp h4)
            have sk2 : Sk F place e key.toInt (tI (vp_updL f hole (f (2 * hole + 1 + 1)))) (2 * hole + 1 + 1) := by rw [tI_upd]; exact sk
            have h4b : ¬ f (2 * hole + 1 + 1) ≤ key := Int64.not_le.mpr h4
            have e6 : (nI (2 * (2 * hole + 1 + 1) + 1) < nI e) = (2 * (2 * hole + 1 + 1) + 1 < e) := by rw [nI_ltI (by omega) (by omega)]
            by_cases h5 : 2 * (2 * hole + 1 + 1) + 1 < e
            · have e7 : ¬ nI e ≤ nI (2 * (2 * hole + 1 + 1) + 1) := nI_ge h5 (by omega)
              have ih2 := ih (2 * hole + 1 + 1) _ (some (.int (nI (2 * hole + 1 + 1)))) (by omega) sk2
              rw [if_pos h5] at ih2
              simp only [hma50, hma50_1, hc_on_some, hc_get, hc_put, hc_ri, hc_rl, hc_is, hc_row, hc_wr, hc_mov, hc_smi, hc_sml, hc_fv, hc_ld, hc_kd, hc_sto, hc_pre, hc_two, hc_inc, hc_psh, hc_kp, hc_k1, hc_np, hc_bk_rf, hc_bk_gA, hc_set_ap, hc_set_set, Value.category, List.getElem?_cons_zero, List.getElem?_cons_succ, List.set_cons_zero, List.set_cons_succ, List.length_cons, List.length_nil, List.map_cons, List.map_nil, reduceIte, Nat.reduceAdd, Nat.reduceSub, Nat.reduceBEq, Nat.reduceEqDiff, Nat.reduceLeDiff, Nat.reduceLT, true_and, and_true, Bool.false_eq_true, reduceCtorEq, if_true, if_false, hc_xx, hc_ofNat, hc_10, not_true_eq_false, not_false_eq_true, ge_iff_le, hc_set_at, oMp, e1, e2, i3, i4, z3, z4, h3, i1, i2, z1, z2, h4, h4b, nI_1, e0, e7, lgc_le, lgc_gt, Option.map_some]
              exact ih2
            · have e7 : nI e ≤ nI (2 * (2 * hole + 1 + 1) + 1) := nI_le (by omega) (by omega)
              have ih2 := ih (2 * hole + 1 + 1) _ (some (.int (nI (2 * hole + 1 + 1)))) (by omega) sk2
              rw [if_neg h5] at ih2
              simp only [hma50, hma50_1, hc_on_some, hc_get, hc_put, hc_ri, hc_rl, hc_is, hc_row, hc_wr, hc_mov, hc_smi, hc_sml, hc_fv, hc_ld, hc_kd, hc_sto, hc_pre, hc_two, hc_inc, hc_psh, hc_kp, hc_k1, hc_np, hc_bk_rf, hc_bk_gA, hc_set_ap, hc_set_set, Value.category, List.getElem?_cons_zero, List.getElem?_cons_succ, List.set_cons_zero, List.set_cons_succ, List.length_cons, List.length_nil, List.map_cons, List.map_nil, reduceIte, Nat.reduceAdd, Nat.reduceSub, Nat.reduceBEq, Nat.reduceEqDiff, Nat.reduceLeDiff, Nat.reduceLT, true_and, and_true, Bool.false_eq_true, reduceCtorEq, if_true, if_false, hc_xx, hc_ofNat, hc_10, not_true_eq_false, not_false_eq_true, ge_iff_le, hc_set_at, oMp, e1, e2, i3, i4, z3, z4, h3, i1, i2, z1, z2, h4, h4b, nI_1, e0, e7, lgc_le, lgc_gt, Option.map_some]
              exact ih2
          · have h4b : f (2 * hole + 1 + 1) ≤ key := Int64.not_lt.mp h4
            have fin2 := fin fun c' q1 q2 => by
              have := mx c' q1 q2
              have h5 := Int64.not_lt.mp h4
              rw [Int64.le_iff_toInt_le] at h5
              exact Int.le_trans this h5
            simp only [hma50, hma50_1, hc_on_some, hc_get, hc_put, hc_ri, hc_rl, hc_is, hc_row, hc_wr, hc_mov, hc_smi, hc_sml, hc_fv, hc_ld, hc_kd, hc_sto, hc_pre, hc_two, hc_inc, hc_psh, hc_kp, hc_k1, hc_np, hc_bk_rf, hc_bk_gA, hc_set_ap, hc_set_set, Value.category, List.getElem?_cons_zero, List.getElem?_cons_succ, List.set_cons_zero, List.set_cons_succ, List.length_cons, List.length_nil, List.map_cons, List.map_nil, reduceIte, Nat.reduceAdd, Nat.reduceSub, Nat.reduceBEq, Nat.reduceEqDiff, Nat.reduceLeDiff, Nat.reduceLT, true_and, and_true, Bool.false_eq_true, reduceCtorEq, if_true, if_false, hc_xx, hc_ofNat, hc_10, not_true_eq_false, not_false_eq_true, ge_iff_le, hc_set_at, oMp, e1, e2, i3, i4, z3, z4, h3, i1, i2, z1, z2, h4, h4b, nI_1, e0, lgc_le, lgc_gt]
            rw [hm50_26]
            simp only [hma50, hma50_1, hc_on_some, hc_get, hc_put, hc_ri, hc_rl, hc_is, hc_row, hc_wr, hc_mov, hc_smi, hc_sml, hc_fv, hc_ld, hc_kd, hc_sto, hc_pre, hc_two, hc_inc, hc_psh, hc_kp, hc_k1, hc_np, hc_bk_rf, hc_bk_gA, hc_set_ap, hc_set_set, Value.category, List.getElem?_cons_zero, List.getElem?_cons_succ, List.set_cons_zero, List.set_cons_succ, List.length_cons, List.length_nil, List.map_cons, List.map_nil, reduceIte, Nat.reduceAdd, Nat.reduceSub, Nat.reduceBEq, Nat.reduceEqDiff, Nat.reduceLeDiff, Nat.reduceLT, true_and, and_true, Bool.false_eq_true, reduceCtorEq, if_true, if_false, hc_xx, hc_ofNat, hc_10, not_true_eq_false, not_false_eq_true, ge_iff_le, hc_set_at, oMp, i1, z1]
            exact fin2
      · have e2 : nI e ≤ nI (2 * hole + 1 + 1) := nI_le (by omega) (by omega)
        have mx : ∀ d' : Nat, d' = 2 * hole + 1 ∨ d' = 2 * hole + 2 → d' < e → tI f d' ≤ tI f (2 * hole + 1) := (fun d' q1 q2 => by
            rcases q1 with rfl | rfl
            · exact Int.le_refl _
            · omega)
        have i2 : hc_inn (nI (2 * hole + 1)) c := inn_nI (by omega) (by omega)
        have z2 : (nI (2 * hole + 1)).toNatClampNeg = 2 * hole + 1 := nI_clamp (by omega)
        by_cases h4 : key < f (2 * hole + 1)
        · have sk := hS.step (c := 2 * hole + 1) (by omega) (by omega) mx (Int64.lt_iff_toInt_lt.mp h4)
          have sk2 : Sk F place e key.toInt (tI (vp_updL f hole (f (2 * hole + 1)))) (2 * hole + 1) := by rw [tI_upd]; exact sk
          have h4b : ¬ f (2 * hole + 1) ≤ key := Int64.not_le.mpr h4
          have e6 : (nI (2 * (2 * hole + 1) + 1) < nI e) = (2 * (2 * hole + 1) + 1 < e) := by rw [nI_ltI (by omega) (by omega)]
          by_cases h5 : 2 * (2 * hole + 1) + 1 < e
          · have e7 : ¬ nI e ≤ nI (2 * (2 * hole + 1) + 1) := nI_ge h5 (by omega)
            have ih2 := ih (2 * hole + 1) _ (some (.int (nI (2 * hole + 1)))) (by omega) sk2
            rw [if_pos h5] at ih2
            simp only [hma50, hma50_1, hc_on_some, hc_get, hc_put, hc_ri, hc_rl, hc_is, hc_row, hc_wr, hc_mov, hc_smi, hc_sml, hc_fv, hc_ld, hc_kd, hc_sto, hc_pre, hc_two, hc_inc, hc_psh, hc_kp, hc_k1, hc_np, hc_bk_rf, hc_bk_gA, hc_set_ap, hc_set_set, Value.category, List.getElem?_cons_zero, List.getElem?_cons_succ, List.set_cons_zero, List.set_cons_succ, List.length_cons, List.length_nil, List.map_cons, List.map_nil, reduceIte, Nat.reduceAdd, Nat.reduceSub, Nat.reduceBEq, Nat.reduceEqDiff, Nat.reduceLeDiff, Nat.reduceLT, true_and, and_true, Bool.false_eq_true, reduceCtorEq, if_true, if_false, hc_xx, hc_ofNat, hc_10, not_true_eq_false, not_false_eq_true, ge_iff_le, hc_set_at, oMp, e1, e2, i1, i2, z1, z2, h4, h4b, nI_1, e0, e7, lgc_le, lgc_gt, Option.map_some]
            exact ih2
          · have e7 : nI e ≤ nI (2 * (2 * hole + 1) + 1) := nI_le (by omega) (by omega)
            have ih2 := ih (2 * hole + 1) _ (some (.int (nI (2 * hole + 1)))) (by omega) sk2
            rw [if_neg h5] at ih2
            simp only [hma50, hma50_1, hc_on_some, hc_get, hc_put, hc_ri, hc_rl, hc_is, hc_row, hc_wr, hc_mov, hc_smi, hc_sml, hc_fv, hc_ld, hc_kd, hc_sto, hc_pre, hc_two, hc_inc, hc_psh, hc_kp, hc_k1, hc_np, hc_bk_rf, hc_bk_gA, hc_set_ap, hc_set_set, Value.category, List.getElem?_cons_zero, List.getElem?_cons_succ, List.set_cons_zero, List.set_cons_succ, List.length_cons, List.length_nil, List.map_cons, List.map_nil, reduceIte, Nat.reduceAdd, Nat.reduceSub, Nat.reduceBEq, Nat.reduceEqDiff, Nat.reduceLeDiff, Nat.reduceLT, true_and, and_true, Bool.false_eq_true, reduceCtorEq, if_true, if_false, hc_xx, hc_ofNat, hc_10, not_true_eq_false, not_false_eq_true, ge_iff_le, hc_set_at, oMp, e1, e2, i1, i2, z1, z2, h4, h4b, nI_1, e0, e7, lgc_le, lgc_gt, Option.map_some]
            exact ih2
        · have h4b : f (2 * hole + 1) ≤ key := Int64.not_lt.mp h4
          have fin2 := fin fun c' q1 q2 => by
            have := mx c' q1 q2
            have h5 := Int64.not_lt.mp h4
            rw [Int64.le_iff_toInt_le] at h5
            exact Int.le_trans this h5
          simp only [hma50, hma50_1, hc_on_some, hc_get, hc_put, hc_ri, hc_rl, hc_is, hc_row, hc_wr, hc_mov, hc_smi, hc_sml, hc_fv, hc_ld, hc_kd, hc_sto, hc_pre, hc_two, hc_inc, hc_psh, hc_kp, hc_k1, hc_np, hc_bk_rf, hc_bk_gA, hc_set_ap, hc_set_set, Value.category, List.getElem?_cons_zero, List.getElem?_cons_succ, List.set_cons_zero, List.set_cons_succ, List.length_cons, List.length_nil, List.map_cons, List.map_nil, reduceIte, Nat.reduceAdd, Nat.reduceSub, Nat.reduceBEq, Nat.reduceEqDiff, Nat.reduceLeDiff, Nat.reduceLT, true_and, and_true, Bool.false_eq_true, reduceCtorEq, if_true, if_false, hc_xx, hc_ofNat, hc_10, not_true_eq_false, not_false_eq_true, ge_iff_le, hc_set_at, oMp, e1, e2, i1, i2, z1, z2, h4, h4b, nI_1, e0, lgc_le, lgc_gt]
          rw [hm50_26]
          simp only [hma50, hma50_1, hc_on_some, hc_get, hc_put, hc_ri, hc_rl, hc_is, hc_row, hc_wr, hc_mov, hc_smi, hc_sml, hc_fv, hc_ld, hc_kd, hc_sto, hc_pre, hc_two, hc_inc, hc_psh, hc_kp, hc_k1, hc_np, hc_bk_rf, hc_bk_gA, hc_set_ap, hc_set_set, Value.category, List.getElem?_cons_zero, List.getElem?_cons_succ, List.set_cons_zero, List.set_cons_succ, List.length_cons, List.length_nil, List.map_cons, List.map_nil, reduceIte, Nat.reduceAdd, Nat.reduceSub, Nat.reduceBEq, Nat.reduceEqDiff, Nat.reduceLeDiff, Nat.reduceLT, true_and, and_true, Bool.false_eq_true, reduceCtorEq, if_true, if_false, hc_xx, hc_ofNat, hc_10, not_true_eq_false, not_false_eq_true, ge_iff_le, hc_set_at, oMp, i1, z1]
          exact fin2
    · have e1 : nI e ≤ nI (2 * hole + 1) := nI_le (by omega) (by omega)
      have fin2 := fin fun c' q1 q2 => by omega
      rw [show ((if 2 * hole + 1 < e then 1 else 0 : Int32)) = 0 from if_neg h1]
      simp only [hma50, hma50_1, hc_on_some, hc_get, hc_put, hc_ri, hc_rl, hc_is, hc_row, hc_wr, hc_mov, hc_smi, hc_sml, hc_fv, hc_ld, hc_kd, hc_sto, hc_pre, hc_two, hc_inc, hc_psh, hc_kp, hc_k1, hc_np, hc_bk_rf, hc_bk_gA, hc_set_ap, hc_set_set, Value.category, List.getElem?_cons_zero, List.getElem?_cons_succ, List.set_cons_zero, List.set_cons_succ, List.length_cons, List.length_nil, List.map_cons, List.map_nil, reduceIte, Nat.reduceAdd, Nat.reduceSub, Nat.reduceBEq, Nat.reduceEqDiff, Nat.reduceLeDiff, Nat.reduceLT, true_and, and_true, Bool.false_eq_true, reduceCtorEq, if_true, if_false, hc_xx, hc_ofNat, hc_10, not_true_eq_false, not_false_eq_true, ge_iff_le, hc_set_at, oMp, e1, i1, z1, nI_1, e0]
      exact fin2
end S22
