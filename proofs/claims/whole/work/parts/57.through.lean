/-! isThrough of the reference -/
def FL (q : hc_Cl) (l : hc_Fr) : Prop := q.1.toInt = l.1 ∧ q.2.1.toInt = l.2.1 ∧ q.2.2.2.2.1 = if l.2.2 = true then 1 else 0
def FU (q : hc_Cl) (u : hc_Fr) : Prop := q.2.2.1.toInt = u.1 ∧ q.2.2.2.1.toInt = u.2.1 ∧ q.2.2.2.2.2 = if u.2.2 = true then 1 else 0
def bdF (l : hc_Fr) : Prop := (-8000000 ≤ l.1 ∧ l.1 ≤ 8000000) ∧ 0 < l.2.1 ∧ l.2.1 ≤ 8000000
theorem bdF_mx {l n : hc_Fr} (h : bdF l) (h2 : bdF n) : bdF (mxF l n) := by
  unfold mxF
  split
  · exact h2
  · exact h
theorem bdF_mn {l n : hc_Fr} (h : bdF l) (h2 : bdF n) : bdF (mnF l n) := by
  unfold mnF
  split
  · exact h2
  · exact h
theorem bdF_lo {y lo hi : Int} (hy : ¬ y = 0) (h1 : -8000000 ≤ y ∧ y ≤ 8000000) (h2 : -8000000 ≤ lo ∧ lo ≤ 8000000) (h3 : -8000000 ≤ hi ∧ hi ≤ 8000000) : bdF (loF y lo hi) := by
  unfold loF bdF
  split <;> simp only <;> omega
theorem bdF_hi {y lo hi : Int} (hy : ¬ y = 0) (h1 : -8000000 ≤ y ∧ y ≤ 8000000) (h2 : -8000000 ≤ lo ∧ lo ≤ 8000000) (h3 : -8000000 ≤ hi ∧ hi ≤ 8000000) : bdF (hiF y lo hi) := by
  unfold hiF bdF
  split <;> simp only <;> omega
/-- the difference of two products of bounds, in 64 bits -/
theorem dprod {a b c d : Int64} (h1 : -8000000 ≤ a.toInt ∧ a.toInt ≤ 8000000) (h2 : -8000000 ≤ b.toInt ∧ b.toInt ≤ 8000000) (h3 : -8000000 ≤ c.toInt ∧ c.toInt ≤ 8000000) (h4 : -8000000 ≤ d.toInt ∧ d.toInt ≤ 8000000) : (a * b - c * d).toInt = a.toInt * b.toInt - c.toInt * d.toInt := by
  have b1 := mbd (a := a.toInt) (b := b.toInt) 8000000 8000000 (by omega) (by omega) (by omega) (by omega)
  have b2 := mbd (a := c.toInt) (b := d.toInt) 8000000 8000000 (by omega) (by omega) (by omega) (by omega)
  have e1 : (a * b).toInt = a.toInt * b.toInt := i64_mul (by omega) (by omega)
  have e2 : (c * d).toInt = c.toInt * d.toInt := i64_mul (by omega) (by omega)
  rw [i64_sub (by rw [e1, e2]; omega) (by rw [e1, e2]; omega), e1, e2]
section S57
variable {G : hc_G} {σ : hc_H} {t : hc_T} {Q : hc_Q} {h p w b h' p' w' b' : Nat} {rt : hc_R} {q : hc_Cl}
theorem sp_atl {v u : Int64} {s : Int32} (hs : s = 0 ∨ s = 1) (h30 : σ 30 = some (oMd h p w b h' p' w' b' rt q)) (K : Q G (hc_set σ 30 (oMd h p w b h' p' w' b' rt (if 0 < v * q.2.1 - q.1 * u ∨ (v * q.2.1 - q.1 * u = 0 ∧ s = 0) then (v, u, q.2.2.1, q.2.2.2.1, s, q.2.2.2.2.2) else q))) t none) : hc_wp G σ t 69 0 [some (.inl (.ref 30)), some (.inl (.long v)), none, some (.inl (.long u)), none, some (.inl (.int s)), none, none] [] Q := by
  by_cases c1 : 0 < v * q.2.1 - q.1 * u
  · rw [if_pos (Or.inl c1)] at K
    simp only [hma69, hc_on_some, hc_get, hc_put, hc_ri, hc_rl, hc_is, hc_row, hc_wr, hc_mov, hc_smi, hc_sml, hc_fv, hc_ld, hc_kd, hc_sto, hc_pre, hc_two, hc_inc, hc_psh, hc_kp, hc_k1, hc_np, hc_bk_rf, hc_bk_gA, hc_set_ap, hc_set_set, Value.category, List.getElem?_cons_zero, List.getElem?_cons_succ, List.set_cons_zero, List.set_cons_succ, List.length_cons, List.length_nil, List.map_cons, List.map_nil, reduceIte, Nat.reduceAdd, Nat.reduceSub, Nat.reduceBEq, Nat.reduceEqDiff, Nat.reduceLeDiff, Nat.reduceLT, true_and, and_true, Bool.false_eq_true, reduceCtorEq, if_true, if_false, hc_xx, hc_ofNat, hc_10, not_true_eq_false, not_false_eq_true, ge_iff_le, h30, lgc_gt, lgc_eq, c1, hs]
    exact K
  · by_cases c2 : v * q.2.1 - q.1 * u = 0
    · by_cases c3 : s = 0
      · rw [if_pos (Or.inr ⟨c2, c3⟩)] at K
        have c1' : ¬ (0 : Int64) < 0 := by decide
        subst c3
        simp only [hma69, hc_on_some, hc_get, hc_put, hc_ri, hc_rl, hc_is, hc_row, hc_wr, hc_mov, hc_smi, hc_sml, hc_fv, hc_ld, hc_kd, hc_sto, hc_pre, hc_two, hc_inc, hc_psh, hc_kp, hc_k1, hc_np, hc_bk_rf, hc_bk_gA, hc_set_ap, hc_set_set, Value.category, List.getElem?_cons_zero, List.getElem?_cons_succ, List.set_cons_zero, List.set_cons_succ, List.length_cons, List.length_nil, List.map_cons, List.map_nil, reduceIte, Nat.reduceAdd, Nat.reduceSub, Nat.reduceBEq, Nat.reduceEqDiff, Nat.reduceLeDiff, Nat.reduceLT, true_and, and_true, Bool.false_eq_true, reduceCtorEq, if_true, if_false, hc_xx, hc_ofNat, hc_10, not_true_eq_false, not_false_eq_true, ge_iff_le, h30, lgc_gt, lgc_eq, c1', c2, true_or]
        exact K
      · rw [if_neg (by rintro (x | ⟨-, x⟩); exact c1 x; exact c3 x), hc_set_id' h30] at K
        have c1' : ¬ (0 : Int64) < 0 := by decide
        simp only [hma69, hc_on_some, hc_get, hc_put, hc_ri, hc_rl, hc_is, hc_row, hc_wr, hc_mov, hc_smi, hc_sml, hc_fv, hc_ld, hc_kd, hc_sto, hc_pre, hc_two, hc_inc, hc_psh, hc_kp, hc_k1, hc_np, hc_bk_rf, hc_bk_gA, hc_set_ap, hc_set_set, Value.category, List.getElem?_cons_zero, List.getElem?_cons_succ, List.set_cons_zero, List.set_cons_succ, List.length_cons, List.length_nil, List.map_cons, List.map_nil, reduceIte, Nat.reduceAdd, Nat.reduceSub, Nat.reduceBEq, Nat.reduceEqDiff, Nat.reduceLeDiff, Nat.reduceLT, true_and, and_true, Bool.false_eq_true, reduceCtorEq, if_true, if_false, hc_xx, hc_ofNat, hc_10, not_true_eq_false, not_false_eq_true, ge_iff_le, h30, lgc_gt, lgc_eq, c1', c2, c3]
        exact K
    · rw [if_neg (by rintro (x | ⟨x, -⟩); exact c1 x; exact c2 x), hc_set_id' h30] at K
      simp only [hma69, hc_on_some, hc_get, hc_put, hc_ri, hc_rl, hc_is, hc_row, hc_wr, hc_mov, hc_smi, hc_sml, hc_fv, hc_ld, hc_kd, hc_sto, hc_pre, hc_two, hc_inc, hc_psh, hc_kp, hc_k1, hc_np, hc_bk_rf, hc_bk_gA, hc_set_ap, hc_set_set, Value.category, List.getElem?_cons_zero, List.getElem?_cons_succ, List.set_cons_zero, List.set_cons_succ, List.length_cons, List.length_nil, List.map_cons, List.map_nil, reduceIte, Nat.reduceAdd, Nat.reduceSub, Nat.reduceBEq, Nat.reduceEqDiff, Nat.reduceLeDiff, Nat.reduceLT, true_and, and_true, Bool.false_eq_true, reduceCtorEq, if_true, if_false, hc_xx, hc_ofNat, hc_10, not_true_eq_false, not_false_eq_true, ge_iff_le, h30, lgc_gt, lgc_eq, c1, c2]
      exact K
theorem sp_atm {v u : Int64} {s : Int32} (hs : s = 0 ∨ s = 1) (h30 : σ 30 = some (oMd h p w b h' p' w' b' rt q)) (K : Q G (hc_set σ 30 (oMd h p w b h' p' w' b' rt (if v * q.2.2.2.1 - q.2.2.1 * u < 0 ∨ (v * q.2.2.2.1 - q.2.2.1 * u = 0 ∧ s = 0) then (q.1, q.2.1, v, u, q.2.2.2.2.1, s) else q))) t none) : hc_wp G σ t 70 0 [some (.inl (.ref 30)), some (.inl (.long v)), none, some (.inl (.long u)), none, some (.inl (.int s)), none, none] [] Q := by
  by_cases c1 : v * q.2.2.2.1 - q.2.2.1 * u < 0
  · rw [if_pos (Or.inl c1)] at K
    simp only [hma70, hc_on_some, hc_get, hc_put, hc_ri, hc_rl, hc_is, hc_row, hc_wr, hc_mov, hc_smi, hc_sml, hc_fv, hc_ld, hc_kd, hc_sto, hc_pre, hc_two, hc_inc, hc_psh, hc_kp, hc_k1, hc_np, hc_bk_rf, hc_bk_gA, hc_set_ap, hc_set_set, Value.category, List.getElem?_cons_zero, List.getElem?_cons_succ, List.set_cons_zero, List.set_cons_succ, List.length_cons, List.length_nil, List.map_cons, List.map_nil, reduceIte, Nat.reduceAdd, Nat.reduceSub, Nat.reduceBEq, Nat.reduceEqDiff, Nat.reduceLeDiff, Nat.reduceLT, true_and, and_true, Bool.false_eq_true, reduceCtorEq, if_true, if_false, hc_xx, hc_ofNat, hc_10, not_true_eq_false, not_false_eq_true, ge_iff_le, h30, lgc_lt, lgc_eq, c1, hs]
    exact K
  · by_cases c2 : v * q.2.2.2.1 - q.2.2.1 * u = 0
    · by_cases c3 : s = 0
      · rw [if_pos (Or.inr ⟨c2, c3⟩)] at K
        have c1' : ¬ (0 : Int64) < 0 := by decide
        subst c3
        simp only [hma70, hc_on_some, hc_get, hc_put, hc_ri, hc_rl, hc_is, hc_row, hc_wr, hc_mov, hc_smi, hc_sml, hc_fv, hc_ld, hc_kd, hc_sto, hc_pre, hc_two, hc_inc, hc_psh, hc_kp, hc_k1, hc_np, hc_bk_rf, hc_bk_gA, hc_set_ap, hc_set_set, Value.category, List.getElem?_cons_zero, List.getElem?_cons_succ, List.set_cons_zero, List.set_cons_succ, List.length_cons, List.length_nil, List.map_cons, List.map_nil, reduceIte, Nat.reduceAdd, Nat.reduceSub, Nat.reduceBEq, Nat.reduceEqDiff, Nat.reduceLeDiff, Nat.reduceLT, true_and, and_true, Bool.false_eq_true, reduceCtorEq, if_true, if_false, hc_xx, hc_ofNat, hc_10, not_true_eq_false, not_false_eq_true, ge_iff_le, h30, lgc_lt, lgc_eq, c1', c2, true_or]
        exact K
      · rw [if_neg (by rintro (x | ⟨-, x⟩); exact c1 x; exact c3 x), hc_set_id' h30] at K
        have c1' : ¬ (0 : Int64) < 0 := by decide
        simp only [hma70, hc_on_some, hc_get, hc_put, hc_ri, hc_rl, hc_is, hc_row, hc_wr, hc_mov, hc_smi, hc_sml, hc_fv, hc_ld, hc_kd, hc_sto, hc_pre, hc_two, hc_inc, hc_psh, hc_kp, hc_k1, hc_np, hc_bk_rf, hc_bk_gA, hc_set_ap, hc_set_set, Value.category, List.getElem?_cons_zero, List.getElem?_cons_succ, List.set_cons_zero, List.set_cons_succ, List.length_cons, List.length_nil, List.map_cons, List.map_nil, reduceIte, Nat.reduceAdd, Nat.reduceSub, Nat.reduceBEq, Nat.reduceEqDiff, Nat.reduceLeDiff, Nat.reduceLT, true_and, and_true, Bool.false_eq_true, reduceCtorEq, if_true, if_false, hc_xx, hc_ofNat, hc_10, not_true_eq_false, not_false_eq_true, ge_iff_le, h30, lgc_lt, lgc_eq, c1', c2, c3]
        exact K
    · rw [if_neg (by rintro (x | ⟨x, -⟩); exact c1 x; exact c2 x), hc_set_id' h30] at K
      simp only [hma70, hc_on_some, hc_get, hc_put, hc_ri, hc_rl, hc_is, hc_row, hc_wr, hc_mov, hc_smi, hc_sml, hc_fv, hc_ld, hc_kd, hc_sto, hc_pre, hc_two, hc_inc, hc_psh, hc_kp, hc_k1, hc_np, hc_bk_rf, hc_bk_gA, hc_set_ap, hc_set_set, Value.category, List.getElem?_cons_zero, List.getElem?_cons_succ, List.set_cons_zero, List.set_cons_succ, List.length_cons, List.length_nil, List.map_cons, List.map_nil, reduceIte, Nat.reduceAdd, Nat.reduceSub, Nat.reduceBEq, Nat.reduceEqDiff, Nat.reduceLeDiff, Nat.reduceLT, true_and, and_true, Bool.false_eq_true, reduceCtorEq, if_true, if_false, hc_xx, hc_ofNat, hc_10, not_true_eq_false, not_false_eq_true, ge_iff_le, h30, lgc_lt, lgc_eq, c1, c2]
      exact K
theorem sp_atl2 {v u : Int64} {s : Int32} {l m n : hc_Fr} (h30 : σ 30 = some (oMd h p w b h' p' w' b' rt q)) (hl : FL q l) (hm : FU q m) (bl : bdF l) (bn : bdF n) (e1 : v.toInt = n.1) (e2 : u.toInt = n.2.1) (e3 : s = if n.2.2 = true then 1 else 0) (K : ∀ q', FL q' (mxF l n) → FU q' m → Q G (hc_set σ 30 (oMd h p w b h' p' w' b' rt q')) t none) : hc_wp G σ t 69 0 [some (.inl (.ref 30)), some (.inl (.long v)), none, some (.inl (.long u)), none, some (.inl (.int s)), none, none] [] Q := by
  have hs : s = 0 ∨ s = 1 := by
    rw [e3]
    split
    · exact Or.inr rfl
    · exact Or.inl rfl
  refine sp_atl hs h30 ?_
  obtain ⟨l1, l2, l3⟩ := id hl
  obtain ⟨bl1, bl2, bl3⟩ := bl
  obtain ⟨bn1, bn2, bn3⟩ := bn
  have hd := dprod (a := v) (b := q.2.1) (c := q.1) (d := u) (by omega) (by omega) (by omega) (by omega)
  have l0 : (0 : Int64).toInt = 0 := rfl
  have z1 : (0 < v * q.2.1 - q.1 * u) ↔ l.1 * n.2.1 < n.1 * l.2.1 := by
    rw [Int64.lt_iff_toInt_lt, hd, l0, l1, l2, e1, e2]
    omega
  have z2 : (v * q.2.1 - q.1 * u = 0) ↔ n.1 * l.2.1 = l.1 * n.2.1 := by
    rw [← Int64.toInt_inj, hd, l0, l1, l2, e1, e2]
    omega
  have z3 : s = 0 ↔ n.2.2 = false := by
    rw [e3]
    cases n.2.2 <;> simp
  by_cases c : l.1 * n.2.1 < n.1 * l.2.1 ∨ (n.1 * l.2.1 = l.1 * n.2.1 ∧ n.2.2 = false)
  · rw [if_pos (by rw [z1, z2, z3]; exact c)]
    unfold mxF at K
    rw [if_pos c] at K
    exact K _ ⟨e1, e2, e3⟩ hm
  · rw [if_neg (by rw [z1, z2, z3]; exact c)]
    unfold mxF at K
    rw [if_neg c] at K
    exact K _ hl hm
theorem sp_atm2 {v u : Int64} {s : Int32} {l m n : hc_Fr} (h30 : σ 30 = some (oMd h p w b h' p' w' b' rt q)) (hl : FL q l) (hm : FU q m) (bl : bdF m) (bn : bdF n) (e1 : v.toInt = n.1) (e2 : u.toInt = n.2.1) (e3 : s = if n.2.2 = true then 1 else 0) (K : ∀ q', FL q' l → FU q' (mnF m n) → Q G (hc_set σ 30 (oMd h p w b h' p' w' b' rt q')) t none) : hc_wp G σ t 70 0 [some (.inl (.ref 30)), some (.inl (.long v)), none, some (.inl (.long u)), none, some (.inl (.int s)), none, none] [] Q := by
  have hs : s = 0 ∨ s = 1 := by
    rw [e3]
    split
    · exact Or.inr rfl
    · exact Or.inl rfl
  refine sp_atm hs h30 ?_
  obtain ⟨l1, l2, l3⟩ := id hm
  obtain ⟨bl1, bl2, bl3⟩ := bl
  obtain ⟨bn1, bn2, bn3⟩ := bn
  have hd := dprod (a := v) (b := q.2.2.2.1) (c := q.2.2.1) (d := u) (by omega) (by omega) (by omega) (by omega)
  have l0 : (0 : Int64).toInt = 0 := rfl
  have z1 : (v * q.2.2.2.1 - q.2.2.1 * u < 0) ↔ n.1 * m.2.1 < m.1 * n.2.1 := by
    rw [Int64.lt_iff_toInt_lt, hd, l0, l1, l2, e1, e2]
    omega
  have z2 : (v * q.2.2.2.1 - q.2.2.1 * u = 0) ↔ n.1 * m.2.1 = m.1 * n.2.1 := by
    rw [← Int64.toInt_inj, hd, l0, l1, l2, e1, e2]
    omega
  have z3 : s = 0 ↔ n.2.2 = false := by
    rw [e3]
    cases n.2.2 <;> simp
  by_cases c : n.1 * m.2.1 < m.1 * n.2.1 ∨ (n.1 * m.2.1 = m.1 * n.2.1 ∧ n.2.2 = false)
  · rw [if_pos (by rw [z1, z2, z3]; exact c)]
    unfold mnF at K
    rw [if_pos c] at K
    exact K _ hl ⟨e1, e2, e3⟩
  · rw [if_neg (by rw [z1, z2, z3]; exact c)]
    unfold mnF at K
    rw [if_neg c] at K
    exact K _ hl hm
theorem sp_within {A Y Lo Hi : Int64} {l m : hc_Fr} (h30 : σ 30 = some (oMd h p w b h' p' w' b' rt q)) (hl : FL q l) (hm : FU q m) (bl : bdF l) (bm : bdF m) (bA : -1000000 ≤ A.toInt ∧ A.toInt ≤ 1000000) (bY : -2000000 ≤ Y.toInt ∧ Y.toInt ≤ 2000000) (bL : -1000001 ≤ Lo.toInt ∧ Lo.toInt ≤ 1000001) (bH : -1000001 ≤ Hi.toInt ∧ Hi.toInt ≤ 1000001)
    (K0 : Y.toInt = 0 → ∀ v : Int32, (v = 0 ∨ v = 1) → (v = 1 ↔ Lo.toInt ≤ A.toInt ∧ A.toInt < Hi.toInt) → Q G σ t (some (.inl (.int v))))
    (K1 : ¬ Y.toInt = 0 → ∀ q', FL q' (mxF l (loF Y.toInt (Lo.toInt - A.toInt) (Hi.toInt - A.toInt))) → FU q' (mnF m (hiF Y.toInt (Lo.toInt - A.toInt) (Hi.toInt - A.toInt))) → Q G (hc_set σ 30 (oMd h p w b h' p' w' b' rt q')) t (some (.inl (.int 1)))) :
    hc_wp G σ t 71 0 [some (.inl (.ref 30)), some (.inl (.long A)), none, some (.inl (.long Y)), none, some (.inl (.long Lo)), none, some (.inl (.long Hi)), none] [] Q := by
  have l0 : (0 : Int64).toInt = 0 := rfl
  have z1 : (Y = 0) ↔ Y.toInt = 0 := by rw [← Int64.toInt_inj, l0]
  have z2 : (A < Lo) ↔ A.toInt < Lo.toInt := Int64.lt_iff_toInt_lt
  have z3 : (Hi ≤ A) ↔ Hi.toInt ≤ A.toInt := Int64.le_iff_toInt_le
  have z4 : (Y ≤ 0) ↔ Y.toInt ≤ 0 := by rw [Int64.le_iff_toInt_le, l0]
  by_cases c0 : Y = 0
  · have c0' := z1.mp c0
    by_cases c1 : A < Lo
    · have M := K0 c0' 0 (Or.inl rfl) ⟨fun x => absurd x (by decide), fun x => by have := z2.mp c1; omega⟩
      simp only [hma71, hma71_1, hc_on_some, hc_get, hc_put, hc_ri, hc_rl, hc_is, hc_row, hc_wr, hc_mov, hc_smi, hc_sml, hc_fv, hc_ld, hc_kd, hc_sto, hc_pre, hc_two, hc_inc, hc_psh, hc_kp, hc_k1, hc_np, hc_bk_rf, hc_bk_gA, hc_set_ap, hc_set_set, Value.category, List.getElem?_cons_zero, List.getElem?_cons_succ, List.set_cons_zero, List.set_cons_succ, List.length_cons, List.length_nil, List.map_cons, List.map_nil, reduceIte, Nat.reduceAdd, Nat.reduceSub, Nat.reduceBEq, Nat.reduceEqDiff, Nat.reduceLeDiff, Nat.reduceLT, true_and, and_true, Bool.false_eq_true, reduceCtorEq, if_true, if_false, hc_xx, hc_ofNat, hc_10, not_true_eq_false, not_false_eq_true, ge_iff_le, lgc_eq, lgc_lt, lgc_ge, c0, c1, true_or, or_true]
      exact M
    · have c1' := mt z2.mpr c1
      by_cases c2 : Hi ≤ A
      · have c2' := z3.mp c2
        have M := K0 c0' 0 (Or.inl rfl) ⟨fun x => absurd x (by decide), fun x => by omega⟩
        simp only [hma71, hma71_1, hc_on_some, hc_get, hc_put, hc_ri, hc_rl, hc_is, hc_row, hc_wr, hc_mov, hc_smi, hc_sml, hc_fv, hc_ld, hc_kd, hc_sto, hc_pre, hc_two, hc_inc, hc_psh, hc_kp, hc_k1, hc_np, hc_bk_rf, hc_bk_gA, hc_set_ap, hc_set_set, Value.category, List.getElem?_cons_zero, List.getElem?_cons_succ, List.set_cons_zero, List.set_cons_succ, List.length_cons, List.length_nil, List.map_cons, List.map_nil, reduceIte, Nat.reduceAdd, Nat.reduceSub, Nat.reduceBEq, Nat.reduceEqDiff, Nat.reduceLeDiff, Nat.reduceLT, true_and, and_true, Bool.false_eq_true, reduceCtorEq, if_true, if_false, hc_xx, hc_ofNat, hc_10, not_true_eq_false, not_false_eq_true, ge_iff_le, lgc_eq, lgc_lt, lgc_ge, c0, c1, c2, true_or, or_true]
        exact M
      · have c2' := mt z3.mpr c2
        have M := K0 c0' 1 (Or.inr rfl) ⟨fun _ => by omega, fun _ => rfl⟩
        simp only [hma71, hma71_1, hc_on_some, hc_get, hc_put, hc_ri, hc_rl, hc_is, hc_row, hc_wr, hc_mov, hc_smi, hc_sml, hc_fv, hc_ld, hc_kd, hc_sto, hc_pre, hc_two, hc_inc, hc_psh, hc_kp, hc_k1, hc_np, hc_bk_rf, hc_bk_gA, hc_set_ap, hc_set_set, Value.category, List.getElem?_cons_zero, List.getElem?_cons_succ, List.set_cons_zero, List.set_cons_succ, List.length_cons, List.length_nil, List.map_cons, List.map_nil, reduceIte, Nat.reduceAdd, Nat.reduceSub, Nat.reduceBEq, Nat.reduceEqDiff, Nat.reduceLeDiff, Nat.reduceLT, true_and, and_true, Bool.false_eq_true, reduceCtorEq, if_true, if_false, hc_xx, hc_ofNat, hc_10, not_true_eq_false, not_false_eq_true, ge_iff_le, lgc_eq, lgc_lt, lgc_ge, c0, c1, c2, true_or, or_true]
        exact M
  · have c0' := mt z1.mpr c0
    have s1 : (Lo - A).toInt = Lo.toInt - A.toInt := i64_sub (by omega) (by omega)
    have s2 : (Hi - A).toInt = Hi.toInt - A.toInt := i64_sub (by omega) (by omega)
    have s3 : (A - Lo).toInt = A.toInt - Lo.toInt := i64_sub (by omega) (by omega)
    have s4 : (A - Hi).toInt = A.toInt - Hi.toInt := i64_sub (by omega) (by omega)
    have s5 : (-Y).toInt = -Y.toInt := i64_neg (by omega)
    have b1 := bdF_lo (lo := Lo.toInt - A.toInt) (hi := Hi.toInt - A.toInt) c0' (by omega) (by omega) (by omega)
    have b2 := bdF_hi (lo := Lo.toInt - A.toInt) (hi := Hi.toInt - A.toInt) c0' (by omega) (by omega) (by omega)
    have K1' := K1 c0'
    by_cases c1 : Y ≤ 0
    · have c1' := z4.mp c1
      have u1 : hiF Y.toInt (Lo.toInt - A.toInt) (Hi.toInt - A.toInt) = (-(Lo.toInt - A.toInt), -Y.toInt, true) := by
        unfold hiF
        rw [if_neg (by omega)]
      have u2 : loF Y.toInt (Lo.toInt - A.toInt) (Hi.toInt - A.toInt) = (-(Hi.toInt - A.toInt), -Y.toInt, false) := by
        unfold loF
        rw [if_neg (by omega)]
      rw [u1] at K1' b2
      rw [u2] at K1' b1
      simp only [hm71_0, hm71_1, hm71_2, hm71_3, hm71_6, hm71_7, hm71_9, hm71_10, hm71_13, hm71_14, hm71_16, hm71_17, hm71_20, hm71_21, hm71_24, hm71_25, hm71_26, hm71_27, hm71_28, hm71_29, hm71_32, hm71_33, hm71_35, hm71_36, hm71_37, hm71_38, hm71_39, hm71_42, hm71_43, hm71_45, hm71_46, hm71_47, hm71_48, hm71_49, hm71_52, hm71_55, hm71_56, hm71_57, hm71_59, hm71_60, hm71_61, hm71_62, hm71_63, hc_on_some, hc_get, hc_put, hc_ri, hc_rl, hc_is, hc_row, hc_wr, hc_mov, hc_smi, hc_sml, hc_fv, hc_ld, hc_kd, hc_sto, hc_pre, hc_two, hc_inc, hc_psh, hc_kp, hc_k1, hc_np, hc_bk_rf, hc_bk_gA, hc_set_ap, hc_set_set, Value.category, List.getElem?_cons_zero, List.getElem?_cons_succ, List.set_cons_zero, List.set_cons_succ, List.length_cons, List.length_nil, List.map_cons, List.map_nil, reduceIte, Nat.reduceAdd, Nat.reduceSub, Nat.reduceBEq, Nat.reduceEqDiff, Nat.reduceLeDiff, Nat.reduceLT, true_and, and_true, Bool.false_eq_true, reduceCtorEq, if_true, if_false, hc_xx, hc_ofNat, hc_10, not_true_eq_false, not_false_eq_true, ge_iff_le, h30, lgc_eq, lgc_le, c0, c1]
      refine sp_atm2 h30 hl hm bm b2 (by rw [s3]; simp only; omega) (by rw [s5]) rfl fun q1 f1 f2 => ?_
      simp only [hm71_66, hm71_67, hm71_68, hm71_70, hm71_71, hm71_72, hm71_73, hm71_74, hc_on_some, hc_get, hc_put, hc_ri, hc_rl, hc_is, hc_row, hc_wr, hc_mov, hc_smi, hc_sml, hc_fv, hc_ld, hc_kd, hc_sto, hc_pre, hc_two, hc_inc, hc_psh, hc_kp, hc_k1, hc_np, hc_bk_rf, hc_bk_gA, hc_set_ap, hc_set_set, Value.category, List.getElem?_cons_zero, List.getElem?_cons_succ, List.set_cons_zero, List.set_cons_succ, List.length_cons, List.length_nil, List.map_cons, List.map_nil, reduceIte, Nat.reduceAdd, Nat.reduceSub, Nat.reduceBEq, Nat.reduceEqDiff, Nat.reduceLeDiff, Nat.reduceLT, true_and, and_true, Bool.false_eq_true, reduceCtorEq, if_true, if_false, hc_xx, hc_ofNat, hc_10, not_true_eq_false, not_false_eq_true, ge_iff_le, h30]
      refine sp_atl2 (hc_set_at _ _ _) f1 f2 bl b1 (by rw [s4]; simp only; omega) (by rw [s5]) rfl fun q2 g1 g2 => ?_
      rw [hc_set_set]
      simp only [hm71_77, hm71_78, hc_on_some, hc_get, hc_put, hc_ri, hc_rl, hc_is, hc_row, hc_wr, hc_mov, hc_smi, hc_sml, hc_fv, hc_ld, hc_kd, hc_sto, hc_pre, hc_two, hc_inc, hc_psh, hc_kp, hc_k1, hc_np, hc_bk_rf, hc_bk_gA, hc_set_ap, hc_set_set, Value.category, List.getElem?_cons_zero, List.getElem?_cons_succ, List.set_cons_zero, List.set_cons_succ, List.length_cons, List.length_nil, List.map_cons, List.map_nil, reduceIte, Nat.reduceAdd, Nat.reduceSub, Nat.reduceBEq, Nat.reduceEqDiff, Nat.reduceLeDiff, Nat.reduceLT, true_and, and_true, Bool.false_eq_true, reduceCtorEq, if_true, if_false, hc_xx, hc_ofNat, hc_10, not_true_eq_false, not_false_eq_true, ge_iff_le, true_or, or_true]
      exact K1' q2 g1 g2
    · have c1' := mt z4.mpr c1
      have u1 : hiF Y.toInt (Lo.toInt - A.toInt) (Hi.toInt - A.toInt) = (Hi.toInt - A.toInt, Y.toInt, false) := by
        unfold hiF
        rw [if_pos (by omega)]
      have u2 : loF Y.toInt (Lo.toInt - A.toInt) (Hi.toInt - A.toInt) = (Lo.toInt - A.toInt, Y.toInt, true) := by
        unfold loF
        rw [if_pos (by omega)]
      rw [u1] at K1' b2
      rw [u2] at K1' b1
      simp only [hm71_0, hm71_1, hm71_2, hm71_3, hm71_6, hm71_7, hm71_9, hm71_10, hm71_13, hm71_14, hm71_16, hm71_17, hm71_20, hm71_21, hm71_24, hm71_25, hm71_26, hm71_27, hm71_28, hm71_29, hm71_32, hm71_33, hm71_35, hm71_36, hm71_37, hm71_38, hm71_39, hc_on_some, hc_get, hc_put, hc_ri, hc_rl, hc_is, hc_row, hc_wr, hc_mov, hc_smi, hc_sml, hc_fv, hc_ld, hc_kd, hc_sto, hc_pre, hc_two, hc_inc, hc_psh, hc_kp, hc_k1, hc_np, hc_bk_rf, hc_bk_gA, hc_set_ap, hc_set_set, Value.category, List.getElem?_cons_zero, List.getElem?_cons_succ, List.set_cons_zero, List.set_cons_succ, List.length_cons, List.length_nil, List.map_cons, List.map_nil, reduceIte, Nat.reduceAdd, Nat.reduceSub, Nat.reduceBEq, Nat.reduceEqDiff, Nat.reduceLeDiff, Nat.reduceLT, true_and, and_true, Bool.false_eq_true, reduceCtorEq, if_true, if_false, hc_xx, hc_ofNat, hc_10, not_true_eq_false, not_false_eq_true, ge_iff_le, h30, lgc_eq, lgc_le, c0, c1]
      refine sp_atl2 h30 hl hm bl b1 (by rw [s1]) rfl rfl fun q1 f1 f2 => ?_
      simp only [hm71_42, hm71_43, hm71_45, hm71_46, hm71_47, hm71_48, hm71_49, hc_on_some, hc_get, hc_put, hc_ri, hc_rl, hc_is, hc_row, hc_wr, hc_mov, hc_smi, hc_sml, hc_fv, hc_ld, hc_kd, hc_sto, hc_pre, hc_two, hc_inc, hc_psh, hc_kp, hc_k1, hc_np, hc_bk_rf, hc_bk_gA, hc_set_ap, hc_set_set, Value.category, List.getElem?_cons_zero, List.getElem?_cons_succ, List.set_cons_zero, List.set_cons_succ, List.length_cons, List.length_nil, List.map_cons, List.map_nil, reduceIte, Nat.reduceAdd, Nat.reduceSub, Nat.reduceBEq, Nat.reduceEqDiff, Nat.reduceLeDiff, Nat.reduceLT, true_and, and_true, Bool.false_eq_true, reduceCtorEq, if_true, if_false, hc_xx, hc_ofNat, hc_10, not_true_eq_false, not_false_eq_true, ge_iff_le, h30]
      refine sp_atm2 (hc_set_at _ _ _) f1 f2 bm b2 (by rw [s2]) rfl rfl fun q2 g1 g2 => ?_
      rw [hc_set_set]
      simp only [hm71_52, hm71_55, hm71_56, hm71_57, hm71_59, hm71_60, hm71_61, hm71_62, hm71_63, hm71_66, hm71_67, hm71_68, hm71_70, hm71_71, hm71_72, hm71_73, hm71_74, hm71_77, hm71_78, hc_on_some, hc_get, hc_put, hc_ri, hc_rl, hc_is, hc_row, hc_wr, hc_mov, hc_smi, hc_sml, hc_fv, hc_ld, hc_kd, hc_sto, hc_pre, hc_two, hc_inc, hc_psh, hc_kp, hc_k1, hc_np, hc_bk_rf, hc_bk_gA, hc_set_ap, hc_set_set, Value.category, List.getElem?_cons_zero, List.getElem?_cons_succ, List.set_cons_zero, List.set_cons_succ, List.length_cons, List.length_nil, List.map_cons, List.map_nil, reduceIte, Nat.reduceAdd, Nat.reduceSub, Nat.reduceBEq, Nat.reduceEqDiff, Nat.reduceLeDiff, Nat.reduceLT, true_and, and_true, Bool.false_eq_true, reduceCtorEq, if_true, if_false, hc_xx, hc_ofNat, hc_10, not_true_eq_false, not_false_eq_true, ge_iff_le, true_or, or_true]
      exact K1' q2 g1 g2
end S57
