/-! ends of edges, far edges, crossings in the reference -/
def ELf (f : Nat → Int32) (S E : List (Int × Int)) : Prop := ∀ i, i < S.length → (f (4 * i)).toInt = (edz S E i).1 ∧ (f (4 * i + 1)).toInt = (edz S E i).2.1 ∧ (f (4 * i + 2)).toInt = (edz S E i).2.2.1 ∧ (f (4 * i + 3)).toInt = (edz S E i).2.2.2
theorem EL.f {f : Nat → Int32} {l : List Int} {S E : List (Int × Int)} (h : EL l S E) (hc : CI f l) : ELf f S E := fun i hi => by
  obtain ⟨a1, a2, a3, a4⟩ := h.2 i hi
  exact ⟨hc _ _ a1, hc _ _ a2, hc _ _ a3, hc _ _ a4⟩
/-- edges lie in bounds -/
abbrev inE (e : Ed) : Prop := inb e.1 e.2.1 ∧ inb e.2.2.1 e.2.2.2
theorem mxL_i (a b : Int64) : (if a < b then b else a).toInt = max a.toInt b.toInt := by
  have z := Int64.lt_iff_toInt_lt (x := a) (y := b)
  split <;> rename_i z2 <;> rw [z] at z2 <;> omega
theorem mnL_i (a b : Int64) : (if b < a then b else a).toInt = min a.toInt b.toInt := by
  have z := Int64.lt_iff_toInt_lt (x := b) (y := a)
  split <;> rename_i z2 <;> rw [z] at z2 <;> omega
/-- not far along one axis -/
abbrev nfr (a b c d : Int) : Prop := ¬ max a b < min c d ∧ ¬ max c d < min a b
section S52
variable {G : hc_G} {σ : hc_H} {t : hc_T} {Q : hc_Q} {h p w b h' p' w' b' n c ia ib : Nat} {rt : hc_R} {q : hc_Cl} {f : Nat → Int32} {S E : List (Int × Int)}
theorem sp_end0 {e : Nat} (h30 : σ 30 = some (oMd h p w b h' p' w' b' rt q)) (h31 : σ 31 = some (oIn n c f)) (he : 4 * e + 3 < c) (hc : c ≤ 4096) : hc_wp G σ t 62 0 [some (.inl (.ref 30)), some (.inl (.int (nI e))), some (.inl (.int 0))] [] Q = Q G σ t (some (.inl (.long (f (4 * e)).toInt64))) := by
  have e1 : 4 * nI e = nI (4 * e) := pk_mul 4 e
  have e2 : nI (4 * e) + 0 = nI (4 * e) := Int32.add_zero _
  have i1 : hc_inn (nI (4 * e)) c := inn_nI (by omega) (by omega)
  have k1 : (nI (4 * e)).toNatClampNeg = 4 * e := nI_clamp (by omega)
  simp only [hma62, hc_on_some, hc_get, hc_put, hc_ri, hc_rl, hc_is, hc_row, hc_wr, hc_mov, hc_smi, hc_sml, hc_fv, hc_ld, hc_kd, hc_sto, hc_pre, hc_two, hc_inc, hc_psh, hc_kp, hc_k1, hc_np, hc_bk_rf, hc_bk_gA, hc_set_ap, hc_set_set, Value.category, List.getElem?_cons_zero, List.getElem?_cons_succ, List.set_cons_zero, List.set_cons_succ, List.length_cons, List.length_nil, List.map_cons, List.map_nil, reduceIte, Nat.reduceAdd, Nat.reduceSub, Nat.reduceBEq, Nat.reduceEqDiff, Nat.reduceLeDiff, Nat.reduceLT, true_and, and_true, Bool.false_eq_true, reduceCtorEq, if_true, if_false, hc_xx, hc_ofNat, hc_10, not_true_eq_false, not_false_eq_true, ge_iff_le, h30, h31, oIn, e1, e2, i1, k1]
theorem sp_end1 {e : Nat} (h30 : σ 30 = some (oMd h p w b h' p' w' b' rt q)) (h31 : σ 31 = some (oIn n c f)) (he : 4 * e + 3 < c) (hc : c ≤ 4096) : hc_wp G σ t 62 0 [some (.inl (.ref 30)), some (.inl (.int (nI e))), some (.inl (.int 1))] [] Q = Q G σ t (some (.inl (.long (f (4 * e + 1)).toInt64))) := by
  have e1 : 4 * nI e = nI (4 * e) := pk_mul 4 e
  have e2 : nI (4 * e) + 1 = nI (4 * e + 1) := nI_add _ 1
  have i1 : hc_inn (nI (4 * e + 1)) c := inn_nI (by omega) (by omega)
  have k1 : (nI (4 * e + 1)).toNatClampNeg = 4 * e + 1 := nI_clamp (by omega)
  simp only [hma62, hc_on_some, hc_get, hc_put, hc_ri, hc_rl, hc_is, hc_row, hc_wr, hc_mov, hc_smi, hc_sml, hc_fv, hc_ld, hc_kd, hc_sto, hc_pre, hc_two, hc_inc, hc_psh, hc_kp, hc_k1, hc_np, hc_bk_rf, hc_bk_gA, hc_set_ap, hc_set_set, Value.category, List.getElem?_cons_zero, List.getElem?_cons_succ, List.set_cons_zero, List.set_cons_succ, List.length_cons, List.length_nil, List.map_cons, List.map_nil, reduceIte, Nat.reduceAdd, Nat.reduceSub, Nat.reduceBEq, Nat.reduceEqDiff, Nat.reduceLeDiff, Nat.reduceLT, true_and, and_true, Bool.false_eq_true, reduceCtorEq, if_true, if_false, hc_xx, hc_ofNat, hc_10, not_true_eq_false, not_false_eq_true, ge_iff_le, h30, h31, oIn, e1, e2, i1, k1]
theorem sp_end2 {e : Nat} (h30 : σ 30 = some (oMd h p w b h' p' w' b' rt q)) (h31 : σ 31 = some (oIn n c f)) (he : 4 * e + 3 < c) (hc : c ≤ 4096) : hc_wp G σ t 62 0 [some (.inl (.ref 30)), some (.inl (.int (nI e))), some (.inl (.int 2))] [] Q = Q G σ t (some (.inl (.long (f (4 * e + 2)).toInt64))) := by
  have e1 : 4 * nI e = nI (4 * e) := pk_mul 4 e
  have e2 : nI (4 * e) + 2 = nI (4 * e + 2) := nI_add _ 2
  have i1 : hc_inn (nI (4 * e + 2)) c := inn_nI (by omega) (by omega)
  have k1 : (nI (4 * e + 2)).toNatClampNeg = 4 * e + 2 := nI_clamp (by omega)
  simp only [hma62, hc_on_some, hc_get, hc_put, hc_ri, hc_rl, hc_is, hc_row, hc_wr, hc_mov, hc_smi, hc_sml, hc_fv, hc_ld, hc_kd, hc_sto, hc_pre, hc_two, hc_inc, hc_psh, hc_kp, hc_k1, hc_np, hc_bk_rf, hc_bk_gA, hc_set_ap, hc_set_set, Value.category, List.getElem?_cons_zero, List.getElem?_cons_succ, List.set_cons_zero, List.set_cons_succ, List.length_cons, List.length_nil, List.map_cons, List.map_nil, reduceIte, Nat.reduceAdd, Nat.reduceSub, Nat.reduceBEq, Nat.reduceEqDiff, Nat.reduceLeDiff, Nat.reduceLT, true_and, and_true, Bool.false_eq_true, reduceCtorEq, if_true, if_false, hc_xx, hc_ofNat, hc_10, not_true_eq_false, not_false_eq_true, ge_iff_le, h30, h31, oIn, e1, e2, i1, k1]
theorem sp_end3 {e : Nat} (h30 : σ 30 = some (oMd h p w b h' p' w' b' rt q)) (h31 : σ 31 = some (oIn n c f)) (he : 4 * e + 3 < c) (hc : c ≤ 4096) : hc_wp G σ t 62 0 [some (.inl (.ref 30)), some (.inl (.int (nI e))), some (.inl (.int 3))] [] Q = Q G σ t (some (.inl (.long (f (4 * e + 3)).toInt64))) := by
  have e1 : 4 * nI e = nI (4 * e) := pk_mul 4 e
  have e2 : nI (4 * e) + 3 = nI (4 * e + 3) := nI_add _ 3
  have i1 : hc_inn (nI (4 * e + 3)) c := inn_nI (by omega) (by omega)
  have k1 : (nI (4 * e + 3)).toNatClampNeg = 4 * e + 3 := nI_clamp (by omega)
  simp only [hma62, hc_on_some, hc_get, hc_put, hc_ri, hc_rl, hc_is, hc_row, hc_wr, hc_mov, hc_smi, hc_sml, hc_fv, hc_ld, hc_kd, hc_sto, hc_pre, hc_two, hc_inc, hc_psh, hc_kp, hc_k1, hc_np, hc_bk_rf, hc_bk_gA, hc_set_ap, hc_set_set, Value.category, List.getElem?_cons_zero, List.getElem?_cons_succ, List.set_cons_zero, List.set_cons_succ, List.length_cons, List.length_nil, List.map_cons, List.map_nil, reduceIte, Nat.reduceAdd, Nat.reduceSub, Nat.reduceBEq, Nat.reduceEqDiff, Nat.reduceLeDiff, Nat.reduceLT, true_and, and_true, Bool.false_eq_true, reduceCtorEq, if_true, if_false, hc_xx, hc_ofNat, hc_10, not_true_eq_false, not_false_eq_true, ge_iff_le, h30, h31, oIn, e1, e2, i1, k1]
theorem far_fin {a1 a2 b1 b2 : Int64} (K : ∀ v : Int32, (v = 0 ∨ v = 1) → (v = 0 ↔ nfr a1.toInt a2.toInt b1.toInt b2.toInt) → Q G σ t (some (.inl (.int v)))) (R : Prop) (hR : ∀ (x y : Prop), (x = Q G σ t (some (.inl (.int 1)))) → (y = Q G σ t (some (.inl (.int 0)))) → R = if (if a1 < a2 then a2 else a1) < (if b2 < b1 then b2 else b1) then x else if (if a2 < a1 then a2 else a1) ≤ (if b1 < b2 then b2 else b1) then y else x) : R := by
  have K1 := K 1 (Or.inr rfl)
  have K0 := K 0 (Or.inl rfl)
  rw [hR _ _ rfl rfl]
  have u1 := mxL_i a1 a2
  have u2 := mnL_i b1 b2
  have u3 := mxL_i b1 b2
  have u4 := mnL_i a1 a2
  generalize (if a1 < a2 then a2 else a1) = x1 at *
  generalize (if b2 < b1 then b2 else b1) = x2 at *
  generalize (if b1 < b2 then b2 else b1) = x3 at *
  generalize (if a2 < a1 then a2 else a1) = x4 at *
  have v1 := Int64.lt_iff_toInt_lt (x := x1) (y := x2)
  have v2 := Int64.le_iff_toInt_le (x := x4) (y := x3)
  have n1 : ¬ (1 : Int32) = 0 := by decide
  by_cases c1 : x1 < x2
  · rw [if_pos c1]
    have := v1.mp c1
    exact K1 ⟨fun h => absurd h n1, fun h => absurd (by omega) h.1⟩
  · rw [if_neg c1]
    have := mt v1.mpr c1
    by_cases c2 : x4 ≤ x3
    · rw [if_pos c2]
      have := v2.mp c2
      exact K0 ⟨fun _ => ⟨by omega, by omega⟩, fun _ => rfl⟩
    · rw [if_neg c2]
      have := mt v2.mpr c2
      exact K1 ⟨fun h => absurd h n1, fun h => absurd (by omega) h.2⟩
theorem sp_far0 {e d : Nat} (h30 : σ 30 = some (oMd h p w b h' p' w' b' rt q)) (h31 : σ 31 = some (oIn n c f)) (he : 4 * e + 3 < c) (hd : 4 * d + 3 < c) (hc : c ≤ 4096) (K : ∀ v : Int32, (v = 0 ∨ v = 1) → (v = 0 ↔ nfr (f (4 * e)).toInt (f (4 * e + 2)).toInt (f (4 * d)).toInt (f (4 * d + 2)).toInt) → Q G σ t (some (.inl (.int v)))) : hc_wp G σ t 66 0 [some (.inl (.ref 30)), some (.inl (.int (nI e))), some (.inl (.int (nI d))), some (.inl (.int 0))] [] Q := by
  have a2 : (0 : Int32) + 2 = 2 := by decide
  have K' := K
  rw [← i64_of32 (f (4 * e)), ← i64_of32 (f (4 * e + 2)), ← i64_of32 (f (4 * d)), ← i64_of32 (f (4 * d + 2))] at K'
  simp only [hma66, hma66_1, hc_on_some, hc_get, hc_put, hc_ri, hc_rl, hc_is, hc_row, hc_wr, hc_mov, hc_smi, hc_sml, hc_fv, hc_ld, hc_kd, hc_sto, hc_pre, hc_two, hc_inc, hc_psh, hc_kp, hc_k1, hc_np, hc_bk_rf, hc_bk_gA, hc_set_ap, hc_set_set, Value.category, List.getElem?_cons_zero, List.getElem?_cons_succ, List.set_cons_zero, List.set_cons_succ, List.length_cons, List.length_nil, List.map_cons, List.map_nil, reduceIte, Nat.reduceAdd, Nat.reduceSub, Nat.reduceBEq, Nat.reduceEqDiff, Nat.reduceLeDiff, Nat.reduceLT, true_and, and_true, Bool.false_eq_true, reduceCtorEq, if_true, if_false, hc_xx, hc_ofNat, hc_10, not_true_eq_false, not_false_eq_true, ge_iff_le, h30, a2, sp_end0 h30 h31 he hc, sp_end2 h30 h31 he hc, sp_end0 h30 h31 hd hc, sp_end2 h30 h31 hd hc, sp_maxl, sp_minl, lgc_lt, lgc_ge, true_or, or_true]
  refine far_fin K' _ fun x y hx hy => ?_
  rw [hx, hy]
theorem sp_far1 {e d : Nat} (h30 : σ 30 = some (oMd h p w b h' p' w' b' rt q)) (h31 : σ 31 = some (oIn n c f)) (he : 4 * e + 3 < c) (hd : 4 * d + 3 < c) (hc : c ≤ 4096) (K : ∀ v : Int32, (v = 0 ∨ v = 1) → (v = 0 ↔ nfr (f (4 * e + 1)).toInt (f (4 * e + 3)).toInt (f (4 * d + 1)).toInt (f (4 * d + 3)).toInt) → Q G σ t (some (.inl (.int v)))) : hc_wp G σ t 66 0 [some (.inl (.ref 30)), some (.inl (.int (nI e))), some (.inl (.int (nI d))), some (.inl (.int 1))] [] Q := by
  have a2 : (1 : Int32) + 2 = 3 := by decide
  have K' := K
  rw [← i64_of32 (f (4 * e + 1)), ← i64_of32 (f (4 * e + 3)), ← i64_of32 (f (4 * d + 1)), ← i64_of32 (f (4 * d + 3))] at K'
  simp only [hma66, hma66_1, hc_on_some, hc_get, hc_put, hc_ri, hc_rl, hc_is, hc_row, hc_wr, hc_mov, hc_smi, hc_sml, hc_fv, hc_ld, hc_kd, hc_sto, hc_pre, hc_two, hc_inc, hc_psh, hc_kp, hc_k1, hc_np, hc_bk_rf, hc_bk_gA, hc_set_ap, hc_set_set, Value.category, List.getElem?_cons_zero, List.getElem?_cons_succ, List.set_cons_zero, List.set_cons_succ, List.length_cons, List.length_nil, List.map_cons, List.map_nil, reduceIte, Nat.reduceAdd, Nat.reduceSub, Nat.reduceBEq, Nat.reduceEqDiff, Nat.reduceLeDiff, Nat.reduceLT, true_and, and_true, Bool.false_eq_true, reduceCtorEq, if_true, if_false, hc_xx, hc_ofNat, hc_10, not_true_eq_false, not_false_eq_true, ge_iff_le, h30, a2, sp_end1 h30 h31 he hc, sp_end3 h30 h31 he hc, sp_end1 h30 h31 hd hc, sp_end3 h30 h31 hd hc, sp_maxl, sp_minl, lgc_lt, lgc_ge, true_or, or_true]
  refine far_fin K' _ fun x y hx hy => ?_
  rw [hx, hy]
/-- the quotient of the reference, in 64 bits and as the class has it -/
theorem crq64 {x T d A : Int64} (hT : 0 < T.toInt) (hT2 : T.toInt ≤ 2000000000000) (hA : 0 ≤ A.toInt) (hAT : A.toInt ≤ T.toInt) (x1 : -500000 ≤ x.toInt) (x2 : x.toInt ≤ 500000) (d1 : -1000000 ≤ d.toInt) (d2 : d.toInt ≤ 1000000) : 0 < (2 * T).toInt ∧ -9223372036854775808 < (2 * (x * T + d * A) + T).toInt ∧ (2 * (x * T + d * A) + T).toInt / (2 * T).toInt = x.toInt + (2 * A.toInt * d.toInt + T.toInt) / (2 * T.toInt) := by
  have l2 : (2 : Int64).toInt = 2 := rfl
  have b1 := mbd (a := x.toInt) (b := T.toInt) 500000 2000000000000 (by omega) (by omega) (by omega) (by omega)
  have b2 := mbd (a := d.toInt) (b := A.toInt) 1000000 2000000000000 (by omega) (by omega) (by omega) (by omega)
  have e1 : (x * T).toInt = x.toInt * T.toInt := i64_mul (by omega) (by omega)
  have e2 : (d * A).toInt = d.toInt * A.toInt := i64_mul (by omega) (by omega)
  have e3 : (x * T + d * A).toInt = x.toInt * T.toInt + d.toInt * A.toInt := by rw [i64_add (by rw [e1, e2]; omega) (by rw [e1, e2]; omega), e1, e2]
  have e4 : (2 * (x * T + d * A)).toInt = 2 * (x.toInt * T.toInt + d.toInt * A.toInt) := by rw [i64_mul (by rw [e3, l2]; omega) (by rw [e3, l2]; omega), e3, l2]
  have e5 : (2 * (x * T + d * A) + T).toInt = 2 * (x.toInt * T.toInt + d.toInt * A.toInt) + T.toInt := by rw [i64_add (by rw [e4]; omega) (by rw [e4]; omega), e4]
  have e6 : (2 * T).toInt = 2 * T.toInt := by rw [i64_mul (by rw [l2]; omega) (by rw [l2]; omega), l2]
  refine ⟨by omega, by rw [e5]; omega, ?_⟩
  rw [e5, e6]
  have r1 : 2 * (x.toInt * T.toInt + d.toInt * A.toInt) + T.toInt = (2 * A.toInt * d.toInt + T.toInt) + x.toInt * (2 * T.toInt) := by
    rw [Int.mul_add, Int.mul_left_comm 2 x.toInt, Int.mul_comm d.toInt, ← Int.mul_assoc 2 A.toInt]
    omega
  rw [r1, Int.add_mul_ediv_right _ _ (by omega), Int.add_comm]
theorem sp_cr1 {L : List Int} {o : hc_O} {dx dy ex ey T A : Int64} (h30 : σ 30 = some (oMd h p w b h' p' w' b' rt q)) (h31 : σ 31 = some (oIn n c f)) (ha : 4 * ia + 3 < c) (hc : c ≤ 4096) (hh : σ h' = some o) (hP : MPo o L 36002) (hL : L.length ≤ 18000) (hk : h' < 60)
    (hT : 0 < T.toInt) (hT2 : T.toInt ≤ 2000000000000) (hA : 0 ≤ A.toInt) (hAT : A.toInt ≤ T.toInt) (bx : -500000 ≤ (f (4 * ia)).toInt ∧ (f (4 * ia)).toInt ≤ 500000) (bY : -500000 ≤ (f (4 * ia + 1)).toInt ∧ (f (4 * ia + 1)).toInt ≤ 500000) (d1 : -1000000 ≤ dx.toInt) (d2 : dx.toInt ≤ 1000000) (d3 : -1000000 ≤ dy.toInt) (d4 : dy.toInt ≤ 1000000)
    {X Y : Int} (hX : X = (f (4 * ia)).toInt + (2 * A.toInt * dx.toInt + T.toInt) / (2 * T.toInt)) (hY : Y = (f (4 * ia + 1)).toInt + (2 * A.toInt * dy.toInt + T.toInt) / (2 * T.toInt)) (hXY : inb X Y)
    (K : ∀ G' o', MPo o' (L ++ [kxy X Y]) 36002 → hc_cr G σ G' (hc_set σ h' o') → Q G' (hc_set σ h' o') none none) :
    hc_wp G σ none 68 123 [some (.inl (.ref 30)), some (.inl (.int (nI ia))), some (.inl (.int (nI ib))), some (.inl (.long dx)), none, some (.inl (.long dy)), none, some (.inl (.long ex)), none, some (.inl (.long ey)), none, some (.inl (.long T)), none, some (.inl (.long A)), none, none, none, none, none] [] Q := by
  obtain ⟨i1, i2, i3, i4⟩ := hXY
  have q1 := crq64 (x := (f (4 * ia)).toInt64) (T := T) (d := dx) (A := A) hT hT2 hA hAT (by rw [i64_of32]; omega) (by rw [i64_of32]; omega) d1 d2
  have q2 := crq64 (x := (f (4 * ia + 1)).toInt64) (T := T) (d := dy) (A := A) hT hT2 hA hAT (by rw [i64_of32]; omega) (by rw [i64_of32]; omega) d3 d4
  rw [i64_of32] at q1 q2
  rw [← hX] at q1
  rw [← hY] at q2
  simp only [hm68_123, hm68_126, hm68_127, hm68_128, hm68_129, hm68_132, hm68_134, hm68_135, hm68_136, hm68_138, hm68_139, hm68_140, hm68_141, hm68_143, hm68_144, hm68_147, hm68_149, hm68_150, hc_on_some, hc_get, hc_put, hc_ri, hc_rl, hc_is, hc_row, hc_wr, hc_mov, hc_smi, hc_sml, hc_fv, hc_ld, hc_kd, hc_sto, hc_pre, hc_two, hc_inc, hc_psh, hc_kp, hc_k1, hc_np, hc_bk_rf, hc_bk_gA, hc_set_ap, hc_set_set, Value.category, List.getElem?_cons_zero, List.getElem?_cons_succ, List.set_cons_zero, List.set_cons_succ, List.length_cons, List.length_nil, List.map_cons, List.map_nil, reduceIte, Nat.reduceAdd, Nat.reduceSub, Nat.reduceBEq, Nat.reduceEqDiff, Nat.reduceLeDiff, Nat.reduceLT, true_and, and_true, Bool.false_eq_true, reduceCtorEq, if_true, if_false, hc_xx, hc_ofNat, hc_10, not_true_eq_false, not_false_eq_true, ge_iff_le, h30, sp_end0 h30 h31 ha hc]
  refine sp_below q1.1 q1.2.1 fun r1 hr1 => ?_
  rw [q1.2.2] at hr1
  simp only [hm68_153, hm68_155, hm68_158, hm68_159, hm68_160, hm68_161, hm68_164, hm68_166, hm68_167, hm68_169, hm68_171, hm68_172, hm68_173, hm68_174, hm68_176, hm68_177, hm68_180, hm68_182, hm68_183, hc_on_some, hc_get, hc_put, hc_ri, hc_rl, hc_is, hc_row, hc_wr, hc_mov, hc_smi, hc_sml, hc_fv, hc_ld, hc_kd, hc_sto, hc_pre, hc_two, hc_inc, hc_psh, hc_kp, hc_k1, hc_np, hc_bk_rf, hc_bk_gA, hc_set_ap, hc_set_set, Value.category, List.getElem?_cons_zero, List.getElem?_cons_succ, List.set_cons_zero, List.set_cons_succ, List.length_cons, List.length_nil, List.map_cons, List.map_nil, reduceIte, Nat.reduceAdd, Nat.reduceSub, Nat.reduceBEq, Nat.reduceEqDiff, Nat.reduceLeDiff, Nat.reduceLT, true_and, and_true, Bool.false_eq_true, reduceCtorEq, if_true, if_false, hc_xx, hc_ofNat, hc_10, not_true_eq_false, not_false_eq_true, ge_iff_le, h30, sp_end1 h30 h31 ha hc]
  refine sp_below q2.1 q2.2.1 fun r2 hr2 => ?_
  rw [q2.2.2] at hr2
  have hq := hP
  obtain ⟨cc, ff, rfl, -⟩ := hq
  simp only [hm68_186, hm68_188, hm68_189, hm68_192, hm68_194, hm68_195, hm68_197, hm68_198, hc_on_some, hc_get, hc_put, hc_ri, hc_rl, hc_is, hc_row, hc_wr, hc_mov, hc_smi, hc_sml, hc_fv, hc_ld, hc_kd, hc_sto, hc_pre, hc_two, hc_inc, hc_psh, hc_kp, hc_k1, hc_np, hc_bk_rf, hc_bk_gA, hc_set_ap, hc_set_set, Value.category, List.getElem?_cons_zero, List.getElem?_cons_succ, List.set_cons_zero, List.set_cons_succ, List.length_cons, List.length_nil, List.map_cons, List.map_nil, reduceIte, Nat.reduceAdd, Nat.reduceSub, Nat.reduceBEq, Nat.reduceEqDiff, Nat.reduceLeDiff, Nat.reduceLT, true_and, and_true, Bool.false_eq_true, reduceCtorEq, if_true, if_false, hc_xx, hc_ofNat, hc_10, not_true_eq_false, not_false_eq_true, ge_iff_le, h30, hh, oMp]
  have t1 : r1.toInt32.toInt = X := by rw [i32_of64 (by rw [hr1]; omega) (by rw [hr1]; omega), hr1]
  have t2 : r2.toInt32.toInt = Y := by rw [i32_of64 (by rw [hr2]; omega) (by rw [hr2]; omega), hr2]
  refine sp_madd hh hP (by omega) (by omega) hk fun G' o' hP' hcr => ?_
  dsimp only
  rw [hc_bk_np rfl rfl]
  simp only [hm68_201, hc_on_some, hc_get, hc_put, hc_ri, hc_rl, hc_is, hc_row, hc_wr, hc_mov, hc_smi, hc_sml, hc_fv, hc_ld, hc_kd, hc_sto, hc_pre, hc_two, hc_inc, hc_psh, hc_kp, hc_k1, hc_np, hc_bk_rf, hc_bk_gA, hc_set_ap, hc_set_set, Value.category, List.getElem?_cons_zero, List.getElem?_cons_succ, List.set_cons_zero, List.set_cons_succ, List.length_cons, List.length_nil, List.map_cons, List.map_nil, reduceIte, Nat.reduceAdd, Nat.reduceSub, Nat.reduceBEq, Nat.reduceEqDiff, Nat.reduceLeDiff, Nat.reduceLT, true_and, and_true, Bool.false_eq_true, reduceCtorEq, if_true, if_false, hc_xx, hc_ofNat, hc_10, not_true_eq_false, not_false_eq_true, ge_iff_le]
  rw [kyv_toInt (by rw [t2]; omega) (by rw [t2]; omega), t1, t2] at hP'
  exact K G' o' hP' hcr
end S52
