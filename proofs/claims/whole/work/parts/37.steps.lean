/-! listSteps: the keys of all steps, in order -/
def stk (a b : Nat) : Int := ((min a b * 6000 + max a b : Nat) : Int)
def sk (W : List Nat) (j : Nat) : Int := stk (W[j]?.getD 0) (W[j + 1]?.getD 0)
def skl (W : List Nat) (n : Nat) : List Int := (List.range n).map (sk W)
def stl (W : List Nat) : List Int := skl W (W.length - 1)
theorem skl_succ (W : List Nat) (n : Nat) : skl W (n + 1) = skl W n ++ [sk W n] := by
  unfold skl
  rw [List.range_succ, List.map_append]
  rfl
theorem skl_len (W : List Nat) (n : Nat) : (skl W n).length = n := by
  unfold skl
  rw [List.length_map, List.length_range]
theorem nI_min {a b : Nat} (ha : a < 2 ^ 31) (hb : b < 2 ^ 31) : (if nI b < nI a then nI b else nI a) = nI (min a b) := by
  by_cases h : b < a
  · rw [if_pos (nI_lt h ha)]
    congr 1
    omega
  · rw [if_neg (nI_nlt (by omega) hb)]
    congr 1
    omega
theorem nI_max {a b : Nat} (ha : a < 2 ^ 31) (hb : b < 2 ^ 31) : (if nI a < nI b then nI b else nI a) = nI (max a b) := by
  by_cases h : a < b
  · rw [if_pos (nI_lt h hb)]
    congr 1
    omega
  · rw [if_neg (nI_nlt (by omega) ha)]
    congr 1
    omega
section S37
variable {G : hc_G} {σ : hc_H} {t : hc_T} {Q : hc_Q}
theorem stk64 {a b : Nat} (ha : a < 6000) (hb : b < 6000) : ((nI (min a b)).toInt64 * 6000 + (nI (max a b)).toInt64).toInt = stk a b := by
  have l6 : (6000 : Int64).toInt = 6000 := rfl
  have m1 : (nI (min a b)).toInt64.toInt = (min a b : Nat) := by rw [i64_of32, nI_toInt (by omega)]
  have m2 : (nI (max a b)).toInt64.toInt = (max a b : Nat) := by rw [i64_of32, nI_toInt (by omega)]
  have m3 : ((nI (min a b)).toInt64 * 6000).toInt = (min a b : Nat) * 6000 := by rw [i64_mul (by rw [m1, l6]; omega) (by rw [m1, l6]; omega), m1, l6]
  rw [i64_add (by rw [m3, m2]; omega) (by rw [m3, m2]; omega), m3, m2]
  unfold stk
  omega
/-- the steps of one way, the keys l already there -/
theorem sp_steps_in {k kh wl cf cr e b : Nat} {wc : Nat} {ff fr : Nat → Int32} {rs : List hc_F} {W : List Nat} {l : List Int} (q1 : k ≠ 10) (h : σ k = some (oLy kh wc wl (cf, .inl ff) (cr, .inl fr) rs)) (hcf : e + 1 < cf) (hcf2 : cf ≤ 50000) (hcr : cr ≤ 50000) (hbl : b + W.length ≤ cr) (hff : ff (e + 1) = nI (b + W.length)) (hfr : ∀ j (hj : j < W.length), fr (b + j) = nI W[j]) (hv : ∀ v ∈ W, v < 6000) (hlen : l.length + (W.length - 1) ≤ 20000)
    (K : ∀ G' o' (i : Int32) (g : Option Value), KSo o' (l ++ stl W) → hc_cr G σ G' (hc_set σ 10 o') → hc_wp G' (hc_set σ 10 o') none 13 91 [some (.inl (.ref k)), some (.inl (.ref 10)), some (.inl (.int (nI e))), some (.inl (.int i)), g.map Sum.inl, none] [] Q) :
    ∀ (d j : Nat) (G1 : hc_G) (o1 : hc_O) (g : Option Value), d + j = W.length - 1 → KSo o1 (l ++ skl W j) → hc_cr G σ G1 (hc_set σ 10 o1) → hc_wp G1 (hc_set σ 10 o1) none 13 24 [some (.inl (.ref k)), some (.inl (.ref 10)), some (.inl (.int (nI e))), some (.inl (.int (nI (b + j + 1)))), g.map Sum.inl, none] [] Q := by
  have q1' : ¬ 10 = k := Ne.symm q1
  have i1 : hc_inn (nI (e + 1)) cf := inn_nI (by omega) (by omega)
  have c1 : (nI (e + 1)).toNatClampNeg = e + 1 := nI_clamp (by omega)
  intro d
  induction d with
  | zero =>
    intro j G1 o1 g hd hP hcr1
    have e1 : nI (b + W.length) ≤ nI (b + j + 1) := nI_le (by omega) (by omega)
    have ej : j = W.length - 1 := by omega
    have K2 := K G1 o1 (nI (b + j + 1)) g (by unfold stl; rw [← ej]; exact hP) hcr1
    rw [hm13_24]
    simp only [hm13_25, hm13_26, hm13_29, hm13_30, hm13_31, hm13_32, hm13_33, hm13_36, hm13_37, hm13_40, hm13_41, hm13_42, hm13_43, hm13_44, hm13_45, hm13_48, hm13_49, hm13_50, hm13_53, hm13_54, hm13_56, hm13_57, hm13_59, hm13_62, hm13_63, hm13_64, hm13_67, hm13_68, hm13_69, hm13_70, hm13_71, hm13_72, hm13_75, hm13_76, hm13_77, hm13_80, hm13_81, hm13_82, hm13_85, hm13_88, hc_on_some, hc_get, hc_put, hc_ri, hc_rl, hc_is, hc_row, hc_wr, hc_mov, hc_smi, hc_sml, hc_fv, hc_ld, hc_kd, hc_sto, hc_pre, hc_two, hc_inc, hc_psh, hc_kp, hc_k1, hc_np, hc_bk_rf, hc_bk_gA, hc_set_ap, hc_set_set, Value.category, List.getElem?_cons_zero, List.getElem?_cons_succ, List.set_cons_zero, List.set_cons_succ, List.length_cons, List.length_nil, List.map_cons, List.map_nil, reduceIte, Nat.reduceAdd, Nat.reduceSub, Nat.reduceBEq, Nat.reduceEqDiff, Nat.reduceLeDiff, Nat.reduceLT, true_and, and_true, Bool.false_eq_true, reduceCtorEq, if_true, if_false, hc_xx, hc_ofNat, hc_10, not_true_eq_false, not_false_eq_true, ge_iff_le, q1, h, nI_1, i1, c1, hff, e1]
    exact K2
  | succ d ih =>
    intro j G1 o1 g hd hP hcr1
    have e1 : ¬ nI (b + W.length) ≤ nI (b + j + 1) := nI_ge (by omega) (by omega)
    have i2 : hc_inn (nI (b + j)) cr := inn_nI (by omega) (by omega)
    have i3 : hc_inn (nI (b + j + 1)) cr := inn_nI (by omega) (by omega)
    have c2 : (nI (b + j)).toNatClampNeg = b + j := nI_clamp (by omega)
    have c3 : (nI (b + j + 1)).toNatClampNeg = b + j + 1 := nI_clamp (by omega)
    have hj : j < W.length := by omega
    have hj1 : j + 1 < W.length := by omega
    have v1 : fr (b + j) = nI W[j] := hfr j hj
    have v2 : fr (b + j + 1) = nI W[j + 1] := hfr (j + 1) hj1
    have b1 := hv W[j] (List.getElem_mem hj)
    have b2 := hv W[j + 1] (List.getElem_mem hj1)
    have esk : sk W j = stk W[j] W[j + 1] := by
      unfold sk
      rw [List.getElem?_eq_getElem hj, List.getElem?_eq_getElem hj1]
      rfl
    have mn := nI_min (a := W[j]) (b := W[j + 1]) (by omega) (by omega)
    have mx := nI_max (a := W[j]) (b := W[j + 1]) (by omega) (by omega)
    have hP' := hP
    obtain ⟨ck, fk, rfl, -⟩ := hP'
    rw [hm13_24]
    simp only [hm13_25, hm13_26, hm13_29, hm13_30, hm13_31, hm13_32, hm13_33, hm13_36, hm13_37, hm13_40, hm13_41, hm13_42, hm13_43, hm13_44, hm13_45, hm13_48, hm13_49, hm13_50, hm13_53, hm13_54, hm13_56, hm13_57, hm13_59, hm13_62, hm13_63, hm13_64, hm13_67, hm13_68, hm13_69, hm13_70, hm13_71, hm13_72, hm13_75, hm13_76, hm13_77, hm13_80, hm13_81, hm13_82, hm13_85, hm13_88, hc_on_some, hc_get, hc_put, hc_ri, hc_rl, hc_is, hc_row, hc_wr, hc_mov, hc_smi, hc_sml, hc_fv, hc_ld, hc_kd, hc_sto, hc_pre, hc_two, hc_inc, hc_psh, hc_kp, hc_k1, hc_np, hc_bk_rf, hc_bk_gA, hc_set_ap, hc_set_set, Value.category, List.getElem?_cons_zero, List.getElem?_cons_succ, List.set_cons_zero, List.set_cons_succ, List.length_cons, List.length_nil, List.map_cons, List.map_nil, reduceIte, Nat.reduceAdd, Nat.reduceSub, Nat.reduceBEq, Nat.reduceEqDiff, Nat.reduceLeDiff, Nat.reduceLT, true_and, and_true, Bool.false_eq_true, reduceCtorEq, if_true, if_false, hc_xx, hc_ofNat, hc_10, not_true_eq_false, not_false_eq_true, ge_iff_le, q1, h, nI_1, i1, c1, hff, e1, nI_pred, i2, i3, c2, c3, v1, v2, sp_min, sp_max, mn, mx, oKs]
    refine sp_kadd (hc_set_at _ _ _) hP (by rw [List.length_append, skl_len]; omega) (by decide) fun G2 o2 hP2 hcr2 => ?_
    dsimp only
    rw [hc_bk_np rfl rfl]
    rw [hc_set_set] at hcr2 ⊢
    simp only [hm13_85, hm13_88, hc_on_some, hc_get, hc_put, hc_ri, hc_rl, hc_is, hc_row, hc_wr, hc_mov, hc_smi, hc_sml, hc_fv, hc_ld, hc_kd, hc_sto, hc_pre, hc_two, hc_inc, hc_psh, hc_kp, hc_k1, hc_np, hc_bk_rf, hc_bk_gA, hc_set_ap, hc_set_set, Value.category, List.getElem?_cons_zero, List.getElem?_cons_succ, List.set_cons_zero, List.set_cons_succ, List.length_cons, List.length_nil, List.map_cons, List.map_nil, reduceIte, Nat.reduceAdd, Nat.reduceSub, Nat.reduceBEq, Nat.reduceEqDiff, Nat.reduceLeDiff, Nat.reduceLT, true_and, and_true, Bool.false_eq_true, reduceCtorEq, if_true, if_false, hc_xx, hc_ofNat, hc_10, not_true_eq_false, not_false_eq_true, ge_iff_le, nI_1]
    rw [stk64 b1 b2, ← esk, List.append_assoc, ← skl_succ] at hP2
    have hd2 : d + (j + 1) = W.length - 1 := by omega
    have I := ih (j + 1) G2 o2 (some (.long (nI (min (W[j]'hj) (W[j + 1]'hj1))).toInt64)) hd2 hP2 (hcr1.tr hcr2)
    rw [hc_opt] at I
    exact I
end S37
