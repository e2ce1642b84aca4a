/-! listSteps: the keys of all steps, in order -/
def stk (a b : Nat) : Int := ((min a b * 6000 + max a b : Nat) : Int)
def sk (W : List Nat) (j : Nat) : Int := stk (W[j]?.getD 0) (W[j + 1]?.getD 0)
def skl (W : List Nat) (n : Nat) : List Int := (List.range n).map (sk W)
def stl (W : List Nat) : List Int := skl W (W.length - 1)
theorem skl_succ (W : List Nat) (n : Nat) : skl W (n + 1) = skl W n ++ [sk W n] := by
  unfold skl
  rw [List.range_succ, List.map_append]
  rfl
theorem skl_len (W : List Nat) (n : Nat) : (skl W n).length = n := by
  unfold skl
  rw [List.length_map, List.length_range]
theorem nI_min {a b : Nat} (ha : a < 2 ^ 31) (hb : b < 2 ^ 31) : (if nI b < nI a then nI b else nI a) = nI (min a b) := by
  by_cases h : b < a
  · rw [if_pos (nI_lt h ha)]
    congr 1
    omega
  · rw [if_neg (nI_nlt (by omega) hb)]
    congr 1
    omega
theorem nI_max {a b : Nat} (ha : a < 2 ^ 31) (hb : b < 2 ^ 31) : (if nI a < nI b then nI b else nI a) = nI (max a b) := by
  by_cases h : a < b
  · rw [if_pos (nI_lt h hb)]
    congr 1
    omega
  · rw [if_neg (nI_nlt (by omega) ha)]
    congr 1
    omega
section S37
variable {G : hc_G} {σ : hc_H} {t : hc_T} {Q : hc_Q}
theorem stk64 {a b : Nat} (ha : a < 6000) (hb : b < 6000) : ((nI (min a b)).toInt64 * 6000 + (nI (max a b)).toInt64).toInt = stk a b := by
  have l6 : (6000 : Int64).toInt = 6000 := rfl
  have m1 : (nI (min a b)).toInt64.toInt = (min a b : Nat) := by rw [i64_of32, nI_toInt (by omega)]
  have m2 : (nI (max a b)).toInt64.toInt = (max a b : Nat) := by rw [i64_of32, nI_toInt (by omega)]
  have m3 : ((nI (min a b)).toInt64 * 6000).toInt = (min a b : Nat) * 6000 := by rw [i64_mul (by rw [m1, l6]; omega) (by rw [m1, l6]; omega), m1, l6]
  rw [i64_add (by rw [m3, m2]; omega) (by rw [m3, m2]; omega), m3, m2]
  unfold stk
  omega
/-- the steps of one way, the keys l already there -/
theorem sp_steps_in {k kh wl cf cr e b : Nat} {wc : Nat} {ff fr : Nat → Int32} {rs : List hc_F} {W : List Nat} {l : List Int} (q1 : k ≠ 10) (h : σ k = some (oLy kh wc wl (cf, .inl ff) (cr, .inl fr) rs)) (hcf : e + 1 < cf) (hcf2 : cf ≤ 50000) (hcr : cr ≤ 50000) (hbl : b + W.length ≤ cr) (hff : ff (e + 1) = nI (b + W.length)) (hfr : ∀ j (hj : j < W.length), fr (b + j) = nI W[j]) (hv : ∀ v ∈ W, v < 6000) (hlen : l.length + (W.length - 1) ≤ 20000)
    (K : ∀ G' o' (i : Int32) (g : Option Value), KSo o' (l ++ stl W) → hc_cr G σ G' (hc_set σ 10 o') → hc_wp G' (hc_set σ 10 o') none 13 91 [some (.inl (.ref k)), some (.inl (.ref 10)), some (.inl (.int (nI e))), some (.inl (.int i)), g.map Sum.inl, none] [] Q) :
    ∀ (d j : Nat) (G1 : hc_G) (o1 : hc_O) (g : Option Value), d + j = W.length - 1 → KSo o1 (l ++ skl W j) → hc_cr G σ G1 (hc_set σ 10 o1) → hc_wp G1 (hc_set σ 10 o1) none 13 24 [some (.inl (.ref k)), some (.inl (.ref 10)), some (.inl (.int (nI e))), some (.inl (.int (nI (b + j + 1)))), g.map Sum.inl, none] [] Q := by
  have q1' : ¬ 10 = k := Ne.symm q1
  have i1 : hc_inn (nI (e + 1)) cf := inn_nI (by omega) (by omega)
  have c1 : (nI (e + 1)).toNatClampNeg = e + 1 := nI_clamp (by omega)
  intro d
  induction d with
  | zero =>
    intro j G1 o1 g hd hP hcr1
    have e1 : nI (b + W.length) ≤ nI (b + j + 1) := nI_le (by omega) (by omega)
    have ej : j = W.length - 1 := by omega
    have K2 := K G1 o1 (nI (b + j + 1)) g (by unfold stl; rw [← ej]; exact hP) hcr1
    rw [hm13_24]
    simp only [hm13_25, hm13_26, hm13_29, hm13_30, hm13_31, hm13_32, hm13_33, hm13_36, hm13_37, hm13_40, hm13_41, hm13_42, hm13_43, hm13_44, hm13_45, hm13_48, hm13_49, hm13_50, hm13_53, hm13_54, hm13_56, hm13_57, hm13_59, hm13_62, hm13_63, hm13_64, hm13_67, hm13_68, hm13_69, hm13_70, hm13_71, hm13_72, hm13_75, hm13_76, hm13_77, hm13_80, hm13_81, hm13_82, hm13_85, hm13_88, hc_on_some, hc_get, hc_put, hc_ri, hc_rl, hc_is, hc_row, hc_wr, hc_mov, hc_smi, hc_sml, hc_fv, hc_ld, hc_kd, hc_sto, hc_pre, hc_two, hc_inc, hc_psh, hc_kp, hc_k1, hc_np, hc_bk_rf, hc_bk_gA, hc_set_ap, hc_set_set, Value.category, List.getElem?_cons_zero, List.getElem?_cons_succ, List.set_cons_zero, List.set_cons_succ, List.length_cons, List.length_nil, List.map_cons, List.map_nil, reduceIte, Nat.reduceAdd, Nat.reduceSub, Nat.reduceBEq, Nat.reduceEqDiff, Nat.reduceLeDiff, Nat.reduceLT, true_and, and_true, Bool.false_eq_true, reduceCtorEq, if_true, if_false, hc_xx, hc_ofNat, hc_10, not_true_eq_false, not_false_eq_true, ge_iff_le, q1, h, nI_1, i1, c1, hff, e1]
    exact K2
  | succ d ih =>
    intro j G1 o1 g hd hP hcr1
    have e1 : ¬ nI (b + W.length) ≤ nI (b + j + 1) := nI_ge (by omega) (by omega)
    have i2 : hc_inn (nI (b + j)) cr := inn_nI (by omega) (by omega)
    have i3 : hc_inn (nI (b + j + 1)) cr := inn_nI (by omega) (by omega)
    have c2 : (nI (b + j)).toNatClampNeg = b + j := nI_clamp (by omega)
    have c3 : (nI (b + j + 1)).toNatClampNeg = b + j + 1 := nI_clamp (by omega)
    have hj : j < W.length := by omega
    have hj1 : j + 1 < W.length := by omega
    have v1 : fr (b + j) = nI W[j] := hfr j hj
    have v2 : fr (b + j + 1) = nI W[j + 1] := hfr (j + 1) hj1
    have b1 := hv W[j] (List.getElem_mem hj)
    have b2 := hv W[j + 1] (List.getElem_mem hj1)
    have esk : sk W j = stk W[j] W[j + 1] := by
      unfold sk
      rw [List.getElem?_eq_getElem hj, List.getElem?_eq_getElem hj1]
      rfl
    have mn := nI_min (a := W[j]) (b := W[j + 1]) (by omega) (by omega)
    have mx := nI_max (a := W[j]) (b := W[j + 1]) (by omega) (by omega)
    have hP' := hP
    obtain ⟨ck, fk, rfl, -⟩ := hP'
    rw [hm13_24]
    simp only [hm13_25, hm13_26, hm13_29, hm13_30, hm13_31, hm13_32, hm13_33, hm13_36, hm13_37, hm13_40, hm13_41, hm13_42, hm13_43, hm13_44, hm13_45, hm13_48, hm13_49, hm13_50, hm13_53, hm13_54, hm13_56, hm13_57, hm13_59, hm13_62, hm13_63, hm13_64, hm13_67, hm13_68, hm13_69, hm13_70, hm13_71, hm13_72, hm13_75, hm13_76, hm13_77, hm13_80, hm13_81, hm13_82, hm13_85, hm13_88, hc_on_some, hc_get, hc_put, hc_ri, hc_rl, hc_is, hc_row, hc_wr, hc_mov, hc_smi, hc_sml, hc_fv, hc_ld, hc_kd, hc_sto, hc_pre, hc_two, hc_inc, hc_psh, hc_kp, hc_k1, hc_np, hc_bk_rf, hc_bk_gA, hc_set_ap, hc_set_set, Value.category, List.getElem?_cons_zero, List.getElem?_cons_succ, List.set_cons_zero, List.set_cons_succ, List.length_cons, List.length_nil, List.map_cons, List.map_nil, reduceIte, Nat.reduceAdd, Nat.reduceSub, Nat.reduceBEq, Nat.reduceEqDiff, Nat.reduceLeDiff, Nat.reduceLT, true_and, and_true, Bool.false_eq_true, reduceCtorEq, if_true, if_false, hc_xx, hc_ofNat, hc_10, not_true_eq_false, not_false_eq_true, ge_iff_le, q1, h, nI_1, i1, c1, hff, e1, nI_pred, i2, i3, c2, c3, v1, v2, sp_min, sp_max, mn, mx, oKs]
    refine sp_kadd (hc_set_at _ _ _) hP (by rw [List.length_append, skl_len]; omega) (by decide) fun G2 o2 hP2 hcr2 => ?_
    dsimp only
    rw [hc_bk_np rfl rfl]
    rw [hc_set_set] at hcr2 ⊢
    simp only [hm13_85, hm13_88, hc_on_some, hc_get, hc_put, hc_ri, hc_rl, hc_is, hc_row, hc_wr, hc_mov, hc_smi, hc_sml, hc_fv, hc_ld, hc_kd, hc_sto, hc_pre, hc_two, hc_inc, hc_psh, hc_kp, hc_k1, hc_np, hc_bk_rf, hc_bk_gA, hc_set_ap, hc_set_set, Value.category, List.getElem?_cons_zero, List.getElem?_cons_succ, List.set_cons_zero, List.set_cons_succ, List.length_cons, List.length_nil, List.map_cons, List.map_nil, reduceIte, Nat.reduceAdd, Nat.reduceSub, Nat.reduceBEq, Nat.reduceEqDiff, Nat.reduceLeDiff, Nat.reduceLT, true_and, and_true, Bool.false_eq_true, reduceCtorEq, if_true, if_false, hc_xx, hc_ofNat, hc_10, not_true_eq_false, not_false_eq_true, ge_iff_le, nI_1]
    rw [stk64 b1 b2, ← esk, List.append_assoc, ← skl_succ] at hP2
    have hd2 : d + (j + 1) = W.length - 1 := by omega
    have I := ih (j + 1) G2 o2 (some (.long (nI (min (W[j]'hj) (W[j + 1]'hj1))).toInt64)) hd2 hP2 (hcr1.tr hcr2)
    rw [hc_opt] at I
    exact I
theorem sp_listSteps {k kh cf cr : Nat} {ff fr : Nat → Int32} {rs : List hc_F} {Ws : List (List Nat)} {lk : List Int} {o0 : hc_O} (q1 : k ≠ 10) (h : σ k = some (oLy kh Ws.length Ws.flatten.length (cf, .inl ff) (cr, .inl fr) rs)) (hcf : Ws.length + 1 ≤ cf) (hcf2 : cf ≤ 50000) (hcr : cr ≤ 50000) (hl : Ws.flatten.length ≤ cr) (hF : FW ff Ws) (hC : CW fr Ws.flatten) (hv : ∀ v ∈ Ws.flatten, v < 6000) (hlen : (Ws.flatMap stl).length ≤ 20000) (h10 : σ 10 = some o0) (hP0 : KSo o0 lk)
    (K : ∀ G' o' L', KSo o' L' → L'.Perm (Ws.flatMap stl) → L'.Pairwise (· ≤ ·) → hc_cr G σ G' (hc_set σ 10 o') → Q G' (hc_set σ 10 o') none none) :
    hc_wp G σ none 13 0 [some (.inl (.ref k)), some (.inl (.ref 10)), none, none, none, none] [] Q := by
  have q1' : ¬ 10 = k := Ne.symm q1
  have loop : ∀ (R P : List (List Nat)) (G1 : hc_G) (o1 : hc_O) (g3 g4 : Option Value), P ++ R = Ws → KSo o1 (P.flatMap stl) → hc_cr G σ G1 (hc_set σ 10 o1) → hc_wp G1 (hc_set σ 10 o1) none 13 7 [some (.inl (.ref k)), some (.inl (.ref 10)), some (.inl (.int (nI P.length))), g3.map Sum.inl, g4.map Sum.inl, none] [] Q := by
    intro R
    induction R with
    | nil =>
      intro P G1 o1 g3 g4 hPR hP hcr1
      rw [List.append_nil] at hPR
      subst hPR
      rw [hm13_7]
      simp only [hm13_8, hm13_9, hm13_12, hm13_15, hm13_16, hm13_19, hm13_20, hm13_21, hm13_22, hm13_23, hm13_24, hm13_25, hm13_26, hm13_29, hm13_30, hm13_31, hm13_32, hm13_33, hm13_36, hm13_37, hm13_40, hm13_41, hm13_42, hm13_43, hm13_44, hm13_45, hm13_48, hm13_49, hm13_50, hm13_53, hm13_54, hm13_56, hm13_57, hm13_59, hm13_62, hm13_63, hm13_64, hm13_67, hm13_68, hm13_69, hm13_70, hm13_71, hm13_72, hm13_75, hm13_76, hm13_77, hm13_80, hm13_81, hm13_82, hm13_85, hm13_88, hm13_91, hm13_94, hm13_97, hm13_98, hc_on_some, hc_get, hc_put, hc_ri, hc_rl, hc_is, hc_row, hc_wr, hc_mov, hc_smi, hc_sml, hc_fv, hc_ld, hc_kd, hc_sto, hc_pre, hc_two, hc_inc, hc_psh, hc_kp, hc_k1, hc_np, hc_bk_rf, hc_bk_gA, hc_set_ap, hc_set_set, Value.category, List.getElem?_cons_zero, List.getElem?_cons_succ, List.set_cons_zero, List.set_cons_succ, List.length_cons, List.length_nil, List.map_cons, List.map_nil, reduceIte, Nat.reduceAdd, Nat.reduceSub, Nat.reduceBEq, Nat.reduceEqDiff, Nat.reduceLeDiff, Nat.reduceLT, true_and, and_true, Bool.false_eq_true, reduceCtorEq, if_true, if_false, hc_xx, hc_ofNat, hc_10, not_true_eq_false, not_false_eq_true, ge_iff_le, q1, h, if_pos (Int32.le_refl (nI P.length))]
      have hP' := hP
      obtain ⟨ck, fk, rfl, -⟩ := hP'
      simp only [hm13_97, hm13_98, hc_on_some, hc_get, hc_put, hc_ri, hc_rl, hc_is, hc_row, hc_wr, hc_mov, hc_smi, hc_sml, hc_fv, hc_ld, hc_kd, hc_sto, hc_pre, hc_two, hc_inc, hc_psh, hc_kp, hc_k1, hc_np, hc_bk_rf, hc_bk_gA, hc_set_ap, hc_set_set, Value.category, List.getElem?_cons_zero, List.getElem?_cons_succ, List.set_cons_zero, List.set_cons_succ, List.length_cons, List.length_nil, List.map_cons, List.map_nil, reduceIte, Nat.reduceAdd, Nat.reduceSub, Nat.reduceBEq, Nat.reduceEqDiff, Nat.reduceLeDiff, Nat.reduceLT, true_and, and_true, Bool.false_eq_true, reduceCtorEq, if_true, if_false, hc_xx, hc_ofNat, hc_10, not_true_eq_false, not_false_eq_true, ge_iff_le, oKs]
      refine sp_ksort (hc_set_at _ _ _) hP (by decide) fun o2 l2 hP2 hp2 hs2 hcr2 => ?_
      rw [hc_set_set] at hcr2 ⊢
      simp only [hm13_101, hc_on_some, hc_get, hc_put, hc_ri, hc_rl, hc_is, hc_row, hc_wr, hc_mov, hc_smi, hc_sml, hc_fv, hc_ld, hc_kd, hc_sto, hc_pre, hc_two, hc_inc, hc_psh, hc_kp, hc_k1, hc_np, hc_bk_rf, hc_bk_gA, hc_set_ap, hc_set_set, Value.category, List.getElem?_cons_zero, List.getElem?_cons_succ, List.set_cons_zero, List.set_cons_succ, List.length_cons, List.length_nil, List.map_cons, List.map_nil, reduceIte, Nat.reduceAdd, Nat.reduceSub, Nat.reduceBEq, Nat.reduceEqDiff, Nat.reduceLeDiff, Nat.reduceLT, true_and, and_true, Bool.false_eq_true, reduceCtorEq, if_true, if_false, hc_xx, hc_ofNat, hc_10, not_true_eq_false, not_false_eq_true, ge_iff_le]
      exact K G1 o2 l2 hP2 hp2 hs2 (hcr1.tr hcr2)
    | cons W R ih =>
      intro P G1 o1 g3 g4 hPR hP hcr1
      have hWl : Ws.length = P.length + (R.length + 1) := by
        rw [← hPR]
        simp
      have hfl : Ws.flatten = P.flatten ++ (W ++ R.flatten) := by
        rw [← hPR]
        simp
      have hfl2 : Ws.flatten.length = P.flatten.length + (W.length + R.flatten.length) := by
        rw [hfl, List.length_append, List.length_append]
      have e1 : ¬ nI Ws.length ≤ nI P.length := nI_ge (by omega) (by omega)
      have i1 : hc_inn (nI P.length) cf := inn_nI (by omega) (by omega)
      have c1 : (nI P.length).toNatClampNeg = P.length := nI_clamp (by omega)
      have f1 : ff P.length = nI P.flatten.length := by
        have := hF P.length (by omega)
        rw [this, ← hPR, List.take_left]
      have f2 : ff (P.length + 1) = nI (P.flatten.length + W.length) := by
        have := hF (P.length + 1) (by omega)
        rw [this, ← hPR]
        have : (P ++ W :: R).take (P.length + 1) = P ++ [W] := by
          rw [List.take_append, List.take_of_length_le (by omega)]
          simp
        rw [this]
        simp
      have hst : (Ws.flatMap stl).length = (P.flatMap stl).length + ((W.length - 1) + (R.flatMap stl).length) := by
        rw [← hPR]
        simp only [List.flatMap_append, List.flatMap_cons, List.length_append]
        have : (stl W).length = W.length - 1 := skl_len _ _
        rw [this]
      have hfr : ∀ j (hj : j < W.length), fr (P.flatten.length + j) = nI (W[j]'hj) := by
        intro j hj
        refine hC _ _ ?_
        rw [hfl, List.getElem?_append_right (by omega), Nat.add_sub_cancel_left, List.getElem?_append_left hj, List.getElem?_eq_getElem hj]
      have hvW : ∀ v ∈ W, v < 6000 := fun v hv2 => hv v (by rw [hfl]; exact List.mem_append_right _ (List.mem_append_left _ hv2))
      have hb1 : P.length + 1 < cf := by omega
      have hb2 : P.flatten.length + W.length ≤ cr := by omega
      have hb3 : (P.flatMap stl).length + (W.length - 1) ≤ 20000 := by
        refine Nat.le_trans ?_ hlen
        rw [hst]
        omega
      have L := sp_steps_in (G := G) (σ := σ) (Q := Q) (kh := kh) (wl := Ws.flatten.length) (cf := cf) (cr := cr) (e := P.length) (b := P.flatten.length) (wc := Ws.length) (ff := ff) (fr := fr) (rs := rs) (W := W) (l := P.flatMap stl) q1 h hb1 hcf2 hcr hb2 f2 hfr hvW hb3 (fun G2 o2 i g hP2 hcr2 => by
        have I := ih (P ++ [W]) G2 o2 (some (.int i)) g (by rw [← hPR]; simp) (by
          have : (P ++ [W]).flatMap stl = P.flatMap stl ++ stl W := by simp
          rw [this]
          exact hP2) hcr2
        have el : (P ++ [W]).length = P.length + 1 := by simp
        rw [el, hc_opt] at I
        simp only [hm13_91, hm13_94, hc_on_some, hc_get, hc_put, hc_ri, hc_rl, hc_is, hc_row, hc_wr, hc_mov, hc_smi, hc_sml, hc_fv, hc_ld, hc_kd, hc_sto, hc_pre, hc_two, hc_inc, hc_psh, hc_kp, hc_k1, hc_np, hc_bk_rf, hc_bk_gA, hc_set_ap, hc_set_set, Value.category, List.getElem?_cons_zero, List.getElem?_cons_succ, List.set_cons_zero, List.set_cons_succ, List.length_cons, List.length_nil, List.map_cons, List.map_nil, reduceIte, Nat.reduceAdd, Nat.reduceSub, Nat.reduceBEq, Nat.reduceEqDiff, Nat.reduceLeDiff, Nat.reduceLT, true_and, and_true, Bool.false_eq_true, reduceCtorEq, if_true, if_false, hc_xx, hc_ofNat, hc_10, not_true_eq_false, not_false_eq_true, ge_iff_le, nI_1]
        exact I) (W.length - 1) 0 G1 o1 g4 (Nat.add_zero _) (by
          have : skl W 0 = [] := rfl
          rw [this, List.append_nil]
          exact hP) hcr1
      rw [Nat.add_zero] at L
      rw [hm13_7]
      simp only [hm13_8, hm13_9, hm13_12, hm13_15, hm13_16, hm13_19, hm13_20, hm13_21, hm13_22, hm13_23, hc_on_some, hc_get, hc_put, hc_ri, hc_rl, hc_is, hc_row, hc_wr, hc_mov, hc_smi, hc_sml, hc_fv, hc_ld, hc_kd, hc_sto, hc_pre, hc_two, hc_inc, hc_psh, hc_kp, hc_k1, hc_np, hc_bk_rf, hc_bk_gA, hc_set_ap, hc_set_set, Value.category, List.getElem?_cons_zero, List.getElem?_cons_succ, List.set_cons_zero, List.set_cons_succ, List.length_cons, List.length_nil, List.map_cons, List.map_nil, reduceIte, Nat.reduceAdd, Nat.reduceSub, Nat.reduceBEq, Nat.reduceEqDiff, Nat.reduceLeDiff, Nat.reduceLT, true_and, and_true, Bool.false_eq_true, reduceCtorEq, if_true, if_false, hc_xx, hc_ofNat, hc_10, not_true_eq_false, not_false_eq_true, ge_iff_le, q1, h, e1, i1, c1, f1, nI_1]
      exact L
  have hP0' := hP0
  obtain ⟨ck, fk, rfl, k1, k2, k3, k4⟩ := hP0'
  have hcl : KSo (oKs 0 ck fk) [] := ⟨ck, fk, rfl, Nat.zero_le _, k2, k3, fun i v hv => by cases hv⟩
  have c0 : hc_cr G σ G (hc_set σ 10 (oKs 0 ck fk)) := hc_cr.same (by decide) h10 rfl
  have L := loop Ws [] G (oKs 0 ck fk) none none rfl hcl c0
  simp only [oKs, List.length_nil, nI_0, Option.map_none] at L
  simp only [hm13_0, hm13_1, hm13_2, hm13_5, hm13_6, hc_on_some, hc_get, hc_put, hc_ri, hc_rl, hc_is, hc_row, hc_wr, hc_mov, hc_smi, hc_sml, hc_fv, hc_ld, hc_kd, hc_sto, hc_pre, hc_two, hc_inc, hc_psh, hc_kp, hc_k1, hc_np, hc_bk_rf, hc_bk_gA, hc_set_ap, hc_set_set, Value.category, List.getElem?_cons_zero, List.getElem?_cons_succ, List.set_cons_zero, List.set_cons_succ, List.length_cons, List.length_nil, List.map_cons, List.map_nil, reduceIte, Nat.reduceAdd, Nat.reduceSub, Nat.reduceBEq, Nat.reduceEqDiff, Nat.reduceLeDiff, Nat.reduceLT, true_and, and_true, Bool.false_eq_true, reduceCtorEq, if_true, if_false, hc_xx, hc_ofNat, hc_10, not_true_eq_false, not_false_eq_true, ge_iff_le, h10, oKs]
  exact L
end S37
