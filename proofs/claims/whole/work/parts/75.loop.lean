/-! the law's loop, from the first instruction on -/
section S75
variable {G : hc_G} {σ : hc_H} {t : hc_T} {Q : hc_Q} {L B0 : Nat} {xs : Nat → Int32} {ls : hc_L} {st : List hc_V}
theorem hm92_32 {x : Int32} : hc_wp G σ t 92 32 ls (.inl (.int x) :: st) Q = if x.toInt < 0 ∨ 10 < x.toInt then hc_wp G σ t 92 383 ls st Q else hc_on (#[60, 113, 146, 157, 170, 183, 216, 249, 262, 295, 318] : Array Int)[(x.toInt - 0).toNat]? (fun off => 0 ≤ ((32 : Nat) : Int) + off ∧ hc_wp G σ t 92 (hc_tg 32 off) ls st Q) := hcw_table hcb_92 dL_law_32 (by decide)
theorem end_i {n : Nat} (hn : 5 * n < 2 ^ 29) (hL : L ≤ 2560) : (nI L - 5 < nI (5 * n)) ↔ L < 5 * n + 5 := by
  have h1 : (nI L - nI 5).toInt = (L : Int) - (5 : Nat) := pk_sub_toInt (by omega) (by omega)
  have e5 : (5 : Int32) = nI 5 := rfl
  rw [e5, Int32.lt_iff_toInt_lt, h1, nI_toInt (by omega)]
  omega
theorem law_loop (hL : L ≤ 2560) : ∀ (d n : Nat) (G : hc_G) (σ : hc_H), L < 5 * (n + d) + 5 → 5 * n ≤ L → LwP L xs B0 n G σ → hc_wp G σ none 92 18 [some (.inl (.retAddr 0)), some (.inl (.ref 0)), some (.inl (.ref 30)), some (.inl (.int (nI (5 * n))))] [] (fun G' σ' _ r => r = some (.inl (.int 1)) ∧ ∃ m, 5 * m ≤ L ∧ LwP L xs B0 m G' σ') := by
  have stop : ∀ (n : Nat) (G : hc_G) (σ : hc_H), L < 5 * n + 5 → 5 * n ≤ L → LwP L xs B0 n G σ → hc_wp G σ none 92 18 [some (.inl (.retAddr 0)), some (.inl (.ref 0)), some (.inl (.ref 30)), some (.inl (.int (nI (5 * n))))] [] (fun G' σ' _ r => r = some (.inl (.int 1)) ∧ ∃ m, 5 * m ≤ L ∧ LwP L xs B0 m G' σ') := by
    intro n G σ h1 h2 hLP
    have h1000 := hLP.2.2.1
    have c := (end_i (L := L) (n := n) (by omega) hL).mpr h1
    rw [hm92_18]
    simp only [hm92_19, hm92_20, hm92_21, hm92_22, hm92_23, hc_on_some, hc_get, hc_put, hc_ri, hc_rl, hc_is, hc_row, hc_wr, hc_mov, hc_smi, hc_sml, hc_fv, hc_ld, hc_kd, hc_sto, hc_pre, hc_two, hc_inc, hc_psh, hc_kp, hc_k1, hc_np, hc_bk_rf, hc_bk_gA, hc_set_ap, hc_set_set, Value.category, List.getElem?_cons_zero, List.getElem?_cons_succ, List.set_cons_zero, List.set_cons_succ, List.length_cons, List.length_nil, List.map_cons, List.map_nil, reduceIte, Nat.reduceAdd, Nat.reduceSub, Nat.reduceBEq, Nat.reduceEqDiff, Nat.reduceLeDiff, Nat.reduceLT, true_and, and_true, Bool.false_eq_true, reduceCtorEq, if_true, if_false, hc_xx, hc_ofNat, hc_10, not_true_eq_false, not_false_eq_true, ge_iff_le, h1000, c]
    simp only [hm92_389, hm92_390, hc_on_some, hc_get, hc_put, hc_ri, hc_rl, hc_is, hc_row, hc_wr, hc_mov, hc_smi, hc_sml, hc_fv, hc_ld, hc_kd, hc_sto, hc_pre, hc_two, hc_inc, hc_psh, hc_kp, hc_k1, hc_np, hc_bk_rf, hc_bk_gA, hc_set_ap, hc_set_set, Value.category, List.getElem?_cons_zero, List.getElem?_cons_succ, List.set_cons_zero, List.set_cons_succ, List.length_cons, List.length_nil, List.map_cons, List.map_nil, reduceIte, Nat.reduceAdd, Nat.reduceSub, Nat.reduceBEq, Nat.reduceEqDiff, Nat.reduceLeDiff, Nat.reduceLT, true_and, and_true, Bool.false_eq_true, reduceCtorEq, if_true, if_false, hc_xx, hc_ofNat, hc_10, not_true_eq_false, not_false_eq_true, ge_iff_le, true_or, or_true]
    exact ⟨n, h2, hLP⟩
  intro d
  induction d with
  | zero =>
    intro n G σ h1 h2 hLP
    exact stop n G σ (by omega) h2 hLP
  | succ d ih =>
    intro n G σ h1 h2 hLP
    by_cases c0 : L < 5 * n + 5
    · exact stop n G σ c0 h2 hLP
    have hn : 5 * n + 5 ≤ L := by omega
    have h1000 := hLP.2.2.1
    have c := mt (end_i (L := L) (n := n) (by omega) hL).mp c0
    have i0 : hc_inn (nI (5 * n)) L := inn_nI (by omega) (by omega)
    have k0 : (nI (5 * n)).toNatClampNeg = 5 * n := nI_clamp (by omega)
    have e5 : nI (5 * n) + 5 = nI (5 * (n + 1)) := nI_add _ 5
    have next : ∀ G' σ', LwP L xs B0 (n + 1) G' σ' → hc_wp G' σ' none 92 383 [some (.inl (.retAddr 0)), some (.inl (.ref 0)), some (.inl (.ref 30)), some (.inl (.int (nI (5 * n))))] [] (fun G' σ' _ r => r = some (.inl (.int 1)) ∧ ∃ m, 5 * m ≤ L ∧ LwP L xs B0 m G' σ') := by
      intro G' σ' h
      have I := ih (n + 1) G' σ' (by omega) (by omega) h
      simp only [hm92_383, hm92_386, hc_on_some, hc_get, hc_put, hc_ri, hc_rl, hc_is, hc_row, hc_wr, hc_mov, hc_smi, hc_sml, hc_fv, hc_ld, hc_kd, hc_sto, hc_pre, hc_two, hc_inc, hc_psh, hc_kp, hc_k1, hc_np, hc_bk_rf, hc_bk_gA, hc_set_ap, hc_set_set, Value.category, List.getElem?_cons_zero, List.getElem?_cons_succ, List.set_cons_zero, List.set_cons_succ, List.length_cons, List.length_nil, List.map_cons, List.map_nil, reduceIte, Nat.reduceAdd, Nat.reduceSub, Nat.reduceBEq, Nat.reduceEqDiff, Nat.reduceLeDiff, Nat.reduceLT, true_and, and_true, Bool.false_eq_true, reduceCtorEq, if_true, if_false, hc_xx, hc_ofNat, hc_10, not_true_eq_false, not_false_eq_true, ge_iff_le, e5]
      exact I
    rw [hm92_18]
    simp only [hm92_19, hm92_20, hm92_21, hm92_22, hm92_23, hm92_26, hm92_27, hm92_28, hm92_29, hm92_31, hc_on_some, hc_get, hc_put, hc_ri, hc_rl, hc_is, hc_row, hc_wr, hc_mov, hc_smi, hc_sml, hc_fv, hc_ld, hc_kd, hc_sto, hc_pre, hc_two, hc_inc, hc_psh, hc_kp, hc_k1, hc_np, hc_bk_rf, hc_bk_gA, hc_set_ap, hc_set_set, Value.category, List.getElem?_cons_zero, List.getElem?_cons_succ, List.set_cons_zero, List.set_cons_succ, List.length_cons, List.length_nil, List.map_cons, List.map_nil, reduceIte, Nat.reduceAdd, Nat.reduceSub, Nat.reduceBEq, Nat.reduceEqDiff, Nat.reduceLeDiff, Nat.reduceLT, true_and, and_true, Bool.false_eq_true, reduceCtorEq, if_true, if_false, hc_xx, hc_ofNat, hc_10, not_true_eq_false, not_false_eq_true, ge_iff_le, h1000, c, i0, k0]
    rw [hm92_32]
    generalize xs (5 * n) &&& 15 = x
    by_cases hd : x.toInt < 0 ∨ 10 < x.toInt
    · rw [if_pos hd]
      exact next G σ hLP.up
    · rw [if_neg hd]
      have hx : x.toInt = 0 ∨ x.toInt = 1 ∨ x.toInt = 2 ∨ x.toInt = 3 ∨ x.toInt = 4 ∨ x.toInt = 5 ∨ x.toInt = 6 ∨ x.toInt = 7 ∨ x.toInt = 8 ∨ x.toInt = 9 ∨ x.toInt = 10 := by omega
      rcases hx with e | e | e | e | e | e | e | e | e | e | e
      · rw [e]
        show 0 ≤ ((32 : Nat) : Int) + 60 ∧ hc_wp G σ none 92 92 _ _ _
        exact ⟨by decide, law_edge hLP hn hL next⟩
      · rw [e]
        show 0 ≤ ((32 : Nat) : Int) + 113 ∧ hc_wp G σ none 92 145 _ _ _
        exact ⟨by decide, law_point hLP hn hL next⟩
      · rw [e]
        show 0 ≤ ((32 : Nat) : Int) + 146 ∧ hc_wp G σ none 92 178 _ _ _
        exact ⟨by decide, law_clear hLP next⟩
      · rw [e]
        show 0 ≤ ((32 : Nat) : Int) + 157 ∧ hc_wp G σ none 92 189 _ _ _
        exact ⟨by decide, law_lay hLP next⟩
      · rw [e]
        show 0 ≤ ((32 : Nat) : Int) + 170 ∧ hc_wp G σ none 92 202 _ _ _
        exact ⟨by decide, law_nodes hLP hn hL next⟩
      · rw [e]
        show 0 ≤ ((32 : Nat) : Int) + 183 ∧ hc_wp G σ none 92 215 _ _ _
        exact ⟨by decide, law_node hLP hn hL next⟩
      · rw [e]
        show 0 ≤ ((32 : Nat) : Int) + 216 ∧ hc_wp G σ none 92 248 _ _ _
        exact ⟨by decide, law_find hLP hn hL next⟩
      · rw [e]
        show 0 ≤ ((32 : Nat) : Int) + 249 ∧ hc_wp G σ none 92 281 _ _ _
        exact ⟨by decide, law_pieces hLP hn hL next⟩
      · rw [e]
        show 0 ≤ ((32 : Nat) : Int) + 262 ∧ hc_wp G σ none 92 294 _ _ _
        exact ⟨by decide, law_piece hLP hn hL next⟩
      · rw [e]
        show 0 ≤ ((32 : Nat) : Int) + 295 ∧ hc_wp G σ none 92 327 _ _ _
        exact ⟨by decide, law_way hLP hn hL next⟩
      · rw [e]
        show 0 ≤ ((32 : Nat) : Int) + 318 ∧ hc_wp G σ none 92 350 _ _ _
        exact ⟨by decide, law_wayNode hLP hn hL next⟩
theorem law_run (hL : L ≤ 2560) : ∃ n G' σ' t', hc_ex n hc_G0 (hc_σ0 L xs) none 92 0 [some (.inl (.retAddr 0)), none, none, none] [] = some (G', σ', t', some (.inl (.int 1))) ∧ G'.2.1 ≤ 600000 ∧ G'.2.2.1 ≤ 7302250 := by
  have W : hc_wp hc_G0 (hc_σ0 L xs) none 92 0 [some (.inl (.retAddr 0)), none, none, none] [] (fun G' _ _ r => r = some (.inl (.int 1)) ∧ G'.2.1 ≤ 600000 ∧ G'.2.2.1 ≤ 7302250) := by
    have g0 : hc_G0.2.1 = 0 := rfl
    have s0 : hc_G0.2.2.1 = 0 := rfl
    simp only [hm92_0, hm92_3, hm92_4, hc_on_some, hc_get, hc_put, hc_ri, hc_rl, hc_is, hc_row, hc_wr, hc_mov, hc_smi, hc_sml, hc_fv, hc_ld, hc_kd, hc_sto, hc_pre, hc_two, hc_inc, hc_psh, hc_kp, hc_k1, hc_np, hc_bk_rf, hc_bk_gA, hc_set_ap, hc_set_set, Value.category, List.getElem?_cons_zero, List.getElem?_cons_succ, List.set_cons_zero, List.set_cons_succ, List.length_cons, List.length_nil, List.map_cons, List.map_nil, reduceIte, Nat.reduceAdd, Nat.reduceSub, Nat.reduceBEq, Nat.reduceEqDiff, Nat.reduceLeDiff, Nat.reduceLT, true_and, and_true, Bool.false_eq_true, reduceCtorEq, if_true, if_false, hc_xx, hc_ofNat, hc_10, not_true_eq_false, not_false_eq_true, ge_iff_le, g0]
    refine sp_newC (gO_1 g0) (hc_set_at _ _ _) fun G1 σ1 hC fr1 g1 s1 => ?_
    dsimp only
    rw [hc_bk_np rfl rfl]
    simp only [hm92_7, hm92_7p, hm92_8, hm92_11, hm92_12, hc_on_some, hc_get, hc_put, hc_ri, hc_rl, hc_is, hc_row, hc_wr, hc_mov, hc_smi, hc_sml, hc_fv, hc_ld, hc_kd, hc_sto, hc_pre, hc_two, hc_inc, hc_psh, hc_kp, hc_k1, hc_np, hc_bk_rf, hc_bk_gA, hc_set_ap, hc_set_set, Value.category, List.getElem?_cons_zero, List.getElem?_cons_succ, List.set_cons_zero, List.set_cons_succ, List.length_cons, List.length_nil, List.map_cons, List.map_nil, reduceIte, Nat.reduceAdd, Nat.reduceSub, Nat.reduceBEq, Nat.reduceEqDiff, Nat.reduceLeDiff, Nat.reduceLT, true_and, and_true, Bool.false_eq_true, reduceCtorEq, if_true, if_false, hc_xx, hc_ofNat, hc_10, not_true_eq_false, not_false_eq_true, ge_iff_le, g1]
    refine sp_newM (gO_1 g1) (hc_set_at _ _ _) fun G2 σ2 hM fr2 g2 s2 => ?_
    dsimp only
    rw [hc_bk_np rfl rfl]
    rw [gO_2] at s1 s2
    have old : ∀ k, k ≠ 1000 → nob k → mob k → σ2 k = none := by
      intro k hk a1 a2
      rw [fr2 k a2, hc_set_ne _ _ a2.1, fr1 k a1, hc_set_ne _ _ a1.1]
      unfold hc_σ0
      rw [if_neg hk]
    have hLP : LwP L xs 1849 0 G2 σ2 := by
      refine ⟨⟨[], [], [], [], [], [], hC.fr fun j hj => ?_, hM, ⟨fun q hq => absurd hq List.not_mem_nil, fun q hq => absurd hq List.not_mem_nil, fun q hq => absurd hq List.not_mem_nil, rfl, by simp, by simp, fun i hi => absurd hi (Nat.not_lt_zero i)⟩, Nat.zero_le _, Nat.zero_le _, ⟨fun q hq => absurd hq List.not_mem_nil, List.Pairwise.nil, by simp, by simp, fun v hv => absurd hv List.not_mem_nil, fun q hq => absurd hq List.not_mem_nil⟩⟩, by omega, ?_, fun j h1 h2 => old j (by omega) (by unfold nob; omega) (by unfold mob; omega)⟩
      · rw [fr2 j (by unfold mob; omega), hc_set_ne _ _ (by omega)]
      · rw [fr2 1000 (by unfold mob; omega), hc_set_ne _ _ (by omega), fr1 1000 (by unfold nob; omega), hc_set_ne _ _ (by omega)]
        rfl
    have Lp := wp_keep (law_loop (B0 := 1849) (xs := xs) hL 512 0 G2 σ2 (by omega) (Nat.zero_le _) hLP)
    have Z := hc_wp_mono Lp (Q' := fun G' _ _ r => r = some (.inl (.int 1)) ∧ G'.2.1 ≤ 600000 ∧ G'.2.2.1 ≤ 7302250) (by
      rintro G' σ' t' r ⟨⟨hr, m, hm, hL2⟩, kp⟩
      obtain ⟨⟨S, E, P, N, Ws, Ps, hC2, hM2, -⟩, hcost, -, hnone⟩ := hL2
      have hphi := phi_le hC2 hM2 fun k hk a1 a2 => by
        by_cases z : k < 54
        · exact kp.2 k (by omega) (old k (by omega) a1 a2)
        · exact hnone k (by omega) hk
      exact ⟨hr, by omega, by omega⟩)
    rw [Nat.mul_zero, nI_0] at Z
    simp only [hm92_15, hm92_15p, hm92_16, hm92_17, hc_on_some, hc_get, hc_put, hc_ri, hc_rl, hc_is, hc_row, hc_wr, hc_mov, hc_smi, hc_sml, hc_fv, hc_ld, hc_kd, hc_sto, hc_pre, hc_two, hc_inc, hc_psh, hc_kp, hc_k1, hc_np, hc_bk_rf, hc_bk_gA, hc_set_ap, hc_set_set, Value.category, List.getElem?_cons_zero, List.getElem?_cons_succ, List.set_cons_zero, List.set_cons_succ, List.length_cons, List.length_nil, List.map_cons, List.map_nil, reduceIte, Nat.reduceAdd, Nat.reduceSub, Nat.reduceBEq, Nat.reduceEqDiff, Nat.reduceLeDiff, Nat.reduceLT, true_and, and_true, Bool.false_eq_true, reduceCtorEq, if_true, if_false, hc_xx, hc_ofNat, hc_10, not_true_eq_false, not_false_eq_true, ge_iff_le]
    exact Z
  obtain ⟨n, G', σ', t', r, h1, rfl, h2, h3⟩ := W
  exact ⟨n, G', σ', t', h1, h2, h3⟩
end S75
