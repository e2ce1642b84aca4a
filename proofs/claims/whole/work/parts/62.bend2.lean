/-! bend of the reference, whole -/
/-- where the ways begin -/
def bgl (Ws : List (List Nat)) (n : Nat) : List Int := (List.range n).map fun i => ((Ws.take i).flatten.length : Int)
theorem bgl_len (Ws : List (List Nat)) (n : Nat) : (bgl Ws n).length = n := by
  unfold bgl
  rw [List.length_map, List.length_range]
theorem bgl_succ (Ws : List (List Nat)) (n : Nat) : bgl Ws (n + 1) = bgl Ws n ++ [((Ws.take n).flatten.length : Int)] := by
  unfold bgl
  rw [List.range_succ, List.map_append]
  rfl
theorem bgl_app (Ws : List (List Nat)) (B : List Nat) : ∀ n, n ≤ Ws.length + 1 → bgl (Ws ++ [B]) n = bgl Ws n := by
  intro n hn
  unfold bgl
  refine List.map_congr_left fun i hi => ?_
  have := List.mem_range.mp hi
  rw [List.take_append_of_le_length (by omega)]
theorem bgl_bg (Ws : List (List Nat)) : BG (bgl Ws (Ws.length + 1)) Ws := by
  refine Or.inr ⟨bgl_len _ _, fun i hi => ?_⟩
  unfold bgl
  rw [List.getElem?_map, List.getElem?_range (by omega)]
  rfl
theorem le_w {a e : Nat} (ha : a < 2 ^ 30) (he : e < 2 ^ 30) : (nI a - nI e - 1 ≤ 20000) ↔ a ≤ e + 20001 := by
  have h1 := pk_sub_toInt (a := a) (b := e) ha he
  have l1 : (1 : Int32).toInt = 1 := rfl
  have l2 : (20000 : Int32).toInt = 20000 := rfl
  have h2 : (nI a - nI e - 1).toInt = (a : Int) - e - 1 := by rw [i32_sub (by rw [h1, l1]; omega) (by rw [h1, l1]; omega), h1, l1]
  rw [Int32.le_iff_toInt_le, h2, l2]
  omega
theorem k1_map (y : Option Value) : hc_k1 (y.map Sum.inl) = y.map Sum.inl := by cases y <;> rfl
section S62
variable {G G0 : hc_G} {σ τ : hc_H} {t : hc_T} {Q : hc_Q} {h p w b h' p' w' b' c : Nat} {rt : hc_R} {q : hc_Cl} {f : Nat → Int32} {S E N : List (Int × Int)} {AL WL BL : List Int}
theorem sp_bend {o : hc_O} {A0 : List Int} (hz : MHp h p w b h' p' w' b') (h31 : σ 31 = some (oIn (4 * S.length) c f)) (hc : c ≤ 4096) (hS : 4 * S.length ≤ c) (hev : ELf f S E) (hb : inB S) (hb2 : inB E) (hle : E.length = S.length) (hS5 : S.length ≤ 512) (hr : Real S E) (hh : σ h' = some o) (hP : MPo o (kN N) 36002) (hbN : inB N) (hN : N.Pairwise plt) (hN6 : N.length ≤ 6000)
    (hB0 : BD σ σ h p w b h' p' w' b' rt A0 [] [])
    (K : ∀ G' τ Ws AL, Ws.length = S.length → (∀ i (hi : i < Ws.length), Way (edz S E i) N Ws[i]) → Ws.flatten.length ≤ S.length + 20000 → BD σ τ h p w b h' p' w' b' rt AL (nat2 Ws.flatten) (bgl Ws (Ws.length + 1)) → hc_cr G σ G' τ → Q G' τ none (some (.inl (.int 1))))
    (Kf : ∀ G' τ AL WL BL, BD σ τ h p w b h' p' w' b' rt AL WL BL → 20000 < stp S E N S.length → hc_cr G σ G' τ → Q G' τ none (some (.inl (.int 0)))) :
    hc_wp G σ none 74 0 [some (.inl (.ref 30)), none, none, none, none, none, none, none, none, none, none] [] Q := by
  have hz' := hz
  unfold MHp at hz'
  have z4 : ¬ (4 : Int32) = 0 := by decide
  have e4 : nI (4 * S.length) / 4 = nI S.length := by
    have : nI (4 * S.length) / 4 = nI (4 * S.length / 4) := pk_div (d := 4) (by omega) (by omega) (by omega)
    rw [this]
    congr 1
    omega
  have outer : ∀ (d : Nat) (G1 : hc_G) (τ : hc_H) (Ws : List (List Nat)) (AL : List Int) (y1 y2 y3 y4 y5 : Option Value), d + Ws.length = S.length → (∀ i (hi : i < Ws.length), Way (edz S E i) N Ws[i]) → Ws.flatten.length ≤ Ws.length + 20000 → Ws.flatten.length ≤ stp S E N Ws.length + Ws.length → BD σ τ h p w b h' p' w' b' rt AL (nat2 Ws.flatten) (bgl Ws Ws.length) → hc_cr G σ G1 τ → hc_wp G1 τ none 74 2 [some (.inl (.ref 30)), some (.inl (.int (nI Ws.length))), y1.map Sum.inl, none, y2.map Sum.inl, none, y3.map Sum.inl, none, y4.map Sum.inl, none, y5.map Sum.inl] [] Q := by
    intro d
    induction d with
    | zero =>
      intro G1 τ Ws AL y1 y2 y3 y4 y5 hd hw hlen hst hB hcr
      have el : Ws.length = S.length := by omega
      have hB' := hB
      obtain ⟨⟨q1, t30⟩, -, ⟨ow, tw, hWo⟩, ⟨ob, tb, hBo⟩, hfr⟩ := hB'
      have t31 : τ 31 = some (oIn (4 * S.length) c f) := by rw [hfr _ (by omega) (by omega) (by omega) (by omega)]; exact h31
      have hq1 := hWo
      obtain ⟨cw, fw, rfl, -⟩ := hq1
      have hq2 := hBo
      obtain ⟨cb, fb, rfl, -⟩ := hq2
      have lw : (nat2 Ws.flatten).length = Ws.flatten.length := List.length_map _
      rw [hm74_2]
      simp only [hm74_3, hm74_4, hm74_7, hm74_10, hm74_11, hm74_12, hc_on_some, hc_get, hc_put, hc_ri, hc_rl, hc_is, hc_row, hc_wr, hc_mov, hc_smi, hc_sml, hc_fv, hc_ld, hc_kd, hc_sto, hc_pre, hc_two, hc_inc, hc_psh, hc_kp, hc_k1, hc_np, hc_bk_rf, hc_bk_gA, hc_set_ap, hc_set_set, Value.category, List.getElem?_cons_zero, List.getElem?_cons_succ, List.set_cons_zero, List.set_cons_succ, List.length_cons, List.length_nil, List.map_cons, List.map_nil, reduceIte, Nat.reduceAdd, Nat.reduceSub, Nat.reduceBEq, Nat.reduceEqDiff, Nat.reduceLeDiff, Nat.reduceLT, true_and, and_true, Bool.false_eq_true, reduceCtorEq, if_true, if_false, hc_xx, hc_ofNat, hc_10, not_true_eq_false, not_false_eq_true, ge_iff_le, t30, t31, oIn, e4, z4, el, if_pos (Int32.le_refl (nI S.length))]
      simp only [hm74_268, hm74_269, hm74_272, hm74_273, hm74_276, hm74_279, hc_on_some, hc_get, hc_put, hc_ri, hc_rl, hc_is, hc_row, hc_wr, hc_mov, hc_smi, hc_sml, hc_fv, hc_ld, hc_kd, hc_sto, hc_pre, hc_two, hc_inc, hc_psh, hc_kp, hc_k1, hc_np, hc_bk_rf, hc_bk_gA, hc_set_ap, hc_set_set, Value.category, List.getElem?_cons_zero, List.getElem?_cons_succ, List.set_cons_zero, List.set_cons_succ, List.length_cons, List.length_nil, List.map_cons, List.map_nil, reduceIte, Nat.reduceAdd, Nat.reduceSub, Nat.reduceBEq, Nat.reduceEqDiff, Nat.reduceLeDiff, Nat.reduceLT, true_and, and_true, Bool.false_eq_true, reduceCtorEq, if_true, if_false, hc_xx, hc_ofNat, hc_10, not_true_eq_false, not_false_eq_true, ge_iff_le, t30, tw, tb, oIn, lw]
      refine sp_iadd tb hBo (by rw [bgl_len]; omega) (by omega) (by omega) fun G2 o2 hB2 hcr2 => ?_
      dsimp only
      rw [hc_bk_np rfl (by simp only [hc_kp, List.map_cons, List.map_nil, k1_map]; rfl)]
      have M := K G2 _ Ws AL el hw (by omega) (by
        refine BD.sb hz hB ?_
        rw [bgl_succ, List.take_of_length_le (Nat.le_refl _), ← nI_toInt (n := Ws.flatten.length) (by omega)]
        exact hB2) (hcr.tr hcr2)
      simp only [hm74_282, hm74_283, hc_on_some, hc_get, hc_put, hc_ri, hc_rl, hc_is, hc_row, hc_wr, hc_mov, hc_smi, hc_sml, hc_fv, hc_ld, hc_kd, hc_sto, hc_pre, hc_two, hc_inc, hc_psh, hc_kp, hc_k1, hc_np, hc_bk_rf, hc_bk_gA, hc_set_ap, hc_set_set, Value.category, List.getElem?_cons_zero, List.getElem?_cons_succ, List.set_cons_zero, List.set_cons_succ, List.length_cons, List.length_nil, List.map_cons, List.map_nil, reduceIte, Nat.reduceAdd, Nat.reduceSub, Nat.reduceBEq, Nat.reduceEqDiff, Nat.reduceLeDiff, Nat.reduceLT, true_and, and_true, Bool.false_eq_true, reduceCtorEq, if_true, if_false, hc_xx, hc_ofNat, hc_10, not_true_eq_false, not_false_eq_true, ge_iff_le, true_or, or_true]
      exact M
    | succ d ih =>
      intro G1 τ Ws AL y1 y2 y3 y4 y5 hd hw hlen hst hB hcr
      have he : Ws.length < S.length := by omega
      have ha : 4 * Ws.length + 3 < c := by omega
      have g1 : ¬ nI S.length ≤ nI Ws.length := nI_ge he (by omega)
      obtain ⟨v0, v1, v2, v3⟩ := hev _ he
      obtain ⟨⟨b1, b2, b3, b4⟩, b5, b6, b7, b8⟩ := edz_in hb hb2 he (show Ws.length < E.length by omega)
      have hB' := hB
      obtain ⟨⟨q1, t30⟩, ⟨oa, t52, hA⟩, -, -, hfr⟩ := hB'
      have t31 : τ 31 = some (oIn (4 * S.length) c f) := by rw [hfr _ (by omega) (by omega) (by omega) (by omega)]; exact h31
      have hq1 := hA
      obtain ⟨ca, fa, rfl, -⟩ := hq1
      rw [hm74_2]
      simp only [hm74_3, hm74_4, hm74_7, hm74_10, hm74_11, hm74_12, hm74_15, hm74_16, hm74_19, hc_on_some, hc_get, hc_put, hc_ri, hc_rl, hc_is, hc_row, hc_wr, hc_mov, hc_smi, hc_sml, hc_fv, hc_ld, hc_kd, hc_sto, hc_pre, hc_two, hc_inc, hc_psh, hc_kp, hc_k1, hc_np, hc_bk_rf, hc_bk_gA, hc_set_ap, hc_set_set, Value.category, List.getElem?_cons_zero, List.getElem?_cons_succ, List.set_cons_zero, List.set_cons_succ, List.length_cons, List.length_nil, List.map_cons, List.map_nil, reduceIte, Nat.reduceAdd, Nat.reduceSub, Nat.reduceBEq, Nat.reduceEqDiff, Nat.reduceLeDiff, Nat.reduceLT, true_and, and_true, Bool.false_eq_true, reduceCtorEq, if_true, if_false, hc_xx, hc_ofNat, hc_10, not_true_eq_false, not_false_eq_true, ge_iff_le, t30, t31, t52, oIn, e4, z4, g1]
      refine sp_iclr t52 hA (by decide) fun oa2 hA2 hcr2 => ?_
      dsimp only
      rw [hc_bk_np rfl (by simp only [hc_kp, List.map_cons, List.map_nil, k1_map]; rfl)]
      have hB2 := BD.s52 hz hB hA2
      have hB2' := hB2
      obtain ⟨⟨q2, u30⟩, -, -, -, hfr2⟩ := hB2'
      have u31 : hc_set τ 52 oa2 31 = some (oIn (4 * S.length) c f) := by rw [hfr2 _ (by omega) (by omega) (by omega) (by omega)]; exact h31
      generalize hτ2 : hc_set τ 52 oa2 = τ2 at *
      have uh : τ2 h' = some o := by rw [hfr2 _ (by omega) (by omega) (by omega) (by omega)]; exact hh
      simp only [hm74_22, hm74_23, hm74_24, hm74_25, hm74_28, hm74_29, hm74_30, hm74_31, hm74_34, hm74_37, hm74_38, hm74_39, hm74_40, hm74_41, hm74_44, hm74_45, hm74_46, hm74_47, hm74_50, hm74_53, hm74_55, hm74_56, hm74_57, hm74_58, hm74_61, hm74_62, hm74_63, hm74_64, hm74_67, hm74_70, hm74_72, hm74_73, hm74_74, hm74_75, hm74_78, hm74_79, hm74_80, hm74_81, hm74_84, hm74_87, hm74_89, hm74_90, hm74_91, hm74_92, hm74_93, hm74_94, hc_on_some, hc_get, hc_put, hc_ri, hc_rl, hc_is, hc_row, hc_wr, hc_mov, hc_smi, hc_sml, hc_fv, hc_ld, hc_kd, hc_sto, hc_pre, hc_two, hc_inc, hc_psh, hc_kp, hc_k1, hc_np, hc_bk_rf, hc_bk_gA, hc_set_ap, hc_set_set, Value.category, List.getElem?_cons_zero, List.getElem?_cons_succ, List.set_cons_zero, List.set_cons_succ, List.length_cons, List.length_nil, List.map_cons, List.map_nil, reduceIte, Nat.reduceAdd, Nat.reduceSub, Nat.reduceBEq, Nat.reduceEqDiff, Nat.reduceLeDiff, Nat.reduceLT, true_and, and_true, Bool.false_eq_true, reduceCtorEq, if_true, if_false, hc_xx, hc_ofNat, hc_10, not_true_eq_false, not_false_eq_true, ge_iff_le, u30, sp_end0 u30 u31 ha hc, sp_end1 u30 u31 ha hc, sp_end2 u30 u31 ha hc, sp_end3 u30 u31 ha hc, sp_minl, sp_maxl]
      have w1 := mnL_i (f (4 * Ws.length)).toInt64 (f (4 * Ws.length + 2)).toInt64
      have w2 := mxL_i (f (4 * Ws.length)).toInt64 (f (4 * Ws.length + 2)).toInt64
      have w3 := mnL_i (f (4 * Ws.length + 1)).toInt64 (f (4 * Ws.length + 3)).toInt64
      have w4 := mxL_i (f (4 * Ws.length + 1)).toInt64 (f (4 * Ws.length + 3)).toInt64
      rw [i64_of32, i64_of32, v0, v2] at w1 w2
      rw [i64_of32, i64_of32, v1, v3] at w3 w4
      generalize (if (f (4 * Ws.length + 2)).toInt64 < (f (4 * Ws.length)).toInt64 then (f (4 * Ws.length + 2)).toInt64 else (f (4 * Ws.length)).toInt64) = left at *
      generalize (if (f (4 * Ws.length)).toInt64 < (f (4 * Ws.length + 2)).toInt64 then (f (4 * Ws.length + 2)).toInt64 else (f (4 * Ws.length)).toInt64) = right at *
      generalize (if (f (4 * Ws.length + 3)).toInt64 < (f (4 * Ws.length + 1)).toInt64 then (f (4 * Ws.length + 3)).toInt64 else (f (4 * Ws.length + 1)).toInt64) = low at *
      generalize (if (f (4 * Ws.length + 1)).toInt64 < (f (4 * Ws.length + 3)).toInt64 then (f (4 * Ws.length + 3)).toInt64 else (f (4 * Ws.length + 1)).toInt64) = high at *
      have x1 : left.toInt32.toInt = left.toInt := i32_of64 (by omega) (by omega)
      have l1 : (1 : Int32).toInt = 1 := rfl
      have x2 : (left.toInt32 - 1).toInt = left.toInt - 1 := by rw [i32_sub (by rw [x1, l1]; omega) (by rw [x1, l1]; omega), x1, l1]
      refine sp_first u30 uh hP hbN hN hN6 fun r hr2 hrj => ?_
      simp only [hm74_97, hc_on_some, hc_get, hc_put, hc_ri, hc_rl, hc_is, hc_row, hc_wr, hc_mov, hc_smi, hc_sml, hc_fv, hc_ld, hc_kd, hc_sto, hc_pre, hc_two, hc_inc, hc_psh, hc_kp, hc_k1, hc_np, hc_bk_rf, hc_bk_gA, hc_set_ap, hc_set_set, Value.category, List.getElem?_cons_zero, List.getElem?_cons_succ, List.set_cons_zero, List.set_cons_succ, List.length_cons, List.length_nil, List.map_cons, List.map_nil, reduceIte, Nat.reduceAdd, Nat.reduceSub, Nat.reduceBEq, Nat.reduceEqDiff, Nat.reduceLeDiff, Nat.reduceLT, true_and, and_true, Bool.false_eq_true, reduceCtorEq, if_true, if_false, hc_xx, hc_ofNat, hc_10, not_true_eq_false, not_false_eq_true, ge_iff_le]
      rw [x2] at hrj
      have hB0' : Bn (edz S E Ws.length) N r = [] := by
        have z := Bn_stop' (e := edz S E Ws.length) (N := N) (n := 0) (m := r) (Nat.zero_le _) fun j _ hj ht => by
          have := (hrj j (by omega)).mp hj
          have := ht.1.1
          omega
        rw [z]
        rfl
      have hcrA : hc_cr G σ G1 τ2 := hcr.tr hcr2
      refine sp_bendA hz h31 hc hS hev hb hb2 hle hr he hh hP hbN hN hN6 w2 w3 w4 (fun G3 τ3 B k hB3 hp3 hs3 hcr3 => ?_) (N.length - r) r G1 τ2 [] (by omega) hB2 (by rw [hB0']) List.Pairwise.nil hcrA
      have hway := way_of hN (hr _ he) hp3 hs3
      have hB3' := hB3
      obtain ⟨⟨q3, s30⟩, ⟨oa3, s52, hA3⟩, ⟨ow3, sw, hWo3⟩, ⟨ob3, sb, hBo3⟩, hfr3⟩ := hB3'
      have hBl : B.length ≤ 6000 := by
        have := hp3.length_eq
        have : (Bn (edz S E Ws.length) N N.length).length ≤ N.length := by
          unfold Bn
          exact Nat.le_trans (List.length_filter_le _ _) (by rw [List.length_range]; exact Nat.le_refl _)
        omega
      have hq2 := hWo3
      obtain ⟨cw, fw, rfl, -⟩ := hq2
      have hq3 := hBo3
      obtain ⟨cb, fb, rfl, -⟩ := hq3
      have lw : (nat2 Ws.flatten).length = Ws.flatten.length := List.length_map _
      simp only [hm74_191, hm74_192, hm74_195, hm74_196, hm74_199, hm74_202, hc_on_some, hc_get, hc_put, hc_ri, hc_rl, hc_is, hc_row, hc_wr, hc_mov, hc_smi, hc_sml, hc_fv, hc_ld, hc_kd, hc_sto, hc_pre, hc_two, hc_inc, hc_psh, hc_kp, hc_k1, hc_np, hc_bk_rf, hc_bk_gA, hc_set_ap, hc_set_set, Value.category, List.getElem?_cons_zero, List.getElem?_cons_succ, List.set_cons_zero, List.set_cons_succ, List.length_cons, List.length_nil, List.map_cons, List.map_nil, reduceIte, Nat.reduceAdd, Nat.reduceSub, Nat.reduceBEq, Nat.reduceEqDiff, Nat.reduceLeDiff, Nat.reduceLT, true_and, and_true, Bool.false_eq_true, reduceCtorEq, if_true, if_false, hc_xx, hc_ofNat, hc_10, not_true_eq_false, not_false_eq_true, ge_iff_le, s30, sw, sb, oIn, lw]
      refine sp_iadd sb hBo3 (by rw [bgl_len]; omega) (by omega) (by omega) fun G4 o4 hBo4 hcr4 => ?_
      dsimp only
      rw [hc_bk_np rfl rfl]
      have hbg : bgl Ws Ws.length ++ [(nI Ws.flatten.length).toInt] = bgl (Ws ++ [B]) (Ws ++ [B]).length := by
        rw [List.length_append, List.length_cons, List.length_nil, bgl_app _ _ _ (by omega), bgl_succ, List.take_of_length_le (Nat.le_refl _), nI_toInt (by omega)]
      rw [hbg] at hBo4
      have hB4 := BD.sb hz hB3 hBo4
      simp only [hm74_205, hm74_206, hc_on_some, hc_get, hc_put, hc_ri, hc_rl, hc_is, hc_row, hc_wr, hc_mov, hc_smi, hc_sml, hc_fv, hc_ld, hc_kd, hc_sto, hc_pre, hc_two, hc_inc, hc_psh, hc_kp, hc_k1, hc_np, hc_bk_rf, hc_bk_gA, hc_set_ap, hc_set_set, Value.category, List.getElem?_cons_zero, List.getElem?_cons_succ, List.set_cons_zero, List.set_cons_succ, List.length_cons, List.length_nil, List.map_cons, List.map_nil, reduceIte, Nat.reduceAdd, Nat.reduceSub, Nat.reduceBEq, Nat.reduceEqDiff, Nat.reduceLeDiff, Nat.reduceLT, true_and, and_true, Bool.false_eq_true, reduceCtorEq, if_true, if_false, hc_xx, hc_ofNat, hc_10, not_true_eq_false, not_false_eq_true, ge_iff_le]
      have fin := sp_bendB (G := G) (σ := σ) (Q := Q) (p := p) (w := w) (b := b) (e := Ws.length) (left := left) (right := right) (low := low) (high := high) (rt := rt) (BL := bgl (Ws ++ [B]) (Ws ++ [B]).length) (WL := nat2 Ws.flatten) (B := B) hz hBl (by rw [lw]; omega) (fun G5 τ5 k5 hB5 hcr5 => by
        have hB5' := hB5
        obtain ⟨⟨q5, m30⟩, -, ⟨ow5, mw, hWo5⟩, -, hfr5⟩ := hB5'
        obtain ⟨cw5, fw5, rfl, n1, n2, n3, n4⟩ := hWo5
        have lw5 : (nat2 Ws.flatten ++ nat2 B).length = Ws.flatten.length + B.length := by
          rw [List.length_append, List.length_map, List.length_map]
        have ef : nat2 Ws.flatten ++ nat2 B = nat2 (Ws ++ [B]).flatten := by
          rw [List.flatten_append, nat2, nat2, nat2, List.map_append]
          simp
        have efl : (Ws ++ [B]).flatten.length = Ws.flatten.length + B.length := by
          rw [List.flatten_append, List.length_append]
          simp
        have cntB : cnt S E N Ws.length = B.length := by
          unfold cnt
          exact hp3.length_eq.symm
        have hst2 : Ws.flatten.length + B.length ≤ stp S E N (Ws.length + 1) + (Ws.length + 1) := by
          rw [stp_succ, cntB]
          omega
        by_cases c6 : Ws.flatten.length + B.length ≤ Ws.length + 20001
        · have c6' : nI (Ws.flatten.length + B.length) - nI Ws.length - 1 ≤ 20000 := (le_w (by omega) (by omega)).mpr c6
          have wl1 : (Ws ++ [B]).length = Ws.length + 1 := by simp
          have I := ih G5 τ5 (Ws ++ [B]) (nat2 B) (some (.long left)) (some (.long right)) (some (.long low)) (some (.long high)) (some (.int (nI k5))) (by omega) (fun i hi => by
            by_cases ci : i < Ws.length
            · rw [List.getElem_append_left ci]
              exact hw i ci
            · have : i = Ws.length := by omega
              subst this
              rw [List.getElem_append_right (Nat.le_refl _)]
              simp only [Nat.sub_self, List.getElem_cons_zero]
              exact hway) (by rw [efl, wl1]; exact le_20001 c6) (by rw [efl, wl1]; exact hst2) (by rw [← ef]; exact hB5) hcr5
          rw [wl1, hc_opt, hc_opt, hc_opt, hc_opt, hc_opt] at I
          simp only [hm74_243, hm74_244, hm74_247, hm74_250, hm74_251, hm74_252, hm74_253, hm74_254, hm74_257, hm74_260, hm74_261, hm74_262, hm74_265, hc_on_some, hc_get, hc_put, hc_ri, hc_rl, hc_is, hc_row, hc_wr, hc_mov, hc_smi, hc_sml, hc_fv, hc_ld, hc_kd, hc_sto, hc_pre, hc_two, hc_inc, hc_psh, hc_kp, hc_k1, hc_np, hc_bk_rf, hc_bk_gA, hc_set_ap, hc_set_set, Value.category, List.getElem?_cons_zero, List.getElem?_cons_succ, List.set_cons_zero, List.set_cons_succ, List.length_cons, List.length_nil, List.map_cons, List.map_nil, reduceIte, Nat.reduceAdd, Nat.reduceSub, Nat.reduceBEq, Nat.reduceEqDiff, Nat.reduceLeDiff, Nat.reduceLT, true_and, and_true, Bool.false_eq_true, reduceCtorEq, if_true, if_false, hc_xx, hc_ofNat, hc_10, not_true_eq_false, not_false_eq_true, ge_iff_le, m30, mw, oIn, lw5, c6', nI_1]
          exact I
        · have c6' : ¬ nI (Ws.flatten.length + B.length) - nI Ws.length - 1 ≤ 20000 := mt (le_w (by omega) (by omega)).mp c6
          have M := Kf G5 τ5 _ _ _ hB5 (by
            have := stp_mono (S := S) (E := E) (N := N) (show Ws.length + 1 ≤ S.length by omega)
            omega) hcr5
          simp only [hm74_243, hm74_244, hm74_247, hm74_250, hm74_251, hm74_252, hm74_253, hm74_254, hm74_257, hm74_260, hm74_261, hm74_262, hm74_265, hc_on_some, hc_get, hc_put, hc_ri, hc_rl, hc_is, hc_row, hc_wr, hc_mov, hc_smi, hc_sml, hc_fv, hc_ld, hc_kd, hc_sto, hc_pre, hc_two, hc_inc, hc_psh, hc_kp, hc_k1, hc_np, hc_bk_rf, hc_bk_gA, hc_set_ap, hc_set_set, Value.category, List.getElem?_cons_zero, List.getElem?_cons_succ, List.set_cons_zero, List.set_cons_succ, List.length_cons, List.length_nil, List.map_cons, List.map_nil, reduceIte, Nat.reduceAdd, Nat.reduceSub, Nat.reduceBEq, Nat.reduceEqDiff, Nat.reduceLeDiff, Nat.reduceLT, true_and, and_true, Bool.false_eq_true, reduceCtorEq, if_true, if_false, hc_xx, hc_ofNat, hc_10, not_true_eq_false, not_false_eq_true, ge_iff_le, m30, mw, oIn, lw5, c6', true_or, or_true]
          exact M) B.length 0 G4 _ (by omega) (by
        have e0 : nat2 Ws.flatten ++ nat2 (B.take 0) = nat2 Ws.flatten := List.append_nil _
        rw [e0]
        exact hB4) (hcr3.tr hcr4)
      rw [nI_0] at fin
      exact fin
  have L := outer S.length G σ [] A0 none none none none none (by simp) (fun i hi => by simp at hi) (by simp) (by simp) hB0 (hc_cr.rf _ _)
  simp only [Option.map_none, List.length_nil, nI_0] at L
  simp only [hm74_0, hm74_1, hc_on_some, hc_get, hc_put, hc_ri, hc_rl, hc_is, hc_row, hc_wr, hc_mov, hc_smi, hc_sml, hc_fv, hc_ld, hc_kd, hc_sto, hc_pre, hc_two, hc_inc, hc_psh, hc_kp, hc_k1, hc_np, hc_bk_rf, hc_bk_gA, hc_set_ap, hc_set_set, Value.category, List.getElem?_cons_zero, List.getElem?_cons_succ, List.set_cons_zero, List.set_cons_succ, List.length_cons, List.length_nil, List.map_cons, List.map_nil, reduceIte, Nat.reduceAdd, Nat.reduceSub, Nat.reduceBEq, Nat.reduceEqDiff, Nat.reduceLeDiff, Nat.reduceLT, true_and, and_true, Bool.false_eq_true, reduceCtorEq, if_true, if_false, hc_xx, hc_ofNat, hc_10, not_true_eq_false, not_false_eq_true, ge_iff_le]
  exact L
end S62
