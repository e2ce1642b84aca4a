/-! projection, firstFrom, insert of the reference -/
theorem ICI {f : Nat → Int32} {B : List Nat} (h : CI f (nat2 B)) {i : Nat} (hi : i < B.length) : (f i).toInt = (B[i] : Nat) := by
  refine h i _ ?_
  rw [List.getElem?_map, List.getElem?_eq_getElem hi]
  rfl
section S60
variable {G : hc_G} {σ : hc_H} {t : hc_T} {Q : hc_Q} {h p w b h' p' w' b' n c : Nat} {rt : hc_R} {q : hc_Cl} {f : Nat → Int32} {S E N : List (Int × Int)}
theorem sp_proj {e i : Nat} {o : hc_O} (h30 : σ 30 = some (oMd h p w b h' p' w' b' rt q)) (h31 : σ 31 = some (oIn n c f)) (hc : c ≤ 4096) (hS : 4 * S.length ≤ c) (hev : ELf f S E) (hb : inB S) (hb2 : inB E) (hle : E.length = S.length) (he : e < S.length) (hh : σ h' = some o) (hP : MPo o (kN N) 36002) (hbN : inB N) (hi : i < N.length)
    (K : ∀ v : Int64, v.toInt = prj (edz S E e) (nd N i) → Q G σ t (some (.inl (.long v)))) :
    hc_wp G σ t 73 0 [some (.inl (.ref 30)), some (.inl (.int (nI e))), some (.inl (.int (nI i)))] [] Q := by
  have ha : 4 * e + 3 < c := by omega
  obtain ⟨v0, v1, v2, v3⟩ := hev e he
  obtain ⟨⟨b1, b2, b3, b4⟩, b5, b6, b7, b8⟩ := edz_in hb hb2 he (show e < E.length by omega)
  obtain ⟨ni1, ni2, ni3, ni4⟩ := (kN_at hbN hi).2.2
  have hq := hP
  obtain ⟨cc, ff, rfl, -⟩ := hq
  simp only [hm73_0, hm73_1, hm73_4, hm73_5, hc_on_some, hc_get, hc_put, hc_ri, hc_rl, hc_is, hc_row, hc_wr, hc_mov, hc_smi, hc_sml, hc_fv, hc_ld, hc_kd, hc_sto, hc_pre, hc_two, hc_inc, hc_psh, hc_kp, hc_k1, hc_np, hc_bk_rf, hc_bk_gA, hc_set_ap, hc_set_set, Value.category, List.getElem?_cons_zero, List.getElem?_cons_succ, List.set_cons_zero, List.set_cons_succ, List.length_cons, List.length_nil, List.map_cons, List.map_nil, reduceIte, Nat.reduceAdd, Nat.reduceSub, Nat.reduceBEq, Nat.reduceEqDiff, Nat.reduceLeDiff, Nat.reduceLT, true_and, and_true, Bool.false_eq_true, reduceCtorEq, if_true, if_false, hc_xx, hc_ofNat, hc_10, not_true_eq_false, not_false_eq_true, ge_iff_le, h30, hh, oMp]
  refine sp_nx hh hP hbN hi fun vx hvx => ?_
  simp only [hm73_8, hm73_9, hm73_10, hm73_11, hm73_12, hm73_15, hm73_16, hm73_17, hm73_18, hm73_19, hm73_22, hm73_23, hm73_24, hm73_25, hm73_28, hm73_29, hm73_30, hm73_31, hm73_34, hm73_35, hc_on_some, hc_get, hc_put, hc_ri, hc_rl, hc_is, hc_row, hc_wr, hc_mov, hc_smi, hc_sml, hc_fv, hc_ld, hc_kd, hc_sto, hc_pre, hc_two, hc_inc, hc_psh, hc_kp, hc_k1, hc_np, hc_bk_rf, hc_bk_gA, hc_set_ap, hc_set_set, Value.category, List.getElem?_cons_zero, List.getElem?_cons_succ, List.set_cons_zero, List.set_cons_succ, List.length_cons, List.length_nil, List.map_cons, List.map_nil, reduceIte, Nat.reduceAdd, Nat.reduceSub, Nat.reduceBEq, Nat.reduceEqDiff, Nat.reduceLeDiff, Nat.reduceLT, true_and, and_true, Bool.false_eq_true, reduceCtorEq, if_true, if_false, hc_xx, hc_ofNat, hc_10, not_true_eq_false, not_false_eq_true, ge_iff_le, h30, hh, oMp, sp_end0 h30 h31 ha hc, sp_end2 h30 h31 ha hc]
  refine sp_ny hh hP hbN hi fun vy hvy => ?_
  simp only [hm73_38, hm73_39, hm73_40, hm73_41, hm73_42, hm73_45, hm73_46, hm73_47, hm73_48, hm73_49, hm73_52, hm73_53, hm73_54, hm73_55, hm73_58, hm73_59, hm73_60, hm73_61, hc_on_some, hc_get, hc_put, hc_ri, hc_rl, hc_is, hc_row, hc_wr, hc_mov, hc_smi, hc_sml, hc_fv, hc_ld, hc_kd, hc_sto, hc_pre, hc_two, hc_inc, hc_psh, hc_kp, hc_k1, hc_np, hc_bk_rf, hc_bk_gA, hc_set_ap, hc_set_set, Value.category, List.getElem?_cons_zero, List.getElem?_cons_succ, List.set_cons_zero, List.set_cons_succ, List.length_cons, List.length_nil, List.map_cons, List.map_nil, reduceIte, Nat.reduceAdd, Nat.reduceSub, Nat.reduceBEq, Nat.reduceEqDiff, Nat.reduceLeDiff, Nat.reduceLT, true_and, and_true, Bool.false_eq_true, reduceCtorEq, if_true, if_false, hc_xx, hc_ofNat, hc_10, not_true_eq_false, not_false_eq_true, ge_iff_le, h30, hh, oMp, sp_end1 h30 h31 ha hc, sp_end3 h30 h31 ha hc]
  refine K _ ?_
  have d1 := dfL (a := vx) (b := f (4 * e)) (by omega) (by omega)
  have d2 := dfL (a := f (4 * e + 2)) (b := f (4 * e)) (by omega) (by omega)
  have d3 := dfL (a := vy) (b := f (4 * e + 1)) (by omega) (by omega)
  have d4 := dfL (a := f (4 * e + 3)) (b := f (4 * e + 1)) (by omega) (by omega)
  have m1 := mbd 1000000 1000000 (by omega) (by omega) d2.2.1 d2.2.2 (a := (vx.toInt64 - (f (4 * e)).toInt64).toInt)
  have m2 := mbd 1000000 1000000 (by omega) (by omega) d4.2.1 d4.2.2 (a := (vy.toInt64 - (f (4 * e + 1)).toInt64).toInt)
  have e1 : ((vx.toInt64 - (f (4 * e)).toInt64) * ((f (4 * e + 2)).toInt64 - (f (4 * e)).toInt64)).toInt = (vx.toInt64 - (f (4 * e)).toInt64).toInt * ((f (4 * e + 2)).toInt64 - (f (4 * e)).toInt64).toInt := i64_mul (by omega) (by omega)
  have e2 : ((vy.toInt64 - (f (4 * e + 1)).toInt64) * ((f (4 * e + 3)).toInt64 - (f (4 * e + 1)).toInt64)).toInt = (vy.toInt64 - (f (4 * e + 1)).toInt64).toInt * ((f (4 * e + 3)).toInt64 - (f (4 * e + 1)).toInt64).toInt := i64_mul (by omega) (by omega)
  rw [i64_add (by rw [e1, e2]; omega) (by rw [e1, e2]; omega), e1, e2, d1.1, d2.1, d3.1, d4.1, hvx, hvy, v0, v1, v2, v3]
  rfl
theorem sp_first {x : Int32} {o : hc_O} (h30 : σ 30 = some (oMd h p w b h' p' w' b' rt q)) (hh : σ h' = some o) (hP : MPo o (kN N) 36002) (hbN : inB N) (hN : N.Pairwise plt) (hl : N.length ≤ 6000)
    (K : ∀ r, r ≤ N.length → (∀ j, j < N.length → (j < r ↔ (nd N j).1 < x.toInt)) → Q G σ t (some (.inl (.int (nI r))))) :
    hc_wp G σ t 75 0 [some (.inl (.ref 30)), some (.inl (.int x)), none, none, none] [] Q := by
  have hq := hP
  obtain ⟨cc, ff, rfl, -⟩ := hq
  have mono : ∀ i j, i ≤ j → j < N.length → (nd N i).1 ≤ (nd N j).1 := by
    intro i j hij hj
    by_cases z : i = j
    · rw [z]
      exact Int.le_refl _
    · have := pw_get hN i j (by omega) hj
      show (N[i]?.getD (0, 0)).1 ≤ (N[j]?.getD (0, 0)).1
      rw [List.getElem?_eq_getElem (show i < N.length by omega), List.getElem?_eq_getElem hj]
      simp only [Option.getD_some]
      unfold plt at this
      omega
  have z2 : ¬ (2 : Int32) = 0 := by decide
  have loop : ∀ (d lo hi : Nat) (g : Option Value), hi - lo ≤ d → lo ≤ hi → hi ≤ N.length → (∀ j, j < lo → (nd N j).1 < x.toInt) → (∀ j, hi ≤ j → j < N.length → ¬ (nd N j).1 < x.toInt) → hc_wp G σ t 75 10 [some (.inl (.ref 30)), some (.inl (.int x)), some (.inl (.int (nI lo))), some (.inl (.int (nI hi))), g.map Sum.inl] [] Q := by
    intro d
    induction d with
    | zero =>
      intro lo hi g hw h1' h2' ha hb
      have e : lo = hi := by omega
      subst e
      rw [hm75_10]
      simp only [hm75_11, hm75_12, hm75_15, hm75_16, hm75_17, hm75_18, hm75_19, hm75_20, hm75_22, hm75_23, hm75_26, hm75_28, hm75_31, hm75_32, hm75_35, hm75_37, hm75_38, hm75_39, hm75_40, hm75_43, hm75_45, hm75_46, hm75_49, hm75_50, hc_on_some, hc_get, hc_put, hc_ri, hc_rl, hc_is, hc_row, hc_wr, hc_mov, hc_smi, hc_sml, hc_fv, hc_ld, hc_kd, hc_sto, hc_pre, hc_two, hc_inc, hc_psh, hc_kp, hc_k1, hc_np, hc_bk_rf, hc_bk_gA, hc_set_ap, hc_set_set, Value.category, List.getElem?_cons_zero, List.getElem?_cons_succ, List.set_cons_zero, List.set_cons_succ, List.length_cons, List.length_nil, List.map_cons, List.map_nil, reduceIte, Nat.reduceAdd, Nat.reduceSub, Nat.reduceBEq, Nat.reduceEqDiff, Nat.reduceLeDiff, Nat.reduceLT, true_and, and_true, Bool.false_eq_true, reduceCtorEq, if_true, if_false, hc_xx, hc_ofNat, hc_10, not_true_eq_false, not_false_eq_true, ge_iff_le, if_pos (Int32.le_refl (nI lo))]
      exact K lo h2' fun j hj => ⟨fun z => ha j z, fun z => by
        by_cases y : j < lo
        · exact y
        · exact absurd z (hb j (by omega) hj)⟩
    | succ d ih =>
      intro lo hi g hw h1' h2' ha hb
      by_cases e : lo = hi
      · subst e
        rw [hm75_10]
        simp only [hm75_11, hm75_12, hm75_15, hm75_16, hm75_17, hm75_18, hm75_19, hm75_20, hm75_22, hm75_23, hm75_26, hm75_28, hm75_31, hm75_32, hm75_35, hm75_37, hm75_38, hm75_39, hm75_40, hm75_43, hm75_45, hm75_46, hm75_49, hm75_50, hc_on_some, hc_get, hc_put, hc_ri, hc_rl, hc_is, hc_row, hc_wr, hc_mov, hc_smi, hc_sml, hc_fv, hc_ld, hc_kd, hc_sto, hc_pre, hc_two, hc_inc, hc_psh, hc_kp, hc_k1, hc_np, hc_bk_rf, hc_bk_gA, hc_set_ap, hc_set_set, Value.category, List.getElem?_cons_zero, List.getElem?_cons_succ, List.set_cons_zero, List.set_cons_succ, List.length_cons, List.length_nil, List.map_cons, List.map_nil, reduceIte, Nat.reduceAdd, Nat.reduceSub, Nat.reduceBEq, Nat.reduceEqDiff, Nat.reduceLeDiff, Nat.reduceLT, true_and, and_true, Bool.false_eq_true, reduceCtorEq, if_true, if_false, hc_xx, hc_ofNat, hc_10, not_true_eq_false, not_false_eq_true, ge_iff_le, if_pos (Int32.le_refl (nI lo))]
        exact K lo h2' fun j hj => ⟨fun z => ha j z, fun z => by
          by_cases y : j < lo
          · exact y
          · exact absurd z (hb j (by omega) hj)⟩
      · have e1 : ¬ nI hi ≤ nI lo := nI_ge (by omega) (by omega)
        have e2 : nI (lo + hi) / 2 = nI ((lo + hi) / 2) := pk_div (d := 2) (by omega) (by omega) (by omega)
        have hb1 : lo ≤ (lo + hi) / 2 := by omega
        have hb2 : (lo + hi) / 2 < hi := by omega
        have hmN : (lo + hi) / 2 < N.length := by omega
        rw [hm75_10]
        simp only [hm75_11, hm75_12, hm75_15, hm75_16, hm75_17, hm75_18, hm75_19, hm75_20, hm75_22, hm75_23, hm75_26, hm75_28, hc_on_some, hc_get, hc_put, hc_ri, hc_rl, hc_is, hc_row, hc_wr, hc_mov, hc_smi, hc_sml, hc_fv, hc_ld, hc_kd, hc_sto, hc_pre, hc_two, hc_inc, hc_psh, hc_kp, hc_k1, hc_np, hc_bk_rf, hc_bk_gA, hc_set_ap, hc_set_set, Value.category, List.getElem?_cons_zero, List.getElem?_cons_succ, List.set_cons_zero, List.set_cons_succ, List.length_cons, List.length_nil, List.map_cons, List.map_nil, reduceIte, Nat.reduceAdd, Nat.reduceSub, Nat.reduceBEq, Nat.reduceEqDiff, Nat.reduceLeDiff, Nat.reduceLT, true_and, and_true, Bool.false_eq_true, reduceCtorEq, if_true, if_false, hc_xx, hc_ofNat, hc_10, not_true_eq_false, not_false_eq_true, ge_iff_le, e1, nI_add, e2, z2, h30, hh, oMp]
        generalize (lo + hi) / 2 = mid at *
        refine sp_nx hh hP hbN hmN fun vx hvx => ?_
        by_cases c : vx < x
        · have c' := Int32.lt_iff_toInt_lt.mp c
          have c2 : ¬ x ≤ vx := by
            rw [Int32.not_le]
            exact c
          have I := ih (mid + 1) hi (some (.int (nI mid))) (by omega) (by omega) h2' (fun j hj => by
            have := mono j mid (by omega) hmN
            omega) hb
          rw [hc_opt] at I
          simp only [hm75_31, hm75_32, hm75_35, hm75_37, hm75_38, hm75_39, hm75_40, hm75_43, hm75_45, hm75_46, hc_on_some, hc_get, hc_put, hc_ri, hc_rl, hc_is, hc_row, hc_wr, hc_mov, hc_smi, hc_sml, hc_fv, hc_ld, hc_kd, hc_sto, hc_pre, hc_two, hc_inc, hc_psh, hc_kp, hc_k1, hc_np, hc_bk_rf, hc_bk_gA, hc_set_ap, hc_set_set, Value.category, List.getElem?_cons_zero, List.getElem?_cons_succ, List.set_cons_zero, List.set_cons_succ, List.length_cons, List.length_nil, List.map_cons, List.map_nil, reduceIte, Nat.reduceAdd, Nat.reduceSub, Nat.reduceBEq, Nat.reduceEqDiff, Nat.reduceLeDiff, Nat.reduceLT, true_and, and_true, Bool.false_eq_true, reduceCtorEq, if_true, if_false, hc_xx, hc_ofNat, hc_10, not_true_eq_false, not_false_eq_true, ge_iff_le, c2, nI_1]
          exact I
        · have c' := mt Int32.lt_iff_toInt_lt.mpr c
          have c2 : x ≤ vx := by
            rw [← Int32.not_lt]
            exact c
          have I := ih lo mid (some (.int (nI mid))) (by omega) (by omega) (by omega) ha (fun j hj hjN => by
            have := mono mid j hj hjN
            omega)
          rw [hc_opt] at I
          simp only [hm75_31, hm75_32, hm75_35, hm75_37, hm75_38, hm75_39, hm75_40, hm75_43, hm75_45, hm75_46, hc_on_some, hc_get, hc_put, hc_ri, hc_rl, hc_is, hc_row, hc_wr, hc_mov, hc_smi, hc_sml, hc_fv, hc_ld, hc_kd, hc_sto, hc_pre, hc_two, hc_inc, hc_psh, hc_kp, hc_k1, hc_np, hc_bk_rf, hc_bk_gA, hc_set_ap, hc_set_set, Value.category, List.getElem?_cons_zero, List.getElem?_cons_succ, List.set_cons_zero, List.set_cons_succ, List.length_cons, List.length_nil, List.map_cons, List.map_nil, reduceIte, Nat.reduceAdd, Nat.reduceSub, Nat.reduceBEq, Nat.reduceEqDiff, Nat.reduceLeDiff, Nat.reduceLT, true_and, and_true, Bool.false_eq_true, reduceCtorEq, if_true, if_false, hc_xx, hc_ofNat, hc_10, not_true_eq_false, not_false_eq_true, ge_iff_le, c2, nI_1]
          exact I
  have hlen : (kN N).length = N.length := List.length_map _
  have L := loop N.length 0 N.length none (by omega) (by omega) (by omega) (fun j hj => by omega) (fun j h1 h2 => by omega)
  rw [Option.map_none, nI_0] at L
  simp only [hm75_0, hm75_1, hm75_2, hm75_3, hm75_6, hm75_9, hc_on_some, hc_get, hc_put, hc_ri, hc_rl, hc_is, hc_row, hc_wr, hc_mov, hc_smi, hc_sml, hc_fv, hc_ld, hc_kd, hc_sto, hc_pre, hc_two, hc_inc, hc_psh, hc_kp, hc_k1, hc_np, hc_bk_rf, hc_bk_gA, hc_set_ap, hc_set_set, Value.category, List.getElem?_cons_zero, List.getElem?_cons_succ, List.set_cons_zero, List.set_cons_succ, List.length_cons, List.length_nil, List.map_cons, List.map_nil, reduceIte, Nat.reduceAdd, Nat.reduceSub, Nat.reduceBEq, Nat.reduceEqDiff, Nat.reduceLeDiff, Nat.reduceLT, true_and, and_true, Bool.false_eq_true, reduceCtorEq, if_true, if_false, hc_xx, hc_ofNat, hc_10, not_true_eq_false, not_false_eq_true, ge_iff_le, h30, hh, oMp, hlen]
  exact L
/-- insert: the node h comes behind all whose projections are not above its own -/
theorem sp_insert {e i : Nat} {o oa : hc_O} {B : List Nat} (h30 : σ 30 = some (oMd h p w b h' p' w' b' rt q)) (h31 : σ 31 = some (oIn n c f)) (hc : c ≤ 4096) (hS : 4 * S.length ≤ c) (hev : ELf f S E) (hb : inB S) (hb2 : inB E) (hle : E.length = S.length) (he : e < S.length) (n5 : h' ≠ 52) (hh : σ h' = some o) (hP : MPo o (kN N) 36002) (hbN : inB N) (hi : i < N.length) (hN6 : N.length ≤ 6000)
    (h52 : σ 52 = some oa) (hA : INo oa (nat2 B) 12000) (hBl : B.length < 6000) (hBv : ∀ v ∈ B, v < N.length) (hBs : B.Pairwise (prjL (edz S E e) N))
    (K : ∀ G' o' B', INo o' (nat2 B') 12000 → B'.Perm (i :: B) → B'.Pairwise (prjL (edz S E e) N) → hc_cr G σ G' (hc_set σ 52 o') → Q G' (hc_set σ 52 o') none none) :
    hc_wp G σ none 76 0 [some (.inl (.ref 30)), some (.inl (.int (nI e))), some (.inl (.int (nI i))), none] [] Q := by
  have n5' : ¬ h' = 52 := n5
  have m30 : ∀ o, hc_set σ 52 o 30 = some (oMd h p w b h' p' w' b' rt q) := fun o => by rw [hc_set_ne _ _ (by decide)]; exact h30
  have m31 : ∀ o, hc_set σ 52 o 31 = some (oIn n c f) := fun o => by rw [hc_set_ne _ _ (by decide)]; exact h31
  have mh : ∀ o', hc_set σ 52 o' h' = some o := fun o' => by rw [hc_set_ne _ _ n5]; exact hh
  have hl2 : (nat2 B).length = B.length := List.length_map _
  have hq := hA
  obtain ⟨c0, f0, rfl, -⟩ := hq
  simp only [hm76_0, hm76_1, hm76_4, hm76_5, hc_on_some, hc_get, hc_put, hc_ri, hc_rl, hc_is, hc_row, hc_wr, hc_mov, hc_smi, hc_sml, hc_fv, hc_ld, hc_kd, hc_sto, hc_pre, hc_two, hc_inc, hc_psh, hc_kp, hc_k1, hc_np, hc_bk_rf, hc_bk_gA, hc_set_ap, hc_set_set, Value.category, List.getElem?_cons_zero, List.getElem?_cons_succ, List.set_cons_zero, List.set_cons_succ, List.length_cons, List.length_nil, List.map_cons, List.map_nil, reduceIte, Nat.reduceAdd, Nat.reduceSub, Nat.reduceBEq, Nat.reduceEqDiff, Nat.reduceLeDiff, Nat.reduceLT, true_and, and_true, Bool.false_eq_true, reduceCtorEq, if_true, if_false, hc_xx, hc_ofNat, hc_10, not_true_eq_false, not_false_eq_true, ge_iff_le, h30, h52, oIn]
  refine sp_iadd h52 hA (by omega) (by omega) (by decide) fun G1 o1 hA1 hcr1 => ?_
  dsimp only
  rw [hc_bk_np rfl rfl]
  obtain ⟨c1, f1, rfl, q1, q2, q3, q4⟩ := hA1
  have hl3 : (nat2 B ++ [(nI i).toInt]).length = B.length + 1 := by simp
  rw [hl3] at q1 hcr1 ⊢
  have ei : (nI i).toInt = (i : Int) := nI_toInt (by omega)
  have fB : ∀ j (hj : j < B.length), (f1 j).toInt = (B[j]'hj : Nat) := by
    intro j hj
    refine q4 j _ ?_
    rw [List.getElem?_append_left (by omega), List.getElem?_map, List.getElem?_eq_getElem hj]
    rfl
  have fin : ∀ (k : Nat) (g : Nat → Int32), k ≤ B.length → (∀ j (hj : j < B.length), j < k → (g j).toInt = (B[j]'hj : Nat)) → (∀ j (hj : j < B.length), k ≤ j → (g (j + 1)).toInt = (B[j]'hj : Nat) ∧ prj (edz S E e) (nd N i) < prj (edz S E e) (nd N (B[j]'hj))) → (∀ j (hj : j < B.length), j < k → prj (edz S E e) (nd N (B[j]'hj)) ≤ prj (edz S E e) (nd N i)) → hc_cr G σ G1 (hc_set σ 52 (oIn (B.length + 1) c1 g)) → hc_wp G1 (hc_set σ 52 (oIn (B.length + 1) c1 g)) none 76 74 [some (.inl (.ref 30)), some (.inl (.int (nI e))), some (.inl (.int (nI i))), some (.inl (.int (nI k)))] [] Q := by
    intro k g hk g1 g2 g3 hcr
    have i1 : hc_inn (nI k) c1 := inn_nI (by omega) (by omega)
    have k1 : (nI k).toNatClampNeg = k := nI_clamp (by omega)
    have hlen : (B.take k ++ i :: B.drop k).length = B.length + 1 := by
      rw [List.length_append, List.length_cons, List.length_take, List.length_drop]
      omega
    have cs := hc_cr.same (G := G1) (σ := hc_set σ 52 (oIn (B.length + 1) c1 g)) (o := oIn (B.length + 1) c1 (upd g k (nI i))) (by decide) (hc_set_at _ _ _) rfl
    rw [hc_set_set] at cs
    have M := K G1 (oIn (B.length + 1) c1 (upd g k (nI i))) (B.take k ++ i :: B.drop k) ⟨c1, _, by rw [List.length_map, hlen], by rw [List.length_map, hlen]; exact q1, q2, q3, ?_⟩ ?_ ?_ (hcr.tr cs)
    · simp only [hm76_74, hm76_75, hm76_78, hm76_81, hm76_82, hm76_83, hm76_84, hc_on_some, hc_get, hc_put, hc_ri, hc_rl, hc_is, hc_row, hc_wr, hc_mov, hc_smi, hc_sml, hc_fv, hc_ld, hc_kd, hc_sto, hc_pre, hc_two, hc_inc, hc_psh, hc_kp, hc_k1, hc_np, hc_bk_rf, hc_bk_gA, hc_set_ap, hc_set_set, Value.category, List.getElem?_cons_zero, List.getElem?_cons_succ, List.set_cons_zero, List.set_cons_succ, List.length_cons, List.length_nil, List.map_cons, List.map_nil, reduceIte, Nat.reduceAdd, Nat.reduceSub, Nat.reduceBEq, Nat.reduceEqDiff, Nat.reduceLeDiff, Nat.reduceLT, true_and, and_true, Bool.false_eq_true, reduceCtorEq, if_true, if_false, hc_xx, hc_ofNat, hc_10, not_true_eq_false, not_false_eq_true, ge_iff_le, m30, h30, oIn, i1, k1]
      exact M
    · intro j v hj
      have hj2 := (List.getElem?_eq_some_iff.mp hj).1
      rw [List.length_map, hlen] at hj2
      rw [List.getElem?_map] at hj
      by_cases c5 : j < k
      · rw [List.getElem?_append_left (by rw [List.length_take]; omega), List.getElem?_take_of_lt c5, List.getElem?_eq_getElem (by omega)] at hj
        cases hj
        simp only [upd, if_neg (Nat.ne_of_lt c5)]
        exact g1 j (by omega) c5
      · by_cases c6 : j = k
        · subst c6
          rw [List.getElem?_append_right (by rw [List.length_take]; omega), List.length_take, Nat.min_eq_left hk, Nat.sub_self] at hj
          cases hj
          simp only [upd, if_true]
          exact ei
        · obtain ⟨j', rfl⟩ : ∃ j', j = j' + 1 := ⟨j - 1, by omega⟩
          rw [List.getElem?_append_right (by rw [List.length_take]; omega), List.length_take, Nat.min_eq_left hk, show j' + 1 - k = (j' - k) + 1 by omega, List.getElem?_cons_succ, List.getElem?_drop, show k + (j' - k) = j' by omega, List.getElem?_eq_getElem (by omega)] at hj
          cases hj
          simp only [upd, if_neg c6]
          exact (g2 j' (by omega) (by omega)).1
    · refine List.perm_middle.trans ?_
      rw [List.take_append_drop]
    · have h9 := hBs
      rw [← List.take_append_drop k B, List.pairwise_append] at h9
      rw [List.pairwise_append]
      refine ⟨h9.1, List.pairwise_cons.mpr ⟨fun v hv => ?_, h9.2.1⟩, fun a ha v hv => ?_⟩
      · obtain ⟨m, hm, e9⟩ := List.getElem_of_mem hv
        rw [List.length_drop] at hm
        rw [List.getElem_drop] at e9
        have := (g2 (k + m) (by omega) (by omega)).2
        rw [e9] at this
        show prj _ _ ≤ prj _ _
        omega
      · rcases List.mem_cons.mp hv with rfl | hv
        · obtain ⟨m, hm, e9⟩ := List.getElem_of_mem ha
          rw [List.length_take] at hm
          rw [List.getElem_take] at e9
          have := g3 m (by omega) (by omega)
          rw [e9] at this
          exact this
        · exact h9.2.2 a ha v hv
  have loop : ∀ (k : Nat) (g : Nat → Int32), k ≤ B.length → (∀ j (hj : j < B.length), j < k → (g j).toInt = (B[j]'hj : Nat)) → (∀ j (hj : j < B.length), k ≤ j → (g (j + 1)).toInt = (B[j]'hj : Nat) ∧ prj (edz S E e) (nd N i) < prj (edz S E e) (nd N (B[j]'hj))) → hc_cr G σ G1 (hc_set σ 52 (oIn (B.length + 1) c1 g)) → hc_wp G1 (hc_set σ 52 (oIn (B.length + 1) c1 g)) none 76 18 [some (.inl (.ref 30)), some (.inl (.int (nI e))), some (.inl (.int (nI i))), some (.inl (.int (nI k)))] [] Q := by
    intro k
    induction k with
    | zero =>
      intro g hk g1 g2 hcr
      have F := fin _ g hk g1 g2 (fun j hj hj2 => by omega) hcr
      rw [hm76_18]
      have z0 : nI 0 ≤ 0 := by
        rw [nI_0]
        exact Int32.le_refl _
      simp only [hm76_19, hm76_22, hm76_23, hm76_24, hm76_25, hm76_28, hm76_31, hm76_32, hm76_33, hm76_34, hm76_35, hm76_38, hm76_39, hm76_40, hm76_41, hm76_44, hm76_45, hm76_48, hm76_49, hm76_52, hm76_55, hm76_56, hm76_57, hm76_60, hm76_63, hm76_64, hm76_65, hm76_66, hm76_67, hm76_68, hm76_71, hc_on_some, hc_get, hc_put, hc_ri, hc_rl, hc_is, hc_row, hc_wr, hc_mov, hc_smi, hc_sml, hc_fv, hc_ld, hc_kd, hc_sto, hc_pre, hc_two, hc_inc, hc_psh, hc_kp, hc_k1, hc_np, hc_bk_rf, hc_bk_gA, hc_set_ap, hc_set_set, Value.category, List.getElem?_cons_zero, List.getElem?_cons_succ, List.set_cons_zero, List.set_cons_succ, List.length_cons, List.length_nil, List.map_cons, List.map_nil, reduceIte, Nat.reduceAdd, Nat.reduceSub, Nat.reduceBEq, Nat.reduceEqDiff, Nat.reduceLeDiff, Nat.reduceLT, true_and, and_true, Bool.false_eq_true, reduceCtorEq, if_true, if_false, hc_xx, hc_ofNat, hc_10, not_true_eq_false, not_false_eq_true, ge_iff_le, z0]
      exact F
    | succ k ih =>
      intro g hk g1 g2 hcr
      have hkB : k < B.length := by omega
      have z0 : ¬ nI (k + 1) ≤ 0 := nI_nle (by omega) (by omega)
      have i1 : hc_inn (nI k) c1 := inn_nI (by omega) (by omega)
      have i2 : hc_inn (nI (k + 1)) c1 := inn_nI (by omega) (by omega)
      have k1 : (nI k).toNatClampNeg = k := nI_clamp (by omega)
      have k2 : (nI (k + 1)).toNatClampNeg = k + 1 := nI_clamp (by omega)
      have gk : g k = nI (B[k]'hkB) := Int32.toInt_inj.mp (by rw [g1 k hkB (by omega), nI_toInt (by have := hBv _ (List.getElem_mem hkB); omega)])
      have bk := hBv _ (List.getElem_mem hkB)
      rw [hm76_18]
      simp only [hm76_19, hm76_22, hm76_23, hm76_24, hm76_25, hm76_28, hm76_31, hm76_32, hm76_33, hm76_34, hm76_35, hc_on_some, hc_get, hc_put, hc_ri, hc_rl, hc_is, hc_row, hc_wr, hc_mov, hc_smi, hc_sml, hc_fv, hc_ld, hc_kd, hc_sto, hc_pre, hc_two, hc_inc, hc_psh, hc_kp, hc_k1, hc_np, hc_bk_rf, hc_bk_gA, hc_set_ap, hc_set_set, Value.category, List.getElem?_cons_zero, List.getElem?_cons_succ, List.set_cons_zero, List.set_cons_succ, List.length_cons, List.length_nil, List.map_cons, List.map_nil, reduceIte, Nat.reduceAdd, Nat.reduceSub, Nat.reduceBEq, Nat.reduceEqDiff, Nat.reduceLeDiff, Nat.reduceLT, true_and, and_true, Bool.false_eq_true, reduceCtorEq, if_true, if_false, hc_xx, hc_ofNat, hc_10, not_true_eq_false, not_false_eq_true, ge_iff_le, z0, m30, h30, oIn, nI_pred, i1, k1, gk]
      refine sp_proj (m30 _) (m31 _) hc hS hev hb hb2 hle he (mh _) hP hbN bk fun v1 hv1 => ?_
      simp only [hm76_38, hm76_39, hm76_40, hm76_41, hc_on_some, hc_get, hc_put, hc_ri, hc_rl, hc_is, hc_row, hc_wr, hc_mov, hc_smi, hc_sml, hc_fv, hc_ld, hc_kd, hc_sto, hc_pre, hc_two, hc_inc, hc_psh, hc_kp, hc_k1, hc_np, hc_bk_rf, hc_bk_gA, hc_set_ap, hc_set_set, Value.category, List.getElem?_cons_zero, List.getElem?_cons_succ, List.set_cons_zero, List.set_cons_succ, List.length_cons, List.length_nil, List.map_cons, List.map_nil, reduceIte, Nat.reduceAdd, Nat.reduceSub, Nat.reduceBEq, Nat.reduceEqDiff, Nat.reduceLeDiff, Nat.reduceLT, true_and, and_true, Bool.false_eq_true, reduceCtorEq, if_true, if_false, hc_xx, hc_ofNat, hc_10, not_true_eq_false, not_false_eq_true, ge_iff_le, m30, h30]
      refine sp_proj (m30 _) (m31 _) hc hS hev hb hb2 hle he (mh _) hP hbN hi fun v2 hv2 => ?_
      by_cases c2 : v1 ≤ v2
      · have c2' := Int64.le_iff_toInt_le.mp c2
        have F := fin _ g hk g1 g2 (fun j hj hj2 => by
          have : prj (edz S E e) (nd N (B[j]'hj)) ≤ prj (edz S E e) (nd N (B[k]'hkB)) := by
            by_cases z : j = k
            · subst z
              exact Int.le_refl _
            · exact pw_get hBs j k (by omega) hkB
          omega) hcr
        simp only [hm76_44, hm76_45, hc_on_some, hc_get, hc_put, hc_ri, hc_rl, hc_is, hc_row, hc_wr, hc_mov, hc_smi, hc_sml, hc_fv, hc_ld, hc_kd, hc_sto, hc_pre, hc_two, hc_inc, hc_psh, hc_kp, hc_k1, hc_np, hc_bk_rf, hc_bk_gA, hc_set_ap, hc_set_set, Value.category, List.getElem?_cons_zero, List.getElem?_cons_succ, List.set_cons_zero, List.set_cons_succ, List.length_cons, List.length_nil, List.map_cons, List.map_nil, reduceIte, Nat.reduceAdd, Nat.reduceSub, Nat.reduceBEq, Nat.reduceEqDiff, Nat.reduceLeDiff, Nat.reduceLT, true_and, and_true, Bool.false_eq_true, reduceCtorEq, if_true, if_false, hc_xx, hc_ofNat, hc_10, not_true_eq_false, not_false_eq_true, ge_iff_le, lgc_le, c2]
        exact F
      · have c2' := mt Int64.le_iff_toInt_le.mpr c2
        have cs := hc_cr.same (G := G1) (σ := hc_set σ 52 (oIn (B.length + 1) c1 g)) (o := oIn (B.length + 1) c1 (upd g (k + 1) (g k))) (by decide) (hc_set_at _ _ _) rfl
        rw [hc_set_set] at cs
        have I := ih (upd g (k + 1) (g k)) (by omega) (fun j hj hj2 => by
          simp only [upd, if_neg (show ¬ j = k + 1 by omega)]
          exact g1 j hj (by omega)) (fun j hj hj2 => by
          by_cases z : j = k
          · subst z
            simp only [upd, if_true]
            exact ⟨g1 j hj (by omega), by omega⟩
          · simp only [upd, if_neg (show ¬ j + 1 = k + 1 by omega)]
            exact g2 j hj (by omega)) (hcr.tr cs)
        simp only [hm76_44, hm76_45, hm76_48, hm76_49, hm76_52, hm76_55, hm76_56, hm76_57, hm76_60, hm76_63, hm76_64, hm76_65, hm76_66, hm76_67, hm76_68, hm76_71, hc_on_some, hc_get, hc_put, hc_ri, hc_rl, hc_is, hc_row, hc_wr, hc_mov, hc_smi, hc_sml, hc_fv, hc_ld, hc_kd, hc_sto, hc_pre, hc_two, hc_inc, hc_psh, hc_kp, hc_k1, hc_np, hc_bk_rf, hc_bk_gA, hc_set_ap, hc_set_set, Value.category, List.getElem?_cons_zero, List.getElem?_cons_succ, List.set_cons_zero, List.set_cons_succ, List.length_cons, List.length_nil, List.map_cons, List.map_nil, reduceIte, Nat.reduceAdd, Nat.reduceSub, Nat.reduceBEq, Nat.reduceEqDiff, Nat.reduceLeDiff, Nat.reduceLT, true_and, and_true, Bool.false_eq_true, reduceCtorEq, if_true, if_false, hc_xx, hc_ofNat, hc_10, not_true_eq_false, not_false_eq_true, ge_iff_le, lgc_le, c2, m30, h30, oIn, nI_pred, i1, k1, i2, k2, nI_m1, dI_1]
        exact I
  have L := loop B.length f1 (Nat.le_refl _) (fun j hj _ => fB j hj) (fun j hj hj2 => by omega) hcr1
  simp only [hm76_8, hm76_9, hm76_12, hm76_15, hm76_16, hm76_17, hc_on_some, hc_get, hc_put, hc_ri, hc_rl, hc_is, hc_row, hc_wr, hc_mov, hc_smi, hc_sml, hc_fv, hc_ld, hc_kd, hc_sto, hc_pre, hc_two, hc_inc, hc_psh, hc_kp, hc_k1, hc_np, hc_bk_rf, hc_bk_gA, hc_set_ap, hc_set_set, Value.category, List.getElem?_cons_zero, List.getElem?_cons_succ, List.set_cons_zero, List.set_cons_succ, List.length_cons, List.length_nil, List.map_cons, List.map_nil, reduceIte, Nat.reduceAdd, Nat.reduceSub, Nat.reduceBEq, Nat.reduceEqDiff, Nat.reduceLeDiff, Nat.reduceLT, true_and, and_true, Bool.false_eq_true, reduceCtorEq, if_true, if_false, hc_xx, hc_ofNat, hc_10, not_true_eq_false, not_false_eq_true, ge_iff_le, m30, h30, oIn, nI_pred]
  exact L
end S60
