/-! cross of the reference, whole; the hot places gathered -/
section S54
variable {G : hc_G} {σ : hc_H} {t : hc_T} {Q : hc_Q} {h p w b h' p' w' b' n c ia ib : Nat} {rt : hc_R} {q : hc_Cl} {f : Nat → Int32} {S E P : List (Int × Int)}
theorem dfL {a b : Int32} (h1 : -500000 ≤ a.toInt ∧ a.toInt ≤ 500000) (h2 : -500000 ≤ b.toInt ∧ b.toInt ≤ 500000) : (a.toInt64 - b.toInt64).toInt = a.toInt - b.toInt ∧ (-1000000 ≤ (a.toInt64 - b.toInt64).toInt ∧ (a.toInt64 - b.toInt64).toInt ≤ 1000000) := by
  have e : (a.toInt64 - b.toInt64).toInt = a.toInt - b.toInt := by rw [i64_sub (by rw [i64_of32, i64_of32]; omega) (by rw [i64_of32, i64_of32]; omega), i64_of32, i64_of32]
  exact ⟨e, by omega⟩
theorem sp_cross {L : List Int} {o : hc_O} (h30 : σ 30 = some (oMd h p w b h' p' w' b' rt q)) (h31 : σ 31 = some (oIn n c f)) (hc : c ≤ 4096) (hS : 4 * S.length ≤ c) (hev : ELf f S E) (hb : inB S) (hb2 : inB E) (hle : E.length = S.length) (hi : ia < S.length) (hi2 : ib < S.length) (hh : σ h' = some o) (hP : MPo o L 36002) (hL : L.length ≤ 18000) (hk : h' < 60) {X Y : Int} (hq : crs (edz S E ia) (edz S E ib) = some (X, Y))
    (K : ∀ G' o', MPo o' (L ++ [kxy X Y]) 36002 → hc_cr G σ G' (hc_set σ h' o') → Q G' (hc_set σ h' o') none none) :
    hc_wp G σ none 68 0 [some (.inl (.ref 30)), some (.inl (.int (nI ia))), some (.inl (.int (nI ib))), none, none, none, none, none, none, none, none, none, none, none, none, none, none, none, none] [] Q := by
  have ha : 4 * ia + 3 < c := by omega
  have hd : 4 * ib + 3 < c := by omega
  obtain ⟨v0, v1, v2, v3⟩ := hev ia hi
  obtain ⟨u0, u1, u2, u3⟩ := hev ib hi2
  have zin := crs_in (edz_in hb hb2 hi (by omega)).1 (edz_in hb hb2 hi (by omega)).2 hq
  obtain ⟨⟨b1, b2, b3, b4⟩, b5, b6, b7, b8⟩ := edz_in hb hb2 hi (show ia < E.length by omega)
  obtain ⟨⟨c1, c2, c3, c4⟩, c5, c6, c7, c8⟩ := edz_in hb hb2 hi2 (show ib < E.length by omega)
  obtain ⟨T, A, O, hs, hT, a1, a2, o1, o2, hX, hY⟩ := crs_norm hq
  rw [← v0] at b1 b2
  rw [← v1] at b3 b4
  rw [← v2] at b5 b6
  rw [← v3] at b7 b8
  rw [← u0] at c1 c2
  rw [← u1] at c3 c4
  rw [← u2] at c5 c6
  rw [← u3] at c7 c8
  have dx := dfL ⟨b5, b6⟩ ⟨b1, b2⟩
  have dy := dfL ⟨b7, b8⟩ ⟨b3, b4⟩
  have ex := dfL ⟨c5, c6⟩ ⟨c1, c2⟩
  have ey := dfL ⟨c7, c8⟩ ⟨c3, c4⟩
  have gx := dfL ⟨c1, c2⟩ ⟨b1, b2⟩
  have gy := dfL ⟨c3, c4⟩ ⟨b3, b4⟩
  have t1 := det64 dx.2 ey.2 dy.2 ex.2
  have t2 := det64 gx.2 ey.2 gy.2 ex.2
  have tT1 : ((f (4 * ia + 2)).toInt64 - (f (4 * ia)).toInt64).toInt * ((f (4 * ib + 3)).toInt64 - (f (4 * ib + 1)).toInt64).toInt - ((f (4 * ia + 3)).toInt64 - (f (4 * ia + 1)).toInt64).toInt * ((f (4 * ib + 2)).toInt64 - (f (4 * ib)).toInt64).toInt = tT (edz S E ia) (edz S E ib) := by
    rw [dx.1, dy.1, ex.1, ey.1, v0, v1, v2, v3, u0, u1, u2, u3]
  have tA1 : ((f (4 * ib)).toInt64 - (f (4 * ia)).toInt64).toInt * ((f (4 * ib + 3)).toInt64 - (f (4 * ib + 1)).toInt64).toInt - ((f (4 * ib + 1)).toInt64 - (f (4 * ia + 1)).toInt64).toInt * ((f (4 * ib + 2)).toInt64 - (f (4 * ib)).toInt64).toInt = tA (edz S E ia) (edz S E ib) := by
    rw [gx.1, gy.1, ex.1, ey.1, v0, v1, u0, u1, u2, u3]
  rw [tT1] at t1
  rw [tA1] at t2
  rw [← v0, ← v2, ← dx.1] at hX
  rw [← v1, ← v3, ← dy.1] at hY
  simp only [hm68_0, hm68_1, hm68_2, hm68_3, hm68_6, hm68_7, hm68_8, hm68_9, hm68_12, hm68_13, hm68_14, hm68_15, hm68_16, hm68_17, hm68_20, hm68_21, hm68_22, hm68_23, hm68_26, hm68_27, hm68_29, hm68_30, hm68_31, hm68_32, hm68_35, hm68_36, hm68_37, hm68_38, hm68_41, hm68_42, hm68_44, hm68_45, hm68_46, hm68_47, hm68_50, hm68_51, hm68_52, hm68_53, hm68_56, hm68_57, hm68_59, hm68_60, hm68_62, hm68_63, hm68_65, hm68_67, hm68_68, hm68_69, hm68_71, hm68_72, hm68_73, hm68_74, hm68_77, hm68_78, hm68_79, hm68_80, hm68_83, hm68_84, hm68_86, hm68_87, hm68_88, hm68_89, hm68_90, hm68_93, hm68_94, hm68_95, hm68_96, hm68_99, hm68_100, hm68_102, hm68_103, hm68_104, hc_on_some, hc_get, hc_put, hc_ri, hc_rl, hc_is, hc_row, hc_wr, hc_mov, hc_smi, hc_sml, hc_fv, hc_ld, hc_kd, hc_sto, hc_pre, hc_two, hc_inc, hc_psh, hc_kp, hc_k1, hc_np, hc_bk_rf, hc_bk_gA, hc_set_ap, hc_set_set, Value.category, List.getElem?_cons_zero, List.getElem?_cons_succ, List.set_cons_zero, List.set_cons_succ, List.length_cons, List.length_nil, List.map_cons, List.map_nil, reduceIte, Nat.reduceAdd, Nat.reduceSub, Nat.reduceBEq, Nat.reduceEqDiff, Nat.reduceLeDiff, Nat.reduceLT, true_and, and_true, Bool.false_eq_true, reduceCtorEq, if_true, if_false, hc_xx, hc_ofNat, hc_10, not_true_eq_false, not_false_eq_true, ge_iff_le, h30, sp_end0 h30 h31 ha hc, sp_end1 h30 h31 ha hc, sp_end2 h30 h31 ha hc, sp_end3 h30 h31 ha hc, sp_end0 h30 h31 hd hc, sp_end1 h30 h31 hd hc, sp_end2 h30 h31 hd hc, sp_end3 h30 h31 hd hc]
  generalize ((f (4 * ia + 2)).toInt64 - (f (4 * ia)).toInt64) * ((f (4 * ib + 3)).toInt64 - (f (4 * ib + 1)).toInt64) - ((f (4 * ia + 3)).toInt64 - (f (4 * ia + 1)).toInt64) * ((f (4 * ib + 2)).toInt64 - (f (4 * ib)).toInt64) = TT at *
  generalize ((f (4 * ib)).toInt64 - (f (4 * ia)).toInt64) * ((f (4 * ib + 3)).toInt64 - (f (4 * ib + 1)).toInt64) - ((f (4 * ib + 1)).toInt64 - (f (4 * ia + 1)).toInt64) * ((f (4 * ib + 2)).toInt64 - (f (4 * ib)).toInt64) = AA at *
  have l0 : (0 : Int64).toInt = 0 := rfl
  have z1 : (0 ≤ TT) ↔ 0 ≤ TT.toInt := by rw [Int64.le_iff_toInt_le, l0]
  by_cases cs : 0 ≤ TT
  · have cs' := z1.mp cs
    rcases hs with ⟨hs1, hs2, hs3⟩ | ⟨hs1, hs2, hs3⟩
    · have w1 : T = TT.toInt := by omega
      have w2 : A = AA.toInt := by omega
      rw [w1, w2] at hX hY
      simp only [hm68_106, hm68_108, hm68_109, hm68_110, hm68_113, hm68_115, hm68_116, hm68_118, hm68_120, hm68_121, hc_on_some, hc_get, hc_put, hc_ri, hc_rl, hc_is, hc_row, hc_wr, hc_mov, hc_smi, hc_sml, hc_fv, hc_ld, hc_kd, hc_sto, hc_pre, hc_two, hc_inc, hc_psh, hc_kp, hc_k1, hc_np, hc_bk_rf, hc_bk_gA, hc_set_ap, hc_set_set, Value.category, List.getElem?_cons_zero, List.getElem?_cons_succ, List.set_cons_zero, List.set_cons_succ, List.length_cons, List.length_nil, List.map_cons, List.map_nil, reduceIte, Nat.reduceAdd, Nat.reduceSub, Nat.reduceBEq, Nat.reduceEqDiff, Nat.reduceLeDiff, Nat.reduceLT, true_and, and_true, Bool.false_eq_true, reduceCtorEq, if_true, if_false, hc_xx, hc_ofNat, hc_10, not_true_eq_false, not_false_eq_true, ge_iff_le, lgc_ge, cs]
      exact sp_cr1 h30 h31 ha hc hh hP hL hk (by omega) (by omega) (by omega) (by omega) ⟨b1, b2⟩ ⟨b3, b4⟩ dx.2.1 dx.2.2 dy.2.1 dy.2.2 hX hY zin K
    · omega
  · have cs' := mt z1.mpr cs
    rcases hs with ⟨hs1, hs2, hs3⟩ | ⟨hs1, hs2, hs3⟩
    · omega
    · have n1 : (-TT).toInt = -TT.toInt := i64_neg (by omega)
      have n2 : (-AA).toInt = -AA.toInt := i64_neg (by omega)
      have w1 : T = (-TT).toInt := by omega
      have w2 : A = (-AA).toInt := by omega
      rw [w1, w2] at hX hY
      simp only [hm68_106, hm68_108, hm68_109, hm68_110, hm68_113, hm68_115, hm68_116, hm68_118, hm68_120, hm68_121, hc_on_some, hc_get, hc_put, hc_ri, hc_rl, hc_is, hc_row, hc_wr, hc_mov, hc_smi, hc_sml, hc_fv, hc_ld, hc_kd, hc_sto, hc_pre, hc_two, hc_inc, hc_psh, hc_kp, hc_k1, hc_np, hc_bk_rf, hc_bk_gA, hc_set_ap, hc_set_set, Value.category, List.getElem?_cons_zero, List.getElem?_cons_succ, List.set_cons_zero, List.set_cons_succ, List.length_cons, List.length_nil, List.map_cons, List.map_nil, reduceIte, Nat.reduceAdd, Nat.reduceSub, Nat.reduceBEq, Nat.reduceEqDiff, Nat.reduceLeDiff, Nat.reduceLT, true_and, and_true, Bool.false_eq_true, reduceCtorEq, if_true, if_false, hc_xx, hc_ofNat, hc_10, not_true_eq_false, not_false_eq_true, ge_iff_le, lgc_ge, cs]
      exact sp_cr1 h30 h31 ha hc hh hP hL hk (by omega) (by omega) (by omega) (by omega) ⟨b1, b2⟩ ⟨b3, b4⟩ dx.2.1 dx.2.2 dy.2.1 dy.2.2 hX hY zin K
end S54
