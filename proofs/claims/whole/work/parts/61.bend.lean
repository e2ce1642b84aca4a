/-! bend of the reference -/
def BD (σ τ : hc_H) (h p w b h' p' w' b' : Nat) (rt : hc_R) (AL WL BL : List Int) : Prop := (∃ q, τ 30 = some (oMd h p w b h' p' w' b' rt q)) ∧ inI τ 52 AL 12000 ∧ inI τ w' WL 53248 ∧ inI τ b' BL 1100 ∧ ∀ j, j ≠ 30 → j ≠ 52 → j ≠ w' → j ≠ b' → τ j = σ j
theorem inI.ne {τ : hc_H} {k : Nat} {l : List Int} {C : Nat} (h : inI τ k l C) {j : Nat} {o : hc_O} (hj : k ≠ j) : inI (hc_set τ j o) k l C := by
  obtain ⟨o1, h1, h2⟩ := h
  exact ⟨o1, by rw [hc_set_ne _ _ hj]; exact h1, h2⟩
theorem inM.ne {τ : hc_H} {k : Nat} {l : List Int} {C : Nat} (h : inM τ k l C) {j : Nat} {o : hc_O} (hj : k ≠ j) : inM (hc_set τ j o) k l C := by
  obtain ⟨o1, h1, h2⟩ := h
  exact ⟨o1, by rw [hc_set_ne _ _ hj]; exact h1, h2⟩
section S61
variable {G G0 : hc_G} {σ τ : hc_H} {t : hc_T} {Q : hc_Q} {h p w b h' p' w' b' c : Nat} {rt : hc_R} {q : hc_Cl} {f : Nat → Int32} {S E N : List (Int × Int)} {AL WL BL : List Int}
theorem BD.s30 (hz : MHp h p w b h' p' w' b') (hB : BD σ τ h p w b h' p' w' b' rt AL WL BL) : BD σ (hc_set τ 30 (oMd h p w b h' p' w' b' rt q)) h p w b h' p' w' b' rt AL WL BL := by
  obtain ⟨-, h2, h3, h4, h5⟩ := hB
  unfold MHp at hz
  exact ⟨⟨q, hc_set_at _ _ _⟩, h2.ne (by decide), h3.ne (by omega), h4.ne (by omega), fun j a1 a2 a3 a4 => by rw [hc_set_ne _ _ a1]; exact h5 j a1 a2 a3 a4⟩
theorem BD.s52 {l : List Int} {o : hc_O} (hz : MHp h p w b h' p' w' b') (hB : BD σ τ h p w b h' p' w' b' rt AL WL BL) (ho : INo o l 12000) : BD σ (hc_set τ 52 o) h p w b h' p' w' b' rt l WL BL := by
  obtain ⟨⟨q1, h1⟩, h2, h3, h4, h5⟩ := hB
  unfold MHp at hz
  exact ⟨⟨q1, by rw [hc_set_ne _ _ (by decide)]; exact h1⟩, ⟨o, hc_set_at _ _ _, ho⟩, h3.ne (by omega), h4.ne (by omega), fun j a1 a2 a3 a4 => by rw [hc_set_ne _ _ a2]; exact h5 j a1 a2 a3 a4⟩
theorem BD.sw {l : List Int} {o : hc_O} (hz : MHp h p w b h' p' w' b') (hB : BD σ τ h p w b h' p' w' b' rt AL WL BL) (ho : INo o l 53248) : BD σ (hc_set τ w' o) h p w b h' p' w' b' rt AL l BL := by
  obtain ⟨⟨q1, h1⟩, h2, h3, h4, h5⟩ := hB
  unfold MHp at hz
  exact ⟨⟨q1, by rw [hc_set_ne _ _ (by omega)]; exact h1⟩, h2.ne (by omega), ⟨o, hc_set_at _ _ _, ho⟩, h4.ne (by omega), fun j a1 a2 a3 a4 => by rw [hc_set_ne _ _ a3]; exact h5 j a1 a2 a3 a4⟩
theorem BD.sb {l : List Int} {o : hc_O} (hz : MHp h p w b h' p' w' b') (hB : BD σ τ h p w b h' p' w' b' rt AL WL BL) (ho : INo o l 1100) : BD σ (hc_set τ b' o) h p w b h' p' w' b' rt AL WL l := by
  obtain ⟨⟨q1, h1⟩, h2, h3, h4, h5⟩ := hB
  unfold MHp at hz
  exact ⟨⟨q1, by rw [hc_set_ne _ _ (by omega)]; exact h1⟩, h2.ne (by omega), h3.ne (by omega), ⟨o, hc_set_at _ _ _, ho⟩, fun j a1 a2 a3 a4 => by rw [hc_set_ne _ _ a4]; exact h5 j a1 a2 a3 a4⟩
/-- the nodes of one edge, gathered in along -/
theorem sp_bendA {e : Nat} {o : hc_O} {left right low high : Int64} (hz : MHp h p w b h' p' w' b') (h31 : σ 31 = some (oIn (4 * S.length) c f)) (hc : c ≤ 4096) (hS : 4 * S.length ≤ c) (hev : ELf f S E) (hb : inB S) (hb2 : inB E) (hle : E.length = S.length) (hr : Real S E) (he : e < S.length) (hh : σ h' = some o) (hP : MPo o (kN N) 36002) (hbN : inB N) (hN : N.Pairwise plt) (hN6 : N.length ≤ 6000)
    (e1 : right.toInt = max (edz S E e).1 (edz S E e).2.2.1) (e2 : low.toInt = min (edz S E e).2.1 (edz S E e).2.2.2) (e3 : high.toInt = max (edz S E e).2.1 (edz S E e).2.2.2)
    (K : ∀ G' τ' B k, BD σ τ' h p w b h' p' w' b' rt (nat2 B) WL BL → B.Perm (Bn (edz S E e) N N.length) → B.Pairwise (prjL (edz S E e) N) → hc_cr G σ G' τ' → hc_wp G' τ' none 74 191 [some (.inl (.ref 30)), some (.inl (.int (nI e))), some (.inl (.long left)), none, some (.inl (.long right)), none, some (.inl (.long low)), none, some (.inl (.long high)), none, some (.inl (.int (nI k)))] [] Q) :
    ∀ (d k : Nat) (G1 : hc_G) (τ : hc_H) (B : List Nat), d + k = N.length → BD σ τ h p w b h' p' w' b' rt (nat2 B) WL BL → B.Perm (Bn (edz S E e) N k) → B.Pairwise (prjL (edz S E e) N) → hc_cr G σ G1 τ → hc_wp G1 τ none 74 99 [some (.inl (.ref 30)), some (.inl (.int (nI e))), some (.inl (.long left)), none, some (.inl (.long right)), none, some (.inl (.long low)), none, some (.inl (.long high)), none, some (.inl (.int (nI k)))] [] Q := by
  have hz' := hz
  unfold MHp at hz'
  have hq := hP
  obtain ⟨cc, ff, rfl, -⟩ := hq
  have hlen : (kN N).length = N.length := List.length_map _
  obtain ⟨⟨b1, b2, b3, b4⟩, b5, b6, b7, b8⟩ := edz_in hb hb2 he (show e < E.length by omega)
  have l1 : (1 : Int64).toInt = 1 := rfl
  intro d
  induction d with
  | zero =>
    intro k G1 τ B hd hB hp hs hcr
    have ek : k = N.length := by omega
    subst ek
    have M := K G1 τ B N.length hB hp hs hcr
    obtain ⟨⟨q1, t30⟩, -, -, -, hfr⟩ := hB
    have th : τ h' = some (oMp (kN N).length cc ff) := by rw [hfr _ (by omega) (by omega) (by omega) (by omega)]; exact hh
    rw [hm74_99]
    simp only [hm74_101, hm74_102, hm74_105, hm74_108, hm74_111, hm74_112, hm74_115, hm74_117, hm74_120, hm74_121, hm74_123, hm74_124, hm74_125, hm74_126, hm74_129, hm74_130, hm74_133, hm74_135, hm74_138, hm74_139, hm74_141, hm74_142, hm74_143, hm74_144, hm74_147, hm74_148, hm74_151, hm74_153, hm74_156, hm74_157, hm74_159, hm74_160, hm74_161, hm74_162, hm74_165, hm74_166, hm74_167, hm74_169, hm74_172, hm74_175, hm74_178, hm74_179, hm74_180, hm74_182, hm74_185, hm74_188, hc_on_some, hc_get, hc_put, hc_ri, hc_rl, hc_is, hc_row, hc_wr, hc_mov, hc_smi, hc_sml, hc_fv, hc_ld, hc_kd, hc_sto, hc_pre, hc_two, hc_inc, hc_psh, hc_kp, hc_k1, hc_np, hc_bk_rf, hc_bk_gA, hc_set_ap, hc_set_set, Value.category, List.getElem?_cons_zero, List.getElem?_cons_succ, List.set_cons_zero, List.set_cons_succ, List.length_cons, List.length_nil, List.map_cons, List.map_nil, reduceIte, Nat.reduceAdd, Nat.reduceSub, Nat.reduceBEq, Nat.reduceEqDiff, Nat.reduceLeDiff, Nat.reduceLT, true_and, and_true, Bool.false_eq_true, reduceCtorEq, if_true, if_false, hc_xx, hc_ofNat, hc_10, not_true_eq_false, not_false_eq_true, ge_iff_le, t30, th, oMp, hlen, if_pos (Int32.le_refl (nI N.length))]
    exact M
  | succ d ih =>
    intro k G1 τ B hd hB hp hs hcr
    have hk : k < N.length := by omega
    have g1 : ¬ nI N.length ≤ nI k := nI_ge hk (by omega)
    have hB' := hB
    obtain ⟨⟨q1, t30⟩, ⟨oa, t52, hA⟩, -, -, hfr⟩ := hB'
    have th : τ h' = some (oMp (kN N).length cc ff) := by rw [hfr _ (by omega) (by omega) (by omega) (by omega)]; exact hh
    have t31 : τ 31 = some (oIn (4 * S.length) c f) := by rw [hfr _ (by omega) (by omega) (by omega) (by omega)]; exact h31
    obtain ⟨ni1, ni2, ni3, ni4⟩ := (kN_at hbN hk).2.2
    have r1 : (right + 1).toInt = right.toInt + 1 := i64_add (by omega) (by omega)
    have r2 : (low - 1).toInt = low.toInt - 1 := i64_sub (by omega) (by omega)
    have r3 : (high + 1).toInt = high.toInt + 1 := i64_add (by omega) (by omega)
    -- the next node
    have next : ∀ (G2 : hc_G) (τ2 : hc_H) (B2 : List Nat), BD σ τ2 h p w b h' p' w' b' rt (nat2 B2) WL BL → B2.Perm (Bn (edz S E e) N (k + 1)) → B2.Pairwise (prjL (edz S E e) N) → hc_cr G σ G2 τ2 → hc_wp G2 τ2 none 74 185 [some (.inl (.ref 30)), some (.inl (.int (nI e))), some (.inl (.long left)), none, some (.inl (.long right)), none, some (.inl (.long low)), none, some (.inl (.long high)), none, some (.inl (.int (nI k)))] [] Q := by
      intro G2 τ2 B2 c1 c2 c3 c4
      have I := ih (k + 1) G2 τ2 B2 (by omega) c1 c2 c3 c4
      simp only [hm74_185, hm74_188, hc_on_some, hc_get, hc_put, hc_ri, hc_rl, hc_is, hc_row, hc_wr, hc_mov, hc_smi, hc_sml, hc_fv, hc_ld, hc_kd, hc_sto, hc_pre, hc_two, hc_inc, hc_psh, hc_kp, hc_k1, hc_np, hc_bk_rf, hc_bk_gA, hc_set_ap, hc_set_set, Value.category, List.getElem?_cons_zero, List.getElem?_cons_succ, List.set_cons_zero, List.set_cons_succ, List.length_cons, List.length_nil, List.map_cons, List.map_nil, reduceIte, Nat.reduceAdd, Nat.reduceSub, Nat.reduceBEq, Nat.reduceEqDiff, Nat.reduceLeDiff, Nat.reduceLT, true_and, and_true, Bool.false_eq_true, reduceCtorEq, if_true, if_false, hc_xx, hc_ofNat, hc_10, not_true_eq_false, not_false_eq_true, ge_iff_le, nI_1]
      exact I
    rw [hm74_99]
    simp only [hm74_101, hm74_102, hm74_105, hm74_108, hm74_111, hm74_112, hm74_115, hm74_117, hc_on_some, hc_get, hc_put, hc_ri, hc_rl, hc_is, hc_row, hc_wr, hc_mov, hc_smi, hc_sml, hc_fv, hc_ld, hc_kd, hc_sto, hc_pre, hc_two, hc_inc, hc_psh, hc_kp, hc_k1, hc_np, hc_bk_rf, hc_bk_gA, hc_set_ap, hc_set_set, Value.category, List.getElem?_cons_zero, List.getElem?_cons_succ, List.set_cons_zero, List.set_cons_succ, List.length_cons, List.length_nil, List.map_cons, List.map_nil, reduceIte, Nat.reduceAdd, Nat.reduceSub, Nat.reduceBEq, Nat.reduceEqDiff, Nat.reduceLeDiff, Nat.reduceLT, true_and, and_true, Bool.false_eq_true, reduceCtorEq, if_true, if_false, hc_xx, hc_ofNat, hc_10, not_true_eq_false, not_false_eq_true, ge_iff_le, t30, th, oMp, hlen, g1]
    refine sp_nx th hP hbN hk fun vx hvx => ?_
    by_cases c1 : right + 1 < vx.toInt64
    · have c1' := Int64.lt_iff_toInt_lt.mp c1
      rw [r1, i64_of32, hvx] at c1'
      have st : Bn (edz S E e) N N.length = Bn (edz S E e) N k := Bn_stop' (by omega) fun j hj hj2 ht => by
        have hx1 : (nd N j).1 ≤ max (edz S E e).1 (edz S E e).2.2.1 := ht.1.2.1
        have : (nd N k).1 ≤ (nd N j).1 := by
          by_cases z : k = j
          · rw [z]
            exact Int.le_refl _
          · have := pw_get hN k j (by omega) hj2
            show (N[k]?.getD (0, 0)).1 ≤ (N[j]?.getD (0, 0)).1
            rw [List.getElem?_eq_getElem hk, List.getElem?_eq_getElem hj2]
            simp only [Option.getD_some]
            unfold plt at this
            omega
        omega
      have M := K G1 τ B k hB (by rw [st]; exact hp) hs hcr
      simp only [hm74_120, hm74_121, hm74_123, hm74_124, hm74_125, hm74_126, hm74_129, hm74_130, hm74_133, hm74_135, hm74_138, hm74_139, hm74_141, hm74_142, hm74_143, hm74_144, hm74_147, hm74_148, hm74_151, hm74_153, hm74_156, hm74_157, hm74_159, hm74_160, hm74_161, hm74_162, hm74_165, hm74_166, hm74_167, hm74_169, hm74_172, hm74_175, hm74_178, hm74_179, hm74_180, hm74_182, hm74_185, hm74_188, hc_on_some, hc_get, hc_put, hc_ri, hc_rl, hc_is, hc_row, hc_wr, hc_mov, hc_smi, hc_sml, hc_fv, hc_ld, hc_kd, hc_sto, hc_pre, hc_two, hc_inc, hc_psh, hc_kp, hc_k1, hc_np, hc_bk_rf, hc_bk_gA, hc_set_ap, hc_set_set, Value.category, List.getElem?_cons_zero, List.getElem?_cons_succ, List.set_cons_zero, List.set_cons_succ, List.length_cons, List.length_nil, List.map_cons, List.map_nil, reduceIte, Nat.reduceAdd, Nat.reduceSub, Nat.reduceBEq, Nat.reduceEqDiff, Nat.reduceLeDiff, Nat.reduceLT, true_and, and_true, Bool.false_eq_true, reduceCtorEq, if_true, if_false, hc_xx, hc_ofNat, hc_10, not_true_eq_false, not_false_eq_true, ge_iff_le, lgc_gt, c1]
      exact M
    · have c1' := mt Int64.lt_iff_toInt_lt.mpr c1
      rw [r1, i64_of32, hvx] at c1'
      simp only [hm74_120, hm74_121, hm74_123, hm74_124, hm74_125, hm74_126, hm74_129, hm74_130, hm74_133, hm74_135, hc_on_some, hc_get, hc_put, hc_ri, hc_rl, hc_is, hc_row, hc_wr, hc_mov, hc_smi, hc_sml, hc_fv, hc_ld, hc_kd, hc_sto, hc_pre, hc_two, hc_inc, hc_psh, hc_kp, hc_k1, hc_np, hc_bk_rf, hc_bk_gA, hc_set_ap, hc_set_set, Value.category, List.getElem?_cons_zero, List.getElem?_cons_succ, List.set_cons_zero, List.set_cons_succ, List.length_cons, List.length_nil, List.map_cons, List.map_nil, reduceIte, Nat.reduceAdd, Nat.reduceSub, Nat.reduceBEq, Nat.reduceEqDiff, Nat.reduceLeDiff, Nat.reduceLT, true_and, and_true, Bool.false_eq_true, reduceCtorEq, if_true, if_false, hc_xx, hc_ofNat, hc_10, not_true_eq_false, not_false_eq_true, ge_iff_le, lgc_gt, c1, t30, th, oMp]
      refine sp_ny th hP hbN hk fun vy hvy => ?_
      have noB : ¬ thr (edz S E e) (nd N k) → B.Perm (Bn (edz S E e) N (k + 1)) := fun x => by rw [Bn_no x]; exact hp
      by_cases c2 : vy.toInt64 < low - 1
      · have c2' := Int64.lt_iff_toInt_lt.mp c2
        rw [r2, i64_of32, hvy] at c2'
        have M := next G1 τ B hB (noB fun x => by have := x.1.2.2.1; omega) hs hcr
        simp only [hm74_138, hm74_139, hm74_141, hm74_142, hm74_143, hm74_144, hc_on_some, hc_get, hc_put, hc_ri, hc_rl, hc_is, hc_row, hc_wr, hc_mov, hc_smi, hc_sml, hc_fv, hc_ld, hc_kd, hc_sto, hc_pre, hc_two, hc_inc, hc_psh, hc_kp, hc_k1, hc_np, hc_bk_rf, hc_bk_gA, hc_set_ap, hc_set_set, Value.category, List.getElem?_cons_zero, List.getElem?_cons_succ, List.set_cons_zero, List.set_cons_succ, List.length_cons, List.length_nil, List.map_cons, List.map_nil, reduceIte, Nat.reduceAdd, Nat.reduceSub, Nat.reduceBEq, Nat.reduceEqDiff, Nat.reduceLeDiff, Nat.reduceLT, true_and, and_true, Bool.false_eq_true, reduceCtorEq, if_true, if_false, hc_xx, hc_ofNat, hc_10, not_true_eq_false, not_false_eq_true, ge_iff_le, lgc_lt, c2]
        exact M
      · simp only [hm74_138, hm74_139, hm74_141, hm74_142, hm74_143, hm74_144, hm74_147, hm74_148, hm74_151, hm74_153, hc_on_some, hc_get, hc_put, hc_ri, hc_rl, hc_is, hc_row, hc_wr, hc_mov, hc_smi, hc_sml, hc_fv, hc_ld, hc_kd, hc_sto, hc_pre, hc_two, hc_inc, hc_psh, hc_kp, hc_k1, hc_np, hc_bk_rf, hc_bk_gA, hc_set_ap, hc_set_set, Value.category, List.getElem?_cons_zero, List.getElem?_cons_succ, List.set_cons_zero, List.set_cons_succ, List.length_cons, List.length_nil, List.map_cons, List.map_nil, reduceIte, Nat.reduceAdd, Nat.reduceSub, Nat.reduceBEq, Nat.reduceEqDiff, Nat.reduceLeDiff, Nat.reduceLT, true_and, and_true, Bool.false_eq_true, reduceCtorEq, if_true, if_false, hc_xx, hc_ofNat, hc_10, not_true_eq_false, not_false_eq_true, ge_iff_le, lgc_lt, c2, t30, th, oMp]
        refine sp_ny th hP hbN hk fun vy2 hvy2 => ?_
        by_cases c3 : high + 1 < vy2.toInt64
        · have c3' := Int64.lt_iff_toInt_lt.mp c3
          rw [r3, i64_of32, hvy2] at c3'
          have M := next G1 τ B hB (noB fun x => by have := x.1.2.2.2; omega) hs hcr
          simp only [hm74_156, hm74_157, hm74_159, hm74_160, hm74_161, hm74_162, hc_on_some, hc_get, hc_put, hc_ri, hc_rl, hc_is, hc_row, hc_wr, hc_mov, hc_smi, hc_sml, hc_fv, hc_ld, hc_kd, hc_sto, hc_pre, hc_two, hc_inc, hc_psh, hc_kp, hc_k1, hc_np, hc_bk_rf, hc_bk_gA, hc_set_ap, hc_set_set, Value.category, List.getElem?_cons_zero, List.getElem?_cons_succ, List.set_cons_zero, List.set_cons_succ, List.length_cons, List.length_nil, List.map_cons, List.map_nil, reduceIte, Nat.reduceAdd, Nat.reduceSub, Nat.reduceBEq, Nat.reduceEqDiff, Nat.reduceLeDiff, Nat.reduceLT, true_and, and_true, Bool.false_eq_true, reduceCtorEq, if_true, if_false, hc_xx, hc_ofNat, hc_10, not_true_eq_false, not_false_eq_true, ge_iff_le, lgc_gt, c3]
          exact M
        · simp only [hm74_156, hm74_157, hm74_159, hm74_160, hm74_161, hm74_162, hm74_165, hm74_166, hm74_167, hm74_169, hc_on_some, hc_get, hc_put, hc_ri, hc_rl, hc_is, hc_row, hc_wr, hc_mov, hc_smi, hc_sml, hc_fv, hc_ld, hc_kd, hc_sto, hc_pre, hc_two, hc_inc, hc_psh, hc_kp, hc_k1, hc_np, hc_bk_rf, hc_bk_gA, hc_set_ap, hc_set_set, Value.category, List.getElem?_cons_zero, List.getElem?_cons_succ, List.set_cons_zero, List.set_cons_succ, List.length_cons, List.length_nil, List.map_cons, List.map_nil, reduceIte, Nat.reduceAdd, Nat.reduceSub, Nat.reduceBEq, Nat.reduceEqDiff, Nat.reduceLeDiff, Nat.reduceLT, true_and, and_true, Bool.false_eq_true, reduceCtorEq, if_true, if_false, hc_xx, hc_ofNat, hc_10, not_true_eq_false, not_false_eq_true, ge_iff_le, lgc_gt, c3, t30]
          refine sp_isT t30 t31 hc hS hev hb hb2 hle hr he (by omega) th hP hbN hk fun v q2 hv hvt => ?_
          have cr30 : hc_cr G1 τ G1 (hc_set τ 30 (oMd h p w b h' p' w' b' rt q2)) := hc_cr.same (by decide) t30 rfl
          have hB2 := BD.s30 (q := q2) hz hB
          rcases hv with rfl | rfl
          · have M := next G1 _ B hB2 (noB fun x => absurd (hvt.mpr x) (by decide)) hs (hcr.tr cr30)
            simp only [hm74_172, hm74_175, hm74_178, hm74_179, hm74_180, hm74_182, hc_on_some, hc_get, hc_put, hc_ri, hc_rl, hc_is, hc_row, hc_wr, hc_mov, hc_smi, hc_sml, hc_fv, hc_ld, hc_kd, hc_sto, hc_pre, hc_two, hc_inc, hc_psh, hc_kp, hc_k1, hc_np, hc_bk_rf, hc_bk_gA, hc_set_ap, hc_set_set, Value.category, List.getElem?_cons_zero, List.getElem?_cons_succ, List.set_cons_zero, List.set_cons_succ, List.length_cons, List.length_nil, List.map_cons, List.map_nil, reduceIte, Nat.reduceAdd, Nat.reduceSub, Nat.reduceBEq, Nat.reduceEqDiff, Nat.reduceLeDiff, Nat.reduceLT, true_and, and_true, Bool.false_eq_true, reduceCtorEq, if_true, if_false, hc_xx, hc_ofNat, hc_10, not_true_eq_false, not_false_eq_true, ge_iff_le]
            exact M
          · have ht := hvt.mp rfl
            have o10 : ¬ (1 : Int32) = 0 := by decide
            have hBl : B.length < 6000 := by
              have := hp.length_eq
              have : (Bn (edz S E e) N k).length ≤ k := by
                unfold Bn
                exact Nat.le_trans (List.length_filter_le _ _) (by rw [List.length_range]; exact Nat.le_refl _)
              omega
            have m52 : hc_set τ 30 (oMd h p w b h' p' w' b' rt q2) 52 = some oa := by rw [hc_set_ne _ _ (by decide)]; exact t52
            have m31 : hc_set τ 30 (oMd h p w b h' p' w' b' rt q2) 31 = some (oIn (4 * S.length) c f) := by rw [hc_set_ne _ _ (by decide)]; exact t31
            have mh : hc_set τ 30 (oMd h p w b h' p' w' b' rt q2) h' = some (oMp (kN N).length cc ff) := by rw [hc_set_ne _ _ (by omega)]; exact th
            simp only [hm74_172, hm74_175, hm74_178, hm74_179, hm74_180, hm74_182, hc_on_some, hc_get, hc_put, hc_ri, hc_rl, hc_is, hc_row, hc_wr, hc_mov, hc_smi, hc_sml, hc_fv, hc_ld, hc_kd, hc_sto, hc_pre, hc_two, hc_inc, hc_psh, hc_kp, hc_k1, hc_np, hc_bk_rf, hc_bk_gA, hc_set_ap, hc_set_set, Value.category, List.getElem?_cons_zero, List.getElem?_cons_succ, List.set_cons_zero, List.set_cons_succ, List.length_cons, List.length_nil, List.map_cons, List.map_nil, reduceIte, Nat.reduceAdd, Nat.reduceSub, Nat.reduceBEq, Nat.reduceEqDiff, Nat.reduceLeDiff, Nat.reduceLT, true_and, and_true, Bool.false_eq_true, reduceCtorEq, if_true, if_false, hc_xx, hc_ofNat, hc_10, not_true_eq_false, not_false_eq_true, ge_iff_le, o10]
            refine sp_insert (hc_set_at _ _ _) m31 hc hS hev hb hb2 hle he (by omega) mh hP hbN hk hN6 m52 hA hBl (fun v hv => by
              have := Bn_lt (hp.mem_iff.mp hv)
              omega) hs fun G2 o2 B2 hA2 hp2 hs2 hcr2 => ?_
            dsimp only
            rw [hc_bk_np rfl rfl]
            refine next G2 _ B2 (BD.s52 hz hB2 hA2) ?_ hs2 ((hcr.tr cr30).tr hcr2)
            rw [Bn_yes ht]
            exact hp2.trans ((hp.cons k).trans (List.perm_append_singleton k _).symm)
/-- along goes behind the ways -/
theorem sp_bendB {e : Nat} {B : List Nat} {left right low high : Int64} (hz : MHp h p w b h' p' w' b') (hBl : B.length ≤ 6000) (hW : WL.length ≤ 20600)
    (K : ∀ G' τ' k, BD σ τ' h p w b h' p' w' b' rt (nat2 B) (WL ++ nat2 B) BL → hc_cr G σ G' τ' → hc_wp G' τ' none 74 243 [some (.inl (.ref 30)), some (.inl (.int (nI e))), some (.inl (.long left)), none, some (.inl (.long right)), none, some (.inl (.long low)), none, some (.inl (.long high)), none, some (.inl (.int (nI k)))] [] Q) :
    ∀ (d k : Nat) (G1 : hc_G) (τ : hc_H), d + k = B.length → BD σ τ h p w b h' p' w' b' rt (nat2 B) (WL ++ nat2 (B.take k)) BL → hc_cr G σ G1 τ → hc_wp G1 τ none 74 208 [some (.inl (.ref 30)), some (.inl (.int (nI e))), some (.inl (.long left)), none, some (.inl (.long right)), none, some (.inl (.long low)), none, some (.inl (.long high)), none, some (.inl (.int (nI k)))] [] Q := by
  have hz' := hz
  unfold MHp at hz'
  have hlen : (nat2 B).length = B.length := List.length_map _
  intro d
  induction d with
  | zero =>
    intro k G1 τ hd hB hcr
    have ek : k = B.length := by omega
    subst ek
    rw [List.take_of_length_le (Nat.le_refl _)] at hB
    have M := K G1 τ B.length hB hcr
    obtain ⟨⟨q1, t30⟩, ⟨oa, t52, hA⟩, -, -, hfr⟩ := hB
    obtain ⟨ca, fa, rfl, -⟩ := hA
    rw [hm74_208]
    simp only [hm74_210, hm74_211, hm74_214, hm74_217, hm74_220, hm74_221, hm74_224, hm74_225, hm74_228, hm74_231, hm74_233, hm74_234, hm74_237, hm74_240, hc_on_some, hc_get, hc_put, hc_ri, hc_rl, hc_is, hc_row, hc_wr, hc_mov, hc_smi, hc_sml, hc_fv, hc_ld, hc_kd, hc_sto, hc_pre, hc_two, hc_inc, hc_psh, hc_kp, hc_k1, hc_np, hc_bk_rf, hc_bk_gA, hc_set_ap, hc_set_set, Value.category, List.getElem?_cons_zero, List.getElem?_cons_succ, List.set_cons_zero, List.set_cons_succ, List.length_cons, List.length_nil, List.map_cons, List.map_nil, reduceIte, Nat.reduceAdd, Nat.reduceSub, Nat.reduceBEq, Nat.reduceEqDiff, Nat.reduceLeDiff, Nat.reduceLT, true_and, and_true, Bool.false_eq_true, reduceCtorEq, if_true, if_false, hc_xx, hc_ofNat, hc_10, not_true_eq_false, not_false_eq_true, ge_iff_le, t30, t52, oIn, hlen, if_pos (Int32.le_refl (nI B.length))]
    exact M
  | succ d ih =>
    intro k G1 τ hd hB hcr
    have hk : k < B.length := by omega
    have g1 : ¬ nI B.length ≤ nI k := nI_ge hk (by omega)
    have hB' := hB
    obtain ⟨⟨q1, t30⟩, ⟨oa, t52, hA⟩, ⟨ow, tw, hWo⟩, -, hfr⟩ := hB'
    obtain ⟨ca, fa, rfl, a1, a2, a3, a4⟩ := hA
    have hq := hWo
    obtain ⟨cw, fw, rfl, -⟩ := hq
    have i1 : hc_inn (nI k) ca := inn_nI (by omega) (by omega)
    have k1 : (nI k).toNatClampNeg = k := nI_clamp (by omega)
    have vk := ICI a4 hk
    have tl : (nat2 (B.take k)).length = k := by
      rw [List.length_map, List.length_take]
      omega
    rw [hm74_208]
    simp only [hm74_210, hm74_211, hm74_214, hm74_217, hm74_220, hm74_221, hm74_224, hm74_225, hm74_228, hm74_231, hm74_233, hm74_234, hc_on_some, hc_get, hc_put, hc_ri, hc_rl, hc_is, hc_row, hc_wr, hc_mov, hc_smi, hc_sml, hc_fv, hc_ld, hc_kd, hc_sto, hc_pre, hc_two, hc_inc, hc_psh, hc_kp, hc_k1, hc_np, hc_bk_rf, hc_bk_gA, hc_set_ap, hc_set_set, Value.category, List.getElem?_cons_zero, List.getElem?_cons_succ, List.set_cons_zero, List.set_cons_succ, List.length_cons, List.length_nil, List.map_cons, List.map_nil, reduceIte, Nat.reduceAdd, Nat.reduceSub, Nat.reduceBEq, Nat.reduceEqDiff, Nat.reduceLeDiff, Nat.reduceLT, true_and, and_true, Bool.false_eq_true, reduceCtorEq, if_true, if_false, hc_xx, hc_ofNat, hc_10, not_true_eq_false, not_false_eq_true, ge_iff_le, t30, t52, tw, oIn, hlen, g1, i1, k1]
    refine sp_iadd tw hWo (by rw [List.length_append, tl]; omega) (by omega) (by omega) fun G2 o2 hW2 hcr2 => ?_
    dsimp only
    rw [hc_bk_np rfl rfl]
    have e5 : WL ++ nat2 (B.take k) ++ [(fa k).toInt] = WL ++ nat2 (B.take (k + 1)) := by
      rw [vk, List.append_assoc, List.take_succ, List.getElem?_eq_getElem hk, Option.toList_some, nat2, nat2, List.map_append]
      rfl
    rw [e5] at hW2
    have I := ih (k + 1) G2 _ (by omega) (BD.sw hz hB hW2) (hcr.tr hcr2)
    simp only [hm74_237, hm74_240, hc_on_some, hc_get, hc_put, hc_ri, hc_rl, hc_is, hc_row, hc_wr, hc_mov, hc_smi, hc_sml, hc_fv, hc_ld, hc_kd, hc_sto, hc_pre, hc_two, hc_inc, hc_psh, hc_kp, hc_k1, hc_np, hc_bk_rf, hc_bk_gA, hc_set_ap, hc_set_set, Value.category, List.getElem?_cons_zero, List.getElem?_cons_succ, List.set_cons_zero, List.set_cons_succ, List.length_cons, List.length_nil, List.map_cons, List.map_nil, reduceIte, Nat.reduceAdd, Nat.reduceSub, Nat.reduceBEq, Nat.reduceEqDiff, Nat.reduceLeDiff, Nat.reduceLT, true_and, and_true, Bool.false_eq_true, reduceCtorEq, if_true, if_false, hc_xx, hc_ofNat, hc_10, not_true_eq_false, not_false_eq_true, ge_iff_le, nI_1]
    exact I
end S61
