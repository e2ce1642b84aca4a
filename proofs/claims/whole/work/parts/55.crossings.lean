/-! crossings of the reference: all hot places gathered -/
theorem kN_app (A B : List (Int × Int)) (v : Int) : v ∈ kN (A ++ B) ↔ v ∈ kN A ∨ v ∈ kN B := by
  rw [kN, List.map_append, List.mem_append]
theorem pw_len : ∀ (l' l : List Int), l'.Pairwise (· < ·) → (∀ v ∈ l', v ∈ l) → l'.length ≤ l.length := by
  intro l'
  induction l' with
  | nil => intro l _ _; exact Nat.zero_le _
  | cons a t ih =>
    intro l hp hm
    have hp2 := List.pairwise_cons.mp hp
    have ha := hm a List.mem_cons_self
    have h1 := ih (l.erase a) hp2.2 fun v hv => (List.mem_erase_of_ne (by have := hp2.1 v hv; omega)).mpr (hm v (List.mem_cons_of_mem _ hv))
    have h2 := List.length_erase_of_mem ha
    have h3 := List.length_pos_of_mem ha
    show t.length + 1 ≤ _
    omega
abbrev i6 (a : Int32) : Prop := -500000 ≤ a.toInt ∧ a.toInt ≤ 500000
theorem sdL_i {ax ay bx b2 cx cy : Int32} (h1 : i6 ax) (h2 : i6 ay) (h3 : i6 bx) (h4 : i6 b2) (h5 : i6 cx) (h6 : i6 cy) : (sdL ax.toInt64 ay.toInt64 bx.toInt64 b2.toInt64 cx.toInt64 cy.toInt64).toInt = sdI ax.toInt ay.toInt bx.toInt b2.toInt cx.toInt cy.toInt := by
  have a1 := dfL h3 h1
  have a2 := dfL h6 h2
  have a3 := dfL h4 h2
  have a4 := dfL h5 h1
  have d := det64 a1.2 a2.2 a3.2 a4.2
  rw [a1.1, a2.1, a3.1, a4.1] at d
  exact d.1
section S55
variable {G : hc_G} {σ : hc_H} {t : hc_T} {Q : hc_Q} {h p w b h' p' w' b' c : Nat} {rt : hc_R} {q : hc_Cl} {f : Nat → Int32} {S E P : List (Int × Int)}
theorem sp_crossings {L0 : List Int} {o0 : hc_O} (h30 : σ 30 = some (oMd h p w b h' p' w' b' rt q)) (h31 : σ 31 = some (oIn (4 * S.length) c f)) (hc : c ≤ 4096) (hS : 4 * S.length ≤ c) (hev : ELf f S E) (hb : inB S) (hb2 : inB E) (hle : E.length = S.length) (hS5 : S.length ≤ 512) (n1 : h' ≠ 30) (n2 : h' ≠ 31) (hk : h' < 60) (hh : σ h' = some o0) (hP0 : MPo o0 L0 36002) (hL0 : L0.length ≤ 18000) (hm0 : ∀ v, v ∈ L0 ↔ v ∈ kN (hotL S E P 0))
    (K : ∀ G' o' L (c : Bool), MPo o' L 36002 → L.Pairwise (· < ·) → (∀ v ∈ L, v ∈ kN (hotL S E P S.length)) → (c = true → L.length ≤ 6000 ∧ ∀ v ∈ kN (hotL S E P S.length), v ∈ L) → (c = false → 6000 < L.length) → hc_cr G σ G' (hc_set σ h' o') → Q G' (hc_set σ h' o') none (some (.inl (.int (if c then 1 else 0))))) :
    hc_wp G σ none 65 0 [some (.inl (.ref 30)), none, none] [] Q := by
  have n1' : ¬ 30 = h' := Ne.symm n1
  have n2' : ¬ 31 = h' := Ne.symm n2
  have m30 : ∀ o, hc_set σ h' o 30 = some (oMd h p w b h' p' w' b' rt q) := fun o => by rw [hc_set_ne _ _ n1']; exact h30
  have m31 : ∀ o, hc_set σ h' o 31 = some (oIn (4 * S.length) c f) := fun o => by rw [hc_set_ne _ _ n2']; exact h31
  have e18 : (18000 : Int32) = nI 18000 := rfl
  have e6 : (6000 : Int32) = nI 6000 := rfl
  have e4 : nI (4 * S.length) / 4 = nI S.length := by
    have : nI (4 * S.length) / 4 = nI (4 * S.length / 4) := pk_div (d := 4) (by omega) (by omega) (by omega)
    rw [this]
    congr 1
    omega
  have z4 : ¬ (4 : Int32) = 0 := by decide
  have inH : ∀ (i j : Nat) (v : Int), v ∈ kN (hotL S E P i ++ crx S E i j) → i < S.length → j ≤ i → v ∈ kN (hotL S E P S.length) := by
    intro i j v hv hi hj
    obtain ⟨q, hq, e⟩ := List.mem_map.mp hv
    refine List.mem_map.mpr ⟨q, ?_, e⟩
    rcases List.mem_append.mp hq with hq | hq
    · exact hotL_le S E P (by omega) hq
    · refine hotL_le S E P (n := i + 1) (by omega) ?_
      rw [hotL_succ]
      refine List.mem_append_right _ ?_
      unfold crx at hq ⊢
      obtain ⟨d, hd, hq⟩ := List.mem_flatMap.mp hq
      exact List.mem_flatMap.mpr ⟨d, List.mem_range.mpr (by have := List.mem_range.mp hd; omega), hq⟩
  -- the inner loop
  have inner : ∀ (i : Nat), i < S.length → (∀ (G1 : hc_G) (o : hc_O) (L : List Int), MPo o L 36002 → L.length ≤ 18000 → (∀ v, v ∈ L ↔ v ∈ kN (hotL S E P (i + 1))) → hc_cr G σ G1 (hc_set σ h' o) → hc_wp G1 (hc_set σ h' o) none 65 157 [some (.inl (.ref 30)), some (.inl (.int (nI i))), some (.inl (.int (nI i)))] [] Q) → ∀ (k j : Nat) (G1 : hc_G) (o : hc_O) (L : List Int), k + j = i → MPo o L 36002 → L.length ≤ 18000 → (∀ v, v ∈ L ↔ v ∈ kN (hotL S E P i ++ crx S E i j)) → hc_cr G σ G1 (hc_set σ h' o) → hc_wp G1 (hc_set σ h' o) none 65 24 [some (.inl (.ref 30)), some (.inl (.int (nI i))), some (.inl (.int (nI j)))] [] Q := by
    intro i hi KI k
    induction k with
    | zero =>
      intro j G1 o L hkj hP hL hm hcr
      have ej : j = i := by omega
      subst ej
      have M := KI G1 o L hP hL (by rw [hotL_succ]; exact hm) hcr
      rw [hm65_24]
      simp only [hm65_25, hm65_26, hm65_29, hm65_30, hm65_31, hm65_32, hm65_33, hm65_36, hm65_39, hm65_40, hm65_41, hm65_42, hm65_43, hm65_46, hm65_49, hm65_52, hm65_53, hm65_54, hm65_55, hm65_58, hm65_59, hm65_60, hm65_61, hm65_64, hm65_65, hm65_66, hm65_67, hm65_70, hm65_71, hm65_72, hm65_73, hm65_76, hm65_77, hm65_78, hm65_79, hm65_82, hm65_83, hm65_84, hm65_85, hm65_88, hm65_89, hm65_90, hm65_91, hm65_94, hm65_95, hm65_96, hm65_97, hm65_100, hm65_103, hm65_104, hm65_107, hm65_108, hm65_109, hm65_110, hm65_113, hm65_114, hm65_117, hm65_120, hm65_123, hm65_126, hm65_129, hm65_130, hm65_133, hm65_136, hm65_137, hm65_140, hm65_143, hm65_146, hm65_149, hm65_150, hm65_151, hm65_154, hc_on_some, hc_get, hc_put, hc_ri, hc_rl, hc_is, hc_row, hc_wr, hc_mov, hc_smi, hc_sml, hc_fv, hc_ld, hc_kd, hc_sto, hc_pre, hc_two, hc_inc, hc_psh, hc_kp, hc_k1, hc_np, hc_bk_rf, hc_bk_gA, hc_set_ap, hc_set_set, Value.category, List.getElem?_cons_zero, List.getElem?_cons_succ, List.set_cons_zero, List.set_cons_succ, List.length_cons, List.length_nil, List.map_cons, List.map_nil, reduceIte, Nat.reduceAdd, Nat.reduceSub, Nat.reduceBEq, Nat.reduceEqDiff, Nat.reduceLeDiff, Nat.reduceLT, true_and, and_true, Bool.false_eq_true, reduceCtorEq, if_true, if_false, hc_xx, hc_ofNat, hc_10, not_true_eq_false, not_false_eq_true, ge_iff_le, if_pos (Int32.le_refl (nI j))]
      exact M
    | succ k ih =>
      intro j G1 o L hkj hP hL hm hcr
      have hj : j < S.length := by omega
      have hji : ¬ nI i ≤ nI j := nI_ge (by omega) (by omega)
      have ha : 4 * i + 3 < c := by omega
      have hd : 4 * j + 3 < c := by omega
      obtain ⟨v0, v1, v2, v3⟩ := hev i hi
      obtain ⟨u0, u1, u2, u3⟩ := hev j hj
      -- at 151 the next one
      have next : ∀ (G2 : hc_G) (o2 : hc_O) (L2 : List Int), MPo o2 L2 36002 → L2.length ≤ 18000 → (∀ v, v ∈ L2 ↔ v ∈ kN (hotL S E P i ++ crx S E i (j + 1))) → hc_cr G σ G2 (hc_set σ h' o2) → hc_wp G2 (hc_set σ h' o2) none 65 151 [some (.inl (.ref 30)), some (.inl (.int (nI i))), some (.inl (.int (nI j)))] [] Q := by
        intro G2 o2 L2 hP2 hL2 hm2 hcr2
        have M := ih (j + 1) G2 o2 L2 (by omega) hP2 hL2 hm2 hcr2
        simp only [hm65_151, hm65_154, hc_on_some, hc_get, hc_put, hc_ri, hc_rl, hc_is, hc_row, hc_wr, hc_mov, hc_smi, hc_sml, hc_fv, hc_ld, hc_kd, hc_sto, hc_pre, hc_two, hc_inc, hc_psh, hc_kp, hc_k1, hc_np, hc_bk_rf, hc_bk_gA, hc_set_ap, hc_set_set, Value.category, List.getElem?_cons_zero, List.getElem?_cons_succ, List.set_cons_zero, List.set_cons_succ, List.length_cons, List.length_nil, List.map_cons, List.map_nil, reduceIte, Nat.reduceAdd, Nat.reduceSub, Nat.reduceBEq, Nat.reduceEqDiff, Nat.reduceLeDiff, Nat.reduceLT, true_and, and_true, Bool.false_eq_true, reduceCtorEq, if_true, if_false, hc_xx, hc_ofNat, hc_10, not_true_eq_false, not_false_eq_true, ge_iff_le, nI_1]
        exact M
      -- at 113 the row may be too long
      have chk : ∀ (G2 : hc_G) (o2 : hc_O) (L2 : List Int), MPo o2 L2 36002 → L2.length ≤ 18001 → (∀ v, v ∈ L2 ↔ v ∈ kN (hotL S E P i ++ crx S E i (j + 1))) → hc_cr G σ G2 (hc_set σ h' o2) → hc_wp G2 (hc_set σ h' o2) none 65 113 [some (.inl (.ref 30)), some (.inl (.int (nI i))), some (.inl (.int (nI j)))] [] Q := by
        intro G2 o2 L2 hP2 hL2 hm2 hcr2
        have hq2 := hP2
        obtain ⟨cc, ff, rfl, -⟩ := hq2
        by_cases cl : L2.length ≤ 18000
        · have l1 : ¬ nI 18000 < nI L2.length := nI_nlt cl (by omega)
          have M := next G2 _ L2 hP2 cl hm2 hcr2
          simp only [hm65_113, hm65_114, hm65_117, hm65_120, hm65_123, hm65_126, hm65_129, hm65_130, hm65_133, hm65_136, hm65_137, hm65_140, hm65_143, hm65_146, hm65_149, hm65_150, hc_on_some, hc_get, hc_put, hc_ri, hc_rl, hc_is, hc_row, hc_wr, hc_mov, hc_smi, hc_sml, hc_fv, hc_ld, hc_kd, hc_sto, hc_pre, hc_two, hc_inc, hc_psh, hc_kp, hc_k1, hc_np, hc_bk_rf, hc_bk_gA, hc_set_ap, hc_set_set, Value.category, List.getElem?_cons_zero, List.getElem?_cons_succ, List.set_cons_zero, List.set_cons_succ, List.length_cons, List.length_nil, List.map_cons, List.map_nil, reduceIte, Nat.reduceAdd, Nat.reduceSub, Nat.reduceBEq, Nat.reduceEqDiff, Nat.reduceLeDiff, Nat.reduceLT, true_and, and_true, Bool.false_eq_true, reduceCtorEq, if_true, if_false, hc_xx, hc_ofNat, hc_10, not_true_eq_false, not_false_eq_true, ge_iff_le, n1', m30, h30, oMp, e18, l1] at M ⊢
          exact M
        · have l1 : nI 18000 < nI L2.length := nI_lt (by omega) (by omega)
          simp only [hm65_113, hm65_114, hm65_117, hm65_120, hm65_123, hm65_126, hm65_129, hm65_130, hm65_133, hc_on_some, hc_get, hc_put, hc_ri, hc_rl, hc_is, hc_row, hc_wr, hc_mov, hc_smi, hc_sml, hc_fv, hc_ld, hc_kd, hc_sto, hc_pre, hc_two, hc_inc, hc_psh, hc_kp, hc_k1, hc_np, hc_bk_rf, hc_bk_gA, hc_set_ap, hc_set_set, Value.category, List.getElem?_cons_zero, List.getElem?_cons_succ, List.set_cons_zero, List.set_cons_succ, List.length_cons, List.length_nil, List.map_cons, List.map_nil, reduceIte, Nat.reduceAdd, Nat.reduceSub, Nat.reduceBEq, Nat.reduceEqDiff, Nat.reduceLeDiff, Nat.reduceLT, true_and, and_true, Bool.false_eq_true, reduceCtorEq, if_true, if_false, hc_xx, hc_ofNat, hc_10, not_true_eq_false, not_false_eq_true, ge_iff_le, n1', m30, h30, oMp, e18, l1]
          refine sp_msort (hc_set_at _ _ _) hP2 (by omega) hk fun o3 L3 hP3 hs3 hm3 hcr3 => ?_
          rw [hc_set_set] at hcr3 ⊢
          have hq3 := hP3
          obtain ⟨cc3, ff3, rfl, -⟩ := hq3
          by_cases c6 : L3.length ≤ 6000
          · have l6 : nI L3.length ≤ nI 6000 := by
              rw [← Int32.not_lt]
              exact nI_nlt c6 (by omega)
            have M := next G2 _ L3 hP3 (by omega) (fun v => (hm3 v).trans (hm2 v)) (hcr2.tr hcr3)
            simp only [hm65_136, hm65_137, hm65_140, hm65_143, hm65_146, hm65_149, hm65_150, hc_on_some, hc_get, hc_put, hc_ri, hc_rl, hc_is, hc_row, hc_wr, hc_mov, hc_smi, hc_sml, hc_fv, hc_ld, hc_kd, hc_sto, hc_pre, hc_two, hc_inc, hc_psh, hc_kp, hc_k1, hc_np, hc_bk_rf, hc_bk_gA, hc_set_ap, hc_set_set, Value.category, List.getElem?_cons_zero, List.getElem?_cons_succ, List.set_cons_zero, List.set_cons_succ, List.length_cons, List.length_nil, List.map_cons, List.map_nil, reduceIte, Nat.reduceAdd, Nat.reduceSub, Nat.reduceBEq, Nat.reduceEqDiff, Nat.reduceLeDiff, Nat.reduceLT, true_and, and_true, Bool.false_eq_true, reduceCtorEq, if_true, if_false, hc_xx, hc_ofNat, hc_10, not_true_eq_false, not_false_eq_true, ge_iff_le, n1', m30, h30, oMp, e6, l6] at M ⊢
            exact M
          · have l6 : ¬ nI L3.length ≤ nI 6000 := by
              rw [Int32.not_le]
              exact nI_lt (by omega) (by
                have := hP3
                obtain ⟨_, _, _, q1, q2, q3, q4⟩ := this
                omega)
            have M := K G2 _ L3 false hP3 hs3 (fun v hv => inH i (j + 1) v ((hm2 v).mp ((hm3 v).mp hv)) hi (by omega)) (fun e => by cases e) (fun _ => by omega) (hcr2.tr hcr3)
            simp only [hm65_136, hm65_137, hm65_140, hm65_143, hm65_146, hm65_149, hm65_150, hc_on_some, hc_get, hc_put, hc_ri, hc_rl, hc_is, hc_row, hc_wr, hc_mov, hc_smi, hc_sml, hc_fv, hc_ld, hc_kd, hc_sto, hc_pre, hc_two, hc_inc, hc_psh, hc_kp, hc_k1, hc_np, hc_bk_rf, hc_bk_gA, hc_set_ap, hc_set_set, Value.category, List.getElem?_cons_zero, List.getElem?_cons_succ, List.set_cons_zero, List.set_cons_succ, List.length_cons, List.length_nil, List.map_cons, List.map_nil, reduceIte, Nat.reduceAdd, Nat.reduceSub, Nat.reduceBEq, Nat.reduceEqDiff, Nat.reduceLeDiff, Nat.reduceLT, true_and, and_true, Bool.false_eq_true, reduceCtorEq, if_true, if_false, hc_xx, hc_ofNat, hc_10, not_true_eq_false, not_false_eq_true, ge_iff_le, n1', m30, h30, oMp, e6, l6, true_or, or_true, Bool.false_eq_true] at M ⊢
            exact M
      have skip : ¬ (nrI (edz S E i) (edz S E j) ∧ mtI (edz S E i) (edz S E j)) → ∀ v, v ∈ L ↔ v ∈ kN (hotL S E P i ++ crx S E i (j + 1)) := by
        intro hn v
        refine Iff.trans (hm v) ?_
        rw [crx_succ, ← List.append_assoc]
        refine ⟨fun hv => (kN_app _ _ v).mpr (Or.inl hv), fun hv => ?_⟩
        rcases (kN_app _ _ v).mp hv with hv | hv
        · exact hv
        · obtain ⟨q, hq, e⟩ := List.mem_map.mp hv
          have hq2 := Option.mem_toList.mp hq
          refine (kN_app _ _ v).mpr (Or.inl (List.mem_map.mpr ⟨q, ?_, e⟩))
          refine hotL_le S E P (n := 0) (by omega) ?_
          unfold hotL
          refine List.mem_append_left _ (List.mem_append_left _ (List.mem_append.mpr ?_))
          exact skip_hot hle hi hj hn hq2
      rw [hm65_24]
      simp only [hm65_25, hm65_26, hm65_29, hm65_30, hm65_31, hm65_32, hm65_33, hc_on_some, hc_get, hc_put, hc_ri, hc_rl, hc_is, hc_row, hc_wr, hc_mov, hc_smi, hc_sml, hc_fv, hc_ld, hc_kd, hc_sto, hc_pre, hc_two, hc_inc, hc_psh, hc_kp, hc_k1, hc_np, hc_bk_rf, hc_bk_gA, hc_set_ap, hc_set_set, Value.category, List.getElem?_cons_zero, List.getElem?_cons_succ, List.set_cons_zero, List.set_cons_succ, List.length_cons, List.length_nil, List.map_cons, List.map_nil, reduceIte, Nat.reduceAdd, Nat.reduceSub, Nat.reduceBEq, Nat.reduceEqDiff, Nat.reduceLeDiff, Nat.reduceLT, true_and, and_true, Bool.false_eq_true, reduceCtorEq, if_true, if_false, hc_xx, hc_ofNat, hc_10, not_true_eq_false, not_false_eq_true, ge_iff_le, hji, n1', m30, h30]
      refine sp_far0 (m30 o) (m31 o) ha hd hc fun r hr hf => ?_
      rw [v0, v2, u0, u2] at hf
      by_cases r0 : r = 0
      · simp only [hm65_36, hm65_39, hm65_40, hm65_41, hm65_42, hm65_43, hc_on_some, hc_get, hc_put, hc_ri, hc_rl, hc_is, hc_row, hc_wr, hc_mov, hc_smi, hc_sml, hc_fv, hc_ld, hc_kd, hc_sto, hc_pre, hc_two, hc_inc, hc_psh, hc_kp, hc_k1, hc_np, hc_bk_rf, hc_bk_gA, hc_set_ap, hc_set_set, Value.category, List.getElem?_cons_zero, List.getElem?_cons_succ, List.set_cons_zero, List.set_cons_succ, List.length_cons, List.length_nil, List.map_cons, List.map_nil, reduceIte, Nat.reduceAdd, Nat.reduceSub, Nat.reduceBEq, Nat.reduceEqDiff, Nat.reduceLeDiff, Nat.reduceLT, true_and, and_true, Bool.false_eq_true, reduceCtorEq, if_true, if_false, hc_xx, hc_ofNat, hc_10, not_true_eq_false, not_false_eq_true, ge_iff_le, r0, n1', m30, h30]
        refine sp_far1 (m30 o) (m31 o) ha hd hc fun r' hr' hf' => ?_
        rw [v1, v3, u1, u3] at hf'
        by_cases r1 : r' = 0
        · simp only [hm65_46, hm65_49, hm65_52, hm65_53, hm65_54, hm65_55, hm65_58, hm65_59, hm65_60, hm65_61, hm65_64, hm65_65, hm65_66, hm65_67, hm65_70, hm65_71, hm65_72, hm65_73, hm65_76, hm65_77, hm65_78, hm65_79, hm65_82, hm65_83, hm65_84, hm65_85, hm65_88, hm65_89, hm65_90, hm65_91, hm65_94, hm65_95, hm65_96, hm65_97, hm65_100, hc_on_some, hc_get, hc_put, hc_ri, hc_rl, hc_is, hc_row, hc_wr, hc_mov, hc_smi, hc_sml, hc_fv, hc_ld, hc_kd, hc_sto, hc_pre, hc_two, hc_inc, hc_psh, hc_kp, hc_k1, hc_np, hc_bk_rf, hc_bk_gA, hc_set_ap, hc_set_set, Value.category, List.getElem?_cons_zero, List.getElem?_cons_succ, List.set_cons_zero, List.set_cons_succ, List.length_cons, List.length_nil, List.map_cons, List.map_nil, reduceIte, Nat.reduceAdd, Nat.reduceSub, Nat.reduceBEq, Nat.reduceEqDiff, Nat.reduceLeDiff, Nat.reduceLT, true_and, and_true, Bool.false_eq_true, reduceCtorEq, if_true, if_false, hc_xx, hc_ofNat, hc_10, not_true_eq_false, not_false_eq_true, ge_iff_le, r1, n1', m30, h30, sp_end0 (m30 o) (m31 o) ha hc, sp_end1 (m30 o) (m31 o) ha hc, sp_end2 (m30 o) (m31 o) ha hc, sp_end3 (m30 o) (m31 o) ha hc, sp_end0 (m30 o) (m31 o) hd hc, sp_end1 (m30 o) (m31 o) hd hc, sp_end2 (m30 o) (m31 o) hd hc, sp_end3 (m30 o) (m31 o) hd hc]
          refine sp_meet fun r2 hr2 => ?_
          have near : nrI (edz S E i) (edz S E j) := ⟨hf.mp r0, hf'.mp r1⟩
          have smt : r2 = 1 ↔ mtI (edz S E i) (edz S E j) := by
            obtain ⟨⟨b1, b2, b3, b4⟩, b5, b6, b7, b8⟩ := edz_in hb hb2 hi (show i < E.length by omega)
            obtain ⟨⟨c1, c2, c3, c4⟩, c5, c6, c7, c8⟩ := edz_in hb hb2 hj (show j < E.length by omega)
            rw [hr2, sdL_i (by omega) (by omega) (by omega) (by omega) (by omega) (by omega), sdL_i (by omega) (by omega) (by omega) (by omega) (by omega) (by omega), sdL_i (by omega) (by omega) (by omega) (by omega) (by omega) (by omega), sdL_i (by omega) (by omega) (by omega) (by omega) (by omega) (by omega), v0, v1, v2, v3, u0, u1, u2, u3]
          by_cases r3 : r2 = 1
          · obtain ⟨X, Y, hX⟩ := crs_strict (smt.mp r3)
            simp only [hm65_103, hm65_104, hm65_107, hm65_108, hm65_109, hm65_110, hc_on_some, hc_get, hc_put, hc_ri, hc_rl, hc_is, hc_row, hc_wr, hc_mov, hc_smi, hc_sml, hc_fv, hc_ld, hc_kd, hc_sto, hc_pre, hc_two, hc_inc, hc_psh, hc_kp, hc_k1, hc_np, hc_bk_rf, hc_bk_gA, hc_set_ap, hc_set_set, Value.category, List.getElem?_cons_zero, List.getElem?_cons_succ, List.set_cons_zero, List.set_cons_succ, List.length_cons, List.length_nil, List.map_cons, List.map_nil, reduceIte, Nat.reduceAdd, Nat.reduceSub, Nat.reduceBEq, Nat.reduceEqDiff, Nat.reduceLeDiff, Nat.reduceLT, true_and, and_true, Bool.false_eq_true, reduceCtorEq, if_true, if_false, hc_xx, hc_ofNat, hc_10, not_true_eq_false, not_false_eq_true, ge_iff_le, r3, n1', m30, h30]
            refine sp_cross (m30 o) (m31 o) hc hS hev hb hb2 hle hi hj (hc_set_at _ _ _) hP hL hk hX fun G2 o2 hP2 hcr2 => ?_
            dsimp only
            rw [hc_bk_np rfl rfl]
            rw [hc_set_set] at hcr2 ⊢
            refine chk G2 o2 _ hP2 (by rw [List.length_append]; show L.length + 1 ≤ _; omega) (fun v => ?_) (hcr.tr hcr2)
            rw [crx_succ, hX, ← List.append_assoc, kN_app, List.mem_append, hm v]
            rfl
          · have M := chk G1 o L hP (by omega) (skip fun q => r3 (smt.mpr q.2)) hcr
            simp only [hm65_103, hm65_104, hm65_107, hm65_108, hm65_109, hm65_110, hc_on_some, hc_get, hc_put, hc_ri, hc_rl, hc_is, hc_row, hc_wr, hc_mov, hc_smi, hc_sml, hc_fv, hc_ld, hc_kd, hc_sto, hc_pre, hc_two, hc_inc, hc_psh, hc_kp, hc_k1, hc_np, hc_bk_rf, hc_bk_gA, hc_set_ap, hc_set_set, Value.category, List.getElem?_cons_zero, List.getElem?_cons_succ, List.set_cons_zero, List.set_cons_succ, List.length_cons, List.length_nil, List.map_cons, List.map_nil, reduceIte, Nat.reduceAdd, Nat.reduceSub, Nat.reduceBEq, Nat.reduceEqDiff, Nat.reduceLeDiff, Nat.reduceLT, true_and, and_true, Bool.false_eq_true, reduceCtorEq, if_true, if_false, hc_xx, hc_ofNat, hc_10, not_true_eq_false, not_false_eq_true, ge_iff_le, r3]
            exact M
        · have M := next G1 o L hP hL (skip fun q => r1 (hf'.mpr q.1.2)) hcr
          simp only [hm65_46, hm65_49, hc_on_some, hc_get, hc_put, hc_ri, hc_rl, hc_is, hc_row, hc_wr, hc_mov, hc_smi, hc_sml, hc_fv, hc_ld, hc_kd, hc_sto, hc_pre, hc_two, hc_inc, hc_psh, hc_kp, hc_k1, hc_np, hc_bk_rf, hc_bk_gA, hc_set_ap, hc_set_set, Value.category, List.getElem?_cons_zero, List.getElem?_cons_succ, List.set_cons_zero, List.set_cons_succ, List.length_cons, List.length_nil, List.map_cons, List.map_nil, reduceIte, Nat.reduceAdd, Nat.reduceSub, Nat.reduceBEq, Nat.reduceEqDiff, Nat.reduceLeDiff, Nat.reduceLT, true_and, and_true, Bool.false_eq_true, reduceCtorEq, if_true, if_false, hc_xx, hc_ofNat, hc_10, not_true_eq_false, not_false_eq_true, ge_iff_le, r1]
          exact M
      · have M := next G1 o L hP hL (skip fun q => r0 (hf.mpr q.1.1)) hcr
        simp only [hm65_36, hc_on_some, hc_get, hc_put, hc_ri, hc_rl, hc_is, hc_row, hc_wr, hc_mov, hc_smi, hc_sml, hc_fv, hc_ld, hc_kd, hc_sto, hc_pre, hc_two, hc_inc, hc_psh, hc_kp, hc_k1, hc_np, hc_bk_rf, hc_bk_gA, hc_set_ap, hc_set_set, Value.category, List.getElem?_cons_zero, List.getElem?_cons_succ, List.set_cons_zero, List.set_cons_succ, List.length_cons, List.length_nil, List.map_cons, List.map_nil, reduceIte, Nat.reduceAdd, Nat.reduceSub, Nat.reduceBEq, Nat.reduceEqDiff, Nat.reduceLeDiff, Nat.reduceLT, true_and, and_true, Bool.false_eq_true, reduceCtorEq, if_true, if_false, hc_xx, hc_ofNat, hc_10, not_true_eq_false, not_false_eq_true, ge_iff_le, r0]
        exact M
  -- from 163 on
  have fin : ∀ (G1 : hc_G) (o : hc_O) (L : List Int) (l3 : hc_V), MPo o L 36002 → L.length ≤ 18000 → (∀ v, v ∈ L ↔ v ∈ kN (hotL S E P S.length)) → hc_cr G σ G1 (hc_set σ h' o) → ∀ l2, hc_wp G1 (hc_set σ h' o) none 65 163 [some (.inl (.ref 30)), some (.inl (.int (nI S.length))), Option.map Sum.inl l2] [] Q := by
    intro G1 o L l3 hP hL hm hcr l2
    have hq := hP
    obtain ⟨cc, ff, rfl, -⟩ := hq
    simp only [hm65_163, hm65_164, hm65_167, hc_on_some, hc_get, hc_put, hc_ri, hc_rl, hc_is, hc_row, hc_wr, hc_mov, hc_smi, hc_sml, hc_fv, hc_ld, hc_kd, hc_sto, hc_pre, hc_two, hc_inc, hc_psh, hc_kp, hc_k1, hc_np, hc_bk_rf, hc_bk_gA, hc_set_ap, hc_set_set, Value.category, List.getElem?_cons_zero, List.getElem?_cons_succ, List.set_cons_zero, List.set_cons_succ, List.length_cons, List.length_nil, List.map_cons, List.map_nil, reduceIte, Nat.reduceAdd, Nat.reduceSub, Nat.reduceBEq, Nat.reduceEqDiff, Nat.reduceLeDiff, Nat.reduceLT, true_and, and_true, Bool.false_eq_true, reduceCtorEq, if_true, if_false, hc_xx, hc_ofNat, hc_10, not_true_eq_false, not_false_eq_true, ge_iff_le, n1', m30, h30, oMp]
    refine sp_msort (hc_set_at _ _ _) hP (by omega) hk fun o3 L3 hP3 hs3 hm3 hcr3 => ?_
    rw [hc_set_set] at hcr3 ⊢
    have hq3 := hP3
    obtain ⟨cc3, ff3, rfl, b1, -, b3, -⟩ := hq3
    have hlb : L3.length ≤ 36002 := by omega
    by_cases c6 : L3.length ≤ 6000
    · have l6 : ¬ nI 6000 < nI L3.length := nI_nlt c6 (by omega)
      have M := K G1 _ L3 true hP3 hs3 (fun v hv => (hm v).mp ((hm3 v).mp hv)) (fun _ => ⟨c6, fun v hv => (hm3 v).mpr ((hm v).mpr hv)⟩) (fun e => by cases e) (hcr.tr hcr3)
      simp only [hm65_170, hm65_171, hm65_174, hm65_177, hm65_180, hm65_183, hm65_184, hm65_187, hm65_188, hc_on_some, hc_get, hc_put, hc_ri, hc_rl, hc_is, hc_row, hc_wr, hc_mov, hc_smi, hc_sml, hc_fv, hc_ld, hc_kd, hc_sto, hc_pre, hc_two, hc_inc, hc_psh, hc_kp, hc_k1, hc_np, hc_bk_rf, hc_bk_gA, hc_set_ap, hc_set_set, Value.category, List.getElem?_cons_zero, List.getElem?_cons_succ, List.set_cons_zero, List.set_cons_succ, List.length_cons, List.length_nil, List.map_cons, List.map_nil, reduceIte, Nat.reduceAdd, Nat.reduceSub, Nat.reduceBEq, Nat.reduceEqDiff, Nat.reduceLeDiff, Nat.reduceLT, true_and, and_true, Bool.false_eq_true, reduceCtorEq, if_true, if_false, hc_xx, hc_ofNat, hc_10, not_true_eq_false, not_false_eq_true, ge_iff_le, n1', m30, h30, oMp, e6, l6, true_or, or_true] at M ⊢
      exact M
    · have l6 : nI 6000 < nI L3.length := nI_lt (by omega) (by omega)
      have M := K G1 _ L3 false hP3 hs3 (fun v hv => (hm v).mp ((hm3 v).mp hv)) (fun e => by cases e) (fun _ => by omega) (hcr.tr hcr3)
      simp only [hm65_170, hm65_171, hm65_174, hm65_177, hm65_180, hm65_183, hm65_184, hm65_187, hm65_188, hc_on_some, hc_get, hc_put, hc_ri, hc_rl, hc_is, hc_row, hc_wr, hc_mov, hc_smi, hc_sml, hc_fv, hc_ld, hc_kd, hc_sto, hc_pre, hc_two, hc_inc, hc_psh, hc_kp, hc_k1, hc_np, hc_bk_rf, hc_bk_gA, hc_set_ap, hc_set_set, Value.category, List.getElem?_cons_zero, List.getElem?_cons_succ, List.set_cons_zero, List.set_cons_succ, List.length_cons, List.length_nil, List.map_cons, List.map_nil, reduceIte, Nat.reduceAdd, Nat.reduceSub, Nat.reduceBEq, Nat.reduceEqDiff, Nat.reduceLeDiff, Nat.reduceLT, true_and, and_true, Bool.false_eq_true, reduceCtorEq, if_true, if_false, hc_xx, hc_ofNat, hc_10, not_true_eq_false, not_false_eq_true, ge_iff_le, n1', m30, h30, oMp, e6, l6, true_or, or_true] at M ⊢
      exact M
  -- the outer loop
  have outer : ∀ (k i : Nat) (G1 : hc_G) (o : hc_O) (L : List Int) (l2 : Option Value), k + i = S.length → MPo o L 36002 → L.length ≤ 18000 → (∀ v, v ∈ L ↔ v ∈ kN (hotL S E P i)) → hc_cr G σ G1 (hc_set σ h' o) → hc_wp G1 (hc_set σ h' o) none 65 9 [some (.inl (.ref 30)), some (.inl (.int (nI i))), l2.map Sum.inl] [] Q := by
    intro k
    induction k with
    | zero =>
      intro i G1 o L l2 hki hP hL hm hcr
      have ei : i = S.length := by omega
      subst ei
      have M := fin G1 o L (.inl .null) hP hL hm hcr l2
      rw [hm65_9]
      simp only [hm65_10, hm65_11, hm65_14, hm65_17, hm65_18, hm65_19, hm65_22, hm65_23, hc_on_some, hc_get, hc_put, hc_ri, hc_rl, hc_is, hc_row, hc_wr, hc_mov, hc_smi, hc_sml, hc_fv, hc_ld, hc_kd, hc_sto, hc_pre, hc_two, hc_inc, hc_psh, hc_kp, hc_k1, hc_np, hc_bk_rf, hc_bk_gA, hc_set_ap, hc_set_set, Value.category, List.getElem?_cons_zero, List.getElem?_cons_succ, List.set_cons_zero, List.set_cons_succ, List.length_cons, List.length_nil, List.map_cons, List.map_nil, reduceIte, Nat.reduceAdd, Nat.reduceSub, Nat.reduceBEq, Nat.reduceEqDiff, Nat.reduceLeDiff, Nat.reduceLT, true_and, and_true, Bool.false_eq_true, reduceCtorEq, if_true, if_false, hc_xx, hc_ofNat, hc_10, not_true_eq_false, not_false_eq_true, ge_iff_le, n1', m30, m31, h30, h31, n2', oIn, e4, z4, if_pos (Int32.le_refl (nI S.length))]
      exact M
    | succ k ih =>
      intro i G1 o L l2 hki hP hL hm hcr
      have hi : i < S.length := by omega
      have l1 : ¬ nI S.length ≤ nI i := nI_ge hi (by omega)
      have M := inner i hi (fun G2 o2 L2 hP2 hL2 hm2 hcr2 => by
        have I := ih (i + 1) G2 o2 L2 (some (.int (nI i))) (by omega) hP2 hL2 hm2 hcr2
        rw [hc_opt] at I
        simp only [hm65_157, hm65_160, hc_on_some, hc_get, hc_put, hc_ri, hc_rl, hc_is, hc_row, hc_wr, hc_mov, hc_smi, hc_sml, hc_fv, hc_ld, hc_kd, hc_sto, hc_pre, hc_two, hc_inc, hc_psh, hc_kp, hc_k1, hc_np, hc_bk_rf, hc_bk_gA, hc_set_ap, hc_set_set, Value.category, List.getElem?_cons_zero, List.getElem?_cons_succ, List.set_cons_zero, List.set_cons_succ, List.length_cons, List.length_nil, List.map_cons, List.map_nil, reduceIte, Nat.reduceAdd, Nat.reduceSub, Nat.reduceBEq, Nat.reduceEqDiff, Nat.reduceLeDiff, Nat.reduceLT, true_and, and_true, Bool.false_eq_true, reduceCtorEq, if_true, if_false, hc_xx, hc_ofNat, hc_10, not_true_eq_false, not_false_eq_true, ge_iff_le, nI_1]
        exact I) i 0 G1 o L (by omega) hP hL (by
          have : crx S E i 0 = [] := rfl
          rw [this, List.append_nil]
          exact hm) hcr
      rw [nI_0] at M
      rw [hm65_9]
      simp only [hm65_10, hm65_11, hm65_14, hm65_17, hm65_18, hm65_19, hm65_22, hm65_23, hc_on_some, hc_get, hc_put, hc_ri, hc_rl, hc_is, hc_row, hc_wr, hc_mov, hc_smi, hc_sml, hc_fv, hc_ld, hc_kd, hc_sto, hc_pre, hc_two, hc_inc, hc_psh, hc_kp, hc_k1, hc_np, hc_bk_rf, hc_bk_gA, hc_set_ap, hc_set_set, Value.category, List.getElem?_cons_zero, List.getElem?_cons_succ, List.set_cons_zero, List.set_cons_succ, List.length_cons, List.length_nil, List.map_cons, List.map_nil, reduceIte, Nat.reduceAdd, Nat.reduceSub, Nat.reduceBEq, Nat.reduceEqDiff, Nat.reduceLeDiff, Nat.reduceLT, true_and, and_true, Bool.false_eq_true, reduceCtorEq, if_true, if_false, hc_xx, hc_ofNat, hc_10, not_true_eq_false, not_false_eq_true, ge_iff_le, n1', m30, m31, h30, h31, n2', oIn, e4, z4, l1]
      exact M
  have hq := hP0
  obtain ⟨cc, ff, rfl, -⟩ := hq
  simp only [hm65_0, hm65_1, hm65_4, hm65_7, hm65_8, hc_on_some, hc_get, hc_put, hc_ri, hc_rl, hc_is, hc_row, hc_wr, hc_mov, hc_smi, hc_sml, hc_fv, hc_ld, hc_kd, hc_sto, hc_pre, hc_two, hc_inc, hc_psh, hc_kp, hc_k1, hc_np, hc_bk_rf, hc_bk_gA, hc_set_ap, hc_set_set, Value.category, List.getElem?_cons_zero, List.getElem?_cons_succ, List.set_cons_zero, List.set_cons_succ, List.length_cons, List.length_nil, List.map_cons, List.map_nil, reduceIte, Nat.reduceAdd, Nat.reduceSub, Nat.reduceBEq, Nat.reduceEqDiff, Nat.reduceLeDiff, Nat.reduceLT, true_and, and_true, Bool.false_eq_true, reduceCtorEq, if_true, if_false, hc_xx, hc_ofNat, hc_10, not_true_eq_false, not_false_eq_true, ge_iff_le, h30, hh, oMp]
  refine sp_msort hh hP0 (by omega) hk fun o3 L3 hP3 hs3 hm3 hcr3 => ?_
  have hL3 : L3.length ≤ 18000 := Nat.le_trans (pw_len L3 L0 hs3 fun v hv => (hm3 v).mp hv) hL0
  have M := outer S.length 0 G o3 L3 none (by omega) hP3 hL3 (fun v => (hm3 v).trans (hm0 v)) hcr3
  rw [Option.map_none, nI_0] at M
  simp only [hm65_0, hm65_1, hm65_4, hm65_7, hm65_8, hc_on_some, hc_get, hc_put, hc_ri, hc_rl, hc_is, hc_row, hc_wr, hc_mov, hc_smi, hc_sml, hc_fv, hc_ld, hc_kd, hc_sto, hc_pre, hc_two, hc_inc, hc_psh, hc_kp, hc_k1, hc_np, hc_bk_rf, hc_bk_gA, hc_set_ap, hc_set_set, Value.category, List.getElem?_cons_zero, List.getElem?_cons_succ, List.set_cons_zero, List.set_cons_succ, List.length_cons, List.length_nil, List.map_cons, List.map_nil, reduceIte, Nat.reduceAdd, Nat.reduceSub, Nat.reduceBEq, Nat.reduceEqDiff, Nat.reduceLeDiff, Nat.reduceLT, true_and, and_true, Bool.false_eq_true, reduceCtorEq, if_true, if_false, hc_xx, hc_ofNat, hc_10, not_true_eq_false, not_false_eq_true, ge_iff_le]
  exact M
end S55
