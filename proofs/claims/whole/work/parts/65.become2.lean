/-! become of the reference, whole -/
section S65
variable {G : hc_G} {σ : hc_H} {t : hc_T} {Q : hc_Q} {h p w b h' p' w' b' ct : Nat} {ft : Nat → Int32} {q : hc_Cl}
theorem oMd_po (h p w b h' p' w' b' : Nat) (rt : hc_R) (q : hc_Cl) : hc_po (some (oMd h p w b h' p' w' b' rt q)) = 0 := rfl
theorem sp_become {op ow ob : hc_O} {Ps : List (Int × Nat)} {Ws : List (List Nat)} (hz : MHp h p w b h' p' w' b') (h30 : σ 30 = some (oMd h p w b h' p' w' b' (ct, .inl ft) q)) (hct : ct ≤ 9000) (hp : σ p' = some op) (hpP : MPo op (kP Ps) 40000) (hw : σ w' = some ow) (hwP : INo ow (nat2 Ws.flatten) 53248) (hb : σ b' = some ob) (hbP : INo ob (bgl Ws (Ws.length + 1)) 1100) (hPs : PcOf (Ws.flatMap stl) Ps) (hv : ∀ v ∈ Ws.flatten, v < 6000) (hl : Ps.length ≤ 9000)
    (K : ∀ G' ct' ft', ct' ≤ 9000 → TM ct' ft' Ps → hc_c9 G σ G' (hc_set σ 30 (oMd h' p' w' b' h p w b (ct', .inl ft') q)) → Q G' (hc_set σ 30 (oMd h' p' w' b' h p w b (ct', .inl ft') q)) none none) :
    hc_wp G σ none 64 0 [some (.inl (.ref 30)), none, none, none, none, none, none, none] [] Q := by
  have hz' := hz
  unfold MHp at hz'
  have np : ¬ p' = 30 := by omega
  have nw : ¬ w' = 30 := by omega
  have nb : ¬ b' = 30 := by omega
  have hlen : (kP Ps).length = Ps.length := List.length_map _
  have hq := hpP
  obtain ⟨cp, fp, rfl, -⟩ := hq
  have zero : ∀ (ct' : Nat), ct' ≤ 9000 → Ps.length ≤ ct' → ∀ G1 : hc_G, (∀ ft', hc_c9 G σ G1 (hc_set σ 30 (oMd h' p' w' b' h p w b (ct', .inl ft') q))) → ∀ (d k : Nat) (ft' : Nat → Int32), d + k = Ps.length → (∀ m, m < k → ft' m = 0) → hc_wp G1 (hc_set σ 30 (oMd h' p' w' b' h p w b (ct', .inl ft') q)) none 64 105 [some (.inl (.ref 30)), some (.inl (.ref h)), some (.inl (.ref p)), some (.inl (.ref w)), some (.inl (.ref b)), some (.inl (.int (nI k))), none, none] [] Q := by
    intro ct' hc1 hc2 G1 hcr d
    induction d with
    | zero =>
      intro k ft' hk hz0
      have ek : k = Ps.length := by omega
      subst ek
      have L := sp_times (G := G1) (Q := Q) (h := h') (h' := h) (p' := p) (w' := w) (b' := b) (q := q) (ct := ct') (l1 := h) (l2 := p) (l3 := w) (l4 := b) np nw nb hp hpP hw hwP hb hbP hPs hv hc2 hc1 (fun ft2 hTM => K G1 ct' ft2 hc1 hTM (hcr ft2)) Ws [] ft' none none rfl (fun m hm => by
        rw [hz0 m hm]
        simp [nI_0])
      simp only [List.length_nil, nI_0, Option.map_none] at L
      rw [hm64_105]
      simp only [hm64_107, hm64_108, hm64_111, hm64_114, hm64_117, hm64_118, hm64_121, hm64_123, hm64_124, hm64_125, hm64_128, hm64_131, hm64_132, hc_on_some, hc_get, hc_put, hc_ri, hc_rl, hc_is, hc_row, hc_wr, hc_mov, hc_smi, hc_sml, hc_fv, hc_ld, hc_kd, hc_sto, hc_pre, hc_two, hc_inc, hc_psh, hc_kp, hc_k1, hc_np, hc_bk_rf, hc_bk_gA, hc_set_ap, hc_set_set, Value.category, List.getElem?_cons_zero, List.getElem?_cons_succ, List.set_cons_zero, List.set_cons_succ, List.length_cons, List.length_nil, List.map_cons, List.map_nil, reduceIte, Nat.reduceAdd, Nat.reduceSub, Nat.reduceBEq, Nat.reduceEqDiff, Nat.reduceLeDiff, Nat.reduceLT, true_and, and_true, Bool.false_eq_true, reduceCtorEq, if_true, if_false, hc_xx, hc_ofNat, hc_10, not_true_eq_false, not_false_eq_true, ge_iff_le, np, hp, oMp, hlen, if_pos (Int32.le_refl (nI Ps.length))]
      exact L
    | succ d ih =>
      intro k ft' hk hz0
      have e1 : ¬ nI Ps.length ≤ nI k := nI_ge (by omega) (by omega)
      have i1 : hc_inn (nI k) ct' := inn_nI (by omega) (by omega)
      have k1 : (nI k).toNatClampNeg = k := nI_clamp (by omega)
      have I := ih (k + 1) (upd ft' k 0) (by omega) (fun m hm => by
        by_cases z : m = k
        · subst z
          simp [upd]
        · simp only [upd, if_neg z]
          exact hz0 m (by omega))
      rw [hm64_105]
      simp only [hm64_107, hm64_108, hm64_111, hm64_114, hm64_117, hm64_118, hm64_121, hm64_123, hm64_124, hm64_125, hm64_128, hm64_131, hm64_132, hc_on_some, hc_get, hc_put, hc_ri, hc_rl, hc_is, hc_row, hc_wr, hc_mov, hc_smi, hc_sml, hc_fv, hc_ld, hc_kd, hc_sto, hc_pre, hc_two, hc_inc, hc_psh, hc_kp, hc_k1, hc_np, hc_bk_rf, hc_bk_gA, hc_set_ap, hc_set_set, Value.category, List.getElem?_cons_zero, List.getElem?_cons_succ, List.set_cons_zero, List.set_cons_succ, List.length_cons, List.length_nil, List.map_cons, List.map_nil, reduceIte, Nat.reduceAdd, Nat.reduceSub, Nat.reduceBEq, Nat.reduceEqDiff, Nat.reduceLeDiff, Nat.reduceLT, true_and, and_true, Bool.false_eq_true, reduceCtorEq, if_true, if_false, hc_xx, hc_ofNat, hc_10, not_true_eq_false, not_false_eq_true, ge_iff_le, np, hp, oMp, hlen, e1, i1, k1, nI_1]
      exact I
  have ph : ∀ o, hc_po (some o) = 0 → hc_phi (hc_set σ 30 o) = hc_phi σ := by
    intro o ho
    have := hc_phi_set (σ := σ) (k := 30) o (by decide)
    rw [h30, oMd_po, ho] at this
    omega
  by_cases c1 : Ps.length ≤ ct
  · have e1 : nI Ps.length ≤ nI ct := by
      rw [← Int32.not_lt]
      exact nI_nlt c1 (by omega)
    have Z := zero ct hct c1 G (fun ft' => by
      unfold hc_c9
      rw [ph _ (oMd_po _ _ _ _ _ _ _ _ _ _)]
      omega) Ps.length 0 ft (by omega) (fun m hm => by omega)
    rw [nI_0] at Z
    simp only [hm64_0, hm64_1, hm64_4, hm64_4p, hm64_5, hm64_6, hm64_9, hm64_9p, hm64_10, hm64_11, hm64_14, hm64_14p, hm64_15, hm64_16, hm64_19, hm64_19p, hm64_21, hm64_22, hm64_23, hm64_26, hm64_29, hm64_30, hm64_31, hm64_34, hm64_37, hm64_38, hm64_39, hm64_42, hm64_45, hm64_46, hm64_47, hm64_50, hm64_53, hm64_54, hm64_55, hm64_58, hm64_59, hm64_60, hm64_63, hm64_64, hm64_65, hm64_68, hm64_69, hm64_71, hm64_74, hm64_75, hm64_78, hm64_79, hm64_80, hm64_83, hm64_86, hm64_89, hm64_90, hm64_91, hm64_94, hm64_97, hm64_99t, hm64_99s, hm64_102, hm64_103, hc_on_some, hc_get, hc_put, hc_ri, hc_rl, hc_is, hc_row, hc_wr, hc_mov, hc_smi, hc_sml, hc_fv, hc_ld, hc_kd, hc_sto, hc_pre, hc_two, hc_inc, hc_psh, hc_kp, hc_k1, hc_np, hc_bk_rf, hc_bk_gA, hc_set_ap, hc_set_set, Value.category, List.getElem?_cons_zero, List.getElem?_cons_succ, List.set_cons_zero, List.set_cons_succ, List.length_cons, List.length_nil, List.map_cons, List.map_nil, reduceIte, Nat.reduceAdd, Nat.reduceSub, Nat.reduceBEq, Nat.reduceEqDiff, Nat.reduceLeDiff, Nat.reduceLT, true_and, and_true, Bool.false_eq_true, reduceCtorEq, if_true, if_false, hc_xx, hc_ofNat, hc_10, not_true_eq_false, not_false_eq_true, ge_iff_le, h30, np, hp, oMp, hlen, e1]
    exact Z
  · have e1 : ¬ nI Ps.length ≤ nI ct := nI_ge (by omega) (by omega)
    have e2 : ¬ nI Ps.length < 0 := nI_pos (by omega)
    have k1 : (nI Ps.length).toNatClampNeg = Ps.length := nI_clamp (by omega)
    have e3 : Ps.length ≤ 60000000 := by omega
    have Z := zero Ps.length hl (Nat.le_refl _) (hc_gM (hc_gA G Ps.length) 30 4) (fun ft' => by
      unfold hc_c9
      rw [ph _ (oMd_po _ _ _ _ _ _ _ _ _ _)]
      show G.2.2.1 + Ps.length + 12 * (G.2.1 + 1) + _ ≤ _
      omega) Ps.length 0 (fun _ => 0) (by omega) (fun m hm => by omega)
    rw [nI_0] at Z
    simp only [hm64_0, hm64_1, hm64_4, hm64_4p, hm64_5, hm64_6, hm64_9, hm64_9p, hm64_10, hm64_11, hm64_14, hm64_14p, hm64_15, hm64_16, hm64_19, hm64_19p, hm64_21, hm64_22, hm64_23, hm64_26, hm64_29, hm64_30, hm64_31, hm64_34, hm64_37, hm64_38, hm64_39, hm64_42, hm64_45, hm64_46, hm64_47, hm64_50, hm64_53, hm64_54, hm64_55, hm64_58, hm64_59, hm64_60, hm64_63, hm64_64, hm64_65, hm64_68, hm64_69, hm64_71, hm64_74, hm64_75, hm64_78, hm64_79, hm64_80, hm64_83, hm64_86, hm64_89, hm64_90, hm64_91, hm64_94, hm64_97, hm64_99t, hm64_99s, hm64_102, hm64_103, hc_on_some, hc_get, hc_put, hc_ri, hc_rl, hc_is, hc_row, hc_wr, hc_mov, hc_smi, hc_sml, hc_fv, hc_ld, hc_kd, hc_sto, hc_pre, hc_two, hc_inc, hc_psh, hc_kp, hc_k1, hc_np, hc_bk_rf, hc_bk_gA, hc_set_ap, hc_set_set, Value.category, List.getElem?_cons_zero, List.getElem?_cons_succ, List.set_cons_zero, List.set_cons_succ, List.length_cons, List.length_nil, List.map_cons, List.map_nil, reduceIte, Nat.reduceAdd, Nat.reduceSub, Nat.reduceBEq, Nat.reduceEqDiff, Nat.reduceLeDiff, Nat.reduceLT, true_and, and_true, Bool.false_eq_true, reduceCtorEq, if_true, if_false, hc_xx, hc_ofNat, hc_10, not_true_eq_false, not_false_eq_true, ge_iff_le, h30, np, hp, oMp, hlen, e1, e2, e3, k1, hc_nt, List.all_cons, List.all_nil, Bool.and_true, Bool.true_and]
    exact Z
end S65
