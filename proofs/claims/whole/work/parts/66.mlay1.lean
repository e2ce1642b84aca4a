/-! lay of the reference: its loops -/
def LD (σ τ : hc_H) (h p w b h' p' w' b' : Nat) (rt : hc_R) (HL PL WL BL AL : List Int) : Prop := (∃ q, τ 30 = some (oMd h p w b h' p' w' b' rt q)) ∧ inM τ h' HL 36002 ∧ inM τ p' PL 40000 ∧ inI τ w' WL 53248 ∧ inI τ b' BL 1100 ∧ inI τ 52 AL 12000 ∧ ∀ j, j ≠ 30 → j ≠ h' → j ≠ p' → j ≠ w' → j ≠ b' → j ≠ 52 → τ j = σ j
/-- the ends of edges, one after another -/
def sep (S E : List (Int × Int)) (k : Nat) : Int × Int := if k % 2 = 0 then ((edz S E (k / 2)).1, (edz S E (k / 2)).2.1) else ((edz S E (k / 2)).2.2.1, (edz S E (k / 2)).2.2.2)
def hl1 (S E : List (Int × Int)) (m : Nat) : List (Int × Int) := (List.range m).map (sep S E)
theorem hl1_succ (S E : List (Int × Int)) (m : Nat) : hl1 S E (m + 1) = hl1 S E m ++ [sep S E m] := by
  unfold hl1
  rw [List.range_succ, List.map_append]
  rfl
theorem hl1_mem {S E : List (Int × Int)} (hle : E.length = S.length) (q : Int × Int) : q ∈ hl1 S E (2 * S.length) ↔ q ∈ S ∨ q ∈ E := by
  have sS : ∀ k, k < S.length → ((edz S E k).1, (edz S E k).2.1) = S[k]?.getD (0, 0) := fun k hk => rfl
  have sE : ∀ k, k < S.length → ((edz S E k).2.2.1, (edz S E k).2.2.2) = E[k]?.getD (0, 0) := fun k hk => rfl
  unfold hl1
  constructor
  · intro h
    obtain ⟨k, hk, e⟩ := List.mem_map.mp h
    have hk' := List.mem_range.mp hk
    unfold sep at e
    split at e
    · left
      rw [sS _ (by omega), List.getElem?_eq_getElem (by omega)] at e
      rw [← e]
      exact List.getElem_mem _
    · right
      rw [sE _ (by omega), List.getElem?_eq_getElem (by omega)] at e
      rw [← e]
      exact List.getElem_mem _
  · rintro (h | h)
    · obtain ⟨k, hk, e⟩ := List.getElem_of_mem h
      refine List.mem_map.mpr ⟨2 * k, List.mem_range.mpr (by omega), ?_⟩
      unfold sep
      rw [if_pos (by omega), show 2 * k / 2 = k by omega, sS k hk, List.getElem?_eq_getElem hk]
      exact e
    · obtain ⟨k, hk, e⟩ := List.getElem_of_mem h
      refine List.mem_map.mpr ⟨2 * k + 1, List.mem_range.mpr (by omega), ?_⟩
      unfold sep
      rw [if_neg (by omega), show (2 * k + 1) / 2 = k by omega, sE k (by omega), List.getElem?_eq_getElem hk]
      exact e
theorem ELf_sep {f : Nat → Int32} {S E : List (Int × Int)} (h : ELf f S E) {k : Nat} (hk : k < 2 * S.length) : (f (2 * k)).toInt = (sep S E k).1 ∧ (f (2 * k + 1)).toInt = (sep S E k).2 := by
  have := h (k / 2) (by omega)
  unfold sep
  split
  · rw [show 2 * k = 4 * (k / 2) by omega]
    exact ⟨this.1, this.2.1⟩
  · rw [show 2 * k = 4 * (k / 2) + 2 by omega]
    exact ⟨this.2.2.1, this.2.2.2⟩
theorem sep_in {S E : List (Int × Int)} (hb : inB S) (hb2 : inB E) (hle : E.length = S.length) {k : Nat} (hk : k < 2 * S.length) : inb (sep S E k).1 (sep S E k).2 := by
  have := edz_in hb hb2 (i := k / 2) (by omega) (by omega)
  unfold sep
  split
  · exact this.1
  · exact this.2
section S66
variable {G G0 : hc_G} {σ τ : hc_H} {t : hc_T} {Q : hc_Q} {h p w b h' p' w' b' c : Nat} {rt : hc_R} {q : hc_Cl} {f : Nat → Int32} {S E P N : List (Int × Int)} {HL PL WL BL AL : List Int}
theorem LD.sh {l : List Int} {o : hc_O} (hz : MHp h p w b h' p' w' b') (hB : LD σ τ h p w b h' p' w' b' rt HL PL WL BL AL) (ho : MPo o l 36002) : LD σ (hc_set τ h' o) h p w b h' p' w' b' rt l PL WL BL AL := by
  obtain ⟨⟨q1, h1⟩, h2, h3, h4, h5, h6, h7⟩ := hB
  unfold MHp at hz
  exact ⟨⟨q1, by rw [hc_set_ne _ _ (by omega)]; exact h1⟩, ⟨o, hc_set_at _ _ _, ho⟩, h3.ne (by omega), h4.ne (by omega), h5.ne (by omega), h6.ne (by omega), fun j a1 a2 a3 a4 a5 a6 => by rw [hc_set_ne _ _ a2]; exact h7 j a1 a2 a3 a4 a5 a6⟩
theorem LD.sp {l : List Int} {o : hc_O} (hz : MHp h p w b h' p' w' b') (hB : LD σ τ h p w b h' p' w' b' rt HL PL WL BL AL) (ho : MPo o l 40000) : LD σ (hc_set τ p' o) h p w b h' p' w' b' rt HL l WL BL AL := by
  obtain ⟨⟨q1, h1⟩, h2, h3, h4, h5, h6, h7⟩ := hB
  unfold MHp at hz
  exact ⟨⟨q1, by rw [hc_set_ne _ _ (by omega)]; exact h1⟩, h2.ne (by omega), ⟨o, hc_set_at _ _ _, ho⟩, h4.ne (by omega), h5.ne (by omega), h6.ne (by omega), fun j a1 a2 a3 a4 a5 a6 => by rw [hc_set_ne _ _ a3]; exact h7 j a1 a2 a3 a4 a5 a6⟩
theorem LD.sw {l : List Int} {o : hc_O} (hz : MHp h p w b h' p' w' b') (hB : LD σ τ h p w b h' p' w' b' rt HL PL WL BL AL) (ho : INo o l 53248) : LD σ (hc_set τ w' o) h p w b h' p' w' b' rt HL PL l BL AL := by
  obtain ⟨⟨q1, h1⟩, h2, h3, h4, h5, h6, h7⟩ := hB
  unfold MHp at hz
  exact ⟨⟨q1, by rw [hc_set_ne _ _ (by omega)]; exact h1⟩, h2.ne (by omega), h3.ne (by omega), ⟨o, hc_set_at _ _ _, ho⟩, h5.ne (by omega), h6.ne (by omega), fun j a1 a2 a3 a4 a5 a6 => by rw [hc_set_ne _ _ a4]; exact h7 j a1 a2 a3 a4 a5 a6⟩
theorem LD.sb {l : List Int} {o : hc_O} (hz : MHp h p w b h' p' w' b') (hB : LD σ τ h p w b h' p' w' b' rt HL PL WL BL AL) (ho : INo o l 1100) : LD σ (hc_set τ b' o) h p w b h' p' w' b' rt HL PL WL l AL := by
  obtain ⟨⟨q1, h1⟩, h2, h3, h4, h5, h6, h7⟩ := hB
  unfold MHp at hz
  exact ⟨⟨q1, by rw [hc_set_ne _ _ (by omega)]; exact h1⟩, h2.ne (by omega), h3.ne (by omega), h4.ne (by omega), ⟨o, hc_set_at _ _ _, ho⟩, h6.ne (by omega), fun j a1 a2 a3 a4 a5 a6 => by rw [hc_set_ne _ _ a5]; exact h7 j a1 a2 a3 a4 a5 a6⟩
/-- from a bending on, the rest the same -/
theorem LD.bd {τ' : hc_H} {WL' BL' AL' : List Int} (hz : MHp h p w b h' p' w' b') (hB : LD σ τ h p w b h' p' w' b' rt HL PL WL BL AL) (hD : BD τ τ' h p w b h' p' w' b' rt AL' WL' BL') : LD σ τ' h p w b h' p' w' b' rt HL PL WL' BL' AL' := by
  obtain ⟨⟨q1, h1⟩, ⟨o2, h2, h2'⟩, ⟨o3, h3, h3'⟩, h4, h5, h6, h7⟩ := hB
  obtain ⟨g1, g2, g3, g4, g5⟩ := hD
  unfold MHp at hz
  exact ⟨g1, ⟨o2, by rw [g5 _ (by omega) (by omega) (by omega) (by omega)]; exact h2, h2'⟩, ⟨o3, by rw [g5 _ (by omega) (by omega) (by omega) (by omega)]; exact h3, h3'⟩, g3, g4, g2, fun j a1 a2 a3 a4 a5 a6 => by rw [g5 j a1 a6 a4 a5]; exact h7 j a1 a2 a3 a4 a5 a6⟩
/-- the ends of all edges -/
theorem sp_lay30 {X1 : Int32} (hz : MHp h p w b h' p' w' b') (h31 : σ 31 = some (oIn (4 * S.length) c f)) (hc : c ≤ 4096) (hS : 4 * S.length ≤ c) (hev : ELf f S E) (hb : inB S) (hb2 : inB E) (hle : E.length = S.length) (hS5 : S.length ≤ 512)
    (K : ∀ G' τ', LD σ τ' h p w b h' p' w' b' rt (kN (hl1 S E (2 * S.length))) PL WL BL AL → hc_cr G σ G' τ' → hc_wp G' τ' none 63 74 [some (.inl (.ref 30)), some (.inl (.int (nI (4 * S.length)))), none] [] Q) :
    ∀ (d m : Nat) (G1 : hc_G) (τ : hc_H), d + m = 2 * S.length → LD σ τ h p w b h' p' w' b' rt (kN (hl1 S E m)) PL WL BL AL → hc_cr G σ G1 τ → hc_wp G1 τ none 63 30 [some (.inl (.ref 30)), some (.inl (.int (nI (2 * m)))), none] [] Q := by
  have hz' := hz
  unfold MHp at hz'
  have ln : ∀ m, (kN (hl1 S E m)).length = m := fun m => by
    rw [List.length_map]
    unfold hl1
    rw [List.length_map, List.length_range]
  intro d
  induction d with
  | zero =>
    intro m G1 τ hd hB hcr
    have em : m = 2 * S.length := by omega
    subst em
    have M := K G1 τ hB hcr
    obtain ⟨⟨q1, t30⟩, -, -, -, -, -, hfr⟩ := hB
    have t31 : τ 31 = some (oIn (4 * S.length) c f) := by rw [hfr _ (by omega) (by omega) (by omega) (by omega) (by omega) (by omega)]; exact h31
    have e1 : 2 * (2 * S.length) = 4 * S.length := by omega
    rw [e1]
    rw [hm63_30]
    simp only [hm63_31, hm63_32, hm63_35, hm63_38, hm63_41, hm63_42, hm63_45, hm63_46, hm63_49, hm63_52, hm63_53, hm63_54, hm63_55, hm63_58, hm63_61, hm63_62, hm63_63, hm63_64, hm63_65, hm63_68, hm63_71, hc_on_some, hc_get, hc_put, hc_ri, hc_rl, hc_is, hc_row, hc_wr, hc_mov, hc_smi, hc_sml, hc_fv, hc_ld, hc_kd, hc_sto, hc_pre, hc_two, hc_inc, hc_psh, hc_kp, hc_k1, hc_np, hc_bk_rf, hc_bk_gA, hc_set_ap, hc_set_set, Value.category, List.getElem?_cons_zero, List.getElem?_cons_succ, List.set_cons_zero, List.set_cons_succ, List.length_cons, List.length_nil, List.map_cons, List.map_nil, reduceIte, Nat.reduceAdd, Nat.reduceSub, Nat.reduceBEq, Nat.reduceEqDiff, Nat.reduceLeDiff, Nat.reduceLT, true_and, and_true, Bool.false_eq_true, reduceCtorEq, if_true, if_false, hc_xx, hc_ofNat, hc_10, not_true_eq_false, not_false_eq_true, ge_iff_le, t30, t31, oIn, if_pos (Int32.le_refl (nI (4 * S.length)))]
    exact M
  | succ d ih =>
    intro m G1 τ hd hB hcr
    have hm : m < 2 * S.length := by omega
    have hB' := hB
    obtain ⟨⟨q1, t30⟩, ⟨oh, th, hH⟩, -, -, -, -, hfr⟩ := hB'
    have t31 : τ 31 = some (oIn (4 * S.length) c f) := by rw [hfr _ (by omega) (by omega) (by omega) (by omega) (by omega) (by omega)]; exact h31
    have g1 : ¬ nI (4 * S.length) ≤ nI (2 * m) := nI_ge (by omega) (by omega)
    have i1 : hc_inn (nI (2 * m)) c := inn_nI (by omega) (by omega)
    have i2 : hc_inn (nI (2 * m + 1)) c := inn_nI (by omega) (by omega)
    have k1 : (nI (2 * m)).toNatClampNeg = 2 * m := nI_clamp (by omega)
    have k2 : (nI (2 * m + 1)).toNatClampNeg = 2 * m + 1 := nI_clamp (by omega)
    have v := ELf_sep hev hm
    obtain ⟨s1, s2, s3, s4⟩ := sep_in hb hb2 hle hm
    have hq := hH
    obtain ⟨cc, ff, rfl, -⟩ := hq
    rw [hm63_30]
    simp only [hm63_31, hm63_32, hm63_35, hm63_38, hm63_41, hm63_42, hm63_45, hm63_46, hm63_49, hm63_52, hm63_53, hm63_54, hm63_55, hm63_58, hm63_61, hm63_62, hm63_63, hm63_64, hm63_65, hc_on_some, hc_get, hc_put, hc_ri, hc_rl, hc_is, hc_row, hc_wr, hc_mov, hc_smi, hc_sml, hc_fv, hc_ld, hc_kd, hc_sto, hc_pre, hc_two, hc_inc, hc_psh, hc_kp, hc_k1, hc_np, hc_bk_rf, hc_bk_gA, hc_set_ap, hc_set_set, Value.category, List.getElem?_cons_zero, List.getElem?_cons_succ, List.set_cons_zero, List.set_cons_succ, List.length_cons, List.length_nil, List.map_cons, List.map_nil, reduceIte, Nat.reduceAdd, Nat.reduceSub, Nat.reduceBEq, Nat.reduceEqDiff, Nat.reduceLeDiff, Nat.reduceLT, true_and, and_true, Bool.false_eq_true, reduceCtorEq, if_true, if_false, hc_xx, hc_ofNat, hc_10, not_true_eq_false, not_false_eq_true, ge_iff_le, t30, t31, th, oIn, oMp, g1, i1, i2, k1, k2, nI_1]
    refine sp_madd th hH (by rw [ln]; omega) (by omega) (by omega) fun G2 o2 hH2 hcr2 => ?_
    dsimp only
    rw [hc_bk_np rfl rfl]
    rw [kyv_toInt (by rw [v.2]; omega) (by rw [v.2]; omega), v.1, v.2] at hH2
    have e5 : kN (hl1 S E m) ++ [kxy (sep S E m).1 (sep S E m).2] = kN (hl1 S E (m + 1)) := by
      rw [hl1_succ, kN, kN, List.map_append]
      rfl
    rw [e5] at hH2
    have I := ih (m + 1) G2 _ (by omega) (LD.sh hz hB hH2) (hcr.tr hcr2)
    have e6 : nI (2 * m) + 2 = nI (2 * (m + 1)) := nI_add _ 2
    simp only [hm63_68, hm63_71, hc_on_some, hc_get, hc_put, hc_ri, hc_rl, hc_is, hc_row, hc_wr, hc_mov, hc_smi, hc_sml, hc_fv, hc_ld, hc_kd, hc_sto, hc_pre, hc_two, hc_inc, hc_psh, hc_kp, hc_k1, hc_np, hc_bk_rf, hc_bk_gA, hc_set_ap, hc_set_set, Value.category, List.getElem?_cons_zero, List.getElem?_cons_succ, List.set_cons_zero, List.set_cons_succ, List.length_cons, List.length_nil, List.map_cons, List.map_nil, reduceIte, Nat.reduceAdd, Nat.reduceSub, Nat.reduceBEq, Nat.reduceEqDiff, Nat.reduceLeDiff, Nat.reduceLT, true_and, and_true, Bool.false_eq_true, reduceCtorEq, if_true, if_false, hc_xx, hc_ofNat, hc_10, not_true_eq_false, not_false_eq_true, ge_iff_le, e6]
    exact I
/-- all points -/
theorem sp_lay76 {cp : Nat} {fp : Nat → Int32} {H0 : List (Int × Int)} (hz : MHp h p w b h' p' w' b') (h33 : σ 33 = some (oIn (2 * P.length) cp fp)) (hc : cp ≤ 2048) (hcp : 2 * P.length ≤ cp) (hev : ∀ i, i < P.length → (fp (2 * i)).toInt = (nd P i).1 ∧ (fp (2 * i + 1)).toInt = (nd P i).2) (hb : inB P) (hP5 : P.length ≤ 512) (hH0 : H0.length ≤ 1024)
    (K : ∀ G' τ', LD σ τ' h p w b h' p' w' b' rt (kN (H0 ++ P)) PL WL BL AL → hc_cr G σ G' τ' → hc_wp G' τ' none 63 120 [some (.inl (.ref 30)), some (.inl (.int (nI (2 * P.length)))), none] [] Q) :
    ∀ (d m : Nat) (G1 : hc_G) (τ : hc_H), d + m = P.length → LD σ τ h p w b h' p' w' b' rt (kN (H0 ++ P.take m)) PL WL BL AL → hc_cr G σ G1 τ → hc_wp G1 τ none 63 76 [some (.inl (.ref 30)), some (.inl (.int (nI (2 * m)))), none] [] Q := by
  have hz' := hz
  unfold MHp at hz'
  intro d
  induction d with
  | zero =>
    intro m G1 τ hd hB hcr
    have em : m = P.length := by omega
    subst em
    rw [List.take_of_length_le (Nat.le_refl _)] at hB
    have M := K G1 τ hB hcr
    obtain ⟨⟨q1, t30⟩, -, -, -, -, -, hfr⟩ := hB
    have t33 : τ 33 = some (oIn (2 * P.length) cp fp) := by rw [hfr _ (by omega) (by omega) (by omega) (by omega) (by omega) (by omega)]; exact h33
    rw [hm63_76]
    simp only [hm63_77, hm63_78, hm63_81, hm63_84, hm63_87, hm63_88, hm63_91, hm63_92, hm63_95, hm63_98, hm63_99, hm63_100, hm63_101, hm63_104, hm63_107, hm63_108, hm63_109, hm63_110, hm63_111, hm63_114, hm63_117, hc_on_some, hc_get, hc_put, hc_ri, hc_rl, hc_is, hc_row, hc_wr, hc_mov, hc_smi, hc_sml, hc_fv, hc_ld, hc_kd, hc_sto, hc_pre, hc_two, hc_inc, hc_psh, hc_kp, hc_k1, hc_np, hc_bk_rf, hc_bk_gA, hc_set_ap, hc_set_set, Value.category, List.getElem?_cons_zero, List.getElem?_cons_succ, List.set_cons_zero, List.set_cons_succ, List.length_cons, List.length_nil, List.map_cons, List.map_nil, reduceIte, Nat.reduceAdd, Nat.reduceSub, Nat.reduceBEq, Nat.reduceEqDiff, Nat.reduceLeDiff, Nat.reduceLT, true_and, and_true, Bool.false_eq_true, reduceCtorEq, if_true, if_false, hc_xx, hc_ofNat, hc_10, not_true_eq_false, not_false_eq_true, ge_iff_le, t30, t33, oIn, if_pos (Int32.le_refl (nI (2 * P.length)))]
    exact M
  | succ d ih =>
    intro m G1 τ hd hB hcr
    have hm : m < P.length := by omega
    have hB' := hB
    obtain ⟨⟨q1, t30⟩, ⟨oh, th, hH⟩, -, -, -, -, hfr⟩ := hB'
    have t33 : τ 33 = some (oIn (2 * P.length) cp fp) := by rw [hfr _ (by omega) (by omega) (by omega) (by omega) (by omega) (by omega)]; exact h33
    have g1 : ¬ nI (2 * P.length) ≤ nI (2 * m) := nI_ge (by omega) (by omega)
    have i1 : hc_inn (nI (2 * m)) cp := inn_nI (by omega) (by omega)
    have i2 : hc_inn (nI (2 * m + 1)) cp := inn_nI (by omega) (by omega)
    have k1 : (nI (2 * m)).toNatClampNeg = 2 * m := nI_clamp (by omega)
    have k2 : (nI (2 * m + 1)).toNatClampNeg = 2 * m + 1 := nI_clamp (by omega)
    have v := hev m hm
    have em : nd P m = P[m] := by
      show P[m]?.getD (0, 0) = _
      rw [List.getElem?_eq_getElem hm]
      rfl
    obtain ⟨s1, s2, s3, s4⟩ := hb (nd P m) (by rw [em]; exact List.getElem_mem hm)
    have hq := hH
    obtain ⟨cc, ff, rfl, -⟩ := hq
    have e5 : kN (H0 ++ P.take m) ++ [kxy (nd P m).1 (nd P m).2] = kN (H0 ++ P.take (m + 1)) := by
      rw [List.take_succ, List.getElem?_eq_getElem hm, Option.toList_some, ← List.append_assoc, ← em, kN, kN, List.map_append (l₁ := H0 ++ P.take m), List.map_cons, List.map_nil]
    have ln : (kN (H0 ++ P.take m)).length ≤ 1536 := by
      rw [List.length_map, List.length_append, List.length_take]
      omega
    rw [hm63_76]
    simp only [hm63_77, hm63_78, hm63_81, hm63_84, hm63_87, hm63_88, hm63_91, hm63_92, hm63_95, hm63_98, hm63_99, hm63_100, hm63_101, hm63_104, hm63_107, hm63_108, hm63_109, hm63_110, hm63_111, hc_on_some, hc_get, hc_put, hc_ri, hc_rl, hc_is, hc_row, hc_wr, hc_mov, hc_smi, hc_sml, hc_fv, hc_ld, hc_kd, hc_sto, hc_pre, hc_two, hc_inc, hc_psh, hc_kp, hc_k1, hc_np, hc_bk_rf, hc_bk_gA, hc_set_ap, hc_set_set, Value.category, List.getElem?_cons_zero, List.getElem?_cons_succ, List.set_cons_zero, List.set_cons_succ, List.length_cons, List.length_nil, List.map_cons, List.map_nil, reduceIte, Nat.reduceAdd, Nat.reduceSub, Nat.reduceBEq, Nat.reduceEqDiff, Nat.reduceLeDiff, Nat.reduceLT, true_and, and_true, Bool.false_eq_true, reduceCtorEq, if_true, if_false, hc_xx, hc_ofNat, hc_10, not_true_eq_false, not_false_eq_true, ge_iff_le, t30, t33, th, oIn, oMp, g1, i1, i2, k1, k2, nI_1]
    refine sp_madd th hH (by omega) (by omega) (by omega) fun G2 o2 hH2 hcr2 => ?_
    dsimp only
    rw [hc_bk_np rfl rfl]
    rw [kyv_toInt (by rw [v.2]; omega) (by rw [v.2]; omega), v.1, v.2] at hH2
    rw [e5] at hH2
    have I := ih (m + 1) G2 _ (by omega) (LD.sh hz hB hH2) (hcr.tr hcr2)
    have e6 : nI (2 * m) + 2 = nI (2 * (m + 1)) := nI_add _ 2
    simp only [hm63_114, hm63_117, hc_on_some, hc_get, hc_put, hc_ri, hc_rl, hc_is, hc_row, hc_wr, hc_mov, hc_smi, hc_sml, hc_fv, hc_ld, hc_kd, hc_sto, hc_pre, hc_two, hc_inc, hc_psh, hc_kp, hc_k1, hc_np, hc_bk_rf, hc_bk_gA, hc_set_ap, hc_set_set, Value.category, List.getElem?_cons_zero, List.getElem?_cons_succ, List.set_cons_zero, List.set_cons_succ, List.length_cons, List.length_nil, List.map_cons, List.map_nil, reduceIte, Nat.reduceAdd, Nat.reduceSub, Nat.reduceBEq, Nat.reduceEqDiff, Nat.reduceLeDiff, Nat.reduceLT, true_and, and_true, Bool.false_eq_true, reduceCtorEq, if_true, if_false, hc_xx, hc_ofNat, hc_10, not_true_eq_false, not_false_eq_true, ge_iff_le, e6]
    exact I
/-- the pieces' keys -/
theorem sp_lay139 {Ws : List (List Nat)} (hz : MHp h p w b h' p' w' b') (hv : ∀ v ∈ Ws.flatten, v < 6000) (hst : (Ws.flatMap stl).length ≤ 20000) (hfl0 : Ws.flatten.length ≤ 30000) (hWs : Ws.length ≤ 512)
    (K : ∀ G' τ' x1 x2, LD σ τ' h p w b h' p' w' b' rt HL ((Ws.flatMap stl).map enc) (nat2 Ws.flatten) (bgl Ws (Ws.length + 1)) AL → hc_cr G σ G' τ' → hc_wp G' τ' none 63 244 [some (.inl (.ref 30)), some (.inl (.int x1)), Option.map Sum.inl x2] [] Q) :
    ∀ (R D : List (List Nat)) (G1 : hc_G) (τ : hc_H) (g2 : Option Value), D ++ R = Ws → LD σ τ h p w b h' p' w' b' rt HL ((D.flatMap stl).map enc) (nat2 Ws.flatten) (bgl Ws (Ws.length + 1)) AL → hc_cr G σ G1 τ → hc_wp G1 τ none 63 139 [some (.inl (.ref 30)), some (.inl (.int (nI D.length))), g2.map Sum.inl] [] Q := by
  have hz' := hz
  unfold MHp at hz'
  intro R
  induction R with
  | nil =>
    intro D G1 τ g2 hD hB hcr
    rw [List.append_nil] at hD
    subst hD
    have M := K G1 τ (nI D.length) g2 hB hcr
    obtain ⟨⟨q1, t30⟩, -, -, -, ⟨ob, tb, hBo⟩, -, hfr⟩ := hB
    obtain ⟨cb, fb, rfl, -⟩ := hBo
    rw [hm63_139]
    simp only [hm63_140, hm63_141, hm63_142, hm63_143, hm63_146, hm63_149, hm63_152, hm63_153, hm63_156, hm63_159, hm63_160, hm63_161, hm63_162, hm63_163, hm63_164, hm63_165, hm63_166, hm63_169, hm63_172, hm63_173, hm63_174, hm63_175, hm63_176, hm63_179, hm63_180, hm63_183, hm63_184, hm63_187, hm63_190, hm63_191, hm63_192, hm63_193, hm63_196, hm63_199, hm63_200, hm63_201, hm63_202, hm63_203, hm63_206, hm63_207, hm63_210, hm63_213, hm63_214, hm63_215, hm63_216, hm63_219, hm63_222, hm63_223, hm63_224, hm63_225, hm63_226, hm63_229, hm63_232, hm63_235, hm63_238, hm63_241, hc_on_some, hc_get, hc_put, hc_ri, hc_rl, hc_is, hc_row, hc_wr, hc_mov, hc_smi, hc_sml, hc_fv, hc_ld, hc_kd, hc_sto, hc_pre, hc_two, hc_inc, hc_psh, hc_kp, hc_k1, hc_np, hc_bk_rf, hc_bk_gA, hc_set_ap, hc_set_set, Value.category, List.getElem?_cons_zero, List.getElem?_cons_succ, List.set_cons_zero, List.set_cons_succ, List.length_cons, List.length_nil, List.map_cons, List.map_nil, reduceIte, Nat.reduceAdd, Nat.reduceSub, Nat.reduceBEq, Nat.reduceEqDiff, Nat.reduceLeDiff, Nat.reduceLT, true_and, and_true, Bool.false_eq_true, reduceCtorEq, if_true, if_false, hc_xx, hc_ofNat, hc_10, not_true_eq_false, not_false_eq_true, ge_iff_le, t30, tb, oIn, bgl_len, nI_1, if_pos (Int32.le_refl (nI (D.length + 1)))]
    exact M
  | cons W R ih =>
    intro D G1 τ g2 hD hB hcr
    have hWl : Ws.length = D.length + (R.length + 1) := by
      rw [← hD]
      simp
    have e1 : ¬ nI (Ws.length + 1) ≤ nI (D.length + 1) := nI_ge (by omega) (by omega)
    have hfl : Ws.flatten = D.flatten ++ (W ++ R.flatten) := by
      rw [← hD]
      simp
    have hfl2 : Ws.flatten.length = D.flatten.length + (W.length + R.flatten.length) := by
      rw [hfl, List.length_append, List.length_append]
    have bg : ∀ i, i ≤ Ws.length → (bgl Ws (Ws.length + 1))[i]? = some ((Ws.take i).flatten.length : Int) := by
      intro i hi
      rcases bgl_bg Ws with ⟨-, x⟩ | ⟨-, x⟩
      · rw [x] at hWl
        simp at hWl
      · exact x i hi
    have t1 : (Ws.take D.length).flatten.length = D.flatten.length := by rw [← hD, List.take_left]
    have t2 : (Ws.take (D.length + 1)).flatten.length = D.flatten.length + W.length := by
      rw [← hD]
      have : (D ++ W :: R).take (D.length + 1) = D ++ [W] := by
        rw [List.take_append, List.take_of_length_le (by omega)]
        simp
      rw [this]
      simp
    have hsl : (Ws.flatMap stl).length = (D.flatMap stl).length + ((W.length - 1) + (R.flatMap stl).length) := by
      rw [← hD]
      simp only [List.flatMap_append, List.flatMap_cons, List.length_append]
      have : (stl W).length = W.length - 1 := skl_len _ _
      rw [this]
    have hvW : ∀ v ∈ W, v < 6000 := fun v hv2 => hv v (by rw [hfl]; exact List.mem_append_right _ (List.mem_append_left _ hv2))
    have inner : ∀ (d j : Nat) (G2 : hc_G) (τ2 : hc_H), d + j = W.length - 1 → LD σ τ2 h p w b h' p' w' b' rt HL ((D.flatMap stl ++ skl W j).map enc) (nat2 Ws.flatten) (bgl Ws (Ws.length + 1)) AL → hc_cr G σ G2 τ2 → hc_wp G2 τ2 none 63 162 [some (.inl (.ref 30)), some (.inl (.int (nI D.length))), some (.inl (.int (nI (D.flatten.length + j))))] [] Q := by
      intro d
      induction d with
      | zero =>
        intro j G2 τ2 hd hB2 hcr2
        have hB2' := hB2
        obtain ⟨⟨q1, t30⟩, -, -, -, ⟨ob, tb, hBo⟩, -, hfr⟩ := hB2'
        obtain ⟨cb, fb, rfl, b1, b2, b3, b4⟩ := hBo
        rw [bgl_len] at b1
        have f2 : fb (D.length + 1) = nI (D.flatten.length + W.length) := CI_nI b4 (by rw [bg _ (by omega), t2]) (by omega)
        have i2 : hc_inn (nI (D.length + 1)) cb := inn_nI (by omega) (by omega)
        have k2 : (nI (D.length + 1)).toNatClampNeg = D.length + 1 := nI_clamp (by omega)
        have e2 : nI (D.flatten.length + W.length) ≤ nI (D.flatten.length + j + 1) := by
          rw [← Int32.not_lt]
          exact nI_nlt (by omega) (by omega)
        have ej : j = W.length - 1 := by omega
        have I := ih (D ++ [W]) G2 τ2 (some (.int (nI (D.flatten.length + j)))) (by rw [← hD]; simp) (by
          have : (D ++ [W]).flatMap stl = D.flatMap stl ++ skl W j := by
            rw [ej]
            simp [stl]
          rw [this]
          exact hB2) hcr2
        have el : (D ++ [W]).length = D.length + 1 := by simp
        rw [el, hc_opt] at I
        rw [hm63_162]
        simp only [hm63_163, hm63_164, hm63_165, hm63_166, hm63_169, hm63_172, hm63_173, hm63_174, hm63_175, hm63_176, hm63_179, hm63_180, hm63_183, hm63_184, hm63_187, hm63_190, hm63_191, hm63_192, hm63_193, hm63_196, hm63_199, hm63_200, hm63_201, hm63_202, hm63_203, hm63_206, hm63_207, hm63_210, hm63_213, hm63_214, hm63_215, hm63_216, hm63_219, hm63_222, hm63_223, hm63_224, hm63_225, hm63_226, hm63_229, hm63_232, hm63_235, hm63_238, hm63_241, hc_on_some, hc_get, hc_put, hc_ri, hc_rl, hc_is, hc_row, hc_wr, hc_mov, hc_smi, hc_sml, hc_fv, hc_ld, hc_kd, hc_sto, hc_pre, hc_two, hc_inc, hc_psh, hc_kp, hc_k1, hc_np, hc_bk_rf, hc_bk_gA, hc_set_ap, hc_set_set, Value.category, List.getElem?_cons_zero, List.getElem?_cons_succ, List.set_cons_zero, List.set_cons_succ, List.length_cons, List.length_nil, List.map_cons, List.map_nil, reduceIte, Nat.reduceAdd, Nat.reduceSub, Nat.reduceBEq, Nat.reduceEqDiff, Nat.reduceLeDiff, Nat.reduceLT, true_and, and_true, Bool.false_eq_true, reduceCtorEq, if_true, if_false, hc_xx, hc_ofNat, hc_10, not_true_eq_false, not_false_eq_true, ge_iff_le, t30, tb, oIn, nI_1, i2, k2, f2, e2]
        exact I
      | succ d ih2 =>
        intro j G2 τ2 hd hB2 hcr2
        have hB2' := hB2
        obtain ⟨⟨q1, t30⟩, -, ⟨op, tp, hPo⟩, ⟨ow, tw, hWo⟩, ⟨ob, tb, hBo⟩, -, hfr⟩ := hB2'
        obtain ⟨cb, fb, rfl, b1, b2, b3, b4⟩ := hBo
        rw [bgl_len] at b1
        obtain ⟨cw, fw, rfl, w1, w2, w3, w4⟩ := hWo
        have lw : (nat2 Ws.flatten).length = Ws.flatten.length := List.length_map _
        rw [lw] at w1 tw
        have hq := hPo
        obtain ⟨cp, fp, rfl, -⟩ := hq
        have f2 : fb (D.length + 1) = nI (D.flatten.length + W.length) := CI_nI b4 (by rw [bg _ (by omega), t2]) (by omega)
        have i2 : hc_inn (nI (D.length + 1)) cb := inn_nI (by omega) (by omega)
        have k2 : (nI (D.length + 1)).toNatClampNeg = D.length + 1 := nI_clamp (by omega)
        have hj : j < W.length := by omega
        have hj1 : j + 1 < W.length := by omega
        have fW : ∀ j (hj : j < W.length), fw (D.flatten.length + j) = nI (W[j]'hj) := by
          intro j hj
          refine CI_nI w4 ?_ (by
            have := hvW (W[j]'hj) (List.getElem_mem hj)
            omega)
          rw [List.getElem?_map, hfl, List.getElem?_append_right (by omega), Nat.add_sub_cancel_left, List.getElem?_append_left hj, List.getElem?_eq_getElem hj]
          rfl
        have e2 : ¬ nI (D.flatten.length + W.length) ≤ nI (D.flatten.length + j + 1) := nI_ge (by omega) (by omega)
        have i3 : hc_inn (nI (D.flatten.length + j)) cw := inn_nI (by omega) (by omega)
        have i4 : hc_inn (nI (D.flatten.length + j + 1)) cw := inn_nI (by omega) (by omega)
        have k3 : (nI (D.flatten.length + j)).toNatClampNeg = D.flatten.length + j := nI_clamp (by omega)
        have k4 : (nI (D.flatten.length + j + 1)).toNatClampNeg = D.flatten.length + j + 1 := nI_clamp (by omega)
        have v1 := fW j hj
        have v2 := fW (j + 1) hj1
        rw [← Nat.add_assoc] at v2
        have bd1 := hvW (W[j]'hj) (List.getElem_mem hj)
        have bd2 := hvW (W[j + 1]'hj1) (List.getElem_mem hj1)
        have mn := nI_min (a := W[j]'hj) (b := W[j + 1]'hj1) (by omega) (by omega)
        have mx := nI_max (a := W[j]'hj) (b := W[j + 1]'hj1) (by omega) (by omega)
        have esk : sk W j = stk (W[j]'hj) (W[j + 1]'hj1) := by
          unfold sk
          rw [List.getElem?_eq_getElem hj, List.getElem?_eq_getElem hj1]
          rfl
        have ky : (kyv (nI (min (W[j]'hj) (W[j + 1]'hj1))) (nI (max (W[j]'hj) (W[j + 1]'hj1)))).toInt = enc (sk W j) := by
          rw [kyv_toInt (by rw [nI_toInt (by omega)]; omega) (by rw [nI_toInt (by omega)]; omega), nI_toInt (by omega), nI_toInt (by omega), esk, enc_stk bd1 bd2]
        rw [hm63_162]
        simp only [hm63_163, hm63_164, hm63_165, hm63_166, hm63_169, hm63_172, hm63_173, hm63_174, hm63_175, hm63_176, hm63_179, hm63_180, hm63_183, hm63_184, hm63_187, hm63_190, hm63_191, hm63_192, hm63_193, hm63_196, hm63_199, hm63_200, hm63_201, hm63_202, hm63_203, hm63_206, hm63_207, hm63_210, hm63_213, hm63_214, hm63_215, hm63_216, hm63_219, hm63_222, hm63_223, hm63_224, hm63_225, hm63_226, hm63_229, hc_on_some, hc_get, hc_put, hc_ri, hc_rl, hc_is, hc_row, hc_wr, hc_mov, hc_smi, hc_sml, hc_fv, hc_ld, hc_kd, hc_sto, hc_pre, hc_two, hc_inc, hc_psh, hc_kp, hc_k1, hc_np, hc_bk_rf, hc_bk_gA, hc_set_ap, hc_set_set, Value.category, List.getElem?_cons_zero, List.getElem?_cons_succ, List.set_cons_zero, List.set_cons_succ, List.length_cons, List.length_nil, List.map_cons, List.map_nil, reduceIte, Nat.reduceAdd, Nat.reduceSub, Nat.reduceBEq, Nat.reduceEqDiff, Nat.reduceLeDiff, Nat.reduceLT, true_and, and_true, Bool.false_eq_true, reduceCtorEq, if_true, if_false, hc_xx, hc_ofNat, hc_10, not_true_eq_false, not_false_eq_true, ge_iff_le, t30, tb, tw, tp, oIn, oMp, nI_1, i2, k2, f2, e2, i3, i4, k3, k4, v1, v2, sp_min, sp_max, mn, mx]
        refine sp_madd tp hPo (by rw [List.length_map, List.length_append, skl_len]; omega) (by omega) (by omega) fun G3 o3 hP3 hcr3 => ?_
        dsimp only
        rw [hc_bk_np rfl rfl]
        have e5 : (D.flatMap stl ++ skl W j).map enc ++ [enc (sk W j)] = (D.flatMap stl ++ skl W (j + 1)).map enc := by
          rw [skl_succ, ← List.append_assoc, List.map_append (l₁ := D.flatMap stl ++ skl W j)]
          rfl
        rw [ky, e5] at hP3
        have I := ih2 (j + 1) G3 _ (by omega) (LD.sp hz hB2 hP3) (hcr2.tr hcr3)
        rw [← Nat.add_assoc] at I
        simp only [hm63_232, hm63_235, hc_on_some, hc_get, hc_put, hc_ri, hc_rl, hc_is, hc_row, hc_wr, hc_mov, hc_smi, hc_sml, hc_fv, hc_ld, hc_kd, hc_sto, hc_pre, hc_two, hc_inc, hc_psh, hc_kp, hc_k1, hc_np, hc_bk_rf, hc_bk_gA, hc_set_ap, hc_set_set, Value.category, List.getElem?_cons_zero, List.getElem?_cons_succ, List.set_cons_zero, List.set_cons_succ, List.length_cons, List.length_nil, List.map_cons, List.map_nil, reduceIte, Nat.reduceAdd, Nat.reduceSub, Nat.reduceBEq, Nat.reduceEqDiff, Nat.reduceLeDiff, Nat.reduceLT, true_and, and_true, Bool.false_eq_true, reduceCtorEq, if_true, if_false, hc_xx, hc_ofNat, hc_10, not_true_eq_false, not_false_eq_true, ge_iff_le, nI_1]
        exact I
    have I := inner (W.length - 1) 0 G1 τ (by omega) (by
      have : skl W 0 = [] := rfl
      rw [this, List.append_nil]
      exact hB) hcr
    rw [Nat.add_zero] at I
    have hB' := hB
    obtain ⟨⟨q1, t30⟩, -, -, -, ⟨ob, tb, hBo⟩, -, hfr⟩ := hB'
    obtain ⟨cb, fb, rfl, b1, b2, b3, b4⟩ := hBo
    rw [bgl_len] at b1
    have f1 : fb D.length = nI D.flatten.length := CI_nI b4 (by rw [bg _ (by omega), t1]) (by omega)
    have i1 : hc_inn (nI D.length) cb := inn_nI (by omega) (by omega)
    have k1 : (nI D.length).toNatClampNeg = D.length := nI_clamp (by omega)
    rw [hm63_139]
    simp only [hm63_140, hm63_141, hm63_142, hm63_143, hm63_146, hm63_149, hm63_152, hm63_153, hm63_156, hm63_159, hm63_160, hm63_161, hc_on_some, hc_get, hc_put, hc_ri, hc_rl, hc_is, hc_row, hc_wr, hc_mov, hc_smi, hc_sml, hc_fv, hc_ld, hc_kd, hc_sto, hc_pre, hc_two, hc_inc, hc_psh, hc_kp, hc_k1, hc_np, hc_bk_rf, hc_bk_gA, hc_set_ap, hc_set_set, Value.category, List.getElem?_cons_zero, List.getElem?_cons_succ, List.set_cons_zero, List.set_cons_succ, List.length_cons, List.length_nil, List.map_cons, List.map_nil, reduceIte, Nat.reduceAdd, Nat.reduceSub, Nat.reduceBEq, Nat.reduceEqDiff, Nat.reduceLeDiff, Nat.reduceLT, true_and, and_true, Bool.false_eq_true, reduceCtorEq, if_true, if_false, hc_xx, hc_ofNat, hc_10, not_true_eq_false, not_false_eq_true, ge_iff_le, t30, tb, oIn, bgl_len, nI_1, e1, i1, k1, f1]
    exact I
end S66
