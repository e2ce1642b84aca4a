/-! pieces as keys of the reference; become -/
def enc (s : Int) : Int := kxy (s / 6000) (s % 6000)
def dec (v : Int) : Int := v / 4294967296 * 6000 + (v % 4294967296 - 1073741824)
abbrev stR (s : Int) : Prop := 0 ≤ s ∧ s < 36000000
theorem dec_enc {s : Int} (h : stR s) : dec (enc s) = s := by
  unfold dec enc
  rw [kxy_x (by omega) (by omega), kxy_y (by omega) (by omega)]
  omega
theorem enc_lt {s r : Int} (hs : stR s) (hr : stR r) : enc s < enc r ↔ s < r := by
  unfold enc kxy
  omega
theorem stk_R {a b : Nat} (ha : a < 6000) (hb : b < 6000) : stR (stk a b) := by
  unfold stk stR
  omega
theorem enc_stk {a b : Nat} (ha : a < 6000) (hb : b < 6000) : enc (stk a b) = kxy (min a b : Nat) (max a b : Nat) := by
  unfold enc stk
  congr 1
  · omega
  · omega
theorem stl_R {W : List Nat} (h : ∀ v ∈ W, v < 6000) : ∀ s ∈ stl W, stR s := by
  intro s hs
  unfold stl skl at hs
  obtain ⟨j, hj, rfl⟩ := List.mem_map.mp hs
  have hj' := List.mem_range.mp hj
  unfold sk
  rw [List.getElem?_eq_getElem (show j < W.length by omega), List.getElem?_eq_getElem (show j + 1 < W.length by omega)]
  exact stk_R (h _ (List.getElem_mem _)) (h _ (List.getElem_mem _))
theorem flat_R {Ws : List (List Nat)} (h : ∀ v ∈ Ws.flatten, v < 6000) : ∀ s ∈ Ws.flatMap stl, stR s := by
  intro s hs
  obtain ⟨W, hW, h2⟩ := List.mem_flatMap.mp hs
  exact stl_R (fun v hv => h v (List.mem_flatten.mpr ⟨W, hW, hv⟩)) s h2
theorem pieces_of {L T : List Int} (hL : L.Pairwise (· < ·)) (hT : ∀ s ∈ T, stR s) (hm : ∀ v, v ∈ L ↔ v ∈ T.map enc) : PcOf T (L.map fun v => (dec v, T.count (dec v))) ∧ kP (L.map fun v => (dec v, T.count (dec v))) = L := by
  have key : ∀ v ∈ L, ∃ s ∈ T, v = enc s ∧ dec v = s := by
    intro v hv
    obtain ⟨s, hs, e⟩ := List.mem_map.mp ((hm v).mp hv)
    exact ⟨s, hs, e.symm, by rw [← e, dec_enc (hT s hs)]⟩
  refine ⟨⟨?_, ?_, ?_⟩, ?_⟩
  · rw [List.map_map, List.pairwise_map]
    refine (List.Pairwise.and_mem.mp hL).imp ?_
    rintro a b ⟨ha, hb, hab⟩
    obtain ⟨s, hs, e1, e2⟩ := key a ha
    obtain ⟨r, hr, e3, e4⟩ := key b hb
    show dec a < dec b
    rw [e2, e4]
    rw [e1, e3] at hab
    exact (enc_lt (hT s hs) (hT r hr)).mp hab
  · intro v
    rw [List.map_map]
    constructor
    · intro hv
      obtain ⟨u, hu, e⟩ := List.mem_map.mp hv
      obtain ⟨s, hs, e1, e2⟩ := key u hu
      have : dec u = v := e
      rw [← this, e2]
      exact hs
    · intro hv
      refine List.mem_map.mpr ⟨enc v, (hm _).mpr (List.mem_map.mpr ⟨v, hv, rfl⟩), ?_⟩
      exact dec_enc (hT v hv)
  · intro p hp
    obtain ⟨u, hu, e⟩ := List.mem_map.mp hp
    rw [← e]
  · rw [kP, List.map_map]
    have : L.map (fun v => v) = L := List.map_id' L
    conv => rhs; rw [← this]
    refine List.map_congr_left fun v hv => ?_
    obtain ⟨s, hs, e1, e2⟩ := key v hv
    show kxy (dec v / 6000) (dec v % 6000) = v
    rw [e2, e1]
    rfl
theorem kP_pw {T : List Int} {Ps : List (Int × Nat)} (hT : ∀ s ∈ T, stR s) (h : PcOf T Ps) : (kP Ps).Pairwise (· < ·) := by
  rw [kP, List.pairwise_map]
  have h1 := h.1
  rw [List.pairwise_map] at h1
  refine (List.Pairwise.and_mem.mp h1).imp ?_
  rintro a b ⟨ha, hb, hab⟩
  exact (enc_lt (hT _ ((h.2.1 _).mp (List.mem_map_of_mem (f := Prod.fst) ha))) (hT _ ((h.2.1 _).mp (List.mem_map_of_mem (f := Prod.fst) hb)))).mpr hab
theorem CI_nI {f : Nat → Int32} {l : List Int} (h : CI f l) {i n : Nat} (hi : l[i]? = some (n : Int)) (hn : n < 2 ^ 31) : f i = nI n := Int32.toInt_inj.mp (by rw [h i _ hi, nI_toInt hn])
/-- cost, with a row for the pieces made anew -/
def hc_c9 (G : hc_G) (σ : hc_H) (G' : hc_G) (σ' : hc_H) : Prop := G'.2.2.1 + 12 * G'.2.1 + hc_phi σ ≤ G.2.2.1 + 12 * G.2.1 + hc_phi σ' + 9012
theorem hc_cr.c9 {G G' : hc_G} {σ σ' : hc_H} (h : hc_cr G σ G' σ') : hc_c9 G σ G' σ' := by
  unfold hc_cr at h
  unfold hc_c9
  omega
theorem hc_cr.tr9 {G1 G2 G3 : hc_G} {σ1 σ2 σ3 : hc_H} (h : hc_cr G1 σ1 G2 σ2) (h2 : hc_c9 G2 σ2 G3 σ3) : hc_c9 G1 σ1 G3 σ3 := by
  unfold hc_cr at h
  unfold hc_c9 at *
  omega
section S64
variable {G : hc_G} {σ : hc_H} {t : hc_T} {Q : hc_Q} {h p w b h' p' w' b' ct : Nat} {ft : Nat → Int32} {q : hc_Cl}
/-- the pieces of all ways counted -/
theorem sp_times {h p w b h' p' w' b' ct : Nat} {q : hc_Cl} {op ow ob : hc_O} {Ps : List (Int × Nat)} {Ws : List (List Nat)} (np : ¬ p = 30) (nw : ¬ w = 30) (nb : ¬ b = 30) (hp : σ p = some op) (hpP : MPo op (kP Ps) 40000) (hw : σ w = some ow) (hwP : INo ow (nat2 Ws.flatten) 53248) (hb : σ b = some ob) (hbP : INo ob (bgl Ws (Ws.length + 1)) 1100) (hPs : PcOf (Ws.flatMap stl) Ps) (hv : ∀ v ∈ Ws.flatten, v < 6000) (hc : Ps.length ≤ ct) (hct : ct ≤ 9000) {l1 l2 l3 l4 : Nat}
    (K : ∀ ft', TM ct ft' Ps → Q G (hc_set σ 30 (oMd h p w b h' p' w' b' (ct, .inl ft') q)) none none) :
    ∀ (R D : List (List Nat)) (ft : Nat → Int32) (g6 g7 : Option Value), D ++ R = Ws → (∀ m (hm : m < Ps.length), ft m = nI ((D.flatMap stl).count Ps[m].1)) → hc_wp G (hc_set σ 30 (oMd h p w b h' p' w' b' (ct, .inl ft) q)) none 64 134 [some (.inl (.ref 30)), some (.inl (.ref l1)), some (.inl (.ref l2)), some (.inl (.ref l3)), some (.inl (.ref l4)), some (.inl (.int (nI D.length))), g6.map Sum.inl, g7.map Sum.inl] [] Q := by
  have hT := flat_R hv
  have hpw := kP_pw hT hPs
  have hq1 := hpP
  obtain ⟨cp, fp, rfl, -⟩ := hq1
  have hq2 := hwP
  obtain ⟨cw, fw, rfl, w1, w2, w3, w4⟩ := hq2
  have hq3 := hbP
  obtain ⟨cb, fb, rfl, b1, b2, b3, b4⟩ := hq3
  rw [bgl_len] at hb b1
  have mp : ∀ o, hc_set σ 30 o p = some (oMp (kP Ps).length cp fp) := fun o => by rw [hc_set_ne _ _ np]; exact hp
  have lw : (nat2 Ws.flatten).length = Ws.flatten.length := List.length_map _
  rw [lw] at hw w1
  intro R
  induction R with
  | nil =>
    intro D ft g6 g7 hD hft
    rw [List.append_nil] at hD
    subst hD
    have M := K ft ⟨hc, fun m hm => by rw [hft m hm, hPs.2.2 _ (List.getElem_mem hm)]⟩
    rw [hm64_134]
    simp only [hm64_136, hm64_137, hm64_138, hm64_139, hm64_142, hm64_145, hm64_148, hm64_149, hm64_152, hm64_155, hm64_157, hm64_158, hm64_160, hm64_162, hm64_163, hm64_164, hm64_165, hm64_168, hm64_171, hm64_173, hm64_174, hm64_175, hm64_176, hm64_179, hm64_180, hm64_183, hm64_184, hm64_187, hm64_190, hm64_192, hm64_193, hm64_194, hm64_197, hm64_200, hm64_202, hm64_203, hm64_204, hm64_205, hm64_208, hm64_209, hm64_212, hm64_215, hm64_217, hm64_218, hm64_219, hm64_222, hm64_225, hm64_227, hm64_228, hm64_229, hm64_230, hm64_233, hm64_236, hm64_238, hm64_239, hm64_242, hm64_244, hm64_245, hm64_246, hm64_247, hm64_248, hm64_249, hm64_252, hm64_255, hm64_258, hm64_261, hc_on_some, hc_get, hc_put, hc_ri, hc_rl, hc_is, hc_row, hc_wr, hc_mov, hc_smi, hc_sml, hc_fv, hc_ld, hc_kd, hc_sto, hc_pre, hc_two, hc_inc, hc_psh, hc_kp, hc_k1, hc_np, hc_bk_rf, hc_bk_gA, hc_set_ap, hc_set_set, Value.category, List.getElem?_cons_zero, List.getElem?_cons_succ, List.set_cons_zero, List.set_cons_succ, List.length_cons, List.length_nil, List.map_cons, List.map_nil, reduceIte, Nat.reduceAdd, Nat.reduceSub, Nat.reduceBEq, Nat.reduceEqDiff, Nat.reduceLeDiff, Nat.reduceLT, true_and, and_true, Bool.false_eq_true, reduceCtorEq, if_true, if_false, hc_xx, hc_ofNat, hc_10, not_true_eq_false, not_false_eq_true, ge_iff_le, nb, hb, oIn, nI_1, if_pos (Int32.le_refl (nI (D.length + 1)))]
    exact M
  | cons W R ih =>
    intro D ft g6 g7 hD hft
    have hWl : Ws.length = D.length + (R.length + 1) := by
      rw [← hD]
      simp
    have e1 : ¬ nI (Ws.length + 1) ≤ nI (D.length + 1) := nI_ge (by omega) (by omega)
    have hfl : Ws.flatten = D.flatten ++ (W ++ R.flatten) := by
      rw [← hD]
      simp
    have hfl2 : Ws.flatten.length = D.flatten.length + (W.length + R.flatten.length) := by
      rw [hfl, List.length_append, List.length_append]
    have bg : ∀ i, i ≤ Ws.length → (bgl Ws (Ws.length + 1))[i]? = some ((Ws.take i).flatten.length : Int) := by
      intro i hi
      rcases bgl_bg Ws with ⟨-, x⟩ | ⟨-, x⟩
      · rw [x] at hWl
        simp at hWl
      · exact x i hi
    have t1 : (Ws.take D.length).flatten.length = D.flatten.length := by rw [← hD, List.take_left]
    have t2 : (Ws.take (D.length + 1)).flatten.length = D.flatten.length + W.length := by
      rw [← hD]
      have : (D ++ W :: R).take (D.length + 1) = D ++ [W] := by
        rw [List.take_append, List.take_of_length_le (by omega)]
        simp
      rw [this]
      simp
    have f1 : fb D.length = nI D.flatten.length := CI_nI b4 (by rw [bg _ (by omega), t1]) (by omega)
    have f2 : fb (D.length + 1) = nI (D.flatten.length + W.length) := CI_nI b4 (by rw [bg _ (by omega), t2]) (by omega)
    have fW : ∀ j (hj : j < W.length), fw (D.flatten.length + j) = nI (W[j]'hj) := by
      intro j hj
      refine CI_nI w4 ?_ (by
        have := hv (W[j]'hj) (by rw [hfl]; exact List.mem_append_right _ (List.mem_append_left _ (List.getElem_mem hj)))
        omega)
      rw [List.getElem?_map, hfl, List.getElem?_append_right (by omega), Nat.add_sub_cancel_left, List.getElem?_append_left hj, List.getElem?_eq_getElem hj]
      rfl
    have hvW : ∀ v ∈ W, v < 6000 := fun v hv2 => hv v (by rw [hfl]; exact List.mem_append_right _ (List.mem_append_left _ hv2))
    have i1 : hc_inn (nI D.length) cb := inn_nI (by omega) (by omega)
    have i2 : hc_inn (nI (D.length + 1)) cb := inn_nI (by omega) (by omega)
    have k1 : (nI D.length).toNatClampNeg = D.length := nI_clamp (by omega)
    have k2 : (nI (D.length + 1)).toNatClampNeg = D.length + 1 := nI_clamp (by omega)
    have inner : ∀ (d j : Nat) (ft : Nat → Int32) (g7 : Option Value), d + j = W.length - 1 → (∀ m (hm : m < Ps.length), ft m = nI ((D.flatMap stl ++ skl W j).count Ps[m].1)) → hc_wp G (hc_set σ 30 (oMd h p w b h' p' w' b' (ct, .inl ft) q)) none 64 160 [some (.inl (.ref 30)), some (.inl (.ref l1)), some (.inl (.ref l2)), some (.inl (.ref l3)), some (.inl (.ref l4)), some (.inl (.int (nI D.length))), some (.inl (.int (nI (D.flatten.length + j)))), g7.map Sum.inl] [] Q := by
      intro d
      induction d with
      | zero =>
        intro j ft g7 hd hft
        have e2 : nI (D.flatten.length + W.length) ≤ nI (D.flatten.length + j + 1) := by
          rw [← Int32.not_lt]
          exact nI_nlt (by omega) (by omega)
        have ej : j = W.length - 1 := by omega
        have I := ih (D ++ [W]) ft (some (.int (nI (D.flatten.length + j)))) g7 (by rw [← hD]; simp) (fun m hm => by
          rw [hft m hm, ej]
          congr 2
          simp [stl])
        have el : (D ++ [W]).length = D.length + 1 := by simp
        rw [el, hc_opt] at I
        rw [hm64_160]
        simp only [hm64_162, hm64_163, hm64_164, hm64_165, hm64_168, hm64_171, hm64_173, hm64_174, hm64_175, hm64_176, hm64_179, hm64_180, hm64_183, hm64_184, hm64_187, hm64_190, hm64_192, hm64_193, hm64_194, hm64_197, hm64_200, hm64_202, hm64_203, hm64_204, hm64_205, hm64_208, hm64_209, hm64_212, hm64_215, hm64_217, hm64_218, hm64_219, hm64_222, hm64_225, hm64_227, hm64_228, hm64_229, hm64_230, hm64_233, hm64_236, hm64_238, hm64_239, hm64_242, hm64_244, hm64_245, hm64_246, hm64_247, hm64_248, hm64_249, hm64_252, hm64_255, hm64_258, hm64_261, hc_on_some, hc_get, hc_put, hc_ri, hc_rl, hc_is, hc_row, hc_wr, hc_mov, hc_smi, hc_sml, hc_fv, hc_ld, hc_kd, hc_sto, hc_pre, hc_two, hc_inc, hc_psh, hc_kp, hc_k1, hc_np, hc_bk_rf, hc_bk_gA, hc_set_ap, hc_set_set, Value.category, List.getElem?_cons_zero, List.getElem?_cons_succ, List.set_cons_zero, List.set_cons_succ, List.length_cons, List.length_nil, List.map_cons, List.map_nil, reduceIte, Nat.reduceAdd, Nat.reduceSub, Nat.reduceBEq, Nat.reduceEqDiff, Nat.reduceLeDiff, Nat.reduceLT, true_and, and_true, Bool.false_eq_true, reduceCtorEq, if_true, if_false, hc_xx, hc_ofNat, hc_10, not_true_eq_false, not_false_eq_true, ge_iff_le, nb, hb, oIn, nI_1, i2, k2, f2, e2]
        exact I
      | succ d ih2 =>
        intro j ft g7 hd hft
        have hj : j < W.length := by omega
        have hj1 : j + 1 < W.length := by omega
        have e2 : ¬ nI (D.flatten.length + W.length) ≤ nI (D.flatten.length + j + 1) := nI_ge (by omega) (by omega)
        have i3 : hc_inn (nI (D.flatten.length + j)) cw := inn_nI (by omega) (by omega)
        have i4 : hc_inn (nI (D.flatten.length + j + 1)) cw := inn_nI (by omega) (by omega)
        have k3 : (nI (D.flatten.length + j)).toNatClampNeg = D.flatten.length + j := nI_clamp (by omega)
        have k4 : (nI (D.flatten.length + j + 1)).toNatClampNeg = D.flatten.length + j + 1 := nI_clamp (by omega)
        have v1 := fW j hj
        have v2 := fW (j + 1) hj1
        rw [← Nat.add_assoc] at v2
        have bd1 := hvW (W[j]'hj) (List.getElem_mem hj)
        have bd2 := hvW (W[j + 1]'hj1) (List.getElem_mem hj1)
        have mn := nI_min (a := W[j]'hj) (b := W[j + 1]'hj1) (by omega) (by omega)
        have mx := nI_max (a := W[j]'hj) (b := W[j + 1]'hj1) (by omega) (by omega)
        have esk : sk W j = stk (W[j]'hj) (W[j + 1]'hj1) := by
          unfold sk
          rw [List.getElem?_eq_getElem hj, List.getElem?_eq_getElem hj1]
          rfl
        have ky : (kyv (nI (min (W[j]'hj) (W[j + 1]'hj1))) (nI (max (W[j]'hj) (W[j + 1]'hj1)))).toInt = enc (sk W j) := by
          rw [kyv_toInt (by rw [nI_toInt (by omega)]; omega) (by rw [nI_toInt (by omega)]; omega), nI_toInt (by omega), nI_toInt (by omega), esk, enc_stk bd1 bd2]
        have hin : sk W j ∈ Ws.flatMap stl := by
          rw [← hD]
          refine List.mem_flatMap.mpr ⟨W, List.mem_append_right _ List.mem_cons_self, ?_⟩
          unfold stl skl
          exact List.mem_map.mpr ⟨j, List.mem_range.mpr (by omega), rfl⟩
        rw [hm64_160]
        simp only [hm64_162, hm64_163, hm64_164, hm64_165, hm64_168, hm64_171, hm64_173, hm64_174, hm64_175, hm64_176, hm64_179, hm64_180, hm64_183, hm64_184, hm64_187, hm64_190, hm64_192, hm64_193, hm64_194, hm64_197, hm64_200, hm64_202, hm64_203, hm64_204, hm64_205, hm64_208, hm64_209, hm64_212, hm64_215, hm64_217, hm64_218, hm64_219, hm64_222, hm64_225, hm64_227, hm64_228, hm64_229, hm64_230, hm64_233, hc_on_some, hc_get, hc_put, hc_ri, hc_rl, hc_is, hc_row, hc_wr, hc_mov, hc_smi, hc_sml, hc_fv, hc_ld, hc_kd, hc_sto, hc_pre, hc_two, hc_inc, hc_psh, hc_kp, hc_k1, hc_np, hc_bk_rf, hc_bk_gA, hc_set_ap, hc_set_set, Value.category, List.getElem?_cons_zero, List.getElem?_cons_succ, List.set_cons_zero, List.set_cons_succ, List.length_cons, List.length_nil, List.map_cons, List.map_nil, reduceIte, Nat.reduceAdd, Nat.reduceSub, Nat.reduceBEq, Nat.reduceEqDiff, Nat.reduceLeDiff, Nat.reduceLT, true_and, and_true, Bool.false_eq_true, reduceCtorEq, if_true, if_false, hc_xx, hc_ofNat, hc_10, not_true_eq_false, not_false_eq_true, ge_iff_le, np, nw, nb, hp, hw, hb, oIn, oMp, nI_1, i2, k2, f2, e2, i3, i4, k3, k4, v1, v2, sp_min, sp_max, mn, mx]
        refine sp_mfind (mp _) hpP (by omega) hpw fun v hvf => ?_
        rw [ky] at hvf
        rcases hvf with ⟨m, hm, em, rfl⟩ | ⟨hno, -⟩
        · have hm' : m < Ps.length := by
            rw [List.length_map] at hm
            exact hm
          have em' : Ps[m].1 = sk W j := by
            rw [List.getElem_map] at em
            have r1 := hT _ ((hPs.2.1 _).mp (List.mem_map_of_mem (f := Prod.fst) (List.getElem_mem hm')))
            have := congrArg dec em
            rw [dec_enc (hT _ hin)] at this
            rw [← this]
            exact (dec_enc r1).symm
          have i5 : hc_inn (nI m) ct := inn_nI (by omega) (by omega)
          have k5 : (nI m).toNatClampNeg = m := nI_clamp (by omega)
          have hfm := hft m hm'
          have hcs : (D.flatMap stl ++ skl W (j + 1)).count (sk W j) = (D.flatMap stl ++ skl W j).count (sk W j) + 1 := by
            rw [skl_succ, ← List.append_assoc, List.count_append (l₁ := D.flatMap stl ++ skl W j)]
            simp
          have I := ih2 (j + 1) (upd ft m (nI ((D.flatMap stl ++ skl W j).count Ps[m].1 + 1))) (some (.int (nI m))) (by omega) (fun m2 hm2 => by
            by_cases z : m2 = m
            · subst z
              simp only [upd, if_true]
              rw [em', hcs]
            · simp only [upd, if_neg z]
              rw [hft m2 hm2]
              congr 1
              rw [skl_succ, ← List.append_assoc, List.count_append (l₁ := D.flatMap stl ++ skl W j)]
              have : ¬ Ps[m2].1 = sk W j := by
                intro e
                have hps := hPs.1
                have g := List.pairwise_iff_getElem.mp hps
                rcases Nat.lt_or_gt_of_ne z with c | c
                · have := g m2 m (by rw [List.length_map]; exact hm2) (by rw [List.length_map]; exact hm') c
                  rw [List.getElem_map, List.getElem_map, e, em'] at this
                  omega
                · have := g m m2 (by rw [List.length_map]; exact hm') (by rw [List.length_map]; exact hm2) c
                  rw [List.getElem_map, List.getElem_map, e, em'] at this
                  omega
              have z2 : [sk W j].count Ps[m2].1 = 0 := by
                rw [List.count_eq_zero]
                intro hx
                exact this (List.mem_singleton.mp hx)
              rw [z2]
              rfl)
          rw [hc_opt, ← Nat.add_assoc] at I
          simp only [hm64_236, hm64_238, hm64_239, hm64_242, hm64_244, hm64_245, hm64_246, hm64_247, hm64_248, hm64_249, hm64_252, hm64_255, hm64_258, hm64_261, hc_on_some, hc_get, hc_put, hc_ri, hc_rl, hc_is, hc_row, hc_wr, hc_mov, hc_smi, hc_sml, hc_fv, hc_ld, hc_kd, hc_sto, hc_pre, hc_two, hc_inc, hc_psh, hc_kp, hc_k1, hc_np, hc_bk_rf, hc_bk_gA, hc_set_ap, hc_set_set, Value.category, List.getElem?_cons_zero, List.getElem?_cons_succ, List.set_cons_zero, List.set_cons_succ, List.length_cons, List.length_nil, List.map_cons, List.map_nil, reduceIte, Nat.reduceAdd, Nat.reduceSub, Nat.reduceBEq, Nat.reduceEqDiff, Nat.reduceLeDiff, Nat.reduceLT, true_and, and_true, Bool.false_eq_true, reduceCtorEq, if_true, if_false, hc_xx, hc_ofNat, hc_10, not_true_eq_false, not_false_eq_true, ge_iff_le, i5, k5, hfm, nI_1]
          exact I
        · exfalso
          obtain ⟨pp, hpp, epp⟩ := List.mem_map.mp ((hPs.2.1 _).mpr hin)
          obtain ⟨m, hm, e⟩ := List.getElem_of_mem hpp
          refine hno m (by rw [List.length_map]; exact hm) ?_
          rw [List.getElem_map, e]
          show enc pp.1 = _
          rw [epp]
    have I := inner (W.length - 1) 0 ft g7 (by omega) (fun m hm => by
      rw [hft m hm]
      congr 2
      simp [skl])
    rw [Nat.add_zero] at I
    rw [hm64_134]
    simp only [hm64_136, hm64_137, hm64_138, hm64_139, hm64_142, hm64_145, hm64_148, hm64_149, hm64_152, hm64_155, hm64_157, hm64_158, hc_on_some, hc_get, hc_put, hc_ri, hc_rl, hc_is, hc_row, hc_wr, hc_mov, hc_smi, hc_sml, hc_fv, hc_ld, hc_kd, hc_sto, hc_pre, hc_two, hc_inc, hc_psh, hc_kp, hc_k1, hc_np, hc_bk_rf, hc_bk_gA, hc_set_ap, hc_set_set, Value.category, List.getElem?_cons_zero, List.getElem?_cons_succ, List.set_cons_zero, List.set_cons_succ, List.length_cons, List.length_nil, List.map_cons, List.map_nil, reduceIte, Nat.reduceAdd, Nat.reduceSub, Nat.reduceBEq, Nat.reduceEqDiff, Nat.reduceLeDiff, Nat.reduceLT, true_and, and_true, Bool.false_eq_true, reduceCtorEq, if_true, if_false, hc_xx, hc_ofNat, hc_10, not_true_eq_false, not_false_eq_true, ge_iff_le, nb, hb, oIn, nI_1, e1, i1, k1, f1]
    exact I
end S64
