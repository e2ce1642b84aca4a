/-! HotCells.lay -/
section S42
variable {G : hc_G} {σ : hc_H} {t : hc_T} {Q : hc_Q}
/-- edges and points that have been added -/
def Inp (S E P : List (Int × Int)) : Prop := inB S ∧ inB E ∧ inB P ∧ E.length = S.length ∧ S.length ≤ 512 ∧ P.length ≤ 512 ∧ Real S E
theorem sp_lay {S E P N : List (Int × Int)} {Ws : List (List Nat)} {Ps : List (Int × Nat)} (hC : CLS σ S E P N Ws Ps) (hI : Inp S E P)
    (K : ∀ G' σ' N' Ws' Ps', CLS σ' S E P N' Ws' Ps' → Full (hotL S E P S.length) S E N' Ws' Ps' → Lim N' Ws' Ps' → (∀ j, 30 ≤ j → σ' j = σ j) → hc_cr G σ G' σ' → Q G' σ' none (some (.inl (.int (nI Ps'.length)))))
    (Kf : ∀ G' σ', CLS σ' S E P N Ws Ps → NoLay (hotL S E P S.length) S E → (∀ j, 30 ≤ j → σ' j = σ j) → hc_cr G σ G' σ' → Q G' σ' none (some (.inl (.int (-12))))) :
    hc_wp G σ none 24 0 [some (.inl (.ref 0)), none] [] Q := by
  obtain ⟨a, b, o1, o4, o7, o10, lk, oa, oh, ob, og, lg, hab, h0, ⟨h1, p1⟩, ⟨h4, p4⟩, ⟨h7, p7⟩, ⟨h10, p10⟩, ⟨ha, pa⟩, ⟨hh, ph⟩, ⟨hb, pb⟩, ⟨hg, pg⟩⟩ := hC
  obtain ⟨bS, bE, bP, hle, hS, hPl, hR⟩ := hI
  have bH : ∀ q ∈ hotL S E P S.length, inb q.1 q.2 := fun q hq => hotL_in bS bE bP hle hq
  simp only [hm24_0, hm24_1, hc_on_some, hc_get, hc_put, hc_ri, hc_rl, hc_is, hc_row, hc_wr, hc_mov, hc_smi, hc_sml, hc_fv, hc_ld, hc_kd, hc_sto, hc_pre, hc_two, hc_inc, hc_psh, hc_kp, hc_k1, hc_np, hc_bk_rf, hc_bk_gA, hc_set_ap, hc_set_set, Value.category, List.getElem?_cons_zero, List.getElem?_cons_succ, List.set_cons_zero, List.set_cons_succ, List.length_cons, List.length_nil, List.map_cons, List.map_nil, reduceIte, Nat.reduceAdd, Nat.reduceSub, Nat.reduceBEq, Nat.reduceEqDiff, Nat.reduceLeDiff, Nat.reduceLT, true_and, and_true, Bool.false_eq_true, reduceCtorEq, if_true, if_false, hc_xx, hc_ofNat, hc_10, not_true_eq_false, not_false_eq_true, ge_iff_le, h0]
  refine sp_gather h0 h10 p10 h1 p1 h4 p4 h7 p7 bS bE hle hS hPl fun G1 o1' L c pk hs hm ht hf hcr1 => ?_
  dsimp only
  rw [hc_bk_np rfl rfl]
  have nh := nodes_of bH hs hm
  cases c with
  | false =>
    have hf2 := hf rfl
    have K2 := Kf G1 (hc_set σ 10 o1') ⟨a, b, o1, o4, o7, o1', L, oa, oh, ob, og, lg, hab, by rw [hc_set_ne _ _ (by omega)]; exact h0, ⟨by rw [hc_set_ne _ _ (by omega)]; exact h1, p1⟩, ⟨by rw [hc_set_ne _ _ (by omega)]; exact h4, p4⟩, ⟨by rw [hc_set_ne _ _ (by omega)]; exact h7, p7⟩, ⟨hc_set_at _ _ _, pk⟩, ⟨by rw [hc_set_ne _ _ (by omega)]; exact ha, pa⟩, ⟨by rw [hc_set_ne _ _ (by omega)]; exact hh, ph⟩, ⟨by rw [hc_set_ne _ _ (by omega)]; exact hb, pb⟩, ⟨by rw [hc_set_ne _ _ (by omega)]; exact hg, pg⟩⟩ (Or.inl ⟨L.map uk, nh.1, nh.2.1, by rw [List.length_map]; exact hf2⟩) (fun j hj => hc_set_ne _ _ (by omega)) hcr1
    rw [if_neg (by decide)]
    simp only [hm24_4, hm24_7, hm24_9, hc_on_some, hc_get, hc_put, hc_ri, hc_rl, hc_is, hc_row, hc_wr, hc_mov, hc_smi, hc_sml, hc_fv, hc_ld, hc_kd, hc_sto, hc_pre, hc_two, hc_inc, hc_psh, hc_kp, hc_k1, hc_np, hc_bk_rf, hc_bk_gA, hc_set_ap, hc_set_set, Value.category, List.getElem?_cons_zero, List.getElem?_cons_succ, List.set_cons_zero, List.set_cons_succ, List.length_cons, List.length_nil, List.map_cons, List.map_nil, reduceIte, Nat.reduceAdd, Nat.reduceSub, Nat.reduceBEq, Nat.reduceEqDiff, Nat.reduceLeDiff, Nat.reduceLT, true_and, and_true, Bool.false_eq_true, reduceCtorEq, if_true, if_false, hc_xx, hc_ofNat, hc_10, not_true_eq_false, not_false_eq_true, ge_iff_le]
    exact K2
  | true =>
    obtain ⟨hl6, hall⟩ := ht rfl
    have hN : NodesOf (hotL S E P S.length) (L.map uk) := ⟨nh.1, fun q => ⟨fun hq => nh.2.1 q hq, fun hq => nh.2.2.1 hall q hq⟩⟩
    have bN : inB (L.map uk) := fun q hq => bH q ((hN.2 q).mp hq)
    rw [if_pos rfl]
    obtain ⟨wc, wl, cf, ff, cr, fr, pc, c1, f1, c2, f2, c3, f3, eb, d1, d2, d3, d4, d5, d6, d7, d8, d9, d10⟩ := pb
    subst eb
    have h0' : hc_set σ 10 o1' 0 = some (oHC a b) := by rw [hc_set_ne _ _ (by omega)]; exact h0
    have hb' : hc_set σ 10 o1' b = some (oLz (b + 1) wc wl (cf, .inl ff) (cr, .inl fr) pc (c1, .inl f1) (c2, .inl f2) (c3, .inl f3)) := by rw [hc_set_ne _ _ (by omega)]; exact hb
    have hg' : hc_set σ 10 o1' (b + 1) = some og := by rw [hc_set_ne _ _ (by omega)]; exact hg
    have nb10 : ¬ b = 10 := by omega
    have n10b : ¬ 10 = b := by omega
    have n0b : ¬ 0 = b := by omega
    have n0b1 : ¬ 0 = b + 1 := by omega
    have nbb1 : ¬ b = b + 1 := by omega
    have n10b1 : ¬ 10 = b + 1 := by omega
    simp only [hm24_4, hm24_7, hm24_9, hm24_10, hm24_11, hm24_14, hm24_15, hm24_18, hc_on_some, hc_get, hc_put, hc_ri, hc_rl, hc_is, hc_row, hc_wr, hc_mov, hc_smi, hc_sml, hc_fv, hc_ld, hc_kd, hc_sto, hc_pre, hc_two, hc_inc, hc_psh, hc_kp, hc_k1, hc_np, hc_bk_rf, hc_bk_gA, hc_set_ap, hc_set_set, Value.category, List.getElem?_cons_zero, List.getElem?_cons_succ, List.set_cons_zero, List.set_cons_succ, List.length_cons, List.length_nil, List.map_cons, List.map_nil, reduceIte, Nat.reduceAdd, Nat.reduceSub, Nat.reduceBEq, Nat.reduceEqDiff, Nat.reduceLeDiff, Nat.reduceLT, true_and, and_true, Bool.false_eq_true, reduceCtorEq, if_true, if_false, hc_xx, hc_ofNat, hc_10, not_true_eq_false, not_false_eq_true, ge_iff_le, h0, hb, nb10, hc_10]
    refine sp_takeNodes (k := b) (kh := b + 1) nbb1 (Ne.symm n10b1) hb' hg' pg (hc_set_at _ _ _) pk hl6 nh.2.2.2 (by omega) fun G2 oN pN hcr2 => ?_
    dsimp only
    rw [hc_bk_np rfl rfl]
    have e2 : ∀ j, j ≠ 10 → j ≠ b + 1 → hc_set (hc_set σ 10 o1') (b + 1) oN j = σ j := fun j x1 x2 => by rw [hc_set_ne _ _ x2, hc_set_ne _ _ x1]
    have pN' : PLo oN (L.map uk) (L.map uk).length := by
      rw [List.length_map]
      exact pN
    have hb2 := e2 b nb10 nbb1
    rw [hb] at hb2
    have h10_2 : hc_set (hc_set σ 10 o1') (b + 1) oN 10 = some o1' := by rw [hc_set_ne _ _ n10b1, hc_set_at]
    have h02 := e2 0 (by decide) n0b1
    rw [h0] at h02
    have h12 := e2 1 (by decide) (by omega)
    rw [h1] at h12
    have h42 := e2 4 (by decide) (by omega)
    rw [h4] at h42
    have hg2 : hc_set (hc_set σ 10 o1') (b + 1) oN (b + 1) = some oN := hc_set_at _ _ _
    have cA := hcr1.tr hcr2
    clear hcr1 hcr2 hb' hg' h0'
    generalize hτ : hc_set (hc_set σ 10 o1') (b + 1) oN = τ at *
    simp only [hm24_21, hm24_22, hm24_25, hm24_26, hm24_29, hm24_30, hm24_33, hc_on_some, hc_get, hc_put, hc_ri, hc_rl, hc_is, hc_row, hc_wr, hc_mov, hc_smi, hc_sml, hc_fv, hc_ld, hc_kd, hc_sto, hc_pre, hc_two, hc_inc, hc_psh, hc_kp, hc_k1, hc_np, hc_bk_rf, hc_bk_gA, hc_set_ap, hc_set_set, Value.category, List.getElem?_cons_zero, List.getElem?_cons_succ, List.set_cons_zero, List.set_cons_succ, List.length_cons, List.length_nil, List.map_cons, List.map_nil, reduceIte, Nat.reduceAdd, Nat.reduceSub, Nat.reduceBEq, Nat.reduceEqDiff, Nat.reduceLeDiff, Nat.reduceLT, true_and, and_true, Bool.false_eq_true, reduceCtorEq, if_true, if_false, hc_xx, hc_ofNat, hc_10, not_true_eq_false, not_false_eq_true, ge_iff_le, h02, hb2]
    refine sp_takeWays (k := b) (kh := b + 1) nbb1 (by omega) (by omega) (by omega) hb2 d1 d2 d3 d4 hg2 pN' (by rw [List.length_map]; exact hl6) bN (pw_get nh.1) h12 p1 h42 p4 bS bE hle hS (fun G3 cf3 ff3 cr3 fr3 Ws3 w1 w2 w3 w4 w5 w6 w7 w8 w9 w10 w11 hcr3 => ?_) (fun G3 wc3 wl3 cf3 ff3 cr3 fr3 w1 w2 w3 w4 w5 w6 hcr3 => ?_)
    · dsimp only
      rw [hc_bk_np rfl rfl]
      have hWs6 : ∀ v ∈ Ws3.flatten, v < 6000 := by
        intro v hv
        obtain ⟨W, hW, hvW⟩ := List.mem_flatten.mp hv
        obtain ⟨i, hi, e⟩ := List.getElem_of_mem hW
        have hw := w2 i hi
        rw [e] at hw
        have := Bn_lt (hw.1.mem_iff.mp hvW)
        rw [List.length_map] at this
        omega
      have hne : ∀ W ∈ Ws3, 0 < W.length := by
        intro W hW
        obtain ⟨i, hi, e⟩ := List.getElem_of_mem hW
        have hw := w2 i hi
        rw [e] at hw
        exact way_ne hN hR (by omega) hw
      have hfl := flat_ne hne
      have hst : (Ws3.flatMap stl).length ≤ 20000 := by
        refine Nat.le_of_add_le_add_right (b := Ws3.length) ?_
        rw [hfl, w1, Nat.add_comm]
        exact w11
      have hkb : ∀ v ∈ Ws3.flatMap stl, 0 ≤ v ∧ v < 36000000 := by
        intro v hv
        obtain ⟨W, hW, hv2⟩ := List.mem_flatMap.mp hv
        unfold stl skl at hv2
        obtain ⟨j, -, e⟩ := List.mem_map.mp hv2
        have g : ∀ j : Nat, (W[j]?.getD (0 : Nat)) < 6000 := by
          intro j
          by_cases hj : j < W.length
          · rw [List.getElem?_eq_getElem hj]
            exact hWs6 _ (List.mem_flatten.mpr ⟨W, hW, List.getElem_mem hj⟩)
          · rw [List.getElem?_eq_none (by omega)]
            decide
        have g1 := g j
        have g2 := g (j + 1)
        rw [← e]
        unfold sk stk
        omega
      rw [← w1] at hcr3 ⊢
      rw [← w1] at w5
      have e3 : ∀ o j, j ≠ 10 → j ≠ b + 1 → j ≠ b → hc_set τ b o j = σ j := fun o j x1 x2 x3 => by rw [hc_set_ne _ _ x3]; exact e2 j x1 x2
      have h03 := e3 (oLz (b + 1) Ws3.length Ws3.flatten.length (cf3, .inl ff3) (cr3, .inl fr3) pc (c1, .inl f1) (c2, .inl f2) (c3, .inl f3)) 0 (by decide) n0b1 n0b
      rw [h0] at h03
      have h103 : hc_set τ b (oLz (b + 1) Ws3.length Ws3.flatten.length (cf3, .inl ff3) (cr3, .inl fr3) pc (c1, .inl f1) (c2, .inl f2) (c3, .inl f3)) 10 = some o1' := by rw [hc_set_ne _ _ n10b]; exact h10_2
      simp only [hm24_36, hm24_39, hm24_41, hm24_42, hm24_43, hm24_46, hm24_47, hm24_50, hc_on_some, hc_get, hc_put, hc_ri, hc_rl, hc_is, hc_row, hc_wr, hc_mov, hc_smi, hc_sml, hc_fv, hc_ld, hc_kd, hc_sto, hc_pre, hc_two, hc_inc, hc_psh, hc_kp, hc_k1, hc_np, hc_bk_rf, hc_bk_gA, hc_set_ap, hc_set_set, Value.category, List.getElem?_cons_zero, List.getElem?_cons_succ, List.set_cons_zero, List.set_cons_succ, List.length_cons, List.length_nil, List.map_cons, List.map_nil, reduceIte, Nat.reduceAdd, Nat.reduceSub, Nat.reduceBEq, Nat.reduceEqDiff, Nat.reduceLeDiff, Nat.reduceLT, true_and, and_true, Bool.false_eq_true, reduceCtorEq, if_true, if_false, hc_xx, hc_ofNat, hc_10, not_true_eq_false, not_false_eq_true, ge_iff_le, n0b, h02, h03]
      refine sp_listSteps (k := b) nb10 (hc_set_at _ _ _) w5 (by omega) w10 (by omega) w3 w4 hWs6 hst h103 pk fun G4 o4' L4 p4' hp4 hs4 hcr4 => ?_
      dsimp only
      rw [hc_bk_np rfl rfl]
      simp only [hm24_53, hm24_54, hm24_57, hm24_58, hm24_61, hc_on_some, hc_get, hc_put, hc_ri, hc_rl, hc_is, hc_row, hc_wr, hc_mov, hc_smi, hc_sml, hc_fv, hc_ld, hc_kd, hc_sto, hc_pre, hc_two, hc_inc, hc_psh, hc_kp, hc_k1, hc_np, hc_bk_rf, hc_bk_gA, hc_set_ap, hc_set_set, Value.category, List.getElem?_cons_zero, List.getElem?_cons_succ, List.set_cons_zero, List.set_cons_succ, List.length_cons, List.length_nil, List.map_cons, List.map_nil, reduceIte, Nat.reduceAdd, Nat.reduceSub, Nat.reduceBEq, Nat.reduceEqDiff, Nat.reduceLeDiff, Nat.reduceLT, true_and, and_true, Bool.false_eq_true, reduceCtorEq, if_true, if_false, hc_xx, hc_ofNat, hc_10, not_true_eq_false, not_false_eq_true, ge_iff_le, n0b, n10b, nb10, h02, hc_10]
      have e4 : ∀ o o' j, j ≠ 10 → j ≠ b + 1 → j ≠ b → hc_set (hc_set τ b o) 10 o' j = σ j := fun o o' j x1 x2 x3 => by rw [hc_set_ne _ _ x1]; exact e3 o j x1 x2 x3
      have hPc := (rle_pc hs4).perm hp4
      have hFull : Full (hotL S E P S.length) S E (L.map uk) Ws3 (rle L4) := ⟨hN, w1, w2, hPc⟩
      have hkb4 : ∀ v ∈ L4, 0 ≤ v ∧ v < 36000000 := fun v hv => hkb v (hp4.mem_iff.mp hv)
      refine sp_takePieces (k := b) nb10 (by omega) (by rw [hc_set_ne _ _ nb10, hc_set_at]) (hc_set_at _ _ _) p4' hkb4 d5 d6 d7 d8 d9 d10 (fun hbig => ?_) (fun hok G5 x1 y1 x2 y2 x3 y3 b1 b2 b3 b4 b5 b6 b7 b8 b9 hCP hcr5 => ?_)
      · dsimp only
        rw [hc_bk_np rfl rfl]
        have K2 := Kf G4 _ ⟨a, b, o1, o4, o7, o4', L4, oa, oh, oLz (b + 1) Ws3.length Ws3.flatten.length (cf3, .inl ff3) (cr3, .inl fr3) pc (c1, .inl f1) (c2, .inl f2) (c3, .inl f3), oN, L.map uk, hab, by rw [e4 _ _ _ (by omega) (by omega) (by omega)]; exact h0, ⟨by rw [e4 _ _ _ (by omega) (by omega) (by omega)]; exact h1, p1⟩, ⟨by rw [e4 _ _ _ (by omega) (by omega) (by omega)]; exact h4, p4⟩, ⟨by rw [e4 _ _ _ (by omega) (by omega) (by omega)]; exact h7, p7⟩, ⟨hc_set_at _ _ _, p4'⟩, ⟨by rw [e4 _ _ _ (by omega) (by omega) (by omega)]; exact ha, pa⟩, ⟨by rw [e4 _ _ _ (by omega) (by omega) (by omega)]; exact hh, ph⟩, ⟨by rw [hc_set_ne _ _ nb10]; exact hc_set_at _ _ _, ⟨_, _, cf3, ff3, cr3, fr3, pc, c1, f1, c2, f2, c3, f3, rfl, w6, w7, w9, w10, d5, d6, d7, d8, d9, d10⟩⟩, ⟨by rw [hc_set_ne _ _ (Ne.symm n10b1), hc_set_ne _ _ (by omega)]; exact hg2, pN'⟩⟩ (Or.inr (Or.inr ⟨L.map uk, Ws3, rle L4, hFull, hbig⟩)) (fun j hj => e4 _ _ j (by omega) (by omega) (by omega)) ((cA.tr hcr3).tr hcr4)
        simp only [hm24_64, hm24_67, hm24_69, hc_on_some, hc_get, hc_put, hc_ri, hc_rl, hc_is, hc_row, hc_wr, hc_mov, hc_smi, hc_sml, hc_fv, hc_ld, hc_kd, hc_sto, hc_pre, hc_two, hc_inc, hc_psh, hc_kp, hc_k1, hc_np, hc_bk_rf, hc_bk_gA, hc_set_ap, hc_set_set, Value.category, List.getElem?_cons_zero, List.getElem?_cons_succ, List.set_cons_zero, List.set_cons_succ, List.length_cons, List.length_nil, List.map_cons, List.map_nil, reduceIte, Nat.reduceAdd, Nat.reduceSub, Nat.reduceBEq, Nat.reduceEqDiff, Nat.reduceLeDiff, Nat.reduceLT, true_and, and_true, Bool.false_eq_true, reduceCtorEq, if_true, if_false, hc_xx, hc_ofNat, hc_10, not_true_eq_false, not_false_eq_true, ge_iff_le]
        exact K2
      · dsimp only
        rw [hc_bk_np rfl rfl]
        have hcr6 := ((cA.tr hcr3).tr hcr4).tr hcr5
        have nbb : ¬ b = 0 := by omega
        simp only [hm24_64, hm24_67, hm24_69, hm24_70, hm24_71, hm24_74, hm24_74p, hm24_75, hm24_76, hm24_77, hm24_80, hm24_83, hm24_84, hm24_85, hm24_88, hm24_89, hm24_92, hm24_95, hc_on_some, hc_get, hc_put, hc_ri, hc_rl, hc_is, hc_row, hc_wr, hc_mov, hc_smi, hc_sml, hc_fv, hc_ld, hc_kd, hc_sto, hc_pre, hc_two, hc_inc, hc_psh, hc_kp, hc_k1, hc_np, hc_bk_rf, hc_bk_gA, hc_set_ap, hc_set_set, Value.category, List.getElem?_cons_zero, List.getElem?_cons_succ, List.set_cons_zero, List.set_cons_succ, List.length_cons, List.length_nil, List.map_cons, List.map_nil, reduceIte, Nat.reduceAdd, Nat.reduceSub, Nat.reduceBEq, Nat.reduceEqDiff, Nat.reduceLeDiff, Nat.reduceLT, true_and, and_true, Bool.false_eq_true, reduceCtorEq, if_true, if_false, hc_xx, hc_ofNat, hc_10, not_true_eq_false, not_false_eq_true, ge_iff_le, n0b, nbb, hc_10, n10b, nb10, h02]
        have e5 : ∀ o o' o2 j, j ≠ 10 → j ≠ b + 1 → j ≠ b → hc_set (hc_set (hc_set τ b o) 10 o') b o2 j = σ j := fun o o' o2 j x1 x2 x3 => by rw [hc_set_ne _ _ x3]; exact e4 o o' j x1 x2 x3
        have e6 : ∀ o o' o2 o3 j, j ≠ 10 → j ≠ b + 1 → j ≠ b → j ≠ 0 → hc_set (hc_set (hc_set (hc_set τ b o) 10 o') b o2) 0 o3 j = σ j := fun o o' o2 o3 j x1 x2 x3 x4 => by rw [hc_set_ne _ _ x4]; exact e5 o o' o2 j x1 x2 x3
        have h05 := e5 (oLz (b + 1) Ws3.length Ws3.flatten.length (cf3, .inl ff3) (cr3, .inl fr3) pc (c1, .inl f1) (c2, .inl f2) (c3, .inl f3)) o4' (oLz (b + 1) Ws3.length Ws3.flatten.length (cf3, .inl ff3) (cr3, .inl fr3) (rle L4).length (x1, .inl y1) (x2, .inl y2) (x3, .inl y3)) 0 (by decide) n0b1 n0b
        rw [h0] at h05
        have hcr7 := hcr6.tr (hc_cr.same (G := G5) (o := oHC b a) (by decide) h05 rfl)
        exact K G5 _ (L.map uk) Ws3 (rle L4) ⟨b, a, o1, o4, o7, o4', L4, oLz (b + 1) Ws3.length Ws3.flatten.length (cf3, .inl ff3) (cr3, .inl fr3) (rle L4).length (x1, .inl y1) (x2, .inl y2) (x3, .inl y3), oN, oa, oh, N, by omega, hc_set_at _ _ _, ⟨by rw [e6 _ _ _ _ _ (by omega) (by omega) (by omega) (by omega)]; exact h1, p1⟩, ⟨by rw [e6 _ _ _ _ _ (by omega) (by omega) (by omega) (by omega)]; exact h4, p4⟩, ⟨by rw [e6 _ _ _ _ _ (by omega) (by omega) (by omega) (by omega)]; exact h7, p7⟩, ⟨by rw [hc_set_ne _ _ (by decide), hc_set_ne _ _ n10b]; exact hc_set_at _ _ _, p4'⟩, ⟨by rw [hc_set_ne _ _ nbb]; exact hc_set_at _ _ _, ⟨cf3, ff3, cr3, fr3, x1, y1, x2, y2, x3, y3, rfl, ⟨w6, w7, w9, w10, b1, b2, b3, b4, b5, b6⟩, by omega, w8, b7, b8, b9, w3, w4, hCP⟩⟩, ⟨by rw [hc_set_ne _ _ (by omega), hc_set_ne _ _ (by omega), hc_set_ne _ _ (by omega), hc_set_ne _ _ (by omega)]; exact hg2, pN'⟩, ⟨by rw [e6 _ _ _ _ _ (by omega) (by omega) (by omega) (by omega)]; exact ha, pa.d⟩, ⟨by rw [e6 _ _ _ _ _ (by omega) (by omega) (by omega) (by omega)]; exact hh, ph⟩⟩ hFull ⟨by rw [List.length_map]; exact hl6, hst, hok⟩ (fun j hj => e6 _ _ _ _ j (by omega) (by omega) (by omega) (by omega)) hcr7
    · dsimp only
      rw [hc_bk_np rfl rfl]
      have e3 : ∀ o j, j ≠ 10 → j ≠ b + 1 → j ≠ b → hc_set τ b o j = σ j := fun o j x1 x2 x3 => by rw [hc_set_ne _ _ x3]; exact e2 j x1 x2
      have K2 := Kf G3 _ ⟨a, b, o1, o4, o7, o1', L, oa, oh, oLz (b + 1) wc3 wl3 (cf3, .inl ff3) (cr3, .inl fr3) pc (c1, .inl f1) (c2, .inl f2) (c3, .inl f3), oN, L.map uk, hab, by rw [e3 _ _ (by omega) (by omega) (by omega)]; exact h0, ⟨by rw [e3 _ _ (by omega) (by omega) (by omega)]; exact h1, p1⟩, ⟨by rw [e3 _ _ (by omega) (by omega) (by omega)]; exact h4, p4⟩, ⟨by rw [e3 _ _ (by omega) (by omega) (by omega)]; exact h7, p7⟩, ⟨by rw [hc_set_ne _ _ n10b]; exact h10_2, pk⟩, ⟨by rw [e3 _ _ (by omega) (by omega) (by omega)]; exact ha, pa⟩, ⟨by rw [e3 _ _ (by omega) (by omega) (by omega)]; exact hh, ph⟩, ⟨hc_set_at _ _ _, ⟨wc3, wl3, cf3, ff3, cr3, fr3, pc, c1, f1, c2, f2, c3, f3, rfl, w1, w2, w4, w5, d5, d6, d7, d8, d9, d10⟩⟩, ⟨by rw [hc_set_ne _ _ (by omega)]; exact hg2, pN'⟩⟩ (Or.inr (Or.inl ⟨L.map uk, hN, w6⟩)) (fun j hj => e3 _ j (by omega) (by omega) (by omega)) (cA.tr hcr3)
      simp only [hm24_36, hm24_39, hm24_41, hc_on_some, hc_get, hc_put, hc_ri, hc_rl, hc_is, hc_row, hc_wr, hc_mov, hc_smi, hc_sml, hc_fv, hc_ld, hc_kd, hc_sto, hc_pre, hc_two, hc_inc, hc_psh, hc_kp, hc_k1, hc_np, hc_bk_rf, hc_bk_gA, hc_set_ap, hc_set_set, Value.category, List.getElem?_cons_zero, List.getElem?_cons_succ, List.set_cons_zero, List.set_cons_succ, List.length_cons, List.length_nil, List.map_cons, List.map_nil, reduceIte, Nat.reduceAdd, Nat.reduceSub, Nat.reduceBEq, Nat.reduceEqDiff, Nat.reduceLeDiff, Nat.reduceLT, true_and, and_true, Bool.false_eq_true, reduceCtorEq, if_true, if_false, hc_xx, hc_ofNat, hc_10, not_true_eq_false, not_false_eq_true, ge_iff_le]
      exact K2
end S42
