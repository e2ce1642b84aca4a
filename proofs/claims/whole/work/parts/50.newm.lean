/-! the reference's object: what it holds; how it is made -/
abbrev hc_Cl : Type := Int64 × Int64 × Int64 × Int64 × Int32 × Int32
abbrev oMd (h p w b h' p' w' b' : Nat) (rt : hc_R) (q : hc_Cl) : hc_O := (6, [.inl (.ref 31), .inl (.ref 33), .inl (.ref h), .inl (.ref p), .inr rt, .inl (.ref w), .inl (.ref b), .inl (.ref h'), .inl (.ref p'), .inl (.ref w'), .inl (.ref b'), .inl (.ref 52), .inl (.long q.1), .inl (.long q.2.1), .inl (.long q.2.2.1), .inl (.long q.2.2.2.1), .inl (.int q.2.2.2.2.1), .inl (.int q.2.2.2.2.2)])
def MHp (h p w b h' p' w' b' : Nat) : Prop := (h = 35 ∧ p = 37 ∧ w = 40 ∧ b = 42 ∧ h' = 44 ∧ p' = 46 ∧ w' = 48 ∧ b' = 50) ∨ (h = 44 ∧ p = 46 ∧ w = 48 ∧ b = 50 ∧ h' = 35 ∧ p' = 37 ∧ w' = 40 ∧ b' = 42)
def EL (l : List Int) (S E : List (Int × Int)) : Prop := l.length = 4 * S.length ∧ ∀ i, i < S.length → l[4 * i]? = some (edz S E i).1 ∧ l[4 * i + 1]? = some (edz S E i).2.1 ∧ l[4 * i + 2]? = some (edz S E i).2.2.1 ∧ l[4 * i + 3]? = some (edz S E i).2.2.2
def PTs (l : List Int) (P : List (Int × Int)) : Prop := l.length = 2 * P.length ∧ ∀ i, i < P.length → l[2 * i]? = some (nd P i).1 ∧ l[2 * i + 1]? = some (nd P i).2
abbrev kN (N : List (Int × Int)) : List Int := N.map fun q => kxy q.1 q.2
abbrev kP (Ps : List (Int × Nat)) : List Int := Ps.map fun q => kxy (q.1 / 6000) (q.1 % 6000)
def TM (ct : Nat) (ft : Nat → Int32) (Ps : List (Int × Nat)) : Prop := Ps.length ≤ ct ∧ ∀ j (hj : j < Ps.length), ft j = nI Ps[j].2
def BG (l : List Int) (Ws : List (List Nat)) : Prop := (l = [] ∧ Ws = []) ∨ (l.length = Ws.length + 1 ∧ ∀ i, i ≤ Ws.length → l[i]? = some ((Ws.take i).flatten.length : Int))
abbrev nat2 (l : List Nat) : List Int := l.map (fun (v : Nat) => (v : Int))
def inI (σ : hc_H) (k : Nat) (l : List Int) (C : Nat) : Prop := ∃ o, σ k = some o ∧ INo o l C
def inM (σ : hc_H) (k : Nat) (l : List Int) (C : Nat) : Prop := ∃ o, σ k = some o ∧ MPo o l C
/-- the reference's object and all that is reached from it -/
def MOD (σ : hc_H) (S E P N : List (Int × Int)) (Ws : List (List Nat)) (Ps : List (Int × Nat)) : Prop := ∃ h p w b h' p' w' b' ct ft q, MHp h p w b h' p' w' b' ∧ σ 30 = some (oMd h p w b h' p' w' b' (ct, .inl ft) q) ∧ ct ≤ 9000 ∧ TM ct ft Ps ∧ (∃ l, inI σ 31 l 4096 ∧ EL l S E) ∧ (∃ l, inI σ 33 l 2048 ∧ PTs l P) ∧ inM σ h (kN N) 36002 ∧ inM σ p (kP Ps) 40000 ∧ inI σ w (nat2 Ws.flatten) 53248 ∧ (∃ l, inI σ b l 1100 ∧ BG l Ws) ∧ (∃ l, inM σ h' l 36002) ∧ (∃ l, inM σ p' l 40000) ∧ (∃ l, inI σ w' l 53248) ∧ (∃ l, inI σ b' l 1100) ∧ ∃ l, inI σ 52 l 12000
/-- none of the reference's objects -/
def mob (j : Nat) : Prop := j ≠ 30 ∧ j ≠ 31 ∧ j ≠ 33 ∧ j ≠ 35 ∧ j ≠ 37 ∧ j ≠ 40 ∧ j ≠ 42 ∧ j ≠ 44 ∧ j ≠ 46 ∧ j ≠ 48 ∧ j ≠ 50 ∧ j ≠ 52
section S50
variable {G : hc_G} {σ : hc_H} {t : hc_T} {Q : hc_Q}
theorem sp_new4 {k n : Nat} (hn : G.2.1 = n) (h : σ k = some (4, hc_dfl4)) (K : ∀ G', G'.2.1 = n + 1 → G'.2.2.1 = G.2.2.1 + 64 → Q G' (hc_set σ k (oIn 0 64 (fun _ => 0))) none none) : hc_wp G σ none 40 0 [some (.inl (.ref k))] [] Q := by
  have e1 : ¬ (64 : Int32) < 0 := by decide
  have e2 : (64 : Int32).toNatClampNeg = 64 := by decide
  have K2 := K (hc_gM (hc_gA G 64) k 0) (by simp only [hc_gA, hc_gM]; omega) (by simp only [hc_gA, hc_gM])
  simp only [oIn, nI_0] at K2
  simp only [hma40, hc_on_some, hc_get, hc_put, hc_ri, hc_rl, hc_is, hc_row, hc_wr, hc_mov, hc_smi, hc_sml, hc_fv, hc_ld, hc_kd, hc_sto, hc_pre, hc_two, hc_inc, hc_psh, hc_kp, hc_k1, hc_np, hc_bk_rf, hc_bk_gA, hc_set_ap, hc_set_set, Value.category, List.getElem?_cons_zero, List.getElem?_cons_succ, List.set_cons_zero, List.set_cons_succ, List.length_cons, List.length_nil, List.map_cons, List.map_nil, reduceIte, Nat.reduceAdd, Nat.reduceSub, Nat.reduceBEq, Nat.reduceEqDiff, Nat.reduceLeDiff, Nat.reduceLT, true_and, and_true, Bool.false_eq_true, reduceCtorEq, if_true, if_false, hc_xx, hc_ofNat, hc_10, not_true_eq_false, not_false_eq_true, ge_iff_le, h, hc_dfl4, e1, e2, hc_nt, List.all_cons, List.all_nil, Bool.and_true, Bool.true_and, Nat.zero_le]
  exact K2
theorem sp_new5 {k n : Nat} (hn : G.2.1 = n) (h : σ k = some (5, hc_dfl5)) (K : ∀ G', G'.2.1 = n + 1 → G'.2.2.1 = G.2.2.1 + 64 → Q G' (hc_set σ k (oMp 0 64 (fun _ => 0))) none none) : hc_wp G σ none 43 0 [some (.inl (.ref k))] [] Q := by
  have e1 : ¬ (64 : Int32) < 0 := by decide
  have e2 : (64 : Int32).toNatClampNeg = 64 := by decide
  have K2 := K (hc_gM (hc_gA G 64) k 0) (by simp only [hc_gA, hc_gM]; omega) (by simp only [hc_gA, hc_gM])
  simp only [oMp, nI_0] at K2
  simp only [hma43, hc_on_some, hc_get, hc_put, hc_ri, hc_rl, hc_is, hc_row, hc_wr, hc_mov, hc_smi, hc_sml, hc_fv, hc_ld, hc_kd, hc_sto, hc_pre, hc_two, hc_inc, hc_psh, hc_kp, hc_k1, hc_np, hc_bk_rf, hc_bk_gA, hc_set_ap, hc_set_set, Value.category, List.getElem?_cons_zero, List.getElem?_cons_succ, List.set_cons_zero, List.set_cons_succ, List.length_cons, List.length_nil, List.map_cons, List.map_nil, reduceIte, Nat.reduceAdd, Nat.reduceSub, Nat.reduceBEq, Nat.reduceEqDiff, Nat.reduceLeDiff, Nat.reduceLT, true_and, and_true, Bool.false_eq_true, reduceCtorEq, if_true, if_false, hc_xx, hc_ofNat, hc_10, not_true_eq_false, not_false_eq_true, ge_iff_le, h, hc_dfl5, e1, e2, hc_nt, List.all_cons, List.all_nil, Bool.and_true, Bool.true_and, Nat.zero_le]
  exact K2
theorem in_new {C : Nat} (hC : 64 ≤ C) : INo (oIn 0 64 (fun _ => 0)) [] C := ⟨64, _, rfl, by simp, by omega, hC, fun i v hi => by simp at hi⟩
theorem mp_new {C : Nat} (hC : 64 ≤ C) : MPo (oMp 0 64 (fun _ => 0)) [] C := ⟨64, _, rfl, by simp, by omega, hC, fun i v hi => by simp at hi⟩
theorem sp_newM (hn : G.2.1 = 31) (h : σ 30 = some (6, hc_dfl6)) (K : ∀ G' σ', MOD σ' [] [] [] [] [] [] → (∀ j, mob j → σ' j = σ j) → G'.2.1 = 54 → G'.2.2.1 = G.2.2.1 + 726 → Q G' σ' none none) : hc_wp G σ none 57 0 [some (.inl (.ref 30))] [] Q := by
  simp only [hm57_0, hm57_1, hm57_4, hm57_5, hm57_8, hm57_9, hc_on_some, hc_get, hc_put, hc_ri, hc_rl, hc_is, hc_row, hc_wr, hc_mov, hc_smi, hc_sml, hc_fv, hc_ld, hc_kd, hc_sto, hc_pre, hc_two, hc_inc, hc_psh, hc_kp, hc_k1, hc_np, hc_bk_rf, hc_bk_gA, hc_set_ap, hc_set_set, Value.category, List.getElem?_cons_zero, List.getElem?_cons_succ, List.set_cons_zero, List.set_cons_succ, List.length_cons, List.length_nil, List.map_cons, List.map_nil, reduceIte, Nat.reduceAdd, Nat.reduceSub, Nat.reduceBEq, Nat.reduceEqDiff, Nat.reduceLeDiff, Nat.reduceLT, true_and, and_true, Bool.false_eq_true, reduceCtorEq, if_true, if_false, hc_xx, hc_ofNat, hc_10, not_true_eq_false, not_false_eq_true, ge_iff_le, hn, h, hc_dfl6]
  refine sp_new4 (gO_1 hn) (hc_set_at _ _ _) fun G1 g1 s1 => ?_
  rw [hc_set_set]
  dsimp only
  rw [hc_bk_np rfl rfl]
  simp only [hm57_12, hm57_15, hm57_16, hm57_19, hm57_20, hc_on_some, hc_get, hc_put, hc_ri, hc_rl, hc_is, hc_row, hc_wr, hc_mov, hc_smi, hc_sml, hc_fv, hc_ld, hc_kd, hc_sto, hc_pre, hc_two, hc_inc, hc_psh, hc_kp, hc_k1, hc_np, hc_bk_rf, hc_bk_gA, hc_set_ap, hc_set_set, Value.category, List.getElem?_cons_zero, List.getElem?_cons_succ, List.set_cons_zero, List.set_cons_succ, List.length_cons, List.length_nil, List.map_cons, List.map_nil, reduceIte, Nat.reduceAdd, Nat.reduceSub, Nat.reduceBEq, Nat.reduceEqDiff, Nat.reduceLeDiff, Nat.reduceLT, true_and, and_true, Bool.false_eq_true, reduceCtorEq, if_true, if_false, hc_xx, hc_ofNat, hc_10, not_true_eq_false, not_false_eq_true, ge_iff_le, g1, h, hc_dfl6]
  refine sp_new4 (gO_1 g1) (hc_set_at _ _ _) fun G2 g2 s2 => ?_
  rw [hc_set_set]
  dsimp only
  rw [hc_bk_np rfl rfl]
  simp only [hm57_23, hm57_26, hm57_27, hm57_30, hm57_31, hc_on_some, hc_get, hc_put, hc_ri, hc_rl, hc_is, hc_row, hc_wr, hc_mov, hc_smi, hc_sml, hc_fv, hc_ld, hc_kd, hc_sto, hc_pre, hc_two, hc_inc, hc_psh, hc_kp, hc_k1, hc_np, hc_bk_rf, hc_bk_gA, hc_set_ap, hc_set_set, Value.category, List.getElem?_cons_zero, List.getElem?_cons_succ, List.set_cons_zero, List.set_cons_succ, List.length_cons, List.length_nil, List.map_cons, List.map_nil, reduceIte, Nat.reduceAdd, Nat.reduceSub, Nat.reduceBEq, Nat.reduceEqDiff, Nat.reduceLeDiff, Nat.reduceLT, true_and, and_true, Bool.false_eq_true, reduceCtorEq, if_true, if_false, hc_xx, hc_ofNat, hc_10, not_true_eq_false, not_false_eq_true, ge_iff_le, g2, h, hc_dfl6]
  refine sp_new5 (gO_1 g2) (hc_set_at _ _ _) fun G3 g3 s3 => ?_
  rw [hc_set_set]
  dsimp only
  rw [hc_bk_np rfl rfl]
  simp only [hm57_34, hm57_37, hm57_38, hm57_41, hm57_42, hc_on_some, hc_get, hc_put, hc_ri, hc_rl, hc_is, hc_row, hc_wr, hc_mov, hc_smi, hc_sml, hc_fv, hc_ld, hc_kd, hc_sto, hc_pre, hc_two, hc_inc, hc_psh, hc_kp, hc_k1, hc_np, hc_bk_rf, hc_bk_gA, hc_set_ap, hc_set_set, Value.category, List.getElem?_cons_zero, List.getElem?_cons_succ, List.set_cons_zero, List.set_cons_succ, List.length_cons, List.length_nil, List.map_cons, List.map_nil, reduceIte, Nat.reduceAdd, Nat.reduceSub, Nat.reduceBEq, Nat.reduceEqDiff, Nat.reduceLeDiff, Nat.reduceLT, true_and, and_true, Bool.false_eq_true, reduceCtorEq, if_true, if_false, hc_xx, hc_ofNat, hc_10, not_true_eq_false, not_false_eq_true, ge_iff_le, g3, h, hc_dfl6]
  refine sp_new5 (gO_1 g3) (hc_set_at _ _ _) fun G4 g4 s4 => ?_
  rw [hc_set_set]
  dsimp only
  rw [hc_bk_np rfl rfl]
  have z1 : ¬ (0 : Int32) < 0 := by decide
  have z2 : (0 : Int32).toNatClampNeg = 0 := by decide
  simp only [hm57_45, hm57_48, hm57_49, hm57_50, hm57_52t, hm57_52s, hc_on_some, hc_get, hc_put, hc_ri, hc_rl, hc_is, hc_row, hc_wr, hc_mov, hc_smi, hc_sml, hc_fv, hc_ld, hc_kd, hc_sto, hc_pre, hc_two, hc_inc, hc_psh, hc_kp, hc_k1, hc_np, hc_bk_rf, hc_bk_gA, hc_set_ap, hc_set_set, Value.category, List.getElem?_cons_zero, List.getElem?_cons_succ, List.set_cons_zero, List.set_cons_succ, List.length_cons, List.length_nil, List.map_cons, List.map_nil, reduceIte, Nat.reduceAdd, Nat.reduceSub, Nat.reduceBEq, Nat.reduceEqDiff, Nat.reduceLeDiff, Nat.reduceLT, true_and, and_true, Bool.false_eq_true, reduceCtorEq, if_true, if_false, hc_xx, hc_ofNat, hc_10, not_true_eq_false, not_false_eq_true, ge_iff_le, g4, h, hc_dfl6, z1, z2, hc_nt, List.all_cons, List.all_nil, Bool.and_true, Bool.true_and, Nat.zero_le]
  have g5 : (hc_gM (hc_gA G4 0) 30 4).2.1 = 40 := by
    simp only [hc_gA, hc_gM]
    omega
  have s5 : (hc_gM (hc_gA G4 0) 30 4).2.2.1 = G4.2.2.1 := rfl
  generalize hc_gM (hc_gA G4 0) 30 4 = G5 at *
  simp only [hm57_55, hm57_56, hm57_59, hm57_60, hc_on_some, hc_get, hc_put, hc_ri, hc_rl, hc_is, hc_row, hc_wr, hc_mov, hc_smi, hc_sml, hc_fv, hc_ld, hc_kd, hc_sto, hc_pre, hc_two, hc_inc, hc_psh, hc_kp, hc_k1, hc_np, hc_bk_rf, hc_bk_gA, hc_set_ap, hc_set_set, Value.category, List.getElem?_cons_zero, List.getElem?_cons_succ, List.set_cons_zero, List.set_cons_succ, List.length_cons, List.length_nil, List.map_cons, List.map_nil, reduceIte, Nat.reduceAdd, Nat.reduceSub, Nat.reduceBEq, Nat.reduceEqDiff, Nat.reduceLeDiff, Nat.reduceLT, true_and, and_true, Bool.false_eq_true, reduceCtorEq, if_true, if_false, hc_xx, hc_ofNat, hc_10, not_true_eq_false, not_false_eq_true, ge_iff_le, g5, h, hc_dfl6]
  refine sp_new4 (gO_1 g5) (hc_set_at _ _ _) fun G6 g6 s6 => ?_
  rw [hc_set_set]
  dsimp only
  rw [hc_bk_np rfl rfl]
  simp only [hm57_63, hm57_66, hm57_67, hm57_70, hm57_71, hc_on_some, hc_get, hc_put, hc_ri, hc_rl, hc_is, hc_row, hc_wr, hc_mov, hc_smi, hc_sml, hc_fv, hc_ld, hc_kd, hc_sto, hc_pre, hc_two, hc_inc, hc_psh, hc_kp, hc_k1, hc_np, hc_bk_rf, hc_bk_gA, hc_set_ap, hc_set_set, Value.category, List.getElem?_cons_zero, List.getElem?_cons_succ, List.set_cons_zero, List.set_cons_succ, List.length_cons, List.length_nil, List.map_cons, List.map_nil, reduceIte, Nat.reduceAdd, Nat.reduceSub, Nat.reduceBEq, Nat.reduceEqDiff, Nat.reduceLeDiff, Nat.reduceLT, true_and, and_true, Bool.false_eq_true, reduceCtorEq, if_true, if_false, hc_xx, hc_ofNat, hc_10, not_true_eq_false, not_false_eq_true, ge_iff_le, g6, h, hc_dfl6]
  refine sp_new4 (gO_1 g6) (hc_set_at _ _ _) fun G7 g7 s7 => ?_
  rw [hc_set_set]
  dsimp only
  rw [hc_bk_np rfl rfl]
  simp only [hm57_74, hm57_77, hm57_78, hm57_81, hm57_82, hc_on_some, hc_get, hc_put, hc_ri, hc_rl, hc_is, hc_row, hc_wr, hc_mov, hc_smi, hc_sml, hc_fv, hc_ld, hc_kd, hc_sto, hc_pre, hc_two, hc_inc, hc_psh, hc_kp, hc_k1, hc_np, hc_bk_rf, hc_bk_gA, hc_set_ap, hc_set_set, Value.category, List.getElem?_cons_zero, List.getElem?_cons_succ, List.set_cons_zero, List.set_cons_succ, List.length_cons, List.length_nil, List.map_cons, List.map_nil, reduceIte, Nat.reduceAdd, Nat.reduceSub, Nat.reduceBEq, Nat.reduceEqDiff, Nat.reduceLeDiff, Nat.reduceLT, true_and, and_true, Bool.false_eq_true, reduceCtorEq, if_true, if_false, hc_xx, hc_ofNat, hc_10, not_true_eq_false, not_false_eq_true, ge_iff_le, g7, h, hc_dfl6]
  refine sp_new5 (gO_1 g7) (hc_set_at _ _ _) fun G8 g8 s8 => ?_
  rw [hc_set_set]
  dsimp only
  rw [hc_bk_np rfl rfl]
  simp only [hm57_85, hm57_88, hm57_89, hm57_92, hm57_93, hc_on_some, hc_get, hc_put, hc_ri, hc_rl, hc_is, hc_row, hc_wr, hc_mov, hc_smi, hc_sml, hc_fv, hc_ld, hc_kd, hc_sto, hc_pre, hc_two, hc_inc, hc_psh, hc_kp, hc_k1, hc_np, hc_bk_rf, hc_bk_gA, hc_set_ap, hc_set_set, Value.category, List.getElem?_cons_zero, List.getElem?_cons_succ, List.set_cons_zero, List.set_cons_succ, List.length_cons, List.length_nil, List.map_cons, List.map_nil, reduceIte, Nat.reduceAdd, Nat.reduceSub, Nat.reduceBEq, Nat.reduceEqDiff, Nat.reduceLeDiff, Nat.reduceLT, true_and, and_true, Bool.false_eq_true, reduceCtorEq, if_true, if_false, hc_xx, hc_ofNat, hc_10, not_true_eq_false, not_false_eq_true, ge_iff_le, g8, h, hc_dfl6]
  refine sp_new5 (gO_1 g8) (hc_set_at _ _ _) fun G9 g9 s9 => ?_
  rw [hc_set_set]
  dsimp only
  rw [hc_bk_np rfl rfl]
  simp only [hm57_96, hm57_99, hm57_100, hm57_103, hm57_104, hc_on_some, hc_get, hc_put, hc_ri, hc_rl, hc_is, hc_row, hc_wr, hc_mov, hc_smi, hc_sml, hc_fv, hc_ld, hc_kd, hc_sto, hc_pre, hc_two, hc_inc, hc_psh, hc_kp, hc_k1, hc_np, hc_bk_rf, hc_bk_gA, hc_set_ap, hc_set_set, Value.category, List.getElem?_cons_zero, List.getElem?_cons_succ, List.set_cons_zero, List.set_cons_succ, List.length_cons, List.length_nil, List.map_cons, List.map_nil, reduceIte, Nat.reduceAdd, Nat.reduceSub, Nat.reduceBEq, Nat.reduceEqDiff, Nat.reduceLeDiff, Nat.reduceLT, true_and, and_true, Bool.false_eq_true, reduceCtorEq, if_true, if_false, hc_xx, hc_ofNat, hc_10, not_true_eq_false, not_false_eq_true, ge_iff_le, g9, h, hc_dfl6]
  refine sp_new4 (gO_1 g9) (hc_set_at _ _ _) fun G10 g10 s10 => ?_
  rw [hc_set_set]
  dsimp only
  rw [hc_bk_np rfl rfl]
  simp only [hm57_107, hm57_110, hm57_111, hm57_114, hm57_115, hc_on_some, hc_get, hc_put, hc_ri, hc_rl, hc_is, hc_row, hc_wr, hc_mov, hc_smi, hc_sml, hc_fv, hc_ld, hc_kd, hc_sto, hc_pre, hc_two, hc_inc, hc_psh, hc_kp, hc_k1, hc_np, hc_bk_rf, hc_bk_gA, hc_set_ap, hc_set_set, Value.category, List.getElem?_cons_zero, List.getElem?_cons_succ, List.set_cons_zero, List.set_cons_succ, List.length_cons, List.length_nil, List.map_cons, List.map_nil, reduceIte, Nat.reduceAdd, Nat.reduceSub, Nat.reduceBEq, Nat.reduceEqDiff, Nat.reduceLeDiff, Nat.reduceLT, true_and, and_true, Bool.false_eq_true, reduceCtorEq, if_true, if_false, hc_xx, hc_ofNat, hc_10, not_true_eq_false, not_false_eq_true, ge_iff_le, g10, h, hc_dfl6]
  refine sp_new4 (gO_1 g10) (hc_set_at _ _ _) fun G11 g11 s11 => ?_
  rw [hc_set_set]
  dsimp only
  rw [hc_bk_np rfl rfl]
  simp only [hm57_118, hm57_121, hm57_122, hm57_125, hm57_126, hc_on_some, hc_get, hc_put, hc_ri, hc_rl, hc_is, hc_row, hc_wr, hc_mov, hc_smi, hc_sml, hc_fv, hc_ld, hc_kd, hc_sto, hc_pre, hc_two, hc_inc, hc_psh, hc_kp, hc_k1, hc_np, hc_bk_rf, hc_bk_gA, hc_set_ap, hc_set_set, Value.category, List.getElem?_cons_zero, List.getElem?_cons_succ, List.set_cons_zero, List.set_cons_succ, List.length_cons, List.length_nil, List.map_cons, List.map_nil, reduceIte, Nat.reduceAdd, Nat.reduceSub, Nat.reduceBEq, Nat.reduceEqDiff, Nat.reduceLeDiff, Nat.reduceLT, true_and, and_true, Bool.false_eq_true, reduceCtorEq, if_true, if_false, hc_xx, hc_ofNat, hc_10, not_true_eq_false, not_false_eq_true, ge_iff_le, g11, h, hc_dfl6]
  refine sp_new4 (gO_1 g11) (hc_set_at _ _ _) fun G12 g12 s12 => ?_
  rw [hc_set_set]
  dsimp only
  rw [hc_bk_np rfl rfl]
  simp only [hm57_129, hm57_132, hc_on_some, hc_get, hc_put, hc_ri, hc_rl, hc_is, hc_row, hc_wr, hc_mov, hc_smi, hc_sml, hc_fv, hc_ld, hc_kd, hc_sto, hc_pre, hc_two, hc_inc, hc_psh, hc_kp, hc_k1, hc_np, hc_bk_rf, hc_bk_gA, hc_set_ap, hc_set_set, Value.category, List.getElem?_cons_zero, List.getElem?_cons_succ, List.set_cons_zero, List.set_cons_succ, List.length_cons, List.length_nil, List.map_cons, List.map_nil, reduceIte, Nat.reduceAdd, Nat.reduceSub, Nat.reduceBEq, Nat.reduceEqDiff, Nat.reduceLeDiff, Nat.reduceLT, true_and, and_true, Bool.false_eq_true, reduceCtorEq, if_true, if_false, hc_xx, hc_ofNat, hc_10, not_true_eq_false, not_false_eq_true, ge_iff_le, g12, h, hc_dfl6]
  refine K _ _ ⟨35, 37, 40, 42, 44, 46, 48, 50, 0, fun _ => 0, (0, 0, 0, 0, 0, 0), Or.inl ⟨rfl, rfl, rfl, rfl, rfl, rfl, rfl, rfl⟩, ?_, by omega, ⟨by simp, fun j hj => by simp at hj⟩, ⟨[], ⟨_, ?_, in_new (C := 4096) (by omega)⟩, by simp, fun i hi => by simp at hi⟩, ⟨[], ⟨_, ?_, in_new (C := 2048) (by omega)⟩, by simp, fun i hi => by simp at hi⟩, ⟨_, ?_, mp_new (C := 36002) (by omega)⟩, ⟨_, ?_, mp_new (C := 40000) (by omega)⟩, ⟨_, ?_, in_new (C := 53248) (by omega)⟩, ⟨[], ⟨_, ?_, in_new (C := 1100) (by omega)⟩, Or.inl ⟨rfl, rfl⟩⟩, ⟨[], _, ?_, mp_new (C := 36002) (by omega)⟩, ⟨[], _, ?_, mp_new (C := 40000) (by omega)⟩, ⟨[], _, ?_, in_new (C := 53248) (by omega)⟩, ⟨[], _, ?_, in_new (C := 1100) (by omega)⟩, ⟨[], _, ?_, in_new (C := 12000) (by omega)⟩⟩ (fun j hj => ?_) (by omega) (by
    simp only [gO_2] at s1 s2 s3 s4 s6 s7 s8 s9 s10 s11 s12
    omega)
  all_goals first
    | rfl
    | (simp only [hc_set]
       unfold mob at hj
       repeat rw [if_neg (by omega)])
    | (simp only [hc_set]
       repeat rw [if_neg (by omega)])
end S50
