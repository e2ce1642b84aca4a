/-! takeWays -/
def FW (f : Nat → Int32) (Ws : List (List Nat)) : Prop := ∀ i, i ≤ Ws.length → f i = nI (Ws.take i).flatten.length
theorem FW.add {f : Nat → Int32} {Ws : List (List Nat)} (h : FW f Ws) (B : List Nat) : FW (upd f (Ws.length + 1) (nI (Ws.flatten ++ B).length)) (Ws ++ [B]) := by
  intro i hi
  simp only [List.length_append, List.length_cons, List.length_nil] at hi
  by_cases e : i = Ws.length + 1
  · subst e
    simp only [upd, if_true]
    rw [List.take_of_length_le (by simp), List.flatten_append]
    simp
  · simp only [upd, if_neg e]
    rw [h i (by omega), List.take_append_of_le_length (by omega)]
def cnt (S E N : List (Int × Int)) (i : Nat) : Nat := (Bn (edz S E i) N N.length).length
def stp (S E N : List (Int × Int)) (n : Nat) : Nat := ((List.range n).map fun i => cnt S E N i - 1).sum
theorem stp_succ (S E N : List (Int × Int)) (n : Nat) : stp S E N (n + 1) = stp S E N n + (cnt S E N n - 1) := by
  unfold stp
  rw [List.range_succ, List.map_append, List.sum_append]
  simp
theorem stp_mono {S E N : List (Int × Int)} {n m : Nat} (h : n ≤ m) : stp S E N n ≤ stp S E N m := by
  obtain ⟨d, rfl⟩ := Nat.exists_eq_add_of_le h
  induction d with
  | zero => exact Nat.le_refl _
  | succ d ih =>
    rw [← Nat.add_assoc, stp_succ]
    have := ih (by omega)
    omega
theorem le_20001 {a b : Nat} (h : a ≤ b + 20001) : a ≤ b + 1 + 20000 := by
  have e : b + 1 + 20000 = b + 20001 := Nat.add_assoc b 1 20000
  rw [e]
  exact h
section S36
variable {G : hc_G} {σ : hc_H} {t : hc_T} {Q : hc_Q}
theorem sp_ways_loop {k kh cf : Nat} {rs : List hc_F} {S E N : List (Int × Int)} {os oe oh : hc_O} (q1 : k ≠ kh) (q3 : k < 60) (k1 : k ≠ 1) (k4 : k ≠ 4) (hh : σ kh = some oh) (hH : PLo oh N N.length) (hN : N.length ≤ 6000) (hNb : inB N) (hsn : ∀ i j (hij : i < j) (hj : j < N.length), plt N[i] N[j])
    (hs : σ 1 = some os) (hS : PLo os S S.length) (he : σ 4 = some oe) (hE : PLo oe E E.length) (hb : inB S) (hb2 : inB E) (hle : E.length = S.length) (hS512 : S.length ≤ 512) (hcf : S.length + 1 ≤ cf) (hcf2 : cf ≤ 50000)
    (K : ∀ G' ff' cr' fr' (Ws : List (List Nat)), Ws.length = S.length → (∀ i (hi : i < Ws.length), Way (edz S E i) N Ws[i]) → FW ff' Ws → CW fr' Ws.flatten → Ws.flatten.length ≤ cr' → 32 ≤ cr' → cr' ≤ 50000 → Ws.flatten.length ≤ S.length + 20000 → hc_cr G σ G' (hc_set σ k (oLy kh S.length Ws.flatten.length (cf, .inl ff') (cr', .inl fr') rs)) → Q G' (hc_set σ k (oLy kh S.length Ws.flatten.length (cf, .inl ff') (cr', .inl fr') rs)) none (some (.inl (.int 1))))
    (Kf : ∀ G' wc wl ff' cr' fr', wl ≤ cr' → 32 ≤ cr' → cr' ≤ 50000 → 20000 < stp S E N S.length → hc_cr G σ G' (hc_set σ k (oLy kh wc wl (cf, .inl ff') (cr', .inl fr') rs)) → Q G' (hc_set σ k (oLy kh wc wl (cf, .inl ff') (cr', .inl fr') rs)) none (some (.inl (.int 0)))) :
    ∀ (d : Nat) (Ws : List (List Nat)) (G1 : hc_G) (ff : Nat → Int32) (cr : Nat) (fr : Nat → Int32), d + Ws.length = S.length → (∀ i (hi : i < Ws.length), Way (edz S E i) N Ws[i]) → FW ff Ws → CW fr Ws.flatten → Ws.flatten.length ≤ cr → 32 ≤ cr → cr ≤ 50000 → Ws.flatten.length ≤ Ws.length + 20000 → Ws.flatten.length ≤ stp S E N Ws.length + Ws.length → hc_cr G σ G1 (hc_set σ k (oLy kh Ws.length Ws.flatten.length (cf, .inl ff) (cr, .inl fr) rs)) →
    hc_wp G1 (hc_set σ k (oLy kh Ws.length Ws.flatten.length (cf, .inl ff) (cr, .inl fr) rs)) none 7 39 [some (.inl (.ref k)), some (.inl (.ref 1)), some (.inl (.ref 4)), some (.inl (.int 1)), some (.inl (.int (nI Ws.length)))] [] Q := by
  have hS' := hS
  have hE' := hE
  obtain ⟨cx, fx, cy, fy, eS, h1, h2, h3, h4, h5, h6, h7, h8⟩ := hS'
  obtain ⟨cx2, fx2, cy2, fy2, eE, g1, g2, g3, g4, g5, g6, g7, g8⟩ := hE'
  have z10 : ¬ (1 : Int32) = 0 := by decide
  have k1' : ¬ 1 = k := Ne.symm k1
  have k4' : ¬ 4 = k := Ne.symm k4
  intro d
  induction d with
  | zero =>
    intro Ws G1 ff cr fr hd hw hF hW hl h32 hc hb20 hst hcr
    have e1 : Ws.length = S.length := by omega
    have K2 := K G1 ff cr fr Ws e1 hw hF hW hl h32 hc (by omega)
    rw [← e1] at K2
    have e2 : nI S.length ≤ nI Ws.length := by
      rw [e1]
      exact Int32.le_refl _
    rw [hm7_39]
    simp only [hm7_40, hm7_43, hm7_45, hm7_46, hm7_49, hm7_52, hm7_53, hm7_54, hm7_57, hm7_59, hm7_60, hm7_61, hm7_64, hm7_66, hm7_67, hm7_68, hm7_71, hm7_73, hm7_74, hm7_75, hm7_78, hm7_80, hm7_81, hm7_84, hm7_85, hm7_88, hm7_91, hm7_92, hc_on_some, hc_get, hc_put, hc_ri, hc_rl, hc_is, hc_row, hc_wr, hc_mov, hc_smi, hc_sml, hc_fv, hc_ld, hc_kd, hc_sto, hc_pre, hc_two, hc_inc, hc_psh, hc_kp, hc_k1, hc_np, hc_bk_rf, hc_bk_gA, hc_set_ap, hc_set_set, Value.category, List.getElem?_cons_zero, List.getElem?_cons_succ, List.set_cons_zero, List.set_cons_succ, List.length_cons, List.length_nil, List.map_cons, List.map_nil, reduceIte, Nat.reduceAdd, Nat.reduceSub, Nat.reduceBEq, Nat.reduceEqDiff, Nat.reduceLeDiff, Nat.reduceLT, true_and, and_true, Bool.false_eq_true, reduceCtorEq, if_true, if_false, hc_xx, hc_ofNat, hc_10, not_true_eq_false, not_false_eq_true, ge_iff_le, z10, k1', hs, eS, e2, true_or, or_true]
    exact K2 hcr
  | succ d ih =>
    intro Ws G1 ff cr fr hd hw hF hW hl h32 hc hb20 hst hcr
    have hi : Ws.length < S.length := by omega
    have e2 : ¬ nI S.length ≤ nI Ws.length := nI_ge (by omega) (by omega)
    have i1 : hc_inn (nI Ws.length) cx := inn_nI (by omega) (by omega)
    have i2 : hc_inn (nI Ws.length) cy := inn_nI (by omega) (by omega)
    have i3 : hc_inn (nI Ws.length) cx2 := inn_nI (by omega) (by omega)
    have i4 : hc_inn (nI Ws.length) cy2 := inn_nI (by omega) (by omega)
    have c1 : (nI Ws.length).toNatClampNeg = Ws.length := nI_clamp (by omega)
    have ax := pl_at (cx := cx) h7 hb hi
    have ay := pl_at2 (cy := cy) h8 hb hi
    have ax2 := pl_at (cx := cx) g7 hb2 (show Ws.length < E.length by omega)
    have ay2 := pl_at2 (cy := cy) g8 hb2 (show Ws.length < E.length by omega)
    have hed : edz S E Ws.length = ((fx Ws.length).toInt, (fy Ws.length).toInt, (fx2 Ws.length).toInt, (fy2 Ws.length).toInt) := by
      rw [ax.1, ay.1, ax2.1, ay2.1]
    rw [hm7_39]
    simp only [hm7_40, hm7_43, hm7_45, hm7_46, hm7_49, hm7_52, hm7_53, hm7_54, hm7_57, hm7_59, hm7_60, hm7_61, hm7_64, hm7_66, hm7_67, hm7_68, hm7_71, hm7_73, hm7_74, hm7_75, hm7_78, hm7_80, hm7_81, hm7_84, hm7_85, hm7_88, hm7_91, hm7_92, hc_on_some, hc_get, hc_put, hc_ri, hc_rl, hc_is, hc_row, hc_wr, hc_mov, hc_smi, hc_sml, hc_fv, hc_ld, hc_kd, hc_sto, hc_pre, hc_two, hc_inc, hc_psh, hc_kp, hc_k1, hc_np, hc_bk_rf, hc_bk_gA, hc_set_ap, hc_set_set, Value.category, List.getElem?_cons_zero, List.getElem?_cons_succ, List.set_cons_zero, List.set_cons_succ, List.length_cons, List.length_nil, List.map_cons, List.map_nil, reduceIte, Nat.reduceAdd, Nat.reduceSub, Nat.reduceBEq, Nat.reduceEqDiff, Nat.reduceLeDiff, Nat.reduceLT, true_and, and_true, Bool.false_eq_true, reduceCtorEq, if_true, if_false, hc_xx, hc_ofNat, hc_10, not_true_eq_false, not_false_eq_true, ge_iff_le, z10, k1', k4', hs, eS, he, eE, e2, i1, i2, i3, i4, c1]
    refine sp_takeWay (W := Ws.flatten) q1 q3 (hc_set_at _ _ _) (by rw [hc_set_ne σ _ (Ne.symm q1)]; exact hh) hH hN hNb hsn (by omega) hed ⟨ax.2.1, ax.2.2, ay.2.1, ay.2.2⟩ ⟨ax2.2.1, ax2.2.2, ay2.2.1, ay2.2.2⟩ hW hl h32 hc (by omega) (by omega) hcf2 (fun G2 cr2 fr2 B hB hW2 hl2 h322 hc2 hbd2 hcr2 => ?_) (fun G2 wl cr2 fr2 hl2 h322 hc2 hbd2 hcr2 => ?_)
    · dsimp only
      rw [hc_bk_np rfl rfl]
      rw [hc_set_set] at hcr2 ⊢
      simp only [hm7_84, hm7_85, hm7_88, hm7_91, hm7_92, hc_on_some, hc_get, hc_put, hc_ri, hc_rl, hc_is, hc_row, hc_wr, hc_mov, hc_smi, hc_sml, hc_fv, hc_ld, hc_kd, hc_sto, hc_pre, hc_two, hc_inc, hc_psh, hc_kp, hc_k1, hc_np, hc_bk_rf, hc_bk_gA, hc_set_ap, hc_set_set, Value.category, List.getElem?_cons_zero, List.getElem?_cons_succ, List.set_cons_zero, List.set_cons_succ, List.length_cons, List.length_nil, List.map_cons, List.map_nil, reduceIte, Nat.reduceAdd, Nat.reduceSub, Nat.reduceBEq, Nat.reduceEqDiff, Nat.reduceLeDiff, Nat.reduceLT, true_and, and_true, Bool.false_eq_true, reduceCtorEq, if_true, if_false, hc_xx, hc_ofNat, hc_10, not_true_eq_false, not_false_eq_true, ge_iff_le, nI_1]
      have el : (Ws ++ [B]).length = Ws.length + 1 := by simp
      have ef : (Ws ++ [B]).flatten = Ws.flatten ++ B := by simp
      have hc3 : B.length = cnt S E N Ws.length := hB.1.length_eq
      have I := ih (Ws ++ [B]) G2 (upd ff (Ws.length + 1) (nI (Ws.flatten ++ B).length)) cr2 fr2 (by rw [el]; omega) (fun i hi2 => by
        by_cases e : i < Ws.length
        · rw [List.getElem_append_left e]
          exact hw i e
        · have e3 : i = Ws.length := by omega
          subst e3
          rw [List.getElem_append_right (Nat.le_refl _)]
          simpa using hB) (hF.add B)
      have hb21 : (Ws.flatten ++ B).length ≤ (Ws ++ [B]).length + 20000 := by
        rw [el]
        exact le_20001 hbd2
      have hst2 : (Ws.flatten ++ B).length ≤ stp S E N (Ws ++ [B]).length + (Ws ++ [B]).length := by
        rw [el, stp_succ, List.length_append]
        omega
      rw [ef] at I
      have I2 := I hW2 hl2 h322 hc2 hb21 hst2
      rw [el] at I2
      exact I2 (hcr.tr hcr2)
    · dsimp only
      rw [hc_bk_np rfl rfl]
      rw [hc_set_set] at hcr2 ⊢
      simp only [hm7_84, hm7_85, hm7_88, hm7_91, hm7_92, hc_on_some, hc_get, hc_put, hc_ri, hc_rl, hc_is, hc_row, hc_wr, hc_mov, hc_smi, hc_sml, hc_fv, hc_ld, hc_kd, hc_sto, hc_pre, hc_two, hc_inc, hc_psh, hc_kp, hc_k1, hc_np, hc_bk_rf, hc_bk_gA, hc_set_ap, hc_set_set, Value.category, List.getElem?_cons_zero, List.getElem?_cons_succ, List.set_cons_zero, List.set_cons_succ, List.length_cons, List.length_nil, List.map_cons, List.map_nil, reduceIte, Nat.reduceAdd, Nat.reduceSub, Nat.reduceBEq, Nat.reduceEqDiff, Nat.reduceLeDiff, Nat.reduceLT, true_and, and_true, Bool.false_eq_true, reduceCtorEq, if_true, if_false, hc_xx, hc_ofNat, hc_10, not_true_eq_false, not_false_eq_true, ge_iff_le, nI_1]
      rw [hm7_39]
      simp only [hm7_40, hm7_43, hm7_45, hm7_46, hm7_49, hm7_52, hm7_53, hm7_54, hm7_57, hm7_59, hm7_60, hm7_61, hm7_64, hm7_66, hm7_67, hm7_68, hm7_71, hm7_73, hm7_74, hm7_75, hm7_78, hm7_80, hm7_81, hm7_84, hm7_85, hm7_88, hm7_91, hm7_92, hc_on_some, hc_get, hc_put, hc_ri, hc_rl, hc_is, hc_row, hc_wr, hc_mov, hc_smi, hc_sml, hc_fv, hc_ld, hc_kd, hc_sto, hc_pre, hc_two, hc_inc, hc_psh, hc_kp, hc_k1, hc_np, hc_bk_rf, hc_bk_gA, hc_set_ap, hc_set_set, Value.category, List.getElem?_cons_zero, List.getElem?_cons_succ, List.set_cons_zero, List.set_cons_succ, List.length_cons, List.length_nil, List.map_cons, List.map_nil, reduceIte, Nat.reduceAdd, Nat.reduceSub, Nat.reduceBEq, Nat.reduceEqDiff, Nat.reduceLeDiff, Nat.reduceLT, true_and, and_true, Bool.false_eq_true, reduceCtorEq, if_true, if_false, hc_xx, hc_ofNat, hc_10, not_true_eq_false, not_false_eq_true, ge_iff_le, true_or, or_true]
      refine Kf G2 Ws.length wl ff cr2 fr2 hl2 h322 hc2 ?_ (hcr.tr hcr2)
      have := stp_mono (S := S) (E := E) (N := N) (show Ws.length + 1 ≤ S.length by omega)
      rw [stp_succ] at this
      rw [List.length_append] at hbd2
      have hc3 : (Bn (edz S E Ws.length) N N.length).length = cnt S E N Ws.length := rfl
      omega
theorem sp_takeWays {k kh wc0 wl0 cf cr : Nat} {ff fr : Nat → Int32} {rs : List hc_F} {S E N : List (Int × Int)} {os oe oh : hc_O} (q1 : k ≠ kh) (q3 : k < 60) (k1 : k ≠ 1) (k4 : k ≠ 4) (h : σ k = some (oLy kh wc0 wl0 (cf, .inl ff) (cr, .inl fr) rs)) (hcf : 16 ≤ cf) (hcf2 : cf ≤ 1100) (h32 : 32 ≤ cr) (hc : cr ≤ 50000) (hh : σ kh = some oh) (hH : PLo oh N N.length) (hN : N.length ≤ 6000) (hNb : inB N) (hsn : ∀ i j (hij : i < j) (hj : j < N.length), plt N[i] N[j])
    (hs : σ 1 = some os) (hS : PLo os S S.length) (he : σ 4 = some oe) (hE : PLo oe E E.length) (hb : inB S) (hb2 : inB E) (hle : E.length = S.length) (hS512 : S.length ≤ 512)
    (K : ∀ G' cf' ff' cr' fr' (Ws : List (List Nat)), Ws.length = S.length → (∀ i (hi : i < Ws.length), Way (edz S E i) N Ws[i]) → FW ff' Ws → CW fr' Ws.flatten → S.length + 1 ≤ cf' → 16 ≤ cf' → cf' ≤ 1100 → Ws.flatten.length ≤ cr' → 32 ≤ cr' → cr' ≤ 50000 → Ws.flatten.length ≤ S.length + 20000 → hc_cr G σ G' (hc_set σ k (oLy kh S.length Ws.flatten.length (cf', .inl ff') (cr', .inl fr') rs)) → Q G' (hc_set σ k (oLy kh S.length Ws.flatten.length (cf', .inl ff') (cr', .inl fr') rs)) none (some (.inl (.int 1))))
    (Kf : ∀ G' wc wl cf' ff' cr' fr', 16 ≤ cf' → cf' ≤ 1100 → wl ≤ cr' → 32 ≤ cr' → cr' ≤ 50000 → 20000 < stp S E N S.length → hc_cr G σ G' (hc_set σ k (oLy kh wc wl (cf', .inl ff') (cr', .inl fr') rs)) → Q G' (hc_set σ k (oLy kh wc wl (cf', .inl ff') (cr', .inl fr') rs)) none (some (.inl (.int 0)))) :
    hc_wp G σ none 7 0 [some (.inl (.ref k)), some (.inl (.ref 1)), some (.inl (.ref 4)), none, none] [] Q := by
  have hS' := hS
  obtain ⟨cx, fx, cy, fy, eS, -⟩ := hS'
  have k1' : ¬ 1 = k := Ne.symm k1
  have i0 : ∀ c, 16 ≤ c → c ≤ 1100 → hc_inn 0 c := fun c _ _ => by
    have := inn_nI (i := 0) (n := c) (by omega) (by omega)
    rw [nI_0] at this
    exact this
  have c0 : (0 : Int32).toNatClampNeg = 0 := by decide
  have main : ∀ (G1 : hc_G) (cf' : Nat) (ff1 : Nat → Int32), S.length + 1 ≤ cf' → 16 ≤ cf' → cf' ≤ 1100 → hc_cr G σ G1 (hc_set σ k (oLy kh 0 0 (cf', .inl (upd ff1 0 0)) (cr, .inl fr) rs)) → hc_wp G1 (hc_set σ k (oLy kh 0 0 (cf', .inl (upd ff1 0 0)) (cr, .inl fr) rs)) none 7 39 [some (.inl (.ref k)), some (.inl (.ref 1)), some (.inl (.ref 4)), some (.inl (.int 1)), some (.inl (.int 0))] [] Q := by
    intro G1 cf' ff1 a1 a2 a3 hcr
    have L := sp_ways_loop (Q := Q) (rs := rs) (cf := cf') (G := G) (σ := σ) q1 q3 k1 k4 hh hH hN hNb hsn hs hS he hE hb hb2 hle hS512 a1 (by omega) (fun G' ff' cr' fr' Ws b1 b2 b3 b4 b5 b6 b7 b8 b9 => K G' cf' ff' cr' fr' Ws b1 b2 b3 b4 a1 a2 a3 b5 b6 b7 b8 b9) (fun G' wc wl ff' cr' fr' b1 b2 b3 b4 b5 => Kf G' wc wl cf' ff' cr' fr' a2 a3 b1 b2 b3 b4 b5) S.length [] G1 (upd ff1 0 0) cr fr (by simp) (fun i hi => by cases hi) (fun i hi => by
      have : i = 0 := by simpa using hi
      subst this
      rfl) (fun i v hv => by simp at hv) (by simp) h32 hc (by simp) (by simp) hcr
    exact L
  have n0 : ∀ o, hc_set σ k o 1 = some os := fun o => by rw [hc_set_ne σ o k1']; exact hs
  by_cases hg : S.length + 1 ≤ cf
  · have z1 : inF (hc_set σ k (1, .inl (.ref kh) :: .inl (.int 0) :: .inl (.int 0) :: .inr (cf, .inl ff) :: .inr (cr, .inl fr) :: rs)) k 3 (cf, .inl ff) := ⟨_, _, hc_set_at _ _ _, by decide, rfl⟩
    have M := main G cf ff hg hcf hcf2 (hc_cr.same q3 h rfl)
    have j0 := i0 cf hcf hcf2
    simp only [oLy, nI_0] at M
    simp only [hm7_0, hm7_1, hm7_2, hm7_5, hm7_6, hm7_7, hm7_10, hm7_11, hm7_12, hm7_15, hm7_16, hm7_19, hm7_20, hm7_21, hm7_24t, hm7_24s, hm7_27, hm7_28, hm7_31, hm7_32, hm7_33, hm7_34, hm7_35, hm7_36, hm7_37, hc_on_some, hc_get, hc_put, hc_ri, hc_rl, hc_is, hc_row, hc_wr, hc_mov, hc_smi, hc_sml, hc_fv, hc_ld, hc_kd, hc_sto, hc_pre, hc_two, hc_inc, hc_psh, hc_kp, hc_k1, hc_np, hc_bk_rf, hc_bk_gA, hc_set_ap, hc_set_set, Value.category, List.getElem?_cons_zero, List.getElem?_cons_succ, List.set_cons_zero, List.set_cons_succ, List.length_cons, List.length_nil, List.map_cons, List.map_nil, reduceIte, Nat.reduceAdd, Nat.reduceSub, Nat.reduceBEq, Nat.reduceEqDiff, Nat.reduceLeDiff, Nat.reduceLT, true_and, and_true, Bool.false_eq_true, reduceCtorEq, if_true, if_false, hc_xx, hc_ofNat, hc_10, not_true_eq_false, not_false_eq_true, ge_iff_le, h, k1', hs, eS, nI_1, nI_0, sp_wr0 (G := G) z1 hg (by omega), j0, c0]
    exact M
  · have z1 : inF (hc_set σ k (1, .inl (.ref kh) :: .inl (.int 0) :: .inl (.int 0) :: .inr (cf, .inl ff) :: .inr (cr, .inl fr) :: rs)) k 3 (cf, .inl ff) := ⟨_, _, hc_set_at _ _ _, by decide, rfl⟩
    have M := main (hc_gM (hc_gA G (max (S.length + 1) (2 * cf))) k 3) (max (S.length + 1) (2 * cf)) (va_cpy ff (fun _ => 0) 0 0 cf) (by omega) (by omega) (by omega) (hc_cr.set q3 h (by
      show G.2.2.1 + max (S.length + 1) (2 * cf) + 12 * (G.2.1 + 1) + _ ≤ _
      simp only [hc_po, hc_pf, List.map_cons, List.map_nil, List.sum_cons, List.sum_nil, Nat.reduceEqDiff, if_false]
      omega))
    have j0 := i0 (max (S.length + 1) (2 * cf)) (by omega) (by omega)
    simp only [oLy, nI_0] at M
    simp only [hm7_0, hm7_1, hm7_2, hm7_5, hm7_6, hm7_7, hm7_10, hm7_11, hm7_12, hm7_15, hm7_16, hm7_19, hm7_20, hm7_21, hm7_24t, hm7_24s, hm7_27, hm7_28, hm7_31, hm7_32, hm7_33, hm7_34, hm7_35, hm7_36, hm7_37, hc_on_some, hc_get, hc_put, hc_ri, hc_rl, hc_is, hc_row, hc_wr, hc_mov, hc_smi, hc_sml, hc_fv, hc_ld, hc_kd, hc_sto, hc_pre, hc_two, hc_inc, hc_psh, hc_kp, hc_k1, hc_np, hc_bk_rf, hc_bk_gA, hc_set_ap, hc_set_set, Value.category, List.getElem?_cons_zero, List.getElem?_cons_succ, List.set_cons_zero, List.set_cons_succ, List.length_cons, List.length_nil, List.map_cons, List.map_nil, reduceIte, Nat.reduceAdd, Nat.reduceSub, Nat.reduceBEq, Nat.reduceEqDiff, Nat.reduceLeDiff, Nat.reduceLT, true_and, and_true, Bool.false_eq_true, reduceCtorEq, if_true, if_false, hc_xx, hc_ofNat, hc_10, not_true_eq_false, not_false_eq_true, ge_iff_le, h, k1', hs, eS, nI_1, nI_0, sp_wr1 (G := G) (m := S.length + 1) z1 (by omega) (by omega), j0, c0]
    exact ⟨by omega, M⟩
end S36
