/-! sorting, the whole: sink from its entry, and the two loops -/
def dI (a : Nat) : Int32 := nI a - 1
theorem dI_0 : dI 0 < 0 := by decide
theorem dI_1 (a : Nat) : dI (a + 1) = nI a := nI_pred a
theorem nI_m1 (a : Nat) : nI a + -1 = dI a := by
  unfold dI
  exact (Int32.sub_eq_add_neg (nI a) 1).symm
theorem nI_s1 (a : Nat) : nI a - 1 = dI a := rfl
section S23
variable {G : hc_G} {σ : hc_H} {Q : hc_Q}
theorem sp_ksink {k n c e place : Nat} {f : Nat → Int64} (h : σ k = some (oKs n c f)) (hp : place < e) (hen : e ≤ n) (hn : n ≤ c) (hc : c ≤ 2 ^ 20) (hH : Hp (tI f) (place + 1) e) (K : ∀ f', Hp (tI f') place e → (∀ v, cn (tI f') e v = cn (tI f) e v) → (∀ i, i < place ∨ e ≤ i → tI f' i = tI f i) → Q G (hc_set σ k (oKs n c f')) none none) : hc_wp G σ none 3 0 [some (.inl (.ref k)), some (.inl (.int (nI place))), some (.inl (.int (nI e))), none, none, none, none] [] Q := by
  have i1 : hc_inn (nI place) c := inn_nI (by omega) (by omega)
  have z1 : (nI place).toNatClampNeg = place := nI_clamp (by omega)
  have e0 : ∀ h, 2 * nI h + 1 = nI (2 * h + 1) := fun h => by rw [show 2 * nI h = nI (2 * h) from pk_mul 2 h, nI_1]
  have L := sp_ksink_loop (G := G) (σ := σ) (Q := Q) (k := k) (key := f place) hn hc hen K e place f (by omega) (Sk.start hH hp)
  rw [hc_set_id h] at L
  simp only [hma3, hma3_1, hc_on_some, hc_get, hc_put, hc_ri, hc_rl, hc_is, hc_row, hc_wr, hc_mov, hc_smi, hc_sml, hc_fv, hc_ld, hc_kd, hc_sto, hc_pre, hc_two, hc_inc, hc_psh, hc_kp, hc_k1, hc_np, hc_bk_rf, hc_bk_gA, hc_set_ap, hc_set_set, Value.category, List.getElem?_cons_zero, List.getElem?_cons_succ, List.set_cons_zero, List.set_cons_succ, List.length_cons, List.length_nil, List.map_cons, List.map_nil, reduceIte, Nat.reduceAdd, Nat.reduceSub, Nat.reduceBEq, Nat.reduceEqDiff, Nat.reduceLeDiff, Nat.reduceLT, true_and, and_true, Bool.false_eq_true, reduceCtorEq, if_true, if_false, hc_xx, hc_ofNat, hc_10, not_true_eq_false, not_false_eq_true, ge_iff_le, h, oKs, i1, z1, e0]
  exact L
theorem sp_ksort2 {k n c : Nat} {F : Nat → Int} (hn : n ≤ c) (hc : c ≤ 2 ^ 20) (K : ∀ (f' : Nat → Int64) (x1 : Int32) (x2 : Option Value), (∀ i j, i ≤ j → j < n → tI f' i ≤ tI f' j) → (∀ v, cn (tI f') n v = cn F n v) → hc_wp G (hc_set σ k (oKs n c f')) none 2 77 [some (.inl (.ref k)), some (.inl (.int x1)), x2.map Sum.inl, none] [] Q) : ∀ (a : Nat) (f : Nat → Int64) (x2 : Option Value), a ≤ n → (a = 0 → n = 0) → (0 < a → Ss (tI f) (a - 1) n) → (∀ v, cn (tI f) n v = cn F n v) → hc_wp G (hc_set σ k (oKs n c f)) none 2 35 [some (.inl (.ref k)), some (.inl (.int (dI a))), x2.map Sum.inl, none] [] Q := by
  intro a
  induction a with
  | zero =>
    intro f x2 ha h0 hs hv
    have K2 := K f (dI 0) x2 (fun i j h1 h2 => by have := h0 rfl; omega) hv
    have e1 : dI 0 ≤ 0 := by decide
    rw [hm2_35]
    simp only [hma2, hc_on_some, hc_get, hc_put, hc_ri, hc_rl, hc_is, hc_row, hc_wr, hc_mov, hc_smi, hc_sml, hc_fv, hc_ld, hc_kd, hc_sto, hc_pre, hc_two, hc_inc, hc_psh, hc_kp, hc_k1, hc_np, hc_bk_rf, hc_bk_gA, hc_set_ap, hc_set_set, Value.category, List.getElem?_cons_zero, List.getElem?_cons_succ, List.set_cons_zero, List.set_cons_succ, List.length_cons, List.length_nil, List.map_cons, List.map_nil, reduceIte, Nat.reduceAdd, Nat.reduceSub, Nat.reduceBEq, Nat.reduceEqDiff, Nat.reduceLeDiff, Nat.reduceLT, true_and, and_true, Bool.false_eq_true, reduceCtorEq, if_true, if_false, hc_xx, hc_ofNat, hc_10, not_true_eq_false, not_false_eq_true, ge_iff_le, e1] at K2 ⊢
    exact K2
  | succ a ih =>
    intro f x2 ha h0 hs hv
    have S := hs (by omega)
    rw [Nat.add_sub_cancel] at S
    rw [dI_1]
    by_cases hz : a = 0
    · subst hz
      have K2 := K f (nI 0) x2 (fun i j h1 h2 => by
        by_cases q : i = 0
        · subst q
          by_cases q2 : j = 0
          · subst q2
            exact Int.le_refl _
          · exact S.2.2 0 j (Nat.le_refl _) (by omega) h2
        · exact S.2.1 i j (by omega) h1 h2) hv
      have e1 : nI 0 ≤ 0 := by decide
      rw [hm2_35]
      simp only [hma2, hc_on_some, hc_get, hc_put, hc_ri, hc_rl, hc_is, hc_row, hc_wr, hc_mov, hc_smi, hc_sml, hc_fv, hc_ld, hc_kd, hc_sto, hc_pre, hc_two, hc_inc, hc_psh, hc_kp, hc_k1, hc_np, hc_bk_rf, hc_bk_gA, hc_set_ap, hc_set_set, Value.category, List.getElem?_cons_zero, List.getElem?_cons_succ, List.set_cons_zero, List.set_cons_succ, List.length_cons, List.length_nil, List.map_cons, List.map_nil, reduceIte, Nat.reduceAdd, Nat.reduceSub, Nat.reduceBEq, Nat.reduceEqDiff, Nat.reduceLeDiff, Nat.reduceLT, true_and, and_true, Bool.false_eq_true, reduceCtorEq, if_true, if_false, hc_xx, hc_ofNat, hc_10, not_true_eq_false, not_false_eq_true, ge_iff_le, e1] at K2 ⊢
      exact K2
    · obtain ⟨b, rfl⟩ : ∃ b, a = b + 1 := ⟨a - 1, by omega⟩
      have e1 : ¬ nI (b + 1) ≤ 0 := nI_nle (by omega) (by omega)
      have i1 : hc_inn (nI (b + 1)) c := inn_nI (by omega) (by omega)
      have i0 : hc_inn 0 c := inn_nI (i := 0) (by omega) (by omega)
      have z1 : (nI (b + 1)).toNatClampNeg = b + 1 := nI_clamp (by omega)
      have z0 : (0 : Int32).toNatClampNeg = 0 := rfl
      rw [hm2_35]
      simp only [hma2, hc_on_some, hc_get, hc_put, hc_ri, hc_rl, hc_is, hc_row, hc_wr, hc_mov, hc_smi, hc_sml, hc_fv, hc_ld, hc_kd, hc_sto, hc_pre, hc_two, hc_inc, hc_psh, hc_kp, hc_k1, hc_np, hc_bk_rf, hc_bk_gA, hc_set_ap, hc_set_set, Value.category, List.getElem?_cons_zero, List.getElem?_cons_succ, List.set_cons_zero, List.set_cons_succ, List.length_cons, List.length_nil, List.map_cons, List.map_nil, reduceIte, Nat.reduceAdd, Nat.reduceSub, Nat.reduceBEq, Nat.reduceEqDiff, Nat.reduceLeDiff, Nat.reduceLT, true_and, and_true, Bool.false_eq_true, reduceCtorEq, if_true, if_false, hc_xx, hc_ofNat, hc_10, not_true_eq_false, not_false_eq_true, ge_iff_le, oKs, hc_set_at, e1, i1, i0, z1, z0, hc_opt]
      refine sp_ksink (place := 0) (e := b + 1) (n := n) (c := c) (f := vp_updL (vp_updL f 0 (f (b + 1))) (b + 1) (f 0)) (hc_set_at _ _ _) (by omega) (by omega) hn hc ?_ fun f' g1 g2 g3 => ?_
      · rw [tI_upd, tI_upd]
        exact swap_hp S.1
      · have g2' : ∀ v, cn (tI f') (b + 1) v = cn (uI (uI (tI f) 0 (tI f (b + 1))) (b + 1) (tI f 0)) (b + 1) v := fun v => by rw [g2 v, tI_upd, tI_upd]; rfl
        have g3' : ∀ i, b + 1 ≤ i → tI f' i = uI (uI (tI f) 0 (tI f (b + 1))) (b + 1) (tI f 0) i := fun i hi => by rw [g3 i (Or.inr hi), tI_upd, tI_upd]; rfl
        have S2 := S.step (by omega) g1 g2' g3'
        have v2 : ∀ v, cn (tI f') n v = cn F n v := fun v => by rw [cn_ext (show b + 1 ≤ n by omega) g2' g3' v, swap_cn n (by omega) v, hv v]
        have ih2 := ih f' (some (.long (f 0))) (by omega) (by omega) (fun _ => S2) v2
        simp only [hma2, hc_on_some, hc_get, hc_put, hc_ri, hc_rl, hc_is, hc_row, hc_wr, hc_mov, hc_smi, hc_sml, hc_fv, hc_ld, hc_kd, hc_sto, hc_pre, hc_two, hc_inc, hc_psh, hc_kp, hc_k1, hc_np, hc_bk_rf, hc_bk_gA, hc_set_ap, hc_set_set, Value.category, List.getElem?_cons_zero, List.getElem?_cons_succ, List.set_cons_zero, List.set_cons_succ, List.length_cons, List.length_nil, List.map_cons, List.map_nil, reduceIte, Nat.reduceAdd, Nat.reduceSub, Nat.reduceBEq, Nat.reduceEqDiff, Nat.reduceLeDiff, Nat.reduceLT, true_and, and_true, Bool.false_eq_true, reduceCtorEq, if_true, if_false, hc_xx, hc_ofNat, hc_10, not_true_eq_false, not_false_eq_true, ge_iff_le, oKs, hc_set_at, nI_m1]
        exact ih2
theorem sp_ksort1 {k n c : Nat} {F : Nat → Int} (hn : n ≤ c) (hc : c ≤ 2 ^ 20) (K : ∀ (f' : Nat → Int64) (x1 : Int32) (x2 : Option Value), (∀ i j, i ≤ j → j < n → tI f' i ≤ tI f' j) → (∀ v, cn (tI f') n v = cn F n v) → hc_wp G (hc_set σ k (oKs n c f')) none 2 77 [some (.inl (.ref k)), some (.inl (.int x1)), x2.map Sum.inl, none] [] Q) : ∀ (a : Nat) (f : Nat → Int64), a ≤ n → Hp (tI f) a n → (∀ v, cn (tI f) n v = cn F n v) → hc_wp G (hc_set σ k (oKs n c f)) none 2 9 [some (.inl (.ref k)), some (.inl (.int (dI a))), none, none] [] Q := by
  intro a
  induction a with
  | zero =>
    intro f ha hs hv
    have L := sp_ksort2 hn hc K n f none (Nat.le_refl n) (fun h => h) (fun h0 => by
      obtain ⟨b, rfl⟩ : ∃ b, n = b + 1 := ⟨n - 1, by omega⟩
      rw [Nat.add_sub_cancel]
      exact ⟨hs, fun i j h1 h2 h3 => by omega, fun i j h1 h2 h3 => by omega⟩) hv
    have e1 : dI 0 < 0 := dI_0
    rw [hm2_9]
    simp only [hma2, hc_on_some, hc_get, hc_put, hc_ri, hc_rl, hc_is, hc_row, hc_wr, hc_mov, hc_smi, hc_sml, hc_fv, hc_ld, hc_kd, hc_sto, hc_pre, hc_two, hc_inc, hc_psh, hc_kp, hc_k1, hc_np, hc_bk_rf, hc_bk_gA, hc_set_ap, hc_set_set, Value.category, List.getElem?_cons_zero, List.getElem?_cons_succ, List.set_cons_zero, List.set_cons_succ, List.length_cons, List.length_nil, List.map_cons, List.map_nil, reduceIte, Nat.reduceAdd, Nat.reduceSub, Nat.reduceBEq, Nat.reduceEqDiff, Nat.reduceLeDiff, Nat.reduceLT, true_and, and_true, Bool.false_eq_true, reduceCtorEq, if_true, if_false, hc_xx, hc_ofNat, hc_10, not_true_eq_false, not_false_eq_true, ge_iff_le, oKs, hc_set_at, e1, nI_s1]
    exact L
  | succ a ih =>
    intro f ha hs hv
    rw [dI_1]
    have e1 : ¬ nI a < 0 := nI_pos (by omega)
    rw [hm2_9]
    simp only [hma2, hc_on_some, hc_get, hc_put, hc_ri, hc_rl, hc_is, hc_row, hc_wr, hc_mov, hc_smi, hc_sml, hc_fv, hc_ld, hc_kd, hc_sto, hc_pre, hc_two, hc_inc, hc_psh, hc_kp, hc_k1, hc_np, hc_bk_rf, hc_bk_gA, hc_set_ap, hc_set_set, Value.category, List.getElem?_cons_zero, List.getElem?_cons_succ, List.set_cons_zero, List.set_cons_succ, List.length_cons, List.length_nil, List.map_cons, List.map_nil, reduceIte, Nat.reduceAdd, Nat.reduceSub, Nat.reduceBEq, Nat.reduceEqDiff, Nat.reduceLeDiff, Nat.reduceLT, true_and, and_true, Bool.false_eq_true, reduceCtorEq, if_true, if_false, hc_xx, hc_ofNat, hc_10, not_true_eq_false, not_false_eq_true, ge_iff_le, oKs, hc_set_at, e1]
    refine sp_ksink (place := a) (e := n) (n := n) (c := c) (f := f) (hc_set_at _ _ _) (by omega) (Nat.le_refl n) hn hc hs fun f' g1 g2 g3 => ?_
    have ih2 := ih f' (by omega) g1 (fun v => by rw [g2 v, hv v])
    simp only [hma2, hc_on_some, hc_get, hc_put, hc_ri, hc_rl, hc_is, hc_row, hc_wr, hc_mov, hc_smi, hc_sml, hc_fv, hc_ld, hc_kd, hc_sto, hc_pre, hc_two, hc_inc, hc_psh, hc_kp, hc_k1, hc_np, hc_bk_rf, hc_bk_gA, hc_set_ap, hc_set_set, Value.category, List.getElem?_cons_zero, List.getElem?_cons_succ, List.set_cons_zero, List.set_cons_succ, List.length_cons, List.length_nil, List.map_cons, List.map_nil, reduceIte, Nat.reduceAdd, Nat.reduceSub, Nat.reduceBEq, Nat.reduceEqDiff, Nat.reduceLeDiff, Nat.reduceLT, true_and, and_true, Bool.false_eq_true, reduceCtorEq, if_true, if_false, hc_xx, hc_ofNat, hc_10, not_true_eq_false, not_false_eq_true, ge_iff_le, oKs, hc_set_at, nI_m1]
    exact ih2

theorem sp_msink {k n c e place : Nat} {f : Nat → Int64} (h : σ k = some (oMp n c f)) (hp : place < e) (hen : e ≤ n) (hn : n ≤ c) (hc : c ≤ 2 ^ 20) (hH : Hp (tI f) (place + 1) e) (K : ∀ f', Hp (tI f') place e → (∀ v, cn (tI f') e v = cn (tI f) e v) → (∀ i, i < place ∨ e ≤ i → tI f' i = tI f i) → Q G (hc_set σ k (oMp n c f')) none none) : hc_wp G σ none 50 0 [some (.inl (.ref k)), some (.inl (.int (nI place))), some (.inl (.int (nI e))), none, none, none, none, none] [] Q := by
  have i1 : hc_inn (nI place) c := inn_nI (by omega) (by omega)
  have z1 : (nI place).toNatClampNeg = place := nI_clamp (by omega)
  have e0 : ∀ h, 2 * nI h + 1 = nI (2 * h + 1) := fun h => by rw [show 2 * nI h = nI (2 * h) from pk_mul 2 h, nI_1]
  have L := sp_msink_loop (G := G) (σ := σ) (Q := Q) (k := k) (key := f place) hn hc hen K e place f none (by omega) (Sk.start hH hp)
  rw [hc_set_id h] at L
  by_cases h5 : 2 * place + 1 < e
  · have e7 : ¬ nI e ≤ nI (2 * place + 1) := nI_ge h5 (by omega)
    rw [if_pos h5] at L
    simp only [hma50, hma50_1, hc_on_some, hc_get, hc_put, hc_ri, hc_rl, hc_is, hc_row, hc_wr, hc_mov, hc_smi, hc_sml, hc_fv, hc_ld, hc_kd, hc_sto, hc_pre, hc_two, hc_inc, hc_psh, hc_kp, hc_k1, hc_np, hc_bk_rf, hc_bk_gA, hc_set_ap, hc_set_set, Value.category, List.getElem?_cons_zero, List.getElem?_cons_succ, List.set_cons_zero, List.set_cons_succ, List.length_cons, List.length_nil, List.map_cons, List.map_nil, reduceIte, Nat.reduceAdd, Nat.reduceSub, Nat.reduceBEq, Nat.reduceEqDiff, Nat.reduceLeDiff, Nat.reduceLT, true_and, and_true, Bool.false_eq_true, reduceCtorEq, if_true, if_false, hc_xx, hc_ofNat, hc_10, not_true_eq_false, not_false_eq_true, ge_iff_le, h, oMp, i1, z1, e0, e7]
    exact L
  · have e7 : nI e ≤ nI (2 * place + 1) := nI_le (by omega) (by omega)
    rw [if_neg h5] at L
    simp only [hma50, hma50_1, hc_on_some, hc_get, hc_put, hc_ri, hc_rl, hc_is, hc_row, hc_wr, hc_mov, hc_smi, hc_sml, hc_fv, hc_ld, hc_kd, hc_sto, hc_pre, hc_two, hc_inc, hc_psh, hc_kp, hc_k1, hc_np, hc_bk_rf, hc_bk_gA, hc_set_ap, hc_set_set, Value.category, List.getElem?_cons_zero, List.getElem?_cons_succ, List.set_cons_zero, List.set_cons_succ, List.length_cons, List.length_nil, List.map_cons, List.map_nil, reduceIte, Nat.reduceAdd, Nat.reduceSub, Nat.reduceBEq, Nat.reduceEqDiff, Nat.reduceLeDiff, Nat.reduceLT, true_and, and_true, Bool.false_eq_true, reduceCtorEq, if_true, if_false, hc_xx, hc_ofNat, hc_10, not_true_eq_false, not_false_eq_true, ge_iff_le, h, oMp, i1, z1, e0, e7]
    exact L
theorem sp_msort2 {k n c : Nat} {F : Nat → Int} (hn : n ≤ c) (hc : c ≤ 2 ^ 20) (K : ∀ (f' : Nat → Int64) (x1 : Int32) (x2 : Option Value), (∀ i j, i ≤ j → j < n → tI f' i ≤ tI f' j) → (∀ v, cn (tI f') n v = cn F n v) → hc_wp G (hc_set σ k (oMp n c f')) none 49 77 [some (.inl (.ref k)), some (.inl (.int x1)), x2.map Sum.inl, none] [] Q) : ∀ (a : Nat) (f : Nat → Int64) (x2 : Option Value), a ≤ n → (a = 0 → n = 0) → (0 < a → Ss (tI f) (a - 1) n) → (∀ v, cn (tI f) n v = cn F n v) → hc_wp G (hc_set σ k (oMp n c f)) none 49 35 [some (.inl (.ref k)), some (.inl (.int (dI a))), x2.map Sum.inl, none] [] Q := by
  intro a
  induction a with
  | zero =>
    intro f x2 ha h0 hs hv
    have K2 := K f (dI 0) x2 (fun i j h1 h2 => by have := h0 rfl; omega) hv
    have e1 : dI 0 ≤ 0 := by decide
    rw [hm49_35]
    simp only [hma49, hma49_1, hc_on_some, hc_get, hc_put, hc_ri, hc_rl, hc_is, hc_row, hc_wr, hc_mov, hc_smi, hc_sml, hc_fv, hc_ld, hc_kd, hc_sto, hc_pre, hc_two, hc_inc, hc_psh, hc_kp, hc_k1, hc_np, hc_bk_rf, hc_bk_gA, hc_set_ap, hc_set_set, Value.category, List.getElem?_cons_zero, List.getElem?_cons_succ, List.set_cons_zero, List.set_cons_succ, List.length_cons, List.length_nil, List.map_cons, List.map_nil, reduceIte, Nat.reduceAdd, Nat.reduceSub, Nat.reduceBEq, Nat.reduceEqDiff, Nat.reduceLeDiff, Nat.reduceLT, true_and, and_true, Bool.false_eq_true, reduceCtorEq, if_true, if_false, hc_xx, hc_ofNat, hc_10, not_true_eq_false, not_false_eq_true, ge_iff_le, e1] at K2 ⊢
    exact K2
  | succ a ih =>
    intro f x2 ha h0 hs hv
    have S := hs (by omega)
    rw [Nat.add_sub_cancel] at S
    rw [dI_1]
    by_cases hz : a = 0
    · subst hz
      have K2 := K f (nI 0) x2 (fun i j h1 h2 => by
        by_cases q : i = 0
        · subst q
          by_cases q2 : j = 0
          · subst q2
            exact Int.le_refl _
          · exact S.2.2 0 j (Nat.le_refl _) (by omega) h2
        · exact S.2.1 i j (by omega) h1 h2) hv
      have e1 : nI 0 ≤ 0 := by decide
      rw [hm49_35]
      simp only [hma49, hma49_1, hc_on_some, hc_get, hc_put, hc_ri, hc_rl, hc_is, hc_row, hc_wr, hc_mov, hc_smi, hc_sml, hc_fv, hc_ld, hc_kd, hc_sto, hc_pre, hc_two, hc_inc, hc_psh, hc_kp, hc_k1, hc_np, hc_bk_rf, hc_bk_gA, hc_set_ap, hc_set_set, Value.category, List.getElem?_cons_zero, List.getElem?_cons_succ, List.set_cons_zero, List.set_cons_succ, List.length_cons, List.length_nil, List.map_cons, List.map_nil, reduceIte, Nat.reduceAdd, Nat.reduceSub, Nat.reduceBEq, Nat.reduceEqDiff, Nat.reduceLeDiff, Nat.reduceLT, true_and, and_true, Bool.false_eq_true, reduceCtorEq, if_true, if_false, hc_xx, hc_ofNat, hc_10, not_true_eq_false, not_false_eq_true, ge_iff_le, e1] at K2 ⊢
      exact K2
    · obtain ⟨b, rfl⟩ : ∃ b, a = b + 1 := ⟨a - 1, by omega⟩
      have e1 : ¬ nI (b + 1) ≤ 0 := nI_nle (by omega) (by omega)
      have i1 : hc_inn (nI (b + 1)) c := inn_nI (by omega) (by omega)
      have i0 : hc_inn 0 c := inn_nI (i := 0) (by omega) (by omega)
      have z1 : (nI (b + 1)).toNatClampNeg = b + 1 := nI_clamp (by omega)
      have z0 : (0 : Int32).toNatClampNeg = 0 := rfl
      rw [hm49_35]
      simp only [hma49, hma49_1, hc_on_some, hc_get, hc_put, hc_ri, hc_rl, hc_is, hc_row, hc_wr, hc_mov, hc_smi, hc_sml, hc_fv, hc_ld, hc_kd, hc_sto, hc_pre, hc_two, hc_inc, hc_psh, hc_kp, hc_k1, hc_np, hc_bk_rf, hc_bk_gA, hc_set_ap, hc_set_set, Value.category, List.getElem?_cons_zero, List.getElem?_cons_succ, List.set_cons_zero, List.set_cons_succ, List.length_cons, List.length_nil, List.map_cons, List.map_nil, reduceIte, Nat.reduceAdd, Nat.reduceSub, Nat.reduceBEq, Nat.reduceEqDiff, Nat.reduceLeDiff, Nat.reduceLT, true_and, and_true, Bool.false_eq_true, reduceCtorEq, if_true, if_false, hc_xx, hc_ofNat, hc_10, not_true_eq_false, not_false_eq_true, ge_iff_le, oMp, hc_set_at, e1, i1, i0, z1, z0, hc_opt]
      refine sp_msink (place := 0) (e := b + 1) (n := n) (c := c) (f := vp_updL (vp_updL f 0 (f (b + 1))) (b + 1) (f 0)) (hc_set_at _ _ _) (by omega) (by omega) hn hc ?_ fun f' g1 g2 g3 => ?_
      · rw [tI_upd, tI_upd]
        exact swap_hp S.1
      · have g2' : ∀ v, cn (tI f') (b + 1) v = cn (uI (uI (tI f) 0 (tI f (b + 1))) (b + 1) (tI f 0)) (b + 1) v := fun v => by rw [g2 v, tI_upd, tI_upd]; rfl
        have g3' : ∀ i, b + 1 ≤ i → tI f' i = uI (uI (tI f) 0 (tI f (b + 1))) (b + 1) (tI f 0) i := fun i hi => by rw [g3 i (Or.inr hi), tI_upd, tI_upd]; rfl
        have S2 := S.step (by omega) g1 g2' g3'
        have v2 : ∀ v, cn (tI f') n v = cn F n v := fun v => by rw [cn_ext (show b + 1 ≤ n by omega) g2' g3' v, swap_cn n (by omega) v, hv v]
        have ih2 := ih f' (some (.long (f 0))) (by omega) (by omega) (fun _ => S2) v2
        simp only [hma49, hma49_1, hc_on_some, hc_get, hc_put, hc_ri, hc_rl, hc_is, hc_row, hc_wr, hc_mov, hc_smi, hc_sml, hc_fv, hc_ld, hc_kd, hc_sto, hc_pre, hc_two, hc_inc, hc_psh, hc_kp, hc_k1, hc_np, hc_bk_rf, hc_bk_gA, hc_set_ap, hc_set_set, Value.category, List.getElem?_cons_zero, List.getElem?_cons_succ, List.set_cons_zero, List.set_cons_succ, List.length_cons, List.length_nil, List.map_cons, List.map_nil, reduceIte, Nat.reduceAdd, Nat.reduceSub, Nat.reduceBEq, Nat.reduceEqDiff, Nat.reduceLeDiff, Nat.reduceLT, true_and, and_true, Bool.false_eq_true, reduceCtorEq, if_true, if_false, hc_xx, hc_ofNat, hc_10, not_true_eq_false, not_false_eq_true, ge_iff_le, oMp, hc_set_at, nI_m1]
        exact ih2
theorem sp_msort1 {k n c : Nat} {F : Nat → Int} (hn : n ≤ c) (hc : c ≤ 2 ^ 20) (K : ∀ (f' : Nat → Int64) (x1 : Int32) (x2 : Option Value), (∀ i j, i ≤ j → j < n → tI f' i ≤ tI f' j) → (∀ v, cn (tI f') n v = cn F n v) → hc_wp G (hc_set σ k (oMp n c f')) none 49 77 [some (.inl (.ref k)), some (.inl (.int x1)), x2.map Sum.inl, none] [] Q) : ∀ (a : Nat) (f : Nat → Int64), a ≤ n → Hp (tI f) a n → (∀ v, cn (tI f) n v = cn F n v) → hc_wp G (hc_set σ k (oMp n c f)) none 49 9 [some (.inl (.ref k)), some (.inl (.int (dI a))), none, none] [] Q := by
  intro a
  induction a with
  | zero =>
    intro f ha hs hv
    have L := sp_msort2 hn hc K n f none (Nat.le_refl n) (fun h => h) (fun h0 => by
      obtain ⟨b, rfl⟩ : ∃ b, n = b + 1 := ⟨n - 1, by omega⟩
      rw [Nat.add_sub_cancel]
      exact ⟨hs, fun i j h1 h2 h3 => by omega, fun i j h1 h2 h3 => by omega⟩) hv
    have e1 : dI 0 < 0 := dI_0
    rw [hm49_9]
    simp only [hma49, hma49_1, hc_on_some, hc_get, hc_put, hc_ri, hc_rl, hc_is, hc_row, hc_wr, hc_mov, hc_smi, hc_sml, hc_fv, hc_ld, hc_kd, hc_sto, hc_pre, hc_two, hc_inc, hc_psh, hc_kp, hc_k1, hc_np, hc_bk_rf, hc_bk_gA, hc_set_ap, hc_set_set, Value.category, List.getElem?_cons_zero, List.getElem?_cons_succ, List.set_cons_zero, List.set_cons_succ, List.length_cons, List.length_nil, List.map_cons, List.map_nil, reduceIte, Nat.reduceAdd, Nat.reduceSub, Nat.reduceBEq, Nat.reduceEqDiff, Nat.reduceLeDiff, Nat.reduceLT, true_and, and_true, Bool.false_eq_true, reduceCtorEq, if_true, if_false, hc_xx, hc_ofNat, hc_10, not_true_eq_false, not_false_eq_true, ge_iff_le, oMp, hc_set_at, e1, nI_s1]
    exact L
  | succ a ih =>
    intro f ha hs hv
    rw [dI_1]
    have e1 : ¬ nI a < 0 := nI_pos (by omega)
    rw [hm49_9]
    simp only [hma49, hma49_1, hc_on_some, hc_get, hc_put, hc_ri, hc_rl, hc_is, hc_row, hc_wr, hc_mov, hc_smi, hc_sml, hc_fv, hc_ld, hc_kd, hc_sto, hc_pre, hc_two, hc_inc, hc_psh, hc_kp, hc_k1, hc_np, hc_bk_rf, hc_bk_gA, hc_set_ap, hc_set_set, Value.category, List.getElem?_cons_zero, List.getElem?_cons_succ, List.set_cons_zero, List.set_cons_succ, List.length_cons, List.length_nil, List.map_cons, List.map_nil, reduceIte, Nat.reduceAdd, Nat.reduceSub, Nat.reduceBEq, Nat.reduceEqDiff, Nat.reduceLeDiff, Nat.reduceLT, true_and, and_true, Bool.false_eq_true, reduceCtorEq, if_true, if_false, hc_xx, hc_ofNat, hc_10, not_true_eq_false, not_false_eq_true, ge_iff_le, oMp, hc_set_at, e1]
    refine sp_msink (place := a) (e := n) (n := n) (c := c) (f := f) (hc_set_at _ _ _) (by omega) (Nat.le_refl n) hn hc hs fun f' g1 g2 g3 => ?_
    have ih2 := ih f' (by omega) g1 (fun v => by rw [g2 v, hv v])
    simp only [hma49, hma49_1, hc_on_some, hc_get, hc_put, hc_ri, hc_rl, hc_is, hc_row, hc_wr, hc_mov, hc_smi, hc_sml, hc_fv, hc_ld, hc_kd, hc_sto, hc_pre, hc_two, hc_inc, hc_psh, hc_kp, hc_k1, hc_np, hc_bk_rf, hc_bk_gA, hc_set_ap, hc_set_set, Value.category, List.getElem?_cons_zero, List.getElem?_cons_succ, List.set_cons_zero, List.set_cons_succ, List.length_cons, List.length_nil, List.map_cons, List.map_nil, reduceIte, Nat.reduceAdd, Nat.reduceSub, Nat.reduceBEq, Nat.reduceEqDiff, Nat.reduceLeDiff, Nat.reduceLT, true_and, and_true, Bool.false_eq_true, reduceCtorEq, if_true, if_false, hc_xx, hc_ofNat, hc_10, not_true_eq_false, not_false_eq_true, ge_iff_le, oMp, hc_set_at, nI_m1]
    exact ih2

theorem sp_ksort {k : Nat} {l : List Int} {o : hc_O} (h : σ k = some o) (hP : KSo o l) (hk : k < 60) (K : ∀ o' l', KSo o' l' → l'.Perm l → l'.Pairwise (· ≤ ·) → hc_cr G σ G (hc_set σ k o') → Q G (hc_set σ k o') none none) : hc_wp G σ none 2 0 [some (.inl (.ref k)), none, none, none] [] Q := by
  obtain ⟨c, f, rfl, h1, h2, h3, h4⟩ := hP
  have L := sp_ksort1 (G := G) (σ := σ) (Q := Q) (k := k) (n := l.length) (c := c) (F := tI f) h1 (by omega) (fun f' x1 x2 s1 s2 => by
    have K2 := K (oKs l.length c f') ((List.range l.length).map (tI f')) ⟨c, f', by simp [oKs], by simpa using h1, h2, h3, CJ_range _ _⟩ (by
      have := perm_list s2
      rw [CJ_list h4] at this
      exact this) (sorted_list s1) (hc_cr.same hk h rfl)
    simp only [hma2, hc_on_some, hc_get, hc_put, hc_ri, hc_rl, hc_is, hc_row, hc_wr, hc_mov, hc_smi, hc_sml, hc_fv, hc_ld, hc_kd, hc_sto, hc_pre, hc_two, hc_inc, hc_psh, hc_kp, hc_k1, hc_np, hc_bk_rf, hc_bk_gA, hc_set_ap, hc_set_set, Value.category, List.getElem?_cons_zero, List.getElem?_cons_succ, List.set_cons_zero, List.set_cons_succ, List.length_cons, List.length_nil, List.map_cons, List.map_nil, reduceIte, Nat.reduceAdd, Nat.reduceSub, Nat.reduceBEq, Nat.reduceEqDiff, Nat.reduceLeDiff, Nat.reduceLT, true_and, and_true, Bool.false_eq_true, reduceCtorEq, if_true, if_false, hc_xx, hc_ofNat, hc_10, not_true_eq_false, not_false_eq_true, ge_iff_le]
    exact K2) (l.length / 2) f (Nat.div_le_self _ _) (fun i c' a1 a2 a3 => by omega) (fun v => rfl)
  rw [hc_set_id h] at L
  have e1 : nI l.length / 2 = nI (l.length / 2) := pk_div (d := 2) (by omega) (by omega) (by omega)
  simp only [hma2, hc_on_some, hc_get, hc_put, hc_ri, hc_rl, hc_is, hc_row, hc_wr, hc_mov, hc_smi, hc_sml, hc_fv, hc_ld, hc_kd, hc_sto, hc_pre, hc_two, hc_inc, hc_psh, hc_kp, hc_k1, hc_np, hc_bk_rf, hc_bk_gA, hc_set_ap, hc_set_set, Value.category, List.getElem?_cons_zero, List.getElem?_cons_succ, List.set_cons_zero, List.set_cons_succ, List.length_cons, List.length_nil, List.map_cons, List.map_nil, reduceIte, Nat.reduceAdd, Nat.reduceSub, Nat.reduceBEq, Nat.reduceEqDiff, Nat.reduceLeDiff, Nat.reduceLT, true_and, and_true, Bool.false_eq_true, reduceCtorEq, if_true, if_false, hc_xx, hc_ofNat, hc_10, not_true_eq_false, not_false_eq_true, ge_iff_le, h, oKs, e1, nI_s1]
  exact ⟨by decide, L⟩
end S23
