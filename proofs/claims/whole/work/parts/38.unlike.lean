/-! runs of like keys; countUnlike -/
def rlc (r : Int) (c : Nat) : List Int → List (Int × Nat)
  | [] => [(r, c)]
  | q :: T => if q = r then rlc r (c + 1) T else (r, c) :: rlc q 1 T
def rle : List Int → List (Int × Nat)
  | [] => []
  | a :: T => rlc a 1 T
theorem rlc_len (T : List Int) : ∀ (r : Int) (c d : Nat), (rlc r c T).length = (rlc r d T).length := by
  induction T with
  | nil => intro r c d; rfl
  | cons q T ih =>
    intro r c d
    unfold rlc
    split
    · exact ih r _ _
    · rfl
theorem rlc_pos (T : List Int) (r : Int) (c : Nat) : 0 < (rlc r c T).length := by
  induction T generalizing r c with
  | nil => simp [rlc]
  | cons q T ih =>
    unfold rlc
    split
    · exact ih _ _
    · simp
theorem rlc_mem (T : List Int) : ∀ (r : Int) (c : Nat) (v : Int), v ∈ (rlc r c T).map Prod.fst ↔ v = r ∨ v ∈ T := by
  induction T with
  | nil => intro r c v; simp [rlc]
  | cons q T ih =>
    intro r c v
    unfold rlc
    split
    · rename_i e
      rw [ih, e]
      simp only [List.mem_cons]
      constructor
      · rintro (h | h)
        · exact Or.inl h
        · exact Or.inr (Or.inr h)
      · rintro (h | h | h)
        · exact Or.inl h
        · exact Or.inl h
        · exact Or.inr h
    · rw [List.map_cons, List.mem_cons, ih, List.mem_cons]
theorem rlc_pw (T : List Int) : ∀ (r : Int) (c : Nat), (r :: T).Pairwise (· ≤ ·) → ((rlc r c T).map Prod.fst).Pairwise (· < ·) := by
  induction T with
  | nil => intro r c h; simp [rlc]
  | cons q T ih =>
    intro r c h
    have h2 := List.pairwise_cons.mp h
    have h3 := List.pairwise_cons.mp h2.2
    unfold rlc
    split
    · rename_i e
      refine ih r _ (List.pairwise_cons.mpr ⟨fun a ha => h2.1 a (List.mem_cons_of_mem _ ha), h3.2⟩)
    · rename_i e
      rw [List.map_cons]
      refine List.pairwise_cons.mpr ⟨fun a ha => ?_, ih q 1 h2.2⟩
      have hq := h2.1 q List.mem_cons_self
      rcases (rlc_mem T q 1 a).mp ha with e2 | e2
      · show r < a
        omega
      · have := h3.1 a e2
        show r < a
        omega
theorem rlc_count (T : List Int) : ∀ (r : Int) (c : Nat), (r :: T).Pairwise (· ≤ ·) → ∀ p ∈ rlc r c T, p.2 = (if p.1 = r then c else 0) + T.count p.1 := by
  induction T with
  | nil =>
    intro r c h p hp
    simp only [rlc, List.mem_singleton] at hp
    subst hp
    simp
  | cons q T ih =>
    intro r c h p hp
    have h2 := List.pairwise_cons.mp h
    have h3 := List.pairwise_cons.mp h2.2
    unfold rlc at hp
    split at hp
    · rename_i e
      have := ih r (c + 1) (List.pairwise_cons.mpr ⟨fun a ha => h2.1 a (List.mem_cons_of_mem _ ha), h3.2⟩) p hp
      rw [this, List.count_cons, e]
      by_cases e2 : p.1 = r
      · rw [if_pos e2, if_pos e2, e2]
        simp
        omega
      · rw [if_neg e2, if_neg e2]
        have : ¬ (r == p.1) = true := by
          rw [beq_iff_eq]
          exact fun e3 => e2 e3.symm
        rw [if_neg this]
        omega
    · rename_i e
      have hq := h2.1 q List.mem_cons_self
      rcases List.mem_cons.mp hp with e2 | e2
      · subst e2
        have nz : (q :: T).count r = 0 := by
          rw [List.count_eq_zero]
          intro hm
          rcases List.mem_cons.mp hm with e3 | e3
          · exact e e3.symm
          · have := h3.1 r e3
            omega
        simp [nz]
      · have hm := (rlc_mem T q 1 p.1).mp (List.mem_map_of_mem (f := Prod.fst) e2)
        have ne : ¬ p.1 = r := by
          intro e3
          rcases hm with e4 | e4
          · exact e (by omega)
          · have := h3.1 _ e4
            omega
        have := ih q 1 h2.2 p e2
        rw [this, if_neg ne, List.count_cons]
        by_cases e4 : p.1 = q
        · rw [if_pos e4, e4]
          simp
          omega
        · rw [if_neg e4]
          have : ¬ (q == p.1) = true := by
            rw [beq_iff_eq]
            exact fun e3 => e4 e3.symm
          rw [if_neg this]
          omega
/-- keys in order, each once, with how often each is in L -/
def PcOf (L : List Int) (Ps : List (Int × Nat)) : Prop := (Ps.map Prod.fst).Pairwise (· < ·) ∧ (∀ v, v ∈ Ps.map Prod.fst ↔ v ∈ L) ∧ ∀ p ∈ Ps, p.2 = L.count p.1
theorem rle_pc {L : List Int} (h : L.Pairwise (· ≤ ·)) : PcOf L (rle L) := by
  cases L with
  | nil => exact ⟨List.Pairwise.nil, fun v => Iff.rfl, fun p hp => by cases hp⟩
  | cons a T =>
    refine ⟨rlc_pw T a 1 h, fun v => (rlc_mem T a 1 v).trans List.mem_cons.symm, fun p hp => ?_⟩
    rw [rlc_count T a 1 h p hp, List.count_cons]
    by_cases e : p.1 = a
    · rw [if_pos e, e]
      simp
      omega
    · rw [if_neg e]
      have : ¬ (a == p.1) = true := by
        rw [beq_iff_eq]
        exact fun e3 => e e3.symm
      rw [if_neg this]
      omega
theorem PcOf.perm {L L' : List Int} {Ps : List (Int × Nat)} (h : PcOf L Ps) (hp : L.Perm L') : PcOf L' Ps :=
  ⟨h.1, fun v => (h.2.1 v).trans hp.mem_iff, fun p hp2 => by rw [h.2.2 p hp2, hp.count_eq]⟩
section S38
variable {G : hc_G} {σ : hc_H} {t : hc_T} {Q : hc_Q}
theorem sp_unlike {L : List Int} {o : hc_O} (h : σ 10 = some o) (hP : KSo o L) (K : Q G σ t (some (.inl (.int (nI (rle L).length))))) : hc_wp G σ t 15 0 [some (.inl (.ref 10)), none, none] [] Q := by
  obtain ⟨ck, fk, rfl, k1, k2, k3, k4⟩ := hP
  have loop : ∀ (T P : List Int) (p : Int) (m : Nat), P ++ p :: T = L → m + (rlc p 0 T).length = (rle L).length + 1 → m ≤ P.length + 1 → hc_wp G σ t 15 4 [some (.inl (.ref 10)), some (.inl (.int (nI m))), some (.inl (.int (nI (P.length + 1))))] [] Q := by
    intro T
    induction T with
    | nil =>
      intro P p m hL hm hmb
      have hl : L.length = P.length + 1 := by
        rw [← hL]
        simp
      have e1 : nI L.length ≤ nI (P.length + 1) := by
        rw [hl]
        exact Int32.le_refl _
      have em : m = (rle L).length := by
        have : (rlc p 0 []).length = 1 := rfl
        omega
      subst em
      rw [hm15_4]
      simp only [hma15, hc_on_some, hc_get, hc_put, hc_ri, hc_rl, hc_is, hc_row, hc_wr, hc_mov, hc_smi, hc_sml, hc_fv, hc_ld, hc_kd, hc_sto, hc_pre, hc_two, hc_inc, hc_psh, hc_kp, hc_k1, hc_np, hc_bk_rf, hc_bk_gA, hc_set_ap, hc_set_set, Value.category, List.getElem?_cons_zero, List.getElem?_cons_succ, List.set_cons_zero, List.set_cons_succ, List.length_cons, List.length_nil, List.map_cons, List.map_nil, reduceIte, Nat.reduceAdd, Nat.reduceSub, Nat.reduceBEq, Nat.reduceEqDiff, Nat.reduceLeDiff, Nat.reduceLT, true_and, and_true, Bool.false_eq_true, reduceCtorEq, if_true, if_false, hc_xx, hc_ofNat, hc_10, not_true_eq_false, not_false_eq_true, ge_iff_le, h, oKs, e1]
      exact K
    | cons q T ih =>
      intro P p m hL hm hmb
      have hl : L.length = P.length + 1 + (T.length + 1) := by
        rw [← hL]
        simp
        omega
      have e1 : ¬ nI L.length ≤ nI (P.length + 1) := nI_ge (by omega) (by omega)
      have ez : ¬ nI (P.length + 1) = 0 := nI_ne0 (by omega) (by omega)
      have i1 : hc_inn (nI (P.length + 1)) ck := inn_nI (by omega) (by omega)
      have i2 : hc_inn (nI P.length) ck := inn_nI (by omega) (by omega)
      have c1 : (nI (P.length + 1)).toNatClampNeg = P.length + 1 := nI_clamp (by omega)
      have c2 : (nI P.length).toNatClampNeg = P.length := nI_clamp (by omega)
      have v1 : (fk P.length).toInt = p := k4 _ _ (by rw [← hL, List.getElem?_append_right (Nat.le_refl _), Nat.sub_self]; rfl)
      have v2 : (fk (P.length + 1)).toInt = q := k4 _ _ (by rw [← hL, List.getElem?_append_right (by omega), Nat.add_sub_cancel_left]; rfl)
      have el : (P ++ [p]).length = P.length + 1 := by simp
      rw [hm15_4]
      by_cases e : q = p
      · have e2 : fk (P.length + 1) = fk P.length := Int64.toInt_inj.mp (by rw [v1, v2, e])
        have I := ih (P ++ [p]) q m (by rw [← hL]; simp) (by
          rw [← hm, e]
          show m + (rlc p 0 T).length = m + (rlc p 0 (p :: T)).length
          rw [rlc, if_pos rfl, rlc_len T p 0 1]) (by rw [el]; omega)
        rw [el] at I
        simp only [hma15, hc_on_some, hc_get, hc_put, hc_ri, hc_rl, hc_is, hc_row, hc_wr, hc_mov, hc_smi, hc_sml, hc_fv, hc_ld, hc_kd, hc_sto, hc_pre, hc_two, hc_inc, hc_psh, hc_kp, hc_k1, hc_np, hc_bk_rf, hc_bk_gA, hc_set_ap, hc_set_set, Value.category, List.getElem?_cons_zero, List.getElem?_cons_succ, List.set_cons_zero, List.set_cons_succ, List.length_cons, List.length_nil, List.map_cons, List.map_nil, reduceIte, Nat.reduceAdd, Nat.reduceSub, Nat.reduceBEq, Nat.reduceEqDiff, Nat.reduceLeDiff, Nat.reduceLT, true_and, and_true, Bool.false_eq_true, reduceCtorEq, if_true, if_false, hc_xx, hc_ofNat, hc_10, not_true_eq_false, not_false_eq_true, ge_iff_le, h, oKs, e1, ez, i1, i2, c1, c2, nI_pred, lgc_eq, e2, nI_1]
        exact I
      · have e2 : ¬ fk (P.length + 1) = fk P.length := fun e3 => e (by rw [← v1, ← v2, e3])
        have I := ih (P ++ [p]) q (m + 1) (by rw [← hL]; simp) (by
          rw [← hm, rlc, if_neg e, List.length_cons, rlc_len T q 0 1]
          omega) (by rw [el]; omega)
        rw [el] at I
        simp only [hma15, hc_on_some, hc_get, hc_put, hc_ri, hc_rl, hc_is, hc_row, hc_wr, hc_mov, hc_smi, hc_sml, hc_fv, hc_ld, hc_kd, hc_sto, hc_pre, hc_two, hc_inc, hc_psh, hc_kp, hc_k1, hc_np, hc_bk_rf, hc_bk_gA, hc_set_ap, hc_set_set, Value.category, List.getElem?_cons_zero, List.getElem?_cons_succ, List.set_cons_zero, List.set_cons_succ, List.length_cons, List.length_nil, List.map_cons, List.map_nil, reduceIte, Nat.reduceAdd, Nat.reduceSub, Nat.reduceBEq, Nat.reduceEqDiff, Nat.reduceLeDiff, Nat.reduceLT, true_and, and_true, Bool.false_eq_true, reduceCtorEq, if_true, if_false, hc_xx, hc_ofNat, hc_10, not_true_eq_false, not_false_eq_true, ge_iff_le, h, oKs, e1, ez, i1, i2, c1, c2, nI_pred, lgc_eq, e2, nI_1]
        exact I
  cases L with
  | nil =>
    have e1 : nI ([] : List Int).length ≤ 0 := by
      rw [List.length_nil, nI_0]
      exact Int32.le_refl _
    simp only [hma15, hc_on_some, hc_get, hc_put, hc_ri, hc_rl, hc_is, hc_row, hc_wr, hc_mov, hc_smi, hc_sml, hc_fv, hc_ld, hc_kd, hc_sto, hc_pre, hc_two, hc_inc, hc_psh, hc_kp, hc_k1, hc_np, hc_bk_rf, hc_bk_gA, hc_set_ap, hc_set_set, Value.category, List.getElem?_cons_zero, List.getElem?_cons_succ, List.set_cons_zero, List.set_cons_succ, List.length_cons, List.length_nil, List.map_cons, List.map_nil, reduceIte, Nat.reduceAdd, Nat.reduceSub, Nat.reduceBEq, Nat.reduceEqDiff, Nat.reduceLeDiff, Nat.reduceLT, true_and, and_true, Bool.false_eq_true, reduceCtorEq, if_true, if_false, hc_xx, hc_ofNat, hc_10, not_true_eq_false, not_false_eq_true, ge_iff_le]
    rw [hm15_4]
    simp only [List.length_nil] at h e1
    have K2 := K
    have : nI (rle ([] : List Int)).length = 0 := nI_0
    rw [this] at K2
    simp only [hma15, hc_on_some, hc_get, hc_put, hc_ri, hc_rl, hc_is, hc_row, hc_wr, hc_mov, hc_smi, hc_sml, hc_fv, hc_ld, hc_kd, hc_sto, hc_pre, hc_two, hc_inc, hc_psh, hc_kp, hc_k1, hc_np, hc_bk_rf, hc_bk_gA, hc_set_ap, hc_set_set, Value.category, List.getElem?_cons_zero, List.getElem?_cons_succ, List.set_cons_zero, List.set_cons_succ, List.length_cons, List.length_nil, List.map_cons, List.map_nil, reduceIte, Nat.reduceAdd, Nat.reduceSub, Nat.reduceBEq, Nat.reduceEqDiff, Nat.reduceLeDiff, Nat.reduceLT, true_and, and_true, Bool.false_eq_true, reduceCtorEq, if_true, if_false, hc_xx, hc_ofNat, hc_10, not_true_eq_false, not_false_eq_true, ge_iff_le, h, oKs, e1, List.length_nil]
    exact K2
  | cons a T =>
    have hlt : T.length + 1 < 2 ^ 31 := by
      have : (a :: T).length = T.length + 1 := rfl
      omega
    have e1 : ¬ nI (T.length + 1) ≤ 0 := nI_nle (by omega) hlt
    have L2 := loop T [] a 1 rfl (by
      show 1 + (rlc a 0 T).length = (rlc a 1 T).length + 1
      rw [rlc_len T a 0 1]
      omega) (by simp)
    simp only [List.length_nil] at L2
    have z1 : nI 1 = 1 := by decide
    rw [z1] at L2
    simp only [hma15, hc_on_some, hc_get, hc_put, hc_ri, hc_rl, hc_is, hc_row, hc_wr, hc_mov, hc_smi, hc_sml, hc_fv, hc_ld, hc_kd, hc_sto, hc_pre, hc_two, hc_inc, hc_psh, hc_kp, hc_k1, hc_np, hc_bk_rf, hc_bk_gA, hc_set_ap, hc_set_set, Value.category, List.getElem?_cons_zero, List.getElem?_cons_succ, List.set_cons_zero, List.set_cons_succ, List.length_cons, List.length_nil, List.map_cons, List.map_nil, reduceIte, Nat.reduceAdd, Nat.reduceSub, Nat.reduceBEq, Nat.reduceEqDiff, Nat.reduceLeDiff, Nat.reduceLT, true_and, and_true, Bool.false_eq_true, reduceCtorEq, if_true, if_false, hc_xx, hc_ofNat, hc_10, not_true_eq_false, not_false_eq_true, ge_iff_le]
    rw [hm15_4]
    have z2 : (0 : Int32) + 1 = 1 := by decide
    simp only [hma15, hc_on_some, hc_get, hc_put, hc_ri, hc_rl, hc_is, hc_row, hc_wr, hc_mov, hc_smi, hc_sml, hc_fv, hc_ld, hc_kd, hc_sto, hc_pre, hc_two, hc_inc, hc_psh, hc_kp, hc_k1, hc_np, hc_bk_rf, hc_bk_gA, hc_set_ap, hc_set_set, Value.category, List.getElem?_cons_zero, List.getElem?_cons_succ, List.set_cons_zero, List.set_cons_succ, List.length_cons, List.length_nil, List.map_cons, List.map_nil, reduceIte, Nat.reduceAdd, Nat.reduceSub, Nat.reduceBEq, Nat.reduceEqDiff, Nat.reduceLeDiff, Nat.reduceLT, true_and, and_true, Bool.false_eq_true, reduceCtorEq, if_true, if_false, hc_xx, hc_ofNat, hc_10, not_true_eq_false, not_false_eq_true, ge_iff_le, h, oKs, e1, z2]
    exact L2
end S38
