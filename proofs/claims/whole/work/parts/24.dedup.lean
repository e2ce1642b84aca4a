/-! doubles dropped from a row in order -/
/-- the first i of F, each once, are the first m of g -/
def Dd (F : Nat → Int) (i m : Nat) (g : Nat → Int) : Prop := m ≤ i ∧ (∀ j, i ≤ j → g j = F j) ∧ (∀ a b, a < b → b < m → g a < g b) ∧ (∀ a, a < m → ∃ j, j < i ∧ g a = F j) ∧ ∀ j, j < i → ∃ a, a < m ∧ F j = g a
theorem Dd.start (F : Nat → Int) : Dd F 0 0 F := ⟨Nat.le_refl _, fun _ _ => rfl, fun _ _ _ h => by omega, fun _ h => by omega, fun _ h => by omega⟩
theorem Dd.skip {F g : Nat → Int} {i m : Nat} (h : Dd F i m g) (hm : 0 < m) (he : g (m - 1) = g i) : Dd F (i + 1) m g := by
  obtain ⟨h1, h2, h3, h4, h5⟩ := h
  refine ⟨by omega, fun j hj => h2 j (by omega), h3, fun a ha => ?_, fun j hj => ?_⟩
  · obtain ⟨j, q1, q2⟩ := h4 a ha
    exact ⟨j, by omega, q2⟩
  · by_cases q : j = i
    · subst q
      exact ⟨m - 1, by omega, by rw [he, h2 j (Nat.le_refl _)]⟩
    · exact h5 j (by omega)
theorem Dd.keep {F g : Nat → Int} {i m n : Nat} (h : Dd F i m g) (hs : ∀ a b, a ≤ b → b < n → F a ≤ F b) (hi : i < n) (he : 0 < m → g (m - 1) ≠ g i) : Dd F (i + 1) (m + 1) (uI g m (g i)) := by
  obtain ⟨h1, h2, h3, h4, h5⟩ := h
  refine ⟨by omega, fun j hj => by rw [uI_n g _ (by omega)]; exact h2 j (by omega), fun a b q1 q2 => ?_, fun a ha => ?_, fun j hj => ?_⟩
  · by_cases q3 : b = m
    · subst q3
      rw [uI_s, uI_n g _ (by omega)]
      obtain ⟨j, p1, p2⟩ := h4 a q1
      have e1 := he (by omega)
      obtain ⟨j2, p3, p4⟩ := h4 (b - 1) (by omega)
      have e2 := hs j2 i (by omega) hi
      rw [h2 i (Nat.le_refl _)] at e1 ⊢
      by_cases q4 : a = b - 1
      · subst q4
        omega
      · have := h3 a (b - 1) (by omega) (by omega)
        omega
    · rw [uI_n g _ q3, uI_n g _ (by omega)]
      exact h3 a b q1 (by omega)
  · by_cases q3 : a = m
    · subst q3
      rw [uI_s]
      exact ⟨i, by omega, h2 i (Nat.le_refl _)⟩
    · rw [uI_n g _ q3]
      obtain ⟨j, p1, p2⟩ := h4 a (by omega)
      exact ⟨j, by omega, p2⟩
  · by_cases q : j = i
    · subst q
      exact ⟨m, by omega, by rw [uI_s, h2 j (Nat.le_refl _)]⟩
    · obtain ⟨a, p1, p2⟩ := h5 j (by omega)
      exact ⟨a, by omega, by rw [uI_n g _ (by omega)]; exact p2⟩
theorem Dd.list {F g : Nat → Int} {n m : Nat} (h : Dd F n m g) : ((List.range m).map g).Pairwise (· < ·) ∧ ∀ v, v ∈ (List.range m).map g ↔ v ∈ (List.range n).map F := by
  obtain ⟨h1, h2, h3, h4, h5⟩ := h
  refine ⟨?_, fun v => ?_⟩
  · rw [List.pairwise_iff_getElem]
    intro i j hi hj hij
    simp only [List.length_map, List.length_range] at hi hj
    simp only [List.getElem_map, List.getElem_range]
    exact h3 i j hij hj
  · simp only [List.mem_map, List.mem_range]
    constructor
    · rintro ⟨a, ha, rfl⟩
      obtain ⟨j, q1, q2⟩ := h4 a ha
      exact ⟨j, q1, q2.symm⟩
    · rintro ⟨j, hj, rfl⟩
      obtain ⟨a, q1, q2⟩ := h5 j hj
      exact ⟨a, q1, q2.symm⟩
theorem sorted_at {l : List Int} (h : l.Pairwise (· ≤ ·)) {f : Nat → Int64} (hc : CJ f l) : ∀ a b, a ≤ b → b < l.length → tI f a ≤ tI f b := by
  intro a b h1 h2
  show (f a).toInt ≤ (f b).toInt
  rw [hc.at (by omega), hc.at h2]
  by_cases q : a = b
  · subst q
    exact Int.le_refl _
  · exact List.pairwise_iff_getElem.mp h a b (by omega) h2 (by omega)
theorem i64_eqI {x y : Int64} : x = y ↔ x.toInt = y.toInt := ⟨fun h => by rw [h], fun h => Int64.toInt_inj.mp h⟩
section S24
variable {G : hc_G} {σ : hc_H} {Q : hc_Q}
theorem sp_kdd {k n c : Nat} {F : Nat → Int} (hn : n ≤ c) (hc : c ≤ 2 ^ 20) (hs : ∀ a b, a ≤ b → b < n → F a ≤ F b) (K : ∀ f' m', Dd F n m' (tI f') → Q G (hc_set σ k (oKs m' c f')) none none) : ∀ (d i m : Nat) (f : Nat → Int64), n = i + d → Dd F i m (tI f) → hc_wp G (hc_set σ k (oKs n c f)) none 4 4 [some (.inl (.ref k)), some (.inl (.int (nI m))), some (.inl (.int (nI i)))] [] Q := by
  intro d
  induction d with
  | zero =>
    intro i m f hd hD
    have e : i = n := by omega
    subst e
    have K2 := K f m hD
    rw [hm4_4]
    simp only [hma4, hc_on_some, hc_get, hc_put, hc_ri, hc_rl, hc_is, hc_row, hc_wr, hc_mov, hc_smi, hc_sml, hc_fv, hc_ld, hc_kd, hc_sto, hc_pre, hc_two, hc_inc, hc_psh, hc_kp, hc_k1, hc_np, hc_bk_rf, hc_bk_gA, hc_set_ap, hc_set_set, Value.category, List.getElem?_cons_zero, List.getElem?_cons_succ, List.set_cons_zero, List.set_cons_succ, List.length_cons, List.length_nil, List.map_cons, List.map_nil, reduceIte, Nat.reduceAdd, Nat.reduceSub, Nat.reduceBEq, Nat.reduceEqDiff, Nat.reduceLeDiff, Nat.reduceLT, true_and, and_true, Bool.false_eq_true, reduceCtorEq, if_true, if_false, hc_xx, hc_ofNat, hc_10, not_true_eq_false, not_false_eq_true, ge_iff_le, oKs, hc_set_at, if_pos (Int32.le_refl (nI i))] at K2 ⊢
    exact K2
  | succ d ih =>
    intro i m f hd hD
    have hmi := hD.1
    have e1 : ¬ nI n ≤ nI i := nI_ge (by omega) (by omega)
    have i1 : hc_inn (nI i) c := inn_nI (by omega) (by omega)
    have i2 : hc_inn (nI m) c := inn_nI (by omega) (by omega)
    have z1 : (nI i).toNatClampNeg = i := nI_clamp (by omega)
    have z2 : (nI m).toNatClampNeg = m := nI_clamp (by omega)
    have e0 : (nI m = 0) = (m = 0) := by rw [show (0 : Int32) = nI 0 from rfl, nI_eq (by omega) (by omega)]
    have keep : (0 < m → f (m - 1) ≠ f i) → hc_wp G (hc_set σ k (oKs n c (vp_updL f m (f i)))) none 4 4 [some (.inl (.ref k)), some (.inl (.int (nI (m + 1)))), some (.inl (.int (nI (i + 1))))] [] Q := fun hne => ih (i + 1) (m + 1) _ (by omega) (by
      rw [tI_upd]
      exact hD.keep hs (by omega) fun h0 => fun q => hne h0 (i64_eqI.mpr q))
    rw [hm4_4]
    by_cases h0 : m = 0
    · have kp := keep fun q => by omega
      have e2 : (m = 0) = True := eq_true h0
      simp only [hma4, hc_on_some, hc_get, hc_put, hc_ri, hc_rl, hc_is, hc_row, hc_wr, hc_mov, hc_smi, hc_sml, hc_fv, hc_ld, hc_kd, hc_sto, hc_pre, hc_two, hc_inc, hc_psh, hc_kp, hc_k1, hc_np, hc_bk_rf, hc_bk_gA, hc_set_ap, hc_set_set, Value.category, List.getElem?_cons_zero, List.getElem?_cons_succ, List.set_cons_zero, List.set_cons_succ, List.length_cons, List.length_nil, List.map_cons, List.map_nil, reduceIte, Nat.reduceAdd, Nat.reduceSub, Nat.reduceBEq, Nat.reduceEqDiff, Nat.reduceLeDiff, Nat.reduceLT, true_and, and_true, Bool.false_eq_true, reduceCtorEq, if_true, if_false, hc_xx, hc_ofNat, hc_10, not_true_eq_false, not_false_eq_true, ge_iff_le, oKs, hc_set_at, e0, e1, i1, i2, z1, z2, nI_1, e2]
      exact kp
    · have e2 : (m = 0) = False := eq_false h0
      have e3 : nI m - 1 = nI (m - 1) := pk_sub (b := 1) (by omega)
      have i3 : hc_inn (nI (m - 1)) c := inn_nI (by omega) (by omega)
      have z3 : (nI (m - 1)).toNatClampNeg = m - 1 := nI_clamp (by omega)
      by_cases h2 : f (m - 1) = f i
      · have sk := ih (i + 1) m f (by omega) (hD.skip (by omega) (by show (f (m - 1)).toInt = (f i).toInt; rw [h2]))
        simp only [hma4, hc_on_some, hc_get, hc_put, hc_ri, hc_rl, hc_is, hc_row, hc_wr, hc_mov, hc_smi, hc_sml, hc_fv, hc_ld, hc_kd, hc_sto, hc_pre, hc_two, hc_inc, hc_psh, hc_kp, hc_k1, hc_np, hc_bk_rf, hc_bk_gA, hc_set_ap, hc_set_set, Value.category, List.getElem?_cons_zero, List.getElem?_cons_succ, List.set_cons_zero, List.set_cons_succ, List.length_cons, List.length_nil, List.map_cons, List.map_nil, reduceIte, Nat.reduceAdd, Nat.reduceSub, Nat.reduceBEq, Nat.reduceEqDiff, Nat.reduceLeDiff, Nat.reduceLT, true_and, and_true, Bool.false_eq_true, reduceCtorEq, if_true, if_false, hc_xx, hc_ofNat, hc_10, not_true_eq_false, not_false_eq_true, ge_iff_le, oKs, hc_set_at, e0, e1, i1, i2, z1, z2, nI_1, e2, e3, i3, z3, lgc_eq, h2]
        exact sk
      · have kp := keep fun _ => h2
        simp only [hma4, hc_on_some, hc_get, hc_put, hc_ri, hc_rl, hc_is, hc_row, hc_wr, hc_mov, hc_smi, hc_sml, hc_fv, hc_ld, hc_kd, hc_sto, hc_pre, hc_two, hc_inc, hc_psh, hc_kp, hc_k1, hc_np, hc_bk_rf, hc_bk_gA, hc_set_ap, hc_set_set, Value.category, List.getElem?_cons_zero, List.getElem?_cons_succ, List.set_cons_zero, List.set_cons_succ, List.length_cons, List.length_nil, List.map_cons, List.map_nil, reduceIte, Nat.reduceAdd, Nat.reduceSub, Nat.reduceBEq, Nat.reduceEqDiff, Nat.reduceLeDiff, Nat.reduceLT, true_and, and_true, Bool.false_eq_true, reduceCtorEq, if_true, if_false, hc_xx, hc_ofNat, hc_10, not_true_eq_false, not_false_eq_true, ge_iff_le, oKs, hc_set_at, e0, e1, i1, i2, z1, z2, nI_1, e2, e3, i3, z3, lgc_eq, h2]
        exact kp

theorem sp_mdd {k n c : Nat} {F : Nat → Int} (hn : n ≤ c) (hc : c ≤ 2 ^ 20) (hs : ∀ a b, a ≤ b → b < n → F a ≤ F b) (K : ∀ f' m', Dd F n m' (tI f') → Q G (hc_set σ k (oMp m' c f')) none none) : ∀ (d i m : Nat) (f : Nat → Int64), n = i + d → Dd F i m (tI f) → hc_wp G (hc_set σ k (oMp n c f)) none 49 81 [some (.inl (.ref k)), some (.inl (.int (nI m))), some (.inl (.int (nI i))), none] [] Q := by
  intro d
  induction d with
  | zero =>
    intro i m f hd hD
    have e : i = n := by omega
    subst e
    have K2 := K f m hD
    rw [hm49_81]
    simp only [hma49, hma49_1, hc_on_some, hc_get, hc_put, hc_ri, hc_rl, hc_is, hc_row, hc_wr, hc_mov, hc_smi, hc_sml, hc_fv, hc_ld, hc_kd, hc_sto, hc_pre, hc_two, hc_inc, hc_psh, hc_kp, hc_k1, hc_np, hc_bk_rf, hc_bk_gA, hc_set_ap, hc_set_set, Value.category, List.getElem?_cons_zero, List.getElem?_cons_succ, List.set_cons_zero, List.set_cons_succ, List.length_cons, List.length_nil, List.map_cons, List.map_nil, reduceIte, Nat.reduceAdd, Nat.reduceSub, Nat.reduceBEq, Nat.reduceEqDiff, Nat.reduceLeDiff, Nat.reduceLT, true_and, and_true, Bool.false_eq_true, reduceCtorEq, if_true, if_false, hc_xx, hc_ofNat, hc_10, not_true_eq_false, not_false_eq_true, ge_iff_le, oMp, hc_set_at, if_pos (Int32.le_refl (nI i))] at K2 ⊢
    exact K2
  | succ d ih =>
    intro i m f hd hD
    have hmi := hD.1
    have e1 : ¬ nI n ≤ nI i := nI_ge (by omega) (by omega)
    have i1 : hc_inn (nI i) c := inn_nI (by omega) (by omega)
    have i2 : hc_inn (nI m) c := inn_nI (by omega) (by omega)
    have z1 : (nI i).toNatClampNeg = i := nI_clamp (by omega)
    have z2 : (nI m).toNatClampNeg = m := nI_clamp (by omega)
    have e0 : (nI m ≤ 0) = (m = 0) := by rw [show (0 : Int32) = nI 0 from rfl, nI_leI (by omega) (by omega)]; simp
    have keep : (0 < m → f (m - 1) ≠ f i) → hc_wp G (hc_set σ k (oMp n c (vp_updL f m (f i)))) none 49 81 [some (.inl (.ref k)), some (.inl (.int (nI (m + 1)))), some (.inl (.int (nI (i + 1)))), none] [] Q := fun hne => ih (i + 1) (m + 1) _ (by omega) (by
      rw [tI_upd]
      exact hD.keep hs (by omega) fun h0 => fun q => hne h0 (i64_eqI.mpr q))
    rw [hm49_81]
    by_cases h0 : m = 0
    · have kp := keep fun q => by omega
      have e2 : (m = 0) = True := eq_true h0
      simp only [hma49, hma49_1, hc_on_some, hc_get, hc_put, hc_ri, hc_rl, hc_is, hc_row, hc_wr, hc_mov, hc_smi, hc_sml, hc_fv, hc_ld, hc_kd, hc_sto, hc_pre, hc_two, hc_inc, hc_psh, hc_kp, hc_k1, hc_np, hc_bk_rf, hc_bk_gA, hc_set_ap, hc_set_set, Value.category, List.getElem?_cons_zero, List.getElem?_cons_succ, List.set_cons_zero, List.set_cons_succ, List.length_cons, List.length_nil, List.map_cons, List.map_nil, reduceIte, Nat.reduceAdd, Nat.reduceSub, Nat.reduceBEq, Nat.reduceEqDiff, Nat.reduceLeDiff, Nat.reduceLT, true_and, and_true, Bool.false_eq_true, reduceCtorEq, if_true, if_false, hc_xx, hc_ofNat, hc_10, not_true_eq_false, not_false_eq_true, ge_iff_le, oMp, hc_set_at, e0, e1, i1, i2, z1, z2, nI_1, e2]
      exact kp
    · have e2 : (m = 0) = False := eq_false h0
      have e3 : nI m - 1 = nI (m - 1) := pk_sub (b := 1) (by omega)
      have i3 : hc_inn (nI (m - 1)) c := inn_nI (by omega) (by omega)
      have z3 : (nI (m - 1)).toNatClampNeg = m - 1 := nI_clamp (by omega)
      by_cases h2 : f (m - 1) = f i
      · have sk := ih (i + 1) m f (by omega) (hD.skip (by omega) (by show (f (m - 1)).toInt = (f i).toInt; rw [h2]))
        simp only [hma49, hma49_1, hc_on_some, hc_get, hc_put, hc_ri, hc_rl, hc_is, hc_row, hc_wr, hc_mov, hc_smi, hc_sml, hc_fv, hc_ld, hc_kd, hc_sto, hc_pre, hc_two, hc_inc, hc_psh, hc_kp, hc_k1, hc_np, hc_bk_rf, hc_bk_gA, hc_set_ap, hc_set_set, Value.category, List.getElem?_cons_zero, List.getElem?_cons_succ, List.set_cons_zero, List.set_cons_succ, List.length_cons, List.length_nil, List.map_cons, List.map_nil, reduceIte, Nat.reduceAdd, Nat.reduceSub, Nat.reduceBEq, Nat.reduceEqDiff, Nat.reduceLeDiff, Nat.reduceLT, true_and, and_true, Bool.false_eq_true, reduceCtorEq, if_true, if_false, hc_xx, hc_ofNat, hc_10, not_true_eq_false, not_false_eq_true, ge_iff_le, oMp, hc_set_at, e0, e1, i1, i2, z1, z2, nI_1, e2, e3, i3, z3, lgc_eq, h2]
        exact sk
      · have kp := keep fun _ => h2
        simp only [hma49, hma49_1, hc_on_some, hc_get, hc_put, hc_ri, hc_rl, hc_is, hc_row, hc_wr, hc_mov, hc_smi, hc_sml, hc_fv, hc_ld, hc_kd, hc_sto, hc_pre, hc_two, hc_inc, hc_psh, hc_kp, hc_k1, hc_np, hc_bk_rf, hc_bk_gA, hc_set_ap, hc_set_set, Value.category, List.getElem?_cons_zero, List.getElem?_cons_succ, List.set_cons_zero, List.set_cons_succ, List.length_cons, List.length_nil, List.map_cons, List.map_nil, reduceIte, Nat.reduceAdd, Nat.reduceSub, Nat.reduceBEq, Nat.reduceEqDiff, Nat.reduceLeDiff, Nat.reduceLT, true_and, and_true, Bool.false_eq_true, reduceCtorEq, if_true, if_false, hc_xx, hc_ofNat, hc_10, not_true_eq_false, not_false_eq_true, ge_iff_le, oMp, hc_set_at, e0, e1, i1, i2, z1, z2, nI_1, e2, e3, i3, z3, lgc_eq, h2]
        exact kp

theorem sp_kdd2 {k : Nat} {l : List Int} {o : hc_O} (h : σ k = some o) (hP : KSo o l) (hs : l.Pairwise (· ≤ ·)) (hk : k < 60) (K : ∀ o' l', KSo o' l' → l'.Pairwise (· < ·) → (∀ v, v ∈ l' ↔ v ∈ l) → hc_cr G σ G (hc_set σ k o') → Q G (hc_set σ k o') none none) : hc_wp G σ none 4 0 [some (.inl (.ref k)), none, none] [] Q := by
  obtain ⟨c, f, rfl, h1, h2, h3, h4⟩ := hP
  have L := sp_kdd (G := G) (σ := σ) (Q := Q) (k := k) (n := l.length) (c := c) (F := tI f) h1 (by omega) (sorted_at hs h4) (fun f' m' hD => by
    have q1 := hD.1
    obtain ⟨q2, q3⟩ := hD.list
    rw [CJ_list h4] at q3
    exact K (oKs m' c f') ((List.range m').map (tI f')) ⟨c, f', by simp [oKs], by simp; omega, h2, h3, CJ_range _ _⟩ q2 q3 (hc_cr.same hk h rfl)) l.length 0 0 f (by omega) (Dd.start _)
  rw [hc_set_id h] at L
  simp only [hma4, hc_on_some, hc_get, hc_put, hc_ri, hc_rl, hc_is, hc_row, hc_wr, hc_mov, hc_smi, hc_sml, hc_fv, hc_ld, hc_kd, hc_sto, hc_pre, hc_two, hc_inc, hc_psh, hc_kp, hc_k1, hc_np, hc_bk_rf, hc_bk_gA, hc_set_ap, hc_set_set, Value.category, List.getElem?_cons_zero, List.getElem?_cons_succ, List.set_cons_zero, List.set_cons_succ, List.length_cons, List.length_nil, List.map_cons, List.map_nil, reduceIte, Nat.reduceAdd, Nat.reduceSub, Nat.reduceBEq, Nat.reduceEqDiff, Nat.reduceLeDiff, Nat.reduceLT, true_and, and_true, Bool.false_eq_true, reduceCtorEq, if_true, if_false, hc_xx, hc_ofNat, hc_10, not_true_eq_false, not_false_eq_true, ge_iff_le, h, oKs]
  exact L
/-- Places.sort of the reference: in order, each once -/
theorem sp_msort {k C : Nat} {l : List Int} {o : hc_O} (h : σ k = some o) (hP : MPo o l C) (hC : C ≤ 2 ^ 20) (hk : k < 60) (K : ∀ o' l', MPo o' l' C → l'.Pairwise (· < ·) → (∀ v, v ∈ l' ↔ v ∈ l) → hc_cr G σ G (hc_set σ k o') → Q G (hc_set σ k o') none none) : hc_wp G σ none 49 0 [some (.inl (.ref k)), none, none, none] [] Q := by
  obtain ⟨c, f, rfl, h1, h2, h3, h4⟩ := hP
  have L := sp_msort1 (G := G) (σ := σ) (Q := Q) (k := k) (n := l.length) (c := c) (F := tI f) h1 (by omega) (fun f' x1 x2 s1 s2 => by
    have L2 := sp_mdd (G := G) (σ := σ) (Q := Q) (k := k) (n := l.length) (c := c) (F := tI f') h1 (by omega) s1 (fun f2 m' hD => by
      have q1 := hD.1
      obtain ⟨q2, q3⟩ := hD.list
      refine K (oMp m' c f2) ((List.range m').map (tI f2)) ⟨c, f2, by simp [oMp], by simp; omega, h2, h3, CJ_range _ _⟩ q2 (fun v => ?_) (hc_cr.same hk h rfl)
      rw [q3]
      have := perm_list s2
      rw [CJ_list h4] at this
      exact this.mem_iff) l.length 0 0 f' (by omega) (Dd.start _)
    simp only [hma49, hma49_1, hc_on_some, hc_get, hc_put, hc_ri, hc_rl, hc_is, hc_row, hc_wr, hc_mov, hc_smi, hc_sml, hc_fv, hc_ld, hc_kd, hc_sto, hc_pre, hc_two, hc_inc, hc_psh, hc_kp, hc_k1, hc_np, hc_bk_rf, hc_bk_gA, hc_set_ap, hc_set_set, Value.category, List.getElem?_cons_zero, List.getElem?_cons_succ, List.set_cons_zero, List.set_cons_succ, List.length_cons, List.length_nil, List.map_cons, List.map_nil, reduceIte, Nat.reduceAdd, Nat.reduceSub, Nat.reduceBEq, Nat.reduceEqDiff, Nat.reduceLeDiff, Nat.reduceLT, true_and, and_true, Bool.false_eq_true, reduceCtorEq, if_true, if_false, hc_xx, hc_ofNat, hc_10, not_true_eq_false, not_false_eq_true, ge_iff_le]
    exact L2) (l.length / 2) f (Nat.div_le_self _ _) (fun i c' a1 a2 a3 => by omega) (fun v => rfl)
  rw [hc_set_id h] at L
  have e1 : nI l.length / 2 = nI (l.length / 2) := pk_div (d := 2) (by omega) (by omega) (by omega)
  simp only [hma49, hma49_1, hc_on_some, hc_get, hc_put, hc_ri, hc_rl, hc_is, hc_row, hc_wr, hc_mov, hc_smi, hc_sml, hc_fv, hc_ld, hc_kd, hc_sto, hc_pre, hc_two, hc_inc, hc_psh, hc_kp, hc_k1, hc_np, hc_bk_rf, hc_bk_gA, hc_set_ap, hc_set_set, Value.category, List.getElem?_cons_zero, List.getElem?_cons_succ, List.set_cons_zero, List.set_cons_succ, List.length_cons, List.length_nil, List.map_cons, List.map_nil, reduceIte, Nat.reduceAdd, Nat.reduceSub, Nat.reduceBEq, Nat.reduceEqDiff, Nat.reduceLeDiff, Nat.reduceLT, true_and, and_true, Bool.false_eq_true, reduceCtorEq, if_true, if_false, hc_xx, hc_ofNat, hc_10, not_true_eq_false, not_false_eq_true, ge_iff_le, h, oMp, e1, nI_s1]
  exact ⟨by decide, L⟩
end S24
