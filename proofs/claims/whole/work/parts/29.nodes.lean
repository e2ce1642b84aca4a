/-! Layout.takeNodes -/
def uk (v : Int) : Int × Int := (v / 1000001 - 500000, v % 1000001 - 500000)
theorem uk_kc {x y : Int} (h : inb x y) : uk (kc x y) = (x, y) := by
  unfold uk kc
  obtain ⟨h1, h2, h3, h4⟩ := h
  ext <;> simp only <;> omega
theorem kc_bd {x y : Int} (h : inb x y) : 0 ≤ kc x y ∧ kc x y < 1000002000001 := by
  unfold kc
  obtain ⟨h1, h2, h3, h4⟩ := h
  omega
theorem uk_in {v : Int} (h : 0 ≤ v ∧ v < 1000002000001) : inb (uk v).1 (uk v).2 := by
  unfold uk inb
  simp only
  omega
section S29
variable {G : hc_G} {σ : hc_H} {t : hc_T} {Q : hc_Q}
theorem uk64 {v : Int64} (h : 0 ≤ v.toInt ∧ v.toInt < 1000002000001) : ((v / 1000001).toInt32 - 500000).toInt = (uk v.toInt).1 ∧ ((v - v / 1000001 * 1000001).toInt32 - 500000).toInt = (uk v.toInt).2 := by
  have l1 : (1000001 : Int64).toInt = 1000001 := rfl
  have l2 : (500000 : Int32).toInt = 500000 := rfl
  have a1 : (v / 1000001).toInt = v.toInt / 1000001 := by rw [i64_div h.1 (by rw [l1]; omega), l1]
  have a2 : (v / 1000001).toInt32.toInt = v.toInt / 1000001 := by rw [i32_of64 (by rw [a1]; omega) (by rw [a1]; omega), a1]
  have a3 : (v / 1000001 * 1000001).toInt = v.toInt / 1000001 * 1000001 := by rw [i64_mul (by rw [a1, l1]; omega) (by rw [a1, l1]; omega), a1, l1]
  have a4 : (v - v / 1000001 * 1000001).toInt = v.toInt % 1000001 := by
    rw [i64_sub (by rw [a3]; omega) (by rw [a3]; omega), a3]
    omega
  have a5 : (v - v / 1000001 * 1000001).toInt32.toInt = v.toInt % 1000001 := by rw [i32_of64 (by rw [a4]; omega) (by rw [a4]; omega), a4]
  constructor
  · rw [i32_sub (by rw [a2, l2]; omega) (by rw [a2, l2]; omega), a2, l2]
    rfl
  · rw [i32_sub (by rw [a5, l2]; omega) (by rw [a5, l2]; omega), a5, l2]
    rfl
theorem CI_of {f : Nat → Int32} {l : List Int} (h : ∀ j (hj : j < l.length), (f j).toInt = l[j]) : CI f l := by
  intro i v hi
  obtain ⟨h1, h2⟩ := List.getElem?_eq_some_iff.mp hi
  rw [h i h1, h2]
theorem sp_takeNodes {k kh : Nat} {fs : List hc_F} {oh ok : hc_O} {l : List (Int × Int)} {L : List Int} (q1 : k ≠ kh) (q2 : kh ≠ 10) (h : σ k = some (1, .inl (.ref kh) :: fs)) (hh : σ kh = some oh) (hH : PLo oh l l.length) (hk : σ 10 = some ok) (hK : KSo ok L) (hL : L.length ≤ 6000) (hb : ∀ v ∈ L, 0 ≤ v ∧ v < 1000002000001) (q3 : kh < 60)
    (K : ∀ G' o', PLo o' (L.map uk) L.length → hc_cr G σ G' (hc_set σ kh o') → Q G' (hc_set σ kh o') none none) :
    hc_wp G σ none 6 0 [some (.inl (.ref k)), some (.inl (.ref 10)), none] [] Q := by
  obtain ⟨ck, fk, rfl, k1, k2, k3, k4⟩ := hK
  have hH' := hH
  obtain ⟨cx0, fx0, cy0, fy0, rfl, -⟩ := hH'
  have n1 : ∀ o, hc_set σ kh o k = some (1, .inl (.ref kh) :: fs) := fun o => by rw [hc_set_ne σ o q1]; exact h
  have n2 : ∀ o, hc_set σ kh o 10 = some (oKs L.length ck fk) := fun o => by rw [hc_set_ne σ o (Ne.symm q2)]; exact hk
  have q2' : ¬ 10 = kh := Ne.symm q2
  have loop : ∀ (d i : Nat) (G1 : hc_G) (cx cy : Nat) (fx fy : Nat → Int32), d + i = L.length → L.length ≤ cx → L.length ≤ cy → 16 ≤ cx → 16 ≤ cy → cx ≤ 12000 → cy ≤ 12000 → (∀ j (hj : j < L.length), j < i → (fx j).toInt = (uk L[j]).1 ∧ (fy j).toInt = (uk L[j]).2) → hc_cr G σ G1 (hc_set σ kh (oPl L.length cx fx cy fy)) → hc_wp G1 (hc_set σ kh (oPl L.length cx fx cy fy)) none 6 24 [some (.inl (.ref k)), some (.inl (.ref 10)), some (.inl (.int (nI i)))] [] Q := by
    intro d
    induction d with
    | zero =>
      intro i G1 cx cy fx fy hd r1 r2 r3 r4 r5 r6 hf hcr
      have e1 : nI L.length ≤ nI i := by
        have : i = L.length := by omega
        rw [this]
        exact Int32.le_refl _
      rw [hm6_24]
      simp only [hm6_25, hm6_26, hm6_29, hm6_32, hm6_33, hm6_36, hm6_39, hm6_40, hm6_41, hm6_44, hm6_45, hm6_46, hm6_49, hm6_50, hm6_51, hm6_53, hm6_54, hm6_55, hm6_56, hm6_59, hm6_62, hm6_63, hm6_64, hm6_67, hm6_68, hm6_69, hm6_72, hm6_73, hm6_74, hm6_76, hm6_77, hm6_78, hm6_81, hm6_84, hc_on_some, hc_get, hc_put, hc_ri, hc_rl, hc_is, hc_row, hc_wr, hc_mov, hc_smi, hc_sml, hc_fv, hc_ld, hc_kd, hc_sto, hc_pre, hc_two, hc_inc, hc_psh, hc_kp, hc_k1, hc_np, hc_bk_rf, hc_bk_gA, hc_set_ap, hc_set_set, Value.category, List.getElem?_cons_zero, List.getElem?_cons_succ, List.set_cons_zero, List.set_cons_succ, List.length_cons, List.length_nil, List.map_cons, List.map_nil, reduceIte, Nat.reduceAdd, Nat.reduceSub, Nat.reduceBEq, Nat.reduceEqDiff, Nat.reduceLeDiff, Nat.reduceLT, true_and, and_true, Bool.false_eq_true, reduceCtorEq, if_true, if_false, hc_xx, hc_ofNat, hc_10, not_true_eq_false, not_false_eq_true, ge_iff_le, q1, q2', hk, oKs, e1]
      refine K G1 _ ⟨cx, fx, cy, fy, by rw [List.length_map], r1, r2, r3, r4, r5, r6, CI_of fun j hj => ?_, CI_of fun j hj => ?_⟩ hcr
      · simp only [List.length_map] at hj
        simp only [List.getElem_map]
        exact (hf j hj (by omega)).1
      · simp only [List.length_map] at hj
        simp only [List.getElem_map]
        exact (hf j hj (by omega)).2
    | succ d ih =>
      intro i G1 cx cy fx fy hd r1 r2 r3 r4 r5 r6 hf hcr
      have e1 : ¬ nI L.length ≤ nI i := nI_ge (by omega) (by omega)
      have i1 : hc_inn (nI i) cx := inn_nI (by omega) (by omega)
      have i2 : hc_inn (nI i) cy := inn_nI (by omega) (by omega)
      have i3 : hc_inn (nI i) ck := inn_nI (by omega) (by omega)
      have e4 : (nI i).toNatClampNeg = i := nI_clamp (by omega)
      have z1 : ¬ (1000001 : Int64) = 0 := by decide
      rw [hm6_24]
      simp only [hm6_25, hm6_26, hm6_29, hm6_32, hm6_33, hm6_36, hm6_39, hm6_40, hm6_41, hm6_44, hm6_45, hm6_46, hm6_49, hm6_50, hm6_51, hm6_53, hm6_54, hm6_55, hm6_56, hm6_59, hm6_62, hm6_63, hm6_64, hm6_67, hm6_68, hm6_69, hm6_72, hm6_73, hm6_74, hm6_76, hm6_77, hm6_78, hm6_81, hm6_84, hc_on_some, hc_get, hc_put, hc_ri, hc_rl, hc_is, hc_row, hc_wr, hc_mov, hc_smi, hc_sml, hc_fv, hc_ld, hc_kd, hc_sto, hc_pre, hc_two, hc_inc, hc_psh, hc_kp, hc_k1, hc_np, hc_bk_rf, hc_bk_gA, hc_set_ap, hc_set_set, Value.category, List.getElem?_cons_zero, List.getElem?_cons_succ, List.set_cons_zero, List.set_cons_succ, List.length_cons, List.length_nil, List.map_cons, List.map_nil, reduceIte, Nat.reduceAdd, Nat.reduceSub, Nat.reduceBEq, Nat.reduceEqDiff, Nat.reduceLeDiff, Nat.reduceLT, true_and, and_true, Bool.false_eq_true, reduceCtorEq, if_true, if_false, hc_xx, hc_ofNat, hc_10, not_true_eq_false, not_false_eq_true, ge_iff_le, q1, q2', h, hk, oKs, e1, i1, i2, i3, e4, z1, nI_1]
      have hi : i < L.length := by omega
      have v1 : (fk i).toInt = L[i] := k4.at hi
      have u := uk64 (v := fk i) (by rw [v1]; exact hb _ (List.getElem_mem hi))
      rw [v1] at u
      refine ih (i + 1) G1 cx cy _ _ (by omega) r1 r2 r3 r4 r5 r6 (fun j hj hji => ?_) (hcr.tr ?_)
      · by_cases e : j = i
        · subst e
          simp only [upd, if_true]
          exact u
        · simp only [upd, if_neg e]
          exact hf j hj (by omega)
      · have := hc_cr.same (G := G1) (σ := hc_set σ kh (oPl L.length cx fx cy fy)) (o := oPl L.length cx (upd fx i ((fk i / 1000001).toInt32 - 500000)) cy (upd fy i ((fk i - fk i / 1000001 * 1000001).toInt32 - 500000))) q3 (hc_set_at _ _ _) rfl
        rw [hc_set_set] at this
        exact this
  simp only [hm6_0, hm6_1, hm6_4, hm6_5, hm6_8, hm6_11, hm6_12, hm6_15, hm6_16, hm6_19, hm6_22, hm6_23, hc_on_some, hc_get, hc_put, hc_ri, hc_rl, hc_is, hc_row, hc_wr, hc_mov, hc_smi, hc_sml, hc_fv, hc_ld, hc_kd, hc_sto, hc_pre, hc_two, hc_inc, hc_psh, hc_kp, hc_k1, hc_np, hc_bk_rf, hc_bk_gA, hc_set_ap, hc_set_set, Value.category, List.getElem?_cons_zero, List.getElem?_cons_succ, List.set_cons_zero, List.set_cons_succ, List.length_cons, List.length_nil, List.map_cons, List.map_nil, reduceIte, Nat.reduceAdd, Nat.reduceSub, Nat.reduceBEq, Nat.reduceEqDiff, Nat.reduceLeDiff, Nat.reduceLT, true_and, and_true, Bool.false_eq_true, reduceCtorEq, if_true, if_false, hc_xx, hc_ofNat, hc_10, not_true_eq_false, not_false_eq_true, ge_iff_le, q1, q2', h, hh, hk, oKs]
  refine sp_mkr hh hH (by omega) q3 fun G1 o1 hP1 hcr1 => ?_
  obtain ⟨cx, fx, cy, fy, rfl, h1, h2, h3, h4, h5, h6, h7, h8⟩ := hP1
  dsimp only
  rw [hc_bk_np rfl rfl]
  simp only [hm6_0, hm6_1, hm6_4, hm6_5, hm6_8, hm6_11, hm6_12, hm6_15, hm6_16, hm6_19, hm6_22, hm6_23, hc_on_some, hc_get, hc_put, hc_ri, hc_rl, hc_is, hc_row, hc_wr, hc_mov, hc_smi, hc_sml, hc_fv, hc_ld, hc_kd, hc_sto, hc_pre, hc_two, hc_inc, hc_psh, hc_kp, hc_k1, hc_np, hc_bk_rf, hc_bk_gA, hc_set_ap, hc_set_set, Value.category, List.getElem?_cons_zero, List.getElem?_cons_succ, List.set_cons_zero, List.set_cons_succ, List.length_cons, List.length_nil, List.map_cons, List.map_nil, reduceIte, Nat.reduceAdd, Nat.reduceSub, Nat.reduceBEq, Nat.reduceEqDiff, Nat.reduceLeDiff, Nat.reduceLT, true_and, and_true, Bool.false_eq_true, reduceCtorEq, if_true, if_false, hc_xx, hc_ofNat, hc_10, not_true_eq_false, not_false_eq_true, ge_iff_le, q1, q2', h, hh, hk, oKs]
  refine loop L.length 0 G1 cx cy fx fy (by omega) (by omega) (by omega) h3 h4 h5 h6 (fun j hj hj0 => by omega) (hcr1.tr ?_)
  have := hc_cr.same (G := G1) (σ := hc_set σ kh (oPl l.length cx fx cy fy)) (o := oPl L.length cx fx cy fy) q3 (hc_set_at _ _ _) rfl
  rw [hc_set_set] at this
  exact this
end S29
