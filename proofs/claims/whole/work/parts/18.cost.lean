/-! what is made, against what the rows hold; contents of rows -/
def hc_pf (c : Nat) : hc_F → Nat
  | .inl _ => 0
  | .inr r => if c = 6 then 0 else if c = 0 then (if r.1 = 20000 then 120000 else 3 * r.1) else 3 * r.1
def hc_po (o : Option hc_O) : Nat := match o with
  | some (c, fs) => (fs.map (hc_pf c)).sum
  | none => 0
def hc_phi (σ : hc_H) : Nat := ((List.range 60).map (fun k => hc_po (σ k))).sum
theorem sum_upd (f g : Nat → Nat) (k : Nat) (hfg : ∀ i, i ≠ k → g i = f i) : ∀ n, k < n → ((List.range n).map g).sum + f k = ((List.range n).map f).sum + g k := by
  intro n
  induction n with
  | zero => intro h; omega
  | succ n ih =>
    intro h
    rw [List.range_succ, List.map_append, List.map_append, List.sum_append, List.sum_append]
    simp only [List.map_cons, List.map_nil, List.sum_cons, List.sum_nil, Nat.add_zero]
    by_cases e : k = n
    · subst e
      have : ((List.range k).map g) = ((List.range k).map f) := List.map_congr_left fun i hi => hfg i (by have := List.mem_range.mp hi; omega)
      rw [this]
      omega
    · have := ih (by omega)
      rw [hfg n (Ne.symm e)]
      omega
theorem hc_phi_set {σ : hc_H} {k : Nat} (o : hc_O) (hk : k < 60) : hc_phi (hc_set σ k o) + hc_po (σ k) = hc_phi σ + hc_po (some o) := by
  unfold hc_phi
  have := sum_upd (fun i => hc_po (σ i)) (fun i => hc_po (hc_set σ k o i)) k (fun i hi => by simp only [hc_set_ne σ o hi]) 60 hk
  simp only [hc_set_at] at this
  exact this
/-- cost of the cells made, against the potential -/
def hc_cr (G : hc_G) (σ : hc_H) (G' : hc_G) (σ' : hc_H) : Prop := G'.2.2.1 + 12 * G'.2.1 + hc_phi σ ≤ G.2.2.1 + 12 * G.2.1 + hc_phi σ'
theorem hc_cr.rf (G : hc_G) (σ : hc_H) : hc_cr G σ G σ := Nat.le_refl _
theorem hc_cr.tr {G1 G2 G3 : hc_G} {σ1 σ2 σ3 : hc_H} (h : hc_cr G1 σ1 G2 σ2) (h2 : hc_cr G2 σ2 G3 σ3) : hc_cr G1 σ1 G3 σ3 := by
  unfold hc_cr at *
  omega
theorem hc_cr.set {G G' : hc_G} {σ : hc_H} {k : Nat} {o0 o : hc_O} (hk : k < 60) (h : σ k = some o0) (hc : G'.2.2.1 + 12 * G'.2.1 + hc_po (some o0) ≤ G.2.2.1 + 12 * G.2.1 + hc_po (some o)) : hc_cr G σ G' (hc_set σ k o) := by
  have := hc_phi_set (σ := σ) o hk
  rw [h] at this
  unfold hc_cr
  omega
theorem hc_cr.same {G : hc_G} {σ : hc_H} {k : Nat} {o0 o : hc_O} (hk : k < 60) (h : σ k = some o0) (hc : hc_po (some o0) = hc_po (some o)) : hc_cr G σ G (hc_set σ k o) := hc_cr.set hk h (by rw [hc]; exact Nat.le_refl _)
def CI (f : Nat → Int32) (l : List Int) : Prop := ∀ i v, l[i]? = some v → (f i).toInt = v
def CJ (f : Nat → Int64) (l : List Int) : Prop := ∀ i v, l[i]? = some v → (f i).toInt = v
theorem CI.add {f : Nat → Int32} {l : List Int} (h : CI f l) (v : Int32) : CI (upd f l.length v) (l ++ [v.toInt]) := by
  intro i w hi
  by_cases e : i < l.length
  · rw [List.getElem?_append_left e] at hi
    simp only [upd, if_neg (Nat.ne_of_lt e)]
    exact h i w hi
  · rw [List.getElem?_append_right (by omega)] at hi
    have hz : i - l.length < 1 := (List.getElem?_eq_some_iff.mp hi).1
    have e2 : i = l.length := by omega
    subst e2
    rw [Nat.sub_self] at hi
    cases hi
    simp [upd]
theorem CJ.add {f : Nat → Int64} {l : List Int} (h : CJ f l) (v : Int64) : CJ (vp_updL f l.length v) (l ++ [v.toInt]) := by
  intro i w hi
  by_cases e : i < l.length
  · rw [List.getElem?_append_left e] at hi
    simp only [vp_updL, if_neg (Nat.ne_of_lt e)]
    exact h i w hi
  · rw [List.getElem?_append_right (by omega)] at hi
    have hz : i - l.length < 1 := (List.getElem?_eq_some_iff.mp hi).1
    have e2 : i = l.length := by omega
    subst e2
    rw [Nat.sub_self] at hi
    cases hi
    simp [vp_updL]
theorem CI.cpy {f g : Nat → Int32} {l : List Int} {n : Nat} (h : CI f l) (hn : l.length ≤ n) : CI (va_cpy f g 0 0 n) l := by
  intro i w hi
  have := (List.getElem?_eq_some_iff.mp hi).1
  rw [← h i w hi]
  unfold va_cpy
  rw [if_pos ⟨by omega, by omega⟩]
  congr 2
  omega
theorem CJ.cpy {f g : Nat → Int64} {l : List Int} {n : Nat} (h : CJ f l) (hn : l.length ≤ n) : CJ (va_cpy f g 0 0 n) l := by
  intro i w hi
  have := (List.getElem?_eq_some_iff.mp hi).1
  rw [← h i w hi]
  unfold va_cpy
  rw [if_pos ⟨by omega, by omega⟩]
  congr 2
  omega
/-- Places of the class: n (as int), the rows x and y of at least m -/
abbrev oPl (n : Nat) (cx : Nat) (fx : Nat → Int32) (cy : Nat) (fy : Nat → Int32) : hc_O := (2, [.inl (.int (nI n)), .inr (cx, .inl fx), .inr (cy, .inl fy)])
def PLo (o : hc_O) (l : List (Int × Int)) (m : Nat) : Prop := ∃ cx fx cy fy, o = oPl l.length cx fx cy fy ∧ m ≤ cx ∧ m ≤ cy ∧ 16 ≤ cx ∧ 16 ≤ cy ∧ cx ≤ 12000 ∧ cy ≤ 12000 ∧ CI fx (l.map Prod.fst) ∧ CI fy (l.map Prod.snd)
theorem PLo.le {o : hc_O} {l : List (Int × Int)} {m m' : Nat} (h : PLo o l m) (hm : m' ≤ m) : PLo o l m' := by
  obtain ⟨cx, fx, cy, fy, h1, h2, h3, h4⟩ := h
  exact ⟨cx, fx, cy, fy, h1, by omega, by omega, h4⟩
section S18
variable {G : hc_G} {σ : hc_H} {Q : hc_Q}
theorem sp_mkr {k m : Nat} {l : List (Int × Int)} {o : hc_O} (h : σ k = some o) (hP : PLo o l l.length) (hm : m ≤ 6000) (hk : k < 60) (K : ∀ G' o', PLo o' l (max m l.length) → hc_cr G σ G' (hc_set σ k o') → Q G' (hc_set σ k o') none none) : hc_wp G σ none 18 0 [some (.inl (.ref k)), some (.inl (.int (nI m)))] [] Q := by
  obtain ⟨cx, fx, cy, fy, rfl, h1, h2, h3, h4, h5, h6, h7, h8⟩ := hP
  have hl1 : (l.map Prod.fst).length = l.length := List.length_map _
  have hl2 : (l.map Prod.snd).length = l.length := List.length_map _
  by_cases hx : m ≤ cx
  · by_cases hy : m ≤ cy
    · have K2 := K G (oPl l.length cx fx cy fy) ⟨cx, fx, cy, fy, rfl, by omega, by omega, h3, h4, h5, h6, h7, h8⟩ (hc_cr.same hk h rfl)
      have hs : hc_set σ k (oPl l.length cx fx cy fy) = σ := by
        funext i
        simp only [hc_set]
        split
        · rename_i e
          rw [e, h]
        · rfl
      rw [hs] at K2
      simp only [hma18, hc_on_some, hc_get, hc_put, hc_ri, hc_rl, hc_is, hc_row, hc_wr, hc_mov, hc_smi, hc_sml, hc_fv, hc_ld, hc_kd, hc_sto, hc_pre, hc_two, hc_inc, hc_psh, hc_kp, hc_k1, hc_np, hc_bk_rf, hc_bk_gA, hc_set_ap, hc_set_set, Value.category, List.getElem?_cons_zero, List.getElem?_cons_succ, List.set_cons_zero, List.set_cons_succ, List.length_cons, List.length_nil, List.map_cons, List.map_nil, reduceIte, Nat.reduceAdd, Nat.reduceSub, Nat.reduceBEq, Nat.reduceEqDiff, Nat.reduceLeDiff, Nat.reduceLT, true_and, and_true, Bool.false_eq_true, reduceCtorEq, if_true, if_false, hc_xx, hc_ofNat, hc_10, not_true_eq_false, not_false_eq_true, ge_iff_le, h, sp_wr0 (σ := σ) (G := G) (k := k) (j := 1) (m := m) (n0 := cx) (f := fx) ⟨_, _, h, by decide, rfl⟩ hx (by omega), sp_wr0 (σ := σ) (G := G) (k := k) (j := 2) (m := m) (n0 := cy) (f := fy) ⟨_, _, h, by decide, rfl⟩ hy (by omega)]
      exact K2
    · have z1 : inF σ k 1 (cx, .inl fx) := ⟨_, _, h, by decide, rfl⟩
      have z2 : inF σ k 2 (cy, .inl fy) := ⟨_, _, h, by decide, rfl⟩
      have K2 := K (hc_gM (hc_gA G (max m (2 * cy))) k 2) (oPl l.length cx fx (max m (2 * cy)) (va_cpy fy (fun _ => 0) 0 0 cy)) ⟨cx, fx, _, _, rfl, by omega, by omega, h3, by omega, h5, by omega, h7, h8.cpy (by omega)⟩ (hc_cr.set hk h (by
        show G.2.2.1 + max m (2 * cy) + 12 * (G.2.1 + 1) + _ ≤ _
        simp [hc_po, hc_pf]
        omega))
      simp only [hma18, hc_on_some, hc_get, hc_put, hc_ri, hc_rl, hc_is, hc_row, hc_wr, hc_mov, hc_smi, hc_sml, hc_fv, hc_ld, hc_kd, hc_sto, hc_pre, hc_two, hc_inc, hc_psh, hc_kp, hc_k1, hc_np, hc_bk_rf, hc_bk_gA, hc_set_ap, hc_set_set, Value.category, List.getElem?_cons_zero, List.getElem?_cons_succ, List.set_cons_zero, List.set_cons_succ, List.length_cons, List.length_nil, List.map_cons, List.map_nil, reduceIte, Nat.reduceAdd, Nat.reduceSub, Nat.reduceBEq, Nat.reduceEqDiff, Nat.reduceLeDiff, Nat.reduceLT, true_and, and_true, Bool.false_eq_true, reduceCtorEq, if_true, if_false, hc_xx, hc_ofNat, hc_10, not_true_eq_false, not_false_eq_true, ge_iff_le, h, sp_wr0 (G := G) (m := m) z1 hx (by omega), sp_wr1 (G := G) (m := m) z2 (by omega) (by omega)]
      exact K2
  · have z1 : inF σ k 1 (cx, .inl fx) := ⟨_, _, h, by decide, rfl⟩
    have z2 : inF (hc_set σ k (oPl l.length (max m (2 * cx)) (va_cpy fx (fun _ => 0) 0 0 cx) cy fy)) k 2 (cy, .inl fy) := ⟨_, _, hc_set_at _ _ _, by decide, rfl⟩
    by_cases hy : m ≤ cy
    · have K2 := K (hc_gM (hc_gA G (max m (2 * cx))) k 1) (oPl l.length (max m (2 * cx)) (va_cpy fx (fun _ => 0) 0 0 cx) cy fy) ⟨_, _, cy, fy, rfl, by omega, by omega, by omega, h4, by omega, h6, h7.cpy (by omega), h8⟩ (hc_cr.set hk h (by
        show G.2.2.1 + max m (2 * cx) + 12 * (G.2.1 + 1) + _ ≤ _
        simp [hc_po, hc_pf]
        omega))
      simp only [hma18, hc_on_some, hc_get, hc_put, hc_ri, hc_rl, hc_is, hc_row, hc_wr, hc_mov, hc_smi, hc_sml, hc_fv, hc_ld, hc_kd, hc_sto, hc_pre, hc_two, hc_inc, hc_psh, hc_kp, hc_k1, hc_np, hc_bk_rf, hc_bk_gA, hc_set_ap, hc_set_set, Value.category, List.getElem?_cons_zero, List.getElem?_cons_succ, List.set_cons_zero, List.set_cons_succ, List.length_cons, List.length_nil, List.map_cons, List.map_nil, reduceIte, Nat.reduceAdd, Nat.reduceSub, Nat.reduceBEq, Nat.reduceEqDiff, Nat.reduceLeDiff, Nat.reduceLT, true_and, and_true, Bool.false_eq_true, reduceCtorEq, if_true, if_false, hc_xx, hc_ofNat, hc_10, not_true_eq_false, not_false_eq_true, ge_iff_le, h, sp_wr1 (G := G) (m := m) z1 (by omega) (by omega), sp_wr0 (G := hc_gM (hc_gA G (max m (2 * cx))) k 1) (m := m) z2 hy (by omega)]
      exact K2
    · have K2 := K (hc_gM (hc_gA (hc_gM (hc_gA G (max m (2 * cx))) k 1) (max m (2 * cy))) k 2) (oPl l.length (max m (2 * cx)) (va_cpy fx (fun _ => 0) 0 0 cx) (max m (2 * cy)) (va_cpy fy (fun _ => 0) 0 0 cy)) ⟨_, _, _, _, rfl, by omega, by omega, by omega, by omega, by omega, by omega, h7.cpy (by omega), h8.cpy (by omega)⟩ (hc_cr.set hk h (by
        show G.2.2.1 + max m (2 * cx) + max m (2 * cy) + 12 * (G.2.1 + 1 + 1) + _ ≤ _
        simp [hc_po, hc_pf]
        omega))
      simp only [hma18, hc_on_some, hc_get, hc_put, hc_ri, hc_rl, hc_is, hc_row, hc_wr, hc_mov, hc_smi, hc_sml, hc_fv, hc_ld, hc_kd, hc_sto, hc_pre, hc_two, hc_inc, hc_psh, hc_kp, hc_k1, hc_np, hc_bk_rf, hc_bk_gA, hc_set_ap, hc_set_set, Value.category, List.getElem?_cons_zero, List.getElem?_cons_succ, List.set_cons_zero, List.set_cons_succ, List.length_cons, List.length_nil, List.map_cons, List.map_nil, reduceIte, Nat.reduceAdd, Nat.reduceSub, Nat.reduceBEq, Nat.reduceEqDiff, Nat.reduceLeDiff, Nat.reduceLT, true_and, and_true, Bool.false_eq_true, reduceCtorEq, if_true, if_false, hc_xx, hc_ofNat, hc_10, not_true_eq_false, not_false_eq_true, ge_iff_le, h, sp_wr1 (G := G) (m := m) z1 (by omega) (by omega), sp_wr1 (G := hc_gM (hc_gA G (max m (2 * cx))) k 1) (m := m) z2 (by omega) (by omega)]
      exact K2
/-- Places.add of the class -/
theorem sp_padd {k : Nat} {l : List (Int × Int)} {o : hc_O} {x y : Int32} (h : σ k = some o) (hP : PLo o l l.length) (hm : l.length < 6000) (hk : k < 60) (K : ∀ G' o', PLo o' (l ++ [(x.toInt, y.toInt)]) (l.length + 1) → hc_cr G σ G' (hc_set σ k o') → Q G' (hc_set σ k o') none none) : hc_wp G σ none 17 0 [some (.inl (.ref k)), some (.inl (.int x)), some (.inl (.int y))] [] Q := by
  obtain ⟨cx, fx, cy, fy, ho, -⟩ := id hP
  subst ho
  simp only [hma17, hc_on_some, hc_get, hc_put, hc_ri, hc_rl, hc_is, hc_row, hc_wr, hc_mov, hc_smi, hc_sml, hc_fv, hc_ld, hc_kd, hc_sto, hc_pre, hc_two, hc_inc, hc_psh, hc_kp, hc_k1, hc_np, hc_bk_rf, hc_bk_gA, hc_set_ap, hc_set_set, Value.category, List.getElem?_cons_zero, List.getElem?_cons_succ, List.set_cons_zero, List.set_cons_succ, List.length_cons, List.length_nil, List.map_cons, List.map_nil, reduceIte, Nat.reduceAdd, Nat.reduceSub, Nat.reduceBEq, Nat.reduceEqDiff, Nat.reduceLeDiff, Nat.reduceLT, true_and, and_true, Bool.false_eq_true, reduceCtorEq, if_true, if_false, hc_xx, hc_ofNat, hc_10, not_true_eq_false, not_false_eq_true, ge_iff_le, h, nI_1]
  refine sp_mkr h hP (by omega) hk fun G' o' hP' hcr => ?_
  obtain ⟨cx, fx, cy, fy, rfl, h1, h2, h3, h4, h5, h6, h7, h8⟩ := hP'
  dsimp only
  rw [hc_bk_np rfl rfl]
  have i1 : hc_inn (nI l.length) cx := inn_nI (by omega) (by omega)
  have i2 : hc_inn (nI l.length) cy := inn_nI (by omega) (by omega)
  have e1 : (nI l.length).toNatClampNeg = l.length := nI_clamp (by omega)
  simp only [hma17, hc_on_some, hc_get, hc_put, hc_ri, hc_rl, hc_is, hc_row, hc_wr, hc_mov, hc_smi, hc_sml, hc_fv, hc_ld, hc_kd, hc_sto, hc_pre, hc_two, hc_inc, hc_psh, hc_kp, hc_k1, hc_np, hc_bk_rf, hc_bk_gA, hc_set_ap, hc_set_set, Value.category, List.getElem?_cons_zero, List.getElem?_cons_succ, List.set_cons_zero, List.set_cons_succ, List.length_cons, List.length_nil, List.map_cons, List.map_nil, reduceIte, Nat.reduceAdd, Nat.reduceSub, Nat.reduceBEq, Nat.reduceEqDiff, Nat.reduceLeDiff, Nat.reduceLT, true_and, and_true, Bool.false_eq_true, reduceCtorEq, if_true, if_false, hc_xx, hc_ofNat, hc_10, not_true_eq_false, not_false_eq_true, ge_iff_le, nI_1, i1, i2, e1]
  have hl1 : (l.map Prod.fst).length = l.length := List.length_map _
  have hl2 : (l.map Prod.snd).length = l.length := List.length_map _
  refine K G' (oPl (l.length + 1) cx (upd fx l.length x) cy (upd fy l.length y)) ⟨cx, _, cy, _, by rw [List.length_append]; rfl, by omega, by omega, h3, h4, h5, h6, ?_, ?_⟩ (hcr.tr ?_)
  · have := h7.add x
    rw [hl1] at this
    simpa using this
  · have := h8.add y
    rw [hl2] at this
    simpa using this
  · have := hc_cr.same (G := G') (σ := hc_set σ k (oPl l.length cx fx cy fy)) (o := oPl (l.length + 1) cx (upd fx l.length x) cy (upd fy l.length y)) hk (hc_set_at _ _ _) rfl
    rw [hc_set_set] at this
    exact this
/-- what is at a place of a list, of which i is a place -/
theorem CI.at {f : Nat → Int32} {l : List Int} (h : CI f l) {i : Nat} (hi : i < l.length) : (f i).toInt = l[i] := h i _ (List.getElem?_eq_getElem hi)
theorem CJ.at {f : Nat → Int64} {l : List Int} (h : CJ f l) {i : Nat} (hi : i < l.length) : (f i).toInt = l[i] := h i _ (List.getElem?_eq_getElem hi)
def oKs (n : Nat) (c : Nat) (f : Nat → Int64) : hc_O := (0, [.inl (.int (nI n)), .inr (c, .inr f)])
/-- Keys: the numbers l -/
def KSo (o : hc_O) (l : List Int) : Prop := ∃ c f, o = oKs l.length c f ∧ l.length ≤ c ∧ 64 ≤ c ∧ c ≤ 20000 ∧ CJ f l
/-- Keys.add, while there are less than 20000 -/
theorem sp_kadd {k : Nat} {l : List Int} {o : hc_O} {v : Int64} (h : σ k = some o) (hP : KSo o l) (hm : l.length < 20000) (hk : k < 60) (K : ∀ G' o', KSo o' (l ++ [v.toInt]) → hc_cr G σ G' (hc_set σ k o') → Q G' (hc_set σ k o') none none) : hc_wp G σ none 1 0 [some (.inl (.ref k)), some (.inl (.long v)), none] [] Q := by
  obtain ⟨c, f, rfl, h1, h2, h3, h4⟩ := hP
  have e0 : nI l.length < 20000 := nI_lt (b := 20000) hm (by omega)
  have e1 : (nI l.length).toNatClampNeg = l.length := nI_clamp (by omega)
  by_cases hl : l.length < c
  · have e2 : nI l.length < nI c := nI_lt hl (by omega)
    have i1 : hc_inn (nI l.length) c := inn_nI hl (by omega)
    simp only [hma1, hc_on_some, hc_get, hc_put, hc_ri, hc_rl, hc_is, hc_row, hc_wr, hc_mov, hc_smi, hc_sml, hc_fv, hc_ld, hc_kd, hc_sto, hc_pre, hc_two, hc_inc, hc_psh, hc_kp, hc_k1, hc_np, hc_bk_rf, hc_bk_gA, hc_set_ap, hc_set_set, Value.category, List.getElem?_cons_zero, List.getElem?_cons_succ, List.set_cons_zero, List.set_cons_succ, List.length_cons, List.length_nil, List.map_cons, List.map_nil, reduceIte, Nat.reduceAdd, Nat.reduceSub, Nat.reduceBEq, Nat.reduceEqDiff, Nat.reduceLeDiff, Nat.reduceLT, true_and, and_true, Bool.false_eq_true, reduceCtorEq, if_true, if_false, hc_xx, hc_ofNat, hc_10, not_true_eq_false, not_false_eq_true, ge_iff_le, h, oKs, e0, e1, e2, i1, nI_1]
    exact K G (oKs (l.length + 1) c (vp_updL f l.length v)) ⟨c, _, by rw [List.length_append]; rfl, by rw [List.length_append]; exact hl, h2, h3, h4.add v⟩ (hc_cr.same hk h rfl)
  · have hcl : c = l.length := by omega
    have e2 : ¬ nI l.length < nI c := nI_nlt (by omega) (by omega)
    have z1 : inF σ k 1 (c, .inr f) := ⟨_, _, h, by decide, rfl⟩
    have e3 : (if 2 * nI c < 20000 then 2 * nI c else (20000 : Int32)) = nI (min 20000 (2 * c)) := by
      have q : 2 * nI c = nI (2 * c) := pk_mul 2 c
      have q2 : (20000 : Int32) = nI 20000 := rfl
      rw [q, q2]
      by_cases hq : 2 * c < 20000
      · rw [if_pos (nI_lt (b := 20000) hq (by omega))]
        congr 1
        omega
      · rw [if_neg (nI_nlt (a := 2 * c) (b := 20000) (by omega) (by omega))]
        congr 1
        omega
    have i1 : hc_inn (nI l.length) (min 20000 (2 * c)) := inn_nI (by omega) (by omega)
    simp only [hma1, hc_on_some, hc_get, hc_put, hc_ri, hc_rl, hc_is, hc_row, hc_wr, hc_mov, hc_smi, hc_sml, hc_fv, hc_ld, hc_kd, hc_sto, hc_pre, hc_two, hc_inc, hc_psh, hc_kp, hc_k1, hc_np, hc_bk_rf, hc_bk_gA, hc_set_ap, hc_set_set, Value.category, List.getElem?_cons_zero, List.getElem?_cons_succ, List.set_cons_zero, List.set_cons_succ, List.length_cons, List.length_nil, List.map_cons, List.map_nil, reduceIte, Nat.reduceAdd, Nat.reduceSub, Nat.reduceBEq, Nat.reduceEqDiff, Nat.reduceLeDiff, Nat.reduceLT, true_and, and_true, Bool.false_eq_true, reduceCtorEq, if_true, if_false, hc_xx, hc_ofNat, hc_10, not_true_eq_false, not_false_eq_true, ge_iff_le, h, oKs, e0, e1, e2, sp_min, e3, sp_cpJ (G := G) (m := min 20000 (2 * c)) z1 (by omega) (by omega)]
    refine ⟨i1, ?_⟩
    rw [nI_1]
    refine K _ (oKs (l.length + 1) (min 20000 (2 * c)) (vp_updL (va_cpy f (fun _ => 0) 0 0 c) l.length v)) ⟨_, _, by rw [List.length_append]; rfl, by rw [List.length_append]; show l.length + 1 ≤ _; omega, by omega, by omega, (h4.cpy h1).add v⟩ (hc_cr.set hk h ?_)
    show G.2.2.1 + min 20000 (2 * c) + 12 * (G.2.1 + 1) + _ ≤ _
    simp only [oKs, hc_po, hc_pf, List.map_cons, List.map_nil, List.sum_cons, List.sum_nil, Nat.reduceEqDiff, if_false, if_true]
    rw [if_neg (show ¬ c = 20000 by omega)]
    by_cases hq : min 20000 (2 * c) = 20000
    · rw [if_pos hq]
      omega
    · rw [if_neg hq]
      omega
/-- Ints of the reference: the numbers l, at most C of them have room -/
def oIn (n : Nat) (c : Nat) (f : Nat → Int32) : hc_O := (4, [.inr (c, .inl f), .inl (.int (nI n))])
def INo (o : hc_O) (l : List Int) (C : Nat) : Prop := ∃ c f, o = oIn l.length c f ∧ l.length ≤ c ∧ 64 ≤ c ∧ c ≤ C ∧ CI f l
theorem sp_iclr {k C : Nat} {l : List Int} {o : hc_O} (h : σ k = some o) (hP : INo o l C) (hk : k < 60) (K : ∀ o', INo o' [] C → hc_cr G σ G (hc_set σ k o') → Q G (hc_set σ k o') none none) : hc_wp G σ none 41 0 [some (.inl (.ref k))] [] Q := by
  obtain ⟨c, f, rfl, h1, h2, h3, h4⟩ := hP
  simp only [hma41, hc_on_some, hc_get, hc_put, hc_ri, hc_rl, hc_is, hc_row, hc_wr, hc_mov, hc_smi, hc_sml, hc_fv, hc_ld, hc_kd, hc_sto, hc_pre, hc_two, hc_inc, hc_psh, hc_kp, hc_k1, hc_np, hc_bk_rf, hc_bk_gA, hc_set_ap, hc_set_set, Value.category, List.getElem?_cons_zero, List.getElem?_cons_succ, List.set_cons_zero, List.set_cons_succ, List.length_cons, List.length_nil, List.map_cons, List.map_nil, reduceIte, Nat.reduceAdd, Nat.reduceSub, Nat.reduceBEq, Nat.reduceEqDiff, Nat.reduceLeDiff, Nat.reduceLT, true_and, and_true, Bool.false_eq_true, reduceCtorEq, if_true, if_false, hc_xx, hc_ofNat, hc_10, not_true_eq_false, not_false_eq_true, ge_iff_le, h, oIn]
  exact K (oIn 0 c f) ⟨c, f, rfl, Nat.zero_le _, h2, h3, fun i v hi => by simp at hi⟩ (hc_cr.same hk h rfl)
theorem sp_iadd_loop {k n : Nat} {v : Int32} {f : Nat → Int32} (h : σ k = some (oIn n n f)) (hn : n < 2 ^ 20) (K : ∀ g, (∀ j, j < n → g j = f j) → hc_wp G σ (some (2 * n, .inl g)) 42 46 [some (.inl (.ref k)), some (.inl (.int v)), some (.inr none), some (.inl (.int (nI n)))] [] Q) : ∀ (d i : Nat) (g : Nat → Int32), d + i = n → (∀ j, j < i → g j = f j) → hc_wp G σ (some (2 * n, .inl g)) 42 23 [some (.inl (.ref k)), some (.inl (.int v)), some (.inr none), some (.inl (.int (nI i)))] [] Q := by
  intro d
  induction d with
  | zero =>
    intro i g hi hg
    have e : i = n := by omega
    subst e
    rw [hm42_23]
    have K2 := K g hg
    simp only [hma42, hc_on_some, hc_get, hc_put, hc_ri, hc_rl, hc_is, hc_row, hc_wr, hc_mov, hc_smi, hc_sml, hc_fv, hc_ld, hc_kd, hc_sto, hc_pre, hc_two, hc_inc, hc_psh, hc_kp, hc_k1, hc_np, hc_bk_rf, hc_bk_gA, hc_set_ap, hc_set_set, Value.category, List.getElem?_cons_zero, List.getElem?_cons_succ, List.set_cons_zero, List.set_cons_succ, List.length_cons, List.length_nil, List.map_cons, List.map_nil, reduceIte, Nat.reduceAdd, Nat.reduceSub, Nat.reduceBEq, Nat.reduceEqDiff, Nat.reduceLeDiff, Nat.reduceLT, true_and, and_true, Bool.false_eq_true, reduceCtorEq, if_true, if_false, hc_xx, hc_ofNat, hc_10, not_true_eq_false, not_false_eq_true, ge_iff_le, h, oIn, if_pos (Int32.le_refl (nI i))] at K2 ⊢
    exact K2
  | succ d ih =>
    intro i g hi hg
    have e1 : ¬ nI n ≤ nI i := nI_ge (by omega) (by omega)
    have e2 : hc_inn (nI i) n := inn_nI (by omega) (by omega)
    have e3 : hc_inn (nI i) (2 * n) := inn_nI (by omega) (by omega)
    have e4 : (nI i).toNatClampNeg = i := nI_clamp (by omega)
    rw [hm42_23]
    simp only [hma42, hc_on_some, hc_get, hc_put, hc_ri, hc_rl, hc_is, hc_row, hc_wr, hc_mov, hc_smi, hc_sml, hc_fv, hc_ld, hc_kd, hc_sto, hc_pre, hc_two, hc_inc, hc_psh, hc_kp, hc_k1, hc_np, hc_bk_rf, hc_bk_gA, hc_set_ap, hc_set_set, Value.category, List.getElem?_cons_zero, List.getElem?_cons_succ, List.set_cons_zero, List.set_cons_succ, List.length_cons, List.length_nil, List.map_cons, List.map_nil, reduceIte, Nat.reduceAdd, Nat.reduceSub, Nat.reduceBEq, Nat.reduceEqDiff, Nat.reduceLeDiff, Nat.reduceLT, true_and, and_true, Bool.false_eq_true, reduceCtorEq, if_true, if_false, hc_xx, hc_ofNat, hc_10, not_true_eq_false, not_false_eq_true, ge_iff_le, h, oIn, e1, e2, e3, e4, nI_1]
    refine ih (i + 1) _ (by omega) fun j hj => ?_
    by_cases hq : j = i
    · subst hq
      simp [upd]
    · simp only [upd, if_neg hq]
      exact hg j (by omega)
theorem sp_iadd {k C : Nat} {l : List Int} {o : hc_O} {v : Int32} (h : σ k = some o) (hP : INo o l C) (hm : 2 * l.length ≤ C) (hC : C ≤ 2 ^ 20) (hk : k < 60) (K : ∀ G' o', INo o' (l ++ [v.toInt]) C → hc_cr G σ G' (hc_set σ k o') → Q G' (hc_set σ k o') none none) : hc_wp G σ none 42 0 [some (.inl (.ref k)), some (.inl (.int v)), none, none] [] Q := by
  obtain ⟨c, f, rfl, h1, h2, h3, h4⟩ := hP
  have e1 : (nI l.length).toNatClampNeg = l.length := nI_clamp (by omega)
  by_cases hl : l.length = c
  · subst hl
    have e3 : 2 * nI l.length = nI (2 * l.length) := pk_mul 2 l.length
    have e4 : ¬ nI (2 * l.length) < 0 := nI_pos (by omega)
    have e5 : (nI (2 * l.length)).toNatClampNeg = 2 * l.length := nI_clamp (by omega)
    have e6 : 2 * l.length ≤ 60000000 := by omega
    simp only [hma42, hc_on_some, hc_get, hc_put, hc_ri, hc_rl, hc_is, hc_row, hc_wr, hc_mov, hc_smi, hc_sml, hc_fv, hc_ld, hc_kd, hc_sto, hc_pre, hc_two, hc_inc, hc_psh, hc_kp, hc_k1, hc_np, hc_bk_rf, hc_bk_gA, hc_set_ap, hc_set_set, Value.category, List.getElem?_cons_zero, List.getElem?_cons_succ, List.set_cons_zero, List.set_cons_succ, List.length_cons, List.length_nil, List.map_cons, List.map_nil, reduceIte, Nat.reduceAdd, Nat.reduceSub, Nat.reduceBEq, Nat.reduceEqDiff, Nat.reduceLeDiff, Nat.reduceLT, true_and, and_true, Bool.false_eq_true, reduceCtorEq, if_true, if_false, hc_xx, hc_ofNat, hc_10, not_true_eq_false, not_false_eq_true, ge_iff_le, h, oIn, e3, e4, e5, e6, not_true_eq_false, not_false_eq_true, hc_nt, List.all_cons, List.all_nil, Bool.and_true, Bool.true_and]
    refine sp_iadd_loop (n := l.length) (f := f) h (by omega) (fun g hg => ?_) l.length 0 _ (by omega) (fun j hj => by omega)
    have i1 : hc_inn (nI l.length) (2 * l.length) := inn_nI (by omega) (by omega)
    simp only [hma42, hc_on_some, hc_get, hc_put, hc_ri, hc_rl, hc_is, hc_row, hc_wr, hc_mov, hc_smi, hc_sml, hc_fv, hc_ld, hc_kd, hc_sto, hc_pre, hc_two, hc_inc, hc_psh, hc_kp, hc_k1, hc_np, hc_bk_rf, hc_bk_gA, hc_set_ap, hc_set_set, Value.category, List.getElem?_cons_zero, List.getElem?_cons_succ, List.set_cons_zero, List.set_cons_succ, List.length_cons, List.length_nil, List.map_cons, List.map_nil, reduceIte, Nat.reduceAdd, Nat.reduceSub, Nat.reduceBEq, Nat.reduceEqDiff, Nat.reduceLeDiff, Nat.reduceLT, true_and, and_true, Bool.false_eq_true, reduceCtorEq, if_true, if_false, hc_xx, hc_ofNat, hc_10, not_true_eq_false, not_false_eq_true, ge_iff_le, h, oIn, i1, e1, nI_1]
    refine K _ (oIn (l.length + 1) (2 * l.length) (upd g l.length v)) ⟨_, _, by rw [List.length_append]; rfl, by rw [List.length_append]; show l.length + 1 ≤ _; omega, by omega, hm, ?_⟩ (hc_cr.set hk h ?_)
    · exact CI.add (fun i w hi => by rw [hg i (List.getElem?_eq_some_iff.mp hi).1]; exact h4 i w hi) v
    · show G.2.2.1 + 2 * l.length + 12 * (G.2.1 + 1) + _ ≤ _
      simp [oIn, hc_po, hc_pf]
      omega
  · have e2 : ¬ nI l.length = nI c := by
      rw [nI_eq (by omega) (by omega)]
      exact hl
    have i1 : hc_inn (nI l.length) c := inn_nI (by omega) (by omega)
    simp only [hma42, hc_on_some, hc_get, hc_put, hc_ri, hc_rl, hc_is, hc_row, hc_wr, hc_mov, hc_smi, hc_sml, hc_fv, hc_ld, hc_kd, hc_sto, hc_pre, hc_two, hc_inc, hc_psh, hc_kp, hc_k1, hc_np, hc_bk_rf, hc_bk_gA, hc_set_ap, hc_set_set, Value.category, List.getElem?_cons_zero, List.getElem?_cons_succ, List.set_cons_zero, List.set_cons_succ, List.length_cons, List.length_nil, List.map_cons, List.map_nil, reduceIte, Nat.reduceAdd, Nat.reduceSub, Nat.reduceBEq, Nat.reduceEqDiff, Nat.reduceLeDiff, Nat.reduceLT, true_and, and_true, Bool.false_eq_true, reduceCtorEq, if_true, if_false, hc_xx, hc_ofNat, hc_10, not_true_eq_false, not_false_eq_true, ge_iff_le, h, oIn, e2, i1, e1, nI_1, not_false_eq_true]
    exact K G (oIn (l.length + 1) c (upd f l.length v)) ⟨c, _, by rw [List.length_append]; rfl, by rw [List.length_append]; show l.length + 1 ≤ c; omega, h2, h3, h4.add v⟩ (hc_cr.same hk h rfl)
end S18
