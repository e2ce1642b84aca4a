/-! cells that an edge passes: addToWay, gatherCells -/
abbrev nd (N : List (Int × Int)) (j : Nat) : Int × Int := N[j]?.getD (0, 0)
abbrev offI (e : Ed) (q : Int × Int) : Int := 2 * ((e.2.2.1 - e.1) * (q.2 - e.2.1) - (e.2.2.2 - e.2.1) * (q.1 - e.1))
abbrev rchI (e : Ed) : Int := ((e.2.2.1 - e.1).natAbs : Int) + ((e.2.2.2 - e.2.1).natAbs : Int)
abbrev thr (e : Ed) (q : Int × Int) : Prop := (min e.1 e.2.2.1 ≤ q.1 ∧ q.1 ≤ max e.1 e.2.2.1 ∧ min e.2.1 e.2.2.2 ≤ q.2 ∧ q.2 ≤ max e.2.1 e.2.2.2) ∧ ((-(rchI e) < offI e q ∧ offI e q < rchI e) ∨ offI e q = (e.2.2.1 - e.1) - (e.2.2.2 - e.2.1))
def thb (e : Ed) (N : List (Int × Int)) (j : Nat) : Bool := decide (thr e (nd N j))
def Bn (e : Ed) (N : List (Int × Int)) (n : Nat) : List Nat := (List.range n).filter (thb e N)
theorem Bn_yes {e : Ed} {N : List (Int × Int)} {n : Nat} (h : thr e (nd N n)) : Bn e N (n + 1) = Bn e N n ++ [n] := by
  unfold Bn
  rw [List.range_succ, List.filter_append]
  simp [thb, h]
theorem Bn_no {e : Ed} {N : List (Int × Int)} {n : Nat} (h : ¬ thr e (nd N n)) : Bn e N (n + 1) = Bn e N n := by
  unfold Bn
  rw [List.range_succ, List.filter_append]
  have : thb e N n = false := decide_eq_false h
  simp [this]
theorem Bn_stop {e : Ed} {N : List (Int × Int)} {n : Nat} : ∀ d, (∀ j, n ≤ j → j < n + d → ¬ thr e (nd N j)) → Bn e N (n + d) = Bn e N n := by
  intro d
  induction d with
  | zero => intro _; rfl
  | succ d ih =>
    intro h
    rw [← Nat.add_assoc, Bn_no (h (n + d) (by omega) (by omega))]
    exact ih fun j h1 h2 => h j h1 (by omega)
theorem Bn_stop' {e : Ed} {N : List (Int × Int)} {n m : Nat} (hn : n ≤ m) (h : ∀ j, n ≤ j → j < m → ¬ thr e (nd N j)) : Bn e N m = Bn e N n := by
  obtain ⟨d, rfl⟩ := Nat.exists_eq_add_of_le hn
  exact Bn_stop d h
theorem Bn_mono {e : Ed} {N : List (Int × Int)} {n m : Nat} (h : n ≤ m) : (Bn e N n).length ≤ (Bn e N m).length := by
  obtain ⟨d, rfl⟩ := Nat.exists_eq_add_of_le h
  unfold Bn
  rw [List.range_add, List.filter_append, List.length_append]
  omega
section S31
variable {G : hc_G} {σ : hc_H} {t : hc_T} {Q : hc_Q}
theorem sp_addw {k kh wc cr n : Nat} {rf : hc_R} {fr : Nat → Int32} {W : List Nat} {rs : List hc_F} (h : σ k = some (oLy kh wc W.length rf (cr, .inl fr) rs)) (hW : CW fr W) (hlen : W.length ≤ cr) (hcr : cr ≤ 50000) (h32 : 32 ≤ cr) (hwc : wc ≤ 512) (hb : W.length ≤ wc + 20001) (hk : k < 60)
    (Kf : 20000 + wc < W.length → Q G σ none (some (.inl (.int 0))))
    (K : W.length ≤ 20000 + wc → ∀ G' cr' fr', CW fr' (W ++ [n]) → W.length + 1 ≤ cr' → cr ≤ cr' → cr' ≤ 50000 → hc_cr G σ G' (hc_set σ k (oLy kh wc (W.length + 1) rf (cr', .inl fr') rs)) → Q G' (hc_set σ k (oLy kh wc (W.length + 1) rf (cr', .inl fr') rs)) none (some (.inl (.int 1)))) :
    hc_wp G σ none 10 0 [some (.inl (.ref k)), some (.inl (.int (nI n)))] [] Q := by
  have e20 : (20000 : Int32).toInt = 20000 := rfl
  have ec : (nI W.length - nI wc ≤ 20000) ↔ W.length ≤ 20000 + wc := by
    rw [Int32.le_iff_toInt_le, pk_sub_toInt (by omega) (by omega), e20]
    omega
  by_cases c : W.length ≤ 20000 + wc
  · have c1 := ec.mpr c
    have e4 : (nI W.length).toNatClampNeg = W.length := nI_clamp (by omega)
    by_cases hg : W.length + 1 ≤ cr
    · have z1 : inF σ k 4 (cr, .inl fr) := ⟨_, _, h, by decide, rfl⟩
      have i1 : hc_inn (nI W.length) cr := inn_nI (by omega) (by omega)
      have K2 := K c G cr (upd fr W.length (nI n)) (hW.add n) hg (Nat.le_refl _) hcr (hc_cr.same hk h rfl)
      simp only [hma10, hc_on_some, hc_get, hc_put, hc_ri, hc_rl, hc_is, hc_row, hc_wr, hc_mov, hc_smi, hc_sml, hc_fv, hc_ld, hc_kd, hc_sto, hc_pre, hc_two, hc_inc, hc_psh, hc_kp, hc_k1, hc_np, hc_bk_rf, hc_bk_gA, hc_set_ap, hc_set_set, Value.category, List.getElem?_cons_zero, List.getElem?_cons_succ, List.set_cons_zero, List.set_cons_succ, List.length_cons, List.length_nil, List.map_cons, List.map_nil, reduceIte, Nat.reduceAdd, Nat.reduceSub, Nat.reduceBEq, Nat.reduceEqDiff, Nat.reduceLeDiff, Nat.reduceLT, true_and, and_true, Bool.false_eq_true, reduceCtorEq, if_true, if_false, hc_xx, hc_ofNat, hc_10, not_true_eq_false, not_false_eq_true, ge_iff_le, h, c1, nI_1, sp_wr0 (G := G) z1 hg (by omega), i1, e4, true_or, or_true] at K2 ⊢
      exact K2
    · have z1 : inF σ k 4 (cr, .inl fr) := ⟨_, _, h, by decide, rfl⟩
      have i1 : hc_inn (nI W.length) (max (W.length + 1) (2 * cr)) := inn_nI (by omega) (by omega)
      have K2 := K c (hc_gM (hc_gA G (max (W.length + 1) (2 * cr))) k 4) (max (W.length + 1) (2 * cr)) (upd (va_cpy fr (fun _ => 0) 0 0 cr) W.length (nI n)) ((hW.cpy (by omega)).add n) (by omega) (by omega) (by omega) (hc_cr.set hk h (by
        show G.2.2.1 + max (W.length + 1) (2 * cr) + 12 * (G.2.1 + 1) + _ ≤ _
        simp only [hc_po, hc_pf, List.map_cons, List.map_nil, List.sum_cons, List.sum_nil, Nat.reduceEqDiff, if_false]
        omega))
      simp only [hma10, hc_on_some, hc_get, hc_put, hc_ri, hc_rl, hc_is, hc_row, hc_wr, hc_mov, hc_smi, hc_sml, hc_fv, hc_ld, hc_kd, hc_sto, hc_pre, hc_two, hc_inc, hc_psh, hc_kp, hc_k1, hc_np, hc_bk_rf, hc_bk_gA, hc_set_ap, hc_set_set, Value.category, List.getElem?_cons_zero, List.getElem?_cons_succ, List.set_cons_zero, List.set_cons_succ, List.length_cons, List.length_nil, List.map_cons, List.map_nil, reduceIte, Nat.reduceAdd, Nat.reduceSub, Nat.reduceBEq, Nat.reduceEqDiff, Nat.reduceLeDiff, Nat.reduceLT, true_and, and_true, Bool.false_eq_true, reduceCtorEq, if_true, if_false, hc_xx, hc_ofNat, hc_10, not_true_eq_false, not_false_eq_true, ge_iff_le, h, c1, nI_1, sp_wr1 (G := G) (m := W.length + 1) z1 (by omega) (by omega), i1, e4, true_or, or_true] at K2 ⊢
      exact ⟨by omega, K2⟩
  · have c1 : ¬ nI W.length - nI wc ≤ 20000 := fun q => c (ec.mp q)
    have K2 := Kf (by omega)
    simp only [hma10, hc_on_some, hc_get, hc_put, hc_ri, hc_rl, hc_is, hc_row, hc_wr, hc_mov, hc_smi, hc_sml, hc_fv, hc_ld, hc_kd, hc_sto, hc_pre, hc_two, hc_inc, hc_psh, hc_kp, hc_k1, hc_np, hc_bk_rf, hc_bk_gA, hc_set_ap, hc_set_set, Value.category, List.getElem?_cons_zero, List.getElem?_cons_succ, List.set_cons_zero, List.set_cons_succ, List.length_cons, List.length_nil, List.map_cons, List.map_nil, reduceIte, Nat.reduceAdd, Nat.reduceSub, Nat.reduceBEq, Nat.reduceEqDiff, Nat.reduceLeDiff, Nat.reduceLT, true_and, and_true, Bool.false_eq_true, reduceCtorEq, if_true, if_false, hc_xx, hc_ofNat, hc_10, not_true_eq_false, not_false_eq_true, ge_iff_le, h, c1, true_or, or_true]
    exact K2
theorem sp_gc_loop {k kh wc : Nat} {rf : hc_R} {W : List Nat} {rs : List hc_F} {N : List (Int × Int)} {oh : hc_O} {x1 y1 x2 y2 hx ly hy : Int32} {dx dy rch : Int64} {e : Ed} (q1 : k ≠ kh) (q3 : k < 60) (hh : σ kh = some oh) (hH : PLo oh N N.length) (hN : N.length ≤ 6000) (hNb : inB N) (hs : ∀ i j (hij : i < j) (hj : j < N.length), plt N[i] N[j])
    {r : Nat} (hr : ∀ j (hj : j < N.length), r ≤ j → min x1.toInt x2.toInt ≤ N[j].1)
    (hwc : wc ≤ 512) (he : e = (x1.toInt, y1.toInt, x2.toInt, y2.toInt)) (hb1 : inb x1.toInt y1.toInt) (hb2 : inb x2.toInt y2.toInt)
    (hdx : dx.toInt = x2.toInt - x1.toInt) (hdy : dy.toInt = y2.toInt - y1.toInt) (hrch : rch.toInt = rchI e) (hhx : hx.toInt = max x1.toInt x2.toInt) (hly : ly.toInt = min y1.toInt y2.toInt) (hhy : hy.toInt = max y1.toInt y2.toInt)
    (K : ∀ G' cr' fr', CW fr' (W ++ Bn e N N.length) → (W ++ Bn e N N.length).length ≤ cr' → 32 ≤ cr' → cr' ≤ 50000 → (W ++ Bn e N N.length).length ≤ wc + 20001 → hc_cr G σ G' (hc_set σ k (oLy kh wc (W ++ Bn e N N.length).length rf (cr', .inl fr') rs)) → Q G' (hc_set σ k (oLy kh wc (W ++ Bn e N N.length).length rf (cr', .inl fr') rs)) none (some (.inl (.int 1))))
    (Kf : ∀ G' wl cr' fr', wl ≤ cr' → 32 ≤ cr' → cr' ≤ 50000 → wc + 20001 < (W ++ Bn e N N.length).length → hc_cr G σ G' (hc_set σ k (oLy kh wc wl rf (cr', .inl fr') rs)) → Q G' (hc_set σ k (oLy kh wc wl rf (cr', .inl fr') rs)) none (some (.inl (.int 0)))) :
    ∀ (d n : Nat) (G1 : hc_G) (cr : Nat) (fr : Nat → Int32) (g15 g16 g18 : Option Value), d + n = N.length → r ≤ n → CW fr (W ++ Bn e N n) → (W ++ Bn e N n).length ≤ cr → 32 ≤ cr → cr ≤ 50000 → (W ++ Bn e N n).length ≤ wc + 20001 → hc_cr G σ G1 (hc_set σ k (oLy kh wc (W ++ Bn e N n).length rf (cr, .inl fr) rs)) →
    hc_wp G1 (hc_set σ k (oLy kh wc (W ++ Bn e N n).length rf (cr, .inl fr) rs)) none 9 65 [some (.inl (.ref k)), some (.inl (.int x1)), some (.inl (.int y1)), some (.inl (.int x2)), some (.inl (.int y2)), some (.inl (.long dx)), none, some (.inl (.long dy)), none, some (.inl (.long rch)), none, some (.inl (.int hx)), some (.inl (.int ly)), some (.inl (.int hy)), some (.inl (.int (nI n))), g15.map Sum.inl, g16.map Sum.inl, none, g18.map Sum.inl] [] Q := by
  obtain ⟨cx, fx, cy, fy, rfl, h1, h2, h3, h4, h5, h6, h7, h8⟩ := hH
  have q1' : ¬ kh = k := Ne.symm q1
  intro d
  induction d with
  | zero =>
    intro n G1 cr fr g15 g16 g18 hd hrn hW hl h32 hc hbd hcr
    have e1 : n = N.length := by omega
    subst e1
    rw [hm9_65]
    simp only [hm9_67, hm9_68, hm9_71, hm9_74, hm9_77, hm9_78, hm9_81, hm9_84, hm9_86, hm9_87, hm9_89, hm9_92, hm9_93, hm9_96, hm9_99, hm9_101, hm9_102, hm9_104, hm9_106, hm9_108, hm9_111, hm9_113, hm9_115, hm9_118, hm9_121, hm9_124, hm9_126, hm9_128, hm9_129, hm9_130, hm9_131, hm9_132, hm9_134, hm9_135, hm9_138, hm9_141, hm9_143, hm9_144, hm9_145, hm9_146, hm9_147, hm9_148, hm9_149, hm9_150, hm9_152, hm9_154, hm9_157, hm9_159, hm9_160, hm9_163, hm9_165, hm9_167, hm9_169, hm9_170, hm9_171, hm9_174, hm9_175, hm9_178, hm9_179, hm9_181, hm9_183, hm9_186, hm9_187, hm9_189, hm9_192, hm9_195, hm9_196, hm9_197, hm9_200, hm9_203, hm9_204, hc_on_some, hc_get, hc_put, hc_ri, hc_rl, hc_is, hc_row, hc_wr, hc_mov, hc_smi, hc_sml, hc_fv, hc_ld, hc_kd, hc_sto, hc_pre, hc_two, hc_inc, hc_psh, hc_kp, hc_k1, hc_np, hc_bk_rf, hc_bk_gA, hc_set_ap, hc_set_set, Value.category, List.getElem?_cons_zero, List.getElem?_cons_succ, List.set_cons_zero, List.set_cons_succ, List.length_cons, List.length_nil, List.map_cons, List.map_nil, reduceIte, Nat.reduceAdd, Nat.reduceSub, Nat.reduceBEq, Nat.reduceEqDiff, Nat.reduceLeDiff, Nat.reduceLT, true_and, and_true, Bool.false_eq_true, reduceCtorEq, if_true, if_false, hc_xx, hc_ofNat, hc_10, not_true_eq_false, not_false_eq_true, ge_iff_le, q1', hh, if_pos (Int32.le_refl (nI N.length)), true_or, or_true]
    exact K G1 cr fr hW hl h32 hc hbd hcr
  | succ d ih =>
    intro n G1 cr fr g15 g16 g18 hd hrn hW hl h32 hc hbd hcr
    have hn : n < N.length := by omega
    have e1 : ¬ nI N.length ≤ nI n := nI_ge (by omega) (by omega)
    have i1 : hc_inn (nI n) cx := inn_nI (by omega) (by omega)
    have i2 : hc_inn (nI n) cy := inn_nI (by omega) (by omega)
    have e4 : (nI n).toNatClampNeg = n := nI_clamp (by omega)
    have px := pl_at (cx := cx) h7 hNb hn
    have py := pl_at2 (cy := cy) h8 hNb hn
    have ndx : (nd N n).1 = (fx n).toInt := px.1.symm
    have ndy : (nd N n).2 = (fy n).toInt := py.1.symm
    rw [hm9_65]
    by_cases c1 : hx < fx n
    · have c1' := Int32.lt_iff_toInt_lt.mp c1
      have st : Bn e N N.length = Bn e N n := Bn_stop' (by omega) fun j hj hj2 ht => by
        have hx1 : (nd N j).1 ≤ max x1.toInt x2.toInt := by
          have := ht.1.2.1
          rw [he] at this
          exact this
        have e5 : (nd N j).1 = N[j].1 := by
          show (N[j]?.getD (0, 0)).1 = _
          rw [List.getElem?_eq_getElem hj2]
          rfl
        have e6 : (nd N n).1 = N[n].1 := by
          show (N[n]?.getD (0, 0)).1 = _
          rw [List.getElem?_eq_getElem hn]
          rfl
        by_cases z : n = j
        · subst z
          omega
        · have := hs n j (by omega) hj2
          unfold plt at this
          omega
      rw [st] at K
      simp only [hm9_67, hm9_68, hm9_71, hm9_74, hm9_77, hm9_78, hm9_81, hm9_84, hm9_86, hm9_87, hm9_89, hm9_92, hm9_93, hm9_96, hm9_99, hm9_101, hm9_102, hm9_104, hm9_106, hm9_108, hm9_111, hm9_113, hm9_115, hm9_118, hm9_121, hm9_124, hm9_126, hm9_128, hm9_129, hm9_130, hm9_131, hm9_132, hm9_134, hm9_135, hm9_138, hm9_141, hm9_143, hm9_144, hm9_145, hm9_146, hm9_147, hm9_148, hm9_149, hm9_150, hm9_152, hm9_154, hm9_157, hm9_159, hm9_160, hm9_163, hm9_165, hm9_167, hm9_169, hm9_170, hm9_171, hm9_174, hm9_175, hm9_178, hm9_179, hm9_181, hm9_183, hm9_186, hm9_187, hm9_189, hm9_192, hm9_195, hm9_196, hm9_197, hm9_200, hm9_203, hm9_204, hc_on_some, hc_get, hc_put, hc_ri, hc_rl, hc_is, hc_row, hc_wr, hc_mov, hc_smi, hc_sml, hc_fv, hc_ld, hc_kd, hc_sto, hc_pre, hc_two, hc_inc, hc_psh, hc_kp, hc_k1, hc_np, hc_bk_rf, hc_bk_gA, hc_set_ap, hc_set_set, Value.category, List.getElem?_cons_zero, List.getElem?_cons_succ, List.set_cons_zero, List.set_cons_succ, List.length_cons, List.length_nil, List.map_cons, List.map_nil, reduceIte, Nat.reduceAdd, Nat.reduceSub, Nat.reduceBEq, Nat.reduceEqDiff, Nat.reduceLeDiff, Nat.reduceLT, true_and, and_true, Bool.false_eq_true, reduceCtorEq, if_true, if_false, hc_xx, hc_ofNat, hc_10, not_true_eq_false, not_false_eq_true, ge_iff_le, q1', hh, e1, i1, i2, e4, c1, true_or, or_true]
      exact K G1 cr fr hW hl h32 hc hbd hcr
    · have c1' : ¬ hx.toInt < (fx n).toInt := fun q => c1 (Int32.lt_iff_toInt_lt.mpr q)
      subst he
      have nlow : min x1.toInt x2.toInt ≤ (fx n).toInt := by
        have := hr n hn hrn
        rw [← ndx]
        show _ ≤ (N[n]?.getD (0, 0)).1
        rw [List.getElem?_eq_getElem hn]
        exact this
      have tq : thr (x1.toInt, y1.toInt, x2.toInt, y2.toInt) (nd N n) ↔ (min x1.toInt x2.toInt ≤ (fx n).toInt ∧ (fx n).toInt ≤ max x1.toInt x2.toInt ∧ min y1.toInt y2.toInt ≤ (fy n).toInt ∧ (fy n).toInt ≤ max y1.toInt y2.toInt) ∧ ((-(rch.toInt) < 2 * ((x2.toInt - x1.toInt) * ((fy n).toInt - y1.toInt) - (y2.toInt - y1.toInt) * ((fx n).toInt - x1.toInt)) ∧ 2 * ((x2.toInt - x1.toInt) * ((fy n).toInt - y1.toInt) - (y2.toInt - y1.toInt) * ((fx n).toInt - x1.toInt)) < rch.toInt) ∨ 2 * ((x2.toInt - x1.toInt) * ((fy n).toInt - y1.toInt) - (y2.toInt - y1.toInt) * ((fx n).toInt - x1.toInt)) = dx.toInt - dy.toInt) := by
        rw [hrch, hdx, hdy, ← ndx, ← ndy]
      have skip : ¬ thr (x1.toInt, y1.toInt, x2.toInt, y2.toInt) (nd N n) → ∀ a15 a16 a18 : Option Value, hc_wp G1 (hc_set σ k (oLy kh wc (W ++ Bn (x1.toInt, y1.toInt, x2.toInt, y2.toInt) N n).length rf (cr, .inl fr) rs)) none 9 65 [some (.inl (.ref k)), some (.inl (.int x1)), some (.inl (.int y1)), some (.inl (.int x2)), some (.inl (.int y2)), some (.inl (.long dx)), none, some (.inl (.long dy)), none, some (.inl (.long rch)), none, some (.inl (.int hx)), some (.inl (.int ly)), some (.inl (.int hy)), some (.inl (.int (nI (n + 1)))), a15.map Sum.inl, a16.map Sum.inl, none, a18.map Sum.inl] [] Q := fun ht a15 a16 a18 => by
        have := ih (n + 1) G1 cr fr a15 a16 a18 (by omega) (by omega)
        rw [Bn_no ht] at this
        exact this hW hl h32 hc hbd hcr
      by_cases c2 : fy n < ly
      · have c2' := Int32.lt_iff_toInt_lt.mp c2
        have s := skip (fun q => by have := tq.mp q; omega) (some (.int (fy n))) g16 g18
        rw [hc_opt] at s
        simp only [hm9_67, hm9_68, hm9_71, hm9_74, hm9_77, hm9_78, hm9_81, hm9_84, hm9_86, hm9_87, hm9_89, hm9_92, hm9_93, hm9_96, hm9_99, hm9_101, hm9_102, hm9_104, hm9_106, hm9_108, hm9_111, hm9_113, hm9_115, hm9_118, hm9_121, hm9_124, hm9_126, hm9_128, hm9_129, hm9_130, hm9_131, hm9_132, hm9_134, hm9_135, hm9_138, hm9_141, hm9_143, hm9_144, hm9_145, hm9_146, hm9_147, hm9_148, hm9_149, hm9_150, hm9_152, hm9_154, hm9_157, hm9_159, hm9_160, hm9_163, hm9_165, hm9_167, hm9_169, hm9_170, hm9_171, hm9_174, hm9_175, hm9_178, hm9_179, hm9_181, hm9_183, hm9_186, hm9_187, hm9_189, hm9_192, hm9_195, hm9_196, hm9_197, hm9_200, hm9_203, hm9_204, hc_on_some, hc_get, hc_put, hc_ri, hc_rl, hc_is, hc_row, hc_wr, hc_mov, hc_smi, hc_sml, hc_fv, hc_ld, hc_kd, hc_sto, hc_pre, hc_two, hc_inc, hc_psh, hc_kp, hc_k1, hc_np, hc_bk_rf, hc_bk_gA, hc_set_ap, hc_set_set, Value.category, List.getElem?_cons_zero, List.getElem?_cons_succ, List.set_cons_zero, List.set_cons_succ, List.length_cons, List.length_nil, List.map_cons, List.map_nil, reduceIte, Nat.reduceAdd, Nat.reduceSub, Nat.reduceBEq, Nat.reduceEqDiff, Nat.reduceLeDiff, Nat.reduceLT, true_and, and_true, Bool.false_eq_true, reduceCtorEq, if_true, if_false, hc_xx, hc_ofNat, hc_10, not_true_eq_false, not_false_eq_true, ge_iff_le, q1', hh, e1, i1, i2, e4, c1, c2, nI_1]
        exact s
      have c2' : ¬ (fy n).toInt < ly.toInt := fun q => c2 (Int32.lt_iff_toInt_lt.mpr q)
      by_cases c3 : fy n ≤ hy
      · have c3' := Int32.le_iff_toInt_le.mp c3
        have d1 := dif64 py.2 (show -500000 ≤ y1.toInt ∧ y1.toInt ≤ 500000 from ⟨hb1.2.2.1, hb1.2.2.2⟩)
        have d2 := dif64 px.2 (show -500000 ≤ x1.toInt ∧ x1.toInt ≤ 500000 from ⟨hb1.1, hb1.2.1⟩)
        have bdx : -1000000 ≤ dx.toInt ∧ dx.toInt ≤ 1000000 := by
          obtain ⟨a1, a2, a3, a4⟩ := hb1
          obtain ⟨a5, a6, a7, a8⟩ := hb2
          omega
        have bdy : -1000000 ≤ dy.toInt ∧ dy.toInt ≤ 1000000 := by
          obtain ⟨a1, a2, a3, a4⟩ := hb1
          obtain ⟨a5, a6, a7, a8⟩ := hb2
          omega
        have dt := det64 bdx d1.2 bdy d2.2
        have l2 : (2 : Int64).toInt = 2 := rfl
        have hoff : (2 * (dx * (fy n - y1).toInt64 - dy * (fx n - x1).toInt64)).toInt = 2 * ((x2.toInt - x1.toInt) * ((fy n).toInt - y1.toInt) - (y2.toInt - y1.toInt) * ((fx n).toInt - x1.toInt)) := by
          rw [i64_mul (by rw [l2, dt.1]; omega) (by rw [l2, dt.1]; omega), l2, dt.1, d1.1, d2.1, hdx, hdy]
        have hofb : -4000000000000 ≤ (2 * (dx * (fy n - y1).toInt64 - dy * (fx n - x1).toInt64)).toInt := by
          rw [i64_mul (by rw [l2, dt.1]; omega) (by rw [l2, dt.1]; omega), l2, dt.1]
          omega
        rw [← hoff] at tq
        simp only [hm9_67, hm9_68, hm9_71, hm9_74, hm9_77, hm9_78, hm9_81, hm9_84, hm9_86, hm9_87, hm9_89, hm9_92, hm9_93, hm9_96, hm9_99, hm9_101, hm9_102, hm9_104, hm9_106, hm9_108, hm9_111, hm9_113, hm9_115, hm9_118, hm9_121, hm9_124, hm9_126, hm9_128, hm9_129, hm9_130, hm9_131, hm9_132, hm9_134, hm9_135, hm9_138, hm9_141, hm9_143, hm9_144, hm9_145, hm9_146, hm9_147, hm9_148, hm9_149, hm9_150, hc_on_some, hc_get, hc_put, hc_ri, hc_rl, hc_is, hc_row, hc_wr, hc_mov, hc_smi, hc_sml, hc_fv, hc_ld, hc_kd, hc_sto, hc_pre, hc_two, hc_inc, hc_psh, hc_kp, hc_k1, hc_np, hc_bk_rf, hc_bk_gA, hc_set_ap, hc_set_set, Value.category, List.getElem?_cons_zero, List.getElem?_cons_succ, List.set_cons_zero, List.set_cons_succ, List.length_cons, List.length_nil, List.map_cons, List.map_nil, reduceIte, Nat.reduceAdd, Nat.reduceSub, Nat.reduceBEq, Nat.reduceEqDiff, Nat.reduceLeDiff, Nat.reduceLT, true_and, and_true, Bool.false_eq_true, reduceCtorEq, if_true, if_false, hc_xx, hc_ofNat, hc_10, not_true_eq_false, not_false_eq_true, ge_iff_le, q1', hh, e1, i1, i2, e4, c1, c2, c3]
        generalize 2 * (dx * (fy n - y1).toInt64 - dy * (fx n - x1).toInt64) = off at *
        have l0 : (0 : Int64).toInt = 0 := rfl
        have ab : ((if 0 ≤ off then off else -off) < rch) ↔ (-(rch.toInt) < off.toInt ∧ off.toInt < rch.toInt) := by
          rw [Int64.lt_iff_toInt_lt]
          by_cases z : 0 ≤ off
          · have z' := Int64.le_iff_toInt_le.mp z
            rw [l0] at z'
            rw [if_pos z]
            omega
          · have z' : ¬ 0 ≤ off.toInt := fun q => z (Int64.le_iff_toInt_le.mpr (by rw [l0]; exact q))
            rw [if_neg z, i64_neg (by omega)]
            omega
        have eqd : (off = dx - dy) ↔ off.toInt = dx.toInt - dy.toInt := by
          rw [← Int64.toInt_inj, i64_sub (by omega) (by omega)]
        have nn : thr (x1.toInt, y1.toInt, x2.toInt, y2.toInt) (nd N n) ↔ ((if 0 ≤ off then off else -off) < rch ∨ off = dx - dy) := by
          rw [tq, ab, eqd]
          constructor
          · intro q
            exact q.2
          · intro q
            refine ⟨⟨nlow, by omega, by omega, by omega⟩, q⟩
        have go : thr (x1.toInt, y1.toInt, x2.toInt, y2.toInt) (nd N n) → hc_wp G1 (hc_set σ k (oLy kh wc (W ++ Bn (x1.toInt, y1.toInt, x2.toInt, y2.toInt) N n).length rf (cr, .inl fr) rs)) none 9 179 [some (.inl (.ref k)), some (.inl (.int x1)), some (.inl (.int y1)), some (.inl (.int x2)), some (.inl (.int y2)), some (.inl (.long dx)), none, some (.inl (.long dy)), none, some (.inl (.long rch)), none, some (.inl (.int hx)), some (.inl (.int ly)), some (.inl (.int hy)), some (.inl (.int (nI n))), some (.inl (.int (fy n))), some (.inl (.long off)), none, g18.map Sum.inl] [.inl (.int 1)] Q := by
          intro ht
          have bm := Bn_mono (e := (x1.toInt, y1.toInt, x2.toInt, y2.toInt)) (N := N) (show n + 1 ≤ N.length by omega)
          have by1 := Bn_yes ht
          have iz : ¬ (1 : Int32) = 0 := by decide
          simp only [hm9_179, hm9_181, hm9_183, hm9_186, hm9_187, hm9_189, hm9_192, hm9_195, hm9_196, hm9_197, hm9_200, hm9_203, hm9_204, hc_on_some, hc_get, hc_put, hc_ri, hc_rl, hc_is, hc_row, hc_wr, hc_mov, hc_smi, hc_sml, hc_fv, hc_ld, hc_kd, hc_sto, hc_pre, hc_two, hc_inc, hc_psh, hc_kp, hc_k1, hc_np, hc_bk_rf, hc_bk_gA, hc_set_ap, hc_set_set, Value.category, List.getElem?_cons_zero, List.getElem?_cons_succ, List.set_cons_zero, List.set_cons_succ, List.length_cons, List.length_nil, List.map_cons, List.map_nil, reduceIte, Nat.reduceAdd, Nat.reduceSub, Nat.reduceBEq, Nat.reduceEqDiff, Nat.reduceLeDiff, Nat.reduceLT, true_and, and_true, Bool.false_eq_true, reduceCtorEq, if_true, if_false, hc_xx, hc_ofNat, hc_10, not_true_eq_false, not_false_eq_true, ge_iff_le, iz]
          refine sp_addw (hc_set_at _ _ _) hW hl hc h32 hwc hbd q3 (fun hf => ?_) (fun hok G2 cr2 fr2 hW2 hl2 hcc hc2 hcr2 => ?_)
          · simp only [hm9_179, hm9_181, hm9_183, hm9_186, hm9_187, hm9_189, hm9_192, hm9_195, hm9_196, hm9_197, hm9_200, hm9_203, hm9_204, hc_on_some, hc_get, hc_put, hc_ri, hc_rl, hc_is, hc_row, hc_wr, hc_mov, hc_smi, hc_sml, hc_fv, hc_ld, hc_kd, hc_sto, hc_pre, hc_two, hc_inc, hc_psh, hc_kp, hc_k1, hc_np, hc_bk_rf, hc_bk_gA, hc_set_ap, hc_set_set, Value.category, List.getElem?_cons_zero, List.getElem?_cons_succ, List.set_cons_zero, List.set_cons_succ, List.length_cons, List.length_nil, List.map_cons, List.map_nil, reduceIte, Nat.reduceAdd, Nat.reduceSub, Nat.reduceBEq, Nat.reduceEqDiff, Nat.reduceLeDiff, Nat.reduceLT, true_and, and_true, Bool.false_eq_true, reduceCtorEq, if_true, if_false, hc_xx, hc_ofNat, hc_10, not_true_eq_false, not_false_eq_true, ge_iff_le, true_or, or_true]
            refine Kf G1 _ cr fr hl h32 hc ?_ hcr
            rw [by1] at bm
            simp only [List.length_append, List.length_cons, List.length_nil] at bm hf hbd ⊢
            omega
          · dsimp only
            rw [hc_bk_np rfl rfl]
            rw [hc_set_set] at hcr2 ⊢
            simp only [hm9_179, hm9_181, hm9_183, hm9_186, hm9_187, hm9_189, hm9_192, hm9_195, hm9_196, hm9_197, hm9_200, hm9_203, hm9_204, hc_on_some, hc_get, hc_put, hc_ri, hc_rl, hc_is, hc_row, hc_wr, hc_mov, hc_smi, hc_sml, hc_fv, hc_ld, hc_kd, hc_sto, hc_pre, hc_two, hc_inc, hc_psh, hc_kp, hc_k1, hc_np, hc_bk_rf, hc_bk_gA, hc_set_ap, hc_set_set, Value.category, List.getElem?_cons_zero, List.getElem?_cons_succ, List.set_cons_zero, List.set_cons_succ, List.length_cons, List.length_nil, List.map_cons, List.map_nil, reduceIte, Nat.reduceAdd, Nat.reduceSub, Nat.reduceBEq, Nat.reduceEqDiff, Nat.reduceLeDiff, Nat.reduceLT, true_and, and_true, Bool.false_eq_true, reduceCtorEq, if_true, if_false, hc_xx, hc_ofNat, hc_10, not_true_eq_false, not_false_eq_true, ge_iff_le, iz, nI_1]
            have := ih (n + 1) G2 cr2 fr2 (some (.int (fy n))) (some (.long off)) (some (.int 1)) (by omega) (by omega)
            rw [by1, ← List.append_assoc, List.length_append] at this
            exact this hW2 hl2 (by omega) hc2 (by simp only [List.length_cons, List.length_nil]; omega) (hcr.tr hcr2)
        by_cases c4 : (if 0 ≤ off then off else -off) < rch
        · simp only [hm9_152, hm9_154, hm9_157, hm9_159, hm9_160, hm9_163, hm9_165, hm9_167, hm9_169, hm9_170, hm9_171, hm9_174, hm9_175, hm9_178, hc_on_some, hc_get, hc_put, hc_ri, hc_rl, hc_is, hc_row, hc_wr, hc_mov, hc_smi, hc_sml, hc_fv, hc_ld, hc_kd, hc_sto, hc_pre, hc_two, hc_inc, hc_psh, hc_kp, hc_k1, hc_np, hc_bk_rf, hc_bk_gA, hc_set_ap, hc_set_set, Value.category, List.getElem?_cons_zero, List.getElem?_cons_succ, List.set_cons_zero, List.set_cons_succ, List.length_cons, List.length_nil, List.map_cons, List.map_nil, reduceIte, Nat.reduceAdd, Nat.reduceSub, Nat.reduceBEq, Nat.reduceEqDiff, Nat.reduceLeDiff, Nat.reduceLT, true_and, and_true, Bool.false_eq_true, reduceCtorEq, if_true, if_false, hc_xx, hc_ofNat, hc_10, not_true_eq_false, not_false_eq_true, ge_iff_le, sp_abs, lgc_lt, c4]
          exact go (nn.mpr (Or.inl c4))
        · by_cases c5 : off = dx - dy
          · subst c5
            simp only [hm9_152, hm9_154, hm9_157, hm9_159, hm9_160, hm9_163, hm9_165, hm9_167, hm9_169, hm9_170, hm9_171, hm9_174, hm9_175, hm9_178, hc_on_some, hc_get, hc_put, hc_ri, hc_rl, hc_is, hc_row, hc_wr, hc_mov, hc_smi, hc_sml, hc_fv, hc_ld, hc_kd, hc_sto, hc_pre, hc_two, hc_inc, hc_psh, hc_kp, hc_k1, hc_np, hc_bk_rf, hc_bk_gA, hc_set_ap, hc_set_set, Value.category, List.getElem?_cons_zero, List.getElem?_cons_succ, List.set_cons_zero, List.set_cons_succ, List.length_cons, List.length_nil, List.map_cons, List.map_nil, reduceIte, Nat.reduceAdd, Nat.reduceSub, Nat.reduceBEq, Nat.reduceEqDiff, Nat.reduceLeDiff, Nat.reduceLT, true_and, and_true, Bool.false_eq_true, reduceCtorEq, if_true, if_false, hc_xx, hc_ofNat, hc_10, not_true_eq_false, not_false_eq_true, ge_iff_le, sp_abs, lgc_lt, lgc_eq, c4]
            exact go (nn.mpr (Or.inr rfl))
          · have s := skip (fun q => by rcases nn.mp q with a | a; exact c4 a; exact c5 a) (some (.int (fy n))) (some (.long off)) (some (.int 0))
            rw [hc_opt, hc_opt, hc_opt] at s
            simp only [hm9_152, hm9_154, hm9_157, hm9_159, hm9_160, hm9_163, hm9_165, hm9_167, hm9_169, hm9_170, hm9_171, hm9_174, hm9_175, hm9_178, hm9_179, hm9_181, hm9_183, hm9_186, hm9_187, hm9_189, hm9_192, hm9_195, hm9_196, hm9_197, hm9_200, hm9_203, hm9_204, hc_on_some, hc_get, hc_put, hc_ri, hc_rl, hc_is, hc_row, hc_wr, hc_mov, hc_smi, hc_sml, hc_fv, hc_ld, hc_kd, hc_sto, hc_pre, hc_two, hc_inc, hc_psh, hc_kp, hc_k1, hc_np, hc_bk_rf, hc_bk_gA, hc_set_ap, hc_set_set, Value.category, List.getElem?_cons_zero, List.getElem?_cons_succ, List.set_cons_zero, List.set_cons_succ, List.length_cons, List.length_nil, List.map_cons, List.map_nil, reduceIte, Nat.reduceAdd, Nat.reduceSub, Nat.reduceBEq, Nat.reduceEqDiff, Nat.reduceLeDiff, Nat.reduceLT, true_and, and_true, Bool.false_eq_true, reduceCtorEq, if_true, if_false, hc_xx, hc_ofNat, hc_10, not_true_eq_false, not_false_eq_true, ge_iff_le, sp_abs, lgc_lt, lgc_eq, c4, c5, nI_1]
            exact s
      · have c3' : ¬ (fy n).toInt ≤ hy.toInt := fun q => c3 (Int32.le_iff_toInt_le.mpr q)
        have s := skip (fun q => by have := tq.mp q; omega) (some (.int (fy n))) g16 g18
        rw [hc_opt] at s
        simp only [hm9_67, hm9_68, hm9_71, hm9_74, hm9_77, hm9_78, hm9_81, hm9_84, hm9_86, hm9_87, hm9_89, hm9_92, hm9_93, hm9_96, hm9_99, hm9_101, hm9_102, hm9_104, hm9_106, hm9_108, hm9_111, hm9_113, hm9_115, hm9_118, hm9_121, hm9_124, hm9_126, hm9_128, hm9_129, hm9_130, hm9_131, hm9_132, hm9_134, hm9_135, hm9_138, hm9_141, hm9_143, hm9_144, hm9_145, hm9_146, hm9_147, hm9_148, hm9_149, hm9_150, hm9_152, hm9_154, hm9_157, hm9_159, hm9_160, hm9_163, hm9_165, hm9_167, hm9_169, hm9_170, hm9_171, hm9_174, hm9_175, hm9_178, hm9_179, hm9_181, hm9_183, hm9_186, hm9_187, hm9_189, hm9_192, hm9_195, hm9_196, hm9_197, hm9_200, hm9_203, hm9_204, hc_on_some, hc_get, hc_put, hc_ri, hc_rl, hc_is, hc_row, hc_wr, hc_mov, hc_smi, hc_sml, hc_fv, hc_ld, hc_kd, hc_sto, hc_pre, hc_two, hc_inc, hc_psh, hc_kp, hc_k1, hc_np, hc_bk_rf, hc_bk_gA, hc_set_ap, hc_set_set, Value.category, List.getElem?_cons_zero, List.getElem?_cons_succ, List.set_cons_zero, List.set_cons_succ, List.length_cons, List.length_nil, List.map_cons, List.map_nil, reduceIte, Nat.reduceAdd, Nat.reduceSub, Nat.reduceBEq, Nat.reduceEqDiff, Nat.reduceLeDiff, Nat.reduceLT, true_and, and_true, Bool.false_eq_true, reduceCtorEq, if_true, if_false, hc_xx, hc_ofNat, hc_10, not_true_eq_false, not_false_eq_true, ge_iff_le, q1', hh, e1, i1, i2, e4, c1, c2, c3, nI_1]
        exact s
end S31
