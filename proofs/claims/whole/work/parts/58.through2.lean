/-! isThrough of the reference, whole; projection -/
theorem kN_at {N : List (Int × Int)} (hb : inB N) {i : Nat} (hi : i < N.length) : ((kN N)[i]'(by rw [List.length_map]; exact hi)) / 4294967296 = (nd N i).1 ∧ ((kN N)[i]'(by rw [List.length_map]; exact hi)) % 4294967296 = (nd N i).2 + 1073741824 ∧ inb (nd N i).1 (nd N i).2 := by
  have e : nd N i = N[i] := by
    show N[i]?.getD (0, 0) = _
    rw [List.getElem?_eq_getElem hi]
    rfl
  have m := hb N[i] (List.getElem_mem hi)
  obtain ⟨m1, m2, m3, m4⟩ := id m
  rw [List.getElem_map, e]
  exact ⟨kxy_x (by omega) (by omega), kxy_y (by omega) (by omega), m⟩
section S58
variable {G : hc_G} {σ : hc_H} {t : hc_T} {Q : hc_Q} {h p w b h' p' w' b' n c : Nat} {rt : hc_R} {q : hc_Cl} {f : Nat → Int32} {S E N : List (Int × Int)}
theorem sp_nx {k i : Nat} {o : hc_O} (hh : σ k = some o) (hP : MPo o (kN N) 36002) (hb : inB N) (hi : i < N.length) (K : ∀ v : Int32, v.toInt = (nd N i).1 → Q G σ t (some (.inl (.int v)))) : hc_wp G σ t 47 0 [some (.inl (.ref k)), some (.inl (.int (nI i)))] [] Q := by
  have m := kN_at hb hi
  obtain ⟨m1, m2, m3, m4⟩ := m.2.2
  refine sp_mx hh hP (by omega) (by rw [List.length_map]; exact hi) fun v hv => K v ?_
  rw [m.1] at hv
  exact hv (by omega) (by omega)
theorem sp_ny {k i : Nat} {o : hc_O} (hh : σ k = some o) (hP : MPo o (kN N) 36002) (hb : inB N) (hi : i < N.length) (K : ∀ v : Int32, v.toInt = (nd N i).2 → Q G σ t (some (.inl (.int v)))) : hc_wp G σ t 48 0 [some (.inl (.ref k)), some (.inl (.int (nI i)))] [] Q := by
  have m := kN_at hb hi
  obtain ⟨m1, m2, m3, m4⟩ := m.2.2
  refine sp_my hh hP (by omega) (by rw [List.length_map]; exact hi) fun v hv => K v ?_
  rw [m.2.1] at hv
  rw [hv (by omega)]
  omega
theorem two_i {a : Int32} (h : -1000000 ≤ a.toInt ∧ a.toInt ≤ 1000000) : (2 * a.toInt64).toInt = 2 * a.toInt := by
  have l2 : (2 : Int64).toInt = 2 := rfl
  rw [i64_mul (by rw [l2, i64_of32]; omega) (by rw [l2, i64_of32]; omega), l2, i64_of32]
theorem two_d {a c : Int32} (h1 : i6 a) (h2 : i6 c) : (2 * (a.toInt64 - c.toInt64)).toInt = 2 * (a.toInt - c.toInt) := by
  have l2 : (2 : Int64).toInt = 2 := rfl
  have d := dfL h1 h2
  rw [i64_mul (by rw [l2, d.1]; omega) (by rw [l2, d.1]; omega), l2, d.1]
theorem sp_isT {e i : Nat} {o : hc_O} (h30 : σ 30 = some (oMd h p w b h' p' w' b' rt q)) (h31 : σ 31 = some (oIn n c f)) (hc : c ≤ 4096) (hS : 4 * S.length ≤ c) (hev : ELf f S E) (hb : inB S) (hb2 : inB E) (hle : E.length = S.length) (hr : Real S E) (he : e < S.length) (n1 : h' ≠ 30) (hh : σ h' = some o) (hP : MPo o (kN N) 36002) (hbN : inB N) (hi : i < N.length)
    (K : ∀ (v : Int32) q', (v = 0 ∨ v = 1) → (v = 1 ↔ thr (edz S E e) (nd N i)) → Q G (hc_set σ 30 (oMd h p w b h' p' w' b' rt q')) t (some (.inl (.int v)))) :
    hc_wp G σ t 72 0 [some (.inl (.ref 30)), some (.inl (.int (nI e))), some (.inl (.int (nI i))), none, none, none, none, none, none] [] Q := by
  have ha : 4 * e + 3 < c := by omega
  have m30 : ∀ q1, hc_set σ 30 (oMd h p w b h' p' w' b' rt q1) 30 = some (oMd h p w b h' p' w' b' rt q1) := fun q1 => hc_set_at _ _ _
  have m31 : ∀ q1, hc_set σ 30 (oMd h p w b h' p' w' b' rt q1) 31 = some (oIn n c f) := fun q1 => by rw [hc_set_ne _ _ (by decide)]; exact h31
  have mh : ∀ q1, hc_set σ 30 (oMd h p w b h' p' w' b' rt q1) h' = some o := fun q1 => by rw [hc_set_ne _ _ n1]; exact hh
  obtain ⟨v0, v1, v2, v3⟩ := hev e he
  obtain ⟨⟨b1, b2, b3, b4⟩, b5, b6, b7, b8⟩ := edz_in hb hb2 he (show e < E.length by omega)
  have rl := hr e he
  obtain ⟨ni1, ni2, ni3, ni4⟩ := (kN_at hbN hi).2.2
  have i0 : i6 (f (4 * e)) := ⟨by omega, by omega⟩
  have i1 : i6 (f (4 * e + 1)) := ⟨by omega, by omega⟩
  have i2 : i6 (f (4 * e + 2)) := ⟨by omega, by omega⟩
  have i3 : i6 (f (4 * e + 3)) := ⟨by omega, by omega⟩
  have d20 := two_d i2 i0
  have d31 := two_d i3 i1
  have t0 := two_i (a := f (4 * e)) (by omega)
  have t1 := two_i (a := f (4 * e + 1)) (by omega)
  rw [v2, v0] at d20
  rw [v3, v1] at d31
  rw [v0] at t0
  rw [v1] at t1
  have l1 : (1 : Int64).toInt = 1 := rfl
  have l0 : (0 : Int64).toInt = 0 := rfl
  have core := thr_core (dx := (edz S E e).2.2.1 - (edz S E e).1) (dy := (edz S E e).2.2.2 - (edz S E e).2.1) (I := (nd N i).1 - (edz S E e).1) (J := (nd N i).2 - (edz S E e).2.1) (by omega)
  have same : thr (edz S E e) (nd N i) ↔ (min 0 ((edz S E e).2.2.1 - (edz S E e).1) ≤ (nd N i).1 - (edz S E e).1 ∧ (nd N i).1 - (edz S E e).1 ≤ max 0 ((edz S E e).2.2.1 - (edz S E e).1) ∧ min 0 ((edz S E e).2.2.2 - (edz S E e).2.1) ≤ (nd N i).2 - (edz S E e).2.1 ∧ (nd N i).2 - (edz S E e).2.1 ≤ max 0 ((edz S E e).2.2.2 - (edz S E e).2.1)) ∧ ((-((((edz S E e).2.2.1 - (edz S E e).1).natAbs : Int) + (((edz S E e).2.2.2 - (edz S E e).2.1).natAbs : Int)) < 2 * (((edz S E e).2.2.1 - (edz S E e).1) * ((nd N i).2 - (edz S E e).2.1) - ((edz S E e).2.2.2 - (edz S E e).2.1) * ((nd N i).1 - (edz S E e).1)) ∧ 2 * (((edz S E e).2.2.1 - (edz S E e).1) * ((nd N i).2 - (edz S E e).2.1) - ((edz S E e).2.2.2 - (edz S E e).2.1) * ((nd N i).1 - (edz S E e).1)) < (((edz S E e).2.2.1 - (edz S E e).1).natAbs : Int) + (((edz S E e).2.2.2 - (edz S E e).2.1).natAbs : Int)) ∨ 2 * (((edz S E e).2.2.1 - (edz S E e).1) * ((nd N i).2 - (edz S E e).2.1) - ((edz S E e).2.2.2 - (edz S E e).2.1) * ((nd N i).1 - (edz S E e).1)) = ((edz S E e).2.2.1 - (edz S E e).1) - ((edz S E e).2.2.2 - (edz S E e).2.1)) := by
    have eb : (min (edz S E e).1 (edz S E e).2.2.1 ≤ (nd N i).1 ∧ (nd N i).1 ≤ max (edz S E e).1 (edz S E e).2.2.1 ∧ min (edz S E e).2.1 (edz S E e).2.2.2 ≤ (nd N i).2 ∧ (nd N i).2 ≤ max (edz S E e).2.1 (edz S E e).2.2.2) ↔ (min 0 ((edz S E e).2.2.1 - (edz S E e).1) ≤ (nd N i).1 - (edz S E e).1 ∧ (nd N i).1 - (edz S E e).1 ≤ max 0 ((edz S E e).2.2.1 - (edz S E e).1) ∧ min 0 ((edz S E e).2.2.2 - (edz S E e).2.1) ≤ (nd N i).2 - (edz S E e).2.1 ∧ (nd N i).2 - (edz S E e).2.1 ≤ max 0 ((edz S E e).2.2.2 - (edz S E e).2.1)) := by omega
    exact and_congr eb Iff.rfl
  rw [← same] at core
  generalize hdx : (edz S E e).2.2.1 - (edz S E e).1 = dx at *
  generalize hdy : (edz S E e).2.2.2 - (edz S E e).2.1 = dy at *
  generalize hI : (nd N i).1 - (edz S E e).1 = I at *
  generalize hJ : (nd N i).2 - (edz S E e).2.1 = J at *
  have bd0L : bdF L0F := ⟨by decide, by decide, by decide⟩
  have bd0U : bdF U0F := ⟨by decide, by decide, by decide⟩
  have bdL : ∀ {d I : Int} {l : hc_Fr}, -1000000 ≤ d ∧ d ≤ 1000000 → -1000000 ≤ I ∧ I ≤ 1000000 → bdF l → bdF (axL d I l) := by
    intro d I l x1 x2 x3
    unfold axL
    split
    · exact x3
    · exact bdF_mx x3 (bdF_lo (by omega) (by omega) (by omega) (by omega))
  have bdU : ∀ {d I : Int} {l : hc_Fr}, -1000000 ≤ d ∧ d ≤ 1000000 → -1000000 ≤ I ∧ I ≤ 1000000 → bdF l → bdF (axU d I l) := by
    intro d I l x1 x2 x3
    unfold axU
    split
    · exact x3
    · exact bdF_mn x3 (bdF_hi (by omega) (by omega) (by omega) (by omega))
  have rdx : -1000000 ≤ dx ∧ dx ≤ 1000000 := by omega
  have rdy : -1000000 ≤ dy ∧ dy ≤ 1000000 := by omega
  have rI : -1000000 ≤ I ∧ I ≤ 1000000 := by omega
  have rJ : -1000000 ≤ J ∧ J ≤ 1000000 := by omega
  -- the end: from 145 on
  have rest2 : ∀ (q2 : hc_Cl) (hx hy : Int64), FL q2 (axL dy J (axL dx I L0F)) → FU q2 (axU dy J (axU dx I U0F)) → (dx = 0 → I = 0) → (dy = 0 → J = 0) → hc_wp G (hc_set σ 30 (oMd h p w b h' p' w' b' rt q2)) t 72 145 [some (.inl (.ref 30)), some (.inl (.int (nI e))), some (.inl (.int (nI i))), some (.inl (.long hx)), none, some (.inl (.long hy)), none, none, none] [] Q := by
    intro q2 hx hy f1 f2 zx zy
    have bb1 := bdL rdy rJ (bdL rdx rI bd0L)
    have bb2 := bdU rdy rJ (bdU rdx rI bd0U)
    have core2 : thr (edz S E e) (nd N i) ↔ okF (axL dy J (axL dx I L0F)) (axU dy J (axU dx I U0F)) := core.symm.trans ⟨fun x => x.2.2, fun x => ⟨zx, zy, x⟩⟩
    generalize axL dy J (axL dx I L0F) = l at *
    generalize axU dy J (axU dx I U0F) = u at *
    obtain ⟨x1, x2, x3⟩ := f1
    obtain ⟨y1, y2, y3⟩ := f2
    obtain ⟨bl1, bl2, bl3⟩ := bb1
    obtain ⟨bu1, bu2, bu3⟩ := bb2
    have hd := dprod (a := q2.1) (b := q2.2.2.2.1) (c := q2.2.2.1) (d := q2.2.1) (by omega) (by omega) (by omega) (by omega)
    rw [x1, x2, y1, y2] at hd
    have z1 : (q2.1 * q2.2.2.2.1 - q2.2.2.1 * q2.2.1 < 0) ↔ l.1 * u.2.1 < u.1 * l.2.1 := by
      rw [Int64.lt_iff_toInt_lt, hd, l0]
      omega
    have z2 : (q2.1 * q2.2.2.2.1 - q2.2.2.1 * q2.2.1 = 0) ↔ l.1 * u.2.1 = u.1 * l.2.1 := by
      rw [← Int64.toInt_inj, hd, l0]
      omega
    have one : thr (edz S E e) (nd N i) → Q G (hc_set σ 30 (oMd h p w b h' p' w' b' rt q2)) t (some (.inl (.int 1))) := fun x => K 1 q2 (Or.inr rfl) ⟨fun _ => x, fun _ => rfl⟩
    have zero : ¬ thr (edz S E e) (nd N i) → Q G (hc_set σ 30 (oMd h p w b h' p' w' b' rt q2)) t (some (.inl (.int 0))) := fun x => K 0 q2 (Or.inl rfl) ⟨fun y => absurd y (by decide), fun y => absurd y x⟩
    by_cases c1 : q2.1 * q2.2.2.2.1 - q2.2.2.1 * q2.2.1 < 0
    · have M := one (core2.mpr (Or.inl (z1.mp c1)))
      simp only [hm72_145, hm72_146, hm72_149, hm72_150, hm72_153, hm72_154, hm72_155, hm72_158, hm72_159, hm72_162, hm72_163, hm72_164, hm72_166, hm72_168, hm72_169, hm72_170, hm72_173, hm72_175, hm72_176, hm72_177, hm72_180, hm72_181, hm72_184, hm72_187, hm72_188, hm72_191, hm72_194, hm72_195, hm72_198, hm72_199, hc_on_some, hc_get, hc_put, hc_ri, hc_rl, hc_is, hc_row, hc_wr, hc_mov, hc_smi, hc_sml, hc_fv, hc_ld, hc_kd, hc_sto, hc_pre, hc_two, hc_inc, hc_psh, hc_kp, hc_k1, hc_np, hc_bk_rf, hc_bk_gA, hc_set_ap, hc_set_set, Value.category, List.getElem?_cons_zero, List.getElem?_cons_succ, List.set_cons_zero, List.set_cons_succ, List.length_cons, List.length_nil, List.map_cons, List.map_nil, reduceIte, Nat.reduceAdd, Nat.reduceSub, Nat.reduceBEq, Nat.reduceEqDiff, Nat.reduceLeDiff, Nat.reduceLT, true_and, and_true, Bool.false_eq_true, reduceCtorEq, if_true, if_false, hc_xx, hc_ofNat, hc_10, not_true_eq_false, not_false_eq_true, ge_iff_le, m30, h30, lgc_lt, lgc_eq, c1, true_or, or_true]
      exact M
    · have c1' := mt z1.mpr c1
      by_cases c2 : q2.1 * q2.2.2.2.1 - q2.2.2.1 * q2.2.1 = 0
      · have c3 : ¬ (0 : Int64) < 0 := by decide
        have c2' := z2.mp c2
        have o10 : ¬ (1 : Int32) = 0 := by decide
        by_cases g1 : l.2.2 = true
        · rw [if_pos g1] at x3
          by_cases g2 : u.2.2 = true
          · rw [if_pos g2] at y3
            have M := one (core2.mpr (Or.inr ⟨c2', g1, g2⟩))
            simp only [hm72_145, hm72_146, hm72_149, hm72_150, hm72_153, hm72_154, hm72_155, hm72_158, hm72_159, hm72_162, hm72_163, hm72_164, hm72_166, hm72_168, hm72_169, hm72_170, hm72_173, hm72_175, hm72_176, hm72_177, hm72_180, hm72_181, hm72_184, hm72_187, hm72_188, hm72_191, hm72_194, hm72_195, hm72_198, hm72_199, hc_on_some, hc_get, hc_put, hc_ri, hc_rl, hc_is, hc_row, hc_wr, hc_mov, hc_smi, hc_sml, hc_fv, hc_ld, hc_kd, hc_sto, hc_pre, hc_two, hc_inc, hc_psh, hc_kp, hc_k1, hc_np, hc_bk_rf, hc_bk_gA, hc_set_ap, hc_set_set, Value.category, List.getElem?_cons_zero, List.getElem?_cons_succ, List.set_cons_zero, List.set_cons_succ, List.length_cons, List.length_nil, List.map_cons, List.map_nil, reduceIte, Nat.reduceAdd, Nat.reduceSub, Nat.reduceBEq, Nat.reduceEqDiff, Nat.reduceLeDiff, Nat.reduceLT, true_and, and_true, Bool.false_eq_true, reduceCtorEq, if_true, if_false, hc_xx, hc_ofNat, hc_10, not_true_eq_false, not_false_eq_true, ge_iff_le, m30, h30, lgc_lt, lgc_eq, c2, c3, x3, y3, o10, true_or, or_true]
            exact M
          · rw [if_neg g2] at y3
            have M := zero fun x => by
              rcases core2.mp x with x | ⟨-, -, x⟩
              · exact c1' x
              · exact g2 x
            simp only [hm72_145, hm72_146, hm72_149, hm72_150, hm72_153, hm72_154, hm72_155, hm72_158, hm72_159, hm72_162, hm72_163, hm72_164, hm72_166, hm72_168, hm72_169, hm72_170, hm72_173, hm72_175, hm72_176, hm72_177, hm72_180, hm72_181, hm72_184, hm72_187, hm72_188, hm72_191, hm72_194, hm72_195, hm72_198, hm72_199, hc_on_some, hc_get, hc_put, hc_ri, hc_rl, hc_is, hc_row, hc_wr, hc_mov, hc_smi, hc_sml, hc_fv, hc_ld, hc_kd, hc_sto, hc_pre, hc_two, hc_inc, hc_psh, hc_kp, hc_k1, hc_np, hc_bk_rf, hc_bk_gA, hc_set_ap, hc_set_set, Value.category, List.getElem?_cons_zero, List.getElem?_cons_succ, List.set_cons_zero, List.set_cons_succ, List.length_cons, List.length_nil, List.map_cons, List.map_nil, reduceIte, Nat.reduceAdd, Nat.reduceSub, Nat.reduceBEq, Nat.reduceEqDiff, Nat.reduceLeDiff, Nat.reduceLT, true_and, and_true, Bool.false_eq_true, reduceCtorEq, if_true, if_false, hc_xx, hc_ofNat, hc_10, not_true_eq_false, not_false_eq_true, ge_iff_le, m30, h30, lgc_lt, lgc_eq, c2, c3, x3, y3, o10, true_or, or_true]
            exact M
        · rw [if_neg g1] at x3
          have M := zero fun x => by
            rcases core2.mp x with x | ⟨-, x, -⟩
            · exact c1' x
            · exact g1 x
          simp only [hm72_145, hm72_146, hm72_149, hm72_150, hm72_153, hm72_154, hm72_155, hm72_158, hm72_159, hm72_162, hm72_163, hm72_164, hm72_166, hm72_168, hm72_169, hm72_170, hm72_173, hm72_175, hm72_176, hm72_177, hm72_180, hm72_181, hm72_184, hm72_187, hm72_188, hm72_191, hm72_194, hm72_195, hm72_198, hm72_199, hc_on_some, hc_get, hc_put, hc_ri, hc_rl, hc_is, hc_row, hc_wr, hc_mov, hc_smi, hc_sml, hc_fv, hc_ld, hc_kd, hc_sto, hc_pre, hc_two, hc_inc, hc_psh, hc_kp, hc_k1, hc_np, hc_bk_rf, hc_bk_gA, hc_set_ap, hc_set_set, Value.category, List.getElem?_cons_zero, List.getElem?_cons_succ, List.set_cons_zero, List.set_cons_succ, List.length_cons, List.length_nil, List.map_cons, List.map_nil, reduceIte, Nat.reduceAdd, Nat.reduceSub, Nat.reduceBEq, Nat.reduceEqDiff, Nat.reduceLeDiff, Nat.reduceLT, true_and, and_true, Bool.false_eq_true, reduceCtorEq, if_true, if_false, hc_xx, hc_ofNat, hc_10, not_true_eq_false, not_false_eq_true, ge_iff_le, m30, h30, lgc_lt, lgc_eq, c2, c3, x3, o10, true_or, or_true]
          exact M
      · have M := zero fun x => by
          rcases core2.mp x with x | ⟨x, -⟩
          · exact c1' x
          · exact c2 (z2.mpr x)
        simp only [hm72_145, hm72_146, hm72_149, hm72_150, hm72_153, hm72_154, hm72_155, hm72_158, hm72_159, hm72_162, hm72_163, hm72_164, hm72_166, hm72_168, hm72_169, hm72_170, hm72_173, hm72_175, hm72_176, hm72_177, hm72_180, hm72_181, hm72_184, hm72_187, hm72_188, hm72_191, hm72_194, hm72_195, hm72_198, hm72_199, hc_on_some, hc_get, hc_put, hc_ri, hc_rl, hc_is, hc_row, hc_wr, hc_mov, hc_smi, hc_sml, hc_fv, hc_ld, hc_kd, hc_sto, hc_pre, hc_two, hc_inc, hc_psh, hc_kp, hc_k1, hc_np, hc_bk_rf, hc_bk_gA, hc_set_ap, hc_set_set, Value.category, List.getElem?_cons_zero, List.getElem?_cons_succ, List.set_cons_zero, List.set_cons_succ, List.length_cons, List.length_nil, List.map_cons, List.map_nil, reduceIte, Nat.reduceAdd, Nat.reduceSub, Nat.reduceBEq, Nat.reduceEqDiff, Nat.reduceLeDiff, Nat.reduceLT, true_and, and_true, Bool.false_eq_true, reduceCtorEq, if_true, if_false, hc_xx, hc_ofNat, hc_10, not_true_eq_false, not_false_eq_true, ge_iff_le, m30, h30, lgc_lt, lgc_eq, c1, c2, true_or, or_true]
        exact M
  -- the second axis: from 101 on
  have rest1 : ∀ (q1 : hc_Cl) (hx hy : Int64), hy.toInt = 2 * (nd N i).2 → FL q1 (axL dx I L0F) → FU q1 (axU dx I U0F) → (dx = 0 → I = 0) → hc_wp G (hc_set σ 30 (oMd h p w b h' p' w' b' rt q1)) t 72 101 [some (.inl (.ref 30)), some (.inl (.int (nI e))), some (.inl (.int (nI i))), some (.inl (.long hx)), none, some (.inl (.long hy)), none, none, none] [] Q := by
    intro q1 hx hy ehy f1 f2 zx
    have s1 : (hy - 1).toInt = 2 * (nd N i).2 - 1 := by rw [i64_sub (by rw [l1]; omega) (by rw [l1]; omega), l1, ehy]
    have s2 : (hy + 1).toInt = 2 * (nd N i).2 + 1 := by rw [i64_add (by rw [l1]; omega) (by rw [l1]; omega), l1, ehy]
    simp only [hm72_101, hm72_102, hm72_105, hm72_106, hm72_107, hm72_108, hm72_111, hm72_112, hm72_115, hm72_116, hm72_117, hm72_118, hm72_121, hm72_122, hm72_123, hm72_124, hm72_127, hm72_128, hm72_129, hm72_131, hm72_132, hm72_133, hm72_135, hm72_136, hm72_137, hc_on_some, hc_get, hc_put, hc_ri, hc_rl, hc_is, hc_row, hc_wr, hc_mov, hc_smi, hc_sml, hc_fv, hc_ld, hc_kd, hc_sto, hc_pre, hc_two, hc_inc, hc_psh, hc_kp, hc_k1, hc_np, hc_bk_rf, hc_bk_gA, hc_set_ap, hc_set_set, Value.category, List.getElem?_cons_zero, List.getElem?_cons_succ, List.set_cons_zero, List.set_cons_succ, List.length_cons, List.length_nil, List.map_cons, List.map_nil, reduceIte, Nat.reduceAdd, Nat.reduceSub, Nat.reduceBEq, Nat.reduceEqDiff, Nat.reduceLeDiff, Nat.reduceLT, true_and, and_true, Bool.false_eq_true, reduceCtorEq, if_true, if_false, hc_xx, hc_ofNat, hc_10, not_true_eq_false, not_false_eq_true, ge_iff_le, m30, h30, sp_end1 (m30 q1) (m31 q1) ha hc, sp_end3 (m30 q1) (m31 q1) ha hc]
    refine sp_within (m30 q1) f1 f2 (bdL rdx rI bd0L) (bdU rdx rI bd0U) (by omega) (by omega) (by omega) (by omega) (fun hY v hv hvi => ?_) (fun hY q2 g1 g2 => ?_)
    · rw [d31] at hY
      rw [s1, s2, t1] at hvi
      rcases hv with rfl | rfl
      · have M := K 0 q1 (Or.inl rfl) ⟨fun y => absurd y (by decide), fun y => by
          have := (core.mpr y).2.1 (by omega)
          exact absurd (hvi.mpr (by omega)) (by decide)⟩
        simp only [hm72_140, hm72_143, hm72_144, hc_on_some, hc_get, hc_put, hc_ri, hc_rl, hc_is, hc_row, hc_wr, hc_mov, hc_smi, hc_sml, hc_fv, hc_ld, hc_kd, hc_sto, hc_pre, hc_two, hc_inc, hc_psh, hc_kp, hc_k1, hc_np, hc_bk_rf, hc_bk_gA, hc_set_ap, hc_set_set, Value.category, List.getElem?_cons_zero, List.getElem?_cons_succ, List.set_cons_zero, List.set_cons_succ, List.length_cons, List.length_nil, List.map_cons, List.map_nil, reduceIte, Nat.reduceAdd, Nat.reduceSub, Nat.reduceBEq, Nat.reduceEqDiff, Nat.reduceLeDiff, Nat.reduceLT, true_and, and_true, Bool.false_eq_true, reduceCtorEq, if_true, if_false, hc_xx, hc_ofNat, hc_10, not_true_eq_false, not_false_eq_true, ge_iff_le, true_or, or_true]
        exact M
      · have o10 : ¬ (1 : Int32) = 0 := by decide
        have R := rest2 q1 hx hy (by
          unfold axL
          rw [if_pos (by omega)]
          exact f1) (by
          unfold axU
          rw [if_pos (by omega)]
          exact f2) zx (fun _ => by have := hvi.mp rfl; omega)
        simp only [hm72_140, hm72_143, hm72_144, hc_on_some, hc_get, hc_put, hc_ri, hc_rl, hc_is, hc_row, hc_wr, hc_mov, hc_smi, hc_sml, hc_fv, hc_ld, hc_kd, hc_sto, hc_pre, hc_two, hc_inc, hc_psh, hc_kp, hc_k1, hc_np, hc_bk_rf, hc_bk_gA, hc_set_ap, hc_set_set, Value.category, List.getElem?_cons_zero, List.getElem?_cons_succ, List.set_cons_zero, List.set_cons_succ, List.length_cons, List.length_nil, List.map_cons, List.map_nil, reduceIte, Nat.reduceAdd, Nat.reduceSub, Nat.reduceBEq, Nat.reduceEqDiff, Nat.reduceLeDiff, Nat.reduceLT, true_and, and_true, Bool.false_eq_true, reduceCtorEq, if_true, if_false, hc_xx, hc_ofNat, hc_10, not_true_eq_false, not_false_eq_true, ge_iff_le, o10]
        exact R
    · rw [d31] at hY g1 g2
      rw [s1, s2, t1] at g1 g2
      have o10 : ¬ (1 : Int32) = 0 := by decide
      have k1 : 2 * (nd N i).2 - 1 - 2 * (edz S E e).2.1 = 2 * J - 1 := by omega
      have k2 : 2 * (nd N i).2 + 1 - 2 * (edz S E e).2.1 = 2 * J + 1 := by omega
      rw [k1, k2] at g1 g2
      have R := rest2 q2 hx hy (by
        unfold axL
        rw [if_neg (by omega)]
        exact g1) (by
        unfold axU
        rw [if_neg (by omega)]
        exact g2) zx (fun x => absurd x (by omega))
      rw [hc_set_set]
      simp only [hm72_140, hm72_143, hm72_144, hc_on_some, hc_get, hc_put, hc_ri, hc_rl, hc_is, hc_row, hc_wr, hc_mov, hc_smi, hc_sml, hc_fv, hc_ld, hc_kd, hc_sto, hc_pre, hc_two, hc_inc, hc_psh, hc_kp, hc_k1, hc_np, hc_bk_rf, hc_bk_gA, hc_set_ap, hc_set_set, Value.category, List.getElem?_cons_zero, List.getElem?_cons_succ, List.set_cons_zero, List.set_cons_succ, List.length_cons, List.length_nil, List.map_cons, List.map_nil, reduceIte, Nat.reduceAdd, Nat.reduceSub, Nat.reduceBEq, Nat.reduceEqDiff, Nat.reduceLeDiff, Nat.reduceLT, true_and, and_true, Bool.false_eq_true, reduceCtorEq, if_true, if_false, hc_xx, hc_ofNat, hc_10, not_true_eq_false, not_false_eq_true, ge_iff_le, o10]
      exact R
  have hq := hP
  obtain ⟨cc, ff, rfl, -⟩ := hq
  simp only [hm72_0, hm72_1, hm72_2, hm72_5, hm72_6, hm72_7, hm72_10, hm72_11, hm72_12, hm72_15, hm72_16, hm72_17, hm72_20, hm72_21, hm72_22, hm72_25, hm72_26, hm72_27, hm72_30, hm72_33, hm72_34, hm72_37, hm72_38, hc_on_some, hc_get, hc_put, hc_ri, hc_rl, hc_is, hc_row, hc_wr, hc_mov, hc_smi, hc_sml, hc_fv, hc_ld, hc_kd, hc_sto, hc_pre, hc_two, hc_inc, hc_psh, hc_kp, hc_k1, hc_np, hc_bk_rf, hc_bk_gA, hc_set_ap, hc_set_set, Value.category, List.getElem?_cons_zero, List.getElem?_cons_succ, List.set_cons_zero, List.set_cons_succ, List.length_cons, List.length_nil, List.map_cons, List.map_nil, reduceIte, Nat.reduceAdd, Nat.reduceSub, Nat.reduceBEq, Nat.reduceEqDiff, Nat.reduceLeDiff, Nat.reduceLT, true_and, and_true, Bool.false_eq_true, reduceCtorEq, if_true, if_false, hc_xx, hc_ofNat, hc_10, not_true_eq_false, not_false_eq_true, ge_iff_le, h30, n1, hh, oMp, true_or, or_true]
  refine sp_nx (mh (0, 1, 1, 1, 1, 1)) hP hbN hi fun vx hvx => ?_
  simp only [hm72_41, hm72_42, hm72_43, hm72_44, hm72_47, hm72_48, hm72_51, hm72_52, hc_on_some, hc_get, hc_put, hc_ri, hc_rl, hc_is, hc_row, hc_wr, hc_mov, hc_smi, hc_sml, hc_fv, hc_ld, hc_kd, hc_sto, hc_pre, hc_two, hc_inc, hc_psh, hc_kp, hc_k1, hc_np, hc_bk_rf, hc_bk_gA, hc_set_ap, hc_set_set, Value.category, List.getElem?_cons_zero, List.getElem?_cons_succ, List.set_cons_zero, List.set_cons_succ, List.length_cons, List.length_nil, List.map_cons, List.map_nil, reduceIte, Nat.reduceAdd, Nat.reduceSub, Nat.reduceBEq, Nat.reduceEqDiff, Nat.reduceLeDiff, Nat.reduceLT, true_and, and_true, Bool.false_eq_true, reduceCtorEq, if_true, if_false, hc_xx, hc_ofNat, hc_10, not_true_eq_false, not_false_eq_true, ge_iff_le, h30, n1, hh, oMp]
  refine sp_ny (mh (0, 1, 1, 1, 1, 1)) hP hbN hi fun vy hvy => ?_
  have tx := two_i (a := vx) (by omega)
  have ty := two_i (a := vy) (by omega)
  rw [hvx] at tx
  rw [hvy] at ty
  have s1 : (2 * vx.toInt64 - 1).toInt = 2 * (nd N i).1 - 1 := by rw [i64_sub (by rw [l1]; omega) (by rw [l1]; omega), l1, tx]
  have s2 : (2 * vx.toInt64 + 1).toInt = 2 * (nd N i).1 + 1 := by rw [i64_add (by rw [l1]; omega) (by rw [l1]; omega), l1, tx]
  simp only [hm72_55, hm72_56, hm72_57, hm72_59, hm72_60, hm72_63, hm72_64, hm72_65, hm72_66, hm72_69, hm72_70, hm72_73, hm72_74, hm72_75, hm72_76, hm72_79, hm72_80, hm72_81, hm72_82, hm72_85, hm72_86, hm72_87, hm72_88, hm72_89, hm72_90, hm72_91, hm72_92, hm72_93, hc_on_some, hc_get, hc_put, hc_ri, hc_rl, hc_is, hc_row, hc_wr, hc_mov, hc_smi, hc_sml, hc_fv, hc_ld, hc_kd, hc_sto, hc_pre, hc_two, hc_inc, hc_psh, hc_kp, hc_k1, hc_np, hc_bk_rf, hc_bk_gA, hc_set_ap, hc_set_set, Value.category, List.getElem?_cons_zero, List.getElem?_cons_succ, List.set_cons_zero, List.set_cons_succ, List.length_cons, List.length_nil, List.map_cons, List.map_nil, reduceIte, Nat.reduceAdd, Nat.reduceSub, Nat.reduceBEq, Nat.reduceEqDiff, Nat.reduceLeDiff, Nat.reduceLT, true_and, and_true, Bool.false_eq_true, reduceCtorEq, if_true, if_false, hc_xx, hc_ofNat, hc_10, not_true_eq_false, not_false_eq_true, ge_iff_le, h30, sp_end0 (m30 (0, 1, 1, 1, 1, 1)) (m31 (0, 1, 1, 1, 1, 1)) ha hc, sp_end2 (m30 (0, 1, 1, 1, 1, 1)) (m31 (0, 1, 1, 1, 1, 1)) ha hc]
  have q0L : FL (0, 1, 1, 1, 1, 1) L0F := ⟨rfl, rfl, rfl⟩
  have q0U : FU (0, 1, 1, 1, 1, 1) U0F := ⟨rfl, rfl, rfl⟩
  refine sp_within (m30 (0, 1, 1, 1, 1, 1)) q0L q0U bd0L bd0U (by omega) (by omega) (by omega) (by omega) (fun hY v hv hvi => ?_) (fun hY q2 g1 g2 => ?_)
  · rw [d20] at hY
    rw [s1, s2, t0] at hvi
    rcases hv with rfl | rfl
    · have M := K 0 (0, 1, 1, 1, 1, 1) (Or.inl rfl) ⟨fun y => absurd y (by decide), fun y => by
        have := (core.mpr y).1 (by omega)
        exact absurd (hvi.mpr (by omega)) (by decide)⟩
      simp only [hm72_96, hm72_99, hm72_100, hc_on_some, hc_get, hc_put, hc_ri, hc_rl, hc_is, hc_row, hc_wr, hc_mov, hc_smi, hc_sml, hc_fv, hc_ld, hc_kd, hc_sto, hc_pre, hc_two, hc_inc, hc_psh, hc_kp, hc_k1, hc_np, hc_bk_rf, hc_bk_gA, hc_set_ap, hc_set_set, Value.category, List.getElem?_cons_zero, List.getElem?_cons_succ, List.set_cons_zero, List.set_cons_succ, List.length_cons, List.length_nil, List.map_cons, List.map_nil, reduceIte, Nat.reduceAdd, Nat.reduceSub, Nat.reduceBEq, Nat.reduceEqDiff, Nat.reduceLeDiff, Nat.reduceLT, true_and, and_true, Bool.false_eq_true, reduceCtorEq, if_true, if_false, hc_xx, hc_ofNat, hc_10, not_true_eq_false, not_false_eq_true, ge_iff_le, true_or, or_true]
      exact M
    · have o10 : ¬ (1 : Int32) = 0 := by decide
      have R := rest1 (0, 1, 1, 1, 1, 1) (2 * vx.toInt64) (2 * vy.toInt64) ty (by
        unfold axL
        rw [if_pos (by omega)]
        exact q0L) (by
        unfold axU
        rw [if_pos (by omega)]
        exact q0U) (fun _ => by have := hvi.mp rfl; omega)
      simp only [hm72_96, hm72_99, hm72_100, hc_on_some, hc_get, hc_put, hc_ri, hc_rl, hc_is, hc_row, hc_wr, hc_mov, hc_smi, hc_sml, hc_fv, hc_ld, hc_kd, hc_sto, hc_pre, hc_two, hc_inc, hc_psh, hc_kp, hc_k1, hc_np, hc_bk_rf, hc_bk_gA, hc_set_ap, hc_set_set, Value.category, List.getElem?_cons_zero, List.getElem?_cons_succ, List.set_cons_zero, List.set_cons_succ, List.length_cons, List.length_nil, List.map_cons, List.map_nil, reduceIte, Nat.reduceAdd, Nat.reduceSub, Nat.reduceBEq, Nat.reduceEqDiff, Nat.reduceLeDiff, Nat.reduceLT, true_and, and_true, Bool.false_eq_true, reduceCtorEq, if_true, if_false, hc_xx, hc_ofNat, hc_10, not_true_eq_false, not_false_eq_true, ge_iff_le, o10]
      exact R
  · rw [d20] at hY g1 g2
    rw [s1, s2, t0] at g1 g2
    have o10 : ¬ (1 : Int32) = 0 := by decide
    have k1 : 2 * (nd N i).1 - 1 - 2 * (edz S E e).1 = 2 * I - 1 := by omega
    have k2 : 2 * (nd N i).1 + 1 - 2 * (edz S E e).1 = 2 * I + 1 := by omega
    rw [k1, k2] at g1 g2
    have R := rest1 q2 (2 * vx.toInt64) (2 * vy.toInt64) ty (by
      unfold axL
      rw [if_neg (by omega)]
      exact g1) (by
      unfold axU
      rw [if_neg (by omega)]
      exact g2) (fun x => absurd x (by omega))
    rw [hc_set_set]
    simp only [hm72_96, hm72_99, hm72_100, hc_on_some, hc_get, hc_put, hc_ri, hc_rl, hc_is, hc_row, hc_wr, hc_mov, hc_smi, hc_sml, hc_fv, hc_ld, hc_kd, hc_sto, hc_pre, hc_two, hc_inc, hc_psh, hc_kp, hc_k1, hc_np, hc_bk_rf, hc_bk_gA, hc_set_ap, hc_set_set, Value.category, List.getElem?_cons_zero, List.getElem?_cons_succ, List.set_cons_zero, List.set_cons_succ, List.length_cons, List.length_nil, List.map_cons, List.map_nil, reduceIte, Nat.reduceAdd, Nat.reduceSub, Nat.reduceBEq, Nat.reduceEqDiff, Nat.reduceLeDiff, Nat.reduceLT, true_and, and_true, Bool.false_eq_true, reduceCtorEq, if_true, if_false, hc_xx, hc_ofNat, hc_10, not_true_eq_false, not_false_eq_true, ge_iff_le, o10]
    exact R
end S58
