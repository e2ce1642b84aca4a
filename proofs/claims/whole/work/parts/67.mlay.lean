/-! lay of the reference, whole -/
def uk2 (v : Int) : Int × Int := (v / 4294967296, v % 4294967296 - 1073741824)
theorem uk2_kxy {x y : Int} (h : inb x y) : uk2 (kxy x y) = (x, y) := by
  obtain ⟨h1, h2, h3, h4⟩ := h
  unfold uk2
  rw [kxy_x (by omega) (by omega), kxy_y (by omega) (by omega)]
  ext <;> simp only <;> omega
theorem kxy_lt {p q : Int × Int} (hp : inb p.1 p.2) (hq : inb q.1 q.2) : kxy p.1 p.2 < kxy q.1 q.2 ↔ plt p q := by
  unfold kxy plt
  obtain ⟨a1, a2, a3, a4⟩ := hp
  obtain ⟨b1, b2, b3, b4⟩ := hq
  constructor
  · intro h
    omega
  · intro h
    rcases h with h | ⟨h, h2⟩ <;> omega
theorem nodes_ofM {H : List (Int × Int)} (hH : ∀ q ∈ H, inb q.1 q.2) {L : List Int} (hs : L.Pairwise (· < ·)) (h1 : ∀ v ∈ L, v ∈ kN H) : (L.map uk2).Pairwise plt ∧ (∀ q ∈ L.map uk2, q ∈ H) ∧ ((∀ v ∈ kN H, v ∈ L) → ∀ q ∈ H, q ∈ L.map uk2) ∧ kN (L.map uk2) = L := by
  have key : ∀ v ∈ L, ∃ q ∈ H, v = kxy q.1 q.2 ∧ uk2 v = q := by
    intro v hv
    obtain ⟨q, hq, e⟩ := List.mem_map.mp (h1 v hv)
    exact ⟨q, hq, e.symm, by rw [← e]; exact uk2_kxy (hH q hq)⟩
  refine ⟨?_, ?_, ?_, ?_⟩
  · rw [List.pairwise_map]
    refine (List.Pairwise.and_mem.mp hs).imp ?_
    rintro a b ⟨ha, hb, hab⟩
    obtain ⟨p, hp, e1, e2⟩ := key a ha
    obtain ⟨q, hq, e3, e4⟩ := key b hb
    rw [e2, e4]
    rw [e1, e3] at hab
    exact (kxy_lt (hH p hp) (hH q hq)).mp hab
  · intro q hq
    obtain ⟨v, hv, e⟩ := List.mem_map.mp hq
    obtain ⟨p, hp, e1, e2⟩ := key v hv
    rw [← e, e2]
    exact hp
  · intro hall q hq
    exact List.mem_map.mpr ⟨kxy q.1 q.2, hall _ (List.mem_map.mpr ⟨q, hq, rfl⟩), uk2_kxy (hH q hq)⟩
  · rw [kN, List.map_map]
    have : L.map (fun v => v) = L := List.map_id' L
    conv => rhs; rw [← this]
    refine List.map_congr_left fun v hv => ?_
    obtain ⟨q, hq, e1, e2⟩ := key v hv
    show kxy (uk2 v).1 (uk2 v).2 = v
    rw [e2, e1]
section S67
variable {G G0 : hc_G} {σ τ : hc_H} {t : hc_T} {Q : hc_Q} {h p w b h' p' w' b' ct : Nat} {ft : Nat → Int32} {q : hc_Cl} {S E P N0 : List (Int × Int)} {Ws0 : List (List Nat)} {Ps0 : List (Int × Nat)} {HL PL WL BL AL : List Int}
theorem LD.mod (hz : MHp h p w b h' p' w' b') (hct : ct ≤ 9000) (hTM : TM ct ft Ps0) (e31 : ∃ l, inI σ 31 l 4096 ∧ EL l S E) (e33 : ∃ l, inI σ 33 l 2048 ∧ PTs l P) (hh : inM σ h (kN N0) 36002) (hp : inM σ p (kP Ps0) 40000) (hw : inI σ w (nat2 Ws0.flatten) 53248) (hb : ∃ l, inI σ b l 1100 ∧ BG l Ws0) (hB : LD σ τ h p w b h' p' w' b' (ct, .inl ft) HL PL WL BL AL) : MOD τ S E P N0 Ws0 Ps0 := by
  have hz' := hz
  unfold MHp at hz'
  obtain ⟨⟨q1, t30⟩, t2, t3, t4, t5, t6, hfr⟩ := hB
  have kI : ∀ {k : Nat} {l : List Int} {C : Nat}, k ≠ 30 → k ≠ h' → k ≠ p' → k ≠ w' → k ≠ b' → k ≠ 52 → inI σ k l C → inI τ k l C := by
    rintro k l C a1 a2 a3 a4 a5 a6 ⟨o, x1, x2⟩
    exact ⟨o, by rw [hfr k a1 a2 a3 a4 a5 a6]; exact x1, x2⟩
  have kM : ∀ {k : Nat} {l : List Int} {C : Nat}, k ≠ 30 → k ≠ h' → k ≠ p' → k ≠ w' → k ≠ b' → k ≠ 52 → inM σ k l C → inM τ k l C := by
    rintro k l C a1 a2 a3 a4 a5 a6 ⟨o, x1, x2⟩
    exact ⟨o, by rw [hfr k a1 a2 a3 a4 a5 a6]; exact x1, x2⟩
  obtain ⟨l31, i31, x31⟩ := e31
  obtain ⟨l33, i33, x33⟩ := e33
  obtain ⟨lb, ib, xb⟩ := hb
  exact ⟨h, p, w, b, h', p', w', b', ct, ft, q1, hz, t30, hct, hTM, ⟨l31, kI (by omega) (by omega) (by omega) (by omega) (by omega) (by omega) i31, x31⟩, ⟨l33, kI (by omega) (by omega) (by omega) (by omega) (by omega) (by omega) i33, x33⟩, kM (by omega) (by omega) (by omega) (by omega) (by omega) (by omega) hh, kM (by omega) (by omega) (by omega) (by omega) (by omega) (by omega) hp, kI (by omega) (by omega) (by omega) (by omega) (by omega) (by omega) hw, ⟨lb, kI (by omega) (by omega) (by omega) (by omega) (by omega) (by omega) ib, xb⟩, ⟨_, t2⟩, ⟨_, t3⟩, ⟨_, t4⟩, ⟨_, t5⟩, _, t6⟩
theorem LD.fr (hz : MHp h p w b h' p' w' b') {rt : hc_R} (hB : LD σ τ h p w b h' p' w' b' rt HL PL WL BL AL) : ∀ j, j < 30 ∨ 54 ≤ j → τ j = σ j := by
  unfold MHp at hz
  intro j hj
  exact hB.2.2.2.2.2.2 j (by omega) (by omega) (by omega) (by omega) (by omega) (by omega)
theorem sp_mlay (hM : MOD σ S E P N0 Ws0 Ps0) (hI : Inp S E P)
    (K : ∀ G' σ' N' Ws' Ps', MOD σ' S E P N' Ws' Ps' → Full (hotL S E P S.length) S E N' Ws' Ps' → Lim N' Ws' Ps' → (∀ j, j < 30 ∨ 54 ≤ j → σ' j = σ j) → hc_c9 G σ G' σ' → Q G' σ' none (some (.inl (.int (nI Ps'.length)))))
    (Kf : ∀ G' σ', MOD σ' S E P N0 Ws0 Ps0 → NoLay (hotL S E P S.length) S E → (∀ j, j < 30 ∨ 54 ≤ j → σ' j = σ j) → hc_c9 G σ G' σ' → Q G' σ' none (some (.inl (.int (-12))))) :
    hc_wp G σ none 63 0 [some (.inl (.ref 30)), none, none] [] Q := by
  obtain ⟨h, p, w, b, h', p', w', b', ct, ft, q, hz, h30, hct, hTM, e31, e33, mh, mp, mw, mb, ⟨lh, ih⟩, ⟨lp, ip⟩, ⟨lw, iw⟩, ⟨lb, ib⟩, ⟨la, ia⟩⟩ := hM
  obtain ⟨bS, bE, bP, hle, hS5, hP5, hR⟩ := hI
  have hz' := hz
  unfold MHp at hz'
  have L0 : LD σ σ h p w b h' p' w' b' (ct, .inl ft) lh lp lw lb la := ⟨⟨q, h30⟩, ih, ip, iw, ib, ia, fun _ _ _ _ _ _ _ => rfl⟩
  have keep : ∀ {τ : hc_H} {HL PL WL BL AL : List Int}, LD σ τ h p w b h' p' w' b' (ct, .inl ft) HL PL WL BL AL → MOD τ S E P N0 Ws0 Ps0 := fun hL => LD.mod hz hct hTM e31 e33 mh mp mw mb hL
  have bH : ∀ q ∈ hotL S E P S.length, inb q.1 q.2 := fun q hq => hotL_in bS bE bP hle hq
  obtain ⟨l31, ⟨o31, h31, i31⟩, x31⟩ := e31
  obtain ⟨c, f, rfl, f1, f2, f3, f4⟩ := i31
  have hev := x31.f f4
  rw [x31.1] at h31 f1
  obtain ⟨l33, ⟨o33, h33, i33⟩, x33⟩ := e33
  obtain ⟨cp, fp, rfl, g1, g2, g3, g4⟩ := i33
  rw [x33.1] at h33 g1
  have hpv : ∀ i, i < P.length → (fp (2 * i)).toInt = (nd P i).1 ∧ (fp (2 * i + 1)).toInt = (nd P i).2 := fun i hi => ⟨g4 _ _ (x33.2 i hi).1, g4 _ _ (x33.2 i hi).2⟩
  have hS4 : 4 * S.length ≤ c := by omega
  -- the four rows cleared
  have L0' := L0
  obtain ⟨⟨q0, t30⟩, ⟨oh, th, hH⟩, -⟩ := L0'
  have hq := hH
  obtain ⟨cc, ff, rfl, -⟩ := hq
  simp only [hm63_0, hm63_1, hm63_4, hc_on_some, hc_get, hc_put, hc_ri, hc_rl, hc_is, hc_row, hc_wr, hc_mov, hc_smi, hc_sml, hc_fv, hc_ld, hc_kd, hc_sto, hc_pre, hc_two, hc_inc, hc_psh, hc_kp, hc_k1, hc_np, hc_bk_rf, hc_bk_gA, hc_set_ap, hc_set_set, Value.category, List.getElem?_cons_zero, List.getElem?_cons_succ, List.set_cons_zero, List.set_cons_succ, List.length_cons, List.length_nil, List.map_cons, List.map_nil, reduceIte, Nat.reduceAdd, Nat.reduceSub, Nat.reduceBEq, Nat.reduceEqDiff, Nat.reduceLeDiff, Nat.reduceLT, true_and, and_true, Bool.false_eq_true, reduceCtorEq, if_true, if_false, hc_xx, hc_ofNat, hc_10, not_true_eq_false, not_false_eq_true, ge_iff_le, t30, th, oMp]
  refine sp_mclr th hH (by omega) fun o1 h1 c1 => ?_
  dsimp only
  rw [hc_bk_np rfl rfl]
  have L1 := LD.sh hz L0 h1
  generalize hc_set σ h' o1 = τ1 at *
  clear t30 th
  have L1' := L1
  obtain ⟨⟨q1, t30⟩, -, ⟨op, tp, hPp⟩, -⟩ := L1'
  have hq := hPp
  obtain ⟨cc2, ff2, rfl, -⟩ := hq
  simp only [hm63_7, hm63_8, hm63_11, hc_on_some, hc_get, hc_put, hc_ri, hc_rl, hc_is, hc_row, hc_wr, hc_mov, hc_smi, hc_sml, hc_fv, hc_ld, hc_kd, hc_sto, hc_pre, hc_two, hc_inc, hc_psh, hc_kp, hc_k1, hc_np, hc_bk_rf, hc_bk_gA, hc_set_ap, hc_set_set, Value.category, List.getElem?_cons_zero, List.getElem?_cons_succ, List.set_cons_zero, List.set_cons_succ, List.length_cons, List.length_nil, List.map_cons, List.map_nil, reduceIte, Nat.reduceAdd, Nat.reduceSub, Nat.reduceBEq, Nat.reduceEqDiff, Nat.reduceLeDiff, Nat.reduceLT, true_and, and_true, Bool.false_eq_true, reduceCtorEq, if_true, if_false, hc_xx, hc_ofNat, hc_10, not_true_eq_false, not_false_eq_true, ge_iff_le, t30, tp, oMp]
  refine sp_mclr tp hPp (by omega) fun o2 h2 c2 => ?_
  dsimp only
  rw [hc_bk_np rfl rfl]
  have L2 := LD.sp hz L1 h2
  generalize hc_set τ1 p' o2 = τ2 at *
  clear t30 tp
  have L2' := L2
  obtain ⟨⟨q2, t30⟩, -, -, ⟨ow, tw, hWw⟩, -⟩ := L2'
  have hq := hWw
  obtain ⟨cc3, ff3, rfl, -⟩ := hq
  simp only [hm63_14, hm63_15, hm63_18, hc_on_some, hc_get, hc_put, hc_ri, hc_rl, hc_is, hc_row, hc_wr, hc_mov, hc_smi, hc_sml, hc_fv, hc_ld, hc_kd, hc_sto, hc_pre, hc_two, hc_inc, hc_psh, hc_kp, hc_k1, hc_np, hc_bk_rf, hc_bk_gA, hc_set_ap, hc_set_set, Value.category, List.getElem?_cons_zero, List.getElem?_cons_succ, List.set_cons_zero, List.set_cons_succ, List.length_cons, List.length_nil, List.map_cons, List.map_nil, reduceIte, Nat.reduceAdd, Nat.reduceSub, Nat.reduceBEq, Nat.reduceEqDiff, Nat.reduceLeDiff, Nat.reduceLT, true_and, and_true, Bool.false_eq_true, reduceCtorEq, if_true, if_false, hc_xx, hc_ofNat, hc_10, not_true_eq_false, not_false_eq_true, ge_iff_le, t30, tw, oIn]
  refine sp_iclr tw hWw (by omega) fun o3 h3 c3 => ?_
  dsimp only
  rw [hc_bk_np rfl rfl]
  have L3 := LD.sw hz L2 h3
  generalize hc_set τ2 w' o3 = τ3 at *
  clear t30 tw
  have L3' := L3
  obtain ⟨⟨q3, t30⟩, -, -, -, ⟨ob, tb, hBb⟩, -⟩ := L3'
  have hq := hBb
  obtain ⟨cc4, ff4, rfl, -⟩ := hq
  simp only [hm63_21, hm63_22, hm63_25, hc_on_some, hc_get, hc_put, hc_ri, hc_rl, hc_is, hc_row, hc_wr, hc_mov, hc_smi, hc_sml, hc_fv, hc_ld, hc_kd, hc_sto, hc_pre, hc_two, hc_inc, hc_psh, hc_kp, hc_k1, hc_np, hc_bk_rf, hc_bk_gA, hc_set_ap, hc_set_set, Value.category, List.getElem?_cons_zero, List.getElem?_cons_succ, List.set_cons_zero, List.set_cons_succ, List.length_cons, List.length_nil, List.map_cons, List.map_nil, reduceIte, Nat.reduceAdd, Nat.reduceSub, Nat.reduceBEq, Nat.reduceEqDiff, Nat.reduceLeDiff, Nat.reduceLT, true_and, and_true, Bool.false_eq_true, reduceCtorEq, if_true, if_false, hc_xx, hc_ofNat, hc_10, not_true_eq_false, not_false_eq_true, ge_iff_le, t30, tb, oIn]
  refine sp_iclr tb hBb (by omega) fun o4 h4 c4 => ?_
  dsimp only
  rw [hc_bk_np rfl rfl]
  have L4 := LD.sb hz L3 h4
  generalize hc_set τ3 b' o4 = τ4 at *
  clear t30 tb
  have cr4 : hc_cr G σ G τ4 := ((c1.tr c2).tr c3).tr c4
  simp only [hm63_28, hm63_29, hc_on_some, hc_get, hc_put, hc_ri, hc_rl, hc_is, hc_row, hc_wr, hc_mov, hc_smi, hc_sml, hc_fv, hc_ld, hc_kd, hc_sto, hc_pre, hc_two, hc_inc, hc_psh, hc_kp, hc_k1, hc_np, hc_bk_rf, hc_bk_gA, hc_set_ap, hc_set_set, Value.category, List.getElem?_cons_zero, List.getElem?_cons_succ, List.set_cons_zero, List.set_cons_succ, List.length_cons, List.length_nil, List.map_cons, List.map_nil, reduceIte, Nat.reduceAdd, Nat.reduceSub, Nat.reduceBEq, Nat.reduceEqDiff, Nat.reduceLeDiff, Nat.reduceLT, true_and, and_true, Bool.false_eq_true, reduceCtorEq, if_true, if_false, hc_xx, hc_ofNat, hc_10, not_true_eq_false, not_false_eq_true, ge_iff_le]
  -- all ends, all points
  have Z := sp_lay30 (G := G) (σ := σ) (Q := Q) (X1 := 0) hz h31 f3 hS4 hev bS bE hle hS5 (fun G5 τ5 L5 cr5 => by
    have Y := sp_lay76 (G := G) (σ := σ) (Q := Q) (H0 := hl1 S E (2 * S.length)) hz h33 g3 g1 hpv bP hP5 (by
      unfold hl1
      rw [List.length_map, List.length_range]
      omega) (fun G6 τ6 L6 cr6 => ?_) P.length 0 G5 τ5 (by omega) (by
        rw [List.take_zero, List.append_nil]
        exact L5) cr5
    · rw [Nat.mul_zero, nI_0] at Y
      simp only [hm63_74, hm63_75, hc_on_some, hc_get, hc_put, hc_ri, hc_rl, hc_is, hc_row, hc_wr, hc_mov, hc_smi, hc_sml, hc_fv, hc_ld, hc_kd, hc_sto, hc_pre, hc_two, hc_inc, hc_psh, hc_kp, hc_k1, hc_np, hc_bk_rf, hc_bk_gA, hc_set_ap, hc_set_set, Value.category, List.getElem?_cons_zero, List.getElem?_cons_succ, List.set_cons_zero, List.set_cons_succ, List.length_cons, List.length_nil, List.map_cons, List.map_nil, reduceIte, Nat.reduceAdd, Nat.reduceSub, Nat.reduceBEq, Nat.reduceEqDiff, Nat.reduceLeDiff, Nat.reduceLT, true_and, and_true, Bool.false_eq_true, reduceCtorEq, if_true, if_false, hc_xx, hc_ofNat, hc_10, not_true_eq_false, not_false_eq_true, ge_iff_le]
      exact Y
    -- all crossings
    have hm0 : ∀ v, v ∈ kN (hl1 S E (2 * S.length) ++ P) ↔ v ∈ kN (hotL S E P 0) := by
      have e : ∀ q, q ∈ hl1 S E (2 * S.length) ++ P ↔ q ∈ hotL S E P 0 := by
        intro q
        unfold hotL
        simp only [List.mem_append, hl1_mem hle, List.range_zero, List.flatMap_nil, List.not_mem_nil, or_false]
      intro v
      constructor
      · intro hv
        obtain ⟨q, hq, e2⟩ := List.mem_map.mp hv
        exact List.mem_map.mpr ⟨q, (e q).mp hq, e2⟩
      · intro hv
        obtain ⟨q, hq, e2⟩ := List.mem_map.mp hv
        exact List.mem_map.mpr ⟨q, (e q).mpr hq, e2⟩
    have L6' := L6
    obtain ⟨⟨q6, t30⟩, ⟨o6, th, hH6⟩, -, -, -, -, fr6⟩ := L6'
    have t31 : τ6 31 = some (oIn (4 * S.length) c f) := by rw [fr6 _ (by omega) (by omega) (by omega) (by omega) (by omega) (by omega)]; exact h31
    simp only [hm63_120, hm63_121, hc_on_some, hc_get, hc_put, hc_ri, hc_rl, hc_is, hc_row, hc_wr, hc_mov, hc_smi, hc_sml, hc_fv, hc_ld, hc_kd, hc_sto, hc_pre, hc_two, hc_inc, hc_psh, hc_kp, hc_k1, hc_np, hc_bk_rf, hc_bk_gA, hc_set_ap, hc_set_set, Value.category, List.getElem?_cons_zero, List.getElem?_cons_succ, List.set_cons_zero, List.set_cons_succ, List.length_cons, List.length_nil, List.map_cons, List.map_nil, reduceIte, Nat.reduceAdd, Nat.reduceSub, Nat.reduceBEq, Nat.reduceEqDiff, Nat.reduceLeDiff, Nat.reduceLT, true_and, and_true, Bool.false_eq_true, reduceCtorEq, if_true, if_false, hc_xx, hc_ofNat, hc_10, not_true_eq_false, not_false_eq_true, ge_iff_le, t30]
    refine sp_crossings t30 t31 f3 hS4 hev bS bE hle hS5 (by omega) (by omega) (by omega) th hH6 (by
      rw [List.length_map, List.length_append]
      unfold hl1
      rw [List.length_map, List.length_range]
      omega) hm0 fun G7 o7 L ok hP7 hs7 hm7 ht7 hf7 cr7 => ?_
    dsimp only
    rw [hc_bk_np rfl rfl]
    have L7 := LD.sh hz L6 hP7
    have nh := nodes_ofM bH hs7 hm7
    cases ok with
    | false =>
      have M := Kf G7 _ (keep L7) (Or.inl ⟨L.map uk2, nh.1, nh.2.1, by rw [List.length_map]; exact hf7 rfl⟩) (LD.fr hz L7) ((cr6.tr cr7).c9)
      simp only [hm63_124, hm63_127, hm63_128, hm63_131, hm63_134, hm63_136, hc_on_some, hc_get, hc_put, hc_ri, hc_rl, hc_is, hc_row, hc_wr, hc_mov, hc_smi, hc_sml, hc_fv, hc_ld, hc_kd, hc_sto, hc_pre, hc_two, hc_inc, hc_psh, hc_kp, hc_k1, hc_np, hc_bk_rf, hc_bk_gA, hc_set_ap, hc_set_set, Value.category, List.getElem?_cons_zero, List.getElem?_cons_succ, List.set_cons_zero, List.set_cons_succ, List.length_cons, List.length_nil, List.map_cons, List.map_nil, reduceIte, Nat.reduceAdd, Nat.reduceSub, Nat.reduceBEq, Nat.reduceEqDiff, Nat.reduceLeDiff, Nat.reduceLT, true_and, and_true, Bool.false_eq_true, reduceCtorEq, if_true, if_false, hc_xx, hc_ofNat, hc_10, not_true_eq_false, not_false_eq_true, ge_iff_le]
      exact M
    | true =>
      have o10 : ¬ (1 : Int32) = 0 := by decide
      have t7 := ht7 rfl
      have hN : NodesOf (hotL S E P S.length) (L.map uk2) := ⟨nh.1, fun q => ⟨nh.2.1 q, nh.2.2.1 t7.2 q⟩⟩
      have hbN : inB (L.map uk2) := fun q hq => bH q (nh.2.1 q hq)
      have hN6 : (L.map uk2).length ≤ 6000 := by rw [List.length_map]; exact t7.1
      rw [← nh.2.2.2] at L7 hP7
      generalize L.map uk2 = N at *
      generalize hτ7 : hc_set τ6 h' o7 = τ7 at *
      have u7 : τ7 h' = some o7 := by rw [← hτ7]; exact hc_set_at _ _ _
      have L7' := L7
      obtain ⟨⟨q7, u30⟩, -, -, u4, u5, u6, fr7⟩ := L7'
      have u31 : τ7 31 = some (oIn (4 * S.length) c f) := by rw [fr7 _ (by omega) (by omega) (by omega) (by omega) (by omega) (by omega)]; exact h31
      simp only [hm63_124, hm63_127, hm63_128, hc_on_some, hc_get, hc_put, hc_ri, hc_rl, hc_is, hc_row, hc_wr, hc_mov, hc_smi, hc_sml, hc_fv, hc_ld, hc_kd, hc_sto, hc_pre, hc_two, hc_inc, hc_psh, hc_kp, hc_k1, hc_np, hc_bk_rf, hc_bk_gA, hc_set_ap, hc_set_set, Value.category, List.getElem?_cons_zero, List.getElem?_cons_succ, List.set_cons_zero, List.set_cons_succ, List.length_cons, List.length_nil, List.map_cons, List.map_nil, reduceIte, Nat.reduceAdd, Nat.reduceSub, Nat.reduceBEq, Nat.reduceEqDiff, Nat.reduceLeDiff, Nat.reduceLT, true_and, and_true, Bool.false_eq_true, reduceCtorEq, if_true, if_false, hc_xx, hc_ofNat, hc_10, not_true_eq_false, not_false_eq_true, ge_iff_le, o10, u30]
      refine sp_bend hz u31 f3 hS4 hev bS bE hle hS5 hR u7 hP7 hbN hN.1 hN6 ⟨⟨q7, u30⟩, u6, u4, u5, fun _ _ _ _ _ => rfl⟩ (fun G8 τ8 Ws AL hWl hW hWb hB8 cr8 => ?_) (fun G8 τ8 AL WL BL hB8 hst cr8 => ?_)
      · dsimp only
        rw [hc_bk_np rfl rfl]
        have L8 := LD.bd hz L7 hB8
        have hv : ∀ v ∈ Ws.flatten, v < 6000 := by
          intro v hv
          obtain ⟨W, hWm, hvW⟩ := List.mem_flatten.mp hv
          obtain ⟨i, hi, e⟩ := List.getElem_of_mem hWm
          have := hW i hi
          rw [e] at this
          have := Bn_lt (this.1.mem_iff.mp hvW)
          omega
        have hne : ∀ W ∈ Ws, 0 < W.length := by
          intro W hWm
          obtain ⟨i, hi, e⟩ := List.getElem_of_mem hWm
          rw [← e]
          exact way_ne hN hR (by omega) (hW i hi)
        have hst : (Ws.flatMap stl).length ≤ 20000 := by
          have h1 := flat_ne hne
          rw [← h1, hWl, Nat.add_comm S.length] at hWb
          exact Nat.le_of_add_le_add_right hWb
        have cr8' := (cr6.tr cr7).tr cr8
        have Y := sp_lay139 (G := G) (σ := σ) (Q := Q) hz hv hst (by omega) (by omega) (fun G9 τ9 x1 x2 L9 cr9 => ?_) Ws [] G8 τ8 none rfl L8 cr8'
        · simp only [List.length_nil, nI_0, Option.map_none] at Y
          simp only [hm63_131, hm63_134, hm63_136, hm63_137, hm63_138, hc_on_some, hc_get, hc_put, hc_ri, hc_rl, hc_is, hc_row, hc_wr, hc_mov, hc_smi, hc_sml, hc_fv, hc_ld, hc_kd, hc_sto, hc_pre, hc_two, hc_inc, hc_psh, hc_kp, hc_k1, hc_np, hc_bk_rf, hc_bk_gA, hc_set_ap, hc_set_set, Value.category, List.getElem?_cons_zero, List.getElem?_cons_succ, List.set_cons_zero, List.set_cons_succ, List.length_cons, List.length_nil, List.map_cons, List.map_nil, reduceIte, Nat.reduceAdd, Nat.reduceSub, Nat.reduceBEq, Nat.reduceEqDiff, Nat.reduceLeDiff, Nat.reduceLT, true_and, and_true, Bool.false_eq_true, reduceCtorEq, if_true, if_false, hc_xx, hc_ofNat, hc_10, not_true_eq_false, not_false_eq_true, ge_iff_le, o10]
          exact Y
        -- the pieces in order
        have hT := flat_R hv
        have L9' := L9
        obtain ⟨⟨q9, s30⟩, -, ⟨op9, sp, hP9⟩, -⟩ := L9'
        have hq := hP9
        obtain ⟨cc9, ff9, rfl, -⟩ := hq
        simp only [hm63_244, hm63_245, hm63_248, hc_on_some, hc_get, hc_put, hc_ri, hc_rl, hc_is, hc_row, hc_wr, hc_mov, hc_smi, hc_sml, hc_fv, hc_ld, hc_kd, hc_sto, hc_pre, hc_two, hc_inc, hc_psh, hc_kp, hc_k1, hc_np, hc_bk_rf, hc_bk_gA, hc_set_ap, hc_set_set, Value.category, List.getElem?_cons_zero, List.getElem?_cons_succ, List.set_cons_zero, List.set_cons_succ, List.length_cons, List.length_nil, List.map_cons, List.map_nil, reduceIte, Nat.reduceAdd, Nat.reduceSub, Nat.reduceBEq, Nat.reduceEqDiff, Nat.reduceLeDiff, Nat.reduceLT, true_and, and_true, Bool.false_eq_true, reduceCtorEq, if_true, if_false, hc_xx, hc_ofNat, hc_10, not_true_eq_false, not_false_eq_true, ge_iff_le, s30, sp, oMp]
        refine sp_msort sp hP9 (by omega) (by omega) fun oA LA hPA hsA hmA crA => ?_
        dsimp only
        rw [hc_bk_np rfl (by simp only [hc_kp, List.map_cons, List.map_nil, k1_map]; rfl)]
        have LdA := LD.sp hz L9 hPA
        obtain ⟨hPc, hkP⟩ := pieces_of hsA hT hmA
        have hFull : Full (hotL S E P S.length) S E N Ws (LA.map fun v => (dec v, (Ws.flatMap stl).count (dec v))) := ⟨hN, hWl, hW, hPc⟩
        rw [← hkP] at LdA hPA
        have hlP : (LA.map fun v => (dec v, (Ws.flatMap stl).count (dec v))).length = LA.length := List.length_map _
        generalize (LA.map fun v => (dec v, (Ws.flatMap stl).count (dec v))) = Ps at *
        have hlk : (kP Ps).length = Ps.length := List.length_map _
        generalize hτA : hc_set τ9 p' oA = τA at *
        have crA' := cr9.tr crA
        have uA : τA p' = some oA := by rw [← hτA]; exact hc_set_at _ _ _
        have LdA' := LdA
        obtain ⟨⟨qA, a30⟩, aH, -, ⟨owA, aw, hWA⟩, ⟨obA, ab, hBA⟩, a52, frA⟩ := LdA'
        have hq := hPA
        obtain ⟨ccA, ffA, rfl, y1, y2, y3, y4⟩ := hq
        have e9 : (9000 : Int32) = nI 9000 := rfl
        by_cases c9 : Ps.length ≤ 9000
        · have l9 : nI Ps.length ≤ nI 9000 := by
            rw [← Int32.not_lt]
            exact nI_nlt c9 (by omega)
          simp only [hm63_251, hm63_252, hm63_255, hm63_258, hm63_261, hm63_264, hm63_266, hm63_267, hm63_268, hc_on_some, hc_get, hc_put, hc_ri, hc_rl, hc_is, hc_row, hc_wr, hc_mov, hc_smi, hc_sml, hc_fv, hc_ld, hc_kd, hc_sto, hc_pre, hc_two, hc_inc, hc_psh, hc_kp, hc_k1, hc_np, hc_bk_rf, hc_bk_gA, hc_set_ap, hc_set_set, Value.category, List.getElem?_cons_zero, List.getElem?_cons_succ, List.set_cons_zero, List.set_cons_succ, List.length_cons, List.length_nil, List.map_cons, List.map_nil, reduceIte, Nat.reduceAdd, Nat.reduceSub, Nat.reduceBEq, Nat.reduceEqDiff, Nat.reduceLeDiff, Nat.reduceLT, true_and, and_true, Bool.false_eq_true, reduceCtorEq, if_true, if_false, hc_xx, hc_ofNat, hc_10, not_true_eq_false, not_false_eq_true, ge_iff_le, a30, uA, oMp, hlk, e9, l9]
          refine sp_become hz a30 hct uA hPA aw hWA ab hBA hPc hv c9 fun GB ctB ftB hcB hTB crB => ?_
          dsimp only
          rw [hc_bk_np rfl (by simp only [hc_kp, List.map_cons, List.map_nil, k1_map]; rfl)]
          have n1 : ¬ p' = 30 := by omega
          have M := K GB _ N Ws Ps ⟨h', p', w', b', h, p, w, b, ctB, ftB, qA, by unfold MHp; omega, hc_set_at _ _ _, hcB, hTB, ⟨l31, ⟨_, by rw [hc_set_ne _ _ (by decide), frA _ (by omega) (by omega) (by omega) (by omega) (by omega) (by omega), h31, x31.1], ⟨c, f, rfl, by rw [x31.1]; exact f1, f2, f3, f4⟩⟩, x31⟩, ⟨l33, ⟨_, by rw [hc_set_ne _ _ (by decide), frA _ (by omega) (by omega) (by omega) (by omega) (by omega) (by omega), h33, x33.1], ⟨cp, fp, rfl, by rw [x33.1]; exact g1, g2, g3, g4⟩⟩, x33⟩, aH.ne (by omega), ⟨_, by rw [hc_set_ne _ _ (by omega)]; exact uA, hPA⟩, ⟨_, by rw [hc_set_ne _ _ (by omega)]; exact aw, hWA⟩, ⟨_, ⟨_, by rw [hc_set_ne _ _ (by omega)]; exact ab, hBA⟩, bgl_bg Ws⟩, ⟨_, by
            obtain ⟨o, x1, x2⟩ := mh
            exact ⟨o, by rw [hc_set_ne _ _ (by omega), frA _ (by omega) (by omega) (by omega) (by omega) (by omega) (by omega)]; exact x1, x2⟩⟩, ⟨_, by
            obtain ⟨o, x1, x2⟩ := mp
            exact ⟨o, by rw [hc_set_ne _ _ (by omega), frA _ (by omega) (by omega) (by omega) (by omega) (by omega) (by omega)]; exact x1, x2⟩⟩, ⟨_, by
            obtain ⟨o, x1, x2⟩ := mw
            exact ⟨o, by rw [hc_set_ne _ _ (by omega), frA _ (by omega) (by omega) (by omega) (by omega) (by omega) (by omega)]; exact x1, x2⟩⟩, by
            obtain ⟨l, ⟨o, x1, x2⟩, -⟩ := mb
            exact ⟨l, o, by rw [hc_set_ne _ _ (by omega), frA _ (by omega) (by omega) (by omega) (by omega) (by omega) (by omega)]; exact x1, x2⟩, ⟨_, a52.ne (by decide)⟩⟩ hFull ⟨hN6, hst, c9⟩ (fun j hj => by rw [hc_set_ne _ _ (by omega)]; exact LD.fr hz LdA j hj) (crA'.tr9 crB)
          simp only [hm63_271, hm63_272, hm63_275, hm63_278, hc_on_some, hc_get, hc_put, hc_ri, hc_rl, hc_is, hc_row, hc_wr, hc_mov, hc_smi, hc_sml, hc_fv, hc_ld, hc_kd, hc_sto, hc_pre, hc_two, hc_inc, hc_psh, hc_kp, hc_k1, hc_np, hc_bk_rf, hc_bk_gA, hc_set_ap, hc_set_set, Value.category, List.getElem?_cons_zero, List.getElem?_cons_succ, List.set_cons_zero, List.set_cons_succ, List.length_cons, List.length_nil, List.map_cons, List.map_nil, reduceIte, Nat.reduceAdd, Nat.reduceSub, Nat.reduceBEq, Nat.reduceEqDiff, Nat.reduceLeDiff, Nat.reduceLT, true_and, and_true, Bool.false_eq_true, reduceCtorEq, if_true, if_false, hc_xx, hc_ofNat, hc_10, not_true_eq_false, not_false_eq_true, ge_iff_le, n1, uA, oMp, hlk]
          exact M
        · have l9 : ¬ nI Ps.length ≤ nI 9000 := by
            rw [Int32.not_le]
            exact nI_lt (by omega) (by omega)
          have M := Kf G9 _ (keep LdA) (Or.inr (Or.inr ⟨N, Ws, Ps, hFull, by omega⟩)) (LD.fr hz LdA) crA'.c9
          simp only [hm63_251, hm63_252, hm63_255, hm63_258, hm63_261, hm63_264, hm63_266, hm63_267, hm63_268, hc_on_some, hc_get, hc_put, hc_ri, hc_rl, hc_is, hc_row, hc_wr, hc_mov, hc_smi, hc_sml, hc_fv, hc_ld, hc_kd, hc_sto, hc_pre, hc_two, hc_inc, hc_psh, hc_kp, hc_k1, hc_np, hc_bk_rf, hc_bk_gA, hc_set_ap, hc_set_set, Value.category, List.getElem?_cons_zero, List.getElem?_cons_succ, List.set_cons_zero, List.set_cons_succ, List.length_cons, List.length_nil, List.map_cons, List.map_nil, reduceIte, Nat.reduceAdd, Nat.reduceSub, Nat.reduceBEq, Nat.reduceEqDiff, Nat.reduceLeDiff, Nat.reduceLT, true_and, and_true, Bool.false_eq_true, reduceCtorEq, if_true, if_false, hc_xx, hc_ofNat, hc_10, not_true_eq_false, not_false_eq_true, ge_iff_le, a30, uA, oMp, hlk, e9, l9]
          exact M
      · dsimp only
        rw [hc_bk_np rfl rfl]
        have L8 := LD.bd hz L7 hB8
        have M := Kf G8 _ (keep L8) (Or.inr (Or.inl ⟨N, hN, hst⟩)) (LD.fr hz L8) (((cr6.tr cr7).tr cr8).c9)
        simp only [hm63_131, hm63_134, hm63_136, hm63_137, hm63_138, hc_on_some, hc_get, hc_put, hc_ri, hc_rl, hc_is, hc_row, hc_wr, hc_mov, hc_smi, hc_sml, hc_fv, hc_ld, hc_kd, hc_sto, hc_pre, hc_two, hc_inc, hc_psh, hc_kp, hc_k1, hc_np, hc_bk_rf, hc_bk_gA, hc_set_ap, hc_set_set, Value.category, List.getElem?_cons_zero, List.getElem?_cons_succ, List.set_cons_zero, List.set_cons_succ, List.length_cons, List.length_nil, List.map_cons, List.map_nil, reduceIte, Nat.reduceAdd, Nat.reduceSub, Nat.reduceBEq, Nat.reduceEqDiff, Nat.reduceLeDiff, Nat.reduceLT, true_and, and_true, Bool.false_eq_true, reduceCtorEq, if_true, if_false, hc_xx, hc_ofNat, hc_10, not_true_eq_false, not_false_eq_true, ge_iff_le]
        exact M) (2 * S.length) 0 G τ4 (by omega) L4 cr4
  rw [Nat.mul_zero, nI_0] at Z
  exact Z
end S67
