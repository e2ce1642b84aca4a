/-! calls; the small machine is sound -/
theorem hc_map_rev {B b : Nat} {G : hc_G} {st : List hc_V} (n : Nat) : st.map (hc_con B b G) = ((st.take n).reverse.map (hc_con B b G)).reverse ++ (st.drop n).map (hc_con B b G) := by
  rw [← List.map_reverse, List.reverse_reverse, ← List.map_append, List.take_append_drop]
theorem hc_len_args {m2 : Nat} (hP : hc_Pm m2) : ∀ sig, parseMethodDescriptor (hc_y m2).desc = some sig → (if hc_md m2 = 2 then hc_na m2 else hc_na m2 - 1) = sig.parameters.length := by
  intro sig h
  have h2 := hP.2.2.2.1
  rw [h] at h2
  exact (Option.some.inj h2).symm
set_option maxHeartbeats 4000000 in
theorem hc_sound : ∀ n : Nat, hc_Sound n := by
  intro n
  induction n with
  | zero =>
    intro mi pc ls st G G' σ σ' t t' r h
    cases h
  | succ n ih =>
    intro mi pc ls st G G' σ σ' t t' r h hlen D cI cJ B b p l e R s m args below meth c H locs Q sl n0 s0 C hR hL hlo h0 h1 hrc hrs fin
    simp only [hc_ex] at h
    split at h
    · rename_i i w hd
      split at h
      · rename_i pc' ls' st' hh
        refine hc_loc_s C hd hh hlen hL fun sl' hL' => ?_
        exact ih h ((hc_loc_len hh).trans hlen) C hR hL' hlo h0 h1 hrc hrs fin
      · split at h
        · rename_i G1 σ1 t1 ls1 st1 hh
          have mo := hc_hep_mono hh
          have mo2 := hc_ex_mono n h
          refine hc_hep_s C hd hh hlen hR hL hlo h0 h1 (Nat.le_trans (Nat.sub_le_sub_right mo2.1 _) hrc) (Nat.le_trans (Nat.sub_le_sub_right mo2.2.1 _) hrs) fun H' locs' sl' hR' hL' hlo' => ?_
          exact ih h ((hc_hep_len hh).trans hlen) C hR' hL' hlo' (Nat.le_trans h0 mo.1) (Nat.le_trans h1 mo.2.1) hrc hrs fin
        · split at h
          · rename_i r1 hh
            cases h
            exact fin pc w i st sl H locs hd hh hR hlo
          · split at h
            · rename_i m2 l2 st2 hh
              split at h
              · rename_i G1 σ1 t1 r1 hx1
                have mo := hc_ex_mono n hx1
                -- what is left behind the call
                have K : ∀ (H1 : Heap) (locs1 : List Loc), hc_Rel D cI cJ B b s G1 σ1 t1 H1 → (∀ q ∈ locs1, B ≤ q.base) → w = 3 → hc_le G1 G' ∧ W p l e R s m args below meth c H1 locs1 (G1.2.1 - n0) (G1.2.2.1 - s0) Q (F0 m (pc + 3) sl ((r1.map (hc_con B b G1)).toList ++ st2.map (hc_con B b G))) := by
                  intro H1 locs1 hR1 hlo1 hw3
                  subst hw3
                  have hps : ∀ st3 : List Value, (st2.map (hc_con B b G1) = st3) → (hc_psh r1 st2).map (hc_con B b G1) = (r1.map (hc_con B b G1)).toList ++ st3 := by
                    intro st3 e3
                    rw [← e3]
                    cases r1 <;> rfl
                  split at h
                  · rename_i hep
                    have mo2 := hc_ex_mono n h
                    refine ⟨mo2, ?_⟩
                    have hGG := mo.2.2.2 hep
                    have := ih h hlen C hR1 (hc_LR_G hGG hL) hlo1 (Nat.le_trans h0 mo.1) (Nat.le_trans h1 mo.2.1) hrc hrs fin
                    rw [hps _ (List.map_congr_left fun v _ => hc_con_G hGG v)] at this
                    exact this
                  · split at h
                    · rename_i hnp
                      have mo2 := hc_ex_mono n h
                      refine ⟨mo2, ?_⟩
                      have := ih h ((hc_kp_len ls).trans hlen) C hR1 (hc_LR_kp hL) hlo1 (Nat.le_trans h0 mo.1) (Nat.le_trans h1 mo.2.1) hrc hrs fin
                      rw [hps _ (hc_np_map hnp)] at this
                      exact this
                    · cases h
                clear fin
                unfold hc_cal at hh
                split at hh
                · rename_i kd cp hik
                  split at hh
                  · rename_i m2' htg
                    split at hh
                    · rename_i hcn
                      cases hh
                      obtain ⟨hw, hmd, hdp, hln, hna, hst2, hel, hrv⟩ := hcn
                      subst hw
                      obtain ⟨hP, hlk⟩ := hc_tgw _ (hc_find_mem htg)
                      dsimp only at hP hlk
                      have hM := hc_met_sound ih l D cI cJ B b hP hx1 hel
                      have hlens := hc_len_args hP
                      obtain ⟨p1, p2, p3, p4, p5, p6, p7, p8, p9, p10⟩ := hP
                      have hCC := C
                      obtain ⟨hx, hb, hml, hown, hts, hK, hN, hfr, hlo2, hini⟩ := hCC
                      have hsz : sl.size = c.maxLocals := by rw [hml, ← hlen]; exact hL.1
                      have hwt := hc_wt_le B b G (st.drop (hc_na m2))
                      have hgood : GoodIn hc_ALL (Cond.code (hc_y m2) (hc_b m2) (hc_mx m2) (hc_rty m2) :: hc_ALL) := fun w hw => hc_all_good w (by
                        rcases List.mem_cons.mp hw with rfl | hw
                        · exact p1
                        · exact hw)
                      have hBk : Back l R p e below s args (hc_y m2) 3 16 (PreOf R (G1.2.1 - G.2.1) (G1.2.2.1 - G.2.2.1) (hc_Pc D cI cJ B b G σ t (st.take (hc_na m2)).reverse)) (PostOf (hc_Qc D cI cJ B b G1 σ1 t1 r1) (G1.2.1 - G.2.1) (G1.2.2.1 - G.2.2.1) (fun q => B ≤ q)) :=
                        back_of (bytes := hc_b m2) (maxL := hc_mx m2) (ret := hc_rty m2) hM hc_Pc_blind rfl rfl (Nat.le_trans (Nat.succ_le_of_lt hdp) hfr) (by show 16 + (hc_mx m2 + 11) + hc_ln m2 ≤ _; omega) (pay_in hts hgood) List.mem_cons_self (fun a' U hW => word_at hW (Or.inl (by first | rfl | simp [Cond.onTables, Cond.keeps, Cond.steady])) (hts _ p2))
                      have hpre : ∀ T : State, T.heap = H → ∀ (vm₁ : Vm), s.WarmedH vm₁ → PreOf R (G1.2.1 - G.2.1) (G1.2.2.1 - G.2.2.1) (hc_Pc D cI cJ B b G σ t (st.take (hc_na m2)).reverse) ⟨T.setVm vm₁, locs, G.2.1 - n0, G.2.2.1 - s0⟩ ((st.take (hc_na m2)).reverse.map (hc_con B b G)).toArray := by
                        intro T hT vm₁ hW₁
                        have q1 : hc_le G1 G' := by
                          split at h
                          · exact hc_ex_mono n h
                          · split at h
                            · exact hc_ex_mono n h
                            · cases h
                        have hal : s.vm.Alike (T.setVm vm₁).vm := hW₁.alike
                        refine ⟨?_, ?_, rfl, ?_, va_K.moved hal hK, fun w hw => ?_⟩
                        · show G.2.1 - n0 + (G1.2.1 - G.2.1) ≤ R.cells
                          have := mo.1
                          have := q1.1
                          omega
                        · show G.2.2.1 - s0 + (G1.2.2.1 - G.2.2.1) ≤ R.slots
                          have := mo.2.1
                          have := q1.2.1
                          omega
                        · show hc_Rel D cI cJ B b (T.setVm vm₁) G σ t T.heap
                          rw [hT]
                          exact hR.moved hal
                        · obtain ⟨x1, x2, x3, x4, rfl⟩ := hc_nw_form hw
                          exact va_Nw.warmM (s := s) (U := T.setVm vm₁) hW₁ (hN _ hw)
                      have hroom : 2 * (F0 m pc sl (st.map (hc_con B b G))).monitorRoom + (((st.drop (hc_na m2)).map (hc_con B b G)).map fun v => v.category).sum ≤ 16 := by
                        show 2 * 0 + _ ≤ 16
                        omega
                      have hstk : (F0 m pc sl (st.map (hc_con B b G))).stack = ((st.take (hc_na m2)).reverse.map (hc_con B b G)).reverse ++ (st.drop (hc_na m2)).map (hc_con B b G) := hc_map_rev (hc_na m2)
                      have hnl : (st.take (hc_na m2)).reverse.length = hc_na m2 := by
                        rw [List.length_reverse, List.length_take]
                        omega
                      -- the end of each kind of call
                      have endK : ∀ (T : State), T.heap = H → (∃ (v : Option Value) (vm₁ : Vm) (Bp : Pt), s.WarmedH vm₁ ∧ Stand p l e R s m args below meth c Bp.U Bp.locs Bp.cells Bp.slots ∧ PostOf (hc_Qc D cI cJ B b G1 σ1 t1 r1) (G1.2.1 - G.2.1) (G1.2.2.1 - G.2.2.1) (fun q => B ≤ q) ⟨T.setVm vm₁, locs, G.2.1 - n0, G.2.2.1 - s0⟩ ((st.take (hc_na m2)).reverse.map (hc_con B b G)).toArray v Bp ∧
                          ∀ target, Steps p.tables e below (Bp.U.setTop { F0 m pc sl (st.map (hc_con B b G)) with pc := pc + 3, stack := v.toList ++ (st.drop (hc_na m2)).map (hc_con B b G) }) target → Steps p.tables e below (T.setTop (F0 m pc sl (st.map (hc_con B b G)))) target) → ∃ u, Steps p.tables e below (T.setTop (F0 m pc sl (st.map (hc_con B b G)))) u ∧ Q u := by
                        intro T hT hcall
                        obtain ⟨v, vm₁, ⟨U', l2', c2', s2'⟩, hW₁, X', ⟨g', mk, u, L, e1, e2, hq, z1, hL2, z2, z3⟩, stp⟩ := hcall
                        dsimp only [Pt.U, Pt.locs, Pt.cells, Pt.slots] at X' e1 e2 z1 z2 z3 stp
                        subst z1; subst z2; subst z3
                        obtain ⟨hov, hR1⟩ := hq
                        cases hov
                        have hal : s.vm.Alike u.vm := by rw [← e2]; exact X'.warmed.alike
                        have hR2 := hR1.moved hal.symm
                        rw [← e1] at hR2
                        obtain ⟨-, KW⟩ := K U'.heap (locs ++ L) hR2 (hc_lo_add hlo hL2) rfl
                        obtain ⟨u2, a1, b1⟩ := KW U' rfl (stand_widen X' (by have := mo.1; omega) (by have := mo.2.1; omega))
                        exact ⟨u2, stp u2 a1, b1⟩
                      intro T hT X
                      refine endK T hT ?_
                      cases i <;> simp only [Option.some.injEq, Prod.mk.injEq, reduceCtorEq] at hik
                      · -- invokespecial
                        obtain ⟨hk1, rfl⟩ := hik
                        subst hk1
                        obtain ⟨n1, hret⟩ := p10 hmd
                        obtain ⟨pi, pn, p7'⟩ := p8 (by omega)
                        have hrv2 : hc_rcv 1 σ (hc_own m2) (st.take (hc_na m2)).reverse.head? = true := by
                          rcases hrv with q | q
                          · cases q
                          · exact q
                        cases hvs : (st.take (hc_na m2)).reverse with
                        | nil => rw [hvs] at hrv2; cases hrv2
                        | cons v0 As =>
                          rw [hvs] at hrv2 hnl
                          obtain ⟨k, rfl⟩ : ∃ k, v0 = .inl (.ref k) := by
                            rcases v0 with v0 | v0
                            · cases v0 <;> first | exact ⟨_, rfl⟩ | (cases hrv2)
                            · cases hrv2
                          have hAs : (As.map (hc_con B b G)).length = hc_na m2 - 1 := by
                            rw [List.length_map]
                            rw [List.length_cons] at hnl
                            omega
                          have hlens' : ∀ sig, parseMethodDescriptor (hc_y m2).desc = some sig → (As.map (hc_con B b G)).length = sig.parameters.length := by
                            intro sig hs
                            rw [hAs, ← hlens sig hs, if_neg (by omega)]
                          have hcd : (Cond.code (hc_y m2) (hc_b m2) (hc_mx m2) none).before args s = true := by
                            have := hts _ p1
                            rw [hret] at this
                            exact this
                          rw [hvs] at hBk hpre
                          rcases hlk with hlk | ⟨hh', hlk⟩
                          · exact callI X hx (bytes := hc_b m2) (maxL := hc_mx m2) hown n1 (hts _ hlk) (hts _ pi) hcd p3 hBk (g := F0 m pc sl (st.map (hc_con B b G))) rfl hsz (a := B + k) (argsL := As.map (hc_con B b G)) (rest := (st.drop (hc_na m2)).map (hc_con B b G)) hlens' (by rw [hstk, hvs]; simp [hc_con]) hroom (by rw [hb]; exact hd) (hpre T hT)
                          · exact va_callIN X hx (bytes := hc_b m2) (maxL := hc_mx m2) hown n1 (va_Nw.use rfl (hN _ hlk)) (hts _ pi) hcd p3 hBk (g := F0 m pc sl (st.map (hc_con B b G))) rfl hsz (a := B + k) (argsL := As.map (hc_con B b G)) (rest := (st.drop (hc_na m2)).map (hc_con B b G)) hlens' (by rw [hstk, hvs]; simp [hc_con]) hroom (by rw [hb]; exact hd) (hpre T hT)
                      · -- invokestatic
                        obtain ⟨hk1, rfl⟩ := hik
                        subst hk1
                        have hlens' : ∀ sig, parseMethodDescriptor (hc_y m2).desc = some sig → ((st.take (hc_na m2)).reverse.map (hc_con B b G)).length = sig.parameters.length := by
                          intro sig hs
                          rw [List.length_map, hnl, ← hlens sig hs, if_pos hmd]
                        rcases hlk with hlk | ⟨hh', hlk⟩
                        · exact callS X hx (bytes := hc_b m2) (maxL := hc_mx m2) (ret := hc_rty m2) hown (hts _ hlk) (hts _ (p7 hmd)) (hts _ p2) (hts _ p1) p3 hBk (g := F0 m pc sl (st.map (hc_con B b G))) rfl hsz (argsL := (st.take (hc_na m2)).reverse.map (hc_con B b G)) (rest := (st.drop (hc_na m2)).map (hc_con B b G)) hlens' hstk hroom (by rw [hb]; exact hd) (hpre T hT)
                        · exact va_callSN X hx (bytes := hc_b m2) (maxL := hc_mx m2) (ret := hc_rty m2) hown (va_Nw.use rfl (hN _ hlk)) (hts _ (p7 hmd)) (hts _ p2) (hts _ p1) p3 hBk (g := F0 m pc sl (st.map (hc_con B b G))) rfl hsz (argsL := (st.take (hc_na m2)).reverse.map (hc_con B b G)) (rest := (st.drop (hc_na m2)).map (hc_con B b G)) hlens' hstk hroom (by rw [hb]; exact hd) (hpre T hT)
                      · -- invokevirtual
                        obtain ⟨hk1, rfl⟩ := hik
                        subst hk1
                        obtain ⟨pi, pn, p7'⟩ := p8 (by omega)
                        have hrv2 : hc_rcv 0 σ (hc_own m2) (st.take (hc_na m2)).reverse.head? = true := by
                          rcases hrv with q | q
                          · cases q
                          · exact q
                        cases hvs : (st.take (hc_na m2)).reverse with
                        | nil => rw [hvs] at hrv2; cases hrv2
                        | cons v0 As =>
                          rw [hvs] at hrv2 hnl
                          obtain ⟨k, rfl⟩ : ∃ k, v0 = .inl (.ref k) := by
                            rcases v0 with v0 | v0
                            · cases v0 <;> first | exact ⟨_, rfl⟩ | (cases hrv2)
                            · cases hrv2
                          have hAs : (As.map (hc_con B b G)).length = hc_na m2 - 1 := by
                            rw [List.length_map]
                            rw [List.length_cons] at hnl
                            omega
                          have hlens' : ∀ sig, parseMethodDescriptor (hc_y m2).desc = some sig → (As.map (hc_con B b G)).length = sig.parameters.length := by
                            intro sig hs
                            rw [hAs, ← hlens sig hs, if_neg (by omega)]
                          obtain ⟨fs, hk⟩ : ∃ fs, σ k = some (hc_own m2, fs) := by
                            simp only [List.head?_cons, hc_rcv] at hrv2
                            cases hsk : σ k with
                            | none => rw [hsk] at hrv2; simp at hrv2
                            | some o =>
                              obtain ⟨cc, fs⟩ := o
                              rw [hsk] at hrv2
                              simp at hrv2
                              exact ⟨fs, by rw [hrv2]⟩
                          obtain ⟨-, -, -, cell, o1, o2, o3, -⟩ := hR.2.1 k _ fs hk (by omega)
                          have hfc := (hK.1 (hc_own m2) _ (hc_cls_ok p7').1).2.1
                          rw [hvs] at hBk hpre
                          rcases hlk with hlk | ⟨hh', hlk⟩
                          · exact callV X hx (C := hc_cn (hc_own m2)) (bytes := hc_b m2) (maxL := hc_mx m2) (ret := hc_rty m2) hown (hts _ hlk) (hts _ pi) (hts _ (p9 hmd)) (hts _ p1) p3 hBk (b := B + k) (by rw [hT]; exact o1) (by rw [o3]; rfl) (by rw [o2]; exact hfc) (g := F0 m pc sl (st.map (hc_con B b G))) rfl hsz (argsL := As.map (hc_con B b G)) (rest := (st.drop (hc_na m2)).map (hc_con B b G)) hlens' (by rw [hstk, hvs]; simp [hc_con]) hroom (by rw [hb]; exact hd) (hpre T hT)
                          · exact va_callVN X hx (C := hc_cn (hc_own m2)) (bytes := hc_b m2) (maxL := hc_mx m2) (ret := hc_rty m2) hown (va_Nw.use rfl (hN _ hlk)) (hts _ pi) (hts _ (p9 hmd)) (hts _ p1) p3 hBk (b := B + k) (by rw [hT]; exact o1) (by rw [o3]; rfl) (by rw [o2]; exact hfc) (g := F0 m pc sl (st.map (hc_con B b G))) rfl hsz (argsL := As.map (hc_con B b G)) (rest := (st.drop (hc_na m2)).map (hc_con B b G)) hlens' (by rw [hstk, hvs]; simp [hc_con]) hroom (by rw [hb]; exact hd) (hpre T hT)
                    · cases hh
                  · cases hh
                · cases hh
              · cases h
            · cases h
    · cases h
