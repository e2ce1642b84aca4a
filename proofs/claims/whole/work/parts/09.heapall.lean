section HCJ
variable {p : Program} {l : Launch} {e : Env} {R : Room} {s : State} {m : MethodId} {args : Array Value} {below : List Frame} {meth : Method} {c : Code} {H : Heap} {locs : List Loc} {Q : State → Prop}
variable {D : va_G} {cI cJ : ClassId} {NW : List Cond} {B b : Nat} {G : hc_G} {σ : hc_H} {t : hc_T} {mi pc : Nat} {sl : Array Slot}
theorem hc_fld7 {o cp cc j : Nat} (h : hc_fld o cp = some (cc, j)) : cc < 7 ∧ j < hc_fn cc := by
  obtain ⟨-, q1, q2⟩ := hc_flw _ (hc_find_mem h)
  exact ⟨q2, q1⟩
set_option maxHeartbeats 4000000 in
theorem hc_hep_s {w : Nat} {ls ls' : hc_L} {st st' : List hc_V} {i : Instr} {G' : hc_G} {σ' : hc_H} {t' : hc_T} (C : hc_C D cI cJ NW p R s m args meth c mi) (hd : decode (hc_b mi) pc = .ok (i, w)) (h : hc_hep mi G σ t ls st i w = some (G', σ', t', ls', st')) (hlen : ls.length = hc_mx mi) (hR : hc_Rel D cI cJ B b s G σ t H) (hL : hc_LR B b G ls sl) (hlo : ∀ q ∈ locs, B ≤ q.base) {n0 s0 : Nat} (h0 : n0 ≤ G.2.1) (h1 : s0 ≤ G.2.2.1) (hrc : G'.2.1 - n0 ≤ R.cells) (hrs : G'.2.2.1 - s0 ≤ R.slots)
    (k : ∀ (H' : Heap) (locs' : List Loc) (sl' : Array Slot), hc_Rel D cI cJ B b s G' σ' t' H' → hc_LR B b G' ls' sl' → (∀ q ∈ locs', B ≤ q.base) → W p l e R s m args below meth c H' locs' (G'.2.1 - n0) (G'.2.2.1 - s0) Q (F0 m (pc + w) sl' (st'.map (hc_con B b G')))) : W p l e R s m args below meth c H locs (G.2.1 - n0) (G.2.2.1 - s0) Q (F0 m pc sl (st.map (hc_con B b G))) := by
  have hsz : sl.size = hc_mx mi := hL.1.trans hlen
  have hHs : H.size = B + G.2.1 := hR.1.1
  unfold hc_hep at h
  split at h
  · rename_i cp kk st
    split at h
    · rename_i cc j c' fs hf hk
      split at h
      · rename_i hcc
        subst hcc
        split at h
        · rename_i f hj
          cases h
          exact hc_w_get C hR hf hk hj hd (k H locs sl hR hL hlo)
        · cases h
      · cases h
    · cases h
  · rename_i cp v kk st
    split at h
    · rename_i cc j c' fs hf hk
      split at h
      · rename_i hcc
        obtain ⟨hcc, hft, hfn⟩ := hcc
        subst hcc
        split at h
        · rename_i v0 hj
          cases h
          have hc7 := (hc_fld7 hf).1
          obtain ⟨-, -, -, hob⟩ := hR.2.1 kk _ fs hk (by omega)
          obtain ⟨g1, g2⟩ := hc_fit_ok B b G hft
          exact hc_w_put C hf hob hfn g1 g2 hd fun H' x e1 e2 e3 => k H' _ sl (hR.put hk (by omega) hj e1 e2 e3) hL (hc_lo_add hlo fun q hq => by rw [List.mem_singleton.mp hq]; show B ≤ B + kk; omega)
        · cases h
      · cases h
    · cases h
  · rename_i cp kk st
    split at h
    · rename_i cc j c' fs r hf hk
      split at h
      · rename_i hcc
        obtain ⟨hcc, har, hfn, hnp, hjl⟩ := hcc
        subst hcc
        cases h
        have hc7 := (hc_fld7 hf).1
        obtain ⟨-, -, -, hob⟩ := hR.2.1 kk _ fs hk (by omega)
        obtain ⟨g1, g2⟩ := hc_arr_ok (B + G.2.2.2.1) har
        refine hc_w_put C hf hob (fun z => by rw [hfn] at z; cases z) g1 g2 hd fun H' x e1 e2 e3 => ?_
        have h4 := k H' (locs ++ [⟨B + kk, x⟩]) sl (hR.move rfl hk (by omega) hjl e1 e2 e3) (hc_LR_kp hL) (hc_lo_add hlo fun q hq => by rw [List.mem_singleton.mp hq]; show B ≤ B + kk; omega)
        rw [hc_np_map (G := G) hnp] at h4
        exact h4
      · cases h
    · cases h
  · rename_i cp k' j' kk st
    split at h
    · rename_i cc j c' fs hf hk
      split at h
      · rename_i hcc
        obtain ⟨hcc, hfn, hk', hj'⟩ := hcc
        subst hcc; subst hk'; subst hj'
        split at h
        · rename_i r hj
          split at h
          · rename_i har
            cases h
            have hc7 := (hc_fld7 hf).1
            obtain ⟨-, -, -, hob⟩ := hR.2.1 k' _ fs hk (by omega)
            obtain ⟨g1, g2⟩ := hc_arr_ok (B + G.2.2.2.2 k' j') har
            refine hc_w_put C hf hob (fun z => by rw [hfn] at z; cases z) g1 g2 hd fun H' x e1 e2 e3 => ?_
            refine k H' _ sl (hR.same hk (by omega) e1 e2 (e3.to fun i _ => ?_)) hL (hc_lo_add hlo fun q hq => by rw [List.mem_singleton.mp hq]; show B ≤ B + k'; omega)
            simp only [updV]
            split
            · rename_i hi
              rw [hi]
              simp only [hc_vof, hj, hc_fv, hc_con]
            · rfl
          · cases h
        · cases h
      · cases h
    · cases h
  · rename_i ii a st
    split at h
    · rename_i n f hv
      split at h
      · rename_i hin
        cases h
        exact hc_w_iald C hR hv hin hd (k H locs sl hR hL hlo)
      · cases h
    · cases h
  · rename_i ii a st
    split at h
    · rename_i n f hv
      split at h
      · rename_i hin
        cases h
        exact hc_w_lald C hR hv hin hd (k H locs sl hR hL hlo)
      · cases h
    · cases h
  · rename_i x ii a st
    split at h
    · rename_i n f hv
      split at h
      · rename_i hin
        split at h
        · rename_i s2 t2 hw
          cases h
          obtain ⟨aa, ha, hc⟩ := hc_row_at hR hv
          rw [List.map_cons, List.map_cons, List.map_cons, ha]
          refine hc_w_iast C hc hin hd fun H' y e1 e2 e3 => ?_
          have hlo' := hc_lo_add (L := [⟨B + aa, y⟩]) hlo fun q hq => by rw [List.mem_singleton.mp hq]; show B ≤ B + aa; omega
          rcases hc_wr_ok hv hw with ⟨rfl, ht, rfl, rfl⟩ | ⟨k', j', cc, fs, rfl, hk, hcc, hj, rfl, rfl⟩
          · have haa : aa = G.2.2.2.1 := Nat.add_left_cancel (Value.ref.inj (show Value.ref (B + aa) = .ref (B + G.2.2.2.1) from ha.symm))
            rw [haa] at e2 e3
            exact k H' _ sl (hR.tst ht e1 e2 e3) hL hlo'
          · have haa : aa = G.2.2.2.2 k' j' := Nat.add_left_cancel (Value.ref.inj (show Value.ref (B + aa) = .ref (B + G.2.2.2.2 k' j') from ha.symm))
            rw [haa] at e2 e3
            exact k H' _ sl (hR.ast hk hcc hj e1 e2 e3) hL hlo'
        · cases h
      · cases h
    · cases h
  · rename_i x ii a st
    split at h
    · rename_i n f hv
      split at h
      · rename_i hin
        split at h
        · rename_i s2 t2 hw
          cases h
          obtain ⟨aa, ha, hc⟩ := hc_row_at hR hv
          rw [List.map_cons, List.map_cons, List.map_cons, ha]
          refine hc_w_last C hc hin hd fun H' y e1 e2 e3 => ?_
          have hlo' := hc_lo_add (L := [⟨B + aa, y⟩]) hlo fun q hq => by rw [List.mem_singleton.mp hq]; show B ≤ B + aa; omega
          rcases hc_wr_ok hv hw with ⟨rfl, ht, rfl, rfl⟩ | ⟨k', j', cc, fs, rfl, hk, hcc, hj, rfl, rfl⟩
          · have haa : aa = G.2.2.2.1 := Nat.add_left_cancel (Value.ref.inj (show Value.ref (B + aa) = .ref (B + G.2.2.2.1) from ha.symm))
            rw [haa] at e2 e3
            exact k H' _ sl (hR.tst ht e1 e2 e3) hL hlo'
          · have haa : aa = G.2.2.2.2 k' j' := Nat.add_left_cancel (Value.ref.inj (show Value.ref (B + aa) = .ref (B + G.2.2.2.2 k' j') from ha.symm))
            rw [haa] at e2 e3
            exact k H' _ sl (hR.ast hk hcc hj e1 e2 e3) hL hlo'
        · cases h
      · cases h
    · cases h
  · rename_i a st
    split at h
    · rename_i n r2 hv
      cases h
      exact hc_w_alen C hR hv hd (k H locs sl hR hL hlo)
    · cases h
  · rename_i ty n st
    split at h
    · rename_i hcn
      obtain ⟨hn, hb2, hnp, hnt⟩ := hcn
      split at h
      · cases h
        have g1 : G.2.1 - n0 + 1 = G.2.1 + 1 - n0 := by omega
        have g2 : G.2.2.1 - s0 + n.toNatClampNeg = G.2.2.1 + n.toNatClampNeg - s0 := by omega
        refine hc_w_newi C hn hb2 (by rw [g1]; exact hrc) (by rw [g2]; exact hrs) hd fun H' e1 e2 e3 => ?_
        have h4 := k H' locs sl (hR.newa (n := n.toNatClampNeg) e1 e2 e3) (hc_nt_LR (G := G) rfl hnt hL) hlo
        rw [List.map_cons, hc_np_map (G := G) hnp] at h4
        rw [g1, g2, hHs]
        exact h4
      · cases h
        have g1 : G.2.1 - n0 + 1 = G.2.1 + 1 - n0 := by omega
        have g2 : G.2.2.1 - s0 + n.toNatClampNeg = G.2.2.1 + n.toNatClampNeg - s0 := by omega
        refine hc_w_newl C hn hb2 (by rw [g1]; exact hrc) (by rw [g2]; exact hrs) hd fun H' e1 e2 e3 => ?_
        have h4 := k H' locs sl (hR.newa (n := n.toNatClampNeg) e1 e2 e3) (hc_nt_LR (G := G) rfl hnt hL) hlo
        rw [List.map_cons, hc_np_map (G := G) hnp] at h4
        rw [g1, g2, hHs]
        exact h4
      · cases h
    · cases h
  · rename_i cp
    split at h
    · rename_i cc hf
      split at h
      · rename_i hlt
        cases h
        obtain ⟨-, -, -, hc7⟩ := hc_clw _ (hc_find_mem hf)
        dsimp only at hc7
        have g1 : G.2.1 - n0 + 1 = G.2.1 + 1 - n0 := by omega
        have g2 : G.2.2.1 - s0 + hc_fn cc = G.2.2.1 + hc_fn cc - s0 := by omega
        refine hc_w_new C hf (by rw [g1]; exact hrc) (by rw [g2]; exact hrs) hd fun H' e1 e2 e3 => ?_
        have h4 := k H' locs sl (hR.newo (n := hc_fn cc) (fs := hc_df cc) hlt hc7 (by simp [hc_df]) (fun j r => by
          rw [hc_df_get]
          split
          · intro z; cases z
          · intro z; cases z) e1 e2 (e3.to fun j hj => by
            simp only [hc_vof, hc_df_get, if_pos hj, hc_fv]
            rw [← hc_df_def hc7 j hj]
            cases hc_ty cc j <;> rfl)) (hc_LR_G (G := G) rfl hL) hlo
        rw [List.map_cons, List.map_congr_left (fun v _ => hc_con_G (B := B) (b := b) (G := G) (G' := hc_gO G (hc_fn cc)) rfl v)] at h4
        rw [g1, g2, hHs]
        exact h4
      · cases h
    · cases h
  · rename_i cp kk st
    split at h
    · rename_i hcn
      obtain ⟨hob, hst, hdp, hln⟩ := hcn
      have hC := C
      obtain ⟨-, -, -, -, -, -, -, r1, r2, -⟩ := hC
      have := hc_wt_le B b G st
      cases h
      exact hc_w_obj C hsz hob (by omega) (by omega) hd (k H locs sl hR hL hlo)
    · cases h
  · rename_i cp n dp sp k' j' st
    split at h
    · rename_i hcn
      obtain ⟨hac, hst, hdp, hln, g1, g2, g3⟩ := hcn
      have hC := C
      obtain ⟨-, -, -, -, -, -, -, r1, r2, -⟩ := hC
      have hwt := hc_wt_le B b G st
      split at h
      · rename_i n0' f n1 g hv
        split at h
        · rename_i hle
          cases h
          obtain ⟨aa, ha, hc⟩ := hc_row_at hR hv
          obtain ⟨a2, ha2, hc2⟩ := hc_row_at (o := none) hR rfl
          rw [List.map_cons, List.map_cons, List.map_cons, List.map_cons, List.map_cons, ha, ha2]
          have haa : a2 = G.2.2.2.1 := Nat.add_left_cancel (Value.ref.inj (show Value.ref (B + a2) = .ref (B + G.2.2.2.1) from ha2.symm))
          refine hc_w_cpyi C hsz hac hc hc2 g1 g2 g3 hle.1 hle.2 (by omega) (by omega) hd fun H' L e0 e1 e2 e3 => ?_
          rw [haa] at e2 e3
          exact k H' _ sl (hR.tst rfl e1 e2 e3) hL (hc_lo_add hlo fun q hq => by rw [e0 q hq]; omega)
        · cases h
      · rename_i n0' f n1 g hv
        split at h
        · rename_i hle
          cases h
          obtain ⟨aa, ha, hc⟩ := hc_row_at hR hv
          obtain ⟨a2, ha2, hc2⟩ := hc_row_at (o := none) hR rfl
          rw [List.map_cons, List.map_cons, List.map_cons, List.map_cons, List.map_cons, ha, ha2]
          have haa : a2 = G.2.2.2.1 := Nat.add_left_cancel (Value.ref.inj (show Value.ref (B + a2) = .ref (B + G.2.2.2.1) from ha2.symm))
          refine hc_w_cpyl C hsz hac hc hc2 g1 g2 g3 hle.1 hle.2 (by omega) (by omega) hd fun H' L e0 e1 e2 e3 => ?_
          rw [haa] at e2 e3
          exact k H' _ sl (hR.tst rfl e1 e2 e3) hL (hc_lo_add hlo fun q hq => by rw [e0 q hq]; omega)
        · cases h
      · cases h
    · cases h
  · cases h
end HCJ
