/-! the instructions that touch neither heap nor calls, on the large machine -/
theorem hc_k32_w {ow cp : Nat} {v : Int32} (h : hc_k32 ow cp = some v) : Cond.constant (hc_cn ow) cp v ∈ hc_ALL := hc_k3w _ (hc_find_mem h)
theorem hc_k64_w {ow cp : Nat} {v : Int64} (h : hc_k64 ow cp = some v) : Cond.constantLong (hc_cn ow) cp v ∈ hc_ALL := hc_k6w _ (hc_find_mem h)
theorem hc_loc_len {mi pc w pc' : Nat} {ls ls' : hc_L} {st st' : List hc_V} {i : Instr} (h : hc_loc mi pc ls st i w = some (pc', ls', st')) : ls'.length = ls.length := by
  unfold hc_loc at h
  split at h <;> (try (split at h)) <;> (try (split at h)) <;> (try (split at h)) <;> (try (split at h)) <;> first | (cases h; done) | (cases h; rfl) | (cases h; exact hc_sto_len _ _ _)
section HCL
variable {p : Program} {l : Launch} {e : Env} {R : Room} {s : State} {m : MethodId} {args : Array Value} {below : List Frame} {meth : Method} {c : Code} {H : Heap} {locs : List Loc} {cells slots : Nat} {Q : State → Prop}
variable {D : va_G} {cI cJ : ClassId} {NW : List Cond} {B b : Nat} {G : hc_G}
set_option maxHeartbeats 4000000 in
theorem hc_loc_s {mi pc w pc' : Nat} {ls ls' : hc_L} {st st' : List hc_V} {i : Instr} {sl : Array Slot} (C : hc_C D cI cJ NW p R s m args meth c mi) (hd : decode (hc_b mi) pc = .ok (i, w)) (h : hc_loc mi pc ls st i w = some (pc', ls', st')) (hlen : ls.length = hc_mx mi) (hL : hc_LR B b G ls sl)
    (k : ∀ sl' : Array Slot, hc_LR B b G ls' sl' → W p l e R s m args below meth c H locs cells slots Q (F0 m pc' sl' (st'.map (hc_con B b G)))) : W p l e R s m args below meth c H locs cells slots Q (F0 m pc sl (st.map (hc_con B b G))) := by
  obtain ⟨hx, hb, hml, hown, hts, -⟩ := C
  unfold hc_loc at h
  split at h
  · rename_i n st
    cases h
    exact lv_iconst hx hb hd rfl (k sl hL)
  · rename_i n st
    cases h
    exact lv_bipush hx hb hd rfl (k sl hL)
  · rename_i n st
    cases h
    exact lv_sipush hx hb hd rfl (k sl hL)
  · rename_i n st
    cases h
    exact lv_lconst hx hb hd rfl (k sl hL)
  · rename_i cp st
    split at h
    · rename_i v hv
      cases h
      exact W.ldc hx hb hown (hts _ (hc_k32_w hv)) rfl hd (k sl hL)
    · cases h
  · rename_i cp st
    split at h
    · rename_i v hv
      cases h
      exact W.ldc2 hx hb hown (hts _ (hc_k64_w hv)) rfl hd (k sl hL)
    · cases h
  · rename_i q st
    split at h
    · rename_i v hv
      cases h
      obtain ⟨h1, h2⟩ := hc_ld_of hv
      obtain ⟨x, rfl⟩ := hc_kd0 h2
      exact lv_iload_n hx hb hd rfl (hL.2.2 _ _ h1) (k sl hL)
    · cases h
  · rename_i q st
    split at h
    · rename_i v hv
      cases h
      obtain ⟨h1, h2⟩ := hc_ld_of hv
      obtain ⟨x, rfl⟩ := hc_kd0 h2
      exact lv_iload hx hb hd (hL.2.2 _ _ h1) (k sl hL)
    · cases h
  · rename_i q st
    split at h
    · rename_i v hv
      cases h
      obtain ⟨h1, h2⟩ := hc_ld_of hv
      obtain ⟨x, rfl⟩ := hc_kd1 h2
      exact lv_lload_n hx hb hd rfl (hL.2.2 _ _ h1) (k sl hL)
    · cases h
  · rename_i q st
    split at h
    · rename_i v hv
      cases h
      obtain ⟨h1, h2⟩ := hc_ld_of hv
      obtain ⟨x, rfl⟩ := hc_kd1 h2
      exact lv_lload hx hb hd (hL.2.2 _ _ h1) (k sl hL)
    · cases h
  · rename_i q st
    split at h
    · rename_i v hv
      cases h
      obtain ⟨h1, h2⟩ := hc_ld_of hv
      obtain ⟨⟨a, ha⟩, -⟩ := hc_kd2 B b G h2
      have h3 := hL.2.2 _ _ h1
      rw [ha] at h3
      refine lv_aload_n hx hb hd rfl h3 ?_
      have h4 := k sl hL
      rw [List.map_cons, ha] at h4
      exact h4
    · cases h
  · rename_i q st
    split at h
    · rename_i v hv
      cases h
      obtain ⟨h1, h2⟩ := hc_ld_of hv
      obtain ⟨⟨a, ha⟩, -⟩ := hc_kd2 B b G h2
      have h3 := hL.2.2 _ _ h1
      rw [ha] at h3
      refine lv_aload hx hb hd h3 ?_
      have h4 := k sl hL
      rw [List.map_cons, ha] at h4
      exact h4
    · cases h
  · rename_i q x st
    split at h
    · rename_i hq
      cases h
      exact lv_istore_n (nL := ls.length) hx hb hd rfl hL.has (by rw [hlen]; exact hq) rfl (fun sl2 h2 => k sl2 (hc_LR_sto1 (v := .inl (.int x)) rfl h2))
    · cases h
  · rename_i q x st
    split at h
    · rename_i hq
      cases h
      exact lv_istore (nL := ls.length) hx hb hd hL.has (by rw [hlen]; exact hq) rfl (fun sl2 h2 => k sl2 (hc_LR_sto1 (v := .inl (.int x)) rfl h2))
    · cases h
  · rename_i q x st
    split at h
    · rename_i hq
      cases h
      exact lv_lstore_n (nL := ls.length) hx hb hd rfl hL.has (by rw [hlen]; exact hq) rfl (fun sl2 h2 => k sl2 (hc_LR_sto2 (v := .inl (.long x)) rfl h2))
    · cases h
  · rename_i q x st
    split at h
    · rename_i hq
      cases h
      exact lv_lstore (nL := ls.length) hx hb hd hL.has (by rw [hlen]; exact hq) rfl (fun sl2 h2 => k sl2 (hc_LR_sto2 (v := .inl (.long x)) rfl h2))
    · cases h
  · rename_i q v st
    split at h
    · rename_i hq
      cases h
      obtain ⟨⟨a, ha⟩, h2⟩ := hc_kd2 B b G hq.1
      rw [List.map_cons, ha]
      refine lv_astore_n (nL := ls.length) hx hb hd rfl hL.has (by rw [hlen]; exact hq.2) rfl (fun sl2 h3 => k sl2 ?_)
      rw [← ha] at h3
      exact hc_LR_sto1 h2 h3
    · cases h
  · rename_i q v st
    split at h
    · rename_i hq
      cases h
      obtain ⟨⟨a, ha⟩, h2⟩ := hc_kd2 B b G hq.1
      rw [List.map_cons, ha]
      refine lv_astore (nL := ls.length) hx hb hd hL.has (by rw [hlen]; exact hq.2) rfl (fun sl2 h3 => k sl2 ?_)
      rw [← ha] at h3
      exact hc_LR_sto1 h2 h3
    · cases h
  · rename_i q n
    split at h
    · rename_i x hq
      cases h
      obtain ⟨kk, hkk⟩ := List.getElem?_of_mem (hc_prs_mem (B := B) (b := b) (G := G) hq)
      exact lv_iinc (nL := ls.length) hx hb hd hL.has hkk rfl (List.getElem?_eq_some_iff.mp hq).1 rfl (fun sl2 h2 => k sl2 (hc_LR_sto1 (v := .inl (.int (x + Int32.ofInt n))) rfl h2))
    · cases h
  · rename_i y x st
    cases h
    exact lv_iadd hx hb hd (k sl hL)
  · rename_i y x st
    cases h
    exact lv_isub hx hb hd (k sl hL)
  · rename_i y x st
    cases h
    exact lv_imul hx hb hd (k sl hL)
  · rename_i y x st
    cases h
    exact lv_iand hx hb hd (k sl hL)
  · rename_i y x st
    split at h
    · cases h
    · rename_i hy
      cases h
      exact lv_idiv hx hb hd hy (k sl hL)
  · rename_i y x st
    cases h
    exact lv_ladd hx hb hd (k sl hL)
  · rename_i y x st
    cases h
    exact lv_lsub hx hb hd (k sl hL)
  · rename_i y x st
    cases h
    exact lv_lmul hx hb hd (k sl hL)
  · rename_i y x st
    cases h
    exact lv_land hx hb hd (k sl hL)
  · rename_i y x st
    cases h
    exact lv_lor hx hb hd (k sl hL)
  · rename_i y x st
    cases h
    exact lv_lxor hx hb hd (k sl hL)
  · rename_i y x st
    split at h
    · cases h
    · rename_i hy
      cases h
      exact lv_ldiv hx hb hd hy (k sl hL)
  · rename_i y x st
    split at h
    · cases h
    · rename_i hy
      cases h
      exact lv_lrem hx hb hd hy (k sl hL)
  · rename_i x st
    cases h
    exact lv_lneg hx hb hd (k sl hL)
  · rename_i y x st
    cases h
    exact lv_lshl hx hb hd rfl (k sl hL)
  · rename_i y x st
    cases h
    exact lv_lshr hx hb hd rfl (k sl hL)
  · rename_i y x st
    cases h
    exact W.lcmp hx hb hd (k sl hL)
  · rename_i x st
    cases h
    exact lv_i2l hx hb hd rfl (k sl hL)
  · rename_i x st
    cases h
    exact lv_l2i hx hb hd rfl (k sl hL)
  · rename_i v st
    split at h
    · cases h
    · rename_i hv
      cases h
      exact lv_dup hx hb hd (hc_con_cat1 B b G v (hc_two_not hv)) (k sl hL)
  · rename_i v u st
    split at h
    · cases h
    · rename_i hv
      cases h
      exact lv_dup2_11 hx hb hd (hc_con_cat1 B b G v (hc_two_not (fun z => hv (Or.inl z)))) (hc_con_cat1 B b G u (hc_two_not (fun z => hv (Or.inr z)))) (k sl hL)
  · rename_i off st
    split at h
    · rename_i hz
      cases h
      exact lv_goto hx hb hd (hc_tg_eq hz) (k sl hL)
    · cases h
  · rename_i q off x st
    split at h
    · rename_i hz
      cases h
      cases q
      · exact lv_if_eq hx hb hd (hc_tg_eq hz) (fun hc => by have h4 := k sl hL; rw [if_pos (by simpa [hc_cm] using hc)] at h4; exact h4) (fun hc => by have h4 := k sl hL; rw [if_neg (by simpa [hc_cm] using hc)] at h4; exact h4)
      · exact lv_if_ne hx hb hd (hc_tg_eq hz) (fun hc => by have h4 := k sl hL; rw [if_pos (by simpa [hc_cm] using hc)] at h4; exact h4) (fun hc => by have h4 := k sl hL; rw [if_neg (by simpa [hc_cm] using hc)] at h4; exact h4)
      · exact lv_if_lt hx hb hd (hc_tg_eq hz) (fun hc => by have h4 := k sl hL; rw [if_pos (by simpa [hc_cm] using hc)] at h4; exact h4) (fun hc => by have h4 := k sl hL; rw [if_neg (by simpa [hc_cm] using hc)] at h4; exact h4)
      · exact lv_if_ge hx hb hd (hc_tg_eq hz) (fun hc => by have h4 := k sl hL; rw [if_pos (by simpa [hc_cm] using hc)] at h4; exact h4) (fun hc => by have h4 := k sl hL; rw [if_neg (by simpa [hc_cm] using hc)] at h4; exact h4)
      · exact lv_if_gt hx hb hd (hc_tg_eq hz) (fun hc => by have h4 := k sl hL; rw [if_pos (by simpa [hc_cm] using hc)] at h4; exact h4) (fun hc => by have h4 := k sl hL; rw [if_neg (by simpa [hc_cm] using hc)] at h4; exact h4)
      · exact lv_if_le hx hb hd (hc_tg_eq hz) (fun hc => by have h4 := k sl hL; rw [if_pos (by simpa [hc_cm] using hc)] at h4; exact h4) (fun hc => by have h4 := k sl hL; rw [if_neg (by simpa [hc_cm] using hc)] at h4; exact h4)
    · cases h
  · rename_i q off y x st
    split at h
    · rename_i hz
      cases h
      cases q
      · exact lv_icmp_eq hx hb hd (hc_tg_eq hz) (fun hc => by have h4 := k sl hL; rw [if_pos (by simpa [hc_cm] using hc)] at h4; exact h4) (fun hc => by have h4 := k sl hL; rw [if_neg (by simpa [hc_cm] using hc)] at h4; exact h4)
      · exact lv_icmp_ne hx hb hd (hc_tg_eq hz) (fun hc => by have h4 := k sl hL; rw [if_pos (by simpa [hc_cm] using hc)] at h4; exact h4) (fun hc => by have h4 := k sl hL; rw [if_neg (by simpa [hc_cm] using hc)] at h4; exact h4)
      · exact lv_icmp_lt hx hb hd (hc_tg_eq hz) (fun hc => by have h4 := k sl hL; rw [if_pos (by simpa [hc_cm] using hc)] at h4; exact h4) (fun hc => by have h4 := k sl hL; rw [if_neg (by simpa [hc_cm] using hc)] at h4; exact h4)
      · exact lv_icmp_ge hx hb hd (hc_tg_eq hz) (fun hc => by have h4 := k sl hL; rw [if_pos (by simpa [hc_cm] using hc)] at h4; exact h4) (fun hc => by have h4 := k sl hL; rw [if_neg (by simpa [hc_cm] using hc)] at h4; exact h4)
      · exact lv_icmp_gt hx hb hd (hc_tg_eq hz) (fun hc => by have h4 := k sl hL; rw [if_pos (by simpa [hc_cm] using hc)] at h4; exact h4) (fun hc => by have h4 := k sl hL; rw [if_neg (by simpa [hc_cm] using hc)] at h4; exact h4)
      · exact lv_icmp_le hx hb hd (hc_tg_eq hz) (fun hc => by have h4 := k sl hL; rw [if_pos (by simpa [hc_cm] using hc)] at h4; exact h4) (fun hc => by have h4 := k sl hL; rw [if_neg (by simpa [hc_cm] using hc)] at h4; exact h4)
    · cases h
  · rename_i d lo hi offs x st
    split at h
    · rename_i hz
      split at h
      · rename_i hq
        cases h
        exact lv_tableOut hx hb hd hz (hc_tg_eq hq) (k sl hL)
      · cases h
    · rename_i hz
      split at h
      · rename_i off ho
        split at h
        · rename_i hq
          cases h
          exact lv_tableIn hx hb hd (fun z => hz (Or.inl z)) (fun z => hz (Or.inr z)) ho (hc_tg_eq hq) (k sl hL)
        · cases h
      · cases h
  ·
    cases h
end HCL
