/-! arraycopy, Object's constructor, and all of the heap's instructions together -/
section HCI
variable {p : Program} {l : Launch} {e : Env} {R : Room} {s : State} {m : MethodId} {args : Array Value} {below : List Frame} {meth : Method} {c : Code} {H : Heap} {locs : List Loc} {cells slots : Nat} {Q : State → Prop}
variable {D : va_G} {cI cJ : ClassId} {NW : List Cond} {B b : Nat} {G : hc_G} {σ : hc_H} {t : hc_T} {mi pc : Nat} {sl : Array Slot} {rest : List Value}
theorem hc_nn {z : Int32} (hz : ¬ z < 0) : z.toInt = (z.toNatClampNeg : Int) := by
  have hz0 : (0 : Int) ≤ z.toInt := by
    have := Int32.not_lt.mp hz
    simpa using Int32.le_iff_toInt_le.mp this
  show z.toInt = ((z.toInt.toNat : Nat) : Int)
  omega
theorem hc_w_cpyi (C : hc_C D cI cJ NW p R s m args meth c mi) (hsz : sl.size = hc_mx mi) {cp : Nat} (hac : hc_acp (hc_own mi) cp = true) {a0 a n0 n1 : Nat} {f g : Nat → Int32} (hc0 : H[B + a0]? = some (hc_rc cI cJ (n0, .inl f))) (hc1 : H[B + a]? = some (hc_rc cI cJ (n1, .inl g)))
    {sp dp n : Int32} (h1 : ¬ sp < 0) (h2 : ¬ dp < 0) (h3 : ¬ n < 0) (h4 : sp.toNatClampNeg + n.toNatClampNeg ≤ n0) (h5 : dp.toNatClampNeg + n.toNatClampNeg ≤ n1) (hframes : 1 ≤ R.frames) (hlocals : (rest.map fun v => v.category).sum + 18 ≤ R.locals) (hd : decode (hc_b mi) pc = .ok (.invokestatic cp, 3))
    (kk : ∀ (H' : Heap) (L : List Loc), (∀ q ∈ L, q.base = B + a) → H'.size = H.size → (∀ q : Nat, q ≠ B + a → H'[q]? = H[q]?) → H'[B + a]? = some (hc_rc cI cJ (n1, .inl (va_cpy f g sp.toNatClampNeg dp.toNatClampNeg n.toNatClampNeg))) → W p l e R s m args below meth c H' (locs ++ L) cells slots Q (F0 m (pc + 3) sl rest)) : W p l e R s m args below meth c H locs cells slots Q (F0 m pc sl (.int n :: .int dp :: .ref (B + a) :: .int sp :: .ref (B + a0) :: rest)) := by
  obtain ⟨hx, hb, hml, hown, hts, hK, -⟩ := C
  have hlink := hc_acw (hc_own mi, cp) (by simpa [hc_acp] using hac)
  dsimp only at hlink
  intro T hT X
  obtain ⟨-, k0, hk0, cm0, hkk0⟩ := (hK.2 0 _ rfl).1 n0 (fun j => .int (f j))
  obtain ⟨-, k1, hk1, cm1, hkk1⟩ := (hK.2 0 _ rfl).1 n1 (fun j => .int (g j))
  have hl : B + a < H.size := (Array.getElem?_eq_some_iff.mp hc1).1
  obtain ⟨vm', X', step⟩ := X.arraycopy hx hown (hts _ hlink) (hts _ hc_ayw.1) (hts _ hc_ayw.2.1) (hts _ hc_ayw.2.2) (src := B + a0) (dst := B + a) (cs := vp_cell cI (n0, .inl (f))) (cd := vp_cell cI (n1, .inl (g))) (srcPos := sp) (destPos := dp) (n := n) (by rw [hT]; exact hc0) (by rw [hT]; exact hc1)
    (fun _ h => by cases h) (fun _ h => by cases h) (fun h => by cases h) (fun h => by cases h) hk0 hk1 hkk0 hkk1 (by simp [refKind]) h1 h2 h3
    (by rw [hc_nn h1, hc_nn h3]; show ¬ _ > ((arrV cI n0 (fun j => .int (f j))).slots.size : Int); rw [arrV_size]; omega)
    (by rw [hc_nn h2, hc_nn h3]; show ¬ _ > ((arrV cI n1 (fun j => .int (g j))).slots.size : Int); rw [arrV_size]; omega)
    (fun vm₁ _ i hi => by
      have e : (vp_cell cI (n0, .inl (f))).slots.getD (sp.toNatClampNeg + i) .null = .int (f (sp.toNatClampNeg + i)) := by
        show (arrV cI n0 (fun j => .int (f j))).slots.getD _ _ = _
        rw [Array.getD_eq_getD_getElem?, arrV_read _ _ (by omega)]
        rfl
      refine ⟨?_, ?_⟩
      · rw [e]
        rfl
      · rw [e]
        exact trivial)
    (g := F0 m pc sl (.int n :: .int dp :: .ref (B + a) :: .int sp :: .ref (B + a0) :: rest)) rfl (by rw [hml]; exact hsz) (rest := rest) rfl (by rw [hb]; exact hd) hframes (by show 2 * 0 + _ + (nativeFrameWords "java/lang/System" "arraycopy" 5 + 11) ≤ _; rw [show nativeFrameWords "java/lang/System" "arraycopy" 5 = 7 by decide +kernel]; omega)
  have e1 : copied (vp_cell cI (n0, .inl (f))) (vp_cell cI (n1, .inl (g))) sp dp n = vp_cell cI (n1, .inl (va_cpy f g sp.toNatClampNeg dp.toNatClampNeg n.toNatClampNeg)) := va_copied (fun z => .int z) cI cI f g h4
  rw [e1] at X' step
  have hheap : ((T.setVm vm').setCell (B + a) (vp_cell cI (n1, .inl (va_cpy f g sp.toNatClampNeg dp.toNatClampNeg n.toNatClampNeg)))).heap = H.setIfInBounds (B + a) (vp_cell cI (n1, .inl (va_cpy f g sp.toNatClampNeg dp.toNatClampNeg n.toNatClampNeg))) := by rw [← hT]; rfl
  have k1' := fun (LL : List Loc) hLL => kk (H.setIfInBounds (B + a) (vp_cell cI (n1, .inl (va_cpy f g sp.toNatClampNeg dp.toNatClampNeg n.toNatClampNeg)))) LL hLL (by simp) (fun q hq => by simp [Array.getElem?_setIfInBounds, Ne.symm hq]) (by simp [Array.getElem?_setIfInBounds, hl]; rfl)
  obtain ⟨t, a1, b1⟩ := k1' _ (fun q hq => by
    obtain ⟨z, -, hz⟩ := List.mem_map.mp hq
    rw [← hz]) _ hheap X'
  exact ⟨t, step t a1, b1⟩
theorem hc_w_cpyl (C : hc_C D cI cJ NW p R s m args meth c mi) (hsz : sl.size = hc_mx mi) {cp : Nat} (hac : hc_acp (hc_own mi) cp = true) {a0 a n0 n1 : Nat} {f g : Nat → Int64} (hc0 : H[B + a0]? = some (hc_rc cI cJ (n0, .inr f))) (hc1 : H[B + a]? = some (hc_rc cI cJ (n1, .inr g)))
    {sp dp n : Int32} (h1 : ¬ sp < 0) (h2 : ¬ dp < 0) (h3 : ¬ n < 0) (h4 : sp.toNatClampNeg + n.toNatClampNeg ≤ n0) (h5 : dp.toNatClampNeg + n.toNatClampNeg ≤ n1) (hframes : 1 ≤ R.frames) (hlocals : (rest.map fun v => v.category).sum + 18 ≤ R.locals) (hd : decode (hc_b mi) pc = .ok (.invokestatic cp, 3))
    (kk : ∀ (H' : Heap) (L : List Loc), (∀ q ∈ L, q.base = B + a) → H'.size = H.size → (∀ q : Nat, q ≠ B + a → H'[q]? = H[q]?) → H'[B + a]? = some (hc_rc cI cJ (n1, .inr (va_cpy f g sp.toNatClampNeg dp.toNatClampNeg n.toNatClampNeg))) → W p l e R s m args below meth c H' (locs ++ L) cells slots Q (F0 m (pc + 3) sl rest)) : W p l e R s m args below meth c H locs cells slots Q (F0 m pc sl (.int n :: .int dp :: .ref (B + a) :: .int sp :: .ref (B + a0) :: rest)) := by
  obtain ⟨hx, hb, hml, hown, hts, hK, -⟩ := C
  have hlink := hc_acw (hc_own mi, cp) (by simpa [hc_acp] using hac)
  dsimp only at hlink
  intro T hT X
  obtain ⟨-, k0, hk0, cm0, hkk0⟩ := (hK.2 1 _ rfl).1 n0 (fun j => .long (f j))
  obtain ⟨-, k1, hk1, cm1, hkk1⟩ := (hK.2 1 _ rfl).1 n1 (fun j => .long (g j))
  have hl : B + a < H.size := (Array.getElem?_eq_some_iff.mp hc1).1
  obtain ⟨vm', X', step⟩ := X.arraycopy hx hown (hts _ hlink) (hts _ hc_ayw.1) (hts _ hc_ayw.2.1) (hts _ hc_ayw.2.2) (src := B + a0) (dst := B + a) (cs := vp_cell cJ (n0, .inr (.inl (f)))) (cd := vp_cell cJ (n1, .inr (.inl (g)))) (srcPos := sp) (destPos := dp) (n := n) (by rw [hT]; exact hc0) (by rw [hT]; exact hc1)
    (fun _ h => by cases h) (fun _ h => by cases h) (fun h => by cases h) (fun h => by cases h) hk0 hk1 hkk0 hkk1 (by simp [refKind]) h1 h2 h3
    (by rw [hc_nn h1, hc_nn h3]; show ¬ _ > ((arrV cJ n0 (fun j => .long (f j))).slots.size : Int); rw [arrV_size]; omega)
    (by rw [hc_nn h2, hc_nn h3]; show ¬ _ > ((arrV cJ n1 (fun j => .long (g j))).slots.size : Int); rw [arrV_size]; omega)
    (fun vm₁ _ i hi => by
      have e : (vp_cell cJ (n0, .inr (.inl (f)))).slots.getD (sp.toNatClampNeg + i) .null = .long (f (sp.toNatClampNeg + i)) := by
        show (arrV cJ n0 (fun j => .long (f j))).slots.getD _ _ = _
        rw [Array.getD_eq_getD_getElem?, arrV_read _ _ (by omega)]
        rfl
      refine ⟨?_, ?_⟩
      · rw [e]
        rfl
      · rw [e]
        exact trivial)
    (g := F0 m pc sl (.int n :: .int dp :: .ref (B + a) :: .int sp :: .ref (B + a0) :: rest)) rfl (by rw [hml]; exact hsz) (rest := rest) rfl (by rw [hb]; exact hd) hframes (by show 2 * 0 + _ + (nativeFrameWords "java/lang/System" "arraycopy" 5 + 11) ≤ _; rw [show nativeFrameWords "java/lang/System" "arraycopy" 5 = 7 by decide +kernel]; omega)
  have e1 : copied (vp_cell cJ (n0, .inr (.inl (f)))) (vp_cell cJ (n1, .inr (.inl (g)))) sp dp n = vp_cell cJ (n1, .inr (.inl (va_cpy f g sp.toNatClampNeg dp.toNatClampNeg n.toNatClampNeg))) := va_copied (fun z => .long z) cJ cJ f g h4
  rw [e1] at X' step
  have hheap : ((T.setVm vm').setCell (B + a) (vp_cell cJ (n1, .inr (.inl (va_cpy f g sp.toNatClampNeg dp.toNatClampNeg n.toNatClampNeg))))).heap = H.setIfInBounds (B + a) (vp_cell cJ (n1, .inr (.inl (va_cpy f g sp.toNatClampNeg dp.toNatClampNeg n.toNatClampNeg)))) := by rw [← hT]; rfl
  have k1' := fun (LL : List Loc) hLL => kk (H.setIfInBounds (B + a) (vp_cell cJ (n1, .inr (.inl (va_cpy f g sp.toNatClampNeg dp.toNatClampNeg n.toNatClampNeg))))) LL hLL (by simp) (fun q hq => by simp [Array.getElem?_setIfInBounds, Ne.symm hq]) (by simp [Array.getElem?_setIfInBounds, hl]; rfl)
  obtain ⟨t, a1, b1⟩ := k1' _ (fun q hq => by
    obtain ⟨z, -, hz⟩ := List.mem_map.mp hq
    rw [← hz]) _ hheap X'
  exact ⟨t, step t a1, b1⟩
theorem hc_w_obj (C : hc_C D cI cJ NW p R s m args meth c mi) (hsz : sl.size = hc_mx mi) {cp a : Nat} (hob : hc_obj (hc_own mi) cp = true) (hframes : 1 ≤ R.frames) (hlocals : (rest.map fun v => v.category).sum + 12 ≤ R.locals) (hd : decode (hc_b mi) pc = .ok (.invokespecial cp, 3))
    (kk : W p l e R s m args below meth c H locs cells slots Q (F0 m (pc + 3) sl rest)) : W p l e R s m args below meth c H locs cells slots Q (F0 m pc sl (.ref a :: rest)) := by
  obtain ⟨hx, hb, hml, hown, hts, hK, -⟩ := C
  have hlink := hc_obw (hc_own mi, cp) (by simpa [hc_obj] using hob)
  dsimp only at hlink
  refine W.objInit hx hb hown (hts _ hlink) (hts _ hc_oiw.1) (hts _ hc_oiw.2) rfl (by rw [hml]; exact hsz) rfl hd hframes (by show 2 * 0 + _ + 12 ≤ _; omega) ?_
  exact kk
theorem hc_wt_le (B b : Nat) (G : hc_G) (st : List hc_V) : ((st.map (hc_con B b G)).map fun v => v.category).sum ≤ 2 * st.length := by
  induction st with
  | nil => exact Nat.le_refl _
  | cons v st ih =>
    have : (hc_con B b G v).category ≤ 2 := by rcases lv_cat (hc_con B b G v) with q | q <;> omega
    simp only [List.map_cons, List.sum_cons, List.length_cons]
    omega
theorem hc_np_map {B b : Nat} {G G' : hc_G} {st : List hc_V} (h : hc_np st = true) : st.map (hc_con B b G') = st.map (hc_con B b G) := by
  induction st with
  | nil => rfl
  | cons v st ih =>
    rcases v with v | p
    · rw [List.map_cons, List.map_cons, ih h]
      congr 1
      cases v <;> rfl
    · cases h
theorem hc_nt_LR {B b : Nat} {G G' : hc_G} {ls : hc_L} {sl : Array Slot} (hG : G'.2.2.2.2 = G.2.2.2.2) (hn : ls.all hc_nt = true) (h : hc_LR B b G ls sl) : hc_LR B b G' ls sl := by
  refine ⟨h.1, h.2.1, fun j w hj => ?_⟩
  rw [h.2.2 j w hj]
  have := List.all_eq_true.mp hn _ (List.mem_of_getElem? hj)
  rcases w with v | (_ | ⟨k, j⟩)
  · cases v <;> rfl
  · cases this
  · simp only [hc_con, hG]
theorem hc_Rel.same {U : State} {H' : Heap} (h : hc_Rel D cI cJ B b U G σ t H) {k cc : Nat} {fs : List hc_F} (hk : σ k = some (cc, fs)) (hc : cc < 99) (hz : H'.size = H.size) (ho : ∀ q : Nat, q ≠ B + k → H'[q]? = H[q]?)
    (hn : t_OB (B + k) (D.1 cc) (hc_fn cc) (D.2 cc) H' (hc_vof B b G k fs)) : hc_Rel D cI cJ B b U G σ t H' := by
  obtain ⟨⟨r0, r0'⟩, r1, r2, r3, r4, r5, r6, r7⟩ := h
  have ok : hc_olv σ k := ⟨cc, fs, hk, hc⟩
  refine ⟨⟨by rw [hz]; exact r0, r0'⟩, fun k' c' fs' h1 h2 => ?_, fun k' j' r q => ?_, fun r q => ?_, r4, r5, r6, fun r q => ?_⟩
  · obtain ⟨a1, a2, a3, a4⟩ := r1 k' _ _ h1 h2
    by_cases e : k' = k
    · subst e
      rw [hk] at h1
      cases h1
      exact ⟨a1, a2, a3, hn⟩
    · exact ⟨a1, a2, a3, a4.kept (ho _ (by omega))⟩
  · obtain ⟨a1, a2⟩ := r2 _ _ _ q
    have := r4 _ _ _ _ q ok
    exact ⟨a1, by rw [ho _ (by omega)]; exact a2⟩
  · obtain ⟨a1, a2⟩ := r3 _ q
    have := (r6 _ q).1 _ ok
    exact ⟨a1, by rw [ho _ (by omega)]; exact a2⟩
  · obtain ⟨xs, q1, q2⟩ := r7 r q
    exact ⟨xs, q1, q2.kept (ho _ (by omega))⟩
theorem hc_lo_add {B : Nat} {locs L : List Loc} (h : ∀ q ∈ locs, B ≤ q.base) (hL : ∀ q ∈ L, B ≤ q.base) : ∀ q ∈ locs ++ L, B ≤ q.base := fun q hq => (List.mem_append.mp hq).elim (h q) (hL q)
theorem hc_df_get {c j : Nat} : (hc_df c)[j]? = if j < hc_fn c then some (.inl (match hc_ty c j with
  | .int => .int 0
  | .long => .long 0
  | .boolean => .int 0
  | _ => .null)) else none := by
  unfold hc_df
  rw [List.getElem?_map]
  by_cases h : j < hc_fn c
  · rw [List.getElem?_range h, if_pos h]
    rfl
  · rw [if_neg h, List.getElem?_eq_none (by simp; omega)]
    rfl
theorem hc_df_def {c : Nat} (hc : c < 7) : ∀ j, j < hc_fn c → (match hc_ty c j with
  | .int => Value.int 0
  | .long => .long 0
  | .boolean => .int 0
  | _ => .null) = defaultValue (hc_ty c j) := by
  match c, hc with
  | 0, _ => decide +kernel
  | 1, _ => decide +kernel
  | 2, _ => decide +kernel
  | 3, _ => decide +kernel
  | 4, _ => decide +kernel
  | 5, _ => decide +kernel
  | 6, _ => decide +kernel
theorem hc_wr_ok {o : Option (Nat × Nat)} {r0 r1 : hc_R} {σ' : hc_H} {t' : hc_T} (h0 : hc_row σ t (.inr o) = some r0) (h : hc_wr σ t r1 (.inr o) = some (σ', t')) :
    (o = none ∧ t = some r0 ∧ σ' = σ ∧ t' = some r1) ∨ (∃ k j cc fs, o = some (k, j) ∧ σ k = some (cc, fs) ∧ cc < 99 ∧ fs[j]? = some (.inr r0) ∧ σ' = hc_set σ k (cc, fs.set j (.inr r1)) ∧ t' = t) := by
  rcases o with _ | ⟨k, j⟩
  · left
    simp only [hc_row] at h0
    simp only [hc_wr, h0] at h
    cases h
    exact ⟨rfl, h0, rfl, rfl⟩
  · right
    simp only [hc_row] at h0
    split at h0
    · rename_i cc fs hk
      simp only [hc_wr, hk] at h
      split at h0
      · rename_i hc
        rw [if_pos hc] at h
        split at h0
        · rename_i r hj
          cases h0
          cases h
          exact ⟨k, j, cc, fs, rfl, hk, hc, hj, rfl, rfl⟩
        · cases h0
      · cases h0
    · cases h0
end HCI
