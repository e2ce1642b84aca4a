/-! the heap's instructions, a row each, with all that stays said -/
theorem hc_cls_ok {c : Nat} (h : c < 7) : vwCl[c]? = some (hc_cn c, hc_ft c, hc_fn c) ∧ (∀ w ∈ u_ws (hc_cn c) (hc_ft c) (hc_fn c), w ∈ hc_ALL) ∧ (∀ k, k < hc_fn c → parseFieldDescriptor (hc_ft c k).2.2.1 = some (hc_ty c k)) ∧ (∀ a, a < hc_fn c → ∀ b, b < hc_fn c → a ≠ b → (hc_ft c a).2.1 ≠ (hc_ft c b).2.1) ∧ (∀ k, k < hc_fn c → (hc_ft c k).1 = hc_cn c) := by
  match c, h with
  | 0, _ => exact ⟨rfl, hc_lyw0, tyX0_ok, nmX0, by decide +kernel⟩
  | 1, _ => exact ⟨rfl, hc_lyw1, tyX1_ok, nmX1, by decide +kernel⟩
  | 2, _ => exact ⟨rfl, hc_lyw2, tyX2_ok, nmX2, by decide +kernel⟩
  | 3, _ => exact ⟨rfl, hc_lyw3, tyX3_ok, nmX3, by decide +kernel⟩
  | 4, _ => exact ⟨rfl, hc_lyw4, tyX4_ok, nmX4, by decide +kernel⟩
  | 5, _ => exact ⟨rfl, hc_lyw5, tyX5_ok, nmX5, by decide +kernel⟩
  | 6, _ => exact ⟨rfl, hc_lyw6, tyX6_ok, nmX6, by decide +kernel⟩
theorem hc_fit_ok (B b : Nat) (G : hc_G) {ty : FieldType} {v : Value} (h : hc_fit ty v = true) : narrow ty (hc_con B b G (.inl v)) = hc_con B b G (.inl v) ∧ fits ty (hc_con B b G (.inl v)) = true := by
  cases ty <;> cases v <;> first | (simp [hc_fit] at h; done) | exact ⟨rfl, rfl⟩ | skip
  rename_i x
  simp only [hc_fit, Bool.or_eq_true, decide_eq_true_eq] at h
  rcases h with rfl | rfl
  · exact (by decide +kernel : narrow .boolean (.int 0) = .int 0 ∧ fits .boolean (.int 0) = true)
  · exact (by decide +kernel : narrow .boolean (.int 1) = .int 1 ∧ fits .boolean (.int 1) = true)
theorem hc_arr_ok {ty : FieldType} {r : hc_R} (a : Nat) (h : hc_arr ty r = true) : narrow ty (.ref a) = .ref a ∧ fits ty (.ref a) = true := by
  obtain ⟨n, f | f⟩ := r <;> (cases ty <;> first | (simp [hc_arr] at h; done) | exact ⟨rfl, rfl⟩)
section HCH
variable {p : Program} {l : Launch} {e : Env} {R : Room} {s : State} {m : MethodId} {args : Array Value} {below : List Frame} {meth : Method} {c : Code} {H : Heap} {locs : List Loc} {cells slots : Nat} {Q : State → Prop}
variable {D : va_G} {cI cJ : ClassId} {NW : List Cond} {B b : Nat} {G : hc_G} {σ : hc_H} {t : hc_T} {mi pc : Nat} {sl : Array Slot} {rest : List Value}
theorem hc_w_get (C : hc_C D cI cJ NW p R s m args meth c mi) (hR : hc_Rel D cI cJ B b s G σ t H) {cp k cc j : Nat} {fs : List hc_F} {f : hc_F} (hf : hc_fld (hc_own mi) cp = some (cc, j)) (hk : σ k = some (cc, fs)) (hj : fs[j]? = some f) (hd : decode (hc_b mi) pc = .ok (.getfield cp, 3))
    (kk : W p l e R s m args below meth c H locs cells slots Q (F0 m (pc + 3) sl (hc_con B b G (hc_fv k j f) :: rest))) : W p l e R s m args below meth c H locs cells slots Q (F0 m pc sl (.ref (B + k) :: rest)) := by
  obtain ⟨hx, hb, hml, hown, hts, hK, -⟩ := C
  obtain ⟨hlink, hjn, hc7⟩ := hc_flw _ (hc_find_mem hf)
  dsimp only at hlink hjn hc7
  obtain ⟨q1, q2, q3, q4, q5⟩ := hc_cls_ok hc7
  obtain ⟨-, -, -, hob⟩ := hR.2.1 k cc fs hk (by omega)
  have hP : va_P D vwCl [(B + k, .inr (cc, (List.range (hc_fn cc)).map (hc_vof B b G k fs)))] H := by
    intro i q hq
    have hz : i < 1 := (List.getElem?_eq_some_iff.mp hq).1
    rw [show i = 0 by omega] at hq
    cases hq
    refine ⟨_, q1, hob.to fun i hi => ?_⟩
    simp [vp_V, hi]
  refine va_get (D := D) (ci := cc) (fs := (List.range (hc_fn cc)).map (hc_vof B b G k fs)) hx hb hts q2 hown hK hP 0 rfl q1 j hjn (hts _ hlink) (fun _ h9 => h9) ?_ hd kk
  rw [List.getElem?_map, List.getElem?_range hjn]
  simp [hc_vof, hj]
theorem hc_w_put (C : hc_C D cI cJ NW p R s m args meth c mi) {cp k cc j : Nat} {V : Nat → Value} {v : Value} (hf : hc_fld (hc_own mi) cp = some (cc, j)) (hob : t_OB (B + k) (D.1 cc) (hc_fn cc) (D.2 cc) H V) (hfin : hc_fin cc j = true → hc_ini mi = true ∧ hc_own mi = cc) (hn : narrow (hc_ty cc j) v = v) (hfit : fits (hc_ty cc j) v = true) (hd : decode (hc_b mi) pc = .ok (.putfield cp, 3))
    (kk : ∀ (H' : Heap) (x : Nat), H'.size = H.size → (∀ q : Nat, q ≠ B + k → H'[q]? = H[q]?) → t_OB (B + k) (D.1 cc) (hc_fn cc) (D.2 cc) H' (updV V j v) → W p l e R s m args below meth c H' (locs ++ [⟨B + k, x⟩]) cells slots Q (F0 m (pc + 3) sl rest)) : W p l e R s m args below meth c H locs cells slots Q (F0 m pc sl (v :: .ref (B + k) :: rest)) := by
  obtain ⟨hx, hb, hml, hown, hts, hK, -, -, -, hini⟩ := C
  obtain ⟨hlink, hjn, hc7⟩ := hc_flw _ (hc_find_mem hf)
  dsimp only at hlink hjn hc7
  obtain ⟨q1, q2, q3, q4, q5⟩ := hc_cls_ok hc7
  have hap := va_apart (own := hc_cn (hc_own mi)) hts q2 (hc_ty cc) q3 q4 hK q1
  obtain ⟨cell, o1, o2, o3, o4⟩ := hob
  obtain ⟨hS, hfc, kC, hkC, hkind⟩ := hK.1 cc _ q1
  obtain ⟨cf, kf, fi, f, hi, hsl⟩ := hS j hjn
  have hlay := hts _ (q2 _ (u_in_lay hjn))
  unfold u_lay at hlay
  have hst := (u_facts hfc hkC (u_lays hts q2 hjn) hi).1
  by_cases hfn : (hc_ft cc j).2.2.2 = true
  · rw [if_pos hfn] at hlay
    obtain ⟨g1, g2⟩ := hfin hfn
    have hcf : m.cls = cf := by
      obtain ⟨_, _, c', _, _, _, -, -, hf', -, -, -, hown2, -⟩ := Cond.laysFinal_spec hlay
      have e1 : c' = cf := by
        have := hi.symm.trans hf'
        simp at this
        exact this.1.symm
      rw [q5 j hjn, ← g2] at hown2
      rw [← e1]
      exact Option.some.inj (hown.symm.trans hown2)
    have h6 := u_fits hfc hkC hkind (Or.inr hlay) hi (q3 j hjn) hn hfit
    refine W.putFinK hx hb hown (hts _ hlink) hi hst hcf (hini g1) (by rw [o2]; exact h6) o1 o3 (by rw [hsl]; exact k2_hasslot (o4 j hjn)) rfl rfl hd fun H' e1 e2 e3 => ?_
    rw [hsl] at e1 ⊢
    exact kk H' _ e2 e3 ⟨_, e1, o2, o3, t_set o4 hap hjn v⟩
  · rw [if_neg hfn] at hlay
    have h6 := u_store hfc hkC hkind hlay hi (q3 j hjn) hn hfit
    refine W.putK hx hb (f := f) ⟨hown, hts _ hlink, ⟨_, _, _, hi⟩, hst⟩ (by rw [o2]; exact h6) o1 o3 (by rw [hsl]; exact k2_hasslot (o4 j hjn)) rfl rfl hd fun H' e1 e2 e3 => ?_
    rw [hsl] at e1 ⊢
    exact kk H' _ e2 e3 ⟨_, e1, o2, o3, t_set o4 hap hjn v⟩
/-- a row lies where its value says -/
theorem hc_row_at (hR : hc_Rel D cI cJ B b s G σ t H) {o : Option (Nat × Nat)} {r : hc_R} (h : hc_row σ t (.inr o) = some r) : ∃ a, hc_con B b G (.inr o) = .ref (B + a) ∧ H[B + a]? = some (hc_rc cI cJ r) := by
  obtain ⟨-, r1, r2, r3, -⟩ := hR
  rcases o with _ | ⟨k, j⟩
  · exact ⟨_, rfl, (r3 _ h).2⟩
  · refine ⟨_, rfl, (r2 k j r ?_).2⟩
    simp only [hc_row] at h
    split at h
    · rename_i c' fs hk
      split at h
      · rename_i hc
        split at h
        · rename_i r' hj
          cases h
          exact ⟨c', fs, hk, hc, hj⟩
        · cases h
      · cases h
    · cases h
theorem hc_row_scr (hR : hc_Rel D cI cJ B b s G σ t H) {v : hc_V} {r : hc_R} (h : hc_row σ t v = some r) : (∃ o, v = .inr o) ∨ (∃ x, v = .inl (.retAddr x) ∧ ∃ xs, r.2 = .inl xs ∧ va_X b r.1 xs s H) := by
  obtain ⟨-, -, -, -, -, -, -, r7⟩ := hR
  rcases v with v | o
  · right
    cases v <;> first | (cases h; done) | skip
    rename_i x
    refine ⟨x, rfl, r7 r ?_⟩
    simp only [hc_row] at h
    split at h
    · rename_i cc r' hk
      split at h
      · rename_i h99
        cases h
        rw [hk, h99]
      · cases h
    · cases h
  · exact Or.inl ⟨o, rfl⟩
theorem hc_in_of {i : Int32} {n : Nat} (h : hc_inB i n = true) : ¬ (i < 0 ∨ n ≤ i.toNatClampNeg) ∧ i.toNatClampNeg < n := by
  simp only [hc_inB, Bool.and_eq_true, decide_eq_true_eq] at h
  exact ⟨by rintro (q | q); exact h.1 q; omega, h.2⟩
theorem hc_w_iald (C : hc_C D cI cJ NW p R s m args meth c mi) (hR : hc_Rel D cI cJ B b s G σ t H) {i : Int32} {v : hc_V} {n : Nat} {f : Nat → Int32} (hv : hc_row σ t v = some (n, .inl f)) (hin : hc_inB i n = true) (hd : decode (hc_b mi) pc = .ok (.iaload, 1))
    (kk : W p l e R s m args below meth c H locs cells slots Q (F0 m (pc + 1) sl (.int (f i.toNatClampNeg) :: rest))) : W p l e R s m args below meth c H locs cells slots Q (F0 m pc sl (.int i :: hc_con B b G v :: rest)) := by
  obtain ⟨hx, hb, hml, hown, hts, hK, -⟩ := C
  obtain ⟨g1, g2⟩ := hc_in_of hin
  rcases hc_row_scr hR hv with ⟨o, rfl⟩ | ⟨x, rfl, xs, e1, scr, y1, y2, y3, y4, y5⟩
  · obtain ⟨a, ha, hc⟩ := hc_row_at hR hv
    rw [ha]
    refine va_iald (D := D) (cl := vwCl) (ws := [(B + a, .inl (cI, n, .inl f))]) hx hb hK (fun i q hq => ?_) 0 0 rfl rfl g1 hd kk
    have hz : i < 1 := (List.getElem?_eq_some_iff.mp hq).1
    rw [show i = 0 by omega] at hq
    cases hq
    exact hc
  · have e2 : f = xs := Sum.inl.inj e1
    rw [e2] at kk
    exact W.iald hx hb y1 y2 y3 (by rw [y4]; exact g1) (y5 _ g2) rfl rfl hd kk
theorem hc_w_lald (C : hc_C D cI cJ NW p R s m args meth c mi) (hR : hc_Rel D cI cJ B b s G σ t H) {i : Int32} {v : hc_V} {n : Nat} {f : Nat → Int64} (hv : hc_row σ t v = some (n, .inr f)) (hin : hc_inB i n = true) (hd : decode (hc_b mi) pc = .ok (.laload, 1))
    (kk : W p l e R s m args below meth c H locs cells slots Q (F0 m (pc + 1) sl (.long (f i.toNatClampNeg) :: rest))) : W p l e R s m args below meth c H locs cells slots Q (F0 m pc sl (.int i :: hc_con B b G v :: rest)) := by
  obtain ⟨hx, hb, hml, hown, hts, hK, -⟩ := C
  obtain ⟨g1, g2⟩ := hc_in_of hin
  rcases hc_row_scr hR hv with ⟨o, rfl⟩ | ⟨x, rfl, xs, e1, -⟩
  · obtain ⟨a, ha, hc⟩ := hc_row_at hR hv
    rw [ha]
    refine va_lald (D := D) (cl := vwCl) (ws := [(B + a, .inl (cJ, n, .inr (.inl f)))]) hx hb hK (fun i q hq => ?_) 0 1 rfl rfl g1 hd kk
    have hz : i < 1 := (List.getElem?_eq_some_iff.mp hq).1
    rw [show i = 0 by omega] at hq
    cases hq
    exact hc
  · cases e1
theorem hc_w_alen (C : hc_C D cI cJ NW p R s m args meth c mi) (hR : hc_Rel D cI cJ B b s G σ t H) {v : hc_V} {r : hc_R} (hv : hc_row σ t v = some r) (hd : decode (hc_b mi) pc = .ok (.arraylength, 1))
    (kk : W p l e R s m args below meth c H locs cells slots Q (F0 m (pc + 1) sl (.int (Int32.ofNat r.1) :: rest))) : W p l e R s m args below meth c H locs cells slots Q (F0 m pc sl (hc_con B b G v :: rest)) := by
  obtain ⟨hx, hb, hml, hown, hts, hK, -⟩ := C
  rcases hc_row_scr hR hv with ⟨o, rfl⟩ | ⟨x, rfl, xs, e1, scr, y1, y2, y3, y4, y5⟩
  · obtain ⟨a, ha, hc⟩ := hc_row_at hR hv
    rw [ha]
    obtain ⟨n, f | f⟩ := r
    · exact W.alen (n := Int32.ofNat n) hx hb hc ((hK.2 0 _ rfl).1 n (fun j => .int (f j))) (by simp only [hc_rc]; rw [vp_cell_i, arrV_size] <;> rfl) rfl rfl hd kk
    · exact W.alen (n := Int32.ofNat n) hx hb hc ((hK.2 1 _ rfl).1 n (fun j => .long (f j))) (by simp only [hc_rc]; rw [vp_cell_l, arrV_size] <;> rfl) rfl rfl hd kk
  · exact W.alen (n := Int32.ofNat r.1) hx hb y1 y2 (by rw [y4] <;> rfl) rfl rfl hd kk
theorem hc_w_iast (C : hc_C D cI cJ NW p R s m args meth c mi) {i x : Int32} {a n : Nat} {f : Nat → Int32} (hc : H[B + a]? = some (hc_rc cI cJ (n, .inl f))) (hin : hc_inB i n = true) (hd : decode (hc_b mi) pc = .ok (.iastore, 1))
    (kk : ∀ (H' : Heap) (y : Nat), H'.size = H.size → (∀ q : Nat, q ≠ B + a → H'[q]? = H[q]?) → H'[B + a]? = some (hc_rc cI cJ (n, .inl (upd f i.toNatClampNeg x))) → W p l e R s m args below meth c H' (locs ++ [⟨B + a, y⟩]) cells slots Q (F0 m (pc + 1) sl rest)) : W p l e R s m args below meth c H locs cells slots Q (F0 m pc sl (.int x :: .int i :: .ref (B + a) :: rest)) := by
  obtain ⟨hx, hb, hml, hown, hts, hK, -⟩ := C
  obtain ⟨g1, g2⟩ := hc_in_of hin
  refine W.iast hx hb hc ((hK.2 0 _ rfl).1 n (fun j => .int (f j))) (fun q => by cases q) (by show ¬ (i < 0 ∨ (arrV _ _ _).slots.size ≤ _); rw [arrV_size]; exact g1) rfl rfl hd fun H1 e1 e2 e3 => kk H1 _ e2 e3 ?_
  rw [e1]
  simp only [hc_rc]
  rw [vp_cell_i, vp_cell_i, arrV_store]
  congr 2
  funext q
  by_cases hq : q = i.toNatClampNeg
  · subst hq
    simp [updV, upd]
  · simp [updV, upd, hq]
theorem hc_w_last (C : hc_C D cI cJ NW p R s m args meth c mi) {i : Int32} {x : Int64} {a n : Nat} {f : Nat → Int64} (hc : H[B + a]? = some (hc_rc cI cJ (n, .inr f))) (hin : hc_inB i n = true) (hd : decode (hc_b mi) pc = .ok (.lastore, 1))
    (kk : ∀ (H' : Heap) (y : Nat), H'.size = H.size → (∀ q : Nat, q ≠ B + a → H'[q]? = H[q]?) → H'[B + a]? = some (hc_rc cI cJ (n, .inr (vp_updL f i.toNatClampNeg x))) → W p l e R s m args below meth c H' (locs ++ [⟨B + a, y⟩]) cells slots Q (F0 m (pc + 1) sl rest)) : W p l e R s m args below meth c H locs cells slots Q (F0 m pc sl (.long x :: .int i :: .ref (B + a) :: rest)) := by
  obtain ⟨hx, hb, hml, hown, hts, hK, -⟩ := C
  obtain ⟨g1, g2⟩ := hc_in_of hin
  refine W.last hx hb hc ((hK.2 1 _ rfl).1 n (fun j => .long (f j))) (fun q => by cases q) (by show ¬ (i < 0 ∨ (arrV _ _ _).slots.size ≤ _); rw [arrV_size]; exact g1) rfl rfl hd fun H1 e1 e2 e3 => kk H1 _ e2 e3 ?_
  rw [e1]
  simp only [hc_rc]
  rw [vp_cell_l, vp_cell_l, arrV_store]
  congr 2
  funext q
  by_cases hq : q = i.toNatClampNeg
  · subst hq
    simp [updV, vp_updL]
  · simp [updV, vp_updL, hq]
theorem hc_w_newi (C : hc_C D cI cJ NW p R s m args meth c mi) {n : Int32} (hn : ¬ n < 0) (hb2 : n.toNatClampNeg ≤ 60000000) (hcells : cells + 1 ≤ R.cells) (hslots : slots + n.toNatClampNeg ≤ R.slots) (hd : decode (hc_b mi) pc = .ok (.newarray .int, 2))
    (kk : ∀ (H' : Heap), H'.size = H.size + 1 → (∀ q : Nat, q < H.size → H'[q]? = H[q]?) → H'[H.size]? = some (hc_rc cI cJ (n.toNatClampNeg, .inl fun _ => 0)) → W p l e R s m args below meth c H' locs (cells + 1) (slots + n.toNatClampNeg) Q (F0 m (pc + 2) sl (.ref H.size :: rest))) : W p l e R s m args below meth c H locs cells slots Q (F0 m pc sl (.int n :: rest)) := by
  obtain ⟨hx, hb, hml, hown, hts, hK, -⟩ := C
  refine va_newaK (atype := .int) hx hb (hts _ hc_arw.1) rfl hd rfl hn rfl (by simp only [newarray.typeOf, componentBytes]; omega) hcells hslots rfl fun H1 cA e1 e2 e3 e4 e5 => kk H1 e2 e3 ?_
  have h2 : s.vm.findClass ("[" ++ FieldType.int.toString) = some cI := (hK.2 0 _ rfl).2
  rw [show newarray.typeOf .int = FieldType.int from rfl, h2] at e5
  cases e5
  exact e1
theorem hc_w_newl (C : hc_C D cI cJ NW p R s m args meth c mi) {n : Int32} (hn : ¬ n < 0) (hb2 : n.toNatClampNeg ≤ 60000000) (hcells : cells + 1 ≤ R.cells) (hslots : slots + n.toNatClampNeg ≤ R.slots) (hd : decode (hc_b mi) pc = .ok (.newarray .long, 2))
    (kk : ∀ (H' : Heap), H'.size = H.size + 1 → (∀ q : Nat, q < H.size → H'[q]? = H[q]?) → H'[H.size]? = some (hc_rc cI cJ (n.toNatClampNeg, .inr fun _ => 0)) → W p l e R s m args below meth c H' locs (cells + 1) (slots + n.toNatClampNeg) Q (F0 m (pc + 2) sl (.ref H.size :: rest))) : W p l e R s m args below meth c H locs cells slots Q (F0 m pc sl (.int n :: rest)) := by
  obtain ⟨hx, hb, hml, hown, hts, hK, -⟩ := C
  refine va_newaK (atype := .long) hx hb (hts _ hc_arw.2) rfl hd rfl hn rfl (by simp only [newarray.typeOf, componentBytes]; omega) hcells hslots rfl fun H1 cA e1 e2 e3 e4 e5 => kk H1 e2 e3 ?_
  have h2 : s.vm.findClass ("[" ++ FieldType.long.toString) = some cJ := (hK.2 1 _ rfl).2
  rw [show newarray.typeOf .long = FieldType.long from rfl, h2] at e5
  cases e5
  exact e1
theorem hc_w_new (C : hc_C D cI cJ NW p R s m args meth c mi) {cp cc : Nat} (hf : hc_cls (hc_own mi) cp = some cc) (hcells : cells + 1 ≤ R.cells) (hslots : slots + hc_fn cc ≤ R.slots) (hd : decode (hc_b mi) pc = .ok (.new cp, 3))
    (kk : ∀ (H' : Heap), H'.size = H.size + 1 → (∀ q : Nat, q < H.size → H'[q]? = H[q]?) → t_OB H.size (D.1 cc) (hc_fn cc) (D.2 cc) H' (fun j => defaultValue (hc_ty cc j)) → W p l e R s m args below meth c H' locs (cells + 1) (slots + hc_fn cc) Q (F0 m (pc + 3) sl (.ref H.size :: rest))) : W p l e R s m args below meth c H locs cells slots Q (F0 m pc sl rest) := by
  obtain ⟨hx, hb, hml, hown, hts, hK, -⟩ := C
  obtain ⟨w1, w2, w3, hc7⟩ := hc_clw _ (hc_find_mem hf)
  dsimp only at w1 w2 w3 hc7
  obtain ⟨q1, q2, q3, q4, q5⟩ := hc_cls_ok hc7
  have hKn := hK.1 cc _ q1
  refine W.newcK hx hb hown (hts _ w1) (hts _ w2) (hts _ w3) rfl hd hcells hslots hKn.2.1 rfl fun H1 kC hkC e1 z1 o1 => ?_
  exact kk H1 z1 o1 (u_born (hc_ty cc) hts q2 hKn hkC e1 q3)
end HCH
