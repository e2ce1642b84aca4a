/-! THE SMALL MACHINE IS SOUND -/
theorem hc_hep_len {mi w : Nat} {G G' : hc_G} {σ σ' : hc_H} {t t' : hc_T} {ls ls' : hc_L} {st st' : List hc_V} {i : Instr} (h : hc_hep mi G σ t ls st i w = some (G', σ', t', ls', st')) : ls'.length = ls.length := by
  unfold hc_hep at h
  split at h <;> (try (split at h)) <;> (try (split at h)) <;> (try (split at h)) <;> (try (split at h)) <;> first | (cases h; done) | (cases h; rfl) | (cases h; exact hc_kp_len _)
def hc_le (G G' : hc_G) : Prop := G.2.1 ≤ G'.2.1 ∧ G.2.2.1 ≤ G'.2.2.1 ∧ G.1 ≤ G'.1 ∧ (G'.1 = G.1 → G'.2.2.2 = G.2.2.2)
theorem hc_le.rf (G : hc_G) : hc_le G G := ⟨Nat.le_refl _, Nat.le_refl _, Nat.le_refl _, fun _ => rfl⟩
theorem hc_le.tr {G1 G2 G3 : hc_G} (h : hc_le G1 G2) (h2 : hc_le G2 G3) : hc_le G1 G3 := by
  obtain ⟨a1, a2, a3, a4⟩ := h
  obtain ⟨b1, b2, b3, b4⟩ := h2
  exact ⟨by omega, by omega, by omega, fun e => (b4 (by omega)).trans (a4 (by omega))⟩
theorem hc_le.gA (G : hc_G) (n : Nat) : hc_le G (hc_gA G n) := ⟨Nat.le_succ _, Nat.le_add_right _ _, Nat.le_succ _, fun e => by have : G.1 + 1 = G.1 := e; omega⟩
theorem hc_le.gO (G : hc_G) (n : Nat) : hc_le G (hc_gO G n) := ⟨Nat.le_succ _, Nat.le_add_right _ _, Nat.le_refl _, fun _ => rfl⟩
theorem hc_le.gM (G : hc_G) (k j : Nat) : hc_le G (hc_gM G k j) := ⟨Nat.le_refl _, Nat.le_refl _, Nat.le_succ _, fun e => by have : G.1 + 1 = G.1 := e; omega⟩
theorem hc_hep_mono {mi w : Nat} {G G' : hc_G} {σ σ' : hc_H} {t t' : hc_T} {ls ls' : hc_L} {st st' : List hc_V} {i : Instr} (h : hc_hep mi G σ t ls st i w = some (G', σ', t', ls', st')) : hc_le G G' := by
  unfold hc_hep at h
  split at h <;> (try (split at h)) <;> (try (split at h)) <;> (try (split at h)) <;> (try (split at h)) <;> first | (cases h; done) | (cases h; exact hc_le.rf _) | (cases h; exact hc_le.gA _ _) | (cases h; exact hc_le.gO _ _) | (cases h; exact hc_le.gM _ _ _)
theorem hc_ex_mono : ∀ (n : Nat) {mi pc : Nat} {G G' : hc_G} {σ σ' : hc_H} {t t' : hc_T} {ls : hc_L} {st : List hc_V} {r : Option hc_V}, hc_ex n G σ t mi pc ls st = some (G', σ', t', r) → hc_le G G' := by
  intro n
  induction n with
  | zero =>
    intro mi pc G G' σ σ' t t' ls st r h
    cases h
  | succ n ih =>
    intro mi pc G G' σ σ' t t' ls st r h
    simp only [hc_ex] at h
    split at h
    · split at h
      · exact ih h
      · split at h
        · rename_i hh
          exact (hc_hep_mono hh).tr (ih h)
        · split at h
          · cases h
            exact hc_le.rf _
          · split at h
            · split at h
              · rename_i h1
                split at h
                · exact (ih h1).tr (ih h)
                · split at h
                  · exact (ih h1).tr (ih h)
                  · cases h
              · cases h
            · cases h
    · cases h
theorem hc_met_of {l : Launch} {y : MethodName} {ws ws' : List Cond} {rm : Room} {Pc : Array Value → State → Prop} {Qc : Array Value → State → Outcome → State → Prop} {mc ms : Nat} {free : Addr → Prop} {cc : ByteArray} {maxL : Nat} {ret : Option FieldType}
    (hy : plainFor y = true) (hw : ws = Cond.code y cc maxL ret :: ws')
    (body : ∀ p e s m args below meth c s₁, BodyLoose p l y (headSpec ws rm) cc maxL ret e s m args below meth c s₁ → c.maxLocals = maxL → Pc args s →
      W p l e (headSpec ws rm).room s m args below meth c s.heap [] 0 0 (MQ below Qc args s mc ms free) (entryFrame m args maxL)) : Met l y ws rm Pc Qc mc ms free := by
  refine MetFree.of_bodySF (code := cc) (maxLocals := maxL) (ret := ret) hy ?_ ?_
  · intro args s m h hn
    obtain ⟨meth, c, h1, h2, h3, h4, h5, h6, -, -⟩ := Cond.code_spec hn (atoms_spec (ws := ws) h _ (by rw [hw]; exact List.mem_cons_self))
    exact ⟨meth, c, h1, h2, h3, h4, h5, h6⟩
  · intro p e s m args below meth c s₁ B hml hP _
    have hh0 : s₁.heap = s.heap := by rw [B.state]; rfl
    obtain ⟨t, a1, o, b1, b2, b3⟩ := body p e s m args below meth c s₁ B hml hP s₁ hh0 (Stand.of_body B)
    exact ⟨t, o, a1, b1, b2, ⟨b3.1, b3.2⟩⟩
theorem hc_ent_mem {B b : Nat} {G : hc_G} : ∀ (vs : List hc_V) (off i : Nat) (v : hc_V), (hc_ent vs)[i]? = some (some v) → (off + i, hc_con B b G v) ∈ lv_args off (vs.map (hc_con B b G)) := by
  intro vs
  induction vs with
  | nil =>
    intro off i v h
    simp [hc_ent] at h
  | cons w vs ih =>
    intro off i v h
    simp only [hc_ent] at h
    simp only [List.map_cons, lv_args]
    cases i with
    | zero =>
      rw [List.getElem?_cons_zero] at h
      cases h
      exact List.mem_cons_self
    | succ i =>
      rw [List.getElem?_cons_succ] at h
      refine List.mem_cons_of_mem _ ?_
      by_cases h2 : hc_two w = true
      · rw [if_pos h2] at h
        rw [if_pos ((hc_con_cat B b G w).mpr h2)]
        cases i with
        | zero =>
          rw [List.getElem?_cons_zero] at h
          cases h
        | succ i =>
          rw [List.getElem?_cons_succ] at h
          have := ih (off + 2) i v h
          rw [show off + (i + 1 + 1) = off + 2 + i by omega]
          exact this
      · rw [if_neg h2] at h
        rw [if_neg (fun z => h2 ((hc_con_cat B b G w).mp z))]
        have := ih (off + 1) i v h
        rw [show off + (i + 1) = off + 1 + i by omega]
        exact this
theorem hc_ent_len (B b : Nat) (G : hc_G) (vs : List hc_V) : (lg_sl (vs.map (hc_con B b G))).length = (hc_ent vs).length := by
  induction vs with
  | nil => rfl
  | cons w vs ih =>
    have e : lg_sl ((w :: vs).map (hc_con B b G)) = lg_sl [hc_con B b G w] ++ lg_sl (vs.map (hc_con B b G)) := by
      simp [lg_sl]
    rw [e, List.length_append, ih]
    simp only [hc_ent]
    by_cases h2 : hc_two w = true
    · have := (hc_con_cat B b G w).mpr h2
      simp [lg_sl, this, h2]
      omega
    · have : ¬ (hc_con B b G w).category = 2 := fun z => h2 ((hc_con_cat B b G w).mp z)
      simp [lg_sl, this, h2]
      omega
theorem hc_pad_len {n : Nat} {l : hc_L} (h : l.length ≤ n) : (hc_pad n l).length = n := by
  simp [hc_pad]
  omega
theorem hc_pad_get {n i : Nat} {l : hc_L} {v : hc_V} (h : (hc_pad n l)[i]? = some (some v)) : l[i]? = some (some v) := by
  unfold hc_pad at h
  by_cases hi : i < l.length
  · rw [List.getElem?_append_left hi] at h
    exact h
  · rw [List.getElem?_append_right (by omega)] at h
    have := List.eq_of_mem_replicate (List.mem_of_getElem? h)
    cases this
theorem hc_LR_entry (B b : Nat) (G : hc_G) (vs : List hc_V) {n : Nat} (h : (hc_ent vs).length ≤ n) : hc_LR B b G (hc_pad n (hc_ent vs)) (lg_sl (vs.map (hc_con B b G)) ++ List.replicate (n - (lg_sl (vs.map (hc_con B b G))).length) Slot.unset).toArray := by
  have h1 := lv_entry (vs.map (hc_con B b G)) (n := n) (by rw [hc_ent_len]; exact h)
  refine ⟨by rw [hc_pad_len h]; exact h1.1, h1.2.1, fun i v hi => ?_⟩
  have := hc_ent_mem (B := B) (b := b) (G := G) vs 0 i v (hc_pad_get hi)
  rw [Nat.zero_add] at this
  exact h1.2.2 _ this
/-- what a frame of the small machine means on the large one, for runs of at most n steps -/
def hc_Sound (n : Nat) : Prop := ∀ {mi pc : Nat} {ls : hc_L} {st : List hc_V} {G G' : hc_G} {σ σ' : hc_H} {t t' : hc_T} {r : Option hc_V}, hc_ex n G σ t mi pc ls st = some (G', σ', t', r) → ls.length = hc_mx mi →
  ∀ {D : va_G} {cI cJ : ClassId} {B b : Nat} {p : Program} {l : Launch} {e : Env} {R : Room} {s : State} {m : MethodId} {args : Array Value} {below : List Frame} {meth : Method} {c : Code} {H : Heap} {locs : List Loc} {Q : State → Prop} {sl : Array Slot} {n0 s0 : Nat},
    hc_C D cI cJ hc_NW p R s m args meth c mi → hc_Rel D cI cJ B b s G σ t H → hc_LR B b G ls sl → (∀ q ∈ locs, B ≤ q.base) → n0 ≤ G.2.1 → s0 ≤ G.2.2.1 → G'.2.1 - n0 ≤ R.cells → G'.2.2.1 - s0 ≤ R.slots →
    (∀ (pc1 w : Nat) (i : Instr) (st1 : List hc_V) (sl1 : Array Slot) (H1 : Heap) (locs1 : List Loc), decode (hc_b mi) pc1 = .ok (i, w) → hc_rtn mi st1 i w = some r → hc_Rel D cI cJ B b s G' σ' t' H1 → (∀ q ∈ locs1, B ≤ q.base) → W p l e R s m args below meth c H1 locs1 (G'.2.1 - n0) (G'.2.2.1 - s0) Q (F0 m pc1 sl1 (st1.map (hc_con B b G')))) →
    W p l e R s m args below meth c H locs (G.2.1 - n0) (G.2.2.1 - s0) Q (F0 m pc sl (st.map (hc_con B b G)))
def hc_Pc (D : va_G) (cI cJ : ClassId) (B b : Nat) (G : hc_G) (σ : hc_H) (t : hc_T) (vs : List hc_V) : Array Value → State → Prop := fun a U => a = (vs.map (hc_con B b G)).toArray ∧ hc_Rel D cI cJ B b U G σ t U.heap ∧ va_K D vwCl [(cI, .int), (cJ, .long)] U ∧ ∀ w ∈ hc_NW, va_Nw w U
def hc_Qc (D : va_G) (cI cJ : ClassId) (B b : Nat) (G : hc_G) (σ : hc_H) (t : hc_T) (r : Option hc_V) : Array Value → State → Outcome → State → Prop := fun _ _ o u => o = .returned (r.map (hc_con B b G)) ∧ hc_Rel D cI cJ B b u G σ t u.heap
theorem hc_nw_form {w : Cond} (h : w ∈ hc_NW) : ∃ a i x q, w = .methodLinkNest a i x q := by
  simp only [hc_NW, List.mem_cons, List.not_mem_nil, or_false] at h
  rcases h with h | h | h | h | h | h | h | h <;> exact ⟨_, _, _, _, h⟩
theorem hc_Pc_blind {D : va_G} {cI cJ : ClassId} {B b : Nat} {G : hc_G} {σ : hc_H} {t : hc_T} {vs : List hc_V} : FrameBlind (hc_Pc D cI cJ B b G σ t vs) := by
  intro a U g mk q
  obtain ⟨q0, q1, q2, q3⟩ := q
  refine ⟨q0, hc_Rel.moved (U := U) (U' := U.calling g mk a) (Vm.Alike.refl U.vm) q1, va_K.moved (u := U) (U := U.calling g mk a) (Vm.Alike.refl U.vm) q2, fun w hw => ?_⟩
  obtain ⟨x1, x2, x3, x4, rfl⟩ := hc_nw_form hw
  exact va_Nw.same (u := U) (U := U.calling g mk a) rfl rfl (q3 _ hw)
set_option maxHeartbeats 4000000 in
theorem hc_met_sound {n : Nat} (ih : hc_Sound n) (l : Launch) {m2 : Nat} {vs : List hc_V} {G G' : hc_G} {σ σ' : hc_H} {t t' : hc_T} {r : Option hc_V} (D : va_G) (cI cJ : ClassId) (B b : Nat) (hP : hc_Pm m2) (hex : hc_ex n G σ t m2 0 (hc_pad (hc_mx m2) (hc_ent vs)) [] = some (G', σ', t', r)) (hlen : (hc_ent vs).length ≤ hc_mx m2) :
    Met l (hc_y m2) (Cond.code (hc_y m2) (hc_b m2) (hc_mx m2) (hc_rty m2) :: hc_ALL) ({ frames := hc_dp m2, cells := G'.2.1 - G.2.1, slots := G'.2.2.1 - G.2.2.1, locals := hc_ln m2 } : Room) (hc_Pc D cI cJ B b G σ t vs) (hc_Qc D cI cJ B b G' σ' t' r) (G'.2.1 - G.2.1) (G'.2.2.1 - G.2.2.1) (fun q => B ≤ q) := by
  obtain ⟨p1, p2, p3, p4, p5, p6, p7, p8, p9, p10⟩ := hP
  refine hc_met_of (cc := hc_b m2) (maxL := hc_mx m2) (ret := hc_rty m2) p5 rfl ?_
  intro p e s m args below meth c s₁ Bd hml hv
  obtain ⟨rfl, hR, hK, hN⟩ := hv
  have hts := atoms_spec (ws := Cond.code (hc_y m2) (hc_b m2) (hc_mx m2) (hc_rty m2) :: hc_ALL) Bd.pre
  have hown : s.vm.findClass (hc_y m2).cls = some m.cls := findClass_of_methodNamed Bd.named
  rw [p6] at hown
  have hr := Bd.returns
  have hlocks := Bd.notSynchronized
  rw [lg_entry_eq]
  have hC : hc_C D cI cJ hc_NW p (headSpec (Cond.code (hc_y m2) (hc_b m2) (hc_mx m2) (hc_rty m2) :: hc_ALL) ({ frames := hc_dp m2, cells := G'.2.1 - G.2.1, slots := G'.2.2.1 - G.2.2.1, locals := hc_ln m2 } : Room)).room s m (vs.map (hc_con B b G)).toArray meth c m2 := by
    refine ⟨Bd.exec, Bd.bytes, hml, hown, fun w hw => hts w (List.mem_cons_of_mem _ hw), hK, hN, Nat.le_refl _, Nat.le_refl _, fun hi => ?_⟩
    have h1 : hc_md m2 = 1 := by simpa [hc_ini] using hi
    rw [(name_of_methodNamed Bd.named Bd.method).1]
    exact (p10 h1).1
  have K := ih hex (hc_pad_len hlen) (n0 := G.2.1) (s0 := G.2.2.1) (locs := []) (l := l) (e := e) (below := below) (Q := MQ below (hc_Qc D cI cJ B b G' σ' t' r) (vs.map (hc_con B b G)).toArray s (G'.2.1 - G.2.1) (G'.2.2.1 - G.2.2.1) (fun q => B ≤ q)) hC hR (hc_LR_entry B b G vs hlen) (fun _ h => by cases h) (Nat.le_refl _) (Nat.le_refl _) (Nat.le_refl _) (Nat.le_refl _) ?_
  · rw [Nat.sub_self, Nat.sub_self] at K
    exact K
  · intro pc1 w i st1 sl1 H1 locs1 hd hrt hR1 hlo
    have hq : ∀ (o : Outcome), o = .returned (r.map (hc_con B b G')) → ∀ u : State, u.heap = H1 → s.WarmedH u.vm → hc_Qc D cI cJ B b G' σ' t' r (vs.map (hc_con B b G)).toArray s o u := fun o ho u hu hW => ⟨ho, by rw [hu]; exact hR1.moved hW.alike⟩
    unfold hc_rtn at hrt
    split at hrt
    · rename_i v
      split at hrt
      · rename_i hty
        cases hrt
        exact W.zret Bd.exec Bd.bytes (hr.trans hty) rfl (hq _ rfl) hlo hd
      · rename_i hty
        split at hrt
        · rename_i hv
          cases hrt
          refine W.zret Bd.exec Bd.bytes (hr.trans hty) ?_ (hq _ rfl) hlo hd
          rcases hv with rfl | rfl <;> decide +kernel
        · cases hrt
      · cases hrt
    · rename_i v
      split at hrt
      · rename_i hty
        cases hrt
        exact W.lret Bd.exec Bd.bytes (hr.trans hty) (hq _ rfl) hlo hd
      · cases hrt
    · rename_i q
      split at hrt
      · rename_i ty hty
        cases hrt
        obtain ⟨a, ha⟩ : ∃ a, hc_con B b G' (.inr q) = .ref a := by
          rcases q with _ | ⟨k, j⟩ <;> exact ⟨_, rfl⟩
        rw [List.map_cons, List.map_nil, ha]
        exact W.aret Bd.exec Bd.bytes (hr.trans hty) (Or.inr ⟨_, rfl⟩) (Or.inr ⟨a, rfl⟩) (hq _ (by rw [Option.map_some, ha])) hlo hd
      · cases hrt
    · split at hrt
      · rename_i hty
        cases hrt
        exact W.vret Bd.exec Bd.bytes (hr.trans hty) (hq _ rfl) hlo hd
      · cases hrt
    · cases hrt
