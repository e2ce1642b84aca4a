/-! THE SMALL HEAP IN THE LARGE ONE -/
def hc_vof (B b : Nat) (G : hc_G) (k : Nat) (fs : List hc_F) (j : Nat) : Value := match fs[j]? with
  | some f => hc_con B b G (hc_fv k j f)
  | none => .null
def hc_rc (cI cJ : ClassId) (r : hc_R) : Cell := match r.2 with
  | .inl f => vp_cell cI (r.1, .inl f)
  | .inr f => vp_cell cJ (r.1, .inr (.inl f))
def hc_liv (σ : hc_H) (k j : Nat) (r : hc_R) : Prop := ∃ c fs, σ k = some (c, fs) ∧ c < 99 ∧ fs[j]? = some (.inr r)
def hc_olv (σ : hc_H) (k : Nat) : Prop := ∃ c fs, σ k = some (c, fs) ∧ c < 99
/-- the objects; the fields' arrays; the new array; all apart; the script -/
def hc_Rel (D : va_G) (cI cJ : ClassId) (B b : Nat) (U : State) (G : hc_G) (σ : hc_H) (t : hc_T) (H : Heap) : Prop :=
  (H.size = B + G.2.1 ∧ b < B) ∧
  (∀ k c fs, σ k = some (c, fs) → c < 99 → c < 7 ∧ k < G.2.1 ∧ fs.length = hc_fn c ∧ t_OB (B + k) (D.1 c) (hc_fn c) (D.2 c) H (hc_vof B b G k fs)) ∧
  (∀ k j r, hc_liv σ k j r → G.2.2.2.2 k j < G.2.1 ∧ H[B + G.2.2.2.2 k j]? = some (hc_rc cI cJ r)) ∧
  (∀ r, t = some r → G.2.2.2.1 < G.2.1 ∧ H[B + G.2.2.2.1]? = some (hc_rc cI cJ r)) ∧
  (∀ k j r k', hc_liv σ k j r → hc_olv σ k' → G.2.2.2.2 k j ≠ k') ∧
  (∀ k j r k' j' r', hc_liv σ k j r → hc_liv σ k' j' r' → G.2.2.2.2 k j = G.2.2.2.2 k' j' → k = k' ∧ j = j') ∧
  (∀ r, t = some r → (∀ k, hc_olv σ k → G.2.2.2.1 ≠ k) ∧ ∀ k j r', hc_liv σ k j r' → G.2.2.2.2 k j ≠ G.2.2.2.1) ∧
  (∀ r, σ 1000 = some (99, [.inr r]) → ∃ xs, r.2 = .inl xs ∧ va_X b r.1 xs U H)
theorem hc_set_at (σ : hc_H) (k : Nat) (o : hc_O) : hc_set σ k o k = some o := by simp [hc_set]
theorem hc_set_ne (σ : hc_H) {k k' : Nat} (o : hc_O) (h : k' ≠ k) : hc_set σ k o k' = σ k' := by simp [hc_set, h]
theorem hc_olv_set {σ : hc_H} {k c : Nat} {fs fs' : List hc_F} (h : σ k = some (c, fs)) (hc : c < 99) {k' : Nat} : hc_olv (hc_set σ k (c, fs')) k' ↔ hc_olv σ k' := by
  by_cases e : k' = k
  · subst e
    exact ⟨fun _ => ⟨c, fs, h, hc⟩, fun _ => ⟨c, fs', hc_set_at _ _ _, hc⟩⟩
  · unfold hc_olv
    rw [hc_set_ne _ _ e]
theorem hc_liv_set {σ : hc_H} {k c j : Nat} {fs : List hc_F} {f : hc_F} (h : σ k = some (c, fs)) (hc : c < 99) (hj : j < fs.length) {k' j' : Nat} {r : hc_R} : hc_liv (hc_set σ k (c, fs.set j f)) k' j' r ↔ (k' = k ∧ j' = j ∧ f = .inr r) ∨ (¬ (k' = k ∧ j' = j) ∧ hc_liv σ k' j' r) := by
  by_cases e : k' = k
  · subst e
    by_cases e2 : j' = j
    · subst e2
      constructor
      · rintro ⟨c2, f2, h1, h2, h3⟩
        rw [hc_set_at] at h1
        cases h1
        rw [List.getElem?_set_self hj] at h3
        exact Or.inl ⟨rfl, rfl, Option.some.inj h3⟩
      · rintro (⟨-, -, h3⟩ | ⟨h3, -⟩)
        · exact ⟨c, _, hc_set_at _ _ _, hc, by rw [List.getElem?_set_self hj, h3]⟩
        · exact absurd ⟨rfl, rfl⟩ h3
    · constructor
      · rintro ⟨c2, f2, h1, h2, h3⟩
        rw [hc_set_at] at h1
        cases h1
        rw [List.getElem?_set_ne (Ne.symm e2)] at h3
        exact Or.inr ⟨fun z => e2 z.2, c, fs, h, hc, h3⟩
      · rintro (⟨-, h3, -⟩ | ⟨-, c2, f2, h1, h2, h3⟩)
        · exact absurd h3 e2
        · rw [h] at h1
          cases h1
          exact ⟨c, _, hc_set_at _ _ _, hc, by rw [List.getElem?_set_ne (Ne.symm e2)]; exact h3⟩
  · constructor
    · rintro ⟨c2, f2, h1, h2, h3⟩
      rw [hc_set_ne _ _ e] at h1
      exact Or.inr ⟨fun z => e z.1, c2, f2, h1, h2, h3⟩
    · rintro (⟨h3, -, -⟩ | ⟨-, c2, f2, h1, h2, h3⟩)
      · exact absurd h3 e
      · exact ⟨c2, f2, by rw [hc_set_ne _ _ e]; exact h1, h2, h3⟩
theorem hc_vof_set {B b : Nat} {G : hc_G} {k j : Nat} {fs : List hc_F} {f : hc_F} (hj : j < fs.length) (i : Nat) : hc_vof B b G k (fs.set j f) i = if i = j then hc_con B b G (hc_fv k j f) else hc_vof B b G k fs i := by
  unfold hc_vof
  by_cases e : i = j
  · subst e
    rw [List.getElem?_set_self hj, if_pos rfl]
  · rw [List.getElem?_set_ne (Ne.symm e), if_neg e]
theorem hc_script_set {σ : hc_H} {k c : Nat} {fs : List hc_F} (hc : c < 99) {r : hc_R} (h : hc_set σ k (c, fs) 1000 = some (99, [.inr r])) : σ 1000 = some (99, [.inr r]) := by
  by_cases e : 1000 = k
  · subst e
    rw [hc_set_at] at h
    cases h
    omega
  · rw [hc_set_ne _ _ e] at h
    exact h
section HREL
variable {D : va_G} {cI cJ : ClassId} {B b : Nat} {U : State} {G : hc_G} {σ : hc_H} {t : hc_T} {H H' : Heap}
/-- a value that is no array goes into a field -/
theorem hc_Rel.put (h : hc_Rel D cI cJ B b U G σ t H) {k c j : Nat} {fs : List hc_F} {v0 v : Value} (hk : σ k = some (c, fs)) (hc : c < 99) (hj : fs[j]? = some (.inl v0)) (hz : H'.size = H.size) (ho : ∀ q : Nat, q ≠ B + k → H'[q]? = H[q]?)
    (hn : t_OB (B + k) (D.1 c) (hc_fn c) (D.2 c) H' (updV (hc_vof B b G k fs) j (hc_con B b G (.inl v)))) : hc_Rel D cI cJ B b U G (hc_set σ k (c, fs.set j (.inl v))) t H' := by
  obtain ⟨⟨r0, r0'⟩, r1, r2, r3, r4, r5, r6, r7⟩ := h
  have hl : j < fs.length := (List.getElem?_eq_some_iff.mp hj).1
  have lv : ∀ {k' j' : Nat} {r : hc_R}, hc_liv (hc_set σ k (c, fs.set j (.inl v))) k' j' r → hc_liv σ k' j' r := by
    intro k' j' r q
    rcases (hc_liv_set hk hc hl).mp q with ⟨-, -, q⟩ | ⟨-, q⟩
    · cases q
    · exact q
  have ok : hc_olv σ k := ⟨c, fs, hk, hc⟩
  refine ⟨⟨by rw [hz]; exact r0, r0'⟩, fun k' c' fs' h1 h2 => ?_, fun k' j' r q => ?_, fun r q => ?_, fun k' j' r k2 q q2 => r4 k' j' r k2 (lv q) ((hc_olv_set hk hc).mp q2), fun k' j' r k2 j2 r2' q q2 => r5 _ _ _ _ _ _ (lv q) (lv q2), fun r q => ⟨fun k' q2 => (r6 r q).1 k' ((hc_olv_set hk hc).mp q2), fun k' j' r' q2 => (r6 r q).2 k' j' r' (lv q2)⟩, fun r q => ?_⟩
  · by_cases e : k' = k
    · subst e
      rw [hc_set_at] at h1
      cases h1
      obtain ⟨a1, a2, a3, -⟩ := r1 k' _ _ hk hc
      refine ⟨a1, a2, by rw [List.length_set]; exact a3, hn.to fun i _ => ?_⟩
      rw [hc_vof_set hl]
      rfl
    · rw [hc_set_ne _ _ e] at h1
      obtain ⟨a1, a2, a3, a4⟩ := r1 k' _ _ h1 h2
      exact ⟨a1, a2, a3, a4.kept (ho _ (by omega))⟩
  · obtain ⟨a1, a2⟩ := r2 _ _ _ (lv q)
    have := r4 _ _ _ _ (lv q) ok
    exact ⟨a1, by rw [ho _ (by omega)]; exact a2⟩
  · obtain ⟨a1, a2⟩ := r3 _ q
    have := (r6 _ q).1 _ ok
    exact ⟨a1, by rw [ho _ (by omega)]; exact a2⟩
  · obtain ⟨xs, q1, q2⟩ := r7 r (hc_script_set hc q)
    exact ⟨xs, q1, q2.kept (ho _ (by omega))⟩
/-- an array that lies in a field is written -/
theorem hc_Rel.ast (h : hc_Rel D cI cJ B b U G σ t H) {k c j : Nat} {fs : List hc_F} {r0 r1 : hc_R} (hk : σ k = some (c, fs)) (hc : c < 99) (hj : fs[j]? = some (.inr r0)) (hz : H'.size = H.size) (ho : ∀ q : Nat, q ≠ B + G.2.2.2.2 k j → H'[q]? = H[q]?)
    (hn : H'[B + G.2.2.2.2 k j]? = some (hc_rc cI cJ r1)) : hc_Rel D cI cJ B b U G (hc_set σ k (c, fs.set j (.inr r1))) t H' := by
  obtain ⟨⟨z0, z0'⟩, z1, z2, z3, z4, z5, z6, z7⟩ := h
  have hl : j < fs.length := (List.getElem?_eq_some_iff.mp hj).1
  have l0 : hc_liv σ k j r0 := ⟨c, fs, hk, hc, hj⟩
  have lv : ∀ {k' j' : Nat} {r : hc_R}, hc_liv (hc_set σ k (c, fs.set j (.inr r1))) k' j' r → ∃ r', hc_liv σ k' j' r' := by
    intro k' j' r q
    rcases (hc_liv_set hk hc hl).mp q with ⟨q1, q2, q⟩ | ⟨-, q⟩
    · subst q1; subst q2
      exact ⟨_, l0⟩
    · exact ⟨_, q⟩
  refine ⟨⟨by rw [hz]; exact z0, z0'⟩, fun k' c' fs' h1 h2 => ?_, fun k' j' r q => ?_, fun r q => ?_, fun k' j' r k2 q q2 => ?_, fun k' j' r k2 j2 r2' q q2 => ?_, fun r q => ⟨fun k' q2 => (z6 r q).1 k' ((hc_olv_set hk hc).mp q2), fun k' j' r' q2 => ?_⟩, fun r q => ?_⟩
  · by_cases e : k' = k
    · subst e
      rw [hc_set_at] at h1
      cases h1
      obtain ⟨a1, a2, a3, a4⟩ := z1 k' _ _ hk hc
      have := z4 _ _ _ k' l0 ⟨_, _, hk, hc⟩
      refine ⟨a1, a2, by rw [List.length_set]; exact a3, (a4.kept (ho _ (by omega))).to fun i _ => ?_⟩
      rw [hc_vof_set hl]
      by_cases e2 : i = j
      · subst e2
        rw [if_pos rfl]
        simp only [hc_vof, hj]
        rfl
      · rw [if_neg e2]
    · rw [hc_set_ne _ _ e] at h1
      obtain ⟨a1, a2, a3, a4⟩ := z1 k' _ _ h1 h2
      have := z4 _ _ _ k' l0 ⟨_, _, h1, h2⟩
      exact ⟨a1, a2, a3, a4.kept (ho _ (by omega))⟩
  · rcases (hc_liv_set hk hc hl).mp q with ⟨q1, q2, q9⟩ | ⟨q1, q⟩
    · subst q1; subst q2
      rw [← Sum.inr.inj q9]
      exact ⟨(z2 _ _ _ l0).1, hn⟩
    · obtain ⟨a1, a2⟩ := z2 _ _ _ q
      have hne : G.2.2.2.2 k' j' ≠ G.2.2.2.2 k j := fun e => q1 (z5 _ _ _ _ _ _ q l0 e)
      exact ⟨a1, by rw [ho _ (by omega)]; exact a2⟩
  · obtain ⟨a1, a2⟩ := z3 _ q
    have := (z6 _ q).2 _ _ _ l0
    exact ⟨a1, by rw [ho _ (by omega)]; exact a2⟩
  · obtain ⟨r', q'⟩ := lv q
    exact z4 _ _ _ _ q' ((hc_olv_set hk hc).mp q2)
  · obtain ⟨r', q'⟩ := lv q
    obtain ⟨r3, q3⟩ := lv q2
    exact z5 _ _ _ _ _ _ q' q3
  · obtain ⟨r3, q3⟩ := lv q2
    exact (z6 r q).2 _ _ _ q3
  · obtain ⟨xs, q1, q2⟩ := z7 r (hc_script_set hc q)
    exact ⟨xs, q1, q2.kept (ho _ (by omega))⟩
/-- the new array is written -/
theorem hc_Rel.tst (h : hc_Rel D cI cJ B b U G σ t H) {r0 r1 : hc_R} (ht : t = some r0) (hz : H'.size = H.size) (ho : ∀ q : Nat, q ≠ B + G.2.2.2.1 → H'[q]? = H[q]?)
    (hn : H'[B + G.2.2.2.1]? = some (hc_rc cI cJ r1)) : hc_Rel D cI cJ B b U G σ (some r1) H' := by
  obtain ⟨⟨z0, z0'⟩, z1, z2, z3, z4, z5, z6, z7⟩ := h
  obtain ⟨y1, y2⟩ := z6 _ ht
  refine ⟨⟨by rw [hz]; exact z0, z0'⟩, fun k' c' fs' h1 h2 => ?_, fun k' j' r q => ?_, fun r q => ?_, z4, z5, fun r q => ⟨y1, y2⟩, fun r q => ?_⟩
  · obtain ⟨a1, a2, a3, a4⟩ := z1 k' _ _ h1 h2
    have := y1 k' ⟨_, _, h1, h2⟩
    exact ⟨a1, a2, a3, a4.kept (ho _ (by omega))⟩
  · obtain ⟨a1, a2⟩ := z2 _ _ _ q
    have := y2 _ _ _ q
    exact ⟨a1, by rw [ho _ (by omega)]; exact a2⟩
  · cases q
    exact ⟨(z3 _ ht).1, hn⟩
  · obtain ⟨xs, q1, q2⟩ := z7 r q
    exact ⟨xs, q1, q2.kept (ho _ (by omega))⟩
/-- what lies under all that is there is what it was -/
theorem hc_vof_G {G' : hc_G} {k j : Nat} {fs : List hc_F} (ha : ∀ r, fs[j]? = some (.inr r) → G'.2.2.2.2 k j = G.2.2.2.2 k j) : hc_vof B b G' k fs j = hc_vof B b G k fs j := by
  unfold hc_vof
  cases hx : fs[j]? with
  | none => rfl
  | some f =>
    rcases f with v | r
    · cases v <;> rfl
    · simp only [hc_fv, hc_con, ha r hx]
/-- a new array is made -/
theorem hc_Rel.newa (h : hc_Rel D cI cJ B b U G σ t H) {n : Nat} {r1 : hc_R} (hz : H'.size = H.size + 1) (ho : ∀ q : Nat, q < H.size → H'[q]? = H[q]?)
    (hn : H'[H.size]? = some (hc_rc cI cJ r1)) : hc_Rel D cI cJ B b U (hc_gA G n) σ (some r1) H' := by
  obtain ⟨⟨z0, z0'⟩, z1, z2, z3, z4, z5, z6, z7⟩ := h
  refine ⟨⟨by rw [hz, z0]; rfl, z0'⟩, fun k' c' fs' h1 h2 => ?_, fun k' j' r q => ?_, fun r q => ?_, z4, z5, fun r q => ⟨fun k' q2 => ?_, fun k' j' r' q2 => ?_⟩, fun r q => ?_⟩
  · obtain ⟨a1, a2, a3, a4⟩ := z1 k' _ _ h1 h2
    exact ⟨a1, Nat.lt_succ_of_lt a2, a3, (a4.kept (ho _ (by omega))).to fun i _ => (hc_vof_G (G := G) (G' := hc_gA G n) fun _ _ => rfl).symm⟩
  · obtain ⟨a1, a2⟩ := z2 _ _ _ q
    exact ⟨Nat.lt_succ_of_lt a1, by show H'[B + G.2.2.2.2 k' j']? = _; rw [ho _ (by omega)]; exact a2⟩
  · cases q
    exact ⟨Nat.lt_succ_self _, by show H'[B + G.2.1]? = _; rw [← z0]; exact hn⟩
  · obtain ⟨c, fs, h1, h2⟩ := q2
    have := (z1 _ _ _ h1 h2).2.1
    show G.2.1 ≠ k'
    omega
  · have := (z2 _ _ _ q2).1
    show G.2.2.2.2 k' j' ≠ G.2.1
    omega
  · obtain ⟨xs, q1, q2⟩ := z7 r q
    exact ⟨xs, q1, q2.kept (ho _ (by omega))⟩
/-- a new object is made -/
theorem hc_Rel.newo (h : hc_Rel D cI cJ B b U G σ t H) {n c : Nat} {fs : List hc_F} (hlt : G.2.1 < 900) (hc : c < 7) (hfs : fs.length = hc_fn c) (hno : ∀ (j : Nat) (r : hc_R), fs[j]? ≠ some (Sum.inr r)) (hz : H'.size = H.size + 1) (ho : ∀ q : Nat, q < H.size → H'[q]? = H[q]?)
    (hn : t_OB H.size (D.1 c) (hc_fn c) (D.2 c) H' (hc_vof B b G G.2.1 fs)) : hc_Rel D cI cJ B b U (hc_gO G n) (hc_set σ G.2.1 (c, fs)) t H' := by
  obtain ⟨⟨z0, z0'⟩, z1, z2, z3, z4, z5, z6, z7⟩ := h
  have fresh : ¬ hc_olv σ G.2.1 := by
    rintro ⟨c', fs', h1, h2⟩
    have := (z1 _ _ _ h1 h2).2.1
    omega
  have lv : ∀ {k' j' : Nat} {r : hc_R}, hc_liv (hc_set σ G.2.1 (c, fs)) k' j' r → hc_liv σ k' j' r := by
    rintro k' j' r ⟨c', fs', h1, h2, h3⟩
    by_cases e : k' = G.2.1
    · rw [e, hc_set_at] at h1
      cases h1
      exact absurd h3 (hno _ _)
    · rw [hc_set_ne _ _ e] at h1
      exact ⟨c', fs', h1, h2, h3⟩
  refine ⟨⟨by rw [hz, z0]; rfl, z0'⟩, fun k' c' fs' h1 h2 => ?_, fun k' j' r q => ?_, fun r q => ?_, fun k' j' r k2 q q2 => ?_, fun k' j' r k2 j2 r2' q q2 => z5 _ _ _ _ _ _ (lv q) (lv q2), fun r q => ⟨fun k' q2 => ?_, fun k' j' r' q2 => (z6 r q).2 _ _ _ (lv q2)⟩, fun r q => ?_⟩
  · by_cases e : k' = G.2.1
    · subst e
      rw [hc_set_at] at h1
      cases h1
      refine ⟨hc, Nat.lt_succ_self _, hfs, ?_⟩
      rw [z0] at hn
      exact hn.to fun i _ => (hc_vof_G (G := G) (G' := hc_gO G n) fun _ _ => rfl).symm
    · rw [hc_set_ne _ _ e] at h1
      obtain ⟨a1, a2, a3, a4⟩ := z1 k' _ _ h1 h2
      exact ⟨a1, Nat.lt_succ_of_lt a2, a3, (a4.kept (ho _ (by omega))).to fun i _ => (hc_vof_G (G := G) (G' := hc_gO G n) fun _ _ => rfl).symm⟩
  · obtain ⟨a1, a2⟩ := z2 _ _ _ (lv q)
    exact ⟨Nat.lt_succ_of_lt a1, by show H'[B + G.2.2.2.2 k' j']? = _; rw [ho _ (by omega)]; exact a2⟩
  · obtain ⟨a1, a2⟩ := z3 _ q
    exact ⟨Nat.lt_succ_of_lt a1, by show H'[B + G.2.2.2.1]? = _; rw [ho _ (by omega)]; exact a2⟩
  · have a1 := (z2 _ _ _ (lv q)).1
    show G.2.2.2.2 k' j' ≠ k2
    by_cases e : k2 = G.2.1
    · omega
    · obtain ⟨c', fs', h1, h2⟩ := q2
      rw [hc_set_ne _ _ e] at h1
      exact z4 _ _ _ _ (lv q) ⟨c', fs', h1, h2⟩
  · have a1 := (z3 _ q).1
    show G.2.2.2.1 ≠ k'
    by_cases e : k' = G.2.1
    · omega
    · obtain ⟨c', fs', h1, h2⟩ := q2
      rw [hc_set_ne _ _ e] at h1
      exact (z6 _ q).1 _ ⟨c', fs', h1, h2⟩
  · have e : 1000 ≠ G.2.1 := by omega
    rw [hc_set_ne _ _ e] at q
    obtain ⟨xs, q1, q2⟩ := z7 r q
    exact ⟨xs, q1, q2.kept (ho _ (by omega))⟩
/-- the new array goes into a field -/
theorem hc_Rel.move (h : hc_Rel D cI cJ B b U G σ t H) {k c j : Nat} {fs : List hc_F} {r1 : hc_R} (ht : t = some r1) (hk : σ k = some (c, fs)) (hc : c < 99) (hj : j < fs.length) (hz : H'.size = H.size) (ho : ∀ q : Nat, q ≠ B + k → H'[q]? = H[q]?)
    (hn : t_OB (B + k) (D.1 c) (hc_fn c) (D.2 c) H' (updV (hc_vof B b G k fs) j (.ref (B + G.2.2.2.1)))) : hc_Rel D cI cJ B b U (hc_gM G k j) (hc_set σ k (c, fs.set j (.inr r1))) none H' := by
  obtain ⟨⟨z0, z0'⟩, z1, z2, z3, z4, z5, z6, z7⟩ := h
  obtain ⟨y1, y2⟩ := z6 _ ht
  obtain ⟨x1, x2⟩ := z3 _ ht
  have ok : hc_olv σ k := ⟨c, fs, hk, hc⟩
  have hadr : ∀ k' j', (hc_gM G k j).2.2.2.2 k' j' = if k' = k ∧ j' = j then G.2.2.2.1 else G.2.2.2.2 k' j' := fun _ _ => rfl
  have h21 : (hc_gM G k j).2.1 = G.2.1 := rfl
  refine ⟨⟨by rw [hz]; exact z0, z0'⟩, fun k' c' fs' h1 h2 => ?_, fun k' j' r q => ?_, fun r q => absurd q (by simp), fun k' j' r k2 q q2 => ?_, fun k' j' r k2 j2 r2' q q2 => ?_, fun r q => absurd q (by simp), fun r q => ?_⟩
  · by_cases e : k' = k
    · subst e
      rw [hc_set_at] at h1
      cases h1
      obtain ⟨a1, a2, a3, -⟩ := z1 k' _ _ hk hc
      refine ⟨a1, a2, by rw [List.length_set]; exact a3, hn.to fun i _ => ?_⟩
      rw [hc_vof_set hj]
      by_cases e2 : i = j
      · subst e2
        rw [if_pos rfl]
        simp [updV, hc_fv, hc_con, hadr]
      · rw [if_neg e2]
        simp only [updV, if_neg e2]
        exact (hc_vof_G (G := G) (G' := hc_gM G _ j) fun r _ => by rw [hadr, if_neg fun z => e2 z.2]).symm
    · rw [hc_set_ne _ _ e] at h1
      obtain ⟨a1, a2, a3, a4⟩ := z1 k' _ _ h1 h2
      exact ⟨a1, a2, a3, (a4.kept (ho _ (by omega))).to fun i _ => (hc_vof_G (G := G) (G' := hc_gM G k j) fun r _ => by rw [hadr, if_neg fun z => e z.1]).symm⟩
  · rw [hadr, h21]
    rcases (hc_liv_set hk hc hj).mp q with ⟨q1, q2, q9⟩ | ⟨q1, q⟩
    · subst q1; subst q2
      rw [← Sum.inr.inj q9]
      have := y1 _ ok
      rw [if_pos ⟨rfl, rfl⟩]
      exact ⟨x1, by rw [ho _ (by omega)]; exact x2⟩
    · rw [if_neg q1]
      obtain ⟨a1, a2⟩ := z2 _ _ _ q
      have := z4 _ _ _ _ q ok
      exact ⟨a1, by rw [ho _ (by omega)]; exact a2⟩
  · rw [hadr]
    have q2' := (hc_olv_set hk hc).mp q2
    rcases (hc_liv_set hk hc hj).mp q with ⟨q1, q3, q⟩ | ⟨q1, q⟩
    · rw [if_pos ⟨q1, q3⟩]
      exact y1 _ q2'
    · rw [if_neg q1]
      exact z4 _ _ _ _ q q2'
  · rw [hadr, hadr]
    rcases (hc_liv_set hk hc hj).mp q with ⟨q1, q3, q⟩ | ⟨q1, q⟩ <;> rcases (hc_liv_set hk hc hj).mp q2 with ⟨p1, p3, p⟩ | ⟨p1, p⟩
    · exact fun _ => ⟨q1.trans p1.symm, q3.trans p3.symm⟩
    · rw [if_pos ⟨q1, q3⟩, if_neg p1]
      exact fun e => absurd e.symm (y2 _ _ _ p)
    · rw [if_neg q1, if_pos ⟨p1, p3⟩]
      exact fun e => absurd e (y2 _ _ _ q)
    · rw [if_neg q1, if_neg p1]
      exact z5 _ _ _ _ _ _ q p
  · obtain ⟨xs, q1, q2⟩ := z7 r (hc_script_set hc q)
    exact ⟨xs, q1, q2.kept (ho _ (by omega))⟩
theorem hc_Rel.moved {U' : State} (hvm : U.vm.Alike U'.vm) (h : hc_Rel D cI cJ B b U G σ t H) : hc_Rel D cI cJ B b U' G σ t H := by
  obtain ⟨z0, z1, z2, z3, z4, z5, z6, z7⟩ := h
  refine ⟨z0, z1, z2, z3, z4, z5, z6, fun r q => ?_⟩
  obtain ⟨xs, q1, q2⟩ := z7 r q
  exact ⟨xs, q1, q2.moved hvm⟩
end HREL
