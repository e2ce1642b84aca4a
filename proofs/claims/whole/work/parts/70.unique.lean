/-! there is but one laying -/
theorem sorted_ext {α : Type} {R : α → α → Prop} (irr : ∀ a, ¬ R a a) (asy : ∀ a b, R a b → ¬ R b a) : ∀ l l' : List α, l.Pairwise R → l'.Pairwise R → (∀ x, x ∈ l ↔ x ∈ l') → l = l' := by
  intro l
  induction l with
  | nil =>
    intro l' _ _ h
    cases l' with
    | nil => rfl
    | cons a t => exact absurd ((h a).mpr List.mem_cons_self) List.not_mem_nil
  | cons a t ih =>
    intro l' hp hp' h
    cases l' with
    | nil => exact absurd ((h a).mp List.mem_cons_self) List.not_mem_nil
    | cons b s =>
      have h1 := List.pairwise_cons.mp hp
      have h2 := List.pairwise_cons.mp hp'
      have e : a = b := by
        rcases List.mem_cons.mp ((h a).mp List.mem_cons_self) with c | c
        · exact c
        · rcases List.mem_cons.mp ((h b).mpr List.mem_cons_self) with d | d
          · exact d.symm
          · exact absurd (h2.1 a c) (asy _ _ (h1.1 b d))
      subst e
      rw [ih s h1.2 h2.2 fun x => ⟨fun hx => by
        rcases List.mem_cons.mp ((h x).mp (List.mem_cons_of_mem _ hx)) with c | c
        · subst c
          exact absurd (h1.1 x hx) (irr _)
        · exact c, fun hx => by
        rcases List.mem_cons.mp ((h x).mpr (List.mem_cons_of_mem _ hx)) with c | c
        · subst c
          exact absurd (h2.1 x hx) (irr _)
        · exact c⟩]
theorem plt_irr (a : Int × Int) : ¬ plt a a := by
  unfold plt
  omega
theorem plt_asy (a b : Int × Int) (h : plt a b) : ¬ plt b a := by
  unfold plt at *
  omega
theorem nodes_one {H N N' : List (Int × Int)} (h : NodesOf H N) (h' : NodesOf H N') : N = N' := sorted_ext plt_irr plt_asy N N' h.1 h'.1 fun x => (h.2 x).trans (h'.2 x).symm
theorem ordR_irr (e : Ed) (N : List (Int × Int)) (a : Nat) : ¬ ordR e N a a := by
  unfold ordR ordA
  split <;> split <;> omega
theorem ordR_asy (e : Ed) (N : List (Int × Int)) (a b : Nat) (h : ordR e N a b) : ¬ ordR e N b a := by
  unfold ordR ordA at *
  split at h <;> split at h <;> (rename_i c1 c2; simp only [c1, c2, if_true, if_false]) <;> omega
theorem way_one {e : Ed} {N : List (Int × Int)} {B B' : List Nat} (h : Way e N B) (h' : Way e N B') : B = B' := sorted_ext (ordR_irr e N) (ordR_asy e N) B B' h.2 h'.2 fun x => h.1.mem_iff.trans h'.1.mem_iff.symm
theorem pc_one {L : List Int} {Ps Ps' : List (Int × Nat)} (h : PcOf L Ps) (h' : PcOf L Ps') : Ps = Ps' := by
  have e1 : Ps.map Prod.fst = Ps'.map Prod.fst := sorted_ext (fun a => Int.lt_irrefl a) (fun a b x y => by omega) _ _ h.1 h'.1 fun x => (h.2.1 x).trans (h'.2.1 x).symm
  have key : ∀ {P : List (Int × Nat)}, PcOf L P → P = (P.map Prod.fst).map fun v => (v, L.count v) := by
    intro P hP
    rw [List.map_map]
    have : P.map (fun v => v) = P := List.map_id' P
    conv => lhs; rw [← this]
    refine List.map_congr_left fun v hv => ?_
    have := hP.2.2 v hv
    show v = (v.1, L.count v.1)
    rw [← this]
  rw [key h, key h', e1]
theorem full_one {H S E N N' : List (Int × Int)} {Ws Ws' : List (List Nat)} {Ps Ps' : List (Int × Nat)} (h : Full H S E N Ws Ps) (h' : Full H S E N' Ws' Ps') : N = N' ∧ Ws = Ws' ∧ Ps = Ps' := by
  obtain ⟨h1, h2, h3, h4⟩ := h
  obtain ⟨g1, g2, g3, g4⟩ := h'
  have e1 := nodes_one h1 g1
  subst e1
  have e2 : Ws = Ws' := by
    refine List.ext_getElem (by omega) fun i hi hi' => ?_
    exact way_one (h3 i hi) (g3 i hi')
  subst e2
  exact ⟨rfl, rfl, pc_one h4 g4⟩
theorem plt_len : ∀ (l' l : List (Int × Int)), l'.Pairwise plt → (∀ v ∈ l', v ∈ l) → l'.length ≤ l.length := by
  intro l'
  induction l' with
  | nil => intro l _ _; exact Nat.zero_le _
  | cons a t ih =>
    intro l hp hm
    have hp2 := List.pairwise_cons.mp hp
    have ha := hm a List.mem_cons_self
    have h1 := ih (l.erase a) hp2.2 fun v hv => (List.mem_erase_of_ne (fun e => plt_irr a (by have := hp2.1 v hv; rw [e] at this; exact this))).mpr (hm v (List.mem_cons_of_mem _ hv))
    have h2 := List.length_erase_of_mem ha
    have h3 := List.length_pos_of_mem ha
    show t.length + 1 ≤ _
    omega
theorem lay_or {H S E N : List (Int × Int)} {Ws : List (List Nat)} {Ps : List (Int × Nat)} (h : Full H S E N Ws Ps) (hl : Lim N Ws Ps) (hn : NoLay H S E) : False := by
  obtain ⟨l1, l2, l3⟩ := hl
  rcases hn with ⟨N', hp, hm, hb⟩ | ⟨N', hN', hs⟩ | ⟨N', Ws', Ps', hF, hb⟩
  · have := plt_len N' N hp fun v hv => (h.1.2 v).mpr (hm v hv)
    omega
  · have e := nodes_one h.1 hN'
    subst e
    have := stp_all h.2.1 h.2.2.1
    omega
  · obtain ⟨e1, e2, e3⟩ := full_one h hF
    subst e3
    omega
theorem AW_one {Ws : List (List Nat)} (h5 : Ws.length < 2 ^ 31) {e v v' : Int32} (h : AW Ws e v) (h' : AW Ws e v') : v = v' := by
  rcases h with ⟨j, hj, rfl, rfl⟩ | ⟨c, rfl⟩
  · rcases h' with ⟨j', hj', e, rfl⟩ | ⟨c, rfl⟩
    · rw [nI_eq (by omega) (by omega)] at e
      rw [e]
    · rcases c with c | c
      · exact absurd c (nI_pos (by omega))
      · exact absurd c (nI_ge hj h5)
  · rcases h' with ⟨j', hj', rfl, rfl⟩ | ⟨-, rfl⟩
    · rcases c with c | c
      · exact absurd c (nI_pos (by omega))
      · exact absurd c (nI_ge hj' h5)
    · rfl
theorem AWN_one {Ws : List (List Nat)} (h5 : Ws.length < 2 ^ 31) (h6 : ∀ j : Nat, (Ws[j]?.getD []).length < 2 ^ 31) {e k v v' : Int32} (h : AWN Ws e k v) (h' : AWN Ws e k v') : v = v' := by
  have ex : ∀ {j i : Nat}, j < Ws.length → i < (Ws[j]?.getD []).length → ¬ (nI j < 0 ∨ nI Ws.length ≤ nI j ∨ nI i < 0 ∨ ∃ j2, j2 < Ws.length ∧ nI j = nI j2 ∧ nI (Ws[j2]?.getD []).length ≤ nI i) := by
    intro j i hj hi c
    have := h6 j
    rcases c with c | c | c | ⟨j2, hj2, e, c⟩
    · exact nI_pos (by omega) c
    · exact nI_ge hj h5 c
    · exact nI_pos (by omega) c
    · rw [nI_eq (by omega) (by omega)] at e
      subst e
      exact nI_ge hi this c
  rcases h with ⟨j, i, hj, rfl, hi, rfl, rfl⟩ | ⟨c, rfl⟩
  · rcases h' with ⟨j', i', hj', e, hi', e2, rfl⟩ | ⟨c, rfl⟩
    · have := h6 j
      have := h6 j'
      rw [nI_eq (by omega) (by omega)] at e
      rw [nI_eq (by omega) (by omega)] at e2
      rw [e, e2]
    · exact absurd c (ex hj hi)
  · rcases h' with ⟨j', i', hj', rfl, hi', rfl, rfl⟩ | ⟨-, rfl⟩
    · exact absurd c (ex hj' hi')
    · rfl
theorem AN_one {N : List (Int × Int)} (h5 : N.length < 2 ^ 31) {n x v v' : Int32} (h : AN N n x v) (h' : AN N n x v') : v = v' := by
  have o10 : ¬ (1 : Int32) = 0 := by decide
  rcases h with ⟨j, hj, rfl, h⟩ | ⟨c, rfl⟩
  · rcases h' with ⟨j', hj', e, h'⟩ | ⟨c, rfl⟩
    · rw [nI_eq (by omega) (by omega)] at e
      subst e
      rcases h with ⟨rfl, e1⟩ | ⟨rfl, e1⟩ | ⟨n0, n1, rfl⟩
      · rcases h' with ⟨-, e2⟩ | ⟨x, -⟩ | ⟨x, -, -⟩
        · exact Int32.toInt_inj.mp (by rw [e1, e2])
        · exact absurd x.symm o10
        · exact absurd rfl x
      · rcases h' with ⟨x, -⟩ | ⟨-, e2⟩ | ⟨-, x, -⟩
        · exact absurd x o10
        · exact Int32.toInt_inj.mp (by rw [e1, e2])
        · exact absurd rfl x
      · rcases h' with ⟨x, -⟩ | ⟨x, -⟩ | ⟨-, -, rfl⟩
        · exact absurd x n0
        · exact absurd x n1
        · rfl
    · rcases c with c | c
      · exact absurd c (nI_pos (by omega))
      · exact absurd c (nI_ge hj h5)
  · rcases h' with ⟨j', hj', rfl, -⟩ | ⟨-, rfl⟩
    · rcases c with c | c
      · exact absurd c (nI_pos (by omega))
      · exact absurd c (nI_ge hj' h5)
    · rfl
theorem AF_one {N : List (Int × Int)} (hN : N.Pairwise plt) {x y v v' : Int32} (h : AF N x y v) (h' : AF N x y v') : v = v' := by
  rcases h with ⟨j, hj, e, rfl⟩ | ⟨c, rfl⟩
  · rcases h' with ⟨j', hj', e', rfl⟩ | ⟨c, rfl⟩
    · rw [nd_inj hN hj hj' (e.trans e'.symm)]
    · exact absurd e (c j hj)
  · rcases h' with ⟨j', hj', e', rfl⟩ | ⟨-, rfl⟩
    · exact absurd e' (c j' hj')
    · rfl
theorem AP_one {Ps : List (Int × Nat)} (h5 : Ps.length < 2 ^ 31) {n x v v' : Int32} (h : AP Ps n x v) (h' : AP Ps n x v') : v = v' := by
  have o10 : ¬ (1 : Int32) = 0 := by decide
  have o20 : ¬ (2 : Int32) = 0 := by decide
  have o21 : ¬ (2 : Int32) = 1 := by decide
  rcases h with ⟨j, hj, rfl, h⟩ | ⟨c, rfl⟩
  · rcases h' with ⟨j', hj', e, h'⟩ | ⟨c, rfl⟩
    · rw [nI_eq (by omega) (by omega)] at e
      subst e
      rcases h with ⟨rfl, e1⟩ | ⟨rfl, e1⟩ | ⟨rfl, e1⟩ | ⟨n0, n1, n2, rfl⟩
      · rcases h' with ⟨-, e2⟩ | ⟨x, -⟩ | ⟨x, -⟩ | ⟨x, -⟩
        · exact Int32.toInt_inj.mp (by rw [e1, e2])
        · exact absurd x.symm o10
        · exact absurd x.symm o20
        · exact absurd rfl x
      · rcases h' with ⟨x, -⟩ | ⟨-, e2⟩ | ⟨x, -⟩ | ⟨-, x, -⟩
        · exact absurd x o10
        · exact Int32.toInt_inj.mp (by rw [e1, e2])
        · exact absurd x.symm o21
        · exact absurd rfl x
      · rcases h' with ⟨x, -⟩ | ⟨x, -⟩ | ⟨-, e2⟩ | ⟨-, -, x, -⟩
        · exact absurd x o20
        · exact absurd x o21
        · rw [e1, e2]
        · exact absurd rfl x
      · rcases h' with ⟨x, -⟩ | ⟨x, -⟩ | ⟨x, -⟩ | ⟨-, -, -, rfl⟩
        · exact absurd x n0
        · exact absurd x n1
        · exact absurd x n2
        · rfl
    · rcases c with c | c
      · exact absurd c (nI_pos (by omega))
      · exact absurd c (nI_ge hj h5)
  · rcases h' with ⟨j', hj', rfl, -⟩ | ⟨-, rfl⟩
    · rcases c with c | c
      · exact absurd c (nI_pos (by omega))
      · exact absurd c (nI_ge hj' h5)
    · rfl
