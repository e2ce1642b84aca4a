/-! what holds before each call of the law -/
def LOK (N : List (Int × Int)) (Ws : List (List Nat)) (Ps : List (Int × Nat)) : Prop := inB N ∧ N.Pairwise plt ∧ N.length ≤ 6000 ∧ Ws.length ≤ 512 ∧ (∀ v ∈ Ws.flatten, v < 6000) ∧ ∀ q ∈ Ps, stR q.1
def LwP (L : Nat) (xs : Nat → Int32) (B0 n : Nat) (G : hc_G) (σ : hc_H) : Prop := (∃ S E P N Ws Ps, CLS σ S E P N Ws Ps ∧ MOD σ S E P N Ws Ps ∧ Inp S E P ∧ S.length ≤ n ∧ P.length ≤ n ∧ LOK N Ws Ps) ∧ G.2.2.1 + 12 * G.2.1 ≤ B0 + hc_phi σ + 9012 * n ∧ σ 1000 = some (99, [.inr (L, .inl xs)]) ∧ ∀ j, 54 ≤ j → j < 60 → σ j = none
theorem LOK.of {S E P N : List (Int × Int)} {Ws : List (List Nat)} {Ps : List (Int × Nat)} (hI : Inp S E P) (hF : Full (hotL S E P S.length) S E N Ws Ps) (hL : Lim N Ws Ps) : LOK N Ws Ps := by
  obtain ⟨bS, bE, bP, hle, hS5, hP5, hR⟩ := hI
  obtain ⟨h1, h2, h3, h4⟩ := hF
  have hv : ∀ v ∈ Ws.flatten, v < 6000 := by
    intro v hv
    obtain ⟨W, hWm, hvW⟩ := List.mem_flatten.mp hv
    obtain ⟨i, hi, e⟩ := List.getElem_of_mem hWm
    have := h3 i hi
    rw [e] at this
    have := Bn_lt (this.1.mem_iff.mp hvW)
    have := hL.1
    omega
  refine ⟨fun q hq => hotL_in bS bE bP hle ((h1.2 q).mp hq), h1.1, hL.1, by omega, hv, fun q hq => ?_⟩
  exact flat_R hv _ ((h4.2.1 _).mp (List.mem_map_of_mem (f := Prod.fst) hq))
section S72
variable {G G' : hc_G} {σ σ' : hc_H} {S E P N : List (Int × Int)} {Ws : List (List Nat)} {Ps : List (Int × Nat)} {L n B0 : Nat} {xs : Nat → Int32}
theorem CLS.fr (hC : CLS σ S E P N Ws Ps) (h : ∀ j, j < 30 → σ' j = σ j) : CLS σ' S E P N Ws Ps := by
  obtain ⟨a, b, o1, o4, o7, o10, lk, oa, oh, ob, og, lg, hab, h0, ⟨h1, p1⟩, ⟨h4, p4⟩, ⟨h7, p7⟩, ⟨h10, p10⟩, ⟨ha, pa⟩, ⟨hh, ph⟩, ⟨hb, pb⟩, ⟨hg, pg⟩⟩ := hC
  exact ⟨a, b, o1, o4, o7, o10, lk, oa, oh, ob, og, lg, hab, by rw [h _ (by omega)]; exact h0, ⟨by rw [h _ (by omega)]; exact h1, p1⟩, ⟨by rw [h _ (by omega)]; exact h4, p4⟩, ⟨by rw [h _ (by omega)]; exact h7, p7⟩, ⟨by rw [h _ (by omega)]; exact h10, p10⟩, ⟨by rw [h _ (by omega)]; exact ha, pa⟩, ⟨by rw [h _ (by omega)]; exact hh, ph⟩, ⟨by rw [h _ (by omega)]; exact hb, pb⟩, ⟨by rw [h _ (by omega)]; exact hg, pg⟩⟩
theorem MOD.fr (hM : MOD σ S E P N Ws Ps) (h : ∀ j, 30 ≤ j → σ' j = σ j) : MOD σ' S E P N Ws Ps := by
  obtain ⟨h2, p, w, b, h', p', w', b', ct, ft, q, hz, h30, hct, hTM, ⟨l31, i31, x31⟩, ⟨l33, i33, x33⟩, mh, mp, mw, ⟨lb, mb, xb⟩, ⟨lh, ih⟩, ⟨lp, ip⟩, ⟨lw, iw⟩, ⟨lb', ib⟩, ⟨la, ia⟩⟩ := hM
  have hz' := hz
  unfold MHp at hz'
  have kI : ∀ {k : Nat} {l : List Int} {C : Nat}, 30 ≤ k → inI σ k l C → inI σ' k l C := by
    rintro k l C a1 ⟨o, x1, x2⟩
    exact ⟨o, by rw [h k a1]; exact x1, x2⟩
  have kM : ∀ {k : Nat} {l : List Int} {C : Nat}, 30 ≤ k → inM σ k l C → inM σ' k l C := by
    rintro k l C a1 ⟨o, x1, x2⟩
    exact ⟨o, by rw [h k a1]; exact x1, x2⟩
  exact ⟨h2, p, w, b, h', p', w', b', ct, ft, q, hz, by rw [h _ (by omega)]; exact h30, hct, hTM, ⟨l31, kI (by omega) i31, x31⟩, ⟨l33, kI (by omega) i33, x33⟩, kM (by omega) mh, kM (by omega) mp, kI (by omega) mw, ⟨lb, kI (by omega) mb, xb⟩, ⟨lh, kM (by omega) ih⟩, ⟨lp, kM (by omega) ip⟩, ⟨lw, kI (by omega) iw⟩, ⟨lb', kI (by omega) ib⟩, la, kI (by omega) ia⟩
theorem CLS.h0 (hC : CLS σ S E P N Ws Ps) : ∃ a b, σ 0 = some (oHC a b) := by
  obtain ⟨a, b, o1, o4, o7, o10, lk, oa, oh, ob, og, lg, hab, h0, -⟩ := hC
  exact ⟨a, b, h0⟩
theorem MOD.h30 (hM : MOD σ S E P N Ws Ps) : ∃ (c : Nat) (fs : List hc_F), σ 30 = some (c, fs) ∧ c = 6 := by
  obtain ⟨h, p, w, b, h', p', w', b', ct, ft, q, hz, h30, -⟩ := hM
  exact ⟨6, _, h30, rfl⟩
theorem MOD.pl (hM : MOD σ S E P N Ws Ps) : Ps.length ≤ 40000 := by
  obtain ⟨h, p, w, b, h', p', w', b', ct, ft, q, hz, h30, hct, hTM, -⟩ := hM
  have := hTM.1
  omega
theorem MOD.wj (hM : MOD σ S E P N Ws Ps) : ∀ j : Nat, (Ws[j]?.getD []).length < 2 ^ 31 := by
  obtain ⟨h, p, w, b, h', p', w', b', ct, ft, q, hz, h30, hct, hTM, -, -, -, -, ⟨ow, mw, cw, fw, rfl, w1, w2, w3, w4⟩, -⟩ := hM
  rw [List.length_map] at w1
  intro j
  by_cases hj : j < Ws.length
  · have := take_le Ws hj
    omega
  · rw [List.getElem?_eq_none (by omega)]
    simp
theorem LwP.up (h : LwP L xs B0 n G σ) : LwP L xs B0 (n + 1) G σ := by
  obtain ⟨⟨S, E, P, N, Ws, Ps, hC, hM, hI, hS, hP, hO⟩, hcost, h1000, hnone⟩ := h
  exact ⟨⟨S, E, P, N, Ws, Ps, hC, hM, hI, by omega, by omega, hO⟩, by omega, h1000, hnone⟩
/-- the next state, from the two calls' heaps -/
theorem LwP.nx {σ1 σ2 : hc_H} {G1 G2 : hc_G} {S' E' P' N' : List (Int × Int)} {Ws' : List (List Nat)} {Ps' : List (Int × Nat)} (h : LwP L xs B0 n G σ) (hC1 : CLS σ1 S' E' P' N' Ws' Ps') (f1 : ∀ j, 30 ≤ j → σ1 j = σ j) (c1 : hc_cr G σ G1 σ1) (hM2 : MOD σ2 S' E' P' N' Ws' Ps') (f2 : ∀ j, j < 30 ∨ 54 ≤ j → σ2 j = σ1 j) (c2 : hc_c9 G1 σ1 G2 σ2) (hI : Inp S' E' P') (hS : S'.length ≤ n + 1) (hP : P'.length ≤ n + 1) (hO : LOK N' Ws' Ps') : LwP L xs B0 (n + 1) G2 σ2 := by
  obtain ⟨-, hcost, h1000, hnone⟩ := h
  have c3 := c1.tr9 c2
  unfold hc_c9 at c3
  refine ⟨⟨S', E', P', N', Ws', Ps', hC1.fr fun j hj => f2 j (Or.inl hj), hM2, hI, hS, hP, hO⟩, by omega, ?_, fun j h1 h2 => ?_⟩
  · rw [f2 _ (Or.inr (by decide)), f1 _ (by decide)]
    exact h1000
  · rw [f2 _ (Or.inr h1), f1 _ (by omega)]
    exact hnone j h1 h2
theorem Inp.addE (hI : Inp S E P) (hS : S.length < 512) {s e : Int × Int} (hs : inb s.1 s.2) (he : inb e.1 e.2) (hne : ¬ (s.1 = e.1 ∧ s.2 = e.2)) : Inp (S ++ [s]) (E ++ [e]) P := by
  obtain ⟨bS, bE, bP, hle, hS5, hP5, hR⟩ := hI
  refine ⟨fun q hq => ?_, fun q hq => ?_, bP, by simp only [List.length_append, hle]; rfl, by simp only [List.length_append, List.length_cons, List.length_nil]; omega, hP5, fun i hi => ?_⟩
  · rcases List.mem_append.mp hq with h | h
    · exact bS q h
    · rw [List.mem_singleton.mp h]
      exact hs
  · rcases List.mem_append.mp hq with h | h
    · exact bE q h
    · rw [List.mem_singleton.mp h]
      exact he
  · simp only [List.length_append, List.length_cons, List.length_nil] at hi
    by_cases c : i < S.length
    · have ez : edz (S ++ [s]) (E ++ [e]) i = edz S E i := by
        unfold edz
        rw [List.getElem?_append_left c, List.getElem?_append_left (by omega)]
      rw [ez]
      exact hR i c
    · have ei : i = S.length := by omega
      subst ei
      have ez : edz (S ++ [s]) (E ++ [e]) S.length = (s.1, s.2, e.1, e.2) := by
        unfold edz
        rw [List.getElem?_append_right (Nat.le_refl _), List.getElem?_append_right (by omega), hle, Nat.sub_self]
        rfl
      rw [ez]
      exact hne
theorem Inp.addP (hI : Inp S E P) (hP : P.length < 512) {s : Int × Int} (hs : inb s.1 s.2) : Inp S E (P ++ [s]) := by
  obtain ⟨bS, bE, bP, hle, hS5, hP5, hR⟩ := hI
  refine ⟨bS, bE, fun q hq => ?_, hle, hS5, by simp only [List.length_append, List.length_cons, List.length_nil]; omega, hR⟩
  rcases List.mem_append.mp hq with h | h
  · exact bP q h
  · rw [List.mem_singleton.mp h]
    exact hs
end S72
