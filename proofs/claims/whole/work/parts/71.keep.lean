/-! what is not made stays not made; what all rows can hold -/
def kpt (G : hc_G) (σ : hc_H) (G' : hc_G) (σ' : hc_H) : Prop := G.2.1 ≤ G'.2.1 ∧ ∀ k, k < G.2.1 → σ k = none → σ' k = none
theorem kpt.rf (G : hc_G) (σ : hc_H) : kpt G σ G σ := ⟨Nat.le_refl _, fun _ _ h => h⟩
theorem kpt.tr {G1 G2 G3 : hc_G} {σ1 σ2 σ3 : hc_H} (h : kpt G1 σ1 G2 σ2) (h2 : kpt G2 σ2 G3 σ3) : kpt G1 σ1 G3 σ3 :=
  ⟨Nat.le_trans h.1 h2.1, fun k hk hn => h2.2 k (Nat.lt_of_lt_of_le hk h.1) (h.2 k hk hn)⟩
theorem kpt.set {G G' : hc_G} {σ : hc_H} {k : Nat} {o o' : hc_O} (hG : G.2.1 ≤ G'.2.1) (h : σ k = some o) : kpt G σ G' (hc_set σ k o') := by
  refine ⟨hG, fun i hi hn => ?_⟩
  by_cases e : i = k
  · rw [e, h] at hn
    cases hn
  · rw [hc_set_ne _ _ e]
    exact hn
theorem wr_keep {G : hc_G} {σ σ' : hc_H} {t t' : hc_T} {r : hc_R} {v : hc_V} (h : hc_wr σ t r v = some (σ', t')) : kpt G σ G σ' := by
  unfold hc_wr at h
  split at h
  · split at h
    · cases h
      exact kpt.rf _ _
    · cases h
  · split at h
    · rename_i hk
      split at h
      · cases h
        exact kpt.set (Nat.le_refl _) hk
      · cases h
    · cases h
  · cases h
set_option maxHeartbeats 4000000 in
theorem hep_keep {mi : Nat} {G G1 : hc_G} {σ σ1 : hc_H} {t t1 : hc_T} {ls ls1 : hc_L} {st st1 : List hc_V} {i : Instr} {w : Nat} (h : hc_hep mi G σ t ls st i w = some (G1, σ1, t1, ls1, st1)) : kpt G σ G1 σ1 := by
  unfold hc_hep at h
  split at h
  -- getfield
  · split at h
    · split at h
      · split at h
        · cases h
          exact kpt.rf _ _
        · cases h
      · cases h
    · cases h
  -- putfield, a value
  · split at h
    · rename_i hk
      split at h
      · split at h
        · cases h
          exact kpt.set (Nat.le_refl _) hk
        · cases h
      · cases h
    · cases h
  -- putfield, the new array
  · split at h
    · rename_i hk
      split at h
      · cases h
        exact kpt.set (Nat.le_refl _) hk
      · cases h
    · cases h
  -- putfield, the same array
  · split at h
    · split at h
      · split at h
        · split at h
          · cases h
            exact kpt.rf _ _
          · cases h
        · cases h
      · cases h
    · cases h
  -- iaload
  · split at h
    · split at h
      · cases h
        exact kpt.rf _ _
      · cases h
    · cases h
  -- laload
  · split at h
    · split at h
      · cases h
        exact kpt.rf _ _
      · cases h
    · cases h
  -- iastore
  · split at h
    · split at h
      · split at h
        · rename_i hw
          cases h
          exact wr_keep hw
        · cases h
      · cases h
    · cases h
  -- lastore
  · split at h
    · split at h
      · split at h
        · rename_i hw
          cases h
          exact wr_keep hw
        · cases h
      · cases h
    · cases h
  -- arraylength
  · split at h
    · cases h
      exact kpt.rf _ _
    · cases h
  -- newarray
  · split at h
    · split at h
      · cases h
        exact ⟨Nat.le_succ _, fun _ _ x => x⟩
      · cases h
        exact ⟨Nat.le_succ _, fun _ _ x => x⟩
      · cases h
    · cases h
  -- new
  · split at h
    · split at h
      · cases h
        refine ⟨Nat.le_succ _, fun k hk hn => ?_⟩
        rw [hc_set_ne _ _ (by omega)]
        exact hn
      · cases h
    · cases h
  -- the constructor of Object
  · split at h
    · cases h
      exact kpt.rf _ _
    · cases h
  -- arraycopy
  · split at h
    · split at h
      · split at h
        · cases h
          exact kpt.rf _ _
        · cases h
      · split at h
        · cases h
          exact kpt.rf _ _
        · cases h
      · cases h
    · cases h
  · cases h
theorem ex_keep : ∀ (n : Nat) {G G' : hc_G} {σ σ' : hc_H} {t t' : hc_T} {mi pc : Nat} {ls : hc_L} {st : List hc_V} {r : Option hc_V}, hc_ex n G σ t mi pc ls st = some (G', σ', t', r) → kpt G σ G' σ' := by
  intro n
  induction n with
  | zero =>
    intro G G' σ σ' t t' mi pc ls st r h
    cases h
  | succ n ih =>
    intro G G' σ σ' t t' mi pc ls st r h
    rw [hc_ex] at h
    cases hd : decode (hc_b mi) pc with
    | error _ =>
      rw [hd] at h
      cases h
    | ok iw =>
      obtain ⟨i, w⟩ := iw
      rw [hd] at h
      dsimp only at h
      cases h1 : hc_loc mi pc ls st i w with
      | some y =>
        rw [h1] at h
        exact ih h
      | none =>
        rw [h1] at h
        dsimp only at h
        cases h2 : hc_hep mi G σ t ls st i w with
        | some y =>
          obtain ⟨G1, σ1, t1, ls1, st1⟩ := y
          rw [h2] at h
          exact (hep_keep h2).tr (ih h)
        | none =>
          rw [h2] at h
          dsimp only at h
          cases h3 : hc_rtn mi st i w with
          | some y =>
            rw [h3] at h
            cases h
            exact kpt.rf _ _
          | none =>
            rw [h3] at h
            dsimp only at h
            cases h4 : hc_cal mi σ st i w with
            | none =>
              rw [h4] at h
              cases h
            | some y =>
              obtain ⟨m2, l2, st2⟩ := y
              rw [h4] at h
              dsimp only at h
              cases h5 : hc_ex n G σ t m2 0 l2 [] with
              | none =>
                rw [h5] at h
                cases h
              | some z =>
                obtain ⟨G1, σ1, t1, r1⟩ := z
                rw [h5] at h
                dsimp only at h
                split at h
                · exact (ih h5).tr (ih h)
                · split at h
                  · exact (ih h5).tr (ih h)
                  · cases h
theorem wp_keep {G : hc_G} {σ : hc_H} {t : hc_T} {mi pc : Nat} {ls : hc_L} {st : List hc_V} {Q : hc_Q} (h : hc_wp G σ t mi pc ls st Q) : hc_wp G σ t mi pc ls st (fun G' σ' t' r => Q G' σ' t' r ∧ kpt G σ G' σ') := by
  obtain ⟨n, G', σ', t', r, h1, h2⟩ := h
  exact ⟨n, G', σ', t', r, h1, h2, ex_keep n h1⟩
/-- what each object's rows may count for -/
def cap (k : Nat) : Nat := if k = 1 ∨ k = 4 ∨ k = 7 ∨ k = 13 ∨ k = 22 then 72000 else if k = 10 then 120000 else if k = 12 ∨ k = 21 then 315300 else if k = 31 then 12288 else if k = 33 then 6144 else if k = 35 ∨ k = 44 then 108006 else if k = 37 ∨ k = 46 then 120000 else if k = 40 ∨ k = 48 then 159744 else if k = 42 ∨ k = 50 then 3300 else if k = 52 then 36000 else 0
theorem sum_le {f g : Nat → Nat} : ∀ n, (∀ k, k < n → f k ≤ g k) → ((List.range n).map f).sum ≤ ((List.range n).map g).sum := by
  intro n
  induction n with
  | zero => intro _; exact Nat.le_refl _
  | succ n ih =>
    intro h
    rw [List.range_succ, List.map_append, List.map_append, List.sum_append, List.sum_append]
    have h1 := ih fun k hk => h k (by omega)
    have h2 := h n (by omega)
    simp only [List.map_cons, List.map_nil, List.sum_cons, List.sum_nil, Nat.add_zero]
    omega
theorem po_pl {o : hc_O} {l : List (Int × Int)} {m : Nat} (h : PLo o l m) : hc_po (some o) ≤ 72000 := by
  obtain ⟨cx, fx, cy, fy, rfl, h1, h2, h3, h4, h5, h6, -⟩ := h
  simp only [hc_po, hc_pf, List.map_cons, List.map_nil, List.sum_cons, List.sum_nil, Nat.reduceEqDiff, if_false]
  omega
theorem po_ks {o : hc_O} {l : List Int} (h : KSo o l) : hc_po (some o) ≤ 120000 := by
  obtain ⟨c, f, rfl, h1, h2, h3, -⟩ := h
  simp only [oKs, hc_po, hc_pf, List.map_cons, List.map_nil, List.sum_cons, List.sum_nil, Nat.reduceEqDiff, if_false, if_true]
  split <;> omega
theorem po_ly {o : hc_O} {kh : Nat} (h : LYd o kh) : hc_po (some o) ≤ 315300 := by
  obtain ⟨wc, wl, cf, ff, cr, fr, pc, c1, f1, c2, f2, c3, f3, rfl, h1⟩ := h
  simp only [oLz, oLy, hc_po, hc_pf, List.map_cons, List.map_nil, List.sum_cons, List.sum_nil, Nat.reduceEqDiff, if_false]
  omega
theorem po_in {o : hc_O} {l : List Int} {C : Nat} (h : INo o l C) : hc_po (some o) ≤ 3 * C := by
  obtain ⟨c, f, rfl, h1, h2, h3, -⟩ := h
  simp only [oIn, hc_po, hc_pf, List.map_cons, List.map_nil, List.sum_cons, List.sum_nil, Nat.reduceEqDiff, if_false]
  omega
theorem po_mp {o : hc_O} {l : List Int} {C : Nat} (h : MPo o l C) : hc_po (some o) ≤ 3 * C := by
  obtain ⟨c, f, rfl, h1, h2, h3, -⟩ := h
  simp only [oMp, hc_po, hc_pf, List.map_cons, List.map_nil, List.sum_cons, List.sum_nil, Nat.reduceEqDiff, if_false]
  omega
theorem phi_le {σ : hc_H} {S E P N S' E' P' N' : List (Int × Int)} {Ws Ws' : List (List Nat)} {Ps Ps' : List (Int × Nat)} (hC : CLS σ S E P N Ws Ps) (hM : MOD σ S' E' P' N' Ws' Ps') (hn : ∀ k, k < 60 → nob k → mob k → σ k = none) : hc_phi σ ≤ 1947132 := by
  have h2 : ((List.range 60).map cap).sum = 1947132 := by decide +kernel
  rw [← h2]
  unfold hc_phi
  refine sum_le 60 fun k hk => ?_
  obtain ⟨a, b, o1, o4, o7, o10, lk, oa, oh, ob, og, lg, hab, h0, ⟨h1, p1⟩, ⟨h4, p4⟩, ⟨h7, p7⟩, ⟨h10, p10⟩, ⟨ha, pa⟩, ⟨hh, ph⟩, ⟨hb, pb⟩, ⟨hg, pg⟩⟩ := hC
  obtain ⟨h, p, w, b2, h', p', w', b', ct, ft, q, hz, h30, hct, hTM, ⟨l31, ⟨o31, e31, i31⟩, -⟩, ⟨l33, ⟨o33, e33, i33⟩, -⟩, ⟨om, eh, ih⟩, ⟨op, ep, ip⟩, ⟨ow, ew, iw⟩, ⟨lb, ⟨ob2, eb, ib⟩, -⟩, ⟨lh', oh', eh', ih'⟩, ⟨lp', op', ep', ip'⟩, ⟨lw', ow', ew', iw'⟩, ⟨lb', ob', eb', ib'⟩, ⟨la, oa2, ea, ia⟩⟩ := hM
  unfold MHp at hz
  by_cases k1 : k = 1
  · rw [k1, h1]; exact po_pl p1
  by_cases k4 : k = 4
  · rw [k4, h4]; exact po_pl p4
  by_cases k7 : k = 7
  · rw [k7, h7]; exact po_pl p7
  by_cases k10 : k = 10
  · rw [k10, h10]; exact po_ks p10
  by_cases k0 : k = 0
  · rw [k0, h0]; exact Nat.zero_le _
  by_cases k30 : k = 30
  · rw [k30, h30, oMd_po]; exact Nat.zero_le _
  by_cases k31 : k = 31
  · rw [k31, e31]; exact po_in i31
  by_cases k33 : k = 33
  · rw [k33, e33]; exact po_in i33
  by_cases k52 : k = 52
  · rw [k52, ea]; exact po_in ia
  have qa : hc_po (σ a) ≤ 315300 := by rw [ha]; exact po_ly pa.d
  have qb : hc_po (σ b) ≤ 315300 := by rw [hb]; exact po_ly pb
  have qa1 : hc_po (σ (a + 1)) ≤ 72000 := by rw [hh]; exact po_pl ph
  have qb1 : hc_po (σ (b + 1)) ≤ 72000 := by rw [hg]; exact po_pl pg
  have m1 : hc_po (σ h) ≤ 108006 := by rw [eh]; exact po_mp ih
  have m2 : hc_po (σ p) ≤ 120000 := by rw [ep]; exact po_mp ip
  have m3 : hc_po (σ w) ≤ 159744 := by rw [ew]; exact po_in iw
  have m4 : hc_po (σ b2) ≤ 3300 := by rw [eb]; exact po_in ib
  have m5 : hc_po (σ h') ≤ 108006 := by rw [eh']; exact po_mp ih'
  have m6 : hc_po (σ p') ≤ 120000 := by rw [ep']; exact po_mp ip'
  have m7 : hc_po (σ w') ≤ 159744 := by rw [ew']; exact po_in iw'
  have m8 : hc_po (σ b') ≤ 3300 := by rw [eb']; exact po_in ib'
  by_cases k12 : k = 12
  · rw [k12]
    rcases hab with ⟨rfl, rfl⟩ | ⟨rfl, rfl⟩
    · exact qa
    · exact qb
  by_cases k21 : k = 21
  · rw [k21]
    rcases hab with ⟨rfl, rfl⟩ | ⟨rfl, rfl⟩
    · exact qb
    · exact qa
  by_cases k13 : k = 13
  · rw [k13]
    rcases hab with ⟨rfl, rfl⟩ | ⟨rfl, rfl⟩
    · exact qa1
    · exact qb1
  by_cases k22 : k = 22
  · rw [k22]
    rcases hab with ⟨rfl, rfl⟩ | ⟨rfl, rfl⟩
    · exact qb1
    · exact qa1
  by_cases k35 : k = 35
  · rw [k35]
    rcases hz with ⟨rfl, -, -, -, rfl, -⟩ | ⟨rfl, -, -, -, rfl, -⟩
    · exact m1
    · exact m5
  by_cases k44 : k = 44
  · rw [k44]
    rcases hz with ⟨rfl, -, -, -, rfl, -⟩ | ⟨rfl, -, -, -, rfl, -⟩
    · exact m5
    · exact m1
  by_cases k37 : k = 37
  · rw [k37]
    rcases hz with ⟨-, rfl, -, -, -, rfl, -⟩ | ⟨-, rfl, -, -, -, rfl, -⟩
    · exact m2
    · exact m6
  by_cases k46 : k = 46
  · rw [k46]
    rcases hz with ⟨-, rfl, -, -, -, rfl, -⟩ | ⟨-, rfl, -, -, -, rfl, -⟩
    · exact m6
    · exact m2
  by_cases k40 : k = 40
  · rw [k40]
    rcases hz with ⟨-, -, rfl, -, -, -, rfl, -⟩ | ⟨-, -, rfl, -, -, -, rfl, -⟩
    · exact m3
    · exact m7
  by_cases k48 : k = 48
  · rw [k48]
    rcases hz with ⟨-, -, rfl, -, -, -, rfl, -⟩ | ⟨-, -, rfl, -, -, -, rfl, -⟩
    · exact m7
    · exact m3
  by_cases k42 : k = 42
  · rw [k42]
    rcases hz with ⟨-, -, -, rfl, -, -, -, rfl⟩ | ⟨-, -, -, rfl, -, -, -, rfl⟩
    · exact m4
    · exact m8
  by_cases k50 : k = 50
  · rw [k50]
    rcases hz with ⟨-, -, -, rfl, -, -, -, rfl⟩ | ⟨-, -, -, rfl, -, -, -, rfl⟩
    · exact m8
    · exact m4
  rw [hn k hk (by unfold nob; omega) (by unfold mob; omega)]
  exact Nat.zero_le _
