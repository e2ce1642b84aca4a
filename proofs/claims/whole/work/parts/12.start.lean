def R_law : String := "HotCellsLaw"
def lw_P (b : Addr) (xs : List Int32) (args : Array Value) (s : State) : Prop := args = #[.ref b] ∧ s.IntsAt b xs ∧ xs.length ≤ 2560 ∧ (Jvm.Cond.and given_1 narrow_1).before args s = true
def lw_Q (_ : Array Value) (s : State) (o : Outcome) (t : State) : Prop := o = .returned (some (.int 1)) ∧ Framed s o t [] 600000 7302250
def lw_Z (below : List Frame) (a : Array Value) (s : State) : State → Prop := fun t => ∃ o, t.status = .running ∧ Ended t below o ∧ lw_Q a s o t
/-- the law's own end, with 1 on the stack, nothing written that was there before, its room as the claim has it -/
theorem lw_ret {p : Program} {l : Launch} {e : Env} {s : State} {m : MethodId} {below : List Frame} {meth : Method} {c : Code} {b : Nat} (hx : p.tables.exec = Jvm.exec) (hb : c.code = code) (hr : meth.sig.returnType = ret) (hlocks : meth.locks = false) {pc : Nat} {H : Heap} {ls : Array Slot} (hdg : decode code pc = .ok (.ireturn, 1)) : W p l e room_1 s m #[Value.ref b] below meth c H [] 600000 7302250 (lw_Z below #[Value.ref b] s) (F0 m pc ls [.int 1]) := by
  intro T hT X
  obtain ⟨fs, hret, hrun, hended, hW, hframe⟩ := X.leave (v := some (.int 1)) (hlocks := hlocks) (fun h => by rw [hr] at h; cases h)
  have hmeth' : T.vm.method? m = some meth := X.method'
  refine ⟨T.setFrames fs, ?_, .returned (some (.int 1)), hrun, hended, rfl, ⟨_, rfl⟩, hW, hframe⟩
  jvm_step X.here [X.here.top, hx, hb, hdg, hmeth', hr, ret, narrow_b1]
  (try refine ⟨rfl, ?_⟩); (try refine ⟨rfl, ?_⟩)
  first | (intro acts; rw [hret _ acts rfl rfl rfl]) | rw [hret _ _ rfl rfl rfl]
  exact Steps.refl _
/-- what holds at the law's entry: the machine, the code, the tables' words (any of lw_tbl by 'hts w (by decide +kernel)'), the script of L ints xs at the cell b, what the Statement gives of the start (any of its parts by flat_of_before) -/
def lw_At (p : Program) (s : State) (m : MethodId) (meth : Method) (c : Code) (b L : Nat) (xs : Nat → Int32) : Prop :=
  p.tables.exec = Jvm.exec ∧ c.code = code ∧ meth.sig.returnType = ret ∧ c.maxLocals = 4 ∧ s.vm.findClass R_law = some m.cls ∧ (∀ w ∈ lw_tbl, w.before #[Value.ref b] s = true) ∧ va_X b L xs s s.heap ∧ b < s.heap.size ∧ meth.locks = false ∧ (Jvm.Cond.and given_1 narrow_1).before #[Value.ref b] s = true

def hc_G0 : hc_G := (0, 0, 0, 0, fun _ _ => 0)
def hc_σ0 (L : Nat) (xs : Nat → Int32) : hc_H := fun k => if k = 1000 then some (99, [.inr (L, .inl xs)]) else none
theorem hc_start_LR (B b : Nat) : hc_LR B b hc_G0 [some (.inl (.retAddr 0)), none, none, none] (lg_sl ([.ref b] : List Value) ++ List.replicate (4 - (lg_sl ([.ref b] : List Value)).length) Slot.unset).toArray := hc_LR_entry B b hc_G0 [.inl (.retAddr 0)] (n := 4) (by decide)
set_option maxHeartbeats 4000000 in
theorem hc_whole {p : Program} {e : Env} {s : State} {m : MethodId} {below : List Frame} {meth : Method} {c : Code} (l : Launch) {b L : Nat} {xs : Nat → Int32} (C0 : lw_At p s m meth c b L xs)
    (hrun : ∃ n G' σ' t', hc_ex n hc_G0 (hc_σ0 L xs) none 92 0 [some (.inl (.retAddr 0)), none, none, none] [] = some (G', σ', t', some (.inl (.int 1))) ∧ G'.2.1 ≤ 600000 ∧ G'.2.2.1 ≤ 7302250) :
    W p l e room_1 s m #[Value.ref b] below meth c s.heap [] 0 0 (lw_Z below #[Value.ref b] s) (entryFrame m ([Value.ref b] : List Value).toArray 4) := by
  obtain ⟨n, G', σ', t', hex, hcl, hsl⟩ := hrun
  obtain ⟨hx, hb, hr, hml, hown, hts, hX, hbl, hlocks, hgv⟩ := id C0
  have hall : ∀ w ∈ hc_ALL, w.before #[Value.ref b] s = true := fun w hw => hts w (hc_all_tbl hw)
  obtain ⟨c0, i0, k0⟩ := u_known (C := hc_cn 0) (T := hc_ft 0) (N := hc_fn 0) (n := hc_fn 0) hall hc_lyw0 (hall _ (hc_w 69 (by decide +kernel) (by decide +kernel)))
  obtain ⟨c1, i1, k1⟩ := u_known (C := hc_cn 1) (T := hc_ft 1) (N := hc_fn 1) (n := hc_fn 1) hall hc_lyw1 (hall _ (hc_w 86 (by decide +kernel) (by decide +kernel)))
  obtain ⟨c2, i2, k2⟩ := u_known (C := hc_cn 2) (T := hc_ft 2) (N := hc_fn 2) (n := hc_fn 2) hall hc_lyw2 (hall _ (hc_w 46 (by decide +kernel) (by decide +kernel)))
  obtain ⟨c3, i3, k3⟩ := u_known (C := hc_cn 3) (T := hc_ft 3) (N := hc_fn 3) (n := hc_fn 3) hall hc_lyw3 (hall _ (hc_w 38 (by decide +kernel) (by decide +kernel)))
  obtain ⟨c4, i4, k4⟩ := u_known (C := hc_cn 4) (T := hc_ft 4) (N := hc_fn 4) (n := hc_fn 4) hall hc_lyw4 (hall _ (hc_w 347 (by decide +kernel) (by decide +kernel)))
  obtain ⟨c5, i5, k5⟩ := u_known (C := hc_cn 5) (T := hc_ft 5) (N := hc_fn 5) (n := hc_fn 5) hall hc_lyw5 (hall _ (hc_w 362 (by decide +kernel) (by decide +kernel)))
  obtain ⟨c6, i6, k6⟩ := u_known (C := hc_cn 6) (T := hc_ft 6) (N := hc_fn 6) (n := hc_fn 6) hall hc_lyw6 (hall _ (hc_w 341 (by decide +kernel) (by decide +kernel)))
  obtain ⟨D, hD⟩ : ∃ D : va_G, ∀ (k : Nat) (q : vw_C), vwCl[k]? = some q → u_Kn s q.1 q.2.1 q.2.2 (D.1 k) (D.2 k) := by
    refine ⟨(fun k => match k with | 0 => c0 | 1 => c1 | 2 => c2 | 3 => c3 | 4 => c4 | 5 => c5 | _ => c6, fun k => match k with | 0 => i0 | 1 => i1 | 2 => i2 | 3 => i3 | 4 => i4 | 5 => i5 | _ => i6), ?_⟩
    intro k q hq
    match k, hq with
    | 0, hq => cases hq; exact k0
    | 1, hq => cases hq; exact k1
    | 2, hq => cases hq; exact k2
    | 3, hq => cases hq; exact k3
    | 4, hq => cases hq; exact k4
    | 5, hq => cases hq; exact k5
    | 6, hq => cases hq; exact k6
    | k + 7, hq => simp [vwCl] at hq
  obtain ⟨cI, kI, compI, hfI, hkI, hkindI⟩ := Cond.arrayClass_spec (hall _ hc_arw.1)
  obtain ⟨cJ, kJ, compJ, hfJ, hkJ, hkindJ⟩ := Cond.arrayClass_spec (hall _ hc_arw.2)
  have hK : va_K D vwCl [(cI, .int), (cJ, .long)] s := by
    refine ⟨hD, fun k q hq => ?_⟩
    match k, hq with
    | 0, hq => cases hq; exact ⟨fun n z => ⟨fun k h => (by cases h), kI, hkI, compI, hkindI⟩, hfI⟩
    | 1, hq => cases hq; exact ⟨fun n z => ⟨fun k h => (by cases h), kJ, hkJ, compJ, hkindJ⟩, hfJ⟩
    | k + 2, hq => simp at hq
  have hC : hc_C D cI cJ hc_NW p room_1 s m #[Value.ref b] meth c 92 := ⟨hx, hb, hml, hown, hall, hK, fun w hw => by
    have h1 := hts _ (hc_nww w hw)
    obtain ⟨x1, x2, x3, x4, rfl⟩ := hc_nw_form hw
    exact va_Nw.of rfl h1, by decide, by decide, fun h => by cases h⟩
  have hR : hc_Rel D cI cJ s.heap.size b s hc_G0 (hc_σ0 L xs) none s.heap := by
    have no : ∀ {k c fs}, hc_σ0 L xs k = some (c, fs) → ¬ c < 99 := by
      intro k c fs h
      unfold hc_σ0 at h
      split at h
      · cases h
        omega
      · cases h
    refine ⟨⟨rfl, hbl⟩, fun k c fs h1 h2 => absurd h2 (no h1), ?_, fun r h => absurd h (by simp), ?_, ?_, fun r h => absurd h (by simp), fun r h => ?_⟩
    · rintro k j r ⟨c, fs, h1, h2, -⟩
      exact absurd h2 (no h1)
    · rintro k j r k' ⟨c, fs, h1, h2, -⟩
      exact absurd h2 (no h1)
    · rintro k j r k' j' r' ⟨c, fs, h1, h2, -⟩
      exact absurd h2 (no h1)
    · have h3 : hc_σ0 L xs 1000 = some (99, [.inr (L, .inl xs)]) := by simp [hc_σ0]
      rw [h3] at h
      cases h
      exact ⟨xs, rfl, hX⟩
  rw [lg_entry_eq]
  have K := hc_sound n hex rfl (n0 := 0) (s0 := 0) (locs := []) (l := l) (e := e) (below := below) (Q := lw_Z below #[Value.ref b] s) hC hR (hc_start_LR s.heap.size b) (fun _ h => by cases h) (Nat.le_refl _) (Nat.le_refl _) (by show G'.2.1 - 0 ≤ 600000; omega) (by show G'.2.2.1 - 0 ≤ 7302250; omega) ?_
  · exact K
  · intro pc1 w i st1 sl1 H1 locs1 hd hrt hR1 hlo
    unfold hc_rtn at hrt
    split at hrt
    · rename_i v
      split at hrt
      · rename_i hty
        cases hty
      · rename_i hty
        split at hrt
        · rename_i hv
          cases hrt
          refine va_forget (fun q hq => hlo q hq) ?_
          refine W.widen (k := 600000) (n := 7302250) (by omega) (by omega) ?_
          exact lw_ret hx hb hr hlocks hd
        · cases hrt
      · cases hrt
    · split at hrt
      · cases hrt
      · cases hrt
    · split at hrt
      · cases hrt
      · cases hrt
    · split at hrt
      · cases hrt
      · cases hrt
    · cases hrt
