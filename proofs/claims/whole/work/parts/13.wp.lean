/-! WEAKEST PRECONDITIONS of the small machine -/
theorem hc_ex_succ : ∀ (n : Nat) {mi pc : Nat} {ls : hc_L} {st : List hc_V} {G : hc_G} {σ : hc_H} {t : hc_T} {x : hc_Z}, hc_ex n G σ t mi pc ls st = some x → hc_ex (n + 1) G σ t mi pc ls st = some x := by
  intro n
  induction n with
  | zero =>
    intro mi pc ls st G σ t x h
    cases h
  | succ n ih =>
    intro mi pc ls st G σ t x
    rw [hc_ex, hc_ex]
    cases decode (hc_b mi) pc with
    | error _ => exact id
    | ok iw =>
      obtain ⟨i, w⟩ := iw
      dsimp only
      cases hc_loc mi pc ls st i w with
      | some y => exact ih
      | none =>
        dsimp only
        cases hc_hep mi G σ t ls st i w with
        | some y => exact ih
        | none =>
          dsimp only
          cases hc_rtn mi st i w with
          | some y => exact id
          | none =>
            dsimp only
            cases hc_cal mi σ st i w with
            | none => exact id
            | some y =>
              obtain ⟨m2, l2, st2⟩ := y
              dsimp only
              cases h1 : hc_ex n G σ t m2 0 l2 [] with
              | none => intro h; cases h
              | some z =>
                rw [ih h1]
                obtain ⟨G', σ', t', r⟩ := z
                dsimp only
                split
                · exact ih
                · split
                  · exact ih
                  · exact id
theorem hc_ex_more {n k : Nat} {mi pc : Nat} {ls : hc_L} {st : List hc_V} {G : hc_G} {σ : hc_H} {t : hc_T} {x : hc_Z} (h : hc_ex n G σ t mi pc ls st = some x) (hk : n ≤ k) : hc_ex k G σ t mi pc ls st = some x := by
  obtain ⟨d, rfl⟩ := Nat.exists_eq_add_of_le hk
  induction d with
  | zero => exact h
  | succ d ih => exact hc_ex_succ _ (ih (by omega))
def hc_wp (G : hc_G) (σ : hc_H) (t : hc_T) (mi pc : Nat) (ls : hc_L) (st : List hc_V) (Q : hc_Q) : Prop := ∃ n G' σ' t' r, hc_ex n G σ t mi pc ls st = some (G', σ', t', r) ∧ Q G' σ' t' r
theorem hc_wp_mono {G : hc_G} {σ : hc_H} {t : hc_T} {mi pc : Nat} {ls : hc_L} {st : List hc_V} {Q Q' : hc_Q} (h : hc_wp G σ t mi pc ls st Q) (hq : ∀ G' σ' t' r, Q G' σ' t' r → Q' G' σ' t' r) : hc_wp G σ t mi pc ls st Q' := by
  obtain ⟨n, G', σ', t', r, h1, h2⟩ := h
  exact ⟨n, G', σ', t', r, h1, hq _ _ _ _ h2⟩
def hc_bk (G G' : hc_G) (ls : hc_L) (st : List hc_V) (K : hc_L → Prop) : Prop := if G'.1 = G.1 then K ls else hc_np st = true ∧ K (hc_kp ls)
theorem hc_bk_rf (G : hc_G) (ls : hc_L) (st : List hc_V) (K : hc_L → Prop) : hc_bk G G ls st K = K ls := by simp [hc_bk]
theorem hc_bk_np {G G' : hc_G} {ls : hc_L} {st : List hc_V} {K : hc_L → Prop} (h1 : hc_np st = true) (h2 : hc_kp ls = ls) : hc_bk G G' ls st K = K ls := by
  unfold hc_bk
  rw [h1, h2]
  by_cases h : G'.1 = G.1
  · rw [if_pos h]
  · rw [if_neg h]
    simp
theorem hcw_gen {G : hc_G} {σ : hc_H} {t : hc_T} {mi pc w : Nat} {cc : ByteArray} {i : Instr} {ls : hc_L} {st : List hc_V} {Q : hc_Q} (hb : hc_b mi = cc) (hd : decode cc pc = .ok (i, w)) : hc_wp G σ t mi pc ls st Q = (match hc_loc mi pc ls st i w with
    | some (pc', ls', st') => hc_wp G σ t mi pc' ls' st' Q
    | none => match hc_hep mi G σ t ls st i w with
      | some (G', σ', t', ls', st') => hc_wp G' σ' t' mi (pc + w) ls' st' Q
      | none => match hc_rtn mi st i w with
        | some r => Q G σ t r
        | none => match hc_cal mi σ st i w with
          | some (m2, l2, st2) => hc_wp G σ t m2 0 l2 [] (fun G' σ' t' r => hc_bk G G' ls st2 (fun ls' => hc_wp G' σ' t' mi (pc + w) ls' (hc_psh r st2) Q))
          | none => False) := by
  have one : ∀ (x : hc_Z), (∃ n, hc_ex n G σ t mi pc ls st = some x) ↔ (∃ n, hc_ex (n + 1) G σ t mi pc ls st = some x) := by
    intro x
    constructor
    · rintro ⟨n, h⟩
      exact ⟨n, hc_ex_succ _ h⟩
    · rintro ⟨n, h⟩
      exact ⟨n + 1, h⟩
  have two : hc_wp G σ t mi pc ls st Q ↔ ∃ n G' σ' t' r, hc_ex (n + 1) G σ t mi pc ls st = some (G', σ', t', r) ∧ Q G' σ' t' r := by
    constructor
    · rintro ⟨n, G', σ', t', r, h, hq⟩
      exact ⟨n, G', σ', t', r, hc_ex_succ _ h, hq⟩
    · rintro ⟨n, G', σ', t', r, h, hq⟩
      exact ⟨n + 1, G', σ', t', r, h, hq⟩
  apply propext
  rw [two]
  simp only [hc_ex, hb, hd]
  cases hc_loc mi pc ls st i w with
  | some y => exact Iff.rfl
  | none =>
    dsimp only
    cases hc_hep mi G σ t ls st i w with
    | some y => exact Iff.rfl
    | none =>
      dsimp only
      cases hc_rtn mi st i w with
      | some y =>
        constructor
        · rintro ⟨n, G', σ', t', r, h, hq⟩
          cases h
          exact hq
        · intro h
          exact ⟨0, _, _, _, _, rfl, h⟩
      | none =>
        dsimp only
        cases hc_cal mi σ st i w with
        | none =>
          constructor
          · rintro ⟨n, G', σ', t', r, h, hq⟩
            cases h
          · exact False.elim
        | some y =>
          obtain ⟨m2, l2, st2⟩ := y
          dsimp only
          constructor
          · rintro ⟨n, G', σ', t', r, h, hq⟩
            cases h1 : hc_ex n G σ t m2 0 l2 [] with
            | none => rw [h1] at h; cases h
            | some z =>
              rw [h1] at h
              obtain ⟨G1, σ1, t1, r1⟩ := z
              dsimp only at h
              refine ⟨n, G1, σ1, t1, r1, h1, ?_⟩
              simp only [hc_bk]
              split
              · rename_i he
                rw [if_pos he] at h
                exact ⟨n, _, _, _, _, h, hq⟩
              · rename_i he
                rw [if_neg he] at h
                split at h
                · rename_i hn
                  exact ⟨hn, n, _, _, _, _, h, hq⟩
                · cases h
          · rintro ⟨n, G1, σ1, t1, r1, h1, hk⟩
            simp only [hc_bk] at hk
            split at hk
            · rename_i he
              obtain ⟨n2, G', σ', t', r, h2, hq⟩ := hk
              refine ⟨n + n2, G', σ', t', r, ?_, hq⟩
              rw [hc_ex_more h1 (Nat.le_add_right n n2)]
              dsimp only
              rw [if_pos he]
              exact hc_ex_more h2 (Nat.le_add_left n2 n)
            · rename_i he
              obtain ⟨hn, n2, G', σ', t', r, h2, hq⟩ := hk
              refine ⟨n + n2, G', σ', t', r, ?_, hq⟩
              rw [hc_ex_more h1 (Nat.le_add_right n n2)]
              dsimp only
              rw [if_neg he, if_pos hn]
              exact hc_ex_more h2 (Nat.le_add_left n2 n)

section HCW
variable {G : hc_G} {σ : hc_H} {t : hc_T} {mi pc np : Nat} {cc : ByteArray} {ls : hc_L} {st : List hc_V} {Q : hc_Q}
/-- an option's value goes on -/
def hc_on {α : Type} (o : Option α) (K : α → Prop) : Prop := match o with
  | some a => K a
  | none => False
theorem hc_on_some {α : Type} (a : α) (K : α → Prop) : hc_on (some a) K = K a := rfl
def hc_get (σ : hc_H) (k c j : Nat) (K : hc_V → Prop) : Prop := match σ k with
  | some (c', fs) => c' = c ∧ hc_on fs[j]? (fun f => K (hc_fv k j f))
  | none => False
def hc_put (σ : hc_H) (k c j : Nat) (v : Value) (K : hc_H → Prop) : Prop := match σ k with
  | some (c', fs) => c' = c ∧ (match fs[j]? with
    | some (.inl _) => K (hc_set σ k (c, fs.set j (.inl v)))
    | _ => False)
  | none => False
def hc_mov (σ : hc_H) (k c j : Nat) (r : hc_R) (st : List hc_V) (K : hc_H → Prop) : Prop := match σ k with
  | some (c', fs) => c' = c ∧ hc_np st = true ∧ j < fs.length ∧ K (hc_set σ k (c, fs.set j (.inr r)))
  | none => False
def hc_ri (σ : hc_H) (t : hc_T) (v : hc_V) (K : Nat → (Nat → Int32) → Prop) : Prop := match hc_row σ t v with
  | some (n, .inl f) => K n f
  | _ => False
def hc_rl (σ : hc_H) (t : hc_T) (v : hc_V) (K : Nat → (Nat → Int64) → Prop) : Prop := match hc_row σ t v with
  | some (n, .inr f) => K n f
  | _ => False
def hc_is (σ : hc_H) (k c : Nat) : Prop := match σ k with
  | some (c', _) => c' = c
  | none => False
def hc_inn (i : Int32) (n : Nat) : Prop := ¬ i < 0 ∧ i.toNatClampNeg < n
def hc_smi (σ : hc_H) (k c j : Nat) (K : Prop) : Prop := match σ k with
  | some (c', fs) => c' = c ∧ (match fs[j]? with
    | some (.inr (_, .inl _)) => K
    | _ => False)
  | none => False
def hc_sml (σ : hc_H) (k c j : Nat) (K : Prop) : Prop := match σ k with
  | some (c', fs) => c' = c ∧ (match fs[j]? with
    | some (.inr (_, .inr _)) => K
    | _ => False)
  | none => False
theorem hc_inB_iff {i : Int32} {n : Nat} : hc_inB i n = true ↔ hc_inn i n := by simp [hc_inB, hc_inn]
theorem hcw_iconst {n : Int} {v : Int32} (hb : hc_b mi = cc) (hd : decode cc pc = .ok (.iconst n, 1)) (hp : pc + 1 = np) (hv : Int32.ofInt n = v) : hc_wp G σ t mi pc ls (st) Q = hc_wp G σ t mi np ls (.inl (.int v) :: st) Q := by
  subst hp
  subst hv
  rw [hcw_gen hb hd]
  rfl
theorem hcw_bipush {n : Int} {v : Int32} (hb : hc_b mi = cc) (hd : decode cc pc = .ok (.bipush n, 2)) (hp : pc + 2 = np) (hv : (Int8.ofInt n).toInt32 = v) : hc_wp G σ t mi pc ls (st) Q = hc_wp G σ t mi np ls (.inl (.int v) :: st) Q := by
  subst hp
  subst hv
  rw [hcw_gen hb hd]
  rfl
theorem hcw_sipush {n : Int} {v : Int32} (hb : hc_b mi = cc) (hd : decode cc pc = .ok (.sipush n, 3)) (hp : pc + 3 = np) (hv : (Int16.ofInt n).toInt32 = v) : hc_wp G σ t mi pc ls (st) Q = hc_wp G σ t mi np ls (.inl (.int v) :: st) Q := by
  subst hp
  subst hv
  rw [hcw_gen hb hd]
  rfl
theorem hcw_lconst {n : Fin 2} {v : Int64} (hb : hc_b mi = cc) (hd : decode cc pc = .ok (.lconst n, 1)) (hp : pc + 1 = np) (hv : Int64.ofNat (n : Nat) = v) : hc_wp G σ t mi pc ls (st) Q = hc_wp G σ t mi np ls (.inl (.long v) :: st) Q := by
  subst hp
  subst hv
  rw [hcw_gen hb hd]
  rfl
theorem hcw_ldc {ow cp : Nat} {v : Int32} (hb : hc_b mi = cc) (hd : decode cc pc = .ok (.ldc cp, 2)) (hp : pc + 2 = np) (ho : hc_own mi = ow) (hv : hc_k32 ow cp = some v) : hc_wp G σ t mi pc ls (st) Q = hc_wp G σ t mi np ls (.inl (.int v) :: st) Q := by
  subst hp
  subst ho
  rw [hcw_gen hb hd]
  simp only [hc_loc, hv]
theorem hcw_ldc2 {ow cp : Nat} {v : Int64} (hb : hc_b mi = cc) (hd : decode cc pc = .ok (.ldc2_w cp, 3)) (hp : pc + 3 = np) (ho : hc_own mi = ow) (hv : hc_k64 ow cp = some v) : hc_wp G σ t mi pc ls (st) Q = hc_wp G σ t mi np ls (.inl (.long v) :: st) Q := by
  subst hp
  subst ho
  rw [hcw_gen hb hd]
  simp only [hc_loc, hv]
theorem hcw_iload_n {k : Fin 4} {kk : Nat} (hb : hc_b mi = cc) (hd : decode cc pc = .ok (.iload_n k, 1)) (hp : pc + 1 = np) (hk : (k : Nat) = kk) : hc_wp G σ t mi pc ls st Q = hc_on (hc_ld 0 ls kk) (fun v => hc_wp G σ t mi np ls (v :: st) Q) := by
  subst hp; subst hk
  rw [hcw_gen hb hd]
  simp only [hc_loc]
  cases hc_ld 0 ls (k : Nat) <;> rfl
theorem hcw_iload {k : Nat} {kk : Nat} (hb : hc_b mi = cc) (hd : decode cc pc = .ok (.iload k, 2)) (hp : pc + 2 = np) (hk : k = kk) : hc_wp G σ t mi pc ls st Q = hc_on (hc_ld 0 ls kk) (fun v => hc_wp G σ t mi np ls (v :: st) Q) := by
  subst hp; subst hk
  rw [hcw_gen hb hd]
  simp only [hc_loc]
  cases hc_ld 0 ls k <;> rfl
theorem hcw_lload_n {k : Fin 4} {kk : Nat} (hb : hc_b mi = cc) (hd : decode cc pc = .ok (.lload_n k, 1)) (hp : pc + 1 = np) (hk : (k : Nat) = kk) : hc_wp G σ t mi pc ls st Q = hc_on (hc_ld 1 ls kk) (fun v => hc_wp G σ t mi np ls (v :: st) Q) := by
  subst hp; subst hk
  rw [hcw_gen hb hd]
  simp only [hc_loc]
  cases hc_ld 1 ls (k : Nat) <;> rfl
theorem hcw_lload {k : Nat} {kk : Nat} (hb : hc_b mi = cc) (hd : decode cc pc = .ok (.lload k, 2)) (hp : pc + 2 = np) (hk : k = kk) : hc_wp G σ t mi pc ls st Q = hc_on (hc_ld 1 ls kk) (fun v => hc_wp G σ t mi np ls (v :: st) Q) := by
  subst hp; subst hk
  rw [hcw_gen hb hd]
  simp only [hc_loc]
  cases hc_ld 1 ls k <;> rfl
theorem hcw_aload_n {k : Fin 4} {kk : Nat} (hb : hc_b mi = cc) (hd : decode cc pc = .ok (.aload_n k, 1)) (hp : pc + 1 = np) (hk : (k : Nat) = kk) : hc_wp G σ t mi pc ls st Q = hc_on (hc_ld 2 ls kk) (fun v => hc_wp G σ t mi np ls (v :: st) Q) := by
  subst hp; subst hk
  rw [hcw_gen hb hd]
  simp only [hc_loc]
  cases hc_ld 2 ls (k : Nat) <;> rfl
theorem hcw_aload {k : Nat} {kk : Nat} (hb : hc_b mi = cc) (hd : decode cc pc = .ok (.aload k, 2)) (hp : pc + 2 = np) (hk : k = kk) : hc_wp G σ t mi pc ls st Q = hc_on (hc_ld 2 ls kk) (fun v => hc_wp G σ t mi np ls (v :: st) Q) := by
  subst hp; subst hk
  rw [hcw_gen hb hd]
  simp only [hc_loc]
  cases hc_ld 2 ls k <;> rfl
theorem hcw_istore_n {k : Fin 4} {kk : Nat} (hb : hc_b mi = cc) (hd : decode cc pc = .ok (.istore_n k, 1)) (hp : pc + 1 = np) (hk : (k : Nat) = kk) (hm : kk < hc_mx mi) {x : Int32} : hc_wp G σ t mi pc ls (.inl (.int x) :: st) Q = hc_wp G σ t mi np (hc_sto ls kk (.inl (.int x))) st Q := by
  subst hp; subst hk
  rw [hcw_gen hb hd]
  simp only [hc_loc, if_pos hm]
theorem hcw_istore {k : Nat} {kk : Nat} (hb : hc_b mi = cc) (hd : decode cc pc = .ok (.istore k, 2)) (hp : pc + 2 = np) (hk : k = kk) (hm : kk < hc_mx mi) {x : Int32} : hc_wp G σ t mi pc ls (.inl (.int x) :: st) Q = hc_wp G σ t mi np (hc_sto ls kk (.inl (.int x))) st Q := by
  subst hp; subst hk
  rw [hcw_gen hb hd]
  simp only [hc_loc, if_pos hm]
theorem hcw_lstore_n {k : Fin 4} {kk : Nat} (hb : hc_b mi = cc) (hd : decode cc pc = .ok (.lstore_n k, 1)) (hp : pc + 1 = np) (hk : (k : Nat) = kk) (hm : kk + 1 < hc_mx mi) {x : Int64} : hc_wp G σ t mi pc ls (.inl (.long x) :: st) Q = hc_wp G σ t mi np (hc_sto ls kk (.inl (.long x))) st Q := by
  subst hp; subst hk
  rw [hcw_gen hb hd]
  simp only [hc_loc, if_pos hm]
theorem hcw_lstore {k : Nat} {kk : Nat} (hb : hc_b mi = cc) (hd : decode cc pc = .ok (.lstore k, 2)) (hp : pc + 2 = np) (hk : k = kk) (hm : kk + 1 < hc_mx mi) {x : Int64} : hc_wp G σ t mi pc ls (.inl (.long x) :: st) Q = hc_wp G σ t mi np (hc_sto ls kk (.inl (.long x))) st Q := by
  subst hp; subst hk
  rw [hcw_gen hb hd]
  simp only [hc_loc, if_pos hm]
theorem hcw_astore_nr {k : Fin 4} {kk : Nat} (hb : hc_b mi = cc) (hd : decode cc pc = .ok (.astore_n k, 1)) (hp : pc + 1 = np) (hk : (k : Nat) = kk) (hm : kk < hc_mx mi) {a : Nat} : hc_wp G σ t mi pc ls (.inl (.ref a) :: st) Q = hc_wp G σ t mi np (hc_sto ls kk (.inl (.ref a))) st Q := by
  subst hp; subst hk
  rw [hcw_gen hb hd]
  simp only [hc_loc, hc_kd, true_and, if_pos hm]
theorem hcw_astore_np {k : Fin 4} {kk : Nat} (hb : hc_b mi = cc) (hd : decode cc pc = .ok (.astore_n k, 1)) (hp : pc + 1 = np) (hk : (k : Nat) = kk) (hm : kk < hc_mx mi) {a : Option (Nat × Nat)} : hc_wp G σ t mi pc ls (.inr a :: st) Q = hc_wp G σ t mi np (hc_sto ls kk (.inr a)) st Q := by
  subst hp; subst hk
  rw [hcw_gen hb hd]
  simp only [hc_loc, hc_kd, true_and, if_pos hm]
theorem hcw_astorer {k : Nat} {kk : Nat} (hb : hc_b mi = cc) (hd : decode cc pc = .ok (.astore k, 2)) (hp : pc + 2 = np) (hk : k = kk) (hm : kk < hc_mx mi) {a : Nat} : hc_wp G σ t mi pc ls (.inl (.ref a) :: st) Q = hc_wp G σ t mi np (hc_sto ls kk (.inl (.ref a))) st Q := by
  subst hp; subst hk
  rw [hcw_gen hb hd]
  simp only [hc_loc, hc_kd, true_and, if_pos hm]
theorem hcw_astorep {k : Nat} {kk : Nat} (hb : hc_b mi = cc) (hd : decode cc pc = .ok (.astore k, 2)) (hp : pc + 2 = np) (hk : k = kk) (hm : kk < hc_mx mi) {a : Option (Nat × Nat)} : hc_wp G σ t mi pc ls (.inr a :: st) Q = hc_wp G σ t mi np (hc_sto ls kk (.inr a)) st Q := by
  subst hp; subst hk
  rw [hcw_gen hb hd]
  simp only [hc_loc, hc_kd, true_and, if_pos hm]
def hc_inc (ls : hc_L) (k : Nat) (n : Int32) (K : hc_L → Prop) : Prop := match ls[k]? with
  | some (some (.inl (.int x))) => K (hc_sto ls k (.inl (.int (x + n))))
  | _ => False
theorem hcw_iinc {k : Nat} {n : Int} {v : Int32} (hb : hc_b mi = cc) (hd : decode cc pc = .ok (.iinc k n, 3)) (hp : pc + 3 = np) (hv : Int32.ofInt n = v) : hc_wp G σ t mi pc ls st Q = hc_inc ls k v (fun ls' => hc_wp G σ t mi np ls' st Q) := by
  subst hp; subst hv
  rw [hcw_gen hb hd]
  have z1 : hc_hep mi G σ t ls st (.iinc k n) 3 = none := rfl
  have z2 : hc_rtn mi st (.iinc k n) 3 = none := rfl
  have z3 : hc_cal mi σ st (.iinc k n) 3 = none := rfl
  rw [z1, z2, z3]
  unfold hc_inc
  rcases hx : ls[k]? with _ | (_ | (v | p)) <;> first | (simp [hc_loc, hx]; done) | skip
  cases v <;> simp [hc_loc, hx]
theorem hcw_iadd {x y : Int32} (hb : hc_b mi = cc) (hd : decode cc pc = .ok (.iadd, 1)) (hp : pc + 1 = np)  : hc_wp G σ t mi pc ls (.inl (.int y) :: .inl (.int x) :: st) Q = hc_wp G σ t mi np ls (.inl (.int (x + y)) :: st) Q := by
  subst hp
  rw [hcw_gen hb hd]
  rfl
theorem hcw_isub {x y : Int32} (hb : hc_b mi = cc) (hd : decode cc pc = .ok (.isub, 1)) (hp : pc + 1 = np)  : hc_wp G σ t mi pc ls (.inl (.int y) :: .inl (.int x) :: st) Q = hc_wp G σ t mi np ls (.inl (.int (x - y)) :: st) Q := by
  subst hp
  rw [hcw_gen hb hd]
  rfl
theorem hcw_imul {x y : Int32} (hb : hc_b mi = cc) (hd : decode cc pc = .ok (.imul, 1)) (hp : pc + 1 = np)  : hc_wp G σ t mi pc ls (.inl (.int y) :: .inl (.int x) :: st) Q = hc_wp G σ t mi np ls (.inl (.int (x * y)) :: st) Q := by
  subst hp
  rw [hcw_gen hb hd]
  rfl
theorem hcw_iand {x y : Int32} (hb : hc_b mi = cc) (hd : decode cc pc = .ok (.iand, 1)) (hp : pc + 1 = np)  : hc_wp G σ t mi pc ls (.inl (.int y) :: .inl (.int x) :: st) Q = hc_wp G σ t mi np ls (.inl (.int (x &&& y)) :: st) Q := by
  subst hp
  rw [hcw_gen hb hd]
  rfl
theorem hcw_ladd {x y : Int64} (hb : hc_b mi = cc) (hd : decode cc pc = .ok (.ladd, 1)) (hp : pc + 1 = np)  : hc_wp G σ t mi pc ls (.inl (.long y) :: .inl (.long x) :: st) Q = hc_wp G σ t mi np ls (.inl (.long (x + y)) :: st) Q := by
  subst hp
  rw [hcw_gen hb hd]
  rfl
theorem hcw_lsub {x y : Int64} (hb : hc_b mi = cc) (hd : decode cc pc = .ok (.lsub, 1)) (hp : pc + 1 = np)  : hc_wp G σ t mi pc ls (.inl (.long y) :: .inl (.long x) :: st) Q = hc_wp G σ t mi np ls (.inl (.long (x - y)) :: st) Q := by
  subst hp
  rw [hcw_gen hb hd]
  rfl
theorem hcw_lmul {x y : Int64} (hb : hc_b mi = cc) (hd : decode cc pc = .ok (.lmul, 1)) (hp : pc + 1 = np)  : hc_wp G σ t mi pc ls (.inl (.long y) :: .inl (.long x) :: st) Q = hc_wp G σ t mi np ls (.inl (.long (x * y)) :: st) Q := by
  subst hp
  rw [hcw_gen hb hd]
  rfl
theorem hcw_land {x y : Int64} (hb : hc_b mi = cc) (hd : decode cc pc = .ok (.land, 1)) (hp : pc + 1 = np)  : hc_wp G σ t mi pc ls (.inl (.long y) :: .inl (.long x) :: st) Q = hc_wp G σ t mi np ls (.inl (.long (x &&& y)) :: st) Q := by
  subst hp
  rw [hcw_gen hb hd]
  rfl
theorem hcw_lor {x y : Int64} (hb : hc_b mi = cc) (hd : decode cc pc = .ok (.lor, 1)) (hp : pc + 1 = np)  : hc_wp G σ t mi pc ls (.inl (.long y) :: .inl (.long x) :: st) Q = hc_wp G σ t mi np ls (.inl (.long (x ||| y)) :: st) Q := by
  subst hp
  rw [hcw_gen hb hd]
  rfl
theorem hcw_lxor {x y : Int64} (hb : hc_b mi = cc) (hd : decode cc pc = .ok (.lxor, 1)) (hp : pc + 1 = np)  : hc_wp G σ t mi pc ls (.inl (.long y) :: .inl (.long x) :: st) Q = hc_wp G σ t mi np ls (.inl (.long (x ^^^ y)) :: st) Q := by
  subst hp
  rw [hcw_gen hb hd]
  rfl
theorem hcw_idiv {x y : Int32} (hb : hc_b mi = cc) (hd : decode cc pc = .ok (.idiv, 1)) (hp : pc + 1 = np) : hc_wp G σ t mi pc ls (.inl (.int y) :: .inl (.int x) :: st) Q = (¬ y = 0 ∧ hc_wp G σ t mi np ls (.inl (.int (x / y)) :: st) Q) := by
  subst hp
  rw [hcw_gen hb hd]
  by_cases h : y = 0
  · simp only [hc_loc, if_pos h, hc_hep, hc_rtn, hc_cal]
    simp [h]
  · simp only [hc_loc, if_neg h]
    simp [h]
theorem hcw_ldiv {x y : Int64} (hb : hc_b mi = cc) (hd : decode cc pc = .ok (.ldiv, 1)) (hp : pc + 1 = np) : hc_wp G σ t mi pc ls (.inl (.long y) :: .inl (.long x) :: st) Q = (¬ y = 0 ∧ hc_wp G σ t mi np ls (.inl (.long (x / y)) :: st) Q) := by
  subst hp
  rw [hcw_gen hb hd]
  by_cases h : y = 0
  · simp only [hc_loc, if_pos h, hc_hep, hc_rtn, hc_cal]
    simp [h]
  · simp only [hc_loc, if_neg h]
    simp [h]
theorem hcw_lrem {x y : Int64} (hb : hc_b mi = cc) (hd : decode cc pc = .ok (.lrem, 1)) (hp : pc + 1 = np) : hc_wp G σ t mi pc ls (.inl (.long y) :: .inl (.long x) :: st) Q = (¬ y = 0 ∧ hc_wp G σ t mi np ls (.inl (.long (x - x / y * y)) :: st) Q) := by
  subst hp
  rw [hcw_gen hb hd]
  by_cases h : y = 0
  · simp only [hc_loc, if_pos h, hc_hep, hc_rtn, hc_cal]
    simp [h]
  · simp only [hc_loc, if_neg h]
    simp [h]
theorem hcw_lneg {x : Int64} (hb : hc_b mi = cc) (hd : decode cc pc = .ok (.lneg, 1)) (hp : pc + 1 = np)  : hc_wp G σ t mi pc ls (.inl (.long x) :: st) Q = hc_wp G σ t mi np ls (.inl (.long (-x)) :: st) Q := by
  subst hp
  rw [hcw_gen hb hd]
  rfl
theorem hcw_lshl {x : Int64} {y : Int32} (hb : hc_b mi = cc) (hd : decode cc pc = .ok (.lshl, 1)) (hp : pc + 1 = np)  : hc_wp G σ t mi pc ls (.inl (.int y) :: .inl (.long x) :: st) Q = hc_wp G σ t mi np ls (.inl (.long (x <<< (y.toInt64 &&& 63))) :: st) Q := by
  subst hp
  rw [hcw_gen hb hd]
  rfl
theorem hcw_lshr {x : Int64} {y : Int32} (hb : hc_b mi = cc) (hd : decode cc pc = .ok (.lshr, 1)) (hp : pc + 1 = np)  : hc_wp G σ t mi pc ls (.inl (.int y) :: .inl (.long x) :: st) Q = hc_wp G σ t mi np ls (.inl (.long (x >>> (y.toInt64 &&& 63))) :: st) Q := by
  subst hp
  rw [hcw_gen hb hd]
  rfl
theorem hcw_lcmp {x y : Int64} (hb : hc_b mi = cc) (hd : decode cc pc = .ok (.lcmp, 1)) (hp : pc + 1 = np)  : hc_wp G σ t mi pc ls (.inl (.long y) :: .inl (.long x) :: st) Q = hc_wp G σ t mi np ls (.inl (.int (lg_cmp x y)) :: st) Q := by
  subst hp
  rw [hcw_gen hb hd]
  rfl
theorem hcw_i2l {x : Int32} (hb : hc_b mi = cc) (hd : decode cc pc = .ok (.i2l, 1)) (hp : pc + 1 = np)  : hc_wp G σ t mi pc ls (.inl (.int x) :: st) Q = hc_wp G σ t mi np ls (.inl (.long x.toInt64) :: st) Q := by
  subst hp
  rw [hcw_gen hb hd]
  rfl
theorem hcw_l2i {x : Int64} (hb : hc_b mi = cc) (hd : decode cc pc = .ok (.l2i, 1)) (hp : pc + 1 = np)  : hc_wp G σ t mi pc ls (.inl (.long x) :: st) Q = hc_wp G σ t mi np ls (.inl (.int x.toInt32) :: st) Q := by
  subst hp
  rw [hcw_gen hb hd]
  rfl
theorem hcw_dup {k : Nat} (hb : hc_b mi = cc) (hd : decode cc pc = .ok (.dup, 1)) (hp : pc + 1 = np)  : hc_wp G σ t mi pc ls (.inl (.ref k) :: st) Q = hc_wp G σ t mi np ls (.inl (.ref k) :: .inl (.ref k) :: st) Q := by
  subst hp
  rw [hcw_gen hb hd]
  rfl
theorem hcw_dup2 {x : Int32} {a : Option (Nat × Nat)} (hb : hc_b mi = cc) (hd : decode cc pc = .ok (.dup2, 1)) (hp : pc + 1 = np)  : hc_wp G σ t mi pc ls (.inl (.int x) :: .inr a :: st) Q = hc_wp G σ t mi np ls (.inl (.int x) :: .inr a :: .inl (.int x) :: .inr a :: st) Q := by
  subst hp
  rw [hcw_gen hb hd]
  simp [hc_loc, hc_two, Value.category]
theorem hcw_goto {off : Int} {tgt : Nat} (hb : hc_b mi = cc) (hd : decode cc pc = .ok (.goto off, 3)) (ht : (pc : Int) + off = (tgt : Int)) : hc_wp G σ t mi pc ls st Q = hc_wp G σ t mi tgt ls st Q := by
  rw [hcw_gen hb hd]
  have h0 : 0 ≤ (pc : Int) + off := by omega
  have h1 : hc_tg pc off = tgt := by unfold hc_tg; omega
  simp only [hc_loc, if_pos h0, h1]
theorem hcw_if_eq {off : Int} {tgt : Nat} {x : Int32} (hb : hc_b mi = cc) (hd : decode cc pc = .ok (.ifCond .eq off, 3)) (hp : pc + 3 = np) (ht : (pc : Int) + off = (tgt : Int)) : hc_wp G σ t mi pc ls (.inl (.int x) :: st) Q = if x = 0 then hc_wp G σ t mi tgt ls st Q else hc_wp G σ t mi np ls st Q := by
  subst hp
  rw [hcw_gen hb hd]
  have h0 : 0 ≤ (pc : Int) + off := by omega
  have h1 : hc_tg pc off = tgt := by unfold hc_tg; omega
  simp only [hc_loc, if_pos h0, h1, hc_cm, decide_eq_true_eq]
  split <;> rfl
theorem hcw_if_ne {off : Int} {tgt : Nat} {x : Int32} (hb : hc_b mi = cc) (hd : decode cc pc = .ok (.ifCond .ne off, 3)) (hp : pc + 3 = np) (ht : (pc : Int) + off = (tgt : Int)) : hc_wp G σ t mi pc ls (.inl (.int x) :: st) Q = if ¬ x = 0 then hc_wp G σ t mi tgt ls st Q else hc_wp G σ t mi np ls st Q := by
  subst hp
  rw [hcw_gen hb hd]
  have h0 : 0 ≤ (pc : Int) + off := by omega
  have h1 : hc_tg pc off = tgt := by unfold hc_tg; omega
  simp only [hc_loc, if_pos h0, h1, hc_cm, decide_eq_true_eq]
  split <;> rfl
theorem hcw_if_lt {off : Int} {tgt : Nat} {x : Int32} (hb : hc_b mi = cc) (hd : decode cc pc = .ok (.ifCond .lt off, 3)) (hp : pc + 3 = np) (ht : (pc : Int) + off = (tgt : Int)) : hc_wp G σ t mi pc ls (.inl (.int x) :: st) Q = if x < 0 then hc_wp G σ t mi tgt ls st Q else hc_wp G σ t mi np ls st Q := by
  subst hp
  rw [hcw_gen hb hd]
  have h0 : 0 ≤ (pc : Int) + off := by omega
  have h1 : hc_tg pc off = tgt := by unfold hc_tg; omega
  simp only [hc_loc, if_pos h0, h1, hc_cm, decide_eq_true_eq]
  split <;> rfl
theorem hcw_if_ge {off : Int} {tgt : Nat} {x : Int32} (hb : hc_b mi = cc) (hd : decode cc pc = .ok (.ifCond .ge off, 3)) (hp : pc + 3 = np) (ht : (pc : Int) + off = (tgt : Int)) : hc_wp G σ t mi pc ls (.inl (.int x) :: st) Q = if 0 ≤ x then hc_wp G σ t mi tgt ls st Q else hc_wp G σ t mi np ls st Q := by
  subst hp
  rw [hcw_gen hb hd]
  have h0 : 0 ≤ (pc : Int) + off := by omega
  have h1 : hc_tg pc off = tgt := by unfold hc_tg; omega
  simp only [hc_loc, if_pos h0, h1, hc_cm, decide_eq_true_eq]
  split <;> rfl
theorem hcw_if_gt {off : Int} {tgt : Nat} {x : Int32} (hb : hc_b mi = cc) (hd : decode cc pc = .ok (.ifCond .gt off, 3)) (hp : pc + 3 = np) (ht : (pc : Int) + off = (tgt : Int)) : hc_wp G σ t mi pc ls (.inl (.int x) :: st) Q = if 0 < x then hc_wp G σ t mi tgt ls st Q else hc_wp G σ t mi np ls st Q := by
  subst hp
  rw [hcw_gen hb hd]
  have h0 : 0 ≤ (pc : Int) + off := by omega
  have h1 : hc_tg pc off = tgt := by unfold hc_tg; omega
  simp only [hc_loc, if_pos h0, h1, hc_cm, decide_eq_true_eq]
  split <;> rfl
theorem hcw_if_le {off : Int} {tgt : Nat} {x : Int32} (hb : hc_b mi = cc) (hd : decode cc pc = .ok (.ifCond .le off, 3)) (hp : pc + 3 = np) (ht : (pc : Int) + off = (tgt : Int)) : hc_wp G σ t mi pc ls (.inl (.int x) :: st) Q = if x ≤ 0 then hc_wp G σ t mi tgt ls st Q else hc_wp G σ t mi np ls st Q := by
  subst hp
  rw [hcw_gen hb hd]
  have h0 : 0 ≤ (pc : Int) + off := by omega
  have h1 : hc_tg pc off = tgt := by unfold hc_tg; omega
  simp only [hc_loc, if_pos h0, h1, hc_cm, decide_eq_true_eq]
  split <;> rfl
theorem hcw_icmp_eq {off : Int} {tgt : Nat} {x y : Int32} (hb : hc_b mi = cc) (hd : decode cc pc = .ok (.if_icmp .eq off, 3)) (hp : pc + 3 = np) (ht : (pc : Int) + off = (tgt : Int)) : hc_wp G σ t mi pc ls (.inl (.int y) :: .inl (.int x) :: st) Q = if x = y then hc_wp G σ t mi tgt ls st Q else hc_wp G σ t mi np ls st Q := by
  subst hp
  rw [hcw_gen hb hd]
  have h0 : 0 ≤ (pc : Int) + off := by omega
  have h1 : hc_tg pc off = tgt := by unfold hc_tg; omega
  simp only [hc_loc, if_pos h0, h1, hc_cm, decide_eq_true_eq]
  split <;> rfl
theorem hcw_icmp_ne {off : Int} {tgt : Nat} {x y : Int32} (hb : hc_b mi = cc) (hd : decode cc pc = .ok (.if_icmp .ne off, 3)) (hp : pc + 3 = np) (ht : (pc : Int) + off = (tgt : Int)) : hc_wp G σ t mi pc ls (.inl (.int y) :: .inl (.int x) :: st) Q = if ¬ x = y then hc_wp G σ t mi tgt ls st Q else hc_wp G σ t mi np ls st Q := by
  subst hp
  rw [hcw_gen hb hd]
  have h0 : 0 ≤ (pc : Int) + off := by omega
  have h1 : hc_tg pc off = tgt := by unfold hc_tg; omega
  simp only [hc_loc, if_pos h0, h1, hc_cm, decide_eq_true_eq]
  split <;> rfl
theorem hcw_icmp_lt {off : Int} {tgt : Nat} {x y : Int32} (hb : hc_b mi = cc) (hd : decode cc pc = .ok (.if_icmp .lt off, 3)) (hp : pc + 3 = np) (ht : (pc : Int) + off = (tgt : Int)) : hc_wp G σ t mi pc ls (.inl (.int y) :: .inl (.int x) :: st) Q = if x < y then hc_wp G σ t mi tgt ls st Q else hc_wp G σ t mi np ls st Q := by
  subst hp
  rw [hcw_gen hb hd]
  have h0 : 0 ≤ (pc : Int) + off := by omega
  have h1 : hc_tg pc off = tgt := by unfold hc_tg; omega
  simp only [hc_loc, if_pos h0, h1, hc_cm, decide_eq_true_eq]
  split <;> rfl
theorem hcw_icmp_ge {off : Int} {tgt : Nat} {x y : Int32} (hb : hc_b mi = cc) (hd : decode cc pc = .ok (.if_icmp .ge off, 3)) (hp : pc + 3 = np) (ht : (pc : Int) + off = (tgt : Int)) : hc_wp G σ t mi pc ls (.inl (.int y) :: .inl (.int x) :: st) Q = if y ≤ x then hc_wp G σ t mi tgt ls st Q else hc_wp G σ t mi np ls st Q := by
  subst hp
  rw [hcw_gen hb hd]
  have h0 : 0 ≤ (pc : Int) + off := by omega
  have h1 : hc_tg pc off = tgt := by unfold hc_tg; omega
  simp only [hc_loc, if_pos h0, h1, hc_cm, decide_eq_true_eq]
  split <;> rfl
theorem hcw_icmp_gt {off : Int} {tgt : Nat} {x y : Int32} (hb : hc_b mi = cc) (hd : decode cc pc = .ok (.if_icmp .gt off, 3)) (hp : pc + 3 = np) (ht : (pc : Int) + off = (tgt : Int)) : hc_wp G σ t mi pc ls (.inl (.int y) :: .inl (.int x) :: st) Q = if y < x then hc_wp G σ t mi tgt ls st Q else hc_wp G σ t mi np ls st Q := by
  subst hp
  rw [hcw_gen hb hd]
  have h0 : 0 ≤ (pc : Int) + off := by omega
  have h1 : hc_tg pc off = tgt := by unfold hc_tg; omega
  simp only [hc_loc, if_pos h0, h1, hc_cm, decide_eq_true_eq]
  split <;> rfl
theorem hcw_icmp_le {off : Int} {tgt : Nat} {x y : Int32} (hb : hc_b mi = cc) (hd : decode cc pc = .ok (.if_icmp .le off, 3)) (hp : pc + 3 = np) (ht : (pc : Int) + off = (tgt : Int)) : hc_wp G σ t mi pc ls (.inl (.int y) :: .inl (.int x) :: st) Q = if x ≤ y then hc_wp G σ t mi tgt ls st Q else hc_wp G σ t mi np ls st Q := by
  subst hp
  rw [hcw_gen hb hd]
  have h0 : 0 ≤ (pc : Int) + off := by omega
  have h1 : hc_tg pc off = tgt := by unfold hc_tg; omega
  simp only [hc_loc, if_pos h0, h1, hc_cm, decide_eq_true_eq]
  split <;> rfl
theorem hcw_table {d lo hi : Int} {offs : Array Int} {w : Nat} {x : Int32} (hb : hc_b mi = cc) (hd : decode cc pc = .ok (.tableswitch d lo hi offs, w)) (h0 : 0 ≤ (pc : Int) + d) : hc_wp G σ t mi pc ls (.inl (.int x) :: st) Q = if x.toInt < lo ∨ hi < x.toInt then hc_wp G σ t mi (hc_tg pc d) ls st Q else hc_on offs[(x.toInt - lo).toNat]? (fun off => 0 ≤ (pc : Int) + off ∧ hc_wp G σ t mi (hc_tg pc off) ls st Q) := by
  rw [hcw_gen hb hd]
  by_cases h : x.toInt < lo ∨ hi < x.toInt
  · simp only [hc_loc, if_pos h, if_pos h0]
  · simp only [hc_loc, if_neg h]
    cases ho : offs[(x.toInt - lo).toNat]? with
    | none => simp only [hc_on, hc_hep, hc_rtn, hc_cal]
    | some off =>
      by_cases hq : 0 ≤ (pc : Int) + off
      · simp [hc_on, hq]
      · simp [hc_on, hq, hc_hep, hc_rtn, hc_cal]
theorem hcw_getfield {ow cp c j k : Nat} (hb : hc_b mi = cc) (hd : decode cc pc = .ok (.getfield cp, 3)) (hp : pc + 3 = np) (ho : hc_own mi = ow) (hf : hc_fld ow cp = some (c, j)) : hc_wp G σ t mi pc ls (.inl (.ref k) :: st) Q = hc_get σ k c j (fun v => hc_wp G σ t mi np ls (v :: st) Q) := by
  subst hp; subst ho
  rw [hcw_gen hb hd]
  simp only [hc_loc, hc_hep, hf, hc_get, hc_rtn, hc_cal]
  cases σ k with
  | none => rfl
  | some o =>
    obtain ⟨c', fs⟩ := o
    dsimp only
    by_cases hc : c' = c
    · simp only [if_pos hc]
      cases fs[j]? <;> simp [hc_on, hc]
    · simp [hc]
theorem hcw_puti {ow cp c j k : Nat} {x : Int32} (hb : hc_b mi = cc) (hd : decode cc pc = .ok (.putfield cp, 3)) (hp : pc + 3 = np) (ho : hc_own mi = ow) (hf : hc_fld ow cp = some (c, j)) (hty : hc_ty c j = .int) (hfn : hc_fin c j = true → hc_ini mi = true ∧ ow = c) : hc_wp G σ t mi pc ls (.inl (.int x) :: .inl (.ref k) :: st) Q = (hc_put σ k c j (.int x) (fun σ' => hc_wp G σ' t mi np ls st Q)) := by
  subst hp; subst ho
  rw [hcw_gen hb hd]
  have hfn2 : (hc_fin c j = true → hc_ini mi = true ∧ hc_own mi = c) = True := eq_true hfn
  unfold hc_put
  cases hk : σ k with
  | none => simp [hc_loc, hc_hep, hf, hk, hc_rtn, hc_cal]
  | some o =>
    obtain ⟨c', fs⟩ := o
    dsimp only
    by_cases hc : c' = c
    · subst hc
      rcases hx : fs[j]? with _ | (v0 | r0) <;> simp [hc_loc, hc_hep, hf, hk, hc_rtn, hc_cal, hty, hc_fit, hx, hfn2] <;> (try (split <;> simp_all))
    · simp [hc_loc, hc_hep, hf, hk, hc_rtn, hc_cal, hc]
theorem hcw_putl {ow cp c j k : Nat} {x : Int64} (hb : hc_b mi = cc) (hd : decode cc pc = .ok (.putfield cp, 3)) (hp : pc + 3 = np) (ho : hc_own mi = ow) (hf : hc_fld ow cp = some (c, j)) (hty : hc_ty c j = .long) (hfn : hc_fin c j = true → hc_ini mi = true ∧ ow = c) : hc_wp G σ t mi pc ls (.inl (.long x) :: .inl (.ref k) :: st) Q = (hc_put σ k c j (.long x) (fun σ' => hc_wp G σ' t mi np ls st Q)) := by
  subst hp; subst ho
  rw [hcw_gen hb hd]
  have hfn2 : (hc_fin c j = true → hc_ini mi = true ∧ hc_own mi = c) = True := eq_true hfn
  unfold hc_put
  cases hk : σ k with
  | none => simp [hc_loc, hc_hep, hf, hk, hc_rtn, hc_cal]
  | some o =>
    obtain ⟨c', fs⟩ := o
    dsimp only
    by_cases hc : c' = c
    · subst hc
      rcases hx : fs[j]? with _ | (v0 | r0) <;> simp [hc_loc, hc_hep, hf, hk, hc_rtn, hc_cal, hty, hc_fit, hx, hfn2] <;> (try (split <;> simp_all))
    · simp [hc_loc, hc_hep, hf, hk, hc_rtn, hc_cal, hc]
theorem hcw_putz {ow cp c j k : Nat} {x : Int32} (hb : hc_b mi = cc) (hd : decode cc pc = .ok (.putfield cp, 3)) (hp : pc + 3 = np) (ho : hc_own mi = ow) (hf : hc_fld ow cp = some (c, j)) (hty : hc_ty c j = .boolean) (hfn : hc_fin c j = true → hc_ini mi = true ∧ ow = c) : hc_wp G σ t mi pc ls (.inl (.int x) :: .inl (.ref k) :: st) Q = ((x = 0 ∨ x = 1) ∧ hc_put σ k c j (.int x) (fun σ' => hc_wp G σ' t mi np ls st Q)) := by
  subst hp; subst ho
  rw [hcw_gen hb hd]
  have hfn2 : (hc_fin c j = true → hc_ini mi = true ∧ hc_own mi = c) = True := eq_true hfn
  unfold hc_put
  cases hk : σ k with
  | none => simp [hc_loc, hc_hep, hf, hk, hc_rtn, hc_cal]
  | some o =>
    obtain ⟨c', fs⟩ := o
    dsimp only
    by_cases hc : c' = c
    · subst hc
      rcases hx : fs[j]? with _ | (v0 | r0) <;> simp [hc_loc, hc_hep, hf, hk, hc_rtn, hc_cal, hty, hc_fit, hx, hfn2] <;> (try (split <;> simp_all))
    · simp [hc_loc, hc_hep, hf, hk, hc_rtn, hc_cal, hc]
theorem hcw_putr {ow cp c j k : Nat} {x : Nat} {C : String} (hb : hc_b mi = cc) (hd : decode cc pc = .ok (.putfield cp, 3)) (hp : pc + 3 = np) (ho : hc_own mi = ow) (hf : hc_fld ow cp = some (c, j)) (hty : hc_ty c j = .object C) (hfn : hc_fin c j = true → hc_ini mi = true ∧ ow = c) : hc_wp G σ t mi pc ls (.inl (.ref x) :: .inl (.ref k) :: st) Q = (hc_put σ k c j (.ref x) (fun σ' => hc_wp G σ' t mi np ls st Q)) := by
  subst hp; subst ho
  rw [hcw_gen hb hd]
  have hfn2 : (hc_fin c j = true → hc_ini mi = true ∧ hc_own mi = c) = True := eq_true hfn
  unfold hc_put
  cases hk : σ k with
  | none => simp [hc_loc, hc_hep, hf, hk, hc_rtn, hc_cal]
  | some o =>
    obtain ⟨c', fs⟩ := o
    dsimp only
    by_cases hc : c' = c
    · subst hc
      rcases hx : fs[j]? with _ | (v0 | r0) <;> simp [hc_loc, hc_hep, hf, hk, hc_rtn, hc_cal, hty, hc_fit, hx, hfn2] <;> (try (split <;> simp_all))
    · simp [hc_loc, hc_hep, hf, hk, hc_rtn, hc_cal, hc]
theorem hcw_movi {ow cp c j k n : Nat} {f : Nat → Int32} (hb : hc_b mi = cc) (hd : decode cc pc = .ok (.putfield cp, 3)) (hp : pc + 3 = np) (ho : hc_own mi = ow) (hf : hc_fld ow cp = some (c, j)) (hty : hc_ty c j = .array .int) (hfn : hc_fin c j = false) : hc_wp G σ (some (n, .inl f)) mi pc ls (.inr none :: .inl (.ref k) :: st) Q = hc_mov σ k c j (n, .inl f) st (fun σ' => hc_wp (hc_gM G k j) σ' none mi np (hc_kp ls) st Q) := by
  subst hp; subst ho
  rw [hcw_gen hb hd]
  unfold hc_mov
  cases hk : σ k with
  | none => simp [hc_loc, hc_hep, hf, hk, hc_rtn, hc_cal]
  | some o =>
    obtain ⟨c', fs⟩ := o
    dsimp only
    by_cases hc : c' = c
    · subst hc
      by_cases h2 : hc_np st = true <;> by_cases h3 : j < fs.length <;> simp [hc_loc, hc_hep, hf, hk, hc_rtn, hc_cal, hty, hfn, hc_arr, h2, h3]
    · simp [hc_loc, hc_hep, hf, hk, hc_rtn, hc_cal, hc]
theorem hcw_samei {ow cp c j k k' j' : Nat} (hb : hc_b mi = cc) (hd : decode cc pc = .ok (.putfield cp, 3)) (hp : pc + 3 = np) (ho : hc_own mi = ow) (hf : hc_fld ow cp = some (c, j)) (hty : hc_ty c j = .array .int) (hfn : hc_fin c j = false) : hc_wp G σ t mi pc ls (.inr (some (k', j')) :: .inl (.ref k) :: st) Q = (k' = k ∧ j' = j ∧ hc_smi σ k c j (hc_wp G σ t mi np ls st Q)) := by
  subst hp; subst ho
  rw [hcw_gen hb hd]
  unfold hc_smi
  cases hk : σ k with
  | none => simp [hc_loc, hc_hep, hf, hk, hc_rtn, hc_cal]
  | some o =>
    obtain ⟨c', fs⟩ := o
    dsimp only
    by_cases hc : c' = c
    · subst hc
      by_cases h2 : k' = k
      · by_cases h3 : j' = j
        · rcases hx : fs[j]? with _ | (v0 | ⟨n0, f0 | f0⟩) <;> simp [hc_loc, hc_hep, hf, hk, hc_rtn, hc_cal, hty, hfn, hc_arr, h2, h3, hx]
        · simp [hc_loc, hc_hep, hf, hk, hc_rtn, hc_cal, h3]
      · simp [hc_loc, hc_hep, hf, hk, hc_rtn, hc_cal, h2]
    · simp [hc_loc, hc_hep, hf, hk, hc_rtn, hc_cal, hc]
theorem hcw_movl {ow cp c j k n : Nat} {f : Nat → Int64} (hb : hc_b mi = cc) (hd : decode cc pc = .ok (.putfield cp, 3)) (hp : pc + 3 = np) (ho : hc_own mi = ow) (hf : hc_fld ow cp = some (c, j)) (hty : hc_ty c j = .array .long) (hfn : hc_fin c j = false) : hc_wp G σ (some (n, .inr f)) mi pc ls (.inr none :: .inl (.ref k) :: st) Q = hc_mov σ k c j (n, .inr f) st (fun σ' => hc_wp (hc_gM G k j) σ' none mi np (hc_kp ls) st Q) := by
  subst hp; subst ho
  rw [hcw_gen hb hd]
  unfold hc_mov
  cases hk : σ k with
  | none => simp [hc_loc, hc_hep, hf, hk, hc_rtn, hc_cal]
  | some o =>
    obtain ⟨c', fs⟩ := o
    dsimp only
    by_cases hc : c' = c
    · subst hc
      by_cases h2 : hc_np st = true <;> by_cases h3 : j < fs.length <;> simp [hc_loc, hc_hep, hf, hk, hc_rtn, hc_cal, hty, hfn, hc_arr, h2, h3]
    · simp [hc_loc, hc_hep, hf, hk, hc_rtn, hc_cal, hc]
theorem hcw_samel {ow cp c j k k' j' : Nat} (hb : hc_b mi = cc) (hd : decode cc pc = .ok (.putfield cp, 3)) (hp : pc + 3 = np) (ho : hc_own mi = ow) (hf : hc_fld ow cp = some (c, j)) (hty : hc_ty c j = .array .long) (hfn : hc_fin c j = false) : hc_wp G σ t mi pc ls (.inr (some (k', j')) :: .inl (.ref k) :: st) Q = (k' = k ∧ j' = j ∧ hc_sml σ k c j (hc_wp G σ t mi np ls st Q)) := by
  subst hp; subst ho
  rw [hcw_gen hb hd]
  unfold hc_sml
  cases hk : σ k with
  | none => simp [hc_loc, hc_hep, hf, hk, hc_rtn, hc_cal]
  | some o =>
    obtain ⟨c', fs⟩ := o
    dsimp only
    by_cases hc : c' = c
    · subst hc
      by_cases h2 : k' = k
      · by_cases h3 : j' = j
        · rcases hx : fs[j]? with _ | (v0 | ⟨n0, f0 | f0⟩) <;> simp [hc_loc, hc_hep, hf, hk, hc_rtn, hc_cal, hty, hfn, hc_arr, h2, h3, hx]
        · simp [hc_loc, hc_hep, hf, hk, hc_rtn, hc_cal, h3]
      · simp [hc_loc, hc_hep, hf, hk, hc_rtn, hc_cal, h2]
    · simp [hc_loc, hc_hep, hf, hk, hc_rtn, hc_cal, hc]
theorem hcw_iaload {i : Int32} {a : hc_V} (hb : hc_b mi = cc) (hd : decode cc pc = .ok (.iaload, 1)) (hp : pc + 1 = np) : hc_wp G σ t mi pc ls (.inl (.int i) :: a :: st) Q = hc_ri σ t a (fun n f => hc_inn i n ∧ hc_wp G σ t mi np ls (.inl (.int (f i.toNatClampNeg)) :: st) Q) := by
  subst hp
  rw [hcw_gen hb hd]
  unfold hc_ri
  rcases hx : hc_row σ t a with _ | ⟨n, f | f⟩ <;> first | (simp [hc_loc, hc_hep, hc_rtn, hc_cal, hx]; done) | skip
  by_cases h : hc_inB i n = true
  · simp [hc_loc, hc_hep, hx, h, hc_inB_iff.mp h]
  · have : ¬ hc_inn i n := fun z => h (hc_inB_iff.mpr z)
    simp [hc_loc, hc_hep, hx, h, hc_rtn, hc_cal, this]
theorem hcw_laload {i : Int32} {a : hc_V} (hb : hc_b mi = cc) (hd : decode cc pc = .ok (.laload, 1)) (hp : pc + 1 = np) : hc_wp G σ t mi pc ls (.inl (.int i) :: a :: st) Q = hc_rl σ t a (fun n f => hc_inn i n ∧ hc_wp G σ t mi np ls (.inl (.long (f i.toNatClampNeg)) :: st) Q) := by
  subst hp
  rw [hcw_gen hb hd]
  unfold hc_rl
  rcases hx : hc_row σ t a with _ | ⟨n, f | f⟩ <;> first | (simp [hc_loc, hc_hep, hc_rtn, hc_cal, hx]; done) | skip
  by_cases h : hc_inB i n = true
  · simp [hc_loc, hc_hep, hx, h, hc_inB_iff.mp h]
  · have : ¬ hc_inn i n := fun z => h (hc_inB_iff.mpr z)
    simp [hc_loc, hc_hep, hx, h, hc_rtn, hc_cal, this]
theorem hcw_iastore {i : Int32} {x : Int32} {a : Option (Nat × Nat)} (hb : hc_b mi = cc) (hd : decode cc pc = .ok (.iastore, 1)) (hp : pc + 1 = np) : hc_wp G σ t mi pc ls (.inl (.int x) :: .inl (.int i) :: .inr a :: st) Q = hc_ri σ t (.inr a) (fun n f => hc_inn i n ∧ hc_on (hc_wr σ t (n, .inl (upd f i.toNatClampNeg x)) (.inr a)) (fun y => hc_wp G y.1 y.2 mi np ls st Q)) := by
  subst hp
  rw [hcw_gen hb hd]
  unfold hc_ri
  rcases hx : hc_row σ t (.inr a) with _ | ⟨n, f | f⟩ <;> first | (simp [hc_loc, hc_hep, hc_rtn, hc_cal, hx]; done) | skip
  by_cases h : hc_inB i n = true
  · rcases hy : hc_wr σ t (n, .inl (upd f i.toNatClampNeg x)) (.inr a) with _ | ⟨s2, t2⟩ <;> simp [hc_loc, hc_hep, hx, h, hc_rtn, hc_cal, hc_inB_iff.mp h, hy, hc_on]
  · have : ¬ hc_inn i n := fun z => h (hc_inB_iff.mpr z)
    simp [hc_loc, hc_hep, hx, h, hc_rtn, hc_cal, this]
theorem hcw_lastore {i : Int32} {x : Int64} {a : Option (Nat × Nat)} (hb : hc_b mi = cc) (hd : decode cc pc = .ok (.lastore, 1)) (hp : pc + 1 = np) : hc_wp G σ t mi pc ls (.inl (.long x) :: .inl (.int i) :: .inr a :: st) Q = hc_rl σ t (.inr a) (fun n f => hc_inn i n ∧ hc_on (hc_wr σ t (n, .inr (vp_updL f i.toNatClampNeg x)) (.inr a)) (fun y => hc_wp G y.1 y.2 mi np ls st Q)) := by
  subst hp
  rw [hcw_gen hb hd]
  unfold hc_rl
  rcases hx : hc_row σ t (.inr a) with _ | ⟨n, f | f⟩ <;> first | (simp [hc_loc, hc_hep, hc_rtn, hc_cal, hx]; done) | skip
  by_cases h : hc_inB i n = true
  · rcases hy : hc_wr σ t (n, .inr (vp_updL f i.toNatClampNeg x)) (.inr a) with _ | ⟨s2, t2⟩ <;> simp [hc_loc, hc_hep, hx, h, hc_rtn, hc_cal, hc_inB_iff.mp h, hy, hc_on]
  · have : ¬ hc_inn i n := fun z => h (hc_inB_iff.mpr z)
    simp [hc_loc, hc_hep, hx, h, hc_rtn, hc_cal, this]
theorem hcw_alen {a : hc_V} (hb : hc_b mi = cc) (hd : decode cc pc = .ok (.arraylength, 1)) (hp : pc + 1 = np) : hc_wp G σ t mi pc ls (a :: st) Q = hc_on (hc_row σ t a) (fun r => hc_wp G σ t mi np ls (.inl (.int (Int32.ofNat r.1)) :: st) Q) := by
  subst hp
  rw [hcw_gen hb hd]
  simp only [hc_loc, hc_hep, hc_rtn, hc_cal]
  rcases hc_row σ t a with _ | ⟨n, f⟩ <;> rfl
theorem hcw_newi {n : Int32} (hb : hc_b mi = cc) (hd : decode cc pc = .ok (.newarray .int, 2)) (hp : pc + 2 = np) : hc_wp G σ t mi pc ls (.inl (.int n) :: st) Q = (¬ n < 0 ∧ n.toNatClampNeg ≤ 60000000 ∧ hc_np st = true ∧ ls.all hc_nt = true ∧ hc_wp (hc_gA G n.toNatClampNeg) σ (some (n.toNatClampNeg, .inl fun _ => 0)) mi np ls (.inr none :: st) Q) := by
  subst hp
  rw [hcw_gen hb hd]
  simp only [hc_loc, hc_hep, hc_rtn, hc_cal]
  by_cases h : ¬ n < 0 ∧ n.toNatClampNeg ≤ 60000000 ∧ hc_np st = true ∧ ls.all hc_nt = true
  · rw [if_pos h]
    obtain ⟨h1, h2, h3, h4⟩ := h
    simp only [h1, h2, h3, h4, true_and, not_false_eq_true]
  · rw [if_neg h]
    simp only [eq_iff_iff, false_iff]
    rintro ⟨h1, h2, h3, h4, -⟩
    exact h ⟨h1, h2, h3, h4⟩
theorem hcw_newl {n : Int32} (hb : hc_b mi = cc) (hd : decode cc pc = .ok (.newarray .long, 2)) (hp : pc + 2 = np) : hc_wp G σ t mi pc ls (.inl (.int n) :: st) Q = (¬ n < 0 ∧ n.toNatClampNeg ≤ 60000000 ∧ hc_np st = true ∧ ls.all hc_nt = true ∧ hc_wp (hc_gA G n.toNatClampNeg) σ (some (n.toNatClampNeg, .inr fun _ => 0)) mi np ls (.inr none :: st) Q) := by
  subst hp
  rw [hcw_gen hb hd]
  simp only [hc_loc, hc_hep, hc_rtn, hc_cal]
  by_cases h : ¬ n < 0 ∧ n.toNatClampNeg ≤ 60000000 ∧ hc_np st = true ∧ ls.all hc_nt = true
  · rw [if_pos h]
    obtain ⟨h1, h2, h3, h4⟩ := h
    simp only [h1, h2, h3, h4, true_and, not_false_eq_true]
  · rw [if_neg h]
    simp only [eq_iff_iff, false_iff]
    rintro ⟨h1, h2, h3, h4, -⟩
    exact h ⟨h1, h2, h3, h4⟩
theorem hcw_new {ow cp c : Nat} (hb : hc_b mi = cc) (hd : decode cc pc = .ok (.new cp, 3)) (hp : pc + 3 = np) (ho : hc_own mi = ow) (hf : hc_cls ow cp = some c) : hc_wp G σ t mi pc ls st Q = (G.2.1 < 900 ∧ hc_wp (hc_gO G (hc_fn c)) (hc_set σ G.2.1 (c, hc_df c)) t mi np ls (.inl (.ref G.2.1) :: st) Q) := by
  subst hp; subst ho
  rw [hcw_gen hb hd]
  simp only [hc_loc, hc_hep, hc_rtn, hc_cal, hf]
  by_cases h : G.2.1 < 900 <;> simp [h]
theorem hcw_objinit {ow cp k : Nat} (hb : hc_b mi = cc) (hd : decode cc pc = .ok (.invokespecial cp, 3)) (hp : pc + 3 = np) (ho : hc_own mi = ow) (hob : hc_obj ow cp = true) (htg : hc_tgt ow cp = none) (h1 : 1 ≤ hc_dp mi) (h2 : 60 ≤ hc_ln mi) : hc_wp G σ t mi pc ls (.inl (.ref k) :: st) Q = (st.length ≤ 8 ∧ hc_wp G σ t mi np ls st Q) := by
  subst hp; subst ho
  rw [hcw_gen hb hd]
  simp only [hc_loc, hc_hep, hc_rtn, hc_cal, hob, h1, h2, htg]
  by_cases h : st.length ≤ 8 <;> simp [h]
theorem hcw_acpi {ow cp k j n0 n1 : Nat} {f g : Nat → Int32} {n dp sp : Int32} (hb : hc_b mi = cc) (hd : decode cc pc = .ok (.invokestatic cp, 3)) (hp : pc + 3 = np) (ho : hc_own mi = ow) (hac : hc_acp ow cp = true) (h1 : 1 ≤ hc_dp mi) (h2 : 60 ≤ hc_ln mi) (hst : st.length ≤ 8) (hv : hc_row σ (some (n1, .inl g)) (.inr (some (k, j))) = some (n0, .inl f)) (hs : ¬ sp < 0 ∧ ¬ dp < 0 ∧ ¬ n < 0) (hl : sp.toNatClampNeg + n.toNatClampNeg ≤ n0 ∧ dp.toNatClampNeg + n.toNatClampNeg ≤ n1) : hc_wp G σ (some (n1, .inl g)) mi pc ls (.inl (.int n) :: .inl (.int dp) :: .inr none :: .inl (.int sp) :: .inr (some (k, j)) :: st) Q = hc_wp G σ (some (n1, .inl (va_cpy f g sp.toNatClampNeg dp.toNatClampNeg n.toNatClampNeg))) mi np ls st Q := by
  subst hp; subst ho
  rw [hcw_gen hb hd]
  have hc : hc_acp (hc_own mi) cp = true ∧ st.length ≤ 8 ∧ 1 ≤ hc_dp mi ∧ 60 ≤ hc_ln mi ∧ ¬ sp < 0 ∧ ¬ dp < 0 ∧ ¬ n < 0 := ⟨hac, hst, h1, h2, hs⟩
  simp only [hc_loc, hc_hep, if_pos hc, hv, if_pos hl]
theorem hcw_acpl {ow cp k j n0 n1 : Nat} {f g : Nat → Int64} {n dp sp : Int32} (hb : hc_b mi = cc) (hd : decode cc pc = .ok (.invokestatic cp, 3)) (hp : pc + 3 = np) (ho : hc_own mi = ow) (hac : hc_acp ow cp = true) (h1 : 1 ≤ hc_dp mi) (h2 : 60 ≤ hc_ln mi) (hst : st.length ≤ 8) (hv : hc_row σ (some (n1, .inr g)) (.inr (some (k, j))) = some (n0, .inr f)) (hs : ¬ sp < 0 ∧ ¬ dp < 0 ∧ ¬ n < 0) (hl : sp.toNatClampNeg + n.toNatClampNeg ≤ n0 ∧ dp.toNatClampNeg + n.toNatClampNeg ≤ n1) : hc_wp G σ (some (n1, .inr g)) mi pc ls (.inl (.int n) :: .inl (.int dp) :: .inr none :: .inl (.int sp) :: .inr (some (k, j)) :: st) Q = hc_wp G σ (some (n1, .inr (va_cpy f g sp.toNatClampNeg dp.toNatClampNeg n.toNatClampNeg))) mi np ls st Q := by
  subst hp; subst ho
  rw [hcw_gen hb hd]
  have hc : hc_acp (hc_own mi) cp = true ∧ st.length ≤ 8 ∧ 1 ≤ hc_dp mi ∧ 60 ≤ hc_ln mi ∧ ¬ sp < 0 ∧ ¬ dp < 0 ∧ ¬ n < 0 := ⟨hac, hst, h1, h2, hs⟩
  simp only [hc_loc, hc_hep, if_pos hc, hv, if_pos hl]
theorem hcw_ireturn {v : Int32} (hb : hc_b mi = cc) (hd : decode cc pc = .ok (.ireturn, 1)) (hr : hc_rty mi = some .int) : hc_wp G σ t mi pc ls [.inl (.int v)] Q = Q G σ t (some (.inl (.int v))) := by
  rw [hcw_gen hb hd]
  simp only [hc_loc, hc_hep, hc_rtn, hr]
theorem hcw_zreturn {v : Int32} (hb : hc_b mi = cc) (hd : decode cc pc = .ok (.ireturn, 1)) (hr : hc_rty mi = some .boolean) : hc_wp G σ t mi pc ls [.inl (.int v)] Q = ((v = 0 ∨ v = 1) ∧ Q G σ t (some (.inl (.int v)))) := by
  rw [hcw_gen hb hd]
  simp only [hc_loc, hc_hep, hc_rtn, hr]
  by_cases h : v = 0 ∨ v = 1
  · simp [h]
  · simp [h, hc_cal]
theorem hcw_lreturn {v : Int64} (hb : hc_b mi = cc) (hd : decode cc pc = .ok (.lreturn, 1)) (hr : hc_rty mi = some .long) : hc_wp G σ t mi pc ls [.inl (.long v)] Q = Q G σ t (some (.inl (.long v))) := by
  rw [hcw_gen hb hd]
  simp only [hc_loc, hc_hep, hc_rtn, hr]
theorem hcw_areturn {a : Option (Nat × Nat)} {ty : FieldType} (hb : hc_b mi = cc) (hd : decode cc pc = .ok (.areturn, 1)) (hr : hc_rty mi = some (.array ty)) : hc_wp G σ t mi pc ls [.inr a] Q = Q G σ t (some (.inr a)) := by
  rw [hcw_gen hb hd]
  simp only [hc_loc, hc_hep, hc_rtn, hr]
theorem hcw_return (hb : hc_b mi = cc) (hd : decode cc pc = .ok (.return_, 1)) (hr : hc_rty mi = none) : hc_wp G σ t mi pc ls [] Q = Q G σ t none := by
  rw [hcw_gen hb hd]
  simp only [hc_loc, hc_hep, hc_rtn, hr]
/-- a call, by its arguments; kd: 0 virtual, 1 special, 2 static -/
def hc_ivk (kd cp : Nat) : Instr := if kd = 0 then .invokevirtual cp else if kd = 1 then .invokespecial cp else .invokestatic cp
theorem hcw_call {ow cp m2 kd na mx : Nat} {args : List hc_V} {l2 : hc_L} (hb : hc_b mi = cc) (hd : decode cc pc = .ok (hc_ivk kd cp, 3)) (hp : pc + 3 = np) (ho : hc_own mi = ow) (htg : hc_tgt ow cp = some m2) (hkd : kd < 3) (hs : hc_md m2 = kd ∧ hc_dp m2 < hc_dp mi ∧ hc_ln m2 + hc_mx m2 + 27 ≤ hc_ln mi) (hob : hc_obj ow cp = false) (hac : hc_acp ow cp = false) (hn : args.length = hc_na m2) (hle : (hc_ent args).length ≤ hc_mx m2) (hl2 : hc_pad (hc_mx m2) (hc_ent args) = l2) :
    hc_wp G σ t mi pc ls (args.reverse ++ st) Q = ((st.length ≤ 8 ∧ (kd = 2 ∨ hc_rcv kd σ (hc_own m2) args.head? = true)) ∧ hc_wp G σ t m2 0 l2 [] (fun G' σ' t' r => hc_bk G G' ls st (fun ls' => hc_wp G' σ' t' mi np ls' (hc_psh r st) Q))) := by
  subst hp; subst ho; subst hl2
  rw [hcw_gen hb hd]
  have e1 : (args.reverse ++ st).take (hc_na m2) = args.reverse := by
    rw [← hn, ← List.length_reverse, List.take_left']
    rfl
  have e2 : (args.reverse ++ st).drop (hc_na m2) = st := by
    rw [← hn, ← List.length_reverse, List.drop_left']
    rfl
  have hna : hc_na m2 ≤ (args.reverse ++ st).length := by
    rw [List.length_append, List.length_reverse]
    omega
  have hloc : hc_loc mi pc ls (args.reverse ++ st) (hc_ivk kd cp) 3 = none := by
    unfold hc_ivk
    split
    · rfl
    · split <;> rfl
  have hrtn : hc_rtn mi (args.reverse ++ st) (hc_ivk kd cp) 3 = none := by
    unfold hc_ivk
    split
    · rfl
    · split <;> rfl
  have hhep : hc_hep mi G σ t ls (args.reverse ++ st) (hc_ivk kd cp) 3 = none := by
    unfold hc_ivk
    split
    · rfl
    · split
      · unfold hc_hep
        split <;> first | rfl | skip
        all_goals first | (rename_i h; cases h; simp [hob]; done) | (rename_i h _; cases h; simp [hob]; done) | simp_all
      · unfold hc_hep
        split <;> first | rfl | skip
        all_goals first | (rename_i h; cases h; simp [hac]; done) | (rename_i h _; cases h; simp [hac]; done) | simp_all
  have hcal : hc_cal mi σ (args.reverse ++ st) (hc_ivk kd cp) 3 = if st.length ≤ 8 ∧ (kd = 2 ∨ hc_rcv kd σ (hc_own m2) args.head? = true) then some (m2, hc_pad (hc_mx m2) (hc_ent args), st) else none := by
    have hna2 : hc_na m2 ≤ args.length + st.length := by omega
    rcases (show kd = 0 ∨ kd = 1 ∨ kd = 2 by omega) with rfl | rfl | rfl <;> simp [hc_cal, hc_ivk, htg, e1, e2, hs.1, hs.2.1, hs.2.2, hna2, hle]
  rw [hloc, hhep, hrtn, hcal]
  by_cases h : st.length ≤ 8 ∧ (kd = 2 ∨ hc_rcv kd σ (hc_own m2) args.head? = true)
  · simp only [if_pos h]
    simp only [h, true_and, and_self]
  · simp only [if_neg h]
    simp only [h, false_and]
end HCW
