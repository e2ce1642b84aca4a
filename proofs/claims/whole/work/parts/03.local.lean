/-! THE SMALL MACHINE AND THE LARGE ONE: values, locals, and the instructions that touch neither heap nor calls -/
def hc_con (B b : Nat) (G : hc_G) : hc_V → Value
  | .inl (.ref k) => .ref (B + k)
  | .inl (.retAddr _) => .ref b
  | .inl v => v
  | .inr none => .ref (B + G.2.2.2.1)
  | .inr (some (k, j)) => .ref (B + G.2.2.2.2 k j)
theorem hc_con_cat (B b : Nat) (G : hc_G) (v : hc_V) : (hc_con B b G v).category = 2 ↔ hc_two v = true := by
  rcases v with v | (_ | ⟨k, j⟩)
  · cases v <;> simp [hc_con, hc_two, Value.category]
  · simp [hc_con, hc_two, Value.category]
  · simp [hc_con, hc_two, Value.category]
theorem hc_con_cat1 (B b : Nat) (G : hc_G) (v : hc_V) (h : hc_two v = false) : (hc_con B b G v).category = 1 := by
  rcases lv_cat (hc_con B b G v) with h1 | h1
  · exact h1
  · rw [hc_con_cat, h] at h1
    cases h1
def hc_LR (B b : Nat) (G : hc_G) (ls : hc_L) (sl : Array Slot) : Prop := sl.size = ls.length ∧ lv_wf sl ∧ ∀ (i : Nat) (v : hc_V), ls[i]? = some (some v) → sl[i]? = some (.val (hc_con B b G v))
def hc_prs (B b : Nat) (G : hc_G) (ls : hc_L) : List (Nat × Value) := (List.range ls.length).filterMap fun i => match ls[i]? with
  | some (some v) => some (i, hc_con B b G v)
  | _ => none
theorem hc_prs_mem {B b : Nat} {G : hc_G} {ls : hc_L} {i : Nat} {v : hc_V} (h : ls[i]? = some (some v)) : (i, hc_con B b G v) ∈ hc_prs B b G ls := by
  refine List.mem_filterMap.mpr ⟨i, List.mem_range.mpr (List.getElem?_eq_some_iff.mp h).1, ?_⟩
  simp only [h]
theorem hc_prs_of {B b : Nat} {G : hc_G} {ls : hc_L} {q : Nat × Value} (h : q ∈ hc_prs B b G ls) : ∃ v, ls[q.1]? = some (some v) ∧ q.2 = hc_con B b G v := by
  obtain ⟨i, -, hi⟩ := List.mem_filterMap.mp h
  split at hi
  · rename_i v hv
    cases hi
    exact ⟨v, hv, rfl⟩
  · cases hi
theorem hc_LR.has {B b : Nat} {G : hc_G} {ls : hc_L} {sl : Array Slot} (h : hc_LR B b G ls sl) : lv_has sl ls.length (hc_prs B b G ls) := by
  refine ⟨h.1, h.2.1, fun q hq => ?_⟩
  obtain ⟨v, h1, h2⟩ := hc_prs_of hq
  rw [h2]
  exact h.2.2 _ _ h1
theorem hc_pre_len (ls : hc_L) (i : Nat) : (hc_pre ls i).length = ls.length := by
  cases i with
  | zero => rfl
  | succ j =>
    simp only [hc_pre]
    split
    · split
      · simp
      · rfl
    · rfl
theorem hc_sto_len (ls : hc_L) (i : Nat) (v : hc_V) : (hc_sto ls i v).length = ls.length := by
  unfold hc_sto
  split <;> simp [hc_pre_len]
theorem hc_kp_len (ls : hc_L) : (hc_kp ls).length = ls.length := by simp [hc_kp]
theorem hc_pre_get {ls : hc_L} {i j : Nat} {w : hc_V} (h : (hc_pre ls i)[j]? = some (some w)) : ls[j]? = some (some w) ∧ ¬ (j + 1 = i ∧ hc_two w = true) := by
  cases i with
  | zero => exact ⟨h, by omega⟩
  | succ i =>
    simp only [hc_pre] at h
    split at h
    · rename_i u hu
      split at h
      · rename_i h2
        by_cases hji : j = i
        · subst hji
          rw [List.getElem?_set_self (List.getElem?_eq_some_iff.mp hu).1] at h
          cases h
        · rw [List.getElem?_set_ne (Ne.symm hji)] at h
          exact ⟨h, by omega⟩
      · rename_i h2
        refine ⟨h, fun q => ?_⟩
        have hji : j = i := by omega
        subst hji
        rw [hu] at h
        cases h
        exact h2 q.2
    · rename_i hn
      refine ⟨h, fun q => ?_⟩
      have hji : j = i := by omega
      subst hji
      exact hn _ h
theorem hc_sto_get {ls : hc_L} {i j : Nat} {v w : hc_V} (h : (hc_sto ls i v)[j]? = some (some w)) : (j = i ∧ w = v) ∨ (j ≠ i ∧ ls[j]? = some (some w) ∧ ¬ (j + 1 = i ∧ hc_two w = true) ∧ (hc_two v = true → j ≠ i + 1)) := by
  have key : ((hc_pre ls i).set i (some v))[j]? = some (some w) → (j = i ∧ w = v) ∨ (j ≠ i ∧ ls[j]? = some (some w) ∧ ¬ (j + 1 = i ∧ hc_two w = true)) := by
    intro h
    by_cases hji : j = i
    · subst hji
      left
      have hl : j < (hc_pre ls j).length := by
        have := (List.getElem?_eq_some_iff.mp h).1
        simpa using this
      rw [List.getElem?_set_self hl] at h
      cases h
      exact ⟨rfl, rfl⟩
    · right
      rw [List.getElem?_set_ne (Ne.symm hji)] at h
      exact ⟨hji, hc_pre_get h⟩
  unfold hc_sto at h
  split at h
  · rename_i h2
    by_cases hj : j = i + 1
    · subst hj
      exfalso
      have hl := (List.getElem?_eq_some_iff.mp h).1
      rw [List.length_set] at hl
      rw [List.getElem?_set_self hl] at h
      cases h
    · rw [List.getElem?_set_ne (Ne.symm hj)] at h
      rcases key h with q | ⟨q1, q2, q3⟩
      · exact Or.inl q
      · exact Or.inr ⟨q1, q2, q3, fun _ => hj⟩
  · rename_i h2
    rcases key h with q | ⟨q1, q2, q3⟩
    · exact Or.inl q
    · exact Or.inr ⟨q1, q2, q3, fun z => absurd z h2⟩
theorem hc_LR_sto1 {B b : Nat} {G : hc_G} {ls : hc_L} {sl : Array Slot} {i : Nat} {v : hc_V} (hv : hc_two v = false) (h : lv_has sl ls.length ((i, hc_con B b G v) :: (hc_prs B b G ls).filter (fun q => !(q.1 == i) && !(q.1 + 1 == i && q.2.category == 2)))) : hc_LR B b G (hc_sto ls i v) sl := by
  refine ⟨by rw [hc_sto_len]; exact h.1, h.2.1, fun j w hj => ?_⟩
  rcases hc_sto_get hj with ⟨rfl, rfl⟩ | ⟨q1, q2, q3, -⟩
  · exact h.2.2 _ List.mem_cons_self
  · refine h.2.2 (j, hc_con B b G w) (List.mem_cons_of_mem _ (List.mem_filter.mpr ⟨hc_prs_mem q2, ?_⟩))
    have q4 : (hc_con B b G w).category = 2 ↔ hc_two w = true := hc_con_cat B b G w
    by_cases e : j + 1 = i
    · have : ¬ hc_two w = true := fun z => q3 ⟨e, z⟩
      have : ¬ (hc_con B b G w).category = 2 := fun z => this (q4.mp z)
      simp [q1, this]
    · simp [q1, e]
theorem hc_LR_sto2 {B b : Nat} {G : hc_G} {ls : hc_L} {sl : Array Slot} {i : Nat} {v : hc_V} (hv : hc_two v = true) (h : lv_has sl ls.length ((i, hc_con B b G v) :: (hc_prs B b G ls).filter (fun q => !(q.1 == i) && (!(q.1 == i + 1) && !(q.1 + 1 == i && q.2.category == 2))))) : hc_LR B b G (hc_sto ls i v) sl := by
  refine ⟨by rw [hc_sto_len]; exact h.1, h.2.1, fun j w hj => ?_⟩
  rcases hc_sto_get hj with ⟨rfl, rfl⟩ | ⟨q1, q2, q3, q5⟩
  · exact h.2.2 _ List.mem_cons_self
  · refine h.2.2 (j, hc_con B b G w) (List.mem_cons_of_mem _ (List.mem_filter.mpr ⟨hc_prs_mem q2, ?_⟩))
    have q4 : (hc_con B b G w).category = 2 ↔ hc_two w = true := hc_con_cat B b G w
    have q6 := q5 hv
    by_cases e : j + 1 = i
    · have : ¬ hc_two w = true := fun z => q3 ⟨e, z⟩
      have : ¬ (hc_con B b G w).category = 2 := fun z => this (q4.mp z)
      simp [q1, q6, this]
    · simp [q1, q6, e]
theorem hc_LR_kp {B b : Nat} {G G' : hc_G} {ls : hc_L} {sl : Array Slot} (h : hc_LR B b G ls sl) : hc_LR B b G' (hc_kp ls) sl := by
  refine ⟨by rw [hc_kp_len]; exact h.1, h.2.1, fun j w hj => ?_⟩
  rw [hc_kp, List.getElem?_map] at hj
  cases hx : ls[j]? with
  | none => rw [hx] at hj; cases hj
  | some x =>
    rw [hx] at hj
    rcases x with _ | (v | p)
    · cases hj
    · have hw : w = .inl v := by
        have := Option.some.inj hj
        simpa [hc_k1] using this.symm
      rw [hw]
      have := h.2.2 j _ hx
      cases v <;> exact this
    · cases hj
theorem hc_con_G {B b : Nat} {G G' : hc_G} (h : G'.2.2.2 = G.2.2.2) (v : hc_V) : hc_con B b G' v = hc_con B b G v := by
  rcases v with v | (_ | ⟨k, j⟩)
  · cases v <;> rfl
  · simp only [hc_con, h]
  · simp only [hc_con, h]
theorem hc_LR_G {B b : Nat} {G G' : hc_G} {ls : hc_L} {sl : Array Slot} (hG : G'.2.2.2 = G.2.2.2) (h : hc_LR B b G ls sl) : hc_LR B b G' ls sl := ⟨h.1, h.2.1, fun j w hj => by rw [hc_con_G hG]; exact h.2.2 j w hj⟩
theorem hc_ld_of {c : Nat} {ls : hc_L} {i : Nat} {v : hc_V} (h : hc_ld c ls i = some v) : ls[i]? = some (some v) ∧ hc_kd v = c := by
  unfold hc_ld at h
  split at h
  · rename_i w hw
    split at h
    · rename_i hk
      cases h
      exact ⟨hw, hk⟩
    · cases h
  · cases h
theorem hc_kd0 {v : hc_V} (h : hc_kd v = 0) : ∃ x, v = .inl (.int x) := by
  rcases v with v | p
  · cases v <;> first | exact ⟨_, rfl⟩ | (simp [hc_kd] at h)
  · simp [hc_kd] at h
theorem hc_kd1 {v : hc_V} (h : hc_kd v = 1) : ∃ x, v = .inl (.long x) := by
  rcases v with v | p
  · cases v <;> first | exact ⟨_, rfl⟩ | (simp [hc_kd] at h)
  · simp [hc_kd] at h
theorem hc_kd2 {v : hc_V} (B b : Nat) (G : hc_G) (h : hc_kd v = 2) : (∃ a, hc_con B b G v = .ref a) ∧ hc_two v = false := by
  rcases v with v | (_ | ⟨k, j⟩)
  · cases v <;> first | (simp [hc_kd] at h; done) | exact ⟨⟨_, rfl⟩, rfl⟩
  · exact ⟨⟨_, rfl⟩, rfl⟩
  · exact ⟨⟨_, rfl⟩, rfl⟩
theorem hc_two_not {v : hc_V} (h : ¬ hc_two v = true) : hc_two v = false := by
  cases h2 : hc_two v with
  | true => exact absurd h2 h
  | false => rfl
theorem hc_tg_eq {pc : Nat} {off : Int} (h : 0 ≤ (pc : Int) + off) : (pc : Int) + off = (hc_tg pc off : Int) := by
  unfold hc_tg
  omega
/-- the words of the tables that hold in every callee too -/
def hc_ALL : List Cond := lw_tbl.filter goodWord
theorem hc_w {w : Cond} (i : Nat) (h : lw_tbl[i]? = some w) (hg : goodWord w = true) : w ∈ hc_ALL := List.mem_filter.mpr ⟨List.mem_of_getElem? h, hg⟩
theorem hc_all_tbl {w : Cond} (h : w ∈ hc_ALL) : w ∈ lw_tbl := (List.mem_filter.mp h).1
theorem hc_all_good : GoodIn hc_ALL hc_ALL := fun _ h => ⟨h, good_of_word (List.mem_filter.mp h).2⟩
/-- what stays the same in a frame: the machine, the code, the owner, the tables' words, the classes; the room for calls -/
def hc_C (D : va_G) (cI cJ : ClassId) (NW : List Cond) (p : Program) (R : Room) (s : State) (m : MethodId) (args : Array Value) (meth : Method) (c : Code) (mi : Nat) : Prop :=
  p.tables.exec = Jvm.exec ∧ c.code = hc_b mi ∧ c.maxLocals = hc_mx mi ∧ s.vm.findClass (hc_cn (hc_own mi)) = some m.cls ∧ (∀ w ∈ hc_ALL, w.before args s = true) ∧ va_K D vwCl [(cI, .int), (cJ, .long)] s ∧ (∀ w ∈ NW, va_Nw w s) ∧ hc_dp mi ≤ R.frames ∧ hc_ln mi ≤ R.locals ∧ (hc_ini mi = true → meth.name = "<init>")
