/-! heaps in rows of whole numbers, as functions -/
def uI (g : Nat → Int) (k : Nat) (v : Int) : Nat → Int := fun i => if i = k then v else g i
theorem uI_s (g : Nat → Int) (k : Nat) (v : Int) : uI g k v k = v := by simp [uI]
theorem uI_n (g : Nat → Int) {k i : Nat} (v : Int) (h : i ≠ k) : uI g k v i = g i := by simp [uI, h]
def cn (g : Nat → Int) (n : Nat) (v : Int) : Nat := ((List.range n).map g).count v
theorem cn_succ (g : Nat → Int) (n : Nat) (v : Int) : cn g (n + 1) v = cn g n v + if g n = v then 1 else 0 := by
  unfold cn
  rw [List.range_succ, List.map_append, List.count_append]
  simp only [List.map_cons, List.map_nil, List.count_singleton]
  congr 1
  by_cases h : g n = v <;> simp [h]
theorem cn_same {g g' : Nat → Int} {n : Nat} (h : ∀ i, i < n → g' i = g i) (v : Int) : cn g' n v = cn g n v := by
  unfold cn
  rw [List.map_congr_left fun i hi => h i (List.mem_range.mp hi)]
theorem cn_upd (g : Nat → Int) (k : Nat) (x v : Int) : ∀ n, k < n → cn (uI g k x) n v + (if g k = v then 1 else 0) = cn g n v + if x = v then 1 else 0 := by
  intro n
  induction n with
  | zero => intro h; omega
  | succ n ih =>
    intro h
    rw [cn_succ, cn_succ]
    by_cases e : k = n
    · subst e
      rw [cn_same (g := g) (fun i hi => uI_n g x (by omega)), uI_s]
      omega
    · have := ih (by omega)
      rw [uI_n g x (Ne.symm e)]
      omega
theorem cn_ext {g g' : Nat → Int} {e n : Nat} (he : e ≤ n) (h : ∀ v, cn g' e v = cn g e v) (ho : ∀ i, e ≤ i → g' i = g i) (v : Int) : cn g' n v = cn g n v := by
  obtain ⟨d, rfl⟩ := Nat.exists_eq_add_of_le he
  clear he
  induction d with
  | zero => exact h v
  | succ d ih =>
    rw [show e + (d + 1) = e + d + 1 by omega, cn_succ, cn_succ, ih, ho (e + d) (by omega)]
theorem cn_mem {g g' : Nat → Int} {n : Nat} (h : ∀ v, cn g' n v = cn g n v) {i : Nat} (hi : i < n) : ∃ j, j < n ∧ g' i = g j := by
  have h1 : g' i ∈ (List.range n).map g' := List.mem_map.mpr ⟨i, List.mem_range.mpr hi, rfl⟩
  have h2 : 0 < ((List.range n).map g').count (g' i) := List.count_pos_iff.mpr h1
  have h3 : 0 < ((List.range n).map g).count (g' i) := by
    have := h (g' i)
    unfold cn at this
    omega
  obtain ⟨j, hj, e⟩ := List.mem_map.mp (List.count_pos_iff.mp h3)
  exact ⟨j, List.mem_range.mp hj, e.symm⟩
/-- heap order for the parents from a on, in the first e -/
def Hp (g : Nat → Int) (a e : Nat) : Prop := ∀ i c, a ≤ i → c = 2 * i + 1 ∨ c = 2 * i + 2 → c < e → g c ≤ g i
theorem Hp.max {g : Nat → Int} {e : Nat} (h : Hp g 0 e) : ∀ i, i < e → g i ≤ g 0 := by
  intro i
  induction i using Nat.strongRecOn with
  | _ i ih =>
    intro hi
    by_cases h0 : i = 0
    · rw [h0]
      exact Int.le_refl _
    · have h1 := h ((i - 1) / 2) i (Nat.zero_le _) (by omega) hi
      have h2 := ih ((i - 1) / 2) (by omega) (by omega)
      omega
/-- while a key sinks from place: g the row (what is in the hole is of no account), the hole -/
def Sk (f : Nat → Int) (place e : Nat) (key : Int) (g : Nat → Int) (hole : Nat) : Prop :=
  place ≤ hole ∧ hole < e ∧ (∀ i c, place ≤ i → i ≠ hole → c = 2 * i + 1 ∨ c = 2 * i + 2 → c < e → uI g hole key c ≤ uI g hole key i) ∧
  (hole ≠ place → ∀ c, c = 2 * hole + 1 ∨ c = 2 * hole + 2 → c < e → g c ≤ g ((hole - 1) / 2) ∧ place ≤ (hole - 1) / 2) ∧
  (∀ v, cn (uI g hole key) e v = cn f e v) ∧ (∀ i, i < place ∨ e ≤ i → g i = f i) ∧ (hole ≠ place → place ≤ (hole - 1) / 2 ∧ key ≤ g ((hole - 1) / 2))
theorem Sk.start {f : Nat → Int} {place e : Nat} (h : Hp f (place + 1) e) (hp : place < e) : Sk f place e (f place) f place := by
  have e1 : uI f place (f place) = f := by
    funext i
    unfold uI
    split
    · rename_i q
      rw [q]
    · rfl
  refine ⟨Nat.le_refl _, hp, fun i c h1 h2 h3 h4 => ?_, fun q => absurd rfl q, fun v => by rw [e1], fun _ _ => rfl, fun q => absurd rfl q⟩
  rw [e1]
  exact h i c (by omega) h3 h4
theorem Sk.stop {f g : Nat → Int} {place e hole : Nat} {key : Int} (h : Sk f place e key g hole) (hc : ∀ c, c = 2 * hole + 1 ∨ c = 2 * hole + 2 → c < e → g c ≤ key) : Hp (uI g hole key) place e ∧ (∀ v, cn (uI g hole key) e v = cn f e v) ∧ ∀ i, i < place ∨ e ≤ i → uI g hole key i = f i := by
  obtain ⟨h1, h2, h3, h4, h5, h6, h7⟩ := h
  refine ⟨fun i c a1 a2 a3 => ?_, h5, fun i hi => ?_⟩
  · by_cases q : i = hole
    · subst q
      rw [uI_s, uI_n g key (show c ≠ i by omega)]
      exact hc c a2 a3
    · exact h3 i c a1 q a2 a3
  · rw [uI_n g key (show i ≠ hole by omega)]
    exact h6 i hi
theorem Sk.step {f g : Nat → Int} {place e hole c : Nat} {key : Int} (h : Sk f place e key g hole) (hc : c = 2 * hole + 1 ∨ c = 2 * hole + 2) (hce : c < e) (hm : ∀ d, d = 2 * hole + 1 ∨ d = 2 * hole + 2 → d < e → g d ≤ g c) (hk : key < g c) : Sk f place e key (uI g hole (g c)) c := by
  obtain ⟨h1, h2, h3, h4, h5, h6, h7⟩ := h
  have hch : c ≠ hole := by omega
  have pc : (c - 1) / 2 = hole := by omega
  refine ⟨by omega, hce, fun i d a1 a2 a3 a4 => ?_, fun _ d a1 a2 => ?_, fun v => ?_, fun i hi => ?_, fun _ => ?_⟩
  · by_cases q : i = hole
    · subst q
      rw [uI_n _ key (Ne.symm hch), uI_s]
      by_cases q2 : d = c
      · rw [q2, uI_s]
        omega
      · rw [uI_n _ key q2, uI_n g _ (show d ≠ i by omega)]
        exact hm d a3 a4
    · rw [uI_n _ key a2, uI_n g _ q]
      by_cases q2 : d = c
      · omega
      · rw [uI_n _ key q2]
        by_cases q3 : d = hole
        · subst q3
          rw [uI_s]
          have q4 : i = (d - 1) / 2 := by omega
          have := (h4 (by omega) c hc hce).1
          rw [q4]
          exact this
        · rw [uI_n g _ q3]
          have := h3 i d a1 q a3 a4
          rw [uI_n g key q3, uI_n g key q] at this
          exact this
  · rw [pc, uI_s, uI_n g _ (show d ≠ hole by omega)]
    refine ⟨?_, h1⟩
    have := h3 c d (by omega) hch a1 a2
    rw [uI_n g key (show d ≠ hole by omega), uI_n g key hch] at this
    exact this
  · have b1 := cn_upd (uI g hole (g c)) c key v e hce
    have b2 := cn_upd g hole (g c) v e h2
    have b3 := cn_upd g hole key v e h2
    have b4 := h5 v
    rw [uI_n g _ hch] at b1
    omega
  · rw [uI_n g _ (show i ≠ hole by omega)]
    exact h6 i hi
  · rw [pc, uI_s]
    exact ⟨h1, by omega⟩
/-- the second half of the sort: up to last a heap, behind it in order and not below -/
def Ss (f : Nat → Int) (last n : Nat) : Prop := Hp f 0 (last + 1) ∧ (∀ i j, last < i → i ≤ j → j < n → f i ≤ f j) ∧ ∀ i j, i ≤ last → last < j → j < n → f i ≤ f j
theorem Ss.step {f g : Nat → Int} {last n : Nat} (h : Ss f (last + 1) n) (hl : last + 1 < n) (hg : Hp g 0 (last + 1)) (hc : ∀ v, cn g (last + 1) v = cn (uI (uI f 0 (f (last + 1))) (last + 1) (f 0)) (last + 1) v) (ho : ∀ i, last + 1 ≤ i → g i = uI (uI f 0 (f (last + 1))) (last + 1) (f 0) i) : Ss g last n := by
  obtain ⟨h1, h2, h3⟩ := h
  have mx := h1.max
  have low : ∀ i, i ≤ last → ∃ j, j ≤ last + 1 ∧ g i = f j := by
    intro i hi
    obtain ⟨j, hj, e⟩ := cn_mem hc (show i < last + 1 by omega)
    rw [uI_n _ _ (show j ≠ last + 1 by omega)] at e
    by_cases q : j = 0
    · subst q
      rw [uI_s] at e
      exact ⟨last + 1, by omega, e⟩
    · rw [uI_n f _ q] at e
      exact ⟨j, by omega, e⟩
  have top : g (last + 1) = f 0 := by rw [ho _ (Nat.le_refl _), uI_s]
  have high : ∀ j, last + 1 < j → g j = f j := fun j hj => by rw [ho j (by omega), uI_n _ _ (by omega), uI_n f _ (by omega)]
  refine ⟨hg, fun i j a1 a2 a3 => ?_, fun i j a1 a2 a3 => ?_⟩
  · by_cases q : i = last + 1
    · subst q
      rw [top]
      by_cases q2 : j = last + 1
      · subst q2
        rw [top]
        exact Int.le_refl _
      · rw [high j (by omega)]
        exact h3 0 j (by omega) (by omega) a3
    · rw [high i (by omega), high j (by omega)]
      exact h2 i j (by omega) a2 a3
  · obtain ⟨k, hk, e⟩ := low i a1
    rw [e]
    by_cases q2 : j = last + 1
    · subst q2
      rw [top]
      exact mx k (by omega)
    · rw [high j (by omega)]
      exact h3 k j hk (by omega) a3
theorem swap_cn {f : Nat → Int} {last : Nat} (n : Nat) (hl : last < n) (v : Int) : cn (uI (uI f 0 (f last)) last (f 0)) n v = cn f n v := by
  have b1 := cn_upd (uI f 0 (f last)) last (f 0) v n hl
  have b2 := cn_upd f 0 (f last) v n (by omega)
  by_cases q : last = 0
  · subst q
    rw [uI_s] at b1
    omega
  · rw [uI_n f _ q] at b1
    omega
theorem swap_hp {f : Nat → Int} {last : Nat} (h : Hp f 0 (last + 1)) : Hp (uI (uI f 0 (f last)) last (f 0)) 1 last := by
  intro i c a1 a2 a3
  rw [uI_n _ _ (show c ≠ last by omega), uI_n _ _ (show i ≠ last by omega), uI_n f _ (show c ≠ 0 by omega), uI_n f _ (show i ≠ 0 by omega)]
  exact h i c (by omega) a2 (by omega)
theorem sorted_list {f : Nat → Int} {n : Nat} (h : ∀ i j, i ≤ j → j < n → f i ≤ f j) : ((List.range n).map f).Pairwise (· ≤ ·) := by
  rw [List.pairwise_iff_getElem]
  intro i j hi hj hij
  simp only [List.length_map, List.length_range] at hi hj
  simp only [List.getElem_map, List.getElem_range]
  exact h i j (by omega) hj
theorem perm_list {f g : Nat → Int} {n : Nat} (h : ∀ v, cn g n v = cn f n v) : ((List.range n).map g).Perm ((List.range n).map f) := List.perm_iff_count.mpr h
