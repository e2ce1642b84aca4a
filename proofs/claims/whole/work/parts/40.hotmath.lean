/-! hot places lie in bounds; keys in order are places in order -/
theorem quo_in {A T d : Int} (hT : 0 < T) (hA : 0 ≤ A) (hAT : A ≤ T) : min 0 d ≤ (2 * A * d + T) / (2 * T) ∧ (2 * A * d + T) / (2 * T) ≤ max 0 d := by
  have e : 2 * A * d = 2 * (A * d) := Int.mul_assoc 2 A d
  rw [e]
  rcases Int.lt_or_le d 0 with hd | hd
  · have p1 : A * d ≤ 0 := Int.mul_nonpos_of_nonneg_of_nonpos hA (by omega)
    have p2 : T * d ≤ A * d := Int.mul_le_mul_of_nonpos_right hAT (by omega)
    have c1 : d * (2 * T) = 2 * (T * d) := by rw [Int.mul_comm d, Int.mul_assoc]
    constructor
    · refine Int.le_trans (by omega : min 0 d ≤ d) (Int.le_ediv_of_mul_le (by omega) ?_)
      rw [c1]
      omega
    · have : (2 * (A * d) + T) / (2 * T) < 1 := Int.ediv_lt_of_lt_mul (by omega) (by omega)
      omega
  · have p1 : 0 ≤ A * d := Int.mul_nonneg hA hd
    have p2 : A * d ≤ T * d := Int.mul_le_mul_of_nonneg_right hAT hd
    have c1 : (d + 1) * (2 * T) = 2 * (T * d) + 2 * T := by rw [Int.add_mul, Int.one_mul, Int.mul_comm d, Int.mul_assoc]
    constructor
    · have : 0 ≤ (2 * (A * d) + T) / (2 * T) := Int.ediv_nonneg (by omega) (by omega)
      omega
    · have : (2 * (A * d) + T) / (2 * T) < d + 1 := Int.ediv_lt_of_lt_mul (by omega) (by rw [c1]; omega)
      omega
theorem crs1_in {x y dx dy T A O : Int} {q : Int × Int} (hT : 0 ≤ T) (h : crs1 x y dx dy T A O = some q) : min 0 dx ≤ q.1 - x ∧ q.1 - x ≤ max 0 dx ∧ min 0 dy ≤ q.2 - y ∧ q.2 - y ≤ max 0 dy := by
  unfold crs1 at h
  split at h
  · cases h
  · rename_i c
    cases h
    have h1 := quo_in (A := A) (T := T) (d := dx) (by omega) (by omega) (by omega)
    have h2 := quo_in (A := A) (T := T) (d := dy) (by omega) (by omega) (by omega)
    simp only
    omega
theorem crs_in {e f : Ed} {q : Int × Int} (h1 : inb e.1 e.2.1) (h2 : inb e.2.2.1 e.2.2.2) (h : crs e f = some q) : inb q.1 q.2 := by
  unfold crs at h
  rw [crs1_two] at h
  obtain ⟨a1, a2, a3, a4⟩ := h1
  obtain ⟨b1, b2, b3, b4⟩ := h2
  split at h
  · have := crs1_in (by omega) h
    unfold inb
    omega
  · have := crs1_in (by omega) h
    unfold inb
    omega
theorem edz_in {S E : List (Int × Int)} (hb : inB S) (hb2 : inB E) {i : Nat} (h1 : i < S.length) (h2 : i < E.length) : inb (edz S E i).1 (edz S E i).2.1 ∧ inb (edz S E i).2.2.1 (edz S E i).2.2.2 := by
  have m1 := hb S[i] (List.getElem_mem h1)
  have m2 := hb2 E[i] (List.getElem_mem h2)
  unfold edz
  simp only [List.getElem?_eq_getElem h1, List.getElem?_eq_getElem h2, Option.getD_some]
  exact ⟨m1, m2⟩
theorem hotL_in {S E P : List (Int × Int)} (hb : inB S) (hb2 : inB E) (hb3 : inB P) (hle : E.length = S.length) {q : Int × Int} (h : q ∈ hotL S E P S.length) : inb q.1 q.2 := by
  unfold hotL at h
  simp only [List.mem_append] at h
  rcases h with ((h | h) | h) | h
  · exact hb q h
  · exact hb2 q h
  · exact hb3 q h
  · obtain ⟨e, he, h⟩ := List.mem_flatMap.mp h
    have he' := List.mem_range.mp he
    unfold crx at h
    obtain ⟨d, hd, h⟩ := List.mem_flatMap.mp h
    have := Option.mem_toList.mp h
    have z := edz_in hb hb2 he' (by omega)
    exact crs_in z.1 z.2 this
theorem kc_lt {p q : Int × Int} (hp : inb p.1 p.2) (hq : inb q.1 q.2) : kc p.1 p.2 < kc q.1 q.2 ↔ plt p q := by
  unfold kc plt
  obtain ⟨a1, a2, a3, a4⟩ := hp
  obtain ⟨b1, b2, b3, b4⟩ := hq
  constructor
  · intro h
    omega
  · intro h
    rcases h with h | ⟨h, h2⟩ <;> omega
/-- nodes: all hot places, each once, the lesser first -/
def NodesOf (H N : List (Int × Int)) : Prop := N.Pairwise plt ∧ ∀ q, q ∈ N ↔ q ∈ H
theorem nodes_of {H : List (Int × Int)} (hH : ∀ q ∈ H, inb q.1 q.2) {L : List Int} (hs : L.Pairwise (· < ·)) (h1 : ∀ v ∈ L, v ∈ kcl H) : (L.map uk).Pairwise plt ∧ (∀ q ∈ L.map uk, q ∈ H) ∧ ((∀ v ∈ kcl H, v ∈ L) → ∀ q ∈ H, q ∈ L.map uk) ∧ (∀ v ∈ L, 0 ≤ v ∧ v < 1000002000001) := by
  have key : ∀ v ∈ L, ∃ q ∈ H, v = kc q.1 q.2 ∧ uk v = q := by
    intro v hv
    obtain ⟨q, hq, e⟩ := List.mem_map.mp (h1 v hv)
    exact ⟨q, hq, e.symm, by rw [← e]; exact uk_kc (hH q hq)⟩
  refine ⟨?_, ?_, ?_, ?_⟩
  · rw [List.pairwise_map]
    refine (List.Pairwise.and_mem.mp hs).imp ?_
    rintro a b ⟨ha, hb, hab⟩
    obtain ⟨p, hp, e1, e2⟩ := key a ha
    obtain ⟨q, hq, e3, e4⟩ := key b hb
    rw [e2, e4]
    rw [e1, e3] at hab
    exact (kc_lt (hH p hp) (hH q hq)).mp hab
  · intro q hq
    obtain ⟨v, hv, e⟩ := List.mem_map.mp hq
    obtain ⟨p, hp, e1, e2⟩ := key v hv
    rw [← e, e2]
    exact hp
  · intro hall q hq
    exact List.mem_map.mpr ⟨kc q.1 q.2, hall _ (List.mem_map.mpr ⟨q, hq, rfl⟩), uk_kc (hH q hq)⟩
  · intro v hv
    obtain ⟨q, hq, e1, e2⟩ := key v hv
    rw [e1]
    exact kc_bd (hH q hq)
theorem pw_get {α : Type} {R : α → α → Prop} {l : List α} (h : l.Pairwise R) : ∀ i j (hij : i < j) (hj : j < l.length), R l[i] l[j] := fun i j hij hj => List.pairwise_iff_getElem.mp h i j (by omega) hj hij
