/-! crossings of both sides: the class's formula and the reference's tests -/
abbrev sdI (ax ay bx b2 cx cy : Int) : Int := (bx - ax) * (cy - ay) - (b2 - ay) * (cx - ax)
abbrev mtI (e f : Ed) : Prop := oppI (sdI e.1 e.2.1 e.2.2.1 e.2.2.2 f.1 f.2.1) (sdI e.1 e.2.1 e.2.2.1 e.2.2.2 f.2.2.1 f.2.2.2) ∧ oppI (sdI f.1 f.2.1 f.2.2.1 f.2.2.2 e.1 e.2.1) (sdI f.1 f.2.1 f.2.2.1 f.2.2.2 e.2.2.1 e.2.2.2)
abbrev nrI (e f : Ed) : Prop := nfr e.1 e.2.2.1 f.1 f.2.2.1 ∧ nfr e.2.1 e.2.2.2 f.2.1 f.2.2.2
abbrev tT (e f : Ed) : Int := (e.2.2.1 - e.1) * (f.2.2.2 - f.2.1) - (e.2.2.2 - e.2.1) * (f.2.2.1 - f.1)
abbrev tA (e f : Ed) : Int := (f.1 - e.1) * (f.2.2.2 - f.2.1) - (f.2.1 - e.2.1) * (f.2.2.1 - f.1)
abbrev tO (e f : Ed) : Int := (f.1 - e.1) * (e.2.2.2 - e.2.1) - (f.2.1 - e.2.1) * (e.2.2.1 - e.1)
theorem sd_1 (e f : Ed) : sdI e.1 e.2.1 e.2.2.1 e.2.2.2 f.1 f.2.1 = -tO e f := by
  show (e.2.2.1 - e.1) * (f.2.1 - e.2.1) - (e.2.2.2 - e.2.1) * (f.1 - e.1) = -((f.1 - e.1) * (e.2.2.2 - e.2.1) - (f.2.1 - e.2.1) * (e.2.2.1 - e.1))
  rw [Int.mul_comm (e.2.2.1 - e.1), Int.mul_comm (e.2.2.2 - e.2.1)]
  omega
theorem sd_2 (e f : Ed) : sdI e.1 e.2.1 e.2.2.1 e.2.2.2 f.2.2.1 f.2.2.2 = tT e f - tO e f := by
  have h := sd_1 e f
  show (e.2.2.1 - e.1) * (f.2.2.2 - e.2.1) - (e.2.2.2 - e.2.1) * (f.2.2.1 - e.1) = _
  have h1 : f.2.2.2 - e.2.1 = (f.2.2.2 - f.2.1) + (f.2.1 - e.2.1) := by omega
  have h2 : f.2.2.1 - e.1 = (f.2.2.1 - f.1) + (f.1 - e.1) := by omega
  rw [h1, h2, Int.mul_add, Int.mul_add]
  unfold sdI at h
  unfold tT
  omega
theorem sd_3 (e f : Ed) : sdI f.1 f.2.1 f.2.2.1 f.2.2.2 e.1 e.2.1 = tA e f := by
  show (f.2.2.1 - f.1) * (e.2.1 - f.2.1) - (f.2.2.2 - f.2.1) * (e.1 - f.1) = (f.1 - e.1) * (f.2.2.2 - f.2.1) - (f.2.1 - e.2.1) * (f.2.2.1 - f.1)
  have h1 : e.2.1 - f.2.1 = -(f.2.1 - e.2.1) := by omega
  have h2 : e.1 - f.1 = -(f.1 - e.1) := by omega
  rw [h1, h2, Int.mul_neg, Int.mul_neg, Int.mul_comm (f.2.2.1 - f.1), Int.mul_comm (f.2.2.2 - f.2.1)]
  omega
theorem sd_4 (e f : Ed) : sdI f.1 f.2.1 f.2.2.1 f.2.2.2 e.2.2.1 e.2.2.2 = tA e f - tT e f := by
  have h := sd_3 e f
  show (f.2.2.1 - f.1) * (e.2.2.2 - f.2.1) - (f.2.2.2 - f.2.1) * (e.2.2.1 - f.1) = _
  have h1 : e.2.2.2 - f.2.1 = (e.2.2.2 - e.2.1) + (e.2.1 - f.2.1) := by omega
  have h2 : e.2.2.1 - f.1 = (e.2.2.1 - e.1) + (e.1 - f.1) := by omega
  rw [h1, h2, Int.mul_add, Int.mul_add]
  unfold sdI at h
  unfold tT
  rw [Int.mul_comm (e.2.2.1 - e.1), Int.mul_comm (e.2.2.2 - e.2.1)]
  omega
/-- the place in common, along both edges -/
theorem two_x (e f : Ed) : tA e f * (e.2.2.1 - e.1) - tO e f * (f.2.2.1 - f.1) = (f.1 - e.1) * tT e f := by
  unfold tA tO tT
  generalize e.2.2.1 - e.1 = dx
  generalize e.2.2.2 - e.2.1 = dy
  generalize f.2.2.1 - f.1 = ox
  generalize f.2.2.2 - f.2.1 = oy
  generalize f.1 - e.1 = gx
  generalize f.2.1 - e.2.1 = gy
  simp only [Int.sub_mul, Int.mul_sub, Int.mul_assoc, Int.mul_comm, Int.mul_left_comm]
  omega
theorem two_y (e f : Ed) : tA e f * (e.2.2.2 - e.2.1) - tO e f * (f.2.2.2 - f.2.1) = (f.2.1 - e.2.1) * tT e f := by
  unfold tA tO tT
  generalize e.2.2.1 - e.1 = dx
  generalize e.2.2.2 - e.2.1 = dy
  generalize f.2.2.1 - f.1 = ox
  generalize f.2.2.2 - f.2.1 = oy
  generalize f.1 - e.1 = gx
  generalize f.2.1 - e.2.1 = gy
  simp only [Int.sub_mul, Int.mul_sub, Int.mul_assoc, Int.mul_comm, Int.mul_left_comm]
  omega
theorem gap_in {T A O dx ox gx : Int} (hT : 0 < T) (a1 : 0 ≤ A) (a2 : A ≤ T) (o1 : 0 ≤ O) (o2 : O ≤ T) (h : A * dx - O * ox = gx * T) : gx ≤ max 0 dx - min 0 ox ∧ min 0 dx - max 0 ox ≤ gx := by
  have p : ∀ B u : Int, 0 ≤ B → B ≤ T → 0 ≤ u → B * u ≤ T * u := fun B u _ h2 h3 => Int.mul_le_mul_of_nonneg_right h2 h3
  have q1 : A * dx ≤ T * max 0 dx := Int.le_trans (Int.mul_le_mul_of_nonneg_left (by omega : dx ≤ max 0 dx) a1) (Int.mul_le_mul_of_nonneg_right a2 (by omega))
  have q2 : T * min 0 ox ≤ O * ox := Int.le_trans (Int.mul_le_mul_of_nonpos_right o2 (by omega)) (Int.mul_le_mul_of_nonneg_left (by omega : min 0 ox ≤ ox) o1)
  have q3 : O * ox ≤ T * max 0 ox := Int.le_trans (Int.mul_le_mul_of_nonneg_left (by omega : ox ≤ max 0 ox) o1) (Int.mul_le_mul_of_nonneg_right o2 (by omega))
  have q4 : T * min 0 dx ≤ A * dx := Int.le_trans (Int.mul_le_mul_of_nonpos_right a2 (by omega)) (Int.mul_le_mul_of_nonneg_left (by omega : min 0 dx ≤ dx) a1)
  rw [Int.mul_comm] at h
  constructor
  · have : T * gx ≤ T * (max 0 dx - min 0 ox) := by
      rw [Int.mul_sub, Int.mul_comm T gx]
      rw [Int.mul_comm] at h
      omega
    exact Int.le_of_mul_le_mul_left this hT
  · have : T * (min 0 dx - max 0 ox) ≤ T * gx := by
      rw [Int.mul_sub, Int.mul_comm T gx]
      rw [Int.mul_comm] at h
      omega
    exact Int.le_of_mul_le_mul_left this hT
theorem rnd_ex {T A d g : Int} (hT : 0 < T) (h : A * d = g * T) : (2 * A * d + T) / (2 * T) = g := by
  have e : 2 * A * d + T = T + g * (2 * T) := by
    rw [Int.mul_assoc, h, Int.mul_left_comm g 2 T]
    omega
  rw [e, Int.add_mul_ediv_right _ _ (by omega), Int.ediv_eq_zero_of_lt (by omega) (by omega)]
  omega
theorem crs1_some {x y dx dy T A O X Y : Int} (hT : 0 ≤ T) (h : crs1 x y dx dy T A O = some (X, Y)) : 0 < T ∧ 0 ≤ A ∧ A ≤ T ∧ 0 ≤ O ∧ O ≤ T ∧ X = x + (2 * A * dx + T) / (2 * T) ∧ Y = y + (2 * A * dy + T) / (2 * T) := by
  unfold crs1 at h
  split at h
  · cases h
  · rename_i c
    cases h
    exact ⟨by omega, by omega, by omega, by omega, by omega, rfl, rfl⟩
/-- sign and size that the class works with -/
theorem crs_norm {e f : Ed} {X Y : Int} (h : crs e f = some (X, Y)) : ∃ T A O, ((T = tT e f ∧ A = tA e f ∧ O = tO e f) ∨ (T = -tT e f ∧ A = -tA e f ∧ O = -tO e f)) ∧ 0 < T ∧ 0 ≤ A ∧ A ≤ T ∧ 0 ≤ O ∧ O ≤ T ∧ X = e.1 + (2 * A * (e.2.2.1 - e.1) + T) / (2 * T) ∧ Y = e.2.1 + (2 * A * (e.2.2.2 - e.2.1) + T) / (2 * T) := by
  unfold crs at h
  rw [crs1_two] at h
  split at h
  · rename_i c
    have c' : tT e f < 0 := c
    exact ⟨-tT e f, -tA e f, -tO e f, Or.inr ⟨rfl, rfl, rfl⟩, crs1_some (by omega) h⟩
  · rename_i c
    have c' : ¬ tT e f < 0 := c
    exact ⟨tT e f, tA e f, tO e f, Or.inl ⟨rfl, rfl, rfl⟩, crs1_some (by omega) h⟩
theorem crs_strict {e f : Ed} (h : mtI e f) : ∃ X Y, crs e f = some (X, Y) := by
  unfold mtI oppI at h
  rw [sd_1, sd_2, sd_3, sd_4] at h
  unfold crs
  rw [crs1_two]
  show ∃ X Y, (if tT e f < 0 then crs1 e.1 e.2.1 (e.2.2.1 - e.1) (e.2.2.2 - e.2.1) (-tT e f) (-tA e f) (-tO e f) else crs1 e.1 e.2.1 (e.2.2.1 - e.1) (e.2.2.2 - e.2.1) (tT e f) (tA e f) (tO e f)) = some (X, Y)
  generalize tT e f = T at *
  generalize tA e f = A at *
  generalize tO e f = O at *
  split
  · unfold crs1
    rw [if_neg (by omega)]
    exact ⟨_, _, rfl⟩
  · unfold crs1
    rw [if_neg (by omega)]
    exact ⟨_, _, rfl⟩
theorem crs_skip {e f : Ed} {X Y : Int} (h : crs e f = some (X, Y)) (hn : ¬ (nrI e f ∧ mtI e f)) : (X, Y) = (e.1, e.2.1) ∨ (X, Y) = (e.2.2.1, e.2.2.2) ∨ (X, Y) = (f.1, f.2.1) ∨ (X, Y) = (f.2.2.1, f.2.2.2) := by
  obtain ⟨T, A, O, hs, hT, a1, a2, o1, o2, hX, hY⟩ := crs_norm h
  have ix : A * (e.2.2.1 - e.1) - O * (f.2.2.1 - f.1) = (f.1 - e.1) * T := by
    have := two_x e f
    rcases hs with ⟨rfl, rfl, rfl⟩ | ⟨rfl, rfl, rfl⟩
    · exact this
    · rw [Int.neg_mul, Int.neg_mul, Int.mul_neg]
      omega
  have iy : A * (e.2.2.2 - e.2.1) - O * (f.2.2.2 - f.2.1) = (f.2.1 - e.2.1) * T := by
    have := two_y e f
    rcases hs with ⟨rfl, rfl, rfl⟩ | ⟨rfl, rfl, rfl⟩
    · exact this
    · rw [Int.neg_mul, Int.neg_mul, Int.mul_neg]
      omega
  by_cases z1 : A = 0
  · left
    rw [rnd_ex hT (g := 0) (by rw [z1, Int.zero_mul, Int.zero_mul])] at hX hY
    rw [hX, hY]
    simp
  by_cases z2 : A = T
  · right; left
    rw [rnd_ex hT (g := e.2.2.1 - e.1) (by rw [z2, Int.mul_comm])] at hX
    rw [rnd_ex hT (g := e.2.2.2 - e.2.1) (by rw [z2, Int.mul_comm])] at hY
    rw [hX, hY]
    ext <;> simp only <;> omega
  by_cases z3 : O = 0
  · right; right; left
    rw [z3, Int.zero_mul] at ix iy
    rw [rnd_ex hT (g := f.1 - e.1) (by omega)] at hX
    rw [rnd_ex hT (g := f.2.1 - e.2.1) (by omega)] at hY
    rw [hX, hY]
    ext <;> simp only <;> omega
  by_cases z4 : O = T
  · right; right; right
    rw [z4, Int.mul_comm T] at ix iy
    rw [rnd_ex hT (g := f.2.2.1 - e.1) (by
      have : f.2.2.1 - e.1 = (f.2.2.1 - f.1) + (f.1 - e.1) := by omega
      rw [this, Int.add_mul]
      omega)] at hX
    rw [rnd_ex hT (g := f.2.2.2 - e.2.1) (by
      have : f.2.2.2 - e.2.1 = (f.2.2.2 - f.2.1) + (f.2.1 - e.2.1) := by omega
      rw [this, Int.add_mul]
      omega)] at hY
    rw [hX, hY]
    ext <;> simp only <;> omega
  · exfalso
    apply hn
    have g1 := gap_in hT a1 a2 o1 o2 ix
    have g2 := gap_in hT a1 a2 o1 o2 iy
    refine ⟨⟨⟨by omega, by omega⟩, ⟨by omega, by omega⟩⟩, ?_⟩
    unfold mtI oppI
    rw [sd_1, sd_2, sd_3, sd_4]
    generalize tT e f = T' at *
    generalize tA e f = A' at *
    generalize tO e f = O' at *
    omega
theorem skip_hot {S E : List (Int × Int)} {i j : Nat} (hle : E.length = S.length) (hi : i < S.length) (hj : j < S.length) (hn : ¬ (nrI (edz S E i) (edz S E j) ∧ mtI (edz S E i) (edz S E j))) {q : Int × Int} (h : crs (edz S E i) (edz S E j) = some q) : q ∈ S ∨ q ∈ E := by
  have sS : ∀ k, k < S.length → ((edz S E k).1, (edz S E k).2.1) ∈ S := fun k hk => by
    unfold edz
    simp only [List.getElem?_eq_getElem hk, Option.getD_some]
    exact List.getElem_mem hk
  have sE : ∀ k, k < S.length → ((edz S E k).2.2.1, (edz S E k).2.2.2) ∈ E := fun k hk => by
    have hk' : k < E.length := by omega
    unfold edz
    simp only [List.getElem?_eq_getElem hk', Option.getD_some]
    exact List.getElem_mem hk'
  obtain ⟨X, Y⟩ := q
  rcases crs_skip h hn with e | e | e | e
  · rw [e]; exact Or.inl (sS i hi)
  · rw [e]; exact Or.inr (sE i hi)
  · rw [e]; exact Or.inl (sS j hj)
  · rw [e]; exact Or.inr (sE j hj)
