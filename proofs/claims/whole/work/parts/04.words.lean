theorem hc_k3w : ∀ q ∈ hc_k3l, Cond.constant (hc_cn q.1) q.2.1 q.2.2 ∈ hc_ALL := by
  refine List.forall_mem_cons.mpr ⟨?_, List.forall_mem_cons.mpr ⟨?_, List.forall_mem_cons.mpr ⟨?_, List.forall_mem_cons.mpr ⟨?_, List.forall_mem_cons.mpr ⟨?_, List.forall_mem_cons.mpr ⟨?_, List.forall_mem_cons.mpr ⟨?_, fun _ h => absurd h List.not_mem_nil⟩⟩⟩⟩⟩⟩⟩
  · exact hc_w 260 (by decide +kernel) (by decide +kernel)
  · exact hc_w 318 (by decide +kernel) (by decide +kernel)
  · exact hc_w 155 (by decide +kernel) (by decide +kernel)
  · exact hc_w 156 (by decide +kernel) (by decide +kernel)
  · exact hc_w 437 (by decide +kernel) (by decide +kernel)
  · exact hc_w 438 (by decide +kernel) (by decide +kernel)
  · exact hc_w 579 (by decide +kernel) (by decide +kernel)
theorem hc_k6w : ∀ q ∈ hc_k6l, Cond.constantLong (hc_cn q.1) q.2.1 q.2.2 ∈ hc_ALL := by
  refine List.forall_mem_cons.mpr ⟨?_, List.forall_mem_cons.mpr ⟨?_, List.forall_mem_cons.mpr ⟨?_, List.forall_mem_cons.mpr ⟨?_, List.forall_mem_cons.mpr ⟨?_, List.forall_mem_cons.mpr ⟨?_, List.forall_mem_cons.mpr ⟨?_, List.forall_mem_cons.mpr ⟨?_, List.forall_mem_cons.mpr ⟨?_, fun _ h => absurd h List.not_mem_nil⟩⟩⟩⟩⟩⟩⟩⟩⟩
  · exact hc_w 259 (by decide +kernel) (by decide +kernel)
  · exact hc_w 283 (by decide +kernel) (by decide +kernel)
  · exact hc_w 300 (by decide +kernel) (by decide +kernel)
  · exact hc_w 211 (by decide +kernel) (by decide +kernel)
  · exact hc_w 212 (by decide +kernel) (by decide +kernel)
  · exact hc_w 234 (by decide +kernel) (by decide +kernel)
  · exact hc_w 470 (by decide +kernel) (by decide +kernel)
  · exact hc_w 536 (by decide +kernel) (by decide +kernel)
  · exact hc_w 516 (by decide +kernel) (by decide +kernel)
theorem hc_flw : ∀ q ∈ hc_fll, Cond.fieldLink (hc_cn q.1) q.2.1 (hc_ft q.2.2.1 q.2.2.2).1 (hc_ft q.2.2.1 q.2.2.2).2.1 (hc_ft q.2.2.1 q.2.2.2).2.2.1 ∈ hc_ALL ∧ q.2.2.2 < hc_fn q.2.2.1 ∧ q.2.2.1 < 7 := by
  refine List.forall_mem_cons.mpr ⟨?_, List.forall_mem_cons.mpr ⟨?_, List.forall_mem_cons.mpr ⟨?_, List.forall_mem_cons.mpr ⟨?_, List.forall_mem_cons.mpr ⟨?_, List.forall_mem_cons.mpr ⟨?_, List.forall_mem_cons.mpr ⟨?_, List.forall_mem_cons.mpr ⟨?_, List.forall_mem_cons.mpr ⟨?_, List.forall_mem_cons.mpr ⟨?_, List.forall_mem_cons.mpr ⟨?_, List.forall_mem_cons.mpr ⟨?_, List.forall_mem_cons.mpr ⟨?_, List.forall_mem_cons.mpr ⟨?_, List.forall_mem_cons.mpr ⟨?_, List.forall_mem_cons.mpr ⟨?_, List.forall_mem_cons.mpr ⟨?_, List.forall_mem_cons.mpr ⟨?_, List.forall_mem_cons.mpr ⟨?_, List.forall_mem_cons.mpr ⟨?_, List.forall_mem_cons.mpr ⟨?_, List.forall_mem_cons.mpr ⟨?_, List.forall_mem_cons.mpr ⟨?_, List.forall_mem_cons.mpr ⟨?_, List.forall_mem_cons.mpr ⟨?_, List.forall_mem_cons.mpr ⟨?_, List.forall_mem_cons.mpr ⟨?_, List.forall_mem_cons.mpr ⟨?_, List.forall_mem_cons.mpr ⟨?_, List.forall_mem_cons.mpr ⟨?_, List.forall_mem_cons.mpr ⟨?_, List.forall_mem_cons.mpr ⟨?_, List.forall_mem_cons.mpr ⟨?_, List.forall_mem_cons.mpr ⟨?_, List.forall_mem_cons.mpr ⟨?_, List.forall_mem_cons.mpr ⟨?_, List.forall_mem_cons.mpr ⟨?_, List.forall_mem_cons.mpr ⟨?_, List.forall_mem_cons.mpr ⟨?_, List.forall_mem_cons.mpr ⟨?_, List.forall_mem_cons.mpr ⟨?_, List.forall_mem_cons.mpr ⟨?_, List.forall_mem_cons.mpr ⟨?_, List.forall_mem_cons.mpr ⟨?_, List.forall_mem_cons.mpr ⟨?_, List.forall_mem_cons.mpr ⟨?_, List.forall_mem_cons.mpr ⟨?_, List.forall_mem_cons.mpr ⟨?_, List.forall_mem_cons.mpr ⟨?_, List.forall_mem_cons.mpr ⟨?_, List.forall_mem_cons.mpr ⟨?_, List.forall_mem_cons.mpr ⟨?_, List.forall_mem_cons.mpr ⟨?_, List.forall_mem_cons.mpr ⟨?_, List.forall_mem_cons.mpr ⟨?_, List.forall_mem_cons.mpr ⟨?_, List.forall_mem_cons.mpr ⟨?_, List.forall_mem_cons.mpr ⟨?_, List.forall_mem_cons.mpr ⟨?_, List.forall_mem_cons.mpr ⟨?_, List.forall_mem_cons.mpr ⟨?_, List.forall_mem_cons.mpr ⟨?_, fun _ h => absurd h List.not_mem_nil⟩⟩⟩⟩⟩⟩⟩⟩⟩⟩⟩⟩⟩⟩⟩⟩⟩⟩⟩⟩⟩⟩⟩⟩⟩⟩⟩⟩⟩⟩⟩⟩⟩⟩⟩⟩⟩⟩⟩⟩⟩⟩⟩⟩⟩⟩⟩⟩⟩⟩⟩⟩⟩⟩⟩⟩⟩⟩⟩⟩⟩⟩
  · exact ⟨hc_w 74 (by decide +kernel) (by decide +kernel), by decide +kernel, by decide +kernel⟩
  · exact ⟨hc_w 77 (by decide +kernel) (by decide +kernel), by decide +kernel, by decide +kernel⟩
  · exact ⟨hc_w 93 (by decide +kernel) (by decide +kernel), by decide +kernel, by decide +kernel⟩
  · exact ⟨hc_w 95 (by decide +kernel) (by decide +kernel), by decide +kernel, by decide +kernel⟩
  · exact ⟨hc_w 97 (by decide +kernel) (by decide +kernel), by decide +kernel, by decide +kernel⟩
  · exact ⟨hc_w 98 (by decide +kernel) (by decide +kernel), by decide +kernel, by decide +kernel⟩
  · exact ⟨hc_w 100 (by decide +kernel) (by decide +kernel), by decide +kernel, by decide +kernel⟩
  · exact ⟨hc_w 102 (by decide +kernel) (by decide +kernel), by decide +kernel, by decide +kernel⟩
  · exact ⟨hc_w 104 (by decide +kernel) (by decide +kernel), by decide +kernel, by decide +kernel⟩
  · exact ⟨hc_w 106 (by decide +kernel) (by decide +kernel), by decide +kernel, by decide +kernel⟩
  · exact ⟨hc_w 108 (by decide +kernel) (by decide +kernel), by decide +kernel, by decide +kernel⟩
  · exact ⟨hc_w 75 (by decide +kernel) (by decide +kernel), by decide +kernel, by decide +kernel⟩
  · exact ⟨hc_w 52 (by decide +kernel) (by decide +kernel), by decide +kernel, by decide +kernel⟩
  · exact ⟨hc_w 55 (by decide +kernel) (by decide +kernel), by decide +kernel, by decide +kernel⟩
  · exact ⟨hc_w 78 (by decide +kernel) (by decide +kernel), by decide +kernel, by decide +kernel⟩
  · exact ⟨hc_w 58 (by decide +kernel) (by decide +kernel), by decide +kernel, by decide +kernel⟩
  · exact ⟨hc_w 51 (by decide +kernel) (by decide +kernel), by decide +kernel, by decide +kernel⟩
  · exact ⟨hc_w 54 (by decide +kernel) (by decide +kernel), by decide +kernel, by decide +kernel⟩
  · exact ⟨hc_w 57 (by decide +kernel) (by decide +kernel), by decide +kernel, by decide +kernel⟩
  · exact ⟨hc_w 129 (by decide +kernel) (by decide +kernel), by decide +kernel, by decide +kernel⟩
  · exact ⟨hc_w 130 (by decide +kernel) (by decide +kernel), by decide +kernel, by decide +kernel⟩
  · exact ⟨hc_w 131 (by decide +kernel) (by decide +kernel), by decide +kernel, by decide +kernel⟩
  · exact ⟨hc_w 132 (by decide +kernel) (by decide +kernel), by decide +kernel, by decide +kernel⟩
  · exact ⟨hc_w 133 (by decide +kernel) (by decide +kernel), by decide +kernel, by decide +kernel⟩
  · exact ⟨hc_w 134 (by decide +kernel) (by decide +kernel), by decide +kernel, by decide +kernel⟩
  · exact ⟨hc_w 53 (by decide +kernel) (by decide +kernel), by decide +kernel, by decide +kernel⟩
  · exact ⟨hc_w 103 (by decide +kernel) (by decide +kernel), by decide +kernel, by decide +kernel⟩
  · exact ⟨hc_w 94 (by decide +kernel) (by decide +kernel), by decide +kernel, by decide +kernel⟩
  · exact ⟨hc_w 56 (by decide +kernel) (by decide +kernel), by decide +kernel, by decide +kernel⟩
  · exact ⟨hc_w 59 (by decide +kernel) (by decide +kernel), by decide +kernel, by decide +kernel⟩
  · exact ⟨hc_w 105 (by decide +kernel) (by decide +kernel), by decide +kernel, by decide +kernel⟩
  · exact ⟨hc_w 107 (by decide +kernel) (by decide +kernel), by decide +kernel, by decide +kernel⟩
  · exact ⟨hc_w 109 (by decide +kernel) (by decide +kernel), by decide +kernel, by decide +kernel⟩
  · exact ⟨hc_w 96 (by decide +kernel) (by decide +kernel), by decide +kernel, by decide +kernel⟩
  · exact ⟨hc_w 99 (by decide +kernel) (by decide +kernel), by decide +kernel, by decide +kernel⟩
  · exact ⟨hc_w 101 (by decide +kernel) (by decide +kernel), by decide +kernel, by decide +kernel⟩
  · exact ⟨hc_w 76 (by decide +kernel) (by decide +kernel), by decide +kernel, by decide +kernel⟩
  · exact ⟨hc_w 352 (by decide +kernel) (by decide +kernel), by decide +kernel, by decide +kernel⟩
  · exact ⟨hc_w 354 (by decide +kernel) (by decide +kernel), by decide +kernel, by decide +kernel⟩
  · exact ⟨hc_w 367 (by decide +kernel) (by decide +kernel), by decide +kernel, by decide +kernel⟩
  · exact ⟨hc_w 368 (by decide +kernel) (by decide +kernel), by decide +kernel, by decide +kernel⟩
  · exact ⟨hc_w 375 (by decide +kernel) (by decide +kernel), by decide +kernel, by decide +kernel⟩
  · exact ⟨hc_w 376 (by decide +kernel) (by decide +kernel), by decide +kernel, by decide +kernel⟩
  · exact ⟨hc_w 377 (by decide +kernel) (by decide +kernel), by decide +kernel, by decide +kernel⟩
  · exact ⟨hc_w 378 (by decide +kernel) (by decide +kernel), by decide +kernel, by decide +kernel⟩
  · exact ⟨hc_w 379 (by decide +kernel) (by decide +kernel), by decide +kernel, by decide +kernel⟩
  · exact ⟨hc_w 380 (by decide +kernel) (by decide +kernel), by decide +kernel, by decide +kernel⟩
  · exact ⟨hc_w 381 (by decide +kernel) (by decide +kernel), by decide +kernel, by decide +kernel⟩
  · exact ⟨hc_w 382 (by decide +kernel) (by decide +kernel), by decide +kernel, by decide +kernel⟩
  · exact ⟨hc_w 383 (by decide +kernel) (by decide +kernel), by decide +kernel, by decide +kernel⟩
  · exact ⟨hc_w 384 (by decide +kernel) (by decide +kernel), by decide +kernel, by decide +kernel⟩
  · exact ⟨hc_w 385 (by decide +kernel) (by decide +kernel), by decide +kernel, by decide +kernel⟩
  · exact ⟨hc_w 386 (by decide +kernel) (by decide +kernel), by decide +kernel, by decide +kernel⟩
  · exact ⟨hc_w 355 (by decide +kernel) (by decide +kernel), by decide +kernel, by decide +kernel⟩
  · exact ⟨hc_w 353 (by decide +kernel) (by decide +kernel), by decide +kernel, by decide +kernel⟩
  · exact ⟨hc_w 369 (by decide +kernel) (by decide +kernel), by decide +kernel, by decide +kernel⟩
  · exact ⟨hc_w 388 (by decide +kernel) (by decide +kernel), by decide +kernel, by decide +kernel⟩
  · exact ⟨hc_w 387 (by decide +kernel) (by decide +kernel), by decide +kernel, by decide +kernel⟩
  · exact ⟨hc_w 391 (by decide +kernel) (by decide +kernel), by decide +kernel, by decide +kernel⟩
  · exact ⟨hc_w 390 (by decide +kernel) (by decide +kernel), by decide +kernel, by decide +kernel⟩
  · exact ⟨hc_w 389 (by decide +kernel) (by decide +kernel), by decide +kernel, by decide +kernel⟩
  · exact ⟨hc_w 392 (by decide +kernel) (by decide +kernel), by decide +kernel, by decide +kernel⟩
theorem hc_clw : ∀ q ∈ hc_cll, Cond.classLink (hc_cn q.1) q.2.1 (hc_cn q.2.2) ∈ hc_ALL ∧ Cond.instantiable (hc_cn q.2.2) (hc_fn q.2.2) ∈ hc_ALL ∧ Cond.initialized (hc_cn q.2.2) ∈ hc_ALL ∧ q.2.2 < 7 := by
  refine List.forall_mem_cons.mpr ⟨?_, List.forall_mem_cons.mpr ⟨?_, List.forall_mem_cons.mpr ⟨?_, List.forall_mem_cons.mpr ⟨?_, List.forall_mem_cons.mpr ⟨?_, List.forall_mem_cons.mpr ⟨?_, List.forall_mem_cons.mpr ⟨?_, List.forall_mem_cons.mpr ⟨?_, fun _ h => absurd h List.not_mem_nil⟩⟩⟩⟩⟩⟩⟩⟩
  · exact ⟨hc_w 91 (by decide +kernel) (by decide +kernel), hc_w 46 (by decide +kernel) (by decide +kernel), hc_w 28 (by decide +kernel) (by decide +kernel), by decide +kernel⟩
  · exact ⟨hc_w 45 (by decide +kernel) (by decide +kernel), hc_w 46 (by decide +kernel) (by decide +kernel), hc_w 28 (by decide +kernel) (by decide +kernel), by decide +kernel⟩
  · exact ⟨hc_w 68 (by decide +kernel) (by decide +kernel), hc_w 69 (by decide +kernel) (by decide +kernel), hc_w 29 (by decide +kernel) (by decide +kernel), by decide +kernel⟩
  · exact ⟨hc_w 85 (by decide +kernel) (by decide +kernel), hc_w 86 (by decide +kernel) (by decide +kernel), hc_w 30 (by decide +kernel) (by decide +kernel), by decide +kernel⟩
  · exact ⟨hc_w 346 (by decide +kernel) (by decide +kernel), hc_w 347 (by decide +kernel) (by decide +kernel), hc_w 32 (by decide +kernel) (by decide +kernel), by decide +kernel⟩
  · exact ⟨hc_w 361 (by decide +kernel) (by decide +kernel), hc_w 362 (by decide +kernel) (by decide +kernel), hc_w 33 (by decide +kernel) (by decide +kernel), by decide +kernel⟩
  · exact ⟨hc_w 37 (by decide +kernel) (by decide +kernel), hc_w 38 (by decide +kernel) (by decide +kernel), hc_w 27 (by decide +kernel) (by decide +kernel), by decide +kernel⟩
  · exact ⟨hc_w 340 (by decide +kernel) (by decide +kernel), hc_w 341 (by decide +kernel) (by decide +kernel), hc_w 31 (by decide +kernel) (by decide +kernel), by decide +kernel⟩
theorem hc_obw : ∀ q ∈ hc_obl, Cond.methodLink (hc_cn q.1) q.2 objectInit ∈ hc_ALL := by
  refine List.forall_mem_cons.mpr ⟨?_, List.forall_mem_cons.mpr ⟨?_, List.forall_mem_cons.mpr ⟨?_, List.forall_mem_cons.mpr ⟨?_, List.forall_mem_cons.mpr ⟨?_, List.forall_mem_cons.mpr ⟨?_, List.forall_mem_cons.mpr ⟨?_, fun _ h => absurd h List.not_mem_nil⟩⟩⟩⟩⟩⟩⟩
  · exact hc_w 73 (by decide +kernel) (by decide +kernel)
  · exact hc_w 90 (by decide +kernel) (by decide +kernel)
  · exact hc_w 50 (by decide +kernel) (by decide +kernel)
  · exact hc_w 42 (by decide +kernel) (by decide +kernel)
  · exact hc_w 351 (by decide +kernel) (by decide +kernel)
  · exact hc_w 366 (by decide +kernel) (by decide +kernel)
  · exact hc_w 345 (by decide +kernel) (by decide +kernel)
theorem hc_acw : ∀ q ∈ hc_acl, Cond.methodLink (hc_cn q.1) q.2 arraycopyName ∈ hc_ALL := by
  refine List.forall_mem_cons.mpr ⟨?_, fun _ h => absurd h List.not_mem_nil⟩
  · exact hc_w 184 (by decide +kernel) (by decide +kernel)
theorem hc_oiw : Cond.instanceMethod objectInit ∈ hc_ALL ∧ Cond.code objectInit ⟨#[0xb1]⟩ 1 none ∈ hc_ALL := ⟨hc_w 43 (by decide +kernel) (by decide +kernel), hc_w 44 (by decide +kernel) (by decide +kernel)⟩
theorem hc_ayw : Cond.native arraycopyName ∈ hc_ALL ∧ Cond.static arraycopyName ∈ hc_ALL ∧ Cond.initialized "java/lang/System" ∈ hc_ALL := ⟨hc_w 186 (by decide +kernel) (by decide +kernel), hc_w 185 (by decide +kernel) (by decide +kernel), hc_w 36 (by decide +kernel) (by decide +kernel)⟩
theorem hc_arw : Cond.arrayClass .int ∈ hc_ALL ∧ Cond.arrayClass .long ∈ hc_ALL := ⟨hc_w 67 (by decide +kernel) (by decide +kernel), hc_w 84 (by decide +kernel) (by decide +kernel)⟩
theorem hc_lyw0 : ∀ w ∈ u_ws RX0 TX0 2, w ∈ hc_ALL := by
  refine List.forall_mem_cons.mpr ⟨?_, List.forall_mem_cons.mpr ⟨?_, fun _ h => absurd h List.not_mem_nil⟩⟩
  · exact hc_w 79 (by decide +kernel) (by decide +kernel)
  · exact hc_w 81 (by decide +kernel) (by decide +kernel)
theorem hc_lyw1 : ∀ w ∈ u_ws RX1 TX1 9, w ∈ hc_ALL := by
  refine List.forall_mem_cons.mpr ⟨?_, List.forall_mem_cons.mpr ⟨?_, List.forall_mem_cons.mpr ⟨?_, List.forall_mem_cons.mpr ⟨?_, List.forall_mem_cons.mpr ⟨?_, List.forall_mem_cons.mpr ⟨?_, List.forall_mem_cons.mpr ⟨?_, List.forall_mem_cons.mpr ⟨?_, List.forall_mem_cons.mpr ⟨?_, fun _ h => absurd h List.not_mem_nil⟩⟩⟩⟩⟩⟩⟩⟩⟩
  · exact hc_w 110 (by decide +kernel) (by decide +kernel)
  · exact hc_w 112 (by decide +kernel) (by decide +kernel)
  · exact hc_w 114 (by decide +kernel) (by decide +kernel)
  · exact hc_w 116 (by decide +kernel) (by decide +kernel)
  · exact hc_w 118 (by decide +kernel) (by decide +kernel)
  · exact hc_w 120 (by decide +kernel) (by decide +kernel)
  · exact hc_w 122 (by decide +kernel) (by decide +kernel)
  · exact hc_w 124 (by decide +kernel) (by decide +kernel)
  · exact hc_w 126 (by decide +kernel) (by decide +kernel)
theorem hc_lyw2 : ∀ w ∈ u_ws RX2 TX2 3, w ∈ hc_ALL := by
  refine List.forall_mem_cons.mpr ⟨?_, List.forall_mem_cons.mpr ⟨?_, List.forall_mem_cons.mpr ⟨?_, fun _ h => absurd h List.not_mem_nil⟩⟩⟩
  · exact hc_w 60 (by decide +kernel) (by decide +kernel)
  · exact hc_w 62 (by decide +kernel) (by decide +kernel)
  · exact hc_w 64 (by decide +kernel) (by decide +kernel)
theorem hc_lyw3 : ∀ w ∈ u_ws RX3 TX3 6, w ∈ hc_ALL := by
  refine List.forall_mem_cons.mpr ⟨?_, List.forall_mem_cons.mpr ⟨?_, List.forall_mem_cons.mpr ⟨?_, List.forall_mem_cons.mpr ⟨?_, List.forall_mem_cons.mpr ⟨?_, List.forall_mem_cons.mpr ⟨?_, fun _ h => absurd h List.not_mem_nil⟩⟩⟩⟩⟩⟩
  · exact hc_w 135 (by decide +kernel) (by decide +kernel)
  · exact hc_w 137 (by decide +kernel) (by decide +kernel)
  · exact hc_w 139 (by decide +kernel) (by decide +kernel)
  · exact hc_w 141 (by decide +kernel) (by decide +kernel)
  · exact hc_w 143 (by decide +kernel) (by decide +kernel)
  · exact hc_w 145 (by decide +kernel) (by decide +kernel)
theorem hc_lyw4 : ∀ w ∈ u_ws RX4 TX4 2, w ∈ hc_ALL := by
  refine List.forall_mem_cons.mpr ⟨?_, List.forall_mem_cons.mpr ⟨?_, fun _ h => absurd h List.not_mem_nil⟩⟩
  · exact hc_w 356 (by decide +kernel) (by decide +kernel)
  · exact hc_w 358 (by decide +kernel) (by decide +kernel)
theorem hc_lyw5 : ∀ w ∈ u_ws RX5 TX5 2, w ∈ hc_ALL := by
  refine List.forall_mem_cons.mpr ⟨?_, List.forall_mem_cons.mpr ⟨?_, fun _ h => absurd h List.not_mem_nil⟩⟩
  · exact hc_w 370 (by decide +kernel) (by decide +kernel)
  · exact hc_w 372 (by decide +kernel) (by decide +kernel)
theorem hc_lyw6 : ∀ w ∈ u_ws RX6 TX6 18, w ∈ hc_ALL := by
  refine List.forall_mem_cons.mpr ⟨?_, List.forall_mem_cons.mpr ⟨?_, List.forall_mem_cons.mpr ⟨?_, List.forall_mem_cons.mpr ⟨?_, List.forall_mem_cons.mpr ⟨?_, List.forall_mem_cons.mpr ⟨?_, List.forall_mem_cons.mpr ⟨?_, List.forall_mem_cons.mpr ⟨?_, List.forall_mem_cons.mpr ⟨?_, List.forall_mem_cons.mpr ⟨?_, List.forall_mem_cons.mpr ⟨?_, List.forall_mem_cons.mpr ⟨?_, List.forall_mem_cons.mpr ⟨?_, List.forall_mem_cons.mpr ⟨?_, List.forall_mem_cons.mpr ⟨?_, List.forall_mem_cons.mpr ⟨?_, List.forall_mem_cons.mpr ⟨?_, List.forall_mem_cons.mpr ⟨?_, fun _ h => absurd h List.not_mem_nil⟩⟩⟩⟩⟩⟩⟩⟩⟩⟩⟩⟩⟩⟩⟩⟩⟩⟩
  · exact hc_w 393 (by decide +kernel) (by decide +kernel)
  · exact hc_w 395 (by decide +kernel) (by decide +kernel)
  · exact hc_w 397 (by decide +kernel) (by decide +kernel)
  · exact hc_w 399 (by decide +kernel) (by decide +kernel)
  · exact hc_w 401 (by decide +kernel) (by decide +kernel)
  · exact hc_w 403 (by decide +kernel) (by decide +kernel)
  · exact hc_w 405 (by decide +kernel) (by decide +kernel)
  · exact hc_w 407 (by decide +kernel) (by decide +kernel)
  · exact hc_w 409 (by decide +kernel) (by decide +kernel)
  · exact hc_w 411 (by decide +kernel) (by decide +kernel)
  · exact hc_w 413 (by decide +kernel) (by decide +kernel)
  · exact hc_w 415 (by decide +kernel) (by decide +kernel)
  · exact hc_w 417 (by decide +kernel) (by decide +kernel)
  · exact hc_w 419 (by decide +kernel) (by decide +kernel)
  · exact hc_w 421 (by decide +kernel) (by decide +kernel)
  · exact hc_w 423 (by decide +kernel) (by decide +kernel)
  · exact hc_w 425 (by decide +kernel) (by decide +kernel)
  · exact hc_w 427 (by decide +kernel) (by decide +kernel)
/-- the links between nest mates -/
def hc_NW : List Cond := [.methodLinkNest (hc_cn 1) 11 (hc_y 16) "HotCells", .methodLinkNest (hc_cn 1) 67 (hc_y 39) "HotCells", .methodLinkNest (hc_cn 2) 24 (hc_y 39) "HotCells", .methodLinkNest (hc_cn 3) 11 (hc_y 16) "HotCells", .methodLinkNest (hc_cn 3) 24 (hc_y 0) "HotCells", .methodLinkNest (hc_cn 3) 31 (hc_y 5) "HotCells", .methodLinkNest (hc_cn 6) 36 (hc_y 40) "HotCellsModel", .methodLinkNest (hc_cn 6) 46 (hc_y 43) "HotCellsModel"]
theorem hc_nww : ∀ w ∈ hc_NW, w ∈ lw_tbl := by
  refine List.forall_mem_cons.mpr ⟨?_, List.forall_mem_cons.mpr ⟨?_, List.forall_mem_cons.mpr ⟨?_, List.forall_mem_cons.mpr ⟨?_, List.forall_mem_cons.mpr ⟨?_, List.forall_mem_cons.mpr ⟨?_, List.forall_mem_cons.mpr ⟨?_, List.forall_mem_cons.mpr ⟨?_, fun _ h => absurd h List.not_mem_nil⟩⟩⟩⟩⟩⟩⟩⟩
  · exact List.mem_of_getElem? (i := 92) (by decide +kernel)
  · exact List.mem_of_getElem? (i := 265) (by decide +kernel)
  · exact List.mem_of_getElem? (i := 165) (by decide +kernel)
  · exact List.mem_of_getElem? (i := 47) (by decide +kernel)
  · exact List.mem_of_getElem? (i := 70) (by decide +kernel)
  · exact List.mem_of_getElem? (i := 87) (by decide +kernel)
  · exact List.mem_of_getElem? (i := 348) (by decide +kernel)
  · exact List.mem_of_getElem? (i := 363) (by decide +kernel)
/-- what the tables say of a method that is called -/
def hc_Pm (m2 : Nat) : Prop := Cond.code (hc_y m2) (hc_b m2) (hc_mx m2) (hc_rty m2) ∈ hc_ALL ∧ Cond.initialized (hc_y m2).cls ∈ hc_ALL ∧ ((hc_y m2).cls ≠ "java/lang/invoke/MethodHandle" ∧ (hc_y m2).cls ≠ "java/lang/invoke/VarHandle") ∧ (parseMethodDescriptor (hc_y m2).desc).map (fun d => d.parameters.length) = some (if hc_md m2 = 2 then hc_na m2 else hc_na m2 - 1) ∧ plainFor (hc_y m2) = true ∧ (hc_y m2).cls = hc_cn (hc_own m2) ∧ (hc_md m2 = 2 → Cond.static (hc_y m2) ∈ hc_ALL) ∧ (hc_md m2 ≠ 2 → Cond.instanceMethod (hc_y m2) ∈ hc_ALL ∧ 1 ≤ hc_na m2 ∧ hc_own m2 < 7) ∧ (hc_md m2 = 0 → Cond.selects (hc_cn (hc_own m2)) (hc_y m2) (hc_y m2) ∈ hc_ALL) ∧ (hc_md m2 = 1 → (hc_y m2).name = "<init>" ∧ hc_rty m2 = none)
theorem hc_pm0 : hc_Pm 0 := ⟨hc_w 72 (by decide +kernel) (by decide +kernel), hc_w 29 (by decide +kernel) (by decide +kernel), ⟨by decide +kernel, by decide +kernel⟩, by decide +kernel, by decide +kernel, rfl, fun h => absurd h (by decide), fun _ => ⟨hc_w 71 (by decide +kernel) (by decide +kernel), by decide, by decide⟩, fun h => absurd h (by decide), fun _ => ⟨rfl, rfl⟩⟩
theorem hc_pm1 : hc_Pm 1 := ⟨hc_w 216 (by decide +kernel) (by decide +kernel), hc_w 29 (by decide +kernel) (by decide +kernel), ⟨by decide +kernel, by decide +kernel⟩, by decide +kernel, by decide +kernel, rfl, fun h => absurd h (by decide), fun _ => ⟨hc_w 214 (by decide +kernel) (by decide +kernel), by decide, by decide⟩, fun _ => hc_w 215 (by decide +kernel) (by decide +kernel), fun h => absurd h (by decide)⟩
theorem hc_pm2 : hc_Pm 2 := ⟨hc_w 245 (by decide +kernel) (by decide +kernel), hc_w 29 (by decide +kernel) (by decide +kernel), ⟨by decide +kernel, by decide +kernel⟩, by decide +kernel, by decide +kernel, rfl, fun h => absurd h (by decide), fun _ => ⟨hc_w 243 (by decide +kernel) (by decide +kernel), by decide, by decide⟩, fun _ => hc_w 244 (by decide +kernel) (by decide +kernel), fun h => absurd h (by decide)⟩
theorem hc_pm3 : hc_Pm 3 := ⟨hc_w 249 (by decide +kernel) (by decide +kernel), hc_w 29 (by decide +kernel) (by decide +kernel), ⟨by decide +kernel, by decide +kernel⟩, by decide +kernel, by decide +kernel, rfl, fun h => absurd h (by decide), fun _ => ⟨hc_w 248 (by decide +kernel) (by decide +kernel), by decide, by decide⟩, fun _ => hc_w 6 (by decide +kernel) (by decide +kernel), fun h => absurd h (by decide)⟩
theorem hc_pm4 : hc_Pm 4 := ⟨hc_w 253 (by decide +kernel) (by decide +kernel), hc_w 29 (by decide +kernel) (by decide +kernel), ⟨by decide +kernel, by decide +kernel⟩, by decide +kernel, by decide +kernel, rfl, fun h => absurd h (by decide), fun _ => ⟨hc_w 251 (by decide +kernel) (by decide +kernel), by decide, by decide⟩, fun _ => hc_w 252 (by decide +kernel) (by decide +kernel), fun h => absurd h (by decide)⟩
theorem hc_pm5 : hc_Pm 5 := ⟨hc_w 89 (by decide +kernel) (by decide +kernel), hc_w 30 (by decide +kernel) (by decide +kernel), ⟨by decide +kernel, by decide +kernel⟩, by decide +kernel, by decide +kernel, rfl, fun h => absurd h (by decide), fun _ => ⟨hc_w 88 (by decide +kernel) (by decide +kernel), by decide, by decide⟩, fun h => absurd h (by decide), fun _ => ⟨rfl, rfl⟩⟩
theorem hc_pm6 : hc_Pm 6 := ⟨hc_w 257 (by decide +kernel) (by decide +kernel), hc_w 30 (by decide +kernel) (by decide +kernel), ⟨by decide +kernel, by decide +kernel⟩, by decide +kernel, by decide +kernel, rfl, fun h => absurd h (by decide), fun _ => ⟨hc_w 255 (by decide +kernel) (by decide +kernel), by decide, by decide⟩, fun _ => hc_w 256 (by decide +kernel) (by decide +kernel), fun h => absurd h (by decide)⟩
theorem hc_pm7 : hc_Pm 7 := ⟨hc_w 264 (by decide +kernel) (by decide +kernel), hc_w 30 (by decide +kernel) (by decide +kernel), ⟨by decide +kernel, by decide +kernel⟩, by decide +kernel, by decide +kernel, rfl, fun h => absurd h (by decide), fun _ => ⟨hc_w 262 (by decide +kernel) (by decide +kernel), by decide, by decide⟩, fun _ => hc_w 263 (by decide +kernel) (by decide +kernel), fun h => absurd h (by decide)⟩
theorem hc_pm8 : hc_Pm 8 := ⟨hc_w 269 (by decide +kernel) (by decide +kernel), hc_w 30 (by decide +kernel) (by decide +kernel), ⟨by decide +kernel, by decide +kernel⟩, by decide +kernel, by decide +kernel, rfl, fun h => absurd h (by decide), fun _ => ⟨hc_w 268 (by decide +kernel) (by decide +kernel), by decide, by decide⟩, fun _ => hc_w 7 (by decide +kernel) (by decide +kernel), fun h => absurd h (by decide)⟩
theorem hc_pm9 : hc_Pm 9 := ⟨hc_w 273 (by decide +kernel) (by decide +kernel), hc_w 30 (by decide +kernel) (by decide +kernel), ⟨by decide +kernel, by decide +kernel⟩, by decide +kernel, by decide +kernel, rfl, fun h => absurd h (by decide), fun _ => ⟨hc_w 272 (by decide +kernel) (by decide +kernel), by decide, by decide⟩, fun _ => hc_w 8 (by decide +kernel) (by decide +kernel), fun h => absurd h (by decide)⟩
theorem hc_pm10 : hc_Pm 10 := ⟨hc_w 287 (by decide +kernel) (by decide +kernel), hc_w 30 (by decide +kernel) (by decide +kernel), ⟨by decide +kernel, by decide +kernel⟩, by decide +kernel, by decide +kernel, rfl, fun h => absurd h (by decide), fun _ => ⟨hc_w 286 (by decide +kernel) (by decide +kernel), by decide, by decide⟩, fun _ => hc_w 9 (by decide +kernel) (by decide +kernel), fun h => absurd h (by decide)⟩
theorem hc_pm11 : hc_Pm 11 := ⟨hc_w 291 (by decide +kernel) (by decide +kernel), hc_w 30 (by decide +kernel) (by decide +kernel), ⟨by decide +kernel, by decide +kernel⟩, by decide +kernel, by decide +kernel, rfl, fun h => absurd h (by decide), fun _ => ⟨hc_w 290 (by decide +kernel) (by decide +kernel), by decide, by decide⟩, fun _ => hc_w 10 (by decide +kernel) (by decide +kernel), fun h => absurd h (by decide)⟩
theorem hc_pm12 : hc_Pm 12 := ⟨hc_w 295 (by decide +kernel) (by decide +kernel), hc_w 30 (by decide +kernel) (by decide +kernel), ⟨by decide +kernel, by decide +kernel⟩, by decide +kernel, by decide +kernel, rfl, fun h => absurd h (by decide), fun _ => ⟨hc_w 294 (by decide +kernel) (by decide +kernel), by decide, by decide⟩, fun _ => hc_w 11 (by decide +kernel) (by decide +kernel), fun h => absurd h (by decide)⟩
theorem hc_pm13 : hc_Pm 13 := ⟨hc_w 299 (by decide +kernel) (by decide +kernel), hc_w 30 (by decide +kernel) (by decide +kernel), ⟨by decide +kernel, by decide +kernel⟩, by decide +kernel, by decide +kernel, rfl, fun h => absurd h (by decide), fun _ => ⟨hc_w 297 (by decide +kernel) (by decide +kernel), by decide, by decide⟩, fun _ => hc_w 298 (by decide +kernel) (by decide +kernel), fun h => absurd h (by decide)⟩
theorem hc_pm14 : hc_Pm 14 := ⟨hc_w 306 (by decide +kernel) (by decide +kernel), hc_w 30 (by decide +kernel) (by decide +kernel), ⟨by decide +kernel, by decide +kernel⟩, by decide +kernel, by decide +kernel, rfl, fun h => absurd h (by decide), fun _ => ⟨hc_w 304 (by decide +kernel) (by decide +kernel), by decide, by decide⟩, fun _ => hc_w 305 (by decide +kernel) (by decide +kernel), fun h => absurd h (by decide)⟩
theorem hc_pm15 : hc_Pm 15 := ⟨hc_w 309 (by decide +kernel) (by decide +kernel), hc_w 30 (by decide +kernel) (by decide +kernel), ⟨by decide +kernel, by decide +kernel⟩, by decide +kernel, by decide +kernel, rfl, fun _ => hc_w 308 (by decide +kernel) (by decide +kernel), fun h => absurd rfl h, fun h => absurd h (by decide), fun h => absurd h (by decide)⟩
theorem hc_pm16 : hc_Pm 16 := ⟨hc_w 49 (by decide +kernel) (by decide +kernel), hc_w 28 (by decide +kernel) (by decide +kernel), ⟨by decide +kernel, by decide +kernel⟩, by decide +kernel, by decide +kernel, rfl, fun h => absurd h (by decide), fun _ => ⟨hc_w 48 (by decide +kernel) (by decide +kernel), by decide, by decide⟩, fun h => absurd h (by decide), fun _ => ⟨rfl, rfl⟩⟩
theorem hc_pm17 : hc_Pm 17 := ⟨hc_w 160 (by decide +kernel) (by decide +kernel), hc_w 28 (by decide +kernel) (by decide +kernel), ⟨by decide +kernel, by decide +kernel⟩, by decide +kernel, by decide +kernel, rfl, fun h => absurd h (by decide), fun _ => ⟨hc_w 158 (by decide +kernel) (by decide +kernel), by decide, by decide⟩, fun _ => hc_w 159 (by decide +kernel) (by decide +kernel), fun h => absurd h (by decide)⟩
theorem hc_pm18 : hc_Pm 18 := ⟨hc_w 164 (by decide +kernel) (by decide +kernel), hc_w 28 (by decide +kernel) (by decide +kernel), ⟨by decide +kernel, by decide +kernel⟩, by decide +kernel, by decide +kernel, rfl, fun h => absurd h (by decide), fun _ => ⟨hc_w 162 (by decide +kernel) (by decide +kernel), by decide, by decide⟩, fun _ => hc_w 163 (by decide +kernel) (by decide +kernel), fun h => absurd h (by decide)⟩
theorem hc_pm19 : hc_Pm 19 := ⟨hc_w 282 (by decide +kernel) (by decide +kernel), hc_w 28 (by decide +kernel) (by decide +kernel), ⟨by decide +kernel, by decide +kernel⟩, by decide +kernel, by decide +kernel, rfl, fun h => absurd h (by decide), fun _ => ⟨hc_w 280 (by decide +kernel) (by decide +kernel), by decide, by decide⟩, fun _ => hc_w 281 (by decide +kernel) (by decide +kernel), fun h => absurd h (by decide)⟩
theorem hc_pm20 : hc_Pm 20 := ⟨hc_w 41 (by decide +kernel) (by decide +kernel), hc_w 27 (by decide +kernel) (by decide +kernel), ⟨by decide +kernel, by decide +kernel⟩, by decide +kernel, by decide +kernel, rfl, fun h => absurd h (by decide), fun _ => ⟨hc_w 40 (by decide +kernel) (by decide +kernel), by decide, by decide⟩, fun h => absurd h (by decide), fun _ => ⟨rfl, rfl⟩⟩
theorem hc_pm21 : hc_Pm 21 := ⟨hc_w 151 (by decide +kernel) (by decide +kernel), hc_w 27 (by decide +kernel) (by decide +kernel), ⟨by decide +kernel, by decide +kernel⟩, by decide +kernel, by decide +kernel, rfl, fun h => absurd h (by decide), fun _ => ⟨hc_w 149 (by decide +kernel) (by decide +kernel), by decide, by decide⟩, fun _ => hc_w 150 (by decide +kernel) (by decide +kernel), fun h => absurd h (by decide)⟩
theorem hc_pm22 : hc_Pm 22 := ⟨hc_w 190 (by decide +kernel) (by decide +kernel), hc_w 27 (by decide +kernel) (by decide +kernel), ⟨by decide +kernel, by decide +kernel⟩, by decide +kernel, by decide +kernel, rfl, fun h => absurd h (by decide), fun _ => ⟨hc_w 188 (by decide +kernel) (by decide +kernel), by decide, by decide⟩, fun _ => hc_w 189 (by decide +kernel) (by decide +kernel), fun h => absurd h (by decide)⟩
theorem hc_pm23 : hc_Pm 23 := ⟨hc_w 194 (by decide +kernel) (by decide +kernel), hc_w 27 (by decide +kernel) (by decide +kernel), ⟨by decide +kernel, by decide +kernel⟩, by decide +kernel, by decide +kernel, rfl, fun h => absurd h (by decide), fun _ => ⟨hc_w 192 (by decide +kernel) (by decide +kernel), by decide, by decide⟩, fun _ => hc_w 193 (by decide +kernel) (by decide +kernel), fun h => absurd h (by decide)⟩
theorem hc_pm24 : hc_Pm 24 := ⟨hc_w 198 (by decide +kernel) (by decide +kernel), hc_w 27 (by decide +kernel) (by decide +kernel), ⟨by decide +kernel, by decide +kernel⟩, by decide +kernel, by decide +kernel, rfl, fun h => absurd h (by decide), fun _ => ⟨hc_w 196 (by decide +kernel) (by decide +kernel), by decide, by decide⟩, fun _ => hc_w 197 (by decide +kernel) (by decide +kernel), fun h => absurd h (by decide)⟩
theorem hc_pm25 : hc_Pm 25 := ⟨hc_w 313 (by decide +kernel) (by decide +kernel), hc_w 27 (by decide +kernel) (by decide +kernel), ⟨by decide +kernel, by decide +kernel⟩, by decide +kernel, by decide +kernel, rfl, fun h => absurd h (by decide), fun _ => ⟨hc_w 311 (by decide +kernel) (by decide +kernel), by decide, by decide⟩, fun _ => hc_w 312 (by decide +kernel) (by decide +kernel), fun h => absurd h (by decide)⟩
theorem hc_pm26 : hc_Pm 26 := ⟨hc_w 317 (by decide +kernel) (by decide +kernel), hc_w 27 (by decide +kernel) (by decide +kernel), ⟨by decide +kernel, by decide +kernel⟩, by decide +kernel, by decide +kernel, rfl, fun h => absurd h (by decide), fun _ => ⟨hc_w 315 (by decide +kernel) (by decide +kernel), by decide, by decide⟩, fun _ => hc_w 316 (by decide +kernel) (by decide +kernel), fun h => absurd h (by decide)⟩
theorem hc_pm27 : hc_Pm 27 := ⟨hc_w 322 (by decide +kernel) (by decide +kernel), hc_w 27 (by decide +kernel) (by decide +kernel), ⟨by decide +kernel, by decide +kernel⟩, by decide +kernel, by decide +kernel, rfl, fun h => absurd h (by decide), fun _ => ⟨hc_w 320 (by decide +kernel) (by decide +kernel), by decide, by decide⟩, fun _ => hc_w 321 (by decide +kernel) (by decide +kernel), fun h => absurd h (by decide)⟩
theorem hc_pm28 : hc_Pm 28 := ⟨hc_w 327 (by decide +kernel) (by decide +kernel), hc_w 27 (by decide +kernel) (by decide +kernel), ⟨by decide +kernel, by decide +kernel⟩, by decide +kernel, by decide +kernel, rfl, fun h => absurd h (by decide), fun _ => ⟨hc_w 325 (by decide +kernel) (by decide +kernel), by decide, by decide⟩, fun _ => hc_w 326 (by decide +kernel) (by decide +kernel), fun h => absurd h (by decide)⟩
theorem hc_pm29 : hc_Pm 29 := ⟨hc_w 331 (by decide +kernel) (by decide +kernel), hc_w 27 (by decide +kernel) (by decide +kernel), ⟨by decide +kernel, by decide +kernel⟩, by decide +kernel, by decide +kernel, rfl, fun h => absurd h (by decide), fun _ => ⟨hc_w 329 (by decide +kernel) (by decide +kernel), by decide, by decide⟩, fun _ => hc_w 330 (by decide +kernel) (by decide +kernel), fun h => absurd h (by decide)⟩
theorem hc_pm30 : hc_Pm 30 := ⟨hc_w 335 (by decide +kernel) (by decide +kernel), hc_w 27 (by decide +kernel) (by decide +kernel), ⟨by decide +kernel, by decide +kernel⟩, by decide +kernel, by decide +kernel, rfl, fun h => absurd h (by decide), fun _ => ⟨hc_w 333 (by decide +kernel) (by decide +kernel), by decide, by decide⟩, fun _ => hc_w 334 (by decide +kernel) (by decide +kernel), fun h => absurd h (by decide)⟩
theorem hc_pm31 : hc_Pm 31 := ⟨hc_w 339 (by decide +kernel) (by decide +kernel), hc_w 27 (by decide +kernel) (by decide +kernel), ⟨by decide +kernel, by decide +kernel⟩, by decide +kernel, by decide +kernel, rfl, fun h => absurd h (by decide), fun _ => ⟨hc_w 337 (by decide +kernel) (by decide +kernel), by decide, by decide⟩, fun _ => hc_w 338 (by decide +kernel) (by decide +kernel), fun h => absurd h (by decide)⟩
theorem hc_pm32 : hc_Pm 32 := ⟨hc_w 154 (by decide +kernel) (by decide +kernel), hc_w 27 (by decide +kernel) (by decide +kernel), ⟨by decide +kernel, by decide +kernel⟩, by decide +kernel, by decide +kernel, rfl, fun _ => hc_w 153 (by decide +kernel) (by decide +kernel), fun h => absurd rfl h, fun h => absurd h (by decide), fun h => absurd h (by decide)⟩
theorem hc_pm33 : hc_Pm 33 := ⟨hc_w 202 (by decide +kernel) (by decide +kernel), hc_w 27 (by decide +kernel) (by decide +kernel), ⟨by decide +kernel, by decide +kernel⟩, by decide +kernel, by decide +kernel, rfl, fun h => absurd h (by decide), fun _ => ⟨hc_w 201 (by decide +kernel) (by decide +kernel), by decide, by decide⟩, fun _ => hc_w 0 (by decide +kernel) (by decide +kernel), fun h => absurd h (by decide)⟩
theorem hc_pm34 : hc_Pm 34 := ⟨hc_w 241 (by decide +kernel) (by decide +kernel), hc_w 27 (by decide +kernel) (by decide +kernel), ⟨by decide +kernel, by decide +kernel⟩, by decide +kernel, by decide +kernel, rfl, fun h => absurd h (by decide), fun _ => ⟨hc_w 240 (by decide +kernel) (by decide +kernel), by decide, by decide⟩, fun _ => hc_w 5 (by decide +kernel) (by decide +kernel), fun h => absurd h (by decide)⟩
theorem hc_pm35 : hc_Pm 35 := ⟨hc_w 206 (by decide +kernel) (by decide +kernel), hc_w 27 (by decide +kernel) (by decide +kernel), ⟨by decide +kernel, by decide +kernel⟩, by decide +kernel, by decide +kernel, rfl, fun h => absurd h (by decide), fun _ => ⟨hc_w 205 (by decide +kernel) (by decide +kernel), by decide, by decide⟩, fun _ => hc_w 1 (by decide +kernel) (by decide +kernel), fun h => absurd h (by decide)⟩
theorem hc_pm36 : hc_Pm 36 := ⟨hc_w 210 (by decide +kernel) (by decide +kernel), hc_w 27 (by decide +kernel) (by decide +kernel), ⟨by decide +kernel, by decide +kernel⟩, by decide +kernel, by decide +kernel, rfl, fun h => absurd h (by decide), fun _ => ⟨hc_w 209 (by decide +kernel) (by decide +kernel), by decide, by decide⟩, fun _ => hc_w 2 (by decide +kernel) (by decide +kernel), fun h => absurd h (by decide)⟩
theorem hc_pm37 : hc_Pm 37 := ⟨hc_w 229 (by decide +kernel) (by decide +kernel), hc_w 27 (by decide +kernel) (by decide +kernel), ⟨by decide +kernel, by decide +kernel⟩, by decide +kernel, by decide +kernel, rfl, fun h => absurd h (by decide), fun _ => ⟨hc_w 228 (by decide +kernel) (by decide +kernel), by decide, by decide⟩, fun _ => hc_w 3 (by decide +kernel) (by decide +kernel), fun h => absurd h (by decide)⟩
theorem hc_pm38 : hc_Pm 38 := ⟨hc_w 233 (by decide +kernel) (by decide +kernel), hc_w 27 (by decide +kernel) (by decide +kernel), ⟨by decide +kernel, by decide +kernel⟩, by decide +kernel, by decide +kernel, rfl, fun h => absurd h (by decide), fun _ => ⟨hc_w 232 (by decide +kernel) (by decide +kernel), by decide, by decide⟩, fun _ => hc_w 4 (by decide +kernel) (by decide +kernel), fun h => absurd h (by decide)⟩
theorem hc_pm39 : hc_Pm 39 := ⟨hc_w 167 (by decide +kernel) (by decide +kernel), hc_w 27 (by decide +kernel) (by decide +kernel), ⟨by decide +kernel, by decide +kernel⟩, by decide +kernel, by decide +kernel, rfl, fun _ => hc_w 166 (by decide +kernel) (by decide +kernel), fun h => absurd rfl h, fun h => absurd h (by decide), fun h => absurd h (by decide)⟩
theorem hc_pm40 : hc_Pm 40 := ⟨hc_w 350 (by decide +kernel) (by decide +kernel), hc_w 32 (by decide +kernel) (by decide +kernel), ⟨by decide +kernel, by decide +kernel⟩, by decide +kernel, by decide +kernel, rfl, fun h => absurd h (by decide), fun _ => ⟨hc_w 349 (by decide +kernel) (by decide +kernel), by decide, by decide⟩, fun h => absurd h (by decide), fun _ => ⟨rfl, rfl⟩⟩
theorem hc_pm41 : hc_Pm 41 := ⟨hc_w 454 (by decide +kernel) (by decide +kernel), hc_w 32 (by decide +kernel) (by decide +kernel), ⟨by decide +kernel, by decide +kernel⟩, by decide +kernel, by decide +kernel, rfl, fun h => absurd h (by decide), fun _ => ⟨hc_w 452 (by decide +kernel) (by decide +kernel), by decide, by decide⟩, fun _ => hc_w 453 (by decide +kernel) (by decide +kernel), fun h => absurd h (by decide)⟩
theorem hc_pm42 : hc_Pm 42 := ⟨hc_w 442 (by decide +kernel) (by decide +kernel), hc_w 32 (by decide +kernel) (by decide +kernel), ⟨by decide +kernel, by decide +kernel⟩, by decide +kernel, by decide +kernel, rfl, fun h => absurd h (by decide), fun _ => ⟨hc_w 440 (by decide +kernel) (by decide +kernel), by decide, by decide⟩, fun _ => hc_w 441 (by decide +kernel) (by decide +kernel), fun h => absurd h (by decide)⟩
theorem hc_pm43 : hc_Pm 43 := ⟨hc_w 365 (by decide +kernel) (by decide +kernel), hc_w 33 (by decide +kernel) (by decide +kernel), ⟨by decide +kernel, by decide +kernel⟩, by decide +kernel, by decide +kernel, rfl, fun h => absurd h (by decide), fun _ => ⟨hc_w 364 (by decide +kernel) (by decide +kernel), by decide, by decide⟩, fun h => absurd h (by decide), fun _ => ⟨rfl, rfl⟩⟩
theorem hc_pm44 : hc_Pm 44 := ⟨hc_w 462 (by decide +kernel) (by decide +kernel), hc_w 33 (by decide +kernel) (by decide +kernel), ⟨by decide +kernel, by decide +kernel⟩, by decide +kernel, by decide +kernel, rfl, fun h => absurd h (by decide), fun _ => ⟨hc_w 460 (by decide +kernel) (by decide +kernel), by decide, by decide⟩, fun _ => hc_w 461 (by decide +kernel) (by decide +kernel), fun h => absurd h (by decide)⟩
theorem hc_pm45 : hc_Pm 45 := ⟨hc_w 469 (by decide +kernel) (by decide +kernel), hc_w 33 (by decide +kernel) (by decide +kernel), ⟨by decide +kernel, by decide +kernel⟩, by decide +kernel, by decide +kernel, rfl, fun _ => hc_w 468 (by decide +kernel) (by decide +kernel), fun h => absurd rfl h, fun h => absurd h (by decide), fun h => absurd h (by decide)⟩
theorem hc_pm46 : hc_Pm 46 := ⟨hc_w 466 (by decide +kernel) (by decide +kernel), hc_w 33 (by decide +kernel) (by decide +kernel), ⟨by decide +kernel, by decide +kernel⟩, by decide +kernel, by decide +kernel, rfl, fun h => absurd h (by decide), fun _ => ⟨hc_w 464 (by decide +kernel) (by decide +kernel), by decide, by decide⟩, fun _ => hc_w 465 (by decide +kernel) (by decide +kernel), fun h => absurd h (by decide)⟩
theorem hc_pm47 : hc_Pm 47 := ⟨hc_w 531 (by decide +kernel) (by decide +kernel), hc_w 33 (by decide +kernel) (by decide +kernel), ⟨by decide +kernel, by decide +kernel⟩, by decide +kernel, by decide +kernel, rfl, fun h => absurd h (by decide), fun _ => ⟨hc_w 529 (by decide +kernel) (by decide +kernel), by decide, by decide⟩, fun _ => hc_w 530 (by decide +kernel) (by decide +kernel), fun h => absurd h (by decide)⟩
theorem hc_pm48 : hc_Pm 48 := ⟨hc_w 535 (by decide +kernel) (by decide +kernel), hc_w 33 (by decide +kernel) (by decide +kernel), ⟨by decide +kernel, by decide +kernel⟩, by decide +kernel, by decide +kernel, rfl, fun h => absurd h (by decide), fun _ => ⟨hc_w 533 (by decide +kernel) (by decide +kernel), by decide, by decide⟩, fun _ => hc_w 534 (by decide +kernel) (by decide +kernel), fun h => absurd h (by decide)⟩
theorem hc_pm49 : hc_Pm 49 := ⟨hc_w 478 (by decide +kernel) (by decide +kernel), hc_w 33 (by decide +kernel) (by decide +kernel), ⟨by decide +kernel, by decide +kernel⟩, by decide +kernel, by decide +kernel, rfl, fun h => absurd h (by decide), fun _ => ⟨hc_w 476 (by decide +kernel) (by decide +kernel), by decide, by decide⟩, fun _ => hc_w 477 (by decide +kernel) (by decide +kernel), fun h => absurd h (by decide)⟩
theorem hc_pm50 : hc_Pm 50 := ⟨hc_w 482 (by decide +kernel) (by decide +kernel), hc_w 33 (by decide +kernel) (by decide +kernel), ⟨by decide +kernel, by decide +kernel⟩, by decide +kernel, by decide +kernel, rfl, fun h => absurd h (by decide), fun _ => ⟨hc_w 481 (by decide +kernel) (by decide +kernel), by decide, by decide⟩, fun _ => hc_w 13 (by decide +kernel) (by decide +kernel), fun h => absurd h (by decide)⟩
theorem hc_pm51 : hc_Pm 51 := ⟨hc_w 570 (by decide +kernel) (by decide +kernel), hc_w 33 (by decide +kernel) (by decide +kernel), ⟨by decide +kernel, by decide +kernel⟩, by decide +kernel, by decide +kernel, rfl, fun h => absurd h (by decide), fun _ => ⟨hc_w 568 (by decide +kernel) (by decide +kernel), by decide, by decide⟩, fun _ => hc_w 569 (by decide +kernel) (by decide +kernel), fun h => absurd h (by decide)⟩
theorem hc_pm52 : hc_Pm 52 := ⟨hc_w 502 (by decide +kernel) (by decide +kernel), hc_w 31 (by decide +kernel) (by decide +kernel), ⟨by decide +kernel, by decide +kernel⟩, by decide +kernel, by decide +kernel, rfl, fun _ => hc_w 501 (by decide +kernel) (by decide +kernel), fun h => absurd rfl h, fun h => absurd h (by decide), fun h => absurd h (by decide)⟩
theorem hc_pm53 : hc_Pm 53 := ⟨hc_w 505 (by decide +kernel) (by decide +kernel), hc_w 31 (by decide +kernel) (by decide +kernel), ⟨by decide +kernel, by decide +kernel⟩, by decide +kernel, by decide +kernel, rfl, fun _ => hc_w 504 (by decide +kernel) (by decide +kernel), fun h => absurd rfl h, fun h => absurd h (by decide), fun h => absurd h (by decide)⟩
theorem hc_pm54 : hc_Pm 54 := ⟨hc_w 511 (by decide +kernel) (by decide +kernel), hc_w 31 (by decide +kernel) (by decide +kernel), ⟨by decide +kernel, by decide +kernel⟩, by decide +kernel, by decide +kernel, rfl, fun _ => hc_w 510 (by decide +kernel) (by decide +kernel), fun h => absurd rfl h, fun h => absurd h (by decide), fun h => absurd h (by decide)⟩
theorem hc_pm55 : hc_Pm 55 := ⟨hc_w 499 (by decide +kernel) (by decide +kernel), hc_w 31 (by decide +kernel) (by decide +kernel), ⟨by decide +kernel, by decide +kernel⟩, by decide +kernel, by decide +kernel, rfl, fun _ => hc_w 498 (by decide +kernel) (by decide +kernel), fun h => absurd rfl h, fun h => absurd h (by decide), fun h => absurd h (by decide)⟩
theorem hc_pm56 : hc_Pm 56 := ⟨hc_w 508 (by decide +kernel) (by decide +kernel), hc_w 31 (by decide +kernel) (by decide +kernel), ⟨by decide +kernel, by decide +kernel⟩, by decide +kernel, by decide +kernel, rfl, fun _ => hc_w 507 (by decide +kernel) (by decide +kernel), fun h => absurd rfl h, fun h => absurd h (by decide), fun h => absurd h (by decide)⟩
theorem hc_pm57 : hc_Pm 57 := ⟨hc_w 344 (by decide +kernel) (by decide +kernel), hc_w 31 (by decide +kernel) (by decide +kernel), ⟨by decide +kernel, by decide +kernel⟩, by decide +kernel, by decide +kernel, rfl, fun h => absurd h (by decide), fun _ => ⟨hc_w 343 (by decide +kernel) (by decide +kernel), by decide, by decide⟩, fun h => absurd h (by decide), fun _ => ⟨rfl, rfl⟩⟩
theorem hc_pm58 : hc_Pm 58 := ⟨hc_w 436 (by decide +kernel) (by decide +kernel), hc_w 31 (by decide +kernel) (by decide +kernel), ⟨by decide +kernel, by decide +kernel⟩, by decide +kernel, by decide +kernel, rfl, fun _ => hc_w 435 (by decide +kernel) (by decide +kernel), fun h => absurd rfl h, fun h => absurd h (by decide), fun h => absurd h (by decide)⟩
theorem hc_pm59 : hc_Pm 59 := ⟨hc_w 433 (by decide +kernel) (by decide +kernel), hc_w 31 (by decide +kernel) (by decide +kernel), ⟨by decide +kernel, by decide +kernel⟩, by decide +kernel, by decide +kernel, rfl, fun h => absurd h (by decide), fun _ => ⟨hc_w 431 (by decide +kernel) (by decide +kernel), by decide, by decide⟩, fun _ => hc_w 432 (by decide +kernel) (by decide +kernel), fun h => absurd h (by decide)⟩
theorem hc_pm60 : hc_Pm 60 := ⟨hc_w 446 (by decide +kernel) (by decide +kernel), hc_w 31 (by decide +kernel) (by decide +kernel), ⟨by decide +kernel, by decide +kernel⟩, by decide +kernel, by decide +kernel, rfl, fun h => absurd h (by decide), fun _ => ⟨hc_w 444 (by decide +kernel) (by decide +kernel), by decide, by decide⟩, fun _ => hc_w 445 (by decide +kernel) (by decide +kernel), fun h => absurd h (by decide)⟩
theorem hc_pm61 : hc_Pm 61 := ⟨hc_w 450 (by decide +kernel) (by decide +kernel), hc_w 31 (by decide +kernel) (by decide +kernel), ⟨by decide +kernel, by decide +kernel⟩, by decide +kernel, by decide +kernel, rfl, fun h => absurd h (by decide), fun _ => ⟨hc_w 448 (by decide +kernel) (by decide +kernel), by decide, by decide⟩, fun _ => hc_w 449 (by decide +kernel) (by decide +kernel), fun h => absurd h (by decide)⟩
theorem hc_pm62 : hc_Pm 62 := ⟨hc_w 490 (by decide +kernel) (by decide +kernel), hc_w 31 (by decide +kernel) (by decide +kernel), ⟨by decide +kernel, by decide +kernel⟩, by decide +kernel, by decide +kernel, rfl, fun h => absurd h (by decide), fun _ => ⟨hc_w 489 (by decide +kernel) (by decide +kernel), by decide, by decide⟩, fun _ => hc_w 15 (by decide +kernel) (by decide +kernel), fun h => absurd h (by decide)⟩
theorem hc_pm63 : hc_Pm 63 := ⟨hc_w 458 (by decide +kernel) (by decide +kernel), hc_w 31 (by decide +kernel) (by decide +kernel), ⟨by decide +kernel, by decide +kernel⟩, by decide +kernel, by decide +kernel, rfl, fun h => absurd h (by decide), fun _ => ⟨hc_w 456 (by decide +kernel) (by decide +kernel), by decide, by decide⟩, fun _ => hc_w 457 (by decide +kernel) (by decide +kernel), fun h => absurd h (by decide)⟩
theorem hc_pm64 : hc_Pm 64 := ⟨hc_w 566 (by decide +kernel) (by decide +kernel), hc_w 31 (by decide +kernel) (by decide +kernel), ⟨by decide +kernel, by decide +kernel⟩, by decide +kernel, by decide +kernel, rfl, fun h => absurd h (by decide), fun _ => ⟨hc_w 565 (by decide +kernel) (by decide +kernel), by decide, by decide⟩, fun _ => hc_w 25 (by decide +kernel) (by decide +kernel), fun h => absurd h (by decide)⟩
theorem hc_pm65 : hc_Pm 65 := ⟨hc_w 474 (by decide +kernel) (by decide +kernel), hc_w 31 (by decide +kernel) (by decide +kernel), ⟨by decide +kernel, by decide +kernel⟩, by decide +kernel, by decide +kernel, rfl, fun h => absurd h (by decide), fun _ => ⟨hc_w 473 (by decide +kernel) (by decide +kernel), by decide, by decide⟩, fun _ => hc_w 12 (by decide +kernel) (by decide +kernel), fun h => absurd h (by decide)⟩
theorem hc_pm66 : hc_Pm 66 := ⟨hc_w 486 (by decide +kernel) (by decide +kernel), hc_w 31 (by decide +kernel) (by decide +kernel), ⟨by decide +kernel, by decide +kernel⟩, by decide +kernel, by decide +kernel, rfl, fun h => absurd h (by decide), fun _ => ⟨hc_w 485 (by decide +kernel) (by decide +kernel), by decide, by decide⟩, fun _ => hc_w 14 (by decide +kernel) (by decide +kernel), fun h => absurd h (by decide)⟩
theorem hc_pm67 : hc_Pm 67 := ⟨hc_w 519 (by decide +kernel) (by decide +kernel), hc_w 31 (by decide +kernel) (by decide +kernel), ⟨by decide +kernel, by decide +kernel⟩, by decide +kernel, by decide +kernel, rfl, fun _ => hc_w 518 (by decide +kernel) (by decide +kernel), fun h => absurd rfl h, fun h => absurd h (by decide), fun h => absurd h (by decide)⟩
theorem hc_pm68 : hc_Pm 68 := ⟨hc_w 515 (by decide +kernel) (by decide +kernel), hc_w 31 (by decide +kernel) (by decide +kernel), ⟨by decide +kernel, by decide +kernel⟩, by decide +kernel, by decide +kernel, rfl, fun h => absurd h (by decide), fun _ => ⟨hc_w 514 (by decide +kernel) (by decide +kernel), by decide, by decide⟩, fun _ => hc_w 16 (by decide +kernel) (by decide +kernel), fun h => absurd h (by decide)⟩
theorem hc_pm69 : hc_Pm 69 := ⟨hc_w 548 (by decide +kernel) (by decide +kernel), hc_w 31 (by decide +kernel) (by decide +kernel), ⟨by decide +kernel, by decide +kernel⟩, by decide +kernel, by decide +kernel, rfl, fun h => absurd h (by decide), fun _ => ⟨hc_w 547 (by decide +kernel) (by decide +kernel), by decide, by decide⟩, fun _ => hc_w 21 (by decide +kernel) (by decide +kernel), fun h => absurd h (by decide)⟩
theorem hc_pm70 : hc_Pm 70 := ⟨hc_w 552 (by decide +kernel) (by decide +kernel), hc_w 31 (by decide +kernel) (by decide +kernel), ⟨by decide +kernel, by decide +kernel⟩, by decide +kernel, by decide +kernel, rfl, fun h => absurd h (by decide), fun _ => ⟨hc_w 551 (by decide +kernel) (by decide +kernel), by decide, by decide⟩, fun _ => hc_w 22 (by decide +kernel) (by decide +kernel), fun h => absurd h (by decide)⟩
theorem hc_pm71 : hc_Pm 71 := ⟨hc_w 544 (by decide +kernel) (by decide +kernel), hc_w 31 (by decide +kernel) (by decide +kernel), ⟨by decide +kernel, by decide +kernel⟩, by decide +kernel, by decide +kernel, rfl, fun h => absurd h (by decide), fun _ => ⟨hc_w 543 (by decide +kernel) (by decide +kernel), by decide, by decide⟩, fun _ => hc_w 20 (by decide +kernel) (by decide +kernel), fun h => absurd h (by decide)⟩
theorem hc_pm72 : hc_Pm 72 := ⟨hc_w 540 (by decide +kernel) (by decide +kernel), hc_w 31 (by decide +kernel) (by decide +kernel), ⟨by decide +kernel, by decide +kernel⟩, by decide +kernel, by decide +kernel, rfl, fun h => absurd h (by decide), fun _ => ⟨hc_w 539 (by decide +kernel) (by decide +kernel), by decide, by decide⟩, fun _ => hc_w 19 (by decide +kernel) (by decide +kernel), fun h => absurd h (by decide)⟩
theorem hc_pm73 : hc_Pm 73 := ⟨hc_w 560 (by decide +kernel) (by decide +kernel), hc_w 31 (by decide +kernel) (by decide +kernel), ⟨by decide +kernel, by decide +kernel⟩, by decide +kernel, by decide +kernel, rfl, fun h => absurd h (by decide), fun _ => ⟨hc_w 559 (by decide +kernel) (by decide +kernel), by decide, by decide⟩, fun _ => hc_w 24 (by decide +kernel) (by decide +kernel), fun h => absurd h (by decide)⟩
theorem hc_pm74 : hc_Pm 74 := ⟨hc_w 523 (by decide +kernel) (by decide +kernel), hc_w 31 (by decide +kernel) (by decide +kernel), ⟨by decide +kernel, by decide +kernel⟩, by decide +kernel, by decide +kernel, rfl, fun h => absurd h (by decide), fun _ => ⟨hc_w 522 (by decide +kernel) (by decide +kernel), by decide, by decide⟩, fun _ => hc_w 17 (by decide +kernel) (by decide +kernel), fun h => absurd h (by decide)⟩
theorem hc_pm75 : hc_Pm 75 := ⟨hc_w 527 (by decide +kernel) (by decide +kernel), hc_w 31 (by decide +kernel) (by decide +kernel), ⟨by decide +kernel, by decide +kernel⟩, by decide +kernel, by decide +kernel, rfl, fun h => absurd h (by decide), fun _ => ⟨hc_w 526 (by decide +kernel) (by decide +kernel), by decide, by decide⟩, fun _ => hc_w 18 (by decide +kernel) (by decide +kernel), fun h => absurd h (by decide)⟩
theorem hc_pm76 : hc_Pm 76 := ⟨hc_w 556 (by decide +kernel) (by decide +kernel), hc_w 31 (by decide +kernel) (by decide +kernel), ⟨by decide +kernel, by decide +kernel⟩, by decide +kernel, by decide +kernel, rfl, fun h => absurd h (by decide), fun _ => ⟨hc_w 555 (by decide +kernel) (by decide +kernel), by decide, by decide⟩, fun _ => hc_w 23 (by decide +kernel) (by decide +kernel), fun h => absurd h (by decide)⟩
theorem hc_pm77 : hc_Pm 77 := ⟨hc_w 574 (by decide +kernel) (by decide +kernel), hc_w 31 (by decide +kernel) (by decide +kernel), ⟨by decide +kernel, by decide +kernel⟩, by decide +kernel, by decide +kernel, rfl, fun h => absurd h (by decide), fun _ => ⟨hc_w 572 (by decide +kernel) (by decide +kernel), by decide, by decide⟩, fun _ => hc_w 573 (by decide +kernel) (by decide +kernel), fun h => absurd h (by decide)⟩
theorem hc_pm78 : hc_Pm 78 := ⟨hc_w 578 (by decide +kernel) (by decide +kernel), hc_w 31 (by decide +kernel) (by decide +kernel), ⟨by decide +kernel, by decide +kernel⟩, by decide +kernel, by decide +kernel, rfl, fun h => absurd h (by decide), fun _ => ⟨hc_w 576 (by decide +kernel) (by decide +kernel), by decide, by decide⟩, fun _ => hc_w 577 (by decide +kernel) (by decide +kernel), fun h => absurd h (by decide)⟩
theorem hc_pm79 : hc_Pm 79 := ⟨hc_w 583 (by decide +kernel) (by decide +kernel), hc_w 31 (by decide +kernel) (by decide +kernel), ⟨by decide +kernel, by decide +kernel⟩, by decide +kernel, by decide +kernel, rfl, fun h => absurd h (by decide), fun _ => ⟨hc_w 581 (by decide +kernel) (by decide +kernel), by decide, by decide⟩, fun _ => hc_w 582 (by decide +kernel) (by decide +kernel), fun h => absurd h (by decide)⟩
theorem hc_pm80 : hc_Pm 80 := ⟨hc_w 587 (by decide +kernel) (by decide +kernel), hc_w 31 (by decide +kernel) (by decide +kernel), ⟨by decide +kernel, by decide +kernel⟩, by decide +kernel, by decide +kernel, rfl, fun h => absurd h (by decide), fun _ => ⟨hc_w 585 (by decide +kernel) (by decide +kernel), by decide, by decide⟩, fun _ => hc_w 586 (by decide +kernel) (by decide +kernel), fun h => absurd h (by decide)⟩
theorem hc_pm81 : hc_Pm 81 := ⟨hc_w 591 (by decide +kernel) (by decide +kernel), hc_w 31 (by decide +kernel) (by decide +kernel), ⟨by decide +kernel, by decide +kernel⟩, by decide +kernel, by decide +kernel, rfl, fun h => absurd h (by decide), fun _ => ⟨hc_w 589 (by decide +kernel) (by decide +kernel), by decide, by decide⟩, fun _ => hc_w 590 (by decide +kernel) (by decide +kernel), fun h => absurd h (by decide)⟩
theorem hc_pm82 : hc_Pm 82 := ⟨hc_w 595 (by decide +kernel) (by decide +kernel), hc_w 31 (by decide +kernel) (by decide +kernel), ⟨by decide +kernel, by decide +kernel⟩, by decide +kernel, by decide +kernel, rfl, fun h => absurd h (by decide), fun _ => ⟨hc_w 593 (by decide +kernel) (by decide +kernel), by decide, by decide⟩, fun _ => hc_w 594 (by decide +kernel) (by decide +kernel), fun h => absurd h (by decide)⟩
theorem hc_pm83 : hc_Pm 83 := ⟨hc_w 599 (by decide +kernel) (by decide +kernel), hc_w 31 (by decide +kernel) (by decide +kernel), ⟨by decide +kernel, by decide +kernel⟩, by decide +kernel, by decide +kernel, rfl, fun h => absurd h (by decide), fun _ => ⟨hc_w 597 (by decide +kernel) (by decide +kernel), by decide, by decide⟩, fun _ => hc_w 598 (by decide +kernel) (by decide +kernel), fun h => absurd h (by decide)⟩
theorem hc_pm84 : hc_Pm 84 := ⟨hc_w 237 (by decide +kernel) (by decide +kernel), hc_w 34 (by decide +kernel) (by decide +kernel), ⟨by decide +kernel, by decide +kernel⟩, by decide +kernel, by decide +kernel, rfl, fun _ => hc_w 236 (by decide +kernel) (by decide +kernel), fun h => absurd rfl h, fun h => absurd h (by decide), fun h => absurd h (by decide)⟩
theorem hc_pm85 : hc_Pm 85 := ⟨hc_w 276 (by decide +kernel) (by decide +kernel), hc_w 34 (by decide +kernel) (by decide +kernel), ⟨by decide +kernel, by decide +kernel⟩, by decide +kernel, by decide +kernel, rfl, fun _ => hc_w 275 (by decide +kernel) (by decide +kernel), fun h => absurd rfl h, fun h => absurd h (by decide), fun h => absurd h (by decide)⟩
theorem hc_pm86 : hc_Pm 86 := ⟨hc_w 170 (by decide +kernel) (by decide +kernel), hc_w 34 (by decide +kernel) (by decide +kernel), ⟨by decide +kernel, by decide +kernel⟩, by decide +kernel, by decide +kernel, rfl, fun _ => hc_w 169 (by decide +kernel) (by decide +kernel), fun h => absurd rfl h, fun h => absurd h (by decide), fun h => absurd h (by decide)⟩
theorem hc_pm87 : hc_Pm 87 := ⟨hc_w 493 (by decide +kernel) (by decide +kernel), hc_w 34 (by decide +kernel) (by decide +kernel), ⟨by decide +kernel, by decide +kernel⟩, by decide +kernel, by decide +kernel, rfl, fun _ => hc_w 492 (by decide +kernel) (by decide +kernel), fun h => absurd rfl h, fun h => absurd h (by decide), fun h => absurd h (by decide)⟩
theorem hc_pm88 : hc_Pm 88 := ⟨hc_w 183 (by decide +kernel) (by decide +kernel), hc_w 34 (by decide +kernel) (by decide +kernel), ⟨by decide +kernel, by decide +kernel⟩, by decide +kernel, by decide +kernel, rfl, fun _ => hc_w 182 (by decide +kernel) (by decide +kernel), fun h => absurd rfl h, fun h => absurd h (by decide), fun h => absurd h (by decide)⟩
theorem hc_pm89 : hc_Pm 89 := ⟨hc_w 496 (by decide +kernel) (by decide +kernel), hc_w 34 (by decide +kernel) (by decide +kernel), ⟨by decide +kernel, by decide +kernel⟩, by decide +kernel, by decide +kernel, rfl, fun _ => hc_w 495 (by decide +kernel) (by decide +kernel), fun h => absurd rfl h, fun h => absurd h (by decide), fun h => absurd h (by decide)⟩
theorem hc_pm90 : hc_Pm 90 := ⟨hc_w 173 (by decide +kernel) (by decide +kernel), hc_w 35 (by decide +kernel) (by decide +kernel), ⟨by decide +kernel, by decide +kernel⟩, by decide +kernel, by decide +kernel, rfl, fun _ => hc_w 172 (by decide +kernel) (by decide +kernel), fun h => absurd rfl h, fun h => absurd h (by decide), fun h => absurd h (by decide)⟩
theorem hc_pm91 : hc_Pm 91 := ⟨hc_w 220 (by decide +kernel) (by decide +kernel), hc_w 35 (by decide +kernel) (by decide +kernel), ⟨by decide +kernel, by decide +kernel⟩, by decide +kernel, by decide +kernel, rfl, fun _ => hc_w 219 (by decide +kernel) (by decide +kernel), fun h => absurd rfl h, fun h => absurd h (by decide), fun h => absurd h (by decide)⟩
theorem hc_tgw : ∀ q ∈ hc_tgl, hc_Pm q.2.2 ∧ (Cond.methodLink (hc_cn q.1) q.2.1 (hc_y q.2.2) ∈ hc_ALL ∨ ∃ h, Cond.methodLinkNest (hc_cn q.1) q.2.1 (hc_y q.2.2) h ∈ hc_NW) := by
  refine List.forall_mem_cons.mpr ⟨?_, List.forall_mem_cons.mpr ⟨?_, List.forall_mem_cons.mpr ⟨?_, List.forall_mem_cons.mpr ⟨?_, List.forall_mem_cons.mpr ⟨?_, List.forall_mem_cons.mpr ⟨?_, List.forall_mem_cons.mpr ⟨?_, List.forall_mem_cons.mpr ⟨?_, List.forall_mem_cons.mpr ⟨?_, List.forall_mem_cons.mpr ⟨?_, List.forall_mem_cons.mpr ⟨?_, List.forall_mem_cons.mpr ⟨?_, List.forall_mem_cons.mpr ⟨?_, List.forall_mem_cons.mpr ⟨?_, List.forall_mem_cons.mpr ⟨?_, List.forall_mem_cons.mpr ⟨?_, List.forall_mem_cons.mpr ⟨?_, List.forall_mem_cons.mpr ⟨?_, List.forall_mem_cons.mpr ⟨?_, List.forall_mem_cons.mpr ⟨?_, List.forall_mem_cons.mpr ⟨?_, List.forall_mem_cons.mpr ⟨?_, List.forall_mem_cons.mpr ⟨?_, List.forall_mem_cons.mpr ⟨?_, List.forall_mem_cons.mpr ⟨?_, List.forall_mem_cons.mpr ⟨?_, List.forall_mem_cons.mpr ⟨?_, List.forall_mem_cons.mpr ⟨?_, List.forall_mem_cons.mpr ⟨?_, List.forall_mem_cons.mpr ⟨?_, List.forall_mem_cons.mpr ⟨?_, List.forall_mem_cons.mpr ⟨?_, List.forall_mem_cons.mpr ⟨?_, List.forall_mem_cons.mpr ⟨?_, List.forall_mem_cons.mpr ⟨?_, List.forall_mem_cons.mpr ⟨?_, List.forall_mem_cons.mpr ⟨?_, List.forall_mem_cons.mpr ⟨?_, List.forall_mem_cons.mpr ⟨?_, List.forall_mem_cons.mpr ⟨?_, List.forall_mem_cons.mpr ⟨?_, List.forall_mem_cons.mpr ⟨?_, List.forall_mem_cons.mpr ⟨?_, List.forall_mem_cons.mpr ⟨?_, List.forall_mem_cons.mpr ⟨?_, List.forall_mem_cons.mpr ⟨?_, List.forall_mem_cons.mpr ⟨?_, List.forall_mem_cons.mpr ⟨?_, List.forall_mem_cons.mpr ⟨?_, List.forall_mem_cons.mpr ⟨?_, List.forall_mem_cons.mpr ⟨?_, List.forall_mem_cons.mpr ⟨?_, List.forall_mem_cons.mpr ⟨?_, List.forall_mem_cons.mpr ⟨?_, List.forall_mem_cons.mpr ⟨?_, List.forall_mem_cons.mpr ⟨?_, List.forall_mem_cons.mpr ⟨?_, List.forall_mem_cons.mpr ⟨?_, List.forall_mem_cons.mpr ⟨?_, List.forall_mem_cons.mpr ⟨?_, List.forall_mem_cons.mpr ⟨?_, List.forall_mem_cons.mpr ⟨?_, List.forall_mem_cons.mpr ⟨?_, List.forall_mem_cons.mpr ⟨?_, List.forall_mem_cons.mpr ⟨?_, List.forall_mem_cons.mpr ⟨?_, List.forall_mem_cons.mpr ⟨?_, List.forall_mem_cons.mpr ⟨?_, List.forall_mem_cons.mpr ⟨?_, List.forall_mem_cons.mpr ⟨?_, List.forall_mem_cons.mpr ⟨?_, List.forall_mem_cons.mpr ⟨?_, List.forall_mem_cons.mpr ⟨?_, List.forall_mem_cons.mpr ⟨?_, List.forall_mem_cons.mpr ⟨?_, List.forall_mem_cons.mpr ⟨?_, List.forall_mem_cons.mpr ⟨?_, List.forall_mem_cons.mpr ⟨?_, List.forall_mem_cons.mpr ⟨?_, List.forall_mem_cons.mpr ⟨?_, List.forall_mem_cons.mpr ⟨?_, List.forall_mem_cons.mpr ⟨?_, List.forall_mem_cons.mpr ⟨?_, List.forall_mem_cons.mpr ⟨?_, List.forall_mem_cons.mpr ⟨?_, List.forall_mem_cons.mpr ⟨?_, List.forall_mem_cons.mpr ⟨?_, List.forall_mem_cons.mpr ⟨?_, List.forall_mem_cons.mpr ⟨?_, List.forall_mem_cons.mpr ⟨?_, List.forall_mem_cons.mpr ⟨?_, List.forall_mem_cons.mpr ⟨?_, List.forall_mem_cons.mpr ⟨?_, List.forall_mem_cons.mpr ⟨?_, List.forall_mem_cons.mpr ⟨?_, List.forall_mem_cons.mpr ⟨?_, List.forall_mem_cons.mpr ⟨?_, List.forall_mem_cons.mpr ⟨?_, List.forall_mem_cons.mpr ⟨?_, List.forall_mem_cons.mpr ⟨?_, List.forall_mem_cons.mpr ⟨?_, List.forall_mem_cons.mpr ⟨?_, List.forall_mem_cons.mpr ⟨?_, List.forall_mem_cons.mpr ⟨?_, fun _ h => absurd h List.not_mem_nil⟩⟩⟩⟩⟩⟩⟩⟩⟩⟩⟩⟩⟩⟩⟩⟩⟩⟩⟩⟩⟩⟩⟩⟩⟩⟩⟩⟩⟩⟩⟩⟩⟩⟩⟩⟩⟩⟩⟩⟩⟩⟩⟩⟩⟩⟩⟩⟩⟩⟩⟩⟩⟩⟩⟩⟩⟩⟩⟩⟩⟩⟩⟩⟩⟩⟩⟩⟩⟩⟩⟩⟩⟩⟩⟩⟩⟩⟩⟩⟩⟩⟩⟩⟩⟩⟩⟩⟩⟩⟩⟩⟩⟩⟩⟩⟩⟩⟩⟩⟩⟩⟩⟩⟩
  · exact ⟨hc_pm88, Or.inl (hc_w 217 (by decide +kernel) (by decide +kernel))⟩
  · exact ⟨hc_pm91, Or.inl (hc_w 218 (by decide +kernel) (by decide +kernel))⟩
  · exact ⟨hc_pm3, Or.inl (hc_w 246 (by decide +kernel) (by decide +kernel))⟩
  · exact ⟨hc_pm16, Or.inr ⟨"HotCells", by decide +kernel⟩⟩
  · exact ⟨hc_pm18, Or.inl (hc_w 258 (by decide +kernel) (by decide +kernel))⟩
  · exact ⟨hc_pm39, Or.inr ⟨"HotCells", by decide +kernel⟩⟩
  · exact ⟨hc_pm8, Or.inl (hc_w 266 (by decide +kernel) (by decide +kernel))⟩
  · exact ⟨hc_pm9, Or.inl (hc_w 270 (by decide +kernel) (by decide +kernel))⟩
  · exact ⟨hc_pm11, Or.inl (hc_w 288 (by decide +kernel) (by decide +kernel))⟩
  · exact ⟨hc_pm12, Or.inl (hc_w 292 (by decide +kernel) (by decide +kernel))⟩
  · exact ⟨hc_pm85, Or.inl (hc_w 274 (by decide +kernel) (by decide +kernel))⟩
  · exact ⟨hc_pm86, Or.inl (hc_w 277 (by decide +kernel) (by decide +kernel))⟩
  · exact ⟨hc_pm88, Or.inl (hc_w 278 (by decide +kernel) (by decide +kernel))⟩
  · exact ⟨hc_pm19, Or.inl (hc_w 279 (by decide +kernel) (by decide +kernel))⟩
  · exact ⟨hc_pm10, Or.inl (hc_w 284 (by decide +kernel) (by decide +kernel))⟩
  · exact ⟨hc_pm1, Or.inl (hc_w 301 (by decide +kernel) (by decide +kernel))⟩
  · exact ⟨hc_pm2, Or.inl (hc_w 302 (by decide +kernel) (by decide +kernel))⟩
  · exact ⟨hc_pm15, Or.inl (hc_w 307 (by decide +kernel) (by decide +kernel))⟩
  · exact ⟨hc_pm18, Or.inl (hc_w 161 (by decide +kernel) (by decide +kernel))⟩
  · exact ⟨hc_pm39, Or.inr ⟨"HotCells", by decide +kernel⟩⟩
  · exact ⟨hc_pm16, Or.inr ⟨"HotCells", by decide +kernel⟩⟩
  · exact ⟨hc_pm0, Or.inr ⟨"HotCells", by decide +kernel⟩⟩
  · exact ⟨hc_pm5, Or.inr ⟨"HotCells", by decide +kernel⟩⟩
  · exact ⟨hc_pm32, Or.inl (hc_w 152 (by decide +kernel) (by decide +kernel))⟩
  · exact ⟨hc_pm17, Or.inl (hc_w 157 (by decide +kernel) (by decide +kernel))⟩
  · exact ⟨hc_pm33, Or.inl (hc_w 199 (by decide +kernel) (by decide +kernel))⟩
  · exact ⟨hc_pm6, Or.inl (hc_w 254 (by decide +kernel) (by decide +kernel))⟩
  · exact ⟨hc_pm7, Or.inl (hc_w 261 (by decide +kernel) (by decide +kernel))⟩
  · exact ⟨hc_pm13, Or.inl (hc_w 296 (by decide +kernel) (by decide +kernel))⟩
  · exact ⟨hc_pm14, Or.inl (hc_w 303 (by decide +kernel) (by decide +kernel))⟩
  · exact ⟨hc_pm19, Or.inl (hc_w 323 (by decide +kernel) (by decide +kernel))⟩
  · exact ⟨hc_pm35, Or.inl (hc_w 203 (by decide +kernel) (by decide +kernel))⟩
  · exact ⟨hc_pm37, Or.inl (hc_w 226 (by decide +kernel) (by decide +kernel))⟩
  · exact ⟨hc_pm34, Or.inl (hc_w 238 (by decide +kernel) (by decide +kernel))⟩
  · exact ⟨hc_pm2, Or.inl (hc_w 242 (by decide +kernel) (by decide +kernel))⟩
  · exact ⟨hc_pm4, Or.inl (hc_w 250 (by decide +kernel) (by decide +kernel))⟩
  · exact ⟨hc_pm36, Or.inl (hc_w 207 (by decide +kernel) (by decide +kernel))⟩
  · exact ⟨hc_pm1, Or.inl (hc_w 213 (by decide +kernel) (by decide +kernel))⟩
  · exact ⟨hc_pm38, Or.inl (hc_w 230 (by decide +kernel) (by decide +kernel))⟩
  · exact ⟨hc_pm84, Or.inl (hc_w 235 (by decide +kernel) (by decide +kernel))⟩
  · exact ⟨hc_pm86, Or.inl (hc_w 168 (by decide +kernel) (by decide +kernel))⟩
  · exact ⟨hc_pm90, Or.inl (hc_w 171 (by decide +kernel) (by decide +kernel))⟩
  · exact ⟨hc_pm45, Or.inl (hc_w 467 (by decide +kernel) (by decide +kernel))⟩
  · exact ⟨hc_pm50, Or.inl (hc_w 479 (by decide +kernel) (by decide +kernel))⟩
  · exact ⟨hc_pm89, Or.inl (hc_w 494 (by decide +kernel) (by decide +kernel))⟩
  · exact ⟨hc_pm87, Or.inl (hc_w 491 (by decide +kernel) (by decide +kernel))⟩
  · exact ⟨hc_pm52, Or.inl (hc_w 500 (by decide +kernel) (by decide +kernel))⟩
  · exact ⟨hc_pm53, Or.inl (hc_w 503 (by decide +kernel) (by decide +kernel))⟩
  · exact ⟨hc_pm56, Or.inl (hc_w 506 (by decide +kernel) (by decide +kernel))⟩
  · exact ⟨hc_pm54, Or.inl (hc_w 509 (by decide +kernel) (by decide +kernel))⟩
  · exact ⟨hc_pm40, Or.inr ⟨"HotCellsModel", by decide +kernel⟩⟩
  · exact ⟨hc_pm43, Or.inr ⟨"HotCellsModel", by decide +kernel⟩⟩
  · exact ⟨hc_pm58, Or.inl (hc_w 434 (by decide +kernel) (by decide +kernel))⟩
  · exact ⟨hc_pm42, Or.inl (hc_w 439 (by decide +kernel) (by decide +kernel))⟩
  · exact ⟨hc_pm41, Or.inl (hc_w 451 (by decide +kernel) (by decide +kernel))⟩
  · exact ⟨hc_pm44, Or.inl (hc_w 459 (by decide +kernel) (by decide +kernel))⟩
  · exact ⟨hc_pm46, Or.inl (hc_w 463 (by decide +kernel) (by decide +kernel))⟩
  · exact ⟨hc_pm65, Or.inl (hc_w 471 (by decide +kernel) (by decide +kernel))⟩
  · exact ⟨hc_pm74, Or.inl (hc_w 520 (by decide +kernel) (by decide +kernel))⟩
  · exact ⟨hc_pm88, Or.inl (hc_w 561 (by decide +kernel) (by decide +kernel))⟩
  · exact ⟨hc_pm86, Or.inl (hc_w 562 (by decide +kernel) (by decide +kernel))⟩
  · exact ⟨hc_pm49, Or.inl (hc_w 475 (by decide +kernel) (by decide +kernel))⟩
  · exact ⟨hc_pm64, Or.inl (hc_w 563 (by decide +kernel) (by decide +kernel))⟩
  · exact ⟨hc_pm51, Or.inl (hc_w 567 (by decide +kernel) (by decide +kernel))⟩
  · exact ⟨hc_pm66, Or.inl (hc_w 483 (by decide +kernel) (by decide +kernel))⟩
  · exact ⟨hc_pm62, Or.inl (hc_w 487 (by decide +kernel) (by decide +kernel))⟩
  · exact ⟨hc_pm55, Or.inl (hc_w 497 (by decide +kernel) (by decide +kernel))⟩
  · exact ⟨hc_pm68, Or.inl (hc_w 512 (by decide +kernel) (by decide +kernel))⟩
  · exact ⟨hc_pm67, Or.inl (hc_w 517 (by decide +kernel) (by decide +kernel))⟩
  · exact ⟨hc_pm69, Or.inl (hc_w 545 (by decide +kernel) (by decide +kernel))⟩
  · exact ⟨hc_pm70, Or.inl (hc_w 549 (by decide +kernel) (by decide +kernel))⟩
  · exact ⟨hc_pm47, Or.inl (hc_w 528 (by decide +kernel) (by decide +kernel))⟩
  · exact ⟨hc_pm48, Or.inl (hc_w 532 (by decide +kernel) (by decide +kernel))⟩
  · exact ⟨hc_pm71, Or.inl (hc_w 541 (by decide +kernel) (by decide +kernel))⟩
  · exact ⟨hc_pm75, Or.inl (hc_w 524 (by decide +kernel) (by decide +kernel))⟩
  · exact ⟨hc_pm72, Or.inl (hc_w 537 (by decide +kernel) (by decide +kernel))⟩
  · exact ⟨hc_pm76, Or.inl (hc_w 553 (by decide +kernel) (by decide +kernel))⟩
  · exact ⟨hc_pm73, Or.inl (hc_w 557 (by decide +kernel) (by decide +kernel))⟩
  · exact ⟨hc_pm82, Or.inl (hc_w 600 (by decide +kernel) (by decide +kernel))⟩
  · exact ⟨hc_pm88, Or.inl (hc_w 181 (by decide +kernel) (by decide +kernel))⟩
  · exact ⟨hc_pm20, Or.inl (hc_w 39 (by decide +kernel) (by decide +kernel))⟩
  · exact ⟨hc_pm57, Or.inl (hc_w 342 (by decide +kernel) (by decide +kernel))⟩
  · exact ⟨hc_pm21, Or.inl (hc_w 148 (by decide +kernel) (by decide +kernel))⟩
  · exact ⟨hc_pm59, Or.inl (hc_w 430 (by decide +kernel) (by decide +kernel))⟩
  · exact ⟨hc_pm22, Or.inl (hc_w 187 (by decide +kernel) (by decide +kernel))⟩
  · exact ⟨hc_pm60, Or.inl (hc_w 443 (by decide +kernel) (by decide +kernel))⟩
  · exact ⟨hc_pm23, Or.inl (hc_w 191 (by decide +kernel) (by decide +kernel))⟩
  · exact ⟨hc_pm61, Or.inl (hc_w 447 (by decide +kernel) (by decide +kernel))⟩
  · exact ⟨hc_pm24, Or.inl (hc_w 195 (by decide +kernel) (by decide +kernel))⟩
  · exact ⟨hc_pm63, Or.inl (hc_w 455 (by decide +kernel) (by decide +kernel))⟩
  · exact ⟨hc_pm25, Or.inl (hc_w 310 (by decide +kernel) (by decide +kernel))⟩
  · exact ⟨hc_pm77, Or.inl (hc_w 571 (by decide +kernel) (by decide +kernel))⟩
  · exact ⟨hc_pm26, Or.inl (hc_w 314 (by decide +kernel) (by decide +kernel))⟩
  · exact ⟨hc_pm78, Or.inl (hc_w 575 (by decide +kernel) (by decide +kernel))⟩
  · exact ⟨hc_pm27, Or.inl (hc_w 319 (by decide +kernel) (by decide +kernel))⟩
  · exact ⟨hc_pm79, Or.inl (hc_w 580 (by decide +kernel) (by decide +kernel))⟩
  · exact ⟨hc_pm28, Or.inl (hc_w 324 (by decide +kernel) (by decide +kernel))⟩
  · exact ⟨hc_pm80, Or.inl (hc_w 584 (by decide +kernel) (by decide +kernel))⟩
  · exact ⟨hc_pm29, Or.inl (hc_w 328 (by decide +kernel) (by decide +kernel))⟩
  · exact ⟨hc_pm81, Or.inl (hc_w 588 (by decide +kernel) (by decide +kernel))⟩
  · exact ⟨hc_pm30, Or.inl (hc_w 332 (by decide +kernel) (by decide +kernel))⟩
  · exact ⟨hc_pm82, Or.inl (hc_w 592 (by decide +kernel) (by decide +kernel))⟩
  · exact ⟨hc_pm31, Or.inl (hc_w 336 (by decide +kernel) (by decide +kernel))⟩
  · exact ⟨hc_pm83, Or.inl (hc_w 596 (by decide +kernel) (by decide +kernel))⟩
