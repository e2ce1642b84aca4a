/-! calls of the three kinds; the links, by their places -/
section HCC
variable {G : hc_G} {σ : hc_H} {t : hc_T} {mi pc np : Nat} {cc : ByteArray} {ls : hc_L} {st : List hc_V} {Q : hc_Q}
theorem hcw_callS {ow cp m2 : Nat} {args : List hc_V} {l2 : hc_L} (hb : hc_b mi = cc) (hd : decode cc pc = .ok (.invokestatic cp, 3)) (hp : pc + 3 = np) (ho : hc_own mi = ow) (htg : hc_tgt ow cp = some m2) (hs : hc_md m2 = 2 ∧ hc_dp m2 < hc_dp mi ∧ hc_ln m2 + hc_mx m2 + 27 ≤ hc_ln mi) (hob : hc_obj ow cp = false) (hac : hc_acp ow cp = false) (hn : args.length = hc_na m2) (hle : (hc_ent args).length ≤ hc_mx m2) (hl2 : hc_pad (hc_mx m2) (hc_ent args) = l2) :
    hc_wp G σ t mi pc ls (args.reverse ++ st) Q = (st.length ≤ 8 ∧ hc_wp G σ t m2 0 l2 [] (fun G' σ' t' r => hc_bk G G' ls st (fun ls' => hc_wp G' σ' t' mi np ls' (hc_psh r st) Q))) := by
  rw [hcw_call (kd := 2) (na := 0) (mx := 0) hb hd hp ho htg (by decide) hs hob hac hn hle hl2]
  simp
theorem hcw_callI {ow cp m2 k : Nat} {args : List hc_V} {l2 : hc_L} (hb : hc_b mi = cc) (hd : decode cc pc = .ok (.invokespecial cp, 3)) (hp : pc + 3 = np) (ho : hc_own mi = ow) (htg : hc_tgt ow cp = some m2) (hs : hc_md m2 = 1 ∧ hc_dp m2 < hc_dp mi ∧ hc_ln m2 + hc_mx m2 + 27 ≤ hc_ln mi) (hob : hc_obj ow cp = false) (hac : hc_acp ow cp = false) (hn : args.length + 1 = hc_na m2) (hle : (hc_ent ((Sum.inl (Value.ref k) : hc_V) :: args)).length ≤ hc_mx m2) (hl2 : hc_pad (hc_mx m2) (hc_ent ((Sum.inl (Value.ref k) : hc_V) :: args)) = l2) :
    hc_wp G σ t mi pc ls (((Sum.inl (Value.ref k) : hc_V) :: args).reverse ++ st) Q = (st.length ≤ 8 ∧ hc_wp G σ t m2 0 l2 [] (fun G' σ' t' r => hc_bk G G' ls st (fun ls' => hc_wp G' σ' t' mi np ls' (hc_psh r st) Q))) := by
  rw [hcw_call (args := (Sum.inl (Value.ref k) : hc_V) :: args) (kd := 1) (na := 0) (mx := 0) hb hd hp ho htg (by decide) hs hob hac hn hle hl2]
  simp [hc_rcv]
theorem hcw_callV {ow cp m2 k c : Nat} {args : List hc_V} {l2 : hc_L} (hb : hc_b mi = cc) (hd : decode cc pc = .ok (.invokevirtual cp, 3)) (hp : pc + 3 = np) (ho : hc_own mi = ow) (htg : hc_tgt ow cp = some m2) (hs : hc_md m2 = 0 ∧ hc_dp m2 < hc_dp mi ∧ hc_ln m2 + hc_mx m2 + 27 ≤ hc_ln mi) (hob : hc_obj ow cp = false) (hac : hc_acp ow cp = false) (hn : args.length + 1 = hc_na m2) (hle : (hc_ent ((Sum.inl (Value.ref k) : hc_V) :: args)).length ≤ hc_mx m2) (hl2 : hc_pad (hc_mx m2) (hc_ent ((Sum.inl (Value.ref k) : hc_V) :: args)) = l2) (hc : hc_own m2 = c) :
    hc_wp G σ t mi pc ls (((Sum.inl (Value.ref k) : hc_V) :: args).reverse ++ st) Q = ((st.length ≤ 8 ∧ hc_is σ k c) ∧ hc_wp G σ t m2 0 l2 [] (fun G' σ' t' r => hc_bk G G' ls st (fun ls' => hc_wp G' σ' t' mi np ls' (hc_psh r st) Q))) := by
  subst hc
  rw [hcw_call (args := (Sum.inl (Value.ref k) : hc_V) :: args) (kd := 0) (na := 0) (mx := 0) hb hd hp ho htg (by decide) hs hob hac hn hle hl2]
  have e : (0 = 2 ∨ hc_rcv 0 σ (hc_own m2) ((Sum.inl (Value.ref k) : hc_V) :: args).head? = true) = hc_is σ k (hc_own m2) := by
    apply propext
    simp only [hc_rcv, hc_is, List.head?_cons]
    cases σ k with
    | none => simp
    | some o => simp
  rw [e]
end HCC
theorem hcf_0_9 : hc_fld 0 9 = some (0, 0) := by decide +kernel
theorem hcf_0_15 : hc_fld 0 15 = some (0, 1) := by decide +kernel
theorem hct_0_19 : hc_tgt 0 19 = some 88 := by decide +kernel
theorem hct_0_25 : hc_tgt 0 25 = some 91 := by decide +kernel
theorem hct_0_31 : hc_tgt 0 31 = some 3 := by decide +kernel
theorem hct_1_11 : hc_tgt 1 11 = some 16 := by decide +kernel
theorem hcf_1_12 : hc_fld 1 12 = some (1, 0) := by decide +kernel
theorem hcf_1_18 : hc_fld 1 18 = some (1, 1) := by decide +kernel
theorem hcf_1_22 : hc_fld 1 22 = some (1, 2) := by decide +kernel
theorem hcf_1_25 : hc_fld 1 25 = some (1, 3) := by decide +kernel
theorem hcf_1_29 : hc_fld 1 29 = some (1, 4) := by decide +kernel
theorem hcf_1_32 : hc_fld 1 32 = some (1, 5) := by decide +kernel
theorem hcf_1_35 : hc_fld 1 35 = some (1, 6) := by decide +kernel
theorem hcf_1_38 : hc_fld 1 38 = some (1, 7) := by decide +kernel
theorem hcf_1_41 : hc_fld 1 41 = some (1, 8) := by decide +kernel
theorem hcf_1_44 : hc_fld 1 44 = some (0, 0) := by decide +kernel
theorem hct_1_49 : hc_tgt 1 49 = some 18 := by decide +kernel
theorem hcf_1_53 : hc_fld 1 53 = some (2, 0) := by decide +kernel
theorem hcf_1_54 : hc_fld 1 54 = some (2, 1) := by decide +kernel
theorem hcf_1_57 : hc_fld 1 57 = some (0, 1) := by decide +kernel
theorem hcf_1_64 : hc_fld 1 64 = some (2, 2) := by decide +kernel
theorem hct_1_67 : hc_tgt 1 67 = some 39 := by decide +kernel
theorem hct_1_71 : hc_tgt 1 71 = some 8 := by decide +kernel
theorem hct_1_75 : hc_tgt 1 75 = some 9 := by decide +kernel
theorem hct_1_78 : hc_tgt 1 78 = some 11 := by decide +kernel
theorem hct_1_81 : hc_tgt 1 81 = some 12 := by decide +kernel
theorem hct_1_85 : hc_tgt 1 85 = some 85 := by decide +kernel
theorem hct_1_91 : hc_tgt 1 91 = some 86 := by decide +kernel
theorem hct_1_95 : hc_tgt 1 95 = some 88 := by decide +kernel
theorem hct_1_98 : hc_tgt 1 98 = some 19 := by decide +kernel
theorem hct_1_103 : hc_tgt 1 103 = some 10 := by decide +kernel
theorem hct_1_109 : hc_tgt 1 109 = some 1 := by decide +kernel
theorem hct_1_113 : hc_tgt 1 113 = some 2 := by decide +kernel
theorem hct_1_116 : hc_tgt 1 116 = some 15 := by decide +kernel
theorem hcf_2_7 : hc_fld 2 7 = some (2, 0) := by decide +kernel
theorem hcf_2_13 : hc_fld 2 13 = some (2, 1) := by decide +kernel
theorem hcf_2_17 : hc_fld 2 17 = some (2, 2) := by decide +kernel
theorem hct_2_20 : hc_tgt 2 20 = some 18 := by decide +kernel
theorem hct_2_24 : hc_tgt 2 24 = some 39 := by decide +kernel
theorem hct_3_11 : hc_tgt 3 11 = some 16 := by decide +kernel
theorem hcf_3_12 : hc_fld 3 12 = some (3, 0) := by decide +kernel
theorem hcf_3_16 : hc_fld 3 16 = some (3, 1) := by decide +kernel
theorem hcf_3_19 : hc_fld 3 19 = some (3, 2) := by decide +kernel
theorem hct_3_24 : hc_tgt 3 24 = some 0 := by decide +kernel
theorem hcf_3_25 : hc_fld 3 25 = some (3, 3) := by decide +kernel
theorem hct_3_31 : hc_tgt 3 31 = some 5 := by decide +kernel
theorem hcf_3_32 : hc_fld 3 32 = some (3, 4) := by decide +kernel
theorem hcf_3_36 : hc_fld 3 36 = some (3, 5) := by decide +kernel
theorem hct_3_39 : hc_tgt 3 39 = some 32 := by decide +kernel
theorem hcf_3_43 : hc_fld 3 43 = some (2, 0) := by decide +kernel
theorem hct_3_47 : hc_tgt 3 47 = some 17 := by decide +kernel
theorem hct_3_51 : hc_tgt 3 51 = some 33 := by decide +kernel
theorem hct_3_55 : hc_tgt 3 55 = some 6 := by decide +kernel
theorem hct_3_59 : hc_tgt 3 59 = some 7 := by decide +kernel
theorem hct_3_63 : hc_tgt 3 63 = some 13 := by decide +kernel
theorem hct_3_66 : hc_tgt 3 66 = some 14 := by decide +kernel
theorem hcf_3_70 : hc_fld 3 70 = some (1, 5) := by decide +kernel
theorem hcf_3_73 : hc_fld 3 73 = some (1, 0) := by decide +kernel
theorem hcf_3_77 : hc_fld 3 77 = some (2, 1) := by decide +kernel
theorem hcf_3_81 : hc_fld 3 81 = some (2, 2) := by decide +kernel
theorem hct_3_84 : hc_tgt 3 84 = some 19 := by decide +kernel
theorem hcf_3_88 : hc_fld 3 88 = some (1, 6) := by decide +kernel
theorem hcf_3_91 : hc_fld 3 91 = some (1, 7) := by decide +kernel
theorem hcf_3_94 : hc_fld 3 94 = some (1, 8) := by decide +kernel
theorem hcf_3_97 : hc_fld 3 97 = some (1, 1) := by decide +kernel
theorem hcf_3_100 : hc_fld 3 100 = some (1, 3) := by decide +kernel
theorem hcf_3_103 : hc_fld 3 103 = some (1, 4) := by decide +kernel
theorem hcf_3_108 : hc_fld 3 108 = some (0, 0) := by decide +kernel
theorem hct_3_109 : hc_tgt 3 109 = some 35 := by decide +kernel
theorem hct_3_113 : hc_tgt 3 113 = some 37 := by decide +kernel
theorem hct_3_117 : hc_tgt 3 117 = some 34 := by decide +kernel
theorem hct_3_120 : hc_tgt 3 120 = some 2 := by decide +kernel
theorem hct_3_123 : hc_tgt 3 123 = some 4 := by decide +kernel
theorem hct_3_126 : hc_tgt 3 126 = some 36 := by decide +kernel
theorem hct_3_134 : hc_tgt 3 134 = some 1 := by decide +kernel
theorem hct_3_137 : hc_tgt 3 137 = some 38 := by decide +kernel
theorem hct_3_142 : hc_tgt 3 142 = some 84 := by decide +kernel
theorem hct_3_148 : hc_tgt 3 148 = some 86 := by decide +kernel
theorem hct_3_151 : hc_tgt 3 151 = some 90 := by decide +kernel
theorem hcf_4_7 : hc_fld 4 7 = some (4, 0) := by decide +kernel
theorem hcf_4_13 : hc_fld 4 13 = some (4, 1) := by decide +kernel
theorem hcf_5_7 : hc_fld 5 7 = some (5, 0) := by decide +kernel
theorem hcf_5_13 : hc_fld 5 13 = some (5, 1) := by decide +kernel
theorem hct_5_19 : hc_tgt 5 19 = some 45 := by decide +kernel
theorem hct_5_25 : hc_tgt 5 25 = some 50 := by decide +kernel
theorem hct_6_1 : hc_tgt 6 1 = some 89 := by decide +kernel
theorem hct_6_7 : hc_tgt 6 7 = some 87 := by decide +kernel
theorem hct_6_10 : hc_tgt 6 10 = some 52 := by decide +kernel
theorem hct_6_16 : hc_tgt 6 16 = some 53 := by decide +kernel
theorem hct_6_20 : hc_tgt 6 20 = some 56 := by decide +kernel
theorem hct_6_24 : hc_tgt 6 24 = some 54 := by decide +kernel
theorem hct_6_36 : hc_tgt 6 36 = some 40 := by decide +kernel
theorem hcf_6_37 : hc_fld 6 37 = some (6, 0) := by decide +kernel
theorem hcf_6_41 : hc_fld 6 41 = some (6, 1) := by decide +kernel
theorem hct_6_46 : hc_tgt 6 46 = some 43 := by decide +kernel
theorem hcf_6_47 : hc_fld 6 47 = some (6, 2) := by decide +kernel
theorem hcf_6_51 : hc_fld 6 51 = some (6, 3) := by decide +kernel
theorem hcf_6_54 : hc_fld 6 54 = some (6, 4) := by decide +kernel
theorem hcf_6_58 : hc_fld 6 58 = some (6, 5) := by decide +kernel
theorem hcf_6_61 : hc_fld 6 61 = some (6, 6) := by decide +kernel
theorem hcf_6_64 : hc_fld 6 64 = some (6, 7) := by decide +kernel
theorem hcf_6_67 : hc_fld 6 67 = some (6, 8) := by decide +kernel
theorem hcf_6_70 : hc_fld 6 70 = some (6, 9) := by decide +kernel
theorem hcf_6_73 : hc_fld 6 73 = some (6, 10) := by decide +kernel
theorem hcf_6_76 : hc_fld 6 76 = some (6, 11) := by decide +kernel
theorem hct_6_81 : hc_tgt 6 81 = some 58 := by decide +kernel
theorem hcf_6_85 : hc_fld 6 85 = some (4, 1) := by decide +kernel
theorem hct_6_89 : hc_tgt 6 89 = some 42 := by decide +kernel
theorem hct_6_93 : hc_tgt 6 93 = some 41 := by decide +kernel
theorem hcf_6_96 : hc_fld 6 96 = some (4, 0) := by decide +kernel
theorem hct_6_99 : hc_tgt 6 99 = some 44 := by decide +kernel
theorem hct_6_100 : hc_tgt 6 100 = some 46 := by decide +kernel
theorem hct_6_103 : hc_tgt 6 103 = some 65 := by decide +kernel
theorem hct_6_107 : hc_tgt 6 107 = some 74 := by decide +kernel
theorem hct_6_110 : hc_tgt 6 110 = some 88 := by decide +kernel
theorem hct_6_113 : hc_tgt 6 113 = some 86 := by decide +kernel
theorem hct_6_115 : hc_tgt 6 115 = some 49 := by decide +kernel
theorem hcf_6_118 : hc_fld 6 118 = some (5, 1) := by decide +kernel
theorem hct_6_119 : hc_tgt 6 119 = some 64 := by decide +kernel
theorem hct_6_122 : hc_tgt 6 122 = some 51 := by decide +kernel
theorem hct_6_125 : hc_tgt 6 125 = some 66 := by decide +kernel
theorem hct_6_129 : hc_tgt 6 129 = some 62 := by decide +kernel
theorem hct_6_133 : hc_tgt 6 133 = some 55 := by decide +kernel
theorem hct_6_136 : hc_tgt 6 136 = some 68 := by decide +kernel
theorem hct_6_141 : hc_tgt 6 141 = some 67 := by decide +kernel
theorem hcf_6_144 : hc_fld 6 144 = some (6, 13) := by decide +kernel
theorem hcf_6_148 : hc_fld 6 148 = some (6, 12) := by decide +kernel
theorem hcf_6_151 : hc_fld 6 151 = some (6, 16) := by decide +kernel
theorem hcf_6_155 : hc_fld 6 155 = some (6, 15) := by decide +kernel
theorem hcf_6_158 : hc_fld 6 158 = some (6, 14) := by decide +kernel
theorem hcf_6_161 : hc_fld 6 161 = some (6, 17) := by decide +kernel
theorem hct_6_164 : hc_tgt 6 164 = some 69 := by decide +kernel
theorem hct_6_168 : hc_tgt 6 168 = some 70 := by decide +kernel
theorem hct_6_171 : hc_tgt 6 171 = some 47 := by decide +kernel
theorem hct_6_175 : hc_tgt 6 175 = some 48 := by decide +kernel
theorem hct_6_178 : hc_tgt 6 178 = some 71 := by decide +kernel
theorem hct_6_182 : hc_tgt 6 182 = some 75 := by decide +kernel
theorem hct_6_185 : hc_tgt 6 185 = some 72 := by decide +kernel
theorem hct_6_188 : hc_tgt 6 188 = some 76 := by decide +kernel
theorem hct_6_191 : hc_tgt 6 191 = some 73 := by decide +kernel
theorem hct_6_195 : hc_tgt 6 195 = some 82 := by decide +kernel
theorem hct_8_304 : hc_tgt 8 304 = some 88 := by decide +kernel
theorem hct_9_9 : hc_tgt 9 9 = some 20 := by decide +kernel
theorem hct_9_12 : hc_tgt 9 12 = some 57 := by decide +kernel
theorem hct_9_13 : hc_tgt 9 13 = some 21 := by decide +kernel
theorem hct_9_17 : hc_tgt 9 17 = some 59 := by decide +kernel
theorem hct_9_18 : hc_tgt 9 18 = some 22 := by decide +kernel
theorem hct_9_22 : hc_tgt 9 22 = some 60 := by decide +kernel
theorem hct_9_23 : hc_tgt 9 23 = some 23 := by decide +kernel
theorem hct_9_26 : hc_tgt 9 26 = some 61 := by decide +kernel
theorem hct_9_27 : hc_tgt 9 27 = some 24 := by decide +kernel
theorem hct_9_31 : hc_tgt 9 31 = some 63 := by decide +kernel
theorem hct_9_32 : hc_tgt 9 32 = some 25 := by decide +kernel
theorem hct_9_35 : hc_tgt 9 35 = some 77 := by decide +kernel
theorem hct_9_36 : hc_tgt 9 36 = some 26 := by decide +kernel
theorem hct_9_39 : hc_tgt 9 39 = some 78 := by decide +kernel
theorem hct_9_40 : hc_tgt 9 40 = some 27 := by decide +kernel
theorem hct_9_43 : hc_tgt 9 43 = some 79 := by decide +kernel
theorem hct_9_44 : hc_tgt 9 44 = some 28 := by decide +kernel
theorem hct_9_47 : hc_tgt 9 47 = some 80 := by decide +kernel
theorem hct_9_48 : hc_tgt 9 48 = some 29 := by decide +kernel
theorem hct_9_51 : hc_tgt 9 51 = some 81 := by decide +kernel
theorem hct_9_52 : hc_tgt 9 52 = some 30 := by decide +kernel
theorem hct_9_56 : hc_tgt 9 56 = some 82 := by decide +kernel
theorem hct_9_57 : hc_tgt 9 57 = some 31 := by decide +kernel
theorem hct_9_60 : hc_tgt 9 60 = some 83 := by decide +kernel
theorem hcb_0 : hc_b 0 = cX0_init := rfl
theorem hcb_1 : hc_b 1 = cX0_add := rfl
theorem hcb_2 : hc_b 2 = cX0_sort := rfl
theorem hcb_3 : hc_b 3 = cX0_sink := rfl
theorem hcb_4 : hc_b 4 = cX0_dropDoubles := rfl
theorem hcb_5 : hc_b 5 = cX1_init := rfl
theorem hcb_6 : hc_b 6 = cX1_takeNodes := rfl
theorem hcb_7 : hc_b 7 = cX1_takeWays := rfl
theorem hcb_8 : hc_b 8 = cX1_takeWay := rfl
theorem hcb_9 : hc_b 9 = cX1_gatherCells := rfl
theorem hcb_10 : hc_b 10 = cX1_addToWay := rfl
theorem hcb_11 : hc_b 11 = cX1_turnColumns := rfl
theorem hcb_12 : hc_b 12 = cX1_turnRow := rfl
theorem hcb_13 : hc_b 13 = cX1_listSteps := rfl
theorem hcb_14 : hc_b 14 = cX1_takePieces := rfl
theorem hcb_15 : hc_b 15 = cX1_countUnlike := rfl
theorem hcb_16 : hc_b 16 = cX2_init := rfl
theorem hcb_17 : hc_b 17 = cX2_add := rfl
theorem hcb_18 : hc_b 18 = cX2_makeRoom := rfl
theorem hcb_19 : hc_b 19 = cX2_firstNotBelow := rfl
theorem hcb_20 : hc_b 20 = cX3_init := rfl
theorem hcb_21 : hc_b 21 = cX3_edge := rfl
theorem hcb_22 : hc_b 22 = cX3_point := rfl
theorem hcb_23 : hc_b 23 = cX3_clear := rfl
theorem hcb_24 : hc_b 24 = cX3_lay := rfl
theorem hcb_25 : hc_b 25 = cX3_nodes := rfl
theorem hcb_26 : hc_b 26 = cX3_node := rfl
theorem hcb_27 : hc_b 27 = cX3_find := rfl
theorem hcb_28 : hc_b 28 = cX3_pieces := rfl
theorem hcb_29 : hc_b 29 = cX3_piece := rfl
theorem hcb_30 : hc_b 30 = cX3_way := rfl
theorem hcb_31 : hc_b 31 = cX3_wayNode := rfl
theorem hcb_32 : hc_b 32 = cX3_inBounds := rfl
theorem hcb_33 : hc_b 33 = cX3_gatherHotPlaces := rfl
theorem hcb_34 : hc_b 34 = cX3_settleHotPlaces := rfl
theorem hcb_35 : hc_b 35 = cX3_heatAll := rfl
theorem hcb_36 : hc_b 36 = cX3_heat := rfl
theorem hcb_37 : hc_b 37 = cX3_heatCrossings := rfl
theorem hcb_38 : hc_b 38 = cX3_heatCrossing := rfl
theorem hcb_39 : hc_b 39 = cX3_withRoom := rfl
theorem hcb_40 : hc_b 40 = cX4_init := rfl
theorem hcb_41 : hc_b 41 = cX4_clear := rfl
theorem hcb_42 : hc_b 42 = cX4_add := rfl
theorem hcb_43 : hc_b 43 = cX5_init := rfl
theorem hcb_44 : hc_b 44 = cX5_clear := rfl
theorem hcb_45 : hc_b 45 = cX5_keyOf := rfl
theorem hcb_46 : hc_b 46 = cX5_add := rfl
theorem hcb_47 : hc_b 47 = cX5_x := rfl
theorem hcb_48 : hc_b 48 = cX5_y := rfl
theorem hcb_49 : hc_b 49 = cX5_sort := rfl
theorem hcb_50 : hc_b 50 = cX5_sink := rfl
theorem hcb_51 : hc_b 51 = cX5_find := rfl
theorem hcb_52 : hc_b 52 = cX6_side := rfl
theorem hcb_53 : hc_b 53 = cX6_sign := rfl
theorem hcb_54 : hc_b 54 = cX6_isBetween := rfl
theorem hcb_55 : hc_b 55 = cX6_meeting := rfl
theorem hcb_56 : hc_b 56 = cX6_straight := rfl
theorem hcb_57 : hc_b 57 = cX6_init := rfl
theorem hcb_58 : hc_b 58 = cX6_isIn := rfl
theorem hcb_59 : hc_b 59 = cX6_edge := rfl
theorem hcb_60 : hc_b 60 = cX6_point := rfl
theorem hcb_61 : hc_b 61 = cX6_clear := rfl
theorem hcb_62 : hc_b 62 = cX6_end := rfl
theorem hcb_63 : hc_b 63 = cX6_lay := rfl
theorem hcb_64 : hc_b 64 = cX6_become := rfl
theorem hcb_65 : hc_b 65 = cX6_crossings := rfl
theorem hcb_66 : hc_b 66 = cX6_areFar := rfl
theorem hcb_67 : hc_b 67 = cX6_below := rfl
theorem hcb_68 : hc_b 68 = cX6_cross := rfl
theorem hcb_69 : hc_b 69 = cX6_atLeast := rfl
theorem hcb_70 : hc_b 70 = cX6_atMost := rfl
theorem hcb_71 : hc_b 71 = cX6_within := rfl
theorem hcb_72 : hc_b 72 = cX6_isThrough := rfl
theorem hcb_73 : hc_b 73 = cX6_projection := rfl
theorem hcb_74 : hc_b 74 = cX6_bend := rfl
theorem hcb_75 : hc_b 75 = cX6_firstFrom := rfl
theorem hcb_76 : hc_b 76 = cX6_insert := rfl
theorem hcb_77 : hc_b 77 = cX6_nodes := rfl
theorem hcb_78 : hc_b 78 = cX6_node := rfl
theorem hcb_79 : hc_b 79 = cX6_find := rfl
theorem hcb_80 : hc_b 80 = cX6_pieces := rfl
theorem hcb_81 : hc_b 81 = cX6_piece := rfl
theorem hcb_82 : hc_b 82 = cX6_way := rfl
theorem hcb_83 : hc_b 83 = cX6_wayNode := rfl
theorem hcb_84 : hc_b 84 = cJ9_floorDiv_f86c9 := rfl
theorem hcb_85 : hc_b 85 = cJ9_abs_067f4 := rfl
theorem hcb_86 : hc_b 86 = cJ9_max_7cf53 := rfl
theorem hcb_87 : hc_b 87 = cJ9_max_f86c9 := rfl
theorem hcb_88 : hc_b 88 = cJ9_min_7cf53 := rfl
theorem hcb_89 : hc_b 89 = cJ9_min_f86c9 := rfl
theorem hcb_90 : hc_b 90 = cJ7_copyOf_59c91 := rfl
theorem hcb_91 : hc_b 91 = cJ7_copyOf_c38d5 := rfl
theorem hcb_92 : hc_b 92 = cL_law := rfl
abbrev hc_dfl0 : List hc_F := [.inl (.int 0), .inl .null]
abbrev hc_dfl1 : List hc_F := [.inl .null, .inl (.int 0), .inl (.int 0), .inl .null, .inl .null, .inl (.int 0), .inl .null, .inl .null, .inl .null]
abbrev hc_dfl2 : List hc_F := [.inl (.int 0), .inl .null, .inl .null]
abbrev hc_dfl3 : List hc_F := [.inl .null, .inl .null, .inl .null, .inl .null, .inl .null, .inl .null]
abbrev hc_dfl4 : List hc_F := [.inl .null, .inl (.int 0)]
abbrev hc_dfl5 : List hc_F := [.inl .null, .inl (.int 0)]
abbrev hc_dfl6 : List hc_F := [.inl .null, .inl .null, .inl .null, .inl .null, .inl .null, .inl .null, .inl .null, .inl .null, .inl .null, .inl .null, .inl .null, .inl .null, .inl (.long 0), .inl (.long 0), .inl (.long 0), .inl (.long 0), .inl (.int 0), .inl (.int 0)]
