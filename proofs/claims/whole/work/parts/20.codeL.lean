/-! printed by wip/whole/gen2.py -/
theorem kL_invokevirtual_7_90_2_109 (nL pc : Nat) (init : Prop) : am_okX RL nL am_mt am_df init pc (.invokevirtual 7) 90 2 109 := ⟨qX9_type, 1, rfl, oX9_type, rfl, Or.inl ⟨rfl, rfl, (am_T_in (i := 884) (by decide +kernel) rfl), iX9_type, sX9_type⟩, Or.inl rfl, fun _ => rfl, ⟨_, rfl, rfl⟩⟩
theorem kL_invokevirtual_17_95_2_109 (nL pc : Nat) (init : Prop) : am_okX RL nL am_mt am_df init pc (.invokevirtual 17) 95 2 109 := ⟨qX9_kindOf, 1, rfl, oX9_kindOf, rfl, Or.inl ⟨rfl, rfl, (am_T_in (i := 975) (by decide +kernel) rfl), iX9_kindOf, sX9_kindOf⟩, Or.inl rfl, fun _ => rfl, ⟨_, rfl, rfl⟩⟩
theorem kL_invokevirtual_22_96_4_109 (nL pc : Nat) (init : Prop) : am_okX RL nL am_mt am_df init pc (.invokevirtual 22) 96 4 109 := ⟨qX9_hasEdge, 3, rfl, oX9_hasEdge, rfl, Or.inl ⟨rfl, rfl, (am_T_in (i := 1002) (by decide +kernel) rfl), iX9_hasEdge, sX9_hasEdge⟩, Or.inl rfl, fun _ => rfl, ⟨_, rfl, rfl⟩⟩
theorem kL_invokevirtual_26_97_4_109 (nL pc : Nat) (init : Prop) : am_okX RL nL am_mt am_df init pc (.invokevirtual 26) 97 4 109 := ⟨qX9_constrain, 3, rfl, oX9_constrain, rfl, Or.inl ⟨rfl, rfl, (am_T_in (i := 1017) (by decide +kernel) rfl), iX9_constrain, sX9_constrain⟩, Or.inl rfl, fun _ => rfl, ⟨_, rfl, rfl⟩⟩
theorem kL_invokevirtual_30_98_1_109 (nL pc : Nat) (init : Prop) : am_okX RL nL am_mt am_df init pc (.invokevirtual 30) 98 1 109 := ⟨qX9_release, 0, rfl, oX9_release, rfl, Or.inl ⟨rfl, rfl, (am_T_in (i := 1029) (by decide +kernel) rfl), iX9_release, sX9_release⟩, Or.inl rfl, fun _ => rfl, ⟨_, rfl, rfl⟩⟩
theorem kL_invokevirtual_34_99_1_109 (nL pc : Nat) (init : Prop) : am_okX RL nL am_mt am_df init pc (.invokevirtual 34) 99 1 109 := ⟨qX9_readings, 0, rfl, oX9_readings, rfl, Or.inl ⟨rfl, rfl, (am_T_in (i := 1041) (by decide +kernel) rfl), iX9_readings, sX9_readings⟩, Or.inl rfl, fun _ => rfl, ⟨_, rfl, rfl⟩⟩
theorem kL_invokevirtual_37_100_3_109 (nL pc : Nat) (init : Prop) : am_okX RL nL am_mt am_df init pc (.invokevirtual 37) 100 3 109 := ⟨qX9_place, 2, rfl, oX9_place, rfl, Or.inl ⟨rfl, rfl, (am_T_in (i := 1053) (by decide +kernel) rfl), iX9_place, sX9_place⟩, Or.inl rfl, fun _ => rfl, ⟨_, rfl, rfl⟩⟩
theorem kL_invokevirtual_41_101_4_109 (nL pc : Nat) (init : Prop) : am_okX RL nL am_mt am_df init pc (.invokevirtual 41) 101 4 109 := ⟨qX9_plug, 3, rfl, oX9_plug, rfl, Or.inl ⟨rfl, rfl, (am_T_in (i := 1070) (by decide +kernel) rfl), iX9_plug, sX9_plug⟩, Or.inl rfl, fun _ => rfl, ⟨_, rfl, rfl⟩⟩
theorem kL_invokevirtual_44_102_3_109 (nL pc : Nat) (init : Prop) : am_okX RL nL am_mt am_df init pc (.invokevirtual 44) 102 3 109 := ⟨qX9_above, 2, rfl, oX9_above, rfl, Or.inl ⟨rfl, rfl, (am_T_in (i := 1077) (by decide +kernel) rfl), iX9_above, sX9_above⟩, Or.inl rfl, fun _ => rfl, ⟨_, rfl, rfl⟩⟩
theorem kL_invokevirtual_47_103_3_109 (nL pc : Nat) (init : Prop) : am_okX RL nL am_mt am_df init pc (.invokevirtual 47) 103 3 109 := ⟨qX9_polarity, 2, rfl, oX9_polarity, rfl, Or.inl ⟨rfl, rfl, (am_T_in (i := 1088) (by decide +kernel) rfl), iX9_polarity, sX9_polarity⟩, Or.inl rfl, fun _ => rfl, ⟨_, rfl, rfl⟩⟩
theorem kL_invokevirtual_50_104_3_109 (nL pc : Nat) (init : Prop) : am_okX RL nL am_mt am_df init pc (.invokevirtual 50) 104 3 109 := ⟨qX9_countBelow, 2, rfl, oX9_countBelow, rfl, Or.inl ⟨rfl, rfl, (am_T_in (i := 1095) (by decide +kernel) rfl), iX9_countBelow, sX9_countBelow⟩, Or.inl rfl, fun _ => rfl, ⟨_, rfl, rfl⟩⟩
theorem kL_invokevirtual_53_105_4_109 (nL pc : Nat) (init : Prop) : am_okX RL nL am_mt am_df init pc (.invokevirtual 53) 105 4 109 := ⟨qX9_nextBelow, 3, rfl, oX9_nextBelow, rfl, Or.inl ⟨rfl, rfl, (am_T_in (i := 1107) (by decide +kernel) rfl), iX9_nextBelow, sX9_nextBelow⟩, Or.inl rfl, fun _ => rfl, ⟨_, rfl, rfl⟩⟩
theorem kL_invokevirtual_56_106_3_109 (nL pc : Nat) (init : Prop) : am_okX RL nL am_mt am_df init pc (.invokevirtual 56) 106 3 109 := ⟨qX9_formulaChar, 2, rfl, oX9_formulaChar, rfl, Or.inl ⟨rfl, rfl, (am_T_in (i := 1119) (by decide +kernel) rfl), iX9_formulaChar, sX9_formulaChar⟩, Or.inl rfl, fun _ => rfl, ⟨_, rfl, rfl⟩⟩
theorem kL_invokevirtual_59_107_3_109 (nL pc : Nat) (init : Prop) : am_okX RL nL am_mt am_df init pc (.invokevirtual 59) 107 3 109 := ⟨qX9_entails, 2, rfl, oX9_entails, rfl, Or.inl ⟨rfl, rfl, (am_T_in (i := 1151) (by decide +kernel) rfl), iX9_entails, sX9_entails⟩, Or.inl rfl, fun _ => rfl, ⟨_, rfl, rfl⟩⟩
theorem kL_invokevirtual_63_108_2_109 (nL pc : Nat) (init : Prop) : am_okX RL nL am_mt am_df init pc (.invokevirtual 63) 108 2 109 := ⟨qX9_classOf, 1, rfl, oX9_classOf, rfl, Or.inl ⟨rfl, rfl, (am_T_in (i := 1163) (by decide +kernel) rfl), iX9_classOf, sX9_classOf⟩, Or.inl rfl, fun _ => rfl, ⟨_, rfl, rfl⟩⟩
theorem kL_invokevirtual_66_109_1_109 (nL pc : Nat) (init : Prop) : am_okX RL nL am_mt am_df init pc (.invokevirtual 66) 109 1 109 := ⟨qX9_classes, 0, rfl, oX9_classes, rfl, Or.inl ⟨rfl, rfl, (am_T_in (i := 1170) (by decide +kernel) rfl), iX9_classes, sX9_classes⟩, Or.inl rfl, fun _ => rfl, ⟨_, rfl, rfl⟩⟩
theorem kL_invokevirtual_69_110_2_109 (nL pc : Nat) (init : Prop) : am_okX RL nL am_mt am_df init pc (.invokevirtual 69) 110 2 109 := ⟨qX9_isWeak, 1, rfl, oX9_isWeak, rfl, Or.inl ⟨rfl, rfl, (am_T_in (i := 1181) (by decide +kernel) rfl), iX9_isWeak, sX9_isWeak⟩, Or.inl rfl, fun _ => rfl, ⟨_, rfl, rfl⟩⟩
theorem kL_invokevirtual_73_111_1_109 (nL pc : Nat) (init : Prop) : am_okX RL nL am_mt am_df init pc (.invokevirtual 73) 111 1 109 := ⟨qX9_strongest, 0, rfl, oX9_strongest, rfl, Or.inl ⟨rfl, rfl, (am_T_in (i := 1188) (by decide +kernel) rfl), iX9_strongest, sX9_strongest⟩, Or.inl rfl, fun _ => rfl, ⟨_, rfl, rfl⟩⟩
theorem kL_invokevirtual_76_112_2_109 (nL pc : Nat) (init : Prop) : am_okX RL nL am_mt am_df init pc (.invokevirtual 76) 112 2 109 := ⟨qX9_setDomain, 1, rfl, oX9_setDomain, rfl, Or.inl ⟨rfl, rfl, (am_T_in (i := 1195) (by decide +kernel) rfl), iX9_setDomain, sX9_setDomain⟩, Or.inl rfl, fun _ => rfl, ⟨_, rfl, rfl⟩⟩
theorem kL_invokevirtual_79_114_2_109 (nL pc : Nat) (init : Prop) : am_okX RL nL am_mt am_df init pc (.invokevirtual 79) 114 2 109 := ⟨qX9_arity, 1, rfl, oX9_arity, rfl, Or.inl ⟨rfl, rfl, (am_T_in (i := 1203) (by decide +kernel) rfl), iX9_arity, sX9_arity⟩, Or.inl rfl, fun _ => rfl, ⟨_, rfl, rfl⟩⟩
theorem kL_invokevirtual_82_115_5_109 (nL pc : Nat) (init : Prop) : am_okX RL nL am_mt am_df init pc (.invokevirtual 82) 115 5 109 := ⟨qX9_setFact, 4, rfl, oX9_setFact, rfl, Or.inl ⟨rfl, rfl, (am_T_in (i := 1215) (by decide +kernel) rfl), iX9_setFact, sX9_setFact⟩, Or.inl rfl, fun _ => rfl, ⟨_, rfl, rfl⟩⟩
theorem kL_invokevirtual_86_116_2_109 (nL pc : Nat) (init : Prop) : am_okX RL nL am_mt am_df init pc (.invokevirtual 86) 116 2 109 := ⟨qX9_truth, 1, rfl, oX9_truth, rfl, Or.inl ⟨rfl, rfl, (am_T_in (i := 1227) (by decide +kernel) rfl), iX9_truth, sX9_truth⟩, Or.inl rfl, fun _ => rfl, ⟨_, rfl, rfl⟩⟩
theorem kL_invokevirtual_89_117_1_109 (nL pc : Nat) (init : Prop) : am_okX RL nL am_mt am_df init pc (.invokevirtual 89) 117 1 109 := ⟨qX9_trueReadings, 0, rfl, oX9_trueReadings, rfl, Or.inl ⟨rfl, rfl, (am_T_in (i := 1234) (by decide +kernel) rfl), iX9_trueReadings, sX9_trueReadings⟩, Or.inl rfl, fun _ => rfl, ⟨_, rfl, rfl⟩⟩
theorem kL_invokevirtual_92_118_2_109 (nL pc : Nat) (init : Prop) : am_okX RL nL am_mt am_df init pc (.invokevirtual 92) 118 2 109 := ⟨qX9_nextDifferent, 1, rfl, oX9_nextDifferent, rfl, Or.inl ⟨rfl, rfl, (am_T_in (i := 1241) (by decide +kernel) rfl), iX9_nextDifferent, sX9_nextDifferent⟩, Or.inl rfl, fun _ => rfl, ⟨_, rfl, rfl⟩⟩
def bL_type_0 : List am_I := [(0, .aload_n 2, 0, 0, 0), (1, .iconst 0, 0, 0, 0), (2, .aload_n 0, 0, 0, 0), (3, .iload_n 1, 0, 0, 0), (4, .invokevirtual 7, 90, 2, 109), (7, .i2l, 0, 0, 0), (8, .lastore, 0, 0, 0), (9, .goto 9, 18, 0, 0)]
def bL_type_13 : List am_I := [(13, .iconst 1, 0, 0, 0), (14, .ireturn, 0, 0, 0)]
def bL_type_16 : List am_I := [(16, .iconst 2, 0, 0, 0), (17, .ireturn, 0, 0, 0)]
def bL_type_18 : List am_I := [(18, .iconst 0, 0, 0, 0), (19, .ireturn, 0, 0, 0)]
def bL_type : List (Nat × List am_I) := [(0, bL_type_0), (13, bL_type_13), (16, bL_type_16), (18, bL_type_18)]
theorem kL_type : am_Code am_mt am_df qL_type (am_blk bL_type) := am_code_of rfl (by decide +kernel) (And.intro (And.intro (kL_invokevirtual_7_90_2_109 _ _ _) trivial) (And.intro (trivial) (And.intro (trivial) (And.intro (trivial) (trivial)))))
theorem nL_type : am_noT (am_blk bL_type) := am_noT_of (by decide +kernel)
def bL_kindOf_0 : List am_I := [(0, .aload_n 2, 0, 0, 0), (1, .iconst 0, 0, 0, 0), (2, .aload_n 0, 0, 0, 0), (3, .iload_n 1, 0, 0, 0), (4, .invokevirtual 17, 95, 2, 109), (7, .i2l, 0, 0, 0), (8, .lastore, 0, 0, 0), (9, .goto 6, 15, 0, 0)]
def bL_kindOf_13 : List am_I := [(13, .iconst 1, 0, 0, 0), (14, .ireturn, 0, 0, 0)]
def bL_kindOf_15 : List am_I := [(15, .iconst 0, 0, 0, 0), (16, .ireturn, 0, 0, 0)]
def bL_kindOf : List (Nat × List am_I) := [(0, bL_kindOf_0), (13, bL_kindOf_13), (15, bL_kindOf_15)]
theorem kL_kindOf : am_Code am_mt am_df qL_kindOf (am_blk bL_kindOf) := am_code_of rfl (by decide +kernel) (And.intro (And.intro (kL_invokevirtual_17_95_2_109 _ _ _) trivial) (And.intro (trivial) (And.intro (trivial) (trivial))))
theorem nL_kindOf : am_noT (am_blk bL_kindOf) := am_noT_of (by decide +kernel)
def bL_hasEdge_0 : List am_I := [(0, .aload 4, 0, 0, 0), (2, .iconst 0, 0, 0, 0), (3, .aload_n 0, 0, 0, 0), (4, .iload_n 1, 0, 0, 0), (5, .iload_n 2, 0, 0, 0), (6, .iload_n 3, 0, 0, 0), (7, .invokevirtual 22, 96, 4, 109), (10, .ifCond .eq 7, 17, 0, 0), (13, .lconst 1, 0, 0, 0), (14, .goto 4, 18, 0, 0)]
def bL_hasEdge_17 : List am_I := [(17, .lconst 0, 0, 0, 0), (18, .swap, 0, 0, 0)]
def bL_hasEdge_18 : List am_I := [(18, .lastore, 0, 0, 0), (19, .goto 7, 26, 0, 0)]
def bL_hasEdge_24 : List am_I := [(24, .iconst 1, 0, 0, 0), (25, .ireturn, 0, 0, 0)]
def bL_hasEdge_26 : List am_I := [(26, .iconst 0, 0, 0, 0), (27, .ireturn, 0, 0, 0)]
def bL_hasEdge : List (Nat × List am_I) := [(0, bL_hasEdge_0), (17, bL_hasEdge_17), (18, bL_hasEdge_18), (24, bL_hasEdge_24), (26, bL_hasEdge_26)]
theorem kL_hasEdge : am_Code am_mt am_df qL_hasEdge (am_blk bL_hasEdge) := am_code_of rfl (by decide +kernel) (And.intro (And.intro (kL_invokevirtual_22_96_4_109 _ _ _) trivial) (And.intro (trivial) (And.intro (trivial) (And.intro (trivial) (And.intro (trivial) (trivial))))))
theorem nL_hasEdge : am_noT (am_blk bL_hasEdge) := am_noT_of (by decide +kernel)
def bL_constrain_0 : List am_I := [(0, .aload 4, 0, 0, 0), (2, .iconst 0, 0, 0, 0), (3, .aload_n 0, 0, 0, 0), (4, .iload_n 1, 0, 0, 0), (5, .iload_n 2, 0, 0, 0), (6, .iload_n 3, 0, 0, 0), (7, .invokevirtual 26, 97, 4, 109), (10, .i2l, 0, 0, 0), (11, .lastore, 0, 0, 0), (12, .goto 11, 23, 0, 0)]
def bL_constrain_17 : List am_I := [(17, .iconst 1, 0, 0, 0), (18, .ireturn, 0, 0, 0)]
def bL_constrain_21 : List am_I := [(21, .iconst 2, 0, 0, 0), (22, .ireturn, 0, 0, 0)]
def bL_constrain_23 : List am_I := [(23, .iconst 0, 0, 0, 0), (24, .ireturn, 0, 0, 0)]
def bL_constrain : List (Nat × List am_I) := [(0, bL_constrain_0), (17, bL_constrain_17), (21, bL_constrain_21), (23, bL_constrain_23)]
theorem kL_constrain : am_Code am_mt am_df qL_constrain (am_blk bL_constrain) := am_code_of rfl (by decide +kernel) (And.intro (And.intro (kL_invokevirtual_26_97_4_109 _ _ _) trivial) (And.intro (trivial) (And.intro (trivial) (And.intro (trivial) (trivial)))))
theorem nL_constrain : am_noT (am_blk bL_constrain) := am_noT_of (by decide +kernel)
def bL_release_0 : List am_I := [(0, .aload_n 1, 0, 0, 0), (1, .iconst 0, 0, 0, 0), (2, .aload_n 0, 0, 0, 0), (3, .invokevirtual 30, 98, 1, 109), (6, .i2l, 0, 0, 0), (7, .lastore, 0, 0, 0), (8, .goto 6, 14, 0, 0)]
def bL_release_12 : List am_I := [(12, .iconst 1, 0, 0, 0), (13, .ireturn, 0, 0, 0)]
def bL_release_14 : List am_I := [(14, .iconst 0, 0, 0, 0), (15, .ireturn, 0, 0, 0)]
def bL_release : List (Nat × List am_I) := [(0, bL_release_0), (12, bL_release_12), (14, bL_release_14)]
theorem kL_release : am_Code am_mt am_df qL_release (am_blk bL_release) := am_code_of rfl (by decide +kernel) (And.intro (And.intro (kL_invokevirtual_30_98_1_109 _ _ _) trivial) (And.intro (trivial) (And.intro (trivial) (trivial))))
theorem nL_release : am_noT (am_blk bL_release) := am_noT_of (by decide +kernel)
def bL_readings_0 : List am_I := [(0, .aload_n 1, 0, 0, 0), (1, .iconst 0, 0, 0, 0), (2, .aload_n 0, 0, 0, 0), (3, .invokevirtual 34, 99, 1, 109), (6, .i2l, 0, 0, 0), (7, .lastore, 0, 0, 0), (8, .goto 6, 14, 0, 0)]
def bL_readings_12 : List am_I := [(12, .iconst 1, 0, 0, 0), (13, .ireturn, 0, 0, 0)]
def bL_readings_14 : List am_I := [(14, .iconst 0, 0, 0, 0), (15, .ireturn, 0, 0, 0)]
def bL_readings : List (Nat × List am_I) := [(0, bL_readings_0), (12, bL_readings_12), (14, bL_readings_14)]
theorem kL_readings : am_Code am_mt am_df qL_readings (am_blk bL_readings) := am_code_of rfl (by decide +kernel) (And.intro (And.intro (kL_invokevirtual_34_99_1_109 _ _ _) trivial) (And.intro (trivial) (And.intro (trivial) (trivial))))
theorem nL_readings : am_noT (am_blk bL_readings) := am_noT_of (by decide +kernel)
def bL_place_0 : List am_I := [(0, .aload_n 3, 0, 0, 0), (1, .iconst 0, 0, 0, 0), (2, .aload_n 0, 0, 0, 0), (3, .iload_n 1, 0, 0, 0), (4, .iload_n 2, 0, 0, 0), (5, .invokevirtual 37, 100, 3, 109), (8, .i2l, 0, 0, 0), (9, .lastore, 0, 0, 0), (10, .goto 7, 17, 0, 0)]
def bL_place_15 : List am_I := [(15, .iconst 1, 0, 0, 0), (16, .ireturn, 0, 0, 0)]
def bL_place_17 : List am_I := [(17, .iconst 0, 0, 0, 0), (18, .ireturn, 0, 0, 0)]
def bL_place : List (Nat × List am_I) := [(0, bL_place_0), (15, bL_place_15), (17, bL_place_17)]
theorem kL_place : am_Code am_mt am_df qL_place (am_blk bL_place) := am_code_of rfl (by decide +kernel) (And.intro (And.intro (kL_invokevirtual_37_100_3_109 _ _ _) trivial) (And.intro (trivial) (And.intro (trivial) (trivial))))
theorem nL_place : am_noT (am_blk bL_place) := am_noT_of (by decide +kernel)
def bL_plug_0 : List am_I := [(0, .aload 4, 0, 0, 0), (2, .iconst 0, 0, 0, 0), (3, .aload_n 0, 0, 0, 0), (4, .iload_n 1, 0, 0, 0), (5, .iload_n 2, 0, 0, 0), (6, .iload_n 3, 0, 0, 0), (7, .invokevirtual 41, 101, 4, 109), (10, .i2l, 0, 0, 0), (11, .lastore, 0, 0, 0), (12, .goto 7, 19, 0, 0)]
def bL_plug_17 : List am_I := [(17, .iconst 1, 0, 0, 0), (18, .ireturn, 0, 0, 0)]
def bL_plug_19 : List am_I := [(19, .iconst 0, 0, 0, 0), (20, .ireturn, 0, 0, 0)]
def bL_plug : List (Nat × List am_I) := [(0, bL_plug_0), (17, bL_plug_17), (19, bL_plug_19)]
theorem kL_plug : am_Code am_mt am_df qL_plug (am_blk bL_plug) := am_code_of rfl (by decide +kernel) (And.intro (And.intro (kL_invokevirtual_41_101_4_109 _ _ _) trivial) (And.intro (trivial) (And.intro (trivial) (trivial))))
theorem nL_plug : am_noT (am_blk bL_plug) := am_noT_of (by decide +kernel)
def bL_above_0 : List am_I := [(0, .aload_n 3, 0, 0, 0), (1, .iconst 0, 0, 0, 0), (2, .aload_n 0, 0, 0, 0), (3, .iload_n 1, 0, 0, 0), (4, .iload_n 2, 0, 0, 0), (5, .invokevirtual 44, 102, 3, 109), (8, .i2l, 0, 0, 0), (9, .lastore, 0, 0, 0), (10, .goto 7, 17, 0, 0)]
def bL_above_15 : List am_I := [(15, .iconst 1, 0, 0, 0), (16, .ireturn, 0, 0, 0)]
def bL_above_17 : List am_I := [(17, .iconst 0, 0, 0, 0), (18, .ireturn, 0, 0, 0)]
def bL_above : List (Nat × List am_I) := [(0, bL_above_0), (15, bL_above_15), (17, bL_above_17)]
theorem kL_above : am_Code am_mt am_df qL_above (am_blk bL_above) := am_code_of rfl (by decide +kernel) (And.intro (And.intro (kL_invokevirtual_44_102_3_109 _ _ _) trivial) (And.intro (trivial) (And.intro (trivial) (trivial))))
theorem nL_above : am_noT (am_blk bL_above) := am_noT_of (by decide +kernel)
def bL_polarity_0 : List am_I := [(0, .aload_n 3, 0, 0, 0), (1, .iconst 0, 0, 0, 0), (2, .aload_n 0, 0, 0, 0), (3, .iload_n 1, 0, 0, 0), (4, .iload_n 2, 0, 0, 0), (5, .invokevirtual 47, 103, 3, 109), (8, .i2l, 0, 0, 0), (9, .lastore, 0, 0, 0), (10, .goto 7, 17, 0, 0)]
def bL_polarity_15 : List am_I := [(15, .iconst 1, 0, 0, 0), (16, .ireturn, 0, 0, 0)]
def bL_polarity_17 : List am_I := [(17, .iconst 0, 0, 0, 0), (18, .ireturn, 0, 0, 0)]
def bL_polarity : List (Nat × List am_I) := [(0, bL_polarity_0), (15, bL_polarity_15), (17, bL_polarity_17)]
theorem kL_polarity : am_Code am_mt am_df qL_polarity (am_blk bL_polarity) := am_code_of rfl (by decide +kernel) (And.intro (And.intro (kL_invokevirtual_47_103_3_109 _ _ _) trivial) (And.intro (trivial) (And.intro (trivial) (trivial))))
theorem nL_polarity : am_noT (am_blk bL_polarity) := am_noT_of (by decide +kernel)
def bL_countBelow_0 : List am_I := [(0, .aload_n 3, 0, 0, 0), (1, .iconst 0, 0, 0, 0), (2, .aload_n 0, 0, 0, 0), (3, .iload_n 1, 0, 0, 0), (4, .iload_n 2, 0, 0, 0), (5, .invokevirtual 50, 104, 3, 109), (8, .i2l, 0, 0, 0), (9, .lastore, 0, 0, 0), (10, .goto 7, 17, 0, 0)]
def bL_countBelow_15 : List am_I := [(15, .iconst 1, 0, 0, 0), (16, .ireturn, 0, 0, 0)]
def bL_countBelow_17 : List am_I := [(17, .iconst 0, 0, 0, 0), (18, .ireturn, 0, 0, 0)]
def bL_countBelow : List (Nat × List am_I) := [(0, bL_countBelow_0), (15, bL_countBelow_15), (17, bL_countBelow_17)]
theorem kL_countBelow : am_Code am_mt am_df qL_countBelow (am_blk bL_countBelow) := am_code_of rfl (by decide +kernel) (And.intro (And.intro (kL_invokevirtual_50_104_3_109 _ _ _) trivial) (And.intro (trivial) (And.intro (trivial) (trivial))))
theorem nL_countBelow : am_noT (am_blk bL_countBelow) := am_noT_of (by decide +kernel)
def bL_nextBelow_0 : List am_I := [(0, .aload 4, 0, 0, 0), (2, .iconst 0, 0, 0, 0), (3, .aload_n 0, 0, 0, 0), (4, .iload_n 1, 0, 0, 0), (5, .iload_n 2, 0, 0, 0), (6, .iload_n 3, 0, 0, 0), (7, .invokevirtual 53, 105, 4, 109), (10, .i2l, 0, 0, 0), (11, .lastore, 0, 0, 0), (12, .goto 7, 19, 0, 0)]
def bL_nextBelow_17 : List am_I := [(17, .iconst 1, 0, 0, 0), (18, .ireturn, 0, 0, 0)]
def bL_nextBelow_19 : List am_I := [(19, .iconst 0, 0, 0, 0), (20, .ireturn, 0, 0, 0)]
def bL_nextBelow : List (Nat × List am_I) := [(0, bL_nextBelow_0), (17, bL_nextBelow_17), (19, bL_nextBelow_19)]
theorem kL_nextBelow : am_Code am_mt am_df qL_nextBelow (am_blk bL_nextBelow) := am_code_of rfl (by decide +kernel) (And.intro (And.intro (kL_invokevirtual_53_105_4_109 _ _ _) trivial) (And.intro (trivial) (And.intro (trivial) (trivial))))
theorem nL_nextBelow : am_noT (am_blk bL_nextBelow) := am_noT_of (by decide +kernel)
def bL_formulaChar_0 : List am_I := [(0, .aload_n 3, 0, 0, 0), (1, .iconst 0, 0, 0, 0), (2, .aload_n 0, 0, 0, 0), (3, .iload_n 1, 0, 0, 0), (4, .iload_n 2, 0, 0, 0), (5, .invokevirtual 56, 106, 3, 109), (8, .i2l, 0, 0, 0), (9, .lastore, 0, 0, 0), (10, .goto 7, 17, 0, 0)]
def bL_formulaChar_15 : List am_I := [(15, .iconst 1, 0, 0, 0), (16, .ireturn, 0, 0, 0)]
def bL_formulaChar_17 : List am_I := [(17, .iconst 0, 0, 0, 0), (18, .ireturn, 0, 0, 0)]
def bL_formulaChar : List (Nat × List am_I) := [(0, bL_formulaChar_0), (15, bL_formulaChar_15), (17, bL_formulaChar_17)]
theorem kL_formulaChar : am_Code am_mt am_df qL_formulaChar (am_blk bL_formulaChar) := am_code_of rfl (by decide +kernel) (And.intro (And.intro (kL_invokevirtual_56_106_3_109 _ _ _) trivial) (And.intro (trivial) (And.intro (trivial) (trivial))))
theorem nL_formulaChar : am_noT (am_blk bL_formulaChar) := am_noT_of (by decide +kernel)
def bL_entails_0 : List am_I := [(0, .aload_n 3, 0, 0, 0), (1, .iconst 0, 0, 0, 0), (2, .aload_n 0, 0, 0, 0), (3, .iload_n 1, 0, 0, 0), (4, .iload_n 2, 0, 0, 0), (5, .invokevirtual 59, 107, 3, 109), (8, .ifCond .eq 7, 15, 0, 0), (11, .lconst 1, 0, 0, 0), (12, .goto 4, 16, 0, 0)]
def bL_entails_15 : List am_I := [(15, .lconst 0, 0, 0, 0), (16, .swap, 0, 0, 0)]
def bL_entails_16 : List am_I := [(16, .lastore, 0, 0, 0), (17, .goto 7, 24, 0, 0)]
def bL_entails_22 : List am_I := [(22, .iconst 1, 0, 0, 0), (23, .ireturn, 0, 0, 0)]
def bL_entails_24 : List am_I := [(24, .iconst 0, 0, 0, 0), (25, .ireturn, 0, 0, 0)]
def bL_entails : List (Nat × List am_I) := [(0, bL_entails_0), (15, bL_entails_15), (16, bL_entails_16), (22, bL_entails_22), (24, bL_entails_24)]
theorem kL_entails : am_Code am_mt am_df qL_entails (am_blk bL_entails) := am_code_of rfl (by decide +kernel) (And.intro (And.intro (kL_invokevirtual_59_107_3_109 _ _ _) trivial) (And.intro (trivial) (And.intro (trivial) (And.intro (trivial) (And.intro (trivial) (trivial))))))
theorem nL_entails : am_noT (am_blk bL_entails) := am_noT_of (by decide +kernel)
def bL_classOf_0 : List am_I := [(0, .aload_n 2, 0, 0, 0), (1, .iconst 0, 0, 0, 0), (2, .aload_n 0, 0, 0, 0), (3, .iload_n 1, 0, 0, 0), (4, .invokevirtual 63, 108, 2, 109), (7, .i2l, 0, 0, 0), (8, .lastore, 0, 0, 0), (9, .goto 6, 15, 0, 0)]
def bL_classOf_13 : List am_I := [(13, .iconst 1, 0, 0, 0), (14, .ireturn, 0, 0, 0)]
def bL_classOf_15 : List am_I := [(15, .iconst 0, 0, 0, 0), (16, .ireturn, 0, 0, 0)]
def bL_classOf : List (Nat × List am_I) := [(0, bL_classOf_0), (13, bL_classOf_13), (15, bL_classOf_15)]
theorem kL_classOf : am_Code am_mt am_df qL_classOf (am_blk bL_classOf) := am_code_of rfl (by decide +kernel) (And.intro (And.intro (kL_invokevirtual_63_108_2_109 _ _ _) trivial) (And.intro (trivial) (And.intro (trivial) (trivial))))
theorem nL_classOf : am_noT (am_blk bL_classOf) := am_noT_of (by decide +kernel)
def bL_classes_0 : List am_I := [(0, .aload_n 1, 0, 0, 0), (1, .iconst 0, 0, 0, 0), (2, .aload_n 0, 0, 0, 0), (3, .invokevirtual 66, 109, 1, 109), (6, .i2l, 0, 0, 0), (7, .lastore, 0, 0, 0), (8, .goto 6, 14, 0, 0)]
def bL_classes_12 : List am_I := [(12, .iconst 1, 0, 0, 0), (13, .ireturn, 0, 0, 0)]
def bL_classes_14 : List am_I := [(14, .iconst 0, 0, 0, 0), (15, .ireturn, 0, 0, 0)]
def bL_classes : List (Nat × List am_I) := [(0, bL_classes_0), (12, bL_classes_12), (14, bL_classes_14)]
theorem kL_classes : am_Code am_mt am_df qL_classes (am_blk bL_classes) := am_code_of rfl (by decide +kernel) (And.intro (And.intro (kL_invokevirtual_66_109_1_109 _ _ _) trivial) (And.intro (trivial) (And.intro (trivial) (trivial))))
theorem nL_classes : am_noT (am_blk bL_classes) := am_noT_of (by decide +kernel)
def bL_isWeak_0 : List am_I := [(0, .aload_n 2, 0, 0, 0), (1, .iconst 0, 0, 0, 0), (2, .aload_n 0, 0, 0, 0), (3, .iload_n 1, 0, 0, 0), (4, .invokevirtual 69, 110, 2, 109), (7, .ifCond .eq 7, 14, 0, 0), (10, .lconst 1, 0, 0, 0), (11, .goto 4, 15, 0, 0)]
def bL_isWeak_14 : List am_I := [(14, .lconst 0, 0, 0, 0), (15, .swap, 0, 0, 0)]
def bL_isWeak_15 : List am_I := [(15, .lastore, 0, 0, 0), (16, .goto 6, 22, 0, 0)]
def bL_isWeak_20 : List am_I := [(20, .iconst 1, 0, 0, 0), (21, .ireturn, 0, 0, 0)]
def bL_isWeak_22 : List am_I := [(22, .iconst 0, 0, 0, 0), (23, .ireturn, 0, 0, 0)]
def bL_isWeak : List (Nat × List am_I) := [(0, bL_isWeak_0), (14, bL_isWeak_14), (15, bL_isWeak_15), (20, bL_isWeak_20), (22, bL_isWeak_22)]
theorem kL_isWeak : am_Code am_mt am_df qL_isWeak (am_blk bL_isWeak) := am_code_of rfl (by decide +kernel) (And.intro (And.intro (kL_invokevirtual_69_110_2_109 _ _ _) trivial) (And.intro (trivial) (And.intro (trivial) (And.intro (trivial) (And.intro (trivial) (trivial))))))
theorem nL_isWeak : am_noT (am_blk bL_isWeak) := am_noT_of (by decide +kernel)
def bL_strongest_0 : List am_I := [(0, .aload_n 1, 0, 0, 0), (1, .iconst 0, 0, 0, 0), (2, .aload_n 0, 0, 0, 0), (3, .invokevirtual 73, 111, 1, 109), (6, .i2l, 0, 0, 0), (7, .lastore, 0, 0, 0), (8, .goto 6, 14, 0, 0)]
def bL_strongest_12 : List am_I := [(12, .iconst 1, 0, 0, 0), (13, .ireturn, 0, 0, 0)]
def bL_strongest_14 : List am_I := [(14, .iconst 0, 0, 0, 0), (15, .ireturn, 0, 0, 0)]
def bL_strongest : List (Nat × List am_I) := [(0, bL_strongest_0), (12, bL_strongest_12), (14, bL_strongest_14)]
theorem kL_strongest : am_Code am_mt am_df qL_strongest (am_blk bL_strongest) := am_code_of rfl (by decide +kernel) (And.intro (And.intro (kL_invokevirtual_73_111_1_109 _ _ _) trivial) (And.intro (trivial) (And.intro (trivial) (trivial))))
theorem nL_strongest : am_noT (am_blk bL_strongest) := am_noT_of (by decide +kernel)
def bL_setDomain_0 : List am_I := [(0, .aload_n 2, 0, 0, 0), (1, .iconst 0, 0, 0, 0), (2, .aload_n 0, 0, 0, 0), (3, .iload_n 1, 0, 0, 0), (4, .invokevirtual 76, 112, 2, 109), (7, .i2l, 0, 0, 0), (8, .lastore, 0, 0, 0), (9, .goto 6, 15, 0, 0)]
def bL_setDomain_13 : List am_I := [(13, .iconst 1, 0, 0, 0), (14, .ireturn, 0, 0, 0)]
def bL_setDomain_15 : List am_I := [(15, .iconst 0, 0, 0, 0), (16, .ireturn, 0, 0, 0)]
def bL_setDomain : List (Nat × List am_I) := [(0, bL_setDomain_0), (13, bL_setDomain_13), (15, bL_setDomain_15)]
theorem kL_setDomain : am_Code am_mt am_df qL_setDomain (am_blk bL_setDomain) := am_code_of rfl (by decide +kernel) (And.intro (And.intro (kL_invokevirtual_76_112_2_109 _ _ _) trivial) (And.intro (trivial) (And.intro (trivial) (trivial))))
theorem nL_setDomain : am_noT (am_blk bL_setDomain) := am_noT_of (by decide +kernel)
def bL_arity_0 : List am_I := [(0, .aload_n 2, 0, 0, 0), (1, .iconst 0, 0, 0, 0), (2, .aload_n 0, 0, 0, 0), (3, .iload_n 1, 0, 0, 0), (4, .invokevirtual 79, 114, 2, 109), (7, .i2l, 0, 0, 0), (8, .lastore, 0, 0, 0), (9, .goto 6, 15, 0, 0)]
def bL_arity_13 : List am_I := [(13, .iconst 1, 0, 0, 0), (14, .ireturn, 0, 0, 0)]
def bL_arity_15 : List am_I := [(15, .iconst 0, 0, 0, 0), (16, .ireturn, 0, 0, 0)]
def bL_arity : List (Nat × List am_I) := [(0, bL_arity_0), (13, bL_arity_13), (15, bL_arity_15)]
theorem kL_arity : am_Code am_mt am_df qL_arity (am_blk bL_arity) := am_code_of rfl (by decide +kernel) (And.intro (And.intro (kL_invokevirtual_79_114_2_109 _ _ _) trivial) (And.intro (trivial) (And.intro (trivial) (trivial))))
theorem nL_arity : am_noT (am_blk bL_arity) := am_noT_of (by decide +kernel)
def bL_setFact_0 : List am_I := [(0, .aload 5, 0, 0, 0), (2, .iconst 0, 0, 0, 0), (3, .aload_n 0, 0, 0, 0), (4, .iload_n 1, 0, 0, 0), (5, .iload_n 2, 0, 0, 0), (6, .iload_n 3, 0, 0, 0), (7, .iload 4, 0, 0, 0), (9, .invokevirtual 82, 115, 5, 109), (12, .ifCond .eq 7, 19, 0, 0), (15, .lconst 1, 0, 0, 0), (16, .goto 4, 20, 0, 0)]
def bL_setFact_19 : List am_I := [(19, .lconst 0, 0, 0, 0), (20, .swap, 0, 0, 0)]
def bL_setFact_20 : List am_I := [(20, .lastore, 0, 0, 0), (21, .goto 11, 32, 0, 0)]
def bL_setFact_26 : List am_I := [(26, .iconst 1, 0, 0, 0), (27, .ireturn, 0, 0, 0)]
def bL_setFact_30 : List am_I := [(30, .iconst 2, 0, 0, 0), (31, .ireturn, 0, 0, 0)]
def bL_setFact_32 : List am_I := [(32, .iconst 0, 0, 0, 0), (33, .ireturn, 0, 0, 0)]
def bL_setFact : List (Nat × List am_I) := [(0, bL_setFact_0), (19, bL_setFact_19), (20, bL_setFact_20), (26, bL_setFact_26), (30, bL_setFact_30), (32, bL_setFact_32)]
theorem kL_setFact : am_Code am_mt am_df qL_setFact (am_blk bL_setFact) := am_code_of rfl (by decide +kernel) (And.intro (And.intro (kL_invokevirtual_82_115_5_109 _ _ _) trivial) (And.intro (trivial) (And.intro (trivial) (And.intro (trivial) (And.intro (trivial) (And.intro (trivial) (trivial)))))))
theorem nL_setFact : am_noT (am_blk bL_setFact) := am_noT_of (by decide +kernel)
def bL_truth_0 : List am_I := [(0, .aload_n 2, 0, 0, 0), (1, .iconst 0, 0, 0, 0), (2, .aload_n 0, 0, 0, 0), (3, .iload_n 1, 0, 0, 0), (4, .invokevirtual 86, 116, 2, 109), (7, .ifCond .eq 7, 14, 0, 0), (10, .lconst 1, 0, 0, 0), (11, .goto 4, 15, 0, 0)]
def bL_truth_14 : List am_I := [(14, .lconst 0, 0, 0, 0), (15, .swap, 0, 0, 0)]
def bL_truth_15 : List am_I := [(15, .lastore, 0, 0, 0), (16, .goto 6, 22, 0, 0)]
def bL_truth_20 : List am_I := [(20, .iconst 1, 0, 0, 0), (21, .ireturn, 0, 0, 0)]
def bL_truth_22 : List am_I := [(22, .iconst 0, 0, 0, 0), (23, .ireturn, 0, 0, 0)]
def bL_truth : List (Nat × List am_I) := [(0, bL_truth_0), (14, bL_truth_14), (15, bL_truth_15), (20, bL_truth_20), (22, bL_truth_22)]
theorem kL_truth : am_Code am_mt am_df qL_truth (am_blk bL_truth) := am_code_of rfl (by decide +kernel) (And.intro (And.intro (kL_invokevirtual_86_116_2_109 _ _ _) trivial) (And.intro (trivial) (And.intro (trivial) (And.intro (trivial) (And.intro (trivial) (trivial))))))
theorem nL_truth : am_noT (am_blk bL_truth) := am_noT_of (by decide +kernel)
def bL_trueReadings_0 : List am_I := [(0, .aload_n 1, 0, 0, 0), (1, .iconst 0, 0, 0, 0), (2, .aload_n 0, 0, 0, 0), (3, .invokevirtual 89, 117, 1, 109), (6, .i2l, 0, 0, 0), (7, .lastore, 0, 0, 0), (8, .goto 6, 14, 0, 0)]
def bL_trueReadings_12 : List am_I := [(12, .iconst 1, 0, 0, 0), (13, .ireturn, 0, 0, 0)]
def bL_trueReadings_14 : List am_I := [(14, .iconst 0, 0, 0, 0), (15, .ireturn, 0, 0, 0)]
def bL_trueReadings : List (Nat × List am_I) := [(0, bL_trueReadings_0), (12, bL_trueReadings_12), (14, bL_trueReadings_14)]
theorem kL_trueReadings : am_Code am_mt am_df qL_trueReadings (am_blk bL_trueReadings) := am_code_of rfl (by decide +kernel) (And.intro (And.intro (kL_invokevirtual_89_117_1_109 _ _ _) trivial) (And.intro (trivial) (And.intro (trivial) (trivial))))
theorem nL_trueReadings : am_noT (am_blk bL_trueReadings) := am_noT_of (by decide +kernel)
def bL_nextDifferent_0 : List am_I := [(0, .aload_n 2, 0, 0, 0), (1, .iconst 0, 0, 0, 0), (2, .aload_n 0, 0, 0, 0), (3, .iload_n 1, 0, 0, 0), (4, .invokevirtual 92, 118, 2, 109), (7, .i2l, 0, 0, 0), (8, .lastore, 0, 0, 0), (9, .goto 9, 18, 0, 0)]
def bL_nextDifferent_13 : List am_I := [(13, .iconst 1, 0, 0, 0), (14, .ireturn, 0, 0, 0)]
def bL_nextDifferent_16 : List am_I := [(16, .iconst 2, 0, 0, 0), (17, .ireturn, 0, 0, 0)]
def bL_nextDifferent_18 : List am_I := [(18, .iconst 0, 0, 0, 0), (19, .ireturn, 0, 0, 0)]
def bL_nextDifferent : List (Nat × List am_I) := [(0, bL_nextDifferent_0), (13, bL_nextDifferent_13), (16, bL_nextDifferent_16), (18, bL_nextDifferent_18)]
theorem kL_nextDifferent : am_Code am_mt am_df qL_nextDifferent (am_blk bL_nextDifferent) := am_code_of rfl (by decide +kernel) (And.intro (And.intro (kL_invokevirtual_92_118_2_109 _ _ _) trivial) (And.intro (trivial) (And.intro (trivial) (And.intro (trivial) (trivial)))))
theorem nL_nextDifferent : am_noT (am_blk bL_nextDifferent) := am_noT_of (by decide +kernel)
