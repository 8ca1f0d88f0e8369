theorem lkM_L_7 : Cond.methodLink RL 7 yX6_begin ∈ tbG := tg_i 738 (by decide +kernel) (by decide +kernel)
theorem lkM_L_17 : Cond.methodLink RL 17 yX6_setEnd ∈ tbG := tg_i 776 (by decide +kernel) (by decide +kernel)
theorem lkM_L_21 : Cond.methodLink RL 21 yX6_setStep ∈ tbG := tg_i 792 (by decide +kernel) (by decide +kernel)
theorem lkM_L_25 : Cond.methodLink RL 25 yX6_random ∈ tbG := tg_i 804 (by decide +kernel) (by decide +kernel)
theorem lkM_L_29 : Cond.methodLink RL 29 yX6_states ∈ tbG := tg_i 832 (by decide +kernel) (by decide +kernel)
theorem lkM_L_33 : Cond.methodLink RL 33 yX6_end ∈ tbG := tg_i 839 (by decide +kernel) (by decide +kernel)
theorem lkM_L_37 : Cond.methodLink RL 37 yX6_step ∈ tbG := tg_i 846 (by decide +kernel) (by decide +kernel)
theorem lkM_L_41 : Cond.methodLink RL 41 yX6_weight ∈ tbG := tg_i 853 (by decide +kernel) (by decide +kernel)
theorem lkM_L_44 : Cond.methodLink RL 44 yX6_powerWeight ∈ tbG := tg_i 880 (by decide +kernel) (by decide +kernel)
theorem lkM_L_47 : Cond.methodLink RL 47 yX6_total ∈ tbG := tg_i 887 (by decide +kernel) (by decide +kernel)
theorem lkM_L_50 : Cond.methodLink RL 50 yX6_support ∈ tbG := tg_i 900 (by decide +kernel) (by decide +kernel)
theorem lkM_L_53 : Cond.methodLink RL 53 yX6_first ∈ tbG := tg_i 925 (by decide +kernel) (by decide +kernel)
theorem lkM_L_56 : Cond.methodLink RL 56 yX6_combine ∈ tbG := tg_i 938 (by decide +kernel) (by decide +kernel)
theorem lkM_L_61 : Cond.methodLink RL 61 yX6_derive ∈ tbG := tg_i 995 (by decide +kernel) (by decide +kernel)
theorem lkM_L_64 : Cond.methodLink RL 64 yX6_scale ∈ tbG := tg_i 1019 (by decide +kernel) (by decide +kernel)
theorem lkM_L_67 : Cond.methodLink RL 67 yX6_dimension ∈ tbG := tg_i 1027 (by decide +kernel) (by decide +kernel)
theorem lkM_L_70 : Cond.methodLink RL 70 yX6_basisWord ∈ tbG := tg_i 1034 (by decide +kernel) (by decide +kernel)
theorem lkM_L_73 : Cond.methodLink RL 73 yX6_differing ∈ tbG := tg_i 1042 (by decide +kernel) (by decide +kernel)
theorem lkM_L_76 : Cond.methodLink RL 76 yX6_hankelRank ∈ tbG := tg_i 1053 (by decide +kernel) (by decide +kernel)
theorem lkM_L_79 : Cond.methodLink RL 79 yX6_recurs ∈ tbG := tg_i 1078 (by decide +kernel) (by decide +kernel)
theorem lkM_L_83 : Cond.methodLink RL 83 yX6_inverse ∈ tbG := tg_i 1093 (by decide +kernel) (by decide +kernel)
theorem lkM_L_86 : Cond.methodLink RL 86 yX6_append ∈ tbG := tg_i 1101 (by decide +kernel) (by decide +kernel)
theorem lkM_L_89 : Cond.methodLink RL 89 yX6_parse ∈ tbG := tg_i 1109 (by decide +kernel) (by decide +kernel)
theorem lkM_L_92 : Cond.methodLink RL 92 yX6_undo ∈ tbG := tg_i 1166 (by decide +kernel) (by decide +kernel)
theorem lkM_L_100 : Cond.methodLink RL 100 yL_begin ∈ tbG := tg_i 733 (by decide +kernel) (by decide +kernel)
theorem lkM_L_105 : Cond.methodLink RL 105 yX7_begin ∈ tbG := tg_i 1257 (by decide +kernel) (by decide +kernel)
theorem lkM_L_106 : Cond.methodLink RL 106 yX7_thrown ∈ tbG := tg_i 1253 (by decide +kernel) (by decide +kernel)
theorem lkM_L_109 : Cond.methodLink RL 109 yL_setEnd ∈ tbG := tg_i 773 (by decide +kernel) (by decide +kernel)
theorem lkM_L_112 : Cond.methodLink RL 112 yX7_setEnd ∈ tbG := tg_i 1285 (by decide +kernel) (by decide +kernel)
theorem lkM_L_113 : Cond.methodLink RL 113 yL_setStep ∈ tbG := tg_i 789 (by decide +kernel) (by decide +kernel)
theorem lkM_L_116 : Cond.methodLink RL 116 yX7_setStep ∈ tbG := tg_i 1303 (by decide +kernel) (by decide +kernel)
theorem lkM_L_117 : Cond.methodLink RL 117 yL_random ∈ tbG := tg_i 801 (by decide +kernel) (by decide +kernel)
theorem lkM_L_120 : Cond.methodLink RL 120 yX7_random ∈ tbG := tg_i 1314 (by decide +kernel) (by decide +kernel)
theorem lkM_L_121 : Cond.methodLink RL 121 yL_states ∈ tbG := tg_i 829 (by decide +kernel) (by decide +kernel)
theorem lkM_L_124 : Cond.methodLink RL 124 yX7_states ∈ tbG := tg_i 1332 (by decide +kernel) (by decide +kernel)
theorem lkM_L_125 : Cond.methodLink RL 125 yL_end ∈ tbG := tg_i 836 (by decide +kernel) (by decide +kernel)
theorem lkM_L_128 : Cond.methodLink RL 128 yX7_end ∈ tbG := tg_i 1336 (by decide +kernel) (by decide +kernel)
theorem lkM_L_129 : Cond.methodLink RL 129 yL_step ∈ tbG := tg_i 843 (by decide +kernel) (by decide +kernel)
theorem lkM_L_132 : Cond.methodLink RL 132 yX7_step ∈ tbG := tg_i 1340 (by decide +kernel) (by decide +kernel)
theorem lkM_L_133 : Cond.methodLink RL 133 yL_weight ∈ tbG := tg_i 850 (by decide +kernel) (by decide +kernel)
theorem lkM_L_135 : Cond.methodLink RL 135 yX7_weight ∈ tbG := tg_i 1344 (by decide +kernel) (by decide +kernel)
theorem lkM_L_136 : Cond.methodLink RL 136 yL_powerWeight ∈ tbG := tg_i 877 (by decide +kernel) (by decide +kernel)
theorem lkM_L_138 : Cond.methodLink RL 138 yX7_powerWeight ∈ tbG := tg_i 1369 (by decide +kernel) (by decide +kernel)
theorem lkM_L_139 : Cond.methodLink RL 139 yL_total ∈ tbG := tg_i 884 (by decide +kernel) (by decide +kernel)
theorem lkM_L_141 : Cond.methodLink RL 141 yX7_total ∈ tbG := tg_i 1374 (by decide +kernel) (by decide +kernel)
theorem lkM_L_142 : Cond.methodLink RL 142 yL_support ∈ tbG := tg_i 897 (by decide +kernel) (by decide +kernel)
theorem lkM_L_144 : Cond.methodLink RL 144 yX7_support ∈ tbG := tg_i 1379 (by decide +kernel) (by decide +kernel)
theorem lkM_L_145 : Cond.methodLink RL 145 yL_first ∈ tbG := tg_i 922 (by decide +kernel) (by decide +kernel)
theorem lkM_L_147 : Cond.methodLink RL 147 yX7_first ∈ tbG := tg_i 1384 (by decide +kernel) (by decide +kernel)
theorem lkM_L_148 : Cond.methodLink RL 148 yL_combine ∈ tbG := tg_i 934 (by decide +kernel) (by decide +kernel)
theorem lkM_L_150 : Cond.methodLink RL 150 yX7_combine ∈ tbG := tg_i 1447 (by decide +kernel) (by decide +kernel)
theorem lkM_L_151 : Cond.methodLink RL 151 yL_derive ∈ tbG := tg_i 992 (by decide +kernel) (by decide +kernel)
theorem lkM_L_153 : Cond.methodLink RL 153 yX7_derive ∈ tbG := tg_i 1483 (by decide +kernel) (by decide +kernel)
theorem lkM_L_154 : Cond.methodLink RL 154 yL_scale ∈ tbG := tg_i 1016 (by decide +kernel) (by decide +kernel)
theorem lkM_L_156 : Cond.methodLink RL 156 yX7_scale ∈ tbG := tg_i 1504 (by decide +kernel) (by decide +kernel)
theorem lkM_L_157 : Cond.methodLink RL 157 yL_dimension ∈ tbG := tg_i 1024 (by decide +kernel) (by decide +kernel)
theorem lkM_L_159 : Cond.methodLink RL 159 yX7_dimension ∈ tbG := tg_i 1422 (by decide +kernel) (by decide +kernel)
theorem lkM_L_160 : Cond.methodLink RL 160 yL_basisWord ∈ tbG := tg_i 1031 (by decide +kernel) (by decide +kernel)
theorem lkM_L_162 : Cond.methodLink RL 162 yX7_basisWord ∈ tbG := tg_i 1443 (by decide +kernel) (by decide +kernel)
theorem lkM_L_163 : Cond.methodLink RL 163 yL_differing ∈ tbG := tg_i 1039 (by decide +kernel) (by decide +kernel)
theorem lkM_L_165 : Cond.methodLink RL 165 yX7_differing ∈ tbG := tg_i 1418 (by decide +kernel) (by decide +kernel)
theorem lkM_L_166 : Cond.methodLink RL 166 yL_hankelRank ∈ tbG := tg_i 1050 (by decide +kernel) (by decide +kernel)
theorem lkM_L_168 : Cond.methodLink RL 168 yX7_hankelRank ∈ tbG := tg_i 1508 (by decide +kernel) (by decide +kernel)
theorem lkM_L_169 : Cond.methodLink RL 169 yL_recurs ∈ tbG := tg_i 1075 (by decide +kernel) (by decide +kernel)
theorem lkM_L_171 : Cond.methodLink RL 171 yX7_recurs ∈ tbG := tg_i 1521 (by decide +kernel) (by decide +kernel)
theorem lkM_L_172 : Cond.methodLink RL 172 yL_inverse ∈ tbG := tg_i 1090 (by decide +kernel) (by decide +kernel)
theorem lkM_L_174 : Cond.methodLink RL 174 yX7_inverse ∈ tbG := tg_i 1529 (by decide +kernel) (by decide +kernel)
theorem lkM_L_175 : Cond.methodLink RL 175 yL_append ∈ tbG := tg_i 1098 (by decide +kernel) (by decide +kernel)
theorem lkM_L_177 : Cond.methodLink RL 177 yX7_append ∈ tbG := tg_i 1533 (by decide +kernel) (by decide +kernel)
theorem lkM_L_178 : Cond.methodLink RL 178 yX6_clearText ∈ tbG := tg_i 309 (by decide +kernel) (by decide +kernel)
theorem lkM_L_181 : Cond.methodLink RL 181 yX7_clearText ∈ tbG := tg_i 1538 (by decide +kernel) (by decide +kernel)
theorem lkM_L_182 : Cond.methodLink RL 182 yL_parse ∈ tbG := tg_i 1106 (by decide +kernel) (by decide +kernel)
theorem lkM_L_184 : Cond.methodLink RL 184 yX7_parse ∈ tbG := tg_i 1542 (by decide +kernel) (by decide +kernel)
theorem lkM_L_185 : Cond.methodLink RL 185 yL_undo ∈ tbG := tg_i 1163 (by decide +kernel) (by decide +kernel)
theorem lkM_L_188 : Cond.methodLink RL 188 yX7_undo ∈ tbG := tg_i 1588 (by decide +kernel) (by decide +kernel)
theorem lkM_L_189 : Cond.methodLink RL 189 yX6_digest ∈ tbG := tg_i 313 (by decide +kernel) (by decide +kernel)
theorem lkM_L_193 : Cond.methodLink RL 193 yX7_digest ∈ tbG := tg_i 1592 (by decide +kernel) (by decide +kernel)
theorem cast_0 : Cond.castable (exN 0) (exN 0) ∈ zNwL := nw_i 747 (by decide +kernel) (by decide +kernel)
theorem cast_1 : Cond.castable (exN 1) (exN 1) ∈ zNwL := nw_i 364 (by decide +kernel) (by decide +kernel)
theorem cast_2 : Cond.castable (exN 2) (exN 2) ∈ zNwL := nw_i 944 (by decide +kernel) (by decide +kernel)
theorem lkC_L_13 : Cond.classLink RL 13 (exN 0) ∈ tbG := tg_i 736 (by decide +kernel) (by decide +kernel)
theorem lkC_L_15 : Cond.classLink RL 15 (exN 1) ∈ tbG := tg_i 737 (by decide +kernel) (by decide +kernel)
theorem lkC_L_59 : Cond.classLink RL 59 (exN 2) ∈ tbG := tg_i 937 (by decide +kernel) (by decide +kernel)
theorem wd_L_begin : zWw yL_begin cL_begin 5 (Option.some FieldType.int) [((0 : Nat), (10 : Nat), (13 : Nat), (13 : Nat)), ((0 : Nat), (10 : Nat), (17 : Nat), (15 : Nat))] 4 := ⟨⟨tg_i 734 (by decide +kernel) (by decide +kernel), tg_i 74 (by decide +kernel) (by decide +kernel), tg_i 735 (by decide +kernel) (by decide +kernel)⟩, by decide +kernel⟩
def rm_L_begin : Room := { frames := 8, cells := 2, slots := 12, locals := 192 }
theorem wd_L_setEnd : zWw yL_setEnd cL_setEnd 7 (Option.some FieldType.int) [((0 : Nat), (14 : Nat), (17 : Nat), (13 : Nat)), ((0 : Nat), (14 : Nat), (21 : Nat), (15 : Nat))] 6 := ⟨⟨tg_i 774 (by decide +kernel) (by decide +kernel), tg_i 74 (by decide +kernel) (by decide +kernel), tg_i 775 (by decide +kernel) (by decide +kernel)⟩, by decide +kernel⟩
def rm_L_setEnd : Room := { frames := 8, cells := 3, slots := 18, locals := 169 }
theorem wd_L_setStep : zWw yL_setStep cL_setStep 8 (Option.some FieldType.int) [((0 : Nat), (16 : Nat), (19 : Nat), (13 : Nat)), ((0 : Nat), (16 : Nat), (23 : Nat), (15 : Nat))] 7 := ⟨⟨tg_i 790 (by decide +kernel) (by decide +kernel), tg_i 74 (by decide +kernel) (by decide +kernel), tg_i 791 (by decide +kernel) (by decide +kernel)⟩, by decide +kernel⟩
def rm_L_setStep : Room := { frames := 9, cells := 4, slots := 24, locals := 174 }
theorem wd_L_random : zWw yL_random cL_random 6 (Option.some FieldType.int) [((0 : Nat), (12 : Nat), (15 : Nat), (13 : Nat)), ((0 : Nat), (12 : Nat), (19 : Nat), (15 : Nat))] 5 := ⟨⟨tg_i 802 (by decide +kernel) (by decide +kernel), tg_i 74 (by decide +kernel) (by decide +kernel), tg_i 803 (by decide +kernel) (by decide +kernel)⟩, by decide +kernel⟩
def rm_L_random : Room := { frames := 8, cells := 3, slots := 18, locals := 170 }
theorem wd_L_states : zWw yL_states cL_states 4 (Option.some FieldType.int) [((0 : Nat), (9 : Nat), (12 : Nat), (13 : Nat))] 3 := ⟨⟨tg_i 830 (by decide +kernel) (by decide +kernel), tg_i 74 (by decide +kernel) (by decide +kernel), tg_i 831 (by decide +kernel) (by decide +kernel)⟩, by decide +kernel⟩
def rm_L_states : Room := { frames := 8, cells := 1, slots := 6, locals := 141 }
theorem wd_L_end : zWw yL_end cL_end 6 (Option.some FieldType.int) [((0 : Nat), (12 : Nat), (15 : Nat), (13 : Nat))] 5 := ⟨⟨tg_i 837 (by decide +kernel) (by decide +kernel), tg_i 74 (by decide +kernel) (by decide +kernel), tg_i 838 (by decide +kernel) (by decide +kernel)⟩, by decide +kernel⟩
def rm_L_end : Room := { frames := 8, cells := 2, slots := 12, locals := 145 }
theorem wd_L_step : zWw yL_step cL_step 7 (Option.some FieldType.int) [((0 : Nat), (14 : Nat), (17 : Nat), (13 : Nat))] 6 := ⟨⟨tg_i 844 (by decide +kernel) (by decide +kernel), tg_i 74 (by decide +kernel) (by decide +kernel), tg_i 845 (by decide +kernel) (by decide +kernel)⟩, by decide +kernel⟩
def rm_L_step : Room := { frames := 9, cells := 3, slots := 18, locals := 171 }
theorem wd_L_weight : zWw yL_weight cL_weight 5 (Option.some FieldType.int) [((0 : Nat), (10 : Nat), (13 : Nat), (13 : Nat)), ((0 : Nat), (10 : Nat), (17 : Nat), (15 : Nat))] 4 := ⟨⟨tg_i 851 (by decide +kernel) (by decide +kernel), tg_i 74 (by decide +kernel) (by decide +kernel), tg_i 852 (by decide +kernel) (by decide +kernel)⟩, by decide +kernel⟩
def rm_L_weight : Room := { frames := 8, cells := 2, slots := 12, locals := 215 }
theorem wd_L_powerWeight : zWw yL_powerWeight cL_powerWeight 6 (Option.some FieldType.int) [((0 : Nat), (12 : Nat), (15 : Nat), (13 : Nat)), ((0 : Nat), (12 : Nat), (19 : Nat), (15 : Nat))] 5 := ⟨⟨tg_i 878 (by decide +kernel) (by decide +kernel), tg_i 74 (by decide +kernel) (by decide +kernel), tg_i 879 (by decide +kernel) (by decide +kernel)⟩, by decide +kernel⟩
def rm_L_powerWeight : Room := { frames := 8, cells := 3, slots := 18, locals := 217 }
theorem wd_L_total : zWw yL_total cL_total 5 (Option.some FieldType.int) [((0 : Nat), (10 : Nat), (13 : Nat), (13 : Nat)), ((0 : Nat), (10 : Nat), (17 : Nat), (15 : Nat))] 4 := ⟨⟨tg_i 885 (by decide +kernel) (by decide +kernel), tg_i 74 (by decide +kernel) (by decide +kernel), tg_i 886 (by decide +kernel) (by decide +kernel)⟩, by decide +kernel⟩
def rm_L_total : Room := { frames := 8, cells := 2, slots := 12, locals := 191 }
theorem wd_L_support : zWw yL_support cL_support 5 (Option.some FieldType.int) [((0 : Nat), (10 : Nat), (13 : Nat), (13 : Nat)), ((0 : Nat), (10 : Nat), (17 : Nat), (15 : Nat))] 4 := ⟨⟨tg_i 898 (by decide +kernel) (by decide +kernel), tg_i 74 (by decide +kernel) (by decide +kernel), tg_i 899 (by decide +kernel) (by decide +kernel)⟩, by decide +kernel⟩
def rm_L_support : Room := { frames := 8, cells := 2, slots := 12, locals := 218 }
theorem wd_L_first : zWw yL_first cL_first 4 (Option.some FieldType.int) [((0 : Nat), (9 : Nat), (12 : Nat), (13 : Nat))] 3 := ⟨⟨tg_i 923 (by decide +kernel) (by decide +kernel), tg_i 74 (by decide +kernel) (by decide +kernel), tg_i 924 (by decide +kernel) (by decide +kernel)⟩, by decide +kernel⟩
def rm_L_first : Room := { frames := 8, cells := 1, slots := 6, locals := 216 }
theorem wd_L_combine : zWw yL_combine cL_combine 7 (Option.some FieldType.int) [((0 : Nat), (14 : Nat), (17 : Nat), (13 : Nat)), ((0 : Nat), (14 : Nat), (21 : Nat), (15 : Nat)), ((0 : Nat), (14 : Nat), (25 : Nat), (59 : Nat))] 6 := ⟨⟨tg_i 935 (by decide +kernel) (by decide +kernel), tg_i 74 (by decide +kernel) (by decide +kernel), tg_i 936 (by decide +kernel) (by decide +kernel)⟩, by decide +kernel⟩
def rm_L_combine : Room := { frames := 8, cells := 5, slots := 30, locals := 245 }
theorem wd_L_derive : zWw yL_derive cL_derive 6 (Option.some FieldType.int) [((0 : Nat), (12 : Nat), (15 : Nat), (13 : Nat)), ((0 : Nat), (12 : Nat), (19 : Nat), (15 : Nat)), ((0 : Nat), (12 : Nat), (23 : Nat), (59 : Nat))] 5 := ⟨⟨tg_i 993 (by decide +kernel) (by decide +kernel), tg_i 74 (by decide +kernel) (by decide +kernel), tg_i 994 (by decide +kernel) (by decide +kernel)⟩, by decide +kernel⟩
def rm_L_derive : Room := { frames := 8, cells := 4, slots := 24, locals := 241 }
theorem wd_L_scale : zWw yL_scale cL_scale 5 (Option.some FieldType.int) [((0 : Nat), (10 : Nat), (13 : Nat), (13 : Nat)), ((0 : Nat), (10 : Nat), (17 : Nat), (15 : Nat))] 4 := ⟨⟨tg_i 1017 (by decide +kernel) (by decide +kernel), tg_i 74 (by decide +kernel) (by decide +kernel), tg_i 1018 (by decide +kernel) (by decide +kernel)⟩, by decide +kernel⟩
def rm_L_scale : Room := { frames := 8, cells := 2, slots := 12, locals := 166 }
theorem wd_L_dimension : zWw yL_dimension cL_dimension 5 (Option.some FieldType.int) [((0 : Nat), (10 : Nat), (13 : Nat), (13 : Nat)), ((0 : Nat), (10 : Nat), (17 : Nat), (15 : Nat))] 4 := ⟨⟨tg_i 1025 (by decide +kernel) (by decide +kernel), tg_i 74 (by decide +kernel) (by decide +kernel), tg_i 1026 (by decide +kernel) (by decide +kernel)⟩, by decide +kernel⟩
def rm_L_dimension : Room := { frames := 8, cells := 2, slots := 12, locals := 261 }
theorem wd_L_basisWord : zWw yL_basisWord cL_basisWord 5 (Option.some FieldType.int) [((0 : Nat), (10 : Nat), (13 : Nat), (13 : Nat))] 4 := ⟨⟨tg_i 1032 (by decide +kernel) (by decide +kernel), tg_i 74 (by decide +kernel) (by decide +kernel), tg_i 1033 (by decide +kernel) (by decide +kernel)⟩, by decide +kernel⟩
def rm_L_basisWord : Room := { frames := 8, cells := 2, slots := 12, locals := 217 }
theorem wd_L_differing : zWw yL_differing cL_differing 5 (Option.some FieldType.int) [((0 : Nat), (10 : Nat), (13 : Nat), (13 : Nat))] 4 := ⟨⟨tg_i 1040 (by decide +kernel) (by decide +kernel), tg_i 74 (by decide +kernel) (by decide +kernel), tg_i 1041 (by decide +kernel) (by decide +kernel)⟩, by decide +kernel⟩
def rm_L_differing : Room := { frames := 8, cells := 2, slots := 12, locals := 235 }
theorem wd_L_hankelRank : zWw yL_hankelRank cL_hankelRank 5 (Option.some FieldType.int) [((0 : Nat), (10 : Nat), (13 : Nat), (13 : Nat)), ((0 : Nat), (10 : Nat), (17 : Nat), (15 : Nat))] 4 := ⟨⟨tg_i 1051 (by decide +kernel) (by decide +kernel), tg_i 74 (by decide +kernel) (by decide +kernel), tg_i 1052 (by decide +kernel) (by decide +kernel)⟩, by decide +kernel⟩
def rm_L_hankelRank : Room := { frames := 8, cells := 2, slots := 12, locals := 218 }
theorem wd_L_recurs : zWw yL_recurs cL_recurs 5 (Option.some FieldType.int) [((0 : Nat), (17 : Nat), (20 : Nat), (13 : Nat)), ((0 : Nat), (17 : Nat), (24 : Nat), (15 : Nat))] 4 := ⟨⟨tg_i 1076 (by decide +kernel) (by decide +kernel), tg_i 74 (by decide +kernel) (by decide +kernel), tg_i 1077 (by decide +kernel) (by decide +kernel)⟩, by decide +kernel⟩
def rm_L_recurs : Room := { frames := 8, cells := 2, slots := 12, locals := 214 }
theorem wd_L_inverse : zWw yL_inverse cL_inverse 4 (Option.some FieldType.int) [((0 : Nat), (9 : Nat), (12 : Nat), (15 : Nat))] 3 := ⟨⟨tg_i 1091 (by decide +kernel) (by decide +kernel), tg_i 74 (by decide +kernel) (by decide +kernel), tg_i 1092 (by decide +kernel) (by decide +kernel)⟩, by decide +kernel⟩
def rm_L_inverse : Room := { frames := 8, cells := 1, slots := 6, locals := 144 }
theorem wd_L_append : zWw yL_append cL_append 4 (Option.some FieldType.int) [((0 : Nat), (9 : Nat), (12 : Nat), (15 : Nat)), ((0 : Nat), (9 : Nat), (15 : Nat), (59 : Nat))] 3 := ⟨⟨tg_i 1099 (by decide +kernel) (by decide +kernel), tg_i 74 (by decide +kernel) (by decide +kernel), tg_i 1100 (by decide +kernel) (by decide +kernel)⟩, by decide +kernel⟩
def rm_L_append : Room := { frames := 8, cells := 2, slots := 12, locals := 143 }
theorem wd_L_parse : zWw yL_parse cL_parse 4 (Option.some FieldType.int) [((0 : Nat), (9 : Nat), (12 : Nat), (13 : Nat))] 3 := ⟨⟨tg_i 1107 (by decide +kernel) (by decide +kernel), tg_i 74 (by decide +kernel) (by decide +kernel), tg_i 1108 (by decide +kernel) (by decide +kernel)⟩, by decide +kernel⟩
def rm_L_parse : Room := { frames := 9, cells := 1, slots := 6, locals := 288 }
theorem wd_L_undo : zWw yL_undo cL_undo 3 (Option.some FieldType.int) [((0 : Nat), (8 : Nat), (11 : Nat), (59 : Nat))] 2 := ⟨⟨tg_i 1164 (by decide +kernel) (by decide +kernel), tg_i 74 (by decide +kernel) (by decide +kernel), tg_i 1165 (by decide +kernel) (by decide +kernel)⟩, by decide +kernel⟩
def rm_L_undo : Room := { frames := 7, cells := 1, slots := 6, locals := 142 }
def f_L_begin (Γ : zSh) (a0 : Nat) (a1 : Int32) (a2 : Int32) (a3 : Nat) (σ : zSt) : Option (Int32 × zSt) :=
  chk (isO Γ a0 6) <| xcat (f_X6_begin Γ a0 a1 a2 σ) (fun r2 σ1 =>
  stL Γ σ1 a3 0 (r2.toInt64) fun σ3 =>
  some (0, σ3)) (fun k9 s9 => if k9 = 0 then (some (1, s9)) else (if k9 = 1 then (some (2, s9)) else (none)))
def f_L_setEnd (Γ : zSh) (a0 : Nat) (a1 : Int32) (a2 : Int32) (a3 : Int32) (a4 : Int32) (a5 : Nat) (σ : zSt) : Option (Int32 × zSt) :=
  chk (isO Γ a0 6) <| xcat (f_X6_setEnd Γ a0 a1 a2 a3 a4 σ) (fun r2 σ1 =>
  stL Γ σ1 a5 0 (r2.toInt64) fun σ3 =>
  some (0, σ3)) (fun k9 s9 => if k9 = 0 then (some (1, s9)) else (if k9 = 1 then (some (2, s9)) else (none)))
def f_L_setStep (Γ : zSh) (a0 : Nat) (a1 : Int32) (a2 : Int32) (a3 : Int32) (a4 : Int32) (a5 : Int32) (a6 : Nat) (σ : zSt) : Option (Int32 × zSt) :=
  chk (isO Γ a0 6) <| xcat (f_X6_setStep Γ a0 a1 a2 a3 a4 a5 σ) (fun r2 σ1 =>
  stL Γ σ1 a6 0 (r2.toInt64) fun σ3 =>
  some (0, σ3)) (fun k9 s9 => if k9 = 0 then (some (1, s9)) else (if k9 = 1 then (some (2, s9)) else (none)))
def f_L_random (Γ : zSh) (a0 : Nat) (a1 : Int32) (a2 : Int32) (a3 : Int32) (a4 : Nat) (σ : zSt) : Option (Int32 × zSt) :=
  chk (isO Γ a0 6) <| xcat (f_X6_random Γ a0 a1 a2 a3 σ) (fun r2 σ1 =>
  stL Γ σ1 a4 0 (r2.toInt64) fun σ3 =>
  some (0, σ3)) (fun k9 s9 => if k9 = 0 then (some (1, s9)) else (if k9 = 1 then (some (2, s9)) else (none)))
def f_L_states (Γ : zSh) (a0 : Nat) (a1 : Int32) (a2 : Nat) (σ : zSt) : Option (Int32 × zSt) :=
  chk (isO Γ a0 6) <| xcat (f_X6_states Γ a0 a1 σ) (fun r2 σ1 =>
  stL Γ σ1 a2 0 (r2.toInt64) fun σ3 =>
  some (0, σ3)) (fun k9 s9 => if k9 = 0 then (some (1, s9)) else (none))
def f_L_end (Γ : zSh) (a0 : Nat) (a1 : Int32) (a2 : Int32) (a3 : Int32) (a4 : Nat) (σ : zSt) : Option (Int32 × zSt) :=
  chk (isO Γ a0 6) <| xcat (f_X6_end Γ a0 a1 a2 a3 σ) (fun r2 σ1 =>
  stL Γ σ1 a4 0 (r2.toInt64) fun σ3 =>
  some (0, σ3)) (fun k9 s9 => if k9 = 0 then (some (1, s9)) else (none))
def f_L_step (Γ : zSh) (a0 : Nat) (a1 : Int32) (a2 : Int32) (a3 : Int32) (a4 : Int32) (a5 : Nat) (σ : zSt) : Option (Int32 × zSt) :=
  chk (isO Γ a0 6) <| xcat (f_X6_step Γ a0 a1 a2 a3 a4 σ) (fun r2 σ1 =>
  stL Γ σ1 a5 0 (r2.toInt64) fun σ3 =>
  some (0, σ3)) (fun k9 s9 => if k9 = 0 then (some (1, s9)) else (none))
def f_L_weight (Γ : zSh) (a0 : Nat) (a1 : Int32) (a2 : Int32) (a3 : Nat) (σ : zSt) : Option (Int32 × zSt) :=
  chk (isO Γ a0 6) <| xcat (f_X6_weight Γ a0 a1 a2 σ) (fun r2 σ1 =>
  stL Γ σ1 a3 0 (r2.toInt64) fun σ3 =>
  some (0, σ3)) (fun k9 s9 => if k9 = 0 then (some (1, s9)) else (if k9 = 1 then (some (2, s9)) else (none)))
def f_L_powerWeight (Γ : zSh) (a0 : Nat) (a1 : Int32) (a2 : Int32) (a3 : Int32) (a4 : Nat) (σ : zSt) : Option (Int32 × zSt) :=
  chk (isO Γ a0 6) <| xcat (f_X6_powerWeight Γ a0 a1 a2 a3 σ) (fun r2 σ1 =>
  stL Γ σ1 a4 0 (r2.toInt64) fun σ3 =>
  some (0, σ3)) (fun k9 s9 => if k9 = 0 then (some (1, s9)) else (if k9 = 1 then (some (2, s9)) else (none)))
def f_L_total (Γ : zSh) (a0 : Nat) (a1 : Int32) (a2 : Int32) (a3 : Nat) (σ : zSt) : Option (Int32 × zSt) :=
  chk (isO Γ a0 6) <| xcat (f_X6_total Γ a0 a1 a2 σ) (fun r2 σ1 =>
  stL Γ σ1 a3 0 (r2.toInt64) fun σ3 =>
  some (0, σ3)) (fun k9 s9 => if k9 = 0 then (some (1, s9)) else (if k9 = 1 then (some (2, s9)) else (none)))
def f_L_support (Γ : zSh) (a0 : Nat) (a1 : Int32) (a2 : Int32) (a3 : Nat) (σ : zSt) : Option (Int32 × zSt) :=
  chk (isO Γ a0 6) <| xcat (f_X6_support Γ a0 a1 a2 σ) (fun r2 σ1 =>
  stL Γ σ1 a3 0 (r2.toInt64) fun σ3 =>
  some (0, σ3)) (fun k9 s9 => if k9 = 0 then (some (1, s9)) else (if k9 = 1 then (some (2, s9)) else (none)))
def f_L_first (Γ : zSh) (a0 : Nat) (a1 : Int32) (a2 : Nat) (σ : zSt) : Option (Int32 × zSt) :=
  chk (isO Γ a0 6) <| xcat (f_X6_first Γ a0 a1 σ) (fun r2 σ1 =>
  stL Γ σ1 a2 0 (r2.toInt64) fun σ3 =>
  some (0, σ3)) (fun k9 s9 => if k9 = 0 then (some (1, s9)) else (none))
def f_L_combine (Γ : zSh) (a0 : Nat) (a1 : Int32) (a2 : Int32) (a3 : Int32) (a4 : Int32) (a5 : Nat) (σ : zSt) : Option (Int32 × zSt) :=
  chk (isO Γ a0 6) <| xcat (f_X6_combine Γ a0 a1 a2 a3 a4 σ) (fun r2 σ1 =>
  stL Γ σ1 a5 0 (r2.toInt64) fun σ3 =>
  some (0, σ3)) (fun k9 s9 => if k9 = 0 then (some (1, s9)) else (if k9 = 1 then (some (2, s9)) else (if k9 = 2 then (some (3, s9)) else (none))))
def f_L_derive (Γ : zSh) (a0 : Nat) (a1 : Int32) (a2 : Int32) (a3 : Int32) (a4 : Nat) (σ : zSt) : Option (Int32 × zSt) :=
  chk (isO Γ a0 6) <| xcat (f_X6_derive Γ a0 a1 a2 a3 σ) (fun r2 σ1 =>
  stL Γ σ1 a4 0 (r2.toInt64) fun σ3 =>
  some (0, σ3)) (fun k9 s9 => if k9 = 0 then (some (1, s9)) else (if k9 = 1 then (some (2, s9)) else (if k9 = 2 then (some (3, s9)) else (none))))
def f_L_scale (Γ : zSh) (a0 : Nat) (a1 : Int32) (a2 : Int32) (a3 : Nat) (σ : zSt) : Option (Int32 × zSt) :=
  chk (isO Γ a0 6) <| xcat (f_X6_scale Γ a0 a1 a2 σ) (fun r2 σ1 =>
  stL Γ σ1 a3 0 (r2.toInt64) fun σ3 =>
  some (0, σ3)) (fun k9 s9 => if k9 = 0 then (some (1, s9)) else (if k9 = 1 then (some (2, s9)) else (none)))
def f_L_dimension (Γ : zSh) (a0 : Nat) (a1 : Int32) (a2 : Int32) (a3 : Nat) (σ : zSt) : Option (Int32 × zSt) :=
  chk (isO Γ a0 6) <| xcat (f_X6_dimension Γ a0 a1 a2 σ) (fun r2 σ1 =>
  stL Γ σ1 a3 0 (r2.toInt64) fun σ3 =>
  some (0, σ3)) (fun k9 s9 => if k9 = 0 then (some (1, s9)) else (if k9 = 1 then (some (2, s9)) else (none)))
def f_L_basisWord (Γ : zSh) (a0 : Nat) (a1 : Int32) (a2 : Int32) (a3 : Nat) (σ : zSt) : Option (Int32 × zSt) :=
  chk (isO Γ a0 6) <| xcat (f_X6_basisWord Γ a0 a1 a2 σ) (fun r2 σ1 =>
  stL Γ σ1 a3 0 (r2.toInt64) fun σ3 =>
  some (0, σ3)) (fun k9 s9 => if k9 = 0 then (some (1, s9)) else (none))
def f_L_differing (Γ : zSh) (a0 : Nat) (a1 : Int32) (a2 : Int32) (a3 : Nat) (σ : zSt) : Option (Int32 × zSt) :=
  chk (isO Γ a0 6) <| xcat (f_X6_differing Γ a0 a1 a2 σ) (fun r2 σ1 =>
  stL Γ σ1 a3 0 (r2.toInt64) fun σ3 =>
  some (0, σ3)) (fun k9 s9 => if k9 = 0 then (some (1, s9)) else (none))
def f_L_hankelRank (Γ : zSh) (a0 : Nat) (a1 : Int32) (a2 : Int32) (a3 : Nat) (σ : zSt) : Option (Int32 × zSt) :=
  chk (isO Γ a0 6) <| xcat (f_X6_hankelRank Γ a0 a1 a2 σ) (fun r2 σ1 =>
  stL Γ σ1 a3 0 (r2.toInt64) fun σ3 =>
  some (0, σ3)) (fun k9 s9 => if k9 = 0 then (some (1, s9)) else (if k9 = 1 then (some (2, s9)) else (none)))
def f_L_recurs_L16 (Γ : zSh) (s0 : Int64) (s1 : Int32) (s2 : Nat) (σ : zSt) : Option (Int32 × zSt) :=
  stL Γ σ s2 s1 s0 fun σ3 =>
  some (0, σ3)
def f_L_recurs (Γ : zSh) (a0 : Nat) (a1 : Int32) (a2 : Int32) (a3 : Nat) (σ : zSt) : Option (Int32 × zSt) :=
  chk (isO Γ a0 6) <| xcat (f_X6_recurs Γ a0 a1 a2 σ) (fun r2 σ1 =>
  if r2 = 0 then (f_L_recurs_L16 Γ 0 0 a3 σ1) else (f_L_recurs_L16 Γ 1 0 a3 σ1)) (fun k9 s9 => if k9 = 0 then (some (1, s9)) else (if k9 = 1 then (some (2, s9)) else (none)))
def f_L_inverse (Γ : zSh) (a0 : Nat) (a1 : Int32) (a2 : Nat) (σ : zSt) : Option (Int32 × zSt) :=
  chk (isO Γ a0 6) <| xcat (f_X6_inverse Γ a0 a1 σ) (fun r2 σ1 =>
  stL Γ σ1 a2 0 (r2.toInt64) fun σ3 =>
  some (0, σ3)) (fun k9 s9 => if k9 = 1 then (some (1, s9)) else (none))
def f_L_append (Γ : zSh) (a0 : Nat) (a1 : Int32) (a2 : Nat) (σ : zSt) : Option (Int32 × zSt) :=
  chk (isO Γ a0 6) <| xcat (f_X6_append Γ a0 a1 σ) (fun r2 σ1 =>
  stL Γ σ1 a2 0 (r2.toInt64) fun σ3 =>
  some (0, σ3)) (fun k9 s9 => if k9 = 1 then (some (1, s9)) else (if k9 = 2 then (some (2, s9)) else (none)))
def f_L_parse (Γ : zSh) (a0 : Nat) (a1 : Int32) (a2 : Nat) (σ : zSt) : Option (Int32 × zSt) :=
  chk (isO Γ a0 6) <| xcat (f_X6_parse Γ a0 a1 σ) (fun r2 σ1 =>
  stL Γ σ1 a2 0 (r2.toInt64) fun σ3 =>
  some (0, σ3)) (fun k9 s9 => if k9 = 0 then (some (1, s9)) else (none))
def f_L_undo (Γ : zSh) (a0 : Nat) (a1 : Nat) (σ : zSt) : Option (Int32 × zSt) :=
  chk (isO Γ a0 6) <| xcat (f_X6_undo Γ a0 σ) (fun r2 σ1 =>
  stL Γ σ1 a1 0 (r2.toInt64) fun σ3 =>
  some (0, σ3)) (fun k9 s9 => if k9 = 2 then (some (1, s9)) else (none))
def f_L_law_B23_L1930 (xs : Nat → Int32) (L b9 : Nat) (Γ : zSh) (x0 : Nat) (x1 : Nat) (x2 : Nat) (x3 : Nat) (x4 : Int32) (σ : zSt) : Option ((Int32 × zSt) ⊕ ((zSt) ⊕ (Int32 × zSt))) :=
  some (.inl ((x4 + 6), σ))
def f_L_law_B23_L225 (xs : Nat → Int32) (L b9 : Nat) (Γ : zSh) (x0 : Nat) (x1 : Nat) (x2 : Nat) (x3 : Nat) (x4 : Int32) (σ : zSt) : Option ((Int32 × zSt) ⊕ ((zSt) ⊕ (Int32 × zSt))) :=
  f_L_law_B23_L1930 xs L b9 Γ x0 x1 x2 x3 x4 σ
def f_L_law_B23_L333 (xs : Nat → Int32) (L b9 : Nat) (Γ : zSh) (x0 : Nat) (x1 : Nat) (x2 : Nat) (x3 : Nat) (x4 : Int32) (σ : zSt) : Option ((Int32 × zSt) ⊕ ((zSt) ⊕ (Int32 × zSt))) :=
  f_L_law_B23_L1930 xs L b9 Γ x0 x1 x2 x3 x4 σ
def f_L_law_B23_L294 (xs : Nat → Int32) (L b9 : Nat) (Γ : zSh) (x0 : Nat) (x1 : Nat) (x2 : Nat) (x3 : Nat) (x4 : Int32) (x5 : Int32) (s0 : Int32) (s1 : Int32) (s2 : Int32) (s3 : Nat) (σ : zSt) : Option ((Int32 × zSt) ⊕ ((zSt) ⊕ (Int32 × zSt))) :=
  scI xs b9 L x0 (x4 + 4) fun v23 =>
  chk (isO Γ s3 7) <| bnd (f_X7_setEnd Γ s3 s2 s1 s0 v23 σ) fun r25 σ24 =>
  chk (isO Γ x2 7) <| bnd (f_X7_thrown Γ x2 σ24) fun r27 σ26 =>
  if r27 = x5 then (if x5 = 0 then (ldL Γ σ26 x3 0 fun v28 =>
  if (lg_cmp v28 (r25.toInt64)) = 0 then (f_L_law_B23_L333 xs L b9 Γ x0 x1 x2 x3 x4 σ26) else (chk (isB 0) (some (.inr (.inr (0, σ26)))))) else (f_L_law_B23_L333 xs L b9 Γ x0 x1 x2 x3 x4 σ26)) else (chk (isB 0) (some (.inr (.inr (0, σ26)))))
def f_L_law_B23_L255 (xs : Nat → Int32) (L b9 : Nat) (Γ : zSh) (x0 : Nat) (x1 : Nat) (x2 : Nat) (x3 : Nat) (x4 : Int32) (s0 : Int32) (s1 : Int32) (s2 : Int32) (s3 : Nat) (σ : zSt) : Option ((Int32 × zSt) ⊕ ((zSt) ⊕ (Int32 × zSt))) :=
  scI xs b9 L x0 (x4 + 4) fun v17 =>
  bnd (f_L_setEnd Γ s3 s2 s1 s0 v17 x3 σ) fun r19 σ18 =>
  scI xs b9 L x0 (x4 + 1) fun v20 =>
  scI xs b9 L x0 (x4 + 2) fun v21 =>
  scI xs b9 L x0 (x4 + 3) fun v22 =>
  if v22 = 0 then (f_L_law_B23_L294 xs L b9 Γ x0 x1 x2 x3 x4 r19 0 v21 v20 x2 σ18) else (f_L_law_B23_L294 xs L b9 Γ x0 x1 x2 x3 x4 r19 1 v21 v20 x2 σ18)
def f_L_law_B23_L437 (xs : Nat → Int32) (L b9 : Nat) (Γ : zSh) (x0 : Nat) (x1 : Nat) (x2 : Nat) (x3 : Nat) (x4 : Int32) (σ : zSt) : Option ((Int32 × zSt) ⊕ ((zSt) ⊕ (Int32 × zSt))) :=
  f_L_law_B23_L1930 xs L b9 Γ x0 x1 x2 x3 x4 σ
def f_L_law_B23_L517 (xs : Nat → Int32) (L b9 : Nat) (Γ : zSh) (x0 : Nat) (x1 : Nat) (x2 : Nat) (x3 : Nat) (x4 : Int32) (σ : zSt) : Option ((Int32 × zSt) ⊕ ((zSt) ⊕ (Int32 × zSt))) :=
  f_L_law_B23_L1930 xs L b9 Γ x0 x1 x2 x3 x4 σ
def f_L_law_B23_L573 (xs : Nat → Int32) (L b9 : Nat) (Γ : zSh) (x0 : Nat) (x1 : Nat) (x2 : Nat) (x3 : Nat) (x4 : Int32) (σ : zSt) : Option ((Int32 × zSt) ⊕ ((zSt) ⊕ (Int32 × zSt))) :=
  f_L_law_B23_L1930 xs L b9 Γ x0 x1 x2 x3 x4 σ
def f_L_law_B23_L669 (xs : Nat → Int32) (L b9 : Nat) (Γ : zSh) (x0 : Nat) (x1 : Nat) (x2 : Nat) (x3 : Nat) (x4 : Int32) (σ : zSt) : Option ((Int32 × zSt) ⊕ ((zSt) ⊕ (Int32 × zSt))) :=
  f_L_law_B23_L1930 xs L b9 Γ x0 x1 x2 x3 x4 σ
def f_L_law_B23_L636 (xs : Nat → Int32) (L b9 : Nat) (Γ : zSh) (x0 : Nat) (x1 : Nat) (x2 : Nat) (x3 : Nat) (x4 : Int32) (x5 : Int32) (s0 : Int32) (s1 : Int32) (s2 : Int32) (s3 : Nat) (σ : zSt) : Option ((Int32 × zSt) ⊕ ((zSt) ⊕ (Int32 × zSt))) :=
  chk (isO Γ s3 7) <| bnd (f_X7_end Γ s3 s2 s1 s0 σ) fun r77 σ76 =>
  chk (isO Γ x2 7) <| bnd (f_X7_thrown Γ x2 σ76) fun r79 σ78 =>
  if r79 = x5 then (if x5 = 0 then (ldL Γ σ78 x3 0 fun v80 =>
  if (lg_cmp v80 (r77.toInt64)) = 0 then (f_L_law_B23_L669 xs L b9 Γ x0 x1 x2 x3 x4 σ78) else (chk (isB 0) (some (.inr (.inr (0, σ78)))))) else (f_L_law_B23_L669 xs L b9 Γ x0 x1 x2 x3 x4 σ78)) else (chk (isB 0) (some (.inr (.inr (0, σ78)))))
def f_L_law_B23_L603 (xs : Nat → Int32) (L b9 : Nat) (Γ : zSh) (x0 : Nat) (x1 : Nat) (x2 : Nat) (x3 : Nat) (x4 : Int32) (s0 : Int32) (s1 : Int32) (s2 : Int32) (s3 : Nat) (σ : zSt) : Option ((Int32 × zSt) ⊕ ((zSt) ⊕ (Int32 × zSt))) :=
  bnd (f_L_end Γ s3 s2 s1 s0 x3 σ) fun r72 σ71 =>
  scI xs b9 L x0 (x4 + 1) fun v73 =>
  scI xs b9 L x0 (x4 + 2) fun v74 =>
  scI xs b9 L x0 (x4 + 3) fun v75 =>
  if v75 = 0 then (f_L_law_B23_L636 xs L b9 Γ x0 x1 x2 x3 x4 r72 0 v74 v73 x2 σ71) else (f_L_law_B23_L636 xs L b9 Γ x0 x1 x2 x3 x4 r72 1 v74 v73 x2 σ71)
def f_L_law_B23_L761 (xs : Nat → Int32) (L b9 : Nat) (Γ : zSh) (x0 : Nat) (x1 : Nat) (x2 : Nat) (x3 : Nat) (x4 : Int32) (σ : zSt) : Option ((Int32 × zSt) ⊕ ((zSt) ⊕ (Int32 × zSt))) :=
  f_L_law_B23_L1930 xs L b9 Γ x0 x1 x2 x3 x4 σ
def f_L_law_B23_L829 (xs : Nat → Int32) (L b9 : Nat) (Γ : zSh) (x0 : Nat) (x1 : Nat) (x2 : Nat) (x3 : Nat) (x4 : Int32) (σ : zSt) : Option ((Int32 × zSt) ⊕ ((zSt) ⊕ (Int32 × zSt))) :=
  f_L_law_B23_L1930 xs L b9 Γ x0 x1 x2 x3 x4 σ
def f_L_law_B23_L909 (xs : Nat → Int32) (L b9 : Nat) (Γ : zSh) (x0 : Nat) (x1 : Nat) (x2 : Nat) (x3 : Nat) (x4 : Int32) (σ : zSt) : Option ((Int32 × zSt) ⊕ ((zSt) ⊕ (Int32 × zSt))) :=
  f_L_law_B23_L1930 xs L b9 Γ x0 x1 x2 x3 x4 σ
def f_L_law_B23_L977 (xs : Nat → Int32) (L b9 : Nat) (Γ : zSh) (x0 : Nat) (x1 : Nat) (x2 : Nat) (x3 : Nat) (x4 : Int32) (σ : zSt) : Option ((Int32 × zSt) ⊕ ((zSt) ⊕ (Int32 × zSt))) :=
  f_L_law_B23_L1930 xs L b9 Γ x0 x1 x2 x3 x4 σ
def f_L_law_B23_L1045 (xs : Nat → Int32) (L b9 : Nat) (Γ : zSh) (x0 : Nat) (x1 : Nat) (x2 : Nat) (x3 : Nat) (x4 : Int32) (σ : zSt) : Option ((Int32 × zSt) ⊕ ((zSt) ⊕ (Int32 × zSt))) :=
  f_L_law_B23_L1930 xs L b9 Γ x0 x1 x2 x3 x4 σ
def f_L_law_B23_L1101 (xs : Nat → Int32) (L b9 : Nat) (Γ : zSh) (x0 : Nat) (x1 : Nat) (x2 : Nat) (x3 : Nat) (x4 : Int32) (σ : zSt) : Option ((Int32 × zSt) ⊕ ((zSt) ⊕ (Int32 × zSt))) :=
  f_L_law_B23_L1930 xs L b9 Γ x0 x1 x2 x3 x4 σ
def f_L_law_B23_L1193 (xs : Nat → Int32) (L b9 : Nat) (Γ : zSh) (x0 : Nat) (x1 : Nat) (x2 : Nat) (x3 : Nat) (x4 : Int32) (σ : zSt) : Option ((Int32 × zSt) ⊕ ((zSt) ⊕ (Int32 × zSt))) :=
  f_L_law_B23_L1930 xs L b9 Γ x0 x1 x2 x3 x4 σ
def f_L_law_B23_L1273 (xs : Nat → Int32) (L b9 : Nat) (Γ : zSh) (x0 : Nat) (x1 : Nat) (x2 : Nat) (x3 : Nat) (x4 : Int32) (σ : zSt) : Option ((Int32 × zSt) ⊕ ((zSt) ⊕ (Int32 × zSt))) :=
  f_L_law_B23_L1930 xs L b9 Γ x0 x1 x2 x3 x4 σ
def f_L_law_B23_L1341 (xs : Nat → Int32) (L b9 : Nat) (Γ : zSh) (x0 : Nat) (x1 : Nat) (x2 : Nat) (x3 : Nat) (x4 : Int32) (σ : zSt) : Option ((Int32 × zSt) ⊕ ((zSt) ⊕ (Int32 × zSt))) :=
  f_L_law_B23_L1930 xs L b9 Γ x0 x1 x2 x3 x4 σ
def f_L_law_B23_L1409 (xs : Nat → Int32) (L b9 : Nat) (Γ : zSh) (x0 : Nat) (x1 : Nat) (x2 : Nat) (x3 : Nat) (x4 : Int32) (σ : zSt) : Option ((Int32 × zSt) ⊕ ((zSt) ⊕ (Int32 × zSt))) :=
  f_L_law_B23_L1930 xs L b9 Γ x0 x1 x2 x3 x4 σ
def f_L_law_B23_L1477 (xs : Nat → Int32) (L b9 : Nat) (Γ : zSh) (x0 : Nat) (x1 : Nat) (x2 : Nat) (x3 : Nat) (x4 : Int32) (σ : zSt) : Option ((Int32 × zSt) ⊕ ((zSt) ⊕ (Int32 × zSt))) :=
  f_L_law_B23_L1930 xs L b9 Γ x0 x1 x2 x3 x4 σ
def f_L_law_B23_L1545 (xs : Nat → Int32) (L b9 : Nat) (Γ : zSh) (x0 : Nat) (x1 : Nat) (x2 : Nat) (x3 : Nat) (x4 : Int32) (σ : zSt) : Option ((Int32 × zSt) ⊕ ((zSt) ⊕ (Int32 × zSt))) :=
  f_L_law_B23_L1930 xs L b9 Γ x0 x1 x2 x3 x4 σ
def f_L_law_B23_L1613 (xs : Nat → Int32) (L b9 : Nat) (Γ : zSh) (x0 : Nat) (x1 : Nat) (x2 : Nat) (x3 : Nat) (x4 : Int32) (σ : zSt) : Option ((Int32 × zSt) ⊕ ((zSt) ⊕ (Int32 × zSt))) :=
  f_L_law_B23_L1930 xs L b9 Γ x0 x1 x2 x3 x4 σ
def f_L_law_B23_L1688 (xs : Nat → Int32) (L b9 : Nat) (Γ : zSh) (x0 : Nat) (x1 : Nat) (x2 : Nat) (x3 : Nat) (x4 : Int32) (σ : zSt) : Option ((Int32 × zSt) ⊕ ((zSt) ⊕ (Int32 × zSt))) :=
  f_L_law_B23_L1930 xs L b9 Γ x0 x1 x2 x3 x4 σ
def f_L_law_B23_L1682 (xs : Nat → Int32) (L b9 : Nat) (Γ : zSh) (x0 : Nat) (x1 : Nat) (x2 : Nat) (x3 : Nat) (x4 : Int32) (s0 : Int64) (s1 : Int64) (σ : zSt) : Option ((Int32 × zSt) ⊕ ((zSt) ⊕ (Int32 × zSt))) :=
  if (lg_cmp s1 s0) = 0 then (f_L_law_B23_L1688 xs L b9 Γ x0 x1 x2 x3 x4 σ) else (chk (isB 0) (some (.inr (.inr (0, σ)))))
def f_L_law_B23_L1744 (xs : Nat → Int32) (L b9 : Nat) (Γ : zSh) (x0 : Nat) (x1 : Nat) (x2 : Nat) (x3 : Nat) (x4 : Int32) (σ : zSt) : Option ((Int32 × zSt) ⊕ ((zSt) ⊕ (Int32 × zSt))) :=
  f_L_law_B23_L1930 xs L b9 Γ x0 x1 x2 x3 x4 σ
def f_L_law_B23_L1800 (xs : Nat → Int32) (L b9 : Nat) (Γ : zSh) (x0 : Nat) (x1 : Nat) (x2 : Nat) (x3 : Nat) (x4 : Int32) (σ : zSt) : Option ((Int32 × zSt) ⊕ ((zSt) ⊕ (Int32 × zSt))) :=
  f_L_law_B23_L1930 xs L b9 Γ x0 x1 x2 x3 x4 σ
def f_L_law_B23_L1869 (xs : Nat → Int32) (L b9 : Nat) (Γ : zSh) (x0 : Nat) (x1 : Nat) (x2 : Nat) (x3 : Nat) (x4 : Int32) (σ : zSt) : Option ((Int32 × zSt) ⊕ ((zSt) ⊕ (Int32 × zSt))) :=
  f_L_law_B23_L1930 xs L b9 Γ x0 x1 x2 x3 x4 σ
def f_L_law_B23_L1913 (xs : Nat → Int32) (L b9 : Nat) (Γ : zSh) (x0 : Nat) (x1 : Nat) (x2 : Nat) (x3 : Nat) (x4 : Int32) (σ : zSt) : Option ((Int32 × zSt) ⊕ ((zSt) ⊕ (Int32 × zSt))) :=
  f_L_law_B23_L1930 xs L b9 Γ x0 x1 x2 x3 x4 σ
def f_L_law_B23 (xs : Nat → Int32) (L b9 : Nat) (Γ : zSh) (x0 : Nat) (x1 : Nat) (x2 : Nat) (x3 : Nat) (x4 : Int32) (σ : zSt) : Option ((Int32 × zSt) ⊕ ((zSt) ⊕ (Int32 × zSt))) :=
  scL b9 L x0 fun v1 =>
  if (v1 - 6) < x4 then (some (.inr (.inl σ))) else (scI xs b9 L x0 x4 fun v2 =>
  if (v2 &&& 31) = 0 then (scI xs b9 L x0 (x4 + 1) fun v3 =>
  scI xs b9 L x0 (x4 + 2) fun v4 =>
  bnd (f_L_begin Γ x1 v3 v4 x3 σ) fun r6 σ5 =>
  scI xs b9 L x0 (x4 + 1) fun v7 =>
  scI xs b9 L x0 (x4 + 2) fun v8 =>
  chk (isO Γ x2 7) <| bnd (f_X7_begin Γ x2 v7 v8 σ5) fun r10 σ9 =>
  chk (isO Γ x2 7) <| bnd (f_X7_thrown Γ x2 σ9) fun r12 σ11 =>
  if r12 = r6 then (if r6 = 0 then (ldL Γ σ11 x3 0 fun v13 =>
  if (lg_cmp v13 (r10.toInt64)) = 0 then (f_L_law_B23_L225 xs L b9 Γ x0 x1 x2 x3 x4 σ11) else (chk (isB 0) (some (.inr (.inr (0, σ11)))))) else (f_L_law_B23_L225 xs L b9 Γ x0 x1 x2 x3 x4 σ11)) else (chk (isB 0) (some (.inr (.inr (0, σ11)))))) else (if (v2 &&& 31) = 1 then (scI xs b9 L x0 (x4 + 1) fun v14 =>
  scI xs b9 L x0 (x4 + 2) fun v15 =>
  scI xs b9 L x0 (x4 + 3) fun v16 =>
  if v16 = 0 then (f_L_law_B23_L255 xs L b9 Γ x0 x1 x2 x3 x4 0 v15 v14 x1 σ) else (f_L_law_B23_L255 xs L b9 Γ x0 x1 x2 x3 x4 1 v15 v14 x1 σ)) else (if (v2 &&& 31) = 2 then (scI xs b9 L x0 (x4 + 1) fun v29 =>
  scI xs b9 L x0 (x4 + 2) fun v30 =>
  scI xs b9 L x0 (x4 + 3) fun v31 =>
  scI xs b9 L x0 (x4 + 4) fun v32 =>
  scI xs b9 L x0 (x4 + 5) fun v33 =>
  bnd (f_L_setStep Γ x1 v29 v30 v31 v32 v33 x3 σ) fun r35 σ34 =>
  scI xs b9 L x0 (x4 + 1) fun v36 =>
  scI xs b9 L x0 (x4 + 2) fun v37 =>
  scI xs b9 L x0 (x4 + 3) fun v38 =>
  scI xs b9 L x0 (x4 + 4) fun v39 =>
  scI xs b9 L x0 (x4 + 5) fun v40 =>
  chk (isO Γ x2 7) <| bnd (f_X7_setStep Γ x2 v36 v37 v38 v39 v40 σ34) fun r42 σ41 =>
  chk (isO Γ x2 7) <| bnd (f_X7_thrown Γ x2 σ41) fun r44 σ43 =>
  if r44 = r35 then (if r35 = 0 then (ldL Γ σ43 x3 0 fun v45 =>
  if (lg_cmp v45 (r42.toInt64)) = 0 then (f_L_law_B23_L437 xs L b9 Γ x0 x1 x2 x3 x4 σ43) else (chk (isB 0) (some (.inr (.inr (0, σ43)))))) else (f_L_law_B23_L437 xs L b9 Γ x0 x1 x2 x3 x4 σ43)) else (chk (isB 0) (some (.inr (.inr (0, σ43)))))) else (if (v2 &&& 31) = 3 then (scI xs b9 L x0 (x4 + 1) fun v46 =>
  scI xs b9 L x0 (x4 + 2) fun v47 =>
  scI xs b9 L x0 (x4 + 3) fun v48 =>
  bnd (f_L_random Γ x1 v46 v47 v48 x3 σ) fun r50 σ49 =>
  scI xs b9 L x0 (x4 + 1) fun v51 =>
  scI xs b9 L x0 (x4 + 2) fun v52 =>
  scI xs b9 L x0 (x4 + 3) fun v53 =>
  chk (isO Γ x2 7) <| bnd (f_X7_random Γ x2 v51 v52 v53 σ49) fun r55 σ54 =>
  chk (isO Γ x2 7) <| bnd (f_X7_thrown Γ x2 σ54) fun r57 σ56 =>
  if r57 = r50 then (if r50 = 0 then (ldL Γ σ56 x3 0 fun v58 =>
  if (lg_cmp v58 (r55.toInt64)) = 0 then (f_L_law_B23_L517 xs L b9 Γ x0 x1 x2 x3 x4 σ56) else (chk (isB 0) (some (.inr (.inr (0, σ56)))))) else (f_L_law_B23_L517 xs L b9 Γ x0 x1 x2 x3 x4 σ56)) else (chk (isB 0) (some (.inr (.inr (0, σ56)))))) else (if (v2 &&& 31) = 4 then (scI xs b9 L x0 (x4 + 1) fun v59 =>
  bnd (f_L_states Γ x1 v59 x3 σ) fun r61 σ60 =>
  scI xs b9 L x0 (x4 + 1) fun v62 =>
  chk (isO Γ x2 7) <| bnd (f_X7_states Γ x2 v62 σ60) fun r64 σ63 =>
  chk (isO Γ x2 7) <| bnd (f_X7_thrown Γ x2 σ63) fun r66 σ65 =>
  if r66 = r61 then (if r61 = 0 then (ldL Γ σ65 x3 0 fun v67 =>
  if (lg_cmp v67 (r64.toInt64)) = 0 then (f_L_law_B23_L573 xs L b9 Γ x0 x1 x2 x3 x4 σ65) else (chk (isB 0) (some (.inr (.inr (0, σ65)))))) else (f_L_law_B23_L573 xs L b9 Γ x0 x1 x2 x3 x4 σ65)) else (chk (isB 0) (some (.inr (.inr (0, σ65)))))) else (if (v2 &&& 31) = 5 then (scI xs b9 L x0 (x4 + 1) fun v68 =>
  scI xs b9 L x0 (x4 + 2) fun v69 =>
  scI xs b9 L x0 (x4 + 3) fun v70 =>
  if v70 = 0 then (f_L_law_B23_L603 xs L b9 Γ x0 x1 x2 x3 x4 0 v69 v68 x1 σ) else (f_L_law_B23_L603 xs L b9 Γ x0 x1 x2 x3 x4 1 v69 v68 x1 σ)) else (if (v2 &&& 31) = 6 then (scI xs b9 L x0 (x4 + 1) fun v81 =>
  scI xs b9 L x0 (x4 + 2) fun v82 =>
  scI xs b9 L x0 (x4 + 3) fun v83 =>
  scI xs b9 L x0 (x4 + 4) fun v84 =>
  bnd (f_L_step Γ x1 v81 v82 v83 v84 x3 σ) fun r86 σ85 =>
  scI xs b9 L x0 (x4 + 1) fun v87 =>
  scI xs b9 L x0 (x4 + 2) fun v88 =>
  scI xs b9 L x0 (x4 + 3) fun v89 =>
  scI xs b9 L x0 (x4 + 4) fun v90 =>
  chk (isO Γ x2 7) <| bnd (f_X7_step Γ x2 v87 v88 v89 v90 σ85) fun r92 σ91 =>
  chk (isO Γ x2 7) <| bnd (f_X7_thrown Γ x2 σ91) fun r94 σ93 =>
  if r94 = r86 then (if r86 = 0 then (ldL Γ σ93 x3 0 fun v95 =>
  if (lg_cmp v95 (r92.toInt64)) = 0 then (f_L_law_B23_L761 xs L b9 Γ x0 x1 x2 x3 x4 σ93) else (chk (isB 0) (some (.inr (.inr (0, σ93)))))) else (f_L_law_B23_L761 xs L b9 Γ x0 x1 x2 x3 x4 σ93)) else (chk (isB 0) (some (.inr (.inr (0, σ93)))))) else (if (v2 &&& 31) = 7 then (scI xs b9 L x0 (x4 + 1) fun v96 =>
  scI xs b9 L x0 (x4 + 2) fun v97 =>
  bnd (f_L_weight Γ x1 v96 v97 x3 σ) fun r99 σ98 =>
  scI xs b9 L x0 (x4 + 1) fun v100 =>
  scI xs b9 L x0 (x4 + 2) fun v101 =>
  chk (isO Γ x2 7) <| bnd (f_X7_weight Γ x2 v100 v101 σ98) fun r103 σ102 =>
  chk (isO Γ x2 7) <| bnd (f_X7_thrown Γ x2 σ102) fun r105 σ104 =>
  if r105 = r99 then (if r99 = 0 then (ldL Γ σ104 x3 0 fun v106 =>
  if (lg_cmp v106 (r103.toInt64)) = 0 then (f_L_law_B23_L829 xs L b9 Γ x0 x1 x2 x3 x4 σ104) else (chk (isB 0) (some (.inr (.inr (0, σ104)))))) else (f_L_law_B23_L829 xs L b9 Γ x0 x1 x2 x3 x4 σ104)) else (chk (isB 0) (some (.inr (.inr (0, σ104)))))) else (if (v2 &&& 31) = 8 then (scI xs b9 L x0 (x4 + 1) fun v107 =>
  scI xs b9 L x0 (x4 + 2) fun v108 =>
  scI xs b9 L x0 (x4 + 3) fun v109 =>
  bnd (f_L_powerWeight Γ x1 v107 v108 v109 x3 σ) fun r111 σ110 =>
  scI xs b9 L x0 (x4 + 1) fun v112 =>
  scI xs b9 L x0 (x4 + 2) fun v113 =>
  scI xs b9 L x0 (x4 + 3) fun v114 =>
  chk (isO Γ x2 7) <| bnd (f_X7_powerWeight Γ x2 v112 v113 v114 σ110) fun r116 σ115 =>
  chk (isO Γ x2 7) <| bnd (f_X7_thrown Γ x2 σ115) fun r118 σ117 =>
  if r118 = r111 then (if r111 = 0 then (ldL Γ σ117 x3 0 fun v119 =>
  if (lg_cmp v119 (r116.toInt64)) = 0 then (f_L_law_B23_L909 xs L b9 Γ x0 x1 x2 x3 x4 σ117) else (chk (isB 0) (some (.inr (.inr (0, σ117)))))) else (f_L_law_B23_L909 xs L b9 Γ x0 x1 x2 x3 x4 σ117)) else (chk (isB 0) (some (.inr (.inr (0, σ117)))))) else (if (v2 &&& 31) = 9 then (scI xs b9 L x0 (x4 + 1) fun v120 =>
  scI xs b9 L x0 (x4 + 2) fun v121 =>
  bnd (f_L_total Γ x1 v120 v121 x3 σ) fun r123 σ122 =>
  scI xs b9 L x0 (x4 + 1) fun v124 =>
  scI xs b9 L x0 (x4 + 2) fun v125 =>
  chk (isO Γ x2 7) <| bnd (f_X7_total Γ x2 v124 v125 σ122) fun r127 σ126 =>
  chk (isO Γ x2 7) <| bnd (f_X7_thrown Γ x2 σ126) fun r129 σ128 =>
  if r129 = r123 then (if r123 = 0 then (ldL Γ σ128 x3 0 fun v130 =>
  if (lg_cmp v130 (r127.toInt64)) = 0 then (f_L_law_B23_L977 xs L b9 Γ x0 x1 x2 x3 x4 σ128) else (chk (isB 0) (some (.inr (.inr (0, σ128)))))) else (f_L_law_B23_L977 xs L b9 Γ x0 x1 x2 x3 x4 σ128)) else (chk (isB 0) (some (.inr (.inr (0, σ128)))))) else (if (v2 &&& 31) = 10 then (scI xs b9 L x0 (x4 + 1) fun v131 =>
  scI xs b9 L x0 (x4 + 2) fun v132 =>
  bnd (f_L_support Γ x1 v131 v132 x3 σ) fun r134 σ133 =>
  scI xs b9 L x0 (x4 + 1) fun v135 =>
  scI xs b9 L x0 (x4 + 2) fun v136 =>
  chk (isO Γ x2 7) <| bnd (f_X7_support Γ x2 v135 v136 σ133) fun r138 σ137 =>
  chk (isO Γ x2 7) <| bnd (f_X7_thrown Γ x2 σ137) fun r140 σ139 =>
  if r140 = r134 then (if r134 = 0 then (ldL Γ σ139 x3 0 fun v141 =>
  if (lg_cmp v141 (r138.toInt64)) = 0 then (f_L_law_B23_L1045 xs L b9 Γ x0 x1 x2 x3 x4 σ139) else (chk (isB 0) (some (.inr (.inr (0, σ139)))))) else (f_L_law_B23_L1045 xs L b9 Γ x0 x1 x2 x3 x4 σ139)) else (chk (isB 0) (some (.inr (.inr (0, σ139)))))) else (if (v2 &&& 31) = 11 then (scI xs b9 L x0 (x4 + 1) fun v142 =>
  bnd (f_L_first Γ x1 v142 x3 σ) fun r144 σ143 =>
  scI xs b9 L x0 (x4 + 1) fun v145 =>
  chk (isO Γ x2 7) <| bnd (f_X7_first Γ x2 v145 σ143) fun r147 σ146 =>
  chk (isO Γ x2 7) <| bnd (f_X7_thrown Γ x2 σ146) fun r149 σ148 =>
  if r149 = r144 then (if r144 = 0 then (ldL Γ σ148 x3 0 fun v150 =>
  if (lg_cmp v150 (r147.toInt64)) = 0 then (f_L_law_B23_L1101 xs L b9 Γ x0 x1 x2 x3 x4 σ148) else (chk (isB 0) (some (.inr (.inr (0, σ148)))))) else (f_L_law_B23_L1101 xs L b9 Γ x0 x1 x2 x3 x4 σ148)) else (chk (isB 0) (some (.inr (.inr (0, σ148)))))) else (if (v2 &&& 31) = 12 then (scI xs b9 L x0 (x4 + 1) fun v151 =>
  scI xs b9 L x0 (x4 + 2) fun v152 =>
  scI xs b9 L x0 (x4 + 3) fun v153 =>
  scI xs b9 L x0 (x4 + 4) fun v154 =>
  bnd (f_L_combine Γ x1 v151 v152 v153 v154 x3 σ) fun r156 σ155 =>
  scI xs b9 L x0 (x4 + 1) fun v157 =>
  scI xs b9 L x0 (x4 + 2) fun v158 =>
  scI xs b9 L x0 (x4 + 3) fun v159 =>
  scI xs b9 L x0 (x4 + 4) fun v160 =>
  chk (isO Γ x2 7) <| bnd (f_X7_combine Γ x2 v157 v158 v159 v160 σ155) fun r162 σ161 =>
  chk (isO Γ x2 7) <| bnd (f_X7_thrown Γ x2 σ161) fun r164 σ163 =>
  if r164 = r156 then (if r156 = 0 then (ldL Γ σ163 x3 0 fun v165 =>
  if (lg_cmp v165 (r162.toInt64)) = 0 then (f_L_law_B23_L1193 xs L b9 Γ x0 x1 x2 x3 x4 σ163) else (chk (isB 0) (some (.inr (.inr (0, σ163)))))) else (f_L_law_B23_L1193 xs L b9 Γ x0 x1 x2 x3 x4 σ163)) else (chk (isB 0) (some (.inr (.inr (0, σ163)))))) else (if (v2 &&& 31) = 13 then (scI xs b9 L x0 (x4 + 1) fun v166 =>
  scI xs b9 L x0 (x4 + 2) fun v167 =>
  scI xs b9 L x0 (x4 + 3) fun v168 =>
  bnd (f_L_derive Γ x1 v166 v167 v168 x3 σ) fun r170 σ169 =>
  scI xs b9 L x0 (x4 + 1) fun v171 =>
  scI xs b9 L x0 (x4 + 2) fun v172 =>
  scI xs b9 L x0 (x4 + 3) fun v173 =>
  chk (isO Γ x2 7) <| bnd (f_X7_derive Γ x2 v171 v172 v173 σ169) fun r175 σ174 =>
  chk (isO Γ x2 7) <| bnd (f_X7_thrown Γ x2 σ174) fun r177 σ176 =>
  if r177 = r170 then (if r170 = 0 then (ldL Γ σ176 x3 0 fun v178 =>
  if (lg_cmp v178 (r175.toInt64)) = 0 then (f_L_law_B23_L1273 xs L b9 Γ x0 x1 x2 x3 x4 σ176) else (chk (isB 0) (some (.inr (.inr (0, σ176)))))) else (f_L_law_B23_L1273 xs L b9 Γ x0 x1 x2 x3 x4 σ176)) else (chk (isB 0) (some (.inr (.inr (0, σ176)))))) else (if (v2 &&& 31) = 14 then (scI xs b9 L x0 (x4 + 1) fun v179 =>
  scI xs b9 L x0 (x4 + 2) fun v180 =>
  bnd (f_L_scale Γ x1 v179 v180 x3 σ) fun r182 σ181 =>
  scI xs b9 L x0 (x4 + 1) fun v183 =>
  scI xs b9 L x0 (x4 + 2) fun v184 =>
  chk (isO Γ x2 7) <| bnd (f_X7_scale Γ x2 v183 v184 σ181) fun r186 σ185 =>
  chk (isO Γ x2 7) <| bnd (f_X7_thrown Γ x2 σ185) fun r188 σ187 =>
  if r188 = r182 then (if r182 = 0 then (ldL Γ σ187 x3 0 fun v189 =>
  if (lg_cmp v189 (r186.toInt64)) = 0 then (f_L_law_B23_L1341 xs L b9 Γ x0 x1 x2 x3 x4 σ187) else (chk (isB 0) (some (.inr (.inr (0, σ187)))))) else (f_L_law_B23_L1341 xs L b9 Γ x0 x1 x2 x3 x4 σ187)) else (chk (isB 0) (some (.inr (.inr (0, σ187)))))) else (if (v2 &&& 31) = 15 then (scI xs b9 L x0 (x4 + 1) fun v190 =>
  scI xs b9 L x0 (x4 + 2) fun v191 =>
  bnd (f_L_dimension Γ x1 v190 v191 x3 σ) fun r193 σ192 =>
  scI xs b9 L x0 (x4 + 1) fun v194 =>
  scI xs b9 L x0 (x4 + 2) fun v195 =>
  chk (isO Γ x2 7) <| bnd (f_X7_dimension Γ x2 v194 v195 σ192) fun r197 σ196 =>
  chk (isO Γ x2 7) <| bnd (f_X7_thrown Γ x2 σ196) fun r199 σ198 =>
  if r199 = r193 then (if r193 = 0 then (ldL Γ σ198 x3 0 fun v200 =>
  if (lg_cmp v200 (r197.toInt64)) = 0 then (f_L_law_B23_L1409 xs L b9 Γ x0 x1 x2 x3 x4 σ198) else (chk (isB 0) (some (.inr (.inr (0, σ198)))))) else (f_L_law_B23_L1409 xs L b9 Γ x0 x1 x2 x3 x4 σ198)) else (chk (isB 0) (some (.inr (.inr (0, σ198)))))) else (if (v2 &&& 31) = 16 then (scI xs b9 L x0 (x4 + 1) fun v201 =>
  scI xs b9 L x0 (x4 + 2) fun v202 =>
  bnd (f_L_basisWord Γ x1 v201 v202 x3 σ) fun r204 σ203 =>
  scI xs b9 L x0 (x4 + 1) fun v205 =>
  scI xs b9 L x0 (x4 + 2) fun v206 =>
  chk (isO Γ x2 7) <| bnd (f_X7_basisWord Γ x2 v205 v206 σ203) fun r208 σ207 =>
  chk (isO Γ x2 7) <| bnd (f_X7_thrown Γ x2 σ207) fun r210 σ209 =>
  if r210 = r204 then (if r204 = 0 then (ldL Γ σ209 x3 0 fun v211 =>
  if (lg_cmp v211 (r208.toInt64)) = 0 then (f_L_law_B23_L1477 xs L b9 Γ x0 x1 x2 x3 x4 σ209) else (chk (isB 0) (some (.inr (.inr (0, σ209)))))) else (f_L_law_B23_L1477 xs L b9 Γ x0 x1 x2 x3 x4 σ209)) else (chk (isB 0) (some (.inr (.inr (0, σ209)))))) else (if (v2 &&& 31) = 17 then (scI xs b9 L x0 (x4 + 1) fun v212 =>
  scI xs b9 L x0 (x4 + 2) fun v213 =>
  bnd (f_L_differing Γ x1 v212 v213 x3 σ) fun r215 σ214 =>
  scI xs b9 L x0 (x4 + 1) fun v216 =>
  scI xs b9 L x0 (x4 + 2) fun v217 =>
  chk (isO Γ x2 7) <| bnd (f_X7_differing Γ x2 v216 v217 σ214) fun r219 σ218 =>
  chk (isO Γ x2 7) <| bnd (f_X7_thrown Γ x2 σ218) fun r221 σ220 =>
  if r221 = r215 then (if r215 = 0 then (ldL Γ σ220 x3 0 fun v222 =>
  if (lg_cmp v222 (r219.toInt64)) = 0 then (f_L_law_B23_L1545 xs L b9 Γ x0 x1 x2 x3 x4 σ220) else (chk (isB 0) (some (.inr (.inr (0, σ220)))))) else (f_L_law_B23_L1545 xs L b9 Γ x0 x1 x2 x3 x4 σ220)) else (chk (isB 0) (some (.inr (.inr (0, σ220)))))) else (if (v2 &&& 31) = 18 then (scI xs b9 L x0 (x4 + 1) fun v223 =>
  scI xs b9 L x0 (x4 + 2) fun v224 =>
  bnd (f_L_hankelRank Γ x1 v223 v224 x3 σ) fun r226 σ225 =>
  scI xs b9 L x0 (x4 + 1) fun v227 =>
  scI xs b9 L x0 (x4 + 2) fun v228 =>
  chk (isO Γ x2 7) <| bnd (f_X7_hankelRank Γ x2 v227 v228 σ225) fun r230 σ229 =>
  chk (isO Γ x2 7) <| bnd (f_X7_thrown Γ x2 σ229) fun r232 σ231 =>
  if r232 = r226 then (if r226 = 0 then (ldL Γ σ231 x3 0 fun v233 =>
  if (lg_cmp v233 (r230.toInt64)) = 0 then (f_L_law_B23_L1613 xs L b9 Γ x0 x1 x2 x3 x4 σ231) else (chk (isB 0) (some (.inr (.inr (0, σ231)))))) else (f_L_law_B23_L1613 xs L b9 Γ x0 x1 x2 x3 x4 σ231)) else (chk (isB 0) (some (.inr (.inr (0, σ231)))))) else (if (v2 &&& 31) = 19 then (scI xs b9 L x0 (x4 + 1) fun v234 =>
  scI xs b9 L x0 (x4 + 2) fun v235 =>
  bnd (f_L_recurs Γ x1 v234 v235 x3 σ) fun r237 σ236 =>
  scI xs b9 L x0 (x4 + 1) fun v238 =>
  scI xs b9 L x0 (x4 + 2) fun v239 =>
  chk (isO Γ x2 7) <| bnd (f_X7_recurs Γ x2 v238 v239 σ236) fun r241 σ240 =>
  chk (isO Γ x2 7) <| bnd (f_X7_thrown Γ x2 σ240) fun r243 σ242 =>
  if r243 = r237 then (if r237 = 0 then (ldL Γ σ242 x3 0 fun v244 =>
  if r241 = 0 then (f_L_law_B23_L1682 xs L b9 Γ x0 x1 x2 x3 x4 0 v244 σ242) else (f_L_law_B23_L1682 xs L b9 Γ x0 x1 x2 x3 x4 1 v244 σ242)) else (f_L_law_B23_L1688 xs L b9 Γ x0 x1 x2 x3 x4 σ242)) else (chk (isB 0) (some (.inr (.inr (0, σ242)))))) else (if (v2 &&& 31) = 20 then (scI xs b9 L x0 (x4 + 1) fun v245 =>
  bnd (f_L_inverse Γ x1 v245 x3 σ) fun r247 σ246 =>
  scI xs b9 L x0 (x4 + 1) fun v248 =>
  chk (isO Γ x2 7) <| bnd (f_X7_inverse Γ x2 v248 σ246) fun r250 σ249 =>
  chk (isO Γ x2 7) <| bnd (f_X7_thrown Γ x2 σ249) fun r252 σ251 =>
  if r252 = r247 then (if r247 = 0 then (ldL Γ σ251 x3 0 fun v253 =>
  if (lg_cmp v253 (r250.toInt64)) = 0 then (f_L_law_B23_L1744 xs L b9 Γ x0 x1 x2 x3 x4 σ251) else (chk (isB 0) (some (.inr (.inr (0, σ251)))))) else (f_L_law_B23_L1744 xs L b9 Γ x0 x1 x2 x3 x4 σ251)) else (chk (isB 0) (some (.inr (.inr (0, σ251)))))) else (if (v2 &&& 31) = 21 then (scI xs b9 L x0 (x4 + 1) fun v254 =>
  bnd (f_L_append Γ x1 v254 x3 σ) fun r256 σ255 =>
  scI xs b9 L x0 (x4 + 1) fun v257 =>
  chk (isO Γ x2 7) <| bnd (f_X7_append Γ x2 v257 σ255) fun r259 σ258 =>
  chk (isO Γ x2 7) <| bnd (f_X7_thrown Γ x2 σ258) fun r261 σ260 =>
  if r261 = r256 then (if r256 = 0 then (ldL Γ σ260 x3 0 fun v262 =>
  if (lg_cmp v262 (r259.toInt64)) = 0 then (f_L_law_B23_L1800 xs L b9 Γ x0 x1 x2 x3 x4 σ260) else (chk (isB 0) (some (.inr (.inr (0, σ260)))))) else (f_L_law_B23_L1800 xs L b9 Γ x0 x1 x2 x3 x4 σ260)) else (chk (isB 0) (some (.inr (.inr (0, σ260)))))) else (if (v2 &&& 31) = 22 then (chk (isO Γ x1 6) <| bnd (f_X6_clearText Γ x1 σ) fun r264 σ263 =>
  chk (isO Γ x2 7) <| bnd (f_X7_clearText Γ x2 σ263) fun r266 σ265 =>
  if r264 = r266 then (f_L_law_B23_L1930 xs L b9 Γ x0 x1 x2 x3 x4 σ265) else (chk (isB 0) (some (.inr (.inr (0, σ265)))))) else (if (v2 &&& 31) = 23 then (scI xs b9 L x0 (x4 + 1) fun v267 =>
  bnd (f_L_parse Γ x1 v267 x3 σ) fun r269 σ268 =>
  scI xs b9 L x0 (x4 + 1) fun v270 =>
  chk (isO Γ x2 7) <| bnd (f_X7_parse Γ x2 v270 σ268) fun r272 σ271 =>
  chk (isO Γ x2 7) <| bnd (f_X7_thrown Γ x2 σ271) fun r274 σ273 =>
  if r274 = r269 then (if r269 = 0 then (ldL Γ σ273 x3 0 fun v275 =>
  if (lg_cmp v275 (r272.toInt64)) = 0 then (f_L_law_B23_L1869 xs L b9 Γ x0 x1 x2 x3 x4 σ273) else (chk (isB 0) (some (.inr (.inr (0, σ273)))))) else (f_L_law_B23_L1869 xs L b9 Γ x0 x1 x2 x3 x4 σ273)) else (chk (isB 0) (some (.inr (.inr (0, σ273)))))) else (if (v2 &&& 31) = 24 then (bnd (f_L_undo Γ x1 x3 σ) fun r277 σ276 =>
  chk (isO Γ x2 7) <| bnd (f_X7_undo Γ x2 σ276) fun r279 σ278 =>
  chk (isO Γ x2 7) <| bnd (f_X7_thrown Γ x2 σ278) fun r281 σ280 =>
  if r281 = r277 then (if r277 = 0 then (ldL Γ σ280 x3 0 fun v282 =>
  if (lg_cmp v282 (r279.toInt64)) = 0 then (f_L_law_B23_L1913 xs L b9 Γ x0 x1 x2 x3 x4 σ280) else (chk (isB 0) (some (.inr (.inr (0, σ280)))))) else (f_L_law_B23_L1913 xs L b9 Γ x0 x1 x2 x3 x4 σ280)) else (chk (isB 0) (some (.inr (.inr (0, σ280)))))) else (if (v2 &&& 31) = 25 then (chk (isO Γ x1 6) <| bnd (f_X6_digest Γ x1 σ) fun r284 σ283 =>
  chk (isO Γ x2 7) <| bnd (f_X7_digest Γ x2 σ283) fun r286 σ285 =>
  if (lg_cmp r284 r286) = 0 then (f_L_law_B23_L1930 xs L b9 Γ x0 x1 x2 x3 x4 σ285) else (chk (isB 0) (some (.inr (.inr (0, σ285)))))) else (f_L_law_B23_L1930 xs L b9 Γ x0 x1 x2 x3 x4 σ)))))))))))))))))))))))))))
