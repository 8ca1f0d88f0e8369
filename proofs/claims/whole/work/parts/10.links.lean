theorem lkF_X6_13 : Cond.fieldLink RX6 13 (TX6 0).1 (TX6 0).2.1 (TX6 0).2.2.1 ∈ tbG := tg_i 272 (by decide +kernel) (by decide +kernel)
theorem lkF_X6_17 : Cond.fieldLink RX6 17 (TX6 1).1 (TX6 1).2.1 (TX6 1).2.2.1 ∈ tbG := tg_i 273 (by decide +kernel) (by decide +kernel)
theorem lkF_X6_20 : Cond.fieldLink RX6 20 (TX6 2).1 (TX6 2).2.1 (TX6 2).2.2.1 ∈ tbG := tg_i 274 (by decide +kernel) (by decide +kernel)
theorem lkF_X6_24 : Cond.fieldLink RX6 24 (TX6 3).1 (TX6 3).2.1 (TX6 3).2.2.1 ∈ tbG := tg_i 275 (by decide +kernel) (by decide +kernel)
theorem lkF_X6_33 : Cond.fieldLink RX6 33 (TX6 4).1 (TX6 4).2.1 (TX6 4).2.2.1 ∈ tbG := tg_i 276 (by decide +kernel) (by decide +kernel)
theorem lkF_X6_37 : Cond.fieldLink RX6 37 (TX6 5).1 (TX6 5).2.1 (TX6 5).2.2.1 ∈ tbG := tg_i 277 (by decide +kernel) (by decide +kernel)
theorem lkF_X6_43 : Cond.fieldLink RX6 43 (TX6 6).1 (TX6 6).2.1 (TX6 6).2.2.1 ∈ tbG := tg_i 278 (by decide +kernel) (by decide +kernel)
theorem lkF_X6_50 : Cond.fieldLink RX6 50 (TX6 7).1 (TX6 7).2.1 (TX6 7).2.2.1 ∈ tbG := tg_i 279 (by decide +kernel) (by decide +kernel)
theorem lkF_X6_57 : Cond.fieldLink RX6 57 (TX6 8).1 (TX6 8).2.1 (TX6 8).2.2.1 ∈ tbG := tg_i 280 (by decide +kernel) (by decide +kernel)
theorem lkF_X6_64 : Cond.fieldLink RX6 64 (TX6 9).1 (TX6 9).2.1 (TX6 9).2.2.1 ∈ tbG := tg_i 281 (by decide +kernel) (by decide +kernel)
theorem lkF_X6_68 : Cond.fieldLink RX6 68 (TX6 10).1 (TX6 10).2.1 (TX6 10).2.2.1 ∈ tbG := tg_i 282 (by decide +kernel) (by decide +kernel)
theorem lkF_X6_74 : Cond.fieldLink RX6 74 (TX6 11).1 (TX6 11).2.1 (TX6 11).2.2.1 ∈ tbG := tg_i 283 (by decide +kernel) (by decide +kernel)
theorem lkF_X6_85 : Cond.fieldLink RX6 85 (TX0 0).1 (TX0 0).2.1 (TX0 0).2.2.1 ∈ tbG := tg_i 125 (by decide +kernel) (by decide +kernel)
theorem lkF_X6_106 : Cond.fieldLink RX6 106 (TX0 3).1 (TX0 3).2.1 (TX0 3).2.2.1 ∈ tbG := tg_i 137 (by decide +kernel) (by decide +kernel)
theorem lkF_X6_190 : Cond.fieldLink RX6 190 (TX0 1).1 (TX0 1).2.1 (TX0 1).2.2.1 ∈ tbG := tg_i 132 (by decide +kernel) (by decide +kernel)
theorem lkF_X6_201 : Cond.fieldLink RX6 201 (TX1 0).1 (TX1 0).2.1 (TX1 0).2.2.1 ∈ tbG := tg_i 184 (by decide +kernel) (by decide +kernel)
theorem lkF_X6_209 : Cond.fieldLink RX6 209 (TX1 1).1 (TX1 1).2.1 (TX1 1).2.2.1 ∈ tbG := tg_i 186 (by decide +kernel) (by decide +kernel)
theorem lkF_X6_215 : Cond.fieldLink RX6 215 (TX3 0).1 (TX3 0).2.1 (TX3 0).2.2.1 ∈ tbG := tg_i 227 (by decide +kernel) (by decide +kernel)
theorem lkF_X6_233 : Cond.fieldLink RX6 233 (TX2 1).1 (TX2 1).2.1 (TX2 1).2.2.1 ∈ tbG := tg_i 243 (by decide +kernel) (by decide +kernel)
theorem lkF_X6_238 : Cond.fieldLink RX6 238 (TX2 0).1 (TX2 0).2.1 (TX2 0).2.2.1 ∈ tbG := tg_i 241 (by decide +kernel) (by decide +kernel)
theorem lkF_X6_248 : Cond.fieldLink RX6 248 (TX2 2).1 (TX2 2).2.1 (TX2 2).2.2.1 ∈ tbG := tg_i 245 (by decide +kernel) (by decide +kernel)
theorem lkF_X0_9 : Cond.fieldLink RX0 9 (TX0 0).1 (TX0 0).2.1 (TX0 0).2.2.1 ∈ tbG := tg_i 122 (by decide +kernel) (by decide +kernel)
theorem lkF_X0_15 : Cond.fieldLink RX0 15 (TX0 1).1 (TX0 1).2.1 (TX0 1).2.2.1 ∈ tbG := tg_i 128 (by decide +kernel) (by decide +kernel)
theorem lkF_X0_19 : Cond.fieldLink RX0 19 (TX0 2).1 (TX0 2).2.1 (TX0 2).2.2.1 ∈ tbG := tg_i 133 (by decide +kernel) (by decide +kernel)
theorem lkF_X0_24 : Cond.fieldLink RX0 24 (TX0 3).1 (TX0 3).2.1 (TX0 3).2.2.1 ∈ tbG := tg_i 136 (by decide +kernel) (by decide +kernel)
theorem lkF_X1_9 : Cond.fieldLink RX1 9 (TX1 1).1 (TX1 1).2.1 (TX1 1).2.2.1 ∈ tbG := tg_i 185 (by decide +kernel) (by decide +kernel)
theorem lkF_X1_15 : Cond.fieldLink RX1 15 (TX1 2).1 (TX1 2).2.1 (TX1 2).2.2.1 ∈ tbG := tg_i 187 (by decide +kernel) (by decide +kernel)
theorem lkF_X1_20 : Cond.fieldLink RX1 20 (TX1 3).1 (TX1 3).2.1 (TX1 3).2.2.1 ∈ tbG := tg_i 188 (by decide +kernel) (by decide +kernel)
theorem lkF_X1_23 : Cond.fieldLink RX1 23 (TX1 4).1 (TX1 4).2.1 (TX1 4).2.2.1 ∈ tbG := tg_i 189 (by decide +kernel) (by decide +kernel)
theorem lkF_X1_26 : Cond.fieldLink RX1 26 (TX1 5).1 (TX1 5).2.1 (TX1 5).2.2.1 ∈ tbG := tg_i 190 (by decide +kernel) (by decide +kernel)
theorem lkF_X1_29 : Cond.fieldLink RX1 29 (TX1 6).1 (TX1 6).2.1 (TX1 6).2.2.1 ∈ tbG := tg_i 191 (by decide +kernel) (by decide +kernel)
theorem lkF_X1_32 : Cond.fieldLink RX1 32 (TX1 7).1 (TX1 7).2.1 (TX1 7).2.2.1 ∈ tbG := tg_i 192 (by decide +kernel) (by decide +kernel)
theorem lkF_X1_35 : Cond.fieldLink RX1 35 (TX1 8).1 (TX1 8).2.1 (TX1 8).2.2.1 ∈ tbG := tg_i 193 (by decide +kernel) (by decide +kernel)
theorem lkF_X1_38 : Cond.fieldLink RX1 38 (TX1 9).1 (TX1 9).2.1 (TX1 9).2.2.1 ∈ tbG := tg_i 194 (by decide +kernel) (by decide +kernel)
theorem lkF_X1_41 : Cond.fieldLink RX1 41 (TX1 10).1 (TX1 10).2.1 (TX1 10).2.2.1 ∈ tbG := tg_i 195 (by decide +kernel) (by decide +kernel)
theorem lkF_X1_44 : Cond.fieldLink RX1 44 (TX0 0).1 (TX0 0).2.1 (TX0 0).2.2.1 ∈ tbG := tg_i 123 (by decide +kernel) (by decide +kernel)
theorem lkF_X1_50 : Cond.fieldLink RX1 50 (TX1 0).1 (TX1 0).2.1 (TX1 0).2.2.1 ∈ tbG := tg_i 183 (by decide +kernel) (by decide +kernel)
theorem lkF_X1_53 : Cond.fieldLink RX1 53 (TX0 1).1 (TX0 1).2.1 (TX0 1).2.2.1 ∈ tbG := tg_i 131 (by decide +kernel) (by decide +kernel)
theorem lkF_X1_100 : Cond.fieldLink RX1 100 (TX0 2).1 (TX0 2).2.1 (TX0 2).2.2.1 ∈ tbG := tg_i 135 (by decide +kernel) (by decide +kernel)
theorem lkF_X1_103 : Cond.fieldLink RX1 103 (TX0 3).1 (TX0 3).2.1 (TX0 3).2.2.1 ∈ tbG := tg_i 138 (by decide +kernel) (by decide +kernel)
theorem lkF_X2_9 : Cond.fieldLink RX2 9 (TX2 0).1 (TX2 0).2.1 (TX2 0).2.2.1 ∈ tbG := tg_i 240 (by decide +kernel) (by decide +kernel)
theorem lkF_X2_19 : Cond.fieldLink RX2 19 (TX2 2).1 (TX2 2).2.1 (TX2 2).2.2.1 ∈ tbG := tg_i 244 (by decide +kernel) (by decide +kernel)
theorem lkF_X2_23 : Cond.fieldLink RX2 23 (TX2 3).1 (TX2 3).2.1 (TX2 3).2.2.1 ∈ tbG := tg_i 246 (by decide +kernel) (by decide +kernel)
theorem lkF_X2_27 : Cond.fieldLink RX2 27 (TX2 4).1 (TX2 4).2.1 (TX2 4).2.2.1 ∈ tbG := tg_i 247 (by decide +kernel) (by decide +kernel)
theorem lkF_X2_30 : Cond.fieldLink RX2 30 (TX2 5).1 (TX2 5).2.1 (TX2 5).2.2.1 ∈ tbG := tg_i 248 (by decide +kernel) (by decide +kernel)
theorem lkF_X2_38 : Cond.fieldLink RX2 38 (TX2 6).1 (TX2 6).2.1 (TX2 6).2.2.1 ∈ tbG := tg_i 249 (by decide +kernel) (by decide +kernel)
theorem lkF_X2_42 : Cond.fieldLink RX2 42 (TX2 8).1 (TX2 8).2.1 (TX2 8).2.2.1 ∈ tbG := tg_i 251 (by decide +kernel) (by decide +kernel)
theorem lkF_X2_45 : Cond.fieldLink RX2 45 (TX2 1).1 (TX2 1).2.1 (TX2 1).2.2.1 ∈ tbG := tg_i 242 (by decide +kernel) (by decide +kernel)
theorem lkF_X2_57 : Cond.fieldLink RX2 57 (TX2 7).1 (TX2 7).2.1 (TX2 7).2.2.1 ∈ tbG := tg_i 250 (by decide +kernel) (by decide +kernel)
theorem lkF_X2_85 : Cond.fieldLink RX2 85 (TX0 2).1 (TX0 2).2.1 (TX0 2).2.2.1 ∈ tbG := tg_i 134 (by decide +kernel) (by decide +kernel)
theorem lkF_X2_112 : Cond.fieldLink RX2 112 (TX0 0).1 (TX0 0).2.1 (TX0 0).2.2.1 ∈ tbG := tg_i 127 (by decide +kernel) (by decide +kernel)
theorem lkF_X3_11 : Cond.fieldLink RX3 11 (TX3 0).1 (TX3 0).2.1 (TX3 0).2.2.1 ∈ tbG := tg_i 226 (by decide +kernel) (by decide +kernel)
theorem lkF_X4_9 : Cond.fieldLink RX4 9 (TX4 0).1 (TX4 0).2.1 (TX4 0).2.2.1 ∈ tbG := tg_i 169 (by decide +kernel) (by decide +kernel)
theorem lkF_X4_17 : Cond.fieldLink RX4 17 (TX4 1).1 (TX4 1).2.1 (TX4 1).2.2.1 ∈ tbG := tg_i 170 (by decide +kernel) (by decide +kernel)
theorem lkF_X4_26 : Cond.fieldLink RX4 26 (TX0 1).1 (TX0 1).2.1 (TX0 1).2.2.1 ∈ tbG := tg_i 130 (by decide +kernel) (by decide +kernel)
theorem lkF_X4_31 : Cond.fieldLink RX4 31 (TX0 0).1 (TX0 0).2.1 (TX0 0).2.2.1 ∈ tbG := tg_i 126 (by decide +kernel) (by decide +kernel)
theorem lkF_X5_9 : Cond.fieldLink RX5 9 (TX5 0).1 (TX5 0).2.1 (TX5 0).2.2.1 ∈ tbG := tg_i 155 (by decide +kernel) (by decide +kernel)
theorem lkF_X5_15 : Cond.fieldLink RX5 15 (TX5 1).1 (TX5 1).2.1 (TX5 1).2.2.1 ∈ tbG := tg_i 156 (by decide +kernel) (by decide +kernel)
theorem lkF_X5_18 : Cond.fieldLink RX5 18 (TX0 1).1 (TX0 1).2.1 (TX0 1).2.2.1 ∈ tbG := tg_i 129 (by decide +kernel) (by decide +kernel)
theorem lkF_X5_23 : Cond.fieldLink RX5 23 (TX0 0).1 (TX0 0).2.1 (TX0 0).2.2.1 ∈ tbG := tg_i 124 (by decide +kernel) (by decide +kernel)
theorem lkF_X7_7 : Cond.fieldLink RX7 7 (TX7 0).1 (TX7 0).2.1 (TX7 0).2.2.1 ∈ tbG := tg_i 1177 (by decide +kernel) (by decide +kernel)
theorem lkF_X7_13 : Cond.fieldLink RX7 13 (TX7 1).1 (TX7 1).2.1 (TX7 1).2.2.1 ∈ tbG := tg_i 1178 (by decide +kernel) (by decide +kernel)
theorem lkF_X7_16 : Cond.fieldLink RX7 16 (TX7 5).1 (TX7 5).2.1 (TX7 5).2.2.1 ∈ tbG := tg_i 1182 (by decide +kernel) (by decide +kernel)
theorem lkF_X7_19 : Cond.fieldLink RX7 19 (TX7 6).1 (TX7 6).2.1 (TX7 6).2.2.1 ∈ tbG := tg_i 1183 (by decide +kernel) (by decide +kernel)
theorem lkF_X7_22 : Cond.fieldLink RX7 22 (TX7 7).1 (TX7 7).2.1 (TX7 7).2.2.1 ∈ tbG := tg_i 1184 (by decide +kernel) (by decide +kernel)
theorem lkF_X7_25 : Cond.fieldLink RX7 25 (TX7 8).1 (TX7 8).2.1 (TX7 8).2.2.1 ∈ tbG := tg_i 1185 (by decide +kernel) (by decide +kernel)
theorem lkF_X7_28 : Cond.fieldLink RX7 28 (TX7 9).1 (TX7 9).2.1 (TX7 9).2.2.1 ∈ tbG := tg_i 1186 (by decide +kernel) (by decide +kernel)
theorem lkF_X7_31 : Cond.fieldLink RX7 31 (TX7 10).1 (TX7 10).2.1 (TX7 10).2.2.1 ∈ tbG := tg_i 1187 (by decide +kernel) (by decide +kernel)
theorem lkF_X7_34 : Cond.fieldLink RX7 34 (TX7 11).1 (TX7 11).2.1 (TX7 11).2.2.1 ∈ tbG := tg_i 1188 (by decide +kernel) (by decide +kernel)
theorem lkF_X7_37 : Cond.fieldLink RX7 37 (TX7 13).1 (TX7 13).2.1 (TX7 13).2.2.1 ∈ tbG := tg_i 1190 (by decide +kernel) (by decide +kernel)
theorem lkF_X7_40 : Cond.fieldLink RX7 40 (TX7 14).1 (TX7 14).2.1 (TX7 14).2.2.1 ∈ tbG := tg_i 1191 (by decide +kernel) (by decide +kernel)
theorem lkF_X7_43 : Cond.fieldLink RX7 43 (TX7 15).1 (TX7 15).2.1 (TX7 15).2.2.1 ∈ tbG := tg_i 1192 (by decide +kernel) (by decide +kernel)
theorem lkF_X7_46 : Cond.fieldLink RX7 46 (TX7 16).1 (TX7 16).2.1 (TX7 16).2.2.1 ∈ tbG := tg_i 1193 (by decide +kernel) (by decide +kernel)
theorem lkF_X7_49 : Cond.fieldLink RX7 49 (TX7 17).1 (TX7 17).2.1 (TX7 17).2.2.1 ∈ tbG := tg_i 1194 (by decide +kernel) (by decide +kernel)
theorem lkF_X7_52 : Cond.fieldLink RX7 52 (TX7 23).1 (TX7 23).2.1 (TX7 23).2.2.1 ∈ tbG := tg_i 1200 (by decide +kernel) (by decide +kernel)
theorem lkF_X7_56 : Cond.fieldLink RX7 56 (TX7 24).1 (TX7 24).2.1 (TX7 24).2.2.1 ∈ tbG := tg_i 1201 (by decide +kernel) (by decide +kernel)
theorem lkF_X7_59 : Cond.fieldLink RX7 59 (TX7 3).1 (TX7 3).2.1 (TX7 3).2.2.1 ∈ tbG := tg_i 1180 (by decide +kernel) (by decide +kernel)
theorem lkF_X7_63 : Cond.fieldLink RX7 63 (TX7 2).1 (TX7 2).2.1 (TX7 2).2.2.1 ∈ tbG := tg_i 1179 (by decide +kernel) (by decide +kernel)
theorem lkF_X7_122 : Cond.fieldLink RX7 122 (TX7 4).1 (TX7 4).2.1 (TX7 4).2.2.1 ∈ tbG := tg_i 1181 (by decide +kernel) (by decide +kernel)
theorem lkF_X7_167 : Cond.fieldLink RX7 167 (TX7 12).1 (TX7 12).2.1 (TX7 12).2.2.1 ∈ tbG := tg_i 1189 (by decide +kernel) (by decide +kernel)
theorem lkF_X7_259 : Cond.fieldLink RX7 259 (TX7 18).1 (TX7 18).2.1 (TX7 18).2.2.1 ∈ tbG := tg_i 1195 (by decide +kernel) (by decide +kernel)
theorem lkF_X7_262 : Cond.fieldLink RX7 262 (TX7 22).1 (TX7 22).2.1 (TX7 22).2.2.1 ∈ tbG := tg_i 1199 (by decide +kernel) (by decide +kernel)
theorem lkF_X7_266 : Cond.fieldLink RX7 266 (TX7 20).1 (TX7 20).2.1 (TX7 20).2.2.1 ∈ tbG := tg_i 1197 (by decide +kernel) (by decide +kernel)
theorem lkF_X7_272 : Cond.fieldLink RX7 272 (TX7 21).1 (TX7 21).2.1 (TX7 21).2.2.1 ∈ tbG := tg_i 1198 (by decide +kernel) (by decide +kernel)
theorem lkF_X7_278 : Cond.fieldLink RX7 278 (TX7 19).1 (TX7 19).2.1 (TX7 19).2.2.1 ∈ tbG := tg_i 1196 (by decide +kernel) (by decide +kernel)
theorem lkJ_X6_253 : Cond.constantLong RX6 253 93589 ∈ tbG := tg_i 317 (by decide +kernel) (by decide +kernel)
theorem lkJ_X6_259 : Cond.constantLong RX6 259 31 ∈ tbG := tg_i 323 (by decide +kernel) (by decide +kernel)
theorem lkJ_X0_47 : Cond.constantLong RX0 47 1103515245 ∈ tbG := tg_i 816 (by decide +kernel) (by decide +kernel)
theorem lkJ_X0_49 : Cond.constantLong RX0 49 12345 ∈ tbG := tg_i 817 (by decide +kernel) (by decide +kernel)
theorem lkJ_X0_51 : Cond.constantLong RX0 51 2147483648 ∈ tbG := tg_i 818 (by decide +kernel) (by decide +kernel)
theorem lkJ_X0_53 : Cond.constantLong RX0 53 65536 ∈ tbG := tg_i 822 (by decide +kernel) (by decide +kernel)
theorem lkJ_X0_55 : Cond.constantLong RX0 55 4 ∈ tbG := tg_i 823 (by decide +kernel) (by decide +kernel)
theorem lkJ_X0_100 : Cond.constantLong RX0 100 31 ∈ tbG := tg_i 322 (by decide +kernel) (by decide +kernel)
theorem lkJ_X7_66 : Cond.constantLong RX7 66 3 ∈ tbG := tg_i 1264 (by decide +kernel) (by decide +kernel)
theorem lkJ_X7_72 : Cond.constantLong RX7 72 10006 ∈ tbG := tg_i 1296 (by decide +kernel) (by decide +kernel)
theorem lkJ_X7_92 : Cond.constantLong RX7 92 12 ∈ tbG := tg_i 1268 (by decide +kernel) (by decide +kernel)
theorem lkJ_X7_120 : Cond.constantLong RX7 120 1103515245 ∈ tbG := tg_i 1323 (by decide +kernel) (by decide +kernel)
theorem lkJ_X7_126 : Cond.constantLong RX7 126 12345 ∈ tbG := tg_i 1324 (by decide +kernel) (by decide +kernel)
theorem lkJ_X7_128 : Cond.constantLong RX7 128 2147483648 ∈ tbG := tg_i 1325 (by decide +kernel) (by decide +kernel)
theorem lkJ_X7_130 : Cond.constantLong RX7 130 65536 ∈ tbG := tg_i 1326 (by decide +kernel) (by decide +kernel)
theorem lkJ_X7_132 : Cond.constantLong RX7 132 4 ∈ tbG := tg_i 1327 (by decide +kernel) (by decide +kernel)
theorem lkJ_X7_134 : Cond.constantLong RX7 134 999999 ∈ tbG := tg_i 1318 (by decide +kernel) (by decide +kernel)
theorem lkJ_X7_156 : Cond.constantLong RX7 156 1000000 ∈ tbG := tg_i 1348 (by decide +kernel) (by decide +kernel)
theorem lkJ_X7_161 : Cond.constantLong RX7 161 200 ∈ tbG := tg_i 1373 (by decide +kernel) (by decide +kernel)
theorem lkJ_X7_163 : Cond.constantLong RX7 163 2000 ∈ tbG := tg_i 1378 (by decide +kernel) (by decide +kernel)
theorem lkJ_X7_165 : Cond.constantLong RX7 165 4095 ∈ tbG := tg_i 1383 (by decide +kernel) (by decide +kernel)
theorem lkJ_X7_201 : Cond.constantLong RX7 201 2 ∈ tbG := tg_i 1426 (by decide +kernel) (by decide +kernel)
theorem lkJ_X7_236 : Cond.constantLong RX7 236 6 ∈ tbG := tg_i 1487 (by decide +kernel) (by decide +kernel)
theorem lkJ_X7_248 : Cond.constantLong RX7 248 31 ∈ tbG := tg_i 1512 (by decide +kernel) (by decide +kernel)
theorem lkJ_X7_257 : Cond.constantLong RX7 257 127 ∈ tbG := tg_i 1537 (by decide +kernel) (by decide +kernel)
theorem lkJ_X7_281 : Cond.constantLong RX7 281 48 ∈ tbG := tg_i 1554 (by decide +kernel) (by decide +kernel)
theorem lkJ_X7_283 : Cond.constantLong RX7 283 57 ∈ tbG := tg_i 1555 (by decide +kernel) (by decide +kernel)
theorem lkJ_X7_310 : Cond.constantLong RX7 310 93589 ∈ tbG := tg_i 1596 (by decide +kernel) (by decide +kernel)
theorem lkK_X6_110 : Cond.constant RX6 110 999999 ∈ tbG := tg_i 808 (by decide +kernel) (by decide +kernel)
theorem lkK_X6_118 : Cond.constant RX6 118 1000000 ∈ tbG := tg_i 857 (by decide +kernel) (by decide +kernel)
theorem lkM_X6_78 : Cond.methodLink RX6 78 yX6_checkSlot ∈ tbG := tg_i 742 (by decide +kernel) (by decide +kernel)
theorem lkM_X6_81 : Cond.methodLink RX6 81 yX6_checkRange ∈ tbG := tg_i 758 (by decide +kernel) (by decide +kernel)
theorem lkM_X6_88 : Cond.methodLink RX6 88 yX6_save ∈ tbG := tg_i 764 (by decide +kernel) (by decide +kernel)
theorem lkM_X6_91 : Cond.methodLink RX6 91 yX0_clear ∈ tbG := tg_i 772 (by decide +kernel) (by decide +kernel)
theorem lkM_X6_94 : Cond.methodLink RX6 94 yX6_checkState ∈ tbG := tg_i 780 (by decide +kernel) (by decide +kernel)
theorem lkM_X6_98 : Cond.methodLink RX6 98 yX0_ends ∈ tbG := tg_i 785 (by decide +kernel) (by decide +kernel)
theorem lkM_X6_102 : Cond.methodLink RX6 102 yX6_checkStep ∈ tbG := tg_i 796 (by decide +kernel) (by decide +kernel)
theorem lkM_X6_111 : Cond.methodLink RX6 111 yX0_draw ∈ tbG := tg_i 809 (by decide +kernel) (by decide +kernel)
theorem lkM_X6_114 : Cond.methodLink RX6 114 yX0_emptyWeight ∈ tbG := tg_i 824 (by decide +kernel) (by decide +kernel)
theorem lkM_X6_119 : Cond.methodLink RX6 119 yX5_start ∈ tbG := tg_i 858 (by decide +kernel) (by decide +kernel)
theorem lkM_X6_123 : Cond.methodLink RX6 123 yX5_takeWord ∈ tbG := tg_i 863 (by decide +kernel) (by decide +kernel)
theorem lkM_X6_127 : Cond.methodLink RX6 127 yX5_value ∈ tbG := tg_i 872 (by decide +kernel) (by decide +kernel)
theorem lkM_X6_131 : Cond.methodLink RX6 131 yX5_takeBoth ∈ tbG := tg_i 891 (by decide +kernel) (by decide +kernel)
theorem lkM_X6_134 : Cond.methodLink RX6 134 yX4_start ∈ tbG := tg_i 904 (by decide +kernel) (by decide +kernel)
theorem lkM_X6_135 : Cond.methodLink RX6 135 yX4_weigh ∈ tbG := tg_i 912 (by decide +kernel) (by decide +kernel)
theorem lkM_X6_139 : Cond.methodLink RX6 139 yX1_explore ∈ tbG := tg_i 929 (by decide +kernel) (by decide +kernel)
theorem lkM_X6_142 : Cond.methodLink RX6 142 yX1_firstWeighted ∈ tbG := tg_i 930 (by decide +kernel) (by decide +kernel)
theorem lkM_X6_152 : Cond.methodLink RX6 152 yX0_becomeSum ∈ tbG := tg_i 958 (by decide +kernel) (by decide +kernel)
theorem lkM_X6_156 : Cond.methodLink RX6 156 yX0_becomeHadamard ∈ tbG := tg_i 967 (by decide +kernel) (by decide +kernel)
theorem lkM_X6_159 : Cond.methodLink RX6 159 yX0_becomeCauchy ∈ tbG := tg_i 975 (by decide +kernel) (by decide +kernel)
theorem lkM_X6_162 : Cond.methodLink RX6 162 yX6_store ∈ tbG := tg_i 988 (by decide +kernel) (by decide +kernel)
theorem lkM_X6_166 : Cond.methodLink RX6 166 yX0_hasStar ∈ tbG := tg_i 999 (by decide +kernel) (by decide +kernel)
theorem lkM_X6_172 : Cond.methodLink RX6 172 yX0_copyFrom ∈ tbG := tg_i 328 (by decide +kernel) (by decide +kernel)
theorem lkM_X6_175 : Cond.methodLink RX6 175 yX0_reverse ∈ tbG := tg_i 335 (by decide +kernel) (by decide +kernel)
theorem lkM_X6_178 : Cond.methodLink RX6 178 yX0_becomeStar ∈ tbG := tg_i 1004 (by decide +kernel) (by decide +kernel)
theorem lkM_X6_181 : Cond.methodLink RX6 181 yX0_startAfter ∈ tbG := tg_i 1012 (by decide +kernel) (by decide +kernel)
theorem lkM_X6_184 : Cond.methodLink RX6 184 yX1_reduce ∈ tbG := tg_i 729 (by decide +kernel) (by decide +kernel)
theorem lkM_X6_187 : Cond.methodLink RX6 187 yX1_minimize ∈ tbG := tg_i 343 (by decide +kernel) (by decide +kernel)
theorem lkM_X6_193 : Cond.methodLink RX6 193 yX6_multiply ∈ tbG := tg_i 1023 (by decide +kernel) (by decide +kernel)
theorem lkM_X6_197 : Cond.methodLink RX6 197 yX6_spaceSize ∈ tbG := tg_i 324 (by decide +kernel) (by decide +kernel)
theorem lkM_X6_212 : Cond.methodLink RX6 212 yX0_becomeDifference ∈ tbG := tg_i 1046 (by decide +kernel) (by decide +kernel)
theorem lkM_X6_218 : Cond.methodLink RX6 218 yX6_joinedWord ∈ tbG := tg_i 1057 (by decide +kernel) (by decide +kernel)
theorem lkM_X6_221 : Cond.methodLink RX6 221 yX3_rank ∈ tbG := tg_i 1061 (by decide +kernel) (by decide +kernel)
theorem lkM_X6_224 : Cond.methodLink RX6 224 yX6_collectTotals ∈ tbG := tg_i 1082 (by decide +kernel) (by decide +kernel)
theorem lkM_X6_227 : Cond.methodLink RX6 227 yX6_fillRecurrences ∈ tbG := tg_i 1086 (by decide +kernel) (by decide +kernel)
theorem lkM_X6_230 : Cond.methodLink RX6 230 yX6_reciprocal ∈ tbG := tg_i 1097 (by decide +kernel) (by decide +kernel)
theorem lkM_X6_241 : Cond.methodLink RX6 241 yX2_syntaxError ∈ tbG := tg_i 1113 (by decide +kernel) (by decide +kernel)
theorem lkM_X6_244 : Cond.methodLink RX6 244 yX2_evaluate ∈ tbG := tg_i 1123 (by decide +kernel) (by decide +kernel)
theorem lkM_X6_255 : Cond.methodLink RX6 255 yX0_hash ∈ tbG := tg_i 318 (by decide +kernel) (by decide +kernel)
theorem lkM_X6_272 : Cond.methodLink RX6 272 yX6_dropOldest ∈ tbG := tg_i 768 (by decide +kernel) (by decide +kernel)
theorem lkM_X6_275 : Cond.methodLink RX6 275 yX6_lengthOf ∈ tbG := tg_i 1060 (by decide +kernel) (by decide +kernel)
theorem lkM_X0_27 : Cond.methodLink RX0 27 yJ7_fill_fda19 ∈ tbG := tg_i 715 (by decide +kernel) (by decide +kernel)
theorem lkM_X0_33 : Cond.methodLink RX0 33 arraycopyName ∈ tbG := tg_i 332 (by decide +kernel) (by decide +kernel)
theorem lkM_X0_39 : Cond.methodLink RX0 39 yX0_nextDraw ∈ tbG := tg_i 813 (by decide +kernel) (by decide +kernel)
theorem lkM_X0_43 : Cond.methodLink RX0 43 yX0_drawn ∈ tbG := tg_i 819 (by decide +kernel) (by decide +kernel)
theorem lkM_X0_57 : Cond.methodLink RX0 57 yX0_clear ∈ tbG := tg_i 962 (by decide +kernel) (by decide +kernel)
theorem lkM_X0_61 : Cond.methodLink RX0 61 yX0_placeBlock ∈ tbG := tg_i 963 (by decide +kernel) (by decide +kernel)
theorem lkM_X0_65 : Cond.methodLink RX0 65 yX0_becomeSum ∈ tbG := tg_i 979 (by decide +kernel) (by decide +kernel)
theorem lkM_X0_69 : Cond.methodLink RX0 69 yX0_placeProducts ∈ tbG := tg_i 971 (by decide +kernel) (by decide +kernel)
theorem lkM_X0_73 : Cond.methodLink RX0 73 yX0_emptyWeight ∈ tbG := tg_i 980 (by decide +kernel) (by decide +kernel)
theorem lkM_X0_81 : Cond.methodLink RX0 81 yX0_stepThenLast ∈ tbG := tg_i 984 (by decide +kernel) (by decide +kernel)
theorem lkM_X0_85 : Cond.methodLink RX0 85 yX0_initialThenStep ∈ tbG := tg_i 1008 (by decide +kernel) (by decide +kernel)
theorem lkM_X0_88 : Cond.methodLink RX0 88 yX0_transpose ∈ tbG := tg_i 339 (by decide +kernel) (by decide +kernel)
theorem lkM_X0_92 : Cond.methodLink RX0 92 yX0_addStep ∈ tbG := tg_i 716 (by decide +kernel) (by decide +kernel)
theorem lkM_X0_96 : Cond.methodLink RX0 96 yX0_weightFrom ∈ tbG := tg_i 828 (by decide +kernel) (by decide +kernel)
theorem lkM_X1_56 : Cond.methodLink RX1 56 arraycopyName ∈ tbG := tg_i 351 (by decide +kernel) (by decide +kernel)
theorem lkM_X1_62 : Cond.methodLink RX1 62 yX1_place ∈ tbG := tg_i 352 (by decide +kernel) (by decide +kernel)
theorem lkM_X1_66 : Cond.methodLink RX1 66 yX0_takeStep ∈ tbG := tg_i 711 (by decide +kernel) (by decide +kernel)
theorem lkM_X1_70 : Cond.methodLink RX1 70 yJ7_fill_fda19 ∈ tbG := tg_i 356 (by decide +kernel) (by decide +kernel)
theorem lkM_X1_84 : Cond.methodLink RX1 84 yX0_weightFrom ∈ tbG := tg_i 700 (by decide +kernel) (by decide +kernel)
theorem lkM_X1_92 : Cond.methodLink RX1 92 yX1_extend ∈ tbG := tg_i 707 (by decide +kernel) (by decide +kernel)
theorem lkM_X1_96 : Cond.methodLink RX1 96 yX0_clear ∈ tbG := tg_i 724 (by decide +kernel) (by decide +kernel)
theorem lkM_X1_106 : Cond.methodLink RX1 106 yX1_explore ∈ tbG := tg_i 347 (by decide +kernel) (by decide +kernel)
theorem lkM_X1_110 : Cond.methodLink RX1 110 yX1_build ∈ tbG := tg_i 720 (by decide +kernel) (by decide +kernel)
theorem lkM_X1_113 : Cond.methodLink RX1 113 yX0_reverse ∈ tbG := tg_i 728 (by decide +kernel) (by decide +kernel)
theorem lkM_X2_49 : Cond.methodLink RX2 49 yX2_isDigit ∈ tbG := tg_i 1117 (by decide +kernel) (by decide +kernel)
theorem lkM_X2_53 : Cond.methodLink RX2 53 yX2_canStand ∈ tbG := tg_i 1120 (by decide +kernel) (by decide +kernel)
theorem lkM_X2_61 : Cond.methodLink RX2 61 yX2_open ∈ tbG := tg_i 1127 (by decide +kernel) (by decide +kernel)
theorem lkM_X2_64 : Cond.methodLink RX2 64 yX2_repeatFactor ∈ tbG := tg_i 1131 (by decide +kernel) (by decide +kernel)
theorem lkM_X2_68 : Cond.methodLink RX2 68 yX2_closeFactor ∈ tbG := tg_i 1139 (by decide +kernel) (by decide +kernel)
theorem lkM_X2_72 : Cond.methodLink RX2 72 yX2_closeProduct ∈ tbG := tg_i 1144 (by decide +kernel) (by decide +kernel)
theorem lkM_X2_75 : Cond.methodLink RX2 75 yX0_copyFrom ∈ tbG := tg_i 1138 (by decide +kernel) (by decide +kernel)
theorem lkM_X2_79 : Cond.methodLink RX2 79 Lib.Math.max.name ∈ tbG := tg_i 1149 (by decide +kernel) (by decide +kernel)
theorem lkM_X2_88 : Cond.methodLink RX2 88 Lib.Math.min.name ∈ tbG := tg_i 1150 (by decide +kernel) (by decide +kernel)
theorem lkM_X2_91 : Cond.methodLink RX2 91 yX2_beginFactor ∈ tbG := tg_i 1151 (by decide +kernel) (by decide +kernel)
theorem lkM_X2_94 : Cond.methodLink RX2 94 yX0_becomeNumber ∈ tbG := tg_i 1155 (by decide +kernel) (by decide +kernel)
theorem lkM_X2_97 : Cond.methodLink RX2 97 yX0_becomeLetter ∈ tbG := tg_i 1159 (by decide +kernel) (by decide +kernel)
theorem lkM_X2_100 : Cond.methodLink RX2 100 yX0_hasStar ∈ tbG := tg_i 1135 (by decide +kernel) (by decide +kernel)
theorem lkM_X2_104 : Cond.methodLink RX2 104 yX0_becomeStar ∈ tbG := tg_i 1136 (by decide +kernel) (by decide +kernel)
theorem lkM_X2_107 : Cond.methodLink RX2 107 yX1_minimize ∈ tbG := tg_i 1137 (by decide +kernel) (by decide +kernel)
theorem lkM_X2_115 : Cond.methodLink RX2 115 yX0_becomeCauchy ∈ tbG := tg_i 1143 (by decide +kernel) (by decide +kernel)
theorem lkM_X2_119 : Cond.methodLink RX2 119 yX0_becomeSum ∈ tbG := tg_i 1148 (by decide +kernel) (by decide +kernel)
theorem lkM_X3_16 : Cond.methodLink RX3 16 yX3_raisePivot ∈ tbG := tg_i 1065 (by decide +kernel) (by decide +kernel)
theorem lkM_X3_20 : Cond.methodLink RX3 20 yX3_clearBelow ∈ tbG := tg_i 1069 (by decide +kernel) (by decide +kernel)
theorem lkM_X4_20 : Cond.methodLink RX4 20 yJ7_fill_53178 ∈ tbG := tg_i 908 (by decide +kernel) (by decide +kernel)
theorem lkM_X4_35 : Cond.methodLink RX4 35 arraycopyName ∈ tbG := tg_i 911 (by decide +kernel) (by decide +kernel)
theorem lkM_X4_45 : Cond.methodLink RX4 45 Lib.Math.min.name ∈ tbG := tg_i 919 (by decide +kernel) (by decide +kernel)
theorem lkM_X4_51 : Cond.methodLink RX4 51 yX0_takeStep ∈ tbG := tg_i 920 (by decide +kernel) (by decide +kernel)
theorem lkM_X4_55 : Cond.methodLink RX4 55 yX0_weightFrom ∈ tbG := tg_i 921 (by decide +kernel) (by decide +kernel)
theorem lkM_X5_27 : Cond.methodLink RX5 27 arraycopyName ∈ tbG := tg_i 862 (by decide +kernel) (by decide +kernel)
theorem lkM_X5_33 : Cond.methodLink RX5 33 yX0_takeStep ∈ tbG := tg_i 867 (by decide +kernel) (by decide +kernel)
theorem lkM_X5_37 : Cond.methodLink RX5 37 yX5_swap ∈ tbG := tg_i 868 (by decide +kernel) (by decide +kernel)
theorem lkM_X5_40 : Cond.methodLink RX5 40 yJ7_fill_fda19 ∈ tbG := tg_i 895 (by decide +kernel) (by decide +kernel)
theorem lkM_X5_46 : Cond.methodLink RX5 46 yX0_addStep ∈ tbG := tg_i 896 (by decide +kernel) (by decide +kernel)
theorem lkM_X5_49 : Cond.methodLink RX5 49 yX0_weightFrom ∈ tbG := tg_i 876 (by decide +kernel) (by decide +kernel)
theorem lkM_X7_68 : Cond.methodLink RX7 68 yX7_in ∈ tbG := tg_i 1265 (by decide +kernel) (by decide +kernel)
theorem lkM_X7_74 : Cond.methodLink RX7 74 yX7_power ∈ tbG := tg_i 1407 (by decide +kernel) (by decide +kernel)
theorem lkM_X7_78 : Cond.methodLink RX7 78 yX7_many ∈ tbG := tg_i 1277 (by decide +kernel) (by decide +kernel)
theorem lkM_X7_82 : Cond.methodLink RX7 82 yX7_initialAt ∈ tbG := tg_i 1300 (by decide +kernel) (by decide +kernel)
theorem lkM_X7_85 : Cond.methodLink RX7 85 yX7_finalAt ∈ tbG := tg_i 1297 (by decide +kernel) (by decide +kernel)
theorem lkM_X7_88 : Cond.methodLink RX7 88 yX7_isSlot ∈ tbG := tg_i 1261 (by decide +kernel) (by decide +kernel)
theorem lkM_X7_94 : Cond.methodLink RX7 94 yX7_goes ∈ tbG := tg_i 1269 (by decide +kernel) (by decide +kernel)
theorem lkM_X7_98 : Cond.methodLink RX7 98 yX7_save ∈ tbG := tg_i 1273 (by decide +kernel) (by decide +kernel)
theorem lkM_X7_101 : Cond.methodLink RX7 101 yX7_clears ∈ tbG := tg_i 1281 (by decide +kernel) (by decide +kernel)
theorem lkM_X7_105 : Cond.methodLink RX7 105 yX7_isState ∈ tbG := tg_i 1289 (by decide +kernel) (by decide +kernel)
theorem lkM_X7_109 : Cond.methodLink RX7 109 yX7_isNumber ∈ tbG := tg_i 1293 (by decide +kernel) (by decide +kernel)
theorem lkM_X7_112 : Cond.methodLink RX7 112 yX7_isStep ∈ tbG := tg_i 1307 (by decide +kernel) (by decide +kernel)
theorem lkM_X7_116 : Cond.methodLink RX7 116 yX7_at ∈ tbG := tg_i 1311 (by decide +kernel) (by decide +kernel)
theorem lkM_X7_136 : Cond.methodLink RX7 136 yX7_draws ∈ tbG := tg_i 1319 (by decide +kernel) (by decide +kernel)
theorem lkM_X7_140 : Cond.methodLink RX7 140 yX7_emptyWeight ∈ tbG := tg_i 1328 (by decide +kernel) (by decide +kernel)
theorem lkM_X7_143 : Cond.methodLink RX7 143 yX7_passes ∈ tbG := tg_i 1361 (by decide +kernel) (by decide +kernel)
theorem lkM_X7_147 : Cond.methodLink RX7 147 yX7_laysInitial ∈ tbG := tg_i 1353 (by decide +kernel) (by decide +kernel)
theorem lkM_X7_150 : Cond.methodLink RX7 150 yX7_passesWord ∈ tbG := tg_i 1357 (by decide +kernel) (by decide +kernel)
theorem lkM_X7_153 : Cond.methodLink RX7 153 yX7_ends ∈ tbG := tg_i 1365 (by decide +kernel) (by decide +kernel)
theorem lkM_X7_158 : Cond.methodLink RX7 158 yX7_weighs ∈ tbG := tg_i 1349 (by decide +kernel) (by decide +kernel)
theorem lkM_X7_170 : Cond.methodLink RX7 170 yX7_reduces ∈ tbG := tg_i 1400 (by decide +kernel) (by decide +kernel)
theorem lkM_X7_173 : Cond.methodLink RX7 173 yX7_inverted ∈ tbG := tg_i 1404 (by decide +kernel) (by decide +kernel)
theorem lkM_X7_176 : Cond.methodLink RX7 176 yX7_offers ∈ tbG := tg_i 1396 (by decide +kernel) (by decide +kernel)
theorem lkM_X7_179 : Cond.methodLink RX7 179 yX7_laysBasis ∈ tbG := tg_i 1410 (by decide +kernel) (by decide +kernel)
theorem lkM_X7_182 : Cond.methodLink RX7 182 yX7_spans ∈ tbG := tg_i 1392 (by decide +kernel) (by decide +kernel)
theorem lkM_X7_185 : Cond.methodLink RX7 185 yX7_endsBasis ∈ tbG := tg_i 1414 (by decide +kernel) (by decide +kernel)
theorem lkM_X7_189 : Cond.methodLink RX7 189 yX7_firstWord ∈ tbG := tg_i 1388 (by decide +kernel) (by decide +kernel)
theorem lkM_X7_192 : Cond.methodLink RX7 192 yX7_forwards ∈ tbG := tg_i 1439 (by decide +kernel) (by decide +kernel)
theorem lkM_X7_195 : Cond.methodLink RX7 195 yX7_turns ∈ tbG := tg_i 1431 (by decide +kernel) (by decide +kernel)
theorem lkM_X7_198 : Cond.methodLink RX7 198 yX7_minimizes ∈ tbG := tg_i 1435 (by decide +kernel) (by decide +kernel)
theorem lkM_X7_203 : Cond.methodLink RX7 203 yX7_dimensionOf ∈ tbG := tg_i 1427 (by decide +kernel) (by decide +kernel)
theorem lkM_X7_206 : Cond.methodLink RX7 206 yX7_blocks ∈ tbG := tg_i 1463 (by decide +kernel) (by decide +kernel)
theorem lkM_X7_209 : Cond.methodLink RX7 209 yX7_out ∈ tbG := tg_i 1475 (by decide +kernel) (by decide +kernel)
theorem lkM_X7_212 : Cond.methodLink RX7 212 yX7_into ∈ tbG := tg_i 1500 (by decide +kernel) (by decide +kernel)
theorem lkM_X7_215 : Cond.methodLink RX7 215 yX7_sums ∈ tbG := tg_i 1459 (by decide +kernel) (by decide +kernel)
theorem lkM_X7_218 : Cond.methodLink RX7 218 yX7_multiplies ∈ tbG := tg_i 1467 (by decide +kernel) (by decide +kernel)
theorem lkM_X7_221 : Cond.methodLink RX7 221 yX7_joins ∈ tbG := tg_i 1471 (by decide +kernel) (by decide +kernel)
theorem lkM_X7_224 : Cond.methodLink RX7 224 yX7_manyOf ∈ tbG := tg_i 1451 (by decide +kernel) (by decide +kernel)
theorem lkM_X7_227 : Cond.methodLink RX7 227 yX7_combines ∈ tbG := tg_i 1455 (by decide +kernel) (by decide +kernel)
theorem lkM_X7_230 : Cond.methodLink RX7 230 yX7_copies ∈ tbG := tg_i 1479 (by decide +kernel) (by decide +kernel)
theorem lkM_X7_233 : Cond.methodLink RX7 233 yX7_stars ∈ tbG := tg_i 1496 (by decide +kernel) (by decide +kernel)
theorem lkM_X7_238 : Cond.methodLink RX7 238 yX7_canStar ∈ tbG := tg_i 1488 (by decide +kernel) (by decide +kernel)
theorem lkM_X7_241 : Cond.methodLink RX7 241 yX7_derives ∈ tbG := tg_i 1492 (by decide +kernel) (by decide +kernel)
theorem lkM_X7_244 : Cond.methodLink RX7 244 yX7_eliminates ∈ tbG := tg_i 1517 (by decide +kernel) (by decide +kernel)
theorem lkM_X7_250 : Cond.methodLink RX7 250 yX7_rank ∈ tbG := tg_i 1513 (by decide +kernel) (by decide +kernel)
theorem lkM_X7_253 : Cond.methodLink RX7 253 yX7_laysTotals ∈ tbG := tg_i 1525 (by decide +kernel) (by decide +kernel)
theorem lkM_X7_269 : Cond.methodLink RX7 269 yX7_operates ∈ tbG := tg_i 1564 (by decide +kernel) (by decide +kernel)
theorem lkM_X7_275 : Cond.methodLink RX7 275 yX7_endsFactor ∈ tbG := tg_i 1560 (by decide +kernel) (by decide +kernel)
theorem lkM_X7_285 : Cond.methodLink RX7 285 yX7_isFigure ∈ tbG := tg_i 1576 (by decide +kernel) (by decide +kernel)
theorem lkM_X7_289 : Cond.methodLink RX7 289 yX7_begins ∈ tbG := tg_i 1546 (by decide +kernel) (by decide +kernel)
theorem lkM_X7_292 : Cond.methodLink RX7 292 yX7_readsLetter ∈ tbG := tg_i 1568 (by decide +kernel) (by decide +kernel)
theorem lkM_X7_295 : Cond.methodLink RX7 295 yX7_readsNumber ∈ tbG := tg_i 1572 (by decide +kernel) (by decide +kernel)
theorem lkM_X7_298 : Cond.methodLink RX7 298 yX7_readsFactor ∈ tbG := tg_i 1556 (by decide +kernel) (by decide +kernel)
theorem lkM_X7_301 : Cond.methodLink RX7 301 yX7_starsFactor ∈ tbG := tg_i 1580 (by decide +kernel) (by decide +kernel)
theorem lkM_X7_304 : Cond.methodLink RX7 304 yX7_endsProduct ∈ tbG := tg_i 1584 (by decide +kernel) (by decide +kernel)
theorem lkM_X7_307 : Cond.methodLink RX7 307 yX7_readsNext ∈ tbG := tg_i 1550 (by decide +kernel) (by decide +kernel)
theorem lkM_X7_312 : Cond.methodLink RX7 312 yX7_sumsSlot ∈ tbG := tg_i 1597 (by decide +kernel) (by decide +kernel)
theorem lkM_J7_13 : Cond.methodLink RJ7 13 yJ7_rangeCheck_23922 ∈ tbG := tg_i 359 (by decide +kernel) (by decide +kernel)
theorem lkN_X0_77 : Cond.methodLinkNest RX0 77 yX6_multiply "SeriesBench" ∈ zNwL := nw_i 981 (by decide +kernel) (by decide +kernel)
theorem lkN_X1_76 : Cond.methodLinkNest RX1 76 yX6_addMultiple "SeriesBench" ∈ zNwL := nw_i 694 (by decide +kernel) (by decide +kernel)
theorem lkN_X1_80 : Cond.methodLinkNest RX1 80 yX6_firstNonZero "SeriesBench" ∈ zNwL := nw_i 697 (by decide +kernel) (by decide +kernel)
theorem lkN_X1_88 : Cond.methodLinkNest RX1 88 yX6_reciprocal "SeriesBench" ∈ zNwL := nw_i 704 (by decide +kernel) (by decide +kernel)
theorem lkN_X3_24 : Cond.methodLinkNest RX3 24 yX6_reciprocal "SeriesBench" ∈ zNwL := nw_i 1073 (by decide +kernel) (by decide +kernel)
theorem lkN_X3_28 : Cond.methodLinkNest RX3 28 yX6_addMultiple "SeriesBench" ∈ zNwL := nw_i 1074 (by decide +kernel) (by decide +kernel)
theorem lkN_X4_41 : Cond.methodLinkNest RX4 41 yX6_lengthOf "SeriesBench" ∈ zNwL := nw_i 916 (by decide +kernel) (by decide +kernel)
theorem clX0 : zCl 0 4 RX0 TX0 tyX0 := ⟨by decide +kernel, rfl, tyX0_ok, nmX0⟩
theorem clX1 : zCl 1 11 RX1 TX1 tyX1 := ⟨by decide +kernel, rfl, tyX1_ok, nmX1⟩
theorem clX2 : zCl 2 9 RX2 TX2 tyX2 := ⟨by decide +kernel, rfl, tyX2_ok, nmX2⟩
theorem clX3 : zCl 3 1 RX3 TX3 tyX3 := ⟨by decide +kernel, rfl, tyX3_ok, nmX3⟩
theorem clX4 : zCl 4 2 RX4 TX4 tyX4 := ⟨by decide +kernel, rfl, tyX4_ok, nmX4⟩
theorem clX5 : zCl 5 2 RX5 TX5 tyX5 := ⟨by decide +kernel, rfl, tyX5_ok, nmX5⟩
theorem clX6 : zCl 6 12 RX6 TX6 tyX6 := ⟨by decide +kernel, rfl, tyX6_ok, nmX6⟩
theorem clX7 : zCl 7 25 RX7 TX7 tyX7 := ⟨by decide +kernel, rfl, tyX7_ok, nmX7⟩
theorem wd_X0_ends : zWv yX0_ends cX0_ends 2 (Option.some (FieldType.array FieldType.int)) 1 := ⟨⟨tg_i 786 (by decide +kernel) (by decide +kernel), tg_i 787 (by decide +kernel) (by decide +kernel), tg_i 76 (by decide +kernel) (by decide +kernel), tg_i 788 (by decide +kernel) (by decide +kernel)⟩, by decide +kernel⟩
def rm_X0_ends : Room := { frames := 1, cells := 0, slots := 0, locals := 100 }
theorem wd_J7_rangeCheck_23922 : zWs yJ7_rangeCheck_23922 cJ7_rangeCheck_23922 3 (Option.none : Option Jvm.ClassFile.FieldType) 3 := ⟨⟨tg_i 360 (by decide +kernel) (by decide +kernel), tg_i 89 (by decide +kernel) (by decide +kernel), tg_i 361 (by decide +kernel) (by decide +kernel)⟩, by decide +kernel⟩
def rm_J7_rangeCheck_23922 : Room := { frames := 1, cells := 0, slots := 0, locals := 100 }
theorem wd_J7_fill_fda19 : zWs yJ7_fill_fda19 cJ7_fill_fda19 5 (Option.none : Option Jvm.ClassFile.FieldType) 4 := ⟨⟨tg_i 357 (by decide +kernel) (by decide +kernel), tg_i 89 (by decide +kernel) (by decide +kernel), tg_i 358 (by decide +kernel) (by decide +kernel)⟩, by decide +kernel⟩
def rm_J7_fill_fda19 : Room := { frames := 2, cells := 0, slots := 0, locals := 122 }
theorem wd_X0_clear : zWv yX0_clear cX0_clear 3 (Option.none : Option Jvm.ClassFile.FieldType) 1 := ⟨⟨tg_i 725 (by decide +kernel) (by decide +kernel), tg_i 726 (by decide +kernel) (by decide +kernel), tg_i 76 (by decide +kernel) (by decide +kernel), tg_i 727 (by decide +kernel) (by decide +kernel)⟩, by decide +kernel⟩
def rm_X0_clear : Room := { frames := 3, cells := 0, slots := 0, locals := 146 }
theorem wd_X0_copyFrom : zWv yX0_copyFrom cX0_copyFrom 3 (Option.none : Option Jvm.ClassFile.FieldType) 1 := ⟨⟨tg_i 329 (by decide +kernel) (by decide +kernel), tg_i 330 (by decide +kernel) (by decide +kernel), tg_i 76 (by decide +kernel) (by decide +kernel), tg_i 331 (by decide +kernel) (by decide +kernel)⟩, by decide +kernel⟩
def rm_X0_copyFrom : Room := { frames := 1, cells := 0, slots := 0, locals := 100 }
theorem wd_X0_nextDraw : zWs yX0_nextDraw cX0_nextDraw 2 (Option.some FieldType.long) 1 := ⟨⟨tg_i 814 (by decide +kernel) (by decide +kernel), tg_i 76 (by decide +kernel) (by decide +kernel), tg_i 815 (by decide +kernel) (by decide +kernel)⟩, by decide +kernel⟩
def rm_X0_nextDraw : Room := { frames := 1, cells := 0, slots := 0, locals := 100 }
theorem wd_X0_drawn : zWs yX0_drawn cX0_drawn 2 (Option.some FieldType.int) 1 := ⟨⟨tg_i 820 (by decide +kernel) (by decide +kernel), tg_i 76 (by decide +kernel) (by decide +kernel), tg_i 821 (by decide +kernel) (by decide +kernel)⟩, by decide +kernel⟩
def rm_X0_drawn : Room := { frames := 1, cells := 0, slots := 0, locals := 100 }
theorem wd_X0_draw : zWv yX0_draw cX0_draw 7 (Option.none : Option Jvm.ClassFile.FieldType) 2 := ⟨⟨tg_i 810 (by decide +kernel) (by decide +kernel), tg_i 811 (by decide +kernel) (by decide +kernel), tg_i 76 (by decide +kernel) (by decide +kernel), tg_i 812 (by decide +kernel) (by decide +kernel)⟩, by decide +kernel⟩
def rm_X0_draw : Room := { frames := 2, cells := 0, slots := 0, locals := 121 }
theorem wd_X0_becomeNumber : zWv yX0_becomeNumber cX0_becomeNumber 2 (Option.none : Option Jvm.ClassFile.FieldType) 1 := ⟨⟨tg_i 1156 (by decide +kernel) (by decide +kernel), tg_i 1157 (by decide +kernel) (by decide +kernel), tg_i 76 (by decide +kernel) (by decide +kernel), tg_i 1158 (by decide +kernel) (by decide +kernel)⟩, by decide +kernel⟩
def rm_X0_becomeNumber : Room := { frames := 4, cells := 0, slots := 0, locals := 168 }
theorem wd_X0_becomeLetter : zWv yX0_becomeLetter cX0_becomeLetter 2 (Option.none : Option Jvm.ClassFile.FieldType) 1 := ⟨⟨tg_i 1160 (by decide +kernel) (by decide +kernel), tg_i 1161 (by decide +kernel) (by decide +kernel), tg_i 76 (by decide +kernel) (by decide +kernel), tg_i 1162 (by decide +kernel) (by decide +kernel)⟩, by decide +kernel⟩
def rm_X0_becomeLetter : Room := { frames := 4, cells := 0, slots := 0, locals := 168 }
theorem wd_X0_placeBlock : zWv yX0_placeBlock cX0_placeBlock 6 (Option.none : Option Jvm.ClassFile.FieldType) 2 := ⟨⟨tg_i 965 (by decide +kernel) (by decide +kernel), tg_i 11 (by decide +kernel) (by decide +kernel), tg_i 76 (by decide +kernel) (by decide +kernel), tg_i 966 (by decide +kernel) (by decide +kernel)⟩, by decide +kernel⟩
def rm_X0_placeBlock : Room := { frames := 1, cells := 0, slots := 0, locals := 100 }
theorem wd_X0_becomeSum : zWv yX0_becomeSum cX0_becomeSum 3 (Option.none : Option Jvm.ClassFile.FieldType) 2 := ⟨⟨tg_i 959 (by decide +kernel) (by decide +kernel), tg_i 960 (by decide +kernel) (by decide +kernel), tg_i 76 (by decide +kernel) (by decide +kernel), tg_i 961 (by decide +kernel) (by decide +kernel)⟩, by decide +kernel⟩
def rm_X0_becomeSum : Room := { frames := 4, cells := 0, slots := 0, locals := 168 }
theorem wd_X0_becomeDifference : zWv yX0_becomeDifference cX0_becomeDifference 4 (Option.none : Option Jvm.ClassFile.FieldType) 2 := ⟨⟨tg_i 1047 (by decide +kernel) (by decide +kernel), tg_i 1048 (by decide +kernel) (by decide +kernel), tg_i 76 (by decide +kernel) (by decide +kernel), tg_i 1049 (by decide +kernel) (by decide +kernel)⟩, by decide +kernel⟩
def rm_X0_becomeDifference : Room := { frames := 5, cells := 0, slots := 0, locals := 190 }
theorem wd_X0_placeProducts : zWv yX0_placeProducts cX0_placeProducts 11 (Option.none : Option Jvm.ClassFile.FieldType) 5 := ⟨⟨tg_i 973 (by decide +kernel) (by decide +kernel), tg_i 12 (by decide +kernel) (by decide +kernel), tg_i 76 (by decide +kernel) (by decide +kernel), tg_i 974 (by decide +kernel) (by decide +kernel)⟩, by decide +kernel⟩
def rm_X0_placeProducts : Room := { frames := 1, cells := 0, slots := 0, locals := 100 }
theorem wd_X0_becomeHadamard : zWv yX0_becomeHadamard cX0_becomeHadamard 7 (Option.none : Option Jvm.ClassFile.FieldType) 2 := ⟨⟨tg_i 968 (by decide +kernel) (by decide +kernel), tg_i 969 (by decide +kernel) (by decide +kernel), tg_i 76 (by decide +kernel) (by decide +kernel), tg_i 970 (by decide +kernel) (by decide +kernel)⟩, by decide +kernel⟩
def rm_X0_becomeHadamard : Room := { frames := 2, cells := 0, slots := 0, locals := 130 }
theorem wd_X0_weightFrom : zWv yX0_weightFrom cX0_weightFrom 4 (Option.some FieldType.int) 1 := ⟨⟨tg_i 701 (by decide +kernel) (by decide +kernel), tg_i 702 (by decide +kernel) (by decide +kernel), tg_i 76 (by decide +kernel) (by decide +kernel), tg_i 703 (by decide +kernel) (by decide +kernel)⟩, by decide +kernel⟩
def rm_X0_weightFrom : Room := { frames := 1, cells := 0, slots := 0, locals := 100 }
theorem wd_X0_emptyWeight : zWv yX0_emptyWeight cX0_emptyWeight 1 (Option.some FieldType.int) 0 := ⟨⟨tg_i 825 (by decide +kernel) (by decide +kernel), tg_i 826 (by decide +kernel) (by decide +kernel), tg_i 76 (by decide +kernel) (by decide +kernel), tg_i 827 (by decide +kernel) (by decide +kernel)⟩, by decide +kernel⟩
def rm_X0_emptyWeight : Room := { frames := 2, cells := 0, slots := 0, locals := 123 }
theorem wd_X6_multiply : zWs yX6_multiply cX6_multiply 4 (Option.none : Option Jvm.ClassFile.FieldType) 3 := ⟨⟨tg_i 982 (by decide +kernel) (by decide +kernel), tg_i 75 (by decide +kernel) (by decide +kernel), tg_i 983 (by decide +kernel) (by decide +kernel)⟩, by decide +kernel⟩
def rm_X6_multiply : Room := { frames := 1, cells := 0, slots := 0, locals := 100 }
theorem wd_X0_stepThenLast : zWv yX0_stepThenLast cX0_stepThenLast 5 (Option.some FieldType.int) 2 := ⟨⟨tg_i 986 (by decide +kernel) (by decide +kernel), tg_i 13 (by decide +kernel) (by decide +kernel), tg_i 76 (by decide +kernel) (by decide +kernel), tg_i 987 (by decide +kernel) (by decide +kernel)⟩, by decide +kernel⟩
def rm_X0_stepThenLast : Room := { frames := 1, cells := 0, slots := 0, locals := 100 }
theorem wd_X0_becomeCauchy : zWv yX0_becomeCauchy cX0_becomeCauchy 9 (Option.none : Option Jvm.ClassFile.FieldType) 2 := ⟨⟨tg_i 976 (by decide +kernel) (by decide +kernel), tg_i 977 (by decide +kernel) (by decide +kernel), tg_i 76 (by decide +kernel) (by decide +kernel), tg_i 978 (by decide +kernel) (by decide +kernel)⟩, by decide +kernel⟩
def rm_X0_becomeCauchy : Room := { frames := 5, cells := 0, slots := 0, locals := 190 }
theorem wd_X0_hasStar : zWv yX0_hasStar cX0_hasStar 1 (Option.some FieldType.boolean) 0 := ⟨⟨tg_i 1000 (by decide +kernel) (by decide +kernel), tg_i 1001 (by decide +kernel) (by decide +kernel), tg_i 76 (by decide +kernel) (by decide +kernel), tg_i 1002 (by decide +kernel) (by decide +kernel)⟩, by decide +kernel⟩
def rm_X0_hasStar : Room := { frames := 3, cells := 0, slots := 0, locals := 143 }
theorem wd_X0_initialThenStep : zWv yX0_initialThenStep cX0_initialThenStep 5 (Option.some FieldType.int) 2 := ⟨⟨tg_i 1010 (by decide +kernel) (by decide +kernel), tg_i 15 (by decide +kernel) (by decide +kernel), tg_i 76 (by decide +kernel) (by decide +kernel), tg_i 1011 (by decide +kernel) (by decide +kernel)⟩, by decide +kernel⟩
def rm_X0_initialThenStep : Room := { frames := 1, cells := 0, slots := 0, locals := 100 }
theorem wd_X0_becomeStar : zWv yX0_becomeStar cX0_becomeStar 6 (Option.none : Option Jvm.ClassFile.FieldType) 1 := ⟨⟨tg_i 1005 (by decide +kernel) (by decide +kernel), tg_i 1006 (by decide +kernel) (by decide +kernel), tg_i 76 (by decide +kernel) (by decide +kernel), tg_i 1007 (by decide +kernel) (by decide +kernel)⟩, by decide +kernel⟩
def rm_X0_becomeStar : Room := { frames := 4, cells := 0, slots := 0, locals := 168 }
theorem wd_X0_startAfter : zWv yX0_startAfter cX0_startAfter 4 (Option.none : Option Jvm.ClassFile.FieldType) 2 := ⟨⟨tg_i 1013 (by decide +kernel) (by decide +kernel), tg_i 1014 (by decide +kernel) (by decide +kernel), tg_i 76 (by decide +kernel) (by decide +kernel), tg_i 1015 (by decide +kernel) (by decide +kernel)⟩, by decide +kernel⟩
def rm_X0_startAfter : Room := { frames := 2, cells := 0, slots := 0, locals := 124 }
theorem wd_X0_transpose : zWv yX0_transpose cX0_transpose 5 (Option.none : Option Jvm.ClassFile.FieldType) 1 := ⟨⟨tg_i 341 (by decide +kernel) (by decide +kernel), tg_i 1 (by decide +kernel) (by decide +kernel), tg_i 76 (by decide +kernel) (by decide +kernel), tg_i 342 (by decide +kernel) (by decide +kernel)⟩, by decide +kernel⟩
def rm_X0_transpose : Room := { frames := 1, cells := 0, slots := 0, locals := 100 }
theorem wd_X0_reverse : zWv yX0_reverse cX0_reverse 3 (Option.none : Option Jvm.ClassFile.FieldType) 0 := ⟨⟨tg_i 336 (by decide +kernel) (by decide +kernel), tg_i 337 (by decide +kernel) (by decide +kernel), tg_i 76 (by decide +kernel) (by decide +kernel), tg_i 338 (by decide +kernel) (by decide +kernel)⟩, by decide +kernel⟩
def rm_X0_reverse : Room := { frames := 2, cells := 0, slots := 0, locals := 124 }
theorem wd_X0_addStep : zWv yX0_addStep cX0_addStep 9 (Option.none : Option Jvm.ClassFile.FieldType) 3 := ⟨⟨tg_i 717 (by decide +kernel) (by decide +kernel), tg_i 718 (by decide +kernel) (by decide +kernel), tg_i 76 (by decide +kernel) (by decide +kernel), tg_i 719 (by decide +kernel) (by decide +kernel)⟩, by decide +kernel⟩
def rm_X0_addStep : Room := { frames := 1, cells := 0, slots := 0, locals := 100 }
theorem wd_X0_takeStep : zWv yX0_takeStep cX0_takeStep 4 (Option.none : Option Jvm.ClassFile.FieldType) 3 := ⟨⟨tg_i 712 (by decide +kernel) (by decide +kernel), tg_i 713 (by decide +kernel) (by decide +kernel), tg_i 76 (by decide +kernel) (by decide +kernel), tg_i 714 (by decide +kernel) (by decide +kernel)⟩, by decide +kernel⟩
def rm_X0_takeStep : Room := { frames := 3, cells := 0, slots := 0, locals := 146 }
theorem wd_X0_hash : zWv yX0_hash cX0_hash 7 (Option.some FieldType.long) 1 := ⟨⟨tg_i 319 (by decide +kernel) (by decide +kernel), tg_i 320 (by decide +kernel) (by decide +kernel), tg_i 76 (by decide +kernel) (by decide +kernel), tg_i 321 (by decide +kernel) (by decide +kernel)⟩, by decide +kernel⟩
def rm_X0_hash : Room := { frames := 1, cells := 0, slots := 0, locals := 100 }
theorem wd_X6_addMultiple : zWs yX6_addMultiple cX6_addMultiple 5 (Option.none : Option Jvm.ClassFile.FieldType) 4 := ⟨⟨tg_i 695 (by decide +kernel) (by decide +kernel), tg_i 75 (by decide +kernel) (by decide +kernel), tg_i 696 (by decide +kernel) (by decide +kernel)⟩, by decide +kernel⟩
def rm_X6_addMultiple : Room := { frames := 1, cells := 0, slots := 0, locals := 100 }
theorem wd_X6_firstNonZero : zWs yX6_firstNonZero cX6_firstNonZero 3 (Option.some FieldType.int) 2 := ⟨⟨tg_i 698 (by decide +kernel) (by decide +kernel), tg_i 75 (by decide +kernel) (by decide +kernel), tg_i 699 (by decide +kernel) (by decide +kernel)⟩, by decide +kernel⟩
def rm_X6_firstNonZero : Room := { frames := 1, cells := 0, slots := 0, locals := 100 }
theorem wd_X6_reciprocal : zWs yX6_reciprocal cX6_reciprocal 4 (Option.some FieldType.int) 1 := ⟨⟨tg_i 705 (by decide +kernel) (by decide +kernel), tg_i 75 (by decide +kernel) (by decide +kernel), tg_i 706 (by decide +kernel) (by decide +kernel)⟩, by decide +kernel⟩
def rm_X6_reciprocal : Room := { frames := 1, cells := 0, slots := 0, locals := 100 }
theorem wd_X1_extend : zWv yX1_extend cX1_extend 5 (Option.none : Option Jvm.ClassFile.FieldType) 2 := ⟨⟨tg_i 709 (by decide +kernel) (by decide +kernel), tg_i 4 (by decide +kernel) (by decide +kernel), tg_i 79 (by decide +kernel) (by decide +kernel), tg_i 710 (by decide +kernel) (by decide +kernel)⟩, by decide +kernel⟩
def rm_X1_extend : Room := { frames := 1, cells := 0, slots := 0, locals := 100 }
theorem wd_X1_place : zWv yX1_place cX1_place 6 (Option.none : Option Jvm.ClassFile.FieldType) 2 := ⟨⟨tg_i 354 (by decide +kernel) (by decide +kernel), tg_i 2 (by decide +kernel) (by decide +kernel), tg_i 79 (by decide +kernel) (by decide +kernel), tg_i 355 (by decide +kernel) (by decide +kernel)⟩, by decide +kernel⟩
def rm_X1_place : Room := { frames := 3, cells := 0, slots := 0, locals := 146 }
theorem wd_X1_explore : zWv yX1_explore cX1_explore 5 (Option.none : Option Jvm.ClassFile.FieldType) 1 := ⟨⟨tg_i 348 (by decide +kernel) (by decide +kernel), tg_i 349 (by decide +kernel) (by decide +kernel), tg_i 79 (by decide +kernel) (by decide +kernel), tg_i 350 (by decide +kernel) (by decide +kernel)⟩, by decide +kernel⟩
def rm_X1_explore : Room := { frames := 4, cells := 0, slots := 0, locals := 171 }
theorem wd_X1_firstWeighted : zWv yX1_firstWeighted cX1_firstWeighted 2 (Option.some FieldType.int) 0 := ⟨⟨tg_i 931 (by decide +kernel) (by decide +kernel), tg_i 932 (by decide +kernel) (by decide +kernel), tg_i 79 (by decide +kernel) (by decide +kernel), tg_i 933 (by decide +kernel) (by decide +kernel)⟩, by decide +kernel⟩
def rm_X1_firstWeighted : Room := { frames := 2, cells := 0, slots := 0, locals := 122 }
theorem wd_X1_build : zWv yX1_build cX1_build 4 (Option.none : Option Jvm.ClassFile.FieldType) 1 := ⟨⟨tg_i 722 (by decide +kernel) (by decide +kernel), tg_i 5 (by decide +kernel) (by decide +kernel), tg_i 79 (by decide +kernel) (by decide +kernel), tg_i 723 (by decide +kernel) (by decide +kernel)⟩, by decide +kernel⟩
def rm_X1_build : Room := { frames := 4, cells := 0, slots := 0, locals := 168 }
theorem wd_X1_reduce : zWv yX1_reduce cX1_reduce 2 (Option.none : Option Jvm.ClassFile.FieldType) 1 := ⟨⟨tg_i 730 (by decide +kernel) (by decide +kernel), tg_i 731 (by decide +kernel) (by decide +kernel), tg_i 79 (by decide +kernel) (by decide +kernel), tg_i 732 (by decide +kernel) (by decide +kernel)⟩, by decide +kernel⟩
def rm_X1_reduce : Room := { frames := 5, cells := 0, slots := 0, locals := 195 }
theorem wd_X1_minimize : zWv yX1_minimize cX1_minimize 3 (Option.none : Option Jvm.ClassFile.FieldType) 1 := ⟨⟨tg_i 344 (by decide +kernel) (by decide +kernel), tg_i 345 (by decide +kernel) (by decide +kernel), tg_i 79 (by decide +kernel) (by decide +kernel), tg_i 346 (by decide +kernel) (by decide +kernel)⟩, by decide +kernel⟩
def rm_X1_minimize : Room := { frames := 5, cells := 0, slots := 0, locals := 195 }
theorem wd_X2_isDigit : zWs yX2_isDigit cX2_isDigit 1 (Option.some FieldType.boolean) 1 := ⟨⟨tg_i 1118 (by decide +kernel) (by decide +kernel), tg_i 81 (by decide +kernel) (by decide +kernel), tg_i 1119 (by decide +kernel) (by decide +kernel)⟩, by decide +kernel⟩
def rm_X2_isDigit : Room := { frames := 1, cells := 0, slots := 0, locals := 100 }
theorem wd_X2_canStand : zWs yX2_canStand cX2_canStand 3 (Option.some FieldType.boolean) 3 := ⟨⟨tg_i 1121 (by decide +kernel) (by decide +kernel), tg_i 81 (by decide +kernel) (by decide +kernel), tg_i 1122 (by decide +kernel) (by decide +kernel)⟩, by decide +kernel⟩
def rm_X2_canStand : Room := { frames := 2, cells := 0, slots := 0, locals := 120 }
theorem wd_X2_syntaxError : zWv yX2_syntaxError cX2_syntaxError 6 (Option.some FieldType.int) 0 := ⟨⟨tg_i 1114 (by decide +kernel) (by decide +kernel), tg_i 1115 (by decide +kernel) (by decide +kernel), tg_i 81 (by decide +kernel) (by decide +kernel), tg_i 1116 (by decide +kernel) (by decide +kernel)⟩, by decide +kernel⟩
def rm_X2_syntaxError : Room := { frames := 3, cells := 0, slots := 0, locals := 142 }
theorem wd_X2_open : zWv yX2_open cX2_open 2 (Option.none : Option Jvm.ClassFile.FieldType) 1 := ⟨⟨tg_i 1129 (by decide +kernel) (by decide +kernel), tg_i 20 (by decide +kernel) (by decide +kernel), tg_i 81 (by decide +kernel) (by decide +kernel), tg_i 1130 (by decide +kernel) (by decide +kernel)⟩, by decide +kernel⟩
def rm_X2_open : Room := { frames := 1, cells := 0, slots := 0, locals := 100 }
theorem wd_X2_repeatFactor : zWv yX2_repeatFactor cX2_repeatFactor 2 (Option.some FieldType.boolean) 1 := ⟨⟨tg_i 1133 (by decide +kernel) (by decide +kernel), tg_i 21 (by decide +kernel) (by decide +kernel), tg_i 81 (by decide +kernel) (by decide +kernel), tg_i 1134 (by decide +kernel) (by decide +kernel)⟩, by decide +kernel⟩
def rm_X2_repeatFactor : Room := { frames := 6, cells := 0, slots := 0, locals := 217 }
theorem wd_X2_closeFactor : zWv yX2_closeFactor cX2_closeFactor 4 (Option.some FieldType.boolean) 2 := ⟨⟨tg_i 1141 (by decide +kernel) (by decide +kernel), tg_i 22 (by decide +kernel) (by decide +kernel), tg_i 81 (by decide +kernel) (by decide +kernel), tg_i 1142 (by decide +kernel) (by decide +kernel)⟩, by decide +kernel⟩
def rm_X2_closeFactor : Room := { frames := 6, cells := 0, slots := 0, locals := 218 }
theorem wd_X2_closeProduct : zWv yX2_closeProduct cX2_closeProduct 5 (Option.some FieldType.boolean) 2 := ⟨⟨tg_i 1146 (by decide +kernel) (by decide +kernel), tg_i 23 (by decide +kernel) (by decide +kernel), tg_i 81 (by decide +kernel) (by decide +kernel), tg_i 1147 (by decide +kernel) (by decide +kernel)⟩, by decide +kernel⟩
def rm_X2_closeProduct : Room := { frames := 6, cells := 0, slots := 0, locals := 217 }
theorem wd_X2_beginFactor : zWv yX2_beginFactor cX2_beginFactor 2 (Option.none : Option Jvm.ClassFile.FieldType) 1 := ⟨⟨tg_i 1153 (by decide +kernel) (by decide +kernel), tg_i 24 (by decide +kernel) (by decide +kernel), tg_i 81 (by decide +kernel) (by decide +kernel), tg_i 1154 (by decide +kernel) (by decide +kernel)⟩, by decide +kernel⟩
def rm_X2_beginFactor : Room := { frames := 5, cells := 0, slots := 0, locals := 189 }
theorem wd_X2_evaluate : zWv yX2_evaluate cX2_evaluate 6 (Option.some FieldType.boolean) 1 := ⟨⟨tg_i 1124 (by decide +kernel) (by decide +kernel), tg_i 1125 (by decide +kernel) (by decide +kernel), tg_i 81 (by decide +kernel) (by decide +kernel), tg_i 1126 (by decide +kernel) (by decide +kernel)⟩, by decide +kernel⟩
def rm_X2_evaluate : Room := { frames := 7, cells := 0, slots := 0, locals := 241 }
theorem wd_X3_raisePivot : zWv yX3_raisePivot cX3_raisePivot 6 (Option.some FieldType.boolean) 3 := ⟨⟨tg_i 1067 (by decide +kernel) (by decide +kernel), tg_i 16 (by decide +kernel) (by decide +kernel), tg_i 80 (by decide +kernel) (by decide +kernel), tg_i 1068 (by decide +kernel) (by decide +kernel)⟩, by decide +kernel⟩
def rm_X3_raisePivot : Room := { frames := 1, cells := 0, slots := 0, locals := 100 }
theorem wd_X3_clearBelow : zWv yX3_clearBelow cX3_clearBelow 8 (Option.none : Option Jvm.ClassFile.FieldType) 4 := ⟨⟨tg_i 1071 (by decide +kernel) (by decide +kernel), tg_i 17 (by decide +kernel) (by decide +kernel), tg_i 80 (by decide +kernel) (by decide +kernel), tg_i 1072 (by decide +kernel) (by decide +kernel)⟩, by decide +kernel⟩
def rm_X3_clearBelow : Room := { frames := 2, cells := 0, slots := 0, locals := 124 }
theorem wd_X3_rank : zWv yX3_rank cX3_rank 5 (Option.some FieldType.int) 2 := ⟨⟨tg_i 1062 (by decide +kernel) (by decide +kernel), tg_i 1063 (by decide +kernel) (by decide +kernel), tg_i 80 (by decide +kernel) (by decide +kernel), tg_i 1064 (by decide +kernel) (by decide +kernel)⟩, by decide +kernel⟩
def rm_X3_rank : Room := { frames := 3, cells := 0, slots := 0, locals := 151 }
theorem wd_J7_fill_53178 : zWs yJ7_fill_53178 cJ7_fill_53178 4 (Option.none : Option Jvm.ClassFile.FieldType) 2 := ⟨⟨tg_i 909 (by decide +kernel) (by decide +kernel), tg_i 89 (by decide +kernel) (by decide +kernel), tg_i 910 (by decide +kernel) (by decide +kernel)⟩, by decide +kernel⟩
def rm_J7_fill_53178 : Room := { frames := 1, cells := 0, slots := 0, locals := 100 }
theorem wd_X4_start : zWv yX4_start cX4_start 2 (Option.none : Option Jvm.ClassFile.FieldType) 1 := ⟨⟨tg_i 905 (by decide +kernel) (by decide +kernel), tg_i 906 (by decide +kernel) (by decide +kernel), tg_i 78 (by decide +kernel) (by decide +kernel), tg_i 907 (by decide +kernel) (by decide +kernel)⟩, by decide +kernel⟩
def rm_X4_start : Room := { frames := 2, cells := 0, slots := 0, locals := 123 }
theorem wd_X6_lengthOf : zWs yX6_lengthOf cX6_lengthOf 3 (Option.some FieldType.int) 1 := ⟨⟨tg_i 917 (by decide +kernel) (by decide +kernel), tg_i 75 (by decide +kernel) (by decide +kernel), tg_i 918 (by decide +kernel) (by decide +kernel)⟩, by decide +kernel⟩
def rm_X6_lengthOf : Room := { frames := 1, cells := 0, slots := 0, locals := 100 }
theorem wd_X4_weigh : zWv yX4_weigh cX4_weigh 6 (Option.some FieldType.int) 2 := ⟨⟨tg_i 913 (by decide +kernel) (by decide +kernel), tg_i 914 (by decide +kernel) (by decide +kernel), tg_i 78 (by decide +kernel) (by decide +kernel), tg_i 915 (by decide +kernel) (by decide +kernel)⟩, by decide +kernel⟩
def rm_X4_weigh : Room := { frames := 4, cells := 0, slots := 0, locals := 169 }
theorem wd_X5_start : zWv yX5_start cX5_start 2 (Option.none : Option Jvm.ClassFile.FieldType) 1 := ⟨⟨tg_i 859 (by decide +kernel) (by decide +kernel), tg_i 860 (by decide +kernel) (by decide +kernel), tg_i 77 (by decide +kernel) (by decide +kernel), tg_i 861 (by decide +kernel) (by decide +kernel)⟩, by decide +kernel⟩
def rm_X5_start : Room := { frames := 1, cells := 0, slots := 0, locals := 100 }
theorem wd_X5_swap : zWv yX5_swap cX5_swap 2 (Option.none : Option Jvm.ClassFile.FieldType) 0 := ⟨⟨tg_i 870 (by decide +kernel) (by decide +kernel), tg_i 10 (by decide +kernel) (by decide +kernel), tg_i 77 (by decide +kernel) (by decide +kernel), tg_i 871 (by decide +kernel) (by decide +kernel)⟩, by decide +kernel⟩
def rm_X5_swap : Room := { frames := 1, cells := 0, slots := 0, locals := 100 }
theorem wd_X5_takeWord : zWv yX5_takeWord cX5_takeWord 5 (Option.none : Option Jvm.ClassFile.FieldType) 2 := ⟨⟨tg_i 864 (by decide +kernel) (by decide +kernel), tg_i 865 (by decide +kernel) (by decide +kernel), tg_i 77 (by decide +kernel) (by decide +kernel), tg_i 866 (by decide +kernel) (by decide +kernel)⟩, by decide +kernel⟩
def rm_X5_takeWord : Room := { frames := 4, cells := 0, slots := 0, locals := 169 }
theorem wd_X5_takeBoth : zWv yX5_takeBoth cX5_takeBoth 3 (Option.none : Option Jvm.ClassFile.FieldType) 1 := ⟨⟨tg_i 892 (by decide +kernel) (by decide +kernel), tg_i 893 (by decide +kernel) (by decide +kernel), tg_i 77 (by decide +kernel) (by decide +kernel), tg_i 894 (by decide +kernel) (by decide +kernel)⟩, by decide +kernel⟩
def rm_X5_takeBoth : Room := { frames := 3, cells := 0, slots := 0, locals := 146 }
theorem wd_X5_value : zWv yX5_value cX5_value 2 (Option.some FieldType.int) 1 := ⟨⟨tg_i 873 (by decide +kernel) (by decide +kernel), tg_i 874 (by decide +kernel) (by decide +kernel), tg_i 77 (by decide +kernel) (by decide +kernel), tg_i 875 (by decide +kernel) (by decide +kernel)⟩, by decide +kernel⟩
def rm_X5_value : Room := { frames := 2, cells := 0, slots := 0, locals := 123 }
theorem wd_X6_checkSlot : zWs yX6_checkSlot cX6_checkSlot 1 (Option.none : Option Jvm.ClassFile.FieldType) 1 := ⟨⟨tg_i 743 (by decide +kernel) (by decide +kernel), tg_i 75 (by decide +kernel) (by decide +kernel), tg_i 744 (by decide +kernel) (by decide +kernel)⟩, by decide +kernel⟩
def rm_X6_checkSlot : Room := { frames := 6, cells := 1, slots := 6, locals := 100 }
theorem wd_X6_checkRange : zWs yX6_checkRange cX6_checkRange 3 (Option.none : Option Jvm.ClassFile.FieldType) 3 := ⟨⟨tg_i 759 (by decide +kernel) (by decide +kernel), tg_i 75 (by decide +kernel) (by decide +kernel), tg_i 760 (by decide +kernel) (by decide +kernel)⟩, by decide +kernel⟩
def rm_X6_checkRange : Room := { frames := 6, cells := 1, slots := 6, locals := 100 }
theorem wd_X6_dropOldest : zWv yX6_dropOldest cX6_dropOldest 3 (Option.none : Option Jvm.ClassFile.FieldType) 0 := ⟨⟨tg_i 770 (by decide +kernel) (by decide +kernel), tg_i 7 (by decide +kernel) (by decide +kernel), tg_i 75 (by decide +kernel) (by decide +kernel), tg_i 771 (by decide +kernel) (by decide +kernel)⟩, by decide +kernel⟩
def rm_X6_dropOldest : Room := { frames := 1, cells := 0, slots := 0, locals := 100 }
theorem wd_X6_save : zWv yX6_save cX6_save 2 (Option.none : Option Jvm.ClassFile.FieldType) 1 := ⟨⟨tg_i 766 (by decide +kernel) (by decide +kernel), tg_i 6 (by decide +kernel) (by decide +kernel), tg_i 75 (by decide +kernel) (by decide +kernel), tg_i 767 (by decide +kernel) (by decide +kernel)⟩, by decide +kernel⟩
def rm_X6_save : Room := { frames := 2, cells := 0, slots := 0, locals := 122 }
theorem wd_X6_begin : zWv yX6_begin cX6_begin 5 (Option.some FieldType.int) 2 := ⟨⟨tg_i 739 (by decide +kernel) (by decide +kernel), tg_i 740 (by decide +kernel) (by decide +kernel), tg_i 75 (by decide +kernel) (by decide +kernel), tg_i 741 (by decide +kernel) (by decide +kernel)⟩, by decide +kernel⟩
def rm_X6_begin : Room := { frames := 7, cells := 2, slots := 12, locals := 168 }
theorem wd_X6_checkState : zWv yX6_checkState cX6_checkState 3 (Option.none : Option Jvm.ClassFile.FieldType) 2 := ⟨⟨tg_i 782 (by decide +kernel) (by decide +kernel), tg_i 8 (by decide +kernel) (by decide +kernel), tg_i 75 (by decide +kernel) (by decide +kernel), tg_i 783 (by decide +kernel) (by decide +kernel)⟩, by decide +kernel⟩
def rm_X6_checkState : Room := { frames := 6, cells := 1, slots := 6, locals := 100 }
theorem wd_X6_setEnd : zWv yX6_setEnd cX6_setEnd 7 (Option.some FieldType.int) 4 := ⟨⟨tg_i 777 (by decide +kernel) (by decide +kernel), tg_i 778 (by decide +kernel) (by decide +kernel), tg_i 75 (by decide +kernel) (by decide +kernel), tg_i 779 (by decide +kernel) (by decide +kernel)⟩, by decide +kernel⟩
def rm_X6_setEnd : Room := { frames := 7, cells := 3, slots := 18, locals := 143 }
theorem wd_X6_checkStep : zWv yX6_checkStep cX6_checkStep 5 (Option.none : Option Jvm.ClassFile.FieldType) 4 := ⟨⟨tg_i 798 (by decide +kernel) (by decide +kernel), tg_i 9 (by decide +kernel) (by decide +kernel), tg_i 75 (by decide +kernel) (by decide +kernel), tg_i 799 (by decide +kernel) (by decide +kernel)⟩, by decide +kernel⟩
def rm_X6_checkStep : Room := { frames := 7, cells := 2, slots := 12, locals := 122 }
theorem wd_X6_setStep : zWv yX6_setStep cX6_setStep 9 (Option.some FieldType.int) 5 := ⟨⟨tg_i 793 (by decide +kernel) (by decide +kernel), tg_i 794 (by decide +kernel) (by decide +kernel), tg_i 75 (by decide +kernel) (by decide +kernel), tg_i 795 (by decide +kernel) (by decide +kernel)⟩, by decide +kernel⟩
def rm_X6_setStep : Room := { frames := 8, cells := 4, slots := 24, locals := 146 }
theorem wd_X6_random : zWv yX6_random cX6_random 4 (Option.some FieldType.int) 3 := ⟨⟨tg_i 805 (by decide +kernel) (by decide +kernel), tg_i 806 (by decide +kernel) (by decide +kernel), tg_i 75 (by decide +kernel) (by decide +kernel), tg_i 807 (by decide +kernel) (by decide +kernel)⟩, by decide +kernel⟩
def rm_X6_random : Room := { frames := 7, cells := 3, slots := 18, locals := 147 }
theorem wd_X6_states : zWv yX6_states cX6_states 2 (Option.some FieldType.int) 1 := ⟨⟨tg_i 833 (by decide +kernel) (by decide +kernel), tg_i 834 (by decide +kernel) (by decide +kernel), tg_i 75 (by decide +kernel) (by decide +kernel), tg_i 835 (by decide +kernel) (by decide +kernel)⟩, by decide +kernel⟩
def rm_X6_states : Room := { frames := 7, cells := 1, slots := 6, locals := 120 }
theorem wd_X6_end : zWv yX6_end cX6_end 4 (Option.some FieldType.int) 3 := ⟨⟨tg_i 840 (by decide +kernel) (by decide +kernel), tg_i 841 (by decide +kernel) (by decide +kernel), tg_i 75 (by decide +kernel) (by decide +kernel), tg_i 842 (by decide +kernel) (by decide +kernel)⟩, by decide +kernel⟩
def rm_X6_end : Room := { frames := 7, cells := 2, slots := 12, locals := 122 }
theorem wd_X6_step : zWv yX6_step cX6_step 6 (Option.some FieldType.int) 4 := ⟨⟨tg_i 847 (by decide +kernel) (by decide +kernel), tg_i 848 (by decide +kernel) (by decide +kernel), tg_i 75 (by decide +kernel) (by decide +kernel), tg_i 849 (by decide +kernel) (by decide +kernel)⟩, by decide +kernel⟩
def rm_X6_step : Room := { frames := 8, cells := 3, slots := 18, locals := 146 }
theorem wd_X6_weight : zWv yX6_weight cX6_weight 3 (Option.some FieldType.int) 2 := ⟨⟨tg_i 854 (by decide +kernel) (by decide +kernel), tg_i 855 (by decide +kernel) (by decide +kernel), tg_i 75 (by decide +kernel) (by decide +kernel), tg_i 856 (by decide +kernel) (by decide +kernel)⟩, by decide +kernel⟩
def rm_X6_weight : Room := { frames := 7, cells := 2, slots := 12, locals := 193 }
theorem wd_X6_powerWeight : zWv yX6_powerWeight cX6_powerWeight 5 (Option.some FieldType.int) 3 := ⟨⟨tg_i 881 (by decide +kernel) (by decide +kernel), tg_i 882 (by decide +kernel) (by decide +kernel), tg_i 75 (by decide +kernel) (by decide +kernel), tg_i 883 (by decide +kernel) (by decide +kernel)⟩, by decide +kernel⟩
def rm_X6_powerWeight : Room := { frames := 7, cells := 3, slots := 18, locals := 193 }
theorem wd_X6_total : zWv yX6_total cX6_total 4 (Option.some FieldType.int) 2 := ⟨⟨tg_i 888 (by decide +kernel) (by decide +kernel), tg_i 889 (by decide +kernel) (by decide +kernel), tg_i 75 (by decide +kernel) (by decide +kernel), tg_i 890 (by decide +kernel) (by decide +kernel)⟩, by decide +kernel⟩
def rm_X6_total : Room := { frames := 7, cells := 2, slots := 12, locals := 168 }
theorem wd_X6_support : zWv yX6_support cX6_support 5 (Option.some FieldType.int) 2 := ⟨⟨tg_i 901 (by decide +kernel) (by decide +kernel), tg_i 902 (by decide +kernel) (by decide +kernel), tg_i 75 (by decide +kernel) (by decide +kernel), tg_i 903 (by decide +kernel) (by decide +kernel)⟩, by decide +kernel⟩
def rm_X6_support : Room := { frames := 7, cells := 2, slots := 12, locals := 194 }
theorem wd_X6_first : zWv yX6_first cX6_first 2 (Option.some FieldType.int) 1 := ⟨⟨tg_i 926 (by decide +kernel) (by decide +kernel), tg_i 927 (by decide +kernel) (by decide +kernel), tg_i 75 (by decide +kernel) (by decide +kernel), tg_i 928 (by decide +kernel) (by decide +kernel)⟩, by decide +kernel⟩
def rm_X6_first : Room := { frames := 7, cells := 1, slots := 6, locals := 195 }
theorem wd_X6_store : zWv yX6_store cX6_store 2 (Option.some FieldType.int) 1 := ⟨⟨tg_i 990 (by decide +kernel) (by decide +kernel), tg_i 14 (by decide +kernel) (by decide +kernel), tg_i 75 (by decide +kernel) (by decide +kernel), tg_i 991 (by decide +kernel) (by decide +kernel)⟩, by decide +kernel⟩
def rm_X6_store : Room := { frames := 3, cells := 0, slots := 0, locals := 143 }
theorem wd_X6_combine : zWv yX6_combine cX6_combine 8 (Option.some FieldType.int) 4 := ⟨⟨tg_i 939 (by decide +kernel) (by decide +kernel), tg_i 940 (by decide +kernel) (by decide +kernel), tg_i 75 (by decide +kernel) (by decide +kernel), tg_i 941 (by decide +kernel) (by decide +kernel)⟩, by decide +kernel⟩
def rm_X6_combine : Room := { frames := 7, cells := 5, slots := 30, locals := 218 }
theorem wd_X6_derive : zWv yX6_derive cX6_derive 5 (Option.some FieldType.int) 3 := ⟨⟨tg_i 996 (by decide +kernel) (by decide +kernel), tg_i 997 (by decide +kernel) (by decide +kernel), tg_i 75 (by decide +kernel) (by decide +kernel), tg_i 998 (by decide +kernel) (by decide +kernel)⟩, by decide +kernel⟩
def rm_X6_derive : Room := { frames := 7, cells := 4, slots := 24, locals := 217 }
theorem wd_X6_scale : zWv yX6_scale cX6_scale 4 (Option.some FieldType.int) 2 := ⟨⟨tg_i 1020 (by decide +kernel) (by decide +kernel), tg_i 1021 (by decide +kernel) (by decide +kernel), tg_i 75 (by decide +kernel) (by decide +kernel), tg_i 1022 (by decide +kernel) (by decide +kernel)⟩, by decide +kernel⟩
def rm_X6_scale : Room := { frames := 7, cells := 2, slots := 12, locals := 143 }
theorem wd_X6_spaceSize : zWv yX6_spaceSize cX6_spaceSize 3 (Option.some FieldType.int) 2 := ⟨⟨tg_i 326 (by decide +kernel) (by decide +kernel), tg_i 0 (by decide +kernel) (by decide +kernel), tg_i 75 (by decide +kernel) (by decide +kernel), tg_i 327 (by decide +kernel) (by decide +kernel)⟩, by decide +kernel⟩
def rm_X6_spaceSize : Room := { frames := 6, cells := 0, slots := 0, locals := 217 }
theorem wd_X6_dimension : zWv yX6_dimension cX6_dimension 3 (Option.some FieldType.int) 2 := ⟨⟨tg_i 1028 (by decide +kernel) (by decide +kernel), tg_i 1029 (by decide +kernel) (by decide +kernel), tg_i 75 (by decide +kernel) (by decide +kernel), tg_i 1030 (by decide +kernel) (by decide +kernel)⟩, by decide +kernel⟩
def rm_X6_dimension : Room := { frames := 7, cells := 2, slots := 12, locals := 239 }
theorem wd_X6_basisWord : zWv yX6_basisWord cX6_basisWord 3 (Option.some FieldType.int) 2 := ⟨⟨tg_i 1035 (by decide +kernel) (by decide +kernel), tg_i 1036 (by decide +kernel) (by decide +kernel), tg_i 75 (by decide +kernel) (by decide +kernel), tg_i 1037 (by decide +kernel) (by decide +kernel)⟩, by decide +kernel⟩
def rm_X6_basisWord : Room := { frames := 7, cells := 2, slots := 12, locals := 195 }
theorem wd_X6_differing : zWv yX6_differing cX6_differing 3 (Option.some FieldType.int) 2 := ⟨⟨tg_i 1043 (by decide +kernel) (by decide +kernel), tg_i 1044 (by decide +kernel) (by decide +kernel), tg_i 75 (by decide +kernel) (by decide +kernel), tg_i 1045 (by decide +kernel) (by decide +kernel)⟩, by decide +kernel⟩
def rm_X6_differing : Room := { frames := 7, cells := 2, slots := 12, locals := 213 }
theorem wd_X6_joinedWord : zWs yX6_joinedWord cX6_joinedWord 3 (Option.some FieldType.int) 2 := ⟨⟨tg_i 1058 (by decide +kernel) (by decide +kernel), tg_i 75 (by decide +kernel) (by decide +kernel), tg_i 1059 (by decide +kernel) (by decide +kernel)⟩, by decide +kernel⟩
def rm_X6_joinedWord : Room := { frames := 2, cells := 0, slots := 0, locals := 122 }
theorem wd_X6_hankelRank : zWv yX6_hankelRank cX6_hankelRank 5 (Option.some FieldType.int) 2 := ⟨⟨tg_i 1054 (by decide +kernel) (by decide +kernel), tg_i 1055 (by decide +kernel) (by decide +kernel), tg_i 75 (by decide +kernel) (by decide +kernel), tg_i 1056 (by decide +kernel) (by decide +kernel)⟩, by decide +kernel⟩
def rm_X6_hankelRank : Room := { frames := 7, cells := 2, slots := 12, locals := 194 }
theorem wd_X6_collectTotals : zWv yX6_collectTotals cX6_collectTotals 4 (Option.none : Option Jvm.ClassFile.FieldType) 2 := ⟨⟨tg_i 1084 (by decide +kernel) (by decide +kernel), tg_i 18 (by decide +kernel) (by decide +kernel), tg_i 75 (by decide +kernel) (by decide +kernel), tg_i 1085 (by decide +kernel) (by decide +kernel)⟩, by decide +kernel⟩
def rm_X6_collectTotals : Room := { frames := 4, cells := 0, slots := 0, locals := 168 }
theorem wd_X6_fillRecurrences : zWv yX6_fillRecurrences cX6_fillRecurrences 4 (Option.none : Option Jvm.ClassFile.FieldType) 1 := ⟨⟨tg_i 1088 (by decide +kernel) (by decide +kernel), tg_i 19 (by decide +kernel) (by decide +kernel), tg_i 75 (by decide +kernel) (by decide +kernel), tg_i 1089 (by decide +kernel) (by decide +kernel)⟩, by decide +kernel⟩
def rm_X6_fillRecurrences : Room := { frames := 1, cells := 0, slots := 0, locals := 100 }
theorem wd_X6_recurs : zWv yX6_recurs cX6_recurs 4 (Option.some FieldType.boolean) 2 := ⟨⟨tg_i 1079 (by decide +kernel) (by decide +kernel), tg_i 1080 (by decide +kernel) (by decide +kernel), tg_i 75 (by decide +kernel) (by decide +kernel), tg_i 1081 (by decide +kernel) (by decide +kernel)⟩, by decide +kernel⟩
def rm_X6_recurs : Room := { frames := 7, cells := 2, slots := 12, locals := 191 }
theorem wd_X6_inverse : zWv yX6_inverse cX6_inverse 2 (Option.some FieldType.int) 1 := ⟨⟨tg_i 1094 (by decide +kernel) (by decide +kernel), tg_i 1095 (by decide +kernel) (by decide +kernel), tg_i 75 (by decide +kernel) (by decide +kernel), tg_i 1096 (by decide +kernel) (by decide +kernel)⟩, by decide +kernel⟩
def rm_X6_inverse : Room := { frames := 7, cells := 1, slots := 6, locals := 123 }
theorem wd_X6_append : zWv yX6_append cX6_append 2 (Option.some FieldType.int) 1 := ⟨⟨tg_i 1102 (by decide +kernel) (by decide +kernel), tg_i 1103 (by decide +kernel) (by decide +kernel), tg_i 75 (by decide +kernel) (by decide +kernel), tg_i 1104 (by decide +kernel) (by decide +kernel)⟩, by decide +kernel⟩
def rm_X6_append : Room := { frames := 7, cells := 2, slots := 12, locals := 122 }
theorem wd_X6_clearText : zWv yX6_clearText cX6_clearText 2 (Option.some FieldType.int) 0 := ⟨⟨tg_i 310 (by decide +kernel) (by decide +kernel), tg_i 311 (by decide +kernel) (by decide +kernel), tg_i 75 (by decide +kernel) (by decide +kernel), tg_i 312 (by decide +kernel) (by decide +kernel)⟩, by decide +kernel⟩
def rm_X6_clearText : Room := { frames := 1, cells := 0, slots := 0, locals := 100 }
theorem wd_X6_parse : zWv yX6_parse cX6_parse 3 (Option.some FieldType.int) 1 := ⟨⟨tg_i 1110 (by decide +kernel) (by decide +kernel), tg_i 1111 (by decide +kernel) (by decide +kernel), tg_i 75 (by decide +kernel) (by decide +kernel), tg_i 1112 (by decide +kernel) (by decide +kernel)⟩, by decide +kernel⟩
def rm_X6_parse : Room := { frames := 8, cells := 1, slots := 6, locals := 266 }
theorem wd_X6_undo : zWv yX6_undo cX6_undo 1 (Option.some FieldType.int) 0 := ⟨⟨tg_i 1167 (by decide +kernel) (by decide +kernel), tg_i 1168 (by decide +kernel) (by decide +kernel), tg_i 75 (by decide +kernel) (by decide +kernel), tg_i 1169 (by decide +kernel) (by decide +kernel)⟩, by decide +kernel⟩
def rm_X6_undo : Room := { frames := 6, cells := 1, slots := 6, locals := 122 }
theorem wd_X6_digest : zWv yX6_digest cX6_digest 5 (Option.some FieldType.long) 0 := ⟨⟨tg_i 314 (by decide +kernel) (by decide +kernel), tg_i 315 (by decide +kernel) (by decide +kernel), tg_i 75 (by decide +kernel) (by decide +kernel), tg_i 316 (by decide +kernel) (by decide +kernel)⟩, by decide +kernel⟩
def rm_X6_digest : Room := { frames := 7, cells := 0, slots := 0, locals := 239 }
theorem wd_X7_thrown : zWv yX7_thrown cX7_thrown 1 (Option.some FieldType.int) 0 := ⟨⟨tg_i 1254 (by decide +kernel) (by decide +kernel), tg_i 1255 (by decide +kernel) (by decide +kernel), tg_i 82 (by decide +kernel) (by decide +kernel), tg_i 1256 (by decide +kernel) (by decide +kernel)⟩, by decide +kernel⟩
def rm_X7_thrown : Room := { frames := 1, cells := 0, slots := 0, locals := 100 }
theorem wd_X7_in : zWs yX7_in cX7_in 6 (Option.some FieldType.boolean) 3 := ⟨⟨tg_i 1266 (by decide +kernel) (by decide +kernel), tg_i 82 (by decide +kernel) (by decide +kernel), tg_i 1267 (by decide +kernel) (by decide +kernel)⟩, by decide +kernel⟩
def rm_X7_in : Room := { frames := 1, cells := 0, slots := 0, locals := 100 }
theorem wd_X7_goes : zWv yX7_goes cX7_goes 4 (Option.some FieldType.boolean) 3 := ⟨⟨tg_i 1271 (by decide +kernel) (by decide +kernel), tg_i 25 (by decide +kernel) (by decide +kernel), tg_i 82 (by decide +kernel) (by decide +kernel), tg_i 1272 (by decide +kernel) (by decide +kernel)⟩, by decide +kernel⟩
def rm_X7_goes : Room := { frames := 1, cells := 0, slots := 0, locals := 100 }
theorem wd_X7_save : zWv yX7_save cX7_save 2 (Option.none : Option Jvm.ClassFile.FieldType) 0 := ⟨⟨tg_i 1275 (by decide +kernel) (by decide +kernel), tg_i 26 (by decide +kernel) (by decide +kernel), tg_i 82 (by decide +kernel) (by decide +kernel), tg_i 1276 (by decide +kernel) (by decide +kernel)⟩, by decide +kernel⟩
def rm_X7_save : Room := { frames := 1, cells := 0, slots := 0, locals := 100 }
theorem wd_X7_isSlot : zWs yX7_isSlot cX7_isSlot 1 (Option.some FieldType.boolean) 1 := ⟨⟨tg_i 1262 (by decide +kernel) (by decide +kernel), tg_i 82 (by decide +kernel) (by decide +kernel), tg_i 1263 (by decide +kernel) (by decide +kernel)⟩, by decide +kernel⟩
def rm_X7_isSlot : Room := { frames := 2, cells := 0, slots := 0, locals := 125 }
theorem wd_X7_isNumber : zWs yX7_isNumber cX7_isNumber 1 (Option.some FieldType.boolean) 1 := ⟨⟨tg_i 1294 (by decide +kernel) (by decide +kernel), tg_i 82 (by decide +kernel) (by decide +kernel), tg_i 1295 (by decide +kernel) (by decide +kernel)⟩, by decide +kernel⟩
def rm_X7_isNumber : Room := { frames := 2, cells := 0, slots := 0, locals := 125 }
theorem wd_X7_power : zWs yX7_power cX7_power 5 (Option.some FieldType.int) 2 := ⟨⟨tg_i 1408 (by decide +kernel) (by decide +kernel), tg_i 82 (by decide +kernel) (by decide +kernel), tg_i 1409 (by decide +kernel) (by decide +kernel)⟩, by decide +kernel⟩
def rm_X7_power : Room := { frames := 1, cells := 0, slots := 0, locals := 100 }
theorem wd_X7_inverted : zWs yX7_inverted cX7_inverted 1 (Option.some FieldType.int) 1 := ⟨⟨tg_i 1405 (by decide +kernel) (by decide +kernel), tg_i 82 (by decide +kernel) (by decide +kernel), tg_i 1406 (by decide +kernel) (by decide +kernel)⟩, by decide +kernel⟩
def rm_X7_inverted : Room := { frames := 2, cells := 0, slots := 0, locals := 124 }
theorem wd_X7_many : zWv yX7_many cX7_many 2 (Option.some FieldType.int) 1 := ⟨⟨tg_i 1279 (by decide +kernel) (by decide +kernel), tg_i 27 (by decide +kernel) (by decide +kernel), tg_i 82 (by decide +kernel) (by decide +kernel), tg_i 1280 (by decide +kernel) (by decide +kernel)⟩, by decide +kernel⟩
def rm_X7_many : Room := { frames := 1, cells := 0, slots := 0, locals := 100 }
theorem wd_X7_initialAt : zWs yX7_initialAt cX7_initialAt 2 (Option.some FieldType.int) 2 := ⟨⟨tg_i 1301 (by decide +kernel) (by decide +kernel), tg_i 82 (by decide +kernel) (by decide +kernel), tg_i 1302 (by decide +kernel) (by decide +kernel)⟩, by decide +kernel⟩
def rm_X7_initialAt : Room := { frames := 1, cells := 0, slots := 0, locals := 100 }
theorem wd_X7_finalAt : zWs yX7_finalAt cX7_finalAt 2 (Option.some FieldType.int) 2 := ⟨⟨tg_i 1298 (by decide +kernel) (by decide +kernel), tg_i 82 (by decide +kernel) (by decide +kernel), tg_i 1299 (by decide +kernel) (by decide +kernel)⟩, by decide +kernel⟩
def rm_X7_finalAt : Room := { frames := 1, cells := 0, slots := 0, locals := 100 }
theorem wd_X7_at : zWs yX7_at cX7_at 4 (Option.some FieldType.int) 4 := ⟨⟨tg_i 1312 (by decide +kernel) (by decide +kernel), tg_i 82 (by decide +kernel) (by decide +kernel), tg_i 1313 (by decide +kernel) (by decide +kernel)⟩, by decide +kernel⟩
def rm_X7_at : Room := { frames := 1, cells := 0, slots := 0, locals := 100 }
theorem wd_X7_clears : zWv yX7_clears cX7_clears 4 (Option.none : Option Jvm.ClassFile.FieldType) 2 := ⟨⟨tg_i 1283 (by decide +kernel) (by decide +kernel), tg_i 28 (by decide +kernel) (by decide +kernel), tg_i 82 (by decide +kernel) (by decide +kernel), tg_i 1284 (by decide +kernel) (by decide +kernel)⟩, by decide +kernel⟩
def rm_X7_clears : Room := { frames := 1, cells := 0, slots := 0, locals := 100 }
theorem wd_X7_copies : zWv yX7_copies cX7_copies 4 (Option.none : Option Jvm.ClassFile.FieldType) 2 := ⟨⟨tg_i 1481 (by decide +kernel) (by decide +kernel), tg_i 55 (by decide +kernel) (by decide +kernel), tg_i 82 (by decide +kernel) (by decide +kernel), tg_i 1482 (by decide +kernel) (by decide +kernel)⟩, by decide +kernel⟩
def rm_X7_copies : Room := { frames := 1, cells := 0, slots := 0, locals := 100 }
theorem wd_X7_emptyWeight : zWv yX7_emptyWeight cX7_emptyWeight 4 (Option.some FieldType.int) 1 := ⟨⟨tg_i 1330 (by decide +kernel) (by decide +kernel), tg_i 32 (by decide +kernel) (by decide +kernel), tg_i 82 (by decide +kernel) (by decide +kernel), tg_i 1331 (by decide +kernel) (by decide +kernel)⟩, by decide +kernel⟩
def rm_X7_emptyWeight : Room := { frames := 2, cells := 0, slots := 0, locals := 121 }
theorem wd_X7_begin : zWv yX7_begin cX7_begin 4 (Option.some FieldType.int) 2 := ⟨⟨tg_i 1258 (by decide +kernel) (by decide +kernel), tg_i 1259 (by decide +kernel) (by decide +kernel), tg_i 82 (by decide +kernel) (by decide +kernel), tg_i 1260 (by decide +kernel) (by decide +kernel)⟩, by decide +kernel⟩
def rm_X7_begin : Room := { frames := 3, cells := 0, slots := 0, locals := 145 }
theorem wd_X7_isState : zWv yX7_isState cX7_isState 3 (Option.some FieldType.boolean) 2 := ⟨⟨tg_i 1291 (by decide +kernel) (by decide +kernel), tg_i 29 (by decide +kernel) (by decide +kernel), tg_i 82 (by decide +kernel) (by decide +kernel), tg_i 1292 (by decide +kernel) (by decide +kernel)⟩, by decide +kernel⟩
def rm_X7_isState : Room := { frames := 3, cells := 0, slots := 0, locals := 145 }
theorem wd_X7_setEnd : zWv yX7_setEnd cX7_setEnd 7 (Option.some FieldType.int) 4 := ⟨⟨tg_i 1286 (by decide +kernel) (by decide +kernel), tg_i 1287 (by decide +kernel) (by decide +kernel), tg_i 82 (by decide +kernel) (by decide +kernel), tg_i 1288 (by decide +kernel) (by decide +kernel)⟩, by decide +kernel⟩
def rm_X7_setEnd : Room := { frames := 4, cells := 0, slots := 0, locals := 167 }
theorem wd_X7_isStep : zWv yX7_isStep cX7_isStep 5 (Option.some FieldType.boolean) 4 := ⟨⟨tg_i 1309 (by decide +kernel) (by decide +kernel), tg_i 30 (by decide +kernel) (by decide +kernel), tg_i 82 (by decide +kernel) (by decide +kernel), tg_i 1310 (by decide +kernel) (by decide +kernel)⟩, by decide +kernel⟩
def rm_X7_isStep : Room := { frames := 4, cells := 0, slots := 0, locals := 167 }
theorem wd_X7_setStep : zWv yX7_setStep cX7_setStep 7 (Option.some FieldType.int) 5 := ⟨⟨tg_i 1304 (by decide +kernel) (by decide +kernel), tg_i 1305 (by decide +kernel) (by decide +kernel), tg_i 82 (by decide +kernel) (by decide +kernel), tg_i 1306 (by decide +kernel) (by decide +kernel)⟩, by decide +kernel⟩
def rm_X7_setStep : Room := { frames := 5, cells := 0, slots := 0, locals := 191 }
theorem wd_X7_draws : zWv yX7_draws cX7_draws 1 (Option.some FieldType.int) 0 := ⟨⟨tg_i 1321 (by decide +kernel) (by decide +kernel), tg_i 31 (by decide +kernel) (by decide +kernel), tg_i 82 (by decide +kernel) (by decide +kernel), tg_i 1322 (by decide +kernel) (by decide +kernel)⟩, by decide +kernel⟩
def rm_X7_draws : Room := { frames := 1, cells := 0, slots := 0, locals := 100 }
theorem wd_X7_random : zWv yX7_random cX7_random 7 (Option.some FieldType.int) 3 := ⟨⟨tg_i 1315 (by decide +kernel) (by decide +kernel), tg_i 1316 (by decide +kernel) (by decide +kernel), tg_i 82 (by decide +kernel) (by decide +kernel), tg_i 1317 (by decide +kernel) (by decide +kernel)⟩, by decide +kernel⟩
def rm_X7_random : Room := { frames := 3, cells := 0, slots := 0, locals := 145 }
theorem wd_X7_states : zWv yX7_states cX7_states 2 (Option.some FieldType.int) 1 := ⟨⟨tg_i 1333 (by decide +kernel) (by decide +kernel), tg_i 1334 (by decide +kernel) (by decide +kernel), tg_i 82 (by decide +kernel) (by decide +kernel), tg_i 1335 (by decide +kernel) (by decide +kernel)⟩, by decide +kernel⟩
def rm_X7_states : Room := { frames := 3, cells := 0, slots := 0, locals := 145 }
theorem wd_X7_end : zWv yX7_end cX7_end 4 (Option.some FieldType.int) 3 := ⟨⟨tg_i 1337 (by decide +kernel) (by decide +kernel), tg_i 1338 (by decide +kernel) (by decide +kernel), tg_i 82 (by decide +kernel) (by decide +kernel), tg_i 1339 (by decide +kernel) (by decide +kernel)⟩, by decide +kernel⟩
def rm_X7_end : Room := { frames := 4, cells := 0, slots := 0, locals := 167 }
theorem wd_X7_step : zWv yX7_step cX7_step 5 (Option.some FieldType.int) 4 := ⟨⟨tg_i 1341 (by decide +kernel) (by decide +kernel), tg_i 1342 (by decide +kernel) (by decide +kernel), tg_i 82 (by decide +kernel) (by decide +kernel), tg_i 1343 (by decide +kernel) (by decide +kernel)⟩, by decide +kernel⟩
def rm_X7_step : Room := { frames := 5, cells := 0, slots := 0, locals := 191 }
theorem wd_X7_laysInitial : zWv yX7_laysInitial cX7_laysInitial 4 (Option.none : Option Jvm.ClassFile.FieldType) 2 := ⟨⟨tg_i 1355 (by decide +kernel) (by decide +kernel), tg_i 34 (by decide +kernel) (by decide +kernel), tg_i 82 (by decide +kernel) (by decide +kernel), tg_i 1356 (by decide +kernel) (by decide +kernel)⟩, by decide +kernel⟩
def rm_X7_laysInitial : Room := { frames := 2, cells := 0, slots := 0, locals := 121 }
theorem wd_X7_passes : zWv yX7_passes cX7_passes 8 (Option.none : Option Jvm.ClassFile.FieldType) 3 := ⟨⟨tg_i 1363 (by decide +kernel) (by decide +kernel), tg_i 36 (by decide +kernel) (by decide +kernel), tg_i 82 (by decide +kernel) (by decide +kernel), tg_i 1364 (by decide +kernel) (by decide +kernel)⟩, by decide +kernel⟩
def rm_X7_passes : Room := { frames := 2, cells := 0, slots := 0, locals := 123 }
theorem wd_X7_ends : zWv yX7_ends cX7_ends 5 (Option.some FieldType.int) 2 := ⟨⟨tg_i 1367 (by decide +kernel) (by decide +kernel), tg_i 37 (by decide +kernel) (by decide +kernel), tg_i 82 (by decide +kernel) (by decide +kernel), tg_i 1368 (by decide +kernel) (by decide +kernel)⟩, by decide +kernel⟩
def rm_X7_ends : Room := { frames := 2, cells := 0, slots := 0, locals := 121 }
theorem wd_X7_passesWord : zWv yX7_passesWord cX7_passesWord 5 (Option.none : Option Jvm.ClassFile.FieldType) 2 := ⟨⟨tg_i 1359 (by decide +kernel) (by decide +kernel), tg_i 35 (by decide +kernel) (by decide +kernel), tg_i 82 (by decide +kernel) (by decide +kernel), tg_i 1360 (by decide +kernel) (by decide +kernel)⟩, by decide +kernel⟩
def rm_X7_passesWord : Room := { frames := 3, cells := 0, slots := 0, locals := 150 }
theorem wd_X7_weighs : zWv yX7_weighs cX7_weighs 3 (Option.some FieldType.int) 2 := ⟨⟨tg_i 1351 (by decide +kernel) (by decide +kernel), tg_i 33 (by decide +kernel) (by decide +kernel), tg_i 82 (by decide +kernel) (by decide +kernel), tg_i 1352 (by decide +kernel) (by decide +kernel)⟩, by decide +kernel⟩
def rm_X7_weighs : Room := { frames := 4, cells := 0, slots := 0, locals := 174 }
theorem wd_X7_weight : zWv yX7_weight cX7_weight 3 (Option.some FieldType.int) 2 := ⟨⟨tg_i 1345 (by decide +kernel) (by decide +kernel), tg_i 1346 (by decide +kernel) (by decide +kernel), tg_i 82 (by decide +kernel) (by decide +kernel), tg_i 1347 (by decide +kernel) (by decide +kernel)⟩, by decide +kernel⟩
def rm_X7_weight : Room := { frames := 5, cells := 0, slots := 0, locals := 196 }
theorem wd_X7_powerWeight : zWv yX7_powerWeight cX7_powerWeight 5 (Option.some FieldType.int) 3 := ⟨⟨tg_i 1370 (by decide +kernel) (by decide +kernel), tg_i 1371 (by decide +kernel) (by decide +kernel), tg_i 82 (by decide +kernel) (by decide +kernel), tg_i 1372 (by decide +kernel) (by decide +kernel)⟩, by decide +kernel⟩
def rm_X7_powerWeight : Room := { frames := 4, cells := 0, slots := 0, locals := 174 }
theorem wd_X7_total : zWv yX7_total cX7_total 4 (Option.some FieldType.int) 2 := ⟨⟨tg_i 1375 (by decide +kernel) (by decide +kernel), tg_i 1376 (by decide +kernel) (by decide +kernel), tg_i 82 (by decide +kernel) (by decide +kernel), tg_i 1377 (by decide +kernel) (by decide +kernel)⟩, by decide +kernel⟩
def rm_X7_total : Room := { frames := 3, cells := 0, slots := 0, locals := 150 }
theorem wd_X7_support : zWv yX7_support cX7_support 5 (Option.some FieldType.int) 2 := ⟨⟨tg_i 1380 (by decide +kernel) (by decide +kernel), tg_i 1381 (by decide +kernel) (by decide +kernel), tg_i 82 (by decide +kernel) (by decide +kernel), tg_i 1382 (by decide +kernel) (by decide +kernel)⟩, by decide +kernel⟩
def rm_X7_support : Room := { frames := 5, cells := 0, slots := 0, locals := 196 }
theorem wd_X7_reduces : zWv yX7_reduces cX7_reduces 5 (Option.some FieldType.boolean) 1 := ⟨⟨tg_i 1402 (by decide +kernel) (by decide +kernel), tg_i 41 (by decide +kernel) (by decide +kernel), tg_i 82 (by decide +kernel) (by decide +kernel), tg_i 1403 (by decide +kernel) (by decide +kernel)⟩, by decide +kernel⟩
def rm_X7_reduces : Room := { frames := 1, cells := 0, slots := 0, locals := 100 }
theorem wd_X7_offers : zWv yX7_offers cX7_offers 8 (Option.none : Option Jvm.ClassFile.FieldType) 2 := ⟨⟨tg_i 1398 (by decide +kernel) (by decide +kernel), tg_i 40 (by decide +kernel) (by decide +kernel), tg_i 82 (by decide +kernel) (by decide +kernel), tg_i 1399 (by decide +kernel) (by decide +kernel)⟩, by decide +kernel⟩
def rm_X7_offers : Room := { frames := 3, cells := 0, slots := 0, locals := 144 }
theorem wd_X7_laysBasis : zWv yX7_laysBasis cX7_laysBasis 4 (Option.none : Option Jvm.ClassFile.FieldType) 2 := ⟨⟨tg_i 1412 (by decide +kernel) (by decide +kernel), tg_i 42 (by decide +kernel) (by decide +kernel), tg_i 82 (by decide +kernel) (by decide +kernel), tg_i 1413 (by decide +kernel) (by decide +kernel)⟩, by decide +kernel⟩
def rm_X7_laysBasis : Room := { frames := 1, cells := 0, slots := 0, locals := 100 }
theorem wd_X7_spans : zWv yX7_spans cX7_spans 6 (Option.none : Option Jvm.ClassFile.FieldType) 2 := ⟨⟨tg_i 1394 (by decide +kernel) (by decide +kernel), tg_i 39 (by decide +kernel) (by decide +kernel), tg_i 82 (by decide +kernel) (by decide +kernel), tg_i 1395 (by decide +kernel) (by decide +kernel)⟩, by decide +kernel⟩
def rm_X7_spans : Room := { frames := 4, cells := 0, slots := 0, locals := 171 }
theorem wd_X7_endsBasis : zWv yX7_endsBasis cX7_endsBasis 4 (Option.some FieldType.int) 3 := ⟨⟨tg_i 1416 (by decide +kernel) (by decide +kernel), tg_i 43 (by decide +kernel) (by decide +kernel), tg_i 82 (by decide +kernel) (by decide +kernel), tg_i 1417 (by decide +kernel) (by decide +kernel)⟩, by decide +kernel⟩
def rm_X7_endsBasis : Room := { frames := 3, cells := 0, slots := 0, locals := 145 }
theorem wd_X7_firstWord : zWv yX7_firstWord cX7_firstWord 4 (Option.some FieldType.int) 2 := ⟨⟨tg_i 1390 (by decide +kernel) (by decide +kernel), tg_i 38 (by decide +kernel) (by decide +kernel), tg_i 82 (by decide +kernel) (by decide +kernel), tg_i 1391 (by decide +kernel) (by decide +kernel)⟩, by decide +kernel⟩
def rm_X7_firstWord : Room := { frames := 5, cells := 0, slots := 0, locals := 196 }
theorem wd_X7_first : zWv yX7_first cX7_first 2 (Option.some FieldType.int) 1 := ⟨⟨tg_i 1385 (by decide +kernel) (by decide +kernel), tg_i 1386 (by decide +kernel) (by decide +kernel), tg_i 82 (by decide +kernel) (by decide +kernel), tg_i 1387 (by decide +kernel) (by decide +kernel)⟩, by decide +kernel⟩
def rm_X7_first : Room := { frames := 6, cells := 0, slots := 0, locals := 219 }
theorem wd_X7_differing : zWv yX7_differing cX7_differing 3 (Option.some FieldType.int) 2 := ⟨⟨tg_i 1419 (by decide +kernel) (by decide +kernel), tg_i 1420 (by decide +kernel) (by decide +kernel), tg_i 82 (by decide +kernel) (by decide +kernel), tg_i 1421 (by decide +kernel) (by decide +kernel)⟩, by decide +kernel⟩
def rm_X7_differing : Room := { frames := 6, cells := 0, slots := 0, locals := 219 }
theorem wd_X7_forwards : zWv yX7_forwards cX7_forwards 7 (Option.none : Option Jvm.ClassFile.FieldType) 2 := ⟨⟨tg_i 1441 (by decide +kernel) (by decide +kernel), tg_i 47 (by decide +kernel) (by decide +kernel), tg_i 82 (by decide +kernel) (by decide +kernel), tg_i 1442 (by decide +kernel) (by decide +kernel)⟩, by decide +kernel⟩
def rm_X7_forwards : Room := { frames := 5, cells := 0, slots := 0, locals := 196 }
theorem wd_X7_turns : zWv yX7_turns cX7_turns 5 (Option.none : Option Jvm.ClassFile.FieldType) 2 := ⟨⟨tg_i 1433 (by decide +kernel) (by decide +kernel), tg_i 45 (by decide +kernel) (by decide +kernel), tg_i 82 (by decide +kernel) (by decide +kernel), tg_i 1434 (by decide +kernel) (by decide +kernel)⟩, by decide +kernel⟩
def rm_X7_turns : Room := { frames := 2, cells := 0, slots := 0, locals := 123 }
theorem wd_X7_minimizes : zWv yX7_minimizes cX7_minimizes 3 (Option.none : Option Jvm.ClassFile.FieldType) 2 := ⟨⟨tg_i 1437 (by decide +kernel) (by decide +kernel), tg_i 46 (by decide +kernel) (by decide +kernel), tg_i 82 (by decide +kernel) (by decide +kernel), tg_i 1438 (by decide +kernel) (by decide +kernel)⟩, by decide +kernel⟩
def rm_X7_minimizes : Room := { frames := 6, cells := 0, slots := 0, locals := 222 }
theorem wd_X7_dimensionOf : zWv yX7_dimensionOf cX7_dimensionOf 3 (Option.some FieldType.int) 2 := ⟨⟨tg_i 1429 (by decide +kernel) (by decide +kernel), tg_i 44 (by decide +kernel) (by decide +kernel), tg_i 82 (by decide +kernel) (by decide +kernel), tg_i 1430 (by decide +kernel) (by decide +kernel)⟩, by decide +kernel⟩
def rm_X7_dimensionOf : Room := { frames := 7, cells := 0, slots := 0, locals := 244 }
theorem wd_X7_dimension : zWv yX7_dimension cX7_dimension 3 (Option.some FieldType.int) 2 := ⟨⟨tg_i 1423 (by decide +kernel) (by decide +kernel), tg_i 1424 (by decide +kernel) (by decide +kernel), tg_i 82 (by decide +kernel) (by decide +kernel), tg_i 1425 (by decide +kernel) (by decide +kernel)⟩, by decide +kernel⟩
def rm_X7_dimension : Room := { frames := 8, cells := 0, slots := 0, locals := 266 }
theorem wd_X7_basisWord : zWv yX7_basisWord cX7_basisWord 4 (Option.some FieldType.int) 2 := ⟨⟨tg_i 1444 (by decide +kernel) (by decide +kernel), tg_i 1445 (by decide +kernel) (by decide +kernel), tg_i 82 (by decide +kernel) (by decide +kernel), tg_i 1446 (by decide +kernel) (by decide +kernel)⟩, by decide +kernel⟩
def rm_X7_basisWord : Room := { frames := 5, cells := 0, slots := 0, locals := 196 }
theorem wd_X7_blocks : zWv yX7_blocks cX7_blocks 6 (Option.none : Option Jvm.ClassFile.FieldType) 3 := ⟨⟨tg_i 1465 (by decide +kernel) (by decide +kernel), tg_i 51 (by decide +kernel) (by decide +kernel), tg_i 82 (by decide +kernel) (by decide +kernel), tg_i 1466 (by decide +kernel) (by decide +kernel)⟩, by decide +kernel⟩
def rm_X7_blocks : Room := { frames := 2, cells := 0, slots := 0, locals := 123 }
theorem wd_X7_sums : zWv yX7_sums cX7_sums 7 (Option.none : Option Jvm.ClassFile.FieldType) 3 := ⟨⟨tg_i 1461 (by decide +kernel) (by decide +kernel), tg_i 50 (by decide +kernel) (by decide +kernel), tg_i 82 (by decide +kernel) (by decide +kernel), tg_i 1462 (by decide +kernel) (by decide +kernel)⟩, by decide +kernel⟩
def rm_X7_sums : Room := { frames := 3, cells := 0, slots := 0, locals := 148 }
theorem wd_X7_multiplies : zWv yX7_multiplies cX7_multiplies 9 (Option.none : Option Jvm.ClassFile.FieldType) 3 := ⟨⟨tg_i 1469 (by decide +kernel) (by decide +kernel), tg_i 52 (by decide +kernel) (by decide +kernel), tg_i 82 (by decide +kernel) (by decide +kernel), tg_i 1470 (by decide +kernel) (by decide +kernel)⟩, by decide +kernel⟩
def rm_X7_multiplies : Room := { frames := 2, cells := 0, slots := 0, locals := 123 }
theorem wd_X7_out : zWv yX7_out cX7_out 6 (Option.some FieldType.int) 3 := ⟨⟨tg_i 1477 (by decide +kernel) (by decide +kernel), tg_i 54 (by decide +kernel) (by decide +kernel), tg_i 82 (by decide +kernel) (by decide +kernel), tg_i 1478 (by decide +kernel) (by decide +kernel)⟩, by decide +kernel⟩
def rm_X7_out : Room := { frames := 2, cells := 0, slots := 0, locals := 123 }
theorem wd_X7_into : zWv yX7_into cX7_into 6 (Option.some FieldType.int) 3 := ⟨⟨tg_i 1502 (by decide +kernel) (by decide +kernel), tg_i 59 (by decide +kernel) (by decide +kernel), tg_i 82 (by decide +kernel) (by decide +kernel), tg_i 1503 (by decide +kernel) (by decide +kernel)⟩, by decide +kernel⟩
def rm_X7_into : Room := { frames := 2, cells := 0, slots := 0, locals := 123 }
theorem wd_X7_joins : zWv yX7_joins cX7_joins 7 (Option.none : Option Jvm.ClassFile.FieldType) 3 := ⟨⟨tg_i 1473 (by decide +kernel) (by decide +kernel), tg_i 53 (by decide +kernel) (by decide +kernel), tg_i 82 (by decide +kernel) (by decide +kernel), tg_i 1474 (by decide +kernel) (by decide +kernel)⟩, by decide +kernel⟩
def rm_X7_joins : Room := { frames := 3, cells := 0, slots := 0, locals := 148 }
theorem wd_X7_canStar : zWv yX7_canStar cX7_canStar 2 (Option.some FieldType.boolean) 1 := ⟨⟨tg_i 1490 (by decide +kernel) (by decide +kernel), tg_i 56 (by decide +kernel) (by decide +kernel), tg_i 82 (by decide +kernel) (by decide +kernel), tg_i 1491 (by decide +kernel) (by decide +kernel)⟩, by decide +kernel⟩
def rm_X7_canStar : Room := { frames := 3, cells := 0, slots := 0, locals := 144 }
theorem wd_X7_stars : zWv yX7_stars cX7_stars 6 (Option.none : Option Jvm.ClassFile.FieldType) 2 := ⟨⟨tg_i 1498 (by decide +kernel) (by decide +kernel), tg_i 58 (by decide +kernel) (by decide +kernel), tg_i 82 (by decide +kernel) (by decide +kernel), tg_i 1499 (by decide +kernel) (by decide +kernel)⟩, by decide +kernel⟩
def rm_X7_stars : Room := { frames := 3, cells := 0, slots := 0, locals := 148 }
theorem wd_X7_manyOf : zWv yX7_manyOf cX7_manyOf 4 (Option.some FieldType.int) 3 := ⟨⟨tg_i 1453 (by decide +kernel) (by decide +kernel), tg_i 48 (by decide +kernel) (by decide +kernel), tg_i 82 (by decide +kernel) (by decide +kernel), tg_i 1454 (by decide +kernel) (by decide +kernel)⟩, by decide +kernel⟩
def rm_X7_manyOf : Room := { frames := 2, cells := 0, slots := 0, locals := 121 }
theorem wd_X7_combines : zWv yX7_combines cX7_combines 4 (Option.none : Option Jvm.ClassFile.FieldType) 3 := ⟨⟨tg_i 1457 (by decide +kernel) (by decide +kernel), tg_i 49 (by decide +kernel) (by decide +kernel), tg_i 82 (by decide +kernel) (by decide +kernel), tg_i 1458 (by decide +kernel) (by decide +kernel)⟩, by decide +kernel⟩
def rm_X7_combines : Room := { frames := 4, cells := 0, slots := 0, locals := 174 }
theorem wd_X7_combine : zWv yX7_combine cX7_combine 6 (Option.some FieldType.int) 4 := ⟨⟨tg_i 1448 (by decide +kernel) (by decide +kernel), tg_i 1449 (by decide +kernel) (by decide +kernel), tg_i 82 (by decide +kernel) (by decide +kernel), tg_i 1450 (by decide +kernel) (by decide +kernel)⟩, by decide +kernel⟩
def rm_X7_combine : Room := { frames := 5, cells := 0, slots := 0, locals := 197 }
theorem wd_X7_derives : zWv yX7_derives cX7_derives 4 (Option.none : Option Jvm.ClassFile.FieldType) 2 := ⟨⟨tg_i 1494 (by decide +kernel) (by decide +kernel), tg_i 57 (by decide +kernel) (by decide +kernel), tg_i 82 (by decide +kernel) (by decide +kernel), tg_i 1495 (by decide +kernel) (by decide +kernel)⟩, by decide +kernel⟩
def rm_X7_derives : Room := { frames := 7, cells := 0, slots := 0, locals := 244 }
theorem wd_X7_derive : zWv yX7_derive cX7_derive 5 (Option.some FieldType.int) 3 := ⟨⟨tg_i 1484 (by decide +kernel) (by decide +kernel), tg_i 1485 (by decide +kernel) (by decide +kernel), tg_i 82 (by decide +kernel) (by decide +kernel), tg_i 1486 (by decide +kernel) (by decide +kernel)⟩, by decide +kernel⟩
def rm_X7_derive : Room := { frames := 8, cells := 0, slots := 0, locals := 267 }
theorem wd_X7_scale : zWv yX7_scale cX7_scale 4 (Option.some FieldType.int) 2 := ⟨⟨tg_i 1505 (by decide +kernel) (by decide +kernel), tg_i 1506 (by decide +kernel) (by decide +kernel), tg_i 82 (by decide +kernel) (by decide +kernel), tg_i 1507 (by decide +kernel) (by decide +kernel)⟩, by decide +kernel⟩
def rm_X7_scale : Room := { frames := 3, cells := 0, slots := 0, locals := 145 }
theorem wd_X7_eliminates : zWv yX7_eliminates cX7_eliminates 10 (Option.none : Option Jvm.ClassFile.FieldType) 5 := ⟨⟨tg_i 1519 (by decide +kernel) (by decide +kernel), tg_i 61 (by decide +kernel) (by decide +kernel), tg_i 82 (by decide +kernel) (by decide +kernel), tg_i 1520 (by decide +kernel) (by decide +kernel)⟩, by decide +kernel⟩
def rm_X7_eliminates : Room := { frames := 3, cells := 0, slots := 0, locals := 144 }
theorem wd_X7_rank : zWv yX7_rank cX7_rank 6 (Option.some FieldType.int) 2 := ⟨⟨tg_i 1515 (by decide +kernel) (by decide +kernel), tg_i 60 (by decide +kernel) (by decide +kernel), tg_i 82 (by decide +kernel) (by decide +kernel), tg_i 1516 (by decide +kernel) (by decide +kernel)⟩, by decide +kernel⟩
def rm_X7_rank : Room := { frames := 4, cells := 0, slots := 0, locals := 173 }
theorem wd_X7_hankelRank : zWv yX7_hankelRank cX7_hankelRank 5 (Option.some FieldType.int) 2 := ⟨⟨tg_i 1509 (by decide +kernel) (by decide +kernel), tg_i 1510 (by decide +kernel) (by decide +kernel), tg_i 82 (by decide +kernel) (by decide +kernel), tg_i 1511 (by decide +kernel) (by decide +kernel)⟩, by decide +kernel⟩
def rm_X7_hankelRank : Room := { frames := 5, cells := 0, slots := 0, locals := 198 }
theorem wd_X7_laysTotals : zWv yX7_laysTotals cX7_laysTotals 4 (Option.none : Option Jvm.ClassFile.FieldType) 1 := ⟨⟨tg_i 1527 (by decide +kernel) (by decide +kernel), tg_i 62 (by decide +kernel) (by decide +kernel), tg_i 82 (by decide +kernel) (by decide +kernel), tg_i 1528 (by decide +kernel) (by decide +kernel)⟩, by decide +kernel⟩
def rm_X7_laysTotals : Room := { frames := 1, cells := 0, slots := 0, locals := 100 }
theorem wd_X7_recurs : zWv yX7_recurs cX7_recurs 4 (Option.some FieldType.boolean) 2 := ⟨⟨tg_i 1522 (by decide +kernel) (by decide +kernel), tg_i 1523 (by decide +kernel) (by decide +kernel), tg_i 82 (by decide +kernel) (by decide +kernel), tg_i 1524 (by decide +kernel) (by decide +kernel)⟩, by decide +kernel⟩
def rm_X7_recurs : Room := { frames := 5, cells := 0, slots := 0, locals := 198 }
theorem wd_X7_inverse : zWv yX7_inverse cX7_inverse 2 (Option.some FieldType.int) 1 := ⟨⟨tg_i 1530 (by decide +kernel) (by decide +kernel), tg_i 1531 (by decide +kernel) (by decide +kernel), tg_i 82 (by decide +kernel) (by decide +kernel), tg_i 1532 (by decide +kernel) (by decide +kernel)⟩, by decide +kernel⟩
def rm_X7_inverse : Room := { frames := 3, cells := 0, slots := 0, locals := 144 }
theorem wd_X7_append : zWv yX7_append cX7_append 2 (Option.some FieldType.int) 1 := ⟨⟨tg_i 1534 (by decide +kernel) (by decide +kernel), tg_i 1535 (by decide +kernel) (by decide +kernel), tg_i 82 (by decide +kernel) (by decide +kernel), tg_i 1536 (by decide +kernel) (by decide +kernel)⟩, by decide +kernel⟩
def rm_X7_append : Room := { frames := 2, cells := 0, slots := 0, locals := 125 }
theorem wd_X7_clearText : zWv yX7_clearText cX7_clearText 2 (Option.some FieldType.int) 0 := ⟨⟨tg_i 1539 (by decide +kernel) (by decide +kernel), tg_i 1540 (by decide +kernel) (by decide +kernel), tg_i 82 (by decide +kernel) (by decide +kernel), tg_i 1541 (by decide +kernel) (by decide +kernel)⟩, by decide +kernel⟩
def rm_X7_clearText : Room := { frames := 1, cells := 0, slots := 0, locals := 100 }
theorem wd_X7_operates : zWv yX7_operates cX7_operates 4 (Option.none : Option Jvm.ClassFile.FieldType) 3 := ⟨⟨tg_i 1566 (by decide +kernel) (by decide +kernel), tg_i 67 (by decide +kernel) (by decide +kernel), tg_i 82 (by decide +kernel) (by decide +kernel), tg_i 1567 (by decide +kernel) (by decide +kernel)⟩, by decide +kernel⟩
def rm_X7_operates : Room := { frames := 7, cells := 0, slots := 0, locals := 244 }
theorem wd_X7_endsFactor : zWv yX7_endsFactor cX7_endsFactor 2 (Option.none : Option Jvm.ClassFile.FieldType) 0 := ⟨⟨tg_i 1562 (by decide +kernel) (by decide +kernel), tg_i 66 (by decide +kernel) (by decide +kernel), tg_i 82 (by decide +kernel) (by decide +kernel), tg_i 1563 (by decide +kernel) (by decide +kernel)⟩, by decide +kernel⟩
def rm_X7_endsFactor : Room := { frames := 8, cells := 0, slots := 0, locals := 267 }
theorem wd_X7_endsProduct : zWv yX7_endsProduct cX7_endsProduct 2 (Option.none : Option Jvm.ClassFile.FieldType) 0 := ⟨⟨tg_i 1586 (by decide +kernel) (by decide +kernel), tg_i 72 (by decide +kernel) (by decide +kernel), tg_i 82 (by decide +kernel) (by decide +kernel), tg_i 1587 (by decide +kernel) (by decide +kernel)⟩, by decide +kernel⟩
def rm_X7_endsProduct : Room := { frames := 9, cells := 0, slots := 0, locals := 288 }
theorem wd_X7_begins : zWv yX7_begins cX7_begins 1 (Option.none : Option Jvm.ClassFile.FieldType) 0 := ⟨⟨tg_i 1548 (by decide +kernel) (by decide +kernel), tg_i 63 (by decide +kernel) (by decide +kernel), tg_i 82 (by decide +kernel) (by decide +kernel), tg_i 1549 (by decide +kernel) (by decide +kernel)⟩, by decide +kernel⟩
def rm_X7_begins : Room := { frames := 1, cells := 0, slots := 0, locals := 100 }
theorem wd_X7_isFigure : zWv yX7_isFigure cX7_isFigure 1 (Option.some FieldType.boolean) 0 := ⟨⟨tg_i 1578 (by decide +kernel) (by decide +kernel), tg_i 70 (by decide +kernel) (by decide +kernel), tg_i 82 (by decide +kernel) (by decide +kernel), tg_i 1579 (by decide +kernel) (by decide +kernel)⟩, by decide +kernel⟩
def rm_X7_isFigure : Room := { frames := 2, cells := 0, slots := 0, locals := 125 }
theorem wd_X7_readsNumber : zWv yX7_readsNumber cX7_readsNumber 3 (Option.some FieldType.boolean) 0 := ⟨⟨tg_i 1574 (by decide +kernel) (by decide +kernel), tg_i 69 (by decide +kernel) (by decide +kernel), tg_i 82 (by decide +kernel) (by decide +kernel), tg_i 1575 (by decide +kernel) (by decide +kernel)⟩, by decide +kernel⟩
def rm_X7_readsNumber : Room := { frames := 3, cells := 0, slots := 0, locals := 145 }
theorem wd_X7_readsLetter : zWv yX7_readsLetter cX7_readsLetter 2 (Option.none : Option Jvm.ClassFile.FieldType) 1 := ⟨⟨tg_i 1570 (by decide +kernel) (by decide +kernel), tg_i 68 (by decide +kernel) (by decide +kernel), tg_i 82 (by decide +kernel) (by decide +kernel), tg_i 1571 (by decide +kernel) (by decide +kernel)⟩, by decide +kernel⟩
def rm_X7_readsLetter : Room := { frames := 2, cells := 0, slots := 0, locals := 123 }
theorem wd_X7_readsFactor : zWv yX7_readsFactor cX7_readsFactor 3 (Option.some FieldType.boolean) 1 := ⟨⟨tg_i 1558 (by decide +kernel) (by decide +kernel), tg_i 65 (by decide +kernel) (by decide +kernel), tg_i 82 (by decide +kernel) (by decide +kernel), tg_i 1559 (by decide +kernel) (by decide +kernel)⟩, by decide +kernel⟩
def rm_X7_readsFactor : Room := { frames := 9, cells := 0, slots := 0, locals := 288 }
theorem wd_X7_starsFactor : zWv yX7_starsFactor cX7_starsFactor 1 (Option.none : Option Jvm.ClassFile.FieldType) 0 := ⟨⟨tg_i 1582 (by decide +kernel) (by decide +kernel), tg_i 71 (by decide +kernel) (by decide +kernel), tg_i 82 (by decide +kernel) (by decide +kernel), tg_i 1583 (by decide +kernel) (by decide +kernel)⟩, by decide +kernel⟩
def rm_X7_starsFactor : Room := { frames := 7, cells := 0, slots := 0, locals := 244 }
theorem wd_X7_readsNext : zWv yX7_readsNext cX7_readsNext 2 (Option.some FieldType.boolean) 0 := ⟨⟨tg_i 1552 (by decide +kernel) (by decide +kernel), tg_i 64 (by decide +kernel) (by decide +kernel), tg_i 82 (by decide +kernel) (by decide +kernel), tg_i 1553 (by decide +kernel) (by decide +kernel)⟩, by decide +kernel⟩
def rm_X7_readsNext : Room := { frames := 10, cells := 0, slots := 0, locals := 310 }
theorem wd_X7_parse : zWv yX7_parse cX7_parse 2 (Option.some FieldType.int) 1 := ⟨⟨tg_i 1543 (by decide +kernel) (by decide +kernel), tg_i 1544 (by decide +kernel) (by decide +kernel), tg_i 82 (by decide +kernel) (by decide +kernel), tg_i 1545 (by decide +kernel) (by decide +kernel)⟩, by decide +kernel⟩
def rm_X7_parse : Room := { frames := 11, cells := 0, slots := 0, locals := 331 }
theorem wd_X7_undo : zWv yX7_undo cX7_undo 2 (Option.some FieldType.int) 0 := ⟨⟨tg_i 1589 (by decide +kernel) (by decide +kernel), tg_i 1590 (by decide +kernel) (by decide +kernel), tg_i 82 (by decide +kernel) (by decide +kernel), tg_i 1591 (by decide +kernel) (by decide +kernel)⟩, by decide +kernel⟩
def rm_X7_undo : Room := { frames := 2, cells := 0, slots := 0, locals := 123 }
theorem wd_X7_sumsSlot : zWv yX7_sumsSlot cX7_sumsSlot 8 (Option.some FieldType.long) 2 := ⟨⟨tg_i 1599 (by decide +kernel) (by decide +kernel), tg_i 73 (by decide +kernel) (by decide +kernel), tg_i 82 (by decide +kernel) (by decide +kernel), tg_i 1600 (by decide +kernel) (by decide +kernel)⟩, by decide +kernel⟩
def rm_X7_sumsSlot : Room := { frames := 8, cells := 0, slots := 0, locals := 266 }
theorem wd_X7_digest : zWv yX7_digest cX7_digest 4 (Option.some FieldType.long) 0 := ⟨⟨tg_i 1593 (by decide +kernel) (by decide +kernel), tg_i 1594 (by decide +kernel) (by decide +kernel), tg_i 82 (by decide +kernel) (by decide +kernel), tg_i 1595 (by decide +kernel) (by decide +kernel)⟩, by decide +kernel⟩
def rm_X7_digest : Room := { frames := 9, cells := 0, slots := 0, locals := 293 }
theorem zt_145_149_2 : zThr RX6 145 149 (exN 2) ["java/lang/RuntimeException", "java/lang/Exception"] := ⟨⟨by decide +kernel, by decide +kernel⟩, by decide +kernel, by decide +kernel, by decide +kernel, by decide +kernel⟩
theorem zt_204_208_0 : zThr RX6 204 208 (exN 0) ["java/lang/RuntimeException", "java/lang/Exception"] := ⟨⟨by decide +kernel, by decide +kernel⟩, by decide +kernel, by decide +kernel, by decide +kernel, by decide +kernel⟩
theorem zt_267_271_1 : zThr RX6 267 271 (exN 1) ["java/lang/RuntimeException", "java/lang/Exception"] := ⟨⟨by decide +kernel, by decide +kernel⟩, by decide +kernel, by decide +kernel, by decide +kernel, by decide +kernel⟩
theorem zstr_261 : (RX6, 261, "no such slot") ∈ zStr := List.mem_of_getElem? (i := 0) rfl
theorem zstr_263 : (RX6, 263, "no such state") ∈ zStr := List.mem_of_getElem? (i := 1) rfl
theorem zstr_265 : (RX6, 265, "no such letter") ∈ zStr := List.mem_of_getElem? (i := 2) rfl
theorem zstr_269 : (RX6, 269, "out of range") ∈ zStr := List.mem_of_getElem? (i := 3) rfl
theorem zstr_147 : (RX6, 147, "too many states") ∈ zStr := List.mem_of_getElem? (i := 4) rfl
theorem zstr_170 : (RX6, 170, "no star") ∈ zStr := List.mem_of_getElem? (i := 5) rfl
theorem zstr_206 : (RX6, 206, "no such basis word") ∈ zStr := List.mem_of_getElem? (i := 6) rfl
theorem zstr_236 : (RX6, 236, "the text is full") ∈ zStr := List.mem_of_getElem? (i := 7) rfl
theorem zstr_251 : (RX6, 251, "nothing is saved") ∈ zStr := List.mem_of_getElem? (i := 8) rfl
