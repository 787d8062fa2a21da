theorem gcl_0 : gCL 0 (RJ4, TJ4, 4) tyJ4 := ⟨rfl, gin_0, tyJ4_ok, nmJ4, by decide +kernel, rfl⟩
theorem gcl_1 : gCL 1 (RX0, TX0, 18) tyX0 := ⟨rfl, gin_1, tyX0_ok, nmX0, by decide +kernel, rfl⟩
theorem gcl_2 : gCL 2 (RX1, TX1, 12) tyX1 := ⟨rfl, gin_2, tyX1_ok, nmX1, by decide +kernel, rfl⟩
theorem gcl_3 : gCL 3 (RX2, TX2, 8) tyX2 := ⟨rfl, gin_3, tyX2_ok, nmX2, by decide +kernel, rfl⟩
theorem gcl_4 : gCL 4 (RX3, TX3, 2) tyX3 := ⟨rfl, gin_4, tyX3_ok, nmX3, by decide +kernel, rfl⟩
theorem gcl_5 : gCL 5 (RX4, TX4, 3) tyX4 := ⟨rfl, gin_5, tyX4_ok, nmX4, by decide +kernel, rfl⟩
theorem gcl_6 : gCL 6 (RX5, TX5, 19) tyX5 := ⟨rfl, gin_6, tyX5_ok, nmX5, by decide +kernel, rfl⟩
theorem gcl_7 : gCL 7 (RX6, TX6, 4) tyX6 := ⟨rfl, gin_7, tyX6_ok, nmX6, by decide +kernel, rfl⟩
theorem gcl_8 : gCL 8 (RX7, TX7, 5) tyX7 := ⟨rfl, gin_8, tyX7_ok, nmX7, by decide +kernel, rfl⟩
theorem gcl_9 : gCL 9 (RX8, TX8, 10) tyX8 := ⟨rfl, gin_9, tyX8_ok, nmX8, by decide +kernel, rfl⟩
theorem gcl_10 : gCL 10 (RX9, TX9, 5) tyX9 := ⟨rfl, gin_10, tyX9_ok, nmX9, by decide +kernel, rfl⟩
theorem gcl_11 : gCL 11 (RX10, TX10, 3) tyX10 := ⟨rfl, gin_11, tyX10_ok, nmX10, by decide +kernel, rfl⟩
theorem gcl_12 : gCL 12 (RX11, TX11, 17) tyX11 := ⟨rfl, gin_12, tyX11_ok, nmX11, by decide +kernel, rfl⟩
theorem gcl_13 : gCL 13 (RX12, TX12, 72) tyX12 := ⟨rfl, gin_13, tyX12_ok, nmX12, by decide +kernel, rfl⟩
theorem ff_X9_9 : gFA RX9 9 10 0 (tyX9 0) true := ⟨_, _, gcl_10, (by decide), gt_1 (j := 43) rfl rfl, rfl, rfl⟩
theorem ff_X11_103 : gFA RX11 103 10 1 (tyX9 1) false := ⟨_, _, gcl_10, (by decide), gt_1 (j := 44) rfl rfl, rfl, rfl⟩
theorem ff_X9_15 : gFA RX9 15 10 1 (tyX9 1) false := ⟨_, _, gcl_10, (by decide), gt_1 (j := 45) rfl rfl, rfl, rfl⟩
theorem ff_X6_51 : gFA RX6 51 10 2 (tyX9 2) false := ⟨_, _, gcl_10, (by decide), gt_1 (j := 46) rfl rfl, rfl, rfl⟩
theorem ff_X9_19 : gFA RX9 19 10 2 (tyX9 2) false := ⟨_, _, gcl_10, (by decide), gt_1 (j := 47) rfl rfl, rfl, rfl⟩
theorem ff_X2_101 : gFA RX2 101 10 2 (tyX9 2) false := ⟨_, _, gcl_10, (by decide), gt_1 (j := 48) rfl rfl, rfl, rfl⟩
theorem ff_X11_378 : gFA RX11 378 10 2 (tyX9 2) false := ⟨_, _, gcl_10, (by decide), gt_1 (j := 49) rfl rfl, rfl, rfl⟩
theorem ff_X9_28 : gFA RX9 28 10 3 (tyX9 3) false := ⟨_, _, gcl_10, (by decide), gt_1 (j := 50) rfl rfl, rfl, rfl⟩
theorem ff_X6_44 : gFA RX6 44 10 4 (tyX9 4) false := ⟨_, _, gcl_10, (by decide), gt_1 (j := 51) rfl rfl, rfl, rfl⟩
theorem ff_X9_31 : gFA RX9 31 10 4 (tyX9 4) false := ⟨_, _, gcl_10, (by decide), gt_1 (j := 52) rfl rfl, rfl, rfl⟩
theorem ff_X2_75 : gFA RX2 75 10 4 (tyX9 4) false := ⟨_, _, gcl_10, (by decide), gt_1 (j := 53) rfl rfl, rfl, rfl⟩
theorem ff_X11_344 : gFA RX11 344 10 4 (tyX9 4) false := ⟨_, _, gcl_10, (by decide), gt_1 (j := 54) rfl rfl, rfl, rfl⟩
theorem ff_X3_9 : gFA RX3 9 4 0 (tyX3 0) true := ⟨_, _, gcl_4, (by decide), gt_1 (j := 87) rfl rfl, rfl, rfl⟩
theorem ff_X3_15 : gFA RX3 15 4 1 (tyX3 1) true := ⟨_, _, gcl_4, (by decide), gt_1 (j := 88) rfl rfl, rfl, rfl⟩
theorem ff_X10_9 : gFA RX10 9 11 0 (tyX10 0) true := ⟨_, _, gcl_11, (by decide), gt_1 (j := 101) rfl rfl, rfl, rfl⟩
theorem ff_X0_65 : gFA RX0 65 11 0 (tyX10 0) true := ⟨_, _, gcl_11, (by decide), gt_1 (j := 102) rfl rfl, rfl, rfl⟩
theorem ff_X8_180 : gFA RX8 180 11 0 (tyX10 0) true := ⟨_, _, gcl_11, (by decide), gt_1 (j := 103) rfl rfl, rfl, rfl⟩
theorem ff_X2_161 : gFA RX2 161 11 0 (tyX10 0) true := ⟨_, _, gcl_11, (by decide), gt_1 (j := 104) rfl rfl, rfl, rfl⟩
theorem ff_X11_601 : gFA RX11 601 11 0 (tyX10 0) true := ⟨_, _, gcl_11, (by decide), gt_1 (j := 105) rfl rfl, rfl, rfl⟩
theorem ff_X10_15 : gFA RX10 15 11 1 (tyX10 1) true := ⟨_, _, gcl_11, (by decide), gt_1 (j := 106) rfl rfl, rfl, rfl⟩
theorem ff_X0_66 : gFA RX0 66 11 1 (tyX10 1) true := ⟨_, _, gcl_11, (by decide), gt_1 (j := 107) rfl rfl, rfl, rfl⟩
theorem ff_X8_191 : gFA RX8 191 11 1 (tyX10 1) true := ⟨_, _, gcl_11, (by decide), gt_1 (j := 108) rfl rfl, rfl, rfl⟩
theorem ff_X2_167 : gFA RX2 167 11 1 (tyX10 1) true := ⟨_, _, gcl_11, (by decide), gt_1 (j := 109) rfl rfl, rfl, rfl⟩
theorem ff_X11_594 : gFA RX11 594 11 1 (tyX10 1) true := ⟨_, _, gcl_11, (by decide), gt_1 (j := 110) rfl rfl, rfl, rfl⟩
theorem ff_X2_35 : gFA RX2 35 11 2 (tyX10 2) false := ⟨_, _, gcl_11, (by decide), gt_1 (j := 111) rfl rfl, rfl, rfl⟩
theorem ff_X0_62 : gFA RX0 62 11 2 (tyX10 2) false := ⟨_, _, gcl_11, (by decide), gt_1 (j := 112) rfl rfl, rfl, rfl⟩
theorem ff_X11_159 : gFA RX11 159 11 2 (tyX10 2) false := ⟨_, _, gcl_11, (by decide), gt_1 (j := 113) rfl rfl, rfl, rfl⟩
theorem ff_X10_23 : gFA RX10 23 11 2 (tyX10 2) false := ⟨_, _, gcl_11, (by decide), gt_1 (j := 114) rfl rfl, rfl, rfl⟩
theorem ff_X8_171 : gFA RX8 171 11 2 (tyX10 2) false := ⟨_, _, gcl_11, (by decide), gt_1 (j := 115) rfl rfl, rfl, rfl⟩
theorem ff_X1_57 : gFA RX1 57 2 0 (tyX1 0) false := ⟨_, _, gcl_2, (by decide), gt_1 (j := 123) rfl rfl, rfl, rfl⟩
theorem ff_X8_59 : gFA RX8 59 2 0 (tyX1 0) false := ⟨_, _, gcl_2, (by decide), gt_1 (j := 124) rfl rfl, rfl, rfl⟩
theorem ff_X11_135 : gFA RX11 135 2 0 (tyX1 0) false := ⟨_, _, gcl_2, (by decide), gt_1 (j := 125) rfl rfl, rfl, rfl⟩
theorem ff_X2_70 : gFA RX2 70 2 0 (tyX1 0) false := ⟨_, _, gcl_2, (by decide), gt_1 (j := 126) rfl rfl, rfl, rfl⟩
theorem ff_X1_9 : gFA RX1 9 2 1 (tyX1 1) true := ⟨_, _, gcl_2, (by decide), gt_1 (j := 127) rfl rfl, rfl, rfl⟩
theorem ff_X5_104 : gFA RX5 104 2 1 (tyX1 1) true := ⟨_, _, gcl_2, (by decide), gt_1 (j := 128) rfl rfl, rfl, rfl⟩
theorem ff_X11_295 : gFA RX11 295 2 1 (tyX1 1) true := ⟨_, _, gcl_2, (by decide), gt_1 (j := 129) rfl rfl, rfl, rfl⟩
theorem ff_X1_15 : gFA RX1 15 2 2 (tyX1 2) true := ⟨_, _, gcl_2, (by decide), gt_1 (j := 130) rfl rfl, rfl, rfl⟩
theorem ff_X1_18 : gFA RX1 18 2 3 (tyX1 3) true := ⟨_, _, gcl_2, (by decide), gt_1 (j := 131) rfl rfl, rfl, rfl⟩
theorem ff_X8_232 : gFA RX8 232 2 3 (tyX1 3) true := ⟨_, _, gcl_2, (by decide), gt_1 (j := 132) rfl rfl, rfl, rfl⟩
theorem ff_X11_515 : gFA RX11 515 2 3 (tyX1 3) true := ⟨_, _, gcl_2, (by decide), gt_1 (j := 133) rfl rfl, rfl, rfl⟩
theorem ff_X1_23 : gFA RX1 23 2 4 (tyX1 4) true := ⟨_, _, gcl_2, (by decide), gt_1 (j := 134) rfl rfl, rfl, rfl⟩
theorem ff_X1_27 : gFA RX1 27 2 5 (tyX1 5) true := ⟨_, _, gcl_2, (by decide), gt_1 (j := 135) rfl rfl, rfl, rfl⟩
theorem ff_X1_31 : gFA RX1 31 2 6 (tyX1 6) true := ⟨_, _, gcl_2, (by decide), gt_1 (j := 136) rfl rfl, rfl, rfl⟩
theorem ff_X2_47 : gFA RX2 47 2 6 (tyX1 6) true := ⟨_, _, gcl_2, (by decide), gt_1 (j := 137) rfl rfl, rfl, rfl⟩
theorem ff_X8_241 : gFA RX8 241 2 6 (tyX1 6) true := ⟨_, _, gcl_2, (by decide), gt_1 (j := 138) rfl rfl, rfl, rfl⟩
theorem ff_X11_298 : gFA RX11 298 2 6 (tyX1 6) true := ⟨_, _, gcl_2, (by decide), gt_1 (j := 139) rfl rfl, rfl, rfl⟩
theorem ff_X1_34 : gFA RX1 34 2 7 (tyX1 7) true := ⟨_, _, gcl_2, (by decide), gt_1 (j := 140) rfl rfl, rfl, rfl⟩
theorem ff_X8_112 : gFA RX8 112 2 7 (tyX1 7) true := ⟨_, _, gcl_2, (by decide), gt_1 (j := 141) rfl rfl, rfl, rfl⟩
theorem ff_X11_278 : gFA RX11 278 2 7 (tyX1 7) true := ⟨_, _, gcl_2, (by decide), gt_1 (j := 142) rfl rfl, rfl, rfl⟩
theorem ff_X1_37 : gFA RX1 37 2 8 (tyX1 8) true := ⟨_, _, gcl_2, (by decide), gt_1 (j := 143) rfl rfl, rfl, rfl⟩
theorem ff_X8_121 : gFA RX8 121 2 8 (tyX1 8) true := ⟨_, _, gcl_2, (by decide), gt_1 (j := 144) rfl rfl, rfl, rfl⟩
theorem ff_X11_280 : gFA RX11 280 2 8 (tyX1 8) true := ⟨_, _, gcl_2, (by decide), gt_1 (j := 145) rfl rfl, rfl, rfl⟩
theorem ff_X1_40 : gFA RX1 40 2 9 (tyX1 9) true := ⟨_, _, gcl_2, (by decide), gt_1 (j := 146) rfl rfl, rfl, rfl⟩
theorem ff_X11_301 : gFA RX11 301 2 9 (tyX1 9) true := ⟨_, _, gcl_2, (by decide), gt_1 (j := 147) rfl rfl, rfl, rfl⟩
theorem ff_X1_48 : gFA RX1 48 2 10 (tyX1 10) true := ⟨_, _, gcl_2, (by decide), gt_1 (j := 148) rfl rfl, rfl, rfl⟩
theorem ff_X11_304 : gFA RX11 304 2 10 (tyX1 10) true := ⟨_, _, gcl_2, (by decide), gt_1 (j := 149) rfl rfl, rfl, rfl⟩
theorem ff_X1_53 : gFA RX1 53 2 11 (tyX1 11) true := ⟨_, _, gcl_2, (by decide), gt_1 (j := 150) rfl rfl, rfl, rfl⟩
theorem ff_X2_9 : gFA RX2 9 3 0 (tyX2 0) true := ⟨_, _, gcl_3, (by decide), gt_1 (j := 184) rfl rfl, rfl, rfl⟩
theorem ff_X8_161 : gFA RX8 161 3 0 (tyX2 0) true := ⟨_, _, gcl_3, (by decide), gt_1 (j := 185) rfl rfl, rfl, rfl⟩
theorem ff_X1_118 : gFA RX1 118 3 0 (tyX2 0) true := ⟨_, _, gcl_3, (by decide), gt_1 (j := 186) rfl rfl, rfl, rfl⟩
theorem ff_X2_31 : gFA RX2 31 3 1 (tyX2 1) false := ⟨_, _, gcl_3, (by decide), gt_1 (j := 187) rfl rfl, rfl, rfl⟩
theorem ff_X8_158 : gFA RX8 158 3 1 (tyX2 1) false := ⟨_, _, gcl_3, (by decide), gt_1 (j := 188) rfl rfl, rfl, rfl⟩
theorem ff_X1_114 : gFA RX1 114 3 1 (tyX2 1) false := ⟨_, _, gcl_3, (by decide), gt_1 (j := 189) rfl rfl, rfl, rfl⟩
theorem ff_X2_20 : gFA RX2 20 3 2 (tyX2 2) true := ⟨_, _, gcl_3, (by decide), gt_1 (j := 190) rfl rfl, rfl, rfl⟩
theorem ff_X8_51 : gFA RX8 51 3 2 (tyX2 2) true := ⟨_, _, gcl_3, (by decide), gt_1 (j := 191) rfl rfl, rfl, rfl⟩
theorem ff_X11_253 : gFA RX11 253 3 2 (tyX2 2) true := ⟨_, _, gcl_3, (by decide), gt_1 (j := 192) rfl rfl, rfl, rfl⟩
theorem ff_X1_94 : gFA RX1 94 3 2 (tyX2 2) true := ⟨_, _, gcl_3, (by decide), gt_1 (j := 193) rfl rfl, rfl, rfl⟩
theorem ff_X2_24 : gFA RX2 24 3 3 (tyX2 3) true := ⟨_, _, gcl_3, (by decide), gt_1 (j := 194) rfl rfl, rfl, rfl⟩
theorem ff_X1_122 : gFA RX1 122 3 3 (tyX2 3) true := ⟨_, _, gcl_3, (by decide), gt_1 (j := 195) rfl rfl, rfl, rfl⟩
theorem ff_X2_38 : gFA RX2 38 3 4 (tyX2 4) false := ⟨_, _, gcl_3, (by decide), gt_1 (j := 196) rfl rfl, rfl, rfl⟩
theorem ff_X1_116 : gFA RX1 116 3 4 (tyX2 4) false := ⟨_, _, gcl_3, (by decide), gt_1 (j := 197) rfl rfl, rfl, rfl⟩
theorem ff_X2_41 : gFA RX2 41 3 5 (tyX2 5) false := ⟨_, _, gcl_3, (by decide), gt_1 (j := 198) rfl rfl, rfl, rfl⟩
theorem ff_X11_120 : gFA RX11 120 3 5 (tyX2 5) false := ⟨_, _, gcl_3, (by decide), gt_1 (j := 199) rfl rfl, rfl, rfl⟩
theorem ff_X1_110 : gFA RX1 110 3 5 (tyX2 5) false := ⟨_, _, gcl_3, (by decide), gt_1 (j := 200) rfl rfl, rfl, rfl⟩
theorem ff_X2_44 : gFA RX2 44 3 6 (tyX2 6) false := ⟨_, _, gcl_3, (by decide), gt_1 (j := 201) rfl rfl, rfl, rfl⟩
theorem ff_X11_123 : gFA RX11 123 3 6 (tyX2 6) false := ⟨_, _, gcl_3, (by decide), gt_1 (j := 202) rfl rfl, rfl, rfl⟩
theorem ff_X1_112 : gFA RX1 112 3 6 (tyX2 6) false := ⟨_, _, gcl_3, (by decide), gt_1 (j := 203) rfl rfl, rfl, rfl⟩
theorem ff_X2_28 : gFA RX2 28 3 7 (tyX2 7) true := ⟨_, _, gcl_3, (by decide), gt_1 (j := 204) rfl rfl, rfl, rfl⟩
theorem ff_X8_12 : gFA RX8 12 9 0 (tyX8 0) true := ⟨_, _, gcl_9, (by decide), gt_1 (j := 224) rfl rfl, rfl, rfl⟩
theorem ff_X11_23 : gFA RX11 23 9 0 (tyX8 0) true := ⟨_, _, gcl_9, (by decide), gt_1 (j := 225) rfl rfl, rfl, rfl⟩
theorem ff_X8_21 : gFA RX8 21 9 1 (tyX8 1) true := ⟨_, _, gcl_9, (by decide), gt_1 (j := 226) rfl rfl, rfl, rfl⟩
theorem ff_X8_30 : gFA RX8 30 9 2 (tyX8 2) true := ⟨_, _, gcl_9, (by decide), gt_1 (j := 227) rfl rfl, rfl, rfl⟩
theorem ff_X11_481 : gFA RX11 481 9 2 (tyX8 2) true := ⟨_, _, gcl_9, (by decide), gt_1 (j := 228) rfl rfl, rfl, rfl⟩
theorem ff_X8_34 : gFA RX8 34 9 3 (tyX8 3) true := ⟨_, _, gcl_9, (by decide), gt_1 (j := 229) rfl rfl, rfl, rfl⟩
theorem ff_X8_37 : gFA RX8 37 9 4 (tyX8 4) true := ⟨_, _, gcl_9, (by decide), gt_1 (j := 230) rfl rfl, rfl, rfl⟩
theorem ff_X11_214 : gFA RX11 214 9 4 (tyX8 4) true := ⟨_, _, gcl_9, (by decide), gt_1 (j := 231) rfl rfl, rfl, rfl⟩
theorem ff_X8_41 : gFA RX8 41 9 5 (tyX8 5) true := ⟨_, _, gcl_9, (by decide), gt_1 (j := 232) rfl rfl, rfl, rfl⟩
theorem ff_X11_203 : gFA RX11 203 9 5 (tyX8 5) true := ⟨_, _, gcl_9, (by decide), gt_1 (j := 233) rfl rfl, rfl, rfl⟩
theorem ff_X8_174 : gFA RX8 174 9 6 (tyX8 6) false := ⟨_, _, gcl_9, (by decide), gt_1 (j := 234) rfl rfl, rfl, rfl⟩
theorem ff_X11_444 : gFA RX11 444 9 6 (tyX8 6) false := ⟨_, _, gcl_9, (by decide), gt_1 (j := 235) rfl rfl, rfl, rfl⟩
theorem ff_X8_177 : gFA RX8 177 9 7 (tyX8 7) false := ⟨_, _, gcl_9, (by decide), gt_1 (j := 236) rfl rfl, rfl, rfl⟩
theorem ff_X11_447 : gFA RX11 447 9 7 (tyX8 7) false := ⟨_, _, gcl_9, (by decide), gt_1 (j := 237) rfl rfl, rfl, rfl⟩
theorem ff_X8_44 : gFA RX8 44 9 8 (tyX8 8) true := ⟨_, _, gcl_9, (by decide), gt_1 (j := 238) rfl rfl, rfl, rfl⟩
theorem ff_X8_47 : gFA RX8 47 9 9 (tyX8 9) true := ⟨_, _, gcl_9, (by decide), gt_1 (j := 239) rfl rfl, rfl, rfl⟩
theorem ff_X4_18 : gFA RX4 18 5 0 (tyX4 0) false := ⟨_, _, gcl_5, (by decide), gt_2 (j := 46) rfl rfl, rfl, rfl⟩
theorem ff_X5_53 : gFA RX5 53 5 0 (tyX4 0) false := ⟨_, _, gcl_5, (by decide), gt_2 (j := 47) rfl rfl, rfl, rfl⟩
theorem ff_X6_142 : gFA RX6 142 5 0 (tyX4 0) false := ⟨_, _, gcl_5, (by decide), gt_2 (j := 48) rfl rfl, rfl, rfl⟩
theorem ff_X8_186 : gFA RX8 186 5 0 (tyX4 0) false := ⟨_, _, gcl_5, (by decide), gt_2 (j := 49) rfl rfl, rfl, rfl⟩
theorem ff_X11_392 : gFA RX11 392 5 0 (tyX4 0) false := ⟨_, _, gcl_5, (by decide), gt_2 (j := 50) rfl rfl, rfl, rfl⟩
theorem ff_X4_9 : gFA RX4 9 5 1 (tyX4 1) true := ⟨_, _, gcl_5, (by decide), gt_2 (j := 51) rfl rfl, rfl, rfl⟩
theorem ff_X5_116 : gFA RX5 116 5 1 (tyX4 1) true := ⟨_, _, gcl_5, (by decide), gt_2 (j := 52) rfl rfl, rfl, rfl⟩
theorem ff_X4_15 : gFA RX4 15 5 2 (tyX4 2) true := ⟨_, _, gcl_5, (by decide), gt_2 (j := 53) rfl rfl, rfl, rfl⟩
theorem ff_X5_109 : gFA RX5 109 5 2 (tyX4 2) true := ⟨_, _, gcl_5, (by decide), gt_2 (j := 54) rfl rfl, rfl, rfl⟩
theorem ff_X8_265 : gFA RX8 265 5 2 (tyX4 2) true := ⟨_, _, gcl_5, (by decide), gt_2 (j := 55) rfl rfl, rfl, rfl⟩
theorem ff_X5_45 : gFA RX5 45 6 0 (tyX5 0) false := ⟨_, _, gcl_6, (by decide), gt_2 (j := 63) rfl rfl, rfl, rfl⟩
theorem ff_X11_189 : gFA RX11 189 6 0 (tyX5 0) false := ⟨_, _, gcl_6, (by decide), gt_2 (j := 64) rfl rfl, rfl, rfl⟩
theorem ff_X5_49 : gFA RX5 49 6 1 (tyX5 1) false := ⟨_, _, gcl_6, (by decide), gt_2 (j := 65) rfl rfl, rfl, rfl⟩
theorem ff_X6_41 : gFA RX6 41 6 1 (tyX5 1) false := ⟨_, _, gcl_6, (by decide), gt_2 (j := 66) rfl rfl, rfl, rfl⟩
theorem ff_X11_149 : gFA RX11 149 6 1 (tyX5 1) false := ⟨_, _, gcl_6, (by decide), gt_2 (j := 67) rfl rfl, rfl, rfl⟩
theorem ff_X5_80 : gFA RX5 80 6 2 (tyX5 2) false := ⟨_, _, gcl_6, (by decide), gt_2 (j := 68) rfl rfl, rfl, rfl⟩
theorem ff_X11_193 : gFA RX11 193 6 2 (tyX5 2) false := ⟨_, _, gcl_6, (by decide), gt_2 (j := 69) rfl rfl, rfl, rfl⟩
theorem ff_X6_189 : gFA RX6 189 6 2 (tyX5 2) false := ⟨_, _, gcl_6, (by decide), gt_2 (j := 70) rfl rfl, rfl, rfl⟩
theorem ff_X5_83 : gFA RX5 83 6 3 (tyX5 3) false := ⟨_, _, gcl_6, (by decide), gt_2 (j := 71) rfl rfl, rfl, rfl⟩
theorem ff_X11_221 : gFA RX11 221 6 3 (tyX5 3) false := ⟨_, _, gcl_6, (by decide), gt_2 (j := 72) rfl rfl, rfl, rfl⟩
theorem ff_X6_207 : gFA RX6 207 6 3 (tyX5 3) false := ⟨_, _, gcl_6, (by decide), gt_2 (j := 73) rfl rfl, rfl, rfl⟩
theorem ff_X5_14 : gFA RX5 14 6 4 (tyX5 4) true := ⟨_, _, gcl_6, (by decide), gt_2 (j := 74) rfl rfl, rfl, rfl⟩
theorem ff_X8_183 : gFA RX8 183 6 4 (tyX5 4) true := ⟨_, _, gcl_6, (by decide), gt_2 (j := 75) rfl rfl, rfl, rfl⟩
theorem ff_X6_145 : gFA RX6 145 6 4 (tyX5 4) true := ⟨_, _, gcl_6, (by decide), gt_2 (j := 76) rfl rfl, rfl, rfl⟩
theorem ff_X11_388 : gFA RX11 388 6 4 (tyX5 4) true := ⟨_, _, gcl_6, (by decide), gt_2 (j := 77) rfl rfl, rfl, rfl⟩
theorem ff_X5_20 : gFA RX5 20 6 5 (tyX5 5) true := ⟨_, _, gcl_6, (by decide), gt_2 (j := 78) rfl rfl, rfl, rfl⟩
theorem ff_X8_202 : gFA RX8 202 6 5 (tyX5 5) true := ⟨_, _, gcl_6, (by decide), gt_2 (j := 79) rfl rfl, rfl, rfl⟩
theorem ff_X6_149 : gFA RX6 149 6 5 (tyX5 5) true := ⟨_, _, gcl_6, (by decide), gt_2 (j := 80) rfl rfl, rfl, rfl⟩
theorem ff_X11_395 : gFA RX11 395 6 5 (tyX5 5) true := ⟨_, _, gcl_6, (by decide), gt_2 (j := 81) rfl rfl, rfl, rfl⟩
theorem ff_X5_23 : gFA RX5 23 6 6 (tyX5 6) true := ⟨_, _, gcl_6, (by decide), gt_2 (j := 82) rfl rfl, rfl, rfl⟩
theorem ff_X6_152 : gFA RX6 152 6 6 (tyX5 6) true := ⟨_, _, gcl_6, (by decide), gt_2 (j := 83) rfl rfl, rfl, rfl⟩
theorem ff_X11_398 : gFA RX11 398 6 6 (tyX5 6) true := ⟨_, _, gcl_6, (by decide), gt_2 (j := 84) rfl rfl, rfl, rfl⟩
theorem ff_X5_26 : gFA RX5 26 6 7 (tyX5 7) true := ⟨_, _, gcl_6, (by decide), gt_2 (j := 85) rfl rfl, rfl, rfl⟩
theorem ff_X8_211 : gFA RX8 211 6 7 (tyX5 7) true := ⟨_, _, gcl_6, (by decide), gt_2 (j := 86) rfl rfl, rfl, rfl⟩
theorem ff_X6_155 : gFA RX6 155 6 7 (tyX5 7) true := ⟨_, _, gcl_6, (by decide), gt_2 (j := 87) rfl rfl, rfl, rfl⟩
theorem ff_X11_416 : gFA RX11 416 6 7 (tyX5 7) true := ⟨_, _, gcl_6, (by decide), gt_2 (j := 88) rfl rfl, rfl, rfl⟩
theorem ff_X5_29 : gFA RX5 29 6 8 (tyX5 8) true := ⟨_, _, gcl_6, (by decide), gt_2 (j := 89) rfl rfl, rfl, rfl⟩
theorem ff_X6_158 : gFA RX6 158 6 8 (tyX5 8) true := ⟨_, _, gcl_6, (by decide), gt_2 (j := 90) rfl rfl, rfl, rfl⟩
theorem ff_X8_259 : gFA RX8 259 6 8 (tyX5 8) true := ⟨_, _, gcl_6, (by decide), gt_2 (j := 91) rfl rfl, rfl, rfl⟩
theorem ff_X11_419 : gFA RX11 419 6 8 (tyX5 8) true := ⟨_, _, gcl_6, (by decide), gt_2 (j := 92) rfl rfl, rfl, rfl⟩
theorem ff_X5_32 : gFA RX5 32 6 9 (tyX5 9) true := ⟨_, _, gcl_6, (by decide), gt_2 (j := 93) rfl rfl, rfl, rfl⟩
theorem ff_X6_161 : gFA RX6 161 6 9 (tyX5 9) true := ⟨_, _, gcl_6, (by decide), gt_2 (j := 94) rfl rfl, rfl, rfl⟩
theorem ff_X11_422 : gFA RX11 422 6 9 (tyX5 9) true := ⟨_, _, gcl_6, (by decide), gt_2 (j := 95) rfl rfl, rfl, rfl⟩
theorem ff_X5_35 : gFA RX5 35 6 10 (tyX5 10) true := ⟨_, _, gcl_6, (by decide), gt_2 (j := 96) rfl rfl, rfl, rfl⟩
theorem ff_X8_108 : gFA RX8 108 6 10 (tyX5 10) true := ⟨_, _, gcl_6, (by decide), gt_2 (j := 97) rfl rfl, rfl, rfl⟩
theorem ff_X6_164 : gFA RX6 164 6 10 (tyX5 10) true := ⟨_, _, gcl_6, (by decide), gt_2 (j := 98) rfl rfl, rfl, rfl⟩
theorem ff_X11_425 : gFA RX11 425 6 10 (tyX5 10) true := ⟨_, _, gcl_6, (by decide), gt_2 (j := 99) rfl rfl, rfl, rfl⟩
theorem ff_X5_56 : gFA RX5 56 6 11 (tyX5 11) false := ⟨_, _, gcl_6, (by decide), gt_2 (j := 100) rfl rfl, rfl, rfl⟩
theorem ff_X6_194 : gFA RX6 194 6 11 (tyX5 11) false := ⟨_, _, gcl_6, (by decide), gt_2 (j := 101) rfl rfl, rfl, rfl⟩
theorem ff_X8_235 : gFA RX8 235 6 11 (tyX5 11) false := ⟨_, _, gcl_6, (by decide), gt_2 (j := 102) rfl rfl, rfl, rfl⟩
theorem ff_X11_407 : gFA RX11 407 6 11 (tyX5 11) false := ⟨_, _, gcl_6, (by decide), gt_2 (j := 103) rfl rfl, rfl, rfl⟩
theorem ff_X5_59 : gFA RX5 59 6 12 (tyX5 12) false := ⟨_, _, gcl_6, (by decide), gt_2 (j := 104) rfl rfl, rfl, rfl⟩
theorem ff_X8_138 : gFA RX8 138 6 12 (tyX5 12) false := ⟨_, _, gcl_6, (by decide), gt_2 (j := 105) rfl rfl, rfl, rfl⟩
theorem ff_X6_197 : gFA RX6 197 6 12 (tyX5 12) false := ⟨_, _, gcl_6, (by decide), gt_2 (j := 106) rfl rfl, rfl, rfl⟩
theorem ff_X11_401 : gFA RX11 401 6 12 (tyX5 12) false := ⟨_, _, gcl_6, (by decide), gt_2 (j := 107) rfl rfl, rfl, rfl⟩
theorem ff_X5_62 : gFA RX5 62 6 13 (tyX5 13) false := ⟨_, _, gcl_6, (by decide), gt_2 (j := 108) rfl rfl, rfl, rfl⟩
theorem ff_X8_144 : gFA RX8 144 6 13 (tyX5 13) false := ⟨_, _, gcl_6, (by decide), gt_2 (j := 109) rfl rfl, rfl, rfl⟩
theorem ff_X6_199 : gFA RX6 199 6 13 (tyX5 13) false := ⟨_, _, gcl_6, (by decide), gt_2 (j := 110) rfl rfl, rfl, rfl⟩
theorem ff_X11_404 : gFA RX11 404 6 13 (tyX5 13) false := ⟨_, _, gcl_6, (by decide), gt_2 (j := 111) rfl rfl, rfl, rfl⟩
theorem ff_X5_65 : gFA RX5 65 6 14 (tyX5 14) false := ⟨_, _, gcl_6, (by decide), gt_2 (j := 112) rfl rfl, rfl, rfl⟩
theorem ff_X11_235 : gFA RX11 235 6 14 (tyX5 14) false := ⟨_, _, gcl_6, (by decide), gt_2 (j := 113) rfl rfl, rfl, rfl⟩
theorem ff_X6_201 : gFA RX6 201 6 14 (tyX5 14) false := ⟨_, _, gcl_6, (by decide), gt_2 (j := 114) rfl rfl, rfl, rfl⟩
theorem ff_X5_68 : gFA RX5 68 6 15 (tyX5 15) false := ⟨_, _, gcl_6, (by decide), gt_2 (j := 115) rfl rfl, rfl, rfl⟩
theorem ff_X6_203 : gFA RX6 203 6 15 (tyX5 15) false := ⟨_, _, gcl_6, (by decide), gt_2 (j := 116) rfl rfl, rfl, rfl⟩
theorem ff_X8_238 : gFA RX8 238 6 15 (tyX5 15) false := ⟨_, _, gcl_6, (by decide), gt_2 (j := 117) rfl rfl, rfl, rfl⟩
theorem ff_X11_410 : gFA RX11 410 6 15 (tyX5 15) false := ⟨_, _, gcl_6, (by decide), gt_2 (j := 118) rfl rfl, rfl, rfl⟩
theorem ff_X5_71 : gFA RX5 71 6 16 (tyX5 16) false := ⟨_, _, gcl_6, (by decide), gt_2 (j := 119) rfl rfl, rfl, rfl⟩
theorem ff_X8_199 : gFA RX8 199 6 16 (tyX5 16) false := ⟨_, _, gcl_6, (by decide), gt_2 (j := 120) rfl rfl, rfl, rfl⟩
theorem ff_X6_205 : gFA RX6 205 6 16 (tyX5 16) false := ⟨_, _, gcl_6, (by decide), gt_2 (j := 121) rfl rfl, rfl, rfl⟩
theorem ff_X11_413 : gFA RX11 413 6 16 (tyX5 16) false := ⟨_, _, gcl_6, (by decide), gt_2 (j := 122) rfl rfl, rfl, rfl⟩
theorem ff_X5_38 : gFA RX5 38 6 17 (tyX5 17) true := ⟨_, _, gcl_6, (by decide), gt_2 (j := 123) rfl rfl, rfl, rfl⟩
theorem ff_X8_100 : gFA RX8 100 6 17 (tyX5 17) true := ⟨_, _, gcl_6, (by decide), gt_2 (j := 124) rfl rfl, rfl, rfl⟩
theorem ff_X11_436 : gFA RX11 436 6 17 (tyX5 17) true := ⟨_, _, gcl_6, (by decide), gt_2 (j := 125) rfl rfl, rfl, rfl⟩
theorem ff_X5_42 : gFA RX5 42 6 18 (tyX5 18) true := ⟨_, _, gcl_6, (by decide), gt_2 (j := 126) rfl rfl, rfl, rfl⟩
theorem ff_X8_107 : gFA RX8 107 6 18 (tyX5 18) true := ⟨_, _, gcl_6, (by decide), gt_2 (j := 127) rfl rfl, rfl, rfl⟩
theorem ff_X11_435 : gFA RX11 435 6 18 (tyX5 18) true := ⟨_, _, gcl_6, (by decide), gt_2 (j := 128) rfl rfl, rfl, rfl⟩
theorem ff_X6_12 : gFA RX6 12 7 0 (tyX6 0) true := ⟨_, _, gcl_7, (by decide), gt_2 (j := 168) rfl rfl, rfl, rfl⟩
theorem ff_X11_141 : gFA RX11 141 7 0 (tyX6 0) true := ⟨_, _, gcl_7, (by decide), gt_2 (j := 169) rfl rfl, rfl, rfl⟩
theorem ff_X6_18 : gFA RX6 18 7 1 (tyX6 1) false := ⟨_, _, gcl_7, (by decide), gt_2 (j := 170) rfl rfl, rfl, rfl⟩
theorem ff_X6_54 : gFA RX6 54 7 2 (tyX6 2) false := ⟨_, _, gcl_7, (by decide), gt_2 (j := 171) rfl rfl, rfl, rfl⟩
theorem ff_X6_22 : gFA RX6 22 7 3 (tyX6 3) false := ⟨_, _, gcl_7, (by decide), gt_2 (j := 172) rfl rfl, rfl, rfl⟩
theorem ff_X7_24 : gFA RX7 24 8 0 (tyX7 0) false := ⟨_, _, gcl_8, (by decide), gt_2 (j := 187) rfl rfl, rfl, rfl⟩
theorem ff_X8_84 : gFA RX8 84 8 0 (tyX7 0) false := ⟨_, _, gcl_8, (by decide), gt_2 (j := 188) rfl rfl, rfl, rfl⟩
theorem ff_X11_180 : gFA RX11 180 8 0 (tyX7 0) false := ⟨_, _, gcl_8, (by decide), gt_2 (j := 189) rfl rfl, rfl, rfl⟩
theorem ff_X1_84 : gFA RX1 84 8 0 (tyX7 0) false := ⟨_, _, gcl_8, (by decide), gt_2 (j := 190) rfl rfl, rfl, rfl⟩
theorem ff_X7_9 : gFA RX7 9 8 1 (tyX7 1) true := ⟨_, _, gcl_8, (by decide), gt_2 (j := 191) rfl rfl, rfl, rfl⟩
theorem ff_X11_232 : gFA RX11 232 8 1 (tyX7 1) true := ⟨_, _, gcl_8, (by decide), gt_2 (j := 192) rfl rfl, rfl, rfl⟩
theorem ff_X7_15 : gFA RX7 15 8 2 (tyX7 2) true := ⟨_, _, gcl_8, (by decide), gt_2 (j := 193) rfl rfl, rfl, rfl⟩
theorem ff_X11_238 : gFA RX11 238 8 2 (tyX7 2) true := ⟨_, _, gcl_8, (by decide), gt_2 (j := 194) rfl rfl, rfl, rfl⟩
theorem ff_X7_18 : gFA RX7 18 8 3 (tyX7 3) true := ⟨_, _, gcl_8, (by decide), gt_2 (j := 195) rfl rfl, rfl, rfl⟩
theorem ff_X8_87 : gFA RX8 87 8 3 (tyX7 3) true := ⟨_, _, gcl_8, (by decide), gt_2 (j := 196) rfl rfl, rfl, rfl⟩
theorem ff_X1_87 : gFA RX1 87 8 3 (tyX7 3) true := ⟨_, _, gcl_8, (by decide), gt_2 (j := 197) rfl rfl, rfl, rfl⟩
theorem ff_X11_230 : gFA RX11 230 8 3 (tyX7 3) true := ⟨_, _, gcl_8, (by decide), gt_2 (j := 198) rfl rfl, rfl, rfl⟩
theorem ff_X7_21 : gFA RX7 21 8 4 (tyX7 4) true := ⟨_, _, gcl_8, (by decide), gt_2 (j := 199) rfl rfl, rfl, rfl⟩
theorem ff_X11_484 : gFA RX11 484 8 4 (tyX7 4) true := ⟨_, _, gcl_8, (by decide), gt_2 (j := 200) rfl rfl, rfl, rfl⟩
theorem ff_X0_55 : gFA RX0 55 1 0 (tyX0 0) false := ⟨_, _, gcl_1, (by decide), gt_2 (j := 218) rfl rfl, rfl, rfl⟩
theorem ff_X11_313 : gFA RX11 313 1 0 (tyX0 0) false := ⟨_, _, gcl_1, (by decide), gt_2 (j := 219) rfl rfl, rfl, rfl⟩
theorem ff_X0_9 : gFA RX0 9 1 1 (tyX0 1) true := ⟨_, _, gcl_1, (by decide), gt_2 (j := 220) rfl rfl, rfl, rfl⟩
theorem ff_X0_15 : gFA RX0 15 1 2 (tyX0 2) true := ⟨_, _, gcl_1, (by decide), gt_2 (j := 221) rfl rfl, rfl, rfl⟩
theorem ff_X0_18 : gFA RX0 18 1 3 (tyX0 3) true := ⟨_, _, gcl_1, (by decide), gt_2 (j := 222) rfl rfl, rfl, rfl⟩
theorem ff_X0_21 : gFA RX0 21 1 4 (tyX0 4) true := ⟨_, _, gcl_1, (by decide), gt_2 (j := 223) rfl rfl, rfl, rfl⟩
theorem ff_X0_24 : gFA RX0 24 1 5 (tyX0 5) true := ⟨_, _, gcl_1, (by decide), gt_2 (j := 224) rfl rfl, rfl, rfl⟩
theorem ff_X0_59 : gFA RX0 59 1 6 (tyX0 6) false := ⟨_, _, gcl_1, (by decide), gt_2 (j := 225) rfl rfl, rfl, rfl⟩
theorem ff_X11_568 : gFA RX11 568 1 6 (tyX0 6) false := ⟨_, _, gcl_1, (by decide), gt_2 (j := 226) rfl rfl, rfl, rfl⟩
theorem ff_X0_27 : gFA RX0 27 1 7 (tyX0 7) true := ⟨_, _, gcl_1, (by decide), gt_2 (j := 227) rfl rfl, rfl, rfl⟩
theorem ff_X11_574 : gFA RX11 574 1 7 (tyX0 7) true := ⟨_, _, gcl_1, (by decide), gt_2 (j := 228) rfl rfl, rfl, rfl⟩
theorem ff_X0_30 : gFA RX0 30 1 8 (tyX0 8) true := ⟨_, _, gcl_1, (by decide), gt_2 (j := 229) rfl rfl, rfl, rfl⟩
theorem ff_X11_577 : gFA RX11 577 1 8 (tyX0 8) true := ⟨_, _, gcl_1, (by decide), gt_2 (j := 230) rfl rfl, rfl, rfl⟩
theorem ff_X0_33 : gFA RX0 33 1 9 (tyX0 9) true := ⟨_, _, gcl_1, (by decide), gt_2 (j := 231) rfl rfl, rfl, rfl⟩
theorem ff_X11_580 : gFA RX11 580 1 9 (tyX0 9) true := ⟨_, _, gcl_1, (by decide), gt_2 (j := 232) rfl rfl, rfl, rfl⟩
theorem ff_X0_88 : gFA RX0 88 1 10 (tyX0 10) false := ⟨_, _, gcl_1, (by decide), gt_2 (j := 233) rfl rfl, rfl, rfl⟩
theorem ff_X0_91 : gFA RX0 91 1 11 (tyX0 11) false := ⟨_, _, gcl_1, (by decide), gt_2 (j := 234) rfl rfl, rfl, rfl⟩
theorem ff_X0_37 : gFA RX0 37 1 12 (tyX0 12) true := ⟨_, _, gcl_1, (by decide), gt_2 (j := 235) rfl rfl, rfl, rfl⟩
theorem ff_X0_40 : gFA RX0 40 1 13 (tyX0 13) true := ⟨_, _, gcl_1, (by decide), gt_2 (j := 236) rfl rfl, rfl, rfl⟩
theorem ff_X0_43 : gFA RX0 43 1 14 (tyX0 14) true := ⟨_, _, gcl_1, (by decide), gt_2 (j := 237) rfl rfl, rfl, rfl⟩
theorem ff_X0_46 : gFA RX0 46 1 15 (tyX0 15) true := ⟨_, _, gcl_1, (by decide), gt_2 (j := 238) rfl rfl, rfl, rfl⟩
theorem ff_X0_49 : gFA RX0 49 1 16 (tyX0 16) true := ⟨_, _, gcl_1, (by decide), gt_2 (j := 239) rfl rfl, rfl, rfl⟩
theorem ff_X0_52 : gFA RX0 52 1 17 (tyX0 17) true := ⟨_, _, gcl_1, (by decide), gt_3 (j := 0) rfl rfl, rfl, rfl⟩
theorem ff_J5_15 : gFA RJ5 15 0 0 (tyJ4 0) false := ⟨_, _, gcl_0, (by decide), gt_3 (j := 59) rfl rfl, rfl, rfl⟩
theorem ff_J5_22 : gFA RJ5 22 0 1 (tyJ4 1) false := ⟨_, _, gcl_0, (by decide), gt_3 (j := 60) rfl rfl, rfl, rfl⟩
theorem ff_J5_73 : gFA RJ5 73 0 2 (tyJ4 2) false := ⟨_, _, gcl_0, (by decide), gt_3 (j := 61) rfl rfl, rfl, rfl⟩
theorem ff_J5_79 : gFA RJ5 79 0 3 (tyJ4 3) false := ⟨_, _, gcl_0, (by decide), gt_3 (j := 62) rfl rfl, rfl, rfl⟩
theorem ff_X11_10 : gFA RX11 10 12 0 (tyX11 0) true := ⟨_, _, gcl_12, (by decide), gt_3 (j := 73) rfl rfl, rfl, rfl⟩
theorem ff_X11_19 : gFA RX11 19 12 1 (tyX11 1) true := ⟨_, _, gcl_12, (by decide), gt_3 (j := 74) rfl rfl, rfl, rfl⟩
theorem ff_X11_27 : gFA RX11 27 12 2 (tyX11 2) true := ⟨_, _, gcl_12, (by decide), gt_3 (j := 75) rfl rfl, rfl, rfl⟩
theorem ff_X11_31 : gFA RX11 31 12 3 (tyX11 3) true := ⟨_, _, gcl_12, (by decide), gt_3 (j := 76) rfl rfl, rfl, rfl⟩
theorem ff_X11_37 : gFA RX11 37 12 4 (tyX11 4) true := ⟨_, _, gcl_12, (by decide), gt_3 (j := 77) rfl rfl, rfl, rfl⟩
theorem ff_X11_43 : gFA RX11 43 12 5 (tyX11 5) true := ⟨_, _, gcl_12, (by decide), gt_3 (j := 78) rfl rfl, rfl, rfl⟩
theorem ff_X11_50 : gFA RX11 50 12 6 (tyX11 6) true := ⟨_, _, gcl_12, (by decide), gt_3 (j := 79) rfl rfl, rfl, rfl⟩
theorem ff_X11_55 : gFA RX11 55 12 7 (tyX11 7) true := ⟨_, _, gcl_12, (by decide), gt_3 (j := 80) rfl rfl, rfl, rfl⟩
theorem ff_X11_62 : gFA RX11 62 12 8 (tyX11 8) true := ⟨_, _, gcl_12, (by decide), gt_3 (j := 81) rfl rfl, rfl, rfl⟩
theorem ff_X11_66 : gFA RX11 66 12 9 (tyX11 9) true := ⟨_, _, gcl_12, (by decide), gt_3 (j := 82) rfl rfl, rfl, rfl⟩
theorem ff_X11_74 : gFA RX11 74 12 10 (tyX11 10) true := ⟨_, _, gcl_12, (by decide), gt_3 (j := 83) rfl rfl, rfl, rfl⟩
theorem ff_X11_78 : gFA RX11 78 12 11 (tyX11 11) true := ⟨_, _, gcl_12, (by decide), gt_3 (j := 84) rfl rfl, rfl, rfl⟩
theorem ff_X11_82 : gFA RX11 82 12 12 (tyX11 12) true := ⟨_, _, gcl_12, (by decide), gt_3 (j := 85) rfl rfl, rfl, rfl⟩
theorem ff_X11_88 : gFA RX11 88 12 13 (tyX11 13) true := ⟨_, _, gcl_12, (by decide), gt_3 (j := 86) rfl rfl, rfl, rfl⟩
theorem ff_X11_92 : gFA RX11 92 12 14 (tyX11 14) true := ⟨_, _, gcl_12, (by decide), gt_3 (j := 87) rfl rfl, rfl, rfl⟩
theorem ff_X11_95 : gFA RX11 95 12 15 (tyX11 15) true := ⟨_, _, gcl_12, (by decide), gt_3 (j := 88) rfl rfl, rfl, rfl⟩
theorem ff_X11_98 : gFA RX11 98 12 16 (tyX11 16) false := ⟨_, _, gcl_12, (by decide), gt_3 (j := 89) rfl rfl, rfl, rfl⟩
theorem ff_X12_178 : gFA RX12 178 13 0 (tyX12 0) false := ⟨_, _, gcl_13, (by decide), gt_8 (j := 41) rfl rfl, rfl, rfl⟩
theorem ff_X12_7 : gFA RX12 7 13 1 (tyX12 1) true := ⟨_, _, gcl_13, (by decide), gt_8 (j := 42) rfl rfl, rfl, rfl⟩
theorem ff_X12_13 : gFA RX12 13 13 2 (tyX12 2) true := ⟨_, _, gcl_13, (by decide), gt_8 (j := 43) rfl rfl, rfl, rfl⟩
theorem ff_X12_16 : gFA RX12 16 13 3 (tyX12 3) true := ⟨_, _, gcl_13, (by decide), gt_8 (j := 44) rfl rfl, rfl, rfl⟩
theorem ff_X12_19 : gFA RX12 19 13 4 (tyX12 4) true := ⟨_, _, gcl_13, (by decide), gt_8 (j := 45) rfl rfl, rfl, rfl⟩
theorem ff_X12_22 : gFA RX12 22 13 5 (tyX12 5) true := ⟨_, _, gcl_13, (by decide), gt_8 (j := 46) rfl rfl, rfl, rfl⟩
theorem ff_X12_25 : gFA RX12 25 13 6 (tyX12 6) true := ⟨_, _, gcl_13, (by decide), gt_8 (j := 47) rfl rfl, rfl, rfl⟩
theorem ff_X12_28 : gFA RX12 28 13 7 (tyX12 7) true := ⟨_, _, gcl_13, (by decide), gt_8 (j := 48) rfl rfl, rfl, rfl⟩
theorem ff_X12_31 : gFA RX12 31 13 8 (tyX12 8) true := ⟨_, _, gcl_13, (by decide), gt_8 (j := 49) rfl rfl, rfl, rfl⟩
theorem ff_X12_34 : gFA RX12 34 13 9 (tyX12 9) true := ⟨_, _, gcl_13, (by decide), gt_8 (j := 50) rfl rfl, rfl, rfl⟩
theorem ff_X12_37 : gFA RX12 37 13 10 (tyX12 10) true := ⟨_, _, gcl_13, (by decide), gt_8 (j := 51) rfl rfl, rfl, rfl⟩
theorem ff_X12_40 : gFA RX12 40 13 11 (tyX12 11) true := ⟨_, _, gcl_13, (by decide), gt_8 (j := 52) rfl rfl, rfl, rfl⟩
theorem ff_X12_186 : gFA RX12 186 13 12 (tyX12 12) false := ⟨_, _, gcl_13, (by decide), gt_8 (j := 53) rfl rfl, rfl, rfl⟩
theorem ff_X12_189 : gFA RX12 189 13 13 (tyX12 13) false := ⟨_, _, gcl_13, (by decide), gt_8 (j := 54) rfl rfl, rfl, rfl⟩
theorem ff_X12_43 : gFA RX12 43 13 14 (tyX12 14) true := ⟨_, _, gcl_13, (by decide), gt_8 (j := 55) rfl rfl, rfl, rfl⟩
theorem ff_X12_47 : gFA RX12 47 13 15 (tyX12 15) true := ⟨_, _, gcl_13, (by decide), gt_8 (j := 56) rfl rfl, rfl, rfl⟩
theorem ff_X12_50 : gFA RX12 50 13 16 (tyX12 16) true := ⟨_, _, gcl_13, (by decide), gt_8 (j := 57) rfl rfl, rfl, rfl⟩
theorem ff_X12_53 : gFA RX12 53 13 17 (tyX12 17) true := ⟨_, _, gcl_13, (by decide), gt_8 (j := 58) rfl rfl, rfl, rfl⟩
theorem ff_X12_249 : gFA RX12 249 13 18 (tyX12 18) false := ⟨_, _, gcl_13, (by decide), gt_8 (j := 59) rfl rfl, rfl, rfl⟩
theorem ff_X12_256 : gFA RX12 256 13 19 (tyX12 19) false := ⟨_, _, gcl_13, (by decide), gt_8 (j := 60) rfl rfl, rfl, rfl⟩
theorem ff_X12_259 : gFA RX12 259 13 20 (tyX12 20) false := ⟨_, _, gcl_13, (by decide), gt_8 (j := 61) rfl rfl, rfl, rfl⟩
theorem ff_X12_262 : gFA RX12 262 13 21 (tyX12 21) false := ⟨_, _, gcl_13, (by decide), gt_8 (j := 62) rfl rfl, rfl, rfl⟩
theorem ff_X12_275 : gFA RX12 275 13 22 (tyX12 22) false := ⟨_, _, gcl_13, (by decide), gt_8 (j := 63) rfl rfl, rfl, rfl⟩
theorem ff_X12_278 : gFA RX12 278 13 23 (tyX12 23) false := ⟨_, _, gcl_13, (by decide), gt_8 (j := 64) rfl rfl, rfl, rfl⟩
theorem ff_X12_57 : gFA RX12 57 13 24 (tyX12 24) true := ⟨_, _, gcl_13, (by decide), gt_8 (j := 65) rfl rfl, rfl, rfl⟩
theorem ff_X12_60 : gFA RX12 60 13 25 (tyX12 25) true := ⟨_, _, gcl_13, (by decide), gt_8 (j := 66) rfl rfl, rfl, rfl⟩
theorem ff_X12_63 : gFA RX12 63 13 26 (tyX12 26) true := ⟨_, _, gcl_13, (by decide), gt_8 (j := 67) rfl rfl, rfl, rfl⟩
theorem ff_X12_66 : gFA RX12 66 13 27 (tyX12 27) true := ⟨_, _, gcl_13, (by decide), gt_8 (j := 68) rfl rfl, rfl, rfl⟩
theorem ff_X12_69 : gFA RX12 69 13 28 (tyX12 28) true := ⟨_, _, gcl_13, (by decide), gt_8 (j := 69) rfl rfl, rfl, rfl⟩
theorem ff_X12_369 : gFA RX12 369 13 29 (tyX12 29) false := ⟨_, _, gcl_13, (by decide), gt_8 (j := 70) rfl rfl, rfl, rfl⟩
theorem ff_X12_366 : gFA RX12 366 13 30 (tyX12 30) false := ⟨_, _, gcl_13, (by decide), gt_8 (j := 71) rfl rfl, rfl, rfl⟩
theorem ff_X12_72 : gFA RX12 72 13 31 (tyX12 31) true := ⟨_, _, gcl_13, (by decide), gt_8 (j := 72) rfl rfl, rfl, rfl⟩
theorem ff_X12_492 : gFA RX12 492 13 32 (tyX12 32) false := ⟨_, _, gcl_13, (by decide), gt_8 (j := 73) rfl rfl, rfl, rfl⟩
theorem ff_X12_495 : gFA RX12 495 13 33 (tyX12 33) false := ⟨_, _, gcl_13, (by decide), gt_8 (j := 74) rfl rfl, rfl, rfl⟩
theorem ff_X12_75 : gFA RX12 75 13 34 (tyX12 34) true := ⟨_, _, gcl_13, (by decide), gt_8 (j := 75) rfl rfl, rfl, rfl⟩
theorem ff_X12_78 : gFA RX12 78 13 35 (tyX12 35) true := ⟨_, _, gcl_13, (by decide), gt_8 (j := 76) rfl rfl, rfl, rfl⟩
theorem ff_X12_81 : gFA RX12 81 13 36 (tyX12 36) true := ⟨_, _, gcl_13, (by decide), gt_8 (j := 77) rfl rfl, rfl, rfl⟩
theorem ff_X12_510 : gFA RX12 510 13 37 (tyX12 37) false := ⟨_, _, gcl_13, (by decide), gt_8 (j := 78) rfl rfl, rfl, rfl⟩
theorem ff_X12_537 : gFA RX12 537 13 38 (tyX12 38) false := ⟨_, _, gcl_13, (by decide), gt_8 (j := 79) rfl rfl, rfl, rfl⟩
theorem ff_X12_84 : gFA RX12 84 13 39 (tyX12 39) true := ⟨_, _, gcl_13, (by decide), gt_8 (j := 80) rfl rfl, rfl, rfl⟩
theorem ff_X12_87 : gFA RX12 87 13 40 (tyX12 40) true := ⟨_, _, gcl_13, (by decide), gt_8 (j := 81) rfl rfl, rfl, rfl⟩
theorem ff_X12_90 : gFA RX12 90 13 41 (tyX12 41) true := ⟨_, _, gcl_13, (by decide), gt_8 (j := 82) rfl rfl, rfl, rfl⟩
theorem ff_X12_93 : gFA RX12 93 13 42 (tyX12 42) true := ⟨_, _, gcl_13, (by decide), gt_8 (j := 83) rfl rfl, rfl, rfl⟩
theorem ff_X12_96 : gFA RX12 96 13 43 (tyX12 43) true := ⟨_, _, gcl_13, (by decide), gt_8 (j := 84) rfl rfl, rfl, rfl⟩
theorem ff_X12_99 : gFA RX12 99 13 44 (tyX12 44) true := ⟨_, _, gcl_13, (by decide), gt_8 (j := 85) rfl rfl, rfl, rfl⟩
theorem ff_X12_102 : gFA RX12 102 13 45 (tyX12 45) true := ⟨_, _, gcl_13, (by decide), gt_8 (j := 86) rfl rfl, rfl, rfl⟩
theorem ff_X12_105 : gFA RX12 105 13 46 (tyX12 46) true := ⟨_, _, gcl_13, (by decide), gt_8 (j := 87) rfl rfl, rfl, rfl⟩
theorem ff_X12_108 : gFA RX12 108 13 47 (tyX12 47) true := ⟨_, _, gcl_13, (by decide), gt_8 (j := 88) rfl rfl, rfl, rfl⟩
theorem ff_X12_111 : gFA RX12 111 13 48 (tyX12 48) true := ⟨_, _, gcl_13, (by decide), gt_8 (j := 89) rfl rfl, rfl, rfl⟩
theorem ff_X12_644 : gFA RX12 644 13 49 (tyX12 49) false := ⟨_, _, gcl_13, (by decide), gt_8 (j := 90) rfl rfl, rfl, rfl⟩
theorem ff_X12_662 : gFA RX12 662 13 50 (tyX12 50) false := ⟨_, _, gcl_13, (by decide), gt_8 (j := 91) rfl rfl, rfl, rfl⟩
theorem ff_X12_665 : gFA RX12 665 13 51 (tyX12 51) false := ⟨_, _, gcl_13, (by decide), gt_8 (j := 92) rfl rfl, rfl, rfl⟩
theorem ff_X12_114 : gFA RX12 114 13 52 (tyX12 52) true := ⟨_, _, gcl_13, (by decide), gt_8 (j := 93) rfl rfl, rfl, rfl⟩
theorem ff_X12_117 : gFA RX12 117 13 53 (tyX12 53) true := ⟨_, _, gcl_13, (by decide), gt_8 (j := 94) rfl rfl, rfl, rfl⟩
theorem ff_X12_120 : gFA RX12 120 13 54 (tyX12 54) true := ⟨_, _, gcl_13, (by decide), gt_8 (j := 95) rfl rfl, rfl, rfl⟩
theorem ff_X12_123 : gFA RX12 123 13 55 (tyX12 55) true := ⟨_, _, gcl_13, (by decide), gt_8 (j := 96) rfl rfl, rfl, rfl⟩
theorem ff_X12_126 : gFA RX12 126 13 56 (tyX12 56) true := ⟨_, _, gcl_13, (by decide), gt_8 (j := 97) rfl rfl, rfl, rfl⟩
theorem ff_X12_129 : gFA RX12 129 13 57 (tyX12 57) true := ⟨_, _, gcl_13, (by decide), gt_8 (j := 98) rfl rfl, rfl, rfl⟩
theorem ff_X12_132 : gFA RX12 132 13 58 (tyX12 58) true := ⟨_, _, gcl_13, (by decide), gt_8 (j := 99) rfl rfl, rfl, rfl⟩
theorem ff_X12_721 : gFA RX12 721 13 59 (tyX12 59) false := ⟨_, _, gcl_13, (by decide), gt_8 (j := 100) rfl rfl, rfl, rfl⟩
theorem ff_X12_749 : gFA RX12 749 13 60 (tyX12 60) false := ⟨_, _, gcl_13, (by decide), gt_8 (j := 101) rfl rfl, rfl, rfl⟩
theorem ff_X12_752 : gFA RX12 752 13 61 (tyX12 61) false := ⟨_, _, gcl_13, (by decide), gt_8 (j := 102) rfl rfl, rfl, rfl⟩
theorem ff_X12_755 : gFA RX12 755 13 62 (tyX12 62) false := ⟨_, _, gcl_13, (by decide), gt_8 (j := 103) rfl rfl, rfl, rfl⟩
theorem ff_X12_758 : gFA RX12 758 13 63 (tyX12 63) false := ⟨_, _, gcl_13, (by decide), gt_8 (j := 104) rfl rfl, rfl, rfl⟩
theorem ff_X12_761 : gFA RX12 761 13 64 (tyX12 64) false := ⟨_, _, gcl_13, (by decide), gt_8 (j := 105) rfl rfl, rfl, rfl⟩
theorem ff_X12_135 : gFA RX12 135 13 65 (tyX12 65) true := ⟨_, _, gcl_13, (by decide), gt_8 (j := 106) rfl rfl, rfl, rfl⟩
theorem ff_X12_138 : gFA RX12 138 13 66 (tyX12 66) true := ⟨_, _, gcl_13, (by decide), gt_8 (j := 107) rfl rfl, rfl, rfl⟩
theorem ff_X12_141 : gFA RX12 141 13 67 (tyX12 67) true := ⟨_, _, gcl_13, (by decide), gt_8 (j := 108) rfl rfl, rfl, rfl⟩
theorem ff_X12_144 : gFA RX12 144 13 68 (tyX12 68) true := ⟨_, _, gcl_13, (by decide), gt_8 (j := 109) rfl rfl, rfl, rfl⟩
theorem ff_X12_147 : gFA RX12 147 13 69 (tyX12 69) true := ⟨_, _, gcl_13, (by decide), gt_8 (j := 110) rfl rfl, rfl, rfl⟩
theorem ff_X12_778 : gFA RX12 778 13 70 (tyX12 70) false := ⟨_, _, gcl_13, (by decide), gt_8 (j := 111) rfl rfl, rfl, rfl⟩
theorem ff_X12_774 : gFA RX12 774 13 71 (tyX12 71) false := ⟨_, _, gcl_13, (by decide), gt_8 (j := 112) rfl rfl, rfl, rfl⟩
theorem fs_J5_18 : Cond.fieldLink RJ5 18 "java/lang/String" "COMPACT_STRINGS" "Z" ∈ gAll := gt_3 (j := 50) rfl rfl
theorem fs_J0_38 : Cond.fieldLink RJ0 38 "java/lang/String" "COMPACT_STRINGS" "Z" ∈ gAll := gt_4 (j := 151) rfl rfl
theorem fs_J0_1053 : Cond.fieldLink RJ0 1053 "jdk/internal/util/Preconditions" "SIOOBE_FORMATTER" "Ljava/util/function/BiFunction;" ∈ gAll := gt_4 (j := 170) rfl rfl
theorem fs_J2_44 : Cond.fieldLink RJ2 44 "java/lang/StringUTF16" "$assertionsDisabled" "Z" ∈ gAll := gt_4 (j := 188) rfl rfl
theorem fs_J2_59 : Cond.fieldLink RJ2 59 "java/lang/StringUTF16" "HI_BYTE_SHIFT" "I" ∈ gAll := gt_4 (j := 190) rfl rfl
theorem fs_J2_63 : Cond.fieldLink RJ2 63 "java/lang/StringUTF16" "LO_BYTE_SHIFT" "I" ∈ gAll := gt_4 (j := 192) rfl rfl
theorem fs_J6_83 : Cond.fieldLink RJ6 83 "java/lang/Integer" "DigitOnes" "[B" ∈ gAll := gt_6 (j := 159) rfl rfl
theorem fs_J6_87 : Cond.fieldLink RJ6 87 "java/lang/Integer" "DigitTens" "[B" ∈ gAll := gt_6 (j := 161) rfl rfl
theorem fs_J2_403 : Cond.fieldLink RJ2 403 "java/lang/Integer" "DigitOnes" "[B" ∈ gAll := gt_6 (j := 178) rfl rfl
theorem fs_J2_407 : Cond.fieldLink RJ2 407 "java/lang/Integer" "DigitTens" "[B" ∈ gAll := gt_6 (j := 179) rfl rfl
theorem fs_J0_9 : Cond.fieldLink RJ0 9 "java/lang/String" "value" "[B" ∈ gAll := gt_12 (j := 139) rfl rfl
theorem fs_J0_15 : Cond.fieldLink RJ0 15 "java/lang/String" "coder" "B" ∈ gAll := gt_12 (j := 140) rfl rfl
theorem mt_X11_init : gMt yX11_init cX11_init 2 none 0 := ⟨gt_1 (j := 33) rfl rfl, gt_1 (j := 1) rfl rfl, ⟨by decide +kernel, by decide +kernel⟩, by decide +kernel⟩
theorem mi_X11_init : Cond.instanceMethod yX11_init ∈ gAll := gt_1 (j := 32) rfl rfl
theorem mt_X9_init : gMt yX9_init cX9_init 1 none 0 := ⟨gt_1 (j := 41) rfl rfl, gt_1 (j := 2) rfl rfl, ⟨by decide +kernel, by decide +kernel⟩, by decide +kernel⟩
theorem mi_X9_init : Cond.instanceMethod yX9_init ∈ gAll := gt_1 (j := 40) rfl rfl
theorem mt_X8_init : gMt yX8_init cX8_init 1 none 0 := ⟨gt_1 (j := 71) rfl rfl, gt_1 (j := 3) rfl rfl, ⟨by decide +kernel, by decide +kernel⟩, by decide +kernel⟩
theorem mi_X8_init : Cond.instanceMethod yX8_init ∈ gAll := gt_1 (j := 70) rfl rfl
theorem mt_X1_init : gMt yX1_init cX1_init 2 none 0 := ⟨gt_1 (j := 77) rfl rfl, gt_1 (j := 4) rfl rfl, ⟨by decide +kernel, by decide +kernel⟩, by decide +kernel⟩
theorem mi_X1_init : Cond.instanceMethod yX1_init ∈ gAll := gt_1 (j := 76) rfl rfl
theorem mt_X3_init : gMt yX3_init cX3_init 2 none 1 := ⟨gt_1 (j := 85) rfl rfl, gt_1 (j := 5) rfl rfl, ⟨by decide +kernel, by decide +kernel⟩, by decide +kernel⟩
theorem mi_X3_init : Cond.instanceMethod yX3_init ∈ gAll := gt_1 (j := 84) rfl rfl
theorem mt_X10_init : gMt yX10_init cX10_init 2 none 1 := ⟨gt_1 (j := 99) rfl rfl, gt_1 (j := 6) rfl rfl, ⟨by decide +kernel, by decide +kernel⟩, by decide +kernel⟩
theorem mi_X10_init : Cond.instanceMethod yX10_init ∈ gAll := gt_1 (j := 98) rfl rfl
theorem mt_X2_init : gMt yX2_init cX2_init 1 none 0 := ⟨gt_1 (j := 180) rfl rfl, gt_1 (j := 7) rfl rfl, ⟨by decide +kernel, by decide +kernel⟩, by decide +kernel⟩
theorem mi_X2_init : Cond.instanceMethod yX2_init ∈ gAll := gt_1 (j := 179) rfl rfl
theorem mt_X6_init : gMt yX6_init cX6_init 1 none 0 := ⟨gt_2 (j := 32) rfl rfl, gt_1 (j := 8) rfl rfl, ⟨by decide +kernel, by decide +kernel⟩, by decide +kernel⟩
theorem mi_X6_init : Cond.instanceMethod yX6_init ∈ gAll := gt_2 (j := 31) rfl rfl
theorem mt_X5_init : gMt yX5_init cX5_init 1 none 0 := ⟨gt_2 (j := 38) rfl rfl, gt_1 (j := 9) rfl rfl, ⟨by decide +kernel, by decide +kernel⟩, by decide +kernel⟩
theorem mi_X5_init : Cond.instanceMethod yX5_init ∈ gAll := gt_2 (j := 37) rfl rfl
theorem mt_X4_init : gMt yX4_init cX4_init 2 none 1 := ⟨gt_2 (j := 44) rfl rfl, gt_1 (j := 10) rfl rfl, ⟨by decide +kernel, by decide +kernel⟩, by decide +kernel⟩
theorem mi_X4_init : Cond.instanceMethod yX4_init ∈ gAll := gt_2 (j := 43) rfl rfl
theorem mt_X7_init : gMt yX7_init cX7_init 1 none 0 := ⟨gt_2 (j := 185) rfl rfl, gt_1 (j := 11) rfl rfl, ⟨by decide +kernel, by decide +kernel⟩, by decide +kernel⟩
theorem mi_X7_init : Cond.instanceMethod yX7_init ∈ gAll := gt_2 (j := 184) rfl rfl
theorem mt_X0_init : gMt yX0_init cX0_init 1 none 0 := ⟨gt_2 (j := 216) rfl rfl, gt_1 (j := 12) rfl rfl, ⟨by decide +kernel, by decide +kernel⟩, by decide +kernel⟩
theorem mi_X0_init : Cond.instanceMethod yX0_init ∈ gAll := gt_2 (j := 215) rfl rfl
theorem mt_J4_init_da8c8 : gMt yJ4_init_da8c8 cJ4_init_da8c8 1 none 0 := ⟨gt_3 (j := 45) rfl rfl, gt_1 (j := 14) rfl rfl, ⟨by decide +kernel, by decide +kernel⟩, by decide +kernel⟩
theorem mi_J4_init_da8c8 : Cond.instanceMethod yJ4_init_da8c8 ∈ gAll := gt_3 (j := 44) rfl rfl
theorem mt_J5_init_d00df : gMt yJ5_init_d00df cJ5_init_d00df 2 none 1 := ⟨gt_3 (j := 48) rfl rfl, gt_1 (j := 13) rfl rfl, ⟨by decide +kernel, by decide +kernel⟩, by decide +kernel⟩
theorem mi_J5_init_d00df : Cond.instanceMethod yJ5_init_d00df ∈ gAll := gt_3 (j := 47) rfl rfl
theorem mt_J2_newBytesFor_77867 : gMt yJ2_newBytesFor_77867 cJ2_newBytesFor_77867 1 (some (.array (.byte))) 1 := ⟨gt_3 (j := 54) rfl rfl, gt_1 (j := 16) rfl rfl, ⟨by decide +kernel, by decide +kernel⟩, by decide +kernel⟩
theorem ms_J2_newBytesFor_77867 : Cond.static yJ2_newBytesFor_77867 ∈ gAll := gt_3 (j := 53) rfl rfl
theorem mt_J2_newBytesLength_0f7a4 : gMt yJ2_newBytesLength_0f7a4 cJ2_newBytesLength_0f7a4 1 (some (.int)) 1 := ⟨gt_3 (j := 57) rfl rfl, gt_1 (j := 16) rfl rfl, ⟨by decide +kernel, by decide +kernel⟩, by decide +kernel⟩
theorem ms_J2_newBytesLength_0f7a4 : Cond.static yJ2_newBytesLength_0f7a4 ∈ gAll := gt_3 (j := 56) rfl rfl
theorem mt_X11_feed : gMt yX11_feed cX11_feed 6 (some (.int)) 5 := ⟨gt_3 (j := 128) rfl rfl, gt_1 (j := 1) rfl rfl, ⟨by decide +kernel, by decide +kernel⟩, by decide +kernel⟩
theorem mi_X11_feed : Cond.instanceMethod yX11_feed ∈ gAll := gt_3 (j := 126) rfl rfl
theorem se_X11_feed : Cond.selects RX11 yX11_feed yX11_feed ∈ gAll := gt_3 (j := 127) rfl rfl
theorem mt_X9_add : gMt yX9_add cX9_add 3 none 1 := ⟨gt_3 (j := 132) rfl rfl, gt_1 (j := 2) rfl rfl, ⟨by decide +kernel, by decide +kernel⟩, by decide +kernel⟩
theorem mi_X9_add : Cond.instanceMethod yX9_add ∈ gAll := gt_3 (j := 130) rfl rfl
theorem se_X9_add : Cond.selects RX9 yX9_add yX9_add ∈ gAll := gt_3 (j := 131) rfl rfl
theorem mt_X11_commit : gMt yX11_commit cX11_commit 5 (some (.int)) 3 := ⟨gt_3 (j := 136) rfl rfl, gt_1 (j := 1) rfl rfl, ⟨by decide +kernel, by decide +kernel⟩, by decide +kernel⟩
theorem mi_X11_commit : Cond.instanceMethod yX11_commit ∈ gAll := gt_3 (j := 134) rfl rfl
theorem se_X11_commit : Cond.selects RX11 yX11_commit yX11_commit ∈ gAll := gt_3 (j := 135) rfl rfl
theorem mt_X11_isWho : gMt yX11_isWho cX11_isWho 1 (some (.boolean)) 1 := ⟨gt_3 (j := 139) rfl rfl, gt_1 (j := 1) rfl rfl, ⟨by decide +kernel, by decide +kernel⟩, by decide +kernel⟩
theorem ms_X11_isWho : Cond.static yX11_isWho ∈ gAll := gt_3 (j := 138) rfl rfl
theorem mt_X11_isHour : gMt yX11_isHour cX11_isHour 1 (some (.boolean)) 1 := ⟨gt_3 (j := 142) rfl rfl, gt_1 (j := 1) rfl rfl, ⟨by decide +kernel, by decide +kernel⟩, by decide +kernel⟩
theorem ms_X11_isHour : Cond.static yX11_isHour ∈ gAll := gt_3 (j := 141) rfl rfl
theorem mt_X2_read : gMt yX2_read cX2_read 4 (some (.int)) 3 := ⟨gt_3 (j := 146) rfl rfl, gt_1 (j := 7) rfl rfl, ⟨by decide +kernel, by decide +kernel⟩, by decide +kernel⟩
theorem mi_X2_read : Cond.instanceMethod yX2_read ∈ gAll := gt_3 (j := 144) rfl rfl
theorem se_X2_read : Cond.selects RX2 yX2_read yX2_read ∈ gAll := gt_3 (j := 145) rfl rfl
theorem mt_X2_begin : gMt yX2_begin cX2_begin 3 none 2 := ⟨gt_3 (j := 150) rfl rfl, gt_1 (j := 7) rfl rfl, ⟨by decide +kernel, by decide +kernel⟩, by decide +kernel⟩
theorem mi_X2_begin : Cond.instanceMethod yX2_begin ∈ gAll := gt_3 (j := 148) rfl rfl
theorem se_X2_begin : Cond.selects RX2 yX2_begin yX2_begin ∈ gAll := gt_3 (j := 149) rfl rfl
theorem mt_X9_begin : gMt yX9_begin cX9_begin 2 none 1 := ⟨gt_3 (j := 154) rfl rfl, gt_1 (j := 2) rfl rfl, ⟨by decide +kernel, by decide +kernel⟩, by decide +kernel⟩
theorem mi_X9_begin : Cond.instanceMethod yX9_begin ∈ gAll := gt_3 (j := 152) rfl rfl
theorem se_X9_begin : Cond.selects RX9 yX9_begin yX9_begin ∈ gAll := gt_3 (j := 153) rfl rfl
theorem mt_J9_min_7cf53 : gMt yJ9_min_7cf53 cJ9_min_7cf53 2 (some (.int)) 2 := ⟨gt_3 (j := 157) rfl rfl, gt_1 (j := 18) rfl rfl, ⟨by decide +kernel, by decide +kernel⟩, by decide +kernel⟩
theorem ms_J9_min_7cf53 : Cond.static yJ9_min_7cf53 ∈ gAll := gt_3 (j := 156) rfl rfl
theorem mt_X9_next : gMt yX9_next cX9_next 1 (some (.int)) 0 := ⟨gt_3 (j := 161) rfl rfl, gt_1 (j := 2) rfl rfl, ⟨by decide +kernel, by decide +kernel⟩, by decide +kernel⟩
theorem mi_X9_next : Cond.instanceMethod yX9_next ∈ gAll := gt_3 (j := 159) rfl rfl
theorem se_X9_next : Cond.selects RX9 yX9_next yX9_next ∈ gAll := gt_3 (j := 160) rfl rfl
theorem mt_X2_readParents : gMt yX2_readParents cX2_readParents 6 none 2 := ⟨gt_3 (j := 165) rfl rfl, gt_1 (j := 7) rfl rfl, ⟨by decide +kernel, by decide +kernel⟩, by decide +kernel⟩
theorem mi_X2_readParents : Cond.instanceMethod yX2_readParents ∈ gAll := gt_3 (j := 164) rfl rfl
theorem se_X2_readParents : Cond.selects RX2 yX2_readParents yX2_readParents ∈ gAll := gs_1 (j := 0) (y := yX2_readParents) rfl
theorem mt_X9_isDigit : gMt yX9_isDigit cX9_isDigit 1 (some (.boolean)) 0 := ⟨gt_3 (j := 169) rfl rfl, gt_1 (j := 2) rfl rfl, ⟨by decide +kernel, by decide +kernel⟩, by decide +kernel⟩
theorem mi_X9_isDigit : Cond.instanceMethod yX9_isDigit ∈ gAll := gt_3 (j := 167) rfl rfl
theorem se_X9_isDigit : Cond.selects RX9 yX9_isDigit yX9_isDigit ∈ gAll := gt_3 (j := 168) rfl rfl
theorem mt_X9_fail : gMt yX9_fail cX9_fail 3 none 2 := ⟨gt_3 (j := 173) rfl rfl, gt_1 (j := 2) rfl rfl, ⟨by decide +kernel, by decide +kernel⟩, by decide +kernel⟩
theorem mi_X9_fail : Cond.instanceMethod yX9_fail ∈ gAll := gt_3 (j := 171) rfl rfl
theorem se_X9_fail : Cond.selects RX9 yX9_fail yX9_fail ∈ gAll := gt_3 (j := 172) rfl rfl
theorem mt_X9_digits : gMt yX9_digits cX9_digits 5 (some (.int)) 2 := ⟨gt_3 (j := 177) rfl rfl, gt_1 (j := 2) rfl rfl, ⟨by decide +kernel, by decide +kernel⟩, by decide +kernel⟩
theorem mi_X9_digits : Cond.instanceMethod yX9_digits ∈ gAll := gt_3 (j := 175) rfl rfl
theorem se_X9_digits : Cond.selects RX9 yX9_digits yX9_digits ∈ gAll := gt_3 (j := 176) rfl rfl
theorem mt_X2_hasParent : gMt yX2_hasParent cX2_hasParent 3 (some (.boolean)) 1 := ⟨gt_3 (j := 184) rfl rfl, gt_1 (j := 7) rfl rfl, ⟨by decide +kernel, by decide +kernel⟩, by decide +kernel⟩
theorem mi_X2_hasParent : Cond.instanceMethod yX2_hasParent ∈ gAll := gt_3 (j := 182) rfl rfl
theorem se_X2_hasParent : Cond.selects RX2 yX2_hasParent yX2_hasParent ∈ gAll := gt_3 (j := 183) rfl rfl
theorem mt_X2_addParent : gMt yX2_addParent cX2_addParent 2 none 1 := ⟨gt_3 (j := 188) rfl rfl, gt_1 (j := 7) rfl rfl, ⟨by decide +kernel, by decide +kernel⟩, by decide +kernel⟩
theorem mi_X2_addParent : Cond.instanceMethod yX2_addParent ∈ gAll := gt_3 (j := 186) rfl rfl
theorem se_X2_addParent : Cond.selects RX2 yX2_addParent yX2_addParent ∈ gAll := gt_3 (j := 187) rfl rfl
theorem mt_X9_expect : gMt yX9_expect cX9_expect 2 (some (.boolean)) 1 := ⟨gt_3 (j := 192) rfl rfl, gt_1 (j := 2) rfl rfl, ⟨by decide +kernel, by decide +kernel⟩, by decide +kernel⟩
theorem mi_X9_expect : Cond.instanceMethod yX9_expect ∈ gAll := gt_3 (j := 190) rfl rfl
theorem se_X9_expect : Cond.selects RX9 yX9_expect yX9_expect ∈ gAll := gt_3 (j := 191) rfl rfl
theorem mt_X1_tree : gMt yX1_tree cX1_tree 2 (some (.object "CarriedHistory$Tree")) 1 := ⟨gt_3 (j := 196) rfl rfl, gt_1 (j := 4) rfl rfl, ⟨by decide +kernel, by decide +kernel⟩, by decide +kernel⟩
theorem mi_X1_tree : Cond.instanceMethod yX1_tree ∈ gAll := gt_3 (j := 194) rfl rfl
theorem se_X1_tree : Cond.selects RX1 yX1_tree yX1_tree ∈ gAll := gt_3 (j := 195) rfl rfl
theorem mt_X10_copy : gMt yX10_copy cX10_copy 2 none 1 := ⟨gt_3 (j := 200) rfl rfl, gt_1 (j := 6) rfl rfl, ⟨by decide +kernel, by decide +kernel⟩, by decide +kernel⟩
theorem mi_X10_copy : Cond.instanceMethod yX10_copy ∈ gAll := gt_3 (j := 198) rfl rfl
theorem se_X10_copy : Cond.selects RX10 yX10_copy yX10_copy ∈ gAll := gt_3 (j := 199) rfl rfl
theorem mt_X9_isAtEnd : gMt yX9_isAtEnd cX9_isAtEnd 1 (some (.boolean)) 0 := ⟨gt_3 (j := 208) rfl rfl, gt_1 (j := 2) rfl rfl, ⟨by decide +kernel, by decide +kernel⟩, by decide +kernel⟩
theorem mi_X9_isAtEnd : Cond.instanceMethod yX9_isAtEnd ∈ gAll := gt_3 (j := 206) rfl rfl
theorem se_X9_isAtEnd : Cond.selects RX9 yX9_isAtEnd yX9_isAtEnd ∈ gAll := gt_3 (j := 207) rfl rfl
theorem mt_X2_readEdits : gMt yX2_readEdits cX2_readEdits 4 none 2 := ⟨gt_3 (j := 212) rfl rfl, gt_1 (j := 7) rfl rfl, ⟨by decide +kernel, by decide +kernel⟩, by decide +kernel⟩
theorem mi_X2_readEdits : Cond.instanceMethod yX2_readEdits ∈ gAll := gt_3 (j := 211) rfl rfl
theorem se_X2_readEdits : Cond.selects RX2 yX2_readEdits yX2_readEdits ∈ gAll := gs_1 (j := 1) (y := yX2_readEdits) rfl
theorem mt_X2_readEdit : gMt yX2_readEdit cX2_readEdit 9 none 2 := ⟨gt_3 (j := 216) rfl rfl, gt_1 (j := 7) rfl rfl, ⟨by decide +kernel, by decide +kernel⟩, by decide +kernel⟩
theorem mi_X2_readEdit : Cond.instanceMethod yX2_readEdit ∈ gAll := gt_3 (j := 215) rfl rfl
theorem se_X2_readEdit : Cond.selects RX2 yX2_readEdit yX2_readEdit ∈ gAll := gs_1 (j := 2) (y := yX2_readEdit) rfl
theorem mt_X9_digit : gMt yX9_digit cX9_digit 4 (some (.int)) 2 := ⟨gt_3 (j := 220) rfl rfl, gt_1 (j := 2) rfl rfl, ⟨by decide +kernel, by decide +kernel⟩, by decide +kernel⟩
theorem mi_X9_digit : Cond.instanceMethod yX9_digit ∈ gAll := gt_3 (j := 218) rfl rfl
theorem se_X9_digit : Cond.selects RX9 yX9_digit yX9_digit ∈ gAll := gt_3 (j := 219) rfl rfl
theorem mt_X9_path : gMt yX9_path cX9_path 4 (some (.int)) 1 := ⟨gt_3 (j := 224) rfl rfl, gt_1 (j := 2) rfl rfl, ⟨by decide +kernel, by decide +kernel⟩, by decide +kernel⟩
theorem mi_X9_path : Cond.instanceMethod yX9_path ∈ gAll := gt_3 (j := 222) rfl rfl
theorem se_X9_path : Cond.selects RX9 yX9_path yX9_path ∈ gAll := gt_3 (j := 223) rfl rfl
theorem mt_X9_isLetter : gMt yX9_isLetter cX9_isLetter 1 (some (.boolean)) 0 := ⟨gt_3 (j := 228) rfl rfl, gt_1 (j := 2) rfl rfl, ⟨by decide +kernel, by decide +kernel⟩, by decide +kernel⟩
theorem mi_X9_isLetter : Cond.instanceMethod yX9_isLetter ∈ gAll := gt_3 (j := 226) rfl rfl
theorem se_X9_isLetter : Cond.selects RX9 yX9_isLetter yX9_isLetter ∈ gAll := gt_3 (j := 227) rfl rfl
theorem mt_X10_withName : gMt yX10_withName cX10_withName 3 (some (.int)) 3 := ⟨gt_3 (j := 231) rfl rfl, gt_1 (j := 6) rfl rfl, ⟨by decide +kernel, by decide +kernel⟩, by decide +kernel⟩
theorem ms_X10_withName : Cond.static yX10_withName ∈ gAll := gt_3 (j := 230) rfl rfl
theorem mt_X2_putFile : gMt yX2_putFile cX2_putFile 3 (some (.int)) 2 := ⟨gt_3 (j := 235) rfl rfl, gt_1 (j := 7) rfl rfl, ⟨by decide +kernel, by decide +kernel⟩, by decide +kernel⟩
theorem mi_X2_putFile : Cond.instanceMethod yX2_putFile ∈ gAll := gt_3 (j := 234) rfl rfl
theorem se_X2_putFile : Cond.selects RX2 yX2_putFile yX2_putFile ∈ gAll := gs_1 (j := 3) (y := yX2_putFile) rfl
theorem mt_X10_hasFolder : gMt yX10_hasFolder cX10_hasFolder 3 (some (.boolean)) 1 := ⟨gt_3 (j := 239) rfl rfl, gt_1 (j := 6) rfl rfl, ⟨by decide +kernel, by decide +kernel⟩, by decide +kernel⟩
theorem mi_X10_hasFolder : Cond.instanceMethod yX10_hasFolder ∈ gAll := gt_3 (j := 237) rfl rfl
theorem se_X10_hasFolder : Cond.selects RX10 yX10_hasFolder yX10_hasFolder ∈ gAll := gt_3 (j := 238) rfl rfl
theorem mt_X10_covers : gMt yX10_covers cX10_covers 4 (some (.boolean)) 2 := ⟨gt_4 (j := 2) rfl rfl, gt_1 (j := 6) rfl rfl, ⟨by decide +kernel, by decide +kernel⟩, by decide +kernel⟩
theorem ms_X10_covers : Cond.static yX10_covers ∈ gAll := gt_4 (j := 1) rfl rfl
theorem mt_X10_hasFileAhead : gMt yX10_hasFileAhead cX10_hasFileAhead 3 (some (.boolean)) 1 := ⟨gt_4 (j := 6) rfl rfl, gt_1 (j := 6) rfl rfl, ⟨by decide +kernel, by decide +kernel⟩, by decide +kernel⟩
theorem mi_X10_hasFileAhead : Cond.instanceMethod yX10_hasFileAhead ∈ gAll := gt_4 (j := 4) rfl rfl
theorem se_X10_hasFileAhead : Cond.selects RX10 yX10_hasFileAhead yX10_hasFileAhead ∈ gAll := gt_4 (j := 5) rfl rfl
theorem mt_X10_find : gMt yX10_find cX10_find 3 (some (.int)) 1 := ⟨gt_4 (j := 10) rfl rfl, gt_1 (j := 6) rfl rfl, ⟨by decide +kernel, by decide +kernel⟩, by decide +kernel⟩
theorem mi_X10_find : Cond.instanceMethod yX10_find ∈ gAll := gt_4 (j := 8) rfl rfl
theorem se_X10_find : Cond.selects RX10 yX10_find yX10_find ∈ gAll := gt_4 (j := 9) rfl rfl
theorem mt_X10_put : gMt yX10_put cX10_put 5 none 2 := ⟨gt_4 (j := 14) rfl rfl, gt_1 (j := 6) rfl rfl, ⟨by decide +kernel, by decide +kernel⟩, by decide +kernel⟩
theorem mi_X10_put : Cond.instanceMethod yX10_put ∈ gAll := gt_4 (j := 12) rfl rfl
theorem se_X10_put : Cond.selects RX10 yX10_put yX10_put ∈ gAll := gt_4 (j := 13) rfl rfl
theorem mt_X2_fetch : gMt yX2_fetch cX2_fetch 5 (some (.int)) 2 := ⟨gt_4 (j := 18) rfl rfl, gt_1 (j := 7) rfl rfl, ⟨by decide +kernel, by decide +kernel⟩, by decide +kernel⟩
theorem mi_X2_fetch : Cond.instanceMethod yX2_fetch ∈ gAll := gt_4 (j := 17) rfl rfl
theorem se_X2_fetch : Cond.selects RX2 yX2_fetch yX2_fetch ∈ gAll := gs_1 (j := 4) (y := yX2_fetch) rfl
theorem mt_X10_filesAt : gMt yX10_filesAt cX10_filesAt 4 (some (.int)) 1 := ⟨gt_4 (j := 22) rfl rfl, gt_1 (j := 6) rfl rfl, ⟨by decide +kernel, by decide +kernel⟩, by decide +kernel⟩
theorem mi_X10_filesAt : Cond.instanceMethod yX10_filesAt ∈ gAll := gt_4 (j := 20) rfl rfl
theorem se_X10_filesAt : Cond.selects RX10 yX10_filesAt yX10_filesAt ∈ gAll := gt_4 (j := 21) rfl rfl
theorem mt_X10_removeAt : gMt yX10_removeAt cX10_removeAt 4 none 1 := ⟨gt_4 (j := 26) rfl rfl, gt_1 (j := 6) rfl rfl, ⟨by decide +kernel, by decide +kernel⟩, by decide +kernel⟩
theorem mi_X10_removeAt : Cond.instanceMethod yX10_removeAt ∈ gAll := gt_4 (j := 24) rfl rfl
theorem se_X10_removeAt : Cond.selects RX10 yX10_removeAt yX10_removeAt ∈ gAll := gt_4 (j := 25) rfl rfl
theorem mt_X2_moveAll : gMt yX2_moveAll cX2_moveAll 4 (some (.int)) 2 := ⟨gt_4 (j := 31) rfl rfl, gt_1 (j := 7) rfl rfl, ⟨by decide +kernel, by decide +kernel⟩, by decide +kernel⟩
theorem mi_X2_moveAll : Cond.instanceMethod yX2_moveAll ∈ gAll := gt_4 (j := 30) rfl rfl
theorem se_X2_moveAll : Cond.selects RX2 yX2_moveAll yX2_moveAll ∈ gAll := gs_1 (j := 5) (y := yX2_moveAll) rfl
theorem mt_X10_moved : gMt yX10_moved cX10_moved 7 (some (.int)) 3 := ⟨gt_4 (j := 34) rfl rfl, gt_1 (j := 6) rfl rfl, ⟨by decide +kernel, by decide +kernel⟩, by decide +kernel⟩
theorem ms_X10_moved : Cond.static yX10_moved ∈ gAll := gt_4 (j := 33) rfl rfl
theorem mt_X10_namesIn : gMt yX10_namesIn cX10_namesIn 3 (some (.int)) 1 := ⟨gt_4 (j := 37) rfl rfl, gt_1 (j := 6) rfl rfl, ⟨by decide +kernel, by decide +kernel⟩, by decide +kernel⟩
theorem ms_X10_namesIn : Cond.static yX10_namesIn ∈ gAll := gt_4 (j := 36) rfl rfl
theorem mt_X2_readMessage : gMt yX2_readMessage cX2_readMessage 3 none 1 := ⟨gt_4 (j := 42) rfl rfl, gt_1 (j := 7) rfl rfl, ⟨by decide +kernel, by decide +kernel⟩, by decide +kernel⟩
theorem mi_X2_readMessage : Cond.instanceMethod yX2_readMessage ∈ gAll := gt_4 (j := 41) rfl rfl
theorem se_X2_readMessage : Cond.selects RX2 yX2_readMessage yX2_readMessage ∈ gAll := gs_1 (j := 6) (y := yX2_readMessage) rfl
theorem mt_X2_addToMessage : gMt yX2_addToMessage cX2_addToMessage 2 none 1 := ⟨gt_4 (j := 47) rfl rfl, gt_1 (j := 7) rfl rfl, ⟨by decide +kernel, by decide +kernel⟩, by decide +kernel⟩
theorem mi_X2_addToMessage : Cond.instanceMethod yX2_addToMessage ∈ gAll := gt_4 (j := 45) rfl rfl
theorem se_X2_addToMessage : Cond.selects RX2 yX2_addToMessage yX2_addToMessage ∈ gAll := gt_4 (j := 46) rfl rfl
theorem mt_X1_settle : gMt yX1_settle cX1_settle 4 (some (.int)) 1 := ⟨gt_4 (j := 51) rfl rfl, gt_1 (j := 4) rfl rfl, ⟨by decide +kernel, by decide +kernel⟩, by decide +kernel⟩
theorem mi_X1_settle : Cond.instanceMethod yX1_settle ∈ gAll := gt_4 (j := 49) rfl rfl
theorem se_X1_settle : Cond.selects RX1 yX1_settle yX1_settle ∈ gAll := gt_4 (j := 50) rfl rfl
theorem mt_X1_lowestWith : gMt yX1_lowestWith cX1_lowestWith 3 (some (.int)) 1 := ⟨gt_4 (j := 55) rfl rfl, gt_1 (j := 4) rfl rfl, ⟨by decide +kernel, by decide +kernel⟩, by decide +kernel⟩
theorem mi_X1_lowestWith : Cond.instanceMethod yX1_lowestWith ∈ gAll := gt_4 (j := 53) rfl rfl
theorem se_X1_lowestWith : Cond.selects RX1 yX1_lowestWith yX1_lowestWith ∈ gAll := gt_4 (j := 54) rfl rfl
theorem mt_X10_isLike : gMt yX10_isLike cX10_isLike 3 (some (.boolean)) 1 := ⟨gt_4 (j := 59) rfl rfl, gt_1 (j := 6) rfl rfl, ⟨by decide +kernel, by decide +kernel⟩, by decide +kernel⟩
theorem mi_X10_isLike : Cond.instanceMethod yX10_isLike ∈ gAll := gt_4 (j := 57) rfl rfl
theorem se_X10_isLike : Cond.selects RX10 yX10_isLike yX10_isLike ∈ gAll := gt_4 (j := 58) rfl rfl
theorem mt_X1_isAs : gMt yX1_isAs cX1_isAs 4 (some (.boolean)) 2 := ⟨gt_4 (j := 63) rfl rfl, gt_1 (j := 4) rfl rfl, ⟨by decide +kernel, by decide +kernel⟩, by decide +kernel⟩
theorem mi_X1_isAs : Cond.instanceMethod yX1_isAs ∈ gAll := gt_4 (j := 62) rfl rfl
theorem se_X1_isAs : Cond.selects RX1 yX1_isAs yX1_isAs ∈ gAll := gs_1 (j := 7) (y := yX1_isAs) rfl
theorem mt_X1_parent : gMt yX1_parent cX1_parent 3 (some (.int)) 2 := ⟨gt_4 (j := 67) rfl rfl, gt_1 (j := 4) rfl rfl, ⟨by decide +kernel, by decide +kernel⟩, by decide +kernel⟩
theorem mi_X1_parent : Cond.instanceMethod yX1_parent ∈ gAll := gt_4 (j := 65) rfl rfl
theorem se_X1_parent : Cond.selects RX1 yX1_parent yX1_parent ∈ gAll := gt_4 (j := 66) rfl rfl
theorem mt_X1_messageByte : gMt yX1_messageByte cX1_messageByte 3 (some (.int)) 2 := ⟨gt_4 (j := 71) rfl rfl, gt_1 (j := 4) rfl rfl, ⟨by decide +kernel, by decide +kernel⟩, by decide +kernel⟩
theorem mi_X1_messageByte : Cond.instanceMethod yX1_messageByte ∈ gAll := gt_4 (j := 69) rfl rfl
theorem se_X1_messageByte : Cond.selects RX1 yX1_messageByte yX1_messageByte ∈ gAll := gt_4 (j := 70) rfl rfl
theorem mt_X1_write : gMt yX1_write cX1_write 6 none 3 := ⟨gt_4 (j := 75) rfl rfl, gt_1 (j := 4) rfl rfl, ⟨by decide +kernel, by decide +kernel⟩, by decide +kernel⟩
theorem mi_X1_write : Cond.instanceMethod yX1_write ∈ gAll := gt_4 (j := 74) rfl rfl
theorem se_X1_write : Cond.selects RX1 yX1_write yX1_write ∈ gAll := gs_1 (j := 8) (y := yX1_write) rfl
theorem mt_X3_clear : gMt yX3_clear cX3_clear 2 none 1 := ⟨gt_4 (j := 81) rfl rfl, gt_1 (j := 5) rfl rfl, ⟨by decide +kernel, by decide +kernel⟩, by decide +kernel⟩
theorem mi_X3_clear : Cond.instanceMethod yX3_clear ∈ gAll := gt_4 (j := 79) rfl rfl
theorem se_X3_clear : Cond.selects RX3 yX3_clear yX3_clear ∈ gAll := gt_4 (j := 80) rfl rfl
theorem mt_J9_max_7cf53 : gMt yJ9_max_7cf53 cJ9_max_7cf53 2 (some (.int)) 2 := ⟨gt_4 (j := 84) rfl rfl, gt_1 (j := 18) rfl rfl, ⟨by decide +kernel, by decide +kernel⟩, by decide +kernel⟩
theorem ms_J9_max_7cf53 : Cond.static yJ9_max_7cf53 ∈ gAll := gt_4 (j := 83) rfl rfl
theorem mt_X3_putAll : gMt yX3_putAll cX3_putAll 4 none 3 := ⟨gt_4 (j := 88) rfl rfl, gt_1 (j := 5) rfl rfl, ⟨by decide +kernel, by decide +kernel⟩, by decide +kernel⟩
theorem mi_X3_putAll : Cond.instanceMethod yX3_putAll ∈ gAll := gt_4 (j := 86) rfl rfl
theorem se_X3_putAll : Cond.selects RX3 yX3_putAll yX3_putAll ∈ gAll := gt_4 (j := 87) rfl rfl
theorem mt_X3_put : gMt yX3_put cX3_put 3 none 2 := ⟨gt_4 (j := 92) rfl rfl, gt_1 (j := 5) rfl rfl, ⟨by decide +kernel, by decide +kernel⟩, by decide +kernel⟩
theorem mi_X3_put : Cond.instanceMethod yX3_put ∈ gAll := gt_4 (j := 90) rfl rfl
theorem se_X3_put : Cond.selects RX3 yX3_put yX3_put ∈ gAll := gt_4 (j := 91) rfl rfl
theorem mt_X11_plan : gMt yX11_plan cX11_plan 4 (some (.int)) 2 := ⟨gt_4 (j := 96) rfl rfl, gt_1 (j := 1) rfl rfl, ⟨by decide +kernel, by decide +kernel⟩, by decide +kernel⟩
theorem mi_X11_plan : Cond.instanceMethod yX11_plan ∈ gAll := gt_4 (j := 94) rfl rfl
theorem se_X11_plan : Cond.selects RX11 yX11_plan yX11_plan ∈ gAll := gt_4 (j := 95) rfl rfl
theorem mt_X11_isPlan : gMt yX11_isPlan cX11_isPlan 1 (some (.boolean)) 1 := ⟨gt_4 (j := 99) rfl rfl, gt_1 (j := 1) rfl rfl, ⟨by decide +kernel, by decide +kernel⟩, by decide +kernel⟩
theorem ms_X11_isPlan : Cond.static yX11_isPlan ∈ gAll := gt_4 (j := 98) rfl rfl
theorem mt_X6_read : gMt yX6_read cX6_read 6 (some (.int)) 3 := ⟨gt_4 (j := 103) rfl rfl, gt_1 (j := 8) rfl rfl, ⟨by decide +kernel, by decide +kernel⟩, by decide +kernel⟩
theorem mi_X6_read : Cond.instanceMethod yX6_read ∈ gAll := gt_4 (j := 101) rfl rfl
theorem se_X6_read : Cond.selects RX6 yX6_read yX6_read ∈ gAll := gt_4 (j := 102) rfl rfl
theorem mt_X5_begin : gMt yX5_begin cX5_begin 1 none 0 := ⟨gt_4 (j := 108) rfl rfl, gt_1 (j := 9) rfl rfl, ⟨by decide +kernel, by decide +kernel⟩, by decide +kernel⟩
theorem mi_X5_begin : Cond.instanceMethod yX5_begin ∈ gAll := gt_4 (j := 106) rfl rfl
theorem se_X5_begin : Cond.selects RX5 yX5_begin yX5_begin ∈ gAll := gt_4 (j := 107) rfl rfl
theorem mt_J7_fill_53178 : gMt yJ7_fill_53178 cJ7_fill_53178 4 none 2 := ⟨gt_4 (j := 111) rfl rfl, gt_1 (j := 20) rfl rfl, ⟨by decide +kernel, by decide +kernel⟩, by decide +kernel⟩
theorem ms_J7_fill_53178 : Cond.static yJ7_fill_53178 ∈ gAll := gt_4 (j := 110) rfl rfl
theorem mt_X6_readLine : gMt yX6_readLine cX6_readLine 5 none 1 := ⟨gt_4 (j := 115) rfl rfl, gt_1 (j := 8) rfl rfl, ⟨by decide +kernel, by decide +kernel⟩, by decide +kernel⟩
theorem mi_X6_readLine : Cond.instanceMethod yX6_readLine ∈ gAll := gt_4 (j := 114) rfl rfl
theorem se_X6_readLine : Cond.selects RX6 yX6_readLine yX6_readLine ∈ gAll := gs_1 (j := 9) (y := yX6_readLine) rfl
theorem mt_X6_readWord : gMt yX6_readWord cX6_readWord 3 (some (.int)) 1 := ⟨gt_4 (j := 119) rfl rfl, gt_1 (j := 8) rfl rfl, ⟨by decide +kernel, by decide +kernel⟩, by decide +kernel⟩
theorem mi_X6_readWord : Cond.instanceMethod yX6_readWord ∈ gAll := gt_4 (j := 118) rfl rfl
theorem se_X6_readWord : Cond.selects RX6 yX6_readWord yX6_readWord ∈ gAll := gs_1 (j := 10) (y := yX6_readWord) rfl
theorem mt_X6_spelling : gMt yX6_spelling cX6_spelling 1 (some (.object "java/lang/String")) 1 := ⟨gt_4 (j := 123) rfl rfl, gt_1 (j := 8) rfl rfl, ⟨by decide +kernel, by decide +kernel⟩, by decide +kernel⟩
theorem ms_X6_spelling : Cond.static yX6_spelling ∈ gAll := gt_4 (j := 122) rfl rfl
theorem mt_X6_isSpelt : gMt yX6_isSpelt cX6_isSpelt 4 (some (.boolean)) 2 := ⟨gt_4 (j := 142) rfl rfl, gt_1 (j := 8) rfl rfl, ⟨by decide +kernel, by decide +kernel⟩, by decide +kernel⟩
theorem mi_X6_isSpelt : Cond.instanceMethod yX6_isSpelt ∈ gAll := gt_4 (j := 141) rfl rfl
theorem se_X6_isSpelt : Cond.selects RX6 yX6_isSpelt yX6_isSpelt ∈ gAll := gs_1 (j := 11) (y := yX6_isSpelt) rfl
theorem mt_J0_length_8abf5 : gMt yJ0_length_8abf5 cJ0_length_8abf5 1 (some (.int)) 0 := ⟨gt_4 (j := 146) rfl rfl, gt_1 (j := 15) rfl rfl, ⟨by decide +kernel, by decide +kernel⟩, by decide +kernel⟩
theorem mi_J0_length_8abf5 : Cond.instanceMethod yJ0_length_8abf5 ∈ gAll := gt_4 (j := 144) rfl rfl
theorem se_J0_length_8abf5 : Cond.selects RJ0 yJ0_length_8abf5 yJ0_length_8abf5 ∈ gAll := gt_4 (j := 145) rfl rfl
theorem mt_J0_coder_7d493 : gMt yJ0_coder_7d493 cJ0_coder_7d493 1 (some (.byte)) 0 := ⟨gt_4 (j := 150) rfl rfl, gt_1 (j := 15) rfl rfl, ⟨by decide +kernel, by decide +kernel⟩, by decide +kernel⟩
theorem mi_J0_coder_7d493 : Cond.instanceMethod yJ0_coder_7d493 ∈ gAll := gt_4 (j := 148) rfl rfl
theorem se_J0_coder_7d493 : Cond.selects RJ0 yJ0_coder_7d493 yJ0_coder_7d493 ∈ gAll := gt_4 (j := 149) rfl rfl
theorem mt_X9_at : gMt yX9_at cX9_at 2 (some (.int)) 1 := ⟨gt_4 (j := 155) rfl rfl, gt_1 (j := 2) rfl rfl, ⟨by decide +kernel, by decide +kernel⟩, by decide +kernel⟩
theorem mi_X9_at : Cond.instanceMethod yX9_at ∈ gAll := gt_4 (j := 153) rfl rfl
theorem se_X9_at : Cond.selects RX9 yX9_at yX9_at ∈ gAll := gt_4 (j := 154) rfl rfl
theorem mt_J0_charAt_5068e : gMt yJ0_charAt_5068e cJ0_charAt_5068e 2 (some (.char)) 1 := ⟨gt_4 (j := 159) rfl rfl, gt_1 (j := 15) rfl rfl, ⟨by decide +kernel, by decide +kernel⟩, by decide +kernel⟩
theorem mi_J0_charAt_5068e : Cond.instanceMethod yJ0_charAt_5068e ∈ gAll := gt_4 (j := 157) rfl rfl
theorem se_J0_charAt_5068e : Cond.selects RJ0 yJ0_charAt_5068e yJ0_charAt_5068e ∈ gAll := gt_4 (j := 158) rfl rfl
theorem mt_J0_isLatin1_aae02 : gMt yJ0_isLatin1_aae02 cJ0_isLatin1_aae02 1 (some (.boolean)) 0 := ⟨gt_4 (j := 163) rfl rfl, gt_1 (j := 15) rfl rfl, ⟨by decide +kernel, by decide +kernel⟩, by decide +kernel⟩
theorem mi_J0_isLatin1_aae02 : Cond.instanceMethod yJ0_isLatin1_aae02 ∈ gAll := gt_4 (j := 161) rfl rfl
theorem se_J0_isLatin1_aae02 : Cond.selects RJ0 yJ0_isLatin1_aae02 yJ0_isLatin1_aae02 ∈ gAll := gt_4 (j := 162) rfl rfl
theorem mt_J1_charAt_3b067 : gMt yJ1_charAt_3b067 cJ1_charAt_3b067 2 (some (.char)) 2 := ⟨gt_4 (j := 166) rfl rfl, gt_1 (j := 21) rfl rfl, ⟨by decide +kernel, by decide +kernel⟩, by decide +kernel⟩
theorem ms_J1_charAt_3b067 : Cond.static yJ1_charAt_3b067 ∈ gAll := gt_4 (j := 165) rfl rfl
theorem mt_J0_checkIndex_df160 : gMt yJ0_checkIndex_df160 cJ0_checkIndex_df160 2 none 2 := ⟨gt_4 (j := 169) rfl rfl, gt_1 (j := 15) rfl rfl, ⟨by decide +kernel, by decide +kernel⟩, by decide +kernel⟩
theorem ms_J0_checkIndex_df160 : Cond.static yJ0_checkIndex_df160 ∈ gAll := gt_4 (j := 168) rfl rfl
theorem mt_J3_checkIndex_8e157 : gMt yJ3_checkIndex_8e157 cJ3_checkIndex_8e157 3 (some (.int)) 3 := ⟨gt_4 (j := 174) rfl rfl, gt_1 (j := 22) rfl rfl, ⟨by decide +kernel, by decide +kernel⟩, by decide +kernel⟩
theorem ms_J3_checkIndex_8e157 : Cond.static yJ3_checkIndex_8e157 ∈ gAll := gt_4 (j := 173) rfl rfl
theorem mt_J2_charAt_3b067 : gMt yJ2_charAt_3b067 cJ2_charAt_3b067 2 (some (.char)) 2 := ⟨gt_4 (j := 177) rfl rfl, gt_1 (j := 16) rfl rfl, ⟨by decide +kernel, by decide +kernel⟩, by decide +kernel⟩
theorem ms_J2_charAt_3b067 : Cond.static yJ2_charAt_3b067 ∈ gAll := gt_4 (j := 176) rfl rfl
theorem mt_J2_checkIndex_2214a : gMt yJ2_checkIndex_2214a cJ2_checkIndex_2214a 2 none 2 := ⟨gt_4 (j := 180) rfl rfl, gt_1 (j := 16) rfl rfl, ⟨by decide +kernel, by decide +kernel⟩, by decide +kernel⟩
theorem ms_J2_checkIndex_2214a : Cond.static yJ2_checkIndex_2214a ∈ gAll := gt_4 (j := 179) rfl rfl
theorem mt_J2_length_9d52b : gMt yJ2_length_9d52b cJ2_length_9d52b 1 (some (.int)) 1 := ⟨gt_4 (j := 183) rfl rfl, gt_1 (j := 16) rfl rfl, ⟨by decide +kernel, by decide +kernel⟩, by decide +kernel⟩
theorem ms_J2_length_9d52b : Cond.static yJ2_length_9d52b ∈ gAll := gt_4 (j := 182) rfl rfl
theorem mt_J2_getChar_3b067 : gMt yJ2_getChar_3b067 cJ2_getChar_3b067 2 (some (.char)) 2 := ⟨gt_4 (j := 187) rfl rfl, gt_1 (j := 16) rfl rfl, ⟨by decide +kernel, by decide +kernel⟩, by decide +kernel⟩
theorem ms_J2_getChar_3b067 : Cond.static yJ2_getChar_3b067 ∈ gAll := gt_4 (j := 186) rfl rfl
theorem mt_X6_isTooMany : gMt yX6_isTooMany cX6_isTooMany 3 (some (.boolean)) 1 := ⟨gt_4 (j := 198) rfl rfl, gt_1 (j := 8) rfl rfl, ⟨by decide +kernel, by decide +kernel⟩, by decide +kernel⟩
theorem mi_X6_isTooMany : Cond.instanceMethod yX6_isTooMany ∈ gAll := gt_4 (j := 197) rfl rfl
theorem se_X6_isTooMany : Cond.selects RX6 yX6_isTooMany yX6_isTooMany ∈ gAll := gs_1 (j := 12) (y := yX6_isTooMany) rfl
theorem mt_X6_pairsOf : gMt yX6_pairsOf cX6_pairsOf 2 (some (.object "CarriedHistory$Pairs")) 1 := ⟨gt_4 (j := 202) rfl rfl, gt_1 (j := 8) rfl rfl, ⟨by decide +kernel, by decide +kernel⟩, by decide +kernel⟩
theorem mi_X6_pairsOf : Cond.instanceMethod yX6_pairsOf ∈ gAll := gt_4 (j := 201) rfl rfl
theorem se_X6_pairsOf : Cond.selects RX6 yX6_pairsOf yX6_pairsOf ∈ gAll := gs_1 (j := 13) (y := yX6_pairsOf) rfl
theorem mt_X4_add : gMt yX4_add cX4_add 3 none 2 := ⟨gt_4 (j := 208) rfl rfl, gt_1 (j := 10) rfl rfl, ⟨by decide +kernel, by decide +kernel⟩, by decide +kernel⟩
theorem mi_X4_add : Cond.instanceMethod yX4_add ∈ gAll := gt_4 (j := 206) rfl rfl
theorem se_X4_add : Cond.selects RX4 yX4_add yX4_add ∈ gAll := gt_4 (j := 207) rfl rfl
theorem mt_X6_readPair : gMt yX6_readPair cX6_readPair 5 none 2 := ⟨gt_4 (j := 212) rfl rfl, gt_1 (j := 8) rfl rfl, ⟨by decide +kernel, by decide +kernel⟩, by decide +kernel⟩
theorem mi_X6_readPair : Cond.instanceMethod yX6_readPair ∈ gAll := gt_4 (j := 211) rfl rfl
theorem se_X6_readPair : Cond.selects RX6 yX6_readPair yX6_readPair ∈ gAll := gs_1 (j := 14) (y := yX6_readPair) rfl
theorem mt_X6_readCommit : gMt yX6_readCommit cX6_readCommit 5 (some (.int)) 2 := ⟨gt_4 (j := 216) rfl rfl, gt_1 (j := 8) rfl rfl, ⟨by decide +kernel, by decide +kernel⟩, by decide +kernel⟩
theorem mi_X6_readCommit : Cond.instanceMethod yX6_readCommit ∈ gAll := gt_4 (j := 215) rfl rfl
theorem se_X6_readCommit : Cond.selects RX6 yX6_readCommit yX6_readCommit ∈ gAll := gs_1 (j := 15) (y := yX6_readCommit) rfl
theorem mt_X6_readSide : gMt yX6_readSide cX6_readSide 3 (some (.int)) 2 := ⟨gt_4 (j := 221) rfl rfl, gt_1 (j := 8) rfl rfl, ⟨by decide +kernel, by decide +kernel⟩, by decide +kernel⟩
theorem mi_X6_readSide : Cond.instanceMethod yX6_readSide ∈ gAll := gt_4 (j := 220) rfl rfl
theorem se_X6_readSide : Cond.selects RX6 yX6_readSide yX6_readSide ∈ gAll := gs_2 (j := 0) (y := yX6_readSide) rfl
theorem mt_X9_word : gMt yX9_word cX9_word 3 (some (.int)) 0 := ⟨gt_4 (j := 226) rfl rfl, gt_1 (j := 2) rfl rfl, ⟨by decide +kernel, by decide +kernel⟩, by decide +kernel⟩
theorem mi_X9_word : Cond.instanceMethod yX9_word ∈ gAll := gt_4 (j := 224) rfl rfl
theorem se_X9_word : Cond.selects RX9 yX9_word yX9_word ∈ gAll := gt_4 (j := 225) rfl rfl
theorem mt_X4_find : gMt yX4_find cX4_find 3 (some (.int)) 1 := ⟨gt_4 (j := 231) rfl rfl, gt_1 (j := 10) rfl rfl, ⟨by decide +kernel, by decide +kernel⟩, by decide +kernel⟩
theorem mi_X4_find : Cond.instanceMethod yX4_find ∈ gAll := gt_4 (j := 229) rfl rfl
theorem se_X4_find : Cond.selects RX4 yX4_find yX4_find ∈ gAll := gt_4 (j := 230) rfl rfl
theorem mt_X6_readSetting : gMt yX6_readSetting cX6_readSetting 4 none 2 := ⟨gt_4 (j := 235) rfl rfl, gt_1 (j := 8) rfl rfl, ⟨by decide +kernel, by decide +kernel⟩, by decide +kernel⟩
theorem mi_X6_readSetting : Cond.instanceMethod yX6_readSetting ∈ gAll := gt_4 (j := 234) rfl rfl
theorem se_X6_readSetting : Cond.selects RX6 yX6_readSetting yX6_readSetting ∈ gAll := gs_2 (j := 1) (y := yX6_readSetting) rfl
theorem mt_X6_readTo : gMt yX6_readTo cX6_readTo 3 none 1 := ⟨gt_4 (j := 239) rfl rfl, gt_1 (j := 8) rfl rfl, ⟨by decide +kernel, by decide +kernel⟩, by decide +kernel⟩
theorem mi_X6_readTo : Cond.instanceMethod yX6_readTo ∈ gAll := gt_4 (j := 238) rfl rfl
theorem se_X6_readTo : Cond.selects RX6 yX6_readTo yX6_readTo ∈ gAll := gs_2 (j := 2) (y := yX6_readTo) rfl
theorem mt_X5_copy : gMt yX5_copy cX5_copy 2 none 1 := ⟨gt_5 (j := 4) rfl rfl, gt_1 (j := 9) rfl rfl, ⟨by decide +kernel, by decide +kernel⟩, by decide +kernel⟩
theorem mi_X5_copy : Cond.instanceMethod yX5_copy ∈ gAll := gt_5 (j := 2) rfl rfl
theorem se_X5_copy : Cond.selects RX5 yX5_copy yX5_copy ∈ gAll := gt_5 (j := 3) rfl rfl
theorem mt_X4_copy : gMt yX4_copy cX4_copy 2 none 1 := ⟨gt_5 (j := 8) rfl rfl, gt_1 (j := 10) rfl rfl, ⟨by decide +kernel, by decide +kernel⟩, by decide +kernel⟩
theorem mi_X4_copy : Cond.instanceMethod yX4_copy ∈ gAll := gt_5 (j := 6) rfl rfl
theorem se_X4_copy : Cond.selects RX4 yX4_copy yX4_copy ∈ gAll := gt_5 (j := 7) rfl rfl
theorem mt_X5_takeMap : gMt yX5_takeMap cX5_takeMap 3 none 2 := ⟨gt_5 (j := 14) rfl rfl, gt_1 (j := 9) rfl rfl, ⟨by decide +kernel, by decide +kernel⟩, by decide +kernel⟩
theorem mi_X5_takeMap : Cond.instanceMethod yX5_takeMap ∈ gAll := gt_5 (j := 12) rfl rfl
theorem se_X5_takeMap : Cond.selects RX5 yX5_takeMap yX5_takeMap ∈ gAll := gt_5 (j := 13) rfl rfl
theorem mt_X11_check : gMt yX11_check cX11_check 4 (some (.int)) 1 := ⟨gt_5 (j := 19) rfl rfl, gt_1 (j := 1) rfl rfl, ⟨by decide +kernel, by decide +kernel⟩, by decide +kernel⟩
theorem mi_X11_check : Cond.instanceMethod yX11_check ∈ gAll := gt_5 (j := 17) rfl rfl
theorem se_X11_check : Cond.selects RX11 yX11_check yX11_check ∈ gAll := gt_5 (j := 18) rfl rfl
theorem mt_X1_has : gMt yX1_has cX1_has 2 (some (.boolean)) 1 := ⟨gt_5 (j := 23) rfl rfl, gt_1 (j := 4) rfl rfl, ⟨by decide +kernel, by decide +kernel⟩, by decide +kernel⟩
theorem mi_X1_has : Cond.instanceMethod yX1_has ∈ gAll := gt_5 (j := 21) rfl rfl
theorem se_X1_has : Cond.selects RX1 yX1_has yX1_has ∈ gAll := gt_5 (j := 22) rfl rfl
theorem mt_X11_ref : gMt yX11_ref cX11_ref 7 (some (.int)) 4 := ⟨gt_5 (j := 29) rfl rfl, gt_1 (j := 1) rfl rfl, ⟨by decide +kernel, by decide +kernel⟩, by decide +kernel⟩
theorem mi_X11_ref : Cond.instanceMethod yX11_ref ∈ gAll := gt_5 (j := 27) rfl rfl
theorem se_X11_ref : Cond.selects RX11 yX11_ref yX11_ref ∈ gAll := gt_5 (j := 28) rfl rfl
theorem mt_X11_isHistory : gMt yX11_isHistory cX11_isHistory 1 (some (.boolean)) 1 := ⟨gt_5 (j := 32) rfl rfl, gt_1 (j := 1) rfl rfl, ⟨by decide +kernel, by decide +kernel⟩, by decide +kernel⟩
theorem ms_X11_isHistory : Cond.static yX11_isHistory ∈ gAll := gt_5 (j := 31) rfl rfl
theorem mt_X11_isLetter : gMt yX11_isLetter cX11_isLetter 1 (some (.boolean)) 1 := ⟨gt_5 (j := 35) rfl rfl, gt_1 (j := 1) rfl rfl, ⟨by decide +kernel, by decide +kernel⟩, by decide +kernel⟩
theorem ms_X11_isLetter : Cond.static yX11_isLetter ∈ gAll := gt_5 (j := 34) rfl rfl
theorem mt_X7_find : gMt yX7_find cX7_find 4 (some (.int)) 2 := ⟨gt_5 (j := 39) rfl rfl, gt_1 (j := 11) rfl rfl, ⟨by decide +kernel, by decide +kernel⟩, by decide +kernel⟩
theorem mi_X7_find : Cond.instanceMethod yX7_find ∈ gAll := gt_5 (j := 37) rfl rfl
theorem se_X7_find : Cond.selects RX7 yX7_find yX7_find ∈ gAll := gt_5 (j := 38) rfl rfl
theorem mt_X7_remove : gMt yX7_remove cX7_remove 5 none 2 := ⟨gt_5 (j := 43) rfl rfl, gt_1 (j := 11) rfl rfl, ⟨by decide +kernel, by decide +kernel⟩, by decide +kernel⟩
theorem mi_X7_remove : Cond.instanceMethod yX7_remove ∈ gAll := gt_5 (j := 41) rfl rfl
theorem se_X7_remove : Cond.selects RX7 yX7_remove yX7_remove ∈ gAll := gt_5 (j := 42) rfl rfl
theorem mt_X7_take : gMt yX7_take cX7_take 4 none 3 := ⟨gt_5 (j := 48) rfl rfl, gt_1 (j := 11) rfl rfl, ⟨by decide +kernel, by decide +kernel⟩, by decide +kernel⟩
theorem mi_X7_take : Cond.instanceMethod yX7_take ∈ gAll := gt_5 (j := 47) rfl rfl
theorem se_X7_take : Cond.selects RX7 yX7_take yX7_take ∈ gAll := gs_2 (j := 3) (y := yX7_take) rfl
theorem mt_X7_lay : gMt yX7_lay cX7_lay 6 none 4 := ⟨gt_5 (j := 52) rfl rfl, gt_1 (j := 11) rfl rfl, ⟨by decide +kernel, by decide +kernel⟩, by decide +kernel⟩
theorem mi_X7_lay : Cond.instanceMethod yX7_lay ∈ gAll := gt_5 (j := 50) rfl rfl
theorem se_X7_lay : Cond.selects RX7 yX7_lay yX7_lay ∈ gAll := gt_5 (j := 51) rfl rfl
theorem mt_X7_makeRoom : gMt yX7_makeRoom cX7_makeRoom 3 (some (.int)) 1 := ⟨gt_5 (j := 56) rfl rfl, gt_1 (j := 11) rfl rfl, ⟨by decide +kernel, by decide +kernel⟩, by decide +kernel⟩
theorem mi_X7_makeRoom : Cond.instanceMethod yX7_makeRoom ∈ gAll := gt_5 (j := 55) rfl rfl
theorem se_X7_makeRoom : Cond.selects RX7 yX7_makeRoom yX7_makeRoom ∈ gAll := gs_2 (j := 4) (y := yX7_makeRoom) rfl
theorem mt_X11_run : gMt yX11_run cX11_run 2 (some (.int)) 1 := ⟨gt_5 (j := 60) rfl rfl, gt_1 (j := 1) rfl rfl, ⟨by decide +kernel, by decide +kernel⟩, by decide +kernel⟩
theorem mi_X11_run : Cond.instanceMethod yX11_run ∈ gAll := gt_5 (j := 58) rfl rfl
theorem se_X11_run : Cond.selects RX11 yX11_run yX11_run ∈ gAll := gt_5 (j := 59) rfl rfl
theorem mt_X11_carry : gMt yX11_carry cX11_carry 7 (some (.int)) 2 := ⟨gt_5 (j := 64) rfl rfl, gt_1 (j := 1) rfl rfl, ⟨by decide +kernel, by decide +kernel⟩, by decide +kernel⟩
theorem mi_X11_carry : Cond.instanceMethod yX11_carry ∈ gAll := gt_5 (j := 63) rfl rfl
theorem se_X11_carry : Cond.selects RX11 yX11_carry yX11_carry ∈ gAll := gs_2 (j := 5) (y := yX11_carry) rfl
theorem mt_X8_begin : gMt yX8_begin cX8_begin 4 none 3 := ⟨gt_5 (j := 68) rfl rfl, gt_1 (j := 3) rfl rfl, ⟨by decide +kernel, by decide +kernel⟩, by decide +kernel⟩
theorem mi_X8_begin : Cond.instanceMethod yX8_begin ∈ gAll := gt_5 (j := 66) rfl rfl
theorem se_X8_begin : Cond.selects RX8 yX8_begin yX8_begin ∈ gAll := gt_5 (j := 67) rfl rfl
theorem mt_X8_markPlan : gMt yX8_markPlan cX8_markPlan 7 none 2 := ⟨gt_5 (j := 72) rfl rfl, gt_1 (j := 3) rfl rfl, ⟨by decide +kernel, by decide +kernel⟩, by decide +kernel⟩
theorem mi_X8_markPlan : Cond.instanceMethod yX8_markPlan ∈ gAll := gt_5 (j := 70) rfl rfl
theorem se_X8_markPlan : Cond.selects RX8 yX8_markPlan yX8_markPlan ∈ gAll := gt_5 (j := 71) rfl rfl
theorem mt_X5_foreCount : gMt yX5_foreCount cX5_foreCount 4 (some (.int)) 2 := ⟨gt_5 (j := 77) rfl rfl, gt_1 (j := 9) rfl rfl, ⟨by decide +kernel, by decide +kernel⟩, by decide +kernel⟩
theorem mi_X5_foreCount : Cond.instanceMethod yX5_foreCount ∈ gAll := gt_5 (j := 75) rfl rfl
theorem se_X5_foreCount : Cond.selects RX5 yX5_foreCount yX5_foreCount ∈ gAll := gt_5 (j := 76) rfl rfl
theorem mt_X5_foreAt : gMt yX5_foreAt cX5_foreAt 5 (some (.int)) 3 := ⟨gt_5 (j := 82) rfl rfl, gt_1 (j := 9) rfl rfl, ⟨by decide +kernel, by decide +kernel⟩, by decide +kernel⟩
theorem mi_X5_foreAt : Cond.instanceMethod yX5_foreAt ∈ gAll := gt_5 (j := 80) rfl rfl
theorem se_X5_foreAt : Cond.selects RX5 yX5_foreAt yX5_foreAt ∈ gAll := gt_5 (j := 81) rfl rfl
theorem mt_X8_isOfPlan : gMt yX8_isOfPlan cX8_isOfPlan 2 (some (.boolean)) 1 := ⟨gt_5 (j := 91) rfl rfl, gt_1 (j := 3) rfl rfl, ⟨by decide +kernel, by decide +kernel⟩, by decide +kernel⟩
theorem mi_X8_isOfPlan : Cond.instanceMethod yX8_isOfPlan ∈ gAll := gt_5 (j := 89) rfl rfl
theorem se_X8_isOfPlan : Cond.selects RX8 yX8_isOfPlan yX8_isOfPlan ∈ gAll := gt_5 (j := 90) rfl rfl
theorem mt_X3_has : gMt yX3_has cX3_has 3 (some (.boolean)) 2 := ⟨gt_5 (j := 95) rfl rfl, gt_1 (j := 5) rfl rfl, ⟨by decide +kernel, by decide +kernel⟩, by decide +kernel⟩
theorem mi_X3_has : Cond.instanceMethod yX3_has ∈ gAll := gt_5 (j := 93) rfl rfl
theorem se_X3_has : Cond.selects RX3 yX3_has yX3_has ∈ gAll := gt_5 (j := 94) rfl rfl
theorem mt_X8_rewrite : gMt yX8_rewrite cX8_rewrite 6 (some (.boolean)) 2 := ⟨gt_5 (j := 99) rfl rfl, gt_1 (j := 3) rfl rfl, ⟨by decide +kernel, by decide +kernel⟩, by decide +kernel⟩
theorem mi_X8_rewrite : Cond.instanceMethod yX8_rewrite ∈ gAll := gt_5 (j := 97) rfl rfl
theorem se_X8_rewrite : Cond.selects RX8 yX8_rewrite yX8_rewrite ∈ gAll := gt_5 (j := 98) rfl rfl
theorem mt_X4_exchanged : gMt yX4_exchanged cX4_exchanged 3 (some (.int)) 1 := ⟨gt_5 (j := 103) rfl rfl, gt_1 (j := 10) rfl rfl, ⟨by decide +kernel, by decide +kernel⟩, by decide +kernel⟩
theorem mi_X4_exchanged : Cond.instanceMethod yX4_exchanged ∈ gAll := gt_5 (j := 101) rfl rfl
theorem se_X4_exchanged : Cond.selects RX4 yX4_exchanged yX4_exchanged ∈ gAll := gt_5 (j := 102) rfl rfl
theorem mt_X8_carryTree : gMt yX8_carryTree cX8_carryTree 8 none 2 := ⟨gt_5 (j := 110) rfl rfl, gt_1 (j := 3) rfl rfl, ⟨by decide +kernel, by decide +kernel⟩, by decide +kernel⟩
theorem mi_X8_carryTree : Cond.instanceMethod yX8_carryTree ∈ gAll := gt_5 (j := 108) rfl rfl
theorem se_X8_carryTree : Cond.selects RX8 yX8_carryTree yX8_carryTree ∈ gAll := gt_5 (j := 109) rfl rfl
theorem mt_X4_cover : gMt yX4_cover cX4_cover 3 (some (.boolean)) 1 := ⟨gt_5 (j := 114) rfl rfl, gt_1 (j := 10) rfl rfl, ⟨by decide +kernel, by decide +kernel⟩, by decide +kernel⟩
theorem mi_X4_cover : Cond.instanceMethod yX4_cover ∈ gAll := gt_5 (j := 112) rfl rfl
theorem se_X4_cover : Cond.selects RX4 yX4_cover yX4_cover ∈ gAll := gt_5 (j := 113) rfl rfl
theorem mt_X0_digitsIn : gMt yX0_digitsIn cX0_digitsIn 3 (some (.int)) 1 := ⟨gt_5 (j := 118) rfl rfl, gt_1 (j := 12) rfl rfl, ⟨by decide +kernel, by decide +kernel⟩, by decide +kernel⟩
theorem ms_X0_digitsIn : Cond.static yX0_digitsIn ∈ gAll := gt_5 (j := 117) rfl rfl
theorem mt_X5_placeOf : gMt yX5_placeOf cX5_placeOf 6 (some (.int)) 1 := ⟨gt_5 (j := 122) rfl rfl, gt_1 (j := 9) rfl rfl, ⟨by decide +kernel, by decide +kernel⟩, by decide +kernel⟩
theorem mi_X5_placeOf : Cond.instanceMethod yX5_placeOf ∈ gAll := gt_5 (j := 120) rfl rfl
theorem se_X5_placeOf : Cond.selects RX5 yX5_placeOf yX5_placeOf ∈ gAll := gt_5 (j := 121) rfl rfl
theorem mt_X10_isTaken : gMt yX10_isTaken cX10_isTaken 3 (some (.boolean)) 1 := ⟨gt_5 (j := 129) rfl rfl, gt_1 (j := 6) rfl rfl, ⟨by decide +kernel, by decide +kernel⟩, by decide +kernel⟩
theorem mi_X10_isTaken : Cond.instanceMethod yX10_isTaken ∈ gAll := gt_5 (j := 127) rfl rfl
theorem se_X10_isTaken : Cond.selects RX10 yX10_isTaken yX10_isTaken ∈ gAll := gt_5 (j := 128) rfl rfl
theorem mt_X8_gatherParents : gMt yX8_gatherParents cX8_gatherParents 7 none 2 := ⟨gt_5 (j := 134) rfl rfl, gt_1 (j := 3) rfl rfl, ⟨by decide +kernel, by decide +kernel⟩, by decide +kernel⟩
theorem mi_X8_gatherParents : Cond.instanceMethod yX8_gatherParents ∈ gAll := gt_5 (j := 133) rfl rfl
theorem se_X8_gatherParents : Cond.selects RX8 yX8_gatherParents yX8_gatherParents ∈ gAll := gs_2 (j := 6) (y := yX8_gatherParents) rfl
theorem mt_X8_thinParents : gMt yX8_thinParents cX8_thinParents 4 none 1 := ⟨gt_5 (j := 140) rfl rfl, gt_1 (j := 3) rfl rfl, ⟨by decide +kernel, by decide +kernel⟩, by decide +kernel⟩
theorem mi_X8_thinParents : Cond.instanceMethod yX8_thinParents ∈ gAll := gt_5 (j := 139) rfl rfl
theorem se_X8_thinParents : Cond.selects RX8 yX8_thinParents yX8_thinParents ∈ gAll := gs_2 (j := 7) (y := yX8_thinParents) rfl
theorem mt_X8_isNeedless : gMt yX8_isNeedless cX8_isNeedless 5 (some (.boolean)) 2 := ⟨gt_5 (j := 144) rfl rfl, gt_1 (j := 3) rfl rfl, ⟨by decide +kernel, by decide +kernel⟩, by decide +kernel⟩
theorem mi_X8_isNeedless : Cond.instanceMethod yX8_isNeedless ∈ gAll := gt_5 (j := 143) rfl rfl
theorem se_X8_isNeedless : Cond.selects RX8 yX8_isNeedless yX8_isNeedless ∈ gAll := gs_2 (j := 8) (y := yX8_isNeedless) rfl
theorem mt_X1_isAbove : gMt yX1_isAbove cX1_isAbove 3 (some (.boolean)) 2 := ⟨gt_5 (j := 148) rfl rfl, gt_1 (j := 4) rfl rfl, ⟨by decide +kernel, by decide +kernel⟩, by decide +kernel⟩
theorem mi_X1_isAbove : Cond.instanceMethod yX1_isAbove ∈ gAll := gt_5 (j := 146) rfl rfl
theorem se_X1_isAbove : Cond.selects RX1 yX1_isAbove yX1_isAbove ∈ gAll := gt_5 (j := 147) rfl rfl
theorem mt_X8_bringsNothing : gMt yX8_bringsNothing cX8_bringsNothing 1 (some (.boolean)) 0 := ⟨gt_5 (j := 154) rfl rfl, gt_1 (j := 3) rfl rfl, ⟨by decide +kernel, by decide +kernel⟩, by decide +kernel⟩
theorem mi_X8_bringsNothing : Cond.instanceMethod yX8_bringsNothing ∈ gAll := gt_5 (j := 153) rfl rfl
theorem se_X8_bringsNothing : Cond.selects RX8 yX8_bringsNothing yX8_bringsNothing ∈ gAll := gs_2 (j := 9) (y := yX8_bringsNothing) rfl
theorem mt_X8_isEmptyByItself : gMt yX8_isEmptyByItself cX8_isEmptyByItself 4 (some (.boolean)) 2 := ⟨gt_5 (j := 158) rfl rfl, gt_1 (j := 3) rfl rfl, ⟨by decide +kernel, by decide +kernel⟩, by decide +kernel⟩
theorem mi_X8_isEmptyByItself : Cond.instanceMethod yX8_isEmptyByItself ∈ gAll := gt_5 (j := 157) rfl rfl
theorem se_X8_isEmptyByItself : Cond.selects RX8 yX8_isEmptyByItself yX8_isEmptyByItself ∈ gAll := gs_2 (j := 10) (y := yX8_isEmptyByItself) rfl
theorem mt_X8_isSkipped : gMt yX8_isSkipped cX8_isSkipped 4 (some (.boolean)) 2 := ⟨gt_5 (j := 162) rfl rfl, gt_1 (j := 3) rfl rfl, ⟨by decide +kernel, by decide +kernel⟩, by decide +kernel⟩
theorem mi_X8_isSkipped : Cond.instanceMethod yX8_isSkipped ∈ gAll := gt_5 (j := 161) rfl rfl
theorem se_X8_isSkipped : Cond.selects RX8 yX8_isSkipped yX8_isSkipped ∈ gAll := gs_2 (j := 11) (y := yX8_isSkipped) rfl
theorem mt_X8_carryMessage : gMt yX8_carryMessage cX8_carryMessage 11 none 2 := ⟨gt_5 (j := 166) rfl rfl, gt_1 (j := 3) rfl rfl, ⟨by decide +kernel, by decide +kernel⟩, by decide +kernel⟩
theorem mi_X8_carryMessage : Cond.instanceMethod yX8_carryMessage ∈ gAll := gt_5 (j := 165) rfl rfl
theorem se_X8_carryMessage : Cond.selects RX8 yX8_carryMessage yX8_carryMessage ∈ gAll := gs_2 (j := 12) (y := yX8_carryMessage) rfl
theorem mt_X8_endOfPiece : gMt yX8_endOfPiece cX8_endOfPiece 7 (some (.int)) 2 := ⟨gt_5 (j := 171) rfl rfl, gt_1 (j := 3) rfl rfl, ⟨by decide +kernel, by decide +kernel⟩, by decide +kernel⟩
theorem mi_X8_endOfPiece : Cond.instanceMethod yX8_endOfPiece ∈ gAll := gt_5 (j := 170) rfl rfl
theorem se_X8_endOfPiece : Cond.selects RX8 yX8_endOfPiece yX8_endOfPiece ∈ gAll := gs_2 (j := 13) (y := yX8_endOfPiece) rfl
theorem mt_X8_carryMention : gMt yX8_carryMention cX8_carryMention 9 (some (.boolean)) 3 := ⟨gt_5 (j := 175) rfl rfl, gt_1 (j := 3) rfl rfl, ⟨by decide +kernel, by decide +kernel⟩, by decide +kernel⟩
theorem mi_X8_carryMention : Cond.instanceMethod yX8_carryMention ∈ gAll := gt_5 (j := 174) rfl rfl
theorem se_X8_carryMention : Cond.selects RX8 yX8_carryMention yX8_carryMention ∈ gAll := gs_2 (j := 14) (y := yX8_carryMention) rfl
theorem mt_X0_digitFromBehind : gMt yX0_digitFromBehind cX0_digitFromBehind 4 (some (.int)) 2 := ⟨gt_5 (j := 179) rfl rfl, gt_1 (j := 12) rfl rfl, ⟨by decide +kernel, by decide +kernel⟩, by decide +kernel⟩
theorem ms_X0_digitFromBehind : Cond.static yX0_digitFromBehind ∈ gAll := gt_5 (j := 178) rfl rfl
theorem mt_X8_wordAt : gMt yX8_wordAt cX8_wordAt 6 (some (.int)) 3 := ⟨gt_5 (j := 183) rfl rfl, gt_1 (j := 3) rfl rfl, ⟨by decide +kernel, by decide +kernel⟩, by decide +kernel⟩
theorem mi_X8_wordAt : Cond.instanceMethod yX8_wordAt ∈ gAll := gt_5 (j := 182) rfl rfl
theorem se_X8_wordAt : Cond.selects RX8 yX8_wordAt yX8_wordAt ∈ gAll := gs_2 (j := 15) (y := yX8_wordAt) rfl
theorem mt_X8_addWord : gMt yX8_addWord cX8_addWord 4 none 1 := ⟨gt_5 (j := 188) rfl rfl, gt_1 (j := 3) rfl rfl, ⟨by decide +kernel, by decide +kernel⟩, by decide +kernel⟩
theorem mi_X8_addWord : Cond.instanceMethod yX8_addWord ∈ gAll := gt_5 (j := 187) rfl rfl
theorem se_X8_addWord : Cond.selects RX8 yX8_addWord yX8_addWord ∈ gAll := gs_3 (j := 0) (y := yX8_addWord) rfl
theorem mt_X11_layRefs : gMt yX11_layRefs cX11_layRefs 8 none 2 := ⟨gt_5 (j := 193) rfl rfl, gt_1 (j := 1) rfl rfl, ⟨by decide +kernel, by decide +kernel⟩, by decide +kernel⟩
theorem mi_X11_layRefs : Cond.instanceMethod yX11_layRefs ∈ gAll := gt_5 (j := 192) rfl rfl
theorem se_X11_layRefs : Cond.selects RX11 yX11_layRefs yX11_layRefs ∈ gAll := gs_3 (j := 1) (y := yX11_layRefs) rfl
theorem mt_X7_copy : gMt yX7_copy cX7_copy 3 none 1 := ⟨gt_5 (j := 197) rfl rfl, gt_1 (j := 11) rfl rfl, ⟨by decide +kernel, by decide +kernel⟩, by decide +kernel⟩
theorem mi_X7_copy : Cond.instanceMethod yX7_copy ∈ gAll := gt_5 (j := 195) rfl rfl
theorem se_X7_copy : Cond.selects RX7 yX7_copy yX7_copy ∈ gAll := gt_5 (j := 196) rfl rfl
theorem mt_X7_removeLaidBy : gMt yX7_removeLaidBy cX7_removeLaidBy 4 none 1 := ⟨gt_5 (j := 201) rfl rfl, gt_1 (j := 11) rfl rfl, ⟨by decide +kernel, by decide +kernel⟩, by decide +kernel⟩
theorem mi_X7_removeLaidBy : Cond.instanceMethod yX7_removeLaidBy ∈ gAll := gt_5 (j := 199) rfl rfl
theorem se_X7_removeLaidBy : Cond.selects RX7 yX7_removeLaidBy yX7_removeLaidBy ∈ gAll := gt_5 (j := 200) rfl rfl
theorem mt_X11_again : gMt yX11_again cX11_again 4 (some (.int)) 1 := ⟨gt_5 (j := 206) rfl rfl, gt_1 (j := 1) rfl rfl, ⟨by decide +kernel, by decide +kernel⟩, by decide +kernel⟩
theorem mi_X11_again : Cond.instanceMethod yX11_again ∈ gAll := gt_5 (j := 204) rfl rfl
theorem se_X11_again : Cond.selects RX11 yX11_again yX11_again ∈ gAll := gt_5 (j := 205) rfl rfl
theorem mt_X11_join : gMt yX11_join cX11_join 9 (some (.int)) 5 := ⟨gt_5 (j := 210) rfl rfl, gt_1 (j := 1) rfl rfl, ⟨by decide +kernel, by decide +kernel⟩, by decide +kernel⟩
theorem mi_X11_join : Cond.instanceMethod yX11_join ∈ gAll := gt_5 (j := 208) rfl rfl
theorem se_X11_join : Cond.selects RX11 yX11_join yX11_join ∈ gAll := gt_5 (j := 209) rfl rfl
theorem mt_X7_branch : gMt yX7_branch cX7_branch 3 (some (.int)) 1 := ⟨gt_5 (j := 214) rfl rfl, gt_1 (j := 11) rfl rfl, ⟨by decide +kernel, by decide +kernel⟩, by decide +kernel⟩
theorem mi_X7_branch : Cond.instanceMethod yX7_branch ∈ gAll := gt_5 (j := 212) rfl rfl
theorem se_X7_branch : Cond.selects RX7 yX7_branch yX7_branch ∈ gAll := gt_5 (j := 213) rfl rfl
theorem mt_X10_takeAll : gMt yX10_takeAll cX10_takeAll 4 (some (.boolean)) 1 := ⟨gt_5 (j := 222) rfl rfl, gt_1 (j := 6) rfl rfl, ⟨by decide +kernel, by decide +kernel⟩, by decide +kernel⟩
theorem mi_X10_takeAll : Cond.instanceMethod yX10_takeAll ∈ gAll := gt_5 (j := 220) rfl rfl
theorem se_X10_takeAll : Cond.selects RX10 yX10_takeAll yX10_takeAll ∈ gAll := gt_5 (j := 221) rfl rfl
theorem mt_X10_contentAt : gMt yX10_contentAt cX10_contentAt 3 (some (.int)) 1 := ⟨gt_5 (j := 226) rfl rfl, gt_1 (j := 6) rfl rfl, ⟨by decide +kernel, by decide +kernel⟩, by decide +kernel⟩
theorem mi_X10_contentAt : Cond.instanceMethod yX10_contentAt ∈ gAll := gt_5 (j := 224) rfl rfl
theorem se_X10_contentAt : Cond.selects RX10 yX10_contentAt yX10_contentAt ∈ gAll := gt_5 (j := 225) rfl rfl
theorem mt_X10_clashes : gMt yX10_clashes cX10_clashes 2 (some (.boolean)) 0 := ⟨gt_5 (j := 232) rfl rfl, gt_1 (j := 6) rfl rfl, ⟨by decide +kernel, by decide +kernel⟩, by decide +kernel⟩
theorem mi_X10_clashes : Cond.instanceMethod yX10_clashes ∈ gAll := gt_5 (j := 230) rfl rfl
theorem se_X10_clashes : Cond.selects RX10 yX10_clashes yX10_clashes ∈ gAll := gt_5 (j := 231) rfl rfl
theorem mt_X11_settleOn : gMt yX11_settleOn cX11_settleOn 4 (some (.int)) 2 := ⟨gt_5 (j := 236) rfl rfl, gt_1 (j := 1) rfl rfl, ⟨by decide +kernel, by decide +kernel⟩, by decide +kernel⟩
theorem mi_X11_settleOn : Cond.instanceMethod yX11_settleOn ∈ gAll := gt_5 (j := 235) rfl rfl
theorem se_X11_settleOn : Cond.selects RX11 yX11_settleOn yX11_settleOn ∈ gAll := gs_3 (j := 2) (y := yX11_settleOn) rfl
theorem mt_X11_replay : gMt yX11_replay cX11_replay 6 (some (.int)) 3 := ⟨gt_6 (j := 0) rfl rfl, gt_1 (j := 1) rfl rfl, ⟨by decide +kernel, by decide +kernel⟩, by decide +kernel⟩
theorem mi_X11_replay : Cond.instanceMethod yX11_replay ∈ gAll := gt_5 (j := 238) rfl rfl
theorem se_X11_replay : Cond.selects RX11 yX11_replay yX11_replay ∈ gAll := gt_5 (j := 239) rfl rfl
theorem mt_X1_firstTree : gMt yX1_firstTree cX1_firstTree 2 (some (.object "CarriedHistory$Tree")) 1 := ⟨gt_6 (j := 4) rfl rfl, gt_1 (j := 4) rfl rfl, ⟨by decide +kernel, by decide +kernel⟩, by decide +kernel⟩
theorem mi_X1_firstTree : Cond.instanceMethod yX1_firstTree ∈ gAll := gt_6 (j := 2) rfl rfl
theorem se_X1_firstTree : Cond.selects RX1 yX1_firstTree yX1_firstTree ∈ gAll := gt_6 (j := 3) rfl rfl
theorem mt_X0_measure : gMt yX0_measure cX0_measure 10 none 2 := ⟨gt_6 (j := 9) rfl rfl, gt_1 (j := 12) rfl rfl, ⟨by decide +kernel, by decide +kernel⟩, by decide +kernel⟩
theorem mi_X0_measure : Cond.instanceMethod yX0_measure ∈ gAll := gt_6 (j := 7) rfl rfl
theorem se_X0_measure : Cond.selects RX0 yX0_measure yX0_measure ∈ gAll := gt_6 (j := 8) rfl rfl
theorem mt_X0_add : gMt yX0_add cX0_add 6 none 5 := ⟨gt_6 (j := 13) rfl rfl, gt_1 (j := 12) rfl rfl, ⟨by decide +kernel, by decide +kernel⟩, by decide +kernel⟩
theorem mi_X0_add : Cond.instanceMethod yX0_add ∈ gAll := gt_6 (j := 12) rfl rfl
theorem se_X0_add : Cond.selects RX0 yX0_add yX0_add ∈ gAll := gs_3 (j := 3) (y := yX0_add) rfl
theorem mt_X2_takeMessage : gMt yX2_takeMessage cX2_takeMessage 4 none 2 := ⟨gt_6 (j := 17) rfl rfl, gt_1 (j := 7) rfl rfl, ⟨by decide +kernel, by decide +kernel⟩, by decide +kernel⟩
theorem mi_X2_takeMessage : Cond.instanceMethod yX2_takeMessage ∈ gAll := gt_6 (j := 15) rfl rfl
theorem se_X2_takeMessage : Cond.selects RX2 yX2_takeMessage yX2_takeMessage ∈ gAll := gt_6 (j := 16) rfl rfl
theorem mt_X0_fits : gMt yX0_fits cX0_fits 4 (some (.boolean)) 1 := ⟨gt_6 (j := 22) rfl rfl, gt_1 (j := 12) rfl rfl, ⟨by decide +kernel, by decide +kernel⟩, by decide +kernel⟩
theorem mi_X0_fits : Cond.instanceMethod yX0_fits ∈ gAll := gt_6 (j := 20) rfl rfl
theorem se_X0_fits : Cond.selects RX0 yX0_fits yX0_fits ∈ gAll := gt_6 (j := 21) rfl rfl
theorem mt_X0_apply : gMt yX0_apply cX0_apply 3 none 1 := ⟨gt_6 (j := 27) rfl rfl, gt_1 (j := 12) rfl rfl, ⟨by decide +kernel, by decide +kernel⟩, by decide +kernel⟩
theorem mi_X0_apply : Cond.instanceMethod yX0_apply ∈ gAll := gt_6 (j := 25) rfl rfl
theorem se_X0_apply : Cond.selects RX0 yX0_apply yX0_apply ∈ gAll := gt_6 (j := 26) rfl rfl
theorem mt_X10_removeFile : gMt yX10_removeFile cX10_removeFile 4 none 1 := ⟨gt_6 (j := 31) rfl rfl, gt_1 (j := 6) rfl rfl, ⟨by decide +kernel, by decide +kernel⟩, by decide +kernel⟩
theorem mi_X10_removeFile : Cond.instanceMethod yX10_removeFile ∈ gAll := gt_6 (j := 29) rfl rfl
theorem se_X10_removeFile : Cond.selects RX10 yX10_removeFile yX10_removeFile ∈ gAll := gt_6 (j := 30) rfl rfl
theorem mt_X11_commitIs : gMt yX11_commitIs cX11_commitIs 3 (some (.int)) 2 := ⟨gt_6 (j := 37) rfl rfl, gt_1 (j := 1) rfl rfl, ⟨by decide +kernel, by decide +kernel⟩, by decide +kernel⟩
theorem mi_X11_commitIs : Cond.instanceMethod yX11_commitIs ∈ gAll := gt_6 (j := 35) rfl rfl
theorem se_X11_commitIs : Cond.selects RX11 yX11_commitIs yX11_commitIs ∈ gAll := gt_6 (j := 36) rfl rfl
theorem mt_X3_size : gMt yX3_size cX3_size 2 (some (.int)) 1 := ⟨gt_6 (j := 41) rfl rfl, gt_1 (j := 5) rfl rfl, ⟨by decide +kernel, by decide +kernel⟩, by decide +kernel⟩
theorem mi_X3_size : Cond.instanceMethod yX3_size ∈ gAll := gt_6 (j := 39) rfl rfl
theorem se_X3_size : Cond.selects RX3 yX3_size yX3_size ∈ gAll := gt_6 (j := 40) rfl rfl
theorem mt_J13_bitCount_95d88 : gMt yJ13_bitCount_95d88 cJ13_bitCount_95d88 2 (some (.int)) 1 := ⟨gt_6 (j := 44) rfl rfl, gt_1 (j := 24) rfl rfl, ⟨by decide +kernel, by decide +kernel⟩, by decide +kernel⟩
theorem ms_J13_bitCount_95d88 : Cond.static yJ13_bitCount_95d88 ∈ gAll := gt_6 (j := 43) rfl rfl
theorem mt_X1_childrenOf : gMt yX1_childrenOf cX1_childrenOf 5 (some (.int)) 1 := ⟨gt_6 (j := 51) rfl rfl, gt_1 (j := 4) rfl rfl, ⟨by decide +kernel, by decide +kernel⟩, by decide +kernel⟩
theorem mi_X1_childrenOf : Cond.instanceMethod yX1_childrenOf ∈ gAll := gt_6 (j := 49) rfl rfl
theorem se_X1_childrenOf : Cond.selects RX1 yX1_childrenOf yX1_childrenOf ∈ gAll := gt_6 (j := 50) rfl rfl
theorem mt_X11_spelt : gMt yX11_spelt cX11_spelt 4 (some (.int)) 2 := ⟨gt_6 (j := 56) rfl rfl, gt_1 (j := 1) rfl rfl, ⟨by decide +kernel, by decide +kernel⟩, by decide +kernel⟩
theorem mi_X11_spelt : Cond.instanceMethod yX11_spelt ∈ gAll := gt_6 (j := 54) rfl rfl
theorem se_X11_spelt : Cond.selects RX11 yX11_spelt yX11_spelt ∈ gAll := gt_6 (j := 55) rfl rfl
theorem mt_J4_setLength_d00df : gMt yJ4_setLength_d00df cJ4_setLength_d00df 2 none 1 := ⟨gt_6 (j := 60) rfl rfl, gt_1 (j := 14) rfl rfl, ⟨by decide +kernel, by decide +kernel⟩, by decide +kernel⟩
theorem mi_J4_setLength_d00df : Cond.instanceMethod yJ4_setLength_d00df ∈ gAll := gt_6 (j := 58) rfl rfl
theorem se_J4_setLength_d00df : Cond.selects RJ4 yJ4_setLength_d00df yJ4_setLength_d00df ∈ gAll := gt_6 (j := 59) rfl rfl
theorem mt_J5_setLength_d00df : gMt yJ5_setLength_d00df cJ5_setLength_d00df 2 none 1 := ⟨gt_6 (j := 63) rfl rfl, gt_1 (j := 13) rfl rfl, ⟨by decide +kernel, by decide +kernel⟩, by decide +kernel⟩
theorem mi_J5_setLength_d00df : Cond.instanceMethod yJ5_setLength_d00df ∈ gAll := gt_6 (j := 62) rfl rfl
theorem mt_J5_ensureCapacityInternal_d00df : gMt yJ5_ensureCapacityInternal_d00df cJ5_ensureCapacityInternal_d00df 3 none 1 := ⟨gt_6 (j := 67) rfl rfl, gt_1 (j := 13) rfl rfl, ⟨by decide +kernel, by decide +kernel⟩, by decide +kernel⟩
theorem mi_J5_ensureCapacityInternal_d00df : Cond.instanceMethod yJ5_ensureCapacityInternal_d00df ∈ gAll := gt_6 (j := 66) rfl rfl
theorem mt_J5_newCapacity_0f7a4 : gMt yJ5_newCapacity_0f7a4 cJ5_newCapacity_0f7a4 6 (some (.int)) 1 := ⟨gt_6 (j := 71) rfl rfl, gt_1 (j := 13) rfl rfl, ⟨by decide +kernel, by decide +kernel⟩, by decide +kernel⟩
theorem mi_J5_newCapacity_0f7a4 : Cond.instanceMethod yJ5_newCapacity_0f7a4 ∈ gAll := gt_6 (j := 70) rfl rfl
theorem mt_J8_newLength_cabcc : gMt yJ8_newLength_cabcc cJ8_newLength_cabcc 4 (some (.int)) 3 := ⟨gt_6 (j := 74) rfl rfl, gt_1 (j := 25) rfl rfl, ⟨by decide +kernel, by decide +kernel⟩, by decide +kernel⟩
theorem ms_J8_newLength_cabcc : Cond.static yJ8_newLength_cabcc ∈ gAll := gt_6 (j := 73) rfl rfl
theorem mt_J8_hugeLength_7cf53 : gMt yJ8_hugeLength_7cf53 cJ8_hugeLength_7cf53 3 (some (.int)) 2 := ⟨gt_6 (j := 79) rfl rfl, gt_1 (j := 25) rfl rfl, ⟨by decide +kernel, by decide +kernel⟩, by decide +kernel⟩
theorem ms_J8_hugeLength_7cf53 : Cond.static yJ8_hugeLength_7cf53 ∈ gAll := gt_6 (j := 78) rfl rfl
theorem mt_J7_copyOf_9075b : gMt yJ7_copyOf_9075b cJ7_copyOf_9075b 3 (some (.array (.byte))) 2 := ⟨gt_6 (j := 83) rfl rfl, gt_1 (j := 20) rfl rfl, ⟨by decide +kernel, by decide +kernel⟩, by decide +kernel⟩
theorem ms_J7_copyOf_9075b : Cond.static yJ7_copyOf_9075b ∈ gAll := gt_6 (j := 82) rfl rfl
theorem mt_J5_isLatin1_aae02 : gMt yJ5_isLatin1_aae02 cJ5_isLatin1_aae02 1 (some (.boolean)) 0 := ⟨gt_6 (j := 97) rfl rfl, gt_1 (j := 13) rfl rfl, ⟨by decide +kernel, by decide +kernel⟩, by decide +kernel⟩
theorem mi_J5_isLatin1_aae02 : Cond.instanceMethod yJ5_isLatin1_aae02 ∈ gAll := gt_6 (j := 94) rfl rfl
theorem mt_J1_fillNull_b72d1 : gMt yJ1_fillNull_b72d1 cJ1_fillNull_b72d1 3 none 3 := ⟨gt_6 (j := 100) rfl rfl, gt_1 (j := 21) rfl rfl, ⟨by decide +kernel, by decide +kernel⟩, by decide +kernel⟩
theorem ms_J1_fillNull_b72d1 : Cond.static yJ1_fillNull_b72d1 ∈ gAll := gt_6 (j := 99) rfl rfl
theorem mt_J7_fill_eb02e : gMt yJ7_fill_eb02e cJ7_fill_eb02e 5 none 4 := ⟨gt_6 (j := 103) rfl rfl, gt_1 (j := 20) rfl rfl, ⟨by decide +kernel, by decide +kernel⟩, by decide +kernel⟩
theorem ms_J7_fill_eb02e : Cond.static yJ7_fill_eb02e ∈ gAll := gt_6 (j := 102) rfl rfl
theorem mt_J7_rangeCheck_23922 : gMt yJ7_rangeCheck_23922 cJ7_rangeCheck_23922 3 none 3 := ⟨gt_6 (j := 106) rfl rfl, gt_1 (j := 20) rfl rfl, ⟨by decide +kernel, by decide +kernel⟩, by decide +kernel⟩
theorem ms_J7_rangeCheck_23922 : Cond.static yJ7_rangeCheck_23922 ∈ gAll := gt_6 (j := 105) rfl rfl
theorem mt_J2_fillNull_b72d1 : gMt yJ2_fillNull_b72d1 cJ2_fillNull_b72d1 3 none 3 := ⟨gt_6 (j := 109) rfl rfl, gt_1 (j := 16) rfl rfl, ⟨by decide +kernel, by decide +kernel⟩, by decide +kernel⟩
theorem ms_J2_fillNull_b72d1 : Cond.static yJ2_fillNull_b72d1 ∈ gAll := gt_6 (j := 108) rfl rfl
theorem mt_J4_append_cf468 : gMt yJ4_append_cf468 cJ4_append_cf468 2 (some (.object "java/lang/StringBuilder")) 1 := ⟨gt_6 (j := 114) rfl rfl, gt_1 (j := 14) rfl rfl, ⟨by decide +kernel, by decide +kernel⟩, by decide +kernel⟩
theorem mi_J4_append_cf468 : Cond.instanceMethod yJ4_append_cf468 ∈ gAll := gt_6 (j := 112) rfl rfl
theorem se_J4_append_cf468 : Cond.selects RJ4 yJ4_append_cf468 yJ4_append_cf468 ∈ gAll := gt_6 (j := 113) rfl rfl
theorem mt_J5_append_3fe6f : gMt yJ5_append_3fe6f cJ5_append_3fe6f 2 (some (.object "java/lang/AbstractStringBuilder")) 1 := ⟨gt_6 (j := 117) rfl rfl, gt_1 (j := 13) rfl rfl, ⟨by decide +kernel, by decide +kernel⟩, by decide +kernel⟩
theorem mi_J5_append_3fe6f : Cond.instanceMethod yJ5_append_3fe6f ∈ gAll := gt_6 (j := 116) rfl rfl
theorem mt_J1_canEncode_fc78d : gMt yJ1_canEncode_fc78d cJ1_canEncode_fc78d 1 (some (.boolean)) 1 := ⟨gt_6 (j := 120) rfl rfl, gt_1 (j := 21) rfl rfl, ⟨by decide +kernel, by decide +kernel⟩, by decide +kernel⟩
theorem ms_J1_canEncode_fc78d : Cond.static yJ1_canEncode_fc78d ∈ gAll := gt_6 (j := 119) rfl rfl
theorem mt_J5_inflate_da8c8 : gMt yJ5_inflate_da8c8 cJ5_inflate_da8c8 2 none 0 := ⟨gt_6 (j := 124) rfl rfl, gt_1 (j := 13) rfl rfl, ⟨by decide +kernel, by decide +kernel⟩, by decide +kernel⟩
theorem mi_J5_inflate_da8c8 : Cond.instanceMethod yJ5_inflate_da8c8 ∈ gAll := gt_6 (j := 123) rfl rfl
theorem mt_J1_inflate_0e8fd : gMt yJ1_inflate_0e8fd cJ1_inflate_0e8fd 5 none 5 := ⟨gt_6 (j := 127) rfl rfl, gt_1 (j := 21) rfl rfl, ⟨by decide +kernel, by decide +kernel⟩, by decide +kernel⟩
theorem ms_J1_inflate_0e8fd : Cond.static yJ1_inflate_0e8fd ∈ gAll := gt_6 (j := 126) rfl rfl
theorem mt_J2_inflate_0e8fd : gMt yJ2_inflate_0e8fd cJ2_inflate_0e8fd 6 none 5 := ⟨gt_6 (j := 130) rfl rfl, gt_1 (j := 16) rfl rfl, ⟨by decide +kernel, by decide +kernel⟩, by decide +kernel⟩
theorem ms_J2_inflate_0e8fd : Cond.static yJ2_inflate_0e8fd ∈ gAll := gt_6 (j := 129) rfl rfl
theorem mt_J2_checkBoundsOffCount_d044e : gMt yJ2_checkBoundsOffCount_d044e cJ2_checkBoundsOffCount_d044e 3 none 3 := ⟨gt_6 (j := 133) rfl rfl, gt_1 (j := 16) rfl rfl, ⟨by decide +kernel, by decide +kernel⟩, by decide +kernel⟩
theorem ms_J2_checkBoundsOffCount_d044e : Cond.static yJ2_checkBoundsOffCount_d044e ∈ gAll := gt_6 (j := 132) rfl rfl
theorem mt_J0_checkBoundsOffCount_cabcc : gMt yJ0_checkBoundsOffCount_cabcc cJ0_checkBoundsOffCount_cabcc 3 (some (.int)) 3 := ⟨gt_6 (j := 136) rfl rfl, gt_1 (j := 15) rfl rfl, ⟨by decide +kernel, by decide +kernel⟩, by decide +kernel⟩
theorem ms_J0_checkBoundsOffCount_cabcc : Cond.static yJ0_checkBoundsOffCount_cabcc ∈ gAll := gt_6 (j := 135) rfl rfl
theorem mt_J3_checkFromIndexSize_8c36e : gMt yJ3_checkFromIndexSize_8c36e cJ3_checkFromIndexSize_8c36e 4 (some (.int)) 4 := ⟨gt_6 (j := 139) rfl rfl, gt_1 (j := 22) rfl rfl, ⟨by decide +kernel, by decide +kernel⟩, by decide +kernel⟩
theorem ms_J3_checkFromIndexSize_8c36e : Cond.static yJ3_checkFromIndexSize_8c36e ∈ gAll := gt_6 (j := 138) rfl rfl
theorem mt_J2_putChar_b72d1 : gMt yJ2_putChar_b72d1 cJ2_putChar_b72d1 3 none 3 := ⟨gt_6 (j := 142) rfl rfl, gt_1 (j := 16) rfl rfl, ⟨by decide +kernel, by decide +kernel⟩, by decide +kernel⟩
theorem ms_J2_putChar_b72d1 : Cond.static yJ2_putChar_b72d1 ∈ gAll := gt_6 (j := 141) rfl rfl
theorem mt_J2_putCharSB_b72d1 : gMt yJ2_putCharSB_b72d1 cJ2_putCharSB_b72d1 3 none 3 := ⟨gt_6 (j := 145) rfl rfl, gt_1 (j := 16) rfl rfl, ⟨by decide +kernel, by decide +kernel⟩, by decide +kernel⟩
theorem ms_J2_putCharSB_b72d1 : Cond.static yJ2_putCharSB_b72d1 ∈ gAll := gt_6 (j := 144) rfl rfl
theorem mt_J4_append_bf812 : gMt yJ4_append_bf812 cJ4_append_bf812 2 (some (.object "java/lang/StringBuilder")) 1 := ⟨gt_6 (j := 149) rfl rfl, gt_1 (j := 14) rfl rfl, ⟨by decide +kernel, by decide +kernel⟩, by decide +kernel⟩
theorem mi_J4_append_bf812 : Cond.instanceMethod yJ4_append_bf812 ∈ gAll := gt_6 (j := 147) rfl rfl
theorem se_J4_append_bf812 : Cond.selects RJ4 yJ4_append_bf812 yJ4_append_bf812 ∈ gAll := gt_6 (j := 148) rfl rfl
theorem mt_J5_append_c97b9 : gMt yJ5_append_c97b9 cJ5_append_c97b9 4 (some (.object "java/lang/AbstractStringBuilder")) 1 := ⟨gt_6 (j := 152) rfl rfl, gt_1 (j := 13) rfl rfl, ⟨by decide +kernel, by decide +kernel⟩, by decide +kernel⟩
theorem mi_J5_append_c97b9 : Cond.instanceMethod yJ5_append_c97b9 ∈ gAll := gt_6 (j := 151) rfl rfl
theorem mt_J6_stringSize_0f7a4 : gMt yJ6_stringSize_0f7a4 cJ6_stringSize_0f7a4 4 (some (.int)) 1 := ⟨gt_6 (j := 155) rfl rfl, gt_1 (j := 26) rfl rfl, ⟨by decide +kernel, by decide +kernel⟩, by decide +kernel⟩
theorem ms_J6_stringSize_0f7a4 : Cond.static yJ6_stringSize_0f7a4 ∈ gAll := gt_6 (j := 154) rfl rfl
theorem mt_J6_getChars_ba4f3 : gMt yJ6_getChars_ba4f3 cJ6_getChars_ba4f3 7 (some (.int)) 3 := ⟨gt_6 (j := 158) rfl rfl, gt_1 (j := 26) rfl rfl, ⟨by decide +kernel, by decide +kernel⟩, by decide +kernel⟩
theorem ms_J6_getChars_ba4f3 : Cond.static yJ6_getChars_ba4f3 ∈ gAll := gt_6 (j := 157) rfl rfl
theorem mt_J2_getChars_46870 : gMt yJ2_getChars_46870 cJ2_getChars_46870 5 (some (.int)) 4 := ⟨gt_6 (j := 165) rfl rfl, gt_1 (j := 16) rfl rfl, ⟨by decide +kernel, by decide +kernel⟩, by decide +kernel⟩
theorem ms_J2_getChars_46870 : Cond.static yJ2_getChars_46870 ∈ gAll := gt_6 (j := 164) rfl rfl
theorem mt_J2_checkBoundsBeginEnd_d044e : gMt yJ2_checkBoundsBeginEnd_d044e cJ2_checkBoundsBeginEnd_d044e 3 none 3 := ⟨gt_6 (j := 168) rfl rfl, gt_1 (j := 16) rfl rfl, ⟨by decide +kernel, by decide +kernel⟩, by decide +kernel⟩
theorem ms_J2_checkBoundsBeginEnd_d044e : Cond.static yJ2_checkBoundsBeginEnd_d044e ∈ gAll := gt_6 (j := 167) rfl rfl
theorem mt_J0_checkBoundsBeginEnd_23922 : gMt yJ0_checkBoundsBeginEnd_23922 cJ0_checkBoundsBeginEnd_23922 3 none 3 := ⟨gt_6 (j := 171) rfl rfl, gt_1 (j := 15) rfl rfl, ⟨by decide +kernel, by decide +kernel⟩, by decide +kernel⟩
theorem ms_J0_checkBoundsBeginEnd_23922 : Cond.static yJ0_checkBoundsBeginEnd_23922 ∈ gAll := gt_6 (j := 170) rfl rfl
theorem mt_J3_checkFromToIndex_8c36e : gMt yJ3_checkFromToIndex_8c36e cJ3_checkFromToIndex_8c36e 4 (some (.int)) 4 := ⟨gt_6 (j := 174) rfl rfl, gt_1 (j := 22) rfl rfl, ⟨by decide +kernel, by decide +kernel⟩, by decide +kernel⟩
theorem ms_J3_checkFromToIndex_8c36e : Cond.static yJ3_checkFromToIndex_8c36e ∈ gAll := gt_6 (j := 173) rfl rfl
theorem mt_J2_getChars_ba4f3 : gMt yJ2_getChars_ba4f3 cJ2_getChars_ba4f3 7 (some (.int)) 3 := ⟨gt_6 (j := 177) rfl rfl, gt_1 (j := 16) rfl rfl, ⟨by decide +kernel, by decide +kernel⟩, by decide +kernel⟩
theorem ms_J2_getChars_ba4f3 : Cond.static yJ2_getChars_ba4f3 ∈ gAll := gt_6 (j := 176) rfl rfl
theorem mt_X10_spell : gMt yX10_spell cX10_spell 3 none 1 := ⟨gt_6 (j := 183) rfl rfl, gt_1 (j := 6) rfl rfl, ⟨by decide +kernel, by decide +kernel⟩, by decide +kernel⟩
theorem mi_X10_spell : Cond.instanceMethod yX10_spell ∈ gAll := gt_6 (j := 181) rfl rfl
theorem se_X10_spell : Cond.selects RX10 yX10_spell yX10_spell ∈ gAll := gt_6 (j := 182) rfl rfl
theorem mt_X10_spellPath : gMt yX10_spellPath cX10_spellPath 4 none 2 := ⟨gt_6 (j := 187) rfl rfl, gt_1 (j := 6) rfl rfl, ⟨by decide +kernel, by decide +kernel⟩, by decide +kernel⟩
theorem ms_X10_spellPath : Cond.static yX10_spellPath ∈ gAll := gt_6 (j := 186) rfl rfl
theorem mt_X10_spellContent : gMt yX10_spellContent cX10_spellContent 4 none 2 := ⟨gt_6 (j := 190) rfl rfl, gt_1 (j := 6) rfl rfl, ⟨by decide +kernel, by decide +kernel⟩, by decide +kernel⟩
theorem ms_X10_spellContent : Cond.static yX10_spellContent ∈ gAll := gt_6 (j := 189) rfl rfl
theorem mt_J4_length_8abf5 : gMt yJ4_length_8abf5 cJ4_length_8abf5 1 (some (.int)) 0 := ⟨gt_6 (j := 197) rfl rfl, gt_1 (j := 14) rfl rfl, ⟨by decide +kernel, by decide +kernel⟩, by decide +kernel⟩
theorem mi_J4_length_8abf5 : Cond.instanceMethod yJ4_length_8abf5 ∈ gAll := gt_6 (j := 195) rfl rfl
theorem se_J4_length_8abf5 : Cond.selects RJ4 yJ4_length_8abf5 yJ4_length_8abf5 ∈ gAll := gt_6 (j := 196) rfl rfl
theorem mt_J5_length_8abf5 : gMt yJ5_length_8abf5 cJ5_length_8abf5 1 (some (.int)) 0 := ⟨gt_6 (j := 200) rfl rfl, gt_1 (j := 13) rfl rfl, ⟨by decide +kernel, by decide +kernel⟩, by decide +kernel⟩
theorem mi_J5_length_8abf5 : Cond.instanceMethod yJ5_length_8abf5 ∈ gAll := gt_6 (j := 199) rfl rfl
theorem mt_J4_charAt_5068e : gMt yJ4_charAt_5068e cJ4_charAt_5068e 2 (some (.char)) 1 := ⟨gt_6 (j := 204) rfl rfl, gt_1 (j := 14) rfl rfl, ⟨by decide +kernel, by decide +kernel⟩, by decide +kernel⟩
theorem mi_J4_charAt_5068e : Cond.instanceMethod yJ4_charAt_5068e ∈ gAll := gt_6 (j := 202) rfl rfl
theorem se_J4_charAt_5068e : Cond.selects RJ4 yJ4_charAt_5068e yJ4_charAt_5068e ∈ gAll := gt_6 (j := 203) rfl rfl
theorem mt_J5_charAt_5068e : gMt yJ5_charAt_5068e cJ5_charAt_5068e 5 (some (.char)) 1 := ⟨gt_6 (j := 207) rfl rfl, gt_1 (j := 13) rfl rfl, ⟨by decide +kernel, by decide +kernel⟩, by decide +kernel⟩
theorem mi_J5_charAt_5068e : Cond.instanceMethod yJ5_charAt_5068e ∈ gAll := gt_6 (j := 206) rfl rfl
theorem mt_X11_look : gMt yX11_look cX11_look 6 (some (.int)) 3 := ⟨gt_6 (j := 214) rfl rfl, gt_1 (j := 1) rfl rfl, ⟨by decide +kernel, by decide +kernel⟩, by decide +kernel⟩
theorem mi_X11_look : Cond.instanceMethod yX11_look ∈ gAll := gt_6 (j := 212) rfl rfl
theorem se_X11_look : Cond.selects RX11 yX11_look yX11_look ∈ gAll := gt_6 (j := 213) rfl rfl
theorem mt_X11_readWholePath : gMt yX11_readWholePath cX11_readWholePath 3 (some (.int)) 1 := ⟨gt_6 (j := 218) rfl rfl, gt_1 (j := 1) rfl rfl, ⟨by decide +kernel, by decide +kernel⟩, by decide +kernel⟩
theorem mi_X11_readWholePath : Cond.instanceMethod yX11_readWholePath ∈ gAll := gt_6 (j := 217) rfl rfl
theorem se_X11_readWholePath : Cond.selects RX11 yX11_readWholePath yX11_readWholePath ∈ gAll := gs_3 (j := 4) (y := yX11_readWholePath) rfl
theorem mt_X10_hasFilesAlone : gMt yX10_hasFilesAlone cX10_hasFilesAlone 4 (some (.boolean)) 1 := ⟨gt_6 (j := 229) rfl rfl, gt_1 (j := 6) rfl rfl, ⟨by decide +kernel, by decide +kernel⟩, by decide +kernel⟩
theorem mi_X10_hasFilesAlone : Cond.instanceMethod yX10_hasFilesAlone ∈ gAll := gt_6 (j := 227) rfl rfl
theorem se_X10_hasFilesAlone : Cond.selects RX10 yX10_hasFilesAlone yX10_hasFilesAlone ∈ gAll := gt_6 (j := 228) rfl rfl
theorem mt_X10_entriesIn : gMt yX10_entriesIn cX10_entriesIn 7 (some (.int)) 1 := ⟨gt_6 (j := 233) rfl rfl, gt_1 (j := 6) rfl rfl, ⟨by decide +kernel, by decide +kernel⟩, by decide +kernel⟩
theorem mi_X10_entriesIn : Cond.instanceMethod yX10_entriesIn ∈ gAll := gt_6 (j := 231) rfl rfl
theorem se_X10_entriesIn : Cond.selects RX10 yX10_entriesIn yX10_entriesIn ∈ gAll := gt_6 (j := 232) rfl rfl
theorem mt_X11_touches : gMt yX11_touches cX11_touches 6 (some (.int)) 2 := ⟨gt_6 (j := 237) rfl rfl, gt_1 (j := 1) rfl rfl, ⟨by decide +kernel, by decide +kernel⟩, by decide +kernel⟩
theorem mi_X11_touches : Cond.instanceMethod yX11_touches ∈ gAll := gt_6 (j := 235) rfl rfl
theorem se_X11_touches : Cond.selects RX11 yX11_touches yX11_touches ∈ gAll := gt_6 (j := 236) rfl rfl
theorem mt_X1_markHistory : gMt yX1_markHistory cX1_markHistory 5 none 3 := ⟨gt_7 (j := 1) rfl rfl, gt_1 (j := 4) rfl rfl, ⟨by decide +kernel, by decide +kernel⟩, by decide +kernel⟩
theorem mi_X1_markHistory : Cond.instanceMethod yX1_markHistory ∈ gAll := gt_6 (j := 239) rfl rfl
theorem se_X1_markHistory : Cond.selects RX1 yX1_markHistory yX1_markHistory ∈ gAll := gt_7 (j := 0) rfl rfl
theorem mt_X11_isTouched : gMt yX11_isTouched cX11_isTouched 4 (some (.boolean)) 2 := ⟨gt_7 (j := 6) rfl rfl, gt_1 (j := 1) rfl rfl, ⟨by decide +kernel, by decide +kernel⟩, by decide +kernel⟩
theorem mi_X11_isTouched : Cond.instanceMethod yX11_isTouched ∈ gAll := gt_7 (j := 5) rfl rfl
theorem se_X11_isTouched : Cond.selects RX11 yX11_isTouched yX11_isTouched ∈ gAll := gs_3 (j := 5) (y := yX11_isTouched) rfl
theorem mt_X10_isLikeAt : gMt yX10_isLikeAt cX10_isLikeAt 4 (some (.boolean)) 2 := ⟨gt_7 (j := 10) rfl rfl, gt_1 (j := 6) rfl rfl, ⟨by decide +kernel, by decide +kernel⟩, by decide +kernel⟩
theorem mi_X10_isLikeAt : Cond.instanceMethod yX10_isLikeAt ∈ gAll := gt_7 (j := 8) rfl rfl
theorem se_X10_isLikeAt : Cond.selects RX10 yX10_isLikeAt yX10_isLikeAt ∈ gAll := gt_7 (j := 9) rfl rfl
theorem mt_X11_planIs : gMt yX11_planIs cX11_planIs 4 (some (.int)) 2 := ⟨gt_7 (j := 15) rfl rfl, gt_1 (j := 1) rfl rfl, ⟨by decide +kernel, by decide +kernel⟩, by decide +kernel⟩
theorem mi_X11_planIs : Cond.instanceMethod yX11_planIs ∈ gAll := gt_7 (j := 13) rfl rfl
theorem se_X11_planIs : Cond.selects RX11 yX11_planIs yX11_planIs ∈ gAll := gt_7 (j := 14) rfl rfl
theorem mt_X11_mapIs : gMt yX11_mapIs cX11_mapIs 7 (some (.int)) 2 := ⟨gt_7 (j := 19) rfl rfl, gt_1 (j := 1) rfl rfl, ⟨by decide +kernel, by decide +kernel⟩, by decide +kernel⟩
theorem mi_X11_mapIs : Cond.instanceMethod yX11_mapIs ∈ gAll := gt_7 (j := 18) rfl rfl
theorem se_X11_mapIs : Cond.selects RX11 yX11_mapIs yX11_mapIs ∈ gAll := gs_3 (j := 6) (y := yX11_mapIs) rfl
theorem mt_X5_isMapped : gMt yX5_isMapped cX5_isMapped 2 (some (.boolean)) 1 := ⟨gt_7 (j := 23) rfl rfl, gt_1 (j := 9) rfl rfl, ⟨by decide +kernel, by decide +kernel⟩, by decide +kernel⟩
theorem mi_X5_isMapped : Cond.instanceMethod yX5_isMapped ∈ gAll := gt_7 (j := 21) rfl rfl
theorem se_X5_isMapped : Cond.selects RX5 yX5_isMapped yX5_isMapped ∈ gAll := gt_7 (j := 22) rfl rfl
theorem mt_X11_image : gMt yX11_image cX11_image 5 (some (.int)) 3 := ⟨gt_7 (j := 27) rfl rfl, gt_1 (j := 1) rfl rfl, ⟨by decide +kernel, by decide +kernel⟩, by decide +kernel⟩
theorem mi_X11_image : Cond.instanceMethod yX11_image ∈ gAll := gt_7 (j := 25) rfl rfl
theorem se_X11_image : Cond.selects RX11 yX11_image yX11_image ∈ gAll := gt_7 (j := 26) rfl rfl
theorem mt_X11_tried : gMt yX11_tried cX11_tried 5 (some (.int)) 3 := ⟨gt_7 (j := 31) rfl rfl, gt_1 (j := 1) rfl rfl, ⟨by decide +kernel, by decide +kernel⟩, by decide +kernel⟩
theorem mi_X11_tried : Cond.instanceMethod yX11_tried ∈ gAll := gt_7 (j := 29) rfl rfl
theorem se_X11_tried : Cond.selects RX11 yX11_tried yX11_tried ∈ gAll := gt_7 (j := 30) rfl rfl
theorem mt_X8_tree : gMt yX8_tree cX8_tree 1 (some (.object "CarriedHistory$Tree")) 0 := ⟨gt_7 (j := 36) rfl rfl, gt_1 (j := 3) rfl rfl, ⟨by decide +kernel, by decide +kernel⟩, by decide +kernel⟩
theorem mi_X8_tree : Cond.instanceMethod yX8_tree ∈ gAll := gt_7 (j := 34) rfl rfl
theorem se_X8_tree : Cond.selects RX8 yX8_tree yX8_tree ∈ gAll := gt_7 (j := 35) rfl rfl
theorem mt_X11_share : gMt yX11_share cX11_share 3 (some (.long)) 1 := ⟨gt_7 (j := 41) rfl rfl, gt_1 (j := 1) rfl rfl, ⟨by decide +kernel, by decide +kernel⟩, by decide +kernel⟩
theorem mi_X11_share : Cond.instanceMethod yX11_share ∈ gAll := gt_7 (j := 39) rfl rfl
theorem se_X11_share : Cond.selects RX11 yX11_share yX11_share ∈ gAll := gt_7 (j := 40) rfl rfl
theorem mt_X11_doubleBits : gMt yX11_doubleBits cX11_doubleBits 7 (some (.long)) 1 := ⟨gt_7 (j := 46) rfl rfl, gt_1 (j := 1) rfl rfl, ⟨by decide +kernel, by decide +kernel⟩, by decide +kernel⟩
theorem ms_X11_doubleBits : Cond.static yX11_doubleBits ∈ gAll := gt_7 (j := 45) rfl rfl
theorem mt_X11_sound : gMt yX11_sound cX11_sound 6 (some (.int)) 2 := ⟨gt_7 (j := 53) rfl rfl, gt_1 (j := 1) rfl rfl, ⟨by decide +kernel, by decide +kernel⟩, by decide +kernel⟩
theorem mi_X11_sound : Cond.instanceMethod yX11_sound ∈ gAll := gt_7 (j := 51) rfl rfl
theorem se_X11_sound : Cond.selects RX11 yX11_sound yX11_sound ∈ gAll := gt_7 (j := 52) rfl rfl
theorem mt_X5_isKept : gMt yX5_isKept cX5_isKept 2 (some (.boolean)) 1 := ⟨gt_7 (j := 58) rfl rfl, gt_1 (j := 9) rfl rfl, ⟨by decide +kernel, by decide +kernel⟩, by decide +kernel⟩
theorem mi_X5_isKept : Cond.instanceMethod yX5_isKept ∈ gAll := gt_7 (j := 56) rfl rfl
theorem se_X5_isKept : Cond.selects RX5 yX5_isKept yX5_isKept ∈ gAll := gt_7 (j := 57) rfl rfl
theorem mt_X11_flawsOf : gMt yX11_flawsOf cX11_flawsOf 6 (some (.int)) 3 := ⟨gt_7 (j := 62) rfl rfl, gt_1 (j := 1) rfl rfl, ⟨by decide +kernel, by decide +kernel⟩, by decide +kernel⟩
theorem mi_X11_flawsOf : Cond.instanceMethod yX11_flawsOf ∈ gAll := gt_7 (j := 61) rfl rfl
theorem se_X11_flawsOf : Cond.selects RX11 yX11_flawsOf yX11_flawsOf ∈ gAll := gs_3 (j := 7) (y := yX11_flawsOf) rfl
theorem mt_X11_isFlawed : gMt yX11_isFlawed cX11_isFlawed 7 (some (.boolean)) 4 := ⟨gt_7 (j := 67) rfl rfl, gt_1 (j := 1) rfl rfl, ⟨by decide +kernel, by decide +kernel⟩, by decide +kernel⟩
theorem mi_X11_isFlawed : Cond.instanceMethod yX11_isFlawed ∈ gAll := gt_7 (j := 66) rfl rfl
theorem se_X11_isFlawed : Cond.selects RX11 yX11_isFlawed yX11_isFlawed ∈ gAll := gs_3 (j := 8) (y := yX11_isFlawed) rfl
theorem mt_X11_refIs : gMt yX11_refIs cX11_refIs 5 (some (.int)) 3 := ⟨gt_7 (j := 71) rfl rfl, gt_1 (j := 1) rfl rfl, ⟨by decide +kernel, by decide +kernel⟩, by decide +kernel⟩
theorem mi_X11_refIs : Cond.instanceMethod yX11_refIs ∈ gAll := gt_7 (j := 69) rfl rfl
theorem se_X11_refIs : Cond.selects RX11 yX11_refIs yX11_refIs ∈ gAll := gt_7 (j := 70) rfl rfl
theorem mt_X11_historyIs : gMt yX11_historyIs cX11_historyIs 3 (some (.int)) 2 := ⟨gt_7 (j := 75) rfl rfl, gt_1 (j := 1) rfl rfl, ⟨by decide +kernel, by decide +kernel⟩, by decide +kernel⟩
theorem mi_X11_historyIs : Cond.instanceMethod yX11_historyIs ∈ gAll := gt_7 (j := 73) rfl rfl
theorem se_X11_historyIs : Cond.selects RX11 yX11_historyIs yX11_historyIs ∈ gAll := gt_7 (j := 74) rfl rfl
theorem mt_X11_childless : gMt yX11_childless cX11_childless 3 (some (.int)) 0 := ⟨gt_7 (j := 79) rfl rfl, gt_1 (j := 1) rfl rfl, ⟨by decide +kernel, by decide +kernel⟩, by decide +kernel⟩
theorem mi_X11_childless : Cond.instanceMethod yX11_childless ∈ gAll := gt_7 (j := 78) rfl rfl
theorem se_X11_childless : Cond.selects RX11 yX11_childless yX11_childless ∈ gAll := gs_3 (j := 9) (y := yX11_childless) rfl
theorem mt_X3_sizeInBoth : gMt yX3_sizeInBoth cX3_sizeInBoth 4 (some (.int)) 3 := ⟨gt_7 (j := 85) rfl rfl, gt_1 (j := 5) rfl rfl, ⟨by decide +kernel, by decide +kernel⟩, by decide +kernel⟩
theorem mi_X3_sizeInBoth : Cond.instanceMethod yX3_sizeInBoth ∈ gAll := gt_7 (j := 83) rfl rfl
theorem se_X3_sizeInBoth : Cond.selects RX3 yX3_sizeInBoth yX3_sizeInBoth ∈ gAll := gt_7 (j := 84) rfl rfl
theorem mt_X11_greatestGeneration : gMt yX11_greatestGeneration cX11_greatestGeneration 3 (some (.int)) 0 := ⟨gt_7 (j := 89) rfl rfl, gt_1 (j := 1) rfl rfl, ⟨by decide +kernel, by decide +kernel⟩, by decide +kernel⟩
theorem mi_X11_greatestGeneration : Cond.instanceMethod yX11_greatestGeneration ∈ gAll := gt_7 (j := 88) rfl rfl
theorem se_X11_greatestGeneration : Cond.selects RX11 yX11_greatestGeneration yX11_greatestGeneration ∈ gAll := gs_3 (j := 10) (y := yX11_greatestGeneration) rfl
theorem mt_X11_unlikeTrees : gMt yX11_unlikeTrees cX11_unlikeTrees 2 (some (.int)) 0 := ⟨gt_7 (j := 94) rfl rfl, gt_1 (j := 1) rfl rfl, ⟨by decide +kernel, by decide +kernel⟩, by decide +kernel⟩
theorem mi_X11_unlikeTrees : Cond.instanceMethod yX11_unlikeTrees ∈ gAll := gt_7 (j := 93) rfl rfl
theorem se_X11_unlikeTrees : Cond.selects RX11 yX11_unlikeTrees yX11_unlikeTrees ∈ gAll := gs_3 (j := 11) (y := yX11_unlikeTrees) rfl
theorem mt_X11_withParents : gMt yX11_withParents cX11_withParents 5 (some (.int)) 1 := ⟨gt_7 (j := 98) rfl rfl, gt_1 (j := 1) rfl rfl, ⟨by decide +kernel, by decide +kernel⟩, by decide +kernel⟩
theorem mi_X11_withParents : Cond.instanceMethod yX11_withParents ∈ gAll := gt_7 (j := 97) rfl rfl
theorem se_X11_withParents : Cond.selects RX11 yX11_withParents yX11_withParents ∈ gAll := gs_3 (j := 12) (y := yX11_withParents) rfl
theorem mt_X11_listing : gMt yX11_listing cX11_listing 6 (some (.int)) 2 := ⟨gt_7 (j := 102) rfl rfl, gt_1 (j := 1) rfl rfl, ⟨by decide +kernel, by decide +kernel⟩, by decide +kernel⟩
theorem mi_X11_listing : Cond.instanceMethod yX11_listing ∈ gAll := gt_7 (j := 100) rfl rfl
theorem se_X11_listing : Cond.selects RX11 yX11_listing yX11_listing ∈ gAll := gt_7 (j := 101) rfl rfl
theorem mt_X11_countChildren : gMt yX11_countChildren cX11_countChildren 3 none 0 := ⟨gt_7 (j := 106) rfl rfl, gt_1 (j := 1) rfl rfl, ⟨by decide +kernel, by decide +kernel⟩, by decide +kernel⟩
theorem mi_X11_countChildren : Cond.instanceMethod yX11_countChildren ∈ gAll := gt_7 (j := 105) rfl rfl
theorem se_X11_countChildren : Cond.selects RX11 yX11_countChildren yX11_countChildren ∈ gAll := gs_3 (j := 13) (y := yX11_countChildren) rfl
theorem mt_X11_nextListed : gMt yX11_nextListed cX11_nextListed 4 (some (.int)) 0 := ⟨gt_7 (j := 111) rfl rfl, gt_1 (j := 1) rfl rfl, ⟨by decide +kernel, by decide +kernel⟩, by decide +kernel⟩
theorem mi_X11_nextListed : Cond.instanceMethod yX11_nextListed ∈ gAll := gt_7 (j := 110) rfl rfl
theorem se_X11_nextListed : Cond.selects RX11 yX11_nextListed yX11_nextListed ∈ gAll := gs_3 (j := 14) (y := yX11_nextListed) rfl
theorem mt_X3_cut : gMt yX3_cut cX3_cut 3 none 2 := ⟨gt_7 (j := 115) rfl rfl, gt_1 (j := 5) rfl rfl, ⟨by decide +kernel, by decide +kernel⟩, by decide +kernel⟩
theorem mi_X3_cut : Cond.instanceMethod yX3_cut ∈ gAll := gt_7 (j := 113) rfl rfl
theorem se_X3_cut : Cond.selects RX3 yX3_cut yX3_cut ∈ gAll := gt_7 (j := 114) rfl rfl
theorem mt_X11_apart : gMt yX11_apart cX11_apart 5 (some (.int)) 3 := ⟨gt_7 (j := 120) rfl rfl, gt_1 (j := 1) rfl rfl, ⟨by decide +kernel, by decide +kernel⟩, by decide +kernel⟩
theorem mi_X11_apart : Cond.instanceMethod yX11_apart ∈ gAll := gt_7 (j := 118) rfl rfl
theorem se_X11_apart : Cond.selects RX11 yX11_apart yX11_apart ∈ gAll := gt_7 (j := 119) rfl rfl
theorem mt_X7_missesOf : gMt yX7_missesOf cX7_missesOf 5 (some (.int)) 1 := ⟨gt_7 (j := 124) rfl rfl, gt_1 (j := 11) rfl rfl, ⟨by decide +kernel, by decide +kernel⟩, by decide +kernel⟩
theorem mi_X7_missesOf : Cond.instanceMethod yX7_missesOf ∈ gAll := gt_7 (j := 122) rfl rfl
theorem se_X7_missesOf : Cond.selects RX7 yX7_missesOf yX7_missesOf ∈ gAll := gt_7 (j := 123) rfl rfl
theorem mt_X7_movesOf : gMt yX7_movesOf cX7_movesOf 5 (some (.int)) 1 := ⟨gt_7 (j := 128) rfl rfl, gt_1 (j := 11) rfl rfl, ⟨by decide +kernel, by decide +kernel⟩, by decide +kernel⟩
theorem mi_X7_movesOf : Cond.instanceMethod yX7_movesOf ∈ gAll := gt_7 (j := 126) rfl rfl
theorem se_X7_movesOf : Cond.selects RX7 yX7_movesOf yX7_movesOf ∈ gAll := gt_7 (j := 127) rfl rfl
theorem mt_X11_picked : gMt yX11_picked cX11_picked 4 (some (.int)) 2 := ⟨gt_7 (j := 132) rfl rfl, gt_1 (j := 1) rfl rfl, ⟨by decide +kernel, by decide +kernel⟩, by decide +kernel⟩
theorem mi_X11_picked : Cond.instanceMethod yX11_picked ∈ gAll := gt_7 (j := 130) rfl rfl
theorem se_X11_picked : Cond.selects RX11 yX11_picked yX11_picked ∈ gAll := gt_7 (j := 131) rfl rfl
theorem mt_X0_isLike : gMt yX0_isLike cX0_isLike 3 (some (.boolean)) 1 := ⟨gt_7 (j := 136) rfl rfl, gt_1 (j := 12) rfl rfl, ⟨by decide +kernel, by decide +kernel⟩, by decide +kernel⟩
theorem mi_X0_isLike : Cond.instanceMethod yX0_isLike ∈ gAll := gt_7 (j := 134) rfl rfl
theorem se_X0_isLike : Cond.selects RX0 yX0_isLike yX0_isLike ∈ gAll := gt_7 (j := 135) rfl rfl
theorem mt_X11_ancestor : gMt yX11_ancestor cX11_ancestor 3 (some (.int)) 2 := ⟨gt_7 (j := 140) rfl rfl, gt_1 (j := 1) rfl rfl, ⟨by decide +kernel, by decide +kernel⟩, by decide +kernel⟩
theorem mi_X11_ancestor : Cond.instanceMethod yX11_ancestor ∈ gAll := gt_7 (j := 138) rfl rfl
theorem se_X11_ancestor : Cond.selects RX11 yX11_ancestor yX11_ancestor ∈ gAll := gt_7 (j := 139) rfl rfl
theorem mt_X11_base : gMt yX11_base cX11_base 6 (some (.int)) 3 := ⟨gt_7 (j := 144) rfl rfl, gt_1 (j := 1) rfl rfl, ⟨by decide +kernel, by decide +kernel⟩, by decide +kernel⟩
theorem mi_X11_base : Cond.instanceMethod yX11_base ∈ gAll := gt_7 (j := 142) rfl rfl
theorem se_X11_base : Cond.selects RX11 yX11_base yX11_base ∈ gAll := gt_7 (j := 143) rfl rfl
theorem mt_X11_markBases : gMt yX11_markBases cX11_markBases 4 none 2 := ⟨gt_7 (j := 148) rfl rfl, gt_1 (j := 1) rfl rfl, ⟨by decide +kernel, by decide +kernel⟩, by decide +kernel⟩
theorem mi_X11_markBases : Cond.instanceMethod yX11_markBases ∈ gAll := gt_7 (j := 147) rfl rfl
theorem se_X11_markBases : Cond.selects RX11 yX11_markBases yX11_markBases ∈ gAll := gs_3 (j := 15) (y := yX11_markBases) rfl
theorem mt_X1_markWithAncestors : gMt yX1_markWithAncestors cX1_markWithAncestors 4 none 3 := ⟨gt_7 (j := 152) rfl rfl, gt_1 (j := 4) rfl rfl, ⟨by decide +kernel, by decide +kernel⟩, by decide +kernel⟩
theorem mi_X1_markWithAncestors : Cond.instanceMethod yX1_markWithAncestors ∈ gAll := gt_7 (j := 150) rfl rfl
theorem se_X1_markWithAncestors : Cond.selects RX1 yX1_markWithAncestors yX1_markWithAncestors ∈ gAll := gt_7 (j := 151) rfl rfl
theorem mt_X3_onlyIn : gMt yX3_onlyIn cX3_onlyIn 4 none 3 := ⟨gt_7 (j := 156) rfl rfl, gt_1 (j := 5) rfl rfl, ⟨by decide +kernel, by decide +kernel⟩, by decide +kernel⟩
theorem mi_X3_onlyIn : Cond.instanceMethod yX3_onlyIn ∈ gAll := gt_7 (j := 154) rfl rfl
theorem se_X3_onlyIn : Cond.selects RX3 yX3_onlyIn yX3_onlyIn ∈ gAll := gt_7 (j := 155) rfl rfl
theorem mt_X3_cutAll : gMt yX3_cutAll cX3_cutAll 4 none 3 := ⟨gt_7 (j := 161) rfl rfl, gt_1 (j := 5) rfl rfl, ⟨by decide +kernel, by decide +kernel⟩, by decide +kernel⟩
theorem mi_X3_cutAll : Cond.instanceMethod yX3_cutAll ∈ gAll := gt_7 (j := 159) rfl rfl
theorem se_X3_cutAll : Cond.selects RX3 yX3_cutAll yX3_cutAll ∈ gAll := gt_7 (j := 160) rfl rfl
theorem mt_X3_nth : gMt yX3_nth cX3_nth 5 (some (.int)) 2 := ⟨gt_7 (j := 165) rfl rfl, gt_1 (j := 5) rfl rfl, ⟨by decide +kernel, by decide +kernel⟩, by decide +kernel⟩
theorem mi_X3_nth : Cond.instanceMethod yX3_nth ∈ gAll := gt_7 (j := 163) rfl rfl
theorem se_X3_nth : Cond.selects RX3 yX3_nth yX3_nth ∈ gAll := gt_7 (j := 164) rfl rfl
theorem mt_X11_way : gMt yX11_way cX11_way 6 (some (.int)) 2 := ⟨gt_7 (j := 170) rfl rfl, gt_1 (j := 1) rfl rfl, ⟨by decide +kernel, by decide +kernel⟩, by decide +kernel⟩
theorem mi_X11_way : Cond.instanceMethod yX11_way ∈ gAll := gt_7 (j := 168) rfl rfl
theorem se_X11_way : Cond.selects RX11 yX11_way yX11_way ∈ gAll := gt_7 (j := 169) rfl rfl
theorem mt_X11_halving : gMt yX11_halving cX11_halving 11 (some (.int)) 3 := ⟨gt_7 (j := 174) rfl rfl, gt_1 (j := 1) rfl rfl, ⟨by decide +kernel, by decide +kernel⟩, by decide +kernel⟩
theorem mi_X11_halving : Cond.instanceMethod yX11_halving ∈ gAll := gt_7 (j := 172) rfl rfl
theorem se_X11_halving : Cond.selects RX11 yX11_halving yX11_halving ∈ gAll := gt_7 (j := 173) rfl rfl
theorem mt_X11_line : gMt yX11_line cX11_line 5 (some (.int)) 2 := ⟨gt_7 (j := 179) rfl rfl, gt_1 (j := 1) rfl rfl, ⟨by decide +kernel, by decide +kernel⟩, by decide +kernel⟩
theorem mi_X11_line : Cond.instanceMethod yX11_line ∈ gAll := gt_7 (j := 177) rfl rfl
theorem se_X11_line : Cond.selects RX11 yX11_line yX11_line ∈ gAll := gt_7 (j := 178) rfl rfl
theorem mt_X11_diff : gMt yX11_diff cX11_diff 4 (some (.int)) 3 := ⟨gt_7 (j := 183) rfl rfl, gt_1 (j := 1) rfl rfl, ⟨by decide +kernel, by decide +kernel⟩, by decide +kernel⟩
theorem mi_X11_diff : Cond.instanceMethod yX11_diff ∈ gAll := gt_7 (j := 181) rfl rfl
theorem se_X11_diff : Cond.selects RX11 yX11_diff yX11_diff ∈ gAll := gt_7 (j := 182) rfl rfl
theorem mt_X0_pairUp : gMt yX0_pairUp cX0_pairUp 3 none 0 := ⟨gt_7 (j := 187) rfl rfl, gt_1 (j := 12) rfl rfl, ⟨by decide +kernel, by decide +kernel⟩, by decide +kernel⟩
theorem mi_X0_pairUp : Cond.instanceMethod yX0_pairUp ∈ gAll := gt_7 (j := 185) rfl rfl
theorem se_X0_pairUp : Cond.selects RX0 yX0_pairUp yX0_pairUp ∈ gAll := gt_7 (j := 186) rfl rfl
theorem mt_X0_gather : gMt yX0_gather cX0_gather 2 none 0 := ⟨gt_7 (j := 191) rfl rfl, gt_1 (j := 12) rfl rfl, ⟨by decide +kernel, by decide +kernel⟩, by decide +kernel⟩
theorem mi_X0_gather : Cond.instanceMethod yX0_gather ∈ gAll := gt_7 (j := 190) rfl rfl
theorem se_X0_gather : Cond.selects RX0 yX0_gather yX0_gather ∈ gAll := gs_4 (j := 0) (y := yX0_gather) rfl
theorem mt_X0_alike : gMt yX0_alike cX0_alike 5 (some (.float)) 2 := ⟨gt_7 (j := 195) rfl rfl, gt_1 (j := 12) rfl rfl, ⟨by decide +kernel, by decide +kernel⟩, by decide +kernel⟩
theorem mi_X0_alike : Cond.instanceMethod yX0_alike ∈ gAll := gt_7 (j := 193) rfl rfl
theorem se_X0_alike : Cond.selects RX0 yX0_alike yX0_alike ∈ gAll := gt_7 (j := 194) rfl rfl
theorem mt_X0_spread : gMt yX0_spread cX0_spread 5 (some (.int)) 2 := ⟨gt_7 (j := 198) rfl rfl, gt_1 (j := 12) rfl rfl, ⟨by decide +kernel, by decide +kernel⟩, by decide +kernel⟩
theorem ms_X0_spread : Cond.static yX0_spread ∈ gAll := gt_7 (j := 197) rfl rfl
theorem mt_X0_longestInBoth : gMt yX0_longestInBoth cX0_longestInBoth 7 (some (.int)) 2 := ⟨gt_7 (j := 203) rfl rfl, gt_1 (j := 12) rfl rfl, ⟨by decide +kernel, by decide +kernel⟩, by decide +kernel⟩
theorem mi_X0_longestInBoth : Cond.instanceMethod yX0_longestInBoth ∈ gAll := gt_7 (j := 202) rfl rfl
theorem se_X0_longestInBoth : Cond.selects RX0 yX0_longestInBoth yX0_longestInBoth ∈ gAll := gs_4 (j := 1) (y := yX0_longestInBoth) rfl
theorem mt_X0_pairNext : gMt yX0_pairNext cX0_pairNext 7 (some (.boolean)) 0 := ⟨gt_7 (j := 209) rfl rfl, gt_1 (j := 12) rfl rfl, ⟨by decide +kernel, by decide +kernel⟩, by decide +kernel⟩
theorem mi_X0_pairNext : Cond.instanceMethod yX0_pairNext ∈ gAll := gt_7 (j := 208) rfl rfl
theorem se_X0_pairNext : Cond.selects RX0 yX0_pairNext yX0_pairNext ∈ gAll := gs_4 (j := 2) (y := yX0_pairNext) rfl
theorem mt_X0_countOf : gMt yX0_countOf cX0_countOf 4 (some (.int)) 1 := ⟨gt_7 (j := 214) rfl rfl, gt_1 (j := 12) rfl rfl, ⟨by decide +kernel, by decide +kernel⟩, by decide +kernel⟩
theorem mi_X0_countOf : Cond.instanceMethod yX0_countOf ∈ gAll := gt_7 (j := 212) rfl rfl
theorem se_X0_countOf : Cond.selects RX0 yX0_countOf yX0_countOf ∈ gAll := gt_7 (j := 213) rfl rfl
theorem mt_X11_renamed : gMt yX11_renamed cX11_renamed 5 (some (.int)) 4 := ⟨gt_7 (j := 218) rfl rfl, gt_1 (j := 1) rfl rfl, ⟨by decide +kernel, by decide +kernel⟩, by decide +kernel⟩
theorem mi_X11_renamed : Cond.instanceMethod yX11_renamed ∈ gAll := gt_7 (j := 216) rfl rfl
theorem se_X11_renamed : Cond.selects RX11 yX11_renamed yX11_renamed ∈ gAll := gt_7 (j := 217) rfl rfl
theorem mt_X11_floatBits : gMt yX11_floatBits cX11_floatBits 5 (some (.int)) 1 := ⟨gt_7 (j := 221) rfl rfl, gt_1 (j := 1) rfl rfl, ⟨by decide +kernel, by decide +kernel⟩, by decide +kernel⟩
theorem ms_X11_floatBits : Cond.static yX11_floatBits ∈ gAll := gt_7 (j := 220) rfl rfl
theorem mt_X11_hundredths : gMt yX11_hundredths cX11_hundredths 1 (some (.int)) 1 := ⟨gt_7 (j := 225) rfl rfl, gt_1 (j := 1) rfl rfl, ⟨by decide +kernel, by decide +kernel⟩, by decide +kernel⟩
theorem ms_X11_hundredths : Cond.static yX11_hundredths ∈ gAll := gt_7 (j := 224) rfl rfl
theorem mt_X11_likeness : gMt yX11_likeness cX11_likeness 9 (some (.int)) 5 := ⟨gt_7 (j := 230) rfl rfl, gt_1 (j := 1) rfl rfl, ⟨by decide +kernel, by decide +kernel⟩, by decide +kernel⟩
theorem mi_X11_likeness : Cond.instanceMethod yX11_likeness ∈ gAll := gt_7 (j := 228) rfl rfl
theorem se_X11_likeness : Cond.selects RX11 yX11_likeness yX11_likeness ∈ gAll := gt_7 (j := 229) rfl rfl
theorem mt_X11_isFile : gMt yX11_isFile cX11_isFile 1 (some (.boolean)) 1 := ⟨gt_7 (j := 233) rfl rfl, gt_1 (j := 1) rfl rfl, ⟨by decide +kernel, by decide +kernel⟩, by decide +kernel⟩
theorem ms_X11_isFile : Cond.static yX11_isFile ∈ gAll := gt_7 (j := 232) rfl rfl
theorem mt_X11_origin : gMt yX11_origin cX11_origin 15 (some (.int)) 3 := ⟨gt_7 (j := 238) rfl rfl, gt_1 (j := 1) rfl rfl, ⟨by decide +kernel, by decide +kernel⟩, by decide +kernel⟩
theorem mi_X11_origin : Cond.instanceMethod yX11_origin ∈ gAll := gt_7 (j := 236) rfl rfl
theorem se_X11_origin : Cond.selects RX11 yX11_origin yX11_origin ∈ gAll := gt_7 (j := 237) rfl rfl
theorem mt_X11_parentWithFile : gMt yX11_parentWithFile cX11_parentWithFile 5 (some (.int)) 2 := ⟨gt_8 (j := 2) rfl rfl, gt_1 (j := 1) rfl rfl, ⟨by decide +kernel, by decide +kernel⟩, by decide +kernel⟩
theorem mi_X11_parentWithFile : Cond.instanceMethod yX11_parentWithFile ∈ gAll := gt_8 (j := 1) rfl rfl
theorem se_X11_parentWithFile : Cond.selects RX11 yX11_parentWithFile yX11_parentWithFile ∈ gAll := gs_4 (j := 3) (y := yX11_parentWithFile) rfl
theorem mt_X11_parentRenamed : gMt yX11_parentRenamed cX11_parentRenamed 5 (some (.int)) 2 := ⟨gt_8 (j := 6) rfl rfl, gt_1 (j := 1) rfl rfl, ⟨by decide +kernel, by decide +kernel⟩, by decide +kernel⟩
theorem mi_X11_parentRenamed : Cond.instanceMethod yX11_parentRenamed ∈ gAll := gt_8 (j := 5) rfl rfl
theorem se_X11_parentRenamed : Cond.selects RX11 yX11_parentRenamed yX11_parentRenamed ∈ gAll := gs_4 (j := 4) (y := yX11_parentRenamed) rfl
theorem mt_X0_pairedWith : gMt yX0_pairedWith cX0_pairedWith 3 (some (.int)) 1 := ⟨gt_8 (j := 10) rfl rfl, gt_1 (j := 12) rfl rfl, ⟨by decide +kernel, by decide +kernel⟩, by decide +kernel⟩
theorem mi_X0_pairedWith : Cond.instanceMethod yX0_pairedWith ∈ gAll := gt_8 (j := 8) rfl rfl
theorem se_X0_pairedWith : Cond.selects RX0 yX0_pairedWith yX0_pairedWith ∈ gAll := gt_8 (j := 9) rfl rfl
theorem mt_X11_keep : gMt yX11_keep cX11_keep 2 (some (.int)) 0 := ⟨gt_8 (j := 14) rfl rfl, gt_1 (j := 1) rfl rfl, ⟨by decide +kernel, by decide +kernel⟩, by decide +kernel⟩
theorem mi_X11_keep : Cond.instanceMethod yX11_keep ∈ gAll := gt_8 (j := 12) rfl rfl
theorem se_X11_keep : Cond.selects RX11 yX11_keep yX11_keep ∈ gAll := gt_8 (j := 13) rfl rfl
theorem mt_X11_undo : gMt yX11_undo cX11_undo 2 (some (.boolean)) 0 := ⟨gt_8 (j := 18) rfl rfl, gt_1 (j := 1) rfl rfl, ⟨by decide +kernel, by decide +kernel⟩, by decide +kernel⟩
theorem mi_X11_undo : Cond.instanceMethod yX11_undo ∈ gAll := gt_8 (j := 16) rfl rfl
theorem se_X11_undo : Cond.selects RX11 yX11_undo yX11_undo ∈ gAll := gt_8 (j := 17) rfl rfl
theorem mt_X11_count : gMt yX11_count cX11_count 4 (some (.int)) 1 := ⟨gt_8 (j := 22) rfl rfl, gt_1 (j := 1) rfl rfl, ⟨by decide +kernel, by decide +kernel⟩, by decide +kernel⟩
theorem mi_X11_count : Cond.instanceMethod yX11_count ∈ gAll := gt_8 (j := 20) rfl rfl
theorem se_X11_count : Cond.selects RX11 yX11_count yX11_count ∈ gAll := gt_8 (j := 21) rfl rfl
theorem mt_X1_unlikeTrees : gMt yX1_unlikeTrees cX1_unlikeTrees 3 (some (.int)) 0 := ⟨gt_8 (j := 26) rfl rfl, gt_1 (j := 4) rfl rfl, ⟨by decide +kernel, by decide +kernel⟩, by decide +kernel⟩
theorem mi_X1_unlikeTrees : Cond.instanceMethod yX1_unlikeTrees ∈ gAll := gt_8 (j := 24) rfl rfl
theorem se_X1_unlikeTrees : Cond.selects RX1 yX1_unlikeTrees yX1_unlikeTrees ∈ gAll := gt_8 (j := 25) rfl rfl
theorem mt_X11_unlikeContents : gMt yX11_unlikeContents cX11_unlikeContents 5 (some (.int)) 0 := ⟨gt_8 (j := 30) rfl rfl, gt_1 (j := 1) rfl rfl, ⟨by decide +kernel, by decide +kernel⟩, by decide +kernel⟩
theorem mi_X11_unlikeContents : Cond.instanceMethod yX11_unlikeContents ∈ gAll := gt_8 (j := 29) rfl rfl
theorem se_X11_unlikeContents : Cond.selects RX11 yX11_unlikeContents yX11_unlikeContents ∈ gAll := gs_4 (j := 5) (y := yX11_unlikeContents) rfl
theorem mt_X11_isNewContent : gMt yX11_isNewContent cX11_isNewContent 4 (some (.boolean)) 1 := ⟨gt_8 (j := 34) rfl rfl, gt_1 (j := 1) rfl rfl, ⟨by decide +kernel, by decide +kernel⟩, by decide +kernel⟩
theorem mi_X11_isNewContent : Cond.instanceMethod yX11_isNewContent ∈ gAll := gt_8 (j := 33) rfl rfl
theorem se_X11_isNewContent : Cond.selects RX11 yX11_isNewContent yX11_isNewContent ∈ gAll := gs_4 (j := 6) (y := yX11_isNewContent) rfl
theorem mt_X12_init : gMt yX12_init cX12_init 2 none 0 := ⟨gt_8 (j := 39) rfl rfl, gt_1 (j := 17) rfl rfl, ⟨by decide +kernel, by decide +kernel⟩, by decide +kernel⟩
theorem mi_X12_init : Cond.instanceMethod yX12_init ∈ gAll := gt_8 (j := 38) rfl rfl
theorem mt_X12_commitIs : gMt yX12_commitIs cX12_commitIs 3 (some (.int)) 2 := ⟨gt_9 (j := 21) rfl rfl, gt_1 (j := 17) rfl rfl, ⟨by decide +kernel, by decide +kernel⟩, by decide +kernel⟩
theorem mi_X12_commitIs : Cond.instanceMethod yX12_commitIs ∈ gAll := gt_9 (j := 19) rfl rfl
theorem se_X12_commitIs : Cond.selects RX12 yX12_commitIs yX12_commitIs ∈ gAll := gt_9 (j := 20) rfl rfl
theorem mt_X12_isCommit : gMt yX12_isCommit cX12_isCommit 2 (some (.boolean)) 1 := ⟨gt_9 (j := 25) rfl rfl, gt_1 (j := 17) rfl rfl, ⟨by decide +kernel, by decide +kernel⟩, by decide +kernel⟩
theorem mi_X12_isCommit : Cond.instanceMethod yX12_isCommit ∈ gAll := gt_9 (j := 24) rfl rfl
theorem se_X12_isCommit : Cond.selects RX12 yX12_isCommit yX12_isCommit ∈ gAll := gs_4 (j := 7) (y := yX12_isCommit) rfl
theorem mt_X12_in : gMt yX12_in cX12_in 3 (some (.boolean)) 3 := ⟨gt_9 (j := 28) rfl rfl, gt_1 (j := 17) rfl rfl, ⟨by decide +kernel, by decide +kernel⟩, by decide +kernel⟩
theorem ms_X12_in : Cond.static yX12_in ∈ gAll := gt_9 (j := 27) rfl rfl
theorem mt_X12_parentAt : gMt yX12_parentAt cX12_parentAt 3 (some (.int)) 2 := ⟨gt_9 (j := 32) rfl rfl, gt_1 (j := 17) rfl rfl, ⟨by decide +kernel, by decide +kernel⟩, by decide +kernel⟩
theorem mi_X12_parentAt : Cond.instanceMethod yX12_parentAt ∈ gAll := gt_9 (j := 31) rfl rfl
theorem se_X12_parentAt : Cond.selects RX12 yX12_parentAt yX12_parentAt ∈ gAll := gs_4 (j := 8) (y := yX12_parentAt) rfl
theorem mt_X12_laysHeights : gMt yX12_laysHeights cX12_laysHeights 3 none 0 := ⟨gt_9 (j := 36) rfl rfl, gt_1 (j := 17) rfl rfl, ⟨by decide +kernel, by decide +kernel⟩, by decide +kernel⟩
theorem mi_X12_laysHeights : Cond.instanceMethod yX12_laysHeights ∈ gAll := gt_9 (j := 35) rfl rfl
theorem se_X12_laysHeights : Cond.selects RX12 yX12_laysHeights yX12_laysHeights ∈ gAll := gs_4 (j := 9) (y := yX12_laysHeights) rfl
theorem mt_X12_max : gMt yX12_max cX12_max 2 (some (.int)) 2 := ⟨gt_9 (j := 39) rfl rfl, gt_1 (j := 17) rfl rfl, ⟨by decide +kernel, by decide +kernel⟩, by decide +kernel⟩
theorem ms_X12_max : Cond.static yX12_max ∈ gAll := gt_9 (j := 38) rfl rfl
theorem mt_X12_marksWithAncestors : gMt yX12_marksWithAncestors cX12_marksWithAncestors 3 none 2 := ⟨gt_9 (j := 43) rfl rfl, gt_1 (j := 17) rfl rfl, ⟨by decide +kernel, by decide +kernel⟩, by decide +kernel⟩
theorem mi_X12_marksWithAncestors : Cond.instanceMethod yX12_marksWithAncestors ∈ gAll := gt_9 (j := 42) rfl rfl
theorem se_X12_marksWithAncestors : Cond.selects RX12 yX12_marksWithAncestors yX12_marksWithAncestors ∈ gAll := gs_4 (j := 10) (y := yX12_marksWithAncestors) rfl
theorem mt_X12_clears : gMt yX12_clears cX12_clears 2 none 1 := ⟨gt_9 (j := 46) rfl rfl, gt_1 (j := 17) rfl rfl, ⟨by decide +kernel, by decide +kernel⟩, by decide +kernel⟩
theorem ms_X12_clears : Cond.static yX12_clears ∈ gAll := gt_9 (j := 45) rfl rfl
theorem mt_X12_walksBack : gMt yX12_walksBack cX12_walksBack 4 none 1 := ⟨gt_9 (j := 50) rfl rfl, gt_1 (j := 17) rfl rfl, ⟨by decide +kernel, by decide +kernel⟩, by decide +kernel⟩
theorem mi_X12_walksBack : Cond.instanceMethod yX12_walksBack ∈ gAll := gt_9 (j := 49) rfl rfl
theorem se_X12_walksBack : Cond.selects RX12 yX12_walksBack yX12_walksBack ∈ gAll := gs_4 (j := 11) (y := yX12_walksBack) rfl
theorem mt_X12_sizeOf : gMt yX12_sizeOf cX12_sizeOf 3 (some (.int)) 1 := ⟨gt_9 (j := 53) rfl rfl, gt_1 (j := 17) rfl rfl, ⟨by decide +kernel, by decide +kernel⟩, by decide +kernel⟩
theorem ms_X12_sizeOf : Cond.static yX12_sizeOf ∈ gAll := gt_9 (j := 52) rfl rfl
theorem mt_X12_children : gMt yX12_children cX12_children 5 (some (.int)) 1 := ⟨gt_9 (j := 57) rfl rfl, gt_1 (j := 17) rfl rfl, ⟨by decide +kernel, by decide +kernel⟩, by decide +kernel⟩
theorem mi_X12_children : Cond.instanceMethod yX12_children ∈ gAll := gt_9 (j := 56) rfl rfl
theorem se_X12_children : Cond.selects RX12 yX12_children yX12_children ∈ gAll := gs_4 (j := 12) (y := yX12_children) rfl
theorem mt_X12_unlikeParent : gMt yX12_unlikeParent cX12_unlikeParent 3 (some (.int)) 1 := ⟨gt_9 (j := 61) rfl rfl, gt_1 (j := 17) rfl rfl, ⟨by decide +kernel, by decide +kernel⟩, by decide +kernel⟩
theorem mi_X12_unlikeParent : Cond.instanceMethod yX12_unlikeParent ∈ gAll := gt_9 (j := 60) rfl rfl
theorem se_X12_unlikeParent : Cond.selects RX12 yX12_unlikeParent yX12_unlikeParent ∈ gAll := gs_4 (j := 13) (y := yX12_unlikeParent) rfl
theorem mt_X12_gone : gMt yX12_gone cX12_gone 5 (some (.int)) 2 := ⟨gt_9 (j := 65) rfl rfl, gt_1 (j := 17) rfl rfl, ⟨by decide +kernel, by decide +kernel⟩, by decide +kernel⟩
theorem mi_X12_gone : Cond.instanceMethod yX12_gone ∈ gAll := gt_9 (j := 64) rfl rfl
theorem se_X12_gone : Cond.selects RX12 yX12_gone yX12_gone ∈ gAll := gs_4 (j := 14) (y := yX12_gone) rfl
theorem mt_X12_pathAt : gMt yX12_pathAt cX12_pathAt 3 (some (.int)) 2 := ⟨gt_9 (j := 69) rfl rfl, gt_1 (j := 17) rfl rfl, ⟨by decide +kernel, by decide +kernel⟩, by decide +kernel⟩
theorem mi_X12_pathAt : Cond.instanceMethod yX12_pathAt ∈ gAll := gt_9 (j := 68) rfl rfl
theorem se_X12_pathAt : Cond.selects RX12 yX12_pathAt yX12_pathAt ∈ gAll := gs_4 (j := 15) (y := yX12_pathAt) rfl
theorem mt_X12_rowOf : gMt yX12_rowOf cX12_rowOf 1 (some (.int)) 1 := ⟨gt_9 (j := 72) rfl rfl, gt_1 (j := 17) rfl rfl, ⟨by decide +kernel, by decide +kernel⟩, by decide +kernel⟩
theorem ms_X12_rowOf : Cond.static yX12_rowOf ∈ gAll := gt_9 (j := 71) rfl rfl
theorem mt_X12_fileAt : gMt yX12_fileAt cX12_fileAt 4 (some (.int)) 2 := ⟨gt_9 (j := 76) rfl rfl, gt_1 (j := 17) rfl rfl, ⟨by decide +kernel, by decide +kernel⟩, by decide +kernel⟩
theorem mi_X12_fileAt : Cond.instanceMethod yX12_fileAt ∈ gAll := gt_9 (j := 75) rfl rfl
theorem se_X12_fileAt : Cond.selects RX12 yX12_fileAt yX12_fileAt ∈ gAll := gs_5 (j := 0) (y := yX12_fileAt) rfl
theorem mt_X12_newOnes : gMt yX12_newOnes cX12_newOnes 3 (some (.int)) 2 := ⟨gt_9 (j := 80) rfl rfl, gt_1 (j := 17) rfl rfl, ⟨by decide +kernel, by decide +kernel⟩, by decide +kernel⟩
theorem mi_X12_newOnes : Cond.instanceMethod yX12_newOnes ∈ gAll := gt_9 (j := 79) rfl rfl
theorem se_X12_newOnes : Cond.selects RX12 yX12_newOnes yX12_newOnes ∈ gAll := gs_5 (j := 1) (y := yX12_newOnes) rfl
theorem mt_X12_changed : gMt yX12_changed cX12_changed 6 (some (.int)) 2 := ⟨gt_9 (j := 84) rfl rfl, gt_1 (j := 17) rfl rfl, ⟨by decide +kernel, by decide +kernel⟩, by decide +kernel⟩
theorem mi_X12_changed : Cond.instanceMethod yX12_changed ∈ gAll := gt_9 (j := 83) rfl rfl
theorem se_X12_changed : Cond.selects RX12 yX12_changed yX12_changed ∈ gAll := gs_5 (j := 2) (y := yX12_changed) rfl
theorem mt_X12_contentBy : gMt yX12_contentBy cX12_contentBy 4 (some (.int)) 2 := ⟨gt_9 (j := 88) rfl rfl, gt_1 (j := 17) rfl rfl, ⟨by decide +kernel, by decide +kernel⟩, by decide +kernel⟩
theorem mi_X12_contentBy : Cond.instanceMethod yX12_contentBy ∈ gAll := gt_9 (j := 87) rfl rfl
theorem se_X12_contentBy : Cond.selects RX12 yX12_contentBy yX12_contentBy ∈ gAll := gs_5 (j := 3) (y := yX12_contentBy) rfl
theorem mt_X12_contentAt : gMt yX12_contentAt cX12_contentAt 3 (some (.int)) 2 := ⟨gt_9 (j := 92) rfl rfl, gt_1 (j := 17) rfl rfl, ⟨by decide +kernel, by decide +kernel⟩, by decide +kernel⟩
theorem mi_X12_contentAt : Cond.instanceMethod yX12_contentAt ∈ gAll := gt_9 (j := 91) rfl rfl
theorem se_X12_contentAt : Cond.selects RX12 yX12_contentAt yX12_contentAt ∈ gAll := gs_5 (j := 4) (y := yX12_contentAt) rfl
theorem mt_X12_ancestor : gMt yX12_ancestor cX12_ancestor 3 (some (.int)) 2 := ⟨gt_9 (j := 96) rfl rfl, gt_1 (j := 17) rfl rfl, ⟨by decide +kernel, by decide +kernel⟩, by decide +kernel⟩
theorem mi_X12_ancestor : Cond.instanceMethod yX12_ancestor ∈ gAll := gt_9 (j := 94) rfl rfl
theorem se_X12_ancestor : Cond.selects RX12 yX12_ancestor yX12_ancestor ∈ gAll := gt_9 (j := 95) rfl rfl
theorem mt_X12_isAncestor : gMt yX12_isAncestor cX12_isAncestor 3 (some (.boolean)) 2 := ⟨gt_9 (j := 100) rfl rfl, gt_1 (j := 17) rfl rfl, ⟨by decide +kernel, by decide +kernel⟩, by decide +kernel⟩
theorem mi_X12_isAncestor : Cond.instanceMethod yX12_isAncestor ∈ gAll := gt_9 (j := 99) rfl rfl
theorem se_X12_isAncestor : Cond.selects RX12 yX12_isAncestor yX12_isAncestor ∈ gAll := gs_5 (j := 5) (y := yX12_isAncestor) rfl
theorem mt_X12_feed : gMt yX12_feed cX12_feed 6 (some (.int)) 5 := ⟨gt_9 (j := 104) rfl rfl, gt_1 (j := 17) rfl rfl, ⟨by decide +kernel, by decide +kernel⟩, by decide +kernel⟩
theorem mi_X12_feed : Cond.instanceMethod yX12_feed ∈ gAll := gt_9 (j := 102) rfl rfl
theorem se_X12_feed : Cond.selects RX12 yX12_feed yX12_feed ∈ gAll := gt_9 (j := 103) rfl rfl
theorem mt_X12_types : gMt yX12_types cX12_types 3 none 1 := ⟨gt_9 (j := 108) rfl rfl, gt_1 (j := 17) rfl rfl, ⟨by decide +kernel, by decide +kernel⟩, by decide +kernel⟩
theorem mi_X12_types : Cond.instanceMethod yX12_types ∈ gAll := gt_9 (j := 107) rfl rfl
theorem se_X12_types : Cond.selects RX12 yX12_types yX12_types ∈ gAll := gs_5 (j := 6) (y := yX12_types) rfl
theorem mt_X12_commit : gMt yX12_commit cX12_commit 5 (some (.int)) 3 := ⟨gt_9 (j := 112) rfl rfl, gt_1 (j := 17) rfl rfl, ⟨by decide +kernel, by decide +kernel⟩, by decide +kernel⟩
theorem mi_X12_commit : Cond.instanceMethod yX12_commit ∈ gAll := gt_9 (j := 110) rfl rfl
theorem se_X12_commit : Cond.selects RX12 yX12_commit yX12_commit ∈ gAll := gt_9 (j := 111) rfl rfl
theorem mt_X12_beginsText : gMt yX12_beginsText cX12_beginsText 2 none 1 := ⟨gt_9 (j := 116) rfl rfl, gt_1 (j := 17) rfl rfl, ⟨by decide +kernel, by decide +kernel⟩, by decide +kernel⟩
theorem mi_X12_beginsText : Cond.instanceMethod yX12_beginsText ∈ gAll := gt_9 (j := 115) rfl rfl
theorem se_X12_beginsText : Cond.selects RX12 yX12_beginsText yX12_beginsText ∈ gAll := gs_5 (j := 7) (y := yX12_beginsText) rfl
theorem mt_X12_readsParents : gMt yX12_readsParents cX12_readsParents 1 (some (.boolean)) 0 := ⟨gt_9 (j := 120) rfl rfl, gt_1 (j := 17) rfl rfl, ⟨by decide +kernel, by decide +kernel⟩, by decide +kernel⟩
theorem mi_X12_readsParents : Cond.instanceMethod yX12_readsParents ∈ gAll := gt_9 (j := 119) rfl rfl
theorem se_X12_readsParents : Cond.selects RX12 yX12_readsParents yX12_readsParents ∈ gAll := gs_5 (j := 8) (y := yX12_readsParents) rfl
theorem mt_X12_here : gMt yX12_here cX12_here 1 (some (.int)) 0 := ⟨gt_9 (j := 124) rfl rfl, gt_1 (j := 17) rfl rfl, ⟨by decide +kernel, by decide +kernel⟩, by decide +kernel⟩
theorem mi_X12_here : Cond.instanceMethod yX12_here ∈ gAll := gt_9 (j := 123) rfl rfl
theorem se_X12_here : Cond.selects RX12 yX12_here yX12_here ∈ gAll := gs_5 (j := 9) (y := yX12_here) rfl
theorem mt_X12_readsParent : gMt yX12_readsParent cX12_readsParent 2 (some (.boolean)) 0 := ⟨gt_9 (j := 128) rfl rfl, gt_1 (j := 17) rfl rfl, ⟨by decide +kernel, by decide +kernel⟩, by decide +kernel⟩
theorem mi_X12_readsParent : Cond.instanceMethod yX12_readsParent ∈ gAll := gt_9 (j := 127) rfl rfl
theorem se_X12_readsParent : Cond.selects RX12 yX12_readsParent yX12_readsParent ∈ gAll := gs_5 (j := 10) (y := yX12_readsParent) rfl
theorem mt_X12_isDigit : gMt yX12_isDigit cX12_isDigit 1 (some (.boolean)) 1 := ⟨gt_9 (j := 131) rfl rfl, gt_1 (j := 17) rfl rfl, ⟨by decide +kernel, by decide +kernel⟩, by decide +kernel⟩
theorem ms_X12_isDigit : Cond.static yX12_isDigit ∈ gAll := gt_9 (j := 130) rfl rfl
theorem mt_X12_wrongAt : gMt yX12_wrongAt cX12_wrongAt 3 (some (.boolean)) 2 := ⟨gt_9 (j := 135) rfl rfl, gt_1 (j := 17) rfl rfl, ⟨by decide +kernel, by decide +kernel⟩, by decide +kernel⟩
theorem mi_X12_wrongAt : Cond.instanceMethod yX12_wrongAt ∈ gAll := gt_9 (j := 134) rfl rfl
theorem se_X12_wrongAt : Cond.selects RX12 yX12_wrongAt yX12_wrongAt ∈ gAll := gs_5 (j := 11) (y := yX12_wrongAt) rfl
theorem mt_X12_readsNumber : gMt yX12_readsNumber cX12_readsNumber 2 (some (.boolean)) 0 := ⟨gt_9 (j := 139) rfl rfl, gt_1 (j := 17) rfl rfl, ⟨by decide +kernel, by decide +kernel⟩, by decide +kernel⟩
theorem mi_X12_readsNumber : Cond.instanceMethod yX12_readsNumber ∈ gAll := gt_9 (j := 138) rfl rfl
theorem se_X12_readsNumber : Cond.selects RX12 yX12_readsNumber yX12_readsNumber ∈ gAll := gs_5 (j := 12) (y := yX12_readsNumber) rfl
theorem mt_X12_isTold : gMt yX12_isTold cX12_isTold 3 (some (.boolean)) 1 := ⟨gt_9 (j := 143) rfl rfl, gt_1 (j := 17) rfl rfl, ⟨by decide +kernel, by decide +kernel⟩, by decide +kernel⟩
theorem mi_X12_isTold : Cond.instanceMethod yX12_isTold ∈ gAll := gt_9 (j := 142) rfl rfl
theorem se_X12_isTold : Cond.selects RX12 yX12_isTold yX12_isTold ∈ gAll := gs_5 (j := 13) (y := yX12_isTold) rfl
theorem mt_X12_takesSign : gMt yX12_takesSign cX12_takesSign 2 (some (.boolean)) 1 := ⟨gt_9 (j := 147) rfl rfl, gt_1 (j := 17) rfl rfl, ⟨by decide +kernel, by decide +kernel⟩, by decide +kernel⟩
theorem mi_X12_takesSign : Cond.instanceMethod yX12_takesSign ∈ gAll := gt_9 (j := 146) rfl rfl
theorem se_X12_takesSign : Cond.selects RX12 yX12_takesSign yX12_takesSign ∈ gAll := gs_5 (j := 14) (y := yX12_takesSign) rfl
theorem mt_X12_readsEdits : gMt yX12_readsEdits cX12_readsEdits 1 (some (.boolean)) 0 := ⟨gt_9 (j := 151) rfl rfl, gt_1 (j := 17) rfl rfl, ⟨by decide +kernel, by decide +kernel⟩, by decide +kernel⟩
theorem mi_X12_readsEdits : Cond.instanceMethod yX12_readsEdits ∈ gAll := gt_9 (j := 150) rfl rfl
theorem se_X12_readsEdits : Cond.selects RX12 yX12_readsEdits yX12_readsEdits ∈ gAll := gs_5 (j := 15) (y := yX12_readsEdits) rfl
theorem mt_X12_copyTree : gMt yX12_copyTree cX12_copyTree 4 none 2 := ⟨gt_9 (j := 155) rfl rfl, gt_1 (j := 17) rfl rfl, ⟨by decide +kernel, by decide +kernel⟩, by decide +kernel⟩
theorem mi_X12_copyTree : Cond.instanceMethod yX12_copyTree ∈ gAll := gt_9 (j := 154) rfl rfl
theorem se_X12_copyTree : Cond.selects RX12 yX12_copyTree yX12_copyTree ∈ gAll := gs_6 (j := 0) (y := yX12_copyTree) rfl
theorem mt_X12_readsEdit : gMt yX12_readsEdit cX12_readsEdit 3 (some (.boolean)) 0 := ⟨gt_9 (j := 159) rfl rfl, gt_1 (j := 17) rfl rfl, ⟨by decide +kernel, by decide +kernel⟩, by decide +kernel⟩
theorem mi_X12_readsEdit : Cond.instanceMethod yX12_readsEdit ∈ gAll := gt_9 (j := 158) rfl rfl
theorem se_X12_readsEdit : Cond.selects RX12 yX12_readsEdit yX12_readsEdit ∈ gAll := gs_6 (j := 1) (y := yX12_readsEdit) rfl
theorem mt_X12_setsFile : gMt yX12_setsFile cX12_setsFile 4 (some (.boolean)) 1 := ⟨gt_9 (j := 163) rfl rfl, gt_1 (j := 17) rfl rfl, ⟨by decide +kernel, by decide +kernel⟩, by decide +kernel⟩
theorem mi_X12_setsFile : Cond.instanceMethod yX12_setsFile ∈ gAll := gt_9 (j := 162) rfl rfl
theorem se_X12_setsFile : Cond.selects RX12 yX12_setsFile yX12_setsFile ∈ gAll := gs_6 (j := 2) (y := yX12_setsFile) rfl
theorem mt_X12_readsPath : gMt yX12_readsPath cX12_readsPath 3 (some (.boolean)) 1 := ⟨gt_9 (j := 167) rfl rfl, gt_1 (j := 17) rfl rfl, ⟨by decide +kernel, by decide +kernel⟩, by decide +kernel⟩
theorem mi_X12_readsPath : Cond.instanceMethod yX12_readsPath ∈ gAll := gt_9 (j := 166) rfl rfl
theorem se_X12_readsPath : Cond.selects RX12 yX12_readsPath yX12_readsPath ∈ gAll := gs_6 (j := 3) (y := yX12_readsPath) rfl
theorem mt_X12_isSmall : gMt yX12_isSmall cX12_isSmall 1 (some (.boolean)) 1 := ⟨gt_9 (j := 170) rfl rfl, gt_1 (j := 17) rfl rfl, ⟨by decide +kernel, by decide +kernel⟩, by decide +kernel⟩
theorem ms_X12_isSmall : Cond.static yX12_isSmall ∈ gAll := gt_9 (j := 169) rfl rfl
theorem mt_X12_readsContent : gMt yX12_readsContent cX12_readsContent 2 (some (.boolean)) 0 := ⟨gt_9 (j := 174) rfl rfl, gt_1 (j := 17) rfl rfl, ⟨by decide +kernel, by decide +kernel⟩, by decide +kernel⟩
theorem mi_X12_readsContent : Cond.instanceMethod yX12_readsContent ∈ gAll := gt_9 (j := 173) rfl rfl
theorem se_X12_readsContent : Cond.selects RX12 yX12_readsContent yX12_readsContent ∈ gAll := gs_6 (j := 4) (y := yX12_readsContent) rfl
theorem mt_X12_kindAt : gMt yX12_kindAt cX12_kindAt 3 (some (.int)) 2 := ⟨gt_9 (j := 178) rfl rfl, gt_1 (j := 17) rfl rfl, ⟨by decide +kernel, by decide +kernel⟩, by decide +kernel⟩
theorem mi_X12_kindAt : Cond.instanceMethod yX12_kindAt ∈ gAll := gt_9 (j := 177) rfl rfl
theorem se_X12_kindAt : Cond.selects RX12 yX12_kindAt yX12_kindAt ∈ gAll := gs_6 (j := 5) (y := yX12_kindAt) rfl
theorem mt_X12_filesBelow : gMt yX12_filesBelow cX12_filesBelow 5 (some (.int)) 2 := ⟨gt_9 (j := 182) rfl rfl, gt_1 (j := 17) rfl rfl, ⟨by decide +kernel, by decide +kernel⟩, by decide +kernel⟩
theorem mi_X12_filesBelow : Cond.instanceMethod yX12_filesBelow ∈ gAll := gt_9 (j := 181) rfl rfl
theorem se_X12_filesBelow : Cond.selects RX12 yX12_filesBelow yX12_filesBelow ∈ gAll := gs_6 (j := 6) (y := yX12_filesBelow) rfl
theorem mt_X12_isAtOrBelow : gMt yX12_isAtOrBelow cX12_isAtOrBelow 2 (some (.boolean)) 2 := ⟨gt_9 (j := 185) rfl rfl, gt_1 (j := 17) rfl rfl, ⟨by decide +kernel, by decide +kernel⟩, by decide +kernel⟩
theorem ms_X12_isAtOrBelow : Cond.static yX12_isAtOrBelow ∈ gAll := gt_9 (j := 184) rfl rfl
theorem mt_X12_begins : gMt yX12_begins cX12_begins 3 (some (.boolean)) 2 := ⟨gt_9 (j := 188) rfl rfl, gt_1 (j := 17) rfl rfl, ⟨by decide +kernel, by decide +kernel⟩, by decide +kernel⟩
theorem ms_X12_begins : Cond.static yX12_begins ∈ gAll := gt_9 (j := 187) rfl rfl
theorem mt_X12_names : gMt yX12_names cX12_names 2 (some (.int)) 1 := ⟨gt_9 (j := 191) rfl rfl, gt_1 (j := 17) rfl rfl, ⟨by decide +kernel, by decide +kernel⟩, by decide +kernel⟩
theorem ms_X12_names : Cond.static yX12_names ∈ gAll := gt_9 (j := 190) rfl rfl
theorem mt_X12_isBarred : gMt yX12_isBarred cX12_isBarred 4 (some (.boolean)) 2 := ⟨gt_9 (j := 195) rfl rfl, gt_1 (j := 17) rfl rfl, ⟨by decide +kernel, by decide +kernel⟩, by decide +kernel⟩
theorem mi_X12_isBarred : Cond.instanceMethod yX12_isBarred ∈ gAll := gt_9 (j := 194) rfl rfl
theorem se_X12_isBarred : Cond.selects RX12 yX12_isBarred yX12_isBarred ∈ gAll := gs_6 (j := 7) (y := yX12_isBarred) rfl
theorem mt_X12_puts : gMt yX12_puts cX12_puts 6 none 3 := ⟨gt_9 (j := 199) rfl rfl, gt_1 (j := 17) rfl rfl, ⟨by decide +kernel, by decide +kernel⟩, by decide +kernel⟩
theorem mi_X12_puts : Cond.instanceMethod yX12_puts ∈ gAll := gt_9 (j := 198) rfl rfl
theorem se_X12_puts : Cond.selects RX12 yX12_puts yX12_puts ∈ gAll := gs_6 (j := 8) (y := yX12_puts) rfl
theorem mt_X12_takesAway : gMt yX12_takesAway cX12_takesAway 2 (some (.boolean)) 1 := ⟨gt_9 (j := 203) rfl rfl, gt_1 (j := 17) rfl rfl, ⟨by decide +kernel, by decide +kernel⟩, by decide +kernel⟩
theorem mi_X12_takesAway : Cond.instanceMethod yX12_takesAway ∈ gAll := gt_9 (j := 202) rfl rfl
theorem se_X12_takesAway : Cond.selects RX12 yX12_takesAway yX12_takesAway ∈ gAll := gs_6 (j := 9) (y := yX12_takesAway) rfl
theorem mt_X12_takes : gMt yX12_takes cX12_takes 6 none 2 := ⟨gt_9 (j := 207) rfl rfl, gt_1 (j := 17) rfl rfl, ⟨by decide +kernel, by decide +kernel⟩, by decide +kernel⟩
theorem mi_X12_takes : Cond.instanceMethod yX12_takes ∈ gAll := gt_9 (j := 206) rfl rfl
theorem se_X12_takes : Cond.selects RX12 yX12_takes yX12_takes ∈ gAll := gs_6 (j := 10) (y := yX12_takes) rfl
theorem mt_X12_movesThere : gMt yX12_movesThere cX12_movesThere 5 (some (.boolean)) 1 := ⟨gt_9 (j := 211) rfl rfl, gt_1 (j := 17) rfl rfl, ⟨by decide +kernel, by decide +kernel⟩, by decide +kernel⟩
theorem mi_X12_movesThere : Cond.instanceMethod yX12_movesThere ∈ gAll := gt_9 (j := 210) rfl rfl
theorem se_X12_movesThere : Cond.selects RX12 yX12_movesThere yX12_movesThere ∈ gAll := gs_6 (j := 11) (y := yX12_movesThere) rfl
theorem mt_X12_isTooLong : gMt yX12_isTooLong cX12_isTooLong 4 (some (.boolean)) 2 := ⟨gt_9 (j := 215) rfl rfl, gt_1 (j := 17) rfl rfl, ⟨by decide +kernel, by decide +kernel⟩, by decide +kernel⟩
theorem mi_X12_isTooLong : Cond.instanceMethod yX12_isTooLong ∈ gAll := gt_9 (j := 214) rfl rfl
theorem se_X12_isTooLong : Cond.selects RX12 yX12_isTooLong yX12_isTooLong ∈ gAll := gs_6 (j := 12) (y := yX12_isTooLong) rfl
theorem mt_X12_moved : gMt yX12_moved cX12_moved 4 (some (.int)) 3 := ⟨gt_9 (j := 218) rfl rfl, gt_1 (j := 17) rfl rfl, ⟨by decide +kernel, by decide +kernel⟩, by decide +kernel⟩
theorem ms_X12_moved : Cond.static yX12_moved ∈ gAll := gt_9 (j := 217) rfl rfl
theorem mt_X12_fetches : gMt yX12_fetches cX12_fetches 6 (some (.boolean)) 1 := ⟨gt_9 (j := 223) rfl rfl, gt_1 (j := 17) rfl rfl, ⟨by decide +kernel, by decide +kernel⟩, by decide +kernel⟩
theorem mi_X12_fetches : Cond.instanceMethod yX12_fetches ∈ gAll := gt_9 (j := 222) rfl rfl
theorem se_X12_fetches : Cond.selects RX12 yX12_fetches yX12_fetches ∈ gAll := gs_6 (j := 13) (y := yX12_fetches) rfl
theorem mt_X12_readsSaid : gMt yX12_readsSaid cX12_readsSaid 1 (some (.boolean)) 0 := ⟨gt_9 (j := 227) rfl rfl, gt_1 (j := 17) rfl rfl, ⟨by decide +kernel, by decide +kernel⟩, by decide +kernel⟩
theorem mi_X12_readsSaid : Cond.instanceMethod yX12_readsSaid ∈ gAll := gt_9 (j := 226) rfl rfl
theorem se_X12_readsSaid : Cond.selects RX12 yX12_readsSaid yX12_readsSaid ∈ gAll := gs_6 (j := 14) (y := yX12_readsSaid) rfl
theorem mt_X12_comes : gMt yX12_comes cX12_comes 6 (some (.int)) 3 := ⟨gt_9 (j := 231) rfl rfl, gt_1 (j := 17) rfl rfl, ⟨by decide +kernel, by decide +kernel⟩, by decide +kernel⟩
theorem mi_X12_comes : Cond.instanceMethod yX12_comes ∈ gAll := gt_9 (j := 230) rfl rfl
theorem se_X12_comes : Cond.selects RX12 yX12_comes yX12_comes ∈ gAll := gs_6 (j := 15) (y := yX12_comes) rfl
theorem mt_X12_isSameAs : gMt yX12_isSameAs cX12_isSameAs 6 (some (.boolean)) 4 := ⟨gt_9 (j := 235) rfl rfl, gt_1 (j := 17) rfl rfl, ⟨by decide +kernel, by decide +kernel⟩, by decide +kernel⟩
theorem mi_X12_isSameAs : Cond.instanceMethod yX12_isSameAs ∈ gAll := gt_9 (j := 234) rfl rfl
theorem se_X12_isSameAs : Cond.selects RX12 yX12_isSameAs yX12_isSameAs ∈ gAll := gs_7 (j := 0) (y := yX12_isSameAs) rfl
theorem mt_X12_areLike : gMt yX12_areLike cX12_areLike 4 (some (.boolean)) 2 := ⟨gt_9 (j := 239) rfl rfl, gt_1 (j := 17) rfl rfl, ⟨by decide +kernel, by decide +kernel⟩, by decide +kernel⟩
theorem mi_X12_areLike : Cond.instanceMethod yX12_areLike ∈ gAll := gt_9 (j := 238) rfl rfl
theorem se_X12_areLike : Cond.selects RX12 yX12_areLike yX12_areLike ∈ gAll := gs_7 (j := 1) (y := yX12_areLike) rfl
theorem mt_X12_ref : gMt yX12_ref cX12_ref 7 (some (.int)) 4 := ⟨gt_10 (j := 3) rfl rfl, gt_1 (j := 17) rfl rfl, ⟨by decide +kernel, by decide +kernel⟩, by decide +kernel⟩
theorem mi_X12_ref : Cond.instanceMethod yX12_ref ∈ gAll := gt_10 (j := 1) rfl rfl
theorem se_X12_ref : Cond.selects RX12 yX12_ref yX12_ref ∈ gAll := gt_10 (j := 2) rfl rfl
theorem mt_X12_isHistory : gMt yX12_isHistory cX12_isHistory 1 (some (.boolean)) 1 := ⟨gt_10 (j := 6) rfl rfl, gt_1 (j := 17) rfl rfl, ⟨by decide +kernel, by decide +kernel⟩, by decide +kernel⟩
theorem ms_X12_isHistory : Cond.static yX12_isHistory ∈ gAll := gt_10 (j := 5) rfl rfl
theorem mt_X12_refs : gMt yX12_refs cX12_refs 4 (some (.int)) 1 := ⟨gt_10 (j := 10) rfl rfl, gt_1 (j := 17) rfl rfl, ⟨by decide +kernel, by decide +kernel⟩, by decide +kernel⟩
theorem mi_X12_refs : Cond.instanceMethod yX12_refs ∈ gAll := gt_10 (j := 9) rfl rfl
theorem se_X12_refs : Cond.selects RX12 yX12_refs yX12_refs ∈ gAll := gs_7 (j := 2) (y := yX12_refs) rfl
theorem mt_X12_laysRef : gMt yX12_laysRef cX12_laysRef 5 none 4 := ⟨gt_10 (j := 14) rfl rfl, gt_1 (j := 17) rfl rfl, ⟨by decide +kernel, by decide +kernel⟩, by decide +kernel⟩
theorem mi_X12_laysRef : Cond.instanceMethod yX12_laysRef ∈ gAll := gt_10 (j := 13) rfl rfl
theorem se_X12_laysRef : Cond.selects RX12 yX12_laysRef yX12_laysRef ∈ gAll := gs_7 (j := 3) (y := yX12_laysRef) rfl
theorem mt_X12_refIs : gMt yX12_refIs cX12_refIs 7 (some (.int)) 3 := ⟨gt_10 (j := 18) rfl rfl, gt_1 (j := 17) rfl rfl, ⟨by decide +kernel, by decide +kernel⟩, by decide +kernel⟩
theorem mi_X12_refIs : Cond.instanceMethod yX12_refIs ∈ gAll := gt_10 (j := 16) rfl rfl
theorem se_X12_refIs : Cond.selects RX12 yX12_refIs yX12_refIs ∈ gAll := gt_10 (j := 17) rfl rfl
theorem mt_X12_plan : gMt yX12_plan cX12_plan 5 (some (.int)) 2 := ⟨gt_10 (j := 22) rfl rfl, gt_1 (j := 17) rfl rfl, ⟨by decide +kernel, by decide +kernel⟩, by decide +kernel⟩
theorem mi_X12_plan : Cond.instanceMethod yX12_plan ∈ gAll := gt_10 (j := 20) rfl rfl
theorem se_X12_plan : Cond.selects RX12 yX12_plan yX12_plan ∈ gAll := gt_10 (j := 21) rfl rfl
theorem mt_X12_isPlan : gMt yX12_isPlan cX12_isPlan 1 (some (.boolean)) 1 := ⟨gt_10 (j := 25) rfl rfl, gt_1 (j := 17) rfl rfl, ⟨by decide +kernel, by decide +kernel⟩, by decide +kernel⟩
theorem ms_X12_isPlan : Cond.static yX12_isPlan ∈ gAll := gt_10 (j := 24) rfl rfl
theorem mt_X12_beginsPlan : gMt yX12_beginsPlan cX12_beginsPlan 2 none 0 := ⟨gt_10 (j := 29) rfl rfl, gt_1 (j := 17) rfl rfl, ⟨by decide +kernel, by decide +kernel⟩, by decide +kernel⟩
theorem mi_X12_beginsPlan : Cond.instanceMethod yX12_beginsPlan ∈ gAll := gt_10 (j := 28) rfl rfl
theorem se_X12_beginsPlan : Cond.selects RX12 yX12_beginsPlan yX12_beginsPlan ∈ gAll := gs_7 (j := 4) (y := yX12_beginsPlan) rfl
theorem mt_X12_readsHistory : gMt yX12_readsHistory cX12_readsHistory 4 (some (.boolean)) 2 := ⟨gt_10 (j := 34) rfl rfl, gt_1 (j := 17) rfl rfl, ⟨by decide +kernel, by decide +kernel⟩, by decide +kernel⟩
theorem mi_X12_readsHistory : Cond.instanceMethod yX12_readsHistory ∈ gAll := gt_10 (j := 33) rfl rfl
theorem se_X12_readsHistory : Cond.selects RX12 yX12_readsHistory yX12_readsHistory ∈ gAll := gs_7 (j := 5) (y := yX12_readsHistory) rfl
theorem mt_X12_readsWord : gMt yX12_readsWord cX12_readsWord 1 none 0 := ⟨gt_10 (j := 38) rfl rfl, gt_1 (j := 17) rfl rfl, ⟨by decide +kernel, by decide +kernel⟩, by decide +kernel⟩
theorem mi_X12_readsWord : Cond.instanceMethod yX12_readsWord ∈ gAll := gt_10 (j := 37) rfl rfl
theorem se_X12_readsWord : Cond.selects RX12 yX12_readsWord yX12_readsWord ∈ gAll := gs_7 (j := 6) (y := yX12_readsWord) rfl
theorem mt_X12_readsUpTo : gMt yX12_readsUpTo cX12_readsUpTo 3 (some (.boolean)) 2 := ⟨gt_10 (j := 42) rfl rfl, gt_1 (j := 17) rfl rfl, ⟨by decide +kernel, by decide +kernel⟩, by decide +kernel⟩
theorem mi_X12_readsUpTo : Cond.instanceMethod yX12_readsUpTo ∈ gAll := gt_10 (j := 41) rfl rfl
theorem se_X12_readsUpTo : Cond.selects RX12 yX12_readsUpTo yX12_readsUpTo ∈ gAll := gs_7 (j := 7) (y := yX12_readsUpTo) rfl
theorem mt_X12_readsLine : gMt yX12_readsLine cX12_readsLine 4 (some (.boolean)) 0 := ⟨gt_10 (j := 46) rfl rfl, gt_1 (j := 17) rfl rfl, ⟨by decide +kernel, by decide +kernel⟩, by decide +kernel⟩
theorem mi_X12_readsLine : Cond.instanceMethod yX12_readsLine ∈ gAll := gt_10 (j := 45) rfl rfl
theorem se_X12_readsLine : Cond.selects RX12 yX12_readsLine yX12_readsLine ∈ gAll := gs_7 (j := 8) (y := yX12_readsLine) rfl
theorem mt_X12_listOf : gMt yX12_listOf cX12_listOf 1 (some (.int)) 1 := ⟨gt_10 (j := 49) rfl rfl, gt_1 (j := 17) rfl rfl, ⟨by decide +kernel, by decide +kernel⟩, by decide +kernel⟩
theorem ms_X12_listOf : Cond.static yX12_listOf ∈ gAll := gt_10 (j := 48) rfl rfl
theorem mt_X12_onceOf : gMt yX12_onceOf cX12_onceOf 1 (some (.int)) 1 := ⟨gt_10 (j := 58) rfl rfl, gt_1 (j := 17) rfl rfl, ⟨by decide +kernel, by decide +kernel⟩, by decide +kernel⟩
theorem ms_X12_onceOf : Cond.static yX12_onceOf ∈ gAll := gt_10 (j := 57) rfl rfl
theorem mt_X12_has : gMt yX12_has cX12_has 2 (some (.boolean)) 2 := ⟨gt_10 (j := 68) rfl rfl, gt_1 (j := 17) rfl rfl, ⟨by decide +kernel, by decide +kernel⟩, by decide +kernel⟩
theorem ms_X12_has : Cond.static yX12_has ∈ gAll := gt_10 (j := 67) rfl rfl
theorem mt_X12_readsList : gMt yX12_readsList cX12_readsList 2 (some (.boolean)) 1 := ⟨gt_10 (j := 72) rfl rfl, gt_1 (j := 17) rfl rfl, ⟨by decide +kernel, by decide +kernel⟩, by decide +kernel⟩
theorem mi_X12_readsList : Cond.instanceMethod yX12_readsList ∈ gAll := gt_10 (j := 71) rfl rfl
theorem se_X12_readsList : Cond.selects RX12 yX12_readsList yX12_readsList ∈ gAll := gs_7 (j := 9) (y := yX12_readsList) rfl
theorem mt_X12_readsGraft : gMt yX12_readsGraft cX12_readsGraft 4 (some (.boolean)) 0 := ⟨gt_10 (j := 76) rfl rfl, gt_1 (j := 17) rfl rfl, ⟨by decide +kernel, by decide +kernel⟩, by decide +kernel⟩
theorem mi_X12_readsGraft : Cond.instanceMethod yX12_readsGraft ∈ gAll := gt_10 (j := 75) rfl rfl
theorem se_X12_readsGraft : Cond.selects RX12 yX12_readsGraft yX12_readsGraft ∈ gAll := gs_7 (j := 10) (y := yX12_readsGraft) rfl
theorem mt_X12_isNamed : gMt yX12_isNamed cX12_isNamed 4 (some (.boolean)) 2 := ⟨gt_10 (j := 80) rfl rfl, gt_1 (j := 17) rfl rfl, ⟨by decide +kernel, by decide +kernel⟩, by decide +kernel⟩
theorem mi_X12_isNamed : Cond.instanceMethod yX12_isNamed ∈ gAll := gt_10 (j := 79) rfl rfl
theorem se_X12_isNamed : Cond.selects RX12 yX12_isNamed yX12_isNamed ∈ gAll := gs_7 (j := 11) (y := yX12_isNamed) rfl
theorem mt_X12_listAt : gMt yX12_listAt cX12_listAt 1 (some (.int)) 1 := ⟨gt_10 (j := 83) rfl rfl, gt_1 (j := 17) rfl rfl, ⟨by decide +kernel, by decide +kernel⟩, by decide +kernel⟩
theorem ms_X12_listAt : Cond.static yX12_listAt ∈ gAll := gt_10 (j := 82) rfl rfl
theorem mt_X12_adds : gMt yX12_adds cX12_adds 5 (some (.boolean)) 3 := ⟨gt_10 (j := 87) rfl rfl, gt_1 (j := 17) rfl rfl, ⟨by decide +kernel, by decide +kernel⟩, by decide +kernel⟩
theorem mi_X12_adds : Cond.instanceMethod yX12_adds ∈ gAll := gt_10 (j := 86) rfl rfl
theorem se_X12_adds : Cond.selects RX12 yX12_adds yX12_adds ∈ gAll := gs_7 (j := 12) (y := yX12_adds) rfl
theorem mt_X12_readsPair : gMt yX12_readsPair cX12_readsPair 4 (some (.boolean)) 1 := ⟨gt_10 (j := 91) rfl rfl, gt_1 (j := 17) rfl rfl, ⟨by decide +kernel, by decide +kernel⟩, by decide +kernel⟩
theorem mi_X12_readsPair : Cond.instanceMethod yX12_readsPair ∈ gAll := gt_10 (j := 90) rfl rfl
theorem se_X12_readsPair : Cond.selects RX12 yX12_readsPair yX12_readsPair ∈ gAll := gs_7 (j := 13) (y := yX12_readsPair) rfl
theorem mt_X12_readsFirst : gMt yX12_readsFirst cX12_readsFirst 2 (some (.boolean)) 1 := ⟨gt_10 (j := 95) rfl rfl, gt_1 (j := 17) rfl rfl, ⟨by decide +kernel, by decide +kernel⟩, by decide +kernel⟩
theorem mi_X12_readsFirst : Cond.instanceMethod yX12_readsFirst ∈ gAll := gt_10 (j := 94) rfl rfl
theorem se_X12_readsFirst : Cond.selects RX12 yX12_readsFirst yX12_readsFirst ∈ gAll := gs_7 (j := 14) (y := yX12_readsFirst) rfl
theorem mt_X12_readsPlace : gMt yX12_readsPlace cX12_readsPlace 1 (some (.boolean)) 0 := ⟨gt_10 (j := 99) rfl rfl, gt_1 (j := 17) rfl rfl, ⟨by decide +kernel, by decide +kernel⟩, by decide +kernel⟩
theorem mi_X12_readsPlace : Cond.instanceMethod yX12_readsPlace ∈ gAll := gt_10 (j := 98) rfl rfl
theorem se_X12_readsPlace : Cond.selects RX12 yX12_readsPlace yX12_readsPlace ∈ gAll := gs_7 (j := 15) (y := yX12_readsPlace) rfl
theorem mt_X12_readsLetters : gMt yX12_readsLetters cX12_readsLetters 2 (some (.boolean)) 0 := ⟨gt_10 (j := 103) rfl rfl, gt_1 (j := 17) rfl rfl, ⟨by decide +kernel, by decide +kernel⟩, by decide +kernel⟩
theorem mi_X12_readsLetters : Cond.instanceMethod yX12_readsLetters ∈ gAll := gt_10 (j := 102) rfl rfl
theorem se_X12_readsLetters : Cond.selects RX12 yX12_readsLetters yX12_readsLetters ∈ gAll := gs_8 (j := 0) (y := yX12_readsLetters) rfl
theorem mt_X12_readsOnce : gMt yX12_readsOnce cX12_readsOnce 3 (some (.boolean)) 1 := ⟨gt_10 (j := 107) rfl rfl, gt_1 (j := 17) rfl rfl, ⟨by decide +kernel, by decide +kernel⟩, by decide +kernel⟩
theorem mi_X12_readsOnce : Cond.instanceMethod yX12_readsOnce ∈ gAll := gt_10 (j := 106) rfl rfl
theorem se_X12_readsOnce : Cond.selects RX12 yX12_readsOnce yX12_readsOnce ∈ gAll := gs_8 (j := 1) (y := yX12_readsOnce) rfl
theorem mt_X12_readsSign : gMt yX12_readsSign cX12_readsSign 3 (some (.boolean)) 0 := ⟨gt_10 (j := 111) rfl rfl, gt_1 (j := 17) rfl rfl, ⟨by decide +kernel, by decide +kernel⟩, by decide +kernel⟩
theorem mi_X12_readsSign : Cond.instanceMethod yX12_readsSign ∈ gAll := gt_10 (j := 110) rfl rfl
theorem se_X12_readsSign : Cond.selects RX12 yX12_readsSign yX12_readsSign ∈ gAll := gs_8 (j := 2) (y := yX12_readsSign) rfl
theorem mt_X12_readsSkip : gMt yX12_readsSkip cX12_readsSkip 1 (some (.boolean)) 0 := ⟨gt_10 (j := 115) rfl rfl, gt_1 (j := 17) rfl rfl, ⟨by decide +kernel, by decide +kernel⟩, by decide +kernel⟩
theorem mi_X12_readsSkip : Cond.instanceMethod yX12_readsSkip ∈ gAll := gt_10 (j := 114) rfl rfl
theorem se_X12_readsSkip : Cond.selects RX12 yX12_readsSkip yX12_readsSkip ∈ gAll := gs_8 (j := 3) (y := yX12_readsSkip) rfl
theorem mt_X12_forgets : gMt yX12_forgets cX12_forgets 3 none 1 := ⟨gt_10 (j := 119) rfl rfl, gt_1 (j := 17) rfl rfl, ⟨by decide +kernel, by decide +kernel⟩, by decide +kernel⟩
theorem mi_X12_forgets : Cond.instanceMethod yX12_forgets ∈ gAll := gt_10 (j := 118) rfl rfl
theorem se_X12_forgets : Cond.selects RX12 yX12_forgets yX12_forgets ∈ gAll := gs_8 (j := 4) (y := yX12_forgets) rfl
theorem mt_X12_planIs : gMt yX12_planIs cX12_planIs 3 (some (.int)) 2 := ⟨gt_10 (j := 123) rfl rfl, gt_1 (j := 17) rfl rfl, ⟨by decide +kernel, by decide +kernel⟩, by decide +kernel⟩
theorem mi_X12_planIs : Cond.instanceMethod yX12_planIs ∈ gAll := gt_10 (j := 121) rfl rfl
theorem se_X12_planIs : Cond.selects RX12 yX12_planIs yX12_planIs ∈ gAll := gt_10 (j := 122) rfl rfl
theorem mt_X12_isToldPlan : gMt yX12_isToldPlan cX12_isToldPlan 2 (some (.boolean)) 1 := ⟨gt_10 (j := 127) rfl rfl, gt_1 (j := 17) rfl rfl, ⟨by decide +kernel, by decide +kernel⟩, by decide +kernel⟩
theorem mi_X12_isToldPlan : Cond.instanceMethod yX12_isToldPlan ∈ gAll := gt_10 (j := 126) rfl rfl
theorem se_X12_isToldPlan : Cond.selects RX12 yX12_isToldPlan yX12_isToldPlan ∈ gAll := gs_8 (j := 5) (y := yX12_isToldPlan) rfl
theorem mt_X12_ofPlan : gMt yX12_ofPlan cX12_ofPlan 3 (some (.int)) 2 := ⟨gt_10 (j := 131) rfl rfl, gt_1 (j := 17) rfl rfl, ⟨by decide +kernel, by decide +kernel⟩, by decide +kernel⟩
theorem mi_X12_ofPlan : Cond.instanceMethod yX12_ofPlan ∈ gAll := gt_10 (j := 130) rfl rfl
theorem se_X12_ofPlan : Cond.selects RX12 yX12_ofPlan yX12_ofPlan ∈ gAll := gs_8 (j := 6) (y := yX12_ofPlan) rfl
theorem mt_X12_manyOf : gMt yX12_manyOf cX12_manyOf 3 (some (.int)) 2 := ⟨gt_10 (j := 135) rfl rfl, gt_1 (j := 17) rfl rfl, ⟨by decide +kernel, by decide +kernel⟩, by decide +kernel⟩
theorem mi_X12_manyOf : Cond.instanceMethod yX12_manyOf ∈ gAll := gt_10 (j := 134) rfl rfl
theorem se_X12_manyOf : Cond.selects RX12 yX12_manyOf yX12_manyOf ∈ gAll := gs_8 (j := 7) (y := yX12_manyOf) rfl
theorem mt_X12_mapped : gMt yX12_mapped cX12_mapped 5 (some (.int)) 2 := ⟨gt_10 (j := 139) rfl rfl, gt_1 (j := 17) rfl rfl, ⟨by decide +kernel, by decide +kernel⟩, by decide +kernel⟩
theorem mi_X12_mapped : Cond.instanceMethod yX12_mapped ∈ gAll := gt_10 (j := 138) rfl rfl
theorem se_X12_mapped : Cond.selects RX12 yX12_mapped yX12_mapped ∈ gAll := gs_8 (j := 8) (y := yX12_mapped) rfl
theorem mt_X12_withoutImage : gMt yX12_withoutImage cX12_withoutImage 4 (some (.int)) 1 := ⟨gt_10 (j := 143) rfl rfl, gt_1 (j := 17) rfl rfl, ⟨by decide +kernel, by decide +kernel⟩, by decide +kernel⟩
theorem mi_X12_withoutImage : Cond.instanceMethod yX12_withoutImage ∈ gAll := gt_10 (j := 142) rfl rfl
theorem se_X12_withoutImage : Cond.selects RX12 yX12_withoutImage yX12_withoutImage ∈ gAll := gs_8 (j := 9) (y := yX12_withoutImage) rfl
theorem mt_X12_run : gMt yX12_run cX12_run 2 (some (.int)) 1 := ⟨gt_10 (j := 147) rfl rfl, gt_1 (j := 17) rfl rfl, ⟨by decide +kernel, by decide +kernel⟩, by decide +kernel⟩
theorem mi_X12_run : Cond.instanceMethod yX12_run ∈ gAll := gt_10 (j := 145) rfl rfl
theorem se_X12_run : Cond.selects RX12 yX12_run yX12_run ∈ gAll := gt_10 (j := 146) rfl rfl
theorem mt_X12_remembers : gMt yX12_remembers cX12_remembers 3 none 1 := ⟨gt_10 (j := 151) rfl rfl, gt_1 (j := 17) rfl rfl, ⟨by decide +kernel, by decide +kernel⟩, by decide +kernel⟩
theorem mi_X12_remembers : Cond.instanceMethod yX12_remembers ∈ gAll := gt_10 (j := 150) rfl rfl
theorem se_X12_remembers : Cond.selects RX12 yX12_remembers yX12_remembers ∈ gAll := gs_8 (j := 10) (y := yX12_remembers) rfl
theorem mt_X12_runs : gMt yX12_runs cX12_runs 7 (some (.int)) 1 := ⟨gt_10 (j := 155) rfl rfl, gt_1 (j := 17) rfl rfl, ⟨by decide +kernel, by decide +kernel⟩, by decide +kernel⟩
theorem mi_X12_runs : Cond.instanceMethod yX12_runs ∈ gAll := gt_10 (j := 154) rfl rfl
theorem se_X12_runs : Cond.selects RX12 yX12_runs yX12_runs ∈ gAll := gs_8 (j := 11) (y := yX12_runs) rfl
theorem mt_X12_marksPlan : gMt yX12_marksPlan cX12_marksPlan 4 none 1 := ⟨gt_10 (j := 159) rfl rfl, gt_1 (j := 17) rfl rfl, ⟨by decide +kernel, by decide +kernel⟩, by decide +kernel⟩
theorem mi_X12_marksPlan : Cond.instanceMethod yX12_marksPlan ∈ gAll := gt_10 (j := 158) rfl rfl
theorem se_X12_marksPlan : Cond.selects RX12 yX12_marksPlan yX12_marksPlan ∈ gAll := gs_8 (j := 12) (y := yX12_marksPlan) rfl
theorem mt_X12_walksFore : gMt yX12_walksFore cX12_walksFore 6 none 2 := ⟨gt_10 (j := 163) rfl rfl, gt_1 (j := 17) rfl rfl, ⟨by decide +kernel, by decide +kernel⟩, by decide +kernel⟩
theorem mi_X12_walksFore : Cond.instanceMethod yX12_walksFore ∈ gAll := gt_10 (j := 162) rfl rfl
theorem se_X12_walksFore : Cond.selects RX12 yX12_walksFore yX12_walksFore ∈ gAll := gs_8 (j := 13) (y := yX12_walksFore) rfl
theorem mt_X12_foreMany : gMt yX12_foreMany cX12_foreMany 4 (some (.int)) 2 := ⟨gt_10 (j := 167) rfl rfl, gt_1 (j := 17) rfl rfl, ⟨by decide +kernel, by decide +kernel⟩, by decide +kernel⟩
theorem mi_X12_foreMany : Cond.instanceMethod yX12_foreMany ∈ gAll := gt_10 (j := 166) rfl rfl
theorem se_X12_foreMany : Cond.selects RX12 yX12_foreMany yX12_foreMany ∈ gAll := gs_8 (j := 14) (y := yX12_foreMany) rfl
theorem mt_X12_graftOf : gMt yX12_graftOf cX12_graftOf 4 (some (.int)) 2 := ⟨gt_10 (j := 171) rfl rfl, gt_1 (j := 17) rfl rfl, ⟨by decide +kernel, by decide +kernel⟩, by decide +kernel⟩
theorem mi_X12_graftOf : Cond.instanceMethod yX12_graftOf ∈ gAll := gt_10 (j := 170) rfl rfl
theorem se_X12_graftOf : Cond.selects RX12 yX12_graftOf yX12_graftOf ∈ gAll := gs_8 (j := 15) (y := yX12_graftOf) rfl
theorem mt_X12_firstOf : gMt yX12_firstOf cX12_firstOf 4 (some (.int)) 3 := ⟨gt_10 (j := 175) rfl rfl, gt_1 (j := 17) rfl rfl, ⟨by decide +kernel, by decide +kernel⟩, by decide +kernel⟩
theorem mi_X12_firstOf : Cond.instanceMethod yX12_firstOf ∈ gAll := gt_10 (j := 174) rfl rfl
theorem se_X12_firstOf : Cond.selects RX12 yX12_firstOf yX12_firstOf ∈ gAll := gs_9 (j := 0) (y := yX12_firstOf) rfl
theorem mt_X12_secondOf : gMt yX12_secondOf cX12_secondOf 4 (some (.int)) 3 := ⟨gt_10 (j := 179) rfl rfl, gt_1 (j := 17) rfl rfl, ⟨by decide +kernel, by decide +kernel⟩, by decide +kernel⟩
theorem mi_X12_secondOf : Cond.instanceMethod yX12_secondOf ∈ gAll := gt_10 (j := 178) rfl rfl
theorem se_X12_secondOf : Cond.selects RX12 yX12_secondOf yX12_secondOf ∈ gAll := gs_9 (j := 1) (y := yX12_secondOf) rfl
theorem mt_X12_foreAt : gMt yX12_foreAt cX12_foreAt 5 (some (.int)) 3 := ⟨gt_10 (j := 183) rfl rfl, gt_1 (j := 17) rfl rfl, ⟨by decide +kernel, by decide +kernel⟩, by decide +kernel⟩
theorem mi_X12_foreAt : Cond.instanceMethod yX12_foreAt ∈ gAll := gt_10 (j := 182) rfl rfl
theorem se_X12_foreAt : Cond.selects RX12 yX12_foreAt yX12_foreAt ∈ gAll := gs_9 (j := 2) (y := yX12_foreAt) rfl
theorem mt_X12_rewrites : gMt yX12_rewrites cX12_rewrites 6 (some (.boolean)) 2 := ⟨gt_10 (j := 187) rfl rfl, gt_1 (j := 17) rfl rfl, ⟨by decide +kernel, by decide +kernel⟩, by decide +kernel⟩
theorem mi_X12_rewrites : Cond.instanceMethod yX12_rewrites ∈ gAll := gt_10 (j := 186) rfl rfl
theorem se_X12_rewrites : Cond.selects RX12 yX12_rewrites yX12_rewrites ∈ gAll := gs_9 (j := 3) (y := yX12_rewrites) rfl
theorem mt_X12_carriesTree : gMt yX12_carriesTree cX12_carriesTree 5 none 2 := ⟨gt_10 (j := 191) rfl rfl, gt_1 (j := 17) rfl rfl, ⟨by decide +kernel, by decide +kernel⟩, by decide +kernel⟩
theorem mi_X12_carriesTree : Cond.instanceMethod yX12_carriesTree ∈ gAll := gt_10 (j := 190) rfl rfl
theorem se_X12_carriesTree : Cond.selects RX12 yX12_carriesTree yX12_carriesTree ∈ gAll := gs_9 (j := 4) (y := yX12_carriesTree) rfl
theorem mt_X12_isTaken : gMt yX12_isTaken cX12_isTaken 6 (some (.boolean)) 3 := ⟨gt_10 (j := 195) rfl rfl, gt_1 (j := 17) rfl rfl, ⟨by decide +kernel, by decide +kernel⟩, by decide +kernel⟩
theorem mi_X12_isTaken : Cond.instanceMethod yX12_isTaken ∈ gAll := gt_10 (j := 194) rfl rfl
theorem se_X12_isTaken : Cond.selects RX12 yX12_isTaken yX12_isTaken ∈ gAll := gs_9 (j := 5) (y := yX12_isTaken) rfl
theorem mt_X12_digits : gMt yX12_digits cX12_digits 3 (some (.int)) 1 := ⟨gt_10 (j := 198) rfl rfl, gt_1 (j := 17) rfl rfl, ⟨by decide +kernel, by decide +kernel⟩, by decide +kernel⟩
theorem ms_X12_digits : Cond.static yX12_digits ∈ gAll := gt_10 (j := 197) rfl rfl
theorem mt_X12_carriedPath : gMt yX12_carriedPath cX12_carriedPath 7 (some (.int)) 2 := ⟨gt_10 (j := 202) rfl rfl, gt_1 (j := 17) rfl rfl, ⟨by decide +kernel, by decide +kernel⟩, by decide +kernel⟩
theorem mi_X12_carriedPath : Cond.instanceMethod yX12_carriedPath ∈ gAll := gt_10 (j := 201) rfl rfl
theorem se_X12_carriedPath : Cond.selects RX12 yX12_carriedPath yX12_carriedPath ∈ gAll := gs_9 (j := 6) (y := yX12_carriedPath) rfl
theorem mt_X12_moveOf : gMt yX12_moveOf cX12_moveOf 7 (some (.int)) 2 := ⟨gt_10 (j := 206) rfl rfl, gt_1 (j := 17) rfl rfl, ⟨by decide +kernel, by decide +kernel⟩, by decide +kernel⟩
theorem mi_X12_moveOf : Cond.instanceMethod yX12_moveOf ∈ gAll := gt_10 (j := 205) rfl rfl
theorem se_X12_moveOf : Cond.selects RX12 yX12_moveOf yX12_moveOf ∈ gAll := gs_9 (j := 7) (y := yX12_moveOf) rfl
theorem mt_X12_isInTheWay : gMt yX12_isInTheWay cX12_isInTheWay 3 (some (.boolean)) 1 := ⟨gt_10 (j := 210) rfl rfl, gt_1 (j := 17) rfl rfl, ⟨by decide +kernel, by decide +kernel⟩, by decide +kernel⟩
theorem mi_X12_isInTheWay : Cond.instanceMethod yX12_isInTheWay ∈ gAll := gt_10 (j := 209) rfl rfl
theorem se_X12_isInTheWay : Cond.selects RX12 yX12_isInTheWay yX12_isInTheWay ∈ gAll := gs_9 (j := 8) (y := yX12_isInTheWay) rfl
theorem mt_X12_swapped : gMt yX12_swapped cX12_swapped 4 (some (.int)) 2 := ⟨gt_10 (j := 214) rfl rfl, gt_1 (j := 17) rfl rfl, ⟨by decide +kernel, by decide +kernel⟩, by decide +kernel⟩
theorem mi_X12_swapped : Cond.instanceMethod yX12_swapped ∈ gAll := gt_10 (j := 213) rfl rfl
theorem se_X12_swapped : Cond.selects RX12 yX12_swapped yX12_swapped ∈ gAll := gs_9 (j := 9) (y := yX12_swapped) rfl
theorem mt_X12_carriesParents : gMt yX12_carriesParents cX12_carriesParents 5 none 2 := ⟨gt_10 (j := 218) rfl rfl, gt_1 (j := 17) rfl rfl, ⟨by decide +kernel, by decide +kernel⟩, by decide +kernel⟩
theorem mi_X12_carriesParents : Cond.instanceMethod yX12_carriesParents ∈ gAll := gt_10 (j := 217) rfl rfl
theorem se_X12_carriesParents : Cond.selects RX12 yX12_carriesParents yX12_carriesParents ∈ gAll := gs_9 (j := 10) (y := yX12_carriesParents) rfl
theorem mt_X12_carriesAll : gMt yX12_carriesAll cX12_carriesAll 6 none 2 := ⟨gt_10 (j := 222) rfl rfl, gt_1 (j := 17) rfl rfl, ⟨by decide +kernel, by decide +kernel⟩, by decide +kernel⟩
theorem mi_X12_carriesAll : Cond.instanceMethod yX12_carriesAll ∈ gAll := gt_10 (j := 221) rfl rfl
theorem se_X12_carriesAll : Cond.selects RX12 yX12_carriesAll yX12_carriesAll ∈ gAll := gs_9 (j := 11) (y := yX12_carriesAll) rfl
theorem mt_X12_imageAt : gMt yX12_imageAt cX12_imageAt 3 (some (.int)) 2 := ⟨gt_10 (j := 226) rfl rfl, gt_1 (j := 17) rfl rfl, ⟨by decide +kernel, by decide +kernel⟩, by decide +kernel⟩
theorem mi_X12_imageAt : Cond.instanceMethod yX12_imageAt ∈ gAll := gt_10 (j := 225) rfl rfl
theorem se_X12_imageAt : Cond.selects RX12 yX12_imageAt yX12_imageAt ∈ gAll := gs_9 (j := 12) (y := yX12_imageAt) rfl
theorem mt_X12_isCarried : gMt yX12_isCarried cX12_isCarried 3 (some (.boolean)) 1 := ⟨gt_10 (j := 230) rfl rfl, gt_1 (j := 17) rfl rfl, ⟨by decide +kernel, by decide +kernel⟩, by decide +kernel⟩
theorem mi_X12_isCarried : Cond.instanceMethod yX12_isCarried ∈ gAll := gt_10 (j := 229) rfl rfl
theorem se_X12_isCarried : Cond.selects RX12 yX12_isCarried yX12_isCarried ∈ gAll := gs_9 (j := 13) (y := yX12_isCarried) rfl
theorem mt_X12_goesFor : gMt yX12_goesFor cX12_goesFor 4 (some (.boolean)) 3 := ⟨gt_10 (j := 234) rfl rfl, gt_1 (j := 17) rfl rfl, ⟨by decide +kernel, by decide +kernel⟩, by decide +kernel⟩
theorem mi_X12_goesFor : Cond.instanceMethod yX12_goesFor ∈ gAll := gt_10 (j := 233) rfl rfl
theorem se_X12_goesFor : Cond.selects RX12 yX12_goesFor yX12_goesFor ∈ gAll := gs_9 (j := 14) (y := yX12_goesFor) rfl
theorem mt_X12_isElder : gMt yX12_isElder cX12_isElder 4 (some (.boolean)) 3 := ⟨gt_10 (j := 238) rfl rfl, gt_1 (j := 17) rfl rfl, ⟨by decide +kernel, by decide +kernel⟩, by decide +kernel⟩
theorem mi_X12_isElder : Cond.instanceMethod yX12_isElder ∈ gAll := gt_10 (j := 237) rfl rfl
theorem se_X12_isElder : Cond.selects RX12 yX12_isElder yX12_isElder ∈ gAll := gs_9 (j := 15) (y := yX12_isElder) rfl
theorem mt_X12_marksElders : gMt yX12_marksElders cX12_marksElders 3 none 2 := ⟨gt_11 (j := 2) rfl rfl, gt_1 (j := 17) rfl rfl, ⟨by decide +kernel, by decide +kernel⟩, by decide +kernel⟩
theorem mi_X12_marksElders : Cond.instanceMethod yX12_marksElders ∈ gAll := gt_11 (j := 1) rfl rfl
theorem se_X12_marksElders : Cond.selects RX12 yX12_marksElders yX12_marksElders ∈ gAll := gs_10 (j := 0) (y := yX12_marksElders) rfl
theorem mt_X12_closesUp : gMt yX12_closesUp cX12_closesUp 3 none 0 := ⟨gt_11 (j := 6) rfl rfl, gt_1 (j := 17) rfl rfl, ⟨by decide +kernel, by decide +kernel⟩, by decide +kernel⟩
theorem mi_X12_closesUp : Cond.instanceMethod yX12_closesUp ∈ gAll := gt_11 (j := 5) rfl rfl
theorem se_X12_closesUp : Cond.selects RX12 yX12_closesUp yX12_closesUp ∈ gAll := gs_10 (j := 1) (y := yX12_closesUp) rfl
theorem mt_X12_isEmpty : gMt yX12_isEmpty cX12_isEmpty 5 (some (.boolean)) 2 := ⟨gt_11 (j := 10) rfl rfl, gt_1 (j := 17) rfl rfl, ⟨by decide +kernel, by decide +kernel⟩, by decide +kernel⟩
theorem mi_X12_isEmpty : Cond.instanceMethod yX12_isEmpty ∈ gAll := gt_11 (j := 9) rfl rfl
theorem se_X12_isEmpty : Cond.selects RX12 yX12_isEmpty yX12_isEmpty ∈ gAll := gs_10 (j := 2) (y := yX12_isEmpty) rfl
theorem mt_X12_isEmptyByItself : gMt yX12_isEmptyByItself cX12_isEmptyByItself 4 (some (.boolean)) 2 := ⟨gt_11 (j := 14) rfl rfl, gt_1 (j := 17) rfl rfl, ⟨by decide +kernel, by decide +kernel⟩, by decide +kernel⟩
theorem mi_X12_isEmptyByItself : Cond.instanceMethod yX12_isEmptyByItself ∈ gAll := gt_11 (j := 13) rfl rfl
theorem se_X12_isEmptyByItself : Cond.selects RX12 yX12_isEmptyByItself yX12_isEmptyByItself ∈ gAll := gs_10 (j := 3) (y := yX12_isEmptyByItself) rfl
theorem mt_X12_isSkipped : gMt yX12_isSkipped cX12_isSkipped 3 (some (.boolean)) 2 := ⟨gt_11 (j := 18) rfl rfl, gt_1 (j := 17) rfl rfl, ⟨by decide +kernel, by decide +kernel⟩, by decide +kernel⟩
theorem mi_X12_isSkipped : Cond.instanceMethod yX12_isSkipped ∈ gAll := gt_11 (j := 17) rfl rfl
theorem se_X12_isSkipped : Cond.selects RX12 yX12_isSkipped yX12_isSkipped ∈ gAll := gs_10 (j := 4) (y := yX12_isSkipped) rfl
theorem mt_X12_maps : gMt yX12_maps cX12_maps 5 none 4 := ⟨gt_11 (j := 22) rfl rfl, gt_1 (j := 17) rfl rfl, ⟨by decide +kernel, by decide +kernel⟩, by decide +kernel⟩
theorem mi_X12_maps : Cond.instanceMethod yX12_maps ∈ gAll := gt_11 (j := 21) rfl rfl
theorem se_X12_maps : Cond.selects RX12 yX12_maps yX12_maps ∈ gAll := gs_10 (j := 5) (y := yX12_maps) rfl
theorem mt_X12_carriesSaid : gMt yX12_carriesSaid cX12_carriesSaid 4 none 2 := ⟨gt_11 (j := 26) rfl rfl, gt_1 (j := 17) rfl rfl, ⟨by decide +kernel, by decide +kernel⟩, by decide +kernel⟩
theorem mi_X12_carriesSaid : Cond.instanceMethod yX12_carriesSaid ∈ gAll := gt_11 (j := 25) rfl rfl
theorem se_X12_carriesSaid : Cond.selects RX12 yX12_carriesSaid yX12_carriesSaid ∈ gAll := gs_10 (j := 6) (y := yX12_carriesSaid) rfl
theorem mt_X12_saidAt : gMt yX12_saidAt cX12_saidAt 3 (some (.int)) 2 := ⟨gt_11 (j := 30) rfl rfl, gt_1 (j := 17) rfl rfl, ⟨by decide +kernel, by decide +kernel⟩, by decide +kernel⟩
theorem mi_X12_saidAt : Cond.instanceMethod yX12_saidAt ∈ gAll := gt_11 (j := 29) rfl rfl
theorem se_X12_saidAt : Cond.selects RX12 yX12_saidAt yX12_saidAt ∈ gAll := gs_10 (j := 7) (y := yX12_saidAt) rfl
theorem mt_X12_carriesMention : gMt yX12_carriesMention cX12_carriesMention 9 none 2 := ⟨gt_11 (j := 34) rfl rfl, gt_1 (j := 17) rfl rfl, ⟨by decide +kernel, by decide +kernel⟩, by decide +kernel⟩
theorem mi_X12_carriesMention : Cond.instanceMethod yX12_carriesMention ∈ gAll := gt_11 (j := 33) rfl rfl
theorem se_X12_carriesMention : Cond.selects RX12 yX12_carriesMention yX12_carriesMention ∈ gAll := gs_10 (j := 8) (y := yX12_carriesMention) rfl
theorem mt_X12_says : gMt yX12_says cX12_says 2 none 1 := ⟨gt_11 (j := 38) rfl rfl, gt_1 (j := 17) rfl rfl, ⟨by decide +kernel, by decide +kernel⟩, by decide +kernel⟩
theorem mi_X12_says : Cond.instanceMethod yX12_says ∈ gAll := gt_11 (j := 37) rfl rfl
theorem se_X12_says : Cond.selects RX12 yX12_says yX12_says ∈ gAll := gs_10 (j := 9) (y := yX12_says) rfl
theorem mt_X12_saysNumber : gMt yX12_saysNumber cX12_saysNumber 2 none 1 := ⟨gt_11 (j := 42) rfl rfl, gt_1 (j := 17) rfl rfl, ⟨by decide +kernel, by decide +kernel⟩, by decide +kernel⟩
theorem mi_X12_saysNumber : Cond.instanceMethod yX12_saysNumber ∈ gAll := gt_11 (j := 41) rfl rfl
theorem se_X12_saysNumber : Cond.selects RX12 yX12_saysNumber yX12_saysNumber ∈ gAll := gs_10 (j := 10) (y := yX12_saysNumber) rfl
theorem mt_X12_carriesLetters : gMt yX12_carriesLetters cX12_carriesLetters 7 none 2 := ⟨gt_11 (j := 46) rfl rfl, gt_1 (j := 17) rfl rfl, ⟨by decide +kernel, by decide +kernel⟩, by decide +kernel⟩
theorem mi_X12_carriesLetters : Cond.instanceMethod yX12_carriesLetters ∈ gAll := gt_11 (j := 45) rfl rfl
theorem se_X12_carriesLetters : Cond.selects RX12 yX12_carriesLetters yX12_carriesLetters ∈ gAll := gs_10 (j := 11) (y := yX12_carriesLetters) rfl
theorem mt_X12_wordFor : gMt yX12_wordFor cX12_wordFor 4 (some (.int)) 2 := ⟨gt_11 (j := 50) rfl rfl, gt_1 (j := 17) rfl rfl, ⟨by decide +kernel, by decide +kernel⟩, by decide +kernel⟩
theorem mi_X12_wordFor : Cond.instanceMethod yX12_wordFor ∈ gAll := gt_11 (j := 49) rfl rfl
theorem se_X12_wordFor : Cond.selects RX12 yX12_wordFor yX12_wordFor ∈ gAll := gs_10 (j := 12) (y := yX12_wordFor) rfl
theorem mt_X12_saysLetters : gMt yX12_saysLetters cX12_saysLetters 3 none 1 := ⟨gt_11 (j := 54) rfl rfl, gt_1 (j := 17) rfl rfl, ⟨by decide +kernel, by decide +kernel⟩, by decide +kernel⟩
theorem mi_X12_saysLetters : Cond.instanceMethod yX12_saysLetters ∈ gAll := gt_11 (j := 53) rfl rfl
theorem se_X12_saysLetters : Cond.selects RX12 yX12_saysLetters yX12_saysLetters ∈ gAll := gs_10 (j := 13) (y := yX12_saysLetters) rfl
theorem mt_X12_min : gMt yX12_min cX12_min 2 (some (.int)) 2 := ⟨gt_11 (j := 57) rfl rfl, gt_1 (j := 17) rfl rfl, ⟨by decide +kernel, by decide +kernel⟩, by decide +kernel⟩
theorem ms_X12_min : Cond.static yX12_min ∈ gAll := gt_11 (j := 56) rfl rfl
theorem mt_X12_laysRefs : gMt yX12_laysRefs cX12_laysRefs 7 (some (.int)) 1 := ⟨gt_11 (j := 61) rfl rfl, gt_1 (j := 17) rfl rfl, ⟨by decide +kernel, by decide +kernel⟩, by decide +kernel⟩
theorem mi_X12_laysRefs : Cond.instanceMethod yX12_laysRefs ∈ gAll := gt_11 (j := 60) rfl rfl
theorem se_X12_laysRefs : Cond.selects RX12 yX12_laysRefs yX12_laysRefs ∈ gAll := gs_10 (j := 14) (y := yX12_laysRefs) rfl
theorem mt_X12_isLaid : gMt yX12_isLaid cX12_isLaid 5 (some (.boolean)) 3 := ⟨gt_11 (j := 65) rfl rfl, gt_1 (j := 17) rfl rfl, ⟨by decide +kernel, by decide +kernel⟩, by decide +kernel⟩
theorem mi_X12_isLaid : Cond.instanceMethod yX12_isLaid ∈ gAll := gt_11 (j := 64) rfl rfl
theorem se_X12_isLaid : Cond.selects RX12 yX12_isLaid yX12_isLaid ∈ gAll := gs_10 (j := 15) (y := yX12_isLaid) rfl
theorem mt_X12_goesBack : gMt yX12_goesBack cX12_goesBack 4 none 2 := ⟨gt_11 (j := 69) rfl rfl, gt_1 (j := 17) rfl rfl, ⟨by decide +kernel, by decide +kernel⟩, by decide +kernel⟩
theorem mi_X12_goesBack : Cond.instanceMethod yX12_goesBack ∈ gAll := gt_11 (j := 68) rfl rfl
theorem se_X12_goesBack : Cond.selects RX12 yX12_goesBack yX12_goesBack ∈ gAll := gs_11 (j := 0) (y := yX12_goesBack) rfl
theorem mt_X12_again : gMt yX12_again cX12_again 4 (some (.int)) 1 := ⟨gt_11 (j := 73) rfl rfl, gt_1 (j := 17) rfl rfl, ⟨by decide +kernel, by decide +kernel⟩, by decide +kernel⟩
theorem mi_X12_again : Cond.instanceMethod yX12_again ∈ gAll := gt_11 (j := 71) rfl rfl
theorem se_X12_again : Cond.selects RX12 yX12_again yX12_again ∈ gAll := gt_11 (j := 72) rfl rfl
theorem mt_X12_image : gMt yX12_image cX12_image 5 (some (.int)) 3 := ⟨gt_11 (j := 77) rfl rfl, gt_1 (j := 17) rfl rfl, ⟨by decide +kernel, by decide +kernel⟩, by decide +kernel⟩
theorem mi_X12_image : Cond.instanceMethod yX12_image ∈ gAll := gt_11 (j := 75) rfl rfl
theorem se_X12_image : Cond.selects RX12 yX12_image yX12_image ∈ gAll := gt_11 (j := 76) rfl rfl
theorem mt_X12_tried : gMt yX12_tried cX12_tried 5 (some (.int)) 3 := ⟨gt_11 (j := 81) rfl rfl, gt_1 (j := 17) rfl rfl, ⟨by decide +kernel, by decide +kernel⟩, by decide +kernel⟩
theorem mi_X12_tried : Cond.instanceMethod yX12_tried ∈ gAll := gt_11 (j := 79) rfl rfl
theorem se_X12_tried : Cond.selects RX12 yX12_tried yX12_tried ∈ gAll := gt_11 (j := 80) rfl rfl
theorem mt_X12_share : gMt yX12_share cX12_share 4 (some (.long)) 1 := ⟨gt_11 (j := 85) rfl rfl, gt_1 (j := 17) rfl rfl, ⟨by decide +kernel, by decide +kernel⟩, by decide +kernel⟩
theorem mi_X12_share : Cond.instanceMethod yX12_share ∈ gAll := gt_11 (j := 83) rfl rfl
theorem se_X12_share : Cond.selects RX12 yX12_share yX12_share ∈ gAll := gt_11 (j := 84) rfl rfl
theorem mt_Jxe99ae_doubleToLongBits_ccdee : gMt yJxe99ae_doubleToLongBits_ccdee cJxe99ae_doubleToLongBits_ccdee 2 (some (.long)) 1 := ⟨gt_11 (j := 90) rfl rfl, gt_1 (j := 27) rfl rfl, ⟨by decide +kernel, by decide +kernel⟩, by decide +kernel⟩
theorem ms_Jxe99ae_doubleToLongBits_ccdee : Cond.static yJxe99ae_doubleToLongBits_ccdee ∈ gAll := gt_11 (j := 89) rfl rfl
theorem mt_Jxe99ae_isNaN_b9ae7 : gMt yJxe99ae_isNaN_b9ae7 cJxe99ae_isNaN_b9ae7 2 (some (.boolean)) 1 := ⟨gt_11 (j := 93) rfl rfl, gt_1 (j := 27) rfl rfl, ⟨by decide +kernel, by decide +kernel⟩, by decide +kernel⟩
theorem ms_Jxe99ae_isNaN_b9ae7 : Cond.static yJxe99ae_isNaN_b9ae7 ∈ gAll := gt_11 (j := 92) rfl rfl
theorem mt_X12_sound : gMt yX12_sound cX12_sound 3 (some (.int)) 2 := ⟨gt_11 (j := 101) rfl rfl, gt_1 (j := 17) rfl rfl, ⟨by decide +kernel, by decide +kernel⟩, by decide +kernel⟩
theorem mi_X12_sound : Cond.instanceMethod yX12_sound ∈ gAll := gt_11 (j := 99) rfl rfl
theorem se_X12_sound : Cond.selects RX12 yX12_sound yX12_sound ∈ gAll := gt_11 (j := 100) rfl rfl
theorem mt_X12_pairs : gMt yX12_pairs cX12_pairs 7 (some (.int)) 2 := ⟨gt_11 (j := 105) rfl rfl, gt_1 (j := 17) rfl rfl, ⟨by decide +kernel, by decide +kernel⟩, by decide +kernel⟩
theorem mi_X12_pairs : Cond.instanceMethod yX12_pairs ∈ gAll := gt_11 (j := 104) rfl rfl
theorem se_X12_pairs : Cond.selects RX12 yX12_pairs yX12_pairs ∈ gAll := gs_11 (j := 1) (y := yX12_pairs) rfl
theorem mt_X12_isKept : gMt yX12_isKept cX12_isKept 3 (some (.boolean)) 2 := ⟨gt_11 (j := 109) rfl rfl, gt_1 (j := 17) rfl rfl, ⟨by decide +kernel, by decide +kernel⟩, by decide +kernel⟩
theorem mi_X12_isKept : Cond.instanceMethod yX12_isKept ∈ gAll := gt_11 (j := 108) rfl rfl
theorem se_X12_isKept : Cond.selects RX12 yX12_isKept yX12_isKept ∈ gAll := gs_11 (j := 2) (y := yX12_isKept) rfl
theorem mt_X12_isElderApart : gMt yX12_isElderApart cX12_isElderApart 4 (some (.boolean)) 3 := ⟨gt_11 (j := 113) rfl rfl, gt_1 (j := 17) rfl rfl, ⟨by decide +kernel, by decide +kernel⟩, by decide +kernel⟩
theorem mi_X12_isElderApart : Cond.instanceMethod yX12_isElderApart ∈ gAll := gt_11 (j := 112) rfl rfl
theorem se_X12_isElderApart : Cond.selects RX12 yX12_isElderApart yX12_isElderApart ∈ gAll := gs_11 (j := 3) (y := yX12_isElderApart) rfl
theorem mt_X12_twins : gMt yX12_twins cX12_twins 6 (some (.int)) 1 := ⟨gt_11 (j := 117) rfl rfl, gt_1 (j := 17) rfl rfl, ⟨by decide +kernel, by decide +kernel⟩, by decide +kernel⟩
theorem mi_X12_twins : Cond.instanceMethod yX12_twins ∈ gAll := gt_11 (j := 116) rfl rfl
theorem se_X12_twins : Cond.selects RX12 yX12_twins yX12_twins ∈ gAll := gs_11 (j := 4) (y := yX12_twins) rfl
theorem mt_X12_lostByKept : gMt yX12_lostByKept cX12_lostByKept 4 (some (.int)) 1 := ⟨gt_11 (j := 121) rfl rfl, gt_1 (j := 17) rfl rfl, ⟨by decide +kernel, by decide +kernel⟩, by decide +kernel⟩
theorem mi_X12_lostByKept : Cond.instanceMethod yX12_lostByKept ∈ gAll := gt_11 (j := 120) rfl rfl
theorem se_X12_lostByKept : Cond.selects RX12 yX12_lostByKept yX12_lostByKept ∈ gAll := gs_11 (j := 5) (y := yX12_lostByKept) rfl
theorem mt_X12_thinned : gMt yX12_thinned cX12_thinned 4 (some (.int)) 1 := ⟨gt_11 (j := 125) rfl rfl, gt_1 (j := 17) rfl rfl, ⟨by decide +kernel, by decide +kernel⟩, by decide +kernel⟩
theorem mi_X12_thinned : Cond.instanceMethod yX12_thinned ∈ gAll := gt_11 (j := 124) rfl rfl
theorem se_X12_thinned : Cond.selects RX12 yX12_thinned yX12_thinned ∈ gAll := gs_11 (j := 6) (y := yX12_thinned) rfl
theorem mt_X12_notMapped : gMt yX12_notMapped cX12_notMapped 4 (some (.int)) 1 := ⟨gt_11 (j := 129) rfl rfl, gt_1 (j := 17) rfl rfl, ⟨by decide +kernel, by decide +kernel⟩, by decide +kernel⟩
theorem mi_X12_notMapped : Cond.instanceMethod yX12_notMapped ∈ gAll := gt_11 (j := 128) rfl rfl
theorem se_X12_notMapped : Cond.selects RX12 yX12_notMapped yX12_notMapped ∈ gAll := gs_11 (j := 7) (y := yX12_notMapped) rfl
theorem mt_X12_join : gMt yX12_join cX12_join 9 (some (.int)) 5 := ⟨gt_11 (j := 133) rfl rfl, gt_1 (j := 17) rfl rfl, ⟨by decide +kernel, by decide +kernel⟩, by decide +kernel⟩
theorem mi_X12_join : Cond.instanceMethod yX12_join ∈ gAll := gt_11 (j := 131) rfl rfl
theorem se_X12_join : Cond.selects RX12 yX12_join yX12_join ∈ gAll := gt_11 (j := 132) rfl rfl
theorem mt_X12_branchAt : gMt yX12_branchAt cX12_branchAt 3 (some (.int)) 2 := ⟨gt_11 (j := 137) rfl rfl, gt_1 (j := 17) rfl rfl, ⟨by decide +kernel, by decide +kernel⟩, by decide +kernel⟩
theorem mi_X12_branchAt : Cond.instanceMethod yX12_branchAt ∈ gAll := gt_11 (j := 136) rfl rfl
theorem se_X12_branchAt : Cond.selects RX12 yX12_branchAt yX12_branchAt ∈ gAll := gs_11 (j := 8) (y := yX12_branchAt) rfl
theorem mt_X12_putsTogether : gMt yX12_putsTogether cX12_putsTogether 6 (some (.boolean)) 2 := ⟨gt_11 (j := 141) rfl rfl, gt_1 (j := 17) rfl rfl, ⟨by decide +kernel, by decide +kernel⟩, by decide +kernel⟩
theorem mi_X12_putsTogether : Cond.instanceMethod yX12_putsTogether ∈ gAll := gt_11 (j := 140) rfl rfl
theorem se_X12_putsTogether : Cond.selects RX12 yX12_putsTogether yX12_putsTogether ∈ gAll := gs_11 (j := 9) (y := yX12_putsTogether) rfl
theorem mt_X12_isTree : gMt yX12_isTree cX12_isTree 3 (some (.boolean)) 1 := ⟨gt_11 (j := 145) rfl rfl, gt_1 (j := 17) rfl rfl, ⟨by decide +kernel, by decide +kernel⟩, by decide +kernel⟩
theorem mi_X12_isTree : Cond.instanceMethod yX12_isTree ∈ gAll := gt_11 (j := 144) rfl rfl
theorem se_X12_isTree : Cond.selects RX12 yX12_isTree yX12_isTree ∈ gAll := gs_11 (j := 10) (y := yX12_isTree) rfl
theorem mt_X12_replay : gMt yX12_replay cX12_replay 6 (some (.int)) 3 := ⟨gt_11 (j := 149) rfl rfl, gt_1 (j := 17) rfl rfl, ⟨by decide +kernel, by decide +kernel⟩, by decide +kernel⟩
theorem mi_X12_replay : Cond.instanceMethod yX12_replay ∈ gAll := gt_11 (j := 147) rfl rfl
theorem se_X12_replay : Cond.selects RX12 yX12_replay yX12_replay ∈ gAll := gt_11 (j := 148) rfl rfl
theorem mt_X12_laysChange : gMt yX12_laysChange cX12_laysChange 5 none 1 := ⟨gt_11 (j := 153) rfl rfl, gt_1 (j := 17) rfl rfl, ⟨by decide +kernel, by decide +kernel⟩, by decide +kernel⟩
theorem mi_X12_laysChange : Cond.instanceMethod yX12_laysChange ∈ gAll := gt_11 (j := 152) rfl rfl
theorem se_X12_laysChange : Cond.selects RX12 yX12_laysChange yX12_laysChange ∈ gAll := gs_11 (j := 11) (y := yX12_laysChange) rfl
theorem mt_X12_before : gMt yX12_before cX12_before 2 (some (.int)) 1 := ⟨gt_11 (j := 157) rfl rfl, gt_1 (j := 17) rfl rfl, ⟨by decide +kernel, by decide +kernel⟩, by decide +kernel⟩
theorem mi_X12_before : Cond.instanceMethod yX12_before ∈ gAll := gt_11 (j := 156) rfl rfl
theorem se_X12_before : Cond.selects RX12 yX12_before yX12_before ∈ gAll := gs_11 (j := 12) (y := yX12_before) rfl
theorem mt_X12_notes : gMt yX12_notes cX12_notes 4 none 3 := ⟨gt_11 (j := 161) rfl rfl, gt_1 (j := 17) rfl rfl, ⟨by decide +kernel, by decide +kernel⟩, by decide +kernel⟩
theorem mi_X12_notes : Cond.instanceMethod yX12_notes ∈ gAll := gt_11 (j := 160) rfl rfl
theorem se_X12_notes : Cond.selects RX12 yX12_notes yX12_notes ∈ gAll := gs_11 (j := 13) (y := yX12_notes) rfl
theorem mt_X12_changesThere : gMt yX12_changesThere cX12_changesThere 4 (some (.boolean)) 1 := ⟨gt_11 (j := 165) rfl rfl, gt_1 (j := 17) rfl rfl, ⟨by decide +kernel, by decide +kernel⟩, by decide +kernel⟩
theorem mi_X12_changesThere : Cond.instanceMethod yX12_changesThere ∈ gAll := gt_11 (j := 164) rfl rfl
theorem se_X12_changesThere : Cond.selects RX12 yX12_changesThere yX12_changesThere ∈ gAll := gs_11 (j := 14) (y := yX12_changesThere) rfl
theorem mt_X12_picked : gMt yX12_picked cX12_picked 7 (some (.int)) 2 := ⟨gt_11 (j := 169) rfl rfl, gt_1 (j := 17) rfl rfl, ⟨by decide +kernel, by decide +kernel⟩, by decide +kernel⟩
theorem mi_X12_picked : Cond.instanceMethod yX12_picked ∈ gAll := gt_11 (j := 167) rfl rfl
theorem se_X12_picked : Cond.selects RX12 yX12_picked yX12_picked ∈ gAll := gt_11 (j := 168) rfl rfl
theorem mt_X12_marksHistory : gMt yX12_marksHistory cX12_marksHistory 4 none 2 := ⟨gt_11 (j := 173) rfl rfl, gt_1 (j := 17) rfl rfl, ⟨by decide +kernel, by decide +kernel⟩, by decide +kernel⟩
theorem mi_X12_marksHistory : Cond.instanceMethod yX12_marksHistory ∈ gAll := gt_11 (j := 172) rfl rfl
theorem se_X12_marksHistory : Cond.selects RX12 yX12_marksHistory yX12_marksHistory ∈ gAll := gs_11 (j := 15) (y := yX12_marksHistory) rfl
theorem mt_X12_spelt : gMt yX12_spelt cX12_spelt 4 (some (.int)) 2 := ⟨gt_11 (j := 177) rfl rfl, gt_1 (j := 17) rfl rfl, ⟨by decide +kernel, by decide +kernel⟩, by decide +kernel⟩
theorem mi_X12_spelt : Cond.instanceMethod yX12_spelt ∈ gAll := gt_11 (j := 175) rfl rfl
theorem se_X12_spelt : Cond.selects RX12 yX12_spelt yX12_spelt ∈ gAll := gt_11 (j := 176) rfl rfl
theorem mt_X12_spells : gMt yX12_spells cX12_spells 2 none 1 := ⟨gt_11 (j := 181) rfl rfl, gt_1 (j := 17) rfl rfl, ⟨by decide +kernel, by decide +kernel⟩, by decide +kernel⟩
theorem mi_X12_spells : Cond.instanceMethod yX12_spells ∈ gAll := gt_11 (j := 180) rfl rfl
theorem se_X12_spells : Cond.selects RX12 yX12_spells yX12_spells ∈ gAll := gs_12 (j := 0) (y := yX12_spells) rfl
theorem mt_X12_spellsNumber : gMt yX12_spellsNumber cX12_spellsNumber 2 none 1 := ⟨gt_11 (j := 185) rfl rfl, gt_1 (j := 17) rfl rfl, ⟨by decide +kernel, by decide +kernel⟩, by decide +kernel⟩
theorem mi_X12_spellsNumber : Cond.instanceMethod yX12_spellsNumber ∈ gAll := gt_11 (j := 184) rfl rfl
theorem se_X12_spellsNumber : Cond.selects RX12 yX12_spellsNumber yX12_spellsNumber ∈ gAll := gs_12 (j := 1) (y := yX12_spellsNumber) rfl
theorem mt_X12_spellsFile : gMt yX12_spellsFile cX12_spellsFile 6 none 2 := ⟨gt_11 (j := 189) rfl rfl, gt_1 (j := 17) rfl rfl, ⟨by decide +kernel, by decide +kernel⟩, by decide +kernel⟩
theorem mi_X12_spellsFile : Cond.instanceMethod yX12_spellsFile ∈ gAll := gt_11 (j := 188) rfl rfl
theorem se_X12_spellsFile : Cond.selects RX12 yX12_spellsFile yX12_spellsFile ∈ gAll := gs_12 (j := 2) (y := yX12_spellsFile) rfl
theorem mt_X12_look : gMt yX12_look cX12_look 4 (some (.int)) 3 := ⟨gt_11 (j := 193) rfl rfl, gt_1 (j := 17) rfl rfl, ⟨by decide +kernel, by decide +kernel⟩, by decide +kernel⟩
theorem mi_X12_look : Cond.instanceMethod yX12_look ∈ gAll := gt_11 (j := 191) rfl rfl
theorem se_X12_look : Cond.selects RX12 yX12_look yX12_look ∈ gAll := gt_11 (j := 192) rfl rfl
theorem mt_X12_readsWholePath : gMt yX12_readsWholePath cX12_readsWholePath 3 (some (.boolean)) 1 := ⟨gt_11 (j := 197) rfl rfl, gt_1 (j := 17) rfl rfl, ⟨by decide +kernel, by decide +kernel⟩, by decide +kernel⟩
theorem mi_X12_readsWholePath : Cond.instanceMethod yX12_readsWholePath ∈ gAll := gt_11 (j := 196) rfl rfl
theorem se_X12_readsWholePath : Cond.selects RX12 yX12_readsWholePath yX12_readsWholePath ∈ gAll := gs_12 (j := 3) (y := yX12_readsWholePath) rfl
theorem mt_X12_lookAt : gMt yX12_lookAt cX12_lookAt 9 (some (.int)) 3 := ⟨gt_11 (j := 201) rfl rfl, gt_1 (j := 17) rfl rfl, ⟨by decide +kernel, by decide +kernel⟩, by decide +kernel⟩
theorem mi_X12_lookAt : Cond.instanceMethod yX12_lookAt ∈ gAll := gt_11 (j := 200) rfl rfl
theorem se_X12_lookAt : Cond.selects RX12 yX12_lookAt yX12_lookAt ∈ gAll := gs_12 (j := 4) (y := yX12_lookAt) rfl
theorem mt_X12_isNewEntry : gMt yX12_isNewEntry cX12_isNewEntry 5 (some (.boolean)) 3 := ⟨gt_11 (j := 205) rfl rfl, gt_1 (j := 17) rfl rfl, ⟨by decide +kernel, by decide +kernel⟩, by decide +kernel⟩
theorem mi_X12_isNewEntry : Cond.instanceMethod yX12_isNewEntry ∈ gAll := gt_11 (j := 204) rfl rfl
theorem se_X12_isNewEntry : Cond.selects RX12 yX12_isNewEntry yX12_isNewEntry ∈ gAll := gs_12 (j := 5) (y := yX12_isNewEntry) rfl
theorem mt_X12_historyIs : gMt yX12_historyIs cX12_historyIs 5 (some (.int)) 2 := ⟨gt_11 (j := 209) rfl rfl, gt_1 (j := 17) rfl rfl, ⟨by decide +kernel, by decide +kernel⟩, by decide +kernel⟩
theorem mi_X12_historyIs : Cond.instanceMethod yX12_historyIs ∈ gAll := gt_11 (j := 207) rfl rfl
theorem se_X12_historyIs : Cond.selects RX12 yX12_historyIs yX12_historyIs ∈ gAll := gt_11 (j := 208) rfl rfl
theorem mt_X12_counts : gMt yX12_counts cX12_counts 3 (some (.boolean)) 2 := ⟨gt_11 (j := 213) rfl rfl, gt_1 (j := 17) rfl rfl, ⟨by decide +kernel, by decide +kernel⟩, by decide +kernel⟩
theorem mi_X12_counts : Cond.instanceMethod yX12_counts ∈ gAll := gt_11 (j := 212) rfl rfl
theorem se_X12_counts : Cond.selects RX12 yX12_counts yX12_counts ∈ gAll := gs_12 (j := 6) (y := yX12_counts) rfl
theorem mt_X12_hasChild : gMt yX12_hasChild cX12_hasChild 5 (some (.boolean)) 2 := ⟨gt_11 (j := 217) rfl rfl, gt_1 (j := 17) rfl rfl, ⟨by decide +kernel, by decide +kernel⟩, by decide +kernel⟩
theorem mi_X12_hasChild : Cond.instanceMethod yX12_hasChild ∈ gAll := gt_11 (j := 216) rfl rfl
theorem se_X12_hasChild : Cond.selects RX12 yX12_hasChild yX12_hasChild ∈ gAll := gs_12 (j := 7) (y := yX12_hasChild) rfl
theorem mt_X12_isFirstTree : gMt yX12_isFirstTree cX12_isFirstTree 4 (some (.boolean)) 2 := ⟨gt_11 (j := 221) rfl rfl, gt_1 (j := 17) rfl rfl, ⟨by decide +kernel, by decide +kernel⟩, by decide +kernel⟩
theorem mi_X12_isFirstTree : Cond.instanceMethod yX12_isFirstTree ∈ gAll := gt_11 (j := 220) rfl rfl
theorem se_X12_isFirstTree : Cond.selects RX12 yX12_isFirstTree yX12_isFirstTree ∈ gAll := gs_12 (j := 8) (y := yX12_isFirstTree) rfl
theorem mt_X12_listing : gMt yX12_listing cX12_listing 5 (some (.int)) 2 := ⟨gt_11 (j := 225) rfl rfl, gt_1 (j := 17) rfl rfl, ⟨by decide +kernel, by decide +kernel⟩, by decide +kernel⟩
theorem mi_X12_listing : Cond.instanceMethod yX12_listing ∈ gAll := gt_11 (j := 223) rfl rfl
theorem se_X12_listing : Cond.selects RX12 yX12_listing yX12_listing ∈ gAll := gt_11 (j := 224) rfl rfl
theorem mt_X12_nextListed : gMt yX12_nextListed cX12_nextListed 3 (some (.int)) 0 := ⟨gt_11 (j := 229) rfl rfl, gt_1 (j := 17) rfl rfl, ⟨by decide +kernel, by decide +kernel⟩, by decide +kernel⟩
theorem mi_X12_nextListed : Cond.instanceMethod yX12_nextListed ∈ gAll := gt_11 (j := 228) rfl rfl
theorem se_X12_nextListed : Cond.selects RX12 yX12_nextListed yX12_nextListed ∈ gAll := gs_12 (j := 9) (y := yX12_nextListed) rfl
theorem mt_X12_line : gMt yX12_line cX12_line 5 (some (.int)) 2 := ⟨gt_11 (j := 233) rfl rfl, gt_1 (j := 17) rfl rfl, ⟨by decide +kernel, by decide +kernel⟩, by decide +kernel⟩
theorem mi_X12_line : Cond.instanceMethod yX12_line ∈ gAll := gt_11 (j := 231) rfl rfl
theorem se_X12_line : Cond.selects RX12 yX12_line yX12_line ∈ gAll := gt_11 (j := 232) rfl rfl
theorem mt_X12_apart : gMt yX12_apart cX12_apart 7 (some (.int)) 3 := ⟨gt_11 (j := 237) rfl rfl, gt_1 (j := 17) rfl rfl, ⟨by decide +kernel, by decide +kernel⟩, by decide +kernel⟩
theorem mi_X12_apart : Cond.instanceMethod yX12_apart ∈ gAll := gt_11 (j := 235) rfl rfl
theorem se_X12_apart : Cond.selects RX12 yX12_apart yX12_apart ∈ gAll := gt_11 (j := 236) rfl rfl
theorem mt_X12_isRefApart : gMt yX12_isRefApart cX12_isRefApart 4 (some (.boolean)) 3 := ⟨gt_12 (j := 1) rfl rfl, gt_1 (j := 17) rfl rfl, ⟨by decide +kernel, by decide +kernel⟩, by decide +kernel⟩
theorem mi_X12_isRefApart : Cond.instanceMethod yX12_isRefApart ∈ gAll := gt_12 (j := 0) rfl rfl
theorem se_X12_isRefApart : Cond.selects RX12 yX12_isRefApart yX12_isRefApart ∈ gAll := gs_12 (j := 10) (y := yX12_isRefApart) rfl
theorem mt_X12_touches : gMt yX12_touches cX12_touches 5 (some (.int)) 2 := ⟨gt_12 (j := 5) rfl rfl, gt_1 (j := 17) rfl rfl, ⟨by decide +kernel, by decide +kernel⟩, by decide +kernel⟩
theorem mi_X12_touches : Cond.instanceMethod yX12_touches ∈ gAll := gt_12 (j := 3) rfl rfl
theorem se_X12_touches : Cond.selects RX12 yX12_touches yX12_touches ∈ gAll := gt_12 (j := 4) rfl rfl
theorem mt_X12_isTouching : gMt yX12_isTouching cX12_isTouching 4 (some (.boolean)) 2 := ⟨gt_12 (j := 9) rfl rfl, gt_1 (j := 17) rfl rfl, ⟨by decide +kernel, by decide +kernel⟩, by decide +kernel⟩
theorem mi_X12_isTouching : Cond.instanceMethod yX12_isTouching ∈ gAll := gt_12 (j := 8) rfl rfl
theorem se_X12_isTouching : Cond.selects RX12 yX12_isTouching yX12_isTouching ∈ gAll := gs_12 (j := 11) (y := yX12_isTouching) rfl
theorem mt_X12_isSameThere : gMt yX12_isSameThere cX12_isSameThere 5 (some (.boolean)) 3 := ⟨gt_12 (j := 13) rfl rfl, gt_1 (j := 17) rfl rfl, ⟨by decide +kernel, by decide +kernel⟩, by decide +kernel⟩
theorem mi_X12_isSameThere : Cond.instanceMethod yX12_isSameThere ∈ gAll := gt_12 (j := 12) rfl rfl
theorem se_X12_isSameThere : Cond.selects RX12 yX12_isSameThere yX12_isSameThere ∈ gAll := gs_12 (j := 12) (y := yX12_isSameThere) rfl
theorem mt_X12_base : gMt yX12_base cX12_base 6 (some (.int)) 3 := ⟨gt_12 (j := 17) rfl rfl, gt_1 (j := 17) rfl rfl, ⟨by decide +kernel, by decide +kernel⟩, by decide +kernel⟩
theorem mi_X12_base : Cond.instanceMethod yX12_base ∈ gAll := gt_12 (j := 15) rfl rfl
theorem se_X12_base : Cond.selects RX12 yX12_base yX12_base ∈ gAll := gt_12 (j := 16) rfl rfl
theorem mt_X12_marksOf : gMt yX12_marksOf cX12_marksOf 5 none 3 := ⟨gt_12 (j := 21) rfl rfl, gt_1 (j := 17) rfl rfl, ⟨by decide +kernel, by decide +kernel⟩, by decide +kernel⟩
theorem mi_X12_marksOf : Cond.instanceMethod yX12_marksOf ∈ gAll := gt_12 (j := 20) rfl rfl
theorem se_X12_marksOf : Cond.selects RX12 yX12_marksOf yX12_marksOf ∈ gAll := gs_12 (j := 13) (y := yX12_marksOf) rfl
theorem mt_X12_isBelowMarked : gMt yX12_isBelowMarked cX12_isBelowMarked 2 (some (.boolean)) 1 := ⟨gt_12 (j := 25) rfl rfl, gt_1 (j := 17) rfl rfl, ⟨by decide +kernel, by decide +kernel⟩, by decide +kernel⟩
theorem mi_X12_isBelowMarked : Cond.instanceMethod yX12_isBelowMarked ∈ gAll := gt_12 (j := 24) rfl rfl
theorem se_X12_isBelowMarked : Cond.selects RX12 yX12_isBelowMarked yX12_isBelowMarked ∈ gAll := gs_12 (j := 14) (y := yX12_isBelowMarked) rfl
theorem mt_X12_way : gMt yX12_way cX12_way 6 (some (.int)) 2 := ⟨gt_12 (j := 29) rfl rfl, gt_1 (j := 17) rfl rfl, ⟨by decide +kernel, by decide +kernel⟩, by decide +kernel⟩
theorem mi_X12_way : Cond.instanceMethod yX12_way ∈ gAll := gt_12 (j := 27) rfl rfl
theorem se_X12_way : Cond.selects RX12 yX12_way yX12_way ∈ gAll := gt_12 (j := 28) rfl rfl
theorem mt_X12_halving : gMt yX12_halving cX12_halving 11 (some (.int)) 3 := ⟨gt_12 (j := 33) rfl rfl, gt_1 (j := 17) rfl rfl, ⟨by decide +kernel, by decide +kernel⟩, by decide +kernel⟩
theorem mi_X12_halving : Cond.instanceMethod yX12_halving ∈ gAll := gt_12 (j := 31) rfl rfl
theorem se_X12_halving : Cond.selects RX12 yX12_halving yX12_halving ∈ gAll := gt_12 (j := 32) rfl rfl
theorem mt_X12_diff : gMt yX12_diff cX12_diff 4 (some (.int)) 3 := ⟨gt_12 (j := 37) rfl rfl, gt_1 (j := 17) rfl rfl, ⟨by decide +kernel, by decide +kernel⟩, by decide +kernel⟩
theorem mi_X12_diff : Cond.instanceMethod yX12_diff ∈ gAll := gt_12 (j := 35) rfl rfl
theorem se_X12_diff : Cond.selects RX12 yX12_diff yX12_diff ∈ gAll := gt_12 (j := 36) rfl rfl
theorem mt_X12_laysPairs : gMt yX12_laysPairs cX12_laysPairs 4 none 2 := ⟨gt_12 (j := 41) rfl rfl, gt_1 (j := 17) rfl rfl, ⟨by decide +kernel, by decide +kernel⟩, by decide +kernel⟩
theorem mi_X12_laysPairs : Cond.instanceMethod yX12_laysPairs ∈ gAll := gt_12 (j := 40) rfl rfl
theorem se_X12_laysPairs : Cond.selects RX12 yX12_laysPairs yX12_laysPairs ∈ gAll := gs_12 (j := 15) (y := yX12_laysPairs) rfl
theorem mt_X12_pairsNext : gMt yX12_pairsNext cX12_pairsNext 9 (some (.boolean)) 2 := ⟨gt_12 (j := 45) rfl rfl, gt_1 (j := 17) rfl rfl, ⟨by decide +kernel, by decide +kernel⟩, by decide +kernel⟩
theorem mi_X12_pairsNext : Cond.instanceMethod yX12_pairsNext ∈ gAll := gt_12 (j := 44) rfl rfl
theorem se_X12_pairsNext : Cond.selects RX12 yX12_pairsNext yX12_pairsNext ∈ gAll := gs_13 (j := 0) (y := yX12_pairsNext) rfl
theorem mt_X12_isPaired : gMt yX12_isPaired cX12_isPaired 4 (some (.boolean)) 2 := ⟨gt_12 (j := 49) rfl rfl, gt_1 (j := 17) rfl rfl, ⟨by decide +kernel, by decide +kernel⟩, by decide +kernel⟩
theorem mi_X12_isPaired : Cond.instanceMethod yX12_isPaired ∈ gAll := gt_12 (j := 48) rfl rfl
theorem se_X12_isPaired : Cond.selects RX12 yX12_isPaired yX12_isPaired ∈ gAll := gs_13 (j := 1) (y := yX12_isPaired) rfl
theorem mt_X12_likenessOf : gMt yX12_likenessOf cX12_likenessOf 5 (some (.float)) 2 := ⟨gt_12 (j := 53) rfl rfl, gt_1 (j := 17) rfl rfl, ⟨by decide +kernel, by decide +kernel⟩, by decide +kernel⟩
theorem mi_X12_likenessOf : Cond.instanceMethod yX12_likenessOf ∈ gAll := gt_12 (j := 52) rfl rfl
theorem se_X12_likenessOf : Cond.selects RX12 yX12_likenessOf yX12_likenessOf ∈ gAll := gs_13 (j := 2) (y := yX12_likenessOf) rfl
theorem mt_X12_inBoth : gMt yX12_inBoth cX12_inBoth 7 (some (.int)) 2 := ⟨gt_12 (j := 57) rfl rfl, gt_1 (j := 17) rfl rfl, ⟨by decide +kernel, by decide +kernel⟩, by decide +kernel⟩
theorem mi_X12_inBoth : Cond.instanceMethod yX12_inBoth ∈ gAll := gt_12 (j := 56) rfl rfl
theorem se_X12_inBoth : Cond.selects RX12 yX12_inBoth yX12_inBoth ∈ gAll := gs_13 (j := 3) (y := yX12_inBoth) rfl
theorem mt_X12_digitAt : gMt yX12_digitAt cX12_digitAt 4 (some (.int)) 2 := ⟨gt_12 (j := 60) rfl rfl, gt_1 (j := 17) rfl rfl, ⟨by decide +kernel, by decide +kernel⟩, by decide +kernel⟩
theorem ms_X12_digitAt : Cond.static yX12_digitAt ∈ gAll := gt_12 (j := 59) rfl rfl
theorem mt_X12_renamed : gMt yX12_renamed cX12_renamed 6 (some (.int)) 4 := ⟨gt_12 (j := 65) rfl rfl, gt_1 (j := 17) rfl rfl, ⟨by decide +kernel, by decide +kernel⟩, by decide +kernel⟩
theorem mi_X12_renamed : Cond.instanceMethod yX12_renamed ∈ gAll := gt_12 (j := 63) rfl rfl
theorem se_X12_renamed : Cond.selects RX12 yX12_renamed yX12_renamed ∈ gAll := gt_12 (j := 64) rfl rfl
theorem mt_Jxf58ca_floatToIntBits_5c35a : gMt yJxf58ca_floatToIntBits_5c35a cJxf58ca_floatToIntBits_5c35a 1 (some (.int)) 1 := ⟨gt_12 (j := 68) rfl rfl, gt_1 (j := 28) rfl rfl, ⟨by decide +kernel, by decide +kernel⟩, by decide +kernel⟩
theorem ms_Jxf58ca_floatToIntBits_5c35a : Cond.static yJxf58ca_floatToIntBits_5c35a ∈ gAll := gt_12 (j := 67) rfl rfl
theorem mt_Jxf58ca_isNaN_12338 : gMt yJxf58ca_isNaN_12338 cJxf58ca_isNaN_12338 1 (some (.boolean)) 1 := ⟨gt_12 (j := 71) rfl rfl, gt_1 (j := 28) rfl rfl, ⟨by decide +kernel, by decide +kernel⟩, by decide +kernel⟩
theorem ms_Jxf58ca_isNaN_12338 : Cond.static yJxf58ca_isNaN_12338 ∈ gAll := gt_12 (j := 70) rfl rfl
theorem mt_X12_hundredths : gMt yX12_hundredths cX12_hundredths 1 (some (.int)) 1 := ⟨gt_12 (j := 78) rfl rfl, gt_1 (j := 17) rfl rfl, ⟨by decide +kernel, by decide +kernel⟩, by decide +kernel⟩
theorem ms_X12_hundredths : Cond.static yX12_hundredths ∈ gAll := gt_12 (j := 77) rfl rfl
theorem mt_X12_likeness : gMt yX12_likeness cX12_likeness 7 (some (.int)) 5 := ⟨gt_12 (j := 83) rfl rfl, gt_1 (j := 17) rfl rfl, ⟨by decide +kernel, by decide +kernel⟩, by decide +kernel⟩
theorem mi_X12_likeness : Cond.instanceMethod yX12_likeness ∈ gAll := gt_12 (j := 81) rfl rfl
theorem se_X12_likeness : Cond.selects RX12 yX12_likeness yX12_likeness ∈ gAll := gt_12 (j := 82) rfl rfl
theorem mt_X12_origin : gMt yX12_origin cX12_origin 5 (some (.int)) 3 := ⟨gt_12 (j := 87) rfl rfl, gt_1 (j := 17) rfl rfl, ⟨by decide +kernel, by decide +kernel⟩, by decide +kernel⟩
theorem mi_X12_origin : Cond.instanceMethod yX12_origin ∈ gAll := gt_12 (j := 85) rfl rfl
theorem se_X12_origin : Cond.selects RX12 yX12_origin yX12_origin ∈ gAll := gt_12 (j := 86) rfl rfl
theorem mt_X12_stepsByPath : gMt yX12_stepsByPath cX12_stepsByPath 4 (some (.boolean)) 0 := ⟨gt_12 (j := 91) rfl rfl, gt_1 (j := 17) rfl rfl, ⟨by decide +kernel, by decide +kernel⟩, by decide +kernel⟩
theorem mi_X12_stepsByPath : Cond.instanceMethod yX12_stepsByPath ∈ gAll := gt_12 (j := 90) rfl rfl
theorem se_X12_stepsByPath : Cond.selects RX12 yX12_stepsByPath yX12_stepsByPath ∈ gAll := gs_13 (j := 4) (y := yX12_stepsByPath) rfl
theorem mt_X12_steps : gMt yX12_steps cX12_steps 6 none 3 := ⟨gt_12 (j := 95) rfl rfl, gt_1 (j := 17) rfl rfl, ⟨by decide +kernel, by decide +kernel⟩, by decide +kernel⟩
theorem mi_X12_steps : Cond.instanceMethod yX12_steps ∈ gAll := gt_12 (j := 94) rfl rfl
theorem se_X12_steps : Cond.selects RX12 yX12_steps yX12_steps ∈ gAll := gs_13 (j := 5) (y := yX12_steps) rfl
theorem mt_X12_stepsByName : gMt yX12_stepsByName cX12_stepsByName 4 (some (.boolean)) 0 := ⟨gt_12 (j := 99) rfl rfl, gt_1 (j := 17) rfl rfl, ⟨by decide +kernel, by decide +kernel⟩, by decide +kernel⟩
theorem mi_X12_stepsByName : Cond.instanceMethod yX12_stepsByName ∈ gAll := gt_12 (j := 98) rfl rfl
theorem se_X12_stepsByName : Cond.selects RX12 yX12_stepsByName yX12_stepsByName ∈ gAll := gs_13 (j := 6) (y := yX12_stepsByName) rfl
theorem mt_X12_keep : gMt yX12_keep cX12_keep 1 (some (.int)) 0 := ⟨gt_12 (j := 103) rfl rfl, gt_1 (j := 17) rfl rfl, ⟨by decide +kernel, by decide +kernel⟩, by decide +kernel⟩
theorem mi_X12_keep : Cond.instanceMethod yX12_keep ∈ gAll := gt_12 (j := 101) rfl rfl
theorem se_X12_keep : Cond.selects RX12 yX12_keep yX12_keep ∈ gAll := gt_12 (j := 102) rfl rfl
theorem mt_X12_copies : gMt yX12_copies cX12_copies 4 none 3 := ⟨gt_12 (j := 106) rfl rfl, gt_1 (j := 17) rfl rfl, ⟨by decide +kernel, by decide +kernel⟩, by decide +kernel⟩
theorem ms_X12_copies : Cond.static yX12_copies ∈ gAll := gt_12 (j := 105) rfl rfl
theorem mt_X12_undo : gMt yX12_undo cX12_undo 1 (some (.boolean)) 0 := ⟨gt_12 (j := 110) rfl rfl, gt_1 (j := 17) rfl rfl, ⟨by decide +kernel, by decide +kernel⟩, by decide +kernel⟩
theorem mi_X12_undo : Cond.instanceMethod yX12_undo ∈ gAll := gt_12 (j := 108) rfl rfl
theorem se_X12_undo : Cond.selects RX12 yX12_undo yX12_undo ∈ gAll := gt_12 (j := 109) rfl rfl
theorem mt_X12_check : gMt yX12_check cX12_check 4 (some (.int)) 1 := ⟨gt_12 (j := 114) rfl rfl, gt_1 (j := 17) rfl rfl, ⟨by decide +kernel, by decide +kernel⟩, by decide +kernel⟩
theorem mi_X12_check : Cond.instanceMethod yX12_check ∈ gAll := gt_12 (j := 112) rfl rfl
theorem se_X12_check : Cond.selects RX12 yX12_check yX12_check ∈ gAll := gt_12 (j := 113) rfl rfl
theorem mt_X12_count : gMt yX12_count cX12_count 4 (some (.int)) 1 := ⟨gt_12 (j := 118) rfl rfl, gt_1 (j := 17) rfl rfl, ⟨by decide +kernel, by decide +kernel⟩, by decide +kernel⟩
theorem mi_X12_count : Cond.instanceMethod yX12_count ∈ gAll := gt_12 (j := 116) rfl rfl
theorem se_X12_count : Cond.selects RX12 yX12_count yX12_count ∈ gAll := gt_12 (j := 117) rfl rfl
theorem mt_X12_trees : gMt yX12_trees cX12_trees 5 (some (.int)) 0 := ⟨gt_12 (j := 122) rfl rfl, gt_1 (j := 17) rfl rfl, ⟨by decide +kernel, by decide +kernel⟩, by decide +kernel⟩
theorem mi_X12_trees : Cond.instanceMethod yX12_trees ∈ gAll := gt_12 (j := 121) rfl rfl
theorem se_X12_trees : Cond.selects RX12 yX12_trees yX12_trees ∈ gAll := gs_13 (j := 7) (y := yX12_trees) rfl
theorem mt_X12_contents : gMt yX12_contents cX12_contents 4 (some (.int)) 0 := ⟨gt_12 (j := 126) rfl rfl, gt_1 (j := 17) rfl rfl, ⟨by decide +kernel, by decide +kernel⟩, by decide +kernel⟩
theorem mi_X12_contents : Cond.instanceMethod yX12_contents ∈ gAll := gt_12 (j := 125) rfl rfl
theorem se_X12_contents : Cond.selects RX12 yX12_contents yX12_contents ∈ gAll := gs_13 (j := 8) (y := yX12_contents) rfl
theorem mt_X12_isFirstContent : gMt yX12_isFirstContent cX12_isFirstContent 6 (some (.boolean)) 2 := ⟨gt_12 (j := 130) rfl rfl, gt_1 (j := 17) rfl rfl, ⟨by decide +kernel, by decide +kernel⟩, by decide +kernel⟩
theorem mi_X12_isFirstContent : Cond.instanceMethod yX12_isFirstContent ∈ gAll := gt_12 (j := 129) rfl rfl
theorem se_X12_isFirstContent : Cond.selects RX12 yX12_isFirstContent yX12_isFirstContent ∈ gAll := gs_13 (j := 9) (y := yX12_isFirstContent) rfl
theorem ini_L : Cond.initialized RL ∈ gAll := gt_1 (j := 0) rfl rfl
theorem ini_X11 : Cond.initialized RX11 ∈ gAll := gt_1 (j := 1) rfl rfl
theorem ini_X9 : Cond.initialized RX9 ∈ gAll := gt_1 (j := 2) rfl rfl
theorem ini_X8 : Cond.initialized RX8 ∈ gAll := gt_1 (j := 3) rfl rfl
theorem ini_X1 : Cond.initialized RX1 ∈ gAll := gt_1 (j := 4) rfl rfl
theorem ini_X3 : Cond.initialized RX3 ∈ gAll := gt_1 (j := 5) rfl rfl
theorem ini_X10 : Cond.initialized RX10 ∈ gAll := gt_1 (j := 6) rfl rfl
theorem ini_X2 : Cond.initialized RX2 ∈ gAll := gt_1 (j := 7) rfl rfl
theorem ini_X6 : Cond.initialized RX6 ∈ gAll := gt_1 (j := 8) rfl rfl
theorem ini_X5 : Cond.initialized RX5 ∈ gAll := gt_1 (j := 9) rfl rfl
theorem ini_X4 : Cond.initialized RX4 ∈ gAll := gt_1 (j := 10) rfl rfl
theorem ini_X7 : Cond.initialized RX7 ∈ gAll := gt_1 (j := 11) rfl rfl
theorem ini_X0 : Cond.initialized RX0 ∈ gAll := gt_1 (j := 12) rfl rfl
theorem ini_J5 : Cond.initialized RJ5 ∈ gAll := gt_1 (j := 13) rfl rfl
theorem ini_J4 : Cond.initialized RJ4 ∈ gAll := gt_1 (j := 14) rfl rfl
theorem ini_J0 : Cond.initialized RJ0 ∈ gAll := gt_1 (j := 15) rfl rfl
theorem ini_J2 : Cond.initialized RJ2 ∈ gAll := gt_1 (j := 16) rfl rfl
theorem ini_X12 : Cond.initialized RX12 ∈ gAll := gt_1 (j := 17) rfl rfl
theorem ini_J9 : Cond.initialized RJ9 ∈ gAll := gt_1 (j := 18) rfl rfl
theorem ini_J10 : Cond.initialized RJ10 ∈ gAll := gt_1 (j := 19) rfl rfl
theorem ini_J7 : Cond.initialized RJ7 ∈ gAll := gt_1 (j := 20) rfl rfl
theorem ini_J1 : Cond.initialized RJ1 ∈ gAll := gt_1 (j := 21) rfl rfl
theorem ini_J3 : Cond.initialized RJ3 ∈ gAll := gt_1 (j := 22) rfl rfl
theorem ini_Jxd2413 : Cond.initialized RJxd2413 ∈ gAll := gt_1 (j := 23) rfl rfl
theorem ini_J13 : Cond.initialized RJ13 ∈ gAll := gt_1 (j := 24) rfl rfl
theorem ini_J8 : Cond.initialized RJ8 ∈ gAll := gt_1 (j := 25) rfl rfl
theorem ini_J6 : Cond.initialized RJ6 ∈ gAll := gt_1 (j := 26) rfl rfl
theorem ini_Jxe99ae : Cond.initialized RJxe99ae ∈ gAll := gt_1 (j := 27) rfl rfl
theorem ini_Jxf58ca : Cond.initialized RJxf58ca ∈ gAll := gt_1 (j := 28) rfl rfl
theorem cl_L_7 : Cond.classLink RL 7 "CarriedHistory" ∈ gAll := gt_1 (j := 29) rfl rfl
theorem it_X11 : Cond.instantiable RX11 17 ∈ gAll := gt_1 (j := 30) rfl rfl
theorem ml_L_9 : Cond.methodLink RL 9 yX11_init ∈ gAll := gt_1 (j := 31) rfl rfl
theorem ml_X11_1 : Cond.methodLink RX11 1 objectInit ∈ gAll := gt_1 (j := 34) rfl rfl
theorem cl_X11_7 : Cond.classLink RX11 7 "CarriedHistory$Tape" ∈ gAll := gt_1 (j := 37) rfl rfl
theorem it_X9 : Cond.instantiable RX9 5 ∈ gAll := gt_1 (j := 38) rfl rfl
theorem ml_X9_3 : Cond.methodLink RX9 3 objectInit ∈ gAll := gt_1 (j := 42) rfl rfl
theorem ac_byte : Cond.arrayClass .byte ∈ gAll := gt_1 (j := 66) rfl rfl
theorem cl_X11_16 : Cond.classLink RX11 16 "CarriedHistory$Rewriter" ∈ gAll := gt_1 (j := 67) rfl rfl
theorem it_X8 : Cond.instantiable RX8 10 ∈ gAll := gt_1 (j := 68) rfl rfl
theorem ml_X8_3 : Cond.methodLink RX8 3 objectInit ∈ gAll := gt_1 (j := 72) rfl rfl
theorem cl_X8_9 : Cond.classLink RX8 9 "CarriedHistory$Commits" ∈ gAll := gt_1 (j := 73) rfl rfl
theorem it_X1 : Cond.instantiable RX1 12 ∈ gAll := gt_1 (j := 74) rfl rfl
theorem ml_X8_11 : Cond.methodLink RX8 11 yX1_init ∈ gAll := gt_1 (j := 75) rfl rfl
theorem ml_X1_3 : Cond.methodLink RX1 3 objectInit ∈ gAll := gt_1 (j := 78) rfl rfl
theorem cl_X1_21 : Cond.classLink RX1 21 "CarriedHistory$Tree" ∈ gAll := gt_1 (j := 79) rfl rfl
theorem cl_X1_43 : Cond.classLink RX1 43 "CarriedHistory$Marks" ∈ gAll := gt_1 (j := 81) rfl rfl
theorem it_X3 : Cond.instantiable RX3 2 ∈ gAll := gt_1 (j := 82) rfl rfl
theorem ml_X1_45 : Cond.methodLink RX1 45 yX3_init ∈ gAll := gt_1 (j := 83) rfl rfl
theorem ml_X3_3 : Cond.methodLink RX3 3 objectInit ∈ gAll := gt_1 (j := 86) rfl rfl
theorem ac_int : Cond.arrayClass .int ∈ gAll := gt_1 (j := 94) rfl rfl
theorem ac_long : Cond.arrayClass .long ∈ gAll := gt_1 (j := 95) rfl rfl
theorem it_X10 : Cond.instantiable RX10 3 ∈ gAll := gt_1 (j := 96) rfl rfl
theorem ml_X1_52 : Cond.methodLink RX1 52 yX10_init ∈ gAll := gt_1 (j := 97) rfl rfl
theorem ml_X10_3 : Cond.methodLink RX10 3 objectInit ∈ gAll := gt_1 (j := 100) rfl rfl
theorem cl_X8_18 : Cond.classLink RX8 18 "CarriedHistory$Draft" ∈ gAll := gt_1 (j := 176) rfl rfl
theorem it_X2 : Cond.instantiable RX2 8 ∈ gAll := gt_1 (j := 177) rfl rfl
theorem ml_X2_3 : Cond.methodLink RX2 3 objectInit ∈ gAll := gt_1 (j := 181) rfl rfl
theorem cl_X2_15 : Cond.classLink RX2 15 "CarriedHistory$Tree" ∈ gAll := gt_1 (j := 182) rfl rfl
theorem ml_X2_17 : Cond.methodLink RX2 17 yX10_init ∈ gAll := gt_1 (j := 183) rfl rfl
theorem cl_X8_25 : Cond.classLink RX8 25 "CarriedHistory$Marks" ∈ gAll := gt_1 (j := 222) rfl rfl
theorem ml_X8_27 : Cond.methodLink RX8 27 yX3_init ∈ gAll := gt_1 (j := 223) rfl rfl
theorem ac_boolean : Cond.arrayClass .boolean ∈ gAll := gt_2 (j := 21) rfl rfl
theorem cl_X11_28 : Cond.classLink RX11 28 "CarriedHistory$Draft" ∈ gAll := gt_2 (j := 22) rfl rfl
theorem cl_X11_35 : Cond.classLink RX11 35 "CarriedHistory$Refs" ∈ gAll := gt_2 (j := 24) rfl rfl
theorem cl_X11_41 : Cond.classLink RX11 41 "CarriedHistory$Plan" ∈ gAll := gt_2 (j := 26) rfl rfl
theorem cl_X11_47 : Cond.classLink RX11 47 "CarriedHistory$PlanText" ∈ gAll := gt_2 (j := 28) rfl rfl
theorem it_X6 : Cond.instantiable RX6 4 ∈ gAll := gt_2 (j := 29) rfl rfl
theorem ml_X6_3 : Cond.methodLink RX6 3 objectInit ∈ gAll := gt_2 (j := 33) rfl rfl
theorem cl_X6_9 : Cond.classLink RX6 9 "CarriedHistory$Plan" ∈ gAll := gt_2 (j := 34) rfl rfl
theorem it_X5 : Cond.instantiable RX5 19 ∈ gAll := gt_2 (j := 35) rfl rfl
theorem ml_X5_3 : Cond.methodLink RX5 3 objectInit ∈ gAll := gt_2 (j := 39) rfl rfl
theorem cl_X5_9 : Cond.classLink RX5 9 "CarriedHistory$Pairs" ∈ gAll := gt_2 (j := 40) rfl rfl
theorem it_X4 : Cond.instantiable RX4 3 ∈ gAll := gt_2 (j := 41) rfl rfl
theorem ml_X5_11 : Cond.methodLink RX5 11 yX4_init ∈ gAll := gt_2 (j := 42) rfl rfl
theorem ml_X4_3 : Cond.methodLink RX4 3 objectInit ∈ gAll := gt_2 (j := 45) rfl rfl
theorem it_X7 : Cond.instantiable RX7 5 ∈ gAll := gt_2 (j := 182) rfl rfl
theorem ml_X7_3 : Cond.methodLink RX7 3 objectInit ∈ gAll := gt_2 (j := 186) rfl rfl
theorem cl_X11_59 : Cond.classLink RX11 59 "CarriedHistory$Change" ∈ gAll := gt_2 (j := 212) rfl rfl
theorem it_X0 : Cond.instantiable RX0 18 ∈ gAll := gt_2 (j := 213) rfl rfl
theorem ml_X0_3 : Cond.methodLink RX0 3 objectInit ∈ gAll := gt_2 (j := 217) rfl rfl
theorem ac_float : Cond.arrayClass .float ∈ gAll := gt_3 (j := 38) rfl rfl
theorem cl_X11_69 : Cond.classLink RX11 69 "CarriedHistory$Marks" ∈ gAll := gt_3 (j := 39) rfl rfl
theorem ml_X11_71 : Cond.methodLink RX11 71 yX3_init ∈ gAll := gt_3 (j := 40) rfl rfl
theorem cl_X11_85 : Cond.classLink RX11 85 "java/lang/StringBuilder" ∈ gAll := gt_3 (j := 41) rfl rfl
theorem it_J4 : Cond.instantiable RJ4 4 ∈ gAll := gt_3 (j := 42) rfl rfl
theorem ml_X11_87 : Cond.methodLink RX11 87 yJ4_init_da8c8 ∈ gAll := gt_3 (j := 43) rfl rfl
theorem ml_J4_1 : Cond.methodLink RJ4 1 yJ5_init_d00df ∈ gAll := gt_3 (j := 46) rfl rfl
theorem ml_J5_3 : Cond.methodLink RJ5 3 objectInit ∈ gAll := gt_3 (j := 49) rfl rfl
theorem ml_J5_26 : Cond.methodLink RJ5 26 yJ2_newBytesFor_77867 ∈ gAll := gt_3 (j := 52) rfl rfl
theorem ml_J2_11 : Cond.methodLink RJ2 11 yJ2_newBytesLength_0f7a4 ∈ gAll := gt_3 (j := 55) rfl rfl
theorem co_J2_20 : Cond.constant RJ2 20 (Int32.ofInt 1073741823) ∈ gAll := gt_3 (j := 58) rfl rfl
theorem ml_L_13 : Cond.methodLink RL 13 yX11_feed ∈ gAll := gt_3 (j := 125) rfl rfl
theorem ml_X11_106 : Cond.methodLink RX11 106 yX9_add ∈ gAll := gt_3 (j := 129) rfl rfl
theorem ml_L_18 : Cond.methodLink RL 18 yX11_commit ∈ gAll := gt_3 (j := 133) rfl rfl
theorem ml_X11_109 : Cond.methodLink RX11 109 yX11_isWho ∈ gAll := gt_3 (j := 137) rfl rfl
theorem ml_X11_113 : Cond.methodLink RX11 113 yX11_isHour ∈ gAll := gt_3 (j := 140) rfl rfl
theorem ml_X11_116 : Cond.methodLink RX11 116 yX2_read ∈ gAll := gt_3 (j := 143) rfl rfl
theorem ml_X2_58 : Cond.methodLink RX2 58 yX2_begin ∈ gAll := gt_3 (j := 147) rfl rfl
theorem ml_X2_62 : Cond.methodLink RX2 62 yX9_begin ∈ gAll := gt_3 (j := 151) rfl rfl
theorem ml_X9_22 : Cond.methodLink RX9 22 yJ9_min_7cf53 ∈ gAll := gt_3 (j := 155) rfl rfl
theorem ml_X2_66 : Cond.methodLink RX2 66 yX9_next ∈ gAll := gt_3 (j := 158) rfl rfl
theorem ml_X2_71 : Cond.methodLink RX2 71 yX2_readParents ∈ gAll := gt_3 (j := 162) rfl rfl
theorem ml_X2_104 : Cond.methodLink RX2 104 yX9_isDigit ∈ gAll := gt_3 (j := 166) rfl rfl
theorem ml_X2_107 : Cond.methodLink RX2 107 yX9_fail ∈ gAll := gt_3 (j := 170) rfl rfl
theorem ml_X2_110 : Cond.methodLink RX2 110 yX9_digits ∈ gAll := gt_3 (j := 174) rfl rfl
theorem ml_X9_42 : Cond.methodLink RX9 42 yX9_isDigit ∈ gAll := gt_3 (j := 178) rfl rfl
theorem ml_X9_38 : Cond.methodLink RX9 38 yX9_fail ∈ gAll := gt_3 (j := 179) rfl rfl
theorem ml_X9_34 : Cond.methodLink RX9 34 yX9_next ∈ gAll := gt_3 (j := 180) rfl rfl
theorem ml_X2_113 : Cond.methodLink RX2 113 yX2_hasParent ∈ gAll := gt_3 (j := 181) rfl rfl
theorem ml_X2_116 : Cond.methodLink RX2 116 yX2_addParent ∈ gAll := gt_3 (j := 185) rfl rfl
theorem ml_X2_78 : Cond.methodLink RX2 78 yX9_expect ∈ gAll := gt_3 (j := 189) rfl rfl
theorem ml_X2_82 : Cond.methodLink RX2 82 yX1_tree ∈ gAll := gt_3 (j := 193) rfl rfl
theorem ml_X2_85 : Cond.methodLink RX2 85 yX10_copy ∈ gAll := gt_3 (j := 197) rfl rfl
theorem ml_X10_27 : Cond.methodLink RX10 27 yJ9_min_7cf53 ∈ gAll := gt_3 (j := 201) rfl rfl
theorem ml_X10_33 : Cond.methodLink RX10 33 ⟨"java/lang/System", "arraycopy", "(Ljava/lang/Object;ILjava/lang/Object;II)V"⟩ ∈ gAll := gt_3 (j := 202) rfl rfl
theorem ml_X2_89 : Cond.methodLink RX2 89 yX9_isAtEnd ∈ gAll := gt_3 (j := 205) rfl rfl
theorem ml_X2_93 : Cond.methodLink RX2 93 yX2_readEdits ∈ gAll := gt_3 (j := 209) rfl rfl
theorem ml_X2_119 : Cond.methodLink RX2 119 yX2_readEdit ∈ gAll := gt_3 (j := 213) rfl rfl
theorem ml_X2_122 : Cond.methodLink RX2 122 yX9_digit ∈ gAll := gt_3 (j := 217) rfl rfl
theorem ml_X2_125 : Cond.methodLink RX2 125 yX9_path ∈ gAll := gt_3 (j := 221) rfl rfl
theorem ml_X9_46 : Cond.methodLink RX9 46 yX9_isLetter ∈ gAll := gt_3 (j := 225) rfl rfl
theorem ml_X9_49 : Cond.methodLink RX9 49 yX10_withName ∈ gAll := gt_3 (j := 229) rfl rfl
theorem ml_X2_129 : Cond.methodLink RX2 129 yX2_putFile ∈ gAll := gt_3 (j := 232) rfl rfl
theorem ml_X2_145 : Cond.methodLink RX2 145 yX10_hasFolder ∈ gAll := gt_3 (j := 236) rfl rfl
theorem ml_X10_42 : Cond.methodLink RX10 42 yX10_covers ∈ gAll := gt_4 (j := 0) rfl rfl
theorem ml_X2_148 : Cond.methodLink RX2 148 yX10_hasFileAhead ∈ gAll := gt_4 (j := 3) rfl rfl
theorem ml_X2_151 : Cond.methodLink RX2 151 yX10_find ∈ gAll := gt_4 (j := 7) rfl rfl
theorem ml_X2_154 : Cond.methodLink RX2 154 yX10_put ∈ gAll := gt_4 (j := 11) rfl rfl
theorem ml_X2_132 : Cond.methodLink RX2 132 yX2_fetch ∈ gAll := gt_4 (j := 15) rfl rfl
theorem ml_X2_136 : Cond.methodLink RX2 136 yX10_filesAt ∈ gAll := gt_4 (j := 19) rfl rfl
theorem ml_X2_142 : Cond.methodLink RX2 142 yX10_removeAt ∈ gAll := gt_4 (j := 23) rfl rfl
theorem ml_X2_157 : Cond.methodLink RX2 157 yX10_covers ∈ gAll := gt_4 (j := 27) rfl rfl
theorem ml_X2_139 : Cond.methodLink RX2 139 yX2_moveAll ∈ gAll := gt_4 (j := 28) rfl rfl
theorem ml_X2_163 : Cond.methodLink RX2 163 yX10_moved ∈ gAll := gt_4 (j := 32) rfl rfl
theorem ml_X10_18 : Cond.methodLink RX10 18 yX10_namesIn ∈ gAll := gt_4 (j := 35) rfl rfl
theorem co_X10_22 : Cond.constant RX10 22 (Int32.ofInt 1073741823) ∈ gAll := gt_4 (j := 38) rfl rfl
theorem ml_X2_97 : Cond.methodLink RX2 97 yX2_readMessage ∈ gAll := gt_4 (j := 39) rfl rfl
theorem ml_X2_170 : Cond.methodLink RX2 170 yX9_isLetter ∈ gAll := gt_4 (j := 43) rfl rfl
theorem ml_X2_55 : Cond.methodLink RX2 55 yX2_addToMessage ∈ gAll := gt_4 (j := 44) rfl rfl
theorem ml_X11_126 : Cond.methodLink RX11 126 yX1_settle ∈ gAll := gt_4 (j := 48) rfl rfl
theorem ml_X1_98 : Cond.methodLink RX1 98 yX1_lowestWith ∈ gAll := gt_4 (j := 52) rfl rfl
theorem ml_X1_90 : Cond.methodLink RX1 90 yX10_isLike ∈ gAll := gt_4 (j := 56) rfl rfl
theorem ml_X1_102 : Cond.methodLink RX1 102 yX1_isAs ∈ gAll := gt_4 (j := 60) rfl rfl
theorem ml_X1_61 : Cond.methodLink RX1 61 yX1_parent ∈ gAll := gt_4 (j := 64) rfl rfl
theorem ml_X1_119 : Cond.methodLink RX1 119 yX1_messageByte ∈ gAll := gt_4 (j := 68) rfl rfl
theorem ml_X1_106 : Cond.methodLink RX1 106 yX1_write ∈ gAll := gt_4 (j := 72) rfl rfl
theorem ml_X1_125 : Cond.methodLink RX1 125 ⟨"java/lang/System", "arraycopy", "(Ljava/lang/Object;ILjava/lang/Object;II)V"⟩ ∈ gAll := gt_4 (j := 76) rfl rfl
theorem ml_X1_131 : Cond.methodLink RX1 131 yX10_copy ∈ gAll := gt_4 (j := 77) rfl rfl
theorem ml_X1_73 : Cond.methodLink RX1 73 yX3_clear ∈ gAll := gt_4 (j := 78) rfl rfl
theorem ml_X1_135 : Cond.methodLink RX1 135 yJ9_max_7cf53 ∈ gAll := gt_4 (j := 82) rfl rfl
theorem ml_X1_76 : Cond.methodLink RX1 76 yX3_putAll ∈ gAll := gt_4 (j := 85) rfl rfl
theorem ml_X1_80 : Cond.methodLink RX1 80 yX3_put ∈ gAll := gt_4 (j := 89) rfl rfl
theorem ml_L_23 : Cond.methodLink RL 23 yX11_plan ∈ gAll := gt_4 (j := 93) rfl rfl
theorem ml_X11_132 : Cond.methodLink RX11 132 yX11_isPlan ∈ gAll := gt_4 (j := 97) rfl rfl
theorem ml_X11_138 : Cond.methodLink RX11 138 yX6_read ∈ gAll := gt_4 (j := 100) rfl rfl
theorem ml_X6_25 : Cond.methodLink RX6 25 yX9_begin ∈ gAll := gt_4 (j := 104) rfl rfl
theorem ml_X6_31 : Cond.methodLink RX6 31 yX5_begin ∈ gAll := gt_4 (j := 105) rfl rfl
theorem ml_X5_74 : Cond.methodLink RX5 74 yJ7_fill_53178 ∈ gAll := gt_4 (j := 109) rfl rfl
theorem ml_X6_33 : Cond.methodLink RX6 33 yX6_readLine ∈ gAll := gt_4 (j := 112) rfl rfl
theorem ml_X6_57 : Cond.methodLink RX6 57 yX6_readWord ∈ gAll := gt_4 (j := 116) rfl rfl
theorem ml_X6_88 : Cond.methodLink RX6 88 yX9_isLetter ∈ gAll := gt_4 (j := 120) rfl rfl
theorem ml_X6_91 : Cond.methodLink RX6 91 yX6_spelling ∈ gAll := gt_4 (j := 121) rfl rfl
theorem ml_X6_95 : Cond.methodLink RX6 95 yX6_isSpelt ∈ gAll := gt_4 (j := 139) rfl rfl
theorem ml_X6_99 : Cond.methodLink RX6 99 yJ0_length_8abf5 ∈ gAll := gt_4 (j := 143) rfl rfl
theorem ml_J0_335 : Cond.methodLink RJ0 335 yJ0_coder_7d493 ∈ gAll := gt_4 (j := 147) rfl rfl
theorem ml_X6_105 : Cond.methodLink RX6 105 yX9_at ∈ gAll := gt_4 (j := 152) rfl rfl
theorem ml_X6_108 : Cond.methodLink RX6 108 yJ0_charAt_5068e ∈ gAll := gt_4 (j := 156) rfl rfl
theorem ml_J0_492 : Cond.methodLink RJ0 492 yJ0_isLatin1_aae02 ∈ gAll := gt_4 (j := 160) rfl rfl
theorem ml_J0_495 : Cond.methodLink RJ0 495 yJ1_charAt_3b067 ∈ gAll := gt_4 (j := 164) rfl rfl
theorem ml_J1_9 : Cond.methodLink RJ1 9 yJ0_checkIndex_df160 ∈ gAll := gt_4 (j := 167) rfl rfl
theorem ml_J0_1059 : Cond.methodLink RJ0 1059 yJ3_checkIndex_8e157 ∈ gAll := gt_4 (j := 172) rfl rfl
theorem ml_J0_498 : Cond.methodLink RJ0 498 yJ2_charAt_3b067 ∈ gAll := gt_4 (j := 175) rfl rfl
theorem ml_J2_67 : Cond.methodLink RJ2 67 yJ2_checkIndex_2214a ∈ gAll := gt_4 (j := 178) rfl rfl
theorem ml_J2_48 : Cond.methodLink RJ2 48 yJ2_length_9d52b ∈ gAll := gt_4 (j := 181) rfl rfl
theorem ml_J2_414 : Cond.methodLink RJ2 414 yJ0_checkIndex_df160 ∈ gAll := gt_4 (j := 184) rfl rfl
theorem ml_J2_71 : Cond.methodLink RJ2 71 yJ2_getChar_3b067 ∈ gAll := gt_4 (j := 185) rfl rfl
theorem ml_X6_61 : Cond.methodLink RX6 61 yX9_fail ∈ gAll := gt_4 (j := 194) rfl rfl
theorem ml_X6_65 : Cond.methodLink RX6 65 yX6_isTooMany ∈ gAll := gt_4 (j := 195) rfl rfl
theorem ml_X6_72 : Cond.methodLink RX6 72 yX6_pairsOf ∈ gAll := gt_4 (j := 199) rfl rfl
theorem ml_X6_47 : Cond.methodLink RX6 47 yX9_expect ∈ gAll := gt_4 (j := 203) rfl rfl
theorem ml_X6_68 : Cond.methodLink RX6 68 yX9_path ∈ gAll := gt_4 (j := 204) rfl rfl
theorem ml_X6_76 : Cond.methodLink RX6 76 yX4_add ∈ gAll := gt_4 (j := 205) rfl rfl
theorem ml_X6_81 : Cond.methodLink RX6 81 yX6_readPair ∈ gAll := gt_4 (j := 209) rfl rfl
theorem ml_X6_167 : Cond.methodLink RX6 167 yX6_readCommit ∈ gAll := gt_4 (j := 213) rfl rfl
theorem ml_X6_180 : Cond.methodLink RX6 180 yX9_digits ∈ gAll := gt_4 (j := 217) rfl rfl
theorem ml_X6_171 : Cond.methodLink RX6 171 yX6_readSide ∈ gAll := gt_4 (j := 218) rfl rfl
theorem ml_X6_177 : Cond.methodLink RX6 177 yX9_next ∈ gAll := gt_4 (j := 222) rfl rfl
theorem ml_X6_184 : Cond.methodLink RX6 184 yX9_word ∈ gAll := gt_4 (j := 223) rfl rfl
theorem ml_X6_186 : Cond.methodLink RX6 186 yX9_digit ∈ gAll := gt_4 (j := 227) rfl rfl
theorem ml_X6_174 : Cond.methodLink RX6 174 yX4_find ∈ gAll := gt_4 (j := 228) rfl rfl
theorem ml_X6_85 : Cond.methodLink RX6 85 yX6_readSetting ∈ gAll := gt_4 (j := 232) rfl rfl
theorem ml_X6_191 : Cond.methodLink RX6 191 yX6_readTo ∈ gAll := gt_4 (j := 236) rfl rfl
theorem ml_X6_37 : Cond.methodLink RX6 37 yX9_isAtEnd ∈ gAll := gt_5 (j := 0) rfl rfl
theorem ml_X11_145 : Cond.methodLink RX11 145 yX5_copy ∈ gAll := gt_5 (j := 1) rfl rfl
theorem ml_X5_86 : Cond.methodLink RX5 86 yX4_copy ∈ gAll := gt_5 (j := 5) rfl rfl
theorem ml_X4_32 : Cond.methodLink RX4 32 yJ9_min_7cf53 ∈ gAll := gt_5 (j := 9) rfl rfl
theorem ml_X4_38 : Cond.methodLink RX4 38 ⟨"java/lang/System", "arraycopy", "(Ljava/lang/Object;ILjava/lang/Object;II)V"⟩ ∈ gAll := gt_5 (j := 10) rfl rfl
theorem ml_X5_90 : Cond.methodLink RX5 90 yX5_takeMap ∈ gAll := gt_5 (j := 11) rfl rfl
theorem ml_X5_94 : Cond.methodLink RX5 94 ⟨"java/lang/System", "arraycopy", "(Ljava/lang/Object;ILjava/lang/Object;II)V"⟩ ∈ gAll := gt_5 (j := 15) rfl rfl
theorem ml_L_153 : Cond.methodLink RL 153 yX11_check ∈ gAll := gt_5 (j := 16) rfl rfl
theorem ml_X11_152 : Cond.methodLink RX11 152 yX1_has ∈ gAll := gt_5 (j := 20) rfl rfl
theorem ml_X11_155 : Cond.methodLink RX11 155 yX1_tree ∈ gAll := gt_5 (j := 24) rfl rfl
theorem ml_X11_162 : Cond.methodLink RX11 162 yX9_at ∈ gAll := gt_5 (j := 25) rfl rfl
theorem ml_L_28 : Cond.methodLink RL 28 yX11_ref ∈ gAll := gt_5 (j := 26) rfl rfl
theorem ml_X11_166 : Cond.methodLink RX11 166 yX11_isHistory ∈ gAll := gt_5 (j := 30) rfl rfl
theorem ml_X11_169 : Cond.methodLink RX11 169 yX11_isLetter ∈ gAll := gt_5 (j := 33) rfl rfl
theorem ml_X11_172 : Cond.methodLink RX11 172 yX7_find ∈ gAll := gt_5 (j := 36) rfl rfl
theorem ml_X11_176 : Cond.methodLink RX11 176 yX7_remove ∈ gAll := gt_5 (j := 40) rfl rfl
theorem ml_X7_28 : Cond.methodLink RX7 28 yX7_find ∈ gAll := gt_5 (j := 44) rfl rfl
theorem ml_X7_36 : Cond.methodLink RX7 36 yX7_take ∈ gAll := gt_5 (j := 45) rfl rfl
theorem ml_X11_181 : Cond.methodLink RX11 181 yX7_lay ∈ gAll := gt_5 (j := 49) rfl rfl
theorem ml_X7_32 : Cond.methodLink RX7 32 yX7_makeRoom ∈ gAll := gt_5 (j := 53) rfl rfl
theorem ml_L_33 : Cond.methodLink RL 33 yX11_run ∈ gAll := gt_5 (j := 57) rfl rfl
theorem ml_X11_185 : Cond.methodLink RX11 185 yX11_carry ∈ gAll := gt_5 (j := 61) rfl rfl
theorem ml_X11_196 : Cond.methodLink RX11 196 yX8_begin ∈ gAll := gt_5 (j := 65) rfl rfl
theorem ml_X8_90 : Cond.methodLink RX8 90 yX8_markPlan ∈ gAll := gt_5 (j := 69) rfl rfl
theorem ml_X8_63 : Cond.methodLink RX8 63 yX3_clear ∈ gAll := gt_5 (j := 73) rfl rfl
theorem ml_X8_66 : Cond.methodLink RX8 66 yX5_foreCount ∈ gAll := gt_5 (j := 74) rfl rfl
theorem ml_X5_100 : Cond.methodLink RX5 100 yX4_find ∈ gAll := gt_5 (j := 78) rfl rfl
theorem ml_X8_72 : Cond.methodLink RX8 72 yX5_foreAt ∈ gAll := gt_5 (j := 79) rfl rfl
theorem ml_X5_112 : Cond.methodLink RX5 112 yX1_parent ∈ gAll := gt_5 (j := 83) rfl rfl
theorem ml_X8_76 : Cond.methodLink RX8 76 yX3_putAll ∈ gAll := gt_5 (j := 84) rfl rfl
theorem ml_X8_80 : Cond.methodLink RX8 80 yX3_put ∈ gAll := gt_5 (j := 85) rfl rfl
theorem ml_X8_94 : Cond.methodLink RX8 94 yJ7_fill_53178 ∈ gAll := gt_5 (j := 86) rfl rfl
theorem ml_X8_101 : Cond.methodLink RX8 101 ⟨"java/lang/System", "arraycopy", "(Ljava/lang/Object;ILjava/lang/Object;II)V"⟩ ∈ gAll := gt_5 (j := 87) rfl rfl
theorem ml_X11_200 : Cond.methodLink RX11 200 yX8_isOfPlan ∈ gAll := gt_5 (j := 88) rfl rfl
theorem ml_X8_55 : Cond.methodLink RX8 55 yX3_has ∈ gAll := gt_5 (j := 92) rfl rfl
theorem ml_X11_206 : Cond.methodLink RX11 206 yX8_rewrite ∈ gAll := gt_5 (j := 96) rfl rfl
theorem ml_X8_115 : Cond.methodLink RX8 115 yX4_exchanged ∈ gAll := gt_5 (j := 100) rfl rfl
theorem ml_X4_22 : Cond.methodLink RX4 22 yX4_find ∈ gAll := gt_5 (j := 104) rfl rfl
theorem ml_X8_124 : Cond.methodLink RX8 124 yX2_begin ∈ gAll := gt_5 (j := 105) rfl rfl
theorem ml_X8_127 : Cond.methodLink RX8 127 yX1_tree ∈ gAll := gt_5 (j := 106) rfl rfl
theorem ml_X8_130 : Cond.methodLink RX8 130 yX8_carryTree ∈ gAll := gt_5 (j := 107) rfl rfl
theorem ml_X8_187 : Cond.methodLink RX8 187 yX4_cover ∈ gAll := gt_5 (j := 111) rfl rfl
theorem ml_X4_26 : Cond.methodLink RX4 26 yX10_covers ∈ gAll := gt_5 (j := 115) rfl rfl
theorem ml_X8_194 : Cond.methodLink RX8 194 yX0_digitsIn ∈ gAll := gt_5 (j := 116) rfl rfl
theorem ml_X8_205 : Cond.methodLink RX8 205 yX5_placeOf ∈ gAll := gt_5 (j := 119) rfl rfl
theorem ml_X5_119 : Cond.methodLink RX5 119 yX10_covers ∈ gAll := gt_5 (j := 123) rfl rfl
theorem ml_X5_125 : Cond.methodLink RX5 125 yX10_namesIn ∈ gAll := gt_5 (j := 124) rfl rfl
theorem ml_X5_128 : Cond.methodLink RX5 128 yX10_moved ∈ gAll := gt_5 (j := 125) rfl rfl
theorem ml_X8_208 : Cond.methodLink RX8 208 yX10_isTaken ∈ gAll := gt_5 (j := 126) rfl rfl
theorem ml_X8_214 : Cond.methodLink RX8 214 yX10_put ∈ gAll := gt_5 (j := 130) rfl rfl
theorem ml_X8_134 : Cond.methodLink RX8 134 yX8_gatherParents ∈ gAll := gt_5 (j := 131) rfl rfl
theorem ml_X8_215 : Cond.methodLink RX8 215 yX2_hasParent ∈ gAll := gt_5 (j := 135) rfl rfl
theorem ml_X8_218 : Cond.methodLink RX8 218 yX2_addParent ∈ gAll := gt_5 (j := 136) rfl rfl
theorem ml_X8_141 : Cond.methodLink RX8 141 yX8_thinParents ∈ gAll := gt_5 (j := 137) rfl rfl
theorem ml_X8_221 : Cond.methodLink RX8 221 yX8_isNeedless ∈ gAll := gt_5 (j := 141) rfl rfl
theorem ml_X8_229 : Cond.methodLink RX8 229 yX1_isAbove ∈ gAll := gt_5 (j := 145) rfl rfl
theorem ml_X1_69 : Cond.methodLink RX1 69 yX3_has ∈ gAll := gt_5 (j := 149) rfl rfl
theorem ml_X8_225 : Cond.methodLink RX8 225 yX10_isLike ∈ gAll := gt_5 (j := 150) rfl rfl
theorem ml_X8_147 : Cond.methodLink RX8 147 yX8_bringsNothing ∈ gAll := gt_5 (j := 151) rfl rfl
theorem ml_X8_151 : Cond.methodLink RX8 151 yX8_isEmptyByItself ∈ gAll := gt_5 (j := 155) rfl rfl
theorem ml_X8_155 : Cond.methodLink RX8 155 yX8_isSkipped ∈ gAll := gt_5 (j := 159) rfl rfl
theorem ml_X8_164 : Cond.methodLink RX8 164 yX8_carryMessage ∈ gAll := gt_5 (j := 163) rfl rfl
theorem ml_X8_244 : Cond.methodLink RX8 244 yX1_messageByte ∈ gAll := gt_5 (j := 167) rfl rfl
theorem ml_X8_248 : Cond.methodLink RX8 248 yX8_endOfPiece ∈ gAll := gt_5 (j := 168) rfl rfl
theorem ml_X8_251 : Cond.methodLink RX8 251 yX8_carryMention ∈ gAll := gt_5 (j := 172) rfl rfl
theorem ml_X8_271 : Cond.methodLink RX8 271 yX2_addToMessage ∈ gAll := gt_5 (j := 176) rfl rfl
theorem ml_X8_274 : Cond.methodLink RX8 274 yX0_digitFromBehind ∈ gAll := gt_5 (j := 177) rfl rfl
theorem ml_X8_255 : Cond.methodLink RX8 255 yX8_wordAt ∈ gAll := gt_5 (j := 180) rfl rfl
theorem ml_X8_262 : Cond.methodLink RX8 262 yX4_find ∈ gAll := gt_5 (j := 184) rfl rfl
theorem ml_X8_268 : Cond.methodLink RX8 268 yX8_addWord ∈ gAll := gt_5 (j := 185) rfl rfl
theorem ml_X8_167 : Cond.methodLink RX8 167 yX1_settle ∈ gAll := gt_5 (j := 189) rfl rfl
theorem ml_X11_210 : Cond.methodLink RX11 210 yX11_layRefs ∈ gAll := gt_5 (j := 190) rfl rfl
theorem ml_X11_224 : Cond.methodLink RX11 224 yX7_copy ∈ gAll := gt_5 (j := 194) rfl rfl
theorem ml_X11_227 : Cond.methodLink RX11 227 yX7_removeLaidBy ∈ gAll := gt_5 (j := 198) rfl rfl
theorem ml_X11_217 : Cond.methodLink RX11 217 yX5_takeMap ∈ gAll := gt_5 (j := 202) rfl rfl
theorem ml_L_38 : Cond.methodLink RL 38 yX11_again ∈ gAll := gt_5 (j := 203) rfl rfl
theorem ml_L_42 : Cond.methodLink RL 42 yX11_join ∈ gAll := gt_5 (j := 207) rfl rfl
theorem ml_X11_241 : Cond.methodLink RX11 241 yX7_branch ∈ gAll := gt_5 (j := 211) rfl rfl
theorem ml_X11_244 : Cond.methodLink RX11 244 yX1_isAbove ∈ gAll := gt_5 (j := 215) rfl rfl
theorem ml_X11_248 : Cond.methodLink RX11 248 yX2_begin ∈ gAll := gt_5 (j := 216) rfl rfl
theorem ml_X11_250 : Cond.methodLink RX11 250 yX2_addParent ∈ gAll := gt_5 (j := 217) rfl rfl
theorem ml_X11_256 : Cond.methodLink RX11 256 yX10_copy ∈ gAll := gt_5 (j := 218) rfl rfl
theorem ml_X11_259 : Cond.methodLink RX11 259 yX10_takeAll ∈ gAll := gt_5 (j := 219) rfl rfl
theorem ml_X10_46 : Cond.methodLink RX10 46 yX10_contentAt ∈ gAll := gt_5 (j := 223) rfl rfl
theorem ml_X10_39 : Cond.methodLink RX10 39 yX10_find ∈ gAll := gt_5 (j := 227) rfl rfl
theorem ml_X10_49 : Cond.methodLink RX10 49 yX10_put ∈ gAll := gt_5 (j := 228) rfl rfl
theorem ml_X11_263 : Cond.methodLink RX11 263 yX10_clashes ∈ gAll := gt_5 (j := 229) rfl rfl
theorem ml_X11_267 : Cond.methodLink RX11 267 yX11_settleOn ∈ gAll := gt_5 (j := 233) rfl rfl
theorem ml_L_46 : Cond.methodLink RL 46 yX11_replay ∈ gAll := gt_5 (j := 237) rfl rfl
theorem ml_X11_271 : Cond.methodLink RX11 271 yX1_firstTree ∈ gAll := gt_6 (j := 1) rfl rfl
theorem ml_X1_65 : Cond.methodLink RX1 65 yX1_tree ∈ gAll := gt_6 (j := 5) rfl rfl
theorem ml_X11_274 : Cond.methodLink RX11 274 yX0_measure ∈ gAll := gt_6 (j := 6) rfl rfl
theorem ml_X0_69 : Cond.methodLink RX0 69 yX0_add ∈ gAll := gt_6 (j := 10) rfl rfl
theorem ml_X11_282 : Cond.methodLink RX11 282 yX2_takeMessage ∈ gAll := gt_6 (j := 14) rfl rfl
theorem ml_X2_51 : Cond.methodLink RX2 51 yX1_messageByte ∈ gAll := gt_6 (j := 18) rfl rfl
theorem ml_X11_286 : Cond.methodLink RX11 286 yX0_fits ∈ gAll := gt_6 (j := 19) rfl rfl
theorem ml_X0_73 : Cond.methodLink RX0 73 yX10_contentAt ∈ gAll := gt_6 (j := 23) rfl rfl
theorem ml_X11_289 : Cond.methodLink RX11 289 yX0_apply ∈ gAll := gt_6 (j := 24) rfl rfl
theorem ml_X0_77 : Cond.methodLink RX0 77 yX10_removeFile ∈ gAll := gt_6 (j := 28) rfl rfl
theorem ml_X0_81 : Cond.methodLink RX0 81 yX10_put ∈ gAll := gt_6 (j := 32) rfl rfl
theorem ml_X11_292 : Cond.methodLink RX11 292 yX10_isLike ∈ gAll := gt_6 (j := 33) rfl rfl
theorem ml_L_50 : Cond.methodLink RL 50 yX11_commitIs ∈ gAll := gt_6 (j := 34) rfl rfl
theorem ml_X11_307 : Cond.methodLink RX11 307 yX3_size ∈ gAll := gt_6 (j := 38) rfl rfl
theorem ml_X3_20 : Cond.methodLink RX3 20 yJ13_bitCount_95d88 ∈ gAll := gt_6 (j := 42) rfl rfl
theorem co_J13_314 : Cond.constantLong RJ13 314 (Int64.ofInt (6148914691236517205)) ∈ gAll := gt_6 (j := 45) rfl rfl
theorem co_J13_316 : Cond.constantLong RJ13 316 (Int64.ofInt (3689348814741910323)) ∈ gAll := gt_6 (j := 46) rfl rfl
theorem co_J13_318 : Cond.constantLong RJ13 318 (Int64.ofInt (1085102592571150095)) ∈ gAll := gt_6 (j := 47) rfl rfl
theorem ml_X11_310 : Cond.methodLink RX11 310 yX1_childrenOf ∈ gAll := gt_6 (j := 48) rfl rfl
theorem ml_X11_314 : Cond.methodLink RX11 314 yX1_parent ∈ gAll := gt_6 (j := 52) rfl rfl
theorem ml_L_54 : Cond.methodLink RL 54 yX11_spelt ∈ gAll := gt_6 (j := 53) rfl rfl
theorem ml_X11_317 : Cond.methodLink RX11 317 yJ4_setLength_d00df ∈ gAll := gt_6 (j := 57) rfl rfl
theorem ml_J4_333 : Cond.methodLink RJ4 333 yJ5_setLength_d00df ∈ gAll := gt_6 (j := 61) rfl rfl
theorem ml_J5_100 : Cond.methodLink RJ5 100 yJ5_ensureCapacityInternal_d00df ∈ gAll := gt_6 (j := 64) rfl rfl
theorem ml_J5_104 : Cond.methodLink RJ5 104 yJ5_newCapacity_0f7a4 ∈ gAll := gt_6 (j := 68) rfl rfl
theorem ml_J5_114 : Cond.methodLink RJ5 114 yJ8_newLength_cabcc ∈ gAll := gt_6 (j := 72) rfl rfl
theorem ml_J8_194 : Cond.methodLink RJ8 194 yJ9_max_7cf53 ∈ gAll := gt_6 (j := 75) rfl rfl
theorem co_J8_200 : Cond.constant RJ8 200 (Int32.ofInt 2147483639) ∈ gAll := gt_6 (j := 76) rfl rfl
theorem ml_J8_201 : Cond.methodLink RJ8 201 yJ8_hugeLength_7cf53 ∈ gAll := gt_6 (j := 77) rfl rfl
theorem co_J5_39 : Cond.constant RJ5 39 (Int32.ofInt 2147483647) ∈ gAll := gt_6 (j := 80) rfl rfl
theorem ml_J5_108 : Cond.methodLink RJ5 108 yJ7_copyOf_9075b ∈ gAll := gt_6 (j := 81) rfl rfl
theorem ml_J7_310 : Cond.methodLink RJ7 310 ⟨"[B", "clone", "()Ljava/lang/Object;"⟩ ∈ gAll := gt_6 (j := 84) rfl rfl
theorem cl_J7_311 : Cond.classLink RJ7 311 "[B" ∈ gAll := gt_6 (j := 90) rfl rfl
theorem ml_J7_304 : Cond.methodLink RJ7 304 yJ9_min_7cf53 ∈ gAll := gt_6 (j := 91) rfl rfl
theorem ml_J7_150 : Cond.methodLink RJ7 150 ⟨"java/lang/System", "arraycopy", "(Ljava/lang/Object;ILjava/lang/Object;II)V"⟩ ∈ gAll := gt_6 (j := 92) rfl rfl
theorem ml_J5_83 : Cond.methodLink RJ5 83 yJ5_isLatin1_aae02 ∈ gAll := gt_6 (j := 93) rfl rfl
theorem ml_J5_133 : Cond.methodLink RJ5 133 yJ1_fillNull_b72d1 ∈ gAll := gt_6 (j := 98) rfl rfl
theorem ml_J1_236 : Cond.methodLink RJ1 236 yJ7_fill_eb02e ∈ gAll := gt_6 (j := 101) rfl rfl
theorem ml_J7_13 : Cond.methodLink RJ7 13 yJ7_rangeCheck_23922 ∈ gAll := gt_6 (j := 104) rfl rfl
theorem ml_J5_137 : Cond.methodLink RJ5 137 yJ2_fillNull_b72d1 ∈ gAll := gt_6 (j := 107) rfl rfl
theorem ml_J2_380 : Cond.methodLink RJ2 380 yJ7_fill_eb02e ∈ gAll := gt_6 (j := 110) rfl rfl
theorem ml_X11_320 : Cond.methodLink RX11 320 yJ4_append_cf468 ∈ gAll := gt_6 (j := 111) rfl rfl
theorem ml_J4_50 : Cond.methodLink RJ4 50 yJ5_append_3fe6f ∈ gAll := gt_6 (j := 115) rfl rfl
theorem ml_J5_191 : Cond.methodLink RJ5 191 yJ1_canEncode_fc78d ∈ gAll := gt_6 (j := 118) rfl rfl
theorem ml_J5_195 : Cond.methodLink RJ5 195 yJ5_inflate_da8c8 ∈ gAll := gt_6 (j := 121) rfl rfl
theorem ml_J5_125 : Cond.methodLink RJ5 125 yJ1_inflate_0e8fd ∈ gAll := gt_6 (j := 125) rfl rfl
theorem ml_J1_240 : Cond.methodLink RJ1 240 yJ2_inflate_0e8fd ∈ gAll := gt_6 (j := 128) rfl rfl
theorem ml_J2_173 : Cond.methodLink RJ2 173 yJ2_checkBoundsOffCount_d044e ∈ gAll := gt_6 (j := 131) rfl rfl
theorem ml_J2_419 : Cond.methodLink RJ2 419 yJ0_checkBoundsOffCount_cabcc ∈ gAll := gt_6 (j := 134) rfl rfl
theorem ml_J0_1065 : Cond.methodLink RJ0 1065 yJ3_checkFromIndexSize_8c36e ∈ gAll := gt_6 (j := 137) rfl rfl
theorem ml_J2_111 : Cond.methodLink RJ2 111 yJ2_putChar_b72d1 ∈ gAll := gt_6 (j := 140) rfl rfl
theorem ml_J5_197 : Cond.methodLink RJ5 197 yJ2_putCharSB_b72d1 ∈ gAll := gt_6 (j := 143) rfl rfl
theorem ml_X11_324 : Cond.methodLink RX11 324 yJ4_append_bf812 ∈ gAll := gt_6 (j := 146) rfl rfl
theorem ml_J4_53 : Cond.methodLink RJ4 53 yJ5_append_c97b9 ∈ gAll := gt_6 (j := 150) rfl rfl
theorem ml_J5_245 : Cond.methodLink RJ5 245 yJ6_stringSize_0f7a4 ∈ gAll := gt_6 (j := 153) rfl rfl
theorem ml_J5_248 : Cond.methodLink RJ5 248 yJ6_getChars_ba4f3 ∈ gAll := gt_6 (j := 156) rfl rfl
theorem ml_J5_251 : Cond.methodLink RJ5 251 yJ2_getChars_46870 ∈ gAll := gt_6 (j := 163) rfl rfl
theorem ml_J2_96 : Cond.methodLink RJ2 96 yJ2_checkBoundsBeginEnd_d044e ∈ gAll := gt_6 (j := 166) rfl rfl
theorem ml_J2_241 : Cond.methodLink RJ2 241 yJ0_checkBoundsBeginEnd_23922 ∈ gAll := gt_6 (j := 169) rfl rfl
theorem ml_J0_1062 : Cond.methodLink RJ0 1062 yJ3_checkFromToIndex_8c36e ∈ gAll := gt_6 (j := 172) rfl rfl
theorem ml_J2_393 : Cond.methodLink RJ2 393 yJ2_getChars_ba4f3 ∈ gAll := gt_6 (j := 175) rfl rfl
theorem ml_X11_327 : Cond.methodLink RX11 327 yX10_spell ∈ gAll := gt_6 (j := 180) rfl rfl
theorem ml_X10_56 : Cond.methodLink RX10 56 yJ4_append_cf468 ∈ gAll := gt_6 (j := 184) rfl rfl
theorem ml_X10_62 : Cond.methodLink RX10 62 yX10_spellPath ∈ gAll := gt_6 (j := 185) rfl rfl
theorem ml_X10_66 : Cond.methodLink RX10 66 yX10_spellContent ∈ gAll := gt_6 (j := 188) rfl rfl
theorem ml_X10_69 : Cond.methodLink RX10 69 yX0_digitsIn ∈ gAll := gt_6 (j := 191) rfl rfl
theorem ml_X10_74 : Cond.methodLink RX10 74 yX0_digitFromBehind ∈ gAll := gt_6 (j := 192) rfl rfl
theorem ml_X11_331 : Cond.methodLink RX11 331 yX1_messageByte ∈ gAll := gt_6 (j := 193) rfl rfl
theorem ml_X11_334 : Cond.methodLink RX11 334 yJ4_length_8abf5 ∈ gAll := gt_6 (j := 194) rfl rfl
theorem ml_J4_343 : Cond.methodLink RJ4 343 yJ5_length_8abf5 ∈ gAll := gt_6 (j := 198) rfl rfl
theorem ml_X11_337 : Cond.methodLink RX11 337 yJ4_charAt_5068e ∈ gAll := gt_6 (j := 201) rfl rfl
theorem ml_J4_329 : Cond.methodLink RJ4 329 yJ5_charAt_5068e ∈ gAll := gt_6 (j := 205) rfl rfl
theorem ml_J5_138 : Cond.methodLink RJ5 138 yJ9_min_7cf53 ∈ gAll := gt_6 (j := 208) rfl rfl
theorem ml_J5_144 : Cond.methodLink RJ5 144 yJ0_checkIndex_df160 ∈ gAll := gt_6 (j := 209) rfl rfl
theorem ml_J5_148 : Cond.methodLink RJ5 148 yJ2_getChar_3b067 ∈ gAll := gt_6 (j := 210) rfl rfl
theorem ml_L_58 : Cond.methodLink RL 58 yX11_look ∈ gAll := gt_6 (j := 211) rfl rfl
theorem ml_X11_341 : Cond.methodLink RX11 341 yX11_readWholePath ∈ gAll := gt_6 (j := 215) rfl rfl
theorem ml_X11_370 : Cond.methodLink RX11 370 yX9_begin ∈ gAll := gt_6 (j := 219) rfl rfl
theorem ml_X11_372 : Cond.methodLink RX11 372 yX9_path ∈ gAll := gt_6 (j := 220) rfl rfl
theorem ml_X11_375 : Cond.methodLink RX11 375 yX9_isAtEnd ∈ gAll := gt_6 (j := 221) rfl rfl
theorem ml_X11_381 : Cond.methodLink RX11 381 yX9_fail ∈ gAll := gt_6 (j := 222) rfl rfl
theorem ml_X11_347 : Cond.methodLink RX11 347 yX10_find ∈ gAll := gt_6 (j := 223) rfl rfl
theorem ml_X11_349 : Cond.methodLink RX11 349 yX10_hasFolder ∈ gAll := gt_6 (j := 224) rfl rfl
theorem ml_X11_352 : Cond.methodLink RX11 352 yX10_filesAt ∈ gAll := gt_6 (j := 225) rfl rfl
theorem ml_X11_355 : Cond.methodLink RX11 355 yX10_hasFilesAlone ∈ gAll := gt_6 (j := 226) rfl rfl
theorem ml_X11_358 : Cond.methodLink RX11 358 yX10_entriesIn ∈ gAll := gt_6 (j := 230) rfl rfl
theorem ml_L_127 : Cond.methodLink RL 127 yX11_touches ∈ gAll := gt_6 (j := 234) rfl rfl
theorem ml_X11_361 : Cond.methodLink RX11 361 yX1_markHistory ∈ gAll := gt_6 (j := 238) rfl rfl
theorem ml_X11_365 : Cond.methodLink RX11 365 yX3_has ∈ gAll := gt_7 (j := 2) rfl rfl
theorem ml_X11_367 : Cond.methodLink RX11 367 yX11_isTouched ∈ gAll := gt_7 (j := 3) rfl rfl
theorem ml_X11_384 : Cond.methodLink RX11 384 yX10_isLikeAt ∈ gAll := gt_7 (j := 7) rfl rfl
theorem ml_X10_53 : Cond.methodLink RX10 53 yX10_filesAt ∈ gAll := gt_7 (j := 11) rfl rfl
theorem ml_L_62 : Cond.methodLink RL 62 yX11_planIs ∈ gAll := gt_7 (j := 12) rfl rfl
theorem ml_X11_428 : Cond.methodLink RX11 428 yX11_mapIs ∈ gAll := gt_7 (j := 16) rfl rfl
theorem ml_X11_432 : Cond.methodLink RX11 432 yX5_isMapped ∈ gAll := gt_7 (j := 20) rfl rfl
theorem ml_L_66 : Cond.methodLink RL 66 yX11_image ∈ gAll := gt_7 (j := 24) rfl rfl
theorem ml_L_70 : Cond.methodLink RL 70 yX11_tried ∈ gAll := gt_7 (j := 28) rfl rfl
theorem ml_X11_437 : Cond.methodLink RX11 437 yX8_carryTree ∈ gAll := gt_7 (j := 32) rfl rfl
theorem ml_X11_441 : Cond.methodLink RX11 441 yX8_tree ∈ gAll := gt_7 (j := 33) rfl rfl
theorem ml_X11_450 : Cond.methodLink RX11 450 yX1_lowestWith ∈ gAll := gt_7 (j := 37) rfl rfl
theorem ml_L_74 : Cond.methodLink RL 74 yX11_share ∈ gAll := gt_7 (j := 38) rfl rfl
theorem co_X11_454 : Cond.constantLong RX11 454 (Int64.ofInt (-1)) ∈ gAll := gt_7 (j := 42) rfl rfl
theorem co_X11_456 : Cond.constantLong RX11 456 (Int64.ofInt (-3)) ∈ gAll := gt_7 (j := 43) rfl rfl
theorem ml_X11_458 : Cond.methodLink RX11 458 yX11_doubleBits ∈ gAll := gt_7 (j := 44) rfl rfl
theorem co_X11_624 : Cond.constantLong RX11 624 (Int64.ofInt (1023)) ∈ gAll := gt_7 (j := 47) rfl rfl
theorem co_X11_620 : Cond.constantDouble RX11 620 4611686018427387904 ∈ gAll := gt_7 (j := 48) rfl rfl
theorem co_X11_626 : Cond.constantDouble RX11 626 4841369599423283200 ∈ gAll := gt_7 (j := 49) rfl rfl
theorem ml_L_79 : Cond.methodLink RL 79 yX11_sound ∈ gAll := gt_7 (j := 50) rfl rfl
theorem ml_X11_462 : Cond.methodLink RX11 462 yX8_markPlan ∈ gAll := gt_7 (j := 54) rfl rfl
theorem ml_X11_466 : Cond.methodLink RX11 466 yX5_isKept ∈ gAll := gt_7 (j := 55) rfl rfl
theorem ml_X11_469 : Cond.methodLink RX11 469 yX11_flawsOf ∈ gAll := gt_7 (j := 59) rfl rfl
theorem ml_X11_473 : Cond.methodLink RX11 473 yX5_foreCount ∈ gAll := gt_7 (j := 63) rfl rfl
theorem ml_X11_477 : Cond.methodLink RX11 477 yX11_isFlawed ∈ gAll := gt_7 (j := 64) rfl rfl
theorem ml_L_83 : Cond.methodLink RL 83 yX11_refIs ∈ gAll := gt_7 (j := 68) rfl rfl
theorem ml_L_87 : Cond.methodLink RL 87 yX11_historyIs ∈ gAll := gt_7 (j := 72) rfl rfl
theorem ml_X11_487 : Cond.methodLink RX11 487 yX11_childless ∈ gAll := gt_7 (j := 76) rfl rfl
theorem ml_X11_500 : Cond.methodLink RX11 500 yX3_clear ∈ gAll := gt_7 (j := 80) rfl rfl
theorem ml_X11_503 : Cond.methodLink RX11 503 yX3_put ∈ gAll := gt_7 (j := 81) rfl rfl
theorem ml_X11_506 : Cond.methodLink RX11 506 yX3_sizeInBoth ∈ gAll := gt_7 (j := 82) rfl rfl
theorem ml_X11_490 : Cond.methodLink RX11 490 yX11_greatestGeneration ∈ gAll := gt_7 (j := 86) rfl rfl
theorem ml_X11_510 : Cond.methodLink RX11 510 yJ9_max_7cf53 ∈ gAll := gt_7 (j := 90) rfl rfl
theorem ml_X11_493 : Cond.methodLink RX11 493 yX11_unlikeTrees ∈ gAll := gt_7 (j := 91) rfl rfl
theorem ml_X11_496 : Cond.methodLink RX11 496 yX11_withParents ∈ gAll := gt_7 (j := 95) rfl rfl
theorem ml_L_91 : Cond.methodLink RL 91 yX11_listing ∈ gAll := gt_7 (j := 99) rfl rfl
theorem ml_X11_518 : Cond.methodLink RX11 518 yX11_countChildren ∈ gAll := gt_7 (j := 103) rfl rfl
theorem ml_X11_527 : Cond.methodLink RX11 527 yJ7_fill_53178 ∈ gAll := gt_7 (j := 107) rfl rfl
theorem ml_X11_521 : Cond.methodLink RX11 521 yX11_nextListed ∈ gAll := gt_7 (j := 108) rfl rfl
theorem ml_X11_524 : Cond.methodLink RX11 524 yX3_cut ∈ gAll := gt_7 (j := 112) rfl rfl
theorem co_X3_18 : Cond.constantLong RX3 18 (Int64.ofInt (-1)) ∈ gAll := gt_7 (j := 116) rfl rfl
theorem ml_L_131 : Cond.methodLink RL 131 yX11_apart ∈ gAll := gt_7 (j := 117) rfl rfl
theorem ml_X11_533 : Cond.methodLink RX11 533 yX7_missesOf ∈ gAll := gt_7 (j := 121) rfl rfl
theorem ml_X11_537 : Cond.methodLink RX11 537 yX7_movesOf ∈ gAll := gt_7 (j := 125) rfl rfl
theorem ml_L_135 : Cond.methodLink RL 135 yX11_picked ∈ gAll := gt_7 (j := 129) rfl rfl
theorem ml_X11_540 : Cond.methodLink RX11 540 yX0_isLike ∈ gAll := gt_7 (j := 133) rfl rfl
theorem ml_L_95 : Cond.methodLink RL 95 yX11_ancestor ∈ gAll := gt_7 (j := 137) rfl rfl
theorem ml_L_99 : Cond.methodLink RL 99 yX11_base ∈ gAll := gt_7 (j := 141) rfl rfl
theorem ml_X11_543 : Cond.methodLink RX11 543 yX11_markBases ∈ gAll := gt_7 (j := 145) rfl rfl
theorem ml_X11_549 : Cond.methodLink RX11 549 yX1_markWithAncestors ∈ gAll := gt_7 (j := 149) rfl rfl
theorem ml_X11_553 : Cond.methodLink RX11 553 yX3_onlyIn ∈ gAll := gt_7 (j := 153) rfl rfl
theorem ml_X11_556 : Cond.methodLink RX11 556 yX3_putAll ∈ gAll := gt_7 (j := 157) rfl rfl
theorem ml_X11_559 : Cond.methodLink RX11 559 yX3_cutAll ∈ gAll := gt_7 (j := 158) rfl rfl
theorem ml_X11_546 : Cond.methodLink RX11 546 yX3_nth ∈ gAll := gt_7 (j := 162) rfl rfl
theorem ml_X3_26 : Cond.methodLink RX3 26 yX3_has ∈ gAll := gt_7 (j := 166) rfl rfl
theorem ml_L_103 : Cond.methodLink RL 103 yX11_way ∈ gAll := gt_7 (j := 167) rfl rfl
theorem ml_L_107 : Cond.methodLink RL 107 yX11_halving ∈ gAll := gt_7 (j := 171) rfl rfl
theorem ml_X11_562 : Cond.methodLink RX11 562 yJ9_min_7cf53 ∈ gAll := gt_7 (j := 175) rfl rfl
theorem ml_L_139 : Cond.methodLink RL 139 yX11_line ∈ gAll := gt_7 (j := 176) rfl rfl
theorem ml_L_111 : Cond.methodLink RL 111 yX11_diff ∈ gAll := gt_7 (j := 180) rfl rfl
theorem ml_X11_565 : Cond.methodLink RX11 565 yX0_pairUp ∈ gAll := gt_7 (j := 184) rfl rfl
theorem ml_X0_85 : Cond.methodLink RX0 85 yX0_gather ∈ gAll := gt_7 (j := 188) rfl rfl
theorem ml_X0_94 : Cond.methodLink RX0 94 yX0_alike ∈ gAll := gt_7 (j := 192) rfl rfl
theorem ml_X0_103 : Cond.methodLink RX0 103 yX0_spread ∈ gAll := gt_7 (j := 196) rfl rfl
theorem ml_X0_111 : Cond.methodLink RX0 111 yX0_digitsIn ∈ gAll := gt_7 (j := 199) rfl rfl
theorem ml_X0_107 : Cond.methodLink RX0 107 yX0_longestInBoth ∈ gAll := gt_7 (j := 200) rfl rfl
theorem ml_X0_114 : Cond.methodLink RX0 114 yJ7_fill_53178 ∈ gAll := gt_7 (j := 204) rfl rfl
theorem ml_X0_120 : Cond.methodLink RX0 120 yJ9_max_7cf53 ∈ gAll := gt_7 (j := 205) rfl rfl
theorem ml_X0_98 : Cond.methodLink RX0 98 yX0_pairNext ∈ gAll := gt_7 (j := 206) rfl rfl
theorem co_X0_102 : Cond.constantFloat RX0 102 1058642330 ∈ gAll := gt_7 (j := 210) rfl rfl
theorem ml_X11_571 : Cond.methodLink RX11 571 yX0_countOf ∈ gAll := gt_7 (j := 211) rfl rfl
theorem ml_L_115 : Cond.methodLink RL 115 yX11_renamed ∈ gAll := gt_7 (j := 215) rfl rfl
theorem ml_X11_584 : Cond.methodLink RX11 584 yX11_floatBits ∈ gAll := gt_7 (j := 219) rfl rfl
theorem co_X11_622 : Cond.constantDouble RX11 622 4710765210229538816 ∈ gAll := gt_7 (j := 222) rfl rfl
theorem ml_X11_588 : Cond.methodLink RX11 588 yX11_hundredths ∈ gAll := gt_7 (j := 223) rfl rfl
theorem co_X11_619 : Cond.constantFloat RX11 619 1120403456 ∈ gAll := gt_7 (j := 226) rfl rfl
theorem ml_L_119 : Cond.methodLink RL 119 yX11_likeness ∈ gAll := gt_7 (j := 227) rfl rfl
theorem ml_X11_591 : Cond.methodLink RX11 591 yX11_isFile ∈ gAll := gt_7 (j := 231) rfl rfl
theorem ml_X11_597 : Cond.methodLink RX11 597 yX0_alike ∈ gAll := gt_7 (j := 234) rfl rfl
theorem ml_L_123 : Cond.methodLink RL 123 yX11_origin ∈ gAll := gt_7 (j := 235) rfl rfl
theorem ml_X11_603 : Cond.methodLink RX11 603 yX11_parentWithFile ∈ gAll := gt_7 (j := 239) rfl rfl
theorem ml_X11_606 : Cond.methodLink RX11 606 yX11_parentRenamed ∈ gAll := gt_8 (j := 3) rfl rfl
theorem ml_X11_609 : Cond.methodLink RX11 609 yX0_pairedWith ∈ gAll := gt_8 (j := 7) rfl rfl
theorem ml_L_143 : Cond.methodLink RL 143 yX11_keep ∈ gAll := gt_8 (j := 11) rfl rfl
theorem ml_L_148 : Cond.methodLink RL 148 yX11_undo ∈ gAll := gt_8 (j := 15) rfl rfl
theorem ml_L_157 : Cond.methodLink RL 157 yX11_count ∈ gAll := gt_8 (j := 19) rfl rfl
theorem ml_X11_612 : Cond.methodLink RX11 612 yX1_unlikeTrees ∈ gAll := gt_8 (j := 23) rfl rfl
theorem ml_X11_613 : Cond.methodLink RX11 613 yX11_unlikeContents ∈ gAll := gt_8 (j := 27) rfl rfl
theorem ml_X11_616 : Cond.methodLink RX11 616 yX11_isNewContent ∈ gAll := gt_8 (j := 31) rfl rfl
theorem cl_L_10 : Cond.classLink RL 10 "CarriedHistoryModel" ∈ gAll := gt_8 (j := 35) rfl rfl
theorem it_X12 : Cond.instantiable RX12 72 ∈ gAll := gt_8 (j := 36) rfl rfl
theorem ml_L_12 : Cond.methodLink RL 12 yX12_init ∈ gAll := gt_8 (j := 37) rfl rfl
theorem ml_X12_1 : Cond.methodLink RX12 1 objectInit ∈ gAll := gt_8 (j := 40) rfl rfl
theorem ml_L_53 : Cond.methodLink RL 53 yX12_commitIs ∈ gAll := gt_9 (j := 18) rfl rfl
theorem ml_X12_229 : Cond.methodLink RX12 229 yX12_isCommit ∈ gAll := gt_9 (j := 22) rfl rfl
theorem ml_X12_182 : Cond.methodLink RX12 182 yX12_in ∈ gAll := gt_9 (j := 26) rfl rfl
theorem ml_X12_192 : Cond.methodLink RX12 192 yX12_parentAt ∈ gAll := gt_9 (j := 29) rfl rfl
theorem ml_X12_233 : Cond.methodLink RX12 233 yX12_laysHeights ∈ gAll := gt_9 (j := 33) rfl rfl
theorem ml_X12_217 : Cond.methodLink RX12 217 yX12_max ∈ gAll := gt_9 (j := 37) rfl rfl
theorem ml_X12_213 : Cond.methodLink RX12 213 yX12_marksWithAncestors ∈ gAll := gt_9 (j := 40) rfl rfl
theorem ml_X12_206 : Cond.methodLink RX12 206 yX12_clears ∈ gAll := gt_9 (j := 44) rfl rfl
theorem ml_X12_210 : Cond.methodLink RX12 210 yX12_walksBack ∈ gAll := gt_9 (j := 47) rfl rfl
theorem ml_X12_236 : Cond.methodLink RX12 236 yX12_sizeOf ∈ gAll := gt_9 (j := 51) rfl rfl
theorem ml_X12_240 : Cond.methodLink RX12 240 yX12_children ∈ gAll := gt_9 (j := 54) rfl rfl
theorem ml_X12_243 : Cond.methodLink RX12 243 yX12_unlikeParent ∈ gAll := gt_9 (j := 58) rfl rfl
theorem ml_X12_220 : Cond.methodLink RX12 220 yX12_gone ∈ gAll := gt_9 (j := 62) rfl rfl
theorem ml_X12_162 : Cond.methodLink RX12 162 yX12_pathAt ∈ gAll := gt_9 (j := 66) rfl rfl
theorem ml_X12_159 : Cond.methodLink RX12 159 yX12_rowOf ∈ gAll := gt_9 (j := 70) rfl rfl
theorem ml_X12_166 : Cond.methodLink RX12 166 yX12_fileAt ∈ gAll := gt_9 (j := 73) rfl rfl
theorem ml_X12_223 : Cond.methodLink RX12 223 yX12_newOnes ∈ gAll := gt_9 (j := 77) rfl rfl
theorem ml_X12_226 : Cond.methodLink RX12 226 yX12_changed ∈ gAll := gt_9 (j := 81) rfl rfl
theorem ml_X12_632 : Cond.methodLink RX12 632 yX12_contentBy ∈ gAll := gt_9 (j := 85) rfl rfl
theorem ml_X12_169 : Cond.methodLink RX12 169 yX12_contentAt ∈ gAll := gt_9 (j := 89) rfl rfl
theorem ml_L_98 : Cond.methodLink RL 98 yX12_ancestor ∈ gAll := gt_9 (j := 93) rfl rfl
theorem ml_X12_246 : Cond.methodLink RX12 246 yX12_isAncestor ∈ gAll := gt_9 (j := 97) rfl rfl
theorem ml_L_17 : Cond.methodLink RL 17 yX12_feed ∈ gAll := gt_9 (j := 101) rfl rfl
theorem ml_X12_252 : Cond.methodLink RX12 252 yX12_types ∈ gAll := gt_9 (j := 105) rfl rfl
theorem ml_L_22 : Cond.methodLink RL 22 yX12_commit ∈ gAll := gt_9 (j := 109) rfl rfl
theorem ml_X12_338 : Cond.methodLink RX12 338 yX12_beginsText ∈ gAll := gt_9 (j := 113) rfl rfl
theorem ml_X12_341 : Cond.methodLink RX12 341 yX12_readsParents ∈ gAll := gt_9 (j := 117) rfl rfl
theorem ml_X12_265 : Cond.methodLink RX12 265 yX12_here ∈ gAll := gt_9 (j := 121) rfl rfl
theorem ml_X12_291 : Cond.methodLink RX12 291 yX12_readsParent ∈ gAll := gt_9 (j := 125) rfl rfl
theorem ml_X12_272 : Cond.methodLink RX12 272 yX12_isDigit ∈ gAll := gt_9 (j := 129) rfl rfl
theorem ml_X12_269 : Cond.methodLink RX12 269 yX12_wrongAt ∈ gAll := gt_9 (j := 132) rfl rfl
theorem ml_X12_284 : Cond.methodLink RX12 284 yX12_readsNumber ∈ gAll := gt_9 (j := 136) rfl rfl
theorem ml_X12_288 : Cond.methodLink RX12 288 yX12_isTold ∈ gAll := gt_9 (j := 140) rfl rfl
theorem ml_X12_297 : Cond.methodLink RX12 297 yX12_takesSign ∈ gAll := gt_9 (j := 144) rfl rfl
theorem ml_X12_344 : Cond.methodLink RX12 344 yX12_readsEdits ∈ gAll := gt_9 (j := 148) rfl rfl
theorem ml_X12_202 : Cond.methodLink RX12 202 yX12_copyTree ∈ gAll := gt_9 (j := 152) rfl rfl
theorem ml_X12_335 : Cond.methodLink RX12 335 yX12_readsEdit ∈ gAll := gt_9 (j := 156) rfl rfl
theorem ml_X12_323 : Cond.methodLink RX12 323 yX12_setsFile ∈ gAll := gt_9 (j := 160) rfl rfl
theorem ml_X12_294 : Cond.methodLink RX12 294 yX12_readsPath ∈ gAll := gt_9 (j := 164) rfl rfl
theorem ml_X12_281 : Cond.methodLink RX12 281 yX12_isSmall ∈ gAll := gt_9 (j := 168) rfl rfl
theorem ml_X12_300 : Cond.methodLink RX12 300 yX12_readsContent ∈ gAll := gt_9 (j := 171) rfl rfl
theorem ml_X12_303 : Cond.methodLink RX12 303 yX12_kindAt ∈ gAll := gt_9 (j := 175) rfl rfl
theorem ml_X12_175 : Cond.methodLink RX12 175 yX12_filesBelow ∈ gAll := gt_9 (j := 179) rfl rfl
theorem ml_X12_172 : Cond.methodLink RX12 172 yX12_isAtOrBelow ∈ gAll := gt_9 (j := 183) rfl rfl
theorem ml_X12_154 : Cond.methodLink RX12 154 yX12_begins ∈ gAll := gt_9 (j := 186) rfl rfl
theorem ml_X12_150 : Cond.methodLink RX12 150 yX12_names ∈ gAll := gt_9 (j := 189) rfl rfl
theorem ml_X12_306 : Cond.methodLink RX12 306 yX12_isBarred ∈ gAll := gt_9 (j := 192) rfl rfl
theorem ml_X12_309 : Cond.methodLink RX12 309 yX12_puts ∈ gAll := gt_9 (j := 196) rfl rfl
theorem ml_X12_326 : Cond.methodLink RX12 326 yX12_takesAway ∈ gAll := gt_9 (j := 200) rfl rfl
theorem ml_X12_313 : Cond.methodLink RX12 313 yX12_takes ∈ gAll := gt_9 (j := 204) rfl rfl
theorem ml_X12_329 : Cond.methodLink RX12 329 yX12_movesThere ∈ gAll := gt_9 (j := 208) rfl rfl
theorem ml_X12_316 : Cond.methodLink RX12 316 yX12_isTooLong ∈ gAll := gt_9 (j := 212) rfl rfl
theorem ml_X12_319 : Cond.methodLink RX12 319 yX12_moved ∈ gAll := gt_9 (j := 216) rfl rfl
theorem co_X12_158 : Cond.constant RX12 158 (Int32.ofInt 1073741823) ∈ gAll := gt_9 (j := 219) rfl rfl
theorem ml_X12_332 : Cond.methodLink RX12 332 yX12_fetches ∈ gAll := gt_9 (j := 220) rfl rfl
theorem ml_X12_347 : Cond.methodLink RX12 347 yX12_readsSaid ∈ gAll := gt_9 (j := 224) rfl rfl
theorem ml_X12_350 : Cond.methodLink RX12 350 yX12_comes ∈ gAll := gt_9 (j := 228) rfl rfl
theorem ml_X12_198 : Cond.methodLink RX12 198 yX12_isSameAs ∈ gAll := gt_9 (j := 232) rfl rfl
theorem ml_X12_195 : Cond.methodLink RX12 195 yX12_areLike ∈ gAll := gt_9 (j := 236) rfl rfl
theorem ml_L_32 : Cond.methodLink RL 32 yX12_ref ∈ gAll := gt_10 (j := 0) rfl rfl
theorem ml_X12_353 : Cond.methodLink RX12 353 yX12_isHistory ∈ gAll := gt_10 (j := 4) rfl rfl
theorem ml_X12_356 : Cond.methodLink RX12 356 yX12_refs ∈ gAll := gt_10 (j := 7) rfl rfl
theorem ml_X12_359 : Cond.methodLink RX12 359 yX12_laysRef ∈ gAll := gt_10 (j := 11) rfl rfl
theorem ml_L_86 : Cond.methodLink RL 86 yX12_refIs ∈ gAll := gt_10 (j := 15) rfl rfl
theorem ml_L_27 : Cond.methodLink RL 27 yX12_plan ∈ gAll := gt_10 (j := 19) rfl rfl
theorem ml_X12_433 : Cond.methodLink RX12 433 yX12_isPlan ∈ gAll := gt_10 (j := 23) rfl rfl
theorem ml_X12_436 : Cond.methodLink RX12 436 yX12_beginsPlan ∈ gAll := gt_10 (j := 26) rfl rfl
theorem co_X12_439 : Cond.constant RX12 439 (Int32.ofInt 215533) ∈ gAll := gt_10 (j := 30) rfl rfl
theorem ml_X12_440 : Cond.methodLink RX12 440 yX12_readsHistory ∈ gAll := gt_10 (j := 31) rfl rfl
theorem ml_X12_407 : Cond.methodLink RX12 407 yX12_readsWord ∈ gAll := gt_10 (j := 35) rfl rfl
theorem ml_X12_387 : Cond.methodLink RX12 387 yX12_readsUpTo ∈ gAll := gt_10 (j := 39) rfl rfl
theorem ml_X12_443 : Cond.methodLink RX12 443 yX12_readsLine ∈ gAll := gt_10 (j := 43) rfl rfl
theorem ml_X12_410 : Cond.methodLink RX12 410 yX12_listOf ∈ gAll := gt_10 (j := 47) rfl rfl
theorem co_X12_390 : Cond.constant RX12 390 (Int32.ofInt 365744) ∈ gAll := gt_10 (j := 50) rfl rfl
theorem co_X12_391 : Cond.constant RX12 391 (Int32.ofInt 150000) ∈ gAll := gt_10 (j := 51) rfl rfl
theorem co_X12_392 : Cond.constant RX12 392 (Int32.ofInt 442053) ∈ gAll := gt_10 (j := 52) rfl rfl
theorem co_X12_393 : Cond.constant RX12 393 (Int32.ofInt 646192) ∈ gAll := gt_10 (j := 53) rfl rfl
theorem co_X12_394 : Cond.constant RX12 394 (Int32.ofInt 769604) ∈ gAll := gt_10 (j := 54) rfl rfl
theorem co_X12_395 : Cond.constant RX12 395 (Int32.ofInt 7931092) ∈ gAll := gt_10 (j := 55) rfl rfl
theorem ml_X12_413 : Cond.methodLink RX12 413 yX12_onceOf ∈ gAll := gt_10 (j := 56) rfl rfl
theorem co_X12_396 : Cond.constant RX12 396 (Int32.ofInt 442047667) ∈ gAll := gt_10 (j := 59) rfl rfl
theorem co_X12_397 : Cond.constant RX12 397 (Int32.ofInt 5685913) ∈ gAll := gt_10 (j := 60) rfl rfl
theorem co_X12_398 : Cond.constant RX12 398 (Int32.ofInt 656627) ∈ gAll := gt_10 (j := 61) rfl rfl
theorem co_X12_399 : Cond.constant RX12 399 (Int32.ofInt 20232293) ∈ gAll := gt_10 (j := 62) rfl rfl
theorem co_X12_400 : Cond.constant RX12 400 (Int32.ofInt 441972) ∈ gAll := gt_10 (j := 63) rfl rfl
theorem co_X12_416 : Cond.constant RX12 416 (Int32.ofInt 632046) ∈ gAll := gt_10 (j := 64) rfl rfl
theorem co_X12_417 : Cond.constant RX12 417 (Int32.ofInt 634160) ∈ gAll := gt_10 (j := 65) rfl rfl
theorem ml_X12_418 : Cond.methodLink RX12 418 yX12_has ∈ gAll := gt_10 (j := 66) rfl rfl
theorem ml_X12_421 : Cond.methodLink RX12 421 yX12_readsList ∈ gAll := gt_10 (j := 69) rfl rfl
theorem ml_X12_401 : Cond.methodLink RX12 401 yX12_readsGraft ∈ gAll := gt_10 (j := 73) rfl rfl
theorem ml_X12_381 : Cond.methodLink RX12 381 yX12_isNamed ∈ gAll := gt_10 (j := 77) rfl rfl
theorem ml_X12_363 : Cond.methodLink RX12 363 yX12_listAt ∈ gAll := gt_10 (j := 81) rfl rfl
theorem ml_X12_384 : Cond.methodLink RX12 384 yX12_adds ∈ gAll := gt_10 (j := 84) rfl rfl
theorem ml_X12_404 : Cond.methodLink RX12 404 yX12_readsPair ∈ gAll := gt_10 (j := 88) rfl rfl
theorem ml_X12_378 : Cond.methodLink RX12 378 yX12_readsFirst ∈ gAll := gt_10 (j := 92) rfl rfl
theorem ml_X12_372 : Cond.methodLink RX12 372 yX12_readsPlace ∈ gAll := gt_10 (j := 96) rfl rfl
theorem ml_X12_375 : Cond.methodLink RX12 375 yX12_readsLetters ∈ gAll := gt_10 (j := 100) rfl rfl
theorem ml_X12_424 : Cond.methodLink RX12 424 yX12_readsOnce ∈ gAll := gt_10 (j := 104) rfl rfl
theorem ml_X12_427 : Cond.methodLink RX12 427 yX12_readsSign ∈ gAll := gt_10 (j := 108) rfl rfl
theorem ml_X12_430 : Cond.methodLink RX12 430 yX12_readsSkip ∈ gAll := gt_10 (j := 112) rfl rfl
theorem ml_X12_446 : Cond.methodLink RX12 446 yX12_forgets ∈ gAll := gt_10 (j := 116) rfl rfl
theorem ml_L_65 : Cond.methodLink RL 65 yX12_planIs ∈ gAll := gt_10 (j := 120) rfl rfl
theorem ml_X12_449 : Cond.methodLink RX12 449 yX12_isToldPlan ∈ gAll := gt_10 (j := 124) rfl rfl
theorem ml_X12_452 : Cond.methodLink RX12 452 yX12_ofPlan ∈ gAll := gt_10 (j := 128) rfl rfl
theorem ml_X12_455 : Cond.methodLink RX12 455 yX12_manyOf ∈ gAll := gt_10 (j := 132) rfl rfl
theorem ml_X12_458 : Cond.methodLink RX12 458 yX12_mapped ∈ gAll := gt_10 (j := 136) rfl rfl
theorem ml_X12_461 : Cond.methodLink RX12 461 yX12_withoutImage ∈ gAll := gt_10 (j := 140) rfl rfl
theorem ml_L_37 : Cond.methodLink RL 37 yX12_run ∈ gAll := gt_10 (j := 144) rfl rfl
theorem ml_X12_594 : Cond.methodLink RX12 594 yX12_remembers ∈ gAll := gt_10 (j := 148) rfl rfl
theorem ml_X12_597 : Cond.methodLink RX12 597 yX12_runs ∈ gAll := gt_10 (j := 152) rfl rfl
theorem ml_X12_582 : Cond.methodLink RX12 582 yX12_marksPlan ∈ gAll := gt_10 (j := 156) rfl rfl
theorem ml_X12_479 : Cond.methodLink RX12 479 yX12_walksFore ∈ gAll := gt_10 (j := 160) rfl rfl
theorem ml_X12_473 : Cond.methodLink RX12 473 yX12_foreMany ∈ gAll := gt_10 (j := 164) rfl rfl
theorem ml_X12_467 : Cond.methodLink RX12 467 yX12_graftOf ∈ gAll := gt_10 (j := 168) rfl rfl
theorem ml_X12_464 : Cond.methodLink RX12 464 yX12_firstOf ∈ gAll := gt_10 (j := 172) rfl rfl
theorem ml_X12_470 : Cond.methodLink RX12 470 yX12_secondOf ∈ gAll := gt_10 (j := 176) rfl rfl
theorem ml_X12_476 : Cond.methodLink RX12 476 yX12_foreAt ∈ gAll := gt_10 (j := 180) rfl rfl
theorem ml_X12_585 : Cond.methodLink RX12 585 yX12_rewrites ∈ gAll := gt_10 (j := 184) rfl rfl
theorem ml_X12_561 : Cond.methodLink RX12 561 yX12_carriesTree ∈ gAll := gt_10 (j := 188) rfl rfl
theorem ml_X12_498 : Cond.methodLink RX12 498 yX12_isTaken ∈ gAll := gt_10 (j := 192) rfl rfl
theorem ml_X12_486 : Cond.methodLink RX12 486 yX12_digits ∈ gAll := gt_10 (j := 196) rfl rfl
theorem ml_X12_501 : Cond.methodLink RX12 501 yX12_carriedPath ∈ gAll := gt_10 (j := 199) rfl rfl
theorem ml_X12_489 : Cond.methodLink RX12 489 yX12_moveOf ∈ gAll := gt_10 (j := 203) rfl rfl
theorem ml_X12_504 : Cond.methodLink RX12 504 yX12_isInTheWay ∈ gAll := gt_10 (j := 207) rfl rfl
theorem ml_X12_507 : Cond.methodLink RX12 507 yX12_swapped ∈ gAll := gt_10 (j := 211) rfl rfl
theorem ml_X12_564 : Cond.methodLink RX12 564 yX12_carriesParents ∈ gAll := gt_10 (j := 215) rfl rfl
theorem ml_X12_522 : Cond.methodLink RX12 522 yX12_carriesAll ∈ gAll := gt_10 (j := 219) rfl rfl
theorem ml_X12_513 : Cond.methodLink RX12 513 yX12_imageAt ∈ gAll := gt_10 (j := 223) rfl rfl
theorem ml_X12_516 : Cond.methodLink RX12 516 yX12_isCarried ∈ gAll := gt_10 (j := 227) rfl rfl
theorem ml_X12_525 : Cond.methodLink RX12 525 yX12_goesFor ∈ gAll := gt_10 (j := 231) rfl rfl
theorem ml_X12_519 : Cond.methodLink RX12 519 yX12_isElder ∈ gAll := gt_10 (j := 235) rfl rfl
theorem ml_X12_483 : Cond.methodLink RX12 483 yX12_marksElders ∈ gAll := gt_10 (j := 239) rfl rfl
theorem ml_X12_528 : Cond.methodLink RX12 528 yX12_closesUp ∈ gAll := gt_11 (j := 3) rfl rfl
theorem ml_X12_567 : Cond.methodLink RX12 567 yX12_isEmpty ∈ gAll := gt_11 (j := 7) rfl rfl
theorem ml_X12_531 : Cond.methodLink RX12 531 yX12_isEmptyByItself ∈ gAll := gt_11 (j := 11) rfl rfl
theorem ml_X12_570 : Cond.methodLink RX12 570 yX12_isSkipped ∈ gAll := gt_11 (j := 15) rfl rfl
theorem ml_X12_573 : Cond.methodLink RX12 573 yX12_maps ∈ gAll := gt_11 (j := 19) rfl rfl
theorem ml_X12_576 : Cond.methodLink RX12 576 yX12_carriesSaid ∈ gAll := gt_11 (j := 23) rfl rfl
theorem ml_X12_540 : Cond.methodLink RX12 540 yX12_saidAt ∈ gAll := gt_11 (j := 27) rfl rfl
theorem ml_X12_552 : Cond.methodLink RX12 552 yX12_carriesMention ∈ gAll := gt_11 (j := 31) rfl rfl
theorem ml_X12_534 : Cond.methodLink RX12 534 yX12_says ∈ gAll := gt_11 (j := 35) rfl rfl
theorem ml_X12_543 : Cond.methodLink RX12 543 yX12_saysNumber ∈ gAll := gt_11 (j := 39) rfl rfl
theorem ml_X12_555 : Cond.methodLink RX12 555 yX12_carriesLetters ∈ gAll := gt_11 (j := 43) rfl rfl
theorem ml_X12_546 : Cond.methodLink RX12 546 yX12_wordFor ∈ gAll := gt_11 (j := 47) rfl rfl
theorem ml_X12_549 : Cond.methodLink RX12 549 yX12_saysLetters ∈ gAll := gt_11 (j := 51) rfl rfl
theorem ml_X12_558 : Cond.methodLink RX12 558 yX12_min ∈ gAll := gt_11 (j := 55) rfl rfl
theorem ml_X12_588 : Cond.methodLink RX12 588 yX12_laysRefs ∈ gAll := gt_11 (j := 58) rfl rfl
theorem ml_X12_579 : Cond.methodLink RX12 579 yX12_isLaid ∈ gAll := gt_11 (j := 62) rfl rfl
theorem ml_X12_591 : Cond.methodLink RX12 591 yX12_goesBack ∈ gAll := gt_11 (j := 66) rfl rfl
theorem ml_L_41 : Cond.methodLink RL 41 yX12_again ∈ gAll := gt_11 (j := 70) rfl rfl
theorem ml_L_69 : Cond.methodLink RL 69 yX12_image ∈ gAll := gt_11 (j := 74) rfl rfl
theorem ml_L_73 : Cond.methodLink RL 73 yX12_tried ∈ gAll := gt_11 (j := 78) rfl rfl
theorem ml_L_78 : Cond.methodLink RL 78 yX12_share ∈ gAll := gt_11 (j := 82) rfl rfl
theorem co_X12_600 : Cond.constantLong RX12 600 (Int64.ofInt (-1)) ∈ gAll := gt_11 (j := 86) rfl rfl
theorem co_X12_602 : Cond.constantLong RX12 602 (Int64.ofInt (-3)) ∈ gAll := gt_11 (j := 87) rfl rfl
theorem ml_X12_604 : Cond.methodLink RX12 604 yJxe99ae_doubleToLongBits_ccdee ∈ gAll := gt_11 (j := 88) rfl rfl
theorem ml_Jxe99ae_122 : Cond.methodLink RJxe99ae 122 yJxe99ae_isNaN_b9ae7 ∈ gAll := gt_11 (j := 91) rfl rfl
theorem ml_Jxe99ae_134 : Cond.methodLink RJxe99ae 134 ⟨"java/lang/Double", "doubleToRawLongBits", "(D)J"⟩ ∈ gAll := gt_11 (j := 94) rfl rfl
theorem co_Jxe99ae_137 : Cond.constantLong RJxe99ae 137 (Int64.ofInt (9221120237041090560)) ∈ gAll := gt_11 (j := 97) rfl rfl
theorem ml_L_82 : Cond.methodLink RL 82 yX12_sound ∈ gAll := gt_11 (j := 98) rfl rfl
theorem ml_X12_616 : Cond.methodLink RX12 616 yX12_pairs ∈ gAll := gt_11 (j := 102) rfl rfl
theorem ml_X12_610 : Cond.methodLink RX12 610 yX12_isKept ∈ gAll := gt_11 (j := 106) rfl rfl
theorem ml_X12_613 : Cond.methodLink RX12 613 yX12_isElderApart ∈ gAll := gt_11 (j := 110) rfl rfl
theorem ml_X12_620 : Cond.methodLink RX12 620 yX12_twins ∈ gAll := gt_11 (j := 114) rfl rfl
theorem ml_X12_623 : Cond.methodLink RX12 623 yX12_lostByKept ∈ gAll := gt_11 (j := 118) rfl rfl
theorem ml_X12_626 : Cond.methodLink RX12 626 yX12_thinned ∈ gAll := gt_11 (j := 122) rfl rfl
theorem ml_X12_629 : Cond.methodLink RX12 629 yX12_notMapped ∈ gAll := gt_11 (j := 126) rfl rfl
theorem ml_L_45 : Cond.methodLink RL 45 yX12_join ∈ gAll := gt_11 (j := 130) rfl rfl
theorem ml_X12_638 : Cond.methodLink RX12 638 yX12_branchAt ∈ gAll := gt_11 (j := 134) rfl rfl
theorem ml_X12_641 : Cond.methodLink RX12 641 yX12_putsTogether ∈ gAll := gt_11 (j := 138) rfl rfl
theorem ml_X12_635 : Cond.methodLink RX12 635 yX12_isTree ∈ gAll := gt_11 (j := 142) rfl rfl
theorem ml_L_49 : Cond.methodLink RL 49 yX12_replay ∈ gAll := gt_11 (j := 146) rfl rfl
theorem ml_X12_653 : Cond.methodLink RX12 653 yX12_laysChange ∈ gAll := gt_11 (j := 150) rfl rfl
theorem ml_X12_647 : Cond.methodLink RX12 647 yX12_before ∈ gAll := gt_11 (j := 154) rfl rfl
theorem ml_X12_650 : Cond.methodLink RX12 650 yX12_notes ∈ gAll := gt_11 (j := 158) rfl rfl
theorem ml_X12_656 : Cond.methodLink RX12 656 yX12_changesThere ∈ gAll := gt_11 (j := 162) rfl rfl
theorem ml_L_138 : Cond.methodLink RL 138 yX12_picked ∈ gAll := gt_11 (j := 166) rfl rfl
theorem ml_X12_659 : Cond.methodLink RX12 659 yX12_marksHistory ∈ gAll := gt_11 (j := 170) rfl rfl
theorem ml_L_57 : Cond.methodLink RL 57 yX12_spelt ∈ gAll := gt_11 (j := 174) rfl rfl
theorem ml_X12_668 : Cond.methodLink RX12 668 yX12_spells ∈ gAll := gt_11 (j := 178) rfl rfl
theorem ml_X12_671 : Cond.methodLink RX12 671 yX12_spellsNumber ∈ gAll := gt_11 (j := 182) rfl rfl
theorem ml_X12_674 : Cond.methodLink RX12 674 yX12_spellsFile ∈ gAll := gt_11 (j := 186) rfl rfl
theorem ml_L_61 : Cond.methodLink RL 61 yX12_look ∈ gAll := gt_11 (j := 190) rfl rfl
theorem ml_X12_680 : Cond.methodLink RX12 680 yX12_readsWholePath ∈ gAll := gt_11 (j := 194) rfl rfl
theorem ml_X12_683 : Cond.methodLink RX12 683 yX12_lookAt ∈ gAll := gt_11 (j := 198) rfl rfl
theorem ml_X12_677 : Cond.methodLink RX12 677 yX12_isNewEntry ∈ gAll := gt_11 (j := 202) rfl rfl
theorem ml_L_90 : Cond.methodLink RL 90 yX12_historyIs ∈ gAll := gt_11 (j := 206) rfl rfl
theorem ml_X12_693 : Cond.methodLink RX12 693 yX12_counts ∈ gAll := gt_11 (j := 210) rfl rfl
theorem ml_X12_686 : Cond.methodLink RX12 686 yX12_hasChild ∈ gAll := gt_11 (j := 214) rfl rfl
theorem ml_X12_690 : Cond.methodLink RX12 690 yX12_isFirstTree ∈ gAll := gt_11 (j := 218) rfl rfl
theorem ml_L_94 : Cond.methodLink RL 94 yX12_listing ∈ gAll := gt_11 (j := 222) rfl rfl
theorem ml_X12_696 : Cond.methodLink RX12 696 yX12_nextListed ∈ gAll := gt_11 (j := 226) rfl rfl
theorem ml_L_142 : Cond.methodLink RL 142 yX12_line ∈ gAll := gt_11 (j := 230) rfl rfl
theorem ml_L_134 : Cond.methodLink RL 134 yX12_apart ∈ gAll := gt_11 (j := 234) rfl rfl
theorem ml_X12_699 : Cond.methodLink RX12 699 yX12_isRefApart ∈ gAll := gt_11 (j := 238) rfl rfl
theorem ml_L_130 : Cond.methodLink RL 130 yX12_touches ∈ gAll := gt_12 (j := 2) rfl rfl
theorem ml_X12_705 : Cond.methodLink RX12 705 yX12_isTouching ∈ gAll := gt_12 (j := 6) rfl rfl
theorem ml_X12_702 : Cond.methodLink RX12 702 yX12_isSameThere ∈ gAll := gt_12 (j := 10) rfl rfl
theorem ml_L_102 : Cond.methodLink RL 102 yX12_base ∈ gAll := gt_12 (j := 14) rfl rfl
theorem ml_X12_708 : Cond.methodLink RX12 708 yX12_marksOf ∈ gAll := gt_12 (j := 18) rfl rfl
theorem ml_X12_712 : Cond.methodLink RX12 712 yX12_isBelowMarked ∈ gAll := gt_12 (j := 22) rfl rfl
theorem ml_L_106 : Cond.methodLink RL 106 yX12_way ∈ gAll := gt_12 (j := 26) rfl rfl
theorem ml_L_110 : Cond.methodLink RL 110 yX12_halving ∈ gAll := gt_12 (j := 30) rfl rfl
theorem ml_L_114 : Cond.methodLink RL 114 yX12_diff ∈ gAll := gt_12 (j := 34) rfl rfl
theorem ml_X12_736 : Cond.methodLink RX12 736 yX12_laysPairs ∈ gAll := gt_12 (j := 38) rfl rfl
theorem ml_X12_733 : Cond.methodLink RX12 733 yX12_pairsNext ∈ gAll := gt_12 (j := 42) rfl rfl
theorem ml_X12_724 : Cond.methodLink RX12 724 yX12_isPaired ∈ gAll := gt_12 (j := 46) rfl rfl
theorem ml_X12_728 : Cond.methodLink RX12 728 yX12_likenessOf ∈ gAll := gt_12 (j := 50) rfl rfl
theorem ml_X12_718 : Cond.methodLink RX12 718 yX12_inBoth ∈ gAll := gt_12 (j := 54) rfl rfl
theorem ml_X12_715 : Cond.methodLink RX12 715 yX12_digitAt ∈ gAll := gt_12 (j := 58) rfl rfl
theorem co_X12_732 : Cond.constantFloat RX12 732 1058642330 ∈ gAll := gt_12 (j := 61) rfl rfl
theorem ml_L_118 : Cond.methodLink RL 118 yX12_renamed ∈ gAll := gt_12 (j := 62) rfl rfl
theorem ml_X12_740 : Cond.methodLink RX12 740 yJxf58ca_floatToIntBits_5c35a ∈ gAll := gt_12 (j := 66) rfl rfl
theorem ml_Jxf58ca_59 : Cond.methodLink RJxf58ca 59 yJxf58ca_isNaN_12338 ∈ gAll := gt_12 (j := 69) rfl rfl
theorem ml_Jxf58ca_74 : Cond.methodLink RJxf58ca 74 ⟨"java/lang/Float", "floatToRawIntBits", "(F)I"⟩ ∈ gAll := gt_12 (j := 72) rfl rfl
theorem co_Jxf58ca_77 : Cond.constant RJxf58ca 77 (Int32.ofInt 2143289344) ∈ gAll := gt_12 (j := 75) rfl rfl
theorem ml_X12_746 : Cond.methodLink RX12 746 yX12_hundredths ∈ gAll := gt_12 (j := 76) rfl rfl
theorem co_X12_739 : Cond.constantFloat RX12 739 1120403456 ∈ gAll := gt_12 (j := 79) rfl rfl
theorem ml_L_122 : Cond.methodLink RL 122 yX12_likeness ∈ gAll := gt_12 (j := 80) rfl rfl
theorem ml_L_126 : Cond.methodLink RL 126 yX12_origin ∈ gAll := gt_12 (j := 84) rfl rfl
theorem ml_X12_768 : Cond.methodLink RX12 768 yX12_stepsByPath ∈ gAll := gt_12 (j := 88) rfl rfl
theorem ml_X12_765 : Cond.methodLink RX12 765 yX12_steps ∈ gAll := gt_12 (j := 92) rfl rfl
theorem ml_X12_771 : Cond.methodLink RX12 771 yX12_stepsByName ∈ gAll := gt_12 (j := 96) rfl rfl
theorem ml_L_147 : Cond.methodLink RL 147 yX12_keep ∈ gAll := gt_12 (j := 100) rfl rfl
theorem ml_X12_781 : Cond.methodLink RX12 781 yX12_copies ∈ gAll := gt_12 (j := 104) rfl rfl
theorem ml_L_152 : Cond.methodLink RL 152 yX12_undo ∈ gAll := gt_12 (j := 107) rfl rfl
theorem ml_L_156 : Cond.methodLink RL 156 yX12_check ∈ gAll := gt_12 (j := 111) rfl rfl
theorem ml_L_160 : Cond.methodLink RL 160 yX12_count ∈ gAll := gt_12 (j := 115) rfl rfl
theorem ml_X12_788 : Cond.methodLink RX12 788 yX12_trees ∈ gAll := gt_12 (j := 119) rfl rfl
theorem ml_X12_791 : Cond.methodLink RX12 791 yX12_contents ∈ gAll := gt_12 (j := 123) rfl rfl
theorem ml_X12_785 : Cond.methodLink RX12 785 yX12_isFirstContent ∈ gAll := gt_12 (j := 127) rfl rfl
theorem mi_objectInit : Cond.instanceMethod objectInit ∈ gAll := gt_1 (j := 35) rfl rfl
theorem mc_objectInit : Cond.code objectInit ⟨#[0xb1]⟩ 1 none ∈ gAll := gt_1 (j := 36) rfl rfl
theorem nat_acopy : Cond.native ⟨"java/lang/System", "arraycopy", "(Ljava/lang/Object;ILjava/lang/Object;II)V"⟩ ∈ gAll := gt_3 (j := 204) rfl rfl
theorem sta_acopy : Cond.static ⟨"java/lang/System", "arraycopy", "(Ljava/lang/Object;ILjava/lang/Object;II)V"⟩ ∈ gAll := gt_3 (j := 203) rfl rfl
theorem nat_f2bits : Cond.native ⟨"java/lang/Float", "floatToRawIntBits", "(F)I"⟩ ∈ gAll := gt_12 (j := 74) rfl rfl
theorem sta_f2bits : Cond.static ⟨"java/lang/Float", "floatToRawIntBits", "(F)I"⟩ ∈ gAll := gt_12 (j := 73) rfl rfl
theorem nat_d2bits : Cond.native ⟨"java/lang/Double", "doubleToRawLongBits", "(D)J"⟩ ∈ gAll := gt_11 (j := 96) rfl rfl
theorem sta_d2bits : Cond.static ⟨"java/lang/Double", "doubleToRawLongBits", "(D)J"⟩ ∈ gAll := gt_11 (j := 95) rfl rfl
theorem inic_System : Cond.initialized "java/lang/System" ∈ gAll := gt_1 (j := 19) rfl rfl
theorem inic_Math : Cond.initialized "java/lang/Math" ∈ gAll := gt_1 (j := 18) rfl rfl
theorem inic_Float : Cond.initialized "java/lang/Float" ∈ gAll := gt_1 (j := 28) rfl rfl
theorem inic_Double : Cond.initialized "java/lang/Double" ∈ gAll := gt_1 (j := 27) rfl rfl
