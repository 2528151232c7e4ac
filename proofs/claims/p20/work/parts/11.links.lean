/-! the words of the fields and calls that the code links, each by its place in the tables -/
theorem fl_X11_10 : pm_FL RX11 10 11 0 17 := pm_FL.of (C := RX11) (T := TX11) 2147 rfl (by decide +kernel)
theorem fl_X11_24 : pm_FL RX11 24 11 3 17 := pm_FL.of (C := RX11) (T := TX11) 2150 rfl (by decide +kernel)
theorem fl_X11_28 : pm_FL RX11 28 11 4 17 := pm_FL.of (C := RX11) (T := TX11) 2151 rfl (by decide +kernel)
theorem fl_X11_35 : pm_FL RX11 35 11 8 17 := pm_FL.of (C := RX11) (T := TX11) 2155 rfl (by decide +kernel)
theorem fl_X11_39 : pm_FL RX11 39 11 9 17 := pm_FL.of (C := RX11) (T := TX11) 2156 rfl (by decide +kernel)
theorem fl_X11_45 : pm_FL RX11 45 11 10 17 := pm_FL.of (C := RX11) (T := TX11) 2157 rfl (by decide +kernel)
theorem fl_X11_49 : pm_FL RX11 49 11 11 17 := pm_FL.of (C := RX11) (T := TX11) 2158 rfl (by decide +kernel)
theorem fl_X11_57 : pm_FL RX11 57 11 1 17 := pm_FL.of (C := RX11) (T := TX11) 2148 rfl (by decide +kernel)
theorem fl_X11_66 : pm_FL RX11 66 11 2 17 := pm_FL.of (C := RX11) (T := TX11) 2149 rfl (by decide +kernel)
theorem fl_X11_75 : pm_FL RX11 75 11 5 17 := pm_FL.of (C := RX11) (T := TX11) 2152 rfl (by decide +kernel)
theorem fl_X11_82 : pm_FL RX11 82 11 6 17 := pm_FL.of (C := RX11) (T := TX11) 2153 rfl (by decide +kernel)
theorem fl_X11_86 : pm_FL RX11 86 11 7 17 := pm_FL.of (C := RX11) (T := TX11) 2154 rfl (by decide +kernel)
theorem fl_X11_93 : pm_FL RX11 93 11 12 17 := pm_FL.of (C := RX11) (T := TX11) 2159 rfl (by decide +kernel)
theorem fl_X11_97 : pm_FL RX11 97 11 13 17 := pm_FL.of (C := RX11) (T := TX11) 2160 rfl (by decide +kernel)
theorem fl_X11_100 : pm_FL RX11 100 11 14 17 := pm_FL.of (C := RX11) (T := TX11) 2161 rfl (by decide +kernel)
theorem fl_X11_104 : pm_FL RX11 104 11 15 17 := pm_FL.of (C := RX11) (T := TX11) 2162 rfl (by decide +kernel)
theorem fl_X11_107 : pm_FL RX11 107 11 16 17 := pm_FL.of (C := RX11) (T := TX11) 2163 rfl (by decide +kernel)
theorem fl_X11_111 : pm_FL RX11 111 8 1 2 := pm_FL.of (C := RX8) (T := TX8) 1036 rfl (by decide +kernel)
theorem fl_X11_126 : pm_FL RX11 126 5 8 13 := pm_FL.of (C := RX5) (T := TX5) 1164 rfl (by decide +kernel)
theorem fl_X11_132 : pm_FL RX11 132 7 0 12 := pm_FL.of (C := RX7) (T := TX7) 1079 rfl (by decide +kernel)
theorem fl_X11_136 : pm_FL RX11 136 5 0 13 := pm_FL.of (C := RX5) (T := TX5) 1138 rfl (by decide +kernel)
theorem fl_X11_139 : pm_FL RX11 139 2 0 8 := pm_FL.of (C := RX2) (T := TX2) 1212 rfl (by decide +kernel)
theorem fl_X11_146 : pm_FL RX11 146 5 1 13 := pm_FL.of (C := RX5) (T := TX5) 1142 rfl (by decide +kernel)
theorem fl_X11_150 : pm_FL RX11 150 5 2 13 := pm_FL.of (C := RX5) (T := TX5) 1146 rfl (by decide +kernel)
theorem fl_X11_153 : pm_FL RX11 153 5 3 13 := pm_FL.of (C := RX5) (T := TX5) 1150 rfl (by decide +kernel)
theorem fl_X11_156 : pm_FL RX11 156 5 10 13 := pm_FL.of (C := RX5) (T := TX5) 1171 rfl (by decide +kernel)
theorem fl_X11_159 : pm_FL RX11 159 7 1 12 := pm_FL.of (C := RX7) (T := TX7) 1081 rfl (by decide +kernel)
theorem fl_X11_162 : pm_FL RX11 162 7 6 12 := pm_FL.of (C := RX7) (T := TX7) 1091 rfl (by decide +kernel)
theorem fl_X11_169 : pm_FL RX11 169 5 9 13 := pm_FL.of (C := RX5) (T := TX5) 1169 rfl (by decide +kernel)
theorem fl_X11_186 : pm_FL RX11 186 7 2 12 := pm_FL.of (C := RX7) (T := TX7) 1083 rfl (by decide +kernel)
theorem fl_X11_189 : pm_FL RX11 189 7 3 12 := pm_FL.of (C := RX7) (T := TX7) 1085 rfl (by decide +kernel)
theorem fl_X11_192 : pm_FL RX11 192 7 4 12 := pm_FL.of (C := RX7) (T := TX7) 1087 rfl (by decide +kernel)
theorem fl_X11_194 : pm_FL RX11 194 7 5 12 := pm_FL.of (C := RX7) (T := TX7) 1089 rfl (by decide +kernel)
theorem fl_X11_205 : pm_FL RX11 205 10 14 16 := pm_FL.of (C := RX10) (T := TX10) 2066 rfl (by decide +kernel)
theorem fl_X11_208 : pm_FL RX11 208 10 13 16 := pm_FL.of (C := RX10) (T := TX10) 2064 rfl (by decide +kernel)
theorem fl_X11_243 : pm_FL RX11 243 7 7 12 := pm_FL.of (C := RX7) (T := TX7) 1093 rfl (by decide +kernel)
theorem fl_X11_246 : pm_FL RX11 246 7 8 12 := pm_FL.of (C := RX7) (T := TX7) 1095 rfl (by decide +kernel)
theorem fl_X11_249 : pm_FL RX11 249 7 9 12 := pm_FL.of (C := RX7) (T := TX7) 1097 rfl (by decide +kernel)
theorem fl_X11_252 : pm_FL RX11 252 7 10 12 := pm_FL.of (C := RX7) (T := TX7) 1099 rfl (by decide +kernel)
theorem fl_X11_255 : pm_FL RX11 255 7 11 12 := pm_FL.of (C := RX7) (T := TX7) 1101 rfl (by decide +kernel)
theorem fl_X11_328 : pm_FL RX11 328 2 1 8 := pm_FL.of (C := RX2) (T := TX2) 1214 rfl (by decide +kernel)
theorem fl_X11_354 : pm_FL RX11 354 10 1 16 := pm_FL.of (C := RX10) (T := TX10) 2048 rfl (by decide +kernel)
theorem fl_X11_357 : pm_FL RX11 357 10 2 16 := pm_FL.of (C := RX10) (T := TX10) 2050 rfl (by decide +kernel)
theorem fl_X11_360 : pm_FL RX11 360 10 3 16 := pm_FL.of (C := RX10) (T := TX10) 2052 rfl (by decide +kernel)
theorem fl_X11_363 : pm_FL RX11 363 10 4 16 := pm_FL.of (C := RX10) (T := TX10) 2054 rfl (by decide +kernel)
theorem fl_X11_371 : pm_FL RX11 371 0 0 3 := pm_FL.of (C := RX0) (T := TX0) 2135 rfl (by decide +kernel)
theorem fl_X0_9 : pm_FL RX0 9 0 0 3 := pm_FL.of (C := RX0) (T := TX0) 2133 rfl (by decide +kernel)
theorem fl_X0_15 : pm_FL RX0 15 0 1 3 := pm_FL.of (C := RX0) (T := TX0) 2136 rfl (by decide +kernel)
theorem fl_X0_19 : pm_FL RX0 19 0 2 3 := pm_FL.of (C := RX0) (T := TX0) 2138 rfl (by decide +kernel)
theorem fl_X1_9 : pm_FL RX1 9 1 0 2 := pm_FL.of (C := RX1) (T := TX1) 2113 rfl (by decide +kernel)
theorem fl_X1_13 : pm_FL RX1 13 1 1 2 := pm_FL.of (C := RX1) (T := TX1) 2114 rfl (by decide +kernel)
theorem fl_X2_9 : pm_FL RX2 9 2 0 8 := pm_FL.of (C := RX2) (T := TX2) 1210 rfl (by decide +kernel)
theorem fl_X2_15 : pm_FL RX2 15 2 1 8 := pm_FL.of (C := RX2) (T := TX2) 1213 rfl (by decide +kernel)
theorem fl_X2_19 : pm_FL RX2 19 2 2 8 := pm_FL.of (C := RX2) (T := TX2) 1215 rfl (by decide +kernel)
theorem fl_X2_22 : pm_FL RX2 22 2 3 8 := pm_FL.of (C := RX2) (T := TX2) 1216 rfl (by decide +kernel)
theorem fl_X2_25 : pm_FL RX2 25 2 4 8 := pm_FL.of (C := RX2) (T := TX2) 1217 rfl (by decide +kernel)
theorem fl_X2_28 : pm_FL RX2 28 2 5 8 := pm_FL.of (C := RX2) (T := TX2) 1218 rfl (by decide +kernel)
theorem fl_X2_31 : pm_FL RX2 31 2 6 8 := pm_FL.of (C := RX2) (T := TX2) 1219 rfl (by decide +kernel)
theorem fl_X2_35 : pm_FL RX2 35 2 7 8 := pm_FL.of (C := RX2) (T := TX2) 1220 rfl (by decide +kernel)
theorem fl_X3_9 : pm_FL RX3 9 3 0 2 := pm_FL.of (C := RX3) (T := TX3) 2033 rfl (by decide +kernel)
theorem fl_X3_15 : pm_FL RX3 15 3 1 2 := pm_FL.of (C := RX3) (T := TX3) 2034 rfl (by decide +kernel)
theorem fl_X3_33 : pm_FL RX3 33 9 1 5 := pm_FL.of (C := RX9) (T := TX9) 1052 rfl (by decide +kernel)
theorem fl_X3_37 : pm_FL RX3 37 9 2 5 := pm_FL.of (C := RX9) (T := TX9) 1055 rfl (by decide +kernel)
theorem fl_X3_53 : pm_FL RX3 53 9 3 5 := pm_FL.of (C := RX9) (T := TX9) 1058 rfl (by decide +kernel)
theorem fl_X3_75 : pm_FL RX3 75 2 0 8 := pm_FL.of (C := RX2) (T := TX2) 1211 rfl (by decide +kernel)
theorem fl_X4_10 : pm_FL RX4 10 4 0 2 := pm_FL.of (C := RX4) (T := TX4) 2120 rfl (by decide +kernel)
theorem fl_X4_16 : pm_FL RX4 16 4 1 2 := pm_FL.of (C := RX4) (T := TX4) 2121 rfl (by decide +kernel)
theorem fl_X4_25 : pm_FL RX4 25 0 0 3 := pm_FL.of (C := RX0) (T := TX0) 2134 rfl (by decide +kernel)
theorem fl_X4_51 : pm_FL RX4 51 0 1 3 := pm_FL.of (C := RX0) (T := TX0) 2137 rfl (by decide +kernel)
theorem fl_X4_55 : pm_FL RX4 55 0 2 3 := pm_FL.of (C := RX0) (T := TX0) 2139 rfl (by decide +kernel)
theorem fl_X5_9 : pm_FL RX5 9 5 1 13 := pm_FL.of (C := RX5) (T := TX5) 1139 rfl (by decide +kernel)
theorem fl_X5_15 : pm_FL RX5 15 5 2 13 := pm_FL.of (C := RX5) (T := TX5) 1143 rfl (by decide +kernel)
theorem fl_X5_18 : pm_FL RX5 18 5 3 13 := pm_FL.of (C := RX5) (T := TX5) 1147 rfl (by decide +kernel)
theorem fl_X5_21 : pm_FL RX5 21 5 11 13 := pm_FL.of (C := RX5) (T := TX5) 1173 rfl (by decide +kernel)
theorem fl_X5_24 : pm_FL RX5 24 5 12 13 := pm_FL.of (C := RX5) (T := TX5) 1175 rfl (by decide +kernel)
theorem fl_X5_27 : pm_FL RX5 27 5 0 13 := pm_FL.of (C := RX5) (T := TX5) 1135 rfl (by decide +kernel)
theorem fl_X5_31 : pm_FL RX5 31 5 4 13 := pm_FL.of (C := RX5) (T := TX5) 1151 rfl (by decide +kernel)
theorem fl_X5_34 : pm_FL RX5 34 5 5 13 := pm_FL.of (C := RX5) (T := TX5) 1154 rfl (by decide +kernel)
theorem fl_X5_37 : pm_FL RX5 37 5 6 13 := pm_FL.of (C := RX5) (T := TX5) 1157 rfl (by decide +kernel)
theorem fl_X5_40 : pm_FL RX5 40 5 7 13 := pm_FL.of (C := RX5) (T := TX5) 1160 rfl (by decide +kernel)
theorem fl_X5_43 : pm_FL RX5 43 5 8 13 := pm_FL.of (C := RX5) (T := TX5) 1163 rfl (by decide +kernel)
theorem fl_X5_46 : pm_FL RX5 46 5 9 13 := pm_FL.of (C := RX5) (T := TX5) 1166 rfl (by decide +kernel)
theorem fl_X5_49 : pm_FL RX5 49 5 10 13 := pm_FL.of (C := RX5) (T := TX5) 1170 rfl (by decide +kernel)
theorem fl_X6_9 : pm_FL RX6 9 6 0 7 := pm_FL.of (C := RX6) (T := TX6) 2005 rfl (by decide +kernel)
theorem fl_X6_15 : pm_FL RX6 15 6 1 7 := pm_FL.of (C := RX6) (T := TX6) 2006 rfl (by decide +kernel)
theorem fl_X6_19 : pm_FL RX6 19 6 2 7 := pm_FL.of (C := RX6) (T := TX6) 2007 rfl (by decide +kernel)
theorem fl_X6_23 : pm_FL RX6 23 6 3 7 := pm_FL.of (C := RX6) (T := TX6) 2008 rfl (by decide +kernel)
theorem fl_X6_27 : pm_FL RX6 27 6 4 7 := pm_FL.of (C := RX6) (T := TX6) 2009 rfl (by decide +kernel)
theorem fl_X6_31 : pm_FL RX6 31 6 5 7 := pm_FL.of (C := RX6) (T := TX6) 2010 rfl (by decide +kernel)
theorem fl_X6_35 : pm_FL RX6 35 6 6 7 := pm_FL.of (C := RX6) (T := TX6) 2011 rfl (by decide +kernel)
theorem fl_X6_48 : pm_FL RX6 48 9 1 5 := pm_FL.of (C := RX9) (T := TX9) 1053 rfl (by decide +kernel)
theorem fl_X6_58 : pm_FL RX6 58 9 2 5 := pm_FL.of (C := RX9) (T := TX9) 1056 rfl (by decide +kernel)
theorem fl_X6_95 : pm_FL RX6 95 5 0 13 := pm_FL.of (C := RX5) (T := TX5) 1137 rfl (by decide +kernel)
theorem fl_X6_108 : pm_FL RX6 108 9 3 5 := pm_FL.of (C := RX9) (T := TX9) 1059 rfl (by decide +kernel)
theorem fl_X6_119 : pm_FL RX6 119 5 1 13 := pm_FL.of (C := RX5) (T := TX5) 1141 rfl (by decide +kernel)
theorem fl_X6_123 : pm_FL RX6 123 5 2 13 := pm_FL.of (C := RX5) (T := TX5) 1145 rfl (by decide +kernel)
theorem fl_X6_126 : pm_FL RX6 126 5 3 13 := pm_FL.of (C := RX5) (T := TX5) 1149 rfl (by decide +kernel)
theorem fl_X6_132 : pm_FL RX6 132 5 4 13 := pm_FL.of (C := RX5) (T := TX5) 1153 rfl (by decide +kernel)
theorem fl_X6_139 : pm_FL RX6 139 5 5 13 := pm_FL.of (C := RX5) (T := TX5) 1156 rfl (by decide +kernel)
theorem fl_X6_142 : pm_FL RX6 142 5 6 13 := pm_FL.of (C := RX5) (T := TX5) 1159 rfl (by decide +kernel)
theorem fl_X6_145 : pm_FL RX6 145 5 7 13 := pm_FL.of (C := RX5) (T := TX5) 1162 rfl (by decide +kernel)
theorem fl_X6_148 : pm_FL RX6 148 5 8 13 := pm_FL.of (C := RX5) (T := TX5) 1165 rfl (by decide +kernel)
theorem fl_X6_151 : pm_FL RX6 151 5 9 13 := pm_FL.of (C := RX5) (T := TX5) 1168 rfl (by decide +kernel)
theorem fl_X6_154 : pm_FL RX6 154 5 10 13 := pm_FL.of (C := RX5) (T := TX5) 1172 rfl (by decide +kernel)
theorem fl_X6_161 : pm_FL RX6 161 5 11 13 := pm_FL.of (C := RX5) (T := TX5) 1174 rfl (by decide +kernel)
theorem fl_X6_164 : pm_FL RX6 164 5 12 13 := pm_FL.of (C := RX5) (T := TX5) 1176 rfl (by decide +kernel)
theorem fl_X7_9 : pm_FL RX7 9 7 0 12 := pm_FL.of (C := RX7) (T := TX7) 1078 rfl (by decide +kernel)
theorem fl_X7_15 : pm_FL RX7 15 7 1 12 := pm_FL.of (C := RX7) (T := TX7) 1080 rfl (by decide +kernel)
theorem fl_X7_19 : pm_FL RX7 19 7 2 12 := pm_FL.of (C := RX7) (T := TX7) 1082 rfl (by decide +kernel)
theorem fl_X7_23 : pm_FL RX7 23 7 3 12 := pm_FL.of (C := RX7) (T := TX7) 1084 rfl (by decide +kernel)
theorem fl_X7_26 : pm_FL RX7 26 7 4 12 := pm_FL.of (C := RX7) (T := TX7) 1086 rfl (by decide +kernel)
theorem fl_X7_29 : pm_FL RX7 29 7 5 12 := pm_FL.of (C := RX7) (T := TX7) 1088 rfl (by decide +kernel)
theorem fl_X7_32 : pm_FL RX7 32 7 6 12 := pm_FL.of (C := RX7) (T := TX7) 1090 rfl (by decide +kernel)
theorem fl_X7_35 : pm_FL RX7 35 7 7 12 := pm_FL.of (C := RX7) (T := TX7) 1092 rfl (by decide +kernel)
theorem fl_X7_38 : pm_FL RX7 38 7 8 12 := pm_FL.of (C := RX7) (T := TX7) 1094 rfl (by decide +kernel)
theorem fl_X7_41 : pm_FL RX7 41 7 9 12 := pm_FL.of (C := RX7) (T := TX7) 1096 rfl (by decide +kernel)
theorem fl_X7_44 : pm_FL RX7 44 7 10 12 := pm_FL.of (C := RX7) (T := TX7) 1098 rfl (by decide +kernel)
theorem fl_X7_47 : pm_FL RX7 47 7 11 12 := pm_FL.of (C := RX7) (T := TX7) 1100 rfl (by decide +kernel)
theorem fl_X8_9 : pm_FL RX8 9 8 0 2 := pm_FL.of (C := RX8) (T := TX8) 1033 rfl (by decide +kernel)
theorem fl_X8_15 : pm_FL RX8 15 8 1 2 := pm_FL.of (C := RX8) (T := TX8) 1035 rfl (by decide +kernel)
theorem fl_X9_7 : pm_FL RX9 7 9 0 5 := pm_FL.of (C := RX9) (T := TX9) 1050 rfl (by decide +kernel)
theorem fl_X9_13 : pm_FL RX9 13 9 1 5 := pm_FL.of (C := RX9) (T := TX9) 1051 rfl (by decide +kernel)
theorem fl_X9_17 : pm_FL RX9 17 9 2 5 := pm_FL.of (C := RX9) (T := TX9) 1054 rfl (by decide +kernel)
theorem fl_X9_20 : pm_FL RX9 20 9 3 5 := pm_FL.of (C := RX9) (T := TX9) 1057 rfl (by decide +kernel)
theorem fl_X9_24 : pm_FL RX9 24 9 4 5 := pm_FL.of (C := RX9) (T := TX9) 1060 rfl (by decide +kernel)
theorem fl_X9_30 : pm_FL RX9 30 8 1 2 := pm_FL.of (C := RX8) (T := TX8) 1037 rfl (by decide +kernel)
theorem fl_X9_35 : pm_FL RX9 35 8 0 2 := pm_FL.of (C := RX8) (T := TX8) 1034 rfl (by decide +kernel)
theorem fl_X10_9 : pm_FL RX10 9 10 1 16 := pm_FL.of (C := RX10) (T := TX10) 2047 rfl (by decide +kernel)
theorem fl_X10_15 : pm_FL RX10 15 10 2 16 := pm_FL.of (C := RX10) (T := TX10) 2049 rfl (by decide +kernel)
theorem fl_X10_18 : pm_FL RX10 18 10 3 16 := pm_FL.of (C := RX10) (T := TX10) 2051 rfl (by decide +kernel)
theorem fl_X10_21 : pm_FL RX10 21 10 4 16 := pm_FL.of (C := RX10) (T := TX10) 2053 rfl (by decide +kernel)
theorem fl_X10_24 : pm_FL RX10 24 10 5 16 := pm_FL.of (C := RX10) (T := TX10) 2055 rfl (by decide +kernel)
theorem fl_X10_27 : pm_FL RX10 27 10 6 16 := pm_FL.of (C := RX10) (T := TX10) 2056 rfl (by decide +kernel)
theorem fl_X10_30 : pm_FL RX10 30 10 7 16 := pm_FL.of (C := RX10) (T := TX10) 2057 rfl (by decide +kernel)
theorem fl_X10_34 : pm_FL RX10 34 10 8 16 := pm_FL.of (C := RX10) (T := TX10) 2058 rfl (by decide +kernel)
theorem fl_X10_38 : pm_FL RX10 38 10 9 16 := pm_FL.of (C := RX10) (T := TX10) 2059 rfl (by decide +kernel)
theorem fl_X10_41 : pm_FL RX10 41 10 10 16 := pm_FL.of (C := RX10) (T := TX10) 2060 rfl (by decide +kernel)
theorem fl_X10_44 : pm_FL RX10 44 10 11 16 := pm_FL.of (C := RX10) (T := TX10) 2061 rfl (by decide +kernel)
theorem fl_X10_47 : pm_FL RX10 47 10 12 16 := pm_FL.of (C := RX10) (T := TX10) 2062 rfl (by decide +kernel)
theorem fl_X10_50 : pm_FL RX10 50 10 13 16 := pm_FL.of (C := RX10) (T := TX10) 2063 rfl (by decide +kernel)
theorem fl_X10_53 : pm_FL RX10 53 10 14 16 := pm_FL.of (C := RX10) (T := TX10) 2065 rfl (by decide +kernel)
theorem fl_X10_56 : pm_FL RX10 56 10 15 16 := pm_FL.of (C := RX10) (T := TX10) 2067 rfl (by decide +kernel)
theorem fl_X10_59 : pm_FL RX10 59 10 0 16 := pm_FL.of (C := RX10) (T := TX10) 2046 rfl (by decide +kernel)
theorem fl_X10_63 : pm_FL RX10 63 5 4 13 := pm_FL.of (C := RX5) (T := TX5) 1152 rfl (by decide +kernel)
theorem fl_X10_66 : pm_FL RX10 66 5 5 13 := pm_FL.of (C := RX5) (T := TX5) 1155 rfl (by decide +kernel)
theorem fl_X10_75 : pm_FL RX10 75 5 6 13 := pm_FL.of (C := RX5) (T := TX5) 1158 rfl (by decide +kernel)
theorem fl_X10_76 : pm_FL RX10 76 5 7 13 := pm_FL.of (C := RX5) (T := TX5) 1161 rfl (by decide +kernel)
theorem fl_X10_79 : pm_FL RX10 79 5 0 13 := pm_FL.of (C := RX5) (T := TX5) 1136 rfl (by decide +kernel)
theorem fl_X10_82 : pm_FL RX10 82 5 1 13 := pm_FL.of (C := RX5) (T := TX5) 1140 rfl (by decide +kernel)
theorem fl_X10_90 : pm_FL RX10 90 5 3 13 := pm_FL.of (C := RX5) (T := TX5) 1148 rfl (by decide +kernel)
theorem fl_X10_93 : pm_FL RX10 93 5 2 13 := pm_FL.of (C := RX5) (T := TX5) 1144 rfl (by decide +kernel)
theorem fl_X10_100 : pm_FL RX10 100 5 9 13 := pm_FL.of (C := RX5) (T := TX5) 1167 rfl (by decide +kernel)
theorem fl_X12_9 : pm_FL RX12 9 12 0 58 := pm_FL.of (C := RX12) (T := TX12) 5121 rfl (by decide +kernel)
theorem fl_X12_13 : pm_FL RX12 13 12 7 58 := pm_FL.of (C := RX12) (T := TX12) 5128 rfl (by decide +kernel)
theorem fl_X12_17 : pm_FL RX12 17 12 8 58 := pm_FL.of (C := RX12) (T := TX12) 5129 rfl (by decide +kernel)
theorem fl_X12_21 : pm_FL RX12 21 12 9 58 := pm_FL.of (C := RX12) (T := TX12) 5130 rfl (by decide +kernel)
theorem fl_X12_25 : pm_FL RX12 25 12 10 58 := pm_FL.of (C := RX12) (T := TX12) 5131 rfl (by decide +kernel)
theorem fl_X12_28 : pm_FL RX12 28 12 14 58 := pm_FL.of (C := RX12) (T := TX12) 5135 rfl (by decide +kernel)
theorem fl_X12_31 : pm_FL RX12 31 12 17 58 := pm_FL.of (C := RX12) (T := TX12) 5138 rfl (by decide +kernel)
theorem fl_X12_34 : pm_FL RX12 34 12 18 58 := pm_FL.of (C := RX12) (T := TX12) 5139 rfl (by decide +kernel)
theorem fl_X12_37 : pm_FL RX12 37 12 22 58 := pm_FL.of (C := RX12) (T := TX12) 5143 rfl (by decide +kernel)
theorem fl_X12_40 : pm_FL RX12 40 12 24 58 := pm_FL.of (C := RX12) (T := TX12) 5145 rfl (by decide +kernel)
theorem fl_X12_43 : pm_FL RX12 43 12 26 58 := pm_FL.of (C := RX12) (T := TX12) 5147 rfl (by decide +kernel)
theorem fl_X12_46 : pm_FL RX12 46 12 27 58 := pm_FL.of (C := RX12) (T := TX12) 5148 rfl (by decide +kernel)
theorem fl_X12_49 : pm_FL RX12 49 12 28 58 := pm_FL.of (C := RX12) (T := TX12) 5149 rfl (by decide +kernel)
theorem fl_X12_52 : pm_FL RX12 52 12 29 58 := pm_FL.of (C := RX12) (T := TX12) 5150 rfl (by decide +kernel)
theorem fl_X12_55 : pm_FL RX12 55 12 30 58 := pm_FL.of (C := RX12) (T := TX12) 5151 rfl (by decide +kernel)
theorem fl_X12_58 : pm_FL RX12 58 12 31 58 := pm_FL.of (C := RX12) (T := TX12) 5152 rfl (by decide +kernel)
theorem fl_X12_61 : pm_FL RX12 61 12 34 58 := pm_FL.of (C := RX12) (T := TX12) 5155 rfl (by decide +kernel)
theorem fl_X12_64 : pm_FL RX12 64 12 36 58 := pm_FL.of (C := RX12) (T := TX12) 5157 rfl (by decide +kernel)
theorem fl_X12_67 : pm_FL RX12 67 12 38 58 := pm_FL.of (C := RX12) (T := TX12) 5159 rfl (by decide +kernel)
theorem fl_X12_70 : pm_FL RX12 70 12 40 58 := pm_FL.of (C := RX12) (T := TX12) 5161 rfl (by decide +kernel)
theorem fl_X12_73 : pm_FL RX12 73 12 41 58 := pm_FL.of (C := RX12) (T := TX12) 5162 rfl (by decide +kernel)
theorem fl_X12_76 : pm_FL RX12 76 12 50 58 := pm_FL.of (C := RX12) (T := TX12) 5171 rfl (by decide +kernel)
theorem fl_X12_79 : pm_FL RX12 79 12 52 58 := pm_FL.of (C := RX12) (T := TX12) 5173 rfl (by decide +kernel)
theorem fl_X12_82 : pm_FL RX12 82 12 53 58 := pm_FL.of (C := RX12) (T := TX12) 5174 rfl (by decide +kernel)
theorem fl_X12_85 : pm_FL RX12 85 12 54 58 := pm_FL.of (C := RX12) (T := TX12) 5175 rfl (by decide +kernel)
theorem fl_X12_88 : pm_FL RX12 88 12 55 58 := pm_FL.of (C := RX12) (T := TX12) 5176 rfl (by decide +kernel)
theorem fl_X12_91 : pm_FL RX12 91 12 56 58 := pm_FL.of (C := RX12) (T := TX12) 5177 rfl (by decide +kernel)
theorem fl_X12_94 : pm_FL RX12 94 12 1 58 := pm_FL.of (C := RX12) (T := TX12) 5122 rfl (by decide +kernel)
theorem fl_X12_102 : pm_FL RX12 102 12 2 58 := pm_FL.of (C := RX12) (T := TX12) 5123 rfl (by decide +kernel)
theorem fl_X12_105 : pm_FL RX12 105 12 4 58 := pm_FL.of (C := RX12) (T := TX12) 5125 rfl (by decide +kernel)
theorem fl_X12_108 : pm_FL RX12 108 12 5 58 := pm_FL.of (C := RX12) (T := TX12) 5126 rfl (by decide +kernel)
theorem fl_X12_112 : pm_FL RX12 112 12 3 58 := pm_FL.of (C := RX12) (T := TX12) 5124 rfl (by decide +kernel)
theorem fl_X12_151 : pm_FL RX12 151 12 37 58 := pm_FL.of (C := RX12) (T := TX12) 5158 rfl (by decide +kernel)
theorem fl_X12_169 : pm_FL RX12 169 12 6 58 := pm_FL.of (C := RX12) (T := TX12) 5127 rfl (by decide +kernel)
theorem fl_X12_186 : pm_FL RX12 186 12 11 58 := pm_FL.of (C := RX12) (T := TX12) 5132 rfl (by decide +kernel)
theorem fl_X12_189 : pm_FL RX12 189 12 12 58 := pm_FL.of (C := RX12) (T := TX12) 5133 rfl (by decide +kernel)
theorem fl_X12_192 : pm_FL RX12 192 12 13 58 := pm_FL.of (C := RX12) (T := TX12) 5134 rfl (by decide +kernel)
theorem fl_X12_216 : pm_FL RX12 216 12 15 58 := pm_FL.of (C := RX12) (T := TX12) 5136 rfl (by decide +kernel)
theorem fl_X12_220 : pm_FL RX12 220 12 16 58 := pm_FL.of (C := RX12) (T := TX12) 5137 rfl (by decide +kernel)
theorem fl_X12_223 : pm_FL RX12 223 12 21 58 := pm_FL.of (C := RX12) (T := TX12) 5142 rfl (by decide +kernel)
theorem fl_X12_226 : pm_FL RX12 226 12 19 58 := pm_FL.of (C := RX12) (T := TX12) 5140 rfl (by decide +kernel)
theorem fl_X12_229 : pm_FL RX12 229 12 20 58 := pm_FL.of (C := RX12) (T := TX12) 5141 rfl (by decide +kernel)
theorem fl_X12_232 : pm_FL RX12 232 12 23 58 := pm_FL.of (C := RX12) (T := TX12) 5144 rfl (by decide +kernel)
theorem fl_X12_235 : pm_FL RX12 235 12 25 58 := pm_FL.of (C := RX12) (T := TX12) 5146 rfl (by decide +kernel)
theorem fl_X12_238 : pm_FL RX12 238 12 33 58 := pm_FL.of (C := RX12) (T := TX12) 5154 rfl (by decide +kernel)
theorem fl_X12_241 : pm_FL RX12 241 12 39 58 := pm_FL.of (C := RX12) (T := TX12) 5160 rfl (by decide +kernel)
theorem fl_X12_271 : pm_FL RX12 271 12 32 58 := pm_FL.of (C := RX12) (T := TX12) 5153 rfl (by decide +kernel)
theorem fl_X12_296 : pm_FL RX12 296 12 35 58 := pm_FL.of (C := RX12) (T := TX12) 5156 rfl (by decide +kernel)
theorem fl_X12_305 : pm_FL RX12 305 12 48 58 := pm_FL.of (C := RX12) (T := TX12) 5169 rfl (by decide +kernel)
theorem fl_X12_308 : pm_FL RX12 308 12 49 58 := pm_FL.of (C := RX12) (T := TX12) 5170 rfl (by decide +kernel)
theorem fl_X12_317 : pm_FL RX12 317 12 42 58 := pm_FL.of (C := RX12) (T := TX12) 5163 rfl (by decide +kernel)
theorem fl_X12_320 : pm_FL RX12 320 12 43 58 := pm_FL.of (C := RX12) (T := TX12) 5164 rfl (by decide +kernel)
theorem fl_X12_323 : pm_FL RX12 323 12 47 58 := pm_FL.of (C := RX12) (T := TX12) 5168 rfl (by decide +kernel)
theorem fl_X12_326 : pm_FL RX12 326 12 44 58 := pm_FL.of (C := RX12) (T := TX12) 5165 rfl (by decide +kernel)
theorem fl_X12_329 : pm_FL RX12 329 12 45 58 := pm_FL.of (C := RX12) (T := TX12) 5166 rfl (by decide +kernel)
theorem fl_X12_332 : pm_FL RX12 332 12 46 58 := pm_FL.of (C := RX12) (T := TX12) 5167 rfl (by decide +kernel)
theorem fl_X12_362 : pm_FL RX12 362 12 51 58 := pm_FL.of (C := RX12) (T := TX12) 5172 rfl (by decide +kernel)
theorem fl_X12_464 : pm_FL RX12 464 12 57 58 := pm_FL.of (C := RX12) (T := TX12) 5178 rfl (by decide +kernel)
theorem lm_X11_18 : pm_LM RX11 18 yX9_init cX9_init 2 none false 1 := pm_LM.of 1048 1003 1046 rfl (by decide +kernel) (by decide +kernel) (by decide +kernel)
theorem ln_X9_init : Cond.instanceMethod yX9_init ∈ pm_all := pm_in 1047 (by decide +kernel)
theorem lm_X11_54 : pm_LM RX11 54 yX6_init cX6_init 3 none false 2 := pm_LM.of 2003 1007 2001 rfl (by decide +kernel) (by decide +kernel) (by decide +kernel)
theorem ln_X6_init : Cond.instanceMethod yX6_init ∈ pm_all := pm_in 2002 (by decide +kernel)
theorem lm_X11_63 : pm_LM RX11 63 yX3_init cX3_init 3 none false 2 := pm_LM.of 2031 1008 2029 rfl (by decide +kernel) (by decide +kernel) (by decide +kernel)
theorem ln_X3_init : Cond.instanceMethod yX3_init ∈ pm_all := pm_in 2030 (by decide +kernel)
theorem lm_X11_72 : pm_LM RX11 72 yX10_init cX10_init 2 none false 1 := pm_LM.of 2044 1009 2042 rfl (by decide +kernel) (by decide +kernel) (by decide +kernel)
theorem ln_X10_init : Cond.instanceMethod yX10_init ∈ pm_all := pm_in 2043 (by decide +kernel)
theorem lm_X11_114 : pm_LM RX11 114 yX8_add cX8_add 3 none false 1 := pm_LM.of 2206 1002 2203 rfl (by decide +kernel) (by decide +kernel) (by decide +kernel)
theorem li_X8_add : pm_LI yX8_add RX8 := ⟨pm_in 2204 (by decide +kernel), pm_in 2205 (by decide +kernel)⟩
theorem lm_X11_118 : pm_LM RX11 118 yX6_read cX6_read 4 (some .int) false 1 := pm_LM.of 2218 1007 2215 rfl (by decide +kernel) (by decide +kernel) (by decide +kernel)
theorem li_X6_read : pm_LI yX6_read RX6 := ⟨pm_in 2216 (by decide +kernel), pm_in 2217 (by decide +kernel)⟩
theorem lm_X11_122 : pm_LM RX11 122 yX3_read cX3_read 4 (some .int) false 1 := pm_LM.of 3085 1008 3082 rfl (by decide +kernel) (by decide +kernel) (by decide +kernel)
theorem li_X3_read : pm_LI yX3_read RX3 := ⟨pm_in 3083 (by decide +kernel), pm_in 3084 (by decide +kernel)⟩
theorem lm_X11_129 : pm_LM RX11 129 yX7_begin cX7_begin 2 none false 1 := pm_LM.of 3161 1004 3158 rfl (by decide +kernel) (by decide +kernel) (by decide +kernel)
theorem li_X7_begin : pm_LI yX7_begin RX7 := ⟨pm_in 3159 (by decide +kernel), pm_in 3160 (by decide +kernel)⟩
theorem lm_X11_142 : pm_LM RX11 142 yX11_isSound cX11_isSound 2 (some .boolean) false 1 := pm_LM.of 3181 1001 3178 rfl (by decide +kernel) (by decide +kernel) (by decide +kernel)
theorem li_X11_isSound : pm_LI yX11_isSound RX11 := ⟨pm_in 3180 (by decide +kernel), pm_in 19 (by decide +kernel)⟩
theorem lm_X11_165 : pm_LM RX11 165 yX11_hasScene cX11_hasScene 1 (some .boolean) false 0 := pm_LM.of 3189 1001 3186 rfl (by decide +kernel) (by decide +kernel) (by decide +kernel)
theorem li_X11_hasScene : pm_LI yX11_hasScene RX11 := ⟨pm_in 3188 (by decide +kernel), pm_in 20 (by decide +kernel)⟩
theorem lm_X11_172 : pm_LM RX11 172 yX11_areChanges cX11_areChanges 2 (some .boolean) false 2 := pm_LM.of 3196 1001 3194 rfl (by decide +kernel) (by decide +kernel) (by decide +kernel)
theorem ls_X11_areChanges : pm_LS yX11_areChanges := pm_in 3195 (by decide +kernel)
theorem lm_X11_176 : pm_LM RX11 176 yX11_isBelief cX11_isBelief 1 (some .boolean) false 1 := pm_LM.of 3199 1001 3197 rfl (by decide +kernel) (by decide +kernel) (by decide +kernel)
theorem ls_X11_isBelief : pm_LS yX11_isBelief := pm_in 3198 (by decide +kernel)
theorem lm_X11_179 : pm_LM RX11 179 yX7_addPerson cX7_addPerson 5 (some .int) false 4 := pm_LM.of 3165 1004 3200 rfl (by decide +kernel) (by decide +kernel) (by decide +kernel)
theorem li_X7_addPerson : pm_LI yX7_addPerson RX7 := ⟨pm_in 3163 (by decide +kernel), pm_in 3164 (by decide +kernel)⟩
theorem lm_X11_183 : pm_LM RX11 183 yX11_isPerson cX11_isPerson 2 (some .boolean) false 1 := pm_LM.of 3208 1001 3205 rfl (by decide +kernel) (by decide +kernel) (by decide +kernel)
theorem li_X11_isPerson : pm_LI yX11_isPerson RX11 := ⟨pm_in 3207 (by decide +kernel), pm_in 21 (by decide +kernel)⟩
theorem lm_X11_197 : pm_LM RX11 197 yX7_changePerson cX7_changePerson 5 none false 4 := pm_LM.of 3169 1004 3213 rfl (by decide +kernel) (by decide +kernel) (by decide +kernel)
theorem li_X7_changePerson : pm_LI yX7_changePerson RX7 := ⟨pm_in 3167 (by decide +kernel), pm_in 3168 (by decide +kernel)⟩
theorem lm_X11_201 : pm_LM RX11 201 yX11_weighs cX11_weighs 5 (some .boolean) false 4 := pm_LM.of 3221 1001 3218 rfl (by decide +kernel) (by decide +kernel) (by decide +kernel)
theorem li_X11_weighs : pm_LI yX11_weighs RX11 := ⟨pm_in 3220 (by decide +kernel), pm_in 22 (by decide +kernel)⟩
theorem lm_X11_211 : pm_LM RX11 211 yX10_chanceOf cX10_chanceOf 2 (some .int) false 1 := pm_LM.of 4078 1009 4075 rfl (by decide +kernel) (by decide +kernel) (by decide +kernel)
theorem li_X10_chanceOf : pm_LI yX10_chanceOf RX10 := ⟨pm_in 4076 (by decide +kernel), pm_in 4077 (by decide +kernel)⟩
theorem lm_X11_215 : pm_LM RX11 215 yX11_isKind cX11_isKind 1 (some .boolean) false 1 := pm_LM.of 4089 1001 4087 rfl (by decide +kernel) (by decide +kernel) (by decide +kernel)
theorem ls_X11_isKind : pm_LS yX11_isKind := pm_in 4088 (by decide +kernel)
theorem lm_X11_218 : pm_LM RX11 218 yX10_chanceOfKind cX10_chanceOfKind 5 (some .int) false 1 := pm_LM.of 4093 1009 4090 rfl (by decide +kernel) (by decide +kernel) (by decide +kernel)
theorem li_X10_chanceOfKind : pm_LI yX10_chanceOfKind RX10 := ⟨pm_in 4091 (by decide +kernel), pm_in 4092 (by decide +kernel)⟩
theorem lm_X11_221 : pm_LM RX11 221 yX10_mostLikely cX10_mostLikely 3 (some .int) false 0 := pm_LM.of 4044 1009 4101 rfl (by decide +kernel) (by decide +kernel) (by decide +kernel)
theorem li_X10_mostLikely : pm_LI yX10_mostLikely RX10 := ⟨pm_in 4042 (by decide +kernel), pm_in 4043 (by decide +kernel)⟩
theorem lm_X11_225 : pm_LM RX11 225 yX11_isTrial cX11_isTrial 5 (some .boolean) false 3 := pm_LM.of 3228 1001 3225 rfl (by decide +kernel) (by decide +kernel) (by decide +kernel)
theorem li_X11_isTrial : pm_LI yX11_isTrial RX11 := ⟨pm_in 3227 (by decide +kernel), pm_in 23 (by decide +kernel)⟩
theorem lm_X11_229 : pm_LM RX11 229 yX11_pose cX11_pose 5 none false 3 := pm_LM.of 3238 1001 3235 rfl (by decide +kernel) (by decide +kernel) (by decide +kernel)
theorem li_X11_pose : pm_LI yX11_pose RX11 := ⟨pm_in 3237 (by decide +kernel), pm_in 24 (by decide +kernel)⟩
theorem lm_X11_233 : pm_LM RX11 233 yX10_chanceNoticed cX10_chanceNoticed 5 (some .int) false 0 := pm_LM.of 4109 1009 4106 rfl (by decide +kernel) (by decide +kernel) (by decide +kernel)
theorem li_X10_chanceNoticed : pm_LI yX10_chanceNoticed RX10 := ⟨pm_in 4107 (by decide +kernel), pm_in 4108 (by decide +kernel)⟩
theorem lm_X11_236 : pm_LM RX11 236 yX7_addAnswer cX7_addAnswer 6 none false 5 := pm_LM.of 4117 1004 4114 rfl (by decide +kernel) (by decide +kernel) (by decide +kernel)
theorem li_X7_addAnswer : pm_LI yX7_addAnswer RX7 := ⟨pm_in 4115 (by decide +kernel), pm_in 4116 (by decide +kernel)⟩
theorem lm_X11_240 : pm_LM RX11 240 yX7_isAnswer cX7_isAnswer 2 (some .boolean) false 1 := pm_LM.of 4129 1004 4126 rfl (by decide +kernel) (by decide +kernel) (by decide +kernel)
theorem li_X7_isAnswer : pm_LI yX7_isAnswer RX7 := ⟨pm_in 4127 (by decide +kernel), pm_in 4128 (by decide +kernel)⟩
theorem lm_X11_259 : pm_LM RX11 259 yX7_kindOfAnswer cX7_kindOfAnswer 2 (some .int) false 1 := pm_LM.of 4133 1004 4130 rfl (by decide +kernel) (by decide +kernel) (by decide +kernel)
theorem li_X7_kindOfAnswer : pm_LI yX7_kindOfAnswer RX7 := ⟨pm_in 4131 (by decide +kernel), pm_in 4132 (by decide +kernel)⟩
theorem lm_X11_262 : pm_LM RX11 262 yX11_isLaw cX11_isLaw 1 (some .boolean) false 1 := pm_LM.of 3224 1001 3222 rfl (by decide +kernel) (by decide +kernel) (by decide +kernel)
theorem ls_X11_isLaw : pm_LS yX11_isLaw := pm_in 3223 (by decide +kernel)
theorem lm_X11_265 : pm_LM RX11 265 yX11_isPersonOrAll cX11_isPersonOrAll 2 (some .boolean) false 1 := pm_LM.of 4142 1001 4139 rfl (by decide +kernel) (by decide +kernel) (by decide +kernel)
theorem li_X11_isPersonOrAll : pm_LI yX11_isPersonOrAll RX11 := ⟨pm_in 4141 (by decide +kernel), pm_in 36 (by decide +kernel)⟩
theorem lm_X11_268 : pm_LM RX11 268 yX11_gather cX11_gather 5 none false 3 := pm_LM.of 4146 1001 4143 rfl (by decide +kernel) (by decide +kernel) (by decide +kernel)
theorem li_X11_gather : pm_LI yX11_gather RX11 := ⟨pm_in 4145 (by decide +kernel), pm_in 37 (by decide +kernel)⟩
theorem lm_X11_272 : pm_LM RX11 272 yX4_compareProducts cX4_compareProducts 8 (some .int) false 2 := pm_LM.of 4154 1010 4151 rfl (by decide +kernel) (by decide +kernel) (by decide +kernel)
theorem li_X4_compareProducts : pm_LI yX4_compareProducts RX4 := ⟨pm_in 4152 (by decide +kernel), pm_in 4153 (by decide +kernel)⟩
theorem lm_X11_276 : pm_LM RX11 276 yX11_keepsTried cX11_keepsTried 2 (some .boolean) false 0 := pm_LM.of 4197 1001 4194 rfl (by decide +kernel) (by decide +kernel) (by decide +kernel)
theorem li_X11_keepsTried : pm_LI yX11_keepsTried RX11 := ⟨pm_in 4196 (by decide +kernel), pm_in 39 (by decide +kernel)⟩
theorem lm_X11_279 : pm_LM RX11 279 yX11_findOwnOdds cX11_findOwnOdds 6 (some .int) false 1 := pm_LM.of 4205 1001 4202 rfl (by decide +kernel) (by decide +kernel) (by decide +kernel)
theorem li_X11_findOwnOdds : pm_LI yX11_findOwnOdds RX11 := ⟨pm_in 4204 (by decide +kernel), pm_in 40 (by decide +kernel)⟩
theorem lm_X11_282 : pm_LM RX11 282 yX11_findOwnSpans cX11_findOwnSpans 5 none false 1 := pm_LM.of 4213 1001 4210 rfl (by decide +kernel) (by decide +kernel) (by decide +kernel)
theorem li_X11_findOwnSpans : pm_LI yX11_findOwnSpans RX11 := ⟨pm_in 4212 (by decide +kernel), pm_in 42 (by decide +kernel)⟩
theorem lm_X11_285 : pm_LM RX11 285 yX11_isLandOrAll cX11_isLandOrAll 1 (some .boolean) false 1 := pm_LM.of 4225 1001 4223 rfl (by decide +kernel) (by decide +kernel) (by decide +kernel)
theorem ls_X11_isLandOrAll : pm_LS yX11_isLandOrAll := pm_in 4224 (by decide +kernel)
theorem lm_X11_288 : pm_LM RX11 288 yX11_countOfLand cX11_countOfLand 4 (some .int) false 1 := pm_LM.of 4229 1001 4226 rfl (by decide +kernel) (by decide +kernel) (by decide +kernel)
theorem li_X11_countOfLand : pm_LI yX11_countOfLand RX11 := ⟨pm_in 4228 (by decide +kernel), pm_in 44 (by decide +kernel)⟩
theorem lm_X11_291 : pm_LM RX11 291 yX11_isOfLand cX11_isOfLand 3 (some .boolean) false 2 := pm_LM.of 4233 1001 4230 rfl (by decide +kernel) (by decide +kernel) (by decide +kernel)
theorem li_X11_isOfLand : pm_LI yX11_isOfLand RX11 := ⟨pm_in 4232 (by decide +kernel), pm_in 45 (by decide +kernel)⟩
theorem lm_X11_294 : pm_LM RX11 294 yX10_weigh cX10_weigh 2 none false 1 := pm_LM.of 4028 1009 4025 rfl (by decide +kernel) (by decide +kernel) (by decide +kernel)
theorem li_X10_weigh : pm_LI yX10_weigh RX10 := ⟨pm_in 4026 (by decide +kernel), pm_in 4027 (by decide +kernel)⟩
theorem lm_X11_297 : pm_LM RX11 297 yX11_isSetting cX11_isSetting 1 (some .boolean) false 1 := pm_LM.of 3231 1001 3229 rfl (by decide +kernel) (by decide +kernel) (by decide +kernel)
theorem ls_X11_isSetting : pm_LS yX11_isSetting := pm_in 3230 (by decide +kernel)
theorem lm_X11_300 : pm_LM RX11 300 yX11_isLate cX11_isLate 1 (some .boolean) false 1 := pm_LM.of 3234 1001 3232 rfl (by decide +kernel) (by decide +kernel) (by decide +kernel)
theorem ls_X11_isLate : pm_LS yX11_isLate := pm_in 3233 (by decide +kernel)
theorem lm_X11_303 : pm_LM RX11 303 yX11_isPair cX11_isPair 7 (some .boolean) false 4 := pm_LM.of 5005 1001 5002 rfl (by decide +kernel) (by decide +kernel) (by decide +kernel)
theorem li_X11_isPair : pm_LI yX11_isPair RX11 := ⟨pm_in 5004 (by decide +kernel), pm_in 46 (by decide +kernel)⟩
theorem lm_X11_306 : pm_LM RX11 306 yX10_trustAt cX10_trustAt 4 none false 2 := pm_LM.of 4024 1009 4021 rfl (by decide +kernel) (by decide +kernel) (by decide +kernel)
theorem li_X10_trustAt : pm_LI yX10_trustAt RX10 := ⟨pm_in 4022 (by decide +kernel), pm_in 4023 (by decide +kernel)⟩
theorem lm_X11_310 : pm_LM RX11 310 yX11_sumRight cX11_sumRight 6 (some .int) false 3 := pm_LM.of 5018 1001 5015 rfl (by decide +kernel) (by decide +kernel) (by decide +kernel)
theorem li_X11_sumRight : pm_LI yX11_sumRight RX11 := ⟨pm_in 5017 (by decide +kernel), pm_in 47 (by decide +kernel)⟩
theorem lm_X11_314 : pm_LM RX11 314 yX11_areLaws cX11_areLaws 1 (some .boolean) false 1 := pm_LM.of 5029 1001 5027 rfl (by decide +kernel) (by decide +kernel) (by decide +kernel)
theorem ls_X11_areLaws : pm_LS yX11_areLaws := pm_in 5028 (by decide +kernel)
theorem lm_X11_317 : pm_LM RX11 317 yX10_partedBy cX10_partedBy 9 (some .int) false 2 := pm_LM.of 5033 1009 5030 rfl (by decide +kernel) (by decide +kernel) (by decide +kernel)
theorem li_X10_partedBy : pm_LI yX10_partedBy RX10 := ⟨pm_in 5031 (by decide +kernel), pm_in 5032 (by decide +kernel)⟩
theorem lm_X11_321 : pm_LM RX11 321 yX11_fillAtoms cX11_fillAtoms 2 none false 1 := pm_LM.of 5054 1001 5051 rfl (by decide +kernel) (by decide +kernel) (by decide +kernel)
theorem li_X11_fillAtoms : pm_LI yX11_fillAtoms RX11 := ⟨pm_in 5053 (by decide +kernel), pm_in 48 (by decide +kernel)⟩
theorem lm_X11_324 : pm_LM RX11 324 yX2_holds cX2_holds 6 (some .boolean) false 2 := pm_LM.of 5058 1006 5055 rfl (by decide +kernel) (by decide +kernel) (by decide +kernel)
theorem li_X2_holds : pm_LI yX2_holds RX2 := ⟨pm_in 5056 (by decide +kernel), pm_in 5057 (by decide +kernel)⟩
theorem lm_X11_332 : pm_LM RX11 332 yX11_drawAnswer cX11_drawAnswer 12 none false 2 := pm_LM.of 5088 1001 5085 rfl (by decide +kernel) (by decide +kernel) (by decide +kernel)
theorem li_X11_drawAnswer : pm_LI yX11_drawAnswer RX11 := ⟨pm_in 5087 (by decide +kernel), pm_in 52 (by decide +kernel)⟩
theorem lm_X11_335 : pm_LM RX11 335 yX7_copyFrom cX7_copyFrom 3 none false 1 := pm_LM.of 5110 1004 5107 rfl (by decide +kernel) (by decide +kernel) (by decide +kernel)
theorem li_X7_copyFrom : pm_LI yX7_copyFrom RX7 := ⟨pm_in 5108 (by decide +kernel), pm_in 5109 (by decide +kernel)⟩
theorem lm_X11_341 : pm_LM RX11 341 yX11_poseAs cX11_poseAs 5 none false 4 := pm_LM.of 4002 1001 3239 rfl (by decide +kernel) (by decide +kernel) (by decide +kernel)
theorem li_X11_poseAs : pm_LI yX11_poseAs RX11 := ⟨pm_in 4001 (by decide +kernel), pm_in 25 (by decide +kernel)⟩
theorem lm_X11_344 : pm_LM RX11 344 yX10_place cX10_place 4 none false 3 := pm_LM.of 4006 1009 4003 rfl (by decide +kernel) (by decide +kernel) (by decide +kernel)
theorem li_X10_place : pm_LI yX10_place RX10 := ⟨pm_in 4004 (by decide +kernel), pm_in 4005 (by decide +kernel)⟩
theorem lm_X11_348 : pm_LM RX11 348 yX10_spread cX10_spread 9 none false 2 := pm_LM.of 4010 1009 4007 rfl (by decide +kernel) (by decide +kernel) (by decide +kernel)
theorem li_X10_spread : pm_LI yX10_spread RX10 := ⟨pm_in 4008 (by decide +kernel), pm_in 4009 (by decide +kernel)⟩
theorem lm_X11_351 : pm_LM RX11 351 yX11_kindOfSaid cX11_kindOfSaid 3 (some .int) false 3 := pm_LM.of 4096 1001 5006 rfl (by decide +kernel) (by decide +kernel) (by decide +kernel)
theorem ls_X11_kindOfSaid : pm_LS yX11_kindOfSaid := pm_in 4095 (by decide +kernel)
theorem lm_X11_366 : pm_LM RX11 366 yJ9_abs_0f7a4 cJ9_abs_0f7a4 1 (some .int) false 1 := pm_LM.of 4016 1018 4214 rfl (by decide +kernel) (by decide +kernel) (by decide +kernel)
theorem ls_J9_abs_0f7a4 : pm_LS yJ9_abs_0f7a4 := pm_in 4015 (by decide +kernel)
theorem lm_X11_374 : pm_LM RX11 374 yX0_add cX0_add 5 none false 2 := pm_LM.of 4150 1012 4147 rfl (by decide +kernel) (by decide +kernel) (by decide +kernel)
theorem li_X0_add : pm_LI yX0_add RX0 := ⟨pm_in 4148 (by decide +kernel), pm_in 4149 (by decide +kernel)⟩
theorem lm_X11_377 : pm_LM RX11 377 yX11_gatherOdds cX11_gatherOdds 7 none false 5 := pm_LM.of 4209 1001 4206 rfl (by decide +kernel) (by decide +kernel) (by decide +kernel)
theorem li_X11_gatherOdds : pm_LI yX11_gatherOdds RX11 := ⟨pm_in 4208 (by decide +kernel), pm_in 41 (by decide +kernel)⟩
theorem lm_X11_381 : pm_LM RX11 381 yX11_trySpans cX11_trySpans 4 none false 3 := pm_LM.of 4218 1001 4215 rfl (by decide +kernel) (by decide +kernel) (by decide +kernel)
theorem li_X11_trySpans : pm_LI yX11_trySpans RX11 := ⟨pm_in 4217 (by decide +kernel), pm_in 43 (by decide +kernel)⟩
theorem lm_X11_392 : pm_LM RX11 392 yX11_lotBelow cX11_lotBelow 3 (some .int) false 1 := pm_LM.of 5092 1001 5089 rfl (by decide +kernel) (by decide +kernel) (by decide +kernel)
theorem li_X11_lotBelow : pm_LI yX11_lotBelow RX11 := ⟨pm_in 5091 (by decide +kernel), pm_in 53 (by decide +kernel)⟩
theorem lm_X11_400 : pm_LM RX11 400 yX10_saidAt cX10_saidAt 6 (some .int) false 1 := pm_LM.of 5102 1009 5099 rfl (by decide +kernel) (by decide +kernel) (by decide +kernel)
theorem li_X10_saidAt : pm_LI yX10_saidAt RX10 := ⟨pm_in 5100 (by decide +kernel), pm_in 5101 (by decide +kernel)⟩
theorem lm_X2_38 : pm_LM RX2 38 yX2_push cX2_push 3 none false 1 := pm_LM.of 5062 1006 5059 rfl (by decide +kernel) (by decide +kernel) (by decide +kernel)
theorem li_X2_push : pm_LI yX2_push RX2 := ⟨pm_in 5061 (by decide +kernel), pm_in 49 (by decide +kernel)⟩
theorem lm_X2_42 : pm_LM RX2 42 yX2_applies cX2_applies 6 (some .boolean) false 1 := pm_LM.of 5066 1006 5063 rfl (by decide +kernel) (by decide +kernel) (by decide +kernel)
theorem li_X2_applies : pm_LI yX2_applies RX2 := ⟨pm_in 5065 (by decide +kernel), pm_in 50 (by decide +kernel)⟩
theorem lm_X2_46 : pm_LM RX2 46 yX2_pop cX2_pop 1 (some .long) false 0 := pm_LM.of 5070 1006 5067 rfl (by decide +kernel) (by decide +kernel) (by decide +kernel)
theorem li_X2_pop : pm_LI yX2_pop RX2 := ⟨pm_in 5069 (by decide +kernel), pm_in 51 (by decide +kernel)⟩
theorem lm_X2_50 : pm_LM RX2 50 yX2_bounded cX2_bounded 2 (some .long) false 1 := pm_LM.of 5073 1006 5071 rfl (by decide +kernel) (by decide +kernel) (by decide +kernel)
theorem ls_X2_bounded : pm_LS yX2_bounded := pm_in 5072 (by decide +kernel)
theorem lm_X2_58 : pm_LM RX2 58 yJ9_min_f86c9 cJ9_min_f86c9 4 (some .long) false 2 := pm_LM.of 5078 1018 5076 rfl (by decide +kernel) (by decide +kernel) (by decide +kernel)
theorem ls_J9_min_f86c9 : pm_LS yJ9_min_f86c9 := pm_in 5077 (by decide +kernel)
theorem lm_X2_64 : pm_LM RX2 64 yJ9_max_f86c9 cJ9_max_f86c9 4 (some .long) false 2 := pm_LM.of 4170 1018 5079 rfl (by decide +kernel) (by decide +kernel) (by decide +kernel)
theorem ls_J9_max_f86c9 : pm_LS yJ9_max_f86c9 := pm_in 4169 (by decide +kernel)
theorem lm_X3_19 : pm_LM RX3 19 yX2_clear cX2_clear 1 none false 0 := pm_LM.of 3089 1006 3086 rfl (by decide +kernel) (by decide +kernel) (by decide +kernel)
theorem li_X2_clear : pm_LI yX2_clear RX2 := ⟨pm_in 3087 (by decide +kernel), pm_in 3088 (by decide +kernel)⟩
theorem lm_X3_24 : pm_LM RX3 24 yX9_begin cX9_begin 1 none false 0 := pm_LM.of 2226 1003 3090 rfl (by decide +kernel) (by decide +kernel) (by decide +kernel)
theorem li_X9_begin : pm_LI yX9_begin RX9 := ⟨pm_in 2224 (by decide +kernel), pm_in 2225 (by decide +kernel)⟩
theorem lm_X3_29 : pm_LM RX3 29 yX3_readLine cX3_readLine 4 (some .boolean) false 0 := pm_LM.of 3094 1008 3091 rfl (by decide +kernel) (by decide +kernel) (by decide +kernel)
theorem li_X3_readLine : pm_LI yX3_readLine RX3 := ⟨pm_in 3093 (by decide +kernel), pm_in 11 (by decide +kernel)⟩
theorem lm_X3_40 : pm_LM RX3 40 yX3_readHead cX3_readHead 2 (some .boolean) false 0 := pm_LM.of 3098 1008 3095 rfl (by decide +kernel) (by decide +kernel) (by decide +kernel)
theorem li_X3_readHead : pm_LI yX3_readHead RX3 := ⟨pm_in 3097 (by decide +kernel), pm_in 12 (by decide +kernel)⟩
theorem lm_X3_43 : pm_LM RX3 43 yX9_step cX9_step 2 none false 0 := pm_LM.of 2230 1003 3101 rfl (by decide +kernel) (by decide +kernel) (by decide +kernel)
theorem li_X9_step : pm_LI yX9_step RX9 := ⟨pm_in 2228 (by decide +kernel), pm_in 2229 (by decide +kernel)⟩
theorem lm_X3_46 : pm_LM RX3 46 yX3_readSum cX3_readSum 4 (some .boolean) false 1 := pm_LM.of 3118 1008 3115 rfl (by decide +kernel) (by decide +kernel) (by decide +kernel)
theorem li_X3_readSum : pm_LI yX3_readSum RX3 := ⟨pm_in 3117 (by decide +kernel), pm_in 14 (by decide +kernel)⟩
theorem lm_X3_50 : pm_LM RX3 50 yX3_isComparison cX3_isComparison 1 (some .boolean) false 0 := pm_LM.of 3147 1008 3144 rfl (by decide +kernel) (by decide +kernel) (by decide +kernel)
theorem li_X3_isComparison : pm_LI yX3_isComparison RX3 := ⟨pm_in 3146 (by decide +kernel), pm_in 18 (by decide +kernel)⟩
theorem lm_X3_57 : pm_LM RX3 57 yX2_emit cX2_emit 2 none false 1 := pm_LM.of 3142 1006 3139 rfl (by decide +kernel) (by decide +kernel) (by decide +kernel)
theorem li_X2_emit : pm_LI yX2_emit RX2 := ⟨pm_in 3140 (by decide +kernel), pm_in 3141 (by decide +kernel)⟩
theorem lm_X3_63 : pm_LM RX3 63 yX9_isWord cX9_isWord 3 (some .boolean) false 1 := pm_LM.of 3009 1003 3100 rfl (by decide +kernel) (by decide +kernel) (by decide +kernel)
theorem li_X9_isWord : pm_LI yX9_isWord RX9 := ⟨pm_in 3007 (by decide +kernel), pm_in 3008 (by decide +kernel)⟩
theorem lm_X3_67 : pm_LM RX3 67 yX9_isSign cX9_isSign 2 (some .boolean) false 1 := pm_LM.of 3044 1003 3143 rfl (by decide +kernel) (by decide +kernel) (by decide +kernel)
theorem li_X9_isSign : pm_LI yX9_isSign RX9 := ⟨pm_in 3042 (by decide +kernel), pm_in 3043 (by decide +kernel)⟩
theorem lm_X3_70 : pm_LM RX3 70 yX2_endLine cX2_endLine 1 none false 0 := pm_LM.of 3152 1006 3149 rfl (by decide +kernel) (by decide +kernel) (by decide +kernel)
theorem li_X2_endLine : pm_LI yX2_endLine RX2 := ⟨pm_in 3150 (by decide +kernel), pm_in 3151 (by decide +kernel)⟩
theorem lm_X3_78 : pm_LM RX3 78 yX3_outcomeOfWord cX3_outcomeOfWord 1 (some .int) false 0 := pm_LM.of 3105 1008 3102 rfl (by decide +kernel) (by decide +kernel) (by decide +kernel)
theorem li_X3_outcomeOfWord : pm_LI yX3_outcomeOfWord RX3 := ⟨pm_in 3104 (by decide +kernel), pm_in 13 (by decide +kernel)⟩
theorem lm_X3_82 : pm_LM RX3 82 yX2_beginLine cX2_beginLine 2 none false 1 := pm_LM.of 3113 1006 3110 rfl (by decide +kernel) (by decide +kernel) (by decide +kernel)
theorem li_X2_beginLine : pm_LI yX2_beginLine RX2 := ⟨pm_in 3111 (by decide +kernel), pm_in 3112 (by decide +kernel)⟩
theorem lm_X3_87 : pm_LM RX3 87 yX3_readProduct cX3_readProduct 3 (some .boolean) false 1 := pm_LM.of 3122 1008 3119 rfl (by decide +kernel) (by decide +kernel) (by decide +kernel)
theorem li_X3_readProduct : pm_LI yX3_readProduct RX3 := ⟨pm_in 3121 (by decide +kernel), pm_in 15 (by decide +kernel)⟩
theorem lm_X3_90 : pm_LM RX3 90 yX3_readFactor cX3_readFactor 3 (some .boolean) false 1 := pm_LM.of 3126 1008 3123 rfl (by decide +kernel) (by decide +kernel) (by decide +kernel)
theorem li_X3_readFactor : pm_LI yX3_readFactor RX3 := ⟨pm_in 3125 (by decide +kernel), pm_in 16 (by decide +kernel)⟩
theorem lm_X3_93 : pm_LM RX3 93 yX3_codeOfToken cX3_codeOfToken 1 (some .int) false 0 := pm_LM.of 3130 1008 3127 rfl (by decide +kernel) (by decide +kernel) (by decide +kernel)
theorem li_X3_codeOfToken : pm_LI yX3_codeOfToken RX3 := ⟨pm_in 3129 (by decide +kernel), pm_in 17 (by decide +kernel)⟩
theorem lm_X3_104 : pm_LM RX3 104 yX9_isNumber cX9_isNumber 3 (some .boolean) false 2 := pm_LM.of 3032 1003 3131 rfl (by decide +kernel) (by decide +kernel) (by decide +kernel)
theorem li_X9_isNumber : pm_LI yX9_isNumber RX9 := ⟨pm_in 3030 (by decide +kernel), pm_in 3031 (by decide +kernel)⟩
theorem lm_X4_19 : pm_LM RX4 19 yX0_isNever cX0_isNever 2 (some .boolean) false 0 := pm_LM.of 4158 1012 4155 rfl (by decide +kernel) (by decide +kernel) (by decide +kernel)
theorem li_X0_isNever : pm_LI yX0_isNever RX0 := ⟨pm_in 4156 (by decide +kernel), pm_in 4157 (by decide +kernel)⟩
theorem lm_X4_29 : pm_LM RX4 29 yJ9_min_7cf53 cJ9_min_7cf53 2 (some .int) false 2 := pm_LM.of 4161 1018 4159 rfl (by decide +kernel) (by decide +kernel) (by decide +kernel)
theorem ls_J9_min_7cf53 : pm_LS yJ9_min_7cf53 := pm_in 4160 (by decide +kernel)
theorem lm_X4_35 : pm_LM RX4 35 yX4_roughQuotient cX4_roughQuotient 9 (some .double) false 3 := pm_LM.of 4164 1010 4162 rfl (by decide +kernel) (by decide +kernel) (by decide +kernel)
theorem ls_X4_roughQuotient : pm_LS yX4_roughQuotient := pm_in 4163 (by decide +kernel)
theorem lm_X4_43 : pm_LM RX4 43 yX4_compareExactly cX4_compareExactly 5 (some .int) false 3 := pm_LM.of 4176 1010 4173 rfl (by decide +kernel) (by decide +kernel) (by decide +kernel)
theorem li_X4_compareExactly : pm_LI yX4_compareExactly RX4 := ⟨pm_in 4175 (by decide +kernel), pm_in 38 (by decide +kernel)⟩
theorem lm_X4_47 : pm_LM RX4 47 yX4_factorOf cX4_factorOf 6 (some .long) false 3 := pm_LM.of 4167 1010 4165 rfl (by decide +kernel) (by decide +kernel) (by decide +kernel)
theorem ls_X4_factorOf : pm_LS yX4_factorOf := pm_in 4166 (by decide +kernel)
theorem lm_X4_58 : pm_LM RX4 58 yJ9_max_f86c9 cJ9_max_f86c9 4 (some .long) false 2 := pm_LM.of 4170 1018 4168 rfl (by decide +kernel) (by decide +kernel) (by decide +kernel)
theorem lm_X4_62 : pm_LM RX4 62 yX1_begin cX1_begin 1 none false 0 := pm_LM.of 4180 1011 4177 rfl (by decide +kernel) (by decide +kernel) (by decide +kernel)
theorem li_X1_begin : pm_LI yX1_begin RX1 := ⟨pm_in 4178 (by decide +kernel), pm_in 4179 (by decide +kernel)⟩
theorem lm_X4_65 : pm_LM RX4 65 yX1_times cX1_times 8 none false 1 := pm_LM.of 4184 1011 4181 rfl (by decide +kernel) (by decide +kernel) (by decide +kernel)
theorem li_X1_times : pm_LI yX1_times RX1 := ⟨pm_in 4182 (by decide +kernel), pm_in 4183 (by decide +kernel)⟩
theorem lm_X4_69 : pm_LM RX4 69 yX1_compareWith cX1_compareWith 3 (some .int) false 1 := pm_LM.of 4189 1011 4186 rfl (by decide +kernel) (by decide +kernel) (by decide +kernel)
theorem li_X1_compareWith : pm_LI yX1_compareWith RX1 := ⟨pm_in 4187 (by decide +kernel), pm_in 4188 (by decide +kernel)⟩
theorem lm_X6_38 : pm_LM RX6 38 yX5_clear cX5_clear 1 none false 0 := pm_LM.of 2222 1005 2219 rfl (by decide +kernel) (by decide +kernel) (by decide +kernel)
theorem li_X5_clear : pm_LI yX5_clear RX5 := ⟨pm_in 2220 (by decide +kernel), pm_in 2221 (by decide +kernel)⟩
theorem lm_X6_43 : pm_LM RX6 43 yX9_begin cX9_begin 1 none false 0 := pm_LM.of 2226 1003 2223 rfl (by decide +kernel) (by decide +kernel) (by decide +kernel)
theorem lm_X6_51 : pm_LM RX6 51 yX6_readStatement cX6_readStatement 1 (some .boolean) false 0 := pm_LM.of 3004 1007 3001 rfl (by decide +kernel) (by decide +kernel) (by decide +kernel)
theorem li_X6_readStatement : pm_LI yX6_readStatement RX6 := ⟨pm_in 3003 (by decide +kernel), pm_in 1 (by decide +kernel)⟩
theorem lm_X6_55 : pm_LM RX6 55 yX5_isWhole cX5_isWhole 1 (some .boolean) false 0 := pm_LM.of 3081 1005 3078 rfl (by decide +kernel) (by decide +kernel) (by decide +kernel)
theorem li_X5_isWhole : pm_LI yX5_isWhole RX5 := ⟨pm_in 3079 (by decide +kernel), pm_in 3080 (by decide +kernel)⟩
theorem lm_X6_63 : pm_LM RX6 63 yX9_isWord cX9_isWord 3 (some .boolean) false 1 := pm_LM.of 3009 1003 3006 rfl (by decide +kernel) (by decide +kernel) (by decide +kernel)
theorem lm_X6_67 : pm_LM RX6 67 yX6_readSound cX6_readSound 3 (some .boolean) false 0 := pm_LM.of 3013 1007 3010 rfl (by decide +kernel) (by decide +kernel) (by decide +kernel)
theorem li_X6_readSound : pm_LI yX6_readSound RX6 := ⟨pm_in 3012 (by decide +kernel), pm_in 2 (by decide +kernel)⟩
theorem lm_X6_72 : pm_LM RX6 72 yX6_readVoice cX6_readVoice 1 (some .boolean) false 0 := pm_LM.of 3049 1007 3046 rfl (by decide +kernel) (by decide +kernel) (by decide +kernel)
theorem li_X6_readVoice : pm_LI yX6_readVoice RX6 := ⟨pm_in 3048 (by decide +kernel), pm_in 5 (by decide +kernel)⟩
theorem lm_X6_77 : pm_LM RX6 77 yX6_readFace cX6_readFace 1 (some .boolean) false 0 := pm_LM.of 3058 1007 3055 rfl (by decide +kernel) (by decide +kernel) (by decide +kernel)
theorem li_X6_readFace : pm_LI yX6_readFace RX6 := ⟨pm_in 3057 (by decide +kernel), pm_in 7 (by decide +kernel)⟩
theorem lm_X6_82 : pm_LM RX6 82 yX6_readOdds cX6_readOdds 1 (some .boolean) false 0 := pm_LM.of 3063 1007 3060 rfl (by decide +kernel) (by decide +kernel) (by decide +kernel)
theorem li_X6_readOdds : pm_LI yX6_readOdds RX6 := ⟨pm_in 3062 (by decide +kernel), pm_in 8 (by decide +kernel)⟩
theorem lm_X6_87 : pm_LM RX6 87 yX6_readHold cX6_readHold 2 (some .boolean) false 0 := pm_LM.of 3068 1007 3065 rfl (by decide +kernel) (by decide +kernel) (by decide +kernel)
theorem li_X6_readHold : pm_LI yX6_readHold RX6 := ⟨pm_in 3067 (by decide +kernel), pm_in 9 (by decide +kernel)⟩
theorem lm_X6_92 : pm_LM RX6 92 yX6_readLearn cX6_readLearn 5 (some .boolean) false 0 := pm_LM.of 3073 1007 3070 rfl (by decide +kernel) (by decide +kernel) (by decide +kernel)
theorem li_X6_readLearn : pm_LI yX6_readLearn RX6 := ⟨pm_in 3072 (by decide +kernel), pm_in 10 (by decide +kernel)⟩
theorem lm_X6_98 : pm_LM RX6 98 yX9_step cX9_step 2 none false 0 := pm_LM.of 2230 1003 3014 rfl (by decide +kernel) (by decide +kernel) (by decide +kernel)
theorem lm_X6_101 : pm_LM RX6 101 yX9_isName cX9_isName 2 (some .boolean) false 0 := pm_LM.of 3018 1003 3015 rfl (by decide +kernel) (by decide +kernel) (by decide +kernel)
theorem li_X9_isName : pm_LI yX9_isName RX9 := ⟨pm_in 3016 (by decide +kernel), pm_in 3017 (by decide +kernel)⟩
theorem lm_X6_104 : pm_LM RX6 104 yX6_findName cX6_findName 2 (some .int) false 0 := pm_LM.of 3028 1007 3025 rfl (by decide +kernel) (by decide +kernel) (by decide +kernel)
theorem li_X6_findName : pm_LI yX6_findName RX6 := ⟨pm_in 3027 (by decide +kernel), pm_in 3 (by decide +kernel)⟩
theorem lm_X6_112 : pm_LM RX6 112 yX9_isNumber cX9_isNumber 3 (some .boolean) false 2 := pm_LM.of 3032 1003 3029 rfl (by decide +kernel) (by decide +kernel) (by decide +kernel)
theorem lm_X6_116 : pm_LM RX6 116 yX5_isTaken cX5_isTaken 4 (some .boolean) false 2 := pm_LM.of 3036 1005 3033 rfl (by decide +kernel) (by decide +kernel) (by decide +kernel)
theorem li_X5_isTaken : pm_LI yX5_isTaken RX5 := ⟨pm_in 3034 (by decide +kernel), pm_in 3035 (by decide +kernel)⟩
theorem lm_X6_129 : pm_LM RX6 129 yX6_closes cX6_closes 1 (some .boolean) false 0 := pm_LM.of 3040 1007 3037 rfl (by decide +kernel) (by decide +kernel) (by decide +kernel)
theorem li_X6_closes : pm_LI yX6_closes RX6 := ⟨pm_in 3039 (by decide +kernel), pm_in 4 (by decide +kernel)⟩
theorem lm_X6_135 : pm_LM RX6 135 yX6_readNumbers cX6_readNumbers 5 (some .boolean) false 4 := pm_LM.of 3053 1007 3050 rfl (by decide +kernel) (by decide +kernel) (by decide +kernel)
theorem li_X6_readNumbers : pm_LI yX6_readNumbers RX6 := ⟨pm_in 3052 (by decide +kernel), pm_in 6 (by decide +kernel)⟩
theorem lm_X6_157 : pm_LM RX6 157 yX5_learntOf cX5_learntOf 4 (some .int) false 2 := pm_LM.of 3077 1005 3074 rfl (by decide +kernel) (by decide +kernel) (by decide +kernel)
theorem li_X5_learntOf : pm_LI yX5_learntOf RX5 := ⟨pm_in 3075 (by decide +kernel), pm_in 3076 (by decide +kernel)⟩
theorem lm_X6_167 : pm_LM RX6 167 yX9_isSign cX9_isSign 2 (some .boolean) false 1 := pm_LM.of 3044 1003 3041 rfl (by decide +kernel) (by decide +kernel) (by decide +kernel)
theorem lm_X7_51 : pm_LM RX7 51 yX7_addPerson cX7_addPerson 5 (some .int) false 4 := pm_LM.of 3165 1004 3162 rfl (by decide +kernel) (by decide +kernel) (by decide +kernel)
theorem lm_X7_55 : pm_LM RX7 55 yX7_changePerson cX7_changePerson 5 none false 4 := pm_LM.of 3169 1004 3166 rfl (by decide +kernel) (by decide +kernel) (by decide +kernel)
theorem lm_X9_27 : pm_LM RX9 27 yX9_step cX9_step 2 none false 0 := pm_LM.of 2230 1003 2227 rfl (by decide +kernel) (by decide +kernel) (by decide +kernel)
theorem lm_X9_39 : pm_LM RX9 39 yX9_sortOf cX9_sortOf 1 (some .int) false 1 := pm_LM.of 2233 1003 2231 rfl (by decide +kernel) (by decide +kernel) (by decide +kernel)
theorem ls_X9_sortOf : pm_LS yX9_sortOf := pm_in 2232 (by decide +kernel)
theorem lm_X9_43 : pm_LM RX9 43 yX9_take cX9_take 2 none false 1 := pm_LM.of 2237 1003 2234 rfl (by decide +kernel) (by decide +kernel) (by decide +kernel)
theorem li_X9_take : pm_LI yX9_take RX9 := ⟨pm_in 2236 (by decide +kernel), pm_in 0 (by decide +kernel)⟩
theorem lm_X10_69 : pm_LM RX10 69 yJ9_max_7cf53 cJ9_max_7cf53 2 (some .int) false 2 := pm_LM.of 4013 1018 4011 rfl (by decide +kernel) (by decide +kernel) (by decide +kernel)
theorem ls_J9_max_7cf53 : pm_LS yJ9_max_7cf53 := pm_in 4012 (by decide +kernel)
theorem lm_X10_86 : pm_LM RX10 86 yJ9_abs_0f7a4 cJ9_abs_0f7a4 1 (some .int) false 1 := pm_LM.of 4016 1018 4014 rfl (by decide +kernel) (by decide +kernel) (by decide +kernel)
theorem lm_X10_96 : pm_LM RX10 96 yX10_farFrom cX10_farFrom 4 (some .int) false 3 := pm_LM.of 4020 1009 4017 rfl (by decide +kernel) (by decide +kernel) (by decide +kernel)
theorem li_X10_farFrom : pm_LI yX10_farFrom RX10 := ⟨pm_in 4019 (by decide +kernel), pm_in 26 (by decide +kernel)⟩
theorem lm_X10_103 : pm_LM RX10 103 yX10_weighFace cX10_weighFace 2 none false 0 := pm_LM.of 4032 1009 4029 rfl (by decide +kernel) (by decide +kernel) (by decide +kernel)
theorem li_X10_weighFace : pm_LI yX10_weighFace RX10 := ⟨pm_in 4031 (by decide +kernel), pm_in 27 (by decide +kernel)⟩
theorem lm_X10_106 : pm_LM RX10 106 yX10_weighSurer cX10_weighSurer 5 none false 0 := pm_LM.of 4036 1009 4033 rfl (by decide +kernel) (by decide +kernel) (by decide +kernel)
theorem li_X10_weighSurer : pm_LI yX10_weighSurer RX10 := ⟨pm_in 4035 (by decide +kernel), pm_in 28 (by decide +kernel)⟩
theorem lm_X10_109 : pm_LM RX10 109 yX10_weighOne cX10_weighOne 2 none false 0 := pm_LM.of 4052 1009 4049 rfl (by decide +kernel) (by decide +kernel) (by decide +kernel)
theorem li_X10_weighOne : pm_LI yX10_weighOne RX10 := ⟨pm_in 4051 (by decide +kernel), pm_in 31 (by decide +kernel)⟩
theorem lm_X10_112 : pm_LM RX10 112 yX10_weighOdds cX10_weighOdds 6 none false 0 := pm_LM.of 4056 1009 4053 rfl (by decide +kernel) (by decide +kernel) (by decide +kernel)
theorem li_X10_weighOdds : pm_LI yX10_weighOdds RX10 := ⟨pm_in 4055 (by decide +kernel), pm_in 32 (by decide +kernel)⟩
theorem lm_X10_115 : pm_LM RX10 115 yX10_weighLearnt cX10_weighLearnt 2 none false 0 := pm_LM.of 4061 1009 4058 rfl (by decide +kernel) (by decide +kernel) (by decide +kernel)
theorem li_X10_weighLearnt : pm_LI yX10_weighLearnt RX10 := ⟨pm_in 4060 (by decide +kernel), pm_in 33 (by decide +kernel)⟩
theorem lm_X10_118 : pm_LM RX10 118 yX10_soundBetween cX10_soundBetween 5 (some .int) false 0 := pm_LM.of 4070 1009 4067 rfl (by decide +kernel) (by decide +kernel) (by decide +kernel)
theorem li_X10_soundBetween : pm_LI yX10_soundBetween RX10 := ⟨pm_in 4069 (by decide +kernel), pm_in 35 (by decide +kernel)⟩
theorem lm_X10_122 : pm_LM RX10 122 yX10_weighSingle cX10_weighSingle 3 none false 1 := pm_LM.of 4066 1009 4063 rfl (by decide +kernel) (by decide +kernel) (by decide +kernel)
theorem li_X10_weighSingle : pm_LI yX10_weighSingle RX10 := ⟨pm_in 4065 (by decide +kernel), pm_in 34 (by decide +kernel)⟩
theorem lm_X10_126 : pm_LM RX10 126 yX10_weighVoice cX10_weighVoice 2 none false 0 := pm_LM.of 4048 1009 4045 rfl (by decide +kernel) (by decide +kernel) (by decide +kernel)
theorem li_X10_weighVoice : pm_LI yX10_weighVoice RX10 := ⟨pm_in 4047 (by decide +kernel), pm_in 30 (by decide +kernel)⟩
theorem lm_X10_129 : pm_LM RX10 129 yX10_greatestWeight cX10_greatestWeight 1 (some .long) false 0 := pm_LM.of 4040 1009 4037 rfl (by decide +kernel) (by decide +kernel) (by decide +kernel)
theorem li_X10_greatestWeight : pm_LI yX10_greatestWeight RX10 := ⟨pm_in 4039 (by decide +kernel), pm_in 29 (by decide +kernel)⟩
theorem lm_X10_135 : pm_LM RX10 135 yX5_learntOf cX5_learntOf 4 (some .int) false 2 := pm_LM.of 3077 1005 4062 rfl (by decide +kernel) (by decide +kernel) (by decide +kernel)
theorem lm_X10_138 : pm_LM RX10 138 yX10_mostLikely cX10_mostLikely 3 (some .int) false 0 := pm_LM.of 4044 1009 4041 rfl (by decide +kernel) (by decide +kernel) (by decide +kernel)
theorem lm_X10_148 : pm_LM RX10 148 yX10_weigh cX10_weigh 2 none false 1 := pm_LM.of 4028 1009 5034 rfl (by decide +kernel) (by decide +kernel) (by decide +kernel)
theorem lm_X10_151 : pm_LM RX10 151 yJ9_abs_067f4 cJ9_abs_067f4 2 (some .long) false 1 := pm_LM.of 5037 1018 5035 rfl (by decide +kernel) (by decide +kernel) (by decide +kernel)
theorem ls_J9_abs_067f4 : pm_LS yJ9_abs_067f4 := pm_in 5036 (by decide +kernel)
theorem lm_L_9 : pm_LM RL 9 yX11_init cX11_init 3 none false 0 := pm_LM.of 1023 1001 1021 rfl (by decide +kernel) (by decide +kernel) (by decide +kernel)
theorem ln_X11_init : Cond.instanceMethod yX11_init ∈ pm_all := pm_in 1022 (by decide +kernel)
theorem lm_L_12 : pm_LM RL 12 yX12_init cX12_init 1 none false 0 := pm_LM.of 5119 1013 5117 rfl (by decide +kernel) (by decide +kernel) (by decide +kernel)
theorem ln_X12_init : Cond.instanceMethod yX12_init ∈ pm_all := pm_in 5118 (by decide +kernel)
theorem lm_L_13 : pm_LM RL 13 yX11_feed cX11_feed 6 (some .int) false 5 := pm_LM.of 2202 1001 2199 rfl (by decide +kernel) (by decide +kernel) (by decide +kernel)
theorem li_X11_feed : pm_LI yX11_feed RX11 := ⟨pm_in 2200 (by decide +kernel), pm_in 2201 (by decide +kernel)⟩
theorem lm_L_17 : pm_LM RL 17 yX12_feed cX12_feed 8 (some .int) false 5 := pm_LM.of 6060 1013 6057 rfl (by decide +kernel) (by decide +kernel) (by decide +kernel)
theorem li_X12_feed : pm_LI yX12_feed RX12 := ⟨pm_in 6058 (by decide +kernel), pm_in 6059 (by decide +kernel)⟩
theorem lm_L_18 : pm_LM RL 18 yX11_end cX11_end 2 (some .boolean) false 1 := pm_LM.of 2210 1001 2207 rfl (by decide +kernel) (by decide +kernel) (by decide +kernel)
theorem li_X11_end : pm_LI yX11_end RX11 := ⟨pm_in 2208 (by decide +kernel), pm_in 2209 (by decide +kernel)⟩
theorem lm_L_22 : pm_LM RL 22 yX12_end cX12_end 2 (some .boolean) false 1 := pm_LM.of 6064 1013 6061 rfl (by decide +kernel) (by decide +kernel) (by decide +kernel)
theorem li_X12_end : pm_LI yX12_end RX12 := ⟨pm_in 6062 (by decide +kernel), pm_in 6063 (by decide +kernel)⟩
theorem lm_L_23 : pm_LM RL 23 yX11_fault cX11_fault 2 (some .int) false 1 := pm_LM.of 2214 1001 2211 rfl (by decide +kernel) (by decide +kernel) (by decide +kernel)
theorem li_X11_fault : pm_LI yX11_fault RX11 := ⟨pm_in 2212 (by decide +kernel), pm_in 2213 (by decide +kernel)⟩
theorem lm_L_27 : pm_LM RL 27 yX12_fault cX12_fault 2 (some .int) false 1 := pm_LM.of 6200 1013 6197 rfl (by decide +kernel) (by decide +kernel) (by decide +kernel)
theorem li_X12_fault : pm_LI yX12_fault RX12 := ⟨pm_in 6198 (by decide +kernel), pm_in 6199 (by decide +kernel)⟩
theorem lm_L_28 : pm_LM RL 28 yX11_scene cX11_scene 3 (some .int) false 0 := pm_LM.of 3157 1001 3154 rfl (by decide +kernel) (by decide +kernel) (by decide +kernel)
theorem li_X11_scene : pm_LI yX11_scene RX11 := ⟨pm_in 3155 (by decide +kernel), pm_in 3156 (by decide +kernel)⟩
theorem lm_L_32 : pm_LM RL 32 yX12_scene cX12_scene 2 (some .int) false 0 := pm_LM.of 6071 1013 6068 rfl (by decide +kernel) (by decide +kernel) (by decide +kernel)
theorem li_X12_scene : pm_LI yX12_scene RX12 := ⟨pm_in 6069 (by decide +kernel), pm_in 6070 (by decide +kernel)⟩
theorem lm_L_33 : pm_LM RL 33 yX11_rules cX11_rules 2 (some .int) false 0 := pm_LM.of 3173 1001 3170 rfl (by decide +kernel) (by decide +kernel) (by decide +kernel)
theorem li_X11_rules : pm_LI yX11_rules RX11 := ⟨pm_in 3171 (by decide +kernel), pm_in 3172 (by decide +kernel)⟩
theorem lm_L_36 : pm_LM RL 36 yX12_rules cX12_rules 2 (some .int) false 0 := pm_LM.of 7004 1013 7001 rfl (by decide +kernel) (by decide +kernel) (by decide +kernel)
theorem li_X12_rules : pm_LI yX12_rules RX12 := ⟨pm_in 7002 (by decide +kernel), pm_in 7003 (by decide +kernel)⟩
theorem lm_L_37 : pm_LM RL 37 yX11_sound cX11_sound 3 (some .int) false 2 := pm_LM.of 3177 1001 3174 rfl (by decide +kernel) (by decide +kernel) (by decide +kernel)
theorem li_X11_sound : pm_LI yX11_sound RX11 := ⟨pm_in 3175 (by decide +kernel), pm_in 3176 (by decide +kernel)⟩
theorem lm_L_41 : pm_LM RL 41 yX12_sound cX12_sound 3 (some .int) false 2 := pm_LM.of 7008 1013 7005 rfl (by decide +kernel) (by decide +kernel) (by decide +kernel)
theorem li_X12_sound : pm_LI yX12_sound RX12 := ⟨pm_in 7006 (by decide +kernel), pm_in 7007 (by decide +kernel)⟩
theorem lm_L_42 : pm_LM RL 42 yX11_person cX11_person 5 (some .int) false 3 := pm_LM.of 3193 1001 3190 rfl (by decide +kernel) (by decide +kernel) (by decide +kernel)
theorem li_X11_person : pm_LI yX11_person RX11 := ⟨pm_in 3191 (by decide +kernel), pm_in 3192 (by decide +kernel)⟩
theorem lm_L_46 : pm_LM RL 46 yX12_person cX12_person 4 (some .int) false 3 := pm_LM.of 7012 1013 7009 rfl (by decide +kernel) (by decide +kernel) (by decide +kernel)
theorem li_X12_person : pm_LI yX12_person RX12 := ⟨pm_in 7010 (by decide +kernel), pm_in 7011 (by decide +kernel)⟩
theorem lm_L_47 : pm_LM RL 47 yX11_who cX11_who 3 (some .int) false 2 := pm_LM.of 3204 1001 3201 rfl (by decide +kernel) (by decide +kernel) (by decide +kernel)
theorem li_X11_who : pm_LI yX11_who RX11 := ⟨pm_in 3202 (by decide +kernel), pm_in 3203 (by decide +kernel)⟩
theorem lm_L_50 : pm_LM RL 50 yX12_who cX12_who 3 (some .int) false 2 := pm_LM.of 7019 1013 7016 rfl (by decide +kernel) (by decide +kernel) (by decide +kernel)
theorem li_X12_who : pm_LI yX12_who RX12 := ⟨pm_in 7017 (by decide +kernel), pm_in 7018 (by decide +kernel)⟩
theorem lm_L_51 : pm_LM RL 51 yX11_becomes cX11_becomes 5 (some .boolean) false 4 := pm_LM.of 3212 1001 3209 rfl (by decide +kernel) (by decide +kernel) (by decide +kernel)
theorem li_X11_becomes : pm_LI yX11_becomes RX11 := ⟨pm_in 3210 (by decide +kernel), pm_in 3211 (by decide +kernel)⟩
theorem lm_L_55 : pm_LM RL 55 yX12_becomes cX12_becomes 5 (some .boolean) false 4 := pm_LM.of 7027 1013 7024 rfl (by decide +kernel) (by decide +kernel) (by decide +kernel)
theorem li_X12_becomes : pm_LI yX12_becomes RX12 := ⟨pm_in 7025 (by decide +kernel), pm_in 7026 (by decide +kernel)⟩
theorem lm_L_56 : pm_LM RL 56 yX11_weight cX11_weight 7 (some .int) false 5 := pm_LM.of 3217 1001 3214 rfl (by decide +kernel) (by decide +kernel) (by decide +kernel)
theorem li_X11_weight : pm_LI yX11_weight RX11 := ⟨pm_in 3215 (by decide +kernel), pm_in 3216 (by decide +kernel)⟩
theorem lm_L_59 : pm_LM RL 59 yX12_weight cX12_weight 6 (some .int) false 5 := pm_LM.of 7031 1013 7028 rfl (by decide +kernel) (by decide +kernel) (by decide +kernel)
theorem li_X12_weight : pm_LI yX12_weight RX12 := ⟨pm_in 7029 (by decide +kernel), pm_in 7030 (by decide +kernel)⟩
theorem lm_L_60 : pm_LM RL 60 yX11_chance cX11_chance 6 (some .int) false 5 := pm_LM.of 4074 1001 4071 rfl (by decide +kernel) (by decide +kernel) (by decide +kernel)
theorem li_X11_chance : pm_LI yX11_chance RX11 := ⟨pm_in 4072 (by decide +kernel), pm_in 4073 (by decide +kernel)⟩
theorem lm_L_63 : pm_LM RL 63 yX12_chance cX12_chance 6 (some .int) false 5 := pm_LM.of 7087 1013 7084 rfl (by decide +kernel) (by decide +kernel) (by decide +kernel)
theorem li_X12_chance : pm_LI yX12_chance RX12 := ⟨pm_in 7085 (by decide +kernel), pm_in 7086 (by decide +kernel)⟩
theorem lm_L_64 : pm_LM RL 64 yX11_kind cX11_kind 6 (some .int) false 5 := pm_LM.of 4086 1001 4083 rfl (by decide +kernel) (by decide +kernel) (by decide +kernel)
theorem li_X11_kind : pm_LI yX11_kind RX11 := ⟨pm_in 4084 (by decide +kernel), pm_in 4085 (by decide +kernel)⟩
theorem lm_L_67 : pm_LM RL 67 yX12_kind cX12_kind 6 (some .int) false 5 := pm_LM.of 7096 1013 7093 rfl (by decide +kernel) (by decide +kernel) (by decide +kernel)
theorem li_X12_kind : pm_LI yX12_kind RX12 := ⟨pm_in 7094 (by decide +kernel), pm_in 7095 (by decide +kernel)⟩
theorem lm_L_68 : pm_LM RL 68 yX11_likely cX11_likely 5 (some .int) false 4 := pm_LM.of 4100 1001 4097 rfl (by decide +kernel) (by decide +kernel) (by decide +kernel)
theorem li_X11_likely : pm_LI yX11_likely RX11 := ⟨pm_in 4098 (by decide +kernel), pm_in 4099 (by decide +kernel)⟩
theorem lm_L_72 : pm_LM RL 72 yX12_likely cX12_likely 5 (some .int) false 4 := pm_LM.of 7108 1013 7105 rfl (by decide +kernel) (by decide +kernel) (by decide +kernel)
theorem li_X12_likely : pm_LI yX12_likely RX12 := ⟨pm_in 7106 (by decide +kernel), pm_in 7107 (by decide +kernel)⟩
theorem lm_L_73 : pm_LM RL 73 yX11_noticed cX11_noticed 4 (some .int) false 3 := pm_LM.of 4105 1001 4102 rfl (by decide +kernel) (by decide +kernel) (by decide +kernel)
theorem li_X11_noticed : pm_LI yX11_noticed RX11 := ⟨pm_in 4103 (by decide +kernel), pm_in 4104 (by decide +kernel)⟩
theorem lm_L_76 : pm_LM RL 76 yX12_noticed cX12_noticed 4 (some .int) false 3 := pm_LM.of 7116 1013 7113 rfl (by decide +kernel) (by decide +kernel) (by decide +kernel)
theorem li_X12_noticed : pm_LI yX12_noticed RX12 := ⟨pm_in 7114 (by decide +kernel), pm_in 7115 (by decide +kernel)⟩
theorem lm_L_77 : pm_LM RL 77 yX11_answer cX11_answer 6 (some .int) false 4 := pm_LM.of 4113 1001 4110 rfl (by decide +kernel) (by decide +kernel) (by decide +kernel)
theorem li_X11_answer : pm_LI yX11_answer RX11 := ⟨pm_in 4111 (by decide +kernel), pm_in 4112 (by decide +kernel)⟩
theorem lm_L_80 : pm_LM RL 80 yX12_answer cX12_answer 5 (some .int) false 4 := pm_LM.of 7124 1013 7121 rfl (by decide +kernel) (by decide +kernel) (by decide +kernel)
theorem li_X12_answer : pm_LI yX12_answer RX12 := ⟨pm_in 7122 (by decide +kernel), pm_in 7123 (by decide +kernel)⟩
theorem lm_L_81 : pm_LM RL 81 yX11_undo cX11_undo 1 (some .int) false 0 := pm_LM.of 4121 1001 4118 rfl (by decide +kernel) (by decide +kernel) (by decide +kernel)
theorem li_X11_undo : pm_LI yX11_undo RX11 := ⟨pm_in 4119 (by decide +kernel), pm_in 4120 (by decide +kernel)⟩
theorem lm_L_84 : pm_LM RL 84 yX12_undo cX12_undo 1 (some .int) false 0 := pm_LM.of 7132 1013 7129 rfl (by decide +kernel) (by decide +kernel) (by decide +kernel)
theorem li_X12_undo : pm_LI yX12_undo RX12 := ⟨pm_in 7130 (by decide +kernel), pm_in 7131 (by decide +kernel)⟩
theorem lm_L_85 : pm_LM RL 85 yX11_of cX11_of 3 (some .int) false 2 := pm_LM.of 4125 1001 4122 rfl (by decide +kernel) (by decide +kernel) (by decide +kernel)
theorem li_X11_of : pm_LI yX11_of RX11 := ⟨pm_in 4123 (by decide +kernel), pm_in 4124 (by decide +kernel)⟩
theorem lm_L_88 : pm_LM RL 88 yX12_of cX12_of 3 (some .int) false 2 := pm_LM.of 7136 1013 7133 rfl (by decide +kernel) (by decide +kernel) (by decide +kernel)
theorem li_X12_of : pm_LI yX12_of RX12 := ⟨pm_in 7134 (by decide +kernel), pm_in 7135 (by decide +kernel)⟩
theorem lm_L_89 : pm_LM RL 89 yX11_more cX11_more 5 (some .int) false 3 := pm_LM.of 4138 1001 4135 rfl (by decide +kernel) (by decide +kernel) (by decide +kernel)
theorem li_X11_more : pm_LI yX11_more RX11 := ⟨pm_in 4136 (by decide +kernel), pm_in 4137 (by decide +kernel)⟩
theorem lm_L_92 : pm_LM RL 92 yX12_more cX12_more 5 (some .int) false 3 := pm_LM.of 7144 1013 7141 rfl (by decide +kernel) (by decide +kernel) (by decide +kernel)
theorem li_X12_more : pm_LI yX12_more RX12 := ⟨pm_in 7142 (by decide +kernel), pm_in 7143 (by decide +kernel)⟩
theorem lm_L_93 : pm_LM RL 93 yX11_best cX11_best 4 (some .int) false 1 := pm_LM.of 4193 1001 4190 rfl (by decide +kernel) (by decide +kernel) (by decide +kernel)
theorem li_X11_best : pm_LI yX11_best RX11 := ⟨pm_in 4191 (by decide +kernel), pm_in 4192 (by decide +kernel)⟩
theorem lm_L_96 : pm_LM RL 96 yX12_best cX12_best 4 (some .int) false 1 := pm_LM.of 7181 1013 7178 rfl (by decide +kernel) (by decide +kernel) (by decide +kernel)
theorem li_X12_best : pm_LI yX12_best RX12 := ⟨pm_in 7179 (by decide +kernel), pm_in 7180 (by decide +kernel)⟩
theorem lm_L_97 : pm_LM RL 97 yX11_own cX11_own 3 (some .int) false 2 := pm_LM.of 4201 1001 4198 rfl (by decide +kernel) (by decide +kernel) (by decide +kernel)
theorem li_X11_own : pm_LI yX11_own RX11 := ⟨pm_in 4199 (by decide +kernel), pm_in 4200 (by decide +kernel)⟩
theorem lm_L_100 : pm_LM RL 100 yX12_own cX12_own 12 (some .int) false 2 := pm_LM.of 7185 1013 7182 rfl (by decide +kernel) (by decide +kernel) (by decide +kernel)
theorem li_X12_own : pm_LI yX12_own RX12 := ⟨pm_in 7183 (by decide +kernel), pm_in 7184 (by decide +kernel)⟩
theorem lm_L_101 : pm_LM RL 101 yX11_share cX11_share 8 (some .int) false 2 := pm_LM.of 4222 1001 4219 rfl (by decide +kernel) (by decide +kernel) (by decide +kernel)
theorem li_X11_share : pm_LI yX11_share RX11 := ⟨pm_in 4220 (by decide +kernel), pm_in 4221 (by decide +kernel)⟩
theorem lm_L_104 : pm_LM RL 104 yX12_share cX12_share 6 (some .int) false 2 := pm_LM.of 7189 1013 7186 rfl (by decide +kernel) (by decide +kernel) (by decide +kernel)
theorem li_X12_share : pm_LI yX12_share RX12 := ⟨pm_in 7187 (by decide +kernel), pm_in 7188 (by decide +kernel)⟩
theorem lm_L_105 : pm_LM RL 105 yX11_foretold cX11_foretold 8 (some .int) false 3 := pm_LM.of 4237 1001 4234 rfl (by decide +kernel) (by decide +kernel) (by decide +kernel)
theorem li_X11_foretold : pm_LI yX11_foretold RX11 := ⟨pm_in 4235 (by decide +kernel), pm_in 4236 (by decide +kernel)⟩
theorem lm_L_108 : pm_LM RL 108 yX12_foretold cX12_foretold 7 (some .int) false 3 := pm_LM.of 7197 1013 7194 rfl (by decide +kernel) (by decide +kernel) (by decide +kernel)
theorem li_X12_foretold : pm_LI yX12_foretold RX12 := ⟨pm_in 7195 (by decide +kernel), pm_in 7196 (by decide +kernel)⟩
theorem lm_L_109 : pm_LM RL 109 yX11_pairs cX11_pairs 10 (some .int) false 5 := pm_LM.of 5001 1001 4238 rfl (by decide +kernel) (by decide +kernel) (by decide +kernel)
theorem li_X11_pairs : pm_LI yX11_pairs RX11 := ⟨pm_in 4239 (by decide +kernel), pm_in 5000 (by decide +kernel)⟩
theorem lm_L_112 : pm_LM RL 112 yX12_pairs cX12_pairs 9 (some .int) false 5 := pm_LM.of 7201 1013 7198 rfl (by decide +kernel) (by decide +kernel) (by decide +kernel)
theorem li_X12_pairs : pm_LI yX12_pairs RX12 := ⟨pm_in 7199 (by decide +kernel), pm_in 7200 (by decide +kernel)⟩
theorem lm_L_113 : pm_LM RL 113 yX11_hump cX11_hump 7 (some .int) false 3 := pm_LM.of 5010 1001 5007 rfl (by decide +kernel) (by decide +kernel) (by decide +kernel)
theorem li_X11_hump : pm_LI yX11_hump RX11 := ⟨pm_in 5008 (by decide +kernel), pm_in 5009 (by decide +kernel)⟩
theorem lm_L_116 : pm_LM RL 116 yX12_hump cX12_hump 6 (some .int) false 3 := pm_LM.of 7205 1013 7202 rfl (by decide +kernel) (by decide +kernel) (by decide +kernel)
theorem li_X12_hump : pm_LI yX12_hump RX12 := ⟨pm_in 7203 (by decide +kernel), pm_in 7204 (by decide +kernel)⟩
theorem lm_L_117 : pm_LM RL 117 yX11_right cX11_right 4 (some .int) false 3 := pm_LM.of 5014 1001 5011 rfl (by decide +kernel) (by decide +kernel) (by decide +kernel)
theorem li_X11_right : pm_LI yX11_right RX11 := ⟨pm_in 5012 (by decide +kernel), pm_in 5013 (by decide +kernel)⟩
theorem lm_L_120 : pm_LM RL 120 yX12_right cX12_right 4 (some .int) false 3 := pm_LM.of 7213 1013 7210 rfl (by decide +kernel) (by decide +kernel) (by decide +kernel)
theorem li_X12_right : pm_LI yX12_right RX12 := ⟨pm_in 7211 (by decide +kernel), pm_in 7212 (by decide +kernel)⟩
theorem lm_L_121 : pm_LM RL 121 yX11_worth cX11_worth 7 (some .int) false 3 := pm_LM.of 5022 1001 5019 rfl (by decide +kernel) (by decide +kernel) (by decide +kernel)
theorem li_X11_worth : pm_LI yX11_worth RX11 := ⟨pm_in 5020 (by decide +kernel), pm_in 5021 (by decide +kernel)⟩
theorem lm_L_124 : pm_LM RL 124 yX12_worth cX12_worth 6 (some .int) false 3 := pm_LM.of 7225 1013 7222 rfl (by decide +kernel) (by decide +kernel) (by decide +kernel)
theorem li_X12_worth : pm_LI yX12_worth RX12 := ⟨pm_in 7223 (by decide +kernel), pm_in 7224 (by decide +kernel)⟩
theorem lm_L_125 : pm_LM RL 125 yX11_parted cX11_parted 5 (some .int) false 4 := pm_LM.of 5026 1001 5023 rfl (by decide +kernel) (by decide +kernel) (by decide +kernel)
theorem li_X11_parted : pm_LI yX11_parted RX11 := ⟨pm_in 5024 (by decide +kernel), pm_in 5025 (by decide +kernel)⟩
theorem lm_L_128 : pm_LM RL 128 yX12_parted cX12_parted 5 (some .int) false 4 := pm_LM.of 7229 1013 7226 rfl (by decide +kernel) (by decide +kernel) (by decide +kernel)
theorem li_X12_parted : pm_LI yX12_parted RX12 := ⟨pm_in 7227 (by decide +kernel), pm_in 7228 (by decide +kernel)⟩
theorem lm_L_129 : pm_LM RL 129 yX11_next cX11_next 12 (some .int) false 4 := pm_LM.of 5042 1001 5039 rfl (by decide +kernel) (by decide +kernel) (by decide +kernel)
theorem li_X11_next : pm_LI yX11_next RX11 := ⟨pm_in 5040 (by decide +kernel), pm_in 5041 (by decide +kernel)⟩
theorem lm_L_132 : pm_LM RL 132 yX12_next cX12_next 11 (some .int) false 4 := pm_LM.of 8001 1013 7238 rfl (by decide +kernel) (by decide +kernel) (by decide +kernel)
theorem li_X12_next : pm_LI yX12_next RX12 := ⟨pm_in 7239 (by decide +kernel), pm_in 8000 (by decide +kernel)⟩
theorem lm_L_133 : pm_LM RL 133 yX11_knowing cX11_knowing 6 (some .int) false 4 := pm_LM.of 5046 1001 5043 rfl (by decide +kernel) (by decide +kernel) (by decide +kernel)
theorem li_X11_knowing : pm_LI yX11_knowing RX11 := ⟨pm_in 5044 (by decide +kernel), pm_in 5045 (by decide +kernel)⟩
theorem lm_L_136 : pm_LM RL 136 yX12_knowing cX12_knowing 6 (some .int) false 4 := pm_LM.of 8005 1013 8002 rfl (by decide +kernel) (by decide +kernel) (by decide +kernel)
theorem li_X12_knowing : pm_LI yX12_knowing RX12 := ⟨pm_in 8003 (by decide +kernel), pm_in 8004 (by decide +kernel)⟩
theorem lm_L_137 : pm_LM RL 137 yX11_called cX11_called 6 (some .int) false 4 := pm_LM.of 5050 1001 5047 rfl (by decide +kernel) (by decide +kernel) (by decide +kernel)
theorem li_X11_called : pm_LI yX11_called RX11 := ⟨pm_in 5048 (by decide +kernel), pm_in 5049 (by decide +kernel)⟩
theorem lm_L_140 : pm_LM RL 140 yX12_called cX12_called 13 (some .int) false 4 := pm_LM.of 8009 1013 8006 rfl (by decide +kernel) (by decide +kernel) (by decide +kernel)
theorem li_X12_called : pm_LI yX12_called RX12 := ⟨pm_in 8007 (by decide +kernel), pm_in 8008 (by decide +kernel)⟩
theorem lm_L_141 : pm_LM RL 141 yX11_draw cX11_draw 7 (some .int) false 4 := pm_LM.of 5083 1001 5080 rfl (by decide +kernel) (by decide +kernel) (by decide +kernel)
theorem li_X11_draw : pm_LI yX11_draw RX11 := ⟨pm_in 5081 (by decide +kernel), pm_in 5082 (by decide +kernel)⟩
theorem lm_L_144 : pm_LM RL 144 yX12_draw cX12_draw 16 (some .int) false 4 := pm_LM.of 8022 1013 8019 rfl (by decide +kernel) (by decide +kernel) (by decide +kernel)
theorem li_X12_draw : pm_LI yX12_draw RX12 := ⟨pm_in 8020 (by decide +kernel), pm_in 8021 (by decide +kernel)⟩
theorem lm_L_145 : pm_LM RL 145 yX11_image cX11_image 2 (some .boolean) false 1 := pm_LM.of 5106 1001 5103 rfl (by decide +kernel) (by decide +kernel) (by decide +kernel)
theorem li_X11_image : pm_LI yX11_image RX11 := ⟨pm_in 5104 (by decide +kernel), pm_in 5105 (by decide +kernel)⟩
theorem lm_L_148 : pm_LM RL 148 yX12_image cX12_image 3 (some .boolean) false 1 := pm_LM.of 8036 1013 8033 rfl (by decide +kernel) (by decide +kernel) (by decide +kernel)
theorem li_X12_image : pm_LI yX12_image RX12 := ⟨pm_in 8034 (by decide +kernel), pm_in 8035 (by decide +kernel)⟩
theorem lm_L_149 : pm_LM RL 149 yX11_back cX11_back 2 (some .boolean) false 1 := pm_LM.of 5114 1001 5111 rfl (by decide +kernel) (by decide +kernel) (by decide +kernel)
theorem li_X11_back : pm_LI yX11_back RX11 := ⟨pm_in 5112 (by decide +kernel), pm_in 5113 (by decide +kernel)⟩
theorem lm_L_152 : pm_LM RL 152 yX12_back cX12_back 3 (some .boolean) false 1 := pm_LM.of 8040 1013 8037 rfl (by decide +kernel) (by decide +kernel) (by decide +kernel)
theorem li_X12_back : pm_LI yX12_back RX12 := ⟨pm_in 8038 (by decide +kernel), pm_in 8039 (by decide +kernel)⟩
theorem lm_L_153 : pm_LM RL 153 yX11_count cX11_count 2 (some .int) false 1 := pm_LM.of 3185 1001 3182 rfl (by decide +kernel) (by decide +kernel) (by decide +kernel)
theorem li_X11_count : pm_LI yX11_count RX11 := ⟨pm_in 3183 (by decide +kernel), pm_in 3184 (by decide +kernel)⟩
theorem lm_L_156 : pm_LM RL 156 yX12_count cX12_count 2 (some .int) false 1 := pm_LM.of 8044 1013 8041 rfl (by decide +kernel) (by decide +kernel) (by decide +kernel)
theorem li_X12_count : pm_LI yX12_count RX12 := ⟨pm_in 8042 (by decide +kernel), pm_in 8043 (by decide +kernel)⟩
theorem lm_X12_98 : pm_LM RX12 98 yX12_in cX12_in 3 (some .boolean) false 3 := pm_LM.of 6067 1013 6065 rfl (by decide +kernel) (by decide +kernel) (by decide +kernel)
theorem ls_X12_in : pm_LS yX12_in := pm_in 6066 (by decide +kernel)
theorem lm_X12_115 : pm_LM RX12 115 yX12_isLetter cX12_isLetter 1 (some .boolean) false 1 := pm_LM.of 6082 1013 6080 rfl (by decide +kernel) (by decide +kernel) (by decide +kernel)
theorem ls_X12_isLetter : pm_LS yX12_isLetter := pm_in 6081 (by decide +kernel)
theorem lm_X12_119 : pm_LM RX12 119 yX12_isDigit cX12_isDigit 1 (some .boolean) false 1 := pm_LM.of 6085 1013 6083 rfl (by decide +kernel) (by decide +kernel) (by decide +kernel)
theorem ls_X12_isDigit : pm_LS yX12_isDigit := pm_in 6084 (by decide +kernel)
theorem lm_X12_128 : pm_LM RX12 128 yX12_isSignByte cX12_isSignByte 1 (some .boolean) false 1 := pm_LM.of 6091 1013 6089 rfl (by decide +kernel) (by decide +kernel) (by decide +kernel)
theorem ls_X12_isSignByte : pm_LS yX12_isSignByte := pm_in 6090 (by decide +kernel)
theorem lm_X12_131 : pm_LM RX12 131 yJ0_length_8abf5 cJ0_length_8abf5 1 (some .int) false 0 := pm_LM.of 6107 1014 6104 rfl (by decide +kernel) (by decide +kernel) (by decide +kernel)
theorem li_J0_length_8abf5 : pm_LI yJ0_length_8abf5 RJ0 := ⟨pm_in 6105 (by decide +kernel), pm_in 6106 (by decide +kernel)⟩
theorem lm_X12_137 : pm_LM RX12 137 yJ0_charAt_5068e cJ0_charAt_5068e 2 (some .char) false 1 := pm_LM.of 6117 1014 6114 rfl (by decide +kernel) (by decide +kernel) (by decide +kernel)
theorem li_J0_charAt_5068e : pm_LI yJ0_charAt_5068e RJ0 := ⟨pm_in 6115 (by decide +kernel), pm_in 6116 (by decide +kernel)⟩
theorem lm_X12_141 : pm_LM RX12 141 yX12_packed cX12_packed 4 (some .long) false 1 := pm_LM.of 6103 1013 6101 rfl (by decide +kernel) (by decide +kernel) (by decide +kernel)
theorem ls_X12_packed : pm_LS yX12_packed := pm_in 6102 (by decide +kernel)
theorem lm_X12_145 : pm_LM RX12 145 yX12_isSign cX12_isSign 2 (some .boolean) false 1 := pm_LM.of 6180 1013 6177 rfl (by decide +kernel) (by decide +kernel) (by decide +kernel)
theorem li_X12_isSign : pm_LI yX12_isSign RX12 := ⟨pm_in 6179 (by decide +kernel), pm_in 63 (by decide +kernel)⟩
theorem lm_X12_148 : pm_LM RX12 148 yX12_leads cX12_leads 2 none false 0 := pm_LM.of 6079 1013 6076 rfl (by decide +kernel) (by decide +kernel) (by decide +kernel)
theorem li_X12_leads : pm_LI yX12_leads RX12 := ⟨pm_in 6078 (by decide +kernel), pm_in 55 (by decide +kernel)⟩
theorem lm_X12_156 : pm_LM RX12 156 yX12_isWord cX12_isWord 2 (some .boolean) false 1 := pm_LM.of 6100 1013 6097 rfl (by decide +kernel) (by decide +kernel) (by decide +kernel)
theorem li_X12_isWord : pm_LI yX12_isWord RX12 := ⟨pm_in 6099 (by decide +kernel), pm_in 57 (by decide +kernel)⟩
theorem lm_X12_172 : pm_LM RX12 172 yX12_isName cX12_isName 1 (some .boolean) false 0 := pm_LM.of 6159 1013 6156 rfl (by decide +kernel) (by decide +kernel) (by decide +kernel)
theorem li_X12_isName : pm_LI yX12_isName RX12 := ⟨pm_in 6158 (by decide +kernel), pm_in 59 (by decide +kernel)⟩
theorem lm_X12_176 : pm_LM RX12 176 yX12_named cX12_named 2 (some .int) false 0 := pm_LM.of 6168 1013 6165 rfl (by decide +kernel) (by decide +kernel) (by decide +kernel)
theorem li_X12_named : pm_LI yX12_named RX12 := ⟨pm_in 6167 (by decide +kernel), pm_in 60 (by decide +kernel)⟩
theorem lm_X12_179 : pm_LM RX12 179 yX12_number cX12_number 3 (some .boolean) false 2 := pm_LM.of 6172 1013 6169 rfl (by decide +kernel) (by decide +kernel) (by decide +kernel)
theorem li_X12_number : pm_LI yX12_number RX12 := ⟨pm_in 6171 (by decide +kernel), pm_in 61 (by decide +kernel)⟩
theorem lm_X12_183 : pm_LM RX12 183 yX12_closes cX12_closes 1 (some .boolean) false 0 := pm_LM.of 6176 1013 6173 rfl (by decide +kernel) (by decide +kernel) (by decide +kernel)
theorem li_X12_closes : pm_LI yX12_closes RX12 := ⟨pm_in 6175 (by decide +kernel), pm_in 62 (by decide +kernel)⟩
theorem lm_X12_195 : pm_LM RX12 195 yX12_soundLine cX12_soundLine 5 (some .boolean) false 0 := pm_LM.of 6155 1013 6152 rfl (by decide +kernel) (by decide +kernel) (by decide +kernel)
theorem li_X12_soundLine : pm_LI yX12_soundLine RX12 := ⟨pm_in 6154 (by decide +kernel), pm_in 58 (by decide +kernel)⟩
theorem lm_X12_198 : pm_LM RX12 198 yX12_spanLine cX12_spanLine 3 (some .boolean) false 1 := pm_LM.of 6184 1013 6181 rfl (by decide +kernel) (by decide +kernel) (by decide +kernel)
theorem li_X12_spanLine : pm_LI yX12_spanLine RX12 := ⟨pm_in 6183 (by decide +kernel), pm_in 64 (by decide +kernel)⟩
theorem lm_X12_201 : pm_LM RX12 201 yX12_oddsLine cX12_oddsLine 2 (some .boolean) false 0 := pm_LM.of 6188 1013 6185 rfl (by decide +kernel) (by decide +kernel) (by decide +kernel)
theorem li_X12_oddsLine : pm_LI yX12_oddsLine RX12 := ⟨pm_in 6187 (by decide +kernel), pm_in 65 (by decide +kernel)⟩
theorem lm_X12_204 : pm_LM RX12 204 yX12_holdLine cX12_holdLine 2 (some .boolean) false 0 := pm_LM.of 6192 1013 6189 rfl (by decide +kernel) (by decide +kernel) (by decide +kernel)
theorem li_X12_holdLine : pm_LI yX12_holdLine RX12 := ⟨pm_in 6191 (by decide +kernel), pm_in 66 (by decide +kernel)⟩
theorem lm_X12_207 : pm_LM RX12 207 yX12_learnLine cX12_learnLine 4 (some .boolean) false 0 := pm_LM.of 6196 1013 6193 rfl (by decide +kernel) (by decide +kernel) (by decide +kernel)
theorem li_X12_learnLine : pm_LI yX12_learnLine RX12 := ⟨pm_in 6195 (by decide +kernel), pm_in 67 (by decide +kernel)⟩
theorem lm_X12_210 : pm_LM RX12 210 yX12_sceneLine cX12_sceneLine 1 (some .boolean) false 0 := pm_LM.of 6095 1013 6092 rfl (by decide +kernel) (by decide +kernel) (by decide +kernel)
theorem li_X12_sceneLine : pm_LI yX12_sceneLine RX12 := ⟨pm_in 6094 (by decide +kernel), pm_in 56 (by decide +kernel)⟩
theorem lm_X12_213 : pm_LM RX12 213 yX12_sceneFault cX12_sceneFault 1 (some .int) false 0 := pm_LM.of 6075 1013 6072 rfl (by decide +kernel) (by decide +kernel) (by decide +kernel)
theorem li_X12_sceneFault : pm_LI yX12_sceneFault RX12 := ⟨pm_in 6074 (by decide +kernel), pm_in 54 (by decide +kernel)⟩
theorem lm_X12_244 : pm_LM RX12 244 yX12_rank cX12_rank 1 (some .int) false 1 := pm_LM.of 6238 1013 6236 rfl (by decide +kernel) (by decide +kernel) (by decide +kernel)
theorem ls_X12_rank : pm_LS yX12_rank := pm_in 6237 (by decide +kernel)
theorem lm_X12_248 : pm_LM RX12 248 yX12_lays cX12_lays 3 none false 2 := pm_LM.of 6222 1013 6219 rfl (by decide +kernel) (by decide +kernel) (by decide +kernel)
theorem li_X12_lays : pm_LI yX12_lays RX12 := ⟨pm_in 6221 (by decide +kernel), pm_in 71 (by decide +kernel)⟩
theorem lm_X12_262 : pm_LM RX12 262 yX12_nameHere cX12_nameHere 1 (some .int) false 0 := pm_LM.of 6226 1013 6223 rfl (by decide +kernel) (by decide +kernel) (by decide +kernel)
theorem li_X12_nameHere : pm_LI yX12_nameHere RX12 := ⟨pm_in 6225 (by decide +kernel), pm_in 72 (by decide +kernel)⟩
theorem lm_X12_265 : pm_LM RX12 265 yX12_empties cX12_empties 2 none false 1 := pm_LM.of 6235 1013 6232 rfl (by decide +kernel) (by decide +kernel) (by decide +kernel)
theorem li_X12_empties : pm_LI yX12_empties RX12 := ⟨pm_in 6234 (by decide +kernel), pm_in 73 (by decide +kernel)⟩
theorem lm_X12_284 : pm_LM RX12 284 yX12_sumHere cX12_sumHere 4 (some .boolean) false 0 := pm_LM.of 6218 1013 6215 rfl (by decide +kernel) (by decide +kernel) (by decide +kernel)
theorem li_X12_sumHere : pm_LI yX12_sumHere RX12 := ⟨pm_in 6217 (by decide +kernel), pm_in 70 (by decide +kernel)⟩
theorem lm_X12_289 : pm_LM RX12 289 yX12_ruleLine cX12_ruleLine 4 (some .boolean) false 0 := pm_LM.of 6208 1013 6205 rfl (by decide +kernel) (by decide +kernel) (by decide +kernel)
theorem li_X12_ruleLine : pm_LI yX12_ruleLine RX12 := ⟨pm_in 6207 (by decide +kernel), pm_in 69 (by decide +kernel)⟩
theorem lm_X12_292 : pm_LM RX12 292 yX12_rulesFault cX12_rulesFault 1 (some .int) false 0 := pm_LM.of 6204 1013 6201 rfl (by decide +kernel) (by decide +kernel) (by decide +kernel)
theorem li_X12_rulesFault : pm_LI yX12_rulesFault RX12 := ⟨pm_in 6203 (by decide +kernel), pm_in 68 (by decide +kernel)⟩
theorem lm_X12_299 : pm_LM RX12 299 yX12_areChanges cX12_areChanges 3 (some .boolean) false 3 := pm_LM.of 7015 1013 7013 rfl (by decide +kernel) (by decide +kernel) (by decide +kernel)
theorem ls_X12_areChanges : pm_LS yX12_areChanges := pm_in 7014 (by decide +kernel)
theorem lm_X12_302 : pm_LM RX12 302 yX12_isPerson cX12_isPerson 2 (some .boolean) false 1 := pm_LM.of 7023 1013 7020 rfl (by decide +kernel) (by decide +kernel) (by decide +kernel)
theorem li_X12_isPerson : pm_LI yX12_isPerson RX12 := ⟨pm_in 7022 (by decide +kernel), pm_in 74 (by decide +kernel)⟩
theorem lm_X12_311 : pm_LM RX12 311 yJ9_max_7cf53 cJ9_max_7cf53 2 (some .int) false 2 := pm_LM.of 4013 1018 7047 rfl (by decide +kernel) (by decide +kernel) (by decide +kernel)
theorem lm_X12_335 : pm_LM RX12 335 yX12_x cX12_x 2 (some .int) false 1 := pm_LM.of 7051 1013 7048 rfl (by decide +kernel) (by decide +kernel) (by decide +kernel)
theorem li_X12_x : pm_LI yX12_x RX12 := ⟨pm_in 7050 (by decide +kernel), pm_in 78 (by decide +kernel)⟩
theorem lm_X12_338 : pm_LM RX12 338 yX12_far cX12_far 1 (some .int) false 1 := pm_LM.of 7054 1013 7052 rfl (by decide +kernel) (by decide +kernel) (by decide +kernel)
theorem ls_X12_far : pm_LS yX12_far := pm_in 7053 (by decide +kernel)
theorem lm_X12_341 : pm_LM RX12 341 yX12_y cX12_y 2 (some .int) false 1 := pm_LM.of 7058 1013 7055 rfl (by decide +kernel) (by decide +kernel) (by decide +kernel)
theorem li_X12_y : pm_LI yX12_y RX12 := ⟨pm_in 7057 (by decide +kernel), pm_in 79 (by decide +kernel)⟩
theorem lm_X12_344 : pm_LM RX12 344 yX12_takesVoice cX12_takesVoice 2 none false 0 := pm_LM.of 7066 1013 7063 rfl (by decide +kernel) (by decide +kernel) (by decide +kernel)
theorem li_X12_takesVoice : pm_LI yX12_takesVoice RX12 := ⟨pm_in 7065 (by decide +kernel), pm_in 81 (by decide +kernel)⟩
theorem lm_X12_347 : pm_LM RX12 347 yX12_takesFace cX12_takesFace 2 none false 0 := pm_LM.of 7070 1013 7067 rfl (by decide +kernel) (by decide +kernel) (by decide +kernel)
theorem li_X12_takesFace : pm_LI yX12_takesFace RX12 := ⟨pm_in 7069 (by decide +kernel), pm_in 82 (by decide +kernel)⟩
theorem lm_X12_350 : pm_LM RX12 350 yJ9_max_f86c9 cJ9_max_f86c9 4 (some .long) false 2 := pm_LM.of 4170 1018 7075 rfl (by decide +kernel) (by decide +kernel) (by decide +kernel)
theorem lm_X12_353 : pm_LM RX12 353 yX12_takesSurer cX12_takesSurer 8 none false 0 := pm_LM.of 7074 1013 7071 rfl (by decide +kernel) (by decide +kernel) (by decide +kernel)
theorem li_X12_takesSurer : pm_LI yX12_takesSurer RX12 := ⟨pm_in 7073 (by decide +kernel), pm_in 83 (by decide +kernel)⟩
theorem lm_X12_356 : pm_LM RX12 356 yX12_takesOdds cX12_takesOdds 4 none false 0 := pm_LM.of 7079 1013 7076 rfl (by decide +kernel) (by decide +kernel) (by decide +kernel)
theorem li_X12_takesOdds : pm_LI yX12_takesOdds RX12 := ⟨pm_in 7078 (by decide +kernel), pm_in 84 (by decide +kernel)⟩
theorem lm_X12_359 : pm_LM RX12 359 yX12_takesBetween cX12_takesBetween 6 none false 0 := pm_LM.of 7083 1013 7080 rfl (by decide +kernel) (by decide +kernel) (by decide +kernel)
theorem li_X12_takesBetween : pm_LI yX12_takesBetween RX12 := ⟨pm_in 7082 (by decide +kernel), pm_in 85 (by decide +kernel)⟩
theorem lm_X12_367 : pm_LM RX12 367 yX12_kindOf cX12_kindOf 2 (some .int) false 1 := pm_LM.of 7104 1013 7101 rfl (by decide +kernel) (by decide +kernel) (by decide +kernel)
theorem li_X12_kindOf : pm_LI yX12_kindOf RX12 := ⟨pm_in 7103 (by decide +kernel), pm_in 88 (by decide +kernel)⟩
theorem lm_X12_370 : pm_LM RX12 370 yX12_isLaw cX12_isLaw 1 (some .boolean) false 1 := pm_LM.of 7038 1013 7036 rfl (by decide +kernel) (by decide +kernel) (by decide +kernel)
theorem ls_X12_isLaw : pm_LS yX12_isLaw := pm_in 7037 (by decide +kernel)
theorem lm_X12_373 : pm_LM RX12 373 yX12_isTrial cX12_isTrial 4 (some .boolean) false 3 := pm_LM.of 7042 1013 7039 rfl (by decide +kernel) (by decide +kernel) (by decide +kernel)
theorem li_X12_isTrial : pm_LI yX12_isTrial RX12 := ⟨pm_in 7041 (by decide +kernel), pm_in 76 (by decide +kernel)⟩
theorem lm_X12_376 : pm_LM RX12 376 yX12_works cX12_works 7 none false 3 := pm_LM.of 7046 1013 7043 rfl (by decide +kernel) (by decide +kernel) (by decide +kernel)
theorem li_X12_works : pm_LI yX12_works RX12 := ⟨pm_in 7045 (by decide +kernel), pm_in 77 (by decide +kernel)⟩
theorem lm_X12_380 : pm_LM RX12 380 yX12_weighs cX12_weighs 5 none false 1 := pm_LM.of 7062 1013 7059 rfl (by decide +kernel) (by decide +kernel) (by decide +kernel)
theorem li_X12_weighs : pm_LI yX12_weighs RX12 := ⟨pm_in 7061 (by decide +kernel), pm_in 80 (by decide +kernel)⟩
theorem lm_X12_383 : pm_LM RX12 383 yX12_weighsIf cX12_weighsIf 5 (some .boolean) false 4 := pm_LM.of 7035 1013 7032 rfl (by decide +kernel) (by decide +kernel) (by decide +kernel)
theorem li_X12_weighsIf : pm_LI yX12_weighsIf RX12 := ⟨pm_in 7034 (by decide +kernel), pm_in 75 (by decide +kernel)⟩
theorem lm_X12_387 : pm_LM RX12 387 yX12_chanceOf cX12_chanceOf 2 (some .int) false 1 := pm_LM.of 7091 1013 7088 rfl (by decide +kernel) (by decide +kernel) (by decide +kernel)
theorem li_X12_chanceOf : pm_LI yX12_chanceOf RX12 := ⟨pm_in 7090 (by decide +kernel), pm_in 86 (by decide +kernel)⟩
theorem lm_X12_390 : pm_LM RX12 390 yX12_chanceOfKind cX12_chanceOfKind 5 (some .int) false 1 := pm_LM.of 7100 1013 7097 rfl (by decide +kernel) (by decide +kernel) (by decide +kernel)
theorem li_X12_chanceOfKind : pm_LI yX12_chanceOfKind RX12 := ⟨pm_in 7099 (by decide +kernel), pm_in 87 (by decide +kernel)⟩
theorem lm_X12_393 : pm_LM RX12 393 yX12_likeliest cX12_likeliest 3 (some .int) false 0 := pm_LM.of 7112 1013 7109 rfl (by decide +kernel) (by decide +kernel) (by decide +kernel)
theorem li_X12_likeliest : pm_LI yX12_likeliest RX12 := ⟨pm_in 7111 (by decide +kernel), pm_in 89 (by decide +kernel)⟩
theorem lm_X12_396 : pm_LM RX12 396 yX12_noticedNow cX12_noticedNow 5 (some .int) false 0 := pm_LM.of 7120 1013 7117 rfl (by decide +kernel) (by decide +kernel) (by decide +kernel)
theorem li_X12_noticedNow : pm_LI yX12_noticedNow RX12 := ⟨pm_in 7119 (by decide +kernel), pm_in 90 (by decide +kernel)⟩
theorem lm_X12_399 : pm_LM RX12 399 yX12_keepsAnswer cX12_keepsAnswer 7 none false 5 := pm_LM.of 7128 1013 7125 rfl (by decide +kernel) (by decide +kernel) (by decide +kernel)
theorem li_X12_keepsAnswer : pm_LI yX12_keepsAnswer RX12 := ⟨pm_in 7127 (by decide +kernel), pm_in 91 (by decide +kernel)⟩
theorem lm_X12_403 : pm_LM RX12 403 yX12_worksAnswer cX12_worksAnswer 2 none false 1 := pm_LM.of 7140 1013 7137 rfl (by decide +kernel) (by decide +kernel) (by decide +kernel)
theorem li_X12_worksAnswer : pm_LI yX12_worksAnswer RX12 := ⟨pm_in 7139 (by decide +kernel), pm_in 92 (by decide +kernel)⟩
theorem lm_X12_408 : pm_LM RX12 408 yX12_ones cX12_ones 2 none false 1 := pm_LM.of 7152 1013 7149 rfl (by decide +kernel) (by decide +kernel) (by decide +kernel)
theorem li_X12_ones : pm_LI yX12_ones RX12 := ⟨pm_in 7151 (by decide +kernel), pm_in 94 (by decide +kernel)⟩
theorem lm_X12_411 : pm_LM RX12 411 yX12_multiplies cX12_multiplies 9 none false 2 := pm_LM.of 7156 1013 7153 rfl (by decide +kernel) (by decide +kernel) (by decide +kernel)
theorem li_X12_multiplies : pm_LI yX12_multiplies RX12 := ⟨pm_in 7155 (by decide +kernel), pm_in 95 (by decide +kernel)⟩
theorem lm_X12_415 : pm_LM RX12 415 yX12_joins cX12_joins 11 none false 3 := pm_LM.of 7173 1013 7170 rfl (by decide +kernel) (by decide +kernel) (by decide +kernel)
theorem li_X12_joins : pm_LI yX12_joins RX12 := ⟨pm_in 7172 (by decide +kernel), pm_in 99 (by decide +kernel)⟩
theorem lm_X12_418 : pm_LM RX12 418 yX12_compares cX12_compares 6 (some .int) false 2 := pm_LM.of 7177 1013 7174 rfl (by decide +kernel) (by decide +kernel) (by decide +kernel)
theorem li_X12_compares : pm_LI yX12_compares RX12 := ⟨pm_in 7176 (by decide +kernel), pm_in 100 (by decide +kernel)⟩
theorem lm_X12_421 : pm_LM RX12 421 yX12_copies cX12_copies 4 none false 2 := pm_LM.of 7165 1013 7162 rfl (by decide +kernel) (by decide +kernel) (by decide +kernel)
theorem li_X12_copies : pm_LI yX12_copies RX12 := ⟨pm_in 7164 (by decide +kernel), pm_in 97 (by decide +kernel)⟩
theorem lm_X12_424 : pm_LM RX12 424 yX12_fits cX12_fits 5 none false 3 := pm_LM.of 7148 1013 7145 rfl (by decide +kernel) (by decide +kernel) (by decide +kernel)
theorem li_X12_fits : pm_LI yX12_fits RX12 := ⟨pm_in 7147 (by decide +kernel), pm_in 93 (by decide +kernel)⟩
theorem lm_X12_427 : pm_LM RX12 427 yX12_keeps cX12_keeps 1 none false 0 := pm_LM.of 7161 1013 7158 rfl (by decide +kernel) (by decide +kernel) (by decide +kernel)
theorem li_X12_keeps : pm_LI yX12_keeps RX12 := ⟨pm_in 7160 (by decide +kernel), pm_in 96 (by decide +kernel)⟩
theorem lm_X12_430 : pm_LM RX12 430 yX12_against cX12_against 1 (some .int) false 0 := pm_LM.of 7169 1013 7166 rfl (by decide +kernel) (by decide +kernel) (by decide +kernel)
theorem li_X12_against : pm_LI yX12_against RX12 := ⟨pm_in 7168 (by decide +kernel), pm_in 98 (by decide +kernel)⟩
theorem lm_X12_433 : pm_LM RX12 433 yX12_isOf cX12_isOf 3 (some .boolean) false 2 := pm_LM.of 7193 1013 7190 rfl (by decide +kernel) (by decide +kernel) (by decide +kernel)
theorem li_X12_isOf : pm_LI yX12_isOf RX12 := ⟨pm_in 7192 (by decide +kernel), pm_in 101 (by decide +kernel)⟩
theorem lm_X12_436 : pm_LM RX12 436 yX12_third cX12_third 4 (some .int) false 3 := pm_LM.of 7209 1013 7206 rfl (by decide +kernel) (by decide +kernel) (by decide +kernel)
theorem li_X12_third : pm_LI yX12_third RX12 := ⟨pm_in 7208 (by decide +kernel), pm_in 102 (by decide +kernel)⟩
theorem lm_X12_439 : pm_LM RX12 439 yX12_canBe cX12_canBe 4 (some .boolean) false 3 := pm_LM.of 7217 1013 7214 rfl (by decide +kernel) (by decide +kernel) (by decide +kernel)
theorem li_X12_canBe : pm_LI yX12_canBe RX12 := ⟨pm_in 7216 (by decide +kernel), pm_in 103 (by decide +kernel)⟩
theorem lm_X12_442 : pm_LM RX12 442 yX12_rightOf cX12_rightOf 6 (some .int) false 3 := pm_LM.of 7221 1013 7218 rfl (by decide +kernel) (by decide +kernel) (by decide +kernel)
theorem li_X12_rightOf : pm_LI yX12_rightOf RX12 := ⟨pm_in 7220 (by decide +kernel), pm_in 104 (by decide +kernel)⟩
theorem lm_X12_447 : pm_LM RX12 447 yX12_areLaws cX12_areLaws 1 (some .boolean) false 1 := pm_LM.of 7232 1013 7230 rfl (by decide +kernel) (by decide +kernel) (by decide +kernel)
theorem ls_X12_areLaws : pm_LS yX12_areLaws := pm_in 7231 (by decide +kernel)
theorem lm_X12_450 : pm_LM RX12 450 yX12_partedNow cX12_partedNow 11 (some .int) false 2 := pm_LM.of 7236 1013 7233 rfl (by decide +kernel) (by decide +kernel) (by decide +kernel)
theorem li_X12_partedNow : pm_LI yX12_partedNow RX12 := ⟨pm_in 7235 (by decide +kernel), pm_in 105 (by decide +kernel)⟩
theorem lm_X12_457 : pm_LM RX12 457 yX12_tellsNames cX12_tellsNames 4 none false 3 := pm_LM.of 8013 1013 8010 rfl (by decide +kernel) (by decide +kernel) (by decide +kernel)
theorem li_X12_tellsNames : pm_LI yX12_tellsNames RX12 := ⟨pm_in 8012 (by decide +kernel), pm_in 106 (by decide +kernel)⟩
theorem lm_X12_460 : pm_LM RX12 460 yX12_brought cX12_brought 2 (some .int) false 1 := pm_LM.of 8016 1013 8014 rfl (by decide +kernel) (by decide +kernel) (by decide +kernel)
theorem ls_X12_brought : pm_LS yX12_brought := pm_in 8015 (by decide +kernel)
theorem lm_X12_476 : pm_LM RX12 476 yX12_draws cX12_draws 3 (some .int) false 1 := pm_LM.of 8027 1013 8024 rfl (by decide +kernel) (by decide +kernel) (by decide +kernel)
theorem li_X12_draws : pm_LI yX12_draws RX12 := ⟨pm_in 8026 (by decide +kernel), pm_in 107 (by decide +kernel)⟩
theorem lm_X11_9 : pm_LM RX11 9 yX8_init cX8_init 1 none true 0 := pm_LM.ofN 1031 1002 1029 rfl (by decide +kernel) (by decide +kernel) (by decide +kernel)
theorem ln_X8_init : Cond.instanceMethod yX8_init ∈ pm_all := pm_in 1030 (by decide +kernel)
theorem lm_X11_23 : pm_LM RX11 23 yX7_init cX7_init 1 none true 0 := pm_LM.ofN 1076 1004 1074 rfl (by decide +kernel) (by decide +kernel) (by decide +kernel)
theorem ln_X7_init : Cond.instanceMethod yX7_init ∈ pm_all := pm_in 1075 (by decide +kernel)
theorem lm_X11_34 : pm_LM RX11 34 yX5_init cX5_init 1 none true 0 := pm_LM.ofN 1133 1005 1131 rfl (by decide +kernel) (by decide +kernel) (by decide +kernel)
theorem ln_X5_init : Cond.instanceMethod yX5_init ∈ pm_all := pm_in 1132 (by decide +kernel)
theorem lm_X11_44 : pm_LM RX11 44 yX2_init cX2_init 1 none true 0 := pm_LM.ofN 1208 1006 1206 rfl (by decide +kernel) (by decide +kernel) (by decide +kernel)
theorem ln_X2_init : Cond.instanceMethod yX2_init ∈ pm_all := pm_in 1207 (by decide +kernel)
theorem lm_X11_81 : pm_LM RX11 81 yX4_init cX4_init 1 none true 0 := pm_LM.ofN 2105 1010 2103 rfl (by decide +kernel) (by decide +kernel) (by decide +kernel)
theorem ln_X4_init : Cond.instanceMethod yX4_init ∈ pm_all := pm_in 2104 (by decide +kernel)
theorem lm_X11_92 : pm_LM RX11 92 yX0_init cX0_init 1 none true 0 := pm_LM.ofN 2131 1012 2129 rfl (by decide +kernel) (by decide +kernel) (by decide +kernel)
theorem ln_X0_init : Cond.instanceMethod yX0_init ∈ pm_all := pm_in 2130 (by decide +kernel)
theorem lm_X4_9 : pm_LM RX4 9 yX1_init cX1_init 1 none true 0 := pm_LM.ofN 2111 1011 2109 rfl (by decide +kernel) (by decide +kernel) (by decide +kernel)
theorem ln_X1_init : Cond.instanceMethod yX1_init ∈ pm_all := pm_in 2110 (by decide +kernel)
theorem lm_X7_59 : pm_LM RX7 59 yX11_kindOfSaid cX11_kindOfSaid 3 (some .int) true 3 := pm_LM.ofN 4096 1001 4134 rfl (by decide +kernel) (by decide +kernel) (by decide +kernel)
theorem lm_X10_141 : pm_LM RX10 141 yX11_ofThousand cX11_ofThousand 4 (some .int) true 2 := pm_LM.ofN 4081 1001 4079 rfl (by decide +kernel) (by decide +kernel) (by decide +kernel)
theorem ls_X11_ofThousand : pm_LS yX11_ofThousand := pm_in 4080 (by decide +kernel)
theorem lm_X10_145 : pm_LM RX10 145 yX11_kindOfSaid cX11_kindOfSaid 3 (some .int) true 3 := pm_LM.ofN 4096 1001 4094 rfl (by decide +kernel) (by decide +kernel) (by decide +kernel)
