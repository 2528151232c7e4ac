/-! the words of the fields and calls that the code links, each by its place in the tables -/
theorem pm_FL.ofR {own : String} {idx ci i : Nat} {C : String} {T : u_T} {N : Nat} (j : Nat) (hc : pm_cl[ci]? = some (C, T, N)) (h1 : i < N) (h2 : C = (T i).1) (h : pm_look j = some (.fieldLink own idx (T i).1 (T i).2.1 (T i).2.2.1)) (hg : goodWord (.fieldLink own idx (T i).1 (T i).2.1 (T i).2.2.1) = true) : pm_FL own idx ci i N := ⟨C, T, hc, h1, h2, pm_inR j h hg⟩
def pm_LC (c : String) : Prop := Cond.initialized c ∈ pm_all ∧ c ≠ "java/lang/invoke/MethodHandle" ∧ c ≠ "java/lang/invoke/VarHandle"
def pm_LD (s : String) (na : Nat) : Prop := (parseMethodDescriptor s).map (fun d => d.parameters.length) = some na
theorem pm_LM.ofR {own : String} {idx : Nat} {y : MethodName} {cc : ByteArray} {maxL : Nat} {ret : Option FieldType} {na : Nat} (i k : Nat) (h1 : pm_look i = some (.code y cc maxL ret)) (h2 : pm_LC y.cls) (h3 : pm_LD y.desc na) (h4 : pm_look k = some (.methodLink own idx y)) (h5 : goodWord (.methodLink own idx y) = true) : pm_LM own idx y cc maxL ret false na :=
  ⟨pm_inR i h1 rfl, h2.1, ⟨h2.2.1, h2.2.2, h3⟩, pm_inR k h4 h5⟩
theorem pm_LM.ofRN {own : String} {idx : Nat} {y : MethodName} {cc : ByteArray} {maxL : Nat} {ret : Option FieldType} {na : Nat} (i k : Nat) (h1 : pm_look i = some (.code y cc maxL ret)) (h2 : pm_LC y.cls) (h3 : pm_LD y.desc na) (h4 : pm_look k = some (.methodLinkNest own idx y "LipsVoice")) : pm_LM own idx y cc maxL ret true na :=
  ⟨pm_inR i h1 rfl, h2.1, ⟨h2.2.1, h2.2.2, h3⟩, pm_look_mem h4⟩
theorem fl_X11_10 : pm_FL RX11 10 11 0 17 := pm_FL.ofR (C := RX11) (T := TX11) 2147 rfl (by decide) rfl rfl rfl
theorem fl_X11_24 : pm_FL RX11 24 11 3 17 := pm_FL.ofR (C := RX11) (T := TX11) 2150 rfl (by decide) rfl rfl rfl
theorem fl_X11_28 : pm_FL RX11 28 11 4 17 := pm_FL.ofR (C := RX11) (T := TX11) 2151 rfl (by decide) rfl rfl rfl
theorem fl_X11_35 : pm_FL RX11 35 11 8 17 := pm_FL.ofR (C := RX11) (T := TX11) 2155 rfl (by decide) rfl rfl rfl
theorem fl_X11_39 : pm_FL RX11 39 11 9 17 := pm_FL.ofR (C := RX11) (T := TX11) 2156 rfl (by decide) rfl rfl rfl
theorem fl_X11_45 : pm_FL RX11 45 11 10 17 := pm_FL.ofR (C := RX11) (T := TX11) 2157 rfl (by decide) rfl rfl rfl
theorem fl_X11_49 : pm_FL RX11 49 11 11 17 := pm_FL.ofR (C := RX11) (T := TX11) 2158 rfl (by decide) rfl rfl rfl
theorem fl_X11_57 : pm_FL RX11 57 11 1 17 := pm_FL.ofR (C := RX11) (T := TX11) 2148 rfl (by decide) rfl rfl rfl
theorem fl_X11_66 : pm_FL RX11 66 11 2 17 := pm_FL.ofR (C := RX11) (T := TX11) 2149 rfl (by decide) rfl rfl rfl
theorem fl_X11_75 : pm_FL RX11 75 11 5 17 := pm_FL.ofR (C := RX11) (T := TX11) 2152 rfl (by decide) rfl rfl rfl
theorem fl_X11_82 : pm_FL RX11 82 11 6 17 := pm_FL.ofR (C := RX11) (T := TX11) 2153 rfl (by decide) rfl rfl rfl
theorem fl_X11_86 : pm_FL RX11 86 11 7 17 := pm_FL.ofR (C := RX11) (T := TX11) 2154 rfl (by decide) rfl rfl rfl
theorem fl_X11_93 : pm_FL RX11 93 11 12 17 := pm_FL.ofR (C := RX11) (T := TX11) 2159 rfl (by decide) rfl rfl rfl
theorem fl_X11_97 : pm_FL RX11 97 11 13 17 := pm_FL.ofR (C := RX11) (T := TX11) 2160 rfl (by decide) rfl rfl rfl
theorem fl_X11_100 : pm_FL RX11 100 11 14 17 := pm_FL.ofR (C := RX11) (T := TX11) 2161 rfl (by decide) rfl rfl rfl
theorem fl_X11_104 : pm_FL RX11 104 11 15 17 := pm_FL.ofR (C := RX11) (T := TX11) 2162 rfl (by decide) rfl rfl rfl
theorem fl_X11_107 : pm_FL RX11 107 11 16 17 := pm_FL.ofR (C := RX11) (T := TX11) 2163 rfl (by decide) rfl rfl rfl
theorem fl_X11_111 : pm_FL RX11 111 8 1 2 := pm_FL.ofR (C := RX8) (T := TX8) 1036 rfl (by decide) rfl rfl rfl
theorem fl_X11_126 : pm_FL RX11 126 5 8 13 := pm_FL.ofR (C := RX5) (T := TX5) 1164 rfl (by decide) rfl rfl rfl
theorem fl_X11_132 : pm_FL RX11 132 7 0 12 := pm_FL.ofR (C := RX7) (T := TX7) 1079 rfl (by decide) rfl rfl rfl
theorem fl_X11_136 : pm_FL RX11 136 5 0 13 := pm_FL.ofR (C := RX5) (T := TX5) 1138 rfl (by decide) rfl rfl rfl
theorem fl_X11_139 : pm_FL RX11 139 2 0 8 := pm_FL.ofR (C := RX2) (T := TX2) 1212 rfl (by decide) rfl rfl rfl
theorem fl_X11_146 : pm_FL RX11 146 5 1 13 := pm_FL.ofR (C := RX5) (T := TX5) 1142 rfl (by decide) rfl rfl rfl
theorem fl_X11_150 : pm_FL RX11 150 5 2 13 := pm_FL.ofR (C := RX5) (T := TX5) 1146 rfl (by decide) rfl rfl rfl
theorem fl_X11_153 : pm_FL RX11 153 5 3 13 := pm_FL.ofR (C := RX5) (T := TX5) 1150 rfl (by decide) rfl rfl rfl
theorem fl_X11_156 : pm_FL RX11 156 5 10 13 := pm_FL.ofR (C := RX5) (T := TX5) 1171 rfl (by decide) rfl rfl rfl
theorem fl_X11_159 : pm_FL RX11 159 7 1 12 := pm_FL.ofR (C := RX7) (T := TX7) 1081 rfl (by decide) rfl rfl rfl
theorem fl_X11_162 : pm_FL RX11 162 7 6 12 := pm_FL.ofR (C := RX7) (T := TX7) 1091 rfl (by decide) rfl rfl rfl
theorem fl_X11_169 : pm_FL RX11 169 5 9 13 := pm_FL.ofR (C := RX5) (T := TX5) 1169 rfl (by decide) rfl rfl rfl
theorem fl_X11_186 : pm_FL RX11 186 7 2 12 := pm_FL.ofR (C := RX7) (T := TX7) 1083 rfl (by decide) rfl rfl rfl
theorem fl_X11_189 : pm_FL RX11 189 7 3 12 := pm_FL.ofR (C := RX7) (T := TX7) 1085 rfl (by decide) rfl rfl rfl
theorem fl_X11_192 : pm_FL RX11 192 7 4 12 := pm_FL.ofR (C := RX7) (T := TX7) 1087 rfl (by decide) rfl rfl rfl
theorem fl_X11_194 : pm_FL RX11 194 7 5 12 := pm_FL.ofR (C := RX7) (T := TX7) 1089 rfl (by decide) rfl rfl rfl
theorem fl_X11_205 : pm_FL RX11 205 10 14 16 := pm_FL.ofR (C := RX10) (T := TX10) 2066 rfl (by decide) rfl rfl rfl
theorem fl_X11_208 : pm_FL RX11 208 10 13 16 := pm_FL.ofR (C := RX10) (T := TX10) 2064 rfl (by decide) rfl rfl rfl
theorem fl_X11_243 : pm_FL RX11 243 7 7 12 := pm_FL.ofR (C := RX7) (T := TX7) 1093 rfl (by decide) rfl rfl rfl
theorem fl_X11_246 : pm_FL RX11 246 7 8 12 := pm_FL.ofR (C := RX7) (T := TX7) 1095 rfl (by decide) rfl rfl rfl
theorem fl_X11_249 : pm_FL RX11 249 7 9 12 := pm_FL.ofR (C := RX7) (T := TX7) 1097 rfl (by decide) rfl rfl rfl
theorem fl_X11_252 : pm_FL RX11 252 7 10 12 := pm_FL.ofR (C := RX7) (T := TX7) 1099 rfl (by decide) rfl rfl rfl
theorem fl_X11_255 : pm_FL RX11 255 7 11 12 := pm_FL.ofR (C := RX7) (T := TX7) 1101 rfl (by decide) rfl rfl rfl
theorem fl_X11_328 : pm_FL RX11 328 2 1 8 := pm_FL.ofR (C := RX2) (T := TX2) 1214 rfl (by decide) rfl rfl rfl
theorem fl_X11_354 : pm_FL RX11 354 10 1 16 := pm_FL.ofR (C := RX10) (T := TX10) 2048 rfl (by decide) rfl rfl rfl
theorem fl_X11_357 : pm_FL RX11 357 10 2 16 := pm_FL.ofR (C := RX10) (T := TX10) 2050 rfl (by decide) rfl rfl rfl
theorem fl_X11_360 : pm_FL RX11 360 10 3 16 := pm_FL.ofR (C := RX10) (T := TX10) 2052 rfl (by decide) rfl rfl rfl
theorem fl_X11_363 : pm_FL RX11 363 10 4 16 := pm_FL.ofR (C := RX10) (T := TX10) 2054 rfl (by decide) rfl rfl rfl
theorem fl_X11_371 : pm_FL RX11 371 0 0 3 := pm_FL.ofR (C := RX0) (T := TX0) 2135 rfl (by decide) rfl rfl rfl
theorem fl_X0_9 : pm_FL RX0 9 0 0 3 := pm_FL.ofR (C := RX0) (T := TX0) 2133 rfl (by decide) rfl rfl rfl
theorem fl_X0_15 : pm_FL RX0 15 0 1 3 := pm_FL.ofR (C := RX0) (T := TX0) 2136 rfl (by decide) rfl rfl rfl
theorem fl_X0_19 : pm_FL RX0 19 0 2 3 := pm_FL.ofR (C := RX0) (T := TX0) 2138 rfl (by decide) rfl rfl rfl
theorem fl_X1_9 : pm_FL RX1 9 1 0 2 := pm_FL.ofR (C := RX1) (T := TX1) 2113 rfl (by decide) rfl rfl rfl
theorem fl_X1_13 : pm_FL RX1 13 1 1 2 := pm_FL.ofR (C := RX1) (T := TX1) 2114 rfl (by decide) rfl rfl rfl
theorem fl_X2_9 : pm_FL RX2 9 2 0 8 := pm_FL.ofR (C := RX2) (T := TX2) 1210 rfl (by decide) rfl rfl rfl
theorem fl_X2_15 : pm_FL RX2 15 2 1 8 := pm_FL.ofR (C := RX2) (T := TX2) 1213 rfl (by decide) rfl rfl rfl
theorem fl_X2_19 : pm_FL RX2 19 2 2 8 := pm_FL.ofR (C := RX2) (T := TX2) 1215 rfl (by decide) rfl rfl rfl
theorem fl_X2_22 : pm_FL RX2 22 2 3 8 := pm_FL.ofR (C := RX2) (T := TX2) 1216 rfl (by decide) rfl rfl rfl
theorem fl_X2_25 : pm_FL RX2 25 2 4 8 := pm_FL.ofR (C := RX2) (T := TX2) 1217 rfl (by decide) rfl rfl rfl
theorem fl_X2_28 : pm_FL RX2 28 2 5 8 := pm_FL.ofR (C := RX2) (T := TX2) 1218 rfl (by decide) rfl rfl rfl
theorem fl_X2_31 : pm_FL RX2 31 2 6 8 := pm_FL.ofR (C := RX2) (T := TX2) 1219 rfl (by decide) rfl rfl rfl
theorem fl_X2_35 : pm_FL RX2 35 2 7 8 := pm_FL.ofR (C := RX2) (T := TX2) 1220 rfl (by decide) rfl rfl rfl
theorem fl_X3_9 : pm_FL RX3 9 3 0 2 := pm_FL.ofR (C := RX3) (T := TX3) 2033 rfl (by decide) rfl rfl rfl
theorem fl_X3_15 : pm_FL RX3 15 3 1 2 := pm_FL.ofR (C := RX3) (T := TX3) 2034 rfl (by decide) rfl rfl rfl
theorem fl_X3_33 : pm_FL RX3 33 9 1 5 := pm_FL.ofR (C := RX9) (T := TX9) 1052 rfl (by decide) rfl rfl rfl
theorem fl_X3_37 : pm_FL RX3 37 9 2 5 := pm_FL.ofR (C := RX9) (T := TX9) 1055 rfl (by decide) rfl rfl rfl
theorem fl_X3_53 : pm_FL RX3 53 9 3 5 := pm_FL.ofR (C := RX9) (T := TX9) 1058 rfl (by decide) rfl rfl rfl
theorem fl_X3_75 : pm_FL RX3 75 2 0 8 := pm_FL.ofR (C := RX2) (T := TX2) 1211 rfl (by decide) rfl rfl rfl
theorem fl_X4_10 : pm_FL RX4 10 4 0 2 := pm_FL.ofR (C := RX4) (T := TX4) 2120 rfl (by decide) rfl rfl rfl
theorem fl_X4_16 : pm_FL RX4 16 4 1 2 := pm_FL.ofR (C := RX4) (T := TX4) 2121 rfl (by decide) rfl rfl rfl
theorem fl_X4_25 : pm_FL RX4 25 0 0 3 := pm_FL.ofR (C := RX0) (T := TX0) 2134 rfl (by decide) rfl rfl rfl
theorem fl_X4_51 : pm_FL RX4 51 0 1 3 := pm_FL.ofR (C := RX0) (T := TX0) 2137 rfl (by decide) rfl rfl rfl
theorem fl_X4_55 : pm_FL RX4 55 0 2 3 := pm_FL.ofR (C := RX0) (T := TX0) 2139 rfl (by decide) rfl rfl rfl
theorem fl_X5_9 : pm_FL RX5 9 5 1 13 := pm_FL.ofR (C := RX5) (T := TX5) 1139 rfl (by decide) rfl rfl rfl
theorem fl_X5_15 : pm_FL RX5 15 5 2 13 := pm_FL.ofR (C := RX5) (T := TX5) 1143 rfl (by decide) rfl rfl rfl
theorem fl_X5_18 : pm_FL RX5 18 5 3 13 := pm_FL.ofR (C := RX5) (T := TX5) 1147 rfl (by decide) rfl rfl rfl
theorem fl_X5_21 : pm_FL RX5 21 5 11 13 := pm_FL.ofR (C := RX5) (T := TX5) 1173 rfl (by decide) rfl rfl rfl
theorem fl_X5_24 : pm_FL RX5 24 5 12 13 := pm_FL.ofR (C := RX5) (T := TX5) 1175 rfl (by decide) rfl rfl rfl
theorem fl_X5_27 : pm_FL RX5 27 5 0 13 := pm_FL.ofR (C := RX5) (T := TX5) 1135 rfl (by decide) rfl rfl rfl
theorem fl_X5_31 : pm_FL RX5 31 5 4 13 := pm_FL.ofR (C := RX5) (T := TX5) 1151 rfl (by decide) rfl rfl rfl
theorem fl_X5_34 : pm_FL RX5 34 5 5 13 := pm_FL.ofR (C := RX5) (T := TX5) 1154 rfl (by decide) rfl rfl rfl
theorem fl_X5_37 : pm_FL RX5 37 5 6 13 := pm_FL.ofR (C := RX5) (T := TX5) 1157 rfl (by decide) rfl rfl rfl
theorem fl_X5_40 : pm_FL RX5 40 5 7 13 := pm_FL.ofR (C := RX5) (T := TX5) 1160 rfl (by decide) rfl rfl rfl
theorem fl_X5_43 : pm_FL RX5 43 5 8 13 := pm_FL.ofR (C := RX5) (T := TX5) 1163 rfl (by decide) rfl rfl rfl
theorem fl_X5_46 : pm_FL RX5 46 5 9 13 := pm_FL.ofR (C := RX5) (T := TX5) 1166 rfl (by decide) rfl rfl rfl
theorem fl_X5_49 : pm_FL RX5 49 5 10 13 := pm_FL.ofR (C := RX5) (T := TX5) 1170 rfl (by decide) rfl rfl rfl
theorem fl_X6_9 : pm_FL RX6 9 6 0 7 := pm_FL.ofR (C := RX6) (T := TX6) 2005 rfl (by decide) rfl rfl rfl
theorem fl_X6_15 : pm_FL RX6 15 6 1 7 := pm_FL.ofR (C := RX6) (T := TX6) 2006 rfl (by decide) rfl rfl rfl
theorem fl_X6_19 : pm_FL RX6 19 6 2 7 := pm_FL.ofR (C := RX6) (T := TX6) 2007 rfl (by decide) rfl rfl rfl
theorem fl_X6_23 : pm_FL RX6 23 6 3 7 := pm_FL.ofR (C := RX6) (T := TX6) 2008 rfl (by decide) rfl rfl rfl
theorem fl_X6_27 : pm_FL RX6 27 6 4 7 := pm_FL.ofR (C := RX6) (T := TX6) 2009 rfl (by decide) rfl rfl rfl
theorem fl_X6_31 : pm_FL RX6 31 6 5 7 := pm_FL.ofR (C := RX6) (T := TX6) 2010 rfl (by decide) rfl rfl rfl
theorem fl_X6_35 : pm_FL RX6 35 6 6 7 := pm_FL.ofR (C := RX6) (T := TX6) 2011 rfl (by decide) rfl rfl rfl
theorem fl_X6_48 : pm_FL RX6 48 9 1 5 := pm_FL.ofR (C := RX9) (T := TX9) 1053 rfl (by decide) rfl rfl rfl
theorem fl_X6_58 : pm_FL RX6 58 9 2 5 := pm_FL.ofR (C := RX9) (T := TX9) 1056 rfl (by decide) rfl rfl rfl
theorem fl_X6_95 : pm_FL RX6 95 5 0 13 := pm_FL.ofR (C := RX5) (T := TX5) 1137 rfl (by decide) rfl rfl rfl
theorem fl_X6_108 : pm_FL RX6 108 9 3 5 := pm_FL.ofR (C := RX9) (T := TX9) 1059 rfl (by decide) rfl rfl rfl
theorem fl_X6_119 : pm_FL RX6 119 5 1 13 := pm_FL.ofR (C := RX5) (T := TX5) 1141 rfl (by decide) rfl rfl rfl
theorem fl_X6_123 : pm_FL RX6 123 5 2 13 := pm_FL.ofR (C := RX5) (T := TX5) 1145 rfl (by decide) rfl rfl rfl
theorem fl_X6_126 : pm_FL RX6 126 5 3 13 := pm_FL.ofR (C := RX5) (T := TX5) 1149 rfl (by decide) rfl rfl rfl
theorem fl_X6_132 : pm_FL RX6 132 5 4 13 := pm_FL.ofR (C := RX5) (T := TX5) 1153 rfl (by decide) rfl rfl rfl
theorem fl_X6_139 : pm_FL RX6 139 5 5 13 := pm_FL.ofR (C := RX5) (T := TX5) 1156 rfl (by decide) rfl rfl rfl
theorem fl_X6_142 : pm_FL RX6 142 5 6 13 := pm_FL.ofR (C := RX5) (T := TX5) 1159 rfl (by decide) rfl rfl rfl
theorem fl_X6_145 : pm_FL RX6 145 5 7 13 := pm_FL.ofR (C := RX5) (T := TX5) 1162 rfl (by decide) rfl rfl rfl
theorem fl_X6_148 : pm_FL RX6 148 5 8 13 := pm_FL.ofR (C := RX5) (T := TX5) 1165 rfl (by decide) rfl rfl rfl
theorem fl_X6_151 : pm_FL RX6 151 5 9 13 := pm_FL.ofR (C := RX5) (T := TX5) 1168 rfl (by decide) rfl rfl rfl
theorem fl_X6_154 : pm_FL RX6 154 5 10 13 := pm_FL.ofR (C := RX5) (T := TX5) 1172 rfl (by decide) rfl rfl rfl
theorem fl_X6_161 : pm_FL RX6 161 5 11 13 := pm_FL.ofR (C := RX5) (T := TX5) 1174 rfl (by decide) rfl rfl rfl
theorem fl_X6_164 : pm_FL RX6 164 5 12 13 := pm_FL.ofR (C := RX5) (T := TX5) 1176 rfl (by decide) rfl rfl rfl
theorem fl_X7_9 : pm_FL RX7 9 7 0 12 := pm_FL.ofR (C := RX7) (T := TX7) 1078 rfl (by decide) rfl rfl rfl
theorem fl_X7_15 : pm_FL RX7 15 7 1 12 := pm_FL.ofR (C := RX7) (T := TX7) 1080 rfl (by decide) rfl rfl rfl
theorem fl_X7_19 : pm_FL RX7 19 7 2 12 := pm_FL.ofR (C := RX7) (T := TX7) 1082 rfl (by decide) rfl rfl rfl
theorem fl_X7_23 : pm_FL RX7 23 7 3 12 := pm_FL.ofR (C := RX7) (T := TX7) 1084 rfl (by decide) rfl rfl rfl
theorem fl_X7_26 : pm_FL RX7 26 7 4 12 := pm_FL.ofR (C := RX7) (T := TX7) 1086 rfl (by decide) rfl rfl rfl
theorem fl_X7_29 : pm_FL RX7 29 7 5 12 := pm_FL.ofR (C := RX7) (T := TX7) 1088 rfl (by decide) rfl rfl rfl
theorem fl_X7_32 : pm_FL RX7 32 7 6 12 := pm_FL.ofR (C := RX7) (T := TX7) 1090 rfl (by decide) rfl rfl rfl
theorem fl_X7_35 : pm_FL RX7 35 7 7 12 := pm_FL.ofR (C := RX7) (T := TX7) 1092 rfl (by decide) rfl rfl rfl
theorem fl_X7_38 : pm_FL RX7 38 7 8 12 := pm_FL.ofR (C := RX7) (T := TX7) 1094 rfl (by decide) rfl rfl rfl
theorem fl_X7_41 : pm_FL RX7 41 7 9 12 := pm_FL.ofR (C := RX7) (T := TX7) 1096 rfl (by decide) rfl rfl rfl
theorem fl_X7_44 : pm_FL RX7 44 7 10 12 := pm_FL.ofR (C := RX7) (T := TX7) 1098 rfl (by decide) rfl rfl rfl
theorem fl_X7_47 : pm_FL RX7 47 7 11 12 := pm_FL.ofR (C := RX7) (T := TX7) 1100 rfl (by decide) rfl rfl rfl
theorem fl_X8_9 : pm_FL RX8 9 8 0 2 := pm_FL.ofR (C := RX8) (T := TX8) 1033 rfl (by decide) rfl rfl rfl
theorem fl_X8_15 : pm_FL RX8 15 8 1 2 := pm_FL.ofR (C := RX8) (T := TX8) 1035 rfl (by decide) rfl rfl rfl
theorem fl_X9_7 : pm_FL RX9 7 9 0 5 := pm_FL.ofR (C := RX9) (T := TX9) 1050 rfl (by decide) rfl rfl rfl
theorem fl_X9_13 : pm_FL RX9 13 9 1 5 := pm_FL.ofR (C := RX9) (T := TX9) 1051 rfl (by decide) rfl rfl rfl
theorem fl_X9_17 : pm_FL RX9 17 9 2 5 := pm_FL.ofR (C := RX9) (T := TX9) 1054 rfl (by decide) rfl rfl rfl
theorem fl_X9_20 : pm_FL RX9 20 9 3 5 := pm_FL.ofR (C := RX9) (T := TX9) 1057 rfl (by decide) rfl rfl rfl
theorem fl_X9_24 : pm_FL RX9 24 9 4 5 := pm_FL.ofR (C := RX9) (T := TX9) 1060 rfl (by decide) rfl rfl rfl
theorem fl_X9_30 : pm_FL RX9 30 8 1 2 := pm_FL.ofR (C := RX8) (T := TX8) 1037 rfl (by decide) rfl rfl rfl
theorem fl_X9_35 : pm_FL RX9 35 8 0 2 := pm_FL.ofR (C := RX8) (T := TX8) 1034 rfl (by decide) rfl rfl rfl
theorem fl_X10_9 : pm_FL RX10 9 10 1 16 := pm_FL.ofR (C := RX10) (T := TX10) 2047 rfl (by decide) rfl rfl rfl
theorem fl_X10_15 : pm_FL RX10 15 10 2 16 := pm_FL.ofR (C := RX10) (T := TX10) 2049 rfl (by decide) rfl rfl rfl
theorem fl_X10_18 : pm_FL RX10 18 10 3 16 := pm_FL.ofR (C := RX10) (T := TX10) 2051 rfl (by decide) rfl rfl rfl
theorem fl_X10_21 : pm_FL RX10 21 10 4 16 := pm_FL.ofR (C := RX10) (T := TX10) 2053 rfl (by decide) rfl rfl rfl
theorem fl_X10_24 : pm_FL RX10 24 10 5 16 := pm_FL.ofR (C := RX10) (T := TX10) 2055 rfl (by decide) rfl rfl rfl
theorem fl_X10_27 : pm_FL RX10 27 10 6 16 := pm_FL.ofR (C := RX10) (T := TX10) 2056 rfl (by decide) rfl rfl rfl
theorem fl_X10_30 : pm_FL RX10 30 10 7 16 := pm_FL.ofR (C := RX10) (T := TX10) 2057 rfl (by decide) rfl rfl rfl
theorem fl_X10_34 : pm_FL RX10 34 10 8 16 := pm_FL.ofR (C := RX10) (T := TX10) 2058 rfl (by decide) rfl rfl rfl
theorem fl_X10_38 : pm_FL RX10 38 10 9 16 := pm_FL.ofR (C := RX10) (T := TX10) 2059 rfl (by decide) rfl rfl rfl
theorem fl_X10_41 : pm_FL RX10 41 10 10 16 := pm_FL.ofR (C := RX10) (T := TX10) 2060 rfl (by decide) rfl rfl rfl
theorem fl_X10_44 : pm_FL RX10 44 10 11 16 := pm_FL.ofR (C := RX10) (T := TX10) 2061 rfl (by decide) rfl rfl rfl
theorem fl_X10_47 : pm_FL RX10 47 10 12 16 := pm_FL.ofR (C := RX10) (T := TX10) 2062 rfl (by decide) rfl rfl rfl
theorem fl_X10_50 : pm_FL RX10 50 10 13 16 := pm_FL.ofR (C := RX10) (T := TX10) 2063 rfl (by decide) rfl rfl rfl
theorem fl_X10_53 : pm_FL RX10 53 10 14 16 := pm_FL.ofR (C := RX10) (T := TX10) 2065 rfl (by decide) rfl rfl rfl
theorem fl_X10_56 : pm_FL RX10 56 10 15 16 := pm_FL.ofR (C := RX10) (T := TX10) 2067 rfl (by decide) rfl rfl rfl
theorem fl_X10_59 : pm_FL RX10 59 10 0 16 := pm_FL.ofR (C := RX10) (T := TX10) 2046 rfl (by decide) rfl rfl rfl
theorem fl_X10_63 : pm_FL RX10 63 5 4 13 := pm_FL.ofR (C := RX5) (T := TX5) 1152 rfl (by decide) rfl rfl rfl
theorem fl_X10_66 : pm_FL RX10 66 5 5 13 := pm_FL.ofR (C := RX5) (T := TX5) 1155 rfl (by decide) rfl rfl rfl
theorem fl_X10_75 : pm_FL RX10 75 5 6 13 := pm_FL.ofR (C := RX5) (T := TX5) 1158 rfl (by decide) rfl rfl rfl
theorem fl_X10_76 : pm_FL RX10 76 5 7 13 := pm_FL.ofR (C := RX5) (T := TX5) 1161 rfl (by decide) rfl rfl rfl
theorem fl_X10_79 : pm_FL RX10 79 5 0 13 := pm_FL.ofR (C := RX5) (T := TX5) 1136 rfl (by decide) rfl rfl rfl
theorem fl_X10_82 : pm_FL RX10 82 5 1 13 := pm_FL.ofR (C := RX5) (T := TX5) 1140 rfl (by decide) rfl rfl rfl
theorem fl_X10_90 : pm_FL RX10 90 5 3 13 := pm_FL.ofR (C := RX5) (T := TX5) 1148 rfl (by decide) rfl rfl rfl
theorem fl_X10_93 : pm_FL RX10 93 5 2 13 := pm_FL.ofR (C := RX5) (T := TX5) 1144 rfl (by decide) rfl rfl rfl
theorem fl_X10_100 : pm_FL RX10 100 5 9 13 := pm_FL.ofR (C := RX5) (T := TX5) 1167 rfl (by decide) rfl rfl rfl
theorem fl_X12_9 : pm_FL RX12 9 12 0 58 := pm_FL.ofR (C := RX12) (T := TX12) 5121 rfl (by decide) rfl rfl rfl
theorem fl_X12_13 : pm_FL RX12 13 12 7 58 := pm_FL.ofR (C := RX12) (T := TX12) 5128 rfl (by decide) rfl rfl rfl
theorem fl_X12_17 : pm_FL RX12 17 12 8 58 := pm_FL.ofR (C := RX12) (T := TX12) 5129 rfl (by decide) rfl rfl rfl
theorem fl_X12_21 : pm_FL RX12 21 12 9 58 := pm_FL.ofR (C := RX12) (T := TX12) 5130 rfl (by decide) rfl rfl rfl
theorem fl_X12_25 : pm_FL RX12 25 12 10 58 := pm_FL.ofR (C := RX12) (T := TX12) 5131 rfl (by decide) rfl rfl rfl
theorem fl_X12_28 : pm_FL RX12 28 12 14 58 := pm_FL.ofR (C := RX12) (T := TX12) 5135 rfl (by decide) rfl rfl rfl
theorem fl_X12_31 : pm_FL RX12 31 12 17 58 := pm_FL.ofR (C := RX12) (T := TX12) 5138 rfl (by decide) rfl rfl rfl
theorem fl_X12_34 : pm_FL RX12 34 12 18 58 := pm_FL.ofR (C := RX12) (T := TX12) 5139 rfl (by decide) rfl rfl rfl
theorem fl_X12_37 : pm_FL RX12 37 12 22 58 := pm_FL.ofR (C := RX12) (T := TX12) 5143 rfl (by decide) rfl rfl rfl
theorem fl_X12_40 : pm_FL RX12 40 12 24 58 := pm_FL.ofR (C := RX12) (T := TX12) 5145 rfl (by decide) rfl rfl rfl
theorem fl_X12_43 : pm_FL RX12 43 12 26 58 := pm_FL.ofR (C := RX12) (T := TX12) 5147 rfl (by decide) rfl rfl rfl
theorem fl_X12_46 : pm_FL RX12 46 12 27 58 := pm_FL.ofR (C := RX12) (T := TX12) 5148 rfl (by decide) rfl rfl rfl
theorem fl_X12_49 : pm_FL RX12 49 12 28 58 := pm_FL.ofR (C := RX12) (T := TX12) 5149 rfl (by decide) rfl rfl rfl
theorem fl_X12_52 : pm_FL RX12 52 12 29 58 := pm_FL.ofR (C := RX12) (T := TX12) 5150 rfl (by decide) rfl rfl rfl
theorem fl_X12_55 : pm_FL RX12 55 12 30 58 := pm_FL.ofR (C := RX12) (T := TX12) 5151 rfl (by decide) rfl rfl rfl
theorem fl_X12_58 : pm_FL RX12 58 12 31 58 := pm_FL.ofR (C := RX12) (T := TX12) 5152 rfl (by decide) rfl rfl rfl
theorem fl_X12_61 : pm_FL RX12 61 12 34 58 := pm_FL.ofR (C := RX12) (T := TX12) 5155 rfl (by decide) rfl rfl rfl
theorem fl_X12_64 : pm_FL RX12 64 12 36 58 := pm_FL.ofR (C := RX12) (T := TX12) 5157 rfl (by decide) rfl rfl rfl
theorem fl_X12_67 : pm_FL RX12 67 12 38 58 := pm_FL.ofR (C := RX12) (T := TX12) 5159 rfl (by decide) rfl rfl rfl
theorem fl_X12_70 : pm_FL RX12 70 12 40 58 := pm_FL.ofR (C := RX12) (T := TX12) 5161 rfl (by decide) rfl rfl rfl
theorem fl_X12_73 : pm_FL RX12 73 12 41 58 := pm_FL.ofR (C := RX12) (T := TX12) 5162 rfl (by decide) rfl rfl rfl
theorem fl_X12_76 : pm_FL RX12 76 12 50 58 := pm_FL.ofR (C := RX12) (T := TX12) 5171 rfl (by decide) rfl rfl rfl
theorem fl_X12_79 : pm_FL RX12 79 12 52 58 := pm_FL.ofR (C := RX12) (T := TX12) 5173 rfl (by decide) rfl rfl rfl
theorem fl_X12_82 : pm_FL RX12 82 12 53 58 := pm_FL.ofR (C := RX12) (T := TX12) 5174 rfl (by decide) rfl rfl rfl
theorem fl_X12_85 : pm_FL RX12 85 12 54 58 := pm_FL.ofR (C := RX12) (T := TX12) 5175 rfl (by decide) rfl rfl rfl
theorem fl_X12_88 : pm_FL RX12 88 12 55 58 := pm_FL.ofR (C := RX12) (T := TX12) 5176 rfl (by decide) rfl rfl rfl
theorem fl_X12_91 : pm_FL RX12 91 12 56 58 := pm_FL.ofR (C := RX12) (T := TX12) 5177 rfl (by decide) rfl rfl rfl
theorem fl_X12_94 : pm_FL RX12 94 12 1 58 := pm_FL.ofR (C := RX12) (T := TX12) 5122 rfl (by decide) rfl rfl rfl
theorem fl_X12_102 : pm_FL RX12 102 12 2 58 := pm_FL.ofR (C := RX12) (T := TX12) 5123 rfl (by decide) rfl rfl rfl
theorem fl_X12_105 : pm_FL RX12 105 12 4 58 := pm_FL.ofR (C := RX12) (T := TX12) 5125 rfl (by decide) rfl rfl rfl
theorem fl_X12_108 : pm_FL RX12 108 12 5 58 := pm_FL.ofR (C := RX12) (T := TX12) 5126 rfl (by decide) rfl rfl rfl
theorem fl_X12_112 : pm_FL RX12 112 12 3 58 := pm_FL.ofR (C := RX12) (T := TX12) 5124 rfl (by decide) rfl rfl rfl
theorem fl_X12_151 : pm_FL RX12 151 12 37 58 := pm_FL.ofR (C := RX12) (T := TX12) 5158 rfl (by decide) rfl rfl rfl
theorem fl_X12_169 : pm_FL RX12 169 12 6 58 := pm_FL.ofR (C := RX12) (T := TX12) 5127 rfl (by decide) rfl rfl rfl
theorem fl_X12_186 : pm_FL RX12 186 12 11 58 := pm_FL.ofR (C := RX12) (T := TX12) 5132 rfl (by decide) rfl rfl rfl
theorem fl_X12_189 : pm_FL RX12 189 12 12 58 := pm_FL.ofR (C := RX12) (T := TX12) 5133 rfl (by decide) rfl rfl rfl
theorem fl_X12_192 : pm_FL RX12 192 12 13 58 := pm_FL.ofR (C := RX12) (T := TX12) 5134 rfl (by decide) rfl rfl rfl
theorem fl_X12_216 : pm_FL RX12 216 12 15 58 := pm_FL.ofR (C := RX12) (T := TX12) 5136 rfl (by decide) rfl rfl rfl
theorem fl_X12_220 : pm_FL RX12 220 12 16 58 := pm_FL.ofR (C := RX12) (T := TX12) 5137 rfl (by decide) rfl rfl rfl
theorem fl_X12_223 : pm_FL RX12 223 12 21 58 := pm_FL.ofR (C := RX12) (T := TX12) 5142 rfl (by decide) rfl rfl rfl
theorem fl_X12_226 : pm_FL RX12 226 12 19 58 := pm_FL.ofR (C := RX12) (T := TX12) 5140 rfl (by decide) rfl rfl rfl
theorem fl_X12_229 : pm_FL RX12 229 12 20 58 := pm_FL.ofR (C := RX12) (T := TX12) 5141 rfl (by decide) rfl rfl rfl
theorem fl_X12_232 : pm_FL RX12 232 12 23 58 := pm_FL.ofR (C := RX12) (T := TX12) 5144 rfl (by decide) rfl rfl rfl
theorem fl_X12_235 : pm_FL RX12 235 12 25 58 := pm_FL.ofR (C := RX12) (T := TX12) 5146 rfl (by decide) rfl rfl rfl
theorem fl_X12_238 : pm_FL RX12 238 12 33 58 := pm_FL.ofR (C := RX12) (T := TX12) 5154 rfl (by decide) rfl rfl rfl
theorem fl_X12_241 : pm_FL RX12 241 12 39 58 := pm_FL.ofR (C := RX12) (T := TX12) 5160 rfl (by decide) rfl rfl rfl
theorem fl_X12_271 : pm_FL RX12 271 12 32 58 := pm_FL.ofR (C := RX12) (T := TX12) 5153 rfl (by decide) rfl rfl rfl
theorem fl_X12_296 : pm_FL RX12 296 12 35 58 := pm_FL.ofR (C := RX12) (T := TX12) 5156 rfl (by decide) rfl rfl rfl
theorem fl_X12_305 : pm_FL RX12 305 12 48 58 := pm_FL.ofR (C := RX12) (T := TX12) 5169 rfl (by decide) rfl rfl rfl
theorem fl_X12_308 : pm_FL RX12 308 12 49 58 := pm_FL.ofR (C := RX12) (T := TX12) 5170 rfl (by decide) rfl rfl rfl
theorem fl_X12_317 : pm_FL RX12 317 12 42 58 := pm_FL.ofR (C := RX12) (T := TX12) 5163 rfl (by decide) rfl rfl rfl
theorem fl_X12_320 : pm_FL RX12 320 12 43 58 := pm_FL.ofR (C := RX12) (T := TX12) 5164 rfl (by decide) rfl rfl rfl
theorem fl_X12_323 : pm_FL RX12 323 12 47 58 := pm_FL.ofR (C := RX12) (T := TX12) 5168 rfl (by decide) rfl rfl rfl
theorem fl_X12_326 : pm_FL RX12 326 12 44 58 := pm_FL.ofR (C := RX12) (T := TX12) 5165 rfl (by decide) rfl rfl rfl
theorem fl_X12_329 : pm_FL RX12 329 12 45 58 := pm_FL.ofR (C := RX12) (T := TX12) 5166 rfl (by decide) rfl rfl rfl
theorem fl_X12_332 : pm_FL RX12 332 12 46 58 := pm_FL.ofR (C := RX12) (T := TX12) 5167 rfl (by decide) rfl rfl rfl
theorem fl_X12_362 : pm_FL RX12 362 12 51 58 := pm_FL.ofR (C := RX12) (T := TX12) 5172 rfl (by decide) rfl rfl rfl
theorem fl_X12_464 : pm_FL RX12 464 12 57 58 := pm_FL.ofR (C := RX12) (T := TX12) 5178 rfl (by decide) rfl rfl rfl
theorem lc_0 : pm_LC "LipsVoice$Tokens" := ⟨pm_inR 1003 rfl rfl, by decide +kernel, by decide +kernel⟩
theorem ld_0 : pm_LD "(LLipsVoice$Text;)V" 1 := by unfold pm_LD; decide +kernel
theorem lm_X11_18 : pm_LM RX11 18 yX9_init cX9_init 2 none false 1 := pm_LM.ofR 1048 1046 rfl lc_0 ld_0 rfl rfl
theorem ln_X9_init : Cond.instanceMethod yX9_init ∈ pm_all := pm_inR 1047 rfl rfl
theorem lc_1 : pm_LC "LipsVoice$SceneReader" := ⟨pm_inR 1007 rfl rfl, by decide +kernel, by decide +kernel⟩
theorem ld_1 : pm_LD "(LLipsVoice$Tokens;LLipsVoice$Scene;)V" 2 := by unfold pm_LD; decide +kernel
theorem lm_X11_54 : pm_LM RX11 54 yX6_init cX6_init 3 none false 2 := pm_LM.ofR 2003 2001 rfl lc_1 ld_1 rfl rfl
theorem ln_X6_init : Cond.instanceMethod yX6_init ∈ pm_all := pm_inR 2002 rfl rfl
theorem lc_2 : pm_LC "LipsVoice$RulesReader" := ⟨pm_inR 1008 rfl rfl, by decide +kernel, by decide +kernel⟩
theorem ld_2 : pm_LD "(LLipsVoice$Tokens;LLipsVoice$Rules;)V" 2 := by unfold pm_LD; decide +kernel
theorem lm_X11_63 : pm_LM RX11 63 yX3_init cX3_init 3 none false 2 := pm_LM.ofR 2031 2029 rfl lc_2 ld_2 rfl rfl
theorem ln_X3_init : Cond.instanceMethod yX3_init ∈ pm_all := pm_inR 2030 rfl rfl
theorem lc_3 : pm_LC "LipsVoice$Trial" := ⟨pm_inR 1009 rfl rfl, by decide +kernel, by decide +kernel⟩
theorem ld_3 : pm_LD "(LLipsVoice$Scene;)V" 1 := by unfold pm_LD; decide +kernel
theorem lm_X11_72 : pm_LM RX11 72 yX10_init cX10_init 2 none false 1 := pm_LM.ofR 2044 2042 rfl lc_3 ld_3 rfl rfl
theorem ln_X10_init : Cond.instanceMethod yX10_init ∈ pm_all := pm_inR 2043 rfl rfl
theorem lc_4 : pm_LC "LipsVoice$Text" := ⟨pm_inR 1002 rfl rfl, by decide +kernel, by decide +kernel⟩
theorem ld_4 : pm_LD "(I)V" 1 := by unfold pm_LD; decide +kernel
theorem lm_X11_114 : pm_LM RX11 114 yX8_add cX8_add 3 none false 1 := pm_LM.ofR 2206 2203 rfl lc_4 ld_4 rfl rfl
theorem li_X8_add : pm_LI yX8_add RX8 := ⟨pm_inR 2204 rfl rfl, pm_inR 2205 rfl rfl⟩
theorem ld_5 : pm_LD "(LLipsVoice$Scene;)I" 1 := by unfold pm_LD; decide +kernel
theorem lm_X11_118 : pm_LM RX11 118 yX6_read cX6_read 4 (some .int) false 1 := pm_LM.ofR 2218 2215 rfl lc_1 ld_5 rfl rfl
theorem li_X6_read : pm_LI yX6_read RX6 := ⟨pm_inR 2216 rfl rfl, pm_inR 2217 rfl rfl⟩
theorem ld_6 : pm_LD "(LLipsVoice$Rules;)I" 1 := by unfold pm_LD; decide +kernel
theorem lm_X11_122 : pm_LM RX11 122 yX3_read cX3_read 4 (some .int) false 1 := pm_LM.ofR 3085 3082 rfl lc_2 ld_6 rfl rfl
theorem li_X3_read : pm_LI yX3_read RX3 := ⟨pm_inR 3083 rfl rfl, pm_inR 3084 rfl rfl⟩
theorem lc_5 : pm_LC "LipsVoice$Sheet" := ⟨pm_inR 1004 rfl rfl, by decide +kernel, by decide +kernel⟩
theorem lm_X11_129 : pm_LM RX11 129 yX7_begin cX7_begin 2 none false 1 := pm_LM.ofR 3161 3158 rfl lc_5 ld_4 rfl rfl
theorem li_X7_begin : pm_LI yX7_begin RX7 := ⟨pm_inR 3159 rfl rfl, pm_inR 3160 rfl rfl⟩
theorem lc_6 : pm_LC "LipsVoice" := ⟨pm_inR 1001 rfl rfl, by decide +kernel, by decide +kernel⟩
theorem ld_7 : pm_LD "(I)Z" 1 := by unfold pm_LD; decide +kernel
theorem lm_X11_142 : pm_LM RX11 142 yX11_isSound cX11_isSound 2 (some .boolean) false 1 := pm_LM.ofR 3181 3178 rfl lc_6 ld_7 rfl rfl
theorem li_X11_isSound : pm_LI yX11_isSound RX11 := ⟨pm_inR 3180 rfl rfl, pm_inR 19 rfl rfl⟩
theorem ld_8 : pm_LD "()Z" 0 := by unfold pm_LD; decide +kernel
theorem lm_X11_165 : pm_LM RX11 165 yX11_hasScene cX11_hasScene 1 (some .boolean) false 0 := pm_LM.ofR 3189 3186 rfl lc_6 ld_8 rfl rfl
theorem li_X11_hasScene : pm_LI yX11_hasScene RX11 := ⟨pm_inR 3188 rfl rfl, pm_inR 20 rfl rfl⟩
theorem ld_9 : pm_LD "(II)Z" 2 := by unfold pm_LD; decide +kernel
theorem lm_X11_172 : pm_LM RX11 172 yX11_areChanges cX11_areChanges 2 (some .boolean) false 2 := pm_LM.ofR 3196 3194 rfl lc_6 ld_9 rfl rfl
theorem ls_X11_areChanges : pm_LS yX11_areChanges := pm_inR 3195 rfl rfl
theorem lm_X11_176 : pm_LM RX11 176 yX11_isBelief cX11_isBelief 1 (some .boolean) false 1 := pm_LM.ofR 3199 3197 rfl lc_6 ld_7 rfl rfl
theorem ls_X11_isBelief : pm_LS yX11_isBelief := pm_inR 3198 rfl rfl
theorem ld_10 : pm_LD "(IIII)I" 4 := by unfold pm_LD; decide +kernel
theorem lm_X11_179 : pm_LM RX11 179 yX7_addPerson cX7_addPerson 5 (some .int) false 4 := pm_LM.ofR 3165 3200 rfl lc_5 ld_10 rfl rfl
theorem li_X7_addPerson : pm_LI yX7_addPerson RX7 := ⟨pm_inR 3163 rfl rfl, pm_inR 3164 rfl rfl⟩
theorem lm_X11_183 : pm_LM RX11 183 yX11_isPerson cX11_isPerson 2 (some .boolean) false 1 := pm_LM.ofR 3208 3205 rfl lc_6 ld_7 rfl rfl
theorem li_X11_isPerson : pm_LI yX11_isPerson RX11 := ⟨pm_inR 3207 rfl rfl, pm_inR 21 rfl rfl⟩
theorem ld_11 : pm_LD "(IIII)V" 4 := by unfold pm_LD; decide +kernel
theorem lm_X11_197 : pm_LM RX11 197 yX7_changePerson cX7_changePerson 5 none false 4 := pm_LM.ofR 3169 3213 rfl lc_5 ld_11 rfl rfl
theorem li_X7_changePerson : pm_LI yX7_changePerson RX7 := ⟨pm_inR 3167 rfl rfl, pm_inR 3168 rfl rfl⟩
theorem ld_12 : pm_LD "(IIII)Z" 4 := by unfold pm_LD; decide +kernel
theorem lm_X11_201 : pm_LM RX11 201 yX11_weighs cX11_weighs 5 (some .boolean) false 4 := pm_LM.ofR 3221 3218 rfl lc_6 ld_12 rfl rfl
theorem li_X11_weighs : pm_LI yX11_weighs RX11 := ⟨pm_inR 3220 rfl rfl, pm_inR 22 rfl rfl⟩
theorem ld_13 : pm_LD "(I)I" 1 := by unfold pm_LD; decide +kernel
theorem lm_X11_211 : pm_LM RX11 211 yX10_chanceOf cX10_chanceOf 2 (some .int) false 1 := pm_LM.ofR 4078 4075 rfl lc_3 ld_13 rfl rfl
theorem li_X10_chanceOf : pm_LI yX10_chanceOf RX10 := ⟨pm_inR 4076 rfl rfl, pm_inR 4077 rfl rfl⟩
theorem lm_X11_215 : pm_LM RX11 215 yX11_isKind cX11_isKind 1 (some .boolean) false 1 := pm_LM.ofR 4089 4087 rfl lc_6 ld_7 rfl rfl
theorem ls_X11_isKind : pm_LS yX11_isKind := pm_inR 4088 rfl rfl
theorem lm_X11_218 : pm_LM RX11 218 yX10_chanceOfKind cX10_chanceOfKind 5 (some .int) false 1 := pm_LM.ofR 4093 4090 rfl lc_3 ld_13 rfl rfl
theorem li_X10_chanceOfKind : pm_LI yX10_chanceOfKind RX10 := ⟨pm_inR 4091 rfl rfl, pm_inR 4092 rfl rfl⟩
theorem ld_14 : pm_LD "()I" 0 := by unfold pm_LD; decide +kernel
theorem lm_X11_221 : pm_LM RX11 221 yX10_mostLikely cX10_mostLikely 3 (some .int) false 0 := pm_LM.ofR 4044 4101 rfl lc_3 ld_14 rfl rfl
theorem li_X10_mostLikely : pm_LI yX10_mostLikely RX10 := ⟨pm_inR 4042 rfl rfl, pm_inR 4043 rfl rfl⟩
theorem ld_15 : pm_LD "(III)Z" 3 := by unfold pm_LD; decide +kernel
theorem lm_X11_225 : pm_LM RX11 225 yX11_isTrial cX11_isTrial 5 (some .boolean) false 3 := pm_LM.ofR 3228 3225 rfl lc_6 ld_15 rfl rfl
theorem li_X11_isTrial : pm_LI yX11_isTrial RX11 := ⟨pm_inR 3227 rfl rfl, pm_inR 23 rfl rfl⟩
theorem ld_16 : pm_LD "(III)V" 3 := by unfold pm_LD; decide +kernel
theorem lm_X11_229 : pm_LM RX11 229 yX11_pose cX11_pose 5 none false 3 := pm_LM.ofR 3238 3235 rfl lc_6 ld_16 rfl rfl
theorem li_X11_pose : pm_LI yX11_pose RX11 := ⟨pm_inR 3237 rfl rfl, pm_inR 24 rfl rfl⟩
theorem lm_X11_233 : pm_LM RX11 233 yX10_chanceNoticed cX10_chanceNoticed 5 (some .int) false 0 := pm_LM.ofR 4109 4106 rfl lc_3 ld_14 rfl rfl
theorem li_X10_chanceNoticed : pm_LI yX10_chanceNoticed RX10 := ⟨pm_inR 4107 rfl rfl, pm_inR 4108 rfl rfl⟩
theorem ld_17 : pm_LD "(IIIIZ)V" 5 := by unfold pm_LD; decide +kernel
theorem lm_X11_236 : pm_LM RX11 236 yX7_addAnswer cX7_addAnswer 6 none false 5 := pm_LM.ofR 4117 4114 rfl lc_5 ld_17 rfl rfl
theorem li_X7_addAnswer : pm_LI yX7_addAnswer RX7 := ⟨pm_inR 4115 rfl rfl, pm_inR 4116 rfl rfl⟩
theorem lm_X11_240 : pm_LM RX11 240 yX7_isAnswer cX7_isAnswer 2 (some .boolean) false 1 := pm_LM.ofR 4129 4126 rfl lc_5 ld_7 rfl rfl
theorem li_X7_isAnswer : pm_LI yX7_isAnswer RX7 := ⟨pm_inR 4127 rfl rfl, pm_inR 4128 rfl rfl⟩
theorem lm_X11_259 : pm_LM RX11 259 yX7_kindOfAnswer cX7_kindOfAnswer 2 (some .int) false 1 := pm_LM.ofR 4133 4130 rfl lc_5 ld_13 rfl rfl
theorem li_X7_kindOfAnswer : pm_LI yX7_kindOfAnswer RX7 := ⟨pm_inR 4131 rfl rfl, pm_inR 4132 rfl rfl⟩
theorem lm_X11_262 : pm_LM RX11 262 yX11_isLaw cX11_isLaw 1 (some .boolean) false 1 := pm_LM.ofR 3224 3222 rfl lc_6 ld_7 rfl rfl
theorem ls_X11_isLaw : pm_LS yX11_isLaw := pm_inR 3223 rfl rfl
theorem lm_X11_265 : pm_LM RX11 265 yX11_isPersonOrAll cX11_isPersonOrAll 2 (some .boolean) false 1 := pm_LM.ofR 4142 4139 rfl lc_6 ld_7 rfl rfl
theorem li_X11_isPersonOrAll : pm_LI yX11_isPersonOrAll RX11 := ⟨pm_inR 4141 rfl rfl, pm_inR 36 rfl rfl⟩
theorem ld_18 : pm_LD "(LLipsVoice$Chances;II)V" 3 := by unfold pm_LD; decide +kernel
theorem lm_X11_268 : pm_LM RX11 268 yX11_gather cX11_gather 5 none false 3 := pm_LM.ofR 4146 4143 rfl lc_6 ld_18 rfl rfl
theorem li_X11_gather : pm_LI yX11_gather RX11 := ⟨pm_inR 4145 rfl rfl, pm_inR 37 rfl rfl⟩
theorem lc_7 : pm_LC "LipsVoice$Scale" := ⟨pm_inR 1010 rfl rfl, by decide +kernel, by decide +kernel⟩
theorem ld_19 : pm_LD "(LLipsVoice$Chances;LLipsVoice$Chances;)I" 2 := by unfold pm_LD; decide +kernel
theorem lm_X11_272 : pm_LM RX11 272 yX4_compareProducts cX4_compareProducts 8 (some .int) false 2 := pm_LM.ofR 4154 4151 rfl lc_7 ld_19 rfl rfl
theorem li_X4_compareProducts : pm_LI yX4_compareProducts RX4 := ⟨pm_inR 4152 rfl rfl, pm_inR 4153 rfl rfl⟩
theorem lm_X11_276 : pm_LM RX11 276 yX11_keepsTried cX11_keepsTried 2 (some .boolean) false 0 := pm_LM.ofR 4197 4194 rfl lc_6 ld_8 rfl rfl
theorem li_X11_keepsTried : pm_LI yX11_keepsTried RX11 := ⟨pm_inR 4196 rfl rfl, pm_inR 39 rfl rfl⟩
theorem lm_X11_279 : pm_LM RX11 279 yX11_findOwnOdds cX11_findOwnOdds 6 (some .int) false 1 := pm_LM.ofR 4205 4202 rfl lc_6 ld_13 rfl rfl
theorem li_X11_findOwnOdds : pm_LI yX11_findOwnOdds RX11 := ⟨pm_inR 4204 rfl rfl, pm_inR 40 rfl rfl⟩
theorem lm_X11_282 : pm_LM RX11 282 yX11_findOwnSpans cX11_findOwnSpans 5 none false 1 := pm_LM.ofR 4213 4210 rfl lc_6 ld_4 rfl rfl
theorem li_X11_findOwnSpans : pm_LI yX11_findOwnSpans RX11 := ⟨pm_inR 4212 rfl rfl, pm_inR 42 rfl rfl⟩
theorem lm_X11_285 : pm_LM RX11 285 yX11_isLandOrAll cX11_isLandOrAll 1 (some .boolean) false 1 := pm_LM.ofR 4225 4223 rfl lc_6 ld_7 rfl rfl
theorem ls_X11_isLandOrAll : pm_LS yX11_isLandOrAll := pm_inR 4224 rfl rfl
theorem lm_X11_288 : pm_LM RX11 288 yX11_countOfLand cX11_countOfLand 4 (some .int) false 1 := pm_LM.ofR 4229 4226 rfl lc_6 ld_13 rfl rfl
theorem li_X11_countOfLand : pm_LI yX11_countOfLand RX11 := ⟨pm_inR 4228 rfl rfl, pm_inR 44 rfl rfl⟩
theorem lm_X11_291 : pm_LM RX11 291 yX11_isOfLand cX11_isOfLand 3 (some .boolean) false 2 := pm_LM.ofR 4233 4230 rfl lc_6 ld_9 rfl rfl
theorem li_X11_isOfLand : pm_LI yX11_isOfLand RX11 := ⟨pm_inR 4232 rfl rfl, pm_inR 45 rfl rfl⟩
theorem lm_X11_294 : pm_LM RX11 294 yX10_weigh cX10_weigh 2 none false 1 := pm_LM.ofR 4028 4025 rfl lc_3 ld_4 rfl rfl
theorem li_X10_weigh : pm_LI yX10_weigh RX10 := ⟨pm_inR 4026 rfl rfl, pm_inR 4027 rfl rfl⟩
theorem lm_X11_297 : pm_LM RX11 297 yX11_isSetting cX11_isSetting 1 (some .boolean) false 1 := pm_LM.ofR 3231 3229 rfl lc_6 ld_7 rfl rfl
theorem ls_X11_isSetting : pm_LS yX11_isSetting := pm_inR 3230 rfl rfl
theorem lm_X11_300 : pm_LM RX11 300 yX11_isLate cX11_isLate 1 (some .boolean) false 1 := pm_LM.ofR 3234 3232 rfl lc_6 ld_7 rfl rfl
theorem ls_X11_isLate : pm_LS yX11_isLate := pm_inR 3233 rfl rfl
theorem lm_X11_303 : pm_LM RX11 303 yX11_isPair cX11_isPair 7 (some .boolean) false 4 := pm_LM.ofR 5005 5002 rfl lc_6 ld_12 rfl rfl
theorem li_X11_isPair : pm_LI yX11_isPair RX11 := ⟨pm_inR 5004 rfl rfl, pm_inR 46 rfl rfl⟩
theorem ld_20 : pm_LD "(II)V" 2 := by unfold pm_LD; decide +kernel
theorem lm_X11_306 : pm_LM RX11 306 yX10_trustAt cX10_trustAt 4 none false 2 := pm_LM.ofR 4024 4021 rfl lc_3 ld_20 rfl rfl
theorem li_X10_trustAt : pm_LI yX10_trustAt RX10 := ⟨pm_inR 4022 rfl rfl, pm_inR 4023 rfl rfl⟩
theorem ld_21 : pm_LD "(III)I" 3 := by unfold pm_LD; decide +kernel
theorem lm_X11_310 : pm_LM RX11 310 yX11_sumRight cX11_sumRight 6 (some .int) false 3 := pm_LM.ofR 5018 5015 rfl lc_6 ld_21 rfl rfl
theorem li_X11_sumRight : pm_LI yX11_sumRight RX11 := ⟨pm_inR 5017 rfl rfl, pm_inR 47 rfl rfl⟩
theorem lm_X11_314 : pm_LM RX11 314 yX11_areLaws cX11_areLaws 1 (some .boolean) false 1 := pm_LM.ofR 5029 5027 rfl lc_6 ld_7 rfl rfl
theorem ls_X11_areLaws : pm_LS yX11_areLaws := pm_inR 5028 rfl rfl
theorem ld_22 : pm_LD "(II)I" 2 := by unfold pm_LD; decide +kernel
theorem lm_X11_317 : pm_LM RX11 317 yX10_partedBy cX10_partedBy 9 (some .int) false 2 := pm_LM.ofR 5033 5030 rfl lc_3 ld_22 rfl rfl
theorem li_X10_partedBy : pm_LI yX10_partedBy RX10 := ⟨pm_inR 5031 rfl rfl, pm_inR 5032 rfl rfl⟩
theorem lm_X11_321 : pm_LM RX11 321 yX11_fillAtoms cX11_fillAtoms 2 none false 1 := pm_LM.ofR 5054 5051 rfl lc_6 ld_4 rfl rfl
theorem li_X11_fillAtoms : pm_LI yX11_fillAtoms RX11 := ⟨pm_inR 5053 rfl rfl, pm_inR 48 rfl rfl⟩
theorem lc_8 : pm_LC "LipsVoice$Rules" := ⟨pm_inR 1006 rfl rfl, by decide +kernel, by decide +kernel⟩
theorem ld_23 : pm_LD "(I[J)Z" 2 := by unfold pm_LD; decide +kernel
theorem lm_X11_324 : pm_LM RX11 324 yX2_holds cX2_holds 6 (some .boolean) false 2 := pm_LM.ofR 5058 5055 rfl lc_8 ld_23 rfl rfl
theorem li_X2_holds : pm_LI yX2_holds RX2 := ⟨pm_inR 5056 rfl rfl, pm_inR 5057 rfl rfl⟩
theorem lm_X11_332 : pm_LM RX11 332 yX11_drawAnswer cX11_drawAnswer 12 none false 2 := pm_LM.ofR 5088 5085 rfl lc_6 ld_20 rfl rfl
theorem li_X11_drawAnswer : pm_LI yX11_drawAnswer RX11 := ⟨pm_inR 5087 rfl rfl, pm_inR 52 rfl rfl⟩
theorem ld_24 : pm_LD "(LLipsVoice$Sheet;)V" 1 := by unfold pm_LD; decide +kernel
theorem lm_X11_335 : pm_LM RX11 335 yX7_copyFrom cX7_copyFrom 3 none false 1 := pm_LM.ofR 5110 5107 rfl lc_5 ld_24 rfl rfl
theorem li_X7_copyFrom : pm_LI yX7_copyFrom RX7 := ⟨pm_inR 5108 rfl rfl, pm_inR 5109 rfl rfl⟩
theorem lm_X11_341 : pm_LM RX11 341 yX11_poseAs cX11_poseAs 5 none false 4 := pm_LM.ofR 4002 3239 rfl lc_6 ld_11 rfl rfl
theorem li_X11_poseAs : pm_LI yX11_poseAs RX11 := ⟨pm_inR 4001 rfl rfl, pm_inR 25 rfl rfl⟩
theorem ld_25 : pm_LD "(LLipsVoice$Scene;II)V" 3 := by unfold pm_LD; decide +kernel
theorem lm_X11_344 : pm_LM RX11 344 yX10_place cX10_place 4 none false 3 := pm_LM.ofR 4006 4003 rfl lc_3 ld_25 rfl rfl
theorem li_X10_place : pm_LI yX10_place RX10 := ⟨pm_inR 4004 rfl rfl, pm_inR 4005 rfl rfl⟩
theorem lm_X11_348 : pm_LM RX11 348 yX10_spread cX10_spread 9 none false 2 := pm_LM.ofR 4010 4007 rfl lc_3 ld_20 rfl rfl
theorem li_X10_spread : pm_LI yX10_spread RX10 := ⟨pm_inR 4008 rfl rfl, pm_inR 4009 rfl rfl⟩
theorem lm_X11_351 : pm_LM RX11 351 yX11_kindOfSaid cX11_kindOfSaid 3 (some .int) false 3 := pm_LM.ofR 4096 5006 rfl lc_6 ld_21 rfl rfl
theorem ls_X11_kindOfSaid : pm_LS yX11_kindOfSaid := pm_inR 4095 rfl rfl
theorem lc_9 : pm_LC "java/lang/Math" := ⟨pm_inR 1018 rfl rfl, by decide +kernel, by decide +kernel⟩
theorem lm_X11_366 : pm_LM RX11 366 yJ9_abs_0f7a4 cJ9_abs_0f7a4 1 (some .int) false 1 := pm_LM.ofR 4016 4214 rfl lc_9 ld_13 rfl rfl
theorem ls_J9_abs_0f7a4 : pm_LS yJ9_abs_0f7a4 := pm_inR 4015 rfl rfl
theorem lc_10 : pm_LC "LipsVoice$Chances" := ⟨pm_inR 1012 rfl rfl, by decide +kernel, by decide +kernel⟩
theorem ld_26 : pm_LD "(JJ)V" 2 := by unfold pm_LD; decide +kernel
theorem lm_X11_374 : pm_LM RX11 374 yX0_add cX0_add 5 none false 2 := pm_LM.ofR 4150 4147 rfl lc_10 ld_26 rfl rfl
theorem li_X0_add : pm_LI yX0_add RX0 := ⟨pm_inR 4148 rfl rfl, pm_inR 4149 rfl rfl⟩
theorem ld_27 : pm_LD "(LLipsVoice$Chances;IIII)V" 5 := by unfold pm_LD; decide +kernel
theorem lm_X11_377 : pm_LM RX11 377 yX11_gatherOdds cX11_gatherOdds 7 none false 5 := pm_LM.ofR 4209 4206 rfl lc_6 ld_27 rfl rfl
theorem li_X11_gatherOdds : pm_LI yX11_gatherOdds RX11 := ⟨pm_inR 4208 rfl rfl, pm_inR 41 rfl rfl⟩
theorem lm_X11_381 : pm_LM RX11 381 yX11_trySpans cX11_trySpans 4 none false 3 := pm_LM.ofR 4218 4215 rfl lc_6 ld_16 rfl rfl
theorem li_X11_trySpans : pm_LI yX11_trySpans RX11 := ⟨pm_inR 4217 rfl rfl, pm_inR 43 rfl rfl⟩
theorem ld_28 : pm_LD "(J)I" 1 := by unfold pm_LD; decide +kernel
theorem lm_X11_392 : pm_LM RX11 392 yX11_lotBelow cX11_lotBelow 3 (some .int) false 1 := pm_LM.ofR 5092 5089 rfl lc_6 ld_28 rfl rfl
theorem li_X11_lotBelow : pm_LI yX11_lotBelow RX11 := ⟨pm_inR 5091 rfl rfl, pm_inR 53 rfl rfl⟩
theorem lm_X11_400 : pm_LM RX11 400 yX10_saidAt cX10_saidAt 6 (some .int) false 1 := pm_LM.ofR 5102 5099 rfl lc_3 ld_28 rfl rfl
theorem li_X10_saidAt : pm_LI yX10_saidAt RX10 := ⟨pm_inR 5100 rfl rfl, pm_inR 5101 rfl rfl⟩
theorem ld_29 : pm_LD "(J)V" 1 := by unfold pm_LD; decide +kernel
theorem lm_X2_38 : pm_LM RX2 38 yX2_push cX2_push 3 none false 1 := pm_LM.ofR 5062 5059 rfl lc_8 ld_29 rfl rfl
theorem li_X2_push : pm_LI yX2_push RX2 := ⟨pm_inR 5061 rfl rfl, pm_inR 49 rfl rfl⟩
theorem lm_X2_42 : pm_LM RX2 42 yX2_applies cX2_applies 6 (some .boolean) false 1 := pm_LM.ofR 5066 5063 rfl lc_8 ld_7 rfl rfl
theorem li_X2_applies : pm_LI yX2_applies RX2 := ⟨pm_inR 5065 rfl rfl, pm_inR 50 rfl rfl⟩
theorem ld_30 : pm_LD "()J" 0 := by unfold pm_LD; decide +kernel
theorem lm_X2_46 : pm_LM RX2 46 yX2_pop cX2_pop 1 (some .long) false 0 := pm_LM.ofR 5070 5067 rfl lc_8 ld_30 rfl rfl
theorem li_X2_pop : pm_LI yX2_pop RX2 := ⟨pm_inR 5069 rfl rfl, pm_inR 51 rfl rfl⟩
theorem ld_31 : pm_LD "(J)J" 1 := by unfold pm_LD; decide +kernel
theorem lm_X2_50 : pm_LM RX2 50 yX2_bounded cX2_bounded 2 (some .long) false 1 := pm_LM.ofR 5073 5071 rfl lc_8 ld_31 rfl rfl
theorem ls_X2_bounded : pm_LS yX2_bounded := pm_inR 5072 rfl rfl
theorem ld_32 : pm_LD "(JJ)J" 2 := by unfold pm_LD; decide +kernel
theorem lm_X2_58 : pm_LM RX2 58 yJ9_min_f86c9 cJ9_min_f86c9 4 (some .long) false 2 := pm_LM.ofR 5078 5076 rfl lc_9 ld_32 rfl rfl
theorem ls_J9_min_f86c9 : pm_LS yJ9_min_f86c9 := pm_inR 5077 rfl rfl
theorem lm_X2_64 : pm_LM RX2 64 yJ9_max_f86c9 cJ9_max_f86c9 4 (some .long) false 2 := pm_LM.ofR 4170 5079 rfl lc_9 ld_32 rfl rfl
theorem ls_J9_max_f86c9 : pm_LS yJ9_max_f86c9 := pm_inR 4169 rfl rfl
theorem ld_33 : pm_LD "()V" 0 := by unfold pm_LD; decide +kernel
theorem lm_X3_19 : pm_LM RX3 19 yX2_clear cX2_clear 1 none false 0 := pm_LM.ofR 3089 3086 rfl lc_8 ld_33 rfl rfl
theorem li_X2_clear : pm_LI yX2_clear RX2 := ⟨pm_inR 3087 rfl rfl, pm_inR 3088 rfl rfl⟩
theorem lm_X3_24 : pm_LM RX3 24 yX9_begin cX9_begin 1 none false 0 := pm_LM.ofR 2226 3090 rfl lc_0 ld_33 rfl rfl
theorem li_X9_begin : pm_LI yX9_begin RX9 := ⟨pm_inR 2224 rfl rfl, pm_inR 2225 rfl rfl⟩
theorem lm_X3_29 : pm_LM RX3 29 yX3_readLine cX3_readLine 4 (some .boolean) false 0 := pm_LM.ofR 3094 3091 rfl lc_2 ld_8 rfl rfl
theorem li_X3_readLine : pm_LI yX3_readLine RX3 := ⟨pm_inR 3093 rfl rfl, pm_inR 11 rfl rfl⟩
theorem lm_X3_40 : pm_LM RX3 40 yX3_readHead cX3_readHead 2 (some .boolean) false 0 := pm_LM.ofR 3098 3095 rfl lc_2 ld_8 rfl rfl
theorem li_X3_readHead : pm_LI yX3_readHead RX3 := ⟨pm_inR 3097 rfl rfl, pm_inR 12 rfl rfl⟩
theorem lm_X3_43 : pm_LM RX3 43 yX9_step cX9_step 2 none false 0 := pm_LM.ofR 2230 3101 rfl lc_0 ld_33 rfl rfl
theorem li_X9_step : pm_LI yX9_step RX9 := ⟨pm_inR 2228 rfl rfl, pm_inR 2229 rfl rfl⟩
theorem lm_X3_46 : pm_LM RX3 46 yX3_readSum cX3_readSum 4 (some .boolean) false 1 := pm_LM.ofR 3118 3115 rfl lc_2 ld_7 rfl rfl
theorem li_X3_readSum : pm_LI yX3_readSum RX3 := ⟨pm_inR 3117 rfl rfl, pm_inR 14 rfl rfl⟩
theorem lm_X3_50 : pm_LM RX3 50 yX3_isComparison cX3_isComparison 1 (some .boolean) false 0 := pm_LM.ofR 3147 3144 rfl lc_2 ld_8 rfl rfl
theorem li_X3_isComparison : pm_LI yX3_isComparison RX3 := ⟨pm_inR 3146 rfl rfl, pm_inR 18 rfl rfl⟩
theorem lm_X3_57 : pm_LM RX3 57 yX2_emit cX2_emit 2 none false 1 := pm_LM.ofR 3142 3139 rfl lc_8 ld_4 rfl rfl
theorem li_X2_emit : pm_LI yX2_emit RX2 := ⟨pm_inR 3140 rfl rfl, pm_inR 3141 rfl rfl⟩
theorem ld_34 : pm_LD "(J)Z" 1 := by unfold pm_LD; decide +kernel
theorem lm_X3_63 : pm_LM RX3 63 yX9_isWord cX9_isWord 3 (some .boolean) false 1 := pm_LM.ofR 3009 3100 rfl lc_0 ld_34 rfl rfl
theorem li_X9_isWord : pm_LI yX9_isWord RX9 := ⟨pm_inR 3007 rfl rfl, pm_inR 3008 rfl rfl⟩
theorem lm_X3_67 : pm_LM RX3 67 yX9_isSign cX9_isSign 2 (some .boolean) false 1 := pm_LM.ofR 3044 3143 rfl lc_0 ld_7 rfl rfl
theorem li_X9_isSign : pm_LI yX9_isSign RX9 := ⟨pm_inR 3042 rfl rfl, pm_inR 3043 rfl rfl⟩
theorem lm_X3_70 : pm_LM RX3 70 yX2_endLine cX2_endLine 1 none false 0 := pm_LM.ofR 3152 3149 rfl lc_8 ld_33 rfl rfl
theorem li_X2_endLine : pm_LI yX2_endLine RX2 := ⟨pm_inR 3150 rfl rfl, pm_inR 3151 rfl rfl⟩
theorem lm_X3_78 : pm_LM RX3 78 yX3_outcomeOfWord cX3_outcomeOfWord 1 (some .int) false 0 := pm_LM.ofR 3105 3102 rfl lc_2 ld_14 rfl rfl
theorem li_X3_outcomeOfWord : pm_LI yX3_outcomeOfWord RX3 := ⟨pm_inR 3104 rfl rfl, pm_inR 13 rfl rfl⟩
theorem lm_X3_82 : pm_LM RX3 82 yX2_beginLine cX2_beginLine 2 none false 1 := pm_LM.ofR 3113 3110 rfl lc_8 ld_4 rfl rfl
theorem li_X2_beginLine : pm_LI yX2_beginLine RX2 := ⟨pm_inR 3111 rfl rfl, pm_inR 3112 rfl rfl⟩
theorem lm_X3_87 : pm_LM RX3 87 yX3_readProduct cX3_readProduct 3 (some .boolean) false 1 := pm_LM.ofR 3122 3119 rfl lc_2 ld_7 rfl rfl
theorem li_X3_readProduct : pm_LI yX3_readProduct RX3 := ⟨pm_inR 3121 rfl rfl, pm_inR 15 rfl rfl⟩
theorem lm_X3_90 : pm_LM RX3 90 yX3_readFactor cX3_readFactor 3 (some .boolean) false 1 := pm_LM.ofR 3126 3123 rfl lc_2 ld_7 rfl rfl
theorem li_X3_readFactor : pm_LI yX3_readFactor RX3 := ⟨pm_inR 3125 rfl rfl, pm_inR 16 rfl rfl⟩
theorem lm_X3_93 : pm_LM RX3 93 yX3_codeOfToken cX3_codeOfToken 1 (some .int) false 0 := pm_LM.ofR 3130 3127 rfl lc_2 ld_14 rfl rfl
theorem li_X3_codeOfToken : pm_LI yX3_codeOfToken RX3 := ⟨pm_inR 3129 rfl rfl, pm_inR 17 rfl rfl⟩
theorem lm_X3_104 : pm_LM RX3 104 yX9_isNumber cX9_isNumber 3 (some .boolean) false 2 := pm_LM.ofR 3032 3131 rfl lc_0 ld_9 rfl rfl
theorem li_X9_isNumber : pm_LI yX9_isNumber RX9 := ⟨pm_inR 3030 rfl rfl, pm_inR 3031 rfl rfl⟩
theorem lm_X4_19 : pm_LM RX4 19 yX0_isNever cX0_isNever 2 (some .boolean) false 0 := pm_LM.ofR 4158 4155 rfl lc_10 ld_8 rfl rfl
theorem li_X0_isNever : pm_LI yX0_isNever RX0 := ⟨pm_inR 4156 rfl rfl, pm_inR 4157 rfl rfl⟩
theorem lm_X4_29 : pm_LM RX4 29 yJ9_min_7cf53 cJ9_min_7cf53 2 (some .int) false 2 := pm_LM.ofR 4161 4159 rfl lc_9 ld_22 rfl rfl
theorem ls_J9_min_7cf53 : pm_LS yJ9_min_7cf53 := pm_inR 4160 rfl rfl
theorem ld_35 : pm_LD "(LLipsVoice$Chances;LLipsVoice$Chances;I)D" 3 := by unfold pm_LD; decide +kernel
theorem lm_X4_35 : pm_LM RX4 35 yX4_roughQuotient cX4_roughQuotient 9 (some .double) false 3 := pm_LM.ofR 4164 4162 rfl lc_7 ld_35 rfl rfl
theorem ls_X4_roughQuotient : pm_LS yX4_roughQuotient := pm_inR 4163 rfl rfl
theorem ld_36 : pm_LD "(LLipsVoice$Chances;LLipsVoice$Chances;I)I" 3 := by unfold pm_LD; decide +kernel
theorem lm_X4_43 : pm_LM RX4 43 yX4_compareExactly cX4_compareExactly 5 (some .int) false 3 := pm_LM.ofR 4176 4173 rfl lc_7 ld_36 rfl rfl
theorem li_X4_compareExactly : pm_LI yX4_compareExactly RX4 := ⟨pm_inR 4175 rfl rfl, pm_inR 38 rfl rfl⟩
theorem ld_37 : pm_LD "(LLipsVoice$Chances;LLipsVoice$Chances;I)J" 3 := by unfold pm_LD; decide +kernel
theorem lm_X4_47 : pm_LM RX4 47 yX4_factorOf cX4_factorOf 6 (some .long) false 3 := pm_LM.ofR 4167 4165 rfl lc_7 ld_37 rfl rfl
theorem ls_X4_factorOf : pm_LS yX4_factorOf := pm_inR 4166 rfl rfl
theorem lm_X4_58 : pm_LM RX4 58 yJ9_max_f86c9 cJ9_max_f86c9 4 (some .long) false 2 := pm_LM.ofR 4170 4168 rfl lc_9 ld_32 rfl rfl
theorem lc_11 : pm_LC "LipsVoice$Product" := ⟨pm_inR 1011 rfl rfl, by decide +kernel, by decide +kernel⟩
theorem lm_X4_62 : pm_LM RX4 62 yX1_begin cX1_begin 1 none false 0 := pm_LM.ofR 4180 4177 rfl lc_11 ld_33 rfl rfl
theorem li_X1_begin : pm_LI yX1_begin RX1 := ⟨pm_inR 4178 rfl rfl, pm_inR 4179 rfl rfl⟩
theorem lm_X4_65 : pm_LM RX4 65 yX1_times cX1_times 8 none false 1 := pm_LM.ofR 4184 4181 rfl lc_11 ld_29 rfl rfl
theorem li_X1_times : pm_LI yX1_times RX1 := ⟨pm_inR 4182 rfl rfl, pm_inR 4183 rfl rfl⟩
theorem ld_38 : pm_LD "(LLipsVoice$Product;)I" 1 := by unfold pm_LD; decide +kernel
theorem lm_X4_69 : pm_LM RX4 69 yX1_compareWith cX1_compareWith 3 (some .int) false 1 := pm_LM.ofR 4189 4186 rfl lc_11 ld_38 rfl rfl
theorem li_X1_compareWith : pm_LI yX1_compareWith RX1 := ⟨pm_inR 4187 rfl rfl, pm_inR 4188 rfl rfl⟩
theorem lc_12 : pm_LC "LipsVoice$Scene" := ⟨pm_inR 1005 rfl rfl, by decide +kernel, by decide +kernel⟩
theorem lm_X6_38 : pm_LM RX6 38 yX5_clear cX5_clear 1 none false 0 := pm_LM.ofR 2222 2219 rfl lc_12 ld_33 rfl rfl
theorem li_X5_clear : pm_LI yX5_clear RX5 := ⟨pm_inR 2220 rfl rfl, pm_inR 2221 rfl rfl⟩
theorem lm_X6_43 : pm_LM RX6 43 yX9_begin cX9_begin 1 none false 0 := pm_LM.ofR 2226 2223 rfl lc_0 ld_33 rfl rfl
theorem lm_X6_51 : pm_LM RX6 51 yX6_readStatement cX6_readStatement 1 (some .boolean) false 0 := pm_LM.ofR 3004 3001 rfl lc_1 ld_8 rfl rfl
theorem li_X6_readStatement : pm_LI yX6_readStatement RX6 := ⟨pm_inR 3003 rfl rfl, pm_inR 1 rfl rfl⟩
theorem lm_X6_55 : pm_LM RX6 55 yX5_isWhole cX5_isWhole 1 (some .boolean) false 0 := pm_LM.ofR 3081 3078 rfl lc_12 ld_8 rfl rfl
theorem li_X5_isWhole : pm_LI yX5_isWhole RX5 := ⟨pm_inR 3079 rfl rfl, pm_inR 3080 rfl rfl⟩
theorem lm_X6_63 : pm_LM RX6 63 yX9_isWord cX9_isWord 3 (some .boolean) false 1 := pm_LM.ofR 3009 3006 rfl lc_0 ld_34 rfl rfl
theorem lm_X6_67 : pm_LM RX6 67 yX6_readSound cX6_readSound 3 (some .boolean) false 0 := pm_LM.ofR 3013 3010 rfl lc_1 ld_8 rfl rfl
theorem li_X6_readSound : pm_LI yX6_readSound RX6 := ⟨pm_inR 3012 rfl rfl, pm_inR 2 rfl rfl⟩
theorem lm_X6_72 : pm_LM RX6 72 yX6_readVoice cX6_readVoice 1 (some .boolean) false 0 := pm_LM.ofR 3049 3046 rfl lc_1 ld_8 rfl rfl
theorem li_X6_readVoice : pm_LI yX6_readVoice RX6 := ⟨pm_inR 3048 rfl rfl, pm_inR 5 rfl rfl⟩
theorem lm_X6_77 : pm_LM RX6 77 yX6_readFace cX6_readFace 1 (some .boolean) false 0 := pm_LM.ofR 3058 3055 rfl lc_1 ld_8 rfl rfl
theorem li_X6_readFace : pm_LI yX6_readFace RX6 := ⟨pm_inR 3057 rfl rfl, pm_inR 7 rfl rfl⟩
theorem lm_X6_82 : pm_LM RX6 82 yX6_readOdds cX6_readOdds 1 (some .boolean) false 0 := pm_LM.ofR 3063 3060 rfl lc_1 ld_8 rfl rfl
theorem li_X6_readOdds : pm_LI yX6_readOdds RX6 := ⟨pm_inR 3062 rfl rfl, pm_inR 8 rfl rfl⟩
theorem lm_X6_87 : pm_LM RX6 87 yX6_readHold cX6_readHold 2 (some .boolean) false 0 := pm_LM.ofR 3068 3065 rfl lc_1 ld_8 rfl rfl
theorem li_X6_readHold : pm_LI yX6_readHold RX6 := ⟨pm_inR 3067 rfl rfl, pm_inR 9 rfl rfl⟩
theorem lm_X6_92 : pm_LM RX6 92 yX6_readLearn cX6_readLearn 5 (some .boolean) false 0 := pm_LM.ofR 3073 3070 rfl lc_1 ld_8 rfl rfl
theorem li_X6_readLearn : pm_LI yX6_readLearn RX6 := ⟨pm_inR 3072 rfl rfl, pm_inR 10 rfl rfl⟩
theorem lm_X6_98 : pm_LM RX6 98 yX9_step cX9_step 2 none false 0 := pm_LM.ofR 2230 3014 rfl lc_0 ld_33 rfl rfl
theorem lm_X6_101 : pm_LM RX6 101 yX9_isName cX9_isName 2 (some .boolean) false 0 := pm_LM.ofR 3018 3015 rfl lc_0 ld_8 rfl rfl
theorem li_X9_isName : pm_LI yX9_isName RX9 := ⟨pm_inR 3016 rfl rfl, pm_inR 3017 rfl rfl⟩
theorem lm_X6_104 : pm_LM RX6 104 yX6_findName cX6_findName 2 (some .int) false 0 := pm_LM.ofR 3028 3025 rfl lc_1 ld_14 rfl rfl
theorem li_X6_findName : pm_LI yX6_findName RX6 := ⟨pm_inR 3027 rfl rfl, pm_inR 3 rfl rfl⟩
theorem lm_X6_112 : pm_LM RX6 112 yX9_isNumber cX9_isNumber 3 (some .boolean) false 2 := pm_LM.ofR 3032 3029 rfl lc_0 ld_9 rfl rfl
theorem lm_X6_116 : pm_LM RX6 116 yX5_isTaken cX5_isTaken 4 (some .boolean) false 2 := pm_LM.ofR 3036 3033 rfl lc_12 ld_9 rfl rfl
theorem li_X5_isTaken : pm_LI yX5_isTaken RX5 := ⟨pm_inR 3034 rfl rfl, pm_inR 3035 rfl rfl⟩
theorem lm_X6_129 : pm_LM RX6 129 yX6_closes cX6_closes 1 (some .boolean) false 0 := pm_LM.ofR 3040 3037 rfl lc_1 ld_8 rfl rfl
theorem li_X6_closes : pm_LI yX6_closes RX6 := ⟨pm_inR 3039 rfl rfl, pm_inR 4 rfl rfl⟩
theorem lm_X6_135 : pm_LM RX6 135 yX6_readNumbers cX6_readNumbers 5 (some .boolean) false 4 := pm_LM.ofR 3053 3050 rfl lc_1 ld_12 rfl rfl
theorem li_X6_readNumbers : pm_LI yX6_readNumbers RX6 := ⟨pm_inR 3052 rfl rfl, pm_inR 6 rfl rfl⟩
theorem lm_X6_157 : pm_LM RX6 157 yX5_learntOf cX5_learntOf 4 (some .int) false 2 := pm_LM.ofR 3077 3074 rfl lc_12 ld_22 rfl rfl
theorem li_X5_learntOf : pm_LI yX5_learntOf RX5 := ⟨pm_inR 3075 rfl rfl, pm_inR 3076 rfl rfl⟩
theorem lm_X6_167 : pm_LM RX6 167 yX9_isSign cX9_isSign 2 (some .boolean) false 1 := pm_LM.ofR 3044 3041 rfl lc_0 ld_7 rfl rfl
theorem lm_X7_51 : pm_LM RX7 51 yX7_addPerson cX7_addPerson 5 (some .int) false 4 := pm_LM.ofR 3165 3162 rfl lc_5 ld_10 rfl rfl
theorem lm_X7_55 : pm_LM RX7 55 yX7_changePerson cX7_changePerson 5 none false 4 := pm_LM.ofR 3169 3166 rfl lc_5 ld_11 rfl rfl
theorem lm_X9_27 : pm_LM RX9 27 yX9_step cX9_step 2 none false 0 := pm_LM.ofR 2230 2227 rfl lc_0 ld_33 rfl rfl
theorem lm_X9_39 : pm_LM RX9 39 yX9_sortOf cX9_sortOf 1 (some .int) false 1 := pm_LM.ofR 2233 2231 rfl lc_0 ld_13 rfl rfl
theorem ls_X9_sortOf : pm_LS yX9_sortOf := pm_inR 2232 rfl rfl
theorem lm_X9_43 : pm_LM RX9 43 yX9_take cX9_take 2 none false 1 := pm_LM.ofR 2237 2234 rfl lc_0 ld_4 rfl rfl
theorem li_X9_take : pm_LI yX9_take RX9 := ⟨pm_inR 2236 rfl rfl, pm_inR 0 rfl rfl⟩
theorem lm_X10_69 : pm_LM RX10 69 yJ9_max_7cf53 cJ9_max_7cf53 2 (some .int) false 2 := pm_LM.ofR 4013 4011 rfl lc_9 ld_22 rfl rfl
theorem ls_J9_max_7cf53 : pm_LS yJ9_max_7cf53 := pm_inR 4012 rfl rfl
theorem lm_X10_86 : pm_LM RX10 86 yJ9_abs_0f7a4 cJ9_abs_0f7a4 1 (some .int) false 1 := pm_LM.ofR 4016 4014 rfl lc_9 ld_13 rfl rfl
theorem lm_X10_96 : pm_LM RX10 96 yX10_farFrom cX10_farFrom 4 (some .int) false 3 := pm_LM.ofR 4020 4017 rfl lc_3 ld_21 rfl rfl
theorem li_X10_farFrom : pm_LI yX10_farFrom RX10 := ⟨pm_inR 4019 rfl rfl, pm_inR 26 rfl rfl⟩
theorem lm_X10_103 : pm_LM RX10 103 yX10_weighFace cX10_weighFace 2 none false 0 := pm_LM.ofR 4032 4029 rfl lc_3 ld_33 rfl rfl
theorem li_X10_weighFace : pm_LI yX10_weighFace RX10 := ⟨pm_inR 4031 rfl rfl, pm_inR 27 rfl rfl⟩
theorem lm_X10_106 : pm_LM RX10 106 yX10_weighSurer cX10_weighSurer 5 none false 0 := pm_LM.ofR 4036 4033 rfl lc_3 ld_33 rfl rfl
theorem li_X10_weighSurer : pm_LI yX10_weighSurer RX10 := ⟨pm_inR 4035 rfl rfl, pm_inR 28 rfl rfl⟩
theorem lm_X10_109 : pm_LM RX10 109 yX10_weighOne cX10_weighOne 2 none false 0 := pm_LM.ofR 4052 4049 rfl lc_3 ld_33 rfl rfl
theorem li_X10_weighOne : pm_LI yX10_weighOne RX10 := ⟨pm_inR 4051 rfl rfl, pm_inR 31 rfl rfl⟩
theorem lm_X10_112 : pm_LM RX10 112 yX10_weighOdds cX10_weighOdds 6 none false 0 := pm_LM.ofR 4056 4053 rfl lc_3 ld_33 rfl rfl
theorem li_X10_weighOdds : pm_LI yX10_weighOdds RX10 := ⟨pm_inR 4055 rfl rfl, pm_inR 32 rfl rfl⟩
theorem lm_X10_115 : pm_LM RX10 115 yX10_weighLearnt cX10_weighLearnt 2 none false 0 := pm_LM.ofR 4061 4058 rfl lc_3 ld_33 rfl rfl
theorem li_X10_weighLearnt : pm_LI yX10_weighLearnt RX10 := ⟨pm_inR 4060 rfl rfl, pm_inR 33 rfl rfl⟩
theorem lm_X10_118 : pm_LM RX10 118 yX10_soundBetween cX10_soundBetween 5 (some .int) false 0 := pm_LM.ofR 4070 4067 rfl lc_3 ld_14 rfl rfl
theorem li_X10_soundBetween : pm_LI yX10_soundBetween RX10 := ⟨pm_inR 4069 rfl rfl, pm_inR 35 rfl rfl⟩
theorem lm_X10_122 : pm_LM RX10 122 yX10_weighSingle cX10_weighSingle 3 none false 1 := pm_LM.ofR 4066 4063 rfl lc_3 ld_4 rfl rfl
theorem li_X10_weighSingle : pm_LI yX10_weighSingle RX10 := ⟨pm_inR 4065 rfl rfl, pm_inR 34 rfl rfl⟩
theorem lm_X10_126 : pm_LM RX10 126 yX10_weighVoice cX10_weighVoice 2 none false 0 := pm_LM.ofR 4048 4045 rfl lc_3 ld_33 rfl rfl
theorem li_X10_weighVoice : pm_LI yX10_weighVoice RX10 := ⟨pm_inR 4047 rfl rfl, pm_inR 30 rfl rfl⟩
theorem lm_X10_129 : pm_LM RX10 129 yX10_greatestWeight cX10_greatestWeight 1 (some .long) false 0 := pm_LM.ofR 4040 4037 rfl lc_3 ld_30 rfl rfl
theorem li_X10_greatestWeight : pm_LI yX10_greatestWeight RX10 := ⟨pm_inR 4039 rfl rfl, pm_inR 29 rfl rfl⟩
theorem lm_X10_135 : pm_LM RX10 135 yX5_learntOf cX5_learntOf 4 (some .int) false 2 := pm_LM.ofR 3077 4062 rfl lc_12 ld_22 rfl rfl
theorem lm_X10_138 : pm_LM RX10 138 yX10_mostLikely cX10_mostLikely 3 (some .int) false 0 := pm_LM.ofR 4044 4041 rfl lc_3 ld_14 rfl rfl
theorem lm_X10_148 : pm_LM RX10 148 yX10_weigh cX10_weigh 2 none false 1 := pm_LM.ofR 4028 5034 rfl lc_3 ld_4 rfl rfl
theorem lm_X10_151 : pm_LM RX10 151 yJ9_abs_067f4 cJ9_abs_067f4 2 (some .long) false 1 := pm_LM.ofR 5037 5035 rfl lc_9 ld_31 rfl rfl
theorem ls_J9_abs_067f4 : pm_LS yJ9_abs_067f4 := pm_inR 5036 rfl rfl
theorem lm_L_9 : pm_LM RL 9 yX11_init cX11_init 3 none false 0 := pm_LM.ofR 1023 1021 rfl lc_6 ld_33 rfl rfl
theorem ln_X11_init : Cond.instanceMethod yX11_init ∈ pm_all := pm_inR 1022 rfl rfl
theorem lc_13 : pm_LC "LipsVoiceModel" := ⟨pm_inR 1013 rfl rfl, by decide +kernel, by decide +kernel⟩
theorem lm_L_12 : pm_LM RL 12 yX12_init cX12_init 1 none false 0 := pm_LM.ofR 5119 5117 rfl lc_13 ld_33 rfl rfl
theorem ln_X12_init : Cond.instanceMethod yX12_init ∈ pm_all := pm_inR 5118 rfl rfl
theorem ld_39 : pm_LD "(IIIII)I" 5 := by unfold pm_LD; decide +kernel
theorem lm_L_13 : pm_LM RL 13 yX11_feed cX11_feed 6 (some .int) false 5 := pm_LM.ofR 2202 2199 rfl lc_6 ld_39 rfl rfl
theorem li_X11_feed : pm_LI yX11_feed RX11 := ⟨pm_inR 2200 rfl rfl, pm_inR 2201 rfl rfl⟩
theorem lm_L_17 : pm_LM RL 17 yX12_feed cX12_feed 8 (some .int) false 5 := pm_LM.ofR 6060 6057 rfl lc_13 ld_39 rfl rfl
theorem li_X12_feed : pm_LI yX12_feed RX12 := ⟨pm_inR 6058 rfl rfl, pm_inR 6059 rfl rfl⟩
theorem lm_L_18 : pm_LM RL 18 yX11_end cX11_end 2 (some .boolean) false 1 := pm_LM.ofR 2210 2207 rfl lc_6 ld_7 rfl rfl
theorem li_X11_end : pm_LI yX11_end RX11 := ⟨pm_inR 2208 rfl rfl, pm_inR 2209 rfl rfl⟩
theorem lm_L_22 : pm_LM RL 22 yX12_end cX12_end 2 (some .boolean) false 1 := pm_LM.ofR 6064 6061 rfl lc_13 ld_7 rfl rfl
theorem li_X12_end : pm_LI yX12_end RX12 := ⟨pm_inR 6062 rfl rfl, pm_inR 6063 rfl rfl⟩
theorem lm_L_23 : pm_LM RL 23 yX11_fault cX11_fault 2 (some .int) false 1 := pm_LM.ofR 2214 2211 rfl lc_6 ld_13 rfl rfl
theorem li_X11_fault : pm_LI yX11_fault RX11 := ⟨pm_inR 2212 rfl rfl, pm_inR 2213 rfl rfl⟩
theorem lm_L_27 : pm_LM RL 27 yX12_fault cX12_fault 2 (some .int) false 1 := pm_LM.ofR 6200 6197 rfl lc_13 ld_13 rfl rfl
theorem li_X12_fault : pm_LI yX12_fault RX12 := ⟨pm_inR 6198 rfl rfl, pm_inR 6199 rfl rfl⟩
theorem lm_L_28 : pm_LM RL 28 yX11_scene cX11_scene 3 (some .int) false 0 := pm_LM.ofR 3157 3154 rfl lc_6 ld_14 rfl rfl
theorem li_X11_scene : pm_LI yX11_scene RX11 := ⟨pm_inR 3155 rfl rfl, pm_inR 3156 rfl rfl⟩
theorem lm_L_32 : pm_LM RL 32 yX12_scene cX12_scene 2 (some .int) false 0 := pm_LM.ofR 6071 6068 rfl lc_13 ld_14 rfl rfl
theorem li_X12_scene : pm_LI yX12_scene RX12 := ⟨pm_inR 6069 rfl rfl, pm_inR 6070 rfl rfl⟩
theorem lm_L_33 : pm_LM RL 33 yX11_rules cX11_rules 2 (some .int) false 0 := pm_LM.ofR 3173 3170 rfl lc_6 ld_14 rfl rfl
theorem li_X11_rules : pm_LI yX11_rules RX11 := ⟨pm_inR 3171 rfl rfl, pm_inR 3172 rfl rfl⟩
theorem lm_L_36 : pm_LM RL 36 yX12_rules cX12_rules 2 (some .int) false 0 := pm_LM.ofR 7004 7001 rfl lc_13 ld_14 rfl rfl
theorem li_X12_rules : pm_LI yX12_rules RX12 := ⟨pm_inR 7002 rfl rfl, pm_inR 7003 rfl rfl⟩
theorem lm_L_37 : pm_LM RL 37 yX11_sound cX11_sound 3 (some .int) false 2 := pm_LM.ofR 3177 3174 rfl lc_6 ld_22 rfl rfl
theorem li_X11_sound : pm_LI yX11_sound RX11 := ⟨pm_inR 3175 rfl rfl, pm_inR 3176 rfl rfl⟩
theorem lm_L_41 : pm_LM RL 41 yX12_sound cX12_sound 3 (some .int) false 2 := pm_LM.ofR 7008 7005 rfl lc_13 ld_22 rfl rfl
theorem li_X12_sound : pm_LI yX12_sound RX12 := ⟨pm_inR 7006 rfl rfl, pm_inR 7007 rfl rfl⟩
theorem lm_L_42 : pm_LM RL 42 yX11_person cX11_person 5 (some .int) false 3 := pm_LM.ofR 3193 3190 rfl lc_6 ld_21 rfl rfl
theorem li_X11_person : pm_LI yX11_person RX11 := ⟨pm_inR 3191 rfl rfl, pm_inR 3192 rfl rfl⟩
theorem lm_L_46 : pm_LM RL 46 yX12_person cX12_person 4 (some .int) false 3 := pm_LM.ofR 7012 7009 rfl lc_13 ld_21 rfl rfl
theorem li_X12_person : pm_LI yX12_person RX12 := ⟨pm_inR 7010 rfl rfl, pm_inR 7011 rfl rfl⟩
theorem lm_L_47 : pm_LM RL 47 yX11_who cX11_who 3 (some .int) false 2 := pm_LM.ofR 3204 3201 rfl lc_6 ld_22 rfl rfl
theorem li_X11_who : pm_LI yX11_who RX11 := ⟨pm_inR 3202 rfl rfl, pm_inR 3203 rfl rfl⟩
theorem lm_L_50 : pm_LM RL 50 yX12_who cX12_who 3 (some .int) false 2 := pm_LM.ofR 7019 7016 rfl lc_13 ld_22 rfl rfl
theorem li_X12_who : pm_LI yX12_who RX12 := ⟨pm_inR 7017 rfl rfl, pm_inR 7018 rfl rfl⟩
theorem lm_L_51 : pm_LM RL 51 yX11_becomes cX11_becomes 5 (some .boolean) false 4 := pm_LM.ofR 3212 3209 rfl lc_6 ld_12 rfl rfl
theorem li_X11_becomes : pm_LI yX11_becomes RX11 := ⟨pm_inR 3210 rfl rfl, pm_inR 3211 rfl rfl⟩
theorem lm_L_55 : pm_LM RL 55 yX12_becomes cX12_becomes 5 (some .boolean) false 4 := pm_LM.ofR 7027 7024 rfl lc_13 ld_12 rfl rfl
theorem li_X12_becomes : pm_LI yX12_becomes RX12 := ⟨pm_inR 7025 rfl rfl, pm_inR 7026 rfl rfl⟩
theorem lm_L_56 : pm_LM RL 56 yX11_weight cX11_weight 7 (some .int) false 5 := pm_LM.ofR 3217 3214 rfl lc_6 ld_39 rfl rfl
theorem li_X11_weight : pm_LI yX11_weight RX11 := ⟨pm_inR 3215 rfl rfl, pm_inR 3216 rfl rfl⟩
theorem lm_L_59 : pm_LM RL 59 yX12_weight cX12_weight 6 (some .int) false 5 := pm_LM.ofR 7031 7028 rfl lc_13 ld_39 rfl rfl
theorem li_X12_weight : pm_LI yX12_weight RX12 := ⟨pm_inR 7029 rfl rfl, pm_inR 7030 rfl rfl⟩
theorem lm_L_60 : pm_LM RL 60 yX11_chance cX11_chance 6 (some .int) false 5 := pm_LM.ofR 4074 4071 rfl lc_6 ld_39 rfl rfl
theorem li_X11_chance : pm_LI yX11_chance RX11 := ⟨pm_inR 4072 rfl rfl, pm_inR 4073 rfl rfl⟩
theorem lm_L_63 : pm_LM RL 63 yX12_chance cX12_chance 6 (some .int) false 5 := pm_LM.ofR 7087 7084 rfl lc_13 ld_39 rfl rfl
theorem li_X12_chance : pm_LI yX12_chance RX12 := ⟨pm_inR 7085 rfl rfl, pm_inR 7086 rfl rfl⟩
theorem lm_L_64 : pm_LM RL 64 yX11_kind cX11_kind 6 (some .int) false 5 := pm_LM.ofR 4086 4083 rfl lc_6 ld_39 rfl rfl
theorem li_X11_kind : pm_LI yX11_kind RX11 := ⟨pm_inR 4084 rfl rfl, pm_inR 4085 rfl rfl⟩
theorem lm_L_67 : pm_LM RL 67 yX12_kind cX12_kind 6 (some .int) false 5 := pm_LM.ofR 7096 7093 rfl lc_13 ld_39 rfl rfl
theorem li_X12_kind : pm_LI yX12_kind RX12 := ⟨pm_inR 7094 rfl rfl, pm_inR 7095 rfl rfl⟩
theorem lm_L_68 : pm_LM RL 68 yX11_likely cX11_likely 5 (some .int) false 4 := pm_LM.ofR 4100 4097 rfl lc_6 ld_10 rfl rfl
theorem li_X11_likely : pm_LI yX11_likely RX11 := ⟨pm_inR 4098 rfl rfl, pm_inR 4099 rfl rfl⟩
theorem lm_L_72 : pm_LM RL 72 yX12_likely cX12_likely 5 (some .int) false 4 := pm_LM.ofR 7108 7105 rfl lc_13 ld_10 rfl rfl
theorem li_X12_likely : pm_LI yX12_likely RX12 := ⟨pm_inR 7106 rfl rfl, pm_inR 7107 rfl rfl⟩
theorem lm_L_73 : pm_LM RL 73 yX11_noticed cX11_noticed 4 (some .int) false 3 := pm_LM.ofR 4105 4102 rfl lc_6 ld_21 rfl rfl
theorem li_X11_noticed : pm_LI yX11_noticed RX11 := ⟨pm_inR 4103 rfl rfl, pm_inR 4104 rfl rfl⟩
theorem lm_L_76 : pm_LM RL 76 yX12_noticed cX12_noticed 4 (some .int) false 3 := pm_LM.ofR 7116 7113 rfl lc_13 ld_21 rfl rfl
theorem li_X12_noticed : pm_LI yX12_noticed RX12 := ⟨pm_inR 7114 rfl rfl, pm_inR 7115 rfl rfl⟩
theorem lm_L_77 : pm_LM RL 77 yX11_answer cX11_answer 6 (some .int) false 4 := pm_LM.ofR 4113 4110 rfl lc_6 ld_10 rfl rfl
theorem li_X11_answer : pm_LI yX11_answer RX11 := ⟨pm_inR 4111 rfl rfl, pm_inR 4112 rfl rfl⟩
theorem lm_L_80 : pm_LM RL 80 yX12_answer cX12_answer 5 (some .int) false 4 := pm_LM.ofR 7124 7121 rfl lc_13 ld_10 rfl rfl
theorem li_X12_answer : pm_LI yX12_answer RX12 := ⟨pm_inR 7122 rfl rfl, pm_inR 7123 rfl rfl⟩
theorem lm_L_81 : pm_LM RL 81 yX11_undo cX11_undo 1 (some .int) false 0 := pm_LM.ofR 4121 4118 rfl lc_6 ld_14 rfl rfl
theorem li_X11_undo : pm_LI yX11_undo RX11 := ⟨pm_inR 4119 rfl rfl, pm_inR 4120 rfl rfl⟩
theorem lm_L_84 : pm_LM RL 84 yX12_undo cX12_undo 1 (some .int) false 0 := pm_LM.ofR 7132 7129 rfl lc_13 ld_14 rfl rfl
theorem li_X12_undo : pm_LI yX12_undo RX12 := ⟨pm_inR 7130 rfl rfl, pm_inR 7131 rfl rfl⟩
theorem lm_L_85 : pm_LM RL 85 yX11_of cX11_of 3 (some .int) false 2 := pm_LM.ofR 4125 4122 rfl lc_6 ld_22 rfl rfl
theorem li_X11_of : pm_LI yX11_of RX11 := ⟨pm_inR 4123 rfl rfl, pm_inR 4124 rfl rfl⟩
theorem lm_L_88 : pm_LM RL 88 yX12_of cX12_of 3 (some .int) false 2 := pm_LM.ofR 7136 7133 rfl lc_13 ld_22 rfl rfl
theorem li_X12_of : pm_LI yX12_of RX12 := ⟨pm_inR 7134 rfl rfl, pm_inR 7135 rfl rfl⟩
theorem lm_L_89 : pm_LM RL 89 yX11_more cX11_more 5 (some .int) false 3 := pm_LM.ofR 4138 4135 rfl lc_6 ld_21 rfl rfl
theorem li_X11_more : pm_LI yX11_more RX11 := ⟨pm_inR 4136 rfl rfl, pm_inR 4137 rfl rfl⟩
theorem lm_L_92 : pm_LM RL 92 yX12_more cX12_more 5 (some .int) false 3 := pm_LM.ofR 7144 7141 rfl lc_13 ld_21 rfl rfl
theorem li_X12_more : pm_LI yX12_more RX12 := ⟨pm_inR 7142 rfl rfl, pm_inR 7143 rfl rfl⟩
theorem lm_L_93 : pm_LM RL 93 yX11_best cX11_best 4 (some .int) false 1 := pm_LM.ofR 4193 4190 rfl lc_6 ld_13 rfl rfl
theorem li_X11_best : pm_LI yX11_best RX11 := ⟨pm_inR 4191 rfl rfl, pm_inR 4192 rfl rfl⟩
theorem lm_L_96 : pm_LM RL 96 yX12_best cX12_best 4 (some .int) false 1 := pm_LM.ofR 7181 7178 rfl lc_13 ld_13 rfl rfl
theorem li_X12_best : pm_LI yX12_best RX12 := ⟨pm_inR 7179 rfl rfl, pm_inR 7180 rfl rfl⟩
theorem lm_L_97 : pm_LM RL 97 yX11_own cX11_own 3 (some .int) false 2 := pm_LM.ofR 4201 4198 rfl lc_6 ld_22 rfl rfl
theorem li_X11_own : pm_LI yX11_own RX11 := ⟨pm_inR 4199 rfl rfl, pm_inR 4200 rfl rfl⟩
theorem lm_L_100 : pm_LM RL 100 yX12_own cX12_own 12 (some .int) false 2 := pm_LM.ofR 7185 7182 rfl lc_13 ld_22 rfl rfl
theorem li_X12_own : pm_LI yX12_own RX12 := ⟨pm_inR 7183 rfl rfl, pm_inR 7184 rfl rfl⟩
theorem lm_L_101 : pm_LM RL 101 yX11_share cX11_share 8 (some .int) false 2 := pm_LM.ofR 4222 4219 rfl lc_6 ld_22 rfl rfl
theorem li_X11_share : pm_LI yX11_share RX11 := ⟨pm_inR 4220 rfl rfl, pm_inR 4221 rfl rfl⟩
theorem lm_L_104 : pm_LM RL 104 yX12_share cX12_share 6 (some .int) false 2 := pm_LM.ofR 7189 7186 rfl lc_13 ld_22 rfl rfl
theorem li_X12_share : pm_LI yX12_share RX12 := ⟨pm_inR 7187 rfl rfl, pm_inR 7188 rfl rfl⟩
theorem lm_L_105 : pm_LM RL 105 yX11_foretold cX11_foretold 8 (some .int) false 3 := pm_LM.ofR 4237 4234 rfl lc_6 ld_21 rfl rfl
theorem li_X11_foretold : pm_LI yX11_foretold RX11 := ⟨pm_inR 4235 rfl rfl, pm_inR 4236 rfl rfl⟩
theorem lm_L_108 : pm_LM RL 108 yX12_foretold cX12_foretold 7 (some .int) false 3 := pm_LM.ofR 7197 7194 rfl lc_13 ld_21 rfl rfl
theorem li_X12_foretold : pm_LI yX12_foretold RX12 := ⟨pm_inR 7195 rfl rfl, pm_inR 7196 rfl rfl⟩
theorem lm_L_109 : pm_LM RL 109 yX11_pairs cX11_pairs 10 (some .int) false 5 := pm_LM.ofR 5001 4238 rfl lc_6 ld_39 rfl rfl
theorem li_X11_pairs : pm_LI yX11_pairs RX11 := ⟨pm_inR 4239 rfl rfl, pm_inR 5000 rfl rfl⟩
theorem lm_L_112 : pm_LM RL 112 yX12_pairs cX12_pairs 9 (some .int) false 5 := pm_LM.ofR 7201 7198 rfl lc_13 ld_39 rfl rfl
theorem li_X12_pairs : pm_LI yX12_pairs RX12 := ⟨pm_inR 7199 rfl rfl, pm_inR 7200 rfl rfl⟩
theorem lm_L_113 : pm_LM RL 113 yX11_hump cX11_hump 7 (some .int) false 3 := pm_LM.ofR 5010 5007 rfl lc_6 ld_21 rfl rfl
theorem li_X11_hump : pm_LI yX11_hump RX11 := ⟨pm_inR 5008 rfl rfl, pm_inR 5009 rfl rfl⟩
theorem lm_L_116 : pm_LM RL 116 yX12_hump cX12_hump 6 (some .int) false 3 := pm_LM.ofR 7205 7202 rfl lc_13 ld_21 rfl rfl
theorem li_X12_hump : pm_LI yX12_hump RX12 := ⟨pm_inR 7203 rfl rfl, pm_inR 7204 rfl rfl⟩
theorem lm_L_117 : pm_LM RL 117 yX11_right cX11_right 4 (some .int) false 3 := pm_LM.ofR 5014 5011 rfl lc_6 ld_21 rfl rfl
theorem li_X11_right : pm_LI yX11_right RX11 := ⟨pm_inR 5012 rfl rfl, pm_inR 5013 rfl rfl⟩
theorem lm_L_120 : pm_LM RL 120 yX12_right cX12_right 4 (some .int) false 3 := pm_LM.ofR 7213 7210 rfl lc_13 ld_21 rfl rfl
theorem li_X12_right : pm_LI yX12_right RX12 := ⟨pm_inR 7211 rfl rfl, pm_inR 7212 rfl rfl⟩
theorem lm_L_121 : pm_LM RL 121 yX11_worth cX11_worth 7 (some .int) false 3 := pm_LM.ofR 5022 5019 rfl lc_6 ld_21 rfl rfl
theorem li_X11_worth : pm_LI yX11_worth RX11 := ⟨pm_inR 5020 rfl rfl, pm_inR 5021 rfl rfl⟩
theorem lm_L_124 : pm_LM RL 124 yX12_worth cX12_worth 6 (some .int) false 3 := pm_LM.ofR 7225 7222 rfl lc_13 ld_21 rfl rfl
theorem li_X12_worth : pm_LI yX12_worth RX12 := ⟨pm_inR 7223 rfl rfl, pm_inR 7224 rfl rfl⟩
theorem lm_L_125 : pm_LM RL 125 yX11_parted cX11_parted 5 (some .int) false 4 := pm_LM.ofR 5026 5023 rfl lc_6 ld_10 rfl rfl
theorem li_X11_parted : pm_LI yX11_parted RX11 := ⟨pm_inR 5024 rfl rfl, pm_inR 5025 rfl rfl⟩
theorem lm_L_128 : pm_LM RL 128 yX12_parted cX12_parted 5 (some .int) false 4 := pm_LM.ofR 7229 7226 rfl lc_13 ld_10 rfl rfl
theorem li_X12_parted : pm_LI yX12_parted RX12 := ⟨pm_inR 7227 rfl rfl, pm_inR 7228 rfl rfl⟩
theorem lm_L_129 : pm_LM RL 129 yX11_next cX11_next 12 (some .int) false 4 := pm_LM.ofR 5042 5039 rfl lc_6 ld_10 rfl rfl
theorem li_X11_next : pm_LI yX11_next RX11 := ⟨pm_inR 5040 rfl rfl, pm_inR 5041 rfl rfl⟩
theorem lm_L_132 : pm_LM RL 132 yX12_next cX12_next 11 (some .int) false 4 := pm_LM.ofR 8001 7238 rfl lc_13 ld_10 rfl rfl
theorem li_X12_next : pm_LI yX12_next RX12 := ⟨pm_inR 7239 rfl rfl, pm_inR 8000 rfl rfl⟩
theorem lm_L_133 : pm_LM RL 133 yX11_knowing cX11_knowing 6 (some .int) false 4 := pm_LM.ofR 5046 5043 rfl lc_6 ld_10 rfl rfl
theorem li_X11_knowing : pm_LI yX11_knowing RX11 := ⟨pm_inR 5044 rfl rfl, pm_inR 5045 rfl rfl⟩
theorem lm_L_136 : pm_LM RL 136 yX12_knowing cX12_knowing 6 (some .int) false 4 := pm_LM.ofR 8005 8002 rfl lc_13 ld_10 rfl rfl
theorem li_X12_knowing : pm_LI yX12_knowing RX12 := ⟨pm_inR 8003 rfl rfl, pm_inR 8004 rfl rfl⟩
theorem lm_L_137 : pm_LM RL 137 yX11_called cX11_called 6 (some .int) false 4 := pm_LM.ofR 5050 5047 rfl lc_6 ld_10 rfl rfl
theorem li_X11_called : pm_LI yX11_called RX11 := ⟨pm_inR 5048 rfl rfl, pm_inR 5049 rfl rfl⟩
theorem lm_L_140 : pm_LM RL 140 yX12_called cX12_called 13 (some .int) false 4 := pm_LM.ofR 8009 8006 rfl lc_13 ld_10 rfl rfl
theorem li_X12_called : pm_LI yX12_called RX12 := ⟨pm_inR 8007 rfl rfl, pm_inR 8008 rfl rfl⟩
theorem lm_L_141 : pm_LM RL 141 yX11_draw cX11_draw 7 (some .int) false 4 := pm_LM.ofR 5083 5080 rfl lc_6 ld_10 rfl rfl
theorem li_X11_draw : pm_LI yX11_draw RX11 := ⟨pm_inR 5081 rfl rfl, pm_inR 5082 rfl rfl⟩
theorem lm_L_144 : pm_LM RL 144 yX12_draw cX12_draw 16 (some .int) false 4 := pm_LM.ofR 8022 8019 rfl lc_13 ld_10 rfl rfl
theorem li_X12_draw : pm_LI yX12_draw RX12 := ⟨pm_inR 8020 rfl rfl, pm_inR 8021 rfl rfl⟩
theorem lm_L_145 : pm_LM RL 145 yX11_image cX11_image 2 (some .boolean) false 1 := pm_LM.ofR 5106 5103 rfl lc_6 ld_7 rfl rfl
theorem li_X11_image : pm_LI yX11_image RX11 := ⟨pm_inR 5104 rfl rfl, pm_inR 5105 rfl rfl⟩
theorem lm_L_148 : pm_LM RL 148 yX12_image cX12_image 3 (some .boolean) false 1 := pm_LM.ofR 8036 8033 rfl lc_13 ld_7 rfl rfl
theorem li_X12_image : pm_LI yX12_image RX12 := ⟨pm_inR 8034 rfl rfl, pm_inR 8035 rfl rfl⟩
theorem lm_L_149 : pm_LM RL 149 yX11_back cX11_back 2 (some .boolean) false 1 := pm_LM.ofR 5114 5111 rfl lc_6 ld_7 rfl rfl
theorem li_X11_back : pm_LI yX11_back RX11 := ⟨pm_inR 5112 rfl rfl, pm_inR 5113 rfl rfl⟩
theorem lm_L_152 : pm_LM RL 152 yX12_back cX12_back 3 (some .boolean) false 1 := pm_LM.ofR 8040 8037 rfl lc_13 ld_7 rfl rfl
theorem li_X12_back : pm_LI yX12_back RX12 := ⟨pm_inR 8038 rfl rfl, pm_inR 8039 rfl rfl⟩
theorem lm_L_153 : pm_LM RL 153 yX11_count cX11_count 2 (some .int) false 1 := pm_LM.ofR 3185 3182 rfl lc_6 ld_13 rfl rfl
theorem li_X11_count : pm_LI yX11_count RX11 := ⟨pm_inR 3183 rfl rfl, pm_inR 3184 rfl rfl⟩
theorem lm_L_156 : pm_LM RL 156 yX12_count cX12_count 2 (some .int) false 1 := pm_LM.ofR 8044 8041 rfl lc_13 ld_13 rfl rfl
theorem li_X12_count : pm_LI yX12_count RX12 := ⟨pm_inR 8042 rfl rfl, pm_inR 8043 rfl rfl⟩
theorem lm_X12_98 : pm_LM RX12 98 yX12_in cX12_in 3 (some .boolean) false 3 := pm_LM.ofR 6067 6065 rfl lc_13 ld_15 rfl rfl
theorem ls_X12_in : pm_LS yX12_in := pm_inR 6066 rfl rfl
theorem lm_X12_115 : pm_LM RX12 115 yX12_isLetter cX12_isLetter 1 (some .boolean) false 1 := pm_LM.ofR 6082 6080 rfl lc_13 ld_7 rfl rfl
theorem ls_X12_isLetter : pm_LS yX12_isLetter := pm_inR 6081 rfl rfl
theorem lm_X12_119 : pm_LM RX12 119 yX12_isDigit cX12_isDigit 1 (some .boolean) false 1 := pm_LM.ofR 6085 6083 rfl lc_13 ld_7 rfl rfl
theorem ls_X12_isDigit : pm_LS yX12_isDigit := pm_inR 6084 rfl rfl
theorem lm_X12_128 : pm_LM RX12 128 yX12_isSignByte cX12_isSignByte 1 (some .boolean) false 1 := pm_LM.ofR 6091 6089 rfl lc_13 ld_7 rfl rfl
theorem ls_X12_isSignByte : pm_LS yX12_isSignByte := pm_inR 6090 rfl rfl
theorem lc_14 : pm_LC "java/lang/String" := ⟨pm_inR 1014 rfl rfl, by decide +kernel, by decide +kernel⟩
theorem lm_X12_131 : pm_LM RX12 131 yJ0_length_8abf5 cJ0_length_8abf5 1 (some .int) false 0 := pm_LM.ofR 6107 6104 rfl lc_14 ld_14 rfl rfl
theorem li_J0_length_8abf5 : pm_LI yJ0_length_8abf5 RJ0 := ⟨pm_inR 6105 rfl rfl, pm_inR 6106 rfl rfl⟩
theorem ld_40 : pm_LD "(I)C" 1 := by unfold pm_LD; decide +kernel
theorem lm_X12_137 : pm_LM RX12 137 yJ0_charAt_5068e cJ0_charAt_5068e 2 (some .char) false 1 := pm_LM.ofR 6117 6114 rfl lc_14 ld_40 rfl rfl
theorem li_J0_charAt_5068e : pm_LI yJ0_charAt_5068e RJ0 := ⟨pm_inR 6115 rfl rfl, pm_inR 6116 rfl rfl⟩
theorem ld_41 : pm_LD "(Ljava/lang/String;)J" 1 := by unfold pm_LD; decide +kernel
theorem lm_X12_141 : pm_LM RX12 141 yX12_packed cX12_packed 4 (some .long) false 1 := pm_LM.ofR 6103 6101 rfl lc_13 ld_41 rfl rfl
theorem ls_X12_packed : pm_LS yX12_packed := pm_inR 6102 rfl rfl
theorem lm_X12_145 : pm_LM RX12 145 yX12_isSign cX12_isSign 2 (some .boolean) false 1 := pm_LM.ofR 6180 6177 rfl lc_13 ld_7 rfl rfl
theorem li_X12_isSign : pm_LI yX12_isSign RX12 := ⟨pm_inR 6179 rfl rfl, pm_inR 63 rfl rfl⟩
theorem lm_X12_148 : pm_LM RX12 148 yX12_leads cX12_leads 2 none false 0 := pm_LM.ofR 6079 6076 rfl lc_13 ld_33 rfl rfl
theorem li_X12_leads : pm_LI yX12_leads RX12 := ⟨pm_inR 6078 rfl rfl, pm_inR 55 rfl rfl⟩
theorem ld_42 : pm_LD "(Ljava/lang/String;)Z" 1 := by unfold pm_LD; decide +kernel
theorem lm_X12_156 : pm_LM RX12 156 yX12_isWord cX12_isWord 2 (some .boolean) false 1 := pm_LM.ofR 6100 6097 rfl lc_13 ld_42 rfl rfl
theorem li_X12_isWord : pm_LI yX12_isWord RX12 := ⟨pm_inR 6099 rfl rfl, pm_inR 57 rfl rfl⟩
theorem lm_X12_172 : pm_LM RX12 172 yX12_isName cX12_isName 1 (some .boolean) false 0 := pm_LM.ofR 6159 6156 rfl lc_13 ld_8 rfl rfl
theorem li_X12_isName : pm_LI yX12_isName RX12 := ⟨pm_inR 6158 rfl rfl, pm_inR 59 rfl rfl⟩
theorem lm_X12_176 : pm_LM RX12 176 yX12_named cX12_named 2 (some .int) false 0 := pm_LM.ofR 6168 6165 rfl lc_13 ld_14 rfl rfl
theorem li_X12_named : pm_LI yX12_named RX12 := ⟨pm_inR 6167 rfl rfl, pm_inR 60 rfl rfl⟩
theorem lm_X12_179 : pm_LM RX12 179 yX12_number cX12_number 3 (some .boolean) false 2 := pm_LM.ofR 6172 6169 rfl lc_13 ld_9 rfl rfl
theorem li_X12_number : pm_LI yX12_number RX12 := ⟨pm_inR 6171 rfl rfl, pm_inR 61 rfl rfl⟩
theorem lm_X12_183 : pm_LM RX12 183 yX12_closes cX12_closes 1 (some .boolean) false 0 := pm_LM.ofR 6176 6173 rfl lc_13 ld_8 rfl rfl
theorem li_X12_closes : pm_LI yX12_closes RX12 := ⟨pm_inR 6175 rfl rfl, pm_inR 62 rfl rfl⟩
theorem lm_X12_195 : pm_LM RX12 195 yX12_soundLine cX12_soundLine 5 (some .boolean) false 0 := pm_LM.ofR 6155 6152 rfl lc_13 ld_8 rfl rfl
theorem li_X12_soundLine : pm_LI yX12_soundLine RX12 := ⟨pm_inR 6154 rfl rfl, pm_inR 58 rfl rfl⟩
theorem lm_X12_198 : pm_LM RX12 198 yX12_spanLine cX12_spanLine 3 (some .boolean) false 1 := pm_LM.ofR 6184 6181 rfl lc_13 ld_7 rfl rfl
theorem li_X12_spanLine : pm_LI yX12_spanLine RX12 := ⟨pm_inR 6183 rfl rfl, pm_inR 64 rfl rfl⟩
theorem lm_X12_201 : pm_LM RX12 201 yX12_oddsLine cX12_oddsLine 2 (some .boolean) false 0 := pm_LM.ofR 6188 6185 rfl lc_13 ld_8 rfl rfl
theorem li_X12_oddsLine : pm_LI yX12_oddsLine RX12 := ⟨pm_inR 6187 rfl rfl, pm_inR 65 rfl rfl⟩
theorem lm_X12_204 : pm_LM RX12 204 yX12_holdLine cX12_holdLine 2 (some .boolean) false 0 := pm_LM.ofR 6192 6189 rfl lc_13 ld_8 rfl rfl
theorem li_X12_holdLine : pm_LI yX12_holdLine RX12 := ⟨pm_inR 6191 rfl rfl, pm_inR 66 rfl rfl⟩
theorem lm_X12_207 : pm_LM RX12 207 yX12_learnLine cX12_learnLine 4 (some .boolean) false 0 := pm_LM.ofR 6196 6193 rfl lc_13 ld_8 rfl rfl
theorem li_X12_learnLine : pm_LI yX12_learnLine RX12 := ⟨pm_inR 6195 rfl rfl, pm_inR 67 rfl rfl⟩
theorem lm_X12_210 : pm_LM RX12 210 yX12_sceneLine cX12_sceneLine 1 (some .boolean) false 0 := pm_LM.ofR 6095 6092 rfl lc_13 ld_8 rfl rfl
theorem li_X12_sceneLine : pm_LI yX12_sceneLine RX12 := ⟨pm_inR 6094 rfl rfl, pm_inR 56 rfl rfl⟩
theorem lm_X12_213 : pm_LM RX12 213 yX12_sceneFault cX12_sceneFault 1 (some .int) false 0 := pm_LM.ofR 6075 6072 rfl lc_13 ld_14 rfl rfl
theorem li_X12_sceneFault : pm_LI yX12_sceneFault RX12 := ⟨pm_inR 6074 rfl rfl, pm_inR 54 rfl rfl⟩
theorem lm_X12_244 : pm_LM RX12 244 yX12_rank cX12_rank 1 (some .int) false 1 := pm_LM.ofR 6238 6236 rfl lc_13 ld_13 rfl rfl
theorem ls_X12_rank : pm_LS yX12_rank := pm_inR 6237 rfl rfl
theorem lm_X12_248 : pm_LM RX12 248 yX12_lays cX12_lays 3 none false 2 := pm_LM.ofR 6222 6219 rfl lc_13 ld_20 rfl rfl
theorem li_X12_lays : pm_LI yX12_lays RX12 := ⟨pm_inR 6221 rfl rfl, pm_inR 71 rfl rfl⟩
theorem lm_X12_262 : pm_LM RX12 262 yX12_nameHere cX12_nameHere 1 (some .int) false 0 := pm_LM.ofR 6226 6223 rfl lc_13 ld_14 rfl rfl
theorem li_X12_nameHere : pm_LI yX12_nameHere RX12 := ⟨pm_inR 6225 rfl rfl, pm_inR 72 rfl rfl⟩
theorem lm_X12_265 : pm_LM RX12 265 yX12_empties cX12_empties 2 none false 1 := pm_LM.ofR 6235 6232 rfl lc_13 ld_4 rfl rfl
theorem li_X12_empties : pm_LI yX12_empties RX12 := ⟨pm_inR 6234 rfl rfl, pm_inR 73 rfl rfl⟩
theorem lm_X12_284 : pm_LM RX12 284 yX12_sumHere cX12_sumHere 4 (some .boolean) false 0 := pm_LM.ofR 6218 6215 rfl lc_13 ld_8 rfl rfl
theorem li_X12_sumHere : pm_LI yX12_sumHere RX12 := ⟨pm_inR 6217 rfl rfl, pm_inR 70 rfl rfl⟩
theorem lm_X12_289 : pm_LM RX12 289 yX12_ruleLine cX12_ruleLine 4 (some .boolean) false 0 := pm_LM.ofR 6208 6205 rfl lc_13 ld_8 rfl rfl
theorem li_X12_ruleLine : pm_LI yX12_ruleLine RX12 := ⟨pm_inR 6207 rfl rfl, pm_inR 69 rfl rfl⟩
theorem lm_X12_292 : pm_LM RX12 292 yX12_rulesFault cX12_rulesFault 1 (some .int) false 0 := pm_LM.ofR 6204 6201 rfl lc_13 ld_14 rfl rfl
theorem li_X12_rulesFault : pm_LI yX12_rulesFault RX12 := ⟨pm_inR 6203 rfl rfl, pm_inR 68 rfl rfl⟩
theorem lm_X12_299 : pm_LM RX12 299 yX12_areChanges cX12_areChanges 3 (some .boolean) false 3 := pm_LM.ofR 7015 7013 rfl lc_13 ld_15 rfl rfl
theorem ls_X12_areChanges : pm_LS yX12_areChanges := pm_inR 7014 rfl rfl
theorem lm_X12_302 : pm_LM RX12 302 yX12_isPerson cX12_isPerson 2 (some .boolean) false 1 := pm_LM.ofR 7023 7020 rfl lc_13 ld_7 rfl rfl
theorem li_X12_isPerson : pm_LI yX12_isPerson RX12 := ⟨pm_inR 7022 rfl rfl, pm_inR 74 rfl rfl⟩
theorem lm_X12_311 : pm_LM RX12 311 yJ9_max_7cf53 cJ9_max_7cf53 2 (some .int) false 2 := pm_LM.ofR 4013 7047 rfl lc_9 ld_22 rfl rfl
theorem lm_X12_335 : pm_LM RX12 335 yX12_x cX12_x 2 (some .int) false 1 := pm_LM.ofR 7051 7048 rfl lc_13 ld_13 rfl rfl
theorem li_X12_x : pm_LI yX12_x RX12 := ⟨pm_inR 7050 rfl rfl, pm_inR 78 rfl rfl⟩
theorem lm_X12_338 : pm_LM RX12 338 yX12_far cX12_far 1 (some .int) false 1 := pm_LM.ofR 7054 7052 rfl lc_13 ld_13 rfl rfl
theorem ls_X12_far : pm_LS yX12_far := pm_inR 7053 rfl rfl
theorem lm_X12_341 : pm_LM RX12 341 yX12_y cX12_y 2 (some .int) false 1 := pm_LM.ofR 7058 7055 rfl lc_13 ld_13 rfl rfl
theorem li_X12_y : pm_LI yX12_y RX12 := ⟨pm_inR 7057 rfl rfl, pm_inR 79 rfl rfl⟩
theorem lm_X12_344 : pm_LM RX12 344 yX12_takesVoice cX12_takesVoice 2 none false 0 := pm_LM.ofR 7066 7063 rfl lc_13 ld_33 rfl rfl
theorem li_X12_takesVoice : pm_LI yX12_takesVoice RX12 := ⟨pm_inR 7065 rfl rfl, pm_inR 81 rfl rfl⟩
theorem lm_X12_347 : pm_LM RX12 347 yX12_takesFace cX12_takesFace 2 none false 0 := pm_LM.ofR 7070 7067 rfl lc_13 ld_33 rfl rfl
theorem li_X12_takesFace : pm_LI yX12_takesFace RX12 := ⟨pm_inR 7069 rfl rfl, pm_inR 82 rfl rfl⟩
theorem lm_X12_350 : pm_LM RX12 350 yJ9_max_f86c9 cJ9_max_f86c9 4 (some .long) false 2 := pm_LM.ofR 4170 7075 rfl lc_9 ld_32 rfl rfl
theorem lm_X12_353 : pm_LM RX12 353 yX12_takesSurer cX12_takesSurer 8 none false 0 := pm_LM.ofR 7074 7071 rfl lc_13 ld_33 rfl rfl
theorem li_X12_takesSurer : pm_LI yX12_takesSurer RX12 := ⟨pm_inR 7073 rfl rfl, pm_inR 83 rfl rfl⟩
theorem lm_X12_356 : pm_LM RX12 356 yX12_takesOdds cX12_takesOdds 4 none false 0 := pm_LM.ofR 7079 7076 rfl lc_13 ld_33 rfl rfl
theorem li_X12_takesOdds : pm_LI yX12_takesOdds RX12 := ⟨pm_inR 7078 rfl rfl, pm_inR 84 rfl rfl⟩
theorem lm_X12_359 : pm_LM RX12 359 yX12_takesBetween cX12_takesBetween 6 none false 0 := pm_LM.ofR 7083 7080 rfl lc_13 ld_33 rfl rfl
theorem li_X12_takesBetween : pm_LI yX12_takesBetween RX12 := ⟨pm_inR 7082 rfl rfl, pm_inR 85 rfl rfl⟩
theorem lm_X12_367 : pm_LM RX12 367 yX12_kindOf cX12_kindOf 2 (some .int) false 1 := pm_LM.ofR 7104 7101 rfl lc_13 ld_13 rfl rfl
theorem li_X12_kindOf : pm_LI yX12_kindOf RX12 := ⟨pm_inR 7103 rfl rfl, pm_inR 88 rfl rfl⟩
theorem lm_X12_370 : pm_LM RX12 370 yX12_isLaw cX12_isLaw 1 (some .boolean) false 1 := pm_LM.ofR 7038 7036 rfl lc_13 ld_7 rfl rfl
theorem ls_X12_isLaw : pm_LS yX12_isLaw := pm_inR 7037 rfl rfl
theorem lm_X12_373 : pm_LM RX12 373 yX12_isTrial cX12_isTrial 4 (some .boolean) false 3 := pm_LM.ofR 7042 7039 rfl lc_13 ld_15 rfl rfl
theorem li_X12_isTrial : pm_LI yX12_isTrial RX12 := ⟨pm_inR 7041 rfl rfl, pm_inR 76 rfl rfl⟩
theorem lm_X12_376 : pm_LM RX12 376 yX12_works cX12_works 7 none false 3 := pm_LM.ofR 7046 7043 rfl lc_13 ld_16 rfl rfl
theorem li_X12_works : pm_LI yX12_works RX12 := ⟨pm_inR 7045 rfl rfl, pm_inR 77 rfl rfl⟩
theorem lm_X12_380 : pm_LM RX12 380 yX12_weighs cX12_weighs 5 none false 1 := pm_LM.ofR 7062 7059 rfl lc_13 ld_4 rfl rfl
theorem li_X12_weighs : pm_LI yX12_weighs RX12 := ⟨pm_inR 7061 rfl rfl, pm_inR 80 rfl rfl⟩
theorem lm_X12_383 : pm_LM RX12 383 yX12_weighsIf cX12_weighsIf 5 (some .boolean) false 4 := pm_LM.ofR 7035 7032 rfl lc_13 ld_12 rfl rfl
theorem li_X12_weighsIf : pm_LI yX12_weighsIf RX12 := ⟨pm_inR 7034 rfl rfl, pm_inR 75 rfl rfl⟩
theorem lm_X12_387 : pm_LM RX12 387 yX12_chanceOf cX12_chanceOf 2 (some .int) false 1 := pm_LM.ofR 7091 7088 rfl lc_13 ld_13 rfl rfl
theorem li_X12_chanceOf : pm_LI yX12_chanceOf RX12 := ⟨pm_inR 7090 rfl rfl, pm_inR 86 rfl rfl⟩
theorem lm_X12_390 : pm_LM RX12 390 yX12_chanceOfKind cX12_chanceOfKind 5 (some .int) false 1 := pm_LM.ofR 7100 7097 rfl lc_13 ld_13 rfl rfl
theorem li_X12_chanceOfKind : pm_LI yX12_chanceOfKind RX12 := ⟨pm_inR 7099 rfl rfl, pm_inR 87 rfl rfl⟩
theorem lm_X12_393 : pm_LM RX12 393 yX12_likeliest cX12_likeliest 3 (some .int) false 0 := pm_LM.ofR 7112 7109 rfl lc_13 ld_14 rfl rfl
theorem li_X12_likeliest : pm_LI yX12_likeliest RX12 := ⟨pm_inR 7111 rfl rfl, pm_inR 89 rfl rfl⟩
theorem lm_X12_396 : pm_LM RX12 396 yX12_noticedNow cX12_noticedNow 5 (some .int) false 0 := pm_LM.ofR 7120 7117 rfl lc_13 ld_14 rfl rfl
theorem li_X12_noticedNow : pm_LI yX12_noticedNow RX12 := ⟨pm_inR 7119 rfl rfl, pm_inR 90 rfl rfl⟩
theorem ld_43 : pm_LD "(IIIII)V" 5 := by unfold pm_LD; decide +kernel
theorem lm_X12_399 : pm_LM RX12 399 yX12_keepsAnswer cX12_keepsAnswer 7 none false 5 := pm_LM.ofR 7128 7125 rfl lc_13 ld_43 rfl rfl
theorem li_X12_keepsAnswer : pm_LI yX12_keepsAnswer RX12 := ⟨pm_inR 7127 rfl rfl, pm_inR 91 rfl rfl⟩
theorem lm_X12_403 : pm_LM RX12 403 yX12_worksAnswer cX12_worksAnswer 2 none false 1 := pm_LM.ofR 7140 7137 rfl lc_13 ld_4 rfl rfl
theorem li_X12_worksAnswer : pm_LI yX12_worksAnswer RX12 := ⟨pm_inR 7139 rfl rfl, pm_inR 92 rfl rfl⟩
theorem lm_X12_408 : pm_LM RX12 408 yX12_ones cX12_ones 2 none false 1 := pm_LM.ofR 7152 7149 rfl lc_13 ld_4 rfl rfl
theorem li_X12_ones : pm_LI yX12_ones RX12 := ⟨pm_inR 7151 rfl rfl, pm_inR 94 rfl rfl⟩
theorem ld_44 : pm_LD "(IJ)V" 2 := by unfold pm_LD; decide +kernel
theorem lm_X12_411 : pm_LM RX12 411 yX12_multiplies cX12_multiplies 9 none false 2 := pm_LM.ofR 7156 7153 rfl lc_13 ld_44 rfl rfl
theorem li_X12_multiplies : pm_LI yX12_multiplies RX12 := ⟨pm_inR 7155 rfl rfl, pm_inR 95 rfl rfl⟩
theorem lm_X12_415 : pm_LM RX12 415 yX12_joins cX12_joins 11 none false 3 := pm_LM.ofR 7173 7170 rfl lc_13 ld_16 rfl rfl
theorem li_X12_joins : pm_LI yX12_joins RX12 := ⟨pm_inR 7172 rfl rfl, pm_inR 99 rfl rfl⟩
theorem lm_X12_418 : pm_LM RX12 418 yX12_compares cX12_compares 6 (some .int) false 2 := pm_LM.ofR 7177 7174 rfl lc_13 ld_22 rfl rfl
theorem li_X12_compares : pm_LI yX12_compares RX12 := ⟨pm_inR 7176 rfl rfl, pm_inR 100 rfl rfl⟩
theorem lm_X12_421 : pm_LM RX12 421 yX12_copies cX12_copies 4 none false 2 := pm_LM.ofR 7165 7162 rfl lc_13 ld_20 rfl rfl
theorem li_X12_copies : pm_LI yX12_copies RX12 := ⟨pm_inR 7164 rfl rfl, pm_inR 97 rfl rfl⟩
theorem lm_X12_424 : pm_LM RX12 424 yX12_fits cX12_fits 5 none false 3 := pm_LM.ofR 7148 7145 rfl lc_13 ld_16 rfl rfl
theorem li_X12_fits : pm_LI yX12_fits RX12 := ⟨pm_inR 7147 rfl rfl, pm_inR 93 rfl rfl⟩
theorem lm_X12_427 : pm_LM RX12 427 yX12_keeps cX12_keeps 1 none false 0 := pm_LM.ofR 7161 7158 rfl lc_13 ld_33 rfl rfl
theorem li_X12_keeps : pm_LI yX12_keeps RX12 := ⟨pm_inR 7160 rfl rfl, pm_inR 96 rfl rfl⟩
theorem lm_X12_430 : pm_LM RX12 430 yX12_against cX12_against 1 (some .int) false 0 := pm_LM.ofR 7169 7166 rfl lc_13 ld_14 rfl rfl
theorem li_X12_against : pm_LI yX12_against RX12 := ⟨pm_inR 7168 rfl rfl, pm_inR 98 rfl rfl⟩
theorem lm_X12_433 : pm_LM RX12 433 yX12_isOf cX12_isOf 3 (some .boolean) false 2 := pm_LM.ofR 7193 7190 rfl lc_13 ld_9 rfl rfl
theorem li_X12_isOf : pm_LI yX12_isOf RX12 := ⟨pm_inR 7192 rfl rfl, pm_inR 101 rfl rfl⟩
theorem lm_X12_436 : pm_LM RX12 436 yX12_third cX12_third 4 (some .int) false 3 := pm_LM.ofR 7209 7206 rfl lc_13 ld_21 rfl rfl
theorem li_X12_third : pm_LI yX12_third RX12 := ⟨pm_inR 7208 rfl rfl, pm_inR 102 rfl rfl⟩
theorem lm_X12_439 : pm_LM RX12 439 yX12_canBe cX12_canBe 4 (some .boolean) false 3 := pm_LM.ofR 7217 7214 rfl lc_13 ld_15 rfl rfl
theorem li_X12_canBe : pm_LI yX12_canBe RX12 := ⟨pm_inR 7216 rfl rfl, pm_inR 103 rfl rfl⟩
theorem lm_X12_442 : pm_LM RX12 442 yX12_rightOf cX12_rightOf 6 (some .int) false 3 := pm_LM.ofR 7221 7218 rfl lc_13 ld_21 rfl rfl
theorem li_X12_rightOf : pm_LI yX12_rightOf RX12 := ⟨pm_inR 7220 rfl rfl, pm_inR 104 rfl rfl⟩
theorem lm_X12_447 : pm_LM RX12 447 yX12_areLaws cX12_areLaws 1 (some .boolean) false 1 := pm_LM.ofR 7232 7230 rfl lc_13 ld_7 rfl rfl
theorem ls_X12_areLaws : pm_LS yX12_areLaws := pm_inR 7231 rfl rfl
theorem lm_X12_450 : pm_LM RX12 450 yX12_partedNow cX12_partedNow 11 (some .int) false 2 := pm_LM.ofR 7236 7233 rfl lc_13 ld_22 rfl rfl
theorem li_X12_partedNow : pm_LI yX12_partedNow RX12 := ⟨pm_inR 7235 rfl rfl, pm_inR 105 rfl rfl⟩
theorem lm_X12_457 : pm_LM RX12 457 yX12_tellsNames cX12_tellsNames 4 none false 3 := pm_LM.ofR 8013 8010 rfl lc_13 ld_16 rfl rfl
theorem li_X12_tellsNames : pm_LI yX12_tellsNames RX12 := ⟨pm_inR 8012 rfl rfl, pm_inR 106 rfl rfl⟩
theorem lm_X12_460 : pm_LM RX12 460 yX12_brought cX12_brought 2 (some .int) false 1 := pm_LM.ofR 8016 8014 rfl lc_13 ld_28 rfl rfl
theorem ls_X12_brought : pm_LS yX12_brought := pm_inR 8015 rfl rfl
theorem lm_X12_476 : pm_LM RX12 476 yX12_draws cX12_draws 3 (some .int) false 1 := pm_LM.ofR 8027 8024 rfl lc_13 ld_28 rfl rfl
theorem li_X12_draws : pm_LI yX12_draws RX12 := ⟨pm_inR 8026 rfl rfl, pm_inR 107 rfl rfl⟩
theorem lm_X11_9 : pm_LM RX11 9 yX8_init cX8_init 1 none true 0 := pm_LM.ofRN 1031 1029 rfl lc_4 ld_33 rfl
theorem ln_X8_init : Cond.instanceMethod yX8_init ∈ pm_all := pm_inR 1030 rfl rfl
theorem lm_X11_23 : pm_LM RX11 23 yX7_init cX7_init 1 none true 0 := pm_LM.ofRN 1076 1074 rfl lc_5 ld_33 rfl
theorem ln_X7_init : Cond.instanceMethod yX7_init ∈ pm_all := pm_inR 1075 rfl rfl
theorem lm_X11_34 : pm_LM RX11 34 yX5_init cX5_init 1 none true 0 := pm_LM.ofRN 1133 1131 rfl lc_12 ld_33 rfl
theorem ln_X5_init : Cond.instanceMethod yX5_init ∈ pm_all := pm_inR 1132 rfl rfl
theorem lm_X11_44 : pm_LM RX11 44 yX2_init cX2_init 1 none true 0 := pm_LM.ofRN 1208 1206 rfl lc_8 ld_33 rfl
theorem ln_X2_init : Cond.instanceMethod yX2_init ∈ pm_all := pm_inR 1207 rfl rfl
theorem lm_X11_81 : pm_LM RX11 81 yX4_init cX4_init 1 none true 0 := pm_LM.ofRN 2105 2103 rfl lc_7 ld_33 rfl
theorem ln_X4_init : Cond.instanceMethod yX4_init ∈ pm_all := pm_inR 2104 rfl rfl
theorem lm_X11_92 : pm_LM RX11 92 yX0_init cX0_init 1 none true 0 := pm_LM.ofRN 2131 2129 rfl lc_10 ld_33 rfl
theorem ln_X0_init : Cond.instanceMethod yX0_init ∈ pm_all := pm_inR 2130 rfl rfl
theorem lm_X4_9 : pm_LM RX4 9 yX1_init cX1_init 1 none true 0 := pm_LM.ofRN 2111 2109 rfl lc_11 ld_33 rfl
theorem ln_X1_init : Cond.instanceMethod yX1_init ∈ pm_all := pm_inR 2110 rfl rfl
theorem lm_X7_59 : pm_LM RX7 59 yX11_kindOfSaid cX11_kindOfSaid 3 (some .int) true 3 := pm_LM.ofRN 4096 4134 rfl lc_6 ld_21 rfl
theorem ld_45 : pm_LD "(JJ)I" 2 := by unfold pm_LD; decide +kernel
theorem lm_X10_141 : pm_LM RX10 141 yX11_ofThousand cX11_ofThousand 4 (some .int) true 2 := pm_LM.ofRN 4081 4079 rfl lc_6 ld_45 rfl
theorem ls_X11_ofThousand : pm_LS yX11_ofThousand := pm_inR 4080 rfl rfl
theorem lm_X10_145 : pm_LM RX10 145 yX11_kindOfSaid cX11_kindOfSaid 3 (some .int) true 3 := pm_LM.ofRN 4096 4094 rfl lc_6 ld_21 rfl
