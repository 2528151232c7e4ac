/-! the other cases -/
section LW
variable {X : pm_X} {L : Nat} {xs : Nat → Int32} {i : Int} {V : pm_M}
set_option maxHeartbeats 4000000 in
set_option maxRecDepth 100000 in
theorem lw_c_own (hC : pm_C X RL cL_law 4 60) (hS : pm_Sc X L xs) (hL : L ≤ 3072) (hi : 0 ≤ i ∧ i + 6 ≤ (L : Int)) (hI : lw_J V) (nxt : ∀ V', lw_J V' → pm_J X 1566 (lw_lv i) [] 118 V') : pm_J X 931 (lw_lv i) [] 118 V := by
  obtain ⟨⟨hV, hQ⟩, hP⟩ := hI
  refine pm_aload_n hC 1 (by decide) dL_law_931 rfl ?_
  refine lw_ld hC hS hL hi (c := 1) (by decide) dL_law_932 dL_law_933 dL_law_934 dL_law_935 dL_law_936 (fun a1 e1 b1 => ?_)
  refine lw_ld hC hS hL hi (c := 2) (by decide) dL_law_937 dL_law_938 dL_law_939 dL_law_940 dL_law_941 (fun a2 e2 b2 => ?_)
  refine pm_callV (ci := 11) (as := [(0, a1), (0, a2)]) (st := []) hC 0 (uD_X11_own_0 a1 a2 b1 b2) lm_L_97 li_X11_own (by decide) (by decide) rfl rfl rfl (by decide) rfl rfl (Nat.le_of_ble_eq_true rfl) ⟨Nat.le_refl _, Or.inl rfl⟩ dL_law_942 ⟨rfl, hV.1⟩ (fun r1 V1 hp1 => ?_)
  obtain ⟨y1, rfl, -, hok, hf⟩ := hp1
  change pm_J X 945 (lw_lv i) [(0, y1)] 118 V1
  refine pm_pop hC rfl dL_law_945 ?_
  have hk1 := hf.hi (by decide)
  have hQ1 := hQ.hi hk1
  have hP1 := hP.hi hk1
  have hV1 := hV.ff hok hf (by decide) (by decide)
  refine pm_aload_n hC 2 (by decide) dL_law_946 rfl ?_
  refine lw_ld hC hS hL hi (c := 1) (by decide) dL_law_947 dL_law_948 dL_law_949 dL_law_950 dL_law_951 (fun a1x e1x b1x => ?_)
  refine lw_ld hC hS hL hi (c := 2) (by decide) dL_law_952 dL_law_953 dL_law_954 dL_law_955 dL_law_956 (fun a2x e2x b2x => ?_)
  obtain rfl : a1 = a1x := e1.symm.trans e1x
  obtain rfl : a2 = a2x := e2.symm.trans e2x
  have hq1 := hQ1.ff hf (by decide)
  have hp1 := hP1.ff hf (by decide)
  rcases hV1.2.2.2 with hA | hB
  · have nS := lw_noS hA
    refine pm_callV (ci := 12) (as := [(0, a1), (0, a2)]) (st := []) hC 90 (A_X12_own a1 a2 b1 b2) lm_L_100 li_X12_own (by decide) (by decide) rfl rfl rfl (by decide) rfl rfl (Nat.le_of_ble_eq_true rfl) ⟨Nat.le_refl _, Or.inl rfl⟩ dL_law_957 ⟨rfl, hA⟩ (fun r2 V2 hp2 => ?_)
    obtain ⟨y2, rfl, -, rfl⟩ := hp2
    change pm_J X 960 (lw_lv i) [(0, y2)] 118 V1
    refine pm_pop hC rfl dL_law_960 ?_
    refine pm_goto (tgt := 1566) hC dL_law_961 (by decide) ?_
    exact nxt _ ⟨⟨hV1, hq1⟩, hp1⟩
  · skip
    refine pm_callV (ci := 12) (as := [(0, a1), (0, a2)]) (st := []) hC 90 (fB_X12_own a1 a2 b1 b2) lm_L_100 li_X12_own (by decide) (by decide) rfl rfl rfl (by decide) rfl rfl (Nat.le_of_ble_eq_true rfl) ⟨Nat.le_refl _, Or.inl rfl⟩ dL_law_957 ⟨rfl, hB.1, hB.2.1, hB.2.2.1, hB.2.2.2.1⟩ (fun r2 V2 hp2 => ?_)
    obtain ⟨y2, rfl, -, hq, hg, hx3, -⟩ := hp2
    change pm_J X 960 (lw_lv i) [(0, y2)] 118 V2
    have hk2 := hg.lo (by decide)
    have hP2 := (hp1.own hg hx3 (by decide)).lo hk2
    have hQ2 := (hq1.fs hg (by decide) (by decide)).lo hk2
    refine pm_pop hC rfl dL_law_960 ?_
    refine pm_goto (tgt := 1566) hC dL_law_961 (by decide) ?_
    exact nxt _ ⟨⟨(hV1.rB hB hq hg (by decide) (by decide) (by decide) (lw_k3 hB hg (by decide) (by decide)) (lw_k4 hB hg (by decide) (by decide))), hQ2⟩, hP2⟩
set_option maxHeartbeats 4000000 in
set_option maxRecDepth 100000 in
theorem lw_c_share (hC : pm_C X RL cL_law 4 60) (hS : pm_Sc X L xs) (hL : L ≤ 3072) (hi : 0 ≤ i ∧ i + 6 ≤ (L : Int)) (hI : lw_J V) (nxt : ∀ V', lw_J V' → pm_J X 1566 (lw_lv i) [] 118 V') : pm_J X 964 (lw_lv i) [] 118 V := by
  obtain ⟨⟨hV, hQ⟩, hP⟩ := hI
  refine pm_aload_n hC 1 (by decide) dL_law_964 rfl ?_
  refine lw_ld hC hS hL hi (c := 1) (by decide) dL_law_965 dL_law_966 dL_law_967 dL_law_968 dL_law_969 (fun a1 e1 b1 => ?_)
  refine lw_ld hC hS hL hi (c := 2) (by decide) dL_law_970 dL_law_971 dL_law_972 dL_law_973 dL_law_974 (fun a2 e2 b2 => ?_)
  refine pm_callV (ci := 11) (as := [(0, a1), (0, a2)]) (st := []) hC 0 (fD_X11_share_0 a1 a2 b1 b2) lm_L_101 li_X11_share (by decide) (by decide) rfl rfl rfl (by decide) rfl rfl (Nat.le_of_ble_eq_true rfl) ⟨Nat.le_refl _, Or.inl rfl⟩ dL_law_975 ⟨rfl, hV.1⟩ (fun r1 V1 hp1 => ?_)
  obtain ⟨y1, rfl, -, rfl, hF1⟩ := hp1
  change pm_J X 978 (lw_lv i) [(0, y1)] 118 V
  refine pm_pop hC rfl dL_law_978 ?_
  have hQ1 := hQ
  have hP1 := hP
  refine pm_aload_n hC 2 (by decide) dL_law_979 rfl ?_
  refine lw_ld hC hS hL hi (c := 1) (by decide) dL_law_980 dL_law_981 dL_law_982 dL_law_983 dL_law_984 (fun a1x e1x b1x => ?_)
  refine lw_ld hC hS hL hi (c := 2) (by decide) dL_law_985 dL_law_986 dL_law_987 dL_law_988 dL_law_989 (fun a2x e2x b2x => ?_)
  obtain rfl : a1 = a1x := e1.symm.trans e1x
  obtain rfl : a2 = a2x := e2.symm.trans e2x
  rcases hV.2.2.2 with hA | hB
  · have nS := lw_noS hA
    refine pm_callV (ci := 12) (as := [(0, a1), (0, a2)]) (st := []) hC 90 (A_X12_share a1 a2 b1 b2) lm_L_104 li_X12_share (by decide) (by decide) rfl rfl rfl (by decide) rfl rfl (Nat.le_of_ble_eq_true rfl) ⟨Nat.le_refl _, Or.inl rfl⟩ dL_law_990 ⟨rfl, hA⟩ (fun r2 V2 hp2 => ?_)
    obtain ⟨y2, rfl, -, rfl⟩ := hp2
    change pm_J X 993 (lw_lv i) [(0, y2)] 118 V
    refine pm_pop hC rfl dL_law_993 ?_
    refine pm_goto (tgt := 1566) hC dL_law_994 (by decide) ?_
    exact nxt _ ⟨⟨hV, hQ1⟩, hP1⟩
  · skip
    refine pm_callV (ci := 12) (as := [(0, a1), (0, a2)]) (st := []) hC 90 (fB_X12_share a1 a2 b1 b2) lm_L_104 li_X12_share (by decide) (by decide) rfl rfl rfl (by decide) rfl rfl (Nat.le_of_ble_eq_true rfl) ⟨Nat.le_refl _, Or.inl rfl⟩ dL_law_990 ⟨rfl, hB.1, hB.2.1, hB.2.2.2.1⟩ (fun r2 V2 hp2 => ?_)
    obtain ⟨y2, rfl, -, hq, hg, -⟩ := hp2
    change pm_J X 993 (lw_lv i) [(0, y2)] 118 V2
    have hk2 := hg.lo (by decide)
    have hP2 := (hP1.fs hg (by decide)).lo hk2
    have hQ2 := (hQ1.fs hg (by decide) (by decide)).lo hk2
    refine pm_pop hC rfl dL_law_993 ?_
    refine pm_goto (tgt := 1566) hC dL_law_994 (by decide) ?_
    exact nxt _ ⟨⟨(hV.rB hB hq hg (by decide) (by decide) (by decide) (lw_k3 hB hg (by decide) (by decide)) (lw_k4 hB hg (by decide) (by decide))), hQ2⟩, hP2⟩
set_option maxHeartbeats 4000000 in
set_option maxRecDepth 100000 in
theorem lw_c_foretold (hC : pm_C X RL cL_law 4 60) (hS : pm_Sc X L xs) (hL : L ≤ 3072) (hi : 0 ≤ i ∧ i + 6 ≤ (L : Int)) (hI : lw_J V) (nxt : ∀ V', lw_J V' → pm_J X 1566 (lw_lv i) [] 118 V') : pm_J X 997 (lw_lv i) [] 118 V := by
  obtain ⟨⟨hV, hQ⟩, hP⟩ := hI
  refine pm_aload_n hC 1 (by decide) dL_law_997 rfl ?_
  refine lw_ld hC hS hL hi (c := 1) (by decide) dL_law_998 dL_law_999 dL_law_1000 dL_law_1001 dL_law_1002 (fun a1 e1 b1 => ?_)
  refine lw_ld hC hS hL hi (c := 2) (by decide) dL_law_1003 dL_law_1004 dL_law_1005 dL_law_1006 dL_law_1007 (fun a2 e2 b2 => ?_)
  refine lw_ld hC hS hL hi (c := 3) (by decide) dL_law_1008 dL_law_1009 dL_law_1010 dL_law_1011 dL_law_1012 (fun a3 e3 b3 => ?_)
  refine pm_callV (ci := 11) (as := [(0, a1), (0, a2), (0, a3)]) (st := []) hC 0 (fD_X11_foretold_0 a1 a2 a3 b1 b2 b3) lm_L_105 li_X11_foretold (by decide) (by decide) rfl rfl rfl (by decide) rfl rfl (Nat.le_of_ble_eq_true rfl) ⟨Nat.le_refl _, Or.inl rfl⟩ dL_law_1013 ⟨rfl, hV.1⟩ (fun r1 V1 hp1 => ?_)
  obtain ⟨y1, rfl, -, hok, hf, hF1⟩ := hp1
  change pm_J X 1016 (lw_lv i) [(0, y1)] 118 V1
  refine pm_pop hC rfl dL_law_1016 ?_
  have hk1 := hf.hi (by decide)
  have hQ1 := hQ.hi hk1
  have hP1 := hP.hi hk1
  have hV1 := hV.ff hok hf (by decide) (by decide)
  refine pm_aload_n hC 2 (by decide) dL_law_1017 rfl ?_
  refine lw_ld hC hS hL hi (c := 1) (by decide) dL_law_1018 dL_law_1019 dL_law_1020 dL_law_1021 dL_law_1022 (fun a1x e1x b1x => ?_)
  refine lw_ld hC hS hL hi (c := 2) (by decide) dL_law_1023 dL_law_1024 dL_law_1025 dL_law_1026 dL_law_1027 (fun a2x e2x b2x => ?_)
  refine lw_ld hC hS hL hi (c := 3) (by decide) dL_law_1028 dL_law_1029 dL_law_1030 dL_law_1031 dL_law_1032 (fun a3x e3x b3x => ?_)
  obtain rfl : a1 = a1x := e1.symm.trans e1x
  obtain rfl : a2 = a2x := e2.symm.trans e2x
  obtain rfl : a3 = a3x := e3.symm.trans e3x
  have hq1 := hQ1.ff hf (by decide)
  have hp1 := hP1.ff hf (by decide)
  rcases hV1.2.2.2 with hA | hB
  · have nS := lw_noS hA
    refine pm_callV (ci := 12) (as := [(0, a1), (0, a2), (0, a3)]) (st := []) hC 90 (A_X12_foretold a1 a2 a3 b1 b2 b3) lm_L_108 li_X12_foretold (by decide) (by decide) rfl rfl rfl (by decide) rfl rfl (Nat.le_of_ble_eq_true rfl) ⟨Nat.le_refl _, Or.inl rfl⟩ dL_law_1033 ⟨rfl, hA⟩ (fun r2 V2 hp2 => ?_)
    obtain ⟨y2, rfl, -, rfl⟩ := hp2
    change pm_J X 1036 (lw_lv i) [(0, y2)] 118 V1
    refine pm_pop hC rfl dL_law_1036 ?_
    refine pm_goto (tgt := 1566) hC dL_law_1037 (by decide) ?_
    exact nxt _ ⟨⟨hV1, hq1⟩, hp1⟩
  · skip
    refine pm_callV (ci := 12) (as := [(0, a1), (0, a2), (0, a3)]) (st := []) hC 90 (fB_X12_foretold a1 a2 a3 b1 b2 b3) lm_L_108 li_X12_foretold (by decide) (by decide) rfl rfl rfl (by decide) rfl rfl (Nat.le_of_ble_eq_true rfl) ⟨Nat.le_refl _, Or.inl rfl⟩ dL_law_1033 ⟨rfl, hB.1, hB.2.1, hB.2.2.1, hB.2.2.2.1⟩ (fun r2 V2 hp2 => ?_)
    obtain ⟨y2, rfl, -, hq, hg, -⟩ := hp2
    change pm_J X 1036 (lw_lv i) [(0, y2)] 118 V2
    have hk2 := hg.lo (by decide)
    have hP2 := (hp1.fs hg (by decide)).lo hk2
    have hQ2 := (hq1.fs hg (by decide) (by decide)).lo hk2
    refine pm_pop hC rfl dL_law_1036 ?_
    refine pm_goto (tgt := 1566) hC dL_law_1037 (by decide) ?_
    exact nxt _ ⟨⟨(hV1.rB hB hq hg (by decide) (by decide) (by decide) (lw_k3 hB hg (by decide) (by decide)) (lw_k4 hB hg (by decide) (by decide))), hQ2⟩, hP2⟩
set_option maxHeartbeats 4000000 in
set_option maxRecDepth 100000 in
theorem lw_c_pairs (hC : pm_C X RL cL_law 4 60) (hS : pm_Sc X L xs) (hL : L ≤ 3072) (hi : 0 ≤ i ∧ i + 6 ≤ (L : Int)) (hI : lw_J V) (nxt : ∀ V', lw_J V' → pm_J X 1566 (lw_lv i) [] 118 V') : pm_J X 1040 (lw_lv i) [] 118 V := by
  obtain ⟨⟨hV, hQ⟩, hP⟩ := hI
  refine pm_aload_n hC 1 (by decide) dL_law_1040 rfl ?_
  refine lw_ld hC hS hL hi (c := 1) (by decide) dL_law_1041 dL_law_1042 dL_law_1043 dL_law_1044 dL_law_1045 (fun a1 e1 b1 => ?_)
  refine lw_ld hC hS hL hi (c := 2) (by decide) dL_law_1046 dL_law_1047 dL_law_1048 dL_law_1049 dL_law_1050 (fun a2 e2 b2 => ?_)
  refine lw_ld hC hS hL hi (c := 3) (by decide) dL_law_1051 dL_law_1052 dL_law_1053 dL_law_1054 dL_law_1055 (fun a3 e3 b3 => ?_)
  refine lw_ld hC hS hL hi (c := 4) (by decide) dL_law_1056 dL_law_1057 dL_law_1058 dL_law_1059 dL_law_1060 (fun a4 e4 b4 => ?_)
  refine lw_ld hC hS hL hi (c := 5) (by decide) dL_law_1061 dL_law_1062 dL_law_1063 dL_law_1064 dL_law_1065 (fun a5 e5 b5 => ?_)
  refine pm_callV (ci := 11) (as := [(0, a1), (0, a2), (0, a3), (0, a4), (0, a5)]) (st := []) hC 0 (fD_X11_pairs_0 a1 a2 a3 a4 a5 b1 b2 b3 b4 b5) lm_L_109 li_X11_pairs (by decide) (by decide) rfl rfl rfl (by decide) rfl rfl (Nat.le_of_ble_eq_true rfl) ⟨Nat.le_refl _, Or.inl rfl⟩ dL_law_1066 ⟨rfl, hV.1⟩ (fun r1 V1 hp1 => ?_)
  obtain ⟨y1, rfl, -, hok, hf, hF1⟩ := hp1
  change pm_J X 1069 (lw_lv i) [(0, y1)] 118 V1
  refine pm_pop hC rfl dL_law_1069 ?_
  have hk1 := hf.hi (by decide)
  have hQ1 := hQ.hi hk1
  have hP1 := hP.hi hk1
  have hV1 := hV.ff hok hf (by decide) (by decide)
  refine pm_aload_n hC 2 (by decide) dL_law_1070 rfl ?_
  refine lw_ld hC hS hL hi (c := 1) (by decide) dL_law_1071 dL_law_1072 dL_law_1073 dL_law_1074 dL_law_1075 (fun a1x e1x b1x => ?_)
  refine lw_ld hC hS hL hi (c := 2) (by decide) dL_law_1076 dL_law_1077 dL_law_1078 dL_law_1079 dL_law_1080 (fun a2x e2x b2x => ?_)
  refine lw_ld hC hS hL hi (c := 3) (by decide) dL_law_1081 dL_law_1082 dL_law_1083 dL_law_1084 dL_law_1085 (fun a3x e3x b3x => ?_)
  refine lw_ld hC hS hL hi (c := 4) (by decide) dL_law_1086 dL_law_1087 dL_law_1088 dL_law_1089 dL_law_1090 (fun a4x e4x b4x => ?_)
  refine lw_ld hC hS hL hi (c := 5) (by decide) dL_law_1091 dL_law_1092 dL_law_1093 dL_law_1094 dL_law_1095 (fun a5x e5x b5x => ?_)
  obtain rfl : a1 = a1x := e1.symm.trans e1x
  obtain rfl : a2 = a2x := e2.symm.trans e2x
  obtain rfl : a3 = a3x := e3.symm.trans e3x
  obtain rfl : a4 = a4x := e4.symm.trans e4x
  obtain rfl : a5 = a5x := e5.symm.trans e5x
  have hq1 := hQ1.ff hf (by decide)
  have hp1 := hP1.ff hf (by decide)
  rcases hV1.2.2.2 with hA | hB
  · have nS := lw_noS hA
    refine pm_callV (ci := 12) (as := [(0, a1), (0, a2), (0, a3), (0, a4), (0, a5)]) (st := []) hC 90 (A_X12_pairs a1 a2 a3 a4 a5 b1 b2 b3 b4 b5) lm_L_112 li_X12_pairs (by decide) (by decide) rfl rfl rfl (by decide) rfl rfl (Nat.le_of_ble_eq_true rfl) ⟨Nat.le_refl _, Or.inl rfl⟩ dL_law_1096 ⟨rfl, hA⟩ (fun r2 V2 hp2 => ?_)
    obtain ⟨y2, rfl, -, rfl⟩ := hp2
    change pm_J X 1099 (lw_lv i) [(0, y2)] 118 V1
    refine pm_pop hC rfl dL_law_1099 ?_
    refine pm_goto (tgt := 1566) hC dL_law_1100 (by decide) ?_
    exact nxt _ ⟨⟨hV1, hq1⟩, hp1⟩
  · skip
    refine pm_callV (ci := 12) (as := [(0, a1), (0, a2), (0, a3), (0, a4), (0, a5)]) (st := []) hC 90 (fB_X12_pairs a1 a2 a3 a4 a5 b1 b2 b3 b4 b5) lm_L_112 li_X12_pairs (by decide) (by decide) rfl rfl rfl (by decide) rfl rfl (Nat.le_of_ble_eq_true rfl) ⟨Nat.le_refl _, Or.inl rfl⟩ dL_law_1096 ⟨rfl, hB.1, hB.2.1, hB.2.2.1⟩ (fun r2 V2 hp2 => ?_)
    obtain ⟨y2, rfl, -, hq, hg, -⟩ := hp2
    change pm_J X 1099 (lw_lv i) [(0, y2)] 118 V2
    have hk2 := hg.lo (by decide)
    have hP2 := (hp1.fs hg (by decide)).lo hk2
    have hQ2 := (hq1.fs hg (by decide) (by decide)).lo hk2
    refine pm_pop hC rfl dL_law_1099 ?_
    refine pm_goto (tgt := 1566) hC dL_law_1100 (by decide) ?_
    exact nxt _ ⟨⟨(hV1.rB hB hq hg (by decide) (by decide) (by decide) (lw_k3 hB hg (by decide) (by decide)) (lw_k4 hB hg (by decide) (by decide))), hQ2⟩, hP2⟩
set_option maxHeartbeats 4000000 in
set_option maxRecDepth 100000 in
theorem lw_c_hump (hC : pm_C X RL cL_law 4 60) (hS : pm_Sc X L xs) (hL : L ≤ 3072) (hi : 0 ≤ i ∧ i + 6 ≤ (L : Int)) (hI : lw_J V) (nxt : ∀ V', lw_J V' → pm_J X 1566 (lw_lv i) [] 118 V') : pm_J X 1103 (lw_lv i) [] 118 V := by
  obtain ⟨⟨hV, hQ⟩, hP⟩ := hI
  refine pm_aload_n hC 1 (by decide) dL_law_1103 rfl ?_
  refine lw_ld hC hS hL hi (c := 1) (by decide) dL_law_1104 dL_law_1105 dL_law_1106 dL_law_1107 dL_law_1108 (fun a1 e1 b1 => ?_)
  refine lw_ld hC hS hL hi (c := 2) (by decide) dL_law_1109 dL_law_1110 dL_law_1111 dL_law_1112 dL_law_1113 (fun a2 e2 b2 => ?_)
  refine lw_ld hC hS hL hi (c := 3) (by decide) dL_law_1114 dL_law_1115 dL_law_1116 dL_law_1117 dL_law_1118 (fun a3 e3 b3 => ?_)
  refine pm_callV (ci := 11) (as := [(0, a1), (0, a2), (0, a3)]) (st := []) hC 0 (fD_X11_hump_0 a1 a2 a3 b1 b2 b3) lm_L_113 li_X11_hump (by decide) (by decide) rfl rfl rfl (by decide) rfl rfl (Nat.le_of_ble_eq_true rfl) ⟨Nat.le_refl _, Or.inl rfl⟩ dL_law_1119 ⟨rfl, hV.1⟩ (fun r1 V1 hp1 => ?_)
  obtain ⟨y1, rfl, -, hok, hf, hF1⟩ := hp1
  change pm_J X 1122 (lw_lv i) [(0, y1)] 118 V1
  refine pm_pop hC rfl dL_law_1122 ?_
  have hk1 := hf.hi (by decide)
  have hQ1 := hQ.hi hk1
  have hP1 := hP.hi hk1
  have hV1 := hV.ff hok hf (by decide) (by decide)
  refine pm_aload_n hC 2 (by decide) dL_law_1123 rfl ?_
  refine lw_ld hC hS hL hi (c := 1) (by decide) dL_law_1124 dL_law_1125 dL_law_1126 dL_law_1127 dL_law_1128 (fun a1x e1x b1x => ?_)
  refine lw_ld hC hS hL hi (c := 2) (by decide) dL_law_1129 dL_law_1130 dL_law_1131 dL_law_1132 dL_law_1133 (fun a2x e2x b2x => ?_)
  refine lw_ld hC hS hL hi (c := 3) (by decide) dL_law_1134 dL_law_1135 dL_law_1136 dL_law_1137 dL_law_1138 (fun a3x e3x b3x => ?_)
  obtain rfl : a1 = a1x := e1.symm.trans e1x
  obtain rfl : a2 = a2x := e2.symm.trans e2x
  obtain rfl : a3 = a3x := e3.symm.trans e3x
  have hq1 := hQ1.ff hf (by decide)
  have hp1 := hP1.ff hf (by decide)
  rcases hV1.2.2.2 with hA | hB
  · have nS := lw_noS hA
    refine pm_callV (ci := 12) (as := [(0, a1), (0, a2), (0, a3)]) (st := []) hC 90 (A_X12_hump a1 a2 a3 b1 b2 b3) lm_L_116 li_X12_hump (by decide) (by decide) rfl rfl rfl (by decide) rfl rfl (Nat.le_of_ble_eq_true rfl) ⟨Nat.le_refl _, Or.inl rfl⟩ dL_law_1139 ⟨rfl, hA⟩ (fun r2 V2 hp2 => ?_)
    obtain ⟨y2, rfl, -, rfl⟩ := hp2
    change pm_J X 1142 (lw_lv i) [(0, y2)] 118 V1
    refine pm_pop hC rfl dL_law_1142 ?_
    refine pm_goto (tgt := 1566) hC dL_law_1143 (by decide) ?_
    exact nxt _ ⟨⟨hV1, hq1⟩, hp1⟩
  · skip
    refine pm_callV (ci := 12) (as := [(0, a1), (0, a2), (0, a3)]) (st := []) hC 90 (fB_X12_hump a1 a2 a3 b1 b2 b3) lm_L_116 li_X12_hump (by decide) (by decide) rfl rfl rfl (by decide) rfl rfl (Nat.le_of_ble_eq_true rfl) ⟨Nat.le_refl _, Or.inl rfl⟩ dL_law_1139 ⟨rfl, hB.1, hB.2.1, hB.2.2.1⟩ (fun r2 V2 hp2 => ?_)
    obtain ⟨y2, rfl, -, hq, hg, -⟩ := hp2
    change pm_J X 1142 (lw_lv i) [(0, y2)] 118 V2
    have hk2 := hg.lo (by decide)
    have hP2 := (hp1.fs hg (by decide)).lo hk2
    have hQ2 := (hq1.fs hg (by decide) (by decide)).lo hk2
    refine pm_pop hC rfl dL_law_1142 ?_
    refine pm_goto (tgt := 1566) hC dL_law_1143 (by decide) ?_
    exact nxt _ ⟨⟨(hV1.rB hB hq hg (by decide) (by decide) (by decide) (lw_k3 hB hg (by decide) (by decide)) (lw_k4 hB hg (by decide) (by decide))), hQ2⟩, hP2⟩
set_option maxHeartbeats 4000000 in
set_option maxRecDepth 100000 in
theorem lw_c_right (hC : pm_C X RL cL_law 4 60) (hS : pm_Sc X L xs) (hL : L ≤ 3072) (hi : 0 ≤ i ∧ i + 6 ≤ (L : Int)) (hI : lw_J V) (nxt : ∀ V', lw_J V' → pm_J X 1566 (lw_lv i) [] 118 V') : pm_J X 1146 (lw_lv i) [] 118 V := by
  obtain ⟨⟨hV, hQ⟩, hP⟩ := hI
  refine pm_aload_n hC 1 (by decide) dL_law_1146 rfl ?_
  refine lw_ld hC hS hL hi (c := 1) (by decide) dL_law_1147 dL_law_1148 dL_law_1149 dL_law_1150 dL_law_1151 (fun a1 e1 b1 => ?_)
  refine lw_ld hC hS hL hi (c := 2) (by decide) dL_law_1152 dL_law_1153 dL_law_1154 dL_law_1155 dL_law_1156 (fun a2 e2 b2 => ?_)
  refine lw_ld hC hS hL hi (c := 3) (by decide) dL_law_1157 dL_law_1158 dL_law_1159 dL_law_1160 dL_law_1161 (fun a3 e3 b3 => ?_)
  refine pm_callV (ci := 11) (as := [(0, a1), (0, a2), (0, a3)]) (st := []) hC 0 (fD_X11_right_0 a1 a2 a3 b1 b2 b3) lm_L_117 li_X11_right (by decide) (by decide) rfl rfl rfl (by decide) rfl rfl (Nat.le_of_ble_eq_true rfl) ⟨Nat.le_refl _, Or.inl rfl⟩ dL_law_1162 ⟨rfl, hV.1⟩ (fun r1 V1 hp1 => ?_)
  obtain ⟨y1, rfl, -, hok, hf, hF1⟩ := hp1
  change pm_J X 1165 (lw_lv i) [(0, y1)] 118 V1
  refine pm_pop hC rfl dL_law_1165 ?_
  have hk1 := hf.hi (by decide)
  have hQ1 := hQ.hi hk1
  have hP1 := hP.hi hk1
  have hV1 := hV.ff hok hf (by decide) (by decide)
  refine pm_aload_n hC 2 (by decide) dL_law_1166 rfl ?_
  refine lw_ld hC hS hL hi (c := 1) (by decide) dL_law_1167 dL_law_1168 dL_law_1169 dL_law_1170 dL_law_1171 (fun a1x e1x b1x => ?_)
  refine lw_ld hC hS hL hi (c := 2) (by decide) dL_law_1172 dL_law_1173 dL_law_1174 dL_law_1175 dL_law_1176 (fun a2x e2x b2x => ?_)
  refine lw_ld hC hS hL hi (c := 3) (by decide) dL_law_1177 dL_law_1178 dL_law_1179 dL_law_1180 dL_law_1181 (fun a3x e3x b3x => ?_)
  obtain rfl : a1 = a1x := e1.symm.trans e1x
  obtain rfl : a2 = a2x := e2.symm.trans e2x
  obtain rfl : a3 = a3x := e3.symm.trans e3x
  have hq1 := hQ1.ff hf (by decide)
  have hp1 := hP1.ff hf (by decide)
  rcases hV1.2.2.2 with hA | hB
  · have nS := lw_noS hA
    refine pm_callV (ci := 12) (as := [(0, a1), (0, a2), (0, a3)]) (st := []) hC 90 (A_X12_right a1 a2 a3 b1 b2 b3) lm_L_120 li_X12_right (by decide) (by decide) rfl rfl rfl (by decide) rfl rfl (Nat.le_of_ble_eq_true rfl) ⟨Nat.le_refl _, Or.inl rfl⟩ dL_law_1182 ⟨rfl, hA⟩ (fun r2 V2 hp2 => ?_)
    obtain ⟨y2, rfl, -, rfl⟩ := hp2
    change pm_J X 1185 (lw_lv i) [(0, y2)] 118 V1
    refine pm_pop hC rfl dL_law_1185 ?_
    refine pm_goto (tgt := 1566) hC dL_law_1186 (by decide) ?_
    exact nxt _ ⟨⟨hV1, hq1⟩, hp1⟩
  · skip
    refine pm_callV (ci := 12) (as := [(0, a1), (0, a2), (0, a3)]) (st := []) hC 90 (fB_X12_right a1 a2 a3 b1 b2 b3) lm_L_120 li_X12_right (by decide) (by decide) rfl rfl rfl (by decide) rfl rfl (Nat.le_of_ble_eq_true rfl) ⟨Nat.le_refl _, Or.inl rfl⟩ dL_law_1182 ⟨rfl, hB.1, hB.2.1, hB.2.2.1⟩ (fun r2 V2 hp2 => ?_)
    obtain ⟨y2, rfl, -, hq, hg, -⟩ := hp2
    change pm_J X 1185 (lw_lv i) [(0, y2)] 118 V2
    have hk2 := hg.lo (by decide)
    have hP2 := (hp1.fs hg (by decide)).lo hk2
    have hQ2 := (hq1.fs hg (by decide) (by decide)).lo hk2
    refine pm_pop hC rfl dL_law_1185 ?_
    refine pm_goto (tgt := 1566) hC dL_law_1186 (by decide) ?_
    exact nxt _ ⟨⟨(hV1.rB hB hq hg (by decide) (by decide) (by decide) (lw_k3 hB hg (by decide) (by decide)) (lw_k4 hB hg (by decide) (by decide))), hQ2⟩, hP2⟩
set_option maxHeartbeats 4000000 in
set_option maxRecDepth 100000 in
theorem lw_c_worth (hC : pm_C X RL cL_law 4 60) (hS : pm_Sc X L xs) (hL : L ≤ 3072) (hi : 0 ≤ i ∧ i + 6 ≤ (L : Int)) (hI : lw_J V) (nxt : ∀ V', lw_J V' → pm_J X 1566 (lw_lv i) [] 118 V') : pm_J X 1189 (lw_lv i) [] 118 V := by
  obtain ⟨⟨hV, hQ⟩, hP⟩ := hI
  refine pm_aload_n hC 1 (by decide) dL_law_1189 rfl ?_
  refine lw_ld hC hS hL hi (c := 1) (by decide) dL_law_1190 dL_law_1191 dL_law_1192 dL_law_1193 dL_law_1194 (fun a1 e1 b1 => ?_)
  refine lw_ld hC hS hL hi (c := 2) (by decide) dL_law_1195 dL_law_1196 dL_law_1197 dL_law_1198 dL_law_1199 (fun a2 e2 b2 => ?_)
  refine lw_ld hC hS hL hi (c := 3) (by decide) dL_law_1200 dL_law_1201 dL_law_1202 dL_law_1203 dL_law_1204 (fun a3 e3 b3 => ?_)
  refine pm_callV (ci := 11) (as := [(0, a1), (0, a2), (0, a3)]) (st := []) hC 0 (fD_X11_worth_0 a1 a2 a3 b1 b2 b3) lm_L_121 li_X11_worth (by decide) (by decide) rfl rfl rfl (by decide) rfl rfl (Nat.le_of_ble_eq_true rfl) ⟨Nat.le_refl _, Or.inl rfl⟩ dL_law_1205 ⟨rfl, hV.1⟩ (fun r1 V1 hp1 => ?_)
  obtain ⟨y1, rfl, -, hok, hf, hF1⟩ := hp1
  change pm_J X 1208 (lw_lv i) [(0, y1)] 118 V1
  refine pm_pop hC rfl dL_law_1208 ?_
  have hk1 := hf.hi (by decide)
  have hQ1 := hQ.hi hk1
  have hP1 := hP.hi hk1
  have hV1 := hV.ff hok hf (by decide) (by decide)
  refine pm_aload_n hC 2 (by decide) dL_law_1209 rfl ?_
  refine lw_ld hC hS hL hi (c := 1) (by decide) dL_law_1210 dL_law_1211 dL_law_1212 dL_law_1213 dL_law_1214 (fun a1x e1x b1x => ?_)
  refine lw_ld hC hS hL hi (c := 2) (by decide) dL_law_1215 dL_law_1216 dL_law_1217 dL_law_1218 dL_law_1219 (fun a2x e2x b2x => ?_)
  refine lw_ld hC hS hL hi (c := 3) (by decide) dL_law_1220 dL_law_1221 dL_law_1222 dL_law_1223 dL_law_1224 (fun a3x e3x b3x => ?_)
  obtain rfl : a1 = a1x := e1.symm.trans e1x
  obtain rfl : a2 = a2x := e2.symm.trans e2x
  obtain rfl : a3 = a3x := e3.symm.trans e3x
  have hq1 := hQ1.ff hf (by decide)
  have hp1 := hP1.ff hf (by decide)
  rcases hV1.2.2.2 with hA | hB
  · have nS := lw_noS hA
    refine pm_callV (ci := 12) (as := [(0, a1), (0, a2), (0, a3)]) (st := []) hC 90 (A_X12_worth a1 a2 a3 b1 b2 b3) lm_L_124 li_X12_worth (by decide) (by decide) rfl rfl rfl (by decide) rfl rfl (Nat.le_of_ble_eq_true rfl) ⟨Nat.le_refl _, Or.inl rfl⟩ dL_law_1225 ⟨rfl, hA⟩ (fun r2 V2 hp2 => ?_)
    obtain ⟨y2, rfl, -, rfl⟩ := hp2
    change pm_J X 1228 (lw_lv i) [(0, y2)] 118 V1
    refine pm_pop hC rfl dL_law_1228 ?_
    refine pm_goto (tgt := 1566) hC dL_law_1229 (by decide) ?_
    exact nxt _ ⟨⟨hV1, hq1⟩, hp1⟩
  · skip
    refine pm_callV (ci := 12) (as := [(0, a1), (0, a2), (0, a3)]) (st := []) hC 90 (fB_X12_worth a1 a2 a3 b1 b2 b3) lm_L_124 li_X12_worth (by decide) (by decide) rfl rfl rfl (by decide) rfl rfl (Nat.le_of_ble_eq_true rfl) ⟨Nat.le_refl _, Or.inl rfl⟩ dL_law_1225 ⟨rfl, hB.1, hB.2.1, hB.2.2.1⟩ (fun r2 V2 hp2 => ?_)
    obtain ⟨y2, rfl, -, hq, hg, -⟩ := hp2
    change pm_J X 1228 (lw_lv i) [(0, y2)] 118 V2
    have hk2 := hg.lo (by decide)
    have hP2 := (hp1.fs hg (by decide)).lo hk2
    have hQ2 := (hq1.fs hg (by decide) (by decide)).lo hk2
    refine pm_pop hC rfl dL_law_1228 ?_
    refine pm_goto (tgt := 1566) hC dL_law_1229 (by decide) ?_
    exact nxt _ ⟨⟨(hV1.rB hB hq hg (by decide) (by decide) (by decide) (lw_k3 hB hg (by decide) (by decide)) (lw_k4 hB hg (by decide) (by decide))), hQ2⟩, hP2⟩
set_option maxHeartbeats 4000000 in
set_option maxRecDepth 100000 in
theorem lw_c_parted (hC : pm_C X RL cL_law 4 60) (hS : pm_Sc X L xs) (hL : L ≤ 3072) (hi : 0 ≤ i ∧ i + 6 ≤ (L : Int)) (hI : lw_J V) (nxt : ∀ V', lw_J V' → pm_J X 1566 (lw_lv i) [] 118 V') : pm_J X 1232 (lw_lv i) [] 118 V := by
  obtain ⟨⟨hV, hQ⟩, hP⟩ := hI
  refine pm_aload_n hC 1 (by decide) dL_law_1232 rfl ?_
  refine lw_ld hC hS hL hi (c := 1) (by decide) dL_law_1233 dL_law_1234 dL_law_1235 dL_law_1236 dL_law_1237 (fun a1 e1 b1 => ?_)
  refine lw_ld hC hS hL hi (c := 2) (by decide) dL_law_1238 dL_law_1239 dL_law_1240 dL_law_1241 dL_law_1242 (fun a2 e2 b2 => ?_)
  refine lw_ld hC hS hL hi (c := 3) (by decide) dL_law_1243 dL_law_1244 dL_law_1245 dL_law_1246 dL_law_1247 (fun a3 e3 b3 => ?_)
  refine lw_ld hC hS hL hi (c := 4) (by decide) dL_law_1248 dL_law_1249 dL_law_1250 dL_law_1251 dL_law_1252 (fun a4 e4 b4 => ?_)
  refine pm_callV (ci := 11) (as := [(0, a1), (0, a2), (0, a3), (0, a4)]) (st := []) hC 0 (fD_X11_parted_0 a1 a2 a3 a4 b1 b2 b3 b4) lm_L_125 li_X11_parted (by decide) (by decide) rfl rfl rfl (by decide) rfl rfl (Nat.le_of_ble_eq_true rfl) ⟨Nat.le_refl _, Or.inl rfl⟩ dL_law_1253 ⟨rfl, hV.1⟩ (fun r1 V1 hp1 => ?_)
  obtain ⟨y1, rfl, -, hok, hf, hF1⟩ := hp1
  change pm_J X 1256 (lw_lv i) [(0, y1)] 118 V1
  refine pm_pop hC rfl dL_law_1256 ?_
  have hk1 := hf.hi (by decide)
  have hQ1 := hQ.hi hk1
  have hP1 := hP.hi hk1
  have hV1 := hV.ff hok hf (by decide) (by decide)
  refine pm_aload_n hC 2 (by decide) dL_law_1257 rfl ?_
  refine lw_ld hC hS hL hi (c := 1) (by decide) dL_law_1258 dL_law_1259 dL_law_1260 dL_law_1261 dL_law_1262 (fun a1x e1x b1x => ?_)
  refine lw_ld hC hS hL hi (c := 2) (by decide) dL_law_1263 dL_law_1264 dL_law_1265 dL_law_1266 dL_law_1267 (fun a2x e2x b2x => ?_)
  refine lw_ld hC hS hL hi (c := 3) (by decide) dL_law_1268 dL_law_1269 dL_law_1270 dL_law_1271 dL_law_1272 (fun a3x e3x b3x => ?_)
  refine lw_ld hC hS hL hi (c := 4) (by decide) dL_law_1273 dL_law_1274 dL_law_1275 dL_law_1276 dL_law_1277 (fun a4x e4x b4x => ?_)
  obtain rfl : a1 = a1x := e1.symm.trans e1x
  obtain rfl : a2 = a2x := e2.symm.trans e2x
  obtain rfl : a3 = a3x := e3.symm.trans e3x
  obtain rfl : a4 = a4x := e4.symm.trans e4x
  have hq1 := hQ1.ff hf (by decide)
  have hp1 := hP1.ff hf (by decide)
  rcases hV1.2.2.2 with hA | hB
  · have nS := lw_noS hA
    refine pm_callV (ci := 12) (as := [(0, a1), (0, a2), (0, a3), (0, a4)]) (st := []) hC 90 (A_X12_parted a1 a2 a3 a4 b1 b2 b3 b4) lm_L_128 li_X12_parted (by decide) (by decide) rfl rfl rfl (by decide) rfl rfl (Nat.le_of_ble_eq_true rfl) ⟨Nat.le_refl _, Or.inl rfl⟩ dL_law_1278 ⟨rfl, hA⟩ (fun r2 V2 hp2 => ?_)
    obtain ⟨y2, rfl, -, rfl⟩ := hp2
    change pm_J X 1281 (lw_lv i) [(0, y2)] 118 V1
    refine pm_pop hC rfl dL_law_1281 ?_
    refine pm_goto (tgt := 1566) hC dL_law_1282 (by decide) ?_
    exact nxt _ ⟨⟨hV1, hq1⟩, hp1⟩
  · skip
    refine pm_callV (ci := 12) (as := [(0, a1), (0, a2), (0, a3), (0, a4)]) (st := []) hC 90 (fB_X12_parted a1 a2 a3 a4 b1 b2 b3 b4) lm_L_128 li_X12_parted (by decide) (by decide) rfl rfl rfl (by decide) rfl rfl (Nat.le_of_ble_eq_true rfl) ⟨Nat.le_refl _, Or.inl rfl⟩ dL_law_1278 ⟨rfl, hB.1, hB.2.1, hB.2.2.1⟩ (fun r2 V2 hp2 => ?_)
    obtain ⟨y2, rfl, -, hq, hg, -⟩ := hp2
    change pm_J X 1281 (lw_lv i) [(0, y2)] 118 V2
    have hk2 := hg.lo (by decide)
    have hP2 := (hp1.fs hg (by decide)).lo hk2
    have hQ2 := (hq1.fs hg (by decide) (by decide)).lo hk2
    refine pm_pop hC rfl dL_law_1281 ?_
    refine pm_goto (tgt := 1566) hC dL_law_1282 (by decide) ?_
    exact nxt _ ⟨⟨(hV1.rB hB hq hg (by decide) (by decide) (by decide) (lw_k3 hB hg (by decide) (by decide)) (lw_k4 hB hg (by decide) (by decide))), hQ2⟩, hP2⟩
set_option maxHeartbeats 4000000 in
set_option maxRecDepth 100000 in
theorem lw_c_next (hC : pm_C X RL cL_law 4 60) (hS : pm_Sc X L xs) (hL : L ≤ 3072) (hi : 0 ≤ i ∧ i + 6 ≤ (L : Int)) (hI : lw_J V) (nxt : ∀ V', lw_J V' → pm_J X 1566 (lw_lv i) [] 118 V') : pm_J X 1285 (lw_lv i) [] 118 V := by
  obtain ⟨⟨hV, hQ⟩, hP⟩ := hI
  refine pm_aload_n hC 1 (by decide) dL_law_1285 rfl ?_
  refine lw_ld hC hS hL hi (c := 1) (by decide) dL_law_1286 dL_law_1287 dL_law_1288 dL_law_1289 dL_law_1290 (fun a1 e1 b1 => ?_)
  refine lw_ld hC hS hL hi (c := 2) (by decide) dL_law_1291 dL_law_1292 dL_law_1293 dL_law_1294 dL_law_1295 (fun a2 e2 b2 => ?_)
  refine lw_ld hC hS hL hi (c := 3) (by decide) dL_law_1296 dL_law_1297 dL_law_1298 dL_law_1299 dL_law_1300 (fun a3 e3 b3 => ?_)
  refine lw_ld hC hS hL hi (c := 4) (by decide) dL_law_1301 dL_law_1302 dL_law_1303 dL_law_1304 dL_law_1305 (fun a4 e4 b4 => ?_)
  refine pm_callV (ci := 11) (as := [(0, a1), (0, a2), (0, a3), (0, a4)]) (st := []) hC 0 (fD_X11_next_0 a1 a2 a3 a4 b1 b2 b3 b4) lm_L_129 li_X11_next (by decide) (by decide) rfl rfl rfl (by decide) rfl rfl (Nat.le_of_ble_eq_true rfl) ⟨Nat.le_refl _, Or.inl rfl⟩ dL_law_1306 ⟨rfl, hV.1⟩ (fun r1 V1 hp1 => ?_)
  obtain ⟨y1, rfl, -, hok, hf, hF1⟩ := hp1
  change pm_J X 1309 (lw_lv i) [(0, y1)] 118 V1
  refine pm_pop hC rfl dL_law_1309 ?_
  have hk1 := hf.hi (by decide)
  have hQ1 := hQ.hi hk1
  have hP1 := hP.hi hk1
  have hV1 := hV.ff hok hf (by decide) (by decide)
  refine pm_aload_n hC 2 (by decide) dL_law_1310 rfl ?_
  refine lw_ld hC hS hL hi (c := 1) (by decide) dL_law_1311 dL_law_1312 dL_law_1313 dL_law_1314 dL_law_1315 (fun a1x e1x b1x => ?_)
  refine lw_ld hC hS hL hi (c := 2) (by decide) dL_law_1316 dL_law_1317 dL_law_1318 dL_law_1319 dL_law_1320 (fun a2x e2x b2x => ?_)
  refine lw_ld hC hS hL hi (c := 3) (by decide) dL_law_1321 dL_law_1322 dL_law_1323 dL_law_1324 dL_law_1325 (fun a3x e3x b3x => ?_)
  refine lw_ld hC hS hL hi (c := 4) (by decide) dL_law_1326 dL_law_1327 dL_law_1328 dL_law_1329 dL_law_1330 (fun a4x e4x b4x => ?_)
  obtain rfl : a1 = a1x := e1.symm.trans e1x
  obtain rfl : a2 = a2x := e2.symm.trans e2x
  obtain rfl : a3 = a3x := e3.symm.trans e3x
  obtain rfl : a4 = a4x := e4.symm.trans e4x
  have hq1 := hQ1.ff hf (by decide)
  have hp1 := hP1.ff hf (by decide)
  rcases hV1.2.2.2 with hA | hB
  · have nS := lw_noS hA
    refine pm_callV (ci := 12) (as := [(0, a1), (0, a2), (0, a3), (0, a4)]) (st := []) hC 90 (A_X12_next a1 a2 a3 a4 b1 b2 b3 b4) lm_L_132 li_X12_next (by decide) (by decide) rfl rfl rfl (by decide) rfl rfl (Nat.le_of_ble_eq_true rfl) ⟨Nat.le_refl _, Or.inl rfl⟩ dL_law_1331 ⟨rfl, hA⟩ (fun r2 V2 hp2 => ?_)
    obtain ⟨y2, rfl, -, rfl⟩ := hp2
    change pm_J X 1334 (lw_lv i) [(0, y2)] 118 V1
    refine pm_pop hC rfl dL_law_1334 ?_
    refine pm_goto (tgt := 1566) hC dL_law_1335 (by decide) ?_
    exact nxt _ ⟨⟨hV1, hq1⟩, hp1⟩
  · skip
    refine pm_callV (ci := 12) (as := [(0, a1), (0, a2), (0, a3), (0, a4)]) (st := []) hC 90 (fB_X12_next a1 a2 a3 a4 b1 b2 b3 b4) lm_L_132 li_X12_next (by decide) (by decide) rfl rfl rfl (by decide) rfl rfl (Nat.le_of_ble_eq_true rfl) ⟨Nat.le_refl _, Or.inl rfl⟩ dL_law_1331 ⟨rfl, hB.1, hB.2.1, hB.2.2.1⟩ (fun r2 V2 hp2 => ?_)
    obtain ⟨y2, rfl, -, hq, hg, -⟩ := hp2
    change pm_J X 1334 (lw_lv i) [(0, y2)] 118 V2
    have hk2 := hg.lo (by decide)
    have hP2 := (hp1.fs hg (by decide)).lo hk2
    have hQ2 := (hq1.fs hg (by decide) (by decide)).lo hk2
    refine pm_pop hC rfl dL_law_1334 ?_
    refine pm_goto (tgt := 1566) hC dL_law_1335 (by decide) ?_
    exact nxt _ ⟨⟨(hV1.rB hB hq hg (by decide) (by decide) (by decide) (lw_k3 hB hg (by decide) (by decide)) (lw_k4 hB hg (by decide) (by decide))), hQ2⟩, hP2⟩
set_option maxHeartbeats 4000000 in
set_option maxRecDepth 100000 in
theorem lw_c_knowing (hC : pm_C X RL cL_law 4 60) (hS : pm_Sc X L xs) (hL : L ≤ 3072) (hi : 0 ≤ i ∧ i + 6 ≤ (L : Int)) (hI : lw_J V) (nxt : ∀ V', lw_J V' → pm_J X 1566 (lw_lv i) [] 118 V') : pm_J X 1338 (lw_lv i) [] 118 V := by
  obtain ⟨⟨hV, hQ⟩, hP⟩ := hI
  refine pm_aload_n hC 1 (by decide) dL_law_1338 rfl ?_
  refine lw_ld hC hS hL hi (c := 1) (by decide) dL_law_1339 dL_law_1340 dL_law_1341 dL_law_1342 dL_law_1343 (fun a1 e1 b1 => ?_)
  refine lw_ld hC hS hL hi (c := 2) (by decide) dL_law_1344 dL_law_1345 dL_law_1346 dL_law_1347 dL_law_1348 (fun a2 e2 b2 => ?_)
  refine lw_ld hC hS hL hi (c := 3) (by decide) dL_law_1349 dL_law_1350 dL_law_1351 dL_law_1352 dL_law_1353 (fun a3 e3 b3 => ?_)
  refine lw_ld hC hS hL hi (c := 4) (by decide) dL_law_1354 dL_law_1355 dL_law_1356 dL_law_1357 dL_law_1358 (fun a4 e4 b4 => ?_)
  refine pm_callV (ci := 11) (as := [(0, a1), (0, a2), (0, a3), (0, a4)]) (st := []) hC 0 (fD_X11_knowing_0 a1 a2 a3 a4 b1 b2 b3 b4) lm_L_133 li_X11_knowing (by decide) (by decide) rfl rfl rfl (by decide) rfl rfl (Nat.le_of_ble_eq_true rfl) ⟨Nat.le_refl _, Or.inl rfl⟩ dL_law_1359 ⟨rfl, hV.1⟩ (fun r1 V1 hp1 => ?_)
  obtain ⟨y1, rfl, -, hok, hf, hF1⟩ := hp1
  change pm_J X 1362 (lw_lv i) [(0, y1)] 118 V1
  refine pm_pop hC rfl dL_law_1362 ?_
  have hk1 := hf.hi (by decide)
  have hQ1 := hQ.hi hk1
  have hP1 := hP.hi hk1
  have hV1 := hV.ff hok hf (by decide) (by decide)
  refine pm_aload_n hC 2 (by decide) dL_law_1363 rfl ?_
  refine lw_ld hC hS hL hi (c := 1) (by decide) dL_law_1364 dL_law_1365 dL_law_1366 dL_law_1367 dL_law_1368 (fun a1x e1x b1x => ?_)
  refine lw_ld hC hS hL hi (c := 2) (by decide) dL_law_1369 dL_law_1370 dL_law_1371 dL_law_1372 dL_law_1373 (fun a2x e2x b2x => ?_)
  refine lw_ld hC hS hL hi (c := 3) (by decide) dL_law_1374 dL_law_1375 dL_law_1376 dL_law_1377 dL_law_1378 (fun a3x e3x b3x => ?_)
  refine lw_ld hC hS hL hi (c := 4) (by decide) dL_law_1379 dL_law_1380 dL_law_1381 dL_law_1382 dL_law_1383 (fun a4x e4x b4x => ?_)
  obtain rfl : a1 = a1x := e1.symm.trans e1x
  obtain rfl : a2 = a2x := e2.symm.trans e2x
  obtain rfl : a3 = a3x := e3.symm.trans e3x
  obtain rfl : a4 = a4x := e4.symm.trans e4x
  have hq1 := hQ1.ff hf (by decide)
  have hp1 := hP1.ff hf (by decide)
  rcases hV1.2.2.2 with hA | hB
  · have nS := lw_noS hA
    refine pm_callV (ci := 12) (as := [(0, a1), (0, a2), (0, a3), (0, a4)]) (st := []) hC 90 (A_X12_knowing a1 a2 a3 a4 b1 b2 b3 b4) lm_L_136 li_X12_knowing (by decide) (by decide) rfl rfl rfl (by decide) rfl rfl (Nat.le_of_ble_eq_true rfl) ⟨Nat.le_refl _, Or.inl rfl⟩ dL_law_1384 ⟨rfl, hA⟩ (fun r2 V2 hp2 => ?_)
    obtain ⟨y2, rfl, -, rfl⟩ := hp2
    change pm_J X 1387 (lw_lv i) [(0, y2)] 118 V1
    refine pm_pop hC rfl dL_law_1387 ?_
    refine pm_goto (tgt := 1566) hC dL_law_1388 (by decide) ?_
    exact nxt _ ⟨⟨hV1, hq1⟩, hp1⟩
  · skip
    refine pm_callV (ci := 12) (as := [(0, a1), (0, a2), (0, a3), (0, a4)]) (st := []) hC 90 (fB_X12_knowing a1 a2 a3 a4 b1 b2 b3 b4) lm_L_136 li_X12_knowing (by decide) (by decide) rfl rfl rfl (by decide) rfl rfl (Nat.le_of_ble_eq_true rfl) ⟨Nat.le_refl _, Or.inl rfl⟩ dL_law_1384 ⟨rfl, hB.1, hB.2.1, hB.2.2.1⟩ (fun r2 V2 hp2 => ?_)
    obtain ⟨y2, rfl, -, hq, hg, -⟩ := hp2
    change pm_J X 1387 (lw_lv i) [(0, y2)] 118 V2
    have hk2 := hg.lo (by decide)
    have hP2 := (hp1.fs hg (by decide)).lo hk2
    have hQ2 := (hq1.fs hg (by decide) (by decide)).lo hk2
    refine pm_pop hC rfl dL_law_1387 ?_
    refine pm_goto (tgt := 1566) hC dL_law_1388 (by decide) ?_
    exact nxt _ ⟨⟨(hV1.rB hB hq hg (by decide) (by decide) (by decide) (lw_k3 hB hg (by decide) (by decide)) (lw_k4 hB hg (by decide) (by decide))), hQ2⟩, hP2⟩
set_option maxHeartbeats 4000000 in
set_option maxRecDepth 100000 in
theorem lw_c_called (hC : pm_C X RL cL_law 4 60) (hS : pm_Sc X L xs) (hL : L ≤ 3072) (hi : 0 ≤ i ∧ i + 6 ≤ (L : Int)) (hI : lw_J V) (nxt : ∀ V', lw_J V' → pm_J X 1566 (lw_lv i) [] 118 V') : pm_J X 1391 (lw_lv i) [] 118 V := by
  obtain ⟨⟨hV, hQ⟩, hP⟩ := hI
  refine pm_aload_n hC 1 (by decide) dL_law_1391 rfl ?_
  refine lw_ld hC hS hL hi (c := 1) (by decide) dL_law_1392 dL_law_1393 dL_law_1394 dL_law_1395 dL_law_1396 (fun a1 e1 b1 => ?_)
  refine lw_ld hC hS hL hi (c := 2) (by decide) dL_law_1397 dL_law_1398 dL_law_1399 dL_law_1400 dL_law_1401 (fun a2 e2 b2 => ?_)
  refine lw_ld hC hS hL hi (c := 3) (by decide) dL_law_1402 dL_law_1403 dL_law_1404 dL_law_1405 dL_law_1406 (fun a3 e3 b3 => ?_)
  refine lw_ld hC hS hL hi (c := 4) (by decide) dL_law_1407 dL_law_1408 dL_law_1409 dL_law_1410 dL_law_1411 (fun a4 e4 b4 => ?_)
  refine pm_callV (ci := 11) (as := [(0, a1), (0, a2), (0, a3), (0, a4)]) (st := []) hC 0 (fD_X11_called_0 a1 a2 a3 a4 b1 b2 b3 b4) lm_L_137 li_X11_called (by decide) (by decide) rfl rfl rfl (by decide) rfl rfl (Nat.le_of_ble_eq_true rfl) ⟨Nat.le_refl _, Or.inl rfl⟩ dL_law_1412 ⟨rfl, hV.1⟩ (fun r1 V1 hp1 => ?_)
  obtain ⟨y1, rfl, -, hok, hf, hF1⟩ := hp1
  change pm_J X 1415 (lw_lv i) [(0, y1)] 118 V1
  refine pm_pop hC rfl dL_law_1415 ?_
  have hk1 := hf.hi (by decide)
  have hQ1 := hQ.hi hk1
  have hP1 := hP.hi hk1
  have hV1 := hV.ff hok hf (by decide) (by decide)
  refine pm_aload_n hC 2 (by decide) dL_law_1416 rfl ?_
  refine lw_ld hC hS hL hi (c := 1) (by decide) dL_law_1417 dL_law_1418 dL_law_1419 dL_law_1420 dL_law_1421 (fun a1x e1x b1x => ?_)
  refine lw_ld hC hS hL hi (c := 2) (by decide) dL_law_1422 dL_law_1423 dL_law_1424 dL_law_1425 dL_law_1426 (fun a2x e2x b2x => ?_)
  refine lw_ld hC hS hL hi (c := 3) (by decide) dL_law_1427 dL_law_1428 dL_law_1429 dL_law_1430 dL_law_1431 (fun a3x e3x b3x => ?_)
  refine lw_ld hC hS hL hi (c := 4) (by decide) dL_law_1432 dL_law_1433 dL_law_1434 dL_law_1435 dL_law_1436 (fun a4x e4x b4x => ?_)
  obtain rfl : a1 = a1x := e1.symm.trans e1x
  obtain rfl : a2 = a2x := e2.symm.trans e2x
  obtain rfl : a3 = a3x := e3.symm.trans e3x
  obtain rfl : a4 = a4x := e4.symm.trans e4x
  have hq1 := hQ1.ff hf (by decide)
  have hp1 := hP1.ff hf (by decide)
  rcases hV1.2.2.2 with hA | hB
  · have nS := lw_noS hA
    refine pm_callV (ci := 12) (as := [(0, a1), (0, a2), (0, a3), (0, a4)]) (st := []) hC 90 (A_X12_called a1 a2 a3 a4 b1 b2 b3 b4) lm_L_140 li_X12_called (by decide) (by decide) rfl rfl rfl (by decide) rfl rfl (Nat.le_of_ble_eq_true rfl) ⟨Nat.le_refl _, Or.inl rfl⟩ dL_law_1437 ⟨rfl, hA⟩ (fun r2 V2 hp2 => ?_)
    obtain ⟨y2, rfl, -, rfl⟩ := hp2
    change pm_J X 1440 (lw_lv i) [(0, y2)] 118 V1
    refine pm_pop hC rfl dL_law_1440 ?_
    refine pm_goto (tgt := 1566) hC dL_law_1441 (by decide) ?_
    exact nxt _ ⟨⟨hV1, hq1⟩, hp1⟩
  · skip
    refine pm_callV (ci := 12) (as := [(0, a1), (0, a2), (0, a3), (0, a4)]) (st := []) hC 90 (fB_X12_called a1 a2 a3 a4 b1 b2 b3 b4) lm_L_140 li_X12_called (by decide) (by decide) rfl rfl rfl (by decide) rfl rfl (Nat.le_of_ble_eq_true rfl) ⟨Nat.le_refl _, Or.inl rfl⟩ dL_law_1437 ⟨rfl, hB.1, hB.2.1, hB.2.2.1, hV1.2.2.1⟩ (fun r2 V2 hp2 => ?_)
    obtain ⟨y2, rfl, -, hq, hg, -⟩ := hp2
    change pm_J X 1440 (lw_lv i) [(0, y2)] 118 V2
    have hk2 := hg.lo (by decide)
    have hP2 := (hp1.fs hg (by decide)).lo hk2
    have hQ2 := (hq1.fs hg (by decide) (by decide)).lo hk2
    refine pm_pop hC rfl dL_law_1440 ?_
    refine pm_goto (tgt := 1566) hC dL_law_1441 (by decide) ?_
    exact nxt _ ⟨⟨(hV1.rB hB hq hg (by decide) (by decide) (by decide) (lw_k3 hB hg (by decide) (by decide)) (lw_k4 hB hg (by decide) (by decide))), hQ2⟩, hP2⟩
set_option maxHeartbeats 4000000 in
set_option maxRecDepth 100000 in
theorem lw_c_draw (hC : pm_C X RL cL_law 4 60) (hS : pm_Sc X L xs) (hL : L ≤ 3072) (hi : 0 ≤ i ∧ i + 6 ≤ (L : Int)) (hI : lw_J V) (nxt : ∀ V', lw_J V' → pm_J X 1566 (lw_lv i) [] 118 V') : pm_J X 1444 (lw_lv i) [] 118 V := by
  obtain ⟨⟨hV, hQ⟩, hP⟩ := hI
  refine pm_aload_n hC 1 (by decide) dL_law_1444 rfl ?_
  refine lw_ld hC hS hL hi (c := 1) (by decide) dL_law_1445 dL_law_1446 dL_law_1447 dL_law_1448 dL_law_1449 (fun a1 e1 b1 => ?_)
  refine lw_ld hC hS hL hi (c := 2) (by decide) dL_law_1450 dL_law_1451 dL_law_1452 dL_law_1453 dL_law_1454 (fun a2 e2 b2 => ?_)
  refine lw_ld hC hS hL hi (c := 3) (by decide) dL_law_1455 dL_law_1456 dL_law_1457 dL_law_1458 dL_law_1459 (fun a3 e3 b3 => ?_)
  refine lw_ld hC hS hL hi (c := 4) (by decide) dL_law_1460 dL_law_1461 dL_law_1462 dL_law_1463 dL_law_1464 (fun a4 e4 b4 => ?_)
  refine pm_callV (ci := 11) (as := [(0, a1), (0, a2), (0, a3), (0, a4)]) (st := []) hC 0 (fD_X11_draw_0 a1 a2 a3 a4 b1 b2 b3 b4) lm_L_141 li_X11_draw (by decide) (by decide) rfl rfl rfl (by decide) rfl rfl (Nat.le_of_ble_eq_true rfl) ⟨Nat.le_refl _, Or.inl rfl⟩ dL_law_1465 ⟨rfl, hV.1⟩ (fun r1 V1 hp1 => ?_)
  obtain ⟨y1, rfl, -, hok, hf, hx1, hF1⟩ := hp1
  change pm_J X 1468 (lw_lv i) [(0, y1)] 118 V1
  refine pm_pop hC rfl dL_law_1468 ?_
  have hk1 := hf.hi (by decide)
  have hQ1 := hQ.hi hk1
  have hP1 := hP.hi hk1
  have hV1 := hV.ff hok hf (by decide) (by decide)
  refine pm_aload_n hC 2 (by decide) dL_law_1469 rfl ?_
  refine lw_ld hC hS hL hi (c := 1) (by decide) dL_law_1470 dL_law_1471 dL_law_1472 dL_law_1473 dL_law_1474 (fun a1x e1x b1x => ?_)
  refine lw_ld hC hS hL hi (c := 2) (by decide) dL_law_1475 dL_law_1476 dL_law_1477 dL_law_1478 dL_law_1479 (fun a2x e2x b2x => ?_)
  refine lw_ld hC hS hL hi (c := 3) (by decide) dL_law_1480 dL_law_1481 dL_law_1482 dL_law_1483 dL_law_1484 (fun a3x e3x b3x => ?_)
  refine lw_ld hC hS hL hi (c := 4) (by decide) dL_law_1485 dL_law_1486 dL_law_1487 dL_law_1488 dL_law_1489 (fun a4x e4x b4x => ?_)
  obtain rfl : a1 = a1x := e1.symm.trans e1x
  obtain rfl : a2 = a2x := e2.symm.trans e2x
  obtain rfl : a3 = a3x := e3.symm.trans e3x
  obtain rfl : a4 = a4x := e4.symm.trans e4x
  rcases hV1.2.2.2 with hA | hB
  · have nS := lw_noS hA
    have g2 : y1 = -1 := (dr_C a1 a2 a3 a4 hF1 (hok.get 4 6 (lo := 0) (hi := 60) (t := 0) (by decide) (by decide) rfl).1).mpr (fun q => by have h5 := hQ1.2.2.2.2.1; have h6 := nS.2.1; omega)
    rcases hx1 with ⟨-, g3⟩ | ⟨g3, -, -⟩
    rotate_left
    · exfalso; omega
    obtain rfl : V = V1 := g3.symm
    refine pm_callV (ci := 12) (as := [(0, a1), (0, a2), (0, a3), (0, a4)]) (st := []) hC 90 (A_X12_draw a1 a2 a3 a4 b1 b2 b3 b4) lm_L_144 li_X12_draw (by decide) (by decide) rfl rfl rfl (by decide) rfl rfl (Nat.le_of_ble_eq_true rfl) ⟨Nat.le_refl _, Or.inl rfl⟩ dL_law_1490 ⟨rfl, hA⟩ (fun r2 V2 hp2 => ?_)
    obtain ⟨y2, rfl, -, rfl⟩ := hp2
    change pm_J X 1493 (lw_lv i) [(0, y2)] 118 V
    refine pm_pop hC rfl dL_law_1493 ?_
    refine pm_goto (tgt := 1566) hC dL_law_1494 (by decide) ?_
    exact nxt _ ⟨⟨hV, hQ⟩, hP⟩
  · skip
    refine pm_callV (ci := 12) (as := [(0, a1), (0, a2), (0, a3), (0, a4)]) (st := []) hC 90 (fB_X12_draw a1 a2 a3 a4 b1 b2 b3 b4) lm_L_144 li_X12_draw (by decide) (by decide) rfl rfl rfl (by decide) rfl rfl (Nat.le_of_ble_eq_true rfl) ⟨Nat.le_refl _, Or.inl rfl⟩ dL_law_1490 ⟨rfl, hB.1, hB.2.1, hB.2.2.1, hB.2.2.2.1⟩ (fun r2 V2 hp2 => ?_)
    obtain ⟨y2, rfl, -, hq, hg, h3, hx3, hF2⟩ := hp2
    change pm_J X 1493 (lw_lv i) [(0, y2)] 118 V2
    have hk2 := hg.lo (by decide)
    have hP2 := ((hP1.ff hf (by decide)).fs hg (by decide)).lo hk2
    have d1 := dr_C a1 a2 a3 a4 hF1 (hok.get 4 6 (lo := 0) (hi := 60) (t := 0) (by decide) (by decide) rfl).1
    have d2 := dr_R a1 a2 a3 a4 hF2 (hq.get 90 25 (lo := 0) (hi := 60) (t := 0) (by decide) (by decide) rfl).1
    have hn := hQ1.2.2.2.2.2.1
    have hp := hQ1.2.2.2.2.1
    rw [hn, hp] at d1
    have d3 : y1 = -1 ↔ y2 = -1 := d1.trans d2.symm
    have key : y1 = y2 ∧ rq V2 V2 := by
      rcases hx1 with ⟨x1, x2⟩ | ⟨x1, x2, x3⟩
      · rcases hx3 with ⟨z1, z2⟩ | ⟨z1, z2, z3⟩
        · subst x2
          subst z2
          exact ⟨x1.trans z1.symm, hQ⟩
        · have z4 := d3.mp x1
          exfalso; omega
      · rcases hx3 with ⟨z1, z2⟩ | ⟨z1, z2, z3⟩
        · have z4 := d3.mpr z1
          exfalso; omega
        · refine ⟨by omega, (hQ1.cnt (fun k i q c => hf k i (by simp only [List.mem_cons, List.not_mem_nil, or_false]; unfold sq_nd at q; omega) (by simp only [List.mem_cons, List.not_mem_nil, or_false, Prod.mk.injEq]; unfold sq_nd at q; omega)) ?_ ?_ (fun i q => hg.2 i (lw_nf_at (l := [16, 19, 20, 21, 35]) (by decide) i q)) (fun k q => hg.1 k (lw_nf_at (l := [97, 98, 99, 102, 103, 105]) (by decide) k q) (by rintro rfl; exact absurd q (by decide)))).lo hk2⟩
          · rw [hf 4 1 (by decide) (by decide), hg.2 23 (by decide)]
            exact hp
          · omega
    refine pm_pop hC rfl dL_law_1493 ?_
    refine pm_goto (tgt := 1566) hC dL_law_1494 (by decide) ?_
    exact nxt _ ⟨⟨(hV1.rB hB hq hg (by decide) (by decide) (by decide) h3 (lw_k4 hB hg (by decide) (by decide))), key.2⟩, hP2⟩
set_option maxHeartbeats 4000000 in
set_option maxRecDepth 100000 in
theorem lw_c_image (hC : pm_C X RL cL_law 4 60) (hS : pm_Sc X L xs) (hL : L ≤ 3072) (hi : 0 ≤ i ∧ i + 6 ≤ (L : Int)) (hI : lw_J V) (nxt : ∀ V', lw_J V' → pm_J X 1566 (lw_lv i) [] 118 V') : pm_J X 1497 (lw_lv i) [] 118 V := by
  obtain ⟨⟨hV, hQ⟩, hP⟩ := hI
  refine pm_aload_n hC 1 (by decide) dL_law_1497 rfl ?_
  refine lw_ld hC hS hL hi (c := 1) (by decide) dL_law_1498 dL_law_1499 dL_law_1500 dL_law_1501 dL_law_1502 (fun a1 e1 b1 => ?_)
  refine pm_callV (ci := 11) (as := [(0, a1)]) (st := []) hC 0 (fD_X11_image_0 a1 b1) lm_L_145 li_X11_image (by decide) (by decide) rfl rfl rfl (by decide) rfl rfl (Nat.le_of_ble_eq_true rfl) ⟨Nat.le_refl _, Or.inl rfl⟩ dL_law_1503 ⟨rfl, hV.1⟩ (fun r1 V1 hp1 => ?_)
  obtain ⟨y1, rfl, -, hok, hf, hF1⟩ := hp1
  change pm_J X 1506 (lw_lv i) [(0, y1)] 118 V1
  refine pm_pop hC rfl dL_law_1506 ?_
  have hk1 := hf.hi (by decide)
  have hQ1 := hQ.hi hk1
  have hP1 := hP.hi hk1
  have hV1 := hV.ff hok hf (by decide) (by decide)
  refine pm_aload_n hC 2 (by decide) dL_law_1507 rfl ?_
  refine lw_ld hC hS hL hi (c := 1) (by decide) dL_law_1508 dL_law_1509 dL_law_1510 dL_law_1511 dL_law_1512 (fun a1x e1x b1x => ?_)
  obtain rfl : a1 = a1x := e1.symm.trans e1x
  rcases hV1.2.2.2 with hA | hB
  · have nS := lw_noS hA
    have g1 := hF1.symm.trans (mA_image (by have h := hQ1.hs; rw [nS.1] at h; exact h) (hQ1.2.2.2.2.1.trans nS.2.1) (hQ1.2.2.2.2.2.1.trans nS.2.2.1) ((hQ1.2.2.2.2.2.2 0 (by decide)).1.trans (nS.2.2.2.1 0 (by decide))) ((hQ1.2.2.2.2.2.2 1 (by decide)).1.trans (nS.2.2.2.1 1 (by decide))) ((hQ1.2.2.2.2.2.2 2 (by decide)).1.trans (nS.2.2.2.1 2 (by decide))) a1)
    obtain ⟨g2, g3⟩ := Prod.mk.inj g1
    obtain rfl : V = V1 := g3.symm
    refine pm_callV (ci := 12) (as := [(0, a1)]) (st := []) hC 90 (A_X12_image a1 b1) lm_L_148 li_X12_image (by decide) (by decide) rfl rfl rfl (by decide) rfl rfl (Nat.le_of_ble_eq_true rfl) ⟨Nat.le_refl _, Or.inl rfl⟩ dL_law_1513 ⟨rfl, hA⟩ (fun r2 V2 hp2 => ?_)
    obtain ⟨y2, rfl, -, rfl⟩ := hp2
    change pm_J X 1516 (lw_lv i) [(0, y2)] 118 V
    refine pm_pop hC rfl dL_law_1516 ?_
    refine pm_goto (tgt := 1566) hC dL_law_1517 (by decide) ?_
    exact nxt _ ⟨⟨hV, hQ⟩, hP⟩
  · skip
    refine pm_callV (ci := 12) (as := [(0, a1)]) (st := []) hC 90 (fB_X12_image a1 b1) lm_L_148 li_X12_image (by decide) (by decide) rfl rfl rfl (by decide) rfl rfl (Nat.le_of_ble_eq_true rfl) ⟨Nat.le_refl _, Or.inl rfl⟩ dL_law_1513 ⟨rfl, hB.1, hB.2.2.2.1, hB.2.2.2.2⟩ (fun r2 V2 hp2 => ?_)
    obtain ⟨y2, rfl, -, hq, hg, h4, hF2⟩ := hp2
    change pm_J X 1516 (lw_lv i) [(0, y2)] 118 V2
    have hk2 := hg.lo (by decide)
    have hP2 := (mP_image hQ1 hP1 (hB.1.get 90 16 (lo := 2) (hi := 9) (t := 0) (by decide) (by decide) rfl).1 (hV.1.get 4 1 (lo := 0) (hi := 10) (t := 0) (by decide) (by decide) rfl).2 (fun m hm => by rcases (show m = 0 ∨ m = 1 ∨ m = 2 by omega) with rfl | rfl | rfl; exact (hV.1.get 15 1 (lo := 0) (hi := 10) (t := 0) (by decide) (by decide) rfl).2; exact (hV.1.get 25 1 (lo := 0) (hi := 10) (t := 0) (by decide) (by decide) rfl).2; exact (hV.1.get 35 1 (lo := 0) (hi := 10) (t := 0) (by decide) (by decide) rfl).2) a1 hF1 hF2).lo hk2
    obtain ⟨z, Z1, Z2, f1, f2, f3⟩ := mB_image hQ1 (hB.1.get 90 16 (lo := 2) (hi := 9) (t := 0) (by decide) (by decide) rfl).1 a1
    have g1 := hF1.symm.trans f1
    have g2 := hF2.symm.trans f2
    obtain ⟨rfl, rfl⟩ := Prod.mk.inj g1
    obtain ⟨rfl, rfl⟩ := Prod.mk.inj g2
    have hQ2 := f3.lo hk2
    refine pm_pop hC rfl dL_law_1516 ?_
    refine pm_goto (tgt := 1566) hC dL_law_1517 (by decide) ?_
    exact nxt _ ⟨⟨(hV1.rB hB hq hg (by decide) (by decide) (by decide) (lw_k3 hB hg (by decide) (by decide)) h4), hQ2⟩, hP2⟩
set_option maxHeartbeats 4000000 in
set_option maxRecDepth 100000 in
theorem lw_c_back (hC : pm_C X RL cL_law 4 60) (hS : pm_Sc X L xs) (hL : L ≤ 3072) (hi : 0 ≤ i ∧ i + 6 ≤ (L : Int)) (hI : lw_J V) (nxt : ∀ V', lw_J V' → pm_J X 1566 (lw_lv i) [] 118 V') : pm_J X 1520 (lw_lv i) [] 118 V := by
  obtain ⟨⟨hV, hQ⟩, hP⟩ := hI
  refine pm_aload_n hC 1 (by decide) dL_law_1520 rfl ?_
  refine lw_ld hC hS hL hi (c := 1) (by decide) dL_law_1521 dL_law_1522 dL_law_1523 dL_law_1524 dL_law_1525 (fun a1 e1 b1 => ?_)
  refine pm_callV (ci := 11) (as := [(0, a1)]) (st := []) hC 0 (fD_X11_back_0 a1 b1) lm_L_149 li_X11_back (by decide) (by decide) rfl rfl rfl (by decide) rfl rfl (Nat.le_of_ble_eq_true rfl) ⟨Nat.le_refl _, Or.inl rfl⟩ dL_law_1526 ⟨rfl, hV.1⟩ (fun r1 V1 hp1 => ?_)
  obtain ⟨y1, rfl, -, hok, hf, hF1⟩ := hp1
  change pm_J X 1529 (lw_lv i) [(0, y1)] 118 V1
  refine pm_pop hC rfl dL_law_1529 ?_
  have hk1 := hf.hi (by decide)
  have hQ1 := hQ.hi hk1
  have hP1 := hP.hi hk1
  have hV1 := hV.ff hok hf (by decide) (by decide)
  refine pm_aload_n hC 2 (by decide) dL_law_1530 rfl ?_
  refine lw_ld hC hS hL hi (c := 1) (by decide) dL_law_1531 dL_law_1532 dL_law_1533 dL_law_1534 dL_law_1535 (fun a1x e1x b1x => ?_)
  obtain rfl : a1 = a1x := e1.symm.trans e1x
  rcases hV1.2.2.2 with hA | hB
  · have nS := lw_noS hA
    have g1 := hF1.symm.trans (mA_back (by have h := hQ1.hs; rw [nS.1] at h; exact h) (hQ1.2.2.2.2.1.trans nS.2.1) (hQ1.2.2.2.2.2.1.trans nS.2.2.1) ((hQ1.2.2.2.2.2.2 0 (by decide)).1.trans (nS.2.2.2.1 0 (by decide))) ((hQ1.2.2.2.2.2.2 1 (by decide)).1.trans (nS.2.2.2.1 1 (by decide))) ((hQ1.2.2.2.2.2.2 2 (by decide)).1.trans (nS.2.2.2.1 2 (by decide))) a1)
    obtain ⟨g2, g3⟩ := Prod.mk.inj g1
    obtain rfl : V = V1 := g3.symm
    refine pm_callV (ci := 12) (as := [(0, a1)]) (st := []) hC 90 (A_X12_back a1 b1) lm_L_152 li_X12_back (by decide) (by decide) rfl rfl rfl (by decide) rfl rfl (Nat.le_of_ble_eq_true rfl) ⟨Nat.le_refl _, Or.inl rfl⟩ dL_law_1536 ⟨rfl, hA⟩ (fun r2 V2 hp2 => ?_)
    obtain ⟨y2, rfl, -, rfl⟩ := hp2
    change pm_J X 1539 (lw_lv i) [(0, y2)] 118 V
    refine pm_pop hC rfl dL_law_1539 ?_
    refine pm_goto (tgt := 1566) hC dL_law_1540 (by decide) ?_
    exact nxt _ ⟨⟨hV, hQ⟩, hP⟩
  · skip
    refine pm_callV (ci := 12) (as := [(0, a1)]) (st := []) hC 90 (fB_X12_back a1 b1) lm_L_152 li_X12_back (by decide) (by decide) rfl rfl rfl (by decide) rfl rfl (Nat.le_of_ble_eq_true rfl) ⟨Nat.le_refl _, Or.inl rfl⟩ dL_law_1536 ⟨rfl, hB.1, hB.2.2.2.1, hB.2.2.2.2⟩ (fun r2 V2 hp2 => ?_)
    obtain ⟨y2, rfl, -, hq, hg, h3, hF2⟩ := hp2
    change pm_J X 1539 (lw_lv i) [(0, y2)] 118 V2
    have hk2 := hg.lo (by decide)
    have hP2 := (mP_back hQ1 hP1 (fun m hm => by have h := hB.1.get 102 m (lo := 0) (hi := 1) (t := 0) (by decide) hm rfl; omega) (fun m hm => by rcases (show m = 0 ∨ m = 1 ∨ m = 2 by omega) with rfl | rfl | rfl; exact (hV.1.get 15 1 (lo := 0) (hi := 10) (t := 0) (by decide) (by decide) rfl).2; exact (hV.1.get 25 1 (lo := 0) (hi := 10) (t := 0) (by decide) (by decide) rfl).2; exact (hV.1.get 35 1 (lo := 0) (hi := 10) (t := 0) (by decide) (by decide) rfl).2) a1 hF1 hF2).lo hk2
    obtain ⟨z, Z1, Z2, f1, f2, f3⟩ := mB_back hQ1 (fun m hm => by have h := hB.1.get 102 m (lo := 0) (hi := 1) (t := 0) (by decide) hm rfl; omega) a1
    have g1 := hF1.symm.trans f1
    have g2 := hF2.symm.trans f2
    obtain ⟨rfl, rfl⟩ := Prod.mk.inj g1
    obtain ⟨rfl, rfl⟩ := Prod.mk.inj g2
    have hQ2 := f3.lo hk2
    refine pm_pop hC rfl dL_law_1539 ?_
    refine pm_goto (tgt := 1566) hC dL_law_1540 (by decide) ?_
    exact nxt _ ⟨⟨(hV1.rB hB hq hg (by decide) (by decide) (by decide) h3 (lw_k4 hB hg (by decide) (by decide))), hQ2⟩, hP2⟩
set_option maxHeartbeats 4000000 in
set_option maxRecDepth 100000 in
theorem lw_c_count (hC : pm_C X RL cL_law 4 60) (hS : pm_Sc X L xs) (hL : L ≤ 3072) (hi : 0 ≤ i ∧ i + 6 ≤ (L : Int)) (hI : lw_J V) (nxt : ∀ V', lw_J V' → pm_J X 1566 (lw_lv i) [] 118 V') : pm_J X 1543 (lw_lv i) [] 118 V := by
  obtain ⟨⟨hV, hQ⟩, hP⟩ := hI
  refine pm_aload_n hC 1 (by decide) dL_law_1543 rfl ?_
  refine lw_ld hC hS hL hi (c := 1) (by decide) dL_law_1544 dL_law_1545 dL_law_1546 dL_law_1547 dL_law_1548 (fun a1 e1 b1 => ?_)
  refine pm_callV (ci := 11) (as := [(0, a1)]) (st := []) hC 0 (fD_X11_count_0 a1 b1) lm_L_153 li_X11_count (by decide) (by decide) rfl rfl rfl (by decide) rfl rfl (Nat.le_of_ble_eq_true rfl) ⟨Nat.le_refl _, Or.inl rfl⟩ dL_law_1549 ⟨rfl, hV.1⟩ (fun r1 V1 hp1 => ?_)
  obtain ⟨y1, rfl, -, rfl, hF1⟩ := hp1
  change pm_J X 1552 (lw_lv i) [(0, y1)] 118 V
  refine pm_pop hC rfl dL_law_1552 ?_
  have hQ1 := hQ
  have hP1 := hP
  refine pm_aload_n hC 2 (by decide) dL_law_1553 rfl ?_
  refine lw_ld hC hS hL hi (c := 1) (by decide) dL_law_1554 dL_law_1555 dL_law_1556 dL_law_1557 dL_law_1558 (fun a1x e1x b1x => ?_)
  obtain rfl : a1 = a1x := e1.symm.trans e1x
  refine pm_callV (ci := 12) (as := [(0, a1)]) (st := []) hC 90 (fP_X12_count a1 b1) lm_L_156 li_X12_count (by decide) (by decide) rfl rfl rfl (by decide) rfl rfl (Nat.le_of_ble_eq_true rfl) ⟨Nat.le_refl _, Or.inl rfl⟩ dL_law_1559 ⟨rfl, hV.2.2.P⟩ (fun r2 V2 hp2 => ?_)
  obtain ⟨y2, rfl, -, rfl, hF2⟩ := hp2
  change pm_J X 1562 (lw_lv i) [(0, y2)] 118 V
  refine pm_pop hC rfl dL_law_1562 ?_
  refine pm_goto (tgt := 1566) hC dL_law_1563 (by decide) ?_
  exact nxt _ ⟨⟨hV, hQ1⟩, hP1⟩
end LW
