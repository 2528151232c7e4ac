set_option maxHeartbeats 4000000 in
set_option maxRecDepth 100000 in
theorem c_X7_copyFrom_15_4  : pm_K 1 yX7_copyFrom cX7_copyFrom 3 none (fun av V => av = [(3, 15), (3, 4)] ∧ pm_ok 0 90 V) (fun _ V r V' => r = none ∧ pm_ok 0 90 V' ∧ pm_fr [15, 16, 17, 18, 19, 20, 21, 22, 23, 24] V V') := by
  refine pm_MT.of (by decide) ⟨Nat.le_refl _, by decide⟩ (fun av V h => by rw [h.1]; exact (by decide : pm_words [(3, 0), (3, 0)] ≤ 3)) ?_
  rintro X av V0 hC - hR ⟨rfl, hV0⟩
  change pm_J X 0 [(0, (3, 15)), (1, (3, 4))] [] 118 V0
  refine pm_aload_n hC 0 (by decide) dX7_copyFrom_0 rfl ?_
  refine pm_aload_n hC 1 (by decide) dX7_copyFrom_1 rfl ?_
  obtain ⟨y1, e2⟩ : ∃ y, V0 4 1 = y := ⟨_, rfl⟩
  have b3 := hV0.get 4 1 (lo := 0) (hi := 10) (by decide) (by decide) rfl
  rw [e2] at b3
  refine pm_getf (v := y1) hC 4 fl_X7_15 rfl rfl (by decide) rfl e2 dX7_copyFrom_2 ?_
  refine pm_putf hC 15 fl_X7_15 rfl rfl rfl (by decide) rfl trivial dX7_copyFrom_5 ?_
  refine pm_iconst (v := 0) hC dX7_copyFrom_8 ?_
  refine pm_istore_n (lv' := [(2, (0, 0)), (0, (3, 15)), (1, (3, 4))]) hC dX7_copyFrom_9 (by decide) rfl ?_
  have hV6 := (hV0.put 15 1 (x := y1) (lo := 0) (hi := 10) rfl ⟨by omega, by omega⟩)
  have hF7 := ((pm_fr.rf (ws := [15, 16, 17, 18, 19, 20, 21, 22, 23, 24]) (V := V0)).up 15 1 y1 rfl)
  obtain ⟨V4, hv5⟩ : ∃ V, V = (pm_up V0 15 1 y1) := ⟨_, rfl⟩
  rw [← hv5] at hV6 hF7
  rw [← hv5]
  have e8 : V4 4 1 = y1 := by rw [hv5]; exact e2
  have e9 : V4 15 1 = y1 := by rw [hv5]; rfl
  have L16 : ∀ (N18 : Nat) (x10 : Int) (V12 : pm_M), (0 ≤ x10 ∧ x10 ≤ 16) → pm_ok 0 90 V12 → pm_fr [15, 16, 17, 18, 19, 20, 21, 22, 23, 24] V0 V12 → V12 4 1 = y1 → (Int.toNat (16 - x10)) = N18 → pm_J X 10 [(0, (3, 15)), (1, (3, 4)), (2, (0, x10))] [] 118 V12 := by
    intro N18
    induction N18 using Nat.strongRecOn with
    | _ N18 ih19 =>
    intro x10 V12 b11 hV13 hF14 e15 hm17
    refine pm_iload_n hC 2 dX7_copyFrom_10 rfl ?_
    refine pm_aload_n hC 0 (by decide) dX7_copyFrom_11 rfl ?_
    obtain ⟨y20, e21⟩ : ∃ y, V12 15 1 = y := ⟨_, rfl⟩
    have b22 := hV13.get 15 1 (lo := 0) (hi := 10) (by decide) (by decide) rfl
    rw [e21] at b22
    refine pm_getf (v := y20) hC 15 fl_X7_15 rfl rfl (by decide) rfl e21 dX7_copyFrom_12 ?_
    refine pm_icmp_ge (tgt := 72) hC ⟨by omega, by omega⟩ ⟨by omega, by omega⟩ dX7_copyFrom_15 (by decide) (fun c23 => ?_) (fun c23 => ?_)
    · skip
      refine pm_aload_n hC 0 (by decide) dX7_copyFrom_72 rfl ?_
      refine pm_aload_n hC 1 (by decide) dX7_copyFrom_73 rfl ?_
      obtain ⟨y24, e25⟩ : ∃ y, V12 4 6 = y := ⟨_, rfl⟩
      have b26 := hV13.get 4 6 (lo := 0) (hi := 60) (by decide) (by decide) rfl
      rw [e25] at b26
      refine pm_getf (v := y24) hC 4 fl_X7_32 rfl rfl (by decide) rfl e25 dX7_copyFrom_74 ?_
      refine pm_putf hC 15 fl_X7_32 rfl rfl rfl (by decide) rfl trivial dX7_copyFrom_77 ?_
      refine pm_iconst (v := 0) hC dX7_copyFrom_80 ?_
      refine pm_istore_n (lv' := [(2, (0, 0)), (0, (3, 15)), (1, (3, 4))]) hC dX7_copyFrom_81 (by decide) rfl ?_
      have hV29 := (hV13.put 15 6 (x := y24) (lo := 0) (hi := 60) rfl ⟨by omega, by omega⟩)
      have hF30 := (hF14.up 15 6 y24 rfl)
      obtain ⟨V27, hv28⟩ : ∃ V, V = (pm_up V12 15 6 y24) := ⟨_, rfl⟩
      rw [← hv28] at hV29 hF30
      rw [← hv28]
      have e31 : V27 4 1 = y1 := by rw [hv28]; exact e15
      have e32 : V27 15 1 = y20 := by rw [hv28]; exact e21
      have e33 : V27 4 6 = y24 := by rw [hv28]; exact e25
      have e34 : V27 15 6 = y24 := by rw [hv28]; rfl
      have L44 : ∀ (N46 : Nat) (x35 : Int) (V37 : pm_M), (0 ≤ x35 ∧ x35 ≤ 60) → pm_ok 0 90 V37 → pm_fr [15, 16, 17, 18, 19, 20, 21, 22, 23, 24] V0 V37 → V37 4 1 = y1 → V37 15 1 = y20 → V37 4 6 = y24 → V37 15 6 = y24 → (Int.toNat (60 - x35)) = N46 → pm_J X 82 [(0, (3, 15)), (1, (3, 4)), (2, (0, x35))] [] 118 V37 := by
        intro N46
        induction N46 using Nat.strongRecOn with
        | _ N46 ih47 =>
        intro x35 V37 b36 hV38 hF39 e40 e41 e42 e43 hm45
        refine pm_iload_n hC 2 dX7_copyFrom_82 rfl ?_
        refine pm_aload_n hC 0 (by decide) dX7_copyFrom_83 rfl ?_
        refine pm_getf (v := y24) hC 15 fl_X7_32 rfl rfl (by decide) rfl e43 dX7_copyFrom_84 ?_
        refine pm_icmp_ge (tgt := 156) hC ⟨by omega, by omega⟩ ⟨by omega, by omega⟩ dX7_copyFrom_87 (by decide) (fun c48 => ?_) (fun c48 => ?_)
        · skip
          exact pm_vret hC hR ⟨rfl, hV38, hF39⟩ dX7_copyFrom_156
        · skip
          refine pm_aload_n hC 0 (by decide) dX7_copyFrom_90 rfl ?_
          have e49 : V37 15 7 = 20 := hV38.one 15 7 (by decide) (by decide) rfl
          refine pm_getf (v := 20) hC 15 fl_X7_35 rfl rfl (by decide) rfl e49 dX7_copyFrom_91 ?_
          refine pm_iload_n hC 2 dX7_copyFrom_94 rfl ?_
          refine pm_aload_n hC 1 (by decide) dX7_copyFrom_95 rfl ?_
          have e50 : V37 4 7 = 9 := hV38.one 4 7 (by decide) (by decide) rfl
          refine pm_getf (v := 9) hC 4 fl_X7_35 rfl rfl (by decide) rfl e50 dX7_copyFrom_96 ?_
          refine pm_iload_n hC 2 dX7_copyFrom_99 rfl ?_
          obtain ⟨y51, e52⟩ : ∃ y, V37 9 (x35 : Int).toNat = y := ⟨_, rfl⟩
          have b53 := hV38.get1 9 (x35 : Int).toNat (lo := 0) (hi := 999) (by decide) (show _ < 60 by omega) rfl
          rw [e52] at b53
          refine pm_iaload (len := 60) (v := y51) hC 9 rfl rfl (by decide) ⟨by omega, by omega⟩ (by decide) e52 dX7_copyFrom_100 ?_
          refine pm_iastore (len := 60) hC 20 rfl rfl (by decide) ⟨by omega, by omega⟩ (by decide) dX7_copyFrom_101 ?_
          refine pm_aload_n hC 0 (by decide) dX7_copyFrom_102 rfl ?_
          have e54 : V37 15 8 = 21 := hV38.one 15 8 (by decide) (by decide) rfl
          refine pm_getf (v := 21) hC 15 fl_X7_38 rfl rfl (by decide) rfl e54 dX7_copyFrom_103 ?_
          refine pm_iload_n hC 2 dX7_copyFrom_106 rfl ?_
          refine pm_aload_n hC 1 (by decide) dX7_copyFrom_107 rfl ?_
          have e55 : V37 4 8 = 10 := hV38.one 4 8 (by decide) (by decide) rfl
          refine pm_getf (v := 10) hC 4 fl_X7_38 rfl rfl (by decide) rfl e55 dX7_copyFrom_108 ?_
          refine pm_iload_n hC 2 dX7_copyFrom_111 rfl ?_
          obtain ⟨y56, e57⟩ : ∃ y, V37 10 (x35 : Int).toNat = y := ⟨_, rfl⟩
          have b58 := hV38.get 10 (x35 : Int).toNat (lo := 0) (hi := 99) (by decide) (show _ < 60 by omega) rfl
          rw [e57] at b58
          refine pm_iaload (len := 60) (v := y56) hC 10 rfl rfl (by decide) ⟨by omega, by omega⟩ (by decide) e57 dX7_copyFrom_112 ?_
          refine pm_iastore (len := 60) hC 21 rfl rfl (by decide) ⟨by omega, by omega⟩ (by decide) dX7_copyFrom_113 ?_
          refine pm_aload_n hC 0 (by decide) dX7_copyFrom_114 rfl ?_
          have e59 : V37 15 9 = 22 := hV38.one 15 9 (by decide) (by decide) rfl
          refine pm_getf (v := 22) hC 15 fl_X7_41 rfl rfl (by decide) rfl e59 dX7_copyFrom_115 ?_
          refine pm_iload_n hC 2 dX7_copyFrom_118 rfl ?_
          refine pm_aload_n hC 1 (by decide) dX7_copyFrom_119 rfl ?_
          have e60 : V37 4 9 = 11 := hV38.one 4 9 (by decide) (by decide) rfl
          refine pm_getf (v := 11) hC 4 fl_X7_41 rfl rfl (by decide) rfl e60 dX7_copyFrom_120 ?_
          refine pm_iload_n hC 2 dX7_copyFrom_123 rfl ?_
          obtain ⟨y61, e62⟩ : ∃ y, V37 11 (x35 : Int).toNat = y := ⟨_, rfl⟩
          have b63 := hV38.get 11 (x35 : Int).toNat (lo := (-99)) (hi := 99) (by decide) (show _ < 60 by omega) rfl
          rw [e62] at b63
          refine pm_iaload (len := 60) (v := y61) hC 11 rfl rfl (by decide) ⟨by omega, by omega⟩ (by decide) e62 dX7_copyFrom_124 ?_
          refine pm_iastore (len := 60) hC 22 rfl rfl (by decide) ⟨by omega, by omega⟩ (by decide) dX7_copyFrom_125 ?_
          refine pm_aload_n hC 0 (by decide) dX7_copyFrom_126 rfl ?_
          have e64 : V37 15 10 = 23 := hV38.one 15 10 (by decide) (by decide) rfl
          refine pm_getf (v := 23) hC 15 fl_X7_44 rfl rfl (by decide) rfl e64 dX7_copyFrom_127 ?_
          refine pm_iload_n hC 2 dX7_copyFrom_130 rfl ?_
          refine pm_aload_n hC 1 (by decide) dX7_copyFrom_131 rfl ?_
          have e65 : V37 4 10 = 12 := hV38.one 4 10 (by decide) (by decide) rfl
          refine pm_getf (v := 12) hC 4 fl_X7_44 rfl rfl (by decide) rfl e65 dX7_copyFrom_132 ?_
          refine pm_iload_n hC 2 dX7_copyFrom_135 rfl ?_
          obtain ⟨y66, e67⟩ : ∃ y, V37 12 (x35 : Int).toNat = y := ⟨_, rfl⟩
          have b68 := hV38.get 12 (x35 : Int).toNat (lo := 0) (hi := 8) (by decide) (show _ < 60 by omega) rfl
          rw [e67] at b68
          refine pm_iaload (len := 60) (v := y66) hC 12 rfl rfl (by decide) ⟨by omega, by omega⟩ (by decide) e67 dX7_copyFrom_136 ?_
          refine pm_iastore (len := 60) hC 23 rfl rfl (by decide) ⟨by omega, by omega⟩ (by decide) dX7_copyFrom_137 ?_
          refine pm_aload_n hC 0 (by decide) dX7_copyFrom_138 rfl ?_
          have e69 : V37 15 11 = 24 := hV38.one 15 11 (by decide) (by decide) rfl
          refine pm_getf (v := 24) hC 15 fl_X7_47 rfl rfl (by decide) rfl e69 dX7_copyFrom_139 ?_
          refine pm_iload_n hC 2 dX7_copyFrom_142 rfl ?_
          refine pm_aload_n hC 1 (by decide) dX7_copyFrom_143 rfl ?_
          have e70 : V37 4 11 = 13 := hV38.one 4 11 (by decide) (by decide) rfl
          refine pm_getf (v := 13) hC 4 fl_X7_47 rfl rfl (by decide) rfl e70 dX7_copyFrom_144 ?_
          refine pm_iload_n hC 2 dX7_copyFrom_147 rfl ?_
          obtain ⟨y71, e72⟩ : ∃ y, V37 13 (x35 : Int).toNat = y := ⟨_, rfl⟩
          have b73 := hV38.get 13 (x35 : Int).toNat (lo := 0) (hi := 1) (by decide) (show _ < 60 by omega) rfl
          rw [e72] at b73
          refine pm_zaload (len := 60) (v := y71) hC 13 rfl rfl (by decide) ⟨by omega, by omega⟩ (by decide) e72 dX7_copyFrom_148 ?_
          refine pm_zastore (len := 60) hC 24 rfl rfl (by decide) ⟨by omega, by omega⟩ (by decide) (by omega) dX7_copyFrom_149 ?_
          obtain ⟨x74, ei75⟩ : ∃ y : Int, x35 + 1 = y := ⟨_, rfl⟩
          refine pm_iinc (y := x74) (lv' := [(2, (0, x74)), (0, (3, 15)), (1, (3, 4))]) hC 2 dX7_copyFrom_150 (by decide) rfl ei75 rfl ?_
          refine pm_goto (tgt := 82) hC dX7_copyFrom_153 (by decide) ?_
          refine pm_lvsub [1, 2, 0] (lv' := [(0, (3, 15)), (1, (3, 4)), (2, (0, x74))]) rfl ?_
          exact ih47 _ (by omega) x74 (pm_up (pm_up (pm_up (pm_up (pm_up V37 20 (x35 : Int).toNat y51) 21 (x35 : Int).toNat y56) 22 (x35 : Int).toNat y61) 23 (x35 : Int).toNat y66) 24 (x35 : Int).toNat y71) ⟨by omega, by omega⟩ (((((hV38.put1 20 (x35 : Int).toNat (x := y51) (lo := 0) (hi := 999) rfl (by omega)).put 21 (x35 : Int).toNat (x := y56) (lo := 0) (hi := 99) rfl ⟨by omega, by omega⟩).put 22 (x35 : Int).toNat (x := y61) (lo := (-99)) (hi := 99) rfl ⟨by omega, by omega⟩).put 23 (x35 : Int).toNat (x := y66) (lo := 0) (hi := 8) rfl ⟨by omega, by omega⟩).put 24 (x35 : Int).toNat (x := y71) (lo := 0) (hi := 1) rfl ⟨by omega, by omega⟩) (((((hF39.up 20 (x35 : Int).toNat y51 rfl).up 21 (x35 : Int).toNat y56 rfl).up 22 (x35 : Int).toNat y61 rfl).up 23 (x35 : Int).toNat y66 rfl).up 24 (x35 : Int).toNat y71 rfl) e40 e41 e42 e43 rfl
      refine pm_lvsub [1, 2, 0] (lv' := [(0, (3, 15)), (1, (3, 4)), (2, (0, 0))]) rfl ?_
      exact L44 _ 0 V27 ⟨by decide, by decide⟩ hV29 hF30 e31 e32 e33 e34 rfl
    · skip
      refine pm_aload_n hC 0 (by decide) dX7_copyFrom_18 rfl ?_
      have e76 : V12 15 2 = 16 := hV13.one 15 2 (by decide) (by decide) rfl
      refine pm_getf (v := 16) hC 15 fl_X7_19 rfl rfl (by decide) rfl e76 dX7_copyFrom_19 ?_
      refine pm_iload_n hC 2 dX7_copyFrom_22 rfl ?_
      refine pm_aload_n hC 1 (by decide) dX7_copyFrom_23 rfl ?_
      have e77 : V12 4 2 = 5 := hV13.one 4 2 (by decide) (by decide) rfl
      refine pm_getf (v := 5) hC 4 fl_X7_19 rfl rfl (by decide) rfl e77 dX7_copyFrom_24 ?_
      refine pm_iload_n hC 2 dX7_copyFrom_27 rfl ?_
      obtain ⟨y78, e79⟩ : ∃ y, V12 5 (x10 : Int).toNat = y := ⟨_, rfl⟩
      have b80 := hV13.get 5 (x10 : Int).toNat (lo := (-30)) (hi := 30) (by decide) (show _ < 10 by omega) rfl
      rw [e79] at b80
      refine pm_iaload (len := 10) (v := y78) hC 5 rfl rfl (by decide) ⟨by omega, by omega⟩ (by decide) e79 dX7_copyFrom_28 ?_
      refine pm_iastore (len := 10) hC 16 rfl rfl (by decide) ⟨by omega, by omega⟩ (by decide) dX7_copyFrom_29 ?_
      refine pm_aload_n hC 0 (by decide) dX7_copyFrom_30 rfl ?_
      have e81 : V12 15 3 = 17 := hV13.one 15 3 (by decide) (by decide) rfl
      refine pm_getf (v := 17) hC 15 fl_X7_23 rfl rfl (by decide) rfl e81 dX7_copyFrom_31 ?_
      refine pm_iload_n hC 2 dX7_copyFrom_34 rfl ?_
      refine pm_aload_n hC 1 (by decide) dX7_copyFrom_35 rfl ?_
      have e82 : V12 4 3 = 6 := hV13.one 4 3 (by decide) (by decide) rfl
      refine pm_getf (v := 6) hC 4 fl_X7_23 rfl rfl (by decide) rfl e82 dX7_copyFrom_36 ?_
      refine pm_iload_n hC 2 dX7_copyFrom_39 rfl ?_
      obtain ⟨y83, e84⟩ : ∃ y, V12 6 (x10 : Int).toNat = y := ⟨_, rfl⟩
      have b85 := hV13.get 6 (x10 : Int).toNat (lo := (-30)) (hi := 30) (by decide) (show _ < 10 by omega) rfl
      rw [e84] at b85
      refine pm_iaload (len := 10) (v := y83) hC 6 rfl rfl (by decide) ⟨by omega, by omega⟩ (by decide) e84 dX7_copyFrom_40 ?_
      refine pm_iastore (len := 10) hC 17 rfl rfl (by decide) ⟨by omega, by omega⟩ (by decide) dX7_copyFrom_41 ?_
      refine pm_aload_n hC 0 (by decide) dX7_copyFrom_42 rfl ?_
      have e86 : V12 15 4 = 18 := hV13.one 15 4 (by decide) (by decide) rfl
      refine pm_getf (v := 18) hC 15 fl_X7_26 rfl rfl (by decide) rfl e86 dX7_copyFrom_43 ?_
      refine pm_iload_n hC 2 dX7_copyFrom_46 rfl ?_
      refine pm_aload_n hC 1 (by decide) dX7_copyFrom_47 rfl ?_
      have e87 : V12 4 4 = 7 := hV13.one 4 4 (by decide) (by decide) rfl
      refine pm_getf (v := 7) hC 4 fl_X7_26 rfl rfl (by decide) rfl e87 dX7_copyFrom_48 ?_
      refine pm_iload_n hC 2 dX7_copyFrom_51 rfl ?_
      obtain ⟨y88, e89⟩ : ∃ y, V12 7 (x10 : Int).toNat = y := ⟨_, rfl⟩
      have b90 := hV13.get 7 (x10 : Int).toNat (lo := 0) (hi := 16) (by decide) (show _ < 10 by omega) rfl
      rw [e89] at b90
      refine pm_iaload (len := 10) (v := y88) hC 7 rfl rfl (by decide) ⟨by omega, by omega⟩ (by decide) e89 dX7_copyFrom_52 ?_
      refine pm_iastore (len := 10) hC 18 rfl rfl (by decide) ⟨by omega, by omega⟩ (by decide) dX7_copyFrom_53 ?_
      refine pm_aload_n hC 0 (by decide) dX7_copyFrom_54 rfl ?_
      have e91 : V12 15 5 = 19 := hV13.one 15 5 (by decide) (by decide) rfl
      refine pm_getf (v := 19) hC 15 fl_X7_29 rfl rfl (by decide) rfl e91 dX7_copyFrom_55 ?_
      refine pm_iload_n hC 2 dX7_copyFrom_58 rfl ?_
      refine pm_aload_n hC 1 (by decide) dX7_copyFrom_59 rfl ?_
      have e92 : V12 4 5 = 8 := hV13.one 4 5 (by decide) (by decide) rfl
      refine pm_getf (v := 8) hC 4 fl_X7_29 rfl rfl (by decide) rfl e92 dX7_copyFrom_60 ?_
      refine pm_iload_n hC 2 dX7_copyFrom_63 rfl ?_
      obtain ⟨y93, e94⟩ : ∃ y, V12 8 (x10 : Int).toNat = y := ⟨_, rfl⟩
      have b95 := hV13.get 8 (x10 : Int).toNat (lo := 0) (hi := 3) (by decide) (show _ < 10 by omega) rfl
      rw [e94] at b95
      refine pm_iaload (len := 10) (v := y93) hC 8 rfl rfl (by decide) ⟨by omega, by omega⟩ (by decide) e94 dX7_copyFrom_64 ?_
      refine pm_iastore (len := 10) hC 19 rfl rfl (by decide) ⟨by omega, by omega⟩ (by decide) dX7_copyFrom_65 ?_
      obtain ⟨x96, ei97⟩ : ∃ y : Int, x10 + 1 = y := ⟨_, rfl⟩
      refine pm_iinc (y := x96) (lv' := [(2, (0, x96)), (0, (3, 15)), (1, (3, 4))]) hC 2 dX7_copyFrom_66 (by decide) rfl ei97 rfl ?_
      refine pm_goto (tgt := 10) hC dX7_copyFrom_69 (by decide) ?_
      refine pm_lvsub [1, 2, 0] (lv' := [(0, (3, 15)), (1, (3, 4)), (2, (0, x96))]) rfl ?_
      exact ih19 _ (by omega) x96 (pm_up (pm_up (pm_up (pm_up V12 16 (x10 : Int).toNat y78) 17 (x10 : Int).toNat y83) 18 (x10 : Int).toNat y88) 19 (x10 : Int).toNat y93) ⟨by omega, by omega⟩ ((((hV13.put 16 (x10 : Int).toNat (x := y78) (lo := (-30)) (hi := 30) rfl ⟨by omega, by omega⟩).put 17 (x10 : Int).toNat (x := y83) (lo := (-30)) (hi := 30) rfl ⟨by omega, by omega⟩).put 18 (x10 : Int).toNat (x := y88) (lo := 0) (hi := 16) rfl ⟨by omega, by omega⟩).put 19 (x10 : Int).toNat (x := y93) (lo := 0) (hi := 3) rfl ⟨by omega, by omega⟩) ((((hF14.up 16 (x10 : Int).toNat y78 rfl).up 17 (x10 : Int).toNat y83 rfl).up 18 (x10 : Int).toNat y88 rfl).up 19 (x10 : Int).toNat y93 rfl) e15 rfl
  refine pm_lvsub [1, 2, 0] (lv' := [(0, (3, 15)), (1, (3, 4)), (2, (0, 0))]) rfl ?_
  exact L16 _ 0 V4 ⟨by decide, by decide⟩ hV6 hF7 e8 rfl
set_option maxHeartbeats 4000000 in
set_option maxRecDepth 100000 in
theorem c_X7_copyFrom_25_4  : pm_K 1 yX7_copyFrom cX7_copyFrom 3 none (fun av V => av = [(3, 25), (3, 4)] ∧ pm_ok 0 90 V) (fun _ V r V' => r = none ∧ pm_ok 0 90 V' ∧ pm_fr [25, 26, 27, 28, 29, 30, 31, 32, 33, 34] V V') := by
  refine pm_MT.of (by decide) ⟨Nat.le_refl _, by decide⟩ (fun av V h => by rw [h.1]; exact (by decide : pm_words [(3, 0), (3, 0)] ≤ 3)) ?_
  rintro X av V0 hC - hR ⟨rfl, hV0⟩
  change pm_J X 0 [(0, (3, 25)), (1, (3, 4))] [] 118 V0
  refine pm_aload_n hC 0 (by decide) dX7_copyFrom_0 rfl ?_
  refine pm_aload_n hC 1 (by decide) dX7_copyFrom_1 rfl ?_
  obtain ⟨y1, e2⟩ : ∃ y, V0 4 1 = y := ⟨_, rfl⟩
  have b3 := hV0.get 4 1 (lo := 0) (hi := 10) (by decide) (by decide) rfl
  rw [e2] at b3
  refine pm_getf (v := y1) hC 4 fl_X7_15 rfl rfl (by decide) rfl e2 dX7_copyFrom_2 ?_
  refine pm_putf hC 25 fl_X7_15 rfl rfl rfl (by decide) rfl trivial dX7_copyFrom_5 ?_
  refine pm_iconst (v := 0) hC dX7_copyFrom_8 ?_
  refine pm_istore_n (lv' := [(2, (0, 0)), (0, (3, 25)), (1, (3, 4))]) hC dX7_copyFrom_9 (by decide) rfl ?_
  have hV6 := (hV0.put 25 1 (x := y1) (lo := 0) (hi := 10) rfl ⟨by omega, by omega⟩)
  have hF7 := ((pm_fr.rf (ws := [25, 26, 27, 28, 29, 30, 31, 32, 33, 34]) (V := V0)).up 25 1 y1 rfl)
  obtain ⟨V4, hv5⟩ : ∃ V, V = (pm_up V0 25 1 y1) := ⟨_, rfl⟩
  rw [← hv5] at hV6 hF7
  rw [← hv5]
  have e8 : V4 4 1 = y1 := by rw [hv5]; exact e2
  have e9 : V4 25 1 = y1 := by rw [hv5]; rfl
  have L16 : ∀ (N18 : Nat) (x10 : Int) (V12 : pm_M), (0 ≤ x10 ∧ x10 ≤ 16) → pm_ok 0 90 V12 → pm_fr [25, 26, 27, 28, 29, 30, 31, 32, 33, 34] V0 V12 → V12 4 1 = y1 → (Int.toNat (16 - x10)) = N18 → pm_J X 10 [(0, (3, 25)), (1, (3, 4)), (2, (0, x10))] [] 118 V12 := by
    intro N18
    induction N18 using Nat.strongRecOn with
    | _ N18 ih19 =>
    intro x10 V12 b11 hV13 hF14 e15 hm17
    refine pm_iload_n hC 2 dX7_copyFrom_10 rfl ?_
    refine pm_aload_n hC 0 (by decide) dX7_copyFrom_11 rfl ?_
    obtain ⟨y20, e21⟩ : ∃ y, V12 25 1 = y := ⟨_, rfl⟩
    have b22 := hV13.get 25 1 (lo := 0) (hi := 10) (by decide) (by decide) rfl
    rw [e21] at b22
    refine pm_getf (v := y20) hC 25 fl_X7_15 rfl rfl (by decide) rfl e21 dX7_copyFrom_12 ?_
    refine pm_icmp_ge (tgt := 72) hC ⟨by omega, by omega⟩ ⟨by omega, by omega⟩ dX7_copyFrom_15 (by decide) (fun c23 => ?_) (fun c23 => ?_)
    · skip
      refine pm_aload_n hC 0 (by decide) dX7_copyFrom_72 rfl ?_
      refine pm_aload_n hC 1 (by decide) dX7_copyFrom_73 rfl ?_
      obtain ⟨y24, e25⟩ : ∃ y, V12 4 6 = y := ⟨_, rfl⟩
      have b26 := hV13.get 4 6 (lo := 0) (hi := 60) (by decide) (by decide) rfl
      rw [e25] at b26
      refine pm_getf (v := y24) hC 4 fl_X7_32 rfl rfl (by decide) rfl e25 dX7_copyFrom_74 ?_
      refine pm_putf hC 25 fl_X7_32 rfl rfl rfl (by decide) rfl trivial dX7_copyFrom_77 ?_
      refine pm_iconst (v := 0) hC dX7_copyFrom_80 ?_
      refine pm_istore_n (lv' := [(2, (0, 0)), (0, (3, 25)), (1, (3, 4))]) hC dX7_copyFrom_81 (by decide) rfl ?_
      have hV29 := (hV13.put 25 6 (x := y24) (lo := 0) (hi := 60) rfl ⟨by omega, by omega⟩)
      have hF30 := (hF14.up 25 6 y24 rfl)
      obtain ⟨V27, hv28⟩ : ∃ V, V = (pm_up V12 25 6 y24) := ⟨_, rfl⟩
      rw [← hv28] at hV29 hF30
      rw [← hv28]
      have e31 : V27 4 1 = y1 := by rw [hv28]; exact e15
      have e32 : V27 25 1 = y20 := by rw [hv28]; exact e21
      have e33 : V27 4 6 = y24 := by rw [hv28]; exact e25
      have e34 : V27 25 6 = y24 := by rw [hv28]; rfl
      have L44 : ∀ (N46 : Nat) (x35 : Int) (V37 : pm_M), (0 ≤ x35 ∧ x35 ≤ 60) → pm_ok 0 90 V37 → pm_fr [25, 26, 27, 28, 29, 30, 31, 32, 33, 34] V0 V37 → V37 4 1 = y1 → V37 25 1 = y20 → V37 4 6 = y24 → V37 25 6 = y24 → (Int.toNat (60 - x35)) = N46 → pm_J X 82 [(0, (3, 25)), (1, (3, 4)), (2, (0, x35))] [] 118 V37 := by
        intro N46
        induction N46 using Nat.strongRecOn with
        | _ N46 ih47 =>
        intro x35 V37 b36 hV38 hF39 e40 e41 e42 e43 hm45
        refine pm_iload_n hC 2 dX7_copyFrom_82 rfl ?_
        refine pm_aload_n hC 0 (by decide) dX7_copyFrom_83 rfl ?_
        refine pm_getf (v := y24) hC 25 fl_X7_32 rfl rfl (by decide) rfl e43 dX7_copyFrom_84 ?_
        refine pm_icmp_ge (tgt := 156) hC ⟨by omega, by omega⟩ ⟨by omega, by omega⟩ dX7_copyFrom_87 (by decide) (fun c48 => ?_) (fun c48 => ?_)
        · skip
          exact pm_vret hC hR ⟨rfl, hV38, hF39⟩ dX7_copyFrom_156
        · skip
          refine pm_aload_n hC 0 (by decide) dX7_copyFrom_90 rfl ?_
          have e49 : V37 25 7 = 30 := hV38.one 25 7 (by decide) (by decide) rfl
          refine pm_getf (v := 30) hC 25 fl_X7_35 rfl rfl (by decide) rfl e49 dX7_copyFrom_91 ?_
          refine pm_iload_n hC 2 dX7_copyFrom_94 rfl ?_
          refine pm_aload_n hC 1 (by decide) dX7_copyFrom_95 rfl ?_
          have e50 : V37 4 7 = 9 := hV38.one 4 7 (by decide) (by decide) rfl
          refine pm_getf (v := 9) hC 4 fl_X7_35 rfl rfl (by decide) rfl e50 dX7_copyFrom_96 ?_
          refine pm_iload_n hC 2 dX7_copyFrom_99 rfl ?_
          obtain ⟨y51, e52⟩ : ∃ y, V37 9 (x35 : Int).toNat = y := ⟨_, rfl⟩
          have b53 := hV38.get1 9 (x35 : Int).toNat (lo := 0) (hi := 999) (by decide) (show _ < 60 by omega) rfl
          rw [e52] at b53
          refine pm_iaload (len := 60) (v := y51) hC 9 rfl rfl (by decide) ⟨by omega, by omega⟩ (by decide) e52 dX7_copyFrom_100 ?_
          refine pm_iastore (len := 60) hC 30 rfl rfl (by decide) ⟨by omega, by omega⟩ (by decide) dX7_copyFrom_101 ?_
          refine pm_aload_n hC 0 (by decide) dX7_copyFrom_102 rfl ?_
          have e54 : V37 25 8 = 31 := hV38.one 25 8 (by decide) (by decide) rfl
          refine pm_getf (v := 31) hC 25 fl_X7_38 rfl rfl (by decide) rfl e54 dX7_copyFrom_103 ?_
          refine pm_iload_n hC 2 dX7_copyFrom_106 rfl ?_
          refine pm_aload_n hC 1 (by decide) dX7_copyFrom_107 rfl ?_
          have e55 : V37 4 8 = 10 := hV38.one 4 8 (by decide) (by decide) rfl
          refine pm_getf (v := 10) hC 4 fl_X7_38 rfl rfl (by decide) rfl e55 dX7_copyFrom_108 ?_
          refine pm_iload_n hC 2 dX7_copyFrom_111 rfl ?_
          obtain ⟨y56, e57⟩ : ∃ y, V37 10 (x35 : Int).toNat = y := ⟨_, rfl⟩
          have b58 := hV38.get 10 (x35 : Int).toNat (lo := 0) (hi := 99) (by decide) (show _ < 60 by omega) rfl
          rw [e57] at b58
          refine pm_iaload (len := 60) (v := y56) hC 10 rfl rfl (by decide) ⟨by omega, by omega⟩ (by decide) e57 dX7_copyFrom_112 ?_
          refine pm_iastore (len := 60) hC 31 rfl rfl (by decide) ⟨by omega, by omega⟩ (by decide) dX7_copyFrom_113 ?_
          refine pm_aload_n hC 0 (by decide) dX7_copyFrom_114 rfl ?_
          have e59 : V37 25 9 = 32 := hV38.one 25 9 (by decide) (by decide) rfl
          refine pm_getf (v := 32) hC 25 fl_X7_41 rfl rfl (by decide) rfl e59 dX7_copyFrom_115 ?_
          refine pm_iload_n hC 2 dX7_copyFrom_118 rfl ?_
          refine pm_aload_n hC 1 (by decide) dX7_copyFrom_119 rfl ?_
          have e60 : V37 4 9 = 11 := hV38.one 4 9 (by decide) (by decide) rfl
          refine pm_getf (v := 11) hC 4 fl_X7_41 rfl rfl (by decide) rfl e60 dX7_copyFrom_120 ?_
          refine pm_iload_n hC 2 dX7_copyFrom_123 rfl ?_
          obtain ⟨y61, e62⟩ : ∃ y, V37 11 (x35 : Int).toNat = y := ⟨_, rfl⟩
          have b63 := hV38.get 11 (x35 : Int).toNat (lo := (-99)) (hi := 99) (by decide) (show _ < 60 by omega) rfl
          rw [e62] at b63
          refine pm_iaload (len := 60) (v := y61) hC 11 rfl rfl (by decide) ⟨by omega, by omega⟩ (by decide) e62 dX7_copyFrom_124 ?_
          refine pm_iastore (len := 60) hC 32 rfl rfl (by decide) ⟨by omega, by omega⟩ (by decide) dX7_copyFrom_125 ?_
          refine pm_aload_n hC 0 (by decide) dX7_copyFrom_126 rfl ?_
          have e64 : V37 25 10 = 33 := hV38.one 25 10 (by decide) (by decide) rfl
          refine pm_getf (v := 33) hC 25 fl_X7_44 rfl rfl (by decide) rfl e64 dX7_copyFrom_127 ?_
          refine pm_iload_n hC 2 dX7_copyFrom_130 rfl ?_
          refine pm_aload_n hC 1 (by decide) dX7_copyFrom_131 rfl ?_
          have e65 : V37 4 10 = 12 := hV38.one 4 10 (by decide) (by decide) rfl
          refine pm_getf (v := 12) hC 4 fl_X7_44 rfl rfl (by decide) rfl e65 dX7_copyFrom_132 ?_
          refine pm_iload_n hC 2 dX7_copyFrom_135 rfl ?_
          obtain ⟨y66, e67⟩ : ∃ y, V37 12 (x35 : Int).toNat = y := ⟨_, rfl⟩
          have b68 := hV38.get 12 (x35 : Int).toNat (lo := 0) (hi := 8) (by decide) (show _ < 60 by omega) rfl
          rw [e67] at b68
          refine pm_iaload (len := 60) (v := y66) hC 12 rfl rfl (by decide) ⟨by omega, by omega⟩ (by decide) e67 dX7_copyFrom_136 ?_
          refine pm_iastore (len := 60) hC 33 rfl rfl (by decide) ⟨by omega, by omega⟩ (by decide) dX7_copyFrom_137 ?_
          refine pm_aload_n hC 0 (by decide) dX7_copyFrom_138 rfl ?_
          have e69 : V37 25 11 = 34 := hV38.one 25 11 (by decide) (by decide) rfl
          refine pm_getf (v := 34) hC 25 fl_X7_47 rfl rfl (by decide) rfl e69 dX7_copyFrom_139 ?_
          refine pm_iload_n hC 2 dX7_copyFrom_142 rfl ?_
          refine pm_aload_n hC 1 (by decide) dX7_copyFrom_143 rfl ?_
          have e70 : V37 4 11 = 13 := hV38.one 4 11 (by decide) (by decide) rfl
          refine pm_getf (v := 13) hC 4 fl_X7_47 rfl rfl (by decide) rfl e70 dX7_copyFrom_144 ?_
          refine pm_iload_n hC 2 dX7_copyFrom_147 rfl ?_
          obtain ⟨y71, e72⟩ : ∃ y, V37 13 (x35 : Int).toNat = y := ⟨_, rfl⟩
          have b73 := hV38.get 13 (x35 : Int).toNat (lo := 0) (hi := 1) (by decide) (show _ < 60 by omega) rfl
          rw [e72] at b73
          refine pm_zaload (len := 60) (v := y71) hC 13 rfl rfl (by decide) ⟨by omega, by omega⟩ (by decide) e72 dX7_copyFrom_148 ?_
          refine pm_zastore (len := 60) hC 34 rfl rfl (by decide) ⟨by omega, by omega⟩ (by decide) (by omega) dX7_copyFrom_149 ?_
          obtain ⟨x74, ei75⟩ : ∃ y : Int, x35 + 1 = y := ⟨_, rfl⟩
          refine pm_iinc (y := x74) (lv' := [(2, (0, x74)), (0, (3, 25)), (1, (3, 4))]) hC 2 dX7_copyFrom_150 (by decide) rfl ei75 rfl ?_
          refine pm_goto (tgt := 82) hC dX7_copyFrom_153 (by decide) ?_
          refine pm_lvsub [1, 2, 0] (lv' := [(0, (3, 25)), (1, (3, 4)), (2, (0, x74))]) rfl ?_
          exact ih47 _ (by omega) x74 (pm_up (pm_up (pm_up (pm_up (pm_up V37 30 (x35 : Int).toNat y51) 31 (x35 : Int).toNat y56) 32 (x35 : Int).toNat y61) 33 (x35 : Int).toNat y66) 34 (x35 : Int).toNat y71) ⟨by omega, by omega⟩ (((((hV38.put1 30 (x35 : Int).toNat (x := y51) (lo := 0) (hi := 999) rfl (by omega)).put 31 (x35 : Int).toNat (x := y56) (lo := 0) (hi := 99) rfl ⟨by omega, by omega⟩).put 32 (x35 : Int).toNat (x := y61) (lo := (-99)) (hi := 99) rfl ⟨by omega, by omega⟩).put 33 (x35 : Int).toNat (x := y66) (lo := 0) (hi := 8) rfl ⟨by omega, by omega⟩).put 34 (x35 : Int).toNat (x := y71) (lo := 0) (hi := 1) rfl ⟨by omega, by omega⟩) (((((hF39.up 30 (x35 : Int).toNat y51 rfl).up 31 (x35 : Int).toNat y56 rfl).up 32 (x35 : Int).toNat y61 rfl).up 33 (x35 : Int).toNat y66 rfl).up 34 (x35 : Int).toNat y71 rfl) e40 e41 e42 e43 rfl
      refine pm_lvsub [1, 2, 0] (lv' := [(0, (3, 25)), (1, (3, 4)), (2, (0, 0))]) rfl ?_
      exact L44 _ 0 V27 ⟨by decide, by decide⟩ hV29 hF30 e31 e32 e33 e34 rfl
    · skip
      refine pm_aload_n hC 0 (by decide) dX7_copyFrom_18 rfl ?_
      have e76 : V12 25 2 = 26 := hV13.one 25 2 (by decide) (by decide) rfl
      refine pm_getf (v := 26) hC 25 fl_X7_19 rfl rfl (by decide) rfl e76 dX7_copyFrom_19 ?_
      refine pm_iload_n hC 2 dX7_copyFrom_22 rfl ?_
      refine pm_aload_n hC 1 (by decide) dX7_copyFrom_23 rfl ?_
      have e77 : V12 4 2 = 5 := hV13.one 4 2 (by decide) (by decide) rfl
      refine pm_getf (v := 5) hC 4 fl_X7_19 rfl rfl (by decide) rfl e77 dX7_copyFrom_24 ?_
      refine pm_iload_n hC 2 dX7_copyFrom_27 rfl ?_
      obtain ⟨y78, e79⟩ : ∃ y, V12 5 (x10 : Int).toNat = y := ⟨_, rfl⟩
      have b80 := hV13.get 5 (x10 : Int).toNat (lo := (-30)) (hi := 30) (by decide) (show _ < 10 by omega) rfl
      rw [e79] at b80
      refine pm_iaload (len := 10) (v := y78) hC 5 rfl rfl (by decide) ⟨by omega, by omega⟩ (by decide) e79 dX7_copyFrom_28 ?_
      refine pm_iastore (len := 10) hC 26 rfl rfl (by decide) ⟨by omega, by omega⟩ (by decide) dX7_copyFrom_29 ?_
      refine pm_aload_n hC 0 (by decide) dX7_copyFrom_30 rfl ?_
      have e81 : V12 25 3 = 27 := hV13.one 25 3 (by decide) (by decide) rfl
      refine pm_getf (v := 27) hC 25 fl_X7_23 rfl rfl (by decide) rfl e81 dX7_copyFrom_31 ?_
      refine pm_iload_n hC 2 dX7_copyFrom_34 rfl ?_
      refine pm_aload_n hC 1 (by decide) dX7_copyFrom_35 rfl ?_
      have e82 : V12 4 3 = 6 := hV13.one 4 3 (by decide) (by decide) rfl
      refine pm_getf (v := 6) hC 4 fl_X7_23 rfl rfl (by decide) rfl e82 dX7_copyFrom_36 ?_
      refine pm_iload_n hC 2 dX7_copyFrom_39 rfl ?_
      obtain ⟨y83, e84⟩ : ∃ y, V12 6 (x10 : Int).toNat = y := ⟨_, rfl⟩
      have b85 := hV13.get 6 (x10 : Int).toNat (lo := (-30)) (hi := 30) (by decide) (show _ < 10 by omega) rfl
      rw [e84] at b85
      refine pm_iaload (len := 10) (v := y83) hC 6 rfl rfl (by decide) ⟨by omega, by omega⟩ (by decide) e84 dX7_copyFrom_40 ?_
      refine pm_iastore (len := 10) hC 27 rfl rfl (by decide) ⟨by omega, by omega⟩ (by decide) dX7_copyFrom_41 ?_
      refine pm_aload_n hC 0 (by decide) dX7_copyFrom_42 rfl ?_
      have e86 : V12 25 4 = 28 := hV13.one 25 4 (by decide) (by decide) rfl
      refine pm_getf (v := 28) hC 25 fl_X7_26 rfl rfl (by decide) rfl e86 dX7_copyFrom_43 ?_
      refine pm_iload_n hC 2 dX7_copyFrom_46 rfl ?_
      refine pm_aload_n hC 1 (by decide) dX7_copyFrom_47 rfl ?_
      have e87 : V12 4 4 = 7 := hV13.one 4 4 (by decide) (by decide) rfl
      refine pm_getf (v := 7) hC 4 fl_X7_26 rfl rfl (by decide) rfl e87 dX7_copyFrom_48 ?_
      refine pm_iload_n hC 2 dX7_copyFrom_51 rfl ?_
      obtain ⟨y88, e89⟩ : ∃ y, V12 7 (x10 : Int).toNat = y := ⟨_, rfl⟩
      have b90 := hV13.get 7 (x10 : Int).toNat (lo := 0) (hi := 16) (by decide) (show _ < 10 by omega) rfl
      rw [e89] at b90
      refine pm_iaload (len := 10) (v := y88) hC 7 rfl rfl (by decide) ⟨by omega, by omega⟩ (by decide) e89 dX7_copyFrom_52 ?_
      refine pm_iastore (len := 10) hC 28 rfl rfl (by decide) ⟨by omega, by omega⟩ (by decide) dX7_copyFrom_53 ?_
      refine pm_aload_n hC 0 (by decide) dX7_copyFrom_54 rfl ?_
      have e91 : V12 25 5 = 29 := hV13.one 25 5 (by decide) (by decide) rfl
      refine pm_getf (v := 29) hC 25 fl_X7_29 rfl rfl (by decide) rfl e91 dX7_copyFrom_55 ?_
      refine pm_iload_n hC 2 dX7_copyFrom_58 rfl ?_
      refine pm_aload_n hC 1 (by decide) dX7_copyFrom_59 rfl ?_
      have e92 : V12 4 5 = 8 := hV13.one 4 5 (by decide) (by decide) rfl
      refine pm_getf (v := 8) hC 4 fl_X7_29 rfl rfl (by decide) rfl e92 dX7_copyFrom_60 ?_
      refine pm_iload_n hC 2 dX7_copyFrom_63 rfl ?_
      obtain ⟨y93, e94⟩ : ∃ y, V12 8 (x10 : Int).toNat = y := ⟨_, rfl⟩
      have b95 := hV13.get 8 (x10 : Int).toNat (lo := 0) (hi := 3) (by decide) (show _ < 10 by omega) rfl
      rw [e94] at b95
      refine pm_iaload (len := 10) (v := y93) hC 8 rfl rfl (by decide) ⟨by omega, by omega⟩ (by decide) e94 dX7_copyFrom_64 ?_
      refine pm_iastore (len := 10) hC 29 rfl rfl (by decide) ⟨by omega, by omega⟩ (by decide) dX7_copyFrom_65 ?_
      obtain ⟨x96, ei97⟩ : ∃ y : Int, x10 + 1 = y := ⟨_, rfl⟩
      refine pm_iinc (y := x96) (lv' := [(2, (0, x96)), (0, (3, 25)), (1, (3, 4))]) hC 2 dX7_copyFrom_66 (by decide) rfl ei97 rfl ?_
      refine pm_goto (tgt := 10) hC dX7_copyFrom_69 (by decide) ?_
      refine pm_lvsub [1, 2, 0] (lv' := [(0, (3, 25)), (1, (3, 4)), (2, (0, x96))]) rfl ?_
      exact ih19 _ (by omega) x96 (pm_up (pm_up (pm_up (pm_up V12 26 (x10 : Int).toNat y78) 27 (x10 : Int).toNat y83) 28 (x10 : Int).toNat y88) 29 (x10 : Int).toNat y93) ⟨by omega, by omega⟩ ((((hV13.put 26 (x10 : Int).toNat (x := y78) (lo := (-30)) (hi := 30) rfl ⟨by omega, by omega⟩).put 27 (x10 : Int).toNat (x := y83) (lo := (-30)) (hi := 30) rfl ⟨by omega, by omega⟩).put 28 (x10 : Int).toNat (x := y88) (lo := 0) (hi := 16) rfl ⟨by omega, by omega⟩).put 29 (x10 : Int).toNat (x := y93) (lo := 0) (hi := 3) rfl ⟨by omega, by omega⟩) ((((hF14.up 26 (x10 : Int).toNat y78 rfl).up 27 (x10 : Int).toNat y83 rfl).up 28 (x10 : Int).toNat y88 rfl).up 29 (x10 : Int).toNat y93 rfl) e15 rfl
  refine pm_lvsub [1, 2, 0] (lv' := [(0, (3, 25)), (1, (3, 4)), (2, (0, 0))]) rfl ?_
  exact L16 _ 0 V4 ⟨by decide, by decide⟩ hV6 hF7 e8 rfl
set_option maxHeartbeats 4000000 in
set_option maxRecDepth 100000 in
theorem c_X7_copyFrom_35_4  : pm_K 1 yX7_copyFrom cX7_copyFrom 3 none (fun av V => av = [(3, 35), (3, 4)] ∧ pm_ok 0 90 V) (fun _ V r V' => r = none ∧ pm_ok 0 90 V' ∧ pm_fr [35, 36, 37, 38, 39, 40, 41, 42, 43, 44] V V') := by
  refine pm_MT.of (by decide) ⟨Nat.le_refl _, by decide⟩ (fun av V h => by rw [h.1]; exact (by decide : pm_words [(3, 0), (3, 0)] ≤ 3)) ?_
  rintro X av V0 hC - hR ⟨rfl, hV0⟩
  change pm_J X 0 [(0, (3, 35)), (1, (3, 4))] [] 118 V0
  refine pm_aload_n hC 0 (by decide) dX7_copyFrom_0 rfl ?_
  refine pm_aload_n hC 1 (by decide) dX7_copyFrom_1 rfl ?_
  obtain ⟨y1, e2⟩ : ∃ y, V0 4 1 = y := ⟨_, rfl⟩
  have b3 := hV0.get 4 1 (lo := 0) (hi := 10) (by decide) (by decide) rfl
  rw [e2] at b3
  refine pm_getf (v := y1) hC 4 fl_X7_15 rfl rfl (by decide) rfl e2 dX7_copyFrom_2 ?_
  refine pm_putf hC 35 fl_X7_15 rfl rfl rfl (by decide) rfl trivial dX7_copyFrom_5 ?_
  refine pm_iconst (v := 0) hC dX7_copyFrom_8 ?_
  refine pm_istore_n (lv' := [(2, (0, 0)), (0, (3, 35)), (1, (3, 4))]) hC dX7_copyFrom_9 (by decide) rfl ?_
  have hV6 := (hV0.put 35 1 (x := y1) (lo := 0) (hi := 10) rfl ⟨by omega, by omega⟩)
  have hF7 := ((pm_fr.rf (ws := [35, 36, 37, 38, 39, 40, 41, 42, 43, 44]) (V := V0)).up 35 1 y1 rfl)
  obtain ⟨V4, hv5⟩ : ∃ V, V = (pm_up V0 35 1 y1) := ⟨_, rfl⟩
  rw [← hv5] at hV6 hF7
  rw [← hv5]
  have e8 : V4 4 1 = y1 := by rw [hv5]; exact e2
  have e9 : V4 35 1 = y1 := by rw [hv5]; rfl
  have L16 : ∀ (N18 : Nat) (x10 : Int) (V12 : pm_M), (0 ≤ x10 ∧ x10 ≤ 16) → pm_ok 0 90 V12 → pm_fr [35, 36, 37, 38, 39, 40, 41, 42, 43, 44] V0 V12 → V12 4 1 = y1 → (Int.toNat (16 - x10)) = N18 → pm_J X 10 [(0, (3, 35)), (1, (3, 4)), (2, (0, x10))] [] 118 V12 := by
    intro N18
    induction N18 using Nat.strongRecOn with
    | _ N18 ih19 =>
    intro x10 V12 b11 hV13 hF14 e15 hm17
    refine pm_iload_n hC 2 dX7_copyFrom_10 rfl ?_
    refine pm_aload_n hC 0 (by decide) dX7_copyFrom_11 rfl ?_
    obtain ⟨y20, e21⟩ : ∃ y, V12 35 1 = y := ⟨_, rfl⟩
    have b22 := hV13.get 35 1 (lo := 0) (hi := 10) (by decide) (by decide) rfl
    rw [e21] at b22
    refine pm_getf (v := y20) hC 35 fl_X7_15 rfl rfl (by decide) rfl e21 dX7_copyFrom_12 ?_
    refine pm_icmp_ge (tgt := 72) hC ⟨by omega, by omega⟩ ⟨by omega, by omega⟩ dX7_copyFrom_15 (by decide) (fun c23 => ?_) (fun c23 => ?_)
    · skip
      refine pm_aload_n hC 0 (by decide) dX7_copyFrom_72 rfl ?_
      refine pm_aload_n hC 1 (by decide) dX7_copyFrom_73 rfl ?_
      obtain ⟨y24, e25⟩ : ∃ y, V12 4 6 = y := ⟨_, rfl⟩
      have b26 := hV13.get 4 6 (lo := 0) (hi := 60) (by decide) (by decide) rfl
      rw [e25] at b26
      refine pm_getf (v := y24) hC 4 fl_X7_32 rfl rfl (by decide) rfl e25 dX7_copyFrom_74 ?_
      refine pm_putf hC 35 fl_X7_32 rfl rfl rfl (by decide) rfl trivial dX7_copyFrom_77 ?_
      refine pm_iconst (v := 0) hC dX7_copyFrom_80 ?_
      refine pm_istore_n (lv' := [(2, (0, 0)), (0, (3, 35)), (1, (3, 4))]) hC dX7_copyFrom_81 (by decide) rfl ?_
      have hV29 := (hV13.put 35 6 (x := y24) (lo := 0) (hi := 60) rfl ⟨by omega, by omega⟩)
      have hF30 := (hF14.up 35 6 y24 rfl)
      obtain ⟨V27, hv28⟩ : ∃ V, V = (pm_up V12 35 6 y24) := ⟨_, rfl⟩
      rw [← hv28] at hV29 hF30
      rw [← hv28]
      have e31 : V27 4 1 = y1 := by rw [hv28]; exact e15
      have e32 : V27 35 1 = y20 := by rw [hv28]; exact e21
      have e33 : V27 4 6 = y24 := by rw [hv28]; exact e25
      have e34 : V27 35 6 = y24 := by rw [hv28]; rfl
      have L44 : ∀ (N46 : Nat) (x35 : Int) (V37 : pm_M), (0 ≤ x35 ∧ x35 ≤ 60) → pm_ok 0 90 V37 → pm_fr [35, 36, 37, 38, 39, 40, 41, 42, 43, 44] V0 V37 → V37 4 1 = y1 → V37 35 1 = y20 → V37 4 6 = y24 → V37 35 6 = y24 → (Int.toNat (60 - x35)) = N46 → pm_J X 82 [(0, (3, 35)), (1, (3, 4)), (2, (0, x35))] [] 118 V37 := by
        intro N46
        induction N46 using Nat.strongRecOn with
        | _ N46 ih47 =>
        intro x35 V37 b36 hV38 hF39 e40 e41 e42 e43 hm45
        refine pm_iload_n hC 2 dX7_copyFrom_82 rfl ?_
        refine pm_aload_n hC 0 (by decide) dX7_copyFrom_83 rfl ?_
        refine pm_getf (v := y24) hC 35 fl_X7_32 rfl rfl (by decide) rfl e43 dX7_copyFrom_84 ?_
        refine pm_icmp_ge (tgt := 156) hC ⟨by omega, by omega⟩ ⟨by omega, by omega⟩ dX7_copyFrom_87 (by decide) (fun c48 => ?_) (fun c48 => ?_)
        · skip
          exact pm_vret hC hR ⟨rfl, hV38, hF39⟩ dX7_copyFrom_156
        · skip
          refine pm_aload_n hC 0 (by decide) dX7_copyFrom_90 rfl ?_
          have e49 : V37 35 7 = 40 := hV38.one 35 7 (by decide) (by decide) rfl
          refine pm_getf (v := 40) hC 35 fl_X7_35 rfl rfl (by decide) rfl e49 dX7_copyFrom_91 ?_
          refine pm_iload_n hC 2 dX7_copyFrom_94 rfl ?_
          refine pm_aload_n hC 1 (by decide) dX7_copyFrom_95 rfl ?_
          have e50 : V37 4 7 = 9 := hV38.one 4 7 (by decide) (by decide) rfl
          refine pm_getf (v := 9) hC 4 fl_X7_35 rfl rfl (by decide) rfl e50 dX7_copyFrom_96 ?_
          refine pm_iload_n hC 2 dX7_copyFrom_99 rfl ?_
          obtain ⟨y51, e52⟩ : ∃ y, V37 9 (x35 : Int).toNat = y := ⟨_, rfl⟩
          have b53 := hV38.get1 9 (x35 : Int).toNat (lo := 0) (hi := 999) (by decide) (show _ < 60 by omega) rfl
          rw [e52] at b53
          refine pm_iaload (len := 60) (v := y51) hC 9 rfl rfl (by decide) ⟨by omega, by omega⟩ (by decide) e52 dX7_copyFrom_100 ?_
          refine pm_iastore (len := 60) hC 40 rfl rfl (by decide) ⟨by omega, by omega⟩ (by decide) dX7_copyFrom_101 ?_
          refine pm_aload_n hC 0 (by decide) dX7_copyFrom_102 rfl ?_
          have e54 : V37 35 8 = 41 := hV38.one 35 8 (by decide) (by decide) rfl
          refine pm_getf (v := 41) hC 35 fl_X7_38 rfl rfl (by decide) rfl e54 dX7_copyFrom_103 ?_
          refine pm_iload_n hC 2 dX7_copyFrom_106 rfl ?_
          refine pm_aload_n hC 1 (by decide) dX7_copyFrom_107 rfl ?_
          have e55 : V37 4 8 = 10 := hV38.one 4 8 (by decide) (by decide) rfl
          refine pm_getf (v := 10) hC 4 fl_X7_38 rfl rfl (by decide) rfl e55 dX7_copyFrom_108 ?_
          refine pm_iload_n hC 2 dX7_copyFrom_111 rfl ?_
          obtain ⟨y56, e57⟩ : ∃ y, V37 10 (x35 : Int).toNat = y := ⟨_, rfl⟩
          have b58 := hV38.get 10 (x35 : Int).toNat (lo := 0) (hi := 99) (by decide) (show _ < 60 by omega) rfl
          rw [e57] at b58
          refine pm_iaload (len := 60) (v := y56) hC 10 rfl rfl (by decide) ⟨by omega, by omega⟩ (by decide) e57 dX7_copyFrom_112 ?_
          refine pm_iastore (len := 60) hC 41 rfl rfl (by decide) ⟨by omega, by omega⟩ (by decide) dX7_copyFrom_113 ?_
          refine pm_aload_n hC 0 (by decide) dX7_copyFrom_114 rfl ?_
          have e59 : V37 35 9 = 42 := hV38.one 35 9 (by decide) (by decide) rfl
          refine pm_getf (v := 42) hC 35 fl_X7_41 rfl rfl (by decide) rfl e59 dX7_copyFrom_115 ?_
          refine pm_iload_n hC 2 dX7_copyFrom_118 rfl ?_
          refine pm_aload_n hC 1 (by decide) dX7_copyFrom_119 rfl ?_
          have e60 : V37 4 9 = 11 := hV38.one 4 9 (by decide) (by decide) rfl
          refine pm_getf (v := 11) hC 4 fl_X7_41 rfl rfl (by decide) rfl e60 dX7_copyFrom_120 ?_
          refine pm_iload_n hC 2 dX7_copyFrom_123 rfl ?_
          obtain ⟨y61, e62⟩ : ∃ y, V37 11 (x35 : Int).toNat = y := ⟨_, rfl⟩
          have b63 := hV38.get 11 (x35 : Int).toNat (lo := (-99)) (hi := 99) (by decide) (show _ < 60 by omega) rfl
          rw [e62] at b63
          refine pm_iaload (len := 60) (v := y61) hC 11 rfl rfl (by decide) ⟨by omega, by omega⟩ (by decide) e62 dX7_copyFrom_124 ?_
          refine pm_iastore (len := 60) hC 42 rfl rfl (by decide) ⟨by omega, by omega⟩ (by decide) dX7_copyFrom_125 ?_
          refine pm_aload_n hC 0 (by decide) dX7_copyFrom_126 rfl ?_
          have e64 : V37 35 10 = 43 := hV38.one 35 10 (by decide) (by decide) rfl
          refine pm_getf (v := 43) hC 35 fl_X7_44 rfl rfl (by decide) rfl e64 dX7_copyFrom_127 ?_
          refine pm_iload_n hC 2 dX7_copyFrom_130 rfl ?_
          refine pm_aload_n hC 1 (by decide) dX7_copyFrom_131 rfl ?_
          have e65 : V37 4 10 = 12 := hV38.one 4 10 (by decide) (by decide) rfl
          refine pm_getf (v := 12) hC 4 fl_X7_44 rfl rfl (by decide) rfl e65 dX7_copyFrom_132 ?_
          refine pm_iload_n hC 2 dX7_copyFrom_135 rfl ?_
          obtain ⟨y66, e67⟩ : ∃ y, V37 12 (x35 : Int).toNat = y := ⟨_, rfl⟩
          have b68 := hV38.get 12 (x35 : Int).toNat (lo := 0) (hi := 8) (by decide) (show _ < 60 by omega) rfl
          rw [e67] at b68
          refine pm_iaload (len := 60) (v := y66) hC 12 rfl rfl (by decide) ⟨by omega, by omega⟩ (by decide) e67 dX7_copyFrom_136 ?_
          refine pm_iastore (len := 60) hC 43 rfl rfl (by decide) ⟨by omega, by omega⟩ (by decide) dX7_copyFrom_137 ?_
          refine pm_aload_n hC 0 (by decide) dX7_copyFrom_138 rfl ?_
          have e69 : V37 35 11 = 44 := hV38.one 35 11 (by decide) (by decide) rfl
          refine pm_getf (v := 44) hC 35 fl_X7_47 rfl rfl (by decide) rfl e69 dX7_copyFrom_139 ?_
          refine pm_iload_n hC 2 dX7_copyFrom_142 rfl ?_
          refine pm_aload_n hC 1 (by decide) dX7_copyFrom_143 rfl ?_
          have e70 : V37 4 11 = 13 := hV38.one 4 11 (by decide) (by decide) rfl
          refine pm_getf (v := 13) hC 4 fl_X7_47 rfl rfl (by decide) rfl e70 dX7_copyFrom_144 ?_
          refine pm_iload_n hC 2 dX7_copyFrom_147 rfl ?_
          obtain ⟨y71, e72⟩ : ∃ y, V37 13 (x35 : Int).toNat = y := ⟨_, rfl⟩
          have b73 := hV38.get 13 (x35 : Int).toNat (lo := 0) (hi := 1) (by decide) (show _ < 60 by omega) rfl
          rw [e72] at b73
          refine pm_zaload (len := 60) (v := y71) hC 13 rfl rfl (by decide) ⟨by omega, by omega⟩ (by decide) e72 dX7_copyFrom_148 ?_
          refine pm_zastore (len := 60) hC 44 rfl rfl (by decide) ⟨by omega, by omega⟩ (by decide) (by omega) dX7_copyFrom_149 ?_
          obtain ⟨x74, ei75⟩ : ∃ y : Int, x35 + 1 = y := ⟨_, rfl⟩
          refine pm_iinc (y := x74) (lv' := [(2, (0, x74)), (0, (3, 35)), (1, (3, 4))]) hC 2 dX7_copyFrom_150 (by decide) rfl ei75 rfl ?_
          refine pm_goto (tgt := 82) hC dX7_copyFrom_153 (by decide) ?_
          refine pm_lvsub [1, 2, 0] (lv' := [(0, (3, 35)), (1, (3, 4)), (2, (0, x74))]) rfl ?_
          exact ih47 _ (by omega) x74 (pm_up (pm_up (pm_up (pm_up (pm_up V37 40 (x35 : Int).toNat y51) 41 (x35 : Int).toNat y56) 42 (x35 : Int).toNat y61) 43 (x35 : Int).toNat y66) 44 (x35 : Int).toNat y71) ⟨by omega, by omega⟩ (((((hV38.put1 40 (x35 : Int).toNat (x := y51) (lo := 0) (hi := 999) rfl (by omega)).put 41 (x35 : Int).toNat (x := y56) (lo := 0) (hi := 99) rfl ⟨by omega, by omega⟩).put 42 (x35 : Int).toNat (x := y61) (lo := (-99)) (hi := 99) rfl ⟨by omega, by omega⟩).put 43 (x35 : Int).toNat (x := y66) (lo := 0) (hi := 8) rfl ⟨by omega, by omega⟩).put 44 (x35 : Int).toNat (x := y71) (lo := 0) (hi := 1) rfl ⟨by omega, by omega⟩) (((((hF39.up 40 (x35 : Int).toNat y51 rfl).up 41 (x35 : Int).toNat y56 rfl).up 42 (x35 : Int).toNat y61 rfl).up 43 (x35 : Int).toNat y66 rfl).up 44 (x35 : Int).toNat y71 rfl) e40 e41 e42 e43 rfl
      refine pm_lvsub [1, 2, 0] (lv' := [(0, (3, 35)), (1, (3, 4)), (2, (0, 0))]) rfl ?_
      exact L44 _ 0 V27 ⟨by decide, by decide⟩ hV29 hF30 e31 e32 e33 e34 rfl
    · skip
      refine pm_aload_n hC 0 (by decide) dX7_copyFrom_18 rfl ?_
      have e76 : V12 35 2 = 36 := hV13.one 35 2 (by decide) (by decide) rfl
      refine pm_getf (v := 36) hC 35 fl_X7_19 rfl rfl (by decide) rfl e76 dX7_copyFrom_19 ?_
      refine pm_iload_n hC 2 dX7_copyFrom_22 rfl ?_
      refine pm_aload_n hC 1 (by decide) dX7_copyFrom_23 rfl ?_
      have e77 : V12 4 2 = 5 := hV13.one 4 2 (by decide) (by decide) rfl
      refine pm_getf (v := 5) hC 4 fl_X7_19 rfl rfl (by decide) rfl e77 dX7_copyFrom_24 ?_
      refine pm_iload_n hC 2 dX7_copyFrom_27 rfl ?_
      obtain ⟨y78, e79⟩ : ∃ y, V12 5 (x10 : Int).toNat = y := ⟨_, rfl⟩
      have b80 := hV13.get 5 (x10 : Int).toNat (lo := (-30)) (hi := 30) (by decide) (show _ < 10 by omega) rfl
      rw [e79] at b80
      refine pm_iaload (len := 10) (v := y78) hC 5 rfl rfl (by decide) ⟨by omega, by omega⟩ (by decide) e79 dX7_copyFrom_28 ?_
      refine pm_iastore (len := 10) hC 36 rfl rfl (by decide) ⟨by omega, by omega⟩ (by decide) dX7_copyFrom_29 ?_
      refine pm_aload_n hC 0 (by decide) dX7_copyFrom_30 rfl ?_
      have e81 : V12 35 3 = 37 := hV13.one 35 3 (by decide) (by decide) rfl
      refine pm_getf (v := 37) hC 35 fl_X7_23 rfl rfl (by decide) rfl e81 dX7_copyFrom_31 ?_
      refine pm_iload_n hC 2 dX7_copyFrom_34 rfl ?_
      refine pm_aload_n hC 1 (by decide) dX7_copyFrom_35 rfl ?_
      have e82 : V12 4 3 = 6 := hV13.one 4 3 (by decide) (by decide) rfl
      refine pm_getf (v := 6) hC 4 fl_X7_23 rfl rfl (by decide) rfl e82 dX7_copyFrom_36 ?_
      refine pm_iload_n hC 2 dX7_copyFrom_39 rfl ?_
      obtain ⟨y83, e84⟩ : ∃ y, V12 6 (x10 : Int).toNat = y := ⟨_, rfl⟩
      have b85 := hV13.get 6 (x10 : Int).toNat (lo := (-30)) (hi := 30) (by decide) (show _ < 10 by omega) rfl
      rw [e84] at b85
      refine pm_iaload (len := 10) (v := y83) hC 6 rfl rfl (by decide) ⟨by omega, by omega⟩ (by decide) e84 dX7_copyFrom_40 ?_
      refine pm_iastore (len := 10) hC 37 rfl rfl (by decide) ⟨by omega, by omega⟩ (by decide) dX7_copyFrom_41 ?_
      refine pm_aload_n hC 0 (by decide) dX7_copyFrom_42 rfl ?_
      have e86 : V12 35 4 = 38 := hV13.one 35 4 (by decide) (by decide) rfl
      refine pm_getf (v := 38) hC 35 fl_X7_26 rfl rfl (by decide) rfl e86 dX7_copyFrom_43 ?_
      refine pm_iload_n hC 2 dX7_copyFrom_46 rfl ?_
      refine pm_aload_n hC 1 (by decide) dX7_copyFrom_47 rfl ?_
      have e87 : V12 4 4 = 7 := hV13.one 4 4 (by decide) (by decide) rfl
      refine pm_getf (v := 7) hC 4 fl_X7_26 rfl rfl (by decide) rfl e87 dX7_copyFrom_48 ?_
      refine pm_iload_n hC 2 dX7_copyFrom_51 rfl ?_
      obtain ⟨y88, e89⟩ : ∃ y, V12 7 (x10 : Int).toNat = y := ⟨_, rfl⟩
      have b90 := hV13.get 7 (x10 : Int).toNat (lo := 0) (hi := 16) (by decide) (show _ < 10 by omega) rfl
      rw [e89] at b90
      refine pm_iaload (len := 10) (v := y88) hC 7 rfl rfl (by decide) ⟨by omega, by omega⟩ (by decide) e89 dX7_copyFrom_52 ?_
      refine pm_iastore (len := 10) hC 38 rfl rfl (by decide) ⟨by omega, by omega⟩ (by decide) dX7_copyFrom_53 ?_
      refine pm_aload_n hC 0 (by decide) dX7_copyFrom_54 rfl ?_
      have e91 : V12 35 5 = 39 := hV13.one 35 5 (by decide) (by decide) rfl
      refine pm_getf (v := 39) hC 35 fl_X7_29 rfl rfl (by decide) rfl e91 dX7_copyFrom_55 ?_
      refine pm_iload_n hC 2 dX7_copyFrom_58 rfl ?_
      refine pm_aload_n hC 1 (by decide) dX7_copyFrom_59 rfl ?_
      have e92 : V12 4 5 = 8 := hV13.one 4 5 (by decide) (by decide) rfl
      refine pm_getf (v := 8) hC 4 fl_X7_29 rfl rfl (by decide) rfl e92 dX7_copyFrom_60 ?_
      refine pm_iload_n hC 2 dX7_copyFrom_63 rfl ?_
      obtain ⟨y93, e94⟩ : ∃ y, V12 8 (x10 : Int).toNat = y := ⟨_, rfl⟩
      have b95 := hV13.get 8 (x10 : Int).toNat (lo := 0) (hi := 3) (by decide) (show _ < 10 by omega) rfl
      rw [e94] at b95
      refine pm_iaload (len := 10) (v := y93) hC 8 rfl rfl (by decide) ⟨by omega, by omega⟩ (by decide) e94 dX7_copyFrom_64 ?_
      refine pm_iastore (len := 10) hC 39 rfl rfl (by decide) ⟨by omega, by omega⟩ (by decide) dX7_copyFrom_65 ?_
      obtain ⟨x96, ei97⟩ : ∃ y : Int, x10 + 1 = y := ⟨_, rfl⟩
      refine pm_iinc (y := x96) (lv' := [(2, (0, x96)), (0, (3, 35)), (1, (3, 4))]) hC 2 dX7_copyFrom_66 (by decide) rfl ei97 rfl ?_
      refine pm_goto (tgt := 10) hC dX7_copyFrom_69 (by decide) ?_
      refine pm_lvsub [1, 2, 0] (lv' := [(0, (3, 35)), (1, (3, 4)), (2, (0, x96))]) rfl ?_
      exact ih19 _ (by omega) x96 (pm_up (pm_up (pm_up (pm_up V12 36 (x10 : Int).toNat y78) 37 (x10 : Int).toNat y83) 38 (x10 : Int).toNat y88) 39 (x10 : Int).toNat y93) ⟨by omega, by omega⟩ ((((hV13.put 36 (x10 : Int).toNat (x := y78) (lo := (-30)) (hi := 30) rfl ⟨by omega, by omega⟩).put 37 (x10 : Int).toNat (x := y83) (lo := (-30)) (hi := 30) rfl ⟨by omega, by omega⟩).put 38 (x10 : Int).toNat (x := y88) (lo := 0) (hi := 16) rfl ⟨by omega, by omega⟩).put 39 (x10 : Int).toNat (x := y93) (lo := 0) (hi := 3) rfl ⟨by omega, by omega⟩) ((((hF14.up 36 (x10 : Int).toNat y78 rfl).up 37 (x10 : Int).toNat y83 rfl).up 38 (x10 : Int).toNat y88 rfl).up 39 (x10 : Int).toNat y93 rfl) e15 rfl
  refine pm_lvsub [1, 2, 0] (lv' := [(0, (3, 35)), (1, (3, 4)), (2, (0, 0))]) rfl ?_
  exact L16 _ 0 V4 ⟨by decide, by decide⟩ hV6 hF7 e8 rfl
set_option maxHeartbeats 4000000 in
set_option maxRecDepth 100000 in
theorem c_X11_image_0 (a1 : Int) (h0 : (-2147483648) ≤ a1 ∧ a1 ≤ 2147483647) : pm_K 2 yX11_image cX11_image 2 (some .boolean) (fun av V => av = [(3, 0), (0, a1)] ∧ pm_ok 0 90 V) (fun _ V r V' => ∃ y, r = some (0, y) ∧ (0 ≤ y ∧ y ≤ 1) ∧ pm_ok 0 90 V' ∧ pm_fr [15, 16, 17, 18, 19, 20, 21, 22, 23, 24, 25, 26, 27, 28, 29, 30, 31, 32, 33, 34, 35, 36, 37, 38, 39, 40, 41, 42, 43, 44] V V') := by
  refine pm_MT.of (by decide) ⟨Nat.le_refl _, by decide⟩ (fun av V h => by rw [h.1]; exact (by decide : pm_words [(3, 0), (0, 0)] ≤ 2)) ?_
  rintro X av V0 hC - hR ⟨rfl, hV0⟩
  change pm_J X 0 [(0, (3, 0)), (1, (0, a1))] [] 118 V0
  refine pm_aload_n hC 0 (by decide) dX11_image_0 rfl ?_
  refine pm_callV (ci := 11) (as := []) (st := []) hC 0 c_X11_hasScene_0 lm_X11_165 li_X11_hasScene (by decide) (by decide) rfl rfl rfl (by decide) rfl rfl (Nat.le_of_ble_eq_true rfl) ⟨Nat.le_refl _, Or.inl rfl⟩ dX11_image_1 ⟨rfl, hV0⟩ (fun r1 V2 hp3 => ?_)
  obtain ⟨y4, rfl, b5, rfl⟩ := hp3
  change pm_J X 4 [(0, (3, 0)), (1, (0, a1))] [(0, y4)] 118 V0
  refine pm_if_eq (tgt := 16) hC ⟨by omega, by omega⟩ dX11_image_4 (by decide) (fun c6 => ?_) (fun c6 => ?_)
  · skip
    refine pm_iconst (v := 0) hC dX11_image_16 ?_
    exact pm_iret hC hR (pm_narZ (by omega)) ⟨0, rfl, ⟨by omega, by omega⟩, hV0, (pm_fr.rf (ws := [15, 16, 17, 18, 19, 20, 21, 22, 23, 24, 25, 26, 27, 28, 29, 30, 31, 32, 33, 34, 35, 36, 37, 38, 39, 40, 41, 42, 43, 44]) (V := V0))⟩ dX11_image_17
  · skip
    refine pm_iload_n hC 1 dX11_image_7 rfl ?_
    refine pm_if_lt (tgt := 16) hC ⟨by omega, by omega⟩ dX11_image_8 (by decide) (fun c7 => ?_) (fun c7 => ?_)
    · skip
      refine pm_iconst (v := 0) hC dX11_image_16 ?_
      exact pm_iret hC hR (pm_narZ (by omega)) ⟨0, rfl, ⟨by omega, by omega⟩, hV0, (pm_fr.rf (ws := [15, 16, 17, 18, 19, 20, 21, 22, 23, 24, 25, 26, 27, 28, 29, 30, 31, 32, 33, 34, 35, 36, 37, 38, 39, 40, 41, 42, 43, 44]) (V := V0))⟩ dX11_image_17
    · skip
      refine pm_iload_n hC 1 dX11_image_11 rfl ?_
      refine pm_iconst (v := 3) hC dX11_image_12 ?_
      refine pm_icmp_lt (tgt := 18) hC ⟨by omega, by omega⟩ ⟨by decide, by decide⟩ dX11_image_13 (by decide) (fun c8 => ?_) (fun c8 => ?_)
      · skip
        refine pm_aload_n hC 0 (by decide) dX11_image_18 rfl ?_
        have e9 : V0 0 4 = 14 := hV0.one 0 4 (by decide) (by decide) rfl
        refine pm_getf (v := 14) hC 0 fl_X11_28 rfl rfl (by decide) rfl e9 dX11_image_19 ?_
        refine pm_iload_n hC 1 dX11_image_22 rfl ?_
        rcases (show a1 = (0 : Int) ∨ a1 = (1 : Int) ∨ a1 = (2 : Int) by omega) with hk | hk | hk
        · skip
          have e10 : V0 14 (a1 : Int).toNat = 15 := by rw [hk]; exact hV0.one 14 0 (by decide) (by decide) rfl
          refine pm_aaload (len := 3) (v := 15) hC 14 rfl rfl (by decide) ⟨by omega, by omega⟩ (by decide) e10 dX11_image_23 ?_
          refine pm_aload_n hC 0 (by decide) dX11_image_24 rfl ?_
          have e11 : V0 0 3 = 4 := hV0.one 0 3 (by decide) (by decide) rfl
          refine pm_getf (v := 4) hC 0 fl_X11_24 rfl rfl (by decide) rfl e11 dX11_image_25 ?_
          refine pm_callV (ci := 7) (as := [(3, 4)]) (st := []) hC 15 c_X7_copyFrom_15_4 lm_X11_335 li_X7_copyFrom (by decide) (by decide) rfl rfl rfl (by decide) rfl rfl (Nat.le_of_ble_eq_true rfl) ⟨Nat.le_refl _, Or.inl rfl⟩ dX11_image_28 ⟨rfl, hV0⟩ (fun r12 V13 hp14 => ?_)
          obtain ⟨rfl, hV15, hF16⟩ := hp14
          change pm_J X 31 [(0, (3, 0)), (1, (0, a1))] [] 118 V13
          have hF17 := pm_fr.tr (pm_fr.rf (ws := [15, 16, 17, 18, 19, 20, 21, 22, 23, 24, 25, 26, 27, 28, 29, 30, 31, 32, 33, 34, 35, 36, 37, 38, 39, 40, 41, 42, 43, 44]) (V := V0)) hF16 (by decide)
          have e18 : V13 0 4 = 14 := by rw [hF16 0 (by decide)]; exact e9
          have e19 : V13 0 3 = 4 := by rw [hF16 0 (by decide)]; exact e11
          refine pm_aload_n hC 0 (by decide) dX11_image_31 rfl ?_
          refine pm_getf (v := 14) hC 0 fl_X11_28 rfl rfl (by decide) rfl e18 dX11_image_32 ?_
          refine pm_iload_n hC 1 dX11_image_35 rfl ?_
          rcases (show a1 = (0 : Int) ∨ a1 = (1 : Int) ∨ a1 = (2 : Int) by omega) with hk | hk | hk
          · skip
            have e20 : V13 14 (a1 : Int).toNat = 15 := by rw [hk]; exact hV15.one 14 0 (by decide) (by decide) rfl
            refine pm_aaload (len := 3) (v := 15) hC 14 rfl rfl (by decide) ⟨by omega, by omega⟩ (by decide) e20 dX11_image_36 ?_
            refine pm_iconst (v := 1) hC dX11_image_37 ?_
            refine pm_putf hC 15 fl_X11_132 rfl rfl rfl (by decide) rfl (by show _ = (0 : Int) ∨ _ = (1 : Int); omega) dX11_image_38 ?_
            refine pm_iconst (v := 1) hC dX11_image_41 ?_
            exact pm_iret hC hR (pm_narZ (by omega)) ⟨1, rfl, ⟨by omega, by omega⟩, (hV15.put 15 0 (x := 1) (lo := 0) (hi := 1) rfl ⟨by decide, by decide⟩), (hF17.up 15 0 1 rfl)⟩ dX11_image_42
          · skip
            have e21 : V13 14 (a1 : Int).toNat = 25 := by rw [hk]; exact hV15.one 14 1 (by decide) (by decide) rfl
            refine pm_aaload (len := 3) (v := 25) hC 14 rfl rfl (by decide) ⟨by omega, by omega⟩ (by decide) e21 dX11_image_36 ?_
            refine pm_iconst (v := 1) hC dX11_image_37 ?_
            refine pm_putf hC 25 fl_X11_132 rfl rfl rfl (by decide) rfl (by show _ = (0 : Int) ∨ _ = (1 : Int); omega) dX11_image_38 ?_
            refine pm_iconst (v := 1) hC dX11_image_41 ?_
            exact pm_iret hC hR (pm_narZ (by omega)) ⟨1, rfl, ⟨by omega, by omega⟩, (hV15.put 25 0 (x := 1) (lo := 0) (hi := 1) rfl ⟨by decide, by decide⟩), (hF17.up 25 0 1 rfl)⟩ dX11_image_42
          · skip
            have e22 : V13 14 (a1 : Int).toNat = 35 := by rw [hk]; exact hV15.one 14 2 (by decide) (by decide) rfl
            refine pm_aaload (len := 3) (v := 35) hC 14 rfl rfl (by decide) ⟨by omega, by omega⟩ (by decide) e22 dX11_image_36 ?_
            refine pm_iconst (v := 1) hC dX11_image_37 ?_
            refine pm_putf hC 35 fl_X11_132 rfl rfl rfl (by decide) rfl (by show _ = (0 : Int) ∨ _ = (1 : Int); omega) dX11_image_38 ?_
            refine pm_iconst (v := 1) hC dX11_image_41 ?_
            exact pm_iret hC hR (pm_narZ (by omega)) ⟨1, rfl, ⟨by omega, by omega⟩, (hV15.put 35 0 (x := 1) (lo := 0) (hi := 1) rfl ⟨by decide, by decide⟩), (hF17.up 35 0 1 rfl)⟩ dX11_image_42
        · skip
          have e23 : V0 14 (a1 : Int).toNat = 25 := by rw [hk]; exact hV0.one 14 1 (by decide) (by decide) rfl
          refine pm_aaload (len := 3) (v := 25) hC 14 rfl rfl (by decide) ⟨by omega, by omega⟩ (by decide) e23 dX11_image_23 ?_
          refine pm_aload_n hC 0 (by decide) dX11_image_24 rfl ?_
          have e24 : V0 0 3 = 4 := hV0.one 0 3 (by decide) (by decide) rfl
          refine pm_getf (v := 4) hC 0 fl_X11_24 rfl rfl (by decide) rfl e24 dX11_image_25 ?_
          refine pm_callV (ci := 7) (as := [(3, 4)]) (st := []) hC 25 c_X7_copyFrom_25_4 lm_X11_335 li_X7_copyFrom (by decide) (by decide) rfl rfl rfl (by decide) rfl rfl (Nat.le_of_ble_eq_true rfl) ⟨Nat.le_refl _, Or.inl rfl⟩ dX11_image_28 ⟨rfl, hV0⟩ (fun r25 V26 hp27 => ?_)
          obtain ⟨rfl, hV28, hF29⟩ := hp27
          change pm_J X 31 [(0, (3, 0)), (1, (0, a1))] [] 118 V26
          have hF30 := pm_fr.tr (pm_fr.rf (ws := [15, 16, 17, 18, 19, 20, 21, 22, 23, 24, 25, 26, 27, 28, 29, 30, 31, 32, 33, 34, 35, 36, 37, 38, 39, 40, 41, 42, 43, 44]) (V := V0)) hF29 (by decide)
          have e31 : V26 0 4 = 14 := by rw [hF29 0 (by decide)]; exact e9
          have e32 : V26 0 3 = 4 := by rw [hF29 0 (by decide)]; exact e24
          refine pm_aload_n hC 0 (by decide) dX11_image_31 rfl ?_
          refine pm_getf (v := 14) hC 0 fl_X11_28 rfl rfl (by decide) rfl e31 dX11_image_32 ?_
          refine pm_iload_n hC 1 dX11_image_35 rfl ?_
          rcases (show a1 = (0 : Int) ∨ a1 = (1 : Int) ∨ a1 = (2 : Int) by omega) with hk | hk | hk
          · skip
            have e33 : V26 14 (a1 : Int).toNat = 15 := by rw [hk]; exact hV28.one 14 0 (by decide) (by decide) rfl
            refine pm_aaload (len := 3) (v := 15) hC 14 rfl rfl (by decide) ⟨by omega, by omega⟩ (by decide) e33 dX11_image_36 ?_
            refine pm_iconst (v := 1) hC dX11_image_37 ?_
            refine pm_putf hC 15 fl_X11_132 rfl rfl rfl (by decide) rfl (by show _ = (0 : Int) ∨ _ = (1 : Int); omega) dX11_image_38 ?_
            refine pm_iconst (v := 1) hC dX11_image_41 ?_
            exact pm_iret hC hR (pm_narZ (by omega)) ⟨1, rfl, ⟨by omega, by omega⟩, (hV28.put 15 0 (x := 1) (lo := 0) (hi := 1) rfl ⟨by decide, by decide⟩), (hF30.up 15 0 1 rfl)⟩ dX11_image_42
          · skip
            have e34 : V26 14 (a1 : Int).toNat = 25 := by rw [hk]; exact hV28.one 14 1 (by decide) (by decide) rfl
            refine pm_aaload (len := 3) (v := 25) hC 14 rfl rfl (by decide) ⟨by omega, by omega⟩ (by decide) e34 dX11_image_36 ?_
            refine pm_iconst (v := 1) hC dX11_image_37 ?_
            refine pm_putf hC 25 fl_X11_132 rfl rfl rfl (by decide) rfl (by show _ = (0 : Int) ∨ _ = (1 : Int); omega) dX11_image_38 ?_
            refine pm_iconst (v := 1) hC dX11_image_41 ?_
            exact pm_iret hC hR (pm_narZ (by omega)) ⟨1, rfl, ⟨by omega, by omega⟩, (hV28.put 25 0 (x := 1) (lo := 0) (hi := 1) rfl ⟨by decide, by decide⟩), (hF30.up 25 0 1 rfl)⟩ dX11_image_42
          · skip
            have e35 : V26 14 (a1 : Int).toNat = 35 := by rw [hk]; exact hV28.one 14 2 (by decide) (by decide) rfl
            refine pm_aaload (len := 3) (v := 35) hC 14 rfl rfl (by decide) ⟨by omega, by omega⟩ (by decide) e35 dX11_image_36 ?_
            refine pm_iconst (v := 1) hC dX11_image_37 ?_
            refine pm_putf hC 35 fl_X11_132 rfl rfl rfl (by decide) rfl (by show _ = (0 : Int) ∨ _ = (1 : Int); omega) dX11_image_38 ?_
            refine pm_iconst (v := 1) hC dX11_image_41 ?_
            exact pm_iret hC hR (pm_narZ (by omega)) ⟨1, rfl, ⟨by omega, by omega⟩, (hV28.put 35 0 (x := 1) (lo := 0) (hi := 1) rfl ⟨by decide, by decide⟩), (hF30.up 35 0 1 rfl)⟩ dX11_image_42
        · skip
          have e36 : V0 14 (a1 : Int).toNat = 35 := by rw [hk]; exact hV0.one 14 2 (by decide) (by decide) rfl
          refine pm_aaload (len := 3) (v := 35) hC 14 rfl rfl (by decide) ⟨by omega, by omega⟩ (by decide) e36 dX11_image_23 ?_
          refine pm_aload_n hC 0 (by decide) dX11_image_24 rfl ?_
          have e37 : V0 0 3 = 4 := hV0.one 0 3 (by decide) (by decide) rfl
          refine pm_getf (v := 4) hC 0 fl_X11_24 rfl rfl (by decide) rfl e37 dX11_image_25 ?_
          refine pm_callV (ci := 7) (as := [(3, 4)]) (st := []) hC 35 c_X7_copyFrom_35_4 lm_X11_335 li_X7_copyFrom (by decide) (by decide) rfl rfl rfl (by decide) rfl rfl (Nat.le_of_ble_eq_true rfl) ⟨Nat.le_refl _, Or.inl rfl⟩ dX11_image_28 ⟨rfl, hV0⟩ (fun r38 V39 hp40 => ?_)
          obtain ⟨rfl, hV41, hF42⟩ := hp40
          change pm_J X 31 [(0, (3, 0)), (1, (0, a1))] [] 118 V39
          have hF43 := pm_fr.tr (pm_fr.rf (ws := [15, 16, 17, 18, 19, 20, 21, 22, 23, 24, 25, 26, 27, 28, 29, 30, 31, 32, 33, 34, 35, 36, 37, 38, 39, 40, 41, 42, 43, 44]) (V := V0)) hF42 (by decide)
          have e44 : V39 0 4 = 14 := by rw [hF42 0 (by decide)]; exact e9
          have e45 : V39 0 3 = 4 := by rw [hF42 0 (by decide)]; exact e37
          refine pm_aload_n hC 0 (by decide) dX11_image_31 rfl ?_
          refine pm_getf (v := 14) hC 0 fl_X11_28 rfl rfl (by decide) rfl e44 dX11_image_32 ?_
          refine pm_iload_n hC 1 dX11_image_35 rfl ?_
          rcases (show a1 = (0 : Int) ∨ a1 = (1 : Int) ∨ a1 = (2 : Int) by omega) with hk | hk | hk
          · skip
            have e46 : V39 14 (a1 : Int).toNat = 15 := by rw [hk]; exact hV41.one 14 0 (by decide) (by decide) rfl
            refine pm_aaload (len := 3) (v := 15) hC 14 rfl rfl (by decide) ⟨by omega, by omega⟩ (by decide) e46 dX11_image_36 ?_
            refine pm_iconst (v := 1) hC dX11_image_37 ?_
            refine pm_putf hC 15 fl_X11_132 rfl rfl rfl (by decide) rfl (by show _ = (0 : Int) ∨ _ = (1 : Int); omega) dX11_image_38 ?_
            refine pm_iconst (v := 1) hC dX11_image_41 ?_
            exact pm_iret hC hR (pm_narZ (by omega)) ⟨1, rfl, ⟨by omega, by omega⟩, (hV41.put 15 0 (x := 1) (lo := 0) (hi := 1) rfl ⟨by decide, by decide⟩), (hF43.up 15 0 1 rfl)⟩ dX11_image_42
          · skip
            have e47 : V39 14 (a1 : Int).toNat = 25 := by rw [hk]; exact hV41.one 14 1 (by decide) (by decide) rfl
            refine pm_aaload (len := 3) (v := 25) hC 14 rfl rfl (by decide) ⟨by omega, by omega⟩ (by decide) e47 dX11_image_36 ?_
            refine pm_iconst (v := 1) hC dX11_image_37 ?_
            refine pm_putf hC 25 fl_X11_132 rfl rfl rfl (by decide) rfl (by show _ = (0 : Int) ∨ _ = (1 : Int); omega) dX11_image_38 ?_
            refine pm_iconst (v := 1) hC dX11_image_41 ?_
            exact pm_iret hC hR (pm_narZ (by omega)) ⟨1, rfl, ⟨by omega, by omega⟩, (hV41.put 25 0 (x := 1) (lo := 0) (hi := 1) rfl ⟨by decide, by decide⟩), (hF43.up 25 0 1 rfl)⟩ dX11_image_42
          · skip
            have e48 : V39 14 (a1 : Int).toNat = 35 := by rw [hk]; exact hV41.one 14 2 (by decide) (by decide) rfl
            refine pm_aaload (len := 3) (v := 35) hC 14 rfl rfl (by decide) ⟨by omega, by omega⟩ (by decide) e48 dX11_image_36 ?_
            refine pm_iconst (v := 1) hC dX11_image_37 ?_
            refine pm_putf hC 35 fl_X11_132 rfl rfl rfl (by decide) rfl (by show _ = (0 : Int) ∨ _ = (1 : Int); omega) dX11_image_38 ?_
            refine pm_iconst (v := 1) hC dX11_image_41 ?_
            exact pm_iret hC hR (pm_narZ (by omega)) ⟨1, rfl, ⟨by omega, by omega⟩, (hV41.put 35 0 (x := 1) (lo := 0) (hi := 1) rfl ⟨by decide, by decide⟩), (hF43.up 35 0 1 rfl)⟩ dX11_image_42
      · skip
        refine pm_iconst (v := 0) hC dX11_image_16 ?_
        exact pm_iret hC hR (pm_narZ (by omega)) ⟨0, rfl, ⟨by omega, by omega⟩, hV0, (pm_fr.rf (ws := [15, 16, 17, 18, 19, 20, 21, 22, 23, 24, 25, 26, 27, 28, 29, 30, 31, 32, 33, 34, 35, 36, 37, 38, 39, 40, 41, 42, 43, 44]) (V := V0))⟩ dX11_image_17
set_option maxHeartbeats 4000000 in
set_option maxRecDepth 100000 in
theorem c_X7_copyFrom_4_15  : pm_K 1 yX7_copyFrom cX7_copyFrom 3 none (fun av V => av = [(3, 4), (3, 15)] ∧ pm_ok 0 90 V) (fun _ V r V' => r = none ∧ pm_ok 0 90 V' ∧ pm_fr [4, 5, 6, 7, 8, 9, 10, 11, 12, 13] V V') := by
  refine pm_MT.of (by decide) ⟨Nat.le_refl _, by decide⟩ (fun av V h => by rw [h.1]; exact (by decide : pm_words [(3, 0), (3, 0)] ≤ 3)) ?_
  rintro X av V0 hC - hR ⟨rfl, hV0⟩
  change pm_J X 0 [(0, (3, 4)), (1, (3, 15))] [] 118 V0
  refine pm_aload_n hC 0 (by decide) dX7_copyFrom_0 rfl ?_
  refine pm_aload_n hC 1 (by decide) dX7_copyFrom_1 rfl ?_
  obtain ⟨y1, e2⟩ : ∃ y, V0 15 1 = y := ⟨_, rfl⟩
  have b3 := hV0.get 15 1 (lo := 0) (hi := 10) (by decide) (by decide) rfl
  rw [e2] at b3
  refine pm_getf (v := y1) hC 15 fl_X7_15 rfl rfl (by decide) rfl e2 dX7_copyFrom_2 ?_
  refine pm_putf hC 4 fl_X7_15 rfl rfl rfl (by decide) rfl trivial dX7_copyFrom_5 ?_
  refine pm_iconst (v := 0) hC dX7_copyFrom_8 ?_
  refine pm_istore_n (lv' := [(2, (0, 0)), (0, (3, 4)), (1, (3, 15))]) hC dX7_copyFrom_9 (by decide) rfl ?_
  have hV6 := (hV0.put 4 1 (x := y1) (lo := 0) (hi := 10) rfl ⟨by omega, by omega⟩)
  have hF7 := ((pm_fr.rf (ws := [4, 5, 6, 7, 8, 9, 10, 11, 12, 13]) (V := V0)).up 4 1 y1 rfl)
  obtain ⟨V4, hv5⟩ : ∃ V, V = (pm_up V0 4 1 y1) := ⟨_, rfl⟩
  rw [← hv5] at hV6 hF7
  rw [← hv5]
  have e8 : V4 15 1 = y1 := by rw [hv5]; exact e2
  have e9 : V4 4 1 = y1 := by rw [hv5]; rfl
  have L16 : ∀ (N18 : Nat) (x10 : Int) (V12 : pm_M), (0 ≤ x10 ∧ x10 ≤ 16) → pm_ok 0 90 V12 → pm_fr [4, 5, 6, 7, 8, 9, 10, 11, 12, 13] V0 V12 → V12 15 1 = y1 → (Int.toNat (16 - x10)) = N18 → pm_J X 10 [(0, (3, 4)), (1, (3, 15)), (2, (0, x10))] [] 118 V12 := by
    intro N18
    induction N18 using Nat.strongRecOn with
    | _ N18 ih19 =>
    intro x10 V12 b11 hV13 hF14 e15 hm17
    refine pm_iload_n hC 2 dX7_copyFrom_10 rfl ?_
    refine pm_aload_n hC 0 (by decide) dX7_copyFrom_11 rfl ?_
    obtain ⟨y20, e21⟩ : ∃ y, V12 4 1 = y := ⟨_, rfl⟩
    have b22 := hV13.get 4 1 (lo := 0) (hi := 10) (by decide) (by decide) rfl
    rw [e21] at b22
    refine pm_getf (v := y20) hC 4 fl_X7_15 rfl rfl (by decide) rfl e21 dX7_copyFrom_12 ?_
    refine pm_icmp_ge (tgt := 72) hC ⟨by omega, by omega⟩ ⟨by omega, by omega⟩ dX7_copyFrom_15 (by decide) (fun c23 => ?_) (fun c23 => ?_)
    · skip
      refine pm_aload_n hC 0 (by decide) dX7_copyFrom_72 rfl ?_
      refine pm_aload_n hC 1 (by decide) dX7_copyFrom_73 rfl ?_
      obtain ⟨y24, e25⟩ : ∃ y, V12 15 6 = y := ⟨_, rfl⟩
      have b26 := hV13.get 15 6 (lo := 0) (hi := 60) (by decide) (by decide) rfl
      rw [e25] at b26
      refine pm_getf (v := y24) hC 15 fl_X7_32 rfl rfl (by decide) rfl e25 dX7_copyFrom_74 ?_
      refine pm_putf hC 4 fl_X7_32 rfl rfl rfl (by decide) rfl trivial dX7_copyFrom_77 ?_
      refine pm_iconst (v := 0) hC dX7_copyFrom_80 ?_
      refine pm_istore_n (lv' := [(2, (0, 0)), (0, (3, 4)), (1, (3, 15))]) hC dX7_copyFrom_81 (by decide) rfl ?_
      have hV29 := (hV13.put 4 6 (x := y24) (lo := 0) (hi := 60) rfl ⟨by omega, by omega⟩)
      have hF30 := (hF14.up 4 6 y24 rfl)
      obtain ⟨V27, hv28⟩ : ∃ V, V = (pm_up V12 4 6 y24) := ⟨_, rfl⟩
      rw [← hv28] at hV29 hF30
      rw [← hv28]
      have e31 : V27 15 1 = y1 := by rw [hv28]; exact e15
      have e32 : V27 4 1 = y20 := by rw [hv28]; exact e21
      have e33 : V27 15 6 = y24 := by rw [hv28]; exact e25
      have e34 : V27 4 6 = y24 := by rw [hv28]; rfl
      have L44 : ∀ (N46 : Nat) (x35 : Int) (V37 : pm_M), (0 ≤ x35 ∧ x35 ≤ 60) → pm_ok 0 90 V37 → pm_fr [4, 5, 6, 7, 8, 9, 10, 11, 12, 13] V0 V37 → V37 15 1 = y1 → V37 4 1 = y20 → V37 15 6 = y24 → V37 4 6 = y24 → (Int.toNat (60 - x35)) = N46 → pm_J X 82 [(0, (3, 4)), (1, (3, 15)), (2, (0, x35))] [] 118 V37 := by
        intro N46
        induction N46 using Nat.strongRecOn with
        | _ N46 ih47 =>
        intro x35 V37 b36 hV38 hF39 e40 e41 e42 e43 hm45
        refine pm_iload_n hC 2 dX7_copyFrom_82 rfl ?_
        refine pm_aload_n hC 0 (by decide) dX7_copyFrom_83 rfl ?_
        refine pm_getf (v := y24) hC 4 fl_X7_32 rfl rfl (by decide) rfl e43 dX7_copyFrom_84 ?_
        refine pm_icmp_ge (tgt := 156) hC ⟨by omega, by omega⟩ ⟨by omega, by omega⟩ dX7_copyFrom_87 (by decide) (fun c48 => ?_) (fun c48 => ?_)
        · skip
          exact pm_vret hC hR ⟨rfl, hV38, hF39⟩ dX7_copyFrom_156
        · skip
          refine pm_aload_n hC 0 (by decide) dX7_copyFrom_90 rfl ?_
          have e49 : V37 4 7 = 9 := hV38.one 4 7 (by decide) (by decide) rfl
          refine pm_getf (v := 9) hC 4 fl_X7_35 rfl rfl (by decide) rfl e49 dX7_copyFrom_91 ?_
          refine pm_iload_n hC 2 dX7_copyFrom_94 rfl ?_
          refine pm_aload_n hC 1 (by decide) dX7_copyFrom_95 rfl ?_
          have e50 : V37 15 7 = 20 := hV38.one 15 7 (by decide) (by decide) rfl
          refine pm_getf (v := 20) hC 15 fl_X7_35 rfl rfl (by decide) rfl e50 dX7_copyFrom_96 ?_
          refine pm_iload_n hC 2 dX7_copyFrom_99 rfl ?_
          obtain ⟨y51, e52⟩ : ∃ y, V37 20 (x35 : Int).toNat = y := ⟨_, rfl⟩
          have b53 := hV38.get1 20 (x35 : Int).toNat (lo := 0) (hi := 999) (by decide) (show _ < 60 by omega) rfl
          rw [e52] at b53
          refine pm_iaload (len := 60) (v := y51) hC 20 rfl rfl (by decide) ⟨by omega, by omega⟩ (by decide) e52 dX7_copyFrom_100 ?_
          refine pm_iastore (len := 60) hC 9 rfl rfl (by decide) ⟨by omega, by omega⟩ (by decide) dX7_copyFrom_101 ?_
          refine pm_aload_n hC 0 (by decide) dX7_copyFrom_102 rfl ?_
          have e54 : V37 4 8 = 10 := hV38.one 4 8 (by decide) (by decide) rfl
          refine pm_getf (v := 10) hC 4 fl_X7_38 rfl rfl (by decide) rfl e54 dX7_copyFrom_103 ?_
          refine pm_iload_n hC 2 dX7_copyFrom_106 rfl ?_
          refine pm_aload_n hC 1 (by decide) dX7_copyFrom_107 rfl ?_
          have e55 : V37 15 8 = 21 := hV38.one 15 8 (by decide) (by decide) rfl
          refine pm_getf (v := 21) hC 15 fl_X7_38 rfl rfl (by decide) rfl e55 dX7_copyFrom_108 ?_
          refine pm_iload_n hC 2 dX7_copyFrom_111 rfl ?_
          obtain ⟨y56, e57⟩ : ∃ y, V37 21 (x35 : Int).toNat = y := ⟨_, rfl⟩
          have b58 := hV38.get 21 (x35 : Int).toNat (lo := 0) (hi := 99) (by decide) (show _ < 60 by omega) rfl
          rw [e57] at b58
          refine pm_iaload (len := 60) (v := y56) hC 21 rfl rfl (by decide) ⟨by omega, by omega⟩ (by decide) e57 dX7_copyFrom_112 ?_
          refine pm_iastore (len := 60) hC 10 rfl rfl (by decide) ⟨by omega, by omega⟩ (by decide) dX7_copyFrom_113 ?_
          refine pm_aload_n hC 0 (by decide) dX7_copyFrom_114 rfl ?_
          have e59 : V37 4 9 = 11 := hV38.one 4 9 (by decide) (by decide) rfl
          refine pm_getf (v := 11) hC 4 fl_X7_41 rfl rfl (by decide) rfl e59 dX7_copyFrom_115 ?_
          refine pm_iload_n hC 2 dX7_copyFrom_118 rfl ?_
          refine pm_aload_n hC 1 (by decide) dX7_copyFrom_119 rfl ?_
          have e60 : V37 15 9 = 22 := hV38.one 15 9 (by decide) (by decide) rfl
          refine pm_getf (v := 22) hC 15 fl_X7_41 rfl rfl (by decide) rfl e60 dX7_copyFrom_120 ?_
          refine pm_iload_n hC 2 dX7_copyFrom_123 rfl ?_
          obtain ⟨y61, e62⟩ : ∃ y, V37 22 (x35 : Int).toNat = y := ⟨_, rfl⟩
          have b63 := hV38.get 22 (x35 : Int).toNat (lo := (-99)) (hi := 99) (by decide) (show _ < 60 by omega) rfl
          rw [e62] at b63
          refine pm_iaload (len := 60) (v := y61) hC 22 rfl rfl (by decide) ⟨by omega, by omega⟩ (by decide) e62 dX7_copyFrom_124 ?_
          refine pm_iastore (len := 60) hC 11 rfl rfl (by decide) ⟨by omega, by omega⟩ (by decide) dX7_copyFrom_125 ?_
          refine pm_aload_n hC 0 (by decide) dX7_copyFrom_126 rfl ?_
          have e64 : V37 4 10 = 12 := hV38.one 4 10 (by decide) (by decide) rfl
          refine pm_getf (v := 12) hC 4 fl_X7_44 rfl rfl (by decide) rfl e64 dX7_copyFrom_127 ?_
          refine pm_iload_n hC 2 dX7_copyFrom_130 rfl ?_
          refine pm_aload_n hC 1 (by decide) dX7_copyFrom_131 rfl ?_
          have e65 : V37 15 10 = 23 := hV38.one 15 10 (by decide) (by decide) rfl
          refine pm_getf (v := 23) hC 15 fl_X7_44 rfl rfl (by decide) rfl e65 dX7_copyFrom_132 ?_
          refine pm_iload_n hC 2 dX7_copyFrom_135 rfl ?_
          obtain ⟨y66, e67⟩ : ∃ y, V37 23 (x35 : Int).toNat = y := ⟨_, rfl⟩
          have b68 := hV38.get 23 (x35 : Int).toNat (lo := 0) (hi := 8) (by decide) (show _ < 60 by omega) rfl
          rw [e67] at b68
          refine pm_iaload (len := 60) (v := y66) hC 23 rfl rfl (by decide) ⟨by omega, by omega⟩ (by decide) e67 dX7_copyFrom_136 ?_
          refine pm_iastore (len := 60) hC 12 rfl rfl (by decide) ⟨by omega, by omega⟩ (by decide) dX7_copyFrom_137 ?_
          refine pm_aload_n hC 0 (by decide) dX7_copyFrom_138 rfl ?_
          have e69 : V37 4 11 = 13 := hV38.one 4 11 (by decide) (by decide) rfl
          refine pm_getf (v := 13) hC 4 fl_X7_47 rfl rfl (by decide) rfl e69 dX7_copyFrom_139 ?_
          refine pm_iload_n hC 2 dX7_copyFrom_142 rfl ?_
          refine pm_aload_n hC 1 (by decide) dX7_copyFrom_143 rfl ?_
          have e70 : V37 15 11 = 24 := hV38.one 15 11 (by decide) (by decide) rfl
          refine pm_getf (v := 24) hC 15 fl_X7_47 rfl rfl (by decide) rfl e70 dX7_copyFrom_144 ?_
          refine pm_iload_n hC 2 dX7_copyFrom_147 rfl ?_
          obtain ⟨y71, e72⟩ : ∃ y, V37 24 (x35 : Int).toNat = y := ⟨_, rfl⟩
          have b73 := hV38.get 24 (x35 : Int).toNat (lo := 0) (hi := 1) (by decide) (show _ < 60 by omega) rfl
          rw [e72] at b73
          refine pm_zaload (len := 60) (v := y71) hC 24 rfl rfl (by decide) ⟨by omega, by omega⟩ (by decide) e72 dX7_copyFrom_148 ?_
          refine pm_zastore (len := 60) hC 13 rfl rfl (by decide) ⟨by omega, by omega⟩ (by decide) (by omega) dX7_copyFrom_149 ?_
          obtain ⟨x74, ei75⟩ : ∃ y : Int, x35 + 1 = y := ⟨_, rfl⟩
          refine pm_iinc (y := x74) (lv' := [(2, (0, x74)), (0, (3, 4)), (1, (3, 15))]) hC 2 dX7_copyFrom_150 (by decide) rfl ei75 rfl ?_
          refine pm_goto (tgt := 82) hC dX7_copyFrom_153 (by decide) ?_
          refine pm_lvsub [1, 2, 0] (lv' := [(0, (3, 4)), (1, (3, 15)), (2, (0, x74))]) rfl ?_
          exact ih47 _ (by omega) x74 (pm_up (pm_up (pm_up (pm_up (pm_up V37 9 (x35 : Int).toNat y51) 10 (x35 : Int).toNat y56) 11 (x35 : Int).toNat y61) 12 (x35 : Int).toNat y66) 13 (x35 : Int).toNat y71) ⟨by omega, by omega⟩ (((((hV38.put1 9 (x35 : Int).toNat (x := y51) (lo := 0) (hi := 999) rfl (by omega)).put 10 (x35 : Int).toNat (x := y56) (lo := 0) (hi := 99) rfl ⟨by omega, by omega⟩).put 11 (x35 : Int).toNat (x := y61) (lo := (-99)) (hi := 99) rfl ⟨by omega, by omega⟩).put 12 (x35 : Int).toNat (x := y66) (lo := 0) (hi := 8) rfl ⟨by omega, by omega⟩).put 13 (x35 : Int).toNat (x := y71) (lo := 0) (hi := 1) rfl ⟨by omega, by omega⟩) (((((hF39.up 9 (x35 : Int).toNat y51 rfl).up 10 (x35 : Int).toNat y56 rfl).up 11 (x35 : Int).toNat y61 rfl).up 12 (x35 : Int).toNat y66 rfl).up 13 (x35 : Int).toNat y71 rfl) e40 e41 e42 e43 rfl
      refine pm_lvsub [1, 2, 0] (lv' := [(0, (3, 4)), (1, (3, 15)), (2, (0, 0))]) rfl ?_
      exact L44 _ 0 V27 ⟨by decide, by decide⟩ hV29 hF30 e31 e32 e33 e34 rfl
    · skip
      refine pm_aload_n hC 0 (by decide) dX7_copyFrom_18 rfl ?_
      have e76 : V12 4 2 = 5 := hV13.one 4 2 (by decide) (by decide) rfl
      refine pm_getf (v := 5) hC 4 fl_X7_19 rfl rfl (by decide) rfl e76 dX7_copyFrom_19 ?_
      refine pm_iload_n hC 2 dX7_copyFrom_22 rfl ?_
      refine pm_aload_n hC 1 (by decide) dX7_copyFrom_23 rfl ?_
      have e77 : V12 15 2 = 16 := hV13.one 15 2 (by decide) (by decide) rfl
      refine pm_getf (v := 16) hC 15 fl_X7_19 rfl rfl (by decide) rfl e77 dX7_copyFrom_24 ?_
      refine pm_iload_n hC 2 dX7_copyFrom_27 rfl ?_
      obtain ⟨y78, e79⟩ : ∃ y, V12 16 (x10 : Int).toNat = y := ⟨_, rfl⟩
      have b80 := hV13.get 16 (x10 : Int).toNat (lo := (-30)) (hi := 30) (by decide) (show _ < 10 by omega) rfl
      rw [e79] at b80
      refine pm_iaload (len := 10) (v := y78) hC 16 rfl rfl (by decide) ⟨by omega, by omega⟩ (by decide) e79 dX7_copyFrom_28 ?_
      refine pm_iastore (len := 10) hC 5 rfl rfl (by decide) ⟨by omega, by omega⟩ (by decide) dX7_copyFrom_29 ?_
      refine pm_aload_n hC 0 (by decide) dX7_copyFrom_30 rfl ?_
      have e81 : V12 4 3 = 6 := hV13.one 4 3 (by decide) (by decide) rfl
      refine pm_getf (v := 6) hC 4 fl_X7_23 rfl rfl (by decide) rfl e81 dX7_copyFrom_31 ?_
      refine pm_iload_n hC 2 dX7_copyFrom_34 rfl ?_
      refine pm_aload_n hC 1 (by decide) dX7_copyFrom_35 rfl ?_
      have e82 : V12 15 3 = 17 := hV13.one 15 3 (by decide) (by decide) rfl
      refine pm_getf (v := 17) hC 15 fl_X7_23 rfl rfl (by decide) rfl e82 dX7_copyFrom_36 ?_
      refine pm_iload_n hC 2 dX7_copyFrom_39 rfl ?_
      obtain ⟨y83, e84⟩ : ∃ y, V12 17 (x10 : Int).toNat = y := ⟨_, rfl⟩
      have b85 := hV13.get 17 (x10 : Int).toNat (lo := (-30)) (hi := 30) (by decide) (show _ < 10 by omega) rfl
      rw [e84] at b85
      refine pm_iaload (len := 10) (v := y83) hC 17 rfl rfl (by decide) ⟨by omega, by omega⟩ (by decide) e84 dX7_copyFrom_40 ?_
      refine pm_iastore (len := 10) hC 6 rfl rfl (by decide) ⟨by omega, by omega⟩ (by decide) dX7_copyFrom_41 ?_
      refine pm_aload_n hC 0 (by decide) dX7_copyFrom_42 rfl ?_
      have e86 : V12 4 4 = 7 := hV13.one 4 4 (by decide) (by decide) rfl
      refine pm_getf (v := 7) hC 4 fl_X7_26 rfl rfl (by decide) rfl e86 dX7_copyFrom_43 ?_
      refine pm_iload_n hC 2 dX7_copyFrom_46 rfl ?_
      refine pm_aload_n hC 1 (by decide) dX7_copyFrom_47 rfl ?_
      have e87 : V12 15 4 = 18 := hV13.one 15 4 (by decide) (by decide) rfl
      refine pm_getf (v := 18) hC 15 fl_X7_26 rfl rfl (by decide) rfl e87 dX7_copyFrom_48 ?_
      refine pm_iload_n hC 2 dX7_copyFrom_51 rfl ?_
      obtain ⟨y88, e89⟩ : ∃ y, V12 18 (x10 : Int).toNat = y := ⟨_, rfl⟩
      have b90 := hV13.get 18 (x10 : Int).toNat (lo := 0) (hi := 16) (by decide) (show _ < 10 by omega) rfl
      rw [e89] at b90
      refine pm_iaload (len := 10) (v := y88) hC 18 rfl rfl (by decide) ⟨by omega, by omega⟩ (by decide) e89 dX7_copyFrom_52 ?_
      refine pm_iastore (len := 10) hC 7 rfl rfl (by decide) ⟨by omega, by omega⟩ (by decide) dX7_copyFrom_53 ?_
      refine pm_aload_n hC 0 (by decide) dX7_copyFrom_54 rfl ?_
      have e91 : V12 4 5 = 8 := hV13.one 4 5 (by decide) (by decide) rfl
      refine pm_getf (v := 8) hC 4 fl_X7_29 rfl rfl (by decide) rfl e91 dX7_copyFrom_55 ?_
      refine pm_iload_n hC 2 dX7_copyFrom_58 rfl ?_
      refine pm_aload_n hC 1 (by decide) dX7_copyFrom_59 rfl ?_
      have e92 : V12 15 5 = 19 := hV13.one 15 5 (by decide) (by decide) rfl
      refine pm_getf (v := 19) hC 15 fl_X7_29 rfl rfl (by decide) rfl e92 dX7_copyFrom_60 ?_
      refine pm_iload_n hC 2 dX7_copyFrom_63 rfl ?_
      obtain ⟨y93, e94⟩ : ∃ y, V12 19 (x10 : Int).toNat = y := ⟨_, rfl⟩
      have b95 := hV13.get 19 (x10 : Int).toNat (lo := 0) (hi := 3) (by decide) (show _ < 10 by omega) rfl
      rw [e94] at b95
      refine pm_iaload (len := 10) (v := y93) hC 19 rfl rfl (by decide) ⟨by omega, by omega⟩ (by decide) e94 dX7_copyFrom_64 ?_
      refine pm_iastore (len := 10) hC 8 rfl rfl (by decide) ⟨by omega, by omega⟩ (by decide) dX7_copyFrom_65 ?_
      obtain ⟨x96, ei97⟩ : ∃ y : Int, x10 + 1 = y := ⟨_, rfl⟩
      refine pm_iinc (y := x96) (lv' := [(2, (0, x96)), (0, (3, 4)), (1, (3, 15))]) hC 2 dX7_copyFrom_66 (by decide) rfl ei97 rfl ?_
      refine pm_goto (tgt := 10) hC dX7_copyFrom_69 (by decide) ?_
      refine pm_lvsub [1, 2, 0] (lv' := [(0, (3, 4)), (1, (3, 15)), (2, (0, x96))]) rfl ?_
      exact ih19 _ (by omega) x96 (pm_up (pm_up (pm_up (pm_up V12 5 (x10 : Int).toNat y78) 6 (x10 : Int).toNat y83) 7 (x10 : Int).toNat y88) 8 (x10 : Int).toNat y93) ⟨by omega, by omega⟩ ((((hV13.put 5 (x10 : Int).toNat (x := y78) (lo := (-30)) (hi := 30) rfl ⟨by omega, by omega⟩).put 6 (x10 : Int).toNat (x := y83) (lo := (-30)) (hi := 30) rfl ⟨by omega, by omega⟩).put 7 (x10 : Int).toNat (x := y88) (lo := 0) (hi := 16) rfl ⟨by omega, by omega⟩).put 8 (x10 : Int).toNat (x := y93) (lo := 0) (hi := 3) rfl ⟨by omega, by omega⟩) ((((hF14.up 5 (x10 : Int).toNat y78 rfl).up 6 (x10 : Int).toNat y83 rfl).up 7 (x10 : Int).toNat y88 rfl).up 8 (x10 : Int).toNat y93 rfl) e15 rfl
  refine pm_lvsub [1, 2, 0] (lv' := [(0, (3, 4)), (1, (3, 15)), (2, (0, 0))]) rfl ?_
  exact L16 _ 0 V4 ⟨by decide, by decide⟩ hV6 hF7 e8 rfl
set_option maxHeartbeats 4000000 in
set_option maxRecDepth 100000 in
theorem c_X7_copyFrom_4_25  : pm_K 1 yX7_copyFrom cX7_copyFrom 3 none (fun av V => av = [(3, 4), (3, 25)] ∧ pm_ok 0 90 V) (fun _ V r V' => r = none ∧ pm_ok 0 90 V' ∧ pm_fr [4, 5, 6, 7, 8, 9, 10, 11, 12, 13] V V') := by
  refine pm_MT.of (by decide) ⟨Nat.le_refl _, by decide⟩ (fun av V h => by rw [h.1]; exact (by decide : pm_words [(3, 0), (3, 0)] ≤ 3)) ?_
  rintro X av V0 hC - hR ⟨rfl, hV0⟩
  change pm_J X 0 [(0, (3, 4)), (1, (3, 25))] [] 118 V0
  refine pm_aload_n hC 0 (by decide) dX7_copyFrom_0 rfl ?_
  refine pm_aload_n hC 1 (by decide) dX7_copyFrom_1 rfl ?_
  obtain ⟨y1, e2⟩ : ∃ y, V0 25 1 = y := ⟨_, rfl⟩
  have b3 := hV0.get 25 1 (lo := 0) (hi := 10) (by decide) (by decide) rfl
  rw [e2] at b3
  refine pm_getf (v := y1) hC 25 fl_X7_15 rfl rfl (by decide) rfl e2 dX7_copyFrom_2 ?_
  refine pm_putf hC 4 fl_X7_15 rfl rfl rfl (by decide) rfl trivial dX7_copyFrom_5 ?_
  refine pm_iconst (v := 0) hC dX7_copyFrom_8 ?_
  refine pm_istore_n (lv' := [(2, (0, 0)), (0, (3, 4)), (1, (3, 25))]) hC dX7_copyFrom_9 (by decide) rfl ?_
  have hV6 := (hV0.put 4 1 (x := y1) (lo := 0) (hi := 10) rfl ⟨by omega, by omega⟩)
  have hF7 := ((pm_fr.rf (ws := [4, 5, 6, 7, 8, 9, 10, 11, 12, 13]) (V := V0)).up 4 1 y1 rfl)
  obtain ⟨V4, hv5⟩ : ∃ V, V = (pm_up V0 4 1 y1) := ⟨_, rfl⟩
  rw [← hv5] at hV6 hF7
  rw [← hv5]
  have e8 : V4 25 1 = y1 := by rw [hv5]; exact e2
  have e9 : V4 4 1 = y1 := by rw [hv5]; rfl
  have L16 : ∀ (N18 : Nat) (x10 : Int) (V12 : pm_M), (0 ≤ x10 ∧ x10 ≤ 16) → pm_ok 0 90 V12 → pm_fr [4, 5, 6, 7, 8, 9, 10, 11, 12, 13] V0 V12 → V12 25 1 = y1 → (Int.toNat (16 - x10)) = N18 → pm_J X 10 [(0, (3, 4)), (1, (3, 25)), (2, (0, x10))] [] 118 V12 := by
    intro N18
    induction N18 using Nat.strongRecOn with
    | _ N18 ih19 =>
    intro x10 V12 b11 hV13 hF14 e15 hm17
    refine pm_iload_n hC 2 dX7_copyFrom_10 rfl ?_
    refine pm_aload_n hC 0 (by decide) dX7_copyFrom_11 rfl ?_
    obtain ⟨y20, e21⟩ : ∃ y, V12 4 1 = y := ⟨_, rfl⟩
    have b22 := hV13.get 4 1 (lo := 0) (hi := 10) (by decide) (by decide) rfl
    rw [e21] at b22
    refine pm_getf (v := y20) hC 4 fl_X7_15 rfl rfl (by decide) rfl e21 dX7_copyFrom_12 ?_
    refine pm_icmp_ge (tgt := 72) hC ⟨by omega, by omega⟩ ⟨by omega, by omega⟩ dX7_copyFrom_15 (by decide) (fun c23 => ?_) (fun c23 => ?_)
    · skip
      refine pm_aload_n hC 0 (by decide) dX7_copyFrom_72 rfl ?_
      refine pm_aload_n hC 1 (by decide) dX7_copyFrom_73 rfl ?_
      obtain ⟨y24, e25⟩ : ∃ y, V12 25 6 = y := ⟨_, rfl⟩
      have b26 := hV13.get 25 6 (lo := 0) (hi := 60) (by decide) (by decide) rfl
      rw [e25] at b26
      refine pm_getf (v := y24) hC 25 fl_X7_32 rfl rfl (by decide) rfl e25 dX7_copyFrom_74 ?_
      refine pm_putf hC 4 fl_X7_32 rfl rfl rfl (by decide) rfl trivial dX7_copyFrom_77 ?_
      refine pm_iconst (v := 0) hC dX7_copyFrom_80 ?_
      refine pm_istore_n (lv' := [(2, (0, 0)), (0, (3, 4)), (1, (3, 25))]) hC dX7_copyFrom_81 (by decide) rfl ?_
      have hV29 := (hV13.put 4 6 (x := y24) (lo := 0) (hi := 60) rfl ⟨by omega, by omega⟩)
      have hF30 := (hF14.up 4 6 y24 rfl)
      obtain ⟨V27, hv28⟩ : ∃ V, V = (pm_up V12 4 6 y24) := ⟨_, rfl⟩
      rw [← hv28] at hV29 hF30
      rw [← hv28]
      have e31 : V27 25 1 = y1 := by rw [hv28]; exact e15
      have e32 : V27 4 1 = y20 := by rw [hv28]; exact e21
      have e33 : V27 25 6 = y24 := by rw [hv28]; exact e25
      have e34 : V27 4 6 = y24 := by rw [hv28]; rfl
      have L44 : ∀ (N46 : Nat) (x35 : Int) (V37 : pm_M), (0 ≤ x35 ∧ x35 ≤ 60) → pm_ok 0 90 V37 → pm_fr [4, 5, 6, 7, 8, 9, 10, 11, 12, 13] V0 V37 → V37 25 1 = y1 → V37 4 1 = y20 → V37 25 6 = y24 → V37 4 6 = y24 → (Int.toNat (60 - x35)) = N46 → pm_J X 82 [(0, (3, 4)), (1, (3, 25)), (2, (0, x35))] [] 118 V37 := by
        intro N46
        induction N46 using Nat.strongRecOn with
        | _ N46 ih47 =>
        intro x35 V37 b36 hV38 hF39 e40 e41 e42 e43 hm45
        refine pm_iload_n hC 2 dX7_copyFrom_82 rfl ?_
        refine pm_aload_n hC 0 (by decide) dX7_copyFrom_83 rfl ?_
        refine pm_getf (v := y24) hC 4 fl_X7_32 rfl rfl (by decide) rfl e43 dX7_copyFrom_84 ?_
        refine pm_icmp_ge (tgt := 156) hC ⟨by omega, by omega⟩ ⟨by omega, by omega⟩ dX7_copyFrom_87 (by decide) (fun c48 => ?_) (fun c48 => ?_)
        · skip
          exact pm_vret hC hR ⟨rfl, hV38, hF39⟩ dX7_copyFrom_156
        · skip
          refine pm_aload_n hC 0 (by decide) dX7_copyFrom_90 rfl ?_
          have e49 : V37 4 7 = 9 := hV38.one 4 7 (by decide) (by decide) rfl
          refine pm_getf (v := 9) hC 4 fl_X7_35 rfl rfl (by decide) rfl e49 dX7_copyFrom_91 ?_
          refine pm_iload_n hC 2 dX7_copyFrom_94 rfl ?_
          refine pm_aload_n hC 1 (by decide) dX7_copyFrom_95 rfl ?_
          have e50 : V37 25 7 = 30 := hV38.one 25 7 (by decide) (by decide) rfl
          refine pm_getf (v := 30) hC 25 fl_X7_35 rfl rfl (by decide) rfl e50 dX7_copyFrom_96 ?_
          refine pm_iload_n hC 2 dX7_copyFrom_99 rfl ?_
          obtain ⟨y51, e52⟩ : ∃ y, V37 30 (x35 : Int).toNat = y := ⟨_, rfl⟩
          have b53 := hV38.get1 30 (x35 : Int).toNat (lo := 0) (hi := 999) (by decide) (show _ < 60 by omega) rfl
          rw [e52] at b53
          refine pm_iaload (len := 60) (v := y51) hC 30 rfl rfl (by decide) ⟨by omega, by omega⟩ (by decide) e52 dX7_copyFrom_100 ?_
          refine pm_iastore (len := 60) hC 9 rfl rfl (by decide) ⟨by omega, by omega⟩ (by decide) dX7_copyFrom_101 ?_
          refine pm_aload_n hC 0 (by decide) dX7_copyFrom_102 rfl ?_
          have e54 : V37 4 8 = 10 := hV38.one 4 8 (by decide) (by decide) rfl
          refine pm_getf (v := 10) hC 4 fl_X7_38 rfl rfl (by decide) rfl e54 dX7_copyFrom_103 ?_
          refine pm_iload_n hC 2 dX7_copyFrom_106 rfl ?_
          refine pm_aload_n hC 1 (by decide) dX7_copyFrom_107 rfl ?_
          have e55 : V37 25 8 = 31 := hV38.one 25 8 (by decide) (by decide) rfl
          refine pm_getf (v := 31) hC 25 fl_X7_38 rfl rfl (by decide) rfl e55 dX7_copyFrom_108 ?_
          refine pm_iload_n hC 2 dX7_copyFrom_111 rfl ?_
          obtain ⟨y56, e57⟩ : ∃ y, V37 31 (x35 : Int).toNat = y := ⟨_, rfl⟩
          have b58 := hV38.get 31 (x35 : Int).toNat (lo := 0) (hi := 99) (by decide) (show _ < 60 by omega) rfl
          rw [e57] at b58
          refine pm_iaload (len := 60) (v := y56) hC 31 rfl rfl (by decide) ⟨by omega, by omega⟩ (by decide) e57 dX7_copyFrom_112 ?_
          refine pm_iastore (len := 60) hC 10 rfl rfl (by decide) ⟨by omega, by omega⟩ (by decide) dX7_copyFrom_113 ?_
          refine pm_aload_n hC 0 (by decide) dX7_copyFrom_114 rfl ?_
          have e59 : V37 4 9 = 11 := hV38.one 4 9 (by decide) (by decide) rfl
          refine pm_getf (v := 11) hC 4 fl_X7_41 rfl rfl (by decide) rfl e59 dX7_copyFrom_115 ?_
          refine pm_iload_n hC 2 dX7_copyFrom_118 rfl ?_
          refine pm_aload_n hC 1 (by decide) dX7_copyFrom_119 rfl ?_
          have e60 : V37 25 9 = 32 := hV38.one 25 9 (by decide) (by decide) rfl
          refine pm_getf (v := 32) hC 25 fl_X7_41 rfl rfl (by decide) rfl e60 dX7_copyFrom_120 ?_
          refine pm_iload_n hC 2 dX7_copyFrom_123 rfl ?_
          obtain ⟨y61, e62⟩ : ∃ y, V37 32 (x35 : Int).toNat = y := ⟨_, rfl⟩
          have b63 := hV38.get 32 (x35 : Int).toNat (lo := (-99)) (hi := 99) (by decide) (show _ < 60 by omega) rfl
          rw [e62] at b63
          refine pm_iaload (len := 60) (v := y61) hC 32 rfl rfl (by decide) ⟨by omega, by omega⟩ (by decide) e62 dX7_copyFrom_124 ?_
          refine pm_iastore (len := 60) hC 11 rfl rfl (by decide) ⟨by omega, by omega⟩ (by decide) dX7_copyFrom_125 ?_
          refine pm_aload_n hC 0 (by decide) dX7_copyFrom_126 rfl ?_
          have e64 : V37 4 10 = 12 := hV38.one 4 10 (by decide) (by decide) rfl
          refine pm_getf (v := 12) hC 4 fl_X7_44 rfl rfl (by decide) rfl e64 dX7_copyFrom_127 ?_
          refine pm_iload_n hC 2 dX7_copyFrom_130 rfl ?_
          refine pm_aload_n hC 1 (by decide) dX7_copyFrom_131 rfl ?_
          have e65 : V37 25 10 = 33 := hV38.one 25 10 (by decide) (by decide) rfl
          refine pm_getf (v := 33) hC 25 fl_X7_44 rfl rfl (by decide) rfl e65 dX7_copyFrom_132 ?_
          refine pm_iload_n hC 2 dX7_copyFrom_135 rfl ?_
          obtain ⟨y66, e67⟩ : ∃ y, V37 33 (x35 : Int).toNat = y := ⟨_, rfl⟩
          have b68 := hV38.get 33 (x35 : Int).toNat (lo := 0) (hi := 8) (by decide) (show _ < 60 by omega) rfl
          rw [e67] at b68
          refine pm_iaload (len := 60) (v := y66) hC 33 rfl rfl (by decide) ⟨by omega, by omega⟩ (by decide) e67 dX7_copyFrom_136 ?_
          refine pm_iastore (len := 60) hC 12 rfl rfl (by decide) ⟨by omega, by omega⟩ (by decide) dX7_copyFrom_137 ?_
          refine pm_aload_n hC 0 (by decide) dX7_copyFrom_138 rfl ?_
          have e69 : V37 4 11 = 13 := hV38.one 4 11 (by decide) (by decide) rfl
          refine pm_getf (v := 13) hC 4 fl_X7_47 rfl rfl (by decide) rfl e69 dX7_copyFrom_139 ?_
          refine pm_iload_n hC 2 dX7_copyFrom_142 rfl ?_
          refine pm_aload_n hC 1 (by decide) dX7_copyFrom_143 rfl ?_
          have e70 : V37 25 11 = 34 := hV38.one 25 11 (by decide) (by decide) rfl
          refine pm_getf (v := 34) hC 25 fl_X7_47 rfl rfl (by decide) rfl e70 dX7_copyFrom_144 ?_
          refine pm_iload_n hC 2 dX7_copyFrom_147 rfl ?_
          obtain ⟨y71, e72⟩ : ∃ y, V37 34 (x35 : Int).toNat = y := ⟨_, rfl⟩
          have b73 := hV38.get 34 (x35 : Int).toNat (lo := 0) (hi := 1) (by decide) (show _ < 60 by omega) rfl
          rw [e72] at b73
          refine pm_zaload (len := 60) (v := y71) hC 34 rfl rfl (by decide) ⟨by omega, by omega⟩ (by decide) e72 dX7_copyFrom_148 ?_
          refine pm_zastore (len := 60) hC 13 rfl rfl (by decide) ⟨by omega, by omega⟩ (by decide) (by omega) dX7_copyFrom_149 ?_
          obtain ⟨x74, ei75⟩ : ∃ y : Int, x35 + 1 = y := ⟨_, rfl⟩
          refine pm_iinc (y := x74) (lv' := [(2, (0, x74)), (0, (3, 4)), (1, (3, 25))]) hC 2 dX7_copyFrom_150 (by decide) rfl ei75 rfl ?_
          refine pm_goto (tgt := 82) hC dX7_copyFrom_153 (by decide) ?_
          refine pm_lvsub [1, 2, 0] (lv' := [(0, (3, 4)), (1, (3, 25)), (2, (0, x74))]) rfl ?_
          exact ih47 _ (by omega) x74 (pm_up (pm_up (pm_up (pm_up (pm_up V37 9 (x35 : Int).toNat y51) 10 (x35 : Int).toNat y56) 11 (x35 : Int).toNat y61) 12 (x35 : Int).toNat y66) 13 (x35 : Int).toNat y71) ⟨by omega, by omega⟩ (((((hV38.put1 9 (x35 : Int).toNat (x := y51) (lo := 0) (hi := 999) rfl (by omega)).put 10 (x35 : Int).toNat (x := y56) (lo := 0) (hi := 99) rfl ⟨by omega, by omega⟩).put 11 (x35 : Int).toNat (x := y61) (lo := (-99)) (hi := 99) rfl ⟨by omega, by omega⟩).put 12 (x35 : Int).toNat (x := y66) (lo := 0) (hi := 8) rfl ⟨by omega, by omega⟩).put 13 (x35 : Int).toNat (x := y71) (lo := 0) (hi := 1) rfl ⟨by omega, by omega⟩) (((((hF39.up 9 (x35 : Int).toNat y51 rfl).up 10 (x35 : Int).toNat y56 rfl).up 11 (x35 : Int).toNat y61 rfl).up 12 (x35 : Int).toNat y66 rfl).up 13 (x35 : Int).toNat y71 rfl) e40 e41 e42 e43 rfl
      refine pm_lvsub [1, 2, 0] (lv' := [(0, (3, 4)), (1, (3, 25)), (2, (0, 0))]) rfl ?_
      exact L44 _ 0 V27 ⟨by decide, by decide⟩ hV29 hF30 e31 e32 e33 e34 rfl
    · skip
      refine pm_aload_n hC 0 (by decide) dX7_copyFrom_18 rfl ?_
      have e76 : V12 4 2 = 5 := hV13.one 4 2 (by decide) (by decide) rfl
      refine pm_getf (v := 5) hC 4 fl_X7_19 rfl rfl (by decide) rfl e76 dX7_copyFrom_19 ?_
      refine pm_iload_n hC 2 dX7_copyFrom_22 rfl ?_
      refine pm_aload_n hC 1 (by decide) dX7_copyFrom_23 rfl ?_
      have e77 : V12 25 2 = 26 := hV13.one 25 2 (by decide) (by decide) rfl
      refine pm_getf (v := 26) hC 25 fl_X7_19 rfl rfl (by decide) rfl e77 dX7_copyFrom_24 ?_
      refine pm_iload_n hC 2 dX7_copyFrom_27 rfl ?_
      obtain ⟨y78, e79⟩ : ∃ y, V12 26 (x10 : Int).toNat = y := ⟨_, rfl⟩
      have b80 := hV13.get 26 (x10 : Int).toNat (lo := (-30)) (hi := 30) (by decide) (show _ < 10 by omega) rfl
      rw [e79] at b80
      refine pm_iaload (len := 10) (v := y78) hC 26 rfl rfl (by decide) ⟨by omega, by omega⟩ (by decide) e79 dX7_copyFrom_28 ?_
      refine pm_iastore (len := 10) hC 5 rfl rfl (by decide) ⟨by omega, by omega⟩ (by decide) dX7_copyFrom_29 ?_
      refine pm_aload_n hC 0 (by decide) dX7_copyFrom_30 rfl ?_
      have e81 : V12 4 3 = 6 := hV13.one 4 3 (by decide) (by decide) rfl
      refine pm_getf (v := 6) hC 4 fl_X7_23 rfl rfl (by decide) rfl e81 dX7_copyFrom_31 ?_
      refine pm_iload_n hC 2 dX7_copyFrom_34 rfl ?_
      refine pm_aload_n hC 1 (by decide) dX7_copyFrom_35 rfl ?_
      have e82 : V12 25 3 = 27 := hV13.one 25 3 (by decide) (by decide) rfl
      refine pm_getf (v := 27) hC 25 fl_X7_23 rfl rfl (by decide) rfl e82 dX7_copyFrom_36 ?_
      refine pm_iload_n hC 2 dX7_copyFrom_39 rfl ?_
      obtain ⟨y83, e84⟩ : ∃ y, V12 27 (x10 : Int).toNat = y := ⟨_, rfl⟩
      have b85 := hV13.get 27 (x10 : Int).toNat (lo := (-30)) (hi := 30) (by decide) (show _ < 10 by omega) rfl
      rw [e84] at b85
      refine pm_iaload (len := 10) (v := y83) hC 27 rfl rfl (by decide) ⟨by omega, by omega⟩ (by decide) e84 dX7_copyFrom_40 ?_
      refine pm_iastore (len := 10) hC 6 rfl rfl (by decide) ⟨by omega, by omega⟩ (by decide) dX7_copyFrom_41 ?_
      refine pm_aload_n hC 0 (by decide) dX7_copyFrom_42 rfl ?_
      have e86 : V12 4 4 = 7 := hV13.one 4 4 (by decide) (by decide) rfl
      refine pm_getf (v := 7) hC 4 fl_X7_26 rfl rfl (by decide) rfl e86 dX7_copyFrom_43 ?_
      refine pm_iload_n hC 2 dX7_copyFrom_46 rfl ?_
      refine pm_aload_n hC 1 (by decide) dX7_copyFrom_47 rfl ?_
      have e87 : V12 25 4 = 28 := hV13.one 25 4 (by decide) (by decide) rfl
      refine pm_getf (v := 28) hC 25 fl_X7_26 rfl rfl (by decide) rfl e87 dX7_copyFrom_48 ?_
      refine pm_iload_n hC 2 dX7_copyFrom_51 rfl ?_
      obtain ⟨y88, e89⟩ : ∃ y, V12 28 (x10 : Int).toNat = y := ⟨_, rfl⟩
      have b90 := hV13.get 28 (x10 : Int).toNat (lo := 0) (hi := 16) (by decide) (show _ < 10 by omega) rfl
      rw [e89] at b90
      refine pm_iaload (len := 10) (v := y88) hC 28 rfl rfl (by decide) ⟨by omega, by omega⟩ (by decide) e89 dX7_copyFrom_52 ?_
      refine pm_iastore (len := 10) hC 7 rfl rfl (by decide) ⟨by omega, by omega⟩ (by decide) dX7_copyFrom_53 ?_
      refine pm_aload_n hC 0 (by decide) dX7_copyFrom_54 rfl ?_
      have e91 : V12 4 5 = 8 := hV13.one 4 5 (by decide) (by decide) rfl
      refine pm_getf (v := 8) hC 4 fl_X7_29 rfl rfl (by decide) rfl e91 dX7_copyFrom_55 ?_
      refine pm_iload_n hC 2 dX7_copyFrom_58 rfl ?_
      refine pm_aload_n hC 1 (by decide) dX7_copyFrom_59 rfl ?_
      have e92 : V12 25 5 = 29 := hV13.one 25 5 (by decide) (by decide) rfl
      refine pm_getf (v := 29) hC 25 fl_X7_29 rfl rfl (by decide) rfl e92 dX7_copyFrom_60 ?_
      refine pm_iload_n hC 2 dX7_copyFrom_63 rfl ?_
      obtain ⟨y93, e94⟩ : ∃ y, V12 29 (x10 : Int).toNat = y := ⟨_, rfl⟩
      have b95 := hV13.get 29 (x10 : Int).toNat (lo := 0) (hi := 3) (by decide) (show _ < 10 by omega) rfl
      rw [e94] at b95
      refine pm_iaload (len := 10) (v := y93) hC 29 rfl rfl (by decide) ⟨by omega, by omega⟩ (by decide) e94 dX7_copyFrom_64 ?_
      refine pm_iastore (len := 10) hC 8 rfl rfl (by decide) ⟨by omega, by omega⟩ (by decide) dX7_copyFrom_65 ?_
      obtain ⟨x96, ei97⟩ : ∃ y : Int, x10 + 1 = y := ⟨_, rfl⟩
      refine pm_iinc (y := x96) (lv' := [(2, (0, x96)), (0, (3, 4)), (1, (3, 25))]) hC 2 dX7_copyFrom_66 (by decide) rfl ei97 rfl ?_
      refine pm_goto (tgt := 10) hC dX7_copyFrom_69 (by decide) ?_
      refine pm_lvsub [1, 2, 0] (lv' := [(0, (3, 4)), (1, (3, 25)), (2, (0, x96))]) rfl ?_
      exact ih19 _ (by omega) x96 (pm_up (pm_up (pm_up (pm_up V12 5 (x10 : Int).toNat y78) 6 (x10 : Int).toNat y83) 7 (x10 : Int).toNat y88) 8 (x10 : Int).toNat y93) ⟨by omega, by omega⟩ ((((hV13.put 5 (x10 : Int).toNat (x := y78) (lo := (-30)) (hi := 30) rfl ⟨by omega, by omega⟩).put 6 (x10 : Int).toNat (x := y83) (lo := (-30)) (hi := 30) rfl ⟨by omega, by omega⟩).put 7 (x10 : Int).toNat (x := y88) (lo := 0) (hi := 16) rfl ⟨by omega, by omega⟩).put 8 (x10 : Int).toNat (x := y93) (lo := 0) (hi := 3) rfl ⟨by omega, by omega⟩) ((((hF14.up 5 (x10 : Int).toNat y78 rfl).up 6 (x10 : Int).toNat y83 rfl).up 7 (x10 : Int).toNat y88 rfl).up 8 (x10 : Int).toNat y93 rfl) e15 rfl
  refine pm_lvsub [1, 2, 0] (lv' := [(0, (3, 4)), (1, (3, 25)), (2, (0, 0))]) rfl ?_
  exact L16 _ 0 V4 ⟨by decide, by decide⟩ hV6 hF7 e8 rfl
set_option maxHeartbeats 4000000 in
set_option maxRecDepth 100000 in
theorem c_X7_copyFrom_4_35  : pm_K 1 yX7_copyFrom cX7_copyFrom 3 none (fun av V => av = [(3, 4), (3, 35)] ∧ pm_ok 0 90 V) (fun _ V r V' => r = none ∧ pm_ok 0 90 V' ∧ pm_fr [4, 5, 6, 7, 8, 9, 10, 11, 12, 13] V V') := by
  refine pm_MT.of (by decide) ⟨Nat.le_refl _, by decide⟩ (fun av V h => by rw [h.1]; exact (by decide : pm_words [(3, 0), (3, 0)] ≤ 3)) ?_
  rintro X av V0 hC - hR ⟨rfl, hV0⟩
  change pm_J X 0 [(0, (3, 4)), (1, (3, 35))] [] 118 V0
  refine pm_aload_n hC 0 (by decide) dX7_copyFrom_0 rfl ?_
  refine pm_aload_n hC 1 (by decide) dX7_copyFrom_1 rfl ?_
  obtain ⟨y1, e2⟩ : ∃ y, V0 35 1 = y := ⟨_, rfl⟩
  have b3 := hV0.get 35 1 (lo := 0) (hi := 10) (by decide) (by decide) rfl
  rw [e2] at b3
  refine pm_getf (v := y1) hC 35 fl_X7_15 rfl rfl (by decide) rfl e2 dX7_copyFrom_2 ?_
  refine pm_putf hC 4 fl_X7_15 rfl rfl rfl (by decide) rfl trivial dX7_copyFrom_5 ?_
  refine pm_iconst (v := 0) hC dX7_copyFrom_8 ?_
  refine pm_istore_n (lv' := [(2, (0, 0)), (0, (3, 4)), (1, (3, 35))]) hC dX7_copyFrom_9 (by decide) rfl ?_
  have hV6 := (hV0.put 4 1 (x := y1) (lo := 0) (hi := 10) rfl ⟨by omega, by omega⟩)
  have hF7 := ((pm_fr.rf (ws := [4, 5, 6, 7, 8, 9, 10, 11, 12, 13]) (V := V0)).up 4 1 y1 rfl)
  obtain ⟨V4, hv5⟩ : ∃ V, V = (pm_up V0 4 1 y1) := ⟨_, rfl⟩
  rw [← hv5] at hV6 hF7
  rw [← hv5]
  have e8 : V4 35 1 = y1 := by rw [hv5]; exact e2
  have e9 : V4 4 1 = y1 := by rw [hv5]; rfl
  have L16 : ∀ (N18 : Nat) (x10 : Int) (V12 : pm_M), (0 ≤ x10 ∧ x10 ≤ 16) → pm_ok 0 90 V12 → pm_fr [4, 5, 6, 7, 8, 9, 10, 11, 12, 13] V0 V12 → V12 35 1 = y1 → (Int.toNat (16 - x10)) = N18 → pm_J X 10 [(0, (3, 4)), (1, (3, 35)), (2, (0, x10))] [] 118 V12 := by
    intro N18
    induction N18 using Nat.strongRecOn with
    | _ N18 ih19 =>
    intro x10 V12 b11 hV13 hF14 e15 hm17
    refine pm_iload_n hC 2 dX7_copyFrom_10 rfl ?_
    refine pm_aload_n hC 0 (by decide) dX7_copyFrom_11 rfl ?_
    obtain ⟨y20, e21⟩ : ∃ y, V12 4 1 = y := ⟨_, rfl⟩
    have b22 := hV13.get 4 1 (lo := 0) (hi := 10) (by decide) (by decide) rfl
    rw [e21] at b22
    refine pm_getf (v := y20) hC 4 fl_X7_15 rfl rfl (by decide) rfl e21 dX7_copyFrom_12 ?_
    refine pm_icmp_ge (tgt := 72) hC ⟨by omega, by omega⟩ ⟨by omega, by omega⟩ dX7_copyFrom_15 (by decide) (fun c23 => ?_) (fun c23 => ?_)
    · skip
      refine pm_aload_n hC 0 (by decide) dX7_copyFrom_72 rfl ?_
      refine pm_aload_n hC 1 (by decide) dX7_copyFrom_73 rfl ?_
      obtain ⟨y24, e25⟩ : ∃ y, V12 35 6 = y := ⟨_, rfl⟩
      have b26 := hV13.get 35 6 (lo := 0) (hi := 60) (by decide) (by decide) rfl
      rw [e25] at b26
      refine pm_getf (v := y24) hC 35 fl_X7_32 rfl rfl (by decide) rfl e25 dX7_copyFrom_74 ?_
      refine pm_putf hC 4 fl_X7_32 rfl rfl rfl (by decide) rfl trivial dX7_copyFrom_77 ?_
      refine pm_iconst (v := 0) hC dX7_copyFrom_80 ?_
      refine pm_istore_n (lv' := [(2, (0, 0)), (0, (3, 4)), (1, (3, 35))]) hC dX7_copyFrom_81 (by decide) rfl ?_
      have hV29 := (hV13.put 4 6 (x := y24) (lo := 0) (hi := 60) rfl ⟨by omega, by omega⟩)
      have hF30 := (hF14.up 4 6 y24 rfl)
      obtain ⟨V27, hv28⟩ : ∃ V, V = (pm_up V12 4 6 y24) := ⟨_, rfl⟩
      rw [← hv28] at hV29 hF30
      rw [← hv28]
      have e31 : V27 35 1 = y1 := by rw [hv28]; exact e15
      have e32 : V27 4 1 = y20 := by rw [hv28]; exact e21
      have e33 : V27 35 6 = y24 := by rw [hv28]; exact e25
      have e34 : V27 4 6 = y24 := by rw [hv28]; rfl
      have L44 : ∀ (N46 : Nat) (x35 : Int) (V37 : pm_M), (0 ≤ x35 ∧ x35 ≤ 60) → pm_ok 0 90 V37 → pm_fr [4, 5, 6, 7, 8, 9, 10, 11, 12, 13] V0 V37 → V37 35 1 = y1 → V37 4 1 = y20 → V37 35 6 = y24 → V37 4 6 = y24 → (Int.toNat (60 - x35)) = N46 → pm_J X 82 [(0, (3, 4)), (1, (3, 35)), (2, (0, x35))] [] 118 V37 := by
        intro N46
        induction N46 using Nat.strongRecOn with
        | _ N46 ih47 =>
        intro x35 V37 b36 hV38 hF39 e40 e41 e42 e43 hm45
        refine pm_iload_n hC 2 dX7_copyFrom_82 rfl ?_
        refine pm_aload_n hC 0 (by decide) dX7_copyFrom_83 rfl ?_
        refine pm_getf (v := y24) hC 4 fl_X7_32 rfl rfl (by decide) rfl e43 dX7_copyFrom_84 ?_
        refine pm_icmp_ge (tgt := 156) hC ⟨by omega, by omega⟩ ⟨by omega, by omega⟩ dX7_copyFrom_87 (by decide) (fun c48 => ?_) (fun c48 => ?_)
        · skip
          exact pm_vret hC hR ⟨rfl, hV38, hF39⟩ dX7_copyFrom_156
        · skip
          refine pm_aload_n hC 0 (by decide) dX7_copyFrom_90 rfl ?_
          have e49 : V37 4 7 = 9 := hV38.one 4 7 (by decide) (by decide) rfl
          refine pm_getf (v := 9) hC 4 fl_X7_35 rfl rfl (by decide) rfl e49 dX7_copyFrom_91 ?_
          refine pm_iload_n hC 2 dX7_copyFrom_94 rfl ?_
          refine pm_aload_n hC 1 (by decide) dX7_copyFrom_95 rfl ?_
          have e50 : V37 35 7 = 40 := hV38.one 35 7 (by decide) (by decide) rfl
          refine pm_getf (v := 40) hC 35 fl_X7_35 rfl rfl (by decide) rfl e50 dX7_copyFrom_96 ?_
          refine pm_iload_n hC 2 dX7_copyFrom_99 rfl ?_
          obtain ⟨y51, e52⟩ : ∃ y, V37 40 (x35 : Int).toNat = y := ⟨_, rfl⟩
          have b53 := hV38.get1 40 (x35 : Int).toNat (lo := 0) (hi := 999) (by decide) (show _ < 60 by omega) rfl
          rw [e52] at b53
          refine pm_iaload (len := 60) (v := y51) hC 40 rfl rfl (by decide) ⟨by omega, by omega⟩ (by decide) e52 dX7_copyFrom_100 ?_
          refine pm_iastore (len := 60) hC 9 rfl rfl (by decide) ⟨by omega, by omega⟩ (by decide) dX7_copyFrom_101 ?_
          refine pm_aload_n hC 0 (by decide) dX7_copyFrom_102 rfl ?_
          have e54 : V37 4 8 = 10 := hV38.one 4 8 (by decide) (by decide) rfl
          refine pm_getf (v := 10) hC 4 fl_X7_38 rfl rfl (by decide) rfl e54 dX7_copyFrom_103 ?_
          refine pm_iload_n hC 2 dX7_copyFrom_106 rfl ?_
          refine pm_aload_n hC 1 (by decide) dX7_copyFrom_107 rfl ?_
          have e55 : V37 35 8 = 41 := hV38.one 35 8 (by decide) (by decide) rfl
          refine pm_getf (v := 41) hC 35 fl_X7_38 rfl rfl (by decide) rfl e55 dX7_copyFrom_108 ?_
          refine pm_iload_n hC 2 dX7_copyFrom_111 rfl ?_
          obtain ⟨y56, e57⟩ : ∃ y, V37 41 (x35 : Int).toNat = y := ⟨_, rfl⟩
          have b58 := hV38.get 41 (x35 : Int).toNat (lo := 0) (hi := 99) (by decide) (show _ < 60 by omega) rfl
          rw [e57] at b58
          refine pm_iaload (len := 60) (v := y56) hC 41 rfl rfl (by decide) ⟨by omega, by omega⟩ (by decide) e57 dX7_copyFrom_112 ?_
          refine pm_iastore (len := 60) hC 10 rfl rfl (by decide) ⟨by omega, by omega⟩ (by decide) dX7_copyFrom_113 ?_
          refine pm_aload_n hC 0 (by decide) dX7_copyFrom_114 rfl ?_
          have e59 : V37 4 9 = 11 := hV38.one 4 9 (by decide) (by decide) rfl
          refine pm_getf (v := 11) hC 4 fl_X7_41 rfl rfl (by decide) rfl e59 dX7_copyFrom_115 ?_
          refine pm_iload_n hC 2 dX7_copyFrom_118 rfl ?_
          refine pm_aload_n hC 1 (by decide) dX7_copyFrom_119 rfl ?_
          have e60 : V37 35 9 = 42 := hV38.one 35 9 (by decide) (by decide) rfl
          refine pm_getf (v := 42) hC 35 fl_X7_41 rfl rfl (by decide) rfl e60 dX7_copyFrom_120 ?_
          refine pm_iload_n hC 2 dX7_copyFrom_123 rfl ?_
          obtain ⟨y61, e62⟩ : ∃ y, V37 42 (x35 : Int).toNat = y := ⟨_, rfl⟩
          have b63 := hV38.get 42 (x35 : Int).toNat (lo := (-99)) (hi := 99) (by decide) (show _ < 60 by omega) rfl
          rw [e62] at b63
          refine pm_iaload (len := 60) (v := y61) hC 42 rfl rfl (by decide) ⟨by omega, by omega⟩ (by decide) e62 dX7_copyFrom_124 ?_
          refine pm_iastore (len := 60) hC 11 rfl rfl (by decide) ⟨by omega, by omega⟩ (by decide) dX7_copyFrom_125 ?_
          refine pm_aload_n hC 0 (by decide) dX7_copyFrom_126 rfl ?_
          have e64 : V37 4 10 = 12 := hV38.one 4 10 (by decide) (by decide) rfl
          refine pm_getf (v := 12) hC 4 fl_X7_44 rfl rfl (by decide) rfl e64 dX7_copyFrom_127 ?_
          refine pm_iload_n hC 2 dX7_copyFrom_130 rfl ?_
          refine pm_aload_n hC 1 (by decide) dX7_copyFrom_131 rfl ?_
          have e65 : V37 35 10 = 43 := hV38.one 35 10 (by decide) (by decide) rfl
          refine pm_getf (v := 43) hC 35 fl_X7_44 rfl rfl (by decide) rfl e65 dX7_copyFrom_132 ?_
          refine pm_iload_n hC 2 dX7_copyFrom_135 rfl ?_
          obtain ⟨y66, e67⟩ : ∃ y, V37 43 (x35 : Int).toNat = y := ⟨_, rfl⟩
          have b68 := hV38.get 43 (x35 : Int).toNat (lo := 0) (hi := 8) (by decide) (show _ < 60 by omega) rfl
          rw [e67] at b68
          refine pm_iaload (len := 60) (v := y66) hC 43 rfl rfl (by decide) ⟨by omega, by omega⟩ (by decide) e67 dX7_copyFrom_136 ?_
          refine pm_iastore (len := 60) hC 12 rfl rfl (by decide) ⟨by omega, by omega⟩ (by decide) dX7_copyFrom_137 ?_
          refine pm_aload_n hC 0 (by decide) dX7_copyFrom_138 rfl ?_
          have e69 : V37 4 11 = 13 := hV38.one 4 11 (by decide) (by decide) rfl
          refine pm_getf (v := 13) hC 4 fl_X7_47 rfl rfl (by decide) rfl e69 dX7_copyFrom_139 ?_
          refine pm_iload_n hC 2 dX7_copyFrom_142 rfl ?_
          refine pm_aload_n hC 1 (by decide) dX7_copyFrom_143 rfl ?_
          have e70 : V37 35 11 = 44 := hV38.one 35 11 (by decide) (by decide) rfl
          refine pm_getf (v := 44) hC 35 fl_X7_47 rfl rfl (by decide) rfl e70 dX7_copyFrom_144 ?_
          refine pm_iload_n hC 2 dX7_copyFrom_147 rfl ?_
          obtain ⟨y71, e72⟩ : ∃ y, V37 44 (x35 : Int).toNat = y := ⟨_, rfl⟩
          have b73 := hV38.get 44 (x35 : Int).toNat (lo := 0) (hi := 1) (by decide) (show _ < 60 by omega) rfl
          rw [e72] at b73
          refine pm_zaload (len := 60) (v := y71) hC 44 rfl rfl (by decide) ⟨by omega, by omega⟩ (by decide) e72 dX7_copyFrom_148 ?_
          refine pm_zastore (len := 60) hC 13 rfl rfl (by decide) ⟨by omega, by omega⟩ (by decide) (by omega) dX7_copyFrom_149 ?_
          obtain ⟨x74, ei75⟩ : ∃ y : Int, x35 + 1 = y := ⟨_, rfl⟩
          refine pm_iinc (y := x74) (lv' := [(2, (0, x74)), (0, (3, 4)), (1, (3, 35))]) hC 2 dX7_copyFrom_150 (by decide) rfl ei75 rfl ?_
          refine pm_goto (tgt := 82) hC dX7_copyFrom_153 (by decide) ?_
          refine pm_lvsub [1, 2, 0] (lv' := [(0, (3, 4)), (1, (3, 35)), (2, (0, x74))]) rfl ?_
          exact ih47 _ (by omega) x74 (pm_up (pm_up (pm_up (pm_up (pm_up V37 9 (x35 : Int).toNat y51) 10 (x35 : Int).toNat y56) 11 (x35 : Int).toNat y61) 12 (x35 : Int).toNat y66) 13 (x35 : Int).toNat y71) ⟨by omega, by omega⟩ (((((hV38.put1 9 (x35 : Int).toNat (x := y51) (lo := 0) (hi := 999) rfl (by omega)).put 10 (x35 : Int).toNat (x := y56) (lo := 0) (hi := 99) rfl ⟨by omega, by omega⟩).put 11 (x35 : Int).toNat (x := y61) (lo := (-99)) (hi := 99) rfl ⟨by omega, by omega⟩).put 12 (x35 : Int).toNat (x := y66) (lo := 0) (hi := 8) rfl ⟨by omega, by omega⟩).put 13 (x35 : Int).toNat (x := y71) (lo := 0) (hi := 1) rfl ⟨by omega, by omega⟩) (((((hF39.up 9 (x35 : Int).toNat y51 rfl).up 10 (x35 : Int).toNat y56 rfl).up 11 (x35 : Int).toNat y61 rfl).up 12 (x35 : Int).toNat y66 rfl).up 13 (x35 : Int).toNat y71 rfl) e40 e41 e42 e43 rfl
      refine pm_lvsub [1, 2, 0] (lv' := [(0, (3, 4)), (1, (3, 35)), (2, (0, 0))]) rfl ?_
      exact L44 _ 0 V27 ⟨by decide, by decide⟩ hV29 hF30 e31 e32 e33 e34 rfl
    · skip
      refine pm_aload_n hC 0 (by decide) dX7_copyFrom_18 rfl ?_
      have e76 : V12 4 2 = 5 := hV13.one 4 2 (by decide) (by decide) rfl
      refine pm_getf (v := 5) hC 4 fl_X7_19 rfl rfl (by decide) rfl e76 dX7_copyFrom_19 ?_
      refine pm_iload_n hC 2 dX7_copyFrom_22 rfl ?_
      refine pm_aload_n hC 1 (by decide) dX7_copyFrom_23 rfl ?_
      have e77 : V12 35 2 = 36 := hV13.one 35 2 (by decide) (by decide) rfl
      refine pm_getf (v := 36) hC 35 fl_X7_19 rfl rfl (by decide) rfl e77 dX7_copyFrom_24 ?_
      refine pm_iload_n hC 2 dX7_copyFrom_27 rfl ?_
      obtain ⟨y78, e79⟩ : ∃ y, V12 36 (x10 : Int).toNat = y := ⟨_, rfl⟩
      have b80 := hV13.get 36 (x10 : Int).toNat (lo := (-30)) (hi := 30) (by decide) (show _ < 10 by omega) rfl
      rw [e79] at b80
      refine pm_iaload (len := 10) (v := y78) hC 36 rfl rfl (by decide) ⟨by omega, by omega⟩ (by decide) e79 dX7_copyFrom_28 ?_
      refine pm_iastore (len := 10) hC 5 rfl rfl (by decide) ⟨by omega, by omega⟩ (by decide) dX7_copyFrom_29 ?_
      refine pm_aload_n hC 0 (by decide) dX7_copyFrom_30 rfl ?_
      have e81 : V12 4 3 = 6 := hV13.one 4 3 (by decide) (by decide) rfl
      refine pm_getf (v := 6) hC 4 fl_X7_23 rfl rfl (by decide) rfl e81 dX7_copyFrom_31 ?_
      refine pm_iload_n hC 2 dX7_copyFrom_34 rfl ?_
      refine pm_aload_n hC 1 (by decide) dX7_copyFrom_35 rfl ?_
      have e82 : V12 35 3 = 37 := hV13.one 35 3 (by decide) (by decide) rfl
      refine pm_getf (v := 37) hC 35 fl_X7_23 rfl rfl (by decide) rfl e82 dX7_copyFrom_36 ?_
      refine pm_iload_n hC 2 dX7_copyFrom_39 rfl ?_
      obtain ⟨y83, e84⟩ : ∃ y, V12 37 (x10 : Int).toNat = y := ⟨_, rfl⟩
      have b85 := hV13.get 37 (x10 : Int).toNat (lo := (-30)) (hi := 30) (by decide) (show _ < 10 by omega) rfl
      rw [e84] at b85
      refine pm_iaload (len := 10) (v := y83) hC 37 rfl rfl (by decide) ⟨by omega, by omega⟩ (by decide) e84 dX7_copyFrom_40 ?_
      refine pm_iastore (len := 10) hC 6 rfl rfl (by decide) ⟨by omega, by omega⟩ (by decide) dX7_copyFrom_41 ?_
      refine pm_aload_n hC 0 (by decide) dX7_copyFrom_42 rfl ?_
      have e86 : V12 4 4 = 7 := hV13.one 4 4 (by decide) (by decide) rfl
      refine pm_getf (v := 7) hC 4 fl_X7_26 rfl rfl (by decide) rfl e86 dX7_copyFrom_43 ?_
      refine pm_iload_n hC 2 dX7_copyFrom_46 rfl ?_
      refine pm_aload_n hC 1 (by decide) dX7_copyFrom_47 rfl ?_
      have e87 : V12 35 4 = 38 := hV13.one 35 4 (by decide) (by decide) rfl
      refine pm_getf (v := 38) hC 35 fl_X7_26 rfl rfl (by decide) rfl e87 dX7_copyFrom_48 ?_
      refine pm_iload_n hC 2 dX7_copyFrom_51 rfl ?_
      obtain ⟨y88, e89⟩ : ∃ y, V12 38 (x10 : Int).toNat = y := ⟨_, rfl⟩
      have b90 := hV13.get 38 (x10 : Int).toNat (lo := 0) (hi := 16) (by decide) (show _ < 10 by omega) rfl
      rw [e89] at b90
      refine pm_iaload (len := 10) (v := y88) hC 38 rfl rfl (by decide) ⟨by omega, by omega⟩ (by decide) e89 dX7_copyFrom_52 ?_
      refine pm_iastore (len := 10) hC 7 rfl rfl (by decide) ⟨by omega, by omega⟩ (by decide) dX7_copyFrom_53 ?_
      refine pm_aload_n hC 0 (by decide) dX7_copyFrom_54 rfl ?_
      have e91 : V12 4 5 = 8 := hV13.one 4 5 (by decide) (by decide) rfl
      refine pm_getf (v := 8) hC 4 fl_X7_29 rfl rfl (by decide) rfl e91 dX7_copyFrom_55 ?_
      refine pm_iload_n hC 2 dX7_copyFrom_58 rfl ?_
      refine pm_aload_n hC 1 (by decide) dX7_copyFrom_59 rfl ?_
      have e92 : V12 35 5 = 39 := hV13.one 35 5 (by decide) (by decide) rfl
      refine pm_getf (v := 39) hC 35 fl_X7_29 rfl rfl (by decide) rfl e92 dX7_copyFrom_60 ?_
      refine pm_iload_n hC 2 dX7_copyFrom_63 rfl ?_
      obtain ⟨y93, e94⟩ : ∃ y, V12 39 (x10 : Int).toNat = y := ⟨_, rfl⟩
      have b95 := hV13.get 39 (x10 : Int).toNat (lo := 0) (hi := 3) (by decide) (show _ < 10 by omega) rfl
      rw [e94] at b95
      refine pm_iaload (len := 10) (v := y93) hC 39 rfl rfl (by decide) ⟨by omega, by omega⟩ (by decide) e94 dX7_copyFrom_64 ?_
      refine pm_iastore (len := 10) hC 8 rfl rfl (by decide) ⟨by omega, by omega⟩ (by decide) dX7_copyFrom_65 ?_
      obtain ⟨x96, ei97⟩ : ∃ y : Int, x10 + 1 = y := ⟨_, rfl⟩
      refine pm_iinc (y := x96) (lv' := [(2, (0, x96)), (0, (3, 4)), (1, (3, 35))]) hC 2 dX7_copyFrom_66 (by decide) rfl ei97 rfl ?_
      refine pm_goto (tgt := 10) hC dX7_copyFrom_69 (by decide) ?_
      refine pm_lvsub [1, 2, 0] (lv' := [(0, (3, 4)), (1, (3, 35)), (2, (0, x96))]) rfl ?_
      exact ih19 _ (by omega) x96 (pm_up (pm_up (pm_up (pm_up V12 5 (x10 : Int).toNat y78) 6 (x10 : Int).toNat y83) 7 (x10 : Int).toNat y88) 8 (x10 : Int).toNat y93) ⟨by omega, by omega⟩ ((((hV13.put 5 (x10 : Int).toNat (x := y78) (lo := (-30)) (hi := 30) rfl ⟨by omega, by omega⟩).put 6 (x10 : Int).toNat (x := y83) (lo := (-30)) (hi := 30) rfl ⟨by omega, by omega⟩).put 7 (x10 : Int).toNat (x := y88) (lo := 0) (hi := 16) rfl ⟨by omega, by omega⟩).put 8 (x10 : Int).toNat (x := y93) (lo := 0) (hi := 3) rfl ⟨by omega, by omega⟩) ((((hF14.up 5 (x10 : Int).toNat y78 rfl).up 6 (x10 : Int).toNat y83 rfl).up 7 (x10 : Int).toNat y88 rfl).up 8 (x10 : Int).toNat y93 rfl) e15 rfl
  refine pm_lvsub [1, 2, 0] (lv' := [(0, (3, 4)), (1, (3, 35)), (2, (0, 0))]) rfl ?_
  exact L16 _ 0 V4 ⟨by decide, by decide⟩ hV6 hF7 e8 rfl
set_option maxHeartbeats 4000000 in
set_option maxRecDepth 100000 in
theorem c_X11_back_0 (a1 : Int) (h0 : (-2147483648) ≤ a1 ∧ a1 ≤ 2147483647) : pm_K 2 yX11_back cX11_back 2 (some .boolean) (fun av V => av = [(3, 0), (0, a1)] ∧ pm_ok 0 90 V) (fun _ V r V' => ∃ y, r = some (0, y) ∧ (0 ≤ y ∧ y ≤ 1) ∧ pm_ok 0 90 V' ∧ pm_fr [4, 5, 6, 7, 8, 9, 10, 11, 12, 13] V V') := by
  refine pm_MT.of (by decide) ⟨Nat.le_refl _, by decide⟩ (fun av V h => by rw [h.1]; exact (by decide : pm_words [(3, 0), (0, 0)] ≤ 2)) ?_
  rintro X av V0 hC - hR ⟨rfl, hV0⟩
  change pm_J X 0 [(0, (3, 0)), (1, (0, a1))] [] 118 V0
  refine pm_iload_n hC 1 dX11_back_0 rfl ?_
  refine pm_if_lt (tgt := 21) hC ⟨by omega, by omega⟩ dX11_back_1 (by decide) (fun c1 => ?_) (fun c1 => ?_)
  · skip
    refine pm_iconst (v := 0) hC dX11_back_21 ?_
    exact pm_iret hC hR (pm_narZ (by omega)) ⟨0, rfl, ⟨by omega, by omega⟩, hV0, (pm_fr.rf (ws := [4, 5, 6, 7, 8, 9, 10, 11, 12, 13]) (V := V0))⟩ dX11_back_22
  · skip
    refine pm_iload_n hC 1 dX11_back_4 rfl ?_
    refine pm_iconst (v := 3) hC dX11_back_5 ?_
    refine pm_icmp_ge (tgt := 21) hC ⟨by omega, by omega⟩ ⟨by decide, by decide⟩ dX11_back_6 (by decide) (fun c2 => ?_) (fun c2 => ?_)
    · skip
      refine pm_iconst (v := 0) hC dX11_back_21 ?_
      exact pm_iret hC hR (pm_narZ (by omega)) ⟨0, rfl, ⟨by omega, by omega⟩, hV0, (pm_fr.rf (ws := [4, 5, 6, 7, 8, 9, 10, 11, 12, 13]) (V := V0))⟩ dX11_back_22
    · skip
      refine pm_aload_n hC 0 (by decide) dX11_back_9 rfl ?_
      have e3 : V0 0 4 = 14 := hV0.one 0 4 (by decide) (by decide) rfl
      refine pm_getf (v := 14) hC 0 fl_X11_28 rfl rfl (by decide) rfl e3 dX11_back_10 ?_
      refine pm_iload_n hC 1 dX11_back_13 rfl ?_
      rcases (show a1 = (0 : Int) ∨ a1 = (1 : Int) ∨ a1 = (2 : Int) by omega) with hk | hk | hk
      · skip
        have e4 : V0 14 (a1 : Int).toNat = 15 := by rw [hk]; exact hV0.one 14 0 (by decide) (by decide) rfl
        refine pm_aaload (len := 3) (v := 15) hC 14 rfl rfl (by decide) ⟨by omega, by omega⟩ (by decide) e4 dX11_back_14 ?_
        obtain ⟨y5, e6⟩ : ∃ y, V0 15 0 = y := ⟨_, rfl⟩
        have b7 := hV0.get 15 0 (lo := 0) (hi := 1) (by decide) (by decide) rfl
        rw [e6] at b7
        refine pm_getf (v := y5) hC 15 fl_X11_132 rfl rfl (by decide) rfl e6 dX11_back_15 ?_
        refine pm_if_ne (tgt := 23) hC ⟨by omega, by omega⟩ dX11_back_18 (by decide) (fun c8 => ?_) (fun c8 => ?_)
        · skip
          refine pm_aload_n hC 0 (by decide) dX11_back_23 rfl ?_
          have e9 : V0 0 3 = 4 := hV0.one 0 3 (by decide) (by decide) rfl
          refine pm_getf (v := 4) hC 0 fl_X11_24 rfl rfl (by decide) rfl e9 dX11_back_24 ?_
          refine pm_aload_n hC 0 (by decide) dX11_back_27 rfl ?_
          refine pm_getf (v := 14) hC 0 fl_X11_28 rfl rfl (by decide) rfl e3 dX11_back_28 ?_
          refine pm_iload_n hC 1 dX11_back_31 rfl ?_
          rcases (show a1 = (0 : Int) ∨ a1 = (1 : Int) ∨ a1 = (2 : Int) by omega) with hk | hk | hk
          · skip
            have e10 : V0 14 (a1 : Int).toNat = 15 := by rw [hk]; exact hV0.one 14 0 (by decide) (by decide) rfl
            refine pm_aaload (len := 3) (v := 15) hC 14 rfl rfl (by decide) ⟨by omega, by omega⟩ (by decide) e10 dX11_back_32 ?_
            refine pm_callV (ci := 7) (as := [(3, 15)]) (st := []) hC 4 c_X7_copyFrom_4_15 lm_X11_335 li_X7_copyFrom (by decide) (by decide) rfl rfl rfl (by decide) rfl rfl (Nat.le_of_ble_eq_true rfl) ⟨Nat.le_refl _, Or.inl rfl⟩ dX11_back_33 ⟨rfl, hV0⟩ (fun r11 V12 hp13 => ?_)
            obtain ⟨rfl, hV14, hF15⟩ := hp13
            change pm_J X 36 [(0, (3, 0)), (1, (0, a1))] [] 118 V12
            have hF16 := pm_fr.tr (pm_fr.rf (ws := [4, 5, 6, 7, 8, 9, 10, 11, 12, 13]) (V := V0)) hF15 (by decide)
            have e17 : V12 0 4 = 14 := by rw [hF15 0 (by decide)]; exact e3
            have e18 : V12 15 0 = y5 := by rw [hF15 15 (by decide)]; exact e6
            have e19 : V12 0 3 = 4 := by rw [hF15 0 (by decide)]; exact e9
            refine pm_iconst (v := 1) hC dX11_back_36 ?_
            exact pm_iret hC hR (pm_narZ (by omega)) ⟨1, rfl, ⟨by omega, by omega⟩, hV14, hF16⟩ dX11_back_37
          · skip
            have e20 : V0 14 (a1 : Int).toNat = 25 := by rw [hk]; exact hV0.one 14 1 (by decide) (by decide) rfl
            refine pm_aaload (len := 3) (v := 25) hC 14 rfl rfl (by decide) ⟨by omega, by omega⟩ (by decide) e20 dX11_back_32 ?_
            refine pm_callV (ci := 7) (as := [(3, 25)]) (st := []) hC 4 c_X7_copyFrom_4_25 lm_X11_335 li_X7_copyFrom (by decide) (by decide) rfl rfl rfl (by decide) rfl rfl (Nat.le_of_ble_eq_true rfl) ⟨Nat.le_refl _, Or.inl rfl⟩ dX11_back_33 ⟨rfl, hV0⟩ (fun r21 V22 hp23 => ?_)
            obtain ⟨rfl, hV24, hF25⟩ := hp23
            change pm_J X 36 [(0, (3, 0)), (1, (0, a1))] [] 118 V22
            have hF26 := pm_fr.tr (pm_fr.rf (ws := [4, 5, 6, 7, 8, 9, 10, 11, 12, 13]) (V := V0)) hF25 (by decide)
            have e27 : V22 0 4 = 14 := by rw [hF25 0 (by decide)]; exact e3
            have e28 : V22 15 0 = y5 := by rw [hF25 15 (by decide)]; exact e6
            have e29 : V22 0 3 = 4 := by rw [hF25 0 (by decide)]; exact e9
            refine pm_iconst (v := 1) hC dX11_back_36 ?_
            exact pm_iret hC hR (pm_narZ (by omega)) ⟨1, rfl, ⟨by omega, by omega⟩, hV24, hF26⟩ dX11_back_37
          · skip
            have e30 : V0 14 (a1 : Int).toNat = 35 := by rw [hk]; exact hV0.one 14 2 (by decide) (by decide) rfl
            refine pm_aaload (len := 3) (v := 35) hC 14 rfl rfl (by decide) ⟨by omega, by omega⟩ (by decide) e30 dX11_back_32 ?_
            refine pm_callV (ci := 7) (as := [(3, 35)]) (st := []) hC 4 c_X7_copyFrom_4_35 lm_X11_335 li_X7_copyFrom (by decide) (by decide) rfl rfl rfl (by decide) rfl rfl (Nat.le_of_ble_eq_true rfl) ⟨Nat.le_refl _, Or.inl rfl⟩ dX11_back_33 ⟨rfl, hV0⟩ (fun r31 V32 hp33 => ?_)
            obtain ⟨rfl, hV34, hF35⟩ := hp33
            change pm_J X 36 [(0, (3, 0)), (1, (0, a1))] [] 118 V32
            have hF36 := pm_fr.tr (pm_fr.rf (ws := [4, 5, 6, 7, 8, 9, 10, 11, 12, 13]) (V := V0)) hF35 (by decide)
            have e37 : V32 0 4 = 14 := by rw [hF35 0 (by decide)]; exact e3
            have e38 : V32 15 0 = y5 := by rw [hF35 15 (by decide)]; exact e6
            have e39 : V32 0 3 = 4 := by rw [hF35 0 (by decide)]; exact e9
            refine pm_iconst (v := 1) hC dX11_back_36 ?_
            exact pm_iret hC hR (pm_narZ (by omega)) ⟨1, rfl, ⟨by omega, by omega⟩, hV34, hF36⟩ dX11_back_37
        · skip
          refine pm_iconst (v := 0) hC dX11_back_21 ?_
          exact pm_iret hC hR (pm_narZ (by omega)) ⟨0, rfl, ⟨by omega, by omega⟩, hV0, (pm_fr.rf (ws := [4, 5, 6, 7, 8, 9, 10, 11, 12, 13]) (V := V0))⟩ dX11_back_22
      · skip
        have e40 : V0 14 (a1 : Int).toNat = 25 := by rw [hk]; exact hV0.one 14 1 (by decide) (by decide) rfl
        refine pm_aaload (len := 3) (v := 25) hC 14 rfl rfl (by decide) ⟨by omega, by omega⟩ (by decide) e40 dX11_back_14 ?_
        obtain ⟨y41, e42⟩ : ∃ y, V0 25 0 = y := ⟨_, rfl⟩
        have b43 := hV0.get 25 0 (lo := 0) (hi := 1) (by decide) (by decide) rfl
        rw [e42] at b43
        refine pm_getf (v := y41) hC 25 fl_X11_132 rfl rfl (by decide) rfl e42 dX11_back_15 ?_
        refine pm_if_ne (tgt := 23) hC ⟨by omega, by omega⟩ dX11_back_18 (by decide) (fun c44 => ?_) (fun c44 => ?_)
        · skip
          refine pm_aload_n hC 0 (by decide) dX11_back_23 rfl ?_
          have e45 : V0 0 3 = 4 := hV0.one 0 3 (by decide) (by decide) rfl
          refine pm_getf (v := 4) hC 0 fl_X11_24 rfl rfl (by decide) rfl e45 dX11_back_24 ?_
          refine pm_aload_n hC 0 (by decide) dX11_back_27 rfl ?_
          refine pm_getf (v := 14) hC 0 fl_X11_28 rfl rfl (by decide) rfl e3 dX11_back_28 ?_
          refine pm_iload_n hC 1 dX11_back_31 rfl ?_
          rcases (show a1 = (0 : Int) ∨ a1 = (1 : Int) ∨ a1 = (2 : Int) by omega) with hk | hk | hk
          · skip
            have e46 : V0 14 (a1 : Int).toNat = 15 := by rw [hk]; exact hV0.one 14 0 (by decide) (by decide) rfl
            refine pm_aaload (len := 3) (v := 15) hC 14 rfl rfl (by decide) ⟨by omega, by omega⟩ (by decide) e46 dX11_back_32 ?_
            refine pm_callV (ci := 7) (as := [(3, 15)]) (st := []) hC 4 c_X7_copyFrom_4_15 lm_X11_335 li_X7_copyFrom (by decide) (by decide) rfl rfl rfl (by decide) rfl rfl (Nat.le_of_ble_eq_true rfl) ⟨Nat.le_refl _, Or.inl rfl⟩ dX11_back_33 ⟨rfl, hV0⟩ (fun r47 V48 hp49 => ?_)
            obtain ⟨rfl, hV50, hF51⟩ := hp49
            change pm_J X 36 [(0, (3, 0)), (1, (0, a1))] [] 118 V48
            have hF52 := pm_fr.tr (pm_fr.rf (ws := [4, 5, 6, 7, 8, 9, 10, 11, 12, 13]) (V := V0)) hF51 (by decide)
            have e53 : V48 0 4 = 14 := by rw [hF51 0 (by decide)]; exact e3
            have e54 : V48 25 0 = y41 := by rw [hF51 25 (by decide)]; exact e42
            have e55 : V48 0 3 = 4 := by rw [hF51 0 (by decide)]; exact e45
            refine pm_iconst (v := 1) hC dX11_back_36 ?_
            exact pm_iret hC hR (pm_narZ (by omega)) ⟨1, rfl, ⟨by omega, by omega⟩, hV50, hF52⟩ dX11_back_37
          · skip
            have e56 : V0 14 (a1 : Int).toNat = 25 := by rw [hk]; exact hV0.one 14 1 (by decide) (by decide) rfl
            refine pm_aaload (len := 3) (v := 25) hC 14 rfl rfl (by decide) ⟨by omega, by omega⟩ (by decide) e56 dX11_back_32 ?_
            refine pm_callV (ci := 7) (as := [(3, 25)]) (st := []) hC 4 c_X7_copyFrom_4_25 lm_X11_335 li_X7_copyFrom (by decide) (by decide) rfl rfl rfl (by decide) rfl rfl (Nat.le_of_ble_eq_true rfl) ⟨Nat.le_refl _, Or.inl rfl⟩ dX11_back_33 ⟨rfl, hV0⟩ (fun r57 V58 hp59 => ?_)
            obtain ⟨rfl, hV60, hF61⟩ := hp59
            change pm_J X 36 [(0, (3, 0)), (1, (0, a1))] [] 118 V58
            have hF62 := pm_fr.tr (pm_fr.rf (ws := [4, 5, 6, 7, 8, 9, 10, 11, 12, 13]) (V := V0)) hF61 (by decide)
            have e63 : V58 0 4 = 14 := by rw [hF61 0 (by decide)]; exact e3
            have e64 : V58 25 0 = y41 := by rw [hF61 25 (by decide)]; exact e42
            have e65 : V58 0 3 = 4 := by rw [hF61 0 (by decide)]; exact e45
            refine pm_iconst (v := 1) hC dX11_back_36 ?_
            exact pm_iret hC hR (pm_narZ (by omega)) ⟨1, rfl, ⟨by omega, by omega⟩, hV60, hF62⟩ dX11_back_37
          · skip
            have e66 : V0 14 (a1 : Int).toNat = 35 := by rw [hk]; exact hV0.one 14 2 (by decide) (by decide) rfl
            refine pm_aaload (len := 3) (v := 35) hC 14 rfl rfl (by decide) ⟨by omega, by omega⟩ (by decide) e66 dX11_back_32 ?_
            refine pm_callV (ci := 7) (as := [(3, 35)]) (st := []) hC 4 c_X7_copyFrom_4_35 lm_X11_335 li_X7_copyFrom (by decide) (by decide) rfl rfl rfl (by decide) rfl rfl (Nat.le_of_ble_eq_true rfl) ⟨Nat.le_refl _, Or.inl rfl⟩ dX11_back_33 ⟨rfl, hV0⟩ (fun r67 V68 hp69 => ?_)
            obtain ⟨rfl, hV70, hF71⟩ := hp69
            change pm_J X 36 [(0, (3, 0)), (1, (0, a1))] [] 118 V68
            have hF72 := pm_fr.tr (pm_fr.rf (ws := [4, 5, 6, 7, 8, 9, 10, 11, 12, 13]) (V := V0)) hF71 (by decide)
            have e73 : V68 0 4 = 14 := by rw [hF71 0 (by decide)]; exact e3
            have e74 : V68 25 0 = y41 := by rw [hF71 25 (by decide)]; exact e42
            have e75 : V68 0 3 = 4 := by rw [hF71 0 (by decide)]; exact e45
            refine pm_iconst (v := 1) hC dX11_back_36 ?_
            exact pm_iret hC hR (pm_narZ (by omega)) ⟨1, rfl, ⟨by omega, by omega⟩, hV70, hF72⟩ dX11_back_37
        · skip
          refine pm_iconst (v := 0) hC dX11_back_21 ?_
          exact pm_iret hC hR (pm_narZ (by omega)) ⟨0, rfl, ⟨by omega, by omega⟩, hV0, (pm_fr.rf (ws := [4, 5, 6, 7, 8, 9, 10, 11, 12, 13]) (V := V0))⟩ dX11_back_22
      · skip
        have e76 : V0 14 (a1 : Int).toNat = 35 := by rw [hk]; exact hV0.one 14 2 (by decide) (by decide) rfl
        refine pm_aaload (len := 3) (v := 35) hC 14 rfl rfl (by decide) ⟨by omega, by omega⟩ (by decide) e76 dX11_back_14 ?_
        obtain ⟨y77, e78⟩ : ∃ y, V0 35 0 = y := ⟨_, rfl⟩
        have b79 := hV0.get 35 0 (lo := 0) (hi := 1) (by decide) (by decide) rfl
        rw [e78] at b79
        refine pm_getf (v := y77) hC 35 fl_X11_132 rfl rfl (by decide) rfl e78 dX11_back_15 ?_
        refine pm_if_ne (tgt := 23) hC ⟨by omega, by omega⟩ dX11_back_18 (by decide) (fun c80 => ?_) (fun c80 => ?_)
        · skip
          refine pm_aload_n hC 0 (by decide) dX11_back_23 rfl ?_
          have e81 : V0 0 3 = 4 := hV0.one 0 3 (by decide) (by decide) rfl
          refine pm_getf (v := 4) hC 0 fl_X11_24 rfl rfl (by decide) rfl e81 dX11_back_24 ?_
          refine pm_aload_n hC 0 (by decide) dX11_back_27 rfl ?_
          refine pm_getf (v := 14) hC 0 fl_X11_28 rfl rfl (by decide) rfl e3 dX11_back_28 ?_
          refine pm_iload_n hC 1 dX11_back_31 rfl ?_
          rcases (show a1 = (0 : Int) ∨ a1 = (1 : Int) ∨ a1 = (2 : Int) by omega) with hk | hk | hk
          · skip
            have e82 : V0 14 (a1 : Int).toNat = 15 := by rw [hk]; exact hV0.one 14 0 (by decide) (by decide) rfl
            refine pm_aaload (len := 3) (v := 15) hC 14 rfl rfl (by decide) ⟨by omega, by omega⟩ (by decide) e82 dX11_back_32 ?_
            refine pm_callV (ci := 7) (as := [(3, 15)]) (st := []) hC 4 c_X7_copyFrom_4_15 lm_X11_335 li_X7_copyFrom (by decide) (by decide) rfl rfl rfl (by decide) rfl rfl (Nat.le_of_ble_eq_true rfl) ⟨Nat.le_refl _, Or.inl rfl⟩ dX11_back_33 ⟨rfl, hV0⟩ (fun r83 V84 hp85 => ?_)
            obtain ⟨rfl, hV86, hF87⟩ := hp85
            change pm_J X 36 [(0, (3, 0)), (1, (0, a1))] [] 118 V84
            have hF88 := pm_fr.tr (pm_fr.rf (ws := [4, 5, 6, 7, 8, 9, 10, 11, 12, 13]) (V := V0)) hF87 (by decide)
            have e89 : V84 0 4 = 14 := by rw [hF87 0 (by decide)]; exact e3
            have e90 : V84 35 0 = y77 := by rw [hF87 35 (by decide)]; exact e78
            have e91 : V84 0 3 = 4 := by rw [hF87 0 (by decide)]; exact e81
            refine pm_iconst (v := 1) hC dX11_back_36 ?_
            exact pm_iret hC hR (pm_narZ (by omega)) ⟨1, rfl, ⟨by omega, by omega⟩, hV86, hF88⟩ dX11_back_37
          · skip
            have e92 : V0 14 (a1 : Int).toNat = 25 := by rw [hk]; exact hV0.one 14 1 (by decide) (by decide) rfl
            refine pm_aaload (len := 3) (v := 25) hC 14 rfl rfl (by decide) ⟨by omega, by omega⟩ (by decide) e92 dX11_back_32 ?_
            refine pm_callV (ci := 7) (as := [(3, 25)]) (st := []) hC 4 c_X7_copyFrom_4_25 lm_X11_335 li_X7_copyFrom (by decide) (by decide) rfl rfl rfl (by decide) rfl rfl (Nat.le_of_ble_eq_true rfl) ⟨Nat.le_refl _, Or.inl rfl⟩ dX11_back_33 ⟨rfl, hV0⟩ (fun r93 V94 hp95 => ?_)
            obtain ⟨rfl, hV96, hF97⟩ := hp95
            change pm_J X 36 [(0, (3, 0)), (1, (0, a1))] [] 118 V94
            have hF98 := pm_fr.tr (pm_fr.rf (ws := [4, 5, 6, 7, 8, 9, 10, 11, 12, 13]) (V := V0)) hF97 (by decide)
            have e99 : V94 0 4 = 14 := by rw [hF97 0 (by decide)]; exact e3
            have e100 : V94 35 0 = y77 := by rw [hF97 35 (by decide)]; exact e78
            have e101 : V94 0 3 = 4 := by rw [hF97 0 (by decide)]; exact e81
            refine pm_iconst (v := 1) hC dX11_back_36 ?_
            exact pm_iret hC hR (pm_narZ (by omega)) ⟨1, rfl, ⟨by omega, by omega⟩, hV96, hF98⟩ dX11_back_37
          · skip
            have e102 : V0 14 (a1 : Int).toNat = 35 := by rw [hk]; exact hV0.one 14 2 (by decide) (by decide) rfl
            refine pm_aaload (len := 3) (v := 35) hC 14 rfl rfl (by decide) ⟨by omega, by omega⟩ (by decide) e102 dX11_back_32 ?_
            refine pm_callV (ci := 7) (as := [(3, 35)]) (st := []) hC 4 c_X7_copyFrom_4_35 lm_X11_335 li_X7_copyFrom (by decide) (by decide) rfl rfl rfl (by decide) rfl rfl (Nat.le_of_ble_eq_true rfl) ⟨Nat.le_refl _, Or.inl rfl⟩ dX11_back_33 ⟨rfl, hV0⟩ (fun r103 V104 hp105 => ?_)
            obtain ⟨rfl, hV106, hF107⟩ := hp105
            change pm_J X 36 [(0, (3, 0)), (1, (0, a1))] [] 118 V104
            have hF108 := pm_fr.tr (pm_fr.rf (ws := [4, 5, 6, 7, 8, 9, 10, 11, 12, 13]) (V := V0)) hF107 (by decide)
            have e109 : V104 0 4 = 14 := by rw [hF107 0 (by decide)]; exact e3
            have e110 : V104 35 0 = y77 := by rw [hF107 35 (by decide)]; exact e78
            have e111 : V104 0 3 = 4 := by rw [hF107 0 (by decide)]; exact e81
            refine pm_iconst (v := 1) hC dX11_back_36 ?_
            exact pm_iret hC hR (pm_narZ (by omega)) ⟨1, rfl, ⟨by omega, by omega⟩, hV106, hF108⟩ dX11_back_37
        · skip
          refine pm_iconst (v := 0) hC dX11_back_21 ?_
          exact pm_iret hC hR (pm_narZ (by omega)) ⟨0, rfl, ⟨by omega, by omega⟩, hV0, (pm_fr.rf (ws := [4, 5, 6, 7, 8, 9, 10, 11, 12, 13]) (V := V0))⟩ dX11_back_22
