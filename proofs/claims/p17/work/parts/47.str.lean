/-! THE LITERALS' OWN METHODS (java.lang.String): a literal is (4, q), its byte array (4, 18 + q) -/
section PSTR
variable {X : pm_X} {own : String} {cc : ByteArray} {nL d : Nat} {pc : Nat} {lv lv' : pm_L} {st stk : List pm_V} {n : Nat} {V : pm_M}
variable {d' maxL n2 idx na : Nat} {y : MethodName} {bytes : ByteArray} {ret : Option FieldType} {pre : List pm_V → pm_M → Prop} {post : List pm_V → pm_M → Option pm_V → pm_M → Prop}
theorem pm_rv4 (G : pm_G) (q : Nat) : pm_rv G (4, (q : Int)) = .ref (G.2.2.2.1 q) := by
  show Value.ref (G.2.2.2.1 (q : Int).toNat) = _
  rw [Int.toNat_natCast]
theorem pm_strV (hC : pm_C X "java/lang/String" cc nL d) {q : Nat} (hq : q < 18) (hd : decode cc pc = .ok (.getfield 9, 3)) (k : pm_J X (pc + 3) lv ((4, ((18 + q : Nat) : Int)) :: st) n V) : pm_J X pc lv ((4, (q : Int)) :: st) n V := by
  obtain ⟨p, l, e, R, s, m, args, below, meth, c, Q, G, nl, n0, n1⟩ := X
  intro d0 H locs ls h1 h2 h3 h4 h5 h6
  have hts := dr_words hC.2.2.2.2.2.1 d0
  have hT := hC.2.2.2.2.2.2.1
  have k1 := k d0 H locs ls h1 h2 h3 h4 h5 h6
  have e1 := pm_rv4 G q
  have e2 : pm_rv G (4, ((18 + q : Nat) : Int)) = .ref (G.2.2.2.2.1 q) := by rw [pm_rv4, hT.2.2.2.1.2 q hq]
  simp only [pm_sts, List.map_cons, e1, e2] at k1 ⊢
  exact vk_getf (s := s.setDrawn d0) (A := pm_A G) hC.1 hC.2.1 (hT.2.2.2.1.1.1 q hq).2.2.1 h3 hC.2.2.2.2.1 (hts _ (pm_in 8045 (by decide +kernel))) (fun _ h => h) hd k1
theorem pm_strC (hC : pm_C X "java/lang/String" cc nL d) {q : Nat} (hq : q < 18) (hd : decode cc pc = .ok (.getfield 15, 3)) (k : pm_J X (pc + 3) lv ((0, 0) :: st) n V) : pm_J X pc lv ((4, (q : Int)) :: st) n V := by
  obtain ⟨p, l, e, R, s, m, args, below, meth, c, Q, G, nl, n0, n1⟩ := X
  intro d0 H locs ls h1 h2 h3 h4 h5 h6
  have hts := dr_words hC.2.2.2.2.2.1 d0
  have hT := hC.2.2.2.2.2.2.1
  have k1 := k d0 H locs ls h1 h2 h3 h4 h5 h6
  have e1 := pm_rv4 G q
  simp only [pm_sts, List.map_cons, e1] at k1 ⊢
  exact vk_getf (s := s.setDrawn d0) (A := pm_A G) hC.1 hC.2.1 (hT.2.2.2.1.1.1 q hq).2.1 h3 hC.2.2.2.2.1 (hts _ (pm_in 8046 (by decide +kernel))) (fun _ h => h) hd k1
theorem pm_strZ (hC : pm_C X "java/lang/String" cc nL d) (hd : decode cc pc = .ok (.getstatic 38, 3)) (k : pm_J X (pc + 3) lv ((0, 1) :: st) n V) : pm_J X pc lv st n V := by
  obtain ⟨p, l, e, R, s, m, args, below, meth, c, Q, G, nl, n0, n1⟩ := X
  intro d0 H locs ls h1 h2 h3 h4 h5 h6
  have hts := dr_words hC.2.2.2.2.2.1 d0
  have hT := hC.2.2.2.2.2.2.1
  have k1 := k d0 H locs ls h1 h2 h3 h4 h5 h6
  exact va_gets (s := s.setDrawn d0) (A := pm_A G) hC.1 hC.2.1 hT.2.2.2.2.1 h3 hC.2.2.2.2.1 (hts _ (pm_in 6112 (by decide +kernel))) (fun _ h => h) hd k1
theorem pm_strF (hC : pm_C X "java/lang/String" cc nL d) (hd : decode cc pc = .ok (.getstatic 1053, 3)) (k : ∀ v : pm_V, pm_cat v.1 = 1 → pm_J X (pc + 3) lv (v :: st) n V) : pm_J X pc lv st n V := by
  obtain ⟨p, l, e, R, s, m, args, below, meth, c, Q, G, nl, n0, n1⟩ := X
  intro d0 H locs ls h1 h2 h3 h4 h5 h6
  have hts := dr_words hC.2.2.2.2.2.1 d0
  have hT := hC.2.2.2.2.2.2.1
  rcases hT.2.2.2.2.2.1 with h | h
  · have k1 := k (3, -1) rfl d0 H locs ls h1 h2 h3 h4 h5 h6
    exact va_gets (s := s.setDrawn d0) (A := pm_A G) hC.1 hC.2.1 h h3 hC.2.2.2.2.1 (hts _ (pm_in 6128 (by decide +kernel))) (fun _ h => h) hd k1
  · have k1 := k (4, ((36 : Nat) : Int)) rfl d0 H locs ls h1 h2 h3 h4 h5 h6
    have e1 := pm_rv4 G 36
    simp only [pm_sts, List.map_cons, e1] at k1
    exact va_gets (s := s.setDrawn d0) (A := pm_A G) hC.1 hC.2.1 h h3 hC.2.2.2.2.1 (hts _ (pm_in 6128 (by decide +kernel))) (fun _ h => h) hd k1
theorem pm_strL (hC : pm_C X own cc nL d) {q : Nat} (hq : q < 18) (hd : decode cc pc = .ok (.arraylength, 1)) (k : pm_J X (pc + 1) lv ((0, ((pm_len.getD q 0 : Nat) : Int)) :: st) n V) : pm_J X pc lv ((4, ((18 + q : Nat) : Int)) :: st) n V := by
  obtain ⟨p, l, e, R, s, m, args, below, meth, c, Q, G, nl, n0, n1⟩ := X
  intro d0 H locs ls h1 h2 h3 h4 h5 h6
  have hT := hC.2.2.2.2.2.2.1
  have k1 := k d0 H locs ls h1 h2 h3 h4 h5 h6
  have e2 : pm_rv G (4, ((18 + q : Nat) : Int)) = .ref (G.2.2.2.2.1 q) := by rw [pm_rv4, hT.2.2.2.1.2 q hq]
  have e3 : pm_rv G (0, ((pm_len.getD q 0 : Nat) : Int)) = .int (Int32.ofNat (pm_len.getD q 0)) := congrArg Value.int Int32.ofInt_eq_ofNat
  simp only [pm_sts, List.map_cons, e2, e3] at k1 ⊢
  exact va_tlen (s := s.setDrawn d0) (A := pm_A G) hC.1 hC.2.1 (hT.2.2.2.1.1.1 q hq).2.2.2 h3 rfl hd k1
theorem pm_strB (hC : pm_C X own cc nL d) {q : Nat} {i : Int} (hq : q < 18) (hi : 0 ≤ i ∧ i < ((pm_len.getD q 0 : Nat) : Int)) (hd : decode cc pc = .ok (.baload, 1)) (k : pm_J X (pc + 1) lv ((0, ((pm_byt.getD q []).getD i.toNat 0).toInt) :: st) n V) : pm_J X pc lv ((0, i) :: (4, ((18 + q : Nat) : Int)) :: st) n V := by
  obtain ⟨p, l, e, R, s, m, args, below, meth, c, Q, G, nl, n0, n1⟩ := X
  intro d0 H locs ls h1 h2 h3 h4 h5 h6
  have hT := hC.2.2.2.2.2.2.1
  have hlen : ∀ q, q < 18 → pm_len.getD q 0 < 100 := by decide
  obtain ⟨q1, q2⟩ := pm_ix hi (by have := hlen q hq; omega)
  have k1 := k d0 H locs ls h1 h2 h3 h4 h5 h6
  have e2 : pm_rv G (4, ((18 + q : Nat) : Int)) = .ref (G.2.2.2.2.1 q) := by rw [pm_rv4, hT.2.2.2.1.2 q hq]
  have e3 : pm_rv G (0, ((pm_byt.getD q []).getD i.toNat 0).toInt) = .int ((pm_byt.getD q []).getD i.toNat 0) := congrArg Value.int (Int32.ofInt_toInt _)
  simp only [pm_sts, List.map_cons, e2, e3] at k1 ⊢
  exact va_tb (s := s.setDrawn d0) (A := pm_A G) hC.1 hC.2.1 (hT.2.2.2.1.1.1 q hq).2.2.2 h3 q1 (by rw [q2]) hd k1
theorem pm_i2c (hC : pm_C X own cc nL d) {x : Int} (hx : 0 ≤ x ∧ x < 128) (hd : decode cc pc = .ok (.i2c, 1)) (k : pm_J X (pc + 1) lv ((0, x) :: st) n V) : pm_J X pc lv ((0, x) :: st) n V := by
  obtain ⟨p, l, e, R, s, m, args, below, meth, c, Q, G, nl, n0, n1⟩ := X
  intro d0 H locs ls h1 h2 h3 h4 h5 h6
  refine lv_i2c hC.1 hC.2.1 hd ?_ (k d0 H locs ls h1 h2 h3 h4 h5 h6)
  have hall : ∀ t, t < 128 → ((Int32.ofInt (t : Nat)).toUInt32 % 65536).toInt32 = Int32.ofInt (t : Nat) := by decide +kernel
  have := hall x.toNat (by omega)
  rwa [show ((x.toNat : Nat) : Int) = x by omega] at this
theorem pm_callStr (hC : pm_C X own cc nL d) {q : Nat} {as : List pm_V} (hq : q < 18) (hM : pm_MT d' y bytes maxL ret n n2 pre post) (hL : pm_LM own idx y bytes maxL ret false na) (hI : pm_LI y "java/lang/String") (hdd : d' + 1 ≤ d) (hml : maxL ≤ 41)
    (hs : stk = as.reverse ++ (4, (q : Int)) :: st) (hna : as.length = na) (hst : pm_words st ≤ 8) (hn2 : n ≤ n2 ∧ (n2 = n ∨ n2 ≤ pm_top X)) (hd : decode cc pc = .ok (.invokevirtual idx, 3))
    (hpre : pre ((4, (q : Int)) :: as) V) (k : ∀ (r : Option pm_V) (V' : pm_M), post ((4, (q : Int)) :: as) V r V' → pm_J X (pc + 3) lv (r.toList ++ st) n2 V') : pm_J X pc lv stk n V := by
  obtain ⟨p, l, e, R, s, m, args, below, meth, c, Q, G, nl, n0, n1⟩ := X
  intro d0 H locs ls h1 h2 h3 h4 h5 h6
  subst hs
  have e1 := pm_rv4 G q
  have h7 : n2 ≤ n1 := by
    rcases hn2.2 with h | h
    · omega
    · exact h
  obtain ⟨g1, g2, g3, g4⟩ := hL
  simp only [Bool.false_eq_true, if_false] at g4
  have hts := dr_words hC.2.2.2.2.2.1 d0
  have hT := hC.2.2.2.2.2.2.1
  have hsz0 : s.heap.size = G.1 + n0 := hC.2.2.2.2.2.2.2.1
  refine pm_Wsize (s := s.setDrawn d0) (fun hsz => ?_)
  have hsz1 : H.size ≤ s.heap.size + (n - n0) := hsz
  have hlow := pm_low h2 (by have := h3.1; omega)
  have hsz2 : H.size = G.1 + n := by omega
  have hroom := hC.2.2.2.2.2.2.2.2.2.1
  have hcel := hC.2.2.2.2.2.2.2.2.2.2.1 n2 (by omega) h7
  have hsl1 := pm_slm h5
  have hsl2 := pm_slm hn2.1
  have ec : n - n0 + (n2 - n) = n2 - n0 := by omega
  have es : pm_sl n - pm_sl n0 + (pm_sl n2 - pm_sl n) = pm_sl n2 - pm_sl n0 := by omega
  have hstk : pm_sts G (as.reverse ++ (4, (q : Int)) :: st) = (pm_sts G as).reverse ++ .ref (G.2.2.2.1 q) :: pm_sts G st := by
    simp only [pm_sts, List.map_append, List.map_reverse, List.map_cons, e1]
  refine pm_back (n2 := n2) (rest := pm_sts G st) (P := post ((4, (q : Int)) :: as) V) (a := (Value.ref (G.2.2.2.1 q) :: pm_sts G as).toArray) h1 (va_runV_D (s := s.setDrawn d0) (own := own) (C := "java/lang/String") (y := y) (bytes := bytes) (maxL := maxL) (ret := ret) (n := na) (As := pm_sts G as) (rest := pm_sts G st) (b := G.2.2.2.1 q) ⟨hC.1, hC.2.1, hC.2.2.1, hC.2.2.2.2.1, hts⟩ (hM l G _ V hpre)
    ⟨callB_of na hts (pm_GI g1) rfl rfl rfl (hts _ g2) (hts _ g4) g3 ⟨by show d' + 1 ≤ R.frames; omega, by show 8 + (maxL + 11) + 60 * d' ≤ R.locals; omega⟩, hts _ hI.1, hts _ hI.2⟩ ⟨pm_Q_blind G _ n V, vk_recv (s := s.setDrawn d0) (A := pm_A G) hT.2.2.2.1.1 hq h3, fun U hU hW => ⟨by simp only [pm_sts, List.map_cons, e1], by rw [hU]; exact hsz2, by rw [hU]; exact h2, pm_T.move hT hW (fun q q1 q2 => by rw [hU]; exact h3.2.1 q q1 q2)⟩⟩ rfl (by simpa [pm_sts] using hna) (h4.1.trans hC.2.2.2.1) hstk (pm_room8 hst) hd ⟨by rw [ec]; exact hcel.1, by rw [es]; exact hcel.2⟩) h3 (fun r V' H1 locs1 d1 q1 q2 q3 q4 => ?_)
  have k1 := k r V' q2 d1 H1 locs1 ls q1 q3 q4 h4 (by omega) h7
  rw [ec, es]
  have er : pm_sts G (r.toList ++ st) = (r.map (pm_rv G)).toList ++ pm_sts G st := by
    cases r <;> rfl
  rw [← er]
  exact k1
end PSTR
theorem ls_Pcheck : pm_LS yJ3_checkIndex_8e157 := pm_in 6131 (by decide +kernel)
theorem ls_Scheck : pm_LS yJ0_checkIndex_df160 := pm_in 6126 (by decide +kernel)
theorem ls_S1char : pm_LS yJ1_charAt_3b067 := pm_in 6123 (by decide +kernel)
theorem li_Slen : pm_LI yJ0_length_8abf5 "java/lang/String" := ⟨pm_in 6105 (by decide +kernel), pm_in 6106 (by decide +kernel)⟩
theorem li_Scoder : pm_LI yJ0_coder_7d493 "java/lang/String" := ⟨pm_in 6109 (by decide +kernel), pm_in 6110 (by decide +kernel)⟩
theorem li_Schar : pm_LI yJ0_charAt_5068e "java/lang/String" := ⟨pm_in 6115 (by decide +kernel), pm_in 6116 (by decide +kernel)⟩
theorem li_Slat : pm_LI yJ0_isLatin1_aae02 "java/lang/String" := ⟨pm_in 6119 (by decide +kernel), pm_in 6120 (by decide +kernel)⟩
theorem lm_S335 : pm_LM "java/lang/String" 335 yJ0_coder_7d493 cJ0_coder_7d493 1 (some .byte) false 0 := pm_LM.of 6111 1014 6108 rfl (by decide +kernel) (by decide +kernel) (by decide +kernel)
theorem lm_S492 : pm_LM "java/lang/String" 492 yJ0_isLatin1_aae02 cJ0_isLatin1_aae02 1 (some .boolean) false 0 := pm_LM.of 6121 1014 6118 rfl (by decide +kernel) (by decide +kernel) (by decide +kernel)
theorem lm_S495 : pm_LM "java/lang/String" 495 yJ1_charAt_3b067 cJ1_charAt_3b067 2 (some .char) false 2 := pm_LM.of 6124 1015 6122 rfl (by decide +kernel) (by decide +kernel) (by decide +kernel)
theorem lm_L9 : pm_LM "java/lang/StringLatin1" 9 yJ0_checkIndex_df160 cJ0_checkIndex_df160 2 none false 2 := pm_LM.of 6127 1014 6125 rfl (by decide +kernel) (by decide +kernel) (by decide +kernel)
theorem lm_S1059 : pm_LM "java/lang/String" 1059 yJ3_checkIndex_8e157 cJ3_checkIndex_8e157 3 (some .int) false 3 := pm_LM.of 6132 1016 6130 rfl (by decide +kernel) (by decide +kernel) (by decide +kernel)
theorem lm_M131 : pm_LM RX12 131 yJ0_length_8abf5 cJ0_length_8abf5 1 (some .int) false 0 := pm_LM.of 6107 1014 6104 rfl (by decide +kernel) (by decide +kernel) (by decide +kernel)
theorem lm_M137 : pm_LM RX12 137 yJ0_charAt_5068e cJ0_charAt_5068e 2 (some .char) false 1 := pm_LM.of 6117 1014 6114 rfl (by decide +kernel) (by decide +kernel) (by decide +kernel)
theorem dJ0_length_8abf5_0 : decode cJ0_length_8abf5 0 = .ok (.aload_n 0, 1) := by decide +kernel
theorem dJ0_length_8abf5_1 : decode cJ0_length_8abf5 1 = .ok (.getfield 9, 3) := by decide +kernel
theorem dJ0_length_8abf5_4 : decode cJ0_length_8abf5 4 = .ok (.arraylength, 1) := by decide +kernel
theorem dJ0_length_8abf5_5 : decode cJ0_length_8abf5 5 = .ok (.aload_n 0, 1) := by decide +kernel
theorem dJ0_length_8abf5_6 : decode cJ0_length_8abf5 6 = .ok (.invokevirtual 335, 3) := by decide +kernel
theorem dJ0_length_8abf5_9 : decode cJ0_length_8abf5 9 = .ok (.ishr, 1) := by decide +kernel
theorem dJ0_length_8abf5_10 : decode cJ0_length_8abf5 10 = .ok (.ireturn, 1) := by decide +kernel
theorem dJ0_charAt_5068e_0 : decode cJ0_charAt_5068e 0 = .ok (.aload_n 0, 1) := by decide +kernel
theorem dJ0_charAt_5068e_1 : decode cJ0_charAt_5068e 1 = .ok (.invokevirtual 492, 3) := by decide +kernel
theorem dJ0_charAt_5068e_4 : decode cJ0_charAt_5068e 4 = .ok (.ifCond .eq 12, 3) := by decide +kernel
theorem dJ0_charAt_5068e_7 : decode cJ0_charAt_5068e 7 = .ok (.aload_n 0, 1) := by decide +kernel
theorem dJ0_charAt_5068e_8 : decode cJ0_charAt_5068e 8 = .ok (.getfield 9, 3) := by decide +kernel
theorem dJ0_charAt_5068e_11 : decode cJ0_charAt_5068e 11 = .ok (.iload_n 1, 1) := by decide +kernel
theorem dJ0_charAt_5068e_12 : decode cJ0_charAt_5068e 12 = .ok (.invokestatic 495, 3) := by decide +kernel
theorem dJ0_charAt_5068e_15 : decode cJ0_charAt_5068e 15 = .ok (.ireturn, 1) := by decide +kernel
theorem dJ0_charAt_5068e_16 : decode cJ0_charAt_5068e 16 = .ok (.aload_n 0, 1) := by decide +kernel
theorem dJ0_charAt_5068e_17 : decode cJ0_charAt_5068e 17 = .ok (.getfield 9, 3) := by decide +kernel
theorem dJ0_charAt_5068e_20 : decode cJ0_charAt_5068e 20 = .ok (.iload_n 1, 1) := by decide +kernel
theorem dJ0_charAt_5068e_21 : decode cJ0_charAt_5068e 21 = .ok (.invokestatic 498, 3) := by decide +kernel
theorem dJ0_charAt_5068e_24 : decode cJ0_charAt_5068e 24 = .ok (.ireturn, 1) := by decide +kernel
theorem dJ0_coder_7d493_0 : decode cJ0_coder_7d493 0 = .ok (.getstatic 38, 3) := by decide +kernel
theorem dJ0_coder_7d493_3 : decode cJ0_coder_7d493 3 = .ok (.ifCond .eq 10, 3) := by decide +kernel
theorem dJ0_coder_7d493_6 : decode cJ0_coder_7d493 6 = .ok (.aload_n 0, 1) := by decide +kernel
theorem dJ0_coder_7d493_7 : decode cJ0_coder_7d493 7 = .ok (.getfield 15, 3) := by decide +kernel
theorem dJ0_coder_7d493_10 : decode cJ0_coder_7d493 10 = .ok (.goto 4, 3) := by decide +kernel
theorem dJ0_coder_7d493_13 : decode cJ0_coder_7d493 13 = .ok (.iconst 1, 1) := by decide +kernel
theorem dJ0_coder_7d493_14 : decode cJ0_coder_7d493 14 = .ok (.ireturn, 1) := by decide +kernel
theorem dJ0_isLatin1_aae02_0 : decode cJ0_isLatin1_aae02 0 = .ok (.getstatic 38, 3) := by decide +kernel
theorem dJ0_isLatin1_aae02_3 : decode cJ0_isLatin1_aae02 3 = .ok (.ifCond .eq 14, 3) := by decide +kernel
theorem dJ0_isLatin1_aae02_6 : decode cJ0_isLatin1_aae02 6 = .ok (.aload_n 0, 1) := by decide +kernel
theorem dJ0_isLatin1_aae02_7 : decode cJ0_isLatin1_aae02 7 = .ok (.getfield 15, 3) := by decide +kernel
theorem dJ0_isLatin1_aae02_10 : decode cJ0_isLatin1_aae02 10 = .ok (.ifCond .ne 7, 3) := by decide +kernel
theorem dJ0_isLatin1_aae02_13 : decode cJ0_isLatin1_aae02 13 = .ok (.iconst 1, 1) := by decide +kernel
theorem dJ0_isLatin1_aae02_14 : decode cJ0_isLatin1_aae02 14 = .ok (.goto 4, 3) := by decide +kernel
theorem dJ0_isLatin1_aae02_17 : decode cJ0_isLatin1_aae02 17 = .ok (.iconst 0, 1) := by decide +kernel
theorem dJ0_isLatin1_aae02_18 : decode cJ0_isLatin1_aae02 18 = .ok (.ireturn, 1) := by decide +kernel
theorem dJ0_checkIndex_df160_0 : decode cJ0_checkIndex_df160 0 = .ok (.iload_n 0, 1) := by decide +kernel
theorem dJ0_checkIndex_df160_1 : decode cJ0_checkIndex_df160 1 = .ok (.iload_n 1, 1) := by decide +kernel
theorem dJ0_checkIndex_df160_2 : decode cJ0_checkIndex_df160 2 = .ok (.getstatic 1053, 3) := by decide +kernel
theorem dJ0_checkIndex_df160_5 : decode cJ0_checkIndex_df160 5 = .ok (.invokestatic 1059, 3) := by decide +kernel
theorem dJ0_checkIndex_df160_8 : decode cJ0_checkIndex_df160 8 = .ok (.pop, 1) := by decide +kernel
theorem dJ0_checkIndex_df160_9 : decode cJ0_checkIndex_df160 9 = .ok (.return_, 1) := by decide +kernel
theorem dJ1_charAt_3b067_0 : decode cJ1_charAt_3b067 0 = .ok (.iload_n 1, 1) := by decide +kernel
theorem dJ1_charAt_3b067_1 : decode cJ1_charAt_3b067 1 = .ok (.aload_n 0, 1) := by decide +kernel
theorem dJ1_charAt_3b067_2 : decode cJ1_charAt_3b067 2 = .ok (.arraylength, 1) := by decide +kernel
theorem dJ1_charAt_3b067_3 : decode cJ1_charAt_3b067 3 = .ok (.invokestatic 9, 3) := by decide +kernel
theorem dJ1_charAt_3b067_6 : decode cJ1_charAt_3b067 6 = .ok (.aload_n 0, 1) := by decide +kernel
theorem dJ1_charAt_3b067_7 : decode cJ1_charAt_3b067 7 = .ok (.iload_n 1, 1) := by decide +kernel
theorem dJ1_charAt_3b067_8 : decode cJ1_charAt_3b067 8 = .ok (.baload, 1) := by decide +kernel
theorem dJ1_charAt_3b067_9 : decode cJ1_charAt_3b067 9 = .ok (.sipush 255, 3) := by decide +kernel
theorem dJ1_charAt_3b067_12 : decode cJ1_charAt_3b067 12 = .ok (.iand, 1) := by decide +kernel
theorem dJ1_charAt_3b067_13 : decode cJ1_charAt_3b067 13 = .ok (.i2c, 1) := by decide +kernel
theorem dJ1_charAt_3b067_14 : decode cJ1_charAt_3b067 14 = .ok (.ireturn, 1) := by decide +kernel
theorem dJ3_checkIndex_8e157_0 : decode cJ3_checkIndex_8e157 0 = .ok (.iload_n 0, 1) := by decide +kernel
theorem dJ3_checkIndex_8e157_1 : decode cJ3_checkIndex_8e157 1 = .ok (.ifCond .lt 8, 3) := by decide +kernel
theorem dJ3_checkIndex_8e157_4 : decode cJ3_checkIndex_8e157 4 = .ok (.iload_n 0, 1) := by decide +kernel
theorem dJ3_checkIndex_8e157_5 : decode cJ3_checkIndex_8e157 5 = .ok (.iload_n 1, 1) := by decide +kernel
theorem dJ3_checkIndex_8e157_6 : decode cJ3_checkIndex_8e157 6 = .ok (.if_icmp .lt 10, 3) := by decide +kernel
theorem dJ3_checkIndex_8e157_9 : decode cJ3_checkIndex_8e157 9 = .ok (.aload_n 2, 1) := by decide +kernel
theorem dJ3_checkIndex_8e157_10 : decode cJ3_checkIndex_8e157 10 = .ok (.iload_n 0, 1) := by decide +kernel
theorem dJ3_checkIndex_8e157_11 : decode cJ3_checkIndex_8e157 11 = .ok (.iload_n 1, 1) := by decide +kernel
theorem dJ3_checkIndex_8e157_12 : decode cJ3_checkIndex_8e157 12 = .ok (.invokestatic 95, 3) := by decide +kernel
theorem dJ3_checkIndex_8e157_15 : decode cJ3_checkIndex_8e157 15 = .ok (.athrow, 1) := by decide +kernel
theorem dJ3_checkIndex_8e157_16 : decode cJ3_checkIndex_8e157 16 = .ok (.iload_n 0, 1) := by decide +kernel
theorem dJ3_checkIndex_8e157_17 : decode cJ3_checkIndex_8e157 17 = .ok (.ireturn, 1) := by decide +kernel
abbrev pm_SP (d : Nat) (y : MethodName) (cc : ByteArray) (maxL : Nat) (ret : Option FieldType) (P : List pm_V → Prop) (r0 : List pm_V → Option pm_V → Prop) : Prop := pm_MT d y cc maxL ret 118 118 (fun av _ => P av) (fun av V r V' => r0 av r ∧ V = V')
theorem pm_len_ok : ∀ q, q < 18 → pm_len.getD q 0 < 10 := by decide
theorem c_Pcheck {i len : Int} {v : pm_V} (hi : 0 ≤ i ∧ i < len ∧ len < 100) (hv : pm_cat v.1 = 1) : pm_SP 0 yJ3_checkIndex_8e157 cJ3_checkIndex_8e157 3 (some .int) (fun av => av = [(0, i), (0, len), v]) (fun _ r => r = some (0, i)) := by
  refine pm_MT.of (by decide) ⟨Nat.le_refl _, by decide⟩ (fun av V h => by rw [h]; show pm_cat 0 + (pm_cat 0 + (pm_cat v.1 + 0)) ≤ 3; rw [hv]; decide) ?_
  rintro X av V0 hC - hR rfl
  have e : pm_lv0 0 [(0, i), (0, len), v] = [(0, (0, i)), (1, (0, len)), (2, v)] := rfl
  rw [e]
  refine pm_iload_n hC 0 dJ3_checkIndex_8e157_0 rfl ?_
  refine pm_if_lt (tgt := 9) hC ⟨by omega, by omega⟩ dJ3_checkIndex_8e157_1 (by decide) (fun c => ?_) (fun c => ?_)
  · exfalso; omega
  refine pm_iload_n hC 0 dJ3_checkIndex_8e157_4 rfl ?_
  refine pm_iload_n hC 1 dJ3_checkIndex_8e157_5 rfl ?_
  refine pm_icmp_lt (tgt := 16) hC ⟨by omega, by omega⟩ ⟨by omega, by omega⟩ dJ3_checkIndex_8e157_6 (by decide) (fun c => ?_) (fun c => ?_)
  · refine pm_iload_n hC 0 dJ3_checkIndex_8e157_16 rfl ?_
    exact pm_iret hC hR pm_nar0 ⟨rfl, rfl⟩ dJ3_checkIndex_8e157_17
  · exfalso; omega
theorem c_Scheck {i len : Int} (hi : 0 ≤ i ∧ i < len ∧ len < 100) : pm_SP 1 yJ0_checkIndex_df160 cJ0_checkIndex_df160 2 none (fun av => av = [(0, i), (0, len)]) (fun _ r => r = none) := by
  refine pm_MT.of (by decide) ⟨Nat.le_refl _, by decide⟩ (fun av V h => by rw [h]; exact (by decide : pm_words [(0, 0), (0, 0)] ≤ 2)) ?_
  rintro X av V0 hC - hR rfl
  change pm_J X 0 [(0, (0, i)), (1, (0, len))] [] 118 V0
  refine pm_iload_n hC 0 dJ0_checkIndex_df160_0 rfl ?_
  refine pm_iload_n hC 1 dJ0_checkIndex_df160_1 rfl ?_
  refine pm_strF hC dJ0_checkIndex_df160_2 (fun v hv => ?_)
  refine pm_callS (as := [(0, i), (0, len), v]) (st := []) hC (c_Pcheck hi hv) lm_S1059 ls_Pcheck (by decide) (by decide) rfl rfl (Nat.le_of_ble_eq_true rfl) ⟨Nat.le_refl _, Or.inl rfl⟩ dJ0_checkIndex_df160_5 rfl (fun r V hp => ?_)
  obtain ⟨rfl, rfl⟩ := hp
  refine pm_pop hC rfl dJ0_checkIndex_df160_8 ?_
  exact pm_vret hC hR ⟨rfl, rfl⟩ dJ0_checkIndex_df160_9
/-- the letters -/
theorem pm_byt_ok : ∀ q, q < 18 → ∀ i, i < pm_len.getD q 0 → 97 ≤ ((pm_byt.getD q []).getD i 0).toInt ∧ ((pm_byt.getD q []).getD i 0).toInt ≤ 122 := by decide +kernel
theorem pm_and255 : ∀ t, t < 128 → pm_iandV ((t : Nat) : Int) 255 = ((t : Nat) : Int) := by decide +kernel
theorem pm_ishr0 : ∀ t, t < 10 → pm_ishrV ((t : Nat) : Int) 0 = ((t : Nat) : Int) := by decide +kernel
def pm_chr (q i : Nat) : Int := ((pm_byt.getD q []).getD i 0).toInt
theorem c_S1char {q : Nat} {i : Int} (hq : q < 18) (hi : 0 ≤ i ∧ i < ((pm_len.getD q 0 : Nat) : Int)) : pm_SP 2 yJ1_charAt_3b067 cJ1_charAt_3b067 2 (some .char) (fun av => av = [(4, ((18 + q : Nat) : Int)), (0, i)]) (fun _ r => r = some (0, pm_chr q i.toNat)) := by
  refine pm_MT.of (by decide) ⟨Nat.le_refl _, by decide⟩ (fun av V h => by rw [h]; exact (by decide : pm_words [(4, 0), (0, 0)] ≤ 2)) ?_
  rintro X av V0 hC - hR rfl
  change pm_J X 0 [(0, (4, ((18 + q : Nat) : Int))), (1, (0, i))] [] 118 V0
  have hl := pm_len_ok q hq
  have hb := pm_byt_ok q hq i.toNat (by omega)
  refine pm_iload_n hC 1 dJ1_charAt_3b067_0 rfl ?_
  refine pm_aloadS hC 0 (by decide) dJ1_charAt_3b067_1 rfl ?_
  refine pm_strL hC hq dJ1_charAt_3b067_2 ?_
  refine pm_callS (as := [(0, i), (0, ((pm_len.getD q 0 : Nat) : Int))]) (st := []) hC (c_Scheck (i := i) (len := ((pm_len.getD q 0 : Nat) : Int)) ⟨hi.1, hi.2, by omega⟩) lm_L9 ls_Scheck (by decide) (by decide) rfl rfl (Nat.le_of_ble_eq_true rfl) ⟨Nat.le_refl _, Or.inl rfl⟩ dJ1_charAt_3b067_3 rfl (fun r V hp => ?_)
  obtain ⟨rfl, rfl⟩ := hp
  refine pm_aloadS hC 0 (by decide) dJ1_charAt_3b067_6 rfl ?_
  refine pm_iload_n hC 1 dJ1_charAt_3b067_7 rfl ?_
  refine pm_strB hC hq hi dJ1_charAt_3b067_8 ?_
  refine pm_sipush (v := 255) hC dJ1_charAt_3b067_9 (by decide) ?_
  refine pm_iand hC dJ1_charAt_3b067_12 ?_
  have he : pm_iandV ((pm_byt.getD q []).getD i.toNat 0).toInt 255 = pm_chr q i.toNat := by
    have h1 := pm_and255 ((pm_byt.getD q []).getD i.toNat 0).toInt.toNat (by omega)
    rw [Int.toNat_of_nonneg (by omega)] at h1
    exact h1
  rw [he]
  have hb2 : 97 ≤ pm_chr q i.toNat ∧ pm_chr q i.toNat ≤ 122 := hb
  refine pm_i2c hC ⟨by omega, by omega⟩ dJ1_charAt_3b067_13 ?_
  refine pm_iret hC hR ?_ ⟨rfl, rfl⟩ dJ1_charAt_3b067_14
  have hall : ∀ t, t < 128 → narrow .char (.int (Int32.ofInt ((t : Nat) : Int))) = .int (Int32.ofInt ((t : Nat) : Int)) := by decide +kernel
  have h1 := hall (pm_chr q i.toNat).toNat (by omega)
  rw [Int.toNat_of_nonneg (by omega)] at h1
  exact h1
theorem c_Slat {q : Nat} (hq : q < 18) : pm_SP 0 yJ0_isLatin1_aae02 cJ0_isLatin1_aae02 1 (some .boolean) (fun av => av = [(4, (q : Int))]) (fun _ r => r = some (0, 1)) := by
  refine pm_MT.of (by decide) ⟨Nat.le_refl _, by decide⟩ (fun av V h => by rw [h]; exact (by decide : pm_words [(4, 0)] ≤ 1)) ?_
  rintro X av V0 hC - hR rfl
  change pm_J X 0 [(0, (4, (q : Int)))] [] 118 V0
  refine pm_strZ hC dJ0_isLatin1_aae02_0 ?_
  refine pm_if_eq (tgt := 17) hC ⟨by decide, by decide⟩ dJ0_isLatin1_aae02_3 (by decide) (fun c => by exact absurd c (by decide)) (fun c => ?_)
  refine pm_aloadS hC 0 (by decide) dJ0_isLatin1_aae02_6 rfl ?_
  refine pm_strC hC hq dJ0_isLatin1_aae02_7 ?_
  refine pm_if_ne (tgt := 17) hC ⟨by decide, by decide⟩ dJ0_isLatin1_aae02_10 (by decide) (fun c => absurd rfl c) (fun c => ?_)
  refine pm_iconst (v := 1) hC dJ0_isLatin1_aae02_13 ?_
  refine pm_goto (tgt := 18) hC dJ0_isLatin1_aae02_14 (by decide) ?_
  exact pm_iret hC hR (pm_narZ (Or.inr rfl)) ⟨rfl, rfl⟩ dJ0_isLatin1_aae02_18
theorem c_Scoder {q : Nat} (hq : q < 18) : pm_SP 0 yJ0_coder_7d493 cJ0_coder_7d493 1 (some .byte) (fun av => av = [(4, (q : Int))]) (fun _ r => r = some (0, 0)) := by
  refine pm_MT.of (by decide) ⟨Nat.le_refl _, by decide⟩ (fun av V h => by rw [h]; exact (by decide : pm_words [(4, 0)] ≤ 1)) ?_
  rintro X av V0 hC - hR rfl
  change pm_J X 0 [(0, (4, (q : Int)))] [] 118 V0
  refine pm_strZ hC dJ0_coder_7d493_0 ?_
  refine pm_if_eq (tgt := 13) hC ⟨by decide, by decide⟩ dJ0_coder_7d493_3 (by decide) (fun c => by exact absurd c (by decide)) (fun c => ?_)
  refine pm_aloadS hC 0 (by decide) dJ0_coder_7d493_6 rfl ?_
  refine pm_strC hC hq dJ0_coder_7d493_7 ?_
  refine pm_goto (tgt := 14) hC dJ0_coder_7d493_10 (by decide) ?_
  exact pm_iret hC hR (by decide) ⟨rfl, rfl⟩ dJ0_coder_7d493_14
theorem c_Slen {q : Nat} (hq : q < 18) : pm_SP 1 yJ0_length_8abf5 cJ0_length_8abf5 1 (some .int) (fun av => av = [(4, (q : Int))]) (fun _ r => r = some (0, ((pm_len.getD q 0 : Nat) : Int))) := by
  refine pm_MT.of (by decide) ⟨Nat.le_refl _, by decide⟩ (fun av V h => by rw [h]; exact (by decide : pm_words [(4, 0)] ≤ 1)) ?_
  rintro X av V0 hC - hR rfl
  change pm_J X 0 [(0, (4, (q : Int)))] [] 118 V0
  refine pm_aloadS hC 0 (by decide) dJ0_length_8abf5_0 rfl ?_
  refine pm_strV hC hq dJ0_length_8abf5_1 ?_
  refine pm_strL hC hq dJ0_length_8abf5_4 ?_
  refine pm_aloadS hC 0 (by decide) dJ0_length_8abf5_5 rfl ?_
  refine pm_callStr (as := []) (st := [(0, ((pm_len.getD q 0 : Nat) : Int))]) hC hq (c_Scoder hq) lm_S335 li_Scoder (by decide) (by decide) rfl rfl (Nat.le_of_ble_eq_true rfl) ⟨Nat.le_refl _, Or.inl rfl⟩ dJ0_length_8abf5_6 rfl (fun r V hp => ?_)
  obtain ⟨rfl, rfl⟩ := hp
  refine pm_ishr (x := ((pm_len.getD q 0 : Nat) : Int)) (y := 0) hC dJ0_length_8abf5_9 ?_
  rw [pm_ishr0 _ (pm_len_ok q hq)]
  exact pm_iret hC hR pm_nar0 ⟨rfl, rfl⟩ dJ0_length_8abf5_10
theorem c_Schar {q : Nat} {i : Int} (hq : q < 18) (hi : 0 ≤ i ∧ i < ((pm_len.getD q 0 : Nat) : Int)) : pm_SP 3 yJ0_charAt_5068e cJ0_charAt_5068e 2 (some .char) (fun av => av = [(4, (q : Int)), (0, i)]) (fun _ r => r = some (0, pm_chr q i.toNat)) := by
  refine pm_MT.of (by decide) ⟨Nat.le_refl _, by decide⟩ (fun av V h => by rw [h]; exact (by decide : pm_words [(4, 0), (0, 0)] ≤ 2)) ?_
  rintro X av V0 hC - hR rfl
  change pm_J X 0 [(0, (4, (q : Int))), (1, (0, i))] [] 118 V0
  have hl := pm_len_ok q hq
  have hb : 97 ≤ pm_chr q i.toNat ∧ pm_chr q i.toNat ≤ 122 := pm_byt_ok q hq i.toNat (by omega)
  refine pm_aloadS hC 0 (by decide) dJ0_charAt_5068e_0 rfl ?_
  refine pm_callStr (as := []) (st := []) hC hq (c_Slat hq) lm_S492 li_Slat (by decide) (by decide) rfl rfl (Nat.le_of_ble_eq_true rfl) ⟨Nat.le_refl _, Or.inl rfl⟩ dJ0_charAt_5068e_1 rfl (fun r V hp => ?_)
  obtain ⟨rfl, rfl⟩ := hp
  refine pm_if_eq (tgt := 16) hC ⟨by decide, by decide⟩ dJ0_charAt_5068e_4 (by decide) (fun c => by exact absurd c (by decide)) (fun c => ?_)
  refine pm_aloadS hC 0 (by decide) dJ0_charAt_5068e_7 rfl ?_
  refine pm_strV hC hq dJ0_charAt_5068e_8 ?_
  refine pm_iload_n hC 1 dJ0_charAt_5068e_11 rfl ?_
  refine pm_callS (as := [(4, ((18 + q : Nat) : Int)), (0, i)]) (st := []) hC (c_S1char hq hi) lm_S495 ls_S1char (by decide) (by decide) rfl rfl (Nat.le_of_ble_eq_true rfl) ⟨Nat.le_refl _, Or.inl rfl⟩ dJ0_charAt_5068e_12 rfl (fun r V hp => ?_)
  obtain ⟨rfl, rfl⟩ := hp
  refine pm_iret hC hR ?_ ⟨rfl, rfl⟩ dJ0_charAt_5068e_15
  have hall : ∀ t, t < 128 → narrow .char (.int (Int32.ofInt ((t : Nat) : Int))) = .int (Int32.ofInt ((t : Nat) : Int)) := by decide +kernel
  have h1 := hall (pm_chr q i.toNat).toNat (by omega)
  rw [Int.toNat_of_nonneg (by omega)] at h1
  exact h1
