section PCM2
variable {X : pm_X} {own : String} {cc : ByteArray} {nL d : Nat} {pc : Nat} {lv lv' : pm_L} {st stk : List pm_V} {n : Nat} {V : pm_M}
variable {d' maxL n2 idx na : Nat} {y : MethodName} {bytes : ByteArray} {ret : Option FieldType} {pre : List pm_V → pm_M → Prop} {post : List pm_V → pm_M → Option pm_V → pm_M → Prop}
theorem pm_callS (hC : pm_C X own cc nL d) {as : List pm_V} (hM : pm_MT d' y bytes maxL ret n n2 pre post) (hL : pm_LM own idx y bytes maxL ret false na) (hI : pm_LS y) (hdd : d' + 1 ≤ d) (hml : maxL ≤ 41)
    (hs : stk = as.reverse ++ st) (hna : as.length = na) (hst : pm_words st ≤ 8) (hn2 : n ≤ n2 ∧ (n2 = n ∨ n2 ≤ pm_top X)) (hd : decode cc pc = .ok (.invokestatic idx, 3))
    (hpre : pre as V) (k : ∀ (r : Option pm_V) (V' : pm_M), post as V r V' → pm_J X (pc + 3) lv (r.toList ++ st) n2 V') : pm_J X pc lv stk n V := by
  obtain ⟨p, l, e, R, s, m, args, below, meth, c, Q, G, nl, n0, n1⟩ := X
  intro d0 H locs ls h1 h2 h3 h4 h5 h6
  subst hs
  have h7 : n2 ≤ n1 := by
    rcases hn2.2 with h | h
    · omega
    · exact h
  obtain ⟨g1, g2, g3, g4⟩ := hL
  simp only [Bool.false_eq_true, if_false] at g4
  have hts := dr_words hC.2.2.2.2.2.1 d0
  have hT := hC.2.2.2.2.2.2.1
  have hsz0 : s.heap.size = G.1 + n0 := hC.2.2.2.2.2.2.2.1
  refine pm_Wsize (s := s.setDrawn d0) (fun hsz => ?_)
  have hsz1 : H.size ≤ s.heap.size + (n - n0) := hsz
  have hlow := pm_low h2 (by have := h3.1; omega)
  have hsz2 : H.size = G.1 + n := by omega
  have hroom := hC.2.2.2.2.2.2.2.2.2.1
  have hcel := hC.2.2.2.2.2.2.2.2.2.2.1 n2 (by omega) h7
  have hsl1 := pm_slm h5
  have hsl2 := pm_slm hn2.1
  have ec : n - n0 + (n2 - n) = n2 - n0 := by omega
  have es : pm_sl n - pm_sl n0 + (pm_sl n2 - pm_sl n) = pm_sl n2 - pm_sl n0 := by omega
  have hstk : pm_sts G (as.reverse ++ st) = (pm_sts G as).reverse ++ pm_sts G st := by
    simp only [pm_sts, List.map_append, List.map_reverse]
  refine pm_back (n2 := n2) (rest := pm_sts G st) (P := post as V) (a := (pm_sts G as).toArray) h1 (va_runS_D (s := s.setDrawn d0) (own := own) (y := y) (bytes := bytes) (maxL := maxL) (ret := ret) (n := na) (As := pm_sts G as) (rest := pm_sts G st) ⟨hC.1, hC.2.1, hC.2.2.1, hC.2.2.2.2.1, hts⟩ (hM l G _ V hpre)
    ⟨callB_of na hts (pm_GI g1) rfl rfl rfl (hts _ g2) (hts _ g4) g3 ⟨by show d' + 1 ≤ R.frames; omega, by show 8 + (maxL + 11) + 60 * d' ≤ R.locals; omega⟩, hts _ hI⟩ ⟨pm_Q_blind G _ n V, fun U hU hW => ⟨rfl, by rw [hU]; exact hsz2, by rw [hU]; exact h2, pm_T.move hT hW (fun q q1 q2 => by rw [hU]; exact h3.2.1 q q1 q2)⟩⟩ rfl (by simpa [pm_sts] using hna) (h4.1.trans hC.2.2.2.1) hstk (pm_room8 hst) hd ⟨by rw [ec]; exact hcel.1, by rw [es]; exact hcel.2⟩) h3 (fun r V' H1 locs1 d1 q1 q2 q3 q4 => ?_)
  have k1 := k r V' q2 d1 H1 locs1 ls q1 q3 q4 h4 (by omega) h7
  rw [ec, es]
  have er : pm_sts G (r.toList ++ st) = (r.map (pm_rv G)).toList ++ pm_sts G st := by
    cases r <;> rfl
  rw [← er]
  exact k1
theorem pm_callSN (hC : pm_C X own cc nL d) {as : List pm_V} (hM : pm_MT d' y bytes maxL ret n n2 pre post) (hL : pm_LM own idx y bytes maxL ret true na) (hI : pm_LS y) (hdd : d' + 1 ≤ d) (hml : maxL ≤ 41)
    (hs : stk = as.reverse ++ st) (hna : as.length = na) (hst : pm_words st ≤ 8) (hn2 : n ≤ n2 ∧ (n2 = n ∨ n2 ≤ pm_top X)) (hd : decode cc pc = .ok (.invokestatic idx, 3))
    (hpre : pre as V) (k : ∀ (r : Option pm_V) (V' : pm_M), post as V r V' → pm_J X (pc + 3) lv (r.toList ++ st) n2 V') : pm_J X pc lv stk n V := by
  obtain ⟨p, l, e, R, s, m, args, below, meth, c, Q, G, nl, n0, n1⟩ := X
  intro d0 H locs ls h1 h2 h3 h4 h5 h6
  subst hs
  have h7 : n2 ≤ n1 := by
    rcases hn2.2 with h | h
    · omega
    · exact h
  obtain ⟨g1, g2, g3, g4⟩ := hL
  simp only [if_true] at g4
  have hts := dr_words hC.2.2.2.2.2.1 d0
  have hT := hC.2.2.2.2.2.2.1
  have hsz0 : s.heap.size = G.1 + n0 := hC.2.2.2.2.2.2.2.1
  refine pm_Wsize (s := s.setDrawn d0) (fun hsz => ?_)
  have hsz1 : H.size ≤ s.heap.size + (n - n0) := hsz
  have hlow := pm_low h2 (by have := h3.1; omega)
  have hsz2 : H.size = G.1 + n := by omega
  have hroom := hC.2.2.2.2.2.2.2.2.2.1
  have hcel := hC.2.2.2.2.2.2.2.2.2.2.1 n2 (by omega) h7
  have hsl1 := pm_slm h5
  have hsl2 := pm_slm hn2.1
  have ec : n - n0 + (n2 - n) = n2 - n0 := by omega
  have es : pm_sl n - pm_sl n0 + (pm_sl n2 - pm_sl n) = pm_sl n2 - pm_sl n0 := by omega
  have hstk : pm_sts G (as.reverse ++ st) = (pm_sts G as).reverse ++ pm_sts G st := by
    simp only [pm_sts, List.map_append, List.map_reverse]
  refine pm_back (n2 := n2) (rest := pm_sts G st) (P := post as V) (a := (pm_sts G as).toArray) h1 (va_runSN_D (s := s.setDrawn d0) (own := own) (y := y) (bytes := bytes) (maxL := maxL) (ret := ret) (n := na) (As := pm_sts G as) (rest := pm_sts G st) ⟨hC.1, hC.2.1, hC.2.2.1, hC.2.2.2.2.1, hts⟩ (hM l G _ V hpre)
    ⟨va_cnB (host := "LipsVoice") na hts (pm_GI g1) rfl rfl rfl (hT.2.1 _ g4 rfl) (hts _ g2) g3 ⟨by show d' + 1 ≤ R.frames; omega, by show 8 + (maxL + 11) + 60 * d' ≤ R.locals; omega⟩, hts _ hI, trivial⟩ ⟨pm_Q_blind G _ n V, fun U hU hW => ⟨rfl, by rw [hU]; exact hsz2, by rw [hU]; exact h2, pm_T.move hT hW (fun q q1 q2 => by rw [hU]; exact h3.2.1 q q1 q2)⟩⟩ rfl (by simpa [pm_sts] using hna) (h4.1.trans hC.2.2.2.1) hstk (pm_room8 hst) hd ⟨by rw [ec]; exact hcel.1, by rw [es]; exact hcel.2⟩) h3 (fun r V' H1 locs1 d1 q1 q2 q3 q4 => ?_)
  have k1 := k r V' q2 d1 H1 locs1 ls q1 q3 q4 h4 (by omega) h7
  rw [ec, es]
  have er : pm_sts G (r.toList ++ st) = (r.map (pm_rv G)).toList ++ pm_sts G st := by
    cases r <;> rfl
  rw [← er]
  exact k1
theorem pm_callI (hC : pm_C X own cc nL d) {z : Int} {as : List pm_V} (a : Nat) (hM : pm_MT d' y bytes maxL none n n2 pre post) (hL : pm_LM own idx y bytes maxL none false na) (hI : Cond.instanceMethod y ∈ pm_all) (hy1 : y.name = "<init>") (hdd : d' + 1 ≤ d) (hml : maxL ≤ 41)
    (hz : z = (a : Int)) (han : a < n) (hs : stk = as.reverse ++ (3, z) :: st) (hna : as.length = na) (hst : pm_words st ≤ 8) (hn2 : n ≤ n2 ∧ (n2 = n ∨ n2 ≤ pm_top X)) (hd : decode cc pc = .ok (.invokespecial idx, 3))
    (hpre : pre ((3, z) :: as) V) (k : ∀ (r : Option pm_V) (V' : pm_M), post ((3, z) :: as) V r V' → pm_J X (pc + 3) lv (r.toList ++ st) n2 V') : pm_J X pc lv stk n V := by
  obtain ⟨p, l, e, R, s, m, args, below, meth, c, Q, G, nl, n0, n1⟩ := X
  intro d0 H locs ls h1 h2 h3 h4 h5 h6
  subst hz
  subst hs
  have e1 : pm_rv G (3, (a : Int)) = .ref (G.1 + a) := pm_ref (Int.natCast_nonneg a)
  have h7 : n2 ≤ n1 := by
    rcases hn2.2 with h | h
    · omega
    · exact h
  obtain ⟨g1, g2, g3, g4⟩ := hL
  simp only [Bool.false_eq_true, if_false] at g4
  have hts := dr_words hC.2.2.2.2.2.1 d0
  have hT := hC.2.2.2.2.2.2.1
  have hsz0 : s.heap.size = G.1 + n0 := hC.2.2.2.2.2.2.2.1
  refine pm_Wsize (s := s.setDrawn d0) (fun hsz => ?_)
  have hsz1 : H.size ≤ s.heap.size + (n - n0) := hsz
  have hlow := pm_low h2 (by have := h3.1; omega)
  have hsz2 : H.size = G.1 + n := by omega
  have hroom := hC.2.2.2.2.2.2.2.2.2.1
  have hcel := hC.2.2.2.2.2.2.2.2.2.2.1 n2 (by omega) h7
  have hsl1 := pm_slm h5
  have hsl2 := pm_slm hn2.1
  have ec : n - n0 + (n2 - n) = n2 - n0 := by omega
  have es : pm_sl n - pm_sl n0 + (pm_sl n2 - pm_sl n) = pm_sl n2 - pm_sl n0 := by omega
  have hstk : pm_sts G (as.reverse ++ (3, (a : Int)) :: st) = (pm_sts G as).reverse ++ .ref (G.1 + a) :: pm_sts G st := by
    simp only [pm_sts, List.map_append, List.map_reverse, List.map_cons, e1]
  refine pm_back (n2 := n2) (rest := pm_sts G st) (P := post ((3, (a : Int)) :: as) V) (a := (Value.ref (G.1 + a) :: pm_sts G as).toArray) h1 (va_runI_D (s := s.setDrawn d0) (own := own) (y := y) (bytes := bytes) (maxL := maxL) (n := na) (As := pm_sts G as) (rest := pm_sts G st) (b := G.1 + a) ⟨hC.1, hC.2.1, hC.2.2.1, hC.2.2.2.2.1, hts⟩ (hM l G _ V hpre)
    ⟨callB_of na hts (pm_GI g1) rfl rfl rfl (hts _ g2) (hts _ g4) g3 ⟨by show d' + 1 ≤ R.frames; omega, by show 8 + (maxL + 11) + 60 * d' ≤ R.locals; omega⟩, hy1, hts _ hI⟩ ⟨pm_Q_blind G _ n V, fun U hU hW => ⟨by simp only [pm_sts, List.map_cons, e1], by rw [hU]; exact hsz2, by rw [hU]; exact h2, pm_T.move hT hW (fun q q1 q2 => by rw [hU]; exact h3.2.1 q q1 q2)⟩⟩ rfl (by simpa [pm_sts] using hna) (h4.1.trans hC.2.2.2.1) hstk (pm_room8 hst) hd ⟨by rw [ec]; exact hcel.1, by rw [es]; exact hcel.2⟩) h3 (fun r V' H1 locs1 d1 q1 q2 q3 q4 => ?_)
  have k1 := k r V' q2 d1 H1 locs1 ls q1 q3 q4 h4 (by omega) h7
  rw [ec, es]
  have er : pm_sts G (r.toList ++ st) = (r.map (pm_rv G)).toList ++ pm_sts G st := by
    cases r <;> rfl
  rw [← er]
  exact k1
theorem pm_callIN (hC : pm_C X own cc nL d) {z : Int} {as : List pm_V} (a : Nat) (hM : pm_MT d' y bytes maxL none n n2 pre post) (hL : pm_LM own idx y bytes maxL none true na) (hI : Cond.instanceMethod y ∈ pm_all) (hy1 : y.name = "<init>") (hdd : d' + 1 ≤ d) (hml : maxL ≤ 41)
    (hz : z = (a : Int)) (han : a < n) (hs : stk = as.reverse ++ (3, z) :: st) (hna : as.length = na) (hst : pm_words st ≤ 8) (hn2 : n ≤ n2 ∧ (n2 = n ∨ n2 ≤ pm_top X)) (hd : decode cc pc = .ok (.invokespecial idx, 3))
    (hpre : pre ((3, z) :: as) V) (k : ∀ (r : Option pm_V) (V' : pm_M), post ((3, z) :: as) V r V' → pm_J X (pc + 3) lv (r.toList ++ st) n2 V') : pm_J X pc lv stk n V := by
  obtain ⟨p, l, e, R, s, m, args, below, meth, c, Q, G, nl, n0, n1⟩ := X
  intro d0 H locs ls h1 h2 h3 h4 h5 h6
  subst hz
  subst hs
  have e1 : pm_rv G (3, (a : Int)) = .ref (G.1 + a) := pm_ref (Int.natCast_nonneg a)
  have h7 : n2 ≤ n1 := by
    rcases hn2.2 with h | h
    · omega
    · exact h
  obtain ⟨g1, g2, g3, g4⟩ := hL
  simp only [if_true] at g4
  have hts := dr_words hC.2.2.2.2.2.1 d0
  have hT := hC.2.2.2.2.2.2.1
  have hsz0 : s.heap.size = G.1 + n0 := hC.2.2.2.2.2.2.2.1
  refine pm_Wsize (s := s.setDrawn d0) (fun hsz => ?_)
  have hsz1 : H.size ≤ s.heap.size + (n - n0) := hsz
  have hlow := pm_low h2 (by have := h3.1; omega)
  have hsz2 : H.size = G.1 + n := by omega
  have hroom := hC.2.2.2.2.2.2.2.2.2.1
  have hcel := hC.2.2.2.2.2.2.2.2.2.2.1 n2 (by omega) h7
  have hsl1 := pm_slm h5
  have hsl2 := pm_slm hn2.1
  have ec : n - n0 + (n2 - n) = n2 - n0 := by omega
  have es : pm_sl n - pm_sl n0 + (pm_sl n2 - pm_sl n) = pm_sl n2 - pm_sl n0 := by omega
  have hstk : pm_sts G (as.reverse ++ (3, (a : Int)) :: st) = (pm_sts G as).reverse ++ .ref (G.1 + a) :: pm_sts G st := by
    simp only [pm_sts, List.map_append, List.map_reverse, List.map_cons, e1]
  refine pm_back (n2 := n2) (rest := pm_sts G st) (P := post ((3, (a : Int)) :: as) V) (a := (Value.ref (G.1 + a) :: pm_sts G as).toArray) h1 (va_runIN_D (s := s.setDrawn d0) (own := own) (y := y) (bytes := bytes) (maxL := maxL) (n := na) (As := pm_sts G as) (rest := pm_sts G st) (b := G.1 + a) ⟨hC.1, hC.2.1, hC.2.2.1, hC.2.2.2.2.1, hts⟩ (hM l G _ V hpre)
    ⟨va_cnB (host := "LipsVoice") na hts (pm_GI g1) rfl rfl rfl (hT.2.1 _ g4 rfl) (hts _ g2) g3 ⟨by show d' + 1 ≤ R.frames; omega, by show 8 + (maxL + 11) + 60 * d' ≤ R.locals; omega⟩, hy1, hts _ hI⟩ ⟨pm_Q_blind G _ n V, fun U hU hW => ⟨by simp only [pm_sts, List.map_cons, e1], by rw [hU]; exact hsz2, by rw [hU]; exact h2, pm_T.move hT hW (fun q q1 q2 => by rw [hU]; exact h3.2.1 q q1 q2)⟩⟩ rfl (by simpa [pm_sts] using hna) (h4.1.trans hC.2.2.2.1) hstk (pm_room8 hst) hd ⟨by rw [ec]; exact hcel.1, by rw [es]; exact hcel.2⟩) h3 (fun r V' H1 locs1 d1 q1 q2 q3 q4 => ?_)
  have k1 := k r V' q2 d1 H1 locs1 ls q1 q3 q4 h4 (by omega) h7
  rw [ec, es]
  have er : pm_sts G (r.toList ++ st) = (r.map (pm_rv G)).toList ++ pm_sts G st := by
    cases r <;> rfl
  rw [← er]
  exact k1

/-! making: Object's constructor, new objects and arrays; literals; the script -/
theorem pm_objInit (hC : pm_C X own cc nL d) {z : Int} (i j k0 : Nat) (hz : 0 ≤ z) (h1d : 1 ≤ d) (hl : (decide (pm_look i = some (.methodLink own idx objectInit)) && goodWord (.methodLink own idx objectInit)) = true) (hi : (decide (pm_look j = some (.instanceMethod objectInit)) && goodWord (.instanceMethod objectInit)) = true) (hc : (decide (pm_look k0 = some (.code objectInit ⟨#[0xb1]⟩ 1 none)) && goodWord (.code objectInit ⟨#[0xb1]⟩ 1 none)) = true) (hst : pm_words st ≤ 8) (hd : decode cc pc = .ok (.invokespecial idx, 3)) (k : pm_J X (pc + 3) lv st n V) : pm_J X pc lv ((3, z) :: st) n V := by
  obtain ⟨p, l, e, R, s, m, args, below, meth, c, Q, G, nl, n0, n1⟩ := X
  intro d0 H locs ls h1 h2 h3 h4 h5 h6
  have e1 := pm_ref (G := G) hz
  have hts := dr_words hC.2.2.2.2.2.1 d0
  have hroom := hC.2.2.2.2.2.2.2.2.2.1
  have h8 := pm_room8 (G := G) (m := m) (pc := pc) (ls := ls) (sv := pm_sts G st) hst
  have e2 : pm_sts G ((3, z) :: st) = .ref (G.1 + z.toNat) :: pm_sts G st := by simp only [pm_sts, List.map_cons, e1]
  rw [e2]
  have w1 := hts _ (pm_in i hl)
  have w2 := hts _ (pm_in j hi)
  have w3 := hts _ (pm_in k0 hc)
  have hsz : ls.size = c.maxLocals := h4.1.trans (hC.2.2.2.1.trans hC.2.2.1.symm)
  have hf : 1 ≤ R.frames := by omega
  have k1 := k d0 H locs ls h1 h2 h3 h4 h5 h6
  have hlo : 2 * (F0 m pc ls (Value.ref (G.1 + z.toNat) :: pm_sts G st)).monitorRoom + ((pm_sts G st).map fun v => v.category).sum + 12 ≤ R.locals := by
    have h9 : (F0 m pc ls (Value.ref (G.1 + z.toNat) :: pm_sts G st)).monitorRoom = (F0 m pc ls (pm_sts G st)).monitorRoom := rfl
    omega
  exact W.objInit (s := s.setDrawn d0) (rest := pm_sts G st) (g := F0 m pc ls (Value.ref (G.1 + z.toNat) :: pm_sts G st)) hC.1 hC.2.1 hC.2.2.2.2.1 w1 w2 w3 rfl hsz rfl hd hf hlo k1
theorem pm_sl_s {n : Nat} {q : Nat × Nat × Nat} (h : pm_lay[n]? = some q) : pm_sl (n + 1) = pm_sl n + q.2.2 := by
  have hl := (List.getElem?_eq_some_iff.mp h).1
  unfold pm_sl
  rw [List.take_succ_eq_append_getElem hl, List.map_append, List.sum_append]
  have e : pm_lay[n] = q := (List.getElem?_eq_some_iff.mp h).2
  rw [e]
  simp
def pm_clr (V : pm_M) (k : Nat) (x : Nat → Int) : pm_M := fun a j => if a = k then x j else V a j
theorem pm_ws_push {G : pm_G} {n : Nat} {V : pm_M} {x : Nat → Int} : pm_ws G (n + 1) (pm_clr V n x) = pm_ws G n V ++ [(G.1 + n, pm_cell G (pm_clr V n x) n)] := by
  simp only [pm_ws, List.range_succ, List.map_append, List.map_cons, List.map_nil]
  congr 1
  apply List.map_congr_left
  intro k hk
  have hk : k ≠ n := Nat.ne_of_lt (List.mem_range.mp hk)
  have e : pm_clr V n x k = V k := by funext j; simp [pm_clr, hk]
  unfold pm_cell
  rw [e]
theorem pm_next {G : pm_G} {n q : Nat} {V : pm_M} {x : va_E} {H H1 : Heap} (h2 : pm_H G n V H) (r1 : va_P G.2.1 pm_cl (pm_ws G n V ++ [(q, x)]) H1) (r2 : va_D (pm_A G) (pm_ws G n V ++ [(q, x)])) (hz : H1.size ≤ G.1 + n + 1) : q = G.1 + n := by
  have hlen : (pm_ws G n V).length = n := by simp [pm_ws]
  have hat : (pm_ws G n V ++ [(q, x)])[n]? = some (q, x) := by rw [List.getElem?_append_right (by omega), hlen, Nat.sub_self]; rfl
  have q1 : q < H1.size := (r1 n _ hat).lt
  have q2 : G.1 ≤ q := r2.2 n _ hat
  rcases Nat.lt_or_ge q (G.1 + n) with h | h
  · have hk : q - G.1 < n := by omega
    have h1 : (pm_ws G n V ++ [(q, x)])[q - G.1]? = some (G.1 + (q - G.1), pm_cell G V (q - G.1)) := by rw [List.getElem?_append_left (by omega), pm_ws_at hk]
    have h3 := r2.1 _ _ _ _ h1 hat (show G.1 + (q - G.1) = q by omega)
    omega
  · omega
/-- a field's value at its object's making -/
def pm_dv : FieldType → Int
  | .object _ => -1
  | .array _ => -1
  | _ => 0
theorem pm_dv_v {G : pm_G} {ty : FieldType} (h : ty ≠ .float ∧ ty ≠ .double) : defaultValue ty = pm_rv G (pm_tag ty, pm_dv ty) := by
  cases ty <;> first | rfl | exact absurd rfl h.1 | exact absurd rfl h.2
theorem pm_new (hC : pm_C X own cc nL d) {ci N : Nat} {C : String} {T : u_T} (i j k0 : Nat) (hcl : pm_cl[ci]? = some (C, T, N)) (ha : pm_lay[n]? = some (0, ci, N)) (hty : ∀ k, k < N → pm_ty ci k ≠ .float ∧ pm_ty ci k ≠ .double) (hl : (decide (pm_look i = some (.classLink own idx C)) && goodWord (.classLink own idx C)) = true) (hi : (decide (pm_look j = some (.instantiable C N)) && goodWord (.instantiable C N)) = true) (hc : (decide (pm_look k0 = some (.initialized C)) && goodWord (.initialized C)) = true) (htop : n + 1 ≤ pm_top X) (hd : decode cc pc = .ok (.new idx, 3)) (k : pm_J X (pc + 3) lv ((3, (n : Int)) :: st) (n + 1) (pm_clr V n fun i => pm_dv (pm_ty ci i))) : pm_J X pc lv st n V := by
  obtain ⟨p, l, e, R, s, m, args, below, meth, c, Q, G, nl, n0, n1⟩ := X
  intro d0 H locs ls h1 h2 h3 h4 h5 h6
  have htop : n + 1 ≤ n1 := htop
  have hts := dr_words hC.2.2.2.2.2.1 d0
  have hT := hC.2.2.2.2.2.2.1
  have hsz0 : s.heap.size = G.1 + n0 := hC.2.2.2.2.2.2.2.1
  obtain ⟨g1, g2, g3⟩ := pm_uws ci C T N hcl
  refine pm_Wsize (s := s.setDrawn d0) (fun hsz => ?_)
  have hsz1 : H.size ≤ s.heap.size + (n - n0) := hsz
  have hlow := pm_low h2 (by have := h3.1; omega)
  have hsz2 : H.size = G.1 + n := by omega
  have hcel := hC.2.2.2.2.2.2.2.2.2.2.1 (n + 1) (by omega) htop
  have hsl := pm_sl_s ha
  have hsl1 := pm_slm h5
  have hsl : pm_sl (n + 1) = pm_sl n + N := hsl
  refine va_new (s := s.setDrawn d0) (ci := ci) (fs := (List.range N).map fun i => pm_rv G (pm_tag (pm_ty ci i), pm_dv (pm_ty ci i))) (C := C) (T := T) (N := N) hC.1 hC.2.1 hts g1 (pm_ty ci) g2 hC.2.2.2.2.1 (hts _ (pm_in i hl)) (hts _ (pm_in j hi)) (hts _ (pm_in k0 hc)) hT.1 h2 pm_D h3 (fun q hq => by have hq : s.heap.size ≤ q := hq; show G.1 ≤ q; omega) hcl (fun j hj => ?_) (by omega) (by omega) hd (fun q H1 r1 r2 r3 => ?_)
  · show _ = ((List.range N).map fun i => pm_rv G (pm_tag (pm_ty ci i), pm_dv (pm_ty ci i))).getD j .null
    rw [List.getD_eq_getElem?_getD, List.getElem?_map, List.getElem?_range hj]
    exact pm_dv_v (hty j hj)
  · refine pm_Wsize (s := s.setDrawn d0) (fun hsz9 => ?_)
    have hq : q = G.1 + n := pm_next h2 r1 r2 (by have h9 : H1.size ≤ s.heap.size + (n - n0 + 1) := hsz9; omega)
    subst hq
    have e2 : pm_ws G n V ++ [(G.1 + n, .inr (ci, (List.range N).map fun i => pm_rv G (pm_tag (pm_ty ci i), pm_dv (pm_ty ci i))))] = pm_ws G (n + 1) (pm_clr V n fun i => pm_dv (pm_ty ci i)) := by
      rw [pm_ws_push, pm_cell_o ha]
      have e9 : ((List.range N).map fun i => pm_rv G (pm_tag (pm_ty ci i), pm_clr V n (fun i => pm_dv (pm_ty ci i)) n i)) = (List.range N).map fun i => pm_rv G (pm_tag (pm_ty ci i), pm_dv (pm_ty ci i)) := by
        apply List.map_congr_left
        intro a _
        simp [pm_clr]
      rw [e9]
    rw [e2] at r1
    have k1 := k d0 H1 locs ls h1 r1 r3 h4 (by omega) htop
    have e3 : pm_rv G (3, (n : Int)) = .ref (G.1 + n) := pm_ref (Int.natCast_nonneg n)
    simp only [pm_sts, List.map_cons, e3] at k1
    have e4 : n + 1 - n0 = n - n0 + 1 := by omega
    have e5 : pm_sl (n + 1) - pm_sl n0 = pm_sl n - pm_sl n0 + N := by omega
    rw [e4, e5] at k1
    exact k1
end PCM2
