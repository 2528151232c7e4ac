/-! contracts, returns, calls -/
theorem pm_take_sum (l : List Nat) (a : Nat) : (l.take a).sum ≤ l.sum := by
  have h : l.sum = (l.take a).sum + (l.drop a).sum := by rw [← List.sum_append, List.take_append_drop]
  omega
theorem pm_slm {a b : Nat} (h : a ≤ b) : pm_sl a ≤ pm_sl b := by
  have e : pm_sl a = (((pm_lay.take b).map (fun q => q.2.2)).take a).sum := by
    rw [← List.map_take, List.take_take, Nat.min_eq_left h]
    rfl
  rw [e]
  exact pm_take_sum _ _
/-- how many cells there may be -/
def pm_top (X : pm_X) : Nat := match X with
  | (_, _, _, _, _, _, _, _, _, _, _, _, _, _, n1) => n1
def pm_rm (d mc ms : Nat) : Room := { frames := d, cells := mc, slots := ms, locals := 60 * d }
def pm_Ws (y : MethodName) (cc : ByteArray) (maxL : Nat) (ret : Option FieldType) : List Cond := .code y cc maxL ret :: pm_all
def pm_Pc (G : pm_G) (av : List pm_V) (n : Nat) (V : pm_M) : Array Value → State → Prop := va_Pc (pm_sts G av) (fun U => U.heap.size = G.1 + n ∧ pm_H G n V U.heap ∧ pm_T G U U.heap)
def pm_Q (G : pm_G) (n' : Nat) (post : Option pm_V → pm_M → Prop) : Array Value → State → Outcome → State → Prop := fun _ st o t => (∃ (r : Option pm_V) (V' : pm_M), o = .returned (r.map (pm_rv G)) ∧ post r V' ∧ pm_H G n' V' t.heap) ∧ va_F (pm_A G) st t
/-- a method's contract: from a world of n cells that 'pre' tells to one of n' cells that 'post' tells, some d calls deep -/
def pm_MT (d : Nat) (y : MethodName) (cc : ByteArray) (maxL : Nat) (ret : Option FieldType) (n n' : Nat) (pre : List pm_V → pm_M → Prop) (post : List pm_V → pm_M → Option pm_V → pm_M → Prop) : Prop :=
  ∀ (l : Launch) (G : pm_G) (av : List pm_V) (V : pm_M), pre av V → MetD lw_cs l y (pm_Ws y cc maxL ret) (pm_rm d (n' - n) (pm_sl n' - pm_sl n)) (pm_Pc G av n V) (pm_Q G n' (post av V)) (n' - n) (pm_sl n' - pm_sl n) (pm_A G)
/-- the end that a walk comes to -/
def pm_Rt (X : pm_X) (ret : Option FieldType) (n' : Nat) (P : Option pm_V → pm_M → Prop) : Prop := match X with
  | (_, _, _, _, s, _, args, below, meth, _, Q, G, _, n0, n1) => Q = MQD lw_cs below (pm_Q G n' P) args s (n' - n0) (pm_sl n' - pm_sl n0) (pm_A G) ∧ meth.sig.returnType = ret ∧ n1 = n' ∧ n0 ≤ n'
def pm_lv0 : Nat → List pm_V → pm_L
  | _, [] => []
  | i, v :: vs => (i, v) :: pm_lv0 (if pm_cat v.1 = 2 then i + 2 else i + 1) vs
theorem pm_lv0_v (G : pm_G) (vs : List pm_V) : ∀ i, lv_args i (pm_sts G vs) = pm_lvs G (pm_lv0 i vs) := by
  induction vs with
  | nil => intro i; rfl
  | cons v vs ih =>
    intro i
    show (i, pm_rv G v) :: lv_args (if (pm_rv G v).category = 2 then i + 2 else i + 1) (pm_sts G vs) = (i, pm_rv G v) :: pm_lvs G (pm_lv0 (if pm_cat v.1 = 2 then i + 2 else i + 1) vs)
    rw [pm_rv_cat, ih]
def pm_words (av : List pm_V) : Nat := (av.map fun v => pm_cat v.1).sum
theorem pm_words_v (G : pm_G) (av : List pm_V) : (lg_sl (pm_sts G av)).length = pm_words av := by
  induction av with
  | nil => rfl
  | cons v vs ih =>
    have e : lg_sl (pm_sts G (v :: vs)) = (if (pm_rv G v).category = 2 then [.val (pm_rv G v), .second] else [.val (pm_rv G v)]) ++ lg_sl (pm_sts G vs) := rfl
    rw [e, List.length_append, ih, pm_rv_cat]
    show _ = ((v :: vs).map fun v => pm_cat v.1).sum
    rw [List.map_cons, List.sum_cons]
    unfold pm_cat
    by_cases h : v.1 = 1 ∨ v.1 = 2
    · simp [h, pm_words, pm_cat]
    · simp [h, pm_words, pm_cat]
theorem pm_Q_blind (G : pm_G) (av : List pm_V) (n : Nat) (V : pm_M) : FrameBlind (pm_Pc G av n V) := by
  intro a U g mk ⟨h1, h2, h3, h4⟩
  exact ⟨h1, h2, h3, pm_T.same (s := U) h4 rfl⟩
/-- a method walked -/
theorem pm_MT.of {d : Nat} {y : MethodName} {cc : ByteArray} {maxL : Nat} {ret : Option FieldType} {n n' : Nat} {pre : List pm_V → pm_M → Prop} {post : List pm_V → pm_M → Option pm_V → pm_M → Prop}
    (hy : plainName y.cls = true) (hn : n ≤ n' ∧ n' ≤ 118) (hw : ∀ av V, pre av V → pm_words av ≤ maxL)
    (body : ∀ (X : pm_X) (av : List pm_V) (V : pm_M), pm_C X y.cls cc maxL d → (y.name = "<init>" → pm_I X) → pm_Rt X ret n' (post av V) → pre av V → pm_J X 0 (pm_lv0 0 av) [] n V) : pm_MT d y cc maxL ret n n' pre post := by
  intro l G av V hpre
  refine MetD.ofW (cc := cc) (maxL := maxL) (ret := ret) hy rfl ?_
  intro p e s m args below meth c s₁ B hml hv hd0
  obtain ⟨rfl, hsz, hH, hT⟩ := hv
  have hts := atoms_spec (ws := pm_Ws y cc maxL ret) B.pre
  have hts : ∀ w ∈ pm_all, w.before _ s = true := fun w h => hts w (List.mem_cons_of_mem _ h)
  have hl := lv_entry (pm_sts G av) (n := maxL) (by rw [pm_words_v]; exact hw av V hpre)
  rw [pm_lv0_v] at hl
  rw [lg_entry_eq]
  generalize ((lg_sl (pm_sts G av) ++ List.replicate (maxL - (lg_sl (pm_sts G av)).length) Slot.unset).toArray) = ls at hl ⊢
  have k := body (p, l, e, (headSpec (pm_Ws y cc maxL ret) (pm_rm d (n' - n) (pm_sl n' - pm_sl n))).room, s, m, (pm_sts G av).toArray, below, meth, c, MQD lw_cs below (pm_Q G n' (post av V)) (pm_sts G av).toArray s (n' - n) (pm_sl n' - pm_sl n) (pm_A G), G, maxL, n, n') av V
    ⟨B.exec, B.bytes, hml, rfl, findClass_of_methodNamed B.named, hts, hT, hsz, B.notSynchronized, ⟨Nat.le_refl _, Nat.le_refl _⟩, fun a h1 h2 => ⟨by show a - n ≤ n' - n; omega, by have := pm_slm h1; have := pm_slm h2; show pm_sl a - pm_sl n ≤ pm_sl n' - pm_sl n; omega⟩, hn.2⟩
    (fun hy1 => by show meth.name = _; rw [← hy1]; exact (name_of_methodNamed B.named B.method).1) ⟨rfl, B.returns, rfl, hn.1⟩ hpre s.drawn s.heap [] ls hd0 hH va_S.rf hl (Nat.le_refl _) hn.1
  rw [Nat.sub_self, Nat.sub_self] at k
  exact k
section PE
variable {X : pm_X} {own : String} {cc : ByteArray} {nL d : Nat} {pc : Nat} {lv lv' : pm_L} {st : List pm_V} {n : Nat} {V : pm_M} {P : Option pm_V → pm_M → Prop}
theorem pm_iret (hC : pm_C X own cc nL d) {ty : FieldType} (hR : pm_Rt X (some ty) n P) {x : Int} (hn : narrow ty (.int (Int32.ofInt x)) = .int (Int32.ofInt x)) (hp : P (some (0, x)) V) (hd : decode cc pc = .ok (.ireturn, 1)) : pm_J X pc lv [(0, x)] n V := by
  obtain ⟨p, l, e, R, s, m, args, below, meth, c, Q, G, nl, n0, n1⟩ := X
  intro d0 H locs ls h1 h2 h3 h4 h5 h6
  obtain ⟨rfl, hr, rfl, -⟩ := hR
  refine W.endD h1 ?_
  exact W.zret hC.1 hC.2.1 hr hn (fun t ht hW => ⟨⟨some (0, x), V, rfl, hp, by rw [ht]; exact h2⟩, h3.F ht⟩) (fun q hq => h3.2.2 q hq) hd hC.2.2.2.2.2.2.2.2.1
theorem pm_lret (hC : pm_C X own cc nL d) (hR : pm_Rt X (some .long) n P) {x : Int} (hp : P (some (1, x)) V) (hd : decode cc pc = .ok (.lreturn, 1)) : pm_J X pc lv [(1, x)] n V := by
  obtain ⟨p, l, e, R, s, m, args, below, meth, c, Q, G, nl, n0, n1⟩ := X
  intro d0 H locs ls h1 h2 h3 h4 h5 h6
  obtain ⟨rfl, hr, rfl, -⟩ := hR
  refine W.endD h1 ?_
  exact W.lret hC.1 hC.2.1 hr (fun t ht hW => ⟨⟨some (1, x), V, rfl, hp, by rw [ht]; exact h2⟩, h3.F ht⟩) (fun q hq => h3.2.2 q hq) hd hC.2.2.2.2.2.2.2.2.1
theorem pm_dret (hC : pm_C X own cc nL d) (hR : pm_Rt X (some .double) n P) {x : Int} (hp : P (some (2, x)) V) (hd : decode cc pc = .ok (.dreturn, 1)) : pm_J X pc lv [(2, x)] n V := by
  obtain ⟨p, l, e, R, s, m, args, below, meth, c, Q, G, nl, n0, n1⟩ := X
  intro d0 H locs ls h1 h2 h3 h4 h5 h6
  obtain ⟨rfl, hr, rfl, -⟩ := hR
  refine W.endD h1 ?_
  exact W.dret hC.1 hC.2.1 hr (fun t ht hW => ⟨⟨some (2, x), V, rfl, hp, by rw [ht]; exact h2⟩, h3.F ht⟩) (fun q hq => h3.2.2 q hq) hd hC.2.2.2.2.2.2.2.2.1
theorem pm_vret (hC : pm_C X own cc nL d) (hR : pm_Rt X none n P) (hp : P none V) (hd : decode cc pc = .ok (.return_, 1)) : pm_J X pc lv [] n V := by
  obtain ⟨p, l, e, R, s, m, args, below, meth, c, Q, G, nl, n0, n1⟩ := X
  intro d0 H locs ls h1 h2 h3 h4 h5 h6
  obtain ⟨rfl, hr, rfl, -⟩ := hR
  refine W.endD h1 ?_
  exact W.vret hC.1 hC.2.1 hr (fun t ht hW => ⟨⟨none, V, rfl, hp, by rw [ht]; exact h2⟩, h3.F ht⟩) (fun q hq => h3.2.2 q hq) hd hC.2.2.2.2.2.2.2.2.1
end PE
section PCL
variable {p : Program} {l : Launch} {e : Env} {R : Room} {s : State} {m : MethodId} {args : Array Value} {below : List Frame} {meth : Method} {c : Code} {H : Heap} {locs : List Loc} {cells slots : Nat} {Q : State → Prop}
theorem pm_Wsize {g : JFrame} (k : H.size ≤ s.heap.size + cells → W p l e R s m args below meth c H locs cells slots Q g) : W p l e R s m args below meth c H locs cells slots Q g :=
  fun T hT X => k (by rw [← hT]; exact X.heapSize) T hT X
theorem pm_low {G : pm_G} {n : Nat} {V : pm_M} (h : pm_H G n V H) (h0 : G.1 ≤ H.size) : G.1 + n ≤ H.size := by
  cases n with
  | zero => exact h0
  | succ n =>
    have h1 := (h n _ (pm_ws_at (Nat.lt_succ_self n))).lt
    show G.1 + (n + 1) ≤ H.size
    have h1 : G.1 + n < H.size := h1
    omega
theorem pm_back {G : pm_G} {d0 : Drawn} (hd0 : s.drawn.sameBut d0 lw_cs) {pc n2 mc ms : Nat} {ls : Array Slot} {st0 rest : List Value} {P : Option pm_V → pm_M → Prop} {a : Array Value}
    (hr : va_RunD lw_cs p l e R (s.setDrawn d0) m args below meth c H locs cells slots mc ms (F0 m pc ls st0) rest (pm_Q G n2 P a) (pm_A G)) (hS : va_S (pm_A G) s.heap H locs)
    (kk : ∀ (r : Option pm_V) (V' : pm_M) (H1 : Heap) (locs1 : List Loc) (d' : Drawn), s.drawn.sameBut d' lw_cs → P r V' → pm_H G n2 V' H1 → va_S (pm_A G) s.heap H1 locs1 → W p l e R (s.setDrawn d') m args below meth c H1 locs1 (cells + mc) (slots + ms) Q (F0 m (pc + 3) ls ((r.map (pm_rv G)).toList ++ rest))) :
    W p l e R (s.setDrawn d0) m args below meth c H locs cells slots Q (F0 m pc ls st0) := by
  intro T hT X
  obtain ⟨v, st₀, t, T', L, d', hd', h0, X', hL, e1, e2, ⟨⟨r, V', hv, hp, hH⟩, hz, hk⟩, stp⟩ := hr T hT X
  cases hv
  rw [h0] at hz hk
  obtain ⟨t2, a1, b1⟩ := kk r V' T'.heap (locs ++ L) d' (hd0.trans hd') hp (by rw [e1]; exact hH)
    ⟨Nat.le_trans hS.1 (by rw [e1]; exact hz), fun q h1 h2 => by rw [e1, hk q (Nat.lt_of_lt_of_le h1 hS.1) h2]; exact hS.2.1 q h1 h2, fun q hq => by
      rcases List.mem_append.mp hq with h | h
      · exact hS.2.2 q h
      · exact hL q h⟩ T' rfl X'
  exact ⟨t2, stp t2 a1, b1⟩
end PCL
/-- the words of a call: by pool index idx of class own, to method y with n numbers -/
def pm_LM (own : String) (idx : Nat) (y : MethodName) (cc : ByteArray) (maxL : Nat) (ret : Option FieldType) (nst : Bool) (na : Nat) : Prop :=
  Cond.code y cc maxL ret ∈ pm_all ∧ Cond.initialized y.cls ∈ pm_all ∧ (y.cls ≠ "java/lang/invoke/MethodHandle" ∧ y.cls ≠ "java/lang/invoke/VarHandle" ∧ (parseMethodDescriptor y.desc).map (fun d => d.parameters.length) = some na) ∧ (if nst then Cond.methodLinkNest own idx y "LipsVoice" ∈ lw_tbl else Cond.methodLink own idx y ∈ pm_all)
theorem pm_LM.of {own : String} {idx : Nat} {y : MethodName} {cc : ByteArray} {maxL : Nat} {ret : Option FieldType} {na : Nat} (i j k : Nat) (h1 : pm_look i = some (.code y cc maxL ret)) (h2 : (decide (pm_look j = some (.initialized y.cls)) && goodWord (.initialized y.cls)) = true) (h3 : y.cls ≠ "java/lang/invoke/MethodHandle" ∧ y.cls ≠ "java/lang/invoke/VarHandle" ∧ (parseMethodDescriptor y.desc).map (fun d => d.parameters.length) = some na) (h4 : (decide (pm_look k = some (.methodLink own idx y)) && goodWord (.methodLink own idx y)) = true) : pm_LM own idx y cc maxL ret false na :=
  ⟨pm_inR i h1 rfl, pm_in j h2, h3, pm_in k h4⟩
theorem pm_LM.ofN {own : String} {idx : Nat} {y : MethodName} {cc : ByteArray} {maxL : Nat} {ret : Option FieldType} {na : Nat} (i j k : Nat) (h1 : pm_look i = some (.code y cc maxL ret)) (h2 : (decide (pm_look j = some (.initialized y.cls)) && goodWord (.initialized y.cls)) = true) (h3 : y.cls ≠ "java/lang/invoke/MethodHandle" ∧ y.cls ≠ "java/lang/invoke/VarHandle" ∧ (parseMethodDescriptor y.desc).map (fun d => d.parameters.length) = some na) (h4 : pm_look k = some (.methodLinkNest own idx y "LipsVoice")) : pm_LM own idx y cc maxL ret true na :=
  ⟨pm_inR i h1 rfl, pm_in j h2, h3, pm_look_mem h4⟩
/-- of an instance's method: 'instanceMethod' and 'selects' too -/
def pm_LI (y : MethodName) (C : String) : Prop := Cond.instanceMethod y ∈ pm_all ∧ Cond.selects C y y ∈ pm_all
def pm_LS (y : MethodName) : Prop := Cond.static y ∈ pm_all
theorem pm_GI {y : MethodName} {cc : ByteArray} {maxL : Nat} {ret : Option FieldType} (h : Cond.code y cc maxL ret ∈ pm_all) : GoodIn pm_all (pm_Ws y cc maxL ret) := by
  intro w hw
  rcases List.mem_cons.mp hw with rfl | hw
  · exact pm_good _ h
  · exact pm_good _ hw
section PCM
variable {X : pm_X} {own : String} {cc : ByteArray} {nL d : Nat} {pc : Nat} {lv lv' : pm_L} {st stk : List pm_V} {n : Nat} {V : pm_M}
variable {d' maxL n2 idx na : Nat} {y : MethodName} {bytes : ByteArray} {ret : Option FieldType} {pre : List pm_V → pm_M → Prop} {post : List pm_V → pm_M → Option pm_V → pm_M → Prop}
theorem pm_room8 {G : pm_G} {m : MethodId} {pc : Nat} {ls : Array Slot} {sv : List Value} (h : pm_words st ≤ 8) : 2 * (F0 m pc ls sv).monitorRoom + ((pm_sts G st).map fun v => v.category).sum ≤ 8 := by
  refine lv_room ?_
  have e : (pm_sts G st).map (fun v => v.category) = st.map fun v => pm_cat v.1 := by
    simp only [pm_sts, List.map_map]
    apply List.map_congr_left
    intro v _
    exact pm_rv_cat
  rw [e]
  exact h
theorem pm_callV (hC : pm_C X own cc nL d) {ci N : Nat} {z : Int} {as : List pm_V} (a : Nat) (hM : pm_MT d' y bytes maxL ret n n2 pre post) (hL : pm_LM own idx y bytes maxL ret false na) (hI : pm_LI y (pm_cl.getD ci ("", TX0, 0)).1) (hdd : d' + 1 ≤ d) (hml : maxL ≤ 41)
    (ha : pm_lay[a]? = some (0, ci, N)) (hcl : (pm_cl[ci]?).isSome = true) (hz : z = (a : Int)) (han : a < n) (hs : stk = as.reverse ++ (3, z) :: st) (hna : as.length = na) (hst : pm_words st ≤ 8) (hn2 : n ≤ n2 ∧ (n2 = n ∨ n2 ≤ pm_top X)) (hd : decode cc pc = .ok (.invokevirtual idx, 3))
    (hpre : pre ((3, z) :: as) V) (k : ∀ (r : Option pm_V) (V' : pm_M), post ((3, z) :: as) V r V' → pm_J X (pc + 3) lv (r.toList ++ st) n2 V') : pm_J X pc lv stk n V := by
  obtain ⟨p, l, e, R, s, m, args, below, meth, c, Q, G, nl, n0, n1⟩ := X
  intro d0 H locs ls h1 h2 h3 h4 h5 h6
  subst hz
  subst hs
  have e1 : pm_rv G (3, (a : Int)) = .ref (G.1 + a) := pm_ref (Int.natCast_nonneg a)
  have h7 : n2 ≤ n1 := by
    rcases hn2.2 with h | h
    · omega
    · exact h
  obtain ⟨g1, g2, g3, g4⟩ := hL
  simp only [Bool.false_eq_true, if_false] at g4
  obtain ⟨⟨C, T, N2⟩, hcl⟩ := Option.isSome_iff_exists.mp hcl
  have hCn : (pm_cl.getD ci ("", TX0, 0)).1 = C := by rw [List.getD_eq_getElem?_getD, hcl]; rfl
  rw [hCn] at hI
  have hts := dr_words hC.2.2.2.2.2.1 d0
  have hT := hC.2.2.2.2.2.2.1
  have hsz0 : s.heap.size = G.1 + n0 := hC.2.2.2.2.2.2.2.1
  refine pm_Wsize (s := s.setDrawn d0) (fun hsz => ?_)
  have hsz1 : H.size ≤ s.heap.size + (n - n0) := hsz
  have hlow := pm_low h2 (by have := h3.1; omega)
  have hsz2 : H.size = G.1 + n := by omega
  have hroom := hC.2.2.2.2.2.2.2.2.2.1
  have hcel := hC.2.2.2.2.2.2.2.2.2.2.1 n2 (by omega) h7
  have hsl1 := pm_slm h5
  have hsl2 := pm_slm hn2.1
  have ec : n - n0 + (n2 - n) = n2 - n0 := by omega
  have es : pm_sl n - pm_sl n0 + (pm_sl n2 - pm_sl n) = pm_sl n2 - pm_sl n0 := by omega
  have hstk : pm_sts G (as.reverse ++ (3, (a : Int)) :: st) = (pm_sts G as).reverse ++ .ref (G.1 + a) :: pm_sts G st := by
    simp only [pm_sts, List.map_append, List.map_reverse, List.map_cons, e1]
  refine pm_back (n2 := n2) (rest := pm_sts G st) (P := post ((3, (a : Int)) :: as) V) (a := (Value.ref (G.1 + a) :: pm_sts G as).toArray) h1 (va_runV_D (s := s.setDrawn d0) (own := own) (C := C) (y := y) (bytes := bytes) (maxL := maxL) (ret := ret) (n := na) (As := pm_sts G as) (rest := pm_sts G st) (b := G.1 + a) ⟨hC.1, hC.2.1, hC.2.2.1, hC.2.2.2.2.1, hts⟩ (hM l G _ V hpre)
    ⟨callB_of na hts (pm_GI g1) rfl rfl rfl (hts _ g2) (hts _ g4) g3 ⟨by show d' + 1 ≤ R.frames; omega, by show 8 + (maxL + 11) + 60 * d' ≤ R.locals; omega⟩, hts _ hI.1, hts _ hI.2⟩ ⟨pm_Q_blind G _ n V, va_recv (q := (C, T, N2)) (s := s.setDrawn d0) hT.1 h2 hcl (by rw [pm_ws_at han, pm_cell_o ha]), fun U hU hW => ⟨by simp only [pm_sts, List.map_cons, e1], by rw [hU]; exact hsz2, by rw [hU]; exact h2, pm_T.move hT hW (fun q q1 q2 => by rw [hU]; exact h3.2.1 q q1 q2)⟩⟩ rfl (by simpa [pm_sts] using hna) (h4.1.trans hC.2.2.2.1) hstk (pm_room8 hst) hd ⟨by rw [ec]; exact hcel.1, by rw [es]; exact hcel.2⟩) h3 (fun r V' H1 locs1 d1 q1 q2 q3 q4 => ?_)
  have k1 := k r V' q2 d1 H1 locs1 ls q1 q3 q4 h4 (by omega) h7
  rw [ec, es]
  have er : pm_sts G (r.toList ++ st) = (r.map (pm_rv G)).toList ++ pm_sts G st := by
    cases r <;> rfl
  rw [← er]
  exact k1
theorem pm_callVN (hC : pm_C X own cc nL d) {ci N : Nat} {z : Int} {as : List pm_V} (a : Nat) (hM : pm_MT d' y bytes maxL ret n n2 pre post) (hL : pm_LM own idx y bytes maxL ret true na) (hI : pm_LI y (pm_cl.getD ci ("", TX0, 0)).1) (hdd : d' + 1 ≤ d) (hml : maxL ≤ 41)
    (ha : pm_lay[a]? = some (0, ci, N)) (hcl : (pm_cl[ci]?).isSome = true) (hz : z = (a : Int)) (han : a < n) (hs : stk = as.reverse ++ (3, z) :: st) (hna : as.length = na) (hst : pm_words st ≤ 8) (hn2 : n ≤ n2 ∧ (n2 = n ∨ n2 ≤ pm_top X)) (hd : decode cc pc = .ok (.invokevirtual idx, 3))
    (hpre : pre ((3, z) :: as) V) (k : ∀ (r : Option pm_V) (V' : pm_M), post ((3, z) :: as) V r V' → pm_J X (pc + 3) lv (r.toList ++ st) n2 V') : pm_J X pc lv stk n V := by
  obtain ⟨p, l, e, R, s, m, args, below, meth, c, Q, G, nl, n0, n1⟩ := X
  intro d0 H locs ls h1 h2 h3 h4 h5 h6
  subst hz
  subst hs
  have e1 : pm_rv G (3, (a : Int)) = .ref (G.1 + a) := pm_ref (Int.natCast_nonneg a)
  have h7 : n2 ≤ n1 := by
    rcases hn2.2 with h | h
    · omega
    · exact h
  obtain ⟨g1, g2, g3, g4⟩ := hL
  simp only [if_true] at g4
  obtain ⟨⟨C, T, N2⟩, hcl⟩ := Option.isSome_iff_exists.mp hcl
  have hCn : (pm_cl.getD ci ("", TX0, 0)).1 = C := by rw [List.getD_eq_getElem?_getD, hcl]; rfl
  rw [hCn] at hI
  have hts := dr_words hC.2.2.2.2.2.1 d0
  have hT := hC.2.2.2.2.2.2.1
  have hsz0 : s.heap.size = G.1 + n0 := hC.2.2.2.2.2.2.2.1
  refine pm_Wsize (s := s.setDrawn d0) (fun hsz => ?_)
  have hsz1 : H.size ≤ s.heap.size + (n - n0) := hsz
  have hlow := pm_low h2 (by have := h3.1; omega)
  have hsz2 : H.size = G.1 + n := by omega
  have hroom := hC.2.2.2.2.2.2.2.2.2.1
  have hcel := hC.2.2.2.2.2.2.2.2.2.2.1 n2 (by omega) h7
  have hsl1 := pm_slm h5
  have hsl2 := pm_slm hn2.1
  have ec : n - n0 + (n2 - n) = n2 - n0 := by omega
  have es : pm_sl n - pm_sl n0 + (pm_sl n2 - pm_sl n) = pm_sl n2 - pm_sl n0 := by omega
  have hstk : pm_sts G (as.reverse ++ (3, (a : Int)) :: st) = (pm_sts G as).reverse ++ .ref (G.1 + a) :: pm_sts G st := by
    simp only [pm_sts, List.map_append, List.map_reverse, List.map_cons, e1]
  refine pm_back (n2 := n2) (rest := pm_sts G st) (P := post ((3, (a : Int)) :: as) V) (a := (Value.ref (G.1 + a) :: pm_sts G as).toArray) h1 (va_runVN_D (s := s.setDrawn d0) (own := own) (C := C) (y := y) (bytes := bytes) (maxL := maxL) (ret := ret) (n := na) (As := pm_sts G as) (rest := pm_sts G st) (b := G.1 + a) ⟨hC.1, hC.2.1, hC.2.2.1, hC.2.2.2.2.1, hts⟩ (hM l G _ V hpre)
    ⟨va_cnB (host := "LipsVoice") na hts (pm_GI g1) rfl rfl rfl (hT.2.1 _ g4 rfl) (hts _ g2) g3 ⟨by show d' + 1 ≤ R.frames; omega, by show 8 + (maxL + 11) + 60 * d' ≤ R.locals; omega⟩, hts _ hI.1, hts _ hI.2⟩ ⟨pm_Q_blind G _ n V, va_recv (q := (C, T, N2)) (s := s.setDrawn d0) hT.1 h2 hcl (by rw [pm_ws_at han, pm_cell_o ha]), fun U hU hW => ⟨by simp only [pm_sts, List.map_cons, e1], by rw [hU]; exact hsz2, by rw [hU]; exact h2, pm_T.move hT hW (fun q q1 q2 => by rw [hU]; exact h3.2.1 q q1 q2)⟩⟩ rfl (by simpa [pm_sts] using hna) (h4.1.trans hC.2.2.2.1) hstk (pm_room8 hst) hd ⟨by rw [ec]; exact hcel.1, by rw [es]; exact hcel.2⟩) h3 (fun r V' H1 locs1 d1 q1 q2 q3 q4 => ?_)
  have k1 := k r V' q2 d1 H1 locs1 ls q1 q3 q4 h4 (by omega) h7
  rw [ec, es]
  have er : pm_sts G (r.toList ++ st) = (r.map (pm_rv G)).toList ++ pm_sts G st := by
    cases r <;> rfl
  rw [← er]
  exact k1
end PCM
