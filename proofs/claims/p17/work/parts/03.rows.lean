/-! THE PURE MACHINE'S JUDGEMENT AND ITS ROWS: pm_J X pc lv st n V: from the frame at pc with locals lv, stack st and world V of n cells the method comes to its end. -/
abbrev pm_X : Type := Program × Launch × Env × Room × State × MethodId × Array Value × List Frame × Method × Code × (State → Prop) × pm_G × Nat × Nat × Nat
def pm_lvs (G : pm_G) (lv : pm_L) : List (Nat × Value) := lv.map fun q => (q.1, pm_rv G q.2)
def pm_sts (G : pm_G) (st : List pm_V) : List Value := st.map (pm_rv G)
def pm_J (X : pm_X) (pc : Nat) (lv : pm_L) (st : List pm_V) (n : Nat) (V : pm_M) : Prop :=
  match X with
  | (p, l, e, R, s, m, args, below, meth, c, Q, G, nL, n0, n1) =>
    ∀ (d0 : Drawn) (H : Heap) (locs : List Loc) (ls : Array Slot), s.drawn.sameBut d0 lw_cs → pm_H G n V H → va_S (pm_A G) s.heap H locs → lv_has ls nL (pm_lvs G lv) → n0 ≤ n → n ≤ n1 → W p l e R (s.setDrawn d0) m args below meth c H locs (n - n0) (pm_sl n - pm_sl n0) Q (F0 m pc ls (pm_sts G st))
/-- the context of a walk: the machine, the code, the words, the tables, the room -/
def pm_C (X : pm_X) (own : String) (cc : ByteArray) (nL d : Nat) : Prop :=
  match X with
  | (p, _, _, R, s, m, args, _, meth, c, _, G, nL', n0, n1) =>
    p.tables.exec = Jvm.exec ∧ c.code = cc ∧ c.maxLocals = nL ∧ nL' = nL ∧ s.vm.findClass own = some m.cls ∧ (∀ w ∈ pm_all, w.before args s = true) ∧ pm_T G s s.heap ∧ s.heap.size = G.1 + n0 ∧ meth.locks = false ∧ (d ≤ R.frames ∧ 60 * d ≤ R.locals) ∧ (∀ n, n0 ≤ n → n ≤ n1 → n - n0 ≤ R.cells ∧ pm_sl n - pm_sl n0 ≤ R.slots) ∧ n1 ≤ 118
def pm_R (x : Int) : Prop := -2147483648 ≤ x ∧ x ≤ 2147483647
def pm_RL (x : Int) : Prop := -9223372036854775808 ≤ x ∧ x ≤ 9223372036854775807
theorem pm_toInt {x : Int} (h : pm_R x) : (Int32.ofInt x).toInt = x := Int32.toInt_ofInt_of_le (by have := h.1; omega) (by have := h.2; omega)
theorem pm_toIntL {x : Int} (h : pm_RL x) : (Int64.ofInt x).toInt = x := Int64.toInt_ofInt_of_le (by have := h.1; omega) (by have := h.2; omega)
theorem pm_lt {x y : Int} (hx : pm_R x) (hy : pm_R y) : Int32.ofInt x < Int32.ofInt y ↔ x < y := by rw [Int32.lt_iff_toInt_lt, pm_toInt hx, pm_toInt hy]
theorem pm_le {x y : Int} (hx : pm_R x) (hy : pm_R y) : Int32.ofInt x ≤ Int32.ofInt y ↔ x ≤ y := by rw [Int32.le_iff_toInt_le, pm_toInt hx, pm_toInt hy]
theorem pm_eq {x y : Int} (hx : pm_R x) (hy : pm_R y) : Int32.ofInt x = Int32.ofInt y ↔ x = y := by
  refine ⟨fun h => ?_, fun h => by rw [h]⟩
  have := congrArg Int32.toInt h
  rwa [pm_toInt hx, pm_toInt hy] at this
theorem pm_R0 : pm_R 0 := ⟨by decide, by decide⟩
theorem pm_0 : Int32.ofInt 0 = 0 := rfl
theorem pm_clamp {x : Int} (h : pm_R x) : (Int32.ofInt x).toNatClampNeg = x.toNat := by
  show (Int32.ofInt x).toInt.toNat = _
  rw [pm_toInt h]
theorem pm_vin {x : Int} {n : Nat} (h : 0 ≤ x ∧ x < (n : Int)) (hn : n < 2147483648) : vp_in (Int32.ofInt x) n := by
  have hx : pm_R x := ⟨by omega, by omega⟩
  intro q
  rcases q with q | q
  · rw [← pm_0, pm_lt hx pm_R0] at q
    omega
  · rw [pm_clamp hx] at q
    omega
section PR
variable {X : pm_X} {own : String} {cc : ByteArray} {nL d : Nat} {pc : Nat} {lv lv' : pm_L} {st : List pm_V} {n : Nat} {V : pm_M}
theorem pm_goW {X : pm_X} {pc : Nat} {lv : pm_L} {st : List pm_V} {n : Nat} {V : pm_M} (h : pm_J X pc lv st n V) : pm_J X pc lv st n V := h
-- constants
theorem pm_iconst (hC : pm_C X own cc nL d) {v : Int} (hd : decode cc pc = .ok (.iconst v, 1)) (k : pm_J X (pc + 1) lv ((0, v) :: st) n V) : pm_J X pc lv st n V := by
  obtain ⟨p, l, e, R, s, m, args, below, meth, c, Q, G, nl, n0, n1⟩ := X
  intro d0 H locs ls h1 h2 h3 h4 h5 h6
  exact lv_iconst hC.1 hC.2.1 hd rfl (k d0 H locs ls h1 h2 h3 h4 h5 h6)
theorem pm_bipush (hC : pm_C X own cc nL d) {v : Int} (hd : decode cc pc = .ok (.bipush v, 2)) (hv : (Int8.ofInt v).toInt32 = Int32.ofInt v) (k : pm_J X (pc + 2) lv ((0, v) :: st) n V) : pm_J X pc lv st n V := by
  obtain ⟨p, l, e, R, s, m, args, below, meth, c, Q, G, nl, n0, n1⟩ := X
  intro d0 H locs ls h1 h2 h3 h4 h5 h6
  exact lv_bipush hC.1 hC.2.1 hd hv (k d0 H locs ls h1 h2 h3 h4 h5 h6)
theorem pm_sipush (hC : pm_C X own cc nL d) {v : Int} (hd : decode cc pc = .ok (.sipush v, 3)) (hv : (Int16.ofInt v).toInt32 = Int32.ofInt v) (k : pm_J X (pc + 3) lv ((0, v) :: st) n V) : pm_J X pc lv st n V := by
  obtain ⟨p, l, e, R, s, m, args, below, meth, c, Q, G, nl, n0, n1⟩ := X
  intro d0 H locs ls h1 h2 h3 h4 h5 h6
  exact lv_sipush hC.1 hC.2.1 hd hv (k d0 H locs ls h1 h2 h3 h4 h5 h6)
theorem pm_lconst (hC : pm_C X own cc nL d) {v : Fin 2} {x : Int} (hd : decode cc pc = .ok (.lconst v, 1)) (hv : Int64.ofNat (v : Nat) = Int64.ofInt x) (k : pm_J X (pc + 1) lv ((1, x) :: st) n V) : pm_J X pc lv st n V := by
  obtain ⟨p, l, e, R, s, m, args, below, meth, c, Q, G, nl, n0, n1⟩ := X
  intro d0 H locs ls h1 h2 h3 h4 h5 h6
  exact lv_lconst hC.1 hC.2.1 hd hv (k d0 H locs ls h1 h2 h3 h4 h5 h6)
theorem pm_ldc (hC : pm_C X own cc nL d) {i : Nat} {v : Int} (j : Nat) (hd : decode cc pc = .ok (.ldc i, 2)) (hw : (decide (pm_look j = some (.constant own i (Int32.ofInt v))) && goodWord (.constant own i (Int32.ofInt v))) = true) (k : pm_J X (pc + 2) lv ((0, v) :: st) n V) : pm_J X pc lv st n V := by
  obtain ⟨p, l, e, R, s, m, args, below, meth, c, Q, G, nl, n0, n1⟩ := X
  intro d0 H locs ls h1 h2 h3 h4 h5 h6
  exact lv_ldc hC.1 hC.2.1 hC.2.2.2.2.1 (dr_words hC.2.2.2.2.2.1 _ _ (pm_in j hw)) hd (k d0 H locs ls h1 h2 h3 h4 h5 h6)
theorem pm_ldcw (hC : pm_C X own cc nL d) {i : Nat} {v : Int} (j : Nat) (hd : decode cc pc = .ok (.ldc_w i, 3)) (hw : (decide (pm_look j = some (.constant own i (Int32.ofInt v))) && goodWord (.constant own i (Int32.ofInt v))) = true) (k : pm_J X (pc + 3) lv ((0, v) :: st) n V) : pm_J X pc lv st n V := by
  obtain ⟨p, l, e, R, s, m, args, below, meth, c, Q, G, nl, n0, n1⟩ := X
  intro d0 H locs ls h1 h2 h3 h4 h5 h6
  exact lv_ldcw hC.1 hC.2.1 hC.2.2.2.2.1 (dr_words hC.2.2.2.2.2.1 _ _ (pm_in j hw)) hd (k d0 H locs ls h1 h2 h3 h4 h5 h6)
theorem pm_ldc2 (hC : pm_C X own cc nL d) {i : Nat} {v : Int} (j : Nat) (hd : decode cc pc = .ok (.ldc2_w i, 3)) (hw : (decide (pm_look j = some (.constantLong own i (Int64.ofInt v))) && goodWord (.constantLong own i (Int64.ofInt v))) = true) (k : pm_J X (pc + 3) lv ((1, v) :: st) n V) : pm_J X pc lv st n V := by
  obtain ⟨p, l, e, R, s, m, args, below, meth, c, Q, G, nl, n0, n1⟩ := X
  intro d0 H locs ls h1 h2 h3 h4 h5 h6
  exact lv_ldc2 hC.1 hC.2.1 hC.2.2.2.2.1 (dr_words hC.2.2.2.2.2.1 _ _ (pm_in j hw)) hd (k d0 H locs ls h1 h2 h3 h4 h5 h6)
-- locals
theorem pm_at {G : pm_G} {ls : Array Slot} (h : lv_has ls nL (pm_lvs G lv)) (k : Nat) {i : Nat} {v : pm_V} (hk : lv[k]? = some (i, v)) : ls[i]? = some (.val (pm_rv G v)) :=
  lv_at h k (by rw [pm_lvs, List.getElem?_map, hk]; rfl)
theorem pm_iload_n (hC : pm_C X own cc nL d) {i : Fin 4} {x : Int} (j : Nat) (hd : decode cc pc = .ok (.iload_n i, 1)) (hj : lv[j]? = some ((i : Nat), (0, x))) (k : pm_J X (pc + 1) lv ((0, x) :: st) n V) : pm_J X pc lv st n V := by
  obtain ⟨p, l, e, R, s, m, args, below, meth, c, Q, G, nl, n0, n1⟩ := X
  intro d0 H locs ls h1 h2 h3 h4 h5 h6
  exact lv_iload_n hC.1 hC.2.1 hd rfl (pm_at h4 j hj) (k d0 H locs ls h1 h2 h3 h4 h5 h6)
theorem pm_iload (hC : pm_C X own cc nL d) {i : Nat} {x : Int} (j : Nat) (hd : decode cc pc = .ok (.iload i, 2)) (hj : lv[j]? = some (i, (0, x))) (k : pm_J X (pc + 2) lv ((0, x) :: st) n V) : pm_J X pc lv st n V := by
  obtain ⟨p, l, e, R, s, m, args, below, meth, c, Q, G, nl, n0, n1⟩ := X
  intro d0 H locs ls h1 h2 h3 h4 h5 h6
  exact lv_iload hC.1 hC.2.1 hd (pm_at h4 j hj) (k d0 H locs ls h1 h2 h3 h4 h5 h6)
theorem pm_lload_n (hC : pm_C X own cc nL d) {i : Fin 4} {x : Int} (j : Nat) (hd : decode cc pc = .ok (.lload_n i, 1)) (hj : lv[j]? = some ((i : Nat), (1, x))) (k : pm_J X (pc + 1) lv ((1, x) :: st) n V) : pm_J X pc lv st n V := by
  obtain ⟨p, l, e, R, s, m, args, below, meth, c, Q, G, nl, n0, n1⟩ := X
  intro d0 H locs ls h1 h2 h3 h4 h5 h6
  exact lv_lload_n hC.1 hC.2.1 hd rfl (pm_at h4 j hj) (k d0 H locs ls h1 h2 h3 h4 h5 h6)
theorem pm_lload (hC : pm_C X own cc nL d) {i : Nat} {x : Int} (j : Nat) (hd : decode cc pc = .ok (.lload i, 2)) (hj : lv[j]? = some (i, (1, x))) (k : pm_J X (pc + 2) lv ((1, x) :: st) n V) : pm_J X pc lv st n V := by
  obtain ⟨p, l, e, R, s, m, args, below, meth, c, Q, G, nl, n0, n1⟩ := X
  intro d0 H locs ls h1 h2 h3 h4 h5 h6
  exact lv_lload hC.1 hC.2.1 hd (pm_at h4 j hj) (k d0 H locs ls h1 h2 h3 h4 h5 h6)
theorem pm_dload_n (hC : pm_C X own cc nL d) {i : Fin 4} {x : Int} (j : Nat) (hd : decode cc pc = .ok (.dload_n i, 1)) (hj : lv[j]? = some ((i : Nat), (2, x))) (k : pm_J X (pc + 1) lv ((2, x) :: st) n V) : pm_J X pc lv st n V := by
  obtain ⟨p, l, e, R, s, m, args, below, meth, c, Q, G, nl, n0, n1⟩ := X
  intro d0 H locs ls h1 h2 h3 h4 h5 h6
  exact lv_dload_n hC.1 hC.2.1 hd rfl (pm_at h4 j hj) (k d0 H locs ls h1 h2 h3 h4 h5 h6)
theorem pm_dload (hC : pm_C X own cc nL d) {i : Nat} {x : Int} (j : Nat) (hd : decode cc pc = .ok (.dload i, 2)) (hj : lv[j]? = some (i, (2, x))) (k : pm_J X (pc + 2) lv ((2, x) :: st) n V) : pm_J X pc lv st n V := by
  obtain ⟨p, l, e, R, s, m, args, below, meth, c, Q, G, nl, n0, n1⟩ := X
  intro d0 H locs ls h1 h2 h3 h4 h5 h6
  exact lv_dload hC.1 hC.2.1 hd (pm_at h4 j hj) (k d0 H locs ls h1 h2 h3 h4 h5 h6)
theorem pm_rf_pos {h : Nat} {x : Int} (hx : 0 ≤ x) : va_rf (pm_rf h x) = .ref (h + x.toNat) := by
  unfold pm_rf
  rw [if_neg (by omega)]
  rfl
theorem pm_ref {G : pm_G} {z : Int} (hz : 0 ≤ z) : pm_rv G (3, z) = .ref (G.1 + z.toNat) := pm_rf_pos hz
theorem pm_aload_n (hC : pm_C X own cc nL d) {i : Fin 4} {z : Int} (j : Nat) (hz : 0 ≤ z) (hd : decode cc pc = .ok (.aload_n i, 1)) (hj : lv[j]? = some ((i : Nat), (3, z))) (k : pm_J X (pc + 1) lv ((3, z) :: st) n V) : pm_J X pc lv st n V := by
  obtain ⟨p, l, e, R, s, m, args, below, meth, c, Q, G, nl, n0, n1⟩ := X
  intro d0 H locs ls h1 h2 h3 h4 h5 h6
  have e1 := pm_ref (G := G) hz
  have e2 := pm_at h4 j hj
  rw [e1] at e2
  have k1 := k d0 H locs ls h1 h2 h3 h4 h5 h6
  simp only [pm_sts, List.map_cons, e1] at k1
  exact lv_aload_n hC.1 hC.2.1 hd rfl e2 k1
theorem pm_aload (hC : pm_C X own cc nL d) {i : Nat} {z : Int} (j : Nat) (hz : 0 ≤ z) (hd : decode cc pc = .ok (.aload i, 2)) (hj : lv[j]? = some (i, (3, z))) (k : pm_J X (pc + 2) lv ((3, z) :: st) n V) : pm_J X pc lv st n V := by
  obtain ⟨p, l, e, R, s, m, args, below, meth, c, Q, G, nl, n0, n1⟩ := X
  intro d0 H locs ls h1 h2 h3 h4 h5 h6
  have e1 := pm_ref (G := G) hz
  have e2 := pm_at h4 j hj
  rw [e1] at e2
  have k1 := k d0 H locs ls h1 h2 h3 h4 h5 h6
  simp only [pm_sts, List.map_cons, e1] at k1
  exact lv_aload hC.1 hC.2.1 hd e2 k1
/-- a literal's object, or the script -/
theorem pm_aloadS (hC : pm_C X own cc nL d) {i : Fin 4} {t : Nat} {x : Int} (j : Nat) (ht : 4 ≤ t) (hd : decode cc pc = .ok (.aload_n i, 1)) (hj : lv[j]? = some ((i : Nat), (t, x))) (k : pm_J X (pc + 1) lv ((t, x) :: st) n V) : pm_J X pc lv st n V := by
  obtain ⟨p, l, e, R, s, m, args, below, meth, c, Q, G, nl, n0, n1⟩ := X
  intro d0 H locs ls h1 h2 h3 h4 h5 h6
  have e1 : ∃ a, pm_rv G (t, x) = .ref a := by
    match t, ht with
    | 4, _ => exact ⟨_, rfl⟩
    | t + 5, _ => exact ⟨_, rfl⟩
  obtain ⟨a, e1⟩ := e1
  have e2 := pm_at h4 j hj
  rw [e1] at e2
  have k1 := k d0 H locs ls h1 h2 h3 h4 h5 h6
  simp only [pm_sts, List.map_cons, e1] at k1
  exact lv_aload_n hC.1 hC.2.1 hd rfl e2 k1
def pm_cat (t : Nat) : Nat := if t = 1 ∨ t = 2 then 2 else 1
theorem pm_rv_cat {G : pm_G} {v : pm_V} : (pm_rv G v).category = pm_cat v.1 := by
  obtain ⟨t, x⟩ := v
  match t with
  | 0 => rfl
  | 1 => rfl
  | 2 => rfl
  | 3 =>
    show (va_rf (pm_rf G.1 x)).category = 1
    cases pm_rf G.1 x <;> rfl
  | 4 => rfl
  | t + 5 =>
    show (Value.ref _).category = if t + 5 = 1 ∨ t + 5 = 2 then 2 else 1
    rw [if_neg (by omega)]
    rfl
/-- the locals behind a store of one word, of two words -/
def pm_s1 (lv : pm_L) (i : Nat) (v : pm_V) : pm_L := (i, v) :: lv.filter (fun q => !(q.1 == i) && !(q.1 + 1 == i && pm_cat q.2.1 == 2))
def pm_s2 (lv : pm_L) (i : Nat) (v : pm_V) : pm_L := (i, v) :: lv.filter (fun q => !(q.1 == i) && (!(q.1 == i + 1) && !(q.1 + 1 == i && pm_cat q.2.1 == 2)))
theorem pm_s1_v (G : pm_G) (lv : pm_L) (i : Nat) (v : pm_V) : (i, pm_rv G v) :: (pm_lvs G lv).filter (fun q => !(q.1 == i) && !(q.1 + 1 == i && q.2.category == 2)) = pm_lvs G (pm_s1 lv i v) := by
  simp only [pm_lvs, pm_s1, List.map_cons, List.filter_map]
  congr 2
  apply List.filter_congr
  intro q _
  simp [pm_rv_cat]
theorem pm_s2_v (G : pm_G) (lv : pm_L) (i : Nat) (v : pm_V) : (i, pm_rv G v) :: (pm_lvs G lv).filter (fun q => !(q.1 == i) && (!(q.1 == i + 1) && !(q.1 + 1 == i && q.2.category == 2))) = pm_lvs G (pm_s2 lv i v) := by
  simp only [pm_lvs, pm_s2, List.map_cons, List.filter_map]
  congr 2
  apply List.filter_congr
  intro q _
  simp [pm_rv_cat]
theorem pm_istore_n (hC : pm_C X own cc nL d) {i : Fin 4} {x : Int} (hd : decode cc pc = .ok (.istore_n i, 1)) (hn : (i : Nat) < nL) (hl : pm_s1 lv i (0, x) = lv') (k : pm_J X (pc + 1) lv' st n V) : pm_J X pc lv ((0, x) :: st) n V := by
  obtain ⟨p, l, e, R, s, m, args, below, meth, c, Q, G, nl, n0, n1⟩ := X
  intro d0 H locs ls h1 h2 h3 h4 h5 h6
  have en : nl = nL := hC.2.2.2.1
  subst en
  subst hl
  exact lv_istore_n hC.1 hC.2.1 hd rfl h4 hn (pm_s1_v G lv _ (0, x)) (fun ls' h4' => k d0 H locs ls' h1 h2 h3 h4' h5 h6)
theorem pm_istore (hC : pm_C X own cc nL d) {i : Nat} {x : Int} (hd : decode cc pc = .ok (.istore i, 2)) (hn : i < nL) (hl : pm_s1 lv i (0, x) = lv') (k : pm_J X (pc + 2) lv' st n V) : pm_J X pc lv ((0, x) :: st) n V := by
  obtain ⟨p, l, e, R, s, m, args, below, meth, c, Q, G, nl, n0, n1⟩ := X
  intro d0 H locs ls h1 h2 h3 h4 h5 h6
  have en : nl = nL := hC.2.2.2.1
  subst en
  subst hl
  exact lv_istore hC.1 hC.2.1 hd h4 hn (pm_s1_v G lv _ (0, x)) (fun ls' h4' => k d0 H locs ls' h1 h2 h3 h4' h5 h6)
theorem pm_lstore_n (hC : pm_C X own cc nL d) {i : Fin 4} {x : Int} (hd : decode cc pc = .ok (.lstore_n i, 1)) (hn : (i : Nat) + 1 < nL) (hl : pm_s2 lv i (1, x) = lv') (k : pm_J X (pc + 1) lv' st n V) : pm_J X pc lv ((1, x) :: st) n V := by
  obtain ⟨p, l, e, R, s, m, args, below, meth, c, Q, G, nl, n0, n1⟩ := X
  intro d0 H locs ls h1 h2 h3 h4 h5 h6
  have en : nl = nL := hC.2.2.2.1
  subst en
  subst hl
  exact lv_lstore_n hC.1 hC.2.1 hd rfl h4 hn (pm_s2_v G lv _ (1, x)) (fun ls' h4' => k d0 H locs ls' h1 h2 h3 h4' h5 h6)
theorem pm_lstore (hC : pm_C X own cc nL d) {i : Nat} {x : Int} (hd : decode cc pc = .ok (.lstore i, 2)) (hn : i + 1 < nL) (hl : pm_s2 lv i (1, x) = lv') (k : pm_J X (pc + 2) lv' st n V) : pm_J X pc lv ((1, x) :: st) n V := by
  obtain ⟨p, l, e, R, s, m, args, below, meth, c, Q, G, nl, n0, n1⟩ := X
  intro d0 H locs ls h1 h2 h3 h4 h5 h6
  have en : nl = nL := hC.2.2.2.1
  subst en
  subst hl
  exact lv_lstore hC.1 hC.2.1 hd h4 hn (pm_s2_v G lv _ (1, x)) (fun ls' h4' => k d0 H locs ls' h1 h2 h3 h4' h5 h6)
theorem pm_dstore_n (hC : pm_C X own cc nL d) {i : Fin 4} {x : Int} (hd : decode cc pc = .ok (.dstore_n i, 1)) (hn : (i : Nat) + 1 < nL) (hl : pm_s2 lv i (2, x) = lv') (k : pm_J X (pc + 1) lv' st n V) : pm_J X pc lv ((2, x) :: st) n V := by
  obtain ⟨p, l, e, R, s, m, args, below, meth, c, Q, G, nl, n0, n1⟩ := X
  intro d0 H locs ls h1 h2 h3 h4 h5 h6
  have en : nl = nL := hC.2.2.2.1
  subst en
  subst hl
  exact lv_dstore_n hC.1 hC.2.1 hd rfl h4 hn (pm_s2_v G lv _ (2, x)) (fun ls' h4' => k d0 H locs ls' h1 h2 h3 h4' h5 h6)
theorem pm_dstore (hC : pm_C X own cc nL d) {i : Nat} {x : Int} (hd : decode cc pc = .ok (.dstore i, 2)) (hn : i + 1 < nL) (hl : pm_s2 lv i (2, x) = lv') (k : pm_J X (pc + 2) lv' st n V) : pm_J X pc lv ((2, x) :: st) n V := by
  obtain ⟨p, l, e, R, s, m, args, below, meth, c, Q, G, nl, n0, n1⟩ := X
  intro d0 H locs ls h1 h2 h3 h4 h5 h6
  have en : nl = nL := hC.2.2.2.1
  subst en
  subst hl
  exact lv_dstore hC.1 hC.2.1 hd h4 hn (pm_s2_v G lv _ (2, x)) (fun ls' h4' => k d0 H locs ls' h1 h2 h3 h4' h5 h6)
theorem pm_astore_n (hC : pm_C X own cc nL d) {i : Fin 4} {z : Int} (hz : 0 ≤ z) (hd : decode cc pc = .ok (.astore_n i, 1)) (hn : (i : Nat) < nL) (hl : pm_s1 lv i (3, z) = lv') (k : pm_J X (pc + 1) lv' st n V) : pm_J X pc lv ((3, z) :: st) n V := by
  obtain ⟨p, l, e, R, s, m, args, below, meth, c, Q, G, nl, n0, n1⟩ := X
  intro d0 H locs ls h1 h2 h3 h4 h5 h6
  have en : nl = nL := hC.2.2.2.1
  subst en
  subst hl
  have e1 := pm_ref (G := G) hz
  simp only [pm_sts, List.map_cons, e1]
  exact lv_astore_n hC.1 hC.2.1 hd rfl h4 hn (by rw [← e1]; exact pm_s1_v G lv _ (3, z)) (fun ls' h4' => k d0 H locs ls' h1 h2 h3 h4' h5 h6)
theorem pm_iinc (hC : pm_C X own cc nL d) {i : Nat} {a x y : Int} (j : Nat) (hd : decode cc pc = .ok (.iinc i a, 3)) (hn : i < nL) (hj : lv[j]? = some (i, (0, x))) (hy : x + a = y) (hl : pm_s1 lv i (0, y) = lv') (k : pm_J X (pc + 3) lv' st n V) : pm_J X pc lv st n V := by
  obtain ⟨p, l, e, R, s, m, args, below, meth, c, Q, G, nl, n0, n1⟩ := X
  intro d0 H locs ls h1 h2 h3 h4 h5 h6
  have en : nl = nL := hC.2.2.2.1
  subst en
  subst hl
  subst hy
  exact lv_iinc (k := j) (x := Int32.ofInt x) (v := Int32.ofInt (x + a)) hC.1 hC.2.1 hd h4 (by rw [pm_lvs, List.getElem?_map, hj]; rfl) (Int32.ofInt_add x a).symm hn (pm_s1_v G lv _ (0, x + a)) (fun ls' h4' => k d0 H locs ls' h1 h2 h3 h4' h5 h6)
end PR
