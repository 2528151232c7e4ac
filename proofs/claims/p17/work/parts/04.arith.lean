/-! arithmetic and branches -/
section PA
variable {X : pm_X} {own : String} {cc : ByteArray} {nL d : Nat} {pc : Nat} {lv lv' : pm_L} {st : List pm_V} {n : Nat} {V : pm_M}
theorem pm_iadd (hC : pm_C X own cc nL d) {x y : Int} (hd : decode cc pc = .ok (.iadd, 1)) (k : pm_J X (pc + 1) lv ((0, x + y) :: st) n V) : pm_J X pc lv ((0, y) :: (0, x) :: st) n V := by
  obtain ⟨p, l, e, R, s, m, args, below, meth, c, Q, G, nl, n0, n1⟩ := X
  intro d0 H locs ls h1 h2 h3 h4 h5 h6
  have k1 := k d0 H locs ls h1 h2 h3 h4 h5 h6
  have e1 : pm_rv G (0, x + y) = .int (Int32.ofInt x + Int32.ofInt y) := congrArg Value.int (Int32.ofInt_add x y)
  simp only [pm_sts, List.map_cons, e1] at k1
  exact lv_iadd hC.1 hC.2.1 hd k1
theorem pm_isub (hC : pm_C X own cc nL d) {x y : Int} (hd : decode cc pc = .ok (.isub, 1)) (k : pm_J X (pc + 1) lv ((0, x - y) :: st) n V) : pm_J X pc lv ((0, y) :: (0, x) :: st) n V := by
  obtain ⟨p, l, e, R, s, m, args, below, meth, c, Q, G, nl, n0, n1⟩ := X
  intro d0 H locs ls h1 h2 h3 h4 h5 h6
  have k1 := k d0 H locs ls h1 h2 h3 h4 h5 h6
  have e1 : pm_rv G (0, x - y) = .int (Int32.ofInt x - Int32.ofInt y) := congrArg Value.int (Int32.ofInt_sub x y)
  simp only [pm_sts, List.map_cons, e1] at k1
  exact lv_isub hC.1 hC.2.1 hd k1
theorem pm_imul (hC : pm_C X own cc nL d) {x y : Int} (hd : decode cc pc = .ok (.imul, 1)) (k : pm_J X (pc + 1) lv ((0, x * y) :: st) n V) : pm_J X pc lv ((0, y) :: (0, x) :: st) n V := by
  obtain ⟨p, l, e, R, s, m, args, below, meth, c, Q, G, nl, n0, n1⟩ := X
  intro d0 H locs ls h1 h2 h3 h4 h5 h6
  have k1 := k d0 H locs ls h1 h2 h3 h4 h5 h6
  have e1 : pm_rv G (0, x * y) = .int (Int32.ofInt x * Int32.ofInt y) := congrArg Value.int (Int32.ofInt_mul x y)
  simp only [pm_sts, List.map_cons, e1] at k1
  exact lv_imul hC.1 hC.2.1 hd k1
theorem pm_ladd (hC : pm_C X own cc nL d) {x y : Int} (hd : decode cc pc = .ok (.ladd, 1)) (k : pm_J X (pc + 1) lv ((1, x + y) :: st) n V) : pm_J X pc lv ((1, y) :: (1, x) :: st) n V := by
  obtain ⟨p, l, e, R, s, m, args, below, meth, c, Q, G, nl, n0, n1⟩ := X
  intro d0 H locs ls h1 h2 h3 h4 h5 h6
  have k1 := k d0 H locs ls h1 h2 h3 h4 h5 h6
  have e1 : pm_rv G (1, x + y) = .long (Int64.ofInt x + Int64.ofInt y) := congrArg Value.long (Int64.ofInt_add x y)
  simp only [pm_sts, List.map_cons, e1] at k1
  exact lv_ladd hC.1 hC.2.1 hd k1
theorem pm_lsub (hC : pm_C X own cc nL d) {x y : Int} (hd : decode cc pc = .ok (.lsub, 1)) (k : pm_J X (pc + 1) lv ((1, x - y) :: st) n V) : pm_J X pc lv ((1, y) :: (1, x) :: st) n V := by
  obtain ⟨p, l, e, R, s, m, args, below, meth, c, Q, G, nl, n0, n1⟩ := X
  intro d0 H locs ls h1 h2 h3 h4 h5 h6
  have k1 := k d0 H locs ls h1 h2 h3 h4 h5 h6
  have e1 : pm_rv G (1, x - y) = .long (Int64.ofInt x - Int64.ofInt y) := congrArg Value.long (Int64.ofInt_sub x y)
  simp only [pm_sts, List.map_cons, e1] at k1
  exact lv_lsub hC.1 hC.2.1 hd k1
theorem pm_lmul (hC : pm_C X own cc nL d) {x y : Int} (hd : decode cc pc = .ok (.lmul, 1)) (k : pm_J X (pc + 1) lv ((1, x * y) :: st) n V) : pm_J X pc lv ((1, y) :: (1, x) :: st) n V := by
  obtain ⟨p, l, e, R, s, m, args, below, meth, c, Q, G, nl, n0, n1⟩ := X
  intro d0 H locs ls h1 h2 h3 h4 h5 h6
  have k1 := k d0 H locs ls h1 h2 h3 h4 h5 h6
  have e1 : pm_rv G (1, x * y) = .long (Int64.ofInt x * Int64.ofInt y) := congrArg Value.long (Int64.ofInt_mul x y)
  simp only [pm_sts, List.map_cons, e1] at k1
  exact lv_lmul hC.1 hC.2.1 hd k1
theorem pm_ineg (hC : pm_C X own cc nL d) {x : Int} (hd : decode cc pc = .ok (.ineg, 1)) (k : pm_J X (pc + 1) lv ((0, -x) :: st) n V) : pm_J X pc lv ((0, x) :: st) n V := by
  obtain ⟨p, l, e, R, s, m, args, below, meth, c, Q, G, nl, n0, n1⟩ := X
  intro d0 H locs ls h1 h2 h3 h4 h5 h6
  have k1 := k d0 H locs ls h1 h2 h3 h4 h5 h6
  have e1 : pm_rv G (0, -x) = .int (-Int32.ofInt x) := congrArg Value.int (Int32.ofInt_neg x)
  simp only [pm_sts, List.map_cons, e1] at k1
  exact lv_ineg hC.1 hC.2.1 hd k1
theorem pm_lneg (hC : pm_C X own cc nL d) {x : Int} (hd : decode cc pc = .ok (.lneg, 1)) (k : pm_J X (pc + 1) lv ((1, -x) :: st) n V) : pm_J X pc lv ((1, x) :: st) n V := by
  obtain ⟨p, l, e, R, s, m, args, below, meth, c, Q, G, nl, n0, n1⟩ := X
  intro d0 H locs ls h1 h2 h3 h4 h5 h6
  have k1 := k d0 H locs ls h1 h2 h3 h4 h5 h6
  have e1 : pm_rv G (1, -x) = .long (-Int64.ofInt x) := congrArg Value.long (Int64.ofInt_neg x)
  simp only [pm_sts, List.map_cons, e1] at k1
  exact lv_lneg hC.1 hC.2.1 hd k1
theorem pm_ne0 {y : Int} (hy : pm_R y) (h : y ≠ 0) : ¬ Int32.ofInt y = 0 := by
  intro q
  rw [← pm_0, pm_eq hy pm_R0] at q
  exact h q
theorem pm_ne0L {y : Int} (hy : pm_RL y) (h : y ≠ 0) : ¬ Int64.ofInt y = 0 := by
  intro q
  have := congrArg Int64.toInt q
  rw [pm_toIntL hy] at this
  exact h this
theorem pm_idivT (hC : pm_C X own cc nL d) {x y : Int} (hx : pm_R x) (hy : pm_R y) (h0 : y ≠ 0) (hd : decode cc pc = .ok (.idiv, 1)) (k : pm_J X (pc + 1) lv ((0, x.tdiv y) :: st) n V) : pm_J X pc lv ((0, y) :: (0, x) :: st) n V := by
  obtain ⟨p, l, e, R, s, m, args, below, meth, c, Q, G, nl, n0, n1⟩ := X
  intro d0 H locs ls h1 h2 h3 h4 h5 h6
  have k1 := k d0 H locs ls h1 h2 h3 h4 h5 h6
  have e1 : pm_rv G (0, x.tdiv y) = .int (Int32.ofInt x / Int32.ofInt y) := congrArg Value.int (Int32.ofInt_tdiv (by have := hx.1; exact this) (by have := hx.2; exact this) (by have := hy.1; exact this) (by have := hy.2; exact this))
  simp only [pm_sts, List.map_cons, e1] at k1
  exact lv_idiv hC.1 hC.2.1 hd (pm_ne0 hy h0) k1
theorem pm_idiv (hC : pm_C X own cc nL d) {x y : Int} (hx : 0 ≤ x ∧ pm_R x) (hy : 0 < y ∧ pm_R y) (hd : decode cc pc = .ok (.idiv, 1)) (k : pm_J X (pc + 1) lv ((0, x / y) :: st) n V) : pm_J X pc lv ((0, y) :: (0, x) :: st) n V :=
  pm_idivT hC hx.2 hy.2 (by have := hy.1; omega) hd (by rw [Int.tdiv_eq_ediv_of_nonneg hx.1]; exact k)
theorem pm_ldivT (hC : pm_C X own cc nL d) {x y : Int} (hx : pm_RL x) (hy : pm_RL y) (h0 : y ≠ 0) (hd : decode cc pc = .ok (.ldiv, 1)) (k : pm_J X (pc + 1) lv ((1, x.tdiv y) :: st) n V) : pm_J X pc lv ((1, y) :: (1, x) :: st) n V := by
  obtain ⟨p, l, e, R, s, m, args, below, meth, c, Q, G, nl, n0, n1⟩ := X
  intro d0 H locs ls h1 h2 h3 h4 h5 h6
  have k1 := k d0 H locs ls h1 h2 h3 h4 h5 h6
  have e1 : pm_rv G (1, x.tdiv y) = .long (Int64.ofInt x / Int64.ofInt y) := congrArg Value.long (Int64.ofInt_tdiv (by have := hx.1; exact this) (by have := hx.2; exact this) (by have := hy.1; exact this) (by have := hy.2; exact this))
  simp only [pm_sts, List.map_cons, e1] at k1
  exact lv_ldiv hC.1 hC.2.1 hd (pm_ne0L hy h0) k1
theorem pm_ldiv (hC : pm_C X own cc nL d) {x y : Int} (hx : 0 ≤ x ∧ pm_RL x) (hy : 0 < y ∧ pm_RL y) (hd : decode cc pc = .ok (.ldiv, 1)) (k : pm_J X (pc + 1) lv ((1, x / y) :: st) n V) : pm_J X pc lv ((1, y) :: (1, x) :: st) n V :=
  pm_ldivT hC hx.2 hy.2 (by have := hy.1; omega) hd (by rw [Int.tdiv_eq_ediv_of_nonneg hx.1]; exact k)
theorem pm_iremT (hC : pm_C X own cc nL d) {x y : Int} (hx : pm_R x) (hy : pm_R y) (h0 : y ≠ 0) (hd : decode cc pc = .ok (.irem, 1)) (k : pm_J X (pc + 1) lv ((0, x.tmod y) :: st) n V) : pm_J X pc lv ((0, y) :: (0, x) :: st) n V := by
  obtain ⟨p, l, e, R, s, m, args, below, meth, c, Q, G, nl, n0, n1⟩ := X
  intro d0 H locs ls h1 h2 h3 h4 h5 h6
  have k1 := k d0 H locs ls h1 h2 h3 h4 h5 h6
  have e0 : Int32.ofInt (x.tdiv y) = Int32.ofInt x / Int32.ofInt y := Int32.ofInt_tdiv (by have := hx.1; exact this) (by have := hx.2; exact this) (by have := hy.1; exact this) (by have := hy.2; exact this)
  have e2 : x.tmod y = x - x.tdiv y * y := by have := Int.tmod_add_tdiv_mul x y; omega
  have e1 : pm_rv G (0, x.tmod y) = .int (Int32.ofInt x - Int32.ofInt x / Int32.ofInt y * Int32.ofInt y) := by
    show Value.int (Int32.ofInt (x.tmod y)) = _
    rw [e2, Int32.ofInt_sub, Int32.ofInt_mul, e0]
  simp only [pm_sts, List.map_cons, e1] at k1
  exact lv_irem hC.1 hC.2.1 hd (pm_ne0 hy h0) k1
theorem pm_irem (hC : pm_C X own cc nL d) {x y : Int} (hx : 0 ≤ x ∧ pm_R x) (hy : 0 < y ∧ pm_R y) (hd : decode cc pc = .ok (.irem, 1)) (k : pm_J X (pc + 1) lv ((0, x % y) :: st) n V) : pm_J X pc lv ((0, y) :: (0, x) :: st) n V :=
  pm_iremT hC hx.2 hy.2 (by have := hy.1; omega) hd (by rw [Int.tmod_eq_emod_of_nonneg hx.1]; exact k)
theorem pm_lremT (hC : pm_C X own cc nL d) {x y : Int} (hx : pm_RL x) (hy : pm_RL y) (h0 : y ≠ 0) (hd : decode cc pc = .ok (.lrem, 1)) (k : pm_J X (pc + 1) lv ((1, x.tmod y) :: st) n V) : pm_J X pc lv ((1, y) :: (1, x) :: st) n V := by
  obtain ⟨p, l, e, R, s, m, args, below, meth, c, Q, G, nl, n0, n1⟩ := X
  intro d0 H locs ls h1 h2 h3 h4 h5 h6
  have k1 := k d0 H locs ls h1 h2 h3 h4 h5 h6
  have e0 : Int64.ofInt (x.tdiv y) = Int64.ofInt x / Int64.ofInt y := Int64.ofInt_tdiv (by have := hx.1; exact this) (by have := hx.2; exact this) (by have := hy.1; exact this) (by have := hy.2; exact this)
  have e2 : x.tmod y = x - x.tdiv y * y := by have := Int.tmod_add_tdiv_mul x y; omega
  have e1 : pm_rv G (1, x.tmod y) = .long (Int64.ofInt x - Int64.ofInt x / Int64.ofInt y * Int64.ofInt y) := by
    show Value.long (Int64.ofInt (x.tmod y)) = _
    rw [e2, Int64.ofInt_sub, Int64.ofInt_mul, e0]
  simp only [pm_sts, List.map_cons, e1] at k1
  exact lv_lrem hC.1 hC.2.1 hd (pm_ne0L hy h0) k1
theorem pm_lrem (hC : pm_C X own cc nL d) {x y : Int} (hx : 0 ≤ x ∧ pm_RL x) (hy : 0 < y ∧ pm_RL y) (hd : decode cc pc = .ok (.lrem, 1)) (k : pm_J X (pc + 1) lv ((1, x % y) :: st) n V) : pm_J X pc lv ((1, y) :: (1, x) :: st) n V :=
  pm_lremT hC hx.2 hy.2 (by have := hy.1; omega) hd (by rw [Int.tmod_eq_emod_of_nonneg hx.1]; exact k)
def pm_iandV (x y : Int) : Int := (Int32.ofInt x &&& Int32.ofInt y).toInt
theorem pm_iand (hC : pm_C X own cc nL d) {x y : Int} (hd : decode cc pc = .ok (.iand, 1)) (k : pm_J X (pc + 1) lv ((0, pm_iandV x y) :: st) n V) : pm_J X pc lv ((0, y) :: (0, x) :: st) n V := by
  obtain ⟨p, l, e, R, s, m, args, below, meth, c, Q, G, nl, n0, n1⟩ := X
  intro d0 H locs ls h1 h2 h3 h4 h5 h6
  have k1 := k d0 H locs ls h1 h2 h3 h4 h5 h6
  have e1 : pm_rv G (0, pm_iandV x y) = .int (Int32.ofInt x &&& Int32.ofInt y) := congrArg Value.int (Int32.ofInt_toInt _)
  simp only [pm_sts, List.map_cons, e1] at k1
  exact lv_iand hC.1 hC.2.1 hd k1
def pm_landV (x y : Int) : Int := (Int64.ofInt x &&& Int64.ofInt y).toInt
theorem pm_land (hC : pm_C X own cc nL d) {x y : Int} (hd : decode cc pc = .ok (.land, 1)) (k : pm_J X (pc + 1) lv ((1, pm_landV x y) :: st) n V) : pm_J X pc lv ((1, y) :: (1, x) :: st) n V := by
  obtain ⟨p, l, e, R, s, m, args, below, meth, c, Q, G, nl, n0, n1⟩ := X
  intro d0 H locs ls h1 h2 h3 h4 h5 h6
  have k1 := k d0 H locs ls h1 h2 h3 h4 h5 h6
  have e1 : pm_rv G (1, pm_landV x y) = .long (Int64.ofInt x &&& Int64.ofInt y) := congrArg Value.long (Int64.ofInt_toInt _)
  simp only [pm_sts, List.map_cons, e1] at k1
  exact lv_land hC.1 hC.2.1 hd k1
def pm_lorV (x y : Int) : Int := (Int64.ofInt x ||| Int64.ofInt y).toInt
theorem pm_lor (hC : pm_C X own cc nL d) {x y : Int} (hd : decode cc pc = .ok (.lor, 1)) (k : pm_J X (pc + 1) lv ((1, pm_lorV x y) :: st) n V) : pm_J X pc lv ((1, y) :: (1, x) :: st) n V := by
  obtain ⟨p, l, e, R, s, m, args, below, meth, c, Q, G, nl, n0, n1⟩ := X
  intro d0 H locs ls h1 h2 h3 h4 h5 h6
  have k1 := k d0 H locs ls h1 h2 h3 h4 h5 h6
  have e1 : pm_rv G (1, pm_lorV x y) = .long (Int64.ofInt x ||| Int64.ofInt y) := congrArg Value.long (Int64.ofInt_toInt _)
  simp only [pm_sts, List.map_cons, e1] at k1
  exact lv_lor hC.1 hC.2.1 hd k1
def pm_ishlV (x y : Int) : Int := (Int32.ofInt x <<< (Int32.ofInt y &&& 31)).toInt
theorem pm_ishl (hC : pm_C X own cc nL d) {x y : Int} (hd : decode cc pc = .ok (.ishl, 1)) (k : pm_J X (pc + 1) lv ((0, pm_ishlV x y) :: st) n V) : pm_J X pc lv ((0, y) :: (0, x) :: st) n V := by
  obtain ⟨p, l, e, R, s, m, args, below, meth, c, Q, G, nl, n0, n1⟩ := X
  intro d0 H locs ls h1 h2 h3 h4 h5 h6
  have k1 := k d0 H locs ls h1 h2 h3 h4 h5 h6
  have e1 : pm_rv G (0, pm_ishlV x y) = .int (Int32.ofInt x <<< (Int32.ofInt y &&& 31)) := congrArg Value.int (Int32.ofInt_toInt _)
  simp only [pm_sts, List.map_cons, e1] at k1
  exact lv_ishl hC.1 hC.2.1 hd k1
def pm_ishrV (x y : Int) : Int := (Int32.ofInt x >>> (Int32.ofInt y &&& 31)).toInt
theorem pm_ishr (hC : pm_C X own cc nL d) {x y : Int} (hd : decode cc pc = .ok (.ishr, 1)) (k : pm_J X (pc + 1) lv ((0, pm_ishrV x y) :: st) n V) : pm_J X pc lv ((0, y) :: (0, x) :: st) n V := by
  obtain ⟨p, l, e, R, s, m, args, below, meth, c, Q, G, nl, n0, n1⟩ := X
  intro d0 H locs ls h1 h2 h3 h4 h5 h6
  have k1 := k d0 H locs ls h1 h2 h3 h4 h5 h6
  have e1 : pm_rv G (0, pm_ishrV x y) = .int (Int32.ofInt x >>> (Int32.ofInt y &&& 31)) := congrArg Value.int (Int32.ofInt_toInt _)
  simp only [pm_sts, List.map_cons, e1] at k1
  exact lv_ishr hC.1 hC.2.1 hd k1
def pm_iushrV (x y : Int) : Int := (((Int32.ofInt x).toUInt32 >>> ((Int32.ofInt y).toUInt32 &&& Int32.toUInt32 31)).toInt32).toInt
theorem pm_iushr (hC : pm_C X own cc nL d) {x y : Int} (hd : decode cc pc = .ok (.iushr, 1)) (k : pm_J X (pc + 1) lv ((0, pm_iushrV x y) :: st) n V) : pm_J X pc lv ((0, y) :: (0, x) :: st) n V := by
  obtain ⟨p, l, e, R, s, m, args, below, meth, c, Q, G, nl, n0, n1⟩ := X
  intro d0 H locs ls h1 h2 h3 h4 h5 h6
  have k1 := k d0 H locs ls h1 h2 h3 h4 h5 h6
  have e1 : pm_rv G (0, pm_iushrV x y) = .int (((Int32.ofInt x).toUInt32 >>> ((Int32.ofInt y).toUInt32 &&& Int32.toUInt32 31)).toInt32) := congrArg Value.int (Int32.ofInt_toInt _)
  simp only [pm_sts, List.map_cons, e1] at k1
  exact lv_iushr hC.1 hC.2.1 hd rfl k1
def pm_lushrV (x y : Int) : Int := (((Int64.ofInt x).toUInt64 >>> ((Int32.ofInt y).toInt64.toUInt64 &&& Int64.toUInt64 63)).toInt64).toInt
theorem pm_lushr (hC : pm_C X own cc nL d) {x y : Int} (hd : decode cc pc = .ok (.lushr, 1)) (k : pm_J X (pc + 1) lv ((1, pm_lushrV x y) :: st) n V) : pm_J X pc lv ((0, y) :: (1, x) :: st) n V := by
  obtain ⟨p, l, e, R, s, m, args, below, meth, c, Q, G, nl, n0, n1⟩ := X
  intro d0 H locs ls h1 h2 h3 h4 h5 h6
  have k1 := k d0 H locs ls h1 h2 h3 h4 h5 h6
  have e1 : pm_rv G (1, pm_lushrV x y) = .long (((Int64.ofInt x).toUInt64 >>> ((Int32.ofInt y).toInt64.toUInt64 &&& Int64.toUInt64 63)).toInt64) := congrArg Value.long (Int64.ofInt_toInt _)
  simp only [pm_sts, List.map_cons, e1] at k1
  exact lv_lushr hC.1 hC.2.1 hd rfl k1
def pm_lshlV (x y : Int) : Int := (Int64.ofInt x <<< ((Int32.ofInt y).toInt64 &&& 63)).toInt
theorem pm_lshl (hC : pm_C X own cc nL d) {x y : Int} (hd : decode cc pc = .ok (.lshl, 1)) (k : pm_J X (pc + 1) lv ((1, pm_lshlV x y) :: st) n V) : pm_J X pc lv ((0, y) :: (1, x) :: st) n V := by
  obtain ⟨p, l, e, R, s, m, args, below, meth, c, Q, G, nl, n0, n1⟩ := X
  intro d0 H locs ls h1 h2 h3 h4 h5 h6
  have k1 := k d0 H locs ls h1 h2 h3 h4 h5 h6
  have e1 : pm_rv G (1, pm_lshlV x y) = .long (Int64.ofInt x <<< ((Int32.ofInt y).toInt64 &&& 63)) := congrArg Value.long (Int64.ofInt_toInt _)
  simp only [pm_sts, List.map_cons, e1] at k1
  exact lv_lshl hC.1 hC.2.1 hd rfl k1
theorem pm_i2l (hC : pm_C X own cc nL d) {x : Int} (hx : pm_R x) (hd : decode cc pc = .ok (.i2l, 1)) (k : pm_J X (pc + 1) lv ((1, x) :: st) n V) : pm_J X pc lv ((0, x) :: st) n V := by
  obtain ⟨p, l, e, R, s, m, args, below, meth, c, Q, G, nl, n0, n1⟩ := X
  intro d0 H locs ls h1 h2 h3 h4 h5 h6
  exact lv_i2l hC.1 hC.2.1 hd (Int32.toInt64_ofInt hx.1 hx.2) (k d0 H locs ls h1 h2 h3 h4 h5 h6)
theorem pm_l2i (hC : pm_C X own cc nL d) {x : Int} (hd : decode cc pc = .ok (.l2i, 1)) (k : pm_J X (pc + 1) lv ((0, x) :: st) n V) : pm_J X pc lv ((1, x) :: st) n V := by
  obtain ⟨p, l, e, R, s, m, args, below, meth, c, Q, G, nl, n0, n1⟩ := X
  intro d0 H locs ls h1 h2 h3 h4 h5 h6
  exact lv_l2i hC.1 hC.2.1 hd Int64.toInt32_ofInt (k d0 H locs ls h1 h2 h3 h4 h5 h6)
theorem pm_i2b (hC : pm_C X own cc nL d) {x : Int} (hd : decode cc pc = .ok (.i2b, 1)) (k : pm_J X (pc + 1) lv ((0, x.bmod 256) :: st) n V) : pm_J X pc lv ((0, x) :: st) n V := by
  obtain ⟨p, l, e, R, s, m, args, below, meth, c, Q, G, nl, n0, n1⟩ := X
  intro d0 H locs ls h1 h2 h3 h4 h5 h6
  refine lv_i2b hC.1 hC.2.1 hd ?_ (k d0 H locs ls h1 h2 h3 h4 h5 h6)
  show (Int32.ofInt x).toInt8.toInt32 = Int32.ofInt (x.bmod 256)
  rw [Int32.toInt8_ofInt]
  apply Int32.toInt.inj
  rw [Int8.toInt_toInt32, Int8.toInt_ofInt]
  rw [pm_toInt]
  · have h1 := Int.bmod_lt (x := x) (m := 256) (by decide)
    have h2 := Int.le_bmod (x := x) (m := 256) (by decide)
    exact ⟨by omega, by omega⟩
/-- another number for the same int, long -/
theorem pm_as (hC : pm_C X own cc nL d) {x y : Int} (he : Int32.ofInt x = Int32.ofInt y) (k : pm_J X pc lv ((0, y) :: st) n V) : pm_J X pc lv ((0, x) :: st) n V := by
  obtain ⟨p, l, e, R, s, m, args, below, meth, c, Q, G, nl, n0, n1⟩ := X
  intro d0 H locs ls h1 h2 h3 h4 h5 h6
  have k1 := k d0 H locs ls h1 h2 h3 h4 h5 h6
  have e1 : pm_rv G (0, y) = pm_rv G (0, x) := congrArg Value.int he.symm
  simp only [pm_sts, List.map_cons, e1] at k1
  exact k1
theorem pm_asL (hC : pm_C X own cc nL d) {x y : Int} (he : Int64.ofInt x = Int64.ofInt y) (k : pm_J X pc lv ((1, y) :: st) n V) : pm_J X pc lv ((1, x) :: st) n V := by
  obtain ⟨p, l, e, R, s, m, args, below, meth, c, Q, G, nl, n0, n1⟩ := X
  intro d0 H locs ls h1 h2 h3 h4 h5 h6
  have k1 := k d0 H locs ls h1 h2 h3 h4 h5 h6
  have e1 : pm_rv G (1, y) = pm_rv G (1, x) := congrArg Value.long he.symm
  simp only [pm_sts, List.map_cons, e1] at k1
  exact k1
/-- some number in range for a number that may have run over -/
theorem pm_some (hC : pm_C X own cc nL d) {x : Int} (k : ∀ y : Int, pm_R y → pm_J X pc lv ((0, y) :: st) n V) : pm_J X pc lv ((0, x) :: st) n V :=
  pm_as hC (y := (Int32.ofInt x).toInt) (by rw [Int32.ofInt_toInt]) (k _ ⟨Int32.le_toInt _, Int.le_of_lt_add_one (Int32.toInt_lt _)⟩)
theorem pm_someL (hC : pm_C X own cc nL d) {x : Int} (k : ∀ y : Int, pm_RL y → pm_J X pc lv ((1, y) :: st) n V) : pm_J X pc lv ((1, x) :: st) n V :=
  pm_asL hC (y := (Int64.ofInt x).toInt) (by rw [Int64.ofInt_toInt]) (k _ ⟨Int64.le_toInt _, Int.le_of_lt_add_one (Int64.toInt_lt _)⟩)
def pm_cmp (x y : Int) : Int := if y < x then 1 else if x = y then 0 else -1
theorem pm_cmp_s (x y : Int) : (pm_cmp x y = 1 ∧ y < x) ∨ (pm_cmp x y = 0 ∧ x = y) ∨ (pm_cmp x y = -1 ∧ x < y) := by
  unfold pm_cmp
  split
  · exact Or.inl ⟨rfl, by assumption⟩
  · split
    · exact Or.inr (Or.inl ⟨rfl, by assumption⟩)
    · exact Or.inr (Or.inr ⟨rfl, by omega⟩)
theorem pm_lcmp (hC : pm_C X own cc nL d) {x y : Int} (hx : pm_RL x) (hy : pm_RL y) (hd : decode cc pc = .ok (.lcmp, 1)) (k : ∀ r : Int, (r = 1 ∧ y < x) ∨ (r = 0 ∧ x = y) ∨ (r = -1 ∧ x < y) → pm_J X (pc + 1) lv ((0, r) :: st) n V) : pm_J X pc lv ((1, y) :: (1, x) :: st) n V := by
  obtain ⟨p, l, e, R, s, m, args, below, meth, c, Q, G, nl, n0, n1⟩ := X
  intro d0 H locs ls h1 h2 h3 h4 h5 h6
  have k1 := k (pm_cmp x y) (pm_cmp_s x y) d0 H locs ls h1 h2 h3 h4 h5 h6
  have e1 : pm_rv G (0, pm_cmp x y) = .int (lg_cmp (Int64.ofInt x) (Int64.ofInt y)) := by
    show Value.int (Int32.ofInt (pm_cmp x y)) = _
    congr 1
    have a1 : Int64.ofInt x > Int64.ofInt y ↔ y < x := by
      show Int64.ofInt y < Int64.ofInt x ↔ _
      rw [Int64.lt_iff_toInt_lt, pm_toIntL hx, pm_toIntL hy]
    have a2 : Int64.ofInt x = Int64.ofInt y ↔ x = y := by
      refine ⟨fun h => ?_, fun h => by rw [h]⟩
      have := congrArg Int64.toInt h
      rwa [pm_toIntL hx, pm_toIntL hy] at this
    unfold pm_cmp lg_cmp
    by_cases q1 : y < x
    · rw [if_pos q1, if_pos (a1.mpr q1)]; rfl
    · rw [if_neg q1, if_neg (fun z => q1 (a1.mp z))]
      by_cases q2 : x = y
      · rw [if_pos q2, if_pos (a2.mpr q2)]; rfl
      · rw [if_neg q2, if_neg (fun z => q2 (a2.mp z))]; rfl
  simp only [pm_sts, List.map_cons, e1] at k1
  exact W.lcmp hC.1 hC.2.1 hd k1
theorem pm_dup (hC : pm_C X own cc nL d) {v : pm_V} (hv : pm_cat v.1 = 1) (hd : decode cc pc = .ok (.dup, 1)) (k : pm_J X (pc + 1) lv (v :: v :: st) n V) : pm_J X pc lv (v :: st) n V := by
  obtain ⟨p, l, e, R, s, m, args, below, meth, c, Q, G, nl, n0, n1⟩ := X
  intro d0 H locs ls h1 h2 h3 h4 h5 h6
  exact lv_dup hC.1 hC.2.1 hd (by rw [pm_rv_cat]; exact hv) (k d0 H locs ls h1 h2 h3 h4 h5 h6)
theorem pm_pop (hC : pm_C X own cc nL d) {v : pm_V} (hv : pm_cat v.1 = 1) (hd : decode cc pc = .ok (.pop, 1)) (k : pm_J X (pc + 1) lv st n V) : pm_J X pc lv (v :: st) n V := by
  obtain ⟨p, l, e, R, s, m, args, below, meth, c, Q, G, nl, n0, n1⟩ := X
  intro d0 H locs ls h1 h2 h3 h4 h5 h6
  exact lv_pop hC.1 hC.2.1 hd (by rw [pm_rv_cat]; exact hv) (k d0 H locs ls h1 h2 h3 h4 h5 h6)
theorem pm_dup2 (hC : pm_C X own cc nL d) {v u : pm_V} (hv : pm_cat v.1 = 1) (hu : pm_cat u.1 = 1) (hd : decode cc pc = .ok (.dup2, 1)) (k : pm_J X (pc + 1) lv (v :: u :: v :: u :: st) n V) : pm_J X pc lv (v :: u :: st) n V := by
  obtain ⟨p, l, e, R, s, m, args, below, meth, c, Q, G, nl, n0, n1⟩ := X
  intro d0 H locs ls h1 h2 h3 h4 h5 h6
  exact lv_dup2_11 hC.1 hC.2.1 hd (by rw [pm_rv_cat]; exact hv) (by rw [pm_rv_cat]; exact hu) (k d0 H locs ls h1 h2 h3 h4 h5 h6)
theorem pm_goto (hC : pm_C X own cc nL d) {off : Int} {tgt : Nat} (hd : decode cc pc = .ok (.goto off, 3)) (ht : (pc : Int) + off = (tgt : Int)) (k : pm_J X tgt lv st n V) : pm_J X pc lv st n V := by
  obtain ⟨p, l, e, R, s, m, args, below, meth, c, Q, G, nl, n0, n1⟩ := X
  intro d0 H locs ls h1 h2 h3 h4 h5 h6
  exact lv_goto hC.1 hC.2.1 hd ht (k d0 H locs ls h1 h2 h3 h4 h5 h6)
theorem pm_icmp_eq (hC : pm_C X own cc nL d) {x y : Int} {off : Int} {tgt : Nat} (hx : pm_R x) (hy : pm_R y) (hd : decode cc pc = .ok (.if_icmp .eq off, 3)) (ht : (pc : Int) + off = (tgt : Int)) (kt : x = y → pm_J X tgt lv st n V) (kf : ¬ x = y → pm_J X (pc + 3) lv st n V) : pm_J X pc lv ((0, y) :: (0, x) :: st) n V := by
  obtain ⟨p, l, e, R, s, m, args, below, meth, c, Q, G, nl, n0, n1⟩ := X
  intro d0 H locs ls h1 h2 h3 h4 h5 h6
  exact lv_icmp_eq hC.1 hC.2.1 hd ht (fun q => kt ((pm_eq hx hy).mp q) d0 H locs ls h1 h2 h3 h4 h5 h6) (fun q => kf (fun z => q ((pm_eq hx hy).mpr z)) d0 H locs ls h1 h2 h3 h4 h5 h6)
theorem pm_if_eq (hC : pm_C X own cc nL d) {x : Int} {off : Int} {tgt : Nat} (hx : pm_R x) (hd : decode cc pc = .ok (.ifCond .eq off, 3)) (ht : (pc : Int) + off = (tgt : Int)) (kt : x = 0 → pm_J X tgt lv st n V) (kf : ¬ x = 0 → pm_J X (pc + 3) lv st n V) : pm_J X pc lv ((0, x) :: st) n V := by
  obtain ⟨p, l, e, R, s, m, args, below, meth, c, Q, G, nl, n0, n1⟩ := X
  intro d0 H locs ls h1 h2 h3 h4 h5 h6
  have hy := pm_R0
  exact lv_if_eq hC.1 hC.2.1 hd ht (fun q => kt ((pm_eq hx hy).mp q) d0 H locs ls h1 h2 h3 h4 h5 h6) (fun q => kf (fun z => q ((pm_eq hx hy).mpr z)) d0 H locs ls h1 h2 h3 h4 h5 h6)
theorem pm_icmp_ne (hC : pm_C X own cc nL d) {x y : Int} {off : Int} {tgt : Nat} (hx : pm_R x) (hy : pm_R y) (hd : decode cc pc = .ok (.if_icmp .ne off, 3)) (ht : (pc : Int) + off = (tgt : Int)) (kt : ¬ x = y → pm_J X tgt lv st n V) (kf : x = y → pm_J X (pc + 3) lv st n V) : pm_J X pc lv ((0, y) :: (0, x) :: st) n V := by
  obtain ⟨p, l, e, R, s, m, args, below, meth, c, Q, G, nl, n0, n1⟩ := X
  intro d0 H locs ls h1 h2 h3 h4 h5 h6
  exact lv_icmp_ne hC.1 hC.2.1 hd ht (fun q => kt (fun z => q ((pm_eq hx hy).mpr z)) d0 H locs ls h1 h2 h3 h4 h5 h6) (fun q => kf ((pm_eq hx hy).mp q) d0 H locs ls h1 h2 h3 h4 h5 h6)
theorem pm_if_ne (hC : pm_C X own cc nL d) {x : Int} {off : Int} {tgt : Nat} (hx : pm_R x) (hd : decode cc pc = .ok (.ifCond .ne off, 3)) (ht : (pc : Int) + off = (tgt : Int)) (kt : ¬ x = 0 → pm_J X tgt lv st n V) (kf : x = 0 → pm_J X (pc + 3) lv st n V) : pm_J X pc lv ((0, x) :: st) n V := by
  obtain ⟨p, l, e, R, s, m, args, below, meth, c, Q, G, nl, n0, n1⟩ := X
  intro d0 H locs ls h1 h2 h3 h4 h5 h6
  have hy := pm_R0
  exact lv_if_ne hC.1 hC.2.1 hd ht (fun q => kt (fun z => q ((pm_eq hx hy).mpr z)) d0 H locs ls h1 h2 h3 h4 h5 h6) (fun q => kf ((pm_eq hx hy).mp q) d0 H locs ls h1 h2 h3 h4 h5 h6)
theorem pm_icmp_lt (hC : pm_C X own cc nL d) {x y : Int} {off : Int} {tgt : Nat} (hx : pm_R x) (hy : pm_R y) (hd : decode cc pc = .ok (.if_icmp .lt off, 3)) (ht : (pc : Int) + off = (tgt : Int)) (kt : x < y → pm_J X tgt lv st n V) (kf : y ≤ x → pm_J X (pc + 3) lv st n V) : pm_J X pc lv ((0, y) :: (0, x) :: st) n V := by
  obtain ⟨p, l, e, R, s, m, args, below, meth, c, Q, G, nl, n0, n1⟩ := X
  intro d0 H locs ls h1 h2 h3 h4 h5 h6
  exact lv_icmp_lt hC.1 hC.2.1 hd ht (fun q => kt ((pm_lt hx hy).mp q) d0 H locs ls h1 h2 h3 h4 h5 h6) (fun q => kf (Int.not_lt.mp (fun z => q ((pm_lt hx hy).mpr z))) d0 H locs ls h1 h2 h3 h4 h5 h6)
theorem pm_if_lt (hC : pm_C X own cc nL d) {x : Int} {off : Int} {tgt : Nat} (hx : pm_R x) (hd : decode cc pc = .ok (.ifCond .lt off, 3)) (ht : (pc : Int) + off = (tgt : Int)) (kt : x < 0 → pm_J X tgt lv st n V) (kf : 0 ≤ x → pm_J X (pc + 3) lv st n V) : pm_J X pc lv ((0, x) :: st) n V := by
  obtain ⟨p, l, e, R, s, m, args, below, meth, c, Q, G, nl, n0, n1⟩ := X
  intro d0 H locs ls h1 h2 h3 h4 h5 h6
  have hy := pm_R0
  exact lv_if_lt hC.1 hC.2.1 hd ht (fun q => kt ((pm_lt hx hy).mp q) d0 H locs ls h1 h2 h3 h4 h5 h6) (fun q => kf (Int.not_lt.mp (fun z => q ((pm_lt hx hy).mpr z))) d0 H locs ls h1 h2 h3 h4 h5 h6)
theorem pm_icmp_ge (hC : pm_C X own cc nL d) {x y : Int} {off : Int} {tgt : Nat} (hx : pm_R x) (hy : pm_R y) (hd : decode cc pc = .ok (.if_icmp .ge off, 3)) (ht : (pc : Int) + off = (tgt : Int)) (kt : y ≤ x → pm_J X tgt lv st n V) (kf : x < y → pm_J X (pc + 3) lv st n V) : pm_J X pc lv ((0, y) :: (0, x) :: st) n V := by
  obtain ⟨p, l, e, R, s, m, args, below, meth, c, Q, G, nl, n0, n1⟩ := X
  intro d0 H locs ls h1 h2 h3 h4 h5 h6
  exact lv_icmp_ge hC.1 hC.2.1 hd ht (fun q => kt ((pm_le hy hx).mp q) d0 H locs ls h1 h2 h3 h4 h5 h6) (fun q => kf (Int.not_le.mp (fun z => q ((pm_le hy hx).mpr z))) d0 H locs ls h1 h2 h3 h4 h5 h6)
theorem pm_if_ge (hC : pm_C X own cc nL d) {x : Int} {off : Int} {tgt : Nat} (hx : pm_R x) (hd : decode cc pc = .ok (.ifCond .ge off, 3)) (ht : (pc : Int) + off = (tgt : Int)) (kt : 0 ≤ x → pm_J X tgt lv st n V) (kf : x < 0 → pm_J X (pc + 3) lv st n V) : pm_J X pc lv ((0, x) :: st) n V := by
  obtain ⟨p, l, e, R, s, m, args, below, meth, c, Q, G, nl, n0, n1⟩ := X
  intro d0 H locs ls h1 h2 h3 h4 h5 h6
  have hy := pm_R0
  exact lv_if_ge hC.1 hC.2.1 hd ht (fun q => kt ((pm_le hy hx).mp q) d0 H locs ls h1 h2 h3 h4 h5 h6) (fun q => kf (Int.not_le.mp (fun z => q ((pm_le hy hx).mpr z))) d0 H locs ls h1 h2 h3 h4 h5 h6)
theorem pm_icmp_gt (hC : pm_C X own cc nL d) {x y : Int} {off : Int} {tgt : Nat} (hx : pm_R x) (hy : pm_R y) (hd : decode cc pc = .ok (.if_icmp .gt off, 3)) (ht : (pc : Int) + off = (tgt : Int)) (kt : y < x → pm_J X tgt lv st n V) (kf : x ≤ y → pm_J X (pc + 3) lv st n V) : pm_J X pc lv ((0, y) :: (0, x) :: st) n V := by
  obtain ⟨p, l, e, R, s, m, args, below, meth, c, Q, G, nl, n0, n1⟩ := X
  intro d0 H locs ls h1 h2 h3 h4 h5 h6
  exact lv_icmp_gt hC.1 hC.2.1 hd ht (fun q => kt ((pm_lt hy hx).mp q) d0 H locs ls h1 h2 h3 h4 h5 h6) (fun q => kf (Int.not_lt.mp (fun z => q ((pm_lt hy hx).mpr z))) d0 H locs ls h1 h2 h3 h4 h5 h6)
theorem pm_if_gt (hC : pm_C X own cc nL d) {x : Int} {off : Int} {tgt : Nat} (hx : pm_R x) (hd : decode cc pc = .ok (.ifCond .gt off, 3)) (ht : (pc : Int) + off = (tgt : Int)) (kt : 0 < x → pm_J X tgt lv st n V) (kf : x ≤ 0 → pm_J X (pc + 3) lv st n V) : pm_J X pc lv ((0, x) :: st) n V := by
  obtain ⟨p, l, e, R, s, m, args, below, meth, c, Q, G, nl, n0, n1⟩ := X
  intro d0 H locs ls h1 h2 h3 h4 h5 h6
  have hy := pm_R0
  exact lv_if_gt hC.1 hC.2.1 hd ht (fun q => kt ((pm_lt hy hx).mp q) d0 H locs ls h1 h2 h3 h4 h5 h6) (fun q => kf (Int.not_lt.mp (fun z => q ((pm_lt hy hx).mpr z))) d0 H locs ls h1 h2 h3 h4 h5 h6)
theorem pm_icmp_le (hC : pm_C X own cc nL d) {x y : Int} {off : Int} {tgt : Nat} (hx : pm_R x) (hy : pm_R y) (hd : decode cc pc = .ok (.if_icmp .le off, 3)) (ht : (pc : Int) + off = (tgt : Int)) (kt : x ≤ y → pm_J X tgt lv st n V) (kf : y < x → pm_J X (pc + 3) lv st n V) : pm_J X pc lv ((0, y) :: (0, x) :: st) n V := by
  obtain ⟨p, l, e, R, s, m, args, below, meth, c, Q, G, nl, n0, n1⟩ := X
  intro d0 H locs ls h1 h2 h3 h4 h5 h6
  exact lv_icmp_le hC.1 hC.2.1 hd ht (fun q => kt ((pm_le hx hy).mp q) d0 H locs ls h1 h2 h3 h4 h5 h6) (fun q => kf (Int.not_le.mp (fun z => q ((pm_le hx hy).mpr z))) d0 H locs ls h1 h2 h3 h4 h5 h6)
theorem pm_if_le (hC : pm_C X own cc nL d) {x : Int} {off : Int} {tgt : Nat} (hx : pm_R x) (hd : decode cc pc = .ok (.ifCond .le off, 3)) (ht : (pc : Int) + off = (tgt : Int)) (kt : x ≤ 0 → pm_J X tgt lv st n V) (kf : 0 < x → pm_J X (pc + 3) lv st n V) : pm_J X pc lv ((0, x) :: st) n V := by
  obtain ⟨p, l, e, R, s, m, args, below, meth, c, Q, G, nl, n0, n1⟩ := X
  intro d0 H locs ls h1 h2 h3 h4 h5 h6
  have hy := pm_R0
  exact lv_if_le hC.1 hC.2.1 hd ht (fun q => kt ((pm_le hx hy).mp q) d0 H locs ls h1 h2 h3 h4 h5 h6) (fun q => kf (Int.not_le.mp (fun z => q ((pm_le hx hy).mpr z))) d0 H locs ls h1 h2 h3 h4 h5 h6)
theorem pm_tableOut (hC : pm_C X own cc nL d) {dflt lo hi : Int} {offs : Array Int} {len : Nat} {x : Int} {tgt : Nat} (hx : pm_R x) (hd : decode cc pc = .ok (.tableswitch dflt lo hi offs, len)) (h : x < lo ∨ hi < x) (ht : (pc : Int) + dflt = (tgt : Int)) (k : pm_J X tgt lv st n V) : pm_J X pc lv ((0, x) :: st) n V := by
  obtain ⟨p, l, e, R, s, m, args, below, meth, c, Q, G, nl, n0, n1⟩ := X
  intro d0 H locs ls h1 h2 h3 h4 h5 h6
  exact lv_tableOut (x := Int32.ofInt x) hC.1 hC.2.1 hd (by rw [pm_toInt hx]; exact h) ht (k d0 H locs ls h1 h2 h3 h4 h5 h6)
theorem pm_tableIn (hC : pm_C X own cc nL d) {dflt lo hi : Int} {offs : Array Int} {len : Nat} {x off : Int} {tgt : Nat} (hx : pm_R x) (hd : decode cc pc = .ok (.tableswitch dflt lo hi offs, len)) (hlo : lo ≤ x) (hhi : x ≤ hi) (ho : offs[(x - lo).toNat]? = some off) (ht : (pc : Int) + off = (tgt : Int)) (k : pm_J X tgt lv st n V) : pm_J X pc lv ((0, x) :: st) n V := by
  obtain ⟨p, l, e, R, s, m, args, below, meth, c, Q, G, nl, n0, n1⟩ := X
  intro d0 H locs ls h1 h2 h3 h4 h5 h6
  exact lv_tableIn (x := Int32.ofInt x) hC.1 hC.2.1 hd (by rw [pm_toInt hx]; omega) (by rw [pm_toInt hx]; omega) (by rw [pm_toInt hx]; exact ho) ht (k d0 H locs ls h1 h2 h3 h4 h5 h6)
theorem pm_lookup (hC : pm_C X own cc nL d) {dflt : Int} {ps : Array (Int × Int)} {len : Nat} {x off : Int} {tgt : Nat} (hx : pm_R x) (hd : decode cc pc = .ok (.lookupswitch dflt ps, len)) (hp : (ps.toList.zip (ps.toList.drop 1)).all (fun (a, next) => a.1 < next.1) = true) (ho : Op.lookupswitch.offset ps.toList dflt x = off) (ht : (pc : Int) + off = (tgt : Int)) (k : pm_J X tgt lv st n V) : pm_J X pc lv ((0, x) :: st) n V := by
  obtain ⟨p, l, e, R, s, m, args, below, meth, c, Q, G, nl, n0, n1⟩ := X
  intro d0 H locs ls h1 h2 h3 h4 h5 h6
  exact lv_lookup (x := Int32.ofInt x) hC.1 hC.2.1 hd hp (by rw [pm_toInt hx]; exact ho) ht (k d0 H locs ls h1 h2 h3 h4 h5 h6)
theorem pm_dsome {G : pm_G} (r : UInt64) : pm_rv G (2, (r.toNat : Int)) = .double r := by
  show Value.double (UInt64.ofNat (r.toNat : Int).toNat) = _
  rw [Int.toNat_natCast, UInt64.ofNat_toNat]
theorem pm_dconst1 (hC : pm_C X own cc nL d) (hd : decode cc pc = .ok (.dconst 1, 1)) (k : ∀ r : Int, pm_J X (pc + 1) lv ((2, r) :: st) n V) : pm_J X pc lv st n V := by
  obtain ⟨p, l, e, R, s, m, args, below, meth, c, Q, G, nl, n0, n1⟩ := X
  intro d0 H locs ls h1 h2 h3 h4 h5 h6
  have k1 := k (FP.dconst1.toNat : Int) d0 H locs ls h1 h2 h3 h4 h5 h6
  simp only [pm_sts, List.map_cons, pm_dsome] at k1
  exact lv_dconst1 hC.1 hC.2.1 hd k1
theorem pm_l2d (hC : pm_C X own cc nL d) {x : Int} (hd : decode cc pc = .ok (.l2d, 1)) (k : ∀ r : Int, pm_J X (pc + 1) lv ((2, r) :: st) n V) : pm_J X pc lv ((1, x) :: st) n V := by
  obtain ⟨p, l, e, R, s, m, args, below, meth, c, Q, G, nl, n0, n1⟩ := X
  intro d0 H locs ls h1 h2 h3 h4 h5 h6
  have k1 := k ((FP.l2d (Int64.ofInt x)).toNat : Int) d0 H locs ls h1 h2 h3 h4 h5 h6
  simp only [pm_sts, List.map_cons, pm_dsome] at k1
  exact lv_l2d hC.1 hC.2.1 hd k1
theorem pm_dcmp (hC : pm_C X own cc nL d) {x y : Int} {op : CmpOp} (hd : decode cc pc = .ok (.dcmp op, 1)) (k : ∀ r : Int, pm_R r → pm_J X (pc + 1) lv ((0, r) :: st) n V) : pm_J X pc lv ((2, y) :: (2, x) :: st) n V := by
  obtain ⟨p, l, e, R, s, m, args, below, meth, c, Q, G, nl, n0, n1⟩ := X
  intro d0 H locs ls h1 h2 h3 h4 h5 h6
  have k1 := k (Op.cmpValue (FP.dcmp (UInt64.ofNat x.toNat) (UInt64.ofNat y.toNat)) op).toInt ⟨Int32.le_toInt _, Int.le_of_lt_add_one (Int32.toInt_lt _)⟩ d0 H locs ls h1 h2 h3 h4 h5 h6
  have e1 : pm_rv G (0, (Op.cmpValue (FP.dcmp (UInt64.ofNat x.toNat) (UInt64.ofNat y.toNat)) op).toInt) = .int (Op.cmpValue (FP.dcmp (UInt64.ofNat x.toNat) (UInt64.ofNat y.toNat)) op) := congrArg Value.int (Int32.ofInt_toInt _)
  simp only [pm_sts, List.map_cons, e1] at k1
  exact lv_dcmp hC.1 hC.2.1 hd k1
theorem pm_ldc2d (hC : pm_C X own cc nL d) {i : Nat} {v : UInt64} (j : Nat) (hd : decode cc pc = .ok (.ldc2_w i, 3)) (hw : (decide (pm_look j = some (.constantDouble own i v)) && goodWord (.constantDouble own i v)) = true) (k : ∀ r : Int, pm_J X (pc + 3) lv ((2, r) :: st) n V) : pm_J X pc lv st n V := by
  obtain ⟨p, l, e, R, s, m, args, below, meth, c, Q, G, nl, n0, n1⟩ := X
  intro d0 H locs ls h1 h2 h3 h4 h5 h6
  have k1 := k (v.toNat : Int) d0 H locs ls h1 h2 h3 h4 h5 h6
  simp only [pm_sts, List.map_cons, pm_dsome] at k1
  exact lv_ldc2d hC.1 hC.2.1 hC.2.2.2.2.1 (dr_words hC.2.2.2.2.2.1 _ _ (pm_in j hw)) hd k1
theorem pm_dmul (hC : pm_C X own cc nL d) {x y : Int} (hd : decode cc pc = .ok (.dmul, 1)) (k : ∀ r : Int, pm_J X (pc + 1) lv ((2, r) :: st) n V) : pm_J X pc lv ((2, y) :: (2, x) :: st) n V := by
  obtain ⟨p, l, e, R, s, m, args, below, meth, c, Q, G, nl, n0, n1⟩ := X
  intro d0 H locs ls h1 h2 h3 h4 h5 h6
  refine lv_dmul_any h1 lw_bits hC.1 hC.2.1 hd (fun r d1 _ hd1 => ?_)
  have k1 := k (r.toNat : Int) d1 H locs ls hd1 h2 h3 h4 h5 h6
  simp only [pm_sts, List.map_cons, pm_dsome] at k1
  exact k1
theorem pm_ddiv (hC : pm_C X own cc nL d) {x y : Int} (hd : decode cc pc = .ok (.ddiv, 1)) (k : ∀ r : Int, pm_J X (pc + 1) lv ((2, r) :: st) n V) : pm_J X pc lv ((2, y) :: (2, x) :: st) n V := by
  obtain ⟨p, l, e, R, s, m, args, below, meth, c, Q, G, nl, n0, n1⟩ := X
  intro d0 H locs ls h1 h2 h3 h4 h5 h6
  refine lv_ddiv_any h1 lw_bits hC.1 hC.2.1 hd (fun r d1 _ hd1 => ?_)
  have k1 := k (r.toNat : Int) d1 H locs ls hd1 h2 h3 h4 h5 h6
  simp only [pm_sts, List.map_cons, pm_dsome] at k1
  exact k1
end PA
