/-! DOUBLES with their values: what a rounding leaves -/
def fp_ok (D : FP.Core.Datum) : Prop := D = .inf false ∨ ∃ (c : Nat) (q : Int), D = .fin false c q ∧ c < 2 ^ 53 ∧ -1074 ≤ q ∧ q ≤ 971 ∧ (q = -1074 ∨ 2 ^ 52 ≤ c)
theorem fp_ok_enc {D : FP.Core.Datum} (h : fp_ok D) : FP.Core.encode FP.Core.b64 D ≤ 9218868437227405312 ∧ FP.Core.decode FP.Core.b64 (FP.Core.encode FP.Core.b64 D) = D := by
  rcases h with rfl | ⟨c, q, rfl, h1, h2, h3, h4⟩
  · exact ⟨by decide +kernel, by decide +kernel⟩
  · have t52 : FP.Core.b64.tails = 4503599627370496 := by decide
    have x11 : FP.Core.b64.exps = 2048 := by decide
    have qm : FP.Core.b64.qmin = -1074 := by decide
    by_cases k : 2 ^ 52 ≤ c
    · refine ⟨?_, (fp_enc k h1 h2 h3).2⟩
      obtain ⟨E, hE⟩ : ∃ E : Nat, (q - FP.Core.b64.qmin).toNat + 1 = E := ⟨_, rfl⟩
      obtain ⟨T, hT⟩ : ∃ T : Nat, c - FP.Core.b64.tails = T := ⟨_, rfl⟩
      have hE1 : E ≤ 2046 := by rw [qm] at hE; omega
      have hT1 : T < 4503599627370496 := by rw [t52] at hT; omega
      have e1 : FP.Core.encode FP.Core.b64 (.fin false c q) = E * 4503599627370496 + T := by
        unfold FP.Core.encode FP.Core.assemble
        dsimp only
        rw [if_neg (by rw [t52]; omega), hE, hT, t52]
        simp
      rw [e1]
      omega
    · have hq : q = -1074 := by omega
      subst hq
      have e1 : FP.Core.encode FP.Core.b64 (.fin false c (-1074)) = c := by
        unfold FP.Core.encode FP.Core.assemble
        dsimp only
        rw [if_pos (by rw [t52]; omega)]
        simp
      rw [e1]
      refine ⟨by omega, ?_⟩
      have d1 : c / 4503599627370496 = 0 := by omega
      have d2 : c % 4503599627370496 = c := by omega
      unfold FP.Core.decode FP.Core.fieldE FP.Core.fieldT FP.Core.fieldS
      rw [t52, x11, qm, d1, d2]
      rw [if_neg (by omega), if_pos (by omega)]
      have d5 : ((0 / 2048 % 2 : Nat) == 1) = false := by decide
      rw [d5]
theorem fp_lt {num den : Nat} {L : Int} (hM : ∀ M : Nat, 0 ≤ L + (M : Int) → den * 2 ^ (L + (M : Int)).toNat ≤ num * 2 ^ M ∧ num * 2 ^ M < den * 2 ^ (L + 1 + (M : Int)).toNat) {a b : Nat} (h : L + 1 + (a : Int) ≤ b) : num * 2 ^ a < den * 2 ^ b := by
  have h1 := (hM (a + (-(L + (a : Int))).toNat) (by omega)).2
  have h2 : den * 2 ^ (L + 1 + ((a + (-(L + (a : Int))).toNat : Nat) : Int)).toNat ≤ den * 2 ^ (b + (-(L + (a : Int))).toNat) := Nat.mul_le_mul_left _ (Nat.pow_le_pow_right (by decide) (by omega))
  have h3 := Nat.lt_of_lt_of_le h1 h2
  rw [Nat.pow_add, Nat.pow_add, ← Nat.mul_assoc, ← Nat.mul_assoc] at h3
  exact Nat.lt_of_mul_lt_mul_right h3
theorem fp_ge {num den : Nat} {L : Int} (hM : ∀ M : Nat, 0 ≤ L + (M : Int) → den * 2 ^ (L + (M : Int)).toNat ≤ num * 2 ^ M ∧ num * 2 ^ M < den * 2 ^ (L + 1 + (M : Int)).toNat) {a b : Nat} (h : (b : Int) ≤ L + a) : den * 2 ^ b ≤ num * 2 ^ a :=
  Nat.le_trans (Nat.mul_le_mul_left _ (Nat.pow_le_pow_right (by decide) (by omega))) (hM a (by omega)).1
/-- the rounding's shape: the last digit's exponent, the digits -/
theorem fp_shape {num den : Nat} {e : Int} (hn : 0 < num) (hd : 0 < den) : ∃ (L Q : Int) (N : Nat), FP.Core.leading num den = L ∧ (∀ M : Nat, 0 ≤ L + (M : Int) → den * 2 ^ (L + (M : Int)).toNat ≤ num * 2 ^ M ∧ num * 2 ^ M < den * 2 ^ (L + 1 + (M : Int)).toNat) ∧ -1074 ≤ Q ∧ L + e - 52 ≤ Q ∧ (Q = -1074 ∨ Q = L + e - 52) ∧ FP.Core.nearest (num * 2 ^ (e - Q).toNat) (den * 2 ^ (Q - e).toNat) = N ∧ N ≤ 2 ^ 53 ∧ (Q = -1074 ∨ 2 ^ 52 ≤ N) ∧ FP.Core.roundRatio FP.Core.b64 false num den e = FP.Core.settle FP.Core.b64 false N Q := by
  obtain ⟨L, eL, hM⟩ := fp_leadM hn hd
  obtain ⟨Q, hQ⟩ : ∃ Q : Int, max (-1074) (L + e - 52) = Q := ⟨_, rfl⟩
  have q1 : -1074 ≤ Q ∧ L + e - 52 ≤ Q ∧ (Q = -1074 ∨ Q = L + e - 52) := by omega
  obtain ⟨N, hN⟩ : ∃ N, FP.Core.nearest (num * 2 ^ (e - Q).toNat) (den * 2 ^ (Q - e).toNat) = N := ⟨_, rfl⟩
  have hq : FP.Core.quantum FP.Core.b64 num den e = Q := by
    unfold FP.Core.quantum
    rw [eL]
    have a : FP.Core.b64.qmin = -1074 := by decide
    have b : ((FP.Core.b64.p : Int) - 1) = 52 := by decide
    rw [a, b]
    exact hQ
  have hDp : 0 < den * 2 ^ (Q - e).toNat := Nat.mul_pos hd (Nat.two_pow_pos _)
  refine ⟨L, Q, N, eL, hM, q1.1, q1.2.1, q1.2.2, hN, ?_, ?_, ?_⟩
  · rw [← hN]
    refine fp_near_le hDp ?_
    have h := fp_lt hM (a := (e - Q).toNat) (b := (Q - e).toNat + 53) (by omega)
    rw [Nat.pow_add, ← Nat.mul_assoc] at h
    rw [Nat.mul_comm (2 ^ 53)]
    exact Nat.le_of_lt h
  · rcases q1.2.2 with q | q
    · exact Or.inl q
    · refine Or.inr ?_
      rw [← hN]
      refine fp_near_ge hDp ?_
      have h := fp_ge hM (a := (e - Q).toNat) (b := (Q - e).toNat + 52) (by omega)
      rw [Nat.pow_add, ← Nat.mul_assoc] at h
      rw [Nat.mul_comm (2 ^ 52)]
      exact h
  · unfold FP.Core.roundRatio FP.Core.roundAt FP.Core.unitsNum FP.Core.unitsDen
    rw [if_neg (by omega), hq, hN]
theorem fp_settle {N : Nat} {Q : Int} (h1 : N ≤ 2 ^ 53) (h2 : -1074 ≤ Q) : (FP.Core.settle FP.Core.b64 false N Q = .inf false ∧ 971 ≤ Q) ∨ ∃ (c : Nat) (q : Int), FP.Core.settle FP.Core.b64 false N Q = .fin false c q ∧ c < 2 ^ 53 ∧ q ≤ 971 ∧ ((c = N ∧ q = Q) ∨ (N = 2 ^ 53 ∧ c = 2 ^ 52 ∧ q = Q + 1)) := by
  have p53 : FP.Core.b64.p = 53 := rfl
  have m971 : FP.Core.b64.qmax = 971 := by decide
  have t52 : FP.Core.b64.tails = 2 ^ 52 := by decide
  unfold FP.Core.settle FP.Core.bound
  rw [p53, m971, t52]
  by_cases c : N < 2 ^ 53
  · rw [if_pos c]
    by_cases k : Q ≤ 971
    · rw [if_pos k]
      exact Or.inr ⟨N, Q, rfl, c, k, Or.inl ⟨rfl, rfl⟩⟩
    · rw [if_neg k]
      exact Or.inl ⟨rfl, by omega⟩
  · rw [if_neg c]
    by_cases k : Q + 1 ≤ 971
    · rw [if_pos k]
      exact Or.inr ⟨2 ^ 52, Q + 1, rfl, by decide, k, Or.inr ⟨by omega, rfl, rfl⟩⟩
    · rw [if_neg k]
      exact Or.inl ⟨rfl, by omega⟩
theorem fp_ok_rr {num den : Nat} {e : Int} (hd : 0 < den) : fp_ok (FP.Core.roundRatio FP.Core.b64 false num den e) := by
  by_cases hn : num = 0
  · refine Or.inr ⟨0, -1074, ?_, by decide, by decide, by decide, Or.inl rfl⟩
    unfold FP.Core.roundRatio
    rw [if_pos hn]
    have qm : FP.Core.b64.qmin = -1074 := by decide
    rw [qm]
  · obtain ⟨L, Q, N, -, -, q1, -, -, -, n1, n2, e1⟩ := fp_shape (e := e) (show 0 < num by omega) hd
    rw [e1]
    rcases fp_settle n1 q1 with ⟨h, -⟩ | ⟨c, q, h, h1, h2, h3⟩
    · exact Or.inl h
    · refine Or.inr ⟨c, q, h, h1, ?_, h2, ?_⟩
      · rcases h3 with ⟨-, h⟩ | ⟨-, -, h⟩ <;> omega
      · rcases h3 with ⟨rfl, rfl⟩ | ⟨-, rfl, -⟩
        · exact n2
        · exact Or.inr (by decide)
/-! bits, and what they stand for -/
def fp_v (x : Int) : FP.Core.Datum := FP.Core.decode FP.Core.b64 x.toNat
def fp_gd (x : Int) : Prop := 0 ≤ x ∧ x < 9223372036854775808 ∧ fp_ok (fp_v x)
def fp_gp (x : Int) : Prop := 0 ≤ x ∧ x < 9223372036854775808 ∧ ∃ (c : Nat) (q : Int), fp_v x = .fin false c q ∧ 0 < c
def fp_l (x : Int) : Int := ((FP.l2d (Int64.ofInt x)).toNat : Int)
def fp_m (x y : Int) : Int := ((FP.dmul (UInt64.ofNat x.toNat) (UInt64.ofNat y.toNat)).toNat : Int)
def fp_d (x y : Int) : Int := ((FP.ddiv (UInt64.ofNat x.toNat) (UInt64.ofNat y.toNat)).toNat : Int)
def fp_c (op : CmpOp) (x y : Int) : Int := (Op.cmpValue (FP.dcmp (UInt64.ofNat x.toNat) (UInt64.ofNat y.toNat)) op).toInt
theorem fp_u {x : Int} (h0 : 0 ≤ x) (h1 : x < 9223372036854775808) : (UInt64.ofNat x.toNat).toNat = x.toNat := UInt64.toNat_ofNat_of_lt' (by have e : UInt64.size = 18446744073709551616 := rfl; omega)
theorem fp_bits {D : FP.Core.Datum} (h : fp_ok D) : (UInt64.ofNat (FP.Core.encode FP.Core.b64 D)).toNat ≤ 9218868437227405312 ∧ fp_v (((UInt64.ofNat (FP.Core.encode FP.Core.b64 D)).toNat : Nat) : Int) = D := by
  obtain ⟨a, b⟩ := fp_ok_enc h
  rw [UInt64.toNat_ofNat_of_lt' (by have e : UInt64.size = 18446744073709551616 := rfl; omega)]
  refine ⟨a, ?_⟩
  unfold fp_v
  rw [Int.toNat_natCast]
  exact b
theorem fp_gd_of {z : Int} {D : FP.Core.Datum} (h : fp_ok D) (e : z = (((UInt64.ofNat (FP.Core.encode FP.Core.b64 D)).toNat : Nat) : Int)) : fp_gd z ∧ fp_v z = D := by
  obtain ⟨a, b⟩ := fp_bits h
  rw [← e] at b
  exact ⟨⟨by omega, by omega, by rw [b]; exact h⟩, b⟩
theorem fp_m_ok {x y : Int} (hx : fp_gd x) (hy : fp_gp y) : fp_ok (FP.Core.round FP.Core.b64 (FP.Core.exactProduct (fp_v x) (fp_v y))) := by
  obtain ⟨d, r, hy, hd⟩ := hy.2.2
  rw [hy]
  rcases hx.2.2 with h | ⟨c, q, h, -⟩
  · rw [h]
    show fp_ok (FP.Core.round FP.Core.b64 (if d = 0 then .nan else .inf (false != false)))
    rw [if_neg (by omega)]
    exact Or.inl rfl
  · rw [h]
    exact fp_ok_rr (num := c * d) (den := 1) (e := q + r) (by decide)
theorem fp_m_bits {x y : Int} (hx : fp_gd x) (hy : fp_gp y) : FP.dmul (UInt64.ofNat x.toNat) (UInt64.ofNat y.toNat) = UInt64.ofNat (FP.Core.encode FP.Core.b64 (FP.Core.round FP.Core.b64 (FP.Core.exactProduct (fp_v x) (fp_v y)))) := by
  show UInt64.ofNat (FP.Core.mul FP.Core.b64 (UInt64.ofNat x.toNat).toNat (UInt64.ofNat y.toNat).toNat) = _
  rw [fp_u hx.1 hx.2.1, fp_u hy.1 hy.2.1]
  rfl
theorem fp_m_v {x y : Int} (hx : fp_gd x) (hy : fp_gp y) : fp_gd (fp_m x y) ∧ fp_v (fp_m x y) = FP.Core.round FP.Core.b64 (FP.Core.exactProduct (fp_v x) (fp_v y)) := fp_gd_of (fp_m_ok hx hy) (by unfold fp_m; rw [fp_m_bits hx hy])
theorem fp_m_gd {x y : Int} (hx : fp_gd x) (hy : fp_gp y) : fp_gd (fp_m x y) := (fp_m_v hx hy).1
theorem fp_d_ok {x y : Int} (hx : fp_gd x) (hy : fp_gp y) : fp_ok (FP.Core.quotient FP.Core.b64 (fp_v x) (fp_v y)) := by
  obtain ⟨d, r, hy, hd⟩ := hy.2.2
  rw [hy]
  rcases hx.2.2 with h | ⟨c, q, h, -⟩
  · rw [h]
    exact Or.inl rfl
  · rw [h]
    show fp_ok (if d = 0 then (if c = 0 then .nan else .inf (false != false)) else FP.Core.roundRatio FP.Core.b64 (false != false) c d (q - r))
    rw [if_neg (by omega)]
    exact fp_ok_rr hd
theorem fp_d_bits {x y : Int} (hx : fp_gd x) (hy : fp_gp y) : FP.ddiv (UInt64.ofNat x.toNat) (UInt64.ofNat y.toNat) = UInt64.ofNat (FP.Core.encode FP.Core.b64 (FP.Core.quotient FP.Core.b64 (fp_v x) (fp_v y))) := by
  show UInt64.ofNat (FP.Core.div FP.Core.b64 (UInt64.ofNat x.toNat).toNat (UInt64.ofNat y.toNat).toNat) = _
  rw [fp_u hx.1 hx.2.1, fp_u hy.1 hy.2.1]
  rfl
theorem fp_d_v {x y : Int} (hx : fp_gd x) (hy : fp_gp y) : fp_gd (fp_d x y) ∧ fp_v (fp_d x y) = FP.Core.quotient FP.Core.b64 (fp_v x) (fp_v y) := fp_gd_of (fp_d_ok hx hy) (by unfold fp_d; rw [fp_d_bits hx hy])
theorem fp_d_gd {x y : Int} (hx : fp_gd x) (hy : fp_gp y) : fp_gd (fp_d x y) := (fp_d_v hx hy).1
theorem fp_gd1 : fp_gd 4607182418800017408 := ⟨by decide, by decide, Or.inr ⟨4503599627370496, -52, by decide +kernel, by decide, by decide, by decide, Or.inr (by decide)⟩⟩
theorem fp_l_v {x : Int} (h : 1 ≤ x ∧ x ≤ 9223372036854775807) : fp_gd (fp_l x) ∧ fp_v (fp_l x) = FP.Core.roundRatio FP.Core.b64 false x.toNat 1 0 := by
  refine fp_gd_of (fp_ok_rr (by decide)) ?_
  unfold fp_l
  have e1 : (Int64.ofInt x).toInt = x := pm_toIntL ⟨by omega, by omega⟩
  have e2 : FP.Core.ofInt x = .fin false x.toNat 0 := by
    unfold FP.Core.ofInt
    have a : decide (x < 0) = false := decide_eq_false (by omega)
    have b : x.natAbs = x.toNat := by omega
    rw [a, b]
  show (((UInt64.ofNat (FP.Core.fromInt FP.Core.b64 (Int64.ofInt x).toInt)).toNat : Nat) : Int) = _
  unfold FP.Core.fromInt
  rw [e1, e2]
  rfl
theorem fp_l_gp {x : Int} (h : 1 ≤ x ∧ x ≤ 9223372036854775807) : fp_gp (fp_l x) := by
  obtain ⟨a, b⟩ := fp_l_v h
  refine ⟨a.1, a.2.1, ?_⟩
  rw [b]
  obtain ⟨L, eL, hM⟩ := fp_leadM (num := x.toNat) (den := 1) (by omega) (by decide)
  have l0 : 0 ≤ L := by
    rcases Int.lt_or_le L 0 with q | q
    · exfalso
      have h1 := fp_lt hM (a := 0) (b := 0) (by omega)
      rw [Nat.pow_zero, Nat.mul_one] at h1
      omega
    · exact q
  have l1 : L ≤ 63 := by
    rcases Int.lt_or_le 63 L with q | q
    · exfalso
      have h1 := fp_ge hM (a := 0) (b := 63) (by omega)
      rw [Nat.pow_zero, Nat.mul_one] at h1
      omega
    · exact q
  obtain ⟨c, q, h1, h2, -⟩ := fp_round (num := x.toNat) (den := 1) (e := 0) (by omega) (by decide) eL (by omega) (by omega)
  exact ⟨c, q, h1, by omega⟩
/-! the rows -/
theorem fp_alike {r z : UInt64} (h : alike64 r z = true) (hz : z.toNat ≤ 9218868437227405312) : r = z := by
  unfold alike64 at h
  rw [Bool.or_eq_true, Bool.and_eq_true] at h
  rcases h with h | ⟨-, h⟩
  · exact of_decide_eq_true h
  · exfalso
    unfold isNaN64 at h
    have h1 := of_decide_eq_true h
    rw [gt_iff_lt, UInt64.lt_iff_toNat_lt, UInt64.toNat_and] at h1
    have h2 := Nat.and_le_left (n := z.toNat) (m := (0x7fffffffffffffff : UInt64).toNat)
    have e : (0x7ff0000000000000 : UInt64).toNat = 9218868437227405312 := rfl
    omega
section PDV
variable {X : pm_X} {own : String} {cc : ByteArray} {nL d : Nat} {pc : Nat} {lv lv' : pm_L} {st : List pm_V} {n : Nat} {V : pm_M}
theorem pm_dconst1V (hC : pm_C X own cc nL d) (hd : decode cc pc = .ok (.dconst 1, 1)) (k : pm_J X (pc + 1) lv ((2, 4607182418800017408) :: st) n V) : pm_J X pc lv st n V := by
  obtain ⟨p, l, e, R, s, m, args, below, meth, c, Q, G, nl, n0, n1⟩ := X
  intro d0 H locs ls h1 h2 h3 h4 h5 h6
  have k1 := k d0 H locs ls h1 h2 h3 h4 h5 h6
  have e1 : pm_rv G (2, 4607182418800017408) = .double FP.dconst1 := rfl
  simp only [pm_sts, List.map_cons, e1] at k1
  exact lv_dconst1 hC.1 hC.2.1 hd k1
theorem pm_l2dV (hC : pm_C X own cc nL d) {x : Int} (hd : decode cc pc = .ok (.l2d, 1)) (k : pm_J X (pc + 1) lv ((2, fp_l x) :: st) n V) : pm_J X pc lv ((1, x) :: st) n V := by
  obtain ⟨p, l, e, R, s, m, args, below, meth, c, Q, G, nl, n0, n1⟩ := X
  intro d0 H locs ls h1 h2 h3 h4 h5 h6
  have k1 := k d0 H locs ls h1 h2 h3 h4 h5 h6
  have e1 : pm_rv G (2, fp_l x) = .double (FP.l2d (Int64.ofInt x)) := pm_dsome _
  simp only [pm_sts, List.map_cons, e1] at k1
  exact lv_l2d hC.1 hC.2.1 hd k1
theorem pm_dcmpV (hC : pm_C X own cc nL d) {x y : Int} {op : CmpOp} (hd : decode cc pc = .ok (.dcmp op, 1)) (k : ∀ r : Int, fp_c op x y = r → pm_R r → pm_J X (pc + 1) lv ((0, r) :: st) n V) : pm_J X pc lv ((2, y) :: (2, x) :: st) n V := by
  obtain ⟨p, l, e, R, s, m, args, below, meth, c, Q, G, nl, n0, n1⟩ := X
  intro d0 H locs ls h1 h2 h3 h4 h5 h6
  have k1 := k (fp_c op x y) rfl ⟨Int32.le_toInt _, Int.le_of_lt_add_one (Int32.toInt_lt _)⟩ d0 H locs ls h1 h2 h3 h4 h5 h6
  have e1 : pm_rv G (0, fp_c op x y) = .int (Op.cmpValue (FP.dcmp (UInt64.ofNat x.toNat) (UInt64.ofNat y.toNat)) op) := congrArg Value.int (Int32.ofInt_toInt _)
  simp only [pm_sts, List.map_cons, e1] at k1
  exact lv_dcmp hC.1 hC.2.1 hd k1
theorem pm_ldc2dV (hC : pm_C X own cc nL d) {i : Nat} {v : UInt64} {z : Int} (j : Nat) (hd : decode cc pc = .ok (.ldc2_w i, 3)) (hw : (decide (pm_look j = some (.constantDouble own i v)) && goodWord (.constantDouble own i v)) = true) (hz : (v.toNat : Int) = z) (k : pm_J X (pc + 3) lv ((2, z) :: st) n V) : pm_J X pc lv st n V := by
  obtain ⟨p, l, e, R, s, m, args, below, meth, c, Q, G, nl, n0, n1⟩ := X
  intro d0 H locs ls h1 h2 h3 h4 h5 h6
  have k1 := k d0 H locs ls h1 h2 h3 h4 h5 h6
  have e1 : pm_rv G (2, z) = .double v := by rw [← hz]; exact pm_dsome v
  simp only [pm_sts, List.map_cons, e1] at k1
  exact lv_ldc2d hC.1 hC.2.1 hC.2.2.2.2.1 (dr_words hC.2.2.2.2.2.1 _ _ (pm_in j hw)) hd k1
theorem pm_dmulV (hC : pm_C X own cc nL d) {x y z : Int} (hx : fp_gd x) (hy : fp_gp y) (he : fp_m x y = z) (hd : decode cc pc = .ok (.dmul, 1)) (k : pm_J X (pc + 1) lv ((2, z) :: st) n V) : pm_J X pc lv ((2, y) :: (2, x) :: st) n V := by
  obtain ⟨p, l, e, R, s, m, args, below, meth, c, Q, G, nl, n0, n1⟩ := X
  intro d0 H locs ls h1 h2 h3 h4 h5 h6
  refine lv_dmul_any h1 lw_bits hC.1 hC.2.1 hd (fun r d1 ha hd1 => ?_)
  have er : r = FP.dmul (UInt64.ofNat x.toNat) (UInt64.ofNat y.toNat) := fp_alike ha (by rw [fp_m_bits hx hy]; exact (fp_bits (fp_m_ok hx hy)).1)
  have k1 := k d1 H locs ls hd1 h2 h3 h4 h5 h6
  have ez : pm_rv G (2, z) = .double r := by rw [← he, er]; exact pm_dsome _
  simp only [pm_sts, List.map_cons, ez] at k1
  exact k1
theorem pm_ddivV (hC : pm_C X own cc nL d) {x y z : Int} (hx : fp_gd x) (hy : fp_gp y) (he : fp_d x y = z) (hd : decode cc pc = .ok (.ddiv, 1)) (k : pm_J X (pc + 1) lv ((2, z) :: st) n V) : pm_J X pc lv ((2, y) :: (2, x) :: st) n V := by
  obtain ⟨p, l, e, R, s, m, args, below, meth, c, Q, G, nl, n0, n1⟩ := X
  intro d0 H locs ls h1 h2 h3 h4 h5 h6
  refine lv_ddiv_any h1 lw_bits hC.1 hC.2.1 hd (fun r d1 ha hd1 => ?_)
  have er : r = FP.ddiv (UInt64.ofNat x.toNat) (UInt64.ofNat y.toNat) := fp_alike ha (by rw [fp_d_bits hx hy]; exact (fp_bits (fp_d_ok hx hy)).1)
  have k1 := k d1 H locs ls hd1 h2 h3 h4 h5 h6
  have ez : pm_rv G (2, z) = .double r := by rw [← he, er]; exact pm_dsome _
  simp only [pm_sts, List.map_cons, ez] at k1
  exact k1
end PDV
