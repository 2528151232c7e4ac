/-! DOUBLES: values in units of the least number -/
def fp_e (k : Nat) : Nat := 2 ^ k
theorem fp_e_p (k : Nat) : 0 < fp_e k := Nat.two_pow_pos k
theorem fp_e_add (a b : Nat) : fp_e (a + b) = fp_e a * fp_e b := Nat.pow_add 2 a b
theorem fp_e_le {a b : Nat} (h : a ≤ b) : fp_e a ≤ fp_e b := Nat.pow_le_pow_right (by decide) h
theorem fp_e_lt {a b : Nat} (h : a < b) : fp_e a < fp_e b := Nat.pow_lt_pow_right (by decide) h
/-- x stands for X times 2 to the -1074th -/
def fp_x (x : Int) (X : Nat) : Prop := ∃ (c : Nat) (q : Int), fp_v x = .fin false c q ∧ c < 2 ^ 53 ∧ -1074 ≤ q ∧ q ≤ 971 ∧ X = c * fp_e (q + 1074).toNat
theorem fp_gd.x {x : Int} (h : fp_gd x) : fp_v x = .inf false ∨ ∃ X, fp_x x X := by
  rcases h.2.2 with h | ⟨c, q, h, h1, h2, h3, -⟩
  · exact Or.inl h
  · exact Or.inr ⟨_, c, q, h, h1, h2, h3, rfl⟩
theorem fp_leads {num den : Nat} {L : Int} (hM : ∀ M : Nat, 0 ≤ L + (M : Int) → den * 2 ^ (L + (M : Int)).toNat ≤ num * 2 ^ M ∧ num * 2 ^ M < den * 2 ^ (L + 1 + (M : Int)).toNat) {a b : Nat} : (num * fp_e a < den * fp_e b → L + a < b) ∧ (den * fp_e b ≤ num * fp_e a → (b : Int) ≤ L + a) := by
  constructor
  · intro h
    rcases Int.lt_or_le (L + a) b with q | q
    · exact q
    · exact absurd h (Nat.not_lt.mpr (fp_ge hM q))
  · intro h
    rcases Int.lt_or_le (L + a) b with q | q
    · exact absurd h (Nat.not_le.mpr (fp_lt hM (by omega)))
    · exact q
theorem fp_l_x {f : Nat} (h1 : 1 ≤ f) (h2 : f < 2 ^ 53) : ∃ d t : Nat, fp_v (fp_l f) = .fin false d (-(t : Int)) ∧ 2 ^ 52 ≤ d ∧ d < 2 ^ 53 ∧ t ≤ 52 ∧ d = f * fp_e t := by
  obtain ⟨a, b⟩ := fp_l_v (x := f) ⟨by omega, by omega⟩
  rw [Int.toNat_natCast] at b
  obtain ⟨L, Q, N, -, hM, q1, q2, q3, hN, n1, n2, e1⟩ := fp_shape (num := f) (den := 1) (e := 0) (by omega) (by decide)
  have l0 : 0 ≤ L := by
    have h := (fp_leads hM (a := 0) (b := 0)).2 (by show 1 * 2 ^ 0 ≤ f * 2 ^ 0; omega)
    omega
  have l1 : L ≤ 52 := by
    have h := (fp_leads hM (a := 0) (b := 53)).1 (by show f * 2 ^ 0 < 1 * 2 ^ 53; omega)
    omega
  obtain ⟨t, ht, ht1, ht2⟩ : ∃ t : Nat, Q = -(t : Int) ∧ t ≤ 52 ∧ L + t = 52 := ⟨(-Q).toNat, by omega, by omega, by omega⟩
  subst ht
  have e2 : (0 - -(t : Int)).toNat = t := by omega
  have e3 : (-(t : Int) - 0).toNat = 0 := by omega
  rw [e2, e3] at hN
  have eN : N = f * fp_e t := by
    rw [← hN]
    exact Nat.le_antisymm (fp_near_le (by decide) (by rw [Nat.pow_zero, Nat.mul_one]; exact Nat.le_refl _)) (fp_near_ge (by decide) (by rw [Nat.pow_zero, Nat.mul_one]; exact Nat.le_refl _))
  have hlt : N < 2 ^ 53 := by
    have h := fp_lt hM (a := t) (b := 53) (by omega)
    rw [eN]
    rw [Nat.one_mul] at h
    exact h
  rcases fp_settle n1 q1 with ⟨-, h⟩ | ⟨c, q, h, c1, c2, c3⟩
  · exfalso
    omega
  · rcases c3 with ⟨rfl, rfl⟩ | ⟨c3, -, -⟩
    · exact ⟨c, t, b.trans (e1.trans h), by omega, c1, ht1, eN⟩
    · exfalso
      omega
theorem fp_mul_v {x : Int} {c : Nat} {q : Int} {f d t : Nat} (hg : fp_gd x) (hx : fp_v x = .fin false c q) (h1 : 1 ≤ f) (h2 : f < 2 ^ 53) (hf : fp_v (fp_l f) = .fin false d (-(t : Int))) : fp_v (fp_m x (fp_l f)) = FP.Core.roundRatio FP.Core.b64 false (c * d) 1 (q - t) := by
  have h := (fp_m_v hg (fp_l_gp (x := f) ⟨by omega, by omega⟩)).2
  rw [hx, hf] at h
  exact h
theorem fp_div_v {x : Int} {c : Nat} {q : Int} {f d t : Nat} (hg : fp_gd x) (hx : fp_v x = .fin false c q) (h1 : 1 ≤ f) (h2 : f < 2 ^ 53) (hf : fp_v (fp_l f) = .fin false d (-(t : Int))) (hd : 0 < d) : fp_v (fp_d x (fp_l f)) = FP.Core.roundRatio FP.Core.b64 false c d (q + t) := by
  have h := (fp_d_v hg (fp_l_gp (x := f) ⟨by omega, by omega⟩)).2
  rw [hx, hf] at h
  have e : FP.Core.quotient FP.Core.b64 (.fin false c q) (.fin false d (-(t : Int))) = FP.Core.roundRatio FP.Core.b64 false c d (q - -(t : Int)) := if_neg (by omega)
  rw [h, e, show q - -(t : Int) = q + t by omega]
/-- times a whole number, near 1 -/
theorem fp_mul_x {x : Int} {X f : Nat} (hg : fp_gd x) (hx : fp_x x X) (h1 : 1 ≤ f) (h2 : f < 2 ^ 31) (hl : fp_e 974 ≤ X) (hu : X ≤ fp_e 1174) : ∃ Z, fp_x (fp_m x (fp_l f)) Z ∧ 2 ^ 53 * Z ≤ X * f * (2 ^ 53 + 1) ∧ X * f * (2 ^ 53 - 1) ≤ 2 ^ 53 * Z := by
  obtain ⟨c, q, e0, c1, c2, c3, e1⟩ := hx
  obtain ⟨d, t, f0, f1, f2, f3, f4⟩ := fp_l_x h1 (by omega)
  have v := fp_mul_v hg e0 h1 (by omega) f0
  obtain ⟨a, ha⟩ : ∃ a : Nat, (q + 1074).toNat = a := ⟨_, rfl⟩
  rw [ha] at e1
  have hX : 0 < X := Nat.lt_of_lt_of_le (fp_e_p _) hl
  have hc : 0 < c := by
    rcases Nat.eq_zero_or_pos c with h | h
    · rw [h, Nat.zero_mul] at e1
      omega
    · exact h
  have hnum : c * d * fp_e a = X * f * fp_e t := by rw [e1, f4]; ac_rfl
  obtain ⟨L, eL, hM⟩ := fp_leadM (num := c * d) (den := 1) (Nat.mul_pos hc (by omega)) (by decide)
  have r1 : -1022 ≤ L + (q - t) := by
    have h : ((52 + t : Nat) : Int) ≤ L + a := (fp_leads hM (a := a) (b := 52 + t)).2 (by
      rw [hnum, Nat.one_mul, fp_e_add]
      refine Nat.mul_le_mul_right _ (Nat.le_trans (fp_e_le (show 52 ≤ 974 by decide)) (Nat.le_trans hl (Nat.le_mul_of_pos_right _ (by omega)))))
    omega
  have r2 : L + (q - t) ≤ 1022 := by
    have h : L + a < ((1205 + t : Nat) : Int) := (fp_leads hM (a := a) (b := 1205 + t)).1 (by
      rw [hnum, Nat.one_mul, fp_e_add]
      refine Nat.mul_lt_mul_of_pos_right ?_ (fp_e_p _)
      calc X * f ≤ fp_e 1174 * f := Nat.mul_le_mul_right _ hu
        _ < fp_e 1174 * fp_e 31 := Nat.mul_lt_mul_of_pos_left (show f < 2 ^ 31 from h2) (fp_e_p _)
        _ = fp_e 1205 := (fp_e_add 1174 31).symm)
    omega
  obtain ⟨c', q', w1, w2, w3, w4, w5, w6⟩ := fp_round (Nat.mul_pos hc (by omega)) (by decide) eL r1 r2
  have hS := w6 (1074 + t) (by omega) (by omega)
  have s1 : (q - (t : Int) + ((1074 + t : Nat) : Int)).toNat = a := by omega
  have s2 : (q' + ((1074 + t : Nat) : Int)).toNat = (q' + 1074).toNat + t := by omega
  rw [s1, s2, Nat.mul_one] at hS
  obtain ⟨Z, hZ⟩ : ∃ Z, c' * fp_e (q' + 1074).toNat = Z := ⟨_, rfl⟩
  have s3 : c' * 2 ^ ((q' + 1074).toNat + t) = Z * fp_e t := by rw [← hZ, Nat.mul_assoc, ← fp_e_add]; rfl
  have s4 : c * d * 2 ^ a = X * f * fp_e t := hnum
  rw [s3, s4] at hS
  refine ⟨Z, ⟨c', q', v.trans w1, w3, by omega, by omega, hZ.symm⟩, ?_, ?_⟩
  · refine Nat.le_of_mul_le_mul_right ?_ (fp_e_p t)
    calc 2 ^ 53 * Z * fp_e t = 2 ^ 53 * (Z * fp_e t) := Nat.mul_assoc _ _ _
      _ ≤ X * f * fp_e t * (2 ^ 53 + 1) := hS.1
      _ = X * f * (2 ^ 53 + 1) * fp_e t := Nat.mul_right_comm _ _ _
  · refine Nat.le_of_mul_le_mul_right ?_ (fp_e_p t)
    calc X * f * (2 ^ 53 - 1) * fp_e t = X * f * fp_e t * (2 ^ 53 - 1) := Nat.mul_right_comm _ _ _
      _ ≤ 2 ^ 53 * (Z * fp_e t) := hS.2
      _ = 2 ^ 53 * Z * fp_e t := (Nat.mul_assoc _ _ _).symm
/-- by a whole number, near 1 -/
theorem fp_div_x {x : Int} {X f : Nat} (hg : fp_gd x) (hx : fp_x x X) (h1 : 1 ≤ f) (h2 : f < 2 ^ 31) (hl : fp_e 974 ≤ X) (hu : X ≤ fp_e 1174) : ∃ Z, fp_x (fp_d x (fp_l f)) Z ∧ 2 ^ 53 * (Z * f) ≤ X * (2 ^ 53 + 1) ∧ X * (2 ^ 53 - 1) ≤ 2 ^ 53 * (Z * f) := by
  obtain ⟨c, q, e0, c1, c2, c3, e1⟩ := hx
  obtain ⟨d, t, f0, f1, f2, f3, f4⟩ := fp_l_x h1 (by omega)
  have v := fp_div_v hg e0 h1 (by omega) f0 (by omega)
  obtain ⟨a, ha⟩ : ∃ a : Nat, (q + 1074).toNat = a := ⟨_, rfl⟩
  rw [ha] at e1
  have hX : 0 < X := Nat.lt_of_lt_of_le (fp_e_p _) hl
  have hc : 0 < c := by
    rcases Nat.eq_zero_or_pos c with h | h
    · rw [h, Nat.zero_mul] at e1
      omega
    · exact h
  obtain ⟨L, eL, hM⟩ := fp_leadM (num := c) (den := d) hc (by omega)
  have r1 : -1022 ≤ L + (q + t) := by
    have h : ((52 - t : Nat) : Int) ≤ L + a := (fp_leads hM (a := a) (b := 52 - t)).2 (by
      rw [← e1, f4, Nat.mul_assoc, ← fp_e_add, show t + (52 - t) = 52 by omega]
      calc f * fp_e 52 ≤ fp_e 31 * fp_e 52 := Nat.mul_le_mul_right _ (show f ≤ 2 ^ 31 by omega)
        _ = fp_e 83 := (fp_e_add 31 52).symm
        _ ≤ fp_e 974 := fp_e_le (by decide)
        _ ≤ X := hl)
    omega
  have r2 : L + (q + t) ≤ 1022 := by
    have h : L + a < ((1227 - t : Nat) : Int) := (fp_leads hM (a := a) (b := 1227 - t)).1 (by
      rw [← e1, f4, Nat.mul_assoc, ← fp_e_add, show t + (1227 - t) = 1227 by omega]
      calc X ≤ fp_e 1174 := hu
        _ < fp_e 1227 := fp_e_lt (by decide)
        _ ≤ f * fp_e 1227 := Nat.le_mul_of_pos_left _ (by omega))
    omega
  obtain ⟨c', q', w1, w2, w3, w4, w5, w6⟩ := fp_round hc (by omega) eL r1 r2
  have hS := w6 1074 (by omega) (by omega)
  have s1 : (q + (t : Int) + ((1074 : Nat) : Int)).toNat = a + t := by omega
  have s2 : (q' + ((1074 : Nat) : Int)).toNat = (q' + 1074).toNat := by omega
  rw [s1, s2] at hS
  obtain ⟨Z, hZ⟩ : ∃ Z, c' * fp_e (q' + 1074).toNat = Z := ⟨_, rfl⟩
  have s3 : c' * 2 ^ (q' + 1074).toNat * d = Z * f * fp_e t := by rw [f4, ← Nat.mul_assoc, ← hZ]; rfl
  have s4 : c * 2 ^ (a + t) = X * fp_e t := by rw [e1, Nat.mul_assoc, ← fp_e_add]; rfl
  rw [s3, s4] at hS
  refine ⟨Z, ⟨c', q', v.trans w1, w3, by omega, by omega, hZ.symm⟩, ?_, ?_⟩
  · refine Nat.le_of_mul_le_mul_right ?_ (fp_e_p t)
    calc 2 ^ 53 * (Z * f) * fp_e t = 2 ^ 53 * (Z * f * fp_e t) := Nat.mul_assoc _ _ _
      _ ≤ X * fp_e t * (2 ^ 53 + 1) := hS.1
      _ = X * (2 ^ 53 + 1) * fp_e t := Nat.mul_right_comm _ _ _
  · refine Nat.le_of_mul_le_mul_right ?_ (fp_e_p t)
    calc X * (2 ^ 53 - 1) * fp_e t = X * fp_e t * (2 ^ 53 - 1) := Nat.mul_right_comm _ _ _
      _ ≤ 2 ^ 53 * (Z * f * fp_e t) := hS.2
      _ = 2 ^ 53 * (Z * f) * fp_e t := (Nat.mul_assoc _ _ _).symm
/-- what is great stays so -/
def fp_B (x : Int) : Prop := fp_v x = .inf false ∨ ∃ X, fp_x x X ∧ fp_e 1134 ≤ X
theorem fp_mul_B {x : Int} {f : Nat} (hg : fp_gd x) (hb : fp_B x) (h1 : 1 ≤ f) (h2 : f < 2 ^ 31) : fp_B (fp_m x (fp_l f)) := by
  obtain ⟨d, t, f0, f1, f2, f3, f4⟩ := fp_l_x h1 (by omega)
  rcases hb with e0 | ⟨X, ⟨c, q, e0, c1, c2, c3, e1⟩, hl⟩
  · left
    have h := (fp_m_v hg (fp_l_gp (x := f) ⟨by omega, by omega⟩)).2
    rw [e0, f0] at h
    have e : FP.Core.exactProduct (.inf false) (.fin false d (-(t : Int))) = .inf false := if_neg (by omega)
    rw [h, e]
    rfl
  · have v := fp_mul_v hg e0 h1 (by omega) f0
    obtain ⟨a, ha⟩ : ∃ a : Nat, (q + 1074).toNat = a := ⟨_, rfl⟩
    rw [ha] at e1
    have hX : 0 < X := Nat.lt_of_lt_of_le (fp_e_p _) hl
    have hc : 0 < c := by
      rcases Nat.eq_zero_or_pos c with h | h
      · rw [h, Nat.zero_mul] at e1
        omega
      · exact h
    have hnum : c * d * fp_e a = X * f * fp_e t := by rw [e1, f4]; ac_rfl
    obtain ⟨L, Q, N, -, hM, q1, q2, q3, -, n1, n2, w⟩ := fp_shape (num := c * d) (den := 1) (e := q - t) (Nat.mul_pos hc (by omega)) (by decide)
    have r1 : ((1134 + t : Nat) : Int) ≤ L + a := (fp_leads hM (a := a) (b := 1134 + t)).2 (by
      rw [hnum, Nat.one_mul, fp_e_add]
      exact Nat.mul_le_mul_right _ (Nat.le_trans hl (Nat.le_mul_of_pos_right _ (by omega))))
    rcases fp_settle n1 q1 with ⟨h, -⟩ | ⟨c', q', h, d1, d2, d3⟩
    · exact Or.inl (v.trans (w.trans h))
    · refine Or.inr ⟨_, ⟨c', q', v.trans (w.trans h), d1, by omega, d2, rfl⟩, ?_⟩
      have h5 : 2 ^ 52 ≤ c' := by omega
      have h6 : 1082 ≤ (q' + 1074).toNat := by omega
      calc fp_e 1134 = fp_e 52 * fp_e 1082 := fp_e_add 52 1082
        _ ≤ c' * fp_e (q' + 1074).toNat := Nat.mul_le_mul h5 (fp_e_le h6)
/-- what is small stays so -/
def fp_S (x : Int) : Prop := ∃ X, fp_x x X ∧ X ≤ fp_e 1014
theorem fp_div_S {x : Int} {f : Nat} (hg : fp_gd x) (hb : fp_S x) (h1 : 1 ≤ f) (h2 : f < 2 ^ 31) : fp_S (fp_d x (fp_l f)) := by
  obtain ⟨d, t, f0, f1, f2, f3, f4⟩ := fp_l_x h1 (by omega)
  obtain ⟨X, ⟨c, q, e0, c1, c2, c3, e1⟩, hl⟩ := hb
  have v := fp_div_v hg e0 h1 (by omega) f0 (by omega)
  rcases Nat.eq_zero_or_pos c with hc | hc
  · refine ⟨0, ⟨0, -1074, ?_, by decide, by decide, by decide, (Nat.zero_mul _).symm⟩, Nat.zero_le _⟩
    have qm : FP.Core.b64.qmin = -1074 := by decide
    rw [v, hc, ← qm]
    exact if_pos rfl
  · obtain ⟨L, Q, N, -, hM, q1, q2, q3, hN, n1, n2, w⟩ := fp_shape (num := c) (den := d) (e := q + t) hc (by omega)
    have ht : fp_e t ≤ d := by rw [f4]; exact Nat.le_mul_of_pos_left _ (by omega)
    have r1 : L + t ≤ 52 := by
      rcases Int.lt_or_le 52 (L + t) with p | p
      · exfalso
        have h := fp_ge hM (a := (-L).toNat) (b := (L + (((-L).toNat : Nat) : Int)).toNat) (by omega)
        have h3 : fp_e (53 + (-L).toNat) ≤ d * 2 ^ (L + (((-L).toNat : Nat) : Int)).toNat := by
          calc fp_e (53 + (-L).toNat) ≤ fp_e (t + (L + (((-L).toNat : Nat) : Int)).toNat) := fp_e_le (by omega)
            _ = fp_e t * fp_e (L + (((-L).toNat : Nat) : Int)).toNat := fp_e_add _ _
            _ ≤ d * fp_e (L + (((-L).toNat : Nat) : Int)).toNat := Nat.mul_le_mul_right _ ht
        have h4 := Nat.le_trans h3 h
        rw [fp_e_add] at h4
        have h5 := Nat.le_of_mul_le_mul_right h4 (fp_e_p _)
        have h6 : fp_e 53 = 2 ^ 53 := rfl
        omega
      · exact p
    have hQ : Q ≤ q := by omega
    have hq : q ≤ -60 := by
      rcases Int.lt_or_le (-60) q with p | p
      · exfalso
        have h : fp_e 1015 ≤ X := by
          rw [e1]
          exact Nat.le_trans (fp_e_le (by omega)) (Nat.le_mul_of_pos_left _ hc)
        exact absurd (Nat.le_trans h hl) (Nat.not_le.mpr (fp_e_lt (by decide)))
      · exact p
    have hNK : N ≤ c * fp_e (q - Q).toNat := by
      rw [← hN]
      refine fp_near_le (Nat.mul_pos (by omega) (Nat.two_pow_pos _)) ?_
      have g1 : (Q - (q + t)).toNat = 0 := by omega
      have g2 : (q + (t : Int) - Q).toNat = (q - Q).toNat + t := by omega
      rw [g1, g2, Nat.pow_zero, Nat.mul_one]
      calc c * 2 ^ ((q - Q).toNat + t) = c * fp_e (q - Q).toNat * fp_e t := by rw [Nat.mul_assoc, ← fp_e_add]; rfl
        _ ≤ c * fp_e (q - Q).toNat * d := Nat.mul_le_mul_left _ ht
    have hV : N * fp_e (Q + 1074).toNat ≤ X := by
      rw [e1]
      calc N * fp_e (Q + 1074).toNat ≤ c * fp_e (q - Q).toNat * fp_e (Q + 1074).toNat := Nat.mul_le_mul_right _ hNK
        _ = c * fp_e (q + 1074).toNat := by rw [Nat.mul_assoc, ← fp_e_add]; congr 2; omega
    rcases fp_settle n1 q1 with ⟨-, h⟩ | ⟨c', q', h, d1, d2, d3⟩
    · exfalso
      omega
    · refine ⟨_, ⟨c', q', v.trans (w.trans h), d1, by omega, d2, rfl⟩, Nat.le_trans ?_ hl⟩
      rcases d3 with ⟨rfl, rfl⟩ | ⟨d3, rfl, rfl⟩
      · exact hV
      · refine Nat.le_trans (Nat.le_of_eq ?_) hV
        rw [d3, show (Q + 1 + 1074).toNat = (Q + 1074).toNat + 1 by omega, Nat.add_comm, fp_e_add, ← Nat.mul_assoc]
        rfl
/-! which is greater -/
theorem fp_ccmp {a b : Int} : compare a b = if a < b then .lt else if a = b then .eq else .gt := rfl
theorem fp_cx {op : CmpOp} {x y : Int} {X Y : Nat} (gx : fp_gd x) (gy : fp_gd y) (hx : fp_x x X) (hy : fp_x y Y) : fp_c op x y = pm_cmp (X : Int) (Y : Int) := by
  obtain ⟨c, q, e0, c1, c2, c3, e1⟩ := hx
  obtain ⟨d, r, f0, d1, d2, d3, f1⟩ := hy
  have e : FP.dcmp (UInt64.ofNat x.toNat) (UInt64.ofNat y.toNat) = some (compare ((FP.Core.inUnits c q (min q r) : Nat) : Int) ((FP.Core.inUnits d r (min q r) : Nat) : Int)) := by
    show FP.Core.order (FP.Core.decode FP.Core.b64 (UInt64.ofNat x.toNat).toNat) (FP.Core.decode FP.Core.b64 (UInt64.ofNat y.toNat).toNat) = _
    rw [fp_u gx.1 gx.2.1, fp_u gy.1 gy.2.1]
    show FP.Core.order (fp_v x) (fp_v y) = _
    rw [e0, f0]
    rfl
  obtain ⟨m, hm⟩ : ∃ m, min q r = m := ⟨_, rfl⟩
  obtain ⟨u, hu⟩ : ∃ u, FP.Core.inUnits c q m = u := ⟨_, rfl⟩
  obtain ⟨w, hw⟩ : ∃ w, FP.Core.inUnits d r m = w := ⟨_, rfl⟩
  have s1 : X = u * fp_e (m + 1074).toNat := by
    rw [e1, ← hu]
    show c * fp_e (q + 1074).toNat = c * fp_e (q - m).toNat * fp_e (m + 1074).toNat
    rw [Nat.mul_assoc, ← fp_e_add]
    congr 2
    omega
  have s2 : Y = w * fp_e (m + 1074).toNat := by
    rw [f1, ← hw]
    show d * fp_e (r + 1074).toNat = d * fp_e (r - m).toNat * fp_e (m + 1074).toNat
    rw [Nat.mul_assoc, ← fp_e_add]
    congr 2
    omega
  rw [hm, hu, hw, fp_ccmp] at e
  unfold fp_c
  rw [e]
  have hp := fp_e_p (m + 1074).toNat
  rcases Nat.lt_trichotomy u w with p | p | p
  · rw [if_pos (by omega)]
    have h : X < Y := by rw [s1, s2]; exact Nat.mul_lt_mul_of_pos_right p hp
    exact (pm_cmp_u (Or.inr (Or.inr ⟨rfl, by omega⟩))).symm
  · rw [if_neg (by omega), if_pos (by omega)]
    have h : X = Y := by rw [s1, s2, p]
    exact (pm_cmp_u (Or.inr (Or.inl ⟨rfl, by omega⟩))).symm
  · rw [if_neg (by omega), if_neg (by omega)]
    have h : Y < X := by rw [s1, s2]; exact Nat.mul_lt_mul_of_pos_right p hp
    exact (pm_cmp_u (Or.inl ⟨rfl, by omega⟩)).symm
theorem fp_cinf {op : CmpOp} {x y : Int} {Y : Nat} (gx : fp_gd x) (gy : fp_gd y) (hx : fp_v x = .inf false) (hy : fp_x y Y) : fp_c op x y = 1 := by
  obtain ⟨d, r, f0, d1, d2, d3, f1⟩ := hy
  have e : FP.dcmp (UInt64.ofNat x.toNat) (UInt64.ofNat y.toNat) = some .gt := by
    show FP.Core.order (FP.Core.decode FP.Core.b64 (UInt64.ofNat x.toNat).toNat) (FP.Core.decode FP.Core.b64 (UInt64.ofNat y.toNat).toNat) = _
    rw [fp_u gx.1 gx.2.1, fp_u gy.1 gy.2.1]
    show FP.Core.order (fp_v x) (fp_v y) = _
    rw [hx, f0]
    rfl
  unfold fp_c
  rw [e]
  rfl
theorem fp_x1 : fp_x 4607182418800017408 (4503599627370496 * fp_e 1022) := ⟨4503599627370496, -52, by decide +kernel, by decide, by decide, by decide, by rw [show ((-52 : Int) + 1074).toNat = 1022 by decide]⟩
theorem fp_xa : fp_x 4607182418804521008 (4503599631874096 * fp_e 1022) := ⟨4503599631874096, -52, by decide +kernel, by decide, by decide, by decide, by rw [show ((-52 : Int) + 1074).toNat = 1022 by decide]⟩
theorem fp_xb : fp_x 4607182418791010209 (9007199245733793 * fp_e 1021) := ⟨9007199245733793, -53, by decide +kernel, by decide, by decide, by decide, by rw [show ((-53 : Int) + 1074).toNat = 1021 by decide]⟩
theorem fp_gda : fp_gd 4607182418804521008 := ⟨by decide, by decide, Or.inr ⟨4503599631874096, -52, by decide +kernel, by decide, by decide, by decide, Or.inr (by decide)⟩⟩
theorem fp_gdb : fp_gd 4607182418791010209 := ⟨by decide, by decide, Or.inr ⟨9007199245733793, -53, by decide +kernel, by decide, by decide, by decide, Or.inr (by decide)⟩⟩
