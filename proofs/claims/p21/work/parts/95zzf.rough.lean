/-! THE ROUGH QUOTIENT: how far it is from what it stands for -/
def fp_pr (f : Nat → Nat) : Nat → Nat
  | 0 => 1
  | n + 1 => fp_pr f n * f n
theorem fp_pr_p {f : Nat → Nat} : ∀ n : Nat, (∀ i, i < n → 1 ≤ f i) → 0 < fp_pr f n := by
  intro n
  induction n with
  | zero => intro _; exact Nat.one_pos
  | succ n ih => intro h; exact Nat.mul_pos (ih fun i hi => h i (by omega)) (h n (by omega))
def fp_hi (k : Nat) : Nat := 9007199254740993 ^ k
def fp_mi (k : Nat) : Nat := 9007199254740992 ^ k
def fp_lo (k : Nat) : Nat := 9007199254740991 ^ k
theorem fp_mi_p (k : Nat) : 0 < fp_mi k := Nat.pow_pos (by decide)
theorem fp_lo_p (k : Nat) : 0 < fp_lo k := Nat.pow_pos (by decide)
theorem fp_mi_add (a b : Nat) : fp_mi (a + b) = fp_mi a * fp_mi b := Nat.pow_add _ a b
theorem fp_hi_up {k : Nat} (h : k ≤ 240) : fp_hi k * fp_mi (240 - k) ≤ fp_hi 240 := by
  have e : fp_hi 240 = fp_hi k * fp_hi (240 - k) := by rw [show 240 = k + (240 - k) by omega, Nat.add_sub_cancel_left]; exact Nat.pow_add _ _ _
  rw [e]
  exact Nat.mul_le_mul_left _ (Nat.pow_le_pow_left (by decide) _)
theorem fp_lo_dn {k : Nat} (h : k ≤ 240) : fp_lo 240 ≤ fp_lo k * fp_mi (240 - k) := by
  have e : fp_lo 240 = fp_lo k * fp_lo (240 - k) := by rw [show 240 = k + (240 - k) by omega, Nat.add_sub_cancel_left]; exact Nat.pow_add _ _ _
  rw [e]
  exact Nat.mul_le_mul_left _ (Nat.pow_le_pow_left (by decide) _)
theorem fp_mi_240 {k : Nat} (h : k ≤ 240) : fp_mi 240 = fp_mi k * fp_mi (240 - k) := by rw [← fp_mi_add]; congr 1; omega
theorem fp_q1 : fp_hi 240 ≤ 2 * fp_mi 240 := by unfold fp_hi fp_mi; decide +kernel
theorem fp_q2 : fp_mi 240 ≤ 2 * fp_lo 240 := by unfold fp_mi fp_lo; decide +kernel
theorem fp_q3 : 4503599627370496 * fp_hi 240 ≤ 4503599631874096 * fp_mi 240 := by unfold fp_hi fp_mi; decide +kernel
theorem fp_q4 : 9007199245733793 * fp_mi 240 ≤ 9007199254740992 * fp_lo 240 := by unfold fp_mi fp_lo; decide +kernel
theorem fp_k1 {k : Nat} (h : k ≤ 240) : fp_hi k ≤ 2 * fp_mi k := by
  refine Nat.le_of_mul_le_mul_right ?_ (fp_mi_p (240 - k))
  rw [Nat.mul_assoc, ← fp_mi_240 h]
  exact Nat.le_trans (fp_hi_up h) fp_q1
theorem fp_k2 {k : Nat} (h : k ≤ 240) : fp_mi k ≤ 2 * fp_lo k := by
  refine Nat.le_of_mul_le_mul_right ?_ (fp_mi_p (240 - k))
  rw [Nat.mul_assoc, ← fp_mi_240 h]
  exact Nat.le_trans fp_q2 (Nat.mul_le_mul_left _ (fp_lo_dn h))
theorem fp_k3 {k : Nat} (h : k ≤ 240) : 4503599627370496 * fp_hi k ≤ 4503599631874096 * fp_mi k := by
  refine Nat.le_of_mul_le_mul_right ?_ (fp_mi_p (240 - k))
  rw [Nat.mul_assoc, Nat.mul_assoc, ← fp_mi_240 h]
  exact Nat.le_trans (Nat.mul_le_mul_left _ (fp_hi_up h)) fp_q3
theorem fp_k4 {k : Nat} (h : k ≤ 240) : 9007199245733793 * fp_mi k ≤ 9007199254740992 * fp_lo k := by
  refine Nat.le_of_mul_le_mul_right ?_ (fp_mi_p (240 - k))
  rw [Nat.mul_assoc, Nat.mul_assoc, ← fp_mi_240 h]
  exact Nat.le_trans fp_q4 (Nat.mul_le_mul_left _ (fp_lo_dn h))
/-- near: X by the lower product is the upper product, but for the roundings -/
def fp_N (X P D k : Nat) : Prop := X * D * fp_mi k ≤ P * fp_e 1074 * fp_hi k ∧ P * fp_e 1074 * fp_lo k ≤ X * D * fp_mi k
theorem fp_N.m {X P D k Z f : Nat} (h : fp_N X P D k) (h1 : 2 ^ 53 * Z ≤ X * f * (2 ^ 53 + 1)) (h2 : X * f * (2 ^ 53 - 1) ≤ 2 ^ 53 * Z) : fp_N Z (P * f) D (k + 1) := by
  have e1 : fp_mi (k + 1) = fp_mi k * 2 ^ 53 := Nat.pow_succ _ _
  have e2 : fp_hi (k + 1) = fp_hi k * (2 ^ 53 + 1) := Nat.pow_succ _ _
  have e3 : fp_lo (k + 1) = fp_lo k * (2 ^ 53 - 1) := Nat.pow_succ _ _
  obtain ⟨ha, hb⟩ := h
  unfold fp_N
  rw [e1, e2, e3]
  clear e1 e2 e3
  generalize (2 ^ 53 : Nat) + 1 = B at *
  generalize (2 ^ 53 : Nat) - 1 = C at *
  generalize (2 ^ 53 : Nat) = E at *
  generalize fp_e 1074 = T at *
  generalize fp_mi k = M at *
  generalize fp_hi k = H at *
  generalize fp_lo k = O at *
  constructor
  · calc Z * D * (M * E) = E * Z * (D * M) := by ac_rfl
      _ ≤ X * f * B * (D * M) := Nat.mul_le_mul_right _ h1
      _ = X * D * M * (f * B) := by ac_rfl
      _ ≤ P * T * H * (f * B) := Nat.mul_le_mul_right _ ha
      _ = P * f * T * (H * B) := by ac_rfl
  · calc P * f * T * (O * C) = P * T * O * (f * C) := by ac_rfl
      _ ≤ X * D * M * (f * C) := Nat.mul_le_mul_right _ hb
      _ = X * f * C * (D * M) := by ac_rfl
      _ ≤ E * Z * (D * M) := Nat.mul_le_mul_right _ h2
      _ = Z * D * (M * E) := by ac_rfl
theorem fp_N.d {X P D k Z f : Nat} (h : fp_N X P D k) (h1 : 2 ^ 53 * (Z * f) ≤ X * (2 ^ 53 + 1)) (h2 : X * (2 ^ 53 - 1) ≤ 2 ^ 53 * (Z * f)) : fp_N Z P (D * f) (k + 1) := by
  have e1 : fp_mi (k + 1) = fp_mi k * 2 ^ 53 := Nat.pow_succ _ _
  have e2 : fp_hi (k + 1) = fp_hi k * (2 ^ 53 + 1) := Nat.pow_succ _ _
  have e3 : fp_lo (k + 1) = fp_lo k * (2 ^ 53 - 1) := Nat.pow_succ _ _
  obtain ⟨ha, hb⟩ := h
  unfold fp_N
  rw [e1, e2, e3]
  clear e1 e2 e3
  generalize (2 ^ 53 : Nat) + 1 = B at *
  generalize (2 ^ 53 : Nat) - 1 = C at *
  generalize (2 ^ 53 : Nat) = E at *
  generalize fp_e 1074 = T at *
  generalize fp_mi k = M at *
  generalize fp_hi k = H at *
  generalize fp_lo k = O at *
  constructor
  · calc Z * (D * f) * (M * E) = E * (Z * f) * (D * M) := by ac_rfl
      _ ≤ X * B * (D * M) := Nat.mul_le_mul_right _ h1
      _ = X * D * M * B := by ac_rfl
      _ ≤ P * T * H * B := Nat.mul_le_mul_right _ ha
      _ = P * T * (H * B) := by ac_rfl
  · calc P * T * (O * C) = P * T * O * C := by ac_rfl
      _ ≤ X * D * M * C := Nat.mul_le_mul_right _ hb
      _ = X * C * (D * M) := by ac_rfl
      _ ≤ E * (Z * f) * (D * M) := Nat.mul_le_mul_right _ h2
      _ = Z * (D * f) * (M * E) := by ac_rfl
/-- where X is great the upper product is, too -/
theorem fp_N.B {X P D k : Nat} (h : fp_N X P D k) (hk : k ≤ 240) (hX : fp_e 1134 ≤ X) : 2 * D ≤ P := by
  have hE : fp_e 1134 = fp_e 60 * fp_e 1074 := fp_e_add 60 1074
  have h3 : fp_e 60 = 1152921504606846976 := by decide +kernel
  have p1 := fp_e_p 1074
  have p2 := fp_mi_p k
  have hq := fp_k1 hk
  obtain ⟨ha, -⟩ := h
  rw [hE] at hX
  clear hE
  generalize fp_e 1074 = T at *
  generalize fp_e 60 = S at *
  generalize fp_mi k = M at *
  generalize fp_hi k = H at *
  have h1 : S * D * (T * M) ≤ 2 * P * (T * M) := by
    calc S * D * (T * M) = S * T * D * M := by ac_rfl
      _ ≤ X * D * M := Nat.mul_le_mul_right _ (Nat.mul_le_mul_right _ hX)
      _ ≤ P * T * H := ha
      _ ≤ P * T * (2 * M) := Nat.mul_le_mul_left _ hq
      _ = 2 * P * (T * M) := by ac_rfl
  have h2 := Nat.le_of_mul_le_mul_right h1 (Nat.mul_pos p1 p2)
  rw [h3] at h2
  omega
theorem fp_N.S {X P D k : Nat} (h : fp_N X P D k) (hk : k ≤ 240) (hX : X ≤ fp_e 1014) : 2 * P ≤ D := by
  have hE : fp_e 1074 = fp_e 60 * fp_e 1014 := fp_e_add 60 1014
  have h3 : fp_e 60 = 1152921504606846976 := by decide +kernel
  have p1 := fp_e_p 1014
  have p2 := fp_lo_p k
  have hq := fp_k2 hk
  obtain ⟨-, hb⟩ := h
  rw [hE] at hb
  clear hE
  generalize fp_e 1014 = T at *
  generalize fp_e 60 = S at *
  generalize fp_mi k = M at *
  generalize fp_lo k = O at *
  have h1 : S * P * (T * O) ≤ 2 * D * (T * O) := by
    calc S * P * (T * O) = P * (S * T) * O := by ac_rfl
      _ ≤ X * D * M := hb
      _ ≤ T * D * M := Nat.mul_le_mul_right _ (Nat.mul_le_mul_right _ hX)
      _ ≤ T * D * (2 * O) := Nat.mul_le_mul_left _ hq
      _ = 2 * D * (T * O) := by ac_rfl
  have h2 := Nat.le_of_mul_le_mul_right h1 (Nat.mul_pos p1 p2)
  rw [h3] at h2
  omega
theorem fp_N.gt {X P D k : Nat} (h : fp_N X P D k) (hk : k ≤ 240) (hD : 0 < D) (hX : 4503599631874096 * fp_e 1022 < X) : D < P := by
  have hE : fp_e 1074 = fp_e 1022 * 4503599627370496 := by
    rw [show (4503599627370496 : Nat) = fp_e 52 by decide +kernel]
    exact fp_e_add 1022 52
  have p2 := fp_mi_p k
  have hq := fp_k3 hk
  obtain ⟨ha, -⟩ := h
  rw [hE] at ha
  clear hE
  generalize fp_e 1022 = T at *
  generalize fp_mi k = M at *
  generalize fp_hi k = H at *
  generalize (4503599627370496 : Nat) = a at *
  generalize (4503599631874096 : Nat) = b at *
  rcases Nat.lt_or_ge D P with q | q
  · exact q
  · exfalso
    have h1 : X * (D * M) ≤ b * T * (D * M) := by
      calc X * (D * M) = X * D * M := (Nat.mul_assoc _ _ _).symm
        _ ≤ P * (T * a) * H := ha
        _ ≤ D * (T * a) * H := Nat.mul_le_mul_right _ (Nat.mul_le_mul_right _ q)
        _ = D * T * (a * H) := by ac_rfl
        _ ≤ D * T * (b * M) := Nat.mul_le_mul_left _ hq
        _ = b * T * (D * M) := by ac_rfl
    exact absurd (Nat.le_of_mul_le_mul_right h1 (Nat.mul_pos hD p2)) (Nat.not_le.mpr hX)
theorem fp_N.lt {X P D k : Nat} (h : fp_N X P D k) (hk : k ≤ 240) (hP : 0 < P) (hX : X < 9007199245733793 * fp_e 1021) : P < D := by
  have hE : fp_e 1074 = fp_e 1021 * 9007199254740992 := by
    rw [show (9007199254740992 : Nat) = fp_e 53 by decide +kernel]
    exact fp_e_add 1021 53
  have p2 := fp_mi_p k
  have hq := fp_k4 hk
  obtain ⟨-, hb⟩ := h
  rw [hE] at hb
  clear hE
  generalize fp_e 1021 = T at *
  generalize fp_mi k = M at *
  generalize fp_lo k = O at *
  generalize (9007199254740992 : Nat) = a at *
  generalize (9007199245733793 : Nat) = b at *
  rcases Nat.lt_or_ge P D with q | q
  · exact q
  · exfalso
    have h1 : b * T * (P * M) ≤ X * (P * M) := by
      calc b * T * (P * M) = P * T * (b * M) := by ac_rfl
        _ ≤ P * T * (a * O) := Nat.mul_le_mul_left _ hq
        _ = P * (T * a) * O := by ac_rfl
        _ ≤ X * D * M := hb
        _ ≤ X * P * M := Nat.mul_le_mul_right _ (Nat.mul_le_mul_left _ q)
        _ = X * (P * M) := Nat.mul_assoc _ _ _
    exact absurd (Nat.le_of_mul_le_mul_right h1 (Nat.mul_pos hP p2)) (Nat.not_le.mpr hX)
/-! rounding keeps the side -/
theorem fp_fin {s t : Bool} {c d : Nat} {q r : Int} (h : FP.Core.Datum.fin s c q = .fin t d r) : c = d ∧ q = r := by
  injection h with _ a b
  exact ⟨a, b⟩
theorem fp_x_inj {x : Int} {X Z : Nat} (h : fp_x x X) (h2 : fp_x x Z) : X = Z := by
  obtain ⟨c, q, e0, -, -, -, e1⟩ := h
  obtain ⟨d, r, f0, -, -, -, f1⟩ := h2
  have e := e0.symm.trans f0
  injection e with _ e2 e3
  rw [e1, f1, e2, e3]
theorem fp_mul_up {x : Int} {X Z f : Nat} (hg : fp_gd x) (hx : fp_x x X) (h1 : 1 ≤ f) (h2 : f < 2 ^ 31) (hl : fp_e 974 ≤ X) (hz : fp_x (fp_m x (fp_l f)) Z) : X ≤ Z := by
  obtain ⟨c, q, e0, c1, c2, c3, e1⟩ := hx
  obtain ⟨d, t, f0, f1, f2, f3, f4⟩ := fp_l_x h1 (by omega)
  have v := fp_mul_v hg e0 h1 (by omega) f0
  have hX : 0 < X := Nat.lt_of_lt_of_le (fp_e_p _) hl
  have hc : 0 < c := by
    rcases Nat.eq_zero_or_pos c with h | h
    · rw [h, Nat.zero_mul] at e1
      omega
    · exact h
  have ht : fp_e t ≤ d := by rw [f4]; exact Nat.le_mul_of_pos_left _ (by omega)
  obtain ⟨L, Q, N, -, hM, q1, q2, q3, hN, n1, n2, w⟩ := fp_shape (num := c * d) (den := 1) (e := q - t) (Nat.mul_pos hc (by omega)) (by decide)
  have hV : X ≤ N * fp_e (Q + 1074).toNat := by
    rcases Int.lt_or_le q Q with p | p
    · have n3 : 2 ^ 52 ≤ N := by omega
      rw [e1]
      calc c * fp_e (q + 1074).toNat ≤ fp_e 53 * fp_e (q + 1074).toNat := Nat.mul_le_mul_right _ (show c ≤ 2 ^ 53 by omega)
        _ = fp_e (53 + (q + 1074).toNat) := (fp_e_add _ _).symm
        _ ≤ fp_e (52 + (Q + 1074).toNat) := fp_e_le (by omega)
        _ = fp_e 52 * fp_e (Q + 1074).toNat := fp_e_add _ _
        _ ≤ N * fp_e (Q + 1074).toNat := Nat.mul_le_mul_right _ n3
    · have hK : c * fp_e (q - Q).toNat ≤ N := by
        rw [← hN]
        refine fp_near_ge (Nat.mul_pos (by decide) (Nat.two_pow_pos _)) ?_
        rw [Nat.one_mul]
        rcases Int.lt_or_le (q - (t : Int)) Q with r | r
        · have g1 : (q - (t : Int) - Q).toNat = 0 := by omega
          have g2 : (q - Q).toNat + (Q - (q - (t : Int))).toNat = t := by omega
          rw [g1, Nat.pow_zero, Nat.mul_one]
          calc c * fp_e (q - Q).toNat * 2 ^ (Q - (q - (t : Int))).toNat = c * (fp_e (q - Q).toNat * fp_e (Q - (q - (t : Int))).toNat) := Nat.mul_assoc _ _ _
            _ = c * fp_e t := by rw [← fp_e_add, g2]
            _ ≤ c * d := Nat.mul_le_mul_left _ ht
        · have g1 : (Q - (q - (t : Int))).toNat = 0 := by omega
          have g2 : (q - Q).toNat = t + (q - (t : Int) - Q).toNat := by omega
          rw [g1, Nat.pow_zero, Nat.mul_one, g2, fp_e_add, ← Nat.mul_assoc]
          exact Nat.mul_le_mul_right _ (Nat.mul_le_mul_left _ ht)
      rw [e1]
      calc c * fp_e (q + 1074).toNat = c * fp_e (q - Q).toNat * fp_e (Q + 1074).toNat := by rw [Nat.mul_assoc, ← fp_e_add]; congr 2; omega
        _ ≤ N * fp_e (Q + 1074).toNat := Nat.mul_le_mul_right _ hK
  obtain ⟨c', q', z0, -, -, -, z1⟩ := hz
  have ev := z0.symm.trans (v.trans w)
  rcases fp_settle n1 q1 with ⟨h, -⟩ | ⟨c2', q2', h, d1, d2, d3⟩
  · rw [h] at ev
    exact absurd ev (by simp)
  · rw [h] at ev
    obtain ⟨e2, e3⟩ := fp_fin ev
    refine Nat.le_trans hV (Nat.le_of_eq ?_)
    rw [z1, e2, e3]
    rcases d3 with ⟨rfl, rfl⟩ | ⟨d3, rfl, rfl⟩
    · rfl
    · rw [d3, show (Q + 1 + 1074).toNat = (Q + 1074).toNat + 1 by omega, Nat.add_comm, fp_e_add, ← Nat.mul_assoc]
      rfl
