/-! THE ROUGH QUOTIENT: what its loop keeps -/
theorem fp_div_dn {x : Int} {X Z f : Nat} (hg : fp_gd x) (hx : fp_x x X) (h1 : 1 ≤ f) (h2 : f < 2 ^ 31) (hl : fp_e 974 ≤ X) (hz : fp_x (fp_d x (fp_l f)) Z) : Z ≤ X := by
  obtain ⟨c, q, e0, c1, c2, c3, e1⟩ := hx
  obtain ⟨d, t, f0, f1, f2, f3, f4⟩ := fp_l_x h1 (by omega)
  have v := fp_div_v hg e0 h1 (by omega) f0 (by omega)
  have hX : 0 < X := Nat.lt_of_lt_of_le (fp_e_p _) hl
  have hc : 0 < c := by
    rcases Nat.eq_zero_or_pos c with h | h
    · rw [h, Nat.zero_mul] at e1
      omega
    · exact h
  obtain ⟨L, Q, N, -, hM, q1, q2, q3, hN, n1, n2, w⟩ := fp_shape (num := c) (den := d) (e := q + t) hc (by omega)
  have ht : fp_e t ≤ d := by rw [f4]; exact Nat.le_mul_of_pos_left _ (by omega)
  have r1 : L + t ≤ 52 := by
    rcases Int.lt_or_le 52 (L + t) with p | p
    · exfalso
      have h := fp_ge hM (a := (-L).toNat) (b := (L + (((-L).toNat : Nat) : Int)).toNat) (by omega)
      have h3 : fp_e (53 + (-L).toNat) ≤ d * 2 ^ (L + (((-L).toNat : Nat) : Int)).toNat := by
        calc fp_e (53 + (-L).toNat) ≤ fp_e (t + (L + (((-L).toNat : Nat) : Int)).toNat) := fp_e_le (by omega)
          _ = fp_e t * fp_e (L + (((-L).toNat : Nat) : Int)).toNat := fp_e_add _ _
          _ ≤ d * fp_e (L + (((-L).toNat : Nat) : Int)).toNat := Nat.mul_le_mul_right _ ht
      have h4 := Nat.le_trans h3 h
      rw [fp_e_add] at h4
      have h5 := Nat.le_of_mul_le_mul_right h4 (fp_e_p _)
      have h6 : fp_e 53 = 2 ^ 53 := rfl
      omega
    · exact p
  have hQ : Q ≤ q := by omega
  have hNK : N ≤ c * fp_e (q - Q).toNat := by
    rw [← hN]
    refine fp_near_le (Nat.mul_pos (by omega) (Nat.two_pow_pos _)) ?_
    have g1 : (Q - (q + t)).toNat = 0 := by omega
    have g2 : (q + (t : Int) - Q).toNat = (q - Q).toNat + t := by omega
    rw [g1, g2, Nat.pow_zero, Nat.mul_one]
    calc c * 2 ^ ((q - Q).toNat + t) = c * fp_e (q - Q).toNat * fp_e t := by rw [Nat.mul_assoc, ← fp_e_add]; rfl
      _ ≤ c * fp_e (q - Q).toNat * d := Nat.mul_le_mul_left _ ht
  have hV : N * fp_e (Q + 1074).toNat ≤ X := by
    rw [e1]
    calc N * fp_e (Q + 1074).toNat ≤ c * fp_e (q - Q).toNat * fp_e (Q + 1074).toNat := Nat.mul_le_mul_right _ hNK
      _ = c * fp_e (q + 1074).toNat := by rw [Nat.mul_assoc, ← fp_e_add]; congr 2; omega
  obtain ⟨c', q', z0, -, -, -, z1⟩ := hz
  have ev := z0.symm.trans (v.trans w)
  rcases fp_settle n1 q1 with ⟨h, -⟩ | ⟨c2', q2', h, d1, d2, d3⟩
  · rw [h] at ev
    exact absurd ev (by simp)
  · rw [h] at ev
    obtain ⟨e2, e3⟩ := fp_fin ev
    refine Nat.le_trans (Nat.le_of_eq ?_) hV
    rw [z1, e2, e3]
    rcases d3 with ⟨rfl, rfl⟩ | ⟨d3, rfl, rfl⟩
    · rfl
    · rw [d3, show (Q + 1 + 1074).toNat = (Q + 1074).toNat + 1 by omega, Nat.add_comm, fp_e_add, ← Nat.mul_assoc]
      rfl
def fp_R (u d : Nat → Nat) (s : Nat) (x : Int) (i j : Nat) : Prop := fp_gd x ∧ i ≤ 2 * s ∧ j ≤ 2 * s ∧ ((∃ X, fp_x x X ∧ fp_e 1014 ≤ X ∧ X ≤ fp_e 1134 ∧ fp_N X (fp_pr u i) (fp_pr d j) (i + j)) ∨ (j = 2 * s ∧ fp_B x ∧ 2 * fp_pr d j ≤ fp_pr u i) ∨ (i = 2 * s ∧ fp_S x ∧ 2 * fp_pr u i ≤ fp_pr d j))
theorem fp_one : 4503599627370496 * fp_e 1022 = fp_e 1074 := by
  rw [show (4503599627370496 : Nat) = fp_e 52 by decide +kernel, ← fp_e_add]
theorem fp_R.m {u d : Nat → Nat} {s : Nat} {x : Int} {i j : Nat} (h : fp_R u d s x i j) (hs : s ≤ 60) (hi : i < 2 * s) (u1 : 1 ≤ u i) (u2 : u i < 2 ^ 31) (hc : j = 2 * s ∨ fp_c .g x 4607182418800017408 ≤ 0) : fp_R u d s (fp_m x (fp_l (u i))) (i + 1) j := by
  obtain ⟨hg, i0, j0, h⟩ := h
  have gz : fp_gd (fp_m x (fp_l (u i))) := fp_m_gd hg (fp_l_gp (x := u i) ⟨by omega, by omega⟩)
  refine ⟨gz, by omega, j0, ?_⟩
  rcases h with ⟨X, hx, hl, hu, hN⟩ | ⟨hj, hb, hP⟩ | ⟨hi2, -, -⟩
  · have l974 : fp_e 974 ≤ X := Nat.le_trans (fp_e_le (by decide)) hl
    obtain ⟨Z, hz, z1, z2⟩ := fp_mul_x hg hx u1 u2 l974 (Nat.le_trans hu (fp_e_le (by decide)))
    have up := fp_mul_up hg hx u1 u2 l974 hz
    have hN2 := hN.m z1 z2
    rw [show i + j + 1 = i + 1 + j by omega] at hN2
    rcases Nat.lt_or_ge (fp_e 1134) Z with q | q
    · rcases hc with hj | hc
      · exact Or.inr (Or.inl ⟨hj, Or.inr ⟨Z, hz, Nat.le_of_lt q⟩, fp_N.B hN2 (by omega) (Nat.le_of_lt q)⟩)
      · exfalso
        rw [fp_cx hg fp_gd1 hx fp_x1, pm_cmp_le0, fp_one] at hc
        have hX : X ≤ fp_e 1074 := by omega
        have hZ : fp_e 53 * Z ≤ fp_e 53 * fp_e 1106 := by
          calc fp_e 53 * Z ≤ X * u i * (2 ^ 53 + 1) := z1
            _ ≤ fp_e 1074 * fp_e 31 * fp_e 54 := Nat.mul_le_mul (Nat.mul_le_mul hX (show u i ≤ 2 ^ 31 by omega)) (show 2 ^ 53 + 1 ≤ 2 ^ 54 by decide)
            _ = fp_e 53 * fp_e 1106 := by rw [← fp_e_add, ← fp_e_add, ← fp_e_add]
        have h1 := Nat.le_of_mul_le_mul_left hZ (fp_e_p _)
        exact absurd (Nat.le_trans h1 (fp_e_le (show 1106 ≤ 1134 by decide))) (Nat.not_le.mpr q)
    · exact Or.inl ⟨Z, hz, Nat.le_trans hl up, q, hN2⟩
  · refine Or.inr (Or.inl ⟨hj, fp_mul_B hg hb u1 u2, Nat.le_trans hP ?_⟩)
    exact Nat.le_mul_of_pos_right _ u1
  · exfalso
    omega
theorem fp_R.d {u d : Nat → Nat} {s : Nat} {x : Int} {i j : Nat} (h : fp_R u d s x i j) (hs : s ≤ 60) (hj : j < 2 * s) (u1 : 1 ≤ d j) (u2 : d j < 2 ^ 31) (hc : i = 2 * s ∨ 0 < fp_c .g x 4607182418800017408) : fp_R u d s (fp_d x (fp_l (d j))) i (j + 1) := by
  obtain ⟨hg, i0, j0, h⟩ := h
  have gz : fp_gd (fp_d x (fp_l (d j))) := fp_d_gd hg (fp_l_gp (x := d j) ⟨by omega, by omega⟩)
  refine ⟨gz, i0, by omega, ?_⟩
  rcases h with ⟨X, hx, hl, hu, hN⟩ | ⟨hj2, -, -⟩ | ⟨hi, hb, hP⟩
  · have l974 : fp_e 974 ≤ X := Nat.le_trans (fp_e_le (by decide)) hl
    obtain ⟨Z, hz, z1, z2⟩ := fp_div_x hg hx u1 u2 l974 (Nat.le_trans hu (fp_e_le (by decide)))
    have dn := fp_div_dn hg hx u1 u2 l974 hz
    have hN2 := hN.d z1 z2
    rw [show i + j + 1 = i + (j + 1) by omega] at hN2
    rcases Nat.lt_or_ge Z (fp_e 1014) with q | q
    · rcases hc with hi | hc
      · exact Or.inr (Or.inr ⟨hi, ⟨Z, hz, Nat.le_of_lt q⟩, fp_N.S hN2 (by omega) (Nat.le_of_lt q)⟩)
      · exfalso
        rw [fp_cx hg fp_gd1 hx fp_x1, pm_cmp_gt0, fp_one] at hc
        have hX : fp_e 1074 ≤ X := by omega
        have h1 : fp_e 1126 ≤ fp_e 1098 := by
          calc fp_e 1126 = fp_e 1074 * fp_e 52 := fp_e_add 1074 52
            _ ≤ X * (2 ^ 53 - 1) := Nat.mul_le_mul hX (show 2 ^ 52 ≤ 2 ^ 53 - 1 by decide)
            _ ≤ fp_e 53 * (Z * d j) := z2
            _ ≤ fp_e 53 * (fp_e 1014 * fp_e 31) := Nat.mul_le_mul_left _ (Nat.mul_le_mul (Nat.le_of_lt q) (show d j ≤ 2 ^ 31 by omega))
            _ = fp_e 1098 := by rw [← fp_e_add, ← fp_e_add]
        exact absurd h1 (Nat.not_le.mpr (fp_e_lt (by decide)))
    · exact Or.inl ⟨Z, hz, q, Nat.le_trans dn hu, hN2⟩
  · exfalso
    omega
  · refine Or.inr (Or.inr ⟨hi, fp_div_S hg hb u1 u2, Nat.le_trans hP ?_⟩)
    exact Nat.le_mul_of_pos_right _ u1
theorem fp_R0 {u d : Nat → Nat} {s : Nat} : fp_R u d s 4607182418800017408 0 0 := by
  refine ⟨fp_gd1, Nat.zero_le _, Nat.zero_le _, Or.inl ⟨_, fp_x1, ?_, ?_, ?_⟩⟩
  · rw [fp_one]
    exact fp_e_le (by decide)
  · rw [fp_one]
    exact fp_e_le (by decide)
  · rw [fp_one]
    exact ⟨by show fp_e 1074 * 1 * 1 ≤ 1 * fp_e 1074 * 1; omega, by show 1 * fp_e 1074 * 1 ≤ fp_e 1074 * 1 * 1; omega⟩
/-- what it says at its end -/
theorem fp_R.says {u d : Nat → Nat} {s : Nat} {x : Int} (h : fp_R u d s x (2 * s) (2 * s)) (hs : s ≤ 60) (hu : 0 < fp_pr u (2 * s)) (hd : 0 < fp_pr d (2 * s)) : (0 < fp_c .l x 4607182418804521008 → fp_pr d (2 * s) < fp_pr u (2 * s)) ∧ (fp_c .g x 4607182418791010209 < 0 → fp_pr u (2 * s) < fp_pr d (2 * s)) := by
  obtain ⟨hg, -, -, h⟩ := h
  rcases h with ⟨X, hx, -, -, hN⟩ | ⟨-, hb, hP⟩ | ⟨-, ⟨X, hx, hX⟩, hP⟩
  · rw [fp_cx hg fp_gda hx fp_xa, fp_cx hg fp_gdb hx fp_xb, pm_cmp_gt0, pm_cmp_lt0]
    exact ⟨fun q => hN.gt (by omega) hd (by omega), fun q => hN.lt (by omega) hu (by omega)⟩
  · refine ⟨fun _ => by omega, fun q => ?_⟩
    exfalso
    rcases hb with hb | ⟨X, hx, hX⟩
    · rw [fp_cinf hg fp_gdb hb fp_xb] at q
      omega
    · rw [fp_cx hg fp_gdb hx fp_xb, pm_cmp_lt0] at q
      have h1 : 9007199245733793 * fp_e 1021 ≤ fp_e 1134 := by
        calc 9007199245733793 * fp_e 1021 ≤ fp_e 53 * fp_e 1021 := Nat.mul_le_mul_right _ (by decide +kernel)
          _ = fp_e 1074 := (fp_e_add 53 1021).symm
          _ ≤ fp_e 1134 := fp_e_le (by decide)
      omega
  · refine ⟨fun q => ?_, fun _ => by omega⟩
    exfalso
    rw [fp_cx hg fp_gda hx fp_xa, pm_cmp_gt0] at q
    have h1 : fp_e 1014 ≤ 4503599631874096 * fp_e 1022 := Nat.le_trans (fp_e_le (show 1014 ≤ 1022 by decide)) (Nat.le_mul_of_pos_left _ (by decide))
    omega
theorem fp_rough {cl cr : Nat} {V : pm_M} {s : Nat} {u d : Nat → Nat} (hs : s ≤ 60) (hu : ∀ i : Nat, i < 2 * s → F_X4_factorOf cl cr (i : Int) V = ((u i : Int), V) ∧ 1 ≤ u i ∧ u i < 2 ^ 31) (hd : ∀ i : Nat, i < 2 * s → F_X4_factorOf cr cl (i : Int) V = ((d i : Int), V) ∧ 1 ≤ d i ∧ d i < 2 ^ 31) : ∃ x, F_X4_roughQuotient cl cr (s : Int) V = (x, V) ∧ fp_R u d s x (2 * s) (2 * s) := by
  have e := F_X4_roughQuotient_eq cl cr (s : Int) V
  obtain ⟨B, hB, e⟩ := pf_loop e
  have key := pf_val_ind2 (d := ((0 : Int), V)) (b := B) (fun q => ∃ i j : Nat, q.2.1 = (i : Int) ∧ q.2.2.1 = (j : Int) ∧ q.2.2.2 = (i : Int) + j ∧ fp_R u d s q.1 i j) (fun o => o.2 = V ∧ fp_R u d s o.1 (2 * s) (2 * s)) (fun q => (4 * (s : Int) - q.2.2.2).toNat) ?_ (4607182418800017408, 0, 0, 0) ⟨0, 0, rfl, rfl, rfl, fp_R0⟩
  · rw [← e] at key
    exact ⟨(F_X4_roughQuotient cl cr (s : Int) V).1, Prod.ext rfl key.1, key.2⟩
  · rintro ⟨x, x3, x5, x7⟩ ⟨i, j, p1, p2, p3, hR⟩
    dsimp only at p1 p2 p3 hR
    subst p1 p2 p3
    have q1 := congrFun hB (x, (i : Int), (j : Int), (i : Int) + j)
    simp only [] at q1
    have hi := hR.2.1
    have hj := hR.2.2.1
    by_cases c1 : 4 * (s : Int) ≤ (i : Int) + j
    · have ei : i = 2 * s := by omega
      have ej : j = 2 * s := by omega
      subst ei ej
      exact Or.inr ⟨_, q1.trans (if_pos c1), rfl, hR⟩
    · replace q1 := q1.trans (if_neg c1)
      by_cases c2 : 2 * (s : Int) ≤ (j : Int)
      · have hi2 : i < 2 * s := by omega
        have hj2 : j = 2 * s := by omega
        refine Or.inl ⟨_, (((((q1.trans (if_pos c2)).trans (pf_call_eq (hu i hi2).1)).trans (pf_let_eq rfl)).trans (pf_let_eq rfl)).trans (pf_let_eq rfl)), ⟨i + 1, j, ?_, rfl, ?_, hR.m hs hi2 (hu i hi2).2.1 (hu i hi2).2.2 (Or.inl hj2)⟩, ?_⟩ <;> (dsimp only; omega)
      · replace q1 := q1.trans (if_neg c2)
        have hj2 : j < 2 * s := by omega
        by_cases c3 : 2 * (s : Int) ≤ (i : Int)
        · have hi2 : i = 2 * s := by omega
          refine Or.inl ⟨_, (((((q1.trans (if_pos c3)).trans (pf_call_eq (hd j hj2).1)).trans (pf_let_eq rfl)).trans (pf_let_eq rfl)).trans (pf_let_eq rfl)), ⟨i, j + 1, rfl, ?_, ?_, hR.d hs hj2 (hd j hj2).2.1 (hd j hj2).2.2 (Or.inl hi2)⟩, ?_⟩ <;> (dsimp only; omega)
        · replace q1 := (q1.trans (if_neg c3)).trans (pf_let_eq rfl)
          have hi2 : i < 2 * s := by omega
          by_cases c4 : 0 < fp_c .g x 4607182418800017408
          · refine Or.inl ⟨_, (((((q1.trans (if_pos c4)).trans (pf_call_eq (hd j hj2).1)).trans (pf_let_eq rfl)).trans (pf_let_eq rfl)).trans (pf_let_eq rfl)), ⟨i, j + 1, rfl, ?_, ?_, hR.d hs hj2 (hd j hj2).2.1 (hd j hj2).2.2 (Or.inr c4)⟩, ?_⟩ <;> (dsimp only; omega)
          · have c5 : fp_c .g x 4607182418800017408 ≤ 0 := by omega
            refine Or.inl ⟨_, (((((q1.trans (if_neg c4)).trans (pf_call_eq (hu i hi2).1)).trans (pf_let_eq rfl)).trans (pf_let_eq rfl)).trans (pf_let_eq rfl)), ⟨i + 1, j, ?_, rfl, ?_, hR.m hs hi2 (hu i hi2).2.1 (hu i hi2).2.2 (Or.inr c5)⟩, ?_⟩ <;> (dsimp only; omega)
