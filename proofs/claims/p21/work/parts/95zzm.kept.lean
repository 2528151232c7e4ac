/-! WHAT IS KEPT, on both sides -/
theorem vC.r13 {V Z : pm_M} (f : vC V Z) : Z 73 13 = V 73 13 := f 73 13 (Or.inr ⟨rfl, Or.inl rfl⟩)
/-- the two rows of chances are two -/
def ck (V : pm_M) : Prop := (V 0 12 = 84 ∧ V 0 13 = 87) ∨ (V 0 12 = 87 ∧ V 0 13 = 84)
def kF (V Z : pm_M) : Prop := ∀ k i, (k < 79 ∨ 82 < k) → ¬ (k = 0 ∧ (i = 12 ∨ i = 13)) → Z k i = V k i
theorem kF.v {V Z : pm_M} (h : kF V Z) : vC V Z := fun k i q => h k i (by omega) (by omega)
def kt2 (k t : Nat) : Prop := (k = 84 ∧ t = 87) ∨ (k = 87 ∧ t = 84)
theorem kt2.sw {k t : Nat} (h : kt2 k t) : kt2 t k := by
  unfold kt2 at h ⊢
  omega
theorem kt2.c {k t : Nat} (h : kt2 k t) {V : pm_M} (e12 : V 0 12 = (k : Int)) (e13 : V 0 13 = (t : Int)) : ck V := by
  rcases h with ⟨rfl, rfl⟩ | ⟨rfl, rfl⟩
  · exact Or.inl ⟨e12, e13⟩
  · exact Or.inr ⟨e12, e13⟩
theorem ck.k {V : pm_M} (h : ck V) : ∃ k t : Nat, kt2 k t ∧ V 0 12 = (k : Int) ∧ V 0 13 = (t : Int) := by
  rcases h with ⟨a, b⟩ | ⟨a, b⟩
  · exact ⟨84, 87, Or.inl ⟨rfl, rfl⟩, a, b⟩
  · exact ⟨87, 84, Or.inr ⟨rfl, rfl⟩, a, b⟩
theorem kt_val {V : pm_M} {t k s : Nat} (hk : kt2 k t) (e12 : V 0 12 = (k : Int)) (e13 : V 0 13 = (t : Int)) (ht : xc V t s) (hx : xc V k s) : ∃ y Z, F_X11_keepsTried V = (y, Z) ∧ ((0 < pm_cmp ((xp V (t + 1) s * xp V (k + 2) s : Nat) : Int) ((xp V (k + 1) s * xp V (t + 2) s : Nat) : Int) ∧ y = 1 ∧ Z 0 12 = (t : Int) ∧ Z 0 13 = (k : Int)) ∨ (¬ 0 < pm_cmp ((xp V (t + 1) s * xp V (k + 2) s : Nat) : Int) ((xp V (k + 1) s * xp V (t + 2) s : Nat) : Int) ∧ y = 0 ∧ Z 0 12 = (k : Int) ∧ Z 0 13 = (t : Int))) ∧ kF V Z := by
  have e := F_X11_keepsTried_eq V
  obtain ⟨Z, hZ, fZ⟩ := xc_compare (V := V) (cl := t) (cr := k) (s := s) (by rcases hk with ⟨rfl, rfl⟩ | ⟨rfl, rfl⟩ <;> decide) ht hx
  have f12 : Z 0 12 = V 0 12 := fZ.at (by omega)
  have f13 : Z 0 13 = V 0 13 := fZ.at (by omega)
  obtain ⟨c, hc⟩ : ∃ c, pm_cmp ((xp V (t + 1) s * xp V (k + 2) s : Nat) : Int) ((xp V (k + 1) s * xp V (t + 2) s : Nat) : Int) = c := ⟨_, rfl⟩
  rw [hc] at hZ ⊢
  have up : ∀ a b : Int, kF V (pm_up (pm_up Z 0 12 a) 0 13 b) := fun a b l i h1 h2 => by
    rcases Nat.eq_zero_or_pos l with q | q
    · subst q
      rw [pm_up_i (by omega), pm_up_i (by omega)]
      exact fZ.at (by omega)
    · rw [pm_up_c (by omega), pm_up_c (by omega)]
      exact fZ.at h1
  have no : kF V Z := fun l i h1 _ => fZ.at h1
  rcases hk with ⟨rfl, rfl⟩ | ⟨rfl, rfl⟩
  · have e13' : ¬ V 0 13 = 84 := by rw [e13]; decide
    have e12' : V 0 12 = 84 := e12
    replace e := ((e.trans (if_neg e13')).trans (if_pos e12')).trans (pf_call_eq hZ)
    by_cases c1 : 0 < c
    · exact ⟨_, _, e.trans (if_pos c1), Or.inl ⟨c1, rfl, by rw [pm_up_i (by decide), pm_up_s]; rfl, pm_up_s⟩, up _ _⟩
    · exact ⟨_, _, e.trans (if_neg c1), Or.inr ⟨c1, rfl, f12.trans e12, f13.trans e13⟩, no⟩
  · have e13' : V 0 13 = 84 := e13
    have e12' : ¬ V 0 12 = 84 := by rw [e12]; decide
    replace e := ((e.trans (if_pos e13')).trans (if_neg e12')).trans (pf_call_eq hZ)
    by_cases c1 : 0 < c
    · exact ⟨_, _, e.trans (if_pos c1), Or.inl ⟨c1, rfl, by rw [pm_up_i (by decide), pm_up_s]; rfl, pm_up_s⟩, up _ _⟩
    · exact ⟨_, _, e.trans (if_neg c1), Or.inr ⟨c1, rfl, f12.trans e12, f13.trans e13⟩, no⟩
/-- the reference's comparison with what is kept -/
theorem ag_val {Y X : pm_M} {z : Int} {n m n2 m2 P Q Pk Qk : Nat} (r0 : rk Y 0 n P) (r1 : rk Y 1 m Q) (r2 : rk Y 2 n2 Pk) (r3 : rk Y 3 m2 Qk) (b0 : n ≤ 145) (b1 : m ≤ 145) (b2 : n2 ≤ 145) (b3 : m2 ≤ 145) (hX : F_X12_against Y = (z, X)) : z = pm_cmp ((P * Qk : Nat) : Int) ((Pk * Q : Nat) : Int) ∧ vR Y X ∧ vP (fun r => r = 4 ∨ r = 5) Y X := by
  have e := ((((hX.symm.trans (F_X12_against_eq Y)).trans (pf_let_eq rfl)).trans (pf_let_eq rfl)).trans (pf_let_eq rfl)).trans (pf_let_eq rfl)
  obtain ⟨z1, Y1, h1⟩ : ∃ z T, F_X12_joins_d0_3_4 Y = (z, T) := ⟨_, _, rfl⟩
  obtain ⟨k4, s4, f4⟩ := rk_join4 r0 r3 b0 b3 h1
  replace e := ((((e.trans (pf_call_eq h1)).trans (pf_let_eq rfl)).trans (pf_let_eq rfl)).trans (pf_let_eq rfl)).trans (pf_let_eq rfl)
  obtain ⟨z2, Y2, h2⟩ : ∃ z T, F_X12_joins_d2_1_5 Y1 = (z, T) := ⟨_, _, rfl⟩
  obtain ⟨k5, s5, f5⟩ := rk_join5 (r2.fr f4 (by decide) (by omega)) (r1.fr f4 (by decide) (by omega)) b2 b1 h2
  replace e := ((((e.trans (pf_call_eq h2)).trans (pf_let_eq rfl)).trans (pf_let_eq rfl)).trans (pf_let_eq rfl)).trans (pf_let_eq rfl)
  have k4b : k4 ≤ 300 := by
    have p1 := dg_lt n r0.2.2.1
    have p2 := dg_lt m2 r3.2.2.1
    rw [r0.2.2.2.1] at p1
    rw [r3.2.2.2.1] at p2
    have p3 : P * Qk < 10000 ^ (n + m2) := by
      rw [Nat.pow_add]
      exact Nat.mul_lt_mul_of_le_of_lt (Nat.le_of_lt p1) p2 (Nat.pow_pos (by decide))
    have := s4.2.few p3
    omega
  replace e := e.trans (pf_call_eq (rk_cmp (s4.fr f5 (by decide) k4b) s5))
  obtain ⟨ez, eX⟩ := Prod.mk.inj e
  rw [eX]
  exact ⟨ez, f4.v.tr f5.v, (f4.vp (Or.inl rfl)).tr (f5.vp (Or.inr rfl))⟩
theorem kp_val {Y X : pm_M} {z : Int} {n m P Q : Nat} (r0 : rk Y 0 n P) (r1 : rk Y 1 m Q) (b0 : n ≤ 145) (b1 : m ≤ 145) (hX : F_X12_keeps Y = (z, X)) : rk X 2 n P ∧ rk X 3 m Q ∧ vR Y X ∧ vP (fun r => r = 2 ∨ r = 3) Y X := by
  have e := ((((hX.symm.trans (F_X12_keeps_eq Y)).trans (pf_let_eq rfl)).trans (pf_let_eq rfl)).trans (pf_let_eq rfl)).trans (pf_let_eq rfl)
  obtain ⟨z1, Y1, h1⟩ : ∃ z T, F_X12_copies_d0_2 Y = (z, T) := ⟨_, _, rfl⟩
  obtain ⟨s2, f2⟩ := rk_cop2 r0 (by omega) h1
  replace e := ((((e.trans (pf_call_eq h1)).trans (pf_let_eq rfl)).trans (pf_let_eq rfl)).trans (pf_let_eq rfl)).trans (pf_let_eq rfl)
  obtain ⟨z2, Y2, h2⟩ : ∃ z T, F_X12_copies_d1_3 Y1 = (z, T) := ⟨_, _, rfl⟩
  obtain ⟨s3, f3⟩ := rk_cop3 (r1.fr f2 (by decide) (by omega)) (by omega) h2
  replace e := ((((e.trans (pf_call_eq h2)).trans (pf_let_eq rfl)).trans (pf_let_eq rfl)).trans (pf_let_eq rfl)).trans (pf_let_eq rfl)
  obtain ⟨-, eX⟩ := Prod.mk.inj e
  rw [eX]
  exact ⟨s2.fr f3 (by decide) (by omega), s3, f2.v.tr f3.v, (f2.vp (Or.inl rfl)).tr (f3.vp (Or.inr rfl))⟩
/-- kept on both sides: the products P, Q of s chances -/
def kh (s : Nat) (U Y : pm_M) (P Q : Nat) : Prop := (∃ k t : Nat, kt2 k t ∧ U 0 12 = (k : Int) ∧ U 0 13 = (t : Int) ∧ xc U k s ∧ xp U (k + 1) s = P ∧ xp U (k + 2) s = Q) ∧ (∃ n, rk Y 2 n P) ∧ (∃ m, rk Y 3 m Q) ∧ P ≤ px s ∧ Q ≤ px s
/-- one that is tried, held against what is kept -/
theorem kh_step {U Y U1 Y1 : pm_M} {s P Q Pk Qk : Nat} {k t : Nat} (hk : kt2 k t) (e12 : U 0 12 = (k : Int)) (e13 : U 0 13 = (t : Int)) (h : kh s U Y Pk Qk) (g : gg t s P Q U1 Y1) (gk : vK t U U1) (gp : vP (fun r => r < 2) Y Y1) : ∃ y U2 z Y2, F_X11_keepsTried U1 = (y, U2) ∧ F_X12_against Y1 = (z, Y2) ∧ z = pm_cmp ((P * Qk : Nat) : Int) ((Pk * Q : Nat) : Int) ∧ vC U1 U2 ∧ vR Y1 Y2 ∧ ((0 < z ∧ y = 1 ∧ ∃ z' Y3, F_X12_keeps Y2 = (z', Y3) ∧ vR Y2 Y3 ∧ kh s U2 Y3 P Q) ∨ (¬ 0 < z ∧ y = 0 ∧ kh s U2 Y2 Pk Qk)) := by
  obtain ⟨⟨k', t', hk', e12', e13', x1, x2, x3⟩, ⟨n2, r2⟩, ⟨m2, r3⟩, b1, b2⟩ := h
  have ek : k' = k := by omega
  have et : t' = t := by omega
  subst ek et
  obtain ⟨g1, g2, g3, ⟨n, s0⟩, ⟨m, s1⟩, c1, c2⟩ := g
  have hs := g1.2.1
  have l0 := px_few s0.2 c1 hs
  have l1 := px_few s1.2 c2 hs
  have l2 := px_few r2.2 b1 hs
  have l3 := px_few r3.2 b2 hs
  have u12 : U1 0 12 = (k' : Int) := (gk 0 12 (by omega) (by rcases hk with ⟨rfl, rfl⟩ | ⟨rfl, rfl⟩ <;> decide) (by omega) (by omega)).trans e12
  have u13 : U1 0 13 = (t' : Int) := (gk 0 13 (by omega) (by rcases hk with ⟨rfl, rfl⟩ | ⟨rfl, rfl⟩ <;> decide) (by omega) (by omega)).trans e13
  have kk : ∀ j, j ≤ 2 → ∀ i, U1 (k' + j) i = U (k' + j) i := fun j hj i => gk _ i (by rcases hk with ⟨rfl, rfl⟩ | ⟨rfl, rfl⟩ <;> omega) (by rcases hk with ⟨rfl, rfl⟩ | ⟨rfl, rfl⟩ <;> omega) (by rcases hk with ⟨rfl, rfl⟩ | ⟨rfl, rfl⟩ <;> omega) (by rcases hk with ⟨rfl, rfl⟩ | ⟨rfl, rfl⟩ <;> omega)
  have xk : xc U1 k' s := ⟨(kk 0 (by decide) 0).trans x1.1, x1.2.1, fun l hl => by
    rw [kk 1 (by decide), kk 2 (by decide)]
    exact x1.2.2 l hl⟩
  have xk1 : xp U1 (k' + 1) s = Pk := (xp_fr fun l _ => kk 1 (by decide) l).trans x2
  have xk2 : xp U1 (k' + 2) s = Qk := (xp_fr fun l _ => kk 2 (by decide) l).trans x3
  obtain ⟨y, U2, h1, h2, h3⟩ := kt_val hk u12 u13 g1 xk
  rw [g2, g3, xk1, xk2] at h2
  obtain ⟨z, Y2, h4⟩ : ∃ z T, F_X12_against Y1 = (z, T) := ⟨_, _, rfl⟩
  have q2 : rk Y1 2 n2 Pk := r2.vp gp (by decide) (by omega)
  have q3 : rk Y1 3 m2 Qk := r3.vp gp (by decide) (by omega)
  obtain ⟨ez, fR1, fP1⟩ := ag_val s0 s1 q2 q3 (by omega) (by omega) (by omega) (by omega) h4
  rw [← ez] at h2
  refine ⟨y, U2, z, Y2, h1, h4, ez, h3.v, fR1, ?_⟩
  have ck1 : ∀ l i, 83 ≤ l → U2 l i = U1 l i := fun l i hl => h3 l i (by omega) (by omega)
  rcases h2 with ⟨c, hy, v12, v13⟩ | ⟨c, hy, v12, v13⟩
  · refine Or.inl ⟨c, hy, ?_⟩
    obtain ⟨z', Y3, h5⟩ : ∃ z T, F_X12_keeps Y2 = (z, T) := ⟨_, _, rfl⟩
    obtain ⟨w2, w3, w4, -⟩ := kp_val (s0.vp fP1 (by decide) (by omega)) (s1.vp fP1 (by decide) (by omega)) (by omega) (by omega) h5
    have t83 : 83 ≤ t' := by rcases hk with ⟨rfl, rfl⟩ | ⟨rfl, rfl⟩ <;> decide
    refine ⟨z', Y3, h5, w4, ⟨t', k', hk.sw, v12, v13, ⟨(ck1 t' 0 t83).trans g1.1, g1.2.1, fun l hl => ?_⟩, ?_, ?_⟩, ⟨n, w2⟩, ⟨m, w3⟩, c1, c2⟩
    · rw [ck1 _ _ (by omega), ck1 _ _ (by omega)]
      exact g1.2.2 l hl
    · exact (xp_fr fun l _ => ck1 _ l (by omega)).trans g2
    · exact (xp_fr fun l _ => ck1 _ l (by omega)).trans g3
  · have t83 : 83 ≤ k' := by rcases hk with ⟨rfl, rfl⟩ | ⟨rfl, rfl⟩ <;> decide
    refine Or.inr ⟨c, hy, ⟨k', t', hk, v12, v13, ⟨(ck1 k' 0 t83).trans xk.1, xk.2.1, fun l hl => ?_⟩, ?_, ?_⟩, ⟨n2, q2.vp fP1 (by decide) (by omega)⟩, ⟨m2, q3.vp fP1 (by decide) (by omega)⟩, b1, b2⟩
    · rw [ck1 _ _ (by omega), ck1 _ _ (by omega)]
      exact xk.2.2 l hl
    · exact (xp_fr fun l _ => ck1 _ l (by omega)).trans xk1
    · exact (xp_fr fun l _ => ck1 _ l (by omega)).trans xk2
/-- the first one that is kept -/
theorem kh_first {U1 Y1 : pm_M} {s P Q k t : Nat} (hk : kt2 k t) (e12 : U1 0 12 = (k : Int)) (e13 : U1 0 13 = (t : Int)) (g : gg k s P Q U1 Y1) : ∃ z Y2, F_X12_keeps Y1 = (z, Y2) ∧ vR Y1 Y2 ∧ kh s U1 Y2 P Q := by
  obtain ⟨g1, g2, g3, ⟨n, s0⟩, ⟨m, s1⟩, c1, c2⟩ := g
  have hs := g1.2.1
  have l0 := px_few s0.2 c1 hs
  have l1 := px_few s1.2 c2 hs
  obtain ⟨z, Y2, h5⟩ : ∃ z T, F_X12_keeps Y1 = (z, T) := ⟨_, _, rfl⟩
  obtain ⟨w2, w3, w4, -⟩ := kp_val s0 s1 (by omega) (by omega) h5
  exact ⟨z, Y2, h5, w4, ⟨k, t, hk, e12, e13, g1, g2, g3⟩, ⟨n, w2⟩, ⟨m, w3⟩, c1, c2⟩
