theorem tk_c_u {V : pm_M} {s a q e s1 a1 q1 e1 : Int} (h : tk_c V s a q e) (h1 : tk_c V s1 a1 q1 e1) : s = s1 ∧ a = a1 ∧ q = q1 ∧ e = e1 := by
  obtain ⟨b1, b2, b3, b4, b5⟩ := h
  obtain ⟨c1, c2, c3, c4, c5⟩ := h1
  have es : s = s1 := b1.symm.trans c1
  subst es
  refine ⟨rfl, ?_, b2.symm.trans c2, b3.symm.trans c3⟩
  by_cases hs : s = 2
  · exact (b4 hs).symm.trans (c4 hs)
  · exact (b5 hs).symm.trans (c5 hs)
theorem tk_r_u {W : pm_M} {s a q e s1 a1 q1 e1 : Int} (h : tk_r W s a q e) (h1 : tk_r W s1 a1 q1 e1) : s = s1 ∧ a = a1 ∧ q = q1 ∧ e = e1 := by
  obtain ⟨b1, b2, b3⟩ := h
  obtain ⟨c1, c2, c3⟩ := h1
  have es : s = s1 ∧ a = a1 := by
    rcases b3 with ⟨x, y, z⟩ | ⟨x, y, z⟩ | ⟨x, y, z⟩ | ⟨x, y, z, -, -⟩
    · rcases c3 with ⟨x1, y1, z1⟩ | ⟨x1, y1, z1⟩ | ⟨x1, y1, z1⟩ | ⟨x1, y1, z1, -, -⟩
      · exact ⟨by omega, z.symm.trans z1⟩
      · omega
      · omega
      · rcases y1 with ⟨y1, -⟩ | ⟨y1, -⟩ <;> omega
    · rcases c3 with ⟨x1, y1, z1⟩ | ⟨x1, y1, z1⟩ | ⟨x1, y1, z1⟩ | ⟨x1, y1, z1, -, -⟩
      · omega
      · exact ⟨by omega, z.symm.trans z1⟩
      · omega
      · rcases y1 with ⟨y1, -⟩ | ⟨y1, -⟩ <;> omega
    · rcases c3 with ⟨x1, y1, z1⟩ | ⟨x1, y1, z1⟩ | ⟨x1, y1, z1⟩ | ⟨x1, y1, z1, -, -⟩
      · omega
      · omega
      · exact ⟨by omega, z.symm.trans z1⟩
      · rcases y1 with ⟨y1, -⟩ | ⟨y1, -⟩ <;> omega
    · rcases c3 with ⟨x1, y1, z1⟩ | ⟨x1, y1, z1⟩ | ⟨x1, y1, z1⟩ | ⟨x1, y1, z1, -, -⟩
      · rcases y with ⟨y, -⟩ | ⟨y, -⟩ <;> omega
      · rcases y with ⟨y, -⟩ | ⟨y, -⟩ <;> omega
      · rcases y with ⟨y, -⟩ | ⟨y, -⟩ <;> omega
      · exact ⟨by omega, z.symm.trans z1⟩
  exact ⟨es.1, es.2, b1.symm.trans c1, b2.symm.trans c2⟩
theorem su_tri {V W : pm_M} {x : su_X} (h : su_R V x.2) (hx : su_R x.1 x.2) (h1 : su_R x.1 W) : su_R V W := by
  obtain ⟨⟨t1, t2, t3, t4⟩, ⟨s, a, q, e, k1, k2, k3, k4, k5, k6⟩⟩ := h
  obtain ⟨⟨u1, u2, u3, u4⟩, ⟨s1, a1, q1, e1, l1, l2, l3, l4, l5, l6⟩⟩ := hx
  obtain ⟨⟨w1, w2, w3, w4⟩, ⟨s2, a2, q2, e2, m1, m2, m3, m4, m5, m6⟩⟩ := h1
  obtain ⟨rfl, rfl, rfl, rfl⟩ := tk_r_u k2 l2
  obtain ⟨rfl, rfl, rfl, rfl⟩ := tk_c_u l1 m1
  have e11 : V 1 1 = x.1 1 1 := t1.trans u1.symm
  refine ⟨⟨e11.trans w1, t2, t3, fun i hi => ?_⟩, ⟨_, _, _, _, k1, m2, k3, k4, k5, k6⟩⟩
  have p := w4 i (by omega)
  have r := u4 i (by omega)
  have v := t4 i hi
  exact ⟨p.1, p.2.1, v.2.2.trans (r.2.2.symm.trans p.2.2)⟩
/-- a sum: the class and the reference answer alike, and stand at the same token behind it -/
theorem sr_sum {rc : Nat} (hr : 4 ≤ rc) {V W : pm_M} (h : su_R V W) : ∃ y V1 W1, F_X3_readSum rc (pf_fac rc 8) V = (y, V1) ∧ F_X12_sumHere W = (y, W1) ∧ su_f rc V V1 ∧ su_h W W1 ∧ su_R V1 W1 ∧ (y = 0 ∨ (y = 1 ∧ V 3 2 + 1 ≤ V1 3 2)) := by
  obtain ⟨y, V1, a1, a2, a3⟩ := su_top hr V (V, W) h h
  obtain ⟨y1, W1, b1, b2, b3⟩ := su_ref (x := (V, W)) h h
  rcases a3 with ⟨e, xf, f1, f2, m, f3⟩ | ⟨e, x1, f1, f2, f3, f4, f5⟩
  · rcases b3 with ⟨e1, xg, g1, g2, n, g3⟩ | ⟨e1, x2, g1, g2, g3, g4, g5⟩
    · have d := su_det f3 g3
      have d2 : xf = xg := (Prod.mk.inj d).2
      subst d2
      subst e
      subst e1
      exact ⟨0, V1, W1, a1, b1, a2, b2, su_tri f1 f2 g1, Or.inl rfl⟩
    · exfalso
      obtain ⟨n, g6⟩ := g5 _ _ (su_done g3)
      have d := su_det f3 g6
      exact absurd (Prod.mk.inj d).1 (by decide)
  · obtain ⟨m, f6⟩ := f5 _ _ (su_done f3)
    rcases b3 with ⟨e1, xg, g1, g2, n, g3⟩ | ⟨e1, x2, g1, g2, g3, g4, g5⟩
    · exfalso
      have d := su_det f6 g3
      exact absurd (Prod.mk.inj d).1 (by decide)
    · obtain ⟨n, g6⟩ := g5 _ _ (su_done g3)
      have d := su_det f6 g6
      have d2 : x1 = x2 := (Prod.mk.inj d).2
      subst d2
      subst e
      subst e1
      exact ⟨1, V1, W1, a1, b1, a2, b2, su_tri f1 f2 g1, Or.inr ⟨rfl, f4⟩⟩
