/-- r is the first place below m with v, if names are allowed; -1 without -/
def sm_F (nm : Prop) (N : Nat → Int) (m v r : Int) : Prop := (r = -1 ∧ (nm → ∀ j : Nat, (j : Int) < m → N j ≠ v)) ∨ (0 ≤ r ∧ r < m ∧ nm ∧ N r.toNat = v ∧ ∀ j : Nat, (j : Int) < r → N j ≠ v)
theorem sm_F_u {nm : Prop} {N : Nat → Int} {m v r r1 : Int} (h : sm_F nm N m v r) (h1 : sm_F nm N m v r1) : r = r1 := by
  rcases h with ⟨a1, a2⟩ | ⟨a1, a2, a3, a4, a5⟩ <;> rcases h1 with ⟨b1, b2⟩ | ⟨b1, b2, b3, b4, b5⟩
  · omega
  · exact absurd b4 (a2 b3 r1.toNat (by omega))
  · exact absurd a4 (b2 a3 r.toNat (by omega))
  · rcases Int.lt_trichotomy r r1 with c | c | c
    · exact absurd a4 (b5 r.toNat (by omega))
    · exact c
    · exact absurd b4 (a5 r1.toNat (by omega))
theorem sm_F_c {nm : Prop} {N N1 : Nat → Int} {m v r : Int} (hN : ∀ j : Nat, (j : Int) < m → N1 j = N j) (h : sm_F nm N m v r) : sm_F nm N1 m v r := by
  rcases h with ⟨a1, a2⟩ | ⟨a1, a2, a3, a4, a5⟩
  · exact Or.inl ⟨a1, fun q j hj => by rw [hN j hj]; exact a2 q j hj⟩
  · exact Or.inr ⟨a1, a2, a3, by rw [hN _ (by omega)]; exact a4, fun j hj => by rw [hN j (by omega)]; exact a5 j hj⟩
theorem c_find {sc : Nat} {V : pm_M} (h0 : 0 ≤ V sc 0) : ∃ r, F_X6_findName sc V = (r, V) ∧ sm_F (F_X9_isName V = (1, V)) (V 70) (V sc 0) (V 3 3) r := by
  obtain ⟨y, c1, c2, c3⟩ := c_isName V
  rw [F_X6_findName_eq]
  simp only [pf_let, pf_call, c1, pm_cmp_eq0]
  rcases c2 with c2 | c2
  · subst c2
    rw [if_pos rfl]
    exact ⟨-1, rfl, Or.inl ⟨rfl, fun q => absurd (Prod.mk.inj q).1 (by decide)⟩⟩
  · subst c2
    rw [if_neg (by decide)]
    refine pf_val_ind2 (fun (x : Int) => 0 ≤ x ∧ x ≤ V sc 0 ∧ ∀ j : Nat, (j : Int) < x → V 70 j ≠ V 3 3) (fun (o : Int × pm_M) => ∃ r, o = (r, V) ∧ sm_F (((1 : Int), V) = (1, V)) (V 70) (V sc 0) (V 3 3) r) (fun x => (V sc 0 - x).toNat) ?_ 0 ⟨Int.le_refl _, h0, fun j hj => by omega⟩
    rintro x ⟨x1, x2, x3⟩
    show (∃ s1, (if V sc 0 ≤ x then (.inr (-1, V) : Int ⊕ (Int × pm_M)) else if ¬ V 70 x.toNat = V 3 3 then .inl (x + 1) else .inr (x, V)) = .inl s1 ∧ _) ∨ (∃ o, (if V sc 0 ≤ x then (.inr (-1, V) : Int ⊕ (Int × pm_M)) else if ¬ V 70 x.toNat = V 3 3 then .inl (x + 1) else .inr (x, V)) = .inr o ∧ _)
    by_cases k1 : V sc 0 ≤ x
    · rw [if_pos k1]
      exact Or.inr ⟨_, rfl, -1, rfl, Or.inl ⟨rfl, fun _ j hj => x3 j (by omega)⟩⟩
    · rw [if_neg k1]
      by_cases k2 : V 70 x.toNat = V 3 3
      · rw [if_neg (fun q => q k2)]
        exact Or.inr ⟨_, rfl, x, rfl, Or.inr ⟨x1, by omega, rfl, k2, x3⟩⟩
      · rw [if_pos k2]
        refine Or.inl ⟨_, rfl, ⟨by omega, by omega, fun j hj => ?_⟩, by show (V sc 0 - (x + 1)).toNat < (V sc 0 - x).toNat; omega⟩
        by_cases k3 : (j : Int) < x
        · exact x3 j k3
        · rw [show j = x.toNat by omega]
          exact k2
theorem r_find {V : pm_M} (h0 : 0 ≤ V 90 6) : ∃ r, F_X12_named V = (r, V) ∧ sm_F (F_X12_isName V = (1, V)) (V 92) (V 90 6) (V 90 5) r := by
  obtain ⟨y, c1, c2, c3⟩ := r_isName V
  rw [F_X12_named_eq]
  simp only [pf_let, pf_call, c1, pm_cmp_eq0]
  refine pf_val_ind2 (fun (x : Int) => 0 ≤ x ∧ x ≤ V 90 6 ∧ ∀ j : Nat, (j : Int) < x → V 92 j ≠ V 90 5) (fun (o : Int × pm_M) => ∃ r, o = (r, V) ∧ sm_F ((y, V) = (1, V)) (V 92) (V 90 6) (V 90 5) r) (fun x => (V 90 6 - x).toNat) ?_ 0 ⟨Int.le_refl _, h0, fun j hj => by omega⟩
  rintro x ⟨x1, x2, x3⟩
  show (∃ s1, (if V 90 6 ≤ x then (.inr (-1, V) : Int ⊕ (Int × pm_M)) else if y = 0 then .inr (-1, V) else if ¬ V 92 x.toNat = V 90 5 then .inl (x + 1) else .inr (x, V)) = .inl s1 ∧ _) ∨ (∃ o, (if V 90 6 ≤ x then (.inr (-1, V) : Int ⊕ (Int × pm_M)) else if y = 0 then .inr (-1, V) else if ¬ V 92 x.toNat = V 90 5 then .inl (x + 1) else .inr (x, V)) = .inr o ∧ _)
  by_cases k1 : V 90 6 ≤ x
  · rw [if_pos k1]
    exact Or.inr ⟨_, rfl, -1, rfl, Or.inl ⟨rfl, fun _ j hj => x3 j (by omega)⟩⟩
  · rw [if_neg k1]
    by_cases k0 : y = 0
    · rw [if_pos k0]
      exact Or.inr ⟨_, rfl, -1, rfl, Or.inl ⟨rfl, fun q => by have := (Prod.mk.inj q).1; omega⟩⟩
    · rw [if_neg k0]
      have y1 : y = 1 := by omega
      by_cases k2 : V 92 x.toNat = V 90 5
      · rw [if_neg (fun q => q k2)]
        exact Or.inr ⟨_, rfl, x, rfl, Or.inr ⟨x1, by omega, by rw [y1], k2, x3⟩⟩
      · rw [if_pos k2]
        refine Or.inl ⟨_, rfl, ⟨by omega, by omega, fun j hj => ?_⟩, by show (V 90 6 - (x + 1)).toNat < (V 90 6 - x).toNat; omega⟩
        by_cases k3 : (j : Int) < x
        · exact x3 j k3
        · rw [show j = x.toNat by omega]
          exact k2
/-- both find one name -/
theorem sm_find {sc : Nat} {V W : pm_M} (hK : sm_K V W) (hS : sm_S1 sc V W) : ∃ r, F_X6_findName sc V = (r, V) ∧ F_X12_named W = (r, W) ∧ (r = -1 ∨ (0 ≤ r ∧ r < V sc 0)) := by
  obtain ⟨s1, s2, s3, s4⟩ := hS
  obtain ⟨r, c1, c2⟩ := c_find s2
  obtain ⟨z, r1, r2⟩ := r_find (V := W) (by omega)
  obtain ⟨y, n1, n2, n3, n4⟩ := sm_name hK
  have hrz : r = z := by
    rcases n3 with n3 | n3
    · subst n3
      have a1 : r = -1 := by
        rcases c2 with c2 | c2
        · exact c2.1
        · have := c2.2.2.1
          rw [n1] at this
          exact absurd (Prod.mk.inj this).1 (by decide)
      have a2 : z = -1 := by
        rcases r2 with r2 | r2
        · exact r2.1
        · have := r2.2.2.1
          rw [n2] at this
          exact absurd (Prod.mk.inj this).1 (by decide)
      omega
    · subst n3
      have hv := n4 rfl
      have h1 : sm_F True (V 70) (V sc 0) (V 3 3) r := by
        rcases c2 with c2 | c2
        · exact Or.inl ⟨c2.1, fun _ => c2.2 n1⟩
        · exact Or.inr ⟨c2.1, c2.2.1, trivial, c2.2.2.2⟩
      have h2 : sm_F True (W 92) (W 90 6) (W 90 5) z := by
        rcases r2 with r2 | r2
        · exact Or.inl ⟨r2.1, fun _ => r2.2 n2⟩
        · exact Or.inr ⟨r2.1, r2.2.1, trivial, r2.2.2.2⟩
      rw [← s1, ← hv] at h2
      exact sm_F_u h1 (sm_F_c (fun j hj => (s4 j hj).1) h2)
  subst hrz
  refine ⟨r, c1, r1, ?_⟩
  rcases c2 with c2 | c2
  · exact Or.inl c2.1
  · exact Or.inr ⟨c2.1, c2.2.1⟩
theorem sl_hold {sc : Nat} {V W : pm_M} (hsc : sc = 45 ∨ sc = 51) (hT : sm_T V W) (hK : sm_K V W) (hS : sm_S sc V W) : ∃ y V1 W1, F_X6_readHold sc V = (y, V1) ∧ F_X12_holdLine W = (y, W1) ∧ (y = 0 ∨ y = 1) ∧ sm_T V1 W1 ∧ sm_K V1 W1 ∧ (y = 1 → sm_S sc V1 W1 ∧ V 3 4 ≤ V1 3 2) := by
  obtain ⟨V1, W1, c1, r1, c2, r2, t1, k1, p1⟩ := sm_nx hT hK
  have s1 := hS.st hsc (fun k a _ => c2 k a) (by rw [c2 69 (by decide)]) r2.g
  rw [F_X6_readHold_eq, F_X12_holdLine_eq]
  simp only [pf_let, pf_call, c1, r1]
  obtain ⟨r, f1, f2, f3⟩ := sm_find k1 s1.1
  rw [f1, f2]
  simp only []
  by_cases hr : r = -1
  · rw [if_pos hr, if_pos hr]
    exact ⟨0, V1, W1, rfl, rfl, Or.inl rfl, t1, k1, fun q => absurd q (by decide)⟩
  · rw [if_neg hr, if_neg hr]
    have hr2 : 0 ≤ r ∧ r < V1 sc 0 := by rcases f3 with f3 | f3; exact absurd f3 hr; exact f3
    have hj := s1.1.2.2.2 r.toNat (by omega)
    have e71 : V1 71 r.toNat = W1 94 r.toNat := hj.2.2.2.2.1
    by_cases hh : V1 71 r.toNat = 0
    · rw [if_pos hh, if_pos (show W1 94 r.toNat = 0 by rw [← e71]; exact hh)]
      obtain ⟨V2, W2, c3, r3, c4, r4, t2, k2, p2⟩ := sm_nx t1 k1
      have s2 := s1.st hsc (fun k a _ => c4 k a) (by rw [c4 69 (by decide)]) r4.g
      rw [c3, r3]
      simp only []
      rcases sm_number (a := 1) (b := 9) t2 k2 (by decide) with ⟨n1, n2⟩ | ⟨v, X1, W3, v1, v2, v3, n1, n2, n3, n4, n5, n6, n7, t3, k3⟩
      · rw [n1, n2]
        exact ⟨0, V2, W2, rfl, rfl, Or.inl rfl, t2, k2, fun q => absurd q (by decide)⟩
      · rw [n1, n3]
        simp only []
        rw [if_pos (show ¬ ((1 : Int) = 0) by decide), if_pos (show ¬ ((1 : Int) = 0) by decide), v3, n4]
        -- the class steps with its rows told
        have q3 : pm_up (pm_up V2 71 r.toNat 1) (sc + 3) r.toNat v 3 = V2 3 := by rcases hsc with rfl | rfl <;> simp [pm_up, pm_up_f]
        obtain ⟨Z1, Z2, d1, d2, d3, d4, d5, d6, d7⟩ := sm_nx (V := pm_up (pm_up V2 71 r.toNat 1) (sc + 3) r.toNat v) (W := pm_up W2 90 37 v) (t2.up (by rcases hsc with rfl | rfl <;> simp [pm_up, pm_up_f]) (by rcases hsc with rfl | rfl <;> simp [pm_up, pm_up_f]) (by simp [pm_up, pm_up_f]) (by simp [pm_up, pm_up_f])) (k2.up (by rcases hsc with rfl | rfl <;> simp [pm_up, pm_up_f]) q3 (by simp [pm_up, pm_up_f]) (by simp [pm_up, pm_up_f]) (by simp [pm_up, pm_up_f]) (by simp [pm_up, pm_up_f]))
        have f2' := k2.ln
        have hn : F_X12_number 1 9 W2 = (1, Z2) := by
          rw [F_X12_number_eq]
          have h5 : W2 90 3 = 2 := by
            by_cases q : W2 90 3 = 2
            · exact q
            · exfalso
              rw [F_X12_number_eq] at n3
              simp only [pf_let] at n3
              rw [if_pos q] at n3
              exact absurd (Prod.mk.inj n3).1 (by decide)
          have h6 := k2.flat.2.2.2.1 (k2.flat.2.2.1.mpr h5)
          simp only [pf_let, pf_call, pm_cmp_lt0, pm_cmp_le0]
          rw [if_neg (fun q => q h5), if_neg (show ¬ W2 90 5 < 1 by omega), if_pos (show W2 90 5 ≤ 9 by omega), show W2 90 5 = v by omega, d2]
        rw [n3] at hn
        have e2 := (Prod.mk.inj hn).2
        subst e2
        rw [d1]
        simp only []
        obtain ⟨y, V4, W4, c5, r5, y5, g5, h5, t5, k5, p5⟩ := sl_closes (sc := sc) (V := Z1) (W := pm_up (pm_up W3 93 (3 * r + 2).toNat v) 94 r.toNat 1) (d5.up rfl rfl (by simp [pm_up, pm_up_f]) (by simp [pm_up, pm_up_f])) (d6.up rfl rfl (by simp [pm_up, pm_up_f]) (by simp [pm_up, pm_up_f]) (by simp [pm_up, pm_up_f]) (by simp [pm_up, pm_up_f]))
        rw [c5, r5]
        rw [q3] at d7
        have f1' := k1.ln
        have fz := d6.ln
        refine ⟨y, V4, W4, rfl, rfl, y5, t5, k5, fun _ => ⟨sm_S.st (V := Z1) (W := pm_up (pm_up W3 93 (3 * r + 2).toNat v) 94 r.toNat 1) hsc ?_ (fun k a _ => g5 k a) (by rw [g5 69 (by decide)]) h5, by omega⟩⟩
        -- the rows
        have g3 : tk_g9 W2 W3 := ⟨n6, n7⟩
        have s3 : sm_S sc V2 W3 := s2.st hsc (fun _ _ _ => rfl) rfl g3
        obtain ⟨s31, s32, s33, s34, s35⟩ := s3
        have e1 : V1 sc 0 = V2 sc 0 := by rw [c4 sc (by omega)]
        have en : (3 * r + 2).toNat = 3 * r.toNat + 2 := by omega
        have hz : ∀ k, k ≠ 3 → Z1 k = pm_up (pm_up V2 71 r.toNat 1) (sc + 3) r.toNat v k := d3
        refine ⟨?_, ?_, ?_, ?_, ?_⟩
        · obtain ⟨x1, x2, x3, x4⟩ := s31
          unfold sm_S1
          rw [hz sc (by omega), hz (sc + 1) (by omega), hz (sc + 2) (by omega), hz (sc + 3) (by omega), hz 70 (by decide), hz 71 (by decide)]
          have a0 : pm_up (pm_up V2 71 r.toNat 1) (sc + 3) r.toNat v sc = V2 sc := by rcases hsc with rfl | rfl <;> simp [pm_up, pm_up_f]
          have a1 : pm_up (pm_up V2 71 r.toNat 1) (sc + 3) r.toNat v (sc + 1) = V2 (sc + 1) := by rcases hsc with rfl | rfl <;> simp [pm_up, pm_up_f]
          have a2 : pm_up (pm_up V2 71 r.toNat 1) (sc + 3) r.toNat v (sc + 2) = V2 (sc + 2) := by rcases hsc with rfl | rfl <;> simp [pm_up, pm_up_f]
          have a70 : pm_up (pm_up V2 71 r.toNat 1) (sc + 3) r.toNat v 70 = V2 70 := by rcases hsc with rfl | rfl <;> simp [pm_up, pm_up_f]
          have a3 : ∀ j, pm_up (pm_up V2 71 r.toNat 1) (sc + 3) r.toNat v (sc + 3) j = if j = r.toNat then v else V2 (sc + 3) j := fun j => by rcases hsc with rfl | rfl <;> simp [pm_up, pm_up_f]
          have a71 : ∀ j, pm_up (pm_up V2 71 r.toNat 1) (sc + 3) r.toNat v 71 j = if j = r.toNat then 1 else V2 71 j := fun j => by rcases hsc with rfl | rfl <;> simp [pm_up, pm_up_f]
          have b93 : ∀ i, pm_up (pm_up W3 93 (3 * r + 2).toNat v) 94 r.toNat 1 93 i = if i = 3 * r.toNat + 2 then v else W3 93 i := fun i => by rw [en]; simp [pm_up, pm_up_f]
          have b94 : ∀ i, pm_up (pm_up W3 93 (3 * r + 2).toNat v) 94 r.toNat 1 94 i = if i = r.toNat then 1 else W3 94 i := fun i => by simp [pm_up, pm_up_f]
          have b90 : pm_up (pm_up W3 93 (3 * r + 2).toNat v) 94 r.toNat 1 90 6 = W3 90 6 := by simp [pm_up, pm_up_f]
          have b92 : pm_up (pm_up W3 93 (3 * r + 2).toNat v) 94 r.toNat 1 92 = W3 92 := by simp [pm_up, pm_up_f]
          rw [a0, a1, a2, a70, b90, b92]
          refine ⟨x1, x2, x3, fun j hj => ?_⟩
          obtain ⟨w1, w2, w3, w4, w5, w6, w7, w8, w9⟩ := x4 j hj
          rw [a3, a71, b93, b93, b93, b94, if_neg (show ¬ 3 * j = 3 * r.toNat + 2 by omega), if_neg (show ¬ 3 * j + 1 = 3 * r.toNat + 2 by omega)]
          by_cases hq : j = r.toNat
          · rw [if_pos hq, if_pos hq, if_pos (by omega), if_pos hq]
            exact ⟨w1, w2, w3, rfl, rfl, by omega, by decide, by decide, w9⟩
          · rw [if_neg hq, if_neg hq, if_neg (by omega), if_neg hq]
            exact ⟨w1, w2, w3, w4, w5, w6, w7, w8, w9⟩
        · unfold sm_S2
          rw [hz sc (by omega)]
          rcases hsc with rfl | rfl <;> simpa [sm_S2, pm_up, pm_up_f] using s32
        · unfold sm_S3
          rw [hz sc (by omega)]
          rcases hsc with rfl | rfl <;> simpa [sm_S3, pm_up, pm_up_f] using s33
        · unfold sm_S4
          rw [hz sc (by omega), hz 69 (by decide)]
          rcases hsc with rfl | rfl <;> simpa [sm_S4, pm_up, pm_up_f] using s34
        · unfold sm_S5
          rw [hz sc (by omega), hz (sc + 4) (by omega), hz (sc + 5) (by omega)]
          rcases hsc with rfl | rfl <;> simpa [sm_S5, pm_up, pm_up_f] using s35
    · rw [if_neg hh, if_neg (show ¬ W1 94 r.toNat = 0 by rw [← e71]; exact hh)]
      exact ⟨0, V1, W1, rfl, rfl, Or.inl rfl, t1, k1, fun q => absurd q (by decide)⟩
