/-! WEIGHTS: the reference's side -/
def wk_a (d : Int) : Int := if 0 ≤ d then d else -d
theorem far_val (d : Int) (U : pm_M) : F_X12_far d U = (wk_a d, U) := by
  rw [F_X12_far_eq]
  unfold wk_a
  split <;> rfl
theorem x_val (a : Int) (U : pm_M) : F_X12_x a U = (U 97 (3 * a).toNat, U) := F_X12_x_eq a U
theorem y_val (a : Int) (U : pm_M) : F_X12_y a U = (U 97 ((3 * a) + 1).toNat, U) := F_X12_y_eq a U
theorem wk_ab {d : Int} (h : -1000 ≤ d ∧ d ≤ 1000) : wk_a d = pm_ab d := by
  unfold wk_a pm_ab
  split
  · rfl
  · exact (pm_w32_id ⟨by omega, by omega⟩).symm
theorem wk_mul {H s p q : Int} (hH : 0 ≤ H) : pm_mx 0 (H * ((s - p) - q)) = H * pm_mx 0 (s - (p + q)) := by
  have e : (s - p) - q = s - (p + q) := by omega
  rw [e]
  unfold pm_mx
  by_cases c : 0 ≤ s - (p + q)
  · rw [if_pos c, if_pos (Int.mul_nonneg hH c)]
  · rw [if_neg c]
    by_cases c2 : 0 ≤ H * (s - (p + q))
    · rw [if_pos c2]
      have h1 : H * (s - (p + q)) ≤ 0 := Int.mul_nonpos_of_nonneg_of_nonpos hH (by omega)
      rw [Int.mul_zero]
      omega
    · rw [if_neg c2, Int.mul_zero]
def wk_U1 (sv v : Int) (x : Int) (U : pm_M) : pm_M := pm_up U 110 x.toNat (pm_mx 0 (U 97 ((3 * x) + 2).toNat * ((sv - wk_a (U 97 (3 * x).toNat - U 97 (3 * v).toNat)) - wk_a (U 97 ((3 * x) + 1).toNat - U 97 ((3 * v) + 1).toNat))))
def wk_U2 (sv sf v f : Int) (x : Int) (U : pm_M) : pm_M := pm_up (wk_U1 sv v x U) 111 x.toNat (pm_mx 0 (sf - wk_a (wk_U1 sv v x U 97 (3 * x).toNat - wk_U1 sv v x U 97 (3 * f).toNat)))
def wk_U3 (sv sf v f : Int) (x : Int) (U : pm_M) : pm_M := pm_up (pm_up (pm_up (wk_U2 sv sf v f x U) 90 44 (U 90 44 + wk_U2 sv sf v f x U 110 x.toNat)) 90 45 (U 90 45 + wk_U2 sv sf v f x U 111 x.toNat)) 90 46 (U 90 46 + wk_U2 sv sf v f x U 110 x.toNat * wk_U2 sv sf v f x U 111 x.toNat)
/-- the reference's works, in its loop's terms -/
theorem rw_works {V Z : pm_M} {z a1 a2 a3 n sv sf tr : Int} (hn : V 90 16 = n) (hv : pm_mx 1 ((V 98 0 + V 100 (4 * (a1 / 100)).toNat) + (V 98 1 * (a2 / 10))) = sv) (hf : pm_mx 1 ((V 98 2 + V 100 ((4 * (a1 / 100)) + 1).toNat) + (V 98 3 * (a2 % 10))) = sf) (ht : pm_mx 0 (V 100 ((4 * (a1 / 100)) + 2).toNat - (if a3 < 0 then (-a3) / pm_mx 1 (V 90 20 / 2) else a3 / V 90 20)) = tr) (hZ : F_X12_works a1 a2 a3 V = (z, Z)) : ∃ (B : Int × pm_M → (Int × pm_M) ⊕ (Int × pm_M)), (∀ (x : Int) (U : pm_M), B (x, U) = if n ≤ x then .inr (0, U) else .inl (x + 1, wk_U3 sv sf ((a1 / 10) % 10) (a1 % 10) x U)) ∧ (z, Z) = pf_val ((0 : Int), V) B (0, pm_up (pm_up (pm_up (pm_up (pm_up (pm_up (pm_up (pm_up V 90 48 ((a1 / 10) % 10)) 90 49 (a1 % 10)) 90 42 sv) 90 43 sf) 90 47 tr) 90 44 0) 90 45 0) 90 46 0) := by
  have e := hZ.symm.trans (F_X12_works_eq a1 a2 a3 V)
  simp only [pf_let] at e
  have t0 : (0 : Int).toNat = 0 := rfl
  have t1 : (1 : Int).toNat = 1 := rfl
  have t2 : (2 : Int).toNat = 2 := rfl
  have t3 : (3 : Int).toNat = 3 := rfl
  rw [hn, t0, t1, t2, t3, hv, hf] at e
  by_cases c : a3 < 0
  · rw [if_pos c] at ht
    replace e := e.trans (if_pos c)
    rw [ht] at e
    obtain ⟨B, hB, e⟩ := pf_loop e
    refine ⟨B, fun x U => ?_, e⟩
    have q := congrFun hB (x, U)
    simp only [far_val, x_val, y_val, pf_let, pf_call] at q
    exact q
  · rw [if_neg c] at ht
    replace e := e.trans (if_neg c)
    rw [ht] at e
    obtain ⟨B, hB, e⟩ := pf_loop e
    refine ⟨B, fun x U => ?_, e⟩
    have q := congrFun hB (x, U)
    simp only [far_val, x_val, y_val, pf_let, pf_call] at q
    exact q
