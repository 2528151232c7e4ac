/-! small facts of numbers -/
theorem pm_mulb {x y b d m : Int} (hx : 0 ≤ x) (hy : 0 ≤ y) (hb : x ≤ b) (hd : y ≤ d) (hm : b * d = m) : 0 ≤ x * y ∧ x * y ≤ m := by
  subst hm
  exact ⟨Int.mul_nonneg hx hy, Int.mul_le_mul hb hd hy (Int.le_trans hx hb)⟩
theorem pm_mulg {x y a b c d lo hi : Int} (hx : a ≤ x ∧ x ≤ b) (hy : c ≤ y ∧ y ≤ d) (hlo : lo ≤ a * c ∧ lo ≤ a * d ∧ lo ≤ b * c ∧ lo ≤ b * d) (hhi : a * c ≤ hi ∧ a * d ≤ hi ∧ b * c ≤ hi ∧ b * d ≤ hi) : lo ≤ x * y ∧ x * y ≤ hi := by
  have k1 : ∀ t : Int, 0 ≤ t → a * t ≤ x * t ∧ x * t ≤ b * t := fun t ht => ⟨Int.mul_le_mul_of_nonneg_right hx.1 ht, Int.mul_le_mul_of_nonneg_right hx.2 ht⟩
  have k2 : ∀ t : Int, t ≤ 0 → b * t ≤ x * t ∧ x * t ≤ a * t := fun t ht => ⟨Int.mul_le_mul_of_nonpos_right hx.2 ht, Int.mul_le_mul_of_nonpos_right hx.1 ht⟩
  have k3 : ∀ t : Int, 0 ≤ t → t * c ≤ t * y ∧ t * y ≤ t * d := fun t ht => ⟨Int.mul_le_mul_of_nonneg_left hy.1 ht, Int.mul_le_mul_of_nonneg_left hy.2 ht⟩
  have k4 : ∀ t : Int, t ≤ 0 → t * d ≤ t * y ∧ t * y ≤ t * c := fun t ht => ⟨Int.mul_le_mul_of_nonpos_left ht hy.2, Int.mul_le_mul_of_nonpos_left ht hy.1⟩
  rcases Int.le_total 0 y with q | q
  · obtain ⟨r1, r2⟩ := k1 y q
    rcases Int.le_total 0 a with q2 | q2 <;> rcases Int.le_total 0 b with q3 | q3
    all_goals
      first
        | (have r3 := k3 a q2; have r4 := k3 b q3; omega)
        | (have r3 := k3 a q2; have r4 := k4 b q3; omega)
        | (have r3 := k4 a q2; have r4 := k3 b q3; omega)
        | (have r3 := k4 a q2; have r4 := k4 b q3; omega)
  · obtain ⟨r1, r2⟩ := k2 y q
    rcases Int.le_total 0 a with q2 | q2 <;> rcases Int.le_total 0 b with q3 | q3
    all_goals
      first
        | (have r3 := k3 a q2; have r4 := k3 b q3; omega)
        | (have r3 := k3 a q2; have r4 := k4 b q3; omega)
        | (have r3 := k4 a q2; have r4 := k3 b q3; omega)
        | (have r3 := k4 a q2; have r4 := k4 b q3; omega)
theorem pm_divb {x y : Int} (hx : 0 ≤ x) (hy : 0 < y) : 0 ≤ x / y ∧ x / y ≤ x := ⟨Int.ediv_nonneg hx (by omega), Int.ediv_le_self y hx⟩
theorem pm_modb {x y : Int} (hx : 0 ≤ x) (hy : 0 < y) : 0 ≤ x % y ∧ x % y < y ∧ x % y ≤ x := by
  have h1 := Int.emod_nonneg x (show y ≠ 0 by omega)
  have h2 := Int.emod_lt_of_pos x hy
  refine ⟨h1, h2, ?_⟩
  have h3 := Int.mul_ediv_add_emod x y
  have h4 := Int.ediv_nonneg hx (show 0 ≤ y by omega)
  have h5 := Int.mul_nonneg (show 0 ≤ y by omega) h4
  omega
theorem pm_i32r (x : Int32) : -2147483648 ≤ x.toInt ∧ x.toInt ≤ 2147483647 := ⟨Int32.le_toInt x, Int.le_of_lt_add_one (Int32.toInt_lt x)⟩
theorem pm_i64r (x : Int64) : -9223372036854775808 ≤ x.toInt ∧ x.toInt ≤ 9223372036854775807 := ⟨Int64.le_toInt x, Int.le_of_lt_add_one (Int64.toInt_lt x)⟩
theorem pm_iandr (x y : Int) : -2147483648 ≤ pm_iandV x y ∧ pm_iandV x y ≤ 2147483647 := pm_i32r _
theorem pm_ishlr (x y : Int) : -2147483648 ≤ pm_ishlV x y ∧ pm_ishlV x y ≤ 2147483647 := pm_i32r _
theorem pm_ishrr (x y : Int) : -2147483648 ≤ pm_ishrV x y ∧ pm_ishrV x y ≤ 2147483647 := pm_i32r _
theorem pm_iushrr (x y : Int) : -2147483648 ≤ pm_iushrV x y ∧ pm_iushrV x y ≤ 2147483647 := pm_i32r _
theorem pm_landr (x y : Int) : -9223372036854775808 ≤ pm_landV x y ∧ pm_landV x y ≤ 9223372036854775807 := pm_i64r _
theorem pm_lorr (x y : Int) : -9223372036854775808 ≤ pm_lorV x y ∧ pm_lorV x y ≤ 9223372036854775807 := pm_i64r _
theorem pm_lushrr (x y : Int) : -9223372036854775808 ≤ pm_lushrV x y ∧ pm_lushrV x y ≤ 9223372036854775807 := pm_i64r _
theorem pm_lshlr (x y : Int) : -9223372036854775808 ≤ pm_lshlV x y ∧ pm_lshlV x y ≤ 9223372036854775807 := pm_i64r _
theorem pm_bvand {w : Nat} (a b : BitVec w) (hb : 2 * b.toNat < 2 ^ w) : 0 ≤ (a &&& b).toInt ∧ (a &&& b).toInt ≤ b.toNat := by
  have h1 : (a &&& b).toNat ≤ b.toNat := by
    rw [BitVec.toNat_and]
    exact Nat.and_le_right
  have h2 : (a &&& b).toInt = ((a &&& b).toNat : Int) := BitVec.toInt_eq_toNat_of_lt (by omega)
  omega
theorem pm_iandb {x y : Int} (hy : 0 ≤ y ∧ y ≤ 2147483647) : 0 ≤ pm_iandV x y ∧ pm_iandV x y ≤ y := by
  have e1 : (Int32.ofInt y).toBitVec.toNat = y.toNat := by
    have h1 : (Int32.ofInt y).toInt = y := pm_toInt ⟨by omega, hy.2⟩
    have h2 : (Int32.ofInt y).toBitVec.toInt = y := h1
    rw [BitVec.toInt_eq_toNat_cond] at h2
    have := (Int32.ofInt y).toBitVec.isLt
    split at h2 <;> omega
  have h := pm_bvand (Int32.ofInt x).toBitVec (Int32.ofInt y).toBitVec (by rw [e1]; omega)
  have e2 : pm_iandV x y = ((Int32.ofInt x).toBitVec &&& (Int32.ofInt y).toBitVec).toInt := rfl
  rw [e2]
  omega
theorem pm_landb {x y : Int} (hy : 0 ≤ y ∧ y ≤ 9223372036854775807) : 0 ≤ pm_landV x y ∧ pm_landV x y ≤ y := by
  have e1 : (Int64.ofInt y).toBitVec.toNat = y.toNat := by
    have h1 : (Int64.ofInt y).toInt = y := pm_toIntL ⟨by omega, hy.2⟩
    have h2 : (Int64.ofInt y).toBitVec.toInt = y := h1
    rw [BitVec.toInt_eq_toNat_cond] at h2
    have := (Int64.ofInt y).toBitVec.isLt
    split at h2 <;> omega
  have h := pm_bvand (Int64.ofInt x).toBitVec (Int64.ofInt y).toBitVec (by rw [e1]; omega)
  have e2 : pm_landV x y = ((Int64.ofInt x).toBitVec &&& (Int64.ofInt y).toBitVec).toInt := rfl
  rw [e2]
  omega
theorem pm_bm8 (x : Int) : -128 ≤ x.bmod 256 ∧ x.bmod 256 ≤ 127 := by
  have h1 := Int.bmod_lt (x := x) (m := 256) (by decide)
  have h2 := Int.le_bmod (x := x) (m := 256) (by decide)
  omega
