/-! DOUBLES: a rounded number is near -/
theorem fp_near {n d : Nat} (hd : 0 < d) : 2 * n ≤ 2 * (FP.Core.nearest n d * d) + d ∧ 2 * (FP.Core.nearest n d * d) ≤ 2 * n + d := by
  have e := Nat.div_add_mod n d
  have m := Nat.mod_lt n hd
  unfold FP.Core.nearest
  obtain ⟨q, hq⟩ : ∃ q, n / d = q := ⟨_, rfl⟩
  obtain ⟨r, hr⟩ : ∃ r, n % d = r := ⟨_, rfl⟩
  rw [hq, hr] at e
  rw [hr] at m
  rw [hq, hr]
  have c1 : d * q = q * d := Nat.mul_comm d q
  split
  · constructor <;> omega
  · split
    · have c2 : (q + 1) * d = q * d + d := by rw [Nat.add_mul, Nat.one_mul]
      constructor <;> omega
    · have h2 : q % 2 = 0 ∨ q % 2 = 1 := by omega
      rcases h2 with h2 | h2
      · rw [h2, Nat.add_zero]
        constructor <;> omega
      · have c2 : (q + 1) * d = q * d + d := by rw [Nat.add_mul, Nat.one_mul]
        rw [h2]
        constructor <;> omega
theorem fp_near_ge {n d k : Nat} (hd : 0 < d) (h : k * d ≤ n) : k ≤ FP.Core.nearest n d := by
  have h1 : k ≤ n / d := (Nat.le_div_iff_mul_le hd).mpr h
  unfold FP.Core.nearest
  split
  · exact h1
  · split <;> omega
theorem fp_near_le {n d k : Nat} (hd : 0 < d) (h : n ≤ k * d) : FP.Core.nearest n d ≤ k := by
  have a := (fp_near (n := n) hd).2
  rcases Nat.lt_or_ge k (FP.Core.nearest n d) with q | q
  · exfalso
    have b : (k + 1) * d ≤ FP.Core.nearest n d * d := Nat.mul_le_mul_right d q
    rw [Nat.add_mul, Nat.one_mul] at b
    have e : n = k * d ∨ n < k * d := by omega
    rcases e with e | e
    · have e1 : n / d = k := by rw [e]; exact Nat.mul_div_cancel k hd
      have e2 : n % d = 0 := by rw [e]; exact Nat.mul_mod_left k d
      have e3 : FP.Core.nearest n d = k := by
        unfold FP.Core.nearest
        rw [e2, e1, if_pos (by omega)]
      omega
    · omega
  · exact q
/-- the leading digit -/
theorem fp_lead {num den : Nat} (hn : 0 < num) (hd : 0 < den) : ∃ L : Int, FP.Core.leading num den = L ∧ den * 2 ^ L.toNat ≤ num * 2 ^ (-L).toNat ∧ num * 2 ^ (-(L + 1)).toNat < den * 2 ^ (L + 1).toNat := by
  have n1 : 2 ^ num.log2 ≤ num := Nat.log2_self_le (by omega)
  have n2 : num < 2 ^ (num.log2 + 1) := Nat.lt_log2_self
  have d1 : 2 ^ den.log2 ≤ den := Nat.log2_self_le (by omega)
  have d2 : den < 2 ^ (den.log2 + 1) := Nat.lt_log2_self
  obtain ⟨a, ha⟩ : ∃ a, num.log2 = a := ⟨_, rfl⟩
  obtain ⟨b, hb⟩ : ∃ b, den.log2 = b := ⟨_, rfl⟩
  rw [ha] at n1 n2
  rw [hb] at d1 d2
  unfold FP.Core.leading
  rw [ha, hb]
  dsimp only
  -- at k + 1 it is too great
  have up : num * 2 ^ (-((a : Int) - (b : Int) + 1)).toNat < den * 2 ^ ((a : Int) - (b : Int) + 1).toNat := by
    rcases Nat.lt_or_ge a b with q | q
    · have e1 : (-((a : Int) - (b : Int) + 1)).toNat = b - a - 1 := by omega
      have e2 : ((a : Int) - (b : Int) + 1).toNat = 0 := by omega
      rw [e1, e2, Nat.pow_zero, Nat.mul_one]
      calc num * 2 ^ (b - a - 1) < 2 ^ (a + 1) * 2 ^ (b - a - 1) := Nat.mul_lt_mul_of_pos_right n2 (Nat.two_pow_pos _)
        _ = 2 ^ b := by rw [← Nat.pow_add]; congr 1; omega
        _ ≤ den := d1
    · have e1 : (-((a : Int) - (b : Int) + 1)).toNat = 0 := by omega
      have e2 : ((a : Int) - (b : Int) + 1).toNat = a - b + 1 := by omega
      rw [e1, e2, Nat.pow_zero, Nat.mul_one]
      calc num < 2 ^ (a + 1) := n2
        _ = 2 ^ b * 2 ^ (a - b + 1) := by rw [← Nat.pow_add]; congr 1; omega
        _ ≤ den * 2 ^ (a - b + 1) := Nat.mul_le_mul_right _ d1
  -- at k - 1 it is not
  have dn : den * 2 ^ ((a : Int) - (b : Int) - 1).toNat ≤ num * 2 ^ (-((a : Int) - (b : Int) - 1)).toNat := by
    rcases Nat.lt_or_ge b a with q | q
    · have e1 : ((a : Int) - (b : Int) - 1).toNat = a - b - 1 := by omega
      have e2 : (-((a : Int) - (b : Int) - 1)).toNat = 0 := by omega
      rw [e1, e2, Nat.pow_zero, Nat.mul_one]
      calc den * 2 ^ (a - b - 1) ≤ 2 ^ (b + 1) * 2 ^ (a - b - 1) := Nat.mul_le_mul_right _ (Nat.le_of_lt d2)
        _ = 2 ^ a := by rw [← Nat.pow_add]; congr 1; omega
        _ ≤ num := n1
    · have e1 : ((a : Int) - (b : Int) - 1).toNat = 0 := by omega
      have e2 : (-((a : Int) - (b : Int) - 1)).toNat = b - a + 1 := by omega
      rw [e1, e2, Nat.pow_zero, Nat.mul_one]
      calc den ≤ 2 ^ (b + 1) := Nat.le_of_lt d2
        _ = 2 ^ a * 2 ^ (b - a + 1) := by rw [← Nat.pow_add]; congr 1; omega
        _ ≤ num * 2 ^ (b - a + 1) := Nat.mul_le_mul_right _ n1
  by_cases c : den * 2 ^ ((a : Int) - (b : Int)).toNat ≤ num * 2 ^ (-((a : Int) - (b : Int))).toNat
  · rw [if_pos c]
    exact ⟨_, rfl, c, up⟩
  · rw [if_neg c]
    refine ⟨_, rfl, dn, ?_⟩
    rw [show (a : Int) - (b : Int) - 1 + 1 = (a : Int) - (b : Int) by omega]
    omega
