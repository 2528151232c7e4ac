theorem fp_leadM {num den : Nat} (hn : 0 < num) (hd : 0 < den) : ∃ L : Int, FP.Core.leading num den = L ∧ ∀ M : Nat, 0 ≤ L + (M : Int) → den * 2 ^ (L + (M : Int)).toNat ≤ num * 2 ^ M ∧ num * 2 ^ M < den * 2 ^ (L + 1 + (M : Int)).toNat := by
  obtain ⟨L, e, h1, h2⟩ := fp_lead hn hd
  refine ⟨L, e, fun M hM => ?_⟩
  rcases Int.lt_or_le L 0 with q | q
  · obtain ⟨l, hl⟩ : ∃ l : Nat, L = -(l : Int) - 1 := ⟨(-L - 1).toNat, by omega⟩
    subst hl
    have a1 : (-(l : Int) - 1).toNat = 0 := by omega
    have a2 : (-(-(l : Int) - 1)).toNat = l + 1 := by omega
    have a3 : (-(-(l : Int) - 1 + 1)).toNat = l := by omega
    have a4 : (-(l : Int) - 1 + 1).toNat = 0 := by omega
    rw [a1, a2, Nat.pow_zero, Nat.mul_one] at h1
    rw [a3, a4, Nat.pow_zero, Nat.mul_one] at h2
    have b1 : (-(l : Int) - 1 + (M : Int)).toNat = M - (l + 1) := by omega
    have b2 : (-(l : Int) - 1 + 1 + (M : Int)).toNat = M - l := by omega
    rw [b1, b2]
    constructor
    · calc den * 2 ^ (M - (l + 1)) ≤ (num * 2 ^ (l + 1)) * 2 ^ (M - (l + 1)) := Nat.mul_le_mul_right _ h1
        _ = num * 2 ^ M := by rw [Nat.mul_assoc, ← Nat.pow_add]; congr 2; omega
    · calc num * 2 ^ M = (num * 2 ^ l) * 2 ^ (M - l) := by rw [Nat.mul_assoc, ← Nat.pow_add]; congr 2; omega
        _ < den * 2 ^ (M - l) := Nat.mul_lt_mul_of_pos_right h2 (Nat.two_pow_pos _)
  · obtain ⟨l, hl⟩ : ∃ l : Nat, L = (l : Int) := ⟨L.toNat, by omega⟩
    subst hl
    have a2 : (-(l : Int)).toNat = 0 := by omega
    have a3 : (-((l : Int) + 1)).toNat = 0 := by omega
    have a4 : ((l : Int) + 1).toNat = l + 1 := by omega
    rw [Int.toNat_natCast, a2, Nat.pow_zero, Nat.mul_one] at h1
    rw [a3, a4, Nat.pow_zero, Nat.mul_one] at h2
    have b1 : ((l : Int) + (M : Int)).toNat = l + M := by omega
    have b2 : ((l : Int) + 1 + (M : Int)).toNat = l + 1 + M := by omega
    rw [b1, b2, Nat.pow_add, Nat.pow_add 2 (l + 1) M, ← Nat.mul_assoc, ← Nat.mul_assoc]
    exact ⟨Nat.mul_le_mul_right _ h1, Nat.mul_lt_mul_of_pos_right h2 (Nat.two_pow_pos _)⟩
theorem fp_round {num den : Nat} {e L : Int} (hn : 0 < num) (hd : 0 < den) (hL : FP.Core.leading num den = L) (r1 : -1022 ≤ L + e) (r2 : L + e ≤ 1022) : ∃ (c : Nat) (q : Int), FP.Core.roundRatio FP.Core.b64 false num den e = .fin false c q ∧ 2 ^ 52 ≤ c ∧ c < 2 ^ 53 ∧ L + e - 52 ≤ q ∧ q ≤ L + e - 51 ∧ ∀ S : Nat, 0 ≤ e + (S : Int) → 0 ≤ L + e - 52 + (S : Int) → 2 ^ 53 * (c * 2 ^ (q + (S : Int)).toNat * den) ≤ num * 2 ^ (e + (S : Int)).toNat * (2 ^ 53 + 1) ∧ num * 2 ^ (e + (S : Int)).toNat * (2 ^ 53 - 1) ≤ 2 ^ 53 * (c * 2 ^ (q + (S : Int)).toNat * den) := by
  obtain ⟨L', e0, hM⟩ := fp_leadM hn hd
  rw [hL] at e0
  subst e0
  obtain ⟨uN, hN⟩ : ∃ uN, num * 2 ^ (52 - L).toNat = uN := ⟨_, rfl⟩
  obtain ⟨uD, hD⟩ : ∃ uD, den * 2 ^ (L - 52).toNat = uD := ⟨_, rfl⟩
  have hlo : 2 ^ 52 * uD ≤ uN ∧ uN < 2 ^ 53 * uD := by
    rw [← hN, ← hD]
    rcases Int.lt_or_le 52 L with q | q
    · have a := hM 0 (by omega)
      have e1 : (52 - L).toNat = 0 := by omega
      have e2 : (L + ((0 : Nat) : Int)).toNat = 52 + (L - 52).toNat := by omega
      have e3 : (L + 1 + ((0 : Nat) : Int)).toNat = 53 + (L - 52).toNat := by omega
      rw [e2, e3, Nat.pow_add, Nat.pow_add 2 53, Nat.mul_left_comm, Nat.mul_left_comm den] at a
      rw [e1]
      exact a
    · have a := hM (52 - L).toNat (by omega)
      have e1 : (L - 52).toNat = 0 := by omega
      have e2 : (L + ((52 - L).toNat : Int)).toNat = 52 := by omega
      have e3 : (L + 1 + ((52 - L).toNat : Int)).toNat = 53 := by omega
      rw [e2, e3] at a
      rw [e1, Nat.pow_zero, Nat.mul_one, Nat.mul_comm _ den, Nat.mul_comm _ den]
      exact a
  have hDp : 0 < uD := by rw [← hD]; exact Nat.mul_pos hd (Nat.two_pow_pos _)
  obtain ⟨N, hNr⟩ : ∃ N, FP.Core.nearest uN uD = N := ⟨_, rfl⟩
  have n1 : 2 ^ 52 ≤ N := by rw [← hNr]; exact fp_near_ge hDp hlo.1
  have n2 : N ≤ 2 ^ 53 := by rw [← hNr]; exact fp_near_le hDp (Nat.le_of_lt hlo.2)
  have n3 := fp_near (n := uN) hDp
  rw [hNr] at n3
  have hq : FP.Core.quantum FP.Core.b64 num den e = L + e - 52 := by
    unfold FP.Core.quantum
    rw [hL]
    have a : FP.Core.b64.qmin = -1074 := by decide
    have b : ((FP.Core.b64.p : Int) - 1) = 52 := by decide
    rw [a, b]
    omega
  have hr : FP.Core.roundRatio FP.Core.b64 false num den e = FP.Core.settle FP.Core.b64 false N (L + e - 52) := by
    unfold FP.Core.roundRatio FP.Core.roundAt FP.Core.unitsNum FP.Core.unitsDen
    rw [if_neg (by omega), hq, show e - (L + e - 52) = 52 - L by omega, show L + e - 52 - e = L - 52 by omega, hN, hD, hNr]
  -- the value in either case
  have val : ∃ (c : Nat) (q : Int), FP.Core.settle FP.Core.b64 false N (L + e - 52) = .fin false c q ∧ 2 ^ 52 ≤ c ∧ c < 2 ^ 53 ∧ L + e - 52 ≤ q ∧ q ≤ L + e - 51 ∧ ∀ S : Nat, 0 ≤ L + e - 52 + (S : Int) → c * 2 ^ (q + (S : Int)).toNat = N * 2 ^ (L + e - 52 + (S : Int)).toNat := by
    have p53 : FP.Core.b64.p = 53 := rfl
    have m971 : FP.Core.b64.qmax = 971 := by decide
    have t52 : FP.Core.b64.tails = 2 ^ 52 := by decide
    unfold FP.Core.settle FP.Core.bound
    rw [p53, m971, t52]
    by_cases c : N < 2 ^ 53
    · rw [if_pos c, if_pos (by omega)]
      exact ⟨N, _, rfl, n1, c, Int.le_refl _, by omega, fun S _ => rfl⟩
    · rw [if_neg c, if_pos (by omega)]
      refine ⟨2 ^ 52, _, rfl, Nat.le_refl _, by decide, by omega, by omega, fun S hS => ?_⟩
      have eN : N = 2 ^ 53 := by omega
      rw [eN, ← Nat.pow_add, ← Nat.pow_add]
      congr 1
      omega
  obtain ⟨c, q, v1, v2, v3, v4, v5, v6⟩ := val
  refine ⟨c, q, hr.trans v1, v2, v3, v4, v5, fun S s1 s2 => ?_⟩
  rw [v6 S s2]
  obtain ⟨T, t1, t2⟩ : ∃ T, num * 2 ^ (e + (S : Int)).toNat = uN * T ∧ 2 ^ (L + e - 52 + (S : Int)).toNat * den = uD * T := by
    rcases Int.lt_or_le 52 L with p | p
    · refine ⟨2 ^ (e + (S : Int)).toNat, ?_, ?_⟩
      · rw [← hN, show (52 - L).toNat = 0 by omega, Nat.pow_zero, Nat.mul_one]
      · rw [← hD, Nat.mul_comm _ den, Nat.mul_assoc, ← Nat.pow_add]
        congr 2
        omega
    · refine ⟨2 ^ (L + e - 52 + (S : Int)).toNat, ?_, ?_⟩
      · rw [← hN, Nat.mul_assoc, ← Nat.pow_add]
        congr 2
        omega
      · rw [← hD, show (L - 52).toNat = 0 by omega, Nat.pow_zero, Nat.mul_one, Nat.mul_comm]
  rw [Nat.mul_assoc N, t2, t1, ← Nat.mul_assoc N]
  have k1 : 2 ^ 53 * (N * uD) ≤ uN * (2 ^ 53 + 1) := by omega
  have k2 : uN * (2 ^ 53 - 1) ≤ 2 ^ 53 * (N * uD) := by omega
  constructor
  · calc 2 ^ 53 * (N * uD * T) = 2 ^ 53 * (N * uD) * T := (Nat.mul_assoc _ _ _).symm
      _ ≤ uN * (2 ^ 53 + 1) * T := Nat.mul_le_mul_right T k1
      _ = uN * T * (2 ^ 53 + 1) := Nat.mul_right_comm _ _ _
  · calc uN * T * (2 ^ 53 - 1) = uN * (2 ^ 53 - 1) * T := Nat.mul_right_comm _ _ _
      _ ≤ 2 ^ 53 * (N * uD) * T := Nat.mul_le_mul_right T k2
      _ = 2 ^ 53 * (N * uD * T) := Nat.mul_assoc _ _ _
