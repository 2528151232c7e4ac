/-- a positive number of 53 digits, in its encoding -/
theorem fp_enc {c : Nat} {q : Int} (h1 : 2 ^ 52 ≤ c) (h2 : c < 2 ^ 53) (h3 : -1074 ≤ q) (h4 : q ≤ 971) : FP.Core.encode FP.Core.b64 (.fin false c q) < 2 ^ 63 ∧ FP.Core.decode FP.Core.b64 (FP.Core.encode FP.Core.b64 (.fin false c q)) = .fin false c q := by
  have t52 : FP.Core.b64.tails = 4503599627370496 := by decide
  have x11 : FP.Core.b64.exps = 2048 := by decide
  have qm : FP.Core.b64.qmin = -1074 := by decide
  obtain ⟨E, hE⟩ : ∃ E : Nat, (q - FP.Core.b64.qmin).toNat + 1 = E := ⟨_, rfl⟩
  obtain ⟨T, hT⟩ : ∃ T : Nat, c - FP.Core.b64.tails = T := ⟨_, rfl⟩
  have hE1 : 1 ≤ E ∧ E ≤ 2046 ∧ (E : Int) = q + 1075 := by rw [qm] at hE; omega
  have hT1 : T < 4503599627370496 ∧ c = 4503599627370496 + T := by rw [t52] at hT; omega
  have e1 : FP.Core.encode FP.Core.b64 (.fin false c q) = E * 4503599627370496 + T := by
    unfold FP.Core.encode FP.Core.assemble
    dsimp only
    rw [if_neg (by rw [t52]; omega), hE, hT, t52]
    simp
  rw [e1]
  refine ⟨by omega, ?_⟩
  have d1 : (E * 4503599627370496 + T) / 4503599627370496 = E := by omega
  have d2 : (E * 4503599627370496 + T) % 4503599627370496 = T := by omega
  unfold FP.Core.decode FP.Core.fieldE FP.Core.fieldT FP.Core.fieldS
  rw [t52, x11, qm, d1, d2]
  have d3 : E % 2048 = E := by omega
  have d4 : E / 2048 = 0 := by omega
  rw [d3, d4, if_neg (by omega), if_neg (by omega)]
  have d5 : ((0 % 2 : Nat) == 1) = false := by decide
  rw [d5]
  have d6 : (4503599627370496 : Nat) + T = c := by omega
  have d7 : (-1074 : Int) + ((E : Int) - 1) = q := by omega
  rw [d6, d7]
