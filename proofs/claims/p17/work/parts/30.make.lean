/-! THE CONSTRUCTORS, and the world that they leave -/
def pm_nth : List Int → Nat → Int
  | [], _ => 0
  | x :: _, 0 => x
  | _ :: l, i + 1 => pm_nth l i
def pm_ini (k : Nat) : List Int := match k with
  | 0 => [1, 69, 72, 4, 14, 73, 78, 83, 45, 51, 57, 63, 84, 87, 0, 0, 0]
  | 1 => [2, 0]
  | 3 => [1, 0, 0, 0, 0]
  | 4 => [0, 0, 5, 6, 7, 8, 0, 9, 10, 11, 12, 13]
  | 14 => [15, 25, 35]
  | 15 => [0, 0, 16, 17, 18, 19, 0, 20, 21, 22, 23, 24]
  | 25 => [0, 0, 26, 27, 28, 29, 0, 30, 31, 32, 33, 34]
  | 35 => [0, 0, 36, 37, 38, 39, 0, 40, 41, 42, 43, 44]
  | 45 => [0, 46, 47, 48, 0, 0, 0, 0, 0, 0, 0, 49, 50]
  | 51 => [0, 52, 53, 54, 0, 0, 0, 0, 0, 0, 0, 55, 56]
  | 57 => [0, 58, 59, 60, 61, 0, 62, 0]
  | 63 => [0, 64, 65, 66, 67, 0, 68, 0]
  | 69 => [3, 70, 71, 51, 0, 0, 0]
  | 72 => [3, 63]
  | 73 => [45, 0, 0, 0, 0, 1, 1, 0, 74, 75, 0, 0, 0, 76, 0, 77]
  | 78 => [79, 81]
  | 79 => [80, 0]
  | 81 => [82, 0]
  | 84 => [0, 85, 86]
  | 87 => [0, 88, 89]
  | 90 => [91, 0, 0, 0, 0, 0, 0, 92, 93, 94, 95, 0, 0, 0, 96, 0, 0, 97, 98, 0, 0, 0, 99, 0, 100, 0, 101, 102, 103, 104, 105, 106, 0, 0, 107, 0, 108, 0, 109, 0, 110, 111, 0, 0, 0, 0, 0, 0, 0, 0, 112, 0, 113, 114, 115, 116, 117, 0]
  | _ => []
def pm_v0 (k i : Nat) : Int := pm_nth (pm_ini k) i
def pm_wa (a b : Nat) (V : pm_M) : Prop := ∀ k, a ≤ k → k < b → ∀ i, i < pm_sz k → V k i = pm_v0 k i
theorem pm_wa.one {a : Nat} {V : pm_M} (h : ∀ i, i < pm_sz a → V a i = pm_v0 a i) : pm_wa a (a + 1) V := by
  intro k h1 h2
  have e : k = a := by omega
  subst e
  exact h
theorem pm_wa.app {a b c : Nat} {V : pm_M} (h : pm_wa a b V) (h' : pm_wa b c V) : pm_wa a c V := by
  intro k h1 h2
  by_cases hk : k < b
  · exact h k h1 hk
  · exact h' k (by omega) h2
theorem pm_up_k {V : pm_M} {a i k : Nat} {x : Int} (h : k ≠ a) : pm_up V a i x k = V k := by funext j; simp [pm_up, h]
theorem pm_clr_k {V : pm_M} {a k : Nat} {x : Nat → Int} (h : k ≠ a) : pm_clr V a x k = V k := by funext j; simp [pm_clr, h]
theorem pm_wa.up {a b k i : Nat} {V : pm_M} {x : Int} (h : pm_wa a b V) (hk : k < a ∨ b ≤ k) : pm_wa a b (pm_up V k i x) := by
  intro c h1 h2 j hj
  rw [pm_up_k (by omega)]
  exact h c h1 h2 j hj
theorem pm_wa.clr {a b k : Nat} {V : pm_M} {x : Nat → Int} (h : pm_wa a b V) (hk : k < a ∨ b ≤ k) : pm_wa a b (pm_clr V k x) := by
  intro c h1 h2 j hj
  rw [pm_clr_k (by omega)]
  exact h c h1 h2 j hj
theorem pm_wa.low {a b c : Nat} {V V' : pm_M} (h : pm_wa a b V) (hF : ∀ k, k < c → V' k = V k) (hb : b ≤ c) : pm_wa a b V' := by
  intro k h1 h2 i hi
  rw [hF k (by omega)]
  exact h k h1 h2 i hi
theorem pm_Rt.top {X : pm_X} {ret : Option FieldType} {n' : Nat} {P : Option pm_V → pm_M → Prop} (h : pm_Rt X ret n' P) : pm_top X = n' := by
  obtain ⟨p, l, e, R, s, m, args, below, meth, c, Q, G, nl, n0, n1⟩ := X
  exact h.2.2.1
theorem pm_ht0 : ∀ k, k < 3 → pm_ty 0 k ≠ .float ∧ pm_ty 0 k ≠ .double := by decide
theorem pm_ht1 : ∀ k, k < 2 → pm_ty 1 k ≠ .float ∧ pm_ty 1 k ≠ .double := by decide
theorem pm_ht2 : ∀ k, k < 8 → pm_ty 2 k ≠ .float ∧ pm_ty 2 k ≠ .double := by decide
theorem pm_ht3 : ∀ k, k < 2 → pm_ty 3 k ≠ .float ∧ pm_ty 3 k ≠ .double := by decide
theorem pm_ht4 : ∀ k, k < 2 → pm_ty 4 k ≠ .float ∧ pm_ty 4 k ≠ .double := by decide
theorem pm_ht5 : ∀ k, k < 13 → pm_ty 5 k ≠ .float ∧ pm_ty 5 k ≠ .double := by decide
theorem pm_ht6 : ∀ k, k < 7 → pm_ty 6 k ≠ .float ∧ pm_ty 6 k ≠ .double := by decide
theorem pm_ht7 : ∀ k, k < 12 → pm_ty 7 k ≠ .float ∧ pm_ty 7 k ≠ .double := by decide
theorem pm_ht8 : ∀ k, k < 2 → pm_ty 8 k ≠ .float ∧ pm_ty 8 k ≠ .double := by decide
theorem pm_ht9 : ∀ k, k < 5 → pm_ty 9 k ≠ .float ∧ pm_ty 9 k ≠ .double := by decide
theorem pm_ht10 : ∀ k, k < 16 → pm_ty 10 k ≠ .float ∧ pm_ty 10 k ≠ .double := by decide
theorem pm_ht11 : ∀ k, k < 17 → pm_ty 11 k ≠ .float ∧ pm_ty 11 k ≠ .double := by decide
theorem pm_ht12 : ∀ k, k < 58 → pm_ty 12 k ≠ .float ∧ pm_ty 12 k ≠ .double := by decide
theorem dX0_init_0 : decode cX0_init 0 = .ok (.aload_n 0, 1) := dk_42 (by decide +kernel)
theorem dX0_init_1 : decode cX0_init 1 = .ok (.invokespecial 3, 3) := dk_183 (u := 0) (v := 3) (by decide +kernel) (by decide)
theorem dX0_init_4 : decode cX0_init 4 = .ok (.aload_n 0, 1) := dk_42 (by decide +kernel)
theorem dX0_init_5 : decode cX0_init 5 = .ok (.iconst 0, 1) := dk_3 (by decide +kernel)
theorem dX0_init_6 : decode cX0_init 6 = .ok (.putfield 9, 3) := dk_181 (u := 0) (v := 9) (by decide +kernel) (by decide)
theorem dX0_init_9 : decode cX0_init 9 = .ok (.aload_n 0, 1) := dk_42 (by decide +kernel)
theorem dX0_init_10 : decode cX0_init 10 = .ok (.bipush 60, 2) := dk_16 (u := 60) (by decide +kernel) (by decide)
theorem dX0_init_12 : decode cX0_init 12 = .ok (.newarray .long, 2) := by decide +kernel
theorem dX0_init_14 : decode cX0_init 14 = .ok (.putfield 15, 3) := dk_181 (u := 0) (v := 15) (by decide +kernel) (by decide)
theorem dX0_init_17 : decode cX0_init 17 = .ok (.aload_n 0, 1) := dk_42 (by decide +kernel)
theorem dX0_init_18 : decode cX0_init 18 = .ok (.bipush 60, 2) := dk_16 (u := 60) (by decide +kernel) (by decide)
theorem dX0_init_20 : decode cX0_init 20 = .ok (.newarray .long, 2) := by decide +kernel
theorem dX0_init_22 : decode cX0_init 22 = .ok (.putfield 19, 3) := dk_181 (u := 0) (v := 19) (by decide +kernel) (by decide)
theorem dX0_init_25 : decode cX0_init 25 = .ok (.return_, 1) := dk_177 (by decide +kernel)
theorem dX1_init_0 : decode cX1_init 0 = .ok (.aload_n 0, 1) := dk_42 (by decide +kernel)
theorem dX1_init_1 : decode cX1_init 1 = .ok (.invokespecial 1, 3) := dk_183 (u := 0) (v := 1) (by decide +kernel) (by decide)
theorem dX1_init_4 : decode cX1_init 4 = .ok (.aload_n 0, 1) := dk_42 (by decide +kernel)
theorem dX1_init_5 : decode cX1_init 5 = .ok (.sipush 128, 3) := dk_17 (u := 0) (v := 128) (by decide +kernel) (by decide)
theorem dX1_init_8 : decode cX1_init 8 = .ok (.newarray .long, 2) := by decide +kernel
theorem dX1_init_10 : decode cX1_init 10 = .ok (.putfield 9, 3) := dk_181 (u := 0) (v := 9) (by decide +kernel) (by decide)
theorem dX1_init_13 : decode cX1_init 13 = .ok (.aload_n 0, 1) := dk_42 (by decide +kernel)
theorem dX1_init_14 : decode cX1_init 14 = .ok (.iconst 0, 1) := dk_3 (by decide +kernel)
theorem dX1_init_15 : decode cX1_init 15 = .ok (.putfield 13, 3) := dk_181 (u := 0) (v := 13) (by decide +kernel) (by decide)
theorem dX1_init_18 : decode cX1_init 18 = .ok (.return_, 1) := dk_177 (by decide +kernel)
theorem dX2_init_0 : decode cX2_init 0 = .ok (.aload_n 0, 1) := dk_42 (by decide +kernel)
theorem dX2_init_1 : decode cX2_init 1 = .ok (.invokespecial 3, 3) := dk_183 (u := 0) (v := 3) (by decide +kernel) (by decide)
theorem dX2_init_4 : decode cX2_init 4 = .ok (.aload_n 0, 1) := dk_42 (by decide +kernel)
theorem dX2_init_5 : decode cX2_init 5 = .ok (.iconst 0, 1) := dk_3 (by decide +kernel)
theorem dX2_init_6 : decode cX2_init 6 = .ok (.putfield 9, 3) := dk_181 (u := 0) (v := 9) (by decide +kernel) (by decide)
theorem dX2_init_9 : decode cX2_init 9 = .ok (.aload_n 0, 1) := dk_42 (by decide +kernel)
theorem dX2_init_10 : decode cX2_init 10 = .ok (.bipush 10, 2) := dk_16 (u := 10) (by decide +kernel) (by decide)
theorem dX2_init_12 : decode cX2_init 12 = .ok (.newarray .int, 2) := by decide +kernel
theorem dX2_init_14 : decode cX2_init 14 = .ok (.putfield 15, 3) := dk_181 (u := 0) (v := 15) (by decide +kernel) (by decide)
theorem dX2_init_17 : decode cX2_init 17 = .ok (.aload_n 0, 1) := dk_42 (by decide +kernel)
theorem dX2_init_18 : decode cX2_init 18 = .ok (.bipush 10, 2) := dk_16 (u := 10) (by decide +kernel) (by decide)
theorem dX2_init_20 : decode cX2_init 20 = .ok (.newarray .int, 2) := by decide +kernel
theorem dX2_init_22 : decode cX2_init 22 = .ok (.putfield 19, 3) := dk_181 (u := 0) (v := 19) (by decide +kernel) (by decide)
theorem dX2_init_25 : decode cX2_init 25 = .ok (.aload_n 0, 1) := dk_42 (by decide +kernel)
theorem dX2_init_26 : decode cX2_init 26 = .ok (.bipush 10, 2) := dk_16 (u := 10) (by decide +kernel) (by decide)
theorem dX2_init_28 : decode cX2_init 28 = .ok (.newarray .int, 2) := by decide +kernel
theorem dX2_init_30 : decode cX2_init 30 = .ok (.putfield 22, 3) := dk_181 (u := 0) (v := 22) (by decide +kernel) (by decide)
theorem dX2_init_33 : decode cX2_init 33 = .ok (.aload_n 0, 1) := dk_42 (by decide +kernel)
theorem dX2_init_34 : decode cX2_init 34 = .ok (.sipush 500, 3) := dk_17 (u := 1) (v := 244) (by decide +kernel) (by decide)
theorem dX2_init_37 : decode cX2_init 37 = .ok (.newarray .int, 2) := by decide +kernel
theorem dX2_init_39 : decode cX2_init 39 = .ok (.putfield 25, 3) := dk_181 (u := 0) (v := 25) (by decide +kernel) (by decide)
theorem dX2_init_42 : decode cX2_init 42 = .ok (.aload_n 0, 1) := dk_42 (by decide +kernel)
theorem dX2_init_43 : decode cX2_init 43 = .ok (.iconst 0, 1) := dk_3 (by decide +kernel)
theorem dX2_init_44 : decode cX2_init 44 = .ok (.putfield 28, 3) := dk_181 (u := 0) (v := 28) (by decide +kernel) (by decide)
theorem dX2_init_47 : decode cX2_init 47 = .ok (.aload_n 0, 1) := dk_42 (by decide +kernel)
theorem dX2_init_48 : decode cX2_init 48 = .ok (.bipush 64, 2) := dk_16 (u := 64) (by decide +kernel) (by decide)
theorem dX2_init_50 : decode cX2_init 50 = .ok (.newarray .long, 2) := by decide +kernel
theorem dX2_init_52 : decode cX2_init 52 = .ok (.putfield 31, 3) := dk_181 (u := 0) (v := 31) (by decide +kernel) (by decide)
theorem dX2_init_55 : decode cX2_init 55 = .ok (.aload_n 0, 1) := dk_42 (by decide +kernel)
theorem dX2_init_56 : decode cX2_init 56 = .ok (.iconst 0, 1) := dk_3 (by decide +kernel)
theorem dX2_init_57 : decode cX2_init 57 = .ok (.putfield 35, 3) := dk_181 (u := 0) (v := 35) (by decide +kernel) (by decide)
theorem dX2_init_60 : decode cX2_init 60 = .ok (.return_, 1) := dk_177 (by decide +kernel)
theorem dX3_init_0 : decode cX3_init 0 = .ok (.aload_n 0, 1) := dk_42 (by decide +kernel)
theorem dX3_init_1 : decode cX3_init 1 = .ok (.invokespecial 3, 3) := dk_183 (u := 0) (v := 3) (by decide +kernel) (by decide)
theorem dX3_init_4 : decode cX3_init 4 = .ok (.aload_n 0, 1) := dk_42 (by decide +kernel)
theorem dX3_init_5 : decode cX3_init 5 = .ok (.aload_n 1, 1) := dk_43 (by decide +kernel)
theorem dX3_init_6 : decode cX3_init 6 = .ok (.putfield 9, 3) := dk_181 (u := 0) (v := 9) (by decide +kernel) (by decide)
theorem dX3_init_9 : decode cX3_init 9 = .ok (.aload_n 0, 1) := dk_42 (by decide +kernel)
theorem dX3_init_10 : decode cX3_init 10 = .ok (.aload_n 2, 1) := dk_44 (by decide +kernel)
theorem dX3_init_11 : decode cX3_init 11 = .ok (.putfield 15, 3) := dk_181 (u := 0) (v := 15) (by decide +kernel) (by decide)
theorem dX3_init_14 : decode cX3_init 14 = .ok (.return_, 1) := dk_177 (by decide +kernel)
theorem dX4_init_0 : decode cX4_init 0 = .ok (.aload_n 0, 1) := dk_42 (by decide +kernel)
theorem dX4_init_1 : decode cX4_init 1 = .ok (.invokespecial 1, 3) := dk_183 (u := 0) (v := 1) (by decide +kernel) (by decide)
theorem dX4_init_4 : decode cX4_init 4 = .ok (.aload_n 0, 1) := dk_42 (by decide +kernel)
theorem dX4_init_5 : decode cX4_init 5 = .ok (.new 7, 3) := dk_187 (u := 0) (v := 7) (by decide +kernel) (by decide)
theorem dX4_init_8 : decode cX4_init 8 = .ok (.dup, 1) := dk_89 (by decide +kernel)
theorem dX4_init_9 : decode cX4_init 9 = .ok (.invokespecial 9, 3) := dk_183 (u := 0) (v := 9) (by decide +kernel) (by decide)
theorem dX4_init_12 : decode cX4_init 12 = .ok (.putfield 10, 3) := dk_181 (u := 0) (v := 10) (by decide +kernel) (by decide)
theorem dX4_init_15 : decode cX4_init 15 = .ok (.aload_n 0, 1) := dk_42 (by decide +kernel)
theorem dX4_init_16 : decode cX4_init 16 = .ok (.new 7, 3) := dk_187 (u := 0) (v := 7) (by decide +kernel) (by decide)
theorem dX4_init_19 : decode cX4_init 19 = .ok (.dup, 1) := dk_89 (by decide +kernel)
theorem dX4_init_20 : decode cX4_init 20 = .ok (.invokespecial 9, 3) := dk_183 (u := 0) (v := 9) (by decide +kernel) (by decide)
theorem dX4_init_23 : decode cX4_init 23 = .ok (.putfield 16, 3) := dk_181 (u := 0) (v := 16) (by decide +kernel) (by decide)
theorem dX4_init_26 : decode cX4_init 26 = .ok (.return_, 1) := dk_177 (by decide +kernel)
theorem dX5_init_0 : decode cX5_init 0 = .ok (.aload_n 0, 1) := dk_42 (by decide +kernel)
theorem dX5_init_1 : decode cX5_init 1 = .ok (.invokespecial 3, 3) := dk_183 (u := 0) (v := 3) (by decide +kernel) (by decide)
theorem dX5_init_4 : decode cX5_init 4 = .ok (.aload_n 0, 1) := dk_42 (by decide +kernel)
theorem dX5_init_5 : decode cX5_init 5 = .ok (.bipush 9, 2) := dk_16 (u := 9) (by decide +kernel) (by decide)
theorem dX5_init_7 : decode cX5_init 7 = .ok (.newarray .int, 2) := by decide +kernel
theorem dX5_init_9 : decode cX5_init 9 = .ok (.putfield 9, 3) := dk_181 (u := 0) (v := 9) (by decide +kernel) (by decide)
theorem dX5_init_12 : decode cX5_init 12 = .ok (.aload_n 0, 1) := dk_42 (by decide +kernel)
theorem dX5_init_13 : decode cX5_init 13 = .ok (.bipush 9, 2) := dk_16 (u := 9) (by decide +kernel) (by decide)
theorem dX5_init_15 : decode cX5_init 15 = .ok (.newarray .int, 2) := by decide +kernel
theorem dX5_init_17 : decode cX5_init 17 = .ok (.putfield 15, 3) := dk_181 (u := 0) (v := 15) (by decide +kernel) (by decide)
theorem dX5_init_20 : decode cX5_init 20 = .ok (.aload_n 0, 1) := dk_42 (by decide +kernel)
theorem dX5_init_21 : decode cX5_init 21 = .ok (.bipush 9, 2) := dk_16 (u := 9) (by decide +kernel) (by decide)
theorem dX5_init_23 : decode cX5_init 23 = .ok (.newarray .int, 2) := by decide +kernel
theorem dX5_init_25 : decode cX5_init 25 = .ok (.putfield 18, 3) := dk_181 (u := 0) (v := 18) (by decide +kernel) (by decide)
theorem dX5_init_28 : decode cX5_init 28 = .ok (.aload_n 0, 1) := dk_42 (by decide +kernel)
theorem dX5_init_29 : decode cX5_init 29 = .ok (.bipush 12, 2) := dk_16 (u := 12) (by decide +kernel) (by decide)
theorem dX5_init_31 : decode cX5_init 31 = .ok (.newarray .int, 2) := by decide +kernel
theorem dX5_init_33 : decode cX5_init 33 = .ok (.putfield 21, 3) := dk_181 (u := 0) (v := 21) (by decide +kernel) (by decide)
theorem dX5_init_36 : decode cX5_init 36 = .ok (.aload_n 0, 1) := dk_42 (by decide +kernel)
theorem dX5_init_37 : decode cX5_init 37 = .ok (.bipush 12, 2) := dk_16 (u := 12) (by decide +kernel) (by decide)
theorem dX5_init_39 : decode cX5_init 39 = .ok (.newarray .int, 2) := by decide +kernel
theorem dX5_init_41 : decode cX5_init 41 = .ok (.putfield 24, 3) := dk_181 (u := 0) (v := 24) (by decide +kernel) (by decide)
theorem dX5_init_44 : decode cX5_init 44 = .ok (.return_, 1) := dk_177 (by decide +kernel)
theorem dX6_init_0 : decode cX6_init 0 = .ok (.aload_n 0, 1) := dk_42 (by decide +kernel)
theorem dX6_init_1 : decode cX6_init 1 = .ok (.invokespecial 3, 3) := dk_183 (u := 0) (v := 3) (by decide +kernel) (by decide)
theorem dX6_init_4 : decode cX6_init 4 = .ok (.aload_n 0, 1) := dk_42 (by decide +kernel)
theorem dX6_init_5 : decode cX6_init 5 = .ok (.aload_n 1, 1) := dk_43 (by decide +kernel)
theorem dX6_init_6 : decode cX6_init 6 = .ok (.putfield 9, 3) := dk_181 (u := 0) (v := 9) (by decide +kernel) (by decide)
theorem dX6_init_9 : decode cX6_init 9 = .ok (.aload_n 0, 1) := dk_42 (by decide +kernel)
theorem dX6_init_10 : decode cX6_init 10 = .ok (.bipush 9, 2) := dk_16 (u := 9) (by decide +kernel) (by decide)
theorem dX6_init_12 : decode cX6_init 12 = .ok (.newarray .long, 2) := by decide +kernel
theorem dX6_init_14 : decode cX6_init 14 = .ok (.putfield 15, 3) := dk_181 (u := 0) (v := 15) (by decide +kernel) (by decide)
theorem dX6_init_17 : decode cX6_init 17 = .ok (.aload_n 0, 1) := dk_42 (by decide +kernel)
theorem dX6_init_18 : decode cX6_init 18 = .ok (.bipush 9, 2) := dk_16 (u := 9) (by decide +kernel) (by decide)
theorem dX6_init_20 : decode cX6_init 20 = .ok (.newarray .boolean, 2) := by decide +kernel
theorem dX6_init_22 : decode cX6_init 22 = .ok (.putfield 19, 3) := dk_181 (u := 0) (v := 19) (by decide +kernel) (by decide)
theorem dX6_init_25 : decode cX6_init 25 = .ok (.aload_n 0, 1) := dk_42 (by decide +kernel)
theorem dX6_init_26 : decode cX6_init 26 = .ok (.aload_n 2, 1) := dk_44 (by decide +kernel)
theorem dX6_init_27 : decode cX6_init 27 = .ok (.putfield 23, 3) := dk_181 (u := 0) (v := 23) (by decide +kernel) (by decide)
theorem dX6_init_30 : decode cX6_init 30 = .ok (.aload_n 0, 1) := dk_42 (by decide +kernel)
theorem dX6_init_31 : decode cX6_init 31 = .ok (.iconst 0, 1) := dk_3 (by decide +kernel)
theorem dX6_init_32 : decode cX6_init 32 = .ok (.putfield 27, 3) := dk_181 (u := 0) (v := 27) (by decide +kernel) (by decide)
theorem dX6_init_35 : decode cX6_init 35 = .ok (.aload_n 0, 1) := dk_42 (by decide +kernel)
theorem dX6_init_36 : decode cX6_init 36 = .ok (.iconst 0, 1) := dk_3 (by decide +kernel)
theorem dX6_init_37 : decode cX6_init 37 = .ok (.putfield 31, 3) := dk_181 (u := 0) (v := 31) (by decide +kernel) (by decide)
theorem dX6_init_40 : decode cX6_init 40 = .ok (.aload_n 0, 1) := dk_42 (by decide +kernel)
theorem dX6_init_41 : decode cX6_init 41 = .ok (.iconst 0, 1) := dk_3 (by decide +kernel)
theorem dX6_init_42 : decode cX6_init 42 = .ok (.putfield 35, 3) := dk_181 (u := 0) (v := 35) (by decide +kernel) (by decide)
theorem dX6_init_45 : decode cX6_init 45 = .ok (.return_, 1) := dk_177 (by decide +kernel)
theorem dX7_init_0 : decode cX7_init 0 = .ok (.aload_n 0, 1) := dk_42 (by decide +kernel)
theorem dX7_init_1 : decode cX7_init 1 = .ok (.invokespecial 3, 3) := dk_183 (u := 0) (v := 3) (by decide +kernel) (by decide)
theorem dX7_init_4 : decode cX7_init 4 = .ok (.aload_n 0, 1) := dk_42 (by decide +kernel)
theorem dX7_init_5 : decode cX7_init 5 = .ok (.iconst 0, 1) := dk_3 (by decide +kernel)
theorem dX7_init_6 : decode cX7_init 6 = .ok (.putfield 9, 3) := dk_181 (u := 0) (v := 9) (by decide +kernel) (by decide)
theorem dX7_init_9 : decode cX7_init 9 = .ok (.aload_n 0, 1) := dk_42 (by decide +kernel)
theorem dX7_init_10 : decode cX7_init 10 = .ok (.iconst 0, 1) := dk_3 (by decide +kernel)
theorem dX7_init_11 : decode cX7_init 11 = .ok (.putfield 15, 3) := dk_181 (u := 0) (v := 15) (by decide +kernel) (by decide)
theorem dX7_init_14 : decode cX7_init 14 = .ok (.aload_n 0, 1) := dk_42 (by decide +kernel)
theorem dX7_init_15 : decode cX7_init 15 = .ok (.bipush 10, 2) := dk_16 (u := 10) (by decide +kernel) (by decide)
theorem dX7_init_17 : decode cX7_init 17 = .ok (.newarray .int, 2) := by decide +kernel
theorem dX7_init_19 : decode cX7_init 19 = .ok (.putfield 19, 3) := dk_181 (u := 0) (v := 19) (by decide +kernel) (by decide)
theorem dX7_init_22 : decode cX7_init 22 = .ok (.aload_n 0, 1) := dk_42 (by decide +kernel)
theorem dX7_init_23 : decode cX7_init 23 = .ok (.bipush 10, 2) := dk_16 (u := 10) (by decide +kernel) (by decide)
theorem dX7_init_25 : decode cX7_init 25 = .ok (.newarray .int, 2) := by decide +kernel
theorem dX7_init_27 : decode cX7_init 27 = .ok (.putfield 23, 3) := dk_181 (u := 0) (v := 23) (by decide +kernel) (by decide)
theorem dX7_init_30 : decode cX7_init 30 = .ok (.aload_n 0, 1) := dk_42 (by decide +kernel)
theorem dX7_init_31 : decode cX7_init 31 = .ok (.bipush 10, 2) := dk_16 (u := 10) (by decide +kernel) (by decide)
theorem dX7_init_33 : decode cX7_init 33 = .ok (.newarray .int, 2) := by decide +kernel
theorem dX7_init_35 : decode cX7_init 35 = .ok (.putfield 26, 3) := dk_181 (u := 0) (v := 26) (by decide +kernel) (by decide)
theorem dX7_init_38 : decode cX7_init 38 = .ok (.aload_n 0, 1) := dk_42 (by decide +kernel)
theorem dX7_init_39 : decode cX7_init 39 = .ok (.bipush 10, 2) := dk_16 (u := 10) (by decide +kernel) (by decide)
theorem dX7_init_41 : decode cX7_init 41 = .ok (.newarray .int, 2) := by decide +kernel
theorem dX7_init_43 : decode cX7_init 43 = .ok (.putfield 29, 3) := dk_181 (u := 0) (v := 29) (by decide +kernel) (by decide)
theorem dX7_init_46 : decode cX7_init 46 = .ok (.aload_n 0, 1) := dk_42 (by decide +kernel)
theorem dX7_init_47 : decode cX7_init 47 = .ok (.iconst 0, 1) := dk_3 (by decide +kernel)
theorem dX7_init_48 : decode cX7_init 48 = .ok (.putfield 32, 3) := dk_181 (u := 0) (v := 32) (by decide +kernel) (by decide)
theorem dX7_init_51 : decode cX7_init 51 = .ok (.aload_n 0, 1) := dk_42 (by decide +kernel)
theorem dX7_init_52 : decode cX7_init 52 = .ok (.bipush 60, 2) := dk_16 (u := 60) (by decide +kernel) (by decide)
theorem dX7_init_54 : decode cX7_init 54 = .ok (.newarray .int, 2) := by decide +kernel
theorem dX7_init_56 : decode cX7_init 56 = .ok (.putfield 35, 3) := dk_181 (u := 0) (v := 35) (by decide +kernel) (by decide)
theorem dX7_init_59 : decode cX7_init 59 = .ok (.aload_n 0, 1) := dk_42 (by decide +kernel)
theorem dX7_init_60 : decode cX7_init 60 = .ok (.bipush 60, 2) := dk_16 (u := 60) (by decide +kernel) (by decide)
theorem dX7_init_62 : decode cX7_init 62 = .ok (.newarray .int, 2) := by decide +kernel
theorem dX7_init_64 : decode cX7_init 64 = .ok (.putfield 38, 3) := dk_181 (u := 0) (v := 38) (by decide +kernel) (by decide)
theorem dX7_init_67 : decode cX7_init 67 = .ok (.aload_n 0, 1) := dk_42 (by decide +kernel)
theorem dX7_init_68 : decode cX7_init 68 = .ok (.bipush 60, 2) := dk_16 (u := 60) (by decide +kernel) (by decide)
theorem dX7_init_70 : decode cX7_init 70 = .ok (.newarray .int, 2) := by decide +kernel
theorem dX7_init_72 : decode cX7_init 72 = .ok (.putfield 41, 3) := dk_181 (u := 0) (v := 41) (by decide +kernel) (by decide)
theorem dX7_init_75 : decode cX7_init 75 = .ok (.aload_n 0, 1) := dk_42 (by decide +kernel)
theorem dX7_init_76 : decode cX7_init 76 = .ok (.bipush 60, 2) := dk_16 (u := 60) (by decide +kernel) (by decide)
theorem dX7_init_78 : decode cX7_init 78 = .ok (.newarray .int, 2) := by decide +kernel
theorem dX7_init_80 : decode cX7_init 80 = .ok (.putfield 44, 3) := dk_181 (u := 0) (v := 44) (by decide +kernel) (by decide)
theorem dX7_init_83 : decode cX7_init 83 = .ok (.aload_n 0, 1) := dk_42 (by decide +kernel)
theorem dX7_init_84 : decode cX7_init 84 = .ok (.bipush 60, 2) := dk_16 (u := 60) (by decide +kernel) (by decide)
theorem dX7_init_86 : decode cX7_init 86 = .ok (.newarray .boolean, 2) := by decide +kernel
theorem dX7_init_88 : decode cX7_init 88 = .ok (.putfield 47, 3) := dk_181 (u := 0) (v := 47) (by decide +kernel) (by decide)
theorem dX7_init_91 : decode cX7_init 91 = .ok (.return_, 1) := dk_177 (by decide +kernel)
theorem dX8_init_0 : decode cX8_init 0 = .ok (.aload_n 0, 1) := dk_42 (by decide +kernel)
theorem dX8_init_1 : decode cX8_init 1 = .ok (.invokespecial 3, 3) := dk_183 (u := 0) (v := 3) (by decide +kernel) (by decide)
theorem dX8_init_4 : decode cX8_init 4 = .ok (.aload_n 0, 1) := dk_42 (by decide +kernel)
theorem dX8_init_5 : decode cX8_init 5 = .ok (.sipush 500, 3) := dk_17 (u := 1) (v := 244) (by decide +kernel) (by decide)
theorem dX8_init_8 : decode cX8_init 8 = .ok (.newarray .int, 2) := by decide +kernel
theorem dX8_init_10 : decode cX8_init 10 = .ok (.putfield 9, 3) := dk_181 (u := 0) (v := 9) (by decide +kernel) (by decide)
theorem dX8_init_13 : decode cX8_init 13 = .ok (.aload_n 0, 1) := dk_42 (by decide +kernel)
theorem dX8_init_14 : decode cX8_init 14 = .ok (.iconst 0, 1) := dk_3 (by decide +kernel)
theorem dX8_init_15 : decode cX8_init 15 = .ok (.putfield 15, 3) := dk_181 (u := 0) (v := 15) (by decide +kernel) (by decide)
theorem dX8_init_18 : decode cX8_init 18 = .ok (.return_, 1) := dk_177 (by decide +kernel)
theorem dX9_init_0 : decode cX9_init 0 = .ok (.aload_n 0, 1) := dk_42 (by decide +kernel)
theorem dX9_init_1 : decode cX9_init 1 = .ok (.invokespecial 1, 3) := dk_183 (u := 0) (v := 1) (by decide +kernel) (by decide)
theorem dX9_init_4 : decode cX9_init 4 = .ok (.aload_n 0, 1) := dk_42 (by decide +kernel)
theorem dX9_init_5 : decode cX9_init 5 = .ok (.aload_n 1, 1) := dk_43 (by decide +kernel)
theorem dX9_init_6 : decode cX9_init 6 = .ok (.putfield 7, 3) := dk_181 (u := 0) (v := 7) (by decide +kernel) (by decide)
theorem dX9_init_9 : decode cX9_init 9 = .ok (.aload_n 0, 1) := dk_42 (by decide +kernel)
theorem dX9_init_10 : decode cX9_init 10 = .ok (.iconst 0, 1) := dk_3 (by decide +kernel)
theorem dX9_init_11 : decode cX9_init 11 = .ok (.putfield 13, 3) := dk_181 (u := 0) (v := 13) (by decide +kernel) (by decide)
theorem dX9_init_14 : decode cX9_init 14 = .ok (.aload_n 0, 1) := dk_42 (by decide +kernel)
theorem dX9_init_15 : decode cX9_init 15 = .ok (.iconst 0, 1) := dk_3 (by decide +kernel)
theorem dX9_init_16 : decode cX9_init 16 = .ok (.putfield 17, 3) := dk_181 (u := 0) (v := 17) (by decide +kernel) (by decide)
theorem dX9_init_19 : decode cX9_init 19 = .ok (.aload_n 0, 1) := dk_42 (by decide +kernel)
theorem dX9_init_20 : decode cX9_init 20 = .ok (.lconst 0, 1) := dk_9 (by decide +kernel)
theorem dX9_init_21 : decode cX9_init 21 = .ok (.putfield 20, 3) := dk_181 (u := 0) (v := 20) (by decide +kernel) (by decide)
theorem dX9_init_24 : decode cX9_init 24 = .ok (.aload_n 0, 1) := dk_42 (by decide +kernel)
theorem dX9_init_25 : decode cX9_init 25 = .ok (.iconst 0, 1) := dk_3 (by decide +kernel)
theorem dX9_init_26 : decode cX9_init 26 = .ok (.putfield 24, 3) := dk_181 (u := 0) (v := 24) (by decide +kernel) (by decide)
theorem dX9_init_29 : decode cX9_init 29 = .ok (.return_, 1) := dk_177 (by decide +kernel)
theorem dX10_init_0 : decode cX10_init 0 = .ok (.aload_n 0, 1) := dk_42 (by decide +kernel)
theorem dX10_init_1 : decode cX10_init 1 = .ok (.invokespecial 3, 3) := dk_183 (u := 0) (v := 3) (by decide +kernel) (by decide)
theorem dX10_init_4 : decode cX10_init 4 = .ok (.aload_n 0, 1) := dk_42 (by decide +kernel)
theorem dX10_init_5 : decode cX10_init 5 = .ok (.iconst 0, 1) := dk_3 (by decide +kernel)
theorem dX10_init_6 : decode cX10_init 6 = .ok (.putfield 9, 3) := dk_181 (u := 0) (v := 9) (by decide +kernel) (by decide)
theorem dX10_init_9 : decode cX10_init 9 = .ok (.aload_n 0, 1) := dk_42 (by decide +kernel)
theorem dX10_init_10 : decode cX10_init 10 = .ok (.iconst 0, 1) := dk_3 (by decide +kernel)
theorem dX10_init_11 : decode cX10_init 11 = .ok (.putfield 15, 3) := dk_181 (u := 0) (v := 15) (by decide +kernel) (by decide)
theorem dX10_init_14 : decode cX10_init 14 = .ok (.aload_n 0, 1) := dk_42 (by decide +kernel)
theorem dX10_init_15 : decode cX10_init 15 = .ok (.iconst 0, 1) := dk_3 (by decide +kernel)
theorem dX10_init_16 : decode cX10_init 16 = .ok (.putfield 18, 3) := dk_181 (u := 0) (v := 18) (by decide +kernel) (by decide)
theorem dX10_init_19 : decode cX10_init 19 = .ok (.aload_n 0, 1) := dk_42 (by decide +kernel)
theorem dX10_init_20 : decode cX10_init 20 = .ok (.iconst 0, 1) := dk_3 (by decide +kernel)
theorem dX10_init_21 : decode cX10_init 21 = .ok (.putfield 21, 3) := dk_181 (u := 0) (v := 21) (by decide +kernel) (by decide)
theorem dX10_init_24 : decode cX10_init 24 = .ok (.aload_n 0, 1) := dk_42 (by decide +kernel)
theorem dX10_init_25 : decode cX10_init 25 = .ok (.iconst 1, 1) := dk_4 (by decide +kernel)
theorem dX10_init_26 : decode cX10_init 26 = .ok (.putfield 24, 3) := dk_181 (u := 0) (v := 24) (by decide +kernel) (by decide)
theorem dX10_init_29 : decode cX10_init 29 = .ok (.aload_n 0, 1) := dk_42 (by decide +kernel)
theorem dX10_init_30 : decode cX10_init 30 = .ok (.iconst 1, 1) := dk_4 (by decide +kernel)
theorem dX10_init_31 : decode cX10_init 31 = .ok (.putfield 27, 3) := dk_181 (u := 0) (v := 27) (by decide +kernel) (by decide)
theorem dX10_init_34 : decode cX10_init 34 = .ok (.aload_n 0, 1) := dk_42 (by decide +kernel)
theorem dX10_init_35 : decode cX10_init 35 = .ok (.lconst 0, 1) := dk_9 (by decide +kernel)
theorem dX10_init_36 : decode cX10_init 36 = .ok (.putfield 30, 3) := dk_181 (u := 0) (v := 30) (by decide +kernel) (by decide)
theorem dX10_init_39 : decode cX10_init 39 = .ok (.aload_n 0, 1) := dk_42 (by decide +kernel)
theorem dX10_init_40 : decode cX10_init 40 = .ok (.bipush 9, 2) := dk_16 (u := 9) (by decide +kernel) (by decide)
theorem dX10_init_42 : decode cX10_init 42 = .ok (.newarray .long, 2) := by decide +kernel
theorem dX10_init_44 : decode cX10_init 44 = .ok (.putfield 34, 3) := dk_181 (u := 0) (v := 34) (by decide +kernel) (by decide)
theorem dX10_init_47 : decode cX10_init 47 = .ok (.aload_n 0, 1) := dk_42 (by decide +kernel)
theorem dX10_init_48 : decode cX10_init 48 = .ok (.bipush 9, 2) := dk_16 (u := 9) (by decide +kernel) (by decide)
theorem dX10_init_50 : decode cX10_init 50 = .ok (.newarray .long, 2) := by decide +kernel
theorem dX10_init_52 : decode cX10_init 52 = .ok (.putfield 38, 3) := dk_181 (u := 0) (v := 38) (by decide +kernel) (by decide)
theorem dX10_init_55 : decode cX10_init 55 = .ok (.aload_n 0, 1) := dk_42 (by decide +kernel)
theorem dX10_init_56 : decode cX10_init 56 = .ok (.lconst 0, 1) := dk_9 (by decide +kernel)
theorem dX10_init_57 : decode cX10_init 57 = .ok (.putfield 41, 3) := dk_181 (u := 0) (v := 41) (by decide +kernel) (by decide)
theorem dX10_init_60 : decode cX10_init 60 = .ok (.aload_n 0, 1) := dk_42 (by decide +kernel)
theorem dX10_init_61 : decode cX10_init 61 = .ok (.lconst 0, 1) := dk_9 (by decide +kernel)
theorem dX10_init_62 : decode cX10_init 62 = .ok (.putfield 44, 3) := dk_181 (u := 0) (v := 44) (by decide +kernel) (by decide)
theorem dX10_init_65 : decode cX10_init 65 = .ok (.aload_n 0, 1) := dk_42 (by decide +kernel)
theorem dX10_init_66 : decode cX10_init 66 = .ok (.lconst 0, 1) := dk_9 (by decide +kernel)
theorem dX10_init_67 : decode cX10_init 67 = .ok (.putfield 47, 3) := dk_181 (u := 0) (v := 47) (by decide +kernel) (by decide)
theorem dX10_init_70 : decode cX10_init 70 = .ok (.aload_n 0, 1) := dk_42 (by decide +kernel)
theorem dX10_init_71 : decode cX10_init 71 = .ok (.bipush 9, 2) := dk_16 (u := 9) (by decide +kernel) (by decide)
theorem dX10_init_73 : decode cX10_init 73 = .ok (.newarray .long, 2) := by decide +kernel
theorem dX10_init_75 : decode cX10_init 75 = .ok (.putfield 50, 3) := dk_181 (u := 0) (v := 50) (by decide +kernel) (by decide)
theorem dX10_init_78 : decode cX10_init 78 = .ok (.aload_n 0, 1) := dk_42 (by decide +kernel)
theorem dX10_init_79 : decode cX10_init 79 = .ok (.lconst 0, 1) := dk_9 (by decide +kernel)
theorem dX10_init_80 : decode cX10_init 80 = .ok (.putfield 53, 3) := dk_181 (u := 0) (v := 53) (by decide +kernel) (by decide)
theorem dX10_init_83 : decode cX10_init 83 = .ok (.aload_n 0, 1) := dk_42 (by decide +kernel)
theorem dX10_init_84 : decode cX10_init 84 = .ok (.bipush 9, 2) := dk_16 (u := 9) (by decide +kernel) (by decide)
theorem dX10_init_86 : decode cX10_init 86 = .ok (.newarray .long, 2) := by decide +kernel
theorem dX10_init_88 : decode cX10_init 88 = .ok (.putfield 56, 3) := dk_181 (u := 0) (v := 56) (by decide +kernel) (by decide)
theorem dX10_init_91 : decode cX10_init 91 = .ok (.aload_n 0, 1) := dk_42 (by decide +kernel)
theorem dX10_init_92 : decode cX10_init 92 = .ok (.aload_n 1, 1) := dk_43 (by decide +kernel)
theorem dX10_init_93 : decode cX10_init 93 = .ok (.putfield 59, 3) := dk_181 (u := 0) (v := 59) (by decide +kernel) (by decide)
theorem dX10_init_96 : decode cX10_init 96 = .ok (.return_, 1) := dk_177 (by decide +kernel)
theorem dX11_init_0 : decode cX11_init 0 = .ok (.aload_n 0, 1) := dk_42 (by decide +kernel)
theorem dX11_init_1 : decode cX11_init 1 = .ok (.invokespecial 1, 3) := dk_183 (u := 0) (v := 1) (by decide +kernel) (by decide)
theorem dX11_init_4 : decode cX11_init 4 = .ok (.aload_n 0, 1) := dk_42 (by decide +kernel)
theorem dX11_init_5 : decode cX11_init 5 = .ok (.new 7, 3) := dk_187 (u := 0) (v := 7) (by decide +kernel) (by decide)
theorem dX11_init_8 : decode cX11_init 8 = .ok (.dup, 1) := dk_89 (by decide +kernel)
theorem dX11_init_9 : decode cX11_init 9 = .ok (.invokespecial 9, 3) := dk_183 (u := 0) (v := 9) (by decide +kernel) (by decide)
theorem dX11_init_12 : decode cX11_init 12 = .ok (.putfield 10, 3) := dk_181 (u := 0) (v := 10) (by decide +kernel) (by decide)
theorem dX11_init_15 : decode cX11_init 15 = .ok (.new 16, 3) := dk_187 (u := 0) (v := 16) (by decide +kernel) (by decide)
theorem dX11_init_18 : decode cX11_init 18 = .ok (.dup, 1) := dk_89 (by decide +kernel)
theorem dX11_init_19 : decode cX11_init 19 = .ok (.aload_n 0, 1) := dk_42 (by decide +kernel)
theorem dX11_init_20 : decode cX11_init 20 = .ok (.getfield 10, 3) := dk_180 (u := 0) (v := 10) (by decide +kernel) (by decide)
theorem dX11_init_23 : decode cX11_init 23 = .ok (.invokespecial 18, 3) := dk_183 (u := 0) (v := 18) (by decide +kernel) (by decide)
theorem dX11_init_26 : decode cX11_init 26 = .ok (.astore_n 1, 1) := dk_76 (by decide +kernel)
theorem dX11_init_27 : decode cX11_init 27 = .ok (.aload_n 0, 1) := dk_42 (by decide +kernel)
theorem dX11_init_28 : decode cX11_init 28 = .ok (.new 21, 3) := dk_187 (u := 0) (v := 21) (by decide +kernel) (by decide)
theorem dX11_init_31 : decode cX11_init 31 = .ok (.dup, 1) := dk_89 (by decide +kernel)
theorem dX11_init_32 : decode cX11_init 32 = .ok (.invokespecial 23, 3) := dk_183 (u := 0) (v := 23) (by decide +kernel) (by decide)
theorem dX11_init_35 : decode cX11_init 35 = .ok (.putfield 24, 3) := dk_181 (u := 0) (v := 24) (by decide +kernel) (by decide)
theorem dX11_init_38 : decode cX11_init 38 = .ok (.aload_n 0, 1) := dk_42 (by decide +kernel)
theorem dX11_init_39 : decode cX11_init 39 = .ok (.iconst 3, 1) := dk_6 (by decide +kernel)
theorem dX11_init_40 : decode cX11_init 40 = .ok (.anewarray 21, 3) := dk_189 (u := 0) (v := 21) (by decide +kernel) (by decide)
theorem dX11_init_43 : decode cX11_init 43 = .ok (.putfield 28, 3) := dk_181 (u := 0) (v := 28) (by decide +kernel) (by decide)
theorem dX11_init_46 : decode cX11_init 46 = .ok (.iconst 0, 1) := dk_3 (by decide +kernel)
theorem dX11_init_47 : decode cX11_init 47 = .ok (.istore_n 2, 1) := dk_61 (by decide +kernel)
theorem dX11_init_48 : decode cX11_init 48 = .ok (.iload_n 2, 1) := dk_28 (by decide +kernel)
theorem dX11_init_49 : decode cX11_init 49 = .ok (.iconst 3, 1) := dk_6 (by decide +kernel)
theorem dX11_init_50 : decode cX11_init 50 = .ok (.if_icmp .ge 22, 3) := dk_162 (u := 0) (v := 22) (by decide +kernel) (by decide)
theorem dX11_init_53 : decode cX11_init 53 = .ok (.aload_n 0, 1) := dk_42 (by decide +kernel)
theorem dX11_init_54 : decode cX11_init 54 = .ok (.getfield 28, 3) := dk_180 (u := 0) (v := 28) (by decide +kernel) (by decide)
theorem dX11_init_57 : decode cX11_init 57 = .ok (.iload_n 2, 1) := dk_28 (by decide +kernel)
theorem dX11_init_58 : decode cX11_init 58 = .ok (.new 21, 3) := dk_187 (u := 0) (v := 21) (by decide +kernel) (by decide)
theorem dX11_init_61 : decode cX11_init 61 = .ok (.dup, 1) := dk_89 (by decide +kernel)
theorem dX11_init_62 : decode cX11_init 62 = .ok (.invokespecial 23, 3) := dk_183 (u := 0) (v := 23) (by decide +kernel) (by decide)
theorem dX11_init_65 : decode cX11_init 65 = .ok (.aastore, 1) := dk_83 (by decide +kernel)
theorem dX11_init_66 : decode cX11_init 66 = .ok (.iinc 2 1, 3) := dk_132 (u := 2) (v := 1) (by decide +kernel) (by decide) (by decide)
theorem dX11_init_69 : decode cX11_init 69 = .ok (.goto (-21), 3) := dk_167 (u := 255) (v := 235) (by decide +kernel) (by decide)
theorem dX11_init_72 : decode cX11_init 72 = .ok (.aload_n 0, 1) := dk_42 (by decide +kernel)
theorem dX11_init_73 : decode cX11_init 73 = .ok (.new 32, 3) := dk_187 (u := 0) (v := 32) (by decide +kernel) (by decide)
theorem dX11_init_76 : decode cX11_init 76 = .ok (.dup, 1) := dk_89 (by decide +kernel)
theorem dX11_init_77 : decode cX11_init 77 = .ok (.invokespecial 34, 3) := dk_183 (u := 0) (v := 34) (by decide +kernel) (by decide)
theorem dX11_init_80 : decode cX11_init 80 = .ok (.putfield 35, 3) := dk_181 (u := 0) (v := 35) (by decide +kernel) (by decide)
theorem dX11_init_83 : decode cX11_init 83 = .ok (.aload_n 0, 1) := dk_42 (by decide +kernel)
theorem dX11_init_84 : decode cX11_init 84 = .ok (.new 32, 3) := dk_187 (u := 0) (v := 32) (by decide +kernel) (by decide)
theorem dX11_init_87 : decode cX11_init 87 = .ok (.dup, 1) := dk_89 (by decide +kernel)
theorem dX11_init_88 : decode cX11_init 88 = .ok (.invokespecial 34, 3) := dk_183 (u := 0) (v := 34) (by decide +kernel) (by decide)
theorem dX11_init_91 : decode cX11_init 91 = .ok (.putfield 39, 3) := dk_181 (u := 0) (v := 39) (by decide +kernel) (by decide)
theorem dX11_init_94 : decode cX11_init 94 = .ok (.aload_n 0, 1) := dk_42 (by decide +kernel)
theorem dX11_init_95 : decode cX11_init 95 = .ok (.new 42, 3) := dk_187 (u := 0) (v := 42) (by decide +kernel) (by decide)
theorem dX11_init_98 : decode cX11_init 98 = .ok (.dup, 1) := dk_89 (by decide +kernel)
theorem dX11_init_99 : decode cX11_init 99 = .ok (.invokespecial 44, 3) := dk_183 (u := 0) (v := 44) (by decide +kernel) (by decide)
theorem dX11_init_102 : decode cX11_init 102 = .ok (.putfield 45, 3) := dk_181 (u := 0) (v := 45) (by decide +kernel) (by decide)
theorem dX11_init_105 : decode cX11_init 105 = .ok (.aload_n 0, 1) := dk_42 (by decide +kernel)
theorem dX11_init_106 : decode cX11_init 106 = .ok (.new 42, 3) := dk_187 (u := 0) (v := 42) (by decide +kernel) (by decide)
theorem dX11_init_109 : decode cX11_init 109 = .ok (.dup, 1) := dk_89 (by decide +kernel)
theorem dX11_init_110 : decode cX11_init 110 = .ok (.invokespecial 44, 3) := dk_183 (u := 0) (v := 44) (by decide +kernel) (by decide)
theorem dX11_init_113 : decode cX11_init 113 = .ok (.putfield 49, 3) := dk_181 (u := 0) (v := 49) (by decide +kernel) (by decide)
theorem dX11_init_116 : decode cX11_init 116 = .ok (.aload_n 0, 1) := dk_42 (by decide +kernel)
theorem dX11_init_117 : decode cX11_init 117 = .ok (.new 52, 3) := dk_187 (u := 0) (v := 52) (by decide +kernel) (by decide)
theorem dX11_init_120 : decode cX11_init 120 = .ok (.dup, 1) := dk_89 (by decide +kernel)
theorem dX11_init_121 : decode cX11_init 121 = .ok (.aload_n 1, 1) := dk_43 (by decide +kernel)
theorem dX11_init_122 : decode cX11_init 122 = .ok (.aload_n 0, 1) := dk_42 (by decide +kernel)
theorem dX11_init_123 : decode cX11_init 123 = .ok (.getfield 39, 3) := dk_180 (u := 0) (v := 39) (by decide +kernel) (by decide)
theorem dX11_init_126 : decode cX11_init 126 = .ok (.invokespecial 54, 3) := dk_183 (u := 0) (v := 54) (by decide +kernel) (by decide)
theorem dX11_init_129 : decode cX11_init 129 = .ok (.putfield 57, 3) := dk_181 (u := 0) (v := 57) (by decide +kernel) (by decide)
theorem dX11_init_132 : decode cX11_init 132 = .ok (.aload_n 0, 1) := dk_42 (by decide +kernel)
theorem dX11_init_133 : decode cX11_init 133 = .ok (.new 61, 3) := dk_187 (u := 0) (v := 61) (by decide +kernel) (by decide)
theorem dX11_init_136 : decode cX11_init 136 = .ok (.dup, 1) := dk_89 (by decide +kernel)
theorem dX11_init_137 : decode cX11_init 137 = .ok (.aload_n 1, 1) := dk_43 (by decide +kernel)
theorem dX11_init_138 : decode cX11_init 138 = .ok (.aload_n 0, 1) := dk_42 (by decide +kernel)
theorem dX11_init_139 : decode cX11_init 139 = .ok (.getfield 49, 3) := dk_180 (u := 0) (v := 49) (by decide +kernel) (by decide)
theorem dX11_init_142 : decode cX11_init 142 = .ok (.invokespecial 63, 3) := dk_183 (u := 0) (v := 63) (by decide +kernel) (by decide)
theorem dX11_init_145 : decode cX11_init 145 = .ok (.putfield 66, 3) := dk_181 (u := 0) (v := 66) (by decide +kernel) (by decide)
theorem dX11_init_148 : decode cX11_init 148 = .ok (.aload_n 0, 1) := dk_42 (by decide +kernel)
theorem dX11_init_149 : decode cX11_init 149 = .ok (.new 70, 3) := dk_187 (u := 0) (v := 70) (by decide +kernel) (by decide)
theorem dX11_init_152 : decode cX11_init 152 = .ok (.dup, 1) := dk_89 (by decide +kernel)
theorem dX11_init_153 : decode cX11_init 153 = .ok (.aload_n 0, 1) := dk_42 (by decide +kernel)
theorem dX11_init_154 : decode cX11_init 154 = .ok (.getfield 35, 3) := dk_180 (u := 0) (v := 35) (by decide +kernel) (by decide)
theorem dX11_init_157 : decode cX11_init 157 = .ok (.invokespecial 72, 3) := dk_183 (u := 0) (v := 72) (by decide +kernel) (by decide)
theorem dX11_init_160 : decode cX11_init 160 = .ok (.putfield 75, 3) := dk_181 (u := 0) (v := 75) (by decide +kernel) (by decide)
theorem dX11_init_163 : decode cX11_init 163 = .ok (.aload_n 0, 1) := dk_42 (by decide +kernel)
theorem dX11_init_164 : decode cX11_init 164 = .ok (.new 79, 3) := dk_187 (u := 0) (v := 79) (by decide +kernel) (by decide)
theorem dX11_init_167 : decode cX11_init 167 = .ok (.dup, 1) := dk_89 (by decide +kernel)
theorem dX11_init_168 : decode cX11_init 168 = .ok (.invokespecial 81, 3) := dk_183 (u := 0) (v := 81) (by decide +kernel) (by decide)
theorem dX11_init_171 : decode cX11_init 171 = .ok (.putfield 82, 3) := dk_181 (u := 0) (v := 82) (by decide +kernel) (by decide)
theorem dX11_init_174 : decode cX11_init 174 = .ok (.aload_n 0, 1) := dk_42 (by decide +kernel)
theorem dX11_init_175 : decode cX11_init 175 = .ok (.bipush 7, 2) := dk_16 (u := 7) (by decide +kernel) (by decide)
theorem dX11_init_177 : decode cX11_init 177 = .ok (.newarray .long, 2) := by decide +kernel
theorem dX11_init_179 : decode cX11_init 179 = .ok (.putfield 86, 3) := dk_181 (u := 0) (v := 86) (by decide +kernel) (by decide)
theorem dX11_init_182 : decode cX11_init 182 = .ok (.aload_n 0, 1) := dk_42 (by decide +kernel)
theorem dX11_init_183 : decode cX11_init 183 = .ok (.new 90, 3) := dk_187 (u := 0) (v := 90) (by decide +kernel) (by decide)
theorem dX11_init_186 : decode cX11_init 186 = .ok (.dup, 1) := dk_89 (by decide +kernel)
theorem dX11_init_187 : decode cX11_init 187 = .ok (.invokespecial 92, 3) := dk_183 (u := 0) (v := 92) (by decide +kernel) (by decide)
theorem dX11_init_190 : decode cX11_init 190 = .ok (.putfield 93, 3) := dk_181 (u := 0) (v := 93) (by decide +kernel) (by decide)
theorem dX11_init_193 : decode cX11_init 193 = .ok (.aload_n 0, 1) := dk_42 (by decide +kernel)
theorem dX11_init_194 : decode cX11_init 194 = .ok (.new 90, 3) := dk_187 (u := 0) (v := 90) (by decide +kernel) (by decide)
theorem dX11_init_197 : decode cX11_init 197 = .ok (.dup, 1) := dk_89 (by decide +kernel)
theorem dX11_init_198 : decode cX11_init 198 = .ok (.invokespecial 92, 3) := dk_183 (u := 0) (v := 92) (by decide +kernel) (by decide)
theorem dX11_init_201 : decode cX11_init 201 = .ok (.putfield 97, 3) := dk_181 (u := 0) (v := 97) (by decide +kernel) (by decide)
theorem dX11_init_204 : decode cX11_init 204 = .ok (.aload_n 0, 1) := dk_42 (by decide +kernel)
theorem dX11_init_205 : decode cX11_init 205 = .ok (.iconst 0, 1) := dk_3 (by decide +kernel)
theorem dX11_init_206 : decode cX11_init 206 = .ok (.putfield 100, 3) := dk_181 (u := 0) (v := 100) (by decide +kernel) (by decide)
theorem dX11_init_209 : decode cX11_init 209 = .ok (.aload_n 0, 1) := dk_42 (by decide +kernel)
theorem dX11_init_210 : decode cX11_init 210 = .ok (.iconst 0, 1) := dk_3 (by decide +kernel)
theorem dX11_init_211 : decode cX11_init 211 = .ok (.putfield 104, 3) := dk_181 (u := 0) (v := 104) (by decide +kernel) (by decide)
theorem dX11_init_214 : decode cX11_init 214 = .ok (.aload_n 0, 1) := dk_42 (by decide +kernel)
theorem dX11_init_215 : decode cX11_init 215 = .ok (.lconst 0, 1) := dk_9 (by decide +kernel)
theorem dX11_init_216 : decode cX11_init 216 = .ok (.putfield 107, 3) := dk_181 (u := 0) (v := 107) (by decide +kernel) (by decide)
theorem dX11_init_219 : decode cX11_init 219 = .ok (.return_, 1) := dk_177 (by decide +kernel)
theorem dX12_init_0 : decode cX12_init 0 = .ok (.aload_n 0, 1) := dk_42 (by decide +kernel)
theorem dX12_init_1 : decode cX12_init 1 = .ok (.invokespecial 1, 3) := dk_183 (u := 0) (v := 1) (by decide +kernel) (by decide)
theorem dX12_init_4 : decode cX12_init 4 = .ok (.aload_n 0, 1) := dk_42 (by decide +kernel)
theorem dX12_init_5 : decode cX12_init 5 = .ok (.sipush 500, 3) := dk_17 (u := 1) (v := 244) (by decide +kernel) (by decide)
theorem dX12_init_8 : decode cX12_init 8 = .ok (.newarray .byte, 2) := by decide +kernel
theorem dX12_init_10 : decode cX12_init 10 = .ok (.putfield 9, 3) := dk_181 (u := 0) (v := 9) (by decide +kernel) (by decide)
theorem dX12_init_13 : decode cX12_init 13 = .ok (.aload_n 0, 1) := dk_42 (by decide +kernel)
theorem dX12_init_14 : decode cX12_init 14 = .ok (.bipush 9, 2) := dk_16 (u := 9) (by decide +kernel) (by decide)
theorem dX12_init_16 : decode cX12_init 16 = .ok (.newarray .long, 2) := by decide +kernel
theorem dX12_init_18 : decode cX12_init 18 = .ok (.putfield 13, 3) := dk_181 (u := 0) (v := 13) (by decide +kernel) (by decide)
theorem dX12_init_21 : decode cX12_init 21 = .ok (.aload_n 0, 1) := dk_42 (by decide +kernel)
theorem dX12_init_22 : decode cX12_init 22 = .ok (.bipush 27, 2) := dk_16 (u := 27) (by decide +kernel) (by decide)
theorem dX12_init_24 : decode cX12_init 24 = .ok (.newarray .int, 2) := by decide +kernel
theorem dX12_init_26 : decode cX12_init 26 = .ok (.putfield 17, 3) := dk_181 (u := 0) (v := 17) (by decide +kernel) (by decide)
theorem dX12_init_29 : decode cX12_init 29 = .ok (.aload_n 0, 1) := dk_42 (by decide +kernel)
theorem dX12_init_30 : decode cX12_init 30 = .ok (.bipush 9, 2) := dk_16 (u := 9) (by decide +kernel) (by decide)
theorem dX12_init_32 : decode cX12_init 32 = .ok (.newarray .boolean, 2) := by decide +kernel
theorem dX12_init_34 : decode cX12_init 34 = .ok (.putfield 21, 3) := dk_181 (u := 0) (v := 21) (by decide +kernel) (by decide)
theorem dX12_init_37 : decode cX12_init 37 = .ok (.aload_n 0, 1) := dk_42 (by decide +kernel)
theorem dX12_init_38 : decode cX12_init 38 = .ok (.iconst 4, 1) := dk_7 (by decide +kernel)
theorem dX12_init_39 : decode cX12_init 39 = .ok (.newarray .int, 2) := by decide +kernel
theorem dX12_init_41 : decode cX12_init 41 = .ok (.putfield 25, 3) := dk_181 (u := 0) (v := 25) (by decide +kernel) (by decide)
theorem dX12_init_44 : decode cX12_init 44 = .ok (.aload_n 0, 1) := dk_42 (by decide +kernel)
theorem dX12_init_45 : decode cX12_init 45 = .ok (.bipush 36, 2) := dk_16 (u := 36) (by decide +kernel) (by decide)
theorem dX12_init_47 : decode cX12_init 47 = .ok (.newarray .int, 2) := by decide +kernel
theorem dX12_init_49 : decode cX12_init 49 = .ok (.putfield 28, 3) := dk_181 (u := 0) (v := 28) (by decide +kernel) (by decide)
theorem dX12_init_52 : decode cX12_init 52 = .ok (.aload_n 0, 1) := dk_42 (by decide +kernel)
theorem dX12_init_53 : decode cX12_init 53 = .ok (.bipush 27, 2) := dk_16 (u := 27) (by decide +kernel) (by decide)
theorem dX12_init_55 : decode cX12_init 55 = .ok (.newarray .int, 2) := by decide +kernel
theorem dX12_init_57 : decode cX12_init 57 = .ok (.putfield 31, 3) := dk_181 (u := 0) (v := 31) (by decide +kernel) (by decide)
theorem dX12_init_60 : decode cX12_init 60 = .ok (.aload_n 0, 1) := dk_42 (by decide +kernel)
theorem dX12_init_61 : decode cX12_init 61 = .ok (.iconst 4, 1) := dk_7 (by decide +kernel)
theorem dX12_init_62 : decode cX12_init 62 = .ok (.newarray .int, 2) := by decide +kernel
theorem dX12_init_64 : decode cX12_init 64 = .ok (.putfield 34, 3) := dk_181 (u := 0) (v := 34) (by decide +kernel) (by decide)
theorem dX12_init_67 : decode cX12_init 67 = .ok (.aload_n 0, 1) := dk_42 (by decide +kernel)
theorem dX12_init_68 : decode cX12_init 68 = .ok (.bipush 36, 2) := dk_16 (u := 36) (by decide +kernel) (by decide)
theorem dX12_init_70 : decode cX12_init 70 = .ok (.newarray .int, 2) := by decide +kernel
theorem dX12_init_72 : decode cX12_init 72 = .ok (.putfield 37, 3) := dk_181 (u := 0) (v := 37) (by decide +kernel) (by decide)
theorem dX12_init_75 : decode cX12_init 75 = .ok (.aload_n 0, 1) := dk_42 (by decide +kernel)
theorem dX12_init_76 : decode cX12_init 76 = .ok (.bipush 40, 2) := dk_16 (u := 40) (by decide +kernel) (by decide)
theorem dX12_init_78 : decode cX12_init 78 = .ok (.newarray .int, 2) := by decide +kernel
theorem dX12_init_80 : decode cX12_init 80 = .ok (.putfield 40, 3) := dk_181 (u := 0) (v := 40) (by decide +kernel) (by decide)
theorem dX12_init_83 : decode cX12_init 83 = .ok (.aload_n 0, 1) := dk_42 (by decide +kernel)
theorem dX12_init_84 : decode cX12_init 84 = .ok (.sipush 300, 3) := dk_17 (u := 1) (v := 44) (by decide +kernel) (by decide)
theorem dX12_init_87 : decode cX12_init 87 = .ok (.newarray .int, 2) := by decide +kernel
theorem dX12_init_89 : decode cX12_init 89 = .ok (.putfield 43, 3) := dk_181 (u := 0) (v := 43) (by decide +kernel) (by decide)
theorem dX12_init_92 : decode cX12_init 92 = .ok (.aload_n 0, 1) := dk_42 (by decide +kernel)
theorem dX12_init_93 : decode cX12_init 93 = .ok (.iconst 3, 1) := dk_6 (by decide +kernel)
theorem dX12_init_94 : decode cX12_init 94 = .ok (.newarray .boolean, 2) := by decide +kernel
theorem dX12_init_96 : decode cX12_init 96 = .ok (.putfield 46, 3) := dk_181 (u := 0) (v := 46) (by decide +kernel) (by decide)
theorem dX12_init_99 : decode cX12_init 99 = .ok (.aload_n 0, 1) := dk_42 (by decide +kernel)
theorem dX12_init_100 : decode cX12_init 100 = .ok (.iconst 3, 1) := dk_6 (by decide +kernel)
theorem dX12_init_101 : decode cX12_init 101 = .ok (.newarray .int, 2) := by decide +kernel
theorem dX12_init_103 : decode cX12_init 103 = .ok (.putfield 49, 3) := dk_181 (u := 0) (v := 49) (by decide +kernel) (by decide)
theorem dX12_init_106 : decode cX12_init 106 = .ok (.aload_n 0, 1) := dk_42 (by decide +kernel)
theorem dX12_init_107 : decode cX12_init 107 = .ok (.bipush 120, 2) := dk_16 (u := 120) (by decide +kernel) (by decide)
theorem dX12_init_109 : decode cX12_init 109 = .ok (.newarray .int, 2) := by decide +kernel
theorem dX12_init_111 : decode cX12_init 111 = .ok (.putfield 52, 3) := dk_181 (u := 0) (v := 52) (by decide +kernel) (by decide)
theorem dX12_init_114 : decode cX12_init 114 = .ok (.aload_n 0, 1) := dk_42 (by decide +kernel)
theorem dX12_init_115 : decode cX12_init 115 = .ok (.iconst 3, 1) := dk_6 (by decide +kernel)
theorem dX12_init_116 : decode cX12_init 116 = .ok (.newarray .int, 2) := by decide +kernel
theorem dX12_init_118 : decode cX12_init 118 = .ok (.putfield 55, 3) := dk_181 (u := 0) (v := 55) (by decide +kernel) (by decide)
theorem dX12_init_121 : decode cX12_init 121 = .ok (.aload_n 0, 1) := dk_42 (by decide +kernel)
theorem dX12_init_122 : decode cX12_init 122 = .ok (.sipush 900, 3) := dk_17 (u := 3) (v := 132) (by decide +kernel) (by decide)
theorem dX12_init_125 : decode cX12_init 125 = .ok (.newarray .int, 2) := by decide +kernel
theorem dX12_init_127 : decode cX12_init 127 = .ok (.putfield 58, 3) := dk_181 (u := 0) (v := 58) (by decide +kernel) (by decide)
theorem dX12_init_130 : decode cX12_init 130 = .ok (.aload_n 0, 1) := dk_42 (by decide +kernel)
theorem dX12_init_131 : decode cX12_init 131 = .ok (.sipush 1200, 3) := dk_17 (u := 4) (v := 176) (by decide +kernel) (by decide)
theorem dX12_init_134 : decode cX12_init 134 = .ok (.newarray .int, 2) := by decide +kernel
theorem dX12_init_136 : decode cX12_init 136 = .ok (.putfield 61, 3) := dk_181 (u := 0) (v := 61) (by decide +kernel) (by decide)
theorem dX12_init_139 : decode cX12_init 139 = .ok (.aload_n 0, 1) := dk_42 (by decide +kernel)
theorem dX12_init_140 : decode cX12_init 140 = .ok (.sipush 1200, 3) := dk_17 (u := 4) (v := 176) (by decide +kernel) (by decide)
theorem dX12_init_143 : decode cX12_init 143 = .ok (.newarray .int, 2) := by decide +kernel
theorem dX12_init_145 : decode cX12_init 145 = .ok (.putfield 64, 3) := dk_181 (u := 0) (v := 64) (by decide +kernel) (by decide)
theorem dX12_init_148 : decode cX12_init 148 = .ok (.aload_n 0, 1) := dk_42 (by decide +kernel)
theorem dX12_init_149 : decode cX12_init 149 = .ok (.sipush 600, 3) := dk_17 (u := 2) (v := 88) (by decide +kernel) (by decide)
theorem dX12_init_152 : decode cX12_init 152 = .ok (.newarray .int, 2) := by decide +kernel
theorem dX12_init_154 : decode cX12_init 154 = .ok (.putfield 67, 3) := dk_181 (u := 0) (v := 67) (by decide +kernel) (by decide)
theorem dX12_init_157 : decode cX12_init 157 = .ok (.aload_n 0, 1) := dk_42 (by decide +kernel)
theorem dX12_init_158 : decode cX12_init 158 = .ok (.bipush 9, 2) := dk_16 (u := 9) (by decide +kernel) (by decide)
theorem dX12_init_160 : decode cX12_init 160 = .ok (.newarray .int, 2) := by decide +kernel
theorem dX12_init_162 : decode cX12_init 162 = .ok (.putfield 70, 3) := dk_181 (u := 0) (v := 70) (by decide +kernel) (by decide)
theorem dX12_init_165 : decode cX12_init 165 = .ok (.aload_n 0, 1) := dk_42 (by decide +kernel)
theorem dX12_init_166 : decode cX12_init 166 = .ok (.bipush 9, 2) := dk_16 (u := 9) (by decide +kernel) (by decide)
theorem dX12_init_168 : decode cX12_init 168 = .ok (.newarray .int, 2) := by decide +kernel
theorem dX12_init_170 : decode cX12_init 170 = .ok (.putfield 73, 3) := dk_181 (u := 0) (v := 73) (by decide +kernel) (by decide)
theorem dX12_init_173 : decode cX12_init 173 = .ok (.aload_n 0, 1) := dk_42 (by decide +kernel)
theorem dX12_init_174 : decode cX12_init 174 = .ok (.bipush 9, 2) := dk_16 (u := 9) (by decide +kernel) (by decide)
theorem dX12_init_176 : decode cX12_init 176 = .ok (.newarray .long, 2) := by decide +kernel
theorem dX12_init_178 : decode cX12_init 178 = .ok (.putfield 76, 3) := dk_181 (u := 0) (v := 76) (by decide +kernel) (by decide)
theorem dX12_init_181 : decode cX12_init 181 = .ok (.aload_n 0, 1) := dk_42 (by decide +kernel)
theorem dX12_init_182 : decode cX12_init 182 = .ok (.sipush 2400, 3) := dk_17 (u := 9) (v := 96) (by decide +kernel) (by decide)
theorem dX12_init_185 : decode cX12_init 185 = .ok (.newarray .int, 2) := by decide +kernel
theorem dX12_init_187 : decode cX12_init 187 = .ok (.putfield 79, 3) := dk_181 (u := 0) (v := 79) (by decide +kernel) (by decide)
theorem dX12_init_190 : decode cX12_init 190 = .ok (.aload_n 0, 1) := dk_42 (by decide +kernel)
theorem dX12_init_191 : decode cX12_init 191 = .ok (.bipush 8, 2) := dk_16 (u := 8) (by decide +kernel) (by decide)
theorem dX12_init_193 : decode cX12_init 193 = .ok (.newarray .int, 2) := by decide +kernel
theorem dX12_init_195 : decode cX12_init 195 = .ok (.putfield 82, 3) := dk_181 (u := 0) (v := 82) (by decide +kernel) (by decide)
theorem dX12_init_198 : decode cX12_init 198 = .ok (.aload_n 0, 1) := dk_42 (by decide +kernel)
theorem dX12_init_199 : decode cX12_init 199 = .ok (.bipush 9, 2) := dk_16 (u := 9) (by decide +kernel) (by decide)
theorem dX12_init_201 : decode cX12_init 201 = .ok (.newarray .long, 2) := by decide +kernel
theorem dX12_init_203 : decode cX12_init 203 = .ok (.putfield 85, 3) := dk_181 (u := 0) (v := 85) (by decide +kernel) (by decide)
theorem dX12_init_206 : decode cX12_init 206 = .ok (.aload_n 0, 1) := dk_42 (by decide +kernel)
theorem dX12_init_207 : decode cX12_init 207 = .ok (.bipush 7, 2) := dk_16 (u := 7) (by decide +kernel) (by decide)
theorem dX12_init_209 : decode cX12_init 209 = .ok (.newarray .int, 2) := by decide +kernel
theorem dX12_init_211 : decode cX12_init 211 = .ok (.putfield 88, 3) := dk_181 (u := 0) (v := 88) (by decide +kernel) (by decide)
theorem dX12_init_214 : decode cX12_init 214 = .ok (.aload_n 0, 1) := dk_42 (by decide +kernel)
theorem dX12_init_215 : decode cX12_init 215 = .ok (.sipush 600, 3) := dk_17 (u := 2) (v := 88) (by decide +kernel) (by decide)
theorem dX12_init_218 : decode cX12_init 218 = .ok (.newarray .int, 2) := by decide +kernel
theorem dX12_init_220 : decode cX12_init 220 = .ok (.putfield 91, 3) := dk_181 (u := 0) (v := 91) (by decide +kernel) (by decide)
theorem dX12_init_223 : decode cX12_init 223 = .ok (.return_, 1) := dk_177 (by decide +kernel)
set_option maxHeartbeats 4000000 in
set_option maxRecDepth 100000 in
theorem i_X8_init_1 : pm_MT 1 yX8_init cX8_init 1 none 2 3 (fun av V => av = [(3, 1)] ∧ ∀ i, V 1 i = pm_dv (pm_ty 8 i)) (fun _ V r V' => r = none ∧ pm_wa 1 3 V' ∧ ∀ k, k < 1 → V' k = V k) := by
  refine pm_MT.of (by decide) ⟨by decide, by decide⟩ (fun av V h => by rw [h.1]; exact (by decide : pm_words [(3, 0)] ≤ 1)) ?_
  rintro X av V0 hC hI hR ⟨rfl, hD⟩
  have hT := pm_Rt.top hR
  change pm_J X 0 [(0, (3, 1))] [] 2 V0
  refine pm_aload_n hC 0 (by decide) dX8_init_0 rfl ?_
  refine pm_objInit hC 1032 1025 1026 (by decide) (by decide) (by decide +kernel) (by decide +kernel) (by decide +kernel) (Nat.le_of_ble_eq_true rfl) dX8_init_1 ?_
  refine pm_aload_n hC 0 (by decide) dX8_init_4 rfl ?_
  refine pm_sipush (v := 500) hC dX8_init_5 (by decide) ?_
  refine pm_newa_int (len := 500) hC 1043 rfl rfl (by decide) (by decide +kernel) (by rw [hT]; decide) dX8_init_8 ?_
  refine pm_putF hC 1 fl_X8_9 rfl (hI rfl) rfl rfl rfl (by decide) rfl trivial dX8_init_10 ?_
  refine pm_aload_n hC 0 (by decide) dX8_init_13 rfl ?_
  refine pm_iconst (v := 0) hC dX8_init_14 ?_
  refine pm_putf hC 1 fl_X8_15 rfl rfl rfl (by decide) rfl trivial dX8_init_15 ?_
  have hown : pm_wa 1 2 (pm_up (pm_up (pm_clr V0 2 (fun _ => 0)) 1 0 2) 1 1 0) := pm_wa.one fun i hi => match i, hi with
    | 0, _ => rfl
    | 1, _ => rfl
    | (j + 2), h => absurd h (Nat.not_lt.mpr (Nat.le_add_left 2 j))
  have ha1 : pm_wa 2 3 (pm_up (pm_up (pm_clr V0 2 (fun _ => 0)) 1 0 2) 1 1 0) := pm_wa.one fun i _ => rfl
  exact pm_vret hC hR ⟨rfl, (hown.app ha1), fun k hk => ((pm_up_k (by omega)).trans ((pm_up_k (by omega)).trans ((pm_clr_k (by omega)).trans (Eq.refl _)))).trans rfl⟩ dX8_init_18
set_option maxHeartbeats 4000000 in
set_option maxRecDepth 100000 in
theorem i_X9_init_3 : pm_MT 1 yX9_init cX9_init 2 none 4 4 (fun av V => av = [(3, 3), (3, 1)] ∧ ∀ i, V 3 i = pm_dv (pm_ty 9 i)) (fun _ V r V' => r = none ∧ pm_wa 3 4 V' ∧ ∀ k, k < 3 → V' k = V k) := by
  refine pm_MT.of (by decide) ⟨by decide, by decide⟩ (fun av V h => by rw [h.1]; exact (by decide : pm_words [(3, 0), (3, 0)] ≤ 2)) ?_
  rintro X av V0 hC hI hR ⟨rfl, hD⟩
  have hT := pm_Rt.top hR
  change pm_J X 0 [(0, (3, 3)), (1, (3, 1))] [] 4 V0
  refine pm_aload_n hC 0 (by decide) dX9_init_0 rfl ?_
  refine pm_objInit hC 1049 1025 1026 (by decide) (by decide) (by decide +kernel) (by decide +kernel) (by decide +kernel) (Nat.le_of_ble_eq_true rfl) dX9_init_1 ?_
  refine pm_aload_n hC 0 (by decide) dX9_init_4 rfl ?_
  refine pm_aload_n hC 1 (by decide) dX9_init_5 rfl ?_
  refine pm_putF hC 3 fl_X9_7 rfl (hI rfl) rfl rfl rfl (by decide) rfl trivial dX9_init_6 ?_
  refine pm_aload_n hC 0 (by decide) dX9_init_9 rfl ?_
  refine pm_iconst (v := 0) hC dX9_init_10 ?_
  refine pm_putf hC 3 fl_X9_13 rfl rfl rfl (by decide) rfl trivial dX9_init_11 ?_
  refine pm_aload_n hC 0 (by decide) dX9_init_14 rfl ?_
  refine pm_iconst (v := 0) hC dX9_init_15 ?_
  refine pm_putf hC 3 fl_X9_17 rfl rfl rfl (by decide) rfl trivial dX9_init_16 ?_
  refine pm_aload_n hC 0 (by decide) dX9_init_19 rfl ?_
  refine pm_lconst (x := 0) hC dX9_init_20 rfl ?_
  refine pm_putf hC 3 fl_X9_20 rfl rfl rfl (by decide) rfl trivial dX9_init_21 ?_
  refine pm_aload_n hC 0 (by decide) dX9_init_24 rfl ?_
  refine pm_iconst (v := 0) hC dX9_init_25 ?_
  refine pm_putf hC 3 fl_X9_24 rfl rfl rfl (by decide) rfl trivial dX9_init_26 ?_
  have hown : pm_wa 3 4 (pm_up (pm_up (pm_up (pm_up (pm_up V0 3 0 1) 3 1 0) 3 2 0) 3 3 0) 3 4 0) := pm_wa.one fun i hi => match i, hi with
    | 0, _ => rfl
    | 1, _ => rfl
    | 2, _ => rfl
    | 3, _ => rfl
    | 4, _ => rfl
    | (j + 5), h => absurd h (Nat.not_lt.mpr (Nat.le_add_left 5 j))
  exact pm_vret hC hR ⟨rfl, hown, fun k hk => ((pm_up_k (by omega)).trans ((pm_up_k (by omega)).trans ((pm_up_k (by omega)).trans ((pm_up_k (by omega)).trans ((pm_up_k (by omega)).trans (Eq.refl _)))))).trans rfl⟩ dX9_init_29
set_option maxHeartbeats 4000000 in
set_option maxRecDepth 100000 in
theorem i_X7_init_4 : pm_MT 1 yX7_init cX7_init 1 none 5 14 (fun av V => av = [(3, 4)] ∧ ∀ i, V 4 i = pm_dv (pm_ty 7 i)) (fun _ V r V' => r = none ∧ pm_wa 4 14 V' ∧ ∀ k, k < 4 → V' k = V k) := by
  refine pm_MT.of (by decide) ⟨by decide, by decide⟩ (fun av V h => by rw [h.1]; exact (by decide : pm_words [(3, 0)] ≤ 1)) ?_
  rintro X av V0 hC hI hR ⟨rfl, hD⟩
  have hT := pm_Rt.top hR
  change pm_J X 0 [(0, (3, 4))] [] 5 V0
  refine pm_aload_n hC 0 (by decide) dX7_init_0 rfl ?_
  refine pm_objInit hC 1077 1025 1026 (by decide) (by decide) (by decide +kernel) (by decide +kernel) (by decide +kernel) (Nat.le_of_ble_eq_true rfl) dX7_init_1 ?_
  refine pm_aload_n hC 0 (by decide) dX7_init_4 rfl ?_
  refine pm_iconst (v := 0) hC dX7_init_5 ?_
  refine pm_putf hC 4 fl_X7_9 rfl rfl rfl (by decide) rfl (Or.inl rfl) dX7_init_6 ?_
  refine pm_aload_n hC 0 (by decide) dX7_init_9 rfl ?_
  refine pm_iconst (v := 0) hC dX7_init_10 ?_
  refine pm_putf hC 4 fl_X7_15 rfl rfl rfl (by decide) rfl trivial dX7_init_11 ?_
  refine pm_aload_n hC 0 (by decide) dX7_init_14 rfl ?_
  refine pm_bipush (v := 10) hC dX7_init_15 (by decide) ?_
  refine pm_newa_int (len := 10) hC 1043 rfl rfl (by decide) (by decide +kernel) (by rw [hT]; decide) dX7_init_17 ?_
  refine pm_putF hC 4 fl_X7_19 rfl (hI rfl) rfl rfl rfl (by decide) rfl trivial dX7_init_19 ?_
  refine pm_aload_n hC 0 (by decide) dX7_init_22 rfl ?_
  refine pm_bipush (v := 10) hC dX7_init_23 (by decide) ?_
  refine pm_newa_int (len := 10) hC 1043 rfl rfl (by decide) (by decide +kernel) (by rw [hT]; decide) dX7_init_25 ?_
  refine pm_putF hC 4 fl_X7_23 rfl (hI rfl) rfl rfl rfl (by decide) rfl trivial dX7_init_27 ?_
  refine pm_aload_n hC 0 (by decide) dX7_init_30 rfl ?_
  refine pm_bipush (v := 10) hC dX7_init_31 (by decide) ?_
  refine pm_newa_int (len := 10) hC 1043 rfl rfl (by decide) (by decide +kernel) (by rw [hT]; decide) dX7_init_33 ?_
  refine pm_putF hC 4 fl_X7_26 rfl (hI rfl) rfl rfl rfl (by decide) rfl trivial dX7_init_35 ?_
  refine pm_aload_n hC 0 (by decide) dX7_init_38 rfl ?_
  refine pm_bipush (v := 10) hC dX7_init_39 (by decide) ?_
  refine pm_newa_int (len := 10) hC 1043 rfl rfl (by decide) (by decide +kernel) (by rw [hT]; decide) dX7_init_41 ?_
  refine pm_putF hC 4 fl_X7_29 rfl (hI rfl) rfl rfl rfl (by decide) rfl trivial dX7_init_43 ?_
  refine pm_aload_n hC 0 (by decide) dX7_init_46 rfl ?_
  refine pm_iconst (v := 0) hC dX7_init_47 ?_
  refine pm_putf hC 4 fl_X7_32 rfl rfl rfl (by decide) rfl trivial dX7_init_48 ?_
  refine pm_aload_n hC 0 (by decide) dX7_init_51 rfl ?_
  refine pm_bipush (v := 60) hC dX7_init_52 (by decide) ?_
  refine pm_newa_int (len := 60) hC 1043 rfl rfl (by decide) (by decide +kernel) (by rw [hT]; decide) dX7_init_54 ?_
  refine pm_putF hC 4 fl_X7_35 rfl (hI rfl) rfl rfl rfl (by decide) rfl trivial dX7_init_56 ?_
  refine pm_aload_n hC 0 (by decide) dX7_init_59 rfl ?_
  refine pm_bipush (v := 60) hC dX7_init_60 (by decide) ?_
  refine pm_newa_int (len := 60) hC 1043 rfl rfl (by decide) (by decide +kernel) (by rw [hT]; decide) dX7_init_62 ?_
  refine pm_putF hC 4 fl_X7_38 rfl (hI rfl) rfl rfl rfl (by decide) rfl trivial dX7_init_64 ?_
  refine pm_aload_n hC 0 (by decide) dX7_init_67 rfl ?_
  refine pm_bipush (v := 60) hC dX7_init_68 (by decide) ?_
  refine pm_newa_int (len := 60) hC 1043 rfl rfl (by decide) (by decide +kernel) (by rw [hT]; decide) dX7_init_70 ?_
  refine pm_putF hC 4 fl_X7_41 rfl (hI rfl) rfl rfl rfl (by decide) rfl trivial dX7_init_72 ?_
  refine pm_aload_n hC 0 (by decide) dX7_init_75 rfl ?_
  refine pm_bipush (v := 60) hC dX7_init_76 (by decide) ?_
  refine pm_newa_int (len := 60) hC 1043 rfl rfl (by decide) (by decide +kernel) (by rw [hT]; decide) dX7_init_78 ?_
  refine pm_putF hC 4 fl_X7_44 rfl (hI rfl) rfl rfl rfl (by decide) rfl trivial dX7_init_80 ?_
  refine pm_aload_n hC 0 (by decide) dX7_init_83 rfl ?_
  refine pm_bipush (v := 60) hC dX7_init_84 (by decide) ?_
  refine pm_newa_boolean (len := 60) hC 1127 rfl rfl (by decide) (by decide +kernel) (by rw [hT]; decide) dX7_init_86 ?_
  refine pm_putF hC 4 fl_X7_47 rfl (hI rfl) rfl rfl rfl (by decide) rfl trivial dX7_init_88 ?_
  have hown : pm_wa 4 5 (pm_up (pm_clr (pm_up (pm_clr (pm_up (pm_clr (pm_up (pm_clr (pm_up (pm_clr (pm_up (pm_up (pm_clr (pm_up (pm_clr (pm_up (pm_clr (pm_up (pm_clr (pm_up (pm_up V0 4 0 0) 4 1 0) 5 (fun _ => 0)) 4 2 5) 6 (fun _ => 0)) 4 3 6) 7 (fun _ => 0)) 4 4 7) 8 (fun _ => 0)) 4 5 8) 4 6 0) 9 (fun _ => 0)) 4 7 9) 10 (fun _ => 0)) 4 8 10) 11 (fun _ => 0)) 4 9 11) 12 (fun _ => 0)) 4 10 12) 13 (fun _ => 0)) 4 11 13) := pm_wa.one fun i hi => match i, hi with
    | 0, _ => rfl
    | 1, _ => rfl
    | 2, _ => rfl
    | 3, _ => rfl
    | 4, _ => rfl
    | 5, _ => rfl
    | 6, _ => rfl
    | 7, _ => rfl
    | 8, _ => rfl
    | 9, _ => rfl
    | 10, _ => rfl
    | 11, _ => rfl
    | (j + 12), h => absurd h (Nat.not_lt.mpr (Nat.le_add_left 12 j))
  have ha1 : pm_wa 5 6 (pm_up (pm_clr (pm_up (pm_clr (pm_up (pm_clr (pm_up (pm_clr (pm_up (pm_clr (pm_up (pm_up (pm_clr (pm_up (pm_clr (pm_up (pm_clr (pm_up (pm_clr (pm_up (pm_up V0 4 0 0) 4 1 0) 5 (fun _ => 0)) 4 2 5) 6 (fun _ => 0)) 4 3 6) 7 (fun _ => 0)) 4 4 7) 8 (fun _ => 0)) 4 5 8) 4 6 0) 9 (fun _ => 0)) 4 7 9) 10 (fun _ => 0)) 4 8 10) 11 (fun _ => 0)) 4 9 11) 12 (fun _ => 0)) 4 10 12) 13 (fun _ => 0)) 4 11 13) := pm_wa.one fun i _ => rfl
  have ha2 : pm_wa 6 7 (pm_up (pm_clr (pm_up (pm_clr (pm_up (pm_clr (pm_up (pm_clr (pm_up (pm_clr (pm_up (pm_up (pm_clr (pm_up (pm_clr (pm_up (pm_clr (pm_up (pm_clr (pm_up (pm_up V0 4 0 0) 4 1 0) 5 (fun _ => 0)) 4 2 5) 6 (fun _ => 0)) 4 3 6) 7 (fun _ => 0)) 4 4 7) 8 (fun _ => 0)) 4 5 8) 4 6 0) 9 (fun _ => 0)) 4 7 9) 10 (fun _ => 0)) 4 8 10) 11 (fun _ => 0)) 4 9 11) 12 (fun _ => 0)) 4 10 12) 13 (fun _ => 0)) 4 11 13) := pm_wa.one fun i _ => rfl
  have ha3 : pm_wa 7 8 (pm_up (pm_clr (pm_up (pm_clr (pm_up (pm_clr (pm_up (pm_clr (pm_up (pm_clr (pm_up (pm_up (pm_clr (pm_up (pm_clr (pm_up (pm_clr (pm_up (pm_clr (pm_up (pm_up V0 4 0 0) 4 1 0) 5 (fun _ => 0)) 4 2 5) 6 (fun _ => 0)) 4 3 6) 7 (fun _ => 0)) 4 4 7) 8 (fun _ => 0)) 4 5 8) 4 6 0) 9 (fun _ => 0)) 4 7 9) 10 (fun _ => 0)) 4 8 10) 11 (fun _ => 0)) 4 9 11) 12 (fun _ => 0)) 4 10 12) 13 (fun _ => 0)) 4 11 13) := pm_wa.one fun i _ => rfl
  have ha4 : pm_wa 8 9 (pm_up (pm_clr (pm_up (pm_clr (pm_up (pm_clr (pm_up (pm_clr (pm_up (pm_clr (pm_up (pm_up (pm_clr (pm_up (pm_clr (pm_up (pm_clr (pm_up (pm_clr (pm_up (pm_up V0 4 0 0) 4 1 0) 5 (fun _ => 0)) 4 2 5) 6 (fun _ => 0)) 4 3 6) 7 (fun _ => 0)) 4 4 7) 8 (fun _ => 0)) 4 5 8) 4 6 0) 9 (fun _ => 0)) 4 7 9) 10 (fun _ => 0)) 4 8 10) 11 (fun _ => 0)) 4 9 11) 12 (fun _ => 0)) 4 10 12) 13 (fun _ => 0)) 4 11 13) := pm_wa.one fun i _ => rfl
  have ha5 : pm_wa 9 10 (pm_up (pm_clr (pm_up (pm_clr (pm_up (pm_clr (pm_up (pm_clr (pm_up (pm_clr (pm_up (pm_up (pm_clr (pm_up (pm_clr (pm_up (pm_clr (pm_up (pm_clr (pm_up (pm_up V0 4 0 0) 4 1 0) 5 (fun _ => 0)) 4 2 5) 6 (fun _ => 0)) 4 3 6) 7 (fun _ => 0)) 4 4 7) 8 (fun _ => 0)) 4 5 8) 4 6 0) 9 (fun _ => 0)) 4 7 9) 10 (fun _ => 0)) 4 8 10) 11 (fun _ => 0)) 4 9 11) 12 (fun _ => 0)) 4 10 12) 13 (fun _ => 0)) 4 11 13) := pm_wa.one fun i _ => rfl
  have ha6 : pm_wa 10 11 (pm_up (pm_clr (pm_up (pm_clr (pm_up (pm_clr (pm_up (pm_clr (pm_up (pm_clr (pm_up (pm_up (pm_clr (pm_up (pm_clr (pm_up (pm_clr (pm_up (pm_clr (pm_up (pm_up V0 4 0 0) 4 1 0) 5 (fun _ => 0)) 4 2 5) 6 (fun _ => 0)) 4 3 6) 7 (fun _ => 0)) 4 4 7) 8 (fun _ => 0)) 4 5 8) 4 6 0) 9 (fun _ => 0)) 4 7 9) 10 (fun _ => 0)) 4 8 10) 11 (fun _ => 0)) 4 9 11) 12 (fun _ => 0)) 4 10 12) 13 (fun _ => 0)) 4 11 13) := pm_wa.one fun i _ => rfl
  have ha7 : pm_wa 11 12 (pm_up (pm_clr (pm_up (pm_clr (pm_up (pm_clr (pm_up (pm_clr (pm_up (pm_clr (pm_up (pm_up (pm_clr (pm_up (pm_clr (pm_up (pm_clr (pm_up (pm_clr (pm_up (pm_up V0 4 0 0) 4 1 0) 5 (fun _ => 0)) 4 2 5) 6 (fun _ => 0)) 4 3 6) 7 (fun _ => 0)) 4 4 7) 8 (fun _ => 0)) 4 5 8) 4 6 0) 9 (fun _ => 0)) 4 7 9) 10 (fun _ => 0)) 4 8 10) 11 (fun _ => 0)) 4 9 11) 12 (fun _ => 0)) 4 10 12) 13 (fun _ => 0)) 4 11 13) := pm_wa.one fun i _ => rfl
  have ha8 : pm_wa 12 13 (pm_up (pm_clr (pm_up (pm_clr (pm_up (pm_clr (pm_up (pm_clr (pm_up (pm_clr (pm_up (pm_up (pm_clr (pm_up (pm_clr (pm_up (pm_clr (pm_up (pm_clr (pm_up (pm_up V0 4 0 0) 4 1 0) 5 (fun _ => 0)) 4 2 5) 6 (fun _ => 0)) 4 3 6) 7 (fun _ => 0)) 4 4 7) 8 (fun _ => 0)) 4 5 8) 4 6 0) 9 (fun _ => 0)) 4 7 9) 10 (fun _ => 0)) 4 8 10) 11 (fun _ => 0)) 4 9 11) 12 (fun _ => 0)) 4 10 12) 13 (fun _ => 0)) 4 11 13) := pm_wa.one fun i _ => rfl
  have ha9 : pm_wa 13 14 (pm_up (pm_clr (pm_up (pm_clr (pm_up (pm_clr (pm_up (pm_clr (pm_up (pm_clr (pm_up (pm_up (pm_clr (pm_up (pm_clr (pm_up (pm_clr (pm_up (pm_clr (pm_up (pm_up V0 4 0 0) 4 1 0) 5 (fun _ => 0)) 4 2 5) 6 (fun _ => 0)) 4 3 6) 7 (fun _ => 0)) 4 4 7) 8 (fun _ => 0)) 4 5 8) 4 6 0) 9 (fun _ => 0)) 4 7 9) 10 (fun _ => 0)) 4 8 10) 11 (fun _ => 0)) 4 9 11) 12 (fun _ => 0)) 4 10 12) 13 (fun _ => 0)) 4 11 13) := pm_wa.one fun i _ => rfl
  exact pm_vret hC hR ⟨rfl, (((((((((hown.app ha1).app ha2).app ha3).app ha4).app ha5).app ha6).app ha7).app ha8).app ha9), fun k hk => ((pm_up_k (by omega)).trans ((pm_clr_k (by omega)).trans ((pm_up_k (by omega)).trans ((pm_clr_k (by omega)).trans ((pm_up_k (by omega)).trans ((pm_clr_k (by omega)).trans ((pm_up_k (by omega)).trans ((pm_clr_k (by omega)).trans ((pm_up_k (by omega)).trans ((pm_clr_k (by omega)).trans ((pm_up_k (by omega)).trans ((pm_up_k (by omega)).trans ((pm_clr_k (by omega)).trans ((pm_up_k (by omega)).trans ((pm_clr_k (by omega)).trans ((pm_up_k (by omega)).trans ((pm_clr_k (by omega)).trans ((pm_up_k (by omega)).trans ((pm_clr_k (by omega)).trans ((pm_up_k (by omega)).trans ((pm_up_k (by omega)).trans (Eq.refl _)))))))))))))))))))))).trans rfl⟩ dX7_init_91
set_option maxHeartbeats 4000000 in
set_option maxRecDepth 100000 in
theorem i_X7_init_15 : pm_MT 1 yX7_init cX7_init 1 none 16 25 (fun av V => av = [(3, 15)] ∧ ∀ i, V 15 i = pm_dv (pm_ty 7 i)) (fun _ V r V' => r = none ∧ pm_wa 15 25 V' ∧ ∀ k, k < 15 → V' k = V k) := by
  refine pm_MT.of (by decide) ⟨by decide, by decide⟩ (fun av V h => by rw [h.1]; exact (by decide : pm_words [(3, 0)] ≤ 1)) ?_
  rintro X av V0 hC hI hR ⟨rfl, hD⟩
  have hT := pm_Rt.top hR
  change pm_J X 0 [(0, (3, 15))] [] 16 V0
  refine pm_aload_n hC 0 (by decide) dX7_init_0 rfl ?_
  refine pm_objInit hC 1077 1025 1026 (by decide) (by decide) (by decide +kernel) (by decide +kernel) (by decide +kernel) (Nat.le_of_ble_eq_true rfl) dX7_init_1 ?_
  refine pm_aload_n hC 0 (by decide) dX7_init_4 rfl ?_
  refine pm_iconst (v := 0) hC dX7_init_5 ?_
  refine pm_putf hC 15 fl_X7_9 rfl rfl rfl (by decide) rfl (Or.inl rfl) dX7_init_6 ?_
  refine pm_aload_n hC 0 (by decide) dX7_init_9 rfl ?_
  refine pm_iconst (v := 0) hC dX7_init_10 ?_
  refine pm_putf hC 15 fl_X7_15 rfl rfl rfl (by decide) rfl trivial dX7_init_11 ?_
  refine pm_aload_n hC 0 (by decide) dX7_init_14 rfl ?_
  refine pm_bipush (v := 10) hC dX7_init_15 (by decide) ?_
  refine pm_newa_int (len := 10) hC 1043 rfl rfl (by decide) (by decide +kernel) (by rw [hT]; decide) dX7_init_17 ?_
  refine pm_putF hC 15 fl_X7_19 rfl (hI rfl) rfl rfl rfl (by decide) rfl trivial dX7_init_19 ?_
  refine pm_aload_n hC 0 (by decide) dX7_init_22 rfl ?_
  refine pm_bipush (v := 10) hC dX7_init_23 (by decide) ?_
  refine pm_newa_int (len := 10) hC 1043 rfl rfl (by decide) (by decide +kernel) (by rw [hT]; decide) dX7_init_25 ?_
  refine pm_putF hC 15 fl_X7_23 rfl (hI rfl) rfl rfl rfl (by decide) rfl trivial dX7_init_27 ?_
  refine pm_aload_n hC 0 (by decide) dX7_init_30 rfl ?_
  refine pm_bipush (v := 10) hC dX7_init_31 (by decide) ?_
  refine pm_newa_int (len := 10) hC 1043 rfl rfl (by decide) (by decide +kernel) (by rw [hT]; decide) dX7_init_33 ?_
  refine pm_putF hC 15 fl_X7_26 rfl (hI rfl) rfl rfl rfl (by decide) rfl trivial dX7_init_35 ?_
  refine pm_aload_n hC 0 (by decide) dX7_init_38 rfl ?_
  refine pm_bipush (v := 10) hC dX7_init_39 (by decide) ?_
  refine pm_newa_int (len := 10) hC 1043 rfl rfl (by decide) (by decide +kernel) (by rw [hT]; decide) dX7_init_41 ?_
  refine pm_putF hC 15 fl_X7_29 rfl (hI rfl) rfl rfl rfl (by decide) rfl trivial dX7_init_43 ?_
  refine pm_aload_n hC 0 (by decide) dX7_init_46 rfl ?_
  refine pm_iconst (v := 0) hC dX7_init_47 ?_
  refine pm_putf hC 15 fl_X7_32 rfl rfl rfl (by decide) rfl trivial dX7_init_48 ?_
  refine pm_aload_n hC 0 (by decide) dX7_init_51 rfl ?_
  refine pm_bipush (v := 60) hC dX7_init_52 (by decide) ?_
  refine pm_newa_int (len := 60) hC 1043 rfl rfl (by decide) (by decide +kernel) (by rw [hT]; decide) dX7_init_54 ?_
  refine pm_putF hC 15 fl_X7_35 rfl (hI rfl) rfl rfl rfl (by decide) rfl trivial dX7_init_56 ?_
  refine pm_aload_n hC 0 (by decide) dX7_init_59 rfl ?_
  refine pm_bipush (v := 60) hC dX7_init_60 (by decide) ?_
  refine pm_newa_int (len := 60) hC 1043 rfl rfl (by decide) (by decide +kernel) (by rw [hT]; decide) dX7_init_62 ?_
  refine pm_putF hC 15 fl_X7_38 rfl (hI rfl) rfl rfl rfl (by decide) rfl trivial dX7_init_64 ?_
  refine pm_aload_n hC 0 (by decide) dX7_init_67 rfl ?_
  refine pm_bipush (v := 60) hC dX7_init_68 (by decide) ?_
  refine pm_newa_int (len := 60) hC 1043 rfl rfl (by decide) (by decide +kernel) (by rw [hT]; decide) dX7_init_70 ?_
  refine pm_putF hC 15 fl_X7_41 rfl (hI rfl) rfl rfl rfl (by decide) rfl trivial dX7_init_72 ?_
  refine pm_aload_n hC 0 (by decide) dX7_init_75 rfl ?_
  refine pm_bipush (v := 60) hC dX7_init_76 (by decide) ?_
  refine pm_newa_int (len := 60) hC 1043 rfl rfl (by decide) (by decide +kernel) (by rw [hT]; decide) dX7_init_78 ?_
  refine pm_putF hC 15 fl_X7_44 rfl (hI rfl) rfl rfl rfl (by decide) rfl trivial dX7_init_80 ?_
  refine pm_aload_n hC 0 (by decide) dX7_init_83 rfl ?_
  refine pm_bipush (v := 60) hC dX7_init_84 (by decide) ?_
  refine pm_newa_boolean (len := 60) hC 1127 rfl rfl (by decide) (by decide +kernel) (by rw [hT]; decide) dX7_init_86 ?_
  refine pm_putF hC 15 fl_X7_47 rfl (hI rfl) rfl rfl rfl (by decide) rfl trivial dX7_init_88 ?_
  have hown : pm_wa 15 16 (pm_up (pm_clr (pm_up (pm_clr (pm_up (pm_clr (pm_up (pm_clr (pm_up (pm_clr (pm_up (pm_up (pm_clr (pm_up (pm_clr (pm_up (pm_clr (pm_up (pm_clr (pm_up (pm_up V0 15 0 0) 15 1 0) 16 (fun _ => 0)) 15 2 16) 17 (fun _ => 0)) 15 3 17) 18 (fun _ => 0)) 15 4 18) 19 (fun _ => 0)) 15 5 19) 15 6 0) 20 (fun _ => 0)) 15 7 20) 21 (fun _ => 0)) 15 8 21) 22 (fun _ => 0)) 15 9 22) 23 (fun _ => 0)) 15 10 23) 24 (fun _ => 0)) 15 11 24) := pm_wa.one fun i hi => match i, hi with
    | 0, _ => rfl
    | 1, _ => rfl
    | 2, _ => rfl
    | 3, _ => rfl
    | 4, _ => rfl
    | 5, _ => rfl
    | 6, _ => rfl
    | 7, _ => rfl
    | 8, _ => rfl
    | 9, _ => rfl
    | 10, _ => rfl
    | 11, _ => rfl
    | (j + 12), h => absurd h (Nat.not_lt.mpr (Nat.le_add_left 12 j))
  have ha1 : pm_wa 16 17 (pm_up (pm_clr (pm_up (pm_clr (pm_up (pm_clr (pm_up (pm_clr (pm_up (pm_clr (pm_up (pm_up (pm_clr (pm_up (pm_clr (pm_up (pm_clr (pm_up (pm_clr (pm_up (pm_up V0 15 0 0) 15 1 0) 16 (fun _ => 0)) 15 2 16) 17 (fun _ => 0)) 15 3 17) 18 (fun _ => 0)) 15 4 18) 19 (fun _ => 0)) 15 5 19) 15 6 0) 20 (fun _ => 0)) 15 7 20) 21 (fun _ => 0)) 15 8 21) 22 (fun _ => 0)) 15 9 22) 23 (fun _ => 0)) 15 10 23) 24 (fun _ => 0)) 15 11 24) := pm_wa.one fun i _ => rfl
  have ha2 : pm_wa 17 18 (pm_up (pm_clr (pm_up (pm_clr (pm_up (pm_clr (pm_up (pm_clr (pm_up (pm_clr (pm_up (pm_up (pm_clr (pm_up (pm_clr (pm_up (pm_clr (pm_up (pm_clr (pm_up (pm_up V0 15 0 0) 15 1 0) 16 (fun _ => 0)) 15 2 16) 17 (fun _ => 0)) 15 3 17) 18 (fun _ => 0)) 15 4 18) 19 (fun _ => 0)) 15 5 19) 15 6 0) 20 (fun _ => 0)) 15 7 20) 21 (fun _ => 0)) 15 8 21) 22 (fun _ => 0)) 15 9 22) 23 (fun _ => 0)) 15 10 23) 24 (fun _ => 0)) 15 11 24) := pm_wa.one fun i _ => rfl
  have ha3 : pm_wa 18 19 (pm_up (pm_clr (pm_up (pm_clr (pm_up (pm_clr (pm_up (pm_clr (pm_up (pm_clr (pm_up (pm_up (pm_clr (pm_up (pm_clr (pm_up (pm_clr (pm_up (pm_clr (pm_up (pm_up V0 15 0 0) 15 1 0) 16 (fun _ => 0)) 15 2 16) 17 (fun _ => 0)) 15 3 17) 18 (fun _ => 0)) 15 4 18) 19 (fun _ => 0)) 15 5 19) 15 6 0) 20 (fun _ => 0)) 15 7 20) 21 (fun _ => 0)) 15 8 21) 22 (fun _ => 0)) 15 9 22) 23 (fun _ => 0)) 15 10 23) 24 (fun _ => 0)) 15 11 24) := pm_wa.one fun i _ => rfl
  have ha4 : pm_wa 19 20 (pm_up (pm_clr (pm_up (pm_clr (pm_up (pm_clr (pm_up (pm_clr (pm_up (pm_clr (pm_up (pm_up (pm_clr (pm_up (pm_clr (pm_up (pm_clr (pm_up (pm_clr (pm_up (pm_up V0 15 0 0) 15 1 0) 16 (fun _ => 0)) 15 2 16) 17 (fun _ => 0)) 15 3 17) 18 (fun _ => 0)) 15 4 18) 19 (fun _ => 0)) 15 5 19) 15 6 0) 20 (fun _ => 0)) 15 7 20) 21 (fun _ => 0)) 15 8 21) 22 (fun _ => 0)) 15 9 22) 23 (fun _ => 0)) 15 10 23) 24 (fun _ => 0)) 15 11 24) := pm_wa.one fun i _ => rfl
  have ha5 : pm_wa 20 21 (pm_up (pm_clr (pm_up (pm_clr (pm_up (pm_clr (pm_up (pm_clr (pm_up (pm_clr (pm_up (pm_up (pm_clr (pm_up (pm_clr (pm_up (pm_clr (pm_up (pm_clr (pm_up (pm_up V0 15 0 0) 15 1 0) 16 (fun _ => 0)) 15 2 16) 17 (fun _ => 0)) 15 3 17) 18 (fun _ => 0)) 15 4 18) 19 (fun _ => 0)) 15 5 19) 15 6 0) 20 (fun _ => 0)) 15 7 20) 21 (fun _ => 0)) 15 8 21) 22 (fun _ => 0)) 15 9 22) 23 (fun _ => 0)) 15 10 23) 24 (fun _ => 0)) 15 11 24) := pm_wa.one fun i _ => rfl
  have ha6 : pm_wa 21 22 (pm_up (pm_clr (pm_up (pm_clr (pm_up (pm_clr (pm_up (pm_clr (pm_up (pm_clr (pm_up (pm_up (pm_clr (pm_up (pm_clr (pm_up (pm_clr (pm_up (pm_clr (pm_up (pm_up V0 15 0 0) 15 1 0) 16 (fun _ => 0)) 15 2 16) 17 (fun _ => 0)) 15 3 17) 18 (fun _ => 0)) 15 4 18) 19 (fun _ => 0)) 15 5 19) 15 6 0) 20 (fun _ => 0)) 15 7 20) 21 (fun _ => 0)) 15 8 21) 22 (fun _ => 0)) 15 9 22) 23 (fun _ => 0)) 15 10 23) 24 (fun _ => 0)) 15 11 24) := pm_wa.one fun i _ => rfl
  have ha7 : pm_wa 22 23 (pm_up (pm_clr (pm_up (pm_clr (pm_up (pm_clr (pm_up (pm_clr (pm_up (pm_clr (pm_up (pm_up (pm_clr (pm_up (pm_clr (pm_up (pm_clr (pm_up (pm_clr (pm_up (pm_up V0 15 0 0) 15 1 0) 16 (fun _ => 0)) 15 2 16) 17 (fun _ => 0)) 15 3 17) 18 (fun _ => 0)) 15 4 18) 19 (fun _ => 0)) 15 5 19) 15 6 0) 20 (fun _ => 0)) 15 7 20) 21 (fun _ => 0)) 15 8 21) 22 (fun _ => 0)) 15 9 22) 23 (fun _ => 0)) 15 10 23) 24 (fun _ => 0)) 15 11 24) := pm_wa.one fun i _ => rfl
  have ha8 : pm_wa 23 24 (pm_up (pm_clr (pm_up (pm_clr (pm_up (pm_clr (pm_up (pm_clr (pm_up (pm_clr (pm_up (pm_up (pm_clr (pm_up (pm_clr (pm_up (pm_clr (pm_up (pm_clr (pm_up (pm_up V0 15 0 0) 15 1 0) 16 (fun _ => 0)) 15 2 16) 17 (fun _ => 0)) 15 3 17) 18 (fun _ => 0)) 15 4 18) 19 (fun _ => 0)) 15 5 19) 15 6 0) 20 (fun _ => 0)) 15 7 20) 21 (fun _ => 0)) 15 8 21) 22 (fun _ => 0)) 15 9 22) 23 (fun _ => 0)) 15 10 23) 24 (fun _ => 0)) 15 11 24) := pm_wa.one fun i _ => rfl
  have ha9 : pm_wa 24 25 (pm_up (pm_clr (pm_up (pm_clr (pm_up (pm_clr (pm_up (pm_clr (pm_up (pm_clr (pm_up (pm_up (pm_clr (pm_up (pm_clr (pm_up (pm_clr (pm_up (pm_clr (pm_up (pm_up V0 15 0 0) 15 1 0) 16 (fun _ => 0)) 15 2 16) 17 (fun _ => 0)) 15 3 17) 18 (fun _ => 0)) 15 4 18) 19 (fun _ => 0)) 15 5 19) 15 6 0) 20 (fun _ => 0)) 15 7 20) 21 (fun _ => 0)) 15 8 21) 22 (fun _ => 0)) 15 9 22) 23 (fun _ => 0)) 15 10 23) 24 (fun _ => 0)) 15 11 24) := pm_wa.one fun i _ => rfl
  exact pm_vret hC hR ⟨rfl, (((((((((hown.app ha1).app ha2).app ha3).app ha4).app ha5).app ha6).app ha7).app ha8).app ha9), fun k hk => ((pm_up_k (by omega)).trans ((pm_clr_k (by omega)).trans ((pm_up_k (by omega)).trans ((pm_clr_k (by omega)).trans ((pm_up_k (by omega)).trans ((pm_clr_k (by omega)).trans ((pm_up_k (by omega)).trans ((pm_clr_k (by omega)).trans ((pm_up_k (by omega)).trans ((pm_clr_k (by omega)).trans ((pm_up_k (by omega)).trans ((pm_up_k (by omega)).trans ((pm_clr_k (by omega)).trans ((pm_up_k (by omega)).trans ((pm_clr_k (by omega)).trans ((pm_up_k (by omega)).trans ((pm_clr_k (by omega)).trans ((pm_up_k (by omega)).trans ((pm_clr_k (by omega)).trans ((pm_up_k (by omega)).trans ((pm_up_k (by omega)).trans (Eq.refl _)))))))))))))))))))))).trans rfl⟩ dX7_init_91
set_option maxHeartbeats 4000000 in
set_option maxRecDepth 100000 in
theorem i_X7_init_25 : pm_MT 1 yX7_init cX7_init 1 none 26 35 (fun av V => av = [(3, 25)] ∧ ∀ i, V 25 i = pm_dv (pm_ty 7 i)) (fun _ V r V' => r = none ∧ pm_wa 25 35 V' ∧ ∀ k, k < 25 → V' k = V k) := by
  refine pm_MT.of (by decide) ⟨by decide, by decide⟩ (fun av V h => by rw [h.1]; exact (by decide : pm_words [(3, 0)] ≤ 1)) ?_
  rintro X av V0 hC hI hR ⟨rfl, hD⟩
  have hT := pm_Rt.top hR
  change pm_J X 0 [(0, (3, 25))] [] 26 V0
  refine pm_aload_n hC 0 (by decide) dX7_init_0 rfl ?_
  refine pm_objInit hC 1077 1025 1026 (by decide) (by decide) (by decide +kernel) (by decide +kernel) (by decide +kernel) (Nat.le_of_ble_eq_true rfl) dX7_init_1 ?_
  refine pm_aload_n hC 0 (by decide) dX7_init_4 rfl ?_
  refine pm_iconst (v := 0) hC dX7_init_5 ?_
  refine pm_putf hC 25 fl_X7_9 rfl rfl rfl (by decide) rfl (Or.inl rfl) dX7_init_6 ?_
  refine pm_aload_n hC 0 (by decide) dX7_init_9 rfl ?_
  refine pm_iconst (v := 0) hC dX7_init_10 ?_
  refine pm_putf hC 25 fl_X7_15 rfl rfl rfl (by decide) rfl trivial dX7_init_11 ?_
  refine pm_aload_n hC 0 (by decide) dX7_init_14 rfl ?_
  refine pm_bipush (v := 10) hC dX7_init_15 (by decide) ?_
  refine pm_newa_int (len := 10) hC 1043 rfl rfl (by decide) (by decide +kernel) (by rw [hT]; decide) dX7_init_17 ?_
  refine pm_putF hC 25 fl_X7_19 rfl (hI rfl) rfl rfl rfl (by decide) rfl trivial dX7_init_19 ?_
  refine pm_aload_n hC 0 (by decide) dX7_init_22 rfl ?_
  refine pm_bipush (v := 10) hC dX7_init_23 (by decide) ?_
  refine pm_newa_int (len := 10) hC 1043 rfl rfl (by decide) (by decide +kernel) (by rw [hT]; decide) dX7_init_25 ?_
  refine pm_putF hC 25 fl_X7_23 rfl (hI rfl) rfl rfl rfl (by decide) rfl trivial dX7_init_27 ?_
  refine pm_aload_n hC 0 (by decide) dX7_init_30 rfl ?_
  refine pm_bipush (v := 10) hC dX7_init_31 (by decide) ?_
  refine pm_newa_int (len := 10) hC 1043 rfl rfl (by decide) (by decide +kernel) (by rw [hT]; decide) dX7_init_33 ?_
  refine pm_putF hC 25 fl_X7_26 rfl (hI rfl) rfl rfl rfl (by decide) rfl trivial dX7_init_35 ?_
  refine pm_aload_n hC 0 (by decide) dX7_init_38 rfl ?_
  refine pm_bipush (v := 10) hC dX7_init_39 (by decide) ?_
  refine pm_newa_int (len := 10) hC 1043 rfl rfl (by decide) (by decide +kernel) (by rw [hT]; decide) dX7_init_41 ?_
  refine pm_putF hC 25 fl_X7_29 rfl (hI rfl) rfl rfl rfl (by decide) rfl trivial dX7_init_43 ?_
  refine pm_aload_n hC 0 (by decide) dX7_init_46 rfl ?_
  refine pm_iconst (v := 0) hC dX7_init_47 ?_
  refine pm_putf hC 25 fl_X7_32 rfl rfl rfl (by decide) rfl trivial dX7_init_48 ?_
  refine pm_aload_n hC 0 (by decide) dX7_init_51 rfl ?_
  refine pm_bipush (v := 60) hC dX7_init_52 (by decide) ?_
  refine pm_newa_int (len := 60) hC 1043 rfl rfl (by decide) (by decide +kernel) (by rw [hT]; decide) dX7_init_54 ?_
  refine pm_putF hC 25 fl_X7_35 rfl (hI rfl) rfl rfl rfl (by decide) rfl trivial dX7_init_56 ?_
  refine pm_aload_n hC 0 (by decide) dX7_init_59 rfl ?_
  refine pm_bipush (v := 60) hC dX7_init_60 (by decide) ?_
  refine pm_newa_int (len := 60) hC 1043 rfl rfl (by decide) (by decide +kernel) (by rw [hT]; decide) dX7_init_62 ?_
  refine pm_putF hC 25 fl_X7_38 rfl (hI rfl) rfl rfl rfl (by decide) rfl trivial dX7_init_64 ?_
  refine pm_aload_n hC 0 (by decide) dX7_init_67 rfl ?_
  refine pm_bipush (v := 60) hC dX7_init_68 (by decide) ?_
  refine pm_newa_int (len := 60) hC 1043 rfl rfl (by decide) (by decide +kernel) (by rw [hT]; decide) dX7_init_70 ?_
  refine pm_putF hC 25 fl_X7_41 rfl (hI rfl) rfl rfl rfl (by decide) rfl trivial dX7_init_72 ?_
  refine pm_aload_n hC 0 (by decide) dX7_init_75 rfl ?_
  refine pm_bipush (v := 60) hC dX7_init_76 (by decide) ?_
  refine pm_newa_int (len := 60) hC 1043 rfl rfl (by decide) (by decide +kernel) (by rw [hT]; decide) dX7_init_78 ?_
  refine pm_putF hC 25 fl_X7_44 rfl (hI rfl) rfl rfl rfl (by decide) rfl trivial dX7_init_80 ?_
  refine pm_aload_n hC 0 (by decide) dX7_init_83 rfl ?_
  refine pm_bipush (v := 60) hC dX7_init_84 (by decide) ?_
  refine pm_newa_boolean (len := 60) hC 1127 rfl rfl (by decide) (by decide +kernel) (by rw [hT]; decide) dX7_init_86 ?_
  refine pm_putF hC 25 fl_X7_47 rfl (hI rfl) rfl rfl rfl (by decide) rfl trivial dX7_init_88 ?_
  have hown : pm_wa 25 26 (pm_up (pm_clr (pm_up (pm_clr (pm_up (pm_clr (pm_up (pm_clr (pm_up (pm_clr (pm_up (pm_up (pm_clr (pm_up (pm_clr (pm_up (pm_clr (pm_up (pm_clr (pm_up (pm_up V0 25 0 0) 25 1 0) 26 (fun _ => 0)) 25 2 26) 27 (fun _ => 0)) 25 3 27) 28 (fun _ => 0)) 25 4 28) 29 (fun _ => 0)) 25 5 29) 25 6 0) 30 (fun _ => 0)) 25 7 30) 31 (fun _ => 0)) 25 8 31) 32 (fun _ => 0)) 25 9 32) 33 (fun _ => 0)) 25 10 33) 34 (fun _ => 0)) 25 11 34) := pm_wa.one fun i hi => match i, hi with
    | 0, _ => rfl
    | 1, _ => rfl
    | 2, _ => rfl
    | 3, _ => rfl
    | 4, _ => rfl
    | 5, _ => rfl
    | 6, _ => rfl
    | 7, _ => rfl
    | 8, _ => rfl
    | 9, _ => rfl
    | 10, _ => rfl
    | 11, _ => rfl
    | (j + 12), h => absurd h (Nat.not_lt.mpr (Nat.le_add_left 12 j))
  have ha1 : pm_wa 26 27 (pm_up (pm_clr (pm_up (pm_clr (pm_up (pm_clr (pm_up (pm_clr (pm_up (pm_clr (pm_up (pm_up (pm_clr (pm_up (pm_clr (pm_up (pm_clr (pm_up (pm_clr (pm_up (pm_up V0 25 0 0) 25 1 0) 26 (fun _ => 0)) 25 2 26) 27 (fun _ => 0)) 25 3 27) 28 (fun _ => 0)) 25 4 28) 29 (fun _ => 0)) 25 5 29) 25 6 0) 30 (fun _ => 0)) 25 7 30) 31 (fun _ => 0)) 25 8 31) 32 (fun _ => 0)) 25 9 32) 33 (fun _ => 0)) 25 10 33) 34 (fun _ => 0)) 25 11 34) := pm_wa.one fun i _ => rfl
  have ha2 : pm_wa 27 28 (pm_up (pm_clr (pm_up (pm_clr (pm_up (pm_clr (pm_up (pm_clr (pm_up (pm_clr (pm_up (pm_up (pm_clr (pm_up (pm_clr (pm_up (pm_clr (pm_up (pm_clr (pm_up (pm_up V0 25 0 0) 25 1 0) 26 (fun _ => 0)) 25 2 26) 27 (fun _ => 0)) 25 3 27) 28 (fun _ => 0)) 25 4 28) 29 (fun _ => 0)) 25 5 29) 25 6 0) 30 (fun _ => 0)) 25 7 30) 31 (fun _ => 0)) 25 8 31) 32 (fun _ => 0)) 25 9 32) 33 (fun _ => 0)) 25 10 33) 34 (fun _ => 0)) 25 11 34) := pm_wa.one fun i _ => rfl
  have ha3 : pm_wa 28 29 (pm_up (pm_clr (pm_up (pm_clr (pm_up (pm_clr (pm_up (pm_clr (pm_up (pm_clr (pm_up (pm_up (pm_clr (pm_up (pm_clr (pm_up (pm_clr (pm_up (pm_clr (pm_up (pm_up V0 25 0 0) 25 1 0) 26 (fun _ => 0)) 25 2 26) 27 (fun _ => 0)) 25 3 27) 28 (fun _ => 0)) 25 4 28) 29 (fun _ => 0)) 25 5 29) 25 6 0) 30 (fun _ => 0)) 25 7 30) 31 (fun _ => 0)) 25 8 31) 32 (fun _ => 0)) 25 9 32) 33 (fun _ => 0)) 25 10 33) 34 (fun _ => 0)) 25 11 34) := pm_wa.one fun i _ => rfl
  have ha4 : pm_wa 29 30 (pm_up (pm_clr (pm_up (pm_clr (pm_up (pm_clr (pm_up (pm_clr (pm_up (pm_clr (pm_up (pm_up (pm_clr (pm_up (pm_clr (pm_up (pm_clr (pm_up (pm_clr (pm_up (pm_up V0 25 0 0) 25 1 0) 26 (fun _ => 0)) 25 2 26) 27 (fun _ => 0)) 25 3 27) 28 (fun _ => 0)) 25 4 28) 29 (fun _ => 0)) 25 5 29) 25 6 0) 30 (fun _ => 0)) 25 7 30) 31 (fun _ => 0)) 25 8 31) 32 (fun _ => 0)) 25 9 32) 33 (fun _ => 0)) 25 10 33) 34 (fun _ => 0)) 25 11 34) := pm_wa.one fun i _ => rfl
  have ha5 : pm_wa 30 31 (pm_up (pm_clr (pm_up (pm_clr (pm_up (pm_clr (pm_up (pm_clr (pm_up (pm_clr (pm_up (pm_up (pm_clr (pm_up (pm_clr (pm_up (pm_clr (pm_up (pm_clr (pm_up (pm_up V0 25 0 0) 25 1 0) 26 (fun _ => 0)) 25 2 26) 27 (fun _ => 0)) 25 3 27) 28 (fun _ => 0)) 25 4 28) 29 (fun _ => 0)) 25 5 29) 25 6 0) 30 (fun _ => 0)) 25 7 30) 31 (fun _ => 0)) 25 8 31) 32 (fun _ => 0)) 25 9 32) 33 (fun _ => 0)) 25 10 33) 34 (fun _ => 0)) 25 11 34) := pm_wa.one fun i _ => rfl
  have ha6 : pm_wa 31 32 (pm_up (pm_clr (pm_up (pm_clr (pm_up (pm_clr (pm_up (pm_clr (pm_up (pm_clr (pm_up (pm_up (pm_clr (pm_up (pm_clr (pm_up (pm_clr (pm_up (pm_clr (pm_up (pm_up V0 25 0 0) 25 1 0) 26 (fun _ => 0)) 25 2 26) 27 (fun _ => 0)) 25 3 27) 28 (fun _ => 0)) 25 4 28) 29 (fun _ => 0)) 25 5 29) 25 6 0) 30 (fun _ => 0)) 25 7 30) 31 (fun _ => 0)) 25 8 31) 32 (fun _ => 0)) 25 9 32) 33 (fun _ => 0)) 25 10 33) 34 (fun _ => 0)) 25 11 34) := pm_wa.one fun i _ => rfl
  have ha7 : pm_wa 32 33 (pm_up (pm_clr (pm_up (pm_clr (pm_up (pm_clr (pm_up (pm_clr (pm_up (pm_clr (pm_up (pm_up (pm_clr (pm_up (pm_clr (pm_up (pm_clr (pm_up (pm_clr (pm_up (pm_up V0 25 0 0) 25 1 0) 26 (fun _ => 0)) 25 2 26) 27 (fun _ => 0)) 25 3 27) 28 (fun _ => 0)) 25 4 28) 29 (fun _ => 0)) 25 5 29) 25 6 0) 30 (fun _ => 0)) 25 7 30) 31 (fun _ => 0)) 25 8 31) 32 (fun _ => 0)) 25 9 32) 33 (fun _ => 0)) 25 10 33) 34 (fun _ => 0)) 25 11 34) := pm_wa.one fun i _ => rfl
  have ha8 : pm_wa 33 34 (pm_up (pm_clr (pm_up (pm_clr (pm_up (pm_clr (pm_up (pm_clr (pm_up (pm_clr (pm_up (pm_up (pm_clr (pm_up (pm_clr (pm_up (pm_clr (pm_up (pm_clr (pm_up (pm_up V0 25 0 0) 25 1 0) 26 (fun _ => 0)) 25 2 26) 27 (fun _ => 0)) 25 3 27) 28 (fun _ => 0)) 25 4 28) 29 (fun _ => 0)) 25 5 29) 25 6 0) 30 (fun _ => 0)) 25 7 30) 31 (fun _ => 0)) 25 8 31) 32 (fun _ => 0)) 25 9 32) 33 (fun _ => 0)) 25 10 33) 34 (fun _ => 0)) 25 11 34) := pm_wa.one fun i _ => rfl
  have ha9 : pm_wa 34 35 (pm_up (pm_clr (pm_up (pm_clr (pm_up (pm_clr (pm_up (pm_clr (pm_up (pm_clr (pm_up (pm_up (pm_clr (pm_up (pm_clr (pm_up (pm_clr (pm_up (pm_clr (pm_up (pm_up V0 25 0 0) 25 1 0) 26 (fun _ => 0)) 25 2 26) 27 (fun _ => 0)) 25 3 27) 28 (fun _ => 0)) 25 4 28) 29 (fun _ => 0)) 25 5 29) 25 6 0) 30 (fun _ => 0)) 25 7 30) 31 (fun _ => 0)) 25 8 31) 32 (fun _ => 0)) 25 9 32) 33 (fun _ => 0)) 25 10 33) 34 (fun _ => 0)) 25 11 34) := pm_wa.one fun i _ => rfl
  exact pm_vret hC hR ⟨rfl, (((((((((hown.app ha1).app ha2).app ha3).app ha4).app ha5).app ha6).app ha7).app ha8).app ha9), fun k hk => ((pm_up_k (by omega)).trans ((pm_clr_k (by omega)).trans ((pm_up_k (by omega)).trans ((pm_clr_k (by omega)).trans ((pm_up_k (by omega)).trans ((pm_clr_k (by omega)).trans ((pm_up_k (by omega)).trans ((pm_clr_k (by omega)).trans ((pm_up_k (by omega)).trans ((pm_clr_k (by omega)).trans ((pm_up_k (by omega)).trans ((pm_up_k (by omega)).trans ((pm_clr_k (by omega)).trans ((pm_up_k (by omega)).trans ((pm_clr_k (by omega)).trans ((pm_up_k (by omega)).trans ((pm_clr_k (by omega)).trans ((pm_up_k (by omega)).trans ((pm_clr_k (by omega)).trans ((pm_up_k (by omega)).trans ((pm_up_k (by omega)).trans (Eq.refl _)))))))))))))))))))))).trans rfl⟩ dX7_init_91
set_option maxHeartbeats 4000000 in
set_option maxRecDepth 100000 in
theorem i_X7_init_35 : pm_MT 1 yX7_init cX7_init 1 none 36 45 (fun av V => av = [(3, 35)] ∧ ∀ i, V 35 i = pm_dv (pm_ty 7 i)) (fun _ V r V' => r = none ∧ pm_wa 35 45 V' ∧ ∀ k, k < 35 → V' k = V k) := by
  refine pm_MT.of (by decide) ⟨by decide, by decide⟩ (fun av V h => by rw [h.1]; exact (by decide : pm_words [(3, 0)] ≤ 1)) ?_
  rintro X av V0 hC hI hR ⟨rfl, hD⟩
  have hT := pm_Rt.top hR
  change pm_J X 0 [(0, (3, 35))] [] 36 V0
  refine pm_aload_n hC 0 (by decide) dX7_init_0 rfl ?_
  refine pm_objInit hC 1077 1025 1026 (by decide) (by decide) (by decide +kernel) (by decide +kernel) (by decide +kernel) (Nat.le_of_ble_eq_true rfl) dX7_init_1 ?_
  refine pm_aload_n hC 0 (by decide) dX7_init_4 rfl ?_
  refine pm_iconst (v := 0) hC dX7_init_5 ?_
  refine pm_putf hC 35 fl_X7_9 rfl rfl rfl (by decide) rfl (Or.inl rfl) dX7_init_6 ?_
  refine pm_aload_n hC 0 (by decide) dX7_init_9 rfl ?_
  refine pm_iconst (v := 0) hC dX7_init_10 ?_
  refine pm_putf hC 35 fl_X7_15 rfl rfl rfl (by decide) rfl trivial dX7_init_11 ?_
  refine pm_aload_n hC 0 (by decide) dX7_init_14 rfl ?_
  refine pm_bipush (v := 10) hC dX7_init_15 (by decide) ?_
  refine pm_newa_int (len := 10) hC 1043 rfl rfl (by decide) (by decide +kernel) (by rw [hT]; decide) dX7_init_17 ?_
  refine pm_putF hC 35 fl_X7_19 rfl (hI rfl) rfl rfl rfl (by decide) rfl trivial dX7_init_19 ?_
  refine pm_aload_n hC 0 (by decide) dX7_init_22 rfl ?_
  refine pm_bipush (v := 10) hC dX7_init_23 (by decide) ?_
  refine pm_newa_int (len := 10) hC 1043 rfl rfl (by decide) (by decide +kernel) (by rw [hT]; decide) dX7_init_25 ?_
  refine pm_putF hC 35 fl_X7_23 rfl (hI rfl) rfl rfl rfl (by decide) rfl trivial dX7_init_27 ?_
  refine pm_aload_n hC 0 (by decide) dX7_init_30 rfl ?_
  refine pm_bipush (v := 10) hC dX7_init_31 (by decide) ?_
  refine pm_newa_int (len := 10) hC 1043 rfl rfl (by decide) (by decide +kernel) (by rw [hT]; decide) dX7_init_33 ?_
  refine pm_putF hC 35 fl_X7_26 rfl (hI rfl) rfl rfl rfl (by decide) rfl trivial dX7_init_35 ?_
  refine pm_aload_n hC 0 (by decide) dX7_init_38 rfl ?_
  refine pm_bipush (v := 10) hC dX7_init_39 (by decide) ?_
  refine pm_newa_int (len := 10) hC 1043 rfl rfl (by decide) (by decide +kernel) (by rw [hT]; decide) dX7_init_41 ?_
  refine pm_putF hC 35 fl_X7_29 rfl (hI rfl) rfl rfl rfl (by decide) rfl trivial dX7_init_43 ?_
  refine pm_aload_n hC 0 (by decide) dX7_init_46 rfl ?_
  refine pm_iconst (v := 0) hC dX7_init_47 ?_
  refine pm_putf hC 35 fl_X7_32 rfl rfl rfl (by decide) rfl trivial dX7_init_48 ?_
  refine pm_aload_n hC 0 (by decide) dX7_init_51 rfl ?_
  refine pm_bipush (v := 60) hC dX7_init_52 (by decide) ?_
  refine pm_newa_int (len := 60) hC 1043 rfl rfl (by decide) (by decide +kernel) (by rw [hT]; decide) dX7_init_54 ?_
  refine pm_putF hC 35 fl_X7_35 rfl (hI rfl) rfl rfl rfl (by decide) rfl trivial dX7_init_56 ?_
  refine pm_aload_n hC 0 (by decide) dX7_init_59 rfl ?_
  refine pm_bipush (v := 60) hC dX7_init_60 (by decide) ?_
  refine pm_newa_int (len := 60) hC 1043 rfl rfl (by decide) (by decide +kernel) (by rw [hT]; decide) dX7_init_62 ?_
  refine pm_putF hC 35 fl_X7_38 rfl (hI rfl) rfl rfl rfl (by decide) rfl trivial dX7_init_64 ?_
  refine pm_aload_n hC 0 (by decide) dX7_init_67 rfl ?_
  refine pm_bipush (v := 60) hC dX7_init_68 (by decide) ?_
  refine pm_newa_int (len := 60) hC 1043 rfl rfl (by decide) (by decide +kernel) (by rw [hT]; decide) dX7_init_70 ?_
  refine pm_putF hC 35 fl_X7_41 rfl (hI rfl) rfl rfl rfl (by decide) rfl trivial dX7_init_72 ?_
  refine pm_aload_n hC 0 (by decide) dX7_init_75 rfl ?_
  refine pm_bipush (v := 60) hC dX7_init_76 (by decide) ?_
  refine pm_newa_int (len := 60) hC 1043 rfl rfl (by decide) (by decide +kernel) (by rw [hT]; decide) dX7_init_78 ?_
  refine pm_putF hC 35 fl_X7_44 rfl (hI rfl) rfl rfl rfl (by decide) rfl trivial dX7_init_80 ?_
  refine pm_aload_n hC 0 (by decide) dX7_init_83 rfl ?_
  refine pm_bipush (v := 60) hC dX7_init_84 (by decide) ?_
  refine pm_newa_boolean (len := 60) hC 1127 rfl rfl (by decide) (by decide +kernel) (by rw [hT]; decide) dX7_init_86 ?_
  refine pm_putF hC 35 fl_X7_47 rfl (hI rfl) rfl rfl rfl (by decide) rfl trivial dX7_init_88 ?_
  have hown : pm_wa 35 36 (pm_up (pm_clr (pm_up (pm_clr (pm_up (pm_clr (pm_up (pm_clr (pm_up (pm_clr (pm_up (pm_up (pm_clr (pm_up (pm_clr (pm_up (pm_clr (pm_up (pm_clr (pm_up (pm_up V0 35 0 0) 35 1 0) 36 (fun _ => 0)) 35 2 36) 37 (fun _ => 0)) 35 3 37) 38 (fun _ => 0)) 35 4 38) 39 (fun _ => 0)) 35 5 39) 35 6 0) 40 (fun _ => 0)) 35 7 40) 41 (fun _ => 0)) 35 8 41) 42 (fun _ => 0)) 35 9 42) 43 (fun _ => 0)) 35 10 43) 44 (fun _ => 0)) 35 11 44) := pm_wa.one fun i hi => match i, hi with
    | 0, _ => rfl
    | 1, _ => rfl
    | 2, _ => rfl
    | 3, _ => rfl
    | 4, _ => rfl
    | 5, _ => rfl
    | 6, _ => rfl
    | 7, _ => rfl
    | 8, _ => rfl
    | 9, _ => rfl
    | 10, _ => rfl
    | 11, _ => rfl
    | (j + 12), h => absurd h (Nat.not_lt.mpr (Nat.le_add_left 12 j))
  have ha1 : pm_wa 36 37 (pm_up (pm_clr (pm_up (pm_clr (pm_up (pm_clr (pm_up (pm_clr (pm_up (pm_clr (pm_up (pm_up (pm_clr (pm_up (pm_clr (pm_up (pm_clr (pm_up (pm_clr (pm_up (pm_up V0 35 0 0) 35 1 0) 36 (fun _ => 0)) 35 2 36) 37 (fun _ => 0)) 35 3 37) 38 (fun _ => 0)) 35 4 38) 39 (fun _ => 0)) 35 5 39) 35 6 0) 40 (fun _ => 0)) 35 7 40) 41 (fun _ => 0)) 35 8 41) 42 (fun _ => 0)) 35 9 42) 43 (fun _ => 0)) 35 10 43) 44 (fun _ => 0)) 35 11 44) := pm_wa.one fun i _ => rfl
  have ha2 : pm_wa 37 38 (pm_up (pm_clr (pm_up (pm_clr (pm_up (pm_clr (pm_up (pm_clr (pm_up (pm_clr (pm_up (pm_up (pm_clr (pm_up (pm_clr (pm_up (pm_clr (pm_up (pm_clr (pm_up (pm_up V0 35 0 0) 35 1 0) 36 (fun _ => 0)) 35 2 36) 37 (fun _ => 0)) 35 3 37) 38 (fun _ => 0)) 35 4 38) 39 (fun _ => 0)) 35 5 39) 35 6 0) 40 (fun _ => 0)) 35 7 40) 41 (fun _ => 0)) 35 8 41) 42 (fun _ => 0)) 35 9 42) 43 (fun _ => 0)) 35 10 43) 44 (fun _ => 0)) 35 11 44) := pm_wa.one fun i _ => rfl
  have ha3 : pm_wa 38 39 (pm_up (pm_clr (pm_up (pm_clr (pm_up (pm_clr (pm_up (pm_clr (pm_up (pm_clr (pm_up (pm_up (pm_clr (pm_up (pm_clr (pm_up (pm_clr (pm_up (pm_clr (pm_up (pm_up V0 35 0 0) 35 1 0) 36 (fun _ => 0)) 35 2 36) 37 (fun _ => 0)) 35 3 37) 38 (fun _ => 0)) 35 4 38) 39 (fun _ => 0)) 35 5 39) 35 6 0) 40 (fun _ => 0)) 35 7 40) 41 (fun _ => 0)) 35 8 41) 42 (fun _ => 0)) 35 9 42) 43 (fun _ => 0)) 35 10 43) 44 (fun _ => 0)) 35 11 44) := pm_wa.one fun i _ => rfl
  have ha4 : pm_wa 39 40 (pm_up (pm_clr (pm_up (pm_clr (pm_up (pm_clr (pm_up (pm_clr (pm_up (pm_clr (pm_up (pm_up (pm_clr (pm_up (pm_clr (pm_up (pm_clr (pm_up (pm_clr (pm_up (pm_up V0 35 0 0) 35 1 0) 36 (fun _ => 0)) 35 2 36) 37 (fun _ => 0)) 35 3 37) 38 (fun _ => 0)) 35 4 38) 39 (fun _ => 0)) 35 5 39) 35 6 0) 40 (fun _ => 0)) 35 7 40) 41 (fun _ => 0)) 35 8 41) 42 (fun _ => 0)) 35 9 42) 43 (fun _ => 0)) 35 10 43) 44 (fun _ => 0)) 35 11 44) := pm_wa.one fun i _ => rfl
  have ha5 : pm_wa 40 41 (pm_up (pm_clr (pm_up (pm_clr (pm_up (pm_clr (pm_up (pm_clr (pm_up (pm_clr (pm_up (pm_up (pm_clr (pm_up (pm_clr (pm_up (pm_clr (pm_up (pm_clr (pm_up (pm_up V0 35 0 0) 35 1 0) 36 (fun _ => 0)) 35 2 36) 37 (fun _ => 0)) 35 3 37) 38 (fun _ => 0)) 35 4 38) 39 (fun _ => 0)) 35 5 39) 35 6 0) 40 (fun _ => 0)) 35 7 40) 41 (fun _ => 0)) 35 8 41) 42 (fun _ => 0)) 35 9 42) 43 (fun _ => 0)) 35 10 43) 44 (fun _ => 0)) 35 11 44) := pm_wa.one fun i _ => rfl
  have ha6 : pm_wa 41 42 (pm_up (pm_clr (pm_up (pm_clr (pm_up (pm_clr (pm_up (pm_clr (pm_up (pm_clr (pm_up (pm_up (pm_clr (pm_up (pm_clr (pm_up (pm_clr (pm_up (pm_clr (pm_up (pm_up V0 35 0 0) 35 1 0) 36 (fun _ => 0)) 35 2 36) 37 (fun _ => 0)) 35 3 37) 38 (fun _ => 0)) 35 4 38) 39 (fun _ => 0)) 35 5 39) 35 6 0) 40 (fun _ => 0)) 35 7 40) 41 (fun _ => 0)) 35 8 41) 42 (fun _ => 0)) 35 9 42) 43 (fun _ => 0)) 35 10 43) 44 (fun _ => 0)) 35 11 44) := pm_wa.one fun i _ => rfl
  have ha7 : pm_wa 42 43 (pm_up (pm_clr (pm_up (pm_clr (pm_up (pm_clr (pm_up (pm_clr (pm_up (pm_clr (pm_up (pm_up (pm_clr (pm_up (pm_clr (pm_up (pm_clr (pm_up (pm_clr (pm_up (pm_up V0 35 0 0) 35 1 0) 36 (fun _ => 0)) 35 2 36) 37 (fun _ => 0)) 35 3 37) 38 (fun _ => 0)) 35 4 38) 39 (fun _ => 0)) 35 5 39) 35 6 0) 40 (fun _ => 0)) 35 7 40) 41 (fun _ => 0)) 35 8 41) 42 (fun _ => 0)) 35 9 42) 43 (fun _ => 0)) 35 10 43) 44 (fun _ => 0)) 35 11 44) := pm_wa.one fun i _ => rfl
  have ha8 : pm_wa 43 44 (pm_up (pm_clr (pm_up (pm_clr (pm_up (pm_clr (pm_up (pm_clr (pm_up (pm_clr (pm_up (pm_up (pm_clr (pm_up (pm_clr (pm_up (pm_clr (pm_up (pm_clr (pm_up (pm_up V0 35 0 0) 35 1 0) 36 (fun _ => 0)) 35 2 36) 37 (fun _ => 0)) 35 3 37) 38 (fun _ => 0)) 35 4 38) 39 (fun _ => 0)) 35 5 39) 35 6 0) 40 (fun _ => 0)) 35 7 40) 41 (fun _ => 0)) 35 8 41) 42 (fun _ => 0)) 35 9 42) 43 (fun _ => 0)) 35 10 43) 44 (fun _ => 0)) 35 11 44) := pm_wa.one fun i _ => rfl
  have ha9 : pm_wa 44 45 (pm_up (pm_clr (pm_up (pm_clr (pm_up (pm_clr (pm_up (pm_clr (pm_up (pm_clr (pm_up (pm_up (pm_clr (pm_up (pm_clr (pm_up (pm_clr (pm_up (pm_clr (pm_up (pm_up V0 35 0 0) 35 1 0) 36 (fun _ => 0)) 35 2 36) 37 (fun _ => 0)) 35 3 37) 38 (fun _ => 0)) 35 4 38) 39 (fun _ => 0)) 35 5 39) 35 6 0) 40 (fun _ => 0)) 35 7 40) 41 (fun _ => 0)) 35 8 41) 42 (fun _ => 0)) 35 9 42) 43 (fun _ => 0)) 35 10 43) 44 (fun _ => 0)) 35 11 44) := pm_wa.one fun i _ => rfl
  exact pm_vret hC hR ⟨rfl, (((((((((hown.app ha1).app ha2).app ha3).app ha4).app ha5).app ha6).app ha7).app ha8).app ha9), fun k hk => ((pm_up_k (by omega)).trans ((pm_clr_k (by omega)).trans ((pm_up_k (by omega)).trans ((pm_clr_k (by omega)).trans ((pm_up_k (by omega)).trans ((pm_clr_k (by omega)).trans ((pm_up_k (by omega)).trans ((pm_clr_k (by omega)).trans ((pm_up_k (by omega)).trans ((pm_clr_k (by omega)).trans ((pm_up_k (by omega)).trans ((pm_up_k (by omega)).trans ((pm_clr_k (by omega)).trans ((pm_up_k (by omega)).trans ((pm_clr_k (by omega)).trans ((pm_up_k (by omega)).trans ((pm_clr_k (by omega)).trans ((pm_up_k (by omega)).trans ((pm_clr_k (by omega)).trans ((pm_up_k (by omega)).trans ((pm_up_k (by omega)).trans (Eq.refl _)))))))))))))))))))))).trans rfl⟩ dX7_init_91
set_option maxHeartbeats 4000000 in
set_option maxRecDepth 100000 in
theorem i_X5_init_45 : pm_MT 1 yX5_init cX5_init 1 none 46 51 (fun av V => av = [(3, 45)] ∧ ∀ i, V 45 i = pm_dv (pm_ty 5 i)) (fun _ V r V' => r = none ∧ pm_wa 45 51 V' ∧ ∀ k, k < 45 → V' k = V k) := by
  refine pm_MT.of (by decide) ⟨by decide, by decide⟩ (fun av V h => by rw [h.1]; exact (by decide : pm_words [(3, 0)] ≤ 1)) ?_
  rintro X av V0 hC hI hR ⟨rfl, hD⟩
  have hT := pm_Rt.top hR
  change pm_J X 0 [(0, (3, 45))] [] 46 V0
  refine pm_aload_n hC 0 (by decide) dX5_init_0 rfl ?_
  refine pm_objInit hC 1134 1025 1026 (by decide) (by decide) (by decide +kernel) (by decide +kernel) (by decide +kernel) (Nat.le_of_ble_eq_true rfl) dX5_init_1 ?_
  refine pm_aload_n hC 0 (by decide) dX5_init_4 rfl ?_
  refine pm_bipush (v := 9) hC dX5_init_5 (by decide) ?_
  refine pm_newa_int (len := 9) hC 1043 rfl rfl (by decide) (by decide +kernel) (by rw [hT]; decide) dX5_init_7 ?_
  refine pm_putF hC 45 fl_X5_9 rfl (hI rfl) rfl rfl rfl (by decide) rfl trivial dX5_init_9 ?_
  refine pm_aload_n hC 0 (by decide) dX5_init_12 rfl ?_
  refine pm_bipush (v := 9) hC dX5_init_13 (by decide) ?_
  refine pm_newa_int (len := 9) hC 1043 rfl rfl (by decide) (by decide +kernel) (by rw [hT]; decide) dX5_init_15 ?_
  refine pm_putF hC 45 fl_X5_15 rfl (hI rfl) rfl rfl rfl (by decide) rfl trivial dX5_init_17 ?_
  refine pm_aload_n hC 0 (by decide) dX5_init_20 rfl ?_
  refine pm_bipush (v := 9) hC dX5_init_21 (by decide) ?_
  refine pm_newa_int (len := 9) hC 1043 rfl rfl (by decide) (by decide +kernel) (by rw [hT]; decide) dX5_init_23 ?_
  refine pm_putF hC 45 fl_X5_18 rfl (hI rfl) rfl rfl rfl (by decide) rfl trivial dX5_init_25 ?_
  refine pm_aload_n hC 0 (by decide) dX5_init_28 rfl ?_
  refine pm_bipush (v := 12) hC dX5_init_29 (by decide) ?_
  refine pm_newa_int (len := 12) hC 1043 rfl rfl (by decide) (by decide +kernel) (by rw [hT]; decide) dX5_init_31 ?_
  refine pm_putF hC 45 fl_X5_21 rfl (hI rfl) rfl rfl rfl (by decide) rfl trivial dX5_init_33 ?_
  refine pm_aload_n hC 0 (by decide) dX5_init_36 rfl ?_
  refine pm_bipush (v := 12) hC dX5_init_37 (by decide) ?_
  refine pm_newa_int (len := 12) hC 1043 rfl rfl (by decide) (by decide +kernel) (by rw [hT]; decide) dX5_init_39 ?_
  refine pm_putF hC 45 fl_X5_24 rfl (hI rfl) rfl rfl rfl (by decide) rfl trivial dX5_init_41 ?_
  have hown : pm_wa 45 46 (pm_up (pm_clr (pm_up (pm_clr (pm_up (pm_clr (pm_up (pm_clr (pm_up (pm_clr V0 46 (fun _ => 0)) 45 1 46) 47 (fun _ => 0)) 45 2 47) 48 (fun _ => 0)) 45 3 48) 49 (fun _ => 0)) 45 11 49) 50 (fun _ => 0)) 45 12 50) := pm_wa.one fun i hi => match i, hi with
    | 0, _ => hD 0
    | 1, _ => rfl
    | 2, _ => rfl
    | 3, _ => rfl
    | 4, _ => hD 4
    | 5, _ => hD 5
    | 6, _ => hD 6
    | 7, _ => hD 7
    | 8, _ => hD 8
    | 9, _ => hD 9
    | 10, _ => hD 10
    | 11, _ => rfl
    | 12, _ => rfl
    | (j + 13), h => absurd h (Nat.not_lt.mpr (Nat.le_add_left 13 j))
  have ha1 : pm_wa 46 47 (pm_up (pm_clr (pm_up (pm_clr (pm_up (pm_clr (pm_up (pm_clr (pm_up (pm_clr V0 46 (fun _ => 0)) 45 1 46) 47 (fun _ => 0)) 45 2 47) 48 (fun _ => 0)) 45 3 48) 49 (fun _ => 0)) 45 11 49) 50 (fun _ => 0)) 45 12 50) := pm_wa.one fun i _ => rfl
  have ha2 : pm_wa 47 48 (pm_up (pm_clr (pm_up (pm_clr (pm_up (pm_clr (pm_up (pm_clr (pm_up (pm_clr V0 46 (fun _ => 0)) 45 1 46) 47 (fun _ => 0)) 45 2 47) 48 (fun _ => 0)) 45 3 48) 49 (fun _ => 0)) 45 11 49) 50 (fun _ => 0)) 45 12 50) := pm_wa.one fun i _ => rfl
  have ha3 : pm_wa 48 49 (pm_up (pm_clr (pm_up (pm_clr (pm_up (pm_clr (pm_up (pm_clr (pm_up (pm_clr V0 46 (fun _ => 0)) 45 1 46) 47 (fun _ => 0)) 45 2 47) 48 (fun _ => 0)) 45 3 48) 49 (fun _ => 0)) 45 11 49) 50 (fun _ => 0)) 45 12 50) := pm_wa.one fun i _ => rfl
  have ha4 : pm_wa 49 50 (pm_up (pm_clr (pm_up (pm_clr (pm_up (pm_clr (pm_up (pm_clr (pm_up (pm_clr V0 46 (fun _ => 0)) 45 1 46) 47 (fun _ => 0)) 45 2 47) 48 (fun _ => 0)) 45 3 48) 49 (fun _ => 0)) 45 11 49) 50 (fun _ => 0)) 45 12 50) := pm_wa.one fun i _ => rfl
  have ha5 : pm_wa 50 51 (pm_up (pm_clr (pm_up (pm_clr (pm_up (pm_clr (pm_up (pm_clr (pm_up (pm_clr V0 46 (fun _ => 0)) 45 1 46) 47 (fun _ => 0)) 45 2 47) 48 (fun _ => 0)) 45 3 48) 49 (fun _ => 0)) 45 11 49) 50 (fun _ => 0)) 45 12 50) := pm_wa.one fun i _ => rfl
  exact pm_vret hC hR ⟨rfl, (((((hown.app ha1).app ha2).app ha3).app ha4).app ha5), fun k hk => ((pm_up_k (by omega)).trans ((pm_clr_k (by omega)).trans ((pm_up_k (by omega)).trans ((pm_clr_k (by omega)).trans ((pm_up_k (by omega)).trans ((pm_clr_k (by omega)).trans ((pm_up_k (by omega)).trans ((pm_clr_k (by omega)).trans ((pm_up_k (by omega)).trans ((pm_clr_k (by omega)).trans (Eq.refl _))))))))))).trans rfl⟩ dX5_init_44
set_option maxHeartbeats 4000000 in
set_option maxRecDepth 100000 in
theorem i_X5_init_51 : pm_MT 1 yX5_init cX5_init 1 none 52 57 (fun av V => av = [(3, 51)] ∧ ∀ i, V 51 i = pm_dv (pm_ty 5 i)) (fun _ V r V' => r = none ∧ pm_wa 51 57 V' ∧ ∀ k, k < 51 → V' k = V k) := by
  refine pm_MT.of (by decide) ⟨by decide, by decide⟩ (fun av V h => by rw [h.1]; exact (by decide : pm_words [(3, 0)] ≤ 1)) ?_
  rintro X av V0 hC hI hR ⟨rfl, hD⟩
  have hT := pm_Rt.top hR
  change pm_J X 0 [(0, (3, 51))] [] 52 V0
  refine pm_aload_n hC 0 (by decide) dX5_init_0 rfl ?_
  refine pm_objInit hC 1134 1025 1026 (by decide) (by decide) (by decide +kernel) (by decide +kernel) (by decide +kernel) (Nat.le_of_ble_eq_true rfl) dX5_init_1 ?_
  refine pm_aload_n hC 0 (by decide) dX5_init_4 rfl ?_
  refine pm_bipush (v := 9) hC dX5_init_5 (by decide) ?_
  refine pm_newa_int (len := 9) hC 1043 rfl rfl (by decide) (by decide +kernel) (by rw [hT]; decide) dX5_init_7 ?_
  refine pm_putF hC 51 fl_X5_9 rfl (hI rfl) rfl rfl rfl (by decide) rfl trivial dX5_init_9 ?_
  refine pm_aload_n hC 0 (by decide) dX5_init_12 rfl ?_
  refine pm_bipush (v := 9) hC dX5_init_13 (by decide) ?_
  refine pm_newa_int (len := 9) hC 1043 rfl rfl (by decide) (by decide +kernel) (by rw [hT]; decide) dX5_init_15 ?_
  refine pm_putF hC 51 fl_X5_15 rfl (hI rfl) rfl rfl rfl (by decide) rfl trivial dX5_init_17 ?_
  refine pm_aload_n hC 0 (by decide) dX5_init_20 rfl ?_
  refine pm_bipush (v := 9) hC dX5_init_21 (by decide) ?_
  refine pm_newa_int (len := 9) hC 1043 rfl rfl (by decide) (by decide +kernel) (by rw [hT]; decide) dX5_init_23 ?_
  refine pm_putF hC 51 fl_X5_18 rfl (hI rfl) rfl rfl rfl (by decide) rfl trivial dX5_init_25 ?_
  refine pm_aload_n hC 0 (by decide) dX5_init_28 rfl ?_
  refine pm_bipush (v := 12) hC dX5_init_29 (by decide) ?_
  refine pm_newa_int (len := 12) hC 1043 rfl rfl (by decide) (by decide +kernel) (by rw [hT]; decide) dX5_init_31 ?_
  refine pm_putF hC 51 fl_X5_21 rfl (hI rfl) rfl rfl rfl (by decide) rfl trivial dX5_init_33 ?_
  refine pm_aload_n hC 0 (by decide) dX5_init_36 rfl ?_
  refine pm_bipush (v := 12) hC dX5_init_37 (by decide) ?_
  refine pm_newa_int (len := 12) hC 1043 rfl rfl (by decide) (by decide +kernel) (by rw [hT]; decide) dX5_init_39 ?_
  refine pm_putF hC 51 fl_X5_24 rfl (hI rfl) rfl rfl rfl (by decide) rfl trivial dX5_init_41 ?_
  have hown : pm_wa 51 52 (pm_up (pm_clr (pm_up (pm_clr (pm_up (pm_clr (pm_up (pm_clr (pm_up (pm_clr V0 52 (fun _ => 0)) 51 1 52) 53 (fun _ => 0)) 51 2 53) 54 (fun _ => 0)) 51 3 54) 55 (fun _ => 0)) 51 11 55) 56 (fun _ => 0)) 51 12 56) := pm_wa.one fun i hi => match i, hi with
    | 0, _ => hD 0
    | 1, _ => rfl
    | 2, _ => rfl
    | 3, _ => rfl
    | 4, _ => hD 4
    | 5, _ => hD 5
    | 6, _ => hD 6
    | 7, _ => hD 7
    | 8, _ => hD 8
    | 9, _ => hD 9
    | 10, _ => hD 10
    | 11, _ => rfl
    | 12, _ => rfl
    | (j + 13), h => absurd h (Nat.not_lt.mpr (Nat.le_add_left 13 j))
  have ha1 : pm_wa 52 53 (pm_up (pm_clr (pm_up (pm_clr (pm_up (pm_clr (pm_up (pm_clr (pm_up (pm_clr V0 52 (fun _ => 0)) 51 1 52) 53 (fun _ => 0)) 51 2 53) 54 (fun _ => 0)) 51 3 54) 55 (fun _ => 0)) 51 11 55) 56 (fun _ => 0)) 51 12 56) := pm_wa.one fun i _ => rfl
  have ha2 : pm_wa 53 54 (pm_up (pm_clr (pm_up (pm_clr (pm_up (pm_clr (pm_up (pm_clr (pm_up (pm_clr V0 52 (fun _ => 0)) 51 1 52) 53 (fun _ => 0)) 51 2 53) 54 (fun _ => 0)) 51 3 54) 55 (fun _ => 0)) 51 11 55) 56 (fun _ => 0)) 51 12 56) := pm_wa.one fun i _ => rfl
  have ha3 : pm_wa 54 55 (pm_up (pm_clr (pm_up (pm_clr (pm_up (pm_clr (pm_up (pm_clr (pm_up (pm_clr V0 52 (fun _ => 0)) 51 1 52) 53 (fun _ => 0)) 51 2 53) 54 (fun _ => 0)) 51 3 54) 55 (fun _ => 0)) 51 11 55) 56 (fun _ => 0)) 51 12 56) := pm_wa.one fun i _ => rfl
  have ha4 : pm_wa 55 56 (pm_up (pm_clr (pm_up (pm_clr (pm_up (pm_clr (pm_up (pm_clr (pm_up (pm_clr V0 52 (fun _ => 0)) 51 1 52) 53 (fun _ => 0)) 51 2 53) 54 (fun _ => 0)) 51 3 54) 55 (fun _ => 0)) 51 11 55) 56 (fun _ => 0)) 51 12 56) := pm_wa.one fun i _ => rfl
  have ha5 : pm_wa 56 57 (pm_up (pm_clr (pm_up (pm_clr (pm_up (pm_clr (pm_up (pm_clr (pm_up (pm_clr V0 52 (fun _ => 0)) 51 1 52) 53 (fun _ => 0)) 51 2 53) 54 (fun _ => 0)) 51 3 54) 55 (fun _ => 0)) 51 11 55) 56 (fun _ => 0)) 51 12 56) := pm_wa.one fun i _ => rfl
  exact pm_vret hC hR ⟨rfl, (((((hown.app ha1).app ha2).app ha3).app ha4).app ha5), fun k hk => ((pm_up_k (by omega)).trans ((pm_clr_k (by omega)).trans ((pm_up_k (by omega)).trans ((pm_clr_k (by omega)).trans ((pm_up_k (by omega)).trans ((pm_clr_k (by omega)).trans ((pm_up_k (by omega)).trans ((pm_clr_k (by omega)).trans ((pm_up_k (by omega)).trans ((pm_clr_k (by omega)).trans (Eq.refl _))))))))))).trans rfl⟩ dX5_init_44
set_option maxHeartbeats 4000000 in
set_option maxRecDepth 100000 in
theorem i_X2_init_57 : pm_MT 1 yX2_init cX2_init 1 none 58 63 (fun av V => av = [(3, 57)] ∧ ∀ i, V 57 i = pm_dv (pm_ty 2 i)) (fun _ V r V' => r = none ∧ pm_wa 57 63 V' ∧ ∀ k, k < 57 → V' k = V k) := by
  refine pm_MT.of (by decide) ⟨by decide, by decide⟩ (fun av V h => by rw [h.1]; exact (by decide : pm_words [(3, 0)] ≤ 1)) ?_
  rintro X av V0 hC hI hR ⟨rfl, hD⟩
  have hT := pm_Rt.top hR
  change pm_J X 0 [(0, (3, 57))] [] 58 V0
  refine pm_aload_n hC 0 (by decide) dX2_init_0 rfl ?_
  refine pm_objInit hC 1209 1025 1026 (by decide) (by decide) (by decide +kernel) (by decide +kernel) (by decide +kernel) (Nat.le_of_ble_eq_true rfl) dX2_init_1 ?_
  refine pm_aload_n hC 0 (by decide) dX2_init_4 rfl ?_
  refine pm_iconst (v := 0) hC dX2_init_5 ?_
  refine pm_putf hC 57 fl_X2_9 rfl rfl rfl (by decide) rfl trivial dX2_init_6 ?_
  refine pm_aload_n hC 0 (by decide) dX2_init_9 rfl ?_
  refine pm_bipush (v := 10) hC dX2_init_10 (by decide) ?_
  refine pm_newa_int (len := 10) hC 1043 rfl rfl (by decide) (by decide +kernel) (by rw [hT]; decide) dX2_init_12 ?_
  refine pm_putF hC 57 fl_X2_15 rfl (hI rfl) rfl rfl rfl (by decide) rfl trivial dX2_init_14 ?_
  refine pm_aload_n hC 0 (by decide) dX2_init_17 rfl ?_
  refine pm_bipush (v := 10) hC dX2_init_18 (by decide) ?_
  refine pm_newa_int (len := 10) hC 1043 rfl rfl (by decide) (by decide +kernel) (by rw [hT]; decide) dX2_init_20 ?_
  refine pm_putF hC 57 fl_X2_19 rfl (hI rfl) rfl rfl rfl (by decide) rfl trivial dX2_init_22 ?_
  refine pm_aload_n hC 0 (by decide) dX2_init_25 rfl ?_
  refine pm_bipush (v := 10) hC dX2_init_26 (by decide) ?_
  refine pm_newa_int (len := 10) hC 1043 rfl rfl (by decide) (by decide +kernel) (by rw [hT]; decide) dX2_init_28 ?_
  refine pm_putF hC 57 fl_X2_22 rfl (hI rfl) rfl rfl rfl (by decide) rfl trivial dX2_init_30 ?_
  refine pm_aload_n hC 0 (by decide) dX2_init_33 rfl ?_
  refine pm_sipush (v := 500) hC dX2_init_34 (by decide) ?_
  refine pm_newa_int (len := 500) hC 1043 rfl rfl (by decide) (by decide +kernel) (by rw [hT]; decide) dX2_init_37 ?_
  refine pm_putF hC 57 fl_X2_25 rfl (hI rfl) rfl rfl rfl (by decide) rfl trivial dX2_init_39 ?_
  refine pm_aload_n hC 0 (by decide) dX2_init_42 rfl ?_
  refine pm_iconst (v := 0) hC dX2_init_43 ?_
  refine pm_putf hC 57 fl_X2_28 rfl rfl rfl (by decide) rfl trivial dX2_init_44 ?_
  refine pm_aload_n hC 0 (by decide) dX2_init_47 rfl ?_
  refine pm_bipush (v := 64) hC dX2_init_48 (by decide) ?_
  refine pm_newa_long (len := 64) hC 1238 rfl rfl (by decide) (by decide +kernel) (by rw [hT]; decide) dX2_init_50 ?_
  refine pm_putF hC 57 fl_X2_31 rfl (hI rfl) rfl rfl rfl (by decide) rfl trivial dX2_init_52 ?_
  refine pm_aload_n hC 0 (by decide) dX2_init_55 rfl ?_
  refine pm_iconst (v := 0) hC dX2_init_56 ?_
  refine pm_putf hC 57 fl_X2_35 rfl rfl rfl (by decide) rfl trivial dX2_init_57 ?_
  have hown : pm_wa 57 58 (pm_up (pm_up (pm_clr (pm_up (pm_up (pm_clr (pm_up (pm_clr (pm_up (pm_clr (pm_up (pm_clr (pm_up V0 57 0 0) 58 (fun _ => 0)) 57 1 58) 59 (fun _ => 0)) 57 2 59) 60 (fun _ => 0)) 57 3 60) 61 (fun _ => 0)) 57 4 61) 57 5 0) 62 (fun _ => 0)) 57 6 62) 57 7 0) := pm_wa.one fun i hi => match i, hi with
    | 0, _ => rfl
    | 1, _ => rfl
    | 2, _ => rfl
    | 3, _ => rfl
    | 4, _ => rfl
    | 5, _ => rfl
    | 6, _ => rfl
    | 7, _ => rfl
    | (j + 8), h => absurd h (Nat.not_lt.mpr (Nat.le_add_left 8 j))
  have ha1 : pm_wa 58 59 (pm_up (pm_up (pm_clr (pm_up (pm_up (pm_clr (pm_up (pm_clr (pm_up (pm_clr (pm_up (pm_clr (pm_up V0 57 0 0) 58 (fun _ => 0)) 57 1 58) 59 (fun _ => 0)) 57 2 59) 60 (fun _ => 0)) 57 3 60) 61 (fun _ => 0)) 57 4 61) 57 5 0) 62 (fun _ => 0)) 57 6 62) 57 7 0) := pm_wa.one fun i _ => rfl
  have ha2 : pm_wa 59 60 (pm_up (pm_up (pm_clr (pm_up (pm_up (pm_clr (pm_up (pm_clr (pm_up (pm_clr (pm_up (pm_clr (pm_up V0 57 0 0) 58 (fun _ => 0)) 57 1 58) 59 (fun _ => 0)) 57 2 59) 60 (fun _ => 0)) 57 3 60) 61 (fun _ => 0)) 57 4 61) 57 5 0) 62 (fun _ => 0)) 57 6 62) 57 7 0) := pm_wa.one fun i _ => rfl
  have ha3 : pm_wa 60 61 (pm_up (pm_up (pm_clr (pm_up (pm_up (pm_clr (pm_up (pm_clr (pm_up (pm_clr (pm_up (pm_clr (pm_up V0 57 0 0) 58 (fun _ => 0)) 57 1 58) 59 (fun _ => 0)) 57 2 59) 60 (fun _ => 0)) 57 3 60) 61 (fun _ => 0)) 57 4 61) 57 5 0) 62 (fun _ => 0)) 57 6 62) 57 7 0) := pm_wa.one fun i _ => rfl
  have ha4 : pm_wa 61 62 (pm_up (pm_up (pm_clr (pm_up (pm_up (pm_clr (pm_up (pm_clr (pm_up (pm_clr (pm_up (pm_clr (pm_up V0 57 0 0) 58 (fun _ => 0)) 57 1 58) 59 (fun _ => 0)) 57 2 59) 60 (fun _ => 0)) 57 3 60) 61 (fun _ => 0)) 57 4 61) 57 5 0) 62 (fun _ => 0)) 57 6 62) 57 7 0) := pm_wa.one fun i _ => rfl
  have ha5 : pm_wa 62 63 (pm_up (pm_up (pm_clr (pm_up (pm_up (pm_clr (pm_up (pm_clr (pm_up (pm_clr (pm_up (pm_clr (pm_up V0 57 0 0) 58 (fun _ => 0)) 57 1 58) 59 (fun _ => 0)) 57 2 59) 60 (fun _ => 0)) 57 3 60) 61 (fun _ => 0)) 57 4 61) 57 5 0) 62 (fun _ => 0)) 57 6 62) 57 7 0) := pm_wa.one fun i _ => rfl
  exact pm_vret hC hR ⟨rfl, (((((hown.app ha1).app ha2).app ha3).app ha4).app ha5), fun k hk => ((pm_up_k (by omega)).trans ((pm_up_k (by omega)).trans ((pm_clr_k (by omega)).trans ((pm_up_k (by omega)).trans ((pm_up_k (by omega)).trans ((pm_clr_k (by omega)).trans ((pm_up_k (by omega)).trans ((pm_clr_k (by omega)).trans ((pm_up_k (by omega)).trans ((pm_clr_k (by omega)).trans ((pm_up_k (by omega)).trans ((pm_clr_k (by omega)).trans ((pm_up_k (by omega)).trans (Eq.refl _)))))))))))))).trans rfl⟩ dX2_init_60
set_option maxHeartbeats 4000000 in
set_option maxRecDepth 100000 in
theorem i_X2_init_63 : pm_MT 1 yX2_init cX2_init 1 none 64 69 (fun av V => av = [(3, 63)] ∧ ∀ i, V 63 i = pm_dv (pm_ty 2 i)) (fun _ V r V' => r = none ∧ pm_wa 63 69 V' ∧ ∀ k, k < 63 → V' k = V k) := by
  refine pm_MT.of (by decide) ⟨by decide, by decide⟩ (fun av V h => by rw [h.1]; exact (by decide : pm_words [(3, 0)] ≤ 1)) ?_
  rintro X av V0 hC hI hR ⟨rfl, hD⟩
  have hT := pm_Rt.top hR
  change pm_J X 0 [(0, (3, 63))] [] 64 V0
  refine pm_aload_n hC 0 (by decide) dX2_init_0 rfl ?_
  refine pm_objInit hC 1209 1025 1026 (by decide) (by decide) (by decide +kernel) (by decide +kernel) (by decide +kernel) (Nat.le_of_ble_eq_true rfl) dX2_init_1 ?_
  refine pm_aload_n hC 0 (by decide) dX2_init_4 rfl ?_
  refine pm_iconst (v := 0) hC dX2_init_5 ?_
  refine pm_putf hC 63 fl_X2_9 rfl rfl rfl (by decide) rfl trivial dX2_init_6 ?_
  refine pm_aload_n hC 0 (by decide) dX2_init_9 rfl ?_
  refine pm_bipush (v := 10) hC dX2_init_10 (by decide) ?_
  refine pm_newa_int (len := 10) hC 1043 rfl rfl (by decide) (by decide +kernel) (by rw [hT]; decide) dX2_init_12 ?_
  refine pm_putF hC 63 fl_X2_15 rfl (hI rfl) rfl rfl rfl (by decide) rfl trivial dX2_init_14 ?_
  refine pm_aload_n hC 0 (by decide) dX2_init_17 rfl ?_
  refine pm_bipush (v := 10) hC dX2_init_18 (by decide) ?_
  refine pm_newa_int (len := 10) hC 1043 rfl rfl (by decide) (by decide +kernel) (by rw [hT]; decide) dX2_init_20 ?_
  refine pm_putF hC 63 fl_X2_19 rfl (hI rfl) rfl rfl rfl (by decide) rfl trivial dX2_init_22 ?_
  refine pm_aload_n hC 0 (by decide) dX2_init_25 rfl ?_
  refine pm_bipush (v := 10) hC dX2_init_26 (by decide) ?_
  refine pm_newa_int (len := 10) hC 1043 rfl rfl (by decide) (by decide +kernel) (by rw [hT]; decide) dX2_init_28 ?_
  refine pm_putF hC 63 fl_X2_22 rfl (hI rfl) rfl rfl rfl (by decide) rfl trivial dX2_init_30 ?_
  refine pm_aload_n hC 0 (by decide) dX2_init_33 rfl ?_
  refine pm_sipush (v := 500) hC dX2_init_34 (by decide) ?_
  refine pm_newa_int (len := 500) hC 1043 rfl rfl (by decide) (by decide +kernel) (by rw [hT]; decide) dX2_init_37 ?_
  refine pm_putF hC 63 fl_X2_25 rfl (hI rfl) rfl rfl rfl (by decide) rfl trivial dX2_init_39 ?_
  refine pm_aload_n hC 0 (by decide) dX2_init_42 rfl ?_
  refine pm_iconst (v := 0) hC dX2_init_43 ?_
  refine pm_putf hC 63 fl_X2_28 rfl rfl rfl (by decide) rfl trivial dX2_init_44 ?_
  refine pm_aload_n hC 0 (by decide) dX2_init_47 rfl ?_
  refine pm_bipush (v := 64) hC dX2_init_48 (by decide) ?_
  refine pm_newa_long (len := 64) hC 1238 rfl rfl (by decide) (by decide +kernel) (by rw [hT]; decide) dX2_init_50 ?_
  refine pm_putF hC 63 fl_X2_31 rfl (hI rfl) rfl rfl rfl (by decide) rfl trivial dX2_init_52 ?_
  refine pm_aload_n hC 0 (by decide) dX2_init_55 rfl ?_
  refine pm_iconst (v := 0) hC dX2_init_56 ?_
  refine pm_putf hC 63 fl_X2_35 rfl rfl rfl (by decide) rfl trivial dX2_init_57 ?_
  have hown : pm_wa 63 64 (pm_up (pm_up (pm_clr (pm_up (pm_up (pm_clr (pm_up (pm_clr (pm_up (pm_clr (pm_up (pm_clr (pm_up V0 63 0 0) 64 (fun _ => 0)) 63 1 64) 65 (fun _ => 0)) 63 2 65) 66 (fun _ => 0)) 63 3 66) 67 (fun _ => 0)) 63 4 67) 63 5 0) 68 (fun _ => 0)) 63 6 68) 63 7 0) := pm_wa.one fun i hi => match i, hi with
    | 0, _ => rfl
    | 1, _ => rfl
    | 2, _ => rfl
    | 3, _ => rfl
    | 4, _ => rfl
    | 5, _ => rfl
    | 6, _ => rfl
    | 7, _ => rfl
    | (j + 8), h => absurd h (Nat.not_lt.mpr (Nat.le_add_left 8 j))
  have ha1 : pm_wa 64 65 (pm_up (pm_up (pm_clr (pm_up (pm_up (pm_clr (pm_up (pm_clr (pm_up (pm_clr (pm_up (pm_clr (pm_up V0 63 0 0) 64 (fun _ => 0)) 63 1 64) 65 (fun _ => 0)) 63 2 65) 66 (fun _ => 0)) 63 3 66) 67 (fun _ => 0)) 63 4 67) 63 5 0) 68 (fun _ => 0)) 63 6 68) 63 7 0) := pm_wa.one fun i _ => rfl
  have ha2 : pm_wa 65 66 (pm_up (pm_up (pm_clr (pm_up (pm_up (pm_clr (pm_up (pm_clr (pm_up (pm_clr (pm_up (pm_clr (pm_up V0 63 0 0) 64 (fun _ => 0)) 63 1 64) 65 (fun _ => 0)) 63 2 65) 66 (fun _ => 0)) 63 3 66) 67 (fun _ => 0)) 63 4 67) 63 5 0) 68 (fun _ => 0)) 63 6 68) 63 7 0) := pm_wa.one fun i _ => rfl
  have ha3 : pm_wa 66 67 (pm_up (pm_up (pm_clr (pm_up (pm_up (pm_clr (pm_up (pm_clr (pm_up (pm_clr (pm_up (pm_clr (pm_up V0 63 0 0) 64 (fun _ => 0)) 63 1 64) 65 (fun _ => 0)) 63 2 65) 66 (fun _ => 0)) 63 3 66) 67 (fun _ => 0)) 63 4 67) 63 5 0) 68 (fun _ => 0)) 63 6 68) 63 7 0) := pm_wa.one fun i _ => rfl
  have ha4 : pm_wa 67 68 (pm_up (pm_up (pm_clr (pm_up (pm_up (pm_clr (pm_up (pm_clr (pm_up (pm_clr (pm_up (pm_clr (pm_up V0 63 0 0) 64 (fun _ => 0)) 63 1 64) 65 (fun _ => 0)) 63 2 65) 66 (fun _ => 0)) 63 3 66) 67 (fun _ => 0)) 63 4 67) 63 5 0) 68 (fun _ => 0)) 63 6 68) 63 7 0) := pm_wa.one fun i _ => rfl
  have ha5 : pm_wa 68 69 (pm_up (pm_up (pm_clr (pm_up (pm_up (pm_clr (pm_up (pm_clr (pm_up (pm_clr (pm_up (pm_clr (pm_up V0 63 0 0) 64 (fun _ => 0)) 63 1 64) 65 (fun _ => 0)) 63 2 65) 66 (fun _ => 0)) 63 3 66) 67 (fun _ => 0)) 63 4 67) 63 5 0) 68 (fun _ => 0)) 63 6 68) 63 7 0) := pm_wa.one fun i _ => rfl
  exact pm_vret hC hR ⟨rfl, (((((hown.app ha1).app ha2).app ha3).app ha4).app ha5), fun k hk => ((pm_up_k (by omega)).trans ((pm_up_k (by omega)).trans ((pm_clr_k (by omega)).trans ((pm_up_k (by omega)).trans ((pm_up_k (by omega)).trans ((pm_clr_k (by omega)).trans ((pm_up_k (by omega)).trans ((pm_clr_k (by omega)).trans ((pm_up_k (by omega)).trans ((pm_clr_k (by omega)).trans ((pm_up_k (by omega)).trans ((pm_clr_k (by omega)).trans ((pm_up_k (by omega)).trans (Eq.refl _)))))))))))))).trans rfl⟩ dX2_init_60
set_option maxHeartbeats 4000000 in
set_option maxRecDepth 100000 in
theorem i_X6_init_69 : pm_MT 1 yX6_init cX6_init 3 none 70 72 (fun av V => av = [(3, 69), (3, 3), (3, 51)] ∧ ∀ i, V 69 i = pm_dv (pm_ty 6 i)) (fun _ V r V' => r = none ∧ pm_wa 69 72 V' ∧ ∀ k, k < 69 → V' k = V k) := by
  refine pm_MT.of (by decide) ⟨by decide, by decide⟩ (fun av V h => by rw [h.1]; exact (by decide : pm_words [(3, 0), (3, 0), (3, 0)] ≤ 3)) ?_
  rintro X av V0 hC hI hR ⟨rfl, hD⟩
  have hT := pm_Rt.top hR
  change pm_J X 0 [(0, (3, 69)), (1, (3, 3)), (2, (3, 51))] [] 70 V0
  refine pm_aload_n hC 0 (by decide) dX6_init_0 rfl ?_
  refine pm_objInit hC 2004 1025 1026 (by decide) (by decide) (by decide +kernel) (by decide +kernel) (by decide +kernel) (Nat.le_of_ble_eq_true rfl) dX6_init_1 ?_
  refine pm_aload_n hC 0 (by decide) dX6_init_4 rfl ?_
  refine pm_aload_n hC 1 (by decide) dX6_init_5 rfl ?_
  refine pm_putF hC 69 fl_X6_9 rfl (hI rfl) rfl rfl rfl (by decide) rfl trivial dX6_init_6 ?_
  refine pm_aload_n hC 0 (by decide) dX6_init_9 rfl ?_
  refine pm_bipush (v := 9) hC dX6_init_10 (by decide) ?_
  refine pm_newa_long (len := 9) hC 1238 rfl rfl (by decide) (by decide +kernel) (by rw [hT]; decide) dX6_init_12 ?_
  refine pm_putF hC 69 fl_X6_15 rfl (hI rfl) rfl rfl rfl (by decide) rfl trivial dX6_init_14 ?_
  refine pm_aload_n hC 0 (by decide) dX6_init_17 rfl ?_
  refine pm_bipush (v := 9) hC dX6_init_18 (by decide) ?_
  refine pm_newa_boolean (len := 9) hC 1127 rfl rfl (by decide) (by decide +kernel) (by rw [hT]; decide) dX6_init_20 ?_
  refine pm_putF hC 69 fl_X6_19 rfl (hI rfl) rfl rfl rfl (by decide) rfl trivial dX6_init_22 ?_
  refine pm_aload_n hC 0 (by decide) dX6_init_25 rfl ?_
  refine pm_aload_n hC 2 (by decide) dX6_init_26 rfl ?_
  refine pm_putf hC 69 fl_X6_23 rfl rfl rfl (by decide) rfl trivial dX6_init_27 ?_
  refine pm_aload_n hC 0 (by decide) dX6_init_30 rfl ?_
  refine pm_iconst (v := 0) hC dX6_init_31 ?_
  refine pm_putf hC 69 fl_X6_27 rfl rfl rfl (by decide) rfl (Or.inl rfl) dX6_init_32 ?_
  refine pm_aload_n hC 0 (by decide) dX6_init_35 rfl ?_
  refine pm_iconst (v := 0) hC dX6_init_36 ?_
  refine pm_putf hC 69 fl_X6_31 rfl rfl rfl (by decide) rfl trivial dX6_init_37 ?_
  refine pm_aload_n hC 0 (by decide) dX6_init_40 rfl ?_
  refine pm_iconst (v := 0) hC dX6_init_41 ?_
  refine pm_putf hC 69 fl_X6_35 rfl rfl rfl (by decide) rfl trivial dX6_init_42 ?_
  have hown : pm_wa 69 70 (pm_up (pm_up (pm_up (pm_up (pm_up (pm_clr (pm_up (pm_clr (pm_up V0 69 0 3) 70 (fun _ => 0)) 69 1 70) 71 (fun _ => 0)) 69 2 71) 69 3 51) 69 4 0) 69 5 0) 69 6 0) := pm_wa.one fun i hi => match i, hi with
    | 0, _ => rfl
    | 1, _ => rfl
    | 2, _ => rfl
    | 3, _ => rfl
    | 4, _ => rfl
    | 5, _ => rfl
    | 6, _ => rfl
    | (j + 7), h => absurd h (Nat.not_lt.mpr (Nat.le_add_left 7 j))
  have ha1 : pm_wa 70 71 (pm_up (pm_up (pm_up (pm_up (pm_up (pm_clr (pm_up (pm_clr (pm_up V0 69 0 3) 70 (fun _ => 0)) 69 1 70) 71 (fun _ => 0)) 69 2 71) 69 3 51) 69 4 0) 69 5 0) 69 6 0) := pm_wa.one fun i _ => rfl
  have ha2 : pm_wa 71 72 (pm_up (pm_up (pm_up (pm_up (pm_up (pm_clr (pm_up (pm_clr (pm_up V0 69 0 3) 70 (fun _ => 0)) 69 1 70) 71 (fun _ => 0)) 69 2 71) 69 3 51) 69 4 0) 69 5 0) 69 6 0) := pm_wa.one fun i _ => rfl
  exact pm_vret hC hR ⟨rfl, ((hown.app ha1).app ha2), fun k hk => ((pm_up_k (by omega)).trans ((pm_up_k (by omega)).trans ((pm_up_k (by omega)).trans ((pm_up_k (by omega)).trans ((pm_up_k (by omega)).trans ((pm_clr_k (by omega)).trans ((pm_up_k (by omega)).trans ((pm_clr_k (by omega)).trans ((pm_up_k (by omega)).trans (Eq.refl _)))))))))).trans rfl⟩ dX6_init_45
set_option maxHeartbeats 4000000 in
set_option maxRecDepth 100000 in
theorem i_X3_init_72 : pm_MT 1 yX3_init cX3_init 3 none 73 73 (fun av V => av = [(3, 72), (3, 3), (3, 63)] ∧ ∀ i, V 72 i = pm_dv (pm_ty 3 i)) (fun _ V r V' => r = none ∧ pm_wa 72 73 V' ∧ ∀ k, k < 72 → V' k = V k) := by
  refine pm_MT.of (by decide) ⟨by decide, by decide⟩ (fun av V h => by rw [h.1]; exact (by decide : pm_words [(3, 0), (3, 0), (3, 0)] ≤ 3)) ?_
  rintro X av V0 hC hI hR ⟨rfl, hD⟩
  have hT := pm_Rt.top hR
  change pm_J X 0 [(0, (3, 72)), (1, (3, 3)), (2, (3, 63))] [] 73 V0
  refine pm_aload_n hC 0 (by decide) dX3_init_0 rfl ?_
  refine pm_objInit hC 2032 1025 1026 (by decide) (by decide) (by decide +kernel) (by decide +kernel) (by decide +kernel) (Nat.le_of_ble_eq_true rfl) dX3_init_1 ?_
  refine pm_aload_n hC 0 (by decide) dX3_init_4 rfl ?_
  refine pm_aload_n hC 1 (by decide) dX3_init_5 rfl ?_
  refine pm_putF hC 72 fl_X3_9 rfl (hI rfl) rfl rfl rfl (by decide) rfl trivial dX3_init_6 ?_
  refine pm_aload_n hC 0 (by decide) dX3_init_9 rfl ?_
  refine pm_aload_n hC 2 (by decide) dX3_init_10 rfl ?_
  refine pm_putf hC 72 fl_X3_15 rfl rfl rfl (by decide) rfl trivial dX3_init_11 ?_
  have hown : pm_wa 72 73 (pm_up (pm_up V0 72 0 3) 72 1 63) := pm_wa.one fun i hi => match i, hi with
    | 0, _ => rfl
    | 1, _ => rfl
    | (j + 2), h => absurd h (Nat.not_lt.mpr (Nat.le_add_left 2 j))
  exact pm_vret hC hR ⟨rfl, hown, fun k hk => ((pm_up_k (by omega)).trans ((pm_up_k (by omega)).trans (Eq.refl _))).trans rfl⟩ dX3_init_14
set_option maxHeartbeats 4000000 in
set_option maxRecDepth 100000 in
theorem i_X10_init_73 : pm_MT 1 yX10_init cX10_init 2 none 74 78 (fun av V => av = [(3, 73), (3, 45)] ∧ ∀ i, V 73 i = pm_dv (pm_ty 10 i)) (fun _ V r V' => r = none ∧ pm_wa 73 78 V' ∧ ∀ k, k < 73 → V' k = V k) := by
  refine pm_MT.of (by decide) ⟨by decide, by decide⟩ (fun av V h => by rw [h.1]; exact (by decide : pm_words [(3, 0), (3, 0)] ≤ 2)) ?_
  rintro X av V0 hC hI hR ⟨rfl, hD⟩
  have hT := pm_Rt.top hR
  change pm_J X 0 [(0, (3, 73)), (1, (3, 45))] [] 74 V0
  refine pm_aload_n hC 0 (by decide) dX10_init_0 rfl ?_
  refine pm_objInit hC 2045 1025 1026 (by decide) (by decide) (by decide +kernel) (by decide +kernel) (by decide +kernel) (Nat.le_of_ble_eq_true rfl) dX10_init_1 ?_
  refine pm_aload_n hC 0 (by decide) dX10_init_4 rfl ?_
  refine pm_iconst (v := 0) hC dX10_init_5 ?_
  refine pm_putf hC 73 fl_X10_9 rfl rfl rfl (by decide) rfl trivial dX10_init_6 ?_
  refine pm_aload_n hC 0 (by decide) dX10_init_9 rfl ?_
  refine pm_iconst (v := 0) hC dX10_init_10 ?_
  refine pm_putf hC 73 fl_X10_15 rfl rfl rfl (by decide) rfl trivial dX10_init_11 ?_
  refine pm_aload_n hC 0 (by decide) dX10_init_14 rfl ?_
  refine pm_iconst (v := 0) hC dX10_init_15 ?_
  refine pm_putf hC 73 fl_X10_18 rfl rfl rfl (by decide) rfl trivial dX10_init_16 ?_
  refine pm_aload_n hC 0 (by decide) dX10_init_19 rfl ?_
  refine pm_iconst (v := 0) hC dX10_init_20 ?_
  refine pm_putf hC 73 fl_X10_21 rfl rfl rfl (by decide) rfl trivial dX10_init_21 ?_
  refine pm_aload_n hC 0 (by decide) dX10_init_24 rfl ?_
  refine pm_iconst (v := 1) hC dX10_init_25 ?_
  refine pm_putf hC 73 fl_X10_24 rfl rfl rfl (by decide) rfl trivial dX10_init_26 ?_
  refine pm_aload_n hC 0 (by decide) dX10_init_29 rfl ?_
  refine pm_iconst (v := 1) hC dX10_init_30 ?_
  refine pm_putf hC 73 fl_X10_27 rfl rfl rfl (by decide) rfl trivial dX10_init_31 ?_
  refine pm_aload_n hC 0 (by decide) dX10_init_34 rfl ?_
  refine pm_lconst (x := 0) hC dX10_init_35 rfl ?_
  refine pm_putf hC 73 fl_X10_30 rfl rfl rfl (by decide) rfl trivial dX10_init_36 ?_
  refine pm_aload_n hC 0 (by decide) dX10_init_39 rfl ?_
  refine pm_bipush (v := 9) hC dX10_init_40 (by decide) ?_
  refine pm_newa_long (len := 9) hC 1238 rfl rfl (by decide) (by decide +kernel) (by rw [hT]; decide) dX10_init_42 ?_
  refine pm_putF hC 73 fl_X10_34 rfl (hI rfl) rfl rfl rfl (by decide) rfl trivial dX10_init_44 ?_
  refine pm_aload_n hC 0 (by decide) dX10_init_47 rfl ?_
  refine pm_bipush (v := 9) hC dX10_init_48 (by decide) ?_
  refine pm_newa_long (len := 9) hC 1238 rfl rfl (by decide) (by decide +kernel) (by rw [hT]; decide) dX10_init_50 ?_
  refine pm_putF hC 73 fl_X10_38 rfl (hI rfl) rfl rfl rfl (by decide) rfl trivial dX10_init_52 ?_
  refine pm_aload_n hC 0 (by decide) dX10_init_55 rfl ?_
  refine pm_lconst (x := 0) hC dX10_init_56 rfl ?_
  refine pm_putf hC 73 fl_X10_41 rfl rfl rfl (by decide) rfl trivial dX10_init_57 ?_
  refine pm_aload_n hC 0 (by decide) dX10_init_60 rfl ?_
  refine pm_lconst (x := 0) hC dX10_init_61 rfl ?_
  refine pm_putf hC 73 fl_X10_44 rfl rfl rfl (by decide) rfl trivial dX10_init_62 ?_
  refine pm_aload_n hC 0 (by decide) dX10_init_65 rfl ?_
  refine pm_lconst (x := 0) hC dX10_init_66 rfl ?_
  refine pm_putf hC 73 fl_X10_47 rfl rfl rfl (by decide) rfl trivial dX10_init_67 ?_
  refine pm_aload_n hC 0 (by decide) dX10_init_70 rfl ?_
  refine pm_bipush (v := 9) hC dX10_init_71 (by decide) ?_
  refine pm_newa_long (len := 9) hC 1238 rfl rfl (by decide) (by decide +kernel) (by rw [hT]; decide) dX10_init_73 ?_
  refine pm_putf hC 73 fl_X10_50 rfl rfl rfl (by decide) rfl trivial dX10_init_75 ?_
  refine pm_aload_n hC 0 (by decide) dX10_init_78 rfl ?_
  refine pm_lconst (x := 0) hC dX10_init_79 rfl ?_
  refine pm_putf hC 73 fl_X10_53 rfl rfl rfl (by decide) rfl trivial dX10_init_80 ?_
  refine pm_aload_n hC 0 (by decide) dX10_init_83 rfl ?_
  refine pm_bipush (v := 9) hC dX10_init_84 (by decide) ?_
  refine pm_newa_long (len := 9) hC 1238 rfl rfl (by decide) (by decide +kernel) (by rw [hT]; decide) dX10_init_86 ?_
  refine pm_putf hC 73 fl_X10_56 rfl rfl rfl (by decide) rfl trivial dX10_init_88 ?_
  refine pm_aload_n hC 0 (by decide) dX10_init_91 rfl ?_
  refine pm_aload_n hC 1 (by decide) dX10_init_92 rfl ?_
  refine pm_putf hC 73 fl_X10_59 rfl rfl rfl (by decide) rfl trivial dX10_init_93 ?_
  have hown : pm_wa 73 74 (pm_up (pm_up (pm_clr (pm_up (pm_up (pm_clr (pm_up (pm_up (pm_up (pm_up (pm_clr (pm_up (pm_clr (pm_up (pm_up (pm_up (pm_up (pm_up (pm_up (pm_up V0 73 1 0) 73 2 0) 73 3 0) 73 4 0) 73 5 1) 73 6 1) 73 7 0) 74 (fun _ => 0)) 73 8 74) 75 (fun _ => 0)) 73 9 75) 73 10 0) 73 11 0) 73 12 0) 76 (fun _ => 0)) 73 13 76) 73 14 0) 77 (fun _ => 0)) 73 15 77) 73 0 45) := pm_wa.one fun i hi => match i, hi with
    | 0, _ => rfl
    | 1, _ => rfl
    | 2, _ => rfl
    | 3, _ => rfl
    | 4, _ => rfl
    | 5, _ => rfl
    | 6, _ => rfl
    | 7, _ => rfl
    | 8, _ => rfl
    | 9, _ => rfl
    | 10, _ => rfl
    | 11, _ => rfl
    | 12, _ => rfl
    | 13, _ => rfl
    | 14, _ => rfl
    | 15, _ => rfl
    | (j + 16), h => absurd h (Nat.not_lt.mpr (Nat.le_add_left 16 j))
  have ha1 : pm_wa 74 75 (pm_up (pm_up (pm_clr (pm_up (pm_up (pm_clr (pm_up (pm_up (pm_up (pm_up (pm_clr (pm_up (pm_clr (pm_up (pm_up (pm_up (pm_up (pm_up (pm_up (pm_up V0 73 1 0) 73 2 0) 73 3 0) 73 4 0) 73 5 1) 73 6 1) 73 7 0) 74 (fun _ => 0)) 73 8 74) 75 (fun _ => 0)) 73 9 75) 73 10 0) 73 11 0) 73 12 0) 76 (fun _ => 0)) 73 13 76) 73 14 0) 77 (fun _ => 0)) 73 15 77) 73 0 45) := pm_wa.one fun i _ => rfl
  have ha2 : pm_wa 75 76 (pm_up (pm_up (pm_clr (pm_up (pm_up (pm_clr (pm_up (pm_up (pm_up (pm_up (pm_clr (pm_up (pm_clr (pm_up (pm_up (pm_up (pm_up (pm_up (pm_up (pm_up V0 73 1 0) 73 2 0) 73 3 0) 73 4 0) 73 5 1) 73 6 1) 73 7 0) 74 (fun _ => 0)) 73 8 74) 75 (fun _ => 0)) 73 9 75) 73 10 0) 73 11 0) 73 12 0) 76 (fun _ => 0)) 73 13 76) 73 14 0) 77 (fun _ => 0)) 73 15 77) 73 0 45) := pm_wa.one fun i _ => rfl
  have ha3 : pm_wa 76 77 (pm_up (pm_up (pm_clr (pm_up (pm_up (pm_clr (pm_up (pm_up (pm_up (pm_up (pm_clr (pm_up (pm_clr (pm_up (pm_up (pm_up (pm_up (pm_up (pm_up (pm_up V0 73 1 0) 73 2 0) 73 3 0) 73 4 0) 73 5 1) 73 6 1) 73 7 0) 74 (fun _ => 0)) 73 8 74) 75 (fun _ => 0)) 73 9 75) 73 10 0) 73 11 0) 73 12 0) 76 (fun _ => 0)) 73 13 76) 73 14 0) 77 (fun _ => 0)) 73 15 77) 73 0 45) := pm_wa.one fun i _ => rfl
  have ha4 : pm_wa 77 78 (pm_up (pm_up (pm_clr (pm_up (pm_up (pm_clr (pm_up (pm_up (pm_up (pm_up (pm_clr (pm_up (pm_clr (pm_up (pm_up (pm_up (pm_up (pm_up (pm_up (pm_up V0 73 1 0) 73 2 0) 73 3 0) 73 4 0) 73 5 1) 73 6 1) 73 7 0) 74 (fun _ => 0)) 73 8 74) 75 (fun _ => 0)) 73 9 75) 73 10 0) 73 11 0) 73 12 0) 76 (fun _ => 0)) 73 13 76) 73 14 0) 77 (fun _ => 0)) 73 15 77) 73 0 45) := pm_wa.one fun i _ => rfl
  exact pm_vret hC hR ⟨rfl, ((((hown.app ha1).app ha2).app ha3).app ha4), fun k hk => ((pm_up_k (by omega)).trans ((pm_up_k (by omega)).trans ((pm_clr_k (by omega)).trans ((pm_up_k (by omega)).trans ((pm_up_k (by omega)).trans ((pm_clr_k (by omega)).trans ((pm_up_k (by omega)).trans ((pm_up_k (by omega)).trans ((pm_up_k (by omega)).trans ((pm_up_k (by omega)).trans ((pm_clr_k (by omega)).trans ((pm_up_k (by omega)).trans ((pm_clr_k (by omega)).trans ((pm_up_k (by omega)).trans ((pm_up_k (by omega)).trans ((pm_up_k (by omega)).trans ((pm_up_k (by omega)).trans ((pm_up_k (by omega)).trans ((pm_up_k (by omega)).trans ((pm_up_k (by omega)).trans (Eq.refl _))))))))))))))))))))).trans rfl⟩ dX10_init_96
set_option maxHeartbeats 4000000 in
set_option maxRecDepth 100000 in
theorem i_X1_init_79 : pm_MT 1 yX1_init cX1_init 1 none 80 81 (fun av V => av = [(3, 79)] ∧ ∀ i, V 79 i = pm_dv (pm_ty 1 i)) (fun _ V r V' => r = none ∧ pm_wa 79 81 V' ∧ ∀ k, k < 79 → V' k = V k) := by
  refine pm_MT.of (by decide) ⟨by decide, by decide⟩ (fun av V h => by rw [h.1]; exact (by decide : pm_words [(3, 0)] ≤ 1)) ?_
  rintro X av V0 hC hI hR ⟨rfl, hD⟩
  have hT := pm_Rt.top hR
  change pm_J X 0 [(0, (3, 79))] [] 80 V0
  refine pm_aload_n hC 0 (by decide) dX1_init_0 rfl ?_
  refine pm_objInit hC 2112 1025 1026 (by decide) (by decide) (by decide +kernel) (by decide +kernel) (by decide +kernel) (Nat.le_of_ble_eq_true rfl) dX1_init_1 ?_
  refine pm_aload_n hC 0 (by decide) dX1_init_4 rfl ?_
  refine pm_sipush (v := 128) hC dX1_init_5 (by decide) ?_
  refine pm_newa_long (len := 128) hC 1238 rfl rfl (by decide) (by decide +kernel) (by rw [hT]; decide) dX1_init_8 ?_
  refine pm_putF hC 79 fl_X1_9 rfl (hI rfl) rfl rfl rfl (by decide) rfl trivial dX1_init_10 ?_
  refine pm_aload_n hC 0 (by decide) dX1_init_13 rfl ?_
  refine pm_iconst (v := 0) hC dX1_init_14 ?_
  refine pm_putf hC 79 fl_X1_13 rfl rfl rfl (by decide) rfl trivial dX1_init_15 ?_
  have hown : pm_wa 79 80 (pm_up (pm_up (pm_clr V0 80 (fun _ => 0)) 79 0 80) 79 1 0) := pm_wa.one fun i hi => match i, hi with
    | 0, _ => rfl
    | 1, _ => rfl
    | (j + 2), h => absurd h (Nat.not_lt.mpr (Nat.le_add_left 2 j))
  have ha1 : pm_wa 80 81 (pm_up (pm_up (pm_clr V0 80 (fun _ => 0)) 79 0 80) 79 1 0) := pm_wa.one fun i _ => rfl
  exact pm_vret hC hR ⟨rfl, (hown.app ha1), fun k hk => ((pm_up_k (by omega)).trans ((pm_up_k (by omega)).trans ((pm_clr_k (by omega)).trans (Eq.refl _)))).trans rfl⟩ dX1_init_18
set_option maxHeartbeats 4000000 in
set_option maxRecDepth 100000 in
theorem i_X1_init_81 : pm_MT 1 yX1_init cX1_init 1 none 82 83 (fun av V => av = [(3, 81)] ∧ ∀ i, V 81 i = pm_dv (pm_ty 1 i)) (fun _ V r V' => r = none ∧ pm_wa 81 83 V' ∧ ∀ k, k < 81 → V' k = V k) := by
  refine pm_MT.of (by decide) ⟨by decide, by decide⟩ (fun av V h => by rw [h.1]; exact (by decide : pm_words [(3, 0)] ≤ 1)) ?_
  rintro X av V0 hC hI hR ⟨rfl, hD⟩
  have hT := pm_Rt.top hR
  change pm_J X 0 [(0, (3, 81))] [] 82 V0
  refine pm_aload_n hC 0 (by decide) dX1_init_0 rfl ?_
  refine pm_objInit hC 2112 1025 1026 (by decide) (by decide) (by decide +kernel) (by decide +kernel) (by decide +kernel) (Nat.le_of_ble_eq_true rfl) dX1_init_1 ?_
  refine pm_aload_n hC 0 (by decide) dX1_init_4 rfl ?_
  refine pm_sipush (v := 128) hC dX1_init_5 (by decide) ?_
  refine pm_newa_long (len := 128) hC 1238 rfl rfl (by decide) (by decide +kernel) (by rw [hT]; decide) dX1_init_8 ?_
  refine pm_putF hC 81 fl_X1_9 rfl (hI rfl) rfl rfl rfl (by decide) rfl trivial dX1_init_10 ?_
  refine pm_aload_n hC 0 (by decide) dX1_init_13 rfl ?_
  refine pm_iconst (v := 0) hC dX1_init_14 ?_
  refine pm_putf hC 81 fl_X1_13 rfl rfl rfl (by decide) rfl trivial dX1_init_15 ?_
  have hown : pm_wa 81 82 (pm_up (pm_up (pm_clr V0 82 (fun _ => 0)) 81 0 82) 81 1 0) := pm_wa.one fun i hi => match i, hi with
    | 0, _ => rfl
    | 1, _ => rfl
    | (j + 2), h => absurd h (Nat.not_lt.mpr (Nat.le_add_left 2 j))
  have ha1 : pm_wa 82 83 (pm_up (pm_up (pm_clr V0 82 (fun _ => 0)) 81 0 82) 81 1 0) := pm_wa.one fun i _ => rfl
  exact pm_vret hC hR ⟨rfl, (hown.app ha1), fun k hk => ((pm_up_k (by omega)).trans ((pm_up_k (by omega)).trans ((pm_clr_k (by omega)).trans (Eq.refl _)))).trans rfl⟩ dX1_init_18
set_option maxHeartbeats 4000000 in
set_option maxRecDepth 100000 in
theorem i_X4_init_78 : pm_MT 2 yX4_init cX4_init 1 none 79 83 (fun av V => av = [(3, 78)] ∧ ∀ i, V 78 i = pm_dv (pm_ty 4 i)) (fun _ V r V' => r = none ∧ pm_wa 78 83 V' ∧ ∀ k, k < 78 → V' k = V k) := by
  refine pm_MT.of (by decide) ⟨by decide, by decide⟩ (fun av V h => by rw [h.1]; exact (by decide : pm_words [(3, 0)] ≤ 1)) ?_
  rintro X av V0 hC hI hR ⟨rfl, hD⟩
  have hT := pm_Rt.top hR
  change pm_J X 0 [(0, (3, 78))] [] 79 V0
  refine pm_aload_n hC 0 (by decide) dX4_init_0 rfl ?_
  refine pm_objInit hC 2106 1025 1026 (by decide) (by decide) (by decide +kernel) (by decide +kernel) (by decide +kernel) (Nat.le_of_ble_eq_true rfl) dX4_init_1 ?_
  refine pm_aload_n hC 0 (by decide) dX4_init_4 rfl ?_
  refine pm_new hC 2107 2108 1011 rfl rfl pm_ht1 (by decide +kernel) (by decide +kernel) (by decide +kernel) (by rw [hT]; decide) dX4_init_5 ?_
  refine pm_dup hC rfl dX4_init_8 ?_
  refine pm_callIN (as := []) (st := [(3, 79), (3, 78)]) hC 79 i_X1_init_79 lm_X4_9 ln_X1_init rfl (by decide) (by decide) rfl (by decide) rfl rfl (Nat.le_of_ble_eq_true rfl) ⟨by decide, Or.inr (by rw [hT]; decide)⟩ dX4_init_9 ⟨rfl, fun i => rfl⟩ (fun r1 V2 hp3 => ?_)
  obtain ⟨rfl, hA4, hF5⟩ := hp3
  change pm_J X 12 [(0, (3, 78))] [(3, 79), (3, 78)] 81 V2
  have hf6 : ∀ k, k < 78 → V2 k = V0 k := fun k hk => (hF5 k (by omega)).trans (((pm_clr_k (by omega)).trans (Eq.refl _)).trans rfl)
  refine pm_putF hC 78 fl_X4_10 rfl (hI rfl) rfl rfl rfl (by decide) rfl trivial dX4_init_12 ?_
  refine pm_aload_n hC 0 (by decide) dX4_init_15 rfl ?_
  refine pm_new hC 2107 2108 1011 rfl rfl pm_ht1 (by decide +kernel) (by decide +kernel) (by decide +kernel) (by rw [hT]; decide) dX4_init_16 ?_
  refine pm_dup hC rfl dX4_init_19 ?_
  refine pm_callIN (as := []) (st := [(3, 81), (3, 78)]) hC 81 i_X1_init_81 lm_X4_9 ln_X1_init rfl (by decide) (by decide) rfl (by decide) rfl rfl (Nat.le_of_ble_eq_true rfl) ⟨by decide, Or.inr (by rw [hT]; decide)⟩ dX4_init_20 ⟨rfl, fun i => rfl⟩ (fun r7 V8 hp9 => ?_)
  obtain ⟨rfl, hA10, hF11⟩ := hp9
  change pm_J X 23 [(0, (3, 78))] [(3, 81), (3, 78)] 83 V8
  have e13 : V8 78 0 = 79 := by rw [hF11 78 (by decide)]; exact rfl
  have ha14 := ((hA4.up (by decide)).clr (by decide)).low hF11 (by decide)
  have hf12 : ∀ k, k < 78 → V8 k = V0 k := fun k hk => (hF11 k (by omega)).trans (((pm_clr_k (by omega)).trans ((pm_up_k (by omega)).trans (Eq.refl _))).trans (hf6 k hk))
  refine pm_putF hC 78 fl_X4_16 rfl (hI rfl) rfl rfl rfl (by decide) rfl trivial dX4_init_23 ?_
  have hown : pm_wa 78 79 (pm_up V8 78 1 81) := pm_wa.one fun i hi => match i, hi with
    | 0, _ => e13
    | 1, _ => rfl
    | (j + 2), h => absurd h (Nat.not_lt.mpr (Nat.le_add_left 2 j))
  exact pm_vret hC hR ⟨rfl, ((hown.app (ha14.up (by decide))).app (hA10.up (by decide))), fun k hk => ((pm_up_k (by omega)).trans (Eq.refl _)).trans (hf12 k hk)⟩ dX4_init_26
set_option maxHeartbeats 4000000 in
set_option maxRecDepth 100000 in
theorem i_X0_init_84 : pm_MT 1 yX0_init cX0_init 1 none 85 87 (fun av V => av = [(3, 84)] ∧ ∀ i, V 84 i = pm_dv (pm_ty 0 i)) (fun _ V r V' => r = none ∧ pm_wa 84 87 V' ∧ ∀ k, k < 84 → V' k = V k) := by
  refine pm_MT.of (by decide) ⟨by decide, by decide⟩ (fun av V h => by rw [h.1]; exact (by decide : pm_words [(3, 0)] ≤ 1)) ?_
  rintro X av V0 hC hI hR ⟨rfl, hD⟩
  have hT := pm_Rt.top hR
  change pm_J X 0 [(0, (3, 84))] [] 85 V0
  refine pm_aload_n hC 0 (by decide) dX0_init_0 rfl ?_
  refine pm_objInit hC 2132 1025 1026 (by decide) (by decide) (by decide +kernel) (by decide +kernel) (by decide +kernel) (Nat.le_of_ble_eq_true rfl) dX0_init_1 ?_
  refine pm_aload_n hC 0 (by decide) dX0_init_4 rfl ?_
  refine pm_iconst (v := 0) hC dX0_init_5 ?_
  refine pm_putf hC 84 fl_X0_9 rfl rfl rfl (by decide) rfl trivial dX0_init_6 ?_
  refine pm_aload_n hC 0 (by decide) dX0_init_9 rfl ?_
  refine pm_bipush (v := 60) hC dX0_init_10 (by decide) ?_
  refine pm_newa_long (len := 60) hC 1238 rfl rfl (by decide) (by decide +kernel) (by rw [hT]; decide) dX0_init_12 ?_
  refine pm_putF hC 84 fl_X0_15 rfl (hI rfl) rfl rfl rfl (by decide) rfl trivial dX0_init_14 ?_
  refine pm_aload_n hC 0 (by decide) dX0_init_17 rfl ?_
  refine pm_bipush (v := 60) hC dX0_init_18 (by decide) ?_
  refine pm_newa_long (len := 60) hC 1238 rfl rfl (by decide) (by decide +kernel) (by rw [hT]; decide) dX0_init_20 ?_
  refine pm_putF hC 84 fl_X0_19 rfl (hI rfl) rfl rfl rfl (by decide) rfl trivial dX0_init_22 ?_
  have hown : pm_wa 84 85 (pm_up (pm_clr (pm_up (pm_clr (pm_up V0 84 0 0) 85 (fun _ => 0)) 84 1 85) 86 (fun _ => 0)) 84 2 86) := pm_wa.one fun i hi => match i, hi with
    | 0, _ => rfl
    | 1, _ => rfl
    | 2, _ => rfl
    | (j + 3), h => absurd h (Nat.not_lt.mpr (Nat.le_add_left 3 j))
  have ha1 : pm_wa 85 86 (pm_up (pm_clr (pm_up (pm_clr (pm_up V0 84 0 0) 85 (fun _ => 0)) 84 1 85) 86 (fun _ => 0)) 84 2 86) := pm_wa.one fun i _ => rfl
  have ha2 : pm_wa 86 87 (pm_up (pm_clr (pm_up (pm_clr (pm_up V0 84 0 0) 85 (fun _ => 0)) 84 1 85) 86 (fun _ => 0)) 84 2 86) := pm_wa.one fun i _ => rfl
  exact pm_vret hC hR ⟨rfl, ((hown.app ha1).app ha2), fun k hk => ((pm_up_k (by omega)).trans ((pm_clr_k (by omega)).trans ((pm_up_k (by omega)).trans ((pm_clr_k (by omega)).trans ((pm_up_k (by omega)).trans (Eq.refl _)))))).trans rfl⟩ dX0_init_25
set_option maxHeartbeats 4000000 in
set_option maxRecDepth 100000 in
theorem i_X0_init_87 : pm_MT 1 yX0_init cX0_init 1 none 88 90 (fun av V => av = [(3, 87)] ∧ ∀ i, V 87 i = pm_dv (pm_ty 0 i)) (fun _ V r V' => r = none ∧ pm_wa 87 90 V' ∧ ∀ k, k < 87 → V' k = V k) := by
  refine pm_MT.of (by decide) ⟨by decide, by decide⟩ (fun av V h => by rw [h.1]; exact (by decide : pm_words [(3, 0)] ≤ 1)) ?_
  rintro X av V0 hC hI hR ⟨rfl, hD⟩
  have hT := pm_Rt.top hR
  change pm_J X 0 [(0, (3, 87))] [] 88 V0
  refine pm_aload_n hC 0 (by decide) dX0_init_0 rfl ?_
  refine pm_objInit hC 2132 1025 1026 (by decide) (by decide) (by decide +kernel) (by decide +kernel) (by decide +kernel) (Nat.le_of_ble_eq_true rfl) dX0_init_1 ?_
  refine pm_aload_n hC 0 (by decide) dX0_init_4 rfl ?_
  refine pm_iconst (v := 0) hC dX0_init_5 ?_
  refine pm_putf hC 87 fl_X0_9 rfl rfl rfl (by decide) rfl trivial dX0_init_6 ?_
  refine pm_aload_n hC 0 (by decide) dX0_init_9 rfl ?_
  refine pm_bipush (v := 60) hC dX0_init_10 (by decide) ?_
  refine pm_newa_long (len := 60) hC 1238 rfl rfl (by decide) (by decide +kernel) (by rw [hT]; decide) dX0_init_12 ?_
  refine pm_putF hC 87 fl_X0_15 rfl (hI rfl) rfl rfl rfl (by decide) rfl trivial dX0_init_14 ?_
  refine pm_aload_n hC 0 (by decide) dX0_init_17 rfl ?_
  refine pm_bipush (v := 60) hC dX0_init_18 (by decide) ?_
  refine pm_newa_long (len := 60) hC 1238 rfl rfl (by decide) (by decide +kernel) (by rw [hT]; decide) dX0_init_20 ?_
  refine pm_putF hC 87 fl_X0_19 rfl (hI rfl) rfl rfl rfl (by decide) rfl trivial dX0_init_22 ?_
  have hown : pm_wa 87 88 (pm_up (pm_clr (pm_up (pm_clr (pm_up V0 87 0 0) 88 (fun _ => 0)) 87 1 88) 89 (fun _ => 0)) 87 2 89) := pm_wa.one fun i hi => match i, hi with
    | 0, _ => rfl
    | 1, _ => rfl
    | 2, _ => rfl
    | (j + 3), h => absurd h (Nat.not_lt.mpr (Nat.le_add_left 3 j))
  have ha1 : pm_wa 88 89 (pm_up (pm_clr (pm_up (pm_clr (pm_up V0 87 0 0) 88 (fun _ => 0)) 87 1 88) 89 (fun _ => 0)) 87 2 89) := pm_wa.one fun i _ => rfl
  have ha2 : pm_wa 89 90 (pm_up (pm_clr (pm_up (pm_clr (pm_up V0 87 0 0) 88 (fun _ => 0)) 87 1 88) 89 (fun _ => 0)) 87 2 89) := pm_wa.one fun i _ => rfl
  exact pm_vret hC hR ⟨rfl, ((hown.app ha1).app ha2), fun k hk => ((pm_up_k (by omega)).trans ((pm_clr_k (by omega)).trans ((pm_up_k (by omega)).trans ((pm_clr_k (by omega)).trans ((pm_up_k (by omega)).trans (Eq.refl _)))))).trans rfl⟩ dX0_init_25
set_option maxHeartbeats 4000000 in
set_option maxRecDepth 100000 in
theorem i_X11_init_0 : pm_MT 3 yX11_init cX11_init 3 none 1 90 (fun av V => av = [(3, 0)] ∧ ∀ i, V 0 i = pm_dv (pm_ty 11 i)) (fun _ V r V' => r = none ∧ pm_wa 0 90 V' ∧ ∀ k, k < 0 → V' k = V k) := by
  refine pm_MT.of (by decide) ⟨by decide, by decide⟩ (fun av V h => by rw [h.1]; exact (by decide : pm_words [(3, 0)] ≤ 3)) ?_
  rintro X av V0 hC hI hR ⟨rfl, hD⟩
  have hT := pm_Rt.top hR
  change pm_J X 0 [(0, (3, 0))] [] 1 V0
  refine pm_aload_n hC 0 (by decide) dX11_init_0 rfl ?_
  refine pm_objInit hC 1024 1025 1026 (by decide) (by decide) (by decide +kernel) (by decide +kernel) (by decide +kernel) (Nat.le_of_ble_eq_true rfl) dX11_init_1 ?_
  refine pm_aload_n hC 0 (by decide) dX11_init_4 rfl ?_
  refine pm_new hC 1027 1028 1002 rfl rfl pm_ht8 (by decide +kernel) (by decide +kernel) (by decide +kernel) (by rw [hT]; decide) dX11_init_5 ?_
  refine pm_dup hC rfl dX11_init_8 ?_
  refine pm_callIN (as := []) (st := [(3, 1), (3, 0)]) hC 1 i_X8_init_1 lm_X11_9 ln_X8_init rfl (by decide) (by decide) rfl (by decide) rfl rfl (Nat.le_of_ble_eq_true rfl) ⟨by decide, Or.inr (by rw [hT]; decide)⟩ dX11_init_9 ⟨rfl, fun i => rfl⟩ (fun r1 V2 hp3 => ?_)
  obtain ⟨rfl, hA4, hF5⟩ := hp3
  change pm_J X 12 [(0, (3, 0))] [(3, 1), (3, 0)] 3 V2
  have hf6 : ∀ k, k < 0 → V2 k = V0 k := fun k hk => (hF5 k (by omega)).trans (((pm_clr_k (by omega)).trans (Eq.refl _)).trans rfl)
  refine pm_putF hC 0 fl_X11_10 rfl (hI rfl) rfl rfl rfl (by decide) rfl trivial dX11_init_12 ?_
  refine pm_new hC 1044 1045 1003 rfl rfl pm_ht9 (by decide +kernel) (by decide +kernel) (by decide +kernel) (by rw [hT]; decide) dX11_init_15 ?_
  refine pm_dup hC rfl dX11_init_18 ?_
  refine pm_aload_n hC 0 (by decide) dX11_init_19 rfl ?_
  refine pm_getf (v := 1) hC 0 fl_X11_10 rfl rfl (by decide) rfl rfl dX11_init_20 ?_
  refine pm_callI (as := [(3, 1)]) (st := [(3, 3)]) hC 3 i_X9_init_3 lm_X11_18 ln_X9_init rfl (by decide) (by decide) rfl (by decide) rfl rfl (Nat.le_of_ble_eq_true rfl) ⟨by decide, Or.inr (by rw [hT]; decide)⟩ dX11_init_23 ⟨rfl, fun i => rfl⟩ (fun r7 V8 hp9 => ?_)
  obtain ⟨rfl, hA10, hF11⟩ := hp9
  change pm_J X 26 [(0, (3, 0))] [(3, 3)] 4 V8
  have e13 : V8 0 0 = 1 := by rw [hF11 0 (by decide)]; exact rfl
  have ha14 := ((hA4.up (by decide)).clr (by decide)).low hF11 (by decide)
  have hf12 : ∀ k, k < 0 → V8 k = V0 k := fun k hk => (hF11 k (by omega)).trans (((pm_clr_k (by omega)).trans ((pm_up_k (by omega)).trans (Eq.refl _))).trans (hf6 k hk))
  refine pm_astore_n (lv' := [(1, (3, 3)), (0, (3, 0))]) hC (by decide) dX11_init_26 (by decide) rfl ?_
  refine pm_aload_n hC 1 (by decide) dX11_init_27 rfl ?_
  refine pm_new hC 1072 1073 1004 rfl rfl pm_ht7 (by decide +kernel) (by decide +kernel) (by decide +kernel) (by rw [hT]; decide) dX11_init_28 ?_
  refine pm_dup hC rfl dX11_init_31 ?_
  refine pm_callIN (as := []) (st := [(3, 4), (3, 0)]) hC 4 i_X7_init_4 lm_X11_23 ln_X7_init rfl (by decide) (by decide) rfl (by decide) rfl rfl (Nat.le_of_ble_eq_true rfl) ⟨by decide, Or.inr (by rw [hT]; decide)⟩ dX11_init_32 ⟨rfl, fun i => rfl⟩ (fun r15 V16 hp17 => ?_)
  obtain ⟨rfl, hA18, hF19⟩ := hp17
  change pm_J X 35 [(1, (3, 3)), (0, (3, 0))] [(3, 4), (3, 0)] 14 V16
  have e21 : V16 0 0 = 1 := by rw [hF19 0 (by decide)]; exact e13
  have ha22 := (ha14.clr (by decide)).low hF19 (by decide)
  have ha23 := (hA10.clr (by decide)).low hF19 (by decide)
  have hf20 : ∀ k, k < 0 → V16 k = V0 k := fun k hk => (hF19 k (by omega)).trans (((pm_clr_k (by omega)).trans (Eq.refl _)).trans (hf12 k hk))
  refine pm_putF hC 0 fl_X11_24 rfl (hI rfl) rfl rfl rfl (by decide) rfl trivial dX11_init_35 ?_
  refine pm_aload_n hC 1 (by decide) dX11_init_38 rfl ?_
  refine pm_iconst (v := 3) hC dX11_init_39 ?_
  refine pm_anew (len := 3) hC 1072 rfl rfl (by decide) (by decide +kernel) (by rw [hT]; decide) dX11_init_40 ?_
  refine pm_putF hC 0 fl_X11_28 rfl (hI rfl) rfl rfl rfl (by decide) rfl trivial dX11_init_43 ?_
  refine pm_iconst (v := 0) hC dX11_init_46 ?_
  refine pm_istore_n (lv' := [(2, (0, 0)), (1, (3, 3)), (0, (3, 0))]) hC dX11_init_47 (by decide) rfl ?_
  refine pm_iload_n hC 0 dX11_init_48 rfl ?_
  refine pm_iconst (v := 3) hC dX11_init_49 ?_
  refine pm_icmp_ge (tgt := 72) hC ⟨by decide, by decide⟩ ⟨by decide, by decide⟩ dX11_init_50 (by decide) (fun hc => absurd hc (by decide)) (fun hc => ?_)
  refine pm_aload_n hC 2 (by decide) dX11_init_53 rfl ?_
  refine pm_getf (v := 14) hC 0 fl_X11_28 rfl rfl (by decide) rfl rfl dX11_init_54 ?_
  refine pm_iload_n hC 0 dX11_init_57 rfl ?_
  refine pm_new hC 1072 1073 1004 rfl rfl pm_ht7 (by decide +kernel) (by decide +kernel) (by decide +kernel) (by rw [hT]; decide) dX11_init_58 ?_
  refine pm_dup hC rfl dX11_init_61 ?_
  refine pm_callIN (as := []) (st := [(3, 15), (0, 0), (3, 14)]) hC 15 i_X7_init_15 lm_X11_23 ln_X7_init rfl (by decide) (by decide) rfl (by decide) rfl rfl (Nat.le_of_ble_eq_true rfl) ⟨by decide, Or.inr (by rw [hT]; decide)⟩ dX11_init_62 ⟨rfl, fun i => rfl⟩ (fun r24 V25 hp26 => ?_)
  obtain ⟨rfl, hA27, hF28⟩ := hp26
  change pm_J X 65 [(2, (0, 0)), (1, (3, 3)), (0, (3, 0))] [(3, 15), (0, 0), (3, 14)] 25 V25
  have e30 : V25 0 0 = 1 := by rw [hF28 0 (by decide)]; exact e21
  have e31 : V25 0 3 = 4 := by rw [hF28 0 (by decide)]; exact rfl
  have e32 : V25 0 4 = 14 := by rw [hF28 0 (by decide)]; exact rfl
  have ha33 := ((((ha22.up (by decide)).clr (by decide)).up (by decide)).clr (by decide)).low hF28 (by decide)
  have ha34 := ((((ha23.up (by decide)).clr (by decide)).up (by decide)).clr (by decide)).low hF28 (by decide)
  have ha35 := ((((hA18.up (by decide)).clr (by decide)).up (by decide)).clr (by decide)).low hF28 (by decide)
  have hf29 : ∀ k, k < 0 → V25 k = V0 k := fun k hk => (hF28 k (by omega)).trans (((pm_clr_k (by omega)).trans ((pm_up_k (by omega)).trans ((pm_clr_k (by omega)).trans ((pm_up_k (by omega)).trans (Eq.refl _))))).trans (hf20 k hk))
  refine pm_aastore (len := 3) hC 14 15 rfl rfl rfl rfl (by decide) (by decide) ⟨by decide, by decide⟩ (by decide) dX11_init_65 ?_
  change pm_J X 66 [(2, (0, 0)), (1, (3, 3)), (0, (3, 0))] [] 25 (pm_up V25 14 0 15)
  refine pm_iinc (y := 1) (lv' := [(2, (0, 1)), (1, (3, 3)), (0, (3, 0))]) hC 0 dX11_init_66 (by decide) rfl (by decide) rfl ?_
  refine pm_goto (tgt := 48) hC dX11_init_69 (by decide) ?_
  refine pm_iload_n hC 0 dX11_init_48 rfl ?_
  refine pm_iconst (v := 3) hC dX11_init_49 ?_
  refine pm_icmp_ge (tgt := 72) hC ⟨by decide, by decide⟩ ⟨by decide, by decide⟩ dX11_init_50 (by decide) (fun hc => absurd hc (by decide)) (fun hc => ?_)
  refine pm_aload_n hC 2 (by decide) dX11_init_53 rfl ?_
  refine pm_getf (v := 14) hC 0 fl_X11_28 rfl rfl (by decide) rfl e32 dX11_init_54 ?_
  refine pm_iload_n hC 0 dX11_init_57 rfl ?_
  refine pm_new hC 1072 1073 1004 rfl rfl pm_ht7 (by decide +kernel) (by decide +kernel) (by decide +kernel) (by rw [hT]; decide) dX11_init_58 ?_
  refine pm_dup hC rfl dX11_init_61 ?_
  refine pm_callIN (as := []) (st := [(3, 25), (0, 1), (3, 14)]) hC 25 i_X7_init_25 lm_X11_23 ln_X7_init rfl (by decide) (by decide) rfl (by decide) rfl rfl (Nat.le_of_ble_eq_true rfl) ⟨by decide, Or.inr (by rw [hT]; decide)⟩ dX11_init_62 ⟨rfl, fun i => rfl⟩ (fun r36 V37 hp38 => ?_)
  obtain ⟨rfl, hA39, hF40⟩ := hp38
  change pm_J X 65 [(2, (0, 1)), (1, (3, 3)), (0, (3, 0))] [(3, 25), (0, 1), (3, 14)] 35 V37
  have e42 : V37 0 0 = 1 := by rw [hF40 0 (by decide)]; exact e30
  have e43 : V37 0 3 = 4 := by rw [hF40 0 (by decide)]; exact e31
  have e44 : V37 0 4 = 14 := by rw [hF40 0 (by decide)]; exact e32
  have e45 : V37 14 0 = 15 := by rw [hF40 14 (by decide)]; exact rfl
  have ha46 := ((ha33.up (by decide)).clr (by decide)).low hF40 (by decide)
  have ha47 := ((ha34.up (by decide)).clr (by decide)).low hF40 (by decide)
  have ha48 := ((ha35.up (by decide)).clr (by decide)).low hF40 (by decide)
  have ha49 := ((hA27.up (by decide)).clr (by decide)).low hF40 (by decide)
  have hf41 : ∀ k, k < 0 → V37 k = V0 k := fun k hk => (hF40 k (by omega)).trans (((pm_clr_k (by omega)).trans ((pm_up_k (by omega)).trans (Eq.refl _))).trans (hf29 k hk))
  refine pm_aastore (len := 3) hC 14 25 rfl rfl rfl rfl (by decide) (by decide) ⟨by decide, by decide⟩ (by decide) dX11_init_65 ?_
  change pm_J X 66 [(2, (0, 1)), (1, (3, 3)), (0, (3, 0))] [] 35 (pm_up V37 14 1 25)
  refine pm_iinc (y := 2) (lv' := [(2, (0, 2)), (1, (3, 3)), (0, (3, 0))]) hC 0 dX11_init_66 (by decide) rfl (by decide) rfl ?_
  refine pm_goto (tgt := 48) hC dX11_init_69 (by decide) ?_
  refine pm_iload_n hC 0 dX11_init_48 rfl ?_
  refine pm_iconst (v := 3) hC dX11_init_49 ?_
  refine pm_icmp_ge (tgt := 72) hC ⟨by decide, by decide⟩ ⟨by decide, by decide⟩ dX11_init_50 (by decide) (fun hc => absurd hc (by decide)) (fun hc => ?_)
  refine pm_aload_n hC 2 (by decide) dX11_init_53 rfl ?_
  refine pm_getf (v := 14) hC 0 fl_X11_28 rfl rfl (by decide) rfl e44 dX11_init_54 ?_
  refine pm_iload_n hC 0 dX11_init_57 rfl ?_
  refine pm_new hC 1072 1073 1004 rfl rfl pm_ht7 (by decide +kernel) (by decide +kernel) (by decide +kernel) (by rw [hT]; decide) dX11_init_58 ?_
  refine pm_dup hC rfl dX11_init_61 ?_
  refine pm_callIN (as := []) (st := [(3, 35), (0, 2), (3, 14)]) hC 35 i_X7_init_35 lm_X11_23 ln_X7_init rfl (by decide) (by decide) rfl (by decide) rfl rfl (Nat.le_of_ble_eq_true rfl) ⟨by decide, Or.inr (by rw [hT]; decide)⟩ dX11_init_62 ⟨rfl, fun i => rfl⟩ (fun r50 V51 hp52 => ?_)
  obtain ⟨rfl, hA53, hF54⟩ := hp52
  change pm_J X 65 [(2, (0, 2)), (1, (3, 3)), (0, (3, 0))] [(3, 35), (0, 2), (3, 14)] 45 V51
  have e56 : V51 0 0 = 1 := by rw [hF54 0 (by decide)]; exact e42
  have e57 : V51 0 3 = 4 := by rw [hF54 0 (by decide)]; exact e43
  have e58 : V51 0 4 = 14 := by rw [hF54 0 (by decide)]; exact e44
  have e59 : V51 14 0 = 15 := by rw [hF54 14 (by decide)]; exact e45
  have e60 : V51 14 1 = 25 := by rw [hF54 14 (by decide)]; exact rfl
  have ha61 := ((ha46.up (by decide)).clr (by decide)).low hF54 (by decide)
  have ha62 := ((ha47.up (by decide)).clr (by decide)).low hF54 (by decide)
  have ha63 := ((ha48.up (by decide)).clr (by decide)).low hF54 (by decide)
  have ha64 := ((ha49.up (by decide)).clr (by decide)).low hF54 (by decide)
  have ha65 := ((hA39.up (by decide)).clr (by decide)).low hF54 (by decide)
  have hf55 : ∀ k, k < 0 → V51 k = V0 k := fun k hk => (hF54 k (by omega)).trans (((pm_clr_k (by omega)).trans ((pm_up_k (by omega)).trans (Eq.refl _))).trans (hf41 k hk))
  refine pm_aastore (len := 3) hC 14 35 rfl rfl rfl rfl (by decide) (by decide) ⟨by decide, by decide⟩ (by decide) dX11_init_65 ?_
  change pm_J X 66 [(2, (0, 2)), (1, (3, 3)), (0, (3, 0))] [] 45 (pm_up V51 14 2 35)
  refine pm_iinc (y := 3) (lv' := [(2, (0, 3)), (1, (3, 3)), (0, (3, 0))]) hC 0 dX11_init_66 (by decide) rfl (by decide) rfl ?_
  refine pm_goto (tgt := 48) hC dX11_init_69 (by decide) ?_
  refine pm_iload_n hC 0 dX11_init_48 rfl ?_
  refine pm_iconst (v := 3) hC dX11_init_49 ?_
  refine pm_icmp_ge (tgt := 72) hC ⟨by decide, by decide⟩ ⟨by decide, by decide⟩ dX11_init_50 (by decide) (fun hc => ?_) (fun hc => absurd hc (by decide))
  refine pm_aload_n hC 2 (by decide) dX11_init_72 rfl ?_
  refine pm_new hC 1129 1130 1005 rfl rfl pm_ht5 (by decide +kernel) (by decide +kernel) (by decide +kernel) (by rw [hT]; decide) dX11_init_73 ?_
  refine pm_dup hC rfl dX11_init_76 ?_
  refine pm_callIN (as := []) (st := [(3, 45), (3, 0)]) hC 45 i_X5_init_45 lm_X11_34 ln_X5_init rfl (by decide) (by decide) rfl (by decide) rfl rfl (Nat.le_of_ble_eq_true rfl) ⟨by decide, Or.inr (by rw [hT]; decide)⟩ dX11_init_77 ⟨rfl, fun i => rfl⟩ (fun r66 V67 hp68 => ?_)
  obtain ⟨rfl, hA69, hF70⟩ := hp68
  change pm_J X 80 [(2, (0, 3)), (1, (3, 3)), (0, (3, 0))] [(3, 45), (3, 0)] 51 V67
  have e72 : V67 0 0 = 1 := by rw [hF70 0 (by decide)]; exact e56
  have e73 : V67 0 3 = 4 := by rw [hF70 0 (by decide)]; exact e57
  have e74 : V67 0 4 = 14 := by rw [hF70 0 (by decide)]; exact e58
  have e75 : V67 14 0 = 15 := by rw [hF70 14 (by decide)]; exact e59
  have e76 : V67 14 1 = 25 := by rw [hF70 14 (by decide)]; exact e60
  have e77 : V67 14 2 = 35 := by rw [hF70 14 (by decide)]; exact rfl
  have ha78 := ((ha61.up (by decide)).clr (by decide)).low hF70 (by decide)
  have ha79 := ((ha62.up (by decide)).clr (by decide)).low hF70 (by decide)
  have ha80 := ((ha63.up (by decide)).clr (by decide)).low hF70 (by decide)
  have ha81 := ((ha64.up (by decide)).clr (by decide)).low hF70 (by decide)
  have ha82 := ((ha65.up (by decide)).clr (by decide)).low hF70 (by decide)
  have ha83 := ((hA53.up (by decide)).clr (by decide)).low hF70 (by decide)
  have hf71 : ∀ k, k < 0 → V67 k = V0 k := fun k hk => (hF70 k (by omega)).trans (((pm_clr_k (by omega)).trans ((pm_up_k (by omega)).trans (Eq.refl _))).trans (hf55 k hk))
  refine pm_putf hC 0 fl_X11_35 rfl rfl rfl (by decide) rfl trivial dX11_init_80 ?_
  refine pm_aload_n hC 2 (by decide) dX11_init_83 rfl ?_
  refine pm_new hC 1129 1130 1005 rfl rfl pm_ht5 (by decide +kernel) (by decide +kernel) (by decide +kernel) (by rw [hT]; decide) dX11_init_84 ?_
  refine pm_dup hC rfl dX11_init_87 ?_
  refine pm_callIN (as := []) (st := [(3, 51), (3, 0)]) hC 51 i_X5_init_51 lm_X11_34 ln_X5_init rfl (by decide) (by decide) rfl (by decide) rfl rfl (Nat.le_of_ble_eq_true rfl) ⟨by decide, Or.inr (by rw [hT]; decide)⟩ dX11_init_88 ⟨rfl, fun i => rfl⟩ (fun r84 V85 hp86 => ?_)
  obtain ⟨rfl, hA87, hF88⟩ := hp86
  change pm_J X 91 [(2, (0, 3)), (1, (3, 3)), (0, (3, 0))] [(3, 51), (3, 0)] 57 V85
  have e90 : V85 0 0 = 1 := by rw [hF88 0 (by decide)]; exact e72
  have e91 : V85 0 3 = 4 := by rw [hF88 0 (by decide)]; exact e73
  have e92 : V85 0 4 = 14 := by rw [hF88 0 (by decide)]; exact e74
  have e93 : V85 14 0 = 15 := by rw [hF88 14 (by decide)]; exact e75
  have e94 : V85 14 1 = 25 := by rw [hF88 14 (by decide)]; exact e76
  have e95 : V85 14 2 = 35 := by rw [hF88 14 (by decide)]; exact e77
  have e96 : V85 0 8 = 45 := by rw [hF88 0 (by decide)]; exact rfl
  have ha97 := ((ha78.up (by decide)).clr (by decide)).low hF88 (by decide)
  have ha98 := ((ha79.up (by decide)).clr (by decide)).low hF88 (by decide)
  have ha99 := ((ha80.up (by decide)).clr (by decide)).low hF88 (by decide)
  have ha100 := ((ha81.up (by decide)).clr (by decide)).low hF88 (by decide)
  have ha101 := ((ha82.up (by decide)).clr (by decide)).low hF88 (by decide)
  have ha102 := ((ha83.up (by decide)).clr (by decide)).low hF88 (by decide)
  have ha103 := ((hA69.up (by decide)).clr (by decide)).low hF88 (by decide)
  have hf89 : ∀ k, k < 0 → V85 k = V0 k := fun k hk => (hF88 k (by omega)).trans (((pm_clr_k (by omega)).trans ((pm_up_k (by omega)).trans (Eq.refl _))).trans (hf71 k hk))
  refine pm_putf hC 0 fl_X11_39 rfl rfl rfl (by decide) rfl trivial dX11_init_91 ?_
  refine pm_aload_n hC 2 (by decide) dX11_init_94 rfl ?_
  refine pm_new hC 1204 1205 1006 rfl rfl pm_ht2 (by decide +kernel) (by decide +kernel) (by decide +kernel) (by rw [hT]; decide) dX11_init_95 ?_
  refine pm_dup hC rfl dX11_init_98 ?_
  refine pm_callIN (as := []) (st := [(3, 57), (3, 0)]) hC 57 i_X2_init_57 lm_X11_44 ln_X2_init rfl (by decide) (by decide) rfl (by decide) rfl rfl (Nat.le_of_ble_eq_true rfl) ⟨by decide, Or.inr (by rw [hT]; decide)⟩ dX11_init_99 ⟨rfl, fun i => rfl⟩ (fun r104 V105 hp106 => ?_)
  obtain ⟨rfl, hA107, hF108⟩ := hp106
  change pm_J X 102 [(2, (0, 3)), (1, (3, 3)), (0, (3, 0))] [(3, 57), (3, 0)] 63 V105
  have e110 : V105 0 0 = 1 := by rw [hF108 0 (by decide)]; exact e90
  have e111 : V105 0 3 = 4 := by rw [hF108 0 (by decide)]; exact e91
  have e112 : V105 0 4 = 14 := by rw [hF108 0 (by decide)]; exact e92
  have e113 : V105 14 0 = 15 := by rw [hF108 14 (by decide)]; exact e93
  have e114 : V105 14 1 = 25 := by rw [hF108 14 (by decide)]; exact e94
  have e115 : V105 14 2 = 35 := by rw [hF108 14 (by decide)]; exact e95
  have e116 : V105 0 8 = 45 := by rw [hF108 0 (by decide)]; exact e96
  have e117 : V105 0 9 = 51 := by rw [hF108 0 (by decide)]; exact rfl
  have ha118 := ((ha97.up (by decide)).clr (by decide)).low hF108 (by decide)
  have ha119 := ((ha98.up (by decide)).clr (by decide)).low hF108 (by decide)
  have ha120 := ((ha99.up (by decide)).clr (by decide)).low hF108 (by decide)
  have ha121 := ((ha100.up (by decide)).clr (by decide)).low hF108 (by decide)
  have ha122 := ((ha101.up (by decide)).clr (by decide)).low hF108 (by decide)
  have ha123 := ((ha102.up (by decide)).clr (by decide)).low hF108 (by decide)
  have ha124 := ((ha103.up (by decide)).clr (by decide)).low hF108 (by decide)
  have ha125 := ((hA87.up (by decide)).clr (by decide)).low hF108 (by decide)
  have hf109 : ∀ k, k < 0 → V105 k = V0 k := fun k hk => (hF108 k (by omega)).trans (((pm_clr_k (by omega)).trans ((pm_up_k (by omega)).trans (Eq.refl _))).trans (hf89 k hk))
  refine pm_putf hC 0 fl_X11_45 rfl rfl rfl (by decide) rfl trivial dX11_init_102 ?_
  refine pm_aload_n hC 2 (by decide) dX11_init_105 rfl ?_
  refine pm_new hC 1204 1205 1006 rfl rfl pm_ht2 (by decide +kernel) (by decide +kernel) (by decide +kernel) (by rw [hT]; decide) dX11_init_106 ?_
  refine pm_dup hC rfl dX11_init_109 ?_
  refine pm_callIN (as := []) (st := [(3, 63), (3, 0)]) hC 63 i_X2_init_63 lm_X11_44 ln_X2_init rfl (by decide) (by decide) rfl (by decide) rfl rfl (Nat.le_of_ble_eq_true rfl) ⟨by decide, Or.inr (by rw [hT]; decide)⟩ dX11_init_110 ⟨rfl, fun i => rfl⟩ (fun r126 V127 hp128 => ?_)
  obtain ⟨rfl, hA129, hF130⟩ := hp128
  change pm_J X 113 [(2, (0, 3)), (1, (3, 3)), (0, (3, 0))] [(3, 63), (3, 0)] 69 V127
  have e132 : V127 0 0 = 1 := by rw [hF130 0 (by decide)]; exact e110
  have e133 : V127 0 3 = 4 := by rw [hF130 0 (by decide)]; exact e111
  have e134 : V127 0 4 = 14 := by rw [hF130 0 (by decide)]; exact e112
  have e135 : V127 14 0 = 15 := by rw [hF130 14 (by decide)]; exact e113
  have e136 : V127 14 1 = 25 := by rw [hF130 14 (by decide)]; exact e114
  have e137 : V127 14 2 = 35 := by rw [hF130 14 (by decide)]; exact e115
  have e138 : V127 0 8 = 45 := by rw [hF130 0 (by decide)]; exact e116
  have e139 : V127 0 9 = 51 := by rw [hF130 0 (by decide)]; exact e117
  have e140 : V127 0 10 = 57 := by rw [hF130 0 (by decide)]; exact rfl
  have ha141 := ((ha118.up (by decide)).clr (by decide)).low hF130 (by decide)
  have ha142 := ((ha119.up (by decide)).clr (by decide)).low hF130 (by decide)
  have ha143 := ((ha120.up (by decide)).clr (by decide)).low hF130 (by decide)
  have ha144 := ((ha121.up (by decide)).clr (by decide)).low hF130 (by decide)
  have ha145 := ((ha122.up (by decide)).clr (by decide)).low hF130 (by decide)
  have ha146 := ((ha123.up (by decide)).clr (by decide)).low hF130 (by decide)
  have ha147 := ((ha124.up (by decide)).clr (by decide)).low hF130 (by decide)
  have ha148 := ((ha125.up (by decide)).clr (by decide)).low hF130 (by decide)
  have ha149 := ((hA107.up (by decide)).clr (by decide)).low hF130 (by decide)
  have hf131 : ∀ k, k < 0 → V127 k = V0 k := fun k hk => (hF130 k (by omega)).trans (((pm_clr_k (by omega)).trans ((pm_up_k (by omega)).trans (Eq.refl _))).trans (hf109 k hk))
  refine pm_putf hC 0 fl_X11_49 rfl rfl rfl (by decide) rfl trivial dX11_init_113 ?_
  refine pm_aload_n hC 2 (by decide) dX11_init_116 rfl ?_
  refine pm_new hC 1239 2000 1007 rfl rfl pm_ht6 (by decide +kernel) (by decide +kernel) (by decide +kernel) (by rw [hT]; decide) dX11_init_117 ?_
  refine pm_dup hC rfl dX11_init_120 ?_
  refine pm_aload_n hC 1 (by decide) dX11_init_121 rfl ?_
  refine pm_aload_n hC 2 (by decide) dX11_init_122 rfl ?_
  refine pm_getf (v := 51) hC 0 fl_X11_39 rfl rfl (by decide) rfl e139 dX11_init_123 ?_
  refine pm_callI (as := [(3, 3), (3, 51)]) (st := [(3, 69), (3, 0)]) hC 69 i_X6_init_69 lm_X11_54 ln_X6_init rfl (by decide) (by decide) rfl (by decide) rfl rfl (Nat.le_of_ble_eq_true rfl) ⟨by decide, Or.inr (by rw [hT]; decide)⟩ dX11_init_126 ⟨rfl, fun i => rfl⟩ (fun r150 V151 hp152 => ?_)
  obtain ⟨rfl, hA153, hF154⟩ := hp152
  change pm_J X 129 [(2, (0, 3)), (1, (3, 3)), (0, (3, 0))] [(3, 69), (3, 0)] 72 V151
  have e156 : V151 0 0 = 1 := by rw [hF154 0 (by decide)]; exact e132
  have e157 : V151 0 3 = 4 := by rw [hF154 0 (by decide)]; exact e133
  have e158 : V151 0 4 = 14 := by rw [hF154 0 (by decide)]; exact e134
  have e159 : V151 14 0 = 15 := by rw [hF154 14 (by decide)]; exact e135
  have e160 : V151 14 1 = 25 := by rw [hF154 14 (by decide)]; exact e136
  have e161 : V151 14 2 = 35 := by rw [hF154 14 (by decide)]; exact e137
  have e162 : V151 0 8 = 45 := by rw [hF154 0 (by decide)]; exact e138
  have e163 : V151 0 9 = 51 := by rw [hF154 0 (by decide)]; exact e139
  have e164 : V151 0 10 = 57 := by rw [hF154 0 (by decide)]; exact e140
  have e165 : V151 0 11 = 63 := by rw [hF154 0 (by decide)]; exact rfl
  have ha166 := ((ha141.up (by decide)).clr (by decide)).low hF154 (by decide)
  have ha167 := ((ha142.up (by decide)).clr (by decide)).low hF154 (by decide)
  have ha168 := ((ha143.up (by decide)).clr (by decide)).low hF154 (by decide)
  have ha169 := ((ha144.up (by decide)).clr (by decide)).low hF154 (by decide)
  have ha170 := ((ha145.up (by decide)).clr (by decide)).low hF154 (by decide)
  have ha171 := ((ha146.up (by decide)).clr (by decide)).low hF154 (by decide)
  have ha172 := ((ha147.up (by decide)).clr (by decide)).low hF154 (by decide)
  have ha173 := ((ha148.up (by decide)).clr (by decide)).low hF154 (by decide)
  have ha174 := ((ha149.up (by decide)).clr (by decide)).low hF154 (by decide)
  have ha175 := ((hA129.up (by decide)).clr (by decide)).low hF154 (by decide)
  have hf155 : ∀ k, k < 0 → V151 k = V0 k := fun k hk => (hF154 k (by omega)).trans (((pm_clr_k (by omega)).trans ((pm_up_k (by omega)).trans (Eq.refl _))).trans (hf131 k hk))
  refine pm_putF hC 0 fl_X11_57 rfl (hI rfl) rfl rfl rfl (by decide) rfl trivial dX11_init_129 ?_
  refine pm_aload_n hC 2 (by decide) dX11_init_132 rfl ?_
  refine pm_new hC 2027 2028 1008 rfl rfl pm_ht3 (by decide +kernel) (by decide +kernel) (by decide +kernel) (by rw [hT]; decide) dX11_init_133 ?_
  refine pm_dup hC rfl dX11_init_136 ?_
  refine pm_aload_n hC 1 (by decide) dX11_init_137 rfl ?_
  refine pm_aload_n hC 2 (by decide) dX11_init_138 rfl ?_
  refine pm_getf (v := 63) hC 0 fl_X11_49 rfl rfl (by decide) rfl e165 dX11_init_139 ?_
  refine pm_callI (as := [(3, 3), (3, 63)]) (st := [(3, 72), (3, 0)]) hC 72 i_X3_init_72 lm_X11_63 ln_X3_init rfl (by decide) (by decide) rfl (by decide) rfl rfl (Nat.le_of_ble_eq_true rfl) ⟨by decide, Or.inr (by rw [hT]; decide)⟩ dX11_init_142 ⟨rfl, fun i => rfl⟩ (fun r176 V177 hp178 => ?_)
  obtain ⟨rfl, hA179, hF180⟩ := hp178
  change pm_J X 145 [(2, (0, 3)), (1, (3, 3)), (0, (3, 0))] [(3, 72), (3, 0)] 73 V177
  have e182 : V177 0 0 = 1 := by rw [hF180 0 (by decide)]; exact e156
  have e183 : V177 0 3 = 4 := by rw [hF180 0 (by decide)]; exact e157
  have e184 : V177 0 4 = 14 := by rw [hF180 0 (by decide)]; exact e158
  have e185 : V177 14 0 = 15 := by rw [hF180 14 (by decide)]; exact e159
  have e186 : V177 14 1 = 25 := by rw [hF180 14 (by decide)]; exact e160
  have e187 : V177 14 2 = 35 := by rw [hF180 14 (by decide)]; exact e161
  have e188 : V177 0 8 = 45 := by rw [hF180 0 (by decide)]; exact e162
  have e189 : V177 0 9 = 51 := by rw [hF180 0 (by decide)]; exact e163
  have e190 : V177 0 10 = 57 := by rw [hF180 0 (by decide)]; exact e164
  have e191 : V177 0 11 = 63 := by rw [hF180 0 (by decide)]; exact e165
  have e192 : V177 0 1 = 69 := by rw [hF180 0 (by decide)]; exact rfl
  have ha193 := ((ha166.up (by decide)).clr (by decide)).low hF180 (by decide)
  have ha194 := ((ha167.up (by decide)).clr (by decide)).low hF180 (by decide)
  have ha195 := ((ha168.up (by decide)).clr (by decide)).low hF180 (by decide)
  have ha196 := ((ha169.up (by decide)).clr (by decide)).low hF180 (by decide)
  have ha197 := ((ha170.up (by decide)).clr (by decide)).low hF180 (by decide)
  have ha198 := ((ha171.up (by decide)).clr (by decide)).low hF180 (by decide)
  have ha199 := ((ha172.up (by decide)).clr (by decide)).low hF180 (by decide)
  have ha200 := ((ha173.up (by decide)).clr (by decide)).low hF180 (by decide)
  have ha201 := ((ha174.up (by decide)).clr (by decide)).low hF180 (by decide)
  have ha202 := ((ha175.up (by decide)).clr (by decide)).low hF180 (by decide)
  have ha203 := ((hA153.up (by decide)).clr (by decide)).low hF180 (by decide)
  have hf181 : ∀ k, k < 0 → V177 k = V0 k := fun k hk => (hF180 k (by omega)).trans (((pm_clr_k (by omega)).trans ((pm_up_k (by omega)).trans (Eq.refl _))).trans (hf155 k hk))
  refine pm_putF hC 0 fl_X11_66 rfl (hI rfl) rfl rfl rfl (by decide) rfl trivial dX11_init_145 ?_
  refine pm_aload_n hC 2 (by decide) dX11_init_148 rfl ?_
  refine pm_new hC 2040 2041 1009 rfl rfl pm_ht10 (by decide +kernel) (by decide +kernel) (by decide +kernel) (by rw [hT]; decide) dX11_init_149 ?_
  refine pm_dup hC rfl dX11_init_152 ?_
  refine pm_aload_n hC 2 (by decide) dX11_init_153 rfl ?_
  refine pm_getf (v := 45) hC 0 fl_X11_35 rfl rfl (by decide) rfl e188 dX11_init_154 ?_
  refine pm_callI (as := [(3, 45)]) (st := [(3, 73), (3, 0)]) hC 73 i_X10_init_73 lm_X11_72 ln_X10_init rfl (by decide) (by decide) rfl (by decide) rfl rfl (Nat.le_of_ble_eq_true rfl) ⟨by decide, Or.inr (by rw [hT]; decide)⟩ dX11_init_157 ⟨rfl, fun i => rfl⟩ (fun r204 V205 hp206 => ?_)
  obtain ⟨rfl, hA207, hF208⟩ := hp206
  change pm_J X 160 [(2, (0, 3)), (1, (3, 3)), (0, (3, 0))] [(3, 73), (3, 0)] 78 V205
  have e210 : V205 0 0 = 1 := by rw [hF208 0 (by decide)]; exact e182
  have e211 : V205 0 3 = 4 := by rw [hF208 0 (by decide)]; exact e183
  have e212 : V205 0 4 = 14 := by rw [hF208 0 (by decide)]; exact e184
  have e213 : V205 14 0 = 15 := by rw [hF208 14 (by decide)]; exact e185
  have e214 : V205 14 1 = 25 := by rw [hF208 14 (by decide)]; exact e186
  have e215 : V205 14 2 = 35 := by rw [hF208 14 (by decide)]; exact e187
  have e216 : V205 0 8 = 45 := by rw [hF208 0 (by decide)]; exact e188
  have e217 : V205 0 9 = 51 := by rw [hF208 0 (by decide)]; exact e189
  have e218 : V205 0 10 = 57 := by rw [hF208 0 (by decide)]; exact e190
  have e219 : V205 0 11 = 63 := by rw [hF208 0 (by decide)]; exact e191
  have e220 : V205 0 1 = 69 := by rw [hF208 0 (by decide)]; exact e192
  have e221 : V205 0 2 = 72 := by rw [hF208 0 (by decide)]; exact rfl
  have ha222 := ((ha193.up (by decide)).clr (by decide)).low hF208 (by decide)
  have ha223 := ((ha194.up (by decide)).clr (by decide)).low hF208 (by decide)
  have ha224 := ((ha195.up (by decide)).clr (by decide)).low hF208 (by decide)
  have ha225 := ((ha196.up (by decide)).clr (by decide)).low hF208 (by decide)
  have ha226 := ((ha197.up (by decide)).clr (by decide)).low hF208 (by decide)
  have ha227 := ((ha198.up (by decide)).clr (by decide)).low hF208 (by decide)
  have ha228 := ((ha199.up (by decide)).clr (by decide)).low hF208 (by decide)
  have ha229 := ((ha200.up (by decide)).clr (by decide)).low hF208 (by decide)
  have ha230 := ((ha201.up (by decide)).clr (by decide)).low hF208 (by decide)
  have ha231 := ((ha202.up (by decide)).clr (by decide)).low hF208 (by decide)
  have ha232 := ((ha203.up (by decide)).clr (by decide)).low hF208 (by decide)
  have ha233 := ((hA179.up (by decide)).clr (by decide)).low hF208 (by decide)
  have hf209 : ∀ k, k < 0 → V205 k = V0 k := fun k hk => (hF208 k (by omega)).trans (((pm_clr_k (by omega)).trans ((pm_up_k (by omega)).trans (Eq.refl _))).trans (hf181 k hk))
  refine pm_putF hC 0 fl_X11_75 rfl (hI rfl) rfl rfl rfl (by decide) rfl trivial dX11_init_160 ?_
  refine pm_aload_n hC 2 (by decide) dX11_init_163 rfl ?_
  refine pm_new hC 2101 2102 1010 rfl rfl pm_ht4 (by decide +kernel) (by decide +kernel) (by decide +kernel) (by rw [hT]; decide) dX11_init_164 ?_
  refine pm_dup hC rfl dX11_init_167 ?_
  refine pm_callIN (as := []) (st := [(3, 78), (3, 0)]) hC 78 i_X4_init_78 lm_X11_81 ln_X4_init rfl (by decide) (by decide) rfl (by decide) rfl rfl (Nat.le_of_ble_eq_true rfl) ⟨by decide, Or.inr (by rw [hT]; decide)⟩ dX11_init_168 ⟨rfl, fun i => rfl⟩ (fun r234 V235 hp236 => ?_)
  obtain ⟨rfl, hA237, hF238⟩ := hp236
  change pm_J X 171 [(2, (0, 3)), (1, (3, 3)), (0, (3, 0))] [(3, 78), (3, 0)] 83 V235
  have e240 : V235 0 0 = 1 := by rw [hF238 0 (by decide)]; exact e210
  have e241 : V235 0 3 = 4 := by rw [hF238 0 (by decide)]; exact e211
  have e242 : V235 0 4 = 14 := by rw [hF238 0 (by decide)]; exact e212
  have e243 : V235 14 0 = 15 := by rw [hF238 14 (by decide)]; exact e213
  have e244 : V235 14 1 = 25 := by rw [hF238 14 (by decide)]; exact e214
  have e245 : V235 14 2 = 35 := by rw [hF238 14 (by decide)]; exact e215
  have e246 : V235 0 8 = 45 := by rw [hF238 0 (by decide)]; exact e216
  have e247 : V235 0 9 = 51 := by rw [hF238 0 (by decide)]; exact e217
  have e248 : V235 0 10 = 57 := by rw [hF238 0 (by decide)]; exact e218
  have e249 : V235 0 11 = 63 := by rw [hF238 0 (by decide)]; exact e219
  have e250 : V235 0 1 = 69 := by rw [hF238 0 (by decide)]; exact e220
  have e251 : V235 0 2 = 72 := by rw [hF238 0 (by decide)]; exact e221
  have e252 : V235 0 5 = 73 := by rw [hF238 0 (by decide)]; exact rfl
  have ha253 := ((ha222.up (by decide)).clr (by decide)).low hF238 (by decide)
  have ha254 := ((ha223.up (by decide)).clr (by decide)).low hF238 (by decide)
  have ha255 := ((ha224.up (by decide)).clr (by decide)).low hF238 (by decide)
  have ha256 := ((ha225.up (by decide)).clr (by decide)).low hF238 (by decide)
  have ha257 := ((ha226.up (by decide)).clr (by decide)).low hF238 (by decide)
  have ha258 := ((ha227.up (by decide)).clr (by decide)).low hF238 (by decide)
  have ha259 := ((ha228.up (by decide)).clr (by decide)).low hF238 (by decide)
  have ha260 := ((ha229.up (by decide)).clr (by decide)).low hF238 (by decide)
  have ha261 := ((ha230.up (by decide)).clr (by decide)).low hF238 (by decide)
  have ha262 := ((ha231.up (by decide)).clr (by decide)).low hF238 (by decide)
  have ha263 := ((ha232.up (by decide)).clr (by decide)).low hF238 (by decide)
  have ha264 := ((ha233.up (by decide)).clr (by decide)).low hF238 (by decide)
  have ha265 := ((hA207.up (by decide)).clr (by decide)).low hF238 (by decide)
  have hf239 : ∀ k, k < 0 → V235 k = V0 k := fun k hk => (hF238 k (by omega)).trans (((pm_clr_k (by omega)).trans ((pm_up_k (by omega)).trans (Eq.refl _))).trans (hf209 k hk))
  refine pm_putF hC 0 fl_X11_82 rfl (hI rfl) rfl rfl rfl (by decide) rfl trivial dX11_init_171 ?_
  refine pm_aload_n hC 2 (by decide) dX11_init_174 rfl ?_
  refine pm_bipush (v := 7) hC dX11_init_175 (by decide) ?_
  refine pm_newa_long (len := 7) hC 1238 rfl rfl (by decide) (by decide +kernel) (by rw [hT]; decide) dX11_init_177 ?_
  refine pm_putF hC 0 fl_X11_86 rfl (hI rfl) rfl rfl rfl (by decide) rfl trivial dX11_init_179 ?_
  refine pm_aload_n hC 2 (by decide) dX11_init_182 rfl ?_
  refine pm_new hC 2127 2128 1012 rfl rfl pm_ht0 (by decide +kernel) (by decide +kernel) (by decide +kernel) (by rw [hT]; decide) dX11_init_183 ?_
  refine pm_dup hC rfl dX11_init_186 ?_
  refine pm_callIN (as := []) (st := [(3, 84), (3, 0)]) hC 84 i_X0_init_84 lm_X11_92 ln_X0_init rfl (by decide) (by decide) rfl (by decide) rfl rfl (Nat.le_of_ble_eq_true rfl) ⟨by decide, Or.inr (by rw [hT]; decide)⟩ dX11_init_187 ⟨rfl, fun i => rfl⟩ (fun r266 V267 hp268 => ?_)
  obtain ⟨rfl, hA269, hF270⟩ := hp268
  change pm_J X 190 [(2, (0, 3)), (1, (3, 3)), (0, (3, 0))] [(3, 84), (3, 0)] 87 V267
  have e272 : V267 0 0 = 1 := by rw [hF270 0 (by decide)]; exact e240
  have e273 : V267 0 3 = 4 := by rw [hF270 0 (by decide)]; exact e241
  have e274 : V267 0 4 = 14 := by rw [hF270 0 (by decide)]; exact e242
  have e275 : V267 14 0 = 15 := by rw [hF270 14 (by decide)]; exact e243
  have e276 : V267 14 1 = 25 := by rw [hF270 14 (by decide)]; exact e244
  have e277 : V267 14 2 = 35 := by rw [hF270 14 (by decide)]; exact e245
  have e278 : V267 0 8 = 45 := by rw [hF270 0 (by decide)]; exact e246
  have e279 : V267 0 9 = 51 := by rw [hF270 0 (by decide)]; exact e247
  have e280 : V267 0 10 = 57 := by rw [hF270 0 (by decide)]; exact e248
  have e281 : V267 0 11 = 63 := by rw [hF270 0 (by decide)]; exact e249
  have e282 : V267 0 1 = 69 := by rw [hF270 0 (by decide)]; exact e250
  have e283 : V267 0 2 = 72 := by rw [hF270 0 (by decide)]; exact e251
  have e284 : V267 0 5 = 73 := by rw [hF270 0 (by decide)]; exact e252
  have e285 : V267 0 6 = 78 := by rw [hF270 0 (by decide)]; exact rfl
  have e286 : V267 0 7 = 83 := by rw [hF270 0 (by decide)]; exact rfl
  have ha287 : pm_wa 83 84 (pm_clr (pm_up (pm_clr (pm_up V235 0 6 78) 83 (fun _ => 0)) 0 7 83) 84 (fun i => pm_dv (pm_ty 0 i))) := pm_wa.one fun i _ => rfl
  have ha288 := ha287.low hF270 (by decide)
  have ha289 := ((((ha253.up (by decide)).clr (by decide)).up (by decide)).clr (by decide)).low hF270 (by decide)
  have ha290 := ((((ha254.up (by decide)).clr (by decide)).up (by decide)).clr (by decide)).low hF270 (by decide)
  have ha291 := ((((ha255.up (by decide)).clr (by decide)).up (by decide)).clr (by decide)).low hF270 (by decide)
  have ha292 := ((((ha256.up (by decide)).clr (by decide)).up (by decide)).clr (by decide)).low hF270 (by decide)
  have ha293 := ((((ha257.up (by decide)).clr (by decide)).up (by decide)).clr (by decide)).low hF270 (by decide)
  have ha294 := ((((ha258.up (by decide)).clr (by decide)).up (by decide)).clr (by decide)).low hF270 (by decide)
  have ha295 := ((((ha259.up (by decide)).clr (by decide)).up (by decide)).clr (by decide)).low hF270 (by decide)
  have ha296 := ((((ha260.up (by decide)).clr (by decide)).up (by decide)).clr (by decide)).low hF270 (by decide)
  have ha297 := ((((ha261.up (by decide)).clr (by decide)).up (by decide)).clr (by decide)).low hF270 (by decide)
  have ha298 := ((((ha262.up (by decide)).clr (by decide)).up (by decide)).clr (by decide)).low hF270 (by decide)
  have ha299 := ((((ha263.up (by decide)).clr (by decide)).up (by decide)).clr (by decide)).low hF270 (by decide)
  have ha300 := ((((ha264.up (by decide)).clr (by decide)).up (by decide)).clr (by decide)).low hF270 (by decide)
  have ha301 := ((((ha265.up (by decide)).clr (by decide)).up (by decide)).clr (by decide)).low hF270 (by decide)
  have ha302 := ((((hA237.up (by decide)).clr (by decide)).up (by decide)).clr (by decide)).low hF270 (by decide)
  have hf271 : ∀ k, k < 0 → V267 k = V0 k := fun k hk => (hF270 k (by omega)).trans (((pm_clr_k (by omega)).trans ((pm_up_k (by omega)).trans ((pm_clr_k (by omega)).trans ((pm_up_k (by omega)).trans (Eq.refl _))))).trans (hf239 k hk))
  refine pm_putf hC 0 fl_X11_93 rfl rfl rfl (by decide) rfl trivial dX11_init_190 ?_
  refine pm_aload_n hC 2 (by decide) dX11_init_193 rfl ?_
  refine pm_new hC 2127 2128 1012 rfl rfl pm_ht0 (by decide +kernel) (by decide +kernel) (by decide +kernel) (by rw [hT]; decide) dX11_init_194 ?_
  refine pm_dup hC rfl dX11_init_197 ?_
  refine pm_callIN (as := []) (st := [(3, 87), (3, 0)]) hC 87 i_X0_init_87 lm_X11_92 ln_X0_init rfl (by decide) (by decide) rfl (by decide) rfl rfl (Nat.le_of_ble_eq_true rfl) ⟨by decide, Or.inr (by rw [hT]; decide)⟩ dX11_init_198 ⟨rfl, fun i => rfl⟩ (fun r303 V304 hp305 => ?_)
  obtain ⟨rfl, hA306, hF307⟩ := hp305
  change pm_J X 201 [(2, (0, 3)), (1, (3, 3)), (0, (3, 0))] [(3, 87), (3, 0)] 90 V304
  have e309 : V304 0 0 = 1 := by rw [hF307 0 (by decide)]; exact e272
  have e310 : V304 0 3 = 4 := by rw [hF307 0 (by decide)]; exact e273
  have e311 : V304 0 4 = 14 := by rw [hF307 0 (by decide)]; exact e274
  have e312 : V304 14 0 = 15 := by rw [hF307 14 (by decide)]; exact e275
  have e313 : V304 14 1 = 25 := by rw [hF307 14 (by decide)]; exact e276
  have e314 : V304 14 2 = 35 := by rw [hF307 14 (by decide)]; exact e277
  have e315 : V304 0 8 = 45 := by rw [hF307 0 (by decide)]; exact e278
  have e316 : V304 0 9 = 51 := by rw [hF307 0 (by decide)]; exact e279
  have e317 : V304 0 10 = 57 := by rw [hF307 0 (by decide)]; exact e280
  have e318 : V304 0 11 = 63 := by rw [hF307 0 (by decide)]; exact e281
  have e319 : V304 0 1 = 69 := by rw [hF307 0 (by decide)]; exact e282
  have e320 : V304 0 2 = 72 := by rw [hF307 0 (by decide)]; exact e283
  have e321 : V304 0 5 = 73 := by rw [hF307 0 (by decide)]; exact e284
  have e322 : V304 0 6 = 78 := by rw [hF307 0 (by decide)]; exact e285
  have e323 : V304 0 7 = 83 := by rw [hF307 0 (by decide)]; exact e286
  have e324 : V304 0 12 = 84 := by rw [hF307 0 (by decide)]; exact rfl
  have ha325 := ((ha288.up (by decide)).clr (by decide)).low hF307 (by decide)
  have ha326 := ((ha289.up (by decide)).clr (by decide)).low hF307 (by decide)
  have ha327 := ((ha290.up (by decide)).clr (by decide)).low hF307 (by decide)
  have ha328 := ((ha291.up (by decide)).clr (by decide)).low hF307 (by decide)
  have ha329 := ((ha292.up (by decide)).clr (by decide)).low hF307 (by decide)
  have ha330 := ((ha293.up (by decide)).clr (by decide)).low hF307 (by decide)
  have ha331 := ((ha294.up (by decide)).clr (by decide)).low hF307 (by decide)
  have ha332 := ((ha295.up (by decide)).clr (by decide)).low hF307 (by decide)
  have ha333 := ((ha296.up (by decide)).clr (by decide)).low hF307 (by decide)
  have ha334 := ((ha297.up (by decide)).clr (by decide)).low hF307 (by decide)
  have ha335 := ((ha298.up (by decide)).clr (by decide)).low hF307 (by decide)
  have ha336 := ((ha299.up (by decide)).clr (by decide)).low hF307 (by decide)
  have ha337 := ((ha300.up (by decide)).clr (by decide)).low hF307 (by decide)
  have ha338 := ((ha301.up (by decide)).clr (by decide)).low hF307 (by decide)
  have ha339 := ((ha302.up (by decide)).clr (by decide)).low hF307 (by decide)
  have ha340 := ((hA269.up (by decide)).clr (by decide)).low hF307 (by decide)
  have hf308 : ∀ k, k < 0 → V304 k = V0 k := fun k hk => (hF307 k (by omega)).trans (((pm_clr_k (by omega)).trans ((pm_up_k (by omega)).trans (Eq.refl _))).trans (hf271 k hk))
  refine pm_putf hC 0 fl_X11_97 rfl rfl rfl (by decide) rfl trivial dX11_init_201 ?_
  refine pm_aload_n hC 2 (by decide) dX11_init_204 rfl ?_
  refine pm_iconst (v := 0) hC dX11_init_205 ?_
  refine pm_putf hC 0 fl_X11_100 rfl rfl rfl (by decide) rfl trivial dX11_init_206 ?_
  refine pm_aload_n hC 2 (by decide) dX11_init_209 rfl ?_
  refine pm_iconst (v := 0) hC dX11_init_210 ?_
  refine pm_putf hC 0 fl_X11_104 rfl rfl rfl (by decide) rfl trivial dX11_init_211 ?_
  refine pm_aload_n hC 2 (by decide) dX11_init_214 rfl ?_
  refine pm_lconst (x := 0) hC dX11_init_215 rfl ?_
  refine pm_putf hC 0 fl_X11_107 rfl rfl rfl (by decide) rfl trivial dX11_init_216 ?_
  have hown : pm_wa 0 1 (pm_up (pm_up (pm_up (pm_up V304 0 13 87) 0 14 0) 0 15 0) 0 16 0) := pm_wa.one fun i hi => match i, hi with
    | 0, _ => e309
    | 1, _ => e319
    | 2, _ => e320
    | 3, _ => e310
    | 4, _ => e311
    | 5, _ => e321
    | 6, _ => e322
    | 7, _ => e323
    | 8, _ => e315
    | 9, _ => e316
    | 10, _ => e317
    | 11, _ => e318
    | 12, _ => e324
    | 13, _ => rfl
    | 14, _ => rfl
    | 15, _ => rfl
    | 16, _ => rfl
    | (j + 17), h => absurd h (Nat.not_lt.mpr (Nat.le_add_left 17 j))
  have hrow14 : pm_wa 14 15 (pm_up (pm_up (pm_up (pm_up V304 0 13 87) 0 14 0) 0 15 0) 0 16 0) := pm_wa.one fun i hi => match i, hi with
    | 0, _ => e312
    | 1, _ => e313
    | 2, _ => e314
    | (j + 3), h => absurd h (Nat.not_lt.mpr (Nat.le_add_left 3 j))
  exact pm_vret hC hR ⟨rfl, ((((((((((((((((((hown.app ((((ha326.up (by decide)).up (by decide)).up (by decide)).up (by decide))).app ((((ha327.up (by decide)).up (by decide)).up (by decide)).up (by decide))).app ((((ha328.up (by decide)).up (by decide)).up (by decide)).up (by decide))).app hrow14).app ((((ha329.up (by decide)).up (by decide)).up (by decide)).up (by decide))).app ((((ha330.up (by decide)).up (by decide)).up (by decide)).up (by decide))).app ((((ha331.up (by decide)).up (by decide)).up (by decide)).up (by decide))).app ((((ha332.up (by decide)).up (by decide)).up (by decide)).up (by decide))).app ((((ha333.up (by decide)).up (by decide)).up (by decide)).up (by decide))).app ((((ha334.up (by decide)).up (by decide)).up (by decide)).up (by decide))).app ((((ha335.up (by decide)).up (by decide)).up (by decide)).up (by decide))).app ((((ha336.up (by decide)).up (by decide)).up (by decide)).up (by decide))).app ((((ha337.up (by decide)).up (by decide)).up (by decide)).up (by decide))).app ((((ha338.up (by decide)).up (by decide)).up (by decide)).up (by decide))).app ((((ha339.up (by decide)).up (by decide)).up (by decide)).up (by decide))).app ((((ha325.up (by decide)).up (by decide)).up (by decide)).up (by decide))).app ((((ha340.up (by decide)).up (by decide)).up (by decide)).up (by decide))).app ((((hA306.up (by decide)).up (by decide)).up (by decide)).up (by decide))), fun k hk => ((pm_up_k (by omega)).trans ((pm_up_k (by omega)).trans ((pm_up_k (by omega)).trans ((pm_up_k (by omega)).trans (Eq.refl _))))).trans (hf308 k hk)⟩ dX11_init_219
set_option maxHeartbeats 4000000 in
set_option maxRecDepth 100000 in
theorem i_X12_init_90 : pm_MT 1 yX12_init cX12_init 1 none 91 118 (fun av V => av = [(3, 90)] ∧ ∀ i, V 90 i = pm_dv (pm_ty 12 i)) (fun _ V r V' => r = none ∧ pm_wa 90 118 V' ∧ ∀ k, k < 90 → V' k = V k) := by
  refine pm_MT.of (by decide) ⟨by decide, by decide⟩ (fun av V h => by rw [h.1]; exact (by decide : pm_words [(3, 0)] ≤ 1)) ?_
  rintro X av V0 hC hI hR ⟨rfl, hD⟩
  have hT := pm_Rt.top hR
  change pm_J X 0 [(0, (3, 90))] [] 91 V0
  refine pm_aload_n hC 0 (by decide) dX12_init_0 rfl ?_
  refine pm_objInit hC 5120 1025 1026 (by decide) (by decide) (by decide +kernel) (by decide +kernel) (by decide +kernel) (Nat.le_of_ble_eq_true rfl) dX12_init_1 ?_
  refine pm_aload_n hC 0 (by decide) dX12_init_4 rfl ?_
  refine pm_sipush (v := 500) hC dX12_init_5 (by decide) ?_
  refine pm_newa_byte (len := 500) hC 6056 rfl rfl (by decide) (by decide +kernel) (by rw [hT]; decide) dX12_init_8 ?_
  refine pm_putF hC 90 fl_X12_9 rfl (hI rfl) rfl rfl rfl (by decide) rfl trivial dX12_init_10 ?_
  refine pm_aload_n hC 0 (by decide) dX12_init_13 rfl ?_
  refine pm_bipush (v := 9) hC dX12_init_14 (by decide) ?_
  refine pm_newa_long (len := 9) hC 1238 rfl rfl (by decide) (by decide +kernel) (by rw [hT]; decide) dX12_init_16 ?_
  refine pm_putF hC 90 fl_X12_13 rfl (hI rfl) rfl rfl rfl (by decide) rfl trivial dX12_init_18 ?_
  refine pm_aload_n hC 0 (by decide) dX12_init_21 rfl ?_
  refine pm_bipush (v := 27) hC dX12_init_22 (by decide) ?_
  refine pm_newa_int (len := 27) hC 1043 rfl rfl (by decide) (by decide +kernel) (by rw [hT]; decide) dX12_init_24 ?_
  refine pm_putF hC 90 fl_X12_17 rfl (hI rfl) rfl rfl rfl (by decide) rfl trivial dX12_init_26 ?_
  refine pm_aload_n hC 0 (by decide) dX12_init_29 rfl ?_
  refine pm_bipush (v := 9) hC dX12_init_30 (by decide) ?_
  refine pm_newa_boolean (len := 9) hC 1127 rfl rfl (by decide) (by decide +kernel) (by rw [hT]; decide) dX12_init_32 ?_
  refine pm_putF hC 90 fl_X12_21 rfl (hI rfl) rfl rfl rfl (by decide) rfl trivial dX12_init_34 ?_
  refine pm_aload_n hC 0 (by decide) dX12_init_37 rfl ?_
  refine pm_iconst (v := 4) hC dX12_init_38 ?_
  refine pm_newa_int (len := 4) hC 1043 rfl rfl (by decide) (by decide +kernel) (by rw [hT]; decide) dX12_init_39 ?_
  refine pm_putF hC 90 fl_X12_25 rfl (hI rfl) rfl rfl rfl (by decide) rfl trivial dX12_init_41 ?_
  refine pm_aload_n hC 0 (by decide) dX12_init_44 rfl ?_
  refine pm_bipush (v := 36) hC dX12_init_45 (by decide) ?_
  refine pm_newa_int (len := 36) hC 1043 rfl rfl (by decide) (by decide +kernel) (by rw [hT]; decide) dX12_init_47 ?_
  refine pm_putF hC 90 fl_X12_28 rfl (hI rfl) rfl rfl rfl (by decide) rfl trivial dX12_init_49 ?_
  refine pm_aload_n hC 0 (by decide) dX12_init_52 rfl ?_
  refine pm_bipush (v := 27) hC dX12_init_53 (by decide) ?_
  refine pm_newa_int (len := 27) hC 1043 rfl rfl (by decide) (by decide +kernel) (by rw [hT]; decide) dX12_init_55 ?_
  refine pm_putF hC 90 fl_X12_31 rfl (hI rfl) rfl rfl rfl (by decide) rfl trivial dX12_init_57 ?_
  refine pm_aload_n hC 0 (by decide) dX12_init_60 rfl ?_
  refine pm_iconst (v := 4) hC dX12_init_61 ?_
  refine pm_newa_int (len := 4) hC 1043 rfl rfl (by decide) (by decide +kernel) (by rw [hT]; decide) dX12_init_62 ?_
  refine pm_putF hC 90 fl_X12_34 rfl (hI rfl) rfl rfl rfl (by decide) rfl trivial dX12_init_64 ?_
  refine pm_aload_n hC 0 (by decide) dX12_init_67 rfl ?_
  refine pm_bipush (v := 36) hC dX12_init_68 (by decide) ?_
  refine pm_newa_int (len := 36) hC 1043 rfl rfl (by decide) (by decide +kernel) (by rw [hT]; decide) dX12_init_70 ?_
  refine pm_putF hC 90 fl_X12_37 rfl (hI rfl) rfl rfl rfl (by decide) rfl trivial dX12_init_72 ?_
  refine pm_aload_n hC 0 (by decide) dX12_init_75 rfl ?_
  refine pm_bipush (v := 40) hC dX12_init_76 (by decide) ?_
  refine pm_newa_int (len := 40) hC 1043 rfl rfl (by decide) (by decide +kernel) (by rw [hT]; decide) dX12_init_78 ?_
  refine pm_putF hC 90 fl_X12_40 rfl (hI rfl) rfl rfl rfl (by decide) rfl trivial dX12_init_80 ?_
  refine pm_aload_n hC 0 (by decide) dX12_init_83 rfl ?_
  refine pm_sipush (v := 300) hC dX12_init_84 (by decide) ?_
  refine pm_newa_int (len := 300) hC 1043 rfl rfl (by decide) (by decide +kernel) (by rw [hT]; decide) dX12_init_87 ?_
  refine pm_putF hC 90 fl_X12_43 rfl (hI rfl) rfl rfl rfl (by decide) rfl trivial dX12_init_89 ?_
  refine pm_aload_n hC 0 (by decide) dX12_init_92 rfl ?_
  refine pm_iconst (v := 3) hC dX12_init_93 ?_
  refine pm_newa_boolean (len := 3) hC 1127 rfl rfl (by decide) (by decide +kernel) (by rw [hT]; decide) dX12_init_94 ?_
  refine pm_putF hC 90 fl_X12_46 rfl (hI rfl) rfl rfl rfl (by decide) rfl trivial dX12_init_96 ?_
  refine pm_aload_n hC 0 (by decide) dX12_init_99 rfl ?_
  refine pm_iconst (v := 3) hC dX12_init_100 ?_
  refine pm_newa_int (len := 3) hC 1043 rfl rfl (by decide) (by decide +kernel) (by rw [hT]; decide) dX12_init_101 ?_
  refine pm_putF hC 90 fl_X12_49 rfl (hI rfl) rfl rfl rfl (by decide) rfl trivial dX12_init_103 ?_
  refine pm_aload_n hC 0 (by decide) dX12_init_106 rfl ?_
  refine pm_bipush (v := 120) hC dX12_init_107 (by decide) ?_
  refine pm_newa_int (len := 120) hC 1043 rfl rfl (by decide) (by decide +kernel) (by rw [hT]; decide) dX12_init_109 ?_
  refine pm_putF hC 90 fl_X12_52 rfl (hI rfl) rfl rfl rfl (by decide) rfl trivial dX12_init_111 ?_
  refine pm_aload_n hC 0 (by decide) dX12_init_114 rfl ?_
  refine pm_iconst (v := 3) hC dX12_init_115 ?_
  refine pm_newa_int (len := 3) hC 1043 rfl rfl (by decide) (by decide +kernel) (by rw [hT]; decide) dX12_init_116 ?_
  refine pm_putF hC 90 fl_X12_55 rfl (hI rfl) rfl rfl rfl (by decide) rfl trivial dX12_init_118 ?_
  refine pm_aload_n hC 0 (by decide) dX12_init_121 rfl ?_
  refine pm_sipush (v := 900) hC dX12_init_122 (by decide) ?_
  refine pm_newa_int (len := 900) hC 1043 rfl rfl (by decide) (by decide +kernel) (by rw [hT]; decide) dX12_init_125 ?_
  refine pm_putF hC 90 fl_X12_58 rfl (hI rfl) rfl rfl rfl (by decide) rfl trivial dX12_init_127 ?_
  refine pm_aload_n hC 0 (by decide) dX12_init_130 rfl ?_
  refine pm_sipush (v := 1200) hC dX12_init_131 (by decide) ?_
  refine pm_newa_int (len := 1200) hC 1043 rfl rfl (by decide) (by decide +kernel) (by rw [hT]; decide) dX12_init_134 ?_
  refine pm_putF hC 90 fl_X12_61 rfl (hI rfl) rfl rfl rfl (by decide) rfl trivial dX12_init_136 ?_
  refine pm_aload_n hC 0 (by decide) dX12_init_139 rfl ?_
  refine pm_sipush (v := 1200) hC dX12_init_140 (by decide) ?_
  refine pm_newa_int (len := 1200) hC 1043 rfl rfl (by decide) (by decide +kernel) (by rw [hT]; decide) dX12_init_143 ?_
  refine pm_putF hC 90 fl_X12_64 rfl (hI rfl) rfl rfl rfl (by decide) rfl trivial dX12_init_145 ?_
  refine pm_aload_n hC 0 (by decide) dX12_init_148 rfl ?_
  refine pm_sipush (v := 600) hC dX12_init_149 (by decide) ?_
  refine pm_newa_int (len := 600) hC 1043 rfl rfl (by decide) (by decide +kernel) (by rw [hT]; decide) dX12_init_152 ?_
  refine pm_putF hC 90 fl_X12_67 rfl (hI rfl) rfl rfl rfl (by decide) rfl trivial dX12_init_154 ?_
  refine pm_aload_n hC 0 (by decide) dX12_init_157 rfl ?_
  refine pm_bipush (v := 9) hC dX12_init_158 (by decide) ?_
  refine pm_newa_int (len := 9) hC 1043 rfl rfl (by decide) (by decide +kernel) (by rw [hT]; decide) dX12_init_160 ?_
  refine pm_putF hC 90 fl_X12_70 rfl (hI rfl) rfl rfl rfl (by decide) rfl trivial dX12_init_162 ?_
  refine pm_aload_n hC 0 (by decide) dX12_init_165 rfl ?_
  refine pm_bipush (v := 9) hC dX12_init_166 (by decide) ?_
  refine pm_newa_int (len := 9) hC 1043 rfl rfl (by decide) (by decide +kernel) (by rw [hT]; decide) dX12_init_168 ?_
  refine pm_putF hC 90 fl_X12_73 rfl (hI rfl) rfl rfl rfl (by decide) rfl trivial dX12_init_170 ?_
  refine pm_aload_n hC 0 (by decide) dX12_init_173 rfl ?_
  refine pm_bipush (v := 9) hC dX12_init_174 (by decide) ?_
  refine pm_newa_long (len := 9) hC 1238 rfl rfl (by decide) (by decide +kernel) (by rw [hT]; decide) dX12_init_176 ?_
  refine pm_putF hC 90 fl_X12_76 rfl (hI rfl) rfl rfl rfl (by decide) rfl trivial dX12_init_178 ?_
  refine pm_aload_n hC 0 (by decide) dX12_init_181 rfl ?_
  refine pm_sipush (v := 2400) hC dX12_init_182 (by decide) ?_
  refine pm_newa_int (len := 2400) hC 1043 rfl rfl (by decide) (by decide +kernel) (by rw [hT]; decide) dX12_init_185 ?_
  refine pm_putF hC 90 fl_X12_79 rfl (hI rfl) rfl rfl rfl (by decide) rfl trivial dX12_init_187 ?_
  refine pm_aload_n hC 0 (by decide) dX12_init_190 rfl ?_
  refine pm_bipush (v := 8) hC dX12_init_191 (by decide) ?_
  refine pm_newa_int (len := 8) hC 1043 rfl rfl (by decide) (by decide +kernel) (by rw [hT]; decide) dX12_init_193 ?_
  refine pm_putF hC 90 fl_X12_82 rfl (hI rfl) rfl rfl rfl (by decide) rfl trivial dX12_init_195 ?_
  refine pm_aload_n hC 0 (by decide) dX12_init_198 rfl ?_
  refine pm_bipush (v := 9) hC dX12_init_199 (by decide) ?_
  refine pm_newa_long (len := 9) hC 1238 rfl rfl (by decide) (by decide +kernel) (by rw [hT]; decide) dX12_init_201 ?_
  refine pm_putF hC 90 fl_X12_85 rfl (hI rfl) rfl rfl rfl (by decide) rfl trivial dX12_init_203 ?_
  refine pm_aload_n hC 0 (by decide) dX12_init_206 rfl ?_
  refine pm_bipush (v := 7) hC dX12_init_207 (by decide) ?_
  refine pm_newa_int (len := 7) hC 1043 rfl rfl (by decide) (by decide +kernel) (by rw [hT]; decide) dX12_init_209 ?_
  refine pm_putF hC 90 fl_X12_88 rfl (hI rfl) rfl rfl rfl (by decide) rfl trivial dX12_init_211 ?_
  refine pm_aload_n hC 0 (by decide) dX12_init_214 rfl ?_
  refine pm_sipush (v := 600) hC dX12_init_215 (by decide) ?_
  refine pm_newa_int (len := 600) hC 1043 rfl rfl (by decide) (by decide +kernel) (by rw [hT]; decide) dX12_init_218 ?_
  refine pm_putF hC 90 fl_X12_91 rfl (hI rfl) rfl rfl rfl (by decide) rfl trivial dX12_init_220 ?_
  have hown : pm_wa 90 91 (pm_up (pm_clr (pm_up (pm_clr (pm_up (pm_clr (pm_up (pm_clr (pm_up (pm_clr (pm_up (pm_clr (pm_up (pm_clr (pm_up (pm_clr (pm_up (pm_clr (pm_up (pm_clr (pm_up (pm_clr (pm_up (pm_clr (pm_up (pm_clr (pm_up (pm_clr (pm_up (pm_clr (pm_up (pm_clr (pm_up (pm_clr (pm_up (pm_clr (pm_up (pm_clr (pm_up (pm_clr (pm_up (pm_clr (pm_up (pm_clr (pm_up (pm_clr (pm_up (pm_clr (pm_up (pm_clr (pm_up (pm_clr (pm_up (pm_clr V0 91 (fun _ => 0)) 90 0 91) 92 (fun _ => 0)) 90 7 92) 93 (fun _ => 0)) 90 8 93) 94 (fun _ => 0)) 90 9 94) 95 (fun _ => 0)) 90 10 95) 96 (fun _ => 0)) 90 14 96) 97 (fun _ => 0)) 90 17 97) 98 (fun _ => 0)) 90 18 98) 99 (fun _ => 0)) 90 22 99) 100 (fun _ => 0)) 90 24 100) 101 (fun _ => 0)) 90 26 101) 102 (fun _ => 0)) 90 27 102) 103 (fun _ => 0)) 90 28 103) 104 (fun _ => 0)) 90 29 104) 105 (fun _ => 0)) 90 30 105) 106 (fun _ => 0)) 90 31 106) 107 (fun _ => 0)) 90 34 107) 108 (fun _ => 0)) 90 36 108) 109 (fun _ => 0)) 90 38 109) 110 (fun _ => 0)) 90 40 110) 111 (fun _ => 0)) 90 41 111) 112 (fun _ => 0)) 90 50 112) 113 (fun _ => 0)) 90 52 113) 114 (fun _ => 0)) 90 53 114) 115 (fun _ => 0)) 90 54 115) 116 (fun _ => 0)) 90 55 116) 117 (fun _ => 0)) 90 56 117) := pm_wa.one fun i hi => match i, hi with
    | 0, _ => rfl
    | 1, _ => hD 1
    | 2, _ => hD 2
    | 3, _ => hD 3
    | 4, _ => hD 4
    | 5, _ => hD 5
    | 6, _ => hD 6
    | 7, _ => rfl
    | 8, _ => rfl
    | 9, _ => rfl
    | 10, _ => rfl
    | 11, _ => hD 11
    | 12, _ => hD 12
    | 13, _ => hD 13
    | 14, _ => rfl
    | 15, _ => hD 15
    | 16, _ => hD 16
    | 17, _ => rfl
    | 18, _ => rfl
    | 19, _ => hD 19
    | 20, _ => hD 20
    | 21, _ => hD 21
    | 22, _ => rfl
    | 23, _ => hD 23
    | 24, _ => rfl
    | 25, _ => hD 25
    | 26, _ => rfl
    | 27, _ => rfl
    | 28, _ => rfl
    | 29, _ => rfl
    | 30, _ => rfl
    | 31, _ => rfl
    | 32, _ => hD 32
    | 33, _ => hD 33
    | 34, _ => rfl
    | 35, _ => hD 35
    | 36, _ => rfl
    | 37, _ => hD 37
    | 38, _ => rfl
    | 39, _ => hD 39
    | 40, _ => rfl
    | 41, _ => rfl
    | 42, _ => hD 42
    | 43, _ => hD 43
    | 44, _ => hD 44
    | 45, _ => hD 45
    | 46, _ => hD 46
    | 47, _ => hD 47
    | 48, _ => hD 48
    | 49, _ => hD 49
    | 50, _ => rfl
    | 51, _ => hD 51
    | 52, _ => rfl
    | 53, _ => rfl
    | 54, _ => rfl
    | 55, _ => rfl
    | 56, _ => rfl
    | 57, _ => hD 57
    | (j + 58), h => absurd h (Nat.not_lt.mpr (Nat.le_add_left 58 j))
  have ha1 : pm_wa 91 92 (pm_up (pm_clr (pm_up (pm_clr (pm_up (pm_clr (pm_up (pm_clr (pm_up (pm_clr (pm_up (pm_clr (pm_up (pm_clr (pm_up (pm_clr (pm_up (pm_clr (pm_up (pm_clr (pm_up (pm_clr (pm_up (pm_clr (pm_up (pm_clr (pm_up (pm_clr (pm_up (pm_clr (pm_up (pm_clr (pm_up (pm_clr (pm_up (pm_clr (pm_up (pm_clr (pm_up (pm_clr (pm_up (pm_clr (pm_up (pm_clr (pm_up (pm_clr (pm_up (pm_clr (pm_up (pm_clr (pm_up (pm_clr (pm_up (pm_clr V0 91 (fun _ => 0)) 90 0 91) 92 (fun _ => 0)) 90 7 92) 93 (fun _ => 0)) 90 8 93) 94 (fun _ => 0)) 90 9 94) 95 (fun _ => 0)) 90 10 95) 96 (fun _ => 0)) 90 14 96) 97 (fun _ => 0)) 90 17 97) 98 (fun _ => 0)) 90 18 98) 99 (fun _ => 0)) 90 22 99) 100 (fun _ => 0)) 90 24 100) 101 (fun _ => 0)) 90 26 101) 102 (fun _ => 0)) 90 27 102) 103 (fun _ => 0)) 90 28 103) 104 (fun _ => 0)) 90 29 104) 105 (fun _ => 0)) 90 30 105) 106 (fun _ => 0)) 90 31 106) 107 (fun _ => 0)) 90 34 107) 108 (fun _ => 0)) 90 36 108) 109 (fun _ => 0)) 90 38 109) 110 (fun _ => 0)) 90 40 110) 111 (fun _ => 0)) 90 41 111) 112 (fun _ => 0)) 90 50 112) 113 (fun _ => 0)) 90 52 113) 114 (fun _ => 0)) 90 53 114) 115 (fun _ => 0)) 90 54 115) 116 (fun _ => 0)) 90 55 116) 117 (fun _ => 0)) 90 56 117) := pm_wa.one fun i _ => rfl
  have ha2 : pm_wa 92 93 (pm_up (pm_clr (pm_up (pm_clr (pm_up (pm_clr (pm_up (pm_clr (pm_up (pm_clr (pm_up (pm_clr (pm_up (pm_clr (pm_up (pm_clr (pm_up (pm_clr (pm_up (pm_clr (pm_up (pm_clr (pm_up (pm_clr (pm_up (pm_clr (pm_up (pm_clr (pm_up (pm_clr (pm_up (pm_clr (pm_up (pm_clr (pm_up (pm_clr (pm_up (pm_clr (pm_up (pm_clr (pm_up (pm_clr (pm_up (pm_clr (pm_up (pm_clr (pm_up (pm_clr (pm_up (pm_clr (pm_up (pm_clr (pm_up (pm_clr V0 91 (fun _ => 0)) 90 0 91) 92 (fun _ => 0)) 90 7 92) 93 (fun _ => 0)) 90 8 93) 94 (fun _ => 0)) 90 9 94) 95 (fun _ => 0)) 90 10 95) 96 (fun _ => 0)) 90 14 96) 97 (fun _ => 0)) 90 17 97) 98 (fun _ => 0)) 90 18 98) 99 (fun _ => 0)) 90 22 99) 100 (fun _ => 0)) 90 24 100) 101 (fun _ => 0)) 90 26 101) 102 (fun _ => 0)) 90 27 102) 103 (fun _ => 0)) 90 28 103) 104 (fun _ => 0)) 90 29 104) 105 (fun _ => 0)) 90 30 105) 106 (fun _ => 0)) 90 31 106) 107 (fun _ => 0)) 90 34 107) 108 (fun _ => 0)) 90 36 108) 109 (fun _ => 0)) 90 38 109) 110 (fun _ => 0)) 90 40 110) 111 (fun _ => 0)) 90 41 111) 112 (fun _ => 0)) 90 50 112) 113 (fun _ => 0)) 90 52 113) 114 (fun _ => 0)) 90 53 114) 115 (fun _ => 0)) 90 54 115) 116 (fun _ => 0)) 90 55 116) 117 (fun _ => 0)) 90 56 117) := pm_wa.one fun i _ => rfl
  have ha3 : pm_wa 93 94 (pm_up (pm_clr (pm_up (pm_clr (pm_up (pm_clr (pm_up (pm_clr (pm_up (pm_clr (pm_up (pm_clr (pm_up (pm_clr (pm_up (pm_clr (pm_up (pm_clr (pm_up (pm_clr (pm_up (pm_clr (pm_up (pm_clr (pm_up (pm_clr (pm_up (pm_clr (pm_up (pm_clr (pm_up (pm_clr (pm_up (pm_clr (pm_up (pm_clr (pm_up (pm_clr (pm_up (pm_clr (pm_up (pm_clr (pm_up (pm_clr (pm_up (pm_clr (pm_up (pm_clr (pm_up (pm_clr (pm_up (pm_clr (pm_up (pm_clr V0 91 (fun _ => 0)) 90 0 91) 92 (fun _ => 0)) 90 7 92) 93 (fun _ => 0)) 90 8 93) 94 (fun _ => 0)) 90 9 94) 95 (fun _ => 0)) 90 10 95) 96 (fun _ => 0)) 90 14 96) 97 (fun _ => 0)) 90 17 97) 98 (fun _ => 0)) 90 18 98) 99 (fun _ => 0)) 90 22 99) 100 (fun _ => 0)) 90 24 100) 101 (fun _ => 0)) 90 26 101) 102 (fun _ => 0)) 90 27 102) 103 (fun _ => 0)) 90 28 103) 104 (fun _ => 0)) 90 29 104) 105 (fun _ => 0)) 90 30 105) 106 (fun _ => 0)) 90 31 106) 107 (fun _ => 0)) 90 34 107) 108 (fun _ => 0)) 90 36 108) 109 (fun _ => 0)) 90 38 109) 110 (fun _ => 0)) 90 40 110) 111 (fun _ => 0)) 90 41 111) 112 (fun _ => 0)) 90 50 112) 113 (fun _ => 0)) 90 52 113) 114 (fun _ => 0)) 90 53 114) 115 (fun _ => 0)) 90 54 115) 116 (fun _ => 0)) 90 55 116) 117 (fun _ => 0)) 90 56 117) := pm_wa.one fun i _ => rfl
  have ha4 : pm_wa 94 95 (pm_up (pm_clr (pm_up (pm_clr (pm_up (pm_clr (pm_up (pm_clr (pm_up (pm_clr (pm_up (pm_clr (pm_up (pm_clr (pm_up (pm_clr (pm_up (pm_clr (pm_up (pm_clr (pm_up (pm_clr (pm_up (pm_clr (pm_up (pm_clr (pm_up (pm_clr (pm_up (pm_clr (pm_up (pm_clr (pm_up (pm_clr (pm_up (pm_clr (pm_up (pm_clr (pm_up (pm_clr (pm_up (pm_clr (pm_up (pm_clr (pm_up (pm_clr (pm_up (pm_clr (pm_up (pm_clr (pm_up (pm_clr (pm_up (pm_clr V0 91 (fun _ => 0)) 90 0 91) 92 (fun _ => 0)) 90 7 92) 93 (fun _ => 0)) 90 8 93) 94 (fun _ => 0)) 90 9 94) 95 (fun _ => 0)) 90 10 95) 96 (fun _ => 0)) 90 14 96) 97 (fun _ => 0)) 90 17 97) 98 (fun _ => 0)) 90 18 98) 99 (fun _ => 0)) 90 22 99) 100 (fun _ => 0)) 90 24 100) 101 (fun _ => 0)) 90 26 101) 102 (fun _ => 0)) 90 27 102) 103 (fun _ => 0)) 90 28 103) 104 (fun _ => 0)) 90 29 104) 105 (fun _ => 0)) 90 30 105) 106 (fun _ => 0)) 90 31 106) 107 (fun _ => 0)) 90 34 107) 108 (fun _ => 0)) 90 36 108) 109 (fun _ => 0)) 90 38 109) 110 (fun _ => 0)) 90 40 110) 111 (fun _ => 0)) 90 41 111) 112 (fun _ => 0)) 90 50 112) 113 (fun _ => 0)) 90 52 113) 114 (fun _ => 0)) 90 53 114) 115 (fun _ => 0)) 90 54 115) 116 (fun _ => 0)) 90 55 116) 117 (fun _ => 0)) 90 56 117) := pm_wa.one fun i _ => rfl
  have ha5 : pm_wa 95 96 (pm_up (pm_clr (pm_up (pm_clr (pm_up (pm_clr (pm_up (pm_clr (pm_up (pm_clr (pm_up (pm_clr (pm_up (pm_clr (pm_up (pm_clr (pm_up (pm_clr (pm_up (pm_clr (pm_up (pm_clr (pm_up (pm_clr (pm_up (pm_clr (pm_up (pm_clr (pm_up (pm_clr (pm_up (pm_clr (pm_up (pm_clr (pm_up (pm_clr (pm_up (pm_clr (pm_up (pm_clr (pm_up (pm_clr (pm_up (pm_clr (pm_up (pm_clr (pm_up (pm_clr (pm_up (pm_clr (pm_up (pm_clr (pm_up (pm_clr V0 91 (fun _ => 0)) 90 0 91) 92 (fun _ => 0)) 90 7 92) 93 (fun _ => 0)) 90 8 93) 94 (fun _ => 0)) 90 9 94) 95 (fun _ => 0)) 90 10 95) 96 (fun _ => 0)) 90 14 96) 97 (fun _ => 0)) 90 17 97) 98 (fun _ => 0)) 90 18 98) 99 (fun _ => 0)) 90 22 99) 100 (fun _ => 0)) 90 24 100) 101 (fun _ => 0)) 90 26 101) 102 (fun _ => 0)) 90 27 102) 103 (fun _ => 0)) 90 28 103) 104 (fun _ => 0)) 90 29 104) 105 (fun _ => 0)) 90 30 105) 106 (fun _ => 0)) 90 31 106) 107 (fun _ => 0)) 90 34 107) 108 (fun _ => 0)) 90 36 108) 109 (fun _ => 0)) 90 38 109) 110 (fun _ => 0)) 90 40 110) 111 (fun _ => 0)) 90 41 111) 112 (fun _ => 0)) 90 50 112) 113 (fun _ => 0)) 90 52 113) 114 (fun _ => 0)) 90 53 114) 115 (fun _ => 0)) 90 54 115) 116 (fun _ => 0)) 90 55 116) 117 (fun _ => 0)) 90 56 117) := pm_wa.one fun i _ => rfl
  have ha6 : pm_wa 96 97 (pm_up (pm_clr (pm_up (pm_clr (pm_up (pm_clr (pm_up (pm_clr (pm_up (pm_clr (pm_up (pm_clr (pm_up (pm_clr (pm_up (pm_clr (pm_up (pm_clr (pm_up (pm_clr (pm_up (pm_clr (pm_up (pm_clr (pm_up (pm_clr (pm_up (pm_clr (pm_up (pm_clr (pm_up (pm_clr (pm_up (pm_clr (pm_up (pm_clr (pm_up (pm_clr (pm_up (pm_clr (pm_up (pm_clr (pm_up (pm_clr (pm_up (pm_clr (pm_up (pm_clr (pm_up (pm_clr (pm_up (pm_clr (pm_up (pm_clr V0 91 (fun _ => 0)) 90 0 91) 92 (fun _ => 0)) 90 7 92) 93 (fun _ => 0)) 90 8 93) 94 (fun _ => 0)) 90 9 94) 95 (fun _ => 0)) 90 10 95) 96 (fun _ => 0)) 90 14 96) 97 (fun _ => 0)) 90 17 97) 98 (fun _ => 0)) 90 18 98) 99 (fun _ => 0)) 90 22 99) 100 (fun _ => 0)) 90 24 100) 101 (fun _ => 0)) 90 26 101) 102 (fun _ => 0)) 90 27 102) 103 (fun _ => 0)) 90 28 103) 104 (fun _ => 0)) 90 29 104) 105 (fun _ => 0)) 90 30 105) 106 (fun _ => 0)) 90 31 106) 107 (fun _ => 0)) 90 34 107) 108 (fun _ => 0)) 90 36 108) 109 (fun _ => 0)) 90 38 109) 110 (fun _ => 0)) 90 40 110) 111 (fun _ => 0)) 90 41 111) 112 (fun _ => 0)) 90 50 112) 113 (fun _ => 0)) 90 52 113) 114 (fun _ => 0)) 90 53 114) 115 (fun _ => 0)) 90 54 115) 116 (fun _ => 0)) 90 55 116) 117 (fun _ => 0)) 90 56 117) := pm_wa.one fun i _ => rfl
  have ha7 : pm_wa 97 98 (pm_up (pm_clr (pm_up (pm_clr (pm_up (pm_clr (pm_up (pm_clr (pm_up (pm_clr (pm_up (pm_clr (pm_up (pm_clr (pm_up (pm_clr (pm_up (pm_clr (pm_up (pm_clr (pm_up (pm_clr (pm_up (pm_clr (pm_up (pm_clr (pm_up (pm_clr (pm_up (pm_clr (pm_up (pm_clr (pm_up (pm_clr (pm_up (pm_clr (pm_up (pm_clr (pm_up (pm_clr (pm_up (pm_clr (pm_up (pm_clr (pm_up (pm_clr (pm_up (pm_clr (pm_up (pm_clr (pm_up (pm_clr (pm_up (pm_clr V0 91 (fun _ => 0)) 90 0 91) 92 (fun _ => 0)) 90 7 92) 93 (fun _ => 0)) 90 8 93) 94 (fun _ => 0)) 90 9 94) 95 (fun _ => 0)) 90 10 95) 96 (fun _ => 0)) 90 14 96) 97 (fun _ => 0)) 90 17 97) 98 (fun _ => 0)) 90 18 98) 99 (fun _ => 0)) 90 22 99) 100 (fun _ => 0)) 90 24 100) 101 (fun _ => 0)) 90 26 101) 102 (fun _ => 0)) 90 27 102) 103 (fun _ => 0)) 90 28 103) 104 (fun _ => 0)) 90 29 104) 105 (fun _ => 0)) 90 30 105) 106 (fun _ => 0)) 90 31 106) 107 (fun _ => 0)) 90 34 107) 108 (fun _ => 0)) 90 36 108) 109 (fun _ => 0)) 90 38 109) 110 (fun _ => 0)) 90 40 110) 111 (fun _ => 0)) 90 41 111) 112 (fun _ => 0)) 90 50 112) 113 (fun _ => 0)) 90 52 113) 114 (fun _ => 0)) 90 53 114) 115 (fun _ => 0)) 90 54 115) 116 (fun _ => 0)) 90 55 116) 117 (fun _ => 0)) 90 56 117) := pm_wa.one fun i _ => rfl
  have ha8 : pm_wa 98 99 (pm_up (pm_clr (pm_up (pm_clr (pm_up (pm_clr (pm_up (pm_clr (pm_up (pm_clr (pm_up (pm_clr (pm_up (pm_clr (pm_up (pm_clr (pm_up (pm_clr (pm_up (pm_clr (pm_up (pm_clr (pm_up (pm_clr (pm_up (pm_clr (pm_up (pm_clr (pm_up (pm_clr (pm_up (pm_clr (pm_up (pm_clr (pm_up (pm_clr (pm_up (pm_clr (pm_up (pm_clr (pm_up (pm_clr (pm_up (pm_clr (pm_up (pm_clr (pm_up (pm_clr (pm_up (pm_clr (pm_up (pm_clr (pm_up (pm_clr V0 91 (fun _ => 0)) 90 0 91) 92 (fun _ => 0)) 90 7 92) 93 (fun _ => 0)) 90 8 93) 94 (fun _ => 0)) 90 9 94) 95 (fun _ => 0)) 90 10 95) 96 (fun _ => 0)) 90 14 96) 97 (fun _ => 0)) 90 17 97) 98 (fun _ => 0)) 90 18 98) 99 (fun _ => 0)) 90 22 99) 100 (fun _ => 0)) 90 24 100) 101 (fun _ => 0)) 90 26 101) 102 (fun _ => 0)) 90 27 102) 103 (fun _ => 0)) 90 28 103) 104 (fun _ => 0)) 90 29 104) 105 (fun _ => 0)) 90 30 105) 106 (fun _ => 0)) 90 31 106) 107 (fun _ => 0)) 90 34 107) 108 (fun _ => 0)) 90 36 108) 109 (fun _ => 0)) 90 38 109) 110 (fun _ => 0)) 90 40 110) 111 (fun _ => 0)) 90 41 111) 112 (fun _ => 0)) 90 50 112) 113 (fun _ => 0)) 90 52 113) 114 (fun _ => 0)) 90 53 114) 115 (fun _ => 0)) 90 54 115) 116 (fun _ => 0)) 90 55 116) 117 (fun _ => 0)) 90 56 117) := pm_wa.one fun i _ => rfl
  have ha9 : pm_wa 99 100 (pm_up (pm_clr (pm_up (pm_clr (pm_up (pm_clr (pm_up (pm_clr (pm_up (pm_clr (pm_up (pm_clr (pm_up (pm_clr (pm_up (pm_clr (pm_up (pm_clr (pm_up (pm_clr (pm_up (pm_clr (pm_up (pm_clr (pm_up (pm_clr (pm_up (pm_clr (pm_up (pm_clr (pm_up (pm_clr (pm_up (pm_clr (pm_up (pm_clr (pm_up (pm_clr (pm_up (pm_clr (pm_up (pm_clr (pm_up (pm_clr (pm_up (pm_clr (pm_up (pm_clr (pm_up (pm_clr (pm_up (pm_clr (pm_up (pm_clr V0 91 (fun _ => 0)) 90 0 91) 92 (fun _ => 0)) 90 7 92) 93 (fun _ => 0)) 90 8 93) 94 (fun _ => 0)) 90 9 94) 95 (fun _ => 0)) 90 10 95) 96 (fun _ => 0)) 90 14 96) 97 (fun _ => 0)) 90 17 97) 98 (fun _ => 0)) 90 18 98) 99 (fun _ => 0)) 90 22 99) 100 (fun _ => 0)) 90 24 100) 101 (fun _ => 0)) 90 26 101) 102 (fun _ => 0)) 90 27 102) 103 (fun _ => 0)) 90 28 103) 104 (fun _ => 0)) 90 29 104) 105 (fun _ => 0)) 90 30 105) 106 (fun _ => 0)) 90 31 106) 107 (fun _ => 0)) 90 34 107) 108 (fun _ => 0)) 90 36 108) 109 (fun _ => 0)) 90 38 109) 110 (fun _ => 0)) 90 40 110) 111 (fun _ => 0)) 90 41 111) 112 (fun _ => 0)) 90 50 112) 113 (fun _ => 0)) 90 52 113) 114 (fun _ => 0)) 90 53 114) 115 (fun _ => 0)) 90 54 115) 116 (fun _ => 0)) 90 55 116) 117 (fun _ => 0)) 90 56 117) := pm_wa.one fun i _ => rfl
  have ha10 : pm_wa 100 101 (pm_up (pm_clr (pm_up (pm_clr (pm_up (pm_clr (pm_up (pm_clr (pm_up (pm_clr (pm_up (pm_clr (pm_up (pm_clr (pm_up (pm_clr (pm_up (pm_clr (pm_up (pm_clr (pm_up (pm_clr (pm_up (pm_clr (pm_up (pm_clr (pm_up (pm_clr (pm_up (pm_clr (pm_up (pm_clr (pm_up (pm_clr (pm_up (pm_clr (pm_up (pm_clr (pm_up (pm_clr (pm_up (pm_clr (pm_up (pm_clr (pm_up (pm_clr (pm_up (pm_clr (pm_up (pm_clr (pm_up (pm_clr (pm_up (pm_clr V0 91 (fun _ => 0)) 90 0 91) 92 (fun _ => 0)) 90 7 92) 93 (fun _ => 0)) 90 8 93) 94 (fun _ => 0)) 90 9 94) 95 (fun _ => 0)) 90 10 95) 96 (fun _ => 0)) 90 14 96) 97 (fun _ => 0)) 90 17 97) 98 (fun _ => 0)) 90 18 98) 99 (fun _ => 0)) 90 22 99) 100 (fun _ => 0)) 90 24 100) 101 (fun _ => 0)) 90 26 101) 102 (fun _ => 0)) 90 27 102) 103 (fun _ => 0)) 90 28 103) 104 (fun _ => 0)) 90 29 104) 105 (fun _ => 0)) 90 30 105) 106 (fun _ => 0)) 90 31 106) 107 (fun _ => 0)) 90 34 107) 108 (fun _ => 0)) 90 36 108) 109 (fun _ => 0)) 90 38 109) 110 (fun _ => 0)) 90 40 110) 111 (fun _ => 0)) 90 41 111) 112 (fun _ => 0)) 90 50 112) 113 (fun _ => 0)) 90 52 113) 114 (fun _ => 0)) 90 53 114) 115 (fun _ => 0)) 90 54 115) 116 (fun _ => 0)) 90 55 116) 117 (fun _ => 0)) 90 56 117) := pm_wa.one fun i _ => rfl
  have ha11 : pm_wa 101 102 (pm_up (pm_clr (pm_up (pm_clr (pm_up (pm_clr (pm_up (pm_clr (pm_up (pm_clr (pm_up (pm_clr (pm_up (pm_clr (pm_up (pm_clr (pm_up (pm_clr (pm_up (pm_clr (pm_up (pm_clr (pm_up (pm_clr (pm_up (pm_clr (pm_up (pm_clr (pm_up (pm_clr (pm_up (pm_clr (pm_up (pm_clr (pm_up (pm_clr (pm_up (pm_clr (pm_up (pm_clr (pm_up (pm_clr (pm_up (pm_clr (pm_up (pm_clr (pm_up (pm_clr (pm_up (pm_clr (pm_up (pm_clr (pm_up (pm_clr V0 91 (fun _ => 0)) 90 0 91) 92 (fun _ => 0)) 90 7 92) 93 (fun _ => 0)) 90 8 93) 94 (fun _ => 0)) 90 9 94) 95 (fun _ => 0)) 90 10 95) 96 (fun _ => 0)) 90 14 96) 97 (fun _ => 0)) 90 17 97) 98 (fun _ => 0)) 90 18 98) 99 (fun _ => 0)) 90 22 99) 100 (fun _ => 0)) 90 24 100) 101 (fun _ => 0)) 90 26 101) 102 (fun _ => 0)) 90 27 102) 103 (fun _ => 0)) 90 28 103) 104 (fun _ => 0)) 90 29 104) 105 (fun _ => 0)) 90 30 105) 106 (fun _ => 0)) 90 31 106) 107 (fun _ => 0)) 90 34 107) 108 (fun _ => 0)) 90 36 108) 109 (fun _ => 0)) 90 38 109) 110 (fun _ => 0)) 90 40 110) 111 (fun _ => 0)) 90 41 111) 112 (fun _ => 0)) 90 50 112) 113 (fun _ => 0)) 90 52 113) 114 (fun _ => 0)) 90 53 114) 115 (fun _ => 0)) 90 54 115) 116 (fun _ => 0)) 90 55 116) 117 (fun _ => 0)) 90 56 117) := pm_wa.one fun i _ => rfl
  have ha12 : pm_wa 102 103 (pm_up (pm_clr (pm_up (pm_clr (pm_up (pm_clr (pm_up (pm_clr (pm_up (pm_clr (pm_up (pm_clr (pm_up (pm_clr (pm_up (pm_clr (pm_up (pm_clr (pm_up (pm_clr (pm_up (pm_clr (pm_up (pm_clr (pm_up (pm_clr (pm_up (pm_clr (pm_up (pm_clr (pm_up (pm_clr (pm_up (pm_clr (pm_up (pm_clr (pm_up (pm_clr (pm_up (pm_clr (pm_up (pm_clr (pm_up (pm_clr (pm_up (pm_clr (pm_up (pm_clr (pm_up (pm_clr (pm_up (pm_clr (pm_up (pm_clr V0 91 (fun _ => 0)) 90 0 91) 92 (fun _ => 0)) 90 7 92) 93 (fun _ => 0)) 90 8 93) 94 (fun _ => 0)) 90 9 94) 95 (fun _ => 0)) 90 10 95) 96 (fun _ => 0)) 90 14 96) 97 (fun _ => 0)) 90 17 97) 98 (fun _ => 0)) 90 18 98) 99 (fun _ => 0)) 90 22 99) 100 (fun _ => 0)) 90 24 100) 101 (fun _ => 0)) 90 26 101) 102 (fun _ => 0)) 90 27 102) 103 (fun _ => 0)) 90 28 103) 104 (fun _ => 0)) 90 29 104) 105 (fun _ => 0)) 90 30 105) 106 (fun _ => 0)) 90 31 106) 107 (fun _ => 0)) 90 34 107) 108 (fun _ => 0)) 90 36 108) 109 (fun _ => 0)) 90 38 109) 110 (fun _ => 0)) 90 40 110) 111 (fun _ => 0)) 90 41 111) 112 (fun _ => 0)) 90 50 112) 113 (fun _ => 0)) 90 52 113) 114 (fun _ => 0)) 90 53 114) 115 (fun _ => 0)) 90 54 115) 116 (fun _ => 0)) 90 55 116) 117 (fun _ => 0)) 90 56 117) := pm_wa.one fun i _ => rfl
  have ha13 : pm_wa 103 104 (pm_up (pm_clr (pm_up (pm_clr (pm_up (pm_clr (pm_up (pm_clr (pm_up (pm_clr (pm_up (pm_clr (pm_up (pm_clr (pm_up (pm_clr (pm_up (pm_clr (pm_up (pm_clr (pm_up (pm_clr (pm_up (pm_clr (pm_up (pm_clr (pm_up (pm_clr (pm_up (pm_clr (pm_up (pm_clr (pm_up (pm_clr (pm_up (pm_clr (pm_up (pm_clr (pm_up (pm_clr (pm_up (pm_clr (pm_up (pm_clr (pm_up (pm_clr (pm_up (pm_clr (pm_up (pm_clr (pm_up (pm_clr (pm_up (pm_clr V0 91 (fun _ => 0)) 90 0 91) 92 (fun _ => 0)) 90 7 92) 93 (fun _ => 0)) 90 8 93) 94 (fun _ => 0)) 90 9 94) 95 (fun _ => 0)) 90 10 95) 96 (fun _ => 0)) 90 14 96) 97 (fun _ => 0)) 90 17 97) 98 (fun _ => 0)) 90 18 98) 99 (fun _ => 0)) 90 22 99) 100 (fun _ => 0)) 90 24 100) 101 (fun _ => 0)) 90 26 101) 102 (fun _ => 0)) 90 27 102) 103 (fun _ => 0)) 90 28 103) 104 (fun _ => 0)) 90 29 104) 105 (fun _ => 0)) 90 30 105) 106 (fun _ => 0)) 90 31 106) 107 (fun _ => 0)) 90 34 107) 108 (fun _ => 0)) 90 36 108) 109 (fun _ => 0)) 90 38 109) 110 (fun _ => 0)) 90 40 110) 111 (fun _ => 0)) 90 41 111) 112 (fun _ => 0)) 90 50 112) 113 (fun _ => 0)) 90 52 113) 114 (fun _ => 0)) 90 53 114) 115 (fun _ => 0)) 90 54 115) 116 (fun _ => 0)) 90 55 116) 117 (fun _ => 0)) 90 56 117) := pm_wa.one fun i _ => rfl
  have ha14 : pm_wa 104 105 (pm_up (pm_clr (pm_up (pm_clr (pm_up (pm_clr (pm_up (pm_clr (pm_up (pm_clr (pm_up (pm_clr (pm_up (pm_clr (pm_up (pm_clr (pm_up (pm_clr (pm_up (pm_clr (pm_up (pm_clr (pm_up (pm_clr (pm_up (pm_clr (pm_up (pm_clr (pm_up (pm_clr (pm_up (pm_clr (pm_up (pm_clr (pm_up (pm_clr (pm_up (pm_clr (pm_up (pm_clr (pm_up (pm_clr (pm_up (pm_clr (pm_up (pm_clr (pm_up (pm_clr (pm_up (pm_clr (pm_up (pm_clr (pm_up (pm_clr V0 91 (fun _ => 0)) 90 0 91) 92 (fun _ => 0)) 90 7 92) 93 (fun _ => 0)) 90 8 93) 94 (fun _ => 0)) 90 9 94) 95 (fun _ => 0)) 90 10 95) 96 (fun _ => 0)) 90 14 96) 97 (fun _ => 0)) 90 17 97) 98 (fun _ => 0)) 90 18 98) 99 (fun _ => 0)) 90 22 99) 100 (fun _ => 0)) 90 24 100) 101 (fun _ => 0)) 90 26 101) 102 (fun _ => 0)) 90 27 102) 103 (fun _ => 0)) 90 28 103) 104 (fun _ => 0)) 90 29 104) 105 (fun _ => 0)) 90 30 105) 106 (fun _ => 0)) 90 31 106) 107 (fun _ => 0)) 90 34 107) 108 (fun _ => 0)) 90 36 108) 109 (fun _ => 0)) 90 38 109) 110 (fun _ => 0)) 90 40 110) 111 (fun _ => 0)) 90 41 111) 112 (fun _ => 0)) 90 50 112) 113 (fun _ => 0)) 90 52 113) 114 (fun _ => 0)) 90 53 114) 115 (fun _ => 0)) 90 54 115) 116 (fun _ => 0)) 90 55 116) 117 (fun _ => 0)) 90 56 117) := pm_wa.one fun i _ => rfl
  have ha15 : pm_wa 105 106 (pm_up (pm_clr (pm_up (pm_clr (pm_up (pm_clr (pm_up (pm_clr (pm_up (pm_clr (pm_up (pm_clr (pm_up (pm_clr (pm_up (pm_clr (pm_up (pm_clr (pm_up (pm_clr (pm_up (pm_clr (pm_up (pm_clr (pm_up (pm_clr (pm_up (pm_clr (pm_up (pm_clr (pm_up (pm_clr (pm_up (pm_clr (pm_up (pm_clr (pm_up (pm_clr (pm_up (pm_clr (pm_up (pm_clr (pm_up (pm_clr (pm_up (pm_clr (pm_up (pm_clr (pm_up (pm_clr (pm_up (pm_clr (pm_up (pm_clr V0 91 (fun _ => 0)) 90 0 91) 92 (fun _ => 0)) 90 7 92) 93 (fun _ => 0)) 90 8 93) 94 (fun _ => 0)) 90 9 94) 95 (fun _ => 0)) 90 10 95) 96 (fun _ => 0)) 90 14 96) 97 (fun _ => 0)) 90 17 97) 98 (fun _ => 0)) 90 18 98) 99 (fun _ => 0)) 90 22 99) 100 (fun _ => 0)) 90 24 100) 101 (fun _ => 0)) 90 26 101) 102 (fun _ => 0)) 90 27 102) 103 (fun _ => 0)) 90 28 103) 104 (fun _ => 0)) 90 29 104) 105 (fun _ => 0)) 90 30 105) 106 (fun _ => 0)) 90 31 106) 107 (fun _ => 0)) 90 34 107) 108 (fun _ => 0)) 90 36 108) 109 (fun _ => 0)) 90 38 109) 110 (fun _ => 0)) 90 40 110) 111 (fun _ => 0)) 90 41 111) 112 (fun _ => 0)) 90 50 112) 113 (fun _ => 0)) 90 52 113) 114 (fun _ => 0)) 90 53 114) 115 (fun _ => 0)) 90 54 115) 116 (fun _ => 0)) 90 55 116) 117 (fun _ => 0)) 90 56 117) := pm_wa.one fun i _ => rfl
  have ha16 : pm_wa 106 107 (pm_up (pm_clr (pm_up (pm_clr (pm_up (pm_clr (pm_up (pm_clr (pm_up (pm_clr (pm_up (pm_clr (pm_up (pm_clr (pm_up (pm_clr (pm_up (pm_clr (pm_up (pm_clr (pm_up (pm_clr (pm_up (pm_clr (pm_up (pm_clr (pm_up (pm_clr (pm_up (pm_clr (pm_up (pm_clr (pm_up (pm_clr (pm_up (pm_clr (pm_up (pm_clr (pm_up (pm_clr (pm_up (pm_clr (pm_up (pm_clr (pm_up (pm_clr (pm_up (pm_clr (pm_up (pm_clr (pm_up (pm_clr (pm_up (pm_clr V0 91 (fun _ => 0)) 90 0 91) 92 (fun _ => 0)) 90 7 92) 93 (fun _ => 0)) 90 8 93) 94 (fun _ => 0)) 90 9 94) 95 (fun _ => 0)) 90 10 95) 96 (fun _ => 0)) 90 14 96) 97 (fun _ => 0)) 90 17 97) 98 (fun _ => 0)) 90 18 98) 99 (fun _ => 0)) 90 22 99) 100 (fun _ => 0)) 90 24 100) 101 (fun _ => 0)) 90 26 101) 102 (fun _ => 0)) 90 27 102) 103 (fun _ => 0)) 90 28 103) 104 (fun _ => 0)) 90 29 104) 105 (fun _ => 0)) 90 30 105) 106 (fun _ => 0)) 90 31 106) 107 (fun _ => 0)) 90 34 107) 108 (fun _ => 0)) 90 36 108) 109 (fun _ => 0)) 90 38 109) 110 (fun _ => 0)) 90 40 110) 111 (fun _ => 0)) 90 41 111) 112 (fun _ => 0)) 90 50 112) 113 (fun _ => 0)) 90 52 113) 114 (fun _ => 0)) 90 53 114) 115 (fun _ => 0)) 90 54 115) 116 (fun _ => 0)) 90 55 116) 117 (fun _ => 0)) 90 56 117) := pm_wa.one fun i _ => rfl
  have ha17 : pm_wa 107 108 (pm_up (pm_clr (pm_up (pm_clr (pm_up (pm_clr (pm_up (pm_clr (pm_up (pm_clr (pm_up (pm_clr (pm_up (pm_clr (pm_up (pm_clr (pm_up (pm_clr (pm_up (pm_clr (pm_up (pm_clr (pm_up (pm_clr (pm_up (pm_clr (pm_up (pm_clr (pm_up (pm_clr (pm_up (pm_clr (pm_up (pm_clr (pm_up (pm_clr (pm_up (pm_clr (pm_up (pm_clr (pm_up (pm_clr (pm_up (pm_clr (pm_up (pm_clr (pm_up (pm_clr (pm_up (pm_clr (pm_up (pm_clr (pm_up (pm_clr V0 91 (fun _ => 0)) 90 0 91) 92 (fun _ => 0)) 90 7 92) 93 (fun _ => 0)) 90 8 93) 94 (fun _ => 0)) 90 9 94) 95 (fun _ => 0)) 90 10 95) 96 (fun _ => 0)) 90 14 96) 97 (fun _ => 0)) 90 17 97) 98 (fun _ => 0)) 90 18 98) 99 (fun _ => 0)) 90 22 99) 100 (fun _ => 0)) 90 24 100) 101 (fun _ => 0)) 90 26 101) 102 (fun _ => 0)) 90 27 102) 103 (fun _ => 0)) 90 28 103) 104 (fun _ => 0)) 90 29 104) 105 (fun _ => 0)) 90 30 105) 106 (fun _ => 0)) 90 31 106) 107 (fun _ => 0)) 90 34 107) 108 (fun _ => 0)) 90 36 108) 109 (fun _ => 0)) 90 38 109) 110 (fun _ => 0)) 90 40 110) 111 (fun _ => 0)) 90 41 111) 112 (fun _ => 0)) 90 50 112) 113 (fun _ => 0)) 90 52 113) 114 (fun _ => 0)) 90 53 114) 115 (fun _ => 0)) 90 54 115) 116 (fun _ => 0)) 90 55 116) 117 (fun _ => 0)) 90 56 117) := pm_wa.one fun i _ => rfl
  have ha18 : pm_wa 108 109 (pm_up (pm_clr (pm_up (pm_clr (pm_up (pm_clr (pm_up (pm_clr (pm_up (pm_clr (pm_up (pm_clr (pm_up (pm_clr (pm_up (pm_clr (pm_up (pm_clr (pm_up (pm_clr (pm_up (pm_clr (pm_up (pm_clr (pm_up (pm_clr (pm_up (pm_clr (pm_up (pm_clr (pm_up (pm_clr (pm_up (pm_clr (pm_up (pm_clr (pm_up (pm_clr (pm_up (pm_clr (pm_up (pm_clr (pm_up (pm_clr (pm_up (pm_clr (pm_up (pm_clr (pm_up (pm_clr (pm_up (pm_clr (pm_up (pm_clr V0 91 (fun _ => 0)) 90 0 91) 92 (fun _ => 0)) 90 7 92) 93 (fun _ => 0)) 90 8 93) 94 (fun _ => 0)) 90 9 94) 95 (fun _ => 0)) 90 10 95) 96 (fun _ => 0)) 90 14 96) 97 (fun _ => 0)) 90 17 97) 98 (fun _ => 0)) 90 18 98) 99 (fun _ => 0)) 90 22 99) 100 (fun _ => 0)) 90 24 100) 101 (fun _ => 0)) 90 26 101) 102 (fun _ => 0)) 90 27 102) 103 (fun _ => 0)) 90 28 103) 104 (fun _ => 0)) 90 29 104) 105 (fun _ => 0)) 90 30 105) 106 (fun _ => 0)) 90 31 106) 107 (fun _ => 0)) 90 34 107) 108 (fun _ => 0)) 90 36 108) 109 (fun _ => 0)) 90 38 109) 110 (fun _ => 0)) 90 40 110) 111 (fun _ => 0)) 90 41 111) 112 (fun _ => 0)) 90 50 112) 113 (fun _ => 0)) 90 52 113) 114 (fun _ => 0)) 90 53 114) 115 (fun _ => 0)) 90 54 115) 116 (fun _ => 0)) 90 55 116) 117 (fun _ => 0)) 90 56 117) := pm_wa.one fun i _ => rfl
  have ha19 : pm_wa 109 110 (pm_up (pm_clr (pm_up (pm_clr (pm_up (pm_clr (pm_up (pm_clr (pm_up (pm_clr (pm_up (pm_clr (pm_up (pm_clr (pm_up (pm_clr (pm_up (pm_clr (pm_up (pm_clr (pm_up (pm_clr (pm_up (pm_clr (pm_up (pm_clr (pm_up (pm_clr (pm_up (pm_clr (pm_up (pm_clr (pm_up (pm_clr (pm_up (pm_clr (pm_up (pm_clr (pm_up (pm_clr (pm_up (pm_clr (pm_up (pm_clr (pm_up (pm_clr (pm_up (pm_clr (pm_up (pm_clr (pm_up (pm_clr (pm_up (pm_clr V0 91 (fun _ => 0)) 90 0 91) 92 (fun _ => 0)) 90 7 92) 93 (fun _ => 0)) 90 8 93) 94 (fun _ => 0)) 90 9 94) 95 (fun _ => 0)) 90 10 95) 96 (fun _ => 0)) 90 14 96) 97 (fun _ => 0)) 90 17 97) 98 (fun _ => 0)) 90 18 98) 99 (fun _ => 0)) 90 22 99) 100 (fun _ => 0)) 90 24 100) 101 (fun _ => 0)) 90 26 101) 102 (fun _ => 0)) 90 27 102) 103 (fun _ => 0)) 90 28 103) 104 (fun _ => 0)) 90 29 104) 105 (fun _ => 0)) 90 30 105) 106 (fun _ => 0)) 90 31 106) 107 (fun _ => 0)) 90 34 107) 108 (fun _ => 0)) 90 36 108) 109 (fun _ => 0)) 90 38 109) 110 (fun _ => 0)) 90 40 110) 111 (fun _ => 0)) 90 41 111) 112 (fun _ => 0)) 90 50 112) 113 (fun _ => 0)) 90 52 113) 114 (fun _ => 0)) 90 53 114) 115 (fun _ => 0)) 90 54 115) 116 (fun _ => 0)) 90 55 116) 117 (fun _ => 0)) 90 56 117) := pm_wa.one fun i _ => rfl
  have ha20 : pm_wa 110 111 (pm_up (pm_clr (pm_up (pm_clr (pm_up (pm_clr (pm_up (pm_clr (pm_up (pm_clr (pm_up (pm_clr (pm_up (pm_clr (pm_up (pm_clr (pm_up (pm_clr (pm_up (pm_clr (pm_up (pm_clr (pm_up (pm_clr (pm_up (pm_clr (pm_up (pm_clr (pm_up (pm_clr (pm_up (pm_clr (pm_up (pm_clr (pm_up (pm_clr (pm_up (pm_clr (pm_up (pm_clr (pm_up (pm_clr (pm_up (pm_clr (pm_up (pm_clr (pm_up (pm_clr (pm_up (pm_clr (pm_up (pm_clr (pm_up (pm_clr V0 91 (fun _ => 0)) 90 0 91) 92 (fun _ => 0)) 90 7 92) 93 (fun _ => 0)) 90 8 93) 94 (fun _ => 0)) 90 9 94) 95 (fun _ => 0)) 90 10 95) 96 (fun _ => 0)) 90 14 96) 97 (fun _ => 0)) 90 17 97) 98 (fun _ => 0)) 90 18 98) 99 (fun _ => 0)) 90 22 99) 100 (fun _ => 0)) 90 24 100) 101 (fun _ => 0)) 90 26 101) 102 (fun _ => 0)) 90 27 102) 103 (fun _ => 0)) 90 28 103) 104 (fun _ => 0)) 90 29 104) 105 (fun _ => 0)) 90 30 105) 106 (fun _ => 0)) 90 31 106) 107 (fun _ => 0)) 90 34 107) 108 (fun _ => 0)) 90 36 108) 109 (fun _ => 0)) 90 38 109) 110 (fun _ => 0)) 90 40 110) 111 (fun _ => 0)) 90 41 111) 112 (fun _ => 0)) 90 50 112) 113 (fun _ => 0)) 90 52 113) 114 (fun _ => 0)) 90 53 114) 115 (fun _ => 0)) 90 54 115) 116 (fun _ => 0)) 90 55 116) 117 (fun _ => 0)) 90 56 117) := pm_wa.one fun i _ => rfl
  have ha21 : pm_wa 111 112 (pm_up (pm_clr (pm_up (pm_clr (pm_up (pm_clr (pm_up (pm_clr (pm_up (pm_clr (pm_up (pm_clr (pm_up (pm_clr (pm_up (pm_clr (pm_up (pm_clr (pm_up (pm_clr (pm_up (pm_clr (pm_up (pm_clr (pm_up (pm_clr (pm_up (pm_clr (pm_up (pm_clr (pm_up (pm_clr (pm_up (pm_clr (pm_up (pm_clr (pm_up (pm_clr (pm_up (pm_clr (pm_up (pm_clr (pm_up (pm_clr (pm_up (pm_clr (pm_up (pm_clr (pm_up (pm_clr (pm_up (pm_clr (pm_up (pm_clr V0 91 (fun _ => 0)) 90 0 91) 92 (fun _ => 0)) 90 7 92) 93 (fun _ => 0)) 90 8 93) 94 (fun _ => 0)) 90 9 94) 95 (fun _ => 0)) 90 10 95) 96 (fun _ => 0)) 90 14 96) 97 (fun _ => 0)) 90 17 97) 98 (fun _ => 0)) 90 18 98) 99 (fun _ => 0)) 90 22 99) 100 (fun _ => 0)) 90 24 100) 101 (fun _ => 0)) 90 26 101) 102 (fun _ => 0)) 90 27 102) 103 (fun _ => 0)) 90 28 103) 104 (fun _ => 0)) 90 29 104) 105 (fun _ => 0)) 90 30 105) 106 (fun _ => 0)) 90 31 106) 107 (fun _ => 0)) 90 34 107) 108 (fun _ => 0)) 90 36 108) 109 (fun _ => 0)) 90 38 109) 110 (fun _ => 0)) 90 40 110) 111 (fun _ => 0)) 90 41 111) 112 (fun _ => 0)) 90 50 112) 113 (fun _ => 0)) 90 52 113) 114 (fun _ => 0)) 90 53 114) 115 (fun _ => 0)) 90 54 115) 116 (fun _ => 0)) 90 55 116) 117 (fun _ => 0)) 90 56 117) := pm_wa.one fun i _ => rfl
  have ha22 : pm_wa 112 113 (pm_up (pm_clr (pm_up (pm_clr (pm_up (pm_clr (pm_up (pm_clr (pm_up (pm_clr (pm_up (pm_clr (pm_up (pm_clr (pm_up (pm_clr (pm_up (pm_clr (pm_up (pm_clr (pm_up (pm_clr (pm_up (pm_clr (pm_up (pm_clr (pm_up (pm_clr (pm_up (pm_clr (pm_up (pm_clr (pm_up (pm_clr (pm_up (pm_clr (pm_up (pm_clr (pm_up (pm_clr (pm_up (pm_clr (pm_up (pm_clr (pm_up (pm_clr (pm_up (pm_clr (pm_up (pm_clr (pm_up (pm_clr (pm_up (pm_clr V0 91 (fun _ => 0)) 90 0 91) 92 (fun _ => 0)) 90 7 92) 93 (fun _ => 0)) 90 8 93) 94 (fun _ => 0)) 90 9 94) 95 (fun _ => 0)) 90 10 95) 96 (fun _ => 0)) 90 14 96) 97 (fun _ => 0)) 90 17 97) 98 (fun _ => 0)) 90 18 98) 99 (fun _ => 0)) 90 22 99) 100 (fun _ => 0)) 90 24 100) 101 (fun _ => 0)) 90 26 101) 102 (fun _ => 0)) 90 27 102) 103 (fun _ => 0)) 90 28 103) 104 (fun _ => 0)) 90 29 104) 105 (fun _ => 0)) 90 30 105) 106 (fun _ => 0)) 90 31 106) 107 (fun _ => 0)) 90 34 107) 108 (fun _ => 0)) 90 36 108) 109 (fun _ => 0)) 90 38 109) 110 (fun _ => 0)) 90 40 110) 111 (fun _ => 0)) 90 41 111) 112 (fun _ => 0)) 90 50 112) 113 (fun _ => 0)) 90 52 113) 114 (fun _ => 0)) 90 53 114) 115 (fun _ => 0)) 90 54 115) 116 (fun _ => 0)) 90 55 116) 117 (fun _ => 0)) 90 56 117) := pm_wa.one fun i _ => rfl
  have ha23 : pm_wa 113 114 (pm_up (pm_clr (pm_up (pm_clr (pm_up (pm_clr (pm_up (pm_clr (pm_up (pm_clr (pm_up (pm_clr (pm_up (pm_clr (pm_up (pm_clr (pm_up (pm_clr (pm_up (pm_clr (pm_up (pm_clr (pm_up (pm_clr (pm_up (pm_clr (pm_up (pm_clr (pm_up (pm_clr (pm_up (pm_clr (pm_up (pm_clr (pm_up (pm_clr (pm_up (pm_clr (pm_up (pm_clr (pm_up (pm_clr (pm_up (pm_clr (pm_up (pm_clr (pm_up (pm_clr (pm_up (pm_clr (pm_up (pm_clr (pm_up (pm_clr V0 91 (fun _ => 0)) 90 0 91) 92 (fun _ => 0)) 90 7 92) 93 (fun _ => 0)) 90 8 93) 94 (fun _ => 0)) 90 9 94) 95 (fun _ => 0)) 90 10 95) 96 (fun _ => 0)) 90 14 96) 97 (fun _ => 0)) 90 17 97) 98 (fun _ => 0)) 90 18 98) 99 (fun _ => 0)) 90 22 99) 100 (fun _ => 0)) 90 24 100) 101 (fun _ => 0)) 90 26 101) 102 (fun _ => 0)) 90 27 102) 103 (fun _ => 0)) 90 28 103) 104 (fun _ => 0)) 90 29 104) 105 (fun _ => 0)) 90 30 105) 106 (fun _ => 0)) 90 31 106) 107 (fun _ => 0)) 90 34 107) 108 (fun _ => 0)) 90 36 108) 109 (fun _ => 0)) 90 38 109) 110 (fun _ => 0)) 90 40 110) 111 (fun _ => 0)) 90 41 111) 112 (fun _ => 0)) 90 50 112) 113 (fun _ => 0)) 90 52 113) 114 (fun _ => 0)) 90 53 114) 115 (fun _ => 0)) 90 54 115) 116 (fun _ => 0)) 90 55 116) 117 (fun _ => 0)) 90 56 117) := pm_wa.one fun i _ => rfl
  have ha24 : pm_wa 114 115 (pm_up (pm_clr (pm_up (pm_clr (pm_up (pm_clr (pm_up (pm_clr (pm_up (pm_clr (pm_up (pm_clr (pm_up (pm_clr (pm_up (pm_clr (pm_up (pm_clr (pm_up (pm_clr (pm_up (pm_clr (pm_up (pm_clr (pm_up (pm_clr (pm_up (pm_clr (pm_up (pm_clr (pm_up (pm_clr (pm_up (pm_clr (pm_up (pm_clr (pm_up (pm_clr (pm_up (pm_clr (pm_up (pm_clr (pm_up (pm_clr (pm_up (pm_clr (pm_up (pm_clr (pm_up (pm_clr (pm_up (pm_clr (pm_up (pm_clr V0 91 (fun _ => 0)) 90 0 91) 92 (fun _ => 0)) 90 7 92) 93 (fun _ => 0)) 90 8 93) 94 (fun _ => 0)) 90 9 94) 95 (fun _ => 0)) 90 10 95) 96 (fun _ => 0)) 90 14 96) 97 (fun _ => 0)) 90 17 97) 98 (fun _ => 0)) 90 18 98) 99 (fun _ => 0)) 90 22 99) 100 (fun _ => 0)) 90 24 100) 101 (fun _ => 0)) 90 26 101) 102 (fun _ => 0)) 90 27 102) 103 (fun _ => 0)) 90 28 103) 104 (fun _ => 0)) 90 29 104) 105 (fun _ => 0)) 90 30 105) 106 (fun _ => 0)) 90 31 106) 107 (fun _ => 0)) 90 34 107) 108 (fun _ => 0)) 90 36 108) 109 (fun _ => 0)) 90 38 109) 110 (fun _ => 0)) 90 40 110) 111 (fun _ => 0)) 90 41 111) 112 (fun _ => 0)) 90 50 112) 113 (fun _ => 0)) 90 52 113) 114 (fun _ => 0)) 90 53 114) 115 (fun _ => 0)) 90 54 115) 116 (fun _ => 0)) 90 55 116) 117 (fun _ => 0)) 90 56 117) := pm_wa.one fun i _ => rfl
  have ha25 : pm_wa 115 116 (pm_up (pm_clr (pm_up (pm_clr (pm_up (pm_clr (pm_up (pm_clr (pm_up (pm_clr (pm_up (pm_clr (pm_up (pm_clr (pm_up (pm_clr (pm_up (pm_clr (pm_up (pm_clr (pm_up (pm_clr (pm_up (pm_clr (pm_up (pm_clr (pm_up (pm_clr (pm_up (pm_clr (pm_up (pm_clr (pm_up (pm_clr (pm_up (pm_clr (pm_up (pm_clr (pm_up (pm_clr (pm_up (pm_clr (pm_up (pm_clr (pm_up (pm_clr (pm_up (pm_clr (pm_up (pm_clr (pm_up (pm_clr (pm_up (pm_clr V0 91 (fun _ => 0)) 90 0 91) 92 (fun _ => 0)) 90 7 92) 93 (fun _ => 0)) 90 8 93) 94 (fun _ => 0)) 90 9 94) 95 (fun _ => 0)) 90 10 95) 96 (fun _ => 0)) 90 14 96) 97 (fun _ => 0)) 90 17 97) 98 (fun _ => 0)) 90 18 98) 99 (fun _ => 0)) 90 22 99) 100 (fun _ => 0)) 90 24 100) 101 (fun _ => 0)) 90 26 101) 102 (fun _ => 0)) 90 27 102) 103 (fun _ => 0)) 90 28 103) 104 (fun _ => 0)) 90 29 104) 105 (fun _ => 0)) 90 30 105) 106 (fun _ => 0)) 90 31 106) 107 (fun _ => 0)) 90 34 107) 108 (fun _ => 0)) 90 36 108) 109 (fun _ => 0)) 90 38 109) 110 (fun _ => 0)) 90 40 110) 111 (fun _ => 0)) 90 41 111) 112 (fun _ => 0)) 90 50 112) 113 (fun _ => 0)) 90 52 113) 114 (fun _ => 0)) 90 53 114) 115 (fun _ => 0)) 90 54 115) 116 (fun _ => 0)) 90 55 116) 117 (fun _ => 0)) 90 56 117) := pm_wa.one fun i _ => rfl
  have ha26 : pm_wa 116 117 (pm_up (pm_clr (pm_up (pm_clr (pm_up (pm_clr (pm_up (pm_clr (pm_up (pm_clr (pm_up (pm_clr (pm_up (pm_clr (pm_up (pm_clr (pm_up (pm_clr (pm_up (pm_clr (pm_up (pm_clr (pm_up (pm_clr (pm_up (pm_clr (pm_up (pm_clr (pm_up (pm_clr (pm_up (pm_clr (pm_up (pm_clr (pm_up (pm_clr (pm_up (pm_clr (pm_up (pm_clr (pm_up (pm_clr (pm_up (pm_clr (pm_up (pm_clr (pm_up (pm_clr (pm_up (pm_clr (pm_up (pm_clr (pm_up (pm_clr V0 91 (fun _ => 0)) 90 0 91) 92 (fun _ => 0)) 90 7 92) 93 (fun _ => 0)) 90 8 93) 94 (fun _ => 0)) 90 9 94) 95 (fun _ => 0)) 90 10 95) 96 (fun _ => 0)) 90 14 96) 97 (fun _ => 0)) 90 17 97) 98 (fun _ => 0)) 90 18 98) 99 (fun _ => 0)) 90 22 99) 100 (fun _ => 0)) 90 24 100) 101 (fun _ => 0)) 90 26 101) 102 (fun _ => 0)) 90 27 102) 103 (fun _ => 0)) 90 28 103) 104 (fun _ => 0)) 90 29 104) 105 (fun _ => 0)) 90 30 105) 106 (fun _ => 0)) 90 31 106) 107 (fun _ => 0)) 90 34 107) 108 (fun _ => 0)) 90 36 108) 109 (fun _ => 0)) 90 38 109) 110 (fun _ => 0)) 90 40 110) 111 (fun _ => 0)) 90 41 111) 112 (fun _ => 0)) 90 50 112) 113 (fun _ => 0)) 90 52 113) 114 (fun _ => 0)) 90 53 114) 115 (fun _ => 0)) 90 54 115) 116 (fun _ => 0)) 90 55 116) 117 (fun _ => 0)) 90 56 117) := pm_wa.one fun i _ => rfl
  have ha27 : pm_wa 117 118 (pm_up (pm_clr (pm_up (pm_clr (pm_up (pm_clr (pm_up (pm_clr (pm_up (pm_clr (pm_up (pm_clr (pm_up (pm_clr (pm_up (pm_clr (pm_up (pm_clr (pm_up (pm_clr (pm_up (pm_clr (pm_up (pm_clr (pm_up (pm_clr (pm_up (pm_clr (pm_up (pm_clr (pm_up (pm_clr (pm_up (pm_clr (pm_up (pm_clr (pm_up (pm_clr (pm_up (pm_clr (pm_up (pm_clr (pm_up (pm_clr (pm_up (pm_clr (pm_up (pm_clr (pm_up (pm_clr (pm_up (pm_clr (pm_up (pm_clr V0 91 (fun _ => 0)) 90 0 91) 92 (fun _ => 0)) 90 7 92) 93 (fun _ => 0)) 90 8 93) 94 (fun _ => 0)) 90 9 94) 95 (fun _ => 0)) 90 10 95) 96 (fun _ => 0)) 90 14 96) 97 (fun _ => 0)) 90 17 97) 98 (fun _ => 0)) 90 18 98) 99 (fun _ => 0)) 90 22 99) 100 (fun _ => 0)) 90 24 100) 101 (fun _ => 0)) 90 26 101) 102 (fun _ => 0)) 90 27 102) 103 (fun _ => 0)) 90 28 103) 104 (fun _ => 0)) 90 29 104) 105 (fun _ => 0)) 90 30 105) 106 (fun _ => 0)) 90 31 106) 107 (fun _ => 0)) 90 34 107) 108 (fun _ => 0)) 90 36 108) 109 (fun _ => 0)) 90 38 109) 110 (fun _ => 0)) 90 40 110) 111 (fun _ => 0)) 90 41 111) 112 (fun _ => 0)) 90 50 112) 113 (fun _ => 0)) 90 52 113) 114 (fun _ => 0)) 90 53 114) 115 (fun _ => 0)) 90 54 115) 116 (fun _ => 0)) 90 55 116) 117 (fun _ => 0)) 90 56 117) := pm_wa.one fun i _ => rfl
  exact pm_vret hC hR ⟨rfl, (((((((((((((((((((((((((((hown.app ha1).app ha2).app ha3).app ha4).app ha5).app ha6).app ha7).app ha8).app ha9).app ha10).app ha11).app ha12).app ha13).app ha14).app ha15).app ha16).app ha17).app ha18).app ha19).app ha20).app ha21).app ha22).app ha23).app ha24).app ha25).app ha26).app ha27), fun k hk => ((pm_up_k (by omega)).trans ((pm_clr_k (by omega)).trans ((pm_up_k (by omega)).trans ((pm_clr_k (by omega)).trans ((pm_up_k (by omega)).trans ((pm_clr_k (by omega)).trans ((pm_up_k (by omega)).trans ((pm_clr_k (by omega)).trans ((pm_up_k (by omega)).trans ((pm_clr_k (by omega)).trans ((pm_up_k (by omega)).trans ((pm_clr_k (by omega)).trans ((pm_up_k (by omega)).trans ((pm_clr_k (by omega)).trans ((pm_up_k (by omega)).trans ((pm_clr_k (by omega)).trans ((pm_up_k (by omega)).trans ((pm_clr_k (by omega)).trans ((pm_up_k (by omega)).trans ((pm_clr_k (by omega)).trans ((pm_up_k (by omega)).trans ((pm_clr_k (by omega)).trans ((pm_up_k (by omega)).trans ((pm_clr_k (by omega)).trans ((pm_up_k (by omega)).trans ((pm_clr_k (by omega)).trans ((pm_up_k (by omega)).trans ((pm_clr_k (by omega)).trans ((pm_up_k (by omega)).trans ((pm_clr_k (by omega)).trans ((pm_up_k (by omega)).trans ((pm_clr_k (by omega)).trans ((pm_up_k (by omega)).trans ((pm_clr_k (by omega)).trans ((pm_up_k (by omega)).trans ((pm_clr_k (by omega)).trans ((pm_up_k (by omega)).trans ((pm_clr_k (by omega)).trans ((pm_up_k (by omega)).trans ((pm_clr_k (by omega)).trans ((pm_up_k (by omega)).trans ((pm_clr_k (by omega)).trans ((pm_up_k (by omega)).trans ((pm_clr_k (by omega)).trans ((pm_up_k (by omega)).trans ((pm_clr_k (by omega)).trans ((pm_up_k (by omega)).trans ((pm_clr_k (by omega)).trans ((pm_up_k (by omega)).trans ((pm_clr_k (by omega)).trans ((pm_up_k (by omega)).trans ((pm_clr_k (by omega)).trans ((pm_up_k (by omega)).trans ((pm_clr_k (by omega)).trans (Eq.refl _))))))))))))))))))))))))))))))))))))))))))))))))))))))).trans rfl⟩ dX12_init_223
