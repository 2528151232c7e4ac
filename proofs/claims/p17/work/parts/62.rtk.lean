/-! the reference's leads -/
noncomputable def r_nb (en : Int) : pm_M → pm_M ⊕ (pm_M ⊕ (Int × pm_M)) := (fun (q : pm_M) => match q with | V59 => (pf_let (V59 90 2) fun y74 => (if en ≤ y74 then ((.inr (.inr (0, (pm_up V59 90 3 2))))) else (pf_let (V59 91 (y74 : Int).toNat) fun y78 => pf_call (F_X12_isDigit y78 V59) fun y84 _ => (if y84 = 0 then ((.inr (.inr (0, (pm_up V59 90 3 2))))) else (pf_let (V59 90 5) fun y88 => pf_let (pm_cmp y88 99999) fun y91 => (if y91 ≤ 0 then (pf_let (pm_w64 (10 * y88)) fun y94 => pf_let (pm_w64 (y94 + y78)) fun y97 => pf_let (pm_w64 (y97 - 48)) fun y100 => (.inl (pm_up (pm_up V59 90 5 y100) 90 2 (y74 + 1)))) else ((.inl (pm_up (pm_up V59 90 5 y88) 90 2 (y74 + 1)))))))))))
noncomputable def r_wb (en q0 : Int) : pm_M → pm_M ⊕ (pm_M ⊕ (Int × pm_M)) := (fun (q : pm_M) => match q with | V113 => (pf_let (V113 90 2) fun y128 => (if en ≤ y128 then ((if (y128 - q0) ≤ 8 then ((.inr (.inr (0, (pm_up V113 90 3 1))))) else ((.inr (.inr (0, (pm_up (pm_up V113 90 5 0) 90 3 1))))))) else (pf_let (V113 91 (y128 : Int).toNat) fun y133 => pf_call (F_X12_isLetter y133 V113) fun y139 _ => (if y139 = 0 then ((if (y128 - q0) ≤ 8 then ((.inr (.inr (0, (pm_up V113 90 3 1))))) else ((.inr (.inr (0, (pm_up (pm_up V113 90 5 0) 90 3 1))))))) else ((if 8 ≤ (y128 - q0) then ((.inl (pm_up V113 90 2 (y128 + 1)))) else (pf_let (V113 90 5) fun y145 => pf_let ((pm_lshlV y145 8)) fun y148 => pf_let ((pm_lorV y148 y133)) fun y150 => (.inl (pm_up (pm_up V113 90 5 y150) 90 2 (y128 + 1)))))))))))
theorem r_le (b : Int) (V : pm_M) : F_X12_isLetter b V = (if tk_le b then 1 else 0, V) := by
  rw [F_X12_isLetter_eq]
  unfold tk_le
  split
  · rw [if_neg (by omega)]
  · split
    · rw [if_neg (by omega)]
    · rw [if_pos (by omega)]
theorem r_di (b : Int) (V : pm_M) : F_X12_isDigit b V = (if tk_di b then 1 else 0, V) := by
  rw [F_X12_isDigit_eq]
  unfold tk_di
  split
  · rw [if_neg (by omega)]
  · split
    · rw [if_neg (by omega)]
    · rw [if_pos (by omega)]
abbrev tk_sg (b : Int) : Prop := b = 43 ∨ b = 45 ∨ b = 42 ∨ b = 60 ∨ b = 61 ∨ b = 40 ∨ b = 41 ∨ b = 59
theorem r_sg (b : Int) (V : pm_M) : F_X12_isSignByte b V = (if tk_sg b then 1 else 0, V) := by
  rw [F_X12_isSignByte_eq]
  unfold tk_sg
  repeat' split
  all_goals first
    | rfl
    | (exfalso; omega)
/-- but for cell 90's places 2 to 5 -/
def tk_f9 (V V1 : pm_M) : Prop := (∀ k, k ≠ 90 → V1 k = V k) ∧ ∀ i, i ≠ 2 → i ≠ 3 → i ≠ 4 → i ≠ 5 → V1 90 i = V 90 i
theorem tk_f9.up {V V1 : pm_M} (h : tk_f9 V V1) (i : Nat) (x : Int) (hi : i = 2 ∨ i = 3 ∨ i = 4 ∨ i = 5) : tk_f9 V (pm_up V1 90 i x) := ⟨fun k hk => by rw [pm_up_f hk]; exact h.1 k hk, fun j j1 j2 j3 j4 => by rw [pm_up_i (by omega)]; exact h.2 j j1 j2 j3 j4⟩
def tk_T (V : pm_M) : Nat → Int := fun i => V 91 i % 256
theorem tk_b (b : Int) (h : -128 ≤ b ∧ b ≤ 127) : (tk_le (b % 256) ↔ tk_le b) ∧ (tk_di (b % 256) ↔ tk_di b) ∧ (tk_bl (b % 256) ↔ tk_bl b) ∧ (0 ≤ b → b % 256 = b) := by
  unfold tk_le tk_di tk_bl
  refine ⟨by omega, by omega, by omega, by omega⟩
/-- in the loop over letters -/
def tk_W (V0 : pm_M) (q en : Int) (V : pm_M) : Prop := tk_f9 V0 V ∧ V 90 4 = q ∧ ∃ m : Nat, V 90 2 = q + m ∧ q + m ≤ en ∧ (∀ i : Nat, q ≤ i → (i : Int) < q + m → tk_le (V0 91 i)) ∧ V 90 5 = tk_pk (tk_T V0) q.toNat (min m 8)
theorem r_word {V0 W : pm_M} {d : pm_M ⊕ (Int × pm_M)} {q en : Int} (hq : 0 ≤ q) (hb : ∀ i : Nat, (i : Int) < en → -128 ≤ V0 91 i ∧ V0 91 i ≤ 127) (h : tk_W V0 q en W) : ∃ V1, pf_val d (r_wb en q) W = .inr (0, V1) ∧ tk_f9 V0 V1 ∧ V1 90 4 = q ∧ V1 90 3 = 1 ∧ ∃ m : Nat, V1 90 2 = q + m ∧ q + m ≤ en ∧ (∀ i : Nat, q ≤ i → (i : Int) < q + m → tk_le (V0 91 i)) ∧ (q + m = en ∨ ¬ tk_le (V0 91 (q.toNat + m))) ∧ V1 90 5 = (if (m : Int) ≤ 8 then tk_pk (tk_T V0) q.toNat m else 0) := by
  refine pf_val_ind2 (tk_W V0 q en) (fun (o : pm_M ⊕ (Int × pm_M)) => ∃ V1, o = .inr (0, V1) ∧ tk_f9 V0 V1 ∧ V1 90 4 = q ∧ V1 90 3 = 1 ∧ ∃ m : Nat, V1 90 2 = q + m ∧ q + m ≤ en ∧ (∀ i : Nat, q ≤ i → (i : Int) < q + m → tk_le (V0 91 i)) ∧ (q + m = en ∨ ¬ tk_le (V0 91 (q.toNat + m))) ∧ V1 90 5 = (if (m : Int) ≤ 8 then tk_pk (tk_T V0) q.toNat m else 0)) (fun V => (en - V 90 2).toNat) ?_ W h
  rintro V ⟨f1, f2, m, f3, f4, f5, f6⟩
  have hn : (V 90 2).toNat = q.toNat + m := by omega
  have eT : V 91 = V0 91 := f1.1 91 (by decide)
  have fin : (q + m = en ∨ ¬ tk_le (V0 91 (q.toNat + m))) → ∃ o, (if (V 90 2 - q) ≤ 8 then (.inr (.inr (0, (pm_up V 90 3 1)))) else (.inr (.inr (0, (pm_up (pm_up V 90 5 0) 90 3 1)))) : pm_M ⊕ (pm_M ⊕ (Int × pm_M))) = .inr o ∧ ∃ V1, o = .inr (0, V1) ∧ tk_f9 V0 V1 ∧ V1 90 4 = q ∧ V1 90 3 = 1 ∧ ∃ m : Nat, V1 90 2 = q + m ∧ q + m ≤ en ∧ (∀ i : Nat, q ≤ i → (i : Int) < q + m → tk_le (V0 91 i)) ∧ (q + m = en ∨ ¬ tk_le (V0 91 (q.toNat + m))) ∧ V1 90 5 = (if (m : Int) ≤ 8 then tk_pk (tk_T V0) q.toNat m else 0) := by
    intro hx
    by_cases c : V 90 2 - q ≤ 8
    · rw [if_pos c]
      refine ⟨_, rfl, _, rfl, f1.up 3 1 (by decide), by rw [pm_up_i (by decide)]; exact f2, pm_up_s, m, by rw [pm_up_i (by decide)]; exact f3, f4, f5, hx, ?_⟩
      rw [pm_up_i (by decide), if_pos (by omega), f6, show min m 8 = m by omega]
    · rw [if_neg c]
      refine ⟨_, rfl, _, rfl, (f1.up 5 0 (by decide)).up 3 1 (by decide), by rw [pm_up_i (by decide), pm_up_i (by decide)]; exact f2, pm_up_s, m, by rw [pm_up_i (by decide), pm_up_i (by decide)]; exact f3, f4, f5, hx, ?_⟩
      rw [pm_up_i (by decide), pm_up_s, if_neg (by omega)]
  simp only [r_wb, pf_let, pf_call, r_le]
  by_cases c1 : en ≤ V 90 2
  · rw [if_pos c1]
    exact Or.inr (fin (Or.inl (by omega)))
  · rw [if_neg c1]
    by_cases c2 : tk_le (V 91 (V 90 2).toNat)
    · rw [if_pos c2, if_neg (by decide)]
      refine Or.inl ?_
      clear fin
      have hl : ∀ i : Nat, q ≤ i → (i : Int) < q + (m + 1 : Nat) → tk_le (V0 91 i) := by
        intro i i1 i2
        by_cases hi : (i : Int) < q + m
        · exact f5 i i1 hi
        · have : i = (V 90 2).toNat := by omega
          rw [this, ← eT]
          exact c2
      by_cases c3 : 8 ≤ V 90 2 - q
      · rw [if_pos c3]
        refine ⟨_, rfl, ⟨f1.up 2 _ (by decide), by rw [pm_up_i (by decide)]; exact f2, m + 1, by rw [pm_up_s]; omega, by omega, hl, by rw [pm_up_i (by decide), f6, show min m 8 = 8 by omega, show min (m + 1) 8 = 8 by omega]⟩, ?_⟩
        show (en - (pm_up V 90 2 (V 90 2 + 1)) 90 2).toNat < (en - V 90 2).toNat
        rw [pm_up_s]
        omega
      · rw [if_neg c3]
        refine ⟨_, rfl, ⟨(f1.up 5 _ (by decide)).up 2 _ (by decide), by rw [pm_up_i (by decide), pm_up_i (by decide)]; exact f2, m + 1, by rw [pm_up_s]; omega, by omega, hl, ?_⟩, ?_⟩
        · rw [pm_up_i (by decide), pm_up_s, f6, show min m 8 = m by omega, show min (m + 1) 8 = m + 1 by omega]
          have hb2 := hb (V 90 2).toNat (by omega)
          rw [← eT] at hb2
          unfold tk_le at c2
          have e9 := (tk_b _ hb2).2.2.2 (by omega)
          show _ = pm_lorV (pm_lshlV (tk_pk (tk_T V0) q.toNat m) 8) (V0 91 (q.toNat + m) % 256)
          rw [← hn, ← eT, e9]
        · show (en - (pm_up (pm_up V 90 5 _) 90 2 (V 90 2 + 1)) 90 2).toNat < (en - V 90 2).toNat
          rw [pm_up_s]
          omega
    · rw [if_neg c2, if_pos rfl]
      exact Or.inr (fin (Or.inr (by rw [← hn, ← eT]; exact c2)))
/-- in the loop over digits -/
def tk_D (V0 : pm_M) (q en : Int) (V : pm_M) : Prop := tk_f9 V0 V ∧ V 90 4 = q ∧ ∃ m : Nat, V 90 2 = q + m ∧ q + m ≤ en ∧ (∀ i : Nat, q ≤ i → (i : Int) < q + m → tk_di (V0 91 i)) ∧ min (V 90 5) 100000 = tk_nm (tk_T V0) q.toNat m ∧ 0 ≤ V 90 5 ∧ V 90 5 ≤ 1000000
theorem r_num {V0 W : pm_M} {d : pm_M ⊕ (Int × pm_M)} {q en : Int} (hq : 0 ≤ q) (hb : ∀ i : Nat, (i : Int) < en → -128 ≤ V0 91 i ∧ V0 91 i ≤ 127) (h : tk_D V0 q en W) : ∃ V1, pf_val d (r_nb en) W = .inr (0, V1) ∧ tk_f9 V0 V1 ∧ V1 90 4 = q ∧ V1 90 3 = 2 ∧ ∃ m : Nat, V1 90 2 = q + m ∧ q + m ≤ en ∧ (∀ i : Nat, q ≤ i → (i : Int) < q + m → tk_di (V0 91 i)) ∧ (q + m = en ∨ ¬ tk_di (V0 91 (q.toNat + m))) ∧ min (V1 90 5) 100000 = tk_nm (tk_T V0) q.toNat m ∧ 0 ≤ V1 90 5 := by
  refine pf_val_ind2 (tk_D V0 q en) (fun (o : pm_M ⊕ (Int × pm_M)) => ∃ V1, o = .inr (0, V1) ∧ tk_f9 V0 V1 ∧ V1 90 4 = q ∧ V1 90 3 = 2 ∧ ∃ m : Nat, V1 90 2 = q + m ∧ q + m ≤ en ∧ (∀ i : Nat, q ≤ i → (i : Int) < q + m → tk_di (V0 91 i)) ∧ (q + m = en ∨ ¬ tk_di (V0 91 (q.toNat + m))) ∧ min (V1 90 5) 100000 = tk_nm (tk_T V0) q.toNat m ∧ 0 ≤ V1 90 5) (fun V => (en - V 90 2).toNat) ?_ W h
  rintro V ⟨f1, f2, m, f3, f4, f5, f6, f7, f8⟩
  have hn : (V 90 2).toNat = q.toNat + m := by omega
  have eT : V 91 = V0 91 := f1.1 91 (by decide)
  have fin : (q + m = en ∨ ¬ tk_di (V0 91 (q.toNat + m))) → ∃ o, (.inr (.inr (0, (pm_up V 90 3 2))) : pm_M ⊕ (pm_M ⊕ (Int × pm_M))) = .inr o ∧ ∃ V1, o = .inr (0, V1) ∧ tk_f9 V0 V1 ∧ V1 90 4 = q ∧ V1 90 3 = 2 ∧ ∃ m : Nat, V1 90 2 = q + m ∧ q + m ≤ en ∧ (∀ i : Nat, q ≤ i → (i : Int) < q + m → tk_di (V0 91 i)) ∧ (q + m = en ∨ ¬ tk_di (V0 91 (q.toNat + m))) ∧ min (V1 90 5) 100000 = tk_nm (tk_T V0) q.toNat m ∧ 0 ≤ V1 90 5 := by
    intro hx
    exact ⟨_, rfl, _, rfl, f1.up 3 2 (by decide), by rw [pm_up_i (by decide)]; exact f2, pm_up_s, m, by rw [pm_up_i (by decide)]; exact f3, f4, f5, hx, by rw [pm_up_i (by decide)]; exact f6, by rw [pm_up_i (by decide)]; exact f7⟩
  simp only [r_nb, pf_let, pf_call, r_di]
  by_cases c1 : en ≤ V 90 2
  · rw [if_pos c1]
    exact Or.inr (fin (Or.inl (by omega)))
  · rw [if_neg c1]
    by_cases c2 : tk_di (V 91 (V 90 2).toNat)
    · rw [if_pos c2, if_neg (by decide)]
      refine Or.inl ?_
      clear fin
      have hl : ∀ i : Nat, q ≤ i → (i : Int) < q + (m + 1 : Nat) → tk_di (V0 91 i) := by
        intro i i1 i2
        by_cases hi : (i : Int) < q + m
        · exact f5 i i1 hi
        · have : i = (V 90 2).toNat := by omega
          rw [this, ← eT]
          exact c2
      have hb2 := hb (V 90 2).toNat (by omega)
      rw [← eT] at hb2
      have c2' := c2
      unfold tk_di at c2'
      have e9 := (tk_b _ hb2).2.2.2 (by omega)
      have hnm : tk_nm (tk_T V0) q.toNat (m + 1) = min (10 * tk_nm (tk_T V0) q.toNat m + V 91 (V 90 2).toNat - 48) 100000 := by
        show min (10 * tk_nm (tk_T V0) q.toNat m + V0 91 (q.toNat + m) % 256 - 48) 100000 = _
        rw [← hn, ← eT, e9]
      by_cases c3 : pm_cmp (V 90 5) 99999 ≤ 0
      · rw [if_pos c3]
        have c4 := pm_cmp_le0.mp c3
        have e1 : pm_w64 (10 * V 90 5) = 10 * V 90 5 := pm_w64_id ⟨by omega, by omega⟩
        have e2 : pm_w64 (10 * V 90 5 + V 91 (V 90 2).toNat) = 10 * V 90 5 + V 91 (V 90 2).toNat := pm_w64_id ⟨by omega, by omega⟩
        have e3 : pm_w64 (10 * V 90 5 + V 91 (V 90 2).toNat - 48) = 10 * V 90 5 + V 91 (V 90 2).toNat - 48 := pm_w64_id ⟨by omega, by omega⟩
        rw [e1, e2, e3]
        refine ⟨_, rfl, ⟨(f1.up 5 _ (by decide)).up 2 _ (by decide), by rw [pm_up_i (by decide), pm_up_i (by decide)]; exact f2, m + 1, by rw [pm_up_s]; omega, by omega, hl, ?_, ?_, ?_⟩, ?_⟩
        · rw [pm_up_i (by decide), pm_up_s, hnm, ← f6]
          omega
        · rw [pm_up_i (by decide), pm_up_s]; omega
        · rw [pm_up_i (by decide), pm_up_s]; omega
        · show (en - (pm_up (pm_up V 90 5 _) 90 2 (V 90 2 + 1)) 90 2).toNat < (en - V 90 2).toNat
          rw [pm_up_s]
          omega
      · rw [if_neg c3]
        have c4 : 99999 < V 90 5 := Int.not_le.mp (fun z => c3 (pm_cmp_le0.mpr z))
        refine ⟨_, rfl, ⟨(f1.up 5 _ (by decide)).up 2 _ (by decide), by rw [pm_up_i (by decide), pm_up_i (by decide)]; exact f2, m + 1, by rw [pm_up_s]; omega, by omega, hl, ?_, ?_, ?_⟩, ?_⟩
        · rw [pm_up_i (by decide), pm_up_s, hnm, ← f6]
          omega
        · rw [pm_up_i (by decide), pm_up_s]; omega
        · rw [pm_up_i (by decide), pm_up_s]; omega
        · show (en - (pm_up (pm_up V 90 5 _) 90 2 (V 90 2 + 1)) 90 2).toNat < (en - V 90 2).toNat
          rw [pm_up_s]
          omega
    · rw [if_neg c2, if_pos rfl]
      exact Or.inr (fin (Or.inr (by rw [← hn, ← eT]; exact c2)))
