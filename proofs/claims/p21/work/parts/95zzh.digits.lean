/-! WHOLE NUMBERS by their digits -/
theorem dg_nat {y : Int} (h : 0 ≤ y ∧ y ≤ 9223372036854775807) : (Int64.ofInt y).toBitVec.toNat = y.toNat := by
  have h1 : (Int64.ofInt y).toInt = y := pm_toIntL ⟨by omega, h.2⟩
  have h2 : (Int64.ofInt y).toBitVec.toInt = y := h1
  rw [BitVec.toInt_eq_toNat_cond] at h2
  have := (Int64.ofInt y).toBitVec.isLt
  split at h2 <;> omega
theorem dg_and {y : Int} (h : 0 ≤ y ∧ y ≤ 9223372036854775807) : pm_landV y 1073741823 = y % 1073741824 := by
  have e : pm_landV y 1073741823 = ((Int64.ofInt y).toBitVec &&& 1073741823#64).toInt := rfl
  have h1 : ((Int64.ofInt y).toBitVec &&& 1073741823#64).toNat = y.toNat % 1073741824 := by
    rw [BitVec.toNat_and, dg_nat h]
    exact Nat.and_two_pow_sub_one_eq_mod _ 30
  have h2 : ((Int64.ofInt y).toBitVec &&& 1073741823#64).toInt = (((Int64.ofInt y).toBitVec &&& 1073741823#64).toNat : Int) := BitVec.toInt_eq_toNat_of_lt (by omega)
  rw [e, h2, h1]
  omega
theorem dg_shr {y : Int} (h : 0 ≤ y ∧ y ≤ 9223372036854775807) : pm_lushrV y 30 = y / 1073741824 := by
  have e : pm_lushrV y 30 = ((Int64.ofInt y).toBitVec >>> (30 : Nat)).toInt := rfl
  have h1 : ((Int64.ofInt y).toBitVec >>> (30 : Nat)).toNat = y.toNat / 1073741824 := by
    rw [BitVec.toNat_ushiftRight, dg_nat h, Nat.shiftRight_eq_div_pow]
  have h2 : ((Int64.ofInt y).toBitVec >>> (30 : Nat)).toInt = (((Int64.ofInt y).toBitVec >>> (30 : Nat)).toNat : Int) := BitVec.toInt_eq_toNat_of_lt (by omega)
  rw [e, h2, h1]
  omega
/-- the number whose first n digits are f's, in base B -/
def dg_v (B : Nat) (f : Nat → Int) : Nat → Nat
  | 0 => 0
  | n + 1 => dg_v B f n + (f n).toNat * B ^ n
theorem dg_eq {B : Nat} {f g : Nat → Int} : ∀ n : Nat, (∀ k, k < n → f k = g k) → dg_v B f n = dg_v B g n := by
  intro n
  induction n with
  | zero => intro _; rfl
  | succ n ih =>
    intro h
    show dg_v B f n + (f n).toNat * B ^ n = dg_v B g n + (g n).toNat * B ^ n
    rw [ih fun k hk => h k (by omega), h n (by omega)]
theorem dg_lt {B : Nat} {f : Nat → Int} : ∀ n : Nat, (∀ k, k < n → 0 ≤ f k ∧ f k < B) → dg_v B f n < B ^ n := by
  intro n
  induction n with
  | zero => intro _; exact Nat.one_pos
  | succ n ih =>
    intro h
    have h1 := ih fun k hk => h k (by omega)
    have h2 := h n (by omega)
    have h3 : ((f n).toNat + 1) * B ^ n ≤ B * B ^ n := Nat.mul_le_mul_right _ (by omega)
    rw [Nat.add_mul, Nat.one_mul] at h3
    have h4 : B ^ (n + 1) = B * B ^ n := by rw [Nat.pow_succ, Nat.mul_comm]
    rw [h4]
    show dg_v B f n + (f n).toNat * B ^ n < _
    omega
theorem dg_tail {B : Nat} {f g : Nat → Int} {i : Nat} : ∀ n : Nat, i ≤ n → (∀ k, i ≤ k → k < n → f k = g k) → dg_v B f n + dg_v B g i = dg_v B g n + dg_v B f i := by
  intro n
  induction n with
  | zero =>
    intro h _
    have e : i = 0 := by omega
    rw [e]
    exact Nat.add_comm _ _
  | succ n ih =>
    intro h hk
    by_cases q : i = n + 1
    · rw [q]
      exact Nat.add_comm _ _
    · have h1 := ih (by omega) fun k k1 k2 => hk k k1 (by omega)
      have h2 := hk n (by omega) (by omega)
      show dg_v B f n + (f n).toNat * B ^ n + _ = dg_v B g n + (g n).toNat * B ^ n + _
      rw [h2]
      omega
/-- the first digit from above that differs decides -/
theorem dg_less {B : Nat} {f g : Nat → Int} {i n : Nat} (hi : i < n) (hf : ∀ k, k < n → 0 ≤ f k ∧ f k < B) (hg : ∀ k, k < n → 0 ≤ g k ∧ g k < B) (h : ∀ k, i < k → k < n → f k = g k) (hd : f i < g i) : dg_v B f n < dg_v B g n := by
  have h1 := dg_tail (B := B) (f := f) (g := g) (i := i + 1) n (by omega) (fun k k1 k2 => h k (by omega) k2)
  have h2 := dg_lt (B := B) (f := f) i fun k hk => hf k (by omega)
  have h3 := hf i hi
  have h4 := hg i hi
  have h5 : ((f i).toNat + 1) * B ^ i ≤ (g i).toNat * B ^ i := Nat.mul_le_mul_right _ (by omega)
  rw [Nat.add_mul, Nat.one_mul] at h5
  have e1 : dg_v B f (i + 1) = dg_v B f i + (f i).toNat * B ^ i := rfl
  have e2 : dg_v B g (i + 1) = dg_v B g i + (g i).toNat * B ^ i := rfl
  omega
/-- n digits of f without a zero ahead are v -/
def dg_ok (B : Nat) (f : Nat → Int) (n v : Nat) : Prop := 1 ≤ n ∧ (∀ k, k < n → 0 ≤ f k ∧ f k < B) ∧ dg_v B f n = v ∧ (n = 1 ∨ B ^ (n - 1) ≤ v)
theorem dg_ok.fr {B : Nat} {f g : Nat → Int} {n v : Nat} (h : dg_ok B f n v) (e : ∀ k, k < n → g k = f k) : dg_ok B g n v := ⟨h.1, fun k hk => by rw [e k hk]; exact h.2.1 k hk, (dg_eq n e).trans h.2.2.1, h.2.2.2⟩
theorem dg_ok.more {B : Nat} {f g : Nat → Int} {n m v w : Nat} (hf : dg_ok B f n v) (hg : dg_ok B g m w) (h : n < m) (hB : 0 < B) : v < w := by
  have h1 := dg_lt n hf.2.1
  rw [hf.2.2.1] at h1
  have h2 : B ^ (m - 1) ≤ w := by
    rcases hg.2.2.2 with q | q
    · exfalso
      have := hf.1
      omega
    · exact q
  have h3 : B ^ n ≤ B ^ (m - 1) := Nat.pow_le_pow_right hB (by omega)
  omega
/-! the class's product -/
theorem dg_times {pr : Nat} {V Z : pm_M} {z a : Int} {n v : Nat} (h0 : V pr 1 = (n : Int)) (hn : n < 128) (ho : dg_ok 1073741824 (V (pr + 1)) n v) (ha : 1 ≤ a ∧ a < 1073741824) (hv : 1 ≤ v) (hZ : F_X1_times pr a V = (z, Z)) : ∃ m : Nat, Z pr 1 = (m : Int) ∧ m ≤ n + 1 ∧ dg_ok 1073741824 (Z (pr + 1)) m (v * a.toNat) ∧ pm_ff [pr + 1] [(pr, 1)] V Z := by
  have e := hZ.symm.trans (F_X1_times_eq pr a V)
  obtain ⟨B, hB, e⟩ := pf_loop e
  have key := pf_val_ind2 (d := ((0 : Int), V)) (b := B) (fun q => 0 ≤ q.1 ∧ q.1 ≤ a ∧ 0 ≤ q.2.1 ∧ q.2.1 ≤ (n : Int) ∧ pm_ff [pr + 1] [] V q.2.2 ∧ (∀ k : Nat, q.2.1 ≤ (k : Int) → q.2.2 (pr + 1) k = V (pr + 1) k) ∧ (∀ k : Nat, (k : Int) < q.2.1 → 0 ≤ q.2.2 (pr + 1) k ∧ q.2.2 (pr + 1) k < 1073741824) ∧ dg_v 1073741824 (q.2.2 (pr + 1)) q.2.1.toNat + q.1.toNat * 1073741824 ^ q.2.1.toNat = dg_v 1073741824 (V (pr + 1)) q.2.1.toNat * a.toNat) (fun o => ∃ m : Nat, o.2 pr 1 = (m : Int) ∧ m ≤ n + 1 ∧ dg_ok 1073741824 (o.2 (pr + 1)) m (v * a.toNat) ∧ pm_ff [pr + 1] [(pr, 1)] V o.2) (fun q => ((n : Int) - q.2.1).toNat) ?_ (0, 0, V) ⟨Int.le_refl _, by dsimp only; omega, Int.le_refl _, by dsimp only; omega, pm_ff.rf, fun _ _ => rfl, fun k hk => absurd hk (by dsimp only; omega), by simp [dg_v]⟩
  · rw [← e] at key
    exact key
  · rintro ⟨x, j, U⟩ ⟨p0, p1, p2, p3, p4, p5, p6, p7⟩
    dsimp only at p0 p1 p2 p3 p4 p5 p6 p7
    have q1 := congrFun hB (x, j, U)
    simp only [] at q1
    have u0 : U pr 1 = (n : Int) := (p4 pr 1 (by simp) (by simp)).trans h0
    replace q1 := q1.trans (pf_let_eq u0)
    have hff : pm_ff [pr + 1] [(pr, 1)] V U := pm_ff.rf.tr p4 (by simp) (by simp)
    have hva : v ≤ v * a.toNat := Nat.le_mul_of_pos_right _ (by omega)
    by_cases c : (n : Int) ≤ j
    · have ej : j = (n : Int) := by omega
      subst ej
      rw [Int.toNat_natCast, ho.2.2.1] at p7
      replace q1 := (q1.trans (if_pos c)).trans (pf_let_eq rfl)
      by_cases c2 : x ≤ 0
      · have ex : x.toNat = 0 := by omega
        rw [ex, Nat.zero_mul, Nat.add_zero] at p7
        refine Or.inr ⟨_, q1.trans (if_pos (pm_cmp_le0.mpr c2)), n, u0, by omega, ⟨ho.1, fun k hk => p6 k (by omega), p7, ?_⟩, hff⟩
        rcases ho.2.2.2 with q | q
        · exact Or.inl q
        · exact Or.inr (by omega)
      · replace q1 := (q1.trans (if_neg (fun q => c2 (pm_cmp_le0.mp q)))).trans (if_neg (show ¬ 128 ≤ (n : Int) by omega))
        refine Or.inr ⟨_, q1, n + 1, ?_, by omega, ⟨by omega, ?_, ?_, ?_⟩, ?_⟩
        · dsimp only
          rw [pm_up_s]
          omega
        · intro k hk
          dsimp only
          rw [pm_up_c (by omega), Int.toNat_natCast]
          by_cases ek : k = n
          · rw [ek, pm_up_s]
            omega
          · rw [pm_up_i ek]
            exact p6 k (by omega)
        · dsimp only
          rw [pm_up_f (by omega), Int.toNat_natCast]
          show dg_v _ _ n + (pm_up U (pr + 1) n x (pr + 1) n).toNat * 1073741824 ^ n = _
          rw [pm_up_s, ← p7, dg_eq (f := pm_up U (pr + 1) n x (pr + 1)) (g := U (pr + 1)) n]
          intro k hk
          rw [pm_up_i (by omega)]
        · right
          rw [Nat.add_sub_cancel, ← p7]
          have h5 : 1 * 1073741824 ^ n ≤ x.toNat * 1073741824 ^ n := Nat.mul_le_mul_right _ (by omega)
          rw [Nat.one_mul] at h5
          exact Nat.le_trans h5 (Nat.le_add_left _ _)
        · exact (hff.upa (pr + 1) _ _ (by simp)).upf pr 1 _ (by simp)
    · replace q1 := q1.trans (if_neg c)
      have hk := ho.2.1 j.toNat (by omega)
      have ek : U (pr + 1) j.toNat = V (pr + 1) j.toNat := p5 j.toNat (by omega)
      obtain ⟨g, hg⟩ : ∃ g, V (pr + 1) j.toNat = g := ⟨_, rfl⟩
      rw [hg] at hk ek
      have m1 : 0 ≤ g * a := Int.mul_nonneg hk.1 (by omega)
      have m2 : g * a ≤ 1073741823 * a := Int.mul_le_mul_of_nonneg_right (by omega) (by omega)
      have w1 : pm_w64 (g * a) = g * a := pm_w64_id ⟨by omega, by omega⟩
      have w2 : pm_w64 (g * a + x) = g * a + x := pm_w64_id ⟨by omega, by omega⟩
      replace q1 := (((((q1.trans (pf_let_eq ek)).trans (pf_let_eq w1)).trans (pf_let_eq w2)).trans (pf_let_eq (dg_and ⟨by omega, by omega⟩))).trans (pf_let_eq (dg_shr ⟨by omega, by omega⟩))).trans (pf_let_eq rfl)
      have ej : (j + 1).toNat = j.toNat + 1 := by omega
      refine Or.inl ⟨_, q1, ⟨?_, ?_, by dsimp only; omega, by dsimp only; omega, ?_, ?_, ?_, ?_⟩, by dsimp only; omega⟩
      · dsimp only
        omega
      · dsimp only
        omega
      · exact p4.upa (pr + 1) _ _ (by simp)
      · intro k hk2
        dsimp only at hk2 ⊢
        rw [pm_up_i (by omega)]
        exact p5 k (by omega)
      · intro k hk2
        dsimp only at hk2 ⊢
        by_cases ek2 : k = j.toNat
        · rw [ek2, pm_up_s]
          omega
        · rw [pm_up_i ek2]
          exact p6 k (by omega)
      · dsimp only
        rw [ej]
        show dg_v _ _ j.toNat + (pm_up U (pr + 1) j.toNat _ (pr + 1) j.toNat).toNat * 1073741824 ^ j.toNat + _ * 1073741824 ^ (j.toNat + 1) = (dg_v _ _ j.toNat + (V (pr + 1) j.toNat).toNat * 1073741824 ^ j.toNat) * a.toNat
        rw [pm_up_s, hg, Nat.add_mul, ← p7, dg_eq (f := pm_up U (pr + 1) j.toNat ((g * a + x) % 1073741824) (pr + 1)) (g := U (pr + 1)) j.toNat (fun k hk2 => pm_up_i (by omega))]
        have d1 : ((g * a + x) % 1073741824).toNat + ((g * a + x) / 1073741824).toNat * 1073741824 = g.toNat * a.toNat + x.toNat := by
          have d2 : ((g.toNat * a.toNat : Nat) : Int) = g * a := by rw [Int.natCast_mul, Int.toNat_of_nonneg hk.1, Int.toNat_of_nonneg (by omega)]
          omega
        rw [Nat.pow_succ]
        generalize 1073741824 ^ j.toNat = T
        calc dg_v 1073741824 (U (pr + 1)) j.toNat + ((g * a + x) % 1073741824).toNat * T + ((g * a + x) / 1073741824).toNat * (T * 1073741824)
            = dg_v 1073741824 (U (pr + 1)) j.toNat + (((g * a + x) % 1073741824).toNat + ((g * a + x) / 1073741824).toNat * 1073741824) * T := by
              rw [Nat.add_mul, Nat.add_assoc, Nat.mul_assoc _ 1073741824 T, Nat.mul_comm T]
          _ = dg_v 1073741824 (U (pr + 1)) j.toNat + x.toNat * T + g.toNat * T * a.toNat := by
              rw [d1, Nat.add_mul, Nat.mul_right_comm g.toNat a.toNat T]
              omega
theorem dg_begin {pr : Nat} {V Z : pm_M} {z : Int} (hZ : F_X1_begin pr V = (z, Z)) : Z pr 1 = ((1 : Nat) : Int) ∧ dg_ok 1073741824 (Z (pr + 1)) 1 1 ∧ pm_ff [pr + 1] [(pr, 1)] V Z := by
  have e := hZ.symm.trans (F_X1_begin_eq pr V)
  have e2 : Z = pm_up (pm_up V (pr + 1) 0 1) pr 1 1 := (Prod.mk.inj e).2
  have e3 : Z (pr + 1) 0 = 1 := by rw [e2, pm_up_c (by omega), pm_up_s]
  refine ⟨by rw [e2, pm_up_s]; rfl, ⟨by decide, ?_, ?_, Or.inl rfl⟩, ?_⟩
  · intro k hk
    have ek : k = 0 := by omega
    rw [ek, e3]
    decide
  · show 0 + (Z (pr + 1) 0).toNat * 1073741824 ^ 0 = 1
    rw [e3]
    rfl
  · rw [e2]
    exact (pm_ff.rf.upa (pr + 1) _ _ (by simp)).upf pr 1 _ (by simp)
theorem dg_compare {pr po : Nat} {V : pm_M} {n m v w : Nat} (h0 : V pr 1 = (n : Int)) (h1 : V po 1 = (m : Int)) (hv : dg_ok 1073741824 (V (pr + 1)) n v) (hw : dg_ok 1073741824 (V (po + 1)) m w) : F_X1_compareWith pr po V = (pm_cmp (v : Int) (w : Int), V) := by
  have e := ((F_X1_compareWith_eq pr po V).trans (pf_let_eq h0)).trans (pf_let_eq h1)
  by_cases c : n = m
  · subst c
    replace e := e.trans (if_pos rfl)
    obtain ⟨B, hB, e⟩ := pf_loop e
    have key := pf_val_ind2 (d := ((0 : Int), V)) (b := B) (fun q => ∃ i : Nat, q = (i : Int) - 1 ∧ i ≤ n ∧ ∀ k, i ≤ k → k < n → V (pr + 1) k = V (po + 1) k) (fun o => o = (pm_cmp (v : Int) (w : Int), V)) (fun q => (q + 1).toNat) ?_ ((n : Int) - 1) ⟨n, rfl, Nat.le_refl _, fun k k1 k2 => absurd k1 (by omega)⟩
    · exact e.trans key
    · rintro x ⟨i, rfl, hi, hk⟩
      have q1 := congrFun hB ((i : Int) - 1)
      simp only [] at q1
      by_cases c1 : (i : Int) - 1 < 0
      · refine Or.inr ⟨_, q1.trans (if_pos c1), ?_⟩
        have ev : v = w := by
          rw [← hv.2.2.1, ← hw.2.2.1]
          exact dg_eq n fun k hk2 => hk k (by omega) hk2
        rw [ev]
        exact Prod.ext (pm_cmp_eq0.mpr rfl).symm rfl
      · obtain ⟨j, rfl⟩ : ∃ j, i = j + 1 := ⟨i - 1, by omega⟩
        have ej : (((j + 1 : Nat) : Int) - 1).toNat = j := by omega
        replace q1 := (((q1.trans (if_neg c1)).trans (pf_let_eq (by rw [ej]))).trans (pf_let_eq (by rw [ej]))).trans (pf_let_eq (y := pm_cmp (V (pr + 1) j) (V (po + 1) j)) rfl)
        by_cases c2 : V (pr + 1) j = V (po + 1) j
        · refine Or.inl ⟨_, (q1.trans (if_pos (pm_cmp_eq0.mpr c2))).trans (pf_let_eq rfl), ⟨j, by omega, by omega, fun k k1 k2 => ?_⟩, by omega⟩
          by_cases ek : k = j
          · rw [ek]
            exact c2
          · exact hk k (by omega) k2
        · replace q1 := (q1.trans (if_neg (fun q => c2 (pm_cmp_eq0.mp q)))).trans (pf_let_eq rfl)
          by_cases c3 : pm_cmp (V (pr + 1) j) (V (po + 1) j) ≤ 0
          · refine Or.inr ⟨_, q1.trans (if_pos c3), ?_⟩
            rw [pm_cmp_le0] at c3
            have h := dg_less (B := 1073741824) (i := j) (n := n) (by omega) hv.2.1 hw.2.1 (fun k k1 k2 => hk k (by omega) k2) (by omega)
            rw [hv.2.2.1, hw.2.2.1] at h
            exact Prod.ext (pm_cmp_u (Or.inr (Or.inr ⟨rfl, by omega⟩))).symm rfl
          · refine Or.inr ⟨_, q1.trans (if_neg c3), ?_⟩
            rw [pm_cmp_le0] at c3
            have h := dg_less (B := 1073741824) (i := j) (n := n) (by omega) hw.2.1 hv.2.1 (fun k k1 k2 => (hk k (by omega) k2).symm) (by omega)
            rw [hv.2.2.1, hw.2.2.1] at h
            exact Prod.ext (pm_cmp_u (Or.inl ⟨rfl, by omega⟩)).symm rfl
  · replace e := e.trans (if_neg (show ¬ (n : Int) = (m : Int) by omega))
    by_cases c2 : n ≤ m
    · have h := hv.more hw (by omega) (by decide)
      exact (e.trans (if_pos (show (n : Int) ≤ (m : Int) by omega))).trans (Prod.ext (pm_cmp_u (Or.inr (Or.inr ⟨rfl, by omega⟩))).symm rfl)
    · have h := hw.more hv (by omega) (by decide)
      exact (e.trans (if_neg (show ¬ (n : Int) ≤ (m : Int) by omega))).trans (Prod.ext (pm_cmp_u (Or.inl ⟨rfl, by omega⟩)).symm rfl)
