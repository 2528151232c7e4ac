/-! TWO PRODUCTS OF CHANCES, compared by the class -/
theorem fp_pr_eq {f g : Nat → Nat} : ∀ n : Nat, (∀ k, k < n → f k = g k) → fp_pr f n = fp_pr g n := by
  intro n
  induction n with
  | zero => intro _; rfl
  | succ n ih =>
    intro h
    show fp_pr f n * f n = fp_pr g n * g n
    rw [ih fun k hk => h k (by omega), h n (by omega)]
theorem fp_pr_mul {f g : Nat → Nat} : ∀ n : Nat, fp_pr (fun k => f k * g k) n = fp_pr f n * fp_pr g n := by
  intro n
  induction n with
  | zero => rfl
  | succ n ih =>
    show fp_pr (fun k => f k * g k) n * (f n * g n) = fp_pr f n * f n * (fp_pr g n * g n)
    rw [ih]
    ac_rfl
theorem fp_pr_0 {f : Nat → Nat} {k : Nat} : ∀ n : Nat, k < n → f k = 0 → fp_pr f n = 0 := by
  intro n
  induction n with
  | zero => intro h; omega
  | succ n ih =>
    intro h h0
    show fp_pr f n * f n = 0
    by_cases q : k = n
    · rw [← q, h0, Nat.mul_zero]
    · rw [ih (by omega) h0, Nat.zero_mul]
def fp_alt (f g : Nat → Nat) (i : Nat) : Nat := if i % 2 = 0 then f (i / 2) else g (i / 2)
theorem fp_pr_alt {f g : Nat → Nat} : ∀ n : Nat, fp_pr (fp_alt f g) (2 * n) = fp_pr f n * fp_pr g n := by
  intro n
  induction n with
  | zero => rfl
  | succ n ih =>
    have e1 : fp_alt f g (2 * n) = f n := by unfold fp_alt; rw [if_pos (by omega)]; congr 1; omega
    have e2 : fp_alt f g (2 * n + 1) = g n := by unfold fp_alt; rw [if_neg (by omega)]; congr 1; omega
    show fp_pr (fp_alt f g) (2 * n) * fp_alt f g (2 * n) * fp_alt f g (2 * n + 1) = fp_pr f n * f n * (fp_pr g n * g n)
    rw [ih, e1, e2]
    ac_rfl
/-- the product of the first n of a cell -/
def xp (V : pm_M) (c n : Nat) : Nat := fp_pr (fun k => (V c k).toNat) n
theorem xp_fr {V U : pm_M} {c : Nat} {n : Nat} (h : ∀ k, k < n → U c k = V c k) : xp U c n = xp V c n := fp_pr_eq n fun k hk => by show (U c k).toNat = (V c k).toNat; rw [h k hk]
/-- chances that can be: as many, each part and whole in its range -/
def xc (V : pm_M) (ch s : Nat) : Prop := V ch 0 = (s : Int) ∧ s ≤ 60 ∧ ∀ k, k < s → 0 ≤ V (ch + 1) k ∧ V (ch + 1) k < 1073741824 ∧ 1 ≤ V (ch + 2) k ∧ V (ch + 2) k < 1073741824
theorem xc_never {V : pm_M} {ch s : Nat} (h : xc V ch s) : ∃ y, F_X0_isNever ch V = (y, V) ∧ ((y = 0 ∧ ∀ k, k < s → 1 ≤ V (ch + 1) k) ∨ (y = 1 ∧ xp V (ch + 1) s = 0)) := by
  have e := F_X0_isNever_eq ch V
  obtain ⟨B, hB, e⟩ := pf_loop e
  have key := pf_val_ind2 (d := ((0 : Int), V)) (b := B) (fun q => ∃ i : Nat, q = (i : Int) ∧ i ≤ s ∧ ∀ k, k < i → 1 ≤ V (ch + 1) k) (fun o => o.2 = V ∧ ((o.1 = 0 ∧ ∀ k, k < s → 1 ≤ V (ch + 1) k) ∨ (o.1 = 1 ∧ xp V (ch + 1) s = 0))) (fun q => ((s : Int) - q).toNat) ?_ 0 ⟨0, rfl, Nat.zero_le _, fun k hk => absurd hk (by omega)⟩
  · rw [← e] at key
    exact ⟨_, Prod.ext rfl key.1, key.2⟩
  · rintro x ⟨i, rfl, hi, hk⟩
    have q1 := congrFun hB (i : Int)
    simp only [] at q1
    replace q1 := q1.trans (pf_let_eq h.1)
    by_cases c : (s : Int) ≤ (i : Int)
    · exact Or.inr ⟨_, q1.trans (if_pos c), rfl, Or.inl ⟨rfl, fun k k1 => hk k (by omega)⟩⟩
    · replace q1 := ((q1.trans (if_neg c)).trans (pf_let_eq (by rw [Int.toNat_natCast]))).trans (pf_let_eq (y := pm_cmp (V (ch + 1) i) 0) rfl)
      have h0 := (h.2.2 i (by omega)).1
      by_cases c2 : 0 < V (ch + 1) i
      · refine Or.inl ⟨_, (q1.trans (if_pos (pm_cmp_gt0.mpr c2))).trans (pf_let_eq rfl), ⟨i + 1, by omega, by omega, fun k k1 => ?_⟩, by omega⟩
        by_cases ek : k = i
        · rw [ek]
          omega
        · exact hk k (by omega)
      · exact Or.inr ⟨_, q1.trans (if_neg (fun q => c2 (pm_cmp_gt0.mp q))), rfl, Or.inr ⟨rfl, fp_pr_0 (k := i) s (by omega) (by show (V (ch + 1) i).toNat = 0; omega)⟩⟩
theorem xc_factor {V : pm_M} {cl cr s : Nat} (hl : xc V cl s) (hr : xc V cr s) (hp : ∀ k, k < s → 1 ≤ V (cl + 1) k) (i : Nat) (hi : i < 2 * s) : F_X4_factorOf cl cr (i : Int) V = (((fp_alt (fun k => (V (cl + 1) k).toNat) (fun k => (V (cr + 2) k).toNat) i : Nat) : Int), V) ∧ 1 ≤ fp_alt (fun k => (V (cl + 1) k).toNat) (fun k => (V (cr + 2) k).toNat) i ∧ fp_alt (fun k => (V (cl + 1) k).toNat) (fun k => (V (cr + 2) k).toNat) i < 2 ^ 31 := by
  have e := F_X4_factorOf_eq cl cr (i : Int) V
  have ei : ((i : Int) / 2).toNat = i / 2 := by omega
  have h1 := hl.2.2 (i / 2) (by omega)
  have h2 := hr.2.2 (i / 2) (by omega)
  have h3 := hp (i / 2) (by omega)
  unfold fp_alt
  by_cases c : i % 2 = 0
  · rw [if_pos c]
    dsimp only
    have mx : pm_mx 1 (V (cl + 1) (i / 2)) = V (cl + 1) (i / 2) := pm_mx_of ⟨by omega, Int.le_refl _, Or.inr rfl⟩
    have r := (((e.trans (if_neg (show ¬ ¬ ((i : Int) % 2 = 0) by omega))).trans (pf_let_eq (by rw [ei]))).trans (pf_let_eq mx))
    exact ⟨r.trans (Prod.ext (by dsimp only; omega) rfl), by omega, by omega⟩
  · rw [if_neg c]
    dsimp only
    have mx : pm_mx 1 (V (cr + 2) (i / 2)) = V (cr + 2) (i / 2) := pm_mx_of ⟨by omega, Int.le_refl _, Or.inr rfl⟩
    have r := (((e.trans (if_pos (show ¬ ((i : Int) % 2 = 0) by omega))).trans (pf_let_eq (by rw [ei]))).trans (pf_let_eq mx))
    exact ⟨r.trans (Prod.ext (by dsimp only; omega) rfl), by omega, by omega⟩
theorem xc_cross {v w A C : Nat} (hv : 1 ≤ v) (hw : 1 ≤ w) (hA : 1 ≤ A) (hC : 1 ≤ C) (h : v * C = w * A) : pm_cmp (v : Int) (w : Int) = pm_cmp (A : Int) (C : Int) := by
  rcases Nat.lt_trichotomy v w with q | q | q
  · have h1 : v * C < w * C := Nat.mul_lt_mul_of_pos_right q hC
    rw [h] at h1
    have h2 := Nat.lt_of_mul_lt_mul_left h1
    rw [pm_cmp_u (r := -1) (Or.inr (Or.inr ⟨rfl, by omega⟩)), pm_cmp_u (r := -1) (Or.inr (Or.inr ⟨rfl, by omega⟩))]
  · rw [q] at h
    have h2 := Nat.eq_of_mul_eq_mul_left (by omega) h
    rw [pm_cmp_u (r := 0) (Or.inr (Or.inl ⟨rfl, by omega⟩)), pm_cmp_u (r := 0) (Or.inr (Or.inl ⟨rfl, by omega⟩))]
  · have h1 : w * C < v * C := Nat.mul_lt_mul_of_pos_right q hC
    rw [h] at h1
    have h2 := Nat.lt_of_mul_lt_mul_left h1
    rw [pm_cmp_u (r := 1) (Or.inl ⟨rfl, by omega⟩), pm_cmp_u (r := 1) (Or.inl ⟨rfl, by omega⟩)]
theorem pm_ff.row {cs : List Nat} {fs : List (Nat × Nat)} {V V' : pm_M} (h : pm_ff cs fs V V') (k : Nat) (hk : k ∉ cs) (hf : ∀ i, (k, i) ∉ fs) (i : Nat) : V' k i = V k i := h k i hk (hf i)
/-- what the exact comparison leaves alone -/
abbrev xw (V U : pm_M) : Prop := pm_ff [80, 82] [(79, 1), (81, 1)] V U
theorem xw.at {V U : pm_M} (h : xw V U) {k i : Nat} (h1 : k < 79 ∨ 82 < k) : U k i = V k i := h k i (by simp; omega) (by simp; omega)
theorem xc_exact {V Z : pm_M} {cl cr s : Nat} {z : Int} (h84 : 83 ≤ cl ∧ 83 ≤ cr) (hl : xc V cl s) (hr : xc V cr s) (hp : ∀ k, k < s → 1 ≤ V (cl + 1) k) (hp2 : ∀ k, k < s → 1 ≤ V (cr + 1) k) (hZ : F_X4_compareExactly cl cr (s : Int) V = (z, Z)) : z = pm_cmp ((xp V (cl + 1) s * xp V (cr + 2) s : Nat) : Int) ((xp V (cr + 1) s * xp V (cl + 2) s : Nat) : Int) ∧ xw V Z := by
  have e := hZ.symm.trans (F_X4_compareExactly_eq cl cr (s : Int) V)
  obtain ⟨z1, V1, h1⟩ : ∃ y U, F_X1_begin 79 V = (y, U) := ⟨_, _, rfl⟩
  obtain ⟨z2, V2, h2⟩ : ∃ y U, F_X1_begin 81 V1 = (y, U) := ⟨_, _, rfl⟩
  replace e := (e.trans (pf_call_eq h1)).trans (pf_call_eq h2)
  obtain ⟨a1, a2, a3⟩ := dg_begin h1
  obtain ⟨b1, b2, b3⟩ := dg_begin h2
  have f1 : xw V V1 := pm_ff.rf.tr a3 (by decide) (by decide)
  have f2 : xw V V2 := f1.tr b3 (by decide) (by decide)
  have g1 : V2 79 1 = ((1 : Nat) : Int) := (b3 79 1 (by decide) (by decide)).trans a1
  have g2 : dg_ok 1073741824 (V2 80) 1 1 := a2.fr fun k _ => b3 80 k (by decide) (by simp)
  let pA : Nat → Nat := fun k => (V (cl + 1) k).toNat * (V (cr + 2) k).toNat
  let pC : Nat → Nat := fun k => (V (cr + 1) k).toNat * (V (cl + 2) k).toNat
  have hA : ∀ i, i < s → 1 ≤ pA i := fun i hi => by
    have q1 := hp i hi
    have q2 := hr.2.2 i hi
    exact Nat.mul_pos (show 0 < (V (cl + 1) i).toNat by omega) (show 0 < (V (cr + 2) i).toNat by omega)
  have hC : ∀ i, i < s → 1 ≤ pC i := fun i hi => by
    have q1 := hp2 i hi
    have q2 := hl.2.2 i hi
    exact Nat.mul_pos (show 0 < (V (cr + 1) i).toNat by omega) (show 0 < (V (cl + 2) i).toNat by omega)
  obtain ⟨B, hB, e⟩ := pf_loop e
  have key := pf_val_ind2 (d := ((0 : Int), V)) (b := B) (fun q => ∃ i n m v w : Nat, q.1 = (i : Int) ∧ i ≤ s ∧ xw V q.2 ∧ q.2 79 1 = (n : Int) ∧ q.2 81 1 = (m : Int) ∧ n ≤ 2 * i + 1 ∧ m ≤ 2 * i + 1 ∧ dg_ok 1073741824 (q.2 80) n v ∧ dg_ok 1073741824 (q.2 82) m w ∧ 1 ≤ v ∧ 1 ≤ w ∧ v * fp_pr pC i = w * fp_pr pA i) (fun o => o.1 = pm_cmp ((fp_pr pA s : Nat) : Int) ((fp_pr pC s : Nat) : Int) ∧ xw V o.2) (fun q => ((s : Int) - q.1).toNat) ?_ (0, V2) ⟨0, 1, 1, 1, 1, rfl, Nat.zero_le _, f2, g1, b1, by omega, by omega, g2, b2, by decide, by decide, rfl⟩
  · rw [← e] at key
    have k1 : fp_pr pA s = xp V (cl + 1) s * xp V (cr + 2) s := fp_pr_mul s
    have k2 : fp_pr pC s = xp V (cr + 1) s * xp V (cl + 2) s := fp_pr_mul s
    rw [← k1, ← k2]
    exact key
  · rintro ⟨x, U⟩ ⟨i, n, m, v, w, p1, p2, p3, p4, p5, p6, p7, p8, p9, p10, p11, p12⟩
    dsimp only at p1 p3 p4 p5 p8 p9
    subst p1
    have q1 := congrFun hB ((i : Int), U)
    simp only [] at q1
    by_cases c : (s : Int) ≤ (i : Int)
    · have ei : i = s := by omega
      subst ei
      refine Or.inr ⟨_, (q1.trans (if_pos c)).trans (pf_call_eq (dg_compare p4 p5 p8 p9)), xc_cross p10 p11 (fp_pr_p i hA) (fp_pr_p i hC) p12, p3⟩
    · have hi : i < s := by omega
      have hs60 := hl.2.1
      have dl := hl.2.2 i hi
      have dr := hr.2.2 i hi
      have o1 := hp i hi
      have o2 := hp2 i hi
      obtain ⟨a, ea⟩ : ∃ a, V (cl + 1) i = a := ⟨_, rfl⟩
      obtain ⟨b, eb⟩ : ∃ b, V (cr + 2) i = b := ⟨_, rfl⟩
      obtain ⟨c', ec⟩ : ∃ a, V (cr + 1) i = a := ⟨_, rfl⟩
      obtain ⟨d, ed⟩ : ∃ a, V (cl + 2) i = a := ⟨_, rfl⟩
      have ePA : fp_pr pA (i + 1) = fp_pr pA i * (a.toNat * b.toNat) := by rw [← ea, ← eb]; rfl
      have ePC : fp_pr pC (i + 1) = fp_pr pC i * (c'.toNat * d.toNat) := by rw [← ec, ← ed]; rfl
      rw [ea, ed] at dl
      rw [eb, ec] at dr
      rw [ea] at o1
      rw [ec] at o2
      have ua : U (cl + 1) i = a := (p3.at (by omega)).trans ea
      have ub : U (cr + 2) i = b := (p3.at (by omega)).trans eb
      have uc : U (cr + 1) i = c' := (p3.at (by omega)).trans ec
      have ud : U (cl + 2) i = d := (p3.at (by omega)).trans ed
      have m1 : 0 ≤ a * b := Int.mul_nonneg (by omega) (by omega)
      have m2 : a * b ≤ 1073741824 * 1073741824 := Int.mul_le_mul (by omega) (by omega) (by omega) (by decide)
      have m3 : 0 ≤ c' * d := Int.mul_nonneg (by omega) (by omega)
      have m4 : c' * d ≤ 1073741824 * 1073741824 := Int.mul_le_mul (by omega) (by omega) (by omega) (by decide)
      have w1 : pm_w64 (a * b) = a * b := pm_w64_id ⟨by omega, by omega⟩
      have w2 : pm_w64 (c' * d) = c' * d := pm_w64_id ⟨by omega, by omega⟩
      have nt : (i : Int).toNat = i := Int.toNat_natCast i
      replace q1 := (((((((q1.trans (if_neg c)).trans (pf_let_eq (by rw [nt]; exact ua))).trans (pf_let_eq (by rw [nt]; exact ub))).trans (pf_let_eq w1)).trans (pf_let_eq (by rw [nt]; exact uc))).trans (pf_let_eq (by rw [nt]; exact ud))).trans (pf_let_eq w2)).trans (pf_let_eq rfl)
      have n1 : ((a.toNat * b.toNat : Nat) : Int) = a * b := by rw [Int.natCast_mul, Int.toNat_of_nonneg (by omega), Int.toNat_of_nonneg (by omega)]
      have n2 : ((c'.toNat * d.toNat : Nat) : Int) = c' * d := by rw [Int.natCast_mul, Int.toNat_of_nonneg (by omega), Int.toNat_of_nonneg (by omega)]
      by_cases c2 : a * b = c' * d
      · refine Or.inl ⟨_, (q1.trans (if_pos (pm_cmp_eq0.mpr c2))).trans (pf_let_eq rfl), ⟨i + 1, n, m, v, w, by dsimp only; omega, by omega, p3, p4, p5, by omega, by omega, p8, p9, p10, p11, ?_⟩, by dsimp only; omega⟩
        have e5 : a.toNat * b.toNat = c'.toNat * d.toNat := by omega
        rw [ePA, ePC, e5, ← Nat.mul_assoc, p12, Nat.mul_assoc]
      · replace q1 := q1.trans (if_neg (fun q => c2 (pm_cmp_eq0.mp q)))
        obtain ⟨t1, U1, r1⟩ : ∃ y W, F_X1_times 79 a U = (y, W) := ⟨_, _, rfl⟩
        obtain ⟨n', s1, s2, s3, s4⟩ := dg_times p4 (by omega) p8 ⟨by omega, by omega⟩ p10 r1
        have x1 : xw V U1 := p3.tr s4 (by decide) (by decide)
        have hv1 : 1 ≤ v * a.toNat := Nat.mul_pos p10 (by omega)
        obtain ⟨t2, U2, r2⟩ : ∃ y W, F_X1_times 79 b U1 = (y, W) := ⟨_, _, rfl⟩
        obtain ⟨n2', s5, s6, s7, s8⟩ := dg_times s1 (by omega) s3 ⟨by omega, by omega⟩ hv1 r2
        have x2 : xw V U2 := x1.tr s8 (by decide) (by decide)
        have hv2 : 1 ≤ v * a.toNat * b.toNat := Nat.mul_pos hv1 (by omega)
        have y1 : U2 81 1 = (m : Int) := ((s8 81 1 (by decide) (by decide)).trans (s4 81 1 (by decide) (by decide))).trans p5
        have y2 : dg_ok 1073741824 (U2 82) m w := p9.fr fun k _ => (s8 82 k (by decide) (by simp)).trans (s4 82 k (by decide) (by simp))
        obtain ⟨t3, U3, r3⟩ : ∃ y W, F_X1_times 81 c' U2 = (y, W) := ⟨_, _, rfl⟩
        obtain ⟨m', s9, s10, s11, s12⟩ := dg_times y1 (by omega) y2 ⟨by omega, by omega⟩ p11 r3
        have x3 : xw V U3 := x2.tr s12 (by decide) (by decide)
        have hw1 : 1 ≤ w * c'.toNat := Nat.mul_pos p11 (by omega)
        obtain ⟨t4, U4, r4⟩ : ∃ y W, F_X1_times 81 d U3 = (y, W) := ⟨_, _, rfl⟩
        obtain ⟨m2', s13, s14, s15, s16⟩ := dg_times s9 (by omega) s11 ⟨by omega, by omega⟩ hw1 r4
        have x4 : xw V U4 := x3.tr s16 (by decide) (by decide)
        have hw2 : 1 ≤ w * c'.toNat * d.toNat := Nat.mul_pos hw1 (by omega)
        have y3 : U4 79 1 = (n2' : Int) := ((s16 79 1 (by decide) (by decide)).trans (s12 79 1 (by decide) (by decide))).trans s5
        have y4 : dg_ok 1073741824 (U4 80) n2' (v * a.toNat * b.toNat) := s7.fr fun k _ => (s16 80 k (by decide) (by simp)).trans (s12 80 k (by decide) (by simp))
        have l1 : U1 (cr + 2) i = b := (x1.at (by omega)).trans eb
        have l2 : U2 (cr + 1) i = c' := (x2.at (by omega)).trans ec
        have l3 : U3 (cl + 2) i = d := (x3.at (by omega)).trans ed
        replace q1 := (((((((q1.trans (pf_call_eq r1)).trans (pf_let_eq (by rw [nt]; exact l1))).trans (pf_call_eq r2)).trans (pf_let_eq (by rw [nt]; exact l2))).trans (pf_call_eq r3)).trans (pf_let_eq (by rw [nt]; exact l3))).trans (pf_call_eq r4)).trans (pf_let_eq rfl)
        refine Or.inl ⟨_, q1, ⟨i + 1, n2', m2', _, _, by dsimp only; omega, by omega, x4, y3, s13, by omega, by omega, y4, s15, hv2, hw2, ?_⟩, by dsimp only; omega⟩
        rw [ePA, ePC]
        calc v * a.toNat * b.toNat * (fp_pr pC i * (c'.toNat * d.toNat)) = v * fp_pr pC i * (a.toNat * b.toNat * (c'.toNat * d.toNat)) := by ac_rfl
          _ = w * fp_pr pA i * (a.toNat * b.toNat * (c'.toNat * d.toNat)) := by rw [p12]
          _ = w * c'.toNat * d.toNat * (fp_pr pA i * (a.toNat * b.toNat)) := by ac_rfl
theorem pm_cmp_1 {x y : Int} (h : y < x) : pm_cmp x y = 1 := pm_cmp_u (Or.inl ⟨rfl, h⟩)
theorem pm_cmp_m {x y : Int} (h : x < y) : pm_cmp x y = -1 := pm_cmp_u (Or.inr (Or.inr ⟨rfl, h⟩))
theorem pm_cmp_0 {x y : Int} (h : x = y) : pm_cmp x y = 0 := pm_cmp_u (Or.inr (Or.inl ⟨rfl, h⟩))
theorem xc_compare {V : pm_M} {cl cr s : Nat} (h84 : 83 ≤ cl ∧ 83 ≤ cr) (hl : xc V cl s) (hr : xc V cr s) : ∃ Z, F_X4_compareProducts cl cr V = (pm_cmp ((xp V (cl + 1) s * xp V (cr + 2) s : Nat) : Int) ((xp V (cr + 1) s * xp V (cl + 2) s : Nat) : Int), Z) ∧ xw V Z := by
  have e := F_X4_compareProducts_eq cl cr V
  obtain ⟨y1, e1, n1⟩ := xc_never hl
  obtain ⟨y2, e2, n2⟩ := xc_never hr
  replace e := (e.trans (pf_call_eq e1)).trans (pf_call_eq e2)
  have wl : 0 < xp V (cl + 2) s := fp_pr_p s fun i hi => by
    have := hl.2.2 i hi
    show 1 ≤ (V (cl + 2) i).toNat
    omega
  have wr : 0 < xp V (cr + 2) s := fp_pr_p s fun i hi => by
    have := hr.2.2 i hi
    show 1 ≤ (V (cr + 2) i).toNat
    omega
  rcases n1 with ⟨rfl, n1⟩ | ⟨rfl, n1⟩
  · have pl : 0 < xp V (cl + 1) s := fp_pr_p s fun i hi => by
      have := n1 i hi
      show 1 ≤ (V (cl + 1) i).toNat
      omega
    have hA : 0 < xp V (cl + 1) s * xp V (cr + 2) s := Nat.mul_pos pl wr
    replace e := e.trans (if_neg (show ¬ ¬ ((0 : Int) = 0) by omega))
    rcases n2 with ⟨rfl, n2⟩ | ⟨rfl, n2⟩
    · have pr : 0 < xp V (cr + 1) s := fp_pr_p s fun i hi => by
        have := n2 i hi
        show 1 ≤ (V (cr + 1) i).toNat
        omega
      have hC : 0 < xp V (cr + 1) s * xp V (cl + 2) s := Nat.mul_pos pr wl
      have mn : pm_mn (s : Int) (s : Int) = (s : Int) := pm_mn_of ⟨Int.le_refl _, Int.le_refl _, Or.inl rfl⟩
      replace e := (((e.trans (if_pos rfl)).trans (pf_let_eq hl.1)).trans (pf_let_eq hr.1)).trans (pf_let_eq mn)
      obtain ⟨x, ex, hR⟩ := fp_rough (cl := cl) (cr := cr) (V := V) hl.2.1 (xc_factor hl hr n1) (xc_factor hr hl n2)
      have kA : fp_pr (fp_alt (fun k => (V (cl + 1) k).toNat) (fun k => (V (cr + 2) k).toNat)) (2 * s) = xp V (cl + 1) s * xp V (cr + 2) s := fp_pr_alt s
      have kC : fp_pr (fp_alt (fun k => (V (cr + 1) k).toNat) (fun k => (V (cl + 2) k).toNat)) (2 * s) = xp V (cr + 1) s * xp V (cl + 2) s := fp_pr_alt s
      have hS := hR.says hl.2.1 (by rw [kA]; exact hA) (by rw [kC]; exact hC)
      rw [kA, kC] at hS
      replace e := (e.trans (pf_call_eq ex)).trans (pf_let_eq rfl)
      by_cases c1 : fp_c .l x 4607182418804521008 ≤ 0
      · replace e := (e.trans (if_pos c1)).trans (pf_let_eq rfl)
        by_cases c2 : 0 ≤ fp_c .g x 4607182418791010209
        · obtain ⟨z, Z, hz⟩ : ∃ y W, F_X4_compareExactly cl cr (s : Int) V = (y, W) := ⟨_, _, rfl⟩
          obtain ⟨z1, z2⟩ := xc_exact h84 hl hr n1 n2 hz
          rw [z1] at hz
          exact ⟨Z, (e.trans (if_pos c2)).trans (pf_call_eq hz), z2⟩
        · have h := hS.2 (by omega)
          rw [pm_cmp_m (by omega)]
          exact ⟨V, e.trans (if_neg c2), pm_ff.rf⟩
      · have h := hS.1 (by omega)
        rw [pm_cmp_1 (by omega)]
        exact ⟨V, e.trans (if_neg c1), pm_ff.rf⟩
    · rw [n2, Nat.zero_mul, pm_cmp_1 (by omega)]
      exact ⟨V, ((e.trans (if_neg (by decide))).trans (if_neg (by decide))).trans (if_pos rfl), pm_ff.rf⟩
  · replace e := e.trans (if_pos (show ¬ ((1 : Int) = 0) by decide))
    rcases n2 with ⟨rfl, n2⟩ | ⟨rfl, n2⟩
    · have pr : 0 < xp V (cr + 1) s := fp_pr_p s fun i hi => by
        have := n2 i hi
        show 1 ≤ (V (cr + 1) i).toNat
        omega
      have hC : 0 < xp V (cr + 1) s * xp V (cl + 2) s := Nat.mul_pos pr wl
      rw [n1, Nat.zero_mul, pm_cmp_m (by omega)]
      exact ⟨V, (e.trans (if_pos rfl)).trans (if_neg (by decide)), pm_ff.rf⟩
    · rw [n1, n2, Nat.zero_mul, Nat.zero_mul, pm_cmp_0 rfl]
      exact ⟨V, (e.trans (if_neg (by decide))).trans (if_neg (by decide)), pm_ff.rf⟩
