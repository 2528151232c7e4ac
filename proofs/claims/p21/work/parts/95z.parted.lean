/-! WEIGHTS: which trial parts two laws most -/
def wo (V : pm_M) : Prop := (V 73 13 = 76 ∧ V 73 15 = 77) ∨ (V 73 13 = 77 ∧ V 73 15 = 76)
def gC (V Z : pm_M) : Prop := ∀ k i, (k < 73 ∨ 77 < k) → Z k i = V k i
def gR (W X : pm_M) : Prop := (∀ k, k ≠ 90 → k ≠ 110 → k ≠ 111 → k ≠ 112 → k ≠ 115 → X k = W k) ∧ ∀ i, (i < 42 ∨ 51 < i) → X 90 i = W 90 i
theorem gC.rf {V : pm_M} : gC V V := fun _ _ _ => rfl
theorem gR.rf {W : pm_M} : gR W W := ⟨fun _ _ _ _ _ _ => rfl, fun _ _ => rfl⟩
theorem gC.tr {V Z Y : pm_M} (h : gC V Z) (g : gC Z Y) : gC V Y := fun k i q => (g k i q).trans (h k i q)
theorem gR.tr {W X Y : pm_M} (h : gR W X) (g : gR X Y) : gR W Y := ⟨fun k q1 q2 q3 q4 q5 => (g.1 k q1 q2 q3 q4 q5).trans (h.1 k q1 q2 q3 q4 q5), fun i q => (g.2 i q).trans (h.2 i q)⟩
theorem fC.g {V Z : pm_M} (h : fC V Z) : gC V Z := fun k i q => h k i (Or.inl q)
theorem fR.g {W X : pm_M} (h : fR W X) : gR W X := ⟨fun k q1 q2 q3 q4 _ => h.1 k q1 q2 q3 q4, h.2⟩
theorem wq.gr {V W Z X : pm_M} (h : wq V W) (f : gC V Z) (g : gR W X) (h13 : Z 73 13 = 76 ∨ Z 73 13 = 77) : wq Z X := by
  obtain ⟨hq, hp, hb, -⟩ := h
  refine ⟨?_, ?_, ?_, h13⟩
  · refine (hq.C (V' := Z) fun k i q => f k i (by unfold sq_nd at q; omega)).R (fun i q => g.2 i (by simp only [List.contains_eq_mem, List.mem_cons, List.not_mem_nil, or_false, decide_eq_true_eq] at q; omega)) (fun k q => g.1 k ?_ ?_ ?_ ?_ ?_) <;> (rintro rfl; exact absurd q (by decide))
  · refine (hp.C (V' := Z) fun k i q => f k i (by unfold pd at q; omega)).R (fun k q => g.1 k ?_ ?_ ?_ ?_ ?_) <;> (rintro rfl; exact absurd q (by decide))
  · have e16 := g.2 16 (by omega)
    have e20 := g.2 20 (by omega)
    have e21 := g.2 21 (by omega)
    have e23 := g.2 23 (by omega)
    have c97 := g.1 97 (by decide) (by decide) (by decide) (by decide) (by decide)
    have c98 := g.1 98 (by decide) (by decide) (by decide) (by decide) (by decide)
    have c100 := g.1 100 (by decide) (by decide) (by decide) (by decide) (by decide)
    unfold wb at hb ⊢
    rw [e16, e20, e21, e23, c97, c98, c100]
    exact hb
theorem wo.h13 {V : pm_M} (h : wo V) : V 73 13 = 76 ∨ V 73 13 = 77 := h.elim (fun q => Or.inl q.1) (fun q => Or.inr q.1)
theorem wo.fC {V Z : pm_M} (h : wo V) (f : fC V Z) : wo Z := by
  have e1 := f 73 13 (Or.inr ⟨rfl, Or.inl rfl⟩)
  have e2 := f 73 15 (Or.inr ⟨rfl, Or.inr rfl⟩)
  unfold wo at h ⊢
  rw [e1, e2]
  exact h
/-- the weights by ODDS, of a trial -/
def od (n : Int) (W : pm_M) (j : Nat) : Int := ((W 90 47 * n) * W 110 j) * W 111 j + ((16 - W 90 47) * W 90 45) * W 110 j
/-- a great total comes by ODDS alone -/
theorem rw_big {c : Nat} {n a z : Int} {V W X : pm_M} (h : wr c n V W) (hl : 0 ≤ a ∧ a ≤ 6) (hX : F_X12_weighs a W = (z, X)) : X 90 51 ≤ 341067024 ∧ (X 90 51 ≤ 2368521 ∨ ∀ j : Nat, (j : Int) < n → X 112 j = od n W j) := by
  obtain ⟨⟨hc, h73, hcn, hwn, h13⟩, ⟨hS, hb⟩, ⟨v1, v2, v3, v4, v5, v6⟩, ⟨s1, s2, s3, s4, s5, s6⟩, ⟨t1, t2, t3⟩, ⟨a1, a2, a3, a4, a5, a6, a7, a8⟩, hj⟩ := h
  obtain ⟨b16, -, -, -, b97, bh, -, -⟩ := hb
  rw [hwn] at b16 bh
  have N1 : 1 ≤ n := by omega
  have N0 : 0 ≤ n := by omega
  have N9 : n ≤ 9 := b16.2
  have ja : ∀ j : Nat, (j : Int) < n → 0 ≤ W 110 j ∧ W 110 j ≤ 1539 := fun j hj' => ⟨(hj j hj').2.2.1, (hj j hj').2.2.2.1⟩
  have jf : ∀ j : Nat, (j : Int) < n → 0 ≤ W 111 j ∧ W 111 j ≤ 171 := fun j hj' => ⟨(hj j hj').2.2.2.2.1, (hj j hj').2.2.2.2.2⟩
  have bA := wk_S_b (g := W 110) (M := 1539) (by decide) n.toNat (fun j hj' => ja j (by omega))
  have bF := wk_S_b (g := W 111) (M := 171) (by decide) n.toNat (fun j hj' => jf j (by omega))
  have bp : ∀ j : Nat, (j : Int) < n → 0 ≤ W 110 j * W 111 j ∧ W 110 j * W 111 j ≤ 263169 := fun j hj' => pm_mulb (ja j hj').1 (jf j hj').1 (ja j hj').2 (jf j hj').2 (by decide)
  have bJ := wk_S_b (g := fun j => W 110 j * W 111 j) (M := 263169) (by decide) n.toNat (fun j hj' => bp j (by omega))
  have bw : ∀ j : Nat, (j : Int) < n → 0 ≤ W 97 (3 * j + 2) * W 111 j ∧ W 97 (3 * j + 2) * W 111 j ≤ 1539 := fun j hj' => pm_mulb (by have := bh j hj'; omega) (jf j hj').1 (bh j hj').2 (jf j hj').2 (by decide)
  have bw2 : ∀ j : Nat, (j : Int) < n → 0 ≤ W 97 (3 * j + 2) * W 111 j ∧ W 97 (3 * j + 2) * W 111 j ≤ 1000000 := fun j hj' => by
    have q := bw j hj'
    omega
  have bWS := wk_S_b (g := fun j => W 97 (3 * j + 2) * W 111 j) (M := 1539) (by decide) n.toNat (fun j hj' => bw j (by omega))
  have VV : wy n (W 110) W X → X 90 51 ≤ 341067024 ∧ (X 90 51 ≤ 2368521 ∨ ∀ j : Nat, (j : Int) < n → X 112 j = od n W j) := fun m => by
    have q := m.2.2
    exact ⟨by omega, Or.inl (by omega)⟩
  have FF : wy n (fun j => W 97 (3 * j + 2) * W 111 j) W X → X 90 51 ≤ 341067024 ∧ (X 90 51 ≤ 2368521 ∨ ∀ j : Nat, (j : Int) < n → X 112 j = od n W j) := fun m => by
    have q := m.2.2
    exact ⟨by omega, Or.inl (by omega)⟩
  have OO : ((wk_S (fun j => ((W 90 47 * n) * W 110 j) * W 111 j + ((16 - W 90 47) * W 90 45) * W 110 j) n.toNat ≠ 0 → wy n (fun j => ((W 90 47 * n) * W 110 j) * W 111 j + ((16 - W 90 47) * W 90 45) * W 110 j) W X) ∧ (wk_S (fun j => ((W 90 47 * n) * W 110 j) * W 111 j + ((16 - W 90 47) * W 90 45) * W 110 j) n.toNat = 0 → wy n (W 110) W X)) → X 90 51 ≤ 341067024 ∧ (X 90 51 ≤ 2368521 ∨ ∀ j : Nat, (j : Int) < n → X 112 j = od n W j) := fun m => by
    by_cases z : wk_S (fun j => ((W 90 47 * n) * W 110 j) * W 111 j + ((16 - W 90 47) * W 90 45) * W 110 j) n.toNat = 0
    · exact VV (m.2 z)
    · have k := m.1 z
      refine ⟨?_, Or.inr k.2.1⟩
      have lin := wk_S_lin (W 110) (W 111) (W 90 47 * n) ((16 - W 90 47) * W 90 45) n.toNat
      rw [← a4, ← a6] at lin
      rw [k.2.2, lin]
      obtain ⟨t, ht⟩ : ∃ t, W 90 47 = t := ⟨_, rfl⟩
      rw [ht] at t2 t3 ⊢
      have c1 := pm_mulb (x := t * n) (y := W 90 46) (b := t * 9) (d := 2368521) (m := t * 9 * 2368521) (Int.mul_nonneg t2 N0) (by omega) (Int.mul_le_mul_of_nonneg_left N9 t2) (by omega) rfl
      have c2 := pm_mulb (x := W 90 45) (y := W 90 44) (b := 1539) (d := 13851) (m := 21316689) (by omega) (by omega) (by omega) (by omega) (by decide)
      have c3 := pm_mulb (x := 16 - t) (y := W 90 45 * W 90 44) (b := 16 - t) (d := 21316689) (m := (16 - t) * 21316689) (by omega) c2.1 (Int.le_refl _) c2.2 rfl
      rw [← Int.mul_assoc] at c3
      omega
  have SS : ∀ s : Int, wy n (fun j => if (j : Int) = s then 1 else 0) W X → X 90 51 ≤ 341067024 ∧ (X 90 51 ≤ 2368521 ∨ ∀ j : Nat, (j : Int) < n → X 112 j = od n W j) := fun s m => by
    have q := m.2.2
    have b := wk_S_b (g := fun j : Nat => if (j : Int) = s then 1 else 0) (M := 1) (by decide) n.toNat (fun j hj' => by split <;> decide)
    exact ⟨by omega, Or.inl (by omega)⟩
  rcases (show a = 0 ∨ a = 1 ∨ a = 2 ∨ a = 3 ∨ a = 4 ∨ a = 5 ∨ a = 6 by omega) with q | q | q | q | q | q | q
  · exact VV (rw_w0 q hwn N1 hX)
  · exact FF (rw_w1 q hwn N1 hX)
  · have m := rw_w2 q hwn N1 N9 rfl bw2 ja hX
    by_cases c0 : wk_M (W 110) n.toNat * wk_S (fun j => W 97 (3 * j + 2) * W 111 j) n.toNat < wk_M (fun j => W 97 (3 * j + 2) * W 111 j) n.toNat * W 90 44
    · exact FF (m.1 c0)
    · exact VV (m.2 (by omega))
  · have m := rw_w3 q hwn N0 hX
    by_cases c0 : W 90 46 = 0
    · exact VV (m.2 c0)
    · have k := m.1 c0
      have q2 := k.2.2
      exact ⟨by omega, Or.inl (by omega)⟩
  · exact OO (rw_w4 q hwn N1 rfl rfl hX)
  · rcases rw_w5 q hwn N0 rfl rfl rfl rfl hX with ⟨-, m⟩ | ⟨k, -, -, -, -, m⟩
    · exact OO m
    · exact SS _ m
  · obtain ⟨pl, hpl⟩ : ∃ pl, (W 97 (3 * W 90 48).toNat * W 90 43 + W 97 (3 * W 90 49).toNat * W 90 42) / (W 90 42 + W 90 43) = pl := ⟨_, rfl⟩
    have i1 : (3 * W 90 48).toNat = 3 * (W 90 48).toNat := by omega
    have i2 : (3 * W 90 49).toNat = 3 * (W 90 49).toNat := by omega
    have i3 : ((3 * W 90 48) + 1).toNat = 3 * (W 90 48).toNat + 1 := by omega
    have c1 := b97 (3 * (W 90 48).toNat) (by omega)
    have c2 := b97 (3 * (W 90 48).toNat + 1) (by omega)
    have c3 := b97 (3 * (W 90 49).toNat) (by omega)
    have bpl : 0 ≤ pl ∧ pl ≤ 99 := by
      rw [← hpl, i1, i2]
      have q1 := pm_mulb (x := W 97 (3 * (W 90 48).toNat)) (y := W 90 43) (b := 99) (d := W 90 43) (m := 99 * W 90 43) c1.1 (by omega) c1.2 (Int.le_refl _) rfl
      have q2 := pm_mulb (x := W 97 (3 * (W 90 49).toNat)) (y := W 90 42) (b := 99) (d := W 90 42) (m := 99 * W 90 42) c3.1 (by omega) c3.2 (Int.le_refl _) rfl
      exact ⟨Int.ediv_nonneg (by omega) (by omega), Int.ediv_le_of_le_mul (by omega) (by omega)⟩
    have wa : ∀ d : Int, -99 ≤ d → d ≤ 99 → 0 ≤ wk_a d ∧ wk_a d ≤ 99 := fun d d1 d2 => by
      unfold wk_a
      split <;> omega
    have bD : ∀ j : Nat, (j : Int) < n → 0 ≤ wk_a (W 97 (3 * j) - pl) + wk_a (W 97 (3 * j + 1) - W 97 ((3 * W 90 48) + 1).toNat) ∧ wk_a (W 97 (3 * j) - pl) + wk_a (W 97 (3 * j + 1) - W 97 ((3 * W 90 48) + 1).toNat) < 1000 := fun j hj' => by
      rw [i3]
      have d1 := b97 (3 * j) (by omega)
      have d2 := b97 (3 * j + 1) (by omega)
      have q1 := wa (W 97 (3 * j) - pl) (by omega) (by omega)
      have q2 := wa (W 97 (3 * j + 1) - W 97 (3 * (W 90 48).toNat + 1)) (by omega) (by omega)
      omega
    exact SS _ (rw_w6 q hwn N1 rfl rfl rfl rfl hpl bD hX)
/-- three digits -/
theorem dg_q {a b q r : Int} (hb : 0 < b) (e : r + b * q = a) (h0 : 0 ≤ r) (h1 : r < b) : a / b = q := ((Int.ediv_emod_unique hb).mpr ⟨e, h0, h1⟩).1
theorem dg_1 {x m : Int} (hx : 0 ≤ x ∧ x < m) : 0 ≤ 10 * x / m ∧ 10 * x / m ≤ 9 ∧ 0 ≤ 10 * x % m ∧ 10 * x % m < m ∧ 10 * x % m + m * (10 * x / m) = 10 * x := by
  have hm : 0 < m := by omega
  refine ⟨Int.ediv_nonneg (by omega) (by omega), ?_, Int.emod_nonneg _ (by omega), Int.emod_lt_of_pos _ hm, Int.emod_add_mul_ediv _ _⟩
  have := Int.ediv_lt_of_lt_mul (a := 10 * x) (b := 10) hm (by omega)
  omega
theorem dg_3 {O : Type} {d : O} {x m : Int} {fin : Int → O} {B : Int × Int × Int → (Int × Int × Int) ⊕ O} (hx : 0 ≤ x ∧ x < m) (hm : m ≤ 900000000000000000) (hB : ∀ a b c : Int, B (a, b, c) = if 3 ≤ c then .inr (fin b) else .inl (pm_w64 (Int.tmod (pm_w64 (a * 10)) m), pm_w32 (pm_w32 (10 * b) + pm_w32 (pm_w64 (Int.tdiv (pm_w64 (a * 10)) m))), c + 1)) : pf_val d B (x, 0, 0) = fin (1000 * x / m) := by
  have st : ∀ a b c : Int, 0 ≤ a → a < m → 0 ≤ b → b ≤ 99 → ¬ 3 ≤ c → B (a, b, c) = .inl (10 * a % m, 10 * b + 10 * a / m, c + 1) := fun a b c a0 a1 b0 b1 hc => by
    obtain ⟨d1, d2, d3, d4, -⟩ := dg_1 ⟨a0, a1⟩
    have q := (hB a b c).trans (if_neg hc)
    rw [pm_w64_id (x := a * 10) ⟨by omega, by omega⟩, Int.mul_comm a 10, Int.tmod_eq_emod_of_nonneg (by omega), Int.tdiv_eq_ediv_of_nonneg (by omega), pm_w64_id (x := 10 * a % m) ⟨by omega, by omega⟩, pm_w64_id (x := 10 * a / m) ⟨by omega, by omega⟩, pm_w32_id (x := 10 * a / m) ⟨by omega, by omega⟩, pm_w32_id (x := 10 * b) ⟨by omega, by omega⟩, pm_w32_id ⟨by omega, by omega⟩] at q
    exact q
  obtain ⟨d1, d2, d3, d4, d5⟩ := dg_1 hx
  have s1 := st x 0 0 hx.1 hx.2 (by decide) (by decide) (by decide)
  obtain ⟨r1, hr1⟩ : ∃ r, 10 * x % m = r := ⟨_, rfl⟩
  obtain ⟨k1, hk1⟩ : ∃ k, 10 * x / m = k := ⟨_, rfl⟩
  rw [hr1] at d3 d4 d5 s1
  rw [hk1] at d1 d2 d5 s1
  have s2 := st r1 (10 * 0 + k1) (0 + 1) d3 d4 (by omega) (by omega) (by decide)
  obtain ⟨f1, f2, f3, f4, f5⟩ := dg_1 (x := r1) (m := m) ⟨d3, d4⟩
  obtain ⟨r2, hr2⟩ : ∃ r, 10 * r1 % m = r := ⟨_, rfl⟩
  obtain ⟨k2, hk2⟩ : ∃ k, 10 * r1 / m = k := ⟨_, rfl⟩
  rw [hr2] at f3 f4 f5 s2
  rw [hk2] at f1 f2 f5 s2
  have s3 := st r2 (10 * (10 * 0 + k1) + k2) (0 + 1 + 1) f3 f4 (by omega) (by omega) (by decide)
  obtain ⟨g1, g2, g3, g4, g5⟩ := dg_1 (x := r2) (m := m) ⟨f3, f4⟩
  obtain ⟨r3, hr3⟩ : ∃ r, 10 * r2 % m = r := ⟨_, rfl⟩
  obtain ⟨k3, hk3⟩ : ∃ k, 10 * r2 / m = k := ⟨_, rfl⟩
  rw [hr3] at g3 g4 g5 s3
  rw [hk3] at g1 g2 g5 s3
  have s4 := (hB r3 (10 * (10 * (10 * 0 + k1) + k2) + k3) (0 + 1 + 1 + 1)).trans (if_pos (by decide))
  rw [pf_val_inl s1, pf_val_inl s2, pf_val_inl s3, pf_val_inr s4]
  have key : 1000 * x / m = 100 * k1 + 10 * k2 + k3 := by
    refine dg_q (r := r3) (by omega) ?_ g3 g4
    rw [Int.mul_add, Int.mul_add, Int.mul_left_comm m 100 k1, Int.mul_left_comm m 10 k2]
    omega
  rw [key]
  congr 1
  omega
