/-! WEIGHTS: how far two laws part, on both sides -/
theorem wr.w13 {c w u : Nat} {n : Int} {V W : pm_M} (h : wr c n V W) (hw : w = 76 ∨ w = 77) : wr c n (pm_up (pm_up V 73 13 (w : Int)) 73 15 (u : Int)) W := by
  obtain ⟨⟨hc, h73, hcn, hwn, h13⟩, ⟨hS, hb⟩, v, s, t, a, hj⟩ := h
  have vc : ∀ k : Nat, k ≠ 73 → pm_up (pm_up V 73 13 (w : Int)) 73 15 (u : Int) k = V k := fun k q => funext fun i => (pm_up_c q).trans (pm_up_c q)
  have vf : ∀ i : Nat, i ≠ 13 → i ≠ 15 → pm_up (pm_up V 73 13 (w : Int)) 73 15 (u : Int) 73 i = V 73 i := fun i q1 q2 => (pm_up_i q2).trans (pm_up_i q1)
  have v13 : pm_up (pm_up V 73 13 (w : Int)) 73 15 (u : Int) 73 13 = (w : Int) := (pm_up_i (by decide)).trans pm_up_s
  unfold wr
  rw [vf 0 (by decide) (by decide), vc c (by omega), v13, vf 1 (by decide) (by decide), vf 2 (by decide) (by decide), vf 5 (by decide) (by decide), vf 6 (by decide) (by decide), vf 7 (by decide) (by decide), vf 10 (by decide) (by decide), vf 11 (by decide) (by decide), vf 12 (by decide) (by decide), vc 74 (by decide), vc 75 (by decide)]
  exact ⟨⟨hc, h73, hcn, hwn, by omega⟩, ⟨hS.eq (vc c (by omega)) (vc (c + 1) (by omega)) (vc (c + 2) (by omega)) (vc (c + 3) (by omega)) (vc (c + 4) (by omega)) (vc (c + 5) (by omega)) rfl rfl rfl rfl rfl rfl rfl, hb⟩, v, s, t, a, hj⟩
theorem wr.R115 {c : Nat} {n : Int} {V W W' : pm_M} (h : wr c n V W) (e : ∀ k i, k ≠ 115 → W' k i = W k i) : wr c n V W' := by
  obtain ⟨⟨hc, h73, hcn, hwn, h13⟩, ⟨hS, hb⟩, v, s, t, a, hj⟩ := h
  have ec : ∀ k : Nat, k ≠ 115 → W' k = W k := fun k q => funext fun i => e k i q
  have hb' : wb W' := by
    unfold wb at hb ⊢
    rw [ec 90 (by decide), ec 97 (by decide), ec 98 (by decide), ec 100 (by decide)]
    exact hb
  unfold wr
  rw [ec 90 (by decide), ec 110 (by decide), ec 111 (by decide)]
  refine ⟨⟨hc, h73, hcn, hwn, h13⟩, ⟨hS.eq rfl rfl rfl rfl rfl rfl ?_ ?_ ?_ ?_ (ec 97 (by decide)) (ec 98 (by decide)) (ec 99 (by decide)), hb'⟩, v, s, t, a, hj⟩
  · exact e 90 16 (by decide)
  · exact e 90 19 (by decide)
  · exact e 90 20 (by decide)
  · exact e 90 21 (by decide)
theorem wf_add {O : Type} {d : O} {n M : Int} {G : Nat → Int} {fin : Int → O} {B : Int × Int → (Int × Int) ⊕ O} (hn : 0 ≤ n ∧ n ≤ 9) (hM : 0 ≤ M) (hG : ∀ j : Nat, (j : Int) < n → 0 ≤ G j ∧ G j ≤ M) (hB : ∀ x1 x3 : Int, 0 ≤ x3 → 0 ≤ x1 ∧ x1 ≤ 9 * M → (n ≤ x3 → x1 = wk_S G n.toNat → B (x1, x3) = .inr (fin x1)) ∧ (x3 < n → B (x1, x3) = .inl (x1 + G x3.toNat, x3 + 1))) : pf_val d B (0, 0) = fin (wk_S G n.toNat) := by
  refine pf_val_ind2 (d := d) (b := B) (fun s => 0 ≤ s.2 ∧ s.2 ≤ n ∧ s.1 = wk_S G s.2.toNat) (fun o => o = fin (wk_S G n.toNat)) (fun s => (n - s.2).toNat) ?_ (0, 0) ⟨Int.le_refl _, hn.1, rfl⟩
  rintro ⟨x1, x3⟩ ⟨p0, p1, p2⟩
  dsimp only at p0 p1 p2
  have b := wk_S_b (g := G) hM x3.toNat (fun j hj => hG j (by omega))
  rw [← p2] at b
  have b9 : (x3.toNat : Int) * M ≤ 9 * M := Int.mul_le_mul_of_nonneg_right (by omega) hM
  obtain ⟨b1, b2⟩ := hB x1 x3 p0 ⟨b.1, by omega⟩
  by_cases c : n ≤ x3
  · have hx : x3 = n := by omega
    subst hx
    exact Or.inr ⟨_, b1 c p2, by rw [p2]⟩
  · refine Or.inl ⟨_, b2 (by omega), ⟨by dsimp only; omega, by dsimp only; omega, ?_⟩, by dsimp only; omega⟩
    dsimp only
    rw [p2, show (x3 + 1).toNat = x3.toNat + 1 by omega]
    rfl
theorem of_val2 {V : pm_M} {p t : Int} (hp : 0 ≤ p ∧ 1000 * p ≤ 9000000000000000000) (ht : 1 ≤ t) : F_X11_ofThousand p t V = (pm_w32 (pm_w64 (Int.tdiv (1000 * p) t)), V) := by
  have e := F_X11_ofThousand_eq p t V
  simp only [pf_let] at e
  rw [if_pos (pm_cmp_gt0.mpr (by omega)), pm_w64_id (x := p * 1000) ⟨by omega, by omega⟩, Int.mul_comm p 1000] at e
  exact e
theorem wk_S_lin2 (a b : Nat → Int) (p q : Int) : ∀ n : Nat, wk_S (fun j => a j * p + b j * q) n = wk_S a n * p + wk_S b n * q := by
  intro n
  induction n with
  | zero => show (0 : Int) = 0 * p + 0 * q; rw [Int.zero_mul, Int.zero_mul]; rfl
  | succ n ih =>
    show wk_S (fun j => a j * p + b j * q) n + (a n * p + b n * q) = (wk_S a n + a n) * p + (wk_S b n + b n) * q
    rw [ih, Int.add_mul, Int.add_mul]
    omega
theorem wk_a_b {x y : Int} (hx : 0 ≤ x) (hy : 0 ≤ y) : 0 ≤ wk_a (x - y) ∧ wk_a (x - y) ≤ x + y := by
  unfold wk_a
  split <;> omega
/-- the numbers behind it -/
def pt_G (r1 r2 : Nat → Int) (T1 T2 : Int) (j : Nat) : Int := wk_a (r1 j * T2 - r2 j * T1)
theorem pt_num {r1 r2 : Nat → Int} {T1 T2 n : Int} (hn : 1 ≤ n ∧ n ≤ 9) (h1 : ∀ j : Nat, (j : Int) < n → 0 ≤ r1 j ∧ r1 j ≤ 80000000) (h2 : ∀ j : Nat, (j : Int) < n → 0 ≤ r2 j ∧ r2 j ≤ 80000000) (e1 : T1 = wk_S r1 n.toNat) (e2 : T2 = wk_S r2 n.toNat) (b1 : 1 ≤ T1 ∧ T1 ≤ 341067024) (b2 : 1 ≤ T2 ∧ T2 ≤ 341067024) (hs : (T1 ≤ 2368521 ∨ T2 ≤ 2368521) ∨ ∀ j : Nat, (j : Int) < n → r1 j = r2 j) : (1 ≤ (2 * T1) * T2 ∧ (2 * T1) * T2 ≤ 300000000000000000) ∧ (0 ≤ wk_S (pt_G r1 r2 T1 T2) n.toNat ∧ wk_S (pt_G r1 r2 T1 T2) n.toNat ≤ (2 * T1) * T2 ∧ 1000 * wk_S (pt_G r1 r2 T1 T2) n.toNat ≤ 9000000000000000000) ∧ ∀ j : Nat, (j : Int) < n → 0 ≤ pt_G r1 r2 T1 T2 j ∧ pt_G r1 r2 T1 T2 j ≤ 60000000000000000 := by
  have p12 := pm_mulb (x := 2 * T1) (y := T2) (b := 682134048) (d := 341067024) (m := 232653429720433152) (by omega) (by omega) (by omega) b2.2 (by decide)
  have pos : 1 ≤ (2 * T1) * T2 := pm_mul1 (by omega) b2.1
  have GB : ∀ j : Nat, (j : Int) < n → 0 ≤ pt_G r1 r2 T1 T2 j ∧ pt_G r1 r2 T1 T2 j ≤ r1 j * T2 + r2 j * T1 ∧ pt_G r1 r2 T1 T2 j ≤ 60000000000000000 := fun j hj => by
    have m1 := pm_mulb (x := r1 j) (y := T2) (b := 80000000) (d := 341067024) (m := 27285361920000000) (h1 j hj).1 (by omega) (h1 j hj).2 b2.2 (by decide)
    have m2 := pm_mulb (x := r2 j) (y := T1) (b := 80000000) (d := 341067024) (m := 27285361920000000) (h2 j hj).1 (by omega) (h2 j hj).2 b1.2 (by decide)
    have w := wk_a_b m1.1 m2.1
    unfold pt_G
    omega
  have S0 := wk_S_b (g := pt_G r1 r2 T1 T2) (M := 60000000000000000) (by decide) n.toNat (fun j hj => ⟨(GB j (by omega)).1, (GB j (by omega)).2.2⟩)
  have S1 : wk_S (pt_G r1 r2 T1 T2) n.toNat ≤ (2 * T1) * T2 := by
    have q := wk_S_le (g := pt_G r1 r2 T1 T2) (h := fun j => r1 j * T2 + r2 j * T1) n.toNat (fun j hj => (GB j (by omega)).2.1)
    rw [wk_S_lin2, ← e1, ← e2, Int.mul_comm T2 T1] at q
    rw [Int.mul_assoc]
    omega
  refine ⟨⟨pos, by omega⟩, ⟨S0.1, S1, ?_⟩, fun j hj => ⟨(GB j hj).1, (GB j hj).2.2⟩⟩
  rcases hs with q | q
  · have key : T1 * T2 ≤ 807824408751504 := by
      rcases q with q | q
      · exact (pm_mulb (x := T1) (y := T2) (b := 2368521) (d := 341067024) (m := 807824408751504) (by omega) (by omega) q b2.2 (by decide)).2
      · exact (pm_mulb (x := T1) (y := T2) (b := 341067024) (d := 2368521) (m := 807824408751504) (by omega) (by omega) b1.2 q (by decide)).2
    rw [Int.mul_assoc] at S1
    omega
  · have e3 : T1 = T2 := by rw [e1, e2]; exact wk_S_eq _ fun j hj => q j (by omega)
    have z : wk_S (pt_G r1 r2 T1 T2) n.toNat = wk_S (fun _ => 0) n.toNat := wk_S_eq _ fun j hj => by
      unfold pt_G wk_a
      rw [q j (by omega), e3, Int.sub_self]
      exact if_pos (Int.le_refl _)
    have z0 : ∀ k : Nat, wk_S (fun _ => 0) k = 0 := fun k => by
      induction k with
      | zero => rfl
      | succ k ih => show wk_S (fun _ => 0) k + 0 = 0; rw [ih]; rfl
    rw [z, z0]
    decide
theorem pt_val {S m : Int} (h0 : 0 ≤ S ∧ S ≤ m) (h1 : 1 ≤ m) (h2 : 1000 * S ≤ 9000000000000000000) : pm_w32 (pm_w64 (Int.tdiv (1000 * S) m)) = if S = m then 1000 else 1000 * S / m := by
  have a : 0 ≤ 1000 * S / m := Int.ediv_nonneg (by omega) (by omega)
  have b : 1000 * S / m ≤ 1000 := Int.ediv_le_of_le_mul (by omega) (by omega)
  rw [Int.tdiv_eq_ediv_of_nonneg (by omega), pm_w64_id ⟨by omega, by omega⟩, pm_w32_id ⟨by omega, by omega⟩]
  by_cases q : S = m
  · rw [if_pos q, q]
    exact Int.mul_ediv_cancel _ (by omega)
  · rw [if_neg q]
/-- the class's loop -/
theorem pt_C {d : Int × pm_M} {n T1 T2 : Int} {r1 r2 : Nat → Int} {V : pm_M} {B : Int × Int → (Int × Int) ⊕ (Int × pm_M)} (hn : 1 ≤ n ∧ n ≤ 9) (h1 : ∀ j : Nat, (j : Int) < n → 0 ≤ r1 j ∧ r1 j ≤ 80000000) (h2 : ∀ j : Nat, (j : Int) < n → 0 ≤ r2 j ∧ r2 j ≤ 80000000) (e1 : T1 = wk_S r1 n.toNat) (e2 : T2 = wk_S r2 n.toNat) (b1 : 1 ≤ T1 ∧ T1 ≤ 341067024) (b2 : 1 ≤ T2 ∧ T2 ≤ 341067024) (hs : (T1 ≤ 2368521 ∨ T2 ≤ 2368521) ∨ ∀ j : Nat, (j : Int) < n → r1 j = r2 j) (hB : ∀ x1 x3 : Int, 0 ≤ x3 → (n ≤ x3 → B (x1, x3) = pf_call (F_X11_ofThousand x1 (pm_w64 (pm_w64 (2 * T2) * T1)) V) fun y _ => .inr (y, V)) ∧ (x3 < n → B (x1, x3) = .inl (pm_w64 (x1 + pm_abL (pm_w64 (pm_w64 (r2 x3.toNat * T1) - pm_w64 (r1 x3.toNat * T2)))), x3 + 1))) : pf_val d B (0, 0) = ((if wk_S (pt_G r1 r2 T1 T2) n.toNat = (2 * T1) * T2 then 1000 else 1000 * wk_S (pt_G r1 r2 T1 T2) n.toNat / ((2 * T1) * T2)), V) := by
  obtain ⟨c1, c2, c3⟩ := pt_num hn h1 h2 e1 e2 b1 b2 hs
  have key := wf_add (d := d) (n := n) (M := 60000000000000000) (G := pt_G r1 r2 T1 T2) (fin := fun x => (pm_w32 (pm_w64 (Int.tdiv (1000 * x) ((2 * T1) * T2))), V)) (B := B) ⟨by omega, hn.2⟩ (by decide) c3 (fun x1 x3 a0 a1 => by
    obtain ⟨q1, q2⟩ := hB x1 x3 a0
    refine ⟨fun z ex => ?_, fun z => ?_⟩
    · have r := q1 z
      have em : pm_w64 (pm_w64 (2 * T2) * T1) = (2 * T1) * T2 := by
        have e4 : 2 * T2 * T1 = 2 * T1 * T2 := by rw [Int.mul_assoc, Int.mul_comm T2 T1, ← Int.mul_assoc]
        rw [pm_w64_id (x := 2 * T2) ⟨by omega, by omega⟩, e4]
        exact pm_w64_id ⟨by omega, by omega⟩
      rw [em] at r
      exact r.trans (pf_call_eq (of_val2 (by rw [ex]; exact ⟨c2.1, c2.2.2⟩) c1.1))
    · have r := q2 z
      have j1 := h1 x3.toNat (by omega)
      have j2 := h2 x3.toNat (by omega)
      have m1 := pm_mulb (x := r1 x3.toNat) (y := T2) (b := 80000000) (d := 341067024) (m := 27285361920000000) j1.1 (by omega) j1.2 b2.2 (by decide)
      have m2 := pm_mulb (x := r2 x3.toNat) (y := T1) (b := 80000000) (d := 341067024) (m := 27285361920000000) j2.1 (by omega) j2.2 b1.2 (by decide)
      have eg : pm_abL (r2 x3.toNat * T1 - r1 x3.toNat * T2) = pt_G r1 r2 T1 T2 x3.toNat := by
        unfold pt_G wk_a pm_abL
        by_cases g : 0 < r2 x3.toNat * T1 - r1 x3.toNat * T2
        · rw [if_pos g, if_neg (by omega)]
          omega
        · rw [if_neg g, if_pos (by omega), pm_w64_id ⟨by omega, by omega⟩]
          omega
      have bg := c3 x3.toNat (by omega)
      rw [pm_w64_id (x := r2 x3.toNat * T1) ⟨by omega, by omega⟩, pm_w64_id (x := r1 x3.toNat * T2) ⟨by omega, by omega⟩, pm_w64_id (x := r2 x3.toNat * T1 - r1 x3.toNat * T2) ⟨by omega, by omega⟩, eg, pm_w64_id ⟨by omega, by omega⟩] at r
      exact r)
  rw [key, pt_val ⟨c2.1, c2.2.1⟩ c1.1 c2.2.2]
/-- the reference's loop -/
theorem pt_R {O : Type} {d : O} {n T1 T2 : Int} {r1 r2 : Nat → Int} {fin : Int → O} {B : Int × Int → (Int × Int) ⊕ O} (hn : 1 ≤ n ∧ n ≤ 9) (h1 : ∀ j : Nat, (j : Int) < n → 0 ≤ r1 j ∧ r1 j ≤ 80000000) (h2 : ∀ j : Nat, (j : Int) < n → 0 ≤ r2 j ∧ r2 j ≤ 80000000) (e1 : T1 = wk_S r1 n.toNat) (e2 : T2 = wk_S r2 n.toNat) (b1 : 1 ≤ T1 ∧ T1 ≤ 341067024) (b2 : 1 ≤ T2 ∧ T2 ≤ 341067024) (hs : (T1 ≤ 2368521 ∨ T2 ≤ 2368521) ∨ ∀ j : Nat, (j : Int) < n → r1 j = r2 j) (hB : ∀ x1 x3 : Int, 0 ≤ x3 → (n ≤ x3 → (x1 = (2 * T1) * T2 → B (x1, x3) = .inr (fin 1000)) ∧ (x1 ≠ (2 * T1) * T2 → 0 ≤ x1 → x1 < (2 * T1) * T2 → B (x1, x3) = .inr (fin (1000 * x1 / ((2 * T1) * T2))))) ∧ (x3 < n → B (x1, x3) = .inl (x1 + wk_a (r1 x3.toNat * T2 - r2 x3.toNat * T1), x3 + 1))) : pf_val d B (0, 0) = fin (if wk_S (pt_G r1 r2 T1 T2) n.toNat = (2 * T1) * T2 then 1000 else 1000 * wk_S (pt_G r1 r2 T1 T2) n.toNat / ((2 * T1) * T2)) := by
  obtain ⟨c1, c2, c3⟩ := pt_num hn h1 h2 e1 e2 b1 b2 hs
  exact wf_add (d := d) (n := n) (M := 60000000000000000) (G := pt_G r1 r2 T1 T2) (fin := fun x => fin (if x = (2 * T1) * T2 then 1000 else 1000 * x / ((2 * T1) * T2))) (B := B) ⟨by omega, hn.2⟩ (by decide) c3 (fun x1 x3 a0 a1 => by
    obtain ⟨q1, q2⟩ := hB x1 x3 a0
    refine ⟨fun z ex => ?_, fun z => q2 z⟩
    obtain ⟨r1', r2'⟩ := q1 z
    by_cases g : x1 = (2 * T1) * T2
    · rw [if_pos g]
      exact r1' g
    · rw [if_neg g]
      exact r2' g (by omega) (by omega))
