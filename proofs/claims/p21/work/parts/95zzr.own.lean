/-! OWN SPANS: the reference's search -/
def rr (p : Nat) (P : Int) (V W Y : pm_M) : Prop := (∃ A B, oq p A B P V Y) ∧ Y 101 = W 101 ∧ Y 90 25 = W 90 25
theorem rr.fr {p : Nat} {P : Int} {V W Y X : pm_M} (h : rr p P V W Y) (g : vR Y X) : rr p P V W X := by
  obtain ⟨⟨A, B, q⟩, h1, h2⟩ := h
  exact ⟨⟨A, B, q.fr vC.rf g⟩, (g.c (by decide)).trans h1, (g.2 25 (by omega)).trans h2⟩
theorem far_v (x : Int) (V : pm_M) : F_X12_far x V = ((x.natAbs : Int), V) := by
  have e := F_X12_far_eq x V
  by_cases c : 0 ≤ x
  · exact (e.trans (if_pos c)).trans (Prod.ext (by dsimp only; omega) rfl)
  · exact (e.trans (if_neg c)).trans (Prod.ext (by dsimp only; omega) rfl)
/-- the two changes put -/
def pab (p : Nat) (a b : Int) (W : pm_M) : pm_M := pm_up (pm_up W 100 (4 * p) a) 100 (4 * p + 1) b
/-- what the reference has tried ahead of a, b -/
def rv (p s : Nat) (P : Int) (f g : Int → Int → Nat) (V W : pm_M) (bA bB a b : Int) (Y : pm_M) : Prop := rr p P V W Y ∧ ((bA = -2147483648 ∧ a = -12 ∧ b = -12) ∨ (sgr bA bB ∧ (bA < a ∨ (bA = a ∧ bB < b)) ∧ (∃ n, rk Y 2 n (f bA bB)) ∧ (∃ m, rk Y 3 m (g bA bB)) ∧ ∀ x y, sgr x y → (x < a ∨ (x = a ∧ y < b)) → bt f g bA bB x y))
section SPR
variable {V W : pm_M} {p s : Nat} {P : Int} {f g : Int → Int → Nat}
/-- one that is tried -/
theorem rv_step (hR : ∀ (a b : Int) (Y Y1 : pm_M) (z : Int), sgr a b → rr p P V W Y → F_X12_fits_d0 4 (p : Int) (pab p a b Y) = (z, Y1) → (∃ n, rk Y1 0 n (f a b)) ∧ (∃ m, rk Y1 1 m (g a b)) ∧ rr p P V W Y1 ∧ vP (fun r => r < 2) Y Y1) (hb : ∀ a b, sgr a b → f a b ≤ px s ∧ g a b ≤ px s ∧ 0 < g a b) (hs : s ≤ 60) {bA bB a b : Int} {Y : pm_M} (hab : sgr a b) (h : rv p s P f g V W bA bB a b Y) {E : (Int × Int × Int × pm_M) ⊕ ((Int × Int × Int × pm_M) ⊕ (Int × pm_M))} (hE : E = (pf_let (pab p a b Y) fun V97 => pf_let (V97 114 0) fun y108 => pf_let (V97 114 1) fun y111 => pf_call (F_X12_fits_d0 4 (p : Int) V97) fun _ V115 => pf_let (V115 114 0) fun y130 => pf_let (V115 114 1) fun y133 => pf_let (V115 114 2) fun y136 => pf_let (V115 114 3) fun y139 => (if ¬ (bA = (-2147483648)) then (pf_call (F_X12_against  V115) fun y150 V144 => pf_let (V144 114 0) fun y165 => pf_let (V144 114 1) fun y168 => pf_let (V144 114 2) fun y171 => pf_let (V144 114 3) fun y174 => (if y150 < 0 then (pf_let (b + 1) fun x178 => (.inl (bA, bB, x178, V144))) else ((if ¬ (y150 = 0) then (pf_call (F_X12_keeps  V144) fun _ V182 => pf_let (V182 114 0) fun y197 => pf_let (V182 114 1) fun y200 => pf_let (V182 114 2) fun y203 => pf_let (V182 114 3) fun y206 => pf_let (b + 1) fun x209 => (.inl (a, b, x209, V182))) else (pf_call (F_X12_far a V144) fun y214 _ => pf_call (F_X12_far b V144) fun y220 _ => pf_call (F_X12_far bA V144) fun y226 _ => pf_call (F_X12_far bB V144) fun y232 _ => pf_let (pm_w32 (y226 + y232)) fun y235 => (if (y214 + y220) < y235 then (pf_call (F_X12_keeps  V144) fun _ V240 => pf_let (V240 114 0) fun y255 => pf_let (V240 114 1) fun y258 => pf_let (V240 114 2) fun y261 => pf_let (V240 114 3) fun y264 => pf_let (b + 1) fun x267 => (.inl (a, b, x267, V240))) else (pf_let (b + 1) fun x269 => (.inl (bA, bB, x269, V144))))))))) else (pf_call (F_X12_keeps  V115) fun _ V274 => pf_let (V274 114 0) fun y289 => pf_let (V274 114 1) fun y292 => pf_let (V274 114 2) fun y295 => pf_let (V274 114 3) fun y298 => pf_let (b + 1) fun x301 => (.inl (a, b, x301, V274)))))) : ∃ A B Y', E = .inl (A, B, b + 1, Y') ∧ rv p s P f g V W A B a (b + 1) Y' := by
  obtain ⟨hr, h⟩ := h
  obtain ⟨z1, Y1, m1⟩ : ∃ z T, F_X12_fits_d0 4 (p : Int) (pab p a b Y) = (z, T) := ⟨_, _, rfl⟩
  obtain ⟨⟨n0, r0⟩, ⟨n1, r1⟩, hr1, hp1⟩ := hR a b Y Y1 z1 hab hr m1
  obtain ⟨b0, b1, b2⟩ := hb a b hab
  have l0 := px_few r0.2 b0 hs
  have l1 := px_few r1.2 b1 hs
  have q := ((((((((hE.trans (pf_let_eq rfl)).trans (pf_let_eq rfl)).trans (pf_let_eq rfl)).trans (pf_call_eq m1)).trans (pf_let_eq rfl)).trans (pf_let_eq rfl)).trans (pf_let_eq rfl)).trans (pf_let_eq rfl))
  rcases h with ⟨hA, ha, hb'⟩ | ⟨hgA, hlt, ⟨n2, r2⟩, ⟨n3, r3⟩, hbt⟩
  · obtain ⟨z2, Y2, m2⟩ : ∃ z T, F_X12_keeps Y1 = (z, T) := ⟨_, _, rfl⟩
    obtain ⟨w2, w3, w4, -⟩ := kp_val r0 r1 (by omega) (by omega) m2
    replace q := ((((((q.trans (if_neg (fun s => s hA))).trans (pf_call_eq m2)).trans (pf_let_eq rfl)).trans (pf_let_eq rfl)).trans (pf_let_eq rfl)).trans (pf_let_eq rfl)).trans (pf_let_eq rfl)
    refine ⟨a, b, Y2, q, hr1.fr w4, Or.inr ⟨hab, Or.inr ⟨rfl, by omega⟩, ⟨n0, w2⟩, ⟨n1, w3⟩, fun x y hxy hx => ?_⟩⟩
    have := hxy.1
    have := hxy.2
    have ex : x = a := by omega
    have ey : y = b := by omega
    rw [ex, ey]
    exact bt.self
  · have hA : ¬ bA = -2147483648 := by
      have := hgA.1
      omega
    obtain ⟨c0, c1, c2⟩ := hb bA bB hgA
    have l2 := px_few r2.2 c0 hs
    have l3 := px_few r3.2 c1 hs
    have s2 : rk Y1 2 n2 (f bA bB) := r2.vp hp1 (by decide) (by omega)
    have s3 : rk Y1 3 n3 (g bA bB) := r3.vp hp1 (by decide) (by omega)
    obtain ⟨z2, Y2, m2⟩ : ∃ z T, F_X12_against Y1 = (z, T) := ⟨_, _, rfl⟩
    obtain ⟨ez, g2, p2⟩ := ag_val r0 r1 s2 s3 (by omega) (by omega) (by omega) (by omega) m2
    replace q := (((((q.trans (if_pos hA)).trans (pf_call_eq m2)).trans (pf_let_eq rfl)).trans (pf_let_eq rfl)).trans (pf_let_eq rfl)).trans (pf_let_eq rfl)
    have t2 : rk Y2 2 n2 (f bA bB) := s2.vp p2 (by decide) (by omega)
    have t3 : rk Y2 3 n3 (g bA bB) := s3.vp p2 (by decide) (by omega)
    obtain ⟨z3, Y3, m3⟩ : ∃ z T, F_X12_keeps Y2 = (z, T) := ⟨_, _, rfl⟩
    obtain ⟨w2, w3, w4, -⟩ := kp_val (r0.vp p2 (by decide) (by omega)) (r1.vp p2 (by decide) (by omega)) (by omega) (by omega) m3
    -- it stays, it is changed
    have stay : bt f g bA bB a b → rv p s P f g V W bA bB a (b + 1) Y2 := fun hn => ⟨hr1.fr g2, Or.inr ⟨hgA, by omega, ⟨n2, t2⟩, ⟨n3, t3⟩, fun x y hxy hx => by
      by_cases e : x = a ∧ y = b
      · rw [e.1, e.2]
        exact hn
      · exact hbt x y hxy (by omega)⟩⟩
    have new : (∀ x y, sgr x y → bt f g bA bB x y → bt f g a b x y) → rv p s P f g V W a b a (b + 1) Y3 := fun hn => ⟨(hr1.fr g2).fr w4, Or.inr ⟨hab, Or.inr ⟨rfl, by omega⟩, ⟨n0, w2⟩, ⟨n1, w3⟩, fun x y hxy hx => by
      by_cases e : x = a ∧ y = b
      · rw [e.1, e.2]
        exact bt.self
      · exact hn x y hxy (hbt x y hxy (by omega))⟩⟩
    by_cases d1 : z2 < 0
    · rw [ez, pm_cmp_lt0] at d1
      have d1' : z2 < 0 := by rw [ez, pm_cmp_lt0]; exact d1
      exact ⟨bA, bB, Y2, (q.trans (if_pos d1')).trans (pf_let_eq rfl), stay (Or.inl (by omega))⟩
    · replace q := q.trans (if_neg d1)
      by_cases d2 : z2 = 0
      · have d3 := d2
        rw [ez, pm_cmp_eq0] at d3
        have w : pm_w32 ((bA.natAbs : Int) + bB.natAbs) = (bA.natAbs : Int) + bB.natAbs := pm_w32_id (by
          have := hgA.1
          have := hgA.2
          exact ⟨by omega, by omega⟩)
        replace q := (((((q.trans (if_neg (fun s => s d2))).trans (pf_call_eq (far_v a Y2))).trans (pf_call_eq (far_v b Y2))).trans (pf_call_eq (far_v bA Y2))).trans (pf_call_eq (far_v bB Y2))).trans (pf_let_eq w)
        by_cases d4 : (a.natAbs : Int) + b.natAbs < (bA.natAbs : Int) + bB.natAbs
        · replace q := ((((((q.trans (if_pos d4)).trans (pf_call_eq m3)).trans (pf_let_eq rfl)).trans (pf_let_eq rfl)).trans (pf_let_eq rfl)).trans (pf_let_eq rfl)).trans (pf_let_eq rfl)
          exact ⟨a, b, Y3, q, new fun x y hxy hx => hx.tie (by omega) (Or.inl (by omega)) b2 c2⟩
        · exact ⟨bA, bB, Y2, (q.trans (if_neg d4)).trans (pf_let_eq rfl), stay (Or.inr ⟨by omega, Or.inr (by unfold lx; omega)⟩)⟩
      · replace q := ((((((q.trans (if_pos d2)).trans (pf_call_eq m3)).trans (pf_let_eq rfl)).trans (pf_let_eq rfl)).trans (pf_let_eq rfl)).trans (pf_let_eq rfl)).trans (pf_let_eq rfl)
        have d3 : 0 < z2 := by omega
        rw [ez, pm_cmp_gt0] at d3
        exact ⟨a, b, Y3, q, new fun x y hxy hx => hx.new (by omega) (hb x y hxy).2.2⟩
end SPR
/-- what person p's answers' chances multiply to with the changes a, b -/
noncomputable def sfn (W : pm_M) (p r : Nat) (a b : Int) : Nat := dg_v 10000 (rd (F_X12_fits_d0 4 (p : Int) (pab p a b W)).2 r) ((F_X12_fits_d0 4 (p : Int) (pab p a b W)).2 114 r).toNat
theorem rk_sfn {W X : pm_M} {z : Int} {p r n v : Nat} {a b : Int} (hX : F_X12_fits_d0 4 (p : Int) (pab p a b W) = (z, X)) (h : rk X r n v) : sfn W p r a b = v := by
  unfold sfn
  rw [hX]
  show dg_v 10000 (rd X r) (X 114 r).toNat = v
  rw [h.1, Int.toNat_natCast]
  exact h.2.2.2.1
theorem oq.ab {p : Nat} {A B P a b : Int} {V W : pm_M} (h : oq p A B P V W) (hp : p < 10) (hab : sgr a b) : oq p a b P V (pab p a b W) := by
  have rg := h.1.2.2.2.2.1.2.2.2.2.2.2.2 p hp
  rw [h.2.2.2] at rg
  have := hab.1
  have := hab.2
  exact h.w (fun k hk => (pm_up_f hk).trans (pm_up_f hk)) (fun j h0 h1 _ => (pm_up_i h1).trans (pm_up_i h0)) ((pm_up_i (by omega)).trans pm_up_s) pm_up_s ((pm_up_i (by omega)).trans ((pm_up_i (by omega)).trans h.2.2.2)) ⟨by omega, by omega⟩ ⟨by omega, by omega⟩ rg.2.2
theorem pab_c {p : Nat} {a b : Int} {W : pm_M} {k : Nat} (h : k ≠ 100) : pab p a b W k = W k := (pm_up_f h).trans (pm_up_f h)
section SPO
variable {V W : pm_M} {p : Nat} {A0 B0 P : Int}
theorem own_F (h : oq p A0 B0 P V W) (hp : p < 10) (t : Nat) (a b : Int) (U U1 : pm_M) (z : Int) (ht : t = 84 ∨ t = 87) (hab : sgr a b) (hC : vC V U) (m1 : F_X11_gatherOdds t (p : Int) a b P U = (z, U1)) : (xc U1 t (gn W (p : Int) (W 90 25).toNat) ∧ xp U1 (t + 1) (gn W (p : Int) (W 90 25).toNat) = sfn W p 0 a b ∧ xp U1 (t + 2) (gn W (p : Int) (W 90 25).toNat) = sfn W p 1 a b ∧ vC U U1 ∧ vK t U U1) ∧ sfn W p 0 a b ≤ px (gn W (p : Int) (W 90 25).toNat) ∧ sfn W p 1 a b ≤ px (gn W (p : Int) (W 90 25).toNat) := by
  obtain ⟨z2, X, m2⟩ : ∃ z T, F_X12_fits_d0 4 (p : Int) (pab p a b W) = (z, T) := ⟨_, _, rfl⟩
  obtain ⟨⟨P1, Q1, g⟩, -, g2, g3, -, -⟩ := ga_own ht ((h.fr hC vR.rf).ab hp hab) m1 m2
  rw [gn_fr (pab_c (by decide)), pab_c (k := 90) (by decide)] at g
  obtain ⟨x1, x2, x3, ⟨n, r0⟩, ⟨m, r1⟩, b0, b1⟩ := g
  rw [rk_sfn m2 r0, rk_sfn m2 r1]
  exact ⟨⟨x1, x2, x3, g2, g3⟩, b0, b1⟩
theorem own_R (h : oq p A0 B0 P V W) (hp : p < 10) (a b : Int) (Y Y1 : pm_M) (z : Int) (hab : sgr a b) (hr : rr p P V W Y) (m2 : F_X12_fits_d0 4 (p : Int) (pab p a b Y) = (z, Y1)) : (∃ n, rk Y1 0 n (sfn W p 0 a b)) ∧ (∃ m, rk Y1 1 m (sfn W p 1 a b)) ∧ rr p P V W Y1 ∧ vP (fun r => r < 2) Y Y1 := by
  obtain ⟨⟨A, B, hq⟩, y1, y2⟩ := hr
  obtain ⟨z1, U1, m1⟩ : ∃ z T, F_X11_gatherOdds 84 (p : Int) a b P V = (z, T) := ⟨_, _, rfl⟩
  have hq2 := hq.ab hp hab
  obtain ⟨⟨P1, Q1, g⟩, -, -, -, g4, g5⟩ := ga_own (Or.inl rfl) hq2 m1 m2
  obtain ⟨⟨x1, x2, x3, -, -⟩, -, -⟩ := own_F h hp 84 a b V U1 z1 (Or.inl rfl) hab vC.rf m1
  rw [gn_fr (W := W) ((pab_c (by decide)).trans y1), pab_c (k := 90) (by decide), y2] at g
  obtain ⟨-, w2, w3, ⟨n, r0⟩, ⟨m, r1⟩, -, -⟩ := g
  rw [← x2, ← x3, w2, w3]
  refine ⟨⟨n, r0⟩, ⟨m, r1⟩, ⟨⟨a, b, hq2.fr vC.rf g4⟩, ((g4.c (by decide)).trans (pab_c (by decide))).trans y1, ((g4.2 25 (by omega)).trans (by rw [pab_c (by decide)])).trans y2⟩, fun r hr => ?_⟩
  obtain ⟨e1, e2⟩ := g5 r hr
  exact ⟨e1.trans (by rw [pab_c (by decide)]), fun i hi => (e2 i hi).trans (by rw [pab_c (by decide)])⟩
theorem own_b (h : oq p A0 B0 P V W) (hp : p < 10) (a b : Int) (hab : sgr a b) : sfn W p 0 a b ≤ px (gn W (p : Int) (W 90 25).toNat) ∧ sfn W p 1 a b ≤ px (gn W (p : Int) (W 90 25).toNat) ∧ 0 < sfn W p 1 a b := by
  obtain ⟨z1, U1, m1⟩ : ∃ z T, F_X11_gatherOdds 84 (p : Int) a b P V = (z, T) := ⟨_, _, rfl⟩
  obtain ⟨⟨x1, x2, x3, -, -⟩, b0, b1⟩ := own_F h hp 84 a b V U1 z1 (Or.inl rfl) hab vC.rf m1
  refine ⟨b0, b1, ?_⟩
  rw [← x3]
  exact fp_pr_p _ fun i hi => by
    have := x1.2.2 i hi
    show 1 ≤ (U1 (84 + 2) i).toNat
    omega
end SPO
