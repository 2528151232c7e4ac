/-! BEST, on both sides -/
def gq (V W : pm_M) : Prop := wq V W ∧ ra V W ∧ rl W ∧ rs W
theorem gq.fr {V W Z X : pm_M} (h : gq V W) (f : vC V Z) (g : vR W X) : gq Z X :=
  ⟨⟨vR.q (vC.q h.1.1 f) g, vR.p (vC.p h.1.2.1 f) g, vR.b h.1.2.2.1 g, by rw [f.r13]; exact h.1.2.2.2⟩, vR.a (vC.a h.2.1 f) g, vR.l h.2.2.1 g, vR.s h.2.2.2 g⟩
theorem ga_best {ch : Nat} (hch : ch = 84 ∨ ch = 87) {a law : Int} (hl : 0 ≤ law ∧ law ≤ 6) {V W Z X : pm_M} {z z' : Int} (h : gq V W) (hZ : F_X11_gather ch law a V = (z, Z)) (hX : F_X12_fits_d0 law a W = (z', X)) : (∃ P Q, gg ch (gn W a (W 90 25).toNat) P Q Z X) ∧ gq Z X ∧ vC V Z ∧ vK ch V Z ∧ vR W X ∧ vP (fun r => r < 2) W X := by
  have e := (hZ.symm.trans (F_X11_gather_eq ch law a V)).trans (pf_let_eq rfl)
  obtain ⟨B, hB, e⟩ := pf_loop e
  refine ga_sim hch (R := gq) (law := law) (a := a) (Tr := fun x T T2 => ∃ z1 z2 T1, F_X11_pose (T 9 x.toNat) (T 10 x.toNat) (T 11 x.toNat) T = (z1, T1) ∧ F_X10_weigh law T1 = (z2, T2)) (fun U Y U' Y' h f g => h.fr f g) (fun U Y h => ⟨h.2.1, h.2.2.2, h.1.1.2.2.2.2.2.1⟩) ?_ (B := B) ?_ ?_ ?_ h e hX
  · intro x U Y hR hx _
    obtain ⟨p3, p4, rY, -⟩ := hR
    have r0 := p4.1 x 0 (by rw [p3.1.2.2.2.2.2.1]; exact hx) (by decide)
    have r1 := p4.1 x 1 (by rw [p3.1.2.2.2.2.2.1]; exact hx) (by decide)
    have r2 := p4.1 x 2 (by rw [p3.1.2.2.2.2.2.1]; exact hx) (by decide)
    rw [Nat.zero_add] at r0 r1 r2
    have s0 : U 9 x = Y 101 (5 * x) := r0
    have s1 : U 10 x = Y 101 (5 * x + 1) := r1
    have s2 : U 11 x = Y 101 (5 * x + 2) := r2
    obtain ⟨⟨l1, l2, l3, l4⟩, l5, l6, -⟩ := rY x hx
    obtain ⟨z1, U1, hV⟩ : ∃ z Z, F_X11_pose (Y 101 (5 * x)) (Y 101 (5 * x + 1)) (Y 101 (5 * x + 2)) U = (z, Z) := ⟨_, _, rfl⟩
    obtain ⟨z3, U2, hZ⟩ : ∃ z Z, F_X10_weigh law U1 = (z, Z) := ⟨_, _, rfl⟩
    refine ⟨U2, ⟨z1, z3, U1, by rw [Int.toNat_natCast, s0, s1, s2]; exact hV, hZ⟩, fun z2 z4 Y1 Y2 hW hX => ?_⟩
    obtain ⟨c', -, k1, k2, k3, k4, -, -⟩ := wz_trial p3 hl l1 l2 l3 l4 l5 l6 hV hW hZ hX
    exact ⟨⟨c', k1⟩, k3, k4⟩
  · intro x T hx
    exact ((congrFun hB (x, T)).trans (pf_let_eq rfl)).trans (if_pos hx)
  · intro x T hx ha
    have q := ((congrFun hB (x, T)).trans (pf_let_eq rfl)).trans (if_neg hx)
    exact (((q.trans (if_neg (fun c => ha (Or.inl c)))).trans (pf_let_eq rfl)).trans (if_pos (fun c => ha (Or.inr c)))).trans (pf_let_eq rfl)
  · intro x T T2 T3 w hx ha ⟨z1, z2, T1, m1, m2⟩ hw h13 hadd
    have q := ((congrFun hB (x, T)).trans (pf_let_eq rfl)).trans (if_neg hx)
    by_cases c : a = -1
    · replace q := (((((q.trans (if_pos c)).trans (pf_let_eq rfl)).trans (pf_let_eq rfl)).trans (pf_let_eq rfl)).trans (pf_call_eq m1)).trans (pf_call_eq m2)
      rcases hw with rfl | rfl
      · have u : T2 73 13 = 76 := h13
        exact (((((q.trans (if_pos u)).trans (pf_let_eq rfl)).trans (pf_let_eq rfl)).trans (pf_let_eq rfl)).trans (pf_call_eq hadd)).trans (pf_let_eq rfl)
      · have u : ¬ T2 73 13 = 76 := by rw [h13]; decide
        exact (((((q.trans (if_neg u)).trans (pf_let_eq rfl)).trans (pf_let_eq rfl)).trans (pf_let_eq rfl)).trans (pf_call_eq hadd)).trans (pf_let_eq rfl)
    · have c2 : T 9 x.toNat / 100 = a := ha.resolve_left c
      replace q := (((((((q.trans (if_neg c)).trans (pf_let_eq rfl)).trans (if_neg (fun s => s c2))).trans (pf_let_eq rfl)).trans (pf_let_eq rfl)).trans (pf_call_eq m1)).trans (pf_call_eq m2))
      rcases hw with rfl | rfl
      · have u : T2 73 13 = 76 := h13
        exact (((((q.trans (if_pos u)).trans (pf_let_eq rfl)).trans (pf_let_eq rfl)).trans (pf_let_eq rfl)).trans (pf_call_eq hadd)).trans (pf_let_eq rfl)
      · have u : ¬ T2 73 13 = 76 := by rw [h13]; decide
        exact (((((q.trans (if_neg u)).trans (pf_let_eq rfl)).trans (pf_let_eq rfl)).trans (pf_let_eq rfl)).trans (pf_call_eq hadd)).trans (pf_let_eq rfl)
theorem nf_isPersonOrAll {V : pm_M} (a1 : Int) : (a1 = -1 ∨ (0 ≤ a1 ∧ a1 < V 4 1) → F_X11_isPersonOrAll a1 V = (1, V)) ∧ (¬ (a1 = -1 ∨ (0 ≤ a1 ∧ a1 < V 4 1)) → F_X11_isPersonOrAll a1 V = (0, V)) := by
  have e := F_X11_isPersonOrAll_eq a1 V
  by_cases c : a1 = -1
  · exact ⟨fun _ => e.trans (if_pos c), fun q => absurd (Or.inl c) q⟩
  · by_cases c2 : 0 ≤ a1 ∧ a1 < V 4 1
    · exact ⟨fun _ => ((e.trans (if_neg c)).trans (pf_call_eq ((nf_isPerson a1).1 c2))).trans (if_neg (by decide)), fun q => absurd (Or.inr c2) q⟩
    · exact ⟨fun q => absurd (q.resolve_left c) c2, fun _ => ((e.trans (if_neg c)).trans (pf_call_eq ((nf_isPerson a1).2 c2))).trans (if_pos rfl)⟩
/-- one after another tried, each held against what is kept: R what holds between the sides -/
theorem lo_sim {R : pm_M → pm_M → Prop} (Rfr : ∀ U Y U' Y', R U Y → vC U U' → vR Y Y' → R U' Y') {M n0 : Int} (hM : 1 ≤ M) (hn0 : n0 < 0) {s : Nat} {G : Nat → Int → pm_M → Int × pm_M} {Fi : Int → pm_M → Int × pm_M} (HG : ∀ (t : Nat) (l : Int) (U Y U1 Y1 : pm_M) (z z' : Int), (t = 84 ∨ t = 87) → 0 ≤ l → l < M → R U Y → G t l U = (z, U1) → Fi l Y = (z', Y1) → (∃ P Q, gg t s P Q U1 Y1) ∧ R U1 Y1 ∧ vK t U U1 ∧ vP (fun r => r < 2) Y Y1) {V W V0 : pm_M} (h : R V W) {d : Int × pm_M} {B : Int × Int × pm_M → (Int × Int × pm_M) ⊕ (Int × pm_M)} {d' : Int × pm_M} {C : Int × Int × pm_M → (Int × Int × pm_M) ⊕ (Int × pm_M)} {z0 : Int} {k0 t0 : Nat} (hk0 : kt2 k0 t0) (e12 : V 0 12 = (k0 : Int)) (e13 : V 0 13 = (t0 : Int)) (h0 : G k0 0 V = (z0, V0)) (hB1 : ∀ (f l : Int) (T : pm_M), M ≤ l → B (f, l, T) = .inr (f, T)) (hB2 : ∀ (f l : Int) (T T1 T2 : pm_M) (t : Nat) (z y : Int), ¬ M ≤ l → (t = 84 ∨ t = 87) → T 0 13 = (t : Int) → G t l T = (z, T1) → F_X11_keepsTried T1 = (y, T2) → (y = 0 → B (f, l, T) = .inl (f, l + 1, T2)) ∧ (¬ y = 0 → B (f, l, T) = .inl (l, l + 1, T2))) (hC1 : ∀ (f l : Int) (T : pm_M), M ≤ l → ∃ T', C (f, l, T) = .inr (f, T')) (hC2 : ∀ (f l : Int) (T T1 : pm_M) (z : Int), ¬ M ≤ l → Fi l T = (z, T1) → (f = n0 → ∀ z2 T2, F_X12_keeps T1 = (z2, T2) → C (f, l, T) = .inl (l, l + 1, T2)) ∧ (¬ f = n0 → ∀ y T2, F_X12_against T1 = (y, T2) → (¬ 0 < y → C (f, l, T) = .inl (f, l + 1, T2)) ∧ (0 < y → ∀ z3 T3, F_X12_keeps T2 = (z3, T3) → C (f, l, T) = .inl (l, l + 1, T3)))) : (pf_val d B (0, 1, V0)).1 = (pf_val d' C (n0, 0, W)).1 ∧ ck (pf_val d B (0, 1, V0)).2 := by
  obtain ⟨z1, W1, h1⟩ : ∃ z T, Fi 0 W = (z, T) := ⟨_, _, rfl⟩
  obtain ⟨⟨P0, Q0, g0⟩, q0, k0', -⟩ := HG k0 0 V W V0 W1 z0 z1 (by rcases hk0 with ⟨rfl, -⟩ | ⟨rfl, -⟩; exact Or.inl rfl; exact Or.inr rfl) (Int.le_refl _) (by omega) h h0 h1
  have v12 : V0 0 12 = (k0 : Int) := (k0' 0 12 (Or.inr rfl) (by rcases hk0 with ⟨rfl, -⟩ | ⟨rfl, -⟩ <;> decide) (by omega) (by omega)).trans e12
  have v13 : V0 0 13 = (t0 : Int) := (k0' 0 13 (Or.inr rfl) (by rcases hk0 with ⟨rfl, -⟩ | ⟨rfl, -⟩ <;> decide) (by omega) (by omega)).trans e13
  obtain ⟨z2, W2, h2, f2, kh0⟩ := kh_first hk0 v12 v13 g0
  have eC : pf_val d' C (n0, 0, W) = pf_val d' C (0, 1, W2) := pf_val_inl ((hC2 n0 0 W W1 z1 (by omega) h1).1 rfl z2 W2 h2)
  rw [eC]
  refine pf_sim (d := d) (d' := d') (b := B) (b' := C) (fun s1 t1 => s1.1 = t1.1 ∧ s1.2.1 = t1.2.1 ∧ 0 ≤ s1.1 ∧ 0 ≤ s1.2.1 ∧ R s1.2.2 t1.2.2 ∧ ∃ P Q, kh s s1.2.2 t1.2.2 P Q) (fun o p => o.1 = p.1 ∧ ck o.2) (fun s1 => (M - s1.2.1).toNat) ?_ (0, 1, V0) (0, 1, W2) ⟨rfl, rfl, Int.le_refl _, (by decide : (0 : Int) ≤ 1), Rfr _ _ _ _ q0 vC.rf f2, P0, Q0, kh0⟩
  rintro ⟨f, l, U⟩ ⟨f', l', Y⟩ ⟨rfl, rfl, p0, p1, hq, P, Q, hh⟩
  dsimp only at p0 p1 hq hh
  obtain ⟨k, t, hk, u12, u13, -⟩ := hh.1
  by_cases c : M ≤ l
  · obtain ⟨T', hT'⟩ := hC1 f l Y c
    exact Or.inr ⟨_, _, hB1 f l U c, hT', rfl, hk.c u12 u13⟩
  · have ht : t = 84 ∨ t = 87 := by rcases hk with ⟨-, rfl⟩ | ⟨-, rfl⟩; exact Or.inr rfl; exact Or.inl rfl
    obtain ⟨z3, U1, m1⟩ : ∃ z T, G t l U = (z, T) := ⟨_, _, rfl⟩
    obtain ⟨z4, Y1, m2⟩ : ∃ z T, Fi l Y = (z, T) := ⟨_, _, rfl⟩
    obtain ⟨⟨P1, Q1, g1⟩, q1, k1, w1⟩ := HG t l U Y U1 Y1 z3 z4 ht p1 (by omega) hq m1 m2
    obtain ⟨y, U2, zz, Y2, n1, n2, -, n4, n5, n6⟩ := kh_step hk u12 u13 hh g1 k1 w1
    obtain ⟨bb1, bb2⟩ := hB2 f l U U1 U2 t z3 y c ht u13 m1 n1
    obtain ⟨cc1, cc2⟩ := (hC2 f l Y Y1 z4 c m2).2 (by omega) zz Y2 n2
    rcases n6 with ⟨q, qy, z5, Y3, o1, o2, o3⟩ | ⟨q, qy, o3⟩
    · exact Or.inl ⟨_, _, bb2 (by omega), cc2 q z5 Y3 o1, ⟨rfl, rfl, p1, by dsimp only; omega, Rfr _ _ _ _ q1 n4 (n5.tr o2), P1, Q1, o3⟩, by dsimp only; omega⟩
    · exact Or.inl ⟨_, _, bb1 qy, cc1 q, ⟨rfl, rfl, p0, by dsimp only; omega, Rfr _ _ _ _ q1 n4 n5, P, Q, o3⟩, by dsimp only; omega⟩
theorem mB_best {V W : pm_M} (h : gq V W) (hc : ck V) (a1 : Int) : ∃ y V1 W1, F_X11_best a1 V = (y, V1) ∧ F_X12_best a1 W = (y, W1) ∧ ck V1 := by
  have h5 := h.1.1.2.2.2.2.1
  have b16 := h.1.2.2.1.1
  have e1 := (F_X11_best_eq a1 V).trans (pf_call_eq ((nf_hasScene h.1.1.hs).1 (by omega)))
  replace e1 := e1.trans (if_neg (by decide))
  have e2 := F_X12_best_eq a1 W
  by_cases cp : a1 = -1 ∨ (0 ≤ a1 ∧ a1 < V 4 1)
  · replace e1 := (e1.trans (pf_call_eq ((nf_isPersonOrAll a1).1 cp))).trans (if_pos (by decide))
    have ref : ∀ (C : Int × Int × pm_M → (Int × Int × pm_M) ⊕ (Int × pm_M)), F_X12_best a1 W = pf_val ((0 : Int), W) C (-1, 0, W) → (∀ (f l : Int) (T : pm_M), 7 ≤ l → C (f, l, T) = .inr (f, T)) → (∀ (f l : Int) (T T1 : pm_M) (z : Int), ¬ 7 ≤ l → F_X12_fits_d0 l a1 T = (z, T1) → (f = -1 → ∀ z2 T2, F_X12_keeps T1 = (z2, T2) → C (f, l, T) = .inl (l, l + 1, T2)) ∧ (¬ f = -1 → ∀ y T2, F_X12_against T1 = (y, T2) → (¬ 0 < y → C (f, l, T) = .inl (f, l + 1, T2)) ∧ (0 < y → ∀ z3 T3, F_X12_keeps T2 = (z3, T3) → C (f, l, T) = .inl (l, l + 1, T3)))) → ∃ y V1 W1, F_X11_best a1 V = (y, V1) ∧ F_X12_best a1 W = (y, W1) ∧ ck V1 := by
      intro C hC hC1 hC2
      have cls : ∀ (k t : Nat) (z0 : Int) (V0 : pm_M) (B : Int × Int × pm_M → (Int × Int × pm_M) ⊕ (Int × pm_M)), kt2 k t → V 0 12 = (k : Int) → V 0 13 = (t : Int) → F_X11_gather k 0 a1 V = (z0, V0) → F_X11_best a1 V = pf_val ((0 : Int), V) B (0, 1, V0) → (∀ (f l : Int) (T : pm_M), 7 ≤ l → B (f, l, T) = .inr (f, T)) → (∀ (f l : Int) (T T1 T2 : pm_M) (t : Nat) (z y : Int), ¬ 7 ≤ l → (t = 84 ∨ t = 87) → T 0 13 = (t : Int) → F_X11_gather t l a1 T = (z, T1) → F_X11_keepsTried T1 = (y, T2) → (y = 0 → B (f, l, T) = .inl (f, l + 1, T2)) ∧ (¬ y = 0 → B (f, l, T) = .inl (l, l + 1, T2))) → ∃ y V1 W1, F_X11_best a1 V = (y, V1) ∧ F_X12_best a1 W = (y, W1) ∧ ck V1 := by
        intro k t z0 V0 B hk u12 u13 h0 hB hB1 hB2
        have key := lo_sim (R := fun U Y => gq U Y ∧ Y 101 = W 101 ∧ Y 90 25 = W 90 25) (fun U Y U' Y' r f g => ⟨r.1.fr f g, (g.c (by decide)).trans r.2.1, (g.2 25 (by omega)).trans r.2.2⟩) (M := 7) (n0 := -1) (by decide) (by decide) (s := gn W a1 (W 90 25).toNat) (G := fun t l T => F_X11_gather t l a1 T) (Fi := fun l T => F_X12_fits_d0 l a1 T) (fun t l U Y U1 Y1 z z' ht l0 l1 r m1 m2 => by
          obtain ⟨⟨P, Q, g⟩, g1, g2, g3, g4, g5⟩ := ga_best ht ⟨l0, by omega⟩ r.1 m1 m2
          rw [gn_fr r.2.1, r.2.2] at g
          exact ⟨⟨P, Q, g⟩, ⟨g1, (g4.c (by decide)).trans r.2.1, (g4.2 25 (by omega)).trans r.2.2⟩, g3, g5⟩) ⟨h, rfl, rfl⟩ (d := ((0 : Int), V)) (d' := ((0 : Int), W)) hk u12 u13 h0 hB1 hB2 (fun f l T c => ⟨T, hC1 f l T c⟩) hC2
        rw [← hB, ← hC] at key
        exact ⟨(F_X11_best a1 V).1, (F_X11_best a1 V).2, (F_X12_best a1 W).2, rfl, Prod.ext key.1.symm rfl, key.2⟩
      have two : ∀ (B : Int × Int × pm_M → (Int × Int × pm_M) ⊕ (Int × pm_M)), (∀ (f l : Int) (T : pm_M), B (f, l, T) = if 7 ≤ l then .inr (f, T) else if T 0 13 = 84 then (pf_call (F_X11_gather 84 l a1 T) fun _ V41 => pf_call (F_X11_keepsTried V41) fun y51 V49 => if y51 = 0 then pf_let (l + 1) fun x58 => .inl (f, x58, V49) else pf_let (l + 1) fun x60 => .inl (l, x60, V49)) else (pf_call (F_X11_gather 87 l a1 T) fun _ V63 => pf_call (F_X11_keepsTried V63) fun y73 V71 => if y73 = 0 then pf_let (l + 1) fun x80 => .inl (f, x80, V71) else pf_let (l + 1) fun x82 => .inl (l, x82, V71))) → (∀ (f l : Int) (T : pm_M), 7 ≤ l → B (f, l, T) = .inr (f, T)) ∧ (∀ (f l : Int) (T T1 T2 : pm_M) (t : Nat) (z y : Int), ¬ 7 ≤ l → (t = 84 ∨ t = 87) → T 0 13 = (t : Int) → F_X11_gather t l a1 T = (z, T1) → F_X11_keepsTried T1 = (y, T2) → (y = 0 → B (f, l, T) = .inl (f, l + 1, T2)) ∧ (¬ y = 0 → B (f, l, T) = .inl (l, l + 1, T2))) := by
        intro B hB
        refine ⟨fun f l T c => (hB f l T).trans (if_pos c), fun f l T T1 T2 t z y c ht e13 m1 m2 => ?_⟩
        have q := (hB f l T).trans (if_neg c)
        rcases ht with rfl | rfl
        · have u : T 0 13 = 84 := e13
          replace q := ((q.trans (if_pos u)).trans (pf_call_eq m1)).trans (pf_call_eq m2)
          exact ⟨fun s => (q.trans (if_pos s)).trans (pf_let_eq rfl), fun s => (q.trans (if_neg s)).trans (pf_let_eq rfl)⟩
        · have u : ¬ T 0 13 = 84 := by rw [e13]; decide
          replace q := ((q.trans (if_neg u)).trans (pf_call_eq m1)).trans (pf_call_eq m2)
          exact ⟨fun s => (q.trans (if_pos s)).trans (pf_let_eq rfl), fun s => (q.trans (if_neg s)).trans (pf_let_eq rfl)⟩
      rcases hc with ⟨u12, u13⟩ | ⟨u12, u13⟩
      · obtain ⟨z0, V0, h0⟩ : ∃ z T, F_X11_gather 84 0 a1 V = (z, T) := ⟨_, _, rfl⟩
        replace e1 := (e1.trans (if_pos u12)).trans (pf_call_eq h0)
        obtain ⟨B, hB, e1⟩ := pf_loop e1
        obtain ⟨b1, b2⟩ := two B (fun f l T => congrFun hB (f, l, T))
        exact cls 84 87 z0 V0 B (Or.inl ⟨rfl, rfl⟩) u12 u13 h0 e1 b1 b2
      · obtain ⟨z0, V0, h0⟩ : ∃ z T, F_X11_gather 87 0 a1 V = (z, T) := ⟨_, _, rfl⟩
        replace e1 := (e1.trans (if_neg (by rw [u12]; decide))).trans (pf_call_eq h0)
        obtain ⟨B, hB, e1⟩ := pf_loop e1
        obtain ⟨b1, b2⟩ := two B (fun f l T => congrFun hB (f, l, T))
        exact cls 87 84 z0 V0 B (Or.inr ⟨rfl, rfl⟩) u12 u13 h0 e1 b1 b2
    have body : ∀ (C : Int × Int × pm_M → (Int × Int × pm_M) ⊕ (Int × pm_M)), (∀ (f l : Int) (T : pm_M), C (f, l, T) = (pf_let (T 114 2) fun y30 => pf_let (T 114 3) fun y33 => (if 7 ≤ l then ((.inr (f, T))) else (pf_let (T 114 0) fun y37 => pf_let (T 114 1) fun y40 => pf_call (F_X12_fits_d0 l a1 T) fun _ V44 => pf_let (V44 114 0) fun y58 => pf_let (V44 114 1) fun y61 => pf_let (V44 114 2) fun y64 => pf_let (V44 114 3) fun y67 => (if f = (-1) then (pf_call (F_X12_keeps  V44) fun _ V72 => pf_let (V72 114 0) fun y86 => pf_let (V72 114 1) fun y89 => pf_let (V72 114 2) fun y92 => pf_let (V72 114 3) fun y95 => pf_let (l + 1) fun x98 => (.inl (l, x98, V72))) else (pf_call (F_X12_against  V44) fun y107 V101 => pf_let (V101 114 0) fun y121 => pf_let (V101 114 1) fun y124 => pf_let (V101 114 2) fun y127 => pf_let (V101 114 3) fun y130 => (if 0 < y107 then (pf_call (F_X12_keeps  V101) fun _ V135 => pf_let (V135 114 0) fun y149 => pf_let (V135 114 1) fun y152 => pf_let (V135 114 2) fun y155 => pf_let (V135 114 3) fun y158 => pf_let (l + 1) fun x161 => (.inl (l, x161, V135))) else (pf_let (l + 1) fun x163 => (.inl (f, x163, V101)))))))))) → (∀ (f l : Int) (T : pm_M), 7 ≤ l → C (f, l, T) = .inr (f, T)) ∧ (∀ (f l : Int) (T T1 : pm_M) (z : Int), ¬ 7 ≤ l → F_X12_fits_d0 l a1 T = (z, T1) → (f = -1 → ∀ z2 T2, F_X12_keeps T1 = (z2, T2) → C (f, l, T) = .inl (l, l + 1, T2)) ∧ (¬ f = -1 → ∀ y T2, F_X12_against T1 = (y, T2) → (¬ 0 < y → C (f, l, T) = .inl (f, l + 1, T2)) ∧ (0 < y → ∀ z3 T3, F_X12_keeps T2 = (z3, T3) → C (f, l, T) = .inl (l, l + 1, T3)))) := by
      intro C hC
      refine ⟨fun f l T c => (((hC f l T).trans (pf_let_eq rfl)).trans (pf_let_eq rfl)).trans (if_pos c), fun f l T T1 z c m1 => ?_⟩
      have q := ((((hC f l T).trans (pf_let_eq rfl)).trans (pf_let_eq rfl)).trans (if_neg c))
      replace q := ((((((q.trans (pf_let_eq rfl)).trans (pf_let_eq rfl)).trans (pf_call_eq m1)).trans (pf_let_eq rfl)).trans (pf_let_eq rfl)).trans (pf_let_eq rfl)).trans (pf_let_eq rfl)
      refine ⟨fun s z2 T2 m2 => ?_, fun s y T2 m2 => ?_⟩
      · exact (((((((q.trans (if_pos s)).trans (pf_call_eq m2)).trans (pf_let_eq rfl)).trans (pf_let_eq rfl)).trans (pf_let_eq rfl)).trans (pf_let_eq rfl)).trans (pf_let_eq rfl))
      · replace q := ((((((q.trans (if_neg s)).trans (pf_call_eq m2)).trans (pf_let_eq rfl)).trans (pf_let_eq rfl)).trans (pf_let_eq rfl)).trans (pf_let_eq rfl))
        refine ⟨fun s2 => (q.trans (if_neg s2)).trans (pf_let_eq rfl), fun s2 z3 T3 m3 => ?_⟩
        exact (((((((q.trans (if_pos s2)).trans (pf_call_eq m3)).trans (pf_let_eq rfl)).trans (pf_let_eq rfl)).trans (pf_let_eq rfl)).trans (pf_let_eq rfl)).trans (pf_let_eq rfl))
    by_cases ca : a1 = -1
    · replace e2 := ((e2.trans (if_pos ca)).trans (pf_let_eq rfl)).trans (pf_let_eq rfl)
      obtain ⟨C, hC, e2⟩ := pf_loop e2
      obtain ⟨c1, c2⟩ := body C (fun f l T => congrFun hC (f, l, T))
      exact ref C e2 c1 c2
    · replace e2 := ((((e2.trans (if_neg ca)).trans (pf_call_eq ((nf_isPersonR a1).1 (by rw [← h5]; exact cp.resolve_left ca)))).trans (if_pos (by decide))).trans (pf_let_eq rfl)).trans (pf_let_eq rfl)
      obtain ⟨C, hC, e2⟩ := pf_loop e2
      obtain ⟨c1, c2⟩ := body C (fun f l T => congrFun hC (f, l, T))
      exact ref C e2 c1 c2
  · replace e1 := (e1.trans (pf_call_eq ((nf_isPersonOrAll a1).2 cp))).trans (if_neg (by decide))
    have ca : ¬ a1 = -1 := fun q => cp (Or.inl q)
    exact ⟨_, _, _, e1, ((e2.trans (if_neg ca)).trans (pf_call_eq ((nf_isPersonR a1).2 (by rw [← h5]; exact fun q => cp (Or.inr q))))).trans (if_neg (by decide)), hc⟩
theorem mA_best {V : pm_M} (hs : (V 0 8 = 45 ∧ V 45 0 = 0) ∨ (V 0 8 = 51 ∧ V 51 0 = 0)) (_ : V 4 1 = 0) (_ : V 4 6 = 0) (_ : V 15 0 = 0) (_ : V 25 0 = 0) (_ : V 35 0 = 0) (a1 : Int) : F_X11_best a1 V = (-1, V) :=
  ((F_X11_best_eq a1 V).trans (pf_call_eq ((nf_hasScene hs).2 (by decide)))).trans (if_pos rfl)
