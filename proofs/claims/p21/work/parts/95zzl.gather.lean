/-! CHANCES GATHERED, on both sides: frames -/
def vC (V Z : pm_M) : Prop := ∀ k i, ((k < 73 ∧ ¬ (k = 0 ∧ 12 ≤ i)) ∨ (k = 73 ∧ (i = 13 ∨ i = 15))) → Z k i = V k i
def vK (ch : Nat) (V Z : pm_M) : Prop := ∀ k i, (77 < k ∨ k = 0) → k ≠ ch → k ≠ ch + 1 → k ≠ ch + 2 → Z k i = V k i
def vR (W X : pm_M) : Prop := (∀ k, k ≠ 90 → k ≠ 110 → k ≠ 111 → k ≠ 112 → k ≠ 113 → k ≠ 114 → X k = W k) ∧ ∀ i, (i < 42 ∨ 51 < i) → X 90 i = W 90 i
def vP (P : Nat → Prop) (W X : pm_M) : Prop := ∀ r, ¬ P r → X 114 r = W 114 r ∧ ∀ i, i < 300 → X 113 (300 * r + i) = W 113 (300 * r + i)
theorem vC.rf {V : pm_M} : vC V V := fun _ _ _ => rfl
theorem vK.rf {ch : Nat} {V : pm_M} : vK ch V V := fun _ _ _ _ _ _ => rfl
theorem vR.rf {W : pm_M} : vR W W := ⟨fun _ _ _ _ _ _ _ => rfl, fun _ _ => rfl⟩
theorem vP.rf {P : Nat → Prop} {W : pm_M} : vP P W W := fun _ _ => ⟨rfl, fun _ _ => rfl⟩
theorem vC.tr {V Z Y : pm_M} (h : vC V Z) (g : vC Z Y) : vC V Y := fun k i q => (g k i q).trans (h k i q)
theorem vK.tr {ch : Nat} {V Z Y : pm_M} (h : vK ch V Z) (g : vK ch Z Y) : vK ch V Y := fun k i a b c d => (g k i a b c d).trans (h k i a b c d)
theorem vR.tr {V Z Y : pm_M} (h : vR V Z) (g : vR Z Y) : vR V Y := ⟨fun k a b c d e f => (g.1 k a b c d e f).trans (h.1 k a b c d e f), fun i q => (g.2 i q).trans (h.2 i q)⟩
theorem vP.tr {P : Nat → Prop} {V Z Y : pm_M} (h : vP P V Z) (g : vP P Z Y) : vP P V Y := fun r q => ⟨(g r q).1.trans (h r q).1, fun i a => ((g r q).2 i a).trans ((h r q).2 i a)⟩
theorem fC.v {V Z : pm_M} (h : fC V Z) : vC V Z := fun k i q => h k i (by omega)
theorem fC.vk {ch : Nat} {V Z : pm_M} (h : fC V Z) : vK ch V Z := fun k i q _ _ _ => h k i (by omega)
theorem fR.v {W X : pm_M} (h : fR W X) : vR W X := ⟨fun k a b c d _ _ => h.1 k a b c d, h.2⟩
theorem fR.vp {P : Nat → Prop} {W X : pm_M} (h : fR W X) : vP P W X := fun r _ => ⟨by rw [h.1 114 (by decide) (by decide) (by decide) (by decide)], fun i _ => by rw [h.1 113 (by decide) (by decide) (by decide) (by decide)]⟩
theorem rq_f.v {R : Nat} {W X : pm_M} (h : rq_f R W X) : vR W X := ⟨fun k _ _ _ _ e f => h.1 k e f, fun i _ => by rw [h.1 90 (by decide) (by decide)]⟩
theorem rq_f.vp {R : Nat} {P : Nat → Prop} {W X : pm_M} (h : rq_f R W X) (hP : P R) : vP P W X := fun r q => by
  have hr : r ≠ R := fun e => q (e ▸ hP)
  exact ⟨h.2.1 r hr, fun i hi => h.2.2 _ (by omega)⟩
theorem rk.vp {P : Nat → Prop} {r n v : Nat} {W U : pm_M} (h : rk W r n v) (f : vP P W U) (hr : ¬ P r) (hn : n ≤ 300) : rk U r n v := ⟨(f r hr).1.trans h.1, h.2.fr fun k hk => (f r hr).2 k (by omega)⟩
theorem rk.f {r n v : Nat} {W U : pm_M} (h : rk W r n v) (f : fR W U) : rk U r n v := by
  refine ⟨?_, h.2.fr fun k hk => ?_⟩
  · rw [f.1 114 (by decide) (by decide) (by decide) (by decide)]
    exact h.1
  · show U 113 _ = W 113 _
    rw [f.1 113 (by decide) (by decide) (by decide) (by decide)]
theorem vC.q {V W Z : pm_M} (h : rq V W) (f : vC V Z) : rq Z W := h.C fun k i q => f k i (by unfold sq_nd at q; omega)
theorem vC.p {V W Z : pm_M} (h : rp V W) (f : vC V Z) : rp Z W := h.C fun k i q => f k i (by unfold pd at q; omega)
theorem vC.a {V W Z : pm_M} (h : ra V W) (f : vC V Z) : ra Z W := h.C fun k i q => f k i (by unfold ad at q; omega)
theorem vR.c {W X : pm_M} (f : vR W X) {k : Nat} (h : k ≠ 90 ∧ k ≠ 110 ∧ k ≠ 111 ∧ k ≠ 112 ∧ k ≠ 113 ∧ k ≠ 114) : X k = W k := f.1 k h.1 h.2.1 h.2.2.1 h.2.2.2.1 h.2.2.2.2.1 h.2.2.2.2.2
theorem vR.q {V W X : pm_M} (h : rq V W) (f : vR W X) : rq V X := h.R (fun i q => f.2 i (by simp only [List.contains_eq_mem, List.mem_cons, List.not_mem_nil, or_false, decide_eq_true_eq] at q; omega)) (fun k q => f.c (by simp only [List.contains_eq_mem, List.mem_cons, List.not_mem_nil, or_false, decide_eq_true_eq] at q; omega))
theorem vR.p {V W X : pm_M} (h : rp V W) (f : vR W X) : rp V X := h.R (fun k q => f.c (by simp only [List.contains_eq_mem, List.mem_cons, List.not_mem_nil, or_false, decide_eq_true_eq] at q; omega))
theorem vR.a {V W X : pm_M} (h : ra V W) (f : vR W X) : ra V X := h.R (fun k q => f.c (by simp only [List.contains_eq_mem, List.mem_cons, List.not_mem_nil, or_false, decide_eq_true_eq] at q; omega)) (f.2 25 (by omega)) (by rw [f.2 23 (by omega)]; exact Int.le_refl _)
theorem vR.b {W X : pm_M} (h : wb W) (f : vR W X) : wb X := by
  have e16 := f.2 16 (by omega)
  have e20 := f.2 20 (by omega)
  have e21 := f.2 21 (by omega)
  have e23 := f.2 23 (by omega)
  have c97 := f.c (k := 97) (by decide)
  have c98 := f.c (k := 98) (by decide)
  have c100 := f.c (k := 100) (by decide)
  unfold wb at h ⊢
  rw [e16, e20, e21, e23, c97, c98, c100]
  exact h
/-- what was said is a sound -/
def rs (W : pm_M) : Prop := (0 ≤ W 90 25 ∧ W 90 25 ≤ 60) ∧ ∀ k : Nat, (k : Int) < W 90 25 → 0 ≤ W 101 (5 * k + 3) ∧ W 101 (5 * k + 3) < W 90 16
theorem vR.l {W X : pm_M} (h : rl W) (f : vR W X) : rl X := by
  have c101 := f.c (k := 101) (by decide)
  unfold rl at h ⊢
  rw [c101, f.2 25 (by omega), f.2 23 (by omega), f.2 16 (by omega)]
  exact h
theorem vR.s {W X : pm_M} (h : rs W) (f : vR W X) : rs X := by
  have c101 := f.c (k := 101) (by decide)
  unfold rs at h ⊢
  rw [c101, f.2 25 (by omega), f.2 16 (by omega)]
  exact h
/-- how many of the first k answers are asked for -/
def gn (W : pm_M) (a : Int) : Nat → Nat
  | 0 => 0
  | k + 1 => gn W a k + (if a = -1 ∨ W 101 (5 * k) / 100 = a then 1 else 0)
theorem gn_le {W : pm_M} {a : Int} (k : Nat) : gn W a k ≤ k := by
  induction k with
  | zero => exact Nat.le_refl _
  | succ k ih =>
    show gn W a k + (if a = -1 ∨ W 101 (5 * k) / 100 = a then 1 else 0) ≤ k + 1
    split <;> omega
theorem gn_fr {W X : pm_M} {a : Int} (e : X 101 = W 101) (k : Nat) : gn X a k = gn W a k := by
  induction k with
  | zero => rfl
  | succ k ih =>
    show gn X a k + (if a = -1 ∨ X 101 (5 * k) / 100 = a then 1 else 0) = gn W a k + (if a = -1 ∨ W 101 (5 * k) / 100 = a then 1 else 0)
    rw [ih, e]
def px (g : Nat) : Nat := 999999999 ^ g
theorem px_s {g v a : Nat} (h : v ≤ px g) (ha : a ≤ 999999999) : v * a ≤ px (g + 1) := by
  have e : px (g + 1) = px g * 999999999 := Nat.pow_succ _ _
  rw [e]
  exact Nat.mul_le_mul h ha
theorem px_60 : px 60 < 10000 ^ 135 := by unfold px; decide +kernel
theorem px_few {f : Nat → Int} {n v g : Nat} (h : dg_ok 10000 f n v) (hv : v ≤ px g) (hg : g ≤ 60) : n ≤ 136 := by
  have h1 : px g ≤ px 60 := Nat.pow_le_pow_right (by decide) hg
  exact h.few (Nat.lt_of_le_of_lt hv (Nat.lt_of_le_of_lt h1 px_60))
/-- what both sides hold of the chances gathered into ch: s of them, the product of the parts, that of the wholes -/
def gg (ch s P Q : Nat) (Z X : pm_M) : Prop := xc Z ch s ∧ xp Z (ch + 1) s = P ∧ xp Z (ch + 2) s = Q ∧ (∃ n, rk X 0 n P) ∧ (∃ n, rk X 1 n Q) ∧ P ≤ px s ∧ Q ≤ px s
theorem add_val {ch g : Nat} {V : pm_M} {p w : Int} (h : V ch 0 = (g : Int)) (hg : g < 60) : F_X0_add ch p w V = (0, pm_up (pm_up (pm_up V (ch + 1) g p) (ch + 2) g w) ch 0 ((g : Int) + 1)) := by
  have e := ((F_X0_add_eq ch p w V).trans (pf_let_eq h)).trans (if_neg (show ¬ 60 ≤ (g : Int) by omega))
  rw [Int.toNat_natCast] at e
  exact e
theorem xc_add {ch g : Nat} {V Z : pm_M} {p w : Int} (h : xc V ch g) (hg : g < 60) (hp : 0 ≤ p ∧ p < 1073741824) (hw : 1 ≤ w ∧ w < 1073741824) (hZ : Z = pm_up (pm_up (pm_up V (ch + 1) g p) (ch + 2) g w) ch 0 ((g : Int) + 1)) : xc Z ch (g + 1) ∧ xp Z (ch + 1) (g + 1) = xp V (ch + 1) g * p.toNat ∧ xp Z (ch + 2) (g + 1) = xp V (ch + 2) g * w.toNat := by
  have z0 : Z ch 0 = (g : Int) + 1 := by rw [hZ, pm_up_s]
  have z1 : ∀ k, Z (ch + 1) k = if k = g then p else V (ch + 1) k := fun k => by rw [hZ, pm_up_c (by omega), pm_up_c (by omega), up_at]
  have z2 : ∀ k, Z (ch + 2) k = if k = g then w else V (ch + 2) k := fun k => by
    rw [hZ, pm_up_c (by omega), up_at]
    by_cases e : k = g
    · rw [if_pos e, if_pos e]
    · rw [if_neg e, if_neg e, pm_up_c (by omega)]
  refine ⟨⟨z0, by omega, fun k hk => ?_⟩, ?_, ?_⟩
  · rw [z1, z2]
    by_cases e : k = g
    · rw [if_pos e, if_pos e]
      exact ⟨hp.1, hp.2, hw.1, hw.2⟩
    · rw [if_neg e, if_neg e]
      exact h.2.2 k (by omega)
  · show fp_pr (fun k => (Z (ch + 1) k).toNat) g * (Z (ch + 1) g).toNat = _
    rw [z1 g, if_pos rfl]
    congr 1
    exact xp_fr fun k hk => by rw [z1, if_neg (by omega)]
  · show fp_pr (fun k => (Z (ch + 2) k).toNat) g * (Z (ch + 2) g).toNat = _
    rw [z2 g, if_pos rfl]
    congr 1
    exact xp_fr fun k hk => by rw [z2, if_neg (by omega)]
/-- the two loops side by side: R what holds between the sides, Tr what the class does to have an answer's trial weighed -/
theorem ga_sim {ch : Nat} (hch : ch = 84 ∨ ch = 87) {R : pm_M → pm_M → Prop} {a law : Int} (Rfr : ∀ U Y U' Y', R U Y → vC U U' → vR Y Y' → R U' Y') (Ra : ∀ U Y, R U Y → ra U Y ∧ rs Y ∧ U 4 6 = Y 90 25) {Tr : Int → pm_M → pm_M → Prop} (HT : ∀ (x : Nat) (U Y : pm_M), R U Y → (x : Int) < Y 90 25 → (a = -1 ∨ Y 101 (5 * x) / 100 = a) → ∃ U2, Tr x U U2 ∧ ∀ (z z' : Int) (Y1 Y2 : pm_M), F_X12_works (Y 101 (5 * x)) (Y 101 (5 * x + 1)) (Y 101 (5 * x + 2)) Y = (z, Y1) → F_X12_weighs law Y1 = (z', Y2) → (∃ c, wx c (Y 90 16) U2 Y2) ∧ fC U U2 ∧ fR Y Y2) {B : Int × pm_M → (Int × pm_M) ⊕ (Int × pm_M)} (hB1 : ∀ (x : Int) (T : pm_M), T 4 6 ≤ x → B (x, T) = .inr (0, T)) (hB2 : ∀ (x : Int) (T : pm_M), ¬ T 4 6 ≤ x → ¬ (a = -1 ∨ T 9 x.toNat / 100 = a) → B (x, T) = .inl (x + 1, T)) (hB3 : ∀ (x : Int) (T T2 T3 : pm_M) (w : Nat), ¬ T 4 6 ≤ x → (a = -1 ∨ T 9 x.toNat / 100 = a) → Tr x T T2 → (w = 76 ∨ w = 77) → T2 73 13 = (w : Int) → F_X0_add ch (T2 w (T2 12 x.toNat).toNat) (T2 73 14) T2 = (0, T3) → B (x, T) = .inl (x + 1, T3)) {d : Int × pm_M} {V W Z X : pm_M} {z z' : Int} (h : R V W) (hZ : (z, Z) = pf_val d B (0, pm_up V ch 0 0)) (hX : F_X12_fits_d0 law a W = (z', X)) : (∃ P Q, gg ch (gn W a (W 90 25).toNat) P Q Z X) ∧ R Z X ∧ vC V Z ∧ vK ch V Z ∧ vR W X ∧ vP (fun r => r < 2) W X := by
  have e := ((((hX.symm.trans (F_X12_fits_d0_eq law a W)).trans (pf_let_eq rfl)).trans (pf_let_eq rfl)).trans (pf_let_eq rfl)).trans (pf_let_eq rfl)
  obtain ⟨y1, W1, h1⟩ : ∃ y U, F_X12_ones_d0 W = (y, U) := ⟨_, _, rfl⟩
  replace e := ((((e.trans (pf_call_eq h1)).trans (pf_let_eq rfl)).trans (pf_let_eq rfl)).trans (pf_let_eq rfl)).trans (pf_let_eq rfl)
  obtain ⟨y2, W2, h2⟩ : ∃ y U, F_X12_ones_d1 W1 = (y, U) := ⟨_, _, rfl⟩
  replace e := ((((e.trans (pf_call_eq h2)).trans (pf_let_eq rfl)).trans (pf_let_eq rfl)).trans (pf_let_eq rfl)).trans (pf_let_eq rfl)
  obtain ⟨C, hC, e⟩ := pf_loop e
  obtain ⟨o1, f1⟩ := rk_one0 h1
  obtain ⟨o2, f2⟩ := rk_one1 h2
  have o1' : rk W2 0 1 1 := o1.fr f2 (by decide) (by decide)
  have g0 : vR W W2 := f1.v.tr f2.v
  have p0 : vP (fun r => r < 2) W W2 := (f1.vp (by decide)).tr (f2.vp (by decide))
  obtain ⟨N, hN⟩ : ∃ N, W 90 25 = N := ⟨_, rfl⟩
  have hr0 := (Ra V W h).2.1.1
  rw [hN] at hr0
  have c0 : vC V (pm_up V ch 0 0) := fun k i q => pm_up_c (by omega)
  have k0 : vK ch V (pm_up V ch 0 0) := fun k i _ q _ _ => pm_up_c q
  have key := pf_sim (d := d) (d' := ((0 : Int), W)) (b := B) (b' := C) (fun s t => ∃ k : Nat, s.1 = (k : Int) ∧ t.1 = (k : Int) ∧ (k : Int) ≤ N ∧ R s.2 t.2 ∧ vC V s.2 ∧ vK ch V s.2 ∧ vR W t.2 ∧ vP (fun r => r < 2) W t.2 ∧ ∃ P Q, gg ch (gn W a k) P Q s.2 t.2) (fun o p => (∃ P Q, gg ch (gn W a N.toNat) P Q o.2 p.2) ∧ R o.2 p.2 ∧ vC V o.2 ∧ vK ch V o.2 ∧ vR W p.2 ∧ vP (fun r => r < 2) W p.2) (fun s => (N - s.1).toNat) ?_ (0, pm_up V ch 0 0) (0, W2) ⟨0, rfl, rfl, hr0.1, Rfr _ _ _ _ h c0 g0, c0, k0, g0, p0, 1, 1, ⟨pm_up_s, by show (0 : Nat) ≤ 60; decide, fun k hk => absurd hk (Nat.not_lt_zero _)⟩, rfl, rfl, ⟨1, o1'⟩, ⟨1, o2⟩, Nat.le_refl _, Nat.le_refl _⟩
  · rw [← hZ, ← e] at key
    rw [hN]
    exact key
  · rintro ⟨x, U⟩ ⟨x', Y⟩ ⟨k, q1, q2, q3, hR, qC, qK, qR, qP, P, Q, ⟨x1, x2, x3, ⟨n, r1⟩, ⟨m, r2⟩, b1, b2⟩⟩
    dsimp only at q1 q2 hR qC qK qR qP x1 x2 x3 r1 r2
    subst q1 q2
    obtain ⟨ha, hs, h46⟩ := Ra U Y hR
    have y25 : Y 90 25 = N := (qR.2 25 (by omega)).trans hN
    have u46 : U 4 6 = N := h46.trans y25
    have y101 : Y 101 = W 101 := qR.c (by decide)
    have t := (((congrFun hC ((k : Int), Y)).trans (pf_let_eq rfl)).trans (pf_let_eq rfl)).trans (pf_let_eq y25)
    have i0 : (5 * (k : Int)).toNat = 5 * k := by omega
    have i3 : (5 * (k : Int) + 3).toNat = 5 * k + 3 := by omega
    by_cases c : N ≤ (k : Int)
    · have ek : k = N.toNat := by omega
      refine Or.inr ⟨_, _, hB1 _ _ (by omega), t.trans (if_pos c), ⟨P, Q, ?_⟩, hR, qC, qK, qR, qP⟩
      rw [← ek]
      exact ⟨x1, x2, x3, ⟨n, r1⟩, ⟨m, r2⟩, b1, b2⟩
    · replace t := t.trans (if_neg c)
      have hk : (k : Int) < Y 90 25 := by omega
      have r0 := ha.1 k 0 (by omega) (by decide)
      have r3 := ha.1 k 3 (by omega) (by decide)
      rw [Nat.zero_add] at r0 r3
      have u9 : U 9 k = Y 101 (5 * k) := r0
      have u12 : U 12 k = Y 101 (5 * k + 3) := r3
      by_cases g : a = -1 ∨ Y 101 (5 * k) / 100 = a
      · have gg1 : gn W a (k + 1) = gn W a k + 1 := by
          show gn W a k + (if a = -1 ∨ W 101 (5 * k) / 100 = a then 1 else 0) = _
          rw [← y101, if_pos g]
        have g60 : gn W a k < 60 := by
          have := gn_le (W := W) (a := a) k
          omega
        obtain ⟨U2, t1, t2⟩ := HT k U Y hR hk g
        obtain ⟨z1, Y1, hY1⟩ : ∃ z T, F_X12_works (Y 101 (5 * k)) (Y 101 (5 * k + 1)) (Y 101 (5 * k + 2)) Y = (z, T) := ⟨_, _, rfl⟩
        obtain ⟨z2, Y2, hY2⟩ : ∃ z T, F_X12_weighs law Y1 = (z, T) := ⟨_, _, rfl⟩
        obtain ⟨⟨c', wX⟩, fU, fY⟩ := t2 z1 z2 Y1 Y2 hY1 hY2
        obtain ⟨w, ⟨-, hw, -, h13, -, -⟩, -, -, wj, w14, w1, w2, -, -⟩ := wX.get
        -- what was said
        have hsd := hs.2 k (by omega)
        have e12 : U2 12 k = Y 101 (5 * k + 3) := (fU 12 k (by omega)).trans u12
        have y2101 : Y2 101 = Y 101 := fY.1 101 (by decide) (by decide) (by decide) (by decide)
        obtain ⟨p1, p2, p3⟩ := wj (Y 101 (5 * k + 3)).toNat (by omega)
        obtain ⟨p, hp⟩ : ∃ p, Y2 112 (Y 101 (5 * k + 3)).toNat = p := ⟨_, rfl⟩
        obtain ⟨q, hq⟩ : ∃ q, Y2 90 51 = q := ⟨_, rfl⟩
        rw [hp] at p1 p2 p3
        rw [hq] at w14 w1 w2
        -- the class
        have xk : xc U2 ch (gn W a k) := ⟨(fU ch 0 (by omega)).trans x1.1, x1.2.1, fun l hl => by
          rw [fU (ch + 1) l (by omega), fU (ch + 2) l (by omega)]
          exact x1.2.2 l hl⟩
        have xp1 : xp U2 (ch + 1) (gn W a k) = P := (xp_fr fun l _ => fU (ch + 1) l (by omega)).trans x2
        have xp2 : xp U2 (ch + 2) (gn W a k) = Q := (xp_fr fun l _ => fU (ch + 2) l (by omega)).trans x3
        obtain ⟨U3, hU3⟩ : ∃ T, T = pm_up (pm_up (pm_up U2 (ch + 1) (gn W a k) p) (ch + 2) (gn W a k) q) ch 0 ((gn W a k : Int) + 1) := ⟨_, rfl⟩
        have eadd : F_X0_add ch (U2 w (U2 12 (k : Int).toNat).toNat) (U2 73 14) U2 = (0, U3) := by
          rw [Int.toNat_natCast, e12, p1, w14, hU3]
          exact add_val xk.1 g60
        obtain ⟨a1, a2, a3⟩ := xc_add xk g60 (p := p) (w := q) ⟨p2, by omega⟩ ⟨w1, by omega⟩ hU3
        have cU : vC U2 U3 := fun l i q => by rw [hU3, pm_up_c (by omega), pm_up_c (by omega), pm_up_c (by omega)]
        have kU : vK ch U2 U3 := fun l i s0 s1 s2 s3 => by rw [hU3, pm_up_c s1, pm_up_c s3, pm_up_c s2]
        have hBk := hB3 (k : Int) U U2 U3 w (by omega) (by rw [Int.toNat_natCast, u9]; exact g) t1 hw h13 eadd
        -- the reference
        obtain ⟨z3, Y3, hY3⟩ : ∃ z T, F_X12_multiplies_d0 p Y2 = (z, T) := ⟨_, _, rfl⟩
        obtain ⟨n', s1, s2⟩ := rk_mul0 (r1.f fY) (Nat.le_trans (px_few r1.2 b1 (by omega)) (by decide)) ⟨p2, by omega⟩ hY3
        obtain ⟨z4, Y4, hY4⟩ : ∃ z T, F_X12_multiplies_d1 q Y3 = (z, T) := ⟨_, _, rfl⟩
        have r2' : rk Y3 1 m Q := (r2.f fY).fr s2 (by decide) (Nat.le_trans (px_few r2.2 b2 (by omega)) (by decide))
        obtain ⟨m', s3, s4⟩ := rk_mul1 r2' (Nat.le_trans (px_few r2.2 b2 (by omega)) (by decide)) ⟨by omega, by omega⟩ hY4
        have bP : P * p.toNat ≤ px (gn W a k + 1) := px_s b1 (by omega)
        have bQ : Q * q.toNat ≤ px (gn W a k + 1) := px_s b2 (by omega)
        have s1' : rk Y4 0 n' (P * p.toNat) := s1.fr s4 (by decide) (Nat.le_trans (px_few s1.2 bP (by omega)) (by decide))
        have y390 : Y3 90 51 = q := by rw [s2.1 90 (by decide) (by decide)]; exact hq
        have e142 : Y2 101 ((5 * (k : Int)) + 3).toNat = Y 101 (5 * k + 3) := by rw [i3, y2101]
        have tail : ∀ E, E = (pf_call (F_X12_worksAnswer (k : Int) Y) fun _ V96 => pf_let (V96 90 42) fun z114 => pf_let (V96 90 43) fun z116 => pf_call (F_X12_weighs law V96) fun _ V119 => pf_let (V119 101 (((5 * (k : Int)) + 3) : Int).toNat) fun y142 => pf_let (V119 112 (y142 : Int).toNat) fun y145 => pf_call (F_X12_multiplies_d0 y145 V119) fun _ V149 => pf_let (V149 114 0) fun y171 => pf_let (V149 114 1) fun y174 => pf_let (V149 114 2) fun y177 => pf_let (V149 114 3) fun y180 => pf_let (V149 90 51) fun y183 => pf_call (F_X12_multiplies_d1 y183 V149) fun _ V187 => pf_let (V187 114 0) fun y210 => pf_let (V187 114 1) fun y213 => pf_let (V187 114 2) fun y216 => pf_let (V187 114 3) fun y219 => pf_let ((k : Int) + 1) fun x222 => (.inl (x222, V187) : (Int × pm_M) ⊕ (Int × pm_M))) → E = .inl ((k : Int) + 1, Y4) := by
          intro E hE
          have hwa : F_X12_worksAnswer (k : Int) Y = (0, Y1) := wa_of (W := Y) (X := Y1) (k := (k : Int)) (z := z1) (Int.natCast_nonneg k) (by rw [Int.toNat_natCast]; exact hY1)
          have u := ((hE.trans (pf_call_eq hwa)).trans (pf_let_eq rfl)).trans (pf_let_eq rfl)
          replace u := (((u.trans (pf_call_eq hY2)).trans (pf_let_eq e142)).trans (pf_let_eq hp)).trans (pf_call_eq hY3)
          replace u := ((((u.trans (pf_let_eq rfl)).trans (pf_let_eq rfl)).trans (pf_let_eq rfl)).trans (pf_let_eq rfl)).trans (pf_let_eq y390)
          exact ((((((u.trans (pf_call_eq hY4)).trans (pf_let_eq rfl)).trans (pf_let_eq rfl)).trans (pf_let_eq rfl)).trans (pf_let_eq rfl)).trans (pf_let_eq rfl))
        have hCk : C ((k : Int), Y) = .inl ((k : Int) + 1, Y4) := by
          by_cases ga : a = -1
          · exact tail _ (t.trans (if_pos ga))
          · have ga2 : Y 101 (5 * k) / 100 = a := g.resolve_left ga
            exact tail _ (((t.trans (if_neg ga)).trans (pf_let_eq (by rw [i0]))).trans (if_pos ga2))
        have fYY : vR Y Y4 := (fY.v.tr s2.v).tr s4.v
        have pYY : vP (fun r => r < 2) Y Y4 := (fY.vp.tr (s2.vp (by decide))).tr (s4.vp (by decide))
        have cUU : vC U U3 := fU.v.tr cU
        refine Or.inl ⟨_, _, hBk, hCk, ⟨k + 1, by dsimp only; omega, by dsimp only; omega, by omega, Rfr _ _ _ _ hR cUU fYY, qC.tr cUU, qK.tr (fU.vk.tr kU), qR.tr fYY, qP.tr pYY, P * p.toNat, Q * q.toNat, ?_⟩, by dsimp only; omega⟩
        rw [gg1]
        exact ⟨a1, by rw [a2, xp1], by rw [a3, xp2], ⟨n', s1'⟩, ⟨m', s3⟩, bP, bQ⟩
      · have gg1 : gn W a (k + 1) = gn W a k := by
          show gn W a k + (if a = -1 ∨ W 101 (5 * k) / 100 = a then 1 else 0) = _
          rw [← y101, if_neg g, Nat.add_zero]
        have ga : ¬ a = -1 := fun q => g (Or.inl q)
        have ga2 : ¬ Y 101 (5 * k) / 100 = a := fun q => g (Or.inr q)
        have hCk := ((((t.trans (if_neg ga)).trans (pf_let_eq (by rw [i0]))).trans (if_neg ga2)).trans (pf_let_eq rfl))
        refine Or.inl ⟨_, _, hB2 (k : Int) U (by omega) (by rw [Int.toNat_natCast, u9]; exact g), hCk, ⟨k + 1, by dsimp only; omega, by dsimp only; omega, by omega, hR, qC, qK, qR, qP, P, Q, ?_⟩, by dsimp only; omega⟩
        rw [gg1]
        exact ⟨x1, x2, x3, ⟨n, r1⟩, ⟨m, r2⟩, b1, b2⟩
