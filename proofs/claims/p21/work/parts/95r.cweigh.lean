/-! WEIGHTS: loops that fill a row, that seek the greatest -/
theorem up_ne {U : pm_M} {k i a j : Nat} {x : Int} (h : ¬ (a = k ∧ j = i)) : pm_up U k i x a j = U a j := by
  by_cases q : a = k
  · subst q
    exact pm_up_i (fun e => h ⟨rfl, e⟩)
  · exact pm_up_c q
theorem wf_fill {O : Type} {d : O} {n : Int} {w : Nat} {g : Nat → Int} {S : pm_M} {fin : pm_M → O} {B : Int × pm_M → (Int × pm_M) ⊕ O} (hB : ∀ (x : Int) (U : pm_M), 0 ≤ x → (∀ k i, k ≠ w → U k i = S k i) → (n ≤ x → B (x, U) = .inr (fin U)) ∧ (x < n → B (x, U) = .inl (x + 1, pm_up U w x.toNat (g x.toNat)))) : ∃ U, pf_val d B (0, S) = fin U ∧ (∀ k i, k ≠ w → U k i = S k i) ∧ ∀ j : Nat, (j : Int) < n → U w j = g j := by
  refine pf_val_ind2 (d := d) (b := B) (fun s => 0 ≤ s.1 ∧ (∀ k i, k ≠ w → s.2 k i = S k i) ∧ ∀ j : Nat, (j : Int) < s.1 → s.2 w j = g j) (fun o => ∃ U, o = fin U ∧ (∀ k i, k ≠ w → U k i = S k i) ∧ ∀ j : Nat, (j : Int) < n → U w j = g j) (fun s => (n - s.1).toNat) ?_ (0, S) ⟨Int.le_refl _, fun _ _ _ => rfl, fun j hj => absurd hj (by dsimp only; omega)⟩
  rintro ⟨x, U⟩ ⟨p0, p1, p2⟩
  dsimp only at p0 p1 p2
  by_cases q : n ≤ x
  · exact Or.inr ⟨_, (hB x U p0 p1).1 q, U, rfl, p1, fun j hj => p2 j (by omega)⟩
  · refine Or.inl ⟨_, (hB x U p0 p1).2 (by omega), ⟨by dsimp only; omega, fun k i hk => ?_, fun j hj => ?_⟩, by dsimp only; omega⟩
    · dsimp only
      rw [pm_up_c hk]
      exact p1 k i hk
    · dsimp only at hj ⊢
      rw [up_at]
      by_cases ej : j = x.toNat
      · rw [if_pos ej, ej]
      · rw [if_neg ej]
        exact p2 j (by omega)
/-- with a sum beside -/
theorem wf_fillT {O : Type} {d : O} {n : Int} {w ck ci : Nat} {g : Nat → Int} {S : pm_M} {fin : pm_M → O} {B : Int × pm_M → (Int × pm_M) ⊕ O} (hn : 0 ≤ n) (hw : w ≠ ck) (hS : S ck ci = 0) (hB : ∀ (x : Int) (U : pm_M), 0 ≤ x → (∀ k i, k ≠ w → ¬ (k = ck ∧ i = ci) → U k i = S k i) → U ck ci = wk_S g x.toNat → (n ≤ x → B (x, U) = .inr (fin U)) ∧ (x < n → B (x, U) = .inl (x + 1, pm_up (pm_up U w x.toNat (g x.toNat)) ck ci (wk_S g (x.toNat + 1))))) : ∃ U, pf_val d B (0, S) = fin U ∧ (∀ k i, k ≠ w → ¬ (k = ck ∧ i = ci) → U k i = S k i) ∧ (∀ j : Nat, (j : Int) < n → U w j = g j) ∧ U ck ci = wk_S g n.toNat := by
  refine pf_val_ind2 (d := d) (b := B) (fun s => 0 ≤ s.1 ∧ s.1 ≤ n ∧ (∀ k i, k ≠ w → ¬ (k = ck ∧ i = ci) → s.2 k i = S k i) ∧ (∀ j : Nat, (j : Int) < s.1 → s.2 w j = g j) ∧ s.2 ck ci = wk_S g s.1.toNat) (fun o => ∃ U, o = fin U ∧ (∀ k i, k ≠ w → ¬ (k = ck ∧ i = ci) → U k i = S k i) ∧ (∀ j : Nat, (j : Int) < n → U w j = g j) ∧ U ck ci = wk_S g n.toNat) (fun s => (n - s.1).toNat) ?_ (0, S) ⟨Int.le_refl _, hn, fun _ _ _ _ => rfl, fun j hj => absurd hj (by dsimp only; omega), hS⟩
  rintro ⟨x, U⟩ ⟨p0, p1, p2, p3, p4⟩
  dsimp only at p0 p1 p2 p3 p4
  by_cases q : n ≤ x
  · have hx : x = n := by omega
    subst hx
    exact Or.inr ⟨_, (hB x U p0 p2 p4).1 q, U, rfl, p2, p3, p4⟩
  · refine Or.inl ⟨_, (hB x U p0 p2 p4).2 (by omega), ⟨by dsimp only; omega, by dsimp only; omega, fun k i hk hi => ?_, fun j hj => ?_, ?_⟩, by dsimp only; omega⟩
    · dsimp only
      rw [up_ne hi, pm_up_c hk]
      exact p2 k i hk hi
    · dsimp only at hj ⊢
      rw [pm_up_c hw, up_at]
      by_cases ej : j = x.toNat
      · rw [if_pos ej, ej]
      · rw [if_neg ej]
        exact p3 j (by omega)
    · dsimp only
      rw [pm_up_s, show (x + 1).toNat = x.toNat + 1 by omega]
/-- the sum of a row -/
theorem wf_sum {O : Type} {d : O} {n : Int} {S : pm_M} {fin : pm_M → O} {B : Int × pm_M → (Int × pm_M) ⊕ O} (hn : 0 ≤ n) (hS : S 90 51 = 0) (hB : ∀ (x : Int) (U : pm_M), 0 ≤ x → (n ≤ x → B (x, U) = .inr (fin U)) ∧ (x < n → B (x, U) = .inl (x + 1, pm_up U 90 51 (U 90 51 + U 112 x.toNat)))) : ∃ U, pf_val d B (0, S) = fin U ∧ (∀ k i, ¬ (k = 90 ∧ i = 51) → U k i = S k i) ∧ U 90 51 = wk_S (S 112) n.toNat := by
  refine pf_val_ind2 (d := d) (b := B) (fun s => 0 ≤ s.1 ∧ s.1 ≤ n ∧ (∀ k i, ¬ (k = 90 ∧ i = 51) → s.2 k i = S k i) ∧ s.2 90 51 = wk_S (S 112) s.1.toNat) (fun o => ∃ U, o = fin U ∧ (∀ k i, ¬ (k = 90 ∧ i = 51) → U k i = S k i) ∧ U 90 51 = wk_S (S 112) n.toNat) (fun s => (n - s.1).toNat) ?_ (0, S) ⟨Int.le_refl _, hn, fun _ _ _ => rfl, hS⟩
  rintro ⟨x, U⟩ ⟨p0, p1, p2, p3⟩
  dsimp only at p0 p1 p2 p3
  by_cases q : n ≤ x
  · have hx : x = n := by omega
    subst hx
    exact Or.inr ⟨_, (hB x U p0).1 q, U, rfl, p2, p3⟩
  · refine Or.inl ⟨_, (hB x U p0).2 (by omega), ⟨by dsimp only; omega, by dsimp only; omega, fun k i hi => ?_, ?_⟩, by dsimp only; omega⟩
    · dsimp only
      rw [up_ne hi]
      exact p2 k i hi
    · dsimp only
      rw [pm_up_s, show (x + 1).toNat = x.toNat + 1 by omega, p3, p2 112 x.toNat (by omega)]
      rfl
/-- the first of the greatest -/
def wk_ml (g : Nat → Int) : Nat → Nat
  | 0 => 0
  | k + 1 => if g (wk_ml g k) < g (k + 1) then k + 1 else wk_ml g k
theorem wk_ml_le (g : Nat → Int) : ∀ k : Nat, wk_ml g k ≤ k := by
  intro k
  induction k with
  | zero => exact Nat.le_refl _
  | succ k ih =>
    show (if g (wk_ml g k) < g (k + 1) then k + 1 else wk_ml g k) ≤ k + 1
    split <;> omega
theorem wk_ml_eq {g h : Nat → Int} : ∀ k : Nat, (∀ j : Nat, j ≤ k → g j = h j) → wk_ml g k = wk_ml h k := by
  intro k
  induction k with
  | zero => intro _; rfl
  | succ k ih =>
    intro e
    show (if g (wk_ml g k) < g (k + 1) then k + 1 else wk_ml g k) = (if h (wk_ml h k) < h (k + 1) then k + 1 else wk_ml h k)
    have l := wk_ml_le h k
    rw [ih (fun j hj => e j (by omega)), e (k + 1) (by omega), e (wk_ml h k) (by omega)]
def wk_M (g : Nat → Int) : Nat → Int
  | 0 => 0
  | k + 1 => pm_mx (wk_M g k) (g k)
theorem wk_M_ml {g : Nat → Int} : ∀ k : Nat, (∀ j : Nat, j ≤ k → 0 ≤ g j) → wk_M g (k + 1) = g (wk_ml g k) := by
  intro k
  induction k with
  | zero => intro h; exact if_pos (h 0 (by omega))
  | succ k ih =>
    intro h
    show pm_mx (wk_M g (k + 1)) (g (k + 1)) = g (if g (wk_ml g k) < g (k + 1) then k + 1 else wk_ml g k)
    rw [ih (fun j hj => h j (by omega))]
    unfold pm_mx
    by_cases c : g (wk_ml g k) < g (k + 1)
    · rw [if_pos c, if_pos (by omega)]
    · rw [if_neg c]
      by_cases c2 : g (wk_ml g k) ≤ g (k + 1)
      · rw [if_pos c2]
        omega
      · rw [if_neg c2]
theorem wk_M_eq {g h : Nat → Int} : ∀ n : Nat, (∀ j : Nat, j < n → g j = h j) → wk_M g n = wk_M h n := by
  intro n
  induction n with
  | zero => intro _; rfl
  | succ n ih =>
    intro e
    show pm_mx (wk_M g n) (g n) = pm_mx (wk_M h n) (h n)
    rw [ih (fun j hj => e j (by omega)), e n (by omega)]
theorem wk_M_b {g : Nat → Int} {M : Int} (hM : 0 ≤ M) : ∀ k : Nat, (∀ j : Nat, j < k → 0 ≤ g j ∧ g j ≤ M) → 0 ≤ wk_M g k ∧ wk_M g k ≤ M := by
  intro k
  induction k with
  | zero => intro _; exact ⟨Int.le_refl _, hM⟩
  | succ k ih =>
    intro h
    obtain ⟨i1, i2⟩ := ih (fun j hj => h j (by omega))
    obtain ⟨g1, g2⟩ := h k (by omega)
    show 0 ≤ pm_mx (wk_M g k) (g k) ∧ pm_mx (wk_M g k) (g k) ≤ M
    unfold pm_mx
    split <;> omega
theorem wf_ml {d : Int × pm_M} {n : Int} {g : Nat → Int} {V : pm_M} {B : Int × Int → (Int × Int) ⊕ (Int × pm_M)} (hn : 1 ≤ n) (hB : ∀ x1 x3 : Int, 0 ≤ x1 → x1 < n → 1 ≤ x3 → (n ≤ x3 → B (x1, x3) = .inr (x1, V)) ∧ (x3 < n → B (x1, x3) = if g x3.toNat ≤ g x1.toNat then .inl (x1, x3 + 1) else .inl (x3, x3 + 1))) : pf_val d B (0, 1) = (((wk_ml g (n - 1).toNat : Nat) : Int), V) := by
  refine pf_val_ind2 (d := d) (b := B) (fun s => 1 ≤ s.2 ∧ s.2 ≤ n ∧ s.1 = ((wk_ml g (s.2 - 1).toNat : Nat) : Int)) (fun o => o = (((wk_ml g (n - 1).toNat : Nat) : Int), V)) (fun s => (n - s.2).toNat) ?_ (0, 1) ⟨Int.le_refl _, hn, rfl⟩
  rintro ⟨x1, x3⟩ ⟨p0, p1, p2⟩
  dsimp only at p0 p1 p2
  have l := wk_ml_le g (x3 - 1).toNat
  obtain ⟨b1, b2⟩ := hB x1 x3 (by omega) (by omega) p0
  by_cases q : n ≤ x3
  · have hx : x3 = n := by omega
    subst hx
    exact Or.inr ⟨_, b1 q, by rw [p2]⟩
  · have b3 := b2 (by omega)
    have e1 : (x3 + 1 - 1).toNat = (x3 - 1).toNat + 1 := by omega
    have e2 : (x3 - 1).toNat + 1 = x3.toNat := by omega
    have e3 : x1.toNat = wk_ml g (x3 - 1).toNat := by omega
    by_cases c : g x3.toNat ≤ g x1.toNat
    · rw [if_pos c] at b3
      refine Or.inl ⟨_, b3, ⟨by dsimp only; omega, by dsimp only; omega, ?_⟩, by dsimp only; omega⟩
      dsimp only
      rw [e1]
      show x1 = (((if g (wk_ml g (x3 - 1).toNat) < g ((x3 - 1).toNat + 1) then (x3 - 1).toNat + 1 else wk_ml g (x3 - 1).toNat : Nat)) : Int)
      rw [e2, ← e3, if_neg (by omega)]
      omega
    · rw [if_neg c] at b3
      refine Or.inl ⟨_, b3, ⟨by dsimp only; omega, by dsimp only; omega, ?_⟩, by dsimp only; omega⟩
      dsimp only
      rw [e1]
      show x3 = (((if g (wk_ml g (x3 - 1).toNat) < g ((x3 - 1).toNat + 1) then (x3 - 1).toNat + 1 else wk_ml g (x3 - 1).toNat : Nat)) : Int)
      rw [e2, ← e3, if_pos (by omega)]
      omega
/-! WEIGHTS: the class's methods in closed form -/
def wc0 (c w : Nat) (n : Int) (V : pm_M) : Prop := (c = 45 ∨ c = 51) ∧ (w = 76 ∨ w = 77) ∧ V 73 0 = (c : Int) ∧ V 73 13 = (w : Int) ∧ V c 0 = n ∧ 0 ≤ n
def wz (w : Nat) (n : Int) (g : Nat → Int) (T : Int) (V Z : pm_M) : Prop := (∀ k i, k ≠ w → ¬ (k = 73 ∧ i = 14) → Z k i = V k i) ∧ (∀ j : Nat, (j : Int) < n → Z w j = g j) ∧ Z 73 14 = T
theorem wz.of {w : Nat} {n T : Int} {g : Nat → Int} {V V' Z : pm_M} (h : wz w n g T V' Z) (e : ∀ k i, k ≠ w → ¬ (k = 73 ∧ i = 14) → V' k i = V k i) : wz w n g T V Z := ⟨fun k i q1 q2 => (h.1 k i q1 q2).trans (e k i q1 q2), h.2.1, h.2.2⟩
theorem wc0.fr {c w : Nat} {n : Int} {V V' : pm_M} (h : wc0 c w n V) (e : ∀ k i, k ≠ w → ¬ (k = 73 ∧ i = 14) → V' k i = V k i) : wc0 c w n V' := by
  obtain ⟨h1, h2, h3, h4, h5, h6⟩ := h
  exact ⟨h1, h2, (e 73 0 (by omega) (by omega)).trans h3, (e 73 13 (by omega) (by omega)).trans h4, (e c 0 (by omega) (by omega)).trans h5, h6⟩
theorem wz.c {c w : Nat} {n T : Int} {g : Nat → Int} {V Z : pm_M} (h : wc0 c w n V) (q : wz w n g T V Z) : wc0 c w n Z := h.fr q.1
theorem cw_voice {c w : Nat} {n : Int} {V Z : pm_M} {z : Int} (h : wc0 c w n V) (hZ : F_X10_weighVoice V = (z, Z)) : wz w n (V 74) (V 73 10) V Z := by
  have e := hZ.symm.trans (F_X10_weighVoice_eq V)
  simp only [pf_let] at e
  obtain ⟨B, hB, e⟩ := pf_loop e
  obtain ⟨hc, hw, h0, h13, hn, hn0⟩ := h
  obtain ⟨U, e1, e2, e3⟩ := wf_fill (d := ((0 : Int), V)) (n := n) (w := w) (g := V 74) (S := V) (fin := fun U => ((0 : Int), pm_up U 73 14 (U 73 10))) (B := B) (fun x U x0 hU => by
    have q := congrFun hB (x, U)
    dsimp only at q
    rcases hc with rfl | rfl
    · rcases hw with rfl | rfl
      · have u0 : U 73 0 = 45 := (hU 73 0 (by decide)).trans h0
        have u13 : U 73 13 = 76 := (hU 73 13 (by decide)).trans h13
        have un : U 45 0 = n := (hU 45 0 (by decide)).trans hn
        rw [if_pos u0] at q
        refine ⟨fun c1 => by rw [if_pos (show U 45 0 ≤ x by omega)] at q; exact q, fun c1 => ?_⟩
        rw [if_neg (show ¬ U 45 0 ≤ x by omega), if_pos u13] at q
        rw [hU 74 x.toNat (by decide)] at q
        exact q
      · have u0 : U 73 0 = 45 := (hU 73 0 (by decide)).trans h0
        have u13 : U 73 13 = 77 := (hU 73 13 (by decide)).trans h13
        have un : U 45 0 = n := (hU 45 0 (by decide)).trans hn
        rw [if_pos u0] at q
        refine ⟨fun c1 => by rw [if_pos (show U 45 0 ≤ x by omega)] at q; exact q, fun c1 => ?_⟩
        rw [if_neg (show ¬ U 45 0 ≤ x by omega), if_neg (show ¬ U 73 13 = 76 by omega)] at q
        rw [hU 74 x.toNat (by decide)] at q
        exact q
    · rcases hw with rfl | rfl
      · have u0 : U 73 0 = 51 := (hU 73 0 (by decide)).trans h0
        have u13 : U 73 13 = 76 := (hU 73 13 (by decide)).trans h13
        have un : U 51 0 = n := (hU 51 0 (by decide)).trans hn
        rw [if_neg (show ¬ U 73 0 = 45 by omega)] at q
        refine ⟨fun c1 => by rw [if_pos (show U 51 0 ≤ x by omega)] at q; exact q, fun c1 => ?_⟩
        rw [if_neg (show ¬ U 51 0 ≤ x by omega), if_pos u13] at q
        rw [hU 74 x.toNat (by decide)] at q
        exact q
      · have u0 : U 73 0 = 51 := (hU 73 0 (by decide)).trans h0
        have u13 : U 73 13 = 77 := (hU 73 13 (by decide)).trans h13
        have un : U 51 0 = n := (hU 51 0 (by decide)).trans hn
        rw [if_neg (show ¬ U 73 0 = 45 by omega)] at q
        refine ⟨fun c1 => by rw [if_pos (show U 51 0 ≤ x by omega)] at q; exact q, fun c1 => ?_⟩
        rw [if_neg (show ¬ U 51 0 ≤ x by omega), if_neg (show ¬ U 73 13 = 76 by omega)] at q
        rw [hU 74 x.toNat (by decide)] at q
        exact q)
  obtain ⟨-, rfl⟩ := Prod.mk.inj (e.trans e1)
  refine ⟨fun k i q1 q2 => (up_ne q2).trans (e2 k i q1), fun j hj => ?_, ?_⟩
  · rw [pm_up_c (by omega)]
    exact e3 j hj
  · rw [pm_up_s]
    exact e2 73 10 (by omega)
theorem cw_face {c w : Nat} {n : Int} {V Z : pm_M} {z : Int} (h : wc0 c w n V) (hb : ∀ j : Nat, (j : Int) < n → 0 ≤ V (c + 3) j * V 75 j ∧ V (c + 3) j * V 75 j ≤ 1000000) (hn9 : n ≤ 9) (hZ : F_X10_weighFace V = (z, Z)) : wz w n (fun j => V (c + 3) j * V 75 j) (wk_S (fun j => V (c + 3) j * V 75 j) n.toNat) V Z := by
  have e := hZ.symm.trans (F_X10_weighFace_eq V)
  simp only [pf_let] at e
  obtain ⟨B, hB, e⟩ := pf_loop e
  obtain ⟨hc, hw, h0, h13, hn, hn0⟩ := h
  obtain ⟨g, hg⟩ : ∃ g : Nat → Int, g = fun j => V (c + 3) j * V 75 j := ⟨_, rfl⟩
  have hg' : ∀ j : Nat, V (c + 3) j * V 75 j = g j := fun j => by rw [hg]
  have hb' : ∀ j : Nat, (j : Int) < n → 0 ≤ g j ∧ g j ≤ 1000000 := fun j hj => by
    rw [← hg' j]
    exact hb j hj
  rw [← hg]
  have S0 : pm_up V 73 14 0 73 14 = 0 := pm_up_s
  have Sc : ∀ k i, ¬ (k = 73 ∧ i = 14) → pm_up V 73 14 0 k i = V k i := fun k i q => up_ne q
  obtain ⟨U, e1, e2, e3, e4⟩ := wf_fillT (d := ((0 : Int), V)) (n := n) (w := w) (ck := 73) (ci := 14) (g := g) (S := pm_up V 73 14 0) (fin := fun U => ((0 : Int), U)) (B := B) hn0 (by omega) S0 (fun x U x0 hU' hT => by
    have q := congrFun hB (x, U)
    dsimp only at q
    have hU : ∀ k i, k ≠ w → ¬ (k = 73 ∧ i = 14) → U k i = V k i := fun k i q1 q2 => (hU' k i q1 q2).trans (Sc k i q2)
    rcases hc with rfl | rfl
    · rcases hw with rfl | rfl
      · have u0 : U 73 0 = 45 := (hU 73 0 (by decide) (by decide)).trans h0
        have u13 : U 73 13 = 76 := (hU 73 13 (by decide) (by decide)).trans h13
        have un : U 45 0 = n := (hU 45 0 (by decide) (by decide)).trans hn
        rw [if_pos u0] at q
        refine ⟨fun c1 => by rw [if_pos (show U 45 0 ≤ x by omega)] at q; exact q, fun c1 => ?_⟩
        rw [if_neg (show ¬ U 45 0 ≤ x by omega), if_pos u13] at q
        rw [hU 48 x.toNat (by decide) (by omega), hU 75 x.toNat (by decide) (by omega)] at q
        have gx := hg' x.toNat
        have g0 : V 48 x.toNat * V 75 x.toNat = g x.toNat := gx
        rw [g0, hT] at q
        obtain ⟨b1, b2⟩ := hb' x.toNat (by omega)
        obtain ⟨b3, b4⟩ := wk_S_b (g := g) (M := 1000000) (by decide) x.toNat (fun j hj => hb' j (by omega))
        rw [pm_w64_id (x := g x.toNat) ⟨by omega, by omega⟩, pm_up_s, pm_w64_id ⟨by omega, by omega⟩] at q
        exact q
      · have u0 : U 73 0 = 45 := (hU 73 0 (by decide) (by decide)).trans h0
        have u13 : U 73 13 = 77 := (hU 73 13 (by decide) (by decide)).trans h13
        have un : U 45 0 = n := (hU 45 0 (by decide) (by decide)).trans hn
        rw [if_pos u0] at q
        refine ⟨fun c1 => by rw [if_pos (show U 45 0 ≤ x by omega)] at q; exact q, fun c1 => ?_⟩
        rw [if_neg (show ¬ U 45 0 ≤ x by omega), if_neg (show ¬ U 73 13 = 76 by omega)] at q
        rw [hU 48 x.toNat (by decide) (by omega), hU 75 x.toNat (by decide) (by omega)] at q
        have gx := hg' x.toNat
        have g0 : V 48 x.toNat * V 75 x.toNat = g x.toNat := gx
        rw [g0, hT] at q
        obtain ⟨b1, b2⟩ := hb' x.toNat (by omega)
        obtain ⟨b3, b4⟩ := wk_S_b (g := g) (M := 1000000) (by decide) x.toNat (fun j hj => hb' j (by omega))
        rw [pm_w64_id (x := g x.toNat) ⟨by omega, by omega⟩, pm_up_s, pm_w64_id ⟨by omega, by omega⟩] at q
        exact q
    · rcases hw with rfl | rfl
      · have u0 : U 73 0 = 51 := (hU 73 0 (by decide) (by decide)).trans h0
        have u13 : U 73 13 = 76 := (hU 73 13 (by decide) (by decide)).trans h13
        have un : U 51 0 = n := (hU 51 0 (by decide) (by decide)).trans hn
        rw [if_neg (show ¬ U 73 0 = 45 by omega)] at q
        refine ⟨fun c1 => by rw [if_pos (show U 51 0 ≤ x by omega)] at q; exact q, fun c1 => ?_⟩
        rw [if_neg (show ¬ U 51 0 ≤ x by omega), if_pos u13] at q
        rw [hU 54 x.toNat (by decide) (by omega), hU 75 x.toNat (by decide) (by omega)] at q
        have gx := hg' x.toNat
        have g0 : V 54 x.toNat * V 75 x.toNat = g x.toNat := gx
        rw [g0, hT] at q
        obtain ⟨b1, b2⟩ := hb' x.toNat (by omega)
        obtain ⟨b3, b4⟩ := wk_S_b (g := g) (M := 1000000) (by decide) x.toNat (fun j hj => hb' j (by omega))
        rw [pm_w64_id (x := g x.toNat) ⟨by omega, by omega⟩, pm_up_s, pm_w64_id ⟨by omega, by omega⟩] at q
        exact q
      · have u0 : U 73 0 = 51 := (hU 73 0 (by decide) (by decide)).trans h0
        have u13 : U 73 13 = 77 := (hU 73 13 (by decide) (by decide)).trans h13
        have un : U 51 0 = n := (hU 51 0 (by decide) (by decide)).trans hn
        rw [if_neg (show ¬ U 73 0 = 45 by omega)] at q
        refine ⟨fun c1 => by rw [if_pos (show U 51 0 ≤ x by omega)] at q; exact q, fun c1 => ?_⟩
        rw [if_neg (show ¬ U 51 0 ≤ x by omega), if_neg (show ¬ U 73 13 = 76 by omega)] at q
        rw [hU 54 x.toNat (by decide) (by omega), hU 75 x.toNat (by decide) (by omega)] at q
        have gx := hg' x.toNat
        have g0 : V 54 x.toNat * V 75 x.toNat = g x.toNat := gx
        rw [g0, hT] at q
        obtain ⟨b1, b2⟩ := hb' x.toNat (by omega)
        obtain ⟨b3, b4⟩ := wk_S_b (g := g) (M := 1000000) (by decide) x.toNat (fun j hj => hb' j (by omega))
        rw [pm_w64_id (x := g x.toNat) ⟨by omega, by omega⟩, pm_up_s, pm_w64_id ⟨by omega, by omega⟩] at q
        exact q)
  obtain ⟨-, rfl⟩ := Prod.mk.inj (e.trans e1)
  exact ⟨fun k i q1 q2 => (e2 k i q1 q2).trans (Sc k i q2), e3, e4⟩
theorem cw_single {c w : Nat} {n : Int} {V Z : pm_M} {z a : Int} (h : wc0 c w n V) (hZ : F_X10_weighSingle a V = (z, Z)) : wz w n (fun j => if (j : Int) = a then 1 else 0) 1 V Z := by
  have e := hZ.symm.trans (F_X10_weighSingle_eq a V)
  simp only [pf_let] at e
  obtain ⟨B, hB, e⟩ := pf_loop e
  obtain ⟨hc, hw, h0, h13, hn, hn0⟩ := h
  obtain ⟨U, e1, e2, e3⟩ := wf_fill (d := ((0 : Int), V)) (n := n) (w := w) (g := fun j : Nat => if (j : Int) = a then 1 else 0) (S := V) (fin := fun U => ((0 : Int), pm_up U 73 14 1)) (B := B) (fun x U x0 hU => by
    have q := congrFun hB (x, U)
    dsimp only at q
    have gx : (if ((x.toNat : Nat) : Int) = a then (1 : Int) else 0) = if x = a then 1 else 0 := by rw [Int.toNat_of_nonneg x0]
    show (n ≤ x → B (x, U) = .inr ((0 : Int), pm_up U 73 14 1)) ∧ (x < n → B (x, U) = .inl (x + 1, pm_up U w x.toNat (if ((x.toNat : Nat) : Int) = a then (1 : Int) else 0)))
    rw [gx]
    rcases hc with rfl | rfl
    · rcases hw with rfl | rfl
      · have u0 : U 73 0 = 45 := (hU 73 0 (by decide)).trans h0
        have u13 : U 73 13 = 76 := (hU 73 13 (by decide)).trans h13
        have un : U 45 0 = n := (hU 45 0 (by decide)).trans hn
        rw [if_pos u0] at q
        refine ⟨fun c1 => by rw [if_pos (show U 45 0 ≤ x by omega)] at q; exact q, fun c1 => ?_⟩
        rw [if_neg (show ¬ U 45 0 ≤ x by omega), if_pos u13] at q
        by_cases ca : x = a
        · rw [if_neg (fun h => h ca)] at q
          rw [if_pos ca]
          exact q
        · rw [if_pos ca] at q
          rw [if_neg ca]
          exact q
      · have u0 : U 73 0 = 45 := (hU 73 0 (by decide)).trans h0
        have u13 : U 73 13 = 77 := (hU 73 13 (by decide)).trans h13
        have un : U 45 0 = n := (hU 45 0 (by decide)).trans hn
        rw [if_pos u0] at q
        refine ⟨fun c1 => by rw [if_pos (show U 45 0 ≤ x by omega)] at q; exact q, fun c1 => ?_⟩
        rw [if_neg (show ¬ U 45 0 ≤ x by omega), if_neg (show ¬ U 73 13 = 76 by omega)] at q
        by_cases ca : x = a
        · rw [if_neg (fun h => h ca)] at q
          rw [if_pos ca]
          exact q
        · rw [if_pos ca] at q
          rw [if_neg ca]
          exact q
    · rcases hw with rfl | rfl
      · have u0 : U 73 0 = 51 := (hU 73 0 (by decide)).trans h0
        have u13 : U 73 13 = 76 := (hU 73 13 (by decide)).trans h13
        have un : U 51 0 = n := (hU 51 0 (by decide)).trans hn
        rw [if_neg (show ¬ U 73 0 = 45 by omega)] at q
        refine ⟨fun c1 => by rw [if_pos (show U 51 0 ≤ x by omega)] at q; exact q, fun c1 => ?_⟩
        rw [if_neg (show ¬ U 51 0 ≤ x by omega), if_pos u13] at q
        by_cases ca : x = a
        · rw [if_neg (fun h => h ca)] at q
          rw [if_pos ca]
          exact q
        · rw [if_pos ca] at q
          rw [if_neg ca]
          exact q
      · have u0 : U 73 0 = 51 := (hU 73 0 (by decide)).trans h0
        have u13 : U 73 13 = 77 := (hU 73 13 (by decide)).trans h13
        have un : U 51 0 = n := (hU 51 0 (by decide)).trans hn
        rw [if_neg (show ¬ U 73 0 = 45 by omega)] at q
        refine ⟨fun c1 => by rw [if_pos (show U 51 0 ≤ x by omega)] at q; exact q, fun c1 => ?_⟩
        rw [if_neg (show ¬ U 51 0 ≤ x by omega), if_neg (show ¬ U 73 13 = 76 by omega)] at q
        by_cases ca : x = a
        · rw [if_neg (fun h => h ca)] at q
          rw [if_pos ca]
          exact q
        · rw [if_pos ca] at q
          rw [if_neg ca]
          exact q)
  obtain ⟨-, rfl⟩ := Prod.mk.inj (e.trans e1)
  refine ⟨fun k i q1 q2 => (up_ne q2).trans (e2 k i q1), fun j hj => ?_, pm_up_s⟩
  rw [pm_up_c (by omega)]
  exact e3 j hj
theorem cw_one {c w : Nat} {n : Int} {V Z : pm_M} {z : Int} (h : wc0 c w n V) (hb : ∀ j : Nat, (j : Int) < n → 0 ≤ V 74 j * V 75 j ∧ V 74 j * V 75 j ≤ 1000000) (hZ : F_X10_weighOne V = (z, Z)) : (V 73 12 ≠ 0 → wz w n (fun j => V 74 j * V 75 j) (V 73 12) V Z) ∧ (V 73 12 = 0 → wz w n (V 74) (V 73 10) V Z) := by
  have e := hZ.symm.trans (F_X10_weighOne_eq V)
  simp only [pf_let] at e
  refine ⟨fun hJ => ?_, fun hJ => ?_⟩
  · rw [if_pos (show ¬ pm_cmp (V 73 12) 0 = 0 from fun q => hJ (pm_cmp_eq0.mp q))] at e
    obtain ⟨B, hB, e⟩ := pf_loop e
    obtain ⟨hc, hw, h0, h13, hn, hn0⟩ := h
    obtain ⟨U, e1, e2, e3⟩ := wf_fill (d := ((0 : Int), V)) (n := n) (w := w) (g := fun j => V 74 j * V 75 j) (S := V) (fin := fun U => ((0 : Int), pm_up U 73 14 (V 73 12))) (B := B) (fun x U x0 hU => by
      have q := congrFun hB (x, U)
      dsimp only at q
      rcases hc with rfl | rfl
      · rcases hw with rfl | rfl
        · have u0 : U 73 0 = 45 := (hU 73 0 (by decide)).trans h0
          have u13 : U 73 13 = 76 := (hU 73 13 (by decide)).trans h13
          have un : U 45 0 = n := (hU 45 0 (by decide)).trans hn
          rw [if_pos u0] at q
          refine ⟨fun c1 => by rw [if_pos (show U 45 0 ≤ x by omega)] at q; exact q, fun c1 => ?_⟩
          rw [if_neg (show ¬ U 45 0 ≤ x by omega), if_pos u13] at q
          obtain ⟨b1, b2⟩ := hb x.toNat (by omega)
          rw [hU 74 x.toNat (by decide), hU 75 x.toNat (by decide), pm_w64_id ⟨by omega, by omega⟩] at q
          exact q
        · have u0 : U 73 0 = 45 := (hU 73 0 (by decide)).trans h0
          have u13 : U 73 13 = 77 := (hU 73 13 (by decide)).trans h13
          have un : U 45 0 = n := (hU 45 0 (by decide)).trans hn
          rw [if_pos u0] at q
          refine ⟨fun c1 => by rw [if_pos (show U 45 0 ≤ x by omega)] at q; exact q, fun c1 => ?_⟩
          rw [if_neg (show ¬ U 45 0 ≤ x by omega), if_neg (show ¬ U 73 13 = 76 by omega)] at q
          obtain ⟨b1, b2⟩ := hb x.toNat (by omega)
          rw [hU 74 x.toNat (by decide), hU 75 x.toNat (by decide), pm_w64_id ⟨by omega, by omega⟩] at q
          exact q
      · rcases hw with rfl | rfl
        · have u0 : U 73 0 = 51 := (hU 73 0 (by decide)).trans h0
          have u13 : U 73 13 = 76 := (hU 73 13 (by decide)).trans h13
          have un : U 51 0 = n := (hU 51 0 (by decide)).trans hn
          rw [if_neg (show ¬ U 73 0 = 45 by omega)] at q
          refine ⟨fun c1 => by rw [if_pos (show U 51 0 ≤ x by omega)] at q; exact q, fun c1 => ?_⟩
          rw [if_neg (show ¬ U 51 0 ≤ x by omega), if_pos u13] at q
          obtain ⟨b1, b2⟩ := hb x.toNat (by omega)
          rw [hU 74 x.toNat (by decide), hU 75 x.toNat (by decide), pm_w64_id ⟨by omega, by omega⟩] at q
          exact q
        · have u0 : U 73 0 = 51 := (hU 73 0 (by decide)).trans h0
          have u13 : U 73 13 = 77 := (hU 73 13 (by decide)).trans h13
          have un : U 51 0 = n := (hU 51 0 (by decide)).trans hn
          rw [if_neg (show ¬ U 73 0 = 45 by omega)] at q
          refine ⟨fun c1 => by rw [if_pos (show U 51 0 ≤ x by omega)] at q; exact q, fun c1 => ?_⟩
          rw [if_neg (show ¬ U 51 0 ≤ x by omega), if_neg (show ¬ U 73 13 = 76 by omega)] at q
          obtain ⟨b1, b2⟩ := hb x.toNat (by omega)
          rw [hU 74 x.toNat (by decide), hU 75 x.toNat (by decide), pm_w64_id ⟨by omega, by omega⟩] at q
          exact q)
    obtain ⟨-, rfl⟩ := Prod.mk.inj (e.trans e1)
    refine ⟨fun k i q1 q2 => (up_ne q2).trans (e2 k i q1), fun j hj => ?_, pm_up_s⟩
    rw [pm_up_c (by omega)]
    exact e3 j hj
  · rw [if_neg (show ¬ ¬ pm_cmp (V 73 12) 0 = 0 from fun q => q (pm_cmp_eq0.mpr hJ))] at e
    obtain ⟨y, Y, hY⟩ : ∃ y Y, F_X10_weighVoice V = (y, Y) := ⟨_, _, rfl⟩
    replace e := e.trans (pf_call_eq hY)
    obtain ⟨-, rfl⟩ := Prod.mk.inj e
    exact cw_voice h hY
theorem cw_odds {c w : Nat} {n : Int} {V Z : pm_M} {z t A F J : Int} (h : wc0 c w n V) (ht : V 73 7 = t) (hA : V 73 10 = A) (hF : V 73 11 = F) (hJ : V 73 12 = J) (bt : 0 ≤ t ∧ t ≤ 16) (bn : n ≤ 9) (bA : 0 ≤ A ∧ A ≤ 13851) (bF : 0 ≤ F ∧ F ≤ 1539) (bJ : 0 ≤ J ∧ J ≤ 2368521) (hb : ∀ j : Nat, (j : Int) < n → (0 ≤ V 74 j ∧ V 74 j ≤ 1539) ∧ (0 ≤ V 75 j ∧ V 75 j ≤ 171)) (hZ : F_X10_weighOdds V = (z, Z)) : ((t * n) * J + ((16 - t) * F) * A ≠ 0 → wz w n (fun j => V 74 j * ((t * n) * V 75 j + (16 - t) * F)) ((t * n) * J + ((16 - t) * F) * A) V Z) ∧ ((t * n) * J + ((16 - t) * F) * A = 0 → wz w n (V 74) A V Z) := by
  have h' := h
  obtain ⟨hc, hw, h0, h13, hn, hn0⟩ := h'
  have e := hZ.symm.trans (F_X10_weighOdds_eq V)
  simp only [pf_let] at e
  obtain ⟨p, hp⟩ : ∃ p, t * n = p := ⟨_, rfl⟩
  obtain ⟨q, hq⟩ : ∃ q, (16 - t) * F = q := ⟨_, rfl⟩
  have bp : 0 ≤ p ∧ p ≤ 144 := by
    rw [← hp]
    exact pm_mulb bt.1 hn0 bt.2 bn (by decide)
  have bq : 0 ≤ q ∧ q ≤ 24624 := by
    rw [← hq]
    exact pm_mulb (by omega) bF.1 (show 16 - t ≤ 16 by omega) bF.2 (by decide)
  have b1 := pm_mulb (x := p) (y := J) (b := 144) (d := 2368521) (m := 341067024) bp.1 bJ.1 bp.2 bJ.2 (by decide)
  have b2 := pm_mulb (x := q) (y := A) (b := 24624) (d := 13851) (m := 341067024) bq.1 bA.1 bq.2 bA.2 (by decide)
  rw [hp, hq]
  obtain ⟨D, hD⟩ : ∃ D, p * J + q * A = D := ⟨_, rfl⟩
  rw [hD]
  rw [ht, hA, hF, hJ] at e
  have W1 : pm_w64 (t * n) = p := by
    rw [hp]
    exact pm_w64_id ⟨by omega, by omega⟩
  have W2 : pm_w64 (16 - t) = 16 - t := pm_w64_id ⟨by omega, by omega⟩
  have W3 : pm_w64 ((16 - t) * F) = q := by
    rw [hq]
    exact pm_w64_id ⟨by omega, by omega⟩
  have W4 : pm_w64 (p * J) = p * J := pm_w64_id ⟨by omega, by omega⟩
  have W5 : pm_w64 (q * A) = q * A := pm_w64_id ⟨by omega, by omega⟩
  have W6 : pm_w64 (p * J + q * A) = D := by
    rw [hD]
    exact pm_w64_id ⟨by omega, by omega⟩
  have Vc : ∀ k i, ¬ (k = 73 ∧ i = 14) → pm_up V 73 14 D k i = V k i := fun k i q => up_ne q
  have V14 : pm_up V 73 14 D 73 14 = D := pm_up_s
  obtain ⟨V', hV'⟩ : ∃ V', V' = pm_up V 73 14 D := ⟨_, rfl⟩
  rw [← hV'] at Vc V14
  have fin : ∀ (d : Int × pm_M) (B : Int × pm_M → (Int × pm_M) ⊕ (Int × pm_M)), (∀ (x : Int) (U : pm_M), 0 ≤ x → (∀ k i, k ≠ w → U k i = V' k i) → (n ≤ x → B (x, U) = .inr (0, U)) ∧ (x < n → B (x, U) = .inl (x + 1, pm_up U w x.toNat (pm_w64 (U 74 x.toNat * pm_w64 (pm_w64 (p * U 75 x.toNat) + q)))))) → (z, Z) = pf_val d B (0, V') → wz w n (fun j => V 74 j * (p * V 75 j + q)) D V Z := by
    intro d B hB e
    obtain ⟨U, e1, e2, e3⟩ := wf_fill (d := d) (n := n) (w := w) (g := fun j => V 74 j * (p * V 75 j + q)) (S := V') (fin := fun U => ((0 : Int), U)) (B := B) (fun x U x0 hU => by
      refine ⟨(hB x U x0 hU).1, fun c1 => ?_⟩
      have b0 := (hB x U x0 hU).2 c1
      obtain ⟨⟨a1, a2⟩, a3, a4⟩ := hb x.toNat (by omega)
      have u4 : U 74 x.toNat = V 74 x.toNat := (hU 74 x.toNat (by omega)).trans (Vc 74 x.toNat (by omega))
      have u5 : U 75 x.toNat = V 75 x.toNat := (hU 75 x.toNat (by omega)).trans (Vc 75 x.toNat (by omega))
      have m1 := pm_mulb (x := p) (y := V 75 x.toNat) (b := 144) (d := 171) (m := 24624) bp.1 a3 bp.2 a4 (by decide)
      have m2 := pm_mulb (x := V 74 x.toNat) (y := p * V 75 x.toNat + q) (b := 1539) (d := 49248) (m := 75792672) a1 (by omega) a2 (by omega) (by decide)
      rw [u4, u5, pm_w64_id (x := p * V 75 x.toNat) ⟨by omega, by omega⟩, pm_w64_id (x := p * V 75 x.toNat + q) ⟨by omega, by omega⟩, pm_w64_id ⟨by omega, by omega⟩] at b0
      exact b0)
    obtain ⟨-, rfl⟩ := Prod.mk.inj (e.trans e1)
    exact ⟨fun k i q1 q2 => (e2 k i q1).trans (Vc k i q2), e3, (e2 73 14 (by omega)).trans V14⟩
  have zero : (z, Z) = pf_call (F_X10_weighVoice V') (fun _ Y => ((0 : Int), Y)) → wz w n (V 74) A V Z := fun e => by
    obtain ⟨y, Y, hY⟩ : ∃ y Y, F_X10_weighVoice V' = (y, Y) := ⟨_, _, rfl⟩
    replace e := e.trans (pf_call_eq hY)
    obtain ⟨-, rfl⟩ := Prod.mk.inj e
    have h2 := cw_voice (h.fr fun k i q1 q2 => Vc k i q2) hY
    have e74 : V' 74 = V 74 := funext fun i => Vc 74 i (by omega)
    rw [e74, Vc 73 10 (by omega), hA] at h2
    exact h2.of fun k i q1 q2 => Vc k i q2
  have u13 : ∀ U : pm_M, (∀ k i, k ≠ w → U k i = V' k i) → U 73 13 = (w : Int) := fun U hU => (hU 73 13 (by omega)).trans ((Vc 73 13 (by omega)).trans h13)
  rcases hc with rfl | rfl
  · have k0 : V 73 0 = 45 := h0
    rw [if_pos k0, hn, W1, W2, W3, W4, W5, W6, ← hV'] at e
    refine ⟨fun hD0 => ?_, fun hD0 => ?_⟩
    · rw [if_pos (show ¬ pm_cmp D 0 = 0 from fun q => hD0 (pm_cmp_eq0.mp q))] at e
      obtain ⟨B, hB, e⟩ := pf_loop e
      refine fin _ B (fun x U x0 hU => ?_) e
      have q := congrFun hB (x, U)
      dsimp only at q
      have u := u13 U hU
      refine ⟨fun c1 => by rw [if_pos c1] at q; exact q, fun c1 => ?_⟩
      rcases hw with rfl | rfl
      · have u1 : U 73 13 = 76 := u
        rw [if_neg (by omega), if_pos u1] at q
        exact q
      · have u1 : U 73 13 = 77 := u
        rw [if_neg (by omega), if_neg (by omega)] at q
        exact q
    · rw [if_neg (show ¬ ¬ pm_cmp D 0 = 0 from fun q => q (pm_cmp_eq0.mpr hD0))] at e
      exact zero e
  · have k0 : V 73 0 = 51 := h0
    rw [if_neg (by omega), hn, W1, W2, W3, W4, W5, W6, ← hV'] at e
    refine ⟨fun hD0 => ?_, fun hD0 => ?_⟩
    · rw [if_pos (show ¬ pm_cmp D 0 = 0 from fun q => hD0 (pm_cmp_eq0.mp q))] at e
      obtain ⟨B, hB, e⟩ := pf_loop e
      refine fin _ B (fun x U x0 hU => ?_) e
      have q := congrFun hB (x, U)
      dsimp only at q
      have u := u13 U hU
      refine ⟨fun c1 => by rw [if_pos c1] at q; exact q, fun c1 => ?_⟩
      rcases hw with rfl | rfl
      · have u1 : U 73 13 = 76 := u
        rw [if_neg (by omega), if_pos u1] at q
        exact q
      · have u1 : U 73 13 = 77 := u
        rw [if_neg (by omega), if_neg (by omega)] at q
        exact q
    · rw [if_neg (show ¬ ¬ pm_cmp D 0 = 0 from fun q => q (pm_cmp_eq0.mpr hD0))] at e
      exact zero e
theorem cw_ml {c w : Nat} {n : Int} {V : pm_M} (h : wc0 c w n V) (hn1 : 1 ≤ n) : F_X10_mostLikely V = (((wk_ml (V w) (n - 1).toNat : Nat) : Int), V) := by
  obtain ⟨hc, hw, h0, h13, hn, hn0⟩ := h
  have e := F_X10_mostLikely_eq V
  simp only [pf_let] at e
  obtain ⟨B, hB, e⟩ := pf_loop e
  rw [e]
  refine wf_ml hn1 (fun x1 x3 a0 a1 a2 => ?_)
  have q := congrFun hB (x1, x3)
  dsimp only at q
  rcases hc with rfl | rfl
  · rcases hw with rfl | rfl
    · have k0 : V 73 0 = 45 := h0
      have k13 : V 73 13 = 76 := h13
      rw [if_pos k0, hn] at q
      refine ⟨fun c1 => by rw [if_pos c1] at q; exact q, fun c1 => ?_⟩
      rw [if_neg (by omega), if_pos k13] at q
      by_cases c2 : V 76 x3.toNat ≤ V 76 x1.toNat
      · rw [if_pos (pm_cmp_le0.mpr c2)] at q
        rw [if_pos c2]
        exact q
      · rw [if_neg (fun r => c2 (pm_cmp_le0.mp r))] at q
        rw [if_neg c2]
        exact q
    · have k0 : V 73 0 = 45 := h0
      have k13 : V 73 13 = 77 := h13
      rw [if_pos k0, hn] at q
      refine ⟨fun c1 => by rw [if_pos c1] at q; exact q, fun c1 => ?_⟩
      rw [if_neg (by omega), if_neg (by omega)] at q
      by_cases c2 : V 77 x3.toNat ≤ V 77 x1.toNat
      · rw [if_pos (pm_cmp_le0.mpr c2)] at q
        rw [if_pos c2]
        exact q
      · rw [if_neg (fun r => c2 (pm_cmp_le0.mp r))] at q
        rw [if_neg c2]
        exact q
  · rcases hw with rfl | rfl
    · have k0 : V 73 0 = 51 := h0
      have k13 : V 73 13 = 76 := h13
      rw [if_neg (by omega), hn] at q
      refine ⟨fun c1 => by rw [if_pos c1] at q; exact q, fun c1 => ?_⟩
      rw [if_neg (by omega), if_pos k13] at q
      by_cases c2 : V 76 x3.toNat ≤ V 76 x1.toNat
      · rw [if_pos (pm_cmp_le0.mpr c2)] at q
        rw [if_pos c2]
        exact q
      · rw [if_neg (fun r => c2 (pm_cmp_le0.mp r))] at q
        rw [if_neg c2]
        exact q
    · have k0 : V 73 0 = 51 := h0
      have k13 : V 73 13 = 77 := h13
      rw [if_neg (by omega), hn] at q
      refine ⟨fun c1 => by rw [if_pos c1] at q; exact q, fun c1 => ?_⟩
      rw [if_neg (by omega), if_neg (by omega)] at q
      by_cases c2 : V 77 x3.toNat ≤ V 77 x1.toNat
      · rw [if_pos (pm_cmp_le0.mpr c2)] at q
        rw [if_pos c2]
        exact q
      · rw [if_neg (fun r => c2 (pm_cmp_le0.mp r))] at q
        rw [if_neg c2]
        exact q
theorem cw_gw {c w : Nat} {n : Int} {V : pm_M} (h : wc0 c w n V) (hn1 : 1 ≤ n) : F_X10_greatestWeight V = (V w (wk_ml (V w) (n - 1).toNat), V) := by
  have e := F_X10_greatestWeight_eq V
  simp only [pf_let] at e
  have hm := cw_ml h hn1
  obtain ⟨hc, hw, h0, h13, hn, hn0⟩ := h
  rcases hw with rfl | rfl
  · replace e := (e.trans (if_pos h13)).trans (pf_call_eq hm)
    rw [Int.toNat_natCast] at e
    exact e
  · replace e := (e.trans (if_neg (show ¬ V 73 13 = 76 from fun q => absurd (h13.symm.trans q) (by decide)))).trans (pf_call_eq hm)
    rw [Int.toNat_natCast] at e
    exact e
theorem cw_surer {c w : Nat} {n : Int} {V Z : pm_M} {z : Int} (h : wc0 c w n V) (hn1 : 1 ≤ n) (hn9 : n ≤ 9) (hb : ∀ j : Nat, (j : Int) < n → 0 ≤ V (c + 3) j * V 75 j ∧ V (c + 3) j * V 75 j ≤ 1000000) (ha : ∀ j : Nat, (j : Int) < n → 0 ≤ V 74 j ∧ V 74 j ≤ 1539) (bA : 0 ≤ V 73 10 ∧ V 73 10 ≤ 13851) (hZ : F_X10_weighSurer V = (z, Z)) : (wk_M (V 74) n.toNat * wk_S (fun j => V (c + 3) j * V 75 j) n.toNat < wk_M (fun j => V (c + 3) j * V 75 j) n.toNat * V 73 10 → wz w n (fun j => V (c + 3) j * V 75 j) (wk_S (fun j => V (c + 3) j * V 75 j) n.toNat) V Z) ∧ (wk_M (fun j => V (c + 3) j * V 75 j) n.toNat * V 73 10 ≤ wk_M (V 74) n.toNat * wk_S (fun j => V (c + 3) j * V 75 j) n.toNat → wz w n (V 74) (V 73 10) V Z) := by
  obtain ⟨g, hg⟩ : ∃ g : Nat → Int, g = fun j => V (c + 3) j * V 75 j := ⟨_, rfl⟩
  have e := hZ.symm.trans (F_X10_weighSurer_eq V)
  obtain ⟨y1, V1, h1⟩ : ∃ y Y, F_X10_weighFace V = (y, Y) := ⟨_, _, rfl⟩
  replace e := e.trans (pf_call_eq h1)
  have k1 := cw_face h hb hn9 h1
  have f1 := wz.c h k1
  replace e := e.trans (pf_call_eq (cw_gw f1 hn1))
  replace e := e.trans (pf_let_eq rfl)
  obtain ⟨y2, V2, h2⟩ : ∃ y Y, F_X10_weighVoice V1 = (y, Y) := ⟨_, _, rfl⟩
  replace e := e.trans (pf_call_eq h2)
  replace e := e.trans (pf_let_eq rfl)
  replace e := e.trans (pf_let_eq rfl)
  have k2 := cw_voice f1 h2
  have f2 := wz.c f1 k2
  replace e := e.trans (pf_call_eq (cw_gw f2 hn1))
  replace e := e.trans (pf_let_eq rfl)
  replace e := e.trans (pf_let_eq rfl)
  have hh := h
  obtain ⟨hc, hw, h0, h13, hn, hn0⟩ := hh
  have e74 : V1 74 = V 74 := funext fun i => k1.1 74 i (by omega) (by omega)
  have e10 : V1 73 10 = V 73 10 := k1.1 73 10 (by omega) (by omega)
  rw [e74, e10] at k2
  have k2' : wz w n (V 74) (V 73 10) V V2 := k2.of k1.1
  rw [← hg] at k1 ⊢
  have N : n.toNat = (n - 1).toNat + 1 := by omega
  have m1 : V1 w (wk_ml (V1 w) (n - 1).toNat) = wk_M g n.toNat := by
    rw [wk_ml_eq (h := g) (n - 1).toNat (fun j hj => k1.2.1 j (by omega)), N, wk_M_ml (n - 1).toNat (fun j hj => by have q := hb j (by omega); rw [hg]; exact q.1)]
    have l := wk_ml_le g (n - 1).toNat
    exact k1.2.1 _ (by omega)
  have m2 : V2 w (wk_ml (V2 w) (n - 1).toNat) = wk_M (V 74) n.toNat := by
    rw [wk_ml_eq (h := V 74) (n - 1).toNat (fun j hj => k2.2.1 j (by omega)), N, wk_M_ml (n - 1).toNat (fun j hj => (ha j (by omega)).1)]
    have l := wk_ml_le (V 74) (n - 1).toNat
    exact k2.2.1 _ (by omega)
  have t1 : V1 73 14 = wk_S g n.toNat := k1.2.2
  have t2 : V2 73 14 = V 73 10 := k2.2.2
  have bg : ∀ j : Nat, j < n.toNat → 0 ≤ g j ∧ g j ≤ 1000000 := fun j hj => by rw [hg]; exact hb j (by omega)
  have B1 := wk_M_b (g := g) (M := 1000000) (by decide) n.toNat bg
  have B2 := wk_M_b (g := V 74) (M := 1539) (by decide) n.toNat (fun j hj => ha j (by omega))
  have B3 := wk_S_b (g := g) (M := 1000000) (by decide) n.toNat bg
  obtain ⟨a, hA⟩ : ∃ a, wk_M g n.toNat = a := ⟨_, rfl⟩
  obtain ⟨b, hB⟩ : ∃ b, wk_M (V 74) n.toNat = b := ⟨_, rfl⟩
  obtain ⟨s, hs⟩ : ∃ s, wk_S g n.toNat = s := ⟨_, rfl⟩
  obtain ⟨A, hAA⟩ : ∃ A, V 73 10 = A := ⟨_, rfl⟩
  rw [m1, m2, t1, t2, hA, hB, hs, hAA] at e
  rw [hA] at B1
  rw [hB] at B2
  rw [hs] at B3
  rw [hAA] at bA k2'
  rw [hA, hB, hs, hAA]
  have C1 := pm_mulb (x := a) (y := A) (b := 1000000) (d := 13851) (m := 13851000000) B1.1 bA.1 B1.2 bA.2 (by omega)
  have C2 := pm_mulb (x := b) (y := s) (b := 1539) (d := 9000000) (m := 13851000000) B2.1 B3.1 B2.2 (by omega) (by omega)
  rw [pm_w64_id (x := a * A) ⟨by omega, by omega⟩, pm_w64_id (x := b * s) ⟨by omega, by omega⟩] at e
  refine ⟨fun q => ?_, fun q => ?_⟩
  · rw [if_neg (show ¬ pm_cmp (a * A) (b * s) ≤ 0 from fun r => absurd (pm_cmp_le0.mp r) (by omega))] at e
    obtain ⟨y3, V3, h3⟩ : ∃ y Y, F_X10_weighFace V2 = (y, Y) := ⟨_, _, rfl⟩
    replace e := e.trans (pf_call_eq h3)
    obtain ⟨-, ez⟩ := Prod.mk.inj e
    rw [ez]
    have ec : V2 (c + 3) = V (c + 3) := funext fun i => k2'.1 (c + 3) i (by omega) (by omega)
    have e75 : V2 75 = V 75 := funext fun i => k2'.1 75 i (by omega) (by omega)
    have k3 := cw_face f2 (by rw [ec, e75]; exact hb) hn9 h3
    rw [ec, e75, ← hg, hs] at k3
    exact k3.of k2'.1
  · rw [if_pos (pm_cmp_le0.mpr q)] at e
    obtain ⟨-, ez⟩ := Prod.mk.inj e
    rw [ez]
    exact k2'
theorem cw_learnt {c : Nat} {V Z : pm_M} {y a1 a2 : Int} (hZ : F_X5_learntOf c a1 a2 V = (y, Z)) : (y = -1 ∧ ∀ k : Nat, (k : Int) < V c 10 → V (c + 4) k ≠ (a1 * 10) + a2) ∨ ∃ k : Nat, (k : Int) < V c 10 ∧ V (c + 4) k = (a1 * 10) + a2 ∧ y = V (c + 5) k ∧ ∀ i : Nat, i < k → V (c + 4) i ≠ (a1 * 10) + a2 := by
  have e := hZ.symm.trans (F_X5_learntOf_eq c a1 a2 V)
  simp only [pf_let] at e
  obtain ⟨B, hB, e⟩ := pf_loop e
  have key := pf_val_ind2 (d := ((0 : Int), V)) (b := B) (fun s => 0 ≤ s ∧ ∀ k : Nat, (k : Int) < s → V (c + 4) k ≠ (a1 * 10) + a2) (fun o => (o.1 = -1 ∧ ∀ k : Nat, (k : Int) < V c 10 → V (c + 4) k ≠ (a1 * 10) + a2) ∨ ∃ k : Nat, (k : Int) < V c 10 ∧ V (c + 4) k = (a1 * 10) + a2 ∧ o.1 = V (c + 5) k ∧ ∀ i : Nat, i < k → V (c + 4) i ≠ (a1 * 10) + a2) (fun s => (V c 10 - s).toNat) ?_ 0 ⟨Int.le_refl _, fun k hk => absurd hk (by omega)⟩
  · rw [← e] at key
    exact key
  · intro x p
    obtain ⟨p0, p1⟩ := p
    have q := congrFun hB x
    by_cases c1 : V c 10 ≤ x
    · rw [if_pos c1] at q
      exact Or.inr ⟨_, q, Or.inl ⟨rfl, fun k hk => p1 k (by omega)⟩⟩
    · rw [if_neg c1] at q
      by_cases c2 : V (c + 4) x.toNat = (a1 * 10) + a2
      · rw [if_neg (fun r => r c2)] at q
        exact Or.inr ⟨_, q, Or.inr ⟨x.toNat, by omega, c2, rfl, fun i hi => p1 i (by omega)⟩⟩
      · rw [if_pos c2] at q
        refine Or.inl ⟨_, q, ⟨by first | omega | (dsimp only; omega), fun k hk => ?_⟩, by first | omega | (dsimp only; omega)⟩
        by_cases ek : k = x.toNat
        · rw [ek]
          exact c2
        · exact p1 k (by omega)
theorem cw_far {c : Nat} {V : pm_M} (hc : c = 45 ∨ c = 51) (h0 : V 73 0 = (c : Int)) (x a b : Int) : F_X10_farFrom x a b V = (pm_ab (V (c + 1) x.toNat - a) + pm_ab (V (c + 2) x.toNat - b), V) := by
  have e := F_X10_farFrom_eq x a b V
  simp only [pf_let] at e
  rcases hc with rfl | rfl
  · exact e.trans (if_pos h0)
  · exact e.trans (if_neg (show ¬ V 73 0 = 45 from fun q => absurd (h0.symm.trans q) (by decide)))
theorem cw_between {c w : Nat} {n : Int} {V Z : pm_M} {y v f sv sf : Int} (h : wc0 c w n V) (hn1 : 1 ≤ n) (hv : V 73 1 = v) (hf : V 73 2 = f) (hsv : V 73 5 = sv) (hsf : V 73 6 = sf) (bs : 1 ≤ sv ∧ 1 ≤ sf) (hZ : F_X10_soundBetween V = (y, Z)) : y = ((wk_ml (fun j => -(pm_ab (V (c + 1) j - (V (c + 1) v.toNat * sf + V (c + 1) f.toNat * sv) / (sv + sf)) + pm_ab (V (c + 2) j - V (c + 2) v.toNat))) (n - 1).toNat : Nat) : Int) ∧ Z = V := by
  obtain ⟨hc, hw, h0, h13, hn, hn0⟩ := h
  have e := hZ.symm.trans (F_X10_soundBetween_eq V)
  simp only [pf_let] at e
  have m : pm_mx 1 (sv + sf) = sv + sf := if_pos (by omega)
  rw [hsv, hsf, m, hv, hf] at e
  obtain ⟨pl, hpl⟩ : ∃ pl, (V (c + 1) v.toNat * sf + V (c + 1) f.toNat * sv) / (sv + sf) = pl := ⟨_, rfl⟩
  rw [hpl]
  have far := cw_far hc h0
  have fin : ∀ (d : Int × pm_M) (B : Int × Int → (Int × Int) ⊕ (Int × pm_M)), (∀ x1 x3 : Int, B (x1, x3) = if n ≤ x3 then .inr (x1, V) else if pm_ab (V (c + 1) x1.toNat - pl) + pm_ab (V (c + 2) x1.toNat - V (c + 2) v.toNat) ≤ pm_ab (V (c + 1) x3.toNat - pl) + pm_ab (V (c + 2) x3.toNat - V (c + 2) v.toNat) then .inl (x1, x3 + 1) else .inl (x3, x3 + 1)) → (y, Z) = pf_val d B (0, 1) → y = ((wk_ml (fun j => -(pm_ab (V (c + 1) j - pl) + pm_ab (V (c + 2) j - V (c + 2) v.toNat))) (n - 1).toNat : Nat) : Int) ∧ Z = V := by
    intro d B hB e
    have k := wf_ml (d := d) (n := n) (g := fun j => -(pm_ab (V (c + 1) j - pl) + pm_ab (V (c + 2) j - V (c + 2) v.toNat))) (V := V) (B := B) hn1 (fun x1 x3 _ _ _ => by
      have q := hB x1 x3
      refine ⟨fun c1 => by rw [if_pos c1] at q; exact q, fun c1 => ?_⟩
      rw [if_neg (by omega)] at q
      by_cases c2 : pm_ab (V (c + 1) x1.toNat - pl) + pm_ab (V (c + 2) x1.toNat - V (c + 2) v.toNat) ≤ pm_ab (V (c + 1) x3.toNat - pl) + pm_ab (V (c + 2) x3.toNat - V (c + 2) v.toNat)
      · rw [if_pos c2] at q
        rw [if_pos (by omega)]
        exact q
      · rw [if_neg c2] at q
        rw [if_neg (by omega)]
        exact q)
    exact Prod.mk.inj (e.trans k)
  rcases hc with rfl | rfl
  · have k0 : V 73 0 = 45 := h0
    have hpl2 : (V 46 v.toNat * sf + V 46 f.toNat * sv) / (sv + sf) = pl := hpl
    rw [if_pos k0, hpl2] at e
    obtain ⟨B, hB, e⟩ := pf_loop e
    refine fin _ B (fun x1 x3 => ?_) e
    have q := congrFun hB (x1, x3)
    dsimp only at q
    simp only [far, pf_call, hn] at q
    exact q
  · have k0 : V 73 0 = 51 := h0
    have hpl2 : (V 52 v.toNat * sf + V 52 f.toNat * sv) / (sv + sf) = pl := hpl
    rw [if_neg (by omega), hpl2] at e
    obtain ⟨B, hB, e⟩ := pf_loop e
    refine fin _ B (fun x1 x3 => ?_) e
    have q := congrFun hB (x1, x3)
    dsimp only at q
    simp only [far, pf_call, hn] at q
    exact q
