/-! WEIGHTS: both sides weigh alike -/
theorem wk_S_le {g h : Nat → Int} : ∀ n : Nat, (∀ j : Nat, j < n → g j ≤ h j) → wk_S g n ≤ wk_S h n := by
  intro n
  induction n with
  | zero => intro _; exact Int.le_refl _
  | succ n ih =>
    intro e
    have h1 := ih (fun j hj => e j (by omega))
    have h2 := e n (by omega)
    show wk_S g n + g n ≤ wk_S h n + h n
    omega
theorem wk_odd (a p f q : Int) : a * (p * f + q) = (p * a) * f + q * a := by
  rw [Int.mul_add, Int.mul_comm a q, ← Int.mul_assoc, Int.mul_comm a p]
theorem wk_S_lin (a f : Nat → Int) (p q : Int) : ∀ n : Nat, wk_S (fun j => (p * a j) * f j + q * a j) n = p * wk_S (fun j => a j * f j) n + q * wk_S a n := by
  intro n
  induction n with
  | zero => show (0 : Int) = p * 0 + q * 0; rw [Int.mul_zero, Int.mul_zero]; rfl
  | succ n ih =>
    show wk_S (fun j => (p * a j) * f j + q * a j) n + ((p * a n) * f n + q * a n) = p * (wk_S (fun j => a j * f j) n + a n * f n) + q * (wk_S a n + a n)
    rw [ih, Int.mul_add p, Int.mul_add q, Int.mul_assoc p (a n) (f n)]
    omega
theorem wk_S_single (a : Nat) : ∀ n : Nat, wk_S (fun j : Nat => if (j : Int) = (a : Int) then 1 else 0) n = if a < n then 1 else 0 := by
  intro n
  induction n with
  | zero => exact (if_neg (Nat.not_lt_zero a)).symm
  | succ n ih =>
    show wk_S (fun j : Nat => if (j : Int) = (a : Int) then 1 else 0) n + (if (n : Int) = (a : Int) then 1 else 0) = _
    rw [ih]
    by_cases c : a < n
    · rw [if_pos c, if_neg (by omega), if_pos (by omega)]
      rfl
    · rw [if_neg c]
      by_cases c2 : a = n
      · rw [if_pos (by omega), if_pos (by omega)]
        rfl
      · rw [if_neg (by omega), if_neg (by omega)]
        rfl
/-- what weighing writes alone -/
def wfz (V Z W X : pm_M) : Prop := ((∀ k i, k ≠ 76 → k ≠ 77 → ¬ (k = 73 ∧ i = 14) → Z k i = V k i) ∧ ∀ (k i : Nat), k ≠ 73 → V 73 13 ≠ (k : Int) → Z k i = V k i) ∧ ∀ k i, k ≠ 112 → ¬ (k = 90 ∧ i = 51) → X k i = W k i
theorem wfz.C {V Z W X : pm_M} (h : wfz V Z W X) : fC V Z := fun k i q => h.1.1 k i (by omega) (by omega) (by omega)
theorem wfz.R {V Z W X : pm_M} (h : wfz V Z W X) : fR W X := ⟨fun k q1 _ _ q4 => funext fun i => h.2 k i q4 (by omega), fun i q => h.2 90 i (by decide) (by omega)⟩
theorem wr.fr {c : Nat} {n : Int} {V Z W X : pm_M} (h : wr c n V W) (f : wfz V Z W X) : wr c n Z X := by
  obtain ⟨⟨hc, h73, hcn, hwn, h13⟩, ⟨hS, hb⟩, ⟨v1, v2, v3, v4, v5, v6⟩, ⟨s1, s2, s3, s4, s5, s6⟩, ⟨t1, t2, t3⟩, ⟨a1, a2, a3, a4, a5, a6, a7, a8⟩, hj⟩ := h
  have fr := f.R
  obtain ⟨⟨e, -⟩, g⟩ := f
  have cc : ∀ k : Nat, k ≤ 5 → Z (c + k) = V (c + k) := fun k hk => funext fun i => e (c + k) i (by omega) (by omega) (by omega)
  have cc0 : Z c = V c := cc 0 (by decide)
  have g110 : X 110 = W 110 := funext fun i => g 110 i (by decide) (by omega)
  have g111 : X 111 = W 111 := funext fun i => g 111 i (by decide) (by omega)
  have ef : ∀ i, i ≠ 14 → Z 73 i = V 73 i := fun i hi => e 73 i (by decide) (by decide) (by omega)
  have gf : ∀ i, i ≠ 51 → X 90 i = W 90 i := fun i hi => g 90 i (by decide) (by omega)
  unfold wr
  rw [ef 0 (by decide), cc0, gf 16 (by decide), ef 13 (by decide), ef 1 (by decide), ef 2 (by decide), ef 5 (by decide), ef 6 (by decide), ef 7 (by decide), ef 10 (by decide), ef 11 (by decide), ef 12 (by decide), gf 48 (by decide), gf 49 (by decide), gf 42 (by decide), gf 43 (by decide), gf 47 (by decide), gf 44 (by decide), gf 45 (by decide), gf 46 (by decide), g110, g111]
  refine ⟨⟨hc, h73, hcn, hwn, h13⟩, ⟨hS.eq cc0 (cc 1 (by decide)) (cc 2 (by decide)) (cc 3 (by decide)) (cc 4 (by decide)) (cc 5 (by decide)) (gf 16 (by decide)) (gf 19 (by decide)) (gf 20 (by decide)) (gf 21 (by decide)) (fr.1 97 (by decide) (by decide) (by decide) (by decide)) (fr.1 98 (by decide) (by decide) (by decide) (by decide)) (fr.1 99 (by decide) (by decide) (by decide) (by decide)), fr.b hb⟩, ⟨v1, v2, v3, v4, v5, v6⟩, ⟨s1, s2, s3, s4, s5, s6⟩, ⟨t1, t2, t3⟩, ⟨a1, a2, a3, a4, a5, a6, a7, a8⟩, fun j hj' => ?_⟩
  rw [e 74 j (by decide) (by decide) (by omega), e 75 j (by decide) (by decide) (by omega)]
  exact hj j hj'
/-- a trial weighed -/
def wx (c : Nat) (n : Int) (V W : pm_M) : Prop := wr c n V W ∧ (∀ j : Nat, (j : Int) < n → V (V 73 13).toNat j = W 112 j ∧ 0 ≤ W 112 j ∧ W 112 j ≤ 80000000) ∧ V 73 14 = W 90 51 ∧ W 90 51 = wk_S (W 112) n.toNat ∧ 1 ≤ W 90 51
theorem ww_of {c w : Nat} {n T : Int} {V W Z X : pm_M} {g g' : Nat → Int} (h : wr c n V W) (hw : w = 76 ∨ w = 77) (ew : V 73 13 = (w : Int)) (k : wz w n g T V Z) (m : wy n g' W X) (eg : ∀ j : Nat, (j : Int) < n → g j = g' j) (eT : T = wk_S g' n.toNat) (bg : ∀ j : Nat, (j : Int) < n → 0 ≤ g' j ∧ g' j ≤ 80000000) (b1 : 1 ≤ wk_S g' n.toNat) : wx c n Z X ∧ wfz V Z W X := by
  have f : wfz V Z W X := ⟨⟨fun k' i q1 q2 q3 => k.1 k' i (by omega) q3, fun k' i q1 q2 => k.1 k' i (by rintro rfl; exact q2 ew) (by omega)⟩, m.1⟩
  have z13 : Z 73 13 = (w : Int) := (k.1 73 13 (by omega) (by omega)).trans ew
  refine ⟨⟨h.fr f, fun j hj => ?_, ?_, ?_, ?_⟩, f⟩
  · rw [z13, Int.toNat_natCast, k.2.1 j hj, m.2.1 j hj]
    exact ⟨eg j hj, bg j hj⟩
  · rw [k.2.2, m.2.2, eT]
  · rw [m.2.2]
    exact (wk_S_eq _ fun j hj => m.2.1 j (by omega)).symm
  · rw [m.2.2]
    exact b1
set_option maxHeartbeats 4000000 in
theorem ww_weigh {c : Nat} {n a z z' : Int} {V W Z X : pm_M} (h : wr c n V W) (hl : 0 ≤ a ∧ a ≤ 6) (hZ : F_X10_weigh a V = (z, Z)) (hX : F_X12_weighs a W = (z', X)) : wx c n Z X ∧ wfz V Z W X := by
  have h0 := h
  obtain ⟨⟨hc, h73, hcn, hwn, h13⟩, ⟨hS, hb⟩, ⟨v1, v2, v3, v4, v5, v6⟩, ⟨s1, s2, s3, s4, s5, s6⟩, ⟨t1, t2, t3⟩, ⟨a1, a2, a3, a4, a5, a6, a7, a8⟩, hj⟩ := h0
  obtain ⟨w, hw, ew⟩ : ∃ w : Nat, (w = 76 ∨ w = 77) ∧ V 73 13 = (w : Int) := by
    rcases h13 with q | q
    · exact ⟨76, Or.inl rfl, q⟩
    · exact ⟨77, Or.inr rfl, q⟩
  obtain ⟨-, s10, sc, -, sl⟩ := hS
  obtain ⟨b16, -, -, -, b97, bh, -, -⟩ := hb
  rw [hwn] at b16 bh
  rw [hcn] at sc sl
  have hcw : wc0 c w n V := ⟨hc, hw, h73, ew, hcn, by omega⟩
  have N1 : 1 ≤ n := by omega
  have N0 : 0 ≤ n := by omega
  have N9 : n ≤ 9 := b16.2
  have ja : ∀ j : Nat, (j : Int) < n → V 74 j = W 110 j ∧ (0 ≤ W 110 j ∧ W 110 j ≤ 1539) := fun j hj' => ⟨(hj j hj').1, (hj j hj').2.2.1, (hj j hj').2.2.2.1⟩
  have jf : ∀ j : Nat, (j : Int) < n → V 75 j = W 111 j ∧ (0 ≤ W 111 j ∧ W 111 j ≤ 171) := fun j hj' => ⟨(hj j hj').2.1, (hj j hj').2.2.2.2.1, (hj j hj').2.2.2.2.2⟩
  have bA := wk_S_b (g := W 110) (M := 1539) (by decide) n.toNat (fun j hj' => (ja j (by omega)).2)
  have bF := wk_S_b (g := W 111) (M := 171) (by decide) n.toNat (fun j hj' => (jf j (by omega)).2)
  have bp : ∀ j : Nat, (j : Int) < n → 0 ≤ W 110 j * W 111 j ∧ W 110 j * W 111 j ≤ 263169 := fun j hj' => pm_mulb (ja j hj').2.1 (jf j hj').2.1 (ja j hj').2.2 (jf j hj').2.2 (by decide)
  have bJ := wk_S_b (g := fun j => W 110 j * W 111 j) (M := 263169) (by decide) n.toNat (fun j hj' => bp j (by omega))
  have bw : ∀ j : Nat, (j : Int) < n → 0 ≤ W 97 (3 * j + 2) * W 111 j ∧ W 97 (3 * j + 2) * W 111 j ≤ 1539 := fun j hj' => pm_mulb (by have := bh j hj'; omega) (jf j hj').2.1 (bh j hj').2 (jf j hj').2.2 (by decide)
  have hold : ∀ j : Nat, (j : Int) < n → V (c + 3) j * V 75 j = W 97 (3 * j + 2) * W 111 j := fun j hj' => by rw [(sc j hj').2.2, (jf j hj').1]
  have bw' : ∀ j : Nat, (j : Int) < n → 0 ≤ V (c + 3) j * V 75 j ∧ V (c + 3) j * V 75 j ≤ 1000000 := fun j hj' => by
    rw [hold j hj']
    have q := bw j hj'
    omega
  have bw2 : ∀ j : Nat, (j : Int) < n → 0 ≤ W 97 (3 * j + 2) * W 111 j ∧ W 97 (3 * j + 2) * W 111 j ≤ 1000000 := fun j hj' => by
    have q := bw j hj'
    omega
  have faceT : wk_S (fun j => V (c + 3) j * V 75 j) n.toNat = wk_S (fun j => W 97 (3 * j + 2) * W 111 j) n.toNat := wk_S_eq _ fun j hj' => hold j (by omega)
  have face1 : 1 ≤ wk_S (fun j => W 97 (3 * j + 2) * W 111 j) n.toNat := by
    have q : wk_S (W 111) n.toNat ≤ wk_S (fun j => W 97 (3 * j + 2) * W 111 j) n.toNat := wk_S_le _ fun j hj' => by
      have q1 := (bh j (by omega)).1
      have q2 := (jf j (by omega)).2.1
      have q3 := Int.mul_le_mul_of_nonneg_right q1 q2
      rw [Int.one_mul] at q3
      exact q3
    omega
  -- the joins
  have JV : wz w n (V 74) (V 73 10) V Z → wy n (W 110) W X → wx c n Z X ∧ wfz V Z W X := fun k m => ww_of h hw ew k m (fun j hj' => (ja j hj').1) (by rw [a1, a4]) (fun j hj' => by have q := (ja j hj').2; omega) (by omega)
  have JF : wz w n (fun j => V (c + 3) j * V 75 j) (wk_S (fun j => V (c + 3) j * V 75 j) n.toNat) V Z → wy n (fun j => W 97 (3 * j + 2) * W 111 j) W X → wx c n Z X ∧ wfz V Z W X := fun k m => ww_of h hw ew k m (fun j hj' => hold j hj') faceT (fun j hj' => by have q := bw j hj'; omega) face1
  have e := hZ.symm.trans (F_X10_weigh_eq a V)
  have JO : ∀ y : Int, F_X10_weighOdds V = (y, Z) → ((wk_S (fun j => ((W 90 47 * n) * W 110 j) * W 111 j + ((16 - W 90 47) * W 90 45) * W 110 j) n.toNat ≠ 0 → wy n (fun j => ((W 90 47 * n) * W 110 j) * W 111 j + ((16 - W 90 47) * W 90 45) * W 110 j) W X) ∧ (wk_S (fun j => ((W 90 47 * n) * W 110 j) * W 111 j + ((16 - W 90 47) * W 90 45) * W 110 j) n.toNat = 0 → wy n (W 110) W X)) → wx c n Z X ∧ wfz V Z W X := fun y hO m => by
    have k := cw_odds hcw t1 a1 a2 a3 ⟨t2, t3⟩ N9 ⟨by omega, by omega⟩ ⟨by omega, by omega⟩ ⟨by omega, by omega⟩ (fun j hj' => by rw [(ja j hj').1, (jf j hj').1]; exact ⟨(ja j hj').2, (jf j hj').2⟩) hO
    have lin := wk_S_lin (W 110) (W 111) (W 90 47 * n) ((16 - W 90 47) * W 90 45) n.toNat
    rw [← a4, ← a6] at lin
    rw [lin] at m
    by_cases D0 : (W 90 47 * n) * W 90 46 + ((16 - W 90 47) * W 90 45) * W 90 44 = 0
    · have k2 := k.2 D0
      rw [← a1] at k2
      exact JV k2 (m.2 D0)
    · obtain ⟨p, hp⟩ : ∃ p, W 90 47 * n = p := ⟨_, rfl⟩
      obtain ⟨r, hr⟩ : ∃ r, (16 - W 90 47) * W 90 45 = r := ⟨_, rfl⟩
      have cp : 0 ≤ p ∧ p ≤ 144 := by
        rw [← hp]
        exact pm_mulb t2 N0 t3 N9 (by decide)
      have cr : 0 ≤ r ∧ r ≤ 24624 := by
        rw [← hr]
        exact pm_mulb (by omega) (by omega) (show 16 - W 90 47 ≤ 16 by omega) (show W 90 45 ≤ 1539 by omega) (by decide)
      have k1 := k.1 D0
      have m1 := m.1 D0
      rw [hp, hr] at k1 m1 lin D0
      have G : ∀ j : Nat, (j : Int) < n → 0 ≤ (p * W 110 j) * W 111 j + r * W 110 j ∧ (p * W 110 j) * W 111 j + r * W 110 j ≤ 75792672 := fun j hj' => by
        rw [← wk_odd]
        have x1 := pm_mulb (x := p) (y := W 111 j) (b := 144) (d := 171) (m := 24624) cp.1 (jf j hj').2.1 cp.2 (jf j hj').2.2 (by decide)
        exact pm_mulb (x := W 110 j) (y := p * W 111 j + r) (b := 1539) (d := 49248) (ja j hj').2.1 (by omega) (ja j hj').2.2 (by omega) (by decide)
      have GB := wk_S_b (g := fun j => (p * W 110 j) * W 111 j + r * W 110 j) (M := 75792672) (by decide) n.toNat (fun j hj' => G j (by omega))
      refine ww_of h hw ew k1 m1 (fun j hj' => ?_) lin.symm (fun j hj' => ?_) (by omega)
      · rw [(ja j hj').1, (jf j hj').1]
        exact wk_odd _ _ _ _
      · have q := G j hj'
        omega
  have JS : ∀ s : Int, 0 ≤ s → s < n → wz w n (fun j => if (j : Int) = s then 1 else 0) 1 V Z → wy n (fun j => if (j : Int) = s then 1 else 0) W X → wx c n Z X ∧ wfz V Z W X := fun s s0 sn k m => by
    have q := wk_S_single s.toNat n.toNat
    rw [Int.toNat_of_nonneg s0, if_pos (by omega)] at q
    exact ww_of h hw ew k m (fun _ _ => rfl) q.symm (fun j hj' => by split <;> decide) (by rw [q]; decide)
  rcases (show a = 0 ∨ a = 1 ∨ a = 2 ∨ a = 3 ∨ a = 4 ∨ a = 5 ∨ a = 6 by omega) with q | q | q | q | q | q | q
  · rw [if_pos (show (a < 1 ∨ 6 < a) by omega)] at e
    obtain ⟨y, Y, hY⟩ : ∃ y Y, F_X10_weighVoice V = (y, Y) := ⟨_, _, rfl⟩
    replace e := e.trans (pf_call_eq hY)
    obtain ⟨-, rfl⟩ := Prod.mk.inj e
    exact JV (cw_voice hcw hY) (rw_w0 q hwn N1 hX)
  · rw [if_neg (show ¬ (a < 1 ∨ 6 < a) by omega), if_pos q] at e
    obtain ⟨y, Y, hY⟩ : ∃ y Y, F_X10_weighFace V = (y, Y) := ⟨_, _, rfl⟩
    replace e := e.trans (pf_call_eq hY)
    obtain ⟨-, rfl⟩ := Prod.mk.inj e
    exact JF (cw_face hcw bw' N9 hY) (rw_w1 q hwn N1 hX)
  · rw [if_neg (show ¬ (a < 1 ∨ 6 < a) by omega), if_neg (show ¬ a = 1 by omega), if_pos q] at e
    obtain ⟨y, Y, hY⟩ : ∃ y Y, F_X10_weighSurer V = (y, Y) := ⟨_, _, rfl⟩
    replace e := e.trans (pf_call_eq hY)
    obtain ⟨-, rfl⟩ := Prod.mk.inj e
    have k := cw_surer hcw N1 N9 bw' (fun j hj' => by rw [(ja j hj').1]; exact (ja j hj').2) (by rw [a1]; omega) hY
    have m := rw_w2 q hwn N1 N9 rfl bw2 (fun j hj' => (ja j hj').2) hX
    have M1 : wk_M (V 74) n.toNat = wk_M (W 110) n.toNat := wk_M_eq _ fun j hj' => (ja j (by omega)).1
    have M2 : wk_M (fun j => V (c + 3) j * V 75 j) n.toNat = wk_M (fun j => W 97 (3 * j + 2) * W 111 j) n.toNat := wk_M_eq _ fun j hj' => hold j (by omega)
    by_cases c0 : wk_M (W 110) n.toNat * wk_S (fun j => W 97 (3 * j + 2) * W 111 j) n.toNat < wk_M (fun j => W 97 (3 * j + 2) * W 111 j) n.toNat * W 90 44
    · exact JF (k.1 (by rw [M1, M2, faceT, a1]; exact c0)) (m.1 c0)
    · exact JV (k.2 (by rw [M1, M2, faceT, a1]; omega)) (m.2 (by omega))
  · rw [if_neg (show ¬ (a < 1 ∨ 6 < a) by omega), if_neg (show ¬ a = 1 by omega), if_neg (show ¬ a = 2 by omega), if_pos q] at e
    obtain ⟨y, Y, hY⟩ : ∃ y Y, F_X10_weighOne V = (y, Y) := ⟨_, _, rfl⟩
    replace e := e.trans (pf_call_eq hY)
    obtain ⟨-, rfl⟩ := Prod.mk.inj e
    have k := cw_one hcw (fun j hj' => by rw [(ja j hj').1, (jf j hj').1]; have q := bp j hj'; omega) hY
    have m := rw_w3 q hwn N0 hX
    rw [a3] at k
    by_cases c0 : W 90 46 = 0
    · exact JV (k.2 c0) (m.2 c0)
    · exact ww_of h hw ew (k.1 c0) (m.1 c0) (fun j hj' => by rw [(ja j hj').1, (jf j hj').1]) a6 (fun j hj' => by have q := bp j hj'; omega) (by omega)
  · rw [if_neg (show ¬ (a < 1 ∨ 6 < a) by omega), if_neg (show ¬ a = 1 by omega), if_neg (show ¬ a = 2 by omega), if_neg (show ¬ a = 3 by omega), if_pos q] at e
    obtain ⟨y, Y, hY⟩ : ∃ y Y, F_X10_weighOdds V = (y, Y) := ⟨_, _, rfl⟩
    replace e := e.trans (pf_call_eq hY)
    obtain ⟨-, rfl⟩ := Prod.mk.inj e
    exact JO y hY (rw_w4 q hwn N1 rfl rfl hX)
  · rw [if_neg (show ¬ (a < 1 ∨ 6 < a) by omega), if_neg (show ¬ a = 1 by omega), if_neg (show ¬ a = 2 by omega), if_neg (show ¬ a = 3 by omega), if_neg (show ¬ a = 4 by omega), if_pos q] at e
    obtain ⟨y, Y, hY⟩ : ∃ y Y, F_X10_weighLearnt V = (y, Y) := ⟨_, _, rfl⟩
    replace e := e.trans (pf_call_eq hY)
    obtain ⟨-, ez⟩ := Prod.mk.inj e
    have e2 := hY.symm.trans (F_X10_weighLearnt_eq V)
    have e3 : (y, Y) = pf_call (F_X5_learntOf c (V 73 1) (V 73 2) V) fun y11 _ => if ¬ (y11 = -1) then (pf_call (F_X10_weighSingle y11 V) fun _ V16 => ((0 : Int), V16)) else (pf_call (F_X10_weighOdds V) fun _ V26 => ((0 : Int), V26)) := by
      rcases hc with rfl | rfl
      · exact ((e2.trans (if_pos h73)).trans (pf_let_eq rfl)).trans (pf_let_eq rfl)
      · exact ((e2.trans (if_neg (show ¬ V 73 0 = 45 from fun q => absurd (h73.symm.trans q) (by decide)))).trans (pf_let_eq rfl)).trans (pf_let_eq rfl)
    obtain ⟨s, L, hL⟩ : ∃ y Y, F_X5_learntOf c (V 73 1) (V 73 2) V = (y, Y) := ⟨_, _, rfl⟩
    replace e3 := e3.trans (pf_call_eq hL)
    have lc := cw_learnt hL
    have m := rw_w5 q hwn N0 rfl rfl rfl rfl hX
    rw [v1, v2, s10] at lc
    rw [s10] at sl
    have same : ∀ k : Nat, (k : Int) < W 90 21 → (V (c + 4) k = (W 90 48 * 10) + W 90 49 ↔ (W 99 (3 * k) = W 90 48 ∧ W 99 (3 * k + 1) = W 90 49)) := fun k hk => by
      obtain ⟨x1, -, x3, x4, x5, x6, -, -⟩ := sl k hk
      rw [x1]
      constructor
      · intro r
        omega
      · rintro ⟨r1, r2⟩
        rw [r1, r2]
    rcases lc with ⟨l1, l2⟩ | ⟨k, l1, l2, l3, l4⟩
    · rcases m with ⟨m1, m2⟩ | ⟨k, m1, m2, m3, m4, m5⟩
      · rw [if_neg (show ¬ ¬ s = -1 from fun r => r l1)] at e3
        obtain ⟨y2, Y2, hY2⟩ : ∃ y Y, F_X10_weighOdds V = (y, Y) := ⟨_, _, rfl⟩
        replace e3 := e3.trans (pf_call_eq hY2)
        obtain ⟨-, ey⟩ := Prod.mk.inj e3
        rw [← ey, ← ez] at hY2
        exact JO y2 hY2 m2
      · exact absurd ((same k m1).mpr ⟨m2, m3⟩) (l2 k m1)
    · rcases m with ⟨m1, m2⟩ | ⟨k', m1, m2, m3, m4, m5⟩
      · exact absurd ((same k l1).mp l2) (m1 k l1)
      · have kk : k = k' := by
          rcases Nat.lt_trichotomy k k' with r | r | r
          · exact absurd ((same k l1).mp l2) (m4 k r)
          · exact r
          · exact absurd ((same k' m1).mpr ⟨m2, m3⟩) (l4 k' r)
        subst kk
        obtain ⟨-, x2, -, -, -, -, x7, x8⟩ := sl k l1
        rw [x2] at l3
        rw [if_pos (show ¬ s = -1 by omega)] at e3
        obtain ⟨y2, Y2, hY2⟩ : ∃ y Y, F_X10_weighSingle s V = (y, Y) := ⟨_, _, rfl⟩
        replace e3 := e3.trans (pf_call_eq hY2)
        obtain ⟨-, ey⟩ := Prod.mk.inj e3
        rw [← ey, ← ez] at hY2
        have k1 := cw_single hcw hY2
        rw [← l3] at m5
        exact JS s (by omega) (by omega) k1 m5
  · rw [if_neg (show ¬ (a < 1 ∨ 6 < a) by omega), if_neg (show ¬ a = 1 by omega), if_neg (show ¬ a = 2 by omega), if_neg (show ¬ a = 3 by omega), if_neg (show ¬ a = 4 by omega), if_neg (show ¬ a = 5 by omega), if_pos q] at e
    obtain ⟨s, L, hL⟩ : ∃ y Y, F_X10_soundBetween V = (y, Y) := ⟨_, _, rfl⟩
    replace e := e.trans (pf_call_eq hL)
    obtain ⟨y2, Y2, hY2⟩ : ∃ y Y, F_X10_weighSingle s V = (y, Y) := ⟨_, _, rfl⟩
    replace e := e.trans (pf_call_eq hY2)
    obtain ⟨-, ez⟩ := Prod.mk.inj e
    rw [← ez] at hY2
    have k1 := cw_single hcw hY2
    obtain ⟨cb, -⟩ := cw_between hcw N1 v1 v2 s1 s2 ⟨by omega, by omega⟩ hL
    obtain ⟨pl, hpl⟩ : ∃ pl, (W 97 (3 * W 90 48).toNat * W 90 43 + W 97 (3 * W 90 49).toNat * W 90 42) / (W 90 42 + W 90 43) = pl := ⟨_, rfl⟩
    have i1 : (3 * W 90 48).toNat = 3 * (W 90 48).toNat := by omega
    have i2 : (3 * W 90 49).toNat = 3 * (W 90 49).toNat := by omega
    have i3 : ((3 * W 90 48) + 1).toNat = 3 * (W 90 48).toNat + 1 := by omega
    have hpl2 : (W 97 (3 * (W 90 48).toNat) * W 90 43 + W 97 (3 * (W 90 49).toNat) * W 90 42) / (W 90 42 + W 90 43) = pl := by rw [← i1, ← i2]; exact hpl
    obtain ⟨xv, yv, -⟩ := sc (W 90 48).toNat (by omega)
    obtain ⟨xf, -, -⟩ := sc (W 90 49).toNat (by omega)
    have c1 := b97 (3 * (W 90 48).toNat) (by omega)
    have c2 := b97 (3 * (W 90 48).toNat + 1) (by omega)
    have c3 := b97 (3 * (W 90 49).toNat) (by omega)
    have bpl : 0 ≤ pl ∧ pl ≤ 99 := by
      rw [← hpl, i1, i2]
      have q1 := pm_mulb (x := W 97 (3 * (W 90 48).toNat)) (y := W 90 43) (b := 99) (d := W 90 43) (m := 99 * W 90 43) c1.1 (by omega) c1.2 (Int.le_refl _) rfl
      have q2 := pm_mulb (x := W 97 (3 * (W 90 49).toNat)) (y := W 90 42) (b := 99) (d := W 90 42) (m := 99 * W 90 42) c3.1 (by omega) c3.2 (Int.le_refl _) rfl
      exact ⟨Int.ediv_nonneg (by omega) (by omega), Int.ediv_le_of_le_mul (by omega) (by omega)⟩
    have wa : ∀ d : Int, -99 ≤ d → d ≤ 99 → 0 ≤ wk_a d ∧ wk_a d ≤ 99 := fun d d1 d2 => by
      unfold wk_a
      split <;> omega
    have bD : ∀ j : Nat, (j : Int) < n → 0 ≤ wk_a (W 97 (3 * j) - pl) + wk_a (W 97 (3 * j + 1) - W 97 ((3 * W 90 48) + 1).toNat) ∧ wk_a (W 97 (3 * j) - pl) + wk_a (W 97 (3 * j + 1) - W 97 ((3 * W 90 48) + 1).toNat) < 1000 := fun j hj' => by
      rw [i3]
      have d1 := b97 (3 * j) (by omega)
      have d2 := b97 (3 * j + 1) (by omega)
      have q1 := wa (W 97 (3 * j) - pl) (by omega) (by omega)
      have q2 := wa (W 97 (3 * j + 1) - W 97 (3 * (W 90 48).toNat + 1)) (by omega) (by omega)
      omega
    have m := rw_w6 q hwn N1 rfl rfl rfl rfl hpl bD hX
    have es : s = ((wk_ml (fun j => -(wk_a (W 97 (3 * j) - pl) + wk_a (W 97 (3 * j + 1) - W 97 ((3 * W 90 48) + 1).toNat))) (n - 1).toNat : Nat) : Int) := by
      rw [cb]
      congr 1
      refine wk_ml_eq _ fun j hj' => ?_
      obtain ⟨x1, x2, -⟩ := sc j (by omega)
      have d1 := b97 (3 * j) (by omega)
      have d2 := b97 (3 * j + 1) (by omega)
      rw [xv, yv, xf, x1, x2, hpl2, i3, wk_ab ⟨by omega, by omega⟩, wk_ab ⟨by omega, by omega⟩]
    have sl0 := wk_ml_le (fun j => -(wk_a (W 97 (3 * j) - pl) + wk_a (W 97 (3 * j + 1) - W 97 ((3 * W 90 48) + 1).toNat))) (n - 1).toNat
    rw [← es] at m
    exact JS s (by omega) (by omega) k1 m
