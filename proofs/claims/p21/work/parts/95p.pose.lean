/-! WEIGHTS: what a trial rests on, on the reference's side (pose and weigh let it be), and the frames of both -/
def wb (W : pm_M) : Prop := (2 ≤ W 90 16 ∧ W 90 16 ≤ 9) ∧ (1 ≤ W 90 20 ∧ W 90 20 ≤ 99) ∧ (0 ≤ W 90 21 ∧ W 90 21 ≤ 12) ∧ W 90 23 ≤ 10 ∧ (∀ q : Nat, q < 27 → 0 ≤ W 97 q ∧ W 97 q ≤ 99) ∧ (∀ j : Nat, (j : Int) < W 90 16 → 1 ≤ W 97 (3 * j + 2) ∧ W 97 (3 * j + 2) ≤ 9) ∧ ((1 ≤ W 98 0 ∧ W 98 0 ≤ 60) ∧ (0 ≤ W 98 1 ∧ W 98 1 ≤ 9) ∧ (1 ≤ W 98 2 ∧ W 98 2 ≤ 60) ∧ (0 ≤ W 98 3 ∧ W 98 3 ≤ 9)) ∧ (∀ p : Nat, p < 10 → (-30 ≤ W 100 (4 * p) ∧ W 100 (4 * p) ≤ 30) ∧ (-30 ≤ W 100 (4 * p + 1) ∧ W 100 (4 * p + 1) ≤ 30) ∧ (0 ≤ W 100 (4 * p + 2) ∧ W 100 (4 * p + 2) ≤ 16))
theorem wb_of {W : pm_M} (hB : pm_oq pm_qB W) (h1 : pm_h1 W) : wb W := by
  have n := hB.get 90 16 (lo := 2) (hi := 9) (t := 0) (by decide) (by decide) rfl
  refine ⟨n, hB.get 90 20 (lo := 1) (hi := 99) (t := 0) (by decide) (by decide) rfl, hB.get 90 21 (lo := 0) (hi := 12) (t := 0) (by decide) (by decide) rfl, (hB.get 90 23 (lo := 0) (hi := 10) (t := 0) (by decide) (by decide) rfl).2, fun q hq => ?_, fun j hj => ⟨?_, ?_⟩, ⟨hB.get 98 0 (lo := 1) (hi := 60) (t := 0) (by decide) (by decide) rfl, hB.get 98 1 (lo := 0) (hi := 9) (t := 0) (by decide) (by decide) rfl, ?_, hB.get 98 3 (lo := 0) (hi := 9) (t := 0) (by decide) (by decide) rfl⟩, fun p hp => ⟨?_, ?_, ?_⟩⟩
  · exact pm_qhull (hB 97 (by decide) (by decide) q hq) (l := [(0, 99, 0), (0, 99, 0), (0, 9, 0)]) rfl (by decide) (by decide)
  · have h := h1 (j : Int) (by omega) hj
    rw [show (3 * (j : Int) + 2).toNat = 3 * j + 2 by omega] at h
    exact h
  · exact (hB.get 97 (3 * j + 2) (lo := 0) (hi := 9) (t := 0) (by decide) (show _ < 27 by omega) ((pm_qe_r (tb := pm_qB) (k := 97) (i := 3 * j + 2) (m := 3) (r := 2) (l := [(0, 99, 0), (0, 99, 0), (0, 9, 0)]) rfl rfl (by omega)).trans rfl)).2
  · exact hB.get 98 2 (lo := 1) (hi := 60) (t := 0) (by decide) (by decide) rfl
  · exact hB.get 100 (4 * p) (lo := -30) (hi := 30) (t := 0) (by decide) (show _ < 40 by omega) ((pm_qe_r (tb := pm_qB) (k := 100) (i := 4 * p) (m := 4) (r := 0) (l := [(-30, 30, 0), (-30, 30, 0), (0, 16, 0), (0, 3, 0)]) rfl rfl (by omega)).trans rfl)
  · exact hB.get 100 (4 * p + 1) (lo := -30) (hi := 30) (t := 0) (by decide) (show _ < 40 by omega) ((pm_qe_r (tb := pm_qB) (k := 100) (i := 4 * p + 1) (m := 4) (r := 1) (l := [(-30, 30, 0), (-30, 30, 0), (0, 16, 0), (0, 3, 0)]) rfl rfl (by omega)).trans rfl)
  · exact hB.get 100 (4 * p + 2) (lo := 0) (hi := 16) (t := 0) (by decide) (show _ < 40 by omega) ((pm_qe_r (tb := pm_qB) (k := 100) (i := 4 * p + 2) (m := 4) (r := 2) (l := [(-30, 30, 0), (-30, 30, 0), (0, 16, 0), (0, 3, 0)]) rfl rfl (by omega)).trans rfl)
/-- the class: all but the trial -/
def fC (V Z : pm_M) : Prop := ∀ k i, ((k < 73 ∨ 77 < k) ∨ (k = 73 ∧ (i = 13 ∨ i = 15))) → Z k i = V k i
/-- the reference: all but what works and weighs write -/
def fR (W X : pm_M) : Prop := (∀ k, k ≠ 90 → k ≠ 110 → k ≠ 111 → k ≠ 112 → X k = W k) ∧ ∀ i, (i < 42 ∨ 51 < i) → X 90 i = W 90 i
theorem fC.rf {V : pm_M} : fC V V := fun _ _ _ => rfl
theorem fR.rf {W : pm_M} : fR W W := ⟨fun _ _ _ _ _ => rfl, fun _ _ => rfl⟩
theorem fC.tr {V Z Y : pm_M} (h : fC V Z) (g : fC Z Y) : fC V Y := fun k i q => (g k i q).trans (h k i q)
theorem fR.tr {W X Y : pm_M} (h : fR W X) (g : fR X Y) : fR W Y := ⟨fun k q1 q2 q3 q4 => (g.1 k q1 q2 q3 q4).trans (h.1 k q1 q2 q3 q4), fun i q => (g.2 i q).trans (h.2 i q)⟩
theorem fC.q {V W Z : pm_M} (h : rq V W) (f : fC V Z) : rq Z W := h.C fun k i q => f k i (by unfold sq_nd at q; omega)
theorem fC.p {V W Z : pm_M} (h : rp V W) (f : fC V Z) : rp Z W := h.C fun k i q => f k i (by unfold pd at q; omega)
theorem fR.q {V W X : pm_M} (h : rq V W) (f : fR W X) : rq V X := h.R (fun i q => f.2 i (by simp only [List.contains_eq_mem, List.mem_cons, List.not_mem_nil, or_false, decide_eq_true_eq] at q; omega)) (fun k q => f.1 k (by rintro rfl; exact absurd q (by decide)) (by rintro rfl; exact absurd q (by decide)) (by rintro rfl; exact absurd q (by decide)) (by rintro rfl; exact absurd q (by decide)))
theorem fR.p {V W X : pm_M} (h : rp V W) (f : fR W X) : rp V X := h.R (fun k q => f.1 k (by rintro rfl; exact absurd q (by decide)) (by rintro rfl; exact absurd q (by decide)) (by rintro rfl; exact absurd q (by decide)) (by rintro rfl; exact absurd q (by decide)))
theorem fR.b {W X : pm_M} (h : wb W) (f : fR W X) : wb X := by
  have e16 := f.2 16 (by omega)
  have e20 := f.2 20 (by omega)
  have e21 := f.2 21 (by omega)
  have e23 := f.2 23 (by omega)
  have c97 := f.1 97 (by decide) (by decide) (by decide) (by decide)
  have c98 := f.1 98 (by decide) (by decide) (by decide) (by decide)
  have c100 := f.1 100 (by decide) (by decide) (by decide) (by decide)
  unfold wb at h ⊢
  rw [e16, e20, e21, e23, c97, c98, c100]
  exact h
/-- sums -/
theorem wk_pm (g : Nat → Int) : ∀ n : Nat, wk_S g n = pm_sum g n := by
  intro n
  induction n with
  | zero => rfl
  | succ n ih =>
    show wk_S g n + g n = pm_sum g n + g n
    rw [ih]
theorem wk_S_eq {g h : Nat → Int} : ∀ n : Nat, (∀ j : Nat, j < n → g j = h j) → wk_S g n = wk_S h n := by
  intro n
  induction n with
  | zero => intro _; rfl
  | succ n ih =>
    intro e
    show wk_S g n + g n = wk_S h n + h n
    rw [ih (fun j hj => e j (by omega)), e n (by omega)]
theorem wk_abp {x : Int} (h : -99 ≤ x ∧ x ≤ 99) : 0 ≤ pm_ab x ∧ (x = 0 → pm_ab x = 0) := by
  unfold pm_ab
  split
  · exact ⟨by omega, fun q => q⟩
  · rw [pm_w32_id ⟨by omega, by omega⟩]
    exact ⟨by omega, fun q => by omega⟩
theorem wk_h_b {A B H : Nat → Int} {v j : Nat} {s : Int} (a1 : 0 ≤ A j ∧ A j ≤ 99) (a2 : 0 ≤ A v ∧ A v ≤ 99) (b1 : 0 ≤ B j ∧ B j ≤ 99) (b2 : 0 ≤ B v ∧ B v ≤ 99) (h : 1 ≤ H j ∧ H j ≤ 9) (hs : 1 ≤ s ∧ s ≤ 171) : (0 ≤ wk_h A B H v s j ∧ wk_h A B H v s j ≤ 1539) ∧ (j = v → 1 ≤ wk_h A B H v s j) := by
  unfold wk_h
  obtain ⟨p1, p2⟩ := wk_abp (x := A j - A v) ⟨by omega, by omega⟩
  obtain ⟨p3, p4⟩ := wk_abp (x := B j - B v) ⟨by omega, by omega⟩
  obtain ⟨m, hm⟩ : ∃ m, pm_mx 0 (s - (pm_ab (A j - A v) + pm_ab (B j - B v))) = m := ⟨_, rfl⟩
  have hm0 : 0 ≤ m ∧ m ≤ 171 := by
    rw [← hm]
    unfold pm_mx
    split <;> omega
  rw [hm]
  refine ⟨pm_mulb (by omega) hm0.1 h.2 hm0.2 (by decide), fun e => pm_mul1 h.1 ?_⟩
  subst e
  rw [p2 (by omega), p4 (by omega)] at hm
  unfold pm_mx at hm
  rw [if_pos (by omega)] at hm
  omega
theorem wk_s_b {A : Nat → Int} {f j : Nat} {s : Int} (a1 : 0 ≤ A j ∧ A j ≤ 99) (a2 : 0 ≤ A f ∧ A f ≤ 99) (hs : 1 ≤ s ∧ s ≤ 171) : (0 ≤ wk_s A f s j ∧ wk_s A f s j ≤ 171) ∧ (j = f → 1 ≤ wk_s A f s j) := by
  unfold wk_s
  obtain ⟨p1, p2⟩ := wk_abp (x := A j - A f) ⟨by omega, by omega⟩
  refine ⟨?_, fun e => ?_⟩
  · unfold pm_mx
    split <;> omega
  · subst e
    rw [p2 (by omega)]
    unfold pm_mx
    rw [if_pos (by omega)]
    omega
/-- the class's loop over the sounds: what it lets be -/
theorem cw_spread_fr {V Z : pm_M} {z a1 a2 : Int} (h0 : V 73 0 = 45 ∨ V 73 0 = 51) (hZ : F_X10_spread a1 a2 V = (z, Z)) : z = 0 ∧ (∀ k i, k ≠ 73 → k ≠ 74 → k ≠ 75 → Z k i = V k i) ∧ (∀ i, i ≠ 5 → i ≠ 6 → i ≠ 10 → i ≠ 11 → i ≠ 12 → Z 73 i = V 73 i) := by
  have e := hZ.symm.trans (F_X10_spread_eq a1 a2 V)
  simp only [pf_let, pf_call] at e
  let P : Int × pm_M → Prop := fun s => (∀ k i, k ≠ 73 → k ≠ 74 → k ≠ 75 → s.2 k i = V k i) ∧ (∀ i, i ≠ 5 → i ≠ 6 → i ≠ 10 → i ≠ 11 → i ≠ 12 → s.2 73 i = V 73 i)
  let Q : Int × pm_M → Prop := fun o => o.1 = 0 ∧ (∀ k i, k ≠ 73 → k ≠ 74 → k ≠ 75 → o.2 k i = V k i) ∧ (∀ i, i ≠ 5 → i ≠ 6 → i ≠ 10 → i ≠ 11 → i ≠ 12 → o.2 73 i = V 73 i)
  have step : ∀ (c : Nat), (c = 45 ∨ c = 51) → ∀ (B : Int × pm_M → (Int × pm_M) ⊕ (Int × pm_M)) (S : pm_M) (d : Int × pm_M), (∀ (x : Int) (U : pm_M), ∃ y1 y2 y3 y4 y5 : Int, B (x, U) = if U c 0 ≤ x then .inr (0, U) else .inl (x + 1, pm_up (pm_up (pm_up (pm_up (pm_up U 74 x.toNat y1) 75 x.toNat y2) 73 10 y3) 73 11 y4) 73 12 y5)) → P (0, S) → Q (pf_val d B (0, S)) := by
    intro c hc B S d hB hS
    refine pf_val_ind2 (d := d) (b := B) P Q (fun s => (V c 0 - s.1).toNat) ?_ _ hS
    rintro ⟨x, U⟩ ⟨p1, p2⟩
    dsimp only at p1 p2
    obtain ⟨y1, y2, y3, y4, y5, b0⟩ := hB x U
    rw [p1 c 0 (by omega) (by omega) (by omega)] at b0
    by_cases q : V c 0 ≤ x
    · rw [if_pos q] at b0
      exact Or.inr ⟨_, b0, rfl, p1, p2⟩
    · rw [if_neg q] at b0
      refine Or.inl ⟨_, b0, ⟨fun k i q1 q2 q3 => ?_, fun i q1 q2 q3 q4 q5 => ?_⟩, by dsimp only; omega⟩
      · dsimp only
        rw [pm_up_c q1, pm_up_c q1, pm_up_c q1, pm_up_c q3, pm_up_c q2]
        exact p1 k i q1 q2 q3
      · dsimp only
        rw [pm_up_i q5, pm_up_i q4, pm_up_i q3, pm_up_c (by decide), pm_up_c (by decide)]
        exact p2 i q1 q2 q3 q4 q5
  have hS : ∀ y y' : Int, P (0, pm_up (pm_up (pm_up (pm_up (pm_up V 73 5 y) 73 6 y') 73 10 0) 73 11 0) 73 12 0) := fun y y' => by
    refine ⟨fun k i q1 _ _ => ?_, fun i q1 q2 q3 q4 q5 => ?_⟩
    · dsimp only
      rw [pm_up_c q1, pm_up_c q1, pm_up_c q1, pm_up_c q1, pm_up_c q1]
    · dsimp only
      rw [pm_up_i q5, pm_up_i q4, pm_up_i q3, pm_up_i q2, pm_up_i q1]
  show Q (z, Z)
  rcases h0 with h0 | h0
  · replace e := e.trans (if_pos h0)
    obtain ⟨B, hB, e⟩ := pf_loop e
    rw [e]
    exact step 45 (Or.inl rfl) B _ _ (fun x U => by
      have q := congrFun hB (x, U)
      dsimp only at q
      exact ⟨_, _, _, _, _, q⟩) (hS _ _)
  · replace e := e.trans (if_neg (by omega))
    obtain ⟨B, hB, e⟩ := pf_loop e
    rw [e]
    exact step 51 (Or.inr rfl) B _ _ (fun x U => by
      have q := congrFun hB (x, U)
      dsimp only at q
      exact ⟨_, _, _, _, _, q⟩) (hS _ _)
/-- how far it is trusted -/
def wk_t (p l w : Int) : Int := pm_mx 0 (p - (if l < 0 then (-l) / pm_mx 1 (w / 2) else l / w))
theorem wk_tq {x y : Int} (h1 : 0 ≤ x) (h2 : x ≤ 99) (h3 : 1 ≤ y) : 0 ≤ x / y ∧ x / y ≤ 99 := ⟨Int.ediv_nonneg h1 (by omega), Int.le_trans (Int.ediv_le_self y h1) h2⟩
theorem wk_m1 (w : Int) : 1 ≤ pm_mx 1 w := by
  unfold pm_mx
  split <;> omega
theorem wk_t_b {p l w : Int} (hp : 0 ≤ p ∧ p ≤ 16) (hl : -99 ≤ l ∧ l ≤ 99) (hw : 1 ≤ w) : 0 ≤ wk_t p l w ∧ wk_t p l w ≤ 16 := by
  unfold wk_t
  obtain ⟨d, hd⟩ : ∃ d, (if l < 0 then (-l) / pm_mx 1 (w / 2) else l / w) = d := ⟨_, rfl⟩
  have h0 : 0 ≤ d := by
    rw [← hd]
    split
    · exact (wk_tq (by omega) (by omega) (wk_m1 _)).1
    · exact (wk_tq (by omega) (by omega) hw).1
  rw [hd]
  unfold pm_mx
  split <;> omega
theorem cw_trust {c : Nat} (hc : c = 45 ∨ c = 51) {V : pm_M} {a1 a2 w : Int} (h0 : V 73 0 = (c : Int)) (hw : V c 9 = w) (hw1 : 1 ≤ w) (ha : 0 ≤ a1 ∧ a1 ≤ 16) (hl : -99 ≤ a2 ∧ a2 ≤ 99) : F_X10_trustAt a1 a2 V = (0, pm_up V 73 7 (wk_t a1 a2 w)) := by
  unfold wk_t
  have m1 : pm_mx 1 w = w := if_pos hw1
  have e := F_X10_trustAt_eq a1 a2 V
  simp only [pf_let] at e
  by_cases q : a2 < 0
  · obtain ⟨b1, b2⟩ := wk_tq (x := -a2) (y := pm_mx 1 (w / 2)) (by omega) (by omega) (wk_m1 _)
    rw [if_pos q] at e ⊢
    rcases hc with rfl | rfl
    · have h1 : V 73 0 = 45 := h0
      rw [if_pos h1, hw, pm_w32_id ⟨by omega, by omega⟩] at e
      exact e
    · have h1 : V 73 0 = 51 := h0
      rw [if_neg (by omega), hw, pm_w32_id ⟨by omega, by omega⟩] at e
      exact e
  · obtain ⟨b1, b2⟩ := wk_tq (x := a2) (y := w) (by omega) (by omega) hw1
    rw [if_neg q] at e ⊢
    rcases hc with rfl | rfl
    · have h1 : V 73 0 = 45 := h0
      rw [if_pos h1, hw, m1, pm_w32_id ⟨by omega, by omega⟩] at e
      exact e
    · have h1 : V 73 0 = 51 := h0
      rw [if_neg (by omega), hw, m1, pm_w32_id ⟨by omega, by omega⟩] at e
      exact e
