/-! WHAT THE TWO SIDES HOLD ALIKE: the scene that is current, how many people, answers and lines there are, the images' counts -/
def sq_sc (c : Nat) (V W : pm_M) : Prop := V c 0 = W 90 16 ∧ V c 10 = W 90 21 ∧ (∀ j : Nat, (j : Int) < V c 0 → V (c + 1) j = W 97 (3 * j) ∧ V (c + 2) j = W 97 (3 * j + 1) ∧ V (c + 3) j = W 97 (3 * j + 2)) ∧ (1 ≤ V c 0 → V c 4 = W 98 0 ∧ V c 5 = W 98 1 ∧ V c 6 = W 98 2 ∧ V c 7 = W 98 3 ∧ V c 8 = W 90 19 ∧ V c 9 = W 90 20) ∧ (∀ k : Nat, (k : Int) < V c 10 → V (c + 4) k = W 99 (3 * k) * 10 + W 99 (3 * k + 1) ∧ V (c + 5) k = W 99 (3 * k + 2) ∧ 0 ≤ W 99 (3 * k) ∧ W 99 (3 * k) < V c 0 ∧ 0 ≤ W 99 (3 * k + 1) ∧ W 99 (3 * k + 1) < V c 0 ∧ 0 ≤ W 99 (3 * k + 2) ∧ W 99 (3 * k + 2) < V c 0)
def sq_cc (V : pm_M) : Prop := (V 0 8 = 45 ∧ V 0 9 = 51) ∨ (V 0 8 = 51 ∧ V 0 9 = 45)
def sq_cr (V : pm_M) : Prop := (V 0 10 = 57 ∧ V 0 11 = 63) ∨ (V 0 10 = 63 ∧ V 0 11 = 57)
def sq_im (V W : pm_M) : Prop := ∀ m : Nat, m < 3 → V (15 + 10 * m) 0 = W 102 m ∧ (W 102 m = 1 → V (15 + 10 * m) 1 = W 103 m ∧ V (15 + 10 * m) 6 = W 105 m)
def rq (V W : pm_M) : Prop := sq_cc V ∧ sq_cr V ∧ sq_sc (V 0 8).toNat V W ∧ V (V 0 10).toNat 0 = W 90 35 ∧ V 4 1 = W 90 23 ∧ V 4 6 = W 90 25 ∧ sq_im V W
theorem sq_sc.eq {c : Nat} {V W V' W' : pm_M} (h : sq_sc c V W) (e0 : V' c = V c) (e1 : V' (c + 1) = V (c + 1)) (e2 : V' (c + 2) = V (c + 2)) (e3 : V' (c + 3) = V (c + 3)) (e4 : V' (c + 4) = V (c + 4)) (e5 : V' (c + 5) = V (c + 5)) (f16 : W' 90 16 = W 90 16) (f19 : W' 90 19 = W 90 19) (f20 : W' 90 20 = W 90 20) (f21 : W' 90 21 = W 90 21) (g97 : W' 97 = W 97) (g98 : W' 98 = W 98) (g99 : W' 99 = W 99) : sq_sc c V' W' := by
  unfold sq_sc at h ⊢
  rw [e0, e1, e2, e3, e4, e5, f16, f19, f20, f21, g97, g98, g99]
  exact h
/-- the class's places that the relation speaks of -/
def sq_nd (k i : Nat) : Prop := (k = 0 ∧ 8 ≤ i ∧ i ≤ 11) ∨ (k = 4 ∧ (i = 1 ∨ i = 6)) ∨ ((k = 15 ∨ k = 25 ∨ k = 35) ∧ (i = 0 ∨ i = 1 ∨ i = 6)) ∨ (45 ≤ k ∧ k ≤ 56) ∨ ((k = 57 ∨ k = 63) ∧ i = 0)
theorem rq.C {V W V' : pm_M} (h : rq V W) (e : ∀ k i, sq_nd k i → V' k i = V k i) : rq V' W := by
  obtain ⟨h1, h2, h3, h4, h5, h6, h7⟩ := h
  have e8 := e 0 8 (by unfold sq_nd; omega)
  have e9 := e 0 9 (by unfold sq_nd; omega)
  have e10 := e 0 10 (by unfold sq_nd; omega)
  have e11 := e 0 11 (by unfold sq_nd; omega)
  have cell : ∀ k, 45 ≤ k → k ≤ 56 → V' k = V k := fun k q1 q2 => funext fun i => e k i (by unfold sq_nd; omega)
  refine ⟨?_, ?_, ?_, ?_, ?_, ?_, ?_⟩
  · unfold sq_cc
    rw [e8, e9]
    exact h1
  · unfold sq_cr
    rw [e10, e11]
    exact h2
  · rw [e8]
    unfold sq_cc at h1
    exact h3.eq (cell _ (by omega) (by omega)) (cell _ (by omega) (by omega)) (cell _ (by omega) (by omega)) (cell _ (by omega) (by omega)) (cell _ (by omega) (by omega)) (cell _ (by omega) (by omega)) rfl rfl rfl rfl rfl rfl rfl
  · rw [e10, ← h4]
    unfold sq_cr at h2
    exact e _ 0 (by unfold sq_nd; omega)
  · rw [← h5]
    exact e 4 1 (by unfold sq_nd; omega)
  · rw [← h6]
    exact e 4 6 (by unfold sq_nd; omega)
  · intro m hm
    rw [e (15 + 10 * m) 0 (by unfold sq_nd; omega), e (15 + 10 * m) 1 (by unfold sq_nd; omega), e (15 + 10 * m) 6 (by unfold sq_nd; omega)]
    exact h7 m hm
theorem rq.R {V W W' : pm_M} (h : rq V W) (f : ∀ i, [16, 19, 20, 21, 23, 25, 35].contains i = true → W' 90 i = W 90 i) (c : ∀ k, [97, 98, 99, 102, 103, 105].contains k = true → W' k = W k) : rq V W' := by
  obtain ⟨h1, h2, h3, h4, h5, h6, h7⟩ := h
  refine ⟨h1, h2, h3.eq rfl rfl rfl rfl rfl rfl (f 16 rfl) (f 19 rfl) (f 20 rfl) (f 21 rfl) (c 97 rfl) (c 98 rfl) (c 99 rfl), ?_, ?_, ?_, ?_⟩
  · rw [f 35 rfl]
    exact h4
  · rw [f 23 rfl]
    exact h5
  · rw [f 25 rfl]
    exact h6
  · intro m hm
    rw [c 102 rfl, c 103 rfl, c 105 rfl]
    exact h7 m hm
/-- one memory: the class alone was called; the reference alone was called -/
theorem rq.hi {V V' : pm_M} (h : rq V V) (hk : ∀ k, 90 ≤ k → V' k = V k) : rq V V' :=
  h.R (fun i _ => by rw [hk 90 (by decide)]) (fun k q => hk k (by
    simp only [List.contains_eq_mem, List.mem_cons, List.not_mem_nil, or_false, decide_eq_true_eq] at q
    omega))
theorem rq.lo {V V' : pm_M} (h : rq V V') (hk : ∀ k, k < 90 → V' k = V k) : rq V' V' :=
  h.C (fun k i q => by
    rw [hk k (by unfold sq_nd at q; omega)])
def sq_ck (cs : List Nat) (fs : List (Nat × Nat)) : Bool := (cs.all fun k => !(k == 0 || k == 4 || k == 15 || k == 25 || k == 35 || (decide (45 ≤ k) && decide (k ≤ 57)) || k == 63)) && (fs.all fun q => !((q.1 == 0 && decide (8 ≤ q.2) && decide (q.2 ≤ 11)) || (q.1 == 4 && (q.2 == 1 || q.2 == 6)) || ((q.1 == 15 || q.1 == 25 || q.1 == 35) && (q.2 == 0 || q.2 == 1 || q.2 == 6)) || (decide (45 ≤ q.1) && decide (q.1 ≤ 56)) || ((q.1 == 57 || q.1 == 63) && q.2 == 0)))
theorem sq_ck_at {cs : List Nat} {fs : List (Nat × Nat)} {V V' : pm_M} (hc : sq_ck cs fs = true) (hf : pm_ff cs fs V V') : ∀ k i, sq_nd k i → V' k i = V k i := by
  intro k i hn
  unfold sq_ck at hc
  simp only [Bool.and_eq_true] at hc
  unfold sq_nd at hn
  refine hf k i (fun m => ?_) (fun m => ?_)
  · have h1 := List.all_eq_true.mp hc.1 k m
    simp at h1
    omega
  · have h1 := List.all_eq_true.mp hc.2 (k, i) m
    simp at h1
    omega
theorem rq.ff {V W V' : pm_M} {cs : List Nat} {fs : List (Nat × Nat)} (h : rq V W) (hf : pm_ff cs fs V V') (hc : sq_ck cs fs = true) : rq V' W := h.C (sq_ck_at hc hf)
theorem rq.fs {V W W' : pm_M} {cs fs : List Nat} (h : rq V W) (hf : pm_fs cs fs W W') (hc : lw_nf [97, 98, 99, 102, 103, 105] cs = true) (hn : lw_nf [16, 19, 20, 21, 23, 25, 35] fs = true) : rq V W' :=
  h.R (fun i q => hf.2 i (lw_nf_at hn i q)) (fun k q => hf.1 k (lw_nf_at hc k q) (by rintro rfl; exact absurd q (by decide)))
def lw_cf (cs : List Nat) (fs : List (Nat × Nat)) : Bool := (cs.all fun k => decide (k < 90)) && (fs.all fun q => decide (q.1 < 90))
theorem pm_ff.hi {cs : List Nat} {fs : List (Nat × Nat)} {V V' : pm_M} (h : pm_ff cs fs V V') (hw : lw_cf cs fs = true) : ∀ k, 90 ≤ k → V' k = V k := fun k hk => funext fun i => by
  unfold lw_cf at hw
  simp only [Bool.and_eq_true] at hw
  refine h k i (fun m => ?_) (fun m => ?_)
  · have h1 := List.all_eq_true.mp hw.1 k m
    simp at h1
    omega
  · have h1 := List.all_eq_true.mp hw.2 (k, i) m
    simp at h1
    omega
/-- no cell 1, no cell 2 -/
def lw_n12 (cs : List Nat) (fs : List (Nat × Nat)) : Bool := (cs.all fun k => decide (k ≠ 1) && decide (k ≠ 2)) && (fs.all fun q => decide (q.1 ≠ 1) && decide (q.1 ≠ 2))
theorem lw_inv.ff {V V' : pm_M} {cs : List Nat} {fs : List (Nat × Nat)} (h : lw_inv V) (hok : pm_ok 0 90 V') (hf : pm_ff cs fs V V') (hw : lw_cf cs fs = true) (h12 : lw_n12 cs fs = true) : lw_inv V' := by
  have hk := hf.hi hw
  unfold lw_n12 at h12
  simp only [Bool.and_eq_true] at h12
  have q : ∀ k, k = 1 ∨ k = 2 → V' k = V k := fun k hk => funext fun i => by
    refine hf k i (fun m => ?_) (fun m => ?_)
    · have h1 := List.all_eq_true.mp h12.1 k m
      simp at h1
      omega
    · have h1 := List.all_eq_true.mp h12.2 (k, i) m
      simp at h1
      omega
  exact ⟨hok, h.2.1.up (q 1 (Or.inl rfl)) (q 2 (Or.inr rfl)) (hk 91 (by decide)) (by rw [hk 90 (by decide)]), h.2.2.eq hk⟩
/-- the current scene's sounds -/
theorem rq.hs {V W : pm_M} (h : rq V W) : (V 0 8 = 45 ∧ V 45 0 = W 90 16) ∨ (V 0 8 = 51 ∧ V 51 0 = W 90 16) := by
  obtain ⟨h1, h2, h3, -⟩ := h
  rcases h1 with ⟨q, -⟩ | ⟨q, -⟩
  · rw [q] at h3
    exact Or.inl ⟨q, h3.1⟩
  · rw [q] at h3
    exact Or.inr ⟨q, h3.1⟩
/-- what holds without a scene -/
theorem lw_noS {V : pm_M} (h : pm_oq pm_qA V) : V 90 16 = 0 ∧ V 90 23 = 0 ∧ V 90 25 = 0 ∧ (∀ m : Nat, m < 3 → V 102 m = 0) ∧ V 90 21 = 0 ∧ V 90 19 = 0 ∧ V 90 20 = 0 :=
  ⟨h.one 90 16 (by decide) (by decide) rfl, h.one 90 23 (by decide) (by decide) rfl, h.one 90 25 (by decide) (by decide) rfl, fun m hm => h.one 102 m (by decide) hm rfl, h.one 90 21 (by decide) (by decide) rfl, h.one 90 19 (by decide) (by decide) rfl, h.one 90 20 (by decide) (by decide) rfl⟩
