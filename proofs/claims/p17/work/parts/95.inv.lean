/-! WHAT THE LAW KEEPS from call to call -/
/-- the reference with a scene -/
def lw_iB (V : pm_M) : Prop := pm_oq pm_qB V ∧ pm_h1 V ∧ pm_h2 V ∧ pm_h3 V ∧ pm_h4 V
/-- the reference's cells -/
def lw_R (V : pm_M) : Prop := pm_r1 V ∧ (pm_oq pm_qA V ∨ lw_iB V)
def lw_inv (V : pm_M) : Prop := pm_ok 0 90 V ∧ sm_T V V ∧ lw_R V
theorem lw_R.P {V : pm_M} (h : lw_R V) : pm_oq pm_qP V := h.2.elim (fun h => pm_oqAP h) (fun h => pm_oqBP h.1)
theorem lw_R.eq {V V' : pm_M} (h : lw_R V) (hk : ∀ k, 90 ≤ k → V' k = V k) : lw_R V' := by
  have e : ∀ i, V' 90 i = V 90 i := fun i => by rw [hk 90 (by decide)]
  refine ⟨h.1.fr (e 35) (hk 108 (by decide)), ?_⟩
  rcases h.2 with q | ⟨q1, q2, q3, q4, q5⟩
  · exact Or.inl (q.eq fun k k1 _ => hk k k1)
  · exact Or.inr ⟨q1.eq fun k k1 _ => hk k k1, q2.fr (e 16) (hk 97 (by decide)), q3.fr (e 16) (e 21) (hk 99 (by decide)), q4.fr (e 16) (e 25) (hk 101 (by decide)), q5.fr (e 16) (hk 102 (by decide)) (hk 105 (by decide)) (hk 106 (by decide))⟩
theorem pm_ok.low {V V' : pm_M} (h : pm_ok 0 90 V) (hk : ∀ k, k < 90 → V' k = V k) : pm_ok 0 90 V' := h.eq fun k _ k2 => hk k k2
/-- cells below 90 alone -/
def lw_cl (ws : List Nat) : Bool := ws.all fun k => decide (k < 90)
theorem pm_fr.hi {ws : List Nat} {V V' : pm_M} (h : pm_fr ws V V') (hw : lw_cl ws = true) : ∀ k, 90 ≤ k → V' k = V k := fun k hk => h k fun q => by
  have := List.all_eq_true.mp hw k q
  simp at this
  omega
/-- cells from 90 on alone -/
def lw_rl (cs : List Nat) : Bool := cs.all fun k => decide (90 < k)
theorem pm_fs.lo {cs fs : List Nat} {V V' : pm_M} (h : pm_fs cs fs V V') (hc : lw_rl cs = true) : ∀ k, k < 90 → V' k = V k := fun k hk => h.1 k (fun q => by
  have := List.all_eq_true.mp hc k q
  simp at this
  omega) (by omega)
/-- a call of the class that lets the text be -/
theorem lw_inv.cl {V V' : pm_M} {ws : List Nat} (h : lw_inv V) (hok : pm_ok 0 90 V') (hf : pm_fr ws V V') (hw : lw_cl ws = true) (h12 : (ws.contains 1 || ws.contains 2) = false) : lw_inv V' := by
  have hk := hf.hi hw
  simp only [Bool.or_eq_false_iff, List.contains_eq_mem, decide_eq_false_iff_not] at h12
  exact ⟨hok, h.2.1.up (hf 1 h12.1) (hf 2 h12.2) (hk 91 (by decide)) (by rw [hk 90 (by decide)]), h.2.2.eq hk⟩
def lw_nf (l m : List Nat) : Bool := l.all fun k => !(m.contains k)
theorem lw_nf_at {l m : List Nat} (h : lw_nf l m = true) (k : Nat) (hk : l.contains k = true) : k ∉ m := by
  have := List.all_eq_true.mp h k (by simpa using hk)
  simpa using this
/-- a call of the reference with a scene -/
theorem lw_inv.rB {V V' : pm_M} {cs fs : List Nat} (h : lw_inv V) (hB : lw_iB V) (hoq : pm_oq pm_qB V') (hf : pm_fs cs fs V V') (hc : lw_rl cs = true) (hn : lw_nf [91, 97, 99, 108] cs = true) (hm : lw_nf [1, 16, 21, 35] fs = true) (h3 : pm_h3 V') (h4 : pm_h4 V') : lw_inv V' := by
  have hk := hf.lo hc
  have c : ∀ k, [91, 97, 99, 108].contains k = true → V' k = V k := fun k q => hf.1 k (lw_nf_at hn k q) (by rintro rfl; exact absurd q (by decide))
  have f : ∀ i, [1, 16, 21, 35].contains i = true → V' 90 i = V 90 i := fun i q => hf.2 i (lw_nf_at hm i q)
  exact ⟨h.1.low hk, h.2.1.up (hk 1 (by decide)) (hk 2 (by decide)) (c 91 (by decide)) (f 1 (by decide)), h.2.2.1.fr (f 35 (by decide)) (c 108 (by decide)), Or.inr ⟨hoq, hB.2.1.fr (f 16 (by decide)) (c 97 (by decide)), hB.2.2.1.fr (f 16 (by decide)) (f 21 (by decide)) (c 99 (by decide)), h3, h4⟩⟩
theorem lw_k3 {V V' : pm_M} {cs fs : List Nat} (hB : lw_iB V) (hf : pm_fs cs fs V V') (hn : lw_nf [101] cs = true) (hm : lw_nf [16, 25] fs = true) : pm_h3 V' :=
  hB.2.2.2.1.fr (hf.2 16 (lw_nf_at hm 16 (by decide))) (hf.2 25 (lw_nf_at hm 25 (by decide))) (hf.1 101 (lw_nf_at hn 101 (by decide)) (by decide))
theorem lw_k4 {V V' : pm_M} {cs fs : List Nat} (hB : lw_iB V) (hf : pm_fs cs fs V V') (hn : lw_nf [102, 105, 106] cs = true) (hm : lw_nf [16] fs = true) : pm_h4 V' :=
  hB.2.2.2.2.fr (hf.2 16 (lw_nf_at hm 16 (by decide))) (hf.1 102 (lw_nf_at hn 102 (by decide)) (by decide)) (hf.1 105 (lw_nf_at hn 105 (by decide)) (by decide)) (hf.1 106 (lw_nf_at hn 106 (by decide)) (by decide))
/-- which cells and fields say the same in all the tables -/
def lw_bk (t1 t2 : pm_Qt) (cs fs : List Nat) : Bool := ((List.range 28).all fun k => decide (k = 0) || !(cs.contains (k + 90)) || pm_inq (t2.getD k (.inl (0, 0, 0))) (t1.getD k (.inl (0, 0, 0)))) && (fs.all fun i => pm_ine (pm_qe t2 90 i) (pm_qe t1 90 i))
/-- a call of the reference that reads, with or without a scene -/
theorem lw_R.rP {V V' : pm_M} {cs fs : List Nat} (h : lw_R V) (hP : pm_oq pm_qP V') (hf : pm_fs cs fs V V') (hA : lw_bk pm_qA pm_qP cs fs = true) (hB : lw_bk pm_qB pm_qP cs fs = true) (hn : lw_nf [97, 99, 101, 102, 105, 106] cs = true) (hm : lw_nf [16, 21, 25] fs = true) (hr : pm_r1 V') : lw_R V' := by
  refine ⟨hr, ?_⟩
  unfold lw_bk at hA hB
  simp only [Bool.and_eq_true] at hA hB
  rcases h.2 with q | q
  · exact Or.inl (pm_oq_back pm_lenA pm_lenP cs fs hA.1 hA.2 q hP hf)
  · have c : ∀ k, [97, 99, 101, 102, 105, 106].contains k = true → V' k = V k := fun k q => hf.1 k (lw_nf_at hn k q) (by rintro rfl; exact absurd q (by decide))
    have f : ∀ i, [16, 21, 25].contains i = true → V' 90 i = V 90 i := fun i q => hf.2 i (lw_nf_at hm i q)
    exact Or.inr ⟨pm_oq_back pm_lenB pm_lenP cs fs hB.1 hB.2 q.1 hP hf, q.2.1.fr (f 16 (by decide)) (c 97 (by decide)), q.2.2.1.fr (f 16 (by decide)) (f 21 (by decide)) (c 99 (by decide)), q.2.2.2.1.fr (f 16 (by decide)) (f 25 (by decide)) (c 101 (by decide)), q.2.2.2.2.fr (f 16 (by decide)) (c 102 (by decide)) (c 105 (by decide)) (c 106 (by decide))⟩
theorem lw_r1k {V V' : pm_M} {cs fs : List Nat} (h : lw_R V) (hf : pm_fs cs fs V V') (hn : lw_nf [108] cs = true) (hm : lw_nf [35] fs = true) : pm_r1 V' :=
  h.1.fr (hf.2 35 (lw_nf_at hm 35 (by decide))) (hf.1 108 (lw_nf_at hn 108 (by decide)) (by decide))
/-- the text, where the class alone was called -/
theorem sm_T.hi {V V' : pm_M} (h : sm_T V V) (hk : ∀ k, 90 ≤ k → V' k = V k) : sm_T V V' := h.up rfl rfl (hk 91 (by decide)) (by rw [hk 90 (by decide)])
theorem sm_T.lo {V1 V' : pm_M} (h : sm_T V1 V') (hk : ∀ k, k < 90 → V' k = V1 k) : sm_T V' V' := h.up (hk 1 (by decide)) (hk 2 (by decide)) rfl rfl
/-- with a scene: the table B out of the one for both -/
def lw_PB : Bool := ((List.range 28).all fun k => decide (k = 0) || decide (k = 8) || pm_inq (pm_qP.getD k (.inl (0, 0, 0))) (pm_qB.getD k (.inl (0, 0, 0)))) && ((List.range 58).all fun i => decide (i = 15) || decide (i = 16) || decide (i = 20) || pm_ine (pm_qe pm_qP 90 i) (pm_qe pm_qB 90 i)) && ((List.range 4).all fun i => decide (i = 0) || decide (i = 2) || pm_ine (pm_qe pm_qP 98 i) (pm_qe pm_qB 98 i))
theorem lw_PB_ok : lw_PB = true := by decide +kernel
theorem pm_el0 {lo hi x : Int} (h1 : lo ≤ x) (h2 : x ≤ hi) : pm_el (lo, hi, 0) x := ⟨h1, h2, fun q => absurd (show (0 : Nat) = 1 from q) (by decide), fun q => absurd (show (0 : Nat) = 2 from q) (by decide)⟩
theorem lw_oqPB {V : pm_M} (h : pm_oq pm_qP V) (e15 : V 90 15 = 1) (e16 : 2 ≤ V 90 16) (e20 : 1 ≤ V 90 20) (s0 : 1 ≤ V 98 0) (s2 : 1 ≤ V 98 2) : pm_oq pm_qB V := by
  have hP := lw_PB_ok
  unfold lw_PB at hP
  simp only [Bool.and_eq_true] at hP
  obtain ⟨⟨p1, p2⟩, p3⟩ := hP
  intro k k1 k2 i hi
  have hx := h k k1 k2 i hi
  by_cases c0 : k = 90
  · subst c0
    have hi : i < 58 := hi
    by_cases c15 : i = 15
    · subst c15
      exact pm_el0 (lo := 1) (hi := 1) (by omega) (by omega)
    by_cases c16 : i = 16
    · subst c16
      exact pm_el0 (lo := 2) (hi := 9) e16 (h.get 90 16 (lo := 0) (hi := 9) (t := 0) (by decide) (by decide) rfl).2
    by_cases c20 : i = 20
    · subst c20
      exact pm_el0 (lo := 1) (hi := 99) e20 (h.get 90 20 (lo := 0) (hi := 99) (t := 0) (by decide) (by decide) rfl).2
    have h2 := List.all_eq_true.mp p2 i (List.mem_range.mpr hi)
    simp only [Bool.or_eq_true, decide_eq_true_eq] at h2
    rcases h2 with ((q | q) | q) | q
    · exact absurd q c15
    · exact absurd q c16
    · exact absurd q c20
    · exact pm_ine_el q hx
  by_cases c8 : k = 98
  · subst c8
    have hi : i < 4 := hi
    by_cases c1 : i = 0
    · subst c1
      exact pm_el0 (lo := 1) (hi := 60) s0 (h.get 98 0 (lo := 0) (hi := 60) (t := 0) (by decide) (by decide) rfl).2
    by_cases c2 : i = 2
    · subst c2
      exact pm_el0 (lo := 1) (hi := 60) s2 (h.get 98 2 (lo := 0) (hi := 60) (t := 0) (by decide) (by decide) rfl).2
    have h2 := List.all_eq_true.mp p3 i (List.mem_range.mpr hi)
    simp only [Bool.or_eq_true, decide_eq_true_eq] at h2
    rcases h2 with (q | q) | q
    · exact absurd q c1
    · exact absurd q c2
    · exact pm_ine_el q hx
  · have h2 := List.all_eq_true.mp p1 (k - 90) (List.mem_range.mpr (by omega))
    simp only [Bool.or_eq_true, decide_eq_true_eq] at h2
    have l1 := pm_lenP
    have l2 := pm_lenB
    have e1 : pm_qP[k - 90]? = some (pm_qP.getD (k - 90) (.inl (0, 0, 0))) := by rw [List.getD_eq_getElem?_getD, List.getElem?_eq_getElem (by omega)]; rfl
    have e2 : pm_qB[k - 90]? = some (pm_qB.getD (k - 90) (.inl (0, 0, 0))) := by rw [List.getD_eq_getElem?_getD, List.getElem?_eq_getElem (by omega)]; rfl
    rcases h2 with (q | q) | q
    · omega
    · omega
    · exact pm_inq_el e1 e2 q hx
/-- a scene taken: what the reference then holds -/
theorem lw_scene {sc : Nat} {V W V' : pm_M} (hS : sm_S sc V W) (n2 : 2 ≤ V sc 0) (n4 : 1 ≤ V sc 4) (n6 : 1 ≤ V sc 6) (hP : pm_oq pm_qP V') (e15 : V' 90 15 = 1) (e16 : V' 90 16 = W 90 6) (e21 : V' 90 21 = W 90 13) (e25 : V' 90 25 = 0) (e20 : V' 90 20 = (if W 90 11 = -1 then 99 else W 90 12)) (c97 : ∀ q : Nat, q < 27 → V' 97 q = W 93 q) (c98 : ∀ q : Nat, q < 4 → V' 98 q = W 95 q) (c99 : ∀ q : Nat, q < 36 → V' 99 q = W 96 q) (c102 : ∀ q : Nat, q < 3 → V' 102 q = 0) : lw_iB V' := by
  obtain ⟨s1, s2, s3, s4, s5⟩ := hS
  obtain ⟨p1, p2, p3, p4⟩ := s1
  obtain ⟨r1, r2, r3, r4⟩ := s5
  have a0 := c98 0 (by decide)
  have a2 := c98 2 (by decide)
  have b0 : 1 ≤ W 95 0 := by
    unfold sm_S2 at s2
    omega
  have b2 : 1 ≤ W 95 2 := by
    unfold sm_S3 at s3
    omega
  have bw : 1 ≤ V' 90 20 := by
    unfold sm_S4 at s4
    rw [e20]
    split
    · decide
    · omega
  refine ⟨lw_oqPB hP e15 (by omega) bw (by omega) (by omega), ?_, ?_, ?_, ?_⟩
  · intro j j0 j1
    obtain ⟨-, -, -, q1, -, q2, -⟩ := p4 j.toNat (by omega)
    have hc := c97 (3 * j + 2).toNat (by omega)
    rw [hc, show (3 * j + 2).toNat = 3 * j.toNat + 2 by omega]
    omega
  · intro k k0 k1
    obtain ⟨-, q1, -, -, -, -, q2, q3⟩ := r4 k.toNat (by omega)
    have hc := c99 (3 * k + 2).toNat (by omega)
    rw [hc, show (3 * k + 2).toNat = 3 * k.toNat + 2 by omega]
    omega
  · intro k k0 k1
    omega
  · intro m m0 m2 hm
    have hc := c102 m.toNat (by omega)
    omega
