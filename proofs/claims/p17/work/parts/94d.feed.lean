/-! TEXT TAKEN IN: the class's bytes and the reference's are one byte, read without and with a sign -/
theorem fd_byteN (B : BitVec 32) (n : Nat) (hn : n = 0 ∨ n = 8 ∨ n = 16 ∨ n = 24) : ((B >>> n) &&& 255#32).toInt = (B.sshiftRight n).toInt % 256 := by
  have h1 : ((B >>> n) &&& 255#32).toNat = B.toNat / 2 ^ n % 256 := by
    rw [BitVec.toNat_and, BitVec.toNat_ushiftRight, Nat.shiftRight_eq_div_pow]
    exact Nat.and_two_pow_sub_one_eq_mod _ 8
  have h3 : ((B >>> n) &&& 255#32).toNat < 256 := by
    rw [h1]
    exact Nat.mod_lt _ (by decide)
  have h2 : ((B >>> n) &&& 255#32).toInt = (((B >>> n) &&& 255#32).toNat : Int) := BitVec.toInt_eq_toNat_of_lt (by omega)
  rw [h2, h1, BitVec.toInt_sshiftRight, Int.shiftRight_eq_div_pow, BitVec.toInt_eq_toNat_cond]
  have hlt := B.isLt
  rcases hn with rfl | rfl | rfl | rfl
  all_goals
    simp only [show (2 : Nat) ^ 0 = 1 from rfl, show (2 : Nat) ^ 8 = 256 from rfl, show (2 : Nat) ^ 16 = 65536 from rfl, show (2 : Nat) ^ 24 = 16777216 from rfl, show (2 : Nat) ^ 32 = 4294967296 from rfl] at hlt ⊢
    split <;> omega
theorem fd_byte {a s : Int} (hs : s = 0 ∨ s = 8 ∨ s = 16 ∨ s = 24) : pm_iandV (pm_iushrV a s) 255 = Int.bmod (pm_ishrV a s) 256 % 256 := by
  have e1 : pm_iandV (pm_iushrV a s) 255 = (((Int32.ofInt a).toUInt32 >>> ((Int32.ofInt s).toUInt32 &&& Int32.toUInt32 31)).toInt32 &&& Int32.ofInt 255).toInt := by
    unfold pm_iandV pm_iushrV
    rw [Int32.ofInt_toInt]
  have e2 : Int.bmod (pm_ishrV a s) 256 % 256 = pm_ishrV a s % 256 := by
    have h := Int.bmod_emod (x := pm_ishrV a s) (m := 256)
    exact h
  rw [e1, e2]
  unfold pm_ishrV
  rcases hs with rfl | rfl | rfl | rfl
  · exact fd_byteN (Int32.ofInt a).toBitVec 0 (Or.inl rfl)
  · exact fd_byteN (Int32.ofInt a).toBitVec 8 (Or.inr (Or.inl rfl))
  · exact fd_byteN (Int32.ofInt a).toBitVec 16 (Or.inr (Or.inr (Or.inl rfl)))
  · exact fd_byteN (Int32.ofInt a).toBitVec 24 (Or.inr (Or.inr (Or.inr rfl)))
/-- a word's byte as the class keeps it -/
def fd_b (a x : Int) : Int := pm_iandV (pm_iushrV a x) 255
noncomputable def fd_Ba (a1 : Int) : Int × pm_M → (Int × pm_M) ⊕ (Int × pm_M) := (fun (q : Int × pm_M) => match q with | (x1, V3) => ((if x1 < 0 then ((.inr (0, V3))) else (pf_let (V3 1 1) fun y14 => (if 500 ≤ y14 then (pf_let (x1 + (-8)) fun x19 => (.inl (x19, V3))) else (pf_let ((pm_iushrV a1 x1)) fun y21 => pf_let ((pm_iandV y21 255)) fun y23 => pf_let (x1 + (-8)) fun x25 => (.inl (x25, (pm_up (pm_up V3 2 (y14 : Int).toNat y23) 1 1 (y14 + 1))))))))))
theorem fd_add_eq (a1 : Int) (V : pm_M) : F_X8_add a1 V = pf_val ((0 : Int), V) (fd_Ba a1) (24, V) := rfl
theorem fd_a1 {a x n : Int} {V : pm_M} (hx : 0 ≤ x) (hn : V 1 1 = n) (h : n < 500) : fd_Ba a (x, V) = .inl (x + -8, pm_up (pm_up V 2 n.toNat (fd_b a x)) 1 1 (n + 1)) := by
  simp only [fd_Ba, pf_let]
  rw [if_neg (show ¬ x < 0 by omega), if_neg (show ¬ 500 ≤ V 1 1 by omega), hn]
  rfl
theorem fd_a0 {a x : Int} {V : pm_M} (hx : x < 0) : fd_Ba a (x, V) = .inr (0, V) := by
  simp only [fd_Ba, pf_let]
  rw [if_pos hx]
theorem fd_add {a n : Int} {V : pm_M} (hn : V 1 1 = n) (h0 : 0 ≤ n) (h : n ≤ 496) : ∃ V1, F_X8_add a V = (0, V1) ∧ V1 1 1 = n + 4 ∧ (∀ i : Nat, (i : Int) < n → V1 2 i = V 2 i) ∧ ∀ q : Nat, q < 4 → V1 2 (n.toNat + q) = fd_b a (24 - 8 * (q : Int)) := by
  obtain ⟨V1, e1⟩ : ∃ Y, Y = pm_up (pm_up V 2 n.toNat (fd_b a 24)) 1 1 (n + 1) := ⟨_, rfl⟩
  obtain ⟨V2, e2⟩ : ∃ Y, Y = pm_up (pm_up V1 2 (n + 1).toNat (fd_b a 16)) 1 1 (n + 1 + 1) := ⟨_, rfl⟩
  obtain ⟨V3, e3⟩ : ∃ Y, Y = pm_up (pm_up V2 2 (n + 1 + 1).toNat (fd_b a 8)) 1 1 (n + 1 + 1 + 1) := ⟨_, rfl⟩
  obtain ⟨V4, e4⟩ : ∃ Y, Y = pm_up (pm_up V3 2 (n + 1 + 1 + 1).toNat (fd_b a 0)) 1 1 (n + 1 + 1 + 1 + 1) := ⟨_, rfl⟩
  have f1 : V1 1 1 = n + 1 := by rw [e1, pm_up_s]
  have f2 : V2 1 1 = n + 1 + 1 := by rw [e2, pm_up_s]
  have f3 : V3 1 1 = n + 1 + 1 + 1 := by rw [e3, pm_up_s]
  have f4 : V4 1 1 = n + 1 + 1 + 1 + 1 := by rw [e4, pm_up_s]
  have s1 : fd_Ba a (24, V) = .inl (16, V1) := by rw [fd_a1 (by decide) hn (by omega), e1]; rfl
  have s2 : fd_Ba a (16, V1) = .inl (8, V2) := by rw [fd_a1 (by decide) f1 (by omega), e2]; rfl
  have s3 : fd_Ba a (8, V2) = .inl (0, V3) := by rw [fd_a1 (by decide) f2 (by omega), e3]; rfl
  have s4 : fd_Ba a (0, V3) = .inl (-8, V4) := by rw [fd_a1 (by decide) f3 (by omega), e4]; rfl
  refine ⟨V4, ?_, by omega, ?_, ?_⟩
  · rw [fd_add_eq, pf_val_inl s1, pf_val_inl s2, pf_val_inl s3, pf_val_inl s4, pf_val_inr (fd_a0 (by decide))]
  · intro i hi
    rw [e4, pm_up_c (by decide), pm_up_i (by omega), e3, pm_up_c (by decide), pm_up_i (by omega), e2, pm_up_c (by decide), pm_up_i (by omega), e1, pm_up_c (by decide), pm_up_i (by omega)]
  · intro q hq
    rcases (show q = 0 ∨ q = 1 ∨ q = 2 ∨ q = 3 by omega) with rfl | rfl | rfl | rfl
    · rw [e4, pm_up_c (by decide), pm_up_i (by omega), e3, pm_up_c (by decide), pm_up_i (by omega), e2, pm_up_c (by decide), pm_up_i (by omega), e1, pm_up_c (by decide), show n.toNat + 0 = n.toNat from rfl, pm_up_s]
      rfl
    · rw [e4, pm_up_c (by decide), pm_up_i (by omega), e3, pm_up_c (by decide), pm_up_i (by omega), e2, pm_up_c (by decide), show n.toNat + 1 = (n + 1).toNat by omega, pm_up_s]
      rfl
    · rw [e4, pm_up_c (by decide), pm_up_i (by omega), e3, pm_up_c (by decide), show n.toNat + 2 = (n + 1 + 1).toNat by omega, pm_up_s]
      rfl
    · rw [e4, pm_up_c (by decide), show n.toNat + 3 = (n + 1 + 1 + 1).toNat by omega, pm_up_s]
      rfl
/-- the word of a byte's place -/
def fd_w (a1 a2 a3 a4 a5 k : Int) : Int := if 4 ≤ k then (if 8 ≤ k then (if 12 ≤ k then (if 16 ≤ k then a5 else a4) else a3) else a2) else a1
theorem fd_feedC {a1 a2 a3 a4 a5 n : Int} {V : pm_M} (hn : V 1 1 = n) (h0 : 0 ≤ n) (h : n + 20 ≤ 500) : ∃ V1, F_X11_feed a1 a2 a3 a4 a5 V = (n + 20, V1) ∧ V1 1 1 = n + 20 ∧ (∀ i : Nat, (i : Int) < n → V1 2 i = V 2 i) ∧ ∀ q : Nat, q < 20 → V1 2 (n.toNat + q) = fd_b (fd_w a1 a2 a3 a4 a5 (q : Int)) (24 - 8 * ((q : Int) % 4)) := by
  obtain ⟨V1, p1, l1, k1, b1⟩ := fd_add (a := a1) hn h0 (by omega)
  obtain ⟨V2, p2, l2, k2, b2⟩ := fd_add (a := a2) l1 (by omega) (by omega)
  obtain ⟨V3, p3, l3, k3, b3⟩ := fd_add (a := a3) l2 (by omega) (by omega)
  obtain ⟨V4, p4, l4, k4, b4⟩ := fd_add (a := a4) l3 (by omega) (by omega)
  obtain ⟨V5, p5, l5, k5, b5⟩ := fd_add (a := a5) l4 (by omega) (by omega)
  refine ⟨V5, ?_, by omega, ?_, ?_⟩
  · rw [F_X11_feed_eq]
    simp only [pf_let, pf_call]
    rw [if_pos (show V 1 1 + 20 ≤ 500 by omega), p1]
    dsimp only
    rw [p2]
    dsimp only
    rw [p3]
    dsimp only
    rw [p4]
    dsimp only
    rw [p5]
    dsimp only
    rw [l5]
    congr 1
    omega
  · intro i hi
    rw [k5 i (by omega), k4 i (by omega), k3 i (by omega), k2 i (by omega), k1 i hi]
  · intro q hq
    unfold fd_w
    rcases (show q < 4 ∨ (4 ≤ q ∧ q < 8) ∨ (8 ≤ q ∧ q < 12) ∨ (12 ≤ q ∧ q < 16) ∨ 16 ≤ q by omega) with c | c | c | c | c
    · rw [if_neg (by omega), k5 _ (by omega), k4 _ (by omega), k3 _ (by omega), k2 _ (by omega), b1 q c]
      congr 1
      omega
    · rw [if_pos (by omega), if_neg (by omega), k5 _ (by omega), k4 _ (by omega), k3 _ (by omega), show n.toNat + q = (n + 4).toNat + (q - 4) by omega, b2 (q - 4) (by omega)]
      congr 1
      omega
    · rw [if_pos (by omega), if_pos (by omega), if_neg (by omega), k5 _ (by omega), k4 _ (by omega), show n.toNat + q = (n + 4 + 4).toNat + (q - 8) by omega, b3 (q - 8) (by omega)]
      congr 1
      omega
    · rw [if_pos (by omega), if_pos (by omega), if_pos (by omega), if_neg (by omega), k5 _ (by omega), show n.toNat + q = (n + 4 + 4 + 4).toNat + (q - 12) by omega, b4 (q - 12) (by omega)]
      congr 1
      omega
    · rw [if_pos (by omega), if_pos (by omega), if_pos (by omega), if_pos (by omega), show n.toNat + q = (n + 4 + 4 + 4 + 4).toNat + (q - 16) by omega, b5 (q - 16) (by omega)]
      congr 1
      omega
/-- the reference's -/
def fd_r (a1 a2 a3 a4 a5 k : Int) : Int := Int.bmod (pm_ishrV (fd_w a1 a2 a3 a4 a5 k) (24 - 8 * (k % 4))) 256
noncomputable def fd_Bf (a1 a2 a3 a4 a5 : Int) : Int × pm_M → (Int × pm_M) ⊕ (Int × pm_M) := (fun (q : Int × pm_M) => match q with | (x5, V7) => ((if 20 ≤ x5 then (pf_let (V7 90 1) fun y18 => (.inr (y18, V7))) else ((if 4 ≤ x5 then ((if 8 ≤ x5 then ((if 12 ≤ x5 then ((if 16 ≤ x5 then (pf_let (V7 90 1) fun y26 => pf_let ((pm_ishrV a5 (24 - (8 * (x5 % 4))))) fun y29 => pf_let (Int.bmod y29 256) fun y31 => pf_let (x5 + 1) fun x33 => (.inl (x33, (pm_up (pm_up V7 91 (y26 : Int).toNat y31) 90 1 (y26 + 1))))) else (pf_let (V7 90 1) fun y36 => pf_let ((pm_ishrV a4 (24 - (8 * (x5 % 4))))) fun y39 => pf_let (Int.bmod y39 256) fun y41 => pf_let (x5 + 1) fun x43 => (.inl (x43, (pm_up (pm_up V7 91 (y36 : Int).toNat y41) 90 1 (y36 + 1))))))) else (pf_let (V7 90 1) fun y46 => pf_let ((pm_ishrV a3 (24 - (8 * (x5 % 4))))) fun y49 => pf_let (Int.bmod y49 256) fun y51 => pf_let (x5 + 1) fun x53 => (.inl (x53, (pm_up (pm_up V7 91 (y46 : Int).toNat y51) 90 1 (y46 + 1))))))) else (pf_let (V7 90 1) fun y56 => pf_let ((pm_ishrV a2 (24 - (8 * (x5 % 4))))) fun y59 => pf_let (Int.bmod y59 256) fun y61 => pf_let (x5 + 1) fun x63 => (.inl (x63, (pm_up (pm_up V7 91 (y56 : Int).toNat y61) 90 1 (y56 + 1))))))) else (pf_let (V7 90 1) fun y66 => pf_let ((pm_ishrV a1 (24 - (8 * (x5 % 4))))) fun y69 => pf_let (Int.bmod y69 256) fun y71 => pf_let (x5 + 1) fun x73 => (.inl (x73, (pm_up (pm_up V7 91 (y66 : Int).toNat y71) 90 1 (y66 + 1))))))))))
theorem fd_ref_eq (a1 a2 a3 a4 a5 : Int) (V : pm_M) : F_X12_feed a1 a2 a3 a4 a5 V = (if V 90 1 + 20 ≤ 500 then pf_val ((0 : Int), V) (fd_Bf a1 a2 a3 a4 a5) (0, V) else (-1, V)) := rfl
theorem fd_f0 {a1 a2 a3 a4 a5 k : Int} {W : pm_M} (hk : 20 ≤ k) : fd_Bf a1 a2 a3 a4 a5 (k, W) = .inr (W 90 1, W) := by
  simp only [fd_Bf, pf_let]
  rw [if_pos hk]
theorem fd_f1 {a1 a2 a3 a4 a5 k : Int} {W : pm_M} (hk : ¬ 20 ≤ k) : fd_Bf a1 a2 a3 a4 a5 (k, W) = .inl (k + 1, pm_up (pm_up W 91 (W 90 1).toNat (fd_r a1 a2 a3 a4 a5 k)) 90 1 (W 90 1 + 1)) := by
  simp only [fd_Bf, pf_let]
  rw [if_neg hk]
  unfold fd_r fd_w
  by_cases c1 : 4 ≤ k
  · by_cases c2 : 8 ≤ k
    · by_cases c3 : 12 ≤ k
      · by_cases c4 : 16 ≤ k
        · simp only [if_pos c1, if_pos c2, if_pos c3, if_pos c4]
        · simp only [if_pos c1, if_pos c2, if_pos c3, if_neg c4]
      · simp only [if_pos c1, if_pos c2, if_neg c3]
    · simp only [if_pos c1, if_neg c2]
  · simp only [if_neg c1]
theorem fd_feedR {a1 a2 a3 a4 a5 n : Int} {W : pm_M} (hn : W 90 1 = n) (h0 : 0 ≤ n) (h : n + 20 ≤ 500) : ∃ W1, F_X12_feed a1 a2 a3 a4 a5 W = (n + 20, W1) ∧ W1 90 1 = n + 20 ∧ (∀ i : Nat, (i : Int) < n → W1 91 i = W 91 i) ∧ ∀ q : Nat, q < 20 → W1 91 (n.toNat + q) = fd_r a1 a2 a3 a4 a5 (q : Int) := by
  rw [fd_ref_eq, if_pos (show W 90 1 + 20 ≤ 500 by omega)]
  have key := pf_val_ind (d := ((0 : Int), W)) (b := fd_Bf a1 a2 a3 a4 a5) (fun s => 0 ≤ s.1 ∧ s.1 ≤ 20 ∧ s.2 90 1 = n + s.1 ∧ (∀ i : Nat, (i : Int) < n → s.2 91 i = W 91 i) ∧ ∀ q : Nat, (q : Int) < s.1 → s.2 91 (n.toNat + q) = fd_r a1 a2 a3 a4 a5 (q : Int)) (fun o => o.1 = n + 20 ∧ o.2 90 1 = n + 20 ∧ (∀ i : Nat, (i : Int) < n → o.2 91 i = W 91 i) ∧ ∀ q : Nat, q < 20 → o.2 91 (n.toNat + q) = fd_r a1 a2 a3 a4 a5 (q : Int)) (fun s => (20 - s.1).toNat) ?_ ?_ (0, W) ⟨Int.le_refl _, by show (0 : Int) ≤ 20; decide, by show W 90 1 = n + 0; omega, fun i hi => rfl, fun q hq => absurd hq (by show ¬ (q : Int) < 0; omega)⟩
  · obtain ⟨o, ho⟩ : ∃ o, pf_val ((0 : Int), W) (fd_Bf a1 a2 a3 a4 a5) (0, W) = o := ⟨_, rfl⟩
    rw [ho] at key ⊢
    obtain ⟨y, W1⟩ := o
    obtain ⟨q1, q2, q3, q4⟩ := key
    have q1 : y = n + 20 := q1
    exact ⟨W1, by rw [q1], q2, q3, q4⟩
  · rintro ⟨k, U⟩ s1 ⟨p1, p2, p3, p4, p5⟩ hs
    dsimp only at p1 p2 p3 p4 p5
    by_cases hk : 20 ≤ k
    · rw [fd_f0 hk] at hs
      exact absurd hs (by simp)
    · rw [fd_f1 hk] at hs
      have e := Sum.inl.inj hs
      rw [← e]
      refine ⟨⟨by show 0 ≤ k + 1; omega, by show k + 1 ≤ 20; omega, ?_, ?_, ?_⟩, by show (20 - (k + 1)).toNat < (20 - k).toNat; omega⟩
      · show pm_up (pm_up U 91 (U 90 1).toNat (fd_r a1 a2 a3 a4 a5 k)) 90 1 (U 90 1 + 1) 90 1 = n + (k + 1)
        rw [pm_up_s]
        omega
      · intro i hi
        show pm_up (pm_up U 91 (U 90 1).toNat (fd_r a1 a2 a3 a4 a5 k)) 90 1 (U 90 1 + 1) 91 i = W 91 i
        rw [pm_up_c (by decide), pm_up_i (by omega), p4 i hi]
      · intro q hq
        have hq : (q : Int) < k + 1 := hq
        show pm_up (pm_up U 91 (U 90 1).toNat (fd_r a1 a2 a3 a4 a5 k)) 90 1 (U 90 1 + 1) 91 (n.toNat + q) = _
        rw [pm_up_c (by decide)]
        by_cases e2 : (q : Int) = k
        · rw [show n.toNat + q = (U 90 1).toNat by omega, pm_up_s, e2]
        · rw [pm_up_i (by omega), p5 q (by omega)]
  · rintro ⟨k, U⟩ o ⟨p1, p2, p3, p4, p5⟩ hs
    dsimp only at p1 p2 p3 p4 p5
    by_cases hk : 20 ≤ k
    · rw [fd_f0 hk] at hs
      have e := Sum.inr.inj hs
      rw [← e]
      exact ⟨by show U 90 1 = n + 20; omega, by show U 90 1 = n + 20; omega, p4, fun q hq => p5 q (by omega)⟩
    · rw [fd_f1 hk] at hs
      exact absurd hs (by simp)
/-- THE TWO TAKE TEXT IN ALIKE -/
theorem fd_feed {V W : pm_M} (a1 a2 a3 a4 a5 : Int) (hT : sm_T V W) : ∃ y V1 W1, F_X11_feed a1 a2 a3 a4 a5 V = (y, V1) ∧ F_X12_feed a1 a2 a3 a4 a5 W = (y, W1) ∧ sm_T V1 W1 := by
  obtain ⟨t1, t2, t3, t4⟩ := hT
  by_cases c : V 1 1 + 20 ≤ 500
  · obtain ⟨V1, p1, l1, k1, b1⟩ := fd_feedC (a1 := a1) (a2 := a2) (a3 := a3) (a4 := a4) (a5 := a5) (n := V 1 1) rfl t2 c
    obtain ⟨W1, p2, l2, k2, b2⟩ := fd_feedR (a1 := a1) (a2 := a2) (a3 := a3) (a4 := a4) (a5 := a5) (n := V 1 1) t1.symm t2 c
    refine ⟨_, V1, W1, p1, p2, by rw [l1, l2], by rw [l1]; omega, by rw [l1]; exact c, fun i hi => ?_⟩
    rw [l1] at hi
    by_cases hi2 : (i : Int) < V 1 1
    · rw [k1 i hi2, k2 i hi2]
      exact t4 i hi2
    · have e : i = (V 1 1).toNat + (i - (V 1 1).toNat) := by omega
      have hq : i - (V 1 1).toNat < 20 := by omega
      rw [e, b1 _ hq, b2 _ hq]
      have hb := pm_bm8 (pm_ishrV (fd_w a1 a2 a3 a4 a5 ((i - (V 1 1).toNat : Nat) : Int)) (24 - 8 * (((i - (V 1 1).toNat : Nat) : Int) % 4)))
      exact ⟨hb.1, hb.2, fd_byte (by omega)⟩
  · refine ⟨-1, V, W, ?_, ?_, t1, t2, t3, t4⟩
    · rw [F_X11_feed_eq]
      simp only [pf_let]
      rw [if_neg c]
    · rw [fd_ref_eq, if_neg (by omega)]
/-- the text is cut alike -/
theorem fd_end {V W : pm_M} (a : Int) (hT : sm_T V W) : ∃ y V1 W1, F_X11_end a V = (y, V1) ∧ F_X12_end a W = (y, W1) ∧ sm_T V1 W1 := by
  have hT0 := hT
  obtain ⟨t1, t2, t3, t4⟩ := hT
  have hC : F_X11_end a V = (if a < 0 then (0, V) else (if a ≤ V 1 1 then (1, pm_up V 1 1 a) else (0, V))) := F_X11_end_eq a V
  have hE : ∀ z : Int, F_X12_in a 0 (W 90 1) W = (z, W) → F_X12_end a W = (if ¬ (z = 0) then (1, pm_up W 90 1 a) else (0, W)) := fun z hz => (F_X12_end_eq a W).trans (show pf_call (F_X12_in a 0 (W 90 1) W) (fun y7 _ => if ¬ (y7 = 0) then ((1 : Int), pm_up W 90 1 a) else (0, W)) = _ from pf_call_eq hz)
  have hI : F_X12_in a 0 (W 90 1) W = (if a < 0 then (0, W) else (if W 90 1 < a then (0, W) else (1, W))) := F_X12_in_eq a 0 (W 90 1) W
  by_cases c1 : a < 0
  · rw [if_pos c1] at hC hI
    have h2 := hE 0 hI
    rw [if_neg (by decide)] at h2
    exact ⟨0, V, W, hC, h2, hT0⟩
  · rw [if_neg c1] at hC hI
    by_cases c2 : a ≤ V 1 1
    · rw [if_pos c2] at hC
      rw [if_neg (show ¬ W 90 1 < a by omega)] at hI
      have h2 := hE 1 hI
      rw [if_pos (by decide)] at h2
      refine ⟨1, _, _, hC, h2, ?_, ?_, ?_, ?_⟩
      · rw [pm_up_s, pm_up_s]
      · rw [pm_up_s]
        omega
      · rw [pm_up_s]
        omega
      · intro i hi
        rw [pm_up_s] at hi
        rw [pm_up_c (by decide), pm_up_c (by decide)]
        exact t4 i (by omega)
    · rw [if_neg c2] at hC
      rw [if_pos (show W 90 1 < a by omega)] at hI
      have h2 := hE 0 hI
      rw [if_neg (by decide)] at h2
      exact ⟨0, V, W, hC, h2, hT0⟩
/-- THE TWO FIND FAULTS ALIKE -/
theorem fd_fault {V W : pm_M} (a : Int) (h9 : V 0 9 = 45 ∨ V 0 9 = 51) (h11 : V 0 11 = 57 ∨ V 0 11 = 63) (hT : sm_T V W) : ∃ y V1 W1, F_X11_fault a V = (y, V1) ∧ F_X12_fault a W = (y, W1) ∧ sm_T V1 W1 := by
  rw [F_X11_fault_eq, F_X12_fault_eq]
  by_cases c0 : ¬ (a = 0)
  · rw [if_pos c0, if_pos c0]
    by_cases c1 : ¬ (a = 1)
    · rw [if_pos c1, if_pos c1]
      exact ⟨_, V, W, rfl, rfl, hT⟩
    · rw [if_neg c1, if_neg c1]
      rcases h11 with q | q
      · rw [if_pos q]
        obtain ⟨y, V1, W1, f1, f2, f3, -⟩ := sr_fault (rc := 57) (by decide) hT
        exact ⟨y, V1, W1, pf_call_eq f1, pf_call_eq f2, f3⟩
      · rw [if_neg (show ¬ V 0 11 = 57 by omega)]
        obtain ⟨y, V1, W1, f1, f2, f3, -⟩ := sr_fault (rc := 63) (by decide) hT
        exact ⟨y, V1, W1, pf_call_eq f1, pf_call_eq f2, f3⟩
  · rw [if_neg c0, if_neg c0]
    rcases h9 with q | q
    · rw [if_pos q]
      obtain ⟨y, V1, W1, f1, f2, f3, -⟩ := sl_fault (sc := 45) (Or.inl rfl) hT
      exact ⟨y, V1, W1, pf_call_eq f1, pf_call_eq f2, f3⟩
    · rw [if_neg (show ¬ V 0 9 = 45 by omega)]
      obtain ⟨y, V1, W1, f1, f2, f3, -⟩ := sl_fault (sc := 51) (Or.inr rfl) hT
      exact ⟨y, V1, W1, pf_call_eq f1, pf_call_eq f2, f3⟩
