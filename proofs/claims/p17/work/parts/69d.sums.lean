/-! the reference's sum: its three loops by name -/
noncomputable def su_b115 (V0 : pm_M) : Int × pm_M → (Int × pm_M) ⊕ ((Int × pm_M) ⊕ ((Int × Int × pm_M) ⊕ (Int × pm_M))) := (fun (q : Int × pm_M) => match q with | (x177, V179) => (pf_let (V179 90 2) fun y196 => pf_let (V179 90 3) fun y199 => pf_let (V179 90 4) fun y202 => pf_let (V179 90 33) fun y205 => pf_let (V179 90 39) fun y208 => pf_call (F_X12_isSign 41 V179) fun y214 _ => (if y214 = 0 then (pf_call (F_X12_isSign 43 V179) fun y221 _ => (if y221 = 0 then (pf_call (F_X12_isSign 45 V179) fun y228 _ => (if y228 = 0 then (pf_call (F_X12_isSign 42 V179) fun y235 _ => (if y235 = 0 then ((.inr (.inr (.inl (x177, 0, V179))))) else (pf_call (F_X12_rank 4 V179) fun y246 _ => pf_call (F_X12_empties y246 V179) fun _ V250 => pf_let (V250 90 33) fun y262 => pf_let (V250 90 39) fun y265 => pf_let ((pm_up (pm_up V250 109 (y265 : Int).toNat 4) 90 39 (y265 + 1))) fun V269 => pf_call (F_X12_leads  V269) fun _ V283 => pf_let (V283 90 2) fun y294 => pf_let (V283 90 3) fun y297 => pf_let (V283 90 4) fun y300 => (.inr (.inr (.inl (x177, 1, V283))))))) else (pf_call (F_X12_rank 3 V179) fun y310 _ => pf_call (F_X12_empties y310 V179) fun _ V314 => pf_let (V314 90 33) fun y326 => pf_let (V314 90 39) fun y329 => pf_let ((pm_up (pm_up V314 109 (y329 : Int).toNat 3) 90 39 (y329 + 1))) fun V333 => pf_call (F_X12_leads  V333) fun _ V347 => pf_let (V347 90 2) fun y358 => pf_let (V347 90 3) fun y361 => pf_let (V347 90 4) fun y364 => (.inr (.inr (.inl (x177, 1, V347))))))) else (pf_call (F_X12_rank 2 V179) fun y374 _ => pf_call (F_X12_empties y374 V179) fun _ V378 => pf_let (V378 90 33) fun y390 => pf_let (V378 90 39) fun y393 => pf_let ((pm_up (pm_up V378 109 (y393 : Int).toNat 2) 90 39 (y393 + 1))) fun V397 => pf_call (F_X12_leads  V397) fun _ V411 => pf_let (V411 90 2) fun y422 => pf_let (V411 90 3) fun y425 => pf_let (V411 90 4) fun y428 => (.inr (.inr (.inl (x177, 1, V411))))))) else ((if x177 ≤ 0 then (pf_call (F_X12_isSign 43 V179) fun y437 _ => (if y437 = 0 then (pf_call (F_X12_isSign 45 V179) fun y444 _ => (if y444 = 0 then (pf_call (F_X12_isSign 42 V179) fun y451 _ => (if y451 = 0 then ((.inr (.inr (.inl (x177, 0, V179))))) else (pf_call (F_X12_rank 4 V179) fun y462 _ => pf_call (F_X12_empties y462 V179) fun _ V466 => pf_let (V466 90 33) fun y478 => pf_let (V466 90 39) fun y481 => pf_let ((pm_up (pm_up V466 109 (y481 : Int).toNat 4) 90 39 (y481 + 1))) fun V485 => pf_call (F_X12_leads  V485) fun _ V499 => pf_let (V499 90 2) fun y510 => pf_let (V499 90 3) fun y513 => pf_let (V499 90 4) fun y516 => (.inr (.inr (.inl (x177, 1, V499))))))) else (pf_call (F_X12_rank 3 V179) fun y526 _ => pf_call (F_X12_empties y526 V179) fun _ V530 => pf_let (V530 90 33) fun y542 => pf_let (V530 90 39) fun y545 => pf_let ((pm_up (pm_up V530 109 (y545 : Int).toNat 3) 90 39 (y545 + 1))) fun V549 => pf_call (F_X12_leads  V549) fun _ V563 => pf_let (V563 90 2) fun y574 => pf_let (V563 90 3) fun y577 => pf_let (V563 90 4) fun y580 => (.inr (.inr (.inl (x177, 1, V563))))))) else (pf_call (F_X12_rank 2 V179) fun y590 _ => pf_call (F_X12_empties y590 V179) fun _ V594 => pf_let (V594 90 33) fun y606 => pf_let (V594 90 39) fun y609 => pf_let ((pm_up (pm_up V594 109 (y609 : Int).toNat 2) 90 39 (y609 + 1))) fun V613 => pf_call (F_X12_leads  V613) fun _ V627 => pf_let (V627 90 2) fun y638 => pf_let (V627 90 3) fun y641 => pf_let (V627 90 4) fun y644 => (.inr (.inr (.inl (x177, 1, V627))))))) else (pf_call (F_X12_empties 1 V179) fun _ V650 => pf_let (V650 90 33) fun y662 => pf_let (V650 90 39) fun y665 => pf_let (x177 + (-1)) fun x668 => pf_let ((pm_up V650 90 39 (y665 - 1))) fun V670 => pf_call (F_X12_leads  V670) fun _ V683 => pf_let (V683 90 2) fun y693 => pf_let (V683 90 3) fun y696 => pf_let (V683 90 4) fun y699 => (.inl (x668, V683))))))))
noncomputable def su_b13 (V0 : pm_M) : Int × pm_M → (Int × pm_M) ⊕ ((Int × Int × pm_M) ⊕ (Int × pm_M)) := (fun (q : Int × pm_M) => match q with | (x89, V91) => (pf_let (V91 90 2) fun y109 => pf_let (V91 90 3) fun y112 => pf_let (V91 90 4) fun y115 => pf_let (V91 90 39) fun y118 => pf_call (F_X12_isSign 40 V91) fun y124 _ => (if y124 = 0 then ((if ¬ (y112 = 2) then (pf_call (F_X12_nameHere  V91) fun y132 _ => (if ¬ (y132 = (-1)) then (pf_call (F_X12_lays 1 y132 V91) fun _ V137 => pf_let (V137 90 33) fun y152 => pf_call (F_X12_leads  V137) fun _ V156 => pf_let (V156 90 2) fun y166 => pf_let (V156 90 3) fun y169 => pf_let (V156 90 4) fun y172 => pf_val (.inr (.inr ((0 : Int), V0))) (su_b115 V0) (x89, V156)) else ((.inr (.inr (0, V91)))))) else (pf_call (F_X12_number 0 9999 V91) fun y707 V705 => pf_let (V705 90 2) fun y718 => pf_let (V705 90 3) fun y721 => pf_let (V705 90 4) fun y724 => pf_let (V705 90 37) fun y727 => (if ¬ (y707 = 0) then (pf_call (F_X12_lays 0 y727 V705) fun _ V732 => pf_let (V732 90 33) fun y748 => pf_val (.inr (.inr ((0 : Int), V0))) (su_b115 V0) (x89, V732)) else ((.inr (.inr (0, V705)))))))) else ((if ¬ (x89 = 8) then (pf_let (x89 + 1) fun x1301 => pf_let ((pm_up (pm_up V91 109 (y118 : Int).toNat (-1)) 90 39 (y118 + 1))) fun V1304 => pf_call (F_X12_leads  V1304) fun _ V1318 => pf_let (V1318 90 2) fun y1329 => pf_let (V1318 90 3) fun y1332 => pf_let (V1318 90 4) fun y1335 => (.inl (x1301, V1318))) else ((.inr (.inr (0, V91)))))))))
noncomputable def su_b9 (V0 : pm_M) : Int × Int × pm_M → (Int × Int × pm_M) ⊕ (Int × pm_M) := (fun (q : Int × Int × pm_M) => match q with | (x32, x34, V36) => (pf_let (V36 90 2) fun y53 => pf_let (V36 90 3) fun y56 => pf_let (V36 90 4) fun y59 => pf_let (V36 90 33) fun y62 => pf_let (V36 90 39) fun y65 => (if x34 = 0 then ((if x32 ≤ 0 then (pf_call (F_X12_empties 1 V36) fun _ V71 => pf_let (V71 90 33) fun y83 => pf_let (V71 90 39) fun y86 => (.inr (1, V71))) else ((.inr (0, V36))))) else (pf_val (.inr ((0 : Int), V0)) (su_b13 V0) (x32, V36)))))
theorem su_sum_eq (V0 : pm_M) : F_X12_sumHere V0 = pf_val ((0 : Int), V0) (su_b9 V0) (0, 1, pm_up V0 90 39 0) := rfl
theorem su_ite2 {P Q : Prop} [Decidable P] [Decidable Q] {V W : pm_M} {y : Int} (h : ((if P then (1 : Int) else 0), V) = (y, V)) (h1 : ((if Q then (1 : Int) else 0), W) = (y, W)) : P ↔ Q := by
  have e := (Prod.mk.inj h).1.trans (Prod.mk.inj h1).1.symm
  by_cases p : P
  · by_cases q : Q
    · exact ⟨fun _ => q, fun _ => p⟩
    · rw [if_pos p, if_neg q] at e
      exact absurd e (by decide)
  · by_cases q : Q
    · rw [if_neg p, if_pos q] at e
      exact absurd e (by decide)
    · exact ⟨fun k => absurd k p, fun k => absurd k q⟩
theorem su_rg {V U : pm_M} {c : Int} (h : su_R V U) (hc : tk_sg c) : (U 90 3 = 3 ∧ U 90 5 = c) ↔ su_g c V := by
  obtain ⟨y, a, b, -⟩ := sm_sign (c := c) h.2 hc
  rw [c_isSign] at a
  rw [r_isSign] at b
  exact (su_ite2 a b).symm
theorem su_wd {V U : pm_M} {c j : Int} (h : su_R V U) (hc : pm_pk j.toNat = c) : (U 90 3 = 1 ∧ U 90 5 = pm_pk j.toNat) ↔ (V 3 1 = 1 ∧ V 3 3 = c) := by
  obtain ⟨y, a, b, -⟩ := sm_word (c := c) (j := j) h.2 hc
  rw [c_isWord] at a
  rw [r_isWord] at b
  exact (su_ite2 a b).symm
def su_e (U U1 : pm_M) : Prop := (∀ k, k ≠ 90 → k ≠ 107 → k ≠ 109 → U1 k = U k) ∧ ∀ i, i ≠ 33 → i ≠ 39 → U1 90 i = U 90 i
theorem su_e.rf {U : pm_M} : su_e U U := ⟨fun _ _ _ _ => rfl, fun _ _ _ => rfl⟩
theorem su_e.tr {U U1 U2 : pm_M} (h : su_e U U1) (h1 : su_e U1 U2) : su_e U U2 := ⟨fun k a b c => (h1.1 k a b c).trans (h.1 k a b c), fun i a b => (h1.2 i a b).trans (h.2 i a b)⟩
theorem su_e.R {V U U1 : pm_M} (h : su_e U U1) (h1 : su_R V U) : su_R V U1 := h1.upr (h.1 91 (by decide) (by decide) (by decide)) (h.2 1 (by decide) (by decide)) (h.2 2 (by decide) (by decide)) (h.2 3 (by decide) (by decide)) (h.2 4 (by decide) (by decide)) (h.2 5 (by decide) (by decide))
theorem su_e.wt {U : pm_M} {x : Int} : su_e U (pm_up U 90 39 x) := ⟨fun k a _ _ => pm_up_f a, fun i _ b => pm_up_i b⟩
theorem su_e.ps {U : pm_M} {x y : Int} {j : Nat} : su_e U (pm_up (pm_up U 109 j x) 90 39 y) := ⟨fun k a _ c => by rw [pm_up_f a, pm_up_f c], fun i _ b => by rw [pm_up_i b, pm_up_f (by decide)]⟩
theorem su_lay (a b : Int) (U : pm_M) : ∃ U1, F_X12_lays a b U = (0, U1) ∧ su_e U U1 ∧ U1 90 39 = U 90 39 := by
  rw [F_X12_lays_eq]
  refine ⟨_, rfl, ⟨fun k a b _ => by rw [pm_up_f a, pm_up_f b, pm_up_f b], fun i a _ => by rw [pm_up_i a, pm_up_f (by decide), pm_up_f (by decide)]⟩, by rw [pm_up_i (by decide), pm_up_f (by decide), pm_up_f (by decide)]⟩
theorem su_emp (r : Int) (U : pm_M) : ∃ U1, F_X12_empties r U = (0, U1) ∧ su_e U U1 := by
  rw [F_X12_empties_eq]
  simp only [pf_let]
  have key : ∀ V, su_e U V → (fun (o : Int × pm_M) => o.1 = 0 ∧ su_e U o.2) (pf_val ((0 : Int), U) (fun (q : pm_M) => match q with | V7 => (if V7 90 39 ≤ 0 then ((.inr (0, V7))) else (if V7 109 ((V7 90 39 - 1) : Int).toNat = (-1) then ((.inr (0, V7))) else (pf_call (F_X12_rank (V7 109 ((V7 90 39 - 1) : Int).toNat) V7) fun y33 _ => (if y33 < r then ((.inr (0, V7))) else (pf_call (F_X12_lays (V7 109 ((V7 90 39 - 1) : Int).toNat) 0 (pm_up V7 90 39 (V7 90 39 - 1))) fun _ V45 => (.inl V45))))))) V) := by
    refine pf_val_ind2 (su_e U) (fun (o : Int × pm_M) => o.1 = 0 ∧ su_e U o.2) (fun V => (V 90 39).toNat) ?_
    intro V hV
    dsimp only
    by_cases q : V 90 39 ≤ 0
    · rw [if_pos q]
      exact Or.inr ⟨_, rfl, rfl, hV⟩
    · rw [if_neg q]
      by_cases q1 : V 109 ((V 90 39 - 1) : Int).toNat = -1
      · rw [if_pos q1]
        exact Or.inr ⟨_, rfl, rfl, hV⟩
      · rw [if_neg q1]
        obtain ⟨y, e, -⟩ := r_rank (V 109 ((V 90 39 - 1) : Int).toNat) V
        rw [e]
        simp only [pf_call]
        by_cases q2 : y < r
        · rw [if_pos q2]
          exact Or.inr ⟨_, rfl, rfl, hV⟩
        · rw [if_neg q2]
          obtain ⟨U1, e1, f1, f2⟩ := su_lay (V 109 ((V 90 39 - 1) : Int).toNat) 0 (pm_up V 90 39 (V 90 39 - 1))
          rw [e1]
          refine Or.inl ⟨U1, rfl, hV.tr (su_e.wt.tr f1), ?_⟩
          rw [f2, pm_up_s]
          omega
  have k := key U su_e.rf
  exact ⟨_, Prod.ext k.1 rfl, k.2⟩
def su_h (U U1 : pm_M) : Prop := (∀ k, k ≠ 90 → k ≠ 107 → k ≠ 109 → U1 k = U k) ∧ ∀ i, i ≠ 2 → i ≠ 3 → i ≠ 4 → i ≠ 5 → i ≠ 33 → i ≠ 37 → i ≠ 39 → U1 90 i = U 90 i
theorem su_h.tr {U U1 U2 : pm_M} (h : su_h U U1) (h1 : su_h U1 U2) : su_h U U2 := ⟨fun k a b c => (h1.1 k a b c).trans (h.1 k a b c), fun i a b c d e f g => (h1.2 i a b c d e f g).trans (h.2 i a b c d e f g)⟩
theorem su_e.h {U U1 : pm_M} (h : su_e U U1) : su_h U U1 := ⟨h.1, fun i _ _ _ _ e _ g => h.2 i e g⟩
theorem su_h.tk {U U1 : pm_M} (h : tk_f9 U U1) : su_h U U1 := ⟨fun k a _ _ => h.1 k a, fun i a b c d _ _ _ => h.2 i a b c d⟩
theorem su_pks : pm_pk 6 = 499967947364 ∧ pm_pk 7 = 31084793213183332 ∧ pm_pk 1 = 508675318629 ∧ pm_pk 2 = 1717658469 ∧ pm_pk 8 = 474315584357 ∧ pm_pk 9 = 1684107883 ∧ pm_pk 10 = 1818326117 := by decide +kernel
theorem su_name {V U : pm_M} (h : su_R V U) (hk : U 90 3 ≠ 2) : ∃ n, F_X12_nameHere U = (n, U) ∧ (n ≠ -1 ↔ su_at V) := by
  rw [F_X12_nameHere_eq]
  simp only [pf_let, pf_call, r_isWord, su_ite]
  have n2 : V 3 1 ≠ 2 := fun q => hk (h.2.flat.2.2.1.mp q)
  have w6 : (U 90 3 = 1 ∧ U 90 5 = pm_pk 6) ↔ _ := su_wd (j := 6) h su_pks.1
  have w7 : (U 90 3 = 1 ∧ U 90 5 = pm_pk 7) ↔ _ := su_wd (j := 7) h su_pks.2.1
  have w1 : (U 90 3 = 1 ∧ U 90 5 = pm_pk 1) ↔ _ := su_wd (j := 1) h su_pks.2.2.1
  have w2 : (U 90 3 = 1 ∧ U 90 5 = pm_pk 2) ↔ _ := su_wd (j := 2) h su_pks.2.2.2.1
  have w8 : (U 90 3 = 1 ∧ U 90 5 = pm_pk 8) ↔ _ := su_wd (j := 8) h su_pks.2.2.2.2.1
  have w9 : (U 90 3 = 1 ∧ U 90 5 = pm_pk 9) ↔ _ := su_wd (j := 9) h su_pks.2.2.2.2.2.1
  have w10 : (U 90 3 = 1 ∧ U 90 5 = pm_pk 10) ↔ _ := su_wd (j := 10) h su_pks.2.2.2.2.2.2
  have yes : ∀ c, V 3 1 = 1 ∧ V 3 3 = c → (c = 499967947364 ∨ c = 31084793213183332 ∨ c = 508675318629 ∨ c = 1717658469 ∨ c = 474315584357 ∨ c = 1684107883 ∨ c = 1818326117) → su_at V := fun c g q => Or.inr ⟨g.1, by rw [g.2]; exact q⟩
  try simp only [show (6 : Int).toNat = 6 from rfl, show (7 : Int).toNat = 7 from rfl, show (1 : Int).toNat = 1 from rfl, show (2 : Int).toNat = 2 from rfl, show (8 : Int).toNat = 8 from rfl, show (9 : Int).toNat = 9 from rfl, show (10 : Int).toNat = 10 from rfl]
  simp only [w6, w7, w1, w2, w8, w9, w10]
  by_cases h1 : V 3 1 = 1 ∧ V 3 3 = 499967947364
  · rw [if_neg (fun q => q h1)]
    exact ⟨_, rfl, fun _ => yes _ h1 (by omega), fun _ => by decide⟩
  · rw [if_pos h1]
    by_cases h2 : V 3 1 = 1 ∧ V 3 3 = 31084793213183332
    · rw [if_neg (fun q => q h2)]
      exact ⟨_, rfl, fun _ => yes _ h2 (by omega), fun _ => by decide⟩
    · rw [if_pos h2]
      by_cases h3 : V 3 1 = 1 ∧ V 3 3 = 508675318629
      · rw [if_neg (fun q => q h3)]
        exact ⟨_, rfl, fun _ => yes _ h3 (by omega), fun _ => by decide⟩
      · rw [if_pos h3]
        by_cases h4 : V 3 1 = 1 ∧ V 3 3 = 1717658469
        · rw [if_neg (fun q => q h4)]
          exact ⟨_, rfl, fun _ => yes _ h4 (by omega), fun _ => by decide⟩
        · rw [if_pos h4]
          by_cases h5 : V 3 1 = 1 ∧ V 3 3 = 474315584357
          · rw [if_neg (fun q => q h5)]
            exact ⟨_, rfl, fun _ => yes _ h5 (by omega), fun _ => by decide⟩
          · rw [if_pos h5]
            by_cases h6 : V 3 1 = 1 ∧ V 3 3 = 1684107883
            · rw [if_neg (fun q => q h6)]
              exact ⟨_, rfl, fun _ => yes _ h6 (by omega), fun _ => by decide⟩
            · rw [if_pos h6]
              by_cases h7 : V 3 1 = 1 ∧ V 3 3 = 1818326117
              · rw [if_neg (fun q => q h7)]
                exact ⟨_, rfl, fun _ => yes _ h7 (by omega), fun _ => by decide⟩
              · rw [if_pos h7]
                refine ⟨_, rfl, fun q => absurd rfl q, ?_⟩
                rintro (⟨q, -⟩ | ⟨q, q1⟩)
                · exact absurd q n2
                · exfalso
                  rcases q1 with q1 | q1 | q1 | q1 | q1 | q1 | q1
                  · exact h1 ⟨q, q1⟩
                  · exact h2 ⟨q, q1⟩
                  · exact h3 ⟨q, q1⟩
                  · exact h4 ⟨q, q1⟩
                  · exact h5 ⟨q, q1⟩
                  · exact h6 ⟨q, q1⟩
                  · exact h7 ⟨q, q1⟩
