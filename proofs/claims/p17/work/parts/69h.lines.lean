/-! the reference's line: its loop by name -/
noncomputable def sr_b (V0 : pm_M) (y16 k : Int) : Int × pm_M → (Int × pm_M) ⊕ (Int × pm_M) := (fun (q : Int × pm_M) => match q with | (x110, V112) => (pf_let (V112 90 2) fun y130 => pf_let (V112 90 3) fun y133 => pf_let (V112 90 4) fun y136 => pf_let (V112 90 33) fun y139 => (if x110 = 0 then (pf_call (F_X12_lays 7 k V112) fun _ V144 => pf_let (V144 90 33) fun y159 => pf_let ((pm_up V144 90 32 (y16 + 1))) fun V162 => pf_call (F_X12_closes  V162) fun y178 V176 => pf_let (V176 90 2) fun y190 => pf_let (V176 90 3) fun y193 => pf_let (V176 90 4) fun y196 => (.inr (y178, V176))) else (pf_call (F_X12_leads  V112) fun _ V200 => pf_let (V200 90 2) fun y210 => pf_let (V200 90 3) fun y213 => pf_let (V200 90 4) fun y216 => pf_call (F_X12_sumHere  V200) fun y225 V223 => pf_let (V223 90 2) fun y237 => pf_let (V223 90 3) fun y240 => pf_let (V223 90 4) fun y243 => pf_let (V223 90 33) fun y246 => (if ¬ (y225 = 0) then (pf_call (F_X12_isSign 60 V223) fun y253 _ => (if y253 = 0 then (pf_call (F_X12_isSign 61 V223) fun y260 _ => (if y260 = 0 then ((.inr (0, V223))) else (pf_call (F_X12_leads  V223) fun _ V267 => pf_let (V267 90 2) fun y277 => pf_let (V267 90 3) fun y280 => pf_let (V267 90 4) fun y283 => pf_call (F_X12_sumHere  V267) fun y292 V290 => pf_let (V290 90 2) fun y304 => pf_let (V290 90 3) fun y307 => pf_let (V290 90 4) fun y310 => pf_let (V290 90 33) fun y313 => (if ¬ (y292 = 0) then (pf_call (F_X12_lays 6 0 V290) fun _ V318 => pf_let (V318 90 33) fun y333 => pf_call (F_X12_isWord 17 V318) fun y339 _ => (.inl (y339, V318))) else ((.inr (0, V290))))))) else (pf_call (F_X12_leads  V223) fun _ V344 => pf_let (V344 90 2) fun y354 => pf_let (V344 90 3) fun y357 => pf_let (V344 90 4) fun y360 => pf_call (F_X12_sumHere  V344) fun y369 V367 => pf_let (V367 90 2) fun y381 => pf_let (V367 90 3) fun y384 => pf_let (V367 90 4) fun y387 => pf_let (V367 90 33) fun y390 => (if ¬ (y369 = 0) then (pf_call (F_X12_lays 5 0 V367) fun _ V395 => pf_let (V395 90 33) fun y410 => pf_call (F_X12_isWord 17 V395) fun y416 _ => (.inl (y416, V395))) else ((.inr (0, V367))))))) else ((.inr (0, V223))))))))
theorem sr_line_eq (V0 : pm_M) : F_X12_ruleLine V0 = pf_let (V0 90 33) fun y1 => pf_let (V0 90 4) fun y4 => pf_let (V0 90 1) fun y7 => pf_let (V0 90 2) fun y10 => pf_let (V0 90 3) fun y13 => pf_let (V0 90 32) fun y16 => pf_call (F_X12_isWord 11 V0) fun y22 _ => (if y22 = 0 then ((0, V0)) else ((if ¬ (y16 = 10) then (pf_call (F_X12_leads  V0) fun _ V28 => pf_let (V28 90 2) fun y39 => pf_let (V28 90 3) fun y42 => pf_let (V28 90 4) fun y45 => pf_call (F_X12_isWord 12 V28) fun y53 _ => (if y53 = 0 then (pf_call (F_X12_isWord 13 V28) fun y60 _ => (if y60 = 0 then (pf_call (F_X12_isWord 14 V28) fun y67 _ => (if y67 = 0 then (pf_call (F_X12_isWord 15 V28) fun y74 _ => (if y74 = 0 then ((0, V28)) else (pf_call (F_X12_leads  V28) fun _ V81 => pf_let (V81 90 2) fun y92 => pf_let (V81 90 3) fun y95 => pf_let (V81 90 4) fun y98 => pf_call (F_X12_isWord 16 V81) fun y106 _ => (if ¬ (y106 = 0) then (pf_val ((0 : Int), V0) (sr_b V0 y16 3) (1, V81)) else ((0, V81)))))) else (pf_call (F_X12_leads  V28) fun _ V421 => pf_let (V421 90 2) fun y432 => pf_let (V421 90 3) fun y435 => pf_let (V421 90 4) fun y438 => pf_call (F_X12_isWord 16 V421) fun y446 _ => (if ¬ (y446 = 0) then (pf_val ((0 : Int), V0) (sr_b V0 y16 2) (1, V421)) else ((0, V421)))))) else (pf_call (F_X12_leads  V28) fun _ V761 => pf_let (V761 90 2) fun y772 => pf_let (V761 90 3) fun y775 => pf_let (V761 90 4) fun y778 => pf_call (F_X12_isWord 16 V761) fun y786 _ => (if ¬ (y786 = 0) then (pf_val ((0 : Int), V0) (sr_b V0 y16 1) (1, V761)) else ((0, V761)))))) else (pf_call (F_X12_leads  V28) fun _ V1101 => pf_let (V1101 90 2) fun y1112 => pf_let (V1101 90 3) fun y1115 => pf_let (V1101 90 4) fun y1118 => pf_call (F_X12_isWord 16 V1101) fun y1126 _ => (if ¬ (y1126 = 0) then (pf_val ((0 : Int), V0) (sr_b V0 y16 0) (1, V1101)) else ((0, V1101)))))) else ((0, V0))))) := rfl
noncomputable def sr_c (rc : Nat) : Int × Int × pm_M → (Int × Int × pm_M) ⊕ (Int × pm_M) := (fun (q : Int × Int × pm_M) => match q with | (x13, x15, V17) => ((if 500 ≤ x15 then (pf_let (V17 3 3) fun y30 => pf_call (F_X9_isSign 59 V17) fun y36 _ => (if ¬ (y36 = 0) then (pf_call (F_X2_endLine rc V17) fun _ V41 => pf_call (F_X9_step  V41) fun _ V51 => (.inr (1, V51))) else ((.inr (0, V17))))) else ((if x13 = 0 then (pf_let (V17 3 3) fun y61 => pf_call (F_X9_isSign 59 V17) fun y67 _ => (if ¬ (y67 = 0) then (pf_call (F_X2_endLine rc V17) fun _ V72 => pf_call (F_X9_step  V72) fun _ V82 => (.inr (1, V82))) else ((.inr (0, V17))))) else (pf_call (F_X9_step  V17) fun _ V92 => pf_call (F_X3_readSum rc (pf_fac rc 8) V92) fun y104 V101 => (if y104 = 0 then ((.inr (0, V101))) else (pf_let (V101 3 3) fun y113 => pf_call (F_X3_isComparison rc V101) fun y120 _ => (if ¬ (y120 = 0) then (pf_call (F_X9_step  V101) fun _ V125 => pf_call (F_X3_readSum rc (pf_fac rc 8) V125) fun y137 V134 => (if ¬ (y137 = 0) then (pf_call (F_X2_emit rc (20000 + y113) V134) fun _ V147 => pf_call (F_X9_isWord 6385252 V147) fun y158 _ => pf_let (x15 + 1) fun x161 => (.inl (y158, x161, V147))) else ((.inr (0, V134))))) else ((.inr (0, V101))))))))))))
theorem sr_read_eq (rc : Nat) (V0 : pm_M) : F_X3_readLine rc V0 = pf_call (F_X3_readHead rc V0) fun y5 V2 => (if ¬ (y5 = 0) then (pf_val ((0 : Int), V0) (sr_c rc) (1, 0, V2)) else ((0, V2))) := rfl
theorem sr_end {rc : Nat} {V : pm_M} (h : V rc 0 < 10) : ∃ V1, F_X2_endLine rc V = (0, V1) ∧ (∀ k, k ≠ rc → k ≠ rc + 3 → V1 k = V k) ∧ V1 rc 0 = V rc 0 + 1 := by
  rw [F_X2_endLine_eq]
  simp only [pf_let]
  rw [if_neg (show ¬ 10 ≤ V rc 0 by omega)]
  exact ⟨_, rfl, fun k a b => by rw [pm_up_f a, pm_up_f b], pm_up_s⟩
theorem sr_begin (rc : Nat) (a : Int) (V : pm_M) : ∃ V1, F_X2_beginLine rc a V = (0, V1) ∧ (∀ k, k ≠ rc + 1 → k ≠ rc + 2 → V1 k = V k) := by
  rw [F_X2_beginLine_eq]
  simp only [pf_let]
  by_cases h : 10 ≤ V rc 0
  · rw [if_pos h]
    exact ⟨_, rfl, fun _ _ _ => rfl⟩
  · rw [if_neg h]
    exact ⟨_, rfl, fun k a b => by rw [pm_up_f b, pm_up_f a]⟩
theorem sr_cmp (rc : Nat) (V : pm_M) : F_X3_isComparison rc V = (if (V 3 1 = 3 ∧ V 3 3 = 60) ∨ (V 3 1 = 3 ∧ V 3 3 = 61) then 1 else 0, V) := by
  rw [F_X3_isComparison_eq]
  simp only [pf_let, pf_call, c_isSign, su_ite]
  by_cases a : V 3 1 = 3 ∧ V 3 3 = 60
  · rw [if_pos (fun q => q a), if_pos (Or.inl a)]
  · rw [if_neg (fun q => q a)]
    by_cases b : V 3 1 = 3 ∧ V 3 3 = 61
    · rw [if_neg (fun q => q b), if_pos (Or.inr b)]
    · rw [if_pos b, if_neg (by rintro (q | q); exact a q; exact b q)]
theorem sr_loop {rc : Nat} (hr : 4 ≤ rc) (D1 D2 : pm_M) {y16 kk : Int} (hy : y16 < 10) : ∀ (N : Nat) (m k : Int) (V W : pm_M), (500 - k).toNat = N → 0 ≤ k → k ≤ V 3 2 → su_R V W → (m = 0 ∨ (m = 1 ∧ V 3 1 = 1)) → V rc 0 = y16 → ∃ y V1 W1, pf_val ((0 : Int), D1) (sr_c rc) (m, k, V) = (y, V1) ∧ pf_val ((0 : Int), D2) (sr_b D2 y16 kk) (m, W) = (y, W1) ∧ su_R V1 W1 ∧ (y = 0 ∨ (y = 1 ∧ V1 rc 0 = y16 + 1 ∧ W1 90 32 = y16 + 1 ∧ V 3 2 + 1 ≤ V1 3 2)) := by
  intro N
  induction N using Nat.strongRecOn with
  | _ N ih =>
  intro m k V W hN k0 kp h hm hz
  rcases hm with hm | ⟨hm, hw⟩
  · subst hm
    -- the line's end
    obtain ⟨U1, e1, f1, -⟩ := su_lay 7 kk W
    have f2 : su_R V (pm_up U1 90 32 (y16 + 1)) := (f1.R h).upr (pm_up_f (by decide)) (pm_up_i (by decide)) (pm_up_i (by decide)) (pm_up_i (by decide)) (pm_up_i (by decide)) (pm_up_i (by decide))
    have g59 := su_rg (c := 59) f2 (by decide)
    have er : sr_b D2 y16 kk (0, W) = .inr ((F_X12_closes (pm_up U1 90 32 (y16 + 1))).1, (F_X12_closes (pm_up U1 90 32 (y16 + 1))).2) := by
      unfold sr_b
      simp only [pf_let, pf_call]
      rw [if_pos trivial, e1]
    have ec : sr_c rc (0, k, V) = (if ¬ ¬ (V 3 1 = 3 ∧ V 3 3 = 59) then .inr (1, (F_X9_step (F_X2_endLine rc V).2).2) else .inr (0, V)) := by
      unfold sr_c
      simp only [pf_let, pf_call, c_isSign, su_ite]
      by_cases q : 500 ≤ k
      · rw [if_pos q]
      · rw [if_neg q, if_pos trivial]
    rw [pf_val_inr er]
    have eq59 : F_X12_closes (pm_up U1 90 32 (y16 + 1)) = (if ¬ ¬ ((pm_up U1 90 32 (y16 + 1)) 90 3 = 3 ∧ (pm_up U1 90 32 (y16 + 1)) 90 5 = 59) then (1, (F_X12_leads (pm_up U1 90 32 (y16 + 1))).2) else (0, pm_up U1 90 32 (y16 + 1))) := by
      rw [F_X12_closes_eq]
      simp only [pf_let, pf_call, r_isSign, su_ite]
    by_cases g : V 3 1 = 3 ∧ V 3 3 = 59
    · rw [if_pos (fun q => q g)] at ec
      rw [if_pos (fun q => q (g59.mpr g))] at eq59
      rw [pf_val_inr ec, eq59]
      obtain ⟨V1, e3, f3, f4⟩ := sr_end (rc := rc) (V := V) (by omega)
      rw [e3]
      have h3 : su_R V1 (pm_up U1 90 32 (y16 + 1)) := f2.up (f3 1 (by omega) (by omega)) (f3 2 (by omega) (by omega)) (f3 3 (by omega) (by omega))
      obtain ⟨V2, W2, s1, s2, s3, s4, s5, s6⟩ := su_nx h3
      rw [s1, s2]
      have l := su_len h (su_gn g)
      rw [f3 3 (by omega) (by omega)] at s6
      refine ⟨1, V2, W2, rfl, rfl, s3, Or.inr ⟨rfl, ?_, ?_, by omega⟩⟩
      · rw [s4 rc (by omega), f4, hz]
      · rw [s5.2 32 (by decide) (by decide) (by decide) (by decide), pm_up_s]
    · rw [if_neg (fun q => q g)] at ec
      rw [if_neg (fun q => q (fun q1 => g (g59.mp q1)))] at eq59
      rw [pf_val_inr ec, eq59]
      exact ⟨0, V, _, rfl, rfl, f2, Or.inl rfl⟩
  · subst hm
    have l := su_len h (by rw [hw]; decide)
    have pl := su_pl h
    have ll := h.2.ln
    have hk : ¬ 500 ≤ k := by
      have t := h.1.2.2.1
      omega
    obtain ⟨V1, W1, s1, s2, s3, s4, s5, s6⟩ := su_nx h
    obtain ⟨y, V2, W2, a1, a2, a3, a4, a5, a6⟩ := sr_sum hr s3
    have z2 : V2 rc 0 = y16 := by rw [a3.2, s4 rc (by omega), hz]
    have g60 := su_rg (c := 60) a5 (by decide)
    have g61 := su_rg (c := 61) a5 (by decide)
    have ec : sr_c rc (1, k, V) = (if y = 0 then .inr (0, V2) else if ¬ ((F_X3_isComparison rc V2).1 = 0) then (if ¬ ((F_X3_readSum rc (pf_fac rc 8) (F_X9_step V2).2).1 = 0) then .inl ((F_X9_isWord 6385252 (F_X2_emit rc (20000 + V2 3 3) (F_X3_readSum rc (pf_fac rc 8) (F_X9_step V2).2).2).2).1, k + 1, (F_X2_emit rc (20000 + V2 3 3) (F_X3_readSum rc (pf_fac rc 8) (F_X9_step V2).2).2).2) else .inr (0, (F_X3_readSum rc (pf_fac rc 8) (F_X9_step V2).2).2)) else .inr (0, V2)) := by
      unfold sr_c
      simp only [pf_let, pf_call]
      rw [if_neg hk, if_neg (show ¬ ((1 : Int) = 0) by decide), s1]
      dsimp only
      rw [a1]
    have er : sr_b D2 y16 kk (1, W) = (if ¬ (y = 0) then (if ¬ (W2 90 3 = 3 ∧ W2 90 5 = 60) then (if ¬ (W2 90 3 = 3 ∧ W2 90 5 = 61) then .inr (0, W2) else (if ¬ ((F_X12_sumHere (F_X12_leads W2).2).1 = 0) then .inl ((F_X12_isWord 17 (F_X12_lays 6 0 (F_X12_sumHere (F_X12_leads W2).2).2).2).1, (F_X12_lays 6 0 (F_X12_sumHere (F_X12_leads W2).2).2).2) else .inr (0, (F_X12_sumHere (F_X12_leads W2).2).2))) else (if ¬ ((F_X12_sumHere (F_X12_leads W2).2).1 = 0) then .inl ((F_X12_isWord 17 (F_X12_lays 5 0 (F_X12_sumHere (F_X12_leads W2).2).2).2).1, (F_X12_lays 5 0 (F_X12_sumHere (F_X12_leads W2).2).2).2) else .inr (0, (F_X12_sumHere (F_X12_leads W2).2).2))) else .inr (0, W2)) := by
      unfold sr_b
      simp only [pf_let, pf_call]
      rw [if_neg (show ¬ ((1 : Int) = 0) by decide), s2]
      dsimp only
      rw [a2]
      dsimp only
      simp only [r_isSign, su_ite]
    rcases a6 with a6 | ⟨a6, a7⟩
    · subst a6
      rw [if_pos rfl] at ec
      rw [if_neg (fun q => q rfl)] at er
      rw [pf_val_inr ec, pf_val_inr er]
      exact ⟨0, V2, W2, rfl, rfl, a5, Or.inl rfl⟩
    · subst a6
      rw [if_neg (by decide), sr_cmp] at ec
      rw [if_pos (by decide)] at er
      dsimp only at ec
      by_cases g : (V2 3 1 = 3 ∧ V2 3 3 = 60) ∨ (V2 3 1 = 3 ∧ V2 3 3 = 61)
      · rw [if_pos g, if_pos (by decide)] at ec
        have g0 : V2 3 1 ≠ 0 := by rcases g with g | g <;> omega
        have l2 := su_len a5 g0
        obtain ⟨V3, W3, t1, t2, t3, t4, t5, t6⟩ := su_nx a5
        obtain ⟨y2, V4, W4, b1, b2, b3, b4, b5, b6⟩ := sr_sum hr t3
        rw [t1] at ec
        rw [t2] at er
        dsimp only at ec er
        rw [b1] at ec
        rw [b2] at er
        dsimp only at ec er
        -- what the reference does, either way
        have er2 : ∃ c, sr_b D2 y16 kk (1, W) = (if ¬ (y2 = 0) then .inl ((F_X12_isWord 17 (F_X12_lays c 0 W4).2).1, (F_X12_lays c 0 W4).2) else .inr (0, W4)) := by
          by_cases q : W2 90 3 = 3 ∧ W2 90 5 = 60
          · rw [if_neg (fun p => p q)] at er
            exact ⟨5, er⟩
          · rw [if_pos q] at er
            by_cases q1 : W2 90 3 = 3 ∧ W2 90 5 = 61
            · rw [if_neg (fun p => p q1)] at er
              exact ⟨6, er⟩
            · exfalso
              rcases g with g | g
              · exact q (g60.mpr g)
              · exact q1 (g61.mpr g)
        obtain ⟨c, er2⟩ := er2
        rcases b6 with b6 | ⟨b6, b7⟩
        · subst b6
          rw [if_neg (fun q => q rfl)] at ec er2
          rw [pf_val_inr ec, pf_val_inr er2]
          exact ⟨0, V4, W4, rfl, rfl, b5, Or.inl rfl⟩
        · subst b6
          rw [if_pos (by decide)] at ec er2
          obtain ⟨V5, e5, f5, f6⟩ := c_emit rc (20000 + V2 3 3) V4
          obtain ⟨W5, d5, d6, -⟩ := su_lay c 0 W4
          rw [e5] at ec
          rw [d5] at er2
          have h5 : su_R V5 W5 := d6.R (b5.up (f5 1 (by omega) (by omega)) (f5 2 (by omega) (by omega)) (f5 3 (by omega) (by omega)))
          obtain ⟨w, w1, w2, w3⟩ := sm_word (c := 6385252) (j := 17) h5.2 (by decide +kernel)
          rw [w1] at ec
          rw [w2] at er2
          dsimp only at ec er2
          rw [pf_val_inl ec, pf_val_inl er2]
          have p5 : V5 3 = V4 3 := f5 3 (by omega) (by omega)
          have q5 : V 3 2 + 1 ≤ V5 3 2 := by rw [p5]; omega
          obtain ⟨yy, V6, W6, c1, c2, c3, c4⟩ := ih (500 - (k + 1)).toNat (by omega) w (k + 1) V5 W5 rfl (by omega) (by omega) h5 (by rcases w3 with w3 | ⟨w3, w4⟩; exact Or.inl w3; exact Or.inr ⟨w3, w4⟩) (by rw [f6, b3.2, t4 rc (by omega), z2])
          refine ⟨yy, V6, W6, c1, c2, c3, ?_⟩
          rcases c4 with c4 | ⟨c4, c5, c6, c7⟩
          · exact Or.inl c4
          · exact Or.inr ⟨c4, c5, c6, by omega⟩
      · rw [if_neg g, if_neg (fun q => q rfl)] at ec
        rw [if_pos (fun q => g (Or.inl (g60.mp q))), if_pos (fun q => g (Or.inr (g61.mp q)))] at er
        rw [pf_val_inr ec, pf_val_inr er]
        exact ⟨0, V2, W2, rfl, rfl, a5, Or.inl rfl⟩
