/-! OWN, on both sides: a trial put with other changes -/
theorem poseAs_fr {V Z : pm_M} {z a1 a2 a3 a4 : Int} (h8 : V 0 8 = 45 ∨ V 0 8 = 51) (hZ : F_X11_poseAs a1 a2 a3 a4 V = (z, Z)) : fC V Z := by
  have e := hZ.symm.trans (F_X11_poseAs_eq a1 a2 a3 a4 V)
  have key : ∀ sc : Nat, (sc = 45 ∨ sc = 51) → (z, Z) = pf_call (F_X10_place sc (a1 % 100) a2 V) (fun _ V4 => pf_call (F_X10_spread a3 a4 V4) fun _ V13 => ((0 : Int), V13)) → fC V Z := by
    intro sc hsc e
    replace e := e.trans (pf_call_eq (F_X10_place_eq sc (a1 % 100) a2 V))
    obtain ⟨T, hT⟩ : ∃ T, T = pm_up (pm_up (pm_up (pm_up (pm_up V 73 0 (sc : Int)) 73 1 ((a1 % 100) / 10)) 73 2 ((a1 % 100) % 10)) 73 3 (a2 / 10)) 73 4 (a2 % 10) := ⟨_, rfl⟩
    rw [← hT] at e
    obtain ⟨zs, Vs, hVs⟩ : ∃ x Z, F_X10_spread a3 a4 T = (x, Z) := ⟨_, _, rfl⟩
    replace e := e.trans (pf_call_eq hVs)
    obtain ⟨-, ev⟩ := Prod.mk.inj e
    have T0 : T 73 0 = (sc : Int) := by rw [hT]; simp [pm_up]
    have Tc : ∀ k i, k ≠ 73 → T k i = V k i := fun k i q => by rw [hT, pm_up_c q, pm_up_c q, pm_up_c q, pm_up_c q, pm_up_c q]
    have Tf : ∀ i, 5 ≤ i → T 73 i = V 73 i := fun i q => by rw [hT, pm_up_i (by omega), pm_up_i (by omega), pm_up_i (by omega), pm_up_i (by omega), pm_up_i (by omega)]
    obtain ⟨-, v1, v2⟩ := cw_spread_fr (by rcases hsc with rfl | rfl; exact Or.inl T0; exact Or.inr T0) hVs
    rw [ev]
    intro k i q
    by_cases q1 : k = 73
    · subst q1
      rw [v2 i (by omega) (by omega) (by omega) (by omega) (by omega), Tf i (by omega)]
    · rw [v1 k i q1 (by omega) (by omega), Tc k i q1]
  rcases h8 with h8 | h8
  · exact key 45 (Or.inl rfl) (e.trans (if_pos h8))
  · exact key 51 (Or.inr rfl) (e.trans (if_neg (by omega)))
theorem wz_poseAs {V W Vp V1 W1 : pm_M} {z z' zt a1 a2 a3 A B P : Int} (hq : rq V W) (hb : wb W) (h13 : V 73 13 = 76 ∨ V 73 13 = 77) (t0 : 0 ≤ a1) (t1 : a1 / 100 < W 90 23) (t2 : (a1 / 10) % 10 < W 90 16) (t3 : a1 % 10 < W 90 16) (s : 0 ≤ a2 ∧ a2 ≤ 99) (l : -99 ≤ a3 ∧ a3 ≤ 99) (hA : A = W 100 (4 * (a1 / 100).toNat)) (hB : B = W 100 (4 * (a1 / 100).toNat + 1)) (hP : P = W 100 (4 * (a1 / 100).toNat + 2)) (hV : F_X11_poseAs a1 a2 A B V = (z, Vp)) (hT' : F_X10_trustAt P a3 Vp = (zt, V1)) (hW : F_X12_works a1 a2 a3 W = (z', W1)) : ∃ c : Nat, V 0 8 = (c : Int) ∧ wr c (W 90 16) V1 W1 ∧ fC V V1 ∧ fR W W1 := by
  obtain ⟨c, hc, h8⟩ : ∃ c : Nat, (c = 45 ∨ c = 51) ∧ V 0 8 = (c : Int) := by
    rcases hq.1 with ⟨q, -⟩ | ⟨q, -⟩
    · exact ⟨45, Or.inl rfl, q⟩
    · exact ⟨51, Or.inr rfl, q⟩
  have hS : sq_sc c V W := by
    have h := hq.2.2.1
    rw [h8, Int.toNat_natCast] at h
    exact h
  obtain ⟨n, hn⟩ : ∃ n, W 90 16 = n := ⟨_, rfl⟩
  rw [hn] at t2 t3 ⊢
  obtain ⟨p, sv, sf, tr, g, r, ep, esv, esf, etr, eg, er, bb, bg, w48, w49, w42, w43, w47, w44, w45, w46, wj, fw⟩ := rw_pose hb hn t0 t1 t2 t3 s l hW
  obtain ⟨sc0, -, scj, scs, -⟩ := hS
  rw [hn] at sc0
  have hb' := hb
  obtain ⟨b16, b20, -, b23, b97, bh, -, b100⟩ := hb'
  rw [hn] at b16 bh
  rw [sc0] at scj
  obtain ⟨d4, d5, d6, d7, -, d9⟩ := scs (by omega)
  have q5 : A = W 100 (4 * p) := by rw [hA, ep]
  have q6 : B = W 100 (4 * p + 1) := by rw [hB, ep]
  have q7 : P = W 100 (4 * p + 2) := by rw [hP, ep]
  have e2 := hV.symm.trans (F_X11_poseAs_eq a1 a2 A B V)
  obtain ⟨T, hT⟩ : ∃ T, T = pm_up (pm_up (pm_up (pm_up (pm_up V 73 0 (c : Int)) 73 1 ((a1 % 100) / 10)) 73 2 ((a1 % 100) % 10)) 73 3 (a2 / 10)) 73 4 (a2 % 10) := ⟨_, rfl⟩
  have e3 : (z, Vp) = pf_call (F_X10_spread A B T) fun _ V13 => ((0 : Int), V13) := by
    rw [hT]
    rcases hc with rfl | rfl
    · have h1 : V 0 8 = 45 := h8
      exact (e2.trans (if_pos h1)).trans (pf_call_eq (F_X10_place_eq 45 (a1 % 100) a2 V))
    · have h1 : V 0 8 = 51 := h8
      exact (e2.trans (if_neg (by omega))).trans (pf_call_eq (F_X10_place_eq 51 (a1 % 100) a2 V))
  have T0 : T 73 0 = (c : Int) := by rw [hT]; simp [pm_up]
  have T1 : T 73 1 = (a1 / 10) % 10 := by
    have h : T 73 1 = (a1 % 100) / 10 := by rw [hT]; simp [pm_up]
    omega
  have T2 : T 73 2 = a1 % 10 := by
    have h : T 73 2 = (a1 % 100) % 10 := by rw [hT]; simp [pm_up]
    omega
  have T3 : T 73 3 = a2 / 10 := by rw [hT]; simp [pm_up]
  have T4 : T 73 4 = a2 % 10 := by rw [hT]; simp [pm_up]
  have Tc : ∀ k i, k ≠ 73 → T k i = V k i := fun k i q => by rw [hT, pm_up_c q, pm_up_c q, pm_up_c q, pm_up_c q, pm_up_c q]
  have Tf : ∀ i, 5 ≤ i → T 73 i = V 73 i := fun i q => by rw [hT, pm_up_i (by omega), pm_up_i (by omega), pm_up_i (by omega), pm_up_i (by omega), pm_up_i (by omega)]
  obtain ⟨zs, Vs, hVs⟩ : ∃ x Z, F_X10_spread A B T = (x, Z) := ⟨_, _, rfl⟩
  replace e3 := e3.trans (pf_call_eq hVs)
  obtain ⟨-, ev⟩ := Prod.mk.inj e3
  rw [ev] at hT'
  have cc : ∀ k : Nat, k ≤ 5 → T (c + k) = V (c + k) := fun k hk => funext fun i => Tc (c + k) i (by omega)
  have cc1 := cc 1 (by decide)
  have cc2 := cc 2 (by decide)
  have cc3 := cc 3 (by decide)
  have ch : ∀ j : Nat, (j : Int) < n → wk_h (T (c + 1)) (T (c + 2)) (T (c + 3)) (T 73 1).toNat sv j = g j := fun j hj => by
    obtain ⟨x1, x2, x3⟩ := scj j hj
    obtain ⟨y1, y2, -⟩ := scj ((a1 / 10) % 10).toNat (by omega)
    rw [eg]
    show T (c + 3) j * pm_mx 0 (sv - (pm_ab (T (c + 1) j - T (c + 1) (T 73 1).toNat) + pm_ab (T (c + 2) j - T (c + 2) (T 73 1).toNat))) = W 97 (3 * j + 2) * pm_mx 0 (sv - (pm_ab (W 97 (3 * j) - W 97 (3 * ((a1 / 10) % 10).toNat)) + pm_ab (W 97 (3 * j + 1) - W 97 (3 * ((a1 / 10) % 10).toNat + 1))))
    rw [T1, cc1, cc2, cc3, x1, x2, x3, y1, y2]
  have cs : ∀ j : Nat, (j : Int) < n → wk_s (T (c + 1)) (T 73 2).toNat sf j = r j := fun j hj => by
    obtain ⟨x1, -, -⟩ := scj j hj
    obtain ⟨y1, -, -⟩ := scj (a1 % 10).toNat (by omega)
    rw [er]
    show pm_mx 0 (sf - pm_ab (T (c + 1) j - T (c + 1) (T 73 2).toNat)) = pm_mx 0 (sf - pm_ab (W 97 (3 * j) - W 97 (3 * (a1 % 10).toNat)))
    rw [T2, cc1, x1, y1]
  obtain ⟨u5, u6, u10, u11, u12, uj⟩ := cw_spread hc (n := n) (sv := sv) (sf := sf) T0 ((Tc c 0 (by omega)).trans sc0) (by omega) (by rw [T3, Tc c 4 (by omega), Tc c 5 (by omega), d4, d5, q5, esv]) (by rw [T4, Tc c 6 (by omega), Tc c 7 (by omega), d6, d7, q6, esf]) (fun j hj => by rw [ch j hj]; have h := (bg j hj).1.1; omega) (fun j hj => by rw [cs j hj]; have h := (bg j hj).2.1; omega) hVs
  obtain ⟨-, v1, v2⟩ := cw_spread_fr (by rcases hc with rfl | rfl; exact Or.inl T0; exact Or.inr T0) hVs
  have s0 : Vs 73 0 = (c : Int) := (v2 0 (by decide) (by decide) (by decide) (by decide) (by decide)).trans T0
  have s9 : Vs c 9 = W 90 20 := by rw [v1 c 9 (by omega) (by omega) (by omega), Tc c 9 (by omega), d9]
  rw [q7] at hT'
  obtain ⟨-, rfl⟩ := Prod.mk.inj (hT'.symm.trans (cw_trust hc s0 s9 b20.1 (b100 p (by omega)).2.2 l))
  rw [← etr]
  have Vf : ∀ i, i ≠ 7 → pm_up Vs 73 7 tr 73 i = Vs 73 i := fun i q => pm_up_i q
  have Vc : ∀ k i, k ≠ 73 → pm_up Vs 73 7 tr k i = Vs k i := fun k i q => pm_up_c q
  have fc : fC V (pm_up Vs 73 7 tr) := fun k i q => by
    by_cases q1 : k = 73
    · subst q1
      rw [Vf i (by omega), v2 i (by omega) (by omega) (by omega) (by omega) (by omega), Tf i (by omega)]
    · rw [Vc k i q1, v1 k i q1 (by omega) (by omega), Tc k i q1]
  have hS1 : sq_sc c (pm_up Vs 73 7 tr) W1 := by
    have h := fR.q (fC.q hq fc) fw
    have h1 := h.2.2.1
    rw [fc 0 8 (Or.inl (Or.inl (by decide))), h8, Int.toNat_natCast] at h1
    exact h1
  have gS : wk_S (wk_h (T (c + 1)) (T (c + 2)) (T (c + 3)) (T 73 1).toNat sv) n.toNat = wk_S g n.toNat := wk_S_eq _ fun j hj => ch j (by omega)
  have rS : wk_S (wk_s (T (c + 1)) (T 73 2).toNat sf) n.toNat = wk_S r n.toNat := wk_S_eq _ fun j hj => cs j (by omega)
  have pS : wk_S (fun j => wk_h (T (c + 1)) (T (c + 2)) (T (c + 3)) (T 73 1).toNat sv j * wk_s (T (c + 1)) (T 73 2).toNat sf j) n.toNat = wk_S (fun j => g j * r j) n.toNat := wk_S_eq _ fun j hj => by
    rw [ch j (by omega), cs j (by omega)]
  have gW : wk_S (W1 110) n.toNat = wk_S g n.toNat := wk_S_eq _ fun j hj => (wj j (by omega)).1
  have rW : wk_S (W1 111) n.toNat = wk_S r n.toNat := wk_S_eq _ fun j hj => (wj j (by omega)).2
  have pW : wk_S (fun j => W1 110 j * W1 111 j) n.toNat = wk_S (fun j => g j * r j) n.toNat := wk_S_eq _ fun j hj => by
    rw [(wj j (by omega)).1, (wj j (by omega)).2]
  have g1 : 1 ≤ wk_S g n.toNat := by
    rw [wk_pm]
    exact pm_sum_pos n.toNat (fun j hj => (bg j (by omega)).1.1.1) ((a1 / 10) % 10).toNat (by omega) ((bg ((a1 / 10) % 10).toNat (by omega)).1.2 rfl)
  have r1 : 1 ≤ wk_S r n.toNat := by
    rw [wk_pm]
    exact pm_sum_pos n.toNat (fun j hj => (bg j (by omega)).2.1.1) (a1 % 10).toNat (by omega) ((bg (a1 % 10).toNat (by omega)).2.2 rfl)
  refine ⟨c, h8, ⟨⟨hc, ?_, ?_, (fw.2 16 (by omega)).trans hn, ?_⟩, ⟨hS1, fw.b hb⟩, ⟨?_, ?_, ?_, ?_, ?_, ?_⟩, ⟨?_, ?_, ?_, ?_, ?_, ?_⟩, ⟨?_, ?_, ?_⟩, ⟨?_, ?_, ?_, ?_, ?_, ?_, ?_, ?_⟩, fun j hj => ?_⟩, fc, fw⟩
  · rw [Vf 0 (by decide), s0]
  · rw [Vc c 0 (by omega), v1 c 0 (by omega) (by omega) (by omega), Tc c 0 (by omega), sc0]
  · rw [fc 73 13 (Or.inr ⟨rfl, Or.inl rfl⟩)]
    exact h13
  · rw [Vf 1 (by decide), v2 1 (by decide) (by decide) (by decide) (by decide) (by decide), T1, w48]
  · rw [Vf 2 (by decide), v2 2 (by decide) (by decide) (by decide) (by decide) (by decide), T2, w49]
  · omega
  · omega
  · omega
  · omega
  · rw [Vf 5 (by decide), u5, w42]
  · rw [Vf 6 (by decide), u6, w43]
  · omega
  · omega
  · omega
  · omega
  · rw [pm_up_s, w47]
  · omega
  · omega
  · rw [Vf 10 (by decide), u10, gS, w44]
  · rw [Vf 11 (by decide), u11, rS, w45]
  · rw [Vf 12 (by decide), u12, pS, w46]
  · rw [w44, gW]
  · rw [w45, rW]
  · rw [w46, pW]
  · rw [w44]
    exact g1
  · rw [w45]
    exact r1
  · obtain ⟨x1, x2⟩ := uj j hj
    obtain ⟨y1, y2⟩ := wj j hj
    obtain ⟨⟨z1, -⟩, ⟨z2, -⟩⟩ := bg j hj
    rw [Vc 74 j (by decide), Vc 75 j (by decide), x1, x2, y1, y2, ch j hj, cs j hj]
    exact ⟨rfl, rfl, z1.1, z1.2, z2.1, z2.2⟩
/-- what holds between the sides while one's own is sought: person p has the changes A, B and the belief P at the reference -/
def oq (p : Nat) (A B P : Int) (V W : pm_M) : Prop := (rq V W ∧ ra V W ∧ rl W ∧ rs W ∧ wb W ∧ (V 73 13 = 76 ∨ V 73 13 = 77)) ∧ W 100 (4 * p) = A ∧ W 100 (4 * p + 1) = B ∧ W 100 (4 * p + 2) = P
theorem oq.fr {p : Nat} {A B P : Int} {V W Z X : pm_M} (h : oq p A B P V W) (f : vC V Z) (g : vR W X) : oq p A B P Z X := by
  have c100 := g.c (k := 100) (by decide)
  obtain ⟨⟨h1, h2, h3, h4, h5, h6⟩, h7⟩ := h
  refine ⟨⟨vR.q (vC.q h1 f) g, vR.a (vC.a h2 f) g, vR.l h3 g, vR.s h4 g, vR.b h5 g, by rw [f.r13]; exact h6⟩, ?_⟩
  rw [c100]
  exact h7
theorem ga_own {ch : Nat} (hch : ch = 84 ∨ ch = 87) {p : Nat} {A B P : Int} {V W Z X : pm_M} {z z' : Int} (h : oq p A B P V W) (hZ : F_X11_gatherOdds ch (p : Int) A B P V = (z, Z)) (hX : F_X12_fits_d0 4 (p : Int) W = (z', X)) : (∃ P1 Q1, gg ch (gn W (p : Int) (W 90 25).toNat) P1 Q1 Z X) ∧ oq p A B P Z X ∧ vC V Z ∧ vK ch V Z ∧ vR W X ∧ vP (fun r => r < 2) W X := by
  have e := (hZ.symm.trans (F_X11_gatherOdds_eq ch (p : Int) A B P V)).trans (pf_let_eq rfl)
  obtain ⟨C, hC, e⟩ := pf_loop e
  refine ga_sim hch (R := oq p A B P) (law := 4) (a := (p : Int)) (Tr := fun x T T2 => ∃ z1 z2 z3 T1 T3, F_X11_poseAs (T 9 x.toNat) (T 10 x.toNat) A B T = (z1, T1) ∧ F_X10_trustAt P (T1 11 x.toNat) T1 = (z2, T3) ∧ F_X10_weigh 4 T3 = (z3, T2)) (fun U Y U' Y' h f g => h.fr f g) (fun U Y h => ⟨h.1.2.1, h.1.2.2.2.1, h.1.1.2.2.2.2.2.1⟩) ?_ (B := C) ?_ ?_ ?_ h e hX
  · intro x U Y hR hx hwho
    obtain ⟨⟨hq, p4, rY, -, hb, h13⟩, hA, hB, hP⟩ := hR
    have h46 : (x : Int) < U 4 6 := by rw [hq.2.2.2.2.2.1]; exact hx
    have r0 := p4.1 x 0 h46 (by decide)
    have r1 := p4.1 x 1 h46 (by decide)
    have r2 := p4.1 x 2 h46 (by decide)
    rw [Nat.zero_add] at r0 r1 r2
    have s0 : U 9 x = Y 101 (5 * x) := r0
    have s1 : U 10 x = Y 101 (5 * x + 1) := r1
    have s2 : U 11 x = Y 101 (5 * x + 2) := r2
    obtain ⟨⟨l1, l2, l3, l4⟩, l5, l6, -⟩ := rY x hx
    have ep : (Y 101 (5 * x) / 100).toNat = p := by omega
    obtain ⟨z1, U1, hV⟩ : ∃ z Z, F_X11_poseAs (Y 101 (5 * x)) (Y 101 (5 * x + 1)) A B U = (z, Z) := ⟨_, _, rfl⟩
    have h8 : U 0 8 = 45 ∨ U 0 8 = 51 := by
      rcases hq.1 with ⟨q, -⟩ | ⟨q, -⟩
      · exact Or.inl q
      · exact Or.inr q
    have f1 := poseAs_fr h8 hV
    have s3 : U1 11 x = Y 101 (5 * x + 2) := (f1 11 x (by omega)).trans s2
    obtain ⟨z2, U2, hT⟩ : ∃ z Z, F_X10_trustAt P (Y 101 (5 * x + 2)) U1 = (z, Z) := ⟨_, _, rfl⟩
    obtain ⟨z3, U3, hZ⟩ : ∃ z Z, F_X10_weigh 4 U2 = (z, Z) := ⟨_, _, rfl⟩
    refine ⟨U3, ⟨z1, z2, z3, U1, U2, by rw [Int.toNat_natCast, s0, s1]; exact hV, by rw [Int.toNat_natCast, s3]; exact hT, hZ⟩, fun z4 z5 Y1 Y2 hW hX => ?_⟩
    obtain ⟨c, -, k1, k2, k3⟩ := wz_poseAs hq hb h13 l1 l2 l3 l4 l5 l6 (by rw [ep, hA]) (by rw [ep, hB]) (by rw [ep, hP]) hV hT hW
    obtain ⟨d1, d2⟩ := ww_weigh k1 ⟨by decide, by decide⟩ hZ hX
    exact ⟨⟨c, d1⟩, k2.tr d2.C, k3.tr d2.R⟩
  · intro x T hx
    exact ((congrFun hC (x, T)).trans (pf_let_eq rfl)).trans (if_pos hx)
  · intro x T hx ha
    have q := ((congrFun hC (x, T)).trans (pf_let_eq rfl)).trans (if_neg hx)
    exact ((q.trans (pf_let_eq rfl)).trans (if_pos (fun c => ha (Or.inr c)))).trans (pf_let_eq rfl)
  · intro x T T2 T3 w hx ha ⟨z1, z2, z3, T1, T4, m1, m2, m3⟩ hw h13 hadd
    have q := ((congrFun hC (x, T)).trans (pf_let_eq rfl)).trans (if_neg hx)
    have c2 : T 9 x.toNat / 100 = (p : Int) := by
      rcases ha with c | c
      · omega
      · exact c
    replace q := (((((((q.trans (pf_let_eq rfl)).trans (if_neg (fun s => s c2))).trans (pf_let_eq rfl)).trans (pf_call_eq m1)).trans (pf_let_eq rfl)).trans (pf_call_eq m2)).trans (pf_call_eq m3))
    rcases hw with rfl | rfl
    · have u : T2 73 13 = 76 := h13
      exact (((((q.trans (if_pos u)).trans (pf_let_eq rfl)).trans (pf_let_eq rfl)).trans (pf_let_eq rfl)).trans (pf_call_eq hadd)).trans (pf_let_eq rfl)
    · have u : ¬ T2 73 13 = 76 := by rw [h13]; decide
      exact (((((q.trans (if_neg u)).trans (pf_let_eq rfl)).trans (pf_let_eq rfl)).trans (pf_let_eq rfl)).trans (pf_call_eq hadd)).trans (pf_let_eq rfl)
