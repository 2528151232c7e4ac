/-! WEIGHTS: a trial worked out on both sides -/
def wr (c : Nat) (n : Int) (V W : pm_M) : Prop :=
  ((c = 45 ∨ c = 51) ∧ V 73 0 = (c : Int) ∧ V c 0 = n ∧ W 90 16 = n ∧ (V 73 13 = 76 ∨ V 73 13 = 77)) ∧ (sq_sc c V W ∧ wb W) ∧
  (V 73 1 = W 90 48 ∧ V 73 2 = W 90 49 ∧ 0 ≤ W 90 48 ∧ W 90 48 < n ∧ 0 ≤ W 90 49 ∧ W 90 49 < n) ∧
  (V 73 5 = W 90 42 ∧ V 73 6 = W 90 43 ∧ 1 ≤ W 90 42 ∧ W 90 42 ≤ 171 ∧ 1 ≤ W 90 43 ∧ W 90 43 ≤ 171) ∧
  (V 73 7 = W 90 47 ∧ 0 ≤ W 90 47 ∧ W 90 47 ≤ 16) ∧
  (V 73 10 = W 90 44 ∧ V 73 11 = W 90 45 ∧ V 73 12 = W 90 46 ∧ W 90 44 = wk_S (W 110) n.toNat ∧ W 90 45 = wk_S (W 111) n.toNat ∧ W 90 46 = wk_S (fun j => W 110 j * W 111 j) n.toNat ∧ 1 ≤ W 90 44 ∧ 1 ≤ W 90 45) ∧
  (∀ j : Nat, (j : Int) < n → V 74 j = W 110 j ∧ V 75 j = W 111 j ∧ 0 ≤ W 110 j ∧ W 110 j ≤ 1539 ∧ 0 ≤ W 111 j ∧ W 111 j ≤ 171)
/-- the reference's side -/
theorem rw_pose {W W1 : pm_M} {z a1 a2 a3 n : Int} (hb : wb W) (hn : W 90 16 = n) (t0 : 0 ≤ a1) (t1 : a1 / 100 < W 90 23) (t2 : (a1 / 10) % 10 < n) (t3 : a1 % 10 < n) (s : 0 ≤ a2 ∧ a2 ≤ 99) (l : -99 ≤ a3 ∧ a3 ≤ 99) (hW : F_X12_works a1 a2 a3 W = (z, W1)) : ∃ (p : Nat) (sv sf tr : Int) (g r : Nat → Int), p = (a1 / 100).toNat ∧ sv = pm_mx 1 ((W 98 0 + W 100 (4 * p)) + (W 98 1 * (a2 / 10))) ∧ sf = pm_mx 1 ((W 98 2 + W 100 (4 * p + 1)) + (W 98 3 * (a2 % 10))) ∧ tr = wk_t (W 100 (4 * p + 2)) a3 (W 90 20) ∧ g = wk_h (fun j => W 97 (3 * j)) (fun j => W 97 (3 * j + 1)) (fun j => W 97 (3 * j + 2)) ((a1 / 10) % 10).toNat sv ∧ r = wk_s (fun j => W 97 (3 * j)) (a1 % 10).toNat sf ∧ (1 ≤ sv ∧ sv ≤ 171 ∧ 1 ≤ sf ∧ sf ≤ 171 ∧ 0 ≤ tr ∧ tr ≤ 16) ∧ (∀ j : Nat, (j : Int) < n → ((0 ≤ g j ∧ g j ≤ 1539) ∧ (j = ((a1 / 10) % 10).toNat → 1 ≤ g j)) ∧ ((0 ≤ r j ∧ r j ≤ 171) ∧ (j = (a1 % 10).toNat → 1 ≤ r j))) ∧ W1 90 48 = (a1 / 10) % 10 ∧ W1 90 49 = a1 % 10 ∧ W1 90 42 = sv ∧ W1 90 43 = sf ∧ W1 90 47 = tr ∧ W1 90 44 = wk_S g n.toNat ∧ W1 90 45 = wk_S r n.toNat ∧ W1 90 46 = wk_S (fun j => g j * r j) n.toNat ∧ (∀ j : Nat, (j : Int) < n → W1 110 j = g j ∧ W1 111 j = r j) ∧ fR W W1 := by
  obtain ⟨b16, b20, b21, b23, b97, bh, ⟨s0, s1, s2, s3⟩, b100⟩ := hb
  rw [hn] at b16 bh
  obtain ⟨p, hp⟩ : ∃ p, p = (a1 / 100).toNat := ⟨_, rfl⟩
  have i0 : (4 * (a1 / 100)).toNat = 4 * p := by omega
  have i1 : ((4 * (a1 / 100)) + 1).toNat = 4 * p + 1 := by omega
  have i2 : ((4 * (a1 / 100)) + 2).toNat = 4 * p + 2 := by omega
  obtain ⟨c0, c1, c2⟩ := b100 p (by omega)
  obtain ⟨sv, hsv⟩ : ∃ sv, sv = pm_mx 1 ((W 98 0 + W 100 (4 * p)) + (W 98 1 * (a2 / 10))) := ⟨_, rfl⟩
  obtain ⟨sf, hsf⟩ : ∃ sf, sf = pm_mx 1 ((W 98 2 + W 100 (4 * p + 1)) + (W 98 3 * (a2 % 10))) := ⟨_, rfl⟩
  obtain ⟨tr, htr⟩ : ∃ tr, tr = wk_t (W 100 (4 * p + 2)) a3 (W 90 20) := ⟨_, rfl⟩
  have bt := wk_t_b (p := W 100 (4 * p + 2)) (l := a3) (w := W 90 20) c2 l b20.1
  have m1 := pm_mulb (x := W 98 1) (y := a2 / 10) (b := 9) (d := 9) (m := 81) s1.1 (by omega) s1.2 (by omega) (by decide)
  have m3 := pm_mulb (x := W 98 3) (y := a2 % 10) (b := 9) (d := 9) (m := 81) s3.1 (by omega) s3.2 (by omega) (by decide)
  have bsv : 1 ≤ sv ∧ sv ≤ 171 := by
    rw [hsv]
    unfold pm_mx
    split <;> omega
  have bsf : 1 ≤ sf ∧ sf ≤ 171 := by
    rw [hsf]
    unfold pm_mx
    split <;> omega
  have hv : pm_mx 1 ((W 98 0 + W 100 (4 * (a1 / 100)).toNat) + (W 98 1 * (a2 / 10))) = sv := by rw [i0, hsv]
  have hf : pm_mx 1 ((W 98 2 + W 100 ((4 * (a1 / 100)) + 1).toNat) + (W 98 3 * (a2 % 10))) = sf := by rw [i1, hsf]
  have ht : pm_mx 0 (W 100 ((4 * (a1 / 100)) + 2).toNat - (if a3 < 0 then (-a3) / pm_mx 1 (W 90 20 / 2) else a3 / W 90 20)) = tr := by
    rw [i2, htr]
    rfl
  obtain ⟨B, hB, he⟩ := rw_works hn hv hf ht hW
  obtain ⟨S, hS⟩ : ∃ S, S = pm_up (pm_up (pm_up (pm_up (pm_up (pm_up (pm_up (pm_up W 90 48 ((a1 / 10) % 10)) 90 49 (a1 % 10)) 90 42 sv) 90 43 sf) 90 47 tr) 90 44 0) 90 45 0) 90 46 0 := ⟨_, rfl⟩
  rw [← hS] at he
  have S48 : S 90 48 = (a1 / 10) % 10 := by rw [hS]; simp [pm_up]
  have S49 : S 90 49 = a1 % 10 := by rw [hS]; simp [pm_up]
  have S42 : S 90 42 = sv := by rw [hS]; simp [pm_up]
  have S43 : S 90 43 = sf := by rw [hS]; simp [pm_up]
  have S47 : S 90 47 = tr := by rw [hS]; simp [pm_up]
  have S44 : S 90 44 = 0 := by rw [hS]; simp [pm_up]
  have S45 : S 90 45 = 0 := by rw [hS]; simp [pm_up]
  have S46 : S 90 46 = 0 := by rw [hS]; simp [pm_up]
  have Sc : ∀ k i, k ≠ 90 → S k i = W k i := fun k i q => by
    rw [hS, pm_up_c q, pm_up_c q, pm_up_c q, pm_up_c q, pm_up_c q, pm_up_c q, pm_up_c q, pm_up_c q]
  have Sf : ∀ i, (i < 42 ∨ 49 < i) → S 90 i = W 90 i := fun i q => by
    rw [hS, pm_up_i (by omega), pm_up_i (by omega), pm_up_i (by omega), pm_up_i (by omega), pm_up_i (by omega), pm_up_i (by omega), pm_up_i (by omega), pm_up_i (by omega)]
  have S97 : S 97 = W 97 := funext fun i => Sc 97 i (by decide)
  obtain ⟨r1, r2, r3, r4, r5, r6⟩ := rw_sums (n := n) (sv := sv) (sf := sf) (v := (a1 / 10) % 10) (f := a1 % 10) hB (by omega) ⟨by omega, t2⟩ ⟨by omega, t3⟩ (fun q hq => by rw [S97]; exact b97 q (by omega)) S44 S45 S46 he
  rw [S97] at r1 r2 r3 r4
  refine ⟨p, sv, sf, tr, _, _, hp, hsv, hsf, htr, rfl, rfl, ⟨bsv.1, bsv.2, bsf.1, bsf.2, by rw [htr]; exact bt.1, by rw [htr]; exact bt.2⟩, fun j hj => ⟨?_, ?_⟩, (r6 48 (by decide) (by decide) (by decide)).trans S48, (r6 49 (by decide) (by decide) (by decide)).trans S49, (r6 42 (by decide) (by decide) (by decide)).trans S42, (r6 43 (by decide) (by decide) (by decide)).trans S43, (r6 47 (by decide) (by decide) (by decide)).trans S47, r1, r2, r3, r4, fun k q1 q2 q3 q4 => funext fun i => (r5 k i q1 q2 q3).trans (Sc k i q1), fun i q => (r6 i (by omega) (by omega) (by omega)).trans (Sf i (by omega))⟩
  · exact wk_h_b (A := fun j => W 97 (3 * j)) (B := fun j => W 97 (3 * j + 1)) (H := fun j => W 97 (3 * j + 2)) (v := ((a1 / 10) % 10).toNat) (j := j) (s := sv) (b97 (3 * j) (by omega)) (b97 (3 * ((a1 / 10) % 10).toNat) (by omega)) (b97 (3 * j + 1) (by omega)) (b97 (3 * ((a1 / 10) % 10).toNat + 1) (by omega)) (bh j hj) bsv
  · exact wk_s_b (A := fun j => W 97 (3 * j)) (f := (a1 % 10).toNat) (j := j) (s := sf) (b97 (3 * j) (by omega)) (b97 (3 * (a1 % 10).toNat) (by omega)) bsf
/-- a trial put: both sides -/
theorem wz_pose {V W V1 W1 : pm_M} {z z' a1 a2 a3 : Int} (hq : rq V W) (hp : rp V W) (hb : wb W) (h13 : V 73 13 = 76 ∨ V 73 13 = 77) (t0 : 0 ≤ a1) (t1 : a1 / 100 < W 90 23) (t2 : (a1 / 10) % 10 < W 90 16) (t3 : a1 % 10 < W 90 16) (s : 0 ≤ a2 ∧ a2 ≤ 99) (l : -99 ≤ a3 ∧ a3 ≤ 99) (hV : F_X11_pose a1 a2 a3 V = (z, V1)) (hW : F_X12_works a1 a2 a3 W = (z', W1)) : ∃ c : Nat, V 0 8 = (c : Int) ∧ wr c (W 90 16) V1 W1 ∧ V1 73 3 = a2 / 10 ∧ V1 73 4 = a2 % 10 ∧ fC V V1 ∧ fR W W1 := by
  obtain ⟨c, hc, h8⟩ : ∃ c : Nat, (c = 45 ∨ c = 51) ∧ V 0 8 = (c : Int) := by
    rcases hq.1 with ⟨q, -⟩ | ⟨q, -⟩
    · exact ⟨45, Or.inl rfl, q⟩
    · exact ⟨51, Or.inr rfl, q⟩
  have hS : sq_sc c V W := by
    have h := hq.2.2.1
    rw [h8, Int.toNat_natCast] at h
    exact h
  obtain ⟨n, hn⟩ : ∃ n, W 90 16 = n := ⟨_, rfl⟩
  rw [hn] at t2 t3 ⊢
  obtain ⟨p, sv, sf, tr, g, r, ep, esv, esf, etr, eg, er, bb, bg, w48, w49, w42, w43, w47, w44, w45, w46, wj, fw⟩ := rw_pose hb hn t0 t1 t2 t3 s l hW
  obtain ⟨sc0, -, scj, scs, -⟩ := hS
  rw [hn] at sc0
  have hb' := hb
  obtain ⟨b16, b20, -, b23, b97, bh, -, b100⟩ := hb'
  rw [hn] at b16 bh
  rw [sc0] at scj
  obtain ⟨d4, d5, d6, d7, -, d9⟩ := scs (by omega)
  have pn : (p : Int) < V 4 1 := by rw [hq.2.2.2.2.1]; omega
  have q5 : V 5 p = W 100 (4 * p) := by
    have h := hp.1 p 0 pn (by decide)
    rw [show 0 + (4 * p + 0) = 4 * p by omega] at h
    exact h
  have q6 : V 6 p = W 100 (4 * p + 1) := by
    have h := hp.1 p 1 pn (by decide)
    rw [show 0 + (4 * p + 1) = 4 * p + 1 by omega] at h
    exact h
  have q7 : V 7 p = W 100 (4 * p + 2) := by
    have h := hp.1 p 2 pn (by decide)
    rw [show 0 + (4 * p + 2) = 4 * p + 2 by omega] at h
    exact h
  have e := hV.symm.trans (F_X11_pose_eq a1 a2 a3 V)
  simp only [pf_let] at e
  rw [← ep] at e
  obtain ⟨zp, Vp, hVp⟩ : ∃ x Z, F_X11_poseAs a1 a2 (V 5 p) (V 6 p) V = (x, Z) := ⟨_, _, rfl⟩
  replace e := e.trans (pf_call_eq hVp)
  have e2 := hVp.symm.trans (F_X11_poseAs_eq a1 a2 (V 5 p) (V 6 p) V)
  obtain ⟨T, hT⟩ : ∃ T, T = pm_up (pm_up (pm_up (pm_up (pm_up V 73 0 (c : Int)) 73 1 ((a1 % 100) / 10)) 73 2 ((a1 % 100) % 10)) 73 3 (a2 / 10)) 73 4 (a2 % 10) := ⟨_, rfl⟩
  have e3 : (zp, Vp) = pf_call (F_X10_spread (V 5 p) (V 6 p) T) fun _ V13 => ((0 : Int), V13) := by
    rw [hT]
    rcases hc with rfl | rfl
    · have h1 : V 0 8 = 45 := h8
      exact (e2.trans (if_pos h1)).trans (pf_call_eq (F_X10_place_eq 45 (a1 % 100) a2 V))
    · have h1 : V 0 8 = 51 := h8
      exact (e2.trans (if_neg (by omega))).trans (pf_call_eq (F_X10_place_eq 51 (a1 % 100) a2 V))
  have T0 : T 73 0 = (c : Int) := by rw [hT]; simp [pm_up]
  have T1 : T 73 1 = (a1 / 10) % 10 := by
    have h : T 73 1 = (a1 % 100) / 10 := by rw [hT]; simp [pm_up]
    omega
  have T2 : T 73 2 = a1 % 10 := by
    have h : T 73 2 = (a1 % 100) % 10 := by rw [hT]; simp [pm_up]
    omega
  have T3 : T 73 3 = a2 / 10 := by rw [hT]; simp [pm_up]
  have T4 : T 73 4 = a2 % 10 := by rw [hT]; simp [pm_up]
  have Tc : ∀ k i, k ≠ 73 → T k i = V k i := fun k i q => by rw [hT, pm_up_c q, pm_up_c q, pm_up_c q, pm_up_c q, pm_up_c q]
  have Tf : ∀ i, 5 ≤ i → T 73 i = V 73 i := fun i q => by rw [hT, pm_up_i (by omega), pm_up_i (by omega), pm_up_i (by omega), pm_up_i (by omega), pm_up_i (by omega)]
  obtain ⟨zs, Vs, hVs⟩ : ∃ x Z, F_X10_spread (V 5 p) (V 6 p) T = (x, Z) := ⟨_, _, rfl⟩
  replace e3 := e3.trans (pf_call_eq hVs)
  obtain ⟨-, ev⟩ := Prod.mk.inj e3
  rw [ev] at e
  have cc : ∀ k : Nat, k ≤ 5 → T (c + k) = V (c + k) := fun k hk => funext fun i => Tc (c + k) i (by omega)
  have cc1 := cc 1 (by decide)
  have cc2 := cc 2 (by decide)
  have cc3 := cc 3 (by decide)
  have ch : ∀ j : Nat, (j : Int) < n → wk_h (T (c + 1)) (T (c + 2)) (T (c + 3)) (T 73 1).toNat sv j = g j := fun j hj => by
    obtain ⟨x1, x2, x3⟩ := scj j hj
    obtain ⟨y1, y2, -⟩ := scj ((a1 / 10) % 10).toNat (by omega)
    rw [eg]
    show T (c + 3) j * pm_mx 0 (sv - (pm_ab (T (c + 1) j - T (c + 1) (T 73 1).toNat) + pm_ab (T (c + 2) j - T (c + 2) (T 73 1).toNat))) = W 97 (3 * j + 2) * pm_mx 0 (sv - (pm_ab (W 97 (3 * j) - W 97 (3 * ((a1 / 10) % 10).toNat)) + pm_ab (W 97 (3 * j + 1) - W 97 (3 * ((a1 / 10) % 10).toNat + 1))))
    rw [T1, cc1, cc2, cc3, x1, x2, x3, y1, y2]
  have cs : ∀ j : Nat, (j : Int) < n → wk_s (T (c + 1)) (T 73 2).toNat sf j = r j := fun j hj => by
    obtain ⟨x1, -, -⟩ := scj j hj
    obtain ⟨y1, -, -⟩ := scj (a1 % 10).toNat (by omega)
    rw [er]
    show pm_mx 0 (sf - pm_ab (T (c + 1) j - T (c + 1) (T 73 2).toNat)) = pm_mx 0 (sf - pm_ab (W 97 (3 * j) - W 97 (3 * (a1 % 10).toNat)))
    rw [T2, cc1, x1, y1]
  obtain ⟨u5, u6, u10, u11, u12, uj⟩ := cw_spread hc (n := n) (sv := sv) (sf := sf) T0 ((Tc c 0 (by omega)).trans sc0) (by omega) (by rw [T3, Tc c 4 (by omega), Tc c 5 (by omega), d4, d5, q5, esv]) (by rw [T4, Tc c 6 (by omega), Tc c 7 (by omega), d6, d7, q6, esf]) (fun j hj => by rw [ch j hj]; have h := (bg j hj).1.1; omega) (fun j hj => by rw [cs j hj]; have h := (bg j hj).2.1; omega) hVs
  obtain ⟨-, v1, v2⟩ := cw_spread_fr (by rcases hc with rfl | rfl; exact Or.inl T0; exact Or.inr T0) hVs
  have s7 : Vs 7 p = W 100 (4 * p + 2) := by rw [v1 7 p (by decide) (by decide) (by decide), Tc 7 p (by decide), q7]
  have s0 : Vs 73 0 = (c : Int) := (v2 0 (by decide) (by decide) (by decide) (by decide) (by decide)).trans T0
  have s9 : Vs c 9 = W 90 20 := by rw [v1 c 9 (by omega) (by omega) (by omega), Tc c 9 (by omega), d9]
  rw [s7] at e
  replace e := e.trans (pf_call_eq (cw_trust hc s0 s9 b20.1 (b100 p (by omega)).2.2 l))
  obtain ⟨-, rfl⟩ := Prod.mk.inj e
  rw [← etr]
  have Vf : ∀ i, i ≠ 7 → pm_up Vs 73 7 tr 73 i = Vs 73 i := fun i q => pm_up_i q
  have Vc : ∀ k i, k ≠ 73 → pm_up Vs 73 7 tr k i = Vs k i := fun k i q => pm_up_c q
  have fc : fC V (pm_up Vs 73 7 tr) := fun k i q => by
    by_cases q1 : k = 73
    · subst q1
      rw [Vf i (by omega), v2 i (by omega) (by omega) (by omega) (by omega) (by omega), Tf i (by omega)]
    · rw [Vc k i q1, v1 k i q1 (by omega) (by omega), Tc k i q1]
  have hS1 : sq_sc c (pm_up Vs 73 7 tr) W1 := by
    have h := fR.q (fC.q hq fc) fw
    have h1 := h.2.2.1
    rw [fc 0 8 (Or.inl (Or.inl (by decide))), h8, Int.toNat_natCast] at h1
    exact h1
  have gS : wk_S (wk_h (T (c + 1)) (T (c + 2)) (T (c + 3)) (T 73 1).toNat sv) n.toNat = wk_S g n.toNat := wk_S_eq _ fun j hj => ch j (by omega)
  have rS : wk_S (wk_s (T (c + 1)) (T 73 2).toNat sf) n.toNat = wk_S r n.toNat := wk_S_eq _ fun j hj => cs j (by omega)
  have pS : wk_S (fun j => wk_h (T (c + 1)) (T (c + 2)) (T (c + 3)) (T 73 1).toNat sv j * wk_s (T (c + 1)) (T 73 2).toNat sf j) n.toNat = wk_S (fun j => g j * r j) n.toNat := wk_S_eq _ fun j hj => by
    rw [ch j (by omega), cs j (by omega)]
  have gW : wk_S (W1 110) n.toNat = wk_S g n.toNat := wk_S_eq _ fun j hj => (wj j (by omega)).1
  have rW : wk_S (W1 111) n.toNat = wk_S r n.toNat := wk_S_eq _ fun j hj => (wj j (by omega)).2
  have pW : wk_S (fun j => W1 110 j * W1 111 j) n.toNat = wk_S (fun j => g j * r j) n.toNat := wk_S_eq _ fun j hj => by
    rw [(wj j (by omega)).1, (wj j (by omega)).2]
  have g1 : 1 ≤ wk_S g n.toNat := by
    rw [wk_pm]
    exact pm_sum_pos n.toNat (fun j hj => (bg j (by omega)).1.1.1) ((a1 / 10) % 10).toNat (by omega) ((bg ((a1 / 10) % 10).toNat (by omega)).1.2 rfl)
  have r1 : 1 ≤ wk_S r n.toNat := by
    rw [wk_pm]
    exact pm_sum_pos n.toNat (fun j hj => (bg j (by omega)).2.1.1) (a1 % 10).toNat (by omega) ((bg (a1 % 10).toNat (by omega)).2.2 rfl)
  refine ⟨c, h8, ⟨⟨hc, ?_, ?_, (fw.2 16 (by omega)).trans hn, ?_⟩, ⟨hS1, fw.b hb⟩, ⟨?_, ?_, ?_, ?_, ?_, ?_⟩, ⟨?_, ?_, ?_, ?_, ?_, ?_⟩, ⟨?_, ?_, ?_⟩, ⟨?_, ?_, ?_, ?_, ?_, ?_, ?_, ?_⟩, fun j hj => ?_⟩, ?_, ?_, fc, fw⟩
  · rw [Vf 0 (by decide), s0]
  · rw [Vc c 0 (by omega), v1 c 0 (by omega) (by omega) (by omega), Tc c 0 (by omega), sc0]
  · rw [fc 73 13 (Or.inr ⟨rfl, Or.inl rfl⟩)]
    exact h13
  · rw [Vf 1 (by decide), v2 1 (by decide) (by decide) (by decide) (by decide) (by decide), T1, w48]
  · rw [Vf 2 (by decide), v2 2 (by decide) (by decide) (by decide) (by decide) (by decide), T2, w49]
  · omega
  · omega
  · omega
  · omega
  · rw [Vf 5 (by decide), u5, w42]
  · rw [Vf 6 (by decide), u6, w43]
  · omega
  · omega
  · omega
  · omega
  · rw [pm_up_s, w47]
  · omega
  · omega
  · rw [Vf 10 (by decide), u10, gS, w44]
  · rw [Vf 11 (by decide), u11, rS, w45]
  · rw [Vf 12 (by decide), u12, pS, w46]
  · rw [w44, gW]
  · rw [w45, rW]
  · rw [w46, pW]
  · rw [w44]
    exact g1
  · rw [w45]
    exact r1
  · obtain ⟨x1, x2⟩ := uj j hj
    obtain ⟨y1, y2⟩ := wj j hj
    obtain ⟨⟨z1, -⟩, ⟨z2, -⟩⟩ := bg j hj
    rw [Vc 74 j (by decide), Vc 75 j (by decide), x1, x2, y1, y2, ch j hj, cs j hj]
    exact ⟨rfl, rfl, z1.1, z1.2, z2.1, z2.2⟩
  · rw [Vf 3 (by decide), v2 3 (by decide) (by decide) (by decide) (by decide) (by decide), T3]
  · rw [Vf 4 (by decide), v2 4 (by decide) (by decide) (by decide) (by decide) (by decide), T4]
