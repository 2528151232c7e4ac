/-! THE LAW'S CASES: a call of the class, the same call of the reference -/
def lw_lv (i : Int) : pm_L := [(0, (5, 0)), (1, (3, 0)), (2, (3, 90)), (3, (0, i))]
section LWL
variable {X : pm_X} {L : Nat} {xs : Nat → Int32} {i : Int} {V : pm_M} {pc p1 p2 p3 p4 : Nat} {st : List pm_V}
theorem lw_ld (hC : pm_C X RL cL_law 4 60) (hS : pm_Sc X L xs) (hL : L ≤ 3072) (hi : 0 ≤ i ∧ i + 6 ≤ (L : Int)) {c : Int} (hc : 0 ≤ c ∧ c ≤ 5) (d0 : decode cL_law pc = .ok (.aload_n 0, 1)) (d1 : decode cL_law (pc + 1) = .ok (.iload_n 3, 1)) (d2 : decode cL_law (pc + 2) = .ok (.iconst c, 1)) (d3 : decode cL_law (pc + 3) = .ok (.iadd, 1)) (d4 : decode cL_law (pc + 4) = .ok (.iaload, 1)) (k : ∀ a : Int, (xs (i + c).toNat).toInt = a → -2147483648 ≤ a ∧ a ≤ 2147483647 → pm_J X (pc + 5) (lw_lv i) ((0, a) :: st) 118 V) : pm_J X pc (lw_lv i) st 118 V := by
  refine pm_aloadS hC 0 (by decide) d0 rfl ?_
  refine pm_iload_n hC 3 d1 rfl ?_
  refine pm_iconst (v := c) hC d2 ?_
  refine pm_iadd hC d3 ?_
  refine pm_sld hC hS (by omega) (by omega) d4 ?_
  exact k _ rfl (pm_i32r _)
end LWL
section LW
variable {X : pm_X} {L : Nat} {xs : Nat → Int32} {i : Int} {V : pm_M}
set_option maxHeartbeats 4000000 in
set_option maxRecDepth 100000 in
theorem lw_c_feed (hC : pm_C X RL cL_law 4 60) (hS : pm_Sc X L xs) (hL : L ≤ 3072) (hi : 0 ≤ i ∧ i + 6 ≤ (L : Int)) (hI : lw_J V) (nxt : ∀ V', lw_J V' → pm_J X 1566 (lw_lv i) [] 118 V') : pm_J X 184 (lw_lv i) [] 118 V := by
  obtain ⟨⟨hV, hQ⟩, hP⟩ := hI
  refine pm_aload_n hC 1 (by decide) dL_law_184 rfl ?_
  refine lw_ld hC hS hL hi (c := 1) (by decide) dL_law_185 dL_law_186 dL_law_187 dL_law_188 dL_law_189 (fun a1 e1 b1 => ?_)
  refine lw_ld hC hS hL hi (c := 2) (by decide) dL_law_190 dL_law_191 dL_law_192 dL_law_193 dL_law_194 (fun a2 e2 b2 => ?_)
  refine lw_ld hC hS hL hi (c := 3) (by decide) dL_law_195 dL_law_196 dL_law_197 dL_law_198 dL_law_199 (fun a3 e3 b3 => ?_)
  refine lw_ld hC hS hL hi (c := 4) (by decide) dL_law_200 dL_law_201 dL_law_202 dL_law_203 dL_law_204 (fun a4 e4 b4 => ?_)
  refine lw_ld hC hS hL hi (c := 5) (by decide) dL_law_205 dL_law_206 dL_law_207 dL_law_208 dL_law_209 (fun a5 e5 b5 => ?_)
  refine pm_callV (ci := 11) (as := [(0, a1), (0, a2), (0, a3), (0, a4), (0, a5)]) (st := []) hC 0 (fD_X11_feed_0 a1 a2 a3 a4 a5 b1 b2 b3 b4 b5) lm_L_13 li_X11_feed (by decide) (by decide) rfl rfl rfl (by decide) rfl rfl (Nat.le_of_ble_eq_true rfl) ⟨Nat.le_refl _, Or.inl rfl⟩ dL_law_210 ⟨rfl, hV.1⟩ (fun r1 V1 hp1 => ?_)
  obtain ⟨y1, rfl, -, hok, hf, hF1⟩ := hp1
  change pm_J X 213 (lw_lv i) [(0, y1)] 118 V1
  refine pm_pop hC rfl dL_law_213 ?_
  have hk1 := hf.hi (by decide)
  have hQ1 := hQ.hi hk1
  have hP1 := hP.hi hk1
  have hR1 := hV.2.2.eq hk1
  have hT1 := hV.2.1.hi hk1
  refine pm_aload_n hC 2 (by decide) dL_law_214 rfl ?_
  refine lw_ld hC hS hL hi (c := 1) (by decide) dL_law_215 dL_law_216 dL_law_217 dL_law_218 dL_law_219 (fun a1x e1x b1x => ?_)
  refine lw_ld hC hS hL hi (c := 2) (by decide) dL_law_220 dL_law_221 dL_law_222 dL_law_223 dL_law_224 (fun a2x e2x b2x => ?_)
  refine lw_ld hC hS hL hi (c := 3) (by decide) dL_law_225 dL_law_226 dL_law_227 dL_law_228 dL_law_229 (fun a3x e3x b3x => ?_)
  refine lw_ld hC hS hL hi (c := 4) (by decide) dL_law_230 dL_law_231 dL_law_232 dL_law_233 dL_law_234 (fun a4x e4x b4x => ?_)
  refine lw_ld hC hS hL hi (c := 5) (by decide) dL_law_235 dL_law_236 dL_law_237 dL_law_238 dL_law_239 (fun a5x e5x b5x => ?_)
  obtain rfl : a1 = a1x := e1.symm.trans e1x
  obtain rfl : a2 = a2x := e2.symm.trans e2x
  obtain rfl : a3 = a3x := e3.symm.trans e3x
  obtain rfl : a4 = a4x := e4.symm.trans e4x
  obtain rfl : a5 = a5x := e5.symm.trans e5x
  refine pm_callV (ci := 12) (as := [(0, a1), (0, a2), (0, a3), (0, a4), (0, a5)]) (st := []) hC 90 (fP_X12_feed a1 a2 a3 a4 a5 b1 b2 b3 b4 b5) lm_L_17 li_X12_feed (by decide) (by decide) rfl rfl rfl (by decide) rfl rfl (Nat.le_of_ble_eq_true rfl) ⟨Nat.le_refl _, Or.inl rfl⟩ dL_law_240 ⟨rfl, hR1.P⟩ (fun r2 V2 hp2 => ?_)
  obtain ⟨y2, rfl, -, hP, hg, hF2⟩ := hp2
  change pm_J X 243 (lw_lv i) [(0, y2)] 118 V2
  have hk2 := hg.lo (by decide)
  obtain ⟨z, Z1, Z2, f1, f2, f3⟩ := fd_feed a1 a2 a3 a4 a5 hT1
  have g1 := hF1.symm.trans f1
  have g2 := hF2.symm.trans f2
  obtain ⟨rfl, rfl⟩ := Prod.mk.inj g1
  obtain ⟨rfl, rfl⟩ := Prod.mk.inj g2
  have hQ2 := ((hQ1.ff hf (by decide)).fs hg (by decide) (by decide)).lo hk2
  have hP2 := ((hP1.ff hf (by decide)).fs hg (by decide)).lo hk2
  refine pm_pop hC rfl dL_law_243 ?_
  refine pm_goto (tgt := 1566) hC dL_law_244 (by decide) ?_
  exact nxt _ ⟨⟨⟨hok.low hk2, f3.lo hk2, hR1.rP hP hg (by decide +kernel) (by decide +kernel) (by decide) (by decide) (lw_r1k hR1 hg (by decide) (by decide))⟩, hQ2⟩, hP2⟩
set_option maxHeartbeats 4000000 in
set_option maxRecDepth 100000 in
theorem lw_c_end (hC : pm_C X RL cL_law 4 60) (hS : pm_Sc X L xs) (hL : L ≤ 3072) (hi : 0 ≤ i ∧ i + 6 ≤ (L : Int)) (hI : lw_J V) (nxt : ∀ V', lw_J V' → pm_J X 1566 (lw_lv i) [] 118 V') : pm_J X 247 (lw_lv i) [] 118 V := by
  obtain ⟨⟨hV, hQ⟩, hP⟩ := hI
  refine pm_aload_n hC 1 (by decide) dL_law_247 rfl ?_
  refine lw_ld hC hS hL hi (c := 1) (by decide) dL_law_248 dL_law_249 dL_law_250 dL_law_251 dL_law_252 (fun a1 e1 b1 => ?_)
  refine pm_callV (ci := 11) (as := [(0, a1)]) (st := []) hC 0 (fD_X11_end_0 a1 b1) lm_L_18 li_X11_end (by decide) (by decide) rfl rfl rfl (by decide) rfl rfl (Nat.le_of_ble_eq_true rfl) ⟨Nat.le_refl _, Or.inl rfl⟩ dL_law_253 ⟨rfl, hV.1⟩ (fun r1 V1 hp1 => ?_)
  obtain ⟨y1, rfl, -, hok, hf, hF1⟩ := hp1
  change pm_J X 256 (lw_lv i) [(0, y1)] 118 V1
  refine pm_pop hC rfl dL_law_256 ?_
  have hk1 := hf.hi (by decide)
  have hQ1 := hQ.hi hk1
  have hP1 := hP.hi hk1
  have hR1 := hV.2.2.eq hk1
  have hT1 := hV.2.1.hi hk1
  refine pm_aload_n hC 2 (by decide) dL_law_257 rfl ?_
  refine lw_ld hC hS hL hi (c := 1) (by decide) dL_law_258 dL_law_259 dL_law_260 dL_law_261 dL_law_262 (fun a1x e1x b1x => ?_)
  obtain rfl : a1 = a1x := e1.symm.trans e1x
  refine pm_callV (ci := 12) (as := [(0, a1)]) (st := []) hC 90 (fP_X12_end a1 b1) lm_L_22 li_X12_end (by decide) (by decide) rfl rfl rfl (by decide) rfl rfl (Nat.le_of_ble_eq_true rfl) ⟨Nat.le_refl _, Or.inl rfl⟩ dL_law_263 ⟨rfl, hR1.P⟩ (fun r2 V2 hp2 => ?_)
  obtain ⟨y2, rfl, -, hP, hg, hF2⟩ := hp2
  change pm_J X 266 (lw_lv i) [(0, y2)] 118 V2
  have hk2 := hg.lo (by decide)
  obtain ⟨z, Z1, Z2, f1, f2, f3⟩ := fd_end a1 hT1
  have g1 := hF1.symm.trans f1
  have g2 := hF2.symm.trans f2
  obtain ⟨rfl, rfl⟩ := Prod.mk.inj g1
  obtain ⟨rfl, rfl⟩ := Prod.mk.inj g2
  have hQ2 := ((hQ1.ff hf (by decide)).fs hg (by decide) (by decide)).lo hk2
  have hP2 := ((hP1.ff hf (by decide)).fs hg (by decide)).lo hk2
  refine pm_pop hC rfl dL_law_266 ?_
  refine pm_goto (tgt := 1566) hC dL_law_267 (by decide) ?_
  exact nxt _ ⟨⟨⟨hok.low hk2, f3.lo hk2, hR1.rP hP hg (by decide +kernel) (by decide +kernel) (by decide) (by decide) (lw_r1k hR1 hg (by decide) (by decide))⟩, hQ2⟩, hP2⟩
set_option maxHeartbeats 4000000 in
set_option maxRecDepth 100000 in
theorem lw_c_fault (hC : pm_C X RL cL_law 4 60) (hS : pm_Sc X L xs) (hL : L ≤ 3072) (hi : 0 ≤ i ∧ i + 6 ≤ (L : Int)) (hI : lw_J V) (nxt : ∀ V', lw_J V' → pm_J X 1566 (lw_lv i) [] 118 V') : pm_J X 270 (lw_lv i) [] 118 V := by
  obtain ⟨⟨hV, hQ⟩, hP⟩ := hI
  refine pm_aload_n hC 1 (by decide) dL_law_270 rfl ?_
  refine lw_ld hC hS hL hi (c := 1) (by decide) dL_law_271 dL_law_272 dL_law_273 dL_law_274 dL_law_275 (fun a1 e1 b1 => ?_)
  refine pm_callV (ci := 11) (as := [(0, a1)]) (st := []) hC 0 (fD_X11_fault_0 a1 b1) lm_L_23 li_X11_fault (by decide) (by decide) rfl rfl rfl (by decide) rfl rfl (Nat.le_of_ble_eq_true rfl) ⟨Nat.le_refl _, Or.inl rfl⟩ dL_law_276 ⟨rfl, hV.1⟩ (fun r1 V1 hp1 => ?_)
  obtain ⟨y1, rfl, -, hok, hf, hx1, hx2, hx3, hx4, hx5, hF1⟩ := hp1
  change pm_J X 279 (lw_lv i) [(0, y1)] 118 V1
  refine pm_pop hC rfl dL_law_279 ?_
  have hk1 := hf.hi (by decide)
  have hQ1 := hQ.hi hk1
  have hP1 := hP.hi hk1
  have hV1 := hV.ff hok hf (by decide) (by decide)
  refine pm_aload_n hC 2 (by decide) dL_law_280 rfl ?_
  refine lw_ld hC hS hL hi (c := 1) (by decide) dL_law_281 dL_law_282 dL_law_283 dL_law_284 dL_law_285 (fun a1x e1x b1x => ?_)
  obtain rfl : a1 = a1x := e1.symm.trans e1x
  refine pm_callV (ci := 12) (as := [(0, a1)]) (st := []) hC 90 (fP_X12_fault a1 b1) lm_L_27 li_X12_fault (by decide) (by decide) rfl rfl rfl (by decide) rfl rfl (Nat.le_of_ble_eq_true rfl) ⟨Nat.le_refl _, Or.inl rfl⟩ dL_law_286 ⟨rfl, hV1.2.2.P⟩ (fun r2 V2 hp2 => ?_)
  obtain ⟨y2, rfl, -, hP, hg, hF2⟩ := hp2
  change pm_J X 289 (lw_lv i) [(0, y2)] 118 V2
  have hk2 := hg.lo (by decide)
  have g9 := hV.1.get2 0 9 (lo := 45) (hi := 51) (by decide) (by decide) rfl
  have g11 := hV.1.get2 0 11 (lo := 57) (hi := 63) (by decide) (by decide) rfl
  have hq1 : rq V1 V1 := by
    by_cases a0 : a1 = 0
    · rcases g9 with q9 | q9
      · exact hQ1.fl (sc := 45) q9 (fun k i q c => hx1 a0 q9 k i (by simp only [List.mem_cons, List.not_mem_nil, or_false]; unfold sq_nd at q; omega) (by simp))
      · exact hQ1.fl (sc := 51) q9 (fun k i q c => hx2 a0 q9 k i (by simp only [List.mem_cons, List.not_mem_nil, or_false]; unfold sq_nd at q; omega) (by simp))
    · by_cases a0' : a1 = 1
      · rcases g11 with q9 | q9
        · exact hQ1.flr (rc := 57) q9 (fun k i q c => hx3 a0' q9 k i (by simp only [List.mem_cons, List.not_mem_nil, or_false]; unfold sq_nd at q; omega) (by simp))
        · exact hQ1.flr (rc := 63) q9 (fun k i q c => hx4 a0' q9 k i (by simp only [List.mem_cons, List.not_mem_nil, or_false]; unfold sq_nd at q; omega) (by simp))
      · have q := hx5 a0 a0'
        rw [q] at hQ1 ⊢
        exact hQ1
  have hQ2 := (hq1.fs hg (by decide) (by decide)).lo hk2
  have hP2 := ((hP1.ff hf (by decide)).fs hg (by decide)).lo hk2
  refine pm_pop hC rfl dL_law_289 ?_
  refine pm_goto (tgt := 1566) hC dL_law_290 (by decide) ?_
  exact nxt _ ⟨⟨⟨hV1.1.low hk2, hV1.2.1.up (hk2 1 (by decide)) (hk2 2 (by decide)) (hg.1 91 (by decide) (by decide)) (hg.2 1 (by decide)), hV1.2.2.rP hP hg (by decide +kernel) (by decide +kernel) (by decide) (by decide) (lw_r1k hV1.2.2 hg (by decide) (by decide))⟩, hQ2⟩, hP2⟩
set_option maxHeartbeats 4000000 in
set_option maxRecDepth 100000 in
theorem lw_c_scene (hC : pm_C X RL cL_law 4 60) (hS : pm_Sc X L xs) (hL : L ≤ 3072) (hi : 0 ≤ i ∧ i + 6 ≤ (L : Int)) (hI : lw_J V) (nxt : ∀ V', lw_J V' → pm_J X 1566 (lw_lv i) [] 118 V') : pm_J X 293 (lw_lv i) [] 118 V := by
  obtain ⟨⟨hV, hQ⟩, hP⟩ := hI
  refine pm_aload_n hC 1 (by decide) dL_law_293 rfl ?_
  refine pm_callV (ci := 11) (as := []) (st := []) hC 0 fD_X11_scene_0 lm_L_28 li_X11_scene (by decide) (by decide) rfl rfl rfl (by decide) rfl rfl (Nat.le_of_ble_eq_true rfl) ⟨Nat.le_refl _, Or.inl rfl⟩ dL_law_294 ⟨rfl, hV.1⟩ (fun r1 V1 hp1 => ?_)
  obtain ⟨y1, rfl, -, hok, hf, hx1, hx2, hF1⟩ := hp1
  change pm_J X 297 (lw_lv i) [(0, y1)] 118 V1
  refine pm_pop hC rfl dL_law_297 ?_
  have hk1 := hf.hi (by decide)
  have hQ1 := hQ.hi hk1
  have hP1 := hP.hi hk1
  have hR1 := hV.2.2.eq hk1
  have hT1 := hV.2.1.hi hk1
  refine pm_aload_n hC 2 (by decide) dL_law_298 rfl ?_
  refine pm_callV (ci := 12) (as := []) (st := []) hC 90 fP_X12_scene lm_L_32 li_X12_scene (by decide) (by decide) rfl rfl rfl (by decide) rfl rfl (Nat.le_of_ble_eq_true rfl) ⟨Nat.le_refl _, Or.inl rfl⟩ dL_law_299 ⟨rfl, hR1.P⟩ (fun r2 V2 hp2 => ?_)
  obtain ⟨y2, rfl, -, hP, hg, hx3, hF2⟩ := hp2
  change pm_J X 302 (lw_lv i) [(0, y2)] 118 V2
  have hk2 := hg.lo (by decide)
  have key : ∃ (sc : Nat) (z : Int) (W : pm_M), (sc = 45 ∨ sc = 51) ∧ V 0 9 = (sc : Int) ∧ F_X6_read sc V = (z, W) ∧ ((z = -1 ∧ 0 ≤ y1 ∧ V1 1 1 = 0 ∧ y1 = W sc 0 ∧ V1 0 8 = (sc : Int) ∧ V1 0 9 = V 0 8 ∧ V1 4 1 = 1 ∧ V1 4 6 = 0 ∧ V1 15 0 = 0 ∧ V1 25 0 = 0 ∧ V1 35 0 = 0 ∧ sq_keep sc V1 W) ∨ (z ≠ -1 ∧ y1 = -1 ∧ V1 = W ∧ (∀ k i, sq_nd k i → ¬ (sc ≤ k ∧ k ≤ sc + 5) → V1 k i = V k i) ∧ ∀ k i, pd k i → V1 k i = V k i)) := by
    rcases hV.1.get2 0 9 (lo := 45) (hi := 51) (by decide) (by decide) rfl with q | q
    · obtain ⟨z, W, h1, h2⟩ := hx1 q
      refine ⟨45, z, W, Or.inl rfl, q, h1, ?_⟩
      rcases h2 with h2 | ⟨h2, h3, h4, h5⟩
      · exact Or.inl h2
      · exact Or.inr ⟨h2, h3, h4, fun k i q c => h5 k i (by simp only [List.mem_cons, List.not_mem_nil, or_false]; unfold sq_nd at q; omega) (by simp), fun k i q => h5 k i (by simp only [List.mem_cons, List.not_mem_nil, or_false]; unfold pd at q; omega) (by simp)⟩
    · obtain ⟨z, W, h1, h2⟩ := hx2 q
      refine ⟨51, z, W, Or.inr rfl, q, h1, ?_⟩
      rcases h2 with h2 | ⟨h2, h3, h4, h5⟩
      · exact Or.inl h2
      · exact Or.inr ⟨h2, h3, h4, fun k i q c => h5 k i (by simp only [List.mem_cons, List.not_mem_nil, or_false]; unfold sq_nd at q; omega) (by simp), fun k i q => h5 k i (by simp only [List.mem_cons, List.not_mem_nil, or_false]; unfold pd at q; omega) (by simp)⟩
  obtain ⟨sc, z, W, hsc, h9, hz, hzz⟩ := key
  obtain ⟨z2, W2, hz2, hzz2⟩ := hx3
  obtain ⟨u, U1, U2, u1, u2, u3, u4, u5⟩ := sl_fault hsc hT1
  have g1 := hz.symm.trans u1
  have g2 := hz2.symm.trans u2
  obtain ⟨rfl, rfl⟩ := Prod.mk.inj g1
  obtain ⟨rfl, rfl⟩ := Prod.mk.inj g2
  rcases hzz with ⟨q1, q2, q3, qy, x8, x9, x41, x46, xi0, xi1, xi2, xk⟩ | ⟨q1, q2, q3, qf, qp⟩
  · rcases hzz2 with ⟨-, y2p, s1, dy, d15, d16, d21, d23, d25, d19, d20, d97, d98, d99, d102⟩ | ⟨s0, -, -, -⟩
    · obtain ⟨hS1, n2, n4, n6⟩ := u5 q1
      have hB := lw_scene hS1 n2 n4 n6 hP d15 d16 d21 d25 d20 d97 d98 d99 d102
      have hL1 : V2 1 = V1 1 := hk2 1 (by decide)
      have hQs := (hQ1.sc h9 hS1 n2 n4 n6 xk x8 x9 (hf 0 10 (by decide) (by decide)) (hf 0 11 (by decide) (by decide)) (hf 57 0 (by decide) (by decide)) (hf 63 0 (by decide) (by decide)) x41 x46 xi0 xi1 xi2 d16 d21 d23 d25 d19 d20 (hg.2 35 (by decide)) d97 d98 d99 d102)
      have hQ2 := hQs.lo hk2
      have hn16 := (hB.1.get 90 16 (lo := 2) (hi := 9) (t := 0) (by decide) (by decide) rfl).1
      have hP2 := (rp.sc hQs x41 (by omega) (sc_dC hF1 (by omega)) (sc_dR hF2 (by omega)) d102).lo hk2
      refine pm_pop hC rfl dL_law_302 ?_
      refine pm_goto (tgt := 1566) hC dL_law_303 (by decide) ?_
      exact nxt _ ⟨⟨⟨hok.low hk2, ⟨by rw [hL1, q3, s1], by rw [hL1, q3]; decide, by rw [hL1, q3]; decide, fun j hj => absurd hj (by rw [hL1, q3]; omega)⟩, lw_r1k hR1 hg (by decide) (by decide), Or.inr hB⟩, hQ2⟩, hP2⟩
    · exact absurd q1 s0
  · rcases hzz2 with ⟨s0, -⟩ | ⟨-, sy, s3, s4⟩
    · exact absurd s0 q1
    · have hk3 := s4.lo (by decide)
      have hQ2 := ((hQ1.fl h9 qf).fs s4 (by decide) (by decide)).lo hk2
      have hP2 := ((hP1.C qp).fs s4 (by decide)).lo hk2
      subst q3
      subst s3
      refine pm_pop hC rfl dL_law_302 ?_
      refine pm_goto (tgt := 1566) hC dL_law_303 (by decide) ?_
      exact nxt _ ⟨⟨⟨hok.low hk2, u3.lo hk2, hR1.rP hP s4 (by decide +kernel) (by decide +kernel) (by decide) (by decide) (lw_r1k hR1 s4 (by decide) (by decide))⟩, hQ2⟩, hP2⟩
set_option maxHeartbeats 4000000 in
set_option maxRecDepth 100000 in
theorem lw_c_rules (hC : pm_C X RL cL_law 4 60) (hS : pm_Sc X L xs) (hL : L ≤ 3072) (hi : 0 ≤ i ∧ i + 6 ≤ (L : Int)) (hI : lw_J V) (nxt : ∀ V', lw_J V' → pm_J X 1566 (lw_lv i) [] 118 V') : pm_J X 306 (lw_lv i) [] 118 V := by
  obtain ⟨⟨hV, hQ⟩, hP⟩ := hI
  refine pm_aload_n hC 1 (by decide) dL_law_306 rfl ?_
  refine pm_callV (ci := 11) (as := []) (st := []) hC 0 fD_X11_rules_0 lm_L_33 li_X11_rules (by decide) (by decide) rfl rfl rfl (by decide) rfl rfl (Nat.le_of_ble_eq_true rfl) ⟨Nat.le_refl _, Or.inl rfl⟩ dL_law_307 ⟨rfl, hV.1⟩ (fun r1 V1 hp1 => ?_)
  obtain ⟨y1, rfl, -, hok, hf, hx1, hx2, hF1⟩ := hp1
  change pm_J X 310 (lw_lv i) [(0, y1)] 118 V1
  refine pm_pop hC rfl dL_law_310 ?_
  have hk1 := hf.hi (by decide)
  have hQ1 := hQ.hi hk1
  have hP1 := hP.hi hk1
  have hR1 := hV.2.2.eq hk1
  have hT1 := hV.2.1.hi hk1
  refine pm_aload_n hC 2 (by decide) dL_law_311 rfl ?_
  refine pm_callV (ci := 12) (as := []) (st := []) hC 90 fP_X12_rules lm_L_36 li_X12_rules (by decide) (by decide) rfl rfl rfl (by decide) rfl rfl (Nat.le_of_ble_eq_true rfl) ⟨Nat.le_refl _, Or.inl rfl⟩ dL_law_312 ⟨rfl, hR1.P, hR1.1⟩ (fun r2 V2 hp2 => ?_)
  obtain ⟨y2, rfl, -, hP, hg, hr, hx3, hF2⟩ := hp2
  change pm_J X 315 (lw_lv i) [(0, y2)] 118 V2
  have hk2 := hg.lo (by decide)
  have hP2 := ((hP1.ff hf (by decide)).fs hg (by decide)).lo hk2
  have key : ∃ (sc : Nat) (z : Int) (W : pm_M), (sc = 57 ∨ sc = 63) ∧ V 0 11 = (sc : Int) ∧ F_X3_read sc V = (z, W) ∧ ((z = -1 ∧ 0 ≤ y1 ∧ V1 1 1 = 0 ∧ y1 = W sc 0 ∧ V1 0 10 = (sc : Int) ∧ V1 0 11 = V 0 10 ∧ V1 sc 0 = W sc 0) ∨ (z ≠ -1 ∧ y1 = -1 ∧ V1 = W ∧ ∀ k i, sq_nd k i → k ≠ sc → V1 k i = V k i)) := by
    rcases hV.1.get2 0 11 (lo := 57) (hi := 63) (by decide) (by decide) rfl with q | q
    · obtain ⟨z, W, h1, h2⟩ := hx1 q
      refine ⟨57, z, W, Or.inl rfl, q, h1, ?_⟩
      rcases h2 with h2 | ⟨h2, h3, h4, h5⟩
      · exact Or.inl h2
      · exact Or.inr ⟨h2, h3, h4, fun k i q c => h5 k i (by simp only [List.mem_cons, List.not_mem_nil, or_false]; unfold sq_nd at q; omega) (by simp)⟩
    · obtain ⟨z, W, h1, h2⟩ := hx2 q
      refine ⟨63, z, W, Or.inr rfl, q, h1, ?_⟩
      rcases h2 with h2 | ⟨h2, h3, h4, h5⟩
      · exact Or.inl h2
      · exact Or.inr ⟨h2, h3, h4, fun k i q c => h5 k i (by simp only [List.mem_cons, List.not_mem_nil, or_false]; unfold sq_nd at q; omega) (by simp)⟩
  obtain ⟨sc, z, W, hsc, h9, hz, hzz⟩ := key
  obtain ⟨z2, W2, hz2, hzz2⟩ := hx3
  obtain ⟨u, U1, U2, u1, u2, u3, u4, u5⟩ := sr_fault (rc := sc) (by omega) hT1
  have g1 := hz.symm.trans u1
  have g2 := hz2.symm.trans u2
  obtain ⟨rfl, rfl⟩ := Prod.mk.inj g1
  obtain ⟨rfl, rfl⟩ := Prod.mk.inj g2
  rcases hzz with ⟨q1, q2, q3, qy, x10, x11, xr⟩ | ⟨q1, q2, q3, qf⟩
  · rcases hzz2 with ⟨-, -, s1, dy, d35, -⟩ | ⟨s0, -, -⟩
    · have hL1 : V2 1 = V1 1 := hk2 1 (by decide)
      have hQ2 := (hQ1.ru h9 (fun k i q c1 c2 c3 => hf k i (by simp only [List.mem_cons, List.not_mem_nil, or_false]; unfold sq_nd at q; omega) (by simp only [List.mem_cons, List.not_mem_nil, or_false, Prod.mk.injEq]; unfold sq_nd at q; omega)) x10 x11 (xr.trans (u5 q1).1) d35 (fun i q => hg.2 i (lw_nf_at (l := [16, 19, 20, 21, 23, 25]) (by decide) i q)) (fun k q => hg.1 k (lw_nf_at (l := [97, 98, 99, 102, 103, 105]) (by decide) k q) (by rintro rfl; exact absurd q (by decide)))).lo hk2
      refine pm_pop hC rfl dL_law_315 ?_
      refine pm_goto (tgt := 1566) hC dL_law_316 (by decide) ?_
      exact nxt _ ⟨⟨⟨hok.low hk2, ⟨by rw [hL1, q3, s1], by rw [hL1, q3]; decide, by rw [hL1, q3]; decide, fun j hj => absurd hj (by rw [hL1, q3]; omega)⟩, hR1.rP hP hg (by decide +kernel) (by decide +kernel) (by decide) (by decide) hr⟩, hQ2⟩, hP2⟩
    · exact absurd q1 s0
  · rcases hzz2 with ⟨s0, -⟩ | ⟨-, sy, s3, s4⟩
    · exact absurd s0 q1
    · have hQ2 := ((hQ1.flr h9 qf).fs s4 (by decide) (by decide)).lo hk2
      subst q3
      subst s3
      refine pm_pop hC rfl dL_law_315 ?_
      refine pm_goto (tgt := 1566) hC dL_law_316 (by decide) ?_
      exact nxt _ ⟨⟨⟨hok.low hk2, u3.lo hk2, hR1.rP hP hg (by decide +kernel) (by decide +kernel) (by decide) (by decide) hr⟩, hQ2⟩, hP2⟩
end LW
