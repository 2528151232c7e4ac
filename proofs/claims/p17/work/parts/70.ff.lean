/-! A FRAME BY FIELDS: but for the cells cs and the fields fs (cell, place) all is as it was -/
def pm_ff (cs : List Nat) (fs : List (Nat × Nat)) (V V' : pm_M) : Prop := ∀ k i : Nat, k ∉ cs → (k, i) ∉ fs → V' k i = V k i
theorem pm_ff.rf {cs : List Nat} {fs : List (Nat × Nat)} {V : pm_M} : pm_ff cs fs V V := fun _ _ _ _ => rfl
theorem pm_ff.upa {cs : List Nat} {fs : List (Nat × Nat)} {V V' : pm_M} (h : pm_ff cs fs V V') (k i : Nat) (x : Int) (hk : cs.contains k = true) : pm_ff cs fs V (pm_up V' k i x) := by
  intro j q hj hq
  have hne : j ≠ k := fun e => hj (e ▸ (by simpa using hk))
  rw [pm_up_c hne]
  exact h j q hj hq
theorem pm_ff.upf {cs : List Nat} {fs : List (Nat × Nat)} {V V' : pm_M} (h : pm_ff cs fs V V') (k i : Nat) (x : Int) (hk : fs.contains (k, i) = true) : pm_ff cs fs V (pm_up V' k i x) := by
  intro j q hj hq
  have hne : (j, q) ≠ (k, i) := fun e => hq (e ▸ (by simpa using hk))
  by_cases e1 : j = k
  · subst e1
    have e2 : q ≠ i := fun e => hne (by rw [e])
    rw [pm_up_i e2]
    exact h j q hj hq
  · rw [pm_up_c e1]
    exact h j q hj hq
theorem pm_ff.tr {cs c1 : List Nat} {fs f1 : List (Nat × Nat)} {V V1 V2 : pm_M} (h : pm_ff cs fs V V1) (h1 : pm_ff c1 f1 V1 V2) (hw : c1.all (fun k => cs.contains k) = true) (hf : f1.all (fun k => fs.contains k) = true) : pm_ff cs fs V V2 := by
  intro j q hj hq
  rw [h1 j q (fun m => hj ?_) (fun m => hq ?_), h j q hj hq]
  · have := List.all_eq_true.mp hw j m
    simpa using this
  · have := List.all_eq_true.mp hf (j, q) m
    simpa using this
/-- a whole cell -/
theorem pm_ff.cell {cs : List Nat} {fs : List (Nat × Nat)} {V V' : pm_M} (h : pm_ff cs fs V V') (k : Nat) (hk : cs.contains k = false) (hf : (fs.all fun q => q.1 != k) = true) : V' k = V k := by
  funext i
  refine h k i (by simpa using hk) (fun m => ?_)
  have := List.all_eq_true.mp hf (k, i) m
  simp at this
/-- the amount of a number, as the machine has it -/
def pm_ab (x : Int) : Int := if 0 ≤ x then x else pm_w32 (-x)
def pm_abL (x : Int) : Int := if 0 < x then x else pm_w64 (-x)
section PMA
variable {X : pm_X} {own : String} {cc : ByteArray} {nL d idx : Nat} {pc : Nat} {lv lv' : pm_L} {st stk : List pm_V} {n : Nat} {V : pm_M}
theorem pm_mabsT (hC : pm_C X own cc nL d) {x : Int} (i j k0 k1 : Nat) (hx : pm_R x) (hd1 : 1 ≤ d) (w1 : (decide (pm_look i = some (.methodLink own idx Lib.Math.abs.name)) && goodWord (.methodLink own idx Lib.Math.abs.name)) = true) (w2 : (decide (pm_look j = some (.static Lib.Math.abs.name)) && goodWord (.static Lib.Math.abs.name)) = true) (w3 : (decide (pm_look k0 = some (.initialized "java/lang/Math")) && goodWord (.initialized "java/lang/Math")) = true) (w4 : (decide (pm_look k1 = some (.code Lib.Math.abs.name Lib.Math.abs.code 1 (some .int))) && goodWord (.code Lib.Math.abs.name Lib.Math.abs.code 1 (some .int))) = true) (hst : pm_words st ≤ 8) (hd : decode cc pc = .ok (.invokestatic idx, 3)) (k : ∀ z : Int, pm_ab x = z → pm_R z ∧ (x = -2147483648 ∨ (0 ≤ z ∧ (z = x ∨ z = -x))) → pm_J X (pc + 3) lv ((0, z) :: st) n V) : pm_J X pc lv ((0, x) :: st) n V := by
  obtain ⟨p, l, e, R, s, m, args, below, meth, c, Q, G, nl, n0, n1⟩ := X
  intro d0 H locs ls h1 h2 h3 h4 h5 h6
  have hts := dr_words hC.2.2.2.2.2.1 d0
  have hroom := hC.2.2.2.2.2.2.2.2.2.1
  have hcel := hC.2.2.2.2.2.2.2.2.2.2.1 n h5 h6
  have h8 : ((pm_sts G st).map fun v => v.category).sum ≤ 8 := by
    have := pm_room8 (G := G) (m := m) (pc := pc) (ls := ls) (sv := []) hst
    have e9 : (F0 m pc ls []).monitorRoom = 0 := rfl
    omega
  have key : ∀ z : Int, Int32.ofInt z = (if 0 ≤ Int32.ofInt x then Int32.ofInt x else 0 - Int32.ofInt x) → pm_ab x = z → (pm_R z ∧ (x = -2147483648 ∨ (0 ≤ z ∧ (z = x ∨ z = -x)))) → W p l e R (s.setDrawn d0) m args below meth c H locs (n - n0) (pm_sl n - pm_sl n0) Q (F0 m (pc + 3) ls (.int (if 0 ≤ Int32.ofInt x then Int32.ofInt x else 0 - Int32.ofInt x) :: pm_sts G st)) := fun z hz ha hq => by
    rw [← hz]
    exact k z ha hq d0 H locs ls h1 h2 h3 h4 h5 h6
  refine va_mabs (s := s.setDrawn d0) hC.1 hC.2.1 (hC.2.2.1.trans (hC.2.2.2.1.symm.trans h4.1.symm)) hC.2.2.2.2.1 (hts _ (pm_in i w1)) (hts _ (pm_in j w2)) (hts _ (pm_in k0 w3)) (hts _ (pm_in k1 w4)) (rest := pm_sts G st) (by omega) (by omega) (by omega) (by omega) hd ?_
  by_cases q : 0 ≤ x
  · exact key x (by rw [if_pos (by rw [← pm_0, pm_le pm_R0 hx]; exact q)]) (if_pos q) ⟨hx, by omega⟩
  · have e1 : Int32.ofInt (-x) = 0 - Int32.ofInt x := by rw [← pm_0, ← Int32.ofInt_sub, Int.zero_sub]
    have e2 : ¬ 0 ≤ Int32.ofInt x := by rw [← pm_0, pm_le pm_R0 hx]; exact q
    by_cases q2 : x = -2147483648
    · exact key (-2147483648) (by rw [if_neg e2, ← e1, q2]; rfl) (by rw [q2]; decide +kernel) ⟨⟨by decide, by decide⟩, Or.inl q2⟩
    · exact key (-x) (by rw [if_neg e2, e1]) (by unfold pm_ab; rw [if_neg q]; exact pm_w32_id ⟨by have := hx.2; omega, by have := hx.1; omega⟩) ⟨⟨by have := hx.2; omega, by have := hx.1; omega⟩, by omega⟩
theorem pm_mabsLT (hC : pm_C X own cc nL d) {x : Int} (i j k0 k1 : Nat) (hx : pm_RL x) (hd1 : 1 ≤ d) (w1 : (decide (pm_look i = some (.methodLink own idx Lib.MathLoose.abs_long.x)) && goodWord (.methodLink own idx Lib.MathLoose.abs_long.x)) = true) (w2 : (decide (pm_look j = some (.static Lib.MathLoose.abs_long.x)) && goodWord (.static Lib.MathLoose.abs_long.x)) = true) (w3 : (decide (pm_look k0 = some (.initialized "java/lang/Math")) && goodWord (.initialized "java/lang/Math")) = true) (w4 : (decide (pm_look k1 = some (.code Lib.MathLoose.abs_long.x Lib.MathLoose.abs_long.code 2 (some .long))) && goodWord (.code Lib.MathLoose.abs_long.x Lib.MathLoose.abs_long.code 2 (some .long))) = true) (hst : pm_words st ≤ 8) (hd : decode cc pc = .ok (.invokestatic idx, 3)) (k : ∀ z : Int, pm_abL x = z → pm_RL z ∧ (x = -9223372036854775808 ∨ (0 ≤ z ∧ (z = x ∨ z = -x))) → pm_J X (pc + 3) lv ((1, z) :: st) n V) : pm_J X pc lv ((1, x) :: st) n V := by
  obtain ⟨p, l, e, R, s, m, args, below, meth, c, Q, G, nl, n0, n1⟩ := X
  intro d0 H locs ls h1 h2 h3 h4 h5 h6
  have hts := dr_words hC.2.2.2.2.2.1 d0
  have hroom := hC.2.2.2.2.2.2.2.2.2.1
  have hcel := hC.2.2.2.2.2.2.2.2.2.2.1 n h5 h6
  have h8 : ((pm_sts G st).map fun v => v.category).sum ≤ 8 := by
    have := pm_room8 (G := G) (m := m) (pc := pc) (ls := ls) (sv := []) hst
    have e9 : (F0 m pc ls []).monitorRoom = 0 := rfl
    omega
  have key : ∀ z : Int, Int64.ofInt z = (if 0 < Int64.ofInt x then Int64.ofInt x else -Int64.ofInt x) → pm_abL x = z → (pm_RL z ∧ (x = -9223372036854775808 ∨ (0 ≤ z ∧ (z = x ∨ z = -x)))) → W p l e R (s.setDrawn d0) m args below meth c H locs (n - n0) (pm_sl n - pm_sl n0) Q (F0 m (pc + 3) ls (.long (if 0 < Int64.ofInt x then Int64.ofInt x else -Int64.ofInt x) :: pm_sts G st)) := fun z hz ha hq => by
    rw [← hz]
    exact k z ha hq d0 H locs ls h1 h2 h3 h4 h5 h6
  refine va_mabs_long (s := s.setDrawn d0) hC.1 hC.2.1 (hC.2.2.1.trans (hC.2.2.2.1.symm.trans h4.1.symm)) hC.2.2.2.2.1 (hts _ (pm_in i w1)) (hts _ (pm_in j w2)) (hts _ (pm_in k0 w3)) (hts _ (pm_in k1 w4)) (rest := pm_sts G st) (by omega) (by omega) (by omega) (by omega) hd ?_
  have hz : pm_RL 0 := ⟨by decide, by decide⟩
  have e0 : Int64.ofInt 0 = 0 := rfl
  by_cases q : 0 < x
  · exact key x (by rw [if_pos (by rw [← e0, pm_ltL hz hx]; exact q)]) (if_pos q) ⟨hx, by omega⟩
  · have e1 : Int64.ofInt (-x) = -Int64.ofInt x := Int64.ofInt_neg x
    have e2 : ¬ 0 < Int64.ofInt x := by rw [← e0, pm_ltL hz hx]; exact q
    by_cases q2 : x = -9223372036854775808
    · exact key (-9223372036854775808) (by rw [if_neg e2, ← e1, q2]; rfl) (by rw [q2]; decide +kernel) ⟨⟨by decide, by decide⟩, Or.inl q2⟩
    · exact key (-x) (by rw [if_neg e2, e1]) (by unfold pm_abL; rw [if_neg q]; exact pm_w64_id ⟨by have := hx.2; omega, by have := hx.1; omega⟩) ⟨⟨by have := hx.2; omega, by have := hx.1; omega⟩, by omega⟩
end PMA
theorem pm_dig11 {b x : Int} (hb : 0 ≤ b ∧ b ≤ 9) (hx : 0 ≤ x ∧ x ≤ 8) : ((b * 100) + (x * 11)) % 10 ≤ 8 ∧ ((b * 100) + (x * 11)) / 10 % 10 ≤ 8 := by
  have h : x = 0 ∨ x = 1 ∨ x = 2 ∨ x = 3 ∨ x = 4 ∨ x = 5 ∨ x = 6 ∨ x = 7 ∨ x = 8 := by omega
  rcases h with rfl | rfl | rfl | rfl | rfl | rfl | rfl | rfl | rfl <;> omega
theorem pm_dig3 {p v f : Int} (hp : 0 ≤ p ∧ p ≤ 9) (hv : 0 ≤ v ∧ v ≤ 8) (hf : 0 ≤ f ∧ f ≤ 8) : 0 ≤ (((p * 100) + (v * 10)) + f) ∧ (((p * 100) + (v * 10)) + f) ≤ 999 ∧ (((p * 100) + (v * 10)) + f) % 10 ≤ 8 ∧ (((p * 100) + (v * 10)) + f) / 10 % 10 ≤ 8 := by
  have e1 : (((p * 100) + (v * 10)) + f) % 10 = f := by omega
  have e2 : (((p * 100) + (v * 10)) + f) / 10 = p * 10 + v := by omega
  rw [e1, e2]
  omega
theorem pm_fr.ff {ws : List Nat} {V V' : pm_M} (h : pm_fr ws V V') : pm_ff ws [] V V' := fun k i q _ => by rw [h k q]
/-- six cells from c on are as they were -/
def sq_keep (c : Nat) (V W : pm_M) : Prop := V c = W c ∧ V (c + 1) = W (c + 1) ∧ V (c + 2) = W (c + 2) ∧ V (c + 3) = W (c + 3) ∧ V (c + 4) = W (c + 4) ∧ V (c + 5) = W (c + 5)
