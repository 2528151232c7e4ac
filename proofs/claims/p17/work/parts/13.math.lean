/-! Math's own methods -/
theorem pm_leL {x y : Int} (hx : pm_RL x) (hy : pm_RL y) : Int64.ofInt x ≤ Int64.ofInt y ↔ x ≤ y := by rw [Int64.le_iff_toInt_le, pm_toIntL hx, pm_toIntL hy]
theorem pm_ltL {x y : Int} (hx : pm_RL x) (hy : pm_RL y) : Int64.ofInt x < Int64.ofInt y ↔ x < y := by rw [Int64.lt_iff_toInt_lt, pm_toIntL hx, pm_toIntL hy]
section PMA
variable {X : pm_X} {own : String} {cc : ByteArray} {nL d idx : Nat} {pc : Nat} {lv lv' : pm_L} {st stk : List pm_V} {n : Nat} {V : pm_M}
theorem pm_mmax (hC : pm_C X own cc nL d) {x y : Int} (i j k0 k1 : Nat) (hx : pm_R x) (hy : pm_R y) (hd1 : 1 ≤ d) (w1 : (decide (pm_look i = some (.methodLink own idx Lib.Math.max.name)) && goodWord (.methodLink own idx Lib.Math.max.name)) = true) (w2 : (decide (pm_look j = some (.static Lib.Math.max.name)) && goodWord (.static Lib.Math.max.name)) = true) (w3 : (decide (pm_look k0 = some (.initialized "java/lang/Math")) && goodWord (.initialized "java/lang/Math")) = true) (w4 : (decide (pm_look k1 = some (.code Lib.Math.max.name Lib.Math.max.code 2 (some .int))) && goodWord (.code Lib.Math.max.name Lib.Math.max.code 2 (some .int))) = true) (hst : pm_words st ≤ 8) (hd : decode cc pc = .ok (.invokestatic idx, 3)) (k : ∀ z : Int, x ≤ z ∧ y ≤ z ∧ (z = x ∨ z = y) → pm_J X (pc + 3) lv ((0, z) :: st) n V) : pm_J X pc lv ((0, y) :: (0, x) :: st) n V := by
  obtain ⟨p, l, e, R, s, m, args, below, meth, c, Q, G, nl, n0, n1⟩ := X
  intro d0 H locs ls h1 h2 h3 h4 h5 h6
  have hts := dr_words hC.2.2.2.2.2.1 d0
  have hroom := hC.2.2.2.2.2.2.2.2.2.1
  have hcel := hC.2.2.2.2.2.2.2.2.2.2.1 n h5 h6
  have h8 : ((pm_sts G st).map fun v => v.category).sum ≤ 8 := by
    have := pm_room8 (G := G) (m := m) (pc := pc) (ls := ls) (sv := []) hst
    have e9 : (F0 m pc ls []).monitorRoom = 0 := rfl
    omega
  have key : ∀ z : Int, Int32.ofInt z = (if Int32.ofInt x < Int32.ofInt y then Int32.ofInt y else Int32.ofInt x) → (x ≤ z ∧ y ≤ z ∧ (z = x ∨ z = y)) → W p l e R (s.setDrawn d0) m args below meth c H locs (n - n0) (pm_sl n - pm_sl n0) Q (F0 m (pc + 3) ls (.int (if Int32.ofInt x < Int32.ofInt y then Int32.ofInt y else Int32.ofInt x) :: pm_sts G st)) := fun z hz hq => by
    rw [← hz]
    exact k z hq d0 H locs ls h1 h2 h3 h4 h5 h6
  refine va_mmax (s := s.setDrawn d0) hC.1 hC.2.1 (hC.2.2.1.trans (hC.2.2.2.1.symm.trans h4.1.symm)) hC.2.2.2.2.1 (hts _ (pm_in i w1)) (hts _ (pm_in j w2)) (hts _ (pm_in k0 w3)) (hts _ (pm_in k1 w4)) (rest := pm_sts G st) (by omega) (by omega) (by omega) (by omega) hd ?_
  by_cases q : x < y
  · exact key y (by rw [if_pos ((pm_lt hx hy).mpr q)]) ⟨by omega, by omega, by omega⟩
  · exact key x (by rw [if_neg (fun h => q ((pm_lt hx hy).mp h))]) ⟨by omega, by omega, by omega⟩
theorem pm_mmin (hC : pm_C X own cc nL d) {x y : Int} (i j k0 k1 : Nat) (hx : pm_R x) (hy : pm_R y) (hd1 : 1 ≤ d) (w1 : (decide (pm_look i = some (.methodLink own idx Lib.Math.min.name)) && goodWord (.methodLink own idx Lib.Math.min.name)) = true) (w2 : (decide (pm_look j = some (.static Lib.Math.min.name)) && goodWord (.static Lib.Math.min.name)) = true) (w3 : (decide (pm_look k0 = some (.initialized "java/lang/Math")) && goodWord (.initialized "java/lang/Math")) = true) (w4 : (decide (pm_look k1 = some (.code Lib.Math.min.name Lib.Math.min.code 2 (some .int))) && goodWord (.code Lib.Math.min.name Lib.Math.min.code 2 (some .int))) = true) (hst : pm_words st ≤ 8) (hd : decode cc pc = .ok (.invokestatic idx, 3)) (k : ∀ z : Int, z ≤ x ∧ z ≤ y ∧ (z = x ∨ z = y) → pm_J X (pc + 3) lv ((0, z) :: st) n V) : pm_J X pc lv ((0, y) :: (0, x) :: st) n V := by
  obtain ⟨p, l, e, R, s, m, args, below, meth, c, Q, G, nl, n0, n1⟩ := X
  intro d0 H locs ls h1 h2 h3 h4 h5 h6
  have hts := dr_words hC.2.2.2.2.2.1 d0
  have hroom := hC.2.2.2.2.2.2.2.2.2.1
  have hcel := hC.2.2.2.2.2.2.2.2.2.2.1 n h5 h6
  have h8 : ((pm_sts G st).map fun v => v.category).sum ≤ 8 := by
    have := pm_room8 (G := G) (m := m) (pc := pc) (ls := ls) (sv := []) hst
    have e9 : (F0 m pc ls []).monitorRoom = 0 := rfl
    omega
  have key : ∀ z : Int, Int32.ofInt z = (if Int32.ofInt y < Int32.ofInt x then Int32.ofInt y else Int32.ofInt x) → (z ≤ x ∧ z ≤ y ∧ (z = x ∨ z = y)) → W p l e R (s.setDrawn d0) m args below meth c H locs (n - n0) (pm_sl n - pm_sl n0) Q (F0 m (pc + 3) ls (.int (if Int32.ofInt y < Int32.ofInt x then Int32.ofInt y else Int32.ofInt x) :: pm_sts G st)) := fun z hz hq => by
    rw [← hz]
    exact k z hq d0 H locs ls h1 h2 h3 h4 h5 h6
  refine va_mmin (s := s.setDrawn d0) hC.1 hC.2.1 (hC.2.2.1.trans (hC.2.2.2.1.symm.trans h4.1.symm)) hC.2.2.2.2.1 (hts _ (pm_in i w1)) (hts _ (pm_in j w2)) (hts _ (pm_in k0 w3)) (hts _ (pm_in k1 w4)) (rest := pm_sts G st) (by omega) (by omega) (by omega) (by omega) hd ?_
  by_cases q : y < x
  · exact key y (by rw [if_pos ((pm_lt hy hx).mpr q)]) ⟨by omega, by omega, by omega⟩
  · exact key x (by rw [if_neg (fun h => q ((pm_lt hy hx).mp h))]) ⟨by omega, by omega, by omega⟩
theorem pm_mmaxL (hC : pm_C X own cc nL d) {x y : Int} (i j k0 k1 : Nat) (hx : pm_RL x) (hy : pm_RL y) (hd1 : 1 ≤ d) (w1 : (decide (pm_look i = some (.methodLink own idx Lib.MathLoose.max_long.x)) && goodWord (.methodLink own idx Lib.MathLoose.max_long.x)) = true) (w2 : (decide (pm_look j = some (.static Lib.MathLoose.max_long.x)) && goodWord (.static Lib.MathLoose.max_long.x)) = true) (w3 : (decide (pm_look k0 = some (.initialized "java/lang/Math")) && goodWord (.initialized "java/lang/Math")) = true) (w4 : (decide (pm_look k1 = some (.code Lib.MathLoose.max_long.x Lib.MathLoose.max_long.code 4 (some .long))) && goodWord (.code Lib.MathLoose.max_long.x Lib.MathLoose.max_long.code 4 (some .long))) = true) (hst : pm_words st ≤ 8) (hd : decode cc pc = .ok (.invokestatic idx, 3)) (k : ∀ z : Int, x ≤ z ∧ y ≤ z ∧ (z = x ∨ z = y) → pm_J X (pc + 3) lv ((1, z) :: st) n V) : pm_J X pc lv ((1, y) :: (1, x) :: st) n V := by
  obtain ⟨p, l, e, R, s, m, args, below, meth, c, Q, G, nl, n0, n1⟩ := X
  intro d0 H locs ls h1 h2 h3 h4 h5 h6
  have hts := dr_words hC.2.2.2.2.2.1 d0
  have hroom := hC.2.2.2.2.2.2.2.2.2.1
  have hcel := hC.2.2.2.2.2.2.2.2.2.2.1 n h5 h6
  have h8 : ((pm_sts G st).map fun v => v.category).sum ≤ 8 := by
    have := pm_room8 (G := G) (m := m) (pc := pc) (ls := ls) (sv := []) hst
    have e9 : (F0 m pc ls []).monitorRoom = 0 := rfl
    omega
  have key : ∀ z : Int, Int64.ofInt z = (if Int64.ofInt y < Int64.ofInt x then Int64.ofInt x else Int64.ofInt y) → (x ≤ z ∧ y ≤ z ∧ (z = x ∨ z = y)) → W p l e R (s.setDrawn d0) m args below meth c H locs (n - n0) (pm_sl n - pm_sl n0) Q (F0 m (pc + 3) ls (.long (if Int64.ofInt y < Int64.ofInt x then Int64.ofInt x else Int64.ofInt y) :: pm_sts G st)) := fun z hz hq => by
    rw [← hz]
    exact k z hq d0 H locs ls h1 h2 h3 h4 h5 h6
  refine va_mmax_long (s := s.setDrawn d0) hC.1 hC.2.1 (hC.2.2.1.trans (hC.2.2.2.1.symm.trans h4.1.symm)) hC.2.2.2.2.1 (hts _ (pm_in i w1)) (hts _ (pm_in j w2)) (hts _ (pm_in k0 w3)) (hts _ (pm_in k1 w4)) (rest := pm_sts G st) (by omega) (by omega) (by omega) (by omega) hd ?_
  by_cases q : y < x
  · exact key x (by rw [if_pos ((pm_ltL hy hx).mpr q)]) ⟨by omega, by omega, by omega⟩
  · exact key y (by rw [if_neg (fun h => q ((pm_ltL hy hx).mp h))]) ⟨by omega, by omega, by omega⟩
theorem pm_mminL (hC : pm_C X own cc nL d) {x y : Int} (i j k0 k1 : Nat) (hx : pm_RL x) (hy : pm_RL y) (hd1 : 1 ≤ d) (w1 : (decide (pm_look i = some (.methodLink own idx Lib.MathLoose.min_long.x)) && goodWord (.methodLink own idx Lib.MathLoose.min_long.x)) = true) (w2 : (decide (pm_look j = some (.static Lib.MathLoose.min_long.x)) && goodWord (.static Lib.MathLoose.min_long.x)) = true) (w3 : (decide (pm_look k0 = some (.initialized "java/lang/Math")) && goodWord (.initialized "java/lang/Math")) = true) (w4 : (decide (pm_look k1 = some (.code Lib.MathLoose.min_long.x Lib.MathLoose.min_long.code 4 (some .long))) && goodWord (.code Lib.MathLoose.min_long.x Lib.MathLoose.min_long.code 4 (some .long))) = true) (hst : pm_words st ≤ 8) (hd : decode cc pc = .ok (.invokestatic idx, 3)) (k : ∀ z : Int, z ≤ x ∧ z ≤ y ∧ (z = x ∨ z = y) → pm_J X (pc + 3) lv ((1, z) :: st) n V) : pm_J X pc lv ((1, y) :: (1, x) :: st) n V := by
  obtain ⟨p, l, e, R, s, m, args, below, meth, c, Q, G, nl, n0, n1⟩ := X
  intro d0 H locs ls h1 h2 h3 h4 h5 h6
  have hts := dr_words hC.2.2.2.2.2.1 d0
  have hroom := hC.2.2.2.2.2.2.2.2.2.1
  have hcel := hC.2.2.2.2.2.2.2.2.2.2.1 n h5 h6
  have h8 : ((pm_sts G st).map fun v => v.category).sum ≤ 8 := by
    have := pm_room8 (G := G) (m := m) (pc := pc) (ls := ls) (sv := []) hst
    have e9 : (F0 m pc ls []).monitorRoom = 0 := rfl
    omega
  have key : ∀ z : Int, Int64.ofInt z = (if Int64.ofInt y < Int64.ofInt x then Int64.ofInt y else Int64.ofInt x) → (z ≤ x ∧ z ≤ y ∧ (z = x ∨ z = y)) → W p l e R (s.setDrawn d0) m args below meth c H locs (n - n0) (pm_sl n - pm_sl n0) Q (F0 m (pc + 3) ls (.long (if Int64.ofInt y < Int64.ofInt x then Int64.ofInt y else Int64.ofInt x) :: pm_sts G st)) := fun z hz hq => by
    rw [← hz]
    exact k z hq d0 H locs ls h1 h2 h3 h4 h5 h6
  refine va_mmin_long (s := s.setDrawn d0) hC.1 hC.2.1 (hC.2.2.1.trans (hC.2.2.2.1.symm.trans h4.1.symm)) hC.2.2.2.2.1 (hts _ (pm_in i w1)) (hts _ (pm_in j w2)) (hts _ (pm_in k0 w3)) (hts _ (pm_in k1 w4)) (rest := pm_sts G st) (by omega) (by omega) (by omega) (by omega) hd ?_
  by_cases q : y < x
  · exact key y (by rw [if_pos ((pm_ltL hy hx).mpr q)]) ⟨by omega, by omega, by omega⟩
  · exact key x (by rw [if_neg (fun h => q ((pm_ltL hy hx).mp h))]) ⟨by omega, by omega, by omega⟩
theorem pm_mabs (hC : pm_C X own cc nL d) {x : Int} (i j k0 k1 : Nat) (hx : pm_R x) (hd1 : 1 ≤ d) (w1 : (decide (pm_look i = some (.methodLink own idx Lib.Math.abs.name)) && goodWord (.methodLink own idx Lib.Math.abs.name)) = true) (w2 : (decide (pm_look j = some (.static Lib.Math.abs.name)) && goodWord (.static Lib.Math.abs.name)) = true) (w3 : (decide (pm_look k0 = some (.initialized "java/lang/Math")) && goodWord (.initialized "java/lang/Math")) = true) (w4 : (decide (pm_look k1 = some (.code Lib.Math.abs.name Lib.Math.abs.code 1 (some .int))) && goodWord (.code Lib.Math.abs.name Lib.Math.abs.code 1 (some .int))) = true) (hst : pm_words st ≤ 8) (hd : decode cc pc = .ok (.invokestatic idx, 3)) (k : ∀ z : Int, pm_R z ∧ (x = -2147483648 ∨ (0 ≤ z ∧ (z = x ∨ z = -x))) → pm_J X (pc + 3) lv ((0, z) :: st) n V) : pm_J X pc lv ((0, x) :: st) n V := by
  obtain ⟨p, l, e, R, s, m, args, below, meth, c, Q, G, nl, n0, n1⟩ := X
  intro d0 H locs ls h1 h2 h3 h4 h5 h6
  have hts := dr_words hC.2.2.2.2.2.1 d0
  have hroom := hC.2.2.2.2.2.2.2.2.2.1
  have hcel := hC.2.2.2.2.2.2.2.2.2.2.1 n h5 h6
  have h8 : ((pm_sts G st).map fun v => v.category).sum ≤ 8 := by
    have := pm_room8 (G := G) (m := m) (pc := pc) (ls := ls) (sv := []) hst
    have e9 : (F0 m pc ls []).monitorRoom = 0 := rfl
    omega
  have key : ∀ z : Int, Int32.ofInt z = (if 0 ≤ Int32.ofInt x then Int32.ofInt x else 0 - Int32.ofInt x) → (pm_R z ∧ (x = -2147483648 ∨ (0 ≤ z ∧ (z = x ∨ z = -x)))) → W p l e R (s.setDrawn d0) m args below meth c H locs (n - n0) (pm_sl n - pm_sl n0) Q (F0 m (pc + 3) ls (.int (if 0 ≤ Int32.ofInt x then Int32.ofInt x else 0 - Int32.ofInt x) :: pm_sts G st)) := fun z hz hq => by
    rw [← hz]
    exact k z hq d0 H locs ls h1 h2 h3 h4 h5 h6
  refine va_mabs (s := s.setDrawn d0) hC.1 hC.2.1 (hC.2.2.1.trans (hC.2.2.2.1.symm.trans h4.1.symm)) hC.2.2.2.2.1 (hts _ (pm_in i w1)) (hts _ (pm_in j w2)) (hts _ (pm_in k0 w3)) (hts _ (pm_in k1 w4)) (rest := pm_sts G st) (by omega) (by omega) (by omega) (by omega) hd ?_
  by_cases q : 0 ≤ x
  · exact key x (by rw [if_pos (by rw [← pm_0, pm_le pm_R0 hx]; exact q)]) ⟨hx, by omega⟩
  · have e1 : Int32.ofInt (-x) = 0 - Int32.ofInt x := by rw [← pm_0, ← Int32.ofInt_sub, Int.zero_sub]
    have e2 : ¬ 0 ≤ Int32.ofInt x := by rw [← pm_0, pm_le pm_R0 hx]; exact q
    by_cases q2 : x = -2147483648
    · exact key (-2147483648) (by rw [if_neg e2, ← e1, q2]; rfl) ⟨⟨by decide, by decide⟩, Or.inl q2⟩
    · exact key (-x) (by rw [if_neg e2, e1]) ⟨⟨by have := hx.2; omega, by have := hx.1; omega⟩, by omega⟩
theorem pm_mabsL (hC : pm_C X own cc nL d) {x : Int} (i j k0 k1 : Nat) (hx : pm_RL x) (hd1 : 1 ≤ d) (w1 : (decide (pm_look i = some (.methodLink own idx Lib.MathLoose.abs_long.x)) && goodWord (.methodLink own idx Lib.MathLoose.abs_long.x)) = true) (w2 : (decide (pm_look j = some (.static Lib.MathLoose.abs_long.x)) && goodWord (.static Lib.MathLoose.abs_long.x)) = true) (w3 : (decide (pm_look k0 = some (.initialized "java/lang/Math")) && goodWord (.initialized "java/lang/Math")) = true) (w4 : (decide (pm_look k1 = some (.code Lib.MathLoose.abs_long.x Lib.MathLoose.abs_long.code 2 (some .long))) && goodWord (.code Lib.MathLoose.abs_long.x Lib.MathLoose.abs_long.code 2 (some .long))) = true) (hst : pm_words st ≤ 8) (hd : decode cc pc = .ok (.invokestatic idx, 3)) (k : ∀ z : Int, pm_RL z ∧ (x = -9223372036854775808 ∨ (0 ≤ z ∧ (z = x ∨ z = -x))) → pm_J X (pc + 3) lv ((1, z) :: st) n V) : pm_J X pc lv ((1, x) :: st) n V := by
  obtain ⟨p, l, e, R, s, m, args, below, meth, c, Q, G, nl, n0, n1⟩ := X
  intro d0 H locs ls h1 h2 h3 h4 h5 h6
  have hts := dr_words hC.2.2.2.2.2.1 d0
  have hroom := hC.2.2.2.2.2.2.2.2.2.1
  have hcel := hC.2.2.2.2.2.2.2.2.2.2.1 n h5 h6
  have h8 : ((pm_sts G st).map fun v => v.category).sum ≤ 8 := by
    have := pm_room8 (G := G) (m := m) (pc := pc) (ls := ls) (sv := []) hst
    have e9 : (F0 m pc ls []).monitorRoom = 0 := rfl
    omega
  have key : ∀ z : Int, Int64.ofInt z = (if 0 < Int64.ofInt x then Int64.ofInt x else -Int64.ofInt x) → (pm_RL z ∧ (x = -9223372036854775808 ∨ (0 ≤ z ∧ (z = x ∨ z = -x)))) → W p l e R (s.setDrawn d0) m args below meth c H locs (n - n0) (pm_sl n - pm_sl n0) Q (F0 m (pc + 3) ls (.long (if 0 < Int64.ofInt x then Int64.ofInt x else -Int64.ofInt x) :: pm_sts G st)) := fun z hz hq => by
    rw [← hz]
    exact k z hq d0 H locs ls h1 h2 h3 h4 h5 h6
  refine va_mabs_long (s := s.setDrawn d0) hC.1 hC.2.1 (hC.2.2.1.trans (hC.2.2.2.1.symm.trans h4.1.symm)) hC.2.2.2.2.1 (hts _ (pm_in i w1)) (hts _ (pm_in j w2)) (hts _ (pm_in k0 w3)) (hts _ (pm_in k1 w4)) (rest := pm_sts G st) (by omega) (by omega) (by omega) (by omega) hd ?_
  have hz : pm_RL 0 := ⟨by decide, by decide⟩
  have e0 : Int64.ofInt 0 = 0 := rfl
  by_cases q : 0 < x
  · exact key x (by rw [if_pos (by rw [← e0, pm_ltL hz hx]; exact q)]) ⟨hx, by omega⟩
  · have e1 : Int64.ofInt (-x) = -Int64.ofInt x := Int64.ofInt_neg x
    have e2 : ¬ 0 < Int64.ofInt x := by rw [← e0, pm_ltL hz hx]; exact q
    by_cases q2 : x = -9223372036854775808
    · exact key (-9223372036854775808) (by rw [if_neg e2, ← e1, q2]; rfl) ⟨⟨by decide, by decide⟩, Or.inl q2⟩
    · exact key (-x) (by rw [if_neg e2, e1]) ⟨⟨by have := hx.2; omega, by have := hx.1; omega⟩, by omega⟩
end PMA
